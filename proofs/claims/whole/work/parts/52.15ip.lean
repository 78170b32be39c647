/-! a call on both: the same answer -/
def INV (B : Nat) (s : cS) (a : rA) : Prop := RR s a ∧ JV B a ∧ CIq s
def DU (WQ WM : (Option Value → xH → Prop) → xH → Prop) (B : Nat) (s : cS) (a : rA) : Prop := ∃ (s' : cS) (a' : rA) (n : Int32), INV (B + 8) s' a' ∧ (∀ (Q : Option Value → xH → Prop) (g : xH), Q (some (.int n)) (cl 1 g s') → WQ Q (cl 1 g s)) ∧ (∀ (Q : Option Value → xH → Prop) (g : xH), Q (some (.int n)) (rl 1125 g (tt a')) → WM Q (rl 1125 g (tt a)))
section DUO
variable {B : Nat} {s : cS} {a : rA} {v x y z : Int32}
theorem INV_g0 (h : INV B s a) : INV (B + 8) s (aG a 0 0) := ⟨RR_g0 h.1, JV_mono (by omega) (JV_g0 h.2.1), h.2.2⟩
theorem hL_RR (h : RR s a) : s.2.2.1 1 = nI (ln a) := by
  rw [h.2.2.1]
  exact h.2.2.2.2.1.1
theorem duo_read (hB : B < 100000) (h : INV B s a) : DU (fun Q => w_Q_read Q 1 v x) (fun Q => w_M_read Q 1125 v x) B s a := by
  obtain ⟨hr, hj, hc⟩ := h
  have hl := hr.2.2.2.2.1
  by_cases hx : 0 ≤ x ∧ x ≤ 3
  · obtain ⟨q, hq, ex⟩ := i3 hx
    by_cases hv : 0 ≤ v ∧ v ≤ 7
    · obtain ⟨p, hp, ev⟩ := i7 hv
      rw [ev, ex]
      obtain ⟨e1, e2, e3⟩ := RR_read (v := 0) (by omega) hp hq hr hj
      refine ⟨(K_read s p q).2, (A_read a p q 0).2, (K_read s p q).1, ⟨e2, JV_mono (by omega) e3, ?_⟩, fun Q g hQ => (y_read hp hq (CW_RR hr) (hr.1 p hp).2).mpr hQ, fun Q g hQ => (n_read (x := 0) hp hq hl (hj.1.2.1 p hp).1.1).mpr (by rw [← e1]; exact hQ)⟩
      unfold K_read
      split
      · exact hc
      · dsimp only
        obtain ⟨t1, t2, t3⟩ := top_f (n := s.1 p) (tk := s.2.2.1 0 + 1) (kd := 1) (x := nI q)
        exact CI_CP (s := K_op s p 1 q) (CI_op hc (show q < 16 by omega) t3 (fun _ => hq)) CP_go
    · rw [ex]
      exact ⟨s, aG a 0 0, -1, INV_g0 ⟨hr, hj, hc⟩, fun Q g hQ => t_readm hq hv hQ, fun Q g hQ => (nb_read (x := nI q) (y := 0) (z := 0) hv).mpr hQ⟩
  · by_cases hv : 0 ≤ v ∧ v ≤ 7
    · obtain ⟨p, hp, ev⟩ := i7 hv
      rw [ev]
      exact ⟨s, aG a 0 0, -1, INV_g0 ⟨hr, hj, hc⟩, fun Q g hQ => t_readn hx hQ, fun Q g hQ => (nc_read (x := 0) hp hx).mpr hQ⟩
    · exact ⟨s, aG a 0 0, -1, INV_g0 ⟨hr, hj, hc⟩, fun Q g hQ => t_readn hx hQ, fun Q g hQ => (nb_read (y := 0) (z := 0) hv).mpr hQ⟩
theorem duo_write (hB : B < 100000) (h : INV B s a) : DU (fun Q => w_Q_write Q 1 v x y) (fun Q => w_M_write Q 1125 v x y) B s a := by
  obtain ⟨hr, hj, hc⟩ := h
  have hl := hr.2.2.2.2.1
  by_cases hx : 0 ≤ x ∧ x ≤ 3
  · obtain ⟨q, hq, ex⟩ := i3 hx
    by_cases hv : 0 ≤ v ∧ v ≤ 7
    · obtain ⟨p, hp, ev⟩ := i7 hv
      rw [ev, ex]
      obtain ⟨e1, e2, e3⟩ := RR_write (v := y) (by omega) hp hq hr hj
      refine ⟨(K_write s p q y).2, (A_write a p q y).2, (K_write s p q y).1, ⟨e2, JV_mono (by omega) e3, ?_⟩, fun Q g hQ => t_write hp hq (CW_RR hr) (hr.1 p hp).2 hQ, fun Q g hQ => (n_write hp hq hl (hj.1.2.1 p hp).1.1).mpr (by rw [← e1]; exact hQ)⟩
      unfold K_write
      split
      · exact hc
      · dsimp only
        rw [opv_e]
        obtain ⟨t1, t2, t3⟩ := top_f (n := s.1 p) (tk := s.2.2.1 0 + 1) (kd := 2) (x := nI q)
        exact CI_CP (CI_op hc (show q < 16 by omega) ((un_nj (by decide)).trans t3) (fun _ => hq)) CP_go
    · rw [ex]
      exact ⟨s, aG a 0 0, -1, INV_g0 ⟨hr, hj, hc⟩, fun Q g hQ => t_writem hq hv hQ, fun Q g hQ => (nb_write (x := nI q) (y := y) (z := 0) hv).mpr hQ⟩
  · by_cases hv : 0 ≤ v ∧ v ≤ 7
    · obtain ⟨p, hp, ev⟩ := i7 hv
      rw [ev]
      exact ⟨s, aG a 0 0, -1, INV_g0 ⟨hr, hj, hc⟩, fun Q g hQ => t_writen hx hQ, fun Q g hQ => (nc_write hp hx).mpr hQ⟩
    · exact ⟨s, aG a 0 0, -1, INV_g0 ⟨hr, hj, hc⟩, fun Q g hQ => t_writen hx hQ, fun Q g hQ => (nb_write (z := 0) hv).mpr hQ⟩
theorem duo_again (hB : B < 100000) (h : INV B s a) : DU (fun Q => w_Q_again Q 1 v) (fun Q => w_M_again Q 1125 v) B s a := by
  obtain ⟨hr, hj, hc⟩ := h
  have hl := hr.2.2.2.2.1
  by_cases hv : 0 ≤ v ∧ v ≤ 7
  · obtain ⟨p, hp, ev⟩ := i7 hv
    rw [ev]
    obtain ⟨e1, e2, e3⟩ := RR_again (by omega) hp hr hj
    obtain ⟨q, hq, hk⟩ := CI_KI hc hr hp
    exact ⟨(K_again s p).2, (A_again a p).2, (K_again s p).1, ⟨e2, JV_mono (by omega) e3, CI_CP hc CP_again⟩, fun Q g hQ => (y_again hp hq hk).mpr hQ, fun Q g hQ => (n_again hp hl (hj.1.2.1 p hp).1.1).mpr (by rw [← e1]; exact hQ)⟩
  · exact ⟨s, aG a 0 0, -1, INV_g0 ⟨hr, hj, hc⟩, fun Q g hQ => (y_againm hv).mpr hQ, fun Q g hQ => (nb_again hv).mpr hQ⟩
theorem duo_gossip (h : INV B s a) : DU (fun Q => w_Q_gossip Q 1 v x) (fun Q => w_M_gossip Q 1125 v x) B s a := by
  obtain ⟨hr, hj, hc⟩ := h
  have hl := hr.2.2.2.2.1
  by_cases hv : 0 ≤ v ∧ v ≤ 7
  · obtain ⟨p, hp, ev⟩ := i7 hv
    rw [ev]
    by_cases hx : 0 ≤ x ∧ x ≤ 7
    · obtain ⟨q, hq, ex⟩ := i7 hx
      rw [ex]
      obtain ⟨e1, e2⟩ := RR_gossip hp hq hr
      exact ⟨(K_gossip s p q).2, (A_gossip a p (nI q)).2, (K_gossip s p q).1, ⟨e2, JV_mono (by omega) (JV_gossip hp hj), CI_CP hc CP_gossip⟩, fun Q g hQ => (y_gossip hp hq (CW_RR hr)).mpr hQ, fun Q g hQ => (n_gossip hp hl).mpr (by rw [← e1]; exact hQ)⟩
    · refine ⟨s, aG a 0 0, 0, INV_g0 ⟨hr, hj, hc⟩, fun Q g hQ => (y_gossipn hp hx).mpr hQ, fun Q g hQ => (n_gossip hp hl).mpr ?_⟩
      unfold A_gossip
      rw [if_neg (fun w => hx w.1)]
      exact hQ
  · exact ⟨s, aG a 0 0, 0, INV_g0 ⟨hr, hj, hc⟩, fun Q g hQ => (y_gossipm hv).mpr hQ, fun Q g hQ => (nb_gossip (y := 0) (z := 0) hv).mpr hQ⟩
theorem duo_join (h : INV B s a) : DU (fun Q => w_Q_join Q 1 v x) (fun Q => w_M_join Q 1125 v x) B s a := by
  obtain ⟨hr, hj, hc⟩ := h
  have hl := hr.2.2.2.2.1
  by_cases hv : 0 ≤ v ∧ v ≤ 7
  · obtain ⟨p, hp, ev⟩ := i7 hv
    rw [ev]
    by_cases hx : 0 ≤ x ∧ x ≤ 7
    · obtain ⟨q, hq, ex⟩ := i7 hx
      rw [ex]
      obtain ⟨e1, e2⟩ := RR_join hp hq hr
      exact ⟨(K_join s p q).2, (A_join a p (nI q)).2, (K_join s p q).1, ⟨e2, JV_mono (by omega) (JV_join hp hj), CI_CP hc CP_join⟩, fun Q g hQ => (y_join hp hq (CW_RR hr)).mpr hQ, fun Q g hQ => (n_join hp hl).mpr (by rw [← e1]; exact hQ)⟩
    · refine ⟨s, aG a 0 0, 0, INV_g0 ⟨hr, hj, hc⟩, fun Q g hQ => (y_joinn hp hx).mpr hQ, fun Q g hQ => (n_join hp hl).mpr ?_⟩
      unfold A_join
      rw [if_neg (fun w => hx w.1)]
      exact hQ
  · exact ⟨s, aG a 0 0, 0, INV_g0 ⟨hr, hj, hc⟩, fun Q g hQ => (y_joinm hv).mpr hQ, fun Q g hQ => (nb_join (y := 0) (z := 0) hv).mpr hQ⟩
theorem duo_lose (h : INV B s a) : DU (fun Q => w_Q_lose Q 1 v) (fun Q => w_M_lose Q 1125 v) B s a := by
  obtain ⟨hr, hj, hc⟩ := h
  have hl := hr.2.2.2.2.1
  have hL := hL_RR hr
  by_cases hv : 0 ≤ v ∧ v ≤ nI (ln a) - 1
  · obtain ⟨i, hi, ev⟩ := iL hl.2 hv
    rw [ev]
    exact ⟨K_out s i (ln a), A_lose a i, 1, ⟨RR_lose hr hi, JV_mono (by omega) (JV_lose hj hi), CI_CP hc CP_out⟩, fun Q g hQ => (y_lose (fun x hx => (hr.2.2.2.2.2.1 x hx).1) hL hl.2 hi hr.2.2.2.2.2.2.2.1).mpr hQ, fun Q g hQ => (n_lose hl hi).mpr hQ⟩
  · exact ⟨s, aG a 0 0, 0, INV_g0 ⟨hr, hj, hc⟩, fun Q g hQ => (y_losen hL hl.2 hv).mpr hQ, fun Q g hQ => (nc_lose hl hv).mpr hQ⟩
theorem duo_twice (h : INV B s a) : DU (fun Q => w_Q_twice Q 1 v) (fun Q => w_M_twice Q 1125 v) B s a := by
  obtain ⟨hr, hj, hc⟩ := h
  have hl := hr.2.2.2.2.1
  have hL := hL_RR hr
  by_cases hv : 0 ≤ v ∧ v ≤ nI (ln a) - 1
  · obtain ⟨i, hi, ev⟩ := iL hl.2 hv
    rw [ev]
    obtain ⟨e1, e2⟩ := RR_twice hr hi
    exact ⟨(K_twice s i).2, (A_twice a i).2, (K_twice s i).1, ⟨e2, JV_mono (by omega) (JV_twice hj hi), CI_CP hc CP_twice⟩, fun Q g hQ => (y_twice (fun x hx => (hr.2.2.2.2.2.1 x hx).1) hr.2.2.2.2.2.2.1 hL hl.2 hi).mpr hQ, fun Q g hQ => (n_twice hl hi).mpr (by rw [← e1]; exact hQ)⟩
  · exact ⟨s, aG a 0 0, 0, INV_g0 ⟨hr, hj, hc⟩, fun Q g hQ => (y_twicen hL hl.2 hv).mpr hQ, fun Q g hQ => (nc_twice hl hv).mpr hQ⟩
theorem duo_crash (h : INV B s a) : DU (fun Q => w_Q_crash Q 1 v) (fun Q => w_M_crash Q 1125 v) B s a := by
  obtain ⟨hr, hj, hc⟩ := h
  by_cases hv : 0 ≤ v ∧ v ≤ 7
  · obtain ⟨p, hp, ev⟩ := i7 hv
    rw [ev]
    obtain ⟨e1, e2⟩ := RR_crash hp hr
    exact ⟨(K_crash s p).2, (A_crash a p).2, (K_crash s p).1, ⟨e2, JV_mono (by omega) (JV_crash hp hj), CI_CP hc CP_crash⟩, fun Q g hQ => (y_crash hp).mpr hQ, fun Q g hQ => (n_crash hp).mpr (by rw [← e1]; exact hQ)⟩
  · exact ⟨s, aG a 0 0, 0, INV_g0 ⟨hr, hj, hc⟩, fun Q g hQ => t_crashm hv hQ, fun Q g hQ => (nb_crash hv).mpr hQ⟩
theorem duo_restart (hB : B < 100000) (h : INV B s a) : DU (fun Q => w_Q_restart Q 1 v) (fun Q => w_M_restart Q 1125 v) B s a := by
  obtain ⟨hr, hj, hc⟩ := h
  by_cases hv : 0 ≤ v ∧ v ≤ 7
  · obtain ⟨p, hp, ev⟩ := i7 hv
    rw [ev]
    obtain ⟨e1, e2⟩ := RR_restart hp hr (hj.1.2.1 p hp).1.2.2.2.2.2.2.2.2.2.1
    exact ⟨(K_restart s p).2, (A_restart a p).2, (K_restart s p).1, ⟨e2, JV_mono (by omega) (JV_restart (by omega) hp hj), CI_CP hc CP_restart⟩, fun Q g hQ => (y_restart hp).mpr hQ, fun Q g hQ => (n_restart hp).mpr (by rw [← e1]; exact hQ)⟩
  · exact ⟨s, aG a 0 0, 0, INV_g0 ⟨hr, hj, hc⟩, fun Q g hQ => t_restartm hv hQ, fun Q g hQ => (nb_restart hv).mpr hQ⟩
theorem duo_arm (hB : B < 100000) (h : INV B s a) : DU (fun Q => w_Q_arm Q 1 v x) (fun Q => w_M_arm Q 1125 v x) B s a := by
  obtain ⟨hr, hj, hc⟩ := h
  by_cases hv : 0 ≤ v ∧ v ≤ 7
  · obtain ⟨p, hp, ev⟩ := i7 hv
    rw [ev]
    obtain ⟨e1, e2⟩ := RR_arm (x := x) hp hr
    exact ⟨(K_arm s p x).2, (A_arm a p x).2, (K_arm s p x).1, ⟨e2, JV_mono (by omega) (JV_arm (by omega) hp hj), CI_CP hc CP_arm⟩, fun Q g hQ => (y_arm hp).mpr hQ, fun Q g hQ => (n_arm hp).mpr (by rw [← e1]; exact hQ)⟩
  · exact ⟨s, aG a 0 0, 0, INV_g0 ⟨hr, hj, hc⟩, fun Q g hQ => t_armm hv hQ, fun Q g hQ => (nb_arm (y := 0) (z := 0) hv).mpr hQ⟩
theorem duo_node (h : INV B s a) : DU (fun Q => w_Q_node Q 1 v x) (fun Q => w_M_node Q 1125 v x) B s a := by
  obtain ⟨hr, hj, hc⟩ := h
  by_cases hv : 0 ≤ v ∧ v ≤ 7
  · obtain ⟨p, hp, ev⟩ := i7 hv
    rw [ev]
    exact ⟨s, aG a 0 0, _, INV_g0 ⟨hr, hj, hc⟩, fun Q g hQ => t_node hp hr hQ, fun Q g hQ => (n_node hp).mpr hQ⟩
  · exact ⟨s, aG a 0 0, -1, INV_g0 ⟨hr, hj, hc⟩, fun Q g hQ => t_nodem hv hQ, fun Q g hQ => (nb_node (y := 0) (z := 0) hv).mpr hQ⟩
theorem duo_cell (h : INV B s a) : DU (fun Q => w_Q_cell Q 1 v x y) (fun Q => w_M_cell Q 1125 v x y) B s a := by
  obtain ⟨hr, hj, hc⟩ := h
  by_cases hv : 0 ≤ v ∧ v ≤ 7
  · obtain ⟨p, hp, ev⟩ := i7 hv
    rw [ev]
    by_cases hx : 0 ≤ x ∧ x ≤ 3
    · obtain ⟨q, hq, ex⟩ := i3 hx
      rw [ex]
      exact ⟨s, aG a 0 0, _, INV_g0 ⟨hr, hj, hc⟩, fun Q g hQ => t_cell hp hq hr hQ, fun Q g hQ => (n_cell hp hq).mpr hQ⟩
    · exact ⟨s, aG a 0 0, -1, INV_g0 ⟨hr, hj, hc⟩, fun Q g hQ => t_celln hp hx hQ, fun Q g hQ => (nc_cell hp hx).mpr hQ⟩
  · exact ⟨s, aG a 0 0, -1, INV_g0 ⟨hr, hj, hc⟩, fun Q g hQ => t_cellm hv hQ, fun Q g hQ => (nb_cell (z := 0) hv).mpr hQ⟩
theorem duo_map (h : INV B s a) : DU (fun Q => w_Q_map Q 1 v x y) (fun Q => w_M_map Q 1125 v x y) B s a := by
  obtain ⟨hr, hj, hc⟩ := h
  by_cases hv : 0 ≤ v ∧ v ≤ 7
  · obtain ⟨p, hp, ev⟩ := i7 hv
    rw [ev]
    by_cases hx : 0 ≤ x ∧ x ≤ 15
    · obtain ⟨q, hq, ex⟩ := i15 hx
      rw [ex]
      exact ⟨s, aG a 0 0, _, INV_g0 ⟨hr, hj, hc⟩, fun Q g hQ => t_map hp hq hr hQ, fun Q g hQ => (n_map hp hq).mpr hQ⟩
    · exact ⟨s, aG a 0 0, -1, INV_g0 ⟨hr, hj, hc⟩, fun Q g hQ => t_mapn hp hx hQ, fun Q g hQ => (nc_map hp hx).mpr hQ⟩
  · exact ⟨s, aG a 0 0, -1, INV_g0 ⟨hr, hj, hc⟩, fun Q g hQ => t_mapm hv hQ, fun Q g hQ => (nb_map (z := 0) hv).mpr hQ⟩
theorem duo_task (h : INV B s a) : DU (fun Q => w_Q_task Q 1 v x) (fun Q => w_M_task Q 1125 v x) B s a := by
  obtain ⟨hr, hj, hc⟩ := h
  by_cases hv : 0 ≤ v ∧ v ≤ 7
  · obtain ⟨p, hp, ev⟩ := i7 hv
    rw [ev]
    exact ⟨s, aG a 0 0, _, INV_g0 ⟨hr, hj, hc⟩, fun Q g hQ => t_task hp hr hj hQ, fun Q g hQ => (n_task hp (hj.1.2.1 p hp).1.1).mpr hQ⟩
  · exact ⟨s, aG a 0 0, -1, INV_g0 ⟨hr, hj, hc⟩, fun Q g hQ => t_taskm hv hQ, fun Q g hQ => (nb_task (y := 0) (z := 0) hv).mpr hQ⟩
theorem duo_message (h : INV B s a) : DU (fun Q => w_Q_message Q 1 v x) (fun Q => w_M_message Q 1125 v x) B s a := by
  obtain ⟨hr, hj, hc⟩ := h
  have hl := hr.2.2.2.2.1
  have hL := hL_RR hr
  by_cases hv : 0 ≤ v ∧ v ≤ nI (ln a) - 1
  · obtain ⟨i, hi, ev⟩ := iL hl.2 hv
    rw [ev]
    exact ⟨s, aG a 0 0, _, INV_g0 ⟨hr, hj, hc⟩, fun Q g hQ => t_message hr hj hi hQ, fun Q g hQ => (n_message hl hi).mpr hQ⟩
  · exact ⟨s, aG a 0 0, -1, INV_g0 ⟨hr, hj, hc⟩, fun Q g hQ => t_messagen hL hl.2 hv hQ, fun Q g hQ => (nc_message hl hv).mpr hQ⟩
theorem duo_count (h : INV B s a) : DU (fun Q => w_Q_count Q 1 v) (fun Q => w_M_count Q 1125 v) B s a := by
  obtain ⟨hr, hj, hc⟩ := h
  exact ⟨s, aG a 0 0, _, INV_g0 ⟨hr, hj, hc⟩, fun Q g hQ => t_count hr hQ, fun Q g hQ => n_count.mpr hQ⟩
theorem duo_deliver (hB : B < 100000) (h : INV B s a) : DU (fun Q => w_Q_deliver Q 1 v) (fun Q => w_M_deliver Q 1125 v) B s a := by
  obtain ⟨hr, hj, hc⟩ := h
  have hl := hr.2.2.2.2.1
  have hL := hL_RR hr
  by_cases hv : 0 ≤ v ∧ v ≤ nI (ln a) - 1
  · obtain ⟨i, hi, ev⟩ := iL hl.2 hv
    rw [ev]
    obtain ⟨⟨kd, ⟨f, p, hf, hp, hft, ef, ep⟩, hwm, hs, _⟩, _⟩ := hj.1.2.2.1 i hi
    have hrm := hr.2.2.2.2.2.2.2.2 i hi
    obtain ⟨e1, e2, e3⟩ := RR_deliver (by omega) hp hr hj hi ep
    obtain ⟨r1, _⟩ := RR_now hr hi
    obtain ⟨r, hr16, hk⟩ := CI_KI (CI_CP hc (CP_out (x := i) (L := ln a))) r1 hp
    refine ⟨_, _, _, ⟨e2, JV_mono (by omega) e3, CI_CP hc (CP_trans CP_out CP_del)⟩, fun Q g hQ => t_del (fun x hx => (hr.2.2.2.2.2.1 x hx).1) hL hl.2 hi hr.2.2.2.2.2.2.2.1 hp ((hrm.1 2 (by decide)).trans ep) hr16 hk (fun y hy => (r1.2.2.2.2.2.1 y hy).2) hwm.2.1 ((hrm.1 5 (by decide)).trans hwm.1) (by rw [hrm.1 0 (by decide)]; exact kd) hQ, fun Q g hQ => ?_⟩
    obtain ⟨iv1, lq1⟩ := IV_now hj.1 hi
    have afm := AF_merges (a := A_now a i) (p := p)
    have hw3 : ∀ k, k < 16 → S3 ((A_now a i).2.2.1 (9 + 2 * k)) := lq1.1.2.2.2.1
    have ivm := IV_merges (by omega) hp iv1 hw3
    have to1 : (A_now a i).2.2.1 2 = nI p := by
      show cpW a.2.2.1 (a.2.1 i) 53 2 = nI p
      rw [cpW_lt (by decide), ep]
    have lq2 : LQ (B + 3) (A_merges (A_now a i) p).1 (A_now a i).2.2.1 := by
      rcases ivm.2.2.2 with w | w
      · exfalso
        have kd := lq1.1.1
        unfold KD at kd
        rw [w] at kd
        exact absurd kd (by decide)
      · exact w
    refine (n_deliver hp hl hi ep (hj.1.2.1 p hp).1.1 (by rw [afm.1]; exact lq1.1.2.2.1) ?_ (by rw [afm.1]; exact lq1.1.1)).mpr (by rw [← e1]; exact hQ)
    rw [afm.1]
    intro hcn h2
    have hn := (ivm.2.1 p hp).1
    obtain ⟨c16, c3, c4, _⟩ := cnt_ne hcn
    have n16 : ¬ (A_merges (A_now a i) p).1 p 16 0 = 0 := fun w => c16 (by rw [w]; exact Int32.le_refl _)
    have hu : (A_merges (A_now a i) p).1 p 1 0 = 1 := by
      by_cases hu : (A_merges (A_now a i) p).1 p 1 0 = 1
      · exact hu
      · exact absurd (hn.2.2.2.2.2.2.2.2.1 hu).1 n16
    obtain ⟨_, _, z3⟩ := lq2.2.2 p hp h2 to1
    obtain ⟨_, y2⟩ := z3 c3 hu
    exact hn.1.2.2.1 (y2 c4 n16).1
  · exact ⟨s, aG a 0 0, -1, INV_g0 ⟨hr, hj, hc⟩, fun Q g hQ => t_deln hL hl.2 hv hQ, fun Q g hQ => (nc_deliver hl hv).mpr hQ⟩
end DUO
