/-! crash, arm, restart, gossip, join: class and reference -/
theorem fall_00 {n : nv} : C_fall n 0 0 = n 0 0 := by
  unfold C_fall
  simp (disch := decide) only [un_nk, un_nj]
theorem RR_crash {s : cS} {a : rA} {p : Nat} (hp : p < 8) (hr : RR s a) : (K_crash s p).1 = (A_crash a p).1 ∧ RR (K_crash s p).2 (A_crash a p).2 := by
  obtain ⟨hn, hid⟩ := hr.1 p hp
  unfold K_crash A_crash
  rw [hn.1.1]
  by_cases h : a.1 p 1 0 = 1
  · rw [if_pos h, if_pos h]
    exact ⟨rfl, RR_N (a := aG a 0 0) (RR_g0 hr) (RN_fall hn) fall_00⟩
  · rw [if_neg h, if_neg h]
    exact ⟨rfl, RR_g0 hr⟩
theorem RR_arm {s : cS} {a : rA} {p : Nat} {x : Int32} (hp : p < 8) (hr : RR s a) : (K_arm s p x).1 = (A_arm a p x).1 ∧ RR (K_arm s p x).2 (A_arm a p x).2 := by
  obtain ⟨hn, hid⟩ := hr.1 p hp
  unfold K_arm A_arm
  rw [hn.1.1]
  by_cases h : a.1 p 1 0 = 1 ∧ 0 ≤ x ∧ x ≤ 100
  · rw [if_pos h, if_pos h]
    exact ⟨rfl, RR_N (a := aG a 0 0) (RR_g0 hr) (RN_arm hn) (un_nj (by decide))⟩
  · rw [if_neg h, if_neg h]
    exact ⟨rfl, RR_g0 hr⟩
theorem un_same {n : nv} {k j : Nat} {v : Int32} (h : n k j = v) : un n k j v = n := by
  funext k' j'
  unfold un
  by_cases hh : k' = k ∧ j' = j
  · rw [if_pos hh, hh.1, hh.2, h]
  · rw [if_neg hh]
/-- a node that is down has no armed write -/
theorem RR_restart {s : cS} {a : rA} {p : Nat} (hp : p < 8) (hr : RR s a) (h4 : a.1 p 1 0 = 2 → a.1 p 4 0 = 0) : (K_restart s p).1 = (A_restart a p).1 ∧ RR (K_restart s p).2 (A_restart a p).2 := by
  obtain ⟨hn, hid⟩ := hr.1 p hp
  unfold K_restart A_restart
  rw [hn.1.1]
  by_cases h : a.1 p 1 0 = 2
  · rw [if_pos h, if_pos h]
    have e5 : s.1 p 0 5 = 0 := by
      rw [hn.1.2.2.2.2.1]
      exact h4 h
    have em : C_may (un (s.1 p) 0 1 1) = (1, un (un (s.1 p) 0 1 1) 0 6 (s.1 p 0 6 + 1)) := by
      unfold C_may
      have q1 : (un (s.1 p) 0 1 1) 0 1 = 1 := un_eq
      have q5 : (un (s.1 p) 0 1 1) 0 5 = 0 := by
        rw [un_nj (by decide)]
        exact e5
      have q6 : (un (s.1 p) 0 1 1) 0 6 = s.1 p 0 6 := un_nj (by decide)
      rw [if_pos q1, q5, q6, if_neg (by decide), if_neg (by decide), un_same q5]
    rw [em]
    have e2 : (un (un (s.1 p) 0 1 1) 0 6 (s.1 p 0 6 + 1)) 0 2 = s.1 p 0 2 := by
      rw [un_nj (by decide), un_nj (by decide)]
    refine ⟨rfl, ?_⟩
    simp only [k10, if_false, e2]
    have hx : RN (un (un (un (s.1 p) 0 1 1) 0 6 (s.1 p 0 6 + 1)) 0 2 (s.1 p 0 2 + 1)) (un (un (un (a.1 p) 1 0 1) 2 0 (a.1 p 2 0 + 1)) 32 0 (a.1 p 32 0 + 1)) := by
      rw [un_comm (k := 2) (k' := 32) (by decide), hn.1.2.1, hn.1.2.2.2.2.2.1]
      exact RN_inc (RN_wr (RN_st hn))
    exact RR_N (a := aG a 0 0) (RR_g0 hr) hx (by rw [un_nj (by decide), un_nj (by decide), un_nj (by decide)])
  · rw [if_neg h, if_neg h]
    exact ⟨rfl, RR_g0 hr⟩
theorem opn_f {d n : nv} {kd to : Int32} : C_open d n kd to 0 1 = n 0 0 ∧ C_open d n kd to 0 2 = to ∧ C_open d n kd to 0 3 = 0 ∧ C_open d n kd to 0 4 = 0 ∧ C_open d n kd to 0 5 = 0 ∧ C_open d n kd to 0 6 = 0 ∧ C_open d n kd to 0 7 = 0 := by
  unfold C_open C_clr
  refine ⟨?_, ?_, ?_, ?_, ?_, ?_, ?_⟩ <;> simp (disch := decide) only [ua_nk, un_nj, un_eq]
theorem opn_s {d n : nv} {kd to : Int32} : C_open d n kd to 2 = n 6 ∧ C_open d n kd to 3 = n 7 := by
  unfold C_open
  exact ⟨by rw [ua_nk (by decide), ua_eq], by rw [ua_eq]⟩
theorem cc_2 {d n : nv} : C_cc d n 2 = d 2 ∧ C_cc d n 3 = d 3 := by
  unfold C_cc
  refine ⟨?_, ?_⟩ <;> simp (disch := decide) only [ua_nk]
theorem RR_gossip {s : cS} {a : rA} {p q : Nat} (hp : p < 8) (hq : q < 8) (hr : RR s a) : (K_gossip s p q).1 = (A_gossip a p (nI q)).1 ∧ RR (K_gossip s p q).2 (A_gossip a p (nI q)).2 := by
  obtain ⟨hn, hid⟩ := hr.1 p hp
  have hg := hav_gre (a := s.1 p) (b := a.1 p) (fun k hk => (hn.1.2.2.2.2.2.2.2.1 k hk).1)
  have h07 : 0 ≤ nI q ∧ nI q ≤ 7 := ⟨nI_pos' (by omega), of_eq_true (e07 hq)⟩
  unfold K_gossip A_gossip
  rw [hn.1.1]
  by_cases h0 : p = q
  · rw [if_pos h0, if_neg (fun hh => hh.2.1 (by rw [h0]))]
    exact ⟨rfl, RR_g0 hr⟩
  · have hne : ¬ nI p = nI q := fun e => h0 ((nI_eq (by omega) (by omega)).mp e)
    rw [if_neg h0]
    by_cases h1 : a.1 p 1 0 = 1 ∧ ¬ hav (s.1 p 6) 1 16 = 0
    · have h2 : 0 ≤ gre (a.1 p 9) 16 := Int32.not_lt.mp (fun hh => h1.2 (hg.mpr hh))
      rw [if_pos h1, if_pos ⟨h07, hne, h1.1, h2⟩]
      refine ⟨rfl, ?_⟩
      have hr2 : RR (cM s 121 (C_cc (C_open (s.2.1 121) (s.1 p) 14 (nI q)) (s.1 p))) (aG a 0 0) := RR_M (RR_g0 hr) (by decide)
      apply RR_send hr2
      rw [cM_eq]
      obtain ⟨o1, o2, o3, o4, o5, o6, o7⟩ := opn_f (d := s.2.1 121) (n := s.1 p) (kd := 14) (to := nI q)
      obtain ⟨t2, t3⟩ := opn_s (d := s.2.1 121) (n := s.1 p) (kd := 14) (to := nI q)
      obtain ⟨k5, k6, k7⟩ := cc_5 (d := C_open (s.2.1 121) (s.1 p) 14 (nI q)) (n := s.1 p)
      obtain ⟨k2, k3⟩ := cc_2 (d := C_open (s.2.1 121) (s.1 p) 14 (nI q)) (n := s.1 p)
      refine RM_gen (by rw [cc_0, opn_00]) (by rw [cc_0, o1, hid]) (by rw [cc_0, o2]) (by rw [cc_0, o3]) (by rw [cc_0, o4]) (by rw [cc_0, o5]) (fun j hj => ?_) (fun hh => absurd hh (by decide)) (fun _ => ⟨by rw [cc_0, o6], by rw [cc_0, o7], rfl⟩) (fun _ j hj => ?_)
      · rw [k2, k3, t2, t3]
        exact ⟨(hn.1.2.2.2.2.2.2.2.1 j hj).1, (hn.1.2.2.2.2.2.2.2.1 j hj).2.1⟩
      · rw [k5, k6, k7, if_neg (by decide), if_neg (by decide), if_neg (by decide)]
        exact hn.1.2.2.2.2.2.2.1 j hj
    · rw [if_neg h1, if_neg]
      · exact ⟨rfl, RR_g0 hr⟩
      · rintro ⟨_, _, g1, g2⟩
        apply h1
        exact ⟨g1, fun hh => absurd g2 (Int32.not_le.mpr (hg.mp hh))⟩
theorem RR_join {s : cS} {a : rA} {p q : Nat} (hp : p < 8) (hq : q < 8) (hr : RR s a) : (K_join s p q).1 = (A_join a p (nI q)).1 ∧ RR (K_join s p q).2 (A_join a p (nI q)).2 := by
  obtain ⟨hn, hid⟩ := hr.1 p hp
  have hg := hav_gre (a := s.1 p) (b := a.1 p) (fun k hk => (hn.1.2.2.2.2.2.2.2.1 k hk).1)
  have h07 : 0 ≤ nI q ∧ nI q ≤ 7 := ⟨nI_pos' (by omega), of_eq_true (e07 hq)⟩
  unfold K_join A_join
  rw [hn.1.1]
  by_cases h0 : p = q
  · rw [if_pos h0, if_neg (fun hh => hh.2.1 (by rw [h0]))]
    exact ⟨rfl, RR_g0 hr⟩
  · have hne : ¬ nI p = nI q := fun e => h0 ((nI_eq (by omega) (by omega)).mp e)
    rw [if_neg h0]
    by_cases h1 : ¬ a.1 p 1 0 = 2 ∧ (¬ a.1 p 1 0 = 1 ∨ hav (s.1 p 6) 1 16 = 0)
    · have h2 : ¬ a.1 p 1 0 = 1 ∨ gre (a.1 p 9) 16 < 0 := by
        rcases h1.2 with e | e
        · exact Or.inl e
        · exact Or.inr (hg.mp e)
      rw [if_pos h1, if_pos ⟨h07, hne, h1.1, h2⟩]
      refine ⟨rfl, ?_⟩
      have hx : RN (un (s.1 p) 0 1 1) (un (a.1 p) 1 0 1) := RN_st hn
      have hr2 : RR (cM (cN s p (un (s.1 p) 0 1 1)) 121 (C_open (s.2.1 121) (un (s.1 p) 0 1 1) 15 (nI q))) (pN (aG a 0 0) p (un (a.1 p) 1 0 1)) := RR_M (RR_N (a := aG a 0 0) (RR_g0 hr) hx (un_nj (by decide))) (by decide)
      apply RR_send hr2
      rw [cM_eq, pN_eq]
      obtain ⟨o1, o2, o3, o4, o5, o6, o7⟩ := opn_f (d := s.2.1 121) (n := un (s.1 p) 0 1 1) (kd := 15) (to := nI q)
      obtain ⟨t2, t3⟩ := opn_s (d := s.2.1 121) (n := un (s.1 p) 0 1 1) (kd := 15) (to := nI q)
      refine RM_gen opn_00 (by rw [o1, un_nj (by decide), hid]) o2 o3 o4 o5 (fun j hj => ?_) (fun hh => absurd hh (by decide)) (fun _ => ⟨o6, o7, rfl⟩) (fun hh => absurd hh (by decide))
      rw [t2, t3]
      exact ⟨(hx.1.2.2.2.2.2.2.2.1 j hj).1, (hx.1.2.2.2.2.2.2.2.1 j hj).2.1⟩
    · rw [if_neg h1, if_neg]
      · exact ⟨rfl, RR_g0 hr⟩
      · rintro ⟨_, _, g1, g2⟩
        apply h1
        refine ⟨g1, ?_⟩
        rcases g2 with e | e
        · exact Or.inl e
        · exact Or.inr (hg.mpr e)
