/-! the class: starts, deliver -/
section CLS2
variable {Q : Option Value → xH → Prop} {c : Nat} {g : xH} {s S : cS} {a : rA} {p q i t L : Nat} {v x y z kd : Int32}
theorem t_otaskn (hn : ¬ (0 ≤ v ∧ v ≤ 7)) (h : Q (some .null) (cl c g s)) : w_Q_openTask Q c v kd x (cl c g s) := by
  unfold w_Q_openTask
  exact ⟨⟨_, cg_0⟩, (y_findn hn).mpr (Or.inl ⟨rfl, h⟩)⟩
theorem t_go (hp : p < 8) (hq : q < 16) (hk : KI S p q) (h : Q (some (.int (K_an (K_go S p) p))) (cl c g (K_go S p))) : (∃ f11, (cl c g S).2 c = some (.inr (0, f11))) ∧ w_Q_beginFirst (fun v h10 => v = none ∧ (∃ f13, h10.2 c = some (.inr (0, f13))) ∧ w_Q_settle (fun v h12 => v = none ∧ w_Q_started (fun v h14 => ∃ (x15 : Int32), v = some (.int x15) ∧ Q (some (.int x15)) h14) (na c p) h12) c (na c p) h10) c (na c p) (cl c g S) := by
  have hst := fun Q => y_set (Q := Q) (c := c) (g := g) (s := K_beg1 S p) hp hq (KI_CG hk CG_beg1)
  unfold K_an K_go at h
  refine ⟨⟨_, cg_0⟩, (y_beg1 hp hk.1 hk.2.1 hq hk.2.2.1).mpr ⟨rfl, ⟨_, cg_0⟩, ?_⟩⟩
  generalize K_set (K_beg1 S p) p = T at h hst
  rw [hst]
  refine ⟨rfl, ?_⟩
  rw [y_started hp]
  exact ⟨_, rfl, h⟩
theorem t_readn (hn : ¬ (0 ≤ x ∧ x ≤ 3)) (h : Q (some (.int (-1))) (cl c g s)) : w_Q_read Q c v x (cl c g s) := by
  unfold w_Q_read
  refine s_Q_isObject.mpr ?_
  rw [o3n hn]
  exact ⟨0, rfl, fun w => absurd rfl w, fun _ => h⟩
theorem t_readm (hq : q < 4) (hn : ¬ (0 ≤ v ∧ v ≤ 7)) (h : Q (some (.int (-1))) (cl c g s)) : w_Q_read Q c v (nI q) (cl c g s) := by
  unfold w_Q_read
  refine s_Q_isObject.mpr ?_
  rw [oO hq]
  exact ⟨1, rfl, fun _ => ⟨⟨_, cg_0⟩, t_otaskn hn (Or.inl ⟨rfl, h⟩)⟩, fun w => absurd w (by decide)⟩
theorem t_writen (hn : ¬ (0 ≤ x ∧ x ≤ 3)) (h : Q (some (.int (-1))) (cl c g s)) : w_Q_write Q c v x y (cl c g s) := by
  unfold w_Q_write
  refine s_Q_isObject.mpr ?_
  rw [o3n hn]
  exact ⟨0, rfl, fun w => absurd rfl w, fun _ => h⟩
theorem t_writem (hq : q < 4) (hn : ¬ (0 ≤ v ∧ v ≤ 7)) (h : Q (some (.int (-1))) (cl c g s)) : w_Q_write Q c v (nI q) y (cl c g s) := by
  unfold w_Q_write
  refine s_Q_isObject.mpr ?_
  rw [oO hq]
  exact ⟨1, rfl, fun _ => ⟨⟨_, cg_0⟩, t_otaskn hn (Or.inl ⟨rfl, h⟩)⟩, fun w => absurd w (by decide)⟩
theorem KI_opv {j : Nat} (hw : CW s) (hid : s.1 p 0 0 = nI p) (h2 : kd = 2 → q < 4) (hj : j ≠ 1 ∧ j ≠ 3) : KI (K_opv s p kd q j v) p q := by
  unfold K_opv
  refine KI_CG (KI_op hw hid h2) (CG_N ⟨un_nk (by decide), un_nj (Ne.symm hj.1), un_nj (Ne.symm hj.2)⟩)
theorem t_write (hp : p < 8) (hq : q < 4) (hw : CW s) (hid : s.1 p 0 0 = nI p) (h : Q (some (.int (K_write s p q v).1)) (cl c g (K_write s p q v).2)) : w_Q_write Q c (nI p) (nI q) v (cl c g s) := by
  unfold w_Q_write
  refine s_Q_isObject.mpr ?_
  rw [oO hq]
  refine ⟨1, rfl, fun _ => ⟨⟨_, cg_0⟩, ?_⟩, fun w => absurd w (by decide)⟩
  rw [y_otask hp]
  unfold K_write at h
  by_cases hf : C_free (s.1 p) = 0
  · rw [if_pos hf] at h ⊢
    exact Or.inl ⟨rfl, h⟩
  · rw [if_neg hf] at h ⊢
    dsimp only at h
    refine Or.inr ⟨_, rfl, _, _, cn_0 hp, on_0_10, _, cn_12 hp, by rw [on_12_len]; decide, ?_⟩
    intro h9 e9
    rw [un_12_8 hp, sN_c] at e9
    rw [e9]
    exact t_go (S := K_opv s p 2 q 8 v) hp (show q < 16 by omega) (KI_opv hw hid (fun _ => hq) (by decide)) h
def C_conf (x y z : Int32) : Int32 := if x < 1 then 0 else if x < 256 then (if y < 1 then 0 else if bc x < y then 0 else if z < 1 then 0 else if bc x < z then 0 else if y + z ≤ bc x then 0 else 1) else 0
theorem t_conf {h0 : xH} (h : Q (some (.int (C_conf x y z))) h0) : w_Q_isConfiguration Q x y z h0 := by
  unfold C_conf at h
  unfold w_Q_isConfiguration
  refine ⟨fun e => ⟨nb0, ?_⟩, fun e => ⟨fun e2 => y_bc.mpr ⟨_, rfl, fun e3 => ⟨nb0, ?_⟩, fun e3 => ⟨fun e4 => ⟨nb0, ?_⟩, fun e4 => ⟨fun e5 => ⟨nb0, ?_⟩, fun e5 => ⟨fun e6 => ⟨nb0, ?_⟩, fun e6 => ⟨fun e7 => ⟨nb0, ?_⟩, fun e7 => ⟨nb1, ?_⟩⟩⟩⟩⟩⟩, fun e2 => ⟨nb0, ?_⟩⟩⟩
  · rw [if_pos e] at h
    exact h
  · rw [if_neg e, if_pos e2, if_pos e3] at h
    exact h
  · rw [if_neg e, if_pos e2, if_neg e3, if_pos e4] at h
    exact h
  · rw [if_neg e, if_pos e2, if_neg e3, if_neg e4, if_pos e5] at h
    exact h
  · rw [if_neg e, if_pos e2, if_neg e3, if_neg e4, if_neg e5, if_pos e6] at h
    exact h
  · rw [if_neg e, if_pos e2, if_neg e3, if_neg e4, if_neg e5, if_neg e6, if_pos e7] at h
    exact h
  · rw [if_neg e, if_pos e2, if_neg e3, if_neg e4, if_neg e5, if_neg e6, if_neg e7] at h
    exact h
  · rw [if_neg e, if_neg e2] at h
    exact h
def K_propose (s : cS) (p : Nat) (x y z : Int32) : Int32 × cS := if C_conf x y z = 0 then (-1, s) else if gre (s.1 p 6) 16 + 1 < 16 then (if C_free (s.1 p) = 0 then (-1, s) else (K_an (K_go (K_opv s p 3 ((gre (s.1 p 6) 16).toNatClampNeg + 1) 9 ((x + 256 * y) + 4096 * z)) p) p, K_go (K_opv s p 3 ((gre (s.1 p 6) 16).toNatClampNeg + 1) 9 ((x + 256 * y) + 4096 * z)) p)) else (-1, s)
/-- a node that may have a task has an index in force -/
theorem cfree_gre {n : nv} (h : ¬ C_free n = 0) : ∃ b, b < 16 ∧ gre (n 6) 16 = nI b := by
  rcases gre_some (f := n 6) 16 with e | ⟨b, hb, e, _⟩
  · exfalso
    apply h
    unfold C_free
    refine if_neg (fun w => w.2.2 ?_)
    have hg : gre (n 6) 16 < 0 := by
      rw [e]
      decide
    exact (hav_0 16 (Nat.le_refl _)).mpr (gre_0.mp hg)
  · exact ⟨b, hb, e⟩
theorem t_propose (hp : p < 8) (hw : CW s) (hid : s.1 p 0 0 = nI p) (h : Q (some (.int (K_propose s p x y z).1)) (cl c g (K_propose s p x y z).2)) : w_Q_propose Q c (nI p) x y z (cl c g s) := by
  unfold w_Q_propose
  refine ⟨⟨_, cg_0⟩, (y_find hp).mpr (Or.inr ⟨_, rfl, t_conf ⟨_, rfl, fun w => ⟨_, _, cn_0 hp, on_0_8, ⟨_, cn_5 hp⟩, (s_Se_having_n hp).mpr ⟨_, rfl, y_gre.mpr ⟨_, rfl, fun w2 => ⟨⟨_, cg_0⟩, ?_⟩, fun w2 => ?_⟩⟩⟩, fun w => ?_⟩⟩)⟩
  · unfold K_propose at h
    rw [if_neg w, if_pos w2] at h
    rw [y_otask hp]
    by_cases hf : C_free (s.1 p) = 0
    · rw [if_pos hf] at h ⊢
      exact Or.inl ⟨rfl, h⟩
    · rw [if_neg hf] at h ⊢
      dsimp only at h
      obtain ⟨b, hb, eb⟩ := cfree_gre hf
      have eb2 : gre (s.1 p 6) 16 + 1 = nI ((gre (s.1 p 6) 16).toNatClampNeg + 1) := by
        rw [eb, nI_cl (by omega), nI_1]
      have hb2 : (gre (s.1 p 6) 16).toNatClampNeg + 1 < 16 := by
        rw [eb, nI_1, show (16 : Int32) = nI 16 from rfl, nI_ltI (by omega) (by omega)] at w2
        rw [eb, nI_cl (by omega)]
        exact w2
      rw [eb2]
      refine Or.inr ⟨_, rfl, _, _, cn_0 hp, on_0_10, ?_⟩
      unfold w_Q_configuration
      refine ⟨_, rfl, _, cn_12 hp, by rw [on_12_len]; decide, ?_⟩
      intro h9 e9
      rw [un_12_9 hp, sN_c] at e9
      rw [e9]
      exact t_go (S := K_opv s p 3 ((gre (s.1 p 6) 16).toNatClampNeg + 1) 9 ((x + 256 * y) + 4096 * z)) hp hb2 (KI_opv hw hid (fun w => absurd w (by decide)) (by decide)) h
  · unfold K_propose at h
    rw [if_neg w, if_neg w2] at h
    exact h
  · unfold K_propose at h
    rw [if_pos w] at h
    exact h
theorem t_proposem (hn : ¬ (0 ≤ v ∧ v ≤ 7)) (h : Q (some (.int (-1))) (cl c g s)) : w_Q_propose Q c v x y z (cl c g s) := by
  unfold w_Q_propose
  exact ⟨⟨_, cg_0⟩, t_findn hn (Or.inl ⟨rfl, h⟩)⟩
def K_retire (s : cS) (p : Nat) : Int32 × cS := if 2 ≤ bc (hav (s.1 p 6) 1 16) then (if C_free (s.1 p) = 0 then (-1, s) else (K_an (K_go (K_opv s p 4 (gre (s.1 p 6) 16).toNatClampNeg 12 (hav (s.1 p 6) 1 16 &&& (((1 : Int32) <<< (gre (s.1 p 6) 16 &&& 31)) ^^^ (-1)))) p) p, K_go (K_opv s p 4 (gre (s.1 p 6) 16).toNatClampNeg 12 (hav (s.1 p 6) 1 16 &&& (((1 : Int32) <<< (gre (s.1 p 6) 16 &&& 31)) ^^^ (-1)))) p)) else (-1, s)
theorem t_retire (hp : p < 8) (hw : CW s) (hid : s.1 p 0 0 = nI p) (h : Q (some (.int (K_retire s p).1)) (cl c g (K_retire s p).2)) : w_Q_retire Q c (nI p) (cl c g s) := by
  unfold w_Q_retire
  refine ⟨⟨_, cg_0⟩, (y_find hp).mpr (Or.inr ⟨_, rfl, _, _, cn_0 hp, on_0_8, ⟨_, cn_5 hp⟩, (s_Se_having_n hp).mpr ⟨_, rfl, y_bc.mpr ⟨_, rfl, fun w => y_gre.mpr ⟨_, rfl, ⟨_, cg_0⟩, ?_⟩, fun w => ?_⟩⟩⟩)⟩
  · unfold K_retire at h
    rw [if_pos w] at h
    rw [y_otask hp]
    by_cases hf : C_free (s.1 p) = 0
    · rw [if_pos hf] at h ⊢
      exact Or.inl ⟨rfl, h⟩
    · rw [if_neg hf] at h ⊢
      dsimp only at h
      obtain ⟨b, hb, eb⟩ := cfree_gre hf
      have eb2 : gre (s.1 p 6) 16 = nI (gre (s.1 p 6) 16).toNatClampNeg := by
        rw [eb, nI_cl (by omega)]
      have hb2 : (gre (s.1 p 6) 16).toNatClampNeg < 16 := by
        rw [eb, nI_cl (by omega)]
        exact hb
      refine Or.inr ⟨_, rfl, _, _, cn_0 hp, on_0_10, _, cn_12 hp, by rw [on_12_len]; decide, ?_⟩
      intro h9 e9
      rw [un_12_12 hp, sN_c] at e9
      rw [e9]
      have key := t_go (S := K_opv s p 4 (gre (s.1 p 6) 16).toNatClampNeg 12 (hav (s.1 p 6) 1 16 &&& (((1 : Int32) <<< (gre (s.1 p 6) 16 &&& 31)) ^^^ (-1)))) hp hb2 (KI_opv hw hid (fun w => absurd w (by decide)) (by decide)) h
      unfold K_opv K_op at key
      rw [← eb2] at key
      exact key
  · unfold K_retire at h
    rw [if_neg w] at h
    exact h
theorem t_retirem (hn : ¬ (0 ≤ v ∧ v ≤ 7)) (h : Q (some (.int (-1))) (cl c g s)) : w_Q_retire Q c v (cl c g s) := by
  unfold w_Q_retire
  exact ⟨⟨_, cg_0⟩, t_findn hn (Or.inl ⟨rfl, h⟩)⟩
theorem t_crashm (hn : ¬ (0 ≤ v ∧ v ≤ 7)) (h : Q (some (.int 0)) (cl c g s)) : w_Q_crash Q c v (cl c g s) := by
  unfold w_Q_crash
  exact ⟨⟨_, cg_0⟩, t_findn hn (Or.inl ⟨rfl, nb0, h⟩)⟩
theorem t_restartm (hn : ¬ (0 ≤ v ∧ v ≤ 7)) (h : Q (some (.int 0)) (cl c g s)) : w_Q_restart Q c v (cl c g s) := by
  unfold w_Q_restart
  exact ⟨⟨_, cg_0⟩, t_findn hn (Or.inl ⟨rfl, nb0, h⟩)⟩
theorem t_armm (hn : ¬ (0 ≤ v ∧ v ≤ 7)) (h : Q (some (.int 0)) (cl c g s)) : w_Q_arm Q c v x (cl c g s) := by
  unfold w_Q_arm
  exact ⟨⟨_, cg_0⟩, t_findn hn (Or.inl ⟨rfl, nb0, h⟩)⟩
/-! deliver -/
theorem t_isA {h0 : xH} (h : Q (some (.int (C_isA x))) h0) : w_Q_isAnswer Q x h0 := by
  unfold w_Q_isAnswer
  refine ⟨fun e => ⟨nb1, ?_⟩, fun e => ⟨nb0, ?_⟩, fun e => ⟨nb1, ?_⟩, fun e => ⟨nb0, ?_⟩, fun e => ⟨nb1, ?_⟩, fun e => ⟨nb0, ?_⟩, fun e => ⟨nb1, ?_⟩, fun e => ⟨nb1, ?_⟩, fun e => ⟨nb0, ?_⟩, fun e => ⟨nb1, ?_⟩, fun e => ⟨nb0, ?_⟩, fun e => ⟨nb1, ?_⟩, fun n2 n3 n4 n5 n6 n7 n8 n9 n10 n11 n12 n13 => ⟨nb0, ?_⟩⟩
  · subst e
    exact h
  · subst e
    exact h
  · subst e
    exact h
  · subst e
    exact h
  · subst e
    exact h
  · subst e
    exact h
  · subst e
    exact h
  · subst e
    exact h
  · subst e
    exact h
  · subst e
    exact h
  · subst e
    exact h
  · subst e
    exact h
  · unfold C_isA at h
    rw [if_neg ?_] at h
    · exact h
    · rintro (w | w | w | w | w | w | w)
      · exact n2 w
      · exact n4 w
      · exact n6 w
      · exact n8 w
      · exact n9 w
      · exact n11 w
      · exact n13 w
theorem t_del100 {l1 l4 : Int32} (hi : i < 8) (ht : t < 121) (hw : CW S) (hq : q < 16) (h5 : S.2.1 t 0 5 = nI q) (hk : S.1 i 0 1 = 1 → S.2.1 t 0 0 = 1 ∨ S.2.1 t 0 0 = 3 ∨ S.2.1 t 0 0 = 5 ∨ S.2.1 t 0 0 = 7 ∨ S.2.1 t 0 0 = 10 ∨ S.2.1 t 0 0 = 12 ∨ S.2.1 t 0 0 = 14 ∨ S.2.1 t 0 0 = 15) (h : Q (some (.int 1)) (cl c g (if S.1 i 0 1 = 1 then K_rep (cM (cN S i (C_srv1 (S.1 i) (S.2.1 t))) 122 (C_srv2 (S.1 i) (S.2.1 t) (S.2.1 122))) i else S))) : w_Q_deliver_100 Q c l1 (ma c t) (na c i) l4 (cl c g S) := by
  unfold w_Q_deliver_100
  refine ⟨⟨_, cn_0 hi⟩, (y_isUp hi).mpr ⟨_, rfl, fun w => ?_, fun w => ⟨⟨_, cg_0⟩, ?_⟩⟩⟩
  · have hu : ¬ S.1 i 0 1 = 1 := by
      intro hu
      rw [if_pos hu] at w
      exact absurd w (by decide)
    rw [if_neg hu] at h
    exact h
  · have hu : S.1 i 0 1 = 1 := by
      by_cases hu : S.1 i 0 1 = 1
      · exact hu
      · rw [if_neg hu] at w
        exact absurd rfl w
    rw [if_pos hu] at h
    refine (y_serve hi (by omega) (by omega) hq h5 (hk hu)).mpr ⟨rfl, ⟨_, cg_0⟩, ?_⟩
    refine (y_rep hi ?_).mpr ⟨rfl, h⟩
    exact hw
theorem t_del70 {l1 l4 : Int32} {r : Nat} (hi : i < 8) (ht : t < 121) (hr : r < 16) (hk : KI S i r) (hq : q < 16) (h5 : S.2.1 t 0 5 = nI q) (hkd : KD (S.2.1 t 0 0)) (h : Q (some (.int 1)) (cl c g (K_d2 S i t))) : w_Q_deliver_70 Q c l1 (ma c t) (na c i) l4 (cl c g S) := by
  unfold w_Q_deliver_70
  unfold K_d2 at h
  refine ⟨⟨_, cn_0 hi⟩, (y_isUp hi).mpr ⟨_, rfl, fun w => ?_, fun w => ⟨_, _, cm_0 (by omega), om_0_0, t_isA ⟨_, rfl, fun w2 => ?_, fun w2 => ?_⟩⟩⟩⟩
  · have hu : ¬ S.1 i 0 1 = 1 := by
      intro hu
      rw [if_pos hu] at w
      exact absurd w (by decide)
    refine t_del100 hi ht hk.1 hq h5 (fun w => absurd w hu) ?_
    rw [if_neg hu] at h ⊢
    exact h
  · have hu : S.1 i 0 1 = 1 := by
      by_cases hu : S.1 i 0 1 = 1
      · exact hu
      · rw [if_neg hu] at w
        exact absurd rfl w
    rw [if_pos hu, if_pos w2] at h
    refine t_del100 hi ht hk.1 hq h5 (fun _ => kd_req hkd w2) ?_
    rw [if_pos hu]
    exact h
  · have hu : S.1 i 0 1 = 1 := by
      by_cases hu : S.1 i 0 1 = 1
      · exact hu
      · rw [if_neg hu] at w
        exact absurd rfl w
    rw [if_pos hu, if_neg w2] at h
    have hst := fun Q => y_set (Q := Q) (c := c) (g := g) (s := cN S i (C_hear (S.1 i) (S.2.1 t))) hi hr (KI_CG hk (CG_N P3_hear))
    refine (y_hear hi (by omega)).mpr ⟨rfl, ⟨_, cg_0⟩, ?_⟩
    rw [hst]
    exact ⟨rfl, h⟩
theorem t_del {r x' : Nat} (hw : ∀ x, x < 120 → s.2.2.2.1 x < 121) (hL : s.2.2.1 1 = nI L) (h120 : L ≤ 120) (hx : x' < L) (ht : s.2.2.2.2 < 121) (hp : p < 8) (hto : s.2.1 (s.2.2.2.1 x') 0 2 = nI p) (hr : r < 16) (hk : KI (K_out s x' L) p r) (hrows : ∀ y, y < 120 → (K_out s x' L).2.2.2.1 y ≠ (K_out s x' L).2.2.2.2) (hq : q < 16) (h5 : s.2.1 (s.2.2.2.1 x') 0 5 = nI q) (hkd : KD (s.2.1 (s.2.2.2.1 x') 0 0)) (h : Q (some (.int (K_del (K_out s x' L) p (K_out s x' L).2.2.2.2).1)) (cl c g (K_del (K_out s x' L) p (K_out s x' L).2.2.2.2).2)) : w_Q_deliver Q c (nI x') (cl c g s) := by
  have hm := hw x' (by omega)
  have e1 : (K_out s x' L).2.1 = s.2.1 := rfl
  have e2 : (K_out s x' L).2.2.2.2 = s.2.2.2.1 x' := rfl
  unfold w_Q_deliver
  refine ⟨_, _, cg_0, og_0_1, ⟨_, cg_2⟩, (y_out hw hL h120 hx ht).mpr (Or.inr ⟨_, rfl, ?_⟩)⟩
  rw [e2] at h hrows
  generalize s.2.2.2.1 x' = m at *
  generalize K_out s x' L = s1 at *
  rw [← e1] at hto h5 hkd
  refine ⟨_, _, cm_0 (by omega), om_0_2, ⟨_, cg_0⟩, ?_⟩
  rw [hto]
  refine (y_find hp).mpr (Or.inr ⟨_, rfl, ⟨_, cn_0 hp⟩, (y_isUp hp).mpr ⟨_, rfl, fun w => ?_, fun w => ?_⟩⟩)
  · have hu : s1.1 p 0 1 = 1 := by
      by_cases hu : s1.1 p 0 1 = 1
      · exact hu
      · rw [if_neg hu] at w
        exact absurd rfl w
    unfold K_del at h
    rw [if_pos hu] at h
    dsimp only at h
    have hct := CT_d1 (s := s1) (i := p) (t := m)
    have hcp := CP_d1 (s := s1) (i := p) (t := m)
    have htk : (K_d1 s1 p m).2.1 m = s1.2.1 m := (hct.2 hk.1).2 m hm hrows
    have hk2 : KI (K_d1 s1 p m) p r := by
      obtain ⟨k1, k2, k3, k4⟩ := hk
      obtain ⟨p1, p2, p3⟩ := hcp p
      exact ⟨(hct.2 k1).1, p1.trans k2, p3.trans k3, fun w => k4 (p2 ▸ w)⟩
    have hd := fun l1 l4 => t_del70 (Q := Q) (c := c) (g := g) (l1 := l1) (l4 := l4) hp hm hr hk2 hq (by rw [htk]; exact h5) (by rw [htk]; exact hkd) h
    refine ⟨_, _, cn_0 hp, on_0_8, ⟨_, cn_5 hp⟩, (s_Se_having_n hp).mpr ⟨_, rfl, _, _, cm_0 (by omega), om_0_8, ⟨_, cn_0 hp⟩, (y_merge hp (by omega)).mpr ⟨_, rfl, fun w2 => ?_, fun w2 => ⟨⟨_, cg_0⟩, ?_⟩⟩⟩⟩
    · unfold K_d1 at hd
      rw [if_pos w2] at hd
      exact hd _ _
    · have hkm : KI (cN s1 p (C_merge (s1.1 p) (s1.2.1 m 2) (s1.2.1 m 3)).2) p r := KI_CG hk (CG_N P3_merge)
      have hlk := fun Q => y_look (Q := Q) (c := c) (g := g) (s := cN s1 p (C_merge (s1.1 p) (s1.2.1 m 2) (s1.2.1 m 3)).2) (b := hav (s1.1 p 6) 1 16) hp hr hkm
      have hst := fun Q => y_set (Q := Q) (c := c) (g := g) (s := K_look (cN s1 p (C_merge (s1.1 p) (s1.2.1 m 2) (s1.2.1 m 3)).2) p (hav (s1.1 p 6) 1 16)) hp hr (KI_CG hkm CG_look)
      unfold K_d1 at hd
      rw [if_neg w2] at hd
      rw [hlk]
      refine ⟨rfl, ⟨_, cg_0⟩, ?_⟩
      rw [hst]
      exact ⟨rfl, hd _ _⟩
  · have hu : ¬ s1.1 p 0 1 = 1 := by
      intro hu
      rw [if_pos hu] at w
      exact absurd w (by decide)
    unfold K_del at h
    rw [if_neg hu] at h
    dsimp only at h
    exact h
theorem t_deln (hL : s.2.2.1 1 = nI L) (h120 : L ≤ 120) (hn : ¬ (0 ≤ v ∧ v ≤ nI L - 1)) (h : Q (some (.int (-1))) (cl c g s)) : w_Q_deliver Q c v (cl c g s) := by
  unfold w_Q_deliver
  exact ⟨_, _, cg_0, og_0_1, ⟨_, cg_2⟩, (y_outn hL h120 hn).mpr (Or.inl ⟨rfl, h⟩)⟩
end CLS2
