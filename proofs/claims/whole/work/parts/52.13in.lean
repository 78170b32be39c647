/-! message and count: the class answers as the reference -/
section VIEWS2
variable {Q : Option Value → xH → Prop} {c : Nat} {g : xH} {s : cS} {a : rA} {p q i m L : Nat} {v x y z : Int32}
theorem t_tag (hm : m < 123) (h : Q (some (.int (if s.2.1 m 0 0 = 2 ∨ s.2.1 m 0 0 = 3 then 1 else 0))) (cl c g s)) : w_Me_hasTag Q (ma c m) (cl c g s) := by
  unfold w_Me_hasTag w_Me_hasTag_16
  refine ⟨_, _, cm_0 hm, om_0_0, fun e => ⟨nb1, ?_⟩, fun e => ⟨_, _, cm_0 hm, om_0_0, fun e2 => ⟨nb0, ?_⟩, fun e2 => ⟨nb1, ?_⟩⟩⟩
  · rw [if_pos (Or.inl e)] at h
    exact h
  · rw [if_neg (fun w => w.elim e e2)] at h
    exact h
  · rw [if_pos (Or.inr e2)] at h
    exact h
theorem Vmq {M : Nat → Int32} {k : Nat} (hk : k < 9) : V_message M (nI k) = M k := by
  have h1 : 0 ≤ nI k ∧ nI k ≤ 9 := by
    refine ⟨nI_nn (by omega), ?_⟩
    rw [show (9 : Int32) = nI 9 from rfl, nI_leI (by omega) (by omega)]
    omega
  have h2 : ¬ 9 ≤ nI k := by
    rw [show (9 : Int32) = nI 9 from rfl, nI_leI (by omega) (by omega)]
    omega
  unfold V_message
  rw [if_pos h1, if_neg h2, nI_cl (by omega)]
theorem Vm9 {M : Nat → Int32} : V_message M 9 = gre (fun k => M (9 + 2 * k)) 16 := by
  unfold V_message
  rw [if_pos (by decide), if_pos (by decide)]
theorem Vmn {M : Nat → Int32} (n0 : ¬ x = 0) (n1 : ¬ x = 1) (n2 : ¬ x = 2) (n3 : ¬ x = 3) (n4 : ¬ x = 4) (n5 : ¬ x = 5) (n6 : ¬ x = 6) (n7 : ¬ x = 7) (n8 : ¬ x = 8) (n9 : ¬ x = 9) : V_message M x = -1 := by
  unfold V_message
  refine if_neg (fun w => ?_)
  obtain ⟨j, hj, e⟩ := nI_of2 (M := 9) (n := 9) (by decide) (Int32.not_lt.mpr w.1) w.2
  have hh : j = 0 ∨ j = 1 ∨ j = 2 ∨ j = 3 ∨ j = 4 ∨ j = 5 ∨ j = 6 ∨ j = 7 ∨ j = 8 ∨ j = 9 := by omega
  rcases hh with z | z | z | z | z | z | z | z | z | z <;> subst z
  · exact n0 e
  · exact n1 e
  · exact n2 e
  · exact n3 e
  · exact n4 e
  · exact n5 e
  · exact n6 e
  · exact n7 e
  · exact n8 e
  · exact n9 e
theorem t_message {B : Nat} (hr : RR s a) (hj : JV B a) (hi : i < ln a) (h : Q (some (.int (V_message (a.2.1 i) x))) (cl c g s)) : w_Q_message Q c (nI i) x (cl c g s) := by
  have hl := hr.2.2.2.2.1
  have hle := hl.2
  have hL : s.2.2.1 1 = nI (ln a) := by
    rw [hr.2.2.1]
    exact hl.1
  have hm : s.2.2.2.1 i < 123 := by
    have := (hr.2.2.2.2.2.1 i (by omega)).1
    omega
  obtain ⟨m0, m2, mt, mn, mc⟩ := hr.2.2.2.2.2.2.2.2 i hi
  have hwm := (hj.1.2.2.1 i hi).1.2.2.1
  have e0 := m0 0 (by decide)
  have e1 := m0 1 (by decide)
  have e2 := m0 2 (by decide)
  have e3 := m0 3 (by decide)
  have e4 := m0 4 (by decide)
  have e5 := m0 5 (by decide)
  have eg : gre (fun k => a.2.1 i (9 + 2 * k)) 16 = gre (s.2.1 (s.2.2.2.1 i) 2) 16 := gre_congr 16 (fun k hk => ((m2 k hk).1).symm)
  unfold w_Q_message
  refine ⟨_, _, cg_0, og_0_1, ⟨_, cg_2⟩, (y_row hL hle hi).mpr (Or.inr ⟨_, rfl, ?_⟩)⟩
  generalize s.2.2.2.1 i = m at *
  have t4 : s.2.1 m 0 0 = 2 ∨ s.2.1 m 0 0 = 3 → th (a.2.1 i) < 4 := by
    rw [e0]
    exact fun w => hwm.2.2 (Or.inr w)
  refine ⟨fun e => ⟨_, _, cm_0 hm, om_0_0, ?_⟩, fun e => ⟨_, _, cm_0 hm, om_0_1, ?_⟩, fun e => ⟨_, _, cm_0 hm, om_0_2, ?_⟩, fun e => ⟨_, _, cm_0 hm, om_0_3, ?_⟩, fun e => ⟨_, _, cm_0 hm, om_0_4, ?_⟩, fun e => ⟨_, _, cm_0 hm, om_0_5, ?_⟩, fun e => ⟨⟨_, cm_0 hm⟩, t_tag hm ⟨_, rfl, fun w => ⟨_, _, cm_0 hm, om_0_6, ?_⟩, fun w => ⟨_, _, cm_0 hm, om_0_9, _, _, cm_0 hm, om_0_5, ⟨_, cm_4 hm⟩, ?_⟩⟩⟩, fun e => ⟨⟨_, cm_0 hm⟩, t_tag hm ⟨_, rfl, fun w => ⟨_, _, cm_0 hm, om_0_7, ?_⟩, fun w => ⟨_, _, cm_0 hm, om_0_9, _, _, cm_0 hm, om_0_5, ⟨_, cm_4 hm⟩, ?_⟩⟩⟩, fun e => ⟨⟨_, cm_0 hm⟩, t_tag hm ⟨_, rfl, fun w => ?_, fun w => ⟨_, _, cm_0 hm, om_0_9, _, _, cm_0 hm, om_0_5, ⟨_, cm_4 hm⟩, ?_⟩⟩⟩, fun e => ⟨_, _, cm_0 hm, om_0_8, ⟨_, cm_1 hm⟩, (s_Se_having_m hm).mpr ⟨_, rfl, y_gre.mpr ⟨_, rfl, ?_⟩⟩⟩, fun n0 n1 n2 n3 n4 n5 n6 n7 n8 n9 => ?_⟩
  · subst e
    rw [e0]
    rw [show V_message (a.2.1 i) 0 = a.2.1 i 0 from Vmq (k := 0) (by decide)] at h
    exact h
  · subst e
    rw [e1]
    rw [show V_message (a.2.1 i) 1 = a.2.1 i 1 from Vmq (k := 1) (by decide)] at h
    exact h
  · subst e
    rw [e2]
    rw [show V_message (a.2.1 i) 2 = a.2.1 i 2 from Vmq (k := 2) (by decide)] at h
    exact h
  · subst e
    rw [e3]
    rw [show V_message (a.2.1 i) 3 = a.2.1 i 3 from Vmq (k := 3) (by decide)] at h
    exact h
  · subst e
    rw [e4]
    rw [show V_message (a.2.1 i) 4 = a.2.1 i 4 from Vmq (k := 4) (by decide)] at h
    exact h
  · subst e
    rw [e5]
    rw [show V_message (a.2.1 i) 5 = a.2.1 i 5 from Vmq (k := 5) (by decide)] at h
    exact h
  · subst e
    have hk : ¬ (s.2.1 m 0 0 = 2 ∨ s.2.1 m 0 0 = 3) := by
      intro w2
      rw [if_pos w2] at w
      exact absurd w (by decide)
    rw [show V_message (a.2.1 i) 6 = a.2.1 i 6 from Vmq (k := 6) (by decide)] at h
    rw [e0] at hk
    rw [(mn hk).1]
    exact h
  · subst e
    have hk : s.2.1 m 0 0 = 2 ∨ s.2.1 m 0 0 = 3 := by
      by_cases w2 : s.2.1 m 0 0 = 2 ∨ s.2.1 m 0 0 = 3
      · exact w2
      · rw [if_neg w2] at w
        exact absurd rfl w
    rw [show V_message (a.2.1 i) 6 = a.2.1 i 6 from Vmq (k := 6) (by decide)] at h
    have h4 := t4 hk
    rw [e0] at hk
    rw [e5, hwm.1]
    refine t_num h4 (cm_4 hm) om_4_0 (cm_5 hm) ⟨_, rfl, ?_⟩
    rw [(mt hk).1]
    exact h
  · subst e
    have hk : ¬ (s.2.1 m 0 0 = 2 ∨ s.2.1 m 0 0 = 3) := by
      intro w2
      rw [if_pos w2] at w
      exact absurd w (by decide)
    rw [show V_message (a.2.1 i) 7 = a.2.1 i 7 from Vmq (k := 7) (by decide)] at h
    rw [e0] at hk
    rw [(mn hk).2.1]
    exact h
  · subst e
    have hk : s.2.1 m 0 0 = 2 ∨ s.2.1 m 0 0 = 3 := by
      by_cases w2 : s.2.1 m 0 0 = 2 ∨ s.2.1 m 0 0 = 3
      · exact w2
      · rw [if_neg w2] at w
        exact absurd rfl w
    rw [show V_message (a.2.1 i) 7 = a.2.1 i 7 from Vmq (k := 7) (by decide)] at h
    have h4 := t4 hk
    rw [e0] at hk
    rw [e5, hwm.1]
    refine t_wri h4 (cm_4 hm) om_4_1 (cm_6 hm) ⟨_, rfl, ?_⟩
    rw [(mt hk).2.1]
    exact h
  · subst e
    have hk : ¬ (s.2.1 m 0 0 = 2 ∨ s.2.1 m 0 0 = 3) := by
      intro w2
      rw [if_pos w2] at w
      exact absurd w (by decide)
    rw [show V_message (a.2.1 i) 8 = a.2.1 i 8 from Vmq (k := 8) (by decide)] at h
    rw [e0] at hk
    rw [(mn hk).2.2] at h
    exact h
  · subst e
    have hk : s.2.1 m 0 0 = 2 ∨ s.2.1 m 0 0 = 3 := by
      by_cases w2 : s.2.1 m 0 0 = 2 ∨ s.2.1 m 0 0 = 3
      · exact w2
      · rw [if_neg w2] at w
        exact absurd rfl w
    rw [show V_message (a.2.1 i) 8 = a.2.1 i 8 from Vmq (k := 8) (by decide)] at h
    have h4 := t4 hk
    rw [e0] at hk
    rw [e5, hwm.1]
    refine t_val h4 (cm_4 hm) om_4_2 (cm_7 hm) ⟨_, rfl, ?_⟩
    rw [(mt hk).2.2]
    exact h
  · subst e
    rw [Vm9, eg] at h
    exact h
  · rw [Vmn n0 n1 n2 n3 n4 n5 n6 n7 n8 n9] at h
    exact h
theorem t_messagen (hL : s.2.2.1 1 = nI L) (h120 : L ≤ 120) (hn : ¬ (0 ≤ v ∧ v ≤ nI L - 1)) (h : Q (some (.int (-1))) (cl c g s)) : w_Q_message Q c v x (cl c g s) := by
  unfold w_Q_message
  exact ⟨_, _, cg_0, og_0_1, ⟨_, cg_2⟩, (y_rown hL h120 hn).mpr (Or.inl ⟨rfl, h⟩)⟩
/-! count -/
def C_sum (s : cS) : Nat → Int32
  | 0 => 0
  | k + 1 => C_sum s k + s.1 k 0 6
def C_ups (s : cS) : Nat → Int32
  | 0 => 0
  | k + 1 => C_ups s k + (if s.1 k 0 1 = 1 then 1 else 0)
theorem lt8 {k : Nat} (hk : k < 8) : ¬ 8 ≤ nI k := by
  rw [show (8 : Int32) = nI 8 from rfl, nI_leI (by omega) (by omega)]
  omega
theorem t_sum_4 (h : Q (some (.int (C_sum s 8))) (cl c g s)) : ∀ d k, k + d = 8 → w_Q_writesOfAll_4 Q (d + 1) c (C_sum s k) (nI k) (cl c g s) := by
  intro d
  induction d with
  | zero =>
    intro k hk
    have e : k = 8 := by omega
    subst e
    rw [w_Q_writesOfAll_4]
    exact ⟨fun _ => h, fun w => absurd (by decide) w⟩
  | succ d ih =>
    intro k hk
    have hk8 : k < 8 := by omega
    rw [w_Q_writesOfAll_4]
    refine ⟨fun w => absurd w (lt8 hk8), fun _ => ⟨_, _, cg_0, og_0_0, 1, _, _, na c k, rfl, rfl, cg_1, nI_nn (by omega), ?_, _, _, cn_0 hk8, on_0_6, ?_⟩⟩
    · rw [nI_cl (by omega), rng_get hk8]
    · rw [nI_1]
      exact ih (k + 1) (by omega)
theorem t_ups_4 (h : Q (some (.int (C_ups s 8))) (cl c g s)) : ∀ d k, k + d = 8 → w_Q_nodesUp_4 Q (d + 1) c (C_ups s k) (nI k) (cl c g s) := by
  intro d
  induction d with
  | zero =>
    intro k hk
    have e : k = 8 := by omega
    subst e
    rw [w_Q_nodesUp_4]
    exact ⟨fun _ => h, fun w => absurd (by decide) w⟩
  | succ d ih =>
    intro k hk
    have hk8 : k < 8 := by omega
    have ih' := ih (k + 1) (by omega)
    rw [C_ups] at ih'
    rw [w_Q_nodesUp_4]
    refine ⟨fun w => absurd w (lt8 hk8), fun _ => ⟨_, _, cg_0, og_0_0, 1, _, _, na c k, rfl, rfl, cg_1, nI_nn (by omega), ?_, ⟨_, cn_0 hk8⟩, (y_isUp hk8).mpr ⟨_, rfl, fun w => ?_, fun w => ?_⟩⟩⟩
    · rw [nI_cl (by omega), rng_get hk8]
    · unfold w_Q_nodesUp_28
      rw [nI_1]
      have hu : ¬ s.1 k 0 1 = 1 := by
        intro hu
        rw [if_pos hu] at w
        exact absurd w (by decide)
      rw [if_neg hu] at ih'
      exact ih'
    · unfold w_Q_nodesUp_28
      rw [nI_1]
      have hu : s.1 k 0 1 = 1 := by
        by_cases hu : s.1 k 0 1 = 1
        · exact hu
        · rw [if_neg hu] at w
          exact absurd rfl w
      rw [if_pos hu] at ih'
      exact ih'
theorem sum_eq (hr : RR s a) : C_sum s 8 = s8 a.1 := by
  have e : ∀ k, k < 8 → s.1 k 0 6 = a.1 k 32 0 := fun k hk => (hr.1 k hk).1.1.2.2.2.2.2.1
  unfold s8
  simp only [C_sum, e 0 (by decide), e 1 (by decide), e 2 (by decide), e 3 (by decide), e 4 (by decide), e 5 (by decide), e 6 (by decide), e 7 (by decide)]
  rw [Int32.zero_add]
theorem ups_eq (hr : RR s a) : ∀ k, k ≤ 8 → C_ups s k = ups a.1 k := by
  intro k
  induction k with
  | zero => exact fun _ => rfl
  | succ k ih =>
    intro hk
    rw [C_ups, ups, ih (by omega), (hr.1 k (by omega)).1.1.1]
theorem t_count (hr : RR s a) (h : Q (some (.int (V_count a x))) (cl c g s)) : w_Q_count Q c x (cl c g s) := by
  unfold V_count at h
  unfold w_Q_count
  refine ⟨fun e => ⟨_, _, cg_0, og_0_1, _, _, cg_2, og_2_2, ?_⟩, fun e => ⟨_, _, cg_0, og_0_4, ?_⟩, fun e => ⟨⟨_, cg_0⟩, ?_⟩, fun e => ⟨⟨_, cg_0⟩, ?_⟩, fun e => ⟨_, _, cg_0, og_0_1, _, _, cg_2, og_2_3, ?_⟩, fun n0 n1 n2 n3 n4 => ?_⟩
  · rw [if_pos e] at h
    rw [hr.2.2.1]
    exact h
  · subst e
    rw [if_neg (by decide), if_pos rfl] at h
    rw [hr.2.1]
    exact h
  · subst e
    rw [if_neg (by decide), if_neg (by decide), if_pos rfl] at h
    unfold w_Q_writesOfAll
    refine ⟨9, t_sum_4 ⟨_, rfl, ?_⟩ 8 0 rfl⟩
    rw [sum_eq hr]
    exact h
  · subst e
    rw [if_neg (by decide), if_neg (by decide), if_neg (by decide), if_pos rfl] at h
    unfold w_Q_nodesUp
    refine ⟨9, t_ups_4 ⟨_, rfl, ?_⟩ 8 0 rfl⟩
    rw [ups_eq hr 8 (Nat.le_refl _)]
    exact h
  · subst e
    rw [if_neg (by decide), if_neg (by decide), if_neg (by decide), if_neg (by decide), if_pos rfl] at h
    rw [hr.2.2.2.1]
    exact h
  · rw [if_neg n0, if_neg n1, if_neg n2, if_neg n3, if_neg n4] at h
    exact h
end VIEWS2
