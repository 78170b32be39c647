/-! the reference's methods, second part -/
theorem s_M_reads {Q : Option Value → xH → Prop} {h : xH} {v : Int32} : w_M_reads Q v h ↔ Q (some (.int ((v >>> (8 &&& 31)) &&& 15))) h := by
  unfold w_M_reads
  exact Iff.rfl
theorem s_M_stores {Q : Option Value → xH → Prop} {h : xH} {v : Int32} : w_M_stores Q v h ↔ Q (some (.int ((v >>> (12 &&& 31)) &&& 15))) h := by
  unfold w_M_stores
  exact Iff.rfl
theorem xsb1 (a b : Int32) : a - (b + 1) = a - b + (-1) := by
  apply Int32.toBitVec_inj.mp
  simp only [Int32.toBitVec_sub, Int32.toBitVec_add, Int32.toBitVec_neg]
  have : (1 : Int32).toBitVec = 1#32 := rfl
  rw [this]
  generalize a.toBitVec = x
  generalize b.toBitVec = y
  bv_omega
theorem s_M_least {Q : Option Value → xH → Prop} {r : Nat} {g : xH} {t : rS} {p : Nat} (hp : p < 8) : w_M_least Q r (nI p) (rl r g t) ↔ Q (some (.int (lst (fun i => t.1 9 (16 * p + i)) 16))) (rl r g t) := by
  unfold w_M_least
  refine loop_iff (fun n (x : Int32 × Int32) => w_M_least_5 Q n r (nI p) x.1 x.2 (rl r g t)) (fun k => (lst (fun i => t.1 9 (16 * p + i)) k, nI 15 - nI k)) 16 _ (fun _ => id) ?_ ?_
  · intro n k hk
    show w_M_least_5 Q (n + 1) r (nI p) (lst (fun i => t.1 9 (16 * p + i)) k) (nI 15 - nI k) (rl r g t) ↔ w_M_least_5 Q n r (nI p) (if t.1 9 (16 * p + (15 - k)) = 1 then nI (15 - k) else lst (fun i => t.1 9 (16 * p + i)) k) (nI 15 - nI (k + 1)) (rl r g t)
    have e1 : nI 15 - nI k = nI (15 - k) := pk_sub (by omega)
    have e2 : nI 15 - nI (k + 1) = nI (15 - k) + (-1) := by rw [show nI (k + 1) = nI k + 1 from (nI_1 k).symm, xsb1, e1]
    rw [e1, e2, w_M_least_5]
    simp (disch := first | omega | decide) only [w_M_least, w_M_least_29, rl_r, ro_len, rAr_len, rAr_set, nb0, nb1, rl_k1, rl_k2, rl_k3, rl_k4, rl_k5, rl_k6, rl_k7, rl_k8, rl_k9, rl_k10, rl_k11, rl_k12, rl_k13, rl_k14, rl_k15, rl_k16, rl_k17, rl_k18, rl_k19, rl_k20, rl_k21, rl_k22, rl_k23, rl_k24, rl_k25, rl_k26, rl_k27, rl_k28, rl_k29, rl_k30, rl_k31, rl_s1, rl_s2, rl_s3, rl_s4, rl_s5, rl_s6, rl_s7, rl_s8, rl_s9, rl_s10, rl_s11, rl_s12, rl_s13, rl_s14, rl_s15, rl_s16, rl_s17, rl_s18, rl_s19, rl_s20, rl_s21, rl_s22, rl_s23, rl_s24, rl_s25, rl_s26, rl_s27, rl_s28, rl_s29, rl_s30, rl_s31, ro_0, ro_1, ro_2, ro_3, ro_4, ro_5, ro_6, ro_7, ro_8, ro_9, ro_10, ro_11, ro_12, ro_13, ro_14, ro_15, ro_16, ro_17, ro_18, ro_19, ro_20, ro_21, ro_22, ro_23, ro_24, ro_25, ro_26, ro_27, ro_28, ro_29, ro_30, ro_31, ro_32, ro_33, ro_34, ro_35, rl_g0, rl_g1, rl_g2, rl_g3, rl_g4, Option.some.injEq, Sum.inr.injEq, Sum.inl.injEq, Prod.mk.injEq, Value.ref.injEq, Value.int.injEq, true_and, and_true, exists_eq_left', exists_eq_left, exists_and_left, forall_eq, rAr_get, nI_nn, nI_cl, exists_const, sA, sF_eq, sF_ne, sF_2, sG_1, sG_2, exists_eq', exists_eq, ix4a, ix16a, nI_add, xlt, up1_eq, xdn1, xdn, not_false_eq_true, true_implies, false_implies]
    by_cases h1 : t.1 9 (16 * p + (15 - k)) = 1 <;> simp [h1]
  · intro n
    show w_M_least_5 Q (n + 1) r (nI p) (lst (fun i => t.1 9 (16 * p + i)) 16) (nI 15 - nI 16) (rl r g t) ↔ _
    rw [w_M_least_5]
    have h1 : nI 15 - nI 16 < 0 := by decide
    simp [h1]
def f_isFree (t : rS) (p : Nat) : Int32 := if t.1 1 p = 1 ∧ 0 ≤ gre (fun i => t.1 9 (16 * p + i)) 16 ∧ t.1 16 p = 0 then 1 else 0
theorem s_M_isFree {Q : Option Value → xH → Prop} {r : Nat} {g : xH} {t : rS} {p : Nat} (hp : p < 8) : w_M_isFree Q r (nI p) (rl r g t) ↔ Q (some (.int (f_isFree t p))) (rl r g t) := by
  have e0 : (0 : Int32) ≤ nI p := nI_pos' (by omega)
  have e7 : nI p ≤ 7 := by rw [show (7 : Int32) = nI 7 from rfl, nI_leI (by omega) (by omega)]; omega
  unfold f_isFree
  simp (disch := first | omega | decide) only [w_M_isFree, w_M_isNode, s_M_in, s_M_isUp hp, s_M_greatest hp, f_isUp, rl_r, ro_len, rAr_len, rAr_set, nb0, nb1, rl_k1, rl_k2, rl_k3, rl_k4, rl_k5, rl_k6, rl_k7, rl_k8, rl_k9, rl_k10, rl_k11, rl_k12, rl_k13, rl_k14, rl_k15, rl_k16, rl_k17, rl_k18, rl_k19, rl_k20, rl_k21, rl_k22, rl_k23, rl_k24, rl_k25, rl_k26, rl_k27, rl_k28, rl_k29, rl_k30, rl_k31, rl_s1, rl_s2, rl_s3, rl_s4, rl_s5, rl_s6, rl_s7, rl_s8, rl_s9, rl_s10, rl_s11, rl_s12, rl_s13, rl_s14, rl_s15, rl_s16, rl_s17, rl_s18, rl_s19, rl_s20, rl_s21, rl_s22, rl_s23, rl_s24, rl_s25, rl_s26, rl_s27, rl_s28, rl_s29, rl_s30, rl_s31, ro_0, ro_1, ro_2, ro_3, ro_4, ro_5, ro_6, ro_7, ro_8, ro_9, ro_10, ro_11, ro_12, ro_13, ro_14, ro_15, ro_16, ro_17, ro_18, ro_19, ro_20, ro_21, ro_22, ro_23, ro_24, ro_25, ro_26, ro_27, ro_28, ro_29, ro_30, ro_31, ro_32, ro_33, ro_34, ro_35, rl_g0, rl_g1, rl_g2, rl_g3, rl_g4, Option.some.injEq, Sum.inr.injEq, Sum.inl.injEq, Prod.mk.injEq, Value.ref.injEq, Value.int.injEq, true_and, and_true, exists_eq_left', exists_eq_left, exists_and_left, forall_eq, rAr_get, nI_nn, nI_cl, exists_const, sA, sF_eq, sF_ne, sF_2, sG_1, sG_2, exists_eq', exists_eq, ix4a, ix16a, nI_add, xlt, up1_eq, e0, e7, and_self, if_true]
  simp only [← Int32.not_le]
  by_cases h1 : t.1 1 p = 1 <;> by_cases h2 : 0 ≤ gre (fun i => t.1 9 (16 * p + i)) 16 <;> by_cases h3 : t.1 16 p = 0 <;> simp [h1, h2, h3]
theorem kc3 : (3 : Int32).toNatClampNeg = 3 := by decide
theorem kc4 : (4 : Int32).toNatClampNeg = 4 := by decide
theorem kc1 : (1 : Int32).toNatClampNeg = 1 := by decide
theorem kc0 : (0 : Int32).toNatClampNeg = 0 := by decide
theorem kc2 : (2 : Int32).toNatClampNeg = 2 := by decide
theorem kc5 : (5 : Int32).toNatClampNeg = 5 := by decide
theorem kc6 : (6 : Int32).toNatClampNeg = 6 := by decide
theorem kc7 : (7 : Int32).toNatClampNeg = 7 := by decide
theorem kc8 : (8 : Int32).toNatClampNeg = 8 := by decide
theorem kp3 : ((0 : Int32) ≤ 3) = True := by decide
theorem kp4 : ((0 : Int32) ≤ 4) = True := by decide
theorem kp1 : ((0 : Int32) ≤ 1) = True := by decide
theorem kp0 : ((0 : Int32) ≤ 0) = True := by decide
theorem kp2 : ((0 : Int32) ≤ 2) = True := by decide
theorem kp5 : ((0 : Int32) ≤ 5) = True := by decide
theorem kp6 : ((0 : Int32) ≤ 6) = True := by decide
theorem kp7 : ((0 : Int32) ≤ 7) = True := by decide
theorem kp8 : ((0 : Int32) ≤ 8) = True := by decide
def f_counts (t : rS) (p f : Nat) : Int32 := if ¬ t.1 16 p ≤ 0 ∧ t.1 31 3 = t.1 2 p ∧ t.1 31 4 = t.1 5 p ∧ (t.1 20 p >>> (t.1 31 1 &&& 31)) &&& 1 = 0 then 1 else 0
theorem s_M_counts {Q : Option Value → xH → Prop} {r : Nat} {g : xH} {t : rS} {p f : Nat} (hp : p < 8) : w_M_counts Q r (nI p) (rl r g t) ↔ Q (some (.int (f_counts t p f))) (rl r g t) := by
  unfold f_counts
  simp (disch := first | omega | decide) only [w_M_counts, rl_r, ro_len, rAr_len, rAr_set, nb0, nb1, rl_k1, rl_k2, rl_k3, rl_k4, rl_k5, rl_k6, rl_k7, rl_k8, rl_k9, rl_k10, rl_k11, rl_k12, rl_k13, rl_k14, rl_k15, rl_k16, rl_k17, rl_k18, rl_k19, rl_k20, rl_k21, rl_k22, rl_k23, rl_k24, rl_k25, rl_k26, rl_k27, rl_k28, rl_k29, rl_k30, rl_k31, rl_s1, rl_s2, rl_s3, rl_s4, rl_s5, rl_s6, rl_s7, rl_s8, rl_s9, rl_s10, rl_s11, rl_s12, rl_s13, rl_s14, rl_s15, rl_s16, rl_s17, rl_s18, rl_s19, rl_s20, rl_s21, rl_s22, rl_s23, rl_s24, rl_s25, rl_s26, rl_s27, rl_s28, rl_s29, rl_s30, rl_s31, ro_0, ro_1, ro_2, ro_3, ro_4, ro_5, ro_6, ro_7, ro_8, ro_9, ro_10, ro_11, ro_12, ro_13, ro_14, ro_15, ro_16, ro_17, ro_18, ro_19, ro_20, ro_21, ro_22, ro_23, ro_24, ro_25, ro_26, ro_27, ro_28, ro_29, ro_30, ro_31, ro_32, ro_33, ro_34, ro_35, rl_g0, rl_g1, rl_g2, rl_g3, rl_g4, Option.some.injEq, Sum.inr.injEq, Sum.inl.injEq, Prod.mk.injEq, Value.ref.injEq, Value.int.injEq, true_and, and_true, exists_eq_left', exists_eq_left, exists_and_left, forall_eq, rAr_get, nI_nn, nI_cl, exists_const, sA, sF_eq, sF_ne, sF_2, sG_1, sG_2, exists_eq', exists_eq, ix4a, ix16a, nI_add, xlt, up1_eq, kc0, kp0, kc1, kp1, kc2, kp2, kc3, kp3, kc4, kp4, kc5, kp5, kc6, kp6, kc7, kp7, kc8, kp8]
  by_cases h1 : t.1 16 p ≤ 0 <;> by_cases h2 : t.1 31 3 = t.1 2 p <;> by_cases h3 : t.1 31 4 = t.1 5 p <;> by_cases h4 : (t.1 20 p >>> (t.1 31 1 &&& 31)) &&& 1 = 0 <;> simp [h1, h2, h3, h4]
theorem ix41 (k : Nat) : (41 : Int32) + (3 : Int32) * nI k = nI (41 + 3 * k) := by rw [← nI_add, ← pk_mul]; rfl
theorem ix42 (k : Nat) : nI k + (1 : Int32) = nI (k + 1) := nI_1 k
theorem ix43 (k : Nat) : nI k + (2 : Int32) = nI (k + 2) := by rw [← nI_add]; rfl
theorem ix9 (k : Nat) : (9 : Int32) + (2 : Int32) * nI k = nI (9 + 2 * k) := by rw [← nI_add, ← pk_mul]; rfl
def f_storeAll (t : rS) (p : Nat) : Nat → rS
  | 0 => t
  | k + 1 => f_store (f_storeAll t p k) p (4 * p + k) ((f_storeAll t p k).1 31 (41 + 3 * k)) ((f_storeAll t p k).1 31 (41 + 3 * k + 1)) ((f_storeAll t p k).1 31 (41 + 3 * k + 2))
theorem s_M_storeAll {Q : Option Value → xH → Prop} {r : Nat} {g : xH} {t : rS} {p : Nat} (hp : p < 8) : w_M_storeAll Q r (nI p) (rl r g t) ↔ Q none (rl r g (f_storeAll t p 4)) := by
  unfold w_M_storeAll
  refine loop_iff (fun n (x : Int32 × xH) => w_M_storeAll_2 Q n r (nI p) x.1 x.2) (fun k => (nI k, rl r g (f_storeAll t p k))) 4 _ (fun _ => id) ?_ ?_
  · intro n k hk
    show w_M_storeAll_2 Q (n + 1) r (nI p) (nI k) (rl r g (f_storeAll t p k)) ↔ w_M_storeAll_2 Q n r (nI p) (nI (k + 1)) (rl r g (f_storeAll t p (k + 1)))
    rw [w_M_storeAll_2, f_storeAll]
    simp (disch := first | omega | decide) only [w_M_storeAll, s_M_store hp hk, rl_r, ro_len, rAr_len, rAr_set, nb0, nb1, rl_k1, rl_k2, rl_k3, rl_k4, rl_k5, rl_k6, rl_k7, rl_k8, rl_k9, rl_k10, rl_k11, rl_k12, rl_k13, rl_k14, rl_k15, rl_k16, rl_k17, rl_k18, rl_k19, rl_k20, rl_k21, rl_k22, rl_k23, rl_k24, rl_k25, rl_k26, rl_k27, rl_k28, rl_k29, rl_k30, rl_k31, rl_s1, rl_s2, rl_s3, rl_s4, rl_s5, rl_s6, rl_s7, rl_s8, rl_s9, rl_s10, rl_s11, rl_s12, rl_s13, rl_s14, rl_s15, rl_s16, rl_s17, rl_s18, rl_s19, rl_s20, rl_s21, rl_s22, rl_s23, rl_s24, rl_s25, rl_s26, rl_s27, rl_s28, rl_s29, rl_s30, rl_s31, ro_0, ro_1, ro_2, ro_3, ro_4, ro_5, ro_6, ro_7, ro_8, ro_9, ro_10, ro_11, ro_12, ro_13, ro_14, ro_15, ro_16, ro_17, ro_18, ro_19, ro_20, ro_21, ro_22, ro_23, ro_24, ro_25, ro_26, ro_27, ro_28, ro_29, ro_30, ro_31, ro_32, ro_33, ro_34, ro_35, rl_g0, rl_g1, rl_g2, rl_g3, rl_g4, Option.some.injEq, Sum.inr.injEq, Sum.inl.injEq, Prod.mk.injEq, Value.ref.injEq, Value.int.injEq, true_and, and_true, exists_eq_left', exists_eq_left, exists_and_left, forall_eq, rAr_get, nI_nn, nI_cl, exists_const, sA, sF_eq, sF_ne, sF_2, sG_1, sG_2, exists_eq', exists_eq, ix4a, ix16a, nI_add, xlt, up1_eq, xge4, ix41, ix42, ix43, not_false_eq_true, true_implies, false_implies]
  · intro n
    show w_M_storeAll_2 Q (n + 1) r (nI p) (nI 4) (rl r g (f_storeAll t p 4)) ↔ _
    rw [w_M_storeAll_2]
    have h1 : (4 : Int32) ≤ nI 4 := by decide
    simp [h1]
