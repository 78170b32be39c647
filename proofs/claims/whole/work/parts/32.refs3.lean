/-! the reference's methods, third part: send -/
theorem ixp2 (k : Nat) : nI k + (2 : Int32) = nI (k + 2) := by rw [← nI_add]; rfl
theorem ixp3 (k : Nat) : nI k + (3 : Int32) = nI (k + 3) := by rw [← nI_add]; rfl
theorem ixp4 (k : Nat) : nI k + (4 : Int32) = nI (k + 4) := by rw [← nI_add]; rfl
theorem ixp5 (k : Nat) : nI k + (5 : Int32) = nI (k + 5) := by rw [← nI_add]; rfl
theorem ixp6 (k : Nat) : nI k + (6 : Int32) = nI (k + 6) := by rw [← nI_add]; rfl
theorem ixp7 (k : Nat) : nI k + (7 : Int32) = nI (k + 7) := by rw [← nI_add]; rfl
theorem ixp8 (k : Nat) : nI k + (8 : Int32) = nI (k + 8) := by rw [← nI_add]; rfl
theorem ixp9 (k : Nat) : nI k + (9 : Int32) = nI (k + 9) := by rw [← nI_add]; rfl
theorem ixp41 (k : Nat) : nI k + (41 : Int32) = nI (k + 41) := by rw [← nI_add]; rfl
theorem ixp53 (k : Nat) : nI k + (53 : Int32) = nI (k + 53) := by rw [← nI_add]; rfl
theorem ixp0 (k : Nat) : nI k + (0 : Int32) = nI k := by rw [show (0 : Int32) = nI 0 from rfl, nI_add]; rfl
theorem n120 : (nI 120 = (120 : Int32)) = True := by simp only [eq_iff_iff, iff_true]; rfl
theorem ixm2 (k : Nat) : (2 : Int32) * nI k = nI (2 * k) := by rw [← pk_mul]; rfl
theorem ixm3 (k : Nat) : (3 : Int32) * nI k = nI (3 * k) := by rw [← pk_mul]; rfl
theorem ixm53 (k : Nat) : (53 : Int32) * nI k = nI (53 * k) := by rw [← pk_mul]; rfl
def f_send9 (t : rS) (m : Nat) (a b c d e f x y z : Int32) : rS := sA (sA (sA (sA (sA (sA (sA (sA (sA (t) 30 (m) (a)) 30 (m + 1) (b)) 30 (m + 2) (c)) 30 (m + 3) (d)) 30 (m + 4) (e)) 30 (m + 5) (f)) 30 (m + 6) (x)) 30 (m + 7) (y)) 30 (m + 8) (z)
def f_sendA (t : rS) (m q : Nat) : Nat → rS
  | 0 => t
  | k + 1 => sA (sA (f_sendA t m q k) 30 (m + 9 + 2 * k) ((f_sendA t m q k).1 9 (16 * q + k))) 30 (m + 9 + 2 * k + 1) ((f_sendA t m q k).1 10 (16 * q + k))
def f_sendB (t : rS) (m q : Nat) (ce be : Int32) : Nat → rS
  | 0 => t
  | k + 1 => sA (sA (sA (f_sendB t m q ce be k) 30 (m + 41 + 3 * k) (if ce = 0 then (if be = 0 then 0 else (f_sendB t m q ce be k).1 27 (4 * q + k)) else (f_sendB t m q ce be k).1 6 (4 * q + k))) 30 (m + 41 + 3 * k + 1) (if ce = 0 then (if be = 0 then 0 else (f_sendB t m q ce be k).1 28 (4 * q + k)) else (f_sendB t m q ce be k).1 7 (4 * q + k))) 30 (m + 41 + 3 * k + 2) (if ce = 0 then (if be = 0 then 0 else (f_sendB t m q ce be k).1 29 (4 * q + k)) else (f_sendB t m q ce be k).1 8 (4 * q + k))
theorem s_send_B {Q : Option Value → xH → Prop} {r : Nat} {g : xH} {t : rS} {p1 p3 p4 p5 p6 p7 p8 p9 ce be : Int32} {m q : Nat} (hq : q < 8) (hm : m + 53 ≤ 6360) : (∃ n, w_M_send_213 Q n r p1 (nI q) p3 p4 p5 p6 p7 p8 p9 ce be (nI m) 0 (rl r g t)) ↔ Q none (rl r g (f_sendB t m q ce be 4)) := by
  refine loop_iff (fun n (x : Int32 × xH) => w_M_send_213 Q n r p1 (nI q) p3 p4 p5 p6 p7 p8 p9 ce be (nI m) x.1 x.2) (fun k => (nI k, rl r g (f_sendB t m q ce be k))) 4 _ (fun _ => id) ?_ ?_
  · intro n k hk
    show w_M_send_213 Q (n + 1) r p1 (nI q) p3 p4 p5 p6 p7 p8 p9 ce be (nI m) (nI k) (rl r g (f_sendB t m q ce be k)) ↔ w_M_send_213 Q n r p1 (nI q) p3 p4 p5 p6 p7 p8 p9 ce be (nI m) (nI (k + 1)) (rl r g (f_sendB t m q ce be (k + 1)))
    rw [w_M_send_213, f_sendB]
    by_cases h1 : ce = 0 <;> by_cases h2 : be = 0 <;>
    simp (maxSteps := 4000000) (disch := first | omega | decide) only [w_M_send_272, w_M_send_320, w_M_send_368, rl_r, ro_len, rAr_len, rAr_set, nb0, nb1, rl_k1, rl_k2, rl_k3, rl_k4, rl_k5, rl_k6, rl_k7, rl_k8, rl_k9, rl_k10, rl_k11, rl_k12, rl_k13, rl_k14, rl_k15, rl_k16, rl_k17, rl_k18, rl_k19, rl_k20, rl_k21, rl_k22, rl_k23, rl_k24, rl_k25, rl_k26, rl_k27, rl_k28, rl_k29, rl_k30, rl_k31, rl_s1, rl_s2, rl_s3, rl_s4, rl_s5, rl_s6, rl_s7, rl_s8, rl_s9, rl_s10, rl_s11, rl_s12, rl_s13, rl_s14, rl_s15, rl_s16, rl_s17, rl_s18, rl_s19, rl_s20, rl_s21, rl_s22, rl_s23, rl_s24, rl_s25, rl_s26, rl_s27, rl_s28, rl_s29, rl_s30, rl_s31, ro_0, ro_1, ro_2, ro_3, ro_4, ro_5, ro_6, ro_7, ro_8, ro_9, ro_10, ro_11, ro_12, ro_13, ro_14, ro_15, ro_16, ro_17, ro_18, ro_19, ro_20, ro_21, ro_22, ro_23, ro_24, ro_25, ro_26, ro_27, ro_28, ro_29, ro_30, ro_31, ro_32, ro_33, ro_34, ro_35, rl_g0, rl_g1, rl_g2, rl_g3, rl_g4, Option.some.injEq, Sum.inr.injEq, Sum.inl.injEq, Prod.mk.injEq, Value.ref.injEq, Value.int.injEq, true_and, and_true, exists_eq_left', exists_eq_left, exists_and_left, forall_eq, rAr_get, nI_nn, nI_cl, exists_const, sA, sF_eq, sF_ne, sF_2, sG_1, sG_2, exists_eq', exists_eq, ix4a, ix16a, nI_add, xlt, up1_eq, sF_sF, h1, h2, if_true, if_false, xge4, ixp2, ixp3, ixp4, ixp5, ixp6, ixp7, ixp8, ixp9, ixp41, ixp53, ixp0, ixm2, ixm3, ixm53, ix42, eq_self, not_true_eq_false, not_false_eq_true, true_implies, false_implies]
  · intro n
    show w_M_send_213 Q (n + 1) r p1 (nI q) p3 p4 p5 p6 p7 p8 p9 ce be (nI m) (nI 4) (rl r g (f_sendB t m q ce be 4)) ↔ _
    rw [w_M_send_213]
    have h1 : (4 : Int32) ≤ nI 4 := by decide
    simp [h1]
theorem s_send_A {Q : Option Value → xH → Prop} {r : Nat} {g : xH} {t : rS} {p1 p3 p4 p5 p6 p7 p8 p9 ce be : Int32} {m q : Nat} (hq : q < 8) (hm : m + 53 ≤ 6360) : (∃ n, w_M_send_141 Q n r p1 (nI q) p3 p4 p5 p6 p7 p8 p9 ce be (nI m) 0 (rl r g t)) ↔ Q none (rl r g (f_sendB (f_sendA t m q 16) m q ce be 4)) := by
  refine loop_iff (fun n (x : Int32 × xH) => w_M_send_141 Q n r p1 (nI q) p3 p4 p5 p6 p7 p8 p9 ce be (nI m) x.1 x.2) (fun k => (nI k, rl r g (f_sendA t m q k))) 16 _ (fun _ => id) ?_ ?_
  · intro n k hk
    show w_M_send_141 Q (n + 1) r p1 (nI q) p3 p4 p5 p6 p7 p8 p9 ce be (nI m) (nI k) (rl r g (f_sendA t m q k)) ↔ w_M_send_141 Q n r p1 (nI q) p3 p4 p5 p6 p7 p8 p9 ce be (nI m) (nI (k + 1)) (rl r g (f_sendA t m q (k + 1)))
    rw [w_M_send_141, f_sendA]
    simp (maxSteps := 4000000) (disch := first | omega | decide) only [rl_r, ro_len, rAr_len, rAr_set, nb0, nb1, rl_k1, rl_k2, rl_k3, rl_k4, rl_k5, rl_k6, rl_k7, rl_k8, rl_k9, rl_k10, rl_k11, rl_k12, rl_k13, rl_k14, rl_k15, rl_k16, rl_k17, rl_k18, rl_k19, rl_k20, rl_k21, rl_k22, rl_k23, rl_k24, rl_k25, rl_k26, rl_k27, rl_k28, rl_k29, rl_k30, rl_k31, rl_s1, rl_s2, rl_s3, rl_s4, rl_s5, rl_s6, rl_s7, rl_s8, rl_s9, rl_s10, rl_s11, rl_s12, rl_s13, rl_s14, rl_s15, rl_s16, rl_s17, rl_s18, rl_s19, rl_s20, rl_s21, rl_s22, rl_s23, rl_s24, rl_s25, rl_s26, rl_s27, rl_s28, rl_s29, rl_s30, rl_s31, ro_0, ro_1, ro_2, ro_3, ro_4, ro_5, ro_6, ro_7, ro_8, ro_9, ro_10, ro_11, ro_12, ro_13, ro_14, ro_15, ro_16, ro_17, ro_18, ro_19, ro_20, ro_21, ro_22, ro_23, ro_24, ro_25, ro_26, ro_27, ro_28, ro_29, ro_30, ro_31, ro_32, ro_33, ro_34, ro_35, rl_g0, rl_g1, rl_g2, rl_g3, rl_g4, Option.some.injEq, Sum.inr.injEq, Sum.inl.injEq, Prod.mk.injEq, Value.ref.injEq, Value.int.injEq, true_and, and_true, exists_eq_left', exists_eq_left, exists_and_left, forall_eq, rAr_get, nI_nn, nI_cl, exists_const, sA, sF_eq, sF_ne, sF_2, sG_1, sG_2, exists_eq', exists_eq, ix4a, ix16a, nI_add, xlt, up1_eq, sF_sF, xge16, ixp2, ixp3, ixp4, ixp5, ixp6, ixp7, ixp8, ixp9, ixp41, ixp53, ixp0, ixm2, ixm3, ixm53, ix42, eq_self, not_true_eq_false, not_false_eq_true, true_implies, false_implies]
  · intro n
    show w_M_send_141 Q (n + 1) r p1 (nI q) p3 p4 p5 p6 p7 p8 p9 ce be (nI m) (nI 16) (rl r g (f_sendA t m q 16)) ↔ _
    rw [w_M_send_141]
    have h1 : (16 : Int32) ≤ nI 16 := by decide
    simp only [h1, true_implies, not_true_eq_false, false_implies, and_true]
    exact s_send_B hq hm
def f_send (t : rS) (L : Nat) (a : Int32) (q : Nat) (c d e f x y z ce be : Int32) : rS := if L = 120 then sG t 3 (t.2 3 + 1) else f_sendB (f_sendA (f_send9 (sG t 2 (nI (L + 1))) (53 * L) a (nI q) c d e f x y z) (53 * L) q 16) (53 * L) q ce be 4
theorem s_M_send {Q : Option Value → xH → Prop} {r : Nat} {g : xH} {t : rS} {p1 p3 p4 p5 p6 p7 p8 p9 ce be : Int32} {L q : Nat} (hq : q < 8) (hL : L ≤ 120) (h2 : t.2 2 = nI L) : w_M_send Q r p1 (nI q) p3 p4 p5 p6 p7 p8 p9 ce be (rl r g t) ↔ Q none (rl r g (f_send t L p1 q p3 p4 p5 p6 p7 p8 p9 ce be)) := by
  unfold f_send
  have e120 : (nI L = 120) ↔ L = 120 := by rw [show (120 : Int32) = nI 120 from rfl, nI_eq (by omega) (by omega)]
  by_cases h1 : L = 120
  · simp (maxSteps := 4000000) (disch := first | omega | decide) only [w_M_send, w_M_send_368, w_M_send_320, w_M_send_272, w_M_send_80, rl_r, ro_len, rAr_len, rAr_set, nb0, nb1, rl_k1, rl_k2, rl_k3, rl_k4, rl_k5, rl_k6, rl_k7, rl_k8, rl_k9, rl_k10, rl_k11, rl_k12, rl_k13, rl_k14, rl_k15, rl_k16, rl_k17, rl_k18, rl_k19, rl_k20, rl_k21, rl_k22, rl_k23, rl_k24, rl_k25, rl_k26, rl_k27, rl_k28, rl_k29, rl_k30, rl_k31, rl_s1, rl_s2, rl_s3, rl_s4, rl_s5, rl_s6, rl_s7, rl_s8, rl_s9, rl_s10, rl_s11, rl_s12, rl_s13, rl_s14, rl_s15, rl_s16, rl_s17, rl_s18, rl_s19, rl_s20, rl_s21, rl_s22, rl_s23, rl_s24, rl_s25, rl_s26, rl_s27, rl_s28, rl_s29, rl_s30, rl_s31, ro_0, ro_1, ro_2, ro_3, ro_4, ro_5, ro_6, ro_7, ro_8, ro_9, ro_10, ro_11, ro_12, ro_13, ro_14, ro_15, ro_16, ro_17, ro_18, ro_19, ro_20, ro_21, ro_22, ro_23, ro_24, ro_25, ro_26, ro_27, ro_28, ro_29, ro_30, ro_31, ro_32, ro_33, ro_34, ro_35, rl_g0, rl_g1, rl_g2, rl_g3, rl_g4, Option.some.injEq, Sum.inr.injEq, Sum.inl.injEq, Prod.mk.injEq, Value.ref.injEq, Value.int.injEq, true_and, and_true, exists_eq_left', exists_eq_left, exists_and_left, forall_eq, rAr_get, nI_nn, nI_cl, exists_const, sA, sF_eq, sF_ne, sF_2, sG_1, sG_2, exists_eq', exists_eq, ix4a, ix16a, nI_add, xlt, up1_eq, sF_sF, h2, n120, h1, if_true, eq_self, not_true_eq_false, not_false_eq_true, true_implies, false_implies]
  · have hm : 53 * L + 53 ≤ 6360 := by omega
    simp (maxSteps := 4000000) (disch := first | omega | decide) only [w_M_send, w_M_send_80, rl_r, ro_len, rAr_len, rAr_set, nb0, nb1, rl_k1, rl_k2, rl_k3, rl_k4, rl_k5, rl_k6, rl_k7, rl_k8, rl_k9, rl_k10, rl_k11, rl_k12, rl_k13, rl_k14, rl_k15, rl_k16, rl_k17, rl_k18, rl_k19, rl_k20, rl_k21, rl_k22, rl_k23, rl_k24, rl_k25, rl_k26, rl_k27, rl_k28, rl_k29, rl_k30, rl_k31, rl_s1, rl_s2, rl_s3, rl_s4, rl_s5, rl_s6, rl_s7, rl_s8, rl_s9, rl_s10, rl_s11, rl_s12, rl_s13, rl_s14, rl_s15, rl_s16, rl_s17, rl_s18, rl_s19, rl_s20, rl_s21, rl_s22, rl_s23, rl_s24, rl_s25, rl_s26, rl_s27, rl_s28, rl_s29, rl_s30, rl_s31, ro_0, ro_1, ro_2, ro_3, ro_4, ro_5, ro_6, ro_7, ro_8, ro_9, ro_10, ro_11, ro_12, ro_13, ro_14, ro_15, ro_16, ro_17, ro_18, ro_19, ro_20, ro_21, ro_22, ro_23, ro_24, ro_25, ro_26, ro_27, ro_28, ro_29, ro_30, ro_31, ro_32, ro_33, ro_34, ro_35, rl_g0, rl_g1, rl_g2, rl_g3, rl_g4, Option.some.injEq, Sum.inr.injEq, Sum.inl.injEq, Prod.mk.injEq, Value.ref.injEq, Value.int.injEq, true_and, and_true, exists_eq_left', exists_eq_left, exists_and_left, forall_eq, rAr_get, nI_nn, nI_cl, exists_const, sA, sF_eq, sF_ne, sF_2, sG_1, sG_2, exists_eq', exists_eq, ix4a, ix16a, nI_add, xlt, up1_eq, sF_sF, h2, e120, h1, if_false, s_send_A hq hm, f_send9, ixp2, ixp3, ixp4, ixp5, ixp6, ixp7, ixp8, ixp9, ixp41, ixp53, ixp0, ixm2, ixm3, ixm53, ix42, eq_self, not_true_eq_false, not_false_eq_true, true_implies, false_implies]
