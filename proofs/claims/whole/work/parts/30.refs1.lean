/-! the reference's methods over its arrays (what their weakest conditions come to on rl) -/
theorem ix4 (p o : Nat) : (4 : Int32) * nI p + nI o = nI (4 * p + o) := by rw [← nI_add, ← pk_mul]; rfl
theorem ix16 (p o : Nat) : (16 : Int32) * nI p + nI o = nI (16 * p + o) := by rw [← nI_add, ← pk_mul]; rfl
theorem ix4a (p : Nat) : (4 : Int32) * nI p = nI (4 * p) := by rw [← pk_mul]; rfl
theorem ix16a (p : Nat) : (16 : Int32) * nI p = nI (16 * p) := by rw [← pk_mul]; rfl
theorem xlt {a b : Nat} (h : a < b) : (a < b) = True := by simp [h]
theorem xge16 {k : Nat} (h : k < 16) : ((16 : Int32) ≤ nI k) = False := by
  rw [show (16 : Int32) = nI 16 from rfl, nI_leI (by omega) (by omega)]
  simp [h]
theorem xge8 {k : Nat} (h : k < 8) : ((8 : Int32) ≤ nI k) = False := by
  rw [show (8 : Int32) = nI 8 from rfl, nI_leI (by omega) (by omega)]
  simp [h]
theorem xge4 {k : Nat} (h : k < 4) : ((4 : Int32) ≤ nI k) = False := by
  rw [show (4 : Int32) = nI 4 from rfl, nI_leI (by omega) (by omega)]
  simp [h]
theorem wif {c : Prop} [Decidable c] {A B : Prop} : ((c → A) ∧ (¬ c → B)) ↔ (if c then A else B) := by by_cases h : c <;> simp [h]
theorem loop_iff {σ : Type} (W : Nat → σ → Prop) (st : Nat → σ) (N : Nat) (E : Prop) (h0 : ∀ x, ¬ W 0 x) (hs : ∀ n k, k < N → (W (n + 1) (st k) ↔ W n (st (k + 1)))) (he : ∀ n, W (n + 1) (st N) ↔ E) : (∃ n, W n (st 0)) ↔ E := by
  have key : ∀ m k, k + m = N → ((∃ n, W n (st k)) ↔ E) := by
    intro m
    induction m with
    | zero =>
      intro k hk
      have hk : k = N := by omega
      subst hk
      constructor
      · rintro ⟨n, hn⟩
        cases n with
        | zero => exact absurd hn (h0 _)
        | succ n => exact (he n).mp hn
      · intro hE
        exact ⟨1, (he 0).mpr hE⟩
    | succ m ih =>
      intro k hk
      rw [← ih (k + 1) (by omega)]
      constructor
      · rintro ⟨n, hn⟩
        cases n with
        | zero => exact absurd hn (h0 _)
        | succ n => exact ⟨n, (hs n k (by omega)).mp hn⟩
      · rintro ⟨n, hn⟩
        exact ⟨n + 1, (hs n k (by omega)).mpr hn⟩
  exact key N 0 (by omega)
theorem s_M_in {Q : Option Value → xH → Prop} {h : xH} {v lo hi : Int32} : w_M_in Q v lo hi h ↔ Q (some (.int (if lo ≤ v ∧ v ≤ hi then 1 else 0))) h := by
  unfold w_M_in
  simp only [nb0, nb1, true_and, ← Int32.not_le]
  by_cases h1 : lo ≤ v <;> by_cases h2 : v ≤ hi <;> simp only [h1, h2, not_true_eq_false, not_false_eq_true, true_implies, false_implies, and_true, true_and, and_self, and_false, false_and, if_true, if_false]
def f_isUp (t : rS) (p : Nat) : Int32 := if t.1 1 p = 1 then 1 else 0
theorem s_M_isUp {Q : Option Value → xH → Prop} {r : Nat} {g : xH} {t : rS} {p : Nat} (hp : p < 8) : w_M_isUp Q r (nI p) (rl r g t) ↔ Q (some (.int (f_isUp t p))) (rl r g t) := by
  unfold f_isUp
  simp (disch := first | omega | decide) only [w_M_isUp, rl_r, ro_len, rAr_len, rAr_set, nb0, nb1, rl_k1, rl_k2, rl_k3, rl_k4, rl_k5, rl_k6, rl_k7, rl_k8, rl_k9, rl_k10, rl_k11, rl_k12, rl_k13, rl_k14, rl_k15, rl_k16, rl_k17, rl_k18, rl_k19, rl_k20, rl_k21, rl_k22, rl_k23, rl_k24, rl_k25, rl_k26, rl_k27, rl_k28, rl_k29, rl_k30, rl_k31, rl_s1, rl_s2, rl_s3, rl_s4, rl_s5, rl_s6, rl_s7, rl_s8, rl_s9, rl_s10, rl_s11, rl_s12, rl_s13, rl_s14, rl_s15, rl_s16, rl_s17, rl_s18, rl_s19, rl_s20, rl_s21, rl_s22, rl_s23, rl_s24, rl_s25, rl_s26, rl_s27, rl_s28, rl_s29, rl_s30, rl_s31, ro_0, ro_1, ro_2, ro_3, ro_4, ro_5, ro_6, ro_7, ro_8, ro_9, ro_10, ro_11, ro_12, ro_13, ro_14, ro_15, ro_16, ro_17, ro_18, ro_19, ro_20, ro_21, ro_22, ro_23, ro_24, ro_25, ro_26, ro_27, ro_28, ro_29, ro_30, ro_31, ro_32, ro_33, ro_34, ro_35, rl_g0, rl_g1, rl_g2, rl_g3, rl_g4, Option.some.injEq, Sum.inr.injEq, Sum.inl.injEq, Prod.mk.injEq, Value.ref.injEq, Value.int.injEq, true_and, and_true, exists_eq_left', exists_eq_left, exists_and_left, forall_eq, rAr_get, nI_nn, nI_cl, exists_const, sA, sF_eq, sF_ne, sF_2, sG_1, sG_2, exists_eq', exists_eq, ix4a, ix16a, nI_add, xlt, up1_eq]
  by_cases h1 : t.1 1 p = 1 <;> simp [h1]
def f_goesDown (t : rS) (p : Nat) : rS := sA (sA (sA (sA (sA (sA t 1 p 2) 4 p 0) 14 p 0) 15 p 0) 16 p 0) 5 p 0
theorem s_M_goesDown {Q : Option Value → xH → Prop} {r : Nat} {g : xH} {t : rS} {p : Nat} (hp : p < 8) : w_M_goesDown Q r (nI p) (rl r g t) ↔ Q none (rl r g (f_goesDown t p)) := by
  unfold f_goesDown
  simp (disch := first | omega | decide) only [w_M_goesDown, rl_r, ro_len, rAr_len, rAr_set, nb0, nb1, rl_k1, rl_k2, rl_k3, rl_k4, rl_k5, rl_k6, rl_k7, rl_k8, rl_k9, rl_k10, rl_k11, rl_k12, rl_k13, rl_k14, rl_k15, rl_k16, rl_k17, rl_k18, rl_k19, rl_k20, rl_k21, rl_k22, rl_k23, rl_k24, rl_k25, rl_k26, rl_k27, rl_k28, rl_k29, rl_k30, rl_k31, rl_s1, rl_s2, rl_s3, rl_s4, rl_s5, rl_s6, rl_s7, rl_s8, rl_s9, rl_s10, rl_s11, rl_s12, rl_s13, rl_s14, rl_s15, rl_s16, rl_s17, rl_s18, rl_s19, rl_s20, rl_s21, rl_s22, rl_s23, rl_s24, rl_s25, rl_s26, rl_s27, rl_s28, rl_s29, rl_s30, rl_s31, ro_0, ro_1, ro_2, ro_3, ro_4, ro_5, ro_6, ro_7, ro_8, ro_9, ro_10, ro_11, ro_12, ro_13, ro_14, ro_15, ro_16, ro_17, ro_18, ro_19, ro_20, ro_21, ro_22, ro_23, ro_24, ro_25, ro_26, ro_27, ro_28, ro_29, ro_30, ro_31, ro_32, ro_33, ro_34, ro_35, rl_g0, rl_g1, rl_g2, rl_g3, rl_g4, Option.some.injEq, Sum.inr.injEq, Sum.inl.injEq, Prod.mk.injEq, Value.ref.injEq, Value.int.injEq, true_and, and_true, exists_eq_left', exists_eq_left, exists_and_left, forall_eq, rAr_get, nI_nn, nI_cl, exists_const, sA, sF_eq, sF_ne, sF_2, sG_1, sG_2, exists_eq', exists_eq, ix4a, ix16a, nI_add, xlt, up1_eq]
def f_mayWrite (t : rS) (p : Nat) : Int32 × rS := if t.1 1 p = 1 then (if t.1 4 p = 1 then (0, f_goesDown t p) else (1, sG (sA t 4 p (if t.1 4 p ≤ 0 then 0 else t.1 4 p - 1)) 4 (t.2 4 + 1))) else (0, t)
theorem s_M_mayWrite {Q : Option Value → xH → Prop} {r : Nat} {g : xH} {t : rS} {p : Nat} (hp : p < 8) : w_M_mayWrite Q r (nI p) (rl r g t) ↔ Q (some (.int (f_mayWrite t p).1)) (rl r g (f_mayWrite t p).2) := by
  unfold f_mayWrite
  simp (disch := first | omega | decide) only [w_M_mayWrite, w_M_mayWrite_53, s_M_isUp hp, s_M_goesDown hp, f_isUp, rl_r, ro_len, rAr_len, rAr_set, nb0, nb1, rl_k1, rl_k2, rl_k3, rl_k4, rl_k5, rl_k6, rl_k7, rl_k8, rl_k9, rl_k10, rl_k11, rl_k12, rl_k13, rl_k14, rl_k15, rl_k16, rl_k17, rl_k18, rl_k19, rl_k20, rl_k21, rl_k22, rl_k23, rl_k24, rl_k25, rl_k26, rl_k27, rl_k28, rl_k29, rl_k30, rl_k31, rl_s1, rl_s2, rl_s3, rl_s4, rl_s5, rl_s6, rl_s7, rl_s8, rl_s9, rl_s10, rl_s11, rl_s12, rl_s13, rl_s14, rl_s15, rl_s16, rl_s17, rl_s18, rl_s19, rl_s20, rl_s21, rl_s22, rl_s23, rl_s24, rl_s25, rl_s26, rl_s27, rl_s28, rl_s29, rl_s30, rl_s31, ro_0, ro_1, ro_2, ro_3, ro_4, ro_5, ro_6, ro_7, ro_8, ro_9, ro_10, ro_11, ro_12, ro_13, ro_14, ro_15, ro_16, ro_17, ro_18, ro_19, ro_20, ro_21, ro_22, ro_23, ro_24, ro_25, ro_26, ro_27, ro_28, ro_29, ro_30, ro_31, ro_32, ro_33, ro_34, ro_35, rl_g0, rl_g1, rl_g2, rl_g3, rl_g4, Option.some.injEq, Sum.inr.injEq, Sum.inl.injEq, Prod.mk.injEq, Value.ref.injEq, Value.int.injEq, true_and, and_true, exists_eq_left', exists_eq_left, exists_and_left, forall_eq, rAr_get, nI_nn, nI_cl, exists_const, sA, sF_eq, sF_ne, sF_2, sG_1, sG_2, exists_eq', exists_eq, ix4a, ix16a, nI_add, xlt, up1_eq]
  by_cases h1 : t.1 1 p = 1 <;> by_cases h2 : t.1 4 p = 1 <;> by_cases h3 : t.1 4 p ≤ 0 <;> simp [h1, h2, h3]
def f_writeRound (t : rS) (p : Nat) (v : Int32) : rS := if t.1 3 p = v then t else if (f_mayWrite t p).1 = 0 then (f_mayWrite t p).2 else sA (f_mayWrite t p).2 3 p v
theorem s_M_writeRound {Q : Option Value → xH → Prop} {r : Nat} {g : xH} {t : rS} {p : Nat} {v : Int32} (hp : p < 8) : w_M_writeRound Q r (nI p) v (rl r g t) ↔ Q none (rl r g (f_writeRound t p v)) := by
  unfold f_writeRound
  simp (disch := first | omega | decide) only [w_M_writeRound, s_M_mayWrite hp, rl_r, ro_len, rAr_len, rAr_set, nb0, nb1, rl_k1, rl_k2, rl_k3, rl_k4, rl_k5, rl_k6, rl_k7, rl_k8, rl_k9, rl_k10, rl_k11, rl_k12, rl_k13, rl_k14, rl_k15, rl_k16, rl_k17, rl_k18, rl_k19, rl_k20, rl_k21, rl_k22, rl_k23, rl_k24, rl_k25, rl_k26, rl_k27, rl_k28, rl_k29, rl_k30, rl_k31, rl_s1, rl_s2, rl_s3, rl_s4, rl_s5, rl_s6, rl_s7, rl_s8, rl_s9, rl_s10, rl_s11, rl_s12, rl_s13, rl_s14, rl_s15, rl_s16, rl_s17, rl_s18, rl_s19, rl_s20, rl_s21, rl_s22, rl_s23, rl_s24, rl_s25, rl_s26, rl_s27, rl_s28, rl_s29, rl_s30, rl_s31, ro_0, ro_1, ro_2, ro_3, ro_4, ro_5, ro_6, ro_7, ro_8, ro_9, ro_10, ro_11, ro_12, ro_13, ro_14, ro_15, ro_16, ro_17, ro_18, ro_19, ro_20, ro_21, ro_22, ro_23, ro_24, ro_25, ro_26, ro_27, ro_28, ro_29, ro_30, ro_31, ro_32, ro_33, ro_34, ro_35, rl_g0, rl_g1, rl_g2, rl_g3, rl_g4, Option.some.injEq, Sum.inr.injEq, Sum.inl.injEq, Prod.mk.injEq, Value.ref.injEq, Value.int.injEq, true_and, and_true, exists_eq_left', exists_eq_left, exists_and_left, forall_eq, rAr_get, nI_nn, nI_cl, exists_const, sA, sF_eq, sF_ne, sF_2, sG_1, sG_2, exists_eq', exists_eq, ix4a, ix16a, nI_add, xlt, up1_eq]
  by_cases h1 : t.1 3 p = v <;> by_cases h2 : (f_mayWrite t p).1 = 0 <;> simp [h1, h2]
def f_isGreater (t w u x : Int32) : Int32 := if u < t ∨ (t = u ∧ x < w) then 1 else 0
theorem s_M_isGreater {Q : Option Value → xH → Prop} {h : xH} {a b c d : Int32} : w_M_isGreater Q a b c d h ↔ Q (some (.int (f_isGreater a b c d))) h := by
  unfold w_M_isGreater f_isGreater
  simp only [w_M_isGreater_15, nb0, nb1, true_and, ← Int32.not_le]
  by_cases h1 : a ≤ c <;> by_cases h2 : a = c <;> by_cases h3 : b ≤ d <;> simp only [h1, h2, h3, Int32.le_refl, not_true_eq_false, not_false_eq_true, true_implies, false_implies, and_true, true_and, and_self, and_false, false_and, or_true, true_or, or_false, false_or, or_self, if_true, if_false]
def f_store (t : rS) (p k : Nat) (a b c : Int32) : rS := if f_isGreater a b (t.1 6 k) (t.1 7 k) = 0 then t else if (f_mayWrite t p).1 = 0 then (f_mayWrite t p).2 else sA (sA (sA (f_mayWrite t p).2 6 k a) 7 k b) 8 k c
theorem s_M_store {Q : Option Value → xH → Prop} {r : Nat} {g : xH} {t : rS} {p q : Nat} {a b c : Int32} (hp : p < 8) (hq : q < 4) : w_M_store Q r (nI p) (nI q) a b c (rl r g t) ↔ Q none (rl r g (f_store t p (4 * p + q) a b c)) := by
  unfold f_store
  simp (disch := first | omega | decide) only [w_M_store, s_M_mayWrite hp, s_M_isGreater, rl_r, ro_len, rAr_len, rAr_set, nb0, nb1, rl_k1, rl_k2, rl_k3, rl_k4, rl_k5, rl_k6, rl_k7, rl_k8, rl_k9, rl_k10, rl_k11, rl_k12, rl_k13, rl_k14, rl_k15, rl_k16, rl_k17, rl_k18, rl_k19, rl_k20, rl_k21, rl_k22, rl_k23, rl_k24, rl_k25, rl_k26, rl_k27, rl_k28, rl_k29, rl_k30, rl_k31, rl_s1, rl_s2, rl_s3, rl_s4, rl_s5, rl_s6, rl_s7, rl_s8, rl_s9, rl_s10, rl_s11, rl_s12, rl_s13, rl_s14, rl_s15, rl_s16, rl_s17, rl_s18, rl_s19, rl_s20, rl_s21, rl_s22, rl_s23, rl_s24, rl_s25, rl_s26, rl_s27, rl_s28, rl_s29, rl_s30, rl_s31, ro_0, ro_1, ro_2, ro_3, ro_4, ro_5, ro_6, ro_7, ro_8, ro_9, ro_10, ro_11, ro_12, ro_13, ro_14, ro_15, ro_16, ro_17, ro_18, ro_19, ro_20, ro_21, ro_22, ro_23, ro_24, ro_25, ro_26, ro_27, ro_28, ro_29, ro_30, ro_31, ro_32, ro_33, ro_34, ro_35, rl_g0, rl_g1, rl_g2, rl_g3, rl_g4, Option.some.injEq, Sum.inr.injEq, Sum.inl.injEq, Prod.mk.injEq, Value.ref.injEq, Value.int.injEq, true_and, and_true, exists_eq_left', exists_eq_left, exists_and_left, forall_eq, rAr_get, nI_nn, nI_cl, exists_const, sA, sF_eq, sF_ne, sF_2, sG_1, sG_2, exists_eq', exists_eq, ix4a, ix16a, nI_add, xlt, up1_eq]
  by_cases h1 : f_isGreater a b (t.1 6 (4 * p + q)) (t.1 7 (4 * p + q)) = 0 <;> by_cases h2 : (f_mayWrite t p).1 = 0 <;> simp [h1, h2]
def bt (s : Int32) (k : Nat) : Int32 := (s >>> (nI k &&& 31)) &&& 1
def mny (s : Int32) : Nat → Int32
  | 0 => 0
  | k + 1 => mny s k + bt s k
theorem s_M_many {Q : Option Value → xH → Prop} {h : xH} {s : Int32} : w_M_many Q s h ↔ Q (some (.int (mny s 8))) h := by
  unfold w_M_many
  refine loop_iff (fun n (x : Int32 × Int32) => w_M_many_4 Q n s x.1 x.2 h) (fun k => (mny s k, nI k)) 8 _ (fun _ => id) ?_ ?_
  · intro n k hk
    show w_M_many_4 Q (n + 1) s (mny s k) (nI k) h ↔ w_M_many_4 Q n s (mny s k + bt s k) (nI (k + 1)) h
    rw [w_M_many_4, nI_1]
    have h1 : ¬ (8 : Int32) ≤ nI k := by rw [show (8 : Int32) = nI 8 from rfl, nI_leI (by omega) (by omega)]; omega
    simp only [h1, false_implies, not_false_eq_true, true_implies, true_and]
    rfl
  · intro n
    show w_M_many_4 Q (n + 1) s (mny s 8) (nI 8) h ↔ _
    rw [w_M_many_4]
    have h1 : (8 : Int32) ≤ nI 8 := by decide
    simp [h1]
def f_writeMap (t : rS) (p k : Nat) (s c : Int32) : rS := if t.1 9 k = s ∧ t.1 10 k = c then t else if (f_mayWrite t p).1 = 0 then (f_mayWrite t p).2 else sA (sA (f_mayWrite t p).2 9 k s) 10 k c
theorem s_M_writeMap {Q : Option Value → xH → Prop} {r : Nat} {g : xH} {t : rS} {p q : Nat} {a b : Int32} (hp : p < 8) (hq : q < 16) : w_M_writeMap Q r (nI p) (nI q) a b (rl r g t) ↔ Q none (rl r g (f_writeMap t p (16 * p + q) a b)) := by
  unfold f_writeMap
  simp (disch := first | omega | decide) only [w_M_writeMap, w_M_writeMap_31, s_M_mayWrite hp, rl_r, ro_len, rAr_len, rAr_set, nb0, nb1, rl_k1, rl_k2, rl_k3, rl_k4, rl_k5, rl_k6, rl_k7, rl_k8, rl_k9, rl_k10, rl_k11, rl_k12, rl_k13, rl_k14, rl_k15, rl_k16, rl_k17, rl_k18, rl_k19, rl_k20, rl_k21, rl_k22, rl_k23, rl_k24, rl_k25, rl_k26, rl_k27, rl_k28, rl_k29, rl_k30, rl_k31, rl_s1, rl_s2, rl_s3, rl_s4, rl_s5, rl_s6, rl_s7, rl_s8, rl_s9, rl_s10, rl_s11, rl_s12, rl_s13, rl_s14, rl_s15, rl_s16, rl_s17, rl_s18, rl_s19, rl_s20, rl_s21, rl_s22, rl_s23, rl_s24, rl_s25, rl_s26, rl_s27, rl_s28, rl_s29, rl_s30, rl_s31, ro_0, ro_1, ro_2, ro_3, ro_4, ro_5, ro_6, ro_7, ro_8, ro_9, ro_10, ro_11, ro_12, ro_13, ro_14, ro_15, ro_16, ro_17, ro_18, ro_19, ro_20, ro_21, ro_22, ro_23, ro_24, ro_25, ro_26, ro_27, ro_28, ro_29, ro_30, ro_31, ro_32, ro_33, ro_34, ro_35, rl_g0, rl_g1, rl_g2, rl_g3, rl_g4, Option.some.injEq, Sum.inr.injEq, Sum.inl.injEq, Prod.mk.injEq, Value.ref.injEq, Value.int.injEq, true_and, and_true, exists_eq_left', exists_eq_left, exists_and_left, forall_eq, rAr_get, nI_nn, nI_cl, exists_const, sA, sF_eq, sF_ne, sF_2, sG_1, sG_2, exists_eq', exists_eq, ix4a, ix16a, nI_add, xlt, up1_eq]
  by_cases h1 : t.1 9 (16 * p + q) = a <;> by_cases h2 : t.1 10 (16 * p + q) = b <;> by_cases h3 : (f_mayWrite t p).1 = 0 <;> simp [h1, h2, h3]
def f_writeVote (t : rS) (p k : Nat) (a b c : Int32) : rS := if t.1 11 k = a ∧ t.1 12 k = b ∧ t.1 13 k = c then t else if (f_mayWrite t p).1 = 0 then (f_mayWrite t p).2 else sA (sA (sA (f_mayWrite t p).2 11 k a) 12 k b) 13 k c
theorem s_M_writeVote {Q : Option Value → xH → Prop} {r : Nat} {g : xH} {t : rS} {p q : Nat} {a b c : Int32} (hp : p < 8) (hq : q < 16) : w_M_writeVote Q r (nI p) (nI q) a b c (rl r g t) ↔ Q none (rl r g (f_writeVote t p (16 * p + q) a b c)) := by
  unfold f_writeVote
  simp (disch := first | omega | decide) only [w_M_writeVote, w_M_writeVote_43, s_M_mayWrite hp, rl_r, ro_len, rAr_len, rAr_set, nb0, nb1, rl_k1, rl_k2, rl_k3, rl_k4, rl_k5, rl_k6, rl_k7, rl_k8, rl_k9, rl_k10, rl_k11, rl_k12, rl_k13, rl_k14, rl_k15, rl_k16, rl_k17, rl_k18, rl_k19, rl_k20, rl_k21, rl_k22, rl_k23, rl_k24, rl_k25, rl_k26, rl_k27, rl_k28, rl_k29, rl_k30, rl_k31, rl_s1, rl_s2, rl_s3, rl_s4, rl_s5, rl_s6, rl_s7, rl_s8, rl_s9, rl_s10, rl_s11, rl_s12, rl_s13, rl_s14, rl_s15, rl_s16, rl_s17, rl_s18, rl_s19, rl_s20, rl_s21, rl_s22, rl_s23, rl_s24, rl_s25, rl_s26, rl_s27, rl_s28, rl_s29, rl_s30, rl_s31, ro_0, ro_1, ro_2, ro_3, ro_4, ro_5, ro_6, ro_7, ro_8, ro_9, ro_10, ro_11, ro_12, ro_13, ro_14, ro_15, ro_16, ro_17, ro_18, ro_19, ro_20, ro_21, ro_22, ro_23, ro_24, ro_25, ro_26, ro_27, ro_28, ro_29, ro_30, ro_31, ro_32, ro_33, ro_34, ro_35, rl_g0, rl_g1, rl_g2, rl_g3, rl_g4, Option.some.injEq, Sum.inr.injEq, Sum.inl.injEq, Prod.mk.injEq, Value.ref.injEq, Value.int.injEq, true_and, and_true, exists_eq_left', exists_eq_left, exists_and_left, forall_eq, rAr_get, nI_nn, nI_cl, exists_const, sA, sF_eq, sF_ne, sF_2, sG_1, sG_2, exists_eq', exists_eq, ix4a, ix16a, nI_add, xlt, up1_eq]
  by_cases h1 : t.1 11 (16 * p + q) = a <;> by_cases h2 : t.1 12 (16 * p + q) = b <;> by_cases h4 : t.1 13 (16 * p + q) = c <;> by_cases h3 : (f_mayWrite t p).1 = 0 <;> simp [h1, h2, h3, h4]
def gre (f : Nat → Int32) : Nat → Int32
  | 0 => -1
  | k + 1 => if f k = 1 then nI k else gre f k
theorem s_M_greatest {Q : Option Value → xH → Prop} {r : Nat} {g : xH} {t : rS} {p : Nat} (hp : p < 8) : w_M_greatest Q r (nI p) (rl r g t) ↔ Q (some (.int (gre (fun i => t.1 9 (16 * p + i)) 16))) (rl r g t) := by
  unfold w_M_greatest
  refine loop_iff (fun n (x : Int32 × Int32) => w_M_greatest_4 Q n r (nI p) x.1 x.2 (rl r g t)) (fun k => (gre (fun i => t.1 9 (16 * p + i)) k, nI k)) 16 _ (fun _ => id) ?_ ?_
  · intro n k hk
    show w_M_greatest_4 Q (n + 1) r (nI p) (gre (fun i => t.1 9 (16 * p + i)) k) (nI k) (rl r g t) ↔ w_M_greatest_4 Q n r (nI p) (if t.1 9 (16 * p + k) = 1 then nI k else gre (fun i => t.1 9 (16 * p + i)) k) (nI (k + 1)) (rl r g t)
    rw [w_M_greatest_4]
    simp (disch := first | omega | decide) only [w_M_greatest, w_M_greatest_30, rl_r, ro_len, rAr_len, rAr_set, nb0, nb1, rl_k1, rl_k2, rl_k3, rl_k4, rl_k5, rl_k6, rl_k7, rl_k8, rl_k9, rl_k10, rl_k11, rl_k12, rl_k13, rl_k14, rl_k15, rl_k16, rl_k17, rl_k18, rl_k19, rl_k20, rl_k21, rl_k22, rl_k23, rl_k24, rl_k25, rl_k26, rl_k27, rl_k28, rl_k29, rl_k30, rl_k31, rl_s1, rl_s2, rl_s3, rl_s4, rl_s5, rl_s6, rl_s7, rl_s8, rl_s9, rl_s10, rl_s11, rl_s12, rl_s13, rl_s14, rl_s15, rl_s16, rl_s17, rl_s18, rl_s19, rl_s20, rl_s21, rl_s22, rl_s23, rl_s24, rl_s25, rl_s26, rl_s27, rl_s28, rl_s29, rl_s30, rl_s31, ro_0, ro_1, ro_2, ro_3, ro_4, ro_5, ro_6, ro_7, ro_8, ro_9, ro_10, ro_11, ro_12, ro_13, ro_14, ro_15, ro_16, ro_17, ro_18, ro_19, ro_20, ro_21, ro_22, ro_23, ro_24, ro_25, ro_26, ro_27, ro_28, ro_29, ro_30, ro_31, ro_32, ro_33, ro_34, ro_35, rl_g0, rl_g1, rl_g2, rl_g3, rl_g4, Option.some.injEq, Sum.inr.injEq, Sum.inl.injEq, Prod.mk.injEq, Value.ref.injEq, Value.int.injEq, true_and, and_true, exists_eq_left', exists_eq_left, exists_and_left, forall_eq, rAr_get, nI_nn, nI_cl, exists_const, sA, sF_eq, sF_ne, sF_2, sG_1, sG_2, exists_eq', exists_eq, ix4a, ix16a, nI_add, xlt, up1_eq, xge16, nI_1, not_false_eq_true, true_implies, false_implies]
    by_cases h1 : t.1 9 (16 * p + k) = 1 <;> simp [h1]
  · intro n
    show w_M_greatest_4 Q (n + 1) r (nI p) (gre (fun i => t.1 9 (16 * p + i)) 16) (nI 16) (rl r g t) ↔ _
    rw [w_M_greatest_4]
    have h1 : (16 : Int32) ≤ nI 16 := by decide
    simp [h1]
def f_isData (t : rS) (p : Nat) : Int32 := if t.1 15 p = 1 ∨ t.1 15 p = 2 then 1 else 0
theorem s_M_isData {Q : Option Value → xH → Prop} {r : Nat} {g : xH} {t : rS} {p : Nat} (hp : p < 8) : w_M_isData Q r (nI p) (rl r g t) ↔ Q (some (.int (f_isData t p))) (rl r g t) := by
  unfold f_isData
  simp (disch := first | omega | decide) only [w_M_isData, w_M_isData_20, rl_r, ro_len, rAr_len, rAr_set, nb0, nb1, rl_k1, rl_k2, rl_k3, rl_k4, rl_k5, rl_k6, rl_k7, rl_k8, rl_k9, rl_k10, rl_k11, rl_k12, rl_k13, rl_k14, rl_k15, rl_k16, rl_k17, rl_k18, rl_k19, rl_k20, rl_k21, rl_k22, rl_k23, rl_k24, rl_k25, rl_k26, rl_k27, rl_k28, rl_k29, rl_k30, rl_k31, rl_s1, rl_s2, rl_s3, rl_s4, rl_s5, rl_s6, rl_s7, rl_s8, rl_s9, rl_s10, rl_s11, rl_s12, rl_s13, rl_s14, rl_s15, rl_s16, rl_s17, rl_s18, rl_s19, rl_s20, rl_s21, rl_s22, rl_s23, rl_s24, rl_s25, rl_s26, rl_s27, rl_s28, rl_s29, rl_s30, rl_s31, ro_0, ro_1, ro_2, ro_3, ro_4, ro_5, ro_6, ro_7, ro_8, ro_9, ro_10, ro_11, ro_12, ro_13, ro_14, ro_15, ro_16, ro_17, ro_18, ro_19, ro_20, ro_21, ro_22, ro_23, ro_24, ro_25, ro_26, ro_27, ro_28, ro_29, ro_30, ro_31, ro_32, ro_33, ro_34, ro_35, rl_g0, rl_g1, rl_g2, rl_g3, rl_g4, Option.some.injEq, Sum.inr.injEq, Sum.inl.injEq, Prod.mk.injEq, Value.ref.injEq, Value.int.injEq, true_and, and_true, exists_eq_left', exists_eq_left, exists_and_left, forall_eq, rAr_get, nI_nn, nI_cl, exists_const, sA, sF_eq, sF_ne, sF_2, sG_1, sG_2, exists_eq', exists_eq, ix4a, ix16a, nI_add, xlt, up1_eq]
  by_cases h1 : t.1 15 p = 1 <;> by_cases h2 : t.1 15 p = 2 <;> simp [h1, h2]
def f_chosen (t : rS) (p : Nat) : Int32 := if t.1 25 p ≤ 0 then t.1 21 p else t.1 26 p
theorem s_M_chosen {Q : Option Value → xH → Prop} {r : Nat} {g : xH} {t : rS} {p : Nat} (hp : p < 8) : w_M_chosen Q r (nI p) (rl r g t) ↔ Q (some (.int (f_chosen t p))) (rl r g t) := by
  unfold f_chosen
  simp (disch := first | omega | decide) only [w_M_chosen, rl_r, ro_len, rAr_len, rAr_set, nb0, nb1, rl_k1, rl_k2, rl_k3, rl_k4, rl_k5, rl_k6, rl_k7, rl_k8, rl_k9, rl_k10, rl_k11, rl_k12, rl_k13, rl_k14, rl_k15, rl_k16, rl_k17, rl_k18, rl_k19, rl_k20, rl_k21, rl_k22, rl_k23, rl_k24, rl_k25, rl_k26, rl_k27, rl_k28, rl_k29, rl_k30, rl_k31, rl_s1, rl_s2, rl_s3, rl_s4, rl_s5, rl_s6, rl_s7, rl_s8, rl_s9, rl_s10, rl_s11, rl_s12, rl_s13, rl_s14, rl_s15, rl_s16, rl_s17, rl_s18, rl_s19, rl_s20, rl_s21, rl_s22, rl_s23, rl_s24, rl_s25, rl_s26, rl_s27, rl_s28, rl_s29, rl_s30, rl_s31, ro_0, ro_1, ro_2, ro_3, ro_4, ro_5, ro_6, ro_7, ro_8, ro_9, ro_10, ro_11, ro_12, ro_13, ro_14, ro_15, ro_16, ro_17, ro_18, ro_19, ro_20, ro_21, ro_22, ro_23, ro_24, ro_25, ro_26, ro_27, ro_28, ro_29, ro_30, ro_31, ro_32, ro_33, ro_34, ro_35, rl_g0, rl_g1, rl_g2, rl_g3, rl_g4, Option.some.injEq, Sum.inr.injEq, Sum.inl.injEq, Prod.mk.injEq, Value.ref.injEq, Value.int.injEq, true_and, and_true, exists_eq_left', exists_eq_left, exists_and_left, forall_eq, rAr_get, nI_nn, nI_cl, exists_const, sA, sF_eq, sF_ne, sF_2, sG_1, sG_2, exists_eq', exists_eq, ix4a, ix16a, nI_add, xlt, up1_eq]
  by_cases h1 : t.1 25 p ≤ 0 <;> simp [h1]
def f_top (t : rS) (p : Nat) (b c : Int32) : rS := if b ≤ t.1 25 p then t else sA (sA t 25 p b) 26 p c
theorem s_M_top {Q : Option Value → xH → Prop} {r : Nat} {g : xH} {t : rS} {p : Nat} {b c : Int32} (hp : p < 8) : w_M_top Q r (nI p) b c (rl r g t) ↔ Q none (rl r g (f_top t p b c)) := by
  unfold f_top
  simp (disch := first | omega | decide) only [w_M_top, rl_r, ro_len, rAr_len, rAr_set, nb0, nb1, rl_k1, rl_k2, rl_k3, rl_k4, rl_k5, rl_k6, rl_k7, rl_k8, rl_k9, rl_k10, rl_k11, rl_k12, rl_k13, rl_k14, rl_k15, rl_k16, rl_k17, rl_k18, rl_k19, rl_k20, rl_k21, rl_k22, rl_k23, rl_k24, rl_k25, rl_k26, rl_k27, rl_k28, rl_k29, rl_k30, rl_k31, rl_s1, rl_s2, rl_s3, rl_s4, rl_s5, rl_s6, rl_s7, rl_s8, rl_s9, rl_s10, rl_s11, rl_s12, rl_s13, rl_s14, rl_s15, rl_s16, rl_s17, rl_s18, rl_s19, rl_s20, rl_s21, rl_s22, rl_s23, rl_s24, rl_s25, rl_s26, rl_s27, rl_s28, rl_s29, rl_s30, rl_s31, ro_0, ro_1, ro_2, ro_3, ro_4, ro_5, ro_6, ro_7, ro_8, ro_9, ro_10, ro_11, ro_12, ro_13, ro_14, ro_15, ro_16, ro_17, ro_18, ro_19, ro_20, ro_21, ro_22, ro_23, ro_24, ro_25, ro_26, ro_27, ro_28, ro_29, ro_30, ro_31, ro_32, ro_33, ro_34, ro_35, rl_g0, rl_g1, rl_g2, rl_g3, rl_g4, Option.some.injEq, Sum.inr.injEq, Sum.inl.injEq, Prod.mk.injEq, Value.ref.injEq, Value.int.injEq, true_and, and_true, exists_eq_left', exists_eq_left, exists_and_left, forall_eq, rAr_get, nI_nn, nI_cl, exists_const, sA, sF_eq, sF_ne, sF_2, sG_1, sG_2, exists_eq', exists_eq, ix4a, ix16a, nI_add, xlt, up1_eq]
  simp only [← Int32.not_le]
  by_cases h1 : b ≤ t.1 25 p <;> simp [h1]
def f_best (t : rS) (k : Nat) (a b c : Int32) : rS := if f_isGreater a b (t.1 27 k) (t.1 28 k) = 0 then t else sA (sA (sA t 27 k a) 28 k b) 29 k c
theorem s_M_best {Q : Option Value → xH → Prop} {r : Nat} {g : xH} {t : rS} {p q : Nat} {a b c : Int32} (hp : p < 8) (hq : q < 4) : w_M_best Q r (nI p) (nI q) a b c (rl r g t) ↔ Q none (rl r g (f_best t (4 * p + q) a b c)) := by
  unfold f_best
  simp (disch := first | omega | decide) only [w_M_best, s_M_isGreater, rl_r, ro_len, rAr_len, rAr_set, nb0, nb1, rl_k1, rl_k2, rl_k3, rl_k4, rl_k5, rl_k6, rl_k7, rl_k8, rl_k9, rl_k10, rl_k11, rl_k12, rl_k13, rl_k14, rl_k15, rl_k16, rl_k17, rl_k18, rl_k19, rl_k20, rl_k21, rl_k22, rl_k23, rl_k24, rl_k25, rl_k26, rl_k27, rl_k28, rl_k29, rl_k30, rl_k31, rl_s1, rl_s2, rl_s3, rl_s4, rl_s5, rl_s6, rl_s7, rl_s8, rl_s9, rl_s10, rl_s11, rl_s12, rl_s13, rl_s14, rl_s15, rl_s16, rl_s17, rl_s18, rl_s19, rl_s20, rl_s21, rl_s22, rl_s23, rl_s24, rl_s25, rl_s26, rl_s27, rl_s28, rl_s29, rl_s30, rl_s31, ro_0, ro_1, ro_2, ro_3, ro_4, ro_5, ro_6, ro_7, ro_8, ro_9, ro_10, ro_11, ro_12, ro_13, ro_14, ro_15, ro_16, ro_17, ro_18, ro_19, ro_20, ro_21, ro_22, ro_23, ro_24, ro_25, ro_26, ro_27, ro_28, ro_29, ro_30, ro_31, ro_32, ro_33, ro_34, ro_35, rl_g0, rl_g1, rl_g2, rl_g3, rl_g4, Option.some.injEq, Sum.inr.injEq, Sum.inl.injEq, Prod.mk.injEq, Value.ref.injEq, Value.int.injEq, true_and, and_true, exists_eq_left', exists_eq_left, exists_and_left, forall_eq, rAr_get, nI_nn, nI_cl, exists_const, sA, sF_eq, sF_ne, sF_2, sG_1, sG_2, exists_eq', exists_eq, ix4a, ix16a, nI_add, xlt, up1_eq]
  by_cases h1 : f_isGreater a b (t.1 27 (4 * p + q)) (t.1 28 (4 * p + q)) = 0 <;> simp [h1]
def f_refused (t : rS) (p : Nat) (b : Int32) : rS := if t.1 3 p < b >>> (3 &&& 31) then f_writeRound t p (b >>> (3 &&& 31)) else t
theorem s_M_refused {Q : Option Value → xH → Prop} {r : Nat} {g : xH} {t : rS} {p : Nat} {b : Int32} (hp : p < 8) : w_M_refused Q r (nI p) b (rl r g t) ↔ Q none (rl r g (f_refused t p b)) := by
  unfold f_refused
  simp (disch := first | omega | decide) only [w_M_refused, s_M_writeRound hp, rl_r, ro_len, rAr_len, rAr_set, nb0, nb1, rl_k1, rl_k2, rl_k3, rl_k4, rl_k5, rl_k6, rl_k7, rl_k8, rl_k9, rl_k10, rl_k11, rl_k12, rl_k13, rl_k14, rl_k15, rl_k16, rl_k17, rl_k18, rl_k19, rl_k20, rl_k21, rl_k22, rl_k23, rl_k24, rl_k25, rl_k26, rl_k27, rl_k28, rl_k29, rl_k30, rl_k31, rl_s1, rl_s2, rl_s3, rl_s4, rl_s5, rl_s6, rl_s7, rl_s8, rl_s9, rl_s10, rl_s11, rl_s12, rl_s13, rl_s14, rl_s15, rl_s16, rl_s17, rl_s18, rl_s19, rl_s20, rl_s21, rl_s22, rl_s23, rl_s24, rl_s25, rl_s26, rl_s27, rl_s28, rl_s29, rl_s30, rl_s31, ro_0, ro_1, ro_2, ro_3, ro_4, ro_5, ro_6, ro_7, ro_8, ro_9, ro_10, ro_11, ro_12, ro_13, ro_14, ro_15, ro_16, ro_17, ro_18, ro_19, ro_20, ro_21, ro_22, ro_23, ro_24, ro_25, ro_26, ro_27, ro_28, ro_29, ro_30, ro_31, ro_32, ro_33, ro_34, ro_35, rl_g0, rl_g1, rl_g2, rl_g3, rl_g4, Option.some.injEq, Sum.inr.injEq, Sum.inl.injEq, Prod.mk.injEq, Value.ref.injEq, Value.int.injEq, true_and, and_true, exists_eq_left', exists_eq_left, exists_and_left, forall_eq, rAr_get, nI_nn, nI_cl, exists_const, sA, sF_eq, sF_ne, sF_2, sG_1, sG_2, exists_eq', exists_eq, ix4a, ix16a, nI_add, xlt, up1_eq]
  simp only [← Int32.not_le]
  by_cases h1 : b >>> (3 &&& 31) ≤ t.1 3 p <;> simp [h1]
def lst (f : Nat → Int32) : Nat → Int32
  | 0 => -1
  | k + 1 => if f (15 - k) = 1 then nI (15 - k) else lst f k
theorem xdn {k : Nat} (h : k < 16) : (0 : Int32) ≤ nI (15 - k) := nI_pos' (by omega)
theorem xdn1 {k : Nat} (h : k < 16) : (nI (15 - k) < 0) = False := by
  have := nI_pos (n := 15 - k) (by omega)
  simp [this]
def aac (kn se : Nat → Int32) : Nat → Int32
  | 0 => 0
  | k + 1 => aac kn se k ||| (if kn k = 1 then se k &&& 255 else 0)
theorem s_M_allActive {Q : Option Value → xH → Prop} {r : Nat} {g : xH} {t : rS} {p : Nat} (hp : p < 8) : w_M_allActive Q r (nI p) (rl r g t) ↔ Q (some (.int (aac (fun i => t.1 9 (16 * p + i)) (fun i => t.1 10 (16 * p + i)) 16))) (rl r g t) := by
  unfold w_M_allActive
  refine loop_iff (fun n (x : Int32 × Int32) => w_M_allActive_4 Q n r (nI p) x.1 x.2 (rl r g t)) (fun k => (aac (fun i => t.1 9 (16 * p + i)) (fun i => t.1 10 (16 * p + i)) k, nI k)) 16 _ (fun _ => id) ?_ ?_
  · intro n k hk
    show w_M_allActive_4 Q (n + 1) r (nI p) (aac (fun i => t.1 9 (16 * p + i)) (fun i => t.1 10 (16 * p + i)) k) (nI k) (rl r g t) ↔ w_M_allActive_4 Q n r (nI p) (aac (fun i => t.1 9 (16 * p + i)) (fun i => t.1 10 (16 * p + i)) k ||| (if t.1 9 (16 * p + k) = 1 then t.1 10 (16 * p + k) &&& 255 else 0)) (nI (k + 1)) (rl r g t)
    rw [w_M_allActive_4]
    simp (disch := first | omega | decide) only [w_M_allActive, w_M_allActive_45, rl_r, ro_len, rAr_len, rAr_set, nb0, nb1, rl_k1, rl_k2, rl_k3, rl_k4, rl_k5, rl_k6, rl_k7, rl_k8, rl_k9, rl_k10, rl_k11, rl_k12, rl_k13, rl_k14, rl_k15, rl_k16, rl_k17, rl_k18, rl_k19, rl_k20, rl_k21, rl_k22, rl_k23, rl_k24, rl_k25, rl_k26, rl_k27, rl_k28, rl_k29, rl_k30, rl_k31, rl_s1, rl_s2, rl_s3, rl_s4, rl_s5, rl_s6, rl_s7, rl_s8, rl_s9, rl_s10, rl_s11, rl_s12, rl_s13, rl_s14, rl_s15, rl_s16, rl_s17, rl_s18, rl_s19, rl_s20, rl_s21, rl_s22, rl_s23, rl_s24, rl_s25, rl_s26, rl_s27, rl_s28, rl_s29, rl_s30, rl_s31, ro_0, ro_1, ro_2, ro_3, ro_4, ro_5, ro_6, ro_7, ro_8, ro_9, ro_10, ro_11, ro_12, ro_13, ro_14, ro_15, ro_16, ro_17, ro_18, ro_19, ro_20, ro_21, ro_22, ro_23, ro_24, ro_25, ro_26, ro_27, ro_28, ro_29, ro_30, ro_31, ro_32, ro_33, ro_34, ro_35, rl_g0, rl_g1, rl_g2, rl_g3, rl_g4, Option.some.injEq, Sum.inr.injEq, Sum.inl.injEq, Prod.mk.injEq, Value.ref.injEq, Value.int.injEq, true_and, and_true, exists_eq_left', exists_eq_left, exists_and_left, forall_eq, rAr_get, nI_nn, nI_cl, exists_const, sA, sF_eq, sF_ne, sF_2, sG_1, sG_2, exists_eq', exists_eq, ix4a, ix16a, nI_add, xlt, up1_eq, xge16, nI_1, not_false_eq_true, true_implies, false_implies]
    by_cases h1 : t.1 9 (16 * p + k) = 1 <;> simp [h1]
  · intro n
    show w_M_allActive_4 Q (n + 1) r (nI p) (aac (fun i => t.1 9 (16 * p + i)) (fun i => t.1 10 (16 * p + i)) 16) (nI 16) (rl r g t) ↔ _
    rw [w_M_allActive_4]
    have h1 : (16 : Int32) ≤ nI 16 := by decide
    simp [h1]
theorem s_M_many16 {Q : Option Value → xH → Prop} {h : xH} {s : Int32} : w_M_many16 Q s h ↔ Q (some (.int (mny s 16))) h := by
  unfold w_M_many16
  refine loop_iff (fun n (x : Int32 × Int32) => w_M_many16_4 Q n s x.1 x.2 h) (fun k => (mny s k, nI k)) 16 _ (fun _ => id) ?_ ?_
  · intro n k hk
    show w_M_many16_4 Q (n + 1) s (mny s k) (nI k) h ↔ w_M_many16_4 Q n s (mny s k + bt s k) (nI (k + 1)) h
    rw [w_M_many16_4]
    simp (disch := omega) only [xge16, nI_1, false_implies, not_false_eq_true, true_implies, true_and]
    rfl
  · intro n
    show w_M_many16_4 Q (n + 1) s (mny s 16) (nI 16) h ↔ _
    rw [w_M_many16_4]
    have h1 : (16 : Int32) ≤ nI 16 := by decide
    simp [h1]
def f_own (t : rS) (p : Nat) : Nat → rS
  | 0 => t
  | k + 1 => sA (sA (sA (f_own t p k) 27 (4 * p + k) ((f_own t p k).1 6 (4 * p + k))) 28 (4 * p + k) ((f_own t p k).1 7 (4 * p + k))) 29 (4 * p + k) ((f_own t p k).1 8 (4 * p + k))
theorem s_M_bestIsOwn {Q : Option Value → xH → Prop} {r : Nat} {g : xH} {t : rS} {p : Nat} (hp : p < 8) : w_M_bestIsOwn Q r (nI p) (rl r g t) ↔ Q none (rl r g (f_own t p 4)) := by
  unfold w_M_bestIsOwn
  refine loop_iff (fun n (x : Int32 × xH) => w_M_bestIsOwn_2 Q n r (nI p) x.1 x.2) (fun k => (nI k, rl r g (f_own t p k))) 4 _ (fun _ => id) ?_ ?_
  · intro n k hk
    show w_M_bestIsOwn_2 Q (n + 1) r (nI p) (nI k) (rl r g (f_own t p k)) ↔ w_M_bestIsOwn_2 Q n r (nI p) (nI (k + 1)) (rl r g (f_own t p (k + 1)))
    rw [w_M_bestIsOwn_2, f_own]
    simp (disch := first | omega | decide) only [w_M_bestIsOwn, rl_r, ro_len, rAr_len, rAr_set, nb0, nb1, rl_k1, rl_k2, rl_k3, rl_k4, rl_k5, rl_k6, rl_k7, rl_k8, rl_k9, rl_k10, rl_k11, rl_k12, rl_k13, rl_k14, rl_k15, rl_k16, rl_k17, rl_k18, rl_k19, rl_k20, rl_k21, rl_k22, rl_k23, rl_k24, rl_k25, rl_k26, rl_k27, rl_k28, rl_k29, rl_k30, rl_k31, rl_s1, rl_s2, rl_s3, rl_s4, rl_s5, rl_s6, rl_s7, rl_s8, rl_s9, rl_s10, rl_s11, rl_s12, rl_s13, rl_s14, rl_s15, rl_s16, rl_s17, rl_s18, rl_s19, rl_s20, rl_s21, rl_s22, rl_s23, rl_s24, rl_s25, rl_s26, rl_s27, rl_s28, rl_s29, rl_s30, rl_s31, ro_0, ro_1, ro_2, ro_3, ro_4, ro_5, ro_6, ro_7, ro_8, ro_9, ro_10, ro_11, ro_12, ro_13, ro_14, ro_15, ro_16, ro_17, ro_18, ro_19, ro_20, ro_21, ro_22, ro_23, ro_24, ro_25, ro_26, ro_27, ro_28, ro_29, ro_30, ro_31, ro_32, ro_33, ro_34, ro_35, rl_g0, rl_g1, rl_g2, rl_g3, rl_g4, Option.some.injEq, Sum.inr.injEq, Sum.inl.injEq, Prod.mk.injEq, Value.ref.injEq, Value.int.injEq, true_and, and_true, exists_eq_left', exists_eq_left, exists_and_left, forall_eq, rAr_get, nI_nn, nI_cl, exists_const, sA, sF_eq, sF_ne, sF_2, sG_1, sG_2, exists_eq', exists_eq, ix4a, ix16a, nI_add, xlt, up1_eq, xge4, nI_1, not_false_eq_true, true_implies, false_implies]
  · intro n
    show w_M_bestIsOwn_2 Q (n + 1) r (nI p) (nI 4) (rl r g (f_own t p 4)) ↔ _
    rw [w_M_bestIsOwn_2]
    have h1 : (4 : Int32) ≤ nI 4 := by decide
    simp [h1]
def f_proposed (t : rS) (p a : Nat) : rS := sA (sA t 18 p (if t.1 10 (16 * p + a) = t.1 21 p then 1 else 0)) 16 p 0
theorem s_M_proposed {Q : Option Value → xH → Prop} {r : Nat} {g : xH} {t : rS} {p a : Nat} (hp : p < 8) (ha : a < 16) (h17 : t.1 17 p = nI a) : w_M_proposed Q r (nI p) (rl r g t) ↔ Q none (rl r g (f_proposed t p a)) := by
  unfold f_proposed
  simp (disch := first | omega | decide) only [w_M_proposed, w_M_proposed_35, rl_r, ro_len, rAr_len, rAr_set, nb0, nb1, rl_k1, rl_k2, rl_k3, rl_k4, rl_k5, rl_k6, rl_k7, rl_k8, rl_k9, rl_k10, rl_k11, rl_k12, rl_k13, rl_k14, rl_k15, rl_k16, rl_k17, rl_k18, rl_k19, rl_k20, rl_k21, rl_k22, rl_k23, rl_k24, rl_k25, rl_k26, rl_k27, rl_k28, rl_k29, rl_k30, rl_k31, rl_s1, rl_s2, rl_s3, rl_s4, rl_s5, rl_s6, rl_s7, rl_s8, rl_s9, rl_s10, rl_s11, rl_s12, rl_s13, rl_s14, rl_s15, rl_s16, rl_s17, rl_s18, rl_s19, rl_s20, rl_s21, rl_s22, rl_s23, rl_s24, rl_s25, rl_s26, rl_s27, rl_s28, rl_s29, rl_s30, rl_s31, ro_0, ro_1, ro_2, ro_3, ro_4, ro_5, ro_6, ro_7, ro_8, ro_9, ro_10, ro_11, ro_12, ro_13, ro_14, ro_15, ro_16, ro_17, ro_18, ro_19, ro_20, ro_21, ro_22, ro_23, ro_24, ro_25, ro_26, ro_27, ro_28, ro_29, ro_30, ro_31, ro_32, ro_33, ro_34, ro_35, rl_g0, rl_g1, rl_g2, rl_g3, rl_g4, Option.some.injEq, Sum.inr.injEq, Sum.inl.injEq, Prod.mk.injEq, Value.ref.injEq, Value.int.injEq, true_and, and_true, exists_eq_left', exists_eq_left, exists_and_left, forall_eq, rAr_get, nI_nn, nI_cl, exists_const, sA, sF_eq, sF_ne, sF_2, sG_1, sG_2, exists_eq', exists_eq, ix4a, ix16a, nI_add, xlt, up1_eq, h17]
  by_cases h1 : t.1 10 (16 * p + a) = t.1 21 p <;> simp [h1]
