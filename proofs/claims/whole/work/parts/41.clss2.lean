/-! the class's methods, second part: Sets.having, at a node and in a message -/
def hav (f : Nat → Int32) (w : Int32) : Nat → Int32
  | 0 => 0
  | k + 1 => if f k = w then hav f w k ||| ((1 : Int32) <<< (nI k &&& 31)) else hav f w k
theorem s_Se_having_n {Q : Option Value → xH → Prop} {c : Nat} {g : xH} {s : cS} {i : Nat} (hi : i < 8) {w : Int32} : w_Se_having Q (na c i + 5) w (cl c g s) ↔ Q (some (.int (hav (s.1 i 6) w 16))) (cl c g s) := by
  unfold w_Se_having
  refine loop_iff (fun n (x : Int32 × Int32) => w_Se_having_4 Q n (na c i + 5) w x.1 x.2 (cl c g s)) (fun k => (hav (s.1 i 6) w k, nI k)) 16 _ (fun _ => id) ?_ ?_
  · intro n k hk
    show w_Se_having_4 Q (n + 1) (na c i + 5) w (hav (s.1 i 6) w k) (nI k) (cl c g s) ↔ w_Se_having_4 Q n (na c i + 5) w (if s.1 i 6 k = w then hav (s.1 i 6) w k ||| ((1 : Int32) <<< (nI k &&& 31)) else hav (s.1 i 6) w k) (nI (k + 1)) (cl c g s)
    rw [w_Se_having_4]
    simp (disch := first | omega | decide) only [w_Se_having, w_Se_having_26, cn_0, cn_1, cn_2, un_2, cn_3, un_3, cn_4, un_4, cn_5, cn_6, un_6, cn_7, un_7, cn_8, cn_9, un_9, cn_10, un_10, cn_11, un_11, cn_12, cn_13, cn_14, un_14, cn_15, un_15, cn_16, un_16, cm_0, cm_1, cm_2, um_2, cm_3, um_3, cm_4, cm_5, um_5, cm_6, um_6, cm_7, um_7, cg_0, cg_1, cg_2, cg_3, on_0_len, on_0_0, on_0_1, on_0_2, on_0_3, on_0_4, on_0_5, on_0_6, on_0_7, on_0_8, on_0_9, on_0_10, un_0_0, un_0_1, un_0_2, un_0_3, un_0_4, un_0_5, un_0_6, on_1_len, on_1_0, on_1_1, on_1_2, on_5_len, on_5_0, on_5_1, on_8_len, on_8_0, on_8_1, on_8_2, on_12_len, on_12_0, on_12_1, on_12_2, on_12_3, on_12_4, on_12_5, on_12_6, on_12_7, on_12_8, on_12_9, on_12_10, on_12_11, on_12_12, on_12_13, un_12_0, un_12_1, un_12_2, un_12_3, un_12_4, un_12_5, un_12_6, un_12_7, un_12_8, un_12_9, un_12_10, un_12_11, un_12_12, on_13_len, on_13_0, on_13_1, on_13_2, om_0_len, om_0_0, om_0_1, om_0_2, om_0_3, om_0_4, om_0_5, om_0_6, om_0_7, om_0_8, om_0_9, um_0_0, um_0_1, um_0_2, um_0_3, um_0_4, um_0_5, um_0_6, um_0_7, om_1_len, om_1_0, om_1_1, om_4_len, om_4_0, om_4_1, om_4_2, og_0_0, og_0_1, og_0_2, og_0_3, og_0_4, og_2_0, og_2_1, og_2_2, og_2_3, og_0_len, og_2_len, Option.some.injEq, Sum.inr.injEq, Sum.inl.injEq, Prod.mk.injEq, Value.ref.injEq, Value.int.injEq, true_and, and_true, exists_eq_left', exists_eq_left, exists_and_left, forall_eq, rAr_get, rAr_len, rAr_set, nI_nn, nI_cl, exists_const, exists_eq', exists_eq, nI_add, xlt, up1_eq, nb0, nb1, sN, sM, sNF_eq, sNF_ne, sNF_2, sMF_eq, sMF_ne, sMF_1, sMF_3, xge16, nI_1, eq_self, not_true_eq_false, not_false_eq_true, true_implies, false_implies]
    by_cases h1 : s.1 i 6 k = w <;> simp [h1]
  · intro n
    show w_Se_having_4 Q (n + 1) (na c i + 5) w (hav (s.1 i 6) w 16) (nI 16) (cl c g s) ↔ _
    rw [w_Se_having_4]
    have h1 : (16 : Int32) ≤ nI 16 := by decide
    simp [h1]
theorem s_Se_having_m {Q : Option Value → xH → Prop} {c : Nat} {g : xH} {s : cS} {m : Nat} (hm : m < 123) {w : Int32} : w_Se_having Q (ma c m + 1) w (cl c g s) ↔ Q (some (.int (hav (s.2.1 m 2) w 16))) (cl c g s) := by
  unfold w_Se_having
  refine loop_iff (fun n (x : Int32 × Int32) => w_Se_having_4 Q n (ma c m + 1) w x.1 x.2 (cl c g s)) (fun k => (hav (s.2.1 m 2) w k, nI k)) 16 _ (fun _ => id) ?_ ?_
  · intro n k hk
    show w_Se_having_4 Q (n + 1) (ma c m + 1) w (hav (s.2.1 m 2) w k) (nI k) (cl c g s) ↔ w_Se_having_4 Q n (ma c m + 1) w (if s.2.1 m 2 k = w then hav (s.2.1 m 2) w k ||| ((1 : Int32) <<< (nI k &&& 31)) else hav (s.2.1 m 2) w k) (nI (k + 1)) (cl c g s)
    rw [w_Se_having_4]
    simp (disch := first | omega | decide) only [w_Se_having, w_Se_having_26, cn_0, cn_1, cn_2, un_2, cn_3, un_3, cn_4, un_4, cn_5, cn_6, un_6, cn_7, un_7, cn_8, cn_9, un_9, cn_10, un_10, cn_11, un_11, cn_12, cn_13, cn_14, un_14, cn_15, un_15, cn_16, un_16, cm_0, cm_1, cm_2, um_2, cm_3, um_3, cm_4, cm_5, um_5, cm_6, um_6, cm_7, um_7, cg_0, cg_1, cg_2, cg_3, on_0_len, on_0_0, on_0_1, on_0_2, on_0_3, on_0_4, on_0_5, on_0_6, on_0_7, on_0_8, on_0_9, on_0_10, un_0_0, un_0_1, un_0_2, un_0_3, un_0_4, un_0_5, un_0_6, on_1_len, on_1_0, on_1_1, on_1_2, on_5_len, on_5_0, on_5_1, on_8_len, on_8_0, on_8_1, on_8_2, on_12_len, on_12_0, on_12_1, on_12_2, on_12_3, on_12_4, on_12_5, on_12_6, on_12_7, on_12_8, on_12_9, on_12_10, on_12_11, on_12_12, on_12_13, un_12_0, un_12_1, un_12_2, un_12_3, un_12_4, un_12_5, un_12_6, un_12_7, un_12_8, un_12_9, un_12_10, un_12_11, un_12_12, on_13_len, on_13_0, on_13_1, on_13_2, om_0_len, om_0_0, om_0_1, om_0_2, om_0_3, om_0_4, om_0_5, om_0_6, om_0_7, om_0_8, om_0_9, um_0_0, um_0_1, um_0_2, um_0_3, um_0_4, um_0_5, um_0_6, um_0_7, om_1_len, om_1_0, om_1_1, om_4_len, om_4_0, om_4_1, om_4_2, og_0_0, og_0_1, og_0_2, og_0_3, og_0_4, og_2_0, og_2_1, og_2_2, og_2_3, og_0_len, og_2_len, Option.some.injEq, Sum.inr.injEq, Sum.inl.injEq, Prod.mk.injEq, Value.ref.injEq, Value.int.injEq, true_and, and_true, exists_eq_left', exists_eq_left, exists_and_left, forall_eq, rAr_get, rAr_len, rAr_set, nI_nn, nI_cl, exists_const, exists_eq', exists_eq, nI_add, xlt, up1_eq, nb0, nb1, sN, sM, sNF_eq, sNF_ne, sNF_2, sMF_eq, sMF_ne, sMF_1, sMF_3, xge16, nI_1, eq_self, not_true_eq_false, not_false_eq_true, true_implies, false_implies]
    by_cases h1 : s.2.1 m 2 k = w <;> simp [h1]
  · intro n
    show w_Se_having_4 Q (n + 1) (ma c m + 1) w (hav (s.2.1 m 2) w 16) (nI 16) (cl c g s) ↔ _
    rw [w_Se_having_4]
    have h1 : (16 : Int32) ≤ nI 16 := by decide
    simp [h1]
theorem s_Q_isObject {Q : Option Value → xH → Prop} {h : xH} {v : Int32} : w_Q_isObject Q v h ↔ Q (some (.int (if 0 ≤ v ∧ ¬ 4 ≤ v then 1 else 0))) h := by
  unfold w_Q_isObject
  simp only [nb0, nb1, true_and, ← Int32.not_le]
  by_cases h1 : 0 ≤ v <;> by_cases h2 : 4 ≤ v <;> simp only [h1, h2, not_true_eq_false, not_false_eq_true, true_implies, false_implies, and_true, true_and, and_self, and_false, false_and, if_true, if_false]
theorem s_Q_isIndex {Q : Option Value → xH → Prop} {h : xH} {v : Int32} : w_Q_isIndex Q v h ↔ Q (some (.int (if 0 ≤ v ∧ ¬ 16 ≤ v then 1 else 0))) h := by
  unfold w_Q_isIndex
  simp only [nb0, nb1, true_and, ← Int32.not_le]
  by_cases h1 : 0 ≤ v <;> by_cases h2 : 16 ≤ v <;> simp only [h1, h2, not_true_eq_false, not_false_eq_true, true_implies, false_implies, and_true, true_and, and_self, and_false, false_and, if_true, if_false]
theorem s_Q_membersOf {Q : Option Value → xH → Prop} {h : xH} {v : Int32} : w_Q_membersOf Q v h ↔ Q (some (.int (v &&& 255))) h := Iff.rfl
theorem s_Q_readersOf {Q : Option Value → xH → Prop} {h : xH} {v : Int32} : w_Q_readersOf Q v h ↔ Q (some (.int ((v >>> (8 &&& 31)) &&& 15))) h := Iff.rfl
theorem s_Q_writersOf {Q : Option Value → xH → Prop} {h : xH} {v : Int32} : w_Q_writersOf Q v h ↔ Q (some (.int ((v >>> (12 &&& 31)) &&& 15))) h := Iff.rfl
theorem s_Q_isIn {Q : Option Value → xH → Prop} {h : xH} {v w : Int32} : w_Q_isIn Q v w h ↔ Q (some (.int (if (v >>> (w &&& 31)) &&& 1 = 0 then 0 else 1))) h := by
  unfold w_Q_isIn
  simp only [nb0, nb1, true_and]
  by_cases h1 : (v >>> (w &&& 31)) &&& 1 = 0 <;> simp [h1]
