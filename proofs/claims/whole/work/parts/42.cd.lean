/-! ask -/
def CW (s : cS) : Prop := (∃ L, L ≤ 120 ∧ s.2.2.1 1 = nI L) ∧ ∀ x, x < 120 → s.2.2.2.1 x < 121
theorem cmay_00 {n : nv} : (C_may n).2 0 0 = n 0 0 := by
  unfold C_may C_fall
  by_cases h1 : n 0 1 = 1
  · by_cases h2 : n 0 5 = 1
    · simp only [h1, h2, if_true]
      simp (disch := decide) only [un_nk, un_nj]
    · simp only [h1, h2, if_true, if_false]
      simp (disch := decide) only [un_nk, un_nj]
  · simp only [h1, if_false]
theorem take_00 {n : nv} {x y z : Nat → Int32} {w : Int32} {k : Nat} : (C_take n x y z w k) 0 0 = n 0 0 := by
  induction k with
  | zero => rfl
  | succ k ih =>
    rw [C_take]
    split
    · split
      · exact ih
      · split
        · exact ih
        · split
          · rw [cmay_00, ih]
          · rw [un_nk (by decide), un_nk (by decide), un_nk (by decide), cmay_00, ih]
    · exact ih
theorem vote1_00 {n rq : nv} {q : Nat} : C_vote1 n rq q 0 0 = n 0 0 := by
  unfold C_vote1
  split
  · split
    · exact cmay_00
    · rw [un_nk (by decide), un_nk (by decide), un_nk (by decide), cmay_00]
  · split
    · split
      · rfl
      · split
        · exact cmay_00
        · rw [un_nk (by decide), un_nk (by decide), un_nk (by decide), cmay_00]
    · rfl
theorem srv1_00 {n rq : nv} : C_srv1 n rq 0 0 = n 0 0 := by
  unfold C_srv1
  split
  · exact take_00
  · split
    · exact vote1_00
    · split
      · exact take_00
      · rfl
theorem tg_k {n : nv} {x y z : Nat → Int32} {w : Int32} {k k' j : Nat} (h : k' ≠ 14 ∧ k' ≠ 15 ∧ k' ≠ 16) : (C_tg n x y z w k) k' j = n k' j := by
  induction k with
  | zero => rfl
  | succ k ih =>
    rw [C_tg]
    split
    · exact ih
    · split
      · exact ih
      · rw [un_nk h.2.2, un_nk h.2.1, un_nk h.1, ih]
theorem raise_00 {n : nv} {v : Int32} : C_raise n v 0 0 = n 0 0 := by
  unfold C_raise
  split
  · rfl
  · split
    · exact cmay_00
    · rw [un_nj (by decide), cmay_00]
theorem hear_00 {n an : nv} : C_hear n an 0 0 = n 0 0 := by
  unfold C_hear
  split
  · rfl
  · split
    · exact raise_00
    · split
      · rw [tg_k (by decide), un_nk (by decide)]
      · split
        · rw [tg_k (by decide), un_nk (by decide)]
        · split
          · rw [un_nk (by decide), un_nk (by decide), un_nk (by decide)]
          · rw [un_nk (by decide)]
def K_self (s : cS) (i : Nat) : cS := cM (cN s i (C_hear (C_srv1 (s.1 i) (s.2.1 121)) (C_srv2 (s.1 i) (s.2.1 121) (s.2.1 122)))) 122 (C_srv2 (s.1 i) (s.2.1 121) (s.2.1 122))
def K_ask (s : cS) (i : Nat) (w : Int32) : Nat → cS
  | 0 => s
  | k + 1 => if (K_ask s i w k).1 i 0 1 = 1 then (if (w >>> (nI k &&& 31)) &&& 1 = 0 then K_ask s i w k else if ((K_ask s i w k).1 i 12 5 >>> (nI k &&& 31)) &&& 1 = 0 then
      (if k = i then K_self (cN (K_ask s i w k) i (un ((K_ask s i w k).1 i) 12 5 ((K_ask s i w k).1 i 12 5 ||| ((1 : Int32) <<< (nI k &&& 31))))) i
       else C_send (cM (cN (K_ask s i w k) i (un ((K_ask s i w k).1 i) 12 5 ((K_ask s i w k).1 i 12 5 ||| ((1 : Int32) <<< (nI k &&& 31))))) 121 (un ((K_ask s i w k).2.1 121) 0 2 (nI k))) 121)
      else K_ask s i w k) else K_ask s i w k
theorem kask_down {s : cS} {i : Nat} {w : Int32} {k : Nat} (h : ¬ (K_ask s i w k).1 i 0 1 = 1) : ∀ m, K_ask s i w (k + m) = K_ask s i w k := by
  intro m
  induction m with
  | zero => rfl
  | succ m ih => rw [← Nat.add_assoc, K_ask, ih, if_neg h]
theorem cmay_12 {n : nv} {j : Nat} (h : j ≠ 0 ∧ j ≠ 2) : (C_may n).2 12 j = n 12 j := by
  unfold C_may C_fall
  by_cases h1 : n 0 1 = 1
  · by_cases h2 : n 0 5 = 1
    · simp only [h1, h2, if_true]
      rw [un_nj h.2, un_nj h.1, un_nk (by decide), un_nk (by decide), un_nk (by decide)]
    · simp only [h1, h2, if_true, if_false]
      rw [un_nk (by decide), un_nk (by decide)]
  · simp only [h1, if_false]
theorem raise_12 {n : nv} {v : Int32} {j : Nat} (h : j ≠ 0 ∧ j ≠ 2) : C_raise n v 12 j = n 12 j := by
  unfold C_raise
  split
  · rfl
  · split
    · exact cmay_12 h
    · rw [un_nk (by decide), cmay_12 h]
theorem take_12 {n : nv} {x y z : Nat → Int32} {w : Int32} {k j : Nat} (h : j ≠ 0 ∧ j ≠ 2) : (C_take n x y z w k) 12 j = n 12 j := by
  induction k with
  | zero => rfl
  | succ k ih =>
    rw [C_take]
    split
    · split
      · exact ih
      · split
        · exact ih
        · split
          · rw [cmay_12 h, ih]
          · rw [un_nk (by decide), un_nk (by decide), un_nk (by decide), cmay_12 h, ih]
    · exact ih
theorem vote1_12 {n rq : nv} {q j : Nat} (h : j ≠ 0 ∧ j ≠ 2) : C_vote1 n rq q 12 j = n 12 j := by
  unfold C_vote1
  split
  · split
    · exact cmay_12 h
    · rw [un_nk (by decide), un_nk (by decide), un_nk (by decide), cmay_12 h]
  · split
    · split
      · rfl
      · split
        · exact cmay_12 h
        · rw [un_nk (by decide), un_nk (by decide), un_nk (by decide), cmay_12 h]
    · rfl
theorem srv1_12 {n rq : nv} {j : Nat} (h : j ≠ 0 ∧ j ≠ 2) : C_srv1 n rq 12 j = n 12 j := by
  unfold C_srv1
  split
  · exact take_12 h
  · split
    · exact vote1_12 h
    · split
      · exact take_12 h
      · rfl
theorem hear_12 {n an : nv} {j : Nat} (h : j ≠ 0 ∧ j ≠ 2) (h6 : j ≠ 6 ∧ j ≠ 10 ∧ j ≠ 11) : C_hear n an 12 j = n 12 j := by
  unfold C_hear
  split
  · rfl
  · split
    · exact raise_12 h
    · split
      · rw [tg_k (by decide), un_nj h6.1]
      · split
        · rw [tg_k (by decide), un_nj h6.1]
        · split
          · rw [un_nj h6.2.2, un_nj h6.2.1, un_nj h6.1]
          · rw [un_nj h6.1]
/-- what stays: rows, the draft's kind and object, the node's id -/
def P3 (n n' : nv) : Prop := n' 0 0 = n 0 0 ∧ n' 12 1 = n 12 1 ∧ n' 12 3 = n 12 3
theorem P3_refl {n : nv} : P3 n n := ⟨rfl, rfl, rfl⟩
theorem P3_trans {n n' n'' : nv} (h : P3 n n') (h' : P3 n' n'') : P3 n n'' := ⟨h'.1.trans h.1, h'.2.1.trans h.2.1, h'.2.2.trans h.2.2⟩
def CF (s s' : cS) (i : Nat) : Prop := s'.2.2.2 = s.2.2.2 ∧ P3 (s.1 i) (s'.1 i) ∧ (CW s → CW s' ∧ s'.2.1 121 0 0 = s.2.1 121 0 0 ∧ s'.2.1 121 0 5 = s.2.1 121 0 5)
theorem P3_srv1 {n rq : nv} : P3 n (C_srv1 n rq) := ⟨srv1_00, srv1_12 (by decide), srv1_12 (by decide)⟩
theorem P3_hear {n an : nv} : P3 n (C_hear n an) := ⟨hear_00, hear_12 (by decide) (by decide), hear_12 (by decide) (by decide)⟩
theorem P3_ask5 {n : nv} {v : Int32} : P3 n (un n 12 5 v) := ⟨un_nk (by decide), un_nj (by decide), un_nj (by decide)⟩
theorem CF_refl {s : cS} {i : Nat} : CF s s i := ⟨rfl, P3_refl, fun h => ⟨h, rfl, rfl⟩⟩
theorem CF_trans {s s' s'' : cS} {i : Nat} (h : CF s s' i) (h' : CF s' s'' i) : CF s s'' i := by
  refine ⟨h'.1.trans h.1, P3_trans h.2.1 h'.2.1, fun hw => ?_⟩
  obtain ⟨a1, a2, a3⟩ := h.2.2 hw
  obtain ⟨b1, b2, b3⟩ := h'.2.2 a1
  exact ⟨b1, b2.trans a2, b3.trans a3⟩
theorem CF_N {s : cS} {i : Nat} {n : nv} (h : P3 (s.1 i) n) : CF s (cN s i n) i := ⟨rfl, by rw [cN_eq]; exact h, fun hw => ⟨hw, rfl, rfl⟩⟩
theorem CF_M {s : cS} {i m : Nat} {v : nv} (h : m = 121 → v 0 0 = s.2.1 121 0 0 ∧ v 0 5 = s.2.1 121 0 5) : CF s (cM s m v) i := by
  refine ⟨rfl, P3_refl, fun hw => ⟨hw, ?_, ?_⟩⟩
  · by_cases hm : m = 121
    · subst hm
      rw [cM_eq]
      exact (h rfl).1
    · rw [cM_ne (fun e => hm e.symm)]
  · by_cases hm : m = 121
    · subst hm
      rw [cM_eq]
      exact (h rfl).2
    · rw [cM_ne (fun e => hm e.symm)]
theorem CF_send {s : cS} {i m : Nat} : CF s (C_send s m) i := by
  unfold C_send
  split
  · rename_i hlt
    refine ⟨rfl, P3_refl, fun hw => ?_⟩
    obtain ⟨⟨L, hL, e⟩, hr⟩ := hw
    have hL2 : L < 120 := by
      rw [e, show (120 : Int32) = nI 120 from rfl, nI_ltI (by omega) (by omega)] at hlt
      exact hlt
    have ec : (s.2.2.1 1).toNatClampNeg = L := by rw [e, nI_cl (by omega)]
    have hx : 121 ≠ s.2.2.2.1 (s.2.2.1 1).toNatClampNeg := by
      rw [ec]
      have := hr L hL2
      omega
    refine ⟨⟨⟨L + 1, by omega, ?_⟩, hr⟩, ?_, ?_⟩
    · show up1 s.2.2.1 1 (s.2.2.1 1 + 1) 1 = nI (L + 1)
      rw [up1_eq, e, nI_1]
    · show (cM s _ _).2.1 121 0 0 = _
      rw [cM_ne hx]
    · show (cM s _ _).2.1 121 0 5 = _
      rw [cM_ne hx]
  · refine ⟨rfl, P3_refl, fun hw => ⟨?_, rfl, rfl⟩⟩
    exact hw
theorem CF_self {s : cS} {i : Nat} : CF s (K_self s i) i := by
  unfold K_self
  exact CF_trans (CF_N (P3_trans P3_srv1 P3_hear)) (CF_M (fun h => absurd h (by decide)))
theorem CF_ask {s : cS} {i : Nat} {w : Int32} {k : Nat} : CF s (K_ask s i w k) i := by
  induction k with
  | zero => exact CF_refl
  | succ k ih =>
    rw [K_ask]
    split
    · split
      · exact ih
      · split
        · split
          · exact CF_trans ih (CF_trans (CF_N P3_ask5) CF_self)
          · refine CF_trans ih (CF_trans (CF_N P3_ask5) (CF_trans (CF_M (fun _ => ⟨?_, ?_⟩)) CF_send))
            · rw [un_nj (by decide)]
              rfl
            · rw [un_nj (by decide)]
              rfl
        · exact ih
    · exact ih
theorem y_sendd {Q : Option Value → xH → Prop} {c : Nat} {g : xH} {s : cS} (hw : CW s) : w_Ma_send Q (c + 2) (ma c 121) (cl c g s) ↔ Q none (cl c g (C_send s 121)) := by
  obtain ⟨⟨L, hL, e⟩, hr⟩ := hw
  exact y_send (by decide) e hL (fun h => ⟨by have := hr L h; omega, by have := hr L h; omega⟩)
theorem y_sendr {Q : Option Value → xH → Prop} {c : Nat} {g : xH} {s : cS} (hw : CW s) : w_Ma_send Q (c + 2) (ma c 122) (cl c g s) ↔ Q none (cl c g (C_send s 122)) := by
  obtain ⟨⟨L, hL, e⟩, hr⟩ := hw
  exact y_send (by decide) e hL (fun h => ⟨by have := hr L h; omega, by have := hr L h; omega⟩)
theorem y_self {Q : Option Value → xH → Prop} {c : Nat} {g : xH} {s : cS} {i q : Nat} (hi : i < 8) (hq : q < 16) (h5 : s.2.1 121 0 5 = nI q) (hk : s.2.1 121 0 0 = 1 ∨ s.2.1 121 0 0 = 3 ∨ s.2.1 121 0 0 = 5 ∨ s.2.1 121 0 0 = 7 ∨ s.2.1 121 0 0 = 10 ∨ s.2.1 121 0 0 = 12 ∨ s.2.1 121 0 0 = 14 ∨ s.2.1 121 0 0 = 15) : w_Q_serve (fun v h => v = none ∧ w_Q_hear Q (na c i) (ma c 122) h) c (na c i) (ma c 121) (cl c g s) ↔ Q none (cl c g (K_self s i)) := by
  have h122 : 122 < 123 := by decide
  unfold K_self
  rw [y_serve hi (by decide) (by decide) hq h5 hk, y_hear hi h122]
  simp only [true_and, cM_eq, cM_1, cN_eq, cN_cM, cN_cN]
theorem y_ask25 {Q : Option Value → xH → Prop} {c : Nat} {g : xH} {s : cS} {i q : Nat} {w : Int32} (hi : i < 8) (hw : CW s) (hid : s.1 i 0 0 = nI i) (hq : q < 16) (h5 : s.2.1 121 0 5 = nI q) (hk : s.2.1 121 0 0 = 1 ∨ s.2.1 121 0 0 = 3 ∨ s.2.1 121 0 0 = 5 ∨ s.2.1 121 0 0 = 7 ∨ s.2.1 121 0 0 = 10 ∨ s.2.1 121 0 0 = 12 ∨ s.2.1 121 0 0 = 14 ∨ s.2.1 121 0 0 = 15) : (∃ n, w_Q_ask_25 Q n c (na c i) (na c i + 12) w 0 (cl c g s)) ↔ Q none (cl c g (K_ask s i w 8)) := by
  refine loop_iff2 (fun n (x : Int32 × xH) => w_Q_ask_25 Q n c (na c i) (na c i + 12) w x.1 x.2) (fun k => (nI k, cl c g (K_ask s i w k))) 8 _ (fun _ => id) ?_ ?_
  · intro k hk8
    have hcf := CF_ask (s := s) (i := i) (w := w) (k := k)
    have hid' : (K_ask s i w k).1 i 0 0 = nI i := hcf.2.1.1.trans hid
    have hw' := (hcf.2.2 hw).1
    have h5' : (K_ask s i w k).2.1 121 0 5 = nI q := (hcf.2.2 hw).2.2.trans h5
    have hk' : (K_ask s i w k).2.1 121 0 0 = s.2.1 121 0 0 := (hcf.2.2 hw).2.1
    by_cases h1 : (K_ask s i w k).1 i 0 1 = 1
    · left
      intro n
      show w_Q_ask_25 Q (n + 1) c (na c i) (na c i + 12) w (nI k) (cl c g (K_ask s i w k)) ↔ w_Q_ask_25 Q n c (na c i) (na c i + 12) w (nI (k + 1)) (cl c g (K_ask s i w (k + 1)))
      rw [w_Q_ask_25, K_ask]
      rw [← hk'] at hk
      clear hcf hk'
      generalize K_ask s i w k = u at *
      by_cases h2 : (w >>> (nI k &&& 31)) &&& 1 = 0
      · simp (maxSteps := 4000000) (disch := first | omega | decide) only [w_Q_ask_125, y_isUp hi, s_Q_isIn, cn_0, cn_1, cn_2, un_2, cn_3, un_3, cn_4, un_4, cn_5, cn_6, un_6, cn_7, un_7, cn_8, cn_9, un_9, cn_10, un_10, cn_11, un_11, cn_12, cn_13, cn_14, un_14, cn_15, un_15, cn_16, un_16, cm_0, cm_1, cm_2, um_2, cm_3, um_3, cm_4, cm_5, um_5, cm_6, um_6, cm_7, um_7, cg_0, cg_1, cg_2, cg_3, on_0_len, on_0_0, on_0_1, on_0_2, on_0_3, on_0_4, on_0_5, on_0_6, on_0_7, on_0_8, on_0_9, on_0_10, un_0_0, un_0_1, un_0_2, un_0_3, un_0_4, un_0_5, un_0_6, on_1_len, on_1_0, on_1_1, on_1_2, on_5_len, on_5_0, on_5_1, on_8_len, on_8_0, on_8_1, on_8_2, on_12_len, on_12_0, on_12_1, on_12_2, on_12_3, on_12_4, on_12_5, on_12_6, on_12_7, on_12_8, on_12_9, on_12_10, on_12_11, on_12_12, on_12_13, un_12_0, un_12_1, un_12_2, un_12_3, un_12_4, un_12_5, un_12_6, un_12_7, un_12_8, un_12_9, un_12_10, un_12_11, un_12_12, on_13_len, on_13_0, on_13_1, on_13_2, om_0_len, om_0_0, om_0_1, om_0_2, om_0_3, om_0_4, om_0_5, om_0_6, om_0_7, om_0_8, om_0_9, um_0_0, um_0_1, um_0_2, um_0_3, um_0_4, um_0_5, um_0_6, um_0_7, om_1_len, om_1_0, om_1_1, om_4_len, om_4_0, om_4_1, om_4_2, og_0_0, og_0_1, og_0_2, og_0_3, og_0_4, og_2_0, og_2_1, og_2_2, og_2_3, og_0_len, og_2_len, Option.some.injEq, Sum.inr.injEq, Sum.inl.injEq, Prod.mk.injEq, Value.ref.injEq, Value.int.injEq, true_and, and_true, exists_eq_left', exists_eq_left, exists_and_left, forall_eq, rAr_get, rAr_len, rAr_set, nI_nn, nI_cl, exists_const, exists_eq', exists_eq, nI_add, xlt, up1_eq, nb0, nb1, sN_c, sM_c, sNF_c, sMF_c, ua_up, cN_eq, cN_cN, cN_2, cN_cM, cM_eq, cM_1, cM_3, cM_cM, cM_ne,  un_eq, un_nk, un_nj, ua_eq, ua_nk, xcp4, xcp16, y0n, y4n, y16n, yl4, yl16, eq_self, not_true_eq_false, not_false_eq_true, true_implies, false_implies, if_true, if_false, sK_1, sK_2, sK_3, sK_4, cN_sK, ug_0, ug_1, ug_2, h1, h2, xge8, nI_1, k10]
      · by_cases h3 : (u.1 i 12 5 >>> (nI k &&& 31)) &&& 1 = 0
        · by_cases h4 : k = i
          · subst h4
            have h122 : 122 < 123 := by decide
            have hs := fun Q v => y_serve (Q := Q) (c := c) (g := g) (s := cN u k (un (u.1 k) 12 5 v)) (m := 121) hi (by decide) (by decide) hq h5' hk
            simp (maxSteps := 4000000) (disch := first | omega | decide) only [w_Q_ask_125, y_isUp hi, s_Q_isIn, hs, y_hear hi h122, K_self, cn_0, cn_1, cn_2, un_2, cn_3, un_3, cn_4, un_4, cn_5, cn_6, un_6, cn_7, un_7, cn_8, cn_9, un_9, cn_10, un_10, cn_11, un_11, cn_12, cn_13, cn_14, un_14, cn_15, un_15, cn_16, un_16, cm_0, cm_1, cm_2, um_2, cm_3, um_3, cm_4, cm_5, um_5, cm_6, um_6, cm_7, um_7, cg_0, cg_1, cg_2, cg_3, on_0_len, on_0_0, on_0_1, on_0_2, on_0_3, on_0_4, on_0_5, on_0_6, on_0_7, on_0_8, on_0_9, on_0_10, un_0_0, un_0_1, un_0_2, un_0_3, un_0_4, un_0_5, un_0_6, on_1_len, on_1_0, on_1_1, on_1_2, on_5_len, on_5_0, on_5_1, on_8_len, on_8_0, on_8_1, on_8_2, on_12_len, on_12_0, on_12_1, on_12_2, on_12_3, on_12_4, on_12_5, on_12_6, on_12_7, on_12_8, on_12_9, on_12_10, on_12_11, on_12_12, on_12_13, un_12_0, un_12_1, un_12_2, un_12_3, un_12_4, un_12_5, un_12_6, un_12_7, un_12_8, un_12_9, un_12_10, un_12_11, un_12_12, on_13_len, on_13_0, on_13_1, on_13_2, om_0_len, om_0_0, om_0_1, om_0_2, om_0_3, om_0_4, om_0_5, om_0_6, om_0_7, om_0_8, om_0_9, um_0_0, um_0_1, um_0_2, um_0_3, um_0_4, um_0_5, um_0_6, um_0_7, om_1_len, om_1_0, om_1_1, om_4_len, om_4_0, om_4_1, om_4_2, og_0_0, og_0_1, og_0_2, og_0_3, og_0_4, og_2_0, og_2_1, og_2_2, og_2_3, og_0_len, og_2_len, Option.some.injEq, Sum.inr.injEq, Sum.inl.injEq, Prod.mk.injEq, Value.ref.injEq, Value.int.injEq, true_and, and_true, exists_eq_left', exists_eq_left, exists_and_left, forall_eq, rAr_get, rAr_len, rAr_set, nI_nn, nI_cl, exists_const, exists_eq', exists_eq, nI_add, xlt, up1_eq, nb0, nb1, sN_c, sM_c, sNF_c, sMF_c, ua_up, cN_eq, cN_cN, cN_2, cN_cM, cM_eq, cM_1, cM_3, cM_cM, cM_ne,  un_eq, un_nk, un_nj, ua_eq, ua_nk, xcp4, xcp16, y0n, y4n, y16n, yl4, yl16, eq_self, not_true_eq_false, not_false_eq_true, true_implies, false_implies, if_true, if_false, sK_1, sK_2, sK_3, sK_4, cN_sK, ug_0, ug_1, ug_2, h1, h2, h3, hid', xge8, nI_1, k10]
          · have hs := fun Q v x => y_sendd (Q := Q) (c := c) (g := g) (s := cM (cN u i (un (u.1 i) 12 5 v)) 121 x) hw'
            simp (maxSteps := 4000000) (disch := first | omega | decide) only [w_Q_ask_125, y_isUp hi, s_Q_isIn, hs, cn_0, cn_1, cn_2, un_2, cn_3, un_3, cn_4, un_4, cn_5, cn_6, un_6, cn_7, un_7, cn_8, cn_9, un_9, cn_10, un_10, cn_11, un_11, cn_12, cn_13, cn_14, un_14, cn_15, un_15, cn_16, un_16, cm_0, cm_1, cm_2, um_2, cm_3, um_3, cm_4, cm_5, um_5, cm_6, um_6, cm_7, um_7, cg_0, cg_1, cg_2, cg_3, on_0_len, on_0_0, on_0_1, on_0_2, on_0_3, on_0_4, on_0_5, on_0_6, on_0_7, on_0_8, on_0_9, on_0_10, un_0_0, un_0_1, un_0_2, un_0_3, un_0_4, un_0_5, un_0_6, on_1_len, on_1_0, on_1_1, on_1_2, on_5_len, on_5_0, on_5_1, on_8_len, on_8_0, on_8_1, on_8_2, on_12_len, on_12_0, on_12_1, on_12_2, on_12_3, on_12_4, on_12_5, on_12_6, on_12_7, on_12_8, on_12_9, on_12_10, on_12_11, on_12_12, on_12_13, un_12_0, un_12_1, un_12_2, un_12_3, un_12_4, un_12_5, un_12_6, un_12_7, un_12_8, un_12_9, un_12_10, un_12_11, un_12_12, on_13_len, on_13_0, on_13_1, on_13_2, om_0_len, om_0_0, om_0_1, om_0_2, om_0_3, om_0_4, om_0_5, om_0_6, om_0_7, om_0_8, om_0_9, um_0_0, um_0_1, um_0_2, um_0_3, um_0_4, um_0_5, um_0_6, um_0_7, om_1_len, om_1_0, om_1_1, om_4_len, om_4_0, om_4_1, om_4_2, og_0_0, og_0_1, og_0_2, og_0_3, og_0_4, og_2_0, og_2_1, og_2_2, og_2_3, og_0_len, og_2_len, Option.some.injEq, Sum.inr.injEq, Sum.inl.injEq, Prod.mk.injEq, Value.ref.injEq, Value.int.injEq, true_and, and_true, exists_eq_left', exists_eq_left, exists_and_left, forall_eq, rAr_get, rAr_len, rAr_set, nI_nn, nI_cl, exists_const, exists_eq', exists_eq, nI_add, xlt, up1_eq, nb0, nb1, sN_c, sM_c, sNF_c, sMF_c, ua_up, cN_eq, cN_cN, cN_2, cN_cM, cM_eq, cM_1, cM_3, cM_cM, cM_ne,  un_eq, un_nk, un_nj, ua_eq, ua_nk, xcp4, xcp16, y0n, y4n, y16n, yl4, yl16, eq_self, not_true_eq_false, not_false_eq_true, true_implies, false_implies, if_true, if_false, sK_1, sK_2, sK_3, sK_4, cN_sK, ug_0, ug_1, ug_2, h1, h2, h3, h4, hid', xge8, nI_1, k10, nIe]
        · simp (maxSteps := 4000000) (disch := first | omega | decide) only [w_Q_ask_125, y_isUp hi, s_Q_isIn, cn_0, cn_1, cn_2, un_2, cn_3, un_3, cn_4, un_4, cn_5, cn_6, un_6, cn_7, un_7, cn_8, cn_9, un_9, cn_10, un_10, cn_11, un_11, cn_12, cn_13, cn_14, un_14, cn_15, un_15, cn_16, un_16, cm_0, cm_1, cm_2, um_2, cm_3, um_3, cm_4, cm_5, um_5, cm_6, um_6, cm_7, um_7, cg_0, cg_1, cg_2, cg_3, on_0_len, on_0_0, on_0_1, on_0_2, on_0_3, on_0_4, on_0_5, on_0_6, on_0_7, on_0_8, on_0_9, on_0_10, un_0_0, un_0_1, un_0_2, un_0_3, un_0_4, un_0_5, un_0_6, on_1_len, on_1_0, on_1_1, on_1_2, on_5_len, on_5_0, on_5_1, on_8_len, on_8_0, on_8_1, on_8_2, on_12_len, on_12_0, on_12_1, on_12_2, on_12_3, on_12_4, on_12_5, on_12_6, on_12_7, on_12_8, on_12_9, on_12_10, on_12_11, on_12_12, on_12_13, un_12_0, un_12_1, un_12_2, un_12_3, un_12_4, un_12_5, un_12_6, un_12_7, un_12_8, un_12_9, un_12_10, un_12_11, un_12_12, on_13_len, on_13_0, on_13_1, on_13_2, om_0_len, om_0_0, om_0_1, om_0_2, om_0_3, om_0_4, om_0_5, om_0_6, om_0_7, om_0_8, om_0_9, um_0_0, um_0_1, um_0_2, um_0_3, um_0_4, um_0_5, um_0_6, um_0_7, om_1_len, om_1_0, om_1_1, om_4_len, om_4_0, om_4_1, om_4_2, og_0_0, og_0_1, og_0_2, og_0_3, og_0_4, og_2_0, og_2_1, og_2_2, og_2_3, og_0_len, og_2_len, Option.some.injEq, Sum.inr.injEq, Sum.inl.injEq, Prod.mk.injEq, Value.ref.injEq, Value.int.injEq, true_and, and_true, exists_eq_left', exists_eq_left, exists_and_left, forall_eq, rAr_get, rAr_len, rAr_set, nI_nn, nI_cl, exists_const, exists_eq', exists_eq, nI_add, xlt, up1_eq, nb0, nb1, sN_c, sM_c, sNF_c, sMF_c, ua_up, cN_eq, cN_cN, cN_2, cN_cM, cM_eq, cM_1, cM_3, cM_cM, cM_ne,  un_eq, un_nk, un_nj, ua_eq, ua_nk, xcp4, xcp16, y0n, y4n, y16n, yl4, yl16, eq_self, not_true_eq_false, not_false_eq_true, true_implies, false_implies, if_true, if_false, sK_1, sK_2, sK_3, sK_4, cN_sK, ug_0, ug_1, ug_2, h1, h2, h3, xge8, nI_1, k10]
    · right
      intro n
      have e : K_ask s i w 8 = K_ask s i w k := by
        have := kask_down h1 (8 - k)
        rwa [show k + (8 - k) = 8 by omega] at this
      show w_Q_ask_25 Q (n + 1) c (na c i) (na c i + 12) w (nI k) (cl c g (K_ask s i w k)) ↔ _
      rw [w_Q_ask_25, e]
      simp (maxSteps := 4000000) (disch := first | omega | decide) only [y_isUp hi, cn_0, cn_1, cn_2, un_2, cn_3, un_3, cn_4, un_4, cn_5, cn_6, un_6, cn_7, un_7, cn_8, cn_9, un_9, cn_10, un_10, cn_11, un_11, cn_12, cn_13, cn_14, un_14, cn_15, un_15, cn_16, un_16, cm_0, cm_1, cm_2, um_2, cm_3, um_3, cm_4, cm_5, um_5, cm_6, um_6, cm_7, um_7, cg_0, cg_1, cg_2, cg_3, on_0_len, on_0_0, on_0_1, on_0_2, on_0_3, on_0_4, on_0_5, on_0_6, on_0_7, on_0_8, on_0_9, on_0_10, un_0_0, un_0_1, un_0_2, un_0_3, un_0_4, un_0_5, un_0_6, on_1_len, on_1_0, on_1_1, on_1_2, on_5_len, on_5_0, on_5_1, on_8_len, on_8_0, on_8_1, on_8_2, on_12_len, on_12_0, on_12_1, on_12_2, on_12_3, on_12_4, on_12_5, on_12_6, on_12_7, on_12_8, on_12_9, on_12_10, on_12_11, on_12_12, on_12_13, un_12_0, un_12_1, un_12_2, un_12_3, un_12_4, un_12_5, un_12_6, un_12_7, un_12_8, un_12_9, un_12_10, un_12_11, un_12_12, on_13_len, on_13_0, on_13_1, on_13_2, om_0_len, om_0_0, om_0_1, om_0_2, om_0_3, om_0_4, om_0_5, om_0_6, om_0_7, om_0_8, om_0_9, um_0_0, um_0_1, um_0_2, um_0_3, um_0_4, um_0_5, um_0_6, um_0_7, om_1_len, om_1_0, om_1_1, om_4_len, om_4_0, om_4_1, om_4_2, og_0_0, og_0_1, og_0_2, og_0_3, og_0_4, og_2_0, og_2_1, og_2_2, og_2_3, og_0_len, og_2_len, Option.some.injEq, Sum.inr.injEq, Sum.inl.injEq, Prod.mk.injEq, Value.ref.injEq, Value.int.injEq, true_and, and_true, exists_eq_left', exists_eq_left, exists_and_left, forall_eq, rAr_get, rAr_len, rAr_set, nI_nn, nI_cl, exists_const, exists_eq', exists_eq, nI_add, xlt, up1_eq, nb0, nb1, sN_c, sM_c, sNF_c, sMF_c, ua_up, cN_eq, cN_cN, cN_2, cN_cM, cM_eq, cM_1, cM_3, cM_cM, cM_ne,  un_eq, un_nk, un_nj, ua_eq, ua_nk, xcp4, xcp16, y0n, y4n, y16n, yl4, yl16, eq_self, not_true_eq_false, not_false_eq_true, true_implies, false_implies, if_true, if_false, sK_1, sK_2, sK_3, sK_4, cN_sK, ug_0, ug_1, ug_2, h1, xge8]
  · intro n
    show w_Q_ask_25 Q (n + 1) c (na c i) (na c i + 12) w (nI 8) (cl c g (K_ask s i w 8)) ↔ _
    rw [w_Q_ask_25]
    have h1 : (8 : Int32) ≤ nI 8 := by decide
    simp [h1]
def K_askF (s : cS) (i : Nat) : cS := K_ask (cM s 121 (C_draft (s.2.1 121) (s.1 i))) i (C_mem (s.1 i 7) (C_conc (s.1 i)) 16) 8
theorem dr_00 {d n : nv} : C_draft d n 0 0 = C_rq n := by
  unfold C_draft
  rw [ua_nk (by decide), ua_nk (by decide), ua_nk (by decide)]
  simp (disch := decide) only [un_nj, opn_00]
theorem dr_05 {d n : nv} : C_draft d n 0 5 = if n 12 1 = 4 then 0 else n 12 3 := by
  unfold C_draft
  rw [ua_nk (by decide), ua_nk (by decide), ua_nk (by decide)]
  simp (disch := decide) only [un_nj, un_eq]
theorem rq_k {n : nv} : C_rq n = 1 ∨ C_rq n = 3 ∨ C_rq n = 5 ∨ C_rq n = 7 ∨ C_rq n = 10 ∨ C_rq n = 12 ∨ C_rq n = 14 ∨ C_rq n = 15 := by
  unfold C_rq
  by_cases h1 : n 12 2 = 1 <;> by_cases h2 : n 12 1 = 3 <;> by_cases h3 : n 12 1 = 4 <;> simp [h1, h2, h3]
theorem y_ask {Q : Option Value → xH → Prop} {c : Nat} {g : xH} {s : cS} {i q : Nat} (hi : i < 8) (hw : CW s) (hid : s.1 i 0 0 = nI i) (hq : q < 16) (h3 : s.1 i 12 3 = nI q) : w_Q_ask Q c (na c i) (cl c g s) ↔ Q none (cl c g (K_askF s i)) := by
  have hx : ∃ q', q' < 16 ∧ (if s.1 i 12 1 = 4 then 0 else s.1 i 12 3) = nI q' := by
    by_cases h : s.1 i 12 1 = 4
    · exact ⟨0, by decide, by rw [if_pos h]; rfl⟩
    · exact ⟨q, hq, by rw [if_neg h]; exact h3⟩
  obtain ⟨q', hq', e⟩ := hx
  have ha := fun Q w => y_ask25 (Q := Q) (c := c) (g := g) (s := cM s 121 (C_draft (s.2.1 121) (s.1 i))) (w := w) hi hw hid hq' (by rw [cM_eq, dr_05, e]) (by rw [cM_eq, dr_00]; exact rq_k)
  unfold K_askF
  simp (maxSteps := 4000000) (disch := first | omega | decide) only [w_Q_ask, y_conc hi, y_mem hi, y_draft hi, ha, cn_0, cn_1, cn_2, un_2, cn_3, un_3, cn_4, un_4, cn_5, cn_6, un_6, cn_7, un_7, cn_8, cn_9, un_9, cn_10, un_10, cn_11, un_11, cn_12, cn_13, cn_14, un_14, cn_15, un_15, cn_16, un_16, cm_0, cm_1, cm_2, um_2, cm_3, um_3, cm_4, cm_5, um_5, cm_6, um_6, cm_7, um_7, cg_0, cg_1, cg_2, cg_3, on_0_len, on_0_0, on_0_1, on_0_2, on_0_3, on_0_4, on_0_5, on_0_6, on_0_7, on_0_8, on_0_9, on_0_10, un_0_0, un_0_1, un_0_2, un_0_3, un_0_4, un_0_5, un_0_6, on_1_len, on_1_0, on_1_1, on_1_2, on_5_len, on_5_0, on_5_1, on_8_len, on_8_0, on_8_1, on_8_2, on_12_len, on_12_0, on_12_1, on_12_2, on_12_3, on_12_4, on_12_5, on_12_6, on_12_7, on_12_8, on_12_9, on_12_10, on_12_11, on_12_12, on_12_13, un_12_0, un_12_1, un_12_2, un_12_3, un_12_4, un_12_5, un_12_6, un_12_7, un_12_8, un_12_9, un_12_10, un_12_11, un_12_12, on_13_len, on_13_0, on_13_1, on_13_2, om_0_len, om_0_0, om_0_1, om_0_2, om_0_3, om_0_4, om_0_5, om_0_6, om_0_7, om_0_8, om_0_9, um_0_0, um_0_1, um_0_2, um_0_3, um_0_4, um_0_5, um_0_6, um_0_7, om_1_len, om_1_0, om_1_1, om_4_len, om_4_0, om_4_1, om_4_2, og_0_0, og_0_1, og_0_2, og_0_3, og_0_4, og_2_0, og_2_1, og_2_2, og_2_3, og_0_len, og_2_len, Option.some.injEq, Sum.inr.injEq, Sum.inl.injEq, Prod.mk.injEq, Value.ref.injEq, Value.int.injEq, true_and, and_true, exists_eq_left', exists_eq_left, exists_and_left, forall_eq, rAr_get, rAr_len, rAr_set, nI_nn, nI_cl, exists_const, exists_eq', exists_eq, nI_add, xlt, up1_eq, nb0, nb1, sN_c, sM_c, sNF_c, sMF_c, ua_up, cN_eq, cN_cN, cN_2, cN_cM, cM_eq, cM_1, cM_3, cM_cM, cM_ne,  un_eq, un_nk, un_nj, ua_eq, ua_nk, xcp4, xcp16, y0n, y4n, y16n, yl4, yl16, eq_self, not_true_eq_false, not_false_eq_true, true_implies, false_implies, if_true, if_false, sK_1, sK_2, sK_3, sK_4, cN_sK, ug_0, ug_1, ug_2]
