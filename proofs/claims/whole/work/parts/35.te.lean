/-! goesOn -/
def WF (n n' : nv) : Prop := n' 17 0 = n 17 0 ∧ n' 24 0 = n 24 0 ∧ (n' 15 0 = n 15 0 ∨ n' 15 0 = 0)
theorem WF_refl {n : nv} : WF n n := ⟨rfl, rfl, Or.inl rfl⟩
theorem WF_trans {n n' n'' : nv} (h : WF n n') (h' : WF n' n'') : WF n n'' := by
  refine ⟨h'.1.trans h.1, h'.2.1.trans h.2.1, ?_⟩
  rcases h'.2.2 with e | e
  · rw [e]
    exact h.2.2
  · exact Or.inr e
theorem WF_un {n : nv} {k j : Nat} {v : Int32} (hk : k ≠ 15 ∧ k ≠ 17 ∧ k ≠ 24) : WF n (un n k j v) := ⟨un_nk (Ne.symm hk.2.1), un_nk (Ne.symm hk.2.2), Or.inl (un_nk (Ne.symm hk.1))⟩
theorem WF_KF {n n' : nv} (h : KF n n') : WF n n' := ⟨h.1, h.2.1, h.2.2.2.2.1⟩
theorem Wn_WF {n n' : nv} (h : Wn n) (hk : WF n n') : Wn n' := Wn_of h hk.1 hk.2.1 hk.2.2
theorem WF_map {n : nv} {q : Nat} {s c : Int32} : WF n (F_map n q s c) := by
  unfold F_map
  split
  · exact WF_refl
  · split
    · exact WF_KF KF_may
    · exact WF_trans (WF_KF KF_may) (WF_trans (WF_un (by decide)) (WF_un (by decide)))
theorem WF_ret {n : nv} {k : Nat} : WF n (F_ret n k) := by
  induction k with
  | zero => exact WF_refl
  | succ k ih =>
    rw [F_ret]
    split
    · split
      · split
        · exact WF_trans ih WF_map
        · exact ih
      · exact ih
    · exact ih
theorem WF_ends {n : nv} : WF n (F_ends n) := by
  unfold F_ends
  split
  · split
    · exact WF_trans WF_map (WF_trans (WF_un (by decide)) (WF_un (by decide)))
    · exact WF_map
  · split
    · split
      · exact WF_trans WF_ret (WF_trans (WF_un (by decide)) (WF_un (by decide)))
      · exact WF_ret
    · exact WF_trans (WF_un (by decide)) (WF_un (by decide))
theorem ends_ph {n : nv} (h : (F_ends n) 1 0 = 1) : (F_ends n) 16 0 = 0 := by
  unfold F_ends at h ⊢
  split
  · split
    · exact un_eq
    · rename_i h1 h2
      simp only [h1, h2, if_true, if_false] at h
  · split
    · split
      · exact un_eq
      · rename_i h1 h2 h3
        simp only [h1, h2, h3, if_true, if_false] at h
    · exact un_eq
theorem Wl_beg1 {a : rA} {p : Nat} (h : Wl a) : Wl (A_beg1 a p) := by
  unfold A_beg1
  exact Wl_ask (Wl_pN h)
theorem Wl_beg2 {a : rA} {p : Nat} (h : Wl a) : Wl (A_beg2 a p) := by
  unfold A_beg2
  exact Wl_ask (Wl_pN h)
theorem Wn_beg1 {a : rA} {p : Nat} (h : Wn (a.1 p)) : Wn ((A_beg1 a p).1 p) := by
  unfold A_beg1
  have h0 : Wn ((pN a p (F_begin1 (a.1 p) p)).1 p) := by
    rw [pN_eq]
    exact Wn_begin1 h
  exact Wn_KF h0 KF_ask
theorem Wn_beg2 {a : rA} {p : Nat} (h : Wn (a.1 p)) : Wn ((A_beg2 a p).1 p) := by
  unfold A_beg2
  have h0 : Wn ((pN a p (F_ph (a.1 p) 2)).1 p) := by
    rw [pN_eq]
    exact Wn_ph h
  exact Wn_KF h0 KF_ask
theorem Wl_second {a : rA} {p : Nat} (h : Wl a) : Wl (A_second a p) := by
  unfold A_second
  split
  · exact Wl_beg2 h
  · split
    · exact Wl_beg2 (Wl_pN h)
    · exact Wl_pN h
theorem Wn_second {a : rA} {p : Nat} (h : Wn (a.1 p)) : Wn ((A_second a p).1 p) := by
  have h2 : Wn ((pN a p (F_sec (a.1 p) p)).1 p) := by
    rw [pN_eq]
    exact Wn_KF h KF_sec
  unfold A_second
  split
  · exact Wn_beg2 h
  · split
    · exact Wn_beg2 h2
    · exact h2
theorem beg2_ph {a : rA} {p : Nat} (h : (A_beg2 a p).1 p 1 0 = 1) : (A_beg2 a p).1 p 16 0 = 2 := by
  unfold A_beg2 at h ⊢
  have hk := KF_ask (a := pN a p (F_ph (a.1 p) 2)) (p := p) (s := F_want (F_ph (a.1 p) 2)) (k := 8)
  have h2 := hk.2.2.2.2.2 h
  have h3 := h2.2.2.2.2.2.1
  rw [pN_eq] at h3
  refine h3.trans ?_
  unfold F_ph
  simp (disch := decide) only [un_nk, un_eq]
theorem second_ph {a : rA} {p : Nat} (h : (A_second a p).1 p 1 0 = 1) : (A_second a p).1 p 16 0 = 2 := by
  unfold A_second at h ⊢
  split
  · rename_i h1
    rw [if_pos h1] at h
    exact beg2_ph h
  · rename_i h1
    rw [if_neg h1] at h
    split
    · rename_i h2
      rw [if_pos h2] at h
      exact beg2_ph h
    · rename_i h2
      rw [if_neg h2, pN_eq] at h
      exact absurd h h2
def A_stp (a : rA) (p : Nat) : rA := if a.1 p 16 0 = 1 then A_second a p else pN a p (F_ends (a.1 p))
def A_cd (n : nv) : Int32 := if n 1 0 = 1 ∧ ¬ n 16 0 ≤ 0 ∧ ¬ F_enough n = 0 then 1 else 0
def A_go (a : rA) (p : Nat) : rA := if A_cd (a.1 p) = 0 then a else if A_cd ((A_stp a p).1 p) = 0 then A_stp a p else A_stp (A_stp a p) p
theorem cd_ne {n : nv} (h : ¬ A_cd n = 0) : n 1 0 = 1 ∧ ¬ n 16 0 ≤ 0 ∧ ¬ F_enough n = 0 := by
  unfold A_cd at h
  split at h
  · assumption
  · exact absurd rfl h
theorem Wl_stp {a : rA} {p : Nat} (h : Wl a) : Wl (A_stp a p) := by
  unfold A_stp
  split
  · exact Wl_second h
  · exact Wl_pN h
theorem Wn_stp {a : rA} {p : Nat} (h : Wn (a.1 p)) : Wn ((A_stp a p).1 p) := by
  unfold A_stp
  split
  · exact Wn_second h
  · rw [pN_eq]
    exact Wn_WF h WF_ends
theorem cd_end {a : rA} {p : Nat} (h : ¬ a.1 p 16 0 = 1) : A_cd ((A_stp a p).1 p) = 0 := by
  by_cases hc : A_cd ((A_stp a p).1 p) = 0
  · exact hc
  · exfalso
    obtain ⟨h1, h2, _⟩ := cd_ne hc
    unfold A_stp at h1 h2
    rw [if_neg h, pN_eq] at h1 h2
    rw [ends_ph h1] at h2
    exact h2 (by decide)
theorem cd_two {a : rA} {p : Nat} (h : ¬ A_cd ((A_stp a p).1 p) = 0) : A_cd ((A_stp (A_stp a p) p).1 p) = 0 := by
  apply cd_end
  by_cases h1 : a.1 p 16 0 = 1
  · have hu := (cd_ne h).1
    unfold A_stp at hu ⊢
    rw [if_pos h1] at hu ⊢
    rw [second_ph hu]
    decide
  · exact absurd (cd_end h1) h
theorem n_go1 {Q : Option Value → xH → Prop} {r : Nat} {g : xH} {a : rA} {p : Nat} {n : Nat} (hp : p < 8) (hl : Wl a) (hw : Wn (a.1 p)) : w_M_goesOn_0 Q (n + 1) r (nI p) (rl r g (tt a)) ↔ (if A_cd (a.1 p) = 0 then Q none (rl r g (tt a)) else w_M_goesOn_0 Q n r (nI p) (rl r g (tt (A_stp a p)))) := by
  rw [w_M_goesOn_0]
  unfold A_cd
  by_cases h1 : a.1 p 1 0 = 1
  · by_cases h2 : a.1 p 16 0 ≤ 0
    · simp (maxSteps := 4000000) (disch := first | omega | decide) only [n_isUp hp, F_isUp, rl_r, ro_len, rAr_len, rAr_set, nb0, nb1, rl_k1, rl_k2, rl_k3, rl_k4, rl_k5, rl_k6, rl_k7, rl_k8, rl_k9, rl_k10, rl_k11, rl_k12, rl_k13, rl_k14, rl_k15, rl_k16, rl_k17, rl_k18, rl_k19, rl_k20, rl_k21, rl_k22, rl_k23, rl_k24, rl_k25, rl_k26, rl_k27, rl_k28, rl_k29, rl_k30, rl_k31, rl_s1, rl_s2, rl_s3, rl_s4, rl_s5, rl_s6, rl_s7, rl_s8, rl_s9, rl_s10, rl_s11, rl_s12, rl_s13, rl_s14, rl_s15, rl_s16, rl_s17, rl_s18, rl_s19, rl_s20, rl_s21, rl_s22, rl_s23, rl_s24, rl_s25, rl_s26, rl_s27, rl_s28, rl_s29, rl_s30, rl_s31, ro_0, ro_1, ro_2, ro_3, ro_4, ro_5, ro_6, ro_7, ro_8, ro_9, ro_10, ro_11, ro_12, ro_13, ro_14, ro_15, ro_16, ro_17, ro_18, ro_19, ro_20, ro_21, ro_22, ro_23, ro_24, ro_25, ro_26, ro_27, ro_28, ro_29, ro_30, ro_31, ro_32, ro_33, ro_34, ro_35, rl_g0, rl_g1, rl_g2, rl_g3, rl_g4, Option.some.injEq, Sum.inr.injEq, Sum.inl.injEq, Prod.mk.injEq, Value.ref.injEq, Value.int.injEq, true_and, and_true, exists_eq_left', exists_eq_left, exists_and_left, forall_eq, rAr_get, nI_nn, nI_cl, exists_const, sA, sF_eq, sF_ne, sF_2, sG_1, sG_2, exists_eq', exists_eq, ix4a, ix16a, nI_add, xlt, up1_eq, sF_sF, tt_r1, tt_r2, tt_r3, tt_r4, tt_r5, tt_r6, tt_r7, tt_r8, tt_r9, tt_r10, tt_r11, tt_r12, tt_r13, tt_r14, tt_r15, tt_r16, tt_r17, tt_r18, tt_r19, tt_r20, tt_r21, tt_r22, tt_r23, tt_r24, tt_r25, tt_r26, tt_r27, tt_r28, tt_r29, tt_r30, tt_r31, tt_i0, tt_i1, tt_i2, tt_i3, tt_i4, tt_u1, tt_u2, tt_u3, tt_u4, tt_u5, tt_u6, tt_u7, tt_u8, tt_u9, tt_u10, tt_u11, tt_u12, tt_u13, tt_u14, tt_u15, tt_u16, tt_u17, tt_u18, tt_u19, tt_u20, tt_u21, tt_u22, tt_u23, tt_u24, tt_u25, tt_u26, tt_u27, tt_u28, tt_u29, tt_u30, tt_u31, tt_j0, tt_j1, tt_j2, tt_j3, pN_eq, pN_pN, pN_2, un_eq, un_nk, aM_1, aM_2, aM_3, aW_1, aW_2, aW_3, aG_1, aG_2, aG_3, aG_4, eq_self, not_true_eq_false, not_false_eq_true, true_implies, false_implies, if_true, if_false, h1, h2, k10, and_false, and_self, false_and]
    · by_cases h3 : F_enough (a.1 p) = 0
      · simp (maxSteps := 4000000) (disch := first | omega | decide) only [n_isUp hp, F_isUp, n_isEnough hp hw, rl_r, ro_len, rAr_len, rAr_set, nb0, nb1, rl_k1, rl_k2, rl_k3, rl_k4, rl_k5, rl_k6, rl_k7, rl_k8, rl_k9, rl_k10, rl_k11, rl_k12, rl_k13, rl_k14, rl_k15, rl_k16, rl_k17, rl_k18, rl_k19, rl_k20, rl_k21, rl_k22, rl_k23, rl_k24, rl_k25, rl_k26, rl_k27, rl_k28, rl_k29, rl_k30, rl_k31, rl_s1, rl_s2, rl_s3, rl_s4, rl_s5, rl_s6, rl_s7, rl_s8, rl_s9, rl_s10, rl_s11, rl_s12, rl_s13, rl_s14, rl_s15, rl_s16, rl_s17, rl_s18, rl_s19, rl_s20, rl_s21, rl_s22, rl_s23, rl_s24, rl_s25, rl_s26, rl_s27, rl_s28, rl_s29, rl_s30, rl_s31, ro_0, ro_1, ro_2, ro_3, ro_4, ro_5, ro_6, ro_7, ro_8, ro_9, ro_10, ro_11, ro_12, ro_13, ro_14, ro_15, ro_16, ro_17, ro_18, ro_19, ro_20, ro_21, ro_22, ro_23, ro_24, ro_25, ro_26, ro_27, ro_28, ro_29, ro_30, ro_31, ro_32, ro_33, ro_34, ro_35, rl_g0, rl_g1, rl_g2, rl_g3, rl_g4, Option.some.injEq, Sum.inr.injEq, Sum.inl.injEq, Prod.mk.injEq, Value.ref.injEq, Value.int.injEq, true_and, and_true, exists_eq_left', exists_eq_left, exists_and_left, forall_eq, rAr_get, nI_nn, nI_cl, exists_const, sA, sF_eq, sF_ne, sF_2, sG_1, sG_2, exists_eq', exists_eq, ix4a, ix16a, nI_add, xlt, up1_eq, sF_sF, tt_r1, tt_r2, tt_r3, tt_r4, tt_r5, tt_r6, tt_r7, tt_r8, tt_r9, tt_r10, tt_r11, tt_r12, tt_r13, tt_r14, tt_r15, tt_r16, tt_r17, tt_r18, tt_r19, tt_r20, tt_r21, tt_r22, tt_r23, tt_r24, tt_r25, tt_r26, tt_r27, tt_r28, tt_r29, tt_r30, tt_r31, tt_i0, tt_i1, tt_i2, tt_i3, tt_i4, tt_u1, tt_u2, tt_u3, tt_u4, tt_u5, tt_u6, tt_u7, tt_u8, tt_u9, tt_u10, tt_u11, tt_u12, tt_u13, tt_u14, tt_u15, tt_u16, tt_u17, tt_u18, tt_u19, tt_u20, tt_u21, tt_u22, tt_u23, tt_u24, tt_u25, tt_u26, tt_u27, tt_u28, tt_u29, tt_u30, tt_u31, tt_j0, tt_j1, tt_j2, tt_j3, pN_eq, pN_pN, pN_2, un_eq, un_nk, aM_1, aM_2, aM_3, aW_1, aW_2, aW_3, aG_1, aG_2, aG_3, aG_4, eq_self, not_true_eq_false, not_false_eq_true, true_implies, false_implies, if_true, if_false, h1, h2, h3, k10, and_false, and_self, false_and]
      · unfold A_stp
        by_cases h4 : a.1 p 16 0 = 1
        · simp (maxSteps := 4000000) (disch := first | omega | decide) only [n_isUp hp, F_isUp, n_isEnough hp hw, n_second hp hl hw, rl_r, ro_len, rAr_len, rAr_set, nb0, nb1, rl_k1, rl_k2, rl_k3, rl_k4, rl_k5, rl_k6, rl_k7, rl_k8, rl_k9, rl_k10, rl_k11, rl_k12, rl_k13, rl_k14, rl_k15, rl_k16, rl_k17, rl_k18, rl_k19, rl_k20, rl_k21, rl_k22, rl_k23, rl_k24, rl_k25, rl_k26, rl_k27, rl_k28, rl_k29, rl_k30, rl_k31, rl_s1, rl_s2, rl_s3, rl_s4, rl_s5, rl_s6, rl_s7, rl_s8, rl_s9, rl_s10, rl_s11, rl_s12, rl_s13, rl_s14, rl_s15, rl_s16, rl_s17, rl_s18, rl_s19, rl_s20, rl_s21, rl_s22, rl_s23, rl_s24, rl_s25, rl_s26, rl_s27, rl_s28, rl_s29, rl_s30, rl_s31, ro_0, ro_1, ro_2, ro_3, ro_4, ro_5, ro_6, ro_7, ro_8, ro_9, ro_10, ro_11, ro_12, ro_13, ro_14, ro_15, ro_16, ro_17, ro_18, ro_19, ro_20, ro_21, ro_22, ro_23, ro_24, ro_25, ro_26, ro_27, ro_28, ro_29, ro_30, ro_31, ro_32, ro_33, ro_34, ro_35, rl_g0, rl_g1, rl_g2, rl_g3, rl_g4, Option.some.injEq, Sum.inr.injEq, Sum.inl.injEq, Prod.mk.injEq, Value.ref.injEq, Value.int.injEq, true_and, and_true, exists_eq_left', exists_eq_left, exists_and_left, forall_eq, rAr_get, nI_nn, nI_cl, exists_const, sA, sF_eq, sF_ne, sF_2, sG_1, sG_2, exists_eq', exists_eq, ix4a, ix16a, nI_add, xlt, up1_eq, sF_sF, tt_r1, tt_r2, tt_r3, tt_r4, tt_r5, tt_r6, tt_r7, tt_r8, tt_r9, tt_r10, tt_r11, tt_r12, tt_r13, tt_r14, tt_r15, tt_r16, tt_r17, tt_r18, tt_r19, tt_r20, tt_r21, tt_r22, tt_r23, tt_r24, tt_r25, tt_r26, tt_r27, tt_r28, tt_r29, tt_r30, tt_r31, tt_i0, tt_i1, tt_i2, tt_i3, tt_i4, tt_u1, tt_u2, tt_u3, tt_u4, tt_u5, tt_u6, tt_u7, tt_u8, tt_u9, tt_u10, tt_u11, tt_u12, tt_u13, tt_u14, tt_u15, tt_u16, tt_u17, tt_u18, tt_u19, tt_u20, tt_u21, tt_u22, tt_u23, tt_u24, tt_u25, tt_u26, tt_u27, tt_u28, tt_u29, tt_u30, tt_u31, tt_j0, tt_j1, tt_j2, tt_j3, pN_eq, pN_pN, pN_2, un_eq, un_nk, aM_1, aM_2, aM_3, aW_1, aW_2, aW_3, aG_1, aG_2, aG_3, aG_4, eq_self, not_true_eq_false, not_false_eq_true, true_implies, false_implies, if_true, if_false, h1, h2, h3, h4, k10, and_false, and_self, false_and]
          have h5 : ¬ (1 : Int32) ≤ 0 := by decide
          simp only [h5, not_false_eq_true, true_implies, false_implies, true_and, and_true, and_self, k10, if_true, if_false]
        · simp (maxSteps := 4000000) (disch := first | omega | decide) only [n_isUp hp, F_isUp, n_isEnough hp hw, n_ends hp hw, rl_r, ro_len, rAr_len, rAr_set, nb0, nb1, rl_k1, rl_k2, rl_k3, rl_k4, rl_k5, rl_k6, rl_k7, rl_k8, rl_k9, rl_k10, rl_k11, rl_k12, rl_k13, rl_k14, rl_k15, rl_k16, rl_k17, rl_k18, rl_k19, rl_k20, rl_k21, rl_k22, rl_k23, rl_k24, rl_k25, rl_k26, rl_k27, rl_k28, rl_k29, rl_k30, rl_k31, rl_s1, rl_s2, rl_s3, rl_s4, rl_s5, rl_s6, rl_s7, rl_s8, rl_s9, rl_s10, rl_s11, rl_s12, rl_s13, rl_s14, rl_s15, rl_s16, rl_s17, rl_s18, rl_s19, rl_s20, rl_s21, rl_s22, rl_s23, rl_s24, rl_s25, rl_s26, rl_s27, rl_s28, rl_s29, rl_s30, rl_s31, ro_0, ro_1, ro_2, ro_3, ro_4, ro_5, ro_6, ro_7, ro_8, ro_9, ro_10, ro_11, ro_12, ro_13, ro_14, ro_15, ro_16, ro_17, ro_18, ro_19, ro_20, ro_21, ro_22, ro_23, ro_24, ro_25, ro_26, ro_27, ro_28, ro_29, ro_30, ro_31, ro_32, ro_33, ro_34, ro_35, rl_g0, rl_g1, rl_g2, rl_g3, rl_g4, Option.some.injEq, Sum.inr.injEq, Sum.inl.injEq, Prod.mk.injEq, Value.ref.injEq, Value.int.injEq, true_and, and_true, exists_eq_left', exists_eq_left, exists_and_left, forall_eq, rAr_get, nI_nn, nI_cl, exists_const, sA, sF_eq, sF_ne, sF_2, sG_1, sG_2, exists_eq', exists_eq, ix4a, ix16a, nI_add, xlt, up1_eq, sF_sF, tt_r1, tt_r2, tt_r3, tt_r4, tt_r5, tt_r6, tt_r7, tt_r8, tt_r9, tt_r10, tt_r11, tt_r12, tt_r13, tt_r14, tt_r15, tt_r16, tt_r17, tt_r18, tt_r19, tt_r20, tt_r21, tt_r22, tt_r23, tt_r24, tt_r25, tt_r26, tt_r27, tt_r28, tt_r29, tt_r30, tt_r31, tt_i0, tt_i1, tt_i2, tt_i3, tt_i4, tt_u1, tt_u2, tt_u3, tt_u4, tt_u5, tt_u6, tt_u7, tt_u8, tt_u9, tt_u10, tt_u11, tt_u12, tt_u13, tt_u14, tt_u15, tt_u16, tt_u17, tt_u18, tt_u19, tt_u20, tt_u21, tt_u22, tt_u23, tt_u24, tt_u25, tt_u26, tt_u27, tt_u28, tt_u29, tt_u30, tt_u31, tt_j0, tt_j1, tt_j2, tt_j3, pN_eq, pN_pN, pN_2, un_eq, un_nk, aM_1, aM_2, aM_3, aW_1, aW_2, aW_3, aG_1, aG_2, aG_3, aG_4, eq_self, not_true_eq_false, not_false_eq_true, true_implies, false_implies, if_true, if_false, h1, h2, h3, h4, k10, and_false, and_self, false_and]
  · simp (maxSteps := 4000000) (disch := first | omega | decide) only [n_isUp hp, F_isUp, rl_r, ro_len, rAr_len, rAr_set, nb0, nb1, rl_k1, rl_k2, rl_k3, rl_k4, rl_k5, rl_k6, rl_k7, rl_k8, rl_k9, rl_k10, rl_k11, rl_k12, rl_k13, rl_k14, rl_k15, rl_k16, rl_k17, rl_k18, rl_k19, rl_k20, rl_k21, rl_k22, rl_k23, rl_k24, rl_k25, rl_k26, rl_k27, rl_k28, rl_k29, rl_k30, rl_k31, rl_s1, rl_s2, rl_s3, rl_s4, rl_s5, rl_s6, rl_s7, rl_s8, rl_s9, rl_s10, rl_s11, rl_s12, rl_s13, rl_s14, rl_s15, rl_s16, rl_s17, rl_s18, rl_s19, rl_s20, rl_s21, rl_s22, rl_s23, rl_s24, rl_s25, rl_s26, rl_s27, rl_s28, rl_s29, rl_s30, rl_s31, ro_0, ro_1, ro_2, ro_3, ro_4, ro_5, ro_6, ro_7, ro_8, ro_9, ro_10, ro_11, ro_12, ro_13, ro_14, ro_15, ro_16, ro_17, ro_18, ro_19, ro_20, ro_21, ro_22, ro_23, ro_24, ro_25, ro_26, ro_27, ro_28, ro_29, ro_30, ro_31, ro_32, ro_33, ro_34, ro_35, rl_g0, rl_g1, rl_g2, rl_g3, rl_g4, Option.some.injEq, Sum.inr.injEq, Sum.inl.injEq, Prod.mk.injEq, Value.ref.injEq, Value.int.injEq, true_and, and_true, exists_eq_left', exists_eq_left, exists_and_left, forall_eq, rAr_get, nI_nn, nI_cl, exists_const, sA, sF_eq, sF_ne, sF_2, sG_1, sG_2, exists_eq', exists_eq, ix4a, ix16a, nI_add, xlt, up1_eq, sF_sF, tt_r1, tt_r2, tt_r3, tt_r4, tt_r5, tt_r6, tt_r7, tt_r8, tt_r9, tt_r10, tt_r11, tt_r12, tt_r13, tt_r14, tt_r15, tt_r16, tt_r17, tt_r18, tt_r19, tt_r20, tt_r21, tt_r22, tt_r23, tt_r24, tt_r25, tt_r26, tt_r27, tt_r28, tt_r29, tt_r30, tt_r31, tt_i0, tt_i1, tt_i2, tt_i3, tt_i4, tt_u1, tt_u2, tt_u3, tt_u4, tt_u5, tt_u6, tt_u7, tt_u8, tt_u9, tt_u10, tt_u11, tt_u12, tt_u13, tt_u14, tt_u15, tt_u16, tt_u17, tt_u18, tt_u19, tt_u20, tt_u21, tt_u22, tt_u23, tt_u24, tt_u25, tt_u26, tt_u27, tt_u28, tt_u29, tt_u30, tt_u31, tt_j0, tt_j1, tt_j2, tt_j3, pN_eq, pN_pN, pN_2, un_eq, un_nk, aM_1, aM_2, aM_3, aW_1, aW_2, aW_3, aG_1, aG_2, aG_3, aG_4, eq_self, not_true_eq_false, not_false_eq_true, true_implies, false_implies, if_true, if_false, h1, and_false, false_and]
theorem n_goesOn {Q : Option Value → xH → Prop} {r : Nat} {g : xH} {a : rA} {p : Nat} (hp : p < 8) (hl : Wl a) (hw : Wn (a.1 p)) : w_M_goesOn Q r (nI p) (rl r g (tt a)) ↔ Q none (rl r g (tt (A_go a p))) := by
  unfold w_M_goesOn A_go
  have hl1 : Wl (A_stp a p) := Wl_stp hl
  have hw1 : Wn ((A_stp a p).1 p) := Wn_stp hw
  have hl2 : Wl (A_stp (A_stp a p) p) := Wl_stp hl1
  have hw2 : Wn ((A_stp (A_stp a p) p).1 p) := Wn_stp hw1
  by_cases c0 : A_cd (a.1 p) = 0
  · rw [if_pos c0]
    constructor
    · rintro ⟨n, hn⟩
      cases n with
      | zero => exact absurd hn id
      | succ n =>
        rw [n_go1 hp hl hw, if_pos c0] at hn
        exact hn
    · intro h
      exact ⟨1, by rw [n_go1 hp hl hw, if_pos c0]; exact h⟩
  · rw [if_neg c0]
    by_cases c1 : A_cd ((A_stp a p).1 p) = 0
    · rw [if_pos c1]
      constructor
      · rintro ⟨n, hn⟩
        cases n with
        | zero => exact absurd hn id
        | succ n =>
          rw [n_go1 hp hl hw, if_neg c0] at hn
          cases n with
          | zero => exact absurd hn id
          | succ n =>
            rw [n_go1 hp hl1 hw1, if_pos c1] at hn
            exact hn
      · intro h
        exact ⟨2, by rw [n_go1 hp hl hw, if_neg c0, n_go1 hp hl1 hw1, if_pos c1]; exact h⟩
    · rw [if_neg c1]
      have c2 := cd_two c1
      constructor
      · rintro ⟨n, hn⟩
        cases n with
        | zero => exact absurd hn id
        | succ n =>
          rw [n_go1 hp hl hw, if_neg c0] at hn
          cases n with
          | zero => exact absurd hn id
          | succ n =>
            rw [n_go1 hp hl1 hw1, if_neg c1] at hn
            cases n with
            | zero => exact absurd hn id
            | succ n =>
              rw [n_go1 hp hl2 hw2, if_pos c2] at hn
              exact hn
      · intro h
        exact ⟨3, by rw [n_go1 hp hl hw, if_neg c0, n_go1 hp hl1 hw1, if_neg c1, n_go1 hp hl2 hw2, if_pos c2]; exact h⟩
theorem Wl_go {a : rA} {p : Nat} (h : Wl a) : Wl (A_go a p) := by
  unfold A_go
  split
  · exact h
  · split
    · exact Wl_stp h
    · exact Wl_stp (Wl_stp h)
theorem Wn_go {a : rA} {p : Nat} (h : Wn (a.1 p)) : Wn ((A_go a p).1 p) := by
  unfold A_go
  split
  · exact h
  · split
    · exact Wn_stp h
    · exact Wn_stp (Wn_stp h)
/-! looks, merges -/
def A_look0 (a : rA) (p : Nat) (rt : Int32) : rA := if F_isData (a.1 p) = 0 then (if a.1 p 15 0 = 3 then (if a.1 p 9 (ab (a.1 p)) = 0 then a else pN a p (F_proposed (a.1 p) (ab (a.1 p)))) else a) else (if a.1 p 16 0 = 1 then (if rt = 0 then A_ask a p (aac (a.1 p 9) (a.1 p 10) 16) 8 else A_beg1 a p) else A_ask a p (aac (a.1 p 9) (a.1 p 10) 16) 8)
def A_looks (a : rA) (p : Nat) (rt : Int32) : rA := if a.1 p 16 0 = 0 then a else A_go (A_look0 a p rt) p
theorem WF_proposed {n : nv} {q : Nat} : WF n (F_proposed n q) := WF_trans (WF_un (by decide)) (WF_un (by decide))
theorem Wl_look0 {a : rA} {p : Nat} {rt : Int32} (h : Wl a) : Wl (A_look0 a p rt) := by
  unfold A_look0
  split
  · split
    · split
      · exact h
      · exact Wl_pN h
    · exact h
  · split
    · split
      · exact Wl_ask h
      · exact Wl_beg1 h
    · exact Wl_ask h
theorem Wn_look0 {a : rA} {p : Nat} {rt : Int32} (h : Wn (a.1 p)) : Wn ((A_look0 a p rt).1 p) := by
  unfold A_look0
  split
  · split
    · split
      · exact h
      · rw [pN_eq]
        exact Wn_WF h WF_proposed
    · exact h
  · split
    · split
      · exact Wn_KF h KF_ask
      · exact Wn_beg1 h
    · exact Wn_KF h KF_ask
theorem n_looks {Q : Option Value → xH → Prop} {r : Nat} {g : xH} {a : rA} {p : Nat} {rt : Int32} (hp : p < 8) (hl : Wl a) (hw : Wn (a.1 p)) : w_M_looks Q r (nI p) rt (rl r g (tt a)) ↔ Q none (rl r g (tt (A_looks a p rt))) := by
  unfold A_looks A_look0
  have h17 := hw.1
  have ha := hw.2.1
  by_cases h0 : a.1 p 16 0 = 0
  · simp (maxSteps := 4000000) (disch := first | omega | decide) only [w_M_looks, rl_r, ro_len, rAr_len, rAr_set, nb0, nb1, rl_k1, rl_k2, rl_k3, rl_k4, rl_k5, rl_k6, rl_k7, rl_k8, rl_k9, rl_k10, rl_k11, rl_k12, rl_k13, rl_k14, rl_k15, rl_k16, rl_k17, rl_k18, rl_k19, rl_k20, rl_k21, rl_k22, rl_k23, rl_k24, rl_k25, rl_k26, rl_k27, rl_k28, rl_k29, rl_k30, rl_k31, rl_s1, rl_s2, rl_s3, rl_s4, rl_s5, rl_s6, rl_s7, rl_s8, rl_s9, rl_s10, rl_s11, rl_s12, rl_s13, rl_s14, rl_s15, rl_s16, rl_s17, rl_s18, rl_s19, rl_s20, rl_s21, rl_s22, rl_s23, rl_s24, rl_s25, rl_s26, rl_s27, rl_s28, rl_s29, rl_s30, rl_s31, ro_0, ro_1, ro_2, ro_3, ro_4, ro_5, ro_6, ro_7, ro_8, ro_9, ro_10, ro_11, ro_12, ro_13, ro_14, ro_15, ro_16, ro_17, ro_18, ro_19, ro_20, ro_21, ro_22, ro_23, ro_24, ro_25, ro_26, ro_27, ro_28, ro_29, ro_30, ro_31, ro_32, ro_33, ro_34, ro_35, rl_g0, rl_g1, rl_g2, rl_g3, rl_g4, Option.some.injEq, Sum.inr.injEq, Sum.inl.injEq, Prod.mk.injEq, Value.ref.injEq, Value.int.injEq, true_and, and_true, exists_eq_left', exists_eq_left, exists_and_left, forall_eq, rAr_get, nI_nn, nI_cl, exists_const, sA, sF_eq, sF_ne, sF_2, sG_1, sG_2, exists_eq', exists_eq, ix4a, ix16a, nI_add, xlt, up1_eq, sF_sF, tt_r1, tt_r2, tt_r3, tt_r4, tt_r5, tt_r6, tt_r7, tt_r8, tt_r9, tt_r10, tt_r11, tt_r12, tt_r13, tt_r14, tt_r15, tt_r16, tt_r17, tt_r18, tt_r19, tt_r20, tt_r21, tt_r22, tt_r23, tt_r24, tt_r25, tt_r26, tt_r27, tt_r28, tt_r29, tt_r30, tt_r31, tt_i0, tt_i1, tt_i2, tt_i3, tt_i4, tt_u1, tt_u2, tt_u3, tt_u4, tt_u5, tt_u6, tt_u7, tt_u8, tt_u9, tt_u10, tt_u11, tt_u12, tt_u13, tt_u14, tt_u15, tt_u16, tt_u17, tt_u18, tt_u19, tt_u20, tt_u21, tt_u22, tt_u23, tt_u24, tt_u25, tt_u26, tt_u27, tt_u28, tt_u29, tt_u30, tt_u31, tt_j0, tt_j1, tt_j2, tt_j3, pN_eq, pN_pN, pN_2, un_eq, un_nk, aM_1, aM_2, aM_3, aW_1, aW_2, aW_3, aG_1, aG_2, aG_3, aG_4, eq_self, not_true_eq_false, not_false_eq_true, true_implies, false_implies, if_true, if_false, h0]
  · by_cases h1 : F_isData (a.1 p) = 0
    · by_cases h3 : a.1 p 15 0 = 3
      · by_cases h9 : a.1 p 9 (ab (a.1 p)) = 0
        · simp (maxSteps := 4000000) (disch := first | omega | decide) only [w_M_looks, w_M_looks_88, n_isData hp, n_goesOn hp hl hw, rl_r, ro_len, rAr_len, rAr_set, nb0, nb1, rl_k1, rl_k2, rl_k3, rl_k4, rl_k5, rl_k6, rl_k7, rl_k8, rl_k9, rl_k10, rl_k11, rl_k12, rl_k13, rl_k14, rl_k15, rl_k16, rl_k17, rl_k18, rl_k19, rl_k20, rl_k21, rl_k22, rl_k23, rl_k24, rl_k25, rl_k26, rl_k27, rl_k28, rl_k29, rl_k30, rl_k31, rl_s1, rl_s2, rl_s3, rl_s4, rl_s5, rl_s6, rl_s7, rl_s8, rl_s9, rl_s10, rl_s11, rl_s12, rl_s13, rl_s14, rl_s15, rl_s16, rl_s17, rl_s18, rl_s19, rl_s20, rl_s21, rl_s22, rl_s23, rl_s24, rl_s25, rl_s26, rl_s27, rl_s28, rl_s29, rl_s30, rl_s31, ro_0, ro_1, ro_2, ro_3, ro_4, ro_5, ro_6, ro_7, ro_8, ro_9, ro_10, ro_11, ro_12, ro_13, ro_14, ro_15, ro_16, ro_17, ro_18, ro_19, ro_20, ro_21, ro_22, ro_23, ro_24, ro_25, ro_26, ro_27, ro_28, ro_29, ro_30, ro_31, ro_32, ro_33, ro_34, ro_35, rl_g0, rl_g1, rl_g2, rl_g3, rl_g4, Option.some.injEq, Sum.inr.injEq, Sum.inl.injEq, Prod.mk.injEq, Value.ref.injEq, Value.int.injEq, true_and, and_true, exists_eq_left', exists_eq_left, exists_and_left, forall_eq, rAr_get, nI_nn, nI_cl, exists_const, sA, sF_eq, sF_ne, sF_2, sG_1, sG_2, exists_eq', exists_eq, ix4a, ix16a, nI_add, xlt, up1_eq, sF_sF, tt_r1, tt_r2, tt_r3, tt_r4, tt_r5, tt_r6, tt_r7, tt_r8, tt_r9, tt_r10, tt_r11, tt_r12, tt_r13, tt_r14, tt_r15, tt_r16, tt_r17, tt_r18, tt_r19, tt_r20, tt_r21, tt_r22, tt_r23, tt_r24, tt_r25, tt_r26, tt_r27, tt_r28, tt_r29, tt_r30, tt_r31, tt_i0, tt_i1, tt_i2, tt_i3, tt_i4, tt_u1, tt_u2, tt_u3, tt_u4, tt_u5, tt_u6, tt_u7, tt_u8, tt_u9, tt_u10, tt_u11, tt_u12, tt_u13, tt_u14, tt_u15, tt_u16, tt_u17, tt_u18, tt_u19, tt_u20, tt_u21, tt_u22, tt_u23, tt_u24, tt_u25, tt_u26, tt_u27, tt_u28, tt_u29, tt_u30, tt_u31, tt_j0, tt_j1, tt_j2, tt_j3, pN_eq, pN_pN, pN_2, un_eq, un_nk, aM_1, aM_2, aM_3, aW_1, aW_2, aW_3, aG_1, aG_2, aG_3, aG_4, eq_self, not_true_eq_false, not_false_eq_true, true_implies, false_implies, if_true, if_false, h0, h1, h3, h9, h17]
        · have hw2 : Wn ((pN a p (F_proposed (a.1 p) (ab (a.1 p)))).1 p) := by
            rw [pN_eq]
            exact Wn_WF hw WF_proposed
          simp (maxSteps := 4000000) (disch := first | omega | decide) only [w_M_looks, w_M_looks_88, n_isData hp, n_proposed hp ha h17, n_goesOn hp (Wl_pN hl) hw2, rl_r, ro_len, rAr_len, rAr_set, nb0, nb1, rl_k1, rl_k2, rl_k3, rl_k4, rl_k5, rl_k6, rl_k7, rl_k8, rl_k9, rl_k10, rl_k11, rl_k12, rl_k13, rl_k14, rl_k15, rl_k16, rl_k17, rl_k18, rl_k19, rl_k20, rl_k21, rl_k22, rl_k23, rl_k24, rl_k25, rl_k26, rl_k27, rl_k28, rl_k29, rl_k30, rl_k31, rl_s1, rl_s2, rl_s3, rl_s4, rl_s5, rl_s6, rl_s7, rl_s8, rl_s9, rl_s10, rl_s11, rl_s12, rl_s13, rl_s14, rl_s15, rl_s16, rl_s17, rl_s18, rl_s19, rl_s20, rl_s21, rl_s22, rl_s23, rl_s24, rl_s25, rl_s26, rl_s27, rl_s28, rl_s29, rl_s30, rl_s31, ro_0, ro_1, ro_2, ro_3, ro_4, ro_5, ro_6, ro_7, ro_8, ro_9, ro_10, ro_11, ro_12, ro_13, ro_14, ro_15, ro_16, ro_17, ro_18, ro_19, ro_20, ro_21, ro_22, ro_23, ro_24, ro_25, ro_26, ro_27, ro_28, ro_29, ro_30, ro_31, ro_32, ro_33, ro_34, ro_35, rl_g0, rl_g1, rl_g2, rl_g3, rl_g4, Option.some.injEq, Sum.inr.injEq, Sum.inl.injEq, Prod.mk.injEq, Value.ref.injEq, Value.int.injEq, true_and, and_true, exists_eq_left', exists_eq_left, exists_and_left, forall_eq, rAr_get, nI_nn, nI_cl, exists_const, sA, sF_eq, sF_ne, sF_2, sG_1, sG_2, exists_eq', exists_eq, ix4a, ix16a, nI_add, xlt, up1_eq, sF_sF, tt_r1, tt_r2, tt_r3, tt_r4, tt_r5, tt_r6, tt_r7, tt_r8, tt_r9, tt_r10, tt_r11, tt_r12, tt_r13, tt_r14, tt_r15, tt_r16, tt_r17, tt_r18, tt_r19, tt_r20, tt_r21, tt_r22, tt_r23, tt_r24, tt_r25, tt_r26, tt_r27, tt_r28, tt_r29, tt_r30, tt_r31, tt_i0, tt_i1, tt_i2, tt_i3, tt_i4, tt_u1, tt_u2, tt_u3, tt_u4, tt_u5, tt_u6, tt_u7, tt_u8, tt_u9, tt_u10, tt_u11, tt_u12, tt_u13, tt_u14, tt_u15, tt_u16, tt_u17, tt_u18, tt_u19, tt_u20, tt_u21, tt_u22, tt_u23, tt_u24, tt_u25, tt_u26, tt_u27, tt_u28, tt_u29, tt_u30, tt_u31, tt_j0, tt_j1, tt_j2, tt_j3, pN_eq, pN_pN, pN_2, un_eq, un_nk, aM_1, aM_2, aM_3, aW_1, aW_2, aW_3, aG_1, aG_2, aG_3, aG_4, eq_self, not_true_eq_false, not_false_eq_true, true_implies, false_implies, if_true, if_false, h0, h1, h3, h9, h17]
      · simp (maxSteps := 4000000) (disch := first | omega | decide) only [w_M_looks, w_M_looks_88, n_isData hp, n_goesOn hp hl hw, rl_r, ro_len, rAr_len, rAr_set, nb0, nb1, rl_k1, rl_k2, rl_k3, rl_k4, rl_k5, rl_k6, rl_k7, rl_k8, rl_k9, rl_k10, rl_k11, rl_k12, rl_k13, rl_k14, rl_k15, rl_k16, rl_k17, rl_k18, rl_k19, rl_k20, rl_k21, rl_k22, rl_k23, rl_k24, rl_k25, rl_k26, rl_k27, rl_k28, rl_k29, rl_k30, rl_k31, rl_s1, rl_s2, rl_s3, rl_s4, rl_s5, rl_s6, rl_s7, rl_s8, rl_s9, rl_s10, rl_s11, rl_s12, rl_s13, rl_s14, rl_s15, rl_s16, rl_s17, rl_s18, rl_s19, rl_s20, rl_s21, rl_s22, rl_s23, rl_s24, rl_s25, rl_s26, rl_s27, rl_s28, rl_s29, rl_s30, rl_s31, ro_0, ro_1, ro_2, ro_3, ro_4, ro_5, ro_6, ro_7, ro_8, ro_9, ro_10, ro_11, ro_12, ro_13, ro_14, ro_15, ro_16, ro_17, ro_18, ro_19, ro_20, ro_21, ro_22, ro_23, ro_24, ro_25, ro_26, ro_27, ro_28, ro_29, ro_30, ro_31, ro_32, ro_33, ro_34, ro_35, rl_g0, rl_g1, rl_g2, rl_g3, rl_g4, Option.some.injEq, Sum.inr.injEq, Sum.inl.injEq, Prod.mk.injEq, Value.ref.injEq, Value.int.injEq, true_and, and_true, exists_eq_left', exists_eq_left, exists_and_left, forall_eq, rAr_get, nI_nn, nI_cl, exists_const, sA, sF_eq, sF_ne, sF_2, sG_1, sG_2, exists_eq', exists_eq, ix4a, ix16a, nI_add, xlt, up1_eq, sF_sF, tt_r1, tt_r2, tt_r3, tt_r4, tt_r5, tt_r6, tt_r7, tt_r8, tt_r9, tt_r10, tt_r11, tt_r12, tt_r13, tt_r14, tt_r15, tt_r16, tt_r17, tt_r18, tt_r19, tt_r20, tt_r21, tt_r22, tt_r23, tt_r24, tt_r25, tt_r26, tt_r27, tt_r28, tt_r29, tt_r30, tt_r31, tt_i0, tt_i1, tt_i2, tt_i3, tt_i4, tt_u1, tt_u2, tt_u3, tt_u4, tt_u5, tt_u6, tt_u7, tt_u8, tt_u9, tt_u10, tt_u11, tt_u12, tt_u13, tt_u14, tt_u15, tt_u16, tt_u17, tt_u18, tt_u19, tt_u20, tt_u21, tt_u22, tt_u23, tt_u24, tt_u25, tt_u26, tt_u27, tt_u28, tt_u29, tt_u30, tt_u31, tt_j0, tt_j1, tt_j2, tt_j3, pN_eq, pN_pN, pN_2, un_eq, un_nk, aM_1, aM_2, aM_3, aW_1, aW_2, aW_3, aG_1, aG_2, aG_3, aG_4, eq_self, not_true_eq_false, not_false_eq_true, true_implies, false_implies, if_true, if_false, h0, h1, h3]
    · have hl3 : Wl (A_ask a p (aac (a.1 p 9) (a.1 p 10) 16) 8) := Wl_ask hl
      have hw3 : Wn ((A_ask a p (aac (a.1 p 9) (a.1 p 10) 16) 8).1 p) := Wn_KF hw KF_ask
      by_cases h4 : a.1 p 16 0 = 1
      · by_cases h5 : rt = 0
        · simp (maxSteps := 4000000) (disch := first | omega | decide) only [w_M_looks, w_M_looks_41, w_M_looks_88, n_isData hp, n_allActive hp, n_ask hp hl hw, n_goesOn hp hl3 hw3, rl_r, ro_len, rAr_len, rAr_set, nb0, nb1, rl_k1, rl_k2, rl_k3, rl_k4, rl_k5, rl_k6, rl_k7, rl_k8, rl_k9, rl_k10, rl_k11, rl_k12, rl_k13, rl_k14, rl_k15, rl_k16, rl_k17, rl_k18, rl_k19, rl_k20, rl_k21, rl_k22, rl_k23, rl_k24, rl_k25, rl_k26, rl_k27, rl_k28, rl_k29, rl_k30, rl_k31, rl_s1, rl_s2, rl_s3, rl_s4, rl_s5, rl_s6, rl_s7, rl_s8, rl_s9, rl_s10, rl_s11, rl_s12, rl_s13, rl_s14, rl_s15, rl_s16, rl_s17, rl_s18, rl_s19, rl_s20, rl_s21, rl_s22, rl_s23, rl_s24, rl_s25, rl_s26, rl_s27, rl_s28, rl_s29, rl_s30, rl_s31, ro_0, ro_1, ro_2, ro_3, ro_4, ro_5, ro_6, ro_7, ro_8, ro_9, ro_10, ro_11, ro_12, ro_13, ro_14, ro_15, ro_16, ro_17, ro_18, ro_19, ro_20, ro_21, ro_22, ro_23, ro_24, ro_25, ro_26, ro_27, ro_28, ro_29, ro_30, ro_31, ro_32, ro_33, ro_34, ro_35, rl_g0, rl_g1, rl_g2, rl_g3, rl_g4, Option.some.injEq, Sum.inr.injEq, Sum.inl.injEq, Prod.mk.injEq, Value.ref.injEq, Value.int.injEq, true_and, and_true, exists_eq_left', exists_eq_left, exists_and_left, forall_eq, rAr_get, nI_nn, nI_cl, exists_const, sA, sF_eq, sF_ne, sF_2, sG_1, sG_2, exists_eq', exists_eq, ix4a, ix16a, nI_add, xlt, up1_eq, sF_sF, tt_r1, tt_r2, tt_r3, tt_r4, tt_r5, tt_r6, tt_r7, tt_r8, tt_r9, tt_r10, tt_r11, tt_r12, tt_r13, tt_r14, tt_r15, tt_r16, tt_r17, tt_r18, tt_r19, tt_r20, tt_r21, tt_r22, tt_r23, tt_r24, tt_r25, tt_r26, tt_r27, tt_r28, tt_r29, tt_r30, tt_r31, tt_i0, tt_i1, tt_i2, tt_i3, tt_i4, tt_u1, tt_u2, tt_u3, tt_u4, tt_u5, tt_u6, tt_u7, tt_u8, tt_u9, tt_u10, tt_u11, tt_u12, tt_u13, tt_u14, tt_u15, tt_u16, tt_u17, tt_u18, tt_u19, tt_u20, tt_u21, tt_u22, tt_u23, tt_u24, tt_u25, tt_u26, tt_u27, tt_u28, tt_u29, tt_u30, tt_u31, tt_j0, tt_j1, tt_j2, tt_j3, pN_eq, pN_pN, pN_2, un_eq, un_nk, aM_1, aM_2, aM_3, aW_1, aW_2, aW_3, aG_1, aG_2, aG_3, aG_4, eq_self, not_true_eq_false, not_false_eq_true, true_implies, false_implies, if_true, if_false, h0, h1, h4, h5, k10]
        · simp (maxSteps := 4000000) (disch := first | omega | decide) only [w_M_looks, w_M_looks_41, w_M_looks_88, n_isData hp, n_beg1 hp hl hw, n_goesOn hp (Wl_beg1 hl) (Wn_beg1 hw), rl_r, ro_len, rAr_len, rAr_set, nb0, nb1, rl_k1, rl_k2, rl_k3, rl_k4, rl_k5, rl_k6, rl_k7, rl_k8, rl_k9, rl_k10, rl_k11, rl_k12, rl_k13, rl_k14, rl_k15, rl_k16, rl_k17, rl_k18, rl_k19, rl_k20, rl_k21, rl_k22, rl_k23, rl_k24, rl_k25, rl_k26, rl_k27, rl_k28, rl_k29, rl_k30, rl_k31, rl_s1, rl_s2, rl_s3, rl_s4, rl_s5, rl_s6, rl_s7, rl_s8, rl_s9, rl_s10, rl_s11, rl_s12, rl_s13, rl_s14, rl_s15, rl_s16, rl_s17, rl_s18, rl_s19, rl_s20, rl_s21, rl_s22, rl_s23, rl_s24, rl_s25, rl_s26, rl_s27, rl_s28, rl_s29, rl_s30, rl_s31, ro_0, ro_1, ro_2, ro_3, ro_4, ro_5, ro_6, ro_7, ro_8, ro_9, ro_10, ro_11, ro_12, ro_13, ro_14, ro_15, ro_16, ro_17, ro_18, ro_19, ro_20, ro_21, ro_22, ro_23, ro_24, ro_25, ro_26, ro_27, ro_28, ro_29, ro_30, ro_31, ro_32, ro_33, ro_34, ro_35, rl_g0, rl_g1, rl_g2, rl_g3, rl_g4, Option.some.injEq, Sum.inr.injEq, Sum.inl.injEq, Prod.mk.injEq, Value.ref.injEq, Value.int.injEq, true_and, and_true, exists_eq_left', exists_eq_left, exists_and_left, forall_eq, rAr_get, nI_nn, nI_cl, exists_const, sA, sF_eq, sF_ne, sF_2, sG_1, sG_2, exists_eq', exists_eq, ix4a, ix16a, nI_add, xlt, up1_eq, sF_sF, tt_r1, tt_r2, tt_r3, tt_r4, tt_r5, tt_r6, tt_r7, tt_r8, tt_r9, tt_r10, tt_r11, tt_r12, tt_r13, tt_r14, tt_r15, tt_r16, tt_r17, tt_r18, tt_r19, tt_r20, tt_r21, tt_r22, tt_r23, tt_r24, tt_r25, tt_r26, tt_r27, tt_r28, tt_r29, tt_r30, tt_r31, tt_i0, tt_i1, tt_i2, tt_i3, tt_i4, tt_u1, tt_u2, tt_u3, tt_u4, tt_u5, tt_u6, tt_u7, tt_u8, tt_u9, tt_u10, tt_u11, tt_u12, tt_u13, tt_u14, tt_u15, tt_u16, tt_u17, tt_u18, tt_u19, tt_u20, tt_u21, tt_u22, tt_u23, tt_u24, tt_u25, tt_u26, tt_u27, tt_u28, tt_u29, tt_u30, tt_u31, tt_j0, tt_j1, tt_j2, tt_j3, pN_eq, pN_pN, pN_2, un_eq, un_nk, aM_1, aM_2, aM_3, aW_1, aW_2, aW_3, aG_1, aG_2, aG_3, aG_4, eq_self, not_true_eq_false, not_false_eq_true, true_implies, false_implies, if_true, if_false, h0, h1, h4, h5, k10]
      · simp (maxSteps := 4000000) (disch := first | omega | decide) only [w_M_looks, w_M_looks_41, w_M_looks_88, n_isData hp, n_allActive hp, n_ask hp hl hw, n_goesOn hp hl3 hw3, rl_r, ro_len, rAr_len, rAr_set, nb0, nb1, rl_k1, rl_k2, rl_k3, rl_k4, rl_k5, rl_k6, rl_k7, rl_k8, rl_k9, rl_k10, rl_k11, rl_k12, rl_k13, rl_k14, rl_k15, rl_k16, rl_k17, rl_k18, rl_k19, rl_k20, rl_k21, rl_k22, rl_k23, rl_k24, rl_k25, rl_k26, rl_k27, rl_k28, rl_k29, rl_k30, rl_k31, rl_s1, rl_s2, rl_s3, rl_s4, rl_s5, rl_s6, rl_s7, rl_s8, rl_s9, rl_s10, rl_s11, rl_s12, rl_s13, rl_s14, rl_s15, rl_s16, rl_s17, rl_s18, rl_s19, rl_s20, rl_s21, rl_s22, rl_s23, rl_s24, rl_s25, rl_s26, rl_s27, rl_s28, rl_s29, rl_s30, rl_s31, ro_0, ro_1, ro_2, ro_3, ro_4, ro_5, ro_6, ro_7, ro_8, ro_9, ro_10, ro_11, ro_12, ro_13, ro_14, ro_15, ro_16, ro_17, ro_18, ro_19, ro_20, ro_21, ro_22, ro_23, ro_24, ro_25, ro_26, ro_27, ro_28, ro_29, ro_30, ro_31, ro_32, ro_33, ro_34, ro_35, rl_g0, rl_g1, rl_g2, rl_g3, rl_g4, Option.some.injEq, Sum.inr.injEq, Sum.inl.injEq, Prod.mk.injEq, Value.ref.injEq, Value.int.injEq, true_and, and_true, exists_eq_left', exists_eq_left, exists_and_left, forall_eq, rAr_get, nI_nn, nI_cl, exists_const, sA, sF_eq, sF_ne, sF_2, sG_1, sG_2, exists_eq', exists_eq, ix4a, ix16a, nI_add, xlt, up1_eq, sF_sF, tt_r1, tt_r2, tt_r3, tt_r4, tt_r5, tt_r6, tt_r7, tt_r8, tt_r9, tt_r10, tt_r11, tt_r12, tt_r13, tt_r14, tt_r15, tt_r16, tt_r17, tt_r18, tt_r19, tt_r20, tt_r21, tt_r22, tt_r23, tt_r24, tt_r25, tt_r26, tt_r27, tt_r28, tt_r29, tt_r30, tt_r31, tt_i0, tt_i1, tt_i2, tt_i3, tt_i4, tt_u1, tt_u2, tt_u3, tt_u4, tt_u5, tt_u6, tt_u7, tt_u8, tt_u9, tt_u10, tt_u11, tt_u12, tt_u13, tt_u14, tt_u15, tt_u16, tt_u17, tt_u18, tt_u19, tt_u20, tt_u21, tt_u22, tt_u23, tt_u24, tt_u25, tt_u26, tt_u27, tt_u28, tt_u29, tt_u30, tt_u31, tt_j0, tt_j1, tt_j2, tt_j3, pN_eq, pN_pN, pN_2, un_eq, un_nk, aM_1, aM_2, aM_3, aW_1, aW_2, aW_3, aG_1, aG_2, aG_3, aG_4, eq_self, not_true_eq_false, not_false_eq_true, true_implies, false_implies, if_true, if_false, h0, h1, h4, k10]
def chg (n : nv) (w : Nat → Int32) : Nat → Int32
  | 0 => 0
  | k + 1 => if chg n w k = 0 then (if w (9 + 2 * k) ≤ n 9 k then 0 else 1) else 1
def rtd (n : nv) (w : Nat → Int32) : Nat → Int32
  | 0 => 0
  | k + 1 => if rtd n w k = 0 then (if w (9 + 2 * k) ≤ n 9 k then 0 else if n 9 k = 1 then 1 else 0) else 1
def F_mrg (n : nv) (w : Nat → Int32) : Nat → nv
  | 0 => n
  | k + 1 => if (F_mrg n w k) 9 k < w (9 + 2 * k) then un (un (F_mrg n w k) 9 k (w (9 + 2 * k))) 10 k (w (9 + 2 * k + 1)) else F_mrg n w k
def A_merges (a : rA) (p : Nat) : rA := if chg (a.1 p) a.2.2.1 16 = 0 then a else if (F_may (a.1 p)).1 = 0 then pN a p (F_may (a.1 p)).2 else A_looks (pN a p (F_mrg (F_may (a.1 p)).2 a.2.2.1 16)) p (rtd (a.1 p) a.2.2.1 16)
theorem WF_mrg {n : nv} {w : Nat → Int32} {k : Nat} : WF n (F_mrg n w k) := by
  induction k with
  | zero => exact WF_refl
  | succ k ih =>
    rw [F_mrg]
    split
    · exact WF_trans ih (WF_trans (WF_un (by decide)) (WF_un (by decide)))
    · exact ih
theorem n_mrg115 {Q : Option Value → xH → Prop} {r : Nat} {g : xH} {a : rA} {p : Nat} {l2 l3 : Int32} (hp : p < 8) (hl : Wl a) (hw : Wn (a.1 p)) : (∃ n, w_M_merges_115 Q n r (nI p) l2 l3 0 (rl r g (tt a))) ↔ Q none (rl r g (tt (A_looks (pN a p (F_mrg (a.1 p) a.2.2.1 16)) p l3))) := by
  have e := loop_iff (fun n (x : Int32 × xH) => w_M_merges_115 Q n r (nI p) l2 l3 x.1 x.2) (fun k => (nI k, rl r g (tt (pN a p (F_mrg (a.1 p) a.2.2.1 k))))) 16 (Q none (rl r g (tt (A_looks (pN a p (F_mrg (a.1 p) a.2.2.1 16)) p l3)))) (fun _ => id) ?_ ?_
  · rw [show F_mrg (a.1 p) a.2.2.1 0 = a.1 p from rfl, pN_self] at e
    exact e
  · intro n k hk
    show w_M_merges_115 Q (n + 1) r (nI p) l2 l3 (nI k) (rl r g (tt (pN a p (F_mrg (a.1 p) a.2.2.1 k)))) ↔ w_M_merges_115 Q n r (nI p) l2 l3 (nI (k + 1)) (rl r g (tt (pN a p (F_mrg (a.1 p) a.2.2.1 (k + 1)))))
    rw [w_M_merges_115, F_mrg]
    by_cases h1 : (F_mrg (a.1 p) a.2.2.1 k) 9 k < a.2.2.1 (9 + 2 * k) <;>
    simp (maxSteps := 4000000) (disch := first | omega | decide) only [w_M_merges_196, rl_r, ro_len, rAr_len, rAr_set, nb0, nb1, rl_k1, rl_k2, rl_k3, rl_k4, rl_k5, rl_k6, rl_k7, rl_k8, rl_k9, rl_k10, rl_k11, rl_k12, rl_k13, rl_k14, rl_k15, rl_k16, rl_k17, rl_k18, rl_k19, rl_k20, rl_k21, rl_k22, rl_k23, rl_k24, rl_k25, rl_k26, rl_k27, rl_k28, rl_k29, rl_k30, rl_k31, rl_s1, rl_s2, rl_s3, rl_s4, rl_s5, rl_s6, rl_s7, rl_s8, rl_s9, rl_s10, rl_s11, rl_s12, rl_s13, rl_s14, rl_s15, rl_s16, rl_s17, rl_s18, rl_s19, rl_s20, rl_s21, rl_s22, rl_s23, rl_s24, rl_s25, rl_s26, rl_s27, rl_s28, rl_s29, rl_s30, rl_s31, ro_0, ro_1, ro_2, ro_3, ro_4, ro_5, ro_6, ro_7, ro_8, ro_9, ro_10, ro_11, ro_12, ro_13, ro_14, ro_15, ro_16, ro_17, ro_18, ro_19, ro_20, ro_21, ro_22, ro_23, ro_24, ro_25, ro_26, ro_27, ro_28, ro_29, ro_30, ro_31, ro_32, ro_33, ro_34, ro_35, rl_g0, rl_g1, rl_g2, rl_g3, rl_g4, Option.some.injEq, Sum.inr.injEq, Sum.inl.injEq, Prod.mk.injEq, Value.ref.injEq, Value.int.injEq, true_and, and_true, exists_eq_left', exists_eq_left, exists_and_left, forall_eq, rAr_get, nI_nn, nI_cl, exists_const, sA, sF_eq, sF_ne, sF_2, sG_1, sG_2, exists_eq', exists_eq, ix4a, ix16a, nI_add, xlt, up1_eq, sF_sF, tt_r1, tt_r2, tt_r3, tt_r4, tt_r5, tt_r6, tt_r7, tt_r8, tt_r9, tt_r10, tt_r11, tt_r12, tt_r13, tt_r14, tt_r15, tt_r16, tt_r17, tt_r18, tt_r19, tt_r20, tt_r21, tt_r22, tt_r23, tt_r24, tt_r25, tt_r26, tt_r27, tt_r28, tt_r29, tt_r30, tt_r31, tt_i0, tt_i1, tt_i2, tt_i3, tt_i4, tt_u1, tt_u2, tt_u3, tt_u4, tt_u5, tt_u6, tt_u7, tt_u8, tt_u9, tt_u10, tt_u11, tt_u12, tt_u13, tt_u14, tt_u15, tt_u16, tt_u17, tt_u18, tt_u19, tt_u20, tt_u21, tt_u22, tt_u23, tt_u24, tt_u25, tt_u26, tt_u27, tt_u28, tt_u29, tt_u30, tt_u31, tt_j0, tt_j1, tt_j2, tt_j3, pN_eq, pN_pN, pN_2, un_eq, un_nk, aM_1, aM_2, aM_3, aW_1, aW_2, aW_3, aG_1, aG_2, aG_3, aG_4, eq_self, not_true_eq_false, not_false_eq_true, true_implies, false_implies, if_true, if_false, h1, xge16, nI_1, ix9]
  · intro n
    show w_M_merges_115 Q (n + 1) r (nI p) l2 l3 (nI 16) (rl r g (tt (pN a p (F_mrg (a.1 p) a.2.2.1 16)))) ↔ _
    rw [w_M_merges_115]
    have h1 : (16 : Int32) ≤ nI 16 := by decide
    have hw2 : Wn ((pN a p (F_mrg (a.1 p) a.2.2.1 16)).1 p) := by
      rw [pN_eq]
      exact Wn_WF hw WF_mrg
    simp (maxSteps := 4000000) (disch := first | omega | decide) only [n_looks hp (Wl_pN hl) hw2, rl_r, ro_len, rAr_len, rAr_set, nb0, nb1, rl_k1, rl_k2, rl_k3, rl_k4, rl_k5, rl_k6, rl_k7, rl_k8, rl_k9, rl_k10, rl_k11, rl_k12, rl_k13, rl_k14, rl_k15, rl_k16, rl_k17, rl_k18, rl_k19, rl_k20, rl_k21, rl_k22, rl_k23, rl_k24, rl_k25, rl_k26, rl_k27, rl_k28, rl_k29, rl_k30, rl_k31, rl_s1, rl_s2, rl_s3, rl_s4, rl_s5, rl_s6, rl_s7, rl_s8, rl_s9, rl_s10, rl_s11, rl_s12, rl_s13, rl_s14, rl_s15, rl_s16, rl_s17, rl_s18, rl_s19, rl_s20, rl_s21, rl_s22, rl_s23, rl_s24, rl_s25, rl_s26, rl_s27, rl_s28, rl_s29, rl_s30, rl_s31, ro_0, ro_1, ro_2, ro_3, ro_4, ro_5, ro_6, ro_7, ro_8, ro_9, ro_10, ro_11, ro_12, ro_13, ro_14, ro_15, ro_16, ro_17, ro_18, ro_19, ro_20, ro_21, ro_22, ro_23, ro_24, ro_25, ro_26, ro_27, ro_28, ro_29, ro_30, ro_31, ro_32, ro_33, ro_34, ro_35, rl_g0, rl_g1, rl_g2, rl_g3, rl_g4, Option.some.injEq, Sum.inr.injEq, Sum.inl.injEq, Prod.mk.injEq, Value.ref.injEq, Value.int.injEq, true_and, and_true, exists_eq_left', exists_eq_left, exists_and_left, forall_eq, rAr_get, nI_nn, nI_cl, exists_const, sA, sF_eq, sF_ne, sF_2, sG_1, sG_2, exists_eq', exists_eq, ix4a, ix16a, nI_add, xlt, up1_eq, sF_sF, tt_r1, tt_r2, tt_r3, tt_r4, tt_r5, tt_r6, tt_r7, tt_r8, tt_r9, tt_r10, tt_r11, tt_r12, tt_r13, tt_r14, tt_r15, tt_r16, tt_r17, tt_r18, tt_r19, tt_r20, tt_r21, tt_r22, tt_r23, tt_r24, tt_r25, tt_r26, tt_r27, tt_r28, tt_r29, tt_r30, tt_r31, tt_i0, tt_i1, tt_i2, tt_i3, tt_i4, tt_u1, tt_u2, tt_u3, tt_u4, tt_u5, tt_u6, tt_u7, tt_u8, tt_u9, tt_u10, tt_u11, tt_u12, tt_u13, tt_u14, tt_u15, tt_u16, tt_u17, tt_u18, tt_u19, tt_u20, tt_u21, tt_u22, tt_u23, tt_u24, tt_u25, tt_u26, tt_u27, tt_u28, tt_u29, tt_u30, tt_u31, tt_j0, tt_j1, tt_j2, tt_j3, pN_eq, pN_pN, pN_2, un_eq, un_nk, aM_1, aM_2, aM_3, aW_1, aW_2, aW_3, aG_1, aG_2, aG_3, aG_4, eq_self, not_true_eq_false, not_false_eq_true, true_implies, false_implies, if_true, if_false, h1]
theorem may_now {a : rA} {p : Nat} {n : nv} : (pN a p n).2.2.1 = a.2.2.1 := rfl
theorem n_merges {Q : Option Value → xH → Prop} {r : Nat} {g : xH} {a : rA} {p : Nat} (hp : p < 8) (hl : Wl a) (hw : Wn (a.1 p)) : w_M_merges Q r (nI p) (rl r g (tt a)) ↔ Q none (rl r g (tt (A_merges a p))) := by
  unfold w_M_merges A_merges
  refine loop_iff (fun n (x : Int32 × Int32 × Int32) => w_M_merges_7 Q n r (nI p) x.1 x.2.1 x.2.2 (rl r g (tt a))) (fun k => (chg (a.1 p) a.2.2.1 k, rtd (a.1 p) a.2.2.1 k, nI k)) 16 _ (fun _ => id) ?_ ?_
  · intro n k hk
    show w_M_merges_7 Q (n + 1) r (nI p) (chg (a.1 p) a.2.2.1 k) (rtd (a.1 p) a.2.2.1 k) (nI k) (rl r g (tt a)) ↔ w_M_merges_7 Q n r (nI p) (chg (a.1 p) a.2.2.1 (k + 1)) (rtd (a.1 p) a.2.2.1 (k + 1)) (nI (k + 1)) (rl r g (tt a))
    rw [w_M_merges_7, chg, rtd]
    by_cases h4 : a.1 p 9 k = 1
    · by_cases h1 : a.2.2.1 (9 + 2 * k) ≤ 1 <;> by_cases h2 : chg (a.1 p) a.2.2.1 k = 0 <;> by_cases h3 : rtd (a.1 p) a.2.2.1 k = 0 <;>
      simp (maxSteps := 4000000) (disch := first | omega | decide) only [w_M_merges_50, w_M_merges_61, w_M_merges_66, w_M_merges_87, w_M_merges_91, w_M_merges_92, rl_r, ro_len, rAr_len, rAr_set, nb0, nb1, rl_k1, rl_k2, rl_k3, rl_k4, rl_k5, rl_k6, rl_k7, rl_k8, rl_k9, rl_k10, rl_k11, rl_k12, rl_k13, rl_k14, rl_k15, rl_k16, rl_k17, rl_k18, rl_k19, rl_k20, rl_k21, rl_k22, rl_k23, rl_k24, rl_k25, rl_k26, rl_k27, rl_k28, rl_k29, rl_k30, rl_k31, rl_s1, rl_s2, rl_s3, rl_s4, rl_s5, rl_s6, rl_s7, rl_s8, rl_s9, rl_s10, rl_s11, rl_s12, rl_s13, rl_s14, rl_s15, rl_s16, rl_s17, rl_s18, rl_s19, rl_s20, rl_s21, rl_s22, rl_s23, rl_s24, rl_s25, rl_s26, rl_s27, rl_s28, rl_s29, rl_s30, rl_s31, ro_0, ro_1, ro_2, ro_3, ro_4, ro_5, ro_6, ro_7, ro_8, ro_9, ro_10, ro_11, ro_12, ro_13, ro_14, ro_15, ro_16, ro_17, ro_18, ro_19, ro_20, ro_21, ro_22, ro_23, ro_24, ro_25, ro_26, ro_27, ro_28, ro_29, ro_30, ro_31, ro_32, ro_33, ro_34, ro_35, rl_g0, rl_g1, rl_g2, rl_g3, rl_g4, Option.some.injEq, Sum.inr.injEq, Sum.inl.injEq, Prod.mk.injEq, Value.ref.injEq, Value.int.injEq, true_and, and_true, exists_eq_left', exists_eq_left, exists_and_left, forall_eq, rAr_get, nI_nn, nI_cl, exists_const, sA, sF_eq, sF_ne, sF_2, sG_1, sG_2, exists_eq', exists_eq, ix4a, ix16a, nI_add, xlt, up1_eq, sF_sF, tt_r1, tt_r2, tt_r3, tt_r4, tt_r5, tt_r6, tt_r7, tt_r8, tt_r9, tt_r10, tt_r11, tt_r12, tt_r13, tt_r14, tt_r15, tt_r16, tt_r17, tt_r18, tt_r19, tt_r20, tt_r21, tt_r22, tt_r23, tt_r24, tt_r25, tt_r26, tt_r27, tt_r28, tt_r29, tt_r30, tt_r31, tt_i0, tt_i1, tt_i2, tt_i3, tt_i4, tt_u1, tt_u2, tt_u3, tt_u4, tt_u5, tt_u6, tt_u7, tt_u8, tt_u9, tt_u10, tt_u11, tt_u12, tt_u13, tt_u14, tt_u15, tt_u16, tt_u17, tt_u18, tt_u19, tt_u20, tt_u21, tt_u22, tt_u23, tt_u24, tt_u25, tt_u26, tt_u27, tt_u28, tt_u29, tt_u30, tt_u31, tt_j0, tt_j1, tt_j2, tt_j3, pN_eq, pN_pN, pN_2, un_eq, un_nk, aM_1, aM_2, aM_3, aW_1, aW_2, aW_3, aG_1, aG_2, aG_3, aG_4, eq_self, not_true_eq_false, not_false_eq_true, true_implies, false_implies, if_true, if_false, h1, h2, h3, h4, xge16, nI_1, ix9, k10]
    · by_cases h1 : a.2.2.1 (9 + 2 * k) ≤ a.1 p 9 k <;> by_cases h2 : chg (a.1 p) a.2.2.1 k = 0 <;> by_cases h3 : rtd (a.1 p) a.2.2.1 k = 0 <;>
      simp (maxSteps := 4000000) (disch := first | omega | decide) only [w_M_merges_50, w_M_merges_61, w_M_merges_66, w_M_merges_87, w_M_merges_91, w_M_merges_92, rl_r, ro_len, rAr_len, rAr_set, nb0, nb1, rl_k1, rl_k2, rl_k3, rl_k4, rl_k5, rl_k6, rl_k7, rl_k8, rl_k9, rl_k10, rl_k11, rl_k12, rl_k13, rl_k14, rl_k15, rl_k16, rl_k17, rl_k18, rl_k19, rl_k20, rl_k21, rl_k22, rl_k23, rl_k24, rl_k25, rl_k26, rl_k27, rl_k28, rl_k29, rl_k30, rl_k31, rl_s1, rl_s2, rl_s3, rl_s4, rl_s5, rl_s6, rl_s7, rl_s8, rl_s9, rl_s10, rl_s11, rl_s12, rl_s13, rl_s14, rl_s15, rl_s16, rl_s17, rl_s18, rl_s19, rl_s20, rl_s21, rl_s22, rl_s23, rl_s24, rl_s25, rl_s26, rl_s27, rl_s28, rl_s29, rl_s30, rl_s31, ro_0, ro_1, ro_2, ro_3, ro_4, ro_5, ro_6, ro_7, ro_8, ro_9, ro_10, ro_11, ro_12, ro_13, ro_14, ro_15, ro_16, ro_17, ro_18, ro_19, ro_20, ro_21, ro_22, ro_23, ro_24, ro_25, ro_26, ro_27, ro_28, ro_29, ro_30, ro_31, ro_32, ro_33, ro_34, ro_35, rl_g0, rl_g1, rl_g2, rl_g3, rl_g4, Option.some.injEq, Sum.inr.injEq, Sum.inl.injEq, Prod.mk.injEq, Value.ref.injEq, Value.int.injEq, true_and, and_true, exists_eq_left', exists_eq_left, exists_and_left, forall_eq, rAr_get, nI_nn, nI_cl, exists_const, sA, sF_eq, sF_ne, sF_2, sG_1, sG_2, exists_eq', exists_eq, ix4a, ix16a, nI_add, xlt, up1_eq, sF_sF, tt_r1, tt_r2, tt_r3, tt_r4, tt_r5, tt_r6, tt_r7, tt_r8, tt_r9, tt_r10, tt_r11, tt_r12, tt_r13, tt_r14, tt_r15, tt_r16, tt_r17, tt_r18, tt_r19, tt_r20, tt_r21, tt_r22, tt_r23, tt_r24, tt_r25, tt_r26, tt_r27, tt_r28, tt_r29, tt_r30, tt_r31, tt_i0, tt_i1, tt_i2, tt_i3, tt_i4, tt_u1, tt_u2, tt_u3, tt_u4, tt_u5, tt_u6, tt_u7, tt_u8, tt_u9, tt_u10, tt_u11, tt_u12, tt_u13, tt_u14, tt_u15, tt_u16, tt_u17, tt_u18, tt_u19, tt_u20, tt_u21, tt_u22, tt_u23, tt_u24, tt_u25, tt_u26, tt_u27, tt_u28, tt_u29, tt_u30, tt_u31, tt_j0, tt_j1, tt_j2, tt_j3, pN_eq, pN_pN, pN_2, un_eq, un_nk, aM_1, aM_2, aM_3, aW_1, aW_2, aW_3, aG_1, aG_2, aG_3, aG_4, eq_self, not_true_eq_false, not_false_eq_true, true_implies, false_implies, if_true, if_false, h1, h2, h3, h4, xge16, nI_1, ix9, k10]
  · intro n
    dsimp only
    rw [w_M_merges_7]
    have h0 : (16 : Int32) ≤ nI 16 := by decide
    have hw2 : Wn ((pN a p (F_may (a.1 p)).2).1 p) := by
      rw [pN_eq]
      exact Wn_KF hw KF_may
    by_cases h1 : chg (a.1 p) a.2.2.1 16 = 0
    · simp (maxSteps := 4000000) (disch := first | omega | decide) only [rl_r, ro_len, rAr_len, rAr_set, nb0, nb1, rl_k1, rl_k2, rl_k3, rl_k4, rl_k5, rl_k6, rl_k7, rl_k8, rl_k9, rl_k10, rl_k11, rl_k12, rl_k13, rl_k14, rl_k15, rl_k16, rl_k17, rl_k18, rl_k19, rl_k20, rl_k21, rl_k22, rl_k23, rl_k24, rl_k25, rl_k26, rl_k27, rl_k28, rl_k29, rl_k30, rl_k31, rl_s1, rl_s2, rl_s3, rl_s4, rl_s5, rl_s6, rl_s7, rl_s8, rl_s9, rl_s10, rl_s11, rl_s12, rl_s13, rl_s14, rl_s15, rl_s16, rl_s17, rl_s18, rl_s19, rl_s20, rl_s21, rl_s22, rl_s23, rl_s24, rl_s25, rl_s26, rl_s27, rl_s28, rl_s29, rl_s30, rl_s31, ro_0, ro_1, ro_2, ro_3, ro_4, ro_5, ro_6, ro_7, ro_8, ro_9, ro_10, ro_11, ro_12, ro_13, ro_14, ro_15, ro_16, ro_17, ro_18, ro_19, ro_20, ro_21, ro_22, ro_23, ro_24, ro_25, ro_26, ro_27, ro_28, ro_29, ro_30, ro_31, ro_32, ro_33, ro_34, ro_35, rl_g0, rl_g1, rl_g2, rl_g3, rl_g4, Option.some.injEq, Sum.inr.injEq, Sum.inl.injEq, Prod.mk.injEq, Value.ref.injEq, Value.int.injEq, true_and, and_true, exists_eq_left', exists_eq_left, exists_and_left, forall_eq, rAr_get, nI_nn, nI_cl, exists_const, sA, sF_eq, sF_ne, sF_2, sG_1, sG_2, exists_eq', exists_eq, ix4a, ix16a, nI_add, xlt, up1_eq, sF_sF, tt_r1, tt_r2, tt_r3, tt_r4, tt_r5, tt_r6, tt_r7, tt_r8, tt_r9, tt_r10, tt_r11, tt_r12, tt_r13, tt_r14, tt_r15, tt_r16, tt_r17, tt_r18, tt_r19, tt_r20, tt_r21, tt_r22, tt_r23, tt_r24, tt_r25, tt_r26, tt_r27, tt_r28, tt_r29, tt_r30, tt_r31, tt_i0, tt_i1, tt_i2, tt_i3, tt_i4, tt_u1, tt_u2, tt_u3, tt_u4, tt_u5, tt_u6, tt_u7, tt_u8, tt_u9, tt_u10, tt_u11, tt_u12, tt_u13, tt_u14, tt_u15, tt_u16, tt_u17, tt_u18, tt_u19, tt_u20, tt_u21, tt_u22, tt_u23, tt_u24, tt_u25, tt_u26, tt_u27, tt_u28, tt_u29, tt_u30, tt_u31, tt_j0, tt_j1, tt_j2, tt_j3, pN_eq, pN_pN, pN_2, un_eq, un_nk, aM_1, aM_2, aM_3, aW_1, aW_2, aW_3, aG_1, aG_2, aG_3, aG_4, eq_self, not_true_eq_false, not_false_eq_true, true_implies, false_implies, if_true, if_false, h0, h1]
    · by_cases h2 : (F_may (a.1 p)).1 = 0
      · simp (maxSteps := 4000000) (disch := first | omega | decide) only [n_mayWrite hp, rl_r, ro_len, rAr_len, rAr_set, nb0, nb1, rl_k1, rl_k2, rl_k3, rl_k4, rl_k5, rl_k6, rl_k7, rl_k8, rl_k9, rl_k10, rl_k11, rl_k12, rl_k13, rl_k14, rl_k15, rl_k16, rl_k17, rl_k18, rl_k19, rl_k20, rl_k21, rl_k22, rl_k23, rl_k24, rl_k25, rl_k26, rl_k27, rl_k28, rl_k29, rl_k30, rl_k31, rl_s1, rl_s2, rl_s3, rl_s4, rl_s5, rl_s6, rl_s7, rl_s8, rl_s9, rl_s10, rl_s11, rl_s12, rl_s13, rl_s14, rl_s15, rl_s16, rl_s17, rl_s18, rl_s19, rl_s20, rl_s21, rl_s22, rl_s23, rl_s24, rl_s25, rl_s26, rl_s27, rl_s28, rl_s29, rl_s30, rl_s31, ro_0, ro_1, ro_2, ro_3, ro_4, ro_5, ro_6, ro_7, ro_8, ro_9, ro_10, ro_11, ro_12, ro_13, ro_14, ro_15, ro_16, ro_17, ro_18, ro_19, ro_20, ro_21, ro_22, ro_23, ro_24, ro_25, ro_26, ro_27, ro_28, ro_29, ro_30, ro_31, ro_32, ro_33, ro_34, ro_35, rl_g0, rl_g1, rl_g2, rl_g3, rl_g4, Option.some.injEq, Sum.inr.injEq, Sum.inl.injEq, Prod.mk.injEq, Value.ref.injEq, Value.int.injEq, true_and, and_true, exists_eq_left', exists_eq_left, exists_and_left, forall_eq, rAr_get, nI_nn, nI_cl, exists_const, sA, sF_eq, sF_ne, sF_2, sG_1, sG_2, exists_eq', exists_eq, ix4a, ix16a, nI_add, xlt, up1_eq, sF_sF, tt_r1, tt_r2, tt_r3, tt_r4, tt_r5, tt_r6, tt_r7, tt_r8, tt_r9, tt_r10, tt_r11, tt_r12, tt_r13, tt_r14, tt_r15, tt_r16, tt_r17, tt_r18, tt_r19, tt_r20, tt_r21, tt_r22, tt_r23, tt_r24, tt_r25, tt_r26, tt_r27, tt_r28, tt_r29, tt_r30, tt_r31, tt_i0, tt_i1, tt_i2, tt_i3, tt_i4, tt_u1, tt_u2, tt_u3, tt_u4, tt_u5, tt_u6, tt_u7, tt_u8, tt_u9, tt_u10, tt_u11, tt_u12, tt_u13, tt_u14, tt_u15, tt_u16, tt_u17, tt_u18, tt_u19, tt_u20, tt_u21, tt_u22, tt_u23, tt_u24, tt_u25, tt_u26, tt_u27, tt_u28, tt_u29, tt_u30, tt_u31, tt_j0, tt_j1, tt_j2, tt_j3, pN_eq, pN_pN, pN_2, un_eq, un_nk, aM_1, aM_2, aM_3, aW_1, aW_2, aW_3, aG_1, aG_2, aG_3, aG_4, eq_self, not_true_eq_false, not_false_eq_true, true_implies, false_implies, if_true, if_false, h0, h1, h2]
      · simp (maxSteps := 4000000) (disch := first | omega | decide) only [n_mayWrite hp, n_mrg115 hp (Wl_pN hl) hw2, may_now, rl_r, ro_len, rAr_len, rAr_set, nb0, nb1, rl_k1, rl_k2, rl_k3, rl_k4, rl_k5, rl_k6, rl_k7, rl_k8, rl_k9, rl_k10, rl_k11, rl_k12, rl_k13, rl_k14, rl_k15, rl_k16, rl_k17, rl_k18, rl_k19, rl_k20, rl_k21, rl_k22, rl_k23, rl_k24, rl_k25, rl_k26, rl_k27, rl_k28, rl_k29, rl_k30, rl_k31, rl_s1, rl_s2, rl_s3, rl_s4, rl_s5, rl_s6, rl_s7, rl_s8, rl_s9, rl_s10, rl_s11, rl_s12, rl_s13, rl_s14, rl_s15, rl_s16, rl_s17, rl_s18, rl_s19, rl_s20, rl_s21, rl_s22, rl_s23, rl_s24, rl_s25, rl_s26, rl_s27, rl_s28, rl_s29, rl_s30, rl_s31, ro_0, ro_1, ro_2, ro_3, ro_4, ro_5, ro_6, ro_7, ro_8, ro_9, ro_10, ro_11, ro_12, ro_13, ro_14, ro_15, ro_16, ro_17, ro_18, ro_19, ro_20, ro_21, ro_22, ro_23, ro_24, ro_25, ro_26, ro_27, ro_28, ro_29, ro_30, ro_31, ro_32, ro_33, ro_34, ro_35, rl_g0, rl_g1, rl_g2, rl_g3, rl_g4, Option.some.injEq, Sum.inr.injEq, Sum.inl.injEq, Prod.mk.injEq, Value.ref.injEq, Value.int.injEq, true_and, and_true, exists_eq_left', exists_eq_left, exists_and_left, forall_eq, rAr_get, nI_nn, nI_cl, exists_const, sA, sF_eq, sF_ne, sF_2, sG_1, sG_2, exists_eq', exists_eq, ix4a, ix16a, nI_add, xlt, up1_eq, sF_sF, tt_r1, tt_r2, tt_r3, tt_r4, tt_r5, tt_r6, tt_r7, tt_r8, tt_r9, tt_r10, tt_r11, tt_r12, tt_r13, tt_r14, tt_r15, tt_r16, tt_r17, tt_r18, tt_r19, tt_r20, tt_r21, tt_r22, tt_r23, tt_r24, tt_r25, tt_r26, tt_r27, tt_r28, tt_r29, tt_r30, tt_r31, tt_i0, tt_i1, tt_i2, tt_i3, tt_i4, tt_u1, tt_u2, tt_u3, tt_u4, tt_u5, tt_u6, tt_u7, tt_u8, tt_u9, tt_u10, tt_u11, tt_u12, tt_u13, tt_u14, tt_u15, tt_u16, tt_u17, tt_u18, tt_u19, tt_u20, tt_u21, tt_u22, tt_u23, tt_u24, tt_u25, tt_u26, tt_u27, tt_u28, tt_u29, tt_u30, tt_u31, tt_j0, tt_j1, tt_j2, tt_j3, pN_eq, pN_pN, pN_2, un_eq, un_nk, aM_1, aM_2, aM_3, aW_1, aW_2, aW_3, aG_1, aG_2, aG_3, aG_4, eq_self, not_true_eq_false, not_false_eq_true, true_implies, false_implies, if_true, if_false, h0, h1, h2]
theorem Wl_looks {a : rA} {p : Nat} {rt : Int32} (h : Wl a) : Wl (A_looks a p rt) := by
  unfold A_looks
  split
  · exact h
  · exact Wl_go (Wl_look0 h)
theorem Wn_looks {a : rA} {p : Nat} {rt : Int32} (h : Wn (a.1 p)) : Wn ((A_looks a p rt).1 p) := by
  unfold A_looks
  split
  · exact h
  · exact Wn_go (Wn_look0 h)
theorem Wl_merges {a : rA} {p : Nat} (h : Wl a) : Wl (A_merges a p) := by
  unfold A_merges
  split
  · exact h
  · split
    · exact Wl_pN h
    · exact Wl_looks (Wl_pN h)
theorem Wn_merges {a : rA} {p : Nat} (h : Wn (a.1 p)) : Wn ((A_merges a p).1 p) := by
  unfold A_merges
  split
  · exact h
  · split
    · rw [pN_eq]
      exact Wn_KF h KF_may
    · apply Wn_looks
      rw [pN_eq]
      exact Wn_WF (Wn_KF h KF_may) WF_mrg
