/-! what a step leaves alone -/
def KF (n n' : nv) : Prop := n' 17 0 = n 17 0 ∧ n' 24 0 = n 24 0 ∧ n' 9 = n 9 ∧ n' 10 = n 10 ∧ (n' 15 0 = n 15 0 ∨ n' 15 0 = 0) ∧ (n' 1 0 = 1 → n 1 0 = 1 ∧ n' 15 0 = n 15 0 ∧ n' 2 0 = n 2 0 ∧ n' 5 0 = n 5 0 ∧ n' 14 0 = n 14 0 ∧ n' 16 0 = n 16 0 ∧ n' 18 0 = n 18 0 ∧ n' 21 0 = n 21 0 ∧ n' 22 0 = n 22 0 ∧ n' 23 0 = n 23 0)
theorem un_nk1 {n : nv} {k k' j : Nat} {v : Int32} (h : k' ≠ k) : un n k j v k' = n k' := by
  funext j'
  exact un_nk h
section KF
variable {n n' n'' m : nv} {k j q p : Nat} {v x y z b c : Int32}
theorem KF_refl : KF n n := by simp [KF]
theorem KF_trans (h : KF n n') (h' : KF n' n'') : KF n n'' := by
  obtain ⟨a1, a2, a3, a4, a5, a6⟩ := h
  obtain ⟨b1, b2, b3, b4, b5, b6⟩ := h'
  refine ⟨b1.trans a1, b2.trans a2, b3.trans a3, b4.trans a4, ?_, ?_⟩
  · rcases b5 with h | h
    · rw [h]
      exact a5
    · exact Or.inr h
  · intro hu
    obtain ⟨c0, c1, d2, d5, d14, d16, d18, d21, d22, d23⟩ := b6 hu
    obtain ⟨e0, e1, f2, f5, f14, f16, f18, f21, f22, f23⟩ := a6 c0
    exact ⟨e0, c1.trans e1, d2.trans f2, d5.trans f5, d14.trans f14, d16.trans f16, d18.trans f18, d21.trans f21, d22.trans f22, d23.trans f23⟩
theorem KF_un (hk : k = 3 ∨ k = 4 ∨ (6 ≤ k ∧ k ≤ 8) ∨ (11 ≤ k ∧ k ≤ 13) ∨ k = 19 ∨ k = 20 ∨ 25 ≤ k) : KF n (un n k j v) := by
  refine ⟨un_nk (by omega), un_nk (by omega), un_nk1 (by omega), un_nk1 (by omega), Or.inl (un_nk (by omega)), fun h => ?_⟩
  rw [un_nk (by omega)] at h
  exact ⟨h, un_nk (by omega), un_nk (by omega), un_nk (by omega), un_nk (by omega), un_nk (by omega), un_nk (by omega), un_nk (by omega), un_nk (by omega), un_nk (by omega)⟩
theorem KF_down : KF n (F_down n) := by
  unfold F_down
  refine ⟨?_, ?_, ?_, ?_, Or.inr ?_, fun h => ?_⟩
  · simp (disch := decide) only [un_nk]
  · simp (disch := decide) only [un_nk]
  · simp (disch := decide) only [un_nk1]
  · simp (disch := decide) only [un_nk1]
  · simp (disch := decide) only [un_nk, un_eq]
  · exfalso
    simp (disch := decide) only [un_nk, un_eq] at h
    exact absurd h (by decide)
theorem KF_may : KF n (F_may n).2 := by
  unfold F_may
  by_cases h1 : n 1 0 = 1
  · by_cases h2 : n 4 0 = 1
    · simp only [h1, h2, if_true]
      exact KF_down
    · simp only [h1, h2, if_true, if_false]
      exact KF_trans (KF_un (by decide)) (KF_un (by decide))
  · simp only [h1, if_false]
    exact KF_refl
theorem KF_round : KF n (F_round n v) := by
  unfold F_round
  split
  · exact KF_refl
  · split
    · exact KF_may
    · exact KF_trans KF_may (KF_un (by decide))
theorem KF_store : KF n (F_store n q x y z) := by
  unfold F_store
  split
  · exact KF_refl
  · split
    · exact KF_may
    · exact KF_trans KF_may (KF_trans (KF_un (by decide)) (KF_trans (KF_un (by decide)) (KF_un (by decide))))
theorem KF_vote : KF n (F_vote n q x y z) := by
  unfold F_vote
  split
  · exact KF_refl
  · split
    · exact KF_may
    · exact KF_trans KF_may (KF_trans (KF_un (by decide)) (KF_trans (KF_un (by decide)) (KF_un (by decide))))
theorem KF_top : KF n (F_top n b c) := by
  unfold F_top
  split
  · exact KF_refl
  · exact KF_trans (KF_un (by decide)) (KF_un (by decide))
theorem KF_best : KF n (F_best n q x y z) := by
  unfold F_best
  split
  · exact KF_refl
  · exact KF_trans (KF_un (by decide)) (KF_trans (KF_un (by decide)) (KF_un (by decide)))
theorem KF_refused : KF n (F_refused n b) := by
  unfold F_refused
  split
  · exact KF_round
  · exact KF_refl
theorem KF_own : KF n (F_own n k) := by
  induction k with
  | zero => exact KF_refl
  | succ k ih =>
    rw [F_own]
    exact KF_trans ih (KF_trans (KF_un (by decide)) (KF_trans (KF_un (by decide)) (KF_un (by decide))))
theorem KF_storeAll {w : Nat → Int32} : KF n (F_storeAll n w k) := by
  induction k with
  | zero => exact KF_refl
  | succ k ih =>
    rw [F_storeAll]
    exact KF_trans ih KF_store
theorem KF_ans : KF n (F_ans n p) := by
  unfold F_ans
  split
  · exact KF_un (by decide)
  · exact KF_refl
theorem KF_all : KF n (F_all n k) := by
  induction k with
  | zero => exact KF_refl
  | succ k ih =>
    rw [F_all]
    split
    · exact KF_trans ih KF_best
    · exact KF_trans ih KF_store
theorem KF_does : KF n (F_does n p) := by
  unfold F_does
  split
  · split
    · exact KF_trans KF_all KF_ans
    · split
      · exact KF_trans (KF_trans KF_vote KF_top) KF_ans
      · split
        · exact KF_trans KF_vote KF_ans
        · exact KF_refused
  · refine KF_trans ?_ KF_ans
    split
    · exact KF_best
    · exact KF_store
theorem Wn_of (h : Wn n) (e17 : n' 17 0 = n 17 0) (e24 : n' 24 0 = n 24 0) (e15 : n' 15 0 = n 15 0 ∨ n' 15 0 = 0) : Wn n' := by
  obtain ⟨a1, a2, a3, a4, a5⟩ := h
  have e1 : ab n' = ab n := by
    unfold ab
    rw [e17]
  have e2 : bs n' = bs n := by
    unfold bs
    rw [e24]
  refine ⟨by rw [e17, e1]; exact a1, by rw [e1]; exact a2, fun hd => ?_, by rw [e24, e2]; exact a4, by rw [e2]; exact a5⟩
  rw [e1]
  rcases e15 with h | h
  · apply a3
    unfold F_isData at hd ⊢
    rw [h] at hd
    exact hd
  · exfalso
    apply hd
    unfold F_isData
    rw [h]
    decide
theorem Wn_KF (h : Wn n) (hk : KF n n') : Wn n' := Wn_of h hk.1 hk.2.1 hk.2.2.2.2.1
theorem ab_KF (hk : KF n n') : ab n' = ab n := by
  unfold ab
  rw [hk.1]
end KF
theorem send_1 {a : rA} {p : Nat} {c0 c2 c3 c4 c5 c6 c7 c8 ce be : Int32} : (A_send a p c0 c2 c3 c4 c5 c6 c7 c8 ce be).1 = a.1 := by
  unfold A_send
  split <;> rfl
theorem request_1 {a : rA} {p : Nat} {to : Int32} : (A_request a p to).1 = a.1 := send_1
theorem send_now {a : rA} {p : Nat} {c0 c2 c3 c4 c5 c6 c7 c8 ce be : Int32} : (A_send a p c0 c2 c3 c4 c5 c6 c7 c8 ce be).2.2.1 = a.2.2.1 := by
  unfold A_send
  split <;> rfl
theorem Wl_send {a : rA} {p : Nat} {c0 c2 c3 c4 c5 c6 c7 c8 ce be : Int32} (h : Wl a) : Wl (A_send a p c0 c2 c3 c4 c5 c6 c7 c8 ce be) := by
  obtain ⟨h1, h2⟩ := h
  unfold A_send
  split
  · have e : ln (aG a 3 (a.2.2.2 3 + 1)) = ln a := rfl
    exact ⟨by rw [e]; exact h1, by rw [e]; exact h2⟩
  · rename_i hne
    have e0 : ∀ m, (aM (aG a 2 (nI (ln a + 1))) (ln a) m).2.2.2 2 = nI (ln a + 1) := fun m => rfl
    have e : ∀ m, ln (aM (aG a 2 (nI (ln a + 1))) (ln a) m) = ln a + 1 := by
      intro m
      show ((aM (aG a 2 (nI (ln a + 1))) (ln a) m).2.2.2 2).toNatClampNeg = _
      rw [e0, nI_cl (by omega)]
    exact ⟨by rw [e, e0], by rw [e]; omega⟩
theorem Wl_pN {a : rA} {p : Nat} {n : nv} (h : Wl a) : Wl (pN a p n) := h
/-! ask -/
def A_ask (a : rA) (p : Nat) (s : Int32) : Nat → rA
  | 0 => a
  | k + 1 => if (A_ask a p s k).1 p 1 0 = 1 then (if bt s k = 0 then A_ask a p s k else if bt ((A_ask a p s k).1 p 19 0) k = 1 then A_ask a p s k else
      (if k = p then pN (A_ask a p s k) p (F_does (un ((A_ask a p s k).1 p) 19 0 ((A_ask a p s k).1 p 19 0 ||| ((1 : Int32) <<< (nI k &&& 31)))) p)
       else A_request (pN (A_ask a p s k) p (un ((A_ask a p s k).1 p) 19 0 ((A_ask a p s k).1 p 19 0 ||| ((1 : Int32) <<< (nI k &&& 31))))) p (nI k))) else A_ask a p s k
theorem ask_down {a : rA} {p : Nat} {s : Int32} {k : Nat} (h : ¬ (A_ask a p s k).1 p 1 0 = 1) : ∀ m, A_ask a p s (k + m) = A_ask a p s k := by
  intro m
  induction m with
  | zero => rfl
  | succ m ih =>
    rw [← Nat.add_assoc, A_ask, ih, if_neg h]
theorem KF_ask {a : rA} {p : Nat} {s : Int32} {k : Nat} : KF (a.1 p) ((A_ask a p s k).1 p) := by
  induction k with
  | zero => exact KF_refl
  | succ k ih =>
    rw [A_ask]
    split
    · split
      · exact ih
      · split
        · exact ih
        · split
          · rw [pN_eq]
            exact KF_trans ih (KF_trans (KF_un (by decide)) KF_does)
          · rw [request_1, pN_eq]
            exact KF_trans ih (KF_un (by decide))
    · exact ih
theorem Wl_ask {a : rA} {p : Nat} {s : Int32} {k : Nat} (h : Wl a) : Wl (A_ask a p s k) := by
  induction k with
  | zero => exact h
  | succ k ih =>
    rw [A_ask]
    split
    · split
      · exact ih
      · split
        · exact ih
        · split
          · exact Wl_pN ih
          · exact Wl_send (Wl_pN ih)
    · exact ih
theorem loop_iff2 {σ : Type} (W : Nat → σ → Prop) (st : Nat → σ) (N : Nat) (E : Prop) (h0 : ∀ x, ¬ W 0 x) (hs : ∀ k, k < N → (∀ n, W (n + 1) (st k) ↔ W n (st (k + 1))) ∨ (∀ n, W (n + 1) (st k) ↔ E)) (he : ∀ n, W (n + 1) (st N) ↔ E) : (∃ n, W n (st 0)) ↔ E := by
  have key : ∀ m k, k + m = N → ((∃ n, W n (st k)) ↔ E) := by
    intro m
    induction m with
    | zero =>
      intro k hk
      have hk : k = N := by omega
      subst hk
      constructor
      · rintro ⟨n, hn⟩
        cases n with
        | zero => exact absurd hn (h0 _)
        | succ n => exact (he n).mp hn
      · intro hE
        exact ⟨1, (he 0).mpr hE⟩
    | succ m ih =>
      intro k hk
      rcases hs k (by omega) with h | h
      · rw [← ih (k + 1) (by omega)]
        constructor
        · rintro ⟨n, hn⟩
          cases n with
          | zero => exact absurd hn (h0 _)
          | succ n => exact ⟨n, (h n).mp hn⟩
        · rintro ⟨n, hn⟩
          exact ⟨n + 1, (h n).mpr hn⟩
      · constructor
        · rintro ⟨n, hn⟩
          cases n with
          | zero => exact absurd hn (h0 _)
          | succ n => exact (h n).mp hn
        · intro hE
          exact ⟨1, (h 0).mpr hE⟩
  exact key N 0 (by omega)
theorem nIe {a b : Nat} (ha : a < 2147483648) (hb : b < 2147483648) (h : ¬ a = b) : (nI a = nI b) = False := by
  simp only [eq_iff_iff, iff_false]
  rw [nI_eq ha hb]
  exact h
theorem k10 : ((1 : Int32) = 0) = False := by decide
theorem n_ask {Q : Option Value → xH → Prop} {r : Nat} {g : xH} {a : rA} {p : Nat} {s : Int32} (hp : p < 8) (hl : Wl a) (hw : Wn (a.1 p)) : w_M_ask Q r (nI p) s (rl r g (tt a)) ↔ Q none (rl r g (tt (A_ask a p s 8))) := by
  unfold w_M_ask
  refine loop_iff2 (fun n (x : Int32 × xH) => w_M_ask_2 Q n r (nI p) s x.1 x.2) (fun k => (nI k, rl r g (tt (A_ask a p s k)))) 8 _ (fun _ => id) ?_ ?_
  · intro k hk
    have hl' : Wl (A_ask a p s k) := Wl_ask hl
    have hw' : Wn ((A_ask a p s k).1 p) := Wn_KF hw KF_ask
    by_cases h1 : (A_ask a p s k).1 p 1 0 = 1
    · left
      intro n
      show w_M_ask_2 Q (n + 1) r (nI p) s (nI k) (rl r g (tt (A_ask a p s k))) ↔ w_M_ask_2 Q n r (nI p) s (nI (k + 1)) (rl r g (tt (A_ask a p s (k + 1))))
      have hl2 : ∀ v, Wl (pN (A_ask a p s k) p (un ((A_ask a p s k).1 p) 19 0 v)) := fun v => hl'
      have hw2 : ∀ v, Wn ((pN (A_ask a p s k) p (un ((A_ask a p s k).1 p) 19 0 v)).1 p) := fun v => by
        rw [pN_eq]
        exact Wn_KF hw' (KF_un (by decide))
      rw [w_M_ask_2, A_ask]
      unfold bt
      generalize A_ask a p s k = u at *
      by_cases h2 : (s >>> (nI k &&& 31)) &&& 1 = 0
      · simp (maxSteps := 4000000) (disch := first | omega | decide) only [w_M_ask_72, n_isUp hp, F_isUp, rl_r, ro_len, rAr_len, rAr_set, nb0, nb1, rl_k1, rl_k2, rl_k3, rl_k4, rl_k5, rl_k6, rl_k7, rl_k8, rl_k9, rl_k10, rl_k11, rl_k12, rl_k13, rl_k14, rl_k15, rl_k16, rl_k17, rl_k18, rl_k19, rl_k20, rl_k21, rl_k22, rl_k23, rl_k24, rl_k25, rl_k26, rl_k27, rl_k28, rl_k29, rl_k30, rl_k31, rl_s1, rl_s2, rl_s3, rl_s4, rl_s5, rl_s6, rl_s7, rl_s8, rl_s9, rl_s10, rl_s11, rl_s12, rl_s13, rl_s14, rl_s15, rl_s16, rl_s17, rl_s18, rl_s19, rl_s20, rl_s21, rl_s22, rl_s23, rl_s24, rl_s25, rl_s26, rl_s27, rl_s28, rl_s29, rl_s30, rl_s31, ro_0, ro_1, ro_2, ro_3, ro_4, ro_5, ro_6, ro_7, ro_8, ro_9, ro_10, ro_11, ro_12, ro_13, ro_14, ro_15, ro_16, ro_17, ro_18, ro_19, ro_20, ro_21, ro_22, ro_23, ro_24, ro_25, ro_26, ro_27, ro_28, ro_29, ro_30, ro_31, ro_32, ro_33, ro_34, ro_35, rl_g0, rl_g1, rl_g2, rl_g3, rl_g4, Option.some.injEq, Sum.inr.injEq, Sum.inl.injEq, Prod.mk.injEq, Value.ref.injEq, Value.int.injEq, true_and, and_true, exists_eq_left', exists_eq_left, exists_and_left, forall_eq, rAr_get, nI_nn, nI_cl, exists_const, sA, sF_eq, sF_ne, sF_2, sG_1, sG_2, exists_eq', exists_eq, ix4a, ix16a, nI_add, xlt, up1_eq, sF_sF, tt_r1, tt_r2, tt_r3, tt_r4, tt_r5, tt_r6, tt_r7, tt_r8, tt_r9, tt_r10, tt_r11, tt_r12, tt_r13, tt_r14, tt_r15, tt_r16, tt_r17, tt_r18, tt_r19, tt_r20, tt_r21, tt_r22, tt_r23, tt_r24, tt_r25, tt_r26, tt_r27, tt_r28, tt_r29, tt_r30, tt_r31, tt_i0, tt_i1, tt_i2, tt_i3, tt_i4, tt_u1, tt_u2, tt_u3, tt_u4, tt_u5, tt_u6, tt_u7, tt_u8, tt_u9, tt_u10, tt_u11, tt_u12, tt_u13, tt_u14, tt_u15, tt_u16, tt_u17, tt_u18, tt_u19, tt_u20, tt_u21, tt_u22, tt_u23, tt_u24, tt_u25, tt_u26, tt_u27, tt_u28, tt_u29, tt_u30, tt_u31, tt_j0, tt_j1, tt_j2, tt_j3, pN_eq, pN_pN, pN_2, un_eq, un_nk, aM_1, aM_2, aM_3, aW_1, aW_2, aW_3, aG_1, aG_2, aG_3, aG_4, eq_self, not_true_eq_false, not_false_eq_true, true_implies, false_implies, if_true, if_false, h1, h2, xge8, nI_1, k10]
      · by_cases h3 : (u.1 p 19 0 >>> (nI k &&& 31)) &&& 1 = 1
        · simp (maxSteps := 4000000) (disch := first | omega | decide) only [w_M_ask_72, n_isUp hp, F_isUp, rl_r, ro_len, rAr_len, rAr_set, nb0, nb1, rl_k1, rl_k2, rl_k3, rl_k4, rl_k5, rl_k6, rl_k7, rl_k8, rl_k9, rl_k10, rl_k11, rl_k12, rl_k13, rl_k14, rl_k15, rl_k16, rl_k17, rl_k18, rl_k19, rl_k20, rl_k21, rl_k22, rl_k23, rl_k24, rl_k25, rl_k26, rl_k27, rl_k28, rl_k29, rl_k30, rl_k31, rl_s1, rl_s2, rl_s3, rl_s4, rl_s5, rl_s6, rl_s7, rl_s8, rl_s9, rl_s10, rl_s11, rl_s12, rl_s13, rl_s14, rl_s15, rl_s16, rl_s17, rl_s18, rl_s19, rl_s20, rl_s21, rl_s22, rl_s23, rl_s24, rl_s25, rl_s26, rl_s27, rl_s28, rl_s29, rl_s30, rl_s31, ro_0, ro_1, ro_2, ro_3, ro_4, ro_5, ro_6, ro_7, ro_8, ro_9, ro_10, ro_11, ro_12, ro_13, ro_14, ro_15, ro_16, ro_17, ro_18, ro_19, ro_20, ro_21, ro_22, ro_23, ro_24, ro_25, ro_26, ro_27, ro_28, ro_29, ro_30, ro_31, ro_32, ro_33, ro_34, ro_35, rl_g0, rl_g1, rl_g2, rl_g3, rl_g4, Option.some.injEq, Sum.inr.injEq, Sum.inl.injEq, Prod.mk.injEq, Value.ref.injEq, Value.int.injEq, true_and, and_true, exists_eq_left', exists_eq_left, exists_and_left, forall_eq, rAr_get, nI_nn, nI_cl, exists_const, sA, sF_eq, sF_ne, sF_2, sG_1, sG_2, exists_eq', exists_eq, ix4a, ix16a, nI_add, xlt, up1_eq, sF_sF, tt_r1, tt_r2, tt_r3, tt_r4, tt_r5, tt_r6, tt_r7, tt_r8, tt_r9, tt_r10, tt_r11, tt_r12, tt_r13, tt_r14, tt_r15, tt_r16, tt_r17, tt_r18, tt_r19, tt_r20, tt_r21, tt_r22, tt_r23, tt_r24, tt_r25, tt_r26, tt_r27, tt_r28, tt_r29, tt_r30, tt_r31, tt_i0, tt_i1, tt_i2, tt_i3, tt_i4, tt_u1, tt_u2, tt_u3, tt_u4, tt_u5, tt_u6, tt_u7, tt_u8, tt_u9, tt_u10, tt_u11, tt_u12, tt_u13, tt_u14, tt_u15, tt_u16, tt_u17, tt_u18, tt_u19, tt_u20, tt_u21, tt_u22, tt_u23, tt_u24, tt_u25, tt_u26, tt_u27, tt_u28, tt_u29, tt_u30, tt_u31, tt_j0, tt_j1, tt_j2, tt_j3, pN_eq, pN_pN, pN_2, un_eq, un_nk, aM_1, aM_2, aM_3, aW_1, aW_2, aW_3, aG_1, aG_2, aG_3, aG_4, eq_self, not_true_eq_false, not_false_eq_true, true_implies, false_implies, if_true, if_false, h1, h2, h3, xge8, nI_1, k10]
        · by_cases h4 : k = p
          · subst h4
            simp (maxSteps := 4000000) (disch := first | omega | decide) only [w_M_ask_72, n_isUp hp, F_isUp, n_does hp (hw2 _), rl_r, ro_len, rAr_len, rAr_set, nb0, nb1, rl_k1, rl_k2, rl_k3, rl_k4, rl_k5, rl_k6, rl_k7, rl_k8, rl_k9, rl_k10, rl_k11, rl_k12, rl_k13, rl_k14, rl_k15, rl_k16, rl_k17, rl_k18, rl_k19, rl_k20, rl_k21, rl_k22, rl_k23, rl_k24, rl_k25, rl_k26, rl_k27, rl_k28, rl_k29, rl_k30, rl_k31, rl_s1, rl_s2, rl_s3, rl_s4, rl_s5, rl_s6, rl_s7, rl_s8, rl_s9, rl_s10, rl_s11, rl_s12, rl_s13, rl_s14, rl_s15, rl_s16, rl_s17, rl_s18, rl_s19, rl_s20, rl_s21, rl_s22, rl_s23, rl_s24, rl_s25, rl_s26, rl_s27, rl_s28, rl_s29, rl_s30, rl_s31, ro_0, ro_1, ro_2, ro_3, ro_4, ro_5, ro_6, ro_7, ro_8, ro_9, ro_10, ro_11, ro_12, ro_13, ro_14, ro_15, ro_16, ro_17, ro_18, ro_19, ro_20, ro_21, ro_22, ro_23, ro_24, ro_25, ro_26, ro_27, ro_28, ro_29, ro_30, ro_31, ro_32, ro_33, ro_34, ro_35, rl_g0, rl_g1, rl_g2, rl_g3, rl_g4, Option.some.injEq, Sum.inr.injEq, Sum.inl.injEq, Prod.mk.injEq, Value.ref.injEq, Value.int.injEq, true_and, and_true, exists_eq_left', exists_eq_left, exists_and_left, forall_eq, rAr_get, nI_nn, nI_cl, exists_const, sA, sF_eq, sF_ne, sF_2, sG_1, sG_2, exists_eq', exists_eq, ix4a, ix16a, nI_add, xlt, up1_eq, sF_sF, tt_r1, tt_r2, tt_r3, tt_r4, tt_r5, tt_r6, tt_r7, tt_r8, tt_r9, tt_r10, tt_r11, tt_r12, tt_r13, tt_r14, tt_r15, tt_r16, tt_r17, tt_r18, tt_r19, tt_r20, tt_r21, tt_r22, tt_r23, tt_r24, tt_r25, tt_r26, tt_r27, tt_r28, tt_r29, tt_r30, tt_r31, tt_i0, tt_i1, tt_i2, tt_i3, tt_i4, tt_u1, tt_u2, tt_u3, tt_u4, tt_u5, tt_u6, tt_u7, tt_u8, tt_u9, tt_u10, tt_u11, tt_u12, tt_u13, tt_u14, tt_u15, tt_u16, tt_u17, tt_u18, tt_u19, tt_u20, tt_u21, tt_u22, tt_u23, tt_u24, tt_u25, tt_u26, tt_u27, tt_u28, tt_u29, tt_u30, tt_u31, tt_j0, tt_j1, tt_j2, tt_j3, pN_eq, pN_pN, pN_2, un_eq, un_nk, aM_1, aM_2, aM_3, aW_1, aW_2, aW_3, aG_1, aG_2, aG_3, aG_4, eq_self, not_true_eq_false, not_false_eq_true, true_implies, false_implies, if_true, if_false, h1, h2, h3, xge8, nI_1, k10]
          · simp (maxSteps := 4000000) (disch := first | omega | decide) only [w_M_ask_72, n_isUp hp, F_isUp, n_request hp (hl2 _) (hw2 _), rl_r, ro_len, rAr_len, rAr_set, nb0, nb1, rl_k1, rl_k2, rl_k3, rl_k4, rl_k5, rl_k6, rl_k7, rl_k8, rl_k9, rl_k10, rl_k11, rl_k12, rl_k13, rl_k14, rl_k15, rl_k16, rl_k17, rl_k18, rl_k19, rl_k20, rl_k21, rl_k22, rl_k23, rl_k24, rl_k25, rl_k26, rl_k27, rl_k28, rl_k29, rl_k30, rl_k31, rl_s1, rl_s2, rl_s3, rl_s4, rl_s5, rl_s6, rl_s7, rl_s8, rl_s9, rl_s10, rl_s11, rl_s12, rl_s13, rl_s14, rl_s15, rl_s16, rl_s17, rl_s18, rl_s19, rl_s20, rl_s21, rl_s22, rl_s23, rl_s24, rl_s25, rl_s26, rl_s27, rl_s28, rl_s29, rl_s30, rl_s31, ro_0, ro_1, ro_2, ro_3, ro_4, ro_5, ro_6, ro_7, ro_8, ro_9, ro_10, ro_11, ro_12, ro_13, ro_14, ro_15, ro_16, ro_17, ro_18, ro_19, ro_20, ro_21, ro_22, ro_23, ro_24, ro_25, ro_26, ro_27, ro_28, ro_29, ro_30, ro_31, ro_32, ro_33, ro_34, ro_35, rl_g0, rl_g1, rl_g2, rl_g3, rl_g4, Option.some.injEq, Sum.inr.injEq, Sum.inl.injEq, Prod.mk.injEq, Value.ref.injEq, Value.int.injEq, true_and, and_true, exists_eq_left', exists_eq_left, exists_and_left, forall_eq, rAr_get, nI_nn, nI_cl, exists_const, sA, sF_eq, sF_ne, sF_2, sG_1, sG_2, exists_eq', exists_eq, ix4a, ix16a, nI_add, xlt, up1_eq, sF_sF, tt_r1, tt_r2, tt_r3, tt_r4, tt_r5, tt_r6, tt_r7, tt_r8, tt_r9, tt_r10, tt_r11, tt_r12, tt_r13, tt_r14, tt_r15, tt_r16, tt_r17, tt_r18, tt_r19, tt_r20, tt_r21, tt_r22, tt_r23, tt_r24, tt_r25, tt_r26, tt_r27, tt_r28, tt_r29, tt_r30, tt_r31, tt_i0, tt_i1, tt_i2, tt_i3, tt_i4, tt_u1, tt_u2, tt_u3, tt_u4, tt_u5, tt_u6, tt_u7, tt_u8, tt_u9, tt_u10, tt_u11, tt_u12, tt_u13, tt_u14, tt_u15, tt_u16, tt_u17, tt_u18, tt_u19, tt_u20, tt_u21, tt_u22, tt_u23, tt_u24, tt_u25, tt_u26, tt_u27, tt_u28, tt_u29, tt_u30, tt_u31, tt_j0, tt_j1, tt_j2, tt_j3, pN_eq, pN_pN, pN_2, un_eq, un_nk, aM_1, aM_2, aM_3, aW_1, aW_2, aW_3, aG_1, aG_2, aG_3, aG_4, eq_self, not_true_eq_false, not_false_eq_true, true_implies, false_implies, if_true, if_false, h1, h2, h3, h4, xge8, nI_1, k10, nIe]
    · right
      intro n
      have e : A_ask a p s 8 = A_ask a p s k := by
        have := ask_down h1 (8 - k)
        rwa [show k + (8 - k) = 8 by omega] at this
      show w_M_ask_2 Q (n + 1) r (nI p) s (nI k) (rl r g (tt (A_ask a p s k))) ↔ _
      rw [w_M_ask_2, e]
      simp (maxSteps := 4000000) (disch := first | omega | decide) only [n_isUp hp, F_isUp, rl_r, ro_len, rAr_len, rAr_set, nb0, nb1, rl_k1, rl_k2, rl_k3, rl_k4, rl_k5, rl_k6, rl_k7, rl_k8, rl_k9, rl_k10, rl_k11, rl_k12, rl_k13, rl_k14, rl_k15, rl_k16, rl_k17, rl_k18, rl_k19, rl_k20, rl_k21, rl_k22, rl_k23, rl_k24, rl_k25, rl_k26, rl_k27, rl_k28, rl_k29, rl_k30, rl_k31, rl_s1, rl_s2, rl_s3, rl_s4, rl_s5, rl_s6, rl_s7, rl_s8, rl_s9, rl_s10, rl_s11, rl_s12, rl_s13, rl_s14, rl_s15, rl_s16, rl_s17, rl_s18, rl_s19, rl_s20, rl_s21, rl_s22, rl_s23, rl_s24, rl_s25, rl_s26, rl_s27, rl_s28, rl_s29, rl_s30, rl_s31, ro_0, ro_1, ro_2, ro_3, ro_4, ro_5, ro_6, ro_7, ro_8, ro_9, ro_10, ro_11, ro_12, ro_13, ro_14, ro_15, ro_16, ro_17, ro_18, ro_19, ro_20, ro_21, ro_22, ro_23, ro_24, ro_25, ro_26, ro_27, ro_28, ro_29, ro_30, ro_31, ro_32, ro_33, ro_34, ro_35, rl_g0, rl_g1, rl_g2, rl_g3, rl_g4, Option.some.injEq, Sum.inr.injEq, Sum.inl.injEq, Prod.mk.injEq, Value.ref.injEq, Value.int.injEq, true_and, and_true, exists_eq_left', exists_eq_left, exists_and_left, forall_eq, rAr_get, nI_nn, nI_cl, exists_const, sA, sF_eq, sF_ne, sF_2, sG_1, sG_2, exists_eq', exists_eq, ix4a, ix16a, nI_add, xlt, up1_eq, sF_sF, tt_r1, tt_r2, tt_r3, tt_r4, tt_r5, tt_r6, tt_r7, tt_r8, tt_r9, tt_r10, tt_r11, tt_r12, tt_r13, tt_r14, tt_r15, tt_r16, tt_r17, tt_r18, tt_r19, tt_r20, tt_r21, tt_r22, tt_r23, tt_r24, tt_r25, tt_r26, tt_r27, tt_r28, tt_r29, tt_r30, tt_r31, tt_i0, tt_i1, tt_i2, tt_i3, tt_i4, tt_u1, tt_u2, tt_u3, tt_u4, tt_u5, tt_u6, tt_u7, tt_u8, tt_u9, tt_u10, tt_u11, tt_u12, tt_u13, tt_u14, tt_u15, tt_u16, tt_u17, tt_u18, tt_u19, tt_u20, tt_u21, tt_u22, tt_u23, tt_u24, tt_u25, tt_u26, tt_u27, tt_u28, tt_u29, tt_u30, tt_u31, tt_j0, tt_j1, tt_j2, tt_j3, pN_eq, pN_pN, pN_2, un_eq, un_nk, aM_1, aM_2, aM_3, aW_1, aW_2, aW_3, aG_1, aG_2, aG_3, aG_4, eq_self, not_true_eq_false, not_false_eq_true, true_implies, false_implies, if_true, if_false, h1, xge8]
  · intro n
    show w_M_ask_2 Q (n + 1) r (nI p) s (nI 8) (rl r g (tt (A_ask a p s 8))) ↔ _
    rw [w_M_ask_2]
    have h1 : (8 : Int32) ≤ nI 8 := by decide
    simp [h1]
/-! wantedSet, begins -/
def oac (w : Int32) (se : Nat → Int32) : Nat → Int32
  | 0 => 0
  | k + 1 => oac w se k ||| (if (w >>> (nI k &&& 31)) &&& 1 = 1 then se k &&& 255 else 0)
def F_want (n : nv) : Int32 := if F_isData n = 0 then (if n 15 0 = 3 then n 10 (bs n) &&& 255 else if n 16 0 = 2 then n 10 (ab n) &&& 255 else oac (n 22 0) (n 10) 16) else aac (n 9) (n 10) 16
theorem n_want78 {Q : Option Value → xH → Prop} {r : Nat} {g : xH} {a : rA} {p : Nat} (hp : p < 8) : w_M_wantedSet_78 Q r (nI p) 0 (rl r g (tt a)) ↔ Q (some (.int (oac (a.1 p 22 0) (a.1 p 10) 16))) (rl r g (tt a)) := by
  unfold w_M_wantedSet_78
  refine loop_iff (fun n (x : Int32 × Int32) => w_M_wantedSet_80 Q n r (nI p) x.1 x.2 (rl r g (tt a))) (fun k => (oac (a.1 p 22 0) (a.1 p 10) k, nI k)) 16 _ (fun _ => id) ?_ ?_
  · intro n k hk
    show w_M_wantedSet_80 Q (n + 1) r (nI p) (oac (a.1 p 22 0) (a.1 p 10) k) (nI k) (rl r g (tt a)) ↔ w_M_wantedSet_80 Q n r (nI p) (oac (a.1 p 22 0) (a.1 p 10) (k + 1)) (nI (k + 1)) (rl r g (tt a))
    rw [w_M_wantedSet_80, oac]
    by_cases h1 : (a.1 p 22 0 >>> (nI k &&& 31)) &&& 1 = 1 <;>
    simp (maxSteps := 4000000) (disch := first | omega | decide) only [w_M_wantedSet_120, rl_r, ro_len, rAr_len, rAr_set, nb0, nb1, rl_k1, rl_k2, rl_k3, rl_k4, rl_k5, rl_k6, rl_k7, rl_k8, rl_k9, rl_k10, rl_k11, rl_k12, rl_k13, rl_k14, rl_k15, rl_k16, rl_k17, rl_k18, rl_k19, rl_k20, rl_k21, rl_k22, rl_k23, rl_k24, rl_k25, rl_k26, rl_k27, rl_k28, rl_k29, rl_k30, rl_k31, rl_s1, rl_s2, rl_s3, rl_s4, rl_s5, rl_s6, rl_s7, rl_s8, rl_s9, rl_s10, rl_s11, rl_s12, rl_s13, rl_s14, rl_s15, rl_s16, rl_s17, rl_s18, rl_s19, rl_s20, rl_s21, rl_s22, rl_s23, rl_s24, rl_s25, rl_s26, rl_s27, rl_s28, rl_s29, rl_s30, rl_s31, ro_0, ro_1, ro_2, ro_3, ro_4, ro_5, ro_6, ro_7, ro_8, ro_9, ro_10, ro_11, ro_12, ro_13, ro_14, ro_15, ro_16, ro_17, ro_18, ro_19, ro_20, ro_21, ro_22, ro_23, ro_24, ro_25, ro_26, ro_27, ro_28, ro_29, ro_30, ro_31, ro_32, ro_33, ro_34, ro_35, rl_g0, rl_g1, rl_g2, rl_g3, rl_g4, Option.some.injEq, Sum.inr.injEq, Sum.inl.injEq, Prod.mk.injEq, Value.ref.injEq, Value.int.injEq, true_and, and_true, exists_eq_left', exists_eq_left, exists_and_left, forall_eq, rAr_get, nI_nn, nI_cl, exists_const, sA, sF_eq, sF_ne, sF_2, sG_1, sG_2, exists_eq', exists_eq, ix4a, ix16a, nI_add, xlt, up1_eq, sF_sF, tt_r1, tt_r2, tt_r3, tt_r4, tt_r5, tt_r6, tt_r7, tt_r8, tt_r9, tt_r10, tt_r11, tt_r12, tt_r13, tt_r14, tt_r15, tt_r16, tt_r17, tt_r18, tt_r19, tt_r20, tt_r21, tt_r22, tt_r23, tt_r24, tt_r25, tt_r26, tt_r27, tt_r28, tt_r29, tt_r30, tt_r31, tt_i0, tt_i1, tt_i2, tt_i3, tt_i4, tt_u1, tt_u2, tt_u3, tt_u4, tt_u5, tt_u6, tt_u7, tt_u8, tt_u9, tt_u10, tt_u11, tt_u12, tt_u13, tt_u14, tt_u15, tt_u16, tt_u17, tt_u18, tt_u19, tt_u20, tt_u21, tt_u22, tt_u23, tt_u24, tt_u25, tt_u26, tt_u27, tt_u28, tt_u29, tt_u30, tt_u31, tt_j0, tt_j1, tt_j2, tt_j3, pN_eq, pN_pN, pN_2, un_eq, un_nk, aM_1, aM_2, aM_3, aW_1, aW_2, aW_3, aG_1, aG_2, aG_3, aG_4, eq_self, not_true_eq_false, not_false_eq_true, true_implies, false_implies, if_true, if_false, h1, xge16, nI_1]
  · intro n
    show w_M_wantedSet_80 Q (n + 1) r (nI p) (oac (a.1 p 22 0) (a.1 p 10) 16) (nI 16) (rl r g (tt a)) ↔ _
    rw [w_M_wantedSet_80]
    have h1 : (16 : Int32) ≤ nI 16 := by decide
    simp [h1]
theorem n_want {Q : Option Value → xH → Prop} {r : Nat} {g : xH} {a : rA} {p : Nat} (hp : p < 8) (hw : Wn (a.1 p)) : w_M_wantedSet Q r (nI p) (rl r g (tt a)) ↔ Q (some (.int (F_want (a.1 p)))) (rl r g (tt a)) := by
  unfold F_want
  have h17 := hw.1
  have ha := hw.2.1
  have h24 := hw.2.2.2.1
  have hb := hw.2.2.2.2
  by_cases h1 : F_isData (a.1 p) = 0
  · by_cases h3 : a.1 p 15 0 = 3
    · simp (maxSteps := 4000000) (disch := first | omega | decide) only [w_M_wantedSet, n_isData hp, rl_r, ro_len, rAr_len, rAr_set, nb0, nb1, rl_k1, rl_k2, rl_k3, rl_k4, rl_k5, rl_k6, rl_k7, rl_k8, rl_k9, rl_k10, rl_k11, rl_k12, rl_k13, rl_k14, rl_k15, rl_k16, rl_k17, rl_k18, rl_k19, rl_k20, rl_k21, rl_k22, rl_k23, rl_k24, rl_k25, rl_k26, rl_k27, rl_k28, rl_k29, rl_k30, rl_k31, rl_s1, rl_s2, rl_s3, rl_s4, rl_s5, rl_s6, rl_s7, rl_s8, rl_s9, rl_s10, rl_s11, rl_s12, rl_s13, rl_s14, rl_s15, rl_s16, rl_s17, rl_s18, rl_s19, rl_s20, rl_s21, rl_s22, rl_s23, rl_s24, rl_s25, rl_s26, rl_s27, rl_s28, rl_s29, rl_s30, rl_s31, ro_0, ro_1, ro_2, ro_3, ro_4, ro_5, ro_6, ro_7, ro_8, ro_9, ro_10, ro_11, ro_12, ro_13, ro_14, ro_15, ro_16, ro_17, ro_18, ro_19, ro_20, ro_21, ro_22, ro_23, ro_24, ro_25, ro_26, ro_27, ro_28, ro_29, ro_30, ro_31, ro_32, ro_33, ro_34, ro_35, rl_g0, rl_g1, rl_g2, rl_g3, rl_g4, Option.some.injEq, Sum.inr.injEq, Sum.inl.injEq, Prod.mk.injEq, Value.ref.injEq, Value.int.injEq, true_and, and_true, exists_eq_left', exists_eq_left, exists_and_left, forall_eq, rAr_get, nI_nn, nI_cl, exists_const, sA, sF_eq, sF_ne, sF_2, sG_1, sG_2, exists_eq', exists_eq, ix4a, ix16a, nI_add, xlt, up1_eq, sF_sF, tt_r1, tt_r2, tt_r3, tt_r4, tt_r5, tt_r6, tt_r7, tt_r8, tt_r9, tt_r10, tt_r11, tt_r12, tt_r13, tt_r14, tt_r15, tt_r16, tt_r17, tt_r18, tt_r19, tt_r20, tt_r21, tt_r22, tt_r23, tt_r24, tt_r25, tt_r26, tt_r27, tt_r28, tt_r29, tt_r30, tt_r31, tt_i0, tt_i1, tt_i2, tt_i3, tt_i4, tt_u1, tt_u2, tt_u3, tt_u4, tt_u5, tt_u6, tt_u7, tt_u8, tt_u9, tt_u10, tt_u11, tt_u12, tt_u13, tt_u14, tt_u15, tt_u16, tt_u17, tt_u18, tt_u19, tt_u20, tt_u21, tt_u22, tt_u23, tt_u24, tt_u25, tt_u26, tt_u27, tt_u28, tt_u29, tt_u30, tt_u31, tt_j0, tt_j1, tt_j2, tt_j3, pN_eq, pN_pN, pN_2, un_eq, un_nk, aM_1, aM_2, aM_3, aW_1, aW_2, aW_3, aG_1, aG_2, aG_3, aG_4, eq_self, not_true_eq_false, not_false_eq_true, true_implies, false_implies, if_true, if_false, h1, h3, h24]
    · by_cases h4 : a.1 p 16 0 = 2
      · simp (maxSteps := 4000000) (disch := first | omega | decide) only [w_M_wantedSet, n_isData hp, rl_r, ro_len, rAr_len, rAr_set, nb0, nb1, rl_k1, rl_k2, rl_k3, rl_k4, rl_k5, rl_k6, rl_k7, rl_k8, rl_k9, rl_k10, rl_k11, rl_k12, rl_k13, rl_k14, rl_k15, rl_k16, rl_k17, rl_k18, rl_k19, rl_k20, rl_k21, rl_k22, rl_k23, rl_k24, rl_k25, rl_k26, rl_k27, rl_k28, rl_k29, rl_k30, rl_k31, rl_s1, rl_s2, rl_s3, rl_s4, rl_s5, rl_s6, rl_s7, rl_s8, rl_s9, rl_s10, rl_s11, rl_s12, rl_s13, rl_s14, rl_s15, rl_s16, rl_s17, rl_s18, rl_s19, rl_s20, rl_s21, rl_s22, rl_s23, rl_s24, rl_s25, rl_s26, rl_s27, rl_s28, rl_s29, rl_s30, rl_s31, ro_0, ro_1, ro_2, ro_3, ro_4, ro_5, ro_6, ro_7, ro_8, ro_9, ro_10, ro_11, ro_12, ro_13, ro_14, ro_15, ro_16, ro_17, ro_18, ro_19, ro_20, ro_21, ro_22, ro_23, ro_24, ro_25, ro_26, ro_27, ro_28, ro_29, ro_30, ro_31, ro_32, ro_33, ro_34, ro_35, rl_g0, rl_g1, rl_g2, rl_g3, rl_g4, Option.some.injEq, Sum.inr.injEq, Sum.inl.injEq, Prod.mk.injEq, Value.ref.injEq, Value.int.injEq, true_and, and_true, exists_eq_left', exists_eq_left, exists_and_left, forall_eq, rAr_get, nI_nn, nI_cl, exists_const, sA, sF_eq, sF_ne, sF_2, sG_1, sG_2, exists_eq', exists_eq, ix4a, ix16a, nI_add, xlt, up1_eq, sF_sF, tt_r1, tt_r2, tt_r3, tt_r4, tt_r5, tt_r6, tt_r7, tt_r8, tt_r9, tt_r10, tt_r11, tt_r12, tt_r13, tt_r14, tt_r15, tt_r16, tt_r17, tt_r18, tt_r19, tt_r20, tt_r21, tt_r22, tt_r23, tt_r24, tt_r25, tt_r26, tt_r27, tt_r28, tt_r29, tt_r30, tt_r31, tt_i0, tt_i1, tt_i2, tt_i3, tt_i4, tt_u1, tt_u2, tt_u3, tt_u4, tt_u5, tt_u6, tt_u7, tt_u8, tt_u9, tt_u10, tt_u11, tt_u12, tt_u13, tt_u14, tt_u15, tt_u16, tt_u17, tt_u18, tt_u19, tt_u20, tt_u21, tt_u22, tt_u23, tt_u24, tt_u25, tt_u26, tt_u27, tt_u28, tt_u29, tt_u30, tt_u31, tt_j0, tt_j1, tt_j2, tt_j3, pN_eq, pN_pN, pN_2, un_eq, un_nk, aM_1, aM_2, aM_3, aW_1, aW_2, aW_3, aG_1, aG_2, aG_3, aG_4, eq_self, not_true_eq_false, not_false_eq_true, true_implies, false_implies, if_true, if_false, h1, h3, h4, h17]
      · simp (maxSteps := 4000000) (disch := first | omega | decide) only [w_M_wantedSet, n_isData hp, n_want78 hp, rl_r, ro_len, rAr_len, rAr_set, nb0, nb1, rl_k1, rl_k2, rl_k3, rl_k4, rl_k5, rl_k6, rl_k7, rl_k8, rl_k9, rl_k10, rl_k11, rl_k12, rl_k13, rl_k14, rl_k15, rl_k16, rl_k17, rl_k18, rl_k19, rl_k20, rl_k21, rl_k22, rl_k23, rl_k24, rl_k25, rl_k26, rl_k27, rl_k28, rl_k29, rl_k30, rl_k31, rl_s1, rl_s2, rl_s3, rl_s4, rl_s5, rl_s6, rl_s7, rl_s8, rl_s9, rl_s10, rl_s11, rl_s12, rl_s13, rl_s14, rl_s15, rl_s16, rl_s17, rl_s18, rl_s19, rl_s20, rl_s21, rl_s22, rl_s23, rl_s24, rl_s25, rl_s26, rl_s27, rl_s28, rl_s29, rl_s30, rl_s31, ro_0, ro_1, ro_2, ro_3, ro_4, ro_5, ro_6, ro_7, ro_8, ro_9, ro_10, ro_11, ro_12, ro_13, ro_14, ro_15, ro_16, ro_17, ro_18, ro_19, ro_20, ro_21, ro_22, ro_23, ro_24, ro_25, ro_26, ro_27, ro_28, ro_29, ro_30, ro_31, ro_32, ro_33, ro_34, ro_35, rl_g0, rl_g1, rl_g2, rl_g3, rl_g4, Option.some.injEq, Sum.inr.injEq, Sum.inl.injEq, Prod.mk.injEq, Value.ref.injEq, Value.int.injEq, true_and, and_true, exists_eq_left', exists_eq_left, exists_and_left, forall_eq, rAr_get, nI_nn, nI_cl, exists_const, sA, sF_eq, sF_ne, sF_2, sG_1, sG_2, exists_eq', exists_eq, ix4a, ix16a, nI_add, xlt, up1_eq, sF_sF, tt_r1, tt_r2, tt_r3, tt_r4, tt_r5, tt_r6, tt_r7, tt_r8, tt_r9, tt_r10, tt_r11, tt_r12, tt_r13, tt_r14, tt_r15, tt_r16, tt_r17, tt_r18, tt_r19, tt_r20, tt_r21, tt_r22, tt_r23, tt_r24, tt_r25, tt_r26, tt_r27, tt_r28, tt_r29, tt_r30, tt_r31, tt_i0, tt_i1, tt_i2, tt_i3, tt_i4, tt_u1, tt_u2, tt_u3, tt_u4, tt_u5, tt_u6, tt_u7, tt_u8, tt_u9, tt_u10, tt_u11, tt_u12, tt_u13, tt_u14, tt_u15, tt_u16, tt_u17, tt_u18, tt_u19, tt_u20, tt_u21, tt_u22, tt_u23, tt_u24, tt_u25, tt_u26, tt_u27, tt_u28, tt_u29, tt_u30, tt_u31, tt_j0, tt_j1, tt_j2, tt_j3, pN_eq, pN_pN, pN_2, un_eq, un_nk, aM_1, aM_2, aM_3, aW_1, aW_2, aW_3, aG_1, aG_2, aG_3, aG_4, eq_self, not_true_eq_false, not_false_eq_true, true_implies, false_implies, if_true, if_false, h1, h3, h4]
  · simp (maxSteps := 4000000) (disch := first | omega | decide) only [w_M_wantedSet, n_isData hp, n_allActive hp, rl_r, ro_len, rAr_len, rAr_set, nb0, nb1, rl_k1, rl_k2, rl_k3, rl_k4, rl_k5, rl_k6, rl_k7, rl_k8, rl_k9, rl_k10, rl_k11, rl_k12, rl_k13, rl_k14, rl_k15, rl_k16, rl_k17, rl_k18, rl_k19, rl_k20, rl_k21, rl_k22, rl_k23, rl_k24, rl_k25, rl_k26, rl_k27, rl_k28, rl_k29, rl_k30, rl_k31, rl_s1, rl_s2, rl_s3, rl_s4, rl_s5, rl_s6, rl_s7, rl_s8, rl_s9, rl_s10, rl_s11, rl_s12, rl_s13, rl_s14, rl_s15, rl_s16, rl_s17, rl_s18, rl_s19, rl_s20, rl_s21, rl_s22, rl_s23, rl_s24, rl_s25, rl_s26, rl_s27, rl_s28, rl_s29, rl_s30, rl_s31, ro_0, ro_1, ro_2, ro_3, ro_4, ro_5, ro_6, ro_7, ro_8, ro_9, ro_10, ro_11, ro_12, ro_13, ro_14, ro_15, ro_16, ro_17, ro_18, ro_19, ro_20, ro_21, ro_22, ro_23, ro_24, ro_25, ro_26, ro_27, ro_28, ro_29, ro_30, ro_31, ro_32, ro_33, ro_34, ro_35, rl_g0, rl_g1, rl_g2, rl_g3, rl_g4, Option.some.injEq, Sum.inr.injEq, Sum.inl.injEq, Prod.mk.injEq, Value.ref.injEq, Value.int.injEq, true_and, and_true, exists_eq_left', exists_eq_left, exists_and_left, forall_eq, rAr_get, nI_nn, nI_cl, exists_const, sA, sF_eq, sF_ne, sF_2, sG_1, sG_2, exists_eq', exists_eq, ix4a, ix16a, nI_add, xlt, up1_eq, sF_sF, tt_r1, tt_r2, tt_r3, tt_r4, tt_r5, tt_r6, tt_r7, tt_r8, tt_r9, tt_r10, tt_r11, tt_r12, tt_r13, tt_r14, tt_r15, tt_r16, tt_r17, tt_r18, tt_r19, tt_r20, tt_r21, tt_r22, tt_r23, tt_r24, tt_r25, tt_r26, tt_r27, tt_r28, tt_r29, tt_r30, tt_r31, tt_i0, tt_i1, tt_i2, tt_i3, tt_i4, tt_u1, tt_u2, tt_u3, tt_u4, tt_u5, tt_u6, tt_u7, tt_u8, tt_u9, tt_u10, tt_u11, tt_u12, tt_u13, tt_u14, tt_u15, tt_u16, tt_u17, tt_u18, tt_u19, tt_u20, tt_u21, tt_u22, tt_u23, tt_u24, tt_u25, tt_u26, tt_u27, tt_u28, tt_u29, tt_u30, tt_u31, tt_j0, tt_j1, tt_j2, tt_j3, pN_eq, pN_pN, pN_2, un_eq, un_nk, aM_1, aM_2, aM_3, aW_1, aW_2, aW_3, aG_1, aG_2, aG_3, aG_4, eq_self, not_true_eq_false, not_false_eq_true, true_implies, false_implies, if_true, if_false, h1]
def F_ph (n : nv) (w : Int32) : nv := un (un (un (un n 16 0 w) 5 0 (n 5 0 + 1)) 19 0 0) 20 0 0
def F_open1 (n : nv) : nv := un (un (F_own (F_ph n 1) 4) 25 0 0) 26 0 0
def F_begin1 (n : nv) (p : Nat) : nv := if n 15 0 = 3 then (if (F_round (F_open1 n) (F_open1 n 3 0 + 1)) 1 0 = 1 then un (F_round (F_open1 n) (F_open1 n 3 0 + 1)) 23 0 (8 * (F_round (F_open1 n) (F_open1 n 3 0 + 1)) 3 0 + nI p) else F_round (F_open1 n) (F_open1 n 3 0 + 1)) else F_open1 n
def A_beg1 (a : rA) (p : Nat) : rA := A_ask (pN a p (F_begin1 (a.1 p) p)) p (F_want (F_begin1 (a.1 p) p)) 8
def A_beg2 (a : rA) (p : Nat) : rA := A_ask (pN a p (F_ph (a.1 p) 2)) p (F_want (F_ph (a.1 p) 2)) 8
theorem own_k {n : nv} {k j m : Nat} (h : k ≠ 27 ∧ k ≠ 28 ∧ k ≠ 29) : F_own n m k j = n k j := by
  induction m with
  | zero => rfl
  | succ m ih => rw [F_own, un_nk h.2.2, un_nk h.2.1, un_nk h.1, ih]
theorem Wn_ph {n : nv} {w : Int32} (h : Wn n) : Wn (F_ph n w) := by
  refine Wn_of h ?_ ?_ (Or.inl ?_) <;> (unfold F_ph; simp (disch := decide) only [un_nk])
theorem Wn_open1 {n : nv} (h : Wn n) : Wn (F_open1 n) := Wn_KF (Wn_KF (Wn_ph h) KF_own) (KF_trans (KF_un (by decide)) (KF_un (by decide)))
theorem Wn_begin1 {n : nv} {p : Nat} (h : Wn n) : Wn (F_begin1 n p) := by
  unfold F_begin1
  have h1 := Wn_open1 h
  split
  · split
    · have h2 := Wn_KF h1 (KF_round (v := F_open1 n 3 0 + 1))
      refine Wn_of h2 ?_ ?_ (Or.inl ?_) <;> simp (disch := decide) only [un_nk]
    · exact Wn_KF h1 KF_round
  · exact h1
theorem ask_down8 {a : rA} {p : Nat} {s : Int32} (h : ¬ a.1 p 1 0 = 1) : A_ask a p s 8 = a := ask_down (k := 0) h 8
theorem n_beg109 {Q : Option Value → xH → Prop} {r : Nat} {g : xH} {a : rA} {p : Nat} {l2 : Int32} (hp : p < 8) (hl : Wl a) (hw : Wn (a.1 p)) : w_M_begins_109 Q r (nI p) l2 (rl r g (tt a)) ↔ Q none (rl r g (tt (A_ask a p (F_want (a.1 p)) 8))) := by
  simp (maxSteps := 4000000) (disch := first | omega | decide) only [w_M_begins_109, n_want hp hw, n_ask hp hl hw, rl_r, ro_len, rAr_len, rAr_set, nb0, nb1, rl_k1, rl_k2, rl_k3, rl_k4, rl_k5, rl_k6, rl_k7, rl_k8, rl_k9, rl_k10, rl_k11, rl_k12, rl_k13, rl_k14, rl_k15, rl_k16, rl_k17, rl_k18, rl_k19, rl_k20, rl_k21, rl_k22, rl_k23, rl_k24, rl_k25, rl_k26, rl_k27, rl_k28, rl_k29, rl_k30, rl_k31, rl_s1, rl_s2, rl_s3, rl_s4, rl_s5, rl_s6, rl_s7, rl_s8, rl_s9, rl_s10, rl_s11, rl_s12, rl_s13, rl_s14, rl_s15, rl_s16, rl_s17, rl_s18, rl_s19, rl_s20, rl_s21, rl_s22, rl_s23, rl_s24, rl_s25, rl_s26, rl_s27, rl_s28, rl_s29, rl_s30, rl_s31, ro_0, ro_1, ro_2, ro_3, ro_4, ro_5, ro_6, ro_7, ro_8, ro_9, ro_10, ro_11, ro_12, ro_13, ro_14, ro_15, ro_16, ro_17, ro_18, ro_19, ro_20, ro_21, ro_22, ro_23, ro_24, ro_25, ro_26, ro_27, ro_28, ro_29, ro_30, ro_31, ro_32, ro_33, ro_34, ro_35, rl_g0, rl_g1, rl_g2, rl_g3, rl_g4, Option.some.injEq, Sum.inr.injEq, Sum.inl.injEq, Prod.mk.injEq, Value.ref.injEq, Value.int.injEq, true_and, and_true, exists_eq_left', exists_eq_left, exists_and_left, forall_eq, rAr_get, nI_nn, nI_cl, exists_const, sA, sF_eq, sF_ne, sF_2, sG_1, sG_2, exists_eq', exists_eq, ix4a, ix16a, nI_add, xlt, up1_eq, sF_sF, tt_r1, tt_r2, tt_r3, tt_r4, tt_r5, tt_r6, tt_r7, tt_r8, tt_r9, tt_r10, tt_r11, tt_r12, tt_r13, tt_r14, tt_r15, tt_r16, tt_r17, tt_r18, tt_r19, tt_r20, tt_r21, tt_r22, tt_r23, tt_r24, tt_r25, tt_r26, tt_r27, tt_r28, tt_r29, tt_r30, tt_r31, tt_i0, tt_i1, tt_i2, tt_i3, tt_i4, tt_u1, tt_u2, tt_u3, tt_u4, tt_u5, tt_u6, tt_u7, tt_u8, tt_u9, tt_u10, tt_u11, tt_u12, tt_u13, tt_u14, tt_u15, tt_u16, tt_u17, tt_u18, tt_u19, tt_u20, tt_u21, tt_u22, tt_u23, tt_u24, tt_u25, tt_u26, tt_u27, tt_u28, tt_u29, tt_u30, tt_u31, tt_j0, tt_j1, tt_j2, tt_j3, pN_eq, pN_pN, pN_2, un_eq, un_nk, aM_1, aM_2, aM_3, aW_1, aW_2, aW_3, aG_1, aG_2, aG_3, aG_4, eq_self, not_true_eq_false, not_false_eq_true, true_implies, false_implies, if_true, if_false]
theorem n_beg55 {Q : Option Value → xH → Prop} {r : Nat} {g : xH} {a : rA} {p : Nat} (hp : p < 8) (hl : Wl a) (hw : Wn (a.1 p)) : w_M_begins_55 Q r (nI p) 1 (rl r g (tt a)) ↔ Q none (rl r g (tt (A_ask (pN a p (if a.1 p 15 0 = 3 then (if (F_round (a.1 p) (a.1 p 3 0 + 1)) 1 0 = 1 then un (F_round (a.1 p) (a.1 p 3 0 + 1)) 23 0 (8 * (F_round (a.1 p) (a.1 p 3 0 + 1)) 3 0 + nI p) else F_round (a.1 p) (a.1 p 3 0 + 1)) else a.1 p)) p (F_want (if a.1 p 15 0 = 3 then (if (F_round (a.1 p) (a.1 p 3 0 + 1)) 1 0 = 1 then un (F_round (a.1 p) (a.1 p 3 0 + 1)) 23 0 (8 * (F_round (a.1 p) (a.1 p 3 0 + 1)) 3 0 + nI p) else F_round (a.1 p) (a.1 p 3 0 + 1)) else a.1 p)) 8))) := by
  by_cases h3 : a.1 p 15 0 = 3
  · by_cases h4 : (F_round (a.1 p) (a.1 p 3 0 + 1)) 1 0 = 1
    · have hw2 : ∀ v, Wn ((pN a p (un (F_round (a.1 p) (a.1 p 3 0 + 1)) 23 0 v)).1 p) := fun v => by
        rw [pN_eq]
        refine Wn_of (Wn_KF hw (KF_round (v := a.1 p 3 0 + 1))) ?_ ?_ (Or.inl ?_) <;> simp (disch := decide) only [un_nk]
      simp (maxSteps := 4000000) (disch := first | omega | decide) only [w_M_begins_55, n_writeRound hp, n_isUp hp, F_isUp, n_beg109 hp (Wl_pN hl) (hw2 _), rl_r, ro_len, rAr_len, rAr_set, nb0, nb1, rl_k1, rl_k2, rl_k3, rl_k4, rl_k5, rl_k6, rl_k7, rl_k8, rl_k9, rl_k10, rl_k11, rl_k12, rl_k13, rl_k14, rl_k15, rl_k16, rl_k17, rl_k18, rl_k19, rl_k20, rl_k21, rl_k22, rl_k23, rl_k24, rl_k25, rl_k26, rl_k27, rl_k28, rl_k29, rl_k30, rl_k31, rl_s1, rl_s2, rl_s3, rl_s4, rl_s5, rl_s6, rl_s7, rl_s8, rl_s9, rl_s10, rl_s11, rl_s12, rl_s13, rl_s14, rl_s15, rl_s16, rl_s17, rl_s18, rl_s19, rl_s20, rl_s21, rl_s22, rl_s23, rl_s24, rl_s25, rl_s26, rl_s27, rl_s28, rl_s29, rl_s30, rl_s31, ro_0, ro_1, ro_2, ro_3, ro_4, ro_5, ro_6, ro_7, ro_8, ro_9, ro_10, ro_11, ro_12, ro_13, ro_14, ro_15, ro_16, ro_17, ro_18, ro_19, ro_20, ro_21, ro_22, ro_23, ro_24, ro_25, ro_26, ro_27, ro_28, ro_29, ro_30, ro_31, ro_32, ro_33, ro_34, ro_35, rl_g0, rl_g1, rl_g2, rl_g3, rl_g4, Option.some.injEq, Sum.inr.injEq, Sum.inl.injEq, Prod.mk.injEq, Value.ref.injEq, Value.int.injEq, true_and, and_true, exists_eq_left', exists_eq_left, exists_and_left, forall_eq, rAr_get, nI_nn, nI_cl, exists_const, sA, sF_eq, sF_ne, sF_2, sG_1, sG_2, exists_eq', exists_eq, ix4a, ix16a, nI_add, xlt, up1_eq, sF_sF, tt_r1, tt_r2, tt_r3, tt_r4, tt_r5, tt_r6, tt_r7, tt_r8, tt_r9, tt_r10, tt_r11, tt_r12, tt_r13, tt_r14, tt_r15, tt_r16, tt_r17, tt_r18, tt_r19, tt_r20, tt_r21, tt_r22, tt_r23, tt_r24, tt_r25, tt_r26, tt_r27, tt_r28, tt_r29, tt_r30, tt_r31, tt_i0, tt_i1, tt_i2, tt_i3, tt_i4, tt_u1, tt_u2, tt_u3, tt_u4, tt_u5, tt_u6, tt_u7, tt_u8, tt_u9, tt_u10, tt_u11, tt_u12, tt_u13, tt_u14, tt_u15, tt_u16, tt_u17, tt_u18, tt_u19, tt_u20, tt_u21, tt_u22, tt_u23, tt_u24, tt_u25, tt_u26, tt_u27, tt_u28, tt_u29, tt_u30, tt_u31, tt_j0, tt_j1, tt_j2, tt_j3, pN_eq, pN_pN, pN_2, un_eq, un_nk, aM_1, aM_2, aM_3, aW_1, aW_2, aW_3, aG_1, aG_2, aG_3, aG_4, eq_self, not_true_eq_false, not_false_eq_true, true_implies, false_implies, if_true, if_false, h3, h4, k10]
    · simp (maxSteps := 4000000) (disch := first | omega | decide) only [w_M_begins_55, n_writeRound hp, n_isUp hp, F_isUp, rl_r, ro_len, rAr_len, rAr_set, nb0, nb1, rl_k1, rl_k2, rl_k3, rl_k4, rl_k5, rl_k6, rl_k7, rl_k8, rl_k9, rl_k10, rl_k11, rl_k12, rl_k13, rl_k14, rl_k15, rl_k16, rl_k17, rl_k18, rl_k19, rl_k20, rl_k21, rl_k22, rl_k23, rl_k24, rl_k25, rl_k26, rl_k27, rl_k28, rl_k29, rl_k30, rl_k31, rl_s1, rl_s2, rl_s3, rl_s4, rl_s5, rl_s6, rl_s7, rl_s8, rl_s9, rl_s10, rl_s11, rl_s12, rl_s13, rl_s14, rl_s15, rl_s16, rl_s17, rl_s18, rl_s19, rl_s20, rl_s21, rl_s22, rl_s23, rl_s24, rl_s25, rl_s26, rl_s27, rl_s28, rl_s29, rl_s30, rl_s31, ro_0, ro_1, ro_2, ro_3, ro_4, ro_5, ro_6, ro_7, ro_8, ro_9, ro_10, ro_11, ro_12, ro_13, ro_14, ro_15, ro_16, ro_17, ro_18, ro_19, ro_20, ro_21, ro_22, ro_23, ro_24, ro_25, ro_26, ro_27, ro_28, ro_29, ro_30, ro_31, ro_32, ro_33, ro_34, ro_35, rl_g0, rl_g1, rl_g2, rl_g3, rl_g4, Option.some.injEq, Sum.inr.injEq, Sum.inl.injEq, Prod.mk.injEq, Value.ref.injEq, Value.int.injEq, true_and, and_true, exists_eq_left', exists_eq_left, exists_and_left, forall_eq, rAr_get, nI_nn, nI_cl, exists_const, sA, sF_eq, sF_ne, sF_2, sG_1, sG_2, exists_eq', exists_eq, ix4a, ix16a, nI_add, xlt, up1_eq, sF_sF, tt_r1, tt_r2, tt_r3, tt_r4, tt_r5, tt_r6, tt_r7, tt_r8, tt_r9, tt_r10, tt_r11, tt_r12, tt_r13, tt_r14, tt_r15, tt_r16, tt_r17, tt_r18, tt_r19, tt_r20, tt_r21, tt_r22, tt_r23, tt_r24, tt_r25, tt_r26, tt_r27, tt_r28, tt_r29, tt_r30, tt_r31, tt_i0, tt_i1, tt_i2, tt_i3, tt_i4, tt_u1, tt_u2, tt_u3, tt_u4, tt_u5, tt_u6, tt_u7, tt_u8, tt_u9, tt_u10, tt_u11, tt_u12, tt_u13, tt_u14, tt_u15, tt_u16, tt_u17, tt_u18, tt_u19, tt_u20, tt_u21, tt_u22, tt_u23, tt_u24, tt_u25, tt_u26, tt_u27, tt_u28, tt_u29, tt_u30, tt_u31, tt_j0, tt_j1, tt_j2, tt_j3, pN_eq, pN_pN, pN_2, un_eq, un_nk, aM_1, aM_2, aM_3, aW_1, aW_2, aW_3, aG_1, aG_2, aG_3, aG_4, eq_self, not_true_eq_false, not_false_eq_true, true_implies, false_implies, if_true, if_false, h3, h4]
      rw [ask_down8 (by rw [pN_eq]; exact h4)]
  · simp (maxSteps := 4000000) (disch := first | omega | decide) only [w_M_begins_55, n_beg109 hp hl hw, rl_r, ro_len, rAr_len, rAr_set, nb0, nb1, rl_k1, rl_k2, rl_k3, rl_k4, rl_k5, rl_k6, rl_k7, rl_k8, rl_k9, rl_k10, rl_k11, rl_k12, rl_k13, rl_k14, rl_k15, rl_k16, rl_k17, rl_k18, rl_k19, rl_k20, rl_k21, rl_k22, rl_k23, rl_k24, rl_k25, rl_k26, rl_k27, rl_k28, rl_k29, rl_k30, rl_k31, rl_s1, rl_s2, rl_s3, rl_s4, rl_s5, rl_s6, rl_s7, rl_s8, rl_s9, rl_s10, rl_s11, rl_s12, rl_s13, rl_s14, rl_s15, rl_s16, rl_s17, rl_s18, rl_s19, rl_s20, rl_s21, rl_s22, rl_s23, rl_s24, rl_s25, rl_s26, rl_s27, rl_s28, rl_s29, rl_s30, rl_s31, ro_0, ro_1, ro_2, ro_3, ro_4, ro_5, ro_6, ro_7, ro_8, ro_9, ro_10, ro_11, ro_12, ro_13, ro_14, ro_15, ro_16, ro_17, ro_18, ro_19, ro_20, ro_21, ro_22, ro_23, ro_24, ro_25, ro_26, ro_27, ro_28, ro_29, ro_30, ro_31, ro_32, ro_33, ro_34, ro_35, rl_g0, rl_g1, rl_g2, rl_g3, rl_g4, Option.some.injEq, Sum.inr.injEq, Sum.inl.injEq, Prod.mk.injEq, Value.ref.injEq, Value.int.injEq, true_and, and_true, exists_eq_left', exists_eq_left, exists_and_left, forall_eq, rAr_get, nI_nn, nI_cl, exists_const, sA, sF_eq, sF_ne, sF_2, sG_1, sG_2, exists_eq', exists_eq, ix4a, ix16a, nI_add, xlt, up1_eq, sF_sF, tt_r1, tt_r2, tt_r3, tt_r4, tt_r5, tt_r6, tt_r7, tt_r8, tt_r9, tt_r10, tt_r11, tt_r12, tt_r13, tt_r14, tt_r15, tt_r16, tt_r17, tt_r18, tt_r19, tt_r20, tt_r21, tt_r22, tt_r23, tt_r24, tt_r25, tt_r26, tt_r27, tt_r28, tt_r29, tt_r30, tt_r31, tt_i0, tt_i1, tt_i2, tt_i3, tt_i4, tt_u1, tt_u2, tt_u3, tt_u4, tt_u5, tt_u6, tt_u7, tt_u8, tt_u9, tt_u10, tt_u11, tt_u12, tt_u13, tt_u14, tt_u15, tt_u16, tt_u17, tt_u18, tt_u19, tt_u20, tt_u21, tt_u22, tt_u23, tt_u24, tt_u25, tt_u26, tt_u27, tt_u28, tt_u29, tt_u30, tt_u31, tt_j0, tt_j1, tt_j2, tt_j3, pN_eq, pN_pN, pN_2, un_eq, un_nk, aM_1, aM_2, aM_3, aW_1, aW_2, aW_3, aG_1, aG_2, aG_3, aG_4, eq_self, not_true_eq_false, not_false_eq_true, true_implies, false_implies, if_true, if_false, h3, pN_self]
theorem n_beg1 {Q : Option Value → xH → Prop} {r : Nat} {g : xH} {a : rA} {p : Nat} (hp : p < 8) (hl : Wl a) (hw : Wn (a.1 p)) : w_M_begins Q r (nI p) 1 (rl r g (tt a)) ↔ Q none (rl r g (tt (A_beg1 a p))) := by
  have h15 : F_open1 (a.1 p) 15 0 = a.1 p 15 0 := by
    unfold F_open1 F_ph
    simp (disch := decide) only [un_nk, own_k]
  have hw2 : Wn ((pN a p (un (un (F_own (un (un (un (un (a.1 p) 16 0 1) 5 0 (a.1 p 5 0 + 1)) 19 0 0) 20 0 0) 4) 25 0 0) 26 0 0)).1 p) := by
    rw [pN_eq]
    exact Wn_open1 hw
  have e : (un (un (F_own (un (un (un (un (a.1 p) 16 0 1) 5 0 (a.1 p 5 0 + 1)) 19 0 0) 20 0 0) 4) 25 0 0) 26 0 0) = F_open1 (a.1 p) := rfl
  have hb : ∀ Q : Option Value → xH → Prop, w_M_begins_55 Q r (nI p) 1 (rl r g (tt (pN a p (un (un (F_own (un (un (un (un (a.1 p) 16 0 1) 5 0 (a.1 p 5 0 + 1)) 19 0 0) 20 0 0) 4) 25 0 0) 26 0 0)))) ↔ Q none (rl r g (tt (A_beg1 a p))) := by
    intro Q
    rw [n_beg55 hp (Wl_pN hl) hw2]
    unfold A_beg1 F_begin1
    simp only [pN_eq, pN_pN, e, h15]
  simp (maxSteps := 4000000) (disch := first | omega | decide) only [w_M_begins, n_bestIsOwn hp, hb, rl_r, ro_len, rAr_len, rAr_set, nb0, nb1, rl_k1, rl_k2, rl_k3, rl_k4, rl_k5, rl_k6, rl_k7, rl_k8, rl_k9, rl_k10, rl_k11, rl_k12, rl_k13, rl_k14, rl_k15, rl_k16, rl_k17, rl_k18, rl_k19, rl_k20, rl_k21, rl_k22, rl_k23, rl_k24, rl_k25, rl_k26, rl_k27, rl_k28, rl_k29, rl_k30, rl_k31, rl_s1, rl_s2, rl_s3, rl_s4, rl_s5, rl_s6, rl_s7, rl_s8, rl_s9, rl_s10, rl_s11, rl_s12, rl_s13, rl_s14, rl_s15, rl_s16, rl_s17, rl_s18, rl_s19, rl_s20, rl_s21, rl_s22, rl_s23, rl_s24, rl_s25, rl_s26, rl_s27, rl_s28, rl_s29, rl_s30, rl_s31, ro_0, ro_1, ro_2, ro_3, ro_4, ro_5, ro_6, ro_7, ro_8, ro_9, ro_10, ro_11, ro_12, ro_13, ro_14, ro_15, ro_16, ro_17, ro_18, ro_19, ro_20, ro_21, ro_22, ro_23, ro_24, ro_25, ro_26, ro_27, ro_28, ro_29, ro_30, ro_31, ro_32, ro_33, ro_34, ro_35, rl_g0, rl_g1, rl_g2, rl_g3, rl_g4, Option.some.injEq, Sum.inr.injEq, Sum.inl.injEq, Prod.mk.injEq, Value.ref.injEq, Value.int.injEq, true_and, and_true, exists_eq_left', exists_eq_left, exists_and_left, forall_eq, rAr_get, nI_nn, nI_cl, exists_const, sA, sF_eq, sF_ne, sF_2, sG_1, sG_2, exists_eq', exists_eq, ix4a, ix16a, nI_add, xlt, up1_eq, sF_sF, tt_r1, tt_r2, tt_r3, tt_r4, tt_r5, tt_r6, tt_r7, tt_r8, tt_r9, tt_r10, tt_r11, tt_r12, tt_r13, tt_r14, tt_r15, tt_r16, tt_r17, tt_r18, tt_r19, tt_r20, tt_r21, tt_r22, tt_r23, tt_r24, tt_r25, tt_r26, tt_r27, tt_r28, tt_r29, tt_r30, tt_r31, tt_i0, tt_i1, tt_i2, tt_i3, tt_i4, tt_u1, tt_u2, tt_u3, tt_u4, tt_u5, tt_u6, tt_u7, tt_u8, tt_u9, tt_u10, tt_u11, tt_u12, tt_u13, tt_u14, tt_u15, tt_u16, tt_u17, tt_u18, tt_u19, tt_u20, tt_u21, tt_u22, tt_u23, tt_u24, tt_u25, tt_u26, tt_u27, tt_u28, tt_u29, tt_u30, tt_u31, tt_j0, tt_j1, tt_j2, tt_j3, pN_eq, pN_pN, pN_2, un_eq, un_nk, aM_1, aM_2, aM_3, aW_1, aW_2, aW_3, aG_1, aG_2, aG_3, aG_4, eq_self, not_true_eq_false, not_false_eq_true, true_implies, false_implies, if_true, if_false]
theorem n_beg2 {Q : Option Value → xH → Prop} {r : Nat} {g : xH} {a : rA} {p : Nat} (hp : p < 8) (hl : Wl a) (hw : Wn (a.1 p)) : w_M_begins Q r (nI p) 2 (rl r g (tt a)) ↔ Q none (rl r g (tt (A_beg2 a p))) := by
  have hw2 : Wn ((pN a p (un (un (un (un (a.1 p) 16 0 2) 5 0 (a.1 p 5 0 + 1)) 19 0 0) 20 0 0)).1 p) := by
    rw [pN_eq]
    exact Wn_ph hw
  unfold A_beg2 F_ph
  simp (maxSteps := 4000000) (disch := first | omega | decide) only [w_M_begins, w_M_begins_55, n_beg109 hp (Wl_pN hl) hw2, rl_r, ro_len, rAr_len, rAr_set, nb0, nb1, rl_k1, rl_k2, rl_k3, rl_k4, rl_k5, rl_k6, rl_k7, rl_k8, rl_k9, rl_k10, rl_k11, rl_k12, rl_k13, rl_k14, rl_k15, rl_k16, rl_k17, rl_k18, rl_k19, rl_k20, rl_k21, rl_k22, rl_k23, rl_k24, rl_k25, rl_k26, rl_k27, rl_k28, rl_k29, rl_k30, rl_k31, rl_s1, rl_s2, rl_s3, rl_s4, rl_s5, rl_s6, rl_s7, rl_s8, rl_s9, rl_s10, rl_s11, rl_s12, rl_s13, rl_s14, rl_s15, rl_s16, rl_s17, rl_s18, rl_s19, rl_s20, rl_s21, rl_s22, rl_s23, rl_s24, rl_s25, rl_s26, rl_s27, rl_s28, rl_s29, rl_s30, rl_s31, ro_0, ro_1, ro_2, ro_3, ro_4, ro_5, ro_6, ro_7, ro_8, ro_9, ro_10, ro_11, ro_12, ro_13, ro_14, ro_15, ro_16, ro_17, ro_18, ro_19, ro_20, ro_21, ro_22, ro_23, ro_24, ro_25, ro_26, ro_27, ro_28, ro_29, ro_30, ro_31, ro_32, ro_33, ro_34, ro_35, rl_g0, rl_g1, rl_g2, rl_g3, rl_g4, Option.some.injEq, Sum.inr.injEq, Sum.inl.injEq, Prod.mk.injEq, Value.ref.injEq, Value.int.injEq, true_and, and_true, exists_eq_left', exists_eq_left, exists_and_left, forall_eq, rAr_get, nI_nn, nI_cl, exists_const, sA, sF_eq, sF_ne, sF_2, sG_1, sG_2, exists_eq', exists_eq, ix4a, ix16a, nI_add, xlt, up1_eq, sF_sF, tt_r1, tt_r2, tt_r3, tt_r4, tt_r5, tt_r6, tt_r7, tt_r8, tt_r9, tt_r10, tt_r11, tt_r12, tt_r13, tt_r14, tt_r15, tt_r16, tt_r17, tt_r18, tt_r19, tt_r20, tt_r21, tt_r22, tt_r23, tt_r24, tt_r25, tt_r26, tt_r27, tt_r28, tt_r29, tt_r30, tt_r31, tt_i0, tt_i1, tt_i2, tt_i3, tt_i4, tt_u1, tt_u2, tt_u3, tt_u4, tt_u5, tt_u6, tt_u7, tt_u8, tt_u9, tt_u10, tt_u11, tt_u12, tt_u13, tt_u14, tt_u15, tt_u16, tt_u17, tt_u18, tt_u19, tt_u20, tt_u21, tt_u22, tt_u23, tt_u24, tt_u25, tt_u26, tt_u27, tt_u28, tt_u29, tt_u30, tt_u31, tt_j0, tt_j1, tt_j2, tt_j3, pN_eq, pN_pN, pN_2, un_eq, un_nk, aM_1, aM_2, aM_3, aW_1, aW_2, aW_3, aG_1, aG_2, aG_3, aG_4, eq_self, not_true_eq_false, not_false_eq_true, true_implies, false_implies, if_true, if_false, k21]
