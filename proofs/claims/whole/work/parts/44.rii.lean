/-! a phase begins -/
theorem own_at {n : nv} {j : Nat} : ∀ k, j < k → F_own n k 27 j = n 6 j ∧ F_own n k 28 j = n 7 j ∧ F_own n k 29 j = n 8 j := by
  intro k
  induction k with
  | zero =>
    intro h
    omega
  | succ k ih =>
    intro h
    rw [F_own]
    by_cases e : j = k
    · subst e
      rw [own_k (by decide), own_k (by decide), own_k (by decide)]
      exact ⟨by rw [un_nk (by decide), un_nk (by decide), un_eq], by rw [un_nk (by decide), un_eq], by rw [un_eq]⟩
    · obtain ⟨i1, i2, i3⟩ := ih (by omega)
      exact ⟨by rw [un_nk (by decide), un_nk (by decide), un_nj e]; exact i1, by rw [un_nk (by decide), un_nj e, un_nk (by decide)]; exact i2, by rw [un_nj e, un_nk (by decide), un_nk (by decide)]; exact i3⟩
section OPN
variable {a b : nv} {k j p : Nat}
theorem fo_k (h : k ≠ 16 ∧ k ≠ 5 ∧ k ≠ 19 ∧ k ≠ 20 ∧ k ≠ 25 ∧ k ≠ 26 ∧ k ≠ 27 ∧ k ≠ 28 ∧ k ≠ 29) : F_open1 b k j = b k j := by
  unfold F_open1 F_ph
  rw [un_nk h.2.2.2.2.2.1, un_nk h.2.2.2.2.1, own_k ⟨h.2.2.2.2.2.2.1, h.2.2.2.2.2.2.2.1, h.2.2.2.2.2.2.2.2⟩, un_nk h.2.2.2.1, un_nk h.2.2.1, un_nk h.2.1, un_nk h.1]
theorem fo_16 : F_open1 b 16 0 = 1 := by
  unfold F_open1 F_ph
  rw [un_nk (by decide), un_nk (by decide), own_k (by decide)]
  simp (disch := decide) only [un_nk, un_nj, un_eq, ua_nk, ua_eq, un_nk1]
theorem fo_5 : F_open1 b 5 0 = b 5 0 + 1 := by
  unfold F_open1 F_ph
  rw [un_nk (by decide), un_nk (by decide), own_k (by decide)]
  simp (disch := decide) only [un_nk, un_nj, un_eq, ua_nk, ua_eq, un_nk1]
theorem fo_19 : F_open1 b 19 0 = 0 := by
  unfold F_open1 F_ph
  rw [un_nk (by decide), un_nk (by decide), own_k (by decide)]
  simp (disch := decide) only [un_nk, un_nj, un_eq, ua_nk, ua_eq, un_nk1]
theorem fo_20 : F_open1 b 20 0 = 0 := by
  unfold F_open1 F_ph
  rw [un_nk (by decide), un_nk (by decide), own_k (by decide)]
  simp (disch := decide) only [un_nk, un_nj, un_eq, ua_nk, ua_eq, un_nk1]
theorem fo_25 : F_open1 b 25 0 = 0 := by
  unfold F_open1
  simp (disch := decide) only [un_nk, un_nj, un_eq, ua_nk, ua_eq, un_nk1]
theorem fo_27 (hj : j < 4) : F_open1 b 27 j = b 6 j ∧ F_open1 b 28 j = b 7 j ∧ F_open1 b 29 j = b 8 j := by
  obtain ⟨i1, i2, i3⟩ := own_at (n := F_ph b 1) 4 hj
  have q6 : F_ph b 1 6 j = b 6 j := by
    unfold F_ph
    simp (disch := decide) only [un_nk, un_nj, un_eq, ua_nk, ua_eq, un_nk1]
  have q7 : F_ph b 1 7 j = b 7 j := by
    unfold F_ph
    simp (disch := decide) only [un_nk, un_nj, un_eq, ua_nk, ua_eq, un_nk1]
  have q8 : F_ph b 1 8 j = b 8 j := by
    unfold F_ph
    simp (disch := decide) only [un_nk, un_nj, un_eq, ua_nk, ua_eq, un_nk1]
  unfold F_open1
  refine ⟨?_, ?_, ?_⟩
  · rw [un_nk (by decide), un_nk (by decide), i1, q6]
  · rw [un_nk (by decide), un_nk (by decide), i2, q7]
  · rw [un_nk (by decide), un_nk (by decide), i3, q8]
theorem co_k (h : k ≠ 0 ∧ k ≠ 12) (h' : k ≠ 14 ∧ k ≠ 15 ∧ k ≠ 16) : C_open1 a k j = a k j := by
  unfold C_open1
  split
  · rw [un_nk h.2, un_nk h.2, cown_k h', cph_k h]
  · rw [cown_k h', cph_k h]
theorem co_0 (h : j ≠ 4) : C_open1 a 0 j = a 0 j := by
  unfold C_open1
  split
  · rw [un_nk (by decide), un_nk (by decide), cown_k (by decide), cph_0 h]
  · rw [cown_k (by decide), cph_0 h]
theorem co_04 : C_open1 a 0 4 = a 0 4 + 1 := by
  unfold C_open1 C_own C_ph
  split <;> simp (disch := decide) only [un_nk, un_nj, un_eq, ua_nk, ua_eq, un_nk1]
theorem co_122 : C_open1 a 12 2 = 1 := by
  unfold C_open1 C_own C_ph
  split <;> simp (disch := decide) only [un_nk, un_nj, un_eq, ua_nk, ua_eq, un_nk1]
theorem co_125 : C_open1 a 12 5 = 0 := by
  unfold C_open1 C_own C_ph
  split <;> simp (disch := decide) only [un_nk, un_nj, un_eq, ua_nk, ua_eq, un_nk1]
theorem co_126 : C_open1 a 12 6 = 0 := by
  unfold C_open1 C_own C_ph
  split <;> simp (disch := decide) only [un_nk, un_nj, un_eq, ua_nk, ua_eq, un_nk1]
theorem co_f (h : a 12 1 = 3) : C_open1 a 12 10 = 0 ∧ C_open1 a 12 11 = a 12 9 := by
  unfold C_open1
  rw [if_pos h]
  refine ⟨?_, ?_⟩
  · simp (disch := decide) only [un_nk, un_nj, un_eq, ua_nk, ua_eq, un_nk1]
  · simp (disch := decide) only [un_nk, un_nj, un_eq, ua_nk, ua_eq, un_nk1]
theorem co_14 : C_open1 a 14 j = a 2 j ∧ C_open1 a 15 j = a 3 j ∧ C_open1 a 16 j = a 4 j := by
  unfold C_open1 C_own C_ph
  split <;> (refine ⟨?_, ?_, ?_⟩ <;> simp (disch := decide) only [un_nk, un_nj, un_eq, ua_nk, ua_eq, un_nk1])
theorem RN_open1 (hb : RB a b) (ht : RT a b) : RN (C_open1 a) (F_open1 b) := by
  obtain ⟨g0, g1, g2, g3, g4, g5, hc, hs, hn, hp⟩ := hb
  obtain ⟨t0, t1, t2, t3, u0, u1, u2⟩ := ht
  refine ⟨⟨?_, ?_, ?_, ?_, ?_, ?_, fun j hj => ?_, fun j hj => ?_, ?_, ?_⟩, fun _ => ⟨⟨?_, ?_, ?_, ?_, fun hh => ?_, fun hh => ?_, fun hh => ?_⟩, ⟨?_, ?_, fun j hj => ?_, fun hh _ => ?_⟩⟩⟩
  · rw [co_0 (by decide), fo_k (by decide)]
    exact g0
  · rw [co_0 (by decide), fo_k (by decide)]
    exact g1
  · rw [co_0 (by decide), fo_k (by decide)]
    exact g2
  · rw [co_04, fo_5, g3]
  · rw [co_0 (by decide), fo_k (by decide)]
    exact g4
  · rw [co_0 (by decide), fo_k (by decide)]
    exact g5
  · rw [co_k (by decide) (by decide), co_k (by decide) (by decide), co_k (by decide) (by decide), fo_k (by decide), fo_k (by decide), fo_k (by decide)]
    exact hc j hj
  · rw [co_k (by decide) (by decide), co_k (by decide) (by decide), co_k (by decide) (by decide), co_k (by decide) (by decide), co_k (by decide) (by decide), fo_k (by decide), fo_k (by decide), fo_k (by decide), fo_k (by decide), fo_k (by decide)]
    exact hs j hj
  · rw [open1_12 (by decide), fo_k (by decide)]
    exact hn
  · rw [co_122, fo_16]
  · rw [open1_12 (by decide), fo_k (by decide)]
    exact t0
  · rw [open1_12 (by decide), fo_k (by decide)]
    exact t1
  · rw [open1_12 (by decide), fo_k (by decide)]
    exact t2
  · rw [open1_12 (by decide), fo_k (by decide)]
    exact t3
  · rw [fo_k (by decide)] at hh
    rw [open1_12 (by decide), fo_k (by decide)]
    exact u0 hh
  · rw [fo_k (by decide)] at hh
    rw [open1_12 (by decide), fo_k (by decide)]
    exact u1 hh
  · rw [fo_k (by decide)] at hh
    rw [open1_12 (by decide), fo_k (by decide)]
    exact u2 hh
  · rw [co_125, fo_19]
  · rw [co_126, fo_20]
  · obtain ⟨q1, q2, q3⟩ := co_14 (a := a) (j := j)
    obtain ⟨r1, r2, r3⟩ := fo_27 (b := b) hj
    rw [q1, q2, q3, r1, r2, r3]
    exact hc j hj
  · rw [fo_k (by decide)] at hh
    obtain ⟨q1, q2⟩ := co_f (a := a) (by rw [t0]; exact hh)
    rw [q1, q2, fo_25]
    refine ⟨rfl, ?_⟩
    unfold F_chosen
    rw [fo_25, if_pos (by decide), fo_k (by decide)]
    exact u1 hh
theorem RN_bal0 {v : Int32} (h : RN a b) (h0 : b 14 0 = 0) : RN (un a 12 7 v) b := by
  obtain ⟨⟨g0, g1, g2, g3, g4, g5, hc, hs, hn, hp⟩, ht⟩ := h
  refine ⟨⟨?_, ?_, ?_, ?_, ?_, ?_, ?_, ?_, ?_, ?_⟩, fun hne => absurd h0 hne⟩
  · rw [un_nk (by decide)]
    exact g0
  · rw [un_nk (by decide)]
    exact g1
  · rw [un_nk (by decide)]
    exact g2
  · rw [un_nk (by decide)]
    exact g3
  · rw [un_nk (by decide)]
    exact g4
  · rw [un_nk (by decide)]
    exact g5
  · simp (disch := decide) only [un_nk]
    exact hc
  · simp (disch := decide) only [un_nk]
    exact hs
  · rw [un_nj (by decide)]
    exact hn
  · rw [un_nj (by decide)]
    exact hp
theorem round_dn {b : nv} {v : Int32} (hu : b 1 0 = 1) (h : ¬ (F_round b v) 1 0 = 1) : (F_round b v) 14 0 = 0 := by
  unfold F_round at h ⊢
  split
  · rename_i hc
    rw [if_pos hc] at h
    exact absurd hu h
  · rename_i hc
    rw [if_neg hc] at h
    split
    · rename_i h0
      rw [if_pos h0] at h
      exact may_dn hu h
    · rename_i h0
      rw [if_neg h0, un_nk (by decide)] at h
      rw [un_nk (by decide)]
      exact may_dn hu h
theorem inc_lt {m : Nat} (h : m < 1073741824) : nI m < nI m + 1 := by
  rw [nI_1, nI_ltI (by omega) (by omega)]
  omega
theorem RN_begin1 (hb : RB a b) (ht : RT a b) (hu : b 1 0 = 1) (hr : Ar b) (h3 : ∃ m, m < 1073741824 ∧ b 3 0 = nI m) (hid : a 0 0 = nI p) : RN (C_begin1 a) (F_begin1 b p) := by
  have ho := RN_open1 hb ht
  have t0 : a 12 1 = b 15 0 := ht.1
  have ar1 : Ar (F_open1 b) := by
    obtain ⟨m, hm, em⟩ := hr
    exact ⟨m, hm, by rw [fo_k (by decide)]; exact em⟩
  unfold C_begin1 F_begin1
  rw [t0]
  by_cases h : b 15 0 = 3
  · rw [if_pos h, if_pos h]
    obtain ⟨m, hm, em⟩ := h3
    have e3 : F_open1 b 3 0 = b 3 0 := fo_k (by decide)
    have ea : a 0 3 = b 3 0 := hb.2.2.1
    have hx := RN_raise (v := b 3 0 + 1) ho ar1
    have hlt : F_open1 b 3 0 < b 3 0 + 1 := by
      rw [e3, em]
      exact inc_lt hm
    rw [if_pos hlt] at hx
    rw [ea, e3]
    by_cases hup : (F_round (F_open1 b) (b 3 0 + 1)) 1 0 = 1
    · rw [if_pos hup, hx.1.2.2.1, hid]
      exact RN_bal hx
    · rw [if_neg hup]
      exact RN_bal0 hx (round_dn (by rw [fo_k (by decide)]; exact hu) hup)
  · rw [if_neg h, if_neg h]
    exact ho
end OPN
theorem round_3 {b : nv} {v : Int32} (hu : (F_round b v) 1 0 = 1) : (F_round b v) 3 0 = v := by
  unfold F_round at hu ⊢
  split
  · rename_i hc
    exact hc
  · rename_i hc
    rw [if_neg hc] at hu
    split
    · rename_i h0
      rw [if_pos h0] at hu
      exfalso
      unfold F_may at h0 hu
      by_cases c1 : b 1 0 = 1
      · by_cases c2 : b 4 0 = 1
        · simp only [c1, c2, if_true] at hu
          unfold F_down at hu
          simp (disch := decide) only [un_nk, un_eq] at hu
          exact absurd hu (by decide)
        · simp only [c1, c2, if_true, if_false] at h0
          exact absurd h0 (by decide)
      · simp only [c1, if_false] at hu
    · exact un_eq
theorem NV_own {b : nv} {k : Nat} (h : NV b) : NV (F_own b k) := by
  induction k with
  | zero => exact h
  | succ k ih =>
    rw [F_own]
    exact NV_un (NV_un (NV_un ih (by decide)) (by decide)) (by decide)
theorem NV_open1 {b : nv} (h : NV b) : NV (F_open1 b) := by
  unfold F_open1 F_ph
  exact NV_un (NV_un (NV_own (NV_un (NV_un (NV_un (NV_un h (by decide)) (by decide)) (by decide)) (by decide))) (by decide)) (by decide)
theorem begin1_k {b : nv} {p k j : Nat} (h : k ≠ 16 ∧ k ≠ 5 ∧ k ≠ 19 ∧ k ≠ 20 ∧ k ≠ 25 ∧ k ≠ 26 ∧ k ≠ 27 ∧ k ≠ 28 ∧ k ≠ 29) (h' : k ≠ 1 ∧ k ≠ 4 ∧ k ≠ 14 ∧ k ≠ 15 ∧ k ≠ 16 ∧ k ≠ 5 ∧ k ≠ 32) (h3 : k ≠ 3 ∧ k ≠ 23) : F_begin1 b p k j = b k j := by
  unfold F_begin1
  split
  · split
    · rw [un_nk h3.2, round_k h' h3.1, fo_k h]
    · rw [round_k h' h3.1, fo_k h]
  · exact fo_k h
theorem SI_begin1 {b : nv} {i : Nat} (hi : i < 8) (hw : Wn b) (hr : Ar b) (hv : NV b) (h14 : ¬ b 14 0 = 0) (h15 : b 15 0 = 1 ∨ b 15 0 = 2 ∨ b 15 0 = 3 ∨ b 15 0 = 4) (h3 : ∃ m, m < 134217728 ∧ b 3 0 = nI m) (h23 : ¬ b 15 0 = 3 → b 23 0 = 0) (hu : F_begin1 b i 1 0 = 1) : SI (F_begin1 b i) i ∧ (¬ F_begin1 b i 15 0 = 3 → F_begin1 b i 23 0 = 0) ∧ F_begin1 b i 15 0 = b 15 0 := by
  have ar1 : Ar (F_open1 b) := by
    obtain ⟨m, hm, em⟩ := hr
    exact ⟨m, hm, by rw [fo_k (by decide)]; exact em⟩
  have nv1 := NV_open1 hv
  have z : ((0 : Int32) >>> (nI i &&& 31)) &&& 1 = 0 := by
    rw [Int32.zero_shiftRight]
    exact Int32.zero_and
  have hwb := Wn_begin1 (p := i) hw
  unfold F_begin1 at hu hwb ⊢
  by_cases h : b 15 0 = 3
  · rw [if_pos h] at hu hwb ⊢
    obtain ⟨m, hm, em⟩ := h3
    have e3 : F_open1 b 3 0 = nI m := by
      rw [fo_k (by decide)]
      exact em
    by_cases hup : (F_round (F_open1 b) (F_open1 b 3 0 + 1)) 1 0 = 1
    · rw [if_pos hup] at hu hwb ⊢
      have q3 := round_3 hup
      have hK := KF_round (n := F_open1 b) (v := F_open1 b 3 0 + 1)
      obtain ⟨u1, u2, u3, u4⟩ := up_KF hK hup
      have q15 : (F_round (F_open1 b) (F_open1 b 3 0 + 1)) 15 0 = b 15 0 := ((hK.2.2.2.2.2 hup).2.1).trans (fo_k (by decide))
      have hval : 8 * (F_round (F_open1 b) (F_open1 b 3 0 + 1)) 3 0 + nI i = nI (8 * (m + 1) + i) := by
        rw [q3, e3, nI_1, show (8 : Int32) = nI 8 from rfl, pk_mul, nI_add]
      refine ⟨⟨hwb, Ar_un (Ar_round ar1) (by decide), NV_un (NV_round nv1) (by decide), ?_, ?_, ?_, ?_, ?_, ?_⟩, ?_, ?_⟩
      · rw [un_eq, hval]
        exact ⟨_, by omega, rfl⟩
      · rw [un_nk (by decide), round_k (by decide) (by decide), fo_25]
        decide
      · rw [un_nk (by decide), un_nk (by decide), round_k (by decide) (by decide), round_k (by decide) (by decide), fo_20]
        exact fun _ => z
      · rw [un_nk (by decide), q15]
        exact h15
      · rw [un_nk (by decide), u4, fo_16]
        exact Or.inl rfl
      · rw [un_nk (by decide), u3, fo_k (by decide)]
        exact h14
      · rw [un_nk (by decide), q15]
        exact fun hh => absurd h hh
      · rw [un_nk (by decide), q15]
    · rw [if_neg hup] at hu
      exact absurd hu hup
  · rw [if_neg h] at hu hwb ⊢
    refine ⟨⟨hwb, ar1, nv1, ?_, ?_, ?_, ?_, ?_, ?_⟩, ?_, ?_⟩
    · rw [fo_k (by decide), h23 h]
      exact ⟨0, by decide, rfl⟩
    · rw [fo_25]
      decide
    · rw [fo_19, fo_20]
      exact fun _ => z
    · rw [fo_k (by decide)]
      exact h15
    · rw [fo_16]
      exact Or.inl rfl
    · rw [fo_k (by decide)]
      exact h14
    · rw [fo_k (by decide), fo_k (by decide)]
      exact fun _ => h23 h
    · rw [fo_k (by decide)]
