/-! the second phase -/
section PH2
variable {a b : nv} {k j p : Nat} {w : Int32}
theorem fp_k (h : k ≠ 16 ∧ k ≠ 5 ∧ k ≠ 19 ∧ k ≠ 20) : F_ph b w k j = b k j := by
  unfold F_ph
  rw [un_nk h.2.2.2, un_nk h.2.2.1, un_nk h.2.1, un_nk h.1]
theorem fp_16 : F_ph b w 16 0 = w := by
  unfold F_ph
  simp (disch := decide) only [un_nk, un_eq]
theorem fp_5 : F_ph b w 5 0 = b 5 0 + 1 := by
  unfold F_ph
  simp (disch := decide) only [un_nk, un_eq]
theorem fp_19 : F_ph b w 19 0 = 0 ∧ F_ph b w 20 0 = 0 := by
  unfold F_ph
  exact ⟨by rw [un_nk (by decide), un_eq], by rw [un_eq]⟩
theorem cp_04 : C_ph a w 0 4 = a 0 4 + 1 := by
  unfold C_ph
  simp (disch := decide) only [un_nk, un_nj, un_eq]
theorem cp_122 : C_ph a w 12 2 = w ∧ C_ph a w 12 5 = 0 ∧ C_ph a w 12 6 = 0 := by
  unfold C_ph
  refine ⟨?_, ?_, ?_⟩ <;> simp (disch := decide) only [un_nk, un_nj, un_eq]
theorem chosen_ph : F_chosen (F_ph b w) = F_chosen b := by
  unfold F_chosen
  rw [fp_k (by decide), fp_k (by decide), fp_k (by decide)]
theorem RN_ph2 (h : RN a b) (h16 : ¬ b 16 0 = 0) : RN (C_ph a w) (F_ph b w) := by
  obtain ⟨⟨g0, g1, g2, g3, g4, g5, hc, hs, hn, hp⟩, ht⟩ := h
  obtain ⟨c1, c2, c3⟩ := cp_122 (a := a) (w := w)
  obtain ⟨d1, d2⟩ := fp_19 (b := b) (w := w)
  refine ⟨⟨?_, ?_, ?_, ?_, ?_, ?_, fun j hj => ?_, fun j hj => ?_, ?_, ?_⟩, fun hne => ?_⟩
  · rw [cph_0 (by decide), fp_k (by decide)]
    exact g0
  · rw [cph_0 (by decide), fp_k (by decide)]
    exact g1
  · rw [cph_0 (by decide), fp_k (by decide)]
    exact g2
  · rw [cp_04, fp_5, g3]
  · rw [cph_0 (by decide), fp_k (by decide)]
    exact g4
  · rw [cph_0 (by decide), fp_k (by decide)]
    exact g5
  · rw [cph_k (by decide), cph_k (by decide), cph_k (by decide), fp_k (by decide), fp_k (by decide), fp_k (by decide)]
    exact hc j hj
  · rw [cph_k (by decide), cph_k (by decide), cph_k (by decide), cph_k (by decide), cph_k (by decide), fp_k (by decide), fp_k (by decide), fp_k (by decide), fp_k (by decide), fp_k (by decide)]
    exact hs j hj
  · rw [cph_12 (by decide), fp_k (by decide)]
    exact hn
  · rw [c1, fp_16]
  · rw [fp_k (by decide)] at hne
    obtain ⟨⟨t0, t1, t2, t3, u0, u1, u2⟩, ⟨p0, p1, pb, pf⟩⟩ := ht hne
    refine ⟨⟨?_, ?_, ?_, ?_, fun hh => ?_, fun hh => ?_, fun hh => ?_⟩, ⟨?_, ?_, fun j hj => ?_, fun hh _ => ?_⟩⟩
    · rw [cph_12 (by decide), fp_k (by decide)]
      exact t0
    · rw [cph_12 (by decide), fp_k (by decide)]
      exact t1
    · rw [cph_12 (by decide), fp_k (by decide)]
      exact t2
    · rw [cph_12 (by decide), fp_k (by decide)]
      exact t3
    · rw [fp_k (by decide)] at hh
      rw [cph_12 (by decide), fp_k (by decide)]
      exact u0 hh
    · rw [fp_k (by decide)] at hh
      rw [cph_12 (by decide), fp_k (by decide)]
      exact u1 hh
    · rw [fp_k (by decide)] at hh
      rw [cph_12 (by decide), fp_k (by decide)]
      exact u2 hh
    · rw [c2, d1]
    · rw [c3, d2]
    · rw [cph_k (by decide), cph_k (by decide), cph_k (by decide), fp_k (by decide), fp_k (by decide), fp_k (by decide)]
      exact pb j hj
    · rw [fp_k (by decide)] at hh
      rw [cph_12 (by decide), cph_12 (by decide), fp_k (by decide), chosen_ph]
      exact pf hh h16
/-- a WRITE's new value -/
theorem RN_wr2 (h : RN a b) (hw : Wn b) (h14 : ¬ b 14 0 = 0) (hid : a 0 0 = nI p) (hd : b 15 0 = 1 ∨ b 15 0 = 2) : RN (C_wr a) (F_wr b p) := by
  have hD : ¬ F_isData b = 0 := by
    unfold F_isData
    rw [if_pos hd]
    decide
  have h4 := hw.2.2.1 hD
  obtain ⟨⟨t0, t1, t2, t3, u0, u1, u2⟩, ⟨p0, p1, pb, pf⟩⟩ := h.2 h14
  have hob : 0 ≤ a 12 3 ∧ ¬ 4 ≤ a 12 3 := by
    rw [t1, hw.1]
    exact of_eq_true (yO h4)
  have ec : (a 12 3).toNatClampNeg = ab b := by
    rw [t1]
    rfl
  unfold C_wr F_wr
  rw [t0]
  by_cases h2 : b 15 0 = 2
  · rw [if_pos h2, if_pos h2, if_pos hob, ec, (pb (ab b) h4).1, hid, u0 h2]
    exact RN_b16 (RN_b15 (RN_b14 h))
  · rw [if_neg h2, if_neg h2]
    exact h
theorem wr_k (h : k ≠ 27 ∧ k ≠ 28 ∧ k ≠ 29) : F_wr b p k j = b k j := by
  unfold F_wr
  split
  · rw [un_nk h.2.2, un_nk h.2.1, un_nk h.1]
  · rfl
theorem wr_ph : F_wr (F_ph b w) p = F_ph (F_wr b p) w := by
  have e : ab (F_ph b w) = ab b := by
    unfold ab
    rw [fp_k (by decide)]
  unfold F_wr
  rw [fp_k (by decide), fp_k (by decide), fp_k (by decide), e]
  split
  · unfold F_ph
    rw [un_nk (k' := 5) (by decide), un_nk (k' := 5) (by decide), un_nk (k' := 5) (by decide)]
    simp only [un_comm (k := 20) (k' := 27) (by decide), un_comm (k := 19) (k' := 27) (by decide), un_comm (k := 5) (k' := 27) (by decide), un_comm (k := 16) (k' := 27) (by decide), un_comm (k := 20) (k' := 28) (by decide), un_comm (k := 19) (k' := 28) (by decide), un_comm (k := 5) (k' := 28) (by decide), un_comm (k := 16) (k' := 28) (by decide), un_comm (k := 20) (k' := 29) (by decide), un_comm (k := 19) (k' := 29) (by decide), un_comm (k := 5) (k' := 29) (by decide), un_comm (k := 16) (k' := 29) (by decide)]
  · rfl
/-- a write that leaves the node up goes past the opening of a phase -/
theorem may_ph : (F_may (F_ph b w)).1 = (F_may b).1 := by
  unfold F_may
  rw [fp_k (by decide), fp_k (by decide)]
  by_cases c1 : b 1 0 = 1
  · by_cases c2 : b 4 0 = 1
    · simp only [c1, c2, if_true]
    · simp only [c1, c2, if_true, if_false]
  · simp only [c1, if_false]
theorem store_ph {q : Nat} {x y z : Int32} (hu : (F_store b q x y z) 1 0 = 1) : F_store (F_ph b w) q x y z = F_ph (F_store b q x y z) w := by
  unfold F_store at hu ⊢
  rw [fp_k (by decide), fp_k (by decide), may_ph]
  by_cases c0 : f_isGreater x y (b 6 q) (b 7 q) = 0
  · rw [if_pos c0, if_pos c0]
  · rw [if_neg c0] at hu ⊢
    rw [if_neg c0]
    unfold F_may at hu ⊢
    rw [fp_k (by decide), fp_k (by decide), fp_k (by decide)]
    by_cases c1 : b 1 0 = 1
    · by_cases c2 : b 4 0 = 1
      · exfalso
        simp only [c1, c2, if_true] at hu
        unfold F_down at hu
        simp (disch := decide) only [un_nk, un_eq] at hu
        exact absurd hu (by decide)
      · simp only [c1, c2, if_true, if_false, k10]
        unfold F_ph
        rw [un_nk (k' := 5) (by decide), un_nk (k' := 5) (by decide), un_nk (k' := 5) (by decide), un_nk (k' := 5) (by decide), un_nk (k' := 5) (by decide)]
        simp only [un_comm (k := 20) (k' := 4) (by decide), un_comm (k := 19) (k' := 4) (by decide), un_comm (k := 5) (k' := 4) (by decide), un_comm (k := 16) (k' := 4) (by decide), un_comm (k := 20) (k' := 32) (by decide), un_comm (k := 19) (k' := 32) (by decide), un_comm (k := 5) (k' := 32) (by decide), un_comm (k := 16) (k' := 32) (by decide), un_comm (k := 20) (k' := 6) (by decide), un_comm (k := 19) (k' := 6) (by decide), un_comm (k := 5) (k' := 6) (by decide), un_comm (k := 16) (k' := 6) (by decide), un_comm (k := 20) (k' := 7) (by decide), un_comm (k := 19) (k' := 7) (by decide), un_comm (k := 5) (k' := 7) (by decide), un_comm (k := 16) (k' := 7) (by decide), un_comm (k := 20) (k' := 8) (by decide), un_comm (k := 19) (k' := 8) (by decide), un_comm (k := 5) (k' := 8) (by decide), un_comm (k := 16) (k' := 8) (by decide)]
    · exfalso
      simp only [c1, if_false, if_true] at hu
/-- a node that has fallen: the same, whatever phase was opened -/
theorem store_phd {q : Nat} {x y z : Int32} (hu1 : b 1 0 = 1) (hu : ¬ (F_store b q x y z) 1 0 = 1) : ¬ (F_store (F_ph b w) q x y z) 1 0 = 1 ∧ (RN a (F_store (F_ph b w) q x y z) → RN a (F_store b q x y z)) := by
  have hB : F_store b q x y z = F_down b ∧ F_store (F_ph b w) q x y z = F_down (F_ph b w) := by
    unfold F_store at hu ⊢
    rw [fp_k (by decide), fp_k (by decide), may_ph]
    by_cases c0 : f_isGreater x y (b 6 q) (b 7 q) = 0
    · rw [if_pos c0] at hu
      exact absurd hu1 hu
    · rw [if_neg c0] at hu ⊢
      rw [if_neg c0]
      unfold F_may at hu ⊢
      rw [fp_k (by decide), fp_k (by decide)]
      by_cases c2 : b 4 0 = 1
      · simp only [hu1, c2, if_true]
        exact ⟨trivial, trivial⟩
      · exfalso
        simp only [hu1, c2, if_true, if_false, k10] at hu
        simp (disch := decide) only [un_nk] at hu
        exact hu hu1
  rw [hB.1, hB.2]
  refine ⟨?_, fun h => ?_⟩
  · unfold F_down
    simp (disch := decide) only [un_nk, un_eq]
    decide
  · obtain ⟨hb, _⟩ := h
    have e14 : F_down b 14 0 = 0 := by
      unfold F_down
      simp (disch := decide) only [un_nk, un_eq]
    refine ⟨?_, fun hne => absurd e14 hne⟩
    have ek : ∀ k j, k ≠ 16 ∧ k ≠ 5 ∧ k ≠ 19 ∧ k ≠ 20 → F_down (F_ph b w) k j = F_down b k j := by
      intro k j hk
      unfold F_down un
      simp only [fp_k hk]
    have e16 : F_down (F_ph b w) 16 0 = F_down b 16 0 := by
      unfold F_down
      simp (disch := decide) only [un_nk, un_eq]
    have e5 : F_down (F_ph b w) 5 0 = F_down b 5 0 := by
      unfold F_down
      simp (disch := decide) only [un_eq]
    unfold RB at hb ⊢
    simp (disch := decide) only [ek, e16, e5] at hb
    exact hb
end PH2
theorem RN_begin2 {a b : nv} {p : Nat} (h : RN a b) (hw : Wn b) (hr : Ar b) (hu : b 1 0 = 1) (h14 : ¬ b 14 0 = 0) (h15 : b 15 0 = 1 ∨ b 15 0 = 2 ∨ b 15 0 = 3 ∨ b 15 0 = 4) (h16 : ¬ b 16 0 = 0) (hid : a 0 0 = nI p) : (F_isData b = 0 → RN (C_begin2 a) (F_ph b 2)) ∧ (¬ F_isData b = 0 → ((F_sec b p) 1 0 = 1 → RN (C_begin2 a) (F_ph (F_sec b p) 2)) ∧ (¬ (F_sec b p) 1 0 = 1 → RN (C_begin2 a) (F_sec b p))) := by
  have t0 : a 12 1 = b 15 0 := (h.2 h14).1.1
  have t1 : a 12 3 = b 17 0 := (h.2 h14).1.2.1
  unfold C_begin2
  rw [t0]
  refine ⟨fun hd => ?_, fun hd => ?_⟩
  · have hn : ¬ (b 15 0 = 1 ∨ b 15 0 = 2) := by
      intro hh
      unfold F_isData at hd
      rw [if_pos hh] at hd
      exact absurd hd (by decide)
    rw [if_neg hn]
    exact RN_ph2 h h16
  · have hdd : b 15 0 = 1 ∨ b 15 0 = 2 := by
      by_cases hh : b 15 0 = 1 ∨ b 15 0 = 2
      · exact hh
      · exfalso
        apply hd
        unfold F_isData
        rw [if_neg hh]
    have h4 := hw.2.2.1 hd
    have hph := RN_ph2 (w := 2) h h16
    have hwp : Wn (F_ph b 2) := Wn_ph hw
    have eab : ab (F_ph b 2) = ab b := by
      unfold ab
      rw [fp_k (by decide)]
    have hx := RN_wr2 (p := p) hph hwp (by rw [fp_k (by decide)]; exact h14) (by rw [cph_0 (by decide)]; exact hid) (by rw [fp_k (by decide)]; exact hdd)
    rw [wr_ph] at hx
    have ar2 : Ar (F_ph (F_wr b p) 2) := by
      obtain ⟨m, hm, em⟩ := hr
      exact ⟨m, hm, by rw [fp_k (by decide), wr_k (by decide)]; exact em⟩
    have e14' : ¬ (F_ph (F_wr b p) 2) 14 0 = 0 := by
      rw [fp_k (by decide), wr_k (by decide)]
      exact h14
    have hpb := (hx.2 e14').2.2.2.1 (ab b) h4
    have hy := RN_take1 (x := (C_wr (C_ph a 2)) 14) (y := (C_wr (C_ph a 2)) 15) (z := (C_wr (C_ph a 2)) 16) h4 hx ar2
    rw [hpb.1, hpb.2.1, hpb.2.2, fp_k (by decide), fp_k (by decide), fp_k (by decide)] at hy
    rw [if_pos hdd, t1, hw.1]
    have es : F_sec b p = F_store (F_wr b p) (ab b) ((F_wr b p) 27 (ab b)) ((F_wr b p) 28 (ab b)) ((F_wr b p) 29 (ab b)) := by
      unfold F_sec
      rw [if_neg hd]
    rw [es]
    refine ⟨fun hup => ?_, fun hup => ?_⟩
    · rw [store_ph hup] at hy
      exact hy
    · exact (store_phd (by rw [wr_k (by decide)]; exact hu) hup).2 hy
