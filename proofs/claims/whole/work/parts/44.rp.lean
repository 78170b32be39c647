/-! answers that count, and those that don't -/
theorem RM_gen {r b : nv} {f : Nat → Int32} {c0 c1 c2 c3 c4 c5 c6 c7 c8 ce be : Int32} (e0 : r 0 0 = c0) (e1 : r 0 1 = c1) (e2 : r 0 2 = c2) (e3 : r 0 3 = c3) (e4 : r 0 4 = c4) (e5 : r 0 5 = c5) (hs : ∀ q, q < 16 → r 2 q = b 9 q ∧ r 3 q = b 10 q) (h23 : c0 = 2 ∨ c0 = 3 → r 5 c5.toNatClampNeg = c6 ∧ r 6 c5.toNatClampNeg = c7 ∧ r 7 c5.toNatClampNeg = c8) (hn : ¬ (c0 = 2 ∨ c0 = 3) → r 0 6 = c6 ∧ r 0 7 = c7 ∧ c8 = 0) (hc : c0 = 11 ∨ c0 = 12 ∨ c0 = 14 → ∀ o, o < 4 → r 5 o = (if ce = 0 then (if be = 0 then 0 else b 27 o) else b 6 o) ∧ r 6 o = (if ce = 0 then (if be = 0 then 0 else b 28 o) else b 7 o) ∧ r 7 o = (if ce = 0 then (if be = 0 then 0 else b 29 o) else b 8 o)) : RM r (sdm f b c0 c1 c2 c3 c4 c5 c6 c7 c8 ce be) := by
  have et : th (sdm f b c0 c1 c2 c3 c4 c5 c6 c7 c8 ce be) = c5.toNatClampNeg := by
    unfold th
    rw [sdm_5]
  unfold RM
  rw [et, sdm_0, sdm_6, sdm_7, sdm_8]
  refine ⟨fun j hj => ?_, fun q hq => ?_, h23, hn, fun hk q hq => ?_⟩
  · have hh : j = 0 ∨ j = 1 ∨ j = 2 ∨ j = 3 ∨ j = 4 ∨ j = 5 := by omega
    rcases hh with h | h | h | h | h | h <;> subst h
    · rw [sdm_0, e0]
    · rw [sdm_1, e1]
    · rw [sdm_2, e2]
    · rw [sdm_3, e3]
    · rw [sdm_4, e4]
    · rw [sdm_5, e5]
  · obtain ⟨z1, z2⟩ := sdm_m (f := f) (n := b) (c0 := c0) (c1 := c1) (c2 := c2) (c3 := c3) (c4 := c4) (c5 := c5) (c6 := c6) (c7 := c7) (c8 := c8) (ce := ce) (be := be) hq
    rw [z1, z2]
    exact hs q hq
  · obtain ⟨z1, z2, z3⟩ := sdm_c (f := f) (n := b) (c0 := c0) (c1 := c1) (c2 := c2) (c3 := c3) (c4 := c4) (c5 := c5) (c6 := c6) (c7 := c7) (c8 := c8) (ce := ce) (be := be) hq
    rw [z1, z2, z3]
    exact hc hk q hq
theorem en_congr {b b' : nv} (h15 : b' 15 0 = b 15 0) (h16 : b' 16 0 = b 16 0) (h9 : b' 9 = b 9) (h10 : b' 10 = b 10) (h20 : b' 20 0 = b 20 0) (h22 : b' 22 0 = b 22 0) (h17 : b' 17 0 = b 17 0) (h24 : b' 24 0 = b 24 0) : F_enough b' = F_enough b := by
  have hd : F_isData b' = F_isData b := by
    unfold F_isData
    rw [h15]
  have hl : ∀ c, F_lea b' c = F_lea b c := by
    intro c
    unfold F_lea
    rw [hd, h16]
  have hc : ∀ k, F_cnt b' k = F_cnt b k := by
    intro k
    unfold F_cnt
    rw [hd, h22, h9]
  have he : ∀ k, F_en b' k = F_en b k := by
    intro k
    induction k with
    | zero => rfl
    | succ k ih => rw [F_en, F_en, ih, hc, h20, h10, hl]
  have ha : ab b' = ab b := by
    unfold ab
    rw [h17]
  have hb : bs b' = bs b := by
    unfold bs
    rw [h24]
  unfold F_enough
  rw [h15, h16, h20, h10, ha, hb, he]
theorem cnt_iff {a b an : nv} {w : Nat → Int32} (h : RN a b) (hu : b 1 0 = 1) (hph : b 16 0 = 0 ∨ b 16 0 = 1 ∨ b 16 0 = 2) (h14 : ¬ b 16 0 = 0 → ¬ b 14 0 = 0) (e1 : an 0 1 = w 1) (e3 : an 0 3 = w 3) (e4 : an 0 4 = w 4) (hc : F_counts b w = 0) : C_hear a an = a := by
  obtain ⟨⟨h0, g1, g2, g3, g4, g5, hcc, hs, hn, hp⟩, ht⟩ := h
  unfold C_hear
  rw [if_pos]
  by_cases h16 : b 16 0 = 0
  · left
    unfold C_busy
    rw [hp, if_neg (fun hh => hh.2 h16)]
  · obtain ⟨_, ⟨p0, p1, pb, pf⟩⟩ := ht (h14 h16)
    rw [e3, e4, e1, g1, g3, p1]
    unfold F_counts at hc
    by_cases c3 : w 3 = b 2 0
    · by_cases c4 : w 4 = b 5 0
      · by_cases cb : (b 20 0 >>> (w 1 &&& 31)) &&& 1 = 0
        · exfalso
          have hpos : ¬ b 16 0 ≤ 0 := by
            rcases hph with e | e | e
            · exact absurd e h16
            · rw [e]
              decide
            · rw [e]
              decide
          rw [if_pos ⟨hpos, c3, c4, cb⟩] at hc
          exact absurd hc (by decide)
        · exact Or.inr (Or.inr (Or.inr cb))
      · exact Or.inr (Or.inr (Or.inl c4))
    · exact Or.inr (Or.inl c3)
theorem cnt_ne {b : nv} {w : Nat → Int32} (hc : ¬ F_counts b w = 0) : ¬ b 16 0 ≤ 0 ∧ w 3 = b 2 0 ∧ w 4 = b 5 0 ∧ (b 20 0 >>> (w 1 &&& 31)) &&& 1 = 0 := by
  unfold F_counts at hc
  by_cases h : ¬ b 16 0 ≤ 0 ∧ w 3 = b 2 0 ∧ w 4 = b 5 0 ∧ (b 20 0 >>> (w 1 &&& 31)) &&& 1 = 0
  · exact h
  · rw [if_neg h] at hc
    exact absurd rfl hc
theorem bestAll_k {b : nv} {w : Nat → Int32} {m k j : Nat} (h : k ≠ 27 ∧ k ≠ 28 ∧ k ≠ 29) : F_bestAll b w m k j = b k j := by
  induction m with
  | zero => rfl
  | succ m ih => rw [F_bestAll, best_k h, ih]
/-- a node's new best and top keep what a task holds -/
theorem BI_has {b X : nv} {i q : Nat} (hi : i < 8) (hq : q < 8) (hne : q ≠ i) (h : BI b i) (hX : ∀ k j, k ≠ 25 → k ≠ 26 → k ≠ 27 → k ≠ 28 → k ≠ 29 → X k j = b k j) (h25 : 0 ≤ X 25 0) : BI (un X 20 0 (b 20 0 ||| ((1 : Int32) <<< (nI q &&& 31)))) i := by
  obtain ⟨⟨hw, har, hv, h23, _, hbit, h15, h16, h14⟩, h1, h2, h3, h4⟩ := h
  have q' : ∀ k j, k ≠ 20 ∧ k ≠ 25 ∧ k ≠ 26 ∧ k ≠ 27 ∧ k ≠ 28 ∧ k ≠ 29 → (un X 20 0 (b 20 0 ||| ((1 : Int32) <<< (nI q &&& 31)))) k j = b k j := fun k j hk => by
    rw [un_nk hk.1, hX k j hk.2.1 hk.2.2.1 hk.2.2.2.1 hk.2.2.2.2.1 hk.2.2.2.2.2]
  have ea : ab (un X 20 0 (b 20 0 ||| ((1 : Int32) <<< (nI q &&& 31)))) = ab b := by
    unfold ab
    rw [q' 17 0 (by decide)]
  have eb : bs (un X 20 0 (b 20 0 ||| ((1 : Int32) <<< (nI q &&& 31)))) = bs b := by
    unfold bs
    rw [q' 24 0 (by decide)]
  refine ⟨⟨Wn_of hw (q' 17 0 (by decide)) (q' 24 0 (by decide)) (Or.inl (q' 15 0 (by decide))), ?_, fun x => ?_, ?_, ?_, ?_, ?_, ?_, ?_⟩, ?_, ?_, ?_, ?_⟩
  · obtain ⟨m, hm, em⟩ := har
    exact ⟨m, hm, by rw [q' 4 0 (by decide)]; exact em⟩
  · rw [q' 11 x (by decide), q' 12 x (by decide)]
    exact hv x
  · rw [q' 23 0 (by decide)]
    exact h23
  · rw [un_nk (by decide)]
    exact h25
  · rw [q' 19 0 (by decide), un_eq, or_bit_ne hi hq (Ne.symm hne)]
    exact hbit
  · rw [q' 15 0 (by decide)]
    exact h15
  · rw [q' 16 0 (by decide)]
    exact h16
  · rw [q' 14 0 (by decide)]
    exact h14
  · rw [q' 15 0 (by decide), ea, eb]
    exact h1
  · rw [q' 15 0 (by decide), q' 23 0 (by decide)]
    exact h2
  · rw [q' 15 0 (by decide), ea, q' 9 _ (by decide)]
    exact h3
  · rw [q' 15 0 (by decide), q' 22 0 (by decide)]
    exact h4
