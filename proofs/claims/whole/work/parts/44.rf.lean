/-! ask: class and reference -/
theorem or_bit {x y s : Int32} : ((x ||| y) >>> s) &&& 1 = ((x >>> s) &&& 1) ||| ((y >>> s) &&& 1) := by
  apply Int32.toBitVec_inj.mp
  simp only [Int32.toBitVec_and, Int32.toBitVec_or, Int32.toBitVec_shiftRight, BitVec.sshiftRight_eq', BitVec.sshiftRight_or_distrib]
  apply BitVec.eq_of_getLsbD_eq
  intro j _
  simp only [BitVec.getLsbD_and, BitVec.getLsbD_or]
  exact Bool.and_or_distrib_right _ _ _
theorem bit01 {x s : Int32} : (x >>> s) &&& 1 = 0 ∨ (x >>> s) &&& 1 = 1 := by
  obtain ⟨j, hj, e⟩ := pk_andE (x >>> s) (m := 1) 1 (by decide)
  rw [e]
  have hh : j = 0 ∨ j = 1 := by omega
  rcases hh with h | h <;> subst h
  · exact Or.inl rfl
  · exact Or.inr rfl
theorem or_bit_ne {x : Int32} {i k : Nat} (hi : i < 8) (hk : k < 8) (h : i ≠ k) : ((x ||| ((1 : Int32) <<< (nI k &&& 31))) >>> (nI i &&& 31)) &&& 1 = (x >>> (nI i &&& 31)) &&& 1 := by
  rw [or_bit, bit1n (by omega) (by omega) h, Int32.or_zero]
theorem or_bit_eq {x : Int32} {i : Nat} (hi : i < 8) : ((x ||| ((1 : Int32) <<< (nI i &&& 31))) >>> (nI i &&& 31)) &&& 1 = 1 := by
  rw [or_bit, bit1 i (by omega) i (by omega), if_pos rfl]
  rcases bit01 (x := x) (s := nI i &&& 31) with h | h <;> rw [h] <;> decide
/-- what the draft of a node's request holds -/
def DR (d b : nv) (i : Nat) : Prop := d 0 0 = rqk b ∧ d 0 1 = nI i ∧ d 0 3 = b 2 0 ∧ d 0 4 = b 5 0 ∧ d 0 5 = rq5 b ∧ (¬ rqk b = 3 → d 0 6 = rq6 b ∧ d 0 7 = rq7 b) ∧ (∀ q, q < 16 → d 2 q = b 9 q ∧ d 3 q = b 10 q) ∧ (b 16 0 = 2 → ∀ j, j < 4 → d 5 j = b 27 j ∧ d 6 j = b 28 j ∧ d 7 j = b 29 j)
/-- the same request -/
def SQ (b b' : nv) : Prop := b' 15 0 = b 15 0 ∧ b' 16 0 = b 16 0 ∧ b' 2 0 = b 2 0 ∧ b' 5 0 = b 5 0 ∧ b' 17 0 = b 17 0 ∧ b' 23 0 = b 23 0 ∧ b' 9 = b 9 ∧ b' 10 = b 10 ∧ (b 16 0 = 2 → b' 21 0 = b 21 0 ∧ b' 25 0 = b 25 0 ∧ b' 26 0 = b 26 0 ∧ b' 27 = b 27 ∧ b' 28 = b 28 ∧ b' 29 = b 29)
theorem SQ_refl {b : nv} : SQ b b := ⟨rfl, rfl, rfl, rfl, rfl, rfl, rfl, rfl, fun _ => ⟨rfl, rfl, rfl, rfl, rfl, rfl⟩⟩
theorem SQ_trans {b b' b'' : nv} (h : SQ b b') (h' : SQ b' b'') : SQ b b'' := by
  obtain ⟨a1, a2, a3, a4, a5, a6, a7, a8, a9⟩ := h
  obtain ⟨c1, c2, c3, c4, c5, c6, c7, c8, c9⟩ := h'
  refine ⟨c1.trans a1, c2.trans a2, c3.trans a3, c4.trans a4, c5.trans a5, c6.trans a6, c7.trans a7, c8.trans a8, fun h2 => ?_⟩
  obtain ⟨e1, e2, e3, e4, e5, e6⟩ := a9 h2
  obtain ⟨f1, f2, f3, f4, f5, f6⟩ := c9 (by rw [a2]; exact h2)
  exact ⟨f1.trans e1, f2.trans e2, f3.trans e3, f4.trans e4, f5.trans e5, f6.trans e6⟩
theorem SQ_isData {b b' : nv} (h : SQ b b') : F_isData b' = F_isData b := by
  unfold F_isData
  rw [h.1]
theorem SQ_ab {b b' : nv} (h : SQ b b') : ab b' = ab b := by
  unfold ab
  rw [h.2.2.2.2.1]
theorem SQ_k {b b' : nv} (h : SQ b b') : rqk b' = rqk b := by
  unfold rqk
  rw [SQ_isData h, h.1, h.2.1]
theorem SQ_5 {b b' : nv} (h : SQ b b') : rq5 b' = rq5 b := by
  unfold rq5
  rw [SQ_isData h, h.1, h.2.2.2.2.1]
theorem DR_SQ {d b b' : nv} {i : Nat} (hd : DR d b i) (hp : b 16 0 = 1 ∨ b 16 0 = 2) (h : SQ b b') : DR d b' i := by
  obtain ⟨d0, d1, d3, d4, d5, d6, d7, d8⟩ := hd
  have hk := SQ_k h
  obtain ⟨a1, a2, a3, a4, a5, a6, a7, a8, a9⟩ := id h
  refine ⟨by rw [hk]; exact d0, d1, by rw [a3]; exact d3, by rw [a4]; exact d4, by rw [SQ_5 h]; exact d5, fun hn => ?_, by rw [a7, a8]; exact d7, fun h2 => ?_⟩
  · rw [hk] at hn
    obtain ⟨z1, z2⟩ := d6 hn
    have hdd := SQ_isData h
    have hab := SQ_ab h
    rcases hp with h1 | h2
    · refine ⟨?_, ?_⟩
      · rw [z1]
        unfold rq6
        rw [hdd, a1, a2, a6, h1]
        simp only [if_true]
      · rw [z2]
        unfold rq7
        rw [hdd, a1, a2, h1]
        simp only [if_true]
    · obtain ⟨e1, e2, e3, e4, e5, e6⟩ := a9 h2
      refine ⟨?_, ?_⟩
      · rw [z1]
        unfold rq6
        rw [hdd, a1, a2, a6, e4, hab]
      · rw [z2]
        unfold rq7 F_chosen
        rw [hdd, a1, a2, e1, e2, e3, e5, hab]
  · rw [a2] at h2
    obtain ⟨e1, e2, e3, e4, e5, e6⟩ := a9 h2
    rw [e4, e5, e6]
    exact d8 h2
theorem rq3 {b : nv} (h : rqk b = 3) : ¬ F_isData b = 0 ∧ ¬ b 16 0 = 1 := by
  unfold rqk at h
  by_cases h1 : F_isData b = 0
  · exfalso
    rw [if_pos h1] at h
    by_cases h2 : b 15 0 = 3
    · rw [if_pos h2] at h
      by_cases h3 : b 16 0 = 1
      · rw [if_pos h3] at h
        exact absurd h (by decide)
      · rw [if_neg h3] at h
        exact absurd h (by decide)
    · rw [if_neg h2] at h
      by_cases h3 : b 16 0 = 1
      · rw [if_pos h3] at h
        exact absurd h (by decide)
      · rw [if_neg h3] at h
        exact absurd h (by decide)
  · rw [if_neg h1] at h
    by_cases h3 : b 16 0 = 1
    · rw [if_pos h3] at h
      exact absurd h (by decide)
    · exact ⟨h1, h3⟩
theorem rqk_v {b : nv} : rqk b = 1 ∨ rqk b = 3 ∨ rqk b = 5 ∨ rqk b = 7 ∨ rqk b = 10 ∨ rqk b = 12 := by
  unfold rqk
  by_cases h1 : F_isData b = 0 <;> by_cases h2 : b 15 0 = 3 <;> by_cases h3 : b 16 0 = 1 <;> simp [h1, h2, h3]
theorem rq12 {b : nv} (h : rqk b = 12) : F_isData b = 0 ∧ ¬ b 15 0 = 3 ∧ ¬ b 16 0 = 1 := by
  unfold rqk at h
  by_cases h1 : F_isData b = 0
  · rw [if_pos h1] at h
    by_cases h2 : b 15 0 = 3
    · rw [if_pos h2] at h
      by_cases h3 : b 16 0 = 1
      · rw [if_pos h3] at h
        exact absurd h (by decide)
      · rw [if_neg h3] at h
        exact absurd h (by decide)
    · rw [if_neg h2] at h
      by_cases h3 : b 16 0 = 1
      · rw [if_pos h3] at h
        exact absurd h (by decide)
      · exact ⟨h1, h2, h3⟩
  · rw [if_neg h1] at h
    by_cases h3 : b 16 0 = 1
    · rw [if_pos h3] at h
      exact absurd h (by decide)
    · rw [if_neg h3] at h
      exact absurd h (by decide)
theorem rq8_0 {b : nv} (h : ¬ rqk b = 3) : rq8 b = 0 := by
  unfold rq8
  by_cases h1 : F_isData b = 0
  · rw [if_pos h1]
  · rw [if_neg h1]
    by_cases h3 : b 16 0 = 1
    · rw [if_pos h3]
    · exfalso
      apply h
      unfold rqk
      rw [if_neg h1, if_neg h3]
theorem RM_req {d b : nv} {i : Nat} {x : Int32} {f : Nat → Int32} (hd : DR d b i) (hp : b 16 0 = 1 ∨ b 16 0 = 2) (hw : Wn b) : RM (un d 0 2 x) (sdm f b (rqk b) (nI i) x (b 2 0) (b 5 0) (rq5 b) (rq6 b) (rq7 b) (rq8 b) 0 (rqb b)) := by
  obtain ⟨d0, d1, d3, d4, d5, d6, d7, d8⟩ := hd
  have u5 : (un d 0 2 x) 5 = d 5 := un_nk1 (by decide)
  have u6 : (un d 0 2 x) 6 = d 6 := un_nk1 (by decide)
  have u7 : (un d 0 2 x) 7 = d 7 := un_nk1 (by decide)
  have u2 : (un d 0 2 x) 2 = d 2 := un_nk1 (by decide)
  have u3 : (un d 0 2 x) 3 = d 3 := un_nk1 (by decide)
  unfold RM
  rw [u5, u6, u7, u2, u3]
  refine ⟨fun j hj => ?_, fun q hq => ?_, fun hk => ?_, fun hk => ?_, fun hk => ?_⟩
  · have hh : j = 0 ∨ j = 1 ∨ j = 2 ∨ j = 3 ∨ j = 4 ∨ j = 5 := by omega
    rcases hh with h | h | h | h | h | h <;> subst h
    · rw [sdm_0, un_nj (by decide), d0]
    · rw [sdm_1, un_nj (by decide), d1]
    · rw [sdm_2, un_eq]
    · rw [sdm_3, un_nj (by decide), d3]
    · rw [sdm_4, un_nj (by decide), d4]
    · rw [sdm_5, un_nj (by decide), d5]
  · obtain ⟨e1, e2⟩ := sdm_m (f := f) (n := b) (c0 := rqk b) (c1 := nI i) (c2 := x) (c3 := b 2 0) (c4 := b 5 0) (c5 := rq5 b) (c6 := rq6 b) (c7 := rq7 b) (c8 := rq8 b) (ce := 0) (be := rqb b) hq
    rw [e1, e2]
    exact d7 q hq
  · rw [sdm_0] at hk
    have hk3 : rqk b = 3 := by
      rcases hk with h | h
      · rcases rqk_v (b := b) with e | e | e | e | e | e <;> rw [e] at h <;> exact absurd h (by decide)
      · exact h
    obtain ⟨q1, q2⟩ := rq3 hk3
    have h2 : b 16 0 = 2 := by
      rcases hp with h | h
      · exact absurd h q2
      · exact h
    have et : th (sdm f b (rqk b) (nI i) x (b 2 0) (b 5 0) (rq5 b) (rq6 b) (rq7 b) (rq8 b) 0 (rqb b)) = ab b := by
      unfold th
      rw [sdm_5]
      unfold rq5 ab
      rw [if_neg q1]
    rw [et, sdm_6, sdm_7, sdm_8]
    unfold rq6 rq7 rq8
    rw [if_neg q1, if_neg q2, if_neg q1, if_neg q2, if_neg q1, if_neg q2]
    exact d8 h2 (ab b) (hw.2.2.1 q1)
  · rw [sdm_0] at hk
    rw [sdm_6, sdm_7, sdm_8, un_nj (by decide), un_nj (by decide)]
    have hn : ¬ rqk b = 3 := fun e => hk (Or.inr e)
    obtain ⟨z1, z2⟩ := d6 hn
    exact ⟨z1, z2, rq8_0 hn⟩
  · rw [sdm_0] at hk
    have hk12 : rqk b = 12 := by
      rcases hk with h | h | h
      · rcases rqk_v (b := b) with e | e | e | e | e | e <;> rw [e] at h <;> exact absurd h (by decide)
      · exact h
      · rcases rqk_v (b := b) with e | e | e | e | e | e <;> rw [e] at h <;> exact absurd h (by decide)
    obtain ⟨q1, q2, q3⟩ := rq12 hk12
    have h2 : b 16 0 = 2 := by
      rcases hp with h | h
      · exact absurd h q3
      · exact h
    have eb : rqb b = 1 := by
      unfold rqb
      rw [if_pos q1, if_neg q2, if_pos h2]
    intro q hq
    obtain ⟨e1, e2, e3⟩ := sdm_c (f := f) (n := b) (c0 := rqk b) (c1 := nI i) (c2 := x) (c3 := b 2 0) (c4 := b 5 0) (c5 := rq5 b) (c6 := rq6 b) (c7 := rq7 b) (c8 := rq8 b) (ce := 0) (be := rqb b) hq
    rw [e1, e2, e3, eb]
    simp only [if_true, k10, if_false]
    exact d8 h2 q hq
