/-! maps that come with a message -/
theorem chg_bh {b : nv} {w f x : Nat → Int32} : ∀ m, m ≤ 16 → (∀ k, k < 16 → f k = b 9 k ∧ x k = w (9 + 2 * k)) → chg b w m = bh f x m := by
  intro m
  induction m with
  | zero =>
    intro _ _
    rfl
  | succ m ih =>
    intro hm h
    obtain ⟨e1, e2⟩ := h m (by omega)
    rw [chg, bh, ih (by omega) h, e1, e2]
theorem RN_mrg {a b : nv} {w x y : Nat → Int32} (h : RN a b) (hx : ∀ k, k < 16 → x k = w (9 + 2 * k) ∧ y k = w (9 + 2 * k + 1)) : ∀ m, m ≤ 16 → RN (C_mrg a x y m) (F_mrg b w m) := by
  intro m
  induction m with
  | zero =>
    intro _
    exact h
  | succ m ih =>
    intro hm
    have i1 := ih (by omega)
    obtain ⟨e1, e2⟩ := hx m (by omega)
    obtain ⟨s6, _⟩ := i1.1.2.2.2.2.2.2.2.1 m (by omega)
    rw [C_mrg, F_mrg, s6, e1, e2]
    by_cases hc : (F_mrg b w m) 9 m < w (9 + 2 * m)
    · rw [if_pos hc, if_neg (Int32.not_le.mpr hc)]
      exact RN_s7 (RN_s6 i1)
    · rw [if_neg hc, if_pos (Int32.not_lt.mp hc)]
      exact i1
theorem mrg_9 {b : nv} {w : Nat → Int32} {k : Nat} : ∀ m, F_mrg b w m 9 k = if k < m ∧ b 9 k < w (9 + 2 * k) then w (9 + 2 * k) else b 9 k := by
  intro m
  induction m with
  | zero => rw [if_neg (by omega)]; rfl
  | succ m ih =>
    rw [F_mrg]
    have ihm : ∀ j, j = m → F_mrg b w m 9 j = b 9 j → True := fun _ _ _ => trivial
    by_cases e : k = m
    · subst e
      have e0 : F_mrg b w k 9 k = b 9 k := by
        rw [ih, if_neg (by omega)]
      rw [e0]
      by_cases hc : b 9 k < w (9 + 2 * k)
      · rw [if_pos hc, if_pos ⟨by omega, hc⟩, un_nk (by decide), un_eq]
      · rw [if_neg hc, if_neg (fun hh => hc hh.2), e0]
    · have e0 : (if F_mrg b w m 9 m < w (9 + 2 * m) then un (un (F_mrg b w m) 9 m (w (9 + 2 * m))) 10 m (w (9 + 2 * m + 1)) else F_mrg b w m) 9 k = F_mrg b w m 9 k := by
        split
        · rw [un_nk (by decide), un_nj e]
        · rfl
      rw [e0, ih]
      by_cases hc : k < m ∧ b 9 k < w (9 + 2 * k)
      · rw [if_pos hc, if_pos ⟨by omega, hc.2⟩]
      · rw [if_neg hc, if_neg (fun hh => hc ⟨by omega, hh.2⟩)]
theorem mrg_k {b : nv} {w : Nat → Int32} {m k j : Nat} (h : k ≠ 9 ∧ k ≠ 10) : F_mrg b w m k j = b k j := by
  induction m with
  | zero => rfl
  | succ m ih =>
    rw [F_mrg]
    split
    · rw [un_nk h.2, un_nk h.1, ih]
    · exact ih
theorem rtd_0 {b : nv} {w : Nat → Int32} : ∀ m, rtd b w m = 0 ↔ ∀ k, k < m → ¬ (¬ w (9 + 2 * k) ≤ b 9 k ∧ b 9 k = 1) := by
  intro m
  induction m with
  | zero => exact ⟨fun _ k hk => by omega, fun _ => rfl⟩
  | succ m ih =>
    rw [rtd]
    constructor
    · intro h k hk
      by_cases h0 : rtd b w m = 0
      · rw [if_pos h0] at h
        by_cases e : k = m
        · subst e
          rintro ⟨h1, h2⟩
          rw [if_neg h1, if_pos h2] at h
          exact absurd h (by decide)
        · exact (ih.mp h0) k (by omega)
      · rw [if_neg h0] at h
        exact absurd h (by decide)
    · intro h
      have h0 : rtd b w m = 0 := ih.mpr (fun k hk => h k (by omega))
      rw [if_pos h0]
      by_cases h1 : w (9 + 2 * m) ≤ b 9 m
      · rw [if_pos h1]
      · rw [if_neg h1]
        by_cases h2 : b 9 m = 1
        · exact absurd ⟨h1, h2⟩ (h m (by omega))
        · rw [if_neg h2]
theorem one_and : ∀ m, m < 16 → ∀ k, k < 16 → ((1 : Int32) <<< (nI m &&& 31)) &&& ((1 : Int32) <<< (nI k &&& 31)) = if m = k then (1 : Int32) <<< (nI k &&& 31) else 0 := by decide +kernel
theorem one_n0 : ∀ k, k < 16 → ¬ (1 : Int32) <<< (nI k &&& 31) = 0 := by decide
theorem and_or_l (x y z : Int32) : x &&& (y ||| z) = (x &&& y) ||| (x &&& z) := by
  apply Int32.toBitVec_inj.mp
  simp only [Int32.toBitVec_and, Int32.toBitVec_or]
  exact BitVec.and_or_distrib_left
theorem and_or_r (x y z : Int32) : (x ||| y) &&& z = (x &&& z) ||| (y &&& z) := by
  rw [Int32.and_comm, and_or_l, Int32.and_comm z x, Int32.and_comm z y]
theorem or_eq0 {x y : Int32} : x ||| y = 0 ↔ x = 0 ∧ y = 0 := by
  constructor
  · intro h
    have key : ∀ u v : Int32, u ||| v = 0 → u = 0 := by
      intro u v huv
      have e : u &&& (u ||| v) = u := by
        apply Int32.toBitVec_inj.mp
        simp only [Int32.toBitVec_and, Int32.toBitVec_or]
        apply BitVec.eq_of_getLsbD_eq
        intro i _
        simp only [BitVec.getLsbD_and, BitVec.getLsbD_or]
        cases u.toBitVec.getLsbD i <;> cases v.toBitVec.getLsbD i <;> rfl
      rw [huv, Int32.and_zero] at e
      exact e.symm
    exact ⟨key x y h, key y x (by rw [Int32.or_comm]; exact h)⟩
  · rintro ⟨h1, h2⟩
    rw [h1, h2]
    decide
theorem hav_and {f : Nat → Int32} {w : Int32} {k : Nat} (hk : k < 16) : ∀ m, m ≤ 16 → hav f w m &&& ((1 : Int32) <<< (nI k &&& 31)) = if k < m ∧ f k = w then (1 : Int32) <<< (nI k &&& 31) else 0 := by
  intro m
  induction m with
  | zero =>
    intro _
    rw [if_neg (by omega)]
    exact Int32.zero_and
  | succ m ih =>
    intro hm
    rw [hav]
    by_cases h : f m = w
    · rw [if_pos h, and_or_r, ih (by omega), one_and m (by omega) k hk]
      by_cases e : m = k
      · subst e
        rw [if_neg (fun hh => by omega), if_pos rfl, if_pos ⟨by omega, h⟩, Int32.zero_or]
      · rw [if_neg e, Int32.or_zero]
        by_cases h2 : k < m ∧ f k = w
        · rw [if_pos h2, if_pos ⟨by omega, h2.2⟩]
        · rw [if_neg h2, if_neg (fun hh => h2 ⟨by omega, hh.2⟩)]
    · rw [if_neg h, ih (by omega)]
      by_cases h2 : k < m ∧ f k = w
      · rw [if_pos h2, if_pos ⟨by omega, h2.2⟩]
      · rw [if_neg h2, if_neg]
        rintro ⟨h3, h4⟩
        by_cases e : k = m
        · subst e
          exact h h4
        · exact h2 ⟨by omega, h4⟩
theorem hav_hav {f e : Nat → Int32} {v w : Int32} : ∀ m, m ≤ 16 → (hav f v 16 &&& hav e w m = 0 ↔ ∀ k, k < m → ¬ (f k = v ∧ e k = w)) := by
  intro m
  induction m with
  | zero =>
    intro _
    exact ⟨fun _ k hk => by omega, fun _ => Int32.and_zero⟩
  | succ m ih =>
    intro hm
    rw [show hav e w (m + 1) = if e m = w then hav e w m ||| ((1 : Int32) <<< (nI m &&& 31)) else hav e w m from rfl]
    by_cases h : e m = w
    · rw [if_pos h, and_or_l, or_eq0, ih (by omega), hav_and (by omega) 16 (by decide)]
      constructor
      · rintro ⟨h1, h2⟩ k hk
        by_cases ek : k = m
        · subst ek
          rintro ⟨h3, _⟩
          rw [if_pos ⟨by omega, h3⟩] at h2
          exact one_n0 k (by omega) h2
        · exact h1 k (by omega)
      · intro hh
        refine ⟨fun k hk => hh k (by omega), ?_⟩
        rw [if_neg (fun hc => hh m (by omega) ⟨hc.2, h⟩)]
    · rw [if_neg h, ih (by omega)]
      constructor
      · intro hh k hk
        by_cases ek : k = m
        · subst ek
          exact fun hc => h hc.2
        · exact hh k (by omega)
      · intro hh k hk
        exact hh k (by omega)
/-- what the class finds RETIRED is what the reference finds RETIRED -/
theorem rtd_hav {a b : nv} {w : Nat → Int32} {f : Nat → Int32} (h9 : ∀ k, k < 16 → a 6 k = b 9 k) (hf : ∀ k, k < 16 → f k = F_mrg b w 16 9 k) (hw : ∀ k, k < 16 → w (9 + 2 * k) = 0 ∨ w (9 + 2 * k) = 1 ∨ w (9 + 2 * k) = 2) : (hav (a 6) 1 16 &&& hav f 2 16 = 0) ↔ rtd b w 16 = 0 := by
  rw [hav_hav 16 (by decide), rtd_0 16]
  have key : ∀ k, k < 16 → ((a 6 k = 1 ∧ f k = 2) ↔ (¬ w (9 + 2 * k) ≤ b 9 k ∧ b 9 k = 1)) := by
    intro k hk
    rw [h9 k hk, hf k hk, mrg_9 16]
    constructor
    · rintro ⟨e1, e2⟩
      by_cases hc : k < 16 ∧ b 9 k < w (9 + 2 * k)
      · exact ⟨Int32.not_le.mpr hc.2, e1⟩
      · rw [if_neg hc, e1] at e2
        exact absurd e2 (by decide)
    · rintro ⟨e1, e2⟩
      refine ⟨e2, ?_⟩
      rw [if_pos ⟨hk, Int32.not_le.mp e1⟩]
      rw [e2] at e1
      rcases hw k hk with e | e | e
      · rw [e] at e1
        exact absurd (by decide) e1
      · rw [e] at e1
        exact absurd (by decide) e1
      · exact e
  constructor
  · intro hh k hk hc
    exact hh k hk ((key k hk).mpr hc)
  · intro hh k hk hc
    exact hh k hk ((key k hk).mp hc)
