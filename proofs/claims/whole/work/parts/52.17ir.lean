/-! retire: class and reference -/
def cntq (f : Nat → Int32) : Nat → Nat
  | 0 => 0
  | k + 1 => cntq f k + (if f k = 1 then 1 else 0)
theorem cntq_le {f : Nat → Int32} : ∀ k, cntq f k ≤ k := by
  intro k
  induction k with
  | zero => exact Nat.le_refl _
  | succ k ih =>
    rw [cntq]
    split <;> omega
theorem cnt_mono {f : Nat → Int32} {k : Nat} : ∀ m, cntq f k ≤ cntq f (k + m) := by
  intro m
  induction m with
  | zero => exact Nat.le_refl _
  | succ m ih =>
    rw [show k + (m + 1) = (k + m) + 1 from rfl, cntq]
    omega
theorem mny_hav {f : Nat → Int32} : ∀ k, k ≤ 16 → mny (hav f 1 16) k = nI (cntq f k) := by
  intro k
  induction k with
  | zero => exact fun _ => rfl
  | succ k ih =>
    intro hk
    rw [mny, cntq, ih (by omega)]
    unfold bt
    rw [hav_bit 16 (Nat.le_refl _) k (by omega)]
    by_cases c : f k = 1
    · rw [if_pos ⟨by omega, c⟩, if_pos c, nI_1]
    · rw [if_neg (fun w => c w.2), if_neg c]
      exact Int32.add_zero _
/-- two indexes in force, or not -/
theorem cnt_two {f : Nat → Int32} {b : Nat} (hb : b < 16) (eb : f b = 1) (hh : ∀ j, b < j → j < 16 → ¬ f j = 1) : (2 ≤ cntq f 16) ↔ ¬ lst f 16 = gre f 16 := by
  have top : ∀ m, b + 1 + m ≤ 16 → cntq f (b + 1 + m) = cntq f (b + 1) := by
    intro m
    induction m with
    | zero => exact fun _ => rfl
    | succ m ih =>
      intro hm
      rw [show b + 1 + (m + 1) = (b + 1 + m) + 1 from rfl, cntq, ih (by omega), if_neg (hh _ (by omega) (by omega)), Nat.add_zero]
  have e16 : cntq f 16 = cntq f b + 1 := by
    have := top (16 - (b + 1)) (by omega)
    rw [show b + 1 + (16 - (b + 1)) = 16 by omega] at this
    rw [this, cntq, if_pos eb]
  have eg := gre_at hb eb hh
  constructor
  · intro h2 he
    have low : ∀ j, j < b → ¬ f j = 1 := by
      intro j hj hf
      have key : ∀ i, i ≤ j → f i = 1 → (∀ i', i' < i → ¬ f i' = 1) → False := by
        intro i hi hfi hlow
        have := lst_at (by omega) hfi hlow
        rw [this, eg, nI_eq (by omega) (by omega)] at he
        omega
      have ind : ∀ i, i ≤ j + 1 → ∀ i', i' < i → ¬ f i' = 1 := by
        intro i
        induction i with
        | zero => exact fun _ i' hi' => absurd hi' (Nat.not_lt_zero _)
        | succ i ih =>
          intro hi i' hi' hf'
          by_cases e : i' = i
          · rw [e] at hf'
            exact key i (by omega) hf' (ih (by omega))
          · exact ih (by omega) i' (by omega) hf'
      exact ind (j + 1) (Nat.le_refl _) j (by omega) hf
    have c0 : ∀ k, k ≤ b → cntq f k = 0 := by
      intro k
      induction k with
      | zero => exact fun _ => rfl
      | succ k ih =>
        intro hk
        rw [cntq, ih (by omega), if_neg (low k (by omega))]
    rw [e16, c0 b (Nat.le_refl _)] at h2
    omega
  · intro hne
    refine Classical.byContradiction (fun h2 => hne ?_)
    have c0 : cntq f b = 0 := by omega
    have low : ∀ j, j < b → ¬ f j = 1 := by
      intro j hj hf
      have h1 : cntq f (j + 1) ≤ cntq f b := by
        have := cnt_mono (f := f) (k := j + 1) (b - (j + 1))
        rw [show j + 1 + (b - (j + 1)) = b by omega] at this
        exact this
      rw [cntq, if_pos hf] at h1
      omega
    rw [lst_at hb eb low, eg]
/-- the indexes in force but for the greatest -/
theorem hav_old {f : Nat → Int32} {b : Nat} (hb : b < 16) (eb : f b = 1) (hh : ∀ j, b < j → j < 16 → ¬ f j = 1) : hav f 1 16 &&& (((1 : Int32) <<< (nI b &&& 31)) ^^^ (-1)) = oldW f b := by
  have top : ∀ m, b + 1 + m ≤ 16 → hav f 1 (b + 1 + m) = hav f 1 (b + 1) := by
    intro m
    induction m with
    | zero => exact fun _ => rfl
    | succ m ih =>
      intro hm
      rw [show b + 1 + (m + 1) = (b + 1 + m) + 1 from rfl, hav, if_neg (hh _ (by omega) (by omega)), ih (by omega)]
  have e16 : hav f 1 16 = hav f 1 b ||| ((1 : Int32) <<< (nI b &&& 31)) := by
    have := top (16 - (b + 1)) (by omega)
    rw [show b + 1 + (16 - (b + 1)) = 16 by omega] at this
    rw [this, hav, if_pos eb]
  have dis : ∀ j, j < 16 → ∀ k, k < 16 → j ≠ k → ((1 : Int32) <<< (nI j &&& 31)) &&& (((1 : Int32) <<< (nI k &&& 31)) ^^^ (-1)) = (1 : Int32) <<< (nI j &&& 31) := by decide +kernel
  have slf : ∀ k, k < 16 → ((1 : Int32) <<< (nI k &&& 31)) &&& (((1 : Int32) <<< (nI k &&& 31)) ^^^ (-1)) = 0 := by decide +kernel
  have low : ∀ k, k ≤ b → hav f 1 k &&& (((1 : Int32) <<< (nI b &&& 31)) ^^^ (-1)) = oldW f k := by
    intro k
    induction k with
    | zero => exact fun _ => Int32.zero_and
    | succ k ih =>
      intro hk
      rw [hav, oldW]
      by_cases c : f k = 1
      · rw [if_pos c, if_pos c, and_or_r, ih (by omega), dis k (by omega) b hb (by omega)]
      · rw [if_neg c, if_neg c, ih (by omega), Int32.or_zero]
  rw [e16, and_or_r, low b (Nat.le_refl _), slf b hb, Int32.or_zero]
