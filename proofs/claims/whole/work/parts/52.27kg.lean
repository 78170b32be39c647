/-! the reference's heap while it is made -/
def rix (k : Nat) : Nat := if k ≤ 13 then k else if k ≤ 29 then k + 1 else if k = 30 then 32 else 35
def rfl0 (r : Nat) : Nat → List Value
  | 0 => [.int 0, .null, .null, .null, .null, .null, .null, .null, .null, .null, .null, .null, .null, .null, .int 0, .null, .null, .null, .null, .null, .null, .null, .null, .null, .null, .null, .null, .null, .null, .null, .null, .int 0, .null, .int 0, .int 0, .null]
  | k + 1 => (rfl0 r k).set (rix (k + 1)) (.ref (r + (k + 1)))
def rq (r : Nat) (F : Nat → Option xE) (k : Nat) : xH := (r + k, fun j => if j = r then some (.inr (8, rfl0 r k)) else if r < j ∧ j ≤ r + k then some (.inl (0, .inl (List.replicate (rlen (j - r)) 0))) else F j)
theorem rfl0_len {r k : Nat} : (rfl0 r k).length = 36 := by
  induction k with
  | zero => rfl
  | succ k ih =>
    rw [rfl0, List.length_set]
    exact ih
theorem rix_lt {k : Nat} : rix (k + 1) < 36 ∨ 31 ≤ k := by
  unfold rix
  by_cases c : k < 31
  · left
    split
    · omega
    · split
      · omega
      · split <;> omega
  · omega
theorem rq_s {r n i k kc ks : Nat} {F : Nat → Option xE} {R : xH → Nat → Nat → Prop} (hk : k < 31) (hn : rlen (k + 1) = n) (hi : rix (k + 1) = i) (hR : R (rq r F (k + 1)) kc ks) : ∃ k3 k4, kc + 1 = k3 + 1 ∧ ks + n = k4 + n ∧ ∀ b2 h1, b2 = (rq r F k).1 + 1 → h1 = xn (rq r F k) (.inl (0, .inl (List.replicate n 0))) → ∃ f5, h1.2 r = some (.inr (8, f5)) ∧ i < f5.length ∧ ∀ h6, h6 = xu h1 r (.inr (8, f5.set i (.ref b2))) → R h6 k3 k4 := by
  refine ⟨kc, ks, rfl, rfl, ?_⟩
  intro b2 h1 eb eh
  have e1 : h1.2 r = some (.inr (8, rfl0 r k)) := by
    rw [eh, xn_n (by show r ≠ r + k + 1; omega)]
    exact if_pos rfl
  refine ⟨_, e1, ?_, ?_⟩
  · rw [rfl0_len, ← hi]
    have := rix_lt (k := k)
    omega
  · intro h6 e6
    have e : h6 = rq r F (k + 1) := by
      rw [e6, eh, eb]
      refine Prod.ext rfl (funext fun j => ?_)
      show (if j = r then _ else if j = r + k + 1 then _ else if j = r then _ else if r < j ∧ j ≤ r + k then _ else F j) = if j = r then some (.inr (8, rfl0 r (k + 1))) else if r < j ∧ j ≤ r + (k + 1) then some (.inl (0, .inl (List.replicate (rlen (j - r)) 0))) else F j
      by_cases c : j = r
      · rw [if_pos c, if_pos c, rfl0, hi]
        rfl
      · rw [if_neg c, if_neg c, if_neg c]
        by_cases c2 : j = r + k + 1
        · rw [if_pos c2, if_pos (by omega), show j - r = k + 1 by omega, hn]
        · rw [if_neg c2]
          by_cases c3 : r < j ∧ j ≤ r + k
          · rw [if_pos c3, if_pos (by omega)]
          · rw [if_neg c3, if_neg (by omega)]
    rw [e]
    exact hR
def rz : rA := (fun _ _ _ => 0, fun _ _ => 0, fun _ => 0, fun _ => 0)
theorem tt_rz : tt rz = (fun _ _ => 0, fun _ => 0) := by
  refine Prod.ext (funext fun k => funext fun i => ?_) (funext fun i => ?_)
  · unfold tt rz
    dsimp only
    split
    · rfl
    · split
      · rfl
      · split
        · rfl
        · split
          · rfl
          · split <;> rfl
  · unfold tt rz
    dsimp only
    split
    · rfl
    · rfl
theorem rAr_z {n : Nat} : rAr n (fun _ => 0) = List.replicate n 0 := by
  unfold rAr
  rw [List.map_const', List.length_range]
theorem rf_0 {r : Nat} : rfl0 r 0 = [.int 0, .null, .null, .null, .null, .null, .null, .null, .null, .null, .null, .null, .null, .null, .int 0, .null, .null, .null, .null, .null, .null, .null, .null, .null, .null, .null, .null, .null, .null, .null, .null, .int 0, .null, .int 0, .int 0, .null] := rfl
theorem rf_1 {r : Nat} : rfl0 r 1 = [.int 0, .ref (r + 1), .null, .null, .null, .null, .null, .null, .null, .null, .null, .null, .null, .null, .int 0, .null, .null, .null, .null, .null, .null, .null, .null, .null, .null, .null, .null, .null, .null, .null, .null, .int 0, .null, .int 0, .int 0, .null] := by
  rw [rfl0, rf_0]
  rfl
theorem rf_2 {r : Nat} : rfl0 r 2 = [.int 0, .ref (r + 1), .ref (r + 2), .null, .null, .null, .null, .null, .null, .null, .null, .null, .null, .null, .int 0, .null, .null, .null, .null, .null, .null, .null, .null, .null, .null, .null, .null, .null, .null, .null, .null, .int 0, .null, .int 0, .int 0, .null] := by
  rw [rfl0, rf_1]
  rfl
theorem rf_3 {r : Nat} : rfl0 r 3 = [.int 0, .ref (r + 1), .ref (r + 2), .ref (r + 3), .null, .null, .null, .null, .null, .null, .null, .null, .null, .null, .int 0, .null, .null, .null, .null, .null, .null, .null, .null, .null, .null, .null, .null, .null, .null, .null, .null, .int 0, .null, .int 0, .int 0, .null] := by
  rw [rfl0, rf_2]
  rfl
theorem rf_4 {r : Nat} : rfl0 r 4 = [.int 0, .ref (r + 1), .ref (r + 2), .ref (r + 3), .ref (r + 4), .null, .null, .null, .null, .null, .null, .null, .null, .null, .int 0, .null, .null, .null, .null, .null, .null, .null, .null, .null, .null, .null, .null, .null, .null, .null, .null, .int 0, .null, .int 0, .int 0, .null] := by
  rw [rfl0, rf_3]
  rfl
theorem rf_5 {r : Nat} : rfl0 r 5 = [.int 0, .ref (r + 1), .ref (r + 2), .ref (r + 3), .ref (r + 4), .ref (r + 5), .null, .null, .null, .null, .null, .null, .null, .null, .int 0, .null, .null, .null, .null, .null, .null, .null, .null, .null, .null, .null, .null, .null, .null, .null, .null, .int 0, .null, .int 0, .int 0, .null] := by
  rw [rfl0, rf_4]
  rfl
theorem rf_6 {r : Nat} : rfl0 r 6 = [.int 0, .ref (r + 1), .ref (r + 2), .ref (r + 3), .ref (r + 4), .ref (r + 5), .ref (r + 6), .null, .null, .null, .null, .null, .null, .null, .int 0, .null, .null, .null, .null, .null, .null, .null, .null, .null, .null, .null, .null, .null, .null, .null, .null, .int 0, .null, .int 0, .int 0, .null] := by
  rw [rfl0, rf_5]
  rfl
theorem rf_7 {r : Nat} : rfl0 r 7 = [.int 0, .ref (r + 1), .ref (r + 2), .ref (r + 3), .ref (r + 4), .ref (r + 5), .ref (r + 6), .ref (r + 7), .null, .null, .null, .null, .null, .null, .int 0, .null, .null, .null, .null, .null, .null, .null, .null, .null, .null, .null, .null, .null, .null, .null, .null, .int 0, .null, .int 0, .int 0, .null] := by
  rw [rfl0, rf_6]
  rfl
theorem rf_8 {r : Nat} : rfl0 r 8 = [.int 0, .ref (r + 1), .ref (r + 2), .ref (r + 3), .ref (r + 4), .ref (r + 5), .ref (r + 6), .ref (r + 7), .ref (r + 8), .null, .null, .null, .null, .null, .int 0, .null, .null, .null, .null, .null, .null, .null, .null, .null, .null, .null, .null, .null, .null, .null, .null, .int 0, .null, .int 0, .int 0, .null] := by
  rw [rfl0, rf_7]
  rfl
theorem rf_9 {r : Nat} : rfl0 r 9 = [.int 0, .ref (r + 1), .ref (r + 2), .ref (r + 3), .ref (r + 4), .ref (r + 5), .ref (r + 6), .ref (r + 7), .ref (r + 8), .ref (r + 9), .null, .null, .null, .null, .int 0, .null, .null, .null, .null, .null, .null, .null, .null, .null, .null, .null, .null, .null, .null, .null, .null, .int 0, .null, .int 0, .int 0, .null] := by
  rw [rfl0, rf_8]
  rfl
theorem rf_10 {r : Nat} : rfl0 r 10 = [.int 0, .ref (r + 1), .ref (r + 2), .ref (r + 3), .ref (r + 4), .ref (r + 5), .ref (r + 6), .ref (r + 7), .ref (r + 8), .ref (r + 9), .ref (r + 10), .null, .null, .null, .int 0, .null, .null, .null, .null, .null, .null, .null, .null, .null, .null, .null, .null, .null, .null, .null, .null, .int 0, .null, .int 0, .int 0, .null] := by
  rw [rfl0, rf_9]
  rfl
theorem rf_11 {r : Nat} : rfl0 r 11 = [.int 0, .ref (r + 1), .ref (r + 2), .ref (r + 3), .ref (r + 4), .ref (r + 5), .ref (r + 6), .ref (r + 7), .ref (r + 8), .ref (r + 9), .ref (r + 10), .ref (r + 11), .null, .null, .int 0, .null, .null, .null, .null, .null, .null, .null, .null, .null, .null, .null, .null, .null, .null, .null, .null, .int 0, .null, .int 0, .int 0, .null] := by
  rw [rfl0, rf_10]
  rfl
theorem rf_12 {r : Nat} : rfl0 r 12 = [.int 0, .ref (r + 1), .ref (r + 2), .ref (r + 3), .ref (r + 4), .ref (r + 5), .ref (r + 6), .ref (r + 7), .ref (r + 8), .ref (r + 9), .ref (r + 10), .ref (r + 11), .ref (r + 12), .null, .int 0, .null, .null, .null, .null, .null, .null, .null, .null, .null, .null, .null, .null, .null, .null, .null, .null, .int 0, .null, .int 0, .int 0, .null] := by
  rw [rfl0, rf_11]
  rfl
theorem rf_13 {r : Nat} : rfl0 r 13 = [.int 0, .ref (r + 1), .ref (r + 2), .ref (r + 3), .ref (r + 4), .ref (r + 5), .ref (r + 6), .ref (r + 7), .ref (r + 8), .ref (r + 9), .ref (r + 10), .ref (r + 11), .ref (r + 12), .ref (r + 13), .int 0, .null, .null, .null, .null, .null, .null, .null, .null, .null, .null, .null, .null, .null, .null, .null, .null, .int 0, .null, .int 0, .int 0, .null] := by
  rw [rfl0, rf_12]
  rfl
theorem rf_14 {r : Nat} : rfl0 r 14 = [.int 0, .ref (r + 1), .ref (r + 2), .ref (r + 3), .ref (r + 4), .ref (r + 5), .ref (r + 6), .ref (r + 7), .ref (r + 8), .ref (r + 9), .ref (r + 10), .ref (r + 11), .ref (r + 12), .ref (r + 13), .int 0, .ref (r + 14), .null, .null, .null, .null, .null, .null, .null, .null, .null, .null, .null, .null, .null, .null, .null, .int 0, .null, .int 0, .int 0, .null] := by
  rw [rfl0, rf_13]
  rfl
theorem rf_15 {r : Nat} : rfl0 r 15 = [.int 0, .ref (r + 1), .ref (r + 2), .ref (r + 3), .ref (r + 4), .ref (r + 5), .ref (r + 6), .ref (r + 7), .ref (r + 8), .ref (r + 9), .ref (r + 10), .ref (r + 11), .ref (r + 12), .ref (r + 13), .int 0, .ref (r + 14), .ref (r + 15), .null, .null, .null, .null, .null, .null, .null, .null, .null, .null, .null, .null, .null, .null, .int 0, .null, .int 0, .int 0, .null] := by
  rw [rfl0, rf_14]
  rfl
theorem rf_16 {r : Nat} : rfl0 r 16 = [.int 0, .ref (r + 1), .ref (r + 2), .ref (r + 3), .ref (r + 4), .ref (r + 5), .ref (r + 6), .ref (r + 7), .ref (r + 8), .ref (r + 9), .ref (r + 10), .ref (r + 11), .ref (r + 12), .ref (r + 13), .int 0, .ref (r + 14), .ref (r + 15), .ref (r + 16), .null, .null, .null, .null, .null, .null, .null, .null, .null, .null, .null, .null, .null, .int 0, .null, .int 0, .int 0, .null] := by
  rw [rfl0, rf_15]
  rfl
theorem rf_17 {r : Nat} : rfl0 r 17 = [.int 0, .ref (r + 1), .ref (r + 2), .ref (r + 3), .ref (r + 4), .ref (r + 5), .ref (r + 6), .ref (r + 7), .ref (r + 8), .ref (r + 9), .ref (r + 10), .ref (r + 11), .ref (r + 12), .ref (r + 13), .int 0, .ref (r + 14), .ref (r + 15), .ref (r + 16), .ref (r + 17), .null, .null, .null, .null, .null, .null, .null, .null, .null, .null, .null, .null, .int 0, .null, .int 0, .int 0, .null] := by
  rw [rfl0, rf_16]
  rfl
theorem rf_18 {r : Nat} : rfl0 r 18 = [.int 0, .ref (r + 1), .ref (r + 2), .ref (r + 3), .ref (r + 4), .ref (r + 5), .ref (r + 6), .ref (r + 7), .ref (r + 8), .ref (r + 9), .ref (r + 10), .ref (r + 11), .ref (r + 12), .ref (r + 13), .int 0, .ref (r + 14), .ref (r + 15), .ref (r + 16), .ref (r + 17), .ref (r + 18), .null, .null, .null, .null, .null, .null, .null, .null, .null, .null, .null, .int 0, .null, .int 0, .int 0, .null] := by
  rw [rfl0, rf_17]
  rfl
theorem rf_19 {r : Nat} : rfl0 r 19 = [.int 0, .ref (r + 1), .ref (r + 2), .ref (r + 3), .ref (r + 4), .ref (r + 5), .ref (r + 6), .ref (r + 7), .ref (r + 8), .ref (r + 9), .ref (r + 10), .ref (r + 11), .ref (r + 12), .ref (r + 13), .int 0, .ref (r + 14), .ref (r + 15), .ref (r + 16), .ref (r + 17), .ref (r + 18), .ref (r + 19), .null, .null, .null, .null, .null, .null, .null, .null, .null, .null, .int 0, .null, .int 0, .int 0, .null] := by
  rw [rfl0, rf_18]
  rfl
theorem rf_20 {r : Nat} : rfl0 r 20 = [.int 0, .ref (r + 1), .ref (r + 2), .ref (r + 3), .ref (r + 4), .ref (r + 5), .ref (r + 6), .ref (r + 7), .ref (r + 8), .ref (r + 9), .ref (r + 10), .ref (r + 11), .ref (r + 12), .ref (r + 13), .int 0, .ref (r + 14), .ref (r + 15), .ref (r + 16), .ref (r + 17), .ref (r + 18), .ref (r + 19), .ref (r + 20), .null, .null, .null, .null, .null, .null, .null, .null, .null, .int 0, .null, .int 0, .int 0, .null] := by
  rw [rfl0, rf_19]
  rfl
theorem rf_21 {r : Nat} : rfl0 r 21 = [.int 0, .ref (r + 1), .ref (r + 2), .ref (r + 3), .ref (r + 4), .ref (r + 5), .ref (r + 6), .ref (r + 7), .ref (r + 8), .ref (r + 9), .ref (r + 10), .ref (r + 11), .ref (r + 12), .ref (r + 13), .int 0, .ref (r + 14), .ref (r + 15), .ref (r + 16), .ref (r + 17), .ref (r + 18), .ref (r + 19), .ref (r + 20), .ref (r + 21), .null, .null, .null, .null, .null, .null, .null, .null, .int 0, .null, .int 0, .int 0, .null] := by
  rw [rfl0, rf_20]
  rfl
theorem rf_22 {r : Nat} : rfl0 r 22 = [.int 0, .ref (r + 1), .ref (r + 2), .ref (r + 3), .ref (r + 4), .ref (r + 5), .ref (r + 6), .ref (r + 7), .ref (r + 8), .ref (r + 9), .ref (r + 10), .ref (r + 11), .ref (r + 12), .ref (r + 13), .int 0, .ref (r + 14), .ref (r + 15), .ref (r + 16), .ref (r + 17), .ref (r + 18), .ref (r + 19), .ref (r + 20), .ref (r + 21), .ref (r + 22), .null, .null, .null, .null, .null, .null, .null, .int 0, .null, .int 0, .int 0, .null] := by
  rw [rfl0, rf_21]
  rfl
theorem rf_23 {r : Nat} : rfl0 r 23 = [.int 0, .ref (r + 1), .ref (r + 2), .ref (r + 3), .ref (r + 4), .ref (r + 5), .ref (r + 6), .ref (r + 7), .ref (r + 8), .ref (r + 9), .ref (r + 10), .ref (r + 11), .ref (r + 12), .ref (r + 13), .int 0, .ref (r + 14), .ref (r + 15), .ref (r + 16), .ref (r + 17), .ref (r + 18), .ref (r + 19), .ref (r + 20), .ref (r + 21), .ref (r + 22), .ref (r + 23), .null, .null, .null, .null, .null, .null, .int 0, .null, .int 0, .int 0, .null] := by
  rw [rfl0, rf_22]
  rfl
theorem rf_24 {r : Nat} : rfl0 r 24 = [.int 0, .ref (r + 1), .ref (r + 2), .ref (r + 3), .ref (r + 4), .ref (r + 5), .ref (r + 6), .ref (r + 7), .ref (r + 8), .ref (r + 9), .ref (r + 10), .ref (r + 11), .ref (r + 12), .ref (r + 13), .int 0, .ref (r + 14), .ref (r + 15), .ref (r + 16), .ref (r + 17), .ref (r + 18), .ref (r + 19), .ref (r + 20), .ref (r + 21), .ref (r + 22), .ref (r + 23), .ref (r + 24), .null, .null, .null, .null, .null, .int 0, .null, .int 0, .int 0, .null] := by
  rw [rfl0, rf_23]
  rfl
theorem rf_25 {r : Nat} : rfl0 r 25 = [.int 0, .ref (r + 1), .ref (r + 2), .ref (r + 3), .ref (r + 4), .ref (r + 5), .ref (r + 6), .ref (r + 7), .ref (r + 8), .ref (r + 9), .ref (r + 10), .ref (r + 11), .ref (r + 12), .ref (r + 13), .int 0, .ref (r + 14), .ref (r + 15), .ref (r + 16), .ref (r + 17), .ref (r + 18), .ref (r + 19), .ref (r + 20), .ref (r + 21), .ref (r + 22), .ref (r + 23), .ref (r + 24), .ref (r + 25), .null, .null, .null, .null, .int 0, .null, .int 0, .int 0, .null] := by
  rw [rfl0, rf_24]
  rfl
theorem rf_26 {r : Nat} : rfl0 r 26 = [.int 0, .ref (r + 1), .ref (r + 2), .ref (r + 3), .ref (r + 4), .ref (r + 5), .ref (r + 6), .ref (r + 7), .ref (r + 8), .ref (r + 9), .ref (r + 10), .ref (r + 11), .ref (r + 12), .ref (r + 13), .int 0, .ref (r + 14), .ref (r + 15), .ref (r + 16), .ref (r + 17), .ref (r + 18), .ref (r + 19), .ref (r + 20), .ref (r + 21), .ref (r + 22), .ref (r + 23), .ref (r + 24), .ref (r + 25), .ref (r + 26), .null, .null, .null, .int 0, .null, .int 0, .int 0, .null] := by
  rw [rfl0, rf_25]
  rfl
theorem rf_27 {r : Nat} : rfl0 r 27 = [.int 0, .ref (r + 1), .ref (r + 2), .ref (r + 3), .ref (r + 4), .ref (r + 5), .ref (r + 6), .ref (r + 7), .ref (r + 8), .ref (r + 9), .ref (r + 10), .ref (r + 11), .ref (r + 12), .ref (r + 13), .int 0, .ref (r + 14), .ref (r + 15), .ref (r + 16), .ref (r + 17), .ref (r + 18), .ref (r + 19), .ref (r + 20), .ref (r + 21), .ref (r + 22), .ref (r + 23), .ref (r + 24), .ref (r + 25), .ref (r + 26), .ref (r + 27), .null, .null, .int 0, .null, .int 0, .int 0, .null] := by
  rw [rfl0, rf_26]
  rfl
theorem rf_28 {r : Nat} : rfl0 r 28 = [.int 0, .ref (r + 1), .ref (r + 2), .ref (r + 3), .ref (r + 4), .ref (r + 5), .ref (r + 6), .ref (r + 7), .ref (r + 8), .ref (r + 9), .ref (r + 10), .ref (r + 11), .ref (r + 12), .ref (r + 13), .int 0, .ref (r + 14), .ref (r + 15), .ref (r + 16), .ref (r + 17), .ref (r + 18), .ref (r + 19), .ref (r + 20), .ref (r + 21), .ref (r + 22), .ref (r + 23), .ref (r + 24), .ref (r + 25), .ref (r + 26), .ref (r + 27), .ref (r + 28), .null, .int 0, .null, .int 0, .int 0, .null] := by
  rw [rfl0, rf_27]
  rfl
theorem rf_29 {r : Nat} : rfl0 r 29 = [.int 0, .ref (r + 1), .ref (r + 2), .ref (r + 3), .ref (r + 4), .ref (r + 5), .ref (r + 6), .ref (r + 7), .ref (r + 8), .ref (r + 9), .ref (r + 10), .ref (r + 11), .ref (r + 12), .ref (r + 13), .int 0, .ref (r + 14), .ref (r + 15), .ref (r + 16), .ref (r + 17), .ref (r + 18), .ref (r + 19), .ref (r + 20), .ref (r + 21), .ref (r + 22), .ref (r + 23), .ref (r + 24), .ref (r + 25), .ref (r + 26), .ref (r + 27), .ref (r + 28), .ref (r + 29), .int 0, .null, .int 0, .int 0, .null] := by
  rw [rfl0, rf_28]
  rfl
theorem rf_30 {r : Nat} : rfl0 r 30 = [.int 0, .ref (r + 1), .ref (r + 2), .ref (r + 3), .ref (r + 4), .ref (r + 5), .ref (r + 6), .ref (r + 7), .ref (r + 8), .ref (r + 9), .ref (r + 10), .ref (r + 11), .ref (r + 12), .ref (r + 13), .int 0, .ref (r + 14), .ref (r + 15), .ref (r + 16), .ref (r + 17), .ref (r + 18), .ref (r + 19), .ref (r + 20), .ref (r + 21), .ref (r + 22), .ref (r + 23), .ref (r + 24), .ref (r + 25), .ref (r + 26), .ref (r + 27), .ref (r + 28), .ref (r + 29), .int 0, .ref (r + 30), .int 0, .int 0, .null] := by
  rw [rfl0, rf_29]
  rfl
theorem rf_31 {r : Nat} : rfl0 r 31 = [.int 0, .ref (r + 1), .ref (r + 2), .ref (r + 3), .ref (r + 4), .ref (r + 5), .ref (r + 6), .ref (r + 7), .ref (r + 8), .ref (r + 9), .ref (r + 10), .ref (r + 11), .ref (r + 12), .ref (r + 13), .int 0, .ref (r + 14), .ref (r + 15), .ref (r + 16), .ref (r + 17), .ref (r + 18), .ref (r + 19), .ref (r + 20), .ref (r + 21), .ref (r + 22), .ref (r + 23), .ref (r + 24), .ref (r + 25), .ref (r + 26), .ref (r + 27), .ref (r + 28), .ref (r + 29), .int 0, .ref (r + 30), .int 0, .int 0, .ref (r + 31)] := by
  rw [rfl0, rf_30]
  rfl
theorem rq_rl {r : Nat} {F : Nat → Option xE} : rq r F 31 = rl r (r + 31, F) (tt rz) := by
  rw [tt_rz]
  refine Prod.ext rfl (funext fun j => ?_)
  show (if j = r then some (.inr (8, rfl0 r 31)) else if r < j ∧ j ≤ r + 31 then some (.inl (0, .inl (List.replicate (rlen (j - r)) 0))) else F j) = if r ≤ j ∧ j ≤ r + 31 then some (rc r (fun _ _ => 0, fun _ => 0) (j - r)) else F j
  by_cases c : j = r
  · rw [if_pos c, if_pos (by omega), c, Nat.sub_self, rf_31]
    rfl
  · rw [if_neg c]
    by_cases c2 : r < j ∧ j ≤ r + 31
    · rw [if_pos c2, if_pos (by omega)]
      unfold rc
      rw [if_neg (by omega), rAr_z]
    · rw [if_neg c2, if_neg (by omega)]
def szR (p m : Int32) : Int32 := if 1 ≤ p then (if p ≤ m then p else m) else 1
theorem szR_I {p m : Int32} (hm : 1 ≤ m) : szR p m = szI p m := by
  unfold szR szI
  by_cases c : 1 ≤ p
  · rw [if_pos c]
    by_cases c2 : p ≤ m
    · have c3 : ¬ m < p := Int32.not_lt.mpr c2
      rw [if_pos c2, if_neg c3]
      by_cases c4 : 1 < p
      · rw [if_pos c4]
      · rw [if_neg c4]
        exact Int32.le_antisymm (Int32.not_lt.mp c4) c
    · have c3 : m < p := Int32.not_le.mp c2
      rw [if_neg c2, if_pos c3]
      by_cases c4 : 1 < m
      · rw [if_pos c4]
      · rw [if_neg c4]
        exact Int32.le_antisymm (Int32.not_lt.mp c4) hm
  · rw [if_neg c]
    have c1 : p < 1 := Int32.not_le.mp c
    have c3 : ¬ m < p := Int32.not_lt.mpr (Int32.le_trans (Int32.le_of_lt c1) hm)
    rw [if_neg c3, if_neg (fun z => absurd (Int32.lt_trans z c1) Int32.lt_irrefl)]
/-- nodes as the reference's constructor leaves them -/
def rndq (M : Nat) (F : Int32) (k : Nat) (n : nv) : nv := if k < M then un (un (un (un n 2 0 1) 1 0 1) 9 0 1) 10 0 F else un n 2 0 1
def rk (M : Nat) (F : Int32) : Nat → rA
  | 0 => rz
  | k + 1 => pN (rk M F k) k (rndq M F k ((rk M F k).1 k))
theorem tt_u9z {a : rA} {p : Nat} {v : Int32} : sF (tt a) 9 (up1 ((tt a).1 9) (16 * p) v) = tt (pN a p (un (a.1 p) 9 0 v)) := tt_u9 (p := p) (j := 0) (by decide)
theorem tt_u10z {a : rA} {p : Nat} {v : Int32} : sF (tt a) 10 (up1 ((tt a).1 10) (16 * p) v) = tt (pN a p (un (a.1 p) 10 0 v)) := tt_u10 (p := p) (j := 0) (by decide)
set_option maxRecDepth 100000 in
theorem t_M356 {Q : Option Value → xH → Prop} {g : xH} {M : Nat} {l1 l2 l3 l5 l6 : Int32} {kc ks : Nat} (hM : M ≤ 8) (hQ : Q none (rl 1125 g (tt (rk M (cf0 (nI M) l5 l6) 8)))) : ∀ d k, k + d = 8 → w_M_init_356 Q (d + 1) 1125 l1 l2 l3 (nI M) l5 l6 (nI k) (rl 1125 g (tt (rk M (cf0 (nI M) l5 l6) k))) kc ks := by
  intro d
  induction d with
  | zero =>
    intro k hk
    have e : k = 8 := by omega
    subst e
    rw [w_M_init_356]
    exact ⟨fun _ => hQ, fun z => absurd (by decide) z⟩
  | succ d ih =>
    intro k hk
    have hk8 : k < 8 := by omega
    have ih' := ih (k + 1) (by omega)
    rw [rk] at ih'
    generalize rk M (cf0 (nI M) l5 l6) k = a at ih' ⊢
    have e16 : (16 : Int32) * nI k = nI (16 * k) := ix16a k
    rw [w_M_init_356]
    refine ⟨fun z => absurd z (lt8 hk8), fun _ => ⟨_, _, rl_r, ro_2, _, rl_k2, nI_nn (by omega), by rw [nI_cl (by omega), rAr_len]; exact hk8, ?_⟩⟩
    intro h4 e4
    rw [nI_cl (by omega), rAr_set, rl_s2, tt_u2] at e4
    subst e4
    refine ⟨fun z => ?_, fun z => ?_⟩
    · have hkM : k < M := by
        rw [nI_ltI (by omega) (by omega)] at z
        exact z
      refine ⟨_, _, rl_r, ro_1, _, rl_k1, nI_nn (by omega), by rw [nI_cl (by omega), rAr_len]; exact hk8, ?_⟩
      intro h8 e8
      rw [nI_cl (by omega), rAr_set, rl_s1, tt_u1] at e8
      subst e8
      refine ⟨_, _, rl_r, ro_9, _, rl_k9, by rw [e16]; exact nI_nn (by omega), by rw [e16, nI_cl (by omega), rAr_len]; omega, ?_⟩
      intro h12 e12
      rw [e16, nI_cl (by omega), rAr_set, rl_s9, tt_u9z] at e12
      subst e12
      refine ⟨_, _, rl_r, ro_10, _, rl_k10, by rw [e16]; exact nI_nn (by omega), by rw [e16, nI_cl (by omega), rAr_len]; omega, ?_⟩
      intro h16 e16'
      rw [e16, nI_cl (by omega), rAr_set, rl_s10, tt_u10z] at e16'
      subst e16'
      unfold w_M_init_430
      rw [nI_1]
      unfold rndq at ih'
      rw [if_pos hkM] at ih'
      simp only [pN_eq, pN_pN]
      exact ih'
    · have hkM : ¬ k < M := by
        rw [nI_ltI (by omega) (by omega)] at z
        exact z
      unfold w_M_init_430
      rw [nI_1]
      unfold rndq at ih'
      rw [if_neg hkM] at ih'
      exact ih'
set_option maxRecDepth 100000 in
theorem t_Minit {Q : Option Value → xH → Prop} {F : Nat → Option xE} {M : Nat} {p1 p2 p3 : Int32} {kc ks : Nat} (hM : nnI p1 = nI M) (hM8 : M ≤ 8) (hM1 : 1 ≤ M) (hQ : Q none (rl 1125 (1156, F) (tt (rk M (ffI p1 p2 p3) 8)))) : w_M_init Q 1125 p1 p2 p3 (rq 1125 F 0) (kc + 31) (ks + 7389) := by
  have hm1 : (1 : Int32) ≤ nI M := by
    rw [show (1 : Int32) = nI 1 from rfl, nI_leI (by omega) (by omega)]
    exact hM1
  have hF : ffI p1 p2 p3 = cf0 (nI M) (szI p2 (nI M)) (szW (szI p3 (nI M)) (nI M) (szI p2 (nI M))) := by
    unfold ffI
    rw [hM]
  have key : ∀ kc ks, w_M_init_279 Q 1125 p1 p2 p3 (nI M) (rl 1125 (1156, F) (tt rz)) kc ks := by
    intro kc ks
    have k351 : ∀ r w0, r = szI p2 (nI M) → w0 = szI p3 (nI M) → w_M_init_325 Q 1125 p1 p2 p3 (nI M) r w0 (rl 1125 (1156, F) (tt rz)) kc ks := by
      intro r w0 er ew
      unfold w_M_init_325 w_M_init_351
      have loop : ∀ x, x = szW w0 (nI M) r → ∃ n1, w_M_init_356 Q n1 1125 p1 p2 p3 (nI M) r x 0 (rl 1125 (1156, F) (tt rz)) kc ks := by
        intro x ex
        refine ⟨9, t_M356 (M := M) hM8 ?_ 8 0 rfl⟩
        rw [ex, er, ew, ← hF]
        exact hQ
      refine ⟨fun z => loop _ ?_, fun z => loop _ ?_⟩
      · unfold szW
        rw [if_neg (Int32.not_lt.mpr z)]
      · unfold szW
        rw [if_pos (Int32.not_le.mp z)]
    have k302 : ∀ r, r = szI p2 (nI M) → w_M_init_302 Q 1125 p1 p2 p3 (nI M) r (rl 1125 (1156, F) (tt rz)) kc ks := by
      intro r er
      have e := szR_I (p := p3) hm1
      unfold szR at e
      unfold w_M_init_302
      refine ⟨fun z => ⟨fun y => k351 _ _ er ?_, fun y => k351 _ _ er ?_⟩, fun z => k351 _ _ er ?_⟩
      · rw [← e, if_pos z, if_pos y]
      · rw [← e, if_pos z, if_neg y]
      · rw [← e, if_neg z]
    have e := szR_I (p := p2) hm1
    unfold szR at e
    unfold w_M_init_279
    refine ⟨fun z => ⟨fun y => k302 _ ?_, fun y => k302 _ ?_⟩, fun z => k302 _ ?_⟩
    · rw [← e, if_pos z, if_pos y]
    · rw [← e, if_pos z, if_neg y]
    · rw [← e, if_neg z]
  unfold w_M_init
  refine rq_s (k := 0) (n := 8) (i := 1) (kc := kc + 30) (ks := ks + 7381) (by decide) (by decide) (by decide) ?_
  refine rq_s (k := 1) (n := 8) (i := 2) (kc := kc + 29) (ks := ks + 7373) (by decide) (by decide) (by decide) ?_
  refine rq_s (k := 2) (n := 8) (i := 3) (kc := kc + 28) (ks := ks + 7365) (by decide) (by decide) (by decide) ?_
  refine rq_s (k := 3) (n := 8) (i := 4) (kc := kc + 27) (ks := ks + 7357) (by decide) (by decide) (by decide) ?_
  refine rq_s (k := 4) (n := 8) (i := 5) (kc := kc + 26) (ks := ks + 7349) (by decide) (by decide) (by decide) ?_
  refine rq_s (k := 5) (n := 32) (i := 6) (kc := kc + 25) (ks := ks + 7317) (by decide) (by decide) (by decide) ?_
  refine rq_s (k := 6) (n := 32) (i := 7) (kc := kc + 24) (ks := ks + 7285) (by decide) (by decide) (by decide) ?_
  refine rq_s (k := 7) (n := 32) (i := 8) (kc := kc + 23) (ks := ks + 7253) (by decide) (by decide) (by decide) ?_
  refine rq_s (k := 8) (n := 128) (i := 9) (kc := kc + 22) (ks := ks + 7125) (by decide) (by decide) (by decide) ?_
  refine rq_s (k := 9) (n := 128) (i := 10) (kc := kc + 21) (ks := ks + 6997) (by decide) (by decide) (by decide) ?_
  refine rq_s (k := 10) (n := 128) (i := 11) (kc := kc + 20) (ks := ks + 6869) (by decide) (by decide) (by decide) ?_
  unfold w_M_init_95
  refine rq_s (k := 11) (n := 128) (i := 12) (kc := kc + 19) (ks := ks + 6741) (by decide) (by decide) (by decide) ?_
  refine rq_s (k := 12) (n := 128) (i := 13) (kc := kc + 18) (ks := ks + 6613) (by decide) (by decide) (by decide) ?_
  refine rq_s (k := 13) (n := 8) (i := 15) (kc := kc + 17) (ks := ks + 6605) (by decide) (by decide) (by decide) ?_
  refine rq_s (k := 14) (n := 8) (i := 16) (kc := kc + 16) (ks := ks + 6597) (by decide) (by decide) (by decide) ?_
  refine rq_s (k := 15) (n := 8) (i := 17) (kc := kc + 15) (ks := ks + 6589) (by decide) (by decide) (by decide) ?_
  refine rq_s (k := 16) (n := 8) (i := 18) (kc := kc + 14) (ks := ks + 6581) (by decide) (by decide) (by decide) ?_
  refine rq_s (k := 17) (n := 8) (i := 19) (kc := kc + 13) (ks := ks + 6573) (by decide) (by decide) (by decide) ?_
  refine rq_s (k := 18) (n := 8) (i := 20) (kc := kc + 12) (ks := ks + 6565) (by decide) (by decide) (by decide) ?_
  refine rq_s (k := 19) (n := 8) (i := 21) (kc := kc + 11) (ks := ks + 6557) (by decide) (by decide) (by decide) ?_
  refine rq_s (k := 20) (n := 8) (i := 22) (kc := kc + 10) (ks := ks + 6549) (by decide) (by decide) (by decide) ?_
  refine rq_s (k := 21) (n := 8) (i := 23) (kc := kc + 9) (ks := ks + 6541) (by decide) (by decide) (by decide) ?_
  refine rq_s (k := 22) (n := 8) (i := 24) (kc := kc + 8) (ks := ks + 6533) (by decide) (by decide) (by decide) ?_
  unfold w_M_init_193
  refine rq_s (k := 23) (n := 8) (i := 25) (kc := kc + 7) (ks := ks + 6525) (by decide) (by decide) (by decide) ?_
  refine rq_s (k := 24) (n := 8) (i := 26) (kc := kc + 6) (ks := ks + 6517) (by decide) (by decide) (by decide) ?_
  refine rq_s (k := 25) (n := 8) (i := 27) (kc := kc + 5) (ks := ks + 6509) (by decide) (by decide) (by decide) ?_
  refine rq_s (k := 26) (n := 32) (i := 28) (kc := kc + 4) (ks := ks + 6477) (by decide) (by decide) (by decide) ?_
  refine rq_s (k := 27) (n := 32) (i := 29) (kc := kc + 3) (ks := ks + 6445) (by decide) (by decide) (by decide) ?_
  refine rq_s (k := 28) (n := 32) (i := 30) (kc := kc + 2) (ks := ks + 6413) (by decide) (by decide) (by decide) ?_
  refine rq_s (k := 29) (n := 6360) (i := 32) (kc := kc + 1) (ks := ks + 53) (by decide) (by decide) (by decide) ?_
  refine rq_s (k := 30) (n := 53) (i := 35) (kc := kc + 0) (ks := ks + 0) (by decide) (by decide) (by decide) ?_
  have e31 : rq 1125 F (30 + 1) = rl 1125 (1156, F) (tt rz) := rq_rl
  rw [e31]
  have e := szR_I (p := p1) (m := 8) (by decide)
  unfold szR at e
  unfold nnI at hM
  rw [← e] at hM
  refine ⟨fun z => ⟨fun y => ?_, fun y => ?_⟩, fun z => ?_⟩
  · rw [if_pos z, if_pos y] at hM
    have := key (kc + 0) (ks + 0)
    rw [← hM] at this
    exact this
  · rw [if_pos z, if_neg y] at hM
    have := key (kc + 0) (ks + 0)
    rw [← hM] at this
    exact this
  · rw [if_neg z] at hM
    have := key (kc + 0) (ks + 0)
    rw [← hM] at this
    exact this
