/-! the class's least -/
theorem lst_at {f : Nat → Int32} {i : Nat} (hi : i < 16) (h : f i = 1) (hh : ∀ j, j < i → ¬ f j = 1) : lst f 16 = nI i := by
  have key : ∀ m, m ≤ 16 → 16 - i ≤ m → lst f m = nI i := by
    intro m
    induction m with
    | zero =>
      intro _ h1
      omega
    | succ m ih =>
      intro h1 h2
      rw [lst]
      by_cases e : 15 - m = i
      · rw [e, if_pos h]
      · rw [if_neg (hh (15 - m) (by omega)), ih (by omega) (by omega)]
  exact key 16 (by decide) (by omega)
theorem lst_no {f : Nat → Int32} (hh : ∀ j, j < 16 → ¬ f j = 1) : lst f 16 = -1 := by
  have key : ∀ m, m ≤ 16 → lst f m = -1 := by
    intro m
    induction m with
    | zero =>
      intro _
      rfl
    | succ m ih =>
      intro h1
      rw [lst, if_neg (hh (15 - m) (by omega)), ih (by omega)]
  exact key 16 (by decide)
theorem y_lst {Q : Option Value → xH → Prop} {h : xH} {f : Nat → Int32} : w_Q_least Q (hav f 1 16) h ↔ Q (some (.int (lst f 16))) h := by
  unfold w_Q_least
  refine loop_iff3 (fun n (x : Int32) => w_Q_least_2 Q n (hav f 1 16) x h) (fun k => nI k) 16 _ (fun k => ∀ j, j < k → ¬ f j = 1) (fun _ => id) (fun j h1 => by omega) ?_ ?_
  · intro k hk hp
    have hx : ¬ (16 : Int32) ≤ nI k := by
      rw [show (16 : Int32) = nI 16 from rfl, nI_leI (by omega) (by omega)]
      omega
    by_cases h1 : f k = 1
    · right
      intro n
      have hb : ¬ ((hav f 1 16) >>> (nI k &&& 31)) &&& 1 = 0 := by
        rw [hav_bit16 hk]
        exact fun hc => hc h1
      rw [w_Q_least_2, s_Q_isIn, if_neg hb, lst_at hk h1 hp]
      simp [hx]
    · left
      have hb : ((hav f 1 16) >>> (nI k &&& 31)) &&& 1 = 0 := by
        rw [hav_bit16 hk]
        exact h1
      refine ⟨fun n => ?_, fun j h2 => ?_⟩
      · rw [w_Q_least_2, s_Q_isIn, if_pos hb, nI_1]
        simp [hx]
      · by_cases e : j = k
        · rw [e]
          exact h1
        · exact hp j (by omega)
  · intro hp n
    have hx : (16 : Int32) ≤ nI 16 := by decide
    rw [w_Q_least_2, lst_no hp]
    simp [hx]
