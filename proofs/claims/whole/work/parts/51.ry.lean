/-! the class's greatest -/
theorem gre_at {f : Nat → Int32} {i : Nat} (hi : i < 16) (h : f i = 1) (hh : ∀ j, i < j → j < 16 → ¬ f j = 1) : gre f 16 = nI i := by
  have key : ∀ m, m ≤ 16 → i < m → gre f m = nI i := by
    intro m
    induction m with
    | zero =>
      intro _ h1
      omega
    | succ m ih =>
      intro h1 h2
      rw [gre]
      by_cases e : m = i
      · rw [e, if_pos h]
      · rw [if_neg (hh m (by omega) (by omega)), ih (by omega) (by omega)]
  exact key 16 (by decide) hi
theorem y_gre {Q : Option Value → xH → Prop} {h : xH} {f : Nat → Int32} : w_Q_greatest Q (hav f 1 16) h ↔ Q (some (.int (gre f 16))) h := by
  unfold w_Q_greatest
  refine loop_iff3 (fun n (x : Int32) => w_Q_greatest_3 Q n (hav f 1 16) x h) (fun k => nI 15 - nI k) 16 _ (fun k => ∀ j, 16 - k ≤ j → j < 16 → ¬ f j = 1) (fun _ => id) (fun j h1 h2 => by omega) ?_ ?_
  · intro k hk hp
    have e1 : nI 15 - nI k = nI (15 - k) := pk_sub (by omega)
    have e2 : nI 15 - nI (k + 1) = nI (15 - k) + (-1) := by rw [show nI (k + 1) = nI k + 1 from (nI_1 k).symm, xsb1, e1]
    have hx : ¬ nI (15 - k) < 0 := nI_pos (by omega)
    by_cases h1 : f (15 - k) = 1
    · right
      intro n
      have hg : gre f 16 = nI (15 - k) := gre_at (by omega) h1 (fun j h2 h3 => hp j (by omega) h3)
      have hb : ¬ ((hav f 1 16) >>> (nI (15 - k) &&& 31)) &&& 1 = 0 := by
        rw [hav_bit16 (by omega)]
        exact fun hc => hc h1
      rw [e1, w_Q_greatest_3, s_Q_isIn, if_neg hb, hg]
      simp [hx]
    · left
      have hb : ((hav f 1 16) >>> (nI (15 - k) &&& 31)) &&& 1 = 0 := by
        rw [hav_bit16 (by omega)]
        exact h1
      refine ⟨fun n => ?_, fun j h2 h3 => ?_⟩
      · rw [e1, e2, w_Q_greatest_3, s_Q_isIn, if_pos hb]
        simp [hx]
      · by_cases e : j = 15 - k
        · rw [e]
          exact h1
        · exact hp j (by omega) h3
  · intro hp n
    have hg : gre f 16 = -1 := by
      rcases gre_some (f := f) 16 with h1 | ⟨i, h1, h2, h3, h4⟩
      · exact h1
      · exact absurd h3 (hp i (by omega) h1)
    have hx : nI 15 - nI 16 < 0 := by decide
    rw [w_Q_greatest_3, hg]
    simp [hx]
