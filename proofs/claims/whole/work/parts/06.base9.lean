/-! locals that are forgotten -/
theorem xL.drop {b base : Nat} {ls : Array Slot} {lv : List (Option Value)} (h : xL b base ls lv) (j : Nat) : xL b base ls (lv.set j none) := by
  refine ⟨⟨by rw [List.length_set]; exact h.1.1, h.1.2.1, fun q hq => ?_⟩, fun v hv => ?_⟩
  · obtain ⟨k, v, h1, rfl⟩ := (xa_mem _ 0).mp hq
    by_cases hk : k = j
    · subst hk
      rw [List.getElem?_set] at h1
      simp at h1
    · rw [List.getElem?_set_ne (Ne.symm hk)] at h1
      exact h.1.2.2 _ ((xa_mem _ 0).mpr ⟨k, v, h1, rfl⟩)
  · rcases List.mem_or_eq_of_mem_set hv with h1 | h1
    · exact h.2 v h1
    · cases h1
theorem xs_drop {sc : List Int32} {μ : xM} {d kc ks pc : Nat} {lv lv' : List (Option Value)} {st : List Value} {h : xH} {Q : Option Value → xH → Prop} (j : Nat) (hl : lv.set j none = lv') (k : xW sc μ d kc ks pc lv' st h Q) : xW sc μ d kc ks pc lv st h Q := by
  intro D tys b base p l e R s m args below meth c C H locs cells slots ls QQ hl0 hR hS hc hs hf hlo K
  subst hl
  exact k D tys b base p l e R s m args below meth c C H locs cells slots ls QQ ⟨hl0.1.drop j, by rw [List.length_set]; exact hl0.2⟩ hR hS hc hs hf hlo K
