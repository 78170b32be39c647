/-! messages and nodes as the constructors make them -/
section BLK
variable {F G : Nat → Option xE} {n m j : Nat} {l l' : List xE} {e : xE}
theorem blk_cons : blq F n (e :: l) j = if j = n then some e else blq F (n + 1) l j := by
  by_cases c : j = n
  · rw [if_pos c, c, blk_0 (by simp)]
    rfl
  · rw [if_neg c]
    unfold blq
    by_cases c2 : n + 1 ≤ j ∧ j < n + 1 + l.length
    · rw [if_pos ⟨by omega, by simp only [List.length_cons]; omega⟩, if_pos c2]
      have e1 : j - n = (j - (n + 1)) + 1 := by omega
      rw [e1]
      rfl
    · rw [if_neg c2, if_neg (by simp only [List.length_cons]; omega)]
theorem blk_cg (h : ¬ (n ≤ j ∧ j < n + l.length) → F j = G j) : blq F n l j = blq G n l j := by
  unfold blq
  by_cases c : n ≤ j ∧ j < n + l.length
  · rw [if_pos c, if_pos c]
  · rw [if_neg c, if_neg c]
    exact h c
theorem blk_app : blq F n (l ++ l') = blq (blq F n l) (n + l.length) l' := by
  funext j
  unfold blq
  by_cases c : n + l.length ≤ j ∧ j < n + l.length + l'.length
  · rw [if_pos c, if_pos ⟨by omega, by simp only [List.length_append]; omega⟩, List.getElem?_append_right (by omega)]
    congr 1
    omega
  · rw [if_neg c]
    by_cases c2 : n ≤ j ∧ j < n + l.length
    · rw [if_pos c2, if_pos ⟨by omega, by simp only [List.length_append]; omega⟩, List.getElem?_append_left (by omega)]
    · rw [if_neg c2, if_neg (by simp only [List.length_append]; omega)]
theorem blk_nil : blq F n [] j = F j := by
  unfold blq
  rw [if_neg (by simp only [List.length_nil]; omega)]
end BLK
theorem coC_len {n : Nat} : (coC n).length = 4 := rfl
theorem seC_len {n : Nat} : (seC n).length = 3 := rfl
theorem voC_len {n : Nat} : (voC n).length = 4 := rfl
theorem taC_len {n : Nat} : (taC n).length = 5 := rfl
theorem init_Ta {Q : Option Value → xH → Prop} {h : xH} {kc ks : Nat} (hh : h.2 h.1 = some (.inr (6, [.int 0, .int 0, .int 0, .int 0, .int 0, .int 0, .int 0, .int 0, .int 0, .int 0, .int 0, .int 0, .int 0, .null]))) (hQ : ∀ h', h'.1 = h.1 + 4 → (∀ j, h'.2 j = blq h.2 h.1 (taC h.1) j) → Q none h') : w_Ta_init Q h.1 h (kc + 4) (ks + 15) := by
  obtain ⟨N, F⟩ := h
  dsimp only at hh hQ ⊢
  unfold w_Ta_init
  refine ⟨kc + 3, ks + 12, by omega, by omega, ?_⟩
  intro b2 h1 eb eh
  subst eb eh
  refine ⟨3, kc, 12, ks, by omega, by omega, ?_⟩
  refine init_Co (h := xn (N, F) (.inr (1, [.null, .null, .null]))) (kc := 0) (ks := 0) (by simp [xn]) ?_
  intro h5 e1 e2
  have e1' : h5.1 = N + 4 := e1
  have e2' : ∀ j, h5.2 j = blq (xn (N, F) (.inr (1, [.null, .null, .null]))).2 (N + 1) (coC (N + 1)) j := e2
  refine ⟨rfl, [.int 0, .int 0, .int 0, .int 0, .int 0, .int 0, .int 0, .int 0, .int 0, .int 0, .int 0, .int 0, .int 0, .null], ?_, by simp, ?_⟩
  · rw [e2', blk_out (by omega)]
    simp [xn, hh]
  intro h11 e11
  subst e11
  refine hQ _ e1' (fun j => ?_)
  unfold taC
  rw [blk_cons]
  by_cases c : j = N
  · rw [if_pos c, c, xu_e]
    rfl
  · rw [if_neg c, xu_n c, e2']
    refine blk_cg (fun w => ?_)
    rw [xn_n]
    simp only [coC, List.length_cons, List.length_nil] at w
    show j ≠ N + 1
    omega
theorem init_Me {Q : Option Value → xH → Prop} {h : xH} {kc ks : Nat} (hh : h.2 h.1 = some (.inr (3, [.int 0, .int 0, .int 0, .int 0, .int 0, .int 0, .int 0, .int 0, .null, .null]))) (hQ : ∀ h', h'.1 = h.1 + 7 → (∀ j, h'.2 j = blq h.2 h.1 (meC h.1) j) → Q none h') : w_Me_init Q h.1 h (kc + 7) (ks + 49) := by
  obtain ⟨N, F⟩ := h
  dsimp only at hh hQ ⊢
  unfold w_Me_init
  refine ⟨kc + 6, ks + 47, by omega, by omega, ?_⟩
  intro b2 h1 eb eh
  subst eb eh
  refine ⟨2, kc + 4, 32, ks + 15, by omega, by omega, ?_⟩
  refine init_Se (h := xn (N, F) (.inr (5, [.null, .null]))) (kc := 0) (ks := 0) (by simp [xn]) ?_
  intro h5 e1 e2
  have e1' : h5.1 = N + 3 := e1
  have e2' : ∀ j, h5.2 j = blq (xn (N, F) (.inr (5, [.null, .null]))).2 (N + 1) (seC (N + 1)) j := e2
  refine ⟨rfl, [.int 0, .int 0, .int 0, .int 0, .int 0, .int 0, .int 0, .int 0, .null, .null], ?_, by simp, ?_⟩
  · rw [e2', blk_out (by omega)]
    simp [xn, hh]
  intro h11 e11
  subst e11
  refine ⟨kc + 3, ks + 12, by omega, by omega, ?_⟩
  intro b13 h12 e13 e12
  rw [xu_1, e1'] at e13
  subst e13
  refine ⟨3, kc, 12, ks, by omega, by omega, ?_⟩
  have e12' : h12.1 = N + 4 := by rw [e12, xn_1, xu_1, e1']
  have e12n : ∀ j, j ≠ N + 4 → h12.2 j = (xu h5 N (.inr (3, [Value.int 0, .int 0, .int 0, .int 0, .int 0, .int 0, .int 0, .int 0, .null, .null].set 8 (.ref (N + 1))))).2 j := by
    intro j hj
    rw [e12, xn_n]
    rw [xu_1, e1']
    exact hj
  have e12e : h12.2 (N + 4) = some (.inr (1, [.null, .null, .null])) := by
    have := xn_e (h := xu h5 N (.inr (3, [Value.int 0, .int 0, .int 0, .int 0, .int 0, .int 0, .int 0, .int 0, .null, .null].set 8 (.ref (N + 1))))) (e := .inr (1, [.null, .null, .null]))
    rw [xu_1, e1'] at this
    rw [e12]
    exact this
  have key := init_Co (Q := fun v h16 => v = none ∧ ∃ f21, h16.2 N = some (.inr (3, f21)) ∧ 9 < f21.length ∧ ∀ h22, h22 = xu h16 N (.inr (3, f21.set 9 (.ref (N + 4)))) → Q none h22) (h := h12) (kc := 0) (ks := 0) (by rw [e12']; exact e12e) ?_
  · rw [e12'] at key
    exact key
  intro h16 f1 f2
  rw [e12'] at f1 f2
  refine ⟨rfl, [.int 0, .int 0, .int 0, .int 0, .int 0, .int 0, .int 0, .int 0, .ref (N + 1), .null], ?_, by simp, ?_⟩
  · rw [f2, blk_out (by omega), e12n N (by omega), xu_e]
    rfl
  intro h22 e22
  subst e22
  refine hQ _ f1 (fun j => ?_)
  unfold meC
  rw [blk_cons]
  by_cases c : j = N
  · rw [if_pos c, c, xu_e]
    rfl
  · rw [if_neg c, xu_n c, f2, blk_app, seC_len]
    refine blk_cg (fun w => ?_)
    simp only [coC, List.length_cons, List.length_nil] at w
    rw [e12n j (by omega), xu_n c, e2']
    refine blk_cg (fun w2 => ?_)
    simp only [seC, List.length_cons, List.length_nil] at w2
    rw [xn_n]
    show j ≠ N + 1
    omega
