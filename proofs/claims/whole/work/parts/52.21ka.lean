/-! objects as the constructors make them -/
def blq (F : Nat → Option xE) (n : Nat) (l : List xE) : Nat → Option xE := fun j => if n ≤ j ∧ j < n + l.length then l[j - n]? else F j
def z4 : xE := .inl (0, .inl (List.replicate 4 0))
def z16 : xE := .inl (0, .inl (List.replicate 16 0))
def coC (n : Nat) : List xE := [.inr (1, [.ref (n + 1), .ref (n + 2), .ref (n + 3)]), z4, z4, z4]
def seC (n : Nat) : List xE := [.inr (5, [.ref (n + 1), .ref (n + 2)]), z16, z16]
def voC (n : Nat) : List xE := [.inr (7, [.ref (n + 1), .ref (n + 2), .ref (n + 3)]), z16, z16, z16]
def taC (n : Nat) : List xE := .inr (6, [.int 0, .int 0, .int 0, .int 0, .int 0, .int 0, .int 0, .int 0, .int 0, .int 0, .int 0, .int 0, .int 0, .ref (n + 1)]) :: coC (n + 1)
def meC (n : Nat) : List xE := .inr (3, [.int 0, .int 0, .int 0, .int 0, .int 0, .int 0, .int 0, .int 0, .ref (n + 1), .ref (n + 4)]) :: (seC (n + 1) ++ coC (n + 4))
def noC (n : Nat) (v : Int32) : List xE := .inr (4, [.int v, .int 0, .int 1, .int 0, .int 0, .int 0, .int 0, .ref (n + 1), .ref (n + 5), .ref (n + 8), .ref (n + 12)]) :: (coC (n + 1) ++ seC (n + 5) ++ voC (n + 8) ++ taC (n + 12))
theorem blk_in {F : Nat → Option xE} {n k : Nat} {l : List xE} (h : k < l.length) : blq F n l (n + k) = l[k]? := by
  unfold blq
  rw [if_pos ⟨by omega, by omega⟩, Nat.add_sub_cancel_left]
theorem blk_0 {F : Nat → Option xE} {n : Nat} {l : List xE} (h : 0 < l.length) : blq F n l n = l[0]? := blk_in (k := 0) h
theorem blk_out {F : Nat → Option xE} {n j : Nat} {l : List xE} (h : ¬ (n ≤ j ∧ j < n + l.length)) : blq F n l j = F j := if_neg h
theorem xn_1 {h : xH} {e : xE} : (xn h e).1 = h.1 + 1 := rfl
theorem xu_1 {h : xH} {k : Nat} {e : xE} : (xu h k e).1 = h.1 := rfl
theorem xn_e {h : xH} {e : xE} : (xn h e).2 (h.1 + 1) = some e := if_pos rfl
theorem xn_n {h : xH} {e : xE} {j : Nat} (hj : j ≠ h.1 + 1) : (xn h e).2 j = h.2 j := if_neg hj
theorem xu_e {h : xH} {k : Nat} {e : xE} : (xu h k e).2 k = some e := if_pos rfl
theorem xu_n {h : xH} {k : Nat} {e : xE} {j : Nat} (hj : j ≠ k) : (xu h k e).2 j = h.2 j := if_neg hj
theorem init_Co {Q : Option Value → xH → Prop} {h : xH} {kc ks : Nat} (hh : h.2 h.1 = some (.inr (1, [.null, .null, .null]))) (hQ : ∀ h', h'.1 = h.1 + 3 → (∀ j, h'.2 j = blq h.2 h.1 (coC h.1) j) → Q none h') : w_Co_init Q h.1 h (kc + 3) (ks + 12) := by
  obtain ⟨N, F⟩ := h
  dsimp only at hh hQ ⊢
  unfold w_Co_init
  refine ⟨kc + 2, ks + 8, by omega, by omega, ?_⟩
  intro b0 h0 eb0 eh0
  subst eb0 eh0
  refine ⟨[.null, .null, .null], by simp [xn, xu, hh] <;> omega, by simp, ?_⟩
  intro g0 eg0
  subst eg0
  refine ⟨kc + 1, ks + 4, by omega, by omega, ?_⟩
  intro b1 h1 eb1 eh1
  subst eb1 eh1
  refine ⟨[.ref (N + 1), .null, .null], by simp [xn, xu, hh] <;> omega, by simp, ?_⟩
  intro g1 eg1
  subst eg1
  refine ⟨kc + 0, ks + 0, by omega, by omega, ?_⟩
  intro b2 h2 eb2 eh2
  subst eb2 eh2
  refine ⟨[.ref (N + 1), .ref (N + 2), .null], by simp [xn, xu, hh] <;> omega, by simp, ?_⟩
  intro g2 eg2
  subst eg2
  refine hQ _ rfl (fun j => ?_)
  have hj : j < N ∨ j = N ∨ j = N + 1 ∨ j = N + 2 ∨ j = N + 3 ∨ N + 3 < j := by omega
  rcases hj with c | c | c | c | c | c
  · have n0 : ¬ j = N := by omega
    have n1 : ¬ j = N + 1 := by omega
    have n2 : ¬ j = N + 2 := by omega
    have n3 : ¬ j = N + 3 := by omega
    rw [blk_out (by simp only [coC, List.length_cons, List.length_nil]; omega)]
    simp [xn, xu, n0, n1, n2, n3]
  · subst c
    rw [blk_0 (by simp [coC])]
    simp [xn, xu, coC, z4]
  · subst c
    rw [blk_in (by simp [coC])]
    simp [xn, xu, coC, z4]
  · subst c
    rw [blk_in (by simp [coC])]
    simp [xn, xu, coC, z4]
  · subst c
    rw [blk_in (by simp [coC])]
    simp [xn, xu, coC, z4]
  · have n0 : ¬ j = N := by omega
    have n1 : ¬ j = N + 1 := by omega
    have n2 : ¬ j = N + 2 := by omega
    have n3 : ¬ j = N + 3 := by omega
    rw [blk_out (by simp only [coC, List.length_cons, List.length_nil]; omega)]
    simp [xn, xu, n0, n1, n2, n3]
theorem init_Se {Q : Option Value → xH → Prop} {h : xH} {kc ks : Nat} (hh : h.2 h.1 = some (.inr (5, [.null, .null]))) (hQ : ∀ h', h'.1 = h.1 + 2 → (∀ j, h'.2 j = blq h.2 h.1 (seC h.1) j) → Q none h') : w_Se_init Q h.1 h (kc + 2) (ks + 32) := by
  obtain ⟨N, F⟩ := h
  dsimp only at hh hQ ⊢
  unfold w_Se_init
  refine ⟨kc + 1, ks + 16, by omega, by omega, ?_⟩
  intro b0 h0 eb0 eh0
  subst eb0 eh0
  refine ⟨[.null, .null], by simp [xn, xu, hh] <;> omega, by simp, ?_⟩
  intro g0 eg0
  subst eg0
  refine ⟨kc + 0, ks + 0, by omega, by omega, ?_⟩
  intro b1 h1 eb1 eh1
  subst eb1 eh1
  refine ⟨[.ref (N + 1), .null], by simp [xn, xu, hh] <;> omega, by simp, ?_⟩
  intro g1 eg1
  subst eg1
  refine hQ _ rfl (fun j => ?_)
  have hj : j < N ∨ j = N ∨ j = N + 1 ∨ j = N + 2 ∨ N + 2 < j := by omega
  rcases hj with c | c | c | c | c
  · have n0 : ¬ j = N := by omega
    have n1 : ¬ j = N + 1 := by omega
    have n2 : ¬ j = N + 2 := by omega
    rw [blk_out (by simp only [seC, List.length_cons, List.length_nil]; omega)]
    simp [xn, xu, n0, n1, n2]
  · subst c
    rw [blk_0 (by simp [seC])]
    simp [xn, xu, seC, z16]
  · subst c
    rw [blk_in (by simp [seC])]
    simp [xn, xu, seC, z16]
  · subst c
    rw [blk_in (by simp [seC])]
    simp [xn, xu, seC, z16]
  · have n0 : ¬ j = N := by omega
    have n1 : ¬ j = N + 1 := by omega
    have n2 : ¬ j = N + 2 := by omega
    rw [blk_out (by simp only [seC, List.length_cons, List.length_nil]; omega)]
    simp [xn, xu, n0, n1, n2]
theorem init_Vo {Q : Option Value → xH → Prop} {h : xH} {kc ks : Nat} (hh : h.2 h.1 = some (.inr (7, [.null, .null, .null]))) (hQ : ∀ h', h'.1 = h.1 + 3 → (∀ j, h'.2 j = blq h.2 h.1 (voC h.1) j) → Q none h') : w_Vo_init Q h.1 h (kc + 3) (ks + 48) := by
  obtain ⟨N, F⟩ := h
  dsimp only at hh hQ ⊢
  unfold w_Vo_init
  refine ⟨kc + 2, ks + 32, by omega, by omega, ?_⟩
  intro b0 h0 eb0 eh0
  subst eb0 eh0
  refine ⟨[.null, .null, .null], by simp [xn, xu, hh] <;> omega, by simp, ?_⟩
  intro g0 eg0
  subst eg0
  refine ⟨kc + 1, ks + 16, by omega, by omega, ?_⟩
  intro b1 h1 eb1 eh1
  subst eb1 eh1
  refine ⟨[.ref (N + 1), .null, .null], by simp [xn, xu, hh] <;> omega, by simp, ?_⟩
  intro g1 eg1
  subst eg1
  refine ⟨kc + 0, ks + 0, by omega, by omega, ?_⟩
  intro b2 h2 eb2 eh2
  subst eb2 eh2
  refine ⟨[.ref (N + 1), .ref (N + 2), .null], by simp [xn, xu, hh] <;> omega, by simp, ?_⟩
  intro g2 eg2
  subst eg2
  refine hQ _ rfl (fun j => ?_)
  have hj : j < N ∨ j = N ∨ j = N + 1 ∨ j = N + 2 ∨ j = N + 3 ∨ N + 3 < j := by omega
  rcases hj with c | c | c | c | c | c
  · have n0 : ¬ j = N := by omega
    have n1 : ¬ j = N + 1 := by omega
    have n2 : ¬ j = N + 2 := by omega
    have n3 : ¬ j = N + 3 := by omega
    rw [blk_out (by simp only [voC, List.length_cons, List.length_nil]; omega)]
    simp [xn, xu, n0, n1, n2, n3]
  · subst c
    rw [blk_0 (by simp [voC])]
    simp [xn, xu, voC, z16]
  · subst c
    rw [blk_in (by simp [voC])]
    simp [xn, xu, voC, z16]
  · subst c
    rw [blk_in (by simp [voC])]
    simp [xn, xu, voC, z16]
  · subst c
    rw [blk_in (by simp [voC])]
    simp [xn, xu, voC, z16]
  · have n0 : ¬ j = N := by omega
    have n1 : ¬ j = N + 1 := by omega
    have n2 : ¬ j = N + 2 := by omega
    have n3 : ¬ j = N + 3 := by omega
    rw [blk_out (by simp only [voC, List.length_cons, List.length_nil]; omega)]
    simp [xn, xu, n0, n1, n2, n3]
