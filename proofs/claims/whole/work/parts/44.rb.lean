/-! taking copies, votes, answers: class and reference alike -/
theorem bit1 : ∀ q, q < 16 → ∀ k, k < 16 → (((1 : Int32) <<< (nI q &&& 31)) >>> (nI k &&& 31)) &&& 1 = if k = q then 1 else 0 := by decide +kernel
theorem bit15 : ∀ k, k < 4 → ¬ ((15 : Int32) >>> (nI k &&& 31)) &&& 1 = 0 := by decide
theorem bit1e {q : Nat} (hq : q < 16) : ¬ (((1 : Int32) <<< (nI q &&& 31)) >>> (nI q &&& 31)) &&& 1 = 0 := by
  rw [bit1 q hq q hq, if_pos rfl]
  decide
theorem bit1n {q k : Nat} (hq : q < 16) (hk : k < 16) (h : k ≠ q) : (((1 : Int32) <<< (nI q &&& 31)) >>> (nI k &&& 31)) &&& 1 = 0 := by
  rw [bit1 q hq k hk, if_neg h]
def stC (a : nv) (q : Nat) (x y z : Int32) : nv := if f_isGreater x y (a 2 q) (a 3 q) = 0 then a else if (C_may a).1 = 0 then (C_may a).2 else un (un (un (C_may a).2 2 q x) 3 q y) 4 q z
theorem take_one {a : nv} {x y z : Nat → Int32} {q : Nat} (hq : q < 4) : ∀ k, k ≤ 4 → C_take a x y z ((1 : Int32) <<< (nI q &&& 31)) k = if q < k then (if a 0 1 = 1 then stC a q (x q) (y q) (z q) else a) else a := by
  intro k
  induction k with
  | zero =>
    intro _
    rw [if_neg (by omega)]
    rfl
  | succ k ih =>
    intro hk
    rw [C_take, ih (by omega)]
    by_cases h1 : q < k
    · have hb := bit1n (q := q) (k := k) (by omega) (by omega) (by omega)
      rw [if_pos h1, if_pos (show q < k + 1 by omega), if_pos hb]
      exact ite_self _
    · rw [if_neg h1]
      by_cases h2 : k = q
      · subst h2
        rw [if_pos (show k < k + 1 by omega), if_neg (bit1e (by omega))]
        rfl
      · have hb := bit1n (q := q) (k := k) (by omega) (by omega) h2
        rw [if_neg (show ¬ q < k + 1 by omega), if_pos hb]
        exact ite_self _
theorem RN_stC {a b : nv} {q : Nat} {x y z : Int32} (hq : q < 4) (h : RN a b) (hr : Ar b) : RN (if a 0 1 = 1 then stC a q x y z else a) (F_store b q x y z) := by
  by_cases h1 : b 1 0 = 1
  · rw [h.1.1, if_pos h1]
    exact RN_store hq h hr
  · rw [h.1.1, if_neg h1, store_down h1]
    exact h
theorem RN_take1 {a b : nv} {x y z : Nat → Int32} {q : Nat} (hq : q < 4) (h : RN a b) (hr : Ar b) : RN (C_take a x y z ((1 : Int32) <<< (nI q &&& 31)) 4) (F_store b q (x q) (y q) (z q)) := by
  rw [take_one hq 4 (by decide), if_pos hq]
  exact RN_stC hq h hr
theorem RN_takeA {a b : nv} {x y z : Nat → Int32} {G : Nat → nv} (h : RN a b) (hr : Ar b) (g0 : G 0 = b) (gs : ∀ k, k < 4 → G (k + 1) = F_store (G k) k (x k) (y k) (z k)) : ∀ k, k ≤ 4 → RN (C_take a x y z 15 k) (G k) ∧ Ar (G k) := by
  intro k
  induction k with
  | zero =>
    intro _
    rw [g0]
    exact ⟨h, hr⟩
  | succ k ih =>
    intro hk
    obtain ⟨i1, i2⟩ := ih (by omega)
    rw [gs k (by omega), C_take, if_neg (bit15 k (by omega))]
    exact ⟨RN_stC (by omega) i1 i2, Ar_store i2⟩
def tgC (a : nv) (q : Nat) (x y z : Int32) : nv := if f_isGreater x y (a 14 q) (a 15 q) = 0 then a else un (un (un a 14 q x) 15 q y) 16 q z
theorem tg_one {a : nv} {x y z : Nat → Int32} {q : Nat} (hq : q < 4) : ∀ k, k ≤ 4 → C_tg a x y z ((1 : Int32) <<< (nI q &&& 31)) k = if q < k then tgC a q (x q) (y q) (z q) else a := by
  intro k
  induction k with
  | zero =>
    intro _
    rw [if_neg (by omega)]
    rfl
  | succ k ih =>
    intro hk
    rw [C_tg, ih (by omega)]
    by_cases h1 : q < k
    · have hb := bit1n (q := q) (k := k) (by omega) (by omega) (by omega)
      rw [if_pos h1, if_pos (show q < k + 1 by omega), if_pos hb]
    · rw [if_neg h1]
      by_cases h2 : k = q
      · subst h2
        rw [if_pos (show k < k + 1 by omega), if_neg (bit1e (by omega))]
        rfl
      · have hb := bit1n (q := q) (k := k) (by omega) (by omega) h2
        rw [if_neg (show ¬ q < k + 1 by omega), if_pos hb]
theorem best_14 {b : nv} {q : Nat} {x y z : Int32} : (F_best b q x y z) 14 0 = b 14 0 := by
  unfold F_best
  split
  · rfl
  · rw [un_nk (by decide), un_nk (by decide), un_nk (by decide)]
theorem RN_tgC {a b : nv} {q : Nat} {x y z : Int32} (hq : q < 4) (h : RN a b) (hne : ¬ b 14 0 = 0) : RN (tgC a q x y z) (F_best b q x y z) := by
  obtain ⟨e1, e2, _⟩ := (h.2 hne).2.2.2.1 q hq
  unfold tgC F_best
  rw [e1, e2]
  split
  · exact h
  · exact RN_b16 (RN_b15 (RN_b14 h))
theorem RN_tg1 {a b : nv} {x y z : Nat → Int32} {q : Nat} (hq : q < 4) (h : RN a b) (hne : ¬ b 14 0 = 0) : RN (C_tg a x y z ((1 : Int32) <<< (nI q &&& 31)) 4) (F_best b q (x q) (y q) (z q)) := by
  rw [tg_one hq 4 (by decide), if_pos hq]
  exact RN_tgC hq h hne
theorem RN_tgA {a b : nv} {x y z : Nat → Int32} {G : Nat → nv} (h : RN a b) (hne : ¬ b 14 0 = 0) (g0 : G 0 = b) (gs : ∀ k, k < 4 → G (k + 1) = F_best (G k) k (x k) (y k) (z k)) : ∀ k, k ≤ 4 → RN (C_tg a x y z 15 k) (G k) ∧ ¬ (G k) 14 0 = 0 := by
  intro k
  induction k with
  | zero =>
    intro _
    rw [g0]
    exact ⟨h, hne⟩
  | succ k ih =>
    intro hk
    obtain ⟨i1, i2⟩ := ih (by omega)
    rw [gs k (by omega), C_tg, if_neg (bit15 k (by omega))]
    refine ⟨RN_tgC (by omega) i1 i2, ?_⟩
    rw [best_14]
    exact i2
theorem RN_raise {a b : nv} {v : Int32} (h : RN a b) (hr : Ar b) : RN (C_raise a v) (if b 3 0 < v then F_round b v else b) := by
  obtain ⟨m1, m2⟩ := RN_may h hr
  unfold C_raise
  rw [h.1.2.2.1, m1]
  by_cases h1 : b 3 0 < v
  · have h2 : ¬ v ≤ b 3 0 := Int32.not_le.mpr h1
    have h3 : ¬ b 3 0 = v := by
      intro e
      rw [e] at h1
      exact absurd h1 Int32.lt_irrefl
    rw [if_neg h2, if_pos h1]
    unfold F_round
    rw [if_neg h3]
    split
    · exact m2
    · exact RN_rd m2
  · have h2 : v ≤ b 3 0 := Int32.not_lt.mp h1
    rw [if_pos h2, if_neg h1]
    exact h
theorem Ar_round {b : nv} {v : Int32} (hr : Ar b) : Ar (F_round b v) := by
  unfold F_round
  split
  · exact hr
  · split
    · exact Ar_may hr
    · exact Ar_un (Ar_may hr) (by decide)
theorem Ar_vote {b : nv} {q : Nat} {x y z : Int32} (hr : Ar b) : Ar (F_vote b q x y z) := by
  unfold F_vote
  split
  · exact hr
  · split
    · exact Ar_may hr
    · exact Ar_un (Ar_un (Ar_un (Ar_may hr) (by decide)) (by decide)) (by decide)
theorem may_vk {b : nv} {k j : Nat} (h : k ≠ 1 ∧ k ≠ 4 ∧ k ≠ 14 ∧ k ≠ 15 ∧ k ≠ 16 ∧ k ≠ 5 ∧ k ≠ 32) : (F_may b).2 k j = b k j := by
  unfold F_may F_down
  by_cases h1 : b 1 0 = 1
  · by_cases h2 : b 4 0 = 1
    · simp only [h1, h2, if_true]
      rw [un_nk h.2.2.2.2.2.1, un_nk h.2.2.2.2.1, un_nk h.2.2.2.1, un_nk h.2.2.1, un_nk h.2.1, un_nk h.1]
    · simp only [h1, h2, if_true, if_false]
      rw [un_nk h.2.2.2.2.2.2, un_nk h.2.1]
  · simp only [h1, if_false]
/-- the class's PREPARE writes whatever stands there -/
theorem RN_prep {a b : nv} {q : Nat} {x : Int32} (hq : q < 16) (h : RN a b) (hr : Ar b) (hx : ¬ x ≤ b 11 q) : RN (if (C_may a).1 = 0 then (C_may a).2 else un (un (un (C_may a).2 9 q x) 10 q (a 10 q)) 11 q (a 11 q)) (F_vote b q x (b 12 q) (b 13 q)) := by
  obtain ⟨_, _, e1, e2, e3⟩ := h.1.2.2.2.2.2.2.2.1 q hq
  obtain ⟨m1, m2⟩ := RN_may h hr
  have hne : ¬ b 11 q = x := by
    intro e
    apply hx
    rw [e]
    exact Int32.le_refl x
  have hc : ¬ (b 11 q = x ∧ b 12 q = b 12 q ∧ b 13 q = b 13 q) := fun hh => hne hh.1
  unfold F_vote
  rw [if_neg hc, m1, e2, e3]
  split
  · exact m2
  · exact RN_v11 (RN_v10 (RN_v9 m2))
theorem RN_acc {a b : nv} {q : Nat} {x z : Int32} (hq : q < 16) (h : RN a b) (hr : Ar b) : RN (if a 9 q = x ∧ a 10 q = x ∧ a 11 q = z then a else if (C_may a).1 = 0 then (C_may a).2 else un (un (un (C_may a).2 9 q x) 10 q x) 11 q z) (F_vote b q x x z) := by
  obtain ⟨_, _, e1, e2, e3⟩ := h.1.2.2.2.2.2.2.2.1 q hq
  obtain ⟨m1, m2⟩ := RN_may h hr
  unfold F_vote
  rw [e1, e2, e3, m1]
  split
  · exact h
  · split
    · exact m2
    · exact RN_v11 (RN_v10 (RN_v9 m2))
theorem RN_mark {a b : nv} {q : Nat} {v x : Int32} (hq : q < 16) (h : RN a b) (hr : Ar b) (hne : ¬ b 9 q = v) : RN (C_mark a q v x) (F_map b q v x) := by
  obtain ⟨m1, m2⟩ := RN_may h hr
  have hc : ¬ (b 9 q = v ∧ b 10 q = x) := fun hh => hne hh.1
  unfold C_mark F_map
  rw [m1, if_neg hc]
  split
  · exact m2
  · exact RN_s7 (RN_s6 m2)
theorem Ar_map {b : nv} {q : Nat} {x y : Int32} (hr : Ar b) : Ar (F_map b q x y) := by
  unfold F_map
  split
  · exact hr
  · split
    · exact Ar_may hr
    · exact Ar_un (Ar_un (Ar_may hr) (by decide)) (by decide)
