/-! ENOUGH, and the end of a task: class and reference -/
theorem cen01 {n : nv} {w : Int32} {k : Nat} : C_en n w k = 0 ∨ C_en n w k = 1 := by
  cases k with
  | zero => exact Or.inr rfl
  | succ k =>
    rw [C_en]
    split
    · exact Or.inl rfl
    · split
      · exact Or.inr rfl
      · split
        · exact Or.inr rfl
        · exact Or.inl rfl
theorem cen_one {n : nv} {q : Nat} (hq : q < 16) : ∀ m, m ≤ 16 → C_en n ((1 : Int32) <<< (nI q &&& 31)) m = if q < m then (if C_need n (n 7 q) ≤ bc (n 12 6 &&& (n 7 q &&& 255)) then 1 else 0) else 1 := by
  intro m
  induction m with
  | zero =>
    intro _
    rw [if_neg (by omega)]
    rfl
  | succ m ih =>
    intro hm
    rw [C_en, ih (by omega)]
    by_cases e : m = q
    · subst e
      rw [if_neg (bit1e hq), if_neg (show ¬ m < m by omega), if_pos (show m < m + 1 by omega), if_neg (by decide)]
    · rw [if_pos (bit1n hq (by omega) e)]
      by_cases h : q < m
      · rw [if_pos h, if_pos (show q < m + 1 by omega)]
        by_cases hh : C_need n (n 7 q) ≤ bc (n 12 6 &&& (n 7 q &&& 255))
        · rw [if_pos hh, if_neg (by decide)]
        · rw [if_neg hh, if_pos rfl]
      · rw [if_neg h, if_neg (show ¬ q < m + 1 by omega), if_neg (by decide)]
theorem cen_loop {a b : nv} {w : Int32} (h7 : ∀ k, k < 16 → a 7 k = b 10 k) (h6 : a 12 6 = b 20 0) (hb : ∀ k, k < 16 → ((w >>> (nI k &&& 31)) &&& 1 = 0 ↔ F_cnt b k = 0)) (hn : ∀ c, C_need a c = F_lea b c) : ∀ m, m ≤ 16 → C_en a w m = F_en b m := by
  intro m
  induction m with
  | zero =>
    intro _
    rfl
  | succ m ih =>
    intro hm
    rw [C_en, F_en, ih (by omega), h7 m (by omega), h6, hn, bc8]
    by_cases h1 : F_cnt b m = 0
    · rw [if_pos h1, if_pos ((hb m (by omega)).mpr h1)]
      rcases en01 (n := b) (k := m) with e | e <;> rw [e]
      · rw [if_pos rfl]
      · rw [if_neg (by decide)]
    · rw [if_neg h1, if_neg (fun hh => h1 ((hb m (by omega)).mp hh))]
      by_cases h2 : F_en b m = 0
      · rw [if_pos h2, if_pos h2]
      · rw [if_neg h2, if_neg h2]
        by_cases h3 : mny ((b 20 0 &&& b 10 m) &&& 255) 8 < F_lea b (b 10 m)
        · rw [if_pos h3, if_neg (Int32.not_le.mpr h3)]
        · rw [if_neg h3, if_pos (Int32.not_lt.mp h3)]
theorem enough_eq {a b : nv} (hr : RN a b) (hw : Wn b) (h14 : ¬ b 14 0 = 0) (h15 : b 15 0 = 1 ∨ b 15 0 = 2 ∨ b 15 0 = 3 ∨ b 15 0 = 4) (h16 : b 16 0 = 1 ∨ b 16 0 = 2) (hbs : b 15 0 = 3 → bs b + 1 = ab b) : C_enough a = F_enough b := by
  obtain ⟨⟨g0, g1, g2, g3, g4, g5, hc, hs, hn, hp⟩, ht⟩ := hr
  obtain ⟨⟨t0, t1, t2, t3, u0, u1, u2⟩, ⟨p0, p1, pb, pf⟩⟩ := ht h14
  have e7 : ∀ k, k < 16 → a 7 k = b 10 k := fun k hk => (hs k hk).2.1
  have hlt := hw.2.1
  have hdat : b 15 0 = 1 ∨ b 15 0 = 2 → C_en a (hav (a 6) 1 16) 16 = F_en b 16 := by
    intro h
    have hd : ¬ F_isData b = 0 := by
      unfold F_isData
      rw [if_pos h]
      decide
    have h4 : ¬ b 15 0 = 4 := by rcases h with h | h <;> rw [h] <;> decide
    refine cen_loop e7 p1 (fun k hk => ?_) (fun c => ?_) 16 (by decide)
    · rw [hav_bit16 hk, (hs k hk).1]
      unfold F_cnt
      rw [if_neg hd]
      by_cases hh : b 9 k = 1
      · rw [if_pos hh]
        simp [hh]
      · rw [if_neg hh]
        simp [hh]
    · unfold C_need F_lea
      rw [hp, t0, if_neg h4, if_neg hd]
      rcases h16 with e | e <;> rw [e]
      · rw [if_neg (by decide), if_pos rfl]
      · rw [if_pos rfl, if_neg (by decide)]
  have fin : ∀ (x y : Int32), (if y ≤ x then (1 : Int32) else 0) = (if x < y then 0 else 1) := by
    intro x y
    by_cases hh : x < y
    · rw [if_pos hh, if_neg (Int32.not_le.mpr hh)]
    · rw [if_neg hh, if_pos (Int32.not_lt.mp hh)]
  have hdd : b 15 0 = 1 ∨ b 15 0 = 2 → C_enough a = F_enough b := by
    intro h
    have n3 : ¬ b 15 0 = 3 := by rcases h with e | e <;> rw [e] <;> decide
    have n4 : ¬ b 15 0 = 4 := by rcases h with e | e <;> rw [e] <;> decide
    have ec : C_conc a = hav (a 6) 1 16 := by
      unfold C_conc
      rw [t0, if_neg n3, if_neg n4]
    have ef : F_enough b = F_en b 16 := by
      unfold F_enough
      rw [if_neg n3, if_neg (fun hh => n4 hh.1)]
    unfold C_enough
    rw [ec, ef]
    exact hdat h
  rcases h15 with h | h | h | h
  · exact hdd (Or.inl h)
  · exact hdd (Or.inr h)
  · have hb := hbs h
    have n4 : ¬ b 15 0 = 4 := by
      rw [h]
      decide
    have e : b 17 0 - 1 = nI (bs b) := by
      rw [hw.1, ← hb]
      exact nI_pred (bs b)
    have ec : C_conc a = (1 : Int32) <<< (nI (bs b) &&& 31) := by
      unfold C_conc
      rw [t0, if_pos h, t1, e]
    unfold C_enough
    rw [ec, cen_one (by omega) 16 (by decide), if_pos (by omega), e7 (bs b) (by omega), p1, bc8, fin]
    have ef : F_enough b = (if mny ((b 20 0 &&& b 10 (bs b)) &&& 255) 8 < (if b 16 0 = 1 then rdq (b 10 (bs b)) else stq (b 10 (bs b))) then 0 else 1) := by
      unfold F_enough
      rw [if_pos h]
    rw [ef]
    have en : C_need a (b 10 (bs b)) = (if b 16 0 = 1 then rdq (b 10 (bs b)) else stq (b 10 (bs b))) := by
      unfold C_need
      rw [hp, t0, if_neg n4]
      rcases h16 with h1 | h2
      · have n2 : ¬ b 16 0 = 2 := by
          rw [h1]
          decide
        rw [if_neg n2, if_pos h1]
      · have n1 : ¬ b 16 0 = 1 := by
          rw [h2]
          decide
        rw [if_pos h2, if_neg n1]
    rw [en]
  · have hd : F_isData b = 0 := by
      unfold F_isData
      rw [h]
      decide
    have n3 : ¬ b 15 0 = 3 := by
      rw [h]
      decide
    rcases h16 with h1 | h2
    · have n2 : ¬ b 16 0 = 2 := by
        rw [h1]
        decide
      have ec : C_conc a = b 22 0 := by
        unfold C_conc
        rw [t0, if_neg n3, if_pos h, hp, if_pos h1, u2 h]
      have ef : F_enough b = F_en b 16 := by
        unfold F_enough
        rw [if_neg n3, if_neg (fun hh => n2 hh.2)]
      unfold C_enough
      rw [ec, ef]
      refine cen_loop e7 p1 (fun k hk => ?_) (fun c => ?_) 16 (by decide)
      · unfold F_cnt
        rw [if_pos hd]
        rcases bit01 (x := b 22 0) (s := nI k &&& 31) with e | e
        · rw [e, if_neg (by decide)]
        · rw [e, if_pos rfl]
      · unfold C_need F_lea
        rw [hp, if_neg n2, t0, if_pos h, if_pos hd]
        by_cases hh : rdq c < stq c
        · rw [if_pos hh, if_pos (Int32.le_of_lt hh)]
        · rw [if_neg hh]
          by_cases h5 : rdq c ≤ stq c
          · rw [if_pos h5]
            exact Int32.le_antisymm h5 (Int32.not_lt.mp hh)
          · rw [if_neg h5]
    · have n1 : ¬ b 16 0 = 1 := by
        rw [h2]
        decide
      have ec : C_conc a = (1 : Int32) <<< (nI (ab b) &&& 31) := by
        unfold C_conc
        rw [t0, if_neg n3, if_pos h, hp, if_neg n1, t1, hw.1]
      have ef : F_enough b = (if mny ((b 20 0 &&& b 10 (ab b)) &&& 255) 8 < stq (b 10 (ab b)) then 0 else 1) := by
        unfold F_enough
        rw [if_neg n3, if_pos ⟨h, h2⟩]
      unfold C_enough
      rw [ec, cen_one hlt 16 (by decide), if_pos hlt, e7 (ab b) hlt, p1, bc8, fin, ef]
      have en : C_need a (b 10 (ab b)) = stq (b 10 (ab b)) := by
        unfold C_need
        rw [hp, if_pos h2]
      rw [en]
theorem RN_ph0 {a b : nv} (h : RN a b) : RN (un a 12 2 0) (un b 16 0 0) := by
  obtain ⟨⟨g0, g1, g2, g3, g4, g5, hc, hs, hn, hp⟩, ht⟩ := h
  refine ⟨⟨?_, ?_, ?_, ?_, ?_, ?_, ?_, ?_, ?_, ?_⟩, fun hne => ?_⟩
  · rw [un_nk (by decide), un_nk (by decide)]
    exact g0
  · rw [un_nk (by decide), un_nk (by decide)]
    exact g1
  · rw [un_nk (by decide), un_nk (by decide)]
    exact g2
  · rw [un_nk (by decide), un_nk (by decide)]
    exact g3
  · rw [un_nk (by decide), un_nk (by decide)]
    exact g4
  · rw [un_nk (by decide), un_nk (by decide)]
    exact g5
  · simp (disch := decide) only [un_nk]
    exact hc
  · simp (disch := decide) only [un_nk]
    exact hs
  · rw [un_nj (by decide), un_nk (by decide)]
    exact hn
  · rw [un_eq, un_eq]
  · rw [un_nk (by decide)] at hne
    obtain ⟨⟨t0, t1, t2, t3, u0, u1, u2⟩, ⟨p0, p1, pb, pf⟩⟩ := ht hne
    refine ⟨⟨?_, ?_, ?_, ?_, ?_, ?_, ?_⟩, ⟨?_, ?_, ?_, ?_⟩⟩
    · rw [un_nj (by decide), un_nk (by decide)]
      exact t0
    · rw [un_nj (by decide), un_nk (by decide)]
      exact t1
    · rw [un_nj (by decide), un_nk (by decide)]
      exact t2
    · rw [un_nj (by decide), un_nk (by decide)]
      exact t3
    · simp (disch := decide) only [un_nk, un_nj]
      exact u0
    · simp (disch := decide) only [un_nk, un_nj]
      exact u1
    · simp (disch := decide) only [un_nk, un_nj]
      exact u2
    · rw [un_nj (by decide), un_nk (by decide)]
      exact p0
    · rw [un_nj (by decide), un_nk (by decide)]
      exact p1
    · simp (disch := decide) only [un_nk]
      exact pb
    · intro _ hg
      rw [un_eq] at hg
      exact absurd rfl hg
theorem RN_fin {a b : nv} {v : Int32} (h : RN a b) : RN (un (un a 12 2 0) 12 4 v) (un (un b 18 0 v) 16 0 0) := by
  rw [un_comm (k := 18) (k' := 16) (by decide)]
  exact RN_res (RN_ph0 h)
theorem map_k {b : nv} {q k j : Nat} {x y : Int32} (h : k ≠ 1 ∧ k ≠ 4 ∧ k ≠ 14 ∧ k ≠ 15 ∧ k ≠ 16 ∧ k ≠ 5 ∧ k ≠ 32) (h' : k ≠ 9 ∧ k ≠ 10) : F_map b q x y k j = b k j := by
  unfold F_map
  split
  · rfl
  · split
    · exact may_vk h
    · rw [un_nk h'.2, un_nk h'.1, may_vk h]
/-- up behind a write: nothing but armed, writes and the cell has changed -/
theorem may_up {b : nv} {k j : Nat} (hu : (F_may b).2 1 0 = 1) (h : k ≠ 4 ∧ k ≠ 32) : (F_may b).2 k j = b k j := by
  unfold F_may at hu ⊢
  by_cases c1 : b 1 0 = 1
  · by_cases c2 : b 4 0 = 1
    · exfalso
      simp only [c1, c2, if_true] at hu
      unfold F_down at hu
      simp (disch := decide) only [un_nk, un_eq] at hu
      exact absurd hu (by decide)
    · simp only [c1, c2, if_true, if_false]
      rw [un_nk h.2, un_nk h.1]
  · simp only [c1, if_false]
theorem map_up {b : nv} {q k j : Nat} {x y : Int32} (hu : (F_map b q x y) 1 0 = 1) (h : k ≠ 4 ∧ k ≠ 32 ∧ k ≠ 9 ∧ k ≠ 10) : F_map b q x y k j = b k j := by
  unfold F_map at hu ⊢
  split
  · rfl
  · rename_i hc
    rw [if_neg hc] at hu
    split
    · rename_i h0
      rw [if_pos h0] at hu
      exact may_up hu ⟨h.1, h.2.1⟩
    · rename_i h0
      rw [if_neg h0, un_nk (by decide), un_nk (by decide)] at hu
      rw [un_nk h.2.2.2, un_nk h.2.2.1, may_up hu ⟨h.1, h.2.1⟩]
theorem RN_ret {a b : nv} (h : RN a b) (hr : Ar b) (h4 : b 15 0 = 4) (h14 : ¬ b 14 0 = 0) : ∀ k, k ≤ 16 → RN (C_ret a k) (F_ret b k) ∧ Ar (F_ret b k) ∧ ((F_ret b k) 1 0 = 1 → (F_ret b k) 14 0 = b 14 0 ∧ (F_ret b k) 15 0 = b 15 0 ∧ (F_ret b k) 16 0 = b 16 0 ∧ (F_ret b k) 22 0 = b 22 0) := by
  intro k
  induction k with
  | zero =>
    intro _
    exact ⟨h, hr, fun _ => ⟨rfl, rfl, rfl, rfl⟩⟩
  | succ k ih =>
    intro hk
    obtain ⟨i1, i2, i3⟩ := ih (by omega)
    rw [C_ret, F_ret, i1.1.1]
    by_cases hu : (F_ret b k) 1 0 = 1
    · obtain ⟨j1, j2, j3, j4⟩ := i3 hu
      have hrt := (i1.2 (by rw [j1]; exact h14)).1
      have e12 : (C_ret a k) 12 12 = (F_ret b k) 22 0 := hrt.2.2.2.2.2.2 (by rw [j2]; exact h4)
      obtain ⟨s6, s7, _⟩ := i1.1.2.2.2.2.2.2.2.1 k (by omega)
      rw [if_pos hu, if_pos hu, e12, s6, s7]
      rcases bit01 (x := (F_ret b k) 22 0) (s := nI k &&& 31) with e | e
      · rw [e, if_pos rfl, if_neg (by decide)]
        exact ⟨i1, i2, i3⟩
      · rw [e, if_neg (by decide), if_pos rfl]
        by_cases h9 : (F_ret b k) 9 k = 1
        · rw [if_pos h9, if_pos h9]
          refine ⟨RN_mark (by omega) i1 i2 (by rw [h9]; decide), Ar_map i2, fun hup => ?_⟩
          rw [map_up hup (by decide), map_up hup (by decide), map_up hup (by decide), map_up hup (by decide)]
          exact ⟨j1, j2, j3, j4⟩
        · rw [if_neg h9, if_neg h9]
          exact ⟨i1, i2, i3⟩
    · rw [if_neg hu, if_neg hu]
      exact ⟨i1, i2, i3⟩
theorem RN_finish {a b : nv} (h : RN a b) (hw : Wn b) (hr : Ar b) (hu : b 1 0 = 1) (h14 : ¬ b 14 0 = 0) (h15 : b 15 0 = 1 ∨ b 15 0 = 2 ∨ b 15 0 = 3 ∨ b 15 0 = 4) (h16 : ¬ b 16 0 = 0) (h9 : b 15 0 = 3 → ¬ b 9 (ab b) = 1) (hbc : b 15 0 = 4 → bc (b 22 0) = mny (b 22 0) 16) : RN (C_fin a) (F_ends b) := by
  have hh := h
  obtain ⟨⟨g0, g1, g2, g3, g4, g5, hc, hs, hn, hp⟩, ht⟩ := h
  obtain ⟨⟨t0, t1, t2, t3, u0, u1, u2⟩, ⟨p0, p1, pb, pf⟩⟩ := ht h14
  have hlt := hw.2.1
  have ec : (a 12 3).toNatClampNeg = ab b := by
    rw [t1]
    rfl
  have hin : (0 ≤ a 12 3 ∧ ¬ 16 ≤ a 12 3) = True := by
    rw [t1, hw.1]
    exact yX hlt
  unfold C_fin C_fin0 F_ends
  rw [t0]
  have hdat : b 15 0 = 1 ∨ b 15 0 = 2 → RN (C_conl a) (un (un b 18 0 (b 29 (ab b))) 16 0 0) := by
    intro hd
    have hD : ¬ F_isData b = 0 := by
      unfold F_isData
      rw [if_pos hd]
      decide
    have h4 := hw.2.2.1 hD
    have n3 : ¬ a 12 1 = 3 := by rw [t0]; rcases hd with e | e <;> rw [e] <;> decide
    have n4 : ¬ a 12 1 = 4 := by rw [t0]; rcases hd with e | e <;> rw [e] <;> decide
    have hob : (0 ≤ a 12 3 ∧ ¬ 4 ≤ a 12 3) = True := by
      rw [t1, hw.1]
      exact yO h4
    unfold C_conl C_res
    rw [if_neg n3, if_neg n4, if_pos (of_eq_true hob), ec, (pb (ab b) h4).2.2]
    exact RN_fin hh
  rcases h15 with e | e | e | e
  · have hz := hdat (Or.inl e)
    have hD : ¬ F_isData b = 0 := by
      unfold F_isData
      rw [e]
      decide
    have n3 : ¬ b 15 0 = 3 := by rw [e]; decide
    have n4 : ¬ b 15 0 = 4 := by rw [e]; decide
    rw [if_neg n3, if_neg n4, if_neg n3, if_neg hD, g0, if_pos hu]
    exact hz
  · have hz := hdat (Or.inr e)
    have hD : ¬ F_isData b = 0 := by
      unfold F_isData
      rw [e]
      decide
    have n3 : ¬ b 15 0 = 3 := by rw [e]; decide
    have n4 : ¬ b 15 0 = 4 := by rw [e]; decide
    rw [if_neg n3, if_neg n4, if_neg n3, if_neg hD, g0, if_pos hu]
    exact hz
  · rw [if_pos e, if_pos e, ec, (pf e h16).2]
    have hx := RN_mark (v := 1) (x := F_chosen b) hlt hh hr (h9 e)
    rw [hx.1.1]
    by_cases hup : (F_map b (ab b) 1 (F_chosen b)) 1 0 = 1
    · rw [if_pos hup, if_pos hup]
      have m15 := map_up (k := 15) (j := 0) hup (by decide)
      have m14 := map_up (k := 14) (j := 0) hup (by decide)
      have m17 := map_up (k := 17) (j := 0) hup (by decide)
      have hxt := (hx.2 (by rw [m14]; exact h14)).1
      obtain ⟨y0, y1, y2, y3, y4, y5, y6⟩ := hxt
      have e1 : C_mark a (ab b) 1 (F_chosen b) 12 1 = 3 := by rw [y0, m15, e]
      have e3 : C_mark a (ab b) 1 (F_chosen b) 12 3 = nI (ab b) := by rw [y1, m17, hw.1]
      have e7 : C_mark a (ab b) 1 (F_chosen b) 7 (ab b) = F_map b (ab b) 1 (F_chosen b) 10 (ab b) := (hx.1.2.2.2.2.2.2.2.1 (ab b) hlt).2.1
      have e9 : C_mark a (ab b) 1 (F_chosen b) 12 9 = F_map b (ab b) 1 (F_chosen b) 21 0 := y5 (by rw [m15]; exact e)
      unfold C_conl C_res F_proposed
      rw [if_pos e1, e3, if_pos (of_eq_true (yX hlt)), nI_cl (by omega), e7, e9]
      exact RN_fin hx
    · rw [if_neg hup, if_neg hup]
      exact hx
  · have n3 : ¬ b 15 0 = 3 := by rw [e]; decide
    have hD : F_isData b = 0 := by
      unfold F_isData
      rw [e]
      decide
    obtain ⟨i1, i2, i3⟩ := RN_ret hh hr e h14 16 (by decide)
    rw [if_neg n3, if_pos e, if_neg n3, if_pos hD, i1.1.1]
    by_cases hup : (F_ret b 16) 1 0 = 1
    · obtain ⟨j1, j2, j3, j4⟩ := i3 hup
      have hrt := (i1.2 (by rw [j1]; exact h14)).1
      have e1 : (C_ret a 16) 12 1 = 4 := by rw [hrt.1, j2, e]
      have e12 : (C_ret a 16) 12 12 = b 22 0 := by rw [hrt.2.2.2.2.2.2 (by rw [j2]; exact e), j4]
      rw [if_pos hup, if_pos hup]
      unfold C_conl C_res
      rw [e1, if_neg (by decide), if_pos rfl, e12, j4, hbc e]
      exact RN_fin i1
    · rw [if_neg hup, if_neg hup]
      exact i1
