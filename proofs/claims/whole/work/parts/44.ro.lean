/-! merge, look, settle against merges -/
theorem SI_of {b b' : nv} {i : Nat} (h : SI b i) (e : ∀ k j, k ≠ 4 → k ≠ 9 → k ≠ 10 → k ≠ 32 → b' k j = b k j) (har : Ar b') : SI b' i := by
  obtain ⟨hw, _, hv, h23, h25, hbit, h15, h16, h14⟩ := h
  have q : ∀ k j, k ≠ 4 ∧ k ≠ 9 ∧ k ≠ 10 ∧ k ≠ 32 → b' k j = b k j := fun k j hk => e k j hk.1 hk.2.1 hk.2.2.1 hk.2.2.2
  refine ⟨Wn_of hw (q 17 0 (by decide)) (q 24 0 (by decide)) (Or.inl (q 15 0 (by decide))), har, fun x => ?_, ?_, ?_, ?_, ?_, ?_, ?_⟩
  · rw [q 11 x (by decide), q 12 x (by decide)]
    exact hv x
  · rw [q 23 0 (by decide)]
    exact h23
  · rw [q 25 0 (by decide)]
    exact h25
  · rw [q 19 0 (by decide), q 20 0 (by decide)]
    exact hbit
  · rw [q 15 0 (by decide)]
    exact h15
  · rw [q 16 0 (by decide)]
    exact h16
  · rw [q 14 0 (by decide)]
    exact h14
theorem may1_up {b : nv} (h : ¬ (F_may b).1 = 0) : (F_may b).2 1 0 = 1 ∧ b 1 0 = 1 := by
  unfold F_may at h ⊢
  by_cases c1 : b 1 0 = 1
  · by_cases c2 : b 4 0 = 1
    · simp only [c1, c2, if_true] at h
      exact absurd trivial h
    · simp only [c1, c2, if_true, if_false]
      refine ⟨?_, trivial⟩
      rw [un_nk (by decide), un_nk (by decide)]
      exact c1
  · simp only [c1, if_false] at h
    exact absurd trivial h
theorem may0_dn {b : nv} (h : (F_may b).1 = 0) : ¬ (F_may b).2 1 0 = 1 := by
  unfold F_may at h ⊢
  by_cases c1 : b 1 0 = 1
  · by_cases c2 : b 4 0 = 1
    · simp only [c1, c2, if_true]
      unfold F_down
      simp (disch := decide) only [un_nk, un_eq]
      decide
    · simp only [c1, c2, if_true, if_false] at h
      exact absurd h (by decide)
  · simp only [c1, if_false]
    exact not_false
theorem RR_merges {s : cS} {a : rA} {i : Nat} {v : nv} (hi : i < 8) (hr : RR s a) (har : Ar (a.1 i)) (h3 : ∃ m, m < 134217728 ∧ a.1 i 3 0 = nI m) (hb : a.1 i 1 0 = 1 → ¬ a.1 i 16 0 = 0 → BI (a.1 i) i) (hm : ∀ k, k < 16 → v 2 k = a.2.2.1 (9 + 2 * k) ∧ v 3 k = a.2.2.1 (9 + 2 * k + 1)) (hw : ∀ k, k < 16 → a.2.2.1 (9 + 2 * k) = 0 ∨ a.2.2.1 (9 + 2 * k) = 1 ∨ a.2.2.1 (9 + 2 * k) = 2) : RR (if (C_merge (s.1 i) (v 2) (v 3)).1 = 0 then cN s i (C_merge (s.1 i) (v 2) (v 3)).2 else K_set (K_look (cN s i (C_merge (s.1 i) (v 2) (v 3)).2) i (hav (s.1 i 6) 1 16)) i) (A_merges a i) ∧ ((A_merges a i).1 i 1 0 = 1 → ¬ (A_merges a i).1 i 16 0 = 0 → BI ((A_merges a i).1 i) i) := by
  obtain ⟨hn, hid⟩ := hr.1 i hi
  have e9 : ∀ k, k < 16 → s.1 i 6 k = a.1 i 9 k := fun k hk => (hn.1.2.2.2.2.2.2.2.1 k hk).1
  have hch : chg (a.1 i) a.2.2.1 16 = bh (s.1 i 6) (v 2) 16 := chg_bh 16 (by decide) (fun k hk => ⟨e9 k hk, (hm k hk).1⟩)
  obtain ⟨m1, m2⟩ := RN_may hn har
  unfold A_merges C_merge
  rw [hch, m1]
  by_cases c0 : bh (s.1 i 6) (v 2) 16 = 0
  · rw [if_pos c0, if_pos c0]
    simp only [if_true, cN_self]
    exact ⟨hr, hb⟩
  · rw [if_neg c0, if_neg c0]
    by_cases c1 : (F_may (a.1 i)).1 = 0
    · rw [if_pos c1, if_pos c1]
      simp only [if_true]
      refine ⟨RR_N hr m2 cmay_00, fun hu => ?_⟩
      rw [pN_eq] at hu
      exact absurd hu (may0_dn c1)
    · rw [if_neg c1, if_neg c1]
      simp only [k10, if_false]
      obtain ⟨u1, u2⟩ := may1_up c1
      have hmr := RN_mrg (w := a.2.2.1) (x := v 2) (y := v 3) m2 hm 16 (by decide)
      have h00 : C_mrg (C_may (s.1 i)).2 (v 2) (v 3) 16 0 0 = s.1 i 0 0 := by
        have hg : ∀ n : nv, ∀ m, C_mrg n (v 2) (v 3) m 0 0 = n 0 0 := by
          intro n m
          induction m with
          | zero => rfl
          | succ m ih =>
            rw [C_mrg]
            split
            · exact ih
            · rw [un_nk (by decide), un_nk (by decide), ih]
        rw [hg, cmay_00]
      have hr2 := RR_N hr hmr h00
      have ek : ∀ k j, k ≠ 4 → k ≠ 9 → k ≠ 10 → k ≠ 32 → F_mrg (F_may (a.1 i)).2 a.2.2.1 16 k j = a.1 i k j := by
        intro k j g1 g2 g3 g4
        rw [mrg_k ⟨g2, g3⟩, may_up u1 ⟨g1, g4⟩]
      have har2 : Ar (F_mrg (F_may (a.1 i)).2 a.2.2.1 16) := by
        obtain ⟨m, hm, em⟩ := Ar_may har
        exact ⟨m, hm, by rw [mrg_k (by decide)]; exact em⟩
      have e1 : F_mrg (F_may (a.1 i)).2 a.2.2.1 16 1 0 = 1 := by
        rw [ek 1 0 (by decide) (by decide) (by decide) (by decide)]
        exact u2
      refine RR_looks hi hr2 (by rw [pN_eq]; exact e1) ?_ ?_ ?_
      · rw [pN_eq, ek 3 0 (by decide) (by decide) (by decide) (by decide)]
        exact h3
      · rw [pN_eq, ek 16 0 (by decide) (by decide) (by decide) (by decide)]
        intro hp
        obtain ⟨b0, b1, b2, _, b4⟩ := hb u2 hp
        have ea : ab (F_mrg (F_may (a.1 i)).2 a.2.2.1 16) = ab (a.1 i) := by
          unfold ab
          rw [ek 17 0 (by decide) (by decide) (by decide) (by decide)]
        have eb : bs (F_mrg (F_may (a.1 i)).2 a.2.2.1 16) = bs (a.1 i) := by
          unfold bs
          rw [ek 24 0 (by decide) (by decide) (by decide) (by decide)]
        refine ⟨SI_of b0 ek har2, ?_, ?_, ?_⟩
        · rw [ek 15 0 (by decide) (by decide) (by decide) (by decide), ea, eb]
          exact b1
        · rw [ek 15 0 (by decide) (by decide) (by decide) (by decide), ek 23 0 (by decide) (by decide) (by decide) (by decide)]
          exact b2
        · rw [ek 15 0 (by decide) (by decide) (by decide) (by decide), ek 22 0 (by decide) (by decide) (by decide) (by decide)]
          exact b4
      · rw [cN_eq]
        refine rtd_hav e9 (fun k hk => ?_) hw
        rw [(hmr.1.2.2.2.2.2.2.2.1 k hk).1, mrg_9 16, mrg_9 16, may_vk (by decide)]
/-! answers: hear and settle against count -/
theorem RN_t1x {a b : nv} {j : Nat} {x : Int32} (hj : j = 10 ∨ j = 11) (h : RN a b) (n3 : ¬ b 15 0 = 3) : RN (un a 12 j x) b := by
  obtain ⟨⟨g0, g1, g2, g3, g4, g5, hc, hs, hn, hp⟩, ht⟩ := h
  have q0 : ∀ k, (un a 12 j x) 0 k = a 0 k := fun k => un_nk (by decide)
  have q12 : ∀ k, k ≠ 10 ∧ k ≠ 11 → (un a 12 j x) 12 k = a 12 k := fun k hk => un_nj (by omega)
  have qk : ∀ k y, k ≠ 12 → (un a 12 j x) k y = a k y := fun k y hk => un_nk hk
  refine ⟨⟨by rw [q0]; exact g0, by rw [q0]; exact g1, by rw [q0]; exact g2, by rw [q0]; exact g3, by rw [q0]; exact g4, by rw [q0]; exact g5, fun j' hj' => ?_, fun j' hj' => ?_, by rw [q12 0 (by decide)]; exact hn, by rw [q12 2 (by decide)]; exact hp⟩, fun hne => ?_⟩
  · rw [qk 2 _ (by decide), qk 3 _ (by decide), qk 4 _ (by decide)]
    exact hc j' hj'
  · rw [qk 6 _ (by decide), qk 7 _ (by decide), qk 9 _ (by decide), qk 10 _ (by decide), qk 11 _ (by decide)]
    exact hs j' hj'
  · obtain ⟨⟨t0, t1, t2, t3, u0, u1, u2⟩, ⟨p0, p1, pb, pf⟩⟩ := ht hne
    refine ⟨⟨by rw [q12 1 (by decide)]; exact t0, by rw [q12 3 (by decide)]; exact t1, by rw [q12 4 (by decide)]; exact t2, by rw [q12 7 (by decide)]; exact t3, by rw [q12 8 (by decide)]; exact u0, by rw [q12 9 (by decide)]; exact u1, by rw [q12 12 (by decide)]; exact u2⟩, ⟨by rw [q12 5 (by decide)]; exact p0, by rw [q12 6 (by decide)]; exact p1, fun j' hj' => ?_, fun hh => absurd hh n3⟩⟩
    rw [qk 14 _ (by decide), qk 15 _ (by decide), qk 16 _ (by decide)]
    exact pb j' hj'
theorem RN_topn {a b : nv} {x y : Int32} (h : RN a b) (n3 : ¬ b 15 0 = 3) : RN a (F_top b x y) := by
  obtain ⟨hb, ht⟩ := h
  refine ⟨?_, fun hne => ?_⟩
  · unfold RB at hb ⊢
    simp (disch := decide) only [top_k]
    exact hb
  · rw [top_k (by decide)] at hne
    obtain ⟨hT, ⟨p0, p1, pb, pf⟩⟩ := ht hne
    refine ⟨?_, ⟨?_, ?_, ?_, fun hh => ?_⟩⟩
    · unfold RT at hT ⊢
      simp (disch := decide) only [top_k]
      exact hT
    · rw [top_k (by decide)]
      exact p0
    · rw [top_k (by decide)]
      exact p1
    · simp (disch := decide) only [top_k]
      exact pb
    · rw [top_k (by decide)] at hh
      exact absurd hh n3
theorem RN_has {a b an : nv} {w : Nat → Int32} (h : RN a b) (hu : b 1 0 = 1) (h16 : ¬ b 16 0 = 0) (h14 : ¬ b 14 0 = 0) (e1 : an 0 1 = w 1) (e3 : an 0 3 = b 2 0) (e4 : an 0 4 = b 5 0) (eb : (b 20 0 >>> (w 1 &&& 31)) &&& 1 = 0) (hk : an 0 0 = w 0) (h9 : ¬ w 0 = 9) (h25 : 0 ≤ b 25 0) (e5 : w 0 = 2 → an 0 5 = nI (ab b) ∧ ab b < 4 ∧ an 5 (ab b) = w 6 ∧ an 6 (ab b) = w 7 ∧ an 7 (ab b) = w 8) (e6 : w 0 = 6 → an 0 6 = w 6 ∧ an 0 7 = w 7) (e11 : w 0 = 11 → ∀ k, k < 4 → an 5 k = w (41 + 3 * k) ∧ an 6 k = w (41 + 3 * k + 1) ∧ an 7 k = w (41 + 3 * k + 2)) : RN (C_hear a an) (un (if w 0 = 2 then F_best b (ab b) (w 6) (w 7) (w 8) else if w 0 = 6 then F_top b (w 6) (w 7) else if w 0 = 11 then F_bestAll b w 4 else b) 20 0 (b 20 0 ||| ((1 : Int32) <<< (w 1 &&& 31)))) := by
  rw [hear_on h hu h16 h14 e3 e4 (by rw [e1]; exact eb), hk, e1, if_neg h9]
  by_cases c2 : w 0 = 2
  · obtain ⟨z1, z2, z3, z4, z5⟩ := e5 c2
    have hx := RN_tg1 (x := an 5) (y := an 6) (z := an 7) z2 (RN_ans (v := b 20 0 ||| ((1 : Int32) <<< (w 1 &&& 31))) h) (by rw [un_nk (by decide)]; exact h14)
    rw [z3, z4, z5, best_un20] at hx
    rw [if_pos c2, if_pos c2, z1]
    exact hx
  · rw [if_neg c2, if_neg c2]
    by_cases c11 : w 0 = 11
    · have n6 : ¬ w 0 = 6 := by
        rw [c11]
        decide
      rw [if_pos c11, if_neg n6, if_pos c11]
      have hg : ∀ k, F_bestAll (un b 20 0 (b 20 0 ||| ((1 : Int32) <<< (w 1 &&& 31)))) w k = un (F_bestAll b w k) 20 0 (b 20 0 ||| ((1 : Int32) <<< (w 1 &&& 31))) := by
        intro k
        induction k with
        | zero => rfl
        | succ k ih => rw [F_bestAll, F_bestAll, ih, best_un20]
      have hx := (RN_tgA (x := an 5) (y := an 6) (z := an 7) (G := fun k => F_bestAll (un b 20 0 (b 20 0 ||| ((1 : Int32) <<< (w 1 &&& 31)))) w k) (RN_ans (v := b 20 0 ||| ((1 : Int32) <<< (w 1 &&& 31))) h) (by rw [un_nk (by decide)]; exact h14) rfl (fun k hk => by
        obtain ⟨z1, z2, z3⟩ := e11 c11 k hk
        show F_bestAll _ w (k + 1) = _
        rw [F_bestAll, z1, z2, z3]) 4 (by decide)).1
      have hx2 : RN (C_tg (un a 12 6 (b 20 0 ||| ((1 : Int32) <<< (w 1 &&& 31)))) (an 5) (an 6) (an 7) 15 4) (F_bestAll (un b 20 0 (b 20 0 ||| ((1 : Int32) <<< (w 1 &&& 31)))) w 4) := hx
      rw [hg] at hx2
      exact hx2
    · rw [if_neg c11]
      by_cases c6 : w 0 = 6
      · obtain ⟨z1, z2⟩ := e6 c6
        rw [if_pos c6, z1, z2]
        by_cases h15 : b 15 0 = 3
        · have hz := RN_ans (v := b 20 0 ||| ((1 : Int32) <<< (w 1 &&& 31))) (RN_top (x := w 6) (y := w 7) h h14 h16 h15 h25)
          by_cases hc : w 6 ≤ a 12 10
          · rw [if_pos hc] at hz
            rw [if_neg (fun hh => hh.2 hc)]
            exact hz
          · rw [if_neg hc] at hz
            rw [if_pos ⟨c6, hc⟩]
            rw [un_commj (j := 11) (j' := 6) (by decide), un_commj (j := 10) (j' := 6) (by decide)] at hz
            exact hz
        · have hz := RN_ans (v := b 20 0 ||| ((1 : Int32) <<< (w 1 &&& 31))) (RN_topn (x := w 6) (y := w 7) h h15)
          have n15 : ¬ (un (F_top b (w 6) (w 7)) 20 0 (b 20 0 ||| ((1 : Int32) <<< (w 1 &&& 31)))) 15 0 = 3 := by
            rw [un_nk (by decide), top_k (by decide)]
            exact h15
          by_cases hc : w 6 ≤ a 12 10
          · rw [if_neg (fun hh => hh.2 hc)]
            exact hz
          · rw [if_pos ⟨c6, hc⟩]
            exact RN_t1x (Or.inr rfl) (RN_t1x (Or.inl rfl) hz n15) n15
      · rw [if_neg (fun hh => c6 hh.1), if_neg c6, if_neg c11]
        exact RN_ans h
