/-! a node's own part of a phase: serve and hear against does -/
theorem un_comm {n : nv} {k k' j j' : Nat} {v v' : Int32} (h : k ≠ k') : un (un n k j v) k' j' v' = un (un n k' j' v') k j v := by
  funext x y
  by_cases h1 : x = k'
  · subst h1
    by_cases h2 : y = j'
    · subst h2
      rw [un_eq, un_nk (Ne.symm h), un_eq]
    · rw [un_nj h2, un_nk (Ne.symm h), un_nk (Ne.symm h), un_nj h2]
  · rw [un_nk h1]
    by_cases h3 : x = k
    · subst h3
      by_cases h4 : y = j
      · subst h4
        rw [un_eq, un_eq]
      · rw [un_nj h4, un_nj h4, un_nk h1]
    · rw [un_nk h3, un_nk h3, un_nk h1]
theorem best_un20 {b : nv} {q : Nat} {v x y z : Int32} : F_best (un b 20 0 v) q x y z = un (F_best b q x y z) 20 0 v := by
  unfold F_best
  rw [un_nk (by decide), un_nk (by decide)]
  split
  · rfl
  · rw [un_comm (k := 20) (k' := 27) (by decide), un_comm (k := 20) (k' := 28) (by decide), un_comm (k := 20) (k' := 29) (by decide)]
theorem best_k {b : nv} {q k j : Nat} {x y z : Int32} (h : k ≠ 27 ∧ k ≠ 28 ∧ k ≠ 29) : F_best b q x y z k j = b k j := by
  unfold F_best
  split
  · rfl
  · rw [un_nk h.2.2, un_nk h.2.1, un_nk h.1]
theorem hear_off {n an : nv} (h : ¬ n 0 1 = 1) : C_hear n an = n := by
  unfold C_hear
  rw [if_pos]
  left
  unfold C_busy
  rw [if_neg (fun hh => h hh.1)]
theorem hear_on {a b an : nv} (h : RN a b) (h1 : b 1 0 = 1) (h16 : ¬ b 16 0 = 0) (h14 : ¬ b 14 0 = 0) (e3 : an 0 3 = b 2 0) (e4 : an 0 4 = b 5 0) (eb : (b 20 0 >>> (an 0 1 &&& 31)) &&& 1 = 0) : C_hear a an =
    (if an 0 0 = 9 then C_raise a (an 0 6 / 8)
  else if an 0 0 = 2 then C_tg (un a 12 6 (b 20 0 ||| ((1 : Int32) <<< (an 0 1 &&& 31)))) (an 5) (an 6) (an 7) ((1 : Int32) <<< (an 0 5 &&& 31)) 4
  else if an 0 0 = 11 then C_tg (un a 12 6 (b 20 0 ||| ((1 : Int32) <<< (an 0 1 &&& 31)))) (an 5) (an 6) (an 7) 15 4
  else if an 0 0 = 6 ∧ ¬ an 0 6 ≤ a 12 10 then un (un (un a 12 6 (b 20 0 ||| ((1 : Int32) <<< (an 0 1 &&& 31)))) 12 10 (an 0 6)) 12 11 (an 0 7)
  else un a 12 6 (b 20 0 ||| ((1 : Int32) <<< (an 0 1 &&& 31)))) := by
  obtain ⟨⟨h0, g1, g2, g3, g4, g5, hc, hs, hn, hp⟩, ht⟩ := h
  obtain ⟨_, ⟨p0, p1, pb, pf⟩⟩ := ht h14
  unfold C_hear
  have hb : ¬ C_busy a = 0 := by
    unfold C_busy
    rw [if_pos ⟨by rw [h0]; exact h1, by rw [hp]; exact h16⟩]
    decide
  rw [p1, if_neg]
  rintro (hh | hh | hh | hh)
  · exact hb hh
  · rw [g1] at hh
    exact hh e3
  · rw [g3] at hh
    exact hh e4
  · exact hh eb
theorem ans_up {b : nv} {p : Nat} (h : b 1 0 = 1) : F_ans b p = un b 20 0 (b 20 0 ||| ((1 : Int32) <<< (nI p &&& 31))) := by
  unfold F_ans
  rw [if_pos h]
theorem ans_dn {b : nv} {p : Nat} (h : ¬ b 1 0 = 1) : F_ans b p = b := by
  unfold F_ans
  rw [if_neg h]
/-- what an answer of any kind but these does -/
theorem RN_plain {a b an : nv} {p : Nat} (h : RN a b) (h1 : b 1 0 = 1) (h16 : ¬ b 16 0 = 0) (h14 : ¬ b 14 0 = 0) (e1 : an 0 1 = nI p) (e3 : an 0 3 = b 2 0) (e4 : an 0 4 = b 5 0) (eb : (b 20 0 >>> (nI p &&& 31)) &&& 1 = 0) (k : an 0 0 = 4 ∨ an 0 0 = 8 ∨ an 0 0 = 13) : RN (C_hear a an) (F_ans b p) := by
  rw [hear_on h h1 h16 h14 e3 e4 (by rw [e1]; exact eb), ans_up h1, e1]
  have k9 : ¬ an 0 0 = 9 := by rcases k with k | k | k <;> rw [k] <;> decide
  have k2 : ¬ an 0 0 = 2 := by rcases k with k | k | k <;> rw [k] <;> decide
  have k11 : ¬ an 0 0 = 11 := by rcases k with k | k | k <;> rw [k] <;> decide
  have k6 : ¬ an 0 0 = 6 := by rcases k with k | k | k <;> rw [k] <;> decide
  rw [if_neg k9, if_neg k2, if_neg k11, if_neg (fun hh => k6 hh.1)]
  exact RN_ans h
/-- a request's own answer: ids and numbers -/
theorem oa_f {rp rq : nv} {id : Int32} : C_oa rp rq id 0 1 = id ∧ C_oa rp rq id 0 2 = rq 0 1 ∧ C_oa rp rq id 0 3 = rq 0 3 ∧ C_oa rp rq id 0 4 = rq 0 4 ∧ C_oa rp rq id 0 5 = 0 ∧ C_oa rp rq id 0 6 = 0 ∧ C_oa rp rq id 0 7 = 0 ∧ C_oa rp rq id 0 0 = 0 := by
  unfold C_oa C_clr
  refine ⟨?_, ?_, ?_, ?_, ?_, ?_, ?_, ?_⟩ <;> simp (disch := decide) only [un_nj, un_eq]
theorem cc_0 {d n : nv} {j : Nat} : C_cc d n 0 j = d 0 j := by
  unfold C_cc
  rw [ua_nk (by decide), ua_nk (by decide), ua_nk (by decide)]
theorem cc_5 {d n : nv} : C_cc d n 5 = n 2 ∧ C_cc d n 6 = n 3 ∧ C_cc d n 7 = n 4 := by
  unfold C_cc
  refine ⟨?_, ?_, ?_⟩ <;> simp (disch := decide) only [ua_nk, ua_eq]
/-- the reply's first fields, whatever the request -/
theorem srv2_f {n rq rp : nv} : C_srv2 n rq rp 0 1 = n 0 0 ∧ C_srv2 n rq rp 0 2 = rq 0 1 ∧ C_srv2 n rq rp 0 3 = rq 0 3 ∧ C_srv2 n rq rp 0 4 = rq 0 4 := by
  obtain ⟨o1, o2, o3, o4, o5, o6, o7, o0⟩ := oa_f (rp := rp) (rq := rq) (id := n 0 0)
  unfold C_srv2 C_vote2
  refine ⟨?_, ?_, ?_, ?_⟩ <;> (repeat' split) <;> simp (disch := decide) only [cc_0, un_nj, o1, o2, o3, o4]
section SELF
variable {a b d rp : nv} {p : Nat}
/-- a phase of node p that goes on, and the draft of its request -/
def SD (a b d : nv) (p : Nat) : Prop := RN a b ∧ Ar b ∧ b 1 0 = 1 ∧ (b 16 0 = 1 ∨ b 16 0 = 2) ∧ ¬ b 14 0 = 0 ∧ a 0 0 = nI p ∧ d 0 0 = rqk b ∧ d 0 3 = b 2 0 ∧ d 0 4 = b 5 0 ∧ (b 20 0 >>> (nI p &&& 31)) &&& 1 = 0
theorem ph_ne (h : b 16 0 = 1 ∨ b 16 0 = 2) : ¬ b 16 0 = 0 := by
  rcases h with h | h <;> rw [h] <;> decide
theorem RN_self1 (h : SD a b d p) (hd : ¬ F_isData b = 0) (hq : ab b < 4) (h1 : b 16 0 = 1) (e5 : d 0 5 = nI (ab b)) : RN (C_hear (C_srv1 a d) (C_srv2 a d rp)) (F_does b p) := by
  obtain ⟨hr, har, hu, hph, h14, hid, e0, e3, e4, eb⟩ := h
  have ek : d 0 0 = 1 := by
    rw [e0]
    unfold rqk
    rw [if_neg hd, if_pos h1]
  have es : C_srv1 a d = a := by
    unfold C_srv1
    simp only [ek, kq1_3, kq1_5, kq1_7, kq1_12, kq1_14, or_self, if_false]
  obtain ⟨f1, f2, f3, f4⟩ := srv2_f (n := a) (rq := d) (rp := rp)
  have g0 : C_srv2 a d rp 0 0 = 2 := by
    unfold C_srv2
    rw [if_pos ek, cc_0]
    simp (disch := decide) only [un_nj, un_eq]
  have g5 : C_srv2 a d rp 0 5 = nI (ab b) := by
    unfold C_srv2
    rw [if_pos ek, cc_0, un_eq, e5]
  have g6 : C_srv2 a d rp 5 = a 2 ∧ C_srv2 a d rp 6 = a 3 ∧ C_srv2 a d rp 7 = a 4 := by
    unfold C_srv2
    rw [if_pos ek]
    exact cc_5
  rw [es, hear_on hr hu (ph_ne hph) h14 (by rw [f3, e3]) (by rw [f4, e4]) (by rw [f1, hid]; exact eb), g0, f1, hid, g5, g6.1, g6.2.1, g6.2.2]
  rw [if_neg (by decide), if_pos rfl]
  have hx := RN_tg1 (x := a 2) (y := a 3) (z := a 4) hq (RN_ans (v := b 20 0 ||| ((1 : Int32) <<< (nI p &&& 31))) hr) (by rw [un_nk (by decide)]; exact h14)
  obtain ⟨c1, c2, c3⟩ := hr.1.2.2.2.2.2.2.1 (ab b) hq
  rw [c1, c2, c3, best_un20] at hx
  unfold F_does
  rw [if_neg hd, if_pos h1, ans_up (by rw [best_k (by decide)]; exact hu), best_k (k := 20) (by decide)]
  exact hx
theorem take_ext {n : nv} {x y z x' y' z' : Nat → Int32} {w : Int32} : ∀ k, (∀ j, j < k → x j = x' j ∧ y j = y' j ∧ z j = z' j) → C_take n x y z w k = C_take n x' y' z' w k := by
  intro k
  induction k with
  | zero =>
    intro _
    rfl
  | succ k ih =>
    intro h
    obtain ⟨e1, e2, e3⟩ := h k (by omega)
    rw [C_take, C_take, ih (fun j hj => h j (by omega)), e1, e2, e3]
theorem up_KF {n n' : nv} (h : KF n n') (hu : n' 1 0 = 1) : n' 2 0 = n 2 0 ∧ n' 5 0 = n 5 0 ∧ n' 14 0 = n 14 0 ∧ n' 16 0 = n 16 0 := by
  obtain ⟨_, _, _, _, _, h6⟩ := h
  obtain ⟨_, _, q1, q2, q3, q4, _⟩ := h6 hu
  exact ⟨q1, q2, q3, q4⟩
theorem store_20 {b : nv} {q : Nat} {x y z : Int32} : F_store b q x y z 20 0 = b 20 0 := by
  unfold F_store
  split
  · rfl
  · split
    · exact may_vk (by decide)
    · rw [un_nk (by decide), un_nk (by decide), un_nk (by decide), may_vk (by decide)]
theorem RN_self3 (h : SD a b d p) (hd : ¬ F_isData b = 0) (hq : ab b < 4) (h2 : b 16 0 = 2) (e5 : d 0 5 = nI (ab b)) (e7 : ∀ j, j < 4 → d 5 j = b 27 j ∧ d 6 j = b 28 j ∧ d 7 j = b 29 j) : RN (C_hear (C_srv1 a d) (C_srv2 a d rp)) (F_does b p) := by
  obtain ⟨hr, har, hu, hph, h14, hid, e0, e3, e4, eb⟩ := h
  have n1 : ¬ b 16 0 = 1 := by
    rw [h2]
    decide
  have ek : d 0 0 = 3 := by
    rw [e0]
    unfold rqk
    rw [if_neg hd, if_neg n1]
  have es : C_srv1 a d = C_take a (d 5) (d 6) (d 7) ((1 : Int32) <<< (nI (ab b) &&& 31)) 4 := by
    unfold C_srv1
    rw [if_pos ek, e5]
  obtain ⟨f1, f2, f3, f4⟩ := srv2_f (n := a) (rq := d) (rp := rp)
  have g0 : C_srv2 a d rp 0 0 = 4 := by
    unfold C_srv2
    simp only [ek, kq3_1, if_false, if_true]
    rw [un_eq]
  have hx := RN_take1 (x := d 5) (y := d 6) (z := d 7) hq hr har
  obtain ⟨c1, c2, c3⟩ := e7 (ab b) hq
  rw [c1, c2, c3] at hx
  unfold F_does
  rw [if_neg hd, if_neg n1, es]
  by_cases hup : (F_store b (ab b) (b 27 (ab b)) (b 28 (ab b)) (b 29 (ab b))) 1 0 = 1
  · obtain ⟨u1, u2, u3, u4⟩ := up_KF KF_store hup
    refine RN_plain hx hup (by rw [u4]; exact ph_ne hph) (by rw [u3]; exact h14) (by rw [f1, hid]) (by rw [f3, e3, u1]) (by rw [f4, e4, u2]) (by rw [store_20]; exact eb) (Or.inl g0)
  · rw [ans_dn hup, hear_off (by rw [hx.1.1]; exact hup)]
    exact hx
theorem all_g {b : nv} (h : b 16 0 = 1) : ∀ k, F_all b k 16 0 = 1 ∧ F_all b (k + 1) = F_best (F_all b k) k ((F_all b k) 6 k) ((F_all b k) 7 k) ((F_all b k) 8 k) := by
  have h16 : ∀ k, F_all b k 16 0 = 1 := by
    intro k
    induction k with
    | zero => exact h
    | succ k ih =>
      rw [F_all, if_pos ih, best_k (by decide)]
      exact ih
  intro k
  exact ⟨h16 k, by rw [F_all, if_pos (h16 k)]⟩
theorem all_k {b : nv} {k k' j : Nat} (h : b 16 0 = 1) (hk : k' ≠ 27 ∧ k' ≠ 28 ∧ k' ≠ 29) : F_all b k k' j = b k' j := by
  induction k with
  | zero => rfl
  | succ k ih => rw [(all_g h k).2, best_k hk, ih]
theorem all_un20 {b : nv} {v : Int32} {k : Nat} (h : b 16 0 = 1) : F_all (un b 20 0 v) k = un (F_all b k) 20 0 v := by
  have h' : (un b 20 0 v) 16 0 = 1 := by
    rw [un_nk (by decide)]
    exact h
  induction k with
  | zero => rfl
  | succ k ih => rw [(all_g h' k).2, (all_g h k).2, ih, un_nk (by decide), un_nk (by decide), un_nk (by decide), best_un20]
theorem RN_self10 (h : SD a b d p) (hd : b 15 0 = 4) (h1 : b 16 0 = 1) : RN (C_hear (C_srv1 a d) (C_srv2 a d rp)) (F_does b p) := by
  obtain ⟨hr, har, hu, hph, h14, hid, e0, e3, e4, eb⟩ := h
  have hdd : F_isData b = 0 := by
    unfold F_isData
    rw [hd]
    decide
  have n3 : ¬ b 15 0 = 3 := by
    rw [hd]
    decide
  have ek : d 0 0 = 10 := by
    rw [e0]
    unfold rqk
    rw [if_pos hdd, if_neg n3, if_pos h1]
  have es : C_srv1 a d = a := by
    unfold C_srv1
    simp only [ek, kq10_3, kq10_5, kq10_7, kq10_12, kq10_14, or_self, if_false]
  obtain ⟨f1, f2, f3, f4⟩ := srv2_f (n := a) (rq := d) (rp := rp)
  have gg : C_srv2 a d rp = C_cc (un (C_oa rp d (a 0 0)) 0 0 11) a := by
    unfold C_srv2
    simp only [ek, kq10_1, kq10_3, kq10_5, kq10_7, or_self, if_false, if_true]
  have g0 : C_srv2 a d rp 0 0 = 11 := by rw [gg, cc_0, un_eq]
  have g6 : C_srv2 a d rp 5 = a 2 ∧ C_srv2 a d rp 6 = a 3 ∧ C_srv2 a d rp 7 = a 4 := by
    rw [gg]
    exact cc_5
  rw [es, hear_on hr hu (ph_ne hph) h14 (by rw [f3, e3]) (by rw [f4, e4]) (by rw [f1, hid]; exact eb), g0, f1, hid, g6.1, g6.2.1, g6.2.2]
  rw [if_neg (by decide), if_neg (by decide), if_pos rfl]
  have h' : (un b 20 0 (b 20 0 ||| ((1 : Int32) <<< (nI p &&& 31)))) 16 0 = 1 := by
    rw [un_nk (by decide)]
    exact h1
  have hx := (RN_tgA (x := a 2) (y := a 3) (z := a 4) (G := fun k => F_all (un b 20 0 (b 20 0 ||| ((1 : Int32) <<< (nI p &&& 31)))) k) (RN_ans (v := b 20 0 ||| ((1 : Int32) <<< (nI p &&& 31))) hr) (by rw [un_nk (by decide)]; exact h14) rfl (fun k hk => by
    obtain ⟨c1, c2, c3⟩ := hr.1.2.2.2.2.2.2.1 k hk
    show F_all _ (k + 1) = _
    rw [(all_g h' k).2, all_k h' (by decide), all_k h' (by decide), all_k h' (by decide), un_nk (by decide), un_nk (by decide), un_nk (by decide), c1, c2, c3]) 4 (by decide)).1
  have hx2 : RN (C_tg (un a 12 6 (b 20 0 ||| ((1 : Int32) <<< (nI p &&& 31)))) (a 2) (a 3) (a 4) 15 4) (F_all (un b 20 0 (b 20 0 ||| ((1 : Int32) <<< (nI p &&& 31)))) 4) := hx
  rw [all_un20 h1] at hx2
  unfold F_does
  rw [if_pos hdd, if_pos hd, ans_up (by rw [all_k h1 (by decide)]; exact hu), all_k (k' := 20) h1 (by decide)]
  exact hx2
theorem all2 {b : nv} (h : b 16 0 = 2) : ∀ k, (F_all b k 16 0 = 1 → False) ∧ F_all b (k + 1) = F_store (F_all b k) k ((F_all b k) 27 k) ((F_all b k) 28 k) ((F_all b k) 29 k) := by
  have h16 : ∀ k, F_all b k 16 0 = 2 ∨ F_all b k 16 0 = 0 := by
    intro k
    induction k with
    | zero => exact Or.inl h
    | succ k ih =>
      have n1 : ¬ F_all b k 16 0 = 1 := by rcases ih with e | e <;> rw [e] <;> decide
      rw [F_all, if_neg n1]
      unfold F_store F_may F_down
      by_cases c0 : f_isGreater ((F_all b k) 27 k) ((F_all b k) 28 k) ((F_all b k) 6 k) ((F_all b k) 7 k) = 0
      · rw [if_pos c0]
        exact ih
      · rw [if_neg c0]
        by_cases c1 : (F_all b k) 1 0 = 1
        · by_cases c2 : (F_all b k) 4 0 = 1
          · simp only [c1, c2, if_true]
            right
            simp (disch := decide) only [un_nk, un_eq]
          · simp only [c1, c2, if_true, if_false, k10]
            simp (disch := decide) only [un_nk]
            exact ih
        · simp only [c1, if_false, if_true]
          exact ih
  intro k
  have n1 : ¬ F_all b k 16 0 = 1 := by rcases h16 k with e | e <;> rw [e] <;> decide
  exact ⟨n1, by rw [F_all, if_neg n1]⟩
theorem store_k {b : nv} {q k j : Nat} {x y z : Int32} (h : k ≠ 1 ∧ k ≠ 4 ∧ k ≠ 14 ∧ k ≠ 15 ∧ k ≠ 16 ∧ k ≠ 5 ∧ k ≠ 32) (h' : k ≠ 6 ∧ k ≠ 7 ∧ k ≠ 8) : F_store b q x y z k j = b k j := by
  unfold F_store
  split
  · rfl
  · split
    · exact may_vk h
    · rw [un_nk h'.2.2, un_nk h'.2.1, un_nk h'.1, may_vk h]
theorem all2_k {b : nv} {k k' j : Nat} (h2 : b 16 0 = 2) (h : k' ≠ 1 ∧ k' ≠ 4 ∧ k' ≠ 14 ∧ k' ≠ 15 ∧ k' ≠ 16 ∧ k' ≠ 5 ∧ k' ≠ 32) (h' : k' ≠ 6 ∧ k' ≠ 7 ∧ k' ≠ 8) : F_all b k k' j = b k' j := by
  induction k with
  | zero => rfl
  | succ k ih => rw [(all2 h2 k).2, store_k h h', ih]
theorem RN_self12 (h : SD a b d p) (hd : b 15 0 = 4) (h2 : b 16 0 = 2) (e7 : ∀ j, j < 4 → d 5 j = b 27 j ∧ d 6 j = b 28 j ∧ d 7 j = b 29 j) : RN (C_hear (C_srv1 a d) (C_srv2 a d rp)) (F_does b p) := by
  obtain ⟨hr, har, hu, hph, h14, hid, e0, e3, e4, eb⟩ := h
  have hdd : F_isData b = 0 := by
    unfold F_isData
    rw [hd]
    decide
  have n3 : ¬ b 15 0 = 3 := by
    rw [hd]
    decide
  have n1 : ¬ b 16 0 = 1 := by
    rw [h2]
    decide
  have ek : d 0 0 = 12 := by
    rw [e0]
    unfold rqk
    rw [if_pos hdd, if_neg n3, if_neg n1]
  have es : C_srv1 a d = C_take a (d 5) (d 6) (d 7) 15 4 := by
    unfold C_srv1
    simp only [ek, kq12_3, kq12_5, kq12_7, or_self, true_or, if_false, if_true]
  obtain ⟨f1, f2, f3, f4⟩ := srv2_f (n := a) (rq := d) (rp := rp)
  have g0 : C_srv2 a d rp 0 0 = 13 := by
    unfold C_srv2
    simp only [ek, kq12_1, kq12_3, kq12_5, kq12_7, kq12_10, or_self, if_false, if_true]
    rw [un_eq]
  have hx := (RN_takeA (x := d 5) (y := d 6) (z := d 7) (G := fun k => F_all b k) hr har rfl (fun k hk => by
    obtain ⟨c1, c2, c3⟩ := e7 k hk
    show F_all b (k + 1) = _
    rw [(all2 h2 k).2, all2_k h2 (by decide) (by decide), all2_k h2 (by decide) (by decide), all2_k h2 (by decide) (by decide), c1, c2, c3]) 4 (by decide)).1
  have hx2 : RN (C_take a (d 5) (d 6) (d 7) 15 4) (F_all b 4) := hx
  unfold F_does
  rw [if_pos hdd, if_pos hd, es]
  by_cases hup : (F_all b 4) 1 0 = 1
  · obtain ⟨u1, u2, u3, u4⟩ := up_KF (KF_all (n := b) (k := 4)) hup
    refine RN_plain hx2 hup (by rw [u4]; exact ph_ne hph) (by rw [u3]; exact h14) (by rw [f1, hid]) (by rw [f3, e3, u1]) (by rw [f4, e4, u2]) (by rw [all2_k h2 (by decide) (by decide)]; exact eb) (Or.inr (Or.inr g0))
  · rw [ans_dn hup, hear_off (by rw [hx2.1.1]; exact hup)]
    exact hx2
end SELF
