/-! a PROPOSAL's own part -/
theorem un_commj {n : nv} {k j j' : Nat} {v v' : Int32} (h : j ≠ j') : un (un n k j v) k j' v' = un (un n k j' v') k j v := by
  funext x y
  by_cases h1 : x = k
  · subst h1
    by_cases h2 : y = j'
    · subst h2
      rw [un_eq, un_nj (Ne.symm h), un_eq]
    · rw [un_nj h2]
      by_cases h3 : y = j
      · subst h3
        rw [un_eq, un_eq]
      · rw [un_nj h3, un_nj h3, un_nj h2]
  · rw [un_nk h1, un_nk h1, un_nk h1, un_nk h1]
theorem top_k {b : nv} {k j : Nat} {x y : Int32} (h : k ≠ 25 ∧ k ≠ 26) : F_top b x y k j = b k j := by
  unfold F_top
  split
  · rfl
  · rw [un_nk h.2, un_nk h.1]
theorem RN_top0 {a b : nv} {x y : Int32} (h : RN a b) (h0 : b 14 0 = 0) : RN a (F_top b x y) := by
  have hb := h.1
  refine ⟨?_, fun hne => ?_⟩
  · unfold RB at hb ⊢
    simp (disch := decide) only [top_k]
    exact hb
  · exfalso
    apply hne
    rw [top_k (by decide)]
    exact h0
theorem RN_top {a b : nv} {x y : Int32} (h : RN a b) (h14 : ¬ b 14 0 = 0) (h16 : ¬ b 16 0 = 0) (h15 : b 15 0 = 3) (h25 : 0 ≤ b 25 0) : RN (if x ≤ a 12 10 then a else un (un a 12 10 x) 12 11 y) (F_top b x y) := by
  obtain ⟨hb, ht⟩ := h
  obtain ⟨⟨t0, t1, t2, t3, u0, u1, u2⟩, ⟨p0, p1, pb, pf⟩⟩ := ht h14
  obtain ⟨f1, f2⟩ := pf h15 h16
  unfold F_top
  rw [f1]
  by_cases hx : x ≤ b 25 0
  · rw [if_pos hx, if_pos hx]
    exact ⟨hb, ht⟩
  · rw [if_neg hx, if_neg hx]
    have hx0 : ¬ x ≤ 0 := fun hh => hx (Int32.le_trans hh h25)
    refine ⟨?_, fun _ => ⟨⟨?_, ?_, ?_, ?_, ?_, ?_, ?_⟩, ⟨?_, ?_, ?_, ?_⟩⟩⟩
    · unfold RB at hb ⊢
      simp (disch := decide) only [un_nk, un_nj]
      exact hb
    · simp (disch := decide) only [un_nk, un_nj]
      exact t0
    · simp (disch := decide) only [un_nk, un_nj]
      exact t1
    · simp (disch := decide) only [un_nk, un_nj]
      exact t2
    · simp (disch := decide) only [un_nk, un_nj]
      exact t3
    · simp (disch := decide) only [un_nk, un_nj]
      exact u0
    · simp (disch := decide) only [un_nk, un_nj]
      exact u1
    · simp (disch := decide) only [un_nk, un_nj]
      exact u2
    · simp (disch := decide) only [un_nk, un_nj]
      exact p0
    · simp (disch := decide) only [un_nk, un_nj]
      exact p1
    · simp (disch := decide) only [un_nk, un_nj]
      exact pb
    · intro _ _
      refine ⟨?_, ?_⟩
      · simp (disch := decide) only [un_nk, un_nj, un_eq]
      · unfold F_chosen
        simp (disch := decide) only [un_nk, un_nj, un_eq]
        rw [if_neg hx0]
theorem vote_k {b : nv} {q k j : Nat} {x y z : Int32} (h : k ≠ 1 ∧ k ≠ 4 ∧ k ≠ 14 ∧ k ≠ 15 ∧ k ≠ 16 ∧ k ≠ 5 ∧ k ≠ 32) (h' : k ≠ 11 ∧ k ≠ 12 ∧ k ≠ 13) : F_vote b q x y z k j = b k j := by
  unfold F_vote
  split
  · rfl
  · split
    · exact may_vk h
    · rw [un_nk h'.2.2, un_nk h'.2.1, un_nk h'.1, may_vk h]
theorem prep_k {b : nv} {q : Nat} {x : Int32} : F_vote b q x (b 12 q) (b 13 q) 12 q = b 12 q ∧ F_vote b q x (b 12 q) (b 13 q) 13 q = b 13 q := by
  unfold F_vote
  split
  · exact ⟨rfl, rfl⟩
  · split
    · exact ⟨may_vk (by decide), may_vk (by decide)⟩
    · exact ⟨by rw [un_nk (by decide), un_eq], by rw [un_eq]⟩
theorem may_dn {b : nv} (hu : b 1 0 = 1) (h : ¬ (F_may b).2 1 0 = 1) : (F_may b).2 14 0 = 0 := by
  unfold F_may F_down at h ⊢
  by_cases h2 : b 4 0 = 1
  · simp only [hu, h2, if_true]
    simp (disch := decide) only [un_nk, un_eq]
  · exfalso
    apply h
    simp only [hu, h2, if_true, if_false]
    simp (disch := decide) only [un_nk]
    exact hu
theorem vote_dn {b : nv} {q : Nat} {x y z : Int32} (hu : b 1 0 = 1) (h : ¬ (F_vote b q x y z) 1 0 = 1) : (F_vote b q x y z) 14 0 = 0 := by
  unfold F_vote at h ⊢
  split
  · rename_i hc
    rw [if_pos hc] at h
    exact absurd hu h
  · rename_i hc
    rw [if_neg hc] at h
    split
    · rename_i h0
      rw [if_pos h0] at h
      exact may_dn hu h
    · rename_i h0
      rw [if_neg h0, un_nk (by decide), un_nk (by decide), un_nk (by decide)] at h
      rw [un_nk (by decide), un_nk (by decide), un_nk (by decide)]
      exact may_dn hu h
theorem div8 {m : Nat} (h : m < 2147483648) : nI m / (8 : Int32) = nI m >>> ((3 : Int32) &&& 31) := by
  rw [show (8 : Int32) = nI 8 from rfl, pk_div h (by decide) (by decide), pk_shrN h (3 &&& 31) 3 (by decide)]
section SELF2
variable {a b d rp : nv} {p : Nat}
theorem RN_ref (h : SD a b d p) (hv : ∃ m, m < 2147483648 ∧ b 11 (ab b) = nI m) (hq : ab b < 16) (g0 : C_srv2 a d rp 0 0 = 9) (g6 : C_srv2 a d rp 0 6 = a 9 (ab b)) (es : C_srv1 a d = a) : RN (C_hear (C_srv1 a d) (C_srv2 a d rp)) (F_refused b (b 11 (ab b))) := by
  obtain ⟨hr, har, hu, hph, h14, hid, e0, e3, e4, eb⟩ := h
  obtain ⟨f1, f2, f3, f4⟩ := srv2_f (n := a) (rq := d) (rp := rp)
  obtain ⟨_, _, v1, v2, v3⟩ := hr.1.2.2.2.2.2.2.2.1 (ab b) hq
  obtain ⟨m, hm, em⟩ := hv
  rw [es, hear_on hr hu (ph_ne hph) h14 (by rw [f3, e3]) (by rw [f4, e4]) (by rw [f1, hid]; exact eb), g0, if_pos rfl, g6, v1]
  unfold F_refused
  rw [em, ← div8 hm]
  exact RN_raise hr har
theorem RN_self5 (h : SD a b d p) (h15 : b 15 0 = 3) (h1 : b 16 0 = 1) (hq : ab b < 16) (h25 : 0 ≤ b 25 0) (hv : ∃ m, m < 2147483648 ∧ b 11 (ab b) = nI m) (e5 : d 0 5 = nI (ab b)) (e6 : d 0 6 = b 23 0) : RN (C_hear (C_srv1 a d) (C_srv2 a d rp)) (F_does b p) := by
  have hh := h
  obtain ⟨hr, har, hu, hph, h14, hid, e0, e3, e4, eb⟩ := h
  have hdd : F_isData b = 0 := by
    unfold F_isData
    rw [h15]
    decide
  have n4 : ¬ b 15 0 = 4 := by
    rw [h15]
    decide
  have n2 : ¬ b 16 0 = 2 := by
    rw [h1]
    decide
  have ek : d 0 0 = 5 := by
    rw [e0]
    unfold rqk
    rw [if_pos hdd, if_pos h15, if_pos h1]
  have ec : (d 0 5).toNatClampNeg = ab b := by rw [e5, nI_cl (by omega)]
  obtain ⟨_, _, v1, v2, v3⟩ := hr.1.2.2.2.2.2.2.2.1 (ab b) hq
  have s1 : C_srv1 a d = C_vote1 a d (ab b) := by
    unfold C_srv1
    simp only [ek, kq5_3, true_or, if_false, if_true, ec]
  have s2 : C_srv2 a d rp = C_vote2 a d (C_oa rp d (a 0 0)) (ab b) := by
    unfold C_srv2
    simp only [ek, kq5_1, kq5_3, true_or, if_false, if_true, ec]
  by_cases hx : b 23 0 ≤ b 11 (ab b)
  · have c1 : ¬ (d 0 0 = 5 ∧ ¬ d 0 6 ≤ a 9 (ab b)) := by
      rw [e6, v1]
      exact fun hc => hc.2 hx
    have c2 : ¬ (d 0 0 = 7 ∧ ¬ d 0 6 < a 9 (ab b)) := by
      rw [ek]
      exact fun hc => absurd hc.1 (by decide)
    have t2 : C_srv2 a d rp = un (un (un (C_oa rp d (a 0 0)) 0 5 (nI (ab b))) 0 0 9) 0 6 (a 9 (ab b)) := by
      rw [s2]
      unfold C_vote2
      rw [if_neg c1, if_neg c2]
    unfold F_does
    rw [if_pos hdd, if_neg n4, if_neg (fun hc => hc.2 hx), if_neg (fun hc => n2 hc.1)]
    refine RN_ref hh hv hq ?_ ?_ ?_
    · rw [t2, un_nj (by decide), un_eq]
    · rw [t2, un_eq]
    · rw [s1]
      unfold C_vote1
      rw [if_neg c1, if_neg c2]
  · have c1 : d 0 0 = 5 ∧ ¬ d 0 6 ≤ a 9 (ab b) := by
      rw [e6, v1]
      exact ⟨ek, hx⟩
    have t1 : C_srv1 a d = if (C_may a).1 = 0 then (C_may a).2 else un (un (un (C_may a).2 9 (ab b) (b 23 0)) 10 (ab b) (a 10 (ab b))) 11 (ab b) (a 11 (ab b)) := by
      rw [s1]
      unfold C_vote1
      rw [if_pos c1, e6]
    have t2 : C_srv2 a d rp = un (un (un (un (C_oa rp d (a 0 0)) 0 5 (nI (ab b))) 0 0 6) 0 6 (a 10 (ab b))) 0 7 (a 11 (ab b)) := by
      rw [s2]
      unfold C_vote2
      rw [if_pos c1]
    have hx1 : RN (C_srv1 a d) (F_vote b (ab b) (b 23 0) (b 12 (ab b)) (b 13 (ab b))) := by
      rw [t1]
      exact RN_prep hq hr har hx
    obtain ⟨k12', k13'⟩ := prep_k (b := b) (q := ab b) (x := b 23 0)
    obtain ⟨f1, f2, f3, f4⟩ := srv2_f (n := a) (rq := d) (rp := rp)
    have g0 : C_srv2 a d rp 0 0 = 6 := by
      rw [t2]
      simp (disch := decide) only [un_nj, un_eq]
    have g6 : C_srv2 a d rp 0 6 = b 12 (ab b) := by
      rw [t2, un_nj (by decide), un_eq, v2]
    have g7 : C_srv2 a d rp 0 7 = b 13 (ab b) := by
      rw [t2, un_eq, v3]
    unfold F_does
    rw [if_pos hdd, if_neg n4, if_pos ⟨h1, hx⟩, k12', k13']
    generalize hB : F_vote b (ab b) (b 23 0) (b 12 (ab b)) (b 13 (ab b)) = B at hx1 ⊢
    have hK : KF b B := by
      rw [← hB]
      exact KF_vote
    by_cases hup : B 1 0 = 1
    · obtain ⟨u1, u2, u3, u4⟩ := up_KF hK hup
      have u15 : B 15 0 = 3 := ((hK.2.2.2.2.2 hup).2.1).trans h15
      have u25 : 0 ≤ B 25 0 := by
        rw [← hB, vote_k (by decide) (by decide)]
        exact h25
      have u20 : B 20 0 = b 20 0 := by rw [← hB, vote_k (by decide) (by decide)]
      rw [hear_on hx1 hup (by rw [u4]; exact ph_ne hph) (by rw [u3]; exact h14) (by rw [f3, e3, u1]) (by rw [f4, e4, u2]) (by rw [f1, hid, u20]; exact eb), g0, g6, g7, f1, hid]
      rw [if_neg (by decide), if_neg (by decide), if_neg (by decide), ans_up (by rw [top_k (by decide)]; exact hup), top_k (k := 20) (by decide)]
      have hz := RN_ans (v := B 20 0 ||| ((1 : Int32) <<< (nI p &&& 31))) (RN_top (x := b 12 (ab b)) (y := b 13 (ab b)) hx1 (by rw [u3]; exact h14) (by rw [u4]; exact ph_ne hph) u15 u25)
      by_cases hc : b 12 (ab b) ≤ (C_srv1 a d) 12 10
      · rw [if_pos hc] at hz
        rw [if_neg (fun hh => hh.2 hc)]
        exact hz
      · rw [if_neg hc] at hz
        rw [if_pos ⟨rfl, hc⟩]
        rw [un_commj (j := 11) (j' := 6) (by decide), un_commj (j := 10) (j' := 6) (by decide)] at hz
        exact hz
    · have hB14 : B 14 0 = 0 := by
        rw [← hB] at hup ⊢
        exact vote_dn hu hup
      rw [hear_off (by rw [hx1.1.1]; exact hup), ans_dn (by rw [top_k (by decide)]; exact hup)]
      exact RN_top0 hx1 hB14
theorem RN_self7 (h : SD a b d p) (h15 : b 15 0 = 3) (h2 : b 16 0 = 2) (hq : ab b < 16) (hv : ∃ m, m < 2147483648 ∧ b 11 (ab b) = nI m) (e5 : d 0 5 = nI (ab b)) (e6 : d 0 6 = b 23 0) (e7 : d 0 7 = F_chosen b) : RN (C_hear (C_srv1 a d) (C_srv2 a d rp)) (F_does b p) := by
  have hh := h
  obtain ⟨hr, har, hu, hph, h14, hid, e0, e3, e4, eb⟩ := h
  have hdd : F_isData b = 0 := by
    unfold F_isData
    rw [h15]
    decide
  have n4 : ¬ b 15 0 = 4 := by
    rw [h15]
    decide
  have n1 : ¬ b 16 0 = 1 := by
    rw [h2]
    decide
  have ek : d 0 0 = 7 := by
    rw [e0]
    unfold rqk
    rw [if_pos hdd, if_pos h15, if_neg n1]
  have ec : (d 0 5).toNatClampNeg = ab b := by rw [e5, nI_cl (by omega)]
  obtain ⟨_, _, v1, v2, v3⟩ := hr.1.2.2.2.2.2.2.2.1 (ab b) hq
  have s1 : C_srv1 a d = C_vote1 a d (ab b) := by
    unfold C_srv1
    simp only [ek, kq7_3, or_true, if_false, if_true, ec]
  have s2 : C_srv2 a d rp = C_vote2 a d (C_oa rp d (a 0 0)) (ab b) := by
    unfold C_srv2
    simp only [ek, kq7_1, kq7_3, or_true, if_false, if_true, ec]
  have c1 : ¬ (d 0 0 = 5 ∧ ¬ d 0 6 ≤ a 9 (ab b)) := by
    rw [ek]
    exact fun hc => absurd hc.1 (by decide)
  by_cases hx : b 23 0 < b 11 (ab b)
  · have c2 : ¬ (d 0 0 = 7 ∧ ¬ d 0 6 < a 9 (ab b)) := by
      rw [e6, v1]
      exact fun hc => hc.2 hx
    have t2 : C_srv2 a d rp = un (un (un (C_oa rp d (a 0 0)) 0 5 (nI (ab b))) 0 0 9) 0 6 (a 9 (ab b)) := by
      rw [s2]
      unfold C_vote2
      rw [if_neg c1, if_neg c2]
    unfold F_does
    rw [if_pos hdd, if_neg n4, if_neg (fun hc => n1 hc.1), if_neg (fun hc => hc.2 hx)]
    refine RN_ref hh hv hq ?_ ?_ ?_
    · rw [t2, un_nj (by decide), un_eq]
    · rw [t2, un_eq]
    · rw [s1]
      unfold C_vote1
      rw [if_neg c1, if_neg c2]
  · have c2 : d 0 0 = 7 ∧ ¬ d 0 6 < a 9 (ab b) := by
      rw [e6, v1]
      exact ⟨ek, hx⟩
    have t1 : C_srv1 a d = if a 9 (ab b) = b 23 0 ∧ a 10 (ab b) = b 23 0 ∧ a 11 (ab b) = F_chosen b then a else if (C_may a).1 = 0 then (C_may a).2 else un (un (un (C_may a).2 9 (ab b) (b 23 0)) 10 (ab b) (b 23 0)) 11 (ab b) (F_chosen b) := by
      rw [s1]
      unfold C_vote1
      rw [if_neg c1, if_pos c2, e6, e7]
    have t2 : C_srv2 a d rp = un (un (C_oa rp d (a 0 0)) 0 5 (nI (ab b))) 0 0 8 := by
      rw [s2]
      unfold C_vote2
      rw [if_neg c1, if_pos c2]
    have hx1 : RN (C_srv1 a d) (F_vote b (ab b) (b 23 0) (b 23 0) (F_chosen b)) := by
      rw [t1]
      exact RN_acc hq hr har
    obtain ⟨f1, f2, f3, f4⟩ := srv2_f (n := a) (rq := d) (rp := rp)
    have g0 : C_srv2 a d rp 0 0 = 8 := by
      rw [t2, un_eq]
    unfold F_does
    rw [if_pos hdd, if_neg n4, if_neg (fun hc => n1 hc.1), if_pos ⟨h2, hx⟩]
    by_cases hup : (F_vote b (ab b) (b 23 0) (b 23 0) (F_chosen b)) 1 0 = 1
    · obtain ⟨u1, u2, u3, u4⟩ := up_KF KF_vote hup
      refine RN_plain hx1 hup (by rw [u4]; exact ph_ne hph) (by rw [u3]; exact h14) (by rw [f1, hid]) (by rw [f3, e3, u1]) (by rw [f4, e4, u2]) (by rw [vote_k (by decide) (by decide)]; exact eb) (Or.inr (Or.inl g0))
    · rw [ans_dn hup, hear_off (by rw [hx1.1.1]; exact hup)]
      exact hx1
end SELF2
