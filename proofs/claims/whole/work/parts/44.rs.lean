/-! votes -/
section SRVV
variable {s : cS} {a : rA} {i : Nat} {v : nv}
theorem RR_refd (hi : i < 8) (hr : RR s a) (hu : a.1 i 1 0 = 1) (hv : RM v a.2.2.1) (hm : Wm a.2.2.1) (es : C_srv1 (s.1 i) v = s.1 i) (er : C_srv2 (s.1 i) v (s.2.1 122) = un (un (un (C_oa (s.2.1 122) v (s.1 i 0 0)) 0 5 (nI (th a.2.2.1))) 0 0 9) 0 6 (s.1 i 9 (th a.2.2.1))) : RR (K_rep (cM (cN s i (C_srv1 (s.1 i) v)) 122 (C_srv2 (s.1 i) v (s.2.1 122))) i) (A_send a i 9 (a.2.2.1 1) (a.2.2.1 3) (a.2.2.1 4) (a.2.2.1 5) (a.1 i 11 (th a.2.2.1)) 0 0 0 0) := by
  obtain ⟨hn, hid⟩ := hr.1 i hi
  obtain ⟨v1, v2, v3, v4, v5⟩ := hv
  obtain ⟨o1, o2, o3, o4, o5, o6, o7, o0⟩ := oa_f (rp := s.2.1 122) (rq := v) (id := s.1 i 0 0)
  obtain ⟨_, _, q9, q10, q11⟩ := hn.1.2.2.2.2.2.2.2.1 (th a.2.2.1) hm.2.1
  rw [es, er]
  have hz := RR_rep (r := un (un (un (C_oa (s.2.1 122) v (s.1 i 0 0)) 0 5 (nI (th a.2.2.1))) 0 0 9) 0 6 (s.1 i 9 (th a.2.2.1))) (c0 := 9) (c2 := a.2.2.1 1) (c3 := a.2.2.1 3) (c4 := a.2.2.1 4) (c5 := a.2.2.1 5) (c6 := a.1 i 11 (th a.2.2.1)) (c7 := 0) (c8 := 0) (ce := 0) hr hn rfl hu (by decide) (by rw [un_nj (by decide), un_eq]) (by rw [un_nj (by decide), un_nj (by decide), un_nj (by decide), o1, hid]) (by rw [un_nj (by decide), un_nj (by decide), un_nj (by decide), o2]; exact v1 1 (by decide)) (by rw [un_nj (by decide), un_nj (by decide), un_nj (by decide), o3]; exact v1 3 (by decide)) (by rw [un_nj (by decide), un_nj (by decide), un_nj (by decide), o4]; exact v1 4 (by decide)) (by rw [un_nj (by decide), un_nj (by decide), un_eq]; exact hm.1.symm) (fun hh => absurd hh (by decide)) (fun _ => ⟨by rw [un_eq]; exact q9, by rw [un_nj (by decide), un_nj (by decide), un_nj (by decide), o7], rfl⟩) (fun hh => absurd hh (by decide))
  rw [pN_self] at hz
  exact hz
theorem RR_srv5 (hi : i < 8) (hr : RR s a) (hu : a.1 i 1 0 = 1) (har : Ar (a.1 i)) (hv : RM v a.2.2.1) (hm : Wm a.2.2.1) (c : a.2.2.1 0 = 5) : RR (K_rep (cM (cN s i (C_srv1 (s.1 i) v)) 122 (C_srv2 (s.1 i) v (s.2.1 122))) i) (A_handles a i) := by
  obtain ⟨hn, hid⟩ := hr.1 i hi
  have hv2 := hv
  obtain ⟨v1, v2, v3, v4, v5⟩ := hv
  have ck : v 0 0 = 5 := (v1 0 (by decide)).trans c
  have n23 : ¬ (a.2.2.1 0 = 2 ∨ a.2.2.1 0 = 3) := by
    rw [c]
    decide
  obtain ⟨y6, y7, _⟩ := v4 n23
  have ht := hm.2.1
  have ec : (v 0 5).toNatClampNeg = th a.2.2.1 := by
    rw [v1 5 (by decide)]
    rfl
  obtain ⟨_, _, q9, q10, q11⟩ := hn.1.2.2.2.2.2.2.2.1 (th a.2.2.1) ht
  have s1 : C_srv1 (s.1 i) v = C_vote1 (s.1 i) v (th a.2.2.1) := by
    unfold C_srv1
    simp only [ck, kq5_3, true_or, if_false, if_true, ec]
  have s2 : C_srv2 (s.1 i) v (s.2.1 122) = C_vote2 (s.1 i) v (C_oa (s.2.1 122) v (s.1 i 0 0)) (th a.2.2.1) := by
    unfold C_srv2
    simp only [ck, kq5_1, kq5_3, true_or, if_false, if_true, ec]
  have eh : A_handles a i = A_votes a i (th a.2.2.1) := by
    unfold A_handles
    simp only [c, kq5_1, kq5_3, true_or, if_false, if_true]
  rw [eh]
  unfold A_votes
  rw [if_pos c]
  by_cases hx : a.1 i 11 (th a.2.2.1) < a.2.2.1 6
  · have c1 : v 0 0 = 5 ∧ ¬ v 0 6 ≤ s.1 i 9 (th a.2.2.1) := by
      rw [y6, q9]
      exact ⟨ck, Int32.not_le.mpr hx⟩
    have t1 : C_srv1 (s.1 i) v = if (C_may (s.1 i)).1 = 0 then (C_may (s.1 i)).2 else un (un (un (C_may (s.1 i)).2 9 (th a.2.2.1) (a.2.2.1 6)) 10 (th a.2.2.1) (s.1 i 10 (th a.2.2.1))) 11 (th a.2.2.1) (s.1 i 11 (th a.2.2.1)) := by
      rw [s1]
      unfold C_vote1
      rw [if_pos c1, y6]
    have t2 : C_srv2 (s.1 i) v (s.2.1 122) = un (un (un (un (C_oa (s.2.1 122) v (s.1 i 0 0)) 0 5 (nI (th a.2.2.1))) 0 0 6) 0 6 (s.1 i 10 (th a.2.2.1))) 0 7 (s.1 i 11 (th a.2.2.1)) := by
      rw [s2]
      unfold C_vote2
      rw [if_pos c1]
    have hx1 : RN (C_srv1 (s.1 i) v) (F_vote (a.1 i) (th a.2.2.1) (a.2.2.1 6) (a.1 i 12 (th a.2.2.1)) (a.1 i 13 (th a.2.2.1))) := by
      rw [t1]
      exact RN_prep ht hn har (Int32.not_le.mpr hx)
    obtain ⟨k12', k13'⟩ := prep_k (b := a.1 i) (q := th a.2.2.1) (x := a.2.2.1 6)
    obtain ⟨o1, o2, o3, o4, o5, o6, o7, o0⟩ := oa_f (rp := s.2.1 122) (rq := v) (id := s.1 i 0 0)
    rw [if_pos hx, k12', k13', t2]
    by_cases hup : (F_vote (a.1 i) (th a.2.2.1) (a.2.2.1 6) (a.1 i 12 (th a.2.2.1)) (a.1 i 13 (th a.2.2.1))) 1 0 = 1
    · rw [if_pos hup]
      refine RR_rep hr hx1 srv1_00 hup (by decide) ?_ ?_ ?_ ?_ ?_ ?_ (fun hh => absurd hh (by decide)) (fun _ => ⟨?_, ?_, rfl⟩) (fun hh => absurd hh (by decide))
      · rw [un_nj (by decide), un_nj (by decide), un_eq]
      · rw [un_nj (by decide), un_nj (by decide), un_nj (by decide), un_nj (by decide), o1, hid]
      · rw [un_nj (by decide), un_nj (by decide), un_nj (by decide), un_nj (by decide), o2]
        exact v1 1 (by decide)
      · rw [un_nj (by decide), un_nj (by decide), un_nj (by decide), un_nj (by decide), o3]
        exact v1 3 (by decide)
      · rw [un_nj (by decide), un_nj (by decide), un_nj (by decide), un_nj (by decide), o4]
        exact v1 4 (by decide)
      · rw [un_nj (by decide), un_nj (by decide), un_nj (by decide), un_eq]
        exact hm.1.symm
      · rw [un_nj (by decide), un_eq]
        exact q10
      · rw [un_eq]
        exact q11
    · rw [if_neg hup]
      exact RR_norep hr hx1 srv1_00 (Or.inl hup)
  · have c1 : ¬ (v 0 0 = 5 ∧ ¬ v 0 6 ≤ s.1 i 9 (th a.2.2.1)) := by
      rw [y6, q9]
      exact fun hc => hc.2 (Int32.not_lt.mp hx)
    have c2 : ¬ (v 0 0 = 7 ∧ ¬ v 0 6 < s.1 i 9 (th a.2.2.1)) := by
      rw [ck]
      exact fun hc => absurd hc.1 (by decide)
    rw [if_neg hx]
    refine RR_refd hi hr hu hv2 hm ?_ ?_
    · rw [s1]
      unfold C_vote1
      rw [if_neg c1, if_neg c2]
    · rw [s2]
      unfold C_vote2
      rw [if_neg c1, if_neg c2]
theorem RR_srv7 (hi : i < 8) (hr : RR s a) (hu : a.1 i 1 0 = 1) (har : Ar (a.1 i)) (hv : RM v a.2.2.1) (hm : Wm a.2.2.1) (c : a.2.2.1 0 = 7) : RR (K_rep (cM (cN s i (C_srv1 (s.1 i) v)) 122 (C_srv2 (s.1 i) v (s.2.1 122))) i) (A_handles a i) := by
  obtain ⟨hn, hid⟩ := hr.1 i hi
  have hv2 := hv
  obtain ⟨v1, v2, v3, v4, v5⟩ := hv
  have ck : v 0 0 = 7 := (v1 0 (by decide)).trans c
  have n23 : ¬ (a.2.2.1 0 = 2 ∨ a.2.2.1 0 = 3) := by
    rw [c]
    decide
  have n5 : ¬ a.2.2.1 0 = 5 := by
    rw [c]
    decide
  obtain ⟨y6, y7, _⟩ := v4 n23
  have ht := hm.2.1
  have ec : (v 0 5).toNatClampNeg = th a.2.2.1 := by
    rw [v1 5 (by decide)]
    rfl
  obtain ⟨_, _, q9, q10, q11⟩ := hn.1.2.2.2.2.2.2.2.1 (th a.2.2.1) ht
  have s1 : C_srv1 (s.1 i) v = C_vote1 (s.1 i) v (th a.2.2.1) := by
    unfold C_srv1
    simp only [ck, kq7_3, or_true, if_false, if_true, ec]
  have s2 : C_srv2 (s.1 i) v (s.2.1 122) = C_vote2 (s.1 i) v (C_oa (s.2.1 122) v (s.1 i 0 0)) (th a.2.2.1) := by
    unfold C_srv2
    simp only [ck, kq7_1, kq7_3, or_true, if_false, if_true, ec]
  have eh : A_handles a i = A_votes a i (th a.2.2.1) := by
    unfold A_handles
    simp only [c, kq7_1, kq7_3, or_true, if_false, if_true]
  have c1 : ¬ (v 0 0 = 5 ∧ ¬ v 0 6 ≤ s.1 i 9 (th a.2.2.1)) := by
    rw [ck]
    exact fun hc => absurd hc.1 (by decide)
  rw [eh]
  unfold A_votes
  rw [if_neg n5]
  by_cases hx : a.1 i 11 (th a.2.2.1) ≤ a.2.2.1 6
  · have c2 : v 0 0 = 7 ∧ ¬ v 0 6 < s.1 i 9 (th a.2.2.1) := by
      rw [y6, q9]
      exact ⟨ck, Int32.not_lt.mpr hx⟩
    have t1 : C_srv1 (s.1 i) v = if s.1 i 9 (th a.2.2.1) = a.2.2.1 6 ∧ s.1 i 10 (th a.2.2.1) = a.2.2.1 6 ∧ s.1 i 11 (th a.2.2.1) = a.2.2.1 7 then s.1 i else if (C_may (s.1 i)).1 = 0 then (C_may (s.1 i)).2 else un (un (un (C_may (s.1 i)).2 9 (th a.2.2.1) (a.2.2.1 6)) 10 (th a.2.2.1) (a.2.2.1 6)) 11 (th a.2.2.1) (a.2.2.1 7) := by
      rw [s1]
      unfold C_vote1
      rw [if_neg c1, if_pos c2, y6, y7]
    have t2 : C_srv2 (s.1 i) v (s.2.1 122) = un (un (C_oa (s.2.1 122) v (s.1 i 0 0)) 0 5 (nI (th a.2.2.1))) 0 0 8 := by
      rw [s2]
      unfold C_vote2
      rw [if_neg c1, if_pos c2]
    have hx1 : RN (C_srv1 (s.1 i) v) (F_vote (a.1 i) (th a.2.2.1) (a.2.2.1 6) (a.2.2.1 6) (a.2.2.1 7)) := by
      rw [t1]
      exact RN_acc ht hn har
    obtain ⟨o1, o2, o3, o4, o5, o6, o7, o0⟩ := oa_f (rp := s.2.1 122) (rq := v) (id := s.1 i 0 0)
    rw [if_pos hx, t2]
    by_cases hup : (F_vote (a.1 i) (th a.2.2.1) (a.2.2.1 6) (a.2.2.1 6) (a.2.2.1 7)) 1 0 = 1
    · rw [if_pos hup]
      refine RR_rep hr hx1 srv1_00 hup (by decide) ?_ ?_ ?_ ?_ ?_ ?_ (fun hh => absurd hh (by decide)) (fun _ => ⟨?_, ?_, rfl⟩) (fun hh => absurd hh (by decide))
      · rw [un_eq]
      · rw [un_nj (by decide), un_nj (by decide), o1, hid]
      · rw [un_nj (by decide), un_nj (by decide), o2]
        exact v1 1 (by decide)
      · rw [un_nj (by decide), un_nj (by decide), o3]
        exact v1 3 (by decide)
      · rw [un_nj (by decide), un_nj (by decide), o4]
        exact v1 4 (by decide)
      · rw [un_nj (by decide), un_eq]
        exact hm.1.symm
      · rw [un_nj (by decide), un_nj (by decide), o6]
      · rw [un_nj (by decide), un_nj (by decide), o7]
    · rw [if_neg hup]
      exact RR_norep hr hx1 srv1_00 (Or.inl hup)
  · have c2 : ¬ (v 0 0 = 7 ∧ ¬ v 0 6 < s.1 i 9 (th a.2.2.1)) := by
      rw [y6, q9]
      exact fun hc => hc.2 (Int32.not_le.mp hx)
    rw [if_neg hx]
    refine RR_refd hi hr hu hv2 hm ?_ ?_
    · rw [s1]
      unfold C_vote1
      rw [if_neg c1, if_neg c2]
    · rw [s2]
      unfold C_vote2
      rw [if_neg c1, if_neg c2]
/-- every request -/
theorem RR_serve (hi : i < 8) (hr : RR s a) (hu : a.1 i 1 0 = 1) (har : Ar (a.1 i)) (hv : RM v a.2.2.1) (hm : Wm a.2.2.1) (hk : a.2.2.1 0 = 1 ∨ a.2.2.1 0 = 3 ∨ a.2.2.1 0 = 5 ∨ a.2.2.1 0 = 7 ∨ a.2.2.1 0 = 10 ∨ a.2.2.1 0 = 12 ∨ a.2.2.1 0 = 14 ∨ a.2.2.1 0 = 15) : RR (K_rep (cM (cN s i (C_srv1 (s.1 i) v)) 122 (C_srv2 (s.1 i) v (s.2.1 122))) i) (A_handles a i) := by
  rcases hk with c | c | c | c | c | c | c | c
  · exact RR_srv1 hi hr hu hv hm c
  · exact RR_srv3 hi hr har hv hm c
  · exact RR_srv5 hi hr hu har hv hm c
  · exact RR_srv7 hi hr hu har hv hm c
  · exact RR_srv10 hi hr hu hv c
  · exact RR_srv12 hi hr har hv c
  · exact RR_srv14 hi hr har hv c
  · exact RR_srv15 hi hr hu hv c
end SRVV
