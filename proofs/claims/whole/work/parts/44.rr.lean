/-! serve and sendReply against handles -/
def K_rep (s : cS) (i : Nat) : cS := if s.1 i 0 1 = 1 ∧ ¬ s.2.1 122 0 0 = 0 then C_send (cM s 122 (ua (ua (s.2.1 122) 2 (s.1 i 6)) 3 (s.1 i 7))) 122 else s
theorem RR_rep {s : cS} {a : rA} {i : Nat} {n1 b1 r : nv} {c0 c2 c3 c4 c5 c6 c7 c8 ce : Int32} (hr : RR s a) (hn : RN n1 b1) (h00 : n1 0 0 = s.1 i 0 0) (hu : b1 1 0 = 1) (hc0 : ¬ c0 = 0) (e0 : r 0 0 = c0) (e1 : r 0 1 = nI i) (e2 : r 0 2 = c2) (e3 : r 0 3 = c3) (e4 : r 0 4 = c4) (e5 : r 0 5 = c5) (h23 : c0 = 2 ∨ c0 = 3 → r 5 c5.toNatClampNeg = c6 ∧ r 6 c5.toNatClampNeg = c7 ∧ r 7 c5.toNatClampNeg = c8) (hnn : ¬ (c0 = 2 ∨ c0 = 3) → r 0 6 = c6 ∧ r 0 7 = c7 ∧ c8 = 0) (hc : c0 = 11 ∨ c0 = 12 ∨ c0 = 14 → ∀ o, o < 4 → r 5 o = (if ce = 0 then (if (0 : Int32) = 0 then 0 else b1 27 o) else b1 6 o) ∧ r 6 o = (if ce = 0 then (if (0 : Int32) = 0 then 0 else b1 28 o) else b1 7 o) ∧ r 7 o = (if ce = 0 then (if (0 : Int32) = 0 then 0 else b1 29 o) else b1 8 o)) : RR (K_rep (cM (cN s i n1) 122 r) i) (A_send (pN a i b1) i c0 c2 c3 c4 c5 c6 c7 c8 ce 0) := by
  have hx : RR (cM (cN s i n1) 122 r) (pN a i b1) := RR_M (RR_N hr hn h00) (by decide)
  unfold K_rep
  have hcond : (cM (cN s i n1) 122 r).1 i 0 1 = 1 ∧ ¬ (cM (cN s i n1) 122 r).2.1 122 0 0 = 0 := by
    rw [cM_1, cN_eq, cM_eq, hn.1.1, e0]
    exact ⟨hu, hc0⟩
  rw [if_pos hcond]
  apply RR_send (RR_M hx (by decide))
  rw [cM_eq, cM_eq, cM_1, cN_eq, pN_eq]
  have r0 : ∀ j, (ua (ua r 2 (n1 6)) 3 (n1 7)) 0 j = r 0 j := fun j => by rw [ua_nk (by decide), ua_nk (by decide)]
  have r5 : (ua (ua r 2 (n1 6)) 3 (n1 7)) 5 = r 5 := by rw [ua_nk (by decide), ua_nk (by decide)]
  have r6 : (ua (ua r 2 (n1 6)) 3 (n1 7)) 6 = r 6 := by rw [ua_nk (by decide), ua_nk (by decide)]
  have r7 : (ua (ua r 2 (n1 6)) 3 (n1 7)) 7 = r 7 := by rw [ua_nk (by decide), ua_nk (by decide)]
  have r2 : (ua (ua r 2 (n1 6)) 3 (n1 7)) 2 = n1 6 := by rw [ua_nk (by decide), ua_eq]
  have r3 : (ua (ua r 2 (n1 6)) 3 (n1 7)) 3 = n1 7 := by rw [ua_eq]
  refine RM_gen ?_ ?_ ?_ ?_ ?_ ?_ ?_ ?_ ?_ ?_
  · rw [r0]
    exact e0
  · rw [r0]
    exact e1
  · rw [r0]
    exact e2
  · rw [r0]
    exact e3
  · rw [r0]
    exact e4
  · rw [r0]
    exact e5
  · intro q hq
    rw [r2, r3]
    exact ⟨(hn.1.2.2.2.2.2.2.2.1 q hq).1, (hn.1.2.2.2.2.2.2.2.1 q hq).2.1⟩
  · rw [r5, r6, r7]
    exact h23
  · rw [r0, r0]
    exact hnn
  · rw [r5, r6, r7]
    exact hc
/-- no reply: the node is down, or there is none to send -/
theorem RR_norep {s : cS} {a : rA} {i : Nat} {n1 b1 r : nv} (hr : RR s a) (hn : RN n1 b1) (h00 : n1 0 0 = s.1 i 0 0) (h : ¬ b1 1 0 = 1 ∨ r 0 0 = 0) : RR (K_rep (cM (cN s i n1) 122 r) i) (pN a i b1) := by
  have hx : RR (cM (cN s i n1) 122 r) (pN a i b1) := RR_M (RR_N hr hn h00) (by decide)
  unfold K_rep
  rw [if_neg]
  · exact hx
  · rw [cM_1, cN_eq, cM_eq, hn.1.1]
    rintro ⟨g1, g2⟩
    rcases h with h | h
    · exact h g1
    · exact g2 h
theorem hav_0 {f : Nat → Int32} {w : Int32} : ∀ m, m ≤ 16 → (hav f w m = 0 ↔ ∀ k, k < m → ¬ f k = w) := by
  intro m
  induction m with
  | zero =>
    intro _
    exact ⟨fun _ k hk => by omega, fun _ => rfl⟩
  | succ m ih =>
    intro hm
    rw [hav]
    by_cases h : f m = w
    · rw [if_pos h, or_eq0]
      constructor
      · rintro ⟨_, h2⟩
        exact absurd h2 (one_n0 m (by omega))
      · intro hh
        exact absurd h (hh m (by omega))
    · rw [if_neg h, ih (by omega)]
      constructor
      · intro hh k hk
        by_cases e : k = m
        · rw [e]
          exact h
        · exact hh k (by omega)
      · intro hh k hk
        exact hh k (by omega)
theorem gre_0 {f : Nat → Int32} : (gre f 16 < 0) ↔ ∀ k, k < 16 → ¬ f k = 1 := by
  have key : ∀ m, m ≤ 16 → (∀ k, k < m → ¬ f k = 1) → gre f m = -1 := by
    intro m
    induction m with
    | zero =>
      intro _ _
      rfl
    | succ m ih =>
      intro hm h
      rw [gre, if_neg (h m (by omega)), ih (by omega) (fun k hk => h k (by omega))]
  constructor
  · intro h k hk hf
    rcases gre_some (f := f) 16 with e | ⟨i, h1, h2, h3, h4⟩
    · have h5 : ∀ m, m ≤ 16 → k < m → ¬ gre f m = -1 := by
        intro m
        induction m with
        | zero =>
          intro _ h6
          omega
        | succ m ih =>
          intro h6 h7
          rw [gre]
          by_cases hm : f m = 1
          · rw [if_pos hm]
            intro h8
            have h9 : (0 : Int32) ≤ nI m := nI_pos' (by omega)
            rw [h8] at h9
            exact absurd h9 (by decide)
          · rw [if_neg hm]
            apply ih (by omega)
            by_cases e2 : k = m
            · rw [e2] at hf
              exact absurd hf hm
            · omega
      exact h5 16 (by decide) hk e
    · rw [h2] at h
      exact nI_pos (by omega) h
  · intro h
    rw [key 16 (by decide) h]
    decide
theorem hav_gre {a b : nv} (h : ∀ k, k < 16 → a 6 k = b 9 k) : hav (a 6) 1 16 = 0 ↔ gre (b 9) 16 < 0 := by
  rw [hav_0 16 (by decide), gre_0]
  constructor
  · intro hh k hk
    rw [← h k hk]
    exact hh k hk
  · intro hh k hk
    rw [h k hk]
    exact hh k hk
section SRV
variable {s : cS} {a : rA} {i : Nat} {v : nv}
theorem RR_srv1 (hi : i < 8) (hr : RR s a) (hu : a.1 i 1 0 = 1) (hv : RM v a.2.2.1) (hm : Wm a.2.2.1) (c : a.2.2.1 0 = 1) : RR (K_rep (cM (cN s i (C_srv1 (s.1 i) v)) 122 (C_srv2 (s.1 i) v (s.2.1 122))) i) (A_handles a i) := by
  obtain ⟨hn, hid⟩ := hr.1 i hi
  obtain ⟨v1, v2, v3, v4, v5⟩ := hv
  have ck : v 0 0 = 1 := (v1 0 (by decide)).trans c
  have ht := hm.2.2 (Or.inl c)
  have es : C_srv1 (s.1 i) v = s.1 i := by
    unfold C_srv1
    simp only [ck, kq1_3, kq1_5, kq1_7, kq1_12, kq1_14, or_self, if_false]
  have er : C_srv2 (s.1 i) v (s.2.1 122) = C_cc (un (un (C_oa (s.2.1 122) v (s.1 i 0 0)) 0 0 2) 0 5 (v 0 5)) (s.1 i) := by
    unfold C_srv2
    rw [if_pos ck]
  obtain ⟨o1, o2, o3, o4, o5, o6, o7, o0⟩ := oa_f (rp := s.2.1 122) (rq := v) (id := s.1 i 0 0)
  obtain ⟨k5, k6, k7⟩ := cc_5 (d := un (un (C_oa (s.2.1 122) v (s.1 i 0 0)) 0 0 2) 0 5 (v 0 5)) (n := s.1 i)
  have eh : A_handles a i = A_send (pN a i (a.1 i)) i 2 (a.2.2.1 1) (a.2.2.1 3) (a.2.2.1 4) (a.2.2.1 5) (a.1 i 6 (th a.2.2.1)) (a.1 i 7 (th a.2.2.1)) (a.1 i 8 (th a.2.2.1)) 0 0 := by
    unfold A_handles
    rw [if_pos c, pN_self]
  rw [es, er, eh]
  obtain ⟨q1, q2, q3⟩ := hn.1.2.2.2.2.2.2.1 (th a.2.2.1) ht
  refine RR_rep hr hn rfl hu (by decide) ?_ ?_ ?_ ?_ ?_ ?_ (fun _ => ?_) (fun hh => absurd (Or.inl rfl) hh) (fun hh => absurd hh (by decide))
  · rw [cc_0, un_nj (by decide), un_eq]
  · rw [cc_0, un_nj (by decide), un_nj (by decide), o1, hid]
  · rw [cc_0, un_nj (by decide), un_nj (by decide), o2]
    exact v1 1 (by decide)
  · rw [cc_0, un_nj (by decide), un_nj (by decide), o3]
    exact v1 3 (by decide)
  · rw [cc_0, un_nj (by decide), un_nj (by decide), o4]
    exact v1 4 (by decide)
  · rw [cc_0, un_eq]
    exact v1 5 (by decide)
  · rw [k5, k6, k7]
    exact ⟨q1, q2, q3⟩
theorem RR_srv3 (hi : i < 8) (hr : RR s a) (har : Ar (a.1 i)) (hv : RM v a.2.2.1) (hm : Wm a.2.2.1) (c : a.2.2.1 0 = 3) : RR (K_rep (cM (cN s i (C_srv1 (s.1 i) v)) 122 (C_srv2 (s.1 i) v (s.2.1 122))) i) (A_handles a i) := by
  obtain ⟨hn, hid⟩ := hr.1 i hi
  obtain ⟨v1, v2, v3, v4, v5⟩ := hv
  have ck : v 0 0 = 3 := (v1 0 (by decide)).trans c
  have ht := hm.2.2 (Or.inr (Or.inr c))
  have e5 : v 0 5 = nI (th a.2.2.1) := (v1 5 (by decide)).trans hm.1
  have es : C_srv1 (s.1 i) v = C_take (s.1 i) (v 5) (v 6) (v 7) ((1 : Int32) <<< (nI (th a.2.2.1) &&& 31)) 4 := by
    unfold C_srv1
    rw [if_pos ck, e5]
  have er : C_srv2 (s.1 i) v (s.2.1 122) = un (C_oa (s.2.1 122) v (s.1 i 0 0)) 0 0 4 := by
    unfold C_srv2
    simp only [ck, kq3_1, if_false, if_true]
  obtain ⟨o1, o2, o3, o4, o5, o6, o7, o0⟩ := oa_f (rp := s.2.1 122) (rq := v) (id := s.1 i 0 0)
  obtain ⟨y1, y2, y3⟩ := v3 (Or.inr c)
  have hx := RN_take1 (x := v 5) (y := v 6) (z := v 7) ht hn har
  rw [y1, y2, y3] at hx
  rw [es, er]
  have n1 : ¬ a.2.2.1 0 = 1 := by
    rw [c]
    decide
  unfold A_handles
  rw [if_neg n1, if_pos c]
  by_cases hup : (F_store (a.1 i) (th a.2.2.1) (a.2.2.1 6) (a.2.2.1 7) (a.2.2.1 8)) 1 0 = 1
  · rw [if_pos hup]
    refine RR_rep hr hx take_00 hup (by decide) ?_ ?_ ?_ ?_ ?_ ?_ (fun hh => absurd hh (by decide)) (fun _ => ⟨?_, ?_, rfl⟩) (fun hh => absurd hh (by decide))
    · rw [un_eq]
    · rw [un_nj (by decide), o1, hid]
    · rw [un_nj (by decide), o2]
      exact v1 1 (by decide)
    · rw [un_nj (by decide), o3]
      exact v1 3 (by decide)
    · rw [un_nj (by decide), o4]
      exact v1 4 (by decide)
    · rw [un_nj (by decide), o5]
    · rw [un_nj (by decide), o6]
    · rw [un_nj (by decide), o7]
  · rw [if_neg hup]
    exact RR_norep hr hx take_00 (Or.inl hup)
theorem RR_srv10 (hi : i < 8) (hr : RR s a) (hu : a.1 i 1 0 = 1) (hv : RM v a.2.2.1) (c : a.2.2.1 0 = 10) : RR (K_rep (cM (cN s i (C_srv1 (s.1 i) v)) 122 (C_srv2 (s.1 i) v (s.2.1 122))) i) (A_handles a i) := by
  obtain ⟨hn, hid⟩ := hr.1 i hi
  obtain ⟨v1, v2, v3, v4, v5⟩ := hv
  have ck : v 0 0 = 10 := (v1 0 (by decide)).trans c
  have es : C_srv1 (s.1 i) v = s.1 i := by
    unfold C_srv1
    simp only [ck, kq10_3, kq10_5, kq10_7, kq10_12, kq10_14, or_self, if_false]
  have er : C_srv2 (s.1 i) v (s.2.1 122) = C_cc (un (C_oa (s.2.1 122) v (s.1 i 0 0)) 0 0 11) (s.1 i) := by
    unfold C_srv2
    simp only [ck, kq10_1, kq10_3, kq10_5, kq10_7, or_self, if_false, if_true]
  obtain ⟨o1, o2, o3, o4, o5, o6, o7, o0⟩ := oa_f (rp := s.2.1 122) (rq := v) (id := s.1 i 0 0)
  obtain ⟨k5, k6, k7⟩ := cc_5 (d := un (C_oa (s.2.1 122) v (s.1 i 0 0)) 0 0 11) (n := s.1 i)
  have eh : A_handles a i = A_send (pN a i (a.1 i)) i 11 (a.2.2.1 1) (a.2.2.1 3) (a.2.2.1 4) 0 0 0 0 1 0 := by
    unfold A_handles
    simp only [c, kq10_1, kq10_3, kq10_5, kq10_7, or_self, if_false, if_true, pN_self]
  rw [es, er, eh]
  refine RR_rep hr hn rfl hu (by decide) ?_ ?_ ?_ ?_ ?_ ?_ (fun hh => absurd hh (by decide)) (fun _ => ⟨?_, ?_, rfl⟩) (fun _ j hj => ?_)
  · rw [cc_0, un_eq]
  · rw [cc_0, un_nj (by decide), o1, hid]
  · rw [cc_0, un_nj (by decide), o2]
    exact v1 1 (by decide)
  · rw [cc_0, un_nj (by decide), o3]
    exact v1 3 (by decide)
  · rw [cc_0, un_nj (by decide), o4]
    exact v1 4 (by decide)
  · rw [cc_0, un_nj (by decide), o5]
  · rw [cc_0, un_nj (by decide), o6]
  · rw [cc_0, un_nj (by decide), o7]
  · rw [k5, k6, k7, if_neg (by decide), if_neg (by decide), if_neg (by decide)]
    exact hn.1.2.2.2.2.2.2.1 j hj
theorem RR_srv12 (hi : i < 8) (hr : RR s a) (har : Ar (a.1 i)) (hv : RM v a.2.2.1) (c : a.2.2.1 0 = 12) : RR (K_rep (cM (cN s i (C_srv1 (s.1 i) v)) 122 (C_srv2 (s.1 i) v (s.2.1 122))) i) (A_handles a i) := by
  obtain ⟨hn, hid⟩ := hr.1 i hi
  obtain ⟨v1, v2, v3, v4, v5⟩ := hv
  have ck : v 0 0 = 12 := (v1 0 (by decide)).trans c
  have es : C_srv1 (s.1 i) v = C_take (s.1 i) (v 5) (v 6) (v 7) 15 4 := by
    unfold C_srv1
    simp only [ck, kq12_3, kq12_5, kq12_7, or_self, true_or, if_false, if_true]
  have er : C_srv2 (s.1 i) v (s.2.1 122) = un (C_oa (s.2.1 122) v (s.1 i 0 0)) 0 0 13 := by
    unfold C_srv2
    simp only [ck, kq12_1, kq12_3, kq12_5, kq12_7, kq12_10, or_self, if_false, if_true]
  obtain ⟨o1, o2, o3, o4, o5, o6, o7, o0⟩ := oa_f (rp := s.2.1 122) (rq := v) (id := s.1 i 0 0)
  have hx := (RN_takeA (x := v 5) (y := v 6) (z := v 7) (G := fun k => F_storeAll (a.1 i) a.2.2.1 k) hn har rfl (fun k hk => by
    obtain ⟨y1, y2, y3⟩ := v5 (Or.inr (Or.inl c)) k hk
    show F_storeAll _ _ (k + 1) = _
    rw [F_storeAll, y1, y2, y3]) 4 (by decide)).1
  have hx2 : RN (C_take (s.1 i) (v 5) (v 6) (v 7) 15 4) (F_storeAll (a.1 i) a.2.2.1 4) := hx
  rw [es, er]
  unfold A_handles
  simp only [c, kq12_1, kq12_3, kq12_5, kq12_7, kq12_10, or_self, if_false, if_true]
  by_cases hup : (F_storeAll (a.1 i) a.2.2.1 4) 1 0 = 1
  · rw [if_pos hup]
    refine RR_rep hr hx2 take_00 hup (by decide) ?_ ?_ ?_ ?_ ?_ ?_ (fun hh => absurd hh (by decide)) (fun _ => ⟨?_, ?_, rfl⟩) (fun hh => absurd hh (by decide))
    · rw [un_eq]
    · rw [un_nj (by decide), o1, hid]
    · rw [un_nj (by decide), o2]
      exact v1 1 (by decide)
    · rw [un_nj (by decide), o3]
      exact v1 3 (by decide)
    · rw [un_nj (by decide), o4]
      exact v1 4 (by decide)
    · rw [un_nj (by decide), o5]
    · rw [un_nj (by decide), o6]
    · rw [un_nj (by decide), o7]
  · rw [if_neg hup]
    exact RR_norep hr hx2 take_00 (Or.inl hup)
theorem RR_srv14 (hi : i < 8) (hr : RR s a) (har : Ar (a.1 i)) (hv : RM v a.2.2.1) (c : a.2.2.1 0 = 14) : RR (K_rep (cM (cN s i (C_srv1 (s.1 i) v)) 122 (C_srv2 (s.1 i) v (s.2.1 122))) i) (A_handles a i) := by
  obtain ⟨hn, hid⟩ := hr.1 i hi
  obtain ⟨v1, v2, v3, v4, v5⟩ := hv
  have ck : v 0 0 = 14 := (v1 0 (by decide)).trans c
  have es : C_srv1 (s.1 i) v = C_take (s.1 i) (v 5) (v 6) (v 7) 15 4 := by
    unfold C_srv1
    simp only [ck, kq14_3, kq14_5, kq14_7, kq14_12, or_self, or_true, if_false, if_true]
  have er : C_srv2 (s.1 i) v (s.2.1 122) = C_oa (s.2.1 122) v (s.1 i 0 0) := by
    unfold C_srv2
    simp only [ck, kq14_1, kq14_3, kq14_5, kq14_7, kq14_10, kq14_12, kq14_15, or_self, if_false, if_true]
  obtain ⟨o1, o2, o3, o4, o5, o6, o7, o0⟩ := oa_f (rp := s.2.1 122) (rq := v) (id := s.1 i 0 0)
  have hx := (RN_takeA (x := v 5) (y := v 6) (z := v 7) (G := fun k => F_storeAll (a.1 i) a.2.2.1 k) hn har rfl (fun k hk => by
    obtain ⟨y1, y2, y3⟩ := v5 (Or.inr (Or.inr c)) k hk
    show F_storeAll _ _ (k + 1) = _
    rw [F_storeAll, y1, y2, y3]) 4 (by decide)).1
  have hx2 : RN (C_take (s.1 i) (v 5) (v 6) (v 7) 15 4) (F_storeAll (a.1 i) a.2.2.1 4) := hx
  rw [es, er]
  unfold A_handles
  simp only [c, kq14_1, kq14_3, kq14_5, kq14_7, kq14_10, kq14_12, or_self, if_false, if_true]
  exact RR_norep hr hx2 take_00 (Or.inr o0)
theorem RR_srv15 (hi : i < 8) (hr : RR s a) (hu : a.1 i 1 0 = 1) (hv : RM v a.2.2.1) (c : a.2.2.1 0 = 15) : RR (K_rep (cM (cN s i (C_srv1 (s.1 i) v)) 122 (C_srv2 (s.1 i) v (s.2.1 122))) i) (A_handles a i) := by
  obtain ⟨hn, hid⟩ := hr.1 i hi
  obtain ⟨v1, v2, v3, v4, v5⟩ := hv
  have ck : v 0 0 = 15 := (v1 0 (by decide)).trans c
  have es : C_srv1 (s.1 i) v = s.1 i := by
    unfold C_srv1
    simp only [ck, kq15_3, kq15_5, kq15_7, kq15_12, kq15_14, or_self, if_false]
  have er : C_srv2 (s.1 i) v (s.2.1 122) = C_cc (un (C_oa (s.2.1 122) v (s.1 i 0 0)) 0 0 (if hav (s.1 i 6) 1 16 = 0 then 0 else 14)) (s.1 i) := by
    unfold C_srv2
    simp only [ck, kq15_1, kq15_3, kq15_5, kq15_7, kq15_10, kq15_12, or_self, if_false, if_true]
  obtain ⟨o1, o2, o3, o4, o5, o6, o7, o0⟩ := oa_f (rp := s.2.1 122) (rq := v) (id := s.1 i 0 0)
  have hg := hav_gre (a := s.1 i) (b := a.1 i) (fun k hk => (hn.1.2.2.2.2.2.2.2.1 k hk).1)
  rw [es, er]
  unfold A_handles
  simp only [c, kq15_1, kq15_3, kq15_5, kq15_7, kq15_10, kq15_12, kq15_14, or_self, if_false, if_true]
  by_cases h0 : gre (a.1 i 9) 16 < 0
  · rw [if_pos h0, if_pos (hg.mpr h0)]
    have hz := RR_norep (r := C_cc (un (C_oa (s.2.1 122) v (s.1 i 0 0)) 0 0 0) (s.1 i)) hr hn rfl (Or.inr (by rw [cc_0, un_eq]))
    rw [pN_self] at hz
    exact hz
  · rw [if_neg h0, if_neg (fun hh => h0 (hg.mp hh))]
    obtain ⟨k5, k6, k7⟩ := cc_5 (d := un (C_oa (s.2.1 122) v (s.1 i 0 0)) 0 0 14) (n := s.1 i)
    have hz := RR_rep (r := C_cc (un (C_oa (s.2.1 122) v (s.1 i 0 0)) 0 0 14) (s.1 i)) (c0 := 14) (c2 := a.2.2.1 1) (c3 := a.2.2.1 3) (c4 := a.2.2.1 4) (c5 := 0) (c6 := 0) (c7 := 0) (c8 := 0) (ce := 1) hr hn rfl hu (by decide) (by rw [cc_0, un_eq]) (by rw [cc_0, un_nj (by decide), o1, hid]) (by rw [cc_0, un_nj (by decide), o2]; exact v1 1 (by decide)) (by rw [cc_0, un_nj (by decide), o3]; exact v1 3 (by decide)) (by rw [cc_0, un_nj (by decide), o4]; exact v1 4 (by decide)) (by rw [cc_0, un_nj (by decide), o5]) (fun hh => absurd hh (by decide)) (fun _ => ⟨by rw [cc_0, un_nj (by decide), o6], by rw [cc_0, un_nj (by decide), o7], rfl⟩) (fun _ j hj => by
      rw [k5, k6, k7, if_neg (by decide), if_neg (by decide), if_neg (by decide)]
      exact hn.1.2.2.2.2.2.2.1 j hj)
    rw [pN_self] at hz
    exact hz
end SRV
