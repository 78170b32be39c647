/-! a message is taken out: the reference keeps it -/
theorem rem_line {a : rA} {x y j : Nat} (hx : x < ln a) (hy : y < ln a - 1) (hj : j < 53) : (A_rem a x).2.1 y j = if y < x then a.2.1 y j else a.2.1 (y + 1) j := by
  show rmM a.2.1 x (53 * (ln a - 1 - x)) y j = _
  unfold rmM
  by_cases c : y < x
  · rw [if_neg (by omega), if_pos c]
  · rw [if_pos ⟨hj, by omega, by omega⟩, if_neg c]
theorem rem_ln {a : rA} {x : Nat} (hl : Wl a) : ln (A_rem a x) = ln a - 1 := by
  have hle := hl.2
  have e0 : (A_rem a x).2.2.2 2 = nI (ln a - 1) := rfl
  unfold ln at *
  rw [e0, nI_cl (by omega)]
theorem IV_rem {B x : Nat} {X : Nat → Int32} {a : rA} (h : IV B X a) (hx : x < ln a) : IV B X (A_rem a x) := by
  obtain ⟨h1, h2, h3, h4⟩ := h
  have hle := h1.2
  have el := rem_ln (x := x) h1
  have e0 : (A_rem a x).2.2.2 2 = nI (ln a - 1) := rfl
  refine ⟨⟨by rw [el, e0], by rw [el]; omega⟩, h2, fun y hy => ?_, h4⟩
  rw [el] at hy
  show LQ B a.1 _
  by_cases c : y < x
  · exact LQ_congr (h3 y (by omega)) (fun j hj => by rw [rem_line hx hy hj, if_pos c])
  · exact LQ_congr (h3 (y + 1) (by omega)) (fun j hj => by rw [rem_line hx hy hj, if_neg c])
theorem IV_drop {B : Nat} {X : Nat → Int32} {a : rA} (h : IV B X a) : IV B Z0 a := ⟨h.1, h.2.1, h.2.2.1, Or.inl rfl⟩
theorem IV_now {B x : Nat} {a : rA} (h : IV B Z0 a) (hx : x < ln a) : IV B (A_now a x).2.2.1 (A_now a x) ∧ LQ B (A_now a x).1 (A_now a x).2.2.1 := by
  have hq : LQ B a.1 (cpW a.2.2.1 (a.2.1 x) 53) := LQ_congr (h.2.2.1 x hx) (fun j hj => cpW_lt hj)
  have h0 : IV B (cpW a.2.2.1 (a.2.1 x) 53) (aW (aG a 0 0) (cpW a.2.2.1 (a.2.1 x) 53)) := by
    obtain ⟨h1, h2, h3, _⟩ := h
    exact ⟨h1, h2, h3, Or.inr hq⟩
  exact ⟨IV_rem h0 hx, hq⟩
theorem JV_now {B x : Nat} {a : rA} (h : JV B a) (hx : x < ln a) : JV B (A_now a x) := ⟨IV_drop (IV_now h.1 hx).1, h.2.1, h.2.2⟩
theorem JV_lose {B x : Nat} {a : rA} (h : JV B a) (hx : x < ln a) : JV B (A_lose a x) := ⟨IV_rem (IV_g h.1 (by decide)) hx, h.2.1, h.2.2⟩
theorem JV_twice {B x : Nat} {a : rA} (h : JV B a) (hx : x < ln a) : JV B (A_twice a x).2 := by
  have hle := h.1.1.2
  unfold A_twice
  split
  · exact JV_g0 h
  · rename_i hne
    refine ⟨?_, h.2.1, h.2.2⟩
    obtain ⟨h1, h2, h3, h4⟩ := h.1
    have e2 : ln (aG (aM (aG a 0 0) (ln a) (cpW (a.2.1 (ln a)) (a.2.1 x) 53)) 2 (nI (ln a + 1))) = ln a + 1 := by
      show (nI (ln a + 1)).toNatClampNeg = _
      rw [nI_cl (by omega)]
    refine ⟨⟨by rw [e2]; rfl, by rw [e2]; omega⟩, h2, fun y hy => ?_, h4⟩
    rw [e2] at hy
    show LQ B a.1 ((aM (aG a 0 0) (ln a) (cpW (a.2.1 (ln a)) (a.2.1 x) 53)).2.1 y)
    by_cases c : y = ln a
    · rw [c, aM_2]
      exact LQ_congr (h3 x hx) (fun j hj => cpW_lt hj)
    · rw [aM_n c]
      exact h3 y (by omega)
/-! deliver -/
theorem RR_deliver {B x p : Nat} {s : cS} {a : rA} (hB : B < 134217500) (hp : p < 8) (hr : RR s a) (hj : JV B a) (hx : x < ln a) (hto : a.2.1 x 2 = nI p) : (K_del (K_out s x (ln a)) p (K_out s x (ln a)).2.2.2.2).1 = (A_del (A_now a x) p).1 ∧ RR (K_del (K_out s x (ln a)) p (K_out s x (ln a)).2.2.2.2).2 (A_del (A_now a x) p).2 ∧ JV (B + 5) (A_del (A_now a x) p).2 := by
  obtain ⟨r1, rm⟩ := RR_now hr hx
  obtain ⟨iv1, lq1⟩ := IV_now hj.1 hx
  have j1 := JV_now hj hx
  have to1 : (A_now a x).2.2.1 2 = nI p := by
    show cpW a.2.2.1 (a.2.1 x) 53 2 = nI p
    rw [cpW_lt (by decide), hto]
  generalize A_now a x = a1 at r1 rm iv1 lq1 j1 to1 ⊢
  generalize K_out s x (ln a) = s1 at r1 rm ⊢
  have hn := (iv1.2.1 p hp).1
  have hrn := (r1.1 p hp).1
  have ew : s1.1 p 0 1 = a1.1 p 1 0 := hrn.1.1
  have hw3 : ∀ k, k < 16 → a1.2.2.1 (9 + 2 * k) = 0 ∨ a1.2.2.1 (9 + 2 * k) = 1 ∨ a1.2.2.1 (9 + 2 * k) = 2 := lq1.1.2.2.2.1
  unfold K_del A_del
  rw [ew]
  by_cases hu : a1.1 p 1 0 = 1
  · rw [if_pos hu, if_pos hu]
    have hm := RR_merges (v := s1.2.1 s1.2.2.2.2) hp r1 hn.2.1 (NI_rd (by omega) hn) (j1.2.2 p hp).2 (fun k hk => rm.2.1 k hk) hw3
    have ivm := IV_merges (by omega) hp iv1 hw3
    have afm := AF_merges (a := a1) (p := p)
    have cdm := cd_merges (j1.2.2 p hp).1
    have hK : K_d1 s1 p s1.2.2.2.2 = (if (C_merge (s1.1 p) (s1.2.1 s1.2.2.2.2 2) (s1.2.1 s1.2.2.2.2 3)).1 = 0 then cN s1 p (C_merge (s1.1 p) (s1.2.1 s1.2.2.2.2 2) (s1.2.1 s1.2.2.2.2 3)).2 else K_set (K_look (cN s1 p (C_merge (s1.1 p) (s1.2.1 s1.2.2.2.2 2) (s1.2.1 s1.2.2.2.2 3)).2) p (hav (s1.1 p 6) 1 16)) p) := rfl
    rw [← hK] at hm
    have hct := CT_d1 (s := s1) (i := p) (t := s1.2.2.2.2)
    have htk : (K_d1 s1 p s1.2.2.2.2).2.1 s1.2.2.2.2 = s1.2.1 s1.2.2.2.2 := (hct.2 (CW_RR r1)).2 _ r1.2.2.2.2.2.2.2.1 (fun y hy => (r1.2.2.2.2.2.1 y hy).2)
    generalize A_merges a1 p = a2 at hm ivm afm cdm ⊢
    generalize K_d1 s1 p s1.2.2.2.2 = s2 at hm htk ⊢
    have hnj : NJ (a2.1 p) p := ⟨cdm, hm.2⟩
    have lq2 : LQ (B + 3) a2.1 a2.2.2.1 := by
      rw [afm.1]
      rcases ivm.2.2.2 with z | z
      · exfalso
        have kd := lq1.1.1
        unfold KD at kd
        rw [z] at kd
        exact absurd kd (by decide)
      · exact z
    have ivm2 : IV (B + 3) a2.2.2.1 a2 := by
      rw [afm.1]
      exact ivm
    have hrm : RM (s2.2.1 s1.2.2.2.2) a2.2.2.1 := by
      rw [afm.1, htk]
      exact rm
    have e2 : s2.1 p 0 1 = a2.1 p 1 0 := (hm.1.1 p hp).1.1.1
    by_cases hu2 : a2.1 p 1 0 = 1
    · have hd2 := RR_d2 (B := B + 3) (by omega) hp hm.1 ivm2 lq2 (by rw [afm.1]; exact to1) hrm hnj hu2
      refine ⟨rfl, ?_, ?_⟩
      · show RR (K_d2 s2 p s1.2.2.2.2) (if a2.1 p 1 0 = 1 then A_handles a2 p else a2)
        rw [if_pos hu2]
        exact hd2.1
      · show JV (B + 5) (if a2.1 p 1 0 = 1 then A_handles a2 p else a2)
        rw [if_pos hu2]
        exact JV_of j1 (IV_drop (IV_handles ivm2 hp lq2 (by rw [afm.1]; exact to1) (by omega))) (by omega) (AF_trans afm AF_handles) hd2.2
    · have hd0 : K_d2 s2 p s1.2.2.2.2 = s2 := by
        unfold K_d2
        rw [e2, if_neg hu2]
      refine ⟨rfl, ?_, ?_⟩
      · show RR (K_d2 s2 p s1.2.2.2.2) (if a2.1 p 1 0 = 1 then A_handles a2 p else a2)
        rw [if_neg hu2, hd0]
        exact hm.1
      · show JV (B + 5) (if a2.1 p 1 0 = 1 then A_handles a2 p else a2)
        rw [if_neg hu2]
        exact JV_of j1 (IV_drop (IV_mono (by omega) ivm)) (by omega) afm hnj
  · rw [if_neg hu, if_neg hu]
    exact ⟨rfl, r1, JV_mono (by omega) j1⟩
