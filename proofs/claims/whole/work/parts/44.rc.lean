/-! messages: class and reference -/
section SDM
variable {f : Nat → Int32} {n : nv} {ce be c0 c1 c2 c3 c4 c5 c6 c7 c8 : Int32} {k j i q : Nat}
theorem clW_lt (h : j < 41) : clW f n ce be k j = f j := by
  induction k with
  | zero => rfl
  | succ k ih => rw [clW, up1_ne (by omega), up1_ne (by omega), up1_ne (by omega), ih]
theorem clW_at (h : q < k) : clW f n ce be k (41 + 3 * q) = (if ce = 0 then (if be = 0 then 0 else n 27 q) else n 6 q) ∧ clW f n ce be k (41 + 3 * q + 1) = (if ce = 0 then (if be = 0 then 0 else n 28 q) else n 7 q) ∧ clW f n ce be k (41 + 3 * q + 2) = (if ce = 0 then (if be = 0 then 0 else n 29 q) else n 8 q) := by
  induction k with
  | zero => omega
  | succ k ih =>
    rw [clW]
    by_cases hq : q = k
    · subst hq
      refine ⟨?_, ?_, ?_⟩
      · rw [up1_ne (by omega), up1_ne (by omega), up1_eq]
      · rw [up1_ne (by omega), up1_eq]
      · rw [up1_eq]
    · obtain ⟨i1, i2, i3⟩ := ih (by omega)
      refine ⟨?_, ?_, ?_⟩
      · rw [up1_ne (by omega), up1_ne (by omega), up1_ne (by omega), i1]
      · rw [up1_ne (by omega), up1_ne (by omega), up1_ne (by omega), i2]
      · rw [up1_ne (by omega), up1_ne (by omega), up1_ne (by omega), i3]
theorem mpW_lt (h : j < 9) : mpW f n k j = f j := by
  induction k with
  | zero => rfl
  | succ k ih => rw [mpW, up1_ne (by omega), up1_ne (by omega), ih]
theorem mpW_at (h : q < k) : mpW f n k (9 + 2 * q) = n 9 q ∧ mpW f n k (9 + 2 * q + 1) = n 10 q := by
  induction k with
  | zero => omega
  | succ k ih =>
    rw [mpW]
    by_cases hq : q = k
    · subst hq
      refine ⟨?_, ?_⟩
      · rw [up1_ne (by omega), up1_eq]
      · rw [up1_eq]
    · obtain ⟨i1, i2⟩ := ih (by omega)
      refine ⟨?_, ?_⟩
      · rw [up1_ne (by omega), up1_ne (by omega), i1]
      · rw [up1_ne (by omega), up1_ne (by omega), i2]
theorem sdm_lt (h : j < 9) : sdm f n c0 c1 c2 c3 c4 c5 c6 c7 c8 ce be j = nine f c0 c1 c2 c3 c4 c5 c6 c7 c8 j := by
  unfold sdm
  rw [clW_lt (by omega), mpW_lt h]
theorem sdm_0 : sdm f n c0 c1 c2 c3 c4 c5 c6 c7 c8 ce be 0 = c0 := by
  rw [sdm_lt (by decide)]
  simp [nine, up1]
theorem sdm_1 : sdm f n c0 c1 c2 c3 c4 c5 c6 c7 c8 ce be 1 = c1 := by
  rw [sdm_lt (by decide)]
  simp [nine, up1]
theorem sdm_2 : sdm f n c0 c1 c2 c3 c4 c5 c6 c7 c8 ce be 2 = c2 := by
  rw [sdm_lt (by decide)]
  simp [nine, up1]
theorem sdm_3 : sdm f n c0 c1 c2 c3 c4 c5 c6 c7 c8 ce be 3 = c3 := by
  rw [sdm_lt (by decide)]
  simp [nine, up1]
theorem sdm_4 : sdm f n c0 c1 c2 c3 c4 c5 c6 c7 c8 ce be 4 = c4 := by
  rw [sdm_lt (by decide)]
  simp [nine, up1]
theorem sdm_5 : sdm f n c0 c1 c2 c3 c4 c5 c6 c7 c8 ce be 5 = c5 := by
  rw [sdm_lt (by decide)]
  simp [nine, up1]
theorem sdm_6 : sdm f n c0 c1 c2 c3 c4 c5 c6 c7 c8 ce be 6 = c6 := by
  rw [sdm_lt (by decide)]
  simp [nine, up1]
theorem sdm_7 : sdm f n c0 c1 c2 c3 c4 c5 c6 c7 c8 ce be 7 = c7 := by
  rw [sdm_lt (by decide)]
  simp [nine, up1]
theorem sdm_8 : sdm f n c0 c1 c2 c3 c4 c5 c6 c7 c8 ce be 8 = c8 := by
  rw [sdm_lt (by decide)]
  simp [nine, up1]
theorem sdm_m (h : q < 16) : sdm f n c0 c1 c2 c3 c4 c5 c6 c7 c8 ce be (9 + 2 * q) = n 9 q ∧ sdm f n c0 c1 c2 c3 c4 c5 c6 c7 c8 ce be (9 + 2 * q + 1) = n 10 q := by
  unfold sdm
  rw [clW_lt (by omega), clW_lt (by omega)]
  exact mpW_at h
theorem sdm_c (h : q < 4) : sdm f n c0 c1 c2 c3 c4 c5 c6 c7 c8 ce be (41 + 3 * q) = (if ce = 0 then (if be = 0 then 0 else n 27 q) else n 6 q) ∧ sdm f n c0 c1 c2 c3 c4 c5 c6 c7 c8 ce be (41 + 3 * q + 1) = (if ce = 0 then (if be = 0 then 0 else n 28 q) else n 7 q) ∧ sdm f n c0 c1 c2 c3 c4 c5 c6 c7 c8 ce be (41 + 3 * q + 2) = (if ce = 0 then (if be = 0 then 0 else n 29 q) else n 8 q) := clW_at h
end SDM
def RM (v : nv) (M : Nat → Int32) : Prop := (∀ j, j < 6 → v 0 j = M j) ∧ (∀ i, i < 16 → v 2 i = M (9 + 2 * i) ∧ v 3 i = M (9 + 2 * i + 1)) ∧ (M 0 = 2 ∨ M 0 = 3 → v 5 (th M) = M 6 ∧ v 6 (th M) = M 7 ∧ v 7 (th M) = M 8) ∧ (¬ (M 0 = 2 ∨ M 0 = 3) → v 0 6 = M 6 ∧ v 0 7 = M 7 ∧ M 8 = 0) ∧ (M 0 = 11 ∨ M 0 = 12 ∨ M 0 = 14 → ∀ o, o < 4 → v 5 o = M (41 + 3 * o) ∧ v 6 o = M (41 + 3 * o + 1) ∧ v 7 o = M (41 + 3 * o + 2))
theorem cp_0 {d v : nv} {j : Nat} (h : j < 8) : C_cp d v 0 j = v 0 j := by
  unfold C_cp
  rw [ua_nk (by decide), ua_nk (by decide), ua_nk (by decide), ua_nk (by decide), ua_nk (by decide)]
  have hh : j = 0 ∨ j = 1 ∨ j = 2 ∨ j = 3 ∨ j = 4 ∨ j = 5 ∨ j = 6 ∨ j = 7 := by omega
  rcases hh with h | h | h | h | h | h | h | h <;> subst h <;> simp (disch := decide) only [un_nj, un_eq]
theorem cp_a {d v : nv} : C_cp d v 2 = v 2 ∧ C_cp d v 3 = v 3 ∧ C_cp d v 5 = v 5 ∧ C_cp d v 6 = v 6 ∧ C_cp d v 7 = v 7 := by
  unfold C_cp
  refine ⟨?_, ?_, ?_, ?_, ?_⟩ <;> simp (disch := decide) only [ua_nk, ua_eq]
theorem RM_cp {d v : nv} {M : Nat → Int32} (h : RM v M) : RM (C_cp d v) M := by
  obtain ⟨h1, h2, h3, h4, h5⟩ := h
  obtain ⟨e2, e3, e5, e6, e7⟩ := cp_a (d := d) (v := v)
  unfold RM
  rw [e2, e3, e5, e6, e7, cp_0 (by decide), cp_0 (by decide)]
  exact ⟨fun j hj => by rw [cp_0 (by omega)]; exact h1 j hj, h2, h3, h4, h5⟩
theorem th_eq {M M' : Nat → Int32} (h : M 5 = M' 5) : th M = th M' := by
  unfold th
  rw [h]
/-- a message depends on its 53 numbers alone -/
theorem RM_congr {v : nv} {M M' : Nat → Int32} (h : RM v M) (e : ∀ j, j < 53 → M' j = M j) : RM v M' := by
  obtain ⟨h1, h2, h3, h4, h5⟩ := h
  have et : th M' = th M := th_eq (e 5 (by decide))
  refine ⟨fun j hj => by rw [e j (by omega)]; exact h1 j hj, fun i hi => by rw [e _ (by omega), e _ (by omega)]; exact h2 i hi, ?_, ?_, ?_⟩
  · rw [e 0 (by decide), e 6 (by decide), e 7 (by decide), e 8 (by decide), et]
    exact h3
  · rw [e 0 (by decide), e 6 (by decide), e 7 (by decide), e 8 (by decide)]
    exact h4
  · rw [e 0 (by decide)]
    intro hh q hq
    rw [e _ (by omega), e _ (by omega), e _ (by omega)]
    exact h5 hh q hq
def RR (s : cS) (a : rA) : Prop := (∀ i, i < 8 → RN (s.1 i) (a.1 i) ∧ s.1 i 0 0 = nI i) ∧ s.2.2.1 0 = a.2.2.2 1 ∧ s.2.2.1 1 = a.2.2.2 2 ∧ s.2.2.1 2 = a.2.2.2 3 ∧ Wl a ∧ (∀ x, x < 120 → s.2.2.2.1 x < 121 ∧ s.2.2.2.1 x ≠ s.2.2.2.2) ∧ (∀ x y, x < 120 → y < 120 → s.2.2.2.1 x = s.2.2.2.1 y → x = y) ∧ s.2.2.2.2 < 121 ∧ (∀ x, x < ln a → RM (s.2.1 (s.2.2.2.1 x)) (a.2.1 x))
theorem CW_RR {s : cS} {a : rA} (h : RR s a) : CW s := by
  obtain ⟨h1, h2, h3, h4, hl, h6, h7, h8, h9⟩ := h
  exact ⟨⟨ln a, hl.2, by rw [h3]; exact hl.1⟩, fun x hx => (h6 x hx).1⟩
theorem RR_N {s : cS} {a : rA} {p : Nat} {n m : nv} (h : RR s a) (hr : RN n m) (h0 : n 0 0 = s.1 p 0 0) : RR (cN s p n) (pN a p m) := by
  obtain ⟨h1, h2, h3, h4, hl, h6, h7, h8, h9⟩ := h
  refine ⟨fun i hi => ?_, h2, h3, h4, hl, h6, h7, h8, h9⟩
  by_cases hip : i = p
  · subst hip
    rw [cN_eq, pN_eq]
    exact ⟨hr, h0.trans (h1 i hi).2⟩
  · rw [cN_ne hip, pN_ne hip]
    exact h1 i hi
/-- a message that lies in no row -/
theorem RR_M {s : cS} {a : rA} {m : Nat} {v : nv} (h : RR s a) (hm : 121 ≤ m) : RR (cM s m v) a := by
  obtain ⟨h1, h2, h3, h4, hl, h6, h7, h8, h9⟩ := h
  refine ⟨h1, h2, h3, h4, hl, h6, h7, h8, fun x hx => ?_⟩
  have hx' : x < 120 := by
    have := hl.2
    omega
  have := (h6 x hx').1
  show RM ((cM s m v).2.1 (s.2.2.2.1 x)) _
  rw [cM_ne (by omega)]
  exact h9 x hx
theorem RR_send {s : cS} {a : rA} {m p : Nat} {c0 c2 c3 c4 c5 c6 c7 c8 ce be : Int32} (h : RR s a) (hm : RM (s.2.1 m) (sdm (a.2.1 (ln a)) (a.1 p) c0 (nI p) c2 c3 c4 c5 c6 c7 c8 ce be)) : RR (C_send s m) (A_send a p c0 c2 c3 c4 c5 c6 c7 c8 ce be) := by
  obtain ⟨h1, h2, h3, h4, hl, h6, h7, h8, h9⟩ := h
  have e1 : s.2.2.1 1 = nI (ln a) := by
    rw [h3]
    exact hl.1
  have hle := hl.2
  have hwl := Wl_send (p := p) (c0 := c0) (c2 := c2) (c3 := c3) (c4 := c4) (c5 := c5) (c6 := c6) (c7 := c7) (c8 := c8) (ce := ce) (be := be) hl
  unfold C_send
  unfold A_send at hwl ⊢
  by_cases h120 : ln a = 120
  · have hn : ¬ s.2.2.1 1 < 120 := by
      rw [e1, h120]
      decide
    rw [if_pos h120] at hwl ⊢
    rw [if_neg hn]
    refine ⟨h1, h2, h3, ?_, hl, h6, h7, h8, h9⟩
    show up1 s.2.2.1 2 (s.2.2.1 2 + 1) 2 = up1 a.2.2.2 3 (a.2.2.2 3 + 1) 3
    rw [up1_eq, up1_eq, h4]
  · have hlt : ln a < 120 := by omega
    have hn : s.2.2.1 1 < 120 := by
      rw [e1, show (120 : Int32) = nI 120 from rfl, nI_ltI (by omega) (by omega)]
      exact hlt
    have ec : (s.2.2.1 1).toNatClampNeg = ln a := by rw [e1, nI_cl (by omega)]
    rw [if_neg h120] at hwl ⊢
    rw [if_pos hn, ec]
    refine ⟨h1, h2, ?_, h4, hwl, h6, h7, h8, fun x hx => ?_⟩
    · show up1 s.2.2.1 1 (s.2.2.1 1 + 1) 1 = up1 a.2.2.2 2 (nI (ln a + 1)) 2
      rw [up1_eq, up1_eq, e1, nI_1]
    · have e2 : ln (aM (aG a 2 (nI (ln a + 1))) (ln a) (sdm (a.2.1 (ln a)) (a.1 p) c0 (nI p) c2 c3 c4 c5 c6 c7 c8 ce be)) = ln a + 1 := by
        show (nI (ln a + 1)).toNatClampNeg = _
        rw [nI_cl (by omega)]
      rw [e2] at hx
      show RM ((cM s (s.2.2.2.1 (ln a)) (C_cp (s.2.1 (s.2.2.2.1 (ln a))) (s.2.1 m))).2.1 (s.2.2.2.1 x)) ((aM (aG a 2 (nI (ln a + 1))) (ln a) (sdm (a.2.1 (ln a)) (a.1 p) c0 (nI p) c2 c3 c4 c5 c6 c7 c8 ce be)).2.1 x)
      by_cases hx2 : x = ln a
      · subst hx2
        rw [cM_eq, aM_2]
        exact RM_cp hm
      · have hne : s.2.2.2.1 x ≠ s.2.2.2.1 (ln a) := fun e => hx2 (h7 x (ln a) (by omega) hlt e)
        rw [cM_ne hne, aM_n hx2]
        exact h9 x (by omega)
