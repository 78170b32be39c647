/-! a message is taken out: class and reference -/
theorem RR_g0 {s : cS} {a : rA} {v : Int32} (h : RR s a) : RR s (aG a 0 v) := h
theorem RR_w {s : cS} {a : rA} {m : Nat → Int32} (h : RR s a) : RR s (aW a m) := h
theorem out_row {s : cS} {x L y : Nat} (hx : x < L) : (K_out s x L).2.2.2.1 y = if y = L - 1 then s.2.2.2.2 else if x ≤ y ∧ y < L - 1 then s.2.2.2.1 (y + 1) else s.2.2.2.1 y := by
  show (if y = L - 1 then s.2.2.2.2 else shR s.2.2.2.1 x (L - 1 - x) y) = _
  unfold shR
  by_cases h : y = L - 1
  · rw [if_pos h, if_pos h]
  · rw [if_neg h, if_neg h]
    by_cases h2 : x ≤ y ∧ y < L - 1
    · rw [if_pos h2, if_pos (by omega)]
    · rw [if_neg h2, if_neg (by omega)]
theorem out_t {s : cS} {x L : Nat} : (K_out s x L).2.2.2.2 = s.2.2.2.1 x := rfl
theorem out_1 {s : cS} {x L : Nat} : (K_out s x L).1 = s.1 := rfl
theorem out_21 {s : cS} {x L : Nat} : (K_out s x L).2.1 = s.2.1 := rfl
theorem RR_out {s : cS} {a : rA} {x : Nat} (hr : RR s a) (hx : x < ln a) : RR (K_out s x (ln a)) (A_rem a x) := by
  obtain ⟨h1, h2, h3, h4, hl, h6, h7, h8, h9⟩ := hr
  have hle := hl.2
  have e0 : (A_rem a x).2.2.2 2 = nI (ln a - 1) := rfl
  have eln : ln (A_rem a x) = ln a - 1 := by
    show ((A_rem a x).2.2.2 2).toNatClampNeg = _
    rw [e0, nI_cl (by omega)]
  refine ⟨h1, h2, ?_, h4, ⟨by rw [eln, e0], by rw [eln]; omega⟩, fun y hy => ?_, fun y z hy hz e => ?_, ?_, fun y hy => ?_⟩
  · show up1 s.2.2.1 1 (nI (ln a - 1)) 1 = nI (ln a - 1)
    rw [up1_eq]
  · rw [out_row hx, out_t]
    by_cases c1 : y = ln a - 1
    · rw [if_pos c1]
      exact ⟨h8, fun e => (h6 x (by omega)).2 e.symm⟩
    · rw [if_neg c1]
      by_cases c2 : x ≤ y ∧ y < ln a - 1
      · rw [if_pos c2]
        refine ⟨(h6 (y + 1) (by omega)).1, fun e => ?_⟩
        have := h7 (y + 1) x (by omega) (by omega) e
        omega
      · rw [if_neg c2]
        refine ⟨(h6 y hy).1, fun e => ?_⟩
        have := h7 y x hy (by omega) e
        omega
  · rw [out_row hx, out_row hx] at e
    by_cases c1 : y = ln a - 1
    · rw [if_pos c1] at e
      by_cases d1 : z = ln a - 1
      · omega
      · rw [if_neg d1] at e
        by_cases d2 : x ≤ z ∧ z < ln a - 1
        · rw [if_pos d2] at e
          exact absurd e.symm (h6 (z + 1) (by omega)).2
        · rw [if_neg d2] at e
          exact absurd e.symm (h6 z hz).2
    · rw [if_neg c1] at e
      by_cases d1 : z = ln a - 1
      · rw [if_pos d1] at e
        by_cases c2 : x ≤ y ∧ y < ln a - 1
        · rw [if_pos c2] at e
          exact absurd e (h6 (y + 1) (by omega)).2
        · rw [if_neg c2] at e
          exact absurd e (h6 y hy).2
      · rw [if_neg d1] at e
        by_cases c2 : x ≤ y ∧ y < ln a - 1
        · rw [if_pos c2] at e
          by_cases d2 : x ≤ z ∧ z < ln a - 1
          · rw [if_pos d2] at e
            have := h7 (y + 1) (z + 1) (by omega) (by omega) e
            omega
          · rw [if_neg d2] at e
            have := h7 (y + 1) z (by omega) hz e
            omega
        · rw [if_neg c2] at e
          by_cases d2 : x ≤ z ∧ z < ln a - 1
          · rw [if_pos d2] at e
            have := h7 y (z + 1) hy (by omega) e
            omega
          · rw [if_neg d2] at e
            exact h7 y z hy hz e
  · rw [out_t]
    exact (h6 x (by omega)).1
  · rw [eln] at hy
    rw [out_row hx, out_21, if_neg (by omega)]
    show RM _ (rmM a.2.1 x (53 * (ln a - 1 - x)) y)
    by_cases c2 : x ≤ y ∧ y < ln a - 1
    · rw [if_pos c2]
      refine RM_congr (h9 (y + 1) (by omega)) (fun j hj => ?_)
      unfold rmM
      rw [if_pos ⟨hj, by omega, by omega⟩]
    · rw [if_neg c2]
      refine RM_congr (h9 y (by omega)) (fun j hj => ?_)
      unfold rmM
      rw [if_neg (by omega)]
theorem RR_lose {s : cS} {a : rA} {x : Nat} (hr : RR s a) (hx : x < ln a) : RR (K_out s x (ln a)) (A_lose a x) := RR_out (a := aG a 0 0) (RR_g0 hr) hx
/-- the message that is taken out is the one that the reference reads -/
theorem RR_now {s : cS} {a : rA} {x : Nat} (hr : RR s a) (hx : x < ln a) : RR (K_out s x (ln a)) (A_now a x) ∧ RM ((K_out s x (ln a)).2.1 (K_out s x (ln a)).2.2.2.2) (A_now a x).2.2.1 := by
  refine ⟨RR_out (a := aW (aG a 0 0) (cpW a.2.2.1 (a.2.1 x) 53)) (RR_w (RR_g0 hr)) hx, ?_⟩
  rw [out_t, out_21]
  show RM _ (cpW a.2.2.1 (a.2.1 x) 53)
  refine RM_congr (hr.2.2.2.2.2.2.2.2 x hx) (fun j hj => ?_)
  rw [cpW_lt hj]
