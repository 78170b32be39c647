/-! twice -/
def K_twice (s : cS) (x : Nat) : Int32 × cS := if s.2.2.1 1 < 120 then (1, C_send s (s.2.2.2.1 x)) else (0, s)
theorem y_twice {Q : Option Value → xH → Prop} {c : Nat} {g : xH} {s : cS} {x L : Nat} (hw : ∀ x, x < 120 → s.2.2.2.1 x < 121) (hinj : ∀ x y, x < 120 → y < 120 → s.2.2.2.1 x = s.2.2.2.1 y → x = y) (hL : s.2.2.1 1 = nI L) (h120 : L ≤ 120) (hx : x < L) : w_Q_twice Q c (nI x) (cl c g s) ↔ Q (some (.int (K_twice s x).1)) (cl c g (K_twice s x).2) := by
  have hsd := fun Q => y_send (Q := Q) (c := c) (g := g) (s := s) (m := s.2.2.2.1 x) (L := L) (by have := hw x (by omega); omega) hL h120 (fun h => ⟨by have := hw L h; omega, fun e => by have := hinj x L (by omega) h e; omega⟩)
  unfold w_Q_twice K_twice
  constructor
  · rintro ⟨f, a, h1, h2, _, h3⟩
    rw [cg_0] at h1
    cases h1
    rw [og_0_1] at h2
    cases h2
    rw [y_row hL h120 hx] at h3
    rcases h3 with h | ⟨b, h4, f5, a6, h6, h7, f8, x9, h8, h9, h10⟩
    · exact absurd h.1 (by simp)
    · cases h4
      rw [cg_0] at h6
      cases h6
      rw [og_0_1] at h7
      cases h7
      rw [cg_2] at h8
      cases h8
      rw [og_2_2] at h9
      cases h9
      by_cases hlt : s.2.2.1 1 < 120
      · rw [if_pos hlt]
        obtain ⟨f11, a12, h11, h12, _, h13⟩ := h10.1 hlt
        rw [cg_0] at h11
        cases h11
        rw [og_0_1] at h12
        cases h12
        rw [hsd] at h13
        exact h13.2.2
      · rw [if_neg hlt]
        exact (h10.2 hlt).2
  · intro h
    refine ⟨_, _, cg_0, og_0_1, ⟨_, cg_2⟩, ?_⟩
    rw [y_row hL h120 hx]
    refine Or.inr ⟨_, rfl, _, _, cg_0, og_0_1, _, _, cg_2, og_2_2, ?_⟩
    by_cases hlt : s.2.2.1 1 < 120
    · rw [if_pos hlt] at h
      refine ⟨fun _ => ⟨_, _, cg_0, og_0_1, ⟨_, cg_2⟩, ?_⟩, fun hh => absurd hlt hh⟩
      rw [hsd]
      exact ⟨rfl, nb1, h⟩
    · rw [if_neg hlt] at h
      exact ⟨fun hh => absurd hh hlt, fun _ => ⟨nb0, h⟩⟩
theorem RR_put {s : cS} {a : rA} {m : Nat} {M : Nat → Int32} (h : RR s a) (hlt : ln a < 120) (hm : RM (s.2.1 m) M) : RR (C_send s m) (aG (aM a (ln a) M) 2 (nI (ln a + 1))) := by
  obtain ⟨h1, h2, h3, h4, hl, h6, h7, h8, h9⟩ := h
  have e1 : s.2.2.1 1 = nI (ln a) := by
    rw [h3]
    exact hl.1
  have hn : s.2.2.1 1 < 120 := by
    rw [e1, show (120 : Int32) = nI 120 from rfl, nI_ltI (by omega) (by omega)]
    exact hlt
  have ec : (s.2.2.1 1).toNatClampNeg = ln a := by rw [e1, nI_cl (by omega)]
  have e2 : ln (aG (aM a (ln a) M) 2 (nI (ln a + 1))) = ln a + 1 := by
    show (nI (ln a + 1)).toNatClampNeg = _
    rw [nI_cl (by omega)]
  unfold C_send
  rw [if_pos hn, ec]
  refine ⟨h1, h2, ?_, h4, ⟨by rw [e2]; rfl, by rw [e2]; omega⟩, h6, h7, h8, fun x hx => ?_⟩
  · show up1 s.2.2.1 1 (s.2.2.1 1 + 1) 1 = up1 a.2.2.2 2 (nI (ln a + 1)) 2
    rw [up1_eq, up1_eq, e1, nI_1]
  · rw [e2] at hx
    show RM ((cM s (s.2.2.2.1 (ln a)) (C_cp (s.2.1 (s.2.2.2.1 (ln a))) (s.2.1 m))).2.1 (s.2.2.2.1 x)) ((aM a (ln a) M).2.1 x)
    by_cases hx2 : x = ln a
    · subst hx2
      rw [cM_eq, aM_2]
      exact RM_cp hm
    · have hne : s.2.2.2.1 x ≠ s.2.2.2.1 (ln a) := fun e => hx2 (h7 x (ln a) (by omega) hlt e)
      rw [cM_ne hne, aM_n hx2]
      exact h9 x (by omega)
theorem RR_twice {s : cS} {a : rA} {x : Nat} (hr : RR s a) (hx : x < ln a) : (K_twice s x).1 = (A_twice a x).1 ∧ RR (K_twice s x).2 (A_twice a x).2 := by
  have hl := hr.2.2.2.2.1
  have hle := hl.2
  have e1 : s.2.2.1 1 = nI (ln a) := by
    rw [hr.2.2.1]
    exact hl.1
  unfold K_twice A_twice
  by_cases h : ln a = 120
  · have hn : ¬ s.2.2.1 1 < 120 := by
      rw [e1, h]
      decide
    rw [if_neg hn, if_pos h]
    exact ⟨rfl, RR_g0 hr⟩
  · have hlt : ln a < 120 := by omega
    have hn : s.2.2.1 1 < 120 := by
      rw [e1, show (120 : Int32) = nI 120 from rfl, nI_ltI (by omega) (by omega)]
      exact hlt
    rw [if_pos hn, if_neg h]
    refine ⟨rfl, RR_put (a := aG a 0 0) (RR_g0 hr) hlt ?_⟩
    refine RM_congr (hr.2.2.2.2.2.2.2.2 x hx) (fun j hj => ?_)
    rw [cpW_lt hj]
theorem y_twicen {Q : Option Value → xH → Prop} {c : Nat} {g : xH} {s : cS} {v : Int32} {L : Nat} (hL : s.2.2.1 1 = nI L) (h120 : L ≤ 120) (hn : ¬ (0 ≤ v ∧ v ≤ nI L - 1)) : w_Q_twice Q c v (cl c g s) ↔ Q (some (.int 0)) (cl c g s) := by
  unfold w_Q_twice
  constructor
  · rintro ⟨f, a, h1, h2, _, h3⟩
    rw [cg_0] at h1
    cases h1
    rw [og_0_1] at h2
    cases h2
    rw [y_rown hL h120 hn] at h3
    rcases h3 with h | ⟨b, h4, _⟩
    · exact h.2.2
    · exact absurd h4 (by simp)
  · intro h
    refine ⟨_, _, cg_0, og_0_1, ⟨_, cg_2⟩, ?_⟩
    rw [y_rown hL h120 hn]
    exact Or.inl ⟨rfl, nb0, h⟩
