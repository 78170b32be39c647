/-! the class: takeOut, lose, twice -/
def K_out0 (s : cS) (L m : Nat) : cS := sK (sR s (fun x => if x = L - 1 then s.2.2.2.2 else s.2.2.2.1 x) m) 1 (nI (L - 1))
theorem y_to52 {Q : Option Value → xH → Prop} {c : Nat} {g : xH} {s : cS} {L m : Nat} {l1 l3 : Int32} (hL : s.2.2.1 1 = nI L) (h1L : 1 ≤ L) (h120 : L ≤ 120) (ht : s.2.2.2.2 < 121) : w_Ma_takeOut_52 Q (c + 2) l1 (ma c m) l3 (cl c g s) ↔ Q (some (.ref (ma c m))) (cl c g (K_out0 s L m)) := by
  obtain ⟨q, hq1, hq2⟩ := ty3
  have e1 : nI L - 1 = nI (L - 1) := ixs1 h1L
  have hz : (sK s 1 (nI (L - 1))).2.2.1 1 = nI (L - 1) := by
    show up1 s.2.2.1 1 (nI (L - 1)) 1 = nI (L - 1)
    rw [up1_eq]
  have ec : (nI (L - 1)).toNatClampNeg = L - 1 := nI_clamp (by omega)
  have en : 0 ≤ nI (L - 1) := nI_pos' (by omega)
  have hu : xu (cl c g (sK s 1 (nI (L - 1)))) (c + 3) (.inl (2, .inr (((List.range 120).map (fun x => some (ma c ((sK s 1 (nI (L - 1))).2.2.2.1 x)))).set (L - 1) (some (ma c (sK s 1 (nI (L - 1))).2.2.2.2))))) = cl c g (sR (sK s 1 (nI (L - 1))) (fun x => if x = L - 1 then s.2.2.2.2 else s.2.2.2.1 x) s.2.2.2.2) := by
    rw [ur_3]
    rfl
  unfold w_Ma_takeOut_52
  constructor
  · rintro ⟨f1, x2, h1, h2, f3, h3, h4, h5⟩
    rw [cg_2] at h1 h3
    cases h1
    cases h3
    rw [og_2_2] at h2
    cases h2
    have h6 := h5 _ rfl
    rw [hL, e1, ug_1] at h6
    obtain ⟨f5, a6, k1, k2, f7, x8, k3, k4, f9, a10, k5, k6, t13, q14, ar11, c15, v16, g1, g2, g3, g4, g5, g6, g7⟩ := h6
    rw [cg_2] at k1 k3 k5
    cases k1
    cases k3
    cases k5
    rw [og_2_0] at k2
    cases k2
    rw [og_2_2, hz] at k4
    cases k4
    rw [og_2_1] at k6
    cases k6
    rw [cg_3] at g3
    cases g3
    have g8 := g7 _ rfl
    rw [ec, hu] at g8
    obtain ⟨f17, k7, k8, k9⟩ := g8
    rw [cg_2] at k7
    cases k7
    have k10' := k9 _ rfl
    rw [ur_t] at k10'
    exact k10'
  · intro h
    refine ⟨_, _, cg_2, og_2_2, _, cg_2, by rw [og_2_len]; decide, fun h4 eh4 => ?_⟩
    rw [hL, e1, ug_1] at eh4
    subst eh4
    refine ⟨_, _, cg_2, og_2_0, _, _, cg_2, og_2_2, _, _, cg_2, og_2_1, 2, q, _, 3, _, hq2, hq1, cg_3, cm_0 (show (sK s 1 (nI (L - 1))).2.2.2.2 < 123 by show s.2.2.2.2 < 123; omega), by rw [hz]; exact en, ?_, fun h12 eh => ?_⟩
    · rw [hz, ec]
      simp
      omega
    · rw [hz, ec, hu] at eh
      subst eh
      refine ⟨_, cg_2, by rw [og_2_len]; decide, fun h18 eh18 => ?_⟩
      rw [ur_t] at eh18
      subst eh18
      exact h
def K_out (s : cS) (i L : Nat) : cS := K_out0 (sR s (shR s.2.2.2.1 i (L - 1 - i)) s.2.2.2.2) L (s.2.2.2.1 i)
theorem y_out {Q : Option Value → xH → Prop} {c : Nat} {g : xH} {s : cS} {i L : Nat} (hw : ∀ x, x < 120 → s.2.2.2.1 x < 121) (hL : s.2.2.1 1 = nI L) (h120 : L ≤ 120) (hi : i < L) (ht : s.2.2.2.2 < 121) : w_Ma_takeOut Q (c + 2) (nI i) (cl c g s) ↔ Q (some (.ref (ma c (s.2.2.2.1 i)))) (cl c g (K_out s i L)) := by
  have h52 := y_to52 (Q := Q) (c := c) (g := g) (s := sR s (shR s.2.2.2.1 i (L - 1 - i)) s.2.2.2.2) (m := s.2.2.2.1 i) (l1 := nI i) (l3 := nI (i + (L - 1 - i))) hL (by omega) h120 ht
  have h14 := y_to14 (Q := Q) (c := c) (g := g) (s := s) (l1 := nI i) hw hL h120 hi h52
  unfold w_Ma_takeOut
  rw [y_row hL h120 hi]
  constructor
  · rintro ⟨_, h | ⟨b, h1, h2⟩⟩
    · exact absurd h.1 (by simp)
    · cases h1
      exact h14.mp h2
  · intro h
    exact ⟨⟨_, cg_2⟩, Or.inr ⟨_, rfl, h14.mpr h⟩⟩
theorem y_outn {Q : Option Value → xH → Prop} {c : Nat} {g : xH} {s : cS} {v : Int32} {L : Nat} (hL : s.2.2.1 1 = nI L) (h120 : L ≤ 120) (hn : ¬ (0 ≤ v ∧ v ≤ nI L - 1)) : w_Ma_takeOut Q (c + 2) v (cl c g s) ↔ Q (some .null) (cl c g s) := by
  unfold w_Ma_takeOut
  rw [y_rown hL h120 hn]
  constructor
  · rintro ⟨_, h | ⟨b, h1, h2⟩⟩
    · exact h.2
    · exact absurd h1 (by simp)
  · intro h
    exact ⟨⟨_, cg_2⟩, Or.inl ⟨rfl, h⟩⟩
theorem y_lose {Q : Option Value → xH → Prop} {c : Nat} {g : xH} {s : cS} {i L : Nat} (hw : ∀ x, x < 120 → s.2.2.2.1 x < 121) (hL : s.2.2.1 1 = nI L) (h120 : L ≤ 120) (hi : i < L) (ht : s.2.2.2.2 < 121) : w_Q_lose Q c (nI i) (cl c g s) ↔ Q (some (.int 1)) (cl c g (K_out s i L)) := by
  unfold w_Q_lose
  constructor
  · rintro ⟨f, a, h1, h2, _, h3⟩
    rw [cg_0] at h1
    cases h1
    rw [og_0_1] at h2
    cases h2
    rw [y_out hw hL h120 hi ht] at h3
    rcases h3 with h | ⟨b, h4, _, h5⟩
    · exact absurd h.1 (by simp)
    · exact h5
  · intro h
    refine ⟨_, _, cg_0, og_0_1, ⟨_, cg_2⟩, ?_⟩
    rw [y_out hw hL h120 hi ht]
    exact Or.inr ⟨_, rfl, nb1, h⟩
theorem y_losen {Q : Option Value → xH → Prop} {c : Nat} {g : xH} {s : cS} {v : Int32} {L : Nat} (hL : s.2.2.1 1 = nI L) (h120 : L ≤ 120) (hn : ¬ (0 ≤ v ∧ v ≤ nI L - 1)) : w_Q_lose Q c v (cl c g s) ↔ Q (some (.int 0)) (cl c g s) := by
  unfold w_Q_lose
  constructor
  · rintro ⟨f, a, h1, h2, _, h3⟩
    rw [cg_0] at h1
    cases h1
    rw [og_0_1] at h2
    cases h2
    rw [y_outn hL h120 hn] at h3
    rcases h3 with h | ⟨b, h4, _⟩
    · exact h.2.2
    · exact absurd h4 (by simp)
  · intro h
    refine ⟨_, _, cg_0, og_0_1, ⟨_, cg_2⟩, ?_⟩
    rw [y_outn hL h120 hn]
    exact Or.inl ⟨rfl, nb0, h⟩
