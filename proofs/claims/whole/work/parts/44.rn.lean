/-! a task LOOKS at a map that has changed -/
theorem begin1_KF9 {b : nv} {p : Nat} : F_begin1 b p 9 = b 9 ∧ F_begin1 b p 22 0 = b 22 0 := by
  refine ⟨?_, begin1_k (by decide) (by decide) (by decide)⟩
  funext j
  exact begin1_k (by decide) (by decide) (by decide)
theorem BI_beg1 {a : rA} {i : Nat} {y : nv} (hbs : y 15 0 = 3 → bs y + 1 = ab y) (h9 : y 15 0 = 3 → ¬ y 9 (ab y) = 1) (hbc : y 15 0 = 4 → bc (y 22 0) = mny (y 22 0) 16) (h15' : F_begin1 y i 1 0 = 1 → F_begin1 y i 15 0 = y 15 0 ∧ (¬ F_begin1 y i 15 0 = 3 → F_begin1 y i 23 0 = 0) ∧ SI (F_begin1 y i) i) (hu : (A_beg1 (pN a i y) i).1 i 1 0 = 1) (hs : SI ((A_beg1 (pN a i y) i).1 i) i) : BI ((A_beg1 (pN a i y) i).1 i) i := by
  have hk := KF_ask (a := pN a i (F_begin1 y i)) (p := i) (s := F_want (F_begin1 y i)) (k := 8)
  unfold A_beg1 at hu hs ⊢
  rw [pN_eq, pN_pN] at hu hs ⊢
  rw [pN_eq] at hk
  have hup : F_begin1 y i 1 0 = 1 := (hk.2.2.2.2.2 hu).1
  obtain ⟨q1, q2, q3⟩ := h15' hup
  obtain ⟨q9, q22⟩ := begin1_KF9 (b := y) (p := i)
  have ea : ab (F_begin1 y i) = ab y := by
    unfold ab
    rw [begin1_k (by decide) (by decide) (by decide)]
  have eb : bs (F_begin1 y i) = bs y := by
    unfold bs
    rw [begin1_k (by decide) (by decide) (by decide)]
  have hbi : BI (F_begin1 y i) i := by
    refine ⟨q3, ?_, q2, ?_, ?_⟩
    · rw [q1, ea, eb]
      exact hbs
    · rw [q1, q9, ea]
      exact h9
    · rw [q1, q22]
      exact hbc
  exact BI_KF hbi hk hu hs
/-- a task that goes on, but for its index: its map has just changed -/
def LB (b : nv) (i : Nat) : Prop := SI b i ∧ (b 15 0 = 3 → bs b + 1 = ab b) ∧ (¬ b 15 0 = 3 → b 23 0 = 0) ∧ (b 15 0 = 4 → bc (b 22 0) = mny (b 22 0) 16)
theorem RR_look {s : cS} {a : rA} {i : Nat} {rt b0 : Int32} (hi : i < 8) (hr : RR s a) (hu : a.1 i 1 0 = 1) (h3 : ∃ m, m < 134217728 ∧ a.1 i 3 0 = nI m) (hl : ¬ a.1 i 16 0 = 0 → LB (a.1 i) i) (hrt : (b0 &&& hav (s.1 i 6) 2 16 = 0) ↔ rt = 0) : RR (K_look s i b0) (if a.1 i 16 0 = 0 then a else A_look0 a i rt) ∧ ((if a.1 i 16 0 = 0 then a else A_look0 a i rt).1 i 1 0 = 1 → ¬ (if a.1 i 16 0 = 0 then a else A_look0 a i rt).1 i 16 0 = 0 → BI ((if a.1 i 16 0 = 0 then a else A_look0 a i rt).1 i) i) := by
  obtain ⟨hn, hid⟩ := hr.1 i hi
  have g0 := hn.1.1
  have gp := hn.1.2.2.2.2.2.2.2.2.2
  unfold K_look
  by_cases hp : a.1 i 16 0 = 0
  · have hb : C_busy (s.1 i) = 0 := by
      unfold C_busy
      rw [gp, if_neg (fun hh => hh.2 hp)]
    rw [if_pos hp, if_pos hb]
    exact ⟨hr, fun _ hh => absurd hp hh⟩
  · have hb : ¬ C_busy (s.1 i) = 0 := by
      unfold C_busy
      rw [g0, gp, if_pos ⟨hu, hp⟩]
      decide
    rw [if_neg hp, if_neg hb]
    obtain ⟨hsi, l1, l2, l3⟩ := hl hp
    have hsi2 := hsi
    obtain ⟨hw, har, hv, h23, h25, hbit, h15, h16, h14⟩ := hsi
    obtain ⟨⟨t0, t1, t2, t3, u0, u1, u2⟩, ⟨p0, p1, pb, pf⟩⟩ := hn.2 h14
    have hlt := hw.2.1
    have ec : (s.1 i 12 3).toNatClampNeg = ab (a.1 i) := by
      rw [t1]
      rfl
    have s6 : s.1 i 6 (ab (a.1 i)) = a.1 i 9 (ab (a.1 i)) := (hn.1.2.2.2.2.2.2.2.1 _ hlt).1
    have s7 : s.1 i 7 (ab (a.1 i)) = a.1 i 10 (ab (a.1 i)) := (hn.1.2.2.2.2.2.2.2.1 _ hlt).2.1
    unfold A_look0 C_isO
    rw [t0, ec, s6, gp]
    have hdat : a.1 i 15 0 = 1 ∨ a.1 i 15 0 = 2 → RR (if a.1 i 16 0 = 1 ∧ ¬ b0 &&& hav (s.1 i 6) 2 16 = 0 then K_beg1 s i else K_askF s i) (if a.1 i 16 0 = 1 then (if rt = 0 then A_ask a i (aac (a.1 i 9) (a.1 i 10) 16) 8 else A_beg1 a i) else A_ask a i (aac (a.1 i 9) (a.1 i 10) 16) 8) ∧ ((if a.1 i 16 0 = 1 then (if rt = 0 then A_ask a i (aac (a.1 i 9) (a.1 i 10) 16) 8 else A_beg1 a i) else A_ask a i (aac (a.1 i 9) (a.1 i 10) 16) 8).1 i 1 0 = 1 → BI ((if a.1 i 16 0 = 1 then (if rt = 0 then A_ask a i (aac (a.1 i 9) (a.1 i 10) 16) 8 else A_beg1 a i) else A_ask a i (aac (a.1 i 9) (a.1 i 10) 16) 8).1 i) i) := by
      intro hd
      have hD : ¬ F_isData (a.1 i) = 0 := by
        unfold F_isData
        rw [if_pos hd]
        decide
      have n3 : ¬ a.1 i 15 0 = 3 := by rcases hd with e | e <;> rw [e] <;> decide
      have n4 : ¬ a.1 i 15 0 = 4 := by rcases hd with e | e <;> rw [e] <;> decide
      have ew : F_want (a.1 i) = aac (a.1 i 9) (a.1 i 10) 16 := by
        unfold F_want
        rw [if_neg hD]
      have hbi : BI (a.1 i) i := ⟨hsi2, l1, l2, fun h => absurd h n3, l3⟩
      have hask : RR (K_askF s i) (A_ask a i (aac (a.1 i 9) (a.1 i 10) 16) 8) ∧ ((A_ask a i (aac (a.1 i 9) (a.1 i 10) 16) 8).1 i 1 0 = 1 → BI ((A_ask a i (aac (a.1 i 9) (a.1 i 10) 16) 8).1 i) i) := by
        have hz := RR_askF hi hr (fun _ => ⟨hsi2, l1, l2⟩)
        rw [ew] at hz
        exact ⟨hz.1, fun hh => BI_KF hbi KF_ask hh (hz.2 hh)⟩
      by_cases h1 : a.1 i 16 0 = 1
      · rw [if_pos h1]
        by_cases h2 : rt = 0
        · rw [if_pos h2, if_neg (fun hh => hh.2 (hrt.mpr h2))]
          exact hask
        · rw [if_neg h2, if_pos ⟨h1, fun hh => h2 (hrt.mp hh)⟩]
          have hz := RR_beg1 (x := s.1 i) (y := a.1 i) hi hr hn.1 ⟨t0, t1, t2, t3, u0, u1, u2⟩ hid hu hw har hv h14 h15 h3 l1 l2
          rw [cN_self, pN_self] at hz
          refine ⟨hz.1, fun hh => ?_⟩
          have hq := BI_beg1 (a := a) (i := i) (y := a.1 i) l1 (fun h => absurd h n3) l3 (fun hup => by
            obtain ⟨z1, z2, z3⟩ := SI_begin1 hi hw har hv h14 h15 h3 l2 hup
            exact ⟨z3, z2, z1⟩)
          rw [pN_self] at hq
          exact hq hh (hz.2 hh)
      · rw [if_neg h1, if_neg (fun hh => h1 hh.1)]
        exact hask
    rcases h15 with e | e | e | e
    · have hD : ¬ F_isData (a.1 i) = 0 := by
        unfold F_isData
        rw [e]
        decide
      have n3 : ¬ a.1 i 15 0 = 3 := by
        rw [e]
        decide
      obtain ⟨z1, z2⟩ := hdat (Or.inl e)
      rw [if_neg n3, if_neg hD, if_neg (by rw [if_pos (Or.inl e)]; decide)]
      exact ⟨z1, fun hh _ => z2 hh⟩
    · have hD : ¬ F_isData (a.1 i) = 0 := by
        unfold F_isData
        rw [e]
        decide
      have n3 : ¬ a.1 i 15 0 = 3 := by
        rw [e]
        decide
      obtain ⟨z1, z2⟩ := hdat (Or.inr e)
      rw [if_neg n3, if_neg hD, if_neg (by rw [if_pos (Or.inr e)]; decide)]
      exact ⟨z1, fun hh _ => z2 hh⟩
    · have hD : F_isData (a.1 i) = 0 := by
        unfold F_isData
        rw [e]
        decide
      rw [if_pos e, if_pos hD, if_pos e]
      by_cases h9 : a.1 i 9 (ab (a.1 i)) = 0
      · rw [if_pos h9, if_pos h9]
        exact ⟨hr, fun _ _ => ⟨hsi2, l1, l2, fun _ => by rw [h9]; decide, l3⟩⟩
      · rw [if_neg h9, if_neg h9]
        have hx : RN (C_conl (s.1 i)) (F_proposed (a.1 i) (ab (a.1 i))) := by
          unfold C_conl C_res F_proposed
          rw [t0, if_pos e, t1, hw.1, if_pos (of_eq_true (yX hlt)), nI_cl (by omega), s7, u1 e]
          exact RN_fin hn
        refine ⟨RR_N hr hx P3_conl.1, fun _ hh => ?_⟩
        rw [pN_eq] at hh
        exact absurd un_eq hh
    · have hD : F_isData (a.1 i) = 0 := by
        unfold F_isData
        rw [e]
        decide
      have n3 : ¬ a.1 i 15 0 = 3 := by
        rw [e]
        decide
      have nd : ¬ (a.1 i 15 0 = 1 ∨ a.1 i 15 0 = 2) := by
        rw [e]
        decide
      rw [if_neg n3, if_pos hD, if_neg n3, if_pos (by rw [if_neg nd])]
      exact ⟨hr, fun _ _ => ⟨hsi2, l1, l2, fun h => absurd h n3, l3⟩⟩
/-- look and settle against looks -/
theorem RR_looks {s : cS} {a : rA} {i : Nat} {rt b0 : Int32} (hi : i < 8) (hr : RR s a) (hu : a.1 i 1 0 = 1) (h3 : ∃ m, m < 134217728 ∧ a.1 i 3 0 = nI m) (hl : ¬ a.1 i 16 0 = 0 → LB (a.1 i) i) (hrt : (b0 &&& hav (s.1 i 6) 2 16 = 0) ↔ rt = 0) : RR (K_set (K_look s i b0) i) (A_looks a i rt) ∧ ((A_looks a i rt).1 i 1 0 = 1 → ¬ (A_looks a i rt).1 i 16 0 = 0 → BI ((A_looks a i rt).1 i) i) := by
  obtain ⟨z1, z2⟩ := RR_look hi hr hu h3 hl hrt
  obtain ⟨w1, w2⟩ := RR_set hi z1 z2
  unfold A_looks
  by_cases hp : a.1 i 16 0 = 0
  · rw [if_pos hp] at w1 w2 ⊢
    have e : A_go a i = a := by
      unfold A_go
      rw [if_pos]
      unfold A_cd
      rw [if_neg]
      rintro ⟨_, hh, _⟩
      apply hh
      rw [hp]
      decide
    rw [e] at w1 w2
    exact ⟨w1, w2⟩
  · rw [if_neg hp] at w1 w2 ⊢
    exact ⟨w1, w2⟩
