/-! which nodes are asked -/
theorem hav_bit {f : Nat → Int32} {w : Int32} : ∀ m, m ≤ 16 → ∀ k, k < 16 → ((hav f w m) >>> (nI k &&& 31)) &&& 1 = if k < m ∧ f k = w then 1 else 0 := by
  intro m
  induction m with
  | zero =>
    intro _ k hk
    rw [if_neg (by omega)]
    show ((0 : Int32) >>> (nI k &&& 31)) &&& 1 = 0
    rw [Int32.zero_shiftRight]
    exact Int32.zero_and
  | succ m ih =>
    intro hm k hk
    rw [hav]
    by_cases h : f m = w
    · rw [if_pos h, or_bit, ih (by omega) k hk, bit1 m (by omega) k hk]
      by_cases e : k = m
      · subst e
        rw [if_neg (fun hh => by omega), if_pos rfl, if_pos ⟨by omega, h⟩]
        decide
      · rw [if_neg e]
        by_cases h2 : k < m ∧ f k = w
        · rw [if_pos h2, if_pos ⟨by omega, h2.2⟩]
          decide
        · rw [if_neg h2, if_neg (fun hh => h2 ⟨by omega, hh.2⟩)]
          decide
    · rw [if_neg h, ih (by omega) k hk]
      by_cases e : k = m
      · subst e
        rw [if_neg (fun hh => by omega), if_neg (fun hh => h hh.2)]
      · by_cases h2 : k < m ∧ f k = w
        · rw [if_pos h2, if_pos ⟨by omega, h2.2⟩]
        · rw [if_neg h2, if_neg (fun hh => h2 ⟨by omega, hh.2⟩)]
theorem hav_bit16 {f : Nat → Int32} {w : Int32} {k : Nat} (hk : k < 16) : (((hav f w 16) >>> (nI k &&& 31)) &&& 1 = 0) = ¬ f k = w := by
  rw [hav_bit 16 (by decide) k hk]
  by_cases h : f k = w
  · rw [if_pos ⟨hk, h⟩]
    simp [h]
  · rw [if_neg (fun hh => h hh.2)]
    simp [h]
theorem mem_aac {f g f' g' : Nat → Int32} : ∀ m, m ≤ 16 → (∀ k, k < 16 → f k = f' k ∧ g k = g' k) → C_mem g (hav f 1 16) m = aac f' g' m := by
  intro m
  induction m with
  | zero =>
    intro _ _
    rfl
  | succ m ih =>
    intro hm h
    obtain ⟨e1, e2⟩ := h m (by omega)
    rw [C_mem, aac, ih (by omega) h]
    by_cases hh : f' m = 1
    · have hx : ¬ ((hav f 1 16) >>> (nI m &&& 31)) &&& 1 = 0 := by
        rw [hav_bit16 (by omega), e1]
        exact fun hc => hc hh
      rw [if_neg hx, if_pos hh, e2]
    · have hx : ((hav f 1 16) >>> (nI m &&& 31)) &&& 1 = 0 := by
        rw [hav_bit16 (by omega), e1]
        exact hh
      rw [if_pos hx, if_neg hh, Int32.or_zero]
theorem mem_oac {w : Int32} {g g' : Nat → Int32} : ∀ m, m ≤ 16 → (∀ k, k < 16 → g k = g' k) → C_mem g w m = oac w g' m := by
  intro m
  induction m with
  | zero =>
    intro _ _
    rfl
  | succ m ih =>
    intro hm h
    rw [C_mem, oac, ih (by omega) h, h m (by omega)]
    rcases bit01 (x := w) (s := nI m &&& 31) with e | e
    · rw [e, if_pos rfl, if_neg (by decide), Int32.or_zero]
    · rw [e, if_neg (by decide), if_pos rfl]
theorem mem_one {g : Nat → Int32} {q : Nat} (hq : q < 16) : ∀ m, m ≤ 16 → C_mem g ((1 : Int32) <<< (nI q &&& 31)) m = if q < m then g q &&& 255 else 0 := by
  intro m
  induction m with
  | zero =>
    intro _
    rw [if_neg (by omega)]
    rfl
  | succ m ih =>
    intro hm
    rw [C_mem, ih (by omega)]
    by_cases e : m = q
    · subst e
      rw [if_neg (bit1e hq), if_neg (by omega), if_pos (by omega), Int32.zero_or]
    · rw [if_pos (bit1n hq (by omega) e)]
      by_cases h : q < m
      · rw [if_pos h, if_pos (by omega)]
      · rw [if_neg h, if_neg (by omega)]
theorem want_eq {a b : nv} (hr : RN a b) (hw : Wn b) (h14 : ¬ b 14 0 = 0) (h15 : b 15 0 = 1 ∨ b 15 0 = 2 ∨ b 15 0 = 3 ∨ b 15 0 = 4) (h16 : b 16 0 = 1 ∨ b 16 0 = 2) (hbs : b 15 0 = 3 → bs b + 1 = ab b) : C_mem (a 7) (C_conc a) 16 = F_want b := by
  obtain ⟨⟨g0, g1, g2, g3, g4, g5, hc, hs, hn, hp⟩, ht⟩ := hr
  obtain ⟨⟨t0, t1, t2, t3, u0, u1, u2⟩, _⟩ := ht h14
  have e7 : ∀ k, k < 16 → a 7 k = b 10 k := fun k hk => (hs k hk).2.1
  have e67 : ∀ k, k < 16 → a 6 k = b 9 k ∧ a 7 k = b 10 k := fun k hk => ⟨(hs k hk).1, (hs k hk).2.1⟩
  have hdat : b 15 0 = 1 ∨ b 15 0 = 2 → C_mem (a 7) (C_conc a) 16 = F_want b := by
    intro hd
    have hD : ¬ F_isData b = 0 := by
      unfold F_isData
      rw [if_pos hd]
      decide
    have n3 : ¬ b 15 0 = 3 := by rcases hd with e | e <;> rw [e] <;> decide
    have n4 : ¬ b 15 0 = 4 := by rcases hd with e | e <;> rw [e] <;> decide
    have ec : C_conc a = hav (a 6) 1 16 := by
      unfold C_conc
      rw [t0, if_neg n3, if_neg n4]
    have ef : F_want b = aac (b 9) (b 10) 16 := by
      unfold F_want
      rw [if_neg hD]
    rw [ec, ef]
    exact mem_aac 16 (by decide) e67
  rcases h15 with h | h | h | h
  · exact hdat (Or.inl h)
  · exact hdat (Or.inr h)
  · have hb := hbs h
    have hlt := hw.2.1
    have hD : F_isData b = 0 := by
      unfold F_isData
      rw [h]
      decide
    have e : b 17 0 - 1 = nI (bs b) := by
      rw [hw.1, ← hb]
      exact nI_pred (bs b)
    have ec : C_conc a = (1 : Int32) <<< (nI (bs b) &&& 31) := by
      unfold C_conc
      rw [t0, if_pos h, t1, e]
    have ef : F_want b = b 10 (bs b) &&& 255 := by
      unfold F_want
      rw [if_pos hD, if_pos h]
    rw [ec, ef, mem_one (by omega) 16 (by decide), if_pos (by omega), e7 (bs b) (by omega)]
  · have hD : F_isData b = 0 := by
      unfold F_isData
      rw [h]
      decide
    have n3 : ¬ b 15 0 = 3 := by
      rw [h]
      decide
    rcases h16 with h1 | h2
    · have n2 : ¬ b 16 0 = 2 := by
        rw [h1]
        decide
      have ec : C_conc a = b 22 0 := by
        unfold C_conc
        rw [t0, if_neg n3, if_pos h, hp, if_pos h1, u2 h]
      have ef : F_want b = oac (b 22 0) (b 10) 16 := by
        unfold F_want
        rw [if_pos hD, if_neg n3, if_neg n2]
      rw [ec, ef]
      exact mem_oac 16 (by decide) e7
    · have hlt := hw.2.1
      have n1 : ¬ b 16 0 = 1 := by
        rw [h2]
        decide
      have ec : C_conc a = (1 : Int32) <<< (nI (ab b) &&& 31) := by
        unfold C_conc
        rw [t0, if_neg n3, if_pos h, hp, if_neg n1, t1, hw.1]
      have ef : F_want b = b 10 (ab b) &&& 255 := by
        unfold F_want
        rw [if_pos hD, if_neg n3, if_pos h2]
      rw [ec, ef, mem_one hlt 16 (by decide), if_pos hlt, e7 (ab b) hlt]
theorem rq_eq {a b : nv} (t0 : a 12 1 = b 15 0) (hp : a 12 2 = b 16 0) (h15 : b 15 0 = 1 ∨ b 15 0 = 2 ∨ b 15 0 = 3 ∨ b 15 0 = 4) : C_rq a = rqk b := by
  unfold C_rq rqk F_isData
  rw [t0, hp]
  by_cases h1 : b 16 0 = 1
  · rcases h15 with h | h | h | h <;> rw [h, h1] <;> decide
  · rcases h15 with h | h | h | h <;> rw [h] <;> simp only [h1, if_false] <;> decide
theorem DR_draft {a b d : nv} {i : Nat} (hr : RN a b) (hid : a 0 0 = nI i) (hw : Wn b) (h14 : ¬ b 14 0 = 0) (h15 : b 15 0 = 1 ∨ b 15 0 = 2 ∨ b 15 0 = 3 ∨ b 15 0 = 4) (h16 : b 16 0 = 1 ∨ b 16 0 = 2) (h23 : ¬ b 15 0 = 3 → b 23 0 = 0) : DR (C_draft d a) b i := by
  obtain ⟨⟨g0, g1, g2, g3, g4, g5, hc, hs, hn, hp⟩, ht⟩ := hr
  obtain ⟨⟨t0, t1, t2, t3, u0, u1, u2⟩, ⟨p0, p1, pb, pf⟩⟩ := ht h14
  have hk := rq_eq t0 hp h15
  have r0 : C_draft d a 0 0 = C_rq a := dr_00
  have r5 : C_draft d a 0 5 = if a 12 1 = 4 then 0 else a 12 3 := dr_05
  have r1 : C_draft d a 0 1 = a 0 0 := by
    unfold C_draft C_open
    simp (disch := decide) only [ua_nk, un_nj, un_eq]
  have r3 : C_draft d a 0 3 = a 0 2 := by
    unfold C_draft C_open
    simp (disch := decide) only [ua_nk, un_nj, un_eq]
  have r4 : C_draft d a 0 4 = a 0 4 := by
    unfold C_draft C_open
    simp (disch := decide) only [ua_nk, un_nj, un_eq]
  have r6 : C_draft d a 0 6 = a 12 7 := by
    unfold C_draft C_open
    simp (disch := decide) only [ua_nk, un_nj, un_eq]
  have r7 : C_draft d a 0 7 = if C_rq a = 7 then a 12 11 else 0 := by
    unfold C_draft C_open
    simp (disch := decide) only [ua_nk, un_nj, un_eq]
  have s2 : C_draft d a 2 = a 6 := by
    unfold C_draft C_open
    simp (disch := decide) only [ua_nk, ua_eq, un_nk1]
  have s3 : C_draft d a 3 = a 7 := by
    unfold C_draft C_open
    simp (disch := decide) only [ua_nk, ua_eq, un_nk1]
  have s5 : C_draft d a 5 = a 14 := by
    unfold C_draft C_open
    simp (disch := decide) only [ua_nk, ua_eq, un_nk1]
  have s6 : C_draft d a 6 = a 15 := by
    unfold C_draft C_open
    simp (disch := decide) only [ua_nk, ua_eq, un_nk1]
  have s7 : C_draft d a 7 = a 16 := by
    unfold C_draft C_open
    simp (disch := decide) only [ua_nk, ua_eq, un_nk1]
  unfold DR
  rw [r0, r1, r3, r4, r5, r6, r7, s2, s3, s5, s6, s7, hk]
  refine ⟨rfl, hid, g1, g3, ?_, fun hn3 => ⟨?_, ?_⟩, fun q hq => ⟨(hs q hq).1, (hs q hq).2.1⟩, fun _ => pb⟩
  · rw [t0, t1]
    unfold rq5
    by_cases h4 : b 15 0 = 4
    · have hD : F_isData b = 0 := by
        unfold F_isData
        rw [h4]
        decide
      have n3 : ¬ b 15 0 = 3 := by
        rw [h4]
        decide
      rw [if_pos h4, if_pos hD, if_neg n3]
    · rw [if_neg h4]
      by_cases hD : F_isData b = 0
      · have h3 : b 15 0 = 3 := by
          rcases h15 with h | h | h | h
          · exfalso
            unfold F_isData at hD
            rw [h] at hD
            exact absurd hD (by decide)
          · exfalso
            unfold F_isData at hD
            rw [h] at hD
            exact absurd hD (by decide)
          · exact h
          · exact absurd h h4
        rw [if_pos hD, if_pos h3]
      · rw [if_neg hD]
  · rw [t3]
    unfold rq6
    by_cases hd : F_isData b = 0
    · rw [if_pos hd]
      by_cases h3 : b 15 0 = 3
      · rw [if_pos h3]
      · rw [if_neg h3]
        exact h23 h3
    · rw [if_neg hd]
      by_cases h1 : b 16 0 = 1
      · rw [if_pos h1]
        apply h23
        intro h3
        apply hd
        unfold F_isData
        rw [h3]
        decide
      · exfalso
        apply hn3
        unfold rqk
        rw [if_neg hd, if_neg h1]
  · unfold rq7
    by_cases hd : F_isData b = 0
    · rw [if_pos hd]
      by_cases h3 : b 15 0 = 3
      · rw [if_pos h3]
        by_cases h1 : b 16 0 = 1
        · have e : ¬ rqk b = 7 := by
            unfold rqk
            rw [if_pos hd, if_pos h3, if_pos h1]
            decide
          rw [if_pos h1, if_neg e]
        · have e : rqk b = 7 := by
            unfold rqk
            rw [if_pos hd, if_pos h3, if_neg h1]
          rw [if_neg h1, if_pos e]
          exact (pf h3 (ph_ne h16)).2
      · have e : ¬ rqk b = 7 := by
          unfold rqk
          rw [if_pos hd, if_neg h3]
          by_cases h1 : b 16 0 = 1
          · rw [if_pos h1]
            decide
          · rw [if_neg h1]
            decide
        rw [if_neg h3, if_neg e]
    · rw [if_neg hd]
      by_cases h1 : b 16 0 = 1
      · have e : ¬ rqk b = 7 := by
          unfold rqk
          rw [if_neg hd, if_pos h1]
          decide
        rw [if_pos h1, if_neg e]
      · exfalso
        apply hn3
        unfold rqk
        rw [if_neg hd, if_neg h1]
theorem RR_askF {s : cS} {a : rA} {i : Nat} (hi : i < 8) (hr : RR s a) (hs : a.1 i 1 0 = 1 → SI (a.1 i) i ∧ (a.1 i 15 0 = 3 → bs (a.1 i) + 1 = ab (a.1 i)) ∧ (¬ a.1 i 15 0 = 3 → a.1 i 23 0 = 0)) : RR (K_askF s i) (A_ask a i (F_want (a.1 i)) 8) ∧ ((A_ask a i (F_want (a.1 i)) 8).1 i 1 0 = 1 → SI ((A_ask a i (F_want (a.1 i)) 8).1 i) i) := by
  obtain ⟨hn, hid⟩ := hr.1 i hi
  have hr2 : RR (cM s 121 (C_draft (s.2.1 121) (s.1 i))) a := RR_M hr (by decide)
  unfold K_askF
  by_cases hu : a.1 i 1 0 = 1
  · obtain ⟨h1, h2, h3⟩ := hs hu
    have hsi := h1
    obtain ⟨hw, har, hnv, h23, h25, hb, h15, h16, h14⟩ := h1
    rw [want_eq hn hw h14 h15 h16 h2]
    have hx := RR_ask (w := F_want (a.1 i)) hi hr2 (fun _ => by rw [cM_eq]; exact DR_draft hn hid hw h14 h15 h16 h3) (fun _ => hsi) 8 (by decide)
    exact ⟨hx.1, fun hh => (hx.2 hh).2⟩
  · have e1 : ∀ w, K_ask (cM s 121 (C_draft (s.2.1 121) (s.1 i))) i w 8 = cM s 121 (C_draft (s.2.1 121) (s.1 i)) := fun w => kask_down (k := 0) (by show ¬ s.1 i 0 1 = 1; rw [hn.1.1]; exact hu) 8
    rw [e1, ask_down8 hu]
    exact ⟨hr2, fun hh => absurd hh hu⟩
