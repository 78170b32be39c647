/-! phases of the whole state: class and reference -/
theorem RR_beg1 {s : cS} {a : rA} {i : Nat} {x y : nv} (hi : i < 8) (hr : RR s a) (hb : RB x y) (ht : RT x y) (hid : x 0 0 = nI i) (hu : y 1 0 = 1) (hw : Wn y) (har : Ar y) (hv : NV y) (h14 : ¬ y 14 0 = 0) (h15 : y 15 0 = 1 ∨ y 15 0 = 2 ∨ y 15 0 = 3 ∨ y 15 0 = 4) (h3 : ∃ m, m < 134217728 ∧ y 3 0 = nI m) (hbs : y 15 0 = 3 → bs y + 1 = ab y) (h23 : ¬ y 15 0 = 3 → y 23 0 = 0) : RR (K_beg1 (cN s i x) i) (A_beg1 (pN a i y) i) ∧ ((A_beg1 (pN a i y) i).1 i 1 0 = 1 → SI ((A_beg1 (pN a i y) i).1 i) i) := by
  have hn := RN_begin1 (p := i) hb ht hu har (by obtain ⟨m, hm, e⟩ := h3; exact ⟨m, by omega, e⟩) hid
  have hx : RR (cN s i (C_begin1 x)) (pN a i (F_begin1 y i)) := RR_N hr hn (by rw [begin1_00, hid, (hr.1 i hi).2])
  unfold K_beg1 A_beg1
  rw [cN_eq, cN_cN, pN_eq, pN_pN]
  have e17 : ab (F_begin1 y i) = ab y := by
    unfold ab
    rw [begin1_k (by decide) (by decide) (by decide)]
  have e24 : bs (F_begin1 y i) = bs y := by
    unfold bs
    rw [begin1_k (by decide) (by decide) (by decide)]
  have hz := RR_askF hi hx (fun hup => by
    rw [pN_eq] at hup ⊢
    obtain ⟨s1, s2, s3⟩ := SI_begin1 hi hw har hv h14 h15 h3 h23 hup
    refine ⟨s1, fun h => ?_, s2⟩
    rw [s3] at h
    rw [e17, e24]
    exact hbs h)
  rw [pN_eq] at hz
  exact hz
theorem SI_ph2 {b : nv} {i : Nat} (hw : Wn b) (har : Ar b) (hv : NV b) (h23 : ∃ m, m < 2147483648 ∧ b 23 0 = nI m) (h25 : 0 ≤ b 25 0) (h15 : b 15 0 = 1 ∨ b 15 0 = 2 ∨ b 15 0 = 3 ∨ b 15 0 = 4) (h14 : ¬ b 14 0 = 0) : SI (F_ph b 2) i := by
  have z : ((0 : Int32) >>> (nI i &&& 31)) &&& 1 = 0 := by
    rw [Int32.zero_shiftRight]
    exact Int32.zero_and
  obtain ⟨d1, d2⟩ := fp_19 (b := b) (w := 2)
  refine ⟨Wn_ph hw, ?_, ?_, ?_, ?_, ?_, ?_, ?_, ?_⟩
  · obtain ⟨m, hm, em⟩ := har
    exact ⟨m, hm, by rw [fp_k (by decide)]; exact em⟩
  · intro q
    rw [fp_k (by decide), fp_k (by decide)]
    exact hv q
  · rw [fp_k (by decide)]
    exact h23
  · rw [fp_k (by decide)]
    exact h25
  · rw [d1, d2]
    exact fun _ => z
  · rw [fp_k (by decide)]
    exact h15
  · rw [fp_16]
    exact Or.inr rfl
  · rw [fp_k (by decide)]
    exact h14
/-- a task that goes on -/
def BI (b : nv) (i : Nat) : Prop := SI b i ∧ (b 15 0 = 3 → bs b + 1 = ab b) ∧ (¬ b 15 0 = 3 → b 23 0 = 0) ∧ (b 15 0 = 3 → ¬ b 9 (ab b) = 1) ∧ (b 15 0 = 4 → bc (b 22 0) = mny (b 22 0) 16)
theorem BI_KF {b b' : nv} {i : Nat} (h : BI b i) (hk : KF b b') (hu : b' 1 0 = 1) (hs : SI b' i) : BI b' i := by
  obtain ⟨h0, h1, h2, h3, h4⟩ := h
  obtain ⟨k1, k2, k3, k4, k5, k6⟩ := hk
  obtain ⟨_, q0, q1, q2, q3, q4, q5, q6, q7, q8⟩ := k6 hu
  have ea : ab b' = ab b := by
    unfold ab
    rw [k1]
  have eb : bs b' = bs b := by
    unfold bs
    rw [k2]
  refine ⟨hs, ?_, ?_, ?_, ?_⟩
  · rw [q0, ea, eb]
    exact h1
  · rw [q0, q8]
    exact h2
  · rw [q0, k3, ea]
    exact h3
  · rw [q0, q7]
    exact h4
theorem sec_k {b : nv} {p k j : Nat} (h : k ≠ 1 ∧ k ≠ 4 ∧ k ≠ 14 ∧ k ≠ 15 ∧ k ≠ 16 ∧ k ≠ 5 ∧ k ≠ 32) (h' : k ≠ 6 ∧ k ≠ 7 ∧ k ≠ 8) (h2 : k ≠ 27 ∧ k ≠ 28 ∧ k ≠ 29) : F_sec b p k j = b k j := by
  unfold F_sec
  split
  · rfl
  · rw [store_k h h', wr_k h2]
theorem NV_sec {b : nv} {p : Nat} (h : NV b) : NV (F_sec b p) := by
  unfold F_sec
  split
  · exact h
  · apply NV_store
    unfold F_wr
    split
    · exact NV_un (NV_un (NV_un h (by decide)) (by decide)) (by decide)
    · exact h
theorem Ar_sec {b : nv} {p : Nat} (h : Ar b) : Ar (F_sec b p) := by
  unfold F_sec
  split
  · exact h
  · apply Ar_store
    unfold F_wr
    split
    · exact Ar_un (Ar_un (Ar_un h (by decide)) (by decide)) (by decide)
    · exact h
theorem BI_ph2 {b : nv} {i : Nat} (h : BI b i) : BI (F_ph b 2) i := by
  obtain ⟨⟨hw, har, hv, h23, h25, _, h15, _, h14⟩, h1, h2, h3, h4⟩ := h
  have ea : ab (F_ph b 2) = ab b := by
    unfold ab
    rw [fp_k (by decide)]
  have eb : bs (F_ph b 2) = bs b := by
    unfold bs
    rw [fp_k (by decide)]
  refine ⟨SI_ph2 hw har hv h23 h25 h15 h14, ?_, ?_, ?_, ?_⟩
  · rw [fp_k (by decide), ea, eb]
    exact h1
  · rw [fp_k (by decide), fp_k (by decide)]
    exact h2
  · rw [fp_k (by decide), fp_k (by decide), ea]
    exact h3
  · rw [fp_k (by decide), fp_k (by decide)]
    exact h4
theorem BI_sec {b : nv} {i : Nat} (h : BI b i) (hu : F_sec b i 1 0 = 1) : BI (F_sec b i) i := by
  have hk := KF_sec (n := b) (p := i)
  have hh := h
  obtain ⟨⟨hw, har, hv, h23, h25, hbit, h15, h16, h14⟩, h1, h2, h3, h4⟩ := h
  obtain ⟨u1, u2, u3, u4⟩ := up_KF hk hu
  have e15 : F_sec b i 15 0 = b 15 0 := (hk.2.2.2.2.2 hu).2.1
  refine BI_KF hh hk hu ⟨Wn_KF hw hk, Ar_sec har, NV_sec hv, ?_, ?_, ?_, ?_, ?_, ?_⟩
  · rw [sec_k (by decide) (by decide) (by decide)]
    exact h23
  · rw [sec_k (by decide) (by decide) (by decide)]
    exact h25
  · rw [sec_k (by decide) (by decide) (by decide), sec_k (by decide) (by decide) (by decide)]
    exact hbit
  · rw [e15]
    exact h15
  · rw [u4]
    exact h16
  · rw [u3]
    exact h14
theorem RR_ask2 {s : cS} {a : rA} {i : Nat} {x y : nv} (hi : i < 8) (hr : RR s a) (hn : RN x (F_ph y 2)) (h0 : x 0 0 = nI i) (hy : y 1 0 = 1) (hb : BI y i) : RR (K_askF (cN s i x) i) (A_beg2 (pN a i y) i) ∧ ((A_beg2 (pN a i y) i).1 i 1 0 = 1 → BI ((A_beg2 (pN a i y) i).1 i) i) := by
  have hx : RR (cN s i x) (pN a i (F_ph y 2)) := RR_N hr hn (by rw [h0, (hr.1 i hi).2])
  have hbp := BI_ph2 hb
  unfold A_beg2
  rw [pN_eq, pN_pN]
  have hz := RR_askF hi hx (fun hup => by
    rw [pN_eq] at hup ⊢
    exact ⟨hbp.1, hbp.2.1, hbp.2.2.1⟩)
  rw [pN_eq] at hz
  refine ⟨hz.1, fun hup => ?_⟩
  have hk := KF_ask (a := pN a i (F_ph y 2)) (p := i) (s := F_want (F_ph y 2)) (k := 8)
  rw [pN_eq] at hk
  exact BI_KF hbp hk hup (hz.2 hup)
theorem RR_second {s : cS} {a : rA} {i : Nat} (hi : i < 8) (hr : RR s a) (hu : a.1 i 1 0 = 1) (hb : BI (a.1 i) i) : RR (K_beg2 s i) (A_second a i) ∧ ((A_second a i).1 i 1 0 = 1 → BI ((A_second a i).1 i) i) := by
  obtain ⟨hn, hid⟩ := hr.1 i hi
  have hb2 := hb
  obtain ⟨⟨hw, har, hv, h23, h25, hbit, h15, h16, h14⟩, h1, h2, h3, h4⟩ := hb
  obtain ⟨r1, r2⟩ := RN_begin2 (p := i) hn hw har hu h14 h15 (ph_ne h16) hid
  have h00 : C_begin2 (s.1 i) 0 0 = nI i := by
    rw [begin2_00]
    exact hid
  unfold K_beg2 A_second
  by_cases hd : F_isData (a.1 i) = 0
  · rw [if_pos hd]
    have hz := RR_ask2 hi hr (r1 hd) h00 hu hb2
    rw [pN_self] at hz
    exact hz
  · rw [if_neg hd]
    by_cases hup : (F_sec (a.1 i) i) 1 0 = 1
    · rw [if_pos hup]
      exact RR_ask2 hi hr ((r2 hd).1 hup) h00 hup (BI_sec hb2 hup)
    · rw [if_neg hup]
      have hx : RR (cN s i (C_begin2 (s.1 i))) (pN a i (F_sec (a.1 i) i)) := RR_N hr ((r2 hd).2 hup) begin2_00
      have hz := RR_askF hi hx (fun hh => by rw [pN_eq] at hh; exact absurd hh hup)
      rw [ask_down8 (by rw [pN_eq]; exact hup)] at hz
      refine ⟨hz.1, fun hh => ?_⟩
      rw [pN_eq] at hh
      exact absurd hh hup
theorem fin_00 {n : nv} : C_fin n 0 0 = n 0 0 := P3_fin.1
theorem RR_stp {s : cS} {a : rA} {i : Nat} (hi : i < 8) (hr : RR s a) (hu : a.1 i 1 0 = 1) (hb : BI (a.1 i) i) : RR (K_stp s i) (A_stp a i) ∧ ((A_stp a i).1 i 1 0 = 1 → ¬ (A_stp a i).1 i 16 0 = 0 → BI ((A_stp a i).1 i) i) := by
  obtain ⟨hn, hid⟩ := hr.1 i hi
  have hb2 := hb
  obtain ⟨⟨hw, har, hv, h23, h25, hbit, h15, h16, h14⟩, h1, h2, h3, h4⟩ := hb
  unfold K_stp A_stp
  rw [hn.1.2.2.2.2.2.2.2.2.2]
  by_cases hp : a.1 i 16 0 = 1
  · rw [if_pos hp, if_pos hp]
    have hz := RR_second hi hr hu hb2
    exact ⟨hz.1, fun hup _ => hz.2 hup⟩
  · rw [if_neg hp, if_neg hp]
    refine ⟨RR_N hr (RN_finish hn hw har hu h14 h15 (ph_ne h16) h3 h4) fin_00, fun hup hph => ?_⟩
    rw [pN_eq] at hup hph
    exact absurd (ends_ph hup) hph
theorem cd_eq {s : cS} {a : rA} {i : Nat} (hi : i < 8) (hr : RR s a) (hb : a.1 i 1 0 = 1 → ¬ a.1 i 16 0 = 0 → BI (a.1 i) i) : (C_cd (s.1 i) = 0 ↔ A_cd (a.1 i) = 0) ∧ (¬ A_cd (a.1 i) = 0 → a.1 i 1 0 = 1 ∧ BI (a.1 i) i) := by
  obtain ⟨hn, hid⟩ := hr.1 i hi
  have g0 := hn.1.1
  have gp := hn.1.2.2.2.2.2.2.2.2.2
  by_cases hu : a.1 i 1 0 = 1
  · by_cases hp : a.1 i 16 0 = 0
    · have e1 : C_cd (s.1 i) = 0 := by
        unfold C_cd C_busy
        rw [g0, gp, if_pos]
        rw [if_neg (fun hh => hh.2 hp)]
      have e2 : A_cd (a.1 i) = 0 := by
        unfold A_cd
        rw [if_neg]
        rintro ⟨_, hh, _⟩
        apply hh
        rw [hp]
        decide
      exact ⟨⟨fun _ => e2, fun _ => e1⟩, fun hh => absurd e2 hh⟩
    · have hbi := hb hu hp
      have hbi2 := hbi
      obtain ⟨⟨hw, har, hv, h23, h25, hbit, h15, h16, h14⟩, h1, h2, h3, h4⟩ := hbi
      have ee := enough_eq hn hw h14 h15 h16 h1
      have e1 : C_cd (s.1 i) = F_enough (a.1 i) := by
        unfold C_cd C_busy
        rw [g0, gp, if_pos (show a.1 i 1 0 = 1 ∧ ¬ a.1 i 16 0 = 0 from ⟨hu, hp⟩), if_neg (by decide), ee]
      have hpos : ¬ a.1 i 16 0 ≤ 0 := by rcases h16 with e | e <;> rw [e] <;> decide
      have e2 : A_cd (a.1 i) = 0 ↔ F_enough (a.1 i) = 0 := by
        unfold A_cd
        by_cases hh : F_enough (a.1 i) = 0
        · rw [if_neg (fun hc => hc.2.2 hh)]
          exact ⟨fun _ => hh, fun _ => rfl⟩
        · rw [if_pos ⟨hu, hpos, hh⟩]
          exact ⟨fun hc => absurd hc (by decide), fun hc => absurd hc hh⟩
      rw [e1, e2]
      exact ⟨Iff.rfl, fun _ => ⟨hu, hbi2⟩⟩
  · have e1 : C_cd (s.1 i) = 0 := by
      unfold C_cd C_busy
      rw [g0, if_pos]
      rw [if_neg (fun hh => hu hh.1)]
    have e2 : A_cd (a.1 i) = 0 := by
      unfold A_cd
      rw [if_neg (fun hh => hu hh.1)]
    exact ⟨⟨fun _ => e2, fun _ => e1⟩, fun hh => absurd e2 hh⟩
theorem RR_set {s : cS} {a : rA} {i : Nat} (hi : i < 8) (hr : RR s a) (hb : a.1 i 1 0 = 1 → ¬ a.1 i 16 0 = 0 → BI (a.1 i) i) : RR (K_set s i) (A_go a i) ∧ ((A_go a i).1 i 1 0 = 1 → ¬ (A_go a i).1 i 16 0 = 0 → BI ((A_go a i).1 i) i) := by
  obtain ⟨c1, c2⟩ := cd_eq hi hr hb
  unfold K_set A_go
  by_cases h0 : A_cd (a.1 i) = 0
  · rw [if_pos h0, if_pos (c1.mpr h0)]
    exact ⟨hr, hb⟩
  · rw [if_neg h0, if_neg (fun hh => h0 (c1.mp hh))]
    obtain ⟨hu, hbi⟩ := c2 h0
    obtain ⟨r1, b1⟩ := RR_stp hi hr hu hbi
    obtain ⟨d1, d2⟩ := cd_eq hi r1 b1
    by_cases h1 : A_cd ((A_stp a i).1 i) = 0
    · rw [if_pos h1, if_pos (d1.mpr h1)]
      exact ⟨r1, b1⟩
    · rw [if_neg h1, if_neg (fun hh => h1 (d1.mp hh))]
      obtain ⟨hu1, hbi1⟩ := d2 h1
      exact RR_stp hi r1 hu1 hbi1
