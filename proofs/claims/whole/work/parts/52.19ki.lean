/-! retire: class and reference, second part -/
theorem one_16 : ∀ k, k < 16 → ((1 : Int32) <<< (nI k &&& 31)) &&& 65535 = (1 : Int32) <<< (nI k &&& 31) := by decide
theorem hav_16 {f : Nat → Int32} {w : Int32} : ∀ k, k ≤ 16 → hav f w k &&& 65535 = hav f w k := by
  intro k
  induction k with
  | zero => exact fun _ => Int32.zero_and
  | succ k ih =>
    intro hk
    rw [hav]
    split
    · rw [and_or_r, ih (by omega), one_16 k (by omega)]
    · exact ih (by omega)
theorem old_16 {f : Nat → Int32} : ∀ k, k ≤ 16 → oldW f k &&& 65535 = oldW f k := by
  intro k
  induction k with
  | zero => exact fun _ => Int32.zero_and
  | succ k ih =>
    intro hk
    rw [oldW, and_or_r, ih (by omega)]
    split
    · rw [one_16 k (by omega)]
    · rw [Int32.zero_and]
theorem oldW_congr {f f' : Nat → Int32} : ∀ k, (∀ i, i < k → f i = f' i) → oldW f k = oldW f' k := by
  intro k
  induction k with
  | zero => exact fun _ => rfl
  | succ k ih =>
    intro h
    rw [oldW, oldW, ih (fun i hi => h i (by omega)), h k (by omega)]
theorem NQ_22 {B p : Nat} {b : nv} {v : Int32} (h : NI B b) : NQ B p b (un b 22 0 v) := NQ_un h (KPn (by decide))
theorem RR_retire {B p : Nat} {s : cS} {a : rA} (hB : B < 134217500) (hp : p < 8) (hr : RR s a) (hj : JV B a) : (K_retire s p).1 = (A_retire a p).1 ∧ RR (K_retire s p).2 (A_retire a p).2 ∧ JV (B + 4) (A_retire a p).2 := by
  have hrn := (hr.1 p hp).1
  have hfe := free_eq hrn.1
  have hn := (hj.1.2.1 p hp).1
  have h69 : ∀ k, k < 16 → s.1 p 6 k = a.1 p 9 k := fun k hk => (hrn.1.2.2.2.2.2.2.2.1 k hk).1
  have eg : gre (s.1 p 6) 16 = gre (a.1 p 9) 16 := gre_congr 16 h69
  have el : lst (s.1 p 6) 16 = lst (a.1 p 9) 16 := lst_congr 16 h69
  have hbad : (-1 : Int32) = (-1 : Int32) ∧ RR s (aG a 0 0) ∧ JV (B + 4) (aG a 0 0) := ⟨rfl, RR_g0 hr, JV_mono (by omega) (JV_g0 hj)⟩
  unfold K_retire A_retire
  by_cases hf : C_free (s.1 p) = 0
  · have hor : F_isFree (a.1 p) = 0 ∨ lst (a.1 p 9) 16 = gre (a.1 p 9) 16 := Or.inl (hfe.mp hf)
    rw [if_pos hf, if_pos hor]
    by_cases hlt : 2 ≤ bc (hav (s.1 p 6) 1 16)
    · rw [if_pos hlt]
      exact hbad
    · rw [if_neg hlt]
      exact hbad
  · have hf2 : ¬ F_isFree (a.1 p) = 0 := fun w => hf (hfe.mpr w)
    obtain ⟨b, hb, eb, b1', bj, hu, h16⟩ := free_gre hf2
    have sb : s.1 p 6 b = 1 := by
      rw [h69 b hb]
      exact b1'
    have sj : ∀ j, b < j → j < 16 → ¬ s.1 p 6 j = 1 := by
      intro j h1 h2
      rw [h69 j h2]
      exact bj j h1 h2
    have c2 := cnt_two hb sb sj
    rw [el, eg] at c2
    have ebc : bc (hav (s.1 p 6) 1 16) = nI (cntq (s.1 p 6) 16) := by
      rw [bc16 (hav_16 16 (Nat.le_refl _)), mny_hav 16 (Nat.le_refl _)]
    have hle := cntq_le (f := s.1 p 6) 16
    have h2 : (2 ≤ bc (hav (s.1 p 6) 1 16)) ↔ 2 ≤ cntq (s.1 p 6) 16 := by
      rw [ebc, show (2 : Int32) = nI 2 from rfl]
      exact nI_leI (by decide) (by omega)
    by_cases hc : lst (a.1 p 9) 16 = gre (a.1 p 9) 16
    · have hn2 : ¬ 2 ≤ bc (hav (s.1 p 6) 1 16) := fun w => c2.mp (h2.mp w) hc
      have hor : F_isFree (a.1 p) = 0 ∨ lst (a.1 p 9) 16 = gre (a.1 p 9) 16 := Or.inr hc
      rw [if_neg hn2, if_pos hor]
      exact hbad
    · have hnn : ¬ (F_isFree (a.1 p) = 0 ∨ lst (a.1 p 9) 16 = gre (a.1 p 9) 16) := fun w => w.elim hf2 hc
      rw [if_pos (h2.mpr (c2.mpr hc)), if_neg hf, if_neg hnn, eg]
      have et : s.2.2.1 0 = a.2.2.2 1 := hr.2.1
      have eb2 : (gre (a.1 p 9) 16).toNatClampNeg = b := by
        rw [eb, nI_cl (by omega)]
      have eo : hav (s.1 p 6) 1 16 &&& (((1 : Int32) <<< (gre (a.1 p 9) 16 &&& 31)) ^^^ (-1)) = oldW (a.1 p 9) b := by
        rw [eb, hav_old hb sb sj]
        exact oldW_congr b (fun i hi => h69 i (by omega))
      rw [eo, opv_e, et, eb2]
      obtain ⟨t1, t2, t3⟩ := top_f (n := s.1 p) (tk := a.2.2.2 1 + 1) (kd := 4) (x := nI b)
      obtain ⟨g4, g7, g8, g9, g12⟩ := top_g (n := s.1 p) (tk := a.2.2.2 1 + 1) (kd := 4) (x := nI b)
      dsimp only
      exact RR_sts (v := 0) (x := un (C_topen (s.1 p) (a.2.2.2 1 + 1) 4 (nI b)) 12 12 (oldW (a.1 p 9) b)) (b := un (a.1 p) 22 0 (oldW (a.1 p 9) b)) hB hp hr hj (NQ_22 hn) (by rw [un_nk (by decide)]; exact hu) (by rw [un_nk (by decide)]; exact h16) hb (fun w => absurd w (by decide)) (Or.inr (Or.inr (Or.inr rfl))) (RB_12 (RB_st (RB_y hrn.1 (Or.inr rfl)) (by rw [un_nk (by decide)]; exact h16)) (by decide)) (RT_st ((un_nj (by decide)).trans t2) ((un_nj (by decide)).trans t3) ((un_nj (by decide)).trans g4) ((un_nj (by decide)).trans g7) (fun w => absurd w (by decide)) (fun w => absurd w (by decide)) (fun _ => by rw [un_eq, un_eq])) ((un_nk (by decide)).trans (t1.trans (hr.1 p hp).2)) (fun w => absurd w (by decide)) (fun w => absurd w (by decide)) (fun _ => by rw [un_eq]; exact bc16 (old_16 b (by omega)))
theorem duo_retire {B : Nat} {s : cS} {a : rA} {v : Int32} (hB : B < 100000) (h : INV B s a) : DU (fun Q => w_Q_retire Q 1 v) (fun Q => w_M_retire Q 1125 v) B s a := by
  obtain ⟨hr, hj, hc⟩ := h
  have hl := hr.2.2.2.2.1
  by_cases hv : 0 ≤ v ∧ v ≤ 7
  · obtain ⟨p, hp, ev⟩ := i7 hv
    rw [ev]
    obtain ⟨e1, e2, e3⟩ := RR_retire (by omega) hp hr hj
    refine ⟨(K_retire s p).2, (A_retire a p).2, (K_retire s p).1, ⟨e2, JV_mono (by omega) e3, ?_⟩, fun Q g hQ => t_retire hp (CW_RR hr) (hr.1 p hp).2 hQ, fun Q g hQ => (n_retire hp hl (hj.1.2.1 p hp).1.1).mpr (by rw [← e1]; exact hQ)⟩
    unfold K_retire
    split
    · split
      · exact hc
      · rename_i hf
        obtain ⟨b, hb, eb⟩ := cfree_gre hf
        have hb2 : (gre (s.1 p 6) 16).toNatClampNeg < 16 := by
          rw [eb, nI_cl (by omega)]
          exact hb
        dsimp only
        rw [opv_e]
        obtain ⟨t1, t2, t3⟩ := top_f (n := s.1 p) (tk := s.2.2.1 0 + 1) (kd := 4) (x := nI (gre (s.1 p 6) 16).toNatClampNeg)
        refine CI_CP (CI_op hc hb2 ((un_nj (by decide)).trans t3) (fun w => ?_)) CP_go
        rw [un_nj (by decide), t2] at w
        exact absurd w (by decide)
    · exact hc
  · exact ⟨s, aG a 0 0, -1, INV_g0 ⟨hr, hj, hc⟩, fun Q g hQ => t_retirem hv hQ, fun Q g hQ => (nb_retire hv).mpr hQ⟩
