/-! hear and settle against count -/
theorem SI_refused {b : nv} {i : Nat} {x : Int32} (h : SI b i) (hu : F_refused b x 1 0 = 1) : SI (F_refused b x) i := by
  obtain ⟨hw, har, hv, h23, h25, hbit, h15, h16, h14⟩ := h
  obtain ⟨u1, u2, u3, u4⟩ := up_KF (KF_refused (n := b) (b := x)) hu
  have q15 : F_refused b x 15 0 = b 15 0 := ((KF_refused (n := b) (b := x)).2.2.2.2.2 hu).2.1
  refine ⟨Wn_KF hw KF_refused, Ar_refused har, NV_refused hv, ?_, ?_, ?_, ?_, ?_, ?_⟩
  · rw [refused_k (by decide) (by decide)]
    exact h23
  · rw [refused_k (by decide) (by decide)]
    exact h25
  · rw [refused_k (by decide) (by decide), refused_k (by decide) (by decide)]
    exact hbit
  · rw [q15]
    exact h15
  · rw [u4]
    exact h16
  · rw [u3]
    exact h14
theorem set_id {s : cS} {a : rA} {i : Nat} (hi : i < 8) (hr : RR s a) (hb : a.1 i 1 0 = 1 → ¬ a.1 i 16 0 = 0 → BI (a.1 i) i) (hs : A_cd (a.1 i) = 0) : K_set s i = s := by
  unfold K_set
  rw [if_pos ((cd_eq hi hr hb).1.mpr hs)]
theorem answers_has {a : rA} {i : Nat} (h9 : ¬ a.2.2.1 0 = 9) : A_answers a i = A_go (pN a i (un (if a.2.2.1 0 = 2 then F_best (a.1 i) (ab (a.1 i)) (a.2.2.1 6) (a.2.2.1 7) (a.2.2.1 8) else if a.2.2.1 0 = 6 then F_top (a.1 i) (a.2.2.1 6) (a.2.2.1 7) else if a.2.2.1 0 = 11 then F_bestAll (a.1 i) a.2.2.1 4 else a.1 i) 20 0 (a.1 i 20 0 ||| ((1 : Int32) <<< (a.2.2.1 1 &&& 31))))) i := by
  unfold A_answers
  rw [if_neg h9]
  by_cases c2 : a.2.2.1 0 = 2
  · rw [if_pos c2, if_pos c2]
    unfold A_has
    rw [pN_eq, pN_pN, pN_2, best_k (by decide)]
  · rw [if_neg c2, if_neg c2]
    by_cases c6 : a.2.2.1 0 = 6
    · rw [if_pos c6, if_pos c6]
      unfold A_has
      rw [pN_eq, pN_pN, pN_2, top_k (by decide)]
    · rw [if_neg c6, if_neg c6]
      by_cases c11 : a.2.2.1 0 = 11
      · rw [if_pos c11, if_pos c11]
        unfold A_has
        rw [pN_eq, pN_pN, pN_2, bestAll_k (by decide)]
      · rw [if_neg c11, if_neg c11]
        rfl
theorem RR_count {s : cS} {a : rA} {i q : Nat} {v : nv} (hi : i < 8) (hr : RR s a) (hu : a.1 i 1 0 = 1) (hb : a.1 i 1 0 = 1 → ¬ a.1 i 16 0 = 0 → BI (a.1 i) i) (hset : A_cd (a.1 i) = 0) (hph : a.1 i 16 0 = 0 ∨ a.1 i 16 0 = 1 ∨ a.1 i 16 0 = 2) (hv : RM v a.2.2.1) (hq : q < 8) (hne : q ≠ i) (hf : a.2.2.1 1 = nI q) (h2 : ¬ F_counts (a.1 i) a.2.2.1 = 0 → a.2.2.1 0 = 2 → a.2.2.1 5 = nI (ab (a.1 i)) ∧ ab (a.1 i) < 4) (h9 : a.2.2.1 0 = 9 → ∃ m, m < 2147483648 ∧ a.2.2.1 6 = nI m) (h6 : a.2.2.1 0 = 6 → 0 ≤ a.2.2.1 6) (h3 : ¬ a.2.2.1 0 = 3) : RR (K_set (cN s i (C_hear (s.1 i) v)) i) (A_count a i) ∧ ((A_count a i).1 i 1 0 = 1 → ¬ (A_count a i).1 i 16 0 = 0 → BI ((A_count a i).1 i) i) := by
  obtain ⟨hn, hid⟩ := hr.1 i hi
  obtain ⟨v1, v2, v3, v4, v5⟩ := hv
  unfold A_count
  by_cases hc : F_counts (a.1 i) a.2.2.1 = 0
  · have e := cnt_iff hn hu hph (fun h16 => (hb hu h16).1.2.2.2.2.2.2.2.2) (v1 1 (by decide)) (v1 3 (by decide)) (v1 4 (by decide)) hc
    rw [if_pos hc, e, cN_self, set_id hi hr hb hset]
    exact ⟨hr, hb⟩
  · rw [if_neg hc]
    obtain ⟨c1, c3, c4, cb⟩ := cnt_ne hc
    have h16 : ¬ a.1 i 16 0 = 0 := by
      intro h
      apply c1
      rw [h]
      decide
    have hbi := hb hu h16
    have hsi := hbi.1
    have h14 := hsi.2.2.2.2.2.2.2.2
    have h25 := hsi.2.2.2.2.1
    by_cases c9 : a.2.2.1 0 = 9
    · have n23 : ¬ (a.2.2.1 0 = 2 ∨ a.2.2.1 0 = 3) := by
        rw [c9]
        decide
      obtain ⟨m, hm, em⟩ := h9 c9
      have e : C_hear (s.1 i) v = C_raise (s.1 i) (a.2.2.1 6 / 8) := by
        rw [hear_on hn hu h16 h14 ((v1 3 (by decide)).trans c3) ((v1 4 (by decide)).trans c4) (by rw [v1 1 (by decide)]; exact cb), v1 0 (by decide), if_pos c9, (v4 n23).1]
      have ea : A_answers a i = pN a i (F_refused (a.1 i) (a.2.2.1 6)) := by
        unfold A_answers
        rw [if_pos c9]
      have hx : RN (C_raise (s.1 i) (a.2.2.1 6 / 8)) (F_refused (a.1 i) (a.2.2.1 6)) := by
        unfold F_refused
        rw [em, ← div8 hm]
        exact RN_raise hn hsi.2.1
      rw [e, ea]
      have hr2 := RR_N hr hx raise_00
      have hb2 : (pN a i (F_refused (a.1 i) (a.2.2.1 6))).1 i 1 0 = 1 → ¬ (pN a i (F_refused (a.1 i) (a.2.2.1 6))).1 i 16 0 = 0 → BI ((pN a i (F_refused (a.1 i) (a.2.2.1 6))).1 i) i := by
        rw [pN_eq]
        intro hup _
        exact BI_KF hbi KF_refused hup (SI_refused hsi hup)
      have hs2 : A_cd ((pN a i (F_refused (a.1 i) (a.2.2.1 6))).1 i) = 0 := by
        rw [pN_eq]
        unfold A_cd at hset ⊢
        by_cases hup : F_refused (a.1 i) (a.2.2.1 6) 1 0 = 1
        · have hK := KF_refused (n := a.1 i) (b := a.2.2.1 6)
          obtain ⟨u1, u2, u3, u4⟩ := up_KF hK hup
          have q15 := (hK.2.2.2.2.2 hup).2.1
          have ee : F_enough (F_refused (a.1 i) (a.2.2.1 6)) = F_enough (a.1 i) := en_congr q15 u4 hK.2.2.1 hK.2.2.2.1 (refused_k (by decide) (by decide)) (refused_k (by decide) (by decide)) hK.1 hK.2.1
          rw [hup, u4, ee]
          rw [hu] at hset
          exact hset
        · rw [if_neg (fun hh => hup hh.1)]
      rw [set_id hi hr2 hb2 hs2]
      exact ⟨hr2, hb2⟩
    · rw [answers_has c9]
      have hx := RN_has (w := a.2.2.1) (an := v) hn hu h16 h14 (v1 1 (by decide)) ((v1 3 (by decide)).trans c3) ((v1 4 (by decide)).trans c4) cb (v1 0 (by decide)) c9 h25 (fun c2 => by
          obtain ⟨z1, z2⟩ := h2 hc c2
          have et : th a.2.2.1 = ab (a.1 i) := by
            unfold th
            rw [z1, nI_cl (by omega)]
          obtain ⟨y1, y2, y3⟩ := v3 (Or.inl c2)
          rw [et] at y1 y2 y3
          exact ⟨(v1 5 (by decide)).trans z1, z2, y1, y2, y3⟩) (fun c6 => by
          have n23 : ¬ (a.2.2.1 0 = 2 ∨ a.2.2.1 0 = 3) := by
            rw [c6]
            decide
          exact ⟨(v4 n23).1, (v4 n23).2.1⟩) (fun c11 => v5 (Or.inl c11))
      have hr2 := RR_N hr hx hear_00
      have hbx : BI (un (if a.2.2.1 0 = 2 then F_best (a.1 i) (ab (a.1 i)) (a.2.2.1 6) (a.2.2.1 7) (a.2.2.1 8) else if a.2.2.1 0 = 6 then F_top (a.1 i) (a.2.2.1 6) (a.2.2.1 7) else if a.2.2.1 0 = 11 then F_bestAll (a.1 i) a.2.2.1 4 else a.1 i) 20 0 (a.1 i 20 0 ||| ((1 : Int32) <<< (a.2.2.1 1 &&& 31)))) i := by
        rw [hf]
        refine BI_has hi hq hne hbi (fun k j g1 g2 g3 g4 g5 => ?_) ?_
        · split
          · exact best_k ⟨g3, g4, g5⟩
          · split
            · exact top_k ⟨g1, g2⟩
            · split
              · exact bestAll_k ⟨g3, g4, g5⟩
              · rfl
        · split
          · rw [best_k (by decide)]
            exact h25
          · split
            · rename_i c6
              unfold F_top
              split
              · exact h25
              · rw [un_nk (by decide), un_eq]
                exact h6 c6
            · split
              · rw [bestAll_k (by decide)]
                exact h25
              · exact h25
      exact RR_set hi hr2 (fun _ _ => by rw [pN_eq]; exact hbx)
