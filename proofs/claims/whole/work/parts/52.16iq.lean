/-! propose: class and reference -/
theorem RB_y {x y : nv} {k : Nat} {v : Int32} (h : RB x y) (hk : k = 24 ∨ k = 22) : RB x (un y k 0 v) := by
  unfold RB at *
  simp (disch := omega) only [un_nk]
  exact h
theorem conf_ok {x y z : Int32} : C_conf x y z = 0 ↔ (¬ (1 ≤ y ∧ y ≤ (if 1 ≤ x ∧ x ≤ 255 then mny x 8 else 0)) ∨ ¬ (1 ≤ z ∧ z ≤ (if 1 ≤ x ∧ x ≤ 255 then mny x 8 else 0)) ∨ y + z ≤ (if 1 ≤ x ∧ x ≤ 255 then mny x 8 else 0)) := by
  unfold C_conf
  by_cases h1 : x < 1
  · rw [if_pos h1, if_neg (fun w => Int32.not_lt.mpr w.1 h1)]
    refine ⟨fun _ => Or.inl (fun w => ?_), fun _ => rfl⟩
    exact absurd (Int32.le_trans w.1 w.2) (by decide)
  · have h1' : 1 ≤ x := Int32.not_lt.mp h1
    rw [if_neg h1]
    by_cases h2 : x < 256
    · have h0 : 0 ≤ x := Int32.le_trans (by decide) h1'
      obtain ⟨j, hj, e⟩ := nI_of2 (M := 256) (n := 256) (by decide) (Int32.not_lt.mpr h0) (Int32.le_of_lt h2)
      have hj2 : j < 256 := by
        rw [e, show (256 : Int32) = nI 256 from rfl, nI_ltI (by omega) (by omega)] at h2
        exact h2
      have h3 : x ≤ 255 := by
        rw [e, show (255 : Int32) = nI 255 from rfl, nI_leI (by omega) (by omega)]
        omega
      have eb : bc x = mny x 8 := by
        rw [e]
        exact bc8a j hj2
      have h13 : 1 ≤ x ∧ x ≤ 255 := ⟨h1', h3⟩
      rw [if_pos h2, if_pos h13, eb]
      generalize mny x 8 = m
      by_cases k1 : y < 1
      · rw [if_pos k1]
        exact ⟨fun _ => Or.inl (fun w => Int32.not_lt.mpr w.1 k1), fun _ => rfl⟩
      · rw [if_neg k1]
        by_cases k2 : m < y
        · rw [if_pos k2]
          exact ⟨fun _ => Or.inl (fun w => Int32.not_lt.mpr w.2 k2), fun _ => rfl⟩
        · rw [if_neg k2]
          by_cases k3 : z < 1
          · rw [if_pos k3]
            exact ⟨fun _ => Or.inr (Or.inl (fun w => Int32.not_lt.mpr w.1 k3)), fun _ => rfl⟩
          · rw [if_neg k3]
            by_cases k4 : m < z
            · rw [if_pos k4]
              exact ⟨fun _ => Or.inr (Or.inl (fun w => Int32.not_lt.mpr w.2 k4)), fun _ => rfl⟩
            · rw [if_neg k4]
              by_cases k5 : y + z ≤ m
              · rw [if_pos k5]
                exact ⟨fun _ => Or.inr (Or.inr k5), fun _ => rfl⟩
              · rw [if_neg k5]
                refine ⟨fun w => absurd w (by decide), fun w => ?_⟩
                rcases w with w | w | w
                · exact absurd ⟨Int32.not_lt.mp k1, Int32.not_lt.mp k2⟩ w
                · exact absurd ⟨Int32.not_lt.mp k3, Int32.not_lt.mp k4⟩ w
                · exact absurd w k5
    · have h3 : ¬ (1 ≤ x ∧ x ≤ 255) := fun w => h2 (Int32.lt_of_le_of_lt w.2 (by decide))
      rw [if_neg h2, if_neg h3]
      refine ⟨fun _ => Or.inl (fun w => ?_), fun _ => rfl⟩
      exact absurd (Int32.le_trans w.1 w.2) (by decide)
theorem P_ok_0 {n : nv} {x y m : Int32} (h : F_isFree n = 0 ∨ ¬ (1 ≤ x ∧ x ≤ m) ∨ ¬ (1 ≤ y ∧ y ≤ m) ∨ x + y ≤ m ∨ gre (n 9) 16 = 15) : P_ok n x y m = 0 := if_pos h
theorem P_ok_1 {n : nv} {x y m : Int32} (h : ¬ (F_isFree n = 0 ∨ ¬ (1 ≤ x ∧ x ≤ m) ∨ ¬ (1 ≤ y ∧ y ≤ m) ∨ x + y ≤ m ∨ gre (n 9) 16 = 15)) : ¬ P_ok n x y m = 0 := by
  unfold P_ok
  rw [if_neg h]
  decide
theorem RR_propose {B p : Nat} {s : cS} {a : rA} {x y z : Int32} (hB : B < 134217500) (hp : p < 8) (hr : RR s a) (hj : JV B a) : (K_propose s p x y z).1 = (A_propose a p x y z).1 ∧ RR (K_propose s p x y z).2 (A_propose a p x y z).2 ∧ JV (B + 4) (A_propose a p x y z).2 := by
  have hrn := (hr.1 p hp).1
  have hfe := free_eq hrn.1
  have hn := (hj.1.2.1 p hp).1
  have eg : gre (s.1 p 6) 16 = gre (a.1 p 9) 16 := gre_congr 16 (fun k hk => (hrn.1.2.2.2.2.2.2.2.1 k hk).1)
  have hco := conf_ok (x := x) (y := y) (z := z)
  have hbad : (-1 : Int32) = (-1 : Int32) ∧ RR s (aG a 0 0) ∧ JV (B + 4) (aG a 0 0) := ⟨rfl, RR_g0 hr, JV_mono (by omega) (JV_g0 hj)⟩
  unfold K_propose A_propose
  rw [eg]
  by_cases hc : C_conf x y z = 0
  · rw [if_pos hc, if_pos (P_ok_0 (Or.inr ?_))]
    · exact hbad
    · rcases hco.mp hc with w | w | w
      · exact Or.inl w
      · exact Or.inr (Or.inl w)
      · exact Or.inr (Or.inr (Or.inl w))
  · have hc' := fun w => hc (hco.mpr w)
    rw [if_neg hc]
    by_cases hf : C_free (s.1 p) = 0
    · rw [if_pos hf, if_pos (P_ok_0 (Or.inl (hfe.mp hf)))]
      by_cases hlt : gre (a.1 p 9) 16 + 1 < 16
      · rw [if_pos hlt]
        exact hbad
      · rw [if_neg hlt]
        exact hbad
    · have hf2 : ¬ F_isFree (a.1 p) = 0 := fun w => hf (hfe.mpr w)
      obtain ⟨b, hb, eb, b1, bj, hu, h16⟩ := free_gre hf2
      by_cases hb15 : b = 15
      · have e15 : gre (a.1 p 9) 16 = 15 := by
          rw [eb, hb15]
          rfl
        rw [if_neg (by rw [e15]; decide), if_pos (P_ok_0 (Or.inr (Or.inr (Or.inr (Or.inr e15)))))]
        exact hbad
      · have n15 : ¬ gre (a.1 p 9) 16 = 15 := by
          rw [eb, show (15 : Int32) = nI 15 from rfl, nI_eq (by omega) (by omega)]
          exact hb15
        have hlt : gre (a.1 p 9) 16 + 1 < 16 := by
          rw [eb, nI_1, show (16 : Int32) = nI 16 from rfl, nI_ltI (by omega) (by omega)]
          omega
        rw [if_pos hlt, if_neg hf, if_neg (P_ok_1 ?_)]
        · have et : s.2.2.1 0 = a.2.2.2 1 := hr.2.1
          have eb2 : (gre (a.1 p 9) 16).toNatClampNeg = b := by
            rw [eb, nI_cl (by omega)]
          rw [opv_e, et, eb2]
          have ebs : un (a.1 p) 24 0 (gre (a.1 p 9) 16) = un (a.1 p) 24 0 (nI b) := by rw [eb]
          rw [ebs]
          obtain ⟨t1, t2, t3⟩ := top_f (n := s.1 p) (tk := a.2.2.2 1 + 1) (kd := 3) (x := nI (b + 1))
          obtain ⟨g4, g7, g8, g9, g12⟩ := top_g (n := s.1 p) (tk := a.2.2.2 1 + 1) (kd := 3) (x := nI (b + 1))
          dsimp only
          exact RR_sts (v := x + 256 * y + 4096 * z) (x := un (C_topen (s.1 p) (a.2.2.2 1 + 1) 3 (nI (b + 1))) 12 9 (x + 256 * y + 4096 * z)) (b := un (a.1 p) 24 0 (nI b)) hB hp hr hj (NQ_bs hn hb) (by rw [un_nk (by decide)]; exact hu) (by rw [un_nk (by decide)]; exact h16) (show b + 1 < 16 by omega) (fun w => absurd w (by decide)) (Or.inr (Or.inr (Or.inl rfl))) (RB_12 (RB_st (RB_y hrn.1 (Or.inl rfl)) (by rw [un_nk (by decide)]; exact h16)) (by decide)) (RT_st ((un_nj (by decide)).trans t2) ((un_nj (by decide)).trans t3) ((un_nj (by decide)).trans g4) ((un_nj (by decide)).trans g7) (fun w => absurd w (by decide)) (fun _ => un_eq) (fun w => absurd w (by decide))) ((un_nk (by decide)).trans (t1.trans (hr.1 p hp).2)) (fun _ => by unfold bs; rw [un_eq, nI_cl (by omega)]) (fun _ => by rw [un_nk (by decide)]; exact bj (b + 1) (by omega) (by omega)) (fun w => absurd w (by decide))
        · rintro (w | w | w | w | w)
          · exact hf2 w
          · exact hc' (Or.inl w)
          · exact hc' (Or.inr (Or.inl w))
          · exact hc' (Or.inr (Or.inr w))
          · exact n15 w
theorem duo_propose {B : Nat} {s : cS} {a : rA} {v x y z : Int32} (hB : B < 100000) (h : INV B s a) : DU (fun Q => w_Q_propose Q 1 v x y z) (fun Q => w_M_propose Q 1125 v x y z) B s a := by
  obtain ⟨hr, hj, hc⟩ := h
  have hl := hr.2.2.2.2.1
  by_cases hv : 0 ≤ v ∧ v ≤ 7
  · obtain ⟨p, hp, ev⟩ := i7 hv
    rw [ev]
    obtain ⟨e1, e2, e3⟩ := RR_propose (x := x) (y := y) (z := z) (by omega) hp hr hj
    refine ⟨(K_propose s p x y z).2, (A_propose a p x y z).2, (K_propose s p x y z).1, ⟨e2, JV_mono (by omega) e3, ?_⟩, fun Q g hQ => t_propose hp (CW_RR hr) (hr.1 p hp).2 hQ, fun Q g hQ => (n_propose hp hl (hj.1.2.1 p hp).1.1).mpr (by rw [← e1]; exact hQ)⟩
    unfold K_propose
    split
    · exact hc
    · split
      · rename_i hlt
        split
        · exact hc
        · rename_i hf
          obtain ⟨b, hb, eb⟩ := cfree_gre hf
          have hb2 : (gre (s.1 p 6) 16).toNatClampNeg + 1 < 16 := by
            rw [eb, nI_1, show (16 : Int32) = nI 16 from rfl, nI_ltI (by omega) (by omega)] at hlt
            rw [eb, nI_cl (by omega)]
            exact hlt
          dsimp only
          rw [opv_e]
          obtain ⟨t1, t2, t3⟩ := top_f (n := s.1 p) (tk := s.2.2.1 0 + 1) (kd := 3) (x := nI ((gre (s.1 p 6) 16).toNatClampNeg + 1))
          refine CI_CP (CI_op hc hb2 ((un_nj (by decide)).trans t3) (fun w => ?_)) CP_go
          rw [un_nj (by decide), t2] at w
          exact absurd w (by decide)
      · exact hc
  · exact ⟨s, aG a 0 0, -1, INV_g0 ⟨hr, hj, hc⟩, fun Q g hQ => t_proposem hv hQ, fun Q g hQ => (nb_propose hv).mpr hQ⟩
