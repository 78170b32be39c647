/-! again: class and reference -/
theorem and_bit {x y s : Int32} : ((x &&& y) >>> s) &&& 1 = ((x >>> s) &&& 1) &&& ((y >>> s) &&& 1) := by
  apply Int32.toBitVec_inj.mp
  simp only [Int32.toBitVec_and, Int32.toBitVec_shiftRight, BitVec.sshiftRight_eq', BitVec.sshiftRight_and_distrib]
  apply BitVec.eq_of_getLsbD_eq
  intro j _
  simp only [BitVec.getLsbD_and]
  exact (by decide : ∀ a b c : Bool, (a && b && c) = (a && c && (b && c))) _ _ _
theorem andn_0 {x y : Int32} : (x &&& (y ^^^ (-1))) &&& y = 0 := by
  apply Int32.toBitVec_inj.mp
  simp only [Int32.toBitVec_and, Int32.toBitVec_xor]
  apply BitVec.eq_of_getLsbD_eq
  intro j hj
  have e1 : (-1 : Int32).toBitVec.getLsbD j = true := (by decide : ∀ j, j < 32 → (-1 : Int32).toBitVec.getLsbD j = true) j hj
  have e0 : (0 : Int32).toBitVec.getLsbD j = false := (by decide : ∀ j, j < 32 → (0 : Int32).toBitVec.getLsbD j = false) j hj
  rw [e0]
  simp only [BitVec.getLsbD_and, BitVec.getLsbD_xor]
  rw [e1]
  exact (by decide : ∀ a b : Bool, (a && (b ^^ true) && b) = false) _ _
theorem miss_bit {x y s : Int32} (h : (y >>> s) &&& 1 = 1) : ((x &&& (y ^^^ (-1))) >>> s) &&& 1 = ((0 : Int32) >>> s) &&& 1 := by
  have e := and_bit (x := x &&& (y ^^^ (-1))) (y := y) (s := s)
  rw [andn_0, h, Int32.and_assoc, show (1 : Int32) &&& 1 = 1 from by decide] at e
  exact e.symm
theorem miss_bit0 {x y s : Int32} (h : (x >>> s) &&& 1 = 0) : ((x &&& y) >>> s) &&& 1 = 0 := by
  rw [and_bit, h, Int32.zero_and]
theorem bc_e8 {x z : Int32} (h : E8 x) : bc (x &&& z) = mny (x &&& z) 8 := by
  unfold E8 at h
  have e := bc8 (x := z) (c := x)
  rw [h, Int32.and_assoc, h] at e
  rw [Int32.and_comm x z]
  exact e
theorem miss_eq {x y : nv} (hb : x 0 1 = y 1 0) (h : y 1 0 = 1 → x 12 5 = y 19 0 ∧ x 12 6 = y 20 0) (h8 : E8 (y 19 0)) : C_miss x = A_miss y := by
  unfold C_miss A_miss
  rw [hb]
  by_cases c : y 1 0 = 1
  · obtain ⟨e1, e2⟩ := h c
    rw [if_pos c, if_pos c, e1, e2]
    exact bc_e8 h8
  · rw [if_neg c, if_neg c]
theorem AP_t {b : nv} {p k : Nat} (hp : p < 8) (h : AP b p) (hu : b 1 0 = 1) (h15 : ¬ b 15 0 = 3) (h16 : ¬ b 16 0 = 0) (hb : ¬ ((b 19 0 &&& (b 20 0 ^^^ (-1))) >>> (nI k &&& 31)) &&& 1 = 0) : k ≠ p := by
  intro e
  subst e
  rcases bit01 (x := b 20 0) (s := nI k &&& 31) with z | z
  · exact hb (miss_bit0 (h hu h15 h16 z))
  · exact hb ((miss_bit z).trans (zsh hp))
theorem IV_re {B p : Nat} {X : Nat → Int32} {a : rA} (hp : p < 8) (h : IV B X a) (hu : a.1 p 1 0 = 1) (h15 : ¬ a.1 p 15 0 = 3) (h16 : ¬ a.1 p 16 0 = 0) : ∀ k, k ≤ 8 → IV B X (A_re a p k) := by
  intro k
  induction k with
  | zero => exact fun _ => h
  | succ k ih =>
    intro hk
    have i1 := ih (by omega)
    have e1 := re_1 (a := a) (p := p) (k := k)
    rw [A_re]
    generalize A_re a p k = c at i1 e1 ⊢
    rw [e1]
    split
    · exact i1
    · rename_i hb
      exact IV_req i1 hp (by omega) (AP_t hp (h.2.1 p hp).2 hu h15 h16 hb) (by rw [e1]; exact hu)
theorem AF_re {a : rA} {p k : Nat} : AF a (A_re a p k) p := by
  induction k with
  | zero => exact AF_refl
  | succ k ih =>
    rw [A_re]
    split
    · exact ih
    · exact AF_trans ih AF_req
theorem RR_re {s : cS} {a : rA} {i : Nat} {w : Int32} (hi : i < 8) (hr : RR s a) (hd : DR (s.2.1 121) (a.1 i) i) (hph : a.1 i 16 0 = 1 ∨ a.1 i 16 0 = 2) (hw : Wn (a.1 i)) (hww : w = a.1 i 19 0 &&& (a.1 i 20 0 ^^^ (-1))) : ∀ k, k ≤ 8 → RR (K_re s w k) (A_re a i k) ∧ DR ((K_re s w k).2.1 121) (a.1 i) i := by
  intro k
  induction k with
  | zero => exact fun _ => ⟨hr, hd⟩
  | succ k ih =>
    intro hk
    obtain ⟨i1, i2⟩ := ih (by omega)
    have e1 := re_1 (a := a) (p := i) (k := k)
    rw [K_re, A_re]
    generalize K_re s w k = us at i1 i2 ⊢
    generalize A_re a i k = c at i1 e1 ⊢
    rw [e1, ← hww]
    by_cases h2 : (w >>> (nI k &&& 31)) &&& 1 = 0
    · rw [if_pos h2, if_pos h2]
      exact ⟨i1, i2⟩
    · rw [if_neg h2, if_neg h2]
      have hm := RM_req (x := nI k) (f := c.2.1 (ln c)) i2 hph hw
      have hrr2 := RR_M (v := un (us.2.1 121) 0 2 (nI k)) i1 (m := 121) (by decide)
      refine ⟨?_, ?_⟩
      · unfold A_request
        apply RR_send hrr2
        rw [cM_eq, e1]
        exact hm
      · rw [send_kk (CW_RR hrr2) (by decide), cM_eq]
        exact DR_to i2
theorem re_c {s : cS} {w : Int32} {k : Nat} : (K_re s w k).1 = s.1 := by
  induction k with
  | zero => rfl
  | succ k ih =>
    rw [K_re]
    split
    · exact ih
    · rw [← ih]
      unfold C_send
      split <;> rfl
theorem RR_again {B p : Nat} {s : cS} {a : rA} (hB : B < 134217500) (hp : p < 8) (hr : RR s a) (hj : JV B a) : (K_again s p).1 = (A_again a p).1 ∧ RR (K_again s p).2 (A_again a p).2 ∧ JV (B + 3) (A_again a p).2 := by
  have hrn := (hr.1 p hp).1
  have hid := (hr.1 p hp).2
  have hn := (hj.1.2.1 p hp).1
  have e1 : s.1 p 0 1 = a.1 p 1 0 := hrn.1.1
  have e2 : s.1 p 12 2 = a.1 p 16 0 := hrn.1.2.2.2.2.2.2.2.2.2
  unfold K_again A_again
  by_cases hb : a.1 p 1 0 = 1 ∧ ¬ a.1 p 16 0 = 0
  · obtain ⟨hu, h16⟩ := hb
    have hbz : ¬ C_busy (s.1 p) = 0 := by
      unfold C_busy
      rw [e1, e2, if_pos ⟨hu, h16⟩]
      decide
    have hbi := (hj.2.2 p hp).2 hu h16
    obtain ⟨h14, h18⟩ := NI_busy hn h16
    obtain ⟨ht, hrp⟩ := hrn.2 h14
    have e3 : s.1 p 12 1 = a.1 p 15 0 := ht.1
    have hph : a.1 p 16 0 = 1 ∨ a.1 p 16 0 = 2 := hbi.1.2.2.2.2.2.2.2.1
    have hc : a.1 p 1 0 = 1 ∧ ¬ a.1 p 16 0 = 0 := ⟨hu, h16⟩
    rw [if_neg hbz, if_pos hc, e3]
    by_cases h3 : a.1 p 15 0 = 3
    · rw [if_pos h3, if_pos h3]
      have key := RR_st (B := B) (s := s) (a := aG a 0 0) (x := s.1 p) (y := a.1 p) (by omega) hp (RR_g0 hr) (JV_g0 hj) hrn.1 ht hid hu (NQ_refl hn) h14 h18 hbi.2.1 hbi.2.2.2.1 hbi.2.2.2.2
      rw [cN_self, g0_self] at key
      generalize A_go (A_beg1 (aG a 0 0) p) p = A at key ⊢
      generalize K_set (K_beg1 s p) p = K at key ⊢
      obtain ⟨g1, g2, g3⟩ := key
      refine ⟨?_, g1, g2⟩
      have hk := (g1.1 p hp).1
      refine miss_eq hk.1.1 (fun hA => ?_) (g2.1.2.1 p hp).1.2.2.2.2.2.2.2.2.2.2.2.1
      have z := hk.2 (by rw [(g3 hA).2]; exact h14)
      exact ⟨z.2.1, z.2.2.1⟩
    · rw [if_neg h3, if_neg h3]
      have h15 := hbi.1.2.2.2.2.2.2.1
      have hdr := DR_draft (d := s.2.1 121) hrn hid hn.1 h14 h15 hph hbi.2.2.1
      have hrr := RR_M (v := C_draft (s.2.1 121) (s.1 p)) (RR_g0 (v := 0) hr) (m := 121) (by decide)
      have key := RR_re (w := s.1 p 12 5 &&& (s.1 p 12 6 ^^^ (-1))) hp hrr (by rw [cM_eq]; exact hdr) hph hn.1 (by rw [hrp.1, hrp.2.1]; rfl) 8 (Nat.le_refl _)
      have hiv := IV_re hp (IV_g hj.1 (by decide)) hu h3 h16 8 (Nat.le_refl _) (a := aG a 0 0)
      have e5 : (K_aga s p).1 p = s.1 p := by
        unfold K_aga
        rw [re_c]
        rfl
      refine ⟨?_, key.1, ?_⟩
      · show C_miss ((K_aga s p).1 p) = A_miss (a.1 p)
        rw [e5]
        exact miss_eq e1 (fun _ => ⟨hrp.1, hrp.2.1⟩) hn.2.2.2.2.2.2.2.2.2.2.2.1
      · refine JV_of (JV_g0 (v := 0) hj) (IV_mono (by omega) hiv) (by omega) AF_re ?_
        rw [re_1]
        exact hj.2.2 p hp
  · have hbz : C_busy (s.1 p) = 0 := by
      unfold C_busy
      rw [e1, e2, if_neg hb]
    rw [if_pos hbz, if_neg hb]
    exact ⟨rfl, RR_g0 hr, JV_mono (by omega) (JV_g0 hj)⟩
