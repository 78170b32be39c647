/-! a message that lies in no row stays as it is while others are sent -/
def CT (s s' : cS) : Prop := s'.2.2.2 = s.2.2.2 ∧ (CW s → CW s' ∧ ∀ t, t < 121 → (∀ x, x < 120 → s.2.2.2.1 x ≠ t) → s'.2.1 t = s.2.1 t)
theorem CT_refl {s : cS} : CT s s := ⟨rfl, fun h => ⟨h, fun _ _ _ => rfl⟩⟩
theorem CT_trans {s s' s'' : cS} (h : CT s s') (h' : CT s' s'') : CT s s'' := by
  refine ⟨h'.1.trans h.1, fun hw => ?_⟩
  obtain ⟨a1, a2⟩ := h.2 hw
  obtain ⟨b1, b2⟩ := h'.2 a1
  refine ⟨b1, fun t ht hr => ?_⟩
  rw [b2 t ht (by rw [h.1]; exact hr), a2 t ht hr]
theorem CT_N {s : cS} {i : Nat} {n : nv} : CT s (cN s i n) := ⟨rfl, fun h => ⟨h, fun _ _ _ => rfl⟩⟩
theorem CT_M {s : cS} {m : Nat} {v : nv} (hm : 121 ≤ m) : CT s (cM s m v) := by
  refine ⟨rfl, fun h => ⟨h, fun t ht _ => ?_⟩⟩
  rw [cM_ne (by omega)]
theorem CT_send {s : cS} {m : Nat} : CT s (C_send s m) := by
  refine ⟨(CF_send (i := 0)).1, fun hw => ⟨((CF_send (i := 0)).2.2 hw).1, fun t ht hr => ?_⟩⟩
  obtain ⟨⟨L, hL, e⟩, _⟩ := hw
  unfold C_send
  split
  · rename_i hlt
    have hL2 : L < 120 := by
      rw [e, show (120 : Int32) = nI 120 from rfl, nI_ltI (by omega) (by omega)] at hlt
      exact hlt
    have ec : (s.2.2.1 1).toNatClampNeg = L := by rw [e, nI_cl (by omega)]
    show (cM s _ _).2.1 t = _
    rw [cM_ne (by rw [ec]; exact Ne.symm (hr L hL2))]
  · rfl
theorem CT_self {s : cS} {i : Nat} : CT s (K_self s i) := by
  unfold K_self
  exact CT_trans CT_N (CT_M (by decide))
theorem CT_ask {s : cS} {i : Nat} {w : Int32} {k : Nat} : CT s (K_ask s i w k) := by
  induction k with
  | zero => exact CT_refl
  | succ k ih =>
    rw [K_ask]
    split
    · split
      · exact ih
      · split
        · split
          · exact CT_trans ih (CT_trans CT_N CT_self)
          · exact CT_trans ih (CT_trans CT_N (CT_trans (CT_M (by decide)) CT_send))
        · exact ih
    · exact ih
theorem CT_askF {s : cS} {i : Nat} : CT s (K_askF s i) := by
  unfold K_askF
  exact CT_trans (CT_M (by decide)) CT_ask
theorem CT_beg1 {s : cS} {i : Nat} : CT s (K_beg1 s i) := by
  unfold K_beg1
  exact CT_trans CT_N CT_askF
theorem CT_beg2 {s : cS} {i : Nat} : CT s (K_beg2 s i) := by
  unfold K_beg2
  exact CT_trans CT_N CT_askF
theorem CT_stp {s : cS} {i : Nat} : CT s (K_stp s i) := by
  unfold K_stp
  split
  · exact CT_beg2
  · exact CT_N
theorem CT_set {s : cS} {i : Nat} : CT s (K_set s i) := by
  unfold K_set
  split
  · exact CT_refl
  · split
    · exact CT_stp
    · exact CT_trans CT_stp CT_stp
theorem CT_look {s : cS} {i : Nat} {b : Int32} : CT s (K_look s i b) := by
  unfold K_look
  split
  · exact CT_refl
  · split
    · split
      · exact CT_refl
      · exact CT_N
    · split
      · exact CT_refl
      · split
        · exact CT_beg1
        · exact CT_askF
