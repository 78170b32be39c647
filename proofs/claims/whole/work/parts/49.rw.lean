/-! read, write: the class -/
def K_op (s : cS) (p : Nat) (kd : Int32) (q : Nat) : cS := sK (cN s p (C_topen (s.1 p) (s.2.2.1 0 + 1) kd (nI q))) 0 (s.2.2.1 0 + 1)
def K_go (s : cS) (p : Nat) : cS := K_set (K_beg1 s p) p
def K_an (s : cS) (p : Nat) : Int32 := if s.1 p 0 1 = 1 then s.1 p 12 0 else -9
def K_read (s : cS) (p q : Nat) : Int32 × cS := if C_free (s.1 p) = 0 then (-1, s) else (K_an (K_go (K_op s p 1 q) p) p, K_go (K_op s p 1 q) p)
theorem top_f {n : nv} {tk kd x : Int32} : C_topen n tk kd x 0 0 = n 0 0 ∧ C_topen n tk kd x 12 1 = kd ∧ C_topen n tk kd x 12 3 = x := by
  unfold C_topen
  refine ⟨?_, ?_, ?_⟩ <;> simp (disch := decide) only [un_nk, un_nj, un_eq]
theorem KI_op {s : cS} {p q : Nat} {kd : Int32} (hw : CW s) (hid : s.1 p 0 0 = nI p) (h2 : kd = 2 → q < 4) : KI (K_op s p kd q) p q := by
  obtain ⟨t1, t2, t3⟩ := top_f (n := s.1 p) (tk := s.2.2.1 0 + 1) (kd := kd) (x := nI q)
  refine ⟨hw, ?_, ?_, ?_⟩
  · show (cN s p _).1 p 0 0 = _
    rw [cN_eq, t1]
    exact hid
  · show (cN s p _).1 p 12 3 = _
    rw [cN_eq, t3]
  · show (cN s p _).1 p 12 1 = 2 → _
    rw [cN_eq, t2]
    exact h2
theorem y_read {Q : Option Value → xH → Prop} {c : Nat} {g : xH} {s : cS} {p q : Nat} (hp : p < 8) (hq : q < 4) (hw : CW s) (hid : s.1 p 0 0 = nI p) : w_Q_read Q c (nI p) (nI q) (cl c g s) ↔ Q (some (.int (K_read s p q).1)) (cl c g (K_read s p q).2) := by
  have hk : KI (K_op s p 1 q) p q := KI_op hw hid (fun _ => hq)
  have hb1 := fun Q => y_beg1 (Q := Q) (c := c) (g := g) (s := K_op s p 1 q) hp hk.1 hk.2.1 (show q < 16 by omega) hk.2.2.1
  have hst := fun Q => y_set (Q := Q) (c := c) (g := g) (s := K_beg1 (K_op s p 1 q) p) hp (show q < 16 by omega) (KI_CG hk CG_beg1)
  have ho : (if 0 ≤ nI q ∧ ¬ 4 ≤ nI q then (1 : Int32) else 0) = 1 := if_pos (of_eq_true (yO hq))
  unfold w_Q_read K_read
  rw [s_Q_isObject, ho]
  by_cases hf : C_free (s.1 p) = 0
  · rw [if_pos hf]
    constructor
    · rintro ⟨x2, hx, h1, _⟩
      cases hx
      obtain ⟨_, h3⟩ := h1 (by decide)
      rw [y_otask hp, if_pos hf] at h3
      rcases h3 with h | ⟨b, hb, _⟩
      · exact h.2
      · exact absurd hb (by simp)
    · intro h
      refine ⟨1, rfl, fun _ => ⟨⟨_, cg_0⟩, ?_⟩, fun hh => absurd hh (by decide)⟩
      rw [y_otask hp, if_pos hf]
      exact Or.inl ⟨rfl, h⟩
  · rw [if_neg hf]
    unfold K_an K_go
    generalize K_set (K_beg1 (K_op s p 1 q) p) p = S at hst ⊢
    dsimp only
    constructor
    · rintro ⟨x2, hx, h1, _⟩
      cases hx
      obtain ⟨_, h3⟩ := h1 (by decide)
      rw [y_otask hp, if_neg hf] at h3
      rcases h3 with h | ⟨b, hb, _, h4⟩
      · exact absurd h.1 (by simp)
      · cases hb
        have h4' := (hb1 _).mp h4
        obtain ⟨_, _, h5⟩ := h4'
        rw [hst] at h5
        obtain ⟨_, h6⟩ := h5
        rw [y_started hp] at h6
        obtain ⟨x, hx, h7⟩ := h6
        have hx2 := Value.int.inj (Option.some.inj hx)
        rw [← hx2] at h7
        exact h7
    · intro h
      refine ⟨1, rfl, fun _ => ⟨⟨_, cg_0⟩, ?_⟩, fun hh => absurd hh (by decide)⟩
      rw [y_otask hp, if_neg hf]
      refine Or.inr ⟨_, rfl, ⟨_, cg_0⟩, (hb1 _).mpr ⟨rfl, ⟨_, cg_0⟩, ?_⟩⟩
      rw [hst]
      refine ⟨rfl, ?_⟩
      rw [y_started hp]
      exact ⟨_, rfl, h⟩
