/-! lines, and what the whole reference keeps -/
def KD (x : Int32) : Prop := x = 1 ∨ x = 2 ∨ x = 3 ∨ x = 4 ∨ x = 5 ∨ x = 6 ∨ x = 7 ∨ x = 8 ∨ x = 9 ∨ x = 10 ∨ x = 11 ∨ x = 12 ∨ x = 13 ∨ x = 14 ∨ x = 15
def S3 (x : Int32) : Prop := x = 0 ∨ x = 1 ∨ x = 2
def LNq (B : Nat) (M : Nat → Int32) : Prop := KD (M 0) ∧ (∃ f t, f < 8 ∧ t < 8 ∧ f ≠ t ∧ M 1 = nI f ∧ M 2 = nI t) ∧ Wm M ∧ (∀ k, k < 16 → S3 (M (9 + 2 * k))) ∧ (M 0 = 5 ∨ M 0 = 7 ∨ M 0 = 9 → NB (8 * B + 7) (M 6)) ∧ (M 0 = 6 → 0 ≤ M 6)
def QJ (n : nv) (x y z : Int32) : Prop := ¬ n 1 0 = 0 ∧ x ≤ n 2 0 ∧ (x = n 2 0 → n 1 0 = 1 → y ≤ n 5 0 ∧ (y = n 5 0 → ¬ n 16 0 = 0 → ¬ F_isData n = 0 ∧ z = n 17 0))
def QLq (N : Nat → nv) (M : Nat → Int32) : Prop := (∀ f, f < 8 → M 0 = 1 → M 1 = nI f → QJ (N f) (M 3) (M 4) (M 5)) ∧ (∀ t, t < 8 → M 0 = 2 → M 2 = nI t → QJ (N t) (M 3) (M 4) (M 5))
def LQ (B : Nat) (N : Nat → nv) (M : Nat → Int32) : Prop := LNq B M ∧ QLq N M
theorem LN_mono {B B' : Nat} {M : Nat → Int32} (hb : B ≤ B') (h : LNq B M) : LNq B' M := by
  obtain ⟨h1, h2, h3, h4, h5, h6⟩ := h
  exact ⟨h1, h2, h3, h4, fun z => NB_mono (by omega) (h5 z), h6⟩
theorem LQ_congr {B : Nat} {N : Nat → nv} {M M' : Nat → Int32} (h : LQ B N M) (e : ∀ j, j < 53 → M' j = M j) : LQ B N M' := by
  have e0 := e 0 (by decide)
  have e1 := e 1 (by decide)
  have e2 := e 2 (by decide)
  have e3 := e 3 (by decide)
  have e4 := e 4 (by decide)
  have e5 := e 5 (by decide)
  have e6 := e 6 (by decide)
  have e9 : ∀ k, k < 16 → M' (9 + 2 * k) = M (9 + 2 * k) := fun k hk => e _ (by omega)
  obtain ⟨⟨h1, h2, h3, h4, h5, h6⟩, h7⟩ := h
  unfold LQ LNq QLq Wm th at *
  rw [e0, e1, e2, e3, e4, e5, e6]
  refine ⟨⟨h1, h2, h3, fun k hk => ?_, h5, h6⟩, h7⟩
  rw [e9 k hk]
  exact h4 k hk
theorem QJ_QK {n n' : nv} {x y z : Int32} (h : QJ n x y z) (hk : QKq n n') : QJ n' x y z := by
  obtain ⟨a1, a2, a3⟩ := h
  obtain ⟨b1, b2, b3⟩ := hk
  refine ⟨b1 a1, Int32.le_trans a2 b2, fun e u => ?_⟩
  have e2 : n' 2 0 = n 2 0 := by
    refine Int32.le_antisymm ?_ b2
    rw [← e]
    exact a2
  obtain ⟨c1, c2, c3⟩ := b3 e2 u a1
  obtain ⟨d1, d2⟩ := a3 (by rw [e, e2]) c1
  refine ⟨Int32.le_trans d1 c2, fun f g => ?_⟩
  have f1 : n' 5 0 = n 5 0 := by
    refine Int32.le_antisymm ?_ c2
    rw [← f]
    exact d1
  obtain ⟨g1, g2, g3⟩ := c3 f1 g
  obtain ⟨h1, h2⟩ := d2 (by rw [f, f1]) g1
  refine ⟨?_, by rw [h2, g3]⟩
  unfold F_isData at *
  rw [g2]
  exact h1
theorem QL_pN {a : rA} {p : Nat} {n : nv} {M : Nat → Int32} (h : QLq a.1 M) (hk : QKq (a.1 p) n) : QLq (pN a p n).1 M := by
  have key : ∀ f x y z, QJ (a.1 f) x y z → QJ ((pN a p n).1 f) x y z := by
    intro f x y z hh
    by_cases e : f = p
    · rw [e, pN_eq]
      rw [e] at hh
      exact QJ_QK hh hk
    · rw [pN_ne e]
      exact hh
  exact ⟨fun f hf h0 h1 => key f _ _ _ (h.1 f hf h0 h1), fun t ht h0 h1 => key t _ _ _ (h.2 t ht h0 h1)⟩
def IV (B : Nat) (X : Nat → Int32) (a : rA) : Prop := Wl a ∧ (∀ q, q < 8 → NI B (a.1 q) ∧ AP (a.1 q) q) ∧ (∀ x, x < ln a → LQ B a.1 (a.2.1 x)) ∧ (X 0 = 0 ∨ LQ B a.1 X)
theorem IV_mono {B B' : Nat} {X : Nat → Int32} {a : rA} (hb : B ≤ B') (h : IV B X a) : IV B' X a := by
  obtain ⟨h1, h2, h3, h4⟩ := h
  refine ⟨h1, fun q hq => ⟨NI_mono hb (h2 q hq).1, (h2 q hq).2⟩, fun x hx => ⟨LN_mono hb (h3 x hx).1, (h3 x hx).2⟩, ?_⟩
  rcases h4 with z | z
  · exact Or.inl z
  · exact Or.inr ⟨LN_mono hb z.1, z.2⟩
theorem IV_pN {B p : Nat} {X : Nat → Int32} {a : rA} {n : nv} (h : IV B X a) (hp : p < 8) (hq : NQ B p (a.1 p) n) : IV B X (pN a p n) := by
  obtain ⟨h1, h2, h3, h4⟩ := h
  obtain ⟨q1, q2, q3⟩ := hq
  refine ⟨h1, fun q hq => ?_, fun x hx => ⟨(h3 x hx).1, QL_pN (h3 x hx).2 q2⟩, ?_⟩
  · by_cases e : q = p
    · rw [e, pN_eq]
      exact ⟨q1, q3 (h2 p hp).2⟩
    · rw [pN_ne e]
      exact h2 q hq
  · rcases h4 with z | z
    · exact Or.inl z
    · exact Or.inr ⟨z.1, QL_pN z.2 q2⟩
/-- the same, where the bound grows -/
theorem IV_pN' {B B' p : Nat} {X : Nat → Int32} {a : rA} {n : nv} (hb : B ≤ B') (h : IV B X a) (hp : p < 8) (hq : NQ B' p (a.1 p) n) : IV B' X (pN a p n) := IV_pN (IV_mono hb h) hp hq
theorem IV_g {B i : Nat} {X : Nat → Int32} {a : rA} {v : Int32} (h : IV B X a) (hi : i ≠ 2) : IV B X (aG a i v) := by
  obtain ⟨h1, h2, h3, h4⟩ := h
  have e : (aG a i v).2.2.2 2 = a.2.2.2 2 := by
    rw [aG_4, up1_ne (Ne.symm hi)]
  have el : ln (aG a i v) = ln a := by
    unfold ln
    rw [e]
  refine ⟨?_, h2, fun x hx => ?_, h4⟩
  · unfold Wl at *
    rw [el, e]
    exact h1
  · rw [el] at hx
    exact h3 x hx
section LNS
variable {a : rA} {p : Nat} {c0 c2 c3 c4 c5 c6 c7 c8 ce be : Int32}
theorem send_lines {x : Nat} (hl : Wl a) (hx : x < ln (A_send a p c0 c2 c3 c4 c5 c6 c7 c8 ce be)) : (x < ln a ∧ (A_send a p c0 c2 c3 c4 c5 c6 c7 c8 ce be).2.1 x = a.2.1 x) ∨ (A_send a p c0 c2 c3 c4 c5 c6 c7 c8 ce be).2.1 x = sdm (a.2.1 (ln a)) (a.1 p) c0 (nI p) c2 c3 c4 c5 c6 c7 c8 ce be := by
  have hle := hl.2
  unfold A_send at *
  by_cases h : ln a = 120
  · rw [if_pos h] at hx ⊢
    exact Or.inl ⟨hx, rfl⟩
  · rw [if_neg h] at hx ⊢
    generalize sdm (a.2.1 (ln a)) (a.1 p) c0 (nI p) c2 c3 c4 c5 c6 c7 c8 ce be = m at hx ⊢
    have e2 : ln (aM (aG a 2 (nI (ln a + 1))) (ln a) m) = ln a + 1 := by
      show (nI (ln a + 1)).toNatClampNeg = _
      rw [nI_cl (by omega)]
    rw [e2] at hx
    by_cases hx2 : x = ln a
    · right
      rw [hx2, aM_2]
    · left
      refine ⟨by omega, ?_⟩
      rw [aM_n hx2]
      rfl
theorem IV_send {B : Nat} {X : Nat → Int32} (h : IV B X a) (hl : ∀ f, LQ B a.1 (sdm f (a.1 p) c0 (nI p) c2 c3 c4 c5 c6 c7 c8 ce be)) : IV B X (A_send a p c0 c2 c3 c4 c5 c6 c7 c8 ce be) := by
  obtain ⟨h1, h2, h3, h4⟩ := h
  refine ⟨Wl_send h1, ?_, fun x hx => ?_, ?_⟩
  · rw [send_1]
    exact h2
  · rw [send_1]
    rcases send_lines h1 hx with ⟨z, e⟩ | e
    · rw [e]
      exact h3 x z
    · rw [e]
      exact hl _
  · rw [send_1]
    exact h4
theorem LQ_sdm {B t : Nat} {f : Nat → Int32} {N : Nat → nv} (hp : p < 8) (ht : t < 8) (hne : t ≠ p) (hn : NI B (N p)) (hk : KD c0) (e2 : c2 = nI t) (h5 : ∃ q, q < 16 ∧ c5 = nI q ∧ (c0 = 1 ∨ c0 = 2 ∨ c0 = 3 → q < 4)) (hb : c0 = 5 ∨ c0 = 7 ∨ c0 = 9 → NB (8 * B + 7) c6) (h6 : c0 = 6 → 0 ≤ c6) (q1 : c0 = 1 → QJ (N p) c3 c4 c5) (q2 : c0 = 2 → QJ (N t) c3 c4 c5) : LQ B N (sdm f (N p) c0 (nI p) c2 c3 c4 c5 c6 c7 c8 ce be) := by
  obtain ⟨q, hq, e5, hq4⟩ := h5
  have ec : c5.toNatClampNeg = q := by
    rw [e5]
    exact nI_cl (by omega)
  unfold LQ LNq QLq Wm th
  simp only [sdm_0, sdm_1, sdm_2, sdm_3, sdm_4, sdm_5, sdm_6]
  rw [ec]
  refine ⟨⟨hk, ⟨p, t, hp, ht, Ne.symm hne, rfl, e2⟩, ⟨e5, hq, hq4⟩, fun k hk => ?_, hb, h6⟩, fun f' hf h0 h1 => ?_, fun t' ht' h0 h1 => ?_⟩
  · rw [(sdm_m hk).1]
    exact hn.2.2.2.2.2.2.2.2.2.2.2.2.2.1 k hk
  · have : p = f' := (nI_eq (by omega) (by omega)).mp h1
    rw [← this]
    exact q1 h0
  · rw [e2] at h1
    have : t = t' := (nI_eq (by omega) (by omega)).mp h1
    rw [← this]
    exact q2 h0
end LNS
theorem rqk1 {b : nv} (h : rqk b = 1) : ¬ F_isData b = 0 := by
  intro hd
  unfold rqk at h
  rw [if_pos hd] at h
  split at h
  · split at h <;> exact absurd h (by decide)
  · split at h <;> exact absurd h (by decide)
theorem rqk3 {b : nv} (h : rqk b = 1 ∨ rqk b = 2 ∨ rqk b = 3) : ¬ F_isData b = 0 := by
  intro hd
  unfold rqk at h
  rw [if_pos hd] at h
  split at h
  · split at h <;> exact absurd h (by decide)
  · split at h <;> exact absurd h (by decide)
theorem rqk5 {b : nv} (h : rqk b = 5 ∨ rqk b = 7 ∨ rqk b = 9) : F_isData b = 0 ∧ b 15 0 = 3 := by
  unfold rqk at h
  by_cases hd : F_isData b = 0
  · rw [if_pos hd] at h
    refine ⟨hd, ?_⟩
    by_cases h3 : b 15 0 = 3
    · exact h3
    · rw [if_neg h3] at h
      split at h <;> exact absurd h (by decide)
  · rw [if_neg hd] at h
    split at h <;> exact absurd h (by decide)
theorem IV_req {B p t : Nat} {X : Nat → Int32} {a : rA} (h : IV B X a) (hp : p < 8) (ht : t < 8) (hne : t ≠ p) (hu : a.1 p 1 0 = 1) : IV B X (A_request a p (nI t)) := by
  have hn := (h.2.1 p hp).1
  have hw := hn.1
  unfold A_request
  refine IV_send h (fun f => LQ_sdm (N := a.1) hp ht hne hn ?_ rfl ?_ ?_ ?_ ?_ ?_)
  · unfold KD
    rcases rqk_v (b := a.1 p) with z | z | z | z | z | z <;> rw [z] <;> decide
  · by_cases hd : F_isData (a.1 p) = 0
    · by_cases h3 : a.1 p 15 0 = 3
      · refine ⟨ab (a.1 p), hw.2.1, ?_, fun z => absurd hd (rqk3 z)⟩
        unfold rq5
        rw [if_pos hd, if_pos h3]
        exact hw.1
      · refine ⟨0, by decide, ?_, fun _ => by decide⟩
        unfold rq5
        rw [if_pos hd, if_neg h3]
        rfl
    · refine ⟨ab (a.1 p), hw.2.1, ?_, fun _ => hw.2.2.1 hd⟩
      unfold rq5
      rw [if_neg hd]
      exact hw.1
  · intro z
    obtain ⟨hd, h3⟩ := rqk5 z
    unfold rq6
    rw [if_pos hd, if_pos h3]
    exact hn.2.2.2.2.2.2.1
  · intro z
    rcases rqk_v (b := a.1 p) with y | y | y | y | y | y <;> rw [y] at z <;> exact absurd z (by decide)
  · intro z
    have hd := rqk1 z
    refine ⟨by rw [hu]; decide, Int32.le_refl _, fun _ _ => ⟨Int32.le_refl _, fun _ _ => ⟨hd, ?_⟩⟩⟩
    unfold rq5
    rw [if_neg hd]
  · intro z
    rcases rqk_v (b := a.1 p) with y | y | y | y | y | y <;> rw [y] at z <;> exact absurd z (by decide)
