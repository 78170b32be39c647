/-! what every node of the reference keeps -/
def NB (B : Nat) (x : Int32) : Prop := ∃ m, m ≤ B ∧ x = nI m
theorem NB_0 {B : Nat} : NB B 0 := ⟨0, Nat.zero_le _, rfl⟩
theorem NB_mono {B B' : Nat} {x : Int32} (hb : B ≤ B') (h : NB B x) : NB B' x := by
  obtain ⟨m, hm, e⟩ := h
  exact ⟨m, by omega, e⟩
theorem NB_inc {B : Nat} {x : Int32} (h : NB B x) : NB (B + 1) (x + 1) := by
  obtain ⟨m, hm, e⟩ := h
  refine ⟨m + 1, by omega, ?_⟩
  rw [e, nI_1]
theorem NB_nn {B : Nat} {x : Int32} (hB : B < 2147483648) (h : NB B x) : 0 ≤ x := by
  obtain ⟨m, hm, e⟩ := h
  rw [e]
  exact nI_nn (by omega)
theorem NB_shr {B : Nat} {x : Int32} (hB : B < 134217728) (h : NB (8 * B + 7) x) : NB B (x >>> ((3 : Int32) &&& 31)) := by
  obtain ⟨m, hm, e⟩ := h
  refine ⟨m / 8, by omega, ?_⟩
  rw [e, ← div8 (by omega), show (8 : Int32) = nI 8 from rfl, pk_div (by omega) (by decide) (by decide)]
def E8 (x : Int32) : Prop := x &&& 255 = x
theorem E8_0 : E8 0 := by
  unfold E8
  decide
theorem one_255 : ∀ k, k < 8 → ((1 : Int32) <<< (nI k &&& 31)) &&& 255 = (1 : Int32) <<< (nI k &&& 31) := by decide
theorem E8_or {x : Int32} {k : Nat} (hk : k < 8) (h : E8 x) : E8 (x ||| ((1 : Int32) <<< (nI k &&& 31))) := by
  unfold E8 at *
  rw [and_or_r, h, one_255 k hk]
def NI (B : Nat) (b : nv) : Prop :=
  Wn b ∧ Ar b ∧ (∀ q, NB (8 * B + 7) (b 11 q) ∧ 0 ≤ b 12 q) ∧ NB B (b 3 0) ∧ NB B (b 5 0) ∧ NB B (b 2 0) ∧ NB (8 * B + 7) (b 23 0) ∧ (b 16 0 = 0 ∨ b 16 0 = 1 ∨ b 16 0 = 2) ∧ (¬ b 1 0 = 1 → b 16 0 = 0 ∧ (b 1 0 = 0 ∨ b 1 0 = 2)) ∧ (b 1 0 = 2 → b 4 0 = 0) ∧ (¬ b 16 0 = 0 → b 18 0 = 0) ∧ E8 (b 19 0) ∧ (¬ b 14 0 = 0 → (b 15 0 = 1 ∨ b 15 0 = 2 ∨ b 15 0 = 3 ∨ b 15 0 = 4) ∧ (¬ b 15 0 = 3 → b 23 0 = 0)) ∧ (∀ q, q < 16 → b 9 q = 0 ∨ b 9 q = 1 ∨ b 9 q = 2) ∧ (¬ b 16 0 = 0 → ¬ b 14 0 = 0)
/-- what lines of a node's own stay true -/
def QKq (n n' : nv) : Prop := (¬ n 1 0 = 0 → ¬ n' 1 0 = 0) ∧ n 2 0 ≤ n' 2 0 ∧ (n' 2 0 = n 2 0 → n' 1 0 = 1 → ¬ n 1 0 = 0 → n 1 0 = 1 ∧ n 5 0 ≤ n' 5 0 ∧ (n' 5 0 = n 5 0 → ¬ n' 16 0 = 0 → ¬ n 16 0 = 0 ∧ n' 15 0 = n 15 0 ∧ n' 17 0 = n 17 0))
/-- what a node asked itself it has answered -/
def AP (n : nv) (p : Nat) : Prop := n 1 0 = 1 → ¬ n 15 0 = 3 → ¬ n 16 0 = 0 → (n 20 0 >>> (nI p &&& 31)) &&& 1 = 0 → (n 19 0 >>> (nI p &&& 31)) &&& 1 = 0
def NQ (B p : Nat) (n n' : nv) : Prop := NI B n' ∧ QKq n n' ∧ (AP n p → AP n' p)
def KP (k : Nat) : Prop := k ≤ 5 ∨ k = 9 ∨ k = 11 ∨ k = 12 ∨ (14 ≤ k ∧ k ≤ 20) ∨ k = 23 ∨ k = 24
theorem NI_mono {B B' : Nat} {b : nv} (hb : B ≤ B') (h : NI B b) : NI B' b := by
  obtain ⟨h1, h2, h3, h4, h5, h6, h7, h8⟩ := h
  exact ⟨h1, h2, fun q => ⟨NB_mono (by omega) (h3 q).1, (h3 q).2⟩, NB_mono hb h4, NB_mono hb h5, NB_mono hb h6, NB_mono (by omega) h7, h8⟩
theorem NI_of {B : Nat} {b b' : nv} (h : NI B b) (e : ∀ k j, KP k → b' k j = b k j) : NI B b' := by
  have e1 : ∀ j, b' 1 j = b 1 j := fun j => e 1 j (by unfold KP; decide)
  have e2 : ∀ j, b' 2 j = b 2 j := fun j => e 2 j (by unfold KP; decide)
  have e3 : ∀ j, b' 3 j = b 3 j := fun j => e 3 j (by unfold KP; decide)
  have e4 : ∀ j, b' 4 j = b 4 j := fun j => e 4 j (by unfold KP; decide)
  have e5 : ∀ j, b' 5 j = b 5 j := fun j => e 5 j (by unfold KP; decide)
  have e9 : ∀ j, b' 9 j = b 9 j := fun j => e 9 j (by unfold KP; decide)
  have e11 : ∀ j, b' 11 j = b 11 j := fun j => e 11 j (by unfold KP; decide)
  have e12 : ∀ j, b' 12 j = b 12 j := fun j => e 12 j (by unfold KP; decide)
  have e14 : ∀ j, b' 14 j = b 14 j := fun j => e 14 j (by unfold KP; decide)
  have e15 : ∀ j, b' 15 j = b 15 j := fun j => e 15 j (by unfold KP; decide)
  have e16 : ∀ j, b' 16 j = b 16 j := fun j => e 16 j (by unfold KP; decide)
  have e17 : ∀ j, b' 17 j = b 17 j := fun j => e 17 j (by unfold KP; decide)
  have e18 : ∀ j, b' 18 j = b 18 j := fun j => e 18 j (by unfold KP; decide)
  have e19 : ∀ j, b' 19 j = b 19 j := fun j => e 19 j (by unfold KP; decide)
  have e23 : ∀ j, b' 23 j = b 23 j := fun j => e 23 j (by unfold KP; decide)
  have e24 : ∀ j, b' 24 j = b 24 j := fun j => e 24 j (by unfold KP; decide)
  unfold NI Wn Ar ab bs F_isData at *
  simp only [e1, e2, e3, e4, e5, e9, e11, e12, e14, e15, e16, e17, e18, e19, e23, e24]
  exact h
theorem QK_of {n n' : nv} (e1 : n' 1 0 = n 1 0) (e2 : n' 2 0 = n 2 0) (e5 : n' 5 0 = n 5 0) (e15 : n' 15 0 = n 15 0) (e16 : n' 16 0 = n 16 0) (e17 : n' 17 0 = n 17 0) : QKq n n' := by
  unfold QKq
  rw [e1, e2, e5, e15, e16, e17]
  exact ⟨fun h => h, Int32.le_refl _, fun _ h _ => ⟨h, Int32.le_refl _, fun _ h6 => ⟨h6, rfl, rfl⟩⟩⟩
theorem QK_refl {n : nv} : QKq n n := QK_of rfl rfl rfl rfl rfl rfl
theorem QK_trans {n n' n'' : nv} (h : QKq n n') (h' : QKq n' n'') : QKq n n'' := by
  obtain ⟨a1, a2, a3⟩ := h
  obtain ⟨b1, b2, b3⟩ := h'
  refine ⟨fun z => b1 (a1 z), Int32.le_trans a2 b2, fun e u z => ?_⟩
  have e2 : n' 2 0 = n 2 0 := by
    refine Int32.le_antisymm ?_ a2
    rw [← e]
    exact b2
  have e3 : n'' 2 0 = n' 2 0 := by rw [e, e2]
  obtain ⟨c1, c2, c3⟩ := b3 e3 u (a1 z)
  obtain ⟨d1, d2, d3⟩ := a3 e2 c1 z
  refine ⟨d1, Int32.le_trans d2 c2, fun f g => ?_⟩
  have f1 : n' 5 0 = n 5 0 := by
    refine Int32.le_antisymm ?_ d2
    rw [← f]
    exact c2
  obtain ⟨g1, g2, g3⟩ := c3 (by rw [f, f1]) g
  obtain ⟨h1, h2, h3⟩ := d3 f1 g1
  exact ⟨h1, g2.trans h2, g3.trans h3⟩
theorem AP_of {n n' : nv} {p : Nat} (e1 : n' 1 0 = n 1 0) (e15 : n' 15 0 = n 15 0) (e16 : n' 16 0 = n 16 0) (e19 : n' 19 0 = n 19 0) (e20 : n' 20 0 = n 20 0) (h : AP n p) : AP n' p := by
  unfold AP at *
  rw [e1, e15, e16, e19, e20]
  exact h
theorem AP_dn {n : nv} {p : Nat} (h : ¬ n 1 0 = 1) : AP n p := fun hu => absurd hu h
theorem AP_0 {n : nv} {p : Nat} (h : n 16 0 = 0) : AP n p := fun _ _ hn => absurd h hn
theorem NQ_refl {B p : Nat} {n : nv} (h : NI B n) : NQ B p n n := ⟨h, QK_refl, fun x => x⟩
theorem NQ_trans {B B' p : Nat} {n n' n'' : nv} (h : NQ B p n n') (h' : NI B n' → NQ B' p n' n'') : NQ B' p n n'' := by
  obtain ⟨a1, a2, a3⟩ := h
  obtain ⟨b1, b2, b3⟩ := h' a1
  exact ⟨b1, QK_trans a2 b2, fun x => b3 (a3 x)⟩
theorem NQ_of {B p : Nat} {b b' : nv} (h : NI B b) (e : ∀ k j, KP k → b' k j = b k j) : NQ B p b b' := by
  have e1 : b' 1 0 = b 1 0 := e 1 0 (by unfold KP; decide)
  have e2 : b' 2 0 = b 2 0 := e 2 0 (by unfold KP; decide)
  have e5 : b' 5 0 = b 5 0 := e 5 0 (by unfold KP; decide)
  have e15 : b' 15 0 = b 15 0 := e 15 0 (by unfold KP; decide)
  have e16 : b' 16 0 = b 16 0 := e 16 0 (by unfold KP; decide)
  have e17 : b' 17 0 = b 17 0 := e 17 0 (by unfold KP; decide)
  have e19 : b' 19 0 = b 19 0 := e 19 0 (by unfold KP; decide)
  have e20 : b' 20 0 = b 20 0 := e 20 0 (by unfold KP; decide)
  exact ⟨NI_of h e, QK_of e1 e2 e5 e15 e16 e17, AP_of e1 e15 e16 e19 e20⟩
theorem NQ_un {B p : Nat} {b : nv} {k j : Nat} {v : Int32} (h : NI B b) (hk : ¬ KP k) : NQ B p b (un b k j v) := by
  refine NQ_of h (fun k' j' hk' => un_nk ?_)
  intro e
  rw [e] at hk'
  exact hk hk'
theorem NQ_un20 {B p : Nat} {b : nv} {x : Int32} (h : NI B b) (hx : (x >>> (nI p &&& 31)) &&& 1 = 0 → (b 20 0 >>> (nI p &&& 31)) &&& 1 = 0) : NQ B p b (un b 20 0 x) := by
  refine ⟨?_, ?_, ?_⟩
  · unfold NI Wn Ar ab bs F_isData at *
    simp (disch := decide) only [un_nk]
    exact h
  · exact QK_of (un_nk (by decide)) (un_nk (by decide)) (un_nk (by decide)) (un_nk (by decide)) (un_nk (by decide)) (un_nk (by decide))
  · unfold AP
    simp (disch := decide) only [un_nk, un_eq]
    exact fun ha u z y w => ha u z y (hx w)
theorem fd_f {b : nv} : F_down b 1 0 = 2 ∧ F_down b 4 0 = 0 ∧ F_down b 14 0 = 0 ∧ F_down b 15 0 = 0 ∧ F_down b 16 0 = 0 ∧ F_down b 5 0 = 0 := by
  unfold F_down
  refine ⟨?_, ?_, ?_, ?_, ?_, ?_⟩ <;> simp (disch := decide) only [un_nk, un_eq]
theorem fd_k {b : nv} {k j : Nat} (h : k ≠ 1 ∧ k ≠ 4 ∧ k ≠ 14 ∧ k ≠ 15 ∧ k ≠ 16 ∧ k ≠ 5) : F_down b k j = b k j := by
  unfold F_down
  rw [un_nk (by omega), un_nk (by omega), un_nk (by omega), un_nk (by omega), un_nk (by omega), un_nk (by omega)]
theorem NQ_down {B p : Nat} {b : nv} (h : NI B b) : NQ B p b (F_down b) := by
  obtain ⟨f1, f4, f14, f15, f16, f5⟩ := fd_f (b := b)
  obtain ⟨h1, h2, h3, h4, h5, h6, h7, h8, h9, h10, h11, h12, h13, h14, h15⟩ := h
  refine ⟨⟨Wn_KF h1 KF_down, ⟨0, by decide, f4⟩, fun q => ?_, ?_, ?_, ?_, ?_, Or.inl f16, fun _ => ⟨f16, Or.inr f1⟩, fun _ => f4, fun hh => absurd f16 hh, ?_, fun hh => absurd f14 hh, fun q hq => ?_, fun hh => absurd f16 hh⟩, ⟨fun _ => ?_, ?_, fun _ hu => ?_⟩, fun _ => AP_0 f16⟩
  · rw [fd_k (by decide), fd_k (by decide)]
    exact h3 q
  · rw [fd_k (by decide)]
    exact h4
  · rw [f5]
    exact NB_0
  · rw [fd_k (by decide)]
    exact h6
  · rw [fd_k (by decide)]
    exact h7
  · rw [fd_k (by decide)]
    exact h12
  · rw [fd_k (by decide)]
    exact h14 q hq
  · rw [f1]
    decide
  · rw [fd_k (by decide)]
    exact Int32.le_refl _
  · rw [f1] at hu
    exact absurd hu (by decide)
theorem NQ_ar {B p : Nat} {b b' : nv} (h : NI B b) (e : ∀ k j, k ≠ 4 ∧ k ≠ 32 → b' k j = b k j) (har : Ar b') (hu : b 1 0 = 1) : NQ B p b b' := by
  have hw : Wn b' := Wn_of h.1 (e 17 0 (by decide)) (e 24 0 (by decide)) (Or.inl (e 15 0 (by decide)))
  have e1 := e 1 0 (by decide)
  refine ⟨?_, QK_of e1 (e 2 0 (by decide)) (e 5 0 (by decide)) (e 15 0 (by decide)) (e 16 0 (by decide)) (e 17 0 (by decide)), AP_of e1 (e 15 0 (by decide)) (e 16 0 (by decide)) (e 19 0 (by decide)) (e 20 0 (by decide))⟩
  obtain ⟨h1, h2, h3, h4, h5, h6, h7, h8, h9, h10, h11, h12, h13, h14, h15⟩ := h
  have e9 : ∀ q, b' 9 q = b 9 q := fun q => e 9 q (by decide)
  have e11 : ∀ q, b' 11 q = b 11 q := fun q => e 11 q (by decide)
  have e12 : ∀ q, b' 12 q = b 12 q := fun q => e 12 q (by decide)
  unfold NI
  rw [e1, e 2 0 (by decide), e 3 0 (by decide), e 5 0 (by decide), e 14 0 (by decide), e 15 0 (by decide), e 16 0 (by decide), e 18 0 (by decide), e 19 0 (by decide), e 23 0 (by decide)]
  refine ⟨hw, har, fun q => ?_, h4, h5, h6, h7, h8, h9, fun hh => ?_, h11, h12, h13, fun q hq => ?_, h15⟩
  · rw [e11, e12]
    exact h3 q
  · rw [hu] at hh
    exact absurd hh (by decide)
  · rw [e9]
    exact h14 q hq
theorem NQ_may {B p : Nat} {b : nv} (h : NI B b) : NQ B p b (F_may b).2 := by
  by_cases h1 : b 1 0 = 1
  · by_cases h4 : b 4 0 = 1
    · have e : (F_may b).2 = F_down b := by
        unfold F_may
        rw [if_pos h1, if_pos h4]
      rw [e]
      exact NQ_down h
    · have hu : (F_may b).2 1 0 = 1 := by
        unfold F_may
        rw [if_pos h1, if_neg h4]
        dsimp only
        rw [un_nk (by decide), un_nk (by decide)]
        exact h1
      exact NQ_ar h (fun k j hk => may_up hu hk) (Ar_may h.2.1) h1
  · have e : (F_may b).2 = b := by
      unfold F_may
      rw [if_neg h1]
    rw [e]
    exact NQ_refl h
theorem KPn {k : Nat} (h : ¬ (k ≤ 5 ∨ k = 9 ∨ k = 11 ∨ k = 12 ∨ (14 ≤ k ∧ k ≤ 20) ∨ k = 23 ∨ k = 24)) : ¬ KP k := h
theorem NQ_un3 {B p : Nat} {b : nv} {k k' k'' j j' j'' : Nat} {x y z : Int32} (h : NI B b) (h1 : ¬ KP k) (h2 : ¬ KP k') (h3 : ¬ KP k'') : NQ B p b (un (un (un b k j x) k' j' y) k'' j'' z) := NQ_trans (NQ_trans (NQ_un h h1) (fun h => NQ_un h h2)) (fun h => NQ_un h h3)
theorem NQ_store {B p : Nat} {b : nv} {q : Nat} {x y z : Int32} (h : NI B b) : NQ B p b (F_store b q x y z) := by
  unfold F_store
  split
  · exact NQ_refl h
  · split
    · exact NQ_may h
    · exact NQ_trans (NQ_may h) (fun h => NQ_un3 h (KPn (by decide)) (KPn (by decide)) (KPn (by decide)))
theorem NQ_best {B p : Nat} {b : nv} {q : Nat} {x y z : Int32} (h : NI B b) : NQ B p b (F_best b q x y z) := by
  unfold F_best
  split
  · exact NQ_refl h
  · exact NQ_un3 h (KPn (by decide)) (KPn (by decide)) (KPn (by decide))
theorem NQ_top {B p : Nat} {b : nv} {x y : Int32} (h : NI B b) : NQ B p b (F_top b x y) := by
  unfold F_top
  split
  · exact NQ_refl h
  · exact NQ_trans (NQ_un h (KPn (by decide))) (fun h => NQ_un h (KPn (by decide)))
theorem NQ_ans {B p : Nat} {b : nv} (h : NI B b) : NQ B p b (F_ans b p) := by
  unfold F_ans
  split
  · refine NQ_un20 h (fun e => ?_)
    rw [or_bit] at e
    exact (or_eq0.mp e).1
  · exact NQ_refl h
theorem NQ_ans' {B p q : Nat} {b : nv} (h : NI B b) : NQ B p b (F_ans b q) := by
  unfold F_ans
  split
  · refine NQ_un20 h (fun e => ?_)
    rw [or_bit] at e
    exact (or_eq0.mp e).1
  · exact NQ_refl h
theorem NQ_3 {B p : Nat} {b : nv} {v : Int32} (h : NI B b) (hv : NB B v) : NQ B p b (un b 3 0 v) := by
  refine ⟨?_, QK_of (un_nk (by decide)) (un_nk (by decide)) (un_nk (by decide)) (un_nk (by decide)) (un_nk (by decide)) (un_nk (by decide)), AP_of (un_nk (by decide)) (un_nk (by decide)) (un_nk (by decide)) (un_nk (by decide)) (un_nk (by decide))⟩
  unfold NI Wn Ar ab bs F_isData at *
  simp (disch := decide) only [un_nk, un_eq]
  obtain ⟨h1, h2, h3, _, h5⟩ := h
  exact ⟨h1, h2, h3, hv, h5⟩
theorem NQ_round {B p : Nat} {b : nv} {v : Int32} (h : NI B b) (hv : NB B v) : NQ B p b (F_round b v) := by
  unfold F_round
  split
  · exact NQ_refl h
  · split
    · exact NQ_may h
    · exact NQ_trans (NQ_may h) (fun h => NQ_3 h hv)
theorem NQ_refused {B p : Nat} {b : nv} {v : Int32} (hB : B < 134217728) (h : NI B b) (hv : NB (8 * B + 7) v) : NQ B p b (F_refused b v) := by
  unfold F_refused
  split
  · exact NQ_round h (NB_shr hB hv)
  · exact NQ_refl h
theorem NQ_v {B p : Nat} {b : nv} {q : Nat} {x y z : Int32} (h : NI B b) (hx : NB (8 * B + 7) x) (hy : 0 ≤ y) : NQ B p b (un (un (un b 11 q x) 12 q y) 13 q z) := by
  refine NQ_trans (n' := un (un b 11 q x) 12 q y) ⟨?_, ?_, ?_⟩ (fun h => NQ_un h (KPn (by decide)))
  · obtain ⟨h1, h2, h3, h4⟩ := h
    unfold NI Wn Ar ab bs F_isData at *
    simp (disch := decide) only [un_nk]
    refine ⟨h1, h2, fun r => ?_, h4⟩
    by_cases e : r = q
    · rw [e, un_eq, un_eq]
      exact ⟨hx, hy⟩
    · rw [un_nj e, un_nj e]
      simp (disch := decide) only [un_nk]
      exact h3 r
  · refine QK_of ?_ ?_ ?_ ?_ ?_ ?_ <;> simp (disch := decide) only [un_nk]
  · refine AP_of ?_ ?_ ?_ ?_ ?_ <;> simp (disch := decide) only [un_nk]
theorem NQ_vote {B p : Nat} {b : nv} {q : Nat} {x y z : Int32} (h : NI B b) (hx : NB (8 * B + 7) x) (hy : 0 ≤ y) : NQ B p b (F_vote b q x y z) := by
  unfold F_vote
  split
  · exact NQ_refl h
  · split
    · exact NQ_may h
    · exact NQ_trans (NQ_may h) (fun h => NQ_v h hx hy)
theorem NQ_9 {B p : Nat} {b : nv} {q : Nat} {s : Int32} (h : NI B b) (hs : s = 0 ∨ s = 1 ∨ s = 2) : NQ B p b (un b 9 q s) := by
  refine ⟨?_, QK_of (un_nk (by decide)) (un_nk (by decide)) (un_nk (by decide)) (un_nk (by decide)) (un_nk (by decide)) (un_nk (by decide)), AP_of (un_nk (by decide)) (un_nk (by decide)) (un_nk (by decide)) (un_nk (by decide)) (un_nk (by decide))⟩
  obtain ⟨h1, h2, h3, h4, h5, h6, h7, h8, h9, h10, h11, h12, h13, h14, h15⟩ := h
  unfold NI Wn Ar ab bs F_isData at *
  simp (disch := decide) only [un_nk]
  refine ⟨h1, h2, h3, h4, h5, h6, h7, h8, h9, h10, h11, h12, h13, fun r hr => ?_, h15⟩
  by_cases e : r = q
  · rw [e, un_eq]
    exact hs
  · rw [un_nj e]
    exact h14 r hr
theorem NQ_map {B p : Nat} {b : nv} {q : Nat} {s c : Int32} (h : NI B b) (hs : s = 0 ∨ s = 1 ∨ s = 2) : NQ B p b (F_map b q s c) := by
  unfold F_map
  split
  · exact NQ_refl h
  · split
    · exact NQ_may h
    · exact NQ_trans (NQ_trans (NQ_may h) (fun h => NQ_9 h hs)) (fun h => NQ_un h (KPn (by decide)))
theorem NQ_all {B p : Nat} {b : nv} {k : Nat} (h : NI B b) : NQ B p b (F_all b k) := by
  induction k with
  | zero => exact NQ_refl h
  | succ k ih =>
    rw [F_all]
    split
    · exact NQ_trans ih (fun h => NQ_best h)
    · exact NQ_trans ih (fun h => NQ_store h)
theorem NQ_storeAll {B p : Nat} {b : nv} {w : Nat → Int32} {k : Nat} (h : NI B b) : NQ B p b (F_storeAll b w k) := by
  induction k with
  | zero => exact NQ_refl h
  | succ k ih =>
    rw [F_storeAll]
    exact NQ_trans ih (fun h => NQ_store h)
theorem NQ_bestAll {B p : Nat} {b : nv} {w : Nat → Int32} {k : Nat} (h : NI B b) : NQ B p b (F_bestAll b w k) := by
  induction k with
  | zero => exact NQ_refl h
  | succ k ih =>
    rw [F_bestAll]
    exact NQ_trans ih (fun h => NQ_best h)
theorem NQ_own {B p : Nat} {b : nv} {k : Nat} (h : NI B b) : NQ B p b (F_own b k) := by
  induction k with
  | zero => exact NQ_refl h
  | succ k ih =>
    rw [F_own]
    exact NQ_trans ih (fun h => NQ_un3 h (KPn (by decide)) (KPn (by decide)) (KPn (by decide)))
theorem NQ_mrg {B p : Nat} {b : nv} {w : Nat → Int32} {k : Nat} (h : NI B b) (hw : ∀ i, i < 16 → w (9 + 2 * i) = 0 ∨ w (9 + 2 * i) = 1 ∨ w (9 + 2 * i) = 2) (hk : k ≤ 16) : NQ B p b (F_mrg b w k) := by
  induction k with
  | zero => exact NQ_refl h
  | succ k ih =>
    rw [F_mrg]
    split
    · exact NQ_trans (NQ_trans (ih (by omega)) (fun h => NQ_9 h (hw k (by omega)))) (fun h => NQ_un h (KPn (by decide)))
    · exact ih (by omega)
theorem NQ_wr {B p : Nat} {b : nv} {q : Nat} (h : NI B b) : NQ B p b (F_wr b q) := by
  unfold F_wr
  split
  · exact NQ_un3 h (KPn (by decide)) (KPn (by decide)) (KPn (by decide))
  · exact NQ_refl h
theorem NQ_sec {B p : Nat} {b : nv} {q : Nat} (h : NI B b) : NQ B p b (F_sec b q) := by
  unfold F_sec
  split
  · exact NQ_refl h
  · exact NQ_trans (NQ_wr h) (fun h => NQ_store h)
theorem NQ_ret {B p : Nat} {b : nv} {k : Nat} (h : NI B b) : NQ B p b (F_ret b k) := by
  induction k with
  | zero => exact NQ_refl h
  | succ k ih =>
    rw [F_ret]
    split
    · split
      · split
        · exact NQ_trans ih (fun h => NQ_map h (Or.inr (Or.inr rfl)))
        · exact ih
      · exact ih
    · exact ih
