/-! what every node of the reference keeps -/
def NB (B : Nat) (x : Int32) : Prop := ∃ m, m ≤ B ∧ x = nI m
theorem NB_0 {B : Nat} : NB B 0 := ⟨0, Nat.zero_le _, rfl⟩
theorem NB_mono {B B' : Nat} {x : Int32} (hb : B ≤ B') (h : NB B x) : NB B' x := by
  obtain ⟨m, hm, e⟩ := h
  exact ⟨m, by omega, e⟩
theorem NB_inc {B : Nat} {x : Int32} (h : NB B x) : NB (B + 1) (x + 1) := by
  obtain ⟨m, hm, e⟩ := h
  refine ⟨m + 1, by omega, ?_⟩
  rw [e, nI_1]
theorem NB_nn {B : Nat} {x : Int32} (hB : B < 2147483648) (h : NB B x) : 0 ≤ x := by
  obtain ⟨m, hm, e⟩ := h
  rw [e]
  exact nI_nn (by omega)
theorem NB_shr {B : Nat} {x : Int32} (hB : B < 134217728) (h : NB (8 * B + 7) x) : NB B (x >>> ((3 : Int32) &&& 31)) := by
  obtain ⟨m, hm, e⟩ := h
  refine ⟨m / 8, by omega, ?_⟩
  rw [e, ← div8 (by omega), show (8 : Int32) = nI 8 from rfl, pk_div (by omega) (by decide) (by decide)]
def E8 (x : Int32) : Prop := x &&& 255 = x
theorem E8_0 : E8 0 := by
  unfold E8
  decide
theorem one_255 : ∀ k, k < 8 → ((1 : Int32) <<< (nI k &&& 31)) &&& 255 = (1 : Int32) <<< (nI k &&& 31) := by decide
theorem E8_or {x : Int32} {k : Nat} (hk : k < 8) (h : E8 x) : E8 (x ||| ((1 : Int32) <<< (nI k &&& 31))) := by
  unfold E8 at *
  rw [and_or_r, h, one_255 k hk]
def NI (B : Nat) (b : nv) : Prop :=
  Wn b ∧ Ar b ∧ (∀ q, NB (8 * B + 7) (b 11 q) ∧ 0 ≤ b 12 q) ∧ NB B (b 3 0) ∧ NB B (b 5 0) ∧ NB B (b 2 0) ∧ NB (8 * B + 7) (b 23 0) ∧ (b 16 0 = 0 ∨ b 16 0 = 1 ∨ b 16 0 = 2) ∧ (¬ b 1 0 = 1 → b 16 0 = 0 ∧ (b 1 0 = 0 ∨ b 1 0 = 2)) ∧ (b 1 0 = 2 → b 4 0 = 0) ∧ (¬ b 16 0 = 0 → b 18 0 = 0) ∧ E8 (b 19 0) ∧ (¬ b 14 0 = 0 → (b 15 0 = 1 ∨ b 15 0 = 2 ∨ b 15 0 = 3 ∨ b 15 0 = 4) ∧ (¬ b 15 0 = 3 → b 23 0 = 0)) ∧ (∀ q, q < 16 → b 9 q = 0 ∨ b 9 q = 1 ∨ b 9 q = 2) ∧ (¬ b 16 0 = 0 → ¬ b 14 0 = 0)
/-- what lines of a node's own stay true -/
def QK (n n' : nv) : Prop := (¬ n 1 0 = 0 → ¬ n' 1 0 = 0) ∧ n 2 0 ≤ n' 2 0 ∧ (n' 2 0 = n 2 0 → n' 1 0 = 1 → ¬ n 1 0 = 0 → n 1 0 = 1 ∧ n 5 0 ≤ n' 5 0 ∧ (n' 5 0 = n 5 0 → ¬ n' 16 0 = 0 → ¬ n 16 0 = 0 ∧ n' 15 0 = n 15 0 ∧ n' 17 0 = n 17 0))
/-- what a node asked itself it has answered -/
def AP (n : nv) (p : Nat) : Prop := n 1 0 = 1 → ¬ n 15 0 = 3 → ¬ n 16 0 = 0 → (n 20 0 >>> (nI p &&& 31)) &&& 1 = 0 → (n 19 0 >>> (nI p &&& 31)) &&& 1 = 0
def NQ (B p : Nat) (n n' : nv) : Prop := NI B n' ∧ QK n n' ∧ (AP n p → AP n' p)
def KP (k : Nat) : Prop := k ≤ 5 ∨ k = 9 ∨ k = 11 ∨ k = 12 ∨ (14 ≤ k ∧ k ≤ 20) ∨ k = 23 ∨ k = 24
theorem NI_mono {B B' : Nat} {b : nv} (hb : B ≤ B') (h : NI B b) : NI B' b := by
  obtain ⟨h1, h2, h3, h4, h5, h6, h7, h8⟩ := h
  exact ⟨h1, h2, fun q => ⟨NB_mono (by omega) (h3 q).1, (h3 q).2⟩, NB_mono hb h4, NB_mono hb h5, NB_mono hb h6, NB_mono (by omega) h7, h8⟩
theorem NI_of {B : Nat} {b b' : nv} (h : NI B b) (e : ∀ k j, KP k → b' k j = b k j) : NI B b' := by
  have e1 : ∀ j, b' 1 j = b 1 j := fun j => e 1 j (by unfold KP; decide)
  have e2 : ∀ j, b' 2 j = b 2 j := fun j => e 2 j (by unfold KP; decide)
  have e3 : ∀ j, b' 3 j = b 3 j := fun j => e 3 j (by unfold KP; decide)
  have e4 : ∀ j, b' 4 j = b 4 j := fun j => e 4 j (by unfold KP; decide)
  have e5 : ∀ j, b' 5 j = b 5 j := fun j => e 5 j (by unfold KP; decide)
  have e9 : ∀ j, b' 9 j = b 9 j := fun j => e 9 j (by unfold KP; decide)
  have e11 : ∀ j, b' 11 j = b 11 j := fun j => e 11 j (by unfold KP; decide)
  have e12 : ∀ j, b' 12 j = b 12 j := fun j => e 12 j (by unfold KP; decide)
  have e14 : ∀ j, b' 14 j = b 14 j := fun j => e 14 j (by unfold KP; decide)
  have e15 : ∀ j, b' 15 j = b 15 j := fun j => e 15 j (by unfold KP; decide)
  have e16 : ∀ j, b' 16 j = b 16 j := fun j => e 16 j (by unfold KP; decide)
  have e17 : ∀ j, b' 17 j = b 17 j := fun j => e 17 j (by unfold KP; decide)
  have e18 : ∀ j, b' 18 j = b 18 j := fun j => e 18 j (by unfold KP; decide)
  have e19 : ∀ j, b' 19 j = b 19 j := fun j => e 19 j (by unfold KP; decide)
  have e23 : ∀ j, b' 23 j = b 23 j := fun j => e 23 j (by unfold KP; decide)
  have e24 : ∀ j, b' 24 j = b 24 j := fun j => e 24 j (by unfold KP; decide)
  unfold NI Wn Ar ab bs F_isData at *
  simp only [e1, e2, e3, e4, e5, e9, e11, e12, e14, e15, e16, e17, e18, e19, e23, e24]
  exact h
theorem QK_of {n n' : nv} (e1 : n' 1 0 = n 1 0) (e2 : n' 2 0 = n 2 0) (e5 : n' 5 0 = n 5 0) (e15 : n' 15 0 = n 15 0) (e16 : n' 16 0 = n 16 0) (e17 : n' 17 0 = n 17 0) : QK n n' := by
  unfold QK
  rw [e1, e2, e5, e15, e16, e17]
  exact ⟨fun h => h, Int32.le_refl _, fun _ h _ => ⟨h, Int32.le_refl _, fun _ h6 => ⟨h6, rfl, rfl⟩⟩⟩
theorem QK_refl {n : nv} : QK n n := QK_of rfl rfl rfl rfl rfl rfl
theorem QK_trans {n n' n'' : nv} (h : QK n n') (h' : QK n' n'') : QK n n'' := by
  obtain ⟨a1, a2, a3⟩ := h
  obtain ⟨b1, b2, b3⟩ := h'
  refine ⟨fun z => b1 (a1 z), Int32.le_trans a2 b2, fun e u z => ?_⟩
  have e2 : n' 2 0 = n 2 0 := by
    refine Int32.le_antisymm ?_ a2
    rw [← e]
    exact b2
  have e3 : n'' 2 0 = n' 2 0 := by rw [e, e2]
  obtain ⟨c1, c2, c3⟩ := b3 e3 u (a1 z)
  obtain ⟨d1, d2, d3⟩ := a3 e2 c1 z
  refine ⟨d1, Int32.le_trans d2 c2, fun f g => ?_⟩
  have f1 : n' 5 0 = n 5 0 := by
    refine Int32.le_antisymm ?_ d2
    rw [← f]
    exact c2
  obtain ⟨g1, g2, g3⟩ := c3 (by rw [f, f1]) g
  obtain ⟨h1, h2, h3⟩ := d3 f1 g1
  exact ⟨h1, g2.trans h2, g3.trans h3⟩
theorem AP_of {n n' : nv} {p : Nat} (e1 : n' 1 0 = n 1 0) (e15 : n' 15 0 = n 15 0) (e16 : n' 16 0 = n 16 0) (e19 : n' 19 0 = n 19 0) (e20 : n' 20 0 = n 20 0) (h : AP n p) : AP n' p := by
  unfold AP at *
  rw [e1, e15, e16, e19, e20]
  exact h
theorem AP_dn {n : nv} {p : Nat} (h : ¬ n 1 0 = 1) : AP n p := fun hu => absurd hu h
theorem AP_0 {n : nv} {p : Nat} (h : n 16 0 = 0) : AP n p := fun _ _ hn => absurd h hn
theorem NQ_refl {B p : Nat} {n : nv} (h : NI B n) : NQ B p n n := ⟨h, QK_refl, fun x => x⟩
theorem NQ_trans {B B' p : Nat} {n n' n'' : nv} (h : NQ B p n n') (h' : NI B n' → NQ B' p n' n'') : NQ B' p n n'' := by
  obtain ⟨a1, a2, a3⟩ := h
  obtain ⟨b1, b2, b3⟩ := h' a1
  exact ⟨b1, QK_trans a2 b2, fun x => b3 (a3 x)⟩
theorem NQ_of {B p : Nat} {b b' : nv} (h : NI B b) (e : ∀ k j, KP k → b' k j = b k j) : NQ B p b b' := by
  have e1 : b' 1 0 = b 1 0 := e 1 0 (by unfold KP; decide)
  have e2 : b' 2 0 = b 2 0 := e 2 0 (by unfold KP; decide)
  have e5 : b' 5 0 = b 5 0 := e 5 0 (by unfold KP; decide)
  have e15 : b' 15 0 = b 15 0 := e 15 0 (by unfold KP; decide)
  have e16 : b' 16 0 = b 16 0 := e 16 0 (by unfold KP; decide)
  have e17 : b' 17 0 = b 17 0 := e 17 0 (by unfold KP; decide)
  have e19 : b' 19 0 = b 19 0 := e 19 0 (by unfold KP; decide)
  have e20 : b' 20 0 = b 20 0 := e 20 0 (by unfold KP; decide)
  exact ⟨NI_of h e, QK_of e1 e2 e5 e15 e16 e17, AP_of e1 e15 e16 e19 e20⟩
theorem NQ_un {B p : Nat} {b : nv} {k j : Nat} {v : Int32} (h : NI B b) (hk : ¬ KP k) : NQ B p b (un b k j v) := by
  refine NQ_of h (fun k' j' hk' => un_nk ?_)
  intro e
  rw [e] at hk'
  exact hk hk'
theorem NQ_un20 {B p : Nat} {b : nv} {x : Int32} (h : NI B b) (hx : (x >>> (nI p &&& 31)) &&& 1 = 0 → (b 20 0 >>> (nI p &&& 31)) &&& 1 = 0) : NQ B p b (un b 20 0 x) := by
  refine ⟨?_, ?_, ?_⟩
  · unfold NI Wn Ar ab bs F_isData at *
    simp (disch := decide) only [un_nk]
    exact h
  · exact QK_of (un_nk (by decide)) (un_nk (by decide)) (un_nk (by decide)) (un_nk (by decide)) (un_nk (by decide)) (un_nk (by decide))
  · unfold AP
    simp (disch := decide) only [un_nk, un_eq]
    exact fun ha u z y w => ha u z y (hx w)
theorem fd_f {b : nv} : F_down b 1 0 = 2 ∧ F_down b 4 0 = 0 ∧ F_down b 14 0 = 0 ∧ F_down b 15 0 = 0 ∧ F_down b 16 0 = 0 ∧ F_down b 5 0 = 0 := by
  unfold F_down
  refine ⟨?_, ?_, ?_, ?_, ?_, ?_⟩ <;> simp (disch := decide) only [un_nk, un_eq]
theorem fd_k {b : nv} {k j : Nat} (h : k ≠ 1 ∧ k ≠ 4 ∧ k ≠ 14 ∧ k ≠ 15 ∧ k ≠ 16 ∧ k ≠ 5) : F_down b k j = b k j := by
  unfold F_down
  rw [un_nk (by omega), un_nk (by omega), un_nk (by omega), un_nk (by omega), un_nk (by omega), un_nk (by omega)]
theorem NQ_down {B p : Nat} {b : nv} (h : NI B b) : NQ B p b (F_down b) := by
  obtain ⟨f1, f4, f14, f15, f16, f5⟩ := fd_f (b := b)
  obtain ⟨h1, h2, h3, h4, h5, h6, h7, h8, h9, h10, h11, h12, h13, h14, h15⟩ := h
  refine ⟨⟨Wn_KF h1 KF_down, ⟨0, by decide, f4⟩, fun q => ?_, ?_, ?_, ?_, ?_, Or.inl f16, fun _ => ⟨f16, Or.inr f1⟩, fun _ => f4, fun hh => absurd f16 hh, ?_, fun hh => absurd f14 hh, fun q hq => ?_, fun hh => absurd f16 hh⟩, ⟨fun _ => ?_, ?_, fun _ hu => ?_⟩, fun _ => AP_0 f16⟩
  · rw [fd_k (by decide), fd_k (by decide)]
    exact h3 q
  · rw [fd_k (by decide)]
    exact h4
  · rw [f5]
    exact NB_0
  · rw [fd_k (by decide)]
    exact h6
  · rw [fd_k (by decide)]
    exact h7
  · rw [fd_k (by decide)]
    exact h12
  · rw [fd_k (by decide)]
    exact h14 q hq
  · rw [f1]
    decide
  · rw [fd_k (by decide)]
    exact Int32.le_refl _
  · rw [f1] at hu
    exact absurd hu (by decide)
theorem NQ_ar {B p : Nat} {b b' : nv} (h : NI B b) (e : ∀ k j, k ≠ 4 ∧ k ≠ 32 → b' k j = b k j) (har : Ar b') (hu : b 1 0 = 1) : NQ B p b b' := by
  have hw : Wn b' := Wn_of h.1 (e 17 0 (by decide)) (e 24 0 (by decide)) (Or.inl (e 15 0 (by decide)))
  have e1 := e 1 0 (by decide)
  refine ⟨?_, QK_of e1 (e 2 0 (by decide)) (e 5 0 (by decide)) (e 15 0 (by decide)) (e 16 0 (by decide)) (e 17 0 (by decide)), AP_of e1 (e 15 0 (by decide)) (e 16 0 (by decide)) (e 19 0 (by decide)) (e 20 0 (by decide))⟩
  obtain ⟨h1, h2, h3, h4, h5, h6, h7, h8, h9, h10, h11, h12, h13, h14, h15⟩ := h
  have e9 : ∀ q, b' 9 q = b 9 q := fun q => e 9 q (by decide)
  have e11 : ∀ q, b' 11 q = b 11 q := fun q => e 11 q (by decide)
  have e12 : ∀ q, b' 12 q = b 12 q := fun q => e 12 q (by decide)
  unfold NI
  rw [e1, e 2 0 (by decide), e 3 0 (by decide), e 5 0 (by decide), e 14 0 (by decide), e 15 0 (by decide), e 16 0 (by decide), e 18 0 (by decide), e 19 0 (by decide), e 23 0 (by decide)]
  refine ⟨hw, har, fun q => ?_, h4, h5, h6, h7, h8, h9, fun hh => ?_, h11, h12, h13, fun q hq => ?_, h15⟩
  · rw [e11, e12]
    exact h3 q
  · rw [hu] at hh
    exact absurd hh (by decide)
  · rw [e9]
    exact h14 q hq
theorem NQ_may {B p : Nat} {b : nv} (h : NI B b) : NQ B p b (F_may b).2 := by
  by_cases h1 : b 1 0 = 1
  · by_cases h4 : b 4 0 = 1
    · have e : (F_may b).2 = F_down b := by
        unfold F_may
        rw [if_pos h1, if_pos h4]
      rw [e]
      exact NQ_down h
    · have hu : (F_may b).2 1 0 = 1 := by
        unfold F_may
        rw [if_pos h1, if_neg h4]
        show un (un b 4 0 _) 32 0 _ 1 0 = 1
        rw [un_nk (by decide), un_nk (by decide)]
        exact h1
      exact NQ_ar h (fun k j hk => may_up hu hk) (Ar_may h.2.1) h1
  · have e : (F_may b).2 = b := by
      unfold F_may
      rw [if_neg h1]
    rw [e]
    exact NQ_refl h
theorem KPn {k : Nat} (h : ¬ (k ≤ 5 ∨ k = 9 ∨ k = 11 ∨ k = 12 ∨ (14 ≤ k ∧ k ≤ 20) ∨ k = 23 ∨ k = 24)) : ¬ KP k := h
theorem NQ_un3 {B p : Nat} {b : nv} {k k' k'' j j' j'' : Nat} {x y z : Int32} (h : NI B b) (h1 : ¬ KP k) (h2 : ¬ KP k') (h3 : ¬ KP k'') : NQ B p b (un (un (un b k j x) k' j' y) k'' j'' z) := NQ_trans (NQ_trans (NQ_un h h1) (fun h => NQ_un h h2)) (fun h => NQ_un h h3)
theorem NQ_store {B p : Nat} {b : nv} {q : Nat} {x y z : Int32} (h : NI B b) : NQ B p b (F_store b q x y z) := by
  unfold F_store
  split
  · exact NQ_refl h
  · split
    · exact NQ_may h
    · exact NQ_trans (NQ_may h) (fun h => NQ_un3 h (KPn (by decide)) (KPn (by decide)) (KPn (by decide)))
theorem NQ_best {B p : Nat} {b : nv} {q : Nat} {x y z : Int32} (h : NI B b) : NQ B p b (F_best b q x y z) := by
  unfold F_best
  split
  · exact NQ_refl h
  · exact NQ_un3 h (KPn (by decide)) (KPn (by decide)) (KPn (by decide))
theorem NQ_top {B p : Nat} {b : nv} {x y : Int32} (h : NI B b) : NQ B p b (F_top b x y) := by
  unfold F_top
  split
  · exact NQ_refl h
  · exact NQ_trans (NQ_un h (KPn (by decide))) (fun h => NQ_un h (KPn (by decide)))
theorem NQ_ans {B p : Nat} {b : nv} (h : NI B b) : NQ B p b (F_ans b p) := by
  unfold F_ans
  split
  · refine NQ_un20 h (fun e => ?_)
    rw [or_bit] at e
    exact (or_eq0.mp e).1
  · exact NQ_refl h
theorem NQ_ans' {B p q : Nat} {b : nv} (h : NI B b) : NQ B p b (F_ans b q) := by
  unfold F_ans
  split
  · refine NQ_un20 h (fun e => ?_)
    rw [or_bit] at e
    exact (or_eq0.mp e).1
  · exact NQ_refl h
theorem NQ_3 {B p : Nat} {b : nv} {v : Int32} (h : NI B b) (hv : NB B v) : NQ B p b (un b 3 0 v) := by
  refine ⟨?_, QK_of (un_nk (by decide)) (un_nk (by decide)) (un_nk (by decide)) (un_nk (by decide)) (un_nk (by decide)) (un_nk (by decide)), AP_of (un_nk (by decide)) (un_nk (by decide)) (un_nk (by decide)) (un_nk (by decide)) (un_nk (by decide))⟩
  unfold NI Wn Ar ab bs F_isData at *
  simp (disch := decide) only [un_nk, un_eq]
  obtain ⟨h1, h2, h3, _, h5⟩ := h
  exact ⟨h1, h2, h3, hv, h5⟩
theorem NQ_round {B p : Nat} {b : nv} {v : Int32} (h : NI B b) (hv : NB B v) : NQ B p b (F_round b v) := by
  unfold F_round
  split
  · exact NQ_refl h
  · split
    · exact NQ_may h
    · exact NQ_trans (NQ_may h) (fun h => NQ_3 h hv)
theorem NQ_refused {B p : Nat} {b : nv} {v : Int32} (hB : B < 134217728) (h : NI B b) (hv : NB (8 * B + 7) v) : NQ B p b (F_refused b v) := by
  unfold F_refused
  split
  · exact NQ_round h (NB_shr hB hv)
  · exact NQ_refl h
theorem NQ_v {B p : Nat} {b : nv} {q : Nat} {x y z : Int32} (h : NI B b) (hx : NB (8 * B + 7) x) (hy : 0 ≤ y) : NQ B p b (un (un (un b 11 q x) 12 q y) 13 q z) := by
  refine NQ_trans (n' := un (un b 11 q x) 12 q y) ⟨?_, ?_, ?_⟩ (fun h => NQ_un h (KPn (by decide)))
  · obtain ⟨h1, h2, h3, h4⟩ := h
    unfold NI Wn Ar ab bs F_isData at *
    simp (disch := decide) only [un_nk]
    refine ⟨h1, h2, fun r => ?_, h4⟩
    by_cases e : r = q
    · rw [e, un_eq, un_eq]
      exact ⟨hx, hy⟩
    · rw [un_nj e, un_nj e]
      simp (disch := decide) only [un_nk]
      exact h3 r
  · refine QK_of ?_ ?_ ?_ ?_ ?_ ?_ <;> simp (disch := decide) only [un_nk]
  · refine AP_of ?_ ?_ ?_ ?_ ?_ <;> simp (disch := decide) only [un_nk]
theorem NQ_vote {B p : Nat} {b : nv} {q : Nat} {x y z : Int32} (h : NI B b) (hx : NB (8 * B + 7) x) (hy : 0 ≤ y) : NQ B p b (F_vote b q x y z) := by
  unfold F_vote
  split
  · exact NQ_refl h
  · split
    · exact NQ_may h
    · exact NQ_trans (NQ_may h) (fun h => NQ_v h hx hy)
theorem NQ_9 {B p : Nat} {b : nv} {q : Nat} {s : Int32} (h : NI B b) (hs : s = 0 ∨ s = 1 ∨ s = 2) : NQ B p b (un b 9 q s) := by
  refine ⟨?_, QK_of (un_nk (by decide)) (un_nk (by decide)) (un_nk (by decide)) (un_nk (by decide)) (un_nk (by decide)) (un_nk (by decide)), AP_of (un_nk (by decide)) (un_nk (by decide)) (un_nk (by decide)) (un_nk (by decide)) (un_nk (by decide))⟩
  obtain ⟨h1, h2, h3, h4, h5, h6, h7, h8, h9, h10, h11, h12, h13, h14, h15⟩ := h
  unfold NI Wn Ar ab bs F_isData at *
  simp (disch := decide) only [un_nk]
  refine ⟨h1, h2, h3, h4, h5, h6, h7, h8, h9, h10, h11, h12, h13, fun r hr => ?_, h15⟩
  by_cases e : r = q
  · rw [e, un_eq]
    exact hs
  · rw [un_nj e]
    exact h14 r hr
theorem NQ_map {B p : Nat} {b : nv} {q : Nat} {s c : Int32} (h : NI B b) (hs : s = 0 ∨ s = 1 ∨ s = 2) : NQ B p b (F_map b q s c) := by
  unfold F_map
  split
  · exact NQ_refl h
  · split
    · exact NQ_may h
    · exact NQ_trans (NQ_trans (NQ_may h) (fun h => NQ_9 h hs)) (fun h => NQ_un h (KPn (by decide)))
theorem NQ_all {B p : Nat} {b : nv} {k : Nat} (h : NI B b) : NQ B p b (F_all b k) := by
  induction k with
  | zero => exact NQ_refl h
  | succ k ih =>
    rw [F_all]
    split
    · exact NQ_trans ih (fun h => NQ_best h)
    · exact NQ_trans ih (fun h => NQ_store h)
theorem NQ_storeAll {B p : Nat} {b : nv} {w : Nat → Int32} {k : Nat} (h : NI B b) : NQ B p b (F_storeAll b w k) := by
  induction k with
  | zero => exact NQ_refl h
  | succ k ih =>
    rw [F_storeAll]
    exact NQ_trans ih (fun h => NQ_store h)
theorem NQ_bestAll {B p : Nat} {b : nv} {w : Nat → Int32} {k : Nat} (h : NI B b) : NQ B p b (F_bestAll b w k) := by
  induction k with
  | zero => exact NQ_refl h
  | succ k ih =>
    rw [F_bestAll]
    exact NQ_trans ih (fun h => NQ_best h)
theorem NQ_own {B p : Nat} {b : nv} {k : Nat} (h : NI B b) : NQ B p b (F_own b k) := by
  induction k with
  | zero => exact NQ_refl h
  | succ k ih =>
    rw [F_own]
    exact NQ_trans ih (fun h => NQ_un3 h (KPn (by decide)) (KPn (by decide)) (KPn (by decide)))
theorem NQ_mrg {B p : Nat} {b : nv} {w : Nat → Int32} {k : Nat} (h : NI B b) (hw : ∀ i, i < 16 → w (9 + 2 * i) = 0 ∨ w (9 + 2 * i) = 1 ∨ w (9 + 2 * i) = 2) (hk : k ≤ 16) : NQ B p b (F_mrg b w k) := by
  induction k with
  | zero => exact NQ_refl h
  | succ k ih =>
    rw [F_mrg]
    split
    · exact NQ_trans (NQ_trans (ih (by omega)) (fun h => NQ_9 h (hw k (by omega)))) (fun h => NQ_un h (KPn (by decide)))
    · exact ih (by omega)
theorem NQ_wr {B p : Nat} {b : nv} {q : Nat} (h : NI B b) : NQ B p b (F_wr b q) := by
  unfold F_wr
  split
  · exact NQ_un3 h (KPn (by decide)) (KPn (by decide)) (KPn (by decide))
  · exact NQ_refl h
theorem NQ_sec {B p : Nat} {b : nv} {q : Nat} (h : NI B b) : NQ B p b (F_sec b q) := by
  unfold F_sec
  split
  · exact NQ_refl h
  · exact NQ_trans (NQ_wr h) (fun h => NQ_store h)
theorem NQ_ret {B p : Nat} {b : nv} {k : Nat} (h : NI B b) : NQ B p b (F_ret b k) := by
  induction k with
  | zero => exact NQ_refl h
  | succ k ih =>
    rw [F_ret]
    split
    · split
      · split
        · exact NQ_trans ih (fun h => NQ_map h (Or.inr (Or.inr rfl)))
        · exact ih
      · exact ih
    · exact ih
/-! phases: what the node keeps -/
theorem zsh {p : Nat} (hp : p < 8) : ((0 : Int32) >>> (nI p &&& 31)) &&& 1 = 0 := (by decide : ∀ p, p < 8 → ((0 : Int32) >>> (nI p &&& 31)) &&& 1 = 0) p hp
theorem NQ_ph {B p : Nat} {b : nv} {w : Int32} (hB : B < 134217728) (hp : p < 8) (h : NI B b) (hu : b 1 0 = 1) (h14 : ¬ b 14 0 = 0) (h18 : b 18 0 = 0) (hw : w = 1 ∨ w = 2) : NQ (B + 1) p b (F_ph b w) := by
  have e16 := fp_16 (b := b) (w := w)
  have e5 := fp_5 (b := b) (w := w)
  obtain ⟨e19, e20⟩ := fp_19 (b := b) (w := w)
  have w0 : ¬ w = 0 := by
    rcases hw with z | z <;> rw [z] <;> decide
  refine ⟨?_, ⟨?_, ?_, ?_⟩, ?_⟩
  · obtain ⟨h1, h2, h3, h4, h5, h6, h7, h8, h9, h10, h11, h12, h13, h14', h15⟩ := h
    have ek : ∀ k j, k ≠ 16 ∧ k ≠ 5 ∧ k ≠ 19 ∧ k ≠ 20 → F_ph b w k j = b k j := fun k j hk => fp_k hk
    unfold NI
    rw [e16, e5, e19, ek 3 0 (by decide), ek 2 0 (by decide), ek 23 0 (by decide), ek 1 0 (by decide), ek 4 0 (by decide), ek 18 0 (by decide), ek 14 0 (by decide), ek 15 0 (by decide)]
    refine ⟨Wn_ph h1, ?_, fun q => ?_, NB_mono (by omega) h4, NB_inc h5, NB_mono (by omega) h6, NB_mono (by omega) h7, Or.inr hw, fun z => absurd hu z, h10, fun _ => h18, E8_0, h13, fun q hq => ?_, fun _ => h14⟩
    · obtain ⟨m, hm, e⟩ := h2
      exact ⟨m, hm, by rw [ek 4 0 (by decide)]; exact e⟩
    · rw [ek 11 q (by decide), ek 12 q (by decide)]
      exact ⟨NB_mono (by omega) (h3 q).1, (h3 q).2⟩
    · rw [ek 9 q (by decide)]
      exact h14' q hq
  · rw [fp_k (by decide)]
    exact fun z => z
  · rw [fp_k (by decide)]
    exact Int32.le_refl _
  · intro _ _ _
    obtain ⟨m, hm, e⟩ := h.2.2.2.2.1
    rw [e5, e]
    have hlt := inc_lt (m := m) (by omega)
    refine ⟨hu, Int32.le_of_lt hlt, fun he => ?_⟩
    rw [he] at hlt
    exact absurd hlt Int32.lt_irrefl
  · intro _ _ _ _ _
    rw [e19]
    exact zsh hp
theorem NQ_open1 {B p : Nat} {b : nv} (hB : B < 134217728) (hp : p < 8) (h : NI B b) (hu : b 1 0 = 1) (h14 : ¬ b 14 0 = 0) (h18 : b 18 0 = 0) : NQ (B + 1) p b (F_open1 b) := by
  unfold F_open1
  exact NQ_trans (NQ_trans (NQ_trans (NQ_ph hB hp h hu h14 h18 (Or.inl rfl)) (fun h => NQ_own h)) (fun h => NQ_un h (KPn (by decide)))) (fun h => NQ_un h (KPn (by decide)))
theorem NQ_23 {B p : Nat} {b : nv} {v : Int32} (h : NI B b) (hv : NB (8 * B + 7) v) (h3 : b 15 0 = 3) : NQ B p b (un b 23 0 v) := by
  refine ⟨?_, QK_of (un_nk (by decide)) (un_nk (by decide)) (un_nk (by decide)) (un_nk (by decide)) (un_nk (by decide)) (un_nk (by decide)), AP_of (un_nk (by decide)) (un_nk (by decide)) (un_nk (by decide)) (un_nk (by decide)) (un_nk (by decide))⟩
  obtain ⟨h1, h2, h3', h4, h5, h6, h7, h8, h9, h10, h11, h12, h13, h14, h15⟩ := h
  unfold NI Wn Ar ab bs F_isData at *
  simp (disch := decide) only [un_nk, un_eq]
  exact ⟨h1, h2, h3', h4, h5, h6, hv, h8, h9, h10, h11, h12, fun z => ⟨(h13 z).1, fun y => absurd h3 y⟩, h14, h15⟩
theorem NB_bal {B p : Nat} {x : Int32} (hp : p < 8) (h : NB B x) : NB (8 * B + 7) (8 * x + nI p) := by
  obtain ⟨m, hm, e⟩ := h
  refine ⟨8 * m + p, by omega, ?_⟩
  rw [e, show (8 : Int32) = nI 8 from rfl, pk_mul, nI_add]
theorem NQ_begin1 {B p : Nat} {b : nv} (hB : B < 134217728) (hp : p < 8) (h : NI B b) (hu : b 1 0 = 1) (h14 : ¬ b 14 0 = 0) (h18 : b 18 0 = 0) : NQ (B + 1) p b (F_begin1 b p) := by
  have ho := NQ_open1 hB hp h hu h14 h18
  have h3 : NB (B + 1) (F_open1 b 3 0 + 1) := by
    rw [fo_k (by decide)]
    exact NB_inc h.2.2.2.1
  have e15 : F_open1 b 15 0 = b 15 0 := fo_k (by decide)
  unfold F_begin1
  split
  · rename_i c
    split
    · rename_i hr
      refine NQ_trans (NQ_trans ho (fun h => NQ_round h h3)) (fun h' => NQ_23 h' (NB_bal hp h'.2.2.2.1) ?_)
      have := (KF_round (n := F_open1 b) (v := F_open1 b 3 0 + 1)).2.2.2.2.2 hr
      rw [this.2.1, e15]
      exact c
    · exact NQ_trans ho (fun h => NQ_round h h3)
  · exact ho
/-- a node's own part, with its own bit -/
theorem NQ_doesA {B p : Nat} {b : nv} (hB : B < 134217728) (hp : p < 8) (h : NI B b) (hu : b 1 0 = 1) (h16 : ¬ b 16 0 = 0) : NQ B p b (F_does (un b 19 0 (b 19 0 ||| ((1 : Int32) <<< (nI p &&& 31)))) p) := by
  have hn : NI B (un b 19 0 (b 19 0 ||| ((1 : Int32) <<< (nI p &&& 31)))) := by
    obtain ⟨h1, h2, h3, h4, h5, h6, h7, h8, h9, h10, h11, h12, h13, h14, h15⟩ := h
    unfold NI Wn Ar ab bs F_isData at *
    simp (disch := decide) only [un_nk, un_eq]
    exact ⟨h1, h2, h3, h4, h5, h6, h7, h8, h9, h10, h11, E8_or hp h12, h13, h14, h15⟩
  have hq : QK b (un b 19 0 (b 19 0 ||| ((1 : Int32) <<< (nI p &&& 31)))) := QK_of (un_nk (by decide)) (un_nk (by decide)) (un_nk (by decide)) (un_nk (by decide)) (un_nk (by decide)) (un_nk (by decide))
  have u1 : un b 19 0 (b 19 0 ||| ((1 : Int32) <<< (nI p &&& 31))) 16 0 = b 16 0 := un_nk (by decide)
  generalize un b 19 0 (b 19 0 ||| ((1 : Int32) <<< (nI p &&& 31))) = c at hn hq u1
  have c16 : ¬ c 16 0 = 0 := by
    rw [u1]
    exact h16
  have c15 := (hn.2.2.2.2.2.2.2.2.2.2.2.2.1 (hn.2.2.2.2.2.2.2.2.2.2.2.2.2.2 c16)).1
  have h23 := hn.2.2.2.2.2.2.1
  have h0 : 0 ≤ c 23 0 := NB_nn (by omega) h23
  have key : NQ B p c (F_does c p) ∧ AP (F_does c p) p := by
    have kf := KF_does (n := c) (p := p)
    refine ⟨?_, ?_⟩
    · unfold F_does
      split
      · split
        · exact NQ_trans (NQ_all hn) (fun h => NQ_ans h)
        · split
          · exact NQ_trans (NQ_trans (NQ_vote hn h23 (hn.2.2.1 (ab c)).2) (fun h => NQ_top h)) (fun h => NQ_ans h)
          · split
            · exact NQ_trans (NQ_vote hn h23 h0) (fun h => NQ_ans h)
            · exact NQ_refused hB hn (hn.2.2.1 (ab c)).1
      · split
        · exact NQ_trans (NQ_best hn) (fun h => NQ_ans h)
        · exact NQ_trans (NQ_store hn) (fun h => NQ_ans h)
    · intro v1 v15 v16 v20
      have w15 : ¬ c 15 0 = 3 := by
        rw [← (kf.2.2.2.2.2 v1).2.1]
        exact v15
      have fin : ∀ X : nv, F_does c p = F_ans X p → False := by
        intro X e
        rw [e] at v1 v20
        have x1 : X 1 0 = 1 := by
          rw [ans_k (by decide)] at v1
          exact v1
        rw [ans_up x1, un_eq, or_bit_eq hp] at v20
        exact absurd v20 (by decide)
      exfalso
      by_cases hd : F_isData c = 0
      · have w4 : c 15 0 = 4 := by
          rcases c15 with z | z | z | z
          · unfold F_isData at hd
            rw [if_pos (Or.inl z)] at hd
            exact absurd hd (by decide)
          · unfold F_isData at hd
            rw [if_pos (Or.inr z)] at hd
            exact absurd hd (by decide)
          · exact absurd z w15
          · exact z
        exact fin _ (by unfold F_does; rw [if_pos hd, if_pos w4])
      · exact fin _ (by unfold F_does; rw [if_neg hd])
  exact ⟨key.1.1, QK_trans hq key.1.2.1, fun _ => key.2⟩
theorem NQ_19 {B p k : Nat} {b : nv} (hp : p < 8) (hk : k < 8) (hne : k ≠ p) (h : NI B b) : NQ B p b (un b 19 0 (b 19 0 ||| ((1 : Int32) <<< (nI k &&& 31)))) := by
  refine ⟨?_, QK_of (un_nk (by decide)) (un_nk (by decide)) (un_nk (by decide)) (un_nk (by decide)) (un_nk (by decide)) (un_nk (by decide)), ?_⟩
  · obtain ⟨h1, h2, h3, h4, h5, h6, h7, h8, h9, h10, h11, h12, h13, h14, h15⟩ := h
    unfold NI Wn Ar ab bs F_isData at *
    simp (disch := decide) only [un_nk, un_eq]
    exact ⟨h1, h2, h3, h4, h5, h6, h7, h8, h9, h10, h11, E8_or hk h12, h13, h14, h15⟩
  · unfold AP
    simp (disch := decide) only [un_nk, un_eq]
    rw [or_bit_ne hp hk (Ne.symm hne)]
    exact fun z => z
/-- a task ends -/
theorem NQ_end {B p : Nat} {b : nv} {v : Int32} (h : NI B b) : NQ B p b (un (un b 18 0 v) 16 0 0) := by
  have e16 : un (un b 18 0 v) 16 0 0 16 0 = 0 := un_eq
  refine ⟨?_, ⟨?_, ?_, ?_⟩, fun _ => AP_0 e16⟩
  · obtain ⟨h1, h2, h3, h4, h5, h6, h7, h8, h9, h10, h11, h12, h13, h14, h15⟩ := h
    unfold NI Wn Ar ab bs F_isData at *
    simp (disch := decide) only [un_nk, un_eq]
    exact ⟨h1, h2, h3, h4, h5, h6, h7, Or.inl rfl, fun z => ⟨rfl, (h9 z).2⟩, h10, fun z => absurd rfl z, h12, h13, h14, fun z => absurd rfl z⟩
  · simp (disch := decide) only [un_nk]
    exact fun z => z
  · simp (disch := decide) only [un_nk]
    exact Int32.le_refl _
  · rw [e16]
    simp (disch := decide) only [un_nk]
    exact fun _ z _ => ⟨z, Int32.le_refl _, fun _ y => absurd rfl y⟩
theorem NQ_proposed {B p q : Nat} {b : nv} (h : NI B b) : NQ B p b (F_proposed b q) := by
  unfold F_proposed
  exact NQ_end h
theorem NQ_ends {B p : Nat} {b : nv} (h : NI B b) : NQ B p b (F_ends b) := by
  unfold F_ends
  split
  · split
    · exact NQ_trans (NQ_map h (Or.inr (Or.inl rfl))) (fun h => NQ_proposed h)
    · exact NQ_map h (Or.inr (Or.inl rfl))
  · split
    · split
      · exact NQ_trans (NQ_ret h) (fun h => NQ_end h)
      · exact NQ_ret h
    · exact NQ_end h
/-- a task starts -/
theorem fst_f {b : nv} {tk wh v : Int32} {q : Nat} : F_st b tk wh q v 14 0 = tk ∧ F_st b tk wh q v 15 0 = wh ∧ F_st b tk wh q v 17 0 = nI q ∧ F_st b tk wh q v 21 0 = v ∧ F_st b tk wh q v 18 0 = 0 ∧ F_st b tk wh q v 23 0 = 0 := by
  unfold F_st
  refine ⟨?_, ?_, ?_, ?_, ?_, ?_⟩ <;> simp (disch := decide) only [un_nk, un_eq]
theorem fst_k {b : nv} {tk wh v : Int32} {q k j : Nat} (h : k ≠ 14 ∧ k ≠ 15 ∧ k ≠ 17 ∧ k ≠ 21 ∧ k ≠ 18 ∧ k ≠ 23) : F_st b tk wh q v k j = b k j := by
  unfold F_st
  rw [un_nk (by omega), un_nk (by omega), un_nk (by omega), un_nk (by omega), un_nk (by omega), un_nk (by omega)]
theorem NQ_st {B p : Nat} {b : nv} {tk wh v : Int32} {q : Nat} (h : NI B b) (h16 : b 16 0 = 0) (hq : q < 16) (hd : wh = 1 ∨ wh = 2 → q < 4) (hw : wh = 1 ∨ wh = 2 ∨ wh = 3 ∨ wh = 4) : NQ B p b (F_st b tk wh q v) := by
  obtain ⟨f14, f15, f17, f21, f18, f23⟩ := fst_f (b := b) (tk := tk) (wh := wh) (v := v) (q := q)
  have ek : ∀ k j, k ≠ 14 ∧ k ≠ 15 ∧ k ≠ 17 ∧ k ≠ 21 ∧ k ≠ 18 ∧ k ≠ 23 → F_st b tk wh q v k j = b k j := fun k j hk => fst_k hk
  have e16 : F_st b tk wh q v 16 0 = 0 := by rw [ek 16 0 (by decide), h16]
  refine ⟨?_, ⟨?_, ?_, ?_⟩, fun _ => AP_0 e16⟩
  · obtain ⟨h1, h2, h3, h4, h5, h6, h7, h8, h9, h10, h11, h12, h13, h14, h15⟩ := h
    have hwn : Wn (F_st b tk wh q v) := Wn_st h1 hq hd
    unfold NI
    rw [e16, f14, f15, f18, f23, ek 3 0 (by decide), ek 5 0 (by decide), ek 2 0 (by decide), ek 1 0 (by decide), ek 4 0 (by decide), ek 19 0 (by decide)]
    refine ⟨hwn, ?_, fun r => ?_, h4, h5, h6, NB_0, Or.inl rfl, fun z => ⟨rfl, (h9 z).2⟩, h10, fun _ => rfl, h12, fun _ => ⟨hw, fun _ => rfl⟩, fun r hr => ?_, fun z => absurd rfl z⟩
    · obtain ⟨m, hm, e⟩ := h2
      exact ⟨m, hm, by rw [ek 4 0 (by decide)]; exact e⟩
    · rw [ek 11 r (by decide), ek 12 r (by decide)]
      exact h3 r
    · rw [ek 9 r (by decide)]
      exact h14 r hr
  · rw [ek 1 0 (by decide)]
    exact fun z => z
  · rw [ek 2 0 (by decide)]
    exact Int32.le_refl _
  · rw [ek 2 0 (by decide), ek 1 0 (by decide), ek 5 0 (by decide)]
    exact fun _ z _ => ⟨z, Int32.le_refl _, fun _ y => absurd e16 y⟩
theorem NQ_bs {B p c : Nat} {b : nv} (h : NI B b) (hc : c < 16) : NQ B p b (un b 24 0 (nI c)) := by
  refine ⟨?_, QK_of (un_nk (by decide)) (un_nk (by decide)) (un_nk (by decide)) (un_nk (by decide)) (un_nk (by decide)) (un_nk (by decide)), AP_of (un_nk (by decide)) (un_nk (by decide)) (un_nk (by decide)) (un_nk (by decide)) (un_nk (by decide))⟩
  obtain ⟨h1, h⟩ := h
  refine ⟨Wn_bs h1 hc, ?_⟩
  unfold Ar at *
  simp (disch := decide) only [un_nk]
  exact h
/-! lines, and what the whole reference keeps -/
def KD (x : Int32) : Prop := x = 1 ∨ x = 2 ∨ x = 3 ∨ x = 4 ∨ x = 5 ∨ x = 6 ∨ x = 7 ∨ x = 8 ∨ x = 9 ∨ x = 10 ∨ x = 11 ∨ x = 12 ∨ x = 13 ∨ x = 14 ∨ x = 15
def S3 (x : Int32) : Prop := x = 0 ∨ x = 1 ∨ x = 2
def LN (B : Nat) (M : Nat → Int32) : Prop := KD (M 0) ∧ (∃ f t, f < 8 ∧ t < 8 ∧ f ≠ t ∧ M 1 = nI f ∧ M 2 = nI t) ∧ Wm M ∧ (∀ k, k < 16 → S3 (M (9 + 2 * k))) ∧ (M 0 = 5 ∨ M 0 = 7 ∨ M 0 = 9 → NB (8 * B + 7) (M 6)) ∧ (M 0 = 6 → 0 ≤ M 6)
def QJ (n : nv) (x y z : Int32) : Prop := ¬ n 1 0 = 0 ∧ x ≤ n 2 0 ∧ (x = n 2 0 → n 1 0 = 1 → y ≤ n 5 0 ∧ (y = n 5 0 → ¬ n 16 0 = 0 → ¬ F_isData n = 0 ∧ z = n 17 0))
def QL (N : Nat → nv) (M : Nat → Int32) : Prop := (∀ f, f < 8 → M 0 = 1 → M 1 = nI f → QJ (N f) (M 3) (M 4) (M 5)) ∧ (∀ t, t < 8 → M 0 = 2 → M 2 = nI t → QJ (N t) (M 3) (M 4) (M 5))
def LQ (B : Nat) (N : Nat → nv) (M : Nat → Int32) : Prop := LN B M ∧ QL N M
theorem LN_mono {B B' : Nat} {M : Nat → Int32} (hb : B ≤ B') (h : LN B M) : LN B' M := by
  obtain ⟨h1, h2, h3, h4, h5, h6⟩ := h
  exact ⟨h1, h2, h3, h4, fun z => NB_mono (by omega) (h5 z), h6⟩
theorem LQ_congr {B : Nat} {N : Nat → nv} {M M' : Nat → Int32} (h : LQ B N M) (e : ∀ j, j < 53 → M' j = M j) : LQ B N M' := by
  have e0 := e 0 (by decide)
  have e1 := e 1 (by decide)
  have e2 := e 2 (by decide)
  have e3 := e 3 (by decide)
  have e4 := e 4 (by decide)
  have e5 := e 5 (by decide)
  have e6 := e 6 (by decide)
  have e9 : ∀ k, k < 16 → M' (9 + 2 * k) = M (9 + 2 * k) := fun k hk => e _ (by omega)
  obtain ⟨⟨h1, h2, h3, h4, h5, h6⟩, h7⟩ := h
  unfold LQ LN QL Wm th at *
  rw [e0, e1, e2, e3, e4, e5, e6]
  refine ⟨⟨h1, h2, h3, fun k hk => ?_, h5, h6⟩, h7⟩
  rw [e9 k hk]
  exact h4 k hk
theorem QJ_QK {n n' : nv} {x y z : Int32} (h : QJ n x y z) (hk : QK n n') : QJ n' x y z := by
  obtain ⟨a1, a2, a3⟩ := h
  obtain ⟨b1, b2, b3⟩ := hk
  refine ⟨b1 a1, Int32.le_trans a2 b2, fun e u => ?_⟩
  have e2 : n' 2 0 = n 2 0 := by
    refine Int32.le_antisymm ?_ b2
    rw [← e]
    exact a2
  obtain ⟨c1, c2, c3⟩ := b3 e2 u a1
  obtain ⟨d1, d2⟩ := a3 (by rw [e, e2]) c1
  refine ⟨Int32.le_trans d1 c2, fun f g => ?_⟩
  have f1 : n' 5 0 = n 5 0 := by
    refine Int32.le_antisymm ?_ c2
    rw [← f]
    exact d1
  obtain ⟨g1, g2, g3⟩ := c3 f1 g
  obtain ⟨h1, h2⟩ := d2 (by rw [f, f1]) g1
  refine ⟨?_, by rw [h2, g3]⟩
  unfold F_isData at *
  rw [g2]
  exact h1
theorem QL_pN {a : rA} {p : Nat} {n : nv} {M : Nat → Int32} (h : QL a.1 M) (hk : QK (a.1 p) n) : QL (pN a p n).1 M := by
  have key : ∀ f x y z, QJ (a.1 f) x y z → QJ ((pN a p n).1 f) x y z := by
    intro f x y z hh
    by_cases e : f = p
    · rw [e, pN_eq]
      rw [e] at hh
      exact QJ_QK hh hk
    · rw [pN_ne e]
      exact hh
  exact ⟨fun f hf h0 h1 => key f _ _ _ (h.1 f hf h0 h1), fun t ht h0 h1 => key t _ _ _ (h.2 t ht h0 h1)⟩
def IV (B : Nat) (X : Nat → Int32) (a : rA) : Prop := Wl a ∧ (∀ q, q < 8 → NI B (a.1 q) ∧ AP (a.1 q) q) ∧ (∀ x, x < ln a → LQ B a.1 (a.2.1 x)) ∧ (X 0 = 0 ∨ LQ B a.1 X)
theorem IV_mono {B B' : Nat} {X : Nat → Int32} {a : rA} (hb : B ≤ B') (h : IV B X a) : IV B' X a := by
  obtain ⟨h1, h2, h3, h4⟩ := h
  refine ⟨h1, fun q hq => ⟨NI_mono hb (h2 q hq).1, (h2 q hq).2⟩, fun x hx => ⟨LN_mono hb (h3 x hx).1, (h3 x hx).2⟩, ?_⟩
  rcases h4 with z | z
  · exact Or.inl z
  · exact Or.inr ⟨LN_mono hb z.1, z.2⟩
theorem IV_pN {B p : Nat} {X : Nat → Int32} {a : rA} {n : nv} (h : IV B X a) (hp : p < 8) (hq : NQ B p (a.1 p) n) : IV B X (pN a p n) := by
  obtain ⟨h1, h2, h3, h4⟩ := h
  obtain ⟨q1, q2, q3⟩ := hq
  refine ⟨h1, fun q hq => ?_, fun x hx => ⟨(h3 x hx).1, QL_pN (h3 x hx).2 q2⟩, ?_⟩
  · by_cases e : q = p
    · rw [e, pN_eq]
      exact ⟨q1, q3 (h2 p hp).2⟩
    · rw [pN_ne e]
      exact h2 q hq
  · rcases h4 with z | z
    · exact Or.inl z
    · exact Or.inr ⟨z.1, QL_pN z.2 q2⟩
/-- the same, where the bound grows -/
theorem IV_pN' {B B' p : Nat} {X : Nat → Int32} {a : rA} {n : nv} (hb : B ≤ B') (h : IV B X a) (hp : p < 8) (hq : NQ B' p (a.1 p) n) : IV B' X (pN a p n) := IV_pN (IV_mono hb h) hp hq
theorem IV_g {B i : Nat} {X : Nat → Int32} {a : rA} {v : Int32} (h : IV B X a) (hi : i ≠ 2) : IV B X (aG a i v) := by
  obtain ⟨h1, h2, h3, h4⟩ := h
  have e : (aG a i v).2.2.2 2 = a.2.2.2 2 := by
    rw [aG_4, up1_ne (Ne.symm hi)]
  have el : ln (aG a i v) = ln a := by
    unfold ln
    rw [e]
  refine ⟨?_, h2, fun x hx => ?_, h4⟩
  · unfold Wl at *
    rw [el, e]
    exact h1
  · rw [el] at hx
    exact h3 x hx
section LNS
variable {a : rA} {p : Nat} {c0 c2 c3 c4 c5 c6 c7 c8 ce be : Int32}
theorem send_lines {x : Nat} (hl : Wl a) (hx : x < ln (A_send a p c0 c2 c3 c4 c5 c6 c7 c8 ce be)) : (x < ln a ∧ (A_send a p c0 c2 c3 c4 c5 c6 c7 c8 ce be).2.1 x = a.2.1 x) ∨ (A_send a p c0 c2 c3 c4 c5 c6 c7 c8 ce be).2.1 x = sdm (a.2.1 (ln a)) (a.1 p) c0 (nI p) c2 c3 c4 c5 c6 c7 c8 ce be := by
  have hle := hl.2
  unfold A_send at *
  by_cases h : ln a = 120
  · rw [if_pos h] at hx ⊢
    exact Or.inl ⟨hx, rfl⟩
  · rw [if_neg h] at hx ⊢
    generalize sdm (a.2.1 (ln a)) (a.1 p) c0 (nI p) c2 c3 c4 c5 c6 c7 c8 ce be = m at hx ⊢
    have e2 : ln (aM (aG a 2 (nI (ln a + 1))) (ln a) m) = ln a + 1 := by
      show (nI (ln a + 1)).toNatClampNeg = _
      rw [nI_cl (by omega)]
    rw [e2] at hx
    by_cases hx2 : x = ln a
    · right
      rw [hx2, aM_2]
    · left
      refine ⟨by omega, ?_⟩
      rw [aM_n hx2]
      rfl
theorem IV_send {B : Nat} {X : Nat → Int32} (h : IV B X a) (hl : ∀ f, LQ B a.1 (sdm f (a.1 p) c0 (nI p) c2 c3 c4 c5 c6 c7 c8 ce be)) : IV B X (A_send a p c0 c2 c3 c4 c5 c6 c7 c8 ce be) := by
  obtain ⟨h1, h2, h3, h4⟩ := h
  refine ⟨Wl_send h1, ?_, fun x hx => ?_, ?_⟩
  · rw [send_1]
    exact h2
  · rw [send_1]
    rcases send_lines h1 hx with ⟨z, e⟩ | e
    · rw [e]
      exact h3 x z
    · rw [e]
      exact hl _
  · rw [send_1]
    exact h4
theorem LQ_sdm {B t : Nat} {f : Nat → Int32} {N : Nat → nv} (hp : p < 8) (ht : t < 8) (hne : t ≠ p) (hn : NI B (N p)) (hk : KD c0) (e2 : c2 = nI t) (h5 : ∃ q, q < 16 ∧ c5 = nI q ∧ (c0 = 1 ∨ c0 = 2 ∨ c0 = 3 → q < 4)) (hb : c0 = 5 ∨ c0 = 7 ∨ c0 = 9 → NB (8 * B + 7) c6) (h6 : c0 = 6 → 0 ≤ c6) (q1 : c0 = 1 → QJ (N p) c3 c4 c5) (q2 : c0 = 2 → QJ (N t) c3 c4 c5) : LQ B N (sdm f (N p) c0 (nI p) c2 c3 c4 c5 c6 c7 c8 ce be) := by
  obtain ⟨q, hq, e5, hq4⟩ := h5
  have ec : c5.toNatClampNeg = q := by
    rw [e5]
    exact nI_cl (by omega)
  unfold LQ LN QL Wm th
  simp only [sdm_0, sdm_1, sdm_2, sdm_3, sdm_4, sdm_5, sdm_6]
  rw [ec]
  refine ⟨⟨hk, ⟨p, t, hp, ht, Ne.symm hne, rfl, e2⟩, ⟨e5, hq, hq4⟩, fun k hk => ?_, hb, h6⟩, fun f' hf h0 h1 => ?_, fun t' ht' h0 h1 => ?_⟩
  · rw [(sdm_m hk).1]
    exact hn.2.2.2.2.2.2.2.2.2.2.2.2.2.1 k hk
  · have : p = f' := (nI_eq (by omega) (by omega)).mp h1
    rw [← this]
    exact q1 h0
  · rw [e2] at h1
    have : t = t' := (nI_eq (by omega) (by omega)).mp h1
    rw [← this]
    exact q2 h0
end LNS
theorem rqk1 {b : nv} (h : rqk b = 1) : ¬ F_isData b = 0 := by
  intro hd
  unfold rqk at h
  rw [if_pos hd] at h
  split at h
  · split at h <;> exact absurd h (by decide)
  · split at h <;> exact absurd h (by decide)
theorem rqk3 {b : nv} (h : rqk b = 1 ∨ rqk b = 2 ∨ rqk b = 3) : ¬ F_isData b = 0 := by
  intro hd
  unfold rqk at h
  rw [if_pos hd] at h
  split at h
  · split at h <;> exact absurd h (by decide)
  · split at h <;> exact absurd h (by decide)
theorem rqk5 {b : nv} (h : rqk b = 5 ∨ rqk b = 7 ∨ rqk b = 9) : F_isData b = 0 ∧ b 15 0 = 3 := by
  unfold rqk at h
  by_cases hd : F_isData b = 0
  · rw [if_pos hd] at h
    refine ⟨hd, ?_⟩
    by_cases h3 : b 15 0 = 3
    · exact h3
    · rw [if_neg h3] at h
      split at h <;> exact absurd h (by decide)
  · rw [if_neg hd] at h
    split at h <;> exact absurd h (by decide)
theorem IV_req {B p t : Nat} {X : Nat → Int32} {a : rA} (h : IV B X a) (hp : p < 8) (ht : t < 8) (hne : t ≠ p) (hu : a.1 p 1 0 = 1) : IV B X (A_request a p (nI t)) := by
  have hn := (h.2.1 p hp).1
  have hw := hn.1
  unfold A_request
  refine IV_send h (fun f => LQ_sdm (N := a.1) hp ht hne hn ?_ rfl ?_ ?_ ?_ ?_ ?_)
  · unfold KD
    rcases rqk_v (b := a.1 p) with z | z | z | z | z | z <;> rw [z] <;> decide
  · by_cases hd : F_isData (a.1 p) = 0
    · by_cases h3 : a.1 p 15 0 = 3
      · refine ⟨ab (a.1 p), hw.2.1, ?_, fun z => absurd hd (rqk3 z)⟩
        unfold rq5
        rw [if_pos hd, if_pos h3]
        exact hw.1
      · refine ⟨0, by decide, ?_, fun _ => by decide⟩
        unfold rq5
        rw [if_pos hd, if_neg h3]
        rfl
    · refine ⟨ab (a.1 p), hw.2.1, ?_, fun _ => hw.2.2.1 hd⟩
      unfold rq5
      rw [if_neg hd]
      exact hw.1
  · intro z
    obtain ⟨hd, h3⟩ := rqk5 z
    unfold rq6
    rw [if_pos hd, if_pos h3]
    exact hn.2.2.2.2.2.2.1
  · intro z
    rcases rqk_v (b := a.1 p) with y | y | y | y | y | y <;> rw [y] at z <;> exact absurd z (by decide)
  · intro z
    have hd := rqk1 z
    refine ⟨by rw [hu]; decide, Int32.le_refl _, fun _ _ => ⟨Int32.le_refl _, fun _ _ => ⟨hd, ?_⟩⟩⟩
    unfold rq5
    rw [if_neg hd]
  · intro z
    rcases rqk_v (b := a.1 p) with y | y | y | y | y | y <;> rw [y] at z <;> exact absurd z (by decide)
/-! the reference's steps keep it -/
theorem IV_ask {B p : Nat} {X : Nat → Int32} {a : rA} {s : Int32} (hB : B < 134217728) (hp : p < 8) (h : IV B X a) (hb : a.1 p 1 0 = 1 → ¬ a.1 p 16 0 = 0) : ∀ k, k ≤ 8 → IV B X (A_ask a p s k) := by
  intro k
  induction k with
  | zero => exact fun _ => h
  | succ k ih =>
    intro hk
    have i1 := ih (by omega)
    have kf := KF_ask (a := a) (p := p) (s := s) (k := k)
    rw [A_ask]
    generalize A_ask a p s k = c at i1 kf ⊢
    have hn := (i1.2.1 p hp).1
    split
    · rename_i hu
      have c16 : ¬ c.1 p 16 0 = 0 := by
        obtain ⟨z1, _, _, _, _, z6, _⟩ := kf.2.2.2.2.2 hu
        rw [z6]
        exact hb z1
      split
      · exact i1
      · split
        · exact i1
        · split
          · rename_i e
            rw [e]
            exact IV_pN i1 hp (NQ_doesA hB hp hn hu c16)
          · rename_i e
            refine IV_req (IV_pN i1 hp (NQ_19 hp (by omega) e hn)) hp (by omega) e ?_
            rw [pN_eq, un_nk (by decide)]
            exact hu
    · exact i1
theorem IV_beg1 {B p : Nat} {X : Nat → Int32} {a : rA} (hB : B < 134217720) (hp : p < 8) (h : IV B X a) (hu : a.1 p 1 0 = 1) (h14 : ¬ a.1 p 14 0 = 0) (h18 : a.1 p 18 0 = 0) : IV (B + 1) X (A_beg1 a p) := by
  have hn := (h.2.1 p hp).1
  unfold A_beg1
  refine IV_ask (by omega) hp (IV_pN' (by omega) h hp (NQ_begin1 (by omega) hp hn hu h14 h18)) ?_ 8 (Nat.le_refl _)
  rw [pN_eq]
  intro hv
  have e16 : F_begin1 (a.1 p) p 16 0 = 1 := by
    unfold F_begin1 at hv ⊢
    split at hv
    · rename_i c
      rw [if_pos c]
      split at hv
      · rename_i c2
        rw [if_pos c2]
        have z := (KF_round (n := F_open1 (a.1 p)) (v := F_open1 (a.1 p) 3 0 + 1)).2.2.2.2.2 c2
        rw [un_nk (by decide), z.2.2.2.2.2.1]
        exact fo_16
      · rename_i c2
        exact absurd hv c2
    · rename_i c
      rw [if_neg c]
      exact fo_16
  rw [e16]
  decide
theorem IV_beg2 {B p : Nat} {X : Nat → Int32} {a : rA} (hB : B < 134217720) (hp : p < 8) (h : IV B X a) (hu : a.1 p 1 0 = 1) (h14 : ¬ a.1 p 14 0 = 0) (h18 : a.1 p 18 0 = 0) : IV (B + 1) X (A_beg2 a p) := by
  have hn := (h.2.1 p hp).1
  unfold A_beg2
  refine IV_ask (by omega) hp (IV_pN' (by omega) h hp (NQ_ph (by omega) hp hn hu h14 h18 (Or.inr rfl))) ?_ 8 (Nat.le_refl _)
  rw [pN_eq, fp_16]
  intro _
  decide
theorem NI_busy {B : Nat} {b : nv} (h : NI B b) (h16 : ¬ b 16 0 = 0) : ¬ b 14 0 = 0 ∧ b 18 0 = 0 := ⟨h.2.2.2.2.2.2.2.2.2.2.2.2.2.2 h16, h.2.2.2.2.2.2.2.2.2.2.1 h16⟩
theorem IV_second {B p : Nat} {X : Nat → Int32} {a : rA} (hB : B < 134217720) (hp : p < 8) (h : IV B X a) (hu : a.1 p 1 0 = 1) (h16 : ¬ a.1 p 16 0 = 0) : IV (B + 1) X (A_second a p) := by
  have hn := (h.2.1 p hp).1
  obtain ⟨h14, h18⟩ := NI_busy hn h16
  unfold A_second
  split
  · exact IV_beg2 hB hp h hu h14 h18
  · split
    · rename_i hv
      have kf := (KF_sec (n := a.1 p) (p := p)).2.2.2.2.2 hv
      refine IV_beg2 hB hp (IV_pN h hp (NQ_sec hn)) ?_ ?_ ?_
      · rw [pN_eq]
        exact hv
      · rw [pN_eq, kf.2.2.2.2.1]
        exact h14
      · rw [pN_eq, kf.2.2.2.2.2.2.1]
        exact h18
    · exact IV_mono (by omega) (IV_pN h hp (NQ_sec hn))
theorem IV_stp {B p : Nat} {X : Nat → Int32} {a : rA} (hB : B < 134217720) (hp : p < 8) (h : IV B X a) (hu : a.1 p 1 0 = 1) : IV (B + 1) X (A_stp a p) := by
  unfold A_stp
  split
  · rename_i c
    exact IV_second hB hp h hu (by rw [c]; decide)
  · exact IV_mono (by omega) (IV_pN h hp (NQ_ends (h.2.1 p hp).1))
theorem IV_go {B p : Nat} {X : Nat → Int32} {a : rA} (hB : B < 134217700) (hp : p < 8) (h : IV B X a) : IV (B + 2) X (A_go a p) := by
  unfold A_go
  split
  · exact IV_mono (by omega) h
  · rename_i c
    have h1 := IV_stp (by omega) hp h (cd_ne c).1
    split
    · exact IV_mono (by omega) h1
    · rename_i c2
      exact IV_stp (by omega) hp h1 (cd_ne c2).1
theorem go_cd {a : rA} {p : Nat} : A_cd ((A_go a p).1 p) = 0 := by
  unfold A_go
  split
  · rename_i c
    exact c
  · split
    · rename_i c
      exact c
    · rename_i c
      exact cd_two c
theorem IV_look0 {B p : Nat} {X : Nat → Int32} {a : rA} {rt : Int32} (hB : B < 134217720) (hp : p < 8) (h : IV B X a) (hu : a.1 p 1 0 = 1) (h16 : ¬ a.1 p 16 0 = 0) : IV (B + 1) X (A_look0 a p rt) := by
  have hn := (h.2.1 p hp).1
  obtain ⟨h14, h18⟩ := NI_busy hn h16
  have hA : ∀ s, IV (B + 1) X (A_ask a p s 8) := fun s => IV_mono (by omega) (IV_ask (by omega) hp h (fun _ => h16) 8 (Nat.le_refl _))
  unfold A_look0
  split
  · split
    · split
      · exact IV_mono (by omega) h
      · exact IV_mono (by omega) (IV_pN h hp (NQ_proposed hn))
    · exact IV_mono (by omega) h
  · split
    · split
      · exact hA _
      · exact IV_beg1 hB hp h hu h14 h18
    · exact hA _
theorem IV_looks {B p : Nat} {X : Nat → Int32} {a : rA} {rt : Int32} (hB : B < 134217690) (hp : p < 8) (h : IV B X a) (hu : a.1 p 1 0 = 1) : IV (B + 3) X (A_looks a p rt) := by
  unfold A_looks
  split
  · exact IV_mono (by omega) h
  · rename_i c
    exact IV_go (by omega) hp (IV_look0 (by omega) hp h hu c)
theorem IV_merges {B p : Nat} {X : Nat → Int32} {a : rA} (hB : B < 134217690) (hp : p < 8) (h : IV B X a) (hw : ∀ i, i < 16 → S3 (a.2.2.1 (9 + 2 * i))) : IV (B + 3) X (A_merges a p) := by
  have hn := (h.2.1 p hp).1
  unfold A_merges
  split
  · exact IV_mono (by omega) h
  · split
    · exact IV_mono (by omega) (IV_pN h hp (NQ_may hn))
    · rename_i c
      refine IV_looks hB hp (IV_pN h hp (NQ_trans (NQ_may hn) (fun h => NQ_mrg h hw (Nat.le_refl _)))) ?_
      rw [pN_eq, mrg_k (by decide)]
      exact (may1_up c).1
theorem IV_has {B p q : Nat} {X : Nat → Int32} {a : rA} (hB : B < 134217690) (hp : p < 8) (h : IV B X a) (hf : a.2.2.1 1 = nI q) (hq : q < 8) : IV (B + 2) X (A_has a p) := by
  unfold A_has
  refine IV_go (by omega) hp (IV_pN h hp (NQ_un20 (h.2.1 p hp).1 (fun e => ?_)))
  rw [or_bit] at e
  exact (or_eq0.mp e).1
theorem IV_answers {B p q : Nat} {X : Nat → Int32} {a : rA} (hB : B < 134217690) (hp : p < 8) (h : IV B X a) (hf : a.2.2.1 1 = nI q) (hq : q < 8) (h9 : a.2.2.1 0 = 9 → NB (8 * B + 7) (a.2.2.1 6)) : IV (B + 2) X (A_answers a p) := by
  have hn := (h.2.1 p hp).1
  unfold A_answers
  split
  · rename_i c
    exact IV_mono (by omega) (IV_pN h hp (NQ_refused (by omega) hn (h9 c)))
  · split
    · exact IV_has hB hp (IV_pN h hp (NQ_best hn)) hf hq
    · split
      · exact IV_has hB hp (IV_pN h hp (NQ_top hn)) hf hq
      · split
        · exact IV_has hB hp (IV_pN h hp (NQ_bestAll hn)) hf hq
        · exact IV_has hB hp h hf hq
theorem IV_count {B p q : Nat} {X : Nat → Int32} {a : rA} (hB : B < 134217690) (hp : p < 8) (h : IV B X a) (hf : a.2.2.1 1 = nI q) (hq : q < 8) (h9 : a.2.2.1 0 = 9 → NB (8 * B + 7) (a.2.2.1 6)) : IV (B + 2) X (A_count a p) := by
  unfold A_count
  split
  · exact IV_mono (by omega) h
  · exact IV_answers hB hp h hf hq h9
/-! what a message asks: the reference keeps it -/
theorem IV_rep {B p q : Nat} {X : Nat → Int32} {a : rA} {c0 c2 c3 c4 c5 c6 c7 c8 ce be : Int32} (h : IV B X a) (hp : p < 8) (hq : q < 8) (hne : q ≠ p) (e2 : c2 = nI q) (hk : c0 = 4 ∨ c0 = 6 ∨ c0 = 8 ∨ c0 = 9 ∨ c0 = 11 ∨ c0 = 13 ∨ c0 = 14 ∨ c0 = 15) (h5 : ∃ r, r < 16 ∧ c5 = nI r) (hb : c0 = 9 → NB (8 * B + 7) c6) (h6 : c0 = 6 → 0 ≤ c6) : IV B X (A_send a p c0 c2 c3 c4 c5 c6 c7 c8 ce be) := by
  obtain ⟨r, hr, e5⟩ := h5
  have kd : KD c0 := by
    unfold KD
    rcases hk with z | z | z | z | z | z | z | z <;> rw [z] <;> decide
  have k1 : ¬ (c0 = 1 ∨ c0 = 2 ∨ c0 = 3) := by
    rcases hk with z | z | z | z | z | z | z | z <;> rw [z] <;> decide
  refine IV_send h (fun f => LQ_sdm (N := a.1) hp hq hne (h.2.1 p hp).1 kd e2 ⟨r, hr, e5, fun z => absurd z k1⟩ ?_ h6 (fun z => absurd (Or.inl z) k1) (fun z => absurd (Or.inr (Or.inl z)) k1))
  intro z
  rcases z with z | z | z
  · rcases hk with y | y | y | y | y | y | y | y <;> rw [y] at z <;> exact absurd z (by decide)
  · rcases hk with y | y | y | y | y | y | y | y <;> rw [y] at z <;> exact absurd z (by decide)
  · exact hb z
theorem IV_votes {B p q r : Nat} {X : Nat → Int32} {a : rA} (h : IV B X a) (hp : p < 8) (hq : q < 8) (hne : q ≠ p) (e1 : a.2.2.1 1 = nI q) (hr : r < 16) (e5 : a.2.2.1 5 = nI r) (hb : NB (8 * B + 7) (a.2.2.1 6)) (hB : B < 134217690) : IV B X (A_votes a p r) := by
  have hn := (h.2.1 p hp).1
  have h0 : 0 ≤ a.2.2.1 6 := NB_nn (by omega) hb
  have hv1 : ∀ z, IV B X (pN a p (F_vote (a.1 p) r (a.2.2.1 6) (a.1 p 12 r) z)) := fun z => IV_pN h hp (NQ_vote hn hb (hn.2.2.1 r).2)
  have hv2 : ∀ z, IV B X (pN a p (F_vote (a.1 p) r (a.2.2.1 6) (a.2.2.1 6) z)) := fun z => IV_pN h hp (NQ_vote hn hb h0)
  unfold A_votes
  split
  · split
    · split
      · refine IV_rep (hv1 _) hp hq hne e1 (by decide) ⟨r, hr, e5⟩ (fun z => absurd z (by decide)) (fun _ => ?_)
        rw [(prep_k (b := a.1 p)).1]
        exact (hn.2.2.1 r).2
      · exact hv1 _
    · exact IV_rep h hp hq hne e1 (by decide) ⟨r, hr, e5⟩ (fun _ => (hn.2.2.1 r).1) (fun z => absurd z (by decide))
  · split
    · split
      · exact IV_rep (hv2 _) hp hq hne e1 (by decide) ⟨r, hr, e5⟩ (fun z => absurd z (by decide)) (fun z => absurd z (by decide))
      · exact hv2 _
    · exact IV_rep h hp hq hne e1 (by decide) ⟨r, hr, e5⟩ (fun _ => (hn.2.2.1 r).1) (fun z => absurd z (by decide))
theorem IV_handles {B p : Nat} {X : Nat → Int32} {a : rA} (h : IV B X a) (hp : p < 8) (hX : LQ B a.1 a.2.2.1) (e2 : a.2.2.1 2 = nI p) (hB : B < 134217690) : IV (B + 2) X (A_handles a p) := by
  have hn := (h.2.1 p hp).1
  obtain ⟨⟨kd, ⟨q, t, hq, ht, hft, e1, et⟩, hm, hs, hb, h6⟩, ql⟩ := hX
  have etp : t = p := by
    rw [et] at e2
    exact (nI_eq (by omega) (by omega)).mp e2
  have hne : q ≠ p := by
    rw [← etp]
    exact hft
  have z5 : ∃ r, r < 16 ∧ (0 : Int32) = nI r := ⟨0, by decide, rfl⟩
  have mono : ∀ {c : rA}, IV B X c → IV (B + 2) X c := fun hc => IV_mono (by omega) hc
  unfold A_handles
  split
  · rename_i c
    refine mono (IV_send h (fun f => LQ_sdm (N := a.1) hp hq hne hn (by unfold KD; decide) e1 ⟨th a.2.2.1, hm.2.1, hm.1, fun _ => hm.2.2 (Or.inl c)⟩ (fun z => absurd z (by decide)) (fun z => absurd z (by decide)) (fun z => absurd z (by decide)) (fun _ => ql.1 q hq c e1)))
  · split
    · split
      · exact mono (IV_rep (IV_pN h hp (NQ_store hn)) hp hq hne e1 (by decide) z5 (fun z => absurd z (by decide)) (fun z => absurd z (by decide)))
      · exact mono (IV_pN h hp (NQ_store hn))
    · split
      · rename_i c
        refine mono (IV_votes h hp hq hne e1 hm.2.1 hm.1 (hb ?_) hB)
        rcases c with z | z
        · exact Or.inl z
        · exact Or.inr (Or.inl z)
      · split
        · exact mono (IV_rep h hp hq hne e1 (by decide) z5 (fun z => absurd z (by decide)) (fun z => absurd z (by decide)))
        · split
          · split
            · exact mono (IV_rep (IV_pN h hp (NQ_storeAll hn)) hp hq hne e1 (by decide) z5 (fun z => absurd z (by decide)) (fun z => absurd z (by decide)))
            · exact mono (IV_pN h hp (NQ_storeAll hn))
          · split
            · exact mono (IV_pN h hp (NQ_storeAll hn))
            · split
              · split
                · exact mono h
                · exact mono (IV_rep h hp hq hne e1 (by decide) z5 (fun z => absurd z (by decide)) (fun z => absurd z (by decide)))
              · exact IV_count hB hp h e1 hq (fun z => hb (Or.inr (Or.inr z)))
/-! what stays: now, and the other nodes -/
def AF (a a' : rA) (p : Nat) : Prop := a'.2.2.1 = a.2.2.1 ∧ a'.2.2.2 1 = a.2.2.2 1 ∧ ∀ q, q ≠ p → a'.1 q = a.1 q
theorem AF_refl {a : rA} {p : Nat} : AF a a p := ⟨rfl, rfl, fun _ _ => rfl⟩
theorem AF_trans {a a' a'' : rA} {p : Nat} (h : AF a a' p) (h' : AF a' a'' p) : AF a a'' p := ⟨h'.1.trans h.1, h'.2.1.trans h.2.1, fun q hq => (h'.2.2 q hq).trans (h.2.2 q hq)⟩
theorem AF_pN {a : rA} {p : Nat} {n : nv} : AF a (pN a p n) p := ⟨rfl, rfl, fun _ hq => pN_ne hq⟩
theorem send_tk {a : rA} {p : Nat} {c0 c2 c3 c4 c5 c6 c7 c8 ce be : Int32} : (A_send a p c0 c2 c3 c4 c5 c6 c7 c8 ce be).2.2.2 1 = a.2.2.2 1 := by
  unfold A_send
  split <;> rfl
theorem AF_send {a : rA} {p i : Nat} {c0 c2 c3 c4 c5 c6 c7 c8 ce be : Int32} : AF a (A_send a i c0 c2 c3 c4 c5 c6 c7 c8 ce be) p := ⟨send_now, send_tk, fun q _ => by rw [send_1]⟩
theorem AF_req {a : rA} {p i : Nat} {x : Int32} : AF a (A_request a i x) p := AF_send
theorem AF_ask {a : rA} {p : Nat} {s : Int32} {k : Nat} : AF a (A_ask a p s k) p := by
  induction k with
  | zero => exact AF_refl
  | succ k ih =>
    rw [A_ask]
    split
    · split
      · exact ih
      · split
        · exact ih
        · split
          · exact AF_trans ih AF_pN
          · exact AF_trans ih (AF_trans AF_pN AF_req)
    · exact ih
theorem AF_beg1 {a : rA} {p : Nat} : AF a (A_beg1 a p) p := by
  unfold A_beg1
  exact AF_trans AF_pN AF_ask
theorem AF_beg2 {a : rA} {p : Nat} : AF a (A_beg2 a p) p := by
  unfold A_beg2
  exact AF_trans AF_pN AF_ask
theorem AF_second {a : rA} {p : Nat} : AF a (A_second a p) p := by
  unfold A_second
  split
  · exact AF_beg2
  · split
    · exact AF_trans AF_pN AF_beg2
    · exact AF_pN
theorem AF_stp {a : rA} {p : Nat} : AF a (A_stp a p) p := by
  unfold A_stp
  split
  · exact AF_second
  · exact AF_pN
theorem AF_go {a : rA} {p : Nat} : AF a (A_go a p) p := by
  unfold A_go
  split
  · exact AF_refl
  · split
    · exact AF_stp
    · exact AF_trans AF_stp AF_stp
theorem AF_look0 {a : rA} {p : Nat} {rt : Int32} : AF a (A_look0 a p rt) p := by
  unfold A_look0
  split
  · split
    · split
      · exact AF_refl
      · exact AF_pN
    · exact AF_refl
  · split
    · split
      · exact AF_ask
      · exact AF_beg1
    · exact AF_ask
theorem AF_looks {a : rA} {p : Nat} {rt : Int32} : AF a (A_looks a p rt) p := by
  unfold A_looks
  split
  · exact AF_refl
  · exact AF_trans AF_look0 AF_go
theorem AF_merges {a : rA} {p : Nat} : AF a (A_merges a p) p := by
  unfold A_merges
  split
  · exact AF_refl
  · split
    · exact AF_pN
    · exact AF_trans AF_pN AF_looks
theorem AF_has {a : rA} {p : Nat} : AF a (A_has a p) p := by
  unfold A_has
  exact AF_trans AF_pN AF_go
theorem AF_answers {a : rA} {p : Nat} : AF a (A_answers a p) p := by
  unfold A_answers
  split
  · exact AF_pN
  · split
    · exact AF_trans AF_pN AF_has
    · split
      · exact AF_trans AF_pN AF_has
      · split
        · exact AF_trans AF_pN AF_has
        · exact AF_has
theorem AF_count {a : rA} {p : Nat} : AF a (A_count a p) p := by
  unfold A_count
  split
  · exact AF_refl
  · exact AF_answers
theorem AF_votes {a : rA} {p q : Nat} : AF a (A_votes a p q) p := by
  unfold A_votes
  split
  · split
    · split
      · exact AF_trans AF_pN AF_send
      · exact AF_pN
    · exact AF_send
  · split
    · split
      · exact AF_trans AF_pN AF_send
      · exact AF_pN
    · exact AF_send
theorem AF_handles {a : rA} {p : Nat} : AF a (A_handles a p) p := by
  unfold A_handles
  split
  · exact AF_send
  · split
    · split
      · exact AF_trans AF_pN AF_send
      · exact AF_pN
    · split
      · exact AF_votes
      · split
        · exact AF_send
        · split
          · split
            · exact AF_trans AF_pN AF_send
            · exact AF_pN
          · split
            · exact AF_pN
            · split
              · split
                · exact AF_refl
                · exact AF_send
              · exact AF_count
/-! what every call finds and leaves -/
def Z0 : Nat → Int32 := fun _ => 0
def NJ (b : nv) (p : Nat) : Prop := A_cd b = 0 ∧ (b 1 0 = 1 → ¬ b 16 0 = 0 → BI b p)
def JV (B : Nat) (a : rA) : Prop := IV B Z0 a ∧ NB B (a.2.2.2 1) ∧ ∀ p, p < 8 → NJ (a.1 p) p
theorem JV_mono {B B' : Nat} {a : rA} (hb : B ≤ B') (h : JV B a) : JV B' a := ⟨IV_mono hb h.1, NB_mono hb h.2.1, h.2.2⟩
theorem JV_of {B B' p : Nat} {a a' : rA} (h : JV B a) (hi : IV B' Z0 a') (hb : B ≤ B') (af : AF a a' p) (hj : NJ (a'.1 p) p) : JV B' a' := by
  refine ⟨hi, ?_, fun q hq => ?_⟩
  · rw [af.2.1]
    exact NB_mono hb h.2.1
  · by_cases e : q = p
    · rw [e]
      exact hj
    · rw [af.2.2 q e]
      exact h.2.2 q hq
theorem JV_g0 {B : Nat} {a : rA} {v : Int32} (h : JV B a) : JV B (aG a 0 v) := ⟨IV_g h.1 (by decide), h.2.1, h.2.2⟩
theorem NJ_dn {b : nv} {p : Nat} (h : ¬ b 1 0 = 1) : NJ b p := by
  refine ⟨?_, fun hu => absurd hu h⟩
  unfold A_cd
  rw [if_neg (fun hh => h hh.1)]
theorem NJ_0 {b : nv} {p : Nat} (h : b 16 0 = 0) : NJ b p := by
  refine ⟨?_, fun _ hn => absurd h hn⟩
  unfold A_cd
  rw [if_neg (fun hh => hh.2.1 (by rw [h]; exact Int32.le_refl _))]
/-- a node that stays up keeps its task's number -/
def UP (n n' : nv) : Prop := n' 1 0 = 1 → n 1 0 = 1 ∧ n' 14 0 = n 14 0
theorem UP_refl {n : nv} : UP n n := fun h => ⟨h, rfl⟩
theorem UP_trans {n n' n'' : nv} (h : UP n n') (h' : UP n' n'') : UP n n'' := by
  intro hu
  obtain ⟨a1, a2⟩ := h' hu
  obtain ⟨b1, b2⟩ := h a1
  exact ⟨b1, a2.trans b2⟩
theorem UP_KF {n n' : nv} (h : KF n n') : UP n n' := by
  intro hu
  obtain ⟨z1, _, _, _, z5, _⟩ := h.2.2.2.2.2 hu
  exact ⟨z1, z5⟩
theorem UP_un {n : nv} {k j : Nat} {v : Int32} (h : k ≠ 1 ∧ k ≠ 14) : UP n (un n k j v) := by
  intro hu
  rw [un_nk (Ne.symm h.1)] at hu
  exact ⟨hu, un_nk (Ne.symm h.2)⟩
theorem UP_ph {n : nv} {w : Int32} : UP n (F_ph n w) := by
  intro hu
  rw [fp_k (by decide)] at hu
  exact ⟨hu, fp_k (by decide)⟩
theorem UP_open1 {n : nv} : UP n (F_open1 n) := by
  intro hu
  rw [fo_k (by decide)] at hu
  exact ⟨hu, fo_k (by decide)⟩
theorem UP_begin1 {n : nv} {p : Nat} : UP n (F_begin1 n p) := by
  unfold F_begin1
  split
  · split
    · exact UP_trans UP_open1 (UP_trans (UP_KF KF_round) (UP_un (by decide)))
    · exact UP_trans UP_open1 (UP_KF KF_round)
  · exact UP_open1
theorem UP_beg1 {a : rA} {p : Nat} : UP (a.1 p) ((A_beg1 a p).1 p) := by
  unfold A_beg1
  have h := UP_KF (KF_ask (a := pN a p (F_begin1 (a.1 p) p)) (p := p) (s := F_want (F_begin1 (a.1 p) p)) (k := 8))
  rw [pN_eq] at h
  exact UP_trans UP_begin1 h
theorem UP_beg2 {a : rA} {p : Nat} : UP (a.1 p) ((A_beg2 a p).1 p) := by
  unfold A_beg2
  have h := UP_KF (KF_ask (a := pN a p (F_ph (a.1 p) 2)) (p := p) (s := F_want (F_ph (a.1 p) 2)) (k := 8))
  rw [pN_eq] at h
  exact UP_trans UP_ph h
theorem UP_second {a : rA} {p : Nat} : UP (a.1 p) ((A_second a p).1 p) := by
  unfold A_second
  split
  · exact UP_beg2
  · split
    · have h := UP_beg2 (a := pN a p (F_sec (a.1 p) p)) (p := p)
      rw [pN_eq] at h
      exact UP_trans (UP_KF KF_sec) h
    · rw [pN_eq]
      exact UP_KF KF_sec
theorem UP_map {n : nv} {q : Nat} {s c : Int32} : UP n (F_map n q s c) := by
  intro hu
  refine ⟨?_, map_up hu (by decide)⟩
  rw [← map_up (k := 1) (j := 0) hu (by decide)]
  exact hu
theorem UP_ret {n : nv} {k : Nat} : UP n (F_ret n k) := by
  induction k with
  | zero => exact UP_refl
  | succ k ih =>
    rw [F_ret]
    split
    · split
      · split
        · exact UP_trans ih UP_map
        · exact ih
      · exact ih
    · exact ih
theorem UP_end {n : nv} {v : Int32} : UP n (un (un n 18 0 v) 16 0 0) := UP_trans (UP_un (by decide)) (UP_un (by decide))
theorem UP_ends {n : nv} : UP n (F_ends n) := by
  unfold F_ends F_proposed
  split
  · split
    · exact UP_trans UP_map UP_end
    · exact UP_map
  · split
    · split
      · exact UP_trans UP_ret UP_end
      · exact UP_ret
    · exact UP_end
theorem UP_stp {a : rA} {p : Nat} : UP (a.1 p) ((A_stp a p).1 p) := by
  unfold A_stp
  split
  · exact UP_second
  · rw [pN_eq]
    exact UP_ends
theorem UP_go {a : rA} {p : Nat} : UP (a.1 p) ((A_go a p).1 p) := by
  unfold A_go
  split
  · exact UP_refl
  · split
    · exact UP_stp
    · exact UP_trans UP_stp UP_stp
/-! a task starts, or begins anew: class and reference -/
theorem NI_NV {B : Nat} {b : nv} (hB : B < 134217690) (h : NI B b) : NV b := by
  intro q
  obtain ⟨⟨m, hm, e⟩, h2⟩ := h.2.2.1 q
  exact ⟨⟨m, by omega, e⟩, h2⟩
theorem NI_rd {B : Nat} {b : nv} (hB : B < 134217690) (h : NI B b) : ∃ m, m < 134217728 ∧ b 3 0 = nI m := by
  obtain ⟨m, hm, e⟩ := h.2.2.2.1
  exact ⟨m, by omega, e⟩
theorem RR_st {B p : Nat} {s : cS} {a : rA} {x y : nv} (hB : B < 134217600) (hp : p < 8) (hr : RR s a) (hj : JV B a) (hb : RB x y) (ht : RT x y) (hid : x 0 0 = nI p) (hu : y 1 0 = 1) (hq : NQ B p (a.1 p) y) (h14 : ¬ y 14 0 = 0) (h18 : y 18 0 = 0) (hbs : y 15 0 = 3 → bs y + 1 = ab y) (h9 : y 15 0 = 3 → ¬ y 9 (ab y) = 1) (hbc : y 15 0 = 4 → bc (y 22 0) = mny (y 22 0) 16) : RR (K_set (K_beg1 (cN s p x) p) p) (A_go (A_beg1 (pN a p y) p) p) ∧ JV (B + 3) (A_go (A_beg1 (pN a p y) p) p) ∧ UP y ((A_go (A_beg1 (pN a p y) p) p).1 p) := by
  have hn := hq.1
  obtain ⟨h15, h23⟩ := hn.2.2.2.2.2.2.2.2.2.2.2.2.1 h14
  have hnv := NI_NV (by omega) hn
  have hrd := NI_rd (by omega) hn
  obtain ⟨r1, r2⟩ := RR_beg1 hp hr hb ht hid hu hn.1 hn.2.1 hnv h14 h15 hrd hbs h23
  have hsi : F_begin1 y p 1 0 = 1 → F_begin1 y p 15 0 = y 15 0 ∧ (¬ F_begin1 y p 15 0 = 3 → F_begin1 y p 23 0 = 0) ∧ SI (F_begin1 y p) p := by
    intro hv
    obtain ⟨z1, z2, z3⟩ := SI_begin1 hp hn.1 hn.2.1 hnv h14 h15 hrd h23 hv
    exact ⟨z3, z2, z1⟩
  have hbi : (A_beg1 (pN a p y) p).1 p 1 0 = 1 → ¬ (A_beg1 (pN a p y) p).1 p 16 0 = 0 → BI ((A_beg1 (pN a p y) p).1 p) p := fun hv _ => BI_beg1 hbs h9 hbc hsi hv (r2 hv)
  have hi : IV (B + 1) Z0 (A_beg1 (pN a p y) p) := IV_beg1 (by omega) hp (IV_pN hj.1 hp hq) (by rw [pN_eq]; exact hu) (by rw [pN_eq]; exact h14) (by rw [pN_eq]; exact h18)
  have hup : UP y ((A_beg1 (pN a p y) p).1 p) := by
    have := UP_beg1 (a := pN a p y) (p := p)
    rw [pN_eq] at this
    exact this
  have haf : AF a (A_beg1 (pN a p y) p) p := AF_trans AF_pN AF_beg1
  generalize A_beg1 (pN a p y) p = c at r1 hbi hi hup haf ⊢
  obtain ⟨g1, g2⟩ := RR_set hp r1 hbi
  exact ⟨g1, JV_of hj (IV_go (by omega) hp hi) (by omega) (AF_trans haf AF_go) ⟨go_cd, g2⟩, UP_trans hup UP_go⟩
theorem RR_tk {s : cS} {a : rA} {v : Int32} (h : RR s a) : RR (sK s 0 v) (aG a 1 v) := by
  obtain ⟨h1, h2, h3, h4, h5, h6⟩ := h
  refine ⟨h1, ?_, h3, h4, h5, h6⟩
  show up1 s.2.2.1 0 v 0 = up1 a.2.2.2 1 v 1
  rw [up1_eq, up1_eq]
theorem JV_tk {B : Nat} {a : rA} (h : JV B a) : JV (B + 1) (aG a 1 (a.2.2.2 1 + 1)) := by
  refine ⟨IV_g (IV_mono (by omega) h.1) (by decide), ?_, h.2.2⟩
  rw [aG_4, up1_eq]
  exact NB_inc h.2.1
theorem tk_ne {B : Nat} {x : Int32} (hB : B < 134217690) (h : NB B x) : ¬ x + 1 = 0 := by
  obtain ⟨m, hm, e⟩ := h
  rw [e, nI_1, show (0 : Int32) = nI 0 from rfl, nI_eq (by omega) (by omega)]
  omega
/-- what the new task's node holds -/
theorem RB_st {x y : nv} {tk wh v : Int32} {q : Nat} (h : RB x y) (h16 : y 16 0 = 0) : RB (C_topen x tk wh (nI q)) (F_st y tk wh q v) := by
  obtain ⟨h1, h2, h3, h4, h5, h6, h7, h8, h9, h10⟩ := h
  have ek : ∀ k j, k ≠ 14 ∧ k ≠ 15 ∧ k ≠ 17 ∧ k ≠ 21 ∧ k ≠ 18 ∧ k ≠ 23 → F_st y tk wh q v k j = y k j := fun k j hk => fst_k hk
  have ck : ∀ k j, k ≠ 12 → C_topen x tk wh (nI q) k j = x k j := by
    intro k j hk
    unfold C_topen
    simp only [un_nk hk]
  have c0 : C_topen x tk wh (nI q) 12 0 = tk ∧ C_topen x tk wh (nI q) 12 2 = 0 := by
    unfold C_topen
    refine ⟨?_, ?_⟩ <;> simp (disch := decide) only [un_nk, un_nj, un_eq]
  refine ⟨?_, ?_, ?_, ?_, ?_, ?_, fun j hj => ?_, fun j hj => ?_, ?_, ?_⟩
  · rw [ck 0 1 (by decide), ek 1 0 (by decide)]
    exact h1
  · rw [ck 0 2 (by decide), ek 2 0 (by decide)]
    exact h2
  · rw [ck 0 3 (by decide), ek 3 0 (by decide)]
    exact h3
  · rw [ck 0 4 (by decide), ek 5 0 (by decide)]
    exact h4
  · rw [ck 0 5 (by decide), ek 4 0 (by decide)]
    exact h5
  · rw [ck 0 6 (by decide), ek 32 0 (by decide)]
    exact h6
  · rw [ck 2 j (by decide), ek 6 j (by decide), ck 3 j (by decide), ek 7 j (by decide), ck 4 j (by decide), ek 8 j (by decide)]
    exact h7 j hj
  · rw [ck 6 j (by decide), ek 9 j (by decide), ck 7 j (by decide), ek 10 j (by decide), ck 9 j (by decide), ek 11 j (by decide), ck 10 j (by decide), ek 12 j (by decide), ck 11 j (by decide), ek 13 j (by decide)]
    exact h8 j hj
  · rw [c0.1, fst_f.1]
  · rw [c0.2, ek 16 0 (by decide), h16]
theorem top_g {n : nv} {tk kd x : Int32} : C_topen n tk kd x 12 4 = 0 ∧ C_topen n tk kd x 12 7 = 0 ∧ C_topen n tk kd x 12 8 = 0 ∧ C_topen n tk kd x 12 9 = 0 ∧ C_topen n tk kd x 12 12 = 0 := by
  unfold C_topen
  refine ⟨?_, ?_, ?_, ?_, ?_⟩ <;> simp (disch := decide) only [un_nk, un_nj, un_eq]
theorem RB_12 {x y : nv} {j : Nat} {v : Int32} (h : RB x y) (hj : j ≠ 0 ∧ j ≠ 2) : RB (un x 12 j v) y := by
  unfold RB at *
  simp (disch := first | decide | omega) only [un_nk, un_nj hj.1.symm, un_nj hj.2.symm]
  exact h
theorem RT_st {x y : nv} {tk wh v : Int32} {q : Nat} (e1 : x 12 1 = wh) (e3 : x 12 3 = nI q) (e4 : x 12 4 = 0) (e7 : x 12 7 = 0) (h2 : wh = 2 → x 12 8 = v) (h3 : wh = 3 → x 12 9 = v) (h4 : wh = 4 → x 12 12 = y 22 0) : RT x (F_st y tk wh q v) := by
  obtain ⟨f14, f15, f17, f21, f18, f23⟩ := fst_f (b := y) (tk := tk) (wh := wh) (v := v) (q := q)
  unfold RT
  rw [e1, e3, e4, e7, f15, f17, f18, f23, f21, fst_k (k := 22) (by decide)]
  exact ⟨rfl, rfl, rfl, rfl, h2, h3, h4⟩
/-! starts: class and reference -/
theorem RR_sts {B p q : Nat} {s : cS} {a : rA} {b x : nv} {wh v : Int32} (hB : B < 134217500) (hp : p < 8) (hr : RR s a) (hj : JV B a) (hn : NQ B p (a.1 p) b) (hu : b 1 0 = 1) (h16 : b 16 0 = 0) (hq : q < 16) (hd : wh = 1 ∨ wh = 2 → q < 4) (hw : wh = 1 ∨ wh = 2 ∨ wh = 3 ∨ wh = 4) (x1 : RB x (F_st b (a.2.2.2 1 + 1) wh q v)) (x2 : RT x (F_st b (a.2.2.2 1 + 1) wh q v)) (hid : x 0 0 = nI p) (hbs : wh = 3 → bs b + 1 = q) (h9 : wh = 3 → ¬ b 9 q = 1) (hbc : wh = 4 → bc (b 22 0) = mny (b 22 0) 16) : K_an (K_go (cN (sK s 0 (a.2.2.2 1 + 1)) p x) p) p = (A_start (pN (aG a 0 0) p b) p wh q v).1 ∧ RR (K_go (cN (sK s 0 (a.2.2.2 1 + 1)) p x) p) (A_start (pN (aG a 0 0) p b) p wh q v).2 ∧ JV (B + 4) (A_start (pN (aG a 0 0) p b) p wh q v).2 := by
  obtain ⟨f14, f15, f17, f21, f18, f23⟩ := fst_f (b := b) (tk := a.2.2.2 1 + 1) (wh := wh) (v := v) (q := q)
  have r0 : RR (sK s 0 (a.2.2.2 1 + 1)) (aG (aG a 0 0) 1 (a.2.2.2 1 + 1)) := RR_tk (RR_g0 hr)
  have j0 : JV (B + 1) (aG (aG a 0 0) 1 (a.2.2.2 1 + 1)) := JV_tk (JV_g0 hj)
  have hq2 : NQ (B + 1) p (a.1 p) (F_st b (a.2.2.2 1 + 1) wh q v) := NQ_trans hn (fun h => NQ_st (NI_mono (by omega) h) h16 hq hd hw)
  have e24 : bs (F_st b (a.2.2.2 1 + 1) wh q v) = bs b := by
    unfold bs
    rw [fst_k (by decide)]
  have e17 : ab (F_st b (a.2.2.2 1 + 1) wh q v) = q := by
    unfold ab
    rw [f17]
    exact nI_cl (by omega)
  have hst := RR_st (B := B + 1) (s := sK s 0 (a.2.2.2 1 + 1)) (a := aG (aG a 0 0) 1 (a.2.2.2 1 + 1)) (x := x) (y := F_st b (a.2.2.2 1 + 1) wh q v) (by omega) hp r0 j0 x1 x2 hid (by rw [fst_k (by decide)]; exact hu) hq2 (by rw [f14]; exact tk_ne (by omega) hj.2.1) f18 (by rw [f15, e24, e17]; exact hbs) (by rw [f15, e17, fst_k (by decide)]; exact h9) (by rw [f15, fst_k (by decide)]; exact hbc)
  have e : A_st2 (pN (aG a 0 0) p b) p wh q v = A_go (A_beg1 (pN (aG (aG a 0 0) 1 (a.2.2.2 1 + 1)) p (F_st b (a.2.2.2 1 + 1) wh q v)) p) p := by
    unfold A_st2
    rw [pN_eq]
    have e1 : aG (pN (aG a 0 0) p b) 1 ((pN (aG a 0 0) p b).2.2.2 1 + 1) = pN (aG (aG a 0 0) 1 (a.2.2.2 1 + 1)) p b := rfl
    have e2 : (pN (aG a 0 0) p b).2.2.2 1 = a.2.2.2 1 := rfl
    rw [e1, e2, pN_pN]
  unfold A_start
  rw [e]
  have e2 : (pN (aG a 0 0) p b).2.2.2 1 = a.2.2.2 1 := rfl
  rw [e2]
  unfold K_go
  generalize A_go (A_beg1 (pN (aG (aG a 0 0) 1 (a.2.2.2 1 + 1)) p (F_st b (a.2.2.2 1 + 1) wh q v)) p) p = A at hst ⊢
  generalize K_set (K_beg1 (cN (sK s 0 (a.2.2.2 1 + 1)) p x) p) p = K at hst ⊢
  obtain ⟨g1, g2, g3⟩ := hst
  refine ⟨?_, g1, g2⟩
  have hrn := (g1.1 p hp).1.1
  have r1 : K.1 p 0 1 = A.1 p 1 0 := hrn.1
  have r2 : K.1 p 12 0 = A.1 p 14 0 := hrn.2.2.2.2.2.2.2.2.1
  unfold K_an
  rw [r1, r2]
  by_cases hA : A.1 p 1 0 = 1
  · rw [if_pos hA]
    show _ = if A.1 p 1 0 = 1 then a.2.2.2 1 + 1 else -9
    rw [if_pos hA, (g3 hA).2, f14]
  · rw [if_neg hA]
    show _ = if A.1 p 1 0 = 1 then a.2.2.2 1 + 1 else -9
    rw [if_neg hA]
theorem free_eq {x y : nv} (h : RB x y) : C_free x = 0 ↔ F_isFree y = 0 := by
  have h6 : ∀ k, k < 16 → x 6 k = y 9 k := fun k hk => (h.2.2.2.2.2.2.2.1 k hk).1
  have hg := hav_gre h6
  have e1 : x 0 1 = y 1 0 := h.1
  have e16 : x 12 2 = y 16 0 := h.2.2.2.2.2.2.2.2.2
  unfold C_free F_isFree C_busy
  rw [e1, e16]
  by_cases c1 : y 1 0 = 1
  · by_cases c2 : y 16 0 = 0
    · by_cases c3 : gre (y 9) 16 < 0
      · rw [if_neg (fun z => z.2.2 (hg.mpr c3)), if_neg (fun z => Int32.not_lt.mpr z.2.1 c3)]
      · have c4 : ¬ hav (x 6) 1 16 = 0 := fun z => c3 (hg.mp z)
        have c5 : (if y 1 0 = 1 ∧ ¬ y 16 0 = 0 then (1 : Int32) else 0) = 0 := if_neg (fun z => z.2 c2)
        rw [if_pos ⟨c1, c5, c4⟩, if_pos ⟨c1, Int32.not_lt.mp c3, c2⟩]
    · have c5 : (if y 1 0 = 1 ∧ ¬ y 16 0 = 0 then (1 : Int32) else 0) = 1 := if_pos ⟨c1, c2⟩
      rw [if_neg (fun z => absurd z.2.1 (by rw [c5]; decide)), if_neg (fun z => c2 z.2.2)]
  · rw [if_neg (fun z => c1 z.1), if_neg (fun z => c1 z.1)]
def K_opv (s : cS) (p : Nat) (kd : Int32) (q j : Nat) (v : Int32) : cS := cN (K_op s p kd q) p (un ((K_op s p kd q).1 p) 12 j v)
theorem opv_e {s : cS} {p q j : Nat} {kd v : Int32} : K_opv s p kd q j v = cN (sK s 0 (s.2.2.1 0 + 1)) p (un (C_topen (s.1 p) (s.2.2.1 0 + 1) kd (nI q)) 12 j v) := by
  unfold K_opv K_op
  have e : (sK (cN s p (C_topen (s.1 p) (s.2.2.1 0 + 1) kd (nI q))) 0 (s.2.2.1 0 + 1)).1 p = C_topen (s.1 p) (s.2.2.1 0 + 1) kd (nI q) := by
    rw [sK_1, cN_eq]
  rw [e, ← cN_sK, cN_cN]
def K_write (s : cS) (p q : Nat) (v : Int32) : Int32 × cS := if C_free (s.1 p) = 0 then (-1, s) else (K_an (K_go (K_opv s p 2 q 8 v) p) p, K_go (K_opv s p 2 q 8 v) p)
theorem free_f {n : nv} (h : ¬ F_isFree n = 0) : n 1 0 = 1 ∧ n 16 0 = 0 := by
  obtain ⟨b, _, _, _, _, h1, h2⟩ := free_gre h
  exact ⟨h1, h2⟩
theorem g0_self {a : rA} {p : Nat} : pN (aG a 0 0) p (a.1 p) = aG a 0 0 := pN_self (a := aG a 0 0)
theorem RR_read {B p q : Nat} {s : cS} {a : rA} {v : Int32} (hB : B < 134217500) (hp : p < 8) (hq : q < 4) (hr : RR s a) (hj : JV B a) : (K_read s p q).1 = (A_read a p q v).1 ∧ RR (K_read s p q).2 (A_read a p q v).2 ∧ JV (B + 4) (A_read a p q v).2 := by
  have hrn := (hr.1 p hp).1
  have hfe := free_eq hrn.1
  unfold K_read A_read
  by_cases hf : C_free (s.1 p) = 0
  · rw [if_pos hf, if_pos (hfe.mp hf)]
    exact ⟨rfl, RR_g0 hr, JV_mono (by omega) (JV_g0 hj)⟩
  · have hf2 : ¬ F_isFree (a.1 p) = 0 := fun z => hf (hfe.mpr z)
    obtain ⟨hu, h16⟩ := free_f hf2
    rw [if_neg hf, if_neg hf2]
    have et : s.2.2.1 0 = a.2.2.2 1 := hr.2.1
    have eo : K_op s p 1 q = cN (sK s 0 (a.2.2.2 1 + 1)) p (C_topen (s.1 p) (a.2.2.2 1 + 1) 1 (nI q)) := by
      unfold K_op
      rw [et]
      rfl
    obtain ⟨t1, t2, t3⟩ := top_f (n := s.1 p) (tk := a.2.2.2 1 + 1) (kd := 1) (x := nI q)
    obtain ⟨g4, g7, g8, g9, g12⟩ := top_g (n := s.1 p) (tk := a.2.2.2 1 + 1) (kd := 1) (x := nI q)
    have key := RR_sts (v := 0) hB hp hr hj (NQ_refl (hj.1.2.1 p hp).1) hu h16 (show q < 16 by omega) (fun _ => hq) (Or.inl rfl) (RB_st hrn.1 h16) (RT_st t2 t3 g4 g7 (fun z => absurd z (by decide)) (fun z => absurd z (by decide)) (fun z => absurd z (by decide))) (t1.trans (hr.1 p hp).2) (fun z => absurd z (by decide)) (fun z => absurd z (by decide)) (fun z => absurd z (by decide))
    rw [g0_self] at key
    rw [eo]
    exact key
theorem RR_write {B p q : Nat} {s : cS} {a : rA} {v : Int32} (hB : B < 134217500) (hp : p < 8) (hq : q < 4) (hr : RR s a) (hj : JV B a) : (K_write s p q v).1 = (A_write a p q v).1 ∧ RR (K_write s p q v).2 (A_write a p q v).2 ∧ JV (B + 4) (A_write a p q v).2 := by
  have hrn := (hr.1 p hp).1
  have hfe := free_eq hrn.1
  unfold K_write A_write
  by_cases hf : C_free (s.1 p) = 0
  · rw [if_pos hf, if_pos (hfe.mp hf)]
    exact ⟨rfl, RR_g0 hr, JV_mono (by omega) (JV_g0 hj)⟩
  · have hf2 : ¬ F_isFree (a.1 p) = 0 := fun z => hf (hfe.mpr z)
    obtain ⟨hu, h16⟩ := free_f hf2
    rw [if_neg hf, if_neg hf2]
    have et : s.2.2.1 0 = a.2.2.2 1 := hr.2.1
    rw [opv_e, et]
    obtain ⟨t1, t2, t3⟩ := top_f (n := s.1 p) (tk := a.2.2.2 1 + 1) (kd := 2) (x := nI q)
    obtain ⟨g4, g7, g8, g9, g12⟩ := top_g (n := s.1 p) (tk := a.2.2.2 1 + 1) (kd := 2) (x := nI q)
    have key := RR_sts (v := v) (x := un (C_topen (s.1 p) (a.2.2.2 1 + 1) 2 (nI q)) 12 8 v) hB hp hr hj (NQ_refl (hj.1.2.1 p hp).1) hu h16 (show q < 16 by omega) (fun _ => hq) (Or.inr (Or.inl rfl)) (RB_12 (RB_st hrn.1 h16) (by decide)) (RT_st ((un_nj (by decide)).trans t2) ((un_nj (by decide)).trans t3) ((un_nj (by decide)).trans g4) ((un_nj (by decide)).trans g7) (fun _ => un_eq) (fun z => absurd z (by decide)) (fun z => absurd z (by decide))) ((un_nk (by decide)).trans (t1.trans (hr.1 p hp).2)) (fun z => absurd z (by decide)) (fun z => absurd z (by decide)) (fun z => absurd z (by decide))
    rw [g0_self] at key
    exact key
/-! again: class and reference -/
theorem and_bit {x y s : Int32} : ((x &&& y) >>> s) &&& 1 = ((x >>> s) &&& 1) &&& ((y >>> s) &&& 1) := by
  apply Int32.toBitVec_inj.mp
  simp only [Int32.toBitVec_and, Int32.toBitVec_shiftRight, BitVec.sshiftRight_eq', BitVec.sshiftRight_and_distrib]
  apply BitVec.eq_of_getLsbD_eq
  intro j _
  simp only [BitVec.getLsbD_and]
  exact (by decide : ∀ a b c : Bool, (a && b && c) = (a && c && (b && c))) _ _ _
theorem andn_0 {x y : Int32} : (x &&& (y ^^^ (-1))) &&& y = 0 := by
  apply Int32.toBitVec_inj.mp
  simp only [Int32.toBitVec_and, Int32.toBitVec_xor]
  apply BitVec.eq_of_getLsbD_eq
  intro j hj
  have e1 : (-1 : Int32).toBitVec.getLsbD j = true := (by decide : ∀ j, j < 32 → (-1 : Int32).toBitVec.getLsbD j = true) j hj
  have e0 : (0 : Int32).toBitVec.getLsbD j = false := (by decide : ∀ j, j < 32 → (0 : Int32).toBitVec.getLsbD j = false) j hj
  rw [e0]
  simp only [BitVec.getLsbD_and, BitVec.getLsbD_xor]
  rw [e1]
  exact (by decide : ∀ a b : Bool, (a && (b ^^ true) && b) = false) _ _
theorem miss_bit {x y s : Int32} (h : (y >>> s) &&& 1 = 1) : ((x &&& (y ^^^ (-1))) >>> s) &&& 1 = ((0 : Int32) >>> s) &&& 1 := by
  have e := and_bit (x := x &&& (y ^^^ (-1))) (y := y) (s := s)
  rw [andn_0, h, Int32.and_assoc, show (1 : Int32) &&& 1 = 1 from by decide] at e
  exact e.symm
theorem miss_bit0 {x y s : Int32} (h : (x >>> s) &&& 1 = 0) : ((x &&& y) >>> s) &&& 1 = 0 := by
  rw [and_bit, h, Int32.zero_and]
theorem bc_e8 {x z : Int32} (h : E8 x) : bc (x &&& z) = mny (x &&& z) 8 := by
  unfold E8 at h
  have e := bc8 (x := z) (c := x)
  rw [h, Int32.and_assoc, h] at e
  rw [Int32.and_comm x z]
  exact e
theorem miss_eq {x y : nv} (hb : x 0 1 = y 1 0) (h : y 1 0 = 1 → x 12 5 = y 19 0 ∧ x 12 6 = y 20 0) (h8 : E8 (y 19 0)) : C_miss x = A_miss y := by
  unfold C_miss A_miss
  rw [hb]
  by_cases c : y 1 0 = 1
  · obtain ⟨e1, e2⟩ := h c
    rw [if_pos c, if_pos c, e1, e2]
    exact bc_e8 h8
  · rw [if_neg c, if_neg c]
theorem AP_t {b : nv} {p k : Nat} (hp : p < 8) (h : AP b p) (hu : b 1 0 = 1) (h15 : ¬ b 15 0 = 3) (h16 : ¬ b 16 0 = 0) (hb : ¬ ((b 19 0 &&& (b 20 0 ^^^ (-1))) >>> (nI k &&& 31)) &&& 1 = 0) : k ≠ p := by
  intro e
  subst e
  rcases bit01 (x := b 20 0) (s := nI k &&& 31) with z | z
  · exact hb (miss_bit0 (h hu h15 h16 z))
  · exact hb ((miss_bit z).trans (zsh hp))
theorem IV_re {B p : Nat} {X : Nat → Int32} {a : rA} (hp : p < 8) (h : IV B X a) (hu : a.1 p 1 0 = 1) (h15 : ¬ a.1 p 15 0 = 3) (h16 : ¬ a.1 p 16 0 = 0) : ∀ k, k ≤ 8 → IV B X (A_re a p k) := by
  intro k
  induction k with
  | zero => exact fun _ => h
  | succ k ih =>
    intro hk
    have i1 := ih (by omega)
    have e1 := re_1 (a := a) (p := p) (k := k)
    rw [A_re]
    generalize A_re a p k = c at i1 e1 ⊢
    rw [e1]
    split
    · exact i1
    · rename_i hb
      exact IV_req i1 hp (by omega) (AP_t hp (h.2.1 p hp).2 hu h15 h16 hb) (by rw [e1]; exact hu)
theorem AF_re {a : rA} {p k : Nat} : AF a (A_re a p k) p := by
  induction k with
  | zero => exact AF_refl
  | succ k ih =>
    rw [A_re]
    split
    · exact ih
    · exact AF_trans ih AF_req
theorem RR_re {s : cS} {a : rA} {i : Nat} {w : Int32} (hi : i < 8) (hr : RR s a) (hd : DR (s.2.1 121) (a.1 i) i) (hph : a.1 i 16 0 = 1 ∨ a.1 i 16 0 = 2) (hw : Wn (a.1 i)) (hww : w = a.1 i 19 0 &&& (a.1 i 20 0 ^^^ (-1))) : ∀ k, k ≤ 8 → RR (K_re s w k) (A_re a i k) ∧ DR ((K_re s w k).2.1 121) (a.1 i) i := by
  intro k
  induction k with
  | zero => exact fun _ => ⟨hr, hd⟩
  | succ k ih =>
    intro hk
    obtain ⟨i1, i2⟩ := ih (by omega)
    have e1 := re_1 (a := a) (p := i) (k := k)
    rw [K_re, A_re]
    generalize K_re s w k = us at i1 i2 ⊢
    generalize A_re a i k = c at i1 e1 ⊢
    rw [e1, ← hww]
    by_cases h2 : (w >>> (nI k &&& 31)) &&& 1 = 0
    · rw [if_pos h2, if_pos h2]
      exact ⟨i1, i2⟩
    · rw [if_neg h2, if_neg h2]
      have hm := RM_req (x := nI k) (f := c.2.1 (ln c)) i2 hph hw
      have hrr2 := RR_M (v := un (us.2.1 121) 0 2 (nI k)) i1 (m := 121) (by decide)
      refine ⟨?_, ?_⟩
      · unfold A_request
        apply RR_send hrr2
        rw [cM_eq, e1]
        exact hm
      · rw [send_kk (CW_RR hrr2) (by decide), cM_eq]
        exact DR_to i2
theorem re_c {s : cS} {w : Int32} {k : Nat} : (K_re s w k).1 = s.1 := by
  induction k with
  | zero => rfl
  | succ k ih =>
    rw [K_re]
    split
    · exact ih
    · rw [← ih]
      unfold C_send
      split <;> rfl
theorem RR_again {B p : Nat} {s : cS} {a : rA} (hB : B < 134217500) (hp : p < 8) (hr : RR s a) (hj : JV B a) : (K_again s p).1 = (A_again a p).1 ∧ RR (K_again s p).2 (A_again a p).2 ∧ JV (B + 3) (A_again a p).2 := by
  have hrn := (hr.1 p hp).1
  have hid := (hr.1 p hp).2
  have hn := (hj.1.2.1 p hp).1
  have e1 : s.1 p 0 1 = a.1 p 1 0 := hrn.1.1
  have e2 : s.1 p 12 2 = a.1 p 16 0 := hrn.1.2.2.2.2.2.2.2.2.2
  unfold K_again A_again
  by_cases hb : a.1 p 1 0 = 1 ∧ ¬ a.1 p 16 0 = 0
  · obtain ⟨hu, h16⟩ := hb
    have hbz : ¬ C_busy (s.1 p) = 0 := by
      unfold C_busy
      rw [e1, e2, if_pos ⟨hu, h16⟩]
      decide
    have hbi := (hj.2.2 p hp).2 hu h16
    obtain ⟨h14, h18⟩ := NI_busy hn h16
    obtain ⟨ht, hrp⟩ := hrn.2 h14
    have e3 : s.1 p 12 1 = a.1 p 15 0 := ht.1
    have hph : a.1 p 16 0 = 1 ∨ a.1 p 16 0 = 2 := hbi.1.2.2.2.2.2.2.2.1
    have hc : a.1 p 1 0 = 1 ∧ ¬ a.1 p 16 0 = 0 := ⟨hu, h16⟩
    rw [if_neg hbz, if_pos hc, e3]
    by_cases h3 : a.1 p 15 0 = 3
    · rw [if_pos h3, if_pos h3]
      have key := RR_st (B := B) (s := s) (a := aG a 0 0) (x := s.1 p) (y := a.1 p) (by omega) hp (RR_g0 hr) (JV_g0 hj) hrn.1 ht hid hu (NQ_refl hn) h14 h18 hbi.2.1 hbi.2.2.2.1 hbi.2.2.2.2
      rw [cN_self, g0_self] at key
      generalize A_go (A_beg1 (aG a 0 0) p) p = A at key ⊢
      generalize K_set (K_beg1 s p) p = K at key ⊢
      obtain ⟨g1, g2, g3⟩ := key
      refine ⟨?_, g1, g2⟩
      have hk := (g1.1 p hp).1
      refine miss_eq hk.1.1 (fun hA => ?_) (g2.1.2.1 p hp).1.2.2.2.2.2.2.2.2.2.2.2.1
      have z := hk.2 (by rw [(g3 hA).2]; exact h14)
      exact ⟨z.2.1, z.2.2.1⟩
    · rw [if_neg h3, if_neg h3]
      have h15 := hbi.1.2.2.2.2.2.2.1
      have hdr := DR_draft (d := s.2.1 121) hrn hid hn.1 h14 h15 hph hbi.2.2.1
      have hrr := RR_M (v := C_draft (s.2.1 121) (s.1 p)) (RR_g0 (v := 0) hr) (m := 121) (by decide)
      have key := RR_re (w := s.1 p 12 5 &&& (s.1 p 12 6 ^^^ (-1))) hp hrr (by rw [cM_eq]; exact hdr) hph hn.1 (by rw [hrp.1, hrp.2.1]; rfl) 8 (Nat.le_refl _)
      have hiv := IV_re hp (IV_g hj.1 (by decide)) hu h3 h16 8 (Nat.le_refl _) (a := aG a 0 0)
      have e5 : (K_aga s p).1 p = s.1 p := by
        unfold K_aga
        rw [re_c]
        rfl
      refine ⟨?_, key.1, ?_⟩
      · show C_miss ((K_aga s p).1 p) = A_miss (a.1 p)
        rw [e5]
        exact miss_eq e1 (fun _ => ⟨hrp.1, hrp.2.1⟩) hn.2.2.2.2.2.2.2.2.2.2.2.1
      · refine JV_of (JV_g0 (v := 0) hj) (IV_mono (by omega) hiv) (by omega) AF_re ?_
        rw [re_1]
        exact hj.2.2 p hp
  · have hbz : C_busy (s.1 p) = 0 := by
      unfold C_busy
      rw [e1, e2, if_neg hb]
    rw [if_pos hbz, if_neg hb]
    exact ⟨rfl, RR_g0 hr, JV_mono (by omega) (JV_g0 hj)⟩
/-! deliver: class and reference -/
theorem cd_KF {n n' : nv} (hk : KF n n') (h20 : n' 20 0 = n 20 0) (h : A_cd n = 0) : A_cd n' = 0 := by
  by_cases hu : n' 1 0 = 1
  · obtain ⟨k17, k24, k9, k10, _, kk⟩ := hk
    obtain ⟨z1, z15, _, _, _, z16, _, _, z22, _⟩ := kk hu
    have e := en_congr z15 z16 k9 k10 h20 z22 k17 k24
    unfold A_cd at *
    rw [e, z16, hu]
    rw [z1] at h
    exact h
  · exact (NJ_dn (p := 0) hu).1
theorem SI_KF {b b' : nv} {i : Nat} (h : SI b i) (hk : KF b b') (hu : b' 1 0 = 1) (har : Ar b') (hv : NV b') (e19 : b' 19 0 = b 19 0) (e20 : b' 20 0 = b 20 0) (e25 : b' 25 0 = b 25 0) : SI b' i := by
  obtain ⟨_, z15, _, _, z14, z16, _, _, _, z23⟩ := hk.2.2.2.2.2 hu
  obtain ⟨h1, _, _, h4, h5, h6, h7, h8, h9⟩ := h
  unfold SI
  rw [e19, e20, e25, z15, z16, z14, z23]
  exact ⟨Wn_KF h1 hk, har, hv, h4, h5, h6, h7, h8, h9⟩
theorem NJ_K {b b' : nv} {i : Nat} (h : NJ b i) (hk : KF b b') (har : Ar b') (hv : NV b') (e19 : b' 19 0 = b 19 0) (e20 : b' 20 0 = b 20 0) (e25 : b' 25 0 = b 25 0) : NJ b' i := by
  refine ⟨cd_KF hk e20 h.1, fun hu h16 => ?_⟩
  obtain ⟨z1, _, _, _, _, z16, _⟩ := hk.2.2.2.2.2 hu
  have hb := h.2 z1 (by rw [← z16]; exact h16)
  exact BI_KF hb hk hu (SI_KF hb.1 hk hu har hv e19 e20 e25)
theorem NJ_store {B i q : Nat} {b : nv} {x y z : Int32} (hB : B < 134217690) (hn : NI B b) (h : NJ b i) : NJ (F_store b q x y z) i := NJ_K h KF_store (Ar_store hn.2.1) (NV_store (NI_NV hB hn)) (store_k (by decide) (by decide)) store_20 (store_k (by decide) (by decide))
theorem NJ_vote {B i q : Nat} {b : nv} {x y z : Int32} (hB : B < 134217690) (hn : NI B b) (h : NJ b i) (hx : NB (8 * B + 7) x) (hy : 0 ≤ y) : NJ (F_vote b q x y z) i := by
  obtain ⟨m, hm, e⟩ := hx
  exact NJ_K h KF_vote (Ar_vote hn.2.1) (NV_vote (NI_NV hB hn) ⟨m, by omega, e⟩ hy) (vote_k (by decide) (by decide)) (vote_k (by decide) (by decide)) (vote_k (by decide) (by decide))
theorem NJ_storeAll {B i k : Nat} {b : nv} {w : Nat → Int32} (hB : B < 134217690) (hn : NI B b) (h : NJ b i) : NJ (F_storeAll b w k) i := by
  have key : NJ (F_storeAll b w k) i ∧ NI B (F_storeAll b w k) := by
    induction k with
    | zero => exact ⟨h, hn⟩
    | succ k ih =>
      rw [F_storeAll]
      exact ⟨NJ_store hB ih.2 ih.1, (NQ_store (p := 0) ih.2).1⟩
  exact key.1
theorem cd_merges {a : rA} {i : Nat} (h : A_cd (a.1 i) = 0) : A_cd ((A_merges a i).1 i) = 0 := by
  unfold A_merges
  split
  · exact h
  · split
    · rename_i c
      rw [pN_eq]
      exact (NJ_dn (p := 0) (may0_dn c)).1
    · unfold A_looks
      split
      · rename_i c
        exact (NJ_0 (p := 0) c).1
      · exact go_cd
theorem cd_count {a : rA} {i : Nat} (h : A_cd (a.1 i) = 0) : A_cd ((A_count a i).1 i) = 0 := by
  unfold A_count
  split
  · exact h
  · unfold A_answers
    split
    · rw [pN_eq]
      exact cd_KF KF_refused (refused_k (by decide) (by decide)) h
    · unfold A_has
      split
      · exact go_cd
      · split
        · exact go_cd
        · split
          · exact go_cd
          · exact go_cd
theorem NJ_votes {B i r : Nat} {a : rA} (hB : B < 134217690) (hn : NI B (a.1 i)) (h : NJ (a.1 i) i) (hb : NB (8 * B + 7) (a.2.2.1 6)) : NJ ((A_votes a i r).1 i) i := by
  have h0 : 0 ≤ a.2.2.1 6 := NB_nn (by omega) hb
  unfold A_votes
  split
  · split
    · split
      · rw [send_1, pN_eq]
        exact NJ_vote hB hn h hb (hn.2.2.1 r).2
      · rw [pN_eq]
        exact NJ_vote hB hn h hb (hn.2.2.1 r).2
    · rw [send_1]
      exact h
  · split
    · split
      · rw [send_1, pN_eq]
        exact NJ_vote hB hn h hb h0
      · rw [pN_eq]
        exact NJ_vote hB hn h hb h0
    · rw [send_1]
      exact h
theorem NJ_handles {B i : Nat} {a : rA} (hB : B < 134217690) (hn : NI B (a.1 i)) (h : NJ (a.1 i) i) (hb : a.2.2.1 0 = 5 ∨ a.2.2.1 0 = 7 ∨ a.2.2.1 0 = 9 → NB (8 * B + 7) (a.2.2.1 6)) (hc : ¬ a.2.2.1 0 = 1 → ¬ a.2.2.1 0 = 3 → ¬ (a.2.2.1 0 = 5 ∨ a.2.2.1 0 = 7) → ¬ a.2.2.1 0 = 10 → ¬ a.2.2.1 0 = 12 → ¬ a.2.2.1 0 = 14 → ¬ a.2.2.1 0 = 15 → NJ ((A_count a i).1 i) i) : NJ ((A_handles a i).1 i) i := by
  unfold A_handles
  split
  · rw [send_1]
    exact h
  · rename_i c1
    split
    · split
      · rw [send_1, pN_eq]
        exact NJ_store hB hn h
      · rw [pN_eq]
        exact NJ_store hB hn h
    · rename_i c3
      split
      · rename_i c5
        refine NJ_votes hB hn h (hb ?_)
        rcases c5 with z | z
        · exact Or.inl z
        · exact Or.inr (Or.inl z)
      · rename_i c5
        split
        · rw [send_1]
          exact h
        · rename_i c10
          split
          · split
            · rw [send_1, pN_eq]
              exact NJ_storeAll hB hn h
            · rw [pN_eq]
              exact NJ_storeAll hB hn h
          · rename_i c12
            split
            · rw [pN_eq]
              exact NJ_storeAll hB hn h
            · rename_i c14
              split
              · split
                · exact h
                · rw [send_1]
                  exact h
              · rename_i c15
                exact hc c1 c3 c5 c10 c12 c14 c15
def C_isA (x : Int32) : Int32 := if x = 2 ∨ x = 4 ∨ x = 6 ∨ x = 8 ∨ x = 9 ∨ x = 11 ∨ x = 13 then 1 else 0
def K_d1 (s : cS) (i t : Nat) : cS := if (C_merge (s.1 i) (s.2.1 t 2) (s.2.1 t 3)).1 = 0 then cN s i (C_merge (s.1 i) (s.2.1 t 2) (s.2.1 t 3)).2 else K_set (K_look (cN s i (C_merge (s.1 i) (s.2.1 t 2) (s.2.1 t 3)).2) i (hav (s.1 i 6) 1 16)) i
def K_d2 (s : cS) (i t : Nat) : cS := if s.1 i 0 1 = 1 then (if C_isA (s.2.1 t 0 0) = 0 then K_rep (cM (cN s i (C_srv1 (s.1 i) (s.2.1 t))) 122 (C_srv2 (s.1 i) (s.2.1 t) (s.2.1 122))) i else K_set (cN s i (C_hear (s.1 i) (s.2.1 t))) i) else s
def K_del (s : cS) (i t : Nat) : Int32 × cS := if s.1 i 0 1 = 1 then (1, K_d2 (K_d1 s i t) i t) else (0, s)
theorem CT_d1 {s : cS} {i t : Nat} : CT s (K_d1 s i t) := by
  unfold K_d1
  split
  · exact CT_N
  · exact CT_trans CT_N (CT_trans CT_look CT_set)
theorem kd_req {x : Int32} (h : KD x) (ha : C_isA x = 0) : x = 1 ∨ x = 3 ∨ x = 5 ∨ x = 7 ∨ x = 10 ∨ x = 12 ∨ x = 14 ∨ x = 15 := by
  unfold KD at h
  unfold C_isA at ha
  rcases h with z | z | z | z | z | z | z | z | z | z | z | z | z | z | z <;> rw [z] at ha ⊢ <;> first | decide | exact absurd ha (by decide)
theorem kd_ans {x : Int32} (h : KD x) (ha : ¬ C_isA x = 0) : x = 2 ∨ x = 4 ∨ x = 6 ∨ x = 8 ∨ x = 9 ∨ x = 11 ∨ x = 13 := by
  unfold KD at h
  unfold C_isA at ha
  rcases h with z | z | z | z | z | z | z | z | z | z | z | z | z | z | z <;> rw [z] at ha ⊢ <;> first | decide | exact absurd (by decide) ha
theorem handles_ans {a : rA} {i : Nat} (h : a.2.2.1 0 = 2 ∨ a.2.2.1 0 = 4 ∨ a.2.2.1 0 = 6 ∨ a.2.2.1 0 = 8 ∨ a.2.2.1 0 = 9 ∨ a.2.2.1 0 = 11 ∨ a.2.2.1 0 = 13) : A_handles a i = A_count a i := by
  have n1 : ¬ a.2.2.1 0 = 1 := by rcases h with z | z | z | z | z | z | z <;> rw [z] <;> decide
  have n3 : ¬ a.2.2.1 0 = 3 := by rcases h with z | z | z | z | z | z | z <;> rw [z] <;> decide
  have n5 : ¬ (a.2.2.1 0 = 5 ∨ a.2.2.1 0 = 7) := by rcases h with z | z | z | z | z | z | z <;> rw [z] <;> decide
  have n10 : ¬ a.2.2.1 0 = 10 := by rcases h with z | z | z | z | z | z | z <;> rw [z] <;> decide
  have n12 : ¬ a.2.2.1 0 = 12 := by rcases h with z | z | z | z | z | z | z <;> rw [z] <;> decide
  have n14 : ¬ a.2.2.1 0 = 14 := by rcases h with z | z | z | z | z | z | z <;> rw [z] <;> decide
  have n15 : ¬ a.2.2.1 0 = 15 := by rcases h with z | z | z | z | z | z | z <;> rw [z] <;> decide
  unfold A_handles
  rw [if_neg n1, if_neg n3, if_neg n5, if_neg n10, if_neg n12, if_neg n14, if_neg n15]
/-- the second half of a delivery -/
theorem RR_d2 {B i t : Nat} {s : cS} {a : rA} (hB : B < 134217600) (hi : i < 8) (hr : RR s a) (hv : IV B a.2.2.1 a) (hlq : LQ B a.1 a.2.2.1) (hto : a.2.2.1 2 = nI i) (hm : RM (s.2.1 t) a.2.2.1) (hj : NJ (a.1 i) i) (hu : a.1 i 1 0 = 1) : RR (K_d2 s i t) (A_handles a i) ∧ NJ ((A_handles a i).1 i) i := by
  have hn := (hv.2.1 i hi).1
  have hrn := (hr.1 i hi).1
  have hu2 : s.1 i 0 1 = 1 := by
    rw [hrn.1.1]
    exact hu
  obtain ⟨⟨kd, ⟨q, t', hq, ht', hft, e1, et⟩, hwm, hs, hb, h6⟩, ql⟩ := hlq
  have hne : q ≠ i := by
    rw [et] at hto
    have : t' = i := (nI_eq (by omega) (by omega)).mp hto
    rw [← this]
    exact hft
  have k0 : s.2.1 t 0 0 = a.2.2.1 0 := hm.1 0 (by decide)
  unfold K_d2
  rw [if_pos hu2, k0]
  by_cases ha : C_isA (a.2.2.1 0) = 0
  · rw [if_pos ha]
    have hk := kd_req kd ha
    refine ⟨RR_serve hi hr hu hn.2.1 hm hwm hk, NJ_handles (by omega) hn hj hb (fun c1 c3 c5 c10 c12 c14 c15 => ?_)⟩
    exfalso
    rcases hk with z | z | z | z | z | z | z | z
    · exact c1 z
    · exact c3 z
    · exact c5 (Or.inl z)
    · exact c5 (Or.inr z)
    · exact c10 z
    · exact c12 z
    · exact c14 z
    · exact c15 z
  · rw [if_neg ha]
    have hk := kd_ans kd ha
    rw [handles_ans hk]
    have n3 : ¬ a.2.2.1 0 = 3 := by rcases hk with z | z | z | z | z | z | z <;> rw [z] <;> decide
    have key := RR_count (v := s.2.1 t) hi hr hu hj.2 hj.1 hn.2.2.2.2.2.2.2.1 hm hq hne e1 (fun hc h2 => ?_) (fun h9 => ?_) h6 n3
    · exact ⟨key.1, cd_count hj.1, key.2⟩
    · obtain ⟨c16, c3, c4, _⟩ := cnt_ne hc
      have n16 : ¬ a.1 i 16 0 = 0 := fun z => c16 (by rw [z]; exact Int32.le_refl _)
      obtain ⟨_, _, z3⟩ := ql.2 i hi h2 hto
      obtain ⟨_, y2⟩ := z3 c3 hu
      obtain ⟨x1, x2⟩ := y2 c4 n16
      refine ⟨?_, hn.1.2.2.1 x1⟩
      rw [x2]
      exact hn.1.1
    · obtain ⟨m, hm2, e⟩ := hb (Or.inr (Or.inr h9))
      exact ⟨m, by omega, e⟩
/-! a message is taken out: the reference keeps it -/
theorem rem_line {a : rA} {x y j : Nat} (hx : x < ln a) (hy : y < ln a - 1) (hj : j < 53) : (A_rem a x).2.1 y j = if y < x then a.2.1 y j else a.2.1 (y + 1) j := by
  show rmM a.2.1 x (53 * (ln a - 1 - x)) y j = _
  unfold rmM
  by_cases c : y < x
  · rw [if_neg (by omega), if_pos c]
  · rw [if_pos ⟨hj, by omega, by omega⟩, if_neg c]
theorem rem_ln {a : rA} {x : Nat} (hl : Wl a) : ln (A_rem a x) = ln a - 1 := by
  have hle := hl.2
  have e0 : (A_rem a x).2.2.2 2 = nI (ln a - 1) := rfl
  unfold ln at *
  rw [e0, nI_cl (by omega)]
theorem IV_rem {B x : Nat} {X : Nat → Int32} {a : rA} (h : IV B X a) (hx : x < ln a) : IV B X (A_rem a x) := by
  obtain ⟨h1, h2, h3, h4⟩ := h
  have hle := h1.2
  have el := rem_ln (x := x) h1
  have e0 : (A_rem a x).2.2.2 2 = nI (ln a - 1) := rfl
  refine ⟨⟨by rw [el, e0], by rw [el]; omega⟩, h2, fun y hy => ?_, h4⟩
  rw [el] at hy
  show LQ B a.1 _
  by_cases c : y < x
  · exact LQ_congr (h3 y (by omega)) (fun j hj => by rw [rem_line hx hy hj, if_pos c])
  · exact LQ_congr (h3 (y + 1) (by omega)) (fun j hj => by rw [rem_line hx hy hj, if_neg c])
theorem IV_drop {B : Nat} {X : Nat → Int32} {a : rA} (h : IV B X a) : IV B Z0 a := ⟨h.1, h.2.1, h.2.2.1, Or.inl rfl⟩
theorem IV_now {B x : Nat} {a : rA} (h : IV B Z0 a) (hx : x < ln a) : IV B (A_now a x).2.2.1 (A_now a x) ∧ LQ B (A_now a x).1 (A_now a x).2.2.1 := by
  have hq : LQ B a.1 (cpW a.2.2.1 (a.2.1 x) 53) := LQ_congr (h.2.2.1 x hx) (fun j hj => cpW_lt hj)
  have h0 : IV B (cpW a.2.2.1 (a.2.1 x) 53) (aW (aG a 0 0) (cpW a.2.2.1 (a.2.1 x) 53)) := by
    obtain ⟨h1, h2, h3, _⟩ := h
    exact ⟨h1, h2, h3, Or.inr hq⟩
  exact ⟨IV_rem h0 hx, hq⟩
theorem JV_now {B x : Nat} {a : rA} (h : JV B a) (hx : x < ln a) : JV B (A_now a x) := ⟨IV_drop (IV_now h.1 hx).1, h.2.1, h.2.2⟩
theorem JV_lose {B x : Nat} {a : rA} (h : JV B a) (hx : x < ln a) : JV B (A_lose a x) := ⟨IV_rem (IV_g h.1 (by decide)) hx, h.2.1, h.2.2⟩
theorem JV_twice {B x : Nat} {a : rA} (h : JV B a) (hx : x < ln a) : JV B (A_twice a x).2 := by
  have hle := h.1.1.2
  unfold A_twice
  split
  · exact JV_g0 h
  · rename_i hne
    refine ⟨?_, h.2.1, h.2.2⟩
    obtain ⟨h1, h2, h3, h4⟩ := h.1
    have e2 : ln (aG (aM (aG a 0 0) (ln a) (cpW (a.2.1 (ln a)) (a.2.1 x) 53)) 2 (nI (ln a + 1))) = ln a + 1 := by
      show (nI (ln a + 1)).toNatClampNeg = _
      rw [nI_cl (by omega)]
    refine ⟨⟨by rw [e2]; rfl, by rw [e2]; omega⟩, h2, fun y hy => ?_, h4⟩
    rw [e2] at hy
    show LQ B a.1 ((aM (aG a 0 0) (ln a) (cpW (a.2.1 (ln a)) (a.2.1 x) 53)).2.1 y)
    by_cases c : y = ln a
    · rw [c, aM_2]
      exact LQ_congr (h3 x hx) (fun j hj => cpW_lt hj)
    · rw [aM_n c]
      exact h3 y (by omega)
/-! deliver -/
theorem RR_deliver {B x p : Nat} {s : cS} {a : rA} (hB : B < 134217500) (hp : p < 8) (hr : RR s a) (hj : JV B a) (hx : x < ln a) (hto : a.2.1 x 2 = nI p) : (K_del (K_out s x (ln a)) p (K_out s x (ln a)).2.2.2.2).1 = (A_del (A_now a x) p).1 ∧ RR (K_del (K_out s x (ln a)) p (K_out s x (ln a)).2.2.2.2).2 (A_del (A_now a x) p).2 ∧ JV (B + 5) (A_del (A_now a x) p).2 := by
  obtain ⟨r1, rm⟩ := RR_now hr hx
  obtain ⟨iv1, lq1⟩ := IV_now hj.1 hx
  have j1 := JV_now hj hx
  have to1 : (A_now a x).2.2.1 2 = nI p := by
    show cpW a.2.2.1 (a.2.1 x) 53 2 = nI p
    rw [cpW_lt (by decide), hto]
  generalize A_now a x = a1 at r1 rm iv1 lq1 j1 to1 ⊢
  generalize K_out s x (ln a) = s1 at r1 rm ⊢
  have hn := (iv1.2.1 p hp).1
  have hrn := (r1.1 p hp).1
  have ew : s1.1 p 0 1 = a1.1 p 1 0 := hrn.1.1
  have hw3 : ∀ k, k < 16 → a1.2.2.1 (9 + 2 * k) = 0 ∨ a1.2.2.1 (9 + 2 * k) = 1 ∨ a1.2.2.1 (9 + 2 * k) = 2 := lq1.1.2.2.2.1
  unfold K_del A_del
  rw [ew]
  by_cases hu : a1.1 p 1 0 = 1
  · rw [if_pos hu, if_pos hu]
    have hm := RR_merges (v := s1.2.1 s1.2.2.2.2) hp r1 hn.2.1 (NI_rd (by omega) hn) (j1.2.2 p hp).2 (fun k hk => rm.2.1 k hk) hw3
    have ivm := IV_merges (by omega) hp iv1 hw3
    have afm := AF_merges (a := a1) (p := p)
    have cdm := cd_merges (j1.2.2 p hp).1
    have hK : K_d1 s1 p s1.2.2.2.2 = (if (C_merge (s1.1 p) (s1.2.1 s1.2.2.2.2 2) (s1.2.1 s1.2.2.2.2 3)).1 = 0 then cN s1 p (C_merge (s1.1 p) (s1.2.1 s1.2.2.2.2 2) (s1.2.1 s1.2.2.2.2 3)).2 else K_set (K_look (cN s1 p (C_merge (s1.1 p) (s1.2.1 s1.2.2.2.2 2) (s1.2.1 s1.2.2.2.2 3)).2) p (hav (s1.1 p 6) 1 16)) p) := rfl
    rw [← hK] at hm
    have hct := CT_d1 (s := s1) (i := p) (t := s1.2.2.2.2)
    have htk : (K_d1 s1 p s1.2.2.2.2).2.1 s1.2.2.2.2 = s1.2.1 s1.2.2.2.2 := (hct.2 (CW_RR r1)).2 _ r1.2.2.2.2.2.2.2.1 (fun y hy => (r1.2.2.2.2.2.1 y hy).2)
    generalize A_merges a1 p = a2 at hm ivm afm cdm ⊢
    generalize K_d1 s1 p s1.2.2.2.2 = s2 at hm htk ⊢
    have hnj : NJ (a2.1 p) p := ⟨cdm, hm.2⟩
    have lq2 : LQ (B + 3) a2.1 a2.2.2.1 := by
      rw [afm.1]
      rcases ivm.2.2.2 with z | z
      · exfalso
        have kd := lq1.1.1
        unfold KD at kd
        rw [z] at kd
        exact absurd kd (by decide)
      · exact z
    have ivm2 : IV (B + 3) a2.2.2.1 a2 := by
      rw [afm.1]
      exact ivm
    have hrm : RM (s2.2.1 s1.2.2.2.2) a2.2.2.1 := by
      rw [afm.1, htk]
      exact rm
    have e2 : s2.1 p 0 1 = a2.1 p 1 0 := (hm.1.1 p hp).1.1.1
    by_cases hu2 : a2.1 p 1 0 = 1
    · have hd2 := RR_d2 (B := B + 3) (by omega) hp hm.1 ivm2 lq2 (by rw [afm.1]; exact to1) hrm hnj hu2
      refine ⟨rfl, ?_, ?_⟩
      · show RR (K_d2 s2 p s1.2.2.2.2) (if a2.1 p 1 0 = 1 then A_handles a2 p else a2)
        rw [if_pos hu2]
        exact hd2.1
      · show JV (B + 5) (if a2.1 p 1 0 = 1 then A_handles a2 p else a2)
        rw [if_pos hu2]
        exact JV_of j1 (IV_drop (IV_handles ivm2 hp lq2 (by rw [afm.1]; exact to1) (by omega))) (by omega) (AF_trans afm AF_handles) hd2.2
    · have hd0 : K_d2 s2 p s1.2.2.2.2 = s2 := by
        unfold K_d2
        rw [e2, if_neg hu2]
      refine ⟨rfl, ?_, ?_⟩
      · show RR (K_d2 s2 p s1.2.2.2.2) (if a2.1 p 1 0 = 1 then A_handles a2 p else a2)
        rw [if_neg hu2, hd0]
        exact hm.1
      · show JV (B + 5) (if a2.1 p 1 0 = 1 then A_handles a2 p else a2)
        rw [if_neg hu2]
        exact JV_of j1 (IV_drop (IV_mono (by omega) ivm)) (by omega) afm hnj
  · rw [if_neg hu, if_neg hu]
    exact ⟨rfl, r1, JV_mono (by omega) j1⟩
/-! the other calls: the reference keeps it -/
theorem JV_crash {B p : Nat} {a : rA} (hp : p < 8) (h : JV B a) : JV B (A_crash a p).2 := by
  unfold A_crash
  split
  · refine JV_of (p := p) (JV_g0 (v := 0) h) (IV_pN (IV_g h.1 (by decide)) hp (NQ_down (h.1.2.1 p hp).1)) (Nat.le_refl _) AF_pN ?_
    rw [pN_eq]
    refine NJ_dn ?_
    rw [fd_f.1]
    decide
  · exact JV_g0 h
theorem NQ_rs {B p : Nat} {b : nv} {v : Int32} (hB : B < 134217690) (h : NI B b) (h2 : b 1 0 = 2) : NQ (B + 1) p b (un (un (un b 1 0 1) 2 0 (b 2 0 + 1)) 32 0 v) := by
  refine NQ_trans (n' := un (un b 1 0 1) 2 0 (b 2 0 + 1)) (B := B + 1) ⟨?_, ⟨?_, ?_, ?_⟩, ?_⟩ (fun h => NQ_un h (KPn (by decide)))
  · have n1 : ¬ b 1 0 = 1 := by
      rw [h2]
      decide
    obtain ⟨h1, h2', h3, h4, h5, h6, h7, h8, h9, h10, h11, h12, h13, h14, h15⟩ := NI_mono (B' := B + 1) (by omega) h
    have h6' := NB_inc h.2.2.2.2.2.1
    have h4' := h10 h2
    have h16 := (h9 n1).1
    unfold NI Wn Ar ab bs F_isData at *
    simp (disch := decide) only [un_nk, un_eq]
    refine ⟨h1, h2', h3, h4, h5, h6', h7, h8, fun z => ?_, fun z => h4', h11, h12, h13, h14, h15⟩
    exact absurd trivial (by simpa using z)
  · rw [un_nk (by decide), un_eq]
    intro _
    decide
  · rw [un_eq]
    obtain ⟨m, hm, e⟩ := h.2.2.2.2.2.1
    rw [e]
    exact Int32.le_of_lt (inc_lt (by omega))
  · rw [un_eq]
    obtain ⟨m, hm, e⟩ := h.2.2.2.2.2.1
    rw [e]
    have hlt := inc_lt (m := m) (by omega)
    intro he
    rw [he] at hlt
    exact absurd hlt Int32.lt_irrefl
  · intro _
    refine AP_0 ?_
    rw [un_nk (by decide), un_nk (by decide)]
    refine (h.2.2.2.2.2.2.2.2.1 ?_).1
    rw [h2]
    decide
theorem JV_restart {B p : Nat} {a : rA} (hB : B < 134217690) (hp : p < 8) (h : JV B a) : JV (B + 1) (A_restart a p).2 := by
  have hn := (h.1.2.1 p hp).1
  unfold A_restart
  split
  · rename_i c
    refine JV_of (p := p) (JV_g0 (v := 0) h) (IV_pN' (by omega) (IV_g h.1 (by decide)) hp (NQ_rs hB hn c)) (by omega) AF_pN ?_
    rw [pN_eq]
    refine NJ_0 ?_
    rw [un_nk (by decide), un_nk (by decide), un_nk (by decide)]
    refine (hn.2.2.2.2.2.2.2.2.1 ?_).1
    rw [c]
    decide
  · exact JV_mono (by omega) (JV_g0 h)
theorem JV_arm {B p : Nat} {a : rA} {x : Int32} (hB : B < 134217690) (hp : p < 8) (h : JV B a) : JV B (A_arm a p x).2 := by
  have hn := (h.1.2.1 p hp).1
  unfold A_arm
  split
  · rename_i c
    obtain ⟨j, hj, e⟩ := nI_of2 (M := 100) (n := 100) (by decide) (Int32.not_lt.mpr c.2.1) c.2.2
    have har : Ar (un (a.1 p) 4 0 x) := ⟨j, by omega, by rw [un_eq]; exact e⟩
    refine JV_of (p := p) (JV_g0 (v := 0) h) (IV_pN (IV_g h.1 (by decide)) hp (NQ_ar hn (fun k j hk => un_nk hk.1) har c.1)) (Nat.le_refl _) AF_pN ?_
    rw [pN_eq]
    exact NJ_K (h.2.2 p hp) (KF_un (by decide)) har (NV_un (NI_NV hB hn) (by decide)) (un_nk (by decide)) (un_nk (by decide)) (un_nk (by decide))
  · exact JV_g0 h
theorem JV_gossip {B p : Nat} {a : rA} {x : Int32} (hp : p < 8) (h : JV B a) : JV B (A_gossip a p x).2 := by
  unfold A_gossip
  split
  · rename_i c
    obtain ⟨q, hq, e⟩ := i7 c.1
    have hne : q ≠ p := by
      intro z
      apply c.2.1
      rw [e, z]
    refine JV_of (p := p) (JV_g0 (v := 0) h) (IV_rep (IV_g h.1 (by decide)) hp hq hne e (by decide) ⟨0, by decide, rfl⟩ (fun z => absurd z (by decide)) (fun z => absurd z (by decide))) (Nat.le_refl _) AF_send ?_
    rw [send_1]
    exact h.2.2 p hp
  · exact JV_g0 h
theorem NQ_up {B p : Nat} {b : nv} (h : NI B b) (h2 : ¬ b 1 0 = 2) : NQ B p b (un b 1 0 1) := by
  by_cases c : b 1 0 = 1
  · rw [un_same c]
    exact NQ_refl h
  · obtain ⟨h16, h0⟩ := h.2.2.2.2.2.2.2.2.1 c
    have h0' : b 1 0 = 0 := by
      rcases h0 with z | z
      · exact z
      · exact absurd z h2
    refine ⟨?_, ⟨fun z => absurd h0' z, ?_, fun _ _ z => absurd h0' z⟩, fun _ => AP_0 ?_⟩
    · obtain ⟨h1, h2', h3, h4, h5, h6, h7, h8, h9, h10, h11, h12, h13, h14, h15⟩ := h
      unfold NI Wn Ar ab bs F_isData at *
      simp (disch := decide) only [un_nk, un_eq]
      refine ⟨h1, h2', h3, h4, h5, h6, h7, h8, fun z => ?_, fun z => ?_, h11, h12, h13, h14, h15⟩
      · exact absurd trivial (by simpa using z)
      · exact absurd z (by decide)
    · rw [un_nk (by decide)]
      exact Int32.le_refl _
    · rw [un_nk (by decide)]
      exact h16
theorem JV_join {B p : Nat} {a : rA} {x : Int32} (hp : p < 8) (h : JV B a) : JV B (A_join a p x).2 := by
  have hn := (h.1.2.1 p hp).1
  unfold A_join
  split
  · rename_i c
    obtain ⟨q, hq, e⟩ := i7 c.1
    have hne : q ≠ p := by
      intro z
      apply c.2.1
      rw [e, z]
    refine JV_of (p := p) (JV_g0 (v := 0) h) (IV_rep (IV_pN (IV_g h.1 (by decide)) hp (NQ_up hn c.2.2.1)) hp hq hne e (by decide) ⟨0, by decide, rfl⟩ (fun z => absurd z (by decide)) (fun z => absurd z (by decide))) (Nat.le_refl _) (AF_trans AF_pN AF_send) ?_
    rw [send_1, pN_eq]
    by_cases c1 : a.1 p 1 0 = 1
    · rw [un_same c1]
      exact h.2.2 p hp
    · refine NJ_0 ?_
      rw [un_nk (by decide)]
      exact (hn.2.2.2.2.2.2.2.2.1 c1).1
  · exact JV_g0 h
/-! the class's own: what its nodes' tasks are about -/
def CI (s : cS) : Prop := ∀ i, i < 8 → ∃ q, q < 16 ∧ s.1 i 12 3 = nI q ∧ (s.1 i 12 1 = 2 → q < 4)
def CP (s s' : cS) : Prop := ∀ i, P3 (s.1 i) (s'.1 i)
theorem CP_refl {s : cS} : CP s s := fun _ => P3_refl
theorem CP_trans {s s' s'' : cS} (h : CP s s') (h' : CP s' s'') : CP s s'' := fun i => P3_trans (h i) (h' i)
theorem CP_N {s : cS} {i : Nat} {n : nv} (h : P3 (s.1 i) n) : CP s (cN s i n) := by
  intro j
  by_cases e : j = i
  · rw [e, cN_eq]
    exact h
  · rw [cN_ne e]
    exact P3_refl
theorem CP_M {s : cS} {m : Nat} {v : nv} : CP s (cM s m v) := fun _ => P3_refl
theorem CP_send {s : cS} {m : Nat} : CP s (C_send s m) := by
  intro i
  unfold C_send
  split <;> exact P3_refl
theorem CP_self {s : cS} {i : Nat} : CP s (K_self s i) := by
  unfold K_self
  exact CP_trans (CP_N (P3_trans P3_srv1 P3_hear)) CP_M
theorem CP_ask {s : cS} {i : Nat} {w : Int32} {k : Nat} : CP s (K_ask s i w k) := by
  induction k with
  | zero => exact CP_refl
  | succ k ih =>
    rw [K_ask]
    split
    · split
      · exact ih
      · split
        · split
          · exact CP_trans ih (CP_trans (CP_N P3_ask5) CP_self)
          · exact CP_trans ih (CP_trans (CP_N P3_ask5) (CP_trans CP_M CP_send))
        · exact ih
    · exact ih
theorem CP_askF {s : cS} {i : Nat} : CP s (K_askF s i) := by
  unfold K_askF
  exact CP_trans CP_M CP_ask
theorem CP_beg1 {s : cS} {i : Nat} : CP s (K_beg1 s i) := by
  unfold K_beg1
  exact CP_trans (CP_N P3_begin1) CP_askF
theorem CP_beg2 {s : cS} {i : Nat} : CP s (K_beg2 s i) := by
  unfold K_beg2
  exact CP_trans (CP_N P3_begin2) CP_askF
theorem CP_stp {s : cS} {i : Nat} : CP s (K_stp s i) := by
  unfold K_stp
  split
  · exact CP_beg2
  · exact CP_N P3_fin
theorem CP_set {s : cS} {i : Nat} : CP s (K_set s i) := by
  unfold K_set
  split
  · exact CP_refl
  · split
    · exact CP_stp
    · exact CP_trans CP_stp CP_stp
theorem CP_look {s : cS} {i : Nat} {b : Int32} : CP s (K_look s i b) := by
  unfold K_look
  split
  · exact CP_refl
  · split
    · split
      · exact CP_refl
      · exact CP_N P3_conl
    · split
      · exact CP_refl
      · split
        · exact CP_beg1
        · exact CP_askF
theorem CP_go {s : cS} {i : Nat} : CP s (K_go s i) := by
  unfold K_go
  exact CP_trans CP_beg1 CP_set
theorem CI_CP {s s' : cS} (h : CI s) (hc : CP s s') : CI s' := by
  intro i hi
  obtain ⟨q, hq, e3, e1⟩ := h i hi
  obtain ⟨_, p1, p3⟩ := hc i
  refine ⟨q, hq, ?_, ?_⟩
  · rw [p3]
    exact e3
  · rw [p1]
    exact e1
theorem CI_KI {s : cS} {a : rA} {p : Nat} (hc : CI s) (hr : RR s a) (hp : p < 8) : ∃ q, q < 16 ∧ KI s p q := by
  obtain ⟨q, hq, e3, e1⟩ := hc p hp
  exact ⟨q, hq, CW_RR hr, (hr.1 p hp).2, e3, e1⟩
theorem P3_may {n : nv} : P3 n (C_may n).2 := ⟨cmay_00, cmay_12 (by decide), cmay_12 (by decide)⟩
theorem P3_un {n : nv} {k j : Nat} {v : Int32} (h : ¬ (k = 0 ∧ j = 0) ∧ ¬ (k = 12 ∧ j = 1) ∧ ¬ (k = 12 ∧ j = 3)) : P3 n (un n k j v) := by
  unfold P3 un
  refine ⟨?_, ?_, ?_⟩
  · rw [if_neg (by omega)]
  · rw [if_neg (by omega)]
  · rw [if_neg (by omega)]
theorem P3_mrg {n : nv} {x y : Nat → Int32} {k : Nat} : P3 n (C_mrg n x y k) := by
  induction k with
  | zero => exact P3_refl
  | succ k ih =>
    rw [C_mrg]
    split
    · exact ih
    · exact P3_trans ih (P3_trans (P3_un (by omega)) (P3_un (by omega)))
theorem P3_merge {n : nv} {x y : Nat → Int32} : P3 n (C_merge n x y).2 := by
  unfold C_merge
  split
  · exact P3_refl
  · split
    · exact P3_may
    · exact P3_trans P3_may P3_mrg
theorem CP_d1 {s : cS} {i t : Nat} : CP s (K_d1 s i t) := by
  unfold K_d1
  split
  · exact CP_N P3_merge
  · exact CP_trans (CP_N P3_merge) (CP_trans CP_look CP_set)
theorem CP_rep {s : cS} {i : Nat} : CP s (K_rep s i) := by
  unfold K_rep
  split
  · exact CP_trans CP_M CP_send
  · exact CP_refl
theorem CP_d2 {s : cS} {i t : Nat} : CP s (K_d2 s i t) := by
  unfold K_d2
  split
  · split
    · exact CP_trans (CP_N P3_srv1) (CP_trans CP_M CP_rep)
    · exact CP_trans (CP_N P3_hear) CP_set
  · exact CP_refl
theorem CP_del {s : cS} {i t : Nat} : CP s (K_del s i t).2 := by
  unfold K_del
  split
  · exact CP_trans CP_d1 CP_d2
  · exact CP_refl
theorem CP_re {s : cS} {w : Int32} {k : Nat} : CP s (K_re s w k) := by
  intro i
  rw [re_c]
  exact P3_refl
theorem CP_aga {s : cS} {i : Nat} : CP s (K_aga s i) := by
  unfold K_aga
  exact CP_trans CP_M CP_re
theorem CP_again {s : cS} {p : Nat} : CP s (K_again s p).2 := by
  unfold K_again
  split
  · exact CP_refl
  · split
    · exact CP_trans CP_beg1 CP_set
    · exact CP_aga
theorem P3_fall {n : nv} : P3 n (C_fall n) := by
  unfold C_fall
  exact P3_trans (P3_un (by omega)) (P3_trans (P3_un (by omega)) (P3_trans (P3_un (by omega)) (P3_trans (P3_un (by omega)) (P3_un (by omega)))))
theorem CP_crash {s : cS} {p : Nat} : CP s (K_crash s p).2 := by
  unfold K_crash
  split
  · exact CP_N P3_fall
  · exact CP_refl
theorem CP_arm {s : cS} {p : Nat} {x : Int32} : CP s (K_arm s p x).2 := by
  unfold K_arm
  split
  · exact CP_N (P3_un (by omega))
  · exact CP_refl
theorem CP_restart {s : cS} {p : Nat} : CP s (K_restart s p).2 := by
  unfold K_restart
  split
  · dsimp only
    split
    · exact CP_N (P3_trans (P3_un (by omega)) P3_may)
    · exact CP_N (P3_trans (P3_trans (P3_un (by omega)) P3_may) (P3_un (by omega)))
  · exact CP_refl
theorem CP_gossip {s : cS} {p q : Nat} : CP s (K_gossip s p q).2 := by
  unfold K_gossip
  split
  · exact CP_refl
  · split
    · exact CP_trans CP_M CP_send
    · exact CP_refl
theorem CP_join {s : cS} {p q : Nat} : CP s (K_join s p q).2 := by
  unfold K_join
  split
  · exact CP_refl
  · split
    · exact CP_trans (CP_N (P3_un (by omega))) (CP_trans CP_M CP_send)
    · exact CP_refl
theorem CP_twice {s : cS} {x : Nat} : CP s (K_twice s x).2 := by
  unfold K_twice
  split
  · exact CP_send
  · exact CP_refl
theorem CP_out {s : cS} {x L : Nat} : CP s (K_out s x L) := fun _ => P3_refl
theorem CI_op {s : cS} {p q : Nat} {n : nv} {v : Int32} (h : CI s) (hq : q < 16) (e3 : n 12 3 = nI q) (e1 : n 12 1 = 2 → q < 4) : CI (cN (sK s 0 v) p n) := by
  intro i hi
  by_cases e : i = p
  · rw [e, cN_eq]
    exact ⟨q, hq, e3, e1⟩
  · rw [cN_ne e]
    exact h i hi
/-! what can be seen: the class answers as the reference -/
section VIEWS
variable {Q : Option Value → xH → Prop} {c : Nat} {g : xH} {s : cS} {a : rA} {p q : Nat} {v x y z : Int32}
theorem t_findn (hn : ¬ (0 ≤ v ∧ v ≤ 7)) (h : Q (some .null) (cl c g s)) : w_Q_find Q c v (cl c g s) := (y_findn hn).mpr h
theorem t_node (hp : p < 8) (hr : RR s a) (h : Q (some (.int (V_node (a.1 p) x))) (cl c g s)) : w_Q_node Q c (nI p) x (cl c g s) := by
  obtain ⟨b1, b2, b3, b4, b5, b6, b7, b8, b9, b10⟩ := (hr.1 p hp).1.1
  have eg : gre (a.1 p 9) 16 = gre (s.1 p 6) 16 := gre_congr 16 (fun k hk => ((b8 k hk).1).symm)
  have el : lst (a.1 p 9) 16 = lst (s.1 p 6) 16 := lst_congr 16 (fun k hk => ((b8 k hk).1).symm)
  unfold V_node at h
  unfold w_Q_node
  refine ⟨⟨_, cg_0⟩, (y_find hp).mpr (Or.inr ⟨_, rfl, ?_⟩)⟩
  refine ⟨fun e => ⟨_, _, cn_0 hp, on_0_1, ?_⟩, fun e => ⟨_, _, cn_0 hp, on_0_2, ?_⟩, fun e => ⟨_, _, cn_0 hp, on_0_3, ?_⟩, fun e => ⟨_, _, cn_0 hp, on_0_8, ⟨_, cn_5 hp⟩, (s_Se_having_n hp).mpr ⟨_, rfl, y_lst.mpr ⟨_, rfl, ?_⟩⟩⟩, fun e => ⟨_, _, cn_0 hp, on_0_8, ⟨_, cn_5 hp⟩, (s_Se_having_n hp).mpr ⟨_, rfl, y_gre.mpr ⟨_, rfl, ?_⟩⟩⟩, fun e => ⟨_, _, cn_0 hp, on_0_4, ?_⟩, fun e => ⟨_, _, cn_0 hp, on_0_5, ?_⟩, fun n0 n1 n2 n3 n4 n5 n6 => ?_⟩
  · rw [if_pos e] at h
    rw [b1]
    exact h
  · subst e
    rw [if_neg (by decide), if_pos rfl] at h
    rw [b2]
    exact h
  · subst e
    rw [if_neg (by decide), if_neg (by decide), if_pos rfl] at h
    rw [b3]
    exact h
  · subst e
    rw [if_neg (by decide), if_neg (by decide), if_neg (by decide), if_pos rfl, el] at h
    exact h
  · subst e
    rw [if_neg (by decide), if_neg (by decide), if_neg (by decide), if_neg (by decide), if_pos rfl, eg] at h
    exact h
  · subst e
    rw [if_neg (by decide), if_neg (by decide), if_neg (by decide), if_neg (by decide), if_neg (by decide), if_pos rfl] at h
    rw [b4]
    exact h
  · subst e
    rw [if_neg (by decide), if_neg (by decide), if_neg (by decide), if_neg (by decide), if_neg (by decide), if_neg (by decide), if_pos rfl] at h
    rw [b5]
    exact h
  · rw [if_neg n0, if_neg n1, if_neg n2, if_neg n3, if_neg n4, if_neg n5, if_neg n6] at h
    exact h
theorem t_nodem (hn : ¬ (0 ≤ v ∧ v ≤ 7)) (h : Q (some (.int (-1))) (cl c g s)) : w_Q_node Q c v x (cl c g s) := by
  unfold w_Q_node
  exact ⟨⟨_, cg_0⟩, t_findn hn (Or.inl ⟨rfl, h⟩)⟩
theorem oO (hq : q < 4) : (if 0 ≤ nI q ∧ ¬ 4 ≤ nI q then (1 : Int32) else 0) = 1 := if_pos (of_eq_true (yO hq))
theorem oX (hq : q < 16) : (if 0 ≤ nI q ∧ ¬ 16 ≤ nI q then (1 : Int32) else 0) = 1 := if_pos (of_eq_true (yX hq))
theorem o3n (hn : ¬ (0 ≤ v ∧ v ≤ 3)) : (if 0 ≤ v ∧ ¬ 4 ≤ v then (1 : Int32) else 0) = 0 := by
  refine if_neg (fun z => hn ⟨z.1, ?_⟩)
  have h4 := Int32.not_le.mp z.2
  obtain ⟨j, hj, e⟩ := nI_of2 (M := 4) (n := 4) (by decide) (Int32.not_lt.mpr z.1) (Int32.le_of_lt h4)
  rw [e] at h4 ⊢
  rw [show (4 : Int32) = nI 4 from rfl, nI_ltI (by omega) (by omega)] at h4
  rw [show (3 : Int32) = nI 3 from rfl, nI_leI (by omega) (by omega)]
  omega
theorem o15n (hn : ¬ (0 ≤ v ∧ v ≤ 15)) : (if 0 ≤ v ∧ ¬ 16 ≤ v then (1 : Int32) else 0) = 0 := by
  refine if_neg (fun z => hn ⟨z.1, ?_⟩)
  have h4 := Int32.not_le.mp z.2
  obtain ⟨j, hj, e⟩ := nI_of2 (M := 16) (n := 16) (by decide) (Int32.not_lt.mpr z.1) (Int32.le_of_lt h4)
  rw [e] at h4 ⊢
  rw [show (16 : Int32) = nI 16 from rfl, nI_ltI (by omega) (by omega)] at h4
  rw [show (15 : Int32) = nI 15 from rfl, nI_leI (by omega) (by omega)]
  omega
/-- a copy's number, writer, value, wherever the copies lie -/
theorem t_num {h : xH} {k a0 : Nat} {l : List Value} {f : Nat → Int32} (hq : q < 4) (h1 : h.2 k = some (.inr (1, l))) (h2 : l[0]? = some (.ref a0)) (h3 : h.2 a0 = some (.inl (0, .inl (rAr 4 f)))) (hQ : Q (some (.int (f q))) h) : w_Co_numberOf Q k (nI q) h := by
  unfold w_Co_numberOf
  refine s_Q_isObject.mpr ?_
  rw [oO hq]
  refine ⟨1, rfl, fun z => absurd z (by decide), fun _ => ⟨_, _, h1, h2, _, f q, h3, nI_nn (by omega), ?_, hQ⟩⟩
  rw [nI_cl (by omega), rAr_get f hq]
theorem t_wri {h : xH} {k a0 : Nat} {l : List Value} {f : Nat → Int32} (hq : q < 4) (h1 : h.2 k = some (.inr (1, l))) (h2 : l[1]? = some (.ref a0)) (h3 : h.2 a0 = some (.inl (0, .inl (rAr 4 f)))) (hQ : Q (some (.int (f q))) h) : w_Co_writerOf Q k (nI q) h := by
  unfold w_Co_writerOf
  refine s_Q_isObject.mpr ?_
  rw [oO hq]
  refine ⟨1, rfl, fun z => absurd z (by decide), fun _ => ⟨_, _, h1, h2, _, f q, h3, nI_nn (by omega), ?_, hQ⟩⟩
  rw [nI_cl (by omega), rAr_get f hq]
theorem t_val {h : xH} {k a0 : Nat} {l : List Value} {f : Nat → Int32} (hq : q < 4) (h1 : h.2 k = some (.inr (1, l))) (h2 : l[2]? = some (.ref a0)) (h3 : h.2 a0 = some (.inl (0, .inl (rAr 4 f)))) (hQ : Q (some (.int (f q))) h) : w_Co_valueOf Q k (nI q) h := by
  unfold w_Co_valueOf
  refine s_Q_isObject.mpr ?_
  rw [oO hq]
  refine ⟨1, rfl, fun z => absurd z (by decide), fun _ => ⟨_, _, h1, h2, _, f q, h3, nI_nn (by omega), ?_, hQ⟩⟩
  rw [nI_cl (by omega), rAr_get f hq]
theorem t_cell (hp : p < 8) (hq : q < 4) (hr : RR s a) (h : Q (some (.int (V_cell (a.1 p) q x))) (cl c g s)) : w_Q_cell Q c (nI p) (nI q) x (cl c g s) := by
  obtain ⟨b1, b2, b3, b4, b5, b6, b7, b8, b9, b10⟩ := (hr.1 p hp).1.1
  obtain ⟨d1, d2, d3⟩ := b7 q hq
  unfold V_cell at h
  unfold w_Q_cell
  refine ⟨⟨_, cg_0⟩, (y_find hp).mpr (Or.inr ⟨_, rfl, s_Q_isObject.mpr ?_⟩)⟩
  rw [oO hq]
  refine ⟨1, rfl, fun _ => ⟨fun e => ⟨_, _, cn_0 hp, on_0_7, ⟨_, cn_1 hp⟩, t_num hq (cn_1 hp) on_1_0 (cn_2 hp) ⟨_, rfl, ?_⟩⟩, fun e => ⟨_, _, cn_0 hp, on_0_7, ⟨_, cn_1 hp⟩, t_wri hq (cn_1 hp) on_1_1 (cn_3 hp) ⟨_, rfl, ?_⟩⟩, fun e => ⟨_, _, cn_0 hp, on_0_7, ⟨_, cn_1 hp⟩, t_val hq (cn_1 hp) on_1_2 (cn_4 hp) ⟨_, rfl, ?_⟩⟩, fun n0 n1 n2 => ?_⟩, fun z => absurd z (by decide)⟩
  · rw [if_pos e] at h
    rw [d1]
    exact h
  · subst e
    rw [if_neg (by decide), if_pos rfl] at h
    rw [d2]
    exact h
  · subst e
    rw [if_neg (by decide), if_neg (by decide), if_pos rfl] at h
    rw [d3]
    exact h
  · rw [if_neg n0, if_neg n1, if_neg n2] at h
    exact h
theorem t_cellm (hn : ¬ (0 ≤ v ∧ v ≤ 7)) (h : Q (some (.int (-1))) (cl c g s)) : w_Q_cell Q c v x y (cl c g s) := by
  unfold w_Q_cell
  exact ⟨⟨_, cg_0⟩, t_findn hn (Or.inl ⟨rfl, h⟩)⟩
theorem t_celln (hp : p < 8) (hn : ¬ (0 ≤ v ∧ v ≤ 3)) (h : Q (some (.int (-1))) (cl c g s)) : w_Q_cell Q c (nI p) v x (cl c g s) := by
  unfold w_Q_cell
  refine ⟨⟨_, cg_0⟩, (y_find hp).mpr (Or.inr ⟨_, rfl, s_Q_isObject.mpr ?_⟩)⟩
  rw [o3n hn]
  exact ⟨0, rfl, fun z => absurd rfl z, fun _ => h⟩
theorem t_sta (hp : p < 8) (hq : q < 16) (hQ : Q (some (.int (s.1 p 6 q))) (cl c g s)) : w_Se_stateOf Q (na c p + 5) (nI q) (cl c g s) := by
  unfold w_Se_stateOf
  refine s_Q_isIndex.mpr ?_
  rw [oX hq]
  refine ⟨1, rfl, fun z => absurd z (by decide), fun _ => ⟨_, _, cn_5 hp, on_5_0, _, s.1 p 6 q, cn_6 hp, nI_nn (by omega), ?_, hQ⟩⟩
  rw [nI_cl (by omega), rAr_get _ hq]
theorem t_cof (hp : p < 8) (hq : q < 16) (hQ : Q (some (.int (s.1 p 7 q))) (cl c g s)) : w_Se_configurationOf Q (na c p + 5) (nI q) (cl c g s) := by
  unfold w_Se_configurationOf
  refine s_Q_isIndex.mpr ?_
  rw [oX hq]
  refine ⟨1, rfl, fun z => absurd z (by decide), fun _ => ⟨_, _, cn_5 hp, on_5_1, _, s.1 p 7 q, cn_7 hp, nI_nn (by omega), ?_, hQ⟩⟩
  rw [nI_cl (by omega), rAr_get _ hq]
theorem t_map (hp : p < 8) (hq : q < 16) (hr : RR s a) (h : Q (some (.int (V_map (a.1 p) q x))) (cl c g s)) : w_Q_map Q c (nI p) (nI q) x (cl c g s) := by
  obtain ⟨b1, b2, b3, b4, b5, b6, b7, b8, b9, b10⟩ := (hr.1 p hp).1.1
  obtain ⟨d1, d2, d3, d4, d5⟩ := b8 q hq
  unfold V_map at h
  unfold w_Q_map
  refine ⟨⟨_, cg_0⟩, (y_find hp).mpr (Or.inr ⟨_, rfl, s_Q_isIndex.mpr ?_⟩)⟩
  rw [oX hq]
  refine ⟨1, rfl, fun _ => ⟨fun e => ⟨_, _, cn_0 hp, on_0_8, ⟨_, cn_5 hp⟩, t_sta hp hq ⟨_, rfl, ?_⟩⟩, fun e => ⟨_, _, cn_0 hp, on_0_8, ⟨_, cn_5 hp⟩, t_cof hp hq ⟨_, rfl, ?_⟩⟩, fun e => ⟨_, _, cn_0 hp, on_0_9, ⟨_, cn_8 hp⟩, (y_vpr hp hq).mpr ⟨_, rfl, ?_⟩⟩, fun e => ⟨_, _, cn_0 hp, on_0_9, ⟨_, cn_8 hp⟩, (y_vac hp hq).mpr ⟨_, rfl, ?_⟩⟩, fun e => ⟨_, _, cn_0 hp, on_0_9, ⟨_, cn_8 hp⟩, (y_vco hp hq).mpr ⟨_, rfl, ?_⟩⟩, fun n0 n1 n2 n3 n4 => ?_⟩, fun z => absurd z (by decide)⟩
  · rw [if_pos e] at h
    rw [d1]
    exact h
  · subst e
    rw [if_neg (by decide), if_pos rfl] at h
    rw [d2]
    exact h
  · subst e
    rw [if_neg (by decide), if_neg (by decide), if_pos rfl] at h
    rw [d3]
    exact h
  · subst e
    rw [if_neg (by decide), if_neg (by decide), if_neg (by decide), if_pos rfl] at h
    rw [d4]
    exact h
  · subst e
    rw [if_neg (by decide), if_neg (by decide), if_neg (by decide), if_neg (by decide), if_pos rfl] at h
    rw [d5]
    exact h
  · rw [if_neg n0, if_neg n1, if_neg n2, if_neg n3, if_neg n4] at h
    exact h
theorem t_mapm (hn : ¬ (0 ≤ v ∧ v ≤ 7)) (h : Q (some (.int (-1))) (cl c g s)) : w_Q_map Q c v x y (cl c g s) := by
  unfold w_Q_map
  exact ⟨⟨_, cg_0⟩, t_findn hn (Or.inl ⟨rfl, h⟩)⟩
theorem t_mapn (hp : p < 8) (hn : ¬ (0 ≤ v ∧ v ≤ 15)) (h : Q (some (.int (-1))) (cl c g s)) : w_Q_map Q c (nI p) v x (cl c g s) := by
  unfold w_Q_map
  refine ⟨⟨_, cg_0⟩, (y_find hp).mpr (Or.inr ⟨_, rfl, s_Q_isIndex.mpr ?_⟩)⟩
  rw [o15n hn]
  exact ⟨0, rfl, fun z => absurd rfl z, fun _ => h⟩
theorem isO_eq {m n : nv} (h : m 12 1 = n 15 0) : C_isO m = F_isData n := by
  unfold C_isO F_isData
  rw [h]
theorem t_task {B : Nat} (hp : p < 8) (hr : RR s a) (hj : JV B a) (h : Q (some (.int (V_task (a.1 p) x))) (cl c g s)) : w_Q_task Q c (nI p) x (cl c g s) := by
  obtain ⟨hb, hrt⟩ := (hr.1 p hp).1
  have hn := (hj.1.2.1 p hp).1
  have b1 := hb.1
  have b9 := hb.2.2.2.2.2.2.2.2.1
  have b10 := hb.2.2.2.2.2.2.2.2.2
  unfold V_task at h
  unfold w_Q_task
  refine ⟨⟨_, cg_0⟩, (y_find hp).mpr (Or.inr ⟨_, rfl, ⟨_, cn_0 hp⟩, (y_isUp hp).mpr ⟨_, rfl, fun z => ?_, fun z => ?_⟩⟩)⟩
  · have hu : ¬ a.1 p 1 0 = 1 := by
      intro hu
      rw [b1, if_pos hu] at z
      exact absurd z (by decide)
    rw [if_neg (fun w => hu w.1)] at h
    exact h
  · have hu : a.1 p 1 0 = 1 := by
      by_cases hu : a.1 p 1 0 = 1
      · exact hu
      · rw [b1, if_neg hu] at z
        exact absurd rfl z
    refine ⟨_, _, cn_0 hp, on_0_10, _, _, cn_12 hp, on_12_0, fun z0 => ?_, fun z0 => ?_⟩
    · have h14 : ¬ a.1 p 14 0 = 0 := by
        rw [← b9]
        exact z0
      obtain ⟨⟨r1, r3, r4, r7, _⟩, ⟨q5, q6, q14, _⟩⟩ := hrt h14
      have hc : a.1 p 1 0 = 1 ∧ ¬ a.1 p 14 0 = 0 := ⟨hu, h14⟩
      have h13 := hn.2.2.2.2.2.2.2.2.2.2.2.2.1 h14
      have hO : C_isO (s.1 p) = F_isData (a.1 p) := isO_eq r1
      rw [if_pos hc] at h
      unfold V_t at h
      refine ⟨_, _, cn_0 hp, on_0_10, fun e => ⟨_, _, cn_12 hp, on_12_0, ?_⟩, fun e => ⟨_, _, cn_12 hp, on_12_1, ?_⟩, fun e => ⟨_, _, cn_12 hp, on_12_2, ?_⟩, fun e => ⟨_, _, cn_12 hp, on_12_3, ?_⟩, fun e => ⟨_, _, cn_12 hp, on_12_4, ?_⟩, fun e => ⟨_, _, cn_12 hp, on_12_5, ?_⟩, fun e => ⟨_, _, cn_12 hp, on_12_6, ?_⟩, fun e => ⟨⟨_, cn_12 hp⟩, (y_isO hp).mpr ⟨_, rfl, fun z => ?_, fun z => ?_⟩⟩, fun e => ⟨⟨_, cn_12 hp⟩, (y_isO hp).mpr ⟨_, rfl, fun z => ?_, fun z => ?_⟩⟩, fun e => ⟨_, _, cn_12 hp, on_12_7, ?_⟩, fun n0 n1 n2 n3 n4 n5 n6 n7 n8 n9 => ?_⟩
      · rw [if_pos e] at h
        rw [b9]
        exact h
      · subst e
        rw [if_neg (by decide), if_pos rfl] at h
        rw [r1]
        exact h
      · subst e
        rw [if_neg (by decide), if_neg (by decide), if_pos rfl] at h
        rw [b10]
        exact h
      · subst e
        rw [if_neg (by decide), if_neg (by decide), if_neg (by decide), if_pos rfl] at h
        rw [r3]
        exact h
      · subst e
        rw [if_neg (by decide), if_neg (by decide), if_neg (by decide), if_neg (by decide), if_pos rfl] at h
        rw [r4]
        by_cases h16 : a.1 p 16 0 = 0
        · rw [if_pos h16] at h
          exact h
        · rw [if_neg h16] at h
          rw [(NI_busy hn h16).2]
          exact h
      · subst e
        rw [if_neg (by decide), if_neg (by decide), if_neg (by decide), if_neg (by decide), if_neg (by decide), if_pos rfl] at h
        rw [q5]
        exact h
      · subst e
        rw [if_neg (by decide), if_neg (by decide), if_neg (by decide), if_neg (by decide), if_neg (by decide), if_neg (by decide), if_pos rfl] at h
        rw [q6]
        exact h
      · subst e
        rw [if_neg (by decide), if_neg (by decide), if_neg (by decide), if_neg (by decide), if_neg (by decide), if_neg (by decide), if_neg (by decide), if_pos rfl] at h
        rw [hO] at z
        rw [if_pos z] at h
        exact h
      · subst e
        rw [if_neg (by decide), if_neg (by decide), if_neg (by decide), if_neg (by decide), if_neg (by decide), if_neg (by decide), if_neg (by decide), if_pos rfl] at h
        rw [hO] at z
        rw [if_neg z] at h
        have hq := hn.1.2.2.1 z
        refine ⟨_, _, cn_12 hp, on_12_13, _, _, cn_12 hp, on_12_3, ⟨_, cn_13 hp⟩, ?_⟩
        rw [r3, hn.1.1]
        refine t_num hq (cn_13 hp) on_13_0 (cn_14 hp) ⟨_, rfl, ?_⟩
        rw [(q14 _ hq).1]
        exact h
      · subst e
        rw [if_neg (by decide), if_neg (by decide), if_neg (by decide), if_neg (by decide), if_neg (by decide), if_neg (by decide), if_neg (by decide), if_neg (by decide), if_pos rfl] at h
        rw [hO] at z
        rw [if_pos z] at h
        exact h
      · subst e
        rw [if_neg (by decide), if_neg (by decide), if_neg (by decide), if_neg (by decide), if_neg (by decide), if_neg (by decide), if_neg (by decide), if_neg (by decide), if_pos rfl] at h
        rw [hO] at z
        rw [if_neg z] at h
        have hq := hn.1.2.2.1 z
        refine ⟨_, _, cn_12 hp, on_12_13, _, _, cn_12 hp, on_12_3, ⟨_, cn_13 hp⟩, ?_⟩
        rw [r3, hn.1.1]
        refine t_wri hq (cn_13 hp) on_13_1 (cn_15 hp) ⟨_, rfl, ?_⟩
        rw [(q14 _ hq).2.1]
        exact h
      · subst e
        rw [if_neg (by decide), if_neg (by decide), if_neg (by decide), if_neg (by decide), if_neg (by decide), if_neg (by decide), if_neg (by decide), if_neg (by decide), if_neg (by decide), if_pos rfl] at h
        rw [r7]
        by_cases h3 : a.1 p 15 0 = 3
        · rw [if_pos h3] at h
          exact h
        · rw [if_neg h3] at h
          rw [h13.2 h3]
          exact h
      · rw [if_neg n0, if_neg n1, if_neg n2, if_neg n3, if_neg n4, if_neg n5, if_neg n6, if_neg n7, if_neg n8, if_neg n9] at h
        exact h
    · have h14 : a.1 p 14 0 = 0 := by
        rw [← b9]
        exact z0
      rw [if_neg (fun w => w.2 h14)] at h
      exact h
theorem t_taskm (hn : ¬ (0 ≤ v ∧ v ≤ 7)) (h : Q (some (.int (-1))) (cl c g s)) : w_Q_task Q c v x (cl c g s) := by
  unfold w_Q_task
  exact ⟨⟨_, cg_0⟩, t_findn hn (Or.inl ⟨rfl, h⟩)⟩
end VIEWS
/-! message and count: the class answers as the reference -/
section VIEWS2
variable {Q : Option Value → xH → Prop} {c : Nat} {g : xH} {s : cS} {a : rA} {p q i m L : Nat} {v x y z : Int32}
theorem t_tag (hm : m < 123) (h : Q (some (.int (if s.2.1 m 0 0 = 2 ∨ s.2.1 m 0 0 = 3 then 1 else 0))) (cl c g s)) : w_Me_hasTag Q (ma c m) (cl c g s) := by
  unfold w_Me_hasTag w_Me_hasTag_16
  refine ⟨_, _, cm_0 hm, om_0_0, fun e => ⟨nb1, ?_⟩, fun e => ⟨_, _, cm_0 hm, om_0_0, fun e2 => ⟨nb0, ?_⟩, fun e2 => ⟨nb1, ?_⟩⟩⟩
  · rw [if_pos (Or.inl e)] at h
    exact h
  · rw [if_neg (fun w => w.elim e e2)] at h
    exact h
  · rw [if_pos (Or.inr e2)] at h
    exact h
theorem Vm {M : Nat → Int32} {k : Nat} (hk : k < 9) : V_message M (nI k) = M k := by
  have h1 : 0 ≤ nI k ∧ nI k ≤ 9 := by
    refine ⟨nI_nn (by omega), ?_⟩
    rw [show (9 : Int32) = nI 9 from rfl, nI_leI (by omega) (by omega)]
    omega
  have h2 : ¬ 9 ≤ nI k := by
    rw [show (9 : Int32) = nI 9 from rfl, nI_leI (by omega) (by omega)]
    omega
  unfold V_message
  rw [if_pos h1, if_neg h2, nI_cl (by omega)]
theorem Vm9 {M : Nat → Int32} : V_message M 9 = gre (fun k => M (9 + 2 * k)) 16 := by
  unfold V_message
  rw [if_pos (by decide), if_pos (by decide)]
theorem Vmn {M : Nat → Int32} (n0 : ¬ x = 0) (n1 : ¬ x = 1) (n2 : ¬ x = 2) (n3 : ¬ x = 3) (n4 : ¬ x = 4) (n5 : ¬ x = 5) (n6 : ¬ x = 6) (n7 : ¬ x = 7) (n8 : ¬ x = 8) (n9 : ¬ x = 9) : V_message M x = -1 := by
  unfold V_message
  refine if_neg (fun w => ?_)
  obtain ⟨j, hj, e⟩ := nI_of2 (M := 9) (n := 9) (by decide) (Int32.not_lt.mpr w.1) w.2
  have hh : j = 0 ∨ j = 1 ∨ j = 2 ∨ j = 3 ∨ j = 4 ∨ j = 5 ∨ j = 6 ∨ j = 7 ∨ j = 8 ∨ j = 9 := by omega
  rcases hh with z | z | z | z | z | z | z | z | z | z <;> subst z
  · exact n0 e
  · exact n1 e
  · exact n2 e
  · exact n3 e
  · exact n4 e
  · exact n5 e
  · exact n6 e
  · exact n7 e
  · exact n8 e
  · exact n9 e
theorem t_message {B : Nat} (hr : RR s a) (hj : JV B a) (hi : i < ln a) (h : Q (some (.int (V_message (a.2.1 i) x))) (cl c g s)) : w_Q_message Q c (nI i) x (cl c g s) := by
  have hl := hr.2.2.2.2.1
  have hle := hl.2
  have hL : s.2.2.1 1 = nI (ln a) := by
    rw [hr.2.2.1]
    exact hl.1
  have hm : s.2.2.2.1 i < 123 := by
    have := (hr.2.2.2.2.2.1 i (by omega)).1
    omega
  obtain ⟨m0, m2, mt, mn, mc⟩ := hr.2.2.2.2.2.2.2.2 i hi
  have hwm := (hj.1.2.2.1 i hi).1.2.2.1
  have e0 := m0 0 (by decide)
  have e1 := m0 1 (by decide)
  have e2 := m0 2 (by decide)
  have e3 := m0 3 (by decide)
  have e4 := m0 4 (by decide)
  have e5 := m0 5 (by decide)
  have eg : gre (fun k => a.2.1 i (9 + 2 * k)) 16 = gre (s.2.1 (s.2.2.2.1 i) 2) 16 := gre_congr 16 (fun k hk => ((m2 k hk).1).symm)
  unfold w_Q_message
  refine ⟨_, _, cg_0, og_0_1, ⟨_, cg_2⟩, (y_row hL hle hi).mpr (Or.inr ⟨_, rfl, ?_⟩)⟩
  generalize s.2.2.2.1 i = m at *
  have t4 : s.2.1 m 0 0 = 2 ∨ s.2.1 m 0 0 = 3 → th (a.2.1 i) < 4 := by
    rw [e0]
    exact fun w => hwm.2.2 (Or.inr w)
  refine ⟨fun e => ⟨_, _, cm_0 hm, om_0_0, ?_⟩, fun e => ⟨_, _, cm_0 hm, om_0_1, ?_⟩, fun e => ⟨_, _, cm_0 hm, om_0_2, ?_⟩, fun e => ⟨_, _, cm_0 hm, om_0_3, ?_⟩, fun e => ⟨_, _, cm_0 hm, om_0_4, ?_⟩, fun e => ⟨_, _, cm_0 hm, om_0_5, ?_⟩, fun e => ⟨⟨_, cm_0 hm⟩, t_tag hm ⟨_, rfl, fun w => ⟨_, _, cm_0 hm, om_0_6, ?_⟩, fun w => ⟨_, _, cm_0 hm, om_0_9, _, _, cm_0 hm, om_0_5, ⟨_, cm_4 hm⟩, ?_⟩⟩⟩, fun e => ⟨⟨_, cm_0 hm⟩, t_tag hm ⟨_, rfl, fun w => ⟨_, _, cm_0 hm, om_0_7, ?_⟩, fun w => ⟨_, _, cm_0 hm, om_0_9, _, _, cm_0 hm, om_0_5, ⟨_, cm_4 hm⟩, ?_⟩⟩⟩, fun e => ⟨⟨_, cm_0 hm⟩, t_tag hm ⟨_, rfl, fun w => ?_, fun w => ⟨_, _, cm_0 hm, om_0_9, _, _, cm_0 hm, om_0_5, ⟨_, cm_4 hm⟩, ?_⟩⟩⟩, fun e => ⟨_, _, cm_0 hm, om_0_8, ⟨_, cm_1 hm⟩, (s_Se_having_m hm).mpr ⟨_, rfl, y_gre.mpr ⟨_, rfl, ?_⟩⟩⟩, fun n0 n1 n2 n3 n4 n5 n6 n7 n8 n9 => ?_⟩
  · subst e
    rw [e0]
    rw [show V_message (a.2.1 i) 0 = a.2.1 i 0 from Vm (k := 0) (by decide)] at h
    exact h
  · subst e
    rw [e1]
    rw [show V_message (a.2.1 i) 1 = a.2.1 i 1 from Vm (k := 1) (by decide)] at h
    exact h
  · subst e
    rw [e2]
    rw [show V_message (a.2.1 i) 2 = a.2.1 i 2 from Vm (k := 2) (by decide)] at h
    exact h
  · subst e
    rw [e3]
    rw [show V_message (a.2.1 i) 3 = a.2.1 i 3 from Vm (k := 3) (by decide)] at h
    exact h
  · subst e
    rw [e4]
    rw [show V_message (a.2.1 i) 4 = a.2.1 i 4 from Vm (k := 4) (by decide)] at h
    exact h
  · subst e
    rw [e5]
    rw [show V_message (a.2.1 i) 5 = a.2.1 i 5 from Vm (k := 5) (by decide)] at h
    exact h
  · subst e
    have hk : ¬ (s.2.1 m 0 0 = 2 ∨ s.2.1 m 0 0 = 3) := by
      intro w2
      rw [if_pos w2] at w
      exact absurd w (by decide)
    rw [show V_message (a.2.1 i) 6 = a.2.1 i 6 from Vm (k := 6) (by decide)] at h
    rw [e0] at hk
    rw [(mn hk).1]
    exact h
  · subst e
    have hk : s.2.1 m 0 0 = 2 ∨ s.2.1 m 0 0 = 3 := by
      by_cases w2 : s.2.1 m 0 0 = 2 ∨ s.2.1 m 0 0 = 3
      · exact w2
      · rw [if_neg w2] at w
        exact absurd rfl w
    rw [show V_message (a.2.1 i) 6 = a.2.1 i 6 from Vm (k := 6) (by decide)] at h
    have h4 := t4 hk
    rw [e0] at hk
    rw [e5, hwm.1]
    refine t_num h4 (cm_4 hm) om_4_0 (cm_5 hm) ⟨_, rfl, ?_⟩
    rw [(mt hk).1]
    exact h
  · subst e
    have hk : ¬ (s.2.1 m 0 0 = 2 ∨ s.2.1 m 0 0 = 3) := by
      intro w2
      rw [if_pos w2] at w
      exact absurd w (by decide)
    rw [show V_message (a.2.1 i) 7 = a.2.1 i 7 from Vm (k := 7) (by decide)] at h
    rw [e0] at hk
    rw [(mn hk).2.1]
    exact h
  · subst e
    have hk : s.2.1 m 0 0 = 2 ∨ s.2.1 m 0 0 = 3 := by
      by_cases w2 : s.2.1 m 0 0 = 2 ∨ s.2.1 m 0 0 = 3
      · exact w2
      · rw [if_neg w2] at w
        exact absurd rfl w
    rw [show V_message (a.2.1 i) 7 = a.2.1 i 7 from Vm (k := 7) (by decide)] at h
    have h4 := t4 hk
    rw [e0] at hk
    rw [e5, hwm.1]
    refine t_wri h4 (cm_4 hm) om_4_1 (cm_6 hm) ⟨_, rfl, ?_⟩
    rw [(mt hk).2.1]
    exact h
  · subst e
    have hk : ¬ (s.2.1 m 0 0 = 2 ∨ s.2.1 m 0 0 = 3) := by
      intro w2
      rw [if_pos w2] at w
      exact absurd w (by decide)
    rw [show V_message (a.2.1 i) 8 = a.2.1 i 8 from Vm (k := 8) (by decide)] at h
    rw [e0] at hk
    rw [(mn hk).2.2] at h
    exact h
  · subst e
    have hk : s.2.1 m 0 0 = 2 ∨ s.2.1 m 0 0 = 3 := by
      by_cases w2 : s.2.1 m 0 0 = 2 ∨ s.2.1 m 0 0 = 3
      · exact w2
      · rw [if_neg w2] at w
        exact absurd rfl w
    rw [show V_message (a.2.1 i) 8 = a.2.1 i 8 from Vm (k := 8) (by decide)] at h
    have h4 := t4 hk
    rw [e0] at hk
    rw [e5, hwm.1]
    refine t_val h4 (cm_4 hm) om_4_2 (cm_7 hm) ⟨_, rfl, ?_⟩
    rw [(mt hk).2.2]
    exact h
  · subst e
    rw [Vm9, eg] at h
    exact h
  · rw [Vmn n0 n1 n2 n3 n4 n5 n6 n7 n8 n9] at h
    exact h
theorem t_messagen (hL : s.2.2.1 1 = nI L) (h120 : L ≤ 120) (hn : ¬ (0 ≤ v ∧ v ≤ nI L - 1)) (h : Q (some (.int (-1))) (cl c g s)) : w_Q_message Q c v x (cl c g s) := by
  unfold w_Q_message
  exact ⟨_, _, cg_0, og_0_1, ⟨_, cg_2⟩, (y_rown hL h120 hn).mpr (Or.inl ⟨rfl, h⟩)⟩
/-! count -/
def C_sum (s : cS) : Nat → Int32
  | 0 => 0
  | k + 1 => C_sum s k + s.1 k 0 6
def C_ups (s : cS) : Nat → Int32
  | 0 => 0
  | k + 1 => C_ups s k + (if s.1 k 0 1 = 1 then 1 else 0)
theorem lt8 {k : Nat} (hk : k < 8) : ¬ 8 ≤ nI k := by
  rw [show (8 : Int32) = nI 8 from rfl, nI_leI (by omega) (by omega)]
  omega
theorem t_sum_4 (h : Q (some (.int (C_sum s 8))) (cl c g s)) : ∀ d k, k + d = 8 → w_Q_writesOfAll_4 Q (d + 1) c (C_sum s k) (nI k) (cl c g s) := by
  intro d
  induction d with
  | zero =>
    intro k hk
    have e : k = 8 := by omega
    subst e
    rw [w_Q_writesOfAll_4]
    exact ⟨fun _ => h, fun w => absurd (by decide) w⟩
  | succ d ih =>
    intro k hk
    have hk8 : k < 8 := by omega
    rw [w_Q_writesOfAll_4]
    refine ⟨fun w => absurd w (lt8 hk8), fun _ => ⟨_, _, cg_0, og_0_0, 1, _, _, na c k, rfl, rfl, cg_1, nI_nn (by omega), ?_, _, _, cn_0 hk8, on_0_6, ?_⟩⟩
    · rw [nI_cl (by omega), rng_get hk8]
    · rw [nI_1]
      exact ih (k + 1) (by omega)
theorem t_ups_4 (h : Q (some (.int (C_ups s 8))) (cl c g s)) : ∀ d k, k + d = 8 → w_Q_nodesUp_4 Q (d + 1) c (C_ups s k) (nI k) (cl c g s) := by
  intro d
  induction d with
  | zero =>
    intro k hk
    have e : k = 8 := by omega
    subst e
    rw [w_Q_nodesUp_4]
    exact ⟨fun _ => h, fun w => absurd (by decide) w⟩
  | succ d ih =>
    intro k hk
    have hk8 : k < 8 := by omega
    have ih' := ih (k + 1) (by omega)
    rw [C_ups] at ih'
    rw [w_Q_nodesUp_4]
    refine ⟨fun w => absurd w (lt8 hk8), fun _ => ⟨_, _, cg_0, og_0_0, 1, _, _, na c k, rfl, rfl, cg_1, nI_nn (by omega), ?_, ⟨_, cn_0 hk8⟩, (y_isUp hk8).mpr ⟨_, rfl, fun w => ?_, fun w => ?_⟩⟩⟩
    · rw [nI_cl (by omega), rng_get hk8]
    · unfold w_Q_nodesUp_28
      rw [nI_1]
      have hu : ¬ s.1 k 0 1 = 1 := by
        intro hu
        rw [if_pos hu] at w
        exact absurd w (by decide)
      rw [if_neg hu] at ih'
      exact ih'
    · unfold w_Q_nodesUp_28
      rw [nI_1]
      have hu : s.1 k 0 1 = 1 := by
        by_cases hu : s.1 k 0 1 = 1
        · exact hu
        · rw [if_neg hu] at w
          exact absurd rfl w
      rw [if_pos hu] at ih'
      exact ih'
theorem sum_eq (hr : RR s a) : C_sum s 8 = s8 a.1 := by
  have e : ∀ k, k < 8 → s.1 k 0 6 = a.1 k 32 0 := fun k hk => (hr.1 k hk).1.1.2.2.2.2.2.1
  unfold s8
  simp only [C_sum, e 0 (by decide), e 1 (by decide), e 2 (by decide), e 3 (by decide), e 4 (by decide), e 5 (by decide), e 6 (by decide), e 7 (by decide)]
  rw [Int32.zero_add]
theorem ups_eq (hr : RR s a) : ∀ k, k ≤ 8 → C_ups s k = ups a.1 k := by
  intro k
  induction k with
  | zero => exact fun _ => rfl
  | succ k ih =>
    intro hk
    rw [C_ups, ups, ih (by omega), (hr.1 k (by omega)).1.1.1]
theorem t_count (hr : RR s a) (h : Q (some (.int (V_count a x))) (cl c g s)) : w_Q_count Q c x (cl c g s) := by
  unfold V_count at h
  unfold w_Q_count
  refine ⟨fun e => ⟨_, _, cg_0, og_0_1, _, _, cg_2, og_2_2, ?_⟩, fun e => ⟨_, _, cg_0, og_0_4, ?_⟩, fun e => ⟨⟨_, cg_0⟩, ?_⟩, fun e => ⟨⟨_, cg_0⟩, ?_⟩, fun e => ⟨_, _, cg_0, og_0_1, _, _, cg_2, og_2_3, ?_⟩, fun n0 n1 n2 n3 n4 => ?_⟩
  · rw [if_pos e] at h
    rw [hr.2.2.1]
    exact h
  · subst e
    rw [if_neg (by decide), if_pos rfl] at h
    rw [hr.2.1]
    exact h
  · subst e
    rw [if_neg (by decide), if_neg (by decide), if_pos rfl] at h
    unfold w_Q_writesOfAll
    refine ⟨9, t_sum_4 ⟨_, rfl, ?_⟩ 8 0 rfl⟩
    rw [sum_eq hr]
    exact h
  · subst e
    rw [if_neg (by decide), if_neg (by decide), if_neg (by decide), if_pos rfl] at h
    unfold w_Q_nodesUp
    refine ⟨9, t_ups_4 ⟨_, rfl, ?_⟩ 8 0 rfl⟩
    rw [ups_eq hr 8 (Nat.le_refl _)]
    exact h
  · subst e
    rw [if_neg (by decide), if_neg (by decide), if_neg (by decide), if_neg (by decide), if_pos rfl] at h
    rw [hr.2.2.2.1]
    exact h
  · rw [if_neg n0, if_neg n1, if_neg n2, if_neg n3, if_neg n4] at h
    exact h
end VIEWS2
/-! the class: starts, deliver -/
section CLS2
variable {Q : Option Value → xH → Prop} {c : Nat} {g : xH} {s S : cS} {a : rA} {p q i t L : Nat} {v x y z kd : Int32}
theorem t_otaskn (hn : ¬ (0 ≤ v ∧ v ≤ 7)) (h : Q (some .null) (cl c g s)) : w_Q_openTask Q c v kd x (cl c g s) := by
  unfold w_Q_openTask
  exact ⟨⟨_, cg_0⟩, (y_findn hn).mpr (Or.inl ⟨rfl, h⟩)⟩
theorem t_go (hp : p < 8) (hq : q < 16) (hk : KI S p q) (h : Q (some (.int (K_an (K_go S p) p))) (cl c g (K_go S p))) : (∃ f11, (cl c g S).2 c = some (.inr (0, f11))) ∧ w_Q_beginFirst (fun v h10 => v = none ∧ (∃ f13, h10.2 c = some (.inr (0, f13))) ∧ w_Q_settle (fun v h12 => v = none ∧ w_Q_started (fun v h14 => ∃ (x15 : Int32), v = some (.int x15) ∧ Q (some (.int x15)) h14) (na c p) h12) c (na c p) h10) c (na c p) (cl c g S) := by
  have hst := fun Q => y_set (Q := Q) (c := c) (g := g) (s := K_beg1 S p) hp hq (KI_CG hk CG_beg1)
  unfold K_an K_go at h
  refine ⟨⟨_, cg_0⟩, (y_beg1 hp hk.1 hk.2.1 hq hk.2.2.1).mpr ⟨rfl, ⟨_, cg_0⟩, ?_⟩⟩
  generalize K_set (K_beg1 S p) p = T at h hst
  rw [hst]
  refine ⟨rfl, ?_⟩
  rw [y_started hp]
  exact ⟨_, rfl, h⟩
theorem t_readn (hn : ¬ (0 ≤ x ∧ x ≤ 3)) (h : Q (some (.int (-1))) (cl c g s)) : w_Q_read Q c v x (cl c g s) := by
  unfold w_Q_read
  refine s_Q_isObject.mpr ?_
  rw [o3n hn]
  exact ⟨0, rfl, fun w => absurd rfl w, fun _ => h⟩
theorem t_readm (hq : q < 4) (hn : ¬ (0 ≤ v ∧ v ≤ 7)) (h : Q (some (.int (-1))) (cl c g s)) : w_Q_read Q c v (nI q) (cl c g s) := by
  unfold w_Q_read
  refine s_Q_isObject.mpr ?_
  rw [oO hq]
  exact ⟨1, rfl, fun _ => ⟨⟨_, cg_0⟩, t_otaskn hn (Or.inl ⟨rfl, h⟩)⟩, fun w => absurd w (by decide)⟩
theorem t_writen (hn : ¬ (0 ≤ x ∧ x ≤ 3)) (h : Q (some (.int (-1))) (cl c g s)) : w_Q_write Q c v x y (cl c g s) := by
  unfold w_Q_write
  refine s_Q_isObject.mpr ?_
  rw [o3n hn]
  exact ⟨0, rfl, fun w => absurd rfl w, fun _ => h⟩
theorem t_writem (hq : q < 4) (hn : ¬ (0 ≤ v ∧ v ≤ 7)) (h : Q (some (.int (-1))) (cl c g s)) : w_Q_write Q c v (nI q) y (cl c g s) := by
  unfold w_Q_write
  refine s_Q_isObject.mpr ?_
  rw [oO hq]
  exact ⟨1, rfl, fun _ => ⟨⟨_, cg_0⟩, t_otaskn hn (Or.inl ⟨rfl, h⟩)⟩, fun w => absurd w (by decide)⟩
theorem KI_opv {j : Nat} (hw : CW s) (hid : s.1 p 0 0 = nI p) (h2 : kd = 2 → q < 4) (hj : j ≠ 1 ∧ j ≠ 3) : KI (K_opv s p kd q j v) p q := by
  unfold K_opv
  refine KI_CG (KI_op hw hid h2) (CG_N ⟨un_nk (by decide), un_nj (Ne.symm hj.1), un_nj (Ne.symm hj.2)⟩)
theorem t_write (hp : p < 8) (hq : q < 4) (hw : CW s) (hid : s.1 p 0 0 = nI p) (h : Q (some (.int (K_write s p q v).1)) (cl c g (K_write s p q v).2)) : w_Q_write Q c (nI p) (nI q) v (cl c g s) := by
  unfold w_Q_write
  refine s_Q_isObject.mpr ?_
  rw [oO hq]
  refine ⟨1, rfl, fun _ => ⟨⟨_, cg_0⟩, ?_⟩, fun w => absurd w (by decide)⟩
  rw [y_otask hp]
  unfold K_write at h
  by_cases hf : C_free (s.1 p) = 0
  · rw [if_pos hf] at h ⊢
    exact Or.inl ⟨rfl, h⟩
  · rw [if_neg hf] at h ⊢
    refine Or.inr ⟨_, rfl, _, _, cn_0 hp, on_0_10, _, cn_12 hp, by rw [on_12_len]; decide, ?_⟩
    intro h9 e9
    rw [un_12_8 hp, sN_c] at e9
    rw [e9]
    exact t_go (S := K_opv s p 2 q 8 v) hp (show q < 16 by omega) (KI_opv hw hid (fun _ => hq) (by decide)) h
def C_conf (x y z : Int32) : Int32 := if x < 1 then 0 else if x < 256 then (if y < 1 then 0 else if bc x < y then 0 else if z < 1 then 0 else if bc x < z then 0 else if y + z ≤ bc x then 0 else 1) else 0
theorem t_conf {h0 : xH} (h : Q (some (.int (C_conf x y z))) h0) : w_Q_isConfiguration Q x y z h0 := by
  unfold C_conf at h
  unfold w_Q_isConfiguration
  refine ⟨fun e => ⟨nb0, ?_⟩, fun e => ⟨fun e2 => y_bc.mpr ⟨_, rfl, fun e3 => ⟨nb0, ?_⟩, fun e3 => ⟨fun e4 => ⟨nb0, ?_⟩, fun e4 => ⟨fun e5 => ⟨nb0, ?_⟩, fun e5 => ⟨fun e6 => ⟨nb0, ?_⟩, fun e6 => ⟨fun e7 => ⟨nb0, ?_⟩, fun e7 => ⟨nb1, ?_⟩⟩⟩⟩⟩⟩, fun e2 => ⟨nb0, ?_⟩⟩⟩
  · rw [if_pos e] at h
    exact h
  · rw [if_neg e, if_pos e2, if_pos e3] at h
    exact h
  · rw [if_neg e, if_pos e2, if_neg e3, if_pos e4] at h
    exact h
  · rw [if_neg e, if_pos e2, if_neg e3, if_neg e4, if_pos e5] at h
    exact h
  · rw [if_neg e, if_pos e2, if_neg e3, if_neg e4, if_neg e5, if_pos e6] at h
    exact h
  · rw [if_neg e, if_pos e2, if_neg e3, if_neg e4, if_neg e5, if_neg e6, if_pos e7] at h
    exact h
  · rw [if_neg e, if_pos e2, if_neg e3, if_neg e4, if_neg e5, if_neg e6, if_neg e7] at h
    exact h
  · rw [if_neg e, if_neg e2] at h
    exact h
def K_propose (s : cS) (p : Nat) (x y z : Int32) : Int32 × cS := if C_conf x y z = 0 then (-1, s) else if gre (s.1 p 6) 16 + 1 < 16 then (if C_free (s.1 p) = 0 then (-1, s) else (K_an (K_go (K_opv s p 3 ((gre (s.1 p 6) 16).toNatClampNeg + 1) 9 ((x + 256 * y) + 4096 * z)) p) p, K_go (K_opv s p 3 ((gre (s.1 p 6) 16).toNatClampNeg + 1) 9 ((x + 256 * y) + 4096 * z)) p)) else (-1, s)
/-- a node that may have a task has an index in force -/
theorem cfree_gre {n : nv} (h : ¬ C_free n = 0) : ∃ b, b < 16 ∧ gre (n 6) 16 = nI b := by
  rcases gre_some (f := n 6) 16 with e | ⟨b, hb, e, _⟩
  · exfalso
    apply h
    unfold C_free
    refine if_neg (fun w => w.2.2 ?_)
    have hg : gre (n 6) 16 < 0 := by
      rw [e]
      decide
    exact (hav_0 16 (Nat.le_refl _)).mpr (gre_0.mp hg)
  · exact ⟨b, hb, e⟩
theorem t_propose (hp : p < 8) (hw : CW s) (hid : s.1 p 0 0 = nI p) (h : Q (some (.int (K_propose s p x y z).1)) (cl c g (K_propose s p x y z).2)) : w_Q_propose Q c (nI p) x y z (cl c g s) := by
  unfold w_Q_propose
  refine ⟨⟨_, cg_0⟩, (y_find hp).mpr (Or.inr ⟨_, rfl, t_conf ⟨_, rfl, fun w => ⟨_, _, cn_0 hp, on_0_8, ⟨_, cn_5 hp⟩, (s_Se_having_n hp).mpr ⟨_, rfl, y_gre.mpr ⟨_, rfl, fun w2 => ⟨⟨_, cg_0⟩, ?_⟩, fun w2 => ?_⟩⟩⟩, fun w => ?_⟩⟩)⟩
  · unfold K_propose at h
    rw [if_neg w, if_pos w2] at h
    rw [y_otask hp]
    by_cases hf : C_free (s.1 p) = 0
    · rw [if_pos hf] at h ⊢
      exact Or.inl ⟨rfl, h⟩
    · rw [if_neg hf] at h ⊢
      obtain ⟨b, hb, eb⟩ := cfree_gre hf
      have eb2 : gre (s.1 p 6) 16 + 1 = nI ((gre (s.1 p 6) 16).toNatClampNeg + 1) := by
        rw [eb, nI_cl (by omega), nI_1]
      have hb2 : (gre (s.1 p 6) 16).toNatClampNeg + 1 < 16 := by
        rw [eb, nI_1, show (16 : Int32) = nI 16 from rfl, nI_ltI (by omega) (by omega)] at w2
        rw [eb, nI_cl (by omega)]
        exact w2
      rw [eb2]
      refine Or.inr ⟨_, rfl, _, _, cn_0 hp, on_0_10, ?_⟩
      unfold w_Q_configuration
      refine ⟨_, rfl, _, cn_12 hp, by rw [on_12_len]; decide, ?_⟩
      intro h9 e9
      rw [un_12_9 hp, sN_c] at e9
      rw [e9]
      exact t_go (S := K_opv s p 3 ((gre (s.1 p 6) 16).toNatClampNeg + 1) 9 ((x + 256 * y) + 4096 * z)) hp hb2 (KI_opv hw hid (fun w => absurd w (by decide)) (by decide)) h
  · unfold K_propose at h
    rw [if_neg w, if_neg w2] at h
    exact h
  · unfold K_propose at h
    rw [if_pos w] at h
    exact h
theorem t_proposem (hn : ¬ (0 ≤ v ∧ v ≤ 7)) (h : Q (some (.int (-1))) (cl c g s)) : w_Q_propose Q c v x y z (cl c g s) := by
  unfold w_Q_propose
  exact ⟨⟨_, cg_0⟩, t_findn hn (Or.inl ⟨rfl, h⟩)⟩
def K_retire (s : cS) (p : Nat) : Int32 × cS := if 2 ≤ bc (hav (s.1 p 6) 1 16) then (if C_free (s.1 p) = 0 then (-1, s) else (K_an (K_go (K_opv s p 4 (gre (s.1 p 6) 16).toNatClampNeg 12 (hav (s.1 p 6) 1 16 &&& (((1 : Int32) <<< (gre (s.1 p 6) 16 &&& 31)) ^^^ (-1)))) p) p, K_go (K_opv s p 4 (gre (s.1 p 6) 16).toNatClampNeg 12 (hav (s.1 p 6) 1 16 &&& (((1 : Int32) <<< (gre (s.1 p 6) 16 &&& 31)) ^^^ (-1)))) p)) else (-1, s)
theorem t_retire (hp : p < 8) (hw : CW s) (hid : s.1 p 0 0 = nI p) (h : Q (some (.int (K_retire s p).1)) (cl c g (K_retire s p).2)) : w_Q_retire Q c (nI p) (cl c g s) := by
  unfold w_Q_retire
  refine ⟨⟨_, cg_0⟩, (y_find hp).mpr (Or.inr ⟨_, rfl, _, _, cn_0 hp, on_0_8, ⟨_, cn_5 hp⟩, (s_Se_having_n hp).mpr ⟨_, rfl, y_bc.mpr ⟨_, rfl, fun w => y_gre.mpr ⟨_, rfl, ⟨_, cg_0⟩, ?_⟩, fun w => ?_⟩⟩⟩)⟩
  · unfold K_retire at h
    rw [if_pos w] at h
    rw [y_otask hp]
    by_cases hf : C_free (s.1 p) = 0
    · rw [if_pos hf] at h ⊢
      exact Or.inl ⟨rfl, h⟩
    · rw [if_neg hf] at h ⊢
      obtain ⟨b, hb, eb⟩ := cfree_gre hf
      have eb2 : gre (s.1 p 6) 16 = nI (gre (s.1 p 6) 16).toNatClampNeg := by
        rw [eb, nI_cl (by omega)]
      have hb2 : (gre (s.1 p 6) 16).toNatClampNeg < 16 := by
        rw [eb, nI_cl (by omega)]
        exact hb
      refine Or.inr ⟨_, rfl, _, _, cn_0 hp, on_0_10, _, cn_12 hp, by rw [on_12_len]; decide, ?_⟩
      intro h9 e9
      rw [un_12_12 hp, sN_c] at e9
      rw [e9]
      have key := t_go (S := K_opv s p 4 (gre (s.1 p 6) 16).toNatClampNeg 12 (hav (s.1 p 6) 1 16 &&& (((1 : Int32) <<< (gre (s.1 p 6) 16 &&& 31)) ^^^ (-1)))) hp hb2 (KI_opv hw hid (fun w => absurd w (by decide)) (by decide)) h
      unfold K_opv K_op at key
      rw [← eb2] at key
      exact key
  · unfold K_retire at h
    rw [if_neg w] at h
    exact h
theorem t_retirem (hn : ¬ (0 ≤ v ∧ v ≤ 7)) (h : Q (some (.int (-1))) (cl c g s)) : w_Q_retire Q c v (cl c g s) := by
  unfold w_Q_retire
  exact ⟨⟨_, cg_0⟩, t_findn hn (Or.inl ⟨rfl, h⟩)⟩
theorem t_crashm (hn : ¬ (0 ≤ v ∧ v ≤ 7)) (h : Q (some (.int 0)) (cl c g s)) : w_Q_crash Q c v (cl c g s) := by
  unfold w_Q_crash
  exact ⟨⟨_, cg_0⟩, t_findn hn (Or.inl ⟨rfl, nb0, h⟩)⟩
theorem t_restartm (hn : ¬ (0 ≤ v ∧ v ≤ 7)) (h : Q (some (.int 0)) (cl c g s)) : w_Q_restart Q c v (cl c g s) := by
  unfold w_Q_restart
  exact ⟨⟨_, cg_0⟩, t_findn hn (Or.inl ⟨rfl, nb0, h⟩)⟩
theorem t_armm (hn : ¬ (0 ≤ v ∧ v ≤ 7)) (h : Q (some (.int 0)) (cl c g s)) : w_Q_arm Q c v x (cl c g s) := by
  unfold w_Q_arm
  exact ⟨⟨_, cg_0⟩, t_findn hn (Or.inl ⟨rfl, nb0, h⟩)⟩
/-! deliver -/
theorem t_isA {h0 : xH} (h : Q (some (.int (C_isA x))) h0) : w_Q_isAnswer Q x h0 := by
  unfold w_Q_isAnswer
  refine ⟨fun e => ⟨nb1, ?_⟩, fun e => ⟨nb0, ?_⟩, fun e => ⟨nb1, ?_⟩, fun e => ⟨nb0, ?_⟩, fun e => ⟨nb1, ?_⟩, fun e => ⟨nb0, ?_⟩, fun e => ⟨nb1, ?_⟩, fun e => ⟨nb1, ?_⟩, fun e => ⟨nb0, ?_⟩, fun e => ⟨nb1, ?_⟩, fun e => ⟨nb0, ?_⟩, fun e => ⟨nb1, ?_⟩, fun n2 n3 n4 n5 n6 n7 n8 n9 n10 n11 n12 n13 => ⟨nb0, ?_⟩⟩
  · subst e
    exact h
  · subst e
    exact h
  · subst e
    exact h
  · subst e
    exact h
  · subst e
    exact h
  · subst e
    exact h
  · subst e
    exact h
  · subst e
    exact h
  · subst e
    exact h
  · subst e
    exact h
  · subst e
    exact h
  · subst e
    exact h
  · unfold C_isA at h
    rw [if_neg ?_] at h
    · exact h
    · rintro (w | w | w | w | w | w | w)
      · exact n2 w
      · exact n4 w
      · exact n6 w
      · exact n8 w
      · exact n9 w
      · exact n11 w
      · exact n13 w
theorem t_del100 {l1 l4 : Int32} (hi : i < 8) (ht : t < 121) (hw : CW S) (hq : q < 16) (h5 : S.2.1 t 0 5 = nI q) (hk : S.1 i 0 1 = 1 → S.2.1 t 0 0 = 1 ∨ S.2.1 t 0 0 = 3 ∨ S.2.1 t 0 0 = 5 ∨ S.2.1 t 0 0 = 7 ∨ S.2.1 t 0 0 = 10 ∨ S.2.1 t 0 0 = 12 ∨ S.2.1 t 0 0 = 14 ∨ S.2.1 t 0 0 = 15) (h : Q (some (.int 1)) (cl c g (if S.1 i 0 1 = 1 then K_rep (cM (cN S i (C_srv1 (S.1 i) (S.2.1 t))) 122 (C_srv2 (S.1 i) (S.2.1 t) (S.2.1 122))) i else S))) : w_Q_deliver_100 Q c l1 (ma c t) (na c i) l4 (cl c g S) := by
  unfold w_Q_deliver_100
  refine ⟨⟨_, cn_0 hi⟩, (y_isUp hi).mpr ⟨_, rfl, fun w => ?_, fun w => ⟨⟨_, cg_0⟩, ?_⟩⟩⟩
  · have hu : ¬ S.1 i 0 1 = 1 := by
      intro hu
      rw [if_pos hu] at w
      exact absurd w (by decide)
    rw [if_neg hu] at h
    exact h
  · have hu : S.1 i 0 1 = 1 := by
      by_cases hu : S.1 i 0 1 = 1
      · exact hu
      · rw [if_neg hu] at w
        exact absurd rfl w
    rw [if_pos hu] at h
    refine (y_serve hi (by omega) (by omega) hq h5 (hk hu)).mpr ⟨rfl, ⟨_, cg_0⟩, ?_⟩
    refine (y_rep hi ?_).mpr ⟨rfl, h⟩
    exact hw
theorem t_del70 {l1 l4 : Int32} {r : Nat} (hi : i < 8) (ht : t < 121) (hr : r < 16) (hk : KI S i r) (hq : q < 16) (h5 : S.2.1 t 0 5 = nI q) (hkd : KD (S.2.1 t 0 0)) (h : Q (some (.int 1)) (cl c g (K_d2 S i t))) : w_Q_deliver_70 Q c l1 (ma c t) (na c i) l4 (cl c g S) := by
  unfold w_Q_deliver_70
  unfold K_d2 at h
  refine ⟨⟨_, cn_0 hi⟩, (y_isUp hi).mpr ⟨_, rfl, fun w => ?_, fun w => ⟨_, _, cm_0 (by omega), om_0_0, t_isA ⟨_, rfl, fun w2 => ?_, fun w2 => ?_⟩⟩⟩⟩
  · have hu : ¬ S.1 i 0 1 = 1 := by
      intro hu
      rw [if_pos hu] at w
      exact absurd w (by decide)
    refine t_del100 hi ht hk.1 hq h5 (fun w => absurd w hu) ?_
    rw [if_neg hu] at h ⊢
    exact h
  · have hu : S.1 i 0 1 = 1 := by
      by_cases hu : S.1 i 0 1 = 1
      · exact hu
      · rw [if_neg hu] at w
        exact absurd rfl w
    rw [if_pos hu, if_pos w2] at h
    refine t_del100 hi ht hk.1 hq h5 (fun _ => kd_req hkd w2) ?_
    rw [if_pos hu]
    exact h
  · have hu : S.1 i 0 1 = 1 := by
      by_cases hu : S.1 i 0 1 = 1
      · exact hu
      · rw [if_neg hu] at w
        exact absurd rfl w
    rw [if_pos hu, if_neg w2] at h
    have hst := fun Q => y_set (Q := Q) (c := c) (g := g) (s := cN S i (C_hear (S.1 i) (S.2.1 t))) hi hr (KI_CG hk (CG_N P3_hear))
    refine (y_hear hi (by omega)).mpr ⟨rfl, ⟨_, cg_0⟩, ?_⟩
    rw [hst]
    exact ⟨rfl, h⟩
theorem t_del {r x' : Nat} (hw : ∀ x, x < 120 → s.2.2.2.1 x < 121) (hL : s.2.2.1 1 = nI L) (h120 : L ≤ 120) (hx : x' < L) (ht : s.2.2.2.2 < 121) (hp : p < 8) (hto : s.2.1 (s.2.2.2.1 x') 0 2 = nI p) (hr : r < 16) (hk : KI (K_out s x' L) p r) (hrows : ∀ y, y < 120 → (K_out s x' L).2.2.2.1 y ≠ (K_out s x' L).2.2.2.2) (hq : q < 16) (h5 : s.2.1 (s.2.2.2.1 x') 0 5 = nI q) (hkd : KD (s.2.1 (s.2.2.2.1 x') 0 0)) (h : Q (some (.int (K_del (K_out s x' L) p (K_out s x' L).2.2.2.2).1)) (cl c g (K_del (K_out s x' L) p (K_out s x' L).2.2.2.2).2)) : w_Q_deliver Q c (nI x') (cl c g s) := by
  have hm := hw x' (by omega)
  have e1 : (K_out s x' L).2.1 = s.2.1 := rfl
  have e2 : (K_out s x' L).2.2.2.2 = s.2.2.2.1 x' := rfl
  unfold w_Q_deliver
  refine ⟨_, _, cg_0, og_0_1, ⟨_, cg_2⟩, (y_out hw hL h120 hx ht).mpr (Or.inr ⟨_, rfl, ?_⟩)⟩
  rw [e2] at h hrows
  generalize s.2.2.2.1 x' = m at *
  generalize K_out s x' L = s1 at *
  rw [← e1] at hto h5 hkd
  refine ⟨_, _, cm_0 (by omega), om_0_2, ⟨_, cg_0⟩, ?_⟩
  rw [hto]
  refine (y_find hp).mpr (Or.inr ⟨_, rfl, ⟨_, cn_0 hp⟩, (y_isUp hp).mpr ⟨_, rfl, fun w => ?_, fun w => ?_⟩⟩)
  · have hu : s1.1 p 0 1 = 1 := by
      by_cases hu : s1.1 p 0 1 = 1
      · exact hu
      · rw [if_neg hu] at w
        exact absurd rfl w
    unfold K_del at h
    rw [if_pos hu] at h
    have hct := CT_d1 (s := s1) (i := p) (t := m)
    have hcp := CP_d1 (s := s1) (i := p) (t := m)
    have htk : (K_d1 s1 p m).2.1 m = s1.2.1 m := (hct.2 hk.1).2 m hm hrows
    have hk2 : KI (K_d1 s1 p m) p r := by
      obtain ⟨k1, k2, k3, k4⟩ := hk
      obtain ⟨p1, p2, p3⟩ := hcp p
      exact ⟨(hct.2 k1).1, p1.trans k2, p3.trans k3, fun w => k4 (p2 ▸ w)⟩
    have hd := fun l1 l4 => t_del70 (Q := Q) (c := c) (g := g) (l1 := l1) (l4 := l4) hp hm hr hk2 hq (by rw [htk]; exact h5) (by rw [htk]; exact hkd) h
    refine ⟨_, _, cn_0 hp, on_0_8, ⟨_, cn_5 hp⟩, (s_Se_having_n hp).mpr ⟨_, rfl, _, _, cm_0 (by omega), om_0_8, ⟨_, cn_0 hp⟩, (y_merge hp (by omega)).mpr ⟨_, rfl, fun w2 => ?_, fun w2 => ⟨⟨_, cg_0⟩, ?_⟩⟩⟩⟩
    · unfold K_d1 at hd
      rw [if_pos w2] at hd
      exact hd _ _
    · have hkm : KI (cN s1 p (C_merge (s1.1 p) (s1.2.1 m 2) (s1.2.1 m 3)).2) p r := KI_CG hk (CG_N P3_merge)
      have hlk := fun Q => y_look (Q := Q) (c := c) (g := g) (s := cN s1 p (C_merge (s1.1 p) (s1.2.1 m 2) (s1.2.1 m 3)).2) (b := hav (s1.1 p 6) 1 16) hp hr hkm
      have hst := fun Q => y_set (Q := Q) (c := c) (g := g) (s := K_look (cN s1 p (C_merge (s1.1 p) (s1.2.1 m 2) (s1.2.1 m 3)).2) p (hav (s1.1 p 6) 1 16)) hp hr (KI_CG hkm CG_look)
      unfold K_d1 at hd
      rw [if_neg w2] at hd
      rw [hlk]
      refine ⟨rfl, ⟨_, cg_0⟩, ?_⟩
      rw [hst]
      exact ⟨rfl, hd _ _⟩
  · have hu : ¬ s1.1 p 0 1 = 1 := by
      intro hu
      rw [if_pos hu] at w
      exact absurd w (by decide)
    unfold K_del at h
    rw [if_neg hu] at h
    exact h
theorem t_deln (hL : s.2.2.1 1 = nI L) (h120 : L ≤ 120) (hn : ¬ (0 ≤ v ∧ v ≤ nI L - 1)) (h : Q (some (.int (-1))) (cl c g s)) : w_Q_deliver Q c v (cl c g s) := by
  unfold w_Q_deliver
  exact ⟨_, _, cg_0, og_0_1, ⟨_, cg_2⟩, (y_outn hL h120 hn).mpr (Or.inl ⟨rfl, h⟩)⟩
end CLS2
/-! a call on both: the same answer -/
def INV (B : Nat) (s : cS) (a : rA) : Prop := RR s a ∧ JV B a ∧ CI s
def DU (WQ WM : (Option Value → xH → Prop) → xH → Prop) (B : Nat) (s : cS) (a : rA) : Prop := ∃ (s' : cS) (a' : rA) (n : Int32), INV (B + 8) s' a' ∧ (∀ (Q : Option Value → xH → Prop) (g : xH), Q (some (.int n)) (cl 1 g s') → WQ Q (cl 1 g s)) ∧ (∀ (Q : Option Value → xH → Prop) (g : xH), Q (some (.int n)) (rl 1125 g (tt a')) → WM Q (rl 1125 g (tt a)))
section DUO
variable {B : Nat} {s : cS} {a : rA} {v x y z : Int32}
theorem INV_g0 (h : INV B s a) : INV (B + 8) s (aG a 0 0) := ⟨RR_g0 h.1, JV_mono (by omega) (JV_g0 h.2.1), h.2.2⟩
theorem hL_RR (h : RR s a) : s.2.2.1 1 = nI (ln a) := by
  rw [h.2.2.1]
  exact h.2.2.2.2.1.1
theorem duo_read (hB : B < 100000) (h : INV B s a) : DU (fun Q => w_Q_read Q 1 v x) (fun Q => w_M_read Q 1125 v x) B s a := by
  obtain ⟨hr, hj, hc⟩ := h
  have hl := hr.2.2.2.2.1
  by_cases hx : 0 ≤ x ∧ x ≤ 3
  · obtain ⟨q, hq, ex⟩ := i3 hx
    by_cases hv : 0 ≤ v ∧ v ≤ 7
    · obtain ⟨p, hp, ev⟩ := i7 hv
      rw [ev, ex]
      obtain ⟨e1, e2, e3⟩ := RR_read (v := 0) (by omega) hp hq hr hj
      refine ⟨(K_read s p q).2, (A_read a p q 0).2, (K_read s p q).1, ⟨e2, JV_mono (by omega) e3, ?_⟩, fun Q g hQ => (y_read hp hq (CW_RR hr) (hr.1 p hp).2).mpr hQ, fun Q g hQ => (n_read (x := 0) hp hq hl (hj.1.2.1 p hp).1.1).mpr (by rw [← e1]; exact hQ)⟩
      unfold K_read
      split
      · exact hc
      · obtain ⟨t1, t2, t3⟩ := top_f (n := s.1 p) (tk := s.2.2.1 0 + 1) (kd := 1) (x := nI q)
        exact CI_CP (s := K_op s p 1 q) (CI_op hc (show q < 16 by omega) t3 (fun _ => hq)) CP_go
    · rw [ex]
      exact ⟨s, aG a 0 0, -1, INV_g0 ⟨hr, hj, hc⟩, fun Q g hQ => t_readm hq hv hQ, fun Q g hQ => (nb_read (x := nI q) (y := 0) (z := 0) hv).mpr hQ⟩
  · by_cases hv : 0 ≤ v ∧ v ≤ 7
    · obtain ⟨p, hp, ev⟩ := i7 hv
      rw [ev]
      exact ⟨s, aG a 0 0, -1, INV_g0 ⟨hr, hj, hc⟩, fun Q g hQ => t_readn hx hQ, fun Q g hQ => (nc_read (x := 0) hp hx).mpr hQ⟩
    · exact ⟨s, aG a 0 0, -1, INV_g0 ⟨hr, hj, hc⟩, fun Q g hQ => t_readn hx hQ, fun Q g hQ => (nb_read (y := 0) (z := 0) hv).mpr hQ⟩
theorem duo_write (hB : B < 100000) (h : INV B s a) : DU (fun Q => w_Q_write Q 1 v x y) (fun Q => w_M_write Q 1125 v x y) B s a := by
  obtain ⟨hr, hj, hc⟩ := h
  have hl := hr.2.2.2.2.1
  by_cases hx : 0 ≤ x ∧ x ≤ 3
  · obtain ⟨q, hq, ex⟩ := i3 hx
    by_cases hv : 0 ≤ v ∧ v ≤ 7
    · obtain ⟨p, hp, ev⟩ := i7 hv
      rw [ev, ex]
      obtain ⟨e1, e2, e3⟩ := RR_write (v := y) (by omega) hp hq hr hj
      refine ⟨(K_write s p q y).2, (A_write a p q y).2, (K_write s p q y).1, ⟨e2, JV_mono (by omega) e3, ?_⟩, fun Q g hQ => t_write hp hq (CW_RR hr) (hr.1 p hp).2 hQ, fun Q g hQ => (n_write hp hq hl (hj.1.2.1 p hp).1.1).mpr (by rw [← e1]; exact hQ)⟩
      unfold K_write
      split
      · exact hc
      · rw [opv_e]
        obtain ⟨t1, t2, t3⟩ := top_f (n := s.1 p) (tk := s.2.2.1 0 + 1) (kd := 2) (x := nI q)
        exact CI_CP (CI_op hc (show q < 16 by omega) ((un_nj (by decide)).trans t3) (fun _ => hq)) CP_go
    · rw [ex]
      exact ⟨s, aG a 0 0, -1, INV_g0 ⟨hr, hj, hc⟩, fun Q g hQ => t_writem hq hv hQ, fun Q g hQ => (nb_write (x := nI q) (y := y) (z := 0) hv).mpr hQ⟩
  · by_cases hv : 0 ≤ v ∧ v ≤ 7
    · obtain ⟨p, hp, ev⟩ := i7 hv
      rw [ev]
      exact ⟨s, aG a 0 0, -1, INV_g0 ⟨hr, hj, hc⟩, fun Q g hQ => t_writen hx hQ, fun Q g hQ => (nc_write hp hx).mpr hQ⟩
    · exact ⟨s, aG a 0 0, -1, INV_g0 ⟨hr, hj, hc⟩, fun Q g hQ => t_writen hx hQ, fun Q g hQ => (nb_write (z := 0) hv).mpr hQ⟩
theorem duo_again (hB : B < 100000) (h : INV B s a) : DU (fun Q => w_Q_again Q 1 v) (fun Q => w_M_again Q 1125 v) B s a := by
  obtain ⟨hr, hj, hc⟩ := h
  have hl := hr.2.2.2.2.1
  by_cases hv : 0 ≤ v ∧ v ≤ 7
  · obtain ⟨p, hp, ev⟩ := i7 hv
    rw [ev]
    obtain ⟨e1, e2, e3⟩ := RR_again (by omega) hp hr hj
    obtain ⟨q, hq, hk⟩ := CI_KI hc hr hp
    exact ⟨(K_again s p).2, (A_again a p).2, (K_again s p).1, ⟨e2, JV_mono (by omega) e3, CI_CP hc CP_again⟩, fun Q g hQ => (y_again hp hq hk).mpr hQ, fun Q g hQ => (n_again hp hl (hj.1.2.1 p hp).1.1).mpr (by rw [← e1]; exact hQ)⟩
  · exact ⟨s, aG a 0 0, -1, INV_g0 ⟨hr, hj, hc⟩, fun Q g hQ => (y_againm hv).mpr hQ, fun Q g hQ => (nb_again hv).mpr hQ⟩
theorem duo_gossip (h : INV B s a) : DU (fun Q => w_Q_gossip Q 1 v x) (fun Q => w_M_gossip Q 1125 v x) B s a := by
  obtain ⟨hr, hj, hc⟩ := h
  have hl := hr.2.2.2.2.1
  by_cases hv : 0 ≤ v ∧ v ≤ 7
  · obtain ⟨p, hp, ev⟩ := i7 hv
    rw [ev]
    by_cases hx : 0 ≤ x ∧ x ≤ 7
    · obtain ⟨q, hq, ex⟩ := i7 hx
      rw [ex]
      obtain ⟨e1, e2⟩ := RR_gossip hp hq hr
      exact ⟨(K_gossip s p q).2, (A_gossip a p (nI q)).2, (K_gossip s p q).1, ⟨e2, JV_mono (by omega) (JV_gossip hp hj), CI_CP hc CP_gossip⟩, fun Q g hQ => (y_gossip hp hq (CW_RR hr)).mpr hQ, fun Q g hQ => (n_gossip hp hl).mpr (by rw [← e1]; exact hQ)⟩
    · refine ⟨s, aG a 0 0, 0, INV_g0 ⟨hr, hj, hc⟩, fun Q g hQ => (y_gossipn hp hx).mpr hQ, fun Q g hQ => (n_gossip hp hl).mpr ?_⟩
      unfold A_gossip
      rw [if_neg (fun w => hx w.1)]
      exact hQ
  · exact ⟨s, aG a 0 0, 0, INV_g0 ⟨hr, hj, hc⟩, fun Q g hQ => (y_gossipm hv).mpr hQ, fun Q g hQ => (nb_gossip (y := 0) (z := 0) hv).mpr hQ⟩
theorem duo_join (h : INV B s a) : DU (fun Q => w_Q_join Q 1 v x) (fun Q => w_M_join Q 1125 v x) B s a := by
  obtain ⟨hr, hj, hc⟩ := h
  have hl := hr.2.2.2.2.1
  by_cases hv : 0 ≤ v ∧ v ≤ 7
  · obtain ⟨p, hp, ev⟩ := i7 hv
    rw [ev]
    by_cases hx : 0 ≤ x ∧ x ≤ 7
    · obtain ⟨q, hq, ex⟩ := i7 hx
      rw [ex]
      obtain ⟨e1, e2⟩ := RR_join hp hq hr
      exact ⟨(K_join s p q).2, (A_join a p (nI q)).2, (K_join s p q).1, ⟨e2, JV_mono (by omega) (JV_join hp hj), CI_CP hc CP_join⟩, fun Q g hQ => (y_join hp hq (CW_RR hr)).mpr hQ, fun Q g hQ => (n_join hp hl).mpr (by rw [← e1]; exact hQ)⟩
    · refine ⟨s, aG a 0 0, 0, INV_g0 ⟨hr, hj, hc⟩, fun Q g hQ => (y_joinn hp hx).mpr hQ, fun Q g hQ => (n_join hp hl).mpr ?_⟩
      unfold A_join
      rw [if_neg (fun w => hx w.1)]
      exact hQ
  · exact ⟨s, aG a 0 0, 0, INV_g0 ⟨hr, hj, hc⟩, fun Q g hQ => (y_joinm hv).mpr hQ, fun Q g hQ => (nb_join (y := 0) (z := 0) hv).mpr hQ⟩
theorem duo_lose (h : INV B s a) : DU (fun Q => w_Q_lose Q 1 v) (fun Q => w_M_lose Q 1125 v) B s a := by
  obtain ⟨hr, hj, hc⟩ := h
  have hl := hr.2.2.2.2.1
  have hL := hL_RR hr
  by_cases hv : 0 ≤ v ∧ v ≤ nI (ln a) - 1
  · obtain ⟨i, hi, ev⟩ := iL hl.2 hv
    rw [ev]
    exact ⟨K_out s i (ln a), A_lose a i, 1, ⟨RR_lose hr hi, JV_mono (by omega) (JV_lose hj hi), CI_CP hc CP_out⟩, fun Q g hQ => (y_lose (fun x hx => (hr.2.2.2.2.2.1 x hx).1) hL hl.2 hi hr.2.2.2.2.2.2.2.1).mpr hQ, fun Q g hQ => (n_lose hl hi).mpr hQ⟩
  · exact ⟨s, aG a 0 0, 0, INV_g0 ⟨hr, hj, hc⟩, fun Q g hQ => (y_losen hL hl.2 hv).mpr hQ, fun Q g hQ => (nc_lose hl hv).mpr hQ⟩
theorem duo_twice (h : INV B s a) : DU (fun Q => w_Q_twice Q 1 v) (fun Q => w_M_twice Q 1125 v) B s a := by
  obtain ⟨hr, hj, hc⟩ := h
  have hl := hr.2.2.2.2.1
  have hL := hL_RR hr
  by_cases hv : 0 ≤ v ∧ v ≤ nI (ln a) - 1
  · obtain ⟨i, hi, ev⟩ := iL hl.2 hv
    rw [ev]
    obtain ⟨e1, e2⟩ := RR_twice hr hi
    exact ⟨(K_twice s i).2, (A_twice a i).2, (K_twice s i).1, ⟨e2, JV_mono (by omega) (JV_twice hj hi), CI_CP hc CP_twice⟩, fun Q g hQ => (y_twice (fun x hx => (hr.2.2.2.2.2.1 x hx).1) hr.2.2.2.2.2.2.1 hL hl.2 hi).mpr hQ, fun Q g hQ => (n_twice hl hi).mpr (by rw [← e1]; exact hQ)⟩
  · exact ⟨s, aG a 0 0, 0, INV_g0 ⟨hr, hj, hc⟩, fun Q g hQ => (y_twicen hL hl.2 hv).mpr hQ, fun Q g hQ => (nc_twice hl hv).mpr hQ⟩
theorem duo_crash (h : INV B s a) : DU (fun Q => w_Q_crash Q 1 v) (fun Q => w_M_crash Q 1125 v) B s a := by
  obtain ⟨hr, hj, hc⟩ := h
  by_cases hv : 0 ≤ v ∧ v ≤ 7
  · obtain ⟨p, hp, ev⟩ := i7 hv
    rw [ev]
    obtain ⟨e1, e2⟩ := RR_crash hp hr
    exact ⟨(K_crash s p).2, (A_crash a p).2, (K_crash s p).1, ⟨e2, JV_mono (by omega) (JV_crash hp hj), CI_CP hc CP_crash⟩, fun Q g hQ => (y_crash hp).mpr hQ, fun Q g hQ => (n_crash hp).mpr (by rw [← e1]; exact hQ)⟩
  · exact ⟨s, aG a 0 0, 0, INV_g0 ⟨hr, hj, hc⟩, fun Q g hQ => t_crashm hv hQ, fun Q g hQ => (nb_crash hv).mpr hQ⟩
theorem duo_restart (hB : B < 100000) (h : INV B s a) : DU (fun Q => w_Q_restart Q 1 v) (fun Q => w_M_restart Q 1125 v) B s a := by
  obtain ⟨hr, hj, hc⟩ := h
  by_cases hv : 0 ≤ v ∧ v ≤ 7
  · obtain ⟨p, hp, ev⟩ := i7 hv
    rw [ev]
    obtain ⟨e1, e2⟩ := RR_restart hp hr (hj.1.2.1 p hp).1.2.2.2.2.2.2.2.2.2.1
    exact ⟨(K_restart s p).2, (A_restart a p).2, (K_restart s p).1, ⟨e2, JV_mono (by omega) (JV_restart (by omega) hp hj), CI_CP hc CP_restart⟩, fun Q g hQ => (y_restart hp).mpr hQ, fun Q g hQ => (n_restart hp).mpr (by rw [← e1]; exact hQ)⟩
  · exact ⟨s, aG a 0 0, 0, INV_g0 ⟨hr, hj, hc⟩, fun Q g hQ => t_restartm hv hQ, fun Q g hQ => (nb_restart hv).mpr hQ⟩
theorem duo_arm (hB : B < 100000) (h : INV B s a) : DU (fun Q => w_Q_arm Q 1 v x) (fun Q => w_M_arm Q 1125 v x) B s a := by
  obtain ⟨hr, hj, hc⟩ := h
  by_cases hv : 0 ≤ v ∧ v ≤ 7
  · obtain ⟨p, hp, ev⟩ := i7 hv
    rw [ev]
    obtain ⟨e1, e2⟩ := RR_arm (x := x) hp hr
    exact ⟨(K_arm s p x).2, (A_arm a p x).2, (K_arm s p x).1, ⟨e2, JV_mono (by omega) (JV_arm (by omega) hp hj), CI_CP hc CP_arm⟩, fun Q g hQ => (y_arm hp).mpr hQ, fun Q g hQ => (n_arm hp).mpr (by rw [← e1]; exact hQ)⟩
  · exact ⟨s, aG a 0 0, 0, INV_g0 ⟨hr, hj, hc⟩, fun Q g hQ => t_armm hv hQ, fun Q g hQ => (nb_arm (y := 0) (z := 0) hv).mpr hQ⟩
theorem duo_node (h : INV B s a) : DU (fun Q => w_Q_node Q 1 v x) (fun Q => w_M_node Q 1125 v x) B s a := by
  obtain ⟨hr, hj, hc⟩ := h
  by_cases hv : 0 ≤ v ∧ v ≤ 7
  · obtain ⟨p, hp, ev⟩ := i7 hv
    rw [ev]
    exact ⟨s, aG a 0 0, _, INV_g0 ⟨hr, hj, hc⟩, fun Q g hQ => t_node hp hr hQ, fun Q g hQ => (n_node hp).mpr hQ⟩
  · exact ⟨s, aG a 0 0, -1, INV_g0 ⟨hr, hj, hc⟩, fun Q g hQ => t_nodem hv hQ, fun Q g hQ => (nb_node (y := 0) (z := 0) hv).mpr hQ⟩
theorem duo_cell (h : INV B s a) : DU (fun Q => w_Q_cell Q 1 v x y) (fun Q => w_M_cell Q 1125 v x y) B s a := by
  obtain ⟨hr, hj, hc⟩ := h
  by_cases hv : 0 ≤ v ∧ v ≤ 7
  · obtain ⟨p, hp, ev⟩ := i7 hv
    rw [ev]
    by_cases hx : 0 ≤ x ∧ x ≤ 3
    · obtain ⟨q, hq, ex⟩ := i3 hx
      rw [ex]
      exact ⟨s, aG a 0 0, _, INV_g0 ⟨hr, hj, hc⟩, fun Q g hQ => t_cell hp hq hr hQ, fun Q g hQ => (n_cell hp hq).mpr hQ⟩
    · exact ⟨s, aG a 0 0, -1, INV_g0 ⟨hr, hj, hc⟩, fun Q g hQ => t_celln hp hx hQ, fun Q g hQ => (nc_cell hp hx).mpr hQ⟩
  · exact ⟨s, aG a 0 0, -1, INV_g0 ⟨hr, hj, hc⟩, fun Q g hQ => t_cellm hv hQ, fun Q g hQ => (nb_cell (z := 0) hv).mpr hQ⟩
theorem duo_map (h : INV B s a) : DU (fun Q => w_Q_map Q 1 v x y) (fun Q => w_M_map Q 1125 v x y) B s a := by
  obtain ⟨hr, hj, hc⟩ := h
  by_cases hv : 0 ≤ v ∧ v ≤ 7
  · obtain ⟨p, hp, ev⟩ := i7 hv
    rw [ev]
    by_cases hx : 0 ≤ x ∧ x ≤ 15
    · obtain ⟨q, hq, ex⟩ := i15 hx
      rw [ex]
      exact ⟨s, aG a 0 0, _, INV_g0 ⟨hr, hj, hc⟩, fun Q g hQ => t_map hp hq hr hQ, fun Q g hQ => (n_map hp hq).mpr hQ⟩
    · exact ⟨s, aG a 0 0, -1, INV_g0 ⟨hr, hj, hc⟩, fun Q g hQ => t_mapn hp hx hQ, fun Q g hQ => (nc_map hp hx).mpr hQ⟩
  · exact ⟨s, aG a 0 0, -1, INV_g0 ⟨hr, hj, hc⟩, fun Q g hQ => t_mapm hv hQ, fun Q g hQ => (nb_map (z := 0) hv).mpr hQ⟩
theorem duo_task (h : INV B s a) : DU (fun Q => w_Q_task Q 1 v x) (fun Q => w_M_task Q 1125 v x) B s a := by
  obtain ⟨hr, hj, hc⟩ := h
  by_cases hv : 0 ≤ v ∧ v ≤ 7
  · obtain ⟨p, hp, ev⟩ := i7 hv
    rw [ev]
    exact ⟨s, aG a 0 0, _, INV_g0 ⟨hr, hj, hc⟩, fun Q g hQ => t_task hp hr hj hQ, fun Q g hQ => (n_task hp (hj.1.2.1 p hp).1.1).mpr hQ⟩
  · exact ⟨s, aG a 0 0, -1, INV_g0 ⟨hr, hj, hc⟩, fun Q g hQ => t_taskm hv hQ, fun Q g hQ => (nb_task (y := 0) (z := 0) hv).mpr hQ⟩
theorem duo_message (h : INV B s a) : DU (fun Q => w_Q_message Q 1 v x) (fun Q => w_M_message Q 1125 v x) B s a := by
  obtain ⟨hr, hj, hc⟩ := h
  have hl := hr.2.2.2.2.1
  have hL := hL_RR hr
  by_cases hv : 0 ≤ v ∧ v ≤ nI (ln a) - 1
  · obtain ⟨i, hi, ev⟩ := iL hl.2 hv
    rw [ev]
    exact ⟨s, aG a 0 0, _, INV_g0 ⟨hr, hj, hc⟩, fun Q g hQ => t_message hr hj hi hQ, fun Q g hQ => (n_message hl hi).mpr hQ⟩
  · exact ⟨s, aG a 0 0, -1, INV_g0 ⟨hr, hj, hc⟩, fun Q g hQ => t_messagen hL hl.2 hv hQ, fun Q g hQ => (nc_message hl hv).mpr hQ⟩
theorem duo_count (h : INV B s a) : DU (fun Q => w_Q_count Q 1 v) (fun Q => w_M_count Q 1125 v) B s a := by
  obtain ⟨hr, hj, hc⟩ := h
  exact ⟨s, aG a 0 0, _, INV_g0 ⟨hr, hj, hc⟩, fun Q g hQ => t_count hr hQ, fun Q g hQ => n_count.mpr hQ⟩
theorem duo_deliver (hB : B < 100000) (h : INV B s a) : DU (fun Q => w_Q_deliver Q 1 v) (fun Q => w_M_deliver Q 1125 v) B s a := by
  obtain ⟨hr, hj, hc⟩ := h
  have hl := hr.2.2.2.2.1
  have hL := hL_RR hr
  by_cases hv : 0 ≤ v ∧ v ≤ nI (ln a) - 1
  · obtain ⟨i, hi, ev⟩ := iL hl.2 hv
    rw [ev]
    obtain ⟨⟨kd, ⟨f, p, hf, hp, hft, ef, ep⟩, hwm, hs, _⟩, _⟩ := hj.1.2.2.1 i hi
    have hrm := hr.2.2.2.2.2.2.2.2 i hi
    obtain ⟨e1, e2, e3⟩ := RR_deliver (by omega) hp hr hj hi ep
    obtain ⟨r1, _⟩ := RR_now hr hi
    obtain ⟨r, hr16, hk⟩ := CI_KI (CI_CP hc (CP_out (x := i) (L := ln a))) r1 hp
    refine ⟨_, _, _, ⟨e2, JV_mono (by omega) e3, CI_CP hc (CP_trans CP_out CP_del)⟩, fun Q g hQ => t_del (fun x hx => (hr.2.2.2.2.2.1 x hx).1) hL hl.2 hi hr.2.2.2.2.2.2.2.1 hp ((hrm.1 2 (by decide)).trans ep) hr16 hk (fun y hy => (r1.2.2.2.2.2.1 y hy).2) hwm.2.1 ((hrm.1 5 (by decide)).trans hwm.1) (by rw [hrm.1 0 (by decide)]; exact kd) hQ, fun Q g hQ => ?_⟩
    obtain ⟨iv1, lq1⟩ := IV_now hj.1 hi
    have afm := AF_merges (a := A_now a i) (p := p)
    have hw3 : ∀ k, k < 16 → S3 ((A_now a i).2.2.1 (9 + 2 * k)) := lq1.1.2.2.2.1
    have ivm := IV_merges (by omega) hp iv1 hw3
    have to1 : (A_now a i).2.2.1 2 = nI p := by
      show cpW a.2.2.1 (a.2.1 i) 53 2 = nI p
      rw [cpW_lt (by decide), ep]
    have lq2 : LQ (B + 3) (A_merges (A_now a i) p).1 (A_now a i).2.2.1 := by
      rcases ivm.2.2.2 with w | w
      · exfalso
        have kd := lq1.1.1
        unfold KD at kd
        rw [w] at kd
        exact absurd kd (by decide)
      · exact w
    refine (n_deliver hp hl hi ep (hj.1.2.1 p hp).1.1 (by rw [afm.1]; exact lq1.1.2.2.1) ?_ (by rw [afm.1]; exact lq1.1.1)).mpr (by rw [← e1]; exact hQ)
    rw [afm.1]
    intro hcn h2
    have hn := (ivm.2.1 p hp).1
    obtain ⟨c16, c3, c4, _⟩ := cnt_ne hcn
    have n16 : ¬ (A_merges (A_now a i) p).1 p 16 0 = 0 := fun w => c16 (by rw [w]; exact Int32.le_refl _)
    have hu : (A_merges (A_now a i) p).1 p 1 0 = 1 := by
      by_cases hu : (A_merges (A_now a i) p).1 p 1 0 = 1
      · exact hu
      · exact absurd (hn.2.2.2.2.2.2.2.2.1 hu).1 n16
    obtain ⟨_, _, z3⟩ := lq2.2.2 p hp h2 to1
    obtain ⟨_, y2⟩ := z3 c3 hu
    exact hn.1.2.2.1 (y2 c4 n16).1
  · exact ⟨s, aG a 0 0, -1, INV_g0 ⟨hr, hj, hc⟩, fun Q g hQ => t_deln hL hl.2 hv hQ, fun Q g hQ => (nc_deliver hl hv).mpr hQ⟩
end DUO
/-! propose: class and reference -/
theorem RB_y {x y : nv} {k : Nat} {v : Int32} (h : RB x y) (hk : k = 24 ∨ k = 22) : RB x (un y k 0 v) := by
  unfold RB at *
  simp (disch := omega) only [un_nk]
  exact h
theorem conf_ok {x y z : Int32} : C_conf x y z = 0 ↔ (¬ (1 ≤ y ∧ y ≤ (if 1 ≤ x ∧ x ≤ 255 then mny x 8 else 0)) ∨ ¬ (1 ≤ z ∧ z ≤ (if 1 ≤ x ∧ x ≤ 255 then mny x 8 else 0)) ∨ y + z ≤ (if 1 ≤ x ∧ x ≤ 255 then mny x 8 else 0)) := by
  unfold C_conf
  by_cases h1 : x < 1
  · rw [if_pos h1, if_neg (fun w => Int32.not_lt.mpr w.1 h1)]
    refine ⟨fun _ => Or.inl (fun w => ?_), fun _ => rfl⟩
    exact absurd (Int32.le_trans w.1 w.2) (by decide)
  · have h1' : 1 ≤ x := Int32.not_lt.mp h1
    rw [if_neg h1]
    by_cases h2 : x < 256
    · have h0 : 0 ≤ x := Int32.le_trans (by decide) h1'
      obtain ⟨j, hj, e⟩ := nI_of2 (M := 256) (n := 256) (by decide) (Int32.not_lt.mpr h0) (Int32.le_of_lt h2)
      have hj2 : j < 256 := by
        rw [e, show (256 : Int32) = nI 256 from rfl, nI_ltI (by omega) (by omega)] at h2
        exact h2
      have h3 : x ≤ 255 := by
        rw [e, show (255 : Int32) = nI 255 from rfl, nI_leI (by omega) (by omega)]
        omega
      have eb : bc x = mny x 8 := by
        rw [e]
        exact bc8a j hj2
      rw [if_pos h2, if_pos ⟨h1', h3⟩, eb]
      generalize mny x 8 = m
      by_cases k1 : y < 1
      · rw [if_pos k1]
        exact ⟨fun _ => Or.inl (fun w => Int32.not_lt.mpr w.1 k1), fun _ => rfl⟩
      · rw [if_neg k1]
        by_cases k2 : m < y
        · rw [if_pos k2]
          exact ⟨fun _ => Or.inl (fun w => Int32.not_lt.mpr w.2 k2), fun _ => rfl⟩
        · rw [if_neg k2]
          by_cases k3 : z < 1
          · rw [if_pos k3]
            exact ⟨fun _ => Or.inr (Or.inl (fun w => Int32.not_lt.mpr w.1 k3)), fun _ => rfl⟩
          · rw [if_neg k3]
            by_cases k4 : m < z
            · rw [if_pos k4]
              exact ⟨fun _ => Or.inr (Or.inl (fun w => Int32.not_lt.mpr w.2 k4)), fun _ => rfl⟩
            · rw [if_neg k4]
              by_cases k5 : y + z ≤ m
              · rw [if_pos k5]
                exact ⟨fun _ => Or.inr (Or.inr k5), fun _ => rfl⟩
              · rw [if_neg k5]
                refine ⟨fun w => absurd w (by decide), fun w => ?_⟩
                rcases w with w | w | w
                · exact absurd ⟨Int32.not_lt.mp k1, Int32.not_lt.mp k2⟩ w
                · exact absurd ⟨Int32.not_lt.mp k3, Int32.not_lt.mp k4⟩ w
                · exact absurd w k5
    · have h3 : ¬ (1 ≤ x ∧ x ≤ 255) := fun w => h2 (Int32.lt_of_le_of_lt w.2 (by decide))
      rw [if_neg h2, if_neg h3]
      refine ⟨fun _ => Or.inl (fun w => ?_), fun _ => rfl⟩
      exact absurd (Int32.le_trans w.1 w.2) (by decide)
theorem P_ok_0 {n : nv} {x y m : Int32} (h : F_isFree n = 0 ∨ ¬ (1 ≤ x ∧ x ≤ m) ∨ ¬ (1 ≤ y ∧ y ≤ m) ∨ x + y ≤ m ∨ gre (n 9) 16 = 15) : P_ok n x y m = 0 := if_pos h
theorem P_ok_1 {n : nv} {x y m : Int32} (h : ¬ (F_isFree n = 0 ∨ ¬ (1 ≤ x ∧ x ≤ m) ∨ ¬ (1 ≤ y ∧ y ≤ m) ∨ x + y ≤ m ∨ gre (n 9) 16 = 15)) : ¬ P_ok n x y m = 0 := by
  unfold P_ok
  rw [if_neg h]
  decide
theorem RR_propose {B p : Nat} {s : cS} {a : rA} {x y z : Int32} (hB : B < 134217500) (hp : p < 8) (hr : RR s a) (hj : JV B a) : (K_propose s p x y z).1 = (A_propose a p x y z).1 ∧ RR (K_propose s p x y z).2 (A_propose a p x y z).2 ∧ JV (B + 4) (A_propose a p x y z).2 := by
  have hrn := (hr.1 p hp).1
  have hfe := free_eq hrn.1
  have hn := (hj.1.2.1 p hp).1
  have eg : gre (s.1 p 6) 16 = gre (a.1 p 9) 16 := gre_congr 16 (fun k hk => (hrn.1.2.2.2.2.2.2.2.1 k hk).1)
  have hco := conf_ok (x := x) (y := y) (z := z)
  have hbad : (-1 : Int32) = (-1 : Int32) ∧ RR s (aG a 0 0) ∧ JV (B + 4) (aG a 0 0) := ⟨rfl, RR_g0 hr, JV_mono (by omega) (JV_g0 hj)⟩
  unfold K_propose A_propose
  rw [eg]
  by_cases hc : C_conf x y z = 0
  · rw [if_pos hc, if_pos (P_ok_0 (Or.inr ?_))]
    · exact hbad
    · rcases hco.mp hc with w | w | w
      · exact Or.inl w
      · exact Or.inr (Or.inl w)
      · exact Or.inr (Or.inr (Or.inl w))
  · have hc' := fun w => hc (hco.mpr w)
    rw [if_neg hc]
    by_cases hf : C_free (s.1 p) = 0
    · rw [if_pos hf, if_pos (P_ok_0 (Or.inl (hfe.mp hf)))]
      split <;> exact hbad
    · have hf2 : ¬ F_isFree (a.1 p) = 0 := fun w => hf (hfe.mpr w)
      obtain ⟨b, hb, eb, b1, bj, hu, h16⟩ := free_gre hf2
      by_cases hb15 : b = 15
      · have e15 : gre (a.1 p 9) 16 = 15 := by
          rw [eb, hb15]
          rfl
        rw [if_neg (by rw [e15]; decide), if_pos (P_ok_0 (Or.inr (Or.inr (Or.inr (Or.inr e15)))))]
        exact hbad
      · have n15 : ¬ gre (a.1 p 9) 16 = 15 := by
          rw [eb, show (15 : Int32) = nI 15 from rfl, nI_eq (by omega) (by omega)]
          exact hb15
        have hlt : gre (a.1 p 9) 16 + 1 < 16 := by
          rw [eb, nI_1, show (16 : Int32) = nI 16 from rfl, nI_ltI (by omega) (by omega)]
          omega
        rw [if_pos hlt, if_neg hf, if_neg (P_ok_1 ?_)]
        · have et : s.2.2.1 0 = a.2.2.2 1 := hr.2.1
          have eb2 : (gre (a.1 p 9) 16).toNatClampNeg = b := by
            rw [eb, nI_cl (by omega)]
          rw [opv_e, et, eb2]
          have ebs : un (a.1 p) 24 0 (gre (a.1 p 9) 16) = un (a.1 p) 24 0 (nI b) := by rw [eb]
          rw [ebs]
          obtain ⟨t1, t2, t3⟩ := top_f (n := s.1 p) (tk := a.2.2.2 1 + 1) (kd := 3) (x := nI (b + 1))
          obtain ⟨g4, g7, g8, g9, g12⟩ := top_g (n := s.1 p) (tk := a.2.2.2 1 + 1) (kd := 3) (x := nI (b + 1))
          exact RR_sts (v := x + 256 * y + 4096 * z) (x := un (C_topen (s.1 p) (a.2.2.2 1 + 1) 3 (nI (b + 1))) 12 9 (x + 256 * y + 4096 * z)) (b := un (a.1 p) 24 0 (nI b)) hB hp hr hj (NQ_bs hn hb) (by rw [un_nk (by decide)]; exact hu) (by rw [un_nk (by decide)]; exact h16) (show b + 1 < 16 by omega) (fun w => absurd w (by decide)) (Or.inr (Or.inr (Or.inl rfl))) (RB_12 (RB_st (RB_y hrn.1 (Or.inl rfl)) (by rw [un_nk (by decide)]; exact h16)) (by decide)) (RT_st ((un_nj (by decide)).trans t2) ((un_nj (by decide)).trans t3) ((un_nj (by decide)).trans g4) ((un_nj (by decide)).trans g7) (fun w => absurd w (by decide)) (fun _ => un_eq) (fun w => absurd w (by decide))) ((un_nk (by decide)).trans (t1.trans (hr.1 p hp).2)) (fun _ => by unfold bs; rw [un_eq, nI_cl (by omega)]) (fun _ => by rw [un_nk (by decide)]; exact bj (b + 1) (by omega) (by omega)) (fun w => absurd w (by decide))
        · rintro (w | w | w | w | w)
          · exact hf2 w
          · exact hc' (Or.inl w)
          · exact hc' (Or.inr (Or.inl w))
          · exact hc' (Or.inr (Or.inr w))
          · exact n15 w
theorem duo_propose {B : Nat} {s : cS} {a : rA} {v x y z : Int32} (hB : B < 100000) (h : INV B s a) : DU (fun Q => w_Q_propose Q 1 v x y z) (fun Q => w_M_propose Q 1125 v x y z) B s a := by
  obtain ⟨hr, hj, hc⟩ := h
  have hl := hr.2.2.2.2.1
  by_cases hv : 0 ≤ v ∧ v ≤ 7
  · obtain ⟨p, hp, ev⟩ := i7 hv
    rw [ev]
    obtain ⟨e1, e2, e3⟩ := RR_propose (x := x) (y := y) (z := z) (by omega) hp hr hj
    refine ⟨(K_propose s p x y z).2, (A_propose a p x y z).2, (K_propose s p x y z).1, ⟨e2, JV_mono (by omega) e3, ?_⟩, fun Q g hQ => t_propose hp (CW_RR hr) (hr.1 p hp).2 hQ, fun Q g hQ => (n_propose hp hl (hj.1.2.1 p hp).1.1).mpr (by rw [← e1]; exact hQ)⟩
    unfold K_propose
    split
    · exact hc
    · split
      · rename_i hlt
        split
        · exact hc
        · rename_i hf
          obtain ⟨b, hb, eb⟩ := cfree_gre hf
          have hb2 : (gre (s.1 p 6) 16).toNatClampNeg + 1 < 16 := by
            rw [eb, nI_1, show (16 : Int32) = nI 16 from rfl, nI_ltI (by omega) (by omega)] at hlt
            rw [eb, nI_cl (by omega)]
            exact hlt
          rw [opv_e]
          obtain ⟨t1, t2, t3⟩ := top_f (n := s.1 p) (tk := s.2.2.1 0 + 1) (kd := 3) (x := nI ((gre (s.1 p 6) 16).toNatClampNeg + 1))
          refine CI_CP (CI_op hc hb2 ((un_nj (by decide)).trans t3) (fun w => ?_)) CP_go
          rw [un_nj (by decide), t2] at w
          exact absurd w (by decide)
      · exact hc
  · exact ⟨s, aG a 0 0, -1, INV_g0 ⟨hr, hj, hc⟩, fun Q g hQ => t_proposem hv hQ, fun Q g hQ => (nb_propose hv).mpr hQ⟩
/-! retire: class and reference -/
def cnt (f : Nat → Int32) : Nat → Nat
  | 0 => 0
  | k + 1 => cnt f k + (if f k = 1 then 1 else 0)
theorem cnt_le {f : Nat → Int32} : ∀ k, cnt f k ≤ k := by
  intro k
  induction k with
  | zero => exact Nat.le_refl _
  | succ k ih =>
    rw [cnt]
    split <;> omega
theorem cnt_mono {f : Nat → Int32} {k : Nat} : ∀ m, cnt f k ≤ cnt f (k + m) := by
  intro m
  induction m with
  | zero => exact Nat.le_refl _
  | succ m ih =>
    rw [show k + (m + 1) = (k + m) + 1 from rfl, cnt]
    omega
theorem mny_hav {f : Nat → Int32} : ∀ k, k ≤ 16 → mny (hav f 1 16) k = nI (cnt f k) := by
  intro k
  induction k with
  | zero => exact fun _ => rfl
  | succ k ih =>
    intro hk
    rw [mny, cnt, ih (by omega)]
    unfold bt
    rw [hav_bit 16 (Nat.le_refl _) k (by omega)]
    by_cases c : f k = 1
    · rw [if_pos ⟨by omega, c⟩, if_pos c, nI_1]
    · rw [if_neg (fun w => c w.2), if_neg c]
      exact Int32.add_zero _
/-- two indexes in force, or not -/
theorem cnt_two {f : Nat → Int32} {b : Nat} (hb : b < 16) (eb : f b = 1) (hh : ∀ j, b < j → j < 16 → ¬ f j = 1) : (2 ≤ cnt f 16) ↔ ¬ lst f 16 = gre f 16 := by
  have top : ∀ m, b + 1 + m ≤ 16 → cnt f (b + 1 + m) = cnt f (b + 1) := by
    intro m
    induction m with
    | zero => exact fun _ => rfl
    | succ m ih =>
      intro hm
      rw [show b + 1 + (m + 1) = (b + 1 + m) + 1 from rfl, cnt, ih (by omega), if_neg (hh _ (by omega) (by omega))]
  have e16 : cnt f 16 = cnt f b + 1 := by
    have := top (16 - (b + 1)) (by omega)
    rw [show b + 1 + (16 - (b + 1)) = 16 by omega] at this
    rw [this, cnt, if_pos eb]
  have eg := gre_at hb eb hh
  constructor
  · intro h2 he
    have low : ∀ j, j < b → ¬ f j = 1 := by
      intro j hj hf
      have key : ∀ i, i ≤ j → f i = 1 → (∀ i', i' < i → ¬ f i' = 1) → False := by
        intro i hi hfi hlow
        have := lst_at (by omega) hfi hlow
        rw [this, eg, nI_eq (by omega) (by omega)] at he
        omega
      have ind : ∀ i, i ≤ j + 1 → ∀ i', i' < i → ¬ f i' = 1 := by
        intro i
        induction i with
        | zero => exact fun _ i' hi' => absurd hi' (Nat.not_lt_zero _)
        | succ i ih =>
          intro hi i' hi' hf'
          by_cases e : i' = i
          · rw [e] at hf'
            exact key i (by omega) hf' (ih (by omega))
          · exact ih (by omega) i' (by omega) hf'
      exact ind (j + 1) (Nat.le_refl _) j (by omega) hf
    have c0 : ∀ k, k ≤ b → cnt f k = 0 := by
      intro k
      induction k with
      | zero => exact fun _ => rfl
      | succ k ih =>
        intro hk
        rw [cnt, ih (by omega), if_neg (low k (by omega))]
    rw [e16, c0 b (Nat.le_refl _)] at h2
    omega
  · intro hne
    refine Classical.byContradiction (fun h2 => hne ?_)
    have c0 : cnt f b = 0 := by omega
    have low : ∀ j, j < b → ¬ f j = 1 := by
      intro j hj hf
      have h1 : cnt f (j + 1) ≤ cnt f b := by
        have := cnt_mono (f := f) (k := j + 1) (b - (j + 1))
        rw [show j + 1 + (b - (j + 1)) = b by omega] at this
        exact this
      rw [cnt, if_pos hf] at h1
      omega
    rw [lst_at hb eb low, eg]
/-- the indexes in force but for the greatest -/
theorem hav_old {f : Nat → Int32} {b : Nat} (hb : b < 16) (eb : f b = 1) (hh : ∀ j, b < j → j < 16 → ¬ f j = 1) : hav f 1 16 &&& (((1 : Int32) <<< (nI b &&& 31)) ^^^ (-1)) = oldW f b := by
  have top : ∀ m, b + 1 + m ≤ 16 → hav f 1 (b + 1 + m) = hav f 1 (b + 1) := by
    intro m
    induction m with
    | zero => exact fun _ => rfl
    | succ m ih =>
      intro hm
      rw [show b + 1 + (m + 1) = (b + 1 + m) + 1 from rfl, hav, if_neg (hh _ (by omega) (by omega)), ih (by omega)]
  have e16 : hav f 1 16 = hav f 1 b ||| ((1 : Int32) <<< (nI b &&& 31)) := by
    have := top (16 - (b + 1)) (by omega)
    rw [show b + 1 + (16 - (b + 1)) = 16 by omega] at this
    rw [this, hav, if_pos eb]
  have dis : ∀ j, j < 16 → ∀ k, k < 16 → j ≠ k → ((1 : Int32) <<< (nI j &&& 31)) &&& (((1 : Int32) <<< (nI k &&& 31)) ^^^ (-1)) = (1 : Int32) <<< (nI j &&& 31) := by decide +kernel
  have slf : ∀ k, k < 16 → ((1 : Int32) <<< (nI k &&& 31)) &&& (((1 : Int32) <<< (nI k &&& 31)) ^^^ (-1)) = 0 := by decide +kernel
  have low : ∀ k, k ≤ b → hav f 1 k &&& (((1 : Int32) <<< (nI b &&& 31)) ^^^ (-1)) = oldW f k := by
    intro k
    induction k with
    | zero => exact fun _ => Int32.zero_and
    | succ k ih =>
      intro hk
      rw [hav, oldW]
      by_cases c : f k = 1
      · rw [if_pos c, if_pos c, and_or_r, ih (by omega), dis k (by omega) b hb (by omega)]
      · rw [if_neg c, if_neg c, ih (by omega), Int32.or_zero]
  rw [e16, and_or_r, low b (Nat.le_refl _), slf b hb, Int32.or_zero]
/-! how many bits: sixteen -/
theorem land_n {a b : Nat} (ha : a < 4294967296) (hb : b < 4294967296) : nI a &&& nI b = nI (a &&& b) := by
  apply Int32.toBitVec_inj.mp
  apply BitVec.eq_of_toNat_eq
  rw [Int32.toBitVec_and, BitVec.toNat_and, pk_tn ha, pk_tn hb, pk_tn (Nat.lt_of_le_of_lt Nat.and_le_left ha)]
theorem ush_n {m k : Nat} {s : UInt32} (h : m < 4294967296) (hs : (s.toBitVec % 32).toNat = k) : ((nI m).toUInt32 >>> s).toInt32 = nI (m / 2 ^ k) := by
  apply Int32.toBitVec_inj.mp
  apply BitVec.eq_of_toNat_eq
  rw [pk_tn (Nat.lt_of_le_of_lt (Nat.div_le_self _ _) h)]
  show ((nI m).toUInt32 >>> s).toBitVec.toNat = _
  rw [UInt32.toBitVec_shiftRight, BitVec.ushiftRight_eq', BitVec.toNat_ushiftRight, hs, Nat.shiftRight_eq_div_pow]
  show (nI m).toBitVec.toNat / _ = _
  rw [pk_tn h]
def bA1 (m : Nat) : Nat := Nat.sub m (Nat.land (Nat.div m 2) 1431655765)
def bA2 (y : Nat) : Nat := Nat.add (Nat.land y 858993459) (Nat.land (Nat.div y 4) 858993459)
def bA3 (z : Nat) : Nat := Nat.land (Nat.add z (Nat.div z 16)) 252645135
def bA4 (i : Nat) : Nat := Nat.add i (Nat.div i 256)
def bA5 (i : Nat) : Nat := Nat.add i (Nat.div i 65536)
def bAN (m : Nat) : Nat := Nat.land (bA5 (bA4 (bA3 (bA2 (bA1 m))))) 63
def cA1 (x : Int32) : Int32 := x - (((x.toUInt32 >>> ((1 : Int32).toUInt32 &&& Int32.toUInt32 31)).toInt32) &&& 1431655765)
def cA2 (x : Int32) : Int32 := (x &&& 858993459) + (((x.toUInt32 >>> ((2 : Int32).toUInt32 &&& Int32.toUInt32 31)).toInt32) &&& 858993459)
def cA3 (x : Int32) : Int32 := (x + ((x.toUInt32 >>> ((4 : Int32).toUInt32 &&& Int32.toUInt32 31)).toInt32)) &&& 252645135
def cA4 (x : Int32) : Int32 := x + ((x.toUInt32 >>> ((8 : Int32).toUInt32 &&& Int32.toUInt32 31)).toInt32)
def cA5 (x : Int32) : Int32 := x + ((x.toUInt32 >>> ((16 : Int32).toUInt32 &&& Int32.toUInt32 31)).toInt32)
theorem bc_c {x : Int32} : bc x = cA5 (cA4 (cA3 (cA2 (cA1 x)))) &&& 63 := rfl
theorem bA1_le {m : Nat} : bA1 m ≤ m := Nat.sub_le _ _
theorem bA2_le {m : Nat} : bA2 m ≤ m + m / 4 := Nat.add_le_add Nat.and_le_left Nat.and_le_left
theorem bA3_le {m : Nat} : bA3 m ≤ m + m / 16 := Nat.and_le_left
theorem cA1_n {m : Nat} (h : m < 1048576) : cA1 (nI m) = nI (bA1 m) := by
  unfold cA1
  rw [ush_n (k := 1) (by omega) (by decide), show (1431655765 : Int32) = nI 1431655765 from rfl, land_n (by omega) (by decide), pk_sub]
  · rfl
  · exact Nat.le_trans Nat.and_le_left (Nat.div_le_self _ _)
theorem cA2_n {m : Nat} (h : m < 1048576) : cA2 (nI m) = nI (bA2 m) := by
  unfold cA2
  rw [ush_n (k := 2) (by omega) (by decide), show (858993459 : Int32) = nI 858993459 from rfl, land_n (by omega) (by decide), land_n (by omega) (by decide), nI_add]
  rfl
theorem cA3_n {m : Nat} (h : m < 1048576) : cA3 (nI m) = nI (bA3 m) := by
  unfold cA3
  rw [ush_n (k := 4) (by omega) (by decide), nI_add, show (252645135 : Int32) = nI 252645135 from rfl, land_n (by omega) (by decide)]
  rfl
theorem cA4_n {m : Nat} (h : m < 1048576) : cA4 (nI m) = nI (bA4 m) := by
  unfold cA4
  rw [ush_n (k := 8) (by omega) (by decide), nI_add]
  rfl
theorem cA5_n {m : Nat} (h : m < 1048576) : cA5 (nI m) = nI (bA5 m) := by
  unfold cA5
  rw [ush_n (k := 16) (by omega) (by decide), nI_add]
  rfl
theorem bc_n {m : Nat} (h : m < 65536) : bc (nI m) = nI (bAN m) := by
  have h1 : bA1 m < 65536 := Nat.lt_of_le_of_lt bA1_le h
  have h2 : bA2 (bA1 m) < 131072 := by
    have := bA2_le (m := bA1 m)
    omega
  have h3 : bA3 (bA2 (bA1 m)) < 262144 := by
    have := bA3_le (m := bA2 (bA1 m))
    omega
  have h4 : bA4 (bA3 (bA2 (bA1 m))) < 524288 := by
    show bA3 (bA2 (bA1 m)) + bA3 (bA2 (bA1 m)) / 256 < 524288
    omega
  have h5 : bA5 (bA4 (bA3 (bA2 (bA1 m)))) < 1048576 := by
    show bA4 (bA3 (bA2 (bA1 m))) + bA4 (bA3 (bA2 (bA1 m))) / 65536 < 1048576
    omega
  rw [bc_c, cA1_n (by omega), cA2_n (by omega), cA3_n (by omega), cA4_n (by omega), cA5_n (by omega), show (63 : Int32) = nI 63 from rfl, land_n (by omega) (by decide)]
  rfl
def mnyN (m : Nat) : Nat → Nat
  | 0 => 0
  | k + 1 => Nat.add (mnyN m k) (Nat.mod (Nat.div m (Nat.pow 2 k)) 2)
theorem shN : ∀ k, k < 16 → ((nI k &&& 31).toBitVec.smod 32).toNat = k := by decide
theorem mny_n {m : Nat} (hm : m < 65536) : ∀ k, k ≤ 16 → mny (nI m) k = nI (mnyN m k) := by
  intro k
  induction k with
  | zero => exact fun _ => rfl
  | succ k ih =>
    intro hk
    rw [mny, ih (by omega)]
    unfold bt
    rw [pk_shrN (by omega) (nI k &&& 31) k (shN k (by omega)), pk_andN (k := 1) (Nat.lt_of_le_of_lt (Nat.div_le_self _ _) (by omega)) (by decide), nI_add]
    rfl
def mA16 (m : Nat) : Nat := mnyN m 16
set_option maxRecDepth 100000 in
theorem b_all : ∀ h, h < 256 → ∀ l, l < 256 → bAN (Nat.add (Nat.mul 256 h) l) = mA16 (Nat.add (Nat.mul 256 h) l) := by decide +kernel
theorem bc16 {x : Int32} (h : x &&& 65535 = x) : bc x = mny x 16 := by
  obtain ⟨j, hj, e⟩ := pk_andE x (m := 65535) 16 (by decide)
  rw [h] at e
  rw [e, bc_n hj, mny_n hj 16 (Nat.le_refl _)]
  have := b_all (j / 256) (by omega) (j % 256) (Nat.mod_lt _ (by decide))
  have ej : Nat.add (Nat.mul 256 (j / 256)) (j % 256) = j := Nat.div_add_mod j 256
  rw [ej] at this
  rw [this]
  rfl
/-! retire: class and reference, second part -/
theorem one_16 : ∀ k, k < 16 → ((1 : Int32) <<< (nI k &&& 31)) &&& 65535 = (1 : Int32) <<< (nI k &&& 31) := by decide
theorem hav_16 {f : Nat → Int32} {w : Int32} : ∀ k, k ≤ 16 → hav f w k &&& 65535 = hav f w k := by
  intro k
  induction k with
  | zero => exact fun _ => by decide
  | succ k ih =>
    intro hk
    rw [hav]
    split
    · rw [and_or_r, ih (by omega), one_16 k (by omega)]
    · exact ih (by omega)
theorem old_16 {f : Nat → Int32} : ∀ k, k ≤ 16 → oldW f k &&& 65535 = oldW f k := by
  intro k
  induction k with
  | zero => exact fun _ => by decide
  | succ k ih =>
    intro hk
    rw [oldW, and_or_r, ih (by omega)]
    split
    · rw [one_16 k (by omega)]
    · rw [Int32.zero_and]
theorem oldW_congr {f f' : Nat → Int32} : ∀ k, (∀ i, i < k → f i = f' i) → oldW f k = oldW f' k := by
  intro k
  induction k with
  | zero => exact fun _ => rfl
  | succ k ih =>
    intro h
    rw [oldW, oldW, ih (fun i hi => h i (by omega)), h k (by omega)]
theorem NQ_22 {B p : Nat} {b : nv} {v : Int32} (h : NI B b) : NQ B p b (un b 22 0 v) := NQ_un h (KPn (by decide))
theorem RR_retire {B p : Nat} {s : cS} {a : rA} (hB : B < 134217500) (hp : p < 8) (hr : RR s a) (hj : JV B a) : (K_retire s p).1 = (A_retire a p).1 ∧ RR (K_retire s p).2 (A_retire a p).2 ∧ JV (B + 4) (A_retire a p).2 := by
  have hrn := (hr.1 p hp).1
  have hfe := free_eq hrn.1
  have hn := (hj.1.2.1 p hp).1
  have h69 : ∀ k, k < 16 → s.1 p 6 k = a.1 p 9 k := fun k hk => (hrn.1.2.2.2.2.2.2.2.1 k hk).1
  have eg : gre (s.1 p 6) 16 = gre (a.1 p 9) 16 := gre_congr 16 h69
  have el : lst (s.1 p 6) 16 = lst (a.1 p 9) 16 := lst_congr 16 h69
  have hbad : (-1 : Int32) = (-1 : Int32) ∧ RR s (aG a 0 0) ∧ JV (B + 4) (aG a 0 0) := ⟨rfl, RR_g0 hr, JV_mono (by omega) (JV_g0 hj)⟩
  unfold K_retire A_retire
  by_cases hf : C_free (s.1 p) = 0
  · rw [if_pos (Or.inl (hfe.mp hf)), if_pos hf]
    split <;> exact hbad
  · have hf2 : ¬ F_isFree (a.1 p) = 0 := fun w => hf (hfe.mpr w)
    obtain ⟨b, hb, eb, b1', bj, hu, h16⟩ := free_gre hf2
    have sb : s.1 p 6 b = 1 := by
      rw [h69 b hb]
      exact b1'
    have sj : ∀ j, b < j → j < 16 → ¬ s.1 p 6 j = 1 := by
      intro j h1 h2
      rw [h69 j h2]
      exact bj j h1 h2
    have c2 := cnt_two hb sb sj
    rw [el, eg] at c2
    have ebc : bc (hav (s.1 p 6) 1 16) = nI (cnt (s.1 p 6) 16) := by
      rw [bc16 (hav_16 16 (Nat.le_refl _)), mny_hav 16 (Nat.le_refl _)]
    have hle := cnt_le (f := s.1 p 6) 16
    have h2 : (2 ≤ bc (hav (s.1 p 6) 1 16)) ↔ 2 ≤ cnt (s.1 p 6) 16 := by
      rw [ebc, show (2 : Int32) = nI 2 from rfl]
      exact nI_leI (by decide) (by omega)
    by_cases hc : lst (a.1 p 9) 16 = gre (a.1 p 9) 16
    · rw [if_neg (fun w => c2.mp (h2.mp w) hc), if_pos (Or.inr hc)]
      exact hbad
    · have hnn : ¬ (F_isFree (a.1 p) = 0 ∨ lst (a.1 p 9) 16 = gre (a.1 p 9) 16) := fun w => w.elim hf2 hc
      rw [if_pos (h2.mpr (c2.mpr hc)), if_neg hf, if_neg hnn, eg]
      have et : s.2.2.1 0 = a.2.2.2 1 := hr.2.1
      have eb2 : (gre (a.1 p 9) 16).toNatClampNeg = b := by
        rw [eb, nI_cl (by omega)]
      have eo : hav (s.1 p 6) 1 16 &&& (((1 : Int32) <<< (gre (a.1 p 9) 16 &&& 31)) ^^^ (-1)) = oldW (a.1 p 9) b := by
        rw [eb, hav_old hb sb sj]
        exact oldW_congr b (fun i hi => h69 i (by omega))
      rw [eo, opv_e, et, eb2]
      obtain ⟨t1, t2, t3⟩ := top_f (n := s.1 p) (tk := a.2.2.2 1 + 1) (kd := 4) (x := nI b)
      obtain ⟨g4, g7, g8, g9, g12⟩ := top_g (n := s.1 p) (tk := a.2.2.2 1 + 1) (kd := 4) (x := nI b)
      exact RR_sts (v := 0) (x := un (C_topen (s.1 p) (a.2.2.2 1 + 1) 4 (nI b)) 12 12 (oldW (a.1 p 9) b)) (b := un (a.1 p) 22 0 (oldW (a.1 p 9) b)) hB hp hr hj (NQ_22 hn) (by rw [un_nk (by decide)]; exact hu) (by rw [un_nk (by decide)]; exact h16) hb (fun w => absurd w (by decide)) (Or.inr (Or.inr (Or.inr rfl))) (RB_12 (RB_st (RB_y hrn.1 (Or.inr rfl)) (by rw [un_nk (by decide)]; exact h16)) (by decide)) (RT_st ((un_nj (by decide)).trans t2) ((un_nj (by decide)).trans t3) ((un_nj (by decide)).trans g4) ((un_nj (by decide)).trans g7) (fun w => absurd w (by decide)) (fun w => absurd w (by decide)) (fun _ => by rw [un_eq, un_eq])) ((un_nk (by decide)).trans (t1.trans (hr.1 p hp).2)) (fun w => absurd w (by decide)) (fun w => absurd w (by decide)) (fun _ => by rw [un_eq]; exact bc16 (old_16 b (by omega)))
theorem duo_retire {B : Nat} {s : cS} {a : rA} {v : Int32} (hB : B < 100000) (h : INV B s a) : DU (fun Q => w_Q_retire Q 1 v) (fun Q => w_M_retire Q 1125 v) B s a := by
  obtain ⟨hr, hj, hc⟩ := h
  have hl := hr.2.2.2.2.1
  by_cases hv : 0 ≤ v ∧ v ≤ 7
  · obtain ⟨p, hp, ev⟩ := i7 hv
    rw [ev]
    obtain ⟨e1, e2, e3⟩ := RR_retire (by omega) hp hr hj
    refine ⟨(K_retire s p).2, (A_retire a p).2, (K_retire s p).1, ⟨e2, JV_mono (by omega) e3, ?_⟩, fun Q g hQ => t_retire hp (CW_RR hr) (hr.1 p hp).2 hQ, fun Q g hQ => (n_retire hp hl (hj.1.2.1 p hp).1.1).mpr (by rw [← e1]; exact hQ)⟩
    unfold K_retire
    split
    · split
      · exact hc
      · rename_i hf
        obtain ⟨b, hb, eb⟩ := cfree_gre hf
        have hb2 : (gre (s.1 p 6) 16).toNatClampNeg < 16 := by
          rw [eb, nI_cl (by omega)]
          exact hb
        rw [opv_e]
        obtain ⟨t1, t2, t3⟩ := top_f (n := s.1 p) (tk := s.2.2.1 0 + 1) (kd := 4) (x := nI (gre (s.1 p 6) 16).toNatClampNeg)
        refine CI_CP (CI_op hc hb2 ((un_nj (by decide)).trans t3) (fun w => ?_)) CP_go
        rw [un_nj (by decide), t2] at w
        exact absurd w (by decide)
    · exact hc
  · exact ⟨s, aG a 0 0, -1, INV_g0 ⟨hr, hj, hc⟩, fun Q g hQ => t_retirem hv hQ, fun Q g hQ => (nb_retire hv).mpr hQ⟩
/-! the law's loop -/
theorem clrl {g : xH} {s : cS} {t : rS} : cl 1 (rl 1125 g t) s = rl 1125 (cl 1 g s) t := by
  unfold cl rl
  refine Prod.ext rfl (funext fun b => ?_)
  dsimp only
  by_cases h1 : 1 ≤ b ∧ b < 1 + 1124
  · rw [if_pos h1, if_neg (by omega), if_pos h1]
  · rw [if_neg h1]
    by_cases h2 : 1125 ≤ b ∧ b ≤ 1125 + 31
    · rw [if_pos h2, if_pos h2]
    · rw [if_neg h2, if_neg h2, if_neg h1]
theorem len5 {n i : Nat} (hn : n ≤ 2563) (hi : i ≤ 100000) : ((Int32.ofNat n) - 5 < nI i) ↔ n < i + 5 := by
  by_cases h5 : 5 ≤ n
  · have e : (Int32.ofNat n) - 5 = nI (n - 5) := pk_sub (a := n) (b := 5) h5
    rw [e, nI_ltI (by omega) (by omega)]
    omega
  · have h0 : (Int32.ofNat n) - 5 < 0 := by
      have hh : n = 0 ∨ n = 1 ∨ n = 2 ∨ n = 3 ∨ n = 4 := by omega
      rcases hh with z | z | z | z | z <;> rw [z] <;> decide
    refine ⟨fun _ => by omega, fun _ => ?_⟩
    exact Int32.lt_of_lt_of_le h0 (nI_nn (by omega))
set_option maxRecDepth 100000 in
set_option maxHeartbeats 16000000 in
theorem law_loop {sc : List Int32} {Q : Option Value → xH → Prop} {G : xH} (hQ1 : ∀ h, Q (some (.int 1)) h) (hL : sc.length ≤ 2563) : ∀ (d i B : Nat) (s : cS) (a : rA) (kc ks : Nat), sc.length < i + 5 + 5 * d → i ≤ 3000 → B + 8 * d < 100000 → INV B s a → w_L_law_48 sc Q (d + 1) 1 1125 (nI i) (cl 1 (rl 1125 G (tt a)) s) kc ks := by
  intro d
  induction d with
  | zero =>
    intro i B s a kc ks h1 h2 h3 h4
    rw [w_L_law_48]
    exact ⟨fun _ => ⟨nb1, hQ1 _⟩, fun w => absurd ((len5 hL (by omega)).mpr (by omega)) w⟩
  | succ d ih =>
    intro i B s a kc ks h1 h2 h3 h4
    rw [w_L_law_48]
    refine ⟨fun _ => ⟨nb1, hQ1 _⟩, fun w => ?_⟩
    have hi : i + 5 ≤ sc.length := by
      refine Classical.byContradiction (fun z => w ?_)
      exact (len5 hL (by omega)).mpr (by omega)
    have hB : B < 100000 := by omega
    have e1 : nI i + 1 = nI (i + 1) := nI_1 i
    have e2 : nI i + 2 = nI (i + 2) := nI_add i 2
    have e3 : nI i + 3 = nI (i + 3) := nI_add i 3
    have e4 : nI i + 4 = nI (i + 4) := nI_add i 4
    have e5 : nI i + 5 = nI (i + 5) := nI_add i 5
    have g0 : sc[(nI i).toNatClampNeg]? = some (sc[i]'(by omega)) := by
      rw [nI_cl (by omega)]
      exact List.getElem?_eq_getElem (by omega)
    have g1 : sc[(nI i + 1 : Int32).toNatClampNeg]? = some (sc[i + 1]'(by omega)) := by
      rw [e1, nI_cl (by omega)]
      exact List.getElem?_eq_getElem (by omega)
    have p1 : 0 ≤ (nI i + 1 : Int32) := by
      rw [e1]
      exact nI_nn (by omega)
    have g2 : sc[(nI i + 2 : Int32).toNatClampNeg]? = some (sc[i + 2]'(by omega)) := by
      rw [e2, nI_cl (by omega)]
      exact List.getElem?_eq_getElem (by omega)
    have p2 : 0 ≤ (nI i + 2 : Int32) := by
      rw [e2]
      exact nI_nn (by omega)
    have g3 : sc[(nI i + 3 : Int32).toNatClampNeg]? = some (sc[i + 3]'(by omega)) := by
      rw [e3, nI_cl (by omega)]
      exact List.getElem?_eq_getElem (by omega)
    have p3 : 0 ≤ (nI i + 3 : Int32) := by
      rw [e3]
      exact nI_nn (by omega)
    have g4 : sc[(nI i + 4 : Int32).toNatClampNeg]? = some (sc[i + 4]'(by omega)) := by
      rw [e4, nI_cl (by omega)]
      exact List.getElem?_eq_getElem (by omega)
    have p4 : 0 ≤ (nI i + 4 : Int32) := by
      rw [e4]
      exact nI_nn (by omega)
    have nxt : ∀ (s' : cS) (a' : rA), INV (B + 8) s' a' → w_L_law_749 sc Q (fun y0 y1 y2 yh yc ys => w_L_law_48 sc Q (d + 1) y0 y1 y2 yh yc ys) 1 1125 (nI i) (rl 1125 (cl 1 G s') (tt a')) kc ks := by
      intro s' a' hI
      unfold w_L_law_749
      rw [e5, ← clrl]
      exact ih (i + 5) (B + 8) s' a' kc ks (by omega) (by omega) (by omega) hI
    refine ⟨_, nI_nn (by omega), g0, ?_⟩
    refine ⟨fun _ => ?_, fun _ => ?_, fun _ => ?_, fun _ => ?_, fun _ => ?_, fun _ => ?_, fun _ => ?_, fun _ => ?_, fun _ => ?_, fun _ => ?_, fun _ => ?_, fun _ => ?_, fun _ => ?_, fun _ => ?_, fun _ => ?_, fun _ => ?_, fun _ => ?_, fun _ => ?_, fun _ => ?_, fun n0 n1 n2 n3 n4 n5 n6 n7 n8 n9 n10 n11 n12 n13 n14 n15 n16 n17 n18 => ?_⟩
    · obtain ⟨s', a', n, hI, hQ, hM⟩ := duo_read (v := sc[i + 1]'(by omega)) (x := sc[i + 2]'(by omega)) hB h4
      refine ⟨_, p1, g1, _, p2, g2, ⟨_, cg_0⟩, hQ _ _ ?_⟩
      rw [clrl]
      exact ⟨n, rfl, _, p1, g1, _, p2, g2, ⟨_, rl_r⟩, hM _ _ ⟨n, rfl, fun _ => nxt s' a' hI, fun hne => absurd rfl hne⟩⟩
    · obtain ⟨s', a', n, hI, hQ, hM⟩ := duo_write (v := sc[i + 1]'(by omega)) (x := sc[i + 2]'(by omega)) (y := sc[i + 3]'(by omega)) hB h4
      refine ⟨_, p1, g1, _, p2, g2, _, p3, g3, ⟨_, cg_0⟩, hQ _ _ ?_⟩
      rw [clrl]
      exact ⟨n, rfl, _, p1, g1, _, p2, g2, _, p3, g3, ⟨_, rl_r⟩, hM _ _ ⟨n, rfl, fun _ => nxt s' a' hI, fun hne => absurd rfl hne⟩⟩
    · obtain ⟨s', a', n, hI, hQ, hM⟩ := duo_propose (v := sc[i + 1]'(by omega)) (x := sc[i + 2]'(by omega)) (y := sc[i + 3]'(by omega)) (z := sc[i + 4]'(by omega)) hB h4
      refine ⟨_, p1, g1, _, p2, g2, _, p3, g3, _, p4, g4, ⟨_, cg_0⟩, hQ _ _ ?_⟩
      rw [clrl]
      exact ⟨n, rfl, _, p1, g1, _, p2, g2, _, p3, g3, _, p4, g4, ⟨_, rl_r⟩, hM _ _ ⟨n, rfl, fun _ => nxt s' a' hI, fun hne => absurd rfl hne⟩⟩
    · obtain ⟨s', a', n, hI, hQ, hM⟩ := duo_retire (v := sc[i + 1]'(by omega)) hB h4
      refine ⟨_, p1, g1, ⟨_, cg_0⟩, hQ _ _ ?_⟩
      rw [clrl]
      exact ⟨n, rfl, _, p1, g1, ⟨_, rl_r⟩, hM _ _ ⟨n, rfl, fun _ => nxt s' a' hI, fun hne => absurd rfl hne⟩⟩
    · obtain ⟨s', a', n, hI, hQ, hM⟩ := duo_again (v := sc[i + 1]'(by omega)) hB h4
      refine ⟨_, p1, g1, ⟨_, cg_0⟩, hQ _ _ ?_⟩
      rw [clrl]
      exact ⟨n, rfl, _, p1, g1, ⟨_, rl_r⟩, hM _ _ ⟨n, rfl, fun _ => nxt s' a' hI, fun hne => absurd rfl hne⟩⟩
    · obtain ⟨s', a', n, hI, hQ, hM⟩ := duo_gossip (v := sc[i + 1]'(by omega)) (x := sc[i + 2]'(by omega)) h4
      refine ⟨_, p1, g1, _, p2, g2, ⟨_, cg_0⟩, hQ _ _ ?_⟩
      rw [clrl]
      exact ⟨n, rfl, _, p1, g1, _, p2, g2, ⟨_, rl_r⟩, hM _ _ ⟨n, rfl, fun _ => nxt s' a' hI, fun hne => absurd rfl hne⟩⟩
    · obtain ⟨s', a', n, hI, hQ, hM⟩ := duo_join (v := sc[i + 1]'(by omega)) (x := sc[i + 2]'(by omega)) h4
      refine ⟨_, p1, g1, _, p2, g2, ⟨_, cg_0⟩, hQ _ _ ?_⟩
      rw [clrl]
      exact ⟨n, rfl, _, p1, g1, _, p2, g2, ⟨_, rl_r⟩, hM _ _ ⟨n, rfl, fun _ => nxt s' a' hI, fun hne => absurd rfl hne⟩⟩
    · obtain ⟨s', a', n, hI, hQ, hM⟩ := duo_deliver (v := sc[i + 1]'(by omega)) hB h4
      refine ⟨_, p1, g1, ⟨_, cg_0⟩, hQ _ _ ?_⟩
      rw [clrl]
      exact ⟨n, rfl, _, p1, g1, ⟨_, rl_r⟩, hM _ _ ⟨n, rfl, fun _ => nxt s' a' hI, fun hne => absurd rfl hne⟩⟩
    · obtain ⟨s', a', n, hI, hQ, hM⟩ := duo_lose (v := sc[i + 1]'(by omega)) h4
      refine ⟨_, p1, g1, ⟨_, cg_0⟩, hQ _ _ ?_⟩
      rw [clrl]
      exact ⟨n, rfl, _, p1, g1, ⟨_, rl_r⟩, hM _ _ ⟨n, rfl, fun _ => nxt s' a' hI, fun hne => absurd rfl hne⟩⟩
    · obtain ⟨s', a', n, hI, hQ, hM⟩ := duo_twice (v := sc[i + 1]'(by omega)) h4
      refine ⟨_, p1, g1, ⟨_, cg_0⟩, hQ _ _ ?_⟩
      rw [clrl]
      exact ⟨n, rfl, _, p1, g1, ⟨_, rl_r⟩, hM _ _ ⟨n, rfl, fun _ => nxt s' a' hI, fun hne => absurd rfl hne⟩⟩
    · obtain ⟨s', a', n, hI, hQ, hM⟩ := duo_crash (v := sc[i + 1]'(by omega)) h4
      refine ⟨_, p1, g1, ⟨_, cg_0⟩, hQ _ _ ?_⟩
      rw [clrl]
      exact ⟨n, rfl, _, p1, g1, ⟨_, rl_r⟩, hM _ _ ⟨n, rfl, fun _ => nxt s' a' hI, fun hne => absurd rfl hne⟩⟩
    · obtain ⟨s', a', n, hI, hQ, hM⟩ := duo_restart (v := sc[i + 1]'(by omega)) hB h4
      refine ⟨_, p1, g1, ⟨_, cg_0⟩, hQ _ _ ?_⟩
      rw [clrl]
      exact ⟨n, rfl, _, p1, g1, ⟨_, rl_r⟩, hM _ _ ⟨n, rfl, fun _ => nxt s' a' hI, fun hne => absurd rfl hne⟩⟩
    · obtain ⟨s', a', n, hI, hQ, hM⟩ := duo_arm (v := sc[i + 1]'(by omega)) (x := sc[i + 2]'(by omega)) hB h4
      refine ⟨_, p1, g1, _, p2, g2, ⟨_, cg_0⟩, hQ _ _ ?_⟩
      rw [clrl]
      exact ⟨n, rfl, _, p1, g1, _, p2, g2, ⟨_, rl_r⟩, hM _ _ ⟨n, rfl, fun _ => nxt s' a' hI, fun hne => absurd rfl hne⟩⟩
    · obtain ⟨s', a', n, hI, hQ, hM⟩ := duo_node (v := sc[i + 1]'(by omega)) (x := sc[i + 2]'(by omega)) h4
      refine ⟨_, p1, g1, _, p2, g2, ⟨_, cg_0⟩, hQ _ _ ?_⟩
      rw [clrl]
      exact ⟨n, rfl, _, p1, g1, _, p2, g2, ⟨_, rl_r⟩, hM _ _ ⟨n, rfl, fun _ => nxt s' a' hI, fun hne => absurd rfl hne⟩⟩
    · obtain ⟨s', a', n, hI, hQ, hM⟩ := duo_cell (v := sc[i + 1]'(by omega)) (x := sc[i + 2]'(by omega)) (y := sc[i + 3]'(by omega)) h4
      refine ⟨_, p1, g1, _, p2, g2, _, p3, g3, ⟨_, cg_0⟩, hQ _ _ ?_⟩
      rw [clrl]
      exact ⟨n, rfl, _, p1, g1, _, p2, g2, _, p3, g3, ⟨_, rl_r⟩, hM _ _ ⟨n, rfl, fun _ => nxt s' a' hI, fun hne => absurd rfl hne⟩⟩
    · obtain ⟨s', a', n, hI, hQ, hM⟩ := duo_map (v := sc[i + 1]'(by omega)) (x := sc[i + 2]'(by omega)) (y := sc[i + 3]'(by omega)) h4
      refine ⟨_, p1, g1, _, p2, g2, _, p3, g3, ⟨_, cg_0⟩, hQ _ _ ?_⟩
      rw [clrl]
      exact ⟨n, rfl, _, p1, g1, _, p2, g2, _, p3, g3, ⟨_, rl_r⟩, hM _ _ ⟨n, rfl, fun _ => nxt s' a' hI, fun hne => absurd rfl hne⟩⟩
    · obtain ⟨s', a', n, hI, hQ, hM⟩ := duo_task (v := sc[i + 1]'(by omega)) (x := sc[i + 2]'(by omega)) h4
      refine ⟨_, p1, g1, _, p2, g2, ⟨_, cg_0⟩, hQ _ _ ?_⟩
      rw [clrl]
      exact ⟨n, rfl, _, p1, g1, _, p2, g2, ⟨_, rl_r⟩, hM _ _ ⟨n, rfl, fun _ => nxt s' a' hI, fun hne => absurd rfl hne⟩⟩
    · obtain ⟨s', a', n, hI, hQ, hM⟩ := duo_message (v := sc[i + 1]'(by omega)) (x := sc[i + 2]'(by omega)) h4
      refine ⟨_, p1, g1, _, p2, g2, ⟨_, cg_0⟩, hQ _ _ ?_⟩
      rw [clrl]
      exact ⟨n, rfl, _, p1, g1, _, p2, g2, ⟨_, rl_r⟩, hM _ _ ⟨n, rfl, fun _ => nxt s' a' hI, fun hne => absurd rfl hne⟩⟩
    · obtain ⟨s', a', n, hI, hQ, hM⟩ := duo_count (v := sc[i + 1]'(by omega)) h4
      refine ⟨_, p1, g1, ⟨_, cg_0⟩, hQ _ _ ?_⟩
      rw [clrl]
      exact ⟨n, rfl, _, p1, g1, ⟨_, rl_r⟩, hM _ _ ⟨n, rfl, fun _ => nxt s' a' hI, fun hne => absurd rfl hne⟩⟩
    · rw [clrl]
      exact nxt s a ⟨h4.1, JV_mono (by omega) h4.2.1, h4.2.2⟩
/-! objects as the constructors make them -/
def blk (F : Nat → Option xE) (n : Nat) (l : List xE) : Nat → Option xE := fun j => if n ≤ j ∧ j < n + l.length then l[j - n]? else F j
def z4 : xE := .inl (0, .inl (List.replicate 4 0))
def z16 : xE := .inl (0, .inl (List.replicate 16 0))
def coC (n : Nat) : List xE := [.inr (1, [.ref (n + 1), .ref (n + 2), .ref (n + 3)]), z4, z4, z4]
def seC (n : Nat) : List xE := [.inr (5, [.ref (n + 1), .ref (n + 2)]), z16, z16]
def voC (n : Nat) : List xE := [.inr (7, [.ref (n + 1), .ref (n + 2), .ref (n + 3)]), z16, z16, z16]
def taC (n : Nat) : List xE := .inr (6, [.int 0, .int 0, .int 0, .int 0, .int 0, .int 0, .int 0, .int 0, .int 0, .int 0, .int 0, .int 0, .int 0, .ref (n + 1)]) :: coC (n + 1)
def meC (n : Nat) : List xE := .inr (3, [.int 0, .int 0, .int 0, .int 0, .int 0, .int 0, .int 0, .int 0, .ref (n + 1), .ref (n + 4)]) :: (seC (n + 1) ++ coC (n + 4))
def noC (n : Nat) (v : Int32) : List xE := .inr (4, [.int v, .int 0, .int 1, .int 0, .int 0, .int 0, .int 0, .ref (n + 1), .ref (n + 5), .ref (n + 8), .ref (n + 12)]) :: (coC (n + 1) ++ seC (n + 5) ++ voC (n + 8) ++ taC (n + 12))
theorem blk_in {F : Nat → Option xE} {n k : Nat} {l : List xE} (h : k < l.length) : blk F n l (n + k) = l[k]? := by
  unfold blk
  rw [if_pos ⟨by omega, by omega⟩, Nat.add_sub_cancel_left]
theorem blk_0 {F : Nat → Option xE} {n : Nat} {l : List xE} (h : 0 < l.length) : blk F n l n = l[0]? := blk_in (k := 0) h
theorem blk_out {F : Nat → Option xE} {n j : Nat} {l : List xE} (h : ¬ (n ≤ j ∧ j < n + l.length)) : blk F n l j = F j := if_neg h
theorem xn_1 {h : xH} {e : xE} : (xn h e).1 = h.1 + 1 := rfl
theorem xu_1 {h : xH} {k : Nat} {e : xE} : (xu h k e).1 = h.1 := rfl
theorem xn_e {h : xH} {e : xE} : (xn h e).2 (h.1 + 1) = some e := if_pos rfl
theorem xn_n {h : xH} {e : xE} {j : Nat} (hj : j ≠ h.1 + 1) : (xn h e).2 j = h.2 j := if_neg hj
theorem xu_e {h : xH} {k : Nat} {e : xE} : (xu h k e).2 k = some e := if_pos rfl
theorem xu_n {h : xH} {k : Nat} {e : xE} {j : Nat} (hj : j ≠ k) : (xu h k e).2 j = h.2 j := if_neg hj
theorem init_Co {Q : Option Value → xH → Prop} {h : xH} {kc ks : Nat} (hh : h.2 h.1 = some (.inr (1, [.null, .null, .null]))) (hQ : ∀ h', h'.1 = h.1 + 3 → (∀ j, h'.2 j = blk h.2 h.1 (coC h.1) j) → Q none h') : w_Co_init Q h.1 h (kc + 3) (ks + 12) := by
  obtain ⟨N, F⟩ := h
  dsimp only at hh hQ ⊢
  unfold w_Co_init
  refine ⟨kc + 2, ks + 8, by omega, by omega, ?_⟩
  intro b0 h0 eb0 eh0
  subst eb0 eh0
  refine ⟨[.null, .null, .null], by simp [xn, xu, hh], by decide, ?_⟩
  intro g0 eg0
  subst eg0
  refine ⟨kc + 1, ks + 4, by omega, by omega, ?_⟩
  intro b1 h1 eb1 eh1
  subst eb1 eh1
  refine ⟨[.ref (N + 1), .null, .null], by simp [xn, xu, hh], by decide, ?_⟩
  intro g1 eg1
  subst eg1
  refine ⟨kc + 0, ks + 0, by omega, by omega, ?_⟩
  intro b2 h2 eb2 eh2
  subst eb2 eh2
  refine ⟨[.ref (N + 1), .ref (N + 2), .null], by simp [xn, xu, hh], by decide, ?_⟩
  intro g2 eg2
  subst eg2
  refine hQ _ rfl (fun j => ?_)
  have hj : j < N ∨ j = N ∨ j = N + 1 ∨ j = N + 2 ∨ j = N + 3 ∨ N + 3 < j := by omega
  rcases hj with c | c | c | c | c | c
  · have n0 : ¬ j = N := by omega
    have n1 : ¬ j = N + 1 := by omega
    have n2 : ¬ j = N + 2 := by omega
    have n3 : ¬ j = N + 3 := by omega
    rw [blk_out (by simp only [coC, List.length_cons, List.length_nil]; omega)]
    simp [xn, xu, n0, n1, n2, n3]
  · subst c
    rw [blk_0 (by simp [coC])]
    simp [xn, xu, coC, z4]
  · subst c
    rw [blk_in (by simp [coC])]
    simp [xn, xu, coC, z4]
  · subst c
    rw [blk_in (by simp [coC])]
    simp [xn, xu, coC, z4]
  · subst c
    rw [blk_in (by simp [coC])]
    simp [xn, xu, coC, z4]
  · have n0 : ¬ j = N := by omega
    have n1 : ¬ j = N + 1 := by omega
    have n2 : ¬ j = N + 2 := by omega
    have n3 : ¬ j = N + 3 := by omega
    rw [blk_out (by simp only [coC, List.length_cons, List.length_nil]; omega)]
    simp [xn, xu, n0, n1, n2, n3]
theorem init_Se {Q : Option Value → xH → Prop} {h : xH} {kc ks : Nat} (hh : h.2 h.1 = some (.inr (5, [.null, .null]))) (hQ : ∀ h', h'.1 = h.1 + 2 → (∀ j, h'.2 j = blk h.2 h.1 (seC h.1) j) → Q none h') : w_Se_init Q h.1 h (kc + 2) (ks + 32) := by
  obtain ⟨N, F⟩ := h
  dsimp only at hh hQ ⊢
  unfold w_Se_init
  refine ⟨kc + 1, ks + 16, by omega, by omega, ?_⟩
  intro b0 h0 eb0 eh0
  subst eb0 eh0
  refine ⟨[.null, .null], by simp [xn, xu, hh], by decide, ?_⟩
  intro g0 eg0
  subst eg0
  refine ⟨kc + 0, ks + 0, by omega, by omega, ?_⟩
  intro b1 h1 eb1 eh1
  subst eb1 eh1
  refine ⟨[.ref (N + 1), .null], by simp [xn, xu, hh], by decide, ?_⟩
  intro g1 eg1
  subst eg1
  refine hQ _ rfl (fun j => ?_)
  have hj : j < N ∨ j = N ∨ j = N + 1 ∨ j = N + 2 ∨ N + 2 < j := by omega
  rcases hj with c | c | c | c | c
  · have n0 : ¬ j = N := by omega
    have n1 : ¬ j = N + 1 := by omega
    have n2 : ¬ j = N + 2 := by omega
    rw [blk_out (by simp only [seC, List.length_cons, List.length_nil]; omega)]
    simp [xn, xu, n0, n1, n2]
  · subst c
    rw [blk_0 (by simp [seC])]
    simp [xn, xu, seC, z16]
  · subst c
    rw [blk_in (by simp [seC])]
    simp [xn, xu, seC, z16]
  · subst c
    rw [blk_in (by simp [seC])]
    simp [xn, xu, seC, z16]
  · have n0 : ¬ j = N := by omega
    have n1 : ¬ j = N + 1 := by omega
    have n2 : ¬ j = N + 2 := by omega
    rw [blk_out (by simp only [seC, List.length_cons, List.length_nil]; omega)]
    simp [xn, xu, n0, n1, n2]
theorem init_Vo {Q : Option Value → xH → Prop} {h : xH} {kc ks : Nat} (hh : h.2 h.1 = some (.inr (7, [.null, .null, .null]))) (hQ : ∀ h', h'.1 = h.1 + 3 → (∀ j, h'.2 j = blk h.2 h.1 (voC h.1) j) → Q none h') : w_Vo_init Q h.1 h (kc + 3) (ks + 48) := by
  obtain ⟨N, F⟩ := h
  dsimp only at hh hQ ⊢
  unfold w_Vo_init
  refine ⟨kc + 2, ks + 32, by omega, by omega, ?_⟩
  intro b0 h0 eb0 eh0
  subst eb0 eh0
  refine ⟨[.null, .null, .null], by simp [xn, xu, hh], by decide, ?_⟩
  intro g0 eg0
  subst eg0
  refine ⟨kc + 1, ks + 16, by omega, by omega, ?_⟩
  intro b1 h1 eb1 eh1
  subst eb1 eh1
  refine ⟨[.ref (N + 1), .null, .null], by simp [xn, xu, hh], by decide, ?_⟩
  intro g1 eg1
  subst eg1
  refine ⟨kc + 0, ks + 0, by omega, by omega, ?_⟩
  intro b2 h2 eb2 eh2
  subst eb2 eh2
  refine ⟨[.ref (N + 1), .ref (N + 2), .null], by simp [xn, xu, hh], by decide, ?_⟩
  intro g2 eg2
  subst eg2
  refine hQ _ rfl (fun j => ?_)
  have hj : j < N ∨ j = N ∨ j = N + 1 ∨ j = N + 2 ∨ j = N + 3 ∨ N + 3 < j := by omega
  rcases hj with c | c | c | c | c | c
  · have n0 : ¬ j = N := by omega
    have n1 : ¬ j = N + 1 := by omega
    have n2 : ¬ j = N + 2 := by omega
    have n3 : ¬ j = N + 3 := by omega
    rw [blk_out (by simp only [voC, List.length_cons, List.length_nil]; omega)]
    simp [xn, xu, n0, n1, n2, n3]
  · subst c
    rw [blk_0 (by simp [voC])]
    simp [xn, xu, voC, z16]
  · subst c
    rw [blk_in (by simp [voC])]
    simp [xn, xu, voC, z16]
  · subst c
    rw [blk_in (by simp [voC])]
    simp [xn, xu, voC, z16]
  · subst c
    rw [blk_in (by simp [voC])]
    simp [xn, xu, voC, z16]
  · have n0 : ¬ j = N := by omega
    have n1 : ¬ j = N + 1 := by omega
    have n2 : ¬ j = N + 2 := by omega
    have n3 : ¬ j = N + 3 := by omega
    rw [blk_out (by simp only [voC, List.length_cons, List.length_nil]; omega)]
    simp [xn, xu, n0, n1, n2, n3]
/-! messages and nodes as the constructors make them -/
section BLK
variable {F G : Nat → Option xE} {n m j : Nat} {l l' : List xE} {e : xE}
theorem blk_cons : blk F n (e :: l) j = if j = n then some e else blk F (n + 1) l j := by
  by_cases c : j = n
  · rw [if_pos c, c, blk_0 (by simp)]
    rfl
  · rw [if_neg c]
    unfold blk
    by_cases c2 : n + 1 ≤ j ∧ j < n + 1 + l.length
    · rw [if_pos ⟨by omega, by simp only [List.length_cons]; omega⟩, if_pos c2]
      have e1 : j - n = (j - (n + 1)) + 1 := by omega
      rw [e1]
      rfl
    · rw [if_neg c2, if_neg (by simp only [List.length_cons]; omega)]
theorem blk_cg (h : ¬ (n ≤ j ∧ j < n + l.length) → F j = G j) : blk F n l j = blk G n l j := by
  unfold blk
  by_cases c : n ≤ j ∧ j < n + l.length
  · rw [if_pos c, if_pos c]
  · rw [if_neg c, if_neg c]
    exact h c
theorem blk_app : blk F n (l ++ l') = blk (blk F n l) (n + l.length) l' := by
  funext j
  unfold blk
  by_cases c : n + l.length ≤ j ∧ j < n + l.length + l'.length
  · rw [if_pos c, if_pos ⟨by omega, by simp only [List.length_append]; omega⟩, List.getElem?_append_right (by omega)]
    congr 1
    omega
  · rw [if_neg c]
    by_cases c2 : n ≤ j ∧ j < n + l.length
    · rw [if_pos c2, if_pos ⟨by omega, by simp only [List.length_append]; omega⟩, List.getElem?_append_left (by omega)]
    · rw [if_neg c2, if_neg (by simp only [List.length_append]; omega)]
theorem blk_nil : blk F n [] j = F j := by
  unfold blk
  rw [if_neg (by simp only [List.length_nil]; omega)]
end BLK
theorem coC_len {n : Nat} : (coC n).length = 4 := rfl
theorem seC_len {n : Nat} : (seC n).length = 3 := rfl
theorem voC_len {n : Nat} : (voC n).length = 4 := rfl
theorem taC_len {n : Nat} : (taC n).length = 5 := rfl
theorem init_Ta {Q : Option Value → xH → Prop} {h : xH} {kc ks : Nat} (hh : h.2 h.1 = some (.inr (6, [.int 0, .int 0, .int 0, .int 0, .int 0, .int 0, .int 0, .int 0, .int 0, .int 0, .int 0, .int 0, .int 0, .null]))) (hQ : ∀ h', h'.1 = h.1 + 4 → (∀ j, h'.2 j = blk h.2 h.1 (taC h.1) j) → Q none h') : w_Ta_init Q h.1 h (kc + 4) (ks + 15) := by
  obtain ⟨N, F⟩ := h
  dsimp only at hh hQ ⊢
  unfold w_Ta_init
  refine ⟨kc + 3, ks + 12, by omega, by omega, ?_⟩
  intro b2 h1 eb eh
  subst eb eh
  refine ⟨3, kc, 12, ks, by omega, by omega, ?_⟩
  refine init_Co (h := xn (N, F) (.inr (1, [.null, .null, .null]))) (kc := 0) (ks := 0) (by simp [xn]) ?_
  intro h5 e1 e2
  have e1' : h5.1 = N + 4 := e1
  have e2' : ∀ j, h5.2 j = blk (xn (N, F) (.inr (1, [.null, .null, .null]))).2 (N + 1) (coC (N + 1)) j := e2
  refine ⟨rfl, [.int 0, .int 0, .int 0, .int 0, .int 0, .int 0, .int 0, .int 0, .int 0, .int 0, .int 0, .int 0, .int 0, .null], ?_, by decide, ?_⟩
  · rw [e2', blk_out (by omega)]
    simp [xn, hh]
  intro h11 e11
  subst e11
  refine hQ _ e1' (fun j => ?_)
  unfold taC
  rw [blk_cons]
  by_cases c : j = N
  · rw [if_pos c, c, xu_e]
    rfl
  · rw [if_neg c, xu_n c, e2']
    refine blk_cg (fun w => ?_)
    rw [xn_n]
    simp only [coC, List.length_cons, List.length_nil] at w
    show j ≠ N + 1
    omega
theorem init_Me {Q : Option Value → xH → Prop} {h : xH} {kc ks : Nat} (hh : h.2 h.1 = some (.inr (3, [.int 0, .int 0, .int 0, .int 0, .int 0, .int 0, .int 0, .int 0, .null, .null]))) (hQ : ∀ h', h'.1 = h.1 + 7 → (∀ j, h'.2 j = blk h.2 h.1 (meC h.1) j) → Q none h') : w_Me_init Q h.1 h (kc + 7) (ks + 49) := by
  obtain ⟨N, F⟩ := h
  dsimp only at hh hQ ⊢
  unfold w_Me_init
  refine ⟨kc + 6, ks + 47, by omega, by omega, ?_⟩
  intro b2 h1 eb eh
  subst eb eh
  refine ⟨2, kc + 4, 32, ks + 15, by omega, by omega, ?_⟩
  refine init_Se (h := xn (N, F) (.inr (5, [.null, .null]))) (kc := 0) (ks := 0) (by simp [xn]) ?_
  intro h5 e1 e2
  have e1' : h5.1 = N + 3 := e1
  have e2' : ∀ j, h5.2 j = blk (xn (N, F) (.inr (5, [.null, .null]))).2 (N + 1) (seC (N + 1)) j := e2
  refine ⟨rfl, [.int 0, .int 0, .int 0, .int 0, .int 0, .int 0, .int 0, .int 0, .null, .null], ?_, by decide, ?_⟩
  · rw [e2', blk_out (by omega)]
    simp [xn, hh]
  intro h11 e11
  subst e11
  refine ⟨kc + 3, ks + 12, by omega, by omega, ?_⟩
  intro b13 h12 e13 e12
  rw [xu_1, e1'] at e13
  subst e13
  refine ⟨3, kc, 12, ks, by omega, by omega, ?_⟩
  have e12' : h12.1 = N + 4 := by rw [e12, xn_1, xu_1, e1']
  have e12n : ∀ j, j ≠ N + 4 → h12.2 j = (xu h5 N (.inr (3, [Value.int 0, .int 0, .int 0, .int 0, .int 0, .int 0, .int 0, .int 0, .null, .null].set 8 (.ref (N + 1))))).2 j := by
    intro j hj
    rw [e12, xn_n]
    rw [xu_1, e1']
    exact hj
  have e12e : h12.2 (N + 4) = some (.inr (1, [.null, .null, .null])) := by
    have := xn_e (h := xu h5 N (.inr (3, [Value.int 0, .int 0, .int 0, .int 0, .int 0, .int 0, .int 0, .int 0, .null, .null].set 8 (.ref (N + 1))))) (e := .inr (1, [.null, .null, .null]))
    rw [xu_1, e1'] at this
    rw [e12]
    exact this
  have key := init_Co (Q := fun v h16 => v = none ∧ ∃ f21, h16.2 N = some (.inr (3, f21)) ∧ 9 < f21.length ∧ ∀ h22, h22 = xu h16 N (.inr (3, f21.set 9 (.ref (N + 4)))) → Q none h22) (h := h12) (kc := 0) (ks := 0) (by rw [e12']; exact e12e) ?_
  · rw [e12'] at key
    exact key
  intro h16 f1 f2
  rw [e12'] at f1 f2
  refine ⟨rfl, [.int 0, .int 0, .int 0, .int 0, .int 0, .int 0, .int 0, .int 0, .ref (N + 1), .null], ?_, by decide, ?_⟩
  · rw [f2, blk_out (by omega), e12n N (by omega), xu_e]
    rfl
  intro h22 e22
  subst e22
  refine hQ _ f1 (fun j => ?_)
  unfold meC
  rw [blk_cons]
  by_cases c : j = N
  · rw [if_pos c, c, xu_e]
    rfl
  · rw [if_neg c, xu_n c, f2, blk_app, seC_len]
    refine blk_cg (fun w => ?_)
    simp only [coC, List.length_cons, List.length_nil] at w
    rw [e12n j (by omega), xu_n c, e2']
    refine blk_cg (fun w2 => ?_)
    simp only [seC, List.length_cons, List.length_nil] at w2
    rw [xn_n]
    show j ≠ N + 1
    omega
theorem init_No {Q : Option Value → xH → Prop} {h : xH} {v : Int32} {kc ks : Nat} (hh : h.2 h.1 = some (.inr (4, [.int 0, .int 0, .int 0, .int 0, .int 0, .int 0, .int 0, .null, .null, .null, .null]))) (hQ : ∀ h', h'.1 = h.1 + 16 → (∀ j, h'.2 j = blk h.2 h.1 (noC h.1 v) j) → Q none h') : w_No_init Q h.1 v h (kc + 16) (ks + 129) := by
  obtain ⟨N, F⟩ := h
  dsimp only at hh hQ ⊢
  unfold w_No_init
  refine ⟨[.int 0, .int 0, .int 0, .int 0, .int 0, .int 0, .int 0, .null, .null, .null, .null], hh, by decide, ?_⟩
  intro g0 eg0
  refine ⟨[.int 0, .int 0, .int 0, .int 0, .int 0, .int 0, .int 0, .null, .null, .null, .null], by rw [eg0, xu_e]; rfl, by decide, ?_⟩
  intro g1 eg1
  refine ⟨[.int 0, .int 0, .int 1, .int 0, .int 0, .int 0, .int 0, .null, .null, .null, .null], by rw [eg1, xu_e]; rfl, by decide, ?_⟩
  intro g2 eg2
  refine ⟨[.int 0, .int 0, .int 1, .int 0, .int 0, .int 0, .int 0, .null, .null, .null, .null], by rw [eg2, xu_e]; rfl, by decide, ?_⟩
  intro g3 eg3
  refine ⟨[.int 0, .int 0, .int 1, .int 0, .int 0, .int 0, .int 0, .null, .null, .null, .null], by rw [eg3, xu_e]; rfl, by decide, ?_⟩
  intro g4 eg4
  refine ⟨[.int 0, .int 0, .int 1, .int 0, .int 0, .int 0, .int 0, .null, .null, .null, .null], by rw [eg4, xu_e]; rfl, by decide, ?_⟩
  intro g5 eg5
  have d1 : g5.1 = N := by rw [eg5, xu_1, eg4, xu_1, eg3, xu_1, eg2, xu_1, eg1, xu_1, eg0, xu_1]
  have dN : g5.2 N = some (.inr (4, [.int 0, .int 0, .int 1, .int 0, .int 0, .int 0, .int 0, .null, .null, .null, .null])) := by
    rw [eg5, xu_e]
    rfl
  have dF : ∀ j, j ≠ N → g5.2 j = F j := by
    intro j hj
    rw [eg5, xu_n hj, eg4, xu_n hj, eg3, xu_n hj, eg2, xu_n hj, eg1, xu_n hj, eg0, xu_n hj]
  clear eg0 eg1 eg2 eg3 eg4 eg5
  refine ⟨kc + 15, ks + 126, by omega, by omega, ?_⟩
  intro b0 h0 eb0 eh0
  have s01 : g5.1 + 1 = N + 1 := by rw [d1]
  rw [s01] at eb0
  subst eb0
  have s02 : h0.1 = N + 1 := by rw [eh0, xn_1, s01]
  have s0e : h0.2 (N + 1) = some (.inr (1, [.null, .null, .null])) := by
    have := xn_e (h := g5) (e := .inr (1, [.null, .null, .null]))
    rw [s01] at this
    rw [eh0]
    exact this
  have s0n : ∀ j, j ≠ N + 1 → h0.2 j = g5.2 j := by
    intro j hj
    rw [eh0, xn_n]
    rw [s01]
    exact hj
  clear eh0
  refine ⟨3, kc + 12, 12, ks + 114, by omega, by omega, ?_⟩
  rw [← s02]
  refine init_Co (h := h0) (kc := 0) (ks := 0) (by rw [s02]; exact s0e) ?_
  intro k0 f01 f02
  rw [s02] at f01 f02
  refine ⟨rfl, [.int 0, .int 0, .int 1, .int 0, .int 0, .int 0, .int 0, .null, .null, .null, .null], ?_, by decide, ?_⟩
  · rw [f02, blk_out (by omega), s0n N (by omega)]
    exact dN
  intro u0 eu0
  rw [s02] at eu0
  have u01 : u0.1 = N + 4 := by rw [eu0, xu_1, f01]
  have u0N : u0.2 N = some (.inr (4, [.int 0, .int 0, .int 1, .int 0, .int 0, .int 0, .int 0, .ref (N + 1), .null, .null, .null])) := by
    rw [eu0, xu_e]
    rfl
  have u0n : ∀ j, j ≠ N → u0.2 j = blk h0.2 (N + 1) (coC (N + 1)) j := by
    intro j hj
    rw [eu0, xu_n hj, f02]
  clear eu0 f02 f01
  refine ⟨kc + 11, ks + 112, by omega, by omega, ?_⟩
  intro b1 h1 eb1 eh1
  have s11 : u0.1 + 1 = N + 5 := by rw [u01]
  rw [s11] at eb1
  subst eb1
  have s12 : h1.1 = N + 5 := by rw [eh1, xn_1, s11]
  have s1e : h1.2 (N + 5) = some (.inr (5, [.null, .null])) := by
    have := xn_e (h := u0) (e := .inr (5, [.null, .null]))
    rw [s11] at this
    rw [eh1]
    exact this
  have s1n : ∀ j, j ≠ N + 5 → h1.2 j = u0.2 j := by
    intro j hj
    rw [eh1, xn_n]
    rw [s11]
    exact hj
  clear eh1
  refine ⟨2, kc + 9, 32, ks + 80, by omega, by omega, ?_⟩
  rw [← s12]
  refine init_Se (h := h1) (kc := 0) (ks := 0) (by rw [s12]; exact s1e) ?_
  intro k1 f11 f12
  rw [s12] at f11 f12
  refine ⟨rfl, [.int 0, .int 0, .int 1, .int 0, .int 0, .int 0, .int 0, .ref (N + 1), .null, .null, .null], ?_, by decide, ?_⟩
  · rw [f12, blk_out (by omega), s1n N (by omega)]
    exact u0N
  intro u1 eu1
  rw [s12] at eu1
  have u11 : u1.1 = N + 7 := by rw [eu1, xu_1, f11]
  have u1N : u1.2 N = some (.inr (4, [.int 0, .int 0, .int 1, .int 0, .int 0, .int 0, .int 0, .ref (N + 1), .ref (N + 5), .null, .null])) := by
    rw [eu1, xu_e]
    rfl
  have u1n : ∀ j, j ≠ N → u1.2 j = blk h1.2 (N + 5) (seC (N + 5)) j := by
    intro j hj
    rw [eu1, xu_n hj, f12]
  clear eu1 f12 f11
  refine ⟨kc + 8, ks + 77, by omega, by omega, ?_⟩
  intro b2 h2 eb2 eh2
  have s21 : u1.1 + 1 = N + 8 := by rw [u11]
  rw [s21] at eb2
  subst eb2
  have s22 : h2.1 = N + 8 := by rw [eh2, xn_1, s21]
  have s2e : h2.2 (N + 8) = some (.inr (7, [.null, .null, .null])) := by
    have := xn_e (h := u1) (e := .inr (7, [.null, .null, .null]))
    rw [s21] at this
    rw [eh2]
    exact this
  have s2n : ∀ j, j ≠ N + 8 → h2.2 j = u1.2 j := by
    intro j hj
    rw [eh2, xn_n]
    rw [s21]
    exact hj
  clear eh2
  refine ⟨3, kc + 5, 48, ks + 29, by omega, by omega, ?_⟩
  rw [← s22]
  refine init_Vo (h := h2) (kc := 0) (ks := 0) (by rw [s22]; exact s2e) ?_
  intro k2 f21 f22
  rw [s22] at f21 f22
  refine ⟨rfl, [.int 0, .int 0, .int 1, .int 0, .int 0, .int 0, .int 0, .ref (N + 1), .ref (N + 5), .null, .null], ?_, by decide, ?_⟩
  · rw [f22, blk_out (by omega), s2n N (by omega)]
    exact u1N
  intro u2 eu2
  rw [s22] at eu2
  have u21 : u2.1 = N + 11 := by rw [eu2, xu_1, f21]
  have u2N : u2.2 N = some (.inr (4, [.int 0, .int 0, .int 1, .int 0, .int 0, .int 0, .int 0, .ref (N + 1), .ref (N + 5), .ref (N + 8), .null])) := by
    rw [eu2, xu_e]
    rfl
  have u2n : ∀ j, j ≠ N → u2.2 j = blk h2.2 (N + 8) (voC (N + 8)) j := by
    intro j hj
    rw [eu2, xu_n hj, f22]
  clear eu2 f22 f21
  refine ⟨kc + 4, ks + 15, by omega, by omega, ?_⟩
  intro b3 h3 eb3 eh3
  have s31 : u2.1 + 1 = N + 12 := by rw [u21]
  rw [s31] at eb3
  subst eb3
  have s32 : h3.1 = N + 12 := by rw [eh3, xn_1, s31]
  have s3e : h3.2 (N + 12) = some (.inr (6, [.int 0, .int 0, .int 0, .int 0, .int 0, .int 0, .int 0, .int 0, .int 0, .int 0, .int 0, .int 0, .int 0, .null])) := by
    have := xn_e (h := u2) (e := .inr (6, [.int 0, .int 0, .int 0, .int 0, .int 0, .int 0, .int 0, .int 0, .int 0, .int 0, .int 0, .int 0, .int 0, .null]))
    rw [s31] at this
    rw [eh3]
    exact this
  have s3n : ∀ j, j ≠ N + 12 → h3.2 j = u2.2 j := by
    intro j hj
    rw [eh3, xn_n]
    rw [s31]
    exact hj
  clear eh3
  refine ⟨4, kc, 15, ks, by omega, by omega, ?_⟩
  rw [← s32]
  refine init_Ta (h := h3) (kc := 0) (ks := 0) (by rw [s32]; exact s3e) ?_
  intro k3 f31 f32
  rw [s32] at f31 f32
  refine ⟨rfl, [.int 0, .int 0, .int 1, .int 0, .int 0, .int 0, .int 0, .ref (N + 1), .ref (N + 5), .ref (N + 8), .null], ?_, by decide, ?_⟩
  · rw [f32, blk_out (by omega), s3n N (by omega)]
    exact u2N
  intro u3 eu3
  rw [s32] at eu3
  have u31 : u3.1 = N + 16 := by rw [eu3, xu_1, f31]
  have u3N : u3.2 N = some (.inr (4, [.int 0, .int 0, .int 1, .int 0, .int 0, .int 0, .int 0, .ref (N + 1), .ref (N + 5), .ref (N + 8), .ref (N + 12)])) := by
    rw [eu3, xu_e]
    rfl
  have u3n : ∀ j, j ≠ N → u3.2 j = blk h3.2 (N + 12) (taC (N + 12)) j := by
    intro j hj
    rw [eu3, xu_n hj, f32]
  clear eu3 f32 f31
  refine ⟨[.int 0, .int 0, .int 1, .int 0, .int 0, .int 0, .int 0, .ref (N + 1), .ref (N + 5), .ref (N + 8), .ref (N + 12)], u3N, by decide, ?_⟩
  intro g6 eg6
  subst eg6
  refine hQ _ ?_ (fun j => ?_)
  · rw [xu_1, u31]
  unfold noC
  rw [blk_cons]
  by_cases c : j = N
  · rw [if_pos c, c, xu_e]
    rfl
  · rw [if_neg c, xu_n c, u3n j c, blk_app, blk_app, blk_app]
    simp only [List.length_append, coC_len, seC_len, voC_len, Nat.add_assoc, Nat.reduceAdd]
    refine blk_cg (fun w3 => ?_)
    simp only [taC, coC, List.length_cons, List.length_nil] at w3
    rw [s3n j (by omega), u2n j c]
    refine blk_cg (fun w2 => ?_)
    simp only [voC, List.length_cons, List.length_nil] at w2
    rw [s2n j (by omega), u1n j c]
    refine blk_cg (fun w1 => ?_)
    simp only [seC, List.length_cons, List.length_nil] at w1
    rw [s1n j (by omega), u0n j c]
    refine blk_cg (fun w0 => ?_)
    simp only [coC, List.length_cons, List.length_nil] at w0
    rw [s0n j (by omega), dF j c]
/-! the class's heap while it is made -/
def ph (o l : List Value) (ar nr : List (Option Nat)) (s : cS) (d : Nat) : xH := (d, fun j => if j = 0 ∨ d < j then none else if j = 1 then some (.inr (0, o)) else if j = 2 then some (.inl (1, .inr nr)) else if j = 3 then some (.inr (2, l)) else if j = 4 then some (.inl (2, .inr ar)) else some (ccell 1 s (j - 1)))
section PH
variable {o o' l l' : List Value} {ar ar' nr nr' : List (Option Nat)} {s : cS} {d j k m : Nat} {h : xH}
theorem ph_no (hj : j = 0 ∨ d < j) : (ph o l ar nr s d).2 j = none := if_pos hj
theorem ph_1 (hd : 1 ≤ d) : (ph o l ar nr s d).2 1 = some (.inr (0, o)) := by
  unfold ph
  dsimp only
  rw [if_neg (by omega), if_pos rfl]
theorem ph_2 (hd : 2 ≤ d) : (ph o l ar nr s d).2 2 = some (.inl (1, .inr nr)) := by
  unfold ph
  dsimp only
  rw [if_neg (by omega), if_neg (by decide), if_pos rfl]
theorem ph_3 (hd : 3 ≤ d) : (ph o l ar nr s d).2 3 = some (.inr (2, l)) := by
  unfold ph
  dsimp only
  rw [if_neg (by omega), if_neg (by decide), if_neg (by decide), if_pos rfl]
theorem ph_4 (hd : 4 ≤ d) : (ph o l ar nr s d).2 4 = some (.inl (2, .inr ar)) := by
  unfold ph
  dsimp only
  rw [if_neg (by omega), if_neg (by decide), if_neg (by decide), if_neg (by decide), if_pos rfl]
theorem ph_c (h5 : 5 ≤ j) (hj : j ≤ d) : (ph o l ar nr s d).2 j = some (ccell 1 s (j - 1)) := by
  unfold ph
  dsimp only
  rw [if_neg (by omega), if_neg (by omega), if_neg (by omega), if_neg (by omega), if_neg (by omega)]
theorem ph_ext (h1 : h.1 = d) (h2 : ∀ j, h.2 j = (ph o l ar nr s d).2 j) : h = ph o l ar nr s d := Prod.ext h1 (funext h2)
/-- cells up to d don't know where the heap ends -/
theorem ph_lt {d' : Nat} (h1 : j ≤ d) (h2 : j ≤ d') : (ph o l ar nr s d).2 j = (ph o l ar nr s d').2 j := by
  unfold ph
  dsimp only
  by_cases c : j = 0
  · rw [if_pos (Or.inl c), if_pos (Or.inl c)]
  · rw [if_neg (by omega), if_neg (by omega)]
theorem ph_n1 : xn (0, fun _ => none) (.inr (0, o)) = ph o l ar nr s 1 := by
  refine ph_ext rfl (fun j => ?_)
  by_cases c : j = 1
  · rw [c, ph_1 (Nat.le_refl _)]
    rfl
  · rw [ph_no (by omega), xn_n c]
theorem ph_n2 : xn (ph o l ar nr s 1) (.inl (1, .inr nr')) = ph o l ar nr' s 2 := by
  refine ph_ext rfl (fun j => ?_)
  by_cases c : j = 2
  · rw [c, ph_2 (Nat.le_refl _)]
    rfl
  · rw [xn_n c]
    by_cases c1 : j = 1
    · rw [c1, ph_1 (by decide), ph_1 (by decide)]
    · rw [ph_no (by omega), ph_no (by omega)]
theorem ph_n3 : xn (ph o l ar nr s 2) (.inr (2, l')) = ph o l' ar nr s 3 := by
  refine ph_ext rfl (fun j => ?_)
  by_cases c : j = 3
  · rw [c, ph_3 (Nat.le_refl _)]
    rfl
  · rw [xn_n c]
    by_cases c1 : j = 1
    · rw [c1, ph_1 (by decide), ph_1 (by decide)]
    · by_cases c2 : j = 2
      · rw [c2, ph_2 (by decide), ph_2 (by decide)]
      · rw [ph_no (by omega), ph_no (by omega)]
theorem ph_n4 : xn (ph o l ar nr s 3) (.inl (2, .inr ar')) = ph o l ar' nr s 4 := by
  refine ph_ext rfl (fun j => ?_)
  by_cases c : j = 4
  · rw [c, ph_4 (Nat.le_refl _)]
    rfl
  · rw [xn_n c]
    by_cases c1 : j = 1
    · rw [c1, ph_1 (by decide), ph_1 (by decide)]
    · by_cases c2 : j = 2
      · rw [c2, ph_2 (by decide), ph_2 (by decide)]
      · by_cases c3 : j = 3
        · rw [c3, ph_3 (by decide), ph_3 (by decide)]
        · rw [ph_no (by omega), ph_no (by omega)]
theorem ph_u1 (hd : 1 ≤ d) : xu (ph o l ar nr s d) 1 (.inr (0, o')) = ph o' l ar nr s d := by
  refine ph_ext rfl (fun j => ?_)
  by_cases c : j = 1
  · rw [c, ph_1 hd, xu_e]
  · rw [xu_n c]
    unfold ph
    dsimp only
    rw [if_neg c, if_neg c]
theorem ph_u2 (hd : 2 ≤ d) : xu (ph o l ar nr s d) 2 (.inl (1, .inr nr')) = ph o l ar nr' s d := by
  refine ph_ext rfl (fun j => ?_)
  by_cases c : j = 2
  · rw [c, ph_2 hd, xu_e]
  · rw [xu_n c]
    unfold ph
    dsimp only
    rw [if_neg c, if_neg c]
theorem ph_u3 (hd : 3 ≤ d) : xu (ph o l ar nr s d) 3 (.inr (2, l')) = ph o l' ar nr s d := by
  refine ph_ext rfl (fun j => ?_)
  by_cases c : j = 3
  · rw [c, ph_3 hd, xu_e]
  · rw [xu_n c]
    unfold ph
    dsimp only
    rw [if_neg c, if_neg c]
theorem ph_u4 (hd : 4 ≤ d) : xu (ph o l ar nr s d) 4 (.inl (2, .inr ar')) = ph o l ar' nr s d := by
  refine ph_ext rfl (fun j => ?_)
  by_cases c : j = 4
  · rw [c, ph_4 hd, xu_e]
  · rw [xu_n c]
    unfold ph
    dsimp only
    rw [if_neg c, if_neg c]
theorem cc_m (hm : m < 123) (hk : k < 8) : ccell 1 s (4 + 8 * m + k) = mcell 1 s m k := by
  unfold ccell
  rw [if_neg (by omega), if_pos (by omega), show (4 + 8 * m + k - 4) / 8 = m by omega, show (4 + 8 * m + k - 4) % 8 = k by omega]
theorem cc_n {i : Nat} (hi : i < 8) (hk : k < 17) : ccell 1 s (988 + 17 * i + k) = ncell 1 s i k := by
  unfold ccell
  rw [if_neg (by omega), if_neg (by omega), show (988 + 17 * i + k - 988) / 17 = i by omega, show (988 + 17 * i + k - 988) % 17 = k by omega]
theorem meC_c (hz : s.2.1 m = fun _ _ => 0) (hk : k < 8) : (meC (5 + 8 * m))[k]? = some (mcell 1 s m k) := by
  have e : ma 1 m = 5 + 8 * m := by
    unfold ma
    omega
  have hh : k = 0 ∨ k = 1 ∨ k = 2 ∨ k = 3 ∨ k = 4 ∨ k = 5 ∨ k = 6 ∨ k = 7 := by omega
  rcases hh with z | z | z | z | z | z | z | z <;> subst z
  · show some (Sum.inr (3, _)) = some (Sum.inr (3, om_0 1 s m))
    unfold om_0
    rw [hz, e]
  · show some (Sum.inr (5, _)) = some (Sum.inr (5, om_1 1 s m))
    unfold om_1
    rw [e]
  · show some z16 = some (Sum.inl (0, Sum.inl (rAr 16 (s.2.1 m 2))))
    rw [hz]
    rfl
  · show some z16 = some (Sum.inl (0, Sum.inl (rAr 16 (s.2.1 m 3))))
    rw [hz]
    rfl
  · show some (Sum.inr (1, _)) = some (Sum.inr (1, om_4 1 s m))
    unfold om_4
    rw [e]
  · show some z4 = some (Sum.inl (0, Sum.inl (rAr 4 (s.2.1 m 5))))
    rw [hz]
    rfl
  · show some z4 = some (Sum.inl (0, Sum.inl (rAr 4 (s.2.1 m 6))))
    rw [hz]
    rfl
  · show some z4 = some (Sum.inl (0, Sum.inl (rAr 4 (s.2.1 m 7))))
    rw [hz]
    rfl
theorem meC_len {n : Nat} : (meC n).length = 8 := rfl
/-- a new message -/
theorem ph_m {e : xE} (hm : m < 123) (hz : s.2.1 m = fun _ _ => 0) (h1 : h.1 = 4 + 8 * m + 8) (h2 : ∀ j, h.2 j = blk (xn (ph o l ar nr s (4 + 8 * m)) e).2 (5 + 8 * m) (meC (5 + 8 * m)) j) : h = ph o l ar nr s (4 + 8 * m + 8) := by
  refine ph_ext h1 (fun j => ?_)
  rw [h2]
  by_cases c : 5 + 8 * m ≤ j ∧ j < 5 + 8 * m + 8
  · have ej : j = 5 + 8 * m + (j - (5 + 8 * m)) := by omega
    generalize j - (5 + 8 * m) = k at ej
    subst ej
    rw [blk_in (by rw [meC_len]; omega), meC_c hz (by omega), ph_c (by omega) (by omega), show 5 + 8 * m + k - 1 = 4 + 8 * m + k by omega, cc_m hm (by omega)]
  · rw [blk_out (by rw [meC_len]; exact c), xn_n (by show j ≠ 4 + 8 * m + 1; omega)]
    by_cases c2 : j ≤ 4 + 8 * m
    · exact ph_lt c2 (by omega)
    · rw [ph_no (by omega), ph_no (by omega)]
theorem t_msg {Q : Option Value → xH → Prop} {kc ks : Nat} (hm : m < 123) (hz : s.2.1 m = fun _ _ => 0) (hQ : Q none (ph o l ar nr s (4 + 8 * m + 8))) : w_Me_init Q (4 + 8 * m + 1) (xn (ph o l ar nr s (4 + 8 * m)) (.inr (3, [.int 0, .int 0, .int 0, .int 0, .int 0, .int 0, .int 0, .int 0, .null, .null]))) (kc + 7) (ks + 49) := by
  refine init_Me (h := xn (ph o l ar nr s (4 + 8 * m)) (.inr (3, [.int 0, .int 0, .int 0, .int 0, .int 0, .int 0, .int 0, .int 0, .null, .null]))) xn_e ?_
  intro h' e1 e2
  have e1' : h'.1 = 4 + 8 * m + 8 := e1
  have e2' : ∀ j, h'.2 j = blk (xn (ph o l ar nr s (4 + 8 * m)) (.inr (3, [.int 0, .int 0, .int 0, .int 0, .int 0, .int 0, .int 0, .int 0, .null, .null]))).2 (5 + 8 * m) (meC (5 + 8 * m)) j := by
    intro j
    have := e2 j
    rw [show (xn (ph o l ar nr s (4 + 8 * m)) (.inr (3, [.int 0, .int 0, .int 0, .int 0, .int 0, .int 0, .int 0, .int 0, .null, .null]))).1 = 5 + 8 * m by show 4 + 8 * m + 1 = _; omega] at this
    exact this
  rw [ph_m hm hz e1' e2']
  exact hQ
end PH
/-! the mail -/
def rwA (k : Nat) : List (Option Nat) := (List.range 120).map (fun x => if x < k then some (13 + 8 * x) else none)
theorem rwA_0 : rwA 0 = List.replicate 120 none := by decide
theorem rwA_s {k : Nat} : (rwA k).set k (some (13 + 8 * k)) = rwA (k + 1) := by
  unfold rwA
  rw [map_set]
  refine List.map_congr_left (fun x _ => ?_)
  by_cases c : x = k
  · rw [if_pos c, c, if_pos (by omega)]
  · rw [if_neg c]
    by_cases c2 : x < k
    · rw [if_pos c2, if_pos (by omega)]
    · rw [if_neg c2, if_neg (by omega)]
theorem rwA_len {k : Nat} : (rwA k).length = 120 := by
  unfold rwA
  rw [List.length_map, List.length_range]
theorem t_Ma36 {Q : Option Value → xH → Prop} {o : List Value} {nr : List (Option Nat)} {s : cS} {kc ks : Nat} (hz : s.2.1 = fun _ _ _ => 0) (hQ : Q none (ph o [.ref 4, .ref 5, .int 0, .int 0] (rwA 120) nr s 972)) : ∀ d k, k + d = 120 → w_Ma_init_36 Q (d + 1) 3 (nI k) (ph o [.ref 4, .ref 5, .int 0, .int 0] (rwA k) nr s (4 + 8 * (k + 1))) (kc + 8 * d) (ks + 59 * d) := by
  intro d
  induction d with
  | zero =>
    intro k hk
    have e : k = 120 := by omega
    subst e
    rw [w_Ma_init_36]
    exact ⟨fun _ => hQ, fun w => absurd (by decide) w⟩
  | succ d ih =>
    intro k hk
    have hlt : ¬ 120 ≤ nI k := by
      rw [show (120 : Int32) = nI 120 from rfl, nI_leI (by omega) (by omega)]
      omega
    obtain ⟨q, q1, q2⟩ := ty3
    rw [w_Ma_init_36]
    refine ⟨fun w => absurd w hlt, fun _ => ⟨_, _, ph_3 (by omega), rfl, kc + 8 * d + 7, ks + 59 * d + 49, by omega, by omega, ?_⟩⟩
    intro b4 h3 eb eh
    subst eh
    have eb' : b4 = 4 + 8 * (k + 1) + 1 := eb
    subst eb'
    refine ⟨7, kc + 8 * d, 49, ks + 59 * d, by omega, by omega, ?_⟩
    refine t_msg (kc := 0) (ks := 0) (show k + 1 < 123 by omega) (by rw [hz]) ?_
    refine ⟨rfl, 2, q, rwA k, 3, om_0 1 s (k + 1), q2, q1, ph_4 (by omega), ?_, nI_nn (by omega), ?_, ?_⟩
    · rw [ph_c (by omega) (by omega), show 4 + 8 * (k + 1) + 1 - 1 = 4 + 8 * (k + 1) + 0 by omega, cc_m (by omega) (by decide)]
      rfl
    · rw [nI_cl (by omega), rwA_len]
      omega
    · intro h13 e13
      subst e13
      rw [nI_cl (by omega), show 4 + 8 * (k + 1) + 1 = 13 + 8 * k by omega, ph_u4 (by omega), rwA_s, nI_1]
      exact ih (k + 1) (by omega)
theorem init_Ma {Q : Option Value → xH → Prop} {o : List Value} {ar nr : List (Option Nat)} {s : cS} {kc ks : Nat} (hz : s.2.1 = fun _ _ _ => 0) (hQ : Q none (ph o [.ref 4, .ref 5, .int 0, .int 0] (rwA 120) nr s 972)) : w_Ma_init Q 3 (ph o [.null, .null, .int 0, .int 0] ar nr s 3) (kc + 969) (ks + 7259) := by
  unfold w_Ma_init
  refine ⟨kc + 968, ks + 7139, by omega, by omega, ?_⟩
  intro b2 h1 eb eh
  have eb' : b2 = 4 := eb
  subst eb' eh
  rw [ph_n4]
  refine ⟨_, ph_3 (by decide), by decide, ?_⟩
  intro h6 e6
  subst e6
  rw [ph_u3 (by decide)]
  refine ⟨kc + 967, ks + 7129, by omega, by omega, ?_⟩
  intro b8 h7 eb8 eh7
  have eb' : b8 = 5 := eb8
  subst eb' eh7
  refine ⟨7, kc + 960, 49, ks + 7080, by omega, by omega, ?_⟩
  refine t_msg (m := 0) (kc := 0) (ks := 0) (by decide) (by rw [hz]) ?_
  refine ⟨rfl, _, ph_3 (by decide), by decide, ?_⟩
  intro h17 e17
  subst e17
  rw [ph_u3 (by decide)]
  refine ⟨_, ph_3 (by decide), by decide, ?_⟩
  intro h19 e19
  subst e19
  rw [ph_u3 (by decide)]
  refine ⟨_, ph_3 (by decide), by decide, ?_⟩
  intro h21 e21
  subst e21
  rw [ph_u3 (by decide), ← rwA_0]
  exact ⟨121, t_Ma36 (kc := kc) (ks := ks) hz hQ 120 0 rfl⟩
/-! the class's nodes, and its constructor -/
def is0 (M : Nat) (F : Int32) : cS := (fun i k j => if k = 0 then (if j = 0 then nI i else if j = 1 then (if i < M then 1 else 0) else if j = 2 then 1 else 0) else if i < M ∧ j = 0 then (if k = 6 then 1 else if k = 7 then F else 0) else 0, fun _ _ _ => 0, fun _ => 0, fun x => x + 1, 0)
def ndA (k : Nat) : List (Option Nat) := (List.range 8).map (fun x => if x < k then some (989 + 17 * x) else none)
theorem ndA_0 : ndA 0 = List.replicate 8 none := by decide
theorem ndA_s {k : Nat} : (ndA k).set k (some (989 + 17 * k)) = ndA (k + 1) := by
  unfold ndA
  rw [map_set]
  refine List.map_congr_left (fun x _ => ?_)
  by_cases c : x = k
  · rw [if_pos c, c, if_pos (by omega)]
  · rw [if_neg c]
    by_cases c2 : x < k
    · rw [if_pos c2, if_pos (by omega)]
    · rw [if_neg c2, if_neg (by omega)]
theorem ndA_len {k : Nat} : (ndA k).length = 8 := by
  unfold ndA
  rw [List.length_map, List.length_range]
theorem ndA_g {k : Nat} (hk : k < 8) : (ndA (k + 1))[k]? = some (some (989 + 17 * k)) := by
  unfold ndA
  rw [rng_get hk, if_pos (by omega)]
theorem ty4 : ∃ q, vwCl[4]? = some q ∧ xTys[1]? = some (.object q.1) := ⟨_, rfl, rfl⟩
theorem noC_len {n : Nat} {v : Int32} : (noC n v).length = 17 := rfl
/-- a node that is not there yet -/
theorem noC_0 {M k c : Nat} {F : Int32} (hM : ¬ k < M) (hc : c < 17) : (noC (989 + 17 * k) (nI k))[c]? = some (ncell 1 (is0 M F) k c) := by
  have e : na 1 k = 989 + 17 * k := by
    unfold na
    omega
  have hh : c = 0 ∨ c = 1 ∨ c = 2 ∨ c = 3 ∨ c = 4 ∨ c = 5 ∨ c = 6 ∨ c = 7 ∨ c = 8 ∨ c = 9 ∨ c = 10 ∨ c = 11 ∨ c = 12 ∨ c = 13 ∨ c = 14 ∨ c = 15 ∨ c = 16 := by omega
  have z : ∀ i, i ≠ 0 → (is0 M F).1 k i = fun _ => 0 := by
    intro i hi
    funext j
    show (if i = 0 then _ else if k < M ∧ j = 0 then _ else 0) = (0 : Int32)
    rw [if_neg hi, if_neg (fun w => hM w.1)]
  have z0 : (is0 M F).1 k 0 0 = nI k ∧ (is0 M F).1 k 0 1 = 0 ∧ (is0 M F).1 k 0 2 = 1 ∧ (is0 M F).1 k 0 3 = 0 ∧ (is0 M F).1 k 0 4 = 0 ∧ (is0 M F).1 k 0 5 = 0 ∧ (is0 M F).1 k 0 6 = 0 := by
    refine ⟨rfl, ?_, rfl, rfl, rfl, rfl, rfl⟩
    show (if k < M then (1 : Int32) else 0) = 0
    rw [if_neg hM]
  rcases hh with w | w | w | w | w | w | w | w | w | w | w | w | w | w | w | w | w <;> subst w
  · show some (Sum.inr (4, _)) = some (Sum.inr (4, on_0 1 (is0 M F) k))
    unfold on_0
    rw [z0.1, z0.2.1, z0.2.2.1, z0.2.2.2.1, z0.2.2.2.2.1, z0.2.2.2.2.2.1, z0.2.2.2.2.2.2, e]
  · show some (Sum.inr (1, _)) = some (Sum.inr (1, on_1 1 (is0 M F) k))
    unfold on_1
    rw [e]
  · show some z4 = some (Sum.inl (0, Sum.inl (rAr 4 ((is0 M F).1 k 2))))
    rw [z 2 (by decide)]
    rfl
  · show some z4 = some (Sum.inl (0, Sum.inl (rAr 4 ((is0 M F).1 k 3))))
    rw [z 3 (by decide)]
    rfl
  · show some z4 = some (Sum.inl (0, Sum.inl (rAr 4 ((is0 M F).1 k 4))))
    rw [z 4 (by decide)]
    rfl
  · show some (Sum.inr (5, _)) = some (Sum.inr (5, on_5 1 (is0 M F) k))
    unfold on_5
    rw [e]
  · show some z16 = some (Sum.inl (0, Sum.inl (rAr 16 ((is0 M F).1 k 6))))
    rw [z 6 (by decide)]
    rfl
  · show some z16 = some (Sum.inl (0, Sum.inl (rAr 16 ((is0 M F).1 k 7))))
    rw [z 7 (by decide)]
    rfl
  · show some (Sum.inr (7, _)) = some (Sum.inr (7, on_8 1 (is0 M F) k))
    unfold on_8
    rw [e]
  · show some z16 = some (Sum.inl (0, Sum.inl (rAr 16 ((is0 M F).1 k 9))))
    rw [z 9 (by decide)]
    rfl
  · show some z16 = some (Sum.inl (0, Sum.inl (rAr 16 ((is0 M F).1 k 10))))
    rw [z 10 (by decide)]
    rfl
  · show some z16 = some (Sum.inl (0, Sum.inl (rAr 16 ((is0 M F).1 k 11))))
    rw [z 11 (by decide)]
    rfl
  · show some (Sum.inr (6, _)) = some (Sum.inr (6, on_12 1 (is0 M F) k))
    unfold on_12
    rw [z 12 (by decide), e]
  · show some (Sum.inr (1, _)) = some (Sum.inr (1, on_13 1 (is0 M F) k))
    unfold on_13
    rw [e]
  · show some z4 = some (Sum.inl (0, Sum.inl (rAr 4 ((is0 M F).1 k 14))))
    rw [z 14 (by decide)]
    rfl
  · show some z4 = some (Sum.inl (0, Sum.inl (rAr 4 ((is0 M F).1 k 15))))
    rw [z 15 (by decide)]
    rfl
  · show some z4 = some (Sum.inl (0, Sum.inl (rAr 4 ((is0 M F).1 k 16))))
    rw [z 16 (by decide)]
    rfl
/-- a node of the first set: but for three cells as the one that is not there yet -/
theorem noC_1 {M k c : Nat} {F : Int32} (hc : c < 17) (n0 : c ≠ 0) (n6 : c ≠ 6) (n7 : c ≠ 7) : ncell 1 (is0 M F) k c = ncell 1 (is0 0 F) k c := by
  refine ncell_cg hc ?_
  funext j
  show (if c = 0 then _ else if k < M ∧ j = 0 then (if c = 6 then 1 else if c = 7 then F else 0) else 0) = (if c = 0 then _ else if k < 0 ∧ j = 0 then (if c = 6 then 1 else if c = 7 then F else 0) else (0 : Int32))
  rw [if_neg n0, if_neg n0, if_neg n6, if_neg n7]
  rw [if_neg (fun w => absurd w.1 (Nat.not_lt_zero _))]
  by_cases w : k < M ∧ j = 0
  · rw [if_pos w]
  · rw [if_neg w]
theorem nc_6 {M k : Nat} {F : Int32} (hk : k < M) : ncell 1 (is0 M F) k 6 = .inl (0, .inl ((List.replicate 16 0).set 0 1)) := by
  show Sum.inl (0, Sum.inl (rAr 16 ((is0 M F).1 k 6))) = _
  have e : (is0 M F).1 k 6 = up1 (fun _ => 0) 0 1 := by
    funext j
    show (if k < M ∧ j = 0 then (1 : Int32) else 0) = if j = 0 then 1 else 0
    by_cases w : j = 0
    · rw [if_pos ⟨hk, w⟩, if_pos w]
    · rw [if_neg (fun z => w z.2), if_neg w]
  rw [e, ← rAr_set]
  rfl
theorem nc_7 {M k : Nat} {F : Int32} (hk : k < M) : ncell 1 (is0 M F) k 7 = .inl (0, .inl ((List.replicate 16 0).set 0 F)) := by
  show Sum.inl (0, Sum.inl (rAr 16 ((is0 M F).1 k 7))) = _
  have e : (is0 M F).1 k 7 = up1 (fun _ => 0) 0 F := by
    funext j
    show (if k < M ∧ j = 0 then F else 0) = if j = 0 then F else 0
    by_cases w : j = 0
    · rw [if_pos ⟨hk, w⟩, if_pos w]
    · rw [if_neg (fun z => w z.2), if_neg w]
  rw [e, ← rAr_set]
  rfl
theorem nc_00 {M k : Nat} {F : Int32} (hk : k < M) : ncell 1 (is0 M F) k 0 = .inr (4, [.int (nI k), .int 1, .int 1, .int 0, .int 0, .int 0, .int 0, .ref (989 + 17 * k + 1), .ref (989 + 17 * k + 5), .ref (989 + 17 * k + 8), .ref (989 + 17 * k + 12)]) := by
  have e : na 1 k = 989 + 17 * k := by
    unfold na
    omega
  have e1 : (is0 M F).1 k 0 1 = 1 := by
    show (if k < M then (1 : Int32) else 0) = 1
    rw [if_pos hk]
  show Sum.inr (4, on_0 1 (is0 M F) k) = _
  unfold on_0
  rw [e1, e]
  rfl
section NDS
variable {o l : List Value} {ar : List (Option Nat)} {M k : Nat} {F : Int32} {h h7 : xH} {e : xE}
/-- a node is made -/
theorem ph_nd (hk : k < 8) (hM : ¬ k < M) (h1 : h.1 = 988 + 17 * (k + 1)) (h2 : ∀ j, h.2 j = if j = 2 then some (.inl (1, .inr (ndA (k + 1)))) else blk (xn (ph o l ar (ndA k) (is0 M F) (988 + 17 * k)) e).2 (989 + 17 * k) (noC (989 + 17 * k) (nI k)) j) : h = ph o l ar (ndA (k + 1)) (is0 M F) (988 + 17 * (k + 1)) := by
  refine ph_ext h1 (fun j => ?_)
  rw [h2]
  by_cases c2 : j = 2
  · rw [if_pos c2, c2, ph_2 (by omega)]
  · rw [if_neg c2]
    by_cases c : 989 + 17 * k ≤ j ∧ j < 989 + 17 * k + 17
    · have ej : j = 989 + 17 * k + (j - (989 + 17 * k)) := by omega
      generalize j - (989 + 17 * k) = i at ej
      subst ej
      rw [blk_in (by rw [noC_len]; omega), noC_0 hM (by omega), ph_c (by omega) (by omega), show 989 + 17 * k + i - 1 = 988 + 17 * k + i by omega, cc_n hk (by omega)]
    · rw [blk_out (by rw [noC_len]; exact c), xn_n (by show j ≠ 988 + 17 * k + 1; omega)]
      by_cases c3 : j ≤ 988 + 17 * k
      · have e4 : (ph o l ar (ndA k) (is0 M F) (988 + 17 * k)).2 j = (ph o l ar (ndA (k + 1)) (is0 M F) (988 + 17 * k)).2 j := by
          rw [← ph_u2 (nr' := ndA (k + 1)) (nr := ndA k) (by omega), xu_n c2]
        rw [e4]
        exact ph_lt c3 (by omega)
      · rw [ph_no (by omega), ph_no (by omega)]
theorem ph_nd1 (hk : k < 8) (hM : k < M) (h1 : h.1 = 988 + 17 * (k + 1)) (h2 : ∀ j, h.2 j = if j = 989 + 17 * k + 7 then some (.inl (0, .inl ((List.replicate 16 0).set 0 F))) else if j = 989 + 17 * k + 6 then some (.inl (0, .inl ((List.replicate 16 0).set 0 1))) else if j = 989 + 17 * k then some (ncell 1 (is0 M F) k 0) else if j = 2 then some (.inl (1, .inr (ndA (k + 1)))) else blk (xn (ph o l ar (ndA k) (is0 M F) (988 + 17 * k)) e).2 (989 + 17 * k) (noC (989 + 17 * k) (nI k)) j) : h = ph o l ar (ndA (k + 1)) (is0 M F) (988 + 17 * (k + 1)) := by
  refine ph_ext h1 (fun j => ?_)
  rw [h2]
  by_cases d7 : j = 989 + 17 * k + 7
  · rw [if_pos d7, ph_c (by omega) (by omega), show j - 1 = 988 + 17 * k + 7 by omega, cc_n hk (by decide), nc_7 hM]
  · rw [if_neg d7]
    by_cases d6 : j = 989 + 17 * k + 6
    · rw [if_pos d6, ph_c (by omega) (by omega), show j - 1 = 988 + 17 * k + 6 by omega, cc_n hk (by decide), nc_6 hM]
    · rw [if_neg d6]
      by_cases d0 : j = 989 + 17 * k
      · rw [if_pos d0, ph_c (by omega) (by omega), show j - 1 = 988 + 17 * k + 0 by omega, cc_n hk (by decide)]
      · rw [if_neg d0]
        by_cases c2 : j = 2
        · rw [if_pos c2, c2, ph_2 (by omega)]
        · rw [if_neg c2]
          by_cases c : 989 + 17 * k ≤ j ∧ j < 989 + 17 * k + 17
          · have ej : j = 989 + 17 * k + (j - (989 + 17 * k)) := by omega
            generalize j - (989 + 17 * k) = i at ej
            subst ej
            rw [blk_in (by rw [noC_len]; omega), noC_0 (M := 0) (F := F) (Nat.not_lt_zero _) (by omega), ph_c (by omega) (by omega), show 989 + 17 * k + i - 1 = 988 + 17 * k + i by omega, cc_n hk (by omega), noC_1 (M := M) (by omega) (by omega) (by omega) (by omega)]
          · rw [blk_out (by rw [noC_len]; exact c), xn_n (by show j ≠ 988 + 17 * k + 1; omega)]
            by_cases c3 : j ≤ 988 + 17 * k
            · have e4 : (ph o l ar (ndA k) (is0 M F) (988 + 17 * k)).2 j = (ph o l ar (ndA (k + 1)) (is0 M F) (988 + 17 * k)).2 j := by
                rw [← ph_u2 (nr' := ndA (k + 1)) (nr := ndA k) (by omega), xu_n c2]
              rw [e4]
              exact ph_lt c3 (by omega)
            · rw [ph_no (by omega), ph_no (by omega)]
end NDS
theorem t_sput {Q : Option Value → xH → Prop} {h : xH} {n b1 b2 : Nat} {v : Int32} (h1 : h.2 n = some (.inr (5, [.ref b1, .ref b2]))) (h2 : h.2 b1 = some z16) (h3 : h.2 b2 = some z16) (n1 : n ≠ b1) (n2 : b1 ≠ b2) (hQ : Q none (xu (xu h b1 (.inl (0, .inl ((List.replicate 16 0).set 0 1)))) b2 (.inl (0, .inl ((List.replicate 16 0).set 0 v))))) : w_Se_put Q n 0 1 v h := by
  unfold w_Se_put
  refine s_Q_isIndex.mpr ⟨1, rfl, fun w => absurd w (by decide), fun _ => ⟨_, _, h1, rfl, _, h2, by decide, by decide, ?_⟩⟩
  intro h6 e6
  refine ⟨[.ref b1, .ref b2], b2, ?_, rfl, List.replicate 16 0, ?_, by decide, by decide, ?_⟩
  · rw [e6, xu_n n1]
    exact h1
  · rw [e6, xu_n (Ne.symm n2)]
    exact h3
  · intro h10 e10
    rw [e10, e6]
    exact hQ
set_option maxRecDepth 100000 in
theorem t_Q103 {Q : Option Value → xH → Prop} {l : List Value} {ar : List (Option Nat)} {M : Nat} {F l1 l2 l3 l5 l6 : Int32} {w2 w3 : Nat} {kc ks : Nat} (hM8 : M ≤ 8) (hQ : Q none (ph [.ref 2, .ref 3, .ref w2, .ref w3, .int 0] l ar (ndA 8) (is0 M F) 1124)) : ∀ d k, k + d = 8 → w_Q_init_103 Q (d + 1) 1 l1 l2 l3 (nI M) l5 l6 F (nI k) (ph [.ref 2, .ref 3, .ref w2, .ref w3, .int 0] l ar (ndA k) (is0 M F) (988 + 17 * k)) (kc + 17 * d) (ks + 140 * d) := by
  intro d
  induction d with
  | zero =>
    intro k hk
    have e : k = 8 := by omega
    subst e
    rw [w_Q_init_103]
    exact ⟨fun _ => hQ, fun w => absurd (by decide) w⟩
  | succ d ih =>
    intro k hk
    have hk8 : k < 8 := by omega
    obtain ⟨q, q1, q2⟩ := ty4
    rw [w_Q_init_103]
    refine ⟨fun w => absurd w (lt8 hk8), fun _ => ⟨_, _, ph_1 (by omega), rfl, kc + 17 * d + 16, ks + 140 * d + 129, by omega, by omega, ?_⟩⟩
    intro b4 h3 eb eh
    have eb' : b4 = 989 + 17 * k := by
      rw [eb]
      show 988 + 17 * k + 1 = _
      omega
    subst eb'
    refine ⟨16, kc + 17 * d, 129, ks + 140 * d, by omega, by omega, ?_⟩
    have s1 : h3.1 = 989 + 17 * k := by
      rw [eh]
      show 988 + 17 * k + 1 = _
      omega
    have se : h3.2 h3.1 = some (.inr (4, [.int 0, .int 0, .int 0, .int 0, .int 0, .int 0, .int 0, .null, .null, .null, .null])) := by
      rw [eh]
      exact xn_e
    have hco : ∀ Q', (∀ h', h'.1 = 988 + 17 * (k + 1) → (∀ j, h'.2 j = blk (xn (ph [.ref 2, .ref 3, .ref w2, .ref w3, .int 0] l ar (ndA k) (is0 M F) (988 + 17 * k)) (.inr (4, [.int 0, .int 0, .int 0, .int 0, .int 0, .int 0, .int 0, .null, .null, .null, .null]))).2 (989 + 17 * k) (noC (989 + 17 * k) (nI k)) j) → Q' none h') → w_No_init Q' (989 + 17 * k) (nI k) h3 16 129 := by
      intro Q' hq
      have := init_No (Q := Q') (v := nI k) (kc := 0) (ks := 0) se (fun h' e1 e2 => hq h' (by rw [e1, s1]; omega) (by rw [s1, eh] at e2; exact e2))
      rw [s1] at this
      exact this
    apply hco
    intro h7 f1 f2
    have f22 : ∀ j, j < 989 + 17 * k → h7.2 j = (ph [.ref 2, .ref 3, .ref w2, .ref w3, .int 0] l ar (ndA k) (is0 M F) (988 + 17 * k)).2 j := by
      intro j hj
      rw [f2, blk_out (by omega), xn_n]
      show j ≠ 988 + 17 * k + 1
      omega
    have fin : ∀ c, c < 17 → h7.2 (989 + 17 * k + c) = (noC (989 + 17 * k) (nI k))[c]? := by
      intro c hc
      rw [f2, blk_in (by rw [noC_len]; exact hc)]
    refine ⟨rfl, 1, q, ndA k, 4, [.int (nI k), .int 0, .int 1, .int 0, .int 0, .int 0, .int 0, .ref (989 + 17 * k + 1), .ref (989 + 17 * k + 5), .ref (989 + 17 * k + 8), .ref (989 + 17 * k + 12)], q2, q1, ?_, fin 0 (by decide), nI_nn (by omega), ?_, ?_⟩
    · rw [f22 2 (by omega), ph_2 (by omega)]
    · rw [nI_cl (by omega), ndA_len]
      exact hk8
    · intro h13 e13
      rw [nI_cl (by omega), ndA_s] at e13
      have g1 : h13.1 = 988 + 17 * (k + 1) := by rw [e13, xu_1, f1]
      have g2 : ∀ j, h13.2 j = if j = 2 then some (.inl (1, .inr (ndA (k + 1)))) else h7.2 j := by
        intro j
        rw [e13]
        rfl
      refine ⟨fun w => ?_, fun w => ?_⟩
      · have hM : ¬ k < M := by
          rw [nI_leI (by omega) (by omega)] at w
          omega
        unfold w_Q_init_161
        rw [nI_1, ph_nd (o := [.ref 2, .ref 3, .ref w2, .ref w3, .int 0]) (l := l) (ar := ar) (F := F) (e := .inr (4, [.int 0, .int 0, .int 0, .int 0, .int 0, .int 0, .int 0, .null, .null, .null, .null])) hk8 hM g1 (fun j => by rw [g2, f2])]
        exact ih (k + 1) (by omega)
      · have hM : k < M := by
          rw [nI_leI (by omega) (by omega)] at w
          omega
        have g3 : ∀ c, c < 17 → h13.2 (989 + 17 * k + c) = (noC (989 + 17 * k) (nI k))[c]? := by
          intro c hc
          rw [g2, if_neg (by omega), fin c hc]
        refine ⟨[.ref 2, .ref 3, .ref w2, .ref w3, .int 0], 2, ?_, rfl, 1, _, ndA (k + 1), 989 + 17 * k, rfl, rfl, ?_, nI_nn (by omega), ?_, _, g3 0 (by decide), by decide, ?_⟩
        · rw [g2, if_neg (by decide), f22 1 (by omega), ph_1 (by omega)]
        · rw [g2, if_pos rfl]
        · rw [nI_cl (by omega), ndA_g hk8]
        · intro h25 e25
          refine ⟨[.ref 2, .ref 3, .ref w2, .ref w3, .int 0], 2, ?_, rfl, 1, _, ndA (k + 1), 989 + 17 * k, rfl, rfl, ?_, nI_nn (by omega), ?_, [.int (nI k), .int 1, .int 1, .int 0, .int 0, .int 0, .int 0, .ref (989 + 17 * k + 1), .ref (989 + 17 * k + 5), .ref (989 + 17 * k + 8), .ref (989 + 17 * k + 12)], 989 + 17 * k + 5, ?_, rfl, ⟨[.ref (989 + 17 * k + 5 + 1), .ref (989 + 17 * k + 5 + 2)], ?_⟩, ?_⟩
          · rw [e25, xu_n (by omega), g2, if_neg (by decide), f22 1 (by omega), ph_1 (by omega)]
          · rw [e25, xu_n (by omega), g2, if_pos rfl]
          · rw [nI_cl (by omega), ndA_g hk8]
          · rw [e25, xu_e]
            rfl
          · rw [e25, xu_n (by omega)]
            exact g3 5 (by decide)
          · refine t_sput (b1 := 989 + 17 * k + 6) (b2 := 989 + 17 * k + 7) ?_ ?_ ?_ (by omega) (by omega) ?_
            · rw [e25, xu_n (by omega)]
              exact g3 5 (by decide)
            · rw [e25, xu_n (by omega)]
              exact g3 6 (by decide)
            · rw [e25, xu_n (by omega)]
              exact g3 7 (by decide)
            · refine ⟨rfl, ?_⟩
              unfold w_Q_init_161
              rw [nI_1]
              rw [ph_nd1 (h := xu (xu h25 (989 + 17 * k + 6) (.inl (0, .inl ((List.replicate 16 0).set 0 1)))) (989 + 17 * k + 7) (.inl (0, .inl ((List.replicate 16 0).set 0 F)))) (o := [.ref 2, .ref 3, .ref w2, .ref w3, .int 0]) (l := l) (ar := ar) (M := M) (F := F) (e := .inr (4, [.int 0, .int 0, .int 0, .int 0, .int 0, .int 0, .int 0, .null, .null, .null, .null])) hk8 hM (by rw [xu_1, xu_1, e25, xu_1, g1]) ?_]
              · exact ih (k + 1) (by omega)
              · intro j
                show (if j = 989 + 17 * k + 7 then _ else if j = 989 + 17 * k + 6 then _ else h25.2 j) = _
                rw [e25]
                show (if j = 989 + 17 * k + 7 then _ else if j = 989 + 17 * k + 6 then _ else if j = 989 + 17 * k then _ else h13.2 j) = _
                rw [g2, f2, nc_00 hM]
                rfl
/-! the class's constructor -/
def szI (p m : Int32) : Int32 := if 1 < (if m < p then m else p) then (if m < p then m else p) else 1
def szW (w n r : Int32) : Int32 := if w < (n + 1) - r then (n + 1) - r else w
def cf0 (n r w : Int32) : Int32 := ((((1 : Int32) <<< (n &&& 31)) - 1) + (256 * r)) + (4096 * w)
/-- the numbers of a new object: how many nodes, readers, writers -/
def nnI (p1 : Int32) : Int32 := szI p1 8
def ffI (p1 p2 p3 : Int32) : Int32 := cf0 (nnI p1) (szI p2 (nnI p1)) (szW (szI p3 (nnI p1)) (nnI p1) (szI p2 (nnI p1)))
theorem szI_8 {p : Int32} : ∃ M, M ≤ 8 ∧ szI p 8 = nI M := by
  unfold szI
  by_cases c : 8 < p
  · rw [if_pos c]
    exact ⟨8, Nat.le_refl _, by rw [if_pos (by decide)]; rfl⟩
  · rw [if_neg c]
    by_cases c2 : 1 < p
    · rw [if_pos c2]
      have h0 : 0 ≤ p := Int32.le_of_lt (Int32.lt_trans (by decide) c2)
      obtain ⟨j, hj, e⟩ := nI_of2 (M := 8) (n := 8) (by decide) (Int32.not_lt.mpr h0) (Int32.not_lt.mp c)
      exact ⟨j, hj, e⟩
    · rw [if_neg c2]
      exact ⟨1, by decide, rfl⟩
theorem t_Qinit {Q : Option Value → xH → Prop} {l : List Value} {ar nr : List (Option Nat)} {M : Nat} {p1 p2 p3 : Int32} {kc ks : Nat} (hM : nnI p1 = nI M) (hM8 : M ≤ 8) (hQ : Q none (ph [.ref 2, .ref 3, .ref 973, .ref 981, .int 0] [.ref 4, .ref 5, .int 0, .int 0] (rwA 120) (ndA 8) (is0 M (ffI p1 p2 p3)) 1124)) : w_Q_init Q 1 p1 p2 p3 (ph [.null, .null, .null, .null, .int 0] l ar nr (is0 M (ffI p1 p2 p3)) 1) (kc + 1123) (ks + 8509) := by
  have hz : (is0 M (ffI p1 p2 p3)).2.1 = fun _ _ _ => 0 := rfl
  have hF : ffI p1 p2 p3 = cf0 (nI M) (szI p2 (nI M)) (szW (szI p3 (nI M)) (nI M) (szI p2 (nI M))) := by
    unfold ffI
    rw [hM]
  generalize hs : is0 M (ffI p1 p2 p3) = S at hQ hz ⊢
  unfold w_Q_init
  refine ⟨kc + 1122, ks + 8501, by omega, by omega, ?_⟩
  intro b2 h1 eb eh
  have eb' : b2 = 2 := eb
  subst eb' eh
  rw [ph_n2]
  refine ⟨_, ph_1 (by decide), by decide, ?_⟩
  intro h6 e6
  subst e6
  rw [ph_u1 (by decide)]
  refine ⟨kc + 1121, ks + 8497, by omega, by omega, ?_⟩
  intro b8 h7 eb8 eh7
  have eb' : b8 = 3 := eb8
  subst eb' eh7
  rw [ph_n3]
  refine ⟨969, kc + 152, 7259, ks + 1238, by omega, by omega, ?_⟩
  refine init_Ma (kc := 0) (ks := 0) hz ?_
  refine ⟨rfl, _, ph_1 (by decide), by decide, ?_⟩
  intro h17 e17
  subst e17
  rw [ph_u1 (by decide)]
  refine ⟨kc + 151, ks + 1228, by omega, by omega, ?_⟩
  intro b19 h18 eb19 eh18
  have eb' : b19 = 973 := eb19
  subst eb' eh18
  refine ⟨7, kc + 144, 49, ks + 1179, by omega, by omega, ?_⟩
  refine t_msg (m := 121) (kc := 0) (ks := 0) (by decide) (by rw [hz]) ?_
  refine ⟨rfl, _, ph_1 (by decide), by decide, ?_⟩
  intro h28 e28
  subst e28
  rw [ph_u1 (by decide)]
  refine ⟨kc + 143, ks + 1169, by omega, by omega, ?_⟩
  intro b30 h29 eb30 eh29
  have eb' : b30 = 981 := eb30
  subst eb' eh29
  refine ⟨7, kc + 136, 49, ks + 1120, by omega, by omega, ?_⟩
  refine t_msg (m := 122) (kc := 0) (ks := 0) (by decide) (by rw [hz]) ?_
  refine ⟨rfl, _, ph_1 (by decide), by decide, ?_⟩
  intro h39 e39
  subst e39
  rw [ph_u1 (by decide)]
  refine ⟨_, ph_1 (by decide), by decide, ?_⟩
  intro h41 e41
  subst e41
  rw [ph_u1 (by decide)]
  unfold w_Q_nearest w_Q_configuration w_Q_init_100
  refine ⟨nnI p1, rfl, szI p2 (nnI p1), rfl, szI p3 (nnI p1), rfl, ffI p1 p2 p3, rfl, 9, ?_⟩
  rw [← ndA_0, ← hs, hM]
  rw [← hs] at hQ
  exact t_Q103 (kc := kc) (ks := ks) hM8 hQ 8 0 rfl
/-- what the class's constructor leaves -/
theorem ph_cl {M : Nat} {F : Int32} : ph [.ref 2, .ref 3, .ref 973, .ref 981, .int 0] [.ref 4, .ref 5, .int 0, .int 0] (rwA 120) (ndA 8) (is0 M F) 1124 = cl 1 (1124, fun _ => none) (is0 M F) := by
  refine Prod.ext rfl (funext fun j => ?_)
  show (ph [.ref 2, .ref 3, .ref 973, .ref 981, .int 0] [.ref 4, .ref 5, .int 0, .int 0] (rwA 120) (ndA 8) (is0 M F) 1124).2 j = if 1 ≤ j ∧ j < 1 + 1124 then some (ccell 1 (is0 M F) (j - 1)) else none
  by_cases c0 : j = 0 ∨ 1124 < j
  · rw [ph_no c0, if_neg (by omega)]
  · rw [if_pos (by omega)]
    by_cases c1 : j = 1
    · rw [c1, ph_1 (by decide)]
      rfl
    · by_cases c2 : j = 2
      · rw [c2, ph_2 (by decide)]
        rfl
      · by_cases c3 : j = 3
        · rw [c3, ph_3 (by decide)]
          rfl
        · by_cases c4 : j = 4
          · rw [c4, ph_4 (by decide)]
            have e : rwA 120 = (List.range 120).map (fun x => some (ma 1 ((is0 M F).2.2.2.1 x))) := by
              unfold rwA
              refine List.map_congr_left (fun x hx => ?_)
              rw [if_pos (List.mem_range.mp hx)]
              show some (13 + 8 * x) = some (ma 1 (x + 1))
              unfold ma
              congr 1
              omega
            rw [e]
            rfl
          · exact ph_c (by omega) (by omega)
/-! the reference's heap while it is made -/
def rix (k : Nat) : Nat := if k ≤ 13 then k else if k ≤ 29 then k + 1 else if k = 30 then 32 else 35
def rfl0 (r : Nat) : Nat → List Value
  | 0 => [.int 0, .null, .null, .null, .null, .null, .null, .null, .null, .null, .null, .null, .null, .null, .int 0, .null, .null, .null, .null, .null, .null, .null, .null, .null, .null, .null, .null, .null, .null, .null, .null, .int 0, .null, .int 0, .int 0, .null]
  | k + 1 => (rfl0 r k).set (rix (k + 1)) (.ref (r + (k + 1)))
def rq (r : Nat) (F : Nat → Option xE) (k : Nat) : xH := (r + k, fun j => if j = r then some (.inr (8, rfl0 r k)) else if r < j ∧ j ≤ r + k then some (.inl (0, .inl (List.replicate (rlen (j - r)) 0))) else F j)
theorem rfl0_len {r k : Nat} : (rfl0 r k).length = 36 := by
  induction k with
  | zero => rfl
  | succ k ih =>
    rw [rfl0, List.length_set]
    exact ih
theorem rix_lt {k : Nat} : rix (k + 1) < 36 ∨ 31 ≤ k := by
  unfold rix
  by_cases c : k < 31
  · left
    split
    · omega
    · split
      · omega
      · split <;> omega
  · omega
theorem rq_s {r n i k kc ks : Nat} {F : Nat → Option xE} {R : xH → Nat → Nat → Prop} (hk : k < 31) (hn : rlen (k + 1) = n) (hi : rix (k + 1) = i) (hR : R (rq r F (k + 1)) kc ks) : ∃ k3 k4, kc + 1 = k3 + 1 ∧ ks + n = k4 + n ∧ ∀ b2 h1, b2 = (rq r F k).1 + 1 → h1 = xn (rq r F k) (.inl (0, .inl (List.replicate n 0))) → ∃ f5, h1.2 r = some (.inr (8, f5)) ∧ i < f5.length ∧ ∀ h6, h6 = xu h1 r (.inr (8, f5.set i (.ref b2))) → R h6 k3 k4 := by
  refine ⟨kc, ks, rfl, rfl, ?_⟩
  intro b2 h1 eb eh
  have e1 : h1.2 r = some (.inr (8, rfl0 r k)) := by
    rw [eh, xn_n (by show r ≠ r + k + 1; omega)]
    exact if_pos rfl
  refine ⟨_, e1, ?_, ?_⟩
  · rw [rfl0_len, ← hi]
    have := rix_lt (k := k)
    omega
  · intro h6 e6
    have e : h6 = rq r F (k + 1) := by
      rw [e6, eh, eb]
      refine Prod.ext rfl (funext fun j => ?_)
      show (if j = r then _ else if j = r + k + 1 then _ else if j = r then _ else if r < j ∧ j ≤ r + k then _ else F j) = if j = r then some (.inr (8, rfl0 r (k + 1))) else if r < j ∧ j ≤ r + (k + 1) then some (.inl (0, .inl (List.replicate (rlen (j - r)) 0))) else F j
      by_cases c : j = r
      · rw [if_pos c, if_pos c, rfl0, hi]
        rfl
      · rw [if_neg c, if_neg c, if_neg c]
        by_cases c2 : j = r + k + 1
        · rw [if_pos c2, if_pos (by omega), show j - r = k + 1 by omega, hn]
        · rw [if_neg c2]
          by_cases c3 : r < j ∧ j ≤ r + k
          · rw [if_pos c3, if_pos (by omega)]
          · rw [if_neg c3, if_neg (by omega)]
    rw [e]
    exact hR
def rz : rA := (fun _ _ _ => 0, fun _ _ => 0, fun _ => 0, fun _ => 0)
theorem tt_rz : tt rz = (fun _ _ => 0, fun _ => 0) := by
  refine Prod.ext (funext fun k => funext fun i => ?_) (funext fun i => ?_)
  · unfold tt rz
    dsimp only
    split
    · rfl
    · split
      · rfl
      · split
        · rfl
        · split
          · rfl
          · split <;> rfl
  · unfold tt rz
    dsimp only
    split
    · rfl
    · rfl
theorem rAr_z {n : Nat} : rAr n (fun _ => 0) = List.replicate n 0 := by
  unfold rAr
  rw [List.map_const', List.length_range]
theorem rq_rl {r : Nat} {F : Nat → Option xE} : rq r F 31 = rl r (r + 31, F) (tt rz) := by
  rw [tt_rz]
  refine Prod.ext rfl (funext fun j => ?_)
  show (if j = r then some (.inr (8, rfl0 r 31)) else if r < j ∧ j ≤ r + 31 then some (.inl (0, .inl (List.replicate (rlen (j - r)) 0))) else F j) = if r ≤ j ∧ j ≤ r + 31 then some (rc r (fun _ _ => 0, fun _ => 0) (j - r)) else F j
  by_cases c : j = r
  · rw [if_pos c, if_pos (by omega), c, Nat.sub_self]
    rfl
  · rw [if_neg c]
    by_cases c2 : r < j ∧ j ≤ r + 31
    · rw [if_pos c2, if_pos (by omega)]
      unfold rc
      rw [if_neg (by omega), rAr_z]
    · rw [if_neg c2, if_neg (by omega)]
def szR (p m : Int32) : Int32 := if 1 ≤ p then (if p ≤ m then p else m) else 1
theorem szR_I {p m : Int32} (hm : 1 ≤ m) : szR p m = szI p m := by
  unfold szR szI
  by_cases c : 1 ≤ p
  · rw [if_pos c]
    by_cases c2 : p ≤ m
    · have c3 : ¬ m < p := Int32.not_lt.mpr c2
      rw [if_pos c2, if_neg c3]
      by_cases c4 : 1 < p
      · rw [if_pos c4]
      · rw [if_neg c4]
        exact Int32.le_antisymm (Int32.not_lt.mp c4) c
    · have c3 : m < p := Int32.not_le.mp c2
      rw [if_neg c2, if_pos c3]
      by_cases c4 : 1 < m
      · rw [if_pos c4]
      · rw [if_neg c4]
        exact Int32.le_antisymm (Int32.not_lt.mp c4) hm
  · rw [if_neg c]
    have c1 : p < 1 := Int32.not_le.mp c
    have c3 : ¬ m < p := Int32.not_lt.mpr (Int32.le_trans (Int32.le_of_lt c1) hm)
    rw [if_neg c3, if_neg (fun z => absurd (Int32.lt_trans z c1) Int32.lt_irrefl)]
/-- nodes as the reference's constructor leaves them -/
def rnd (M : Nat) (F : Int32) (k : Nat) (n : nv) : nv := if k < M then un (un (un (un n 2 0 1) 1 0 1) 9 0 1) 10 0 F else un n 2 0 1
def rk (M : Nat) (F : Int32) : Nat → rA
  | 0 => rz
  | k + 1 => pN (rk M F k) k (rnd M F k ((rk M F k).1 k))
theorem tt_u9z {a : rA} {p : Nat} {v : Int32} : sF (tt a) 9 (up1 ((tt a).1 9) (16 * p) v) = tt (pN a p (un (a.1 p) 9 0 v)) := tt_u9 (p := p) (j := 0) (by decide)
theorem tt_u10z {a : rA} {p : Nat} {v : Int32} : sF (tt a) 10 (up1 ((tt a).1 10) (16 * p) v) = tt (pN a p (un (a.1 p) 10 0 v)) := tt_u10 (p := p) (j := 0) (by decide)
set_option maxRecDepth 100000 in
theorem t_M356 {Q : Option Value → xH → Prop} {g : xH} {M : Nat} {l1 l2 l3 l5 l6 : Int32} {kc ks : Nat} (hM : M ≤ 8) (hQ : Q none (rl 1125 g (tt (rk M (cf0 (nI M) l5 l6) 8)))) : ∀ d k, k + d = 8 → w_M_init_356 Q (d + 1) 1125 l1 l2 l3 (nI M) l5 l6 (nI k) (rl 1125 g (tt (rk M (cf0 (nI M) l5 l6) k))) kc ks := by
  intro d
  induction d with
  | zero =>
    intro k hk
    have e : k = 8 := by omega
    subst e
    rw [w_M_init_356]
    exact ⟨fun _ => hQ, fun z => absurd (by decide) z⟩
  | succ d ih =>
    intro k hk
    have hk8 : k < 8 := by omega
    have ih' := ih (k + 1) (by omega)
    rw [rk] at ih'
    generalize rk M (cf0 (nI M) l5 l6) k = a at ih' ⊢
    have e16 : (16 : Int32) * nI k = nI (16 * k) := ix16a k
    rw [w_M_init_356]
    refine ⟨fun z => absurd z (lt8 hk8), fun _ => ⟨_, _, rl_r, ro_2, _, rl_k2, nI_nn (by omega), by rw [nI_cl (by omega), rAr_len]; exact hk8, ?_⟩⟩
    intro h4 e4
    rw [nI_cl (by omega), rAr_set, rl_s2, tt_u2] at e4
    subst e4
    refine ⟨fun z => ?_, fun z => ?_⟩
    · have hkM : k < M := by
        rw [nI_ltI (by omega) (by omega)] at z
        exact z
      refine ⟨_, _, rl_r, ro_1, _, rl_k1, nI_nn (by omega), by rw [nI_cl (by omega), rAr_len]; exact hk8, ?_⟩
      intro h8 e8
      rw [nI_cl (by omega), rAr_set, rl_s1, tt_u1] at e8
      subst e8
      refine ⟨_, _, rl_r, ro_9, _, rl_k9, by rw [e16]; exact nI_nn (by omega), by rw [e16, nI_cl (by omega), rAr_len]; omega, ?_⟩
      intro h12 e12
      rw [e16, nI_cl (by omega), rAr_set, rl_s9, tt_u9z] at e12
      subst e12
      refine ⟨_, _, rl_r, ro_10, _, rl_k10, by rw [e16]; exact nI_nn (by omega), by rw [e16, nI_cl (by omega), rAr_len]; omega, ?_⟩
      intro h16 e16'
      rw [e16, nI_cl (by omega), rAr_set, rl_s10, tt_u10z] at e16'
      subst e16'
      unfold w_M_init_430
      rw [nI_1]
      unfold rnd at ih'
      rw [if_pos hkM] at ih'
      simp only [pN_eq, pN_pN]
      exact ih'
    · have hkM : ¬ k < M := by
        rw [nI_ltI (by omega) (by omega)] at z
        exact z
      unfold w_M_init_430
      rw [nI_1]
      unfold rnd at ih'
      rw [if_neg hkM] at ih'
      exact ih'
set_option maxRecDepth 100000 in
theorem t_Minit {Q : Option Value → xH → Prop} {F : Nat → Option xE} {M : Nat} {p1 p2 p3 : Int32} {kc ks : Nat} (hM : nnI p1 = nI M) (hM8 : M ≤ 8) (hM1 : 1 ≤ M) (hQ : Q none (rl 1125 (1156, F) (tt (rk M (ffI p1 p2 p3) 8)))) : w_M_init Q 1125 p1 p2 p3 (rq 1125 F 0) (kc + 31) (ks + 7389) := by
  have hm1 : (1 : Int32) ≤ nI M := by
    rw [show (1 : Int32) = nI 1 from rfl, nI_leI (by omega) (by omega)]
    exact hM1
  have hF : ffI p1 p2 p3 = cf0 (nI M) (szI p2 (nI M)) (szW (szI p3 (nI M)) (nI M) (szI p2 (nI M))) := by
    unfold ffI
    rw [hM]
  have key : ∀ kc ks, w_M_init_279 Q 1125 p1 p2 p3 (nI M) (rl 1125 (1156, F) (tt rz)) kc ks := by
    intro kc ks
    have k351 : ∀ r w0, r = szI p2 (nI M) → w0 = szI p3 (nI M) → w_M_init_325 Q 1125 p1 p2 p3 (nI M) r w0 (rl 1125 (1156, F) (tt rz)) kc ks := by
      intro r w0 er ew
      unfold w_M_init_325 w_M_init_351
      have loop : ∀ x, x = szW w0 (nI M) r → ∃ n1, w_M_init_356 Q n1 1125 p1 p2 p3 (nI M) r x 0 (rl 1125 (1156, F) (tt rz)) kc ks := by
        intro x ex
        refine ⟨9, t_M356 (M := M) hM8 ?_ 8 0 rfl⟩
        rw [ex, er, ew, ← hF]
        exact hQ
      refine ⟨fun z => loop _ ?_, fun z => loop _ ?_⟩
      · unfold szW
        rw [if_neg (Int32.not_lt.mpr z)]
      · unfold szW
        rw [if_pos (Int32.not_le.mp z)]
    have k302 : ∀ r, r = szI p2 (nI M) → w_M_init_302 Q 1125 p1 p2 p3 (nI M) r (rl 1125 (1156, F) (tt rz)) kc ks := by
      intro r er
      have e := szR_I (p := p3) hm1
      unfold szR at e
      unfold w_M_init_302
      refine ⟨fun z => ⟨fun y => k351 _ _ er ?_, fun y => k351 _ _ er ?_⟩, fun z => k351 _ _ er ?_⟩
      · rw [← e, if_pos z, if_pos y]
      · rw [← e, if_pos z, if_neg y]
      · rw [← e, if_neg z]
    have e := szR_I (p := p2) hm1
    unfold szR at e
    unfold w_M_init_279
    refine ⟨fun z => ⟨fun y => k302 _ ?_, fun y => k302 _ ?_⟩, fun z => k302 _ ?_⟩
    · rw [← e, if_pos z, if_pos y]
    · rw [← e, if_pos z, if_neg y]
    · rw [← e, if_neg z]
  unfold w_M_init
  refine rq_s (k := 0) (n := 8) (i := 1) (kc := kc + 30) (ks := ks + 7381) (by decide) (by decide) (by decide) ?_
  refine rq_s (k := 1) (n := 8) (i := 2) (kc := kc + 29) (ks := ks + 7373) (by decide) (by decide) (by decide) ?_
  refine rq_s (k := 2) (n := 8) (i := 3) (kc := kc + 28) (ks := ks + 7365) (by decide) (by decide) (by decide) ?_
  refine rq_s (k := 3) (n := 8) (i := 4) (kc := kc + 27) (ks := ks + 7357) (by decide) (by decide) (by decide) ?_
  refine rq_s (k := 4) (n := 8) (i := 5) (kc := kc + 26) (ks := ks + 7349) (by decide) (by decide) (by decide) ?_
  refine rq_s (k := 5) (n := 32) (i := 6) (kc := kc + 25) (ks := ks + 7317) (by decide) (by decide) (by decide) ?_
  refine rq_s (k := 6) (n := 32) (i := 7) (kc := kc + 24) (ks := ks + 7285) (by decide) (by decide) (by decide) ?_
  refine rq_s (k := 7) (n := 32) (i := 8) (kc := kc + 23) (ks := ks + 7253) (by decide) (by decide) (by decide) ?_
  refine rq_s (k := 8) (n := 128) (i := 9) (kc := kc + 22) (ks := ks + 7125) (by decide) (by decide) (by decide) ?_
  refine rq_s (k := 9) (n := 128) (i := 10) (kc := kc + 21) (ks := ks + 6997) (by decide) (by decide) (by decide) ?_
  refine rq_s (k := 10) (n := 128) (i := 11) (kc := kc + 20) (ks := ks + 6869) (by decide) (by decide) (by decide) ?_
  unfold w_M_init_95
  refine rq_s (k := 11) (n := 128) (i := 12) (kc := kc + 19) (ks := ks + 6741) (by decide) (by decide) (by decide) ?_
  refine rq_s (k := 12) (n := 128) (i := 13) (kc := kc + 18) (ks := ks + 6613) (by decide) (by decide) (by decide) ?_
  refine rq_s (k := 13) (n := 8) (i := 15) (kc := kc + 17) (ks := ks + 6605) (by decide) (by decide) (by decide) ?_
  refine rq_s (k := 14) (n := 8) (i := 16) (kc := kc + 16) (ks := ks + 6597) (by decide) (by decide) (by decide) ?_
  refine rq_s (k := 15) (n := 8) (i := 17) (kc := kc + 15) (ks := ks + 6589) (by decide) (by decide) (by decide) ?_
  refine rq_s (k := 16) (n := 8) (i := 18) (kc := kc + 14) (ks := ks + 6581) (by decide) (by decide) (by decide) ?_
  refine rq_s (k := 17) (n := 8) (i := 19) (kc := kc + 13) (ks := ks + 6573) (by decide) (by decide) (by decide) ?_
  refine rq_s (k := 18) (n := 8) (i := 20) (kc := kc + 12) (ks := ks + 6565) (by decide) (by decide) (by decide) ?_
  refine rq_s (k := 19) (n := 8) (i := 21) (kc := kc + 11) (ks := ks + 6557) (by decide) (by decide) (by decide) ?_
  refine rq_s (k := 20) (n := 8) (i := 22) (kc := kc + 10) (ks := ks + 6549) (by decide) (by decide) (by decide) ?_
  refine rq_s (k := 21) (n := 8) (i := 23) (kc := kc + 9) (ks := ks + 6541) (by decide) (by decide) (by decide) ?_
  refine rq_s (k := 22) (n := 8) (i := 24) (kc := kc + 8) (ks := ks + 6533) (by decide) (by decide) (by decide) ?_
  unfold w_M_init_193
  refine rq_s (k := 23) (n := 8) (i := 25) (kc := kc + 7) (ks := ks + 6525) (by decide) (by decide) (by decide) ?_
  refine rq_s (k := 24) (n := 8) (i := 26) (kc := kc + 6) (ks := ks + 6517) (by decide) (by decide) (by decide) ?_
  refine rq_s (k := 25) (n := 8) (i := 27) (kc := kc + 5) (ks := ks + 6509) (by decide) (by decide) (by decide) ?_
  refine rq_s (k := 26) (n := 32) (i := 28) (kc := kc + 4) (ks := ks + 6477) (by decide) (by decide) (by decide) ?_
  refine rq_s (k := 27) (n := 32) (i := 29) (kc := kc + 3) (ks := ks + 6445) (by decide) (by decide) (by decide) ?_
  refine rq_s (k := 28) (n := 32) (i := 30) (kc := kc + 2) (ks := ks + 6413) (by decide) (by decide) (by decide) ?_
  refine rq_s (k := 29) (n := 6360) (i := 32) (kc := kc + 1) (ks := ks + 53) (by decide) (by decide) (by decide) ?_
  refine rq_s (k := 30) (n := 53) (i := 35) (kc := kc + 0) (ks := ks + 0) (by decide) (by decide) (by decide) ?_
  rw [rq_rl]
  have e := szR_I (p := p1) (m := 8) (by decide)
  unfold szR at e
  unfold nnI at hM
  rw [← e] at hM
  refine ⟨fun z => ⟨fun y => ?_, fun y => ?_⟩, fun z => ?_⟩
  · rw [if_pos z, if_pos y] at hM
    have := key (kc + 0) (ks + 0)
    rw [← hM] at this
    exact this
  · rw [if_pos z, if_neg y] at hM
    have := key (kc + 0) (ks + 0)
    rw [← hM] at this
    exact this
  · rw [if_neg z] at hM
    have := key (kc + 0) (ks + 0)
    rw [← hM] at this
    exact this
/-! both new objects -/
theorem rk_n {M : Nat} {F : Int32} {p : Nat} : ∀ k, (rk M F k).1 p = if p < k then rnd M F p (fun _ _ => 0) else fun _ _ => 0 := by
  intro k
  induction k with
  | zero =>
    rw [if_neg (Nat.not_lt_zero _)]
    rfl
  | succ k ih =>
    rw [rk]
    by_cases c : p = k
    · subst c
      rw [pN_eq, ih, if_neg (Nat.lt_irrefl _), if_pos (Nat.lt_succ_self _)]
    · rw [pN_ne c, ih]
      by_cases c2 : p < k
      · rw [if_pos c2, if_pos (by omega)]
      · rw [if_neg c2, if_neg (by omega)]
theorem rk_2 {M : Nat} {F : Int32} : ∀ k, (rk M F k).2 = rz.2 := by
  intro k
  induction k with
  | zero => rfl
  | succ k ih =>
    rw [rk, pN_2]
    exact ih
theorem rnd_k {M k i j : Nat} {F : Int32} (h : i ≠ 1 ∧ i ≠ 2 ∧ i ≠ 9 ∧ i ≠ 10) : rnd M F k (fun _ _ => 0) i j = 0 := by
  unfold rnd
  split
  · rw [un_nk (by omega), un_nk (by omega), un_nk (by omega), un_nk (by omega)]
  · rw [un_nk (by omega)]
theorem rnd_1 {M k : Nat} {F : Int32} : rnd M F k (fun _ _ => 0) 1 0 = if k < M then 1 else 0 := by
  unfold rnd
  by_cases c : k < M
  · rw [if_pos c, if_pos c, un_nk (by decide), un_nk (by decide), un_eq]
  · rw [if_neg c, if_neg c, un_nk (by decide)]
theorem rnd_2 {M k : Nat} {F : Int32} : rnd M F k (fun _ _ => 0) 2 0 = 1 := by
  unfold rnd
  by_cases c : k < M
  · rw [if_pos c, un_nk (by decide), un_nk (by decide), un_nk (by decide), un_eq]
  · rw [if_neg c, un_eq]
theorem rnd_9 {M k j : Nat} {F : Int32} : rnd M F k (fun _ _ => 0) 9 j = if k < M ∧ j = 0 then 1 else 0 := by
  unfold rnd
  by_cases c : k < M
  · rw [if_pos c, un_nk (by decide)]
    by_cases c2 : j = 0
    · rw [if_pos ⟨c, c2⟩, c2, un_eq]
    · rw [if_neg (fun w => c2 w.2), un_nj c2, un_nk (by decide), un_nk (by decide)]
  · rw [if_neg c, if_neg (fun w => c w.1), un_nk (by decide)]
theorem rnd_10 {M k j : Nat} {F : Int32} : rnd M F k (fun _ _ => 0) 10 j = if k < M ∧ j = 0 then F else 0 := by
  unfold rnd
  by_cases c : k < M
  · rw [if_pos c]
    by_cases c2 : j = 0
    · rw [if_pos ⟨c, c2⟩, c2, un_eq]
    · rw [if_neg (fun w => c2 w.2), un_nj c2, un_nk (by decide), un_nk (by decide), un_nk (by decide)]
  · rw [if_neg c, if_neg (fun w => c w.1), un_nk (by decide)]
theorem NI_rnd {M k : Nat} {F : Int32} : NI 1 (rnd M F k (fun _ _ => 0)) := by
  have z : ∀ i j, i ≠ 1 ∧ i ≠ 2 ∧ i ≠ 9 ∧ i ≠ 10 → rnd M F k (fun _ _ => 0) i j = 0 := fun i j h => rnd_k h
  have eab : ab (rnd M F k (fun _ _ => 0)) = 0 := by
    unfold ab
    rw [z 17 0 (by decide)]
    rfl
  have ebs : bs (rnd M F k (fun _ _ => 0)) = 0 := by
    unfold bs
    rw [z 24 0 (by decide)]
    rfl
  unfold NI Wn Ar
  rw [eab, ebs, rnd_1, rnd_2, z 17 0 (by decide), z 24 0 (by decide), z 4 0 (by decide), z 3 0 (by decide), z 5 0 (by decide), z 23 0 (by decide), z 16 0 (by decide), z 18 0 (by decide), z 19 0 (by decide), z 14 0 (by decide)]
  refine ⟨⟨rfl, by decide, fun _ => by decide, rfl, by decide⟩, ⟨0, by decide, rfl⟩, fun q => ?_, NB_0, NB_0, ⟨1, by decide, rfl⟩, NB_0, Or.inl rfl, fun w => ⟨rfl, ?_⟩, fun _ => rfl, fun w => absurd rfl w, E8_0, fun w => absurd rfl w, fun q _ => ?_, fun w => absurd rfl w⟩
  · rw [z 11 q (by decide), z 12 q (by decide)]
    exact ⟨NB_0, Int32.le_refl _⟩
  · by_cases c : k < M
    · rw [if_pos c] at w
      exact absurd rfl w
    · rw [if_neg c]
      exact Or.inl rfl
  · rw [rnd_9]
    split
    · exact Or.inr (Or.inl rfl)
    · exact Or.inl rfl
theorem INV_0 {M : Nat} {F : Int32} : INV 1 (is0 M F) (rk M F 8) := by
  have e2 := rk_2 (M := M) (F := F) 8
  have en : ∀ p, p < 8 → (rk M F 8).1 p = rnd M F p (fun _ _ => 0) := by
    intro p hp
    rw [rk_n 8, if_pos hp]
  have eln : ln (rk M F 8) = 0 := by
    unfold ln
    rw [e2]
    rfl
  have hwl : Wl (rk M F 8) := by
    unfold Wl
    rw [eln, e2]
    exact ⟨rfl, by decide⟩
  refine ⟨⟨fun i hi => ⟨⟨?_, fun w => ?_⟩, rfl⟩, ?_, ?_, ?_, hwl, fun x hx => ⟨?_, ?_⟩, fun x y _ _ h => ?_, ?_, fun x hx => ?_⟩, ⟨⟨hwl, fun q hq => ?_, fun x hx => ?_, Or.inl rfl⟩, ?_, fun p hp => ?_⟩, fun i hi => ⟨0, by decide, ?_, fun _ => by decide⟩⟩
  · rw [en i hi]
    have z : ∀ k j, k ≠ 1 ∧ k ≠ 2 ∧ k ≠ 9 ∧ k ≠ 10 → rnd M F i (fun _ _ => 0) k j = 0 := fun k j h => rnd_k h
    have cz : ∀ k j, k ≠ 0 ∧ k ≠ 6 ∧ k ≠ 7 → (is0 M F).1 i k j = 0 := by
      intro k j hk
      show (if k = 0 then _ else if i < M ∧ j = 0 then (if k = 6 then 1 else if k = 7 then F else 0) else 0) = (0 : Int32)
      rw [if_neg hk.1, if_neg hk.2.1, if_neg hk.2.2]
      split <;> rfl
    unfold RB
    rw [rnd_1, rnd_2, z 3 0 (by decide), z 5 0 (by decide), z 4 0 (by decide), z 32 0 (by decide), z 14 0 (by decide), z 16 0 (by decide), cz 12 0 (by decide), cz 12 2 (by decide)]
    refine ⟨rfl, rfl, rfl, rfl, rfl, rfl, fun j _ => ?_, fun j _ => ?_, rfl, rfl⟩
    · rw [z 6 j (by decide), z 7 j (by decide), z 8 j (by decide), cz 2 j (by decide), cz 3 j (by decide), cz 4 j (by decide)]
      exact ⟨rfl, rfl, rfl⟩
    · rw [rnd_9, rnd_10, z 11 j (by decide), z 12 j (by decide), z 13 j (by decide), cz 9 j (by decide), cz 10 j (by decide), cz 11 j (by decide)]
      exact ⟨rfl, rfl, rfl, rfl, rfl⟩
  · exfalso
    apply w
    rw [en i hi, rnd_k (by decide)]
  · rw [e2]
    rfl
  · rw [e2]
    rfl
  · rw [e2]
    rfl
  · show x + 1 < 121
    omega
  · show x + 1 ≠ 0
    omega
  · have h' : x + 1 = y + 1 := h
    omega
  · show 0 < 121
    decide
  · rw [eln] at hx
    exact absurd hx (Nat.not_lt_zero _)
  · rw [en q hq]
    refine ⟨NI_rnd, AP_0 ?_⟩
    rw [rnd_k (by decide)]
  · rw [eln] at hx
    exact absurd hx (Nat.not_lt_zero _)
  · rw [e2]
    exact NB_0
  · rw [en p hp]
    refine NJ_0 ?_
    rw [rnd_k (by decide)]
  · show (if (12 : Nat) = 0 then _ else if i < M ∧ (3 : Nat) = 0 then _ else (0 : Int32)) = nI 0
    rw [if_neg (by decide), if_neg (fun w => absurd w.2 (by decide))]
    rfl
theorem t_cell0 {sc : List Int32} {Q : Option Value → xH → Prop} {k : Nat} {h : xH} (hL : sc.length ≤ 2563) (hk : k ≤ 2) (hQ : ∀ x, x = (sc[k]?).getD 0 → Q (some (.int x)) h) : w_L_cell sc Q (nI k) h := by
  unfold w_L_cell
  have e : (Int32.ofNat sc.length ≤ nI k) ↔ sc.length ≤ k := nI_leI (a := sc.length) (by omega) (by omega)
  refine ⟨fun w => hQ 0 ?_, fun w => ?_⟩
  · rw [List.getElem?_eq_none (e.mp w)]
    rfl
  · have hlt : k < sc.length := by
      rw [e] at w
      omega
    refine ⟨sc[k], nI_nn (by omega), ?_, hQ _ ?_⟩
    · rw [nI_cl (by omega)]
      exact List.getElem?_eq_getElem hlt
    · rw [List.getElem?_eq_getElem hlt]
      rfl
theorem szI_1 {p : Int32} {M : Nat} (hM : M ≤ 8) (h : szI p 8 = nI M) : 1 ≤ M := by
  refine Classical.byContradiction (fun w => ?_)
  have e : M = 0 := by omega
  rw [e] at h
  unfold szI at h
  by_cases c : 1 < (if 8 < p then 8 else p)
  · rw [if_pos c] at h
    rw [h] at c
    exact absurd c (by decide)
  · rw [if_neg c] at h
    exact absurd h (by decide)
