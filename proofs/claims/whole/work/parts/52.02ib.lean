/-! phases: what the node keeps -/
theorem zsh {p : Nat} (hp : p < 8) : ((0 : Int32) >>> (nI p &&& 31)) &&& 1 = 0 := (by decide : ∀ p, p < 8 → ((0 : Int32) >>> (nI p &&& 31)) &&& 1 = 0) p hp
theorem NQ_ph {B p : Nat} {b : nv} {w : Int32} (hB : B < 134217728) (hp : p < 8) (h : NI B b) (hu : b 1 0 = 1) (h14 : ¬ b 14 0 = 0) (h18 : b 18 0 = 0) (hw : w = 1 ∨ w = 2) : NQ (B + 1) p b (F_ph b w) := by
  have e16 := fp_16 (b := b) (w := w)
  have e5 := fp_5 (b := b) (w := w)
  obtain ⟨e19, e20⟩ := fp_19 (b := b) (w := w)
  have w0 : ¬ w = 0 := by
    rcases hw with z | z <;> rw [z] <;> decide
  refine ⟨?_, ⟨?_, ?_, ?_⟩, ?_⟩
  · obtain ⟨h1, h2, h3, h4, h5, h6, h7, h8, h9, h10, h11, h12, h13, h14', h15⟩ := h
    have ek : ∀ k j, k ≠ 16 ∧ k ≠ 5 ∧ k ≠ 19 ∧ k ≠ 20 → F_ph b w k j = b k j := fun k j hk => fp_k hk
    unfold NI
    rw [e16, e5, e19, ek 3 0 (by decide), ek 2 0 (by decide), ek 23 0 (by decide), ek 1 0 (by decide), ek 4 0 (by decide), ek 18 0 (by decide), ek 14 0 (by decide), ek 15 0 (by decide)]
    refine ⟨Wn_ph h1, ?_, fun q => ?_, NB_mono (by omega) h4, NB_inc h5, NB_mono (by omega) h6, NB_mono (by omega) h7, Or.inr hw, fun z => absurd hu z, h10, fun _ => h18, E8_0, h13, fun q hq => ?_, fun _ => h14⟩
    · obtain ⟨m, hm, e⟩ := h2
      exact ⟨m, hm, by rw [ek 4 0 (by decide)]; exact e⟩
    · rw [ek 11 q (by decide), ek 12 q (by decide)]
      exact ⟨NB_mono (by omega) (h3 q).1, (h3 q).2⟩
    · rw [ek 9 q (by decide)]
      exact h14' q hq
  · rw [fp_k (by decide)]
    exact fun z => z
  · rw [fp_k (by decide)]
    exact Int32.le_refl _
  · intro _ _ _
    obtain ⟨m, hm, e⟩ := h.2.2.2.2.1
    rw [e5, e]
    have hlt := inc_lt (m := m) (by omega)
    refine ⟨hu, Int32.le_of_lt hlt, fun he => ?_⟩
    rw [he] at hlt
    exact absurd hlt Int32.lt_irrefl
  · intro _ _ _ _ _
    rw [e19]
    exact zsh hp
theorem NQ_open1 {B p : Nat} {b : nv} (hB : B < 134217728) (hp : p < 8) (h : NI B b) (hu : b 1 0 = 1) (h14 : ¬ b 14 0 = 0) (h18 : b 18 0 = 0) : NQ (B + 1) p b (F_open1 b) := by
  unfold F_open1
  exact NQ_trans (NQ_trans (NQ_trans (NQ_ph hB hp h hu h14 h18 (Or.inl rfl)) (fun h => NQ_own h)) (fun h => NQ_un h (KPn (by decide)))) (fun h => NQ_un h (KPn (by decide)))
theorem NQ_23 {B p : Nat} {b : nv} {v : Int32} (h : NI B b) (hv : NB (8 * B + 7) v) (h3 : b 15 0 = 3) : NQ B p b (un b 23 0 v) := by
  refine ⟨?_, QK_of (un_nk (by decide)) (un_nk (by decide)) (un_nk (by decide)) (un_nk (by decide)) (un_nk (by decide)) (un_nk (by decide)), AP_of (un_nk (by decide)) (un_nk (by decide)) (un_nk (by decide)) (un_nk (by decide)) (un_nk (by decide))⟩
  obtain ⟨h1, h2, h3', h4, h5, h6, h7, h8, h9, h10, h11, h12, h13, h14, h15⟩ := h
  unfold NI Wn Ar ab bs F_isData at *
  simp (disch := decide) only [un_nk, un_eq]
  exact ⟨h1, h2, h3', h4, h5, h6, hv, h8, h9, h10, h11, h12, fun z => ⟨(h13 z).1, fun y => absurd h3 y⟩, h14, h15⟩
theorem NB_bal {B p : Nat} {x : Int32} (hp : p < 8) (h : NB B x) : NB (8 * B + 7) (8 * x + nI p) := by
  obtain ⟨m, hm, e⟩ := h
  refine ⟨8 * m + p, by omega, ?_⟩
  rw [e, show (8 : Int32) = nI 8 from rfl, pk_mul, nI_add]
theorem NQ_begin1 {B p : Nat} {b : nv} (hB : B < 134217728) (hp : p < 8) (h : NI B b) (hu : b 1 0 = 1) (h14 : ¬ b 14 0 = 0) (h18 : b 18 0 = 0) : NQ (B + 1) p b (F_begin1 b p) := by
  have ho := NQ_open1 hB hp h hu h14 h18
  have h3 : NB (B + 1) (F_open1 b 3 0 + 1) := by
    rw [fo_k (by decide)]
    exact NB_inc h.2.2.2.1
  have e15 : F_open1 b 15 0 = b 15 0 := fo_k (by decide)
  unfold F_begin1
  split
  · rename_i c
    split
    · rename_i hr
      refine NQ_trans (NQ_trans ho (fun h => NQ_round h h3)) (fun h' => NQ_23 h' (NB_bal hp h'.2.2.2.1) ?_)
      have := (KF_round (n := F_open1 b) (v := F_open1 b 3 0 + 1)).2.2.2.2.2 hr
      rw [this.2.1, e15]
      exact c
    · exact NQ_trans ho (fun h => NQ_round h h3)
  · exact ho
/-- a node's own part, with its own bit -/
theorem NQ_doesA {B p : Nat} {b : nv} (hB : B < 134217728) (hp : p < 8) (h : NI B b) (hu : b 1 0 = 1) (h16 : ¬ b 16 0 = 0) : NQ B p b (F_does (un b 19 0 (b 19 0 ||| ((1 : Int32) <<< (nI p &&& 31)))) p) := by
  have hn : NI B (un b 19 0 (b 19 0 ||| ((1 : Int32) <<< (nI p &&& 31)))) := by
    obtain ⟨h1, h2, h3, h4, h5, h6, h7, h8, h9, h10, h11, h12, h13, h14, h15⟩ := h
    unfold NI Wn Ar ab bs F_isData at *
    simp (disch := decide) only [un_nk, un_eq]
    exact ⟨h1, h2, h3, h4, h5, h6, h7, h8, h9, h10, h11, E8_or hp h12, h13, h14, h15⟩
  have hq : QKq b (un b 19 0 (b 19 0 ||| ((1 : Int32) <<< (nI p &&& 31)))) := QK_of (un_nk (by decide)) (un_nk (by decide)) (un_nk (by decide)) (un_nk (by decide)) (un_nk (by decide)) (un_nk (by decide))
  have u1 : un b 19 0 (b 19 0 ||| ((1 : Int32) <<< (nI p &&& 31))) 16 0 = b 16 0 := un_nk (by decide)
  generalize un b 19 0 (b 19 0 ||| ((1 : Int32) <<< (nI p &&& 31))) = c at hn hq u1
  have c16 : ¬ c 16 0 = 0 := by
    rw [u1]
    exact h16
  have c15 := (hn.2.2.2.2.2.2.2.2.2.2.2.2.1 (hn.2.2.2.2.2.2.2.2.2.2.2.2.2.2 c16)).1
  have h23 := hn.2.2.2.2.2.2.1
  have h0 : 0 ≤ c 23 0 := NB_nn (by omega) h23
  have key : NQ B p c (F_does c p) ∧ AP (F_does c p) p := by
    have kf := KF_does (n := c) (p := p)
    refine ⟨?_, ?_⟩
    · unfold F_does
      split
      · split
        · exact NQ_trans (NQ_all hn) (fun h => NQ_ans h)
        · split
          · exact NQ_trans (NQ_trans (NQ_vote hn h23 (hn.2.2.1 (ab c)).2) (fun h => NQ_top h)) (fun h => NQ_ans h)
          · split
            · exact NQ_trans (NQ_vote hn h23 h0) (fun h => NQ_ans h)
            · exact NQ_refused hB hn (hn.2.2.1 (ab c)).1
      · split
        · exact NQ_trans (NQ_best hn) (fun h => NQ_ans h)
        · exact NQ_trans (NQ_store hn) (fun h => NQ_ans h)
    · intro v1 v15 v16 v20
      have w15 : ¬ c 15 0 = 3 := by
        rw [← (kf.2.2.2.2.2 v1).2.1]
        exact v15
      have fin : ∀ X : nv, F_does c p = F_ans X p → False := by
        intro X e
        rw [e] at v1 v20
        have x1 : X 1 0 = 1 := by
          rw [ans_k (by decide)] at v1
          exact v1
        rw [ans_up x1, un_eq, or_bit_eq hp] at v20
        exact absurd v20 (by decide)
      exfalso
      by_cases hd : F_isData c = 0
      · have w4 : c 15 0 = 4 := by
          rcases c15 with z | z | z | z
          · unfold F_isData at hd
            rw [if_pos (Or.inl z)] at hd
            exact absurd hd (by decide)
          · unfold F_isData at hd
            rw [if_pos (Or.inr z)] at hd
            exact absurd hd (by decide)
          · exact absurd z w15
          · exact z
        exact fin _ (by unfold F_does; rw [if_pos hd, if_pos w4])
      · exact fin _ (by unfold F_does; rw [if_neg hd])
  exact ⟨key.1.1, QK_trans hq key.1.2.1, fun _ => key.2⟩
theorem NQ_19 {B p k : Nat} {b : nv} (hp : p < 8) (hk : k < 8) (hne : k ≠ p) (h : NI B b) : NQ B p b (un b 19 0 (b 19 0 ||| ((1 : Int32) <<< (nI k &&& 31)))) := by
  refine ⟨?_, QK_of (un_nk (by decide)) (un_nk (by decide)) (un_nk (by decide)) (un_nk (by decide)) (un_nk (by decide)) (un_nk (by decide)), ?_⟩
  · obtain ⟨h1, h2, h3, h4, h5, h6, h7, h8, h9, h10, h11, h12, h13, h14, h15⟩ := h
    unfold NI Wn Ar ab bs F_isData at *
    simp (disch := decide) only [un_nk, un_eq]
    exact ⟨h1, h2, h3, h4, h5, h6, h7, h8, h9, h10, h11, E8_or hk h12, h13, h14, h15⟩
  · unfold AP
    simp (disch := decide) only [un_nk, un_eq]
    rw [or_bit_ne hp hk (Ne.symm hne)]
    exact fun z => z
/-- a task ends -/
theorem NQ_end {B p : Nat} {b : nv} {v : Int32} (h : NI B b) : NQ B p b (un (un b 18 0 v) 16 0 0) := by
  have e16 : un (un b 18 0 v) 16 0 0 16 0 = 0 := un_eq
  refine ⟨?_, ⟨?_, ?_, ?_⟩, fun _ => AP_0 e16⟩
  · obtain ⟨h1, h2, h3, h4, h5, h6, h7, h8, h9, h10, h11, h12, h13, h14, h15⟩ := h
    unfold NI Wn Ar ab bs F_isData at *
    simp (disch := decide) only [un_nk, un_eq]
    exact ⟨h1, h2, h3, h4, h5, h6, h7, Or.inl trivial, fun z => ⟨trivial, (h9 z).2⟩, h10, fun z => absurd trivial z, h12, h13, h14, fun z => absurd trivial z⟩
  · simp (disch := decide) only [un_nk]
    exact fun z => z
  · simp (disch := decide) only [un_nk]
    exact Int32.le_refl _
  · rw [e16]
    simp (disch := decide) only [un_nk]
    exact fun _ z _ => ⟨z, Int32.le_refl _, fun _ y => absurd trivial y⟩
theorem NQ_proposed {B p q : Nat} {b : nv} (h : NI B b) : NQ B p b (F_proposed b q) := by
  unfold F_proposed
  exact NQ_end h
theorem NQ_ends {B p : Nat} {b : nv} (h : NI B b) : NQ B p b (F_ends b) := by
  unfold F_ends
  split
  · split
    · exact NQ_trans (NQ_map h (Or.inr (Or.inl rfl))) (fun h => NQ_proposed h)
    · exact NQ_map h (Or.inr (Or.inl rfl))
  · split
    · split
      · exact NQ_trans (NQ_ret h) (fun h => NQ_end h)
      · exact NQ_ret h
    · exact NQ_end h
/-- a task starts -/
theorem fst_f {b : nv} {tk wh v : Int32} {q : Nat} : F_st b tk wh q v 14 0 = tk ∧ F_st b tk wh q v 15 0 = wh ∧ F_st b tk wh q v 17 0 = nI q ∧ F_st b tk wh q v 21 0 = v ∧ F_st b tk wh q v 18 0 = 0 ∧ F_st b tk wh q v 23 0 = 0 := by
  unfold F_st
  refine ⟨?_, ?_, ?_, ?_, ?_, ?_⟩ <;> simp (disch := decide) only [un_nk, un_eq]
theorem fst_k {b : nv} {tk wh v : Int32} {q k j : Nat} (h : k ≠ 14 ∧ k ≠ 15 ∧ k ≠ 17 ∧ k ≠ 21 ∧ k ≠ 18 ∧ k ≠ 23) : F_st b tk wh q v k j = b k j := by
  unfold F_st
  rw [un_nk (by omega), un_nk (by omega), un_nk (by omega), un_nk (by omega), un_nk (by omega), un_nk (by omega)]
theorem NQ_st {B p : Nat} {b : nv} {tk wh v : Int32} {q : Nat} (h : NI B b) (h16 : b 16 0 = 0) (hq : q < 16) (hd : wh = 1 ∨ wh = 2 → q < 4) (hw : wh = 1 ∨ wh = 2 ∨ wh = 3 ∨ wh = 4) : NQ B p b (F_st b tk wh q v) := by
  obtain ⟨f14, f15, f17, f21, f18, f23⟩ := fst_f (b := b) (tk := tk) (wh := wh) (v := v) (q := q)
  have ek : ∀ k j, k ≠ 14 ∧ k ≠ 15 ∧ k ≠ 17 ∧ k ≠ 21 ∧ k ≠ 18 ∧ k ≠ 23 → F_st b tk wh q v k j = b k j := fun k j hk => fst_k hk
  have e16 : F_st b tk wh q v 16 0 = 0 := by rw [ek 16 0 (by decide), h16]
  refine ⟨?_, ⟨?_, ?_, ?_⟩, fun _ => AP_0 e16⟩
  · obtain ⟨h1, h2, h3, h4, h5, h6, h7, h8, h9, h10, h11, h12, h13, h14, h15⟩ := h
    have hwn : Wn (F_st b tk wh q v) := Wn_st h1 hq hd
    unfold NI
    rw [e16, f14, f15, f18, f23, ek 3 0 (by decide), ek 5 0 (by decide), ek 2 0 (by decide), ek 1 0 (by decide), ek 4 0 (by decide), ek 19 0 (by decide)]
    refine ⟨hwn, ?_, fun r => ?_, h4, h5, h6, NB_0, Or.inl rfl, fun z => ⟨rfl, (h9 z).2⟩, h10, fun _ => rfl, h12, fun _ => ⟨hw, fun _ => rfl⟩, fun r hr => ?_, fun z => absurd rfl z⟩
    · obtain ⟨m, hm, e⟩ := h2
      exact ⟨m, hm, by rw [ek 4 0 (by decide)]; exact e⟩
    · rw [ek 11 r (by decide), ek 12 r (by decide)]
      exact h3 r
    · rw [ek 9 r (by decide)]
      exact h14 r hr
  · rw [ek 1 0 (by decide)]
    exact fun z => z
  · rw [ek 2 0 (by decide)]
    exact Int32.le_refl _
  · rw [ek 2 0 (by decide), ek 1 0 (by decide), ek 5 0 (by decide)]
    exact fun _ z _ => ⟨z, Int32.le_refl _, fun _ y => absurd e16 y⟩
theorem NQ_bs {B p c : Nat} {b : nv} (h : NI B b) (hc : c < 16) : NQ B p b (un b 24 0 (nI c)) := by
  refine ⟨?_, QK_of (un_nk (by decide)) (un_nk (by decide)) (un_nk (by decide)) (un_nk (by decide)) (un_nk (by decide)) (un_nk (by decide)), AP_of (un_nk (by decide)) (un_nk (by decide)) (un_nk (by decide)) (un_nk (by decide)) (un_nk (by decide))⟩
  obtain ⟨h1, h⟩ := h
  refine ⟨Wn_bs h1 hc, ?_⟩
  unfold Ar at *
  simp (disch := decide) only [un_nk]
  exact h
