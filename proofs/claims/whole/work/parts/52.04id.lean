/-! the reference's steps keep it -/
theorem IV_ask {B p : Nat} {X : Nat → Int32} {a : rA} {s : Int32} (hB : B < 134217728) (hp : p < 8) (h : IV B X a) (hb : a.1 p 1 0 = 1 → ¬ a.1 p 16 0 = 0) : ∀ k, k ≤ 8 → IV B X (A_ask a p s k) := by
  intro k
  induction k with
  | zero => exact fun _ => h
  | succ k ih =>
    intro hk
    have i1 := ih (by omega)
    have kf := KF_ask (a := a) (p := p) (s := s) (k := k)
    rw [A_ask]
    generalize A_ask a p s k = c at i1 kf ⊢
    have hn := (i1.2.1 p hp).1
    split
    · rename_i hu
      have c16 : ¬ c.1 p 16 0 = 0 := by
        obtain ⟨z1, _, _, _, _, z6, _⟩ := kf.2.2.2.2.2 hu
        rw [z6]
        exact hb z1
      split
      · exact i1
      · split
        · exact i1
        · split
          · rename_i e
            rw [e]
            exact IV_pN i1 hp (NQ_doesA hB hp hn hu c16)
          · rename_i e
            refine IV_req (IV_pN i1 hp (NQ_19 hp (by omega) e hn)) hp (by omega) e ?_
            rw [pN_eq, un_nk (by decide)]
            exact hu
    · exact i1
theorem IV_beg1 {B p : Nat} {X : Nat → Int32} {a : rA} (hB : B < 134217720) (hp : p < 8) (h : IV B X a) (hu : a.1 p 1 0 = 1) (h14 : ¬ a.1 p 14 0 = 0) (h18 : a.1 p 18 0 = 0) : IV (B + 1) X (A_beg1 a p) := by
  have hn := (h.2.1 p hp).1
  unfold A_beg1
  refine IV_ask (by omega) hp (IV_pN' (by omega) h hp (NQ_begin1 (by omega) hp hn hu h14 h18)) ?_ 8 (Nat.le_refl _)
  rw [pN_eq]
  intro hv
  have e16 : F_begin1 (a.1 p) p 16 0 = 1 := by
    unfold F_begin1 at hv ⊢
    by_cases c : a.1 p 15 0 = 3
    · rw [if_pos c] at hv ⊢
      by_cases c2 : (F_round (F_open1 (a.1 p)) (F_open1 (a.1 p) 3 0 + 1)) 1 0 = 1
      · rw [if_pos c2]
        have z := (KF_round (n := F_open1 (a.1 p)) (v := F_open1 (a.1 p) 3 0 + 1)).2.2.2.2.2 c2
        rw [un_nk (by decide), z.2.2.2.2.2.1]
        exact fo_16
      · rw [if_neg c2] at hv
        exact absurd hv c2
    · rw [if_neg c]
      exact fo_16
  rw [e16]
  decide
theorem IV_beg2 {B p : Nat} {X : Nat → Int32} {a : rA} (hB : B < 134217720) (hp : p < 8) (h : IV B X a) (hu : a.1 p 1 0 = 1) (h14 : ¬ a.1 p 14 0 = 0) (h18 : a.1 p 18 0 = 0) : IV (B + 1) X (A_beg2 a p) := by
  have hn := (h.2.1 p hp).1
  unfold A_beg2
  refine IV_ask (by omega) hp (IV_pN' (by omega) h hp (NQ_ph (by omega) hp hn hu h14 h18 (Or.inr rfl))) ?_ 8 (Nat.le_refl _)
  rw [pN_eq, fp_16]
  intro _
  decide
theorem NI_busy {B : Nat} {b : nv} (h : NI B b) (h16 : ¬ b 16 0 = 0) : ¬ b 14 0 = 0 ∧ b 18 0 = 0 := ⟨h.2.2.2.2.2.2.2.2.2.2.2.2.2.2 h16, h.2.2.2.2.2.2.2.2.2.2.1 h16⟩
theorem IV_second {B p : Nat} {X : Nat → Int32} {a : rA} (hB : B < 134217720) (hp : p < 8) (h : IV B X a) (hu : a.1 p 1 0 = 1) (h16 : ¬ a.1 p 16 0 = 0) : IV (B + 1) X (A_second a p) := by
  have hn := (h.2.1 p hp).1
  obtain ⟨h14, h18⟩ := NI_busy hn h16
  unfold A_second
  split
  · exact IV_beg2 hB hp h hu h14 h18
  · split
    · rename_i hv
      have kf := (KF_sec (n := a.1 p) (p := p)).2.2.2.2.2 hv
      refine IV_beg2 hB hp (IV_pN h hp (NQ_sec hn)) ?_ ?_ ?_
      · rw [pN_eq]
        exact hv
      · rw [pN_eq, kf.2.2.2.2.1]
        exact h14
      · rw [pN_eq, kf.2.2.2.2.2.2.1]
        exact h18
    · exact IV_mono (by omega) (IV_pN h hp (NQ_sec hn))
theorem IV_stp {B p : Nat} {X : Nat → Int32} {a : rA} (hB : B < 134217720) (hp : p < 8) (h : IV B X a) (hu : a.1 p 1 0 = 1) : IV (B + 1) X (A_stp a p) := by
  unfold A_stp
  split
  · rename_i c
    exact IV_second hB hp h hu (by rw [c]; decide)
  · exact IV_mono (by omega) (IV_pN h hp (NQ_ends (h.2.1 p hp).1))
theorem IV_go {B p : Nat} {X : Nat → Int32} {a : rA} (hB : B < 134217700) (hp : p < 8) (h : IV B X a) : IV (B + 2) X (A_go a p) := by
  unfold A_go
  split
  · exact IV_mono (by omega) h
  · rename_i c
    have h1 := IV_stp (by omega) hp h (cd_ne c).1
    split
    · exact IV_mono (by omega) h1
    · rename_i c2
      exact IV_stp (by omega) hp h1 (cd_ne c2).1
theorem go_cd {a : rA} {p : Nat} : A_cd ((A_go a p).1 p) = 0 := by
  unfold A_go
  split
  · rename_i c
    exact c
  · split
    · rename_i c
      exact c
    · rename_i c
      exact cd_two c
theorem IV_look0 {B p : Nat} {X : Nat → Int32} {a : rA} {rt : Int32} (hB : B < 134217720) (hp : p < 8) (h : IV B X a) (hu : a.1 p 1 0 = 1) (h16 : ¬ a.1 p 16 0 = 0) : IV (B + 1) X (A_look0 a p rt) := by
  have hn := (h.2.1 p hp).1
  obtain ⟨h14, h18⟩ := NI_busy hn h16
  have hA : ∀ s, IV (B + 1) X (A_ask a p s 8) := fun s => IV_mono (by omega) (IV_ask (by omega) hp h (fun _ => h16) 8 (Nat.le_refl _))
  unfold A_look0
  split
  · split
    · split
      · exact IV_mono (by omega) h
      · exact IV_mono (by omega) (IV_pN h hp (NQ_proposed hn))
    · exact IV_mono (by omega) h
  · split
    · split
      · exact hA _
      · exact IV_beg1 hB hp h hu h14 h18
    · exact hA _
theorem IV_looks {B p : Nat} {X : Nat → Int32} {a : rA} {rt : Int32} (hB : B < 134217690) (hp : p < 8) (h : IV B X a) (hu : a.1 p 1 0 = 1) : IV (B + 3) X (A_looks a p rt) := by
  unfold A_looks
  split
  · exact IV_mono (by omega) h
  · rename_i c
    exact IV_go (by omega) hp (IV_look0 (by omega) hp h hu c)
theorem IV_merges {B p : Nat} {X : Nat → Int32} {a : rA} (hB : B < 134217690) (hp : p < 8) (h : IV B X a) (hw : ∀ i, i < 16 → S3 (a.2.2.1 (9 + 2 * i))) : IV (B + 3) X (A_merges a p) := by
  have hn := (h.2.1 p hp).1
  unfold A_merges
  split
  · exact IV_mono (by omega) h
  · split
    · exact IV_mono (by omega) (IV_pN h hp (NQ_may hn))
    · rename_i c
      refine IV_looks hB hp (IV_pN h hp (NQ_trans (NQ_may hn) (fun h => NQ_mrg h hw (Nat.le_refl _)))) ?_
      rw [pN_eq, mrg_k (by decide)]
      exact (may1_up c).1
theorem IV_has {B p q : Nat} {X : Nat → Int32} {a : rA} (hB : B < 134217690) (hp : p < 8) (h : IV B X a) (hf : a.2.2.1 1 = nI q) (hq : q < 8) : IV (B + 2) X (A_has a p) := by
  unfold A_has
  refine IV_go (by omega) hp (IV_pN h hp (NQ_un20 (h.2.1 p hp).1 (fun e => ?_)))
  rw [or_bit] at e
  exact (or_eq0.mp e).1
theorem IV_answers {B p q : Nat} {X : Nat → Int32} {a : rA} (hB : B < 134217690) (hp : p < 8) (h : IV B X a) (hf : a.2.2.1 1 = nI q) (hq : q < 8) (h9 : a.2.2.1 0 = 9 → NB (8 * B + 7) (a.2.2.1 6)) : IV (B + 2) X (A_answers a p) := by
  have hn := (h.2.1 p hp).1
  unfold A_answers
  split
  · rename_i c
    exact IV_mono (by omega) (IV_pN h hp (NQ_refused (by omega) hn (h9 c)))
  · split
    · exact IV_has hB hp (IV_pN h hp (NQ_best hn)) hf hq
    · split
      · exact IV_has hB hp (IV_pN h hp (NQ_top hn)) hf hq
      · split
        · exact IV_has hB hp (IV_pN h hp (NQ_bestAll hn)) hf hq
        · exact IV_has hB hp h hf hq
theorem IV_count {B p q : Nat} {X : Nat → Int32} {a : rA} (hB : B < 134217690) (hp : p < 8) (h : IV B X a) (hf : a.2.2.1 1 = nI q) (hq : q < 8) (h9 : a.2.2.1 0 = 9 → NB (8 * B + 7) (a.2.2.1 6)) : IV (B + 2) X (A_count a p) := by
  unfold A_count
  split
  · exact IV_mono (by omega) h
  · exact IV_answers hB hp h hf hq h9
