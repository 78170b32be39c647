/-! what a message asks: the reference keeps it -/
theorem IV_rep {B p q : Nat} {X : Nat → Int32} {a : rA} {c0 c2 c3 c4 c5 c6 c7 c8 ce be : Int32} (h : IV B X a) (hp : p < 8) (hq : q < 8) (hne : q ≠ p) (e2 : c2 = nI q) (hk : c0 = 4 ∨ c0 = 6 ∨ c0 = 8 ∨ c0 = 9 ∨ c0 = 11 ∨ c0 = 13 ∨ c0 = 14 ∨ c0 = 15) (h5 : ∃ r, r < 16 ∧ c5 = nI r) (hb : c0 = 9 → NB (8 * B + 7) c6) (h6 : c0 = 6 → 0 ≤ c6) : IV B X (A_send a p c0 c2 c3 c4 c5 c6 c7 c8 ce be) := by
  obtain ⟨r, hr, e5⟩ := h5
  have kd : KD c0 := by
    unfold KD
    rcases hk with z | z | z | z | z | z | z | z <;> rw [z] <;> decide
  have k1 : ¬ (c0 = 1 ∨ c0 = 2 ∨ c0 = 3) := by
    rcases hk with z | z | z | z | z | z | z | z <;> rw [z] <;> decide
  refine IV_send h (fun f => LQ_sdm (N := a.1) hp hq hne (h.2.1 p hp).1 kd e2 ⟨r, hr, e5, fun z => absurd z k1⟩ ?_ h6 (fun z => absurd (Or.inl z) k1) (fun z => absurd (Or.inr (Or.inl z)) k1))
  intro z
  rcases z with z | z | z
  · rcases hk with y | y | y | y | y | y | y | y <;> rw [y] at z <;> exact absurd z (by decide)
  · rcases hk with y | y | y | y | y | y | y | y <;> rw [y] at z <;> exact absurd z (by decide)
  · exact hb z
theorem IV_votes {B p q r : Nat} {X : Nat → Int32} {a : rA} (h : IV B X a) (hp : p < 8) (hq : q < 8) (hne : q ≠ p) (e1 : a.2.2.1 1 = nI q) (hr : r < 16) (e5 : a.2.2.1 5 = nI r) (hb : NB (8 * B + 7) (a.2.2.1 6)) (hB : B < 134217690) : IV B X (A_votes a p r) := by
  have hn := (h.2.1 p hp).1
  have h0 : 0 ≤ a.2.2.1 6 := NB_nn (by omega) hb
  have hv1 : ∀ z, IV B X (pN a p (F_vote (a.1 p) r (a.2.2.1 6) (a.1 p 12 r) z)) := fun z => IV_pN h hp (NQ_vote hn hb (hn.2.2.1 r).2)
  have hv2 : ∀ z, IV B X (pN a p (F_vote (a.1 p) r (a.2.2.1 6) (a.2.2.1 6) z)) := fun z => IV_pN h hp (NQ_vote hn hb h0)
  unfold A_votes
  split
  · split
    · split
      · refine IV_rep (hv1 _) hp hq hne e1 (by decide) ⟨r, hr, e5⟩ (fun z => absurd z (by decide)) (fun _ => ?_)
        rw [(prep_k (b := a.1 p)).1]
        exact (hn.2.2.1 r).2
      · exact hv1 _
    · exact IV_rep h hp hq hne e1 (by decide) ⟨r, hr, e5⟩ (fun _ => (hn.2.2.1 r).1) (fun z => absurd z (by decide))
  · split
    · split
      · exact IV_rep (hv2 _) hp hq hne e1 (by decide) ⟨r, hr, e5⟩ (fun z => absurd z (by decide)) (fun z => absurd z (by decide))
      · exact hv2 _
    · exact IV_rep h hp hq hne e1 (by decide) ⟨r, hr, e5⟩ (fun _ => (hn.2.2.1 r).1) (fun z => absurd z (by decide))
theorem IV_handles {B p : Nat} {X : Nat → Int32} {a : rA} (h : IV B X a) (hp : p < 8) (hX : LQ B a.1 a.2.2.1) (e2 : a.2.2.1 2 = nI p) (hB : B < 134217690) : IV (B + 2) X (A_handles a p) := by
  have hn := (h.2.1 p hp).1
  obtain ⟨⟨kd, ⟨q, t, hq, ht, hft, e1, et⟩, hm, hs, hb, h6⟩, ql⟩ := hX
  have etp : t = p := by
    rw [et] at e2
    exact (nI_eq (by omega) (by omega)).mp e2
  have hne : q ≠ p := by
    rw [← etp]
    exact hft
  have z5 : ∃ r, r < 16 ∧ (0 : Int32) = nI r := ⟨0, by decide, rfl⟩
  have mono : ∀ {c : rA}, IV B X c → IV (B + 2) X c := fun hc => IV_mono (by omega) hc
  unfold A_handles
  split
  · rename_i c
    refine mono (IV_send h (fun f => LQ_sdm (N := a.1) hp hq hne hn (by unfold KD; decide) e1 ⟨th a.2.2.1, hm.2.1, hm.1, fun _ => hm.2.2 (Or.inl c)⟩ (fun z => absurd z (by decide)) (fun z => absurd z (by decide)) (fun z => absurd z (by decide)) (fun _ => ql.1 q hq c e1)))
  · split
    · split
      · exact mono (IV_rep (IV_pN h hp (NQ_store hn)) hp hq hne e1 (by decide) z5 (fun z => absurd z (by decide)) (fun z => absurd z (by decide)))
      · exact mono (IV_pN h hp (NQ_store hn))
    · split
      · rename_i c
        refine mono (IV_votes h hp hq hne e1 hm.2.1 hm.1 (hb ?_) hB)
        rcases c with z | z
        · exact Or.inl z
        · exact Or.inr (Or.inl z)
      · split
        · exact mono (IV_rep h hp hq hne e1 (by decide) z5 (fun z => absurd z (by decide)) (fun z => absurd z (by decide)))
        · split
          · split
            · exact mono (IV_rep (IV_pN h hp (NQ_storeAll hn)) hp hq hne e1 (by decide) z5 (fun z => absurd z (by decide)) (fun z => absurd z (by decide)))
            · exact mono (IV_pN h hp (NQ_storeAll hn))
          · split
            · exact mono (IV_pN h hp (NQ_storeAll hn))
            · split
              · split
                · exact mono h
                · exact mono (IV_rep h hp hq hne e1 (by decide) z5 (fun z => absurd z (by decide)) (fun z => absurd z (by decide)))
              · exact IV_count hB hp h e1 hq (fun z => hb (Or.inr (Or.inr z)))
/-! what stays: now, and the other nodes -/
def AF (a a' : rA) (p : Nat) : Prop := a'.2.2.1 = a.2.2.1 ∧ a'.2.2.2 1 = a.2.2.2 1 ∧ ∀ q, q ≠ p → a'.1 q = a.1 q
theorem AF_refl {a : rA} {p : Nat} : AF a a p := ⟨rfl, rfl, fun _ _ => rfl⟩
theorem AF_trans {a a' a'' : rA} {p : Nat} (h : AF a a' p) (h' : AF a' a'' p) : AF a a'' p := ⟨h'.1.trans h.1, h'.2.1.trans h.2.1, fun q hq => (h'.2.2 q hq).trans (h.2.2 q hq)⟩
theorem AF_pN {a : rA} {p : Nat} {n : nv} : AF a (pN a p n) p := ⟨rfl, rfl, fun _ hq => pN_ne hq⟩
theorem send_tk {a : rA} {p : Nat} {c0 c2 c3 c4 c5 c6 c7 c8 ce be : Int32} : (A_send a p c0 c2 c3 c4 c5 c6 c7 c8 ce be).2.2.2 1 = a.2.2.2 1 := by
  unfold A_send
  split <;> rfl
theorem AF_send {a : rA} {p i : Nat} {c0 c2 c3 c4 c5 c6 c7 c8 ce be : Int32} : AF a (A_send a i c0 c2 c3 c4 c5 c6 c7 c8 ce be) p := ⟨send_now, send_tk, fun q _ => by rw [send_1]⟩
theorem AF_req {a : rA} {p i : Nat} {x : Int32} : AF a (A_request a i x) p := AF_send
theorem AF_ask {a : rA} {p : Nat} {s : Int32} {k : Nat} : AF a (A_ask a p s k) p := by
  induction k with
  | zero => exact AF_refl
  | succ k ih =>
    rw [A_ask]
    split
    · split
      · exact ih
      · split
        · exact ih
        · split
          · exact AF_trans ih AF_pN
          · exact AF_trans ih (AF_trans AF_pN AF_req)
    · exact ih
theorem AF_beg1 {a : rA} {p : Nat} : AF a (A_beg1 a p) p := by
  unfold A_beg1
  exact AF_trans AF_pN AF_ask
theorem AF_beg2 {a : rA} {p : Nat} : AF a (A_beg2 a p) p := by
  unfold A_beg2
  exact AF_trans AF_pN AF_ask
theorem AF_second {a : rA} {p : Nat} : AF a (A_second a p) p := by
  unfold A_second
  split
  · exact AF_beg2
  · split
    · exact AF_trans AF_pN AF_beg2
    · exact AF_pN
theorem AF_stp {a : rA} {p : Nat} : AF a (A_stp a p) p := by
  unfold A_stp
  split
  · exact AF_second
  · exact AF_pN
theorem AF_go {a : rA} {p : Nat} : AF a (A_go a p) p := by
  unfold A_go
  split
  · exact AF_refl
  · split
    · exact AF_stp
    · exact AF_trans AF_stp AF_stp
theorem AF_look0 {a : rA} {p : Nat} {rt : Int32} : AF a (A_look0 a p rt) p := by
  unfold A_look0
  split
  · split
    · split
      · exact AF_refl
      · exact AF_pN
    · exact AF_refl
  · split
    · split
      · exact AF_ask
      · exact AF_beg1
    · exact AF_ask
theorem AF_looks {a : rA} {p : Nat} {rt : Int32} : AF a (A_looks a p rt) p := by
  unfold A_looks
  split
  · exact AF_refl
  · exact AF_trans AF_look0 AF_go
theorem AF_merges {a : rA} {p : Nat} : AF a (A_merges a p) p := by
  unfold A_merges
  split
  · exact AF_refl
  · split
    · exact AF_pN
    · exact AF_trans AF_pN AF_looks
theorem AF_has {a : rA} {p : Nat} : AF a (A_has a p) p := by
  unfold A_has
  exact AF_trans AF_pN AF_go
theorem AF_answers {a : rA} {p : Nat} : AF a (A_answers a p) p := by
  unfold A_answers
  split
  · exact AF_pN
  · split
    · exact AF_trans AF_pN AF_has
    · split
      · exact AF_trans AF_pN AF_has
      · split
        · exact AF_trans AF_pN AF_has
        · exact AF_has
theorem AF_count {a : rA} {p : Nat} : AF a (A_count a p) p := by
  unfold A_count
  split
  · exact AF_refl
  · exact AF_answers
theorem AF_votes {a : rA} {p q : Nat} : AF a (A_votes a p q) p := by
  unfold A_votes
  split
  · split
    · split
      · exact AF_trans AF_pN AF_send
      · exact AF_pN
    · exact AF_send
  · split
    · split
      · exact AF_trans AF_pN AF_send
      · exact AF_pN
    · exact AF_send
theorem AF_handles {a : rA} {p : Nat} : AF a (A_handles a p) p := by
  unfold A_handles
  split
  · exact AF_send
  · split
    · split
      · exact AF_trans AF_pN AF_send
      · exact AF_pN
    · split
      · exact AF_votes
      · split
        · exact AF_send
        · split
          · split
            · exact AF_trans AF_pN AF_send
            · exact AF_pN
          · split
            · exact AF_pN
            · split
              · split
                · exact AF_refl
                · exact AF_send
              · exact AF_count
