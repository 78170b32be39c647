/-! what a node's numbers keep -/
def NV (b : nv) : Prop := ∀ q, (∃ m, m < 2147483648 ∧ b 11 q = nI m) ∧ 0 ≤ b 12 q
theorem NV_of {b b' : nv} (h : NV b) (e1 : b' 11 = b 11) (e2 : b' 12 = b 12) : NV b' := by
  intro q
  rw [e1, e2]
  exact h q
theorem may_vk1 {b : nv} {k : Nat} (h : k ≠ 1 ∧ k ≠ 4 ∧ k ≠ 14 ∧ k ≠ 15 ∧ k ≠ 16 ∧ k ≠ 5 ∧ k ≠ 32) : (F_may b).2 k = b k := by
  funext j
  exact may_vk h
theorem NV_un {b : nv} {k j : Nat} {v : Int32} (h : NV b) (hk : k ≠ 11 ∧ k ≠ 12) : NV (un b k j v) := NV_of h (un_nk1 (Ne.symm hk.1)) (un_nk1 (Ne.symm hk.2))
theorem NV_may {b : nv} (h : NV b) : NV (F_may b).2 := NV_of h (may_vk1 (by decide)) (may_vk1 (by decide))
theorem NV_store {b : nv} {q : Nat} {x y z : Int32} (h : NV b) : NV (F_store b q x y z) := by
  unfold F_store
  split
  · exact h
  · split
    · exact NV_may h
    · exact NV_un (NV_un (NV_un (NV_may h) (by decide)) (by decide)) (by decide)
theorem NV_best {b : nv} {q : Nat} {x y z : Int32} (h : NV b) : NV (F_best b q x y z) := by
  unfold F_best
  split
  · exact h
  · exact NV_un (NV_un (NV_un h (by decide)) (by decide)) (by decide)
theorem NV_round {b : nv} {v : Int32} (h : NV b) : NV (F_round b v) := by
  unfold F_round
  split
  · exact h
  · split
    · exact NV_may h
    · exact NV_un (NV_may h) (by decide)
theorem NV_top {b : nv} {x y : Int32} (h : NV b) : NV (F_top b x y) := by
  unfold F_top
  split
  · exact h
  · exact NV_un (NV_un h (by decide)) (by decide)
theorem NV_ans {b : nv} {p : Nat} (h : NV b) : NV (F_ans b p) := by
  unfold F_ans
  split
  · exact NV_un h (by decide)
  · exact h
theorem NV_refused {b : nv} {x : Int32} (h : NV b) : NV (F_refused b x) := by
  unfold F_refused
  split
  · exact NV_round h
  · exact h
theorem NV_vote {b : nv} {q : Nat} {x y z : Int32} (h : NV b) (hx : ∃ m, m < 2147483648 ∧ x = nI m) (hy : 0 ≤ y) : NV (F_vote b q x y z) := by
  unfold F_vote
  split
  · exact h
  · split
    · exact NV_may h
    · intro q'
      obtain ⟨h1, h2⟩ := NV_may h q'
      by_cases e : q' = q
      · subst e
        refine ⟨?_, ?_⟩
        · rw [un_nk (by decide), un_nk (by decide), un_eq]
          exact hx
        · rw [un_nk (by decide), un_eq]
          exact hy
      · refine ⟨?_, ?_⟩
        · rw [un_nk (by decide), un_nk (by decide), un_nj e]
          exact h1
        · rw [un_nk (by decide), un_nj e, un_nk (by decide)]
          exact h2
theorem NV_all {b : nv} {k : Nat} (h : NV b) : NV (F_all b k) := by
  induction k with
  | zero => exact h
  | succ k ih =>
    rw [F_all]
    split
    · exact NV_best ih
    · exact NV_store ih
theorem NV_does {b : nv} {p : Nat} (h : NV b) (h23 : ∃ m, m < 2147483648 ∧ b 23 0 = nI m) : NV (F_does b p) := by
  have h0 : 0 ≤ b 23 0 := by
    obtain ⟨m, hm, e⟩ := h23
    rw [e]
    exact nI_nn hm
  unfold F_does
  split
  · split
    · exact NV_ans (NV_all h)
    · split
      · exact NV_ans (NV_top (NV_vote h h23 (h (ab b)).2))
      · split
        · exact NV_ans (NV_vote h h23 h0)
        · exact NV_refused h
  · split
    · exact NV_ans (NV_best h)
    · exact NV_ans (NV_store h)
theorem Ar_best {b : nv} {q : Nat} {x y z : Int32} (h : Ar b) : Ar (F_best b q x y z) := by
  unfold F_best
  split
  · exact h
  · exact Ar_un (Ar_un (Ar_un h (by decide)) (by decide)) (by decide)
theorem Ar_top {b : nv} {x y : Int32} (h : Ar b) : Ar (F_top b x y) := by
  unfold F_top
  split
  · exact h
  · exact Ar_un (Ar_un h (by decide)) (by decide)
theorem Ar_ans {b : nv} {p : Nat} (h : Ar b) : Ar (F_ans b p) := by
  unfold F_ans
  split
  · exact Ar_un h (by decide)
  · exact h
theorem Ar_refused {b : nv} {x : Int32} (h : Ar b) : Ar (F_refused b x) := by
  unfold F_refused
  split
  · exact Ar_round h
  · exact h
theorem Ar_all {b : nv} {k : Nat} (h : Ar b) : Ar (F_all b k) := by
  induction k with
  | zero => exact h
  | succ k ih =>
    rw [F_all]
    split
    · exact Ar_best ih
    · exact Ar_store ih
theorem Ar_does {b : nv} {p : Nat} (h : Ar b) : Ar (F_does b p) := by
  unfold F_does
  split
  · split
    · exact Ar_ans (Ar_all h)
    · split
      · exact Ar_ans (Ar_top (Ar_vote h))
      · split
        · exact Ar_ans (Ar_vote h)
        · exact Ar_refused h
  · split
    · exact Ar_ans (Ar_best h)
    · exact Ar_ans (Ar_store h)
theorem round_k {b : nv} {k j : Nat} {v : Int32} (h : k ≠ 1 ∧ k ≠ 4 ∧ k ≠ 14 ∧ k ≠ 15 ∧ k ≠ 16 ∧ k ≠ 5 ∧ k ≠ 32) (h3 : k ≠ 3) : F_round b v k j = b k j := by
  unfold F_round
  split
  · rfl
  · split
    · exact may_vk h
    · rw [un_nk h3, may_vk h]
theorem ans_k {b : nv} {p k j : Nat} (h : k ≠ 20) : F_ans b p k j = b k j := by
  unfold F_ans
  split
  · exact un_nk h
  · rfl
theorem refused_k {b : nv} {k j : Nat} {v : Int32} (h : k ≠ 1 ∧ k ≠ 4 ∧ k ≠ 14 ∧ k ≠ 15 ∧ k ≠ 16 ∧ k ≠ 5 ∧ k ≠ 32) (h3 : k ≠ 3) : F_refused b v k j = b k j := by
  unfold F_refused
  split
  · exact round_k h h3
  · rfl
theorem does_19 {b : nv} {p : Nat} (h : b 16 0 = 1 ∨ b 16 0 = 2) : F_does b p 19 0 = b 19 0 ∧ F_does b p 23 0 = b 23 0 ∧ F_does b p 21 0 = b 21 0 := by
  have hall : F_all b 4 19 0 = b 19 0 ∧ F_all b 4 23 0 = b 23 0 ∧ F_all b 4 21 0 = b 21 0 := by
    rcases h with h | h
    · exact ⟨all_k h (by decide), all_k h (by decide), all_k h (by decide)⟩
    · exact ⟨all2_k h (by decide) (by decide), all2_k h (by decide) (by decide), all2_k h (by decide) (by decide)⟩
  unfold F_does
  split
  · split
    · rw [ans_k (by decide), ans_k (by decide), ans_k (by decide)]
      exact hall
    · split
      · simp (disch := decide) only [ans_k, top_k, vote_k, and_self]
      · split
        · simp (disch := decide) only [ans_k, vote_k, and_self]
        · simp (disch := decide) only [refused_k, and_self]
  · split
    · simp (disch := decide) only [ans_k, best_k, and_self]
    · simp (disch := decide) only [ans_k, store_k, and_self]
theorem does_2 {b : nv} {p k j : Nat} (h : b 16 0 = 2) (hk : k = 25 ∨ k = 26 ∨ k = 27 ∨ k = 28 ∨ k = 29) : F_does b p k j = b k j := by
  have n1 : ¬ b 16 0 = 1 := by
    rw [h]
    decide
  have g : k ≠ 1 ∧ k ≠ 4 ∧ k ≠ 14 ∧ k ≠ 15 ∧ k ≠ 16 ∧ k ≠ 5 ∧ k ≠ 32 := by omega
  unfold F_does
  split
  · split
    · rw [ans_k (by omega), all2_k h g (by omega)]
    · split
      · rename_i hc
        exact absurd hc.1 n1
      · split
        · rw [ans_k (by omega), vote_k g (by omega)]
        · rw [refused_k g (by omega)]
  · rw [ans_k (by omega), store_k g (by omega)]
theorem does_25 {b : nv} {p : Nat} (h : b 16 0 = 1 ∨ b 16 0 = 2) (hv : NV b) (h25 : 0 ≤ b 25 0) : 0 ≤ F_does b p 25 0 := by
  rcases h with h | h
  · unfold F_does
    split
    · split
      · rw [ans_k (by decide), all_k h (by decide)]
        exact h25
      · split
        · rw [ans_k (by decide)]
          unfold F_top
          split
          · rw [vote_k (by decide) (by decide)]
            exact h25
          · rw [un_nk (by decide), un_eq, (prep_k (b := b)).1]
            exact (hv (ab b)).2
        · split
          · rw [ans_k (by decide), vote_k (by decide) (by decide)]
            exact h25
          · rw [refused_k (by decide) (by decide)]
            exact h25
    · rw [ans_k (by decide), best_k (by decide)]
      exact h25
  · rw [does_2 h (Or.inl rfl)]
    exact h25
/-- what a phase that goes on holds at its node -/
def SI (b : nv) (i : Nat) : Prop := Wn b ∧ Ar b ∧ NV b ∧ (∃ m, m < 2147483648 ∧ b 23 0 = nI m) ∧ 0 ≤ b 25 0 ∧ ((b 19 0 >>> (nI i &&& 31)) &&& 1 = 0 → (b 20 0 >>> (nI i &&& 31)) &&& 1 = 0) ∧ (b 15 0 = 1 ∨ b 15 0 = 2 ∨ b 15 0 = 3 ∨ b 15 0 = 4) ∧ (b 16 0 = 1 ∨ b 16 0 = 2) ∧ ¬ b 14 0 = 0
theorem SQ_un {b : nv} {j : Nat} {v : Int32} {k : Nat} (hk : k = 19 ∨ k = 20) : SQ b (un b k j v) := by
  refine ⟨un_nk (by omega), un_nk (by omega), un_nk (by omega), un_nk (by omega), un_nk (by omega), un_nk (by omega), un_nk1 (by omega), un_nk1 (by omega), fun _ => ⟨un_nk (by omega), un_nk (by omega), un_nk (by omega), un_nk1 (by omega), un_nk1 (by omega), un_nk1 (by omega)⟩⟩
theorem SQ_does {b : nv} {p : Nat} (h : b 16 0 = 1 ∨ b 16 0 = 2) (hu : F_does b p 1 0 = 1) : SQ b (F_does b p) := by
  have hk := KF_does (n := b) (p := p)
  obtain ⟨k1, k2, k3, k4, k5, k6⟩ := hk
  obtain ⟨_, q0, q1, q2, q3, q4, q5, q6, q7, q8⟩ := k6 hu
  refine ⟨q0, q4, q1, q2, k1, q8, k3, k4, fun h2 => ⟨q6, does_2 h2 (by decide), does_2 h2 (by decide), ?_, ?_, ?_⟩⟩
  · funext j
    exact does_2 h2 (by decide)
  · funext j
    exact does_2 h2 (by decide)
  · funext j
    exact does_2 h2 (by decide)
theorem RN_selfA {a b d rp : nv} {i : Nat} (hr : RN a b) (hi : a 0 0 = nI i) (hu : b 1 0 = 1) (hs : SI b i) (hd : DR d b i) (eb : (b 20 0 >>> (nI i &&& 31)) &&& 1 = 0) : RN (C_hear (C_srv1 a d) (C_srv2 a d rp)) (F_does b i) := by
  obtain ⟨hw, har, hnv, h23, h25, _, h15, h16, h14⟩ := hs
  obtain ⟨d0, d1, d3, d4, d5, d6, d7, d8⟩ := hd
  have hsd : SD a b d i := ⟨hr, har, hu, h16, h14, hi, d0, d3, d4, eb⟩
  have hdata : b 15 0 = 1 ∨ b 15 0 = 2 → ¬ F_isData b = 0 := by
    intro h
    unfold F_isData
    rw [if_pos h]
    decide
  have hD : ¬ F_isData b = 0 → RN (C_hear (C_srv1 a d) (C_srv2 a d rp)) (F_does b i) := by
    intro hd
    have e5 : d 0 5 = nI (ab b) := by
      rw [d5]
      unfold rq5
      rw [if_neg hd]
      exact hw.1
    rcases h16 with h1 | h2
    · exact RN_self1 hsd hd (hw.2.2.1 hd) h1 e5
    · exact RN_self3 hsd hd (hw.2.2.1 hd) h2 e5 (d8 h2)
  rcases h15 with h | h | h | h
  · exact hD (hdata (Or.inl h))
  · exact hD (hdata (Or.inr h))
  · have hdd : F_isData b = 0 := by
      unfold F_isData
      rw [h]
      decide
    have e5 : d 0 5 = nI (ab b) := by
      rw [d5]
      unfold rq5
      rw [if_pos hdd, if_pos h]
      exact hw.1
    have hn3 : ¬ rqk b = 3 := fun e => (rq3 e).1 hdd
    obtain ⟨z1, z2⟩ := d6 hn3
    have e6 : d 0 6 = b 23 0 := by
      rw [z1]
      unfold rq6
      rw [if_pos hdd, if_pos h]
    rcases h16 with h1 | h2
    · exact RN_self5 hsd h h1 hw.2.1 h25 (hnv (ab b)).1 e5 e6
    · refine RN_self7 hsd h h2 hw.2.1 (hnv (ab b)).1 e5 e6 ?_
      rw [z2]
      unfold rq7
      rw [if_pos hdd, if_pos h, if_neg (by rw [h2]; decide)]
  · rcases h16 with h1 | h2
    · exact RN_self10 hsd h h1
    · exact RN_self12 hsd h h2 (d8 h2)
/-! the loop -/
theorem SI_un19 {b : nv} {i k : Nat} (hi : i < 8) (hk : k < 8) (h : SI b i) (hne : k ≠ i) : SI (un b 19 0 (b 19 0 ||| ((1 : Int32) <<< (nI k &&& 31)))) i := by
  obtain ⟨hw, har, hnv, h23, h25, hb, h15, h16, h14⟩ := h
  refine ⟨Wn_KF hw (KF_un (by decide)), Ar_un har (by decide), NV_un hnv (by decide), ?_, ?_, ?_, ?_, ?_, ?_⟩
  · rw [un_nk (by decide)]
    exact h23
  · rw [un_nk (by decide)]
    exact h25
  · rw [un_eq, un_nk (by decide), or_bit_ne hi hk (Ne.symm hne)]
    exact hb
  · rw [un_nk (by decide)]
    exact h15
  · rw [un_nk (by decide)]
    exact h16
  · rw [un_nk (by decide)]
    exact h14
/-- the same, with the node's own bit -/
theorem SI_un19i {b : nv} {i : Nat} {v : Int32} (h : SI b i) (hb' : (b 20 0 >>> (nI i &&& 31)) &&& 1 = 0) : SI (un b 19 0 v) i := by
  obtain ⟨hw, har, hnv, h23, h25, hb, h15, h16, h14⟩ := h
  refine ⟨Wn_KF hw (KF_un (by decide)), Ar_un har (by decide), NV_un hnv (by decide), ?_, ?_, ?_, ?_, ?_, ?_⟩
  · rw [un_nk (by decide)]
    exact h23
  · rw [un_nk (by decide)]
    exact h25
  · rw [un_eq, un_nk (by decide)]
    exact fun _ => hb'
  · rw [un_nk (by decide)]
    exact h15
  · rw [un_nk (by decide)]
    exact h16
  · rw [un_nk (by decide)]
    exact h14
theorem SI_does {b : nv} {i : Nat} (h : SI b i) (hu : F_does b i 1 0 = 1) (ha : (b 19 0 >>> (nI i &&& 31)) &&& 1 = 1) : SI (F_does b i) i := by
  obtain ⟨hw, har, hnv, h23, h25, hb, h15, h16, h14⟩ := h
  have hq := SQ_does h16 hu
  obtain ⟨e19, e23, _⟩ := does_19 (p := i) h16
  obtain ⟨u1, u2, u3, u4⟩ := up_KF (KF_does (n := b) (p := i)) hu
  refine ⟨Wn_KF hw KF_does, Ar_does har, NV_does hnv h23, ?_, does_25 h16 hnv h25, ?_, ?_, ?_, ?_⟩
  · rw [e23]
    exact h23
  · rw [e19, ha]
    intro hh
    exact absurd hh (by decide)
  · rw [hq.1]
    exact h15
  · rw [hq.2.1]
    exact h16
  · rw [u3]
    exact h14
theorem send_kk {s : cS} {m k : Nat} (hw : CW s) (hk : 121 ≤ k) : (C_send s m).2.1 k = s.2.1 k := by
  obtain ⟨⟨L, hL, e⟩, hr⟩ := hw
  unfold C_send
  split
  · rename_i hlt
    have hL2 : L < 120 := by
      rw [e, show (120 : Int32) = nI 120 from rfl, nI_ltI (by omega) (by omega)] at hlt
      exact hlt
    have ec : (s.2.2.1 1).toNatClampNeg = L := by rw [e, nI_cl (by omega)]
    have hx := hr L hL2
    show (cM s _ _).2.1 k = _
    rw [cM_ne (by rw [ec]; omega)]
  · rfl
theorem DR_to {d b : nv} {i : Nat} {x : Int32} (h : DR d b i) : DR (un d 0 2 x) b i := by
  obtain ⟨d0, d1, d3, d4, d5, d6, d7, d8⟩ := h
  unfold DR
  simp (disch := decide) only [un_nj, un_nk]
  exact ⟨d0, d1, d3, d4, d5, d6, d7, d8⟩
theorem RR_ask {s : cS} {a : rA} {i : Nat} {w : Int32} (hi : i < 8) (hr : RR s a) (hd : a.1 i 1 0 = 1 → DR (s.2.1 121) (a.1 i) i) (hs : a.1 i 1 0 = 1 → SI (a.1 i) i) : ∀ k, k ≤ 8 → RR (K_ask s i w k) (A_ask a i w k) ∧ ((A_ask a i w k).1 i 1 0 = 1 → DR ((K_ask s i w k).2.1 121) ((A_ask a i w k).1 i) i ∧ SI ((A_ask a i w k).1 i) i) := by
  intro k
  induction k with
  | zero =>
    intro _
    exact ⟨hr, fun hu => ⟨hd hu, hs hu⟩⟩
  | succ k ih =>
    intro hk
    obtain ⟨i1, i2⟩ := ih (by omega)
    obtain ⟨hn, hid⟩ := i1.1 i hi
    rw [K_ask, A_ask]
    generalize hus : K_ask s i w k = us at *
    generalize hua : A_ask a i w k = ua' at *
    have e1 : us.1 i 0 1 = ua'.1 i 1 0 := hn.1.1
    by_cases h1 : ua'.1 i 1 0 = 1
    · obtain ⟨jd, js⟩ := i2 h1
      have hph := js.2.2.2.2.2.2.2.1
      have h14 := js.2.2.2.2.2.2.2.2
      have e5 : us.1 i 12 5 = ua'.1 i 19 0 := (hn.2 h14).2.1
      rw [e1, if_pos h1, if_pos h1, e5]
      unfold bt
      by_cases h2 : (w >>> (nI k &&& 31)) &&& 1 = 0
      · rw [if_pos h2, if_pos h2]
        exact ⟨i1, i2⟩
      · rw [if_neg h2, if_neg h2]
        rcases bit01 (x := ua'.1 i 19 0) (s := nI k &&& 31) with h3 | h3
        · have hn1 : ¬ (ua'.1 i 19 0 >>> (nI k &&& 31)) &&& 1 = 1 := by
            rw [h3]
            decide
          rw [if_pos h3, if_neg hn1]
          have hrn : RN (un (us.1 i) 12 5 (ua'.1 i 19 0 ||| ((1 : Int32) <<< (nI k &&& 31)))) (un (ua'.1 i) 19 0 (ua'.1 i 19 0 ||| ((1 : Int32) <<< (nI k &&& 31)))) := RN_ask hn
          have hrr : RR (cN us i (un (us.1 i) 12 5 (ua'.1 i 19 0 ||| ((1 : Int32) <<< (nI k &&& 31))))) (pN ua' i (un (ua'.1 i) 19 0 (ua'.1 i 19 0 ||| ((1 : Int32) <<< (nI k &&& 31))))) := RR_N i1 hrn (un_nk (by decide))
          by_cases h4 : k = i
          · subst h4
            rw [if_pos rfl, if_pos rfl]
            have hb0 : (ua'.1 k 20 0 >>> (nI k &&& 31)) &&& 1 = 0 := js.2.2.2.2.2.1 h3
            have hsi := SI_un19i (v := ua'.1 k 19 0 ||| ((1 : Int32) <<< (nI k &&& 31))) js hb0
            have hsq : SQ (ua'.1 k) (un (ua'.1 k) 19 0 (ua'.1 k 19 0 ||| ((1 : Int32) <<< (nI k &&& 31)))) := SQ_un (by decide)
            have hdr := DR_SQ jd hph hsq
            have hu19 : (un (ua'.1 k) 19 0 (ua'.1 k 19 0 ||| ((1 : Int32) <<< (nI k &&& 31)))) 1 0 = 1 := by
              rw [un_nk (by decide)]
              exact h1
            have hz := RN_selfA (rp := us.2.1 122) hrn (by rw [un_nk (by decide)]; exact hid) hu19 hsi hdr (by rw [un_nk (by decide)]; exact hb0)
            unfold K_self
            rw [cN_eq, cN_cN, cN_2]
            refine ⟨RR_M (RR_N i1 hz (by rw [hear_00, srv1_00, un_nk (by decide)])) (by decide), fun hu => ?_⟩
            rw [pN_eq] at hu ⊢
            have hq2 := SQ_does hsi.2.2.2.2.2.2.2.1 hu
            refine ⟨?_, SI_does hsi hu ?_⟩
            · rw [cM_ne (by decide)]
              exact DR_SQ hdr hsi.2.2.2.2.2.2.2.1 hq2
            · rw [un_eq]
              exact or_bit_eq hi
          · rw [if_neg h4, if_neg h4]
            have hsi := SI_un19 hi (by omega) js h4
            have hsq : SQ (ua'.1 i) (un (ua'.1 i) 19 0 (ua'.1 i 19 0 ||| ((1 : Int32) <<< (nI k &&& 31)))) := SQ_un (by decide)
            have hdr := DR_SQ jd hph hsq
            have hm := RM_req (x := nI k) (f := (pN ua' i (un (ua'.1 i) 19 0 (ua'.1 i 19 0 ||| ((1 : Int32) <<< (nI k &&& 31))))).2.1 (ln (pN ua' i (un (ua'.1 i) 19 0 (ua'.1 i 19 0 ||| ((1 : Int32) <<< (nI k &&& 31))))))) hdr hsi.2.2.2.2.2.2.2.1 hsi.1
            have hrr2 := RR_M (v := un (us.2.1 121) 0 2 (nI k)) hrr (m := 121) (by decide)
            refine ⟨?_, fun hu => ?_⟩
            · unfold A_request
              rw [pN_eq]
              apply RR_send hrr2
              rw [cM_eq, pN_eq]
              exact hm
            · rw [request_1, pN_eq] at hu ⊢
              refine ⟨?_, hsi⟩
              rw [send_kk (CW_RR hrr2) (by decide), cM_eq]
              exact DR_to hdr
        · have hn0 : ¬ (ua'.1 i 19 0 >>> (nI k &&& 31)) &&& 1 = 0 := by
            rw [h3]
            decide
          rw [if_neg hn0, if_pos h3]
          exact ⟨i1, i2⟩
    · rw [e1, if_neg h1, if_neg h1]
      exact ⟨i1, i2⟩
