/-! deliver: class and reference -/
theorem cd_KF {n n' : nv} (hk : KF n n') (h20 : n' 20 0 = n 20 0) (h : A_cd n = 0) : A_cd n' = 0 := by
  by_cases hu : n' 1 0 = 1
  · obtain ⟨k17, k24, k9, k10, _, kk⟩ := hk
    obtain ⟨z1, z15, _, _, _, z16, _, _, z22, _⟩ := kk hu
    have e := en_congr z15 z16 k9 k10 h20 z22 k17 k24
    unfold A_cd at *
    rw [e, z16, hu]
    rw [z1] at h
    exact h
  · exact (NJ_dn (p := 0) hu).1
theorem SI_KF {b b' : nv} {i : Nat} (h : SI b i) (hk : KF b b') (hu : b' 1 0 = 1) (har : Ar b') (hv : NV b') (e19 : b' 19 0 = b 19 0) (e20 : b' 20 0 = b 20 0) (e25 : b' 25 0 = b 25 0) : SI b' i := by
  obtain ⟨_, z15, _, _, z14, z16, _, _, _, z23⟩ := hk.2.2.2.2.2 hu
  obtain ⟨h1, _, _, h4, h5, h6, h7, h8, h9⟩ := h
  unfold SI
  rw [e19, e20, e25, z15, z16, z14, z23]
  exact ⟨Wn_KF h1 hk, har, hv, h4, h5, h6, h7, h8, h9⟩
theorem NJ_K {b b' : nv} {i : Nat} (h : NJ b i) (hk : KF b b') (har : Ar b') (hv : NV b') (e19 : b' 19 0 = b 19 0) (e20 : b' 20 0 = b 20 0) (e25 : b' 25 0 = b 25 0) : NJ b' i := by
  refine ⟨cd_KF hk e20 h.1, fun hu h16 => ?_⟩
  obtain ⟨z1, _, _, _, _, z16, _⟩ := hk.2.2.2.2.2 hu
  have hb := h.2 z1 (by rw [← z16]; exact h16)
  exact BI_KF hb hk hu (SI_KF hb.1 hk hu har hv e19 e20 e25)
theorem NJ_store {B i q : Nat} {b : nv} {x y z : Int32} (hB : B < 134217690) (hn : NI B b) (h : NJ b i) : NJ (F_store b q x y z) i := NJ_K h KF_store (Ar_store hn.2.1) (NV_store (NI_NV hB hn)) (store_k (by decide) (by decide)) store_20 (store_k (by decide) (by decide))
theorem NJ_vote {B i q : Nat} {b : nv} {x y z : Int32} (hB : B < 134217690) (hn : NI B b) (h : NJ b i) (hx : NB (8 * B + 7) x) (hy : 0 ≤ y) : NJ (F_vote b q x y z) i := by
  obtain ⟨m, hm, e⟩ := hx
  exact NJ_K h KF_vote (Ar_vote hn.2.1) (NV_vote (NI_NV hB hn) ⟨m, by omega, e⟩ hy) (vote_k (by decide) (by decide)) (vote_k (by decide) (by decide)) (vote_k (by decide) (by decide))
theorem NJ_storeAll {B i k : Nat} {b : nv} {w : Nat → Int32} (hB : B < 134217690) (hn : NI B b) (h : NJ b i) : NJ (F_storeAll b w k) i := by
  have key : NJ (F_storeAll b w k) i ∧ NI B (F_storeAll b w k) := by
    induction k with
    | zero => exact ⟨h, hn⟩
    | succ k ih =>
      rw [F_storeAll]
      exact ⟨NJ_store hB ih.2 ih.1, (NQ_store (p := 0) ih.2).1⟩
  exact key.1
theorem cd_merges {a : rA} {i : Nat} (h : A_cd (a.1 i) = 0) : A_cd ((A_merges a i).1 i) = 0 := by
  unfold A_merges
  split
  · exact h
  · split
    · rename_i c
      rw [pN_eq]
      exact (NJ_dn (p := 0) (may0_dn c)).1
    · unfold A_looks
      split
      · rename_i c
        exact (NJ_0 (p := 0) c).1
      · exact go_cd
theorem cd_count {a : rA} {i : Nat} (h : A_cd (a.1 i) = 0) : A_cd ((A_count a i).1 i) = 0 := by
  unfold A_count
  split
  · exact h
  · unfold A_answers
    split
    · rw [pN_eq]
      exact cd_KF KF_refused (refused_k (by decide) (by decide)) h
    · unfold A_has
      split
      · exact go_cd
      · split
        · exact go_cd
        · split
          · exact go_cd
          · exact go_cd
theorem NJ_votes {B i r : Nat} {a : rA} (hB : B < 134217690) (hn : NI B (a.1 i)) (h : NJ (a.1 i) i) (hb : NB (8 * B + 7) (a.2.2.1 6)) : NJ ((A_votes a i r).1 i) i := by
  have h0 : 0 ≤ a.2.2.1 6 := NB_nn (by omega) hb
  unfold A_votes
  split
  · split
    · split
      · rw [send_1, pN_eq]
        exact NJ_vote hB hn h hb (hn.2.2.1 r).2
      · rw [pN_eq]
        exact NJ_vote hB hn h hb (hn.2.2.1 r).2
    · rw [send_1]
      exact h
  · split
    · split
      · rw [send_1, pN_eq]
        exact NJ_vote hB hn h hb h0
      · rw [pN_eq]
        exact NJ_vote hB hn h hb h0
    · rw [send_1]
      exact h
theorem NJ_handles {B i : Nat} {a : rA} (hB : B < 134217690) (hn : NI B (a.1 i)) (h : NJ (a.1 i) i) (hb : a.2.2.1 0 = 5 ∨ a.2.2.1 0 = 7 ∨ a.2.2.1 0 = 9 → NB (8 * B + 7) (a.2.2.1 6)) (hc : ¬ a.2.2.1 0 = 1 → ¬ a.2.2.1 0 = 3 → ¬ (a.2.2.1 0 = 5 ∨ a.2.2.1 0 = 7) → ¬ a.2.2.1 0 = 10 → ¬ a.2.2.1 0 = 12 → ¬ a.2.2.1 0 = 14 → ¬ a.2.2.1 0 = 15 → NJ ((A_count a i).1 i) i) : NJ ((A_handles a i).1 i) i := by
  unfold A_handles
  split
  · rw [send_1]
    exact h
  · rename_i c1
    split
    · split
      · rw [send_1, pN_eq]
        exact NJ_store hB hn h
      · rw [pN_eq]
        exact NJ_store hB hn h
    · rename_i c3
      split
      · rename_i c5
        refine NJ_votes hB hn h (hb ?_)
        rcases c5 with z | z
        · exact Or.inl z
        · exact Or.inr (Or.inl z)
      · rename_i c5
        split
        · rw [send_1]
          exact h
        · rename_i c10
          split
          · split
            · rw [send_1, pN_eq]
              exact NJ_storeAll hB hn h
            · rw [pN_eq]
              exact NJ_storeAll hB hn h
          · rename_i c12
            split
            · rw [pN_eq]
              exact NJ_storeAll hB hn h
            · rename_i c14
              split
              · split
                · exact h
                · rw [send_1]
                  exact h
              · rename_i c15
                exact hc c1 c3 c5 c10 c12 c14 c15
def C_isA (x : Int32) : Int32 := if x = 2 ∨ x = 4 ∨ x = 6 ∨ x = 8 ∨ x = 9 ∨ x = 11 ∨ x = 13 then 1 else 0
def K_d1 (s : cS) (i t : Nat) : cS := if (C_merge (s.1 i) (s.2.1 t 2) (s.2.1 t 3)).1 = 0 then cN s i (C_merge (s.1 i) (s.2.1 t 2) (s.2.1 t 3)).2 else K_set (K_look (cN s i (C_merge (s.1 i) (s.2.1 t 2) (s.2.1 t 3)).2) i (hav (s.1 i 6) 1 16)) i
def K_d2 (s : cS) (i t : Nat) : cS := if s.1 i 0 1 = 1 then (if C_isA (s.2.1 t 0 0) = 0 then K_rep (cM (cN s i (C_srv1 (s.1 i) (s.2.1 t))) 122 (C_srv2 (s.1 i) (s.2.1 t) (s.2.1 122))) i else K_set (cN s i (C_hear (s.1 i) (s.2.1 t))) i) else s
def K_del (s : cS) (i t : Nat) : Int32 × cS := if s.1 i 0 1 = 1 then (1, K_d2 (K_d1 s i t) i t) else (0, s)
theorem CT_d1 {s : cS} {i t : Nat} : CT s (K_d1 s i t) := by
  unfold K_d1
  split
  · exact CT_N
  · exact CT_trans CT_N (CT_trans CT_look CT_set)
theorem kd_req {x : Int32} (h : KD x) (ha : C_isA x = 0) : x = 1 ∨ x = 3 ∨ x = 5 ∨ x = 7 ∨ x = 10 ∨ x = 12 ∨ x = 14 ∨ x = 15 := by
  unfold KD at h
  unfold C_isA at ha
  rcases h with z | z | z | z | z | z | z | z | z | z | z | z | z | z | z <;> rw [z] at ha ⊢ <;> first | decide | exact absurd ha (by decide)
theorem kd_ans {x : Int32} (h : KD x) (ha : ¬ C_isA x = 0) : x = 2 ∨ x = 4 ∨ x = 6 ∨ x = 8 ∨ x = 9 ∨ x = 11 ∨ x = 13 := by
  unfold KD at h
  unfold C_isA at ha
  rcases h with z | z | z | z | z | z | z | z | z | z | z | z | z | z | z <;> rw [z] at ha ⊢ <;> first | decide | exact absurd (by decide) ha
theorem handles_ans {a : rA} {i : Nat} (h : a.2.2.1 0 = 2 ∨ a.2.2.1 0 = 4 ∨ a.2.2.1 0 = 6 ∨ a.2.2.1 0 = 8 ∨ a.2.2.1 0 = 9 ∨ a.2.2.1 0 = 11 ∨ a.2.2.1 0 = 13) : A_handles a i = A_count a i := by
  have n1 : ¬ a.2.2.1 0 = 1 := by rcases h with z | z | z | z | z | z | z <;> rw [z] <;> decide
  have n3 : ¬ a.2.2.1 0 = 3 := by rcases h with z | z | z | z | z | z | z <;> rw [z] <;> decide
  have n5 : ¬ (a.2.2.1 0 = 5 ∨ a.2.2.1 0 = 7) := by rcases h with z | z | z | z | z | z | z <;> rw [z] <;> decide
  have n10 : ¬ a.2.2.1 0 = 10 := by rcases h with z | z | z | z | z | z | z <;> rw [z] <;> decide
  have n12 : ¬ a.2.2.1 0 = 12 := by rcases h with z | z | z | z | z | z | z <;> rw [z] <;> decide
  have n14 : ¬ a.2.2.1 0 = 14 := by rcases h with z | z | z | z | z | z | z <;> rw [z] <;> decide
  have n15 : ¬ a.2.2.1 0 = 15 := by rcases h with z | z | z | z | z | z | z <;> rw [z] <;> decide
  unfold A_handles
  rw [if_neg n1, if_neg n3, if_neg n5, if_neg n10, if_neg n12, if_neg n14, if_neg n15]
/-- the second half of a delivery -/
theorem RR_d2 {B i t : Nat} {s : cS} {a : rA} (hB : B < 134217600) (hi : i < 8) (hr : RR s a) (hv : IV B a.2.2.1 a) (hlq : LQ B a.1 a.2.2.1) (hto : a.2.2.1 2 = nI i) (hm : RM (s.2.1 t) a.2.2.1) (hj : NJ (a.1 i) i) (hu : a.1 i 1 0 = 1) : RR (K_d2 s i t) (A_handles a i) ∧ NJ ((A_handles a i).1 i) i := by
  have hn := (hv.2.1 i hi).1
  have hrn := (hr.1 i hi).1
  have hu2 : s.1 i 0 1 = 1 := by
    rw [hrn.1.1]
    exact hu
  obtain ⟨⟨kd, ⟨q, t', hq, ht', hft, e1, et⟩, hwm, hs, hb, h6⟩, ql⟩ := hlq
  have hne : q ≠ i := by
    rw [et] at hto
    have : t' = i := (nI_eq (by omega) (by omega)).mp hto
    rw [← this]
    exact hft
  have k0 : s.2.1 t 0 0 = a.2.2.1 0 := hm.1 0 (by decide)
  unfold K_d2
  rw [if_pos hu2, k0]
  by_cases ha : C_isA (a.2.2.1 0) = 0
  · rw [if_pos ha]
    have hk := kd_req kd ha
    refine ⟨RR_serve hi hr hu hn.2.1 hm hwm hk, NJ_handles (by omega) hn hj hb (fun c1 c3 c5 c10 c12 c14 c15 => ?_)⟩
    exfalso
    rcases hk with z | z | z | z | z | z | z | z
    · exact c1 z
    · exact c3 z
    · exact c5 (Or.inl z)
    · exact c5 (Or.inr z)
    · exact c10 z
    · exact c12 z
    · exact c14 z
    · exact c15 z
  · rw [if_neg ha]
    have hk := kd_ans kd ha
    rw [handles_ans hk]
    have n3 : ¬ a.2.2.1 0 = 3 := by rcases hk with z | z | z | z | z | z | z <;> rw [z] <;> decide
    have key := RR_count (v := s.2.1 t) hi hr hu hj.2 hj.1 hn.2.2.2.2.2.2.2.1 hm hq hne e1 (fun hc h2 => ?_) (fun h9 => ?_) h6 n3
    · exact ⟨key.1, cd_count hj.1, key.2⟩
    · obtain ⟨c16, c3, c4, _⟩ := cnt_ne hc
      have n16 : ¬ a.1 i 16 0 = 0 := fun z => c16 (by rw [z]; exact Int32.le_refl _)
      obtain ⟨_, _, z3⟩ := ql.2 i hi h2 hto
      obtain ⟨_, y2⟩ := z3 c3 hu
      obtain ⟨x1, x2⟩ := y2 c4 n16
      refine ⟨?_, hn.1.2.2.1 x1⟩
      rw [x2]
      exact hn.1.1
    · obtain ⟨m, hm2, e⟩ := hb (Or.inr (Or.inr h9))
      exact ⟨m, by omega, e⟩
