/-! the other calls: the reference keeps it -/
theorem JV_crash {B p : Nat} {a : rA} (hp : p < 8) (h : JV B a) : JV B (A_crash a p).2 := by
  unfold A_crash
  split
  · refine JV_of (p := p) (JV_g0 (v := 0) h) (IV_pN (IV_g h.1 (by decide)) hp (NQ_down (h.1.2.1 p hp).1)) (Nat.le_refl _) AF_pN ?_
    rw [pN_eq]
    refine NJ_dn ?_
    rw [fd_f.1]
    decide
  · exact JV_g0 h
theorem NQ_rs {B p : Nat} {b : nv} {v : Int32} (hB : B < 134217690) (h : NI B b) (h2 : b 1 0 = 2) : NQ (B + 1) p b (un (un (un b 1 0 1) 2 0 (b 2 0 + 1)) 32 0 v) := by
  refine NQ_trans (n' := un (un b 1 0 1) 2 0 (b 2 0 + 1)) (B := B + 1) ⟨?_, ⟨?_, ?_, ?_⟩, ?_⟩ (fun h => NQ_un h (KPn (by decide)))
  · have n1 : ¬ b 1 0 = 1 := by
      rw [h2]
      decide
    obtain ⟨h1, h2', h3, h4, h5, h6, h7, h8, h9, h10, h11, h12, h13, h14, h15⟩ := NI_mono (B' := B + 1) (by omega) h
    have h6' := NB_inc h.2.2.2.2.2.1
    have h4' := h10 h2
    have h16 := (h9 n1).1
    unfold NI Wn Ar ab bs F_isData at *
    simp (disch := decide) only [un_nk, un_eq]
    refine ⟨h1, h2', h3, h4, h5, h6', h7, h8, fun z => ?_, fun z => h4', h11, h12, h13, h14, h15⟩
    exact absurd trivial z
  · rw [un_nk (by decide), un_eq]
    intro _
    decide
  · rw [un_eq]
    obtain ⟨m, hm, e⟩ := h.2.2.2.2.2.1
    rw [e]
    exact Int32.le_of_lt (inc_lt (by omega))
  · rw [un_eq]
    obtain ⟨m, hm, e⟩ := h.2.2.2.2.2.1
    rw [e]
    have hlt := inc_lt (m := m) (by omega)
    intro he
    rw [he] at hlt
    exact absurd hlt Int32.lt_irrefl
  · intro _
    refine AP_0 ?_
    rw [un_nk (by decide), un_nk (by decide)]
    refine (h.2.2.2.2.2.2.2.2.1 ?_).1
    rw [h2]
    decide
theorem JV_restart {B p : Nat} {a : rA} (hB : B < 134217690) (hp : p < 8) (h : JV B a) : JV (B + 1) (A_restart a p).2 := by
  have hn := (h.1.2.1 p hp).1
  unfold A_restart
  split
  · rename_i c
    refine JV_of (p := p) (JV_g0 (v := 0) h) (IV_pN' (by omega) (IV_g h.1 (by decide)) hp (NQ_rs hB hn c)) (by omega) AF_pN ?_
    rw [pN_eq]
    refine NJ_0 ?_
    rw [un_nk (by decide), un_nk (by decide), un_nk (by decide)]
    refine (hn.2.2.2.2.2.2.2.2.1 ?_).1
    rw [c]
    decide
  · exact JV_mono (by omega) (JV_g0 h)
theorem JV_arm {B p : Nat} {a : rA} {x : Int32} (hB : B < 134217690) (hp : p < 8) (h : JV B a) : JV B (A_arm a p x).2 := by
  have hn := (h.1.2.1 p hp).1
  unfold A_arm
  split
  · rename_i c
    obtain ⟨j, hj, e⟩ := nI_of2 (M := 100) (n := 100) (by decide) (Int32.not_lt.mpr c.2.1) c.2.2
    have har : Ar (un (a.1 p) 4 0 x) := ⟨j, by omega, by rw [un_eq]; exact e⟩
    refine JV_of (p := p) (JV_g0 (v := 0) h) (IV_pN (IV_g h.1 (by decide)) hp (NQ_ar hn (fun k j hk => un_nk hk.1) har c.1)) (Nat.le_refl _) AF_pN ?_
    rw [pN_eq]
    exact NJ_K (h.2.2 p hp) (KF_un (by decide)) har (NV_un (NI_NV hB hn) (by decide)) (un_nk (by decide)) (un_nk (by decide)) (un_nk (by decide))
  · exact JV_g0 h
theorem JV_gossip {B p : Nat} {a : rA} {x : Int32} (hp : p < 8) (h : JV B a) : JV B (A_gossip a p x).2 := by
  unfold A_gossip
  split
  · rename_i c
    obtain ⟨q, hq, e⟩ := i7 c.1
    have hne : q ≠ p := by
      intro z
      apply c.2.1
      rw [e, z]
    refine JV_of (p := p) (JV_g0 (v := 0) h) (IV_rep (IV_g h.1 (by decide)) hp hq hne e (by decide) ⟨0, by decide, rfl⟩ (fun z => absurd z (by decide)) (fun z => absurd z (by decide))) (Nat.le_refl _) AF_send ?_
    rw [send_1]
    exact h.2.2 p hp
  · exact JV_g0 h
theorem NQ_up {B p : Nat} {b : nv} (h : NI B b) (h2 : ¬ b 1 0 = 2) : NQ B p b (un b 1 0 1) := by
  by_cases c : b 1 0 = 1
  · rw [un_same c]
    exact NQ_refl h
  · obtain ⟨h16, h0⟩ := h.2.2.2.2.2.2.2.2.1 c
    have h0' : b 1 0 = 0 := by
      rcases h0 with z | z
      · exact z
      · exact absurd z h2
    refine ⟨?_, ⟨fun z => absurd h0' z, ?_, fun _ _ z => absurd h0' z⟩, fun _ => AP_0 ?_⟩
    · obtain ⟨h1, h2', h3, h4, h5, h6, h7, h8, h9, h10, h11, h12, h13, h14, h15⟩ := h
      unfold NI Wn Ar ab bs F_isData at *
      simp (disch := decide) only [un_nk, un_eq]
      refine ⟨h1, h2', h3, h4, h5, h6, h7, h8, fun z => ?_, fun z => ?_, h11, h12, h13, h14, h15⟩
      · exact absurd trivial z
      · exact absurd z (by decide)
    · rw [un_nk (by decide)]
      exact Int32.le_refl _
    · rw [un_nk (by decide)]
      exact h16
theorem JV_join {B p : Nat} {a : rA} {x : Int32} (hp : p < 8) (h : JV B a) : JV B (A_join a p x).2 := by
  have hn := (h.1.2.1 p hp).1
  unfold A_join
  split
  · rename_i c
    obtain ⟨q, hq, e⟩ := i7 c.1
    have hne : q ≠ p := by
      intro z
      apply c.2.1
      rw [e, z]
    refine JV_of (p := p) (JV_g0 (v := 0) h) (IV_rep (IV_pN (IV_g h.1 (by decide)) hp (NQ_up hn c.2.2.1)) hp hq hne e (by decide) ⟨0, by decide, rfl⟩ (fun z => absurd z (by decide)) (fun z => absurd z (by decide))) (Nat.le_refl _) (AF_trans AF_pN AF_send) ?_
    rw [send_1, pN_eq]
    by_cases c1 : a.1 p 1 0 = 1
    · rw [un_same c1]
      exact h.2.2 p hp
    · refine NJ_0 ?_
      rw [un_nk (by decide)]
      exact (hn.2.2.2.2.2.2.2.2.1 c1).1
  · exact JV_g0 h
/-! the class's own: what its nodes' tasks are about -/
def CIq (s : cS) : Prop := ∀ i, i < 8 → ∃ q, q < 16 ∧ s.1 i 12 3 = nI q ∧ (s.1 i 12 1 = 2 → q < 4)
def CP (s s' : cS) : Prop := ∀ i, P3 (s.1 i) (s'.1 i)
theorem CP_refl {s : cS} : CP s s := fun _ => P3_refl
theorem CP_trans {s s' s'' : cS} (h : CP s s') (h' : CP s' s'') : CP s s'' := fun i => P3_trans (h i) (h' i)
theorem CP_N {s : cS} {i : Nat} {n : nv} (h : P3 (s.1 i) n) : CP s (cN s i n) := by
  intro j
  by_cases e : j = i
  · rw [e, cN_eq]
    exact h
  · rw [cN_ne e]
    exact P3_refl
theorem CP_M {s : cS} {m : Nat} {v : nv} : CP s (cM s m v) := fun _ => P3_refl
theorem CP_send {s : cS} {m : Nat} : CP s (C_send s m) := by
  intro i
  unfold C_send
  split <;> exact P3_refl
theorem CP_self {s : cS} {i : Nat} : CP s (K_self s i) := by
  unfold K_self
  exact CP_trans (CP_N (P3_trans P3_srv1 P3_hear)) CP_M
theorem CP_ask {s : cS} {i : Nat} {w : Int32} {k : Nat} : CP s (K_ask s i w k) := by
  induction k with
  | zero => exact CP_refl
  | succ k ih =>
    rw [K_ask]
    split
    · split
      · exact ih
      · split
        · split
          · exact CP_trans ih (CP_trans (CP_N P3_ask5) CP_self)
          · exact CP_trans ih (CP_trans (CP_N P3_ask5) (CP_trans CP_M CP_send))
        · exact ih
    · exact ih
theorem CP_askF {s : cS} {i : Nat} : CP s (K_askF s i) := by
  unfold K_askF
  exact CP_trans CP_M CP_ask
theorem CP_beg1 {s : cS} {i : Nat} : CP s (K_beg1 s i) := by
  unfold K_beg1
  exact CP_trans (CP_N P3_begin1) CP_askF
theorem CP_beg2 {s : cS} {i : Nat} : CP s (K_beg2 s i) := by
  unfold K_beg2
  exact CP_trans (CP_N P3_begin2) CP_askF
theorem CP_stp {s : cS} {i : Nat} : CP s (K_stp s i) := by
  unfold K_stp
  split
  · exact CP_beg2
  · exact CP_N P3_fin
theorem CP_set {s : cS} {i : Nat} : CP s (K_set s i) := by
  unfold K_set
  split
  · exact CP_refl
  · split
    · exact CP_stp
    · exact CP_trans CP_stp CP_stp
theorem CP_look {s : cS} {i : Nat} {b : Int32} : CP s (K_look s i b) := by
  unfold K_look
  split
  · exact CP_refl
  · split
    · split
      · exact CP_refl
      · exact CP_N P3_conl
    · split
      · exact CP_refl
      · split
        · exact CP_beg1
        · exact CP_askF
theorem CP_go {s : cS} {i : Nat} : CP s (K_go s i) := by
  unfold K_go
  exact CP_trans CP_beg1 CP_set
theorem CI_CP {s s' : cS} (h : CIq s) (hc : CP s s') : CIq s' := by
  intro i hi
  obtain ⟨q, hq, e3, e1⟩ := h i hi
  obtain ⟨_, p1, p3⟩ := hc i
  refine ⟨q, hq, ?_, ?_⟩
  · rw [p3]
    exact e3
  · rw [p1]
    exact e1
theorem CI_KI {s : cS} {a : rA} {p : Nat} (hc : CIq s) (hr : RR s a) (hp : p < 8) : ∃ q, q < 16 ∧ KI s p q := by
  obtain ⟨q, hq, e3, e1⟩ := hc p hp
  exact ⟨q, hq, CW_RR hr, (hr.1 p hp).2, e3, e1⟩
theorem P3_may {n : nv} : P3 n (C_may n).2 := ⟨cmay_00, cmay_12 (by decide), cmay_12 (by decide)⟩
theorem P3_un {n : nv} {k j : Nat} {v : Int32} (h : ¬ (k = 0 ∧ j = 0) ∧ ¬ (k = 12 ∧ j = 1) ∧ ¬ (k = 12 ∧ j = 3)) : P3 n (un n k j v) := by
  unfold P3 un
  refine ⟨?_, ?_, ?_⟩
  · rw [if_neg (by omega)]
  · rw [if_neg (by omega)]
  · rw [if_neg (by omega)]
theorem P3_mrg {n : nv} {x y : Nat → Int32} {k : Nat} : P3 n (C_mrg n x y k) := by
  induction k with
  | zero => exact P3_refl
  | succ k ih =>
    rw [C_mrg]
    split
    · exact ih
    · exact P3_trans ih (P3_trans (P3_un (by omega)) (P3_un (by omega)))
theorem P3_merge {n : nv} {x y : Nat → Int32} : P3 n (C_merge n x y).2 := by
  unfold C_merge
  split
  · exact P3_refl
  · split
    · exact P3_may
    · dsimp only
      exact P3_trans P3_may P3_mrg
theorem CP_d1 {s : cS} {i t : Nat} : CP s (K_d1 s i t) := by
  unfold K_d1
  split
  · exact CP_N P3_merge
  · exact CP_trans (CP_N P3_merge) (CP_trans CP_look CP_set)
theorem CP_rep {s : cS} {i : Nat} : CP s (K_rep s i) := by
  unfold K_rep
  split
  · exact CP_trans CP_M CP_send
  · exact CP_refl
theorem CP_d2 {s : cS} {i t : Nat} : CP s (K_d2 s i t) := by
  unfold K_d2
  split
  · split
    · exact CP_trans (CP_N P3_srv1) (CP_trans CP_M CP_rep)
    · exact CP_trans (CP_N P3_hear) CP_set
  · exact CP_refl
theorem CP_del {s : cS} {i t : Nat} : CP s (K_del s i t).2 := by
  unfold K_del
  split
  · dsimp only
    exact CP_trans CP_d1 CP_d2
  · exact CP_refl
theorem CP_re {s : cS} {w : Int32} {k : Nat} : CP s (K_re s w k) := by
  intro i
  rw [re_c]
  exact P3_refl
theorem CP_aga {s : cS} {i : Nat} : CP s (K_aga s i) := by
  unfold K_aga
  exact CP_trans CP_M CP_re
theorem CP_again {s : cS} {p : Nat} : CP s (K_again s p).2 := by
  unfold K_again
  split
  · exact CP_refl
  · split
    · dsimp only
      exact CP_trans CP_beg1 CP_set
    · dsimp only
      exact CP_aga
theorem P3_fall {n : nv} : P3 n (C_fall n) := by
  unfold C_fall
  exact P3_trans (P3_un (by omega)) (P3_trans (P3_un (by omega)) (P3_trans (P3_un (by omega)) (P3_trans (P3_un (by omega)) (P3_un (by omega)))))
theorem CP_crash {s : cS} {p : Nat} : CP s (K_crash s p).2 := by
  unfold K_crash
  split
  · exact CP_N P3_fall
  · exact CP_refl
theorem CP_arm {s : cS} {p : Nat} {x : Int32} : CP s (K_arm s p x).2 := by
  unfold K_arm
  split
  · exact CP_N (P3_un (by omega))
  · exact CP_refl
theorem CP_restart {s : cS} {p : Nat} : CP s (K_restart s p).2 := by
  unfold K_restart
  split
  · dsimp only
    split
    · exact CP_N (P3_trans (P3_un (by omega)) P3_may)
    · exact CP_N (P3_trans (P3_trans (P3_un (by omega)) P3_may) (P3_un (by omega)))
  · exact CP_refl
theorem CP_gossip {s : cS} {p q : Nat} : CP s (K_gossip s p q).2 := by
  unfold K_gossip
  split
  · exact CP_refl
  · split
    · exact CP_trans CP_M CP_send
    · exact CP_refl
theorem CP_join {s : cS} {p q : Nat} : CP s (K_join s p q).2 := by
  unfold K_join
  split
  · exact CP_refl
  · split
    · exact CP_trans (CP_N (P3_un (by omega))) (CP_trans CP_M CP_send)
    · exact CP_refl
theorem CP_twice {s : cS} {x : Nat} : CP s (K_twice s x).2 := by
  unfold K_twice
  split
  · exact CP_send
  · exact CP_refl
theorem CP_out {s : cS} {x L : Nat} : CP s (K_out s x L) := fun _ => P3_refl
theorem CI_op {s : cS} {p q : Nat} {n : nv} {v : Int32} (h : CIq s) (hq : q < 16) (e3 : n 12 3 = nI q) (e1 : n 12 1 = 2 → q < 4) : CIq (cN (sK s 0 v) p n) := by
  intro i hi
  by_cases e : i = p
  · rw [e, cN_eq]
    exact ⟨q, hq, e3, e1⟩
  · rw [cN_ne e]
    exact h i hi
