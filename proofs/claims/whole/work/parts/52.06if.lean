/-! what every call finds and leaves -/
def Z0 : Nat → Int32 := fun _ => 0
def NJ (b : nv) (p : Nat) : Prop := A_cd b = 0 ∧ (b 1 0 = 1 → ¬ b 16 0 = 0 → BI b p)
def JV (B : Nat) (a : rA) : Prop := IV B Z0 a ∧ NB B (a.2.2.2 1) ∧ ∀ p, p < 8 → NJ (a.1 p) p
theorem JV_mono {B B' : Nat} {a : rA} (hb : B ≤ B') (h : JV B a) : JV B' a := ⟨IV_mono hb h.1, NB_mono hb h.2.1, h.2.2⟩
theorem JV_of {B B' p : Nat} {a a' : rA} (h : JV B a) (hi : IV B' Z0 a') (hb : B ≤ B') (af : AF a a' p) (hj : NJ (a'.1 p) p) : JV B' a' := by
  refine ⟨hi, ?_, fun q hq => ?_⟩
  · rw [af.2.1]
    exact NB_mono hb h.2.1
  · by_cases e : q = p
    · rw [e]
      exact hj
    · rw [af.2.2 q e]
      exact h.2.2 q hq
theorem JV_g0 {B : Nat} {a : rA} {v : Int32} (h : JV B a) : JV B (aG a 0 v) := ⟨IV_g h.1 (by decide), h.2.1, h.2.2⟩
theorem NJ_dn {b : nv} {p : Nat} (h : ¬ b 1 0 = 1) : NJ b p := by
  refine ⟨?_, fun hu => absurd hu h⟩
  unfold A_cd
  rw [if_neg (fun hh => h hh.1)]
theorem NJ_0 {b : nv} {p : Nat} (h : b 16 0 = 0) : NJ b p := by
  refine ⟨?_, fun _ hn => absurd h hn⟩
  unfold A_cd
  rw [if_neg (fun hh => hh.2.1 (by rw [h]; exact Int32.le_refl _))]
/-- a node that stays up keeps its task's number -/
def UPq (n n' : nv) : Prop := n' 1 0 = 1 → n 1 0 = 1 ∧ n' 14 0 = n 14 0
theorem UP_refl {n : nv} : UPq n n := fun h => ⟨h, rfl⟩
theorem UP_trans {n n' n'' : nv} (h : UPq n n') (h' : UPq n' n'') : UPq n n'' := by
  intro hu
  obtain ⟨a1, a2⟩ := h' hu
  obtain ⟨b1, b2⟩ := h a1
  exact ⟨b1, a2.trans b2⟩
theorem UP_KF {n n' : nv} (h : KF n n') : UPq n n' := by
  intro hu
  obtain ⟨z1, _, _, _, z5, _⟩ := h.2.2.2.2.2 hu
  exact ⟨z1, z5⟩
theorem UP_un {n : nv} {k j : Nat} {v : Int32} (h : k ≠ 1 ∧ k ≠ 14) : UPq n (un n k j v) := by
  intro hu
  rw [un_nk (Ne.symm h.1)] at hu
  exact ⟨hu, un_nk (Ne.symm h.2)⟩
theorem UP_ph {n : nv} {w : Int32} : UPq n (F_ph n w) := by
  intro hu
  rw [fp_k (by decide)] at hu
  exact ⟨hu, fp_k (by decide)⟩
theorem UP_open1 {n : nv} : UPq n (F_open1 n) := by
  intro hu
  rw [fo_k (by decide)] at hu
  exact ⟨hu, fo_k (by decide)⟩
theorem UP_begin1 {n : nv} {p : Nat} : UPq n (F_begin1 n p) := by
  unfold F_begin1
  split
  · split
    · exact UP_trans UP_open1 (UP_trans (UP_KF KF_round) (UP_un (by decide)))
    · exact UP_trans UP_open1 (UP_KF KF_round)
  · exact UP_open1
theorem UP_beg1 {a : rA} {p : Nat} : UPq (a.1 p) ((A_beg1 a p).1 p) := by
  unfold A_beg1
  have h := UP_KF (KF_ask (a := pN a p (F_begin1 (a.1 p) p)) (p := p) (s := F_want (F_begin1 (a.1 p) p)) (k := 8))
  rw [pN_eq] at h
  exact UP_trans UP_begin1 h
theorem UP_beg2 {a : rA} {p : Nat} : UPq (a.1 p) ((A_beg2 a p).1 p) := by
  unfold A_beg2
  have h := UP_KF (KF_ask (a := pN a p (F_ph (a.1 p) 2)) (p := p) (s := F_want (F_ph (a.1 p) 2)) (k := 8))
  rw [pN_eq] at h
  exact UP_trans UP_ph h
theorem UP_second {a : rA} {p : Nat} : UPq (a.1 p) ((A_second a p).1 p) := by
  unfold A_second
  split
  · exact UP_beg2
  · split
    · have h := UP_beg2 (a := pN a p (F_sec (a.1 p) p)) (p := p)
      rw [pN_eq] at h
      exact UP_trans (UP_KF KF_sec) h
    · rw [pN_eq]
      exact UP_KF KF_sec
theorem UP_map {n : nv} {q : Nat} {s c : Int32} : UPq n (F_map n q s c) := by
  intro hu
  refine ⟨?_, map_up hu (by decide)⟩
  rw [← map_up (k := 1) (j := 0) hu (by decide)]
  exact hu
theorem UP_ret {n : nv} {k : Nat} : UPq n (F_ret n k) := by
  induction k with
  | zero => exact UP_refl
  | succ k ih =>
    rw [F_ret]
    split
    · split
      · split
        · exact UP_trans ih UP_map
        · exact ih
      · exact ih
    · exact ih
theorem UP_end {n : nv} {v : Int32} : UPq n (un (un n 18 0 v) 16 0 0) := UP_trans (UP_un (by decide)) (UP_un (by decide))
theorem UP_ends {n : nv} : UPq n (F_ends n) := by
  unfold F_ends F_proposed
  split
  · split
    · exact UP_trans UP_map UP_end
    · exact UP_map
  · split
    · split
      · exact UP_trans UP_ret UP_end
      · exact UP_ret
    · exact UP_end
theorem UP_stp {a : rA} {p : Nat} : UPq (a.1 p) ((A_stp a p).1 p) := by
  unfold A_stp
  split
  · exact UP_second
  · rw [pN_eq]
    exact UP_ends
theorem UP_go {a : rA} {p : Nat} : UPq (a.1 p) ((A_go a p).1 p) := by
  unfold A_go
  split
  · exact UP_refl
  · split
    · exact UP_stp
    · exact UP_trans UP_stp UP_stp
/-! a task starts, or begins anew: class and reference -/
theorem NI_NV {B : Nat} {b : nv} (hB : B < 134217690) (h : NI B b) : NV b := by
  intro q
  obtain ⟨⟨m, hm, e⟩, h2⟩ := h.2.2.1 q
  exact ⟨⟨m, by omega, e⟩, h2⟩
theorem NI_rd {B : Nat} {b : nv} (hB : B < 134217690) (h : NI B b) : ∃ m, m < 134217728 ∧ b 3 0 = nI m := by
  obtain ⟨m, hm, e⟩ := h.2.2.2.1
  exact ⟨m, by omega, e⟩
theorem RR_st {B p : Nat} {s : cS} {a : rA} {x y : nv} (hB : B < 134217600) (hp : p < 8) (hr : RR s a) (hj : JV B a) (hb : RB x y) (ht : RT x y) (hid : x 0 0 = nI p) (hu : y 1 0 = 1) (hq : NQ B p (a.1 p) y) (h14 : ¬ y 14 0 = 0) (h18 : y 18 0 = 0) (hbs : y 15 0 = 3 → bs y + 1 = ab y) (h9 : y 15 0 = 3 → ¬ y 9 (ab y) = 1) (hbc : y 15 0 = 4 → bc (y 22 0) = mny (y 22 0) 16) : RR (K_set (K_beg1 (cN s p x) p) p) (A_go (A_beg1 (pN a p y) p) p) ∧ JV (B + 3) (A_go (A_beg1 (pN a p y) p) p) ∧ UPq y ((A_go (A_beg1 (pN a p y) p) p).1 p) := by
  have hn := hq.1
  obtain ⟨h15, h23⟩ := hn.2.2.2.2.2.2.2.2.2.2.2.2.1 h14
  have hnv := NI_NV (by omega) hn
  have hrd := NI_rd (by omega) hn
  obtain ⟨r1, r2⟩ := RR_beg1 hp hr hb ht hid hu hn.1 hn.2.1 hnv h14 h15 hrd hbs h23
  have hsi : F_begin1 y p 1 0 = 1 → F_begin1 y p 15 0 = y 15 0 ∧ (¬ F_begin1 y p 15 0 = 3 → F_begin1 y p 23 0 = 0) ∧ SI (F_begin1 y p) p := by
    intro hv
    obtain ⟨z1, z2, z3⟩ := SI_begin1 hp hn.1 hn.2.1 hnv h14 h15 hrd h23 hv
    exact ⟨z3, z2, z1⟩
  have hbi : (A_beg1 (pN a p y) p).1 p 1 0 = 1 → ¬ (A_beg1 (pN a p y) p).1 p 16 0 = 0 → BI ((A_beg1 (pN a p y) p).1 p) p := fun hv _ => BI_beg1 hbs h9 hbc hsi hv (r2 hv)
  have hi : IV (B + 1) Z0 (A_beg1 (pN a p y) p) := IV_beg1 (by omega) hp (IV_pN hj.1 hp hq) (by rw [pN_eq]; exact hu) (by rw [pN_eq]; exact h14) (by rw [pN_eq]; exact h18)
  have hup : UPq y ((A_beg1 (pN a p y) p).1 p) := by
    have := UP_beg1 (a := pN a p y) (p := p)
    rw [pN_eq] at this
    exact this
  have haf : AF a (A_beg1 (pN a p y) p) p := AF_trans AF_pN AF_beg1
  generalize A_beg1 (pN a p y) p = c at r1 hbi hi hup haf ⊢
  obtain ⟨g1, g2⟩ := RR_set hp r1 hbi
  exact ⟨g1, JV_of hj (IV_go (by omega) hp hi) (by omega) (AF_trans haf AF_go) ⟨go_cd, g2⟩, UP_trans hup UP_go⟩
theorem RR_tk {s : cS} {a : rA} {v : Int32} (h : RR s a) : RR (sK s 0 v) (aG a 1 v) := by
  obtain ⟨h1, h2, h3, h4, h5, h6⟩ := h
  refine ⟨h1, ?_, h3, h4, h5, h6⟩
  show up1 s.2.2.1 0 v 0 = up1 a.2.2.2 1 v 1
  rw [up1_eq, up1_eq]
theorem JV_tk {B : Nat} {a : rA} (h : JV B a) : JV (B + 1) (aG a 1 (a.2.2.2 1 + 1)) := by
  refine ⟨IV_g (IV_mono (by omega) h.1) (by decide), ?_, h.2.2⟩
  rw [aG_4, up1_eq]
  exact NB_inc h.2.1
theorem tk_ne {B : Nat} {x : Int32} (hB : B < 134217690) (h : NB B x) : ¬ x + 1 = 0 := by
  obtain ⟨m, hm, e⟩ := h
  rw [e, nI_1, show (0 : Int32) = nI 0 from rfl, nI_eq (by omega) (by omega)]
  omega
/-- what the new task's node holds -/
theorem RB_st {x y : nv} {tk wh v : Int32} {q : Nat} (h : RB x y) (h16 : y 16 0 = 0) : RB (C_topen x tk wh (nI q)) (F_st y tk wh q v) := by
  obtain ⟨h1, h2, h3, h4, h5, h6, h7, h8, h9, h10⟩ := h
  have ek : ∀ k j, k ≠ 14 ∧ k ≠ 15 ∧ k ≠ 17 ∧ k ≠ 21 ∧ k ≠ 18 ∧ k ≠ 23 → F_st y tk wh q v k j = y k j := fun k j hk => fst_k hk
  have ck : ∀ k j, k ≠ 12 → C_topen x tk wh (nI q) k j = x k j := by
    intro k j hk
    unfold C_topen
    simp only [un_nk hk]
  have c0 : C_topen x tk wh (nI q) 12 0 = tk ∧ C_topen x tk wh (nI q) 12 2 = 0 := by
    unfold C_topen
    refine ⟨?_, ?_⟩ <;> simp (disch := decide) only [un_nk, un_nj, un_eq]
  refine ⟨?_, ?_, ?_, ?_, ?_, ?_, fun j hj => ?_, fun j hj => ?_, ?_, ?_⟩
  · rw [ck 0 1 (by decide), ek 1 0 (by decide)]
    exact h1
  · rw [ck 0 2 (by decide), ek 2 0 (by decide)]
    exact h2
  · rw [ck 0 3 (by decide), ek 3 0 (by decide)]
    exact h3
  · rw [ck 0 4 (by decide), ek 5 0 (by decide)]
    exact h4
  · rw [ck 0 5 (by decide), ek 4 0 (by decide)]
    exact h5
  · rw [ck 0 6 (by decide), ek 32 0 (by decide)]
    exact h6
  · rw [ck 2 j (by decide), ek 6 j (by decide), ck 3 j (by decide), ek 7 j (by decide), ck 4 j (by decide), ek 8 j (by decide)]
    exact h7 j hj
  · rw [ck 6 j (by decide), ek 9 j (by decide), ck 7 j (by decide), ek 10 j (by decide), ck 9 j (by decide), ek 11 j (by decide), ck 10 j (by decide), ek 12 j (by decide), ck 11 j (by decide), ek 13 j (by decide)]
    exact h8 j hj
  · rw [c0.1, fst_f.1]
  · rw [c0.2, ek 16 0 (by decide), h16]
theorem top_g {n : nv} {tk kd x : Int32} : C_topen n tk kd x 12 4 = 0 ∧ C_topen n tk kd x 12 7 = 0 ∧ C_topen n tk kd x 12 8 = 0 ∧ C_topen n tk kd x 12 9 = 0 ∧ C_topen n tk kd x 12 12 = 0 := by
  unfold C_topen
  refine ⟨?_, ?_, ?_, ?_, ?_⟩ <;> simp (disch := decide) only [un_nk, un_nj, un_eq]
theorem RB_12 {x y : nv} {j : Nat} {v : Int32} (h : RB x y) (hj : j ≠ 0 ∧ j ≠ 2) : RB (un x 12 j v) y := by
  unfold RB at *
  simp (disch := first | decide | omega) only [un_nk, un_nj hj.1.symm, un_nj hj.2.symm]
  exact h
theorem RT_st {x y : nv} {tk wh v : Int32} {q : Nat} (e1 : x 12 1 = wh) (e3 : x 12 3 = nI q) (e4 : x 12 4 = 0) (e7 : x 12 7 = 0) (h2 : wh = 2 → x 12 8 = v) (h3 : wh = 3 → x 12 9 = v) (h4 : wh = 4 → x 12 12 = y 22 0) : RT x (F_st y tk wh q v) := by
  obtain ⟨f14, f15, f17, f21, f18, f23⟩ := fst_f (b := y) (tk := tk) (wh := wh) (v := v) (q := q)
  unfold RT
  rw [e1, e3, e4, e7, f15, f17, f18, f23, f21, fst_k (k := 22) (by decide)]
  exact ⟨rfl, rfl, rfl, rfl, h2, h3, h4⟩
