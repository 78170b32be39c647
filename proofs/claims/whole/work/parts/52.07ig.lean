/-! starts: class and reference -/
theorem RR_sts {B p q : Nat} {s : cS} {a : rA} {b x : nv} {wh v : Int32} (hB : B < 134217500) (hp : p < 8) (hr : RR s a) (hj : JV B a) (hn : NQ B p (a.1 p) b) (hu : b 1 0 = 1) (h16 : b 16 0 = 0) (hq : q < 16) (hd : wh = 1 ∨ wh = 2 → q < 4) (hw : wh = 1 ∨ wh = 2 ∨ wh = 3 ∨ wh = 4) (x1 : RB x (F_st b (a.2.2.2 1 + 1) wh q v)) (x2 : RT x (F_st b (a.2.2.2 1 + 1) wh q v)) (hid : x 0 0 = nI p) (hbs : wh = 3 → bs b + 1 = q) (h9 : wh = 3 → ¬ b 9 q = 1) (hbc : wh = 4 → bc (b 22 0) = mny (b 22 0) 16) : K_an (K_go (cN (sK s 0 (a.2.2.2 1 + 1)) p x) p) p = (A_start (pN (aG a 0 0) p b) p wh q v).1 ∧ RR (K_go (cN (sK s 0 (a.2.2.2 1 + 1)) p x) p) (A_start (pN (aG a 0 0) p b) p wh q v).2 ∧ JV (B + 4) (A_start (pN (aG a 0 0) p b) p wh q v).2 := by
  obtain ⟨f14, f15, f17, f21, f18, f23⟩ := fst_f (b := b) (tk := a.2.2.2 1 + 1) (wh := wh) (v := v) (q := q)
  have r0 : RR (sK s 0 (a.2.2.2 1 + 1)) (aG (aG a 0 0) 1 (a.2.2.2 1 + 1)) := RR_tk (RR_g0 hr)
  have j0 : JV (B + 1) (aG (aG a 0 0) 1 (a.2.2.2 1 + 1)) := JV_tk (JV_g0 hj)
  have hq2 : NQ (B + 1) p (a.1 p) (F_st b (a.2.2.2 1 + 1) wh q v) := NQ_trans hn (fun h => NQ_st (NI_mono (by omega) h) h16 hq hd hw)
  have e24 : bs (F_st b (a.2.2.2 1 + 1) wh q v) = bs b := by
    unfold bs
    rw [fst_k (by decide)]
  have e17 : ab (F_st b (a.2.2.2 1 + 1) wh q v) = q := by
    unfold ab
    rw [f17]
    exact nI_cl (by omega)
  have hst := RR_st (B := B + 1) (s := sK s 0 (a.2.2.2 1 + 1)) (a := aG (aG a 0 0) 1 (a.2.2.2 1 + 1)) (x := x) (y := F_st b (a.2.2.2 1 + 1) wh q v) (by omega) hp r0 j0 x1 x2 hid (by rw [fst_k (by decide)]; exact hu) hq2 (by rw [f14]; exact tk_ne (by omega) hj.2.1) f18 (by rw [f15, e24, e17]; exact hbs) (by rw [f15, e17, fst_k (by decide)]; exact h9) (by rw [f15, fst_k (by decide)]; exact hbc)
  have e : A_st2 (pN (aG a 0 0) p b) p wh q v = A_go (A_beg1 (pN (aG (aG a 0 0) 1 (a.2.2.2 1 + 1)) p (F_st b (a.2.2.2 1 + 1) wh q v)) p) p := by
    unfold A_st2
    rw [pN_eq]
    have e1 : aG (pN (aG a 0 0) p b) 1 ((pN (aG a 0 0) p b).2.2.2 1 + 1) = pN (aG (aG a 0 0) 1 (a.2.2.2 1 + 1)) p b := rfl
    have e2 : (pN (aG a 0 0) p b).2.2.2 1 = a.2.2.2 1 := rfl
    rw [e1, e2, pN_pN]
  unfold A_start
  rw [e]
  have e2 : (pN (aG a 0 0) p b).2.2.2 1 = a.2.2.2 1 := rfl
  rw [e2]
  unfold K_go
  generalize A_go (A_beg1 (pN (aG (aG a 0 0) 1 (a.2.2.2 1 + 1)) p (F_st b (a.2.2.2 1 + 1) wh q v)) p) p = A at hst ⊢
  generalize K_set (K_beg1 (cN (sK s 0 (a.2.2.2 1 + 1)) p x) p) p = K at hst ⊢
  obtain ⟨g1, g2, g3⟩ := hst
  refine ⟨?_, g1, g2⟩
  have hrn := (g1.1 p hp).1.1
  have r1 : K.1 p 0 1 = A.1 p 1 0 := hrn.1
  have r2 : K.1 p 12 0 = A.1 p 14 0 := hrn.2.2.2.2.2.2.2.2.1
  unfold K_an
  rw [r1, r2]
  by_cases hA : A.1 p 1 0 = 1
  · rw [if_pos hA]
    show _ = if A.1 p 1 0 = 1 then a.2.2.2 1 + 1 else -9
    rw [if_pos hA, (g3 hA).2, f14]
  · rw [if_neg hA]
    show _ = if A.1 p 1 0 = 1 then a.2.2.2 1 + 1 else -9
    rw [if_neg hA]
theorem free_eq {x y : nv} (h : RB x y) : C_free x = 0 ↔ F_isFree y = 0 := by
  have h6 : ∀ k, k < 16 → x 6 k = y 9 k := fun k hk => (h.2.2.2.2.2.2.2.1 k hk).1
  have hg := hav_gre h6
  have e1 : x 0 1 = y 1 0 := h.1
  have e16 : x 12 2 = y 16 0 := h.2.2.2.2.2.2.2.2.2
  unfold C_free F_isFree C_busy
  rw [e1, e16]
  by_cases c1 : y 1 0 = 1
  · by_cases c2 : y 16 0 = 0
    · by_cases c3 : gre (y 9) 16 < 0
      · rw [if_neg (fun z => z.2.2 (hg.mpr c3)), if_neg (fun z => Int32.not_lt.mpr z.2.1 c3)]
      · have c4 : ¬ hav (x 6) 1 16 = 0 := fun z => c3 (hg.mp z)
        have c5 : (if y 1 0 = 1 ∧ ¬ y 16 0 = 0 then (1 : Int32) else 0) = 0 := if_neg (fun z => z.2 c2)
        rw [if_pos ⟨c1, c5, c4⟩, if_pos ⟨c1, Int32.not_lt.mp c3, c2⟩]
    · have c5 : (if y 1 0 = 1 ∧ ¬ y 16 0 = 0 then (1 : Int32) else 0) = 1 := if_pos ⟨c1, c2⟩
      rw [if_neg (fun z => absurd z.2.1 (by rw [c5]; decide)), if_neg (fun z => c2 z.2.2)]
  · rw [if_neg (fun z => c1 z.1), if_neg (fun z => c1 z.1)]
def K_opv (s : cS) (p : Nat) (kd : Int32) (q j : Nat) (v : Int32) : cS := cN (K_op s p kd q) p (un ((K_op s p kd q).1 p) 12 j v)
theorem opv_e {s : cS} {p q j : Nat} {kd v : Int32} : K_opv s p kd q j v = cN (sK s 0 (s.2.2.1 0 + 1)) p (un (C_topen (s.1 p) (s.2.2.1 0 + 1) kd (nI q)) 12 j v) := by
  unfold K_opv K_op
  have e : (sK (cN s p (C_topen (s.1 p) (s.2.2.1 0 + 1) kd (nI q))) 0 (s.2.2.1 0 + 1)).1 p = C_topen (s.1 p) (s.2.2.1 0 + 1) kd (nI q) := by
    rw [sK_1, cN_eq]
  rw [e, ← cN_sK, cN_cN]
def K_write (s : cS) (p q : Nat) (v : Int32) : Int32 × cS := if C_free (s.1 p) = 0 then (-1, s) else (K_an (K_go (K_opv s p 2 q 8 v) p) p, K_go (K_opv s p 2 q 8 v) p)
theorem free_f {n : nv} (h : ¬ F_isFree n = 0) : n 1 0 = 1 ∧ n 16 0 = 0 := by
  obtain ⟨b, _, _, _, _, h1, h2⟩ := free_gre h
  exact ⟨h1, h2⟩
theorem g0_self {a : rA} {p : Nat} : pN (aG a 0 0) p (a.1 p) = aG a 0 0 := pN_self (a := aG a 0 0)
theorem RR_read {B p q : Nat} {s : cS} {a : rA} {v : Int32} (hB : B < 134217500) (hp : p < 8) (hq : q < 4) (hr : RR s a) (hj : JV B a) : (K_read s p q).1 = (A_read a p q v).1 ∧ RR (K_read s p q).2 (A_read a p q v).2 ∧ JV (B + 4) (A_read a p q v).2 := by
  have hrn := (hr.1 p hp).1
  have hfe := free_eq hrn.1
  unfold K_read A_read
  by_cases hf : C_free (s.1 p) = 0
  · rw [if_pos hf, if_pos (hfe.mp hf)]
    exact ⟨rfl, RR_g0 hr, JV_mono (by omega) (JV_g0 hj)⟩
  · have hf2 : ¬ F_isFree (a.1 p) = 0 := fun z => hf (hfe.mpr z)
    obtain ⟨hu, h16⟩ := free_f hf2
    rw [if_neg hf, if_neg hf2]
    have et : s.2.2.1 0 = a.2.2.2 1 := hr.2.1
    have eo : K_op s p 1 q = cN (sK s 0 (a.2.2.2 1 + 1)) p (C_topen (s.1 p) (a.2.2.2 1 + 1) 1 (nI q)) := by
      unfold K_op
      rw [et]
      rfl
    obtain ⟨t1, t2, t3⟩ := top_f (n := s.1 p) (tk := a.2.2.2 1 + 1) (kd := 1) (x := nI q)
    obtain ⟨g4, g7, g8, g9, g12⟩ := top_g (n := s.1 p) (tk := a.2.2.2 1 + 1) (kd := 1) (x := nI q)
    have key := RR_sts (v := 0) hB hp hr hj (NQ_refl (hj.1.2.1 p hp).1) hu h16 (show q < 16 by omega) (fun _ => hq) (Or.inl rfl) (RB_st hrn.1 h16) (RT_st t2 t3 g4 g7 (fun z => absurd z (by decide)) (fun z => absurd z (by decide)) (fun z => absurd z (by decide))) (t1.trans (hr.1 p hp).2) (fun z => absurd z (by decide)) (fun z => absurd z (by decide)) (fun z => absurd z (by decide))
    rw [g0_self] at key
    rw [eo]
    dsimp only
    exact key
theorem RR_write {B p q : Nat} {s : cS} {a : rA} {v : Int32} (hB : B < 134217500) (hp : p < 8) (hq : q < 4) (hr : RR s a) (hj : JV B a) : (K_write s p q v).1 = (A_write a p q v).1 ∧ RR (K_write s p q v).2 (A_write a p q v).2 ∧ JV (B + 4) (A_write a p q v).2 := by
  have hrn := (hr.1 p hp).1
  have hfe := free_eq hrn.1
  unfold K_write A_write
  by_cases hf : C_free (s.1 p) = 0
  · rw [if_pos hf, if_pos (hfe.mp hf)]
    exact ⟨rfl, RR_g0 hr, JV_mono (by omega) (JV_g0 hj)⟩
  · have hf2 : ¬ F_isFree (a.1 p) = 0 := fun z => hf (hfe.mpr z)
    obtain ⟨hu, h16⟩ := free_f hf2
    rw [if_neg hf, if_neg hf2]
    have et : s.2.2.1 0 = a.2.2.2 1 := hr.2.1
    rw [opv_e, et]
    obtain ⟨t1, t2, t3⟩ := top_f (n := s.1 p) (tk := a.2.2.2 1 + 1) (kd := 2) (x := nI q)
    obtain ⟨g4, g7, g8, g9, g12⟩ := top_g (n := s.1 p) (tk := a.2.2.2 1 + 1) (kd := 2) (x := nI q)
    have key := RR_sts (v := v) (x := un (C_topen (s.1 p) (a.2.2.2 1 + 1) 2 (nI q)) 12 8 v) hB hp hr hj (NQ_refl (hj.1.2.1 p hp).1) hu h16 (show q < 16 by omega) (fun _ => hq) (Or.inr (Or.inl rfl)) (RB_12 (RB_st hrn.1 h16) (by decide)) (RT_st ((un_nj (by decide)).trans t2) ((un_nj (by decide)).trans t3) ((un_nj (by decide)).trans g4) ((un_nj (by decide)).trans g7) (fun _ => un_eq) (fun z => absurd z (by decide)) (fun z => absurd z (by decide))) ((un_nk (by decide)).trans (t1.trans (hr.1 p hp).2)) (fun z => absurd z (by decide)) (fun z => absurd z (by decide)) (fun z => absurd z (by decide))
    rw [g0_self] at key
    dsimp only
    exact key
