/-- THE PURE CLAIM: on every script the law's weakest condition holds -/
theorem pure_law (sc : List Int32) (hL : sc.length ≤ 2563) : ∃ kc ks : Nat, kc ≤ 600000 ∧ ks ≤ 7302250 ∧ w_L_law sc (fun v _ => v = some (.int 1)) (0, fun _ => none) kc ks := by
  refine ⟨1156, 15939, by decide, by decide, ?_⟩
  unfold w_L_law
  refine ⟨1155, 15934, rfl, rfl, ?_⟩
  intro b2 h1 eb eh
  have eb' : b2 = 1 := eb
  subst eb' eh
  refine t_cell0 (k := 0) hL (by decide) (fun x6 e6 => ⟨x6, rfl, ?_⟩)
  refine t_cell0 (k := 1) hL (by decide) (fun x8 e8 => ⟨x8, rfl, ?_⟩)
  refine t_cell0 (k := 2) hL (by decide) (fun x10 e10 => ⟨x10, rfl, ?_⟩)
  obtain ⟨M, hM8, hM⟩ := szI_8 (p := x6)
  have hM1 := szI_1 hM8 hM
  refine ⟨1123, 32, 8509, 7425, rfl, rfl, ?_⟩
  rw [ph_n1 (l := []) (ar := []) (nr := []) (s := is0 M (ffI x6 x8 x10))]
  refine t_Qinit (kc := 0) (ks := 0) hM hM8 ?_
  rw [ph_cl]
  refine ⟨rfl, 31, 7389, rfl, rfl, ?_⟩
  intro b17 h16 eb17 eh16
  have eb' : b17 = 1125 := eb17
  subst eb'
  refine t_cell0 (k := 0) hL (by decide) (fun x21 e21 => ⟨x21, rfl, ?_⟩)
  refine t_cell0 (k := 1) hL (by decide) (fun x23 e23 => ⟨x23, rfl, ?_⟩)
  refine t_cell0 (k := 2) hL (by decide) (fun x25 e25 => ⟨x25, rfl, ?_⟩)
  have f1 : x21 = x6 := by rw [e21, e6]
  have f2 : x23 = x8 := by rw [e23, e8]
  have f3 : x25 = x10 := by rw [e25, e10]
  rw [f1, f2, f3]
  refine ⟨31, 0, 7389, 0, rfl, rfl, ?_⟩
  have e0 : h16 = rq 1125 (cl 1 (1124, fun _ => none) (is0 M (ffI x6 x8 x10))).2 0 := by
    rw [eh16]
    refine Prod.ext rfl (funext fun j => ?_)
    show (if j = 1125 then _ else (cl 1 (1124, fun _ => none) (is0 M (ffI x6 x8 x10))).2 j) = if j = 1125 then _ else if 1125 < j ∧ j ≤ 1125 + 0 then _ else (cl 1 (1124, fun _ => none) (is0 M (ffI x6 x8 x10))).2 j
    by_cases c : j = 1125
    · rw [if_pos c, if_pos c]
      rfl
    · rw [if_neg c, if_neg c, if_neg (by omega)]
  rw [e0]
  refine t_Minit (kc := 0) (ks := 0) hM hM8 hM1 ?_
  refine ⟨rfl, 513, ?_⟩
  have e1 : rl 1125 (1156, (cl 1 (1124, fun _ => none) (is0 M (ffI x6 x8 x10))).2) (tt (rk M (ffI x6 x8 x10) 8)) = cl 1 (rl 1125 (1156, fun _ => none) (tt (rk M (ffI x6 x8 x10) 8))) (is0 M (ffI x6 x8 x10)) := by
    rw [clrl]
    rfl
  rw [e1]
  exact law_lp (fun _ => rfl) hL 512 3 1 _ _ 0 0 (by omega) (by decide) (by decide) INV_0
