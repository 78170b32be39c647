/-! the class's nodes, and its constructor -/
def is0 (M : Nat) (F : Int32) : cS := (fun i k j => if k = 0 then (if j = 0 then nI i else if j = 1 then (if i < M then 1 else 0) else if j = 2 then 1 else 0) else if i < M ∧ j = 0 then (if k = 6 then 1 else if k = 7 then F else 0) else 0, fun _ _ _ => 0, fun _ => 0, fun x => x + 1, 0)
def ndA (k : Nat) : List (Option Nat) := (List.range 8).map (fun x => if x < k then some (989 + 17 * x) else none)
theorem ndA_0 : ndA 0 = List.replicate 8 none := by decide
theorem ndA_s {k : Nat} : (ndA k).set k (some (989 + 17 * k)) = ndA (k + 1) := by
  unfold ndA
  rw [map_set]
  refine List.map_congr_left (fun x _ => ?_)
  by_cases c : x = k
  · rw [if_pos c, c, if_pos (by omega)]
  · rw [if_neg c]
    by_cases c2 : x < k
    · rw [if_pos c2, if_pos (by omega)]
    · rw [if_neg c2, if_neg (by omega)]
theorem ndA_len {k : Nat} : (ndA k).length = 8 := by
  unfold ndA
  rw [List.length_map, List.length_range]
theorem ndA_g {k : Nat} (hk : k < 8) : (ndA (k + 1))[k]? = some (some (989 + 17 * k)) := by
  unfold ndA
  rw [rng_get hk, if_pos (by omega)]
theorem ty4 : ∃ q, vwCl[4]? = some q ∧ xTys[1]? = some (.object q.1) := ⟨_, rfl, rfl⟩
theorem noC_len {n : Nat} {v : Int32} : (noC n v).length = 17 := rfl
/-- a node that is not there yet -/
theorem noC_0 {M k c : Nat} {F : Int32} (hM : ¬ k < M) (hc : c < 17) : (noC (989 + 17 * k) (nI k))[c]? = some (ncell 1 (is0 M F) k c) := by
  have e : na 1 k = 989 + 17 * k := by
    unfold na
    omega
  have hh : c = 0 ∨ c = 1 ∨ c = 2 ∨ c = 3 ∨ c = 4 ∨ c = 5 ∨ c = 6 ∨ c = 7 ∨ c = 8 ∨ c = 9 ∨ c = 10 ∨ c = 11 ∨ c = 12 ∨ c = 13 ∨ c = 14 ∨ c = 15 ∨ c = 16 := by omega
  have z : ∀ i, i ≠ 0 → (is0 M F).1 k i = fun _ => 0 := by
    intro i hi
    funext j
    show (if i = 0 then _ else if k < M ∧ j = 0 then _ else 0) = (0 : Int32)
    rw [if_neg hi, if_neg (fun w => hM w.1)]
  have z0 : (is0 M F).1 k 0 0 = nI k ∧ (is0 M F).1 k 0 1 = 0 ∧ (is0 M F).1 k 0 2 = 1 ∧ (is0 M F).1 k 0 3 = 0 ∧ (is0 M F).1 k 0 4 = 0 ∧ (is0 M F).1 k 0 5 = 0 ∧ (is0 M F).1 k 0 6 = 0 := by
    refine ⟨rfl, ?_, rfl, rfl, rfl, rfl, rfl⟩
    show (if k < M then (1 : Int32) else 0) = 0
    rw [if_neg hM]
  rcases hh with w | w | w | w | w | w | w | w | w | w | w | w | w | w | w | w | w <;> subst w
  · show some (Sum.inr (4, _)) = some (Sum.inr (4, on_0 1 (is0 M F) k))
    unfold on_0
    rw [z0.1, z0.2.1, z0.2.2.1, z0.2.2.2.1, z0.2.2.2.2.1, z0.2.2.2.2.2.1, z0.2.2.2.2.2.2, e]
  · show some (Sum.inr (1, _)) = some (Sum.inr (1, on_1 1 (is0 M F) k))
    unfold on_1
    rw [e]
  · show some z4 = some (Sum.inl (0, Sum.inl (rAr 4 ((is0 M F).1 k 2))))
    rw [z 2 (by decide)]
    rfl
  · show some z4 = some (Sum.inl (0, Sum.inl (rAr 4 ((is0 M F).1 k 3))))
    rw [z 3 (by decide)]
    rfl
  · show some z4 = some (Sum.inl (0, Sum.inl (rAr 4 ((is0 M F).1 k 4))))
    rw [z 4 (by decide)]
    rfl
  · show some (Sum.inr (5, _)) = some (Sum.inr (5, on_5 1 (is0 M F) k))
    unfold on_5
    rw [e]
  · show some z16 = some (Sum.inl (0, Sum.inl (rAr 16 ((is0 M F).1 k 6))))
    rw [z 6 (by decide)]
    rfl
  · show some z16 = some (Sum.inl (0, Sum.inl (rAr 16 ((is0 M F).1 k 7))))
    rw [z 7 (by decide)]
    rfl
  · show some (Sum.inr (7, _)) = some (Sum.inr (7, on_8 1 (is0 M F) k))
    unfold on_8
    rw [e]
  · show some z16 = some (Sum.inl (0, Sum.inl (rAr 16 ((is0 M F).1 k 9))))
    rw [z 9 (by decide)]
    rfl
  · show some z16 = some (Sum.inl (0, Sum.inl (rAr 16 ((is0 M F).1 k 10))))
    rw [z 10 (by decide)]
    rfl
  · show some z16 = some (Sum.inl (0, Sum.inl (rAr 16 ((is0 M F).1 k 11))))
    rw [z 11 (by decide)]
    rfl
  · show some (Sum.inr (6, _)) = some (Sum.inr (6, on_12 1 (is0 M F) k))
    unfold on_12
    rw [z 12 (by decide), e]
  · show some (Sum.inr (1, _)) = some (Sum.inr (1, on_13 1 (is0 M F) k))
    unfold on_13
    rw [e]
  · show some z4 = some (Sum.inl (0, Sum.inl (rAr 4 ((is0 M F).1 k 14))))
    rw [z 14 (by decide)]
    rfl
  · show some z4 = some (Sum.inl (0, Sum.inl (rAr 4 ((is0 M F).1 k 15))))
    rw [z 15 (by decide)]
    rfl
  · show some z4 = some (Sum.inl (0, Sum.inl (rAr 4 ((is0 M F).1 k 16))))
    rw [z 16 (by decide)]
    rfl
/-- a node of the first set: but for three cells as the one that is not there yet -/
theorem noC_1 {M k c : Nat} {F : Int32} (hc : c < 17) (n0 : c ≠ 0) (n6 : c ≠ 6) (n7 : c ≠ 7) : ncell 1 (is0 M F) k c = ncell 1 (is0 0 F) k c := by
  refine ncell_cg hc ?_
  funext j
  show (if c = 0 then _ else if k < M ∧ j = 0 then (if c = 6 then 1 else if c = 7 then F else 0) else 0) = (if c = 0 then _ else if k < 0 ∧ j = 0 then (if c = 6 then 1 else if c = 7 then F else 0) else (0 : Int32))
  rw [if_neg n0, if_neg n0, if_neg n6, if_neg n7]
  have k0 : ¬ (k < 0 ∧ j = 0) := fun w => absurd w.1 (Nat.not_lt_zero _)
  rw [if_neg k0]
  by_cases w : k < M ∧ j = 0
  · rw [if_pos w]
  · rw [if_neg w]
theorem nc_6 {M k : Nat} {F : Int32} (hk : k < M) : ncell 1 (is0 M F) k 6 = .inl (0, .inl ((List.replicate 16 0).set 0 1)) := by
  show Sum.inl (0, Sum.inl (rAr 16 ((is0 M F).1 k 6))) = _
  have e : (is0 M F).1 k 6 = up1 (fun _ => 0) 0 1 := by
    funext j
    show (if k < M ∧ j = 0 then (1 : Int32) else 0) = if j = 0 then 1 else 0
    by_cases w : j = 0
    · rw [if_pos ⟨hk, w⟩, if_pos w]
    · rw [if_neg (fun z => w z.2), if_neg w]
  rw [e, ← rAr_set]
  rfl
theorem nc_7 {M k : Nat} {F : Int32} (hk : k < M) : ncell 1 (is0 M F) k 7 = .inl (0, .inl ((List.replicate 16 0).set 0 F)) := by
  show Sum.inl (0, Sum.inl (rAr 16 ((is0 M F).1 k 7))) = _
  have e : (is0 M F).1 k 7 = up1 (fun _ => 0) 0 F := by
    funext j
    show (if k < M ∧ j = 0 then F else 0) = if j = 0 then F else 0
    by_cases w : j = 0
    · rw [if_pos ⟨hk, w⟩, if_pos w]
    · rw [if_neg (fun z => w z.2), if_neg w]
  rw [e, ← rAr_set]
  rfl
theorem nc_00 {M k : Nat} {F : Int32} (hk : k < M) : ncell 1 (is0 M F) k 0 = .inr (4, [.int (nI k), .int 1, .int 1, .int 0, .int 0, .int 0, .int 0, .ref (989 + 17 * k + 1), .ref (989 + 17 * k + 5), .ref (989 + 17 * k + 8), .ref (989 + 17 * k + 12)]) := by
  have e : na 1 k = 989 + 17 * k := by
    unfold na
    omega
  have e1 : (is0 M F).1 k 0 1 = 1 := by
    show (if k < M then (1 : Int32) else 0) = 1
    rw [if_pos hk]
  show Sum.inr (4, on_0 1 (is0 M F) k) = _
  unfold on_0
  rw [e1, e]
  rfl
section NDS
variable {o l : List Value} {ar : List (Option Nat)} {M k : Nat} {F : Int32} {h h7 : xH} {e : xE}
/-- a node is made -/
theorem ph_nd (hk : k < 8) (hM : ¬ k < M) (h1 : h.1 = 988 + 17 * (k + 1)) (h2 : ∀ j, h.2 j = if j = 2 then some (.inl (1, .inr (ndA (k + 1)))) else blq (xn (ph o l ar (ndA k) (is0 M F) (988 + 17 * k)) e).2 (989 + 17 * k) (noC (989 + 17 * k) (nI k)) j) : h = ph o l ar (ndA (k + 1)) (is0 M F) (988 + 17 * (k + 1)) := by
  refine ph_ext h1 (fun j => ?_)
  rw [h2]
  by_cases c2 : j = 2
  · rw [if_pos c2, c2, ph_2 (by omega)]
  · rw [if_neg c2]
    by_cases c : 989 + 17 * k ≤ j ∧ j < 989 + 17 * k + 17
    · have ej : j = 989 + 17 * k + (j - (989 + 17 * k)) := by omega
      generalize j - (989 + 17 * k) = i at ej
      subst ej
      rw [blk_in (by rw [noC_len]; omega), noC_0 hM (by omega), ph_c (by omega) (by omega), show 989 + 17 * k + i - 1 = 988 + 17 * k + i by omega, cc_n hk (by omega)]
    · rw [blk_out (by rw [noC_len]; exact c), xn_n (by show j ≠ 988 + 17 * k + 1; omega)]
      by_cases c3 : j ≤ 988 + 17 * k
      · have e4 : (ph o l ar (ndA k) (is0 M F) (988 + 17 * k)).2 j = (ph o l ar (ndA (k + 1)) (is0 M F) (988 + 17 * k)).2 j := by
          rw [← ph_u2 (nr' := ndA (k + 1)) (nr := ndA k) (by omega), xu_n c2]
        rw [e4]
        exact ph_lt c3 (by omega)
      · rw [ph_no (by omega), ph_no (by omega)]
theorem ph_nd1 (hk : k < 8) (hM : k < M) (h1 : h.1 = 988 + 17 * (k + 1)) (h2 : ∀ j, h.2 j = if j = 989 + 17 * k + 7 then some (.inl (0, .inl ((List.replicate 16 0).set 0 F))) else if j = 989 + 17 * k + 6 then some (.inl (0, .inl ((List.replicate 16 0).set 0 1))) else if j = 989 + 17 * k then some (ncell 1 (is0 M F) k 0) else if j = 2 then some (.inl (1, .inr (ndA (k + 1)))) else blq (xn (ph o l ar (ndA k) (is0 M F) (988 + 17 * k)) e).2 (989 + 17 * k) (noC (989 + 17 * k) (nI k)) j) : h = ph o l ar (ndA (k + 1)) (is0 M F) (988 + 17 * (k + 1)) := by
  refine ph_ext h1 (fun j => ?_)
  rw [h2]
  by_cases d7 : j = 989 + 17 * k + 7
  · rw [if_pos d7, ph_c (by omega) (by omega), show j - 1 = 988 + 17 * k + 7 by omega, cc_n hk (by decide), nc_7 hM]
  · rw [if_neg d7]
    by_cases d6 : j = 989 + 17 * k + 6
    · rw [if_pos d6, ph_c (by omega) (by omega), show j - 1 = 988 + 17 * k + 6 by omega, cc_n hk (by decide), nc_6 hM]
    · rw [if_neg d6]
      by_cases d0 : j = 989 + 17 * k
      · rw [if_pos d0, ph_c (by omega) (by omega), show j - 1 = 988 + 17 * k + 0 by omega, cc_n hk (by decide)]
      · rw [if_neg d0]
        by_cases c2 : j = 2
        · rw [if_pos c2, c2, ph_2 (by omega)]
        · rw [if_neg c2]
          by_cases c : 989 + 17 * k ≤ j ∧ j < 989 + 17 * k + 17
          · have ej : j = 989 + 17 * k + (j - (989 + 17 * k)) := by omega
            generalize j - (989 + 17 * k) = i at ej
            subst ej
            rw [blk_in (by rw [noC_len]; omega), noC_0 (M := 0) (F := F) (Nat.not_lt_zero _) (by omega), ph_c (by omega) (by omega), show 989 + 17 * k + i - 1 = 988 + 17 * k + i by omega, cc_n hk (by omega), noC_1 (M := M) (by omega) (by omega) (by omega) (by omega)]
          · rw [blk_out (by rw [noC_len]; exact c), xn_n (by show j ≠ 988 + 17 * k + 1; omega)]
            by_cases c3 : j ≤ 988 + 17 * k
            · have e4 : (ph o l ar (ndA k) (is0 M F) (988 + 17 * k)).2 j = (ph o l ar (ndA (k + 1)) (is0 M F) (988 + 17 * k)).2 j := by
                rw [← ph_u2 (nr' := ndA (k + 1)) (nr := ndA k) (by omega), xu_n c2]
              rw [e4]
              exact ph_lt c3 (by omega)
            · rw [ph_no (by omega), ph_no (by omega)]
end NDS
theorem t_sput {Q : Option Value → xH → Prop} {h : xH} {n b1 b2 : Nat} {v : Int32} (h1 : h.2 n = some (.inr (5, [.ref b1, .ref b2]))) (h2 : h.2 b1 = some z16) (h3 : h.2 b2 = some z16) (n1 : n ≠ b1) (n2 : b1 ≠ b2) (hQ : Q none (xu (xu h b1 (.inl (0, .inl ((List.replicate 16 0).set 0 1)))) b2 (.inl (0, .inl ((List.replicate 16 0).set 0 v))))) : w_Se_put Q n 0 1 v h := by
  unfold w_Se_put
  refine s_Q_isIndex.mpr ⟨1, rfl, fun w => absurd w (by decide), fun _ => ⟨_, _, h1, rfl, _, h2, by decide, by decide, ?_⟩⟩
  intro h6 e6
  refine ⟨[.ref b1, .ref b2], b2, ?_, rfl, List.replicate 16 0, ?_, by decide, by decide, ?_⟩
  · rw [e6, xu_n n1]
    exact h1
  · rw [e6, xu_n (Ne.symm n2)]
    exact h3
  · intro h10 e10
    rw [e10, e6]
    exact hQ
set_option maxRecDepth 100000 in
theorem t_Q103 {Q : Option Value → xH → Prop} {l : List Value} {ar : List (Option Nat)} {M : Nat} {F l1 l2 l3 l5 l6 : Int32} {w2 w3 : Nat} {kc ks : Nat} (hM8 : M ≤ 8) (hQ : Q none (ph [.ref 2, .ref 3, .ref w2, .ref w3, .int 0] l ar (ndA 8) (is0 M F) 1124)) : ∀ d k, k + d = 8 → w_Q_init_103 Q (d + 1) 1 l1 l2 l3 (nI M) l5 l6 F (nI k) (ph [.ref 2, .ref 3, .ref w2, .ref w3, .int 0] l ar (ndA k) (is0 M F) (988 + 17 * k)) (kc + 17 * d) (ks + 140 * d) := by
  intro d
  induction d with
  | zero =>
    intro k hk
    have e : k = 8 := by omega
    subst e
    rw [w_Q_init_103]
    exact ⟨fun _ => hQ, fun w => absurd (by decide) w⟩
  | succ d ih =>
    intro k hk
    have hk8 : k < 8 := by omega
    obtain ⟨q, q1, q2⟩ := ty4
    rw [w_Q_init_103]
    refine ⟨fun w => absurd w (lt8 hk8), fun _ => ⟨_, _, ph_1 (by omega), rfl, kc + 17 * d + 16, ks + 140 * d + 129, by omega, by omega, ?_⟩⟩
    intro b4 h3 eb eh
    have eb' : b4 = 989 + 17 * k := by
      rw [eb]
      show 988 + 17 * k + 1 = _
      omega
    subst eb'
    refine ⟨16, kc + 17 * d, 129, ks + 140 * d, by omega, by omega, ?_⟩
    have s1 : h3.1 = 989 + 17 * k := by
      rw [eh]
      show 988 + 17 * k + 1 = _
      omega
    have se : h3.2 h3.1 = some (.inr (4, [.int 0, .int 0, .int 0, .int 0, .int 0, .int 0, .int 0, .null, .null, .null, .null])) := by
      rw [eh]
      exact xn_e
    have hco : ∀ Q', (∀ h', h'.1 = 988 + 17 * (k + 1) → (∀ j, h'.2 j = blq (xn (ph [.ref 2, .ref 3, .ref w2, .ref w3, .int 0] l ar (ndA k) (is0 M F) (988 + 17 * k)) (.inr (4, [.int 0, .int 0, .int 0, .int 0, .int 0, .int 0, .int 0, .null, .null, .null, .null]))).2 (989 + 17 * k) (noC (989 + 17 * k) (nI k)) j) → Q' none h') → w_No_init Q' (989 + 17 * k) (nI k) h3 16 129 := by
      intro Q' hq
      have := init_No (Q := Q') (v := nI k) (kc := 0) (ks := 0) se (fun h' e1 e2 => hq h' (by rw [e1, s1]; omega) (by rw [s1, eh] at e2; exact e2))
      rw [s1] at this
      exact this
    apply hco
    intro h7 f1 f2
    have f22 : ∀ j, j < 989 + 17 * k → h7.2 j = (ph [.ref 2, .ref 3, .ref w2, .ref w3, .int 0] l ar (ndA k) (is0 M F) (988 + 17 * k)).2 j := by
      intro j hj
      rw [f2, blk_out (by omega), xn_n]
      show j ≠ 988 + 17 * k + 1
      omega
    have fin : ∀ c, c < 17 → h7.2 (989 + 17 * k + c) = (noC (989 + 17 * k) (nI k))[c]? := by
      intro c hc
      rw [f2, blk_in (by rw [noC_len]; exact hc)]
    refine ⟨rfl, 1, q, ndA k, 4, [.int (nI k), .int 0, .int 1, .int 0, .int 0, .int 0, .int 0, .ref (989 + 17 * k + 1), .ref (989 + 17 * k + 5), .ref (989 + 17 * k + 8), .ref (989 + 17 * k + 12)], q2, q1, ?_, fin 0 (by decide), nI_nn (by omega), ?_, ?_⟩
    · rw [f22 2 (by omega), ph_2 (by omega)]
    · rw [nI_cl (by omega), ndA_len]
      exact hk8
    · intro h13 e13
      rw [nI_cl (by omega), ndA_s] at e13
      have g1 : h13.1 = 988 + 17 * (k + 1) := by rw [e13, xu_1, f1]
      have g2 : ∀ j, h13.2 j = if j = 2 then some (.inl (1, .inr (ndA (k + 1)))) else h7.2 j := by
        intro j
        rw [e13]
        rfl
      refine ⟨fun w => ?_, fun w => ?_⟩
      · have hM : ¬ k < M := by
          rw [nI_leI (by omega) (by omega)] at w
          omega
        unfold w_Q_init_161
        rw [nI_1, ph_nd (o := [.ref 2, .ref 3, .ref w2, .ref w3, .int 0]) (l := l) (ar := ar) (F := F) (e := .inr (4, [.int 0, .int 0, .int 0, .int 0, .int 0, .int 0, .int 0, .null, .null, .null, .null])) hk8 hM g1 (fun j => by rw [g2, f2])]
        exact ih (k + 1) (by omega)
      · have hM : k < M := by
          rw [nI_leI (by omega) (by omega)] at w
          omega
        have g3 : ∀ c, c < 17 → h13.2 (989 + 17 * k + c) = (noC (989 + 17 * k) (nI k))[c]? := by
          intro c hc
          rw [g2, if_neg (by omega), fin c hc]
        refine ⟨[.ref 2, .ref 3, .ref w2, .ref w3, .int 0], 2, ?_, rfl, 1, _, ndA (k + 1), 989 + 17 * k, rfl, rfl, ?_, nI_nn (by omega), ?_, _, g3 0 (by decide), by simp, ?_⟩
        · rw [g2, if_neg (by decide), f22 1 (by omega), ph_1 (by omega)]
        · rw [g2, if_pos rfl]
        · rw [nI_cl (by omega), ndA_g hk8]
        · intro h25 e25
          refine ⟨[.ref 2, .ref 3, .ref w2, .ref w3, .int 0], 2, ?_, rfl, 1, _, ndA (k + 1), 989 + 17 * k, rfl, rfl, ?_, nI_nn (by omega), ?_, [.int (nI k), .int 1, .int 1, .int 0, .int 0, .int 0, .int 0, .ref (989 + 17 * k + 1), .ref (989 + 17 * k + 5), .ref (989 + 17 * k + 8), .ref (989 + 17 * k + 12)], 989 + 17 * k + 5, ?_, rfl, ⟨[.ref (989 + 17 * k + 5 + 1), .ref (989 + 17 * k + 5 + 2)], ?_⟩, ?_⟩
          · rw [e25, xu_n (by omega), g2, if_neg (by decide), f22 1 (by omega), ph_1 (by omega)]
          · rw [e25, xu_n (by omega), g2, if_pos rfl]
          · rw [nI_cl (by omega), ndA_g hk8]
          · rw [e25, xu_e]
            rfl
          · rw [e25, xu_n (by omega)]
            exact g3 5 (by decide)
          · refine t_sput (b1 := 989 + 17 * k + 6) (b2 := 989 + 17 * k + 7) ?_ ?_ ?_ (by omega) (by omega) ?_
            · rw [e25, xu_n (by omega)]
              exact g3 5 (by decide)
            · rw [e25, xu_n (by omega)]
              exact g3 6 (by decide)
            · rw [e25, xu_n (by omega)]
              exact g3 7 (by decide)
            · refine ⟨rfl, ?_⟩
              unfold w_Q_init_161
              rw [nI_1]
              rw [ph_nd1 (h := xu (xu h25 (989 + 17 * k + 6) (.inl (0, .inl ((List.replicate 16 0).set 0 1)))) (989 + 17 * k + 7) (.inl (0, .inl ((List.replicate 16 0).set 0 F)))) (o := [.ref 2, .ref 3, .ref w2, .ref w3, .int 0]) (l := l) (ar := ar) (M := M) (F := F) (e := .inr (4, [.int 0, .int 0, .int 0, .int 0, .int 0, .int 0, .int 0, .null, .null, .null, .null])) hk8 hM (by rw [xu_1, xu_1, e25, xu_1, g1]) ?_]
              · exact ih (k + 1) (by omega)
              · intro j
                show (if j = 989 + 17 * k + 7 then _ else if j = 989 + 17 * k + 6 then _ else h25.2 j) = _
                rw [e25]
                show (if j = 989 + 17 * k + 7 then _ else if j = 989 + 17 * k + 6 then _ else if j = 989 + 17 * k then _ else h13.2 j) = _
                rw [g2, f2, nc_00 hM]
                rfl
