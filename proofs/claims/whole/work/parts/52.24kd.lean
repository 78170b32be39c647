/-! the class's heap while it is made -/
def ph (o l : List Value) (ar nr : List (Option Nat)) (s : cS) (d : Nat) : xH := (d, fun j => if j = 0 ∨ d < j then none else if j = 1 then some (.inr (0, o)) else if j = 2 then some (.inl (1, .inr nr)) else if j = 3 then some (.inr (2, l)) else if j = 4 then some (.inl (2, .inr ar)) else some (ccell 1 s (j - 1)))
section PH
variable {o o' l l' : List Value} {ar ar' nr nr' : List (Option Nat)} {s : cS} {d j k m : Nat} {h : xH}
theorem ph_no (hj : j = 0 ∨ d < j) : (ph o l ar nr s d).2 j = none := if_pos hj
theorem ph_1 (hd : 1 ≤ d) : (ph o l ar nr s d).2 1 = some (.inr (0, o)) := by
  unfold ph
  dsimp only
  rw [if_neg (by omega), if_pos rfl]
theorem ph_2 (hd : 2 ≤ d) : (ph o l ar nr s d).2 2 = some (.inl (1, .inr nr)) := by
  unfold ph
  dsimp only
  rw [if_neg (by omega), if_neg (by decide), if_pos rfl]
theorem ph_3 (hd : 3 ≤ d) : (ph o l ar nr s d).2 3 = some (.inr (2, l)) := by
  unfold ph
  dsimp only
  rw [if_neg (by omega), if_neg (by decide), if_neg (by decide), if_pos rfl]
theorem ph_4 (hd : 4 ≤ d) : (ph o l ar nr s d).2 4 = some (.inl (2, .inr ar)) := by
  unfold ph
  dsimp only
  rw [if_neg (by omega), if_neg (by decide), if_neg (by decide), if_neg (by decide), if_pos rfl]
theorem ph_c (h5 : 5 ≤ j) (hj : j ≤ d) : (ph o l ar nr s d).2 j = some (ccell 1 s (j - 1)) := by
  unfold ph
  dsimp only
  rw [if_neg (by omega), if_neg (by omega), if_neg (by omega), if_neg (by omega), if_neg (by omega)]
theorem ph_ext (h1 : h.1 = d) (h2 : ∀ j, h.2 j = (ph o l ar nr s d).2 j) : h = ph o l ar nr s d := Prod.ext h1 (funext h2)
/-- cells up to d don't know where the heap ends -/
theorem ph_lt {d' : Nat} (h1 : j ≤ d) (h2 : j ≤ d') : (ph o l ar nr s d).2 j = (ph o l ar nr s d').2 j := by
  unfold ph
  dsimp only
  by_cases c : j = 0
  · rw [if_pos (Or.inl c), if_pos (Or.inl c)]
  · have n1 : ¬ (j = 0 ∨ d < j) := by omega
    have n2 : ¬ (j = 0 ∨ d' < j) := by omega
    rw [if_neg n1, if_neg n2]
theorem ph_n1 : xn (0, fun _ => none) (.inr (0, o)) = ph o l ar nr s 1 := by
  refine ph_ext rfl (fun j => ?_)
  by_cases c : j = 1
  · rw [c, ph_1 (Nat.le_refl _)]
    rfl
  · rw [ph_no (by omega), xn_n c]
theorem ph_n2 : xn (ph o l ar nr s 1) (.inl (1, .inr nr')) = ph o l ar nr' s 2 := by
  refine ph_ext rfl (fun j => ?_)
  by_cases c : j = 2
  · rw [c, ph_2 (Nat.le_refl _)]
    rfl
  · rw [xn_n c]
    by_cases c1 : j = 1
    · rw [c1, ph_1 (by decide), ph_1 (by decide)]
    · rw [ph_no (by omega), ph_no (by omega)]
theorem ph_n3 : xn (ph o l ar nr s 2) (.inr (2, l')) = ph o l' ar nr s 3 := by
  refine ph_ext rfl (fun j => ?_)
  by_cases c : j = 3
  · rw [c, ph_3 (Nat.le_refl _)]
    rfl
  · rw [xn_n c]
    by_cases c1 : j = 1
    · rw [c1, ph_1 (by decide), ph_1 (by decide)]
    · by_cases c2 : j = 2
      · rw [c2, ph_2 (by decide), ph_2 (by decide)]
      · rw [ph_no (by omega), ph_no (by omega)]
theorem ph_n4 : xn (ph o l ar nr s 3) (.inl (2, .inr ar')) = ph o l ar' nr s 4 := by
  refine ph_ext rfl (fun j => ?_)
  by_cases c : j = 4
  · rw [c, ph_4 (Nat.le_refl _)]
    rfl
  · rw [xn_n c]
    by_cases c1 : j = 1
    · rw [c1, ph_1 (by decide), ph_1 (by decide)]
    · by_cases c2 : j = 2
      · rw [c2, ph_2 (by decide), ph_2 (by decide)]
      · by_cases c3 : j = 3
        · rw [c3, ph_3 (by decide), ph_3 (by decide)]
        · rw [ph_no (by omega), ph_no (by omega)]
theorem ph_u1 (hd : 1 ≤ d) : xu (ph o l ar nr s d) 1 (.inr (0, o')) = ph o' l ar nr s d := by
  refine ph_ext rfl (fun j => ?_)
  by_cases c : j = 1
  · rw [c, ph_1 hd, xu_e]
  · rw [xu_n c]
    unfold ph
    dsimp only
    rw [if_neg c, if_neg c]
theorem ph_u2 (hd : 2 ≤ d) : xu (ph o l ar nr s d) 2 (.inl (1, .inr nr')) = ph o l ar nr' s d := by
  refine ph_ext rfl (fun j => ?_)
  by_cases c : j = 2
  · rw [c, ph_2 hd, xu_e]
  · rw [xu_n c]
    unfold ph
    dsimp only
    rw [if_neg c, if_neg c]
theorem ph_u3 (hd : 3 ≤ d) : xu (ph o l ar nr s d) 3 (.inr (2, l')) = ph o l' ar nr s d := by
  refine ph_ext rfl (fun j => ?_)
  by_cases c : j = 3
  · rw [c, ph_3 hd, xu_e]
  · rw [xu_n c]
    unfold ph
    dsimp only
    rw [if_neg c, if_neg c]
theorem ph_u4 (hd : 4 ≤ d) : xu (ph o l ar nr s d) 4 (.inl (2, .inr ar')) = ph o l ar' nr s d := by
  refine ph_ext rfl (fun j => ?_)
  by_cases c : j = 4
  · rw [c, ph_4 hd, xu_e]
  · rw [xu_n c]
    unfold ph
    dsimp only
    rw [if_neg c, if_neg c]
theorem cc_m (hm : m < 123) (hk : k < 8) : ccell 1 s (4 + 8 * m + k) = mcell 1 s m k := by
  unfold ccell
  rw [if_neg (by omega), if_pos (by omega), show (4 + 8 * m + k - 4) / 8 = m by omega, show (4 + 8 * m + k - 4) % 8 = k by omega]
theorem cc_n {i : Nat} (hi : i < 8) (hk : k < 17) : ccell 1 s (988 + 17 * i + k) = ncell 1 s i k := by
  unfold ccell
  rw [if_neg (by omega), if_neg (by omega), show (988 + 17 * i + k - 988) / 17 = i by omega, show (988 + 17 * i + k - 988) % 17 = k by omega]
theorem meC_c (hz : s.2.1 m = fun _ _ => 0) (hk : k < 8) : (meC (5 + 8 * m))[k]? = some (mcell 1 s m k) := by
  have e : ma 1 m = 5 + 8 * m := by
    unfold ma
    omega
  have hh : k = 0 ∨ k = 1 ∨ k = 2 ∨ k = 3 ∨ k = 4 ∨ k = 5 ∨ k = 6 ∨ k = 7 := by omega
  rcases hh with z | z | z | z | z | z | z | z <;> subst z
  · show some (Sum.inr (3, _)) = some (Sum.inr (3, om_0 1 s m))
    unfold om_0
    rw [hz, e]
  · show some (Sum.inr (5, _)) = some (Sum.inr (5, om_1 1 s m))
    unfold om_1
    rw [e]
  · show some z16 = some (Sum.inl (0, Sum.inl (rAr 16 (s.2.1 m 2))))
    rw [hz]
    rfl
  · show some z16 = some (Sum.inl (0, Sum.inl (rAr 16 (s.2.1 m 3))))
    rw [hz]
    rfl
  · show some (Sum.inr (1, _)) = some (Sum.inr (1, om_4 1 s m))
    unfold om_4
    rw [e]
  · show some z4 = some (Sum.inl (0, Sum.inl (rAr 4 (s.2.1 m 5))))
    rw [hz]
    rfl
  · show some z4 = some (Sum.inl (0, Sum.inl (rAr 4 (s.2.1 m 6))))
    rw [hz]
    rfl
  · show some z4 = some (Sum.inl (0, Sum.inl (rAr 4 (s.2.1 m 7))))
    rw [hz]
    rfl
theorem meC_len {n : Nat} : (meC n).length = 8 := rfl
/-- a new message -/
theorem ph_m {e : xE} (hm : m < 123) (hz : s.2.1 m = fun _ _ => 0) (h1 : h.1 = 4 + 8 * m + 8) (h2 : ∀ j, h.2 j = blq (xn (ph o l ar nr s (4 + 8 * m)) e).2 (5 + 8 * m) (meC (5 + 8 * m)) j) : h = ph o l ar nr s (4 + 8 * m + 8) := by
  refine ph_ext h1 (fun j => ?_)
  rw [h2]
  by_cases c : 5 + 8 * m ≤ j ∧ j < 5 + 8 * m + 8
  · have ej : j = 5 + 8 * m + (j - (5 + 8 * m)) := by omega
    generalize j - (5 + 8 * m) = k at ej
    subst ej
    rw [blk_in (by rw [meC_len]; omega), meC_c hz (by omega), ph_c (by omega) (by omega), show 5 + 8 * m + k - 1 = 4 + 8 * m + k by omega, cc_m hm (by omega)]
  · rw [blk_out (by rw [meC_len]; exact c), xn_n (by show j ≠ 4 + 8 * m + 1; omega)]
    by_cases c2 : j ≤ 4 + 8 * m
    · exact ph_lt c2 (by omega)
    · rw [ph_no (by omega), ph_no (by omega)]
theorem t_msg {Q : Option Value → xH → Prop} {kc ks : Nat} (hm : m < 123) (hz : s.2.1 m = fun _ _ => 0) (hQ : Q none (ph o l ar nr s (4 + 8 * m + 8))) : w_Me_init Q (4 + 8 * m + 1) (xn (ph o l ar nr s (4 + 8 * m)) (.inr (3, [.int 0, .int 0, .int 0, .int 0, .int 0, .int 0, .int 0, .int 0, .null, .null]))) (kc + 7) (ks + 49) := by
  refine init_Me (h := xn (ph o l ar nr s (4 + 8 * m)) (.inr (3, [.int 0, .int 0, .int 0, .int 0, .int 0, .int 0, .int 0, .int 0, .null, .null]))) xn_e ?_
  intro h' e1 e2
  have e1' : h'.1 = 4 + 8 * m + 8 := e1
  have e2' : ∀ j, h'.2 j = blq (xn (ph o l ar nr s (4 + 8 * m)) (.inr (3, [.int 0, .int 0, .int 0, .int 0, .int 0, .int 0, .int 0, .int 0, .null, .null]))).2 (5 + 8 * m) (meC (5 + 8 * m)) j := by
    intro j
    have := e2 j
    rw [show (xn (ph o l ar nr s (4 + 8 * m)) (.inr (3, [.int 0, .int 0, .int 0, .int 0, .int 0, .int 0, .int 0, .int 0, .null, .null]))).1 = 5 + 8 * m by show 4 + 8 * m + 1 = _; omega] at this
    exact this
  rw [ph_m hm hz e1' e2']
  exact hQ
end PH
/-! the mail -/
def rwA (k : Nat) : List (Option Nat) := (List.range 120).map (fun x => if x < k then some (13 + 8 * x) else none)
theorem rwA_0 : rwA 0 = List.replicate 120 none := by decide
theorem rwA_s {k : Nat} : (rwA k).set k (some (13 + 8 * k)) = rwA (k + 1) := by
  unfold rwA
  rw [map_set]
  refine List.map_congr_left (fun x _ => ?_)
  by_cases c : x = k
  · rw [if_pos c, c, if_pos (by omega)]
  · rw [if_neg c]
    by_cases c2 : x < k
    · rw [if_pos c2, if_pos (by omega)]
    · rw [if_neg c2, if_neg (by omega)]
theorem rwA_len {k : Nat} : (rwA k).length = 120 := by
  unfold rwA
  rw [List.length_map, List.length_range]
theorem t_Ma36 {Q : Option Value → xH → Prop} {o : List Value} {nr : List (Option Nat)} {s : cS} {kc ks : Nat} (hz : s.2.1 = fun _ _ _ => 0) (hQ : Q none (ph o [.ref 4, .ref 5, .int 0, .int 0] (rwA 120) nr s 972)) : ∀ d k, k + d = 120 → w_Ma_init_36 Q (d + 1) 3 (nI k) (ph o [.ref 4, .ref 5, .int 0, .int 0] (rwA k) nr s (4 + 8 * (k + 1))) (kc + 8 * d) (ks + 59 * d) := by
  intro d
  induction d with
  | zero =>
    intro k hk
    have e : k = 120 := by omega
    subst e
    rw [w_Ma_init_36]
    exact ⟨fun _ => hQ, fun w => absurd (by decide) w⟩
  | succ d ih =>
    intro k hk
    have hlt : ¬ 120 ≤ nI k := by
      rw [show (120 : Int32) = nI 120 from rfl, nI_leI (by omega) (by omega)]
      omega
    obtain ⟨q, q1, q2⟩ := ty3
    rw [w_Ma_init_36]
    refine ⟨fun w => absurd w hlt, fun _ => ⟨_, _, ph_3 (by omega), rfl, kc + 8 * d + 7, ks + 59 * d + 49, by omega, by omega, ?_⟩⟩
    intro b4 h3 eb eh
    subst eh
    have eb' : b4 = 4 + 8 * (k + 1) + 1 := eb
    subst eb'
    refine ⟨7, kc + 8 * d, 49, ks + 59 * d, by omega, by omega, ?_⟩
    refine t_msg (kc := 0) (ks := 0) (show k + 1 < 123 by omega) (by rw [hz]) ?_
    refine ⟨rfl, 2, q, rwA k, 3, om_0 1 s (k + 1), q2, q1, ph_4 (by omega), ?_, nI_nn (by omega), ?_, ?_⟩
    · rw [ph_c (by omega) (by omega), show 4 + 8 * (k + 1) + 1 - 1 = 4 + 8 * (k + 1) + 0 by omega, cc_m (by omega) (by decide)]
      rfl
    · rw [nI_cl (by omega), rwA_len]
      omega
    · intro h13 e13
      subst e13
      rw [nI_cl (by omega), show 4 + 8 * (k + 1) + 1 = 13 + 8 * k by omega, ph_u4 (by omega), rwA_s, nI_1]
      exact ih (k + 1) (by omega)
theorem init_Ma {Q : Option Value → xH → Prop} {o : List Value} {ar nr : List (Option Nat)} {s : cS} {kc ks : Nat} (hz : s.2.1 = fun _ _ _ => 0) (hQ : Q none (ph o [.ref 4, .ref 5, .int 0, .int 0] (rwA 120) nr s 972)) : w_Ma_init Q 3 (ph o [.null, .null, .int 0, .int 0] ar nr s 3) (kc + 969) (ks + 7259) := by
  unfold w_Ma_init
  refine ⟨kc + 968, ks + 7139, by omega, by omega, ?_⟩
  intro b2 h1 eb eh
  have eb' : b2 = 4 := eb
  subst eb' eh
  rw [ph_n4]
  refine ⟨_, ph_3 (by decide), by decide, ?_⟩
  intro h6 e6
  subst e6
  rw [ph_u3 (by decide)]
  refine ⟨kc + 967, ks + 7129, by omega, by omega, ?_⟩
  intro b8 h7 eb8 eh7
  have eb' : b8 = 5 := eb8
  subst eb' eh7
  refine ⟨7, kc + 960, 49, ks + 7080, by omega, by omega, ?_⟩
  refine t_msg (m := 0) (kc := 0) (ks := 0) (by decide) (by rw [hz]) ?_
  refine ⟨rfl, _, ph_3 (by decide), by decide, ?_⟩
  intro h17 e17
  subst e17
  rw [ph_u3 (by decide)]
  refine ⟨_, ph_3 (by decide), by decide, ?_⟩
  intro h19 e19
  subst e19
  rw [ph_u3 (by decide)]
  refine ⟨_, ph_3 (by decide), by decide, ?_⟩
  intro h21 e21
  subst e21
  rw [ph_u3 (by decide), ← rwA_0]
  exact ⟨121, t_Ma36 (kc := kc) (ks := ks) hz hQ 120 0 rfl⟩
