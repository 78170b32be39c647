/-! both new objects -/
theorem rk_n {M : Nat} {F : Int32} {p : Nat} : ∀ k, (rk M F k).1 p = if p < k then rndq M F p (fun _ _ => 0) else fun _ _ => 0 := by
  intro k
  induction k with
  | zero =>
    rw [if_neg (Nat.not_lt_zero _)]
    rfl
  | succ k ih =>
    rw [rk]
    by_cases c : p = k
    · subst c
      rw [pN_eq, ih, if_neg (Nat.lt_irrefl _), if_pos (Nat.lt_succ_self _)]
    · rw [pN_ne c, ih]
      by_cases c2 : p < k
      · rw [if_pos c2, if_pos (by omega)]
      · rw [if_neg c2, if_neg (by omega)]
theorem rk_2 {M : Nat} {F : Int32} : ∀ k, (rk M F k).2 = rz.2 := by
  intro k
  induction k with
  | zero => rfl
  | succ k ih =>
    rw [rk, pN_2]
    exact ih
theorem rnd_k {M k i j : Nat} {F : Int32} (h : i ≠ 1 ∧ i ≠ 2 ∧ i ≠ 9 ∧ i ≠ 10) : rndq M F k (fun _ _ => 0) i j = 0 := by
  unfold rndq
  split
  · rw [un_nk (by omega), un_nk (by omega), un_nk (by omega), un_nk (by omega)]
  · rw [un_nk (by omega)]
theorem rnd_1 {M k : Nat} {F : Int32} : rndq M F k (fun _ _ => 0) 1 0 = if k < M then 1 else 0 := by
  unfold rndq
  by_cases c : k < M
  · rw [if_pos c, if_pos c, un_nk (by decide), un_nk (by decide), un_eq]
  · rw [if_neg c, if_neg c, un_nk (by decide)]
theorem rnd_2 {M k : Nat} {F : Int32} : rndq M F k (fun _ _ => 0) 2 0 = 1 := by
  unfold rndq
  by_cases c : k < M
  · rw [if_pos c, un_nk (by decide), un_nk (by decide), un_nk (by decide), un_eq]
  · rw [if_neg c, un_eq]
theorem rnd_9 {M k j : Nat} {F : Int32} : rndq M F k (fun _ _ => 0) 9 j = if k < M ∧ j = 0 then 1 else 0 := by
  unfold rndq
  by_cases c : k < M
  · rw [if_pos c, un_nk (by decide)]
    by_cases c2 : j = 0
    · rw [if_pos ⟨c, c2⟩, c2, un_eq]
    · rw [if_neg (fun w => c2 w.2), un_nj c2, un_nk (by decide), un_nk (by decide)]
  · rw [if_neg c, if_neg (fun w => c w.1), un_nk (by decide)]
theorem rnd_10 {M k j : Nat} {F : Int32} : rndq M F k (fun _ _ => 0) 10 j = if k < M ∧ j = 0 then F else 0 := by
  unfold rndq
  by_cases c : k < M
  · rw [if_pos c]
    by_cases c2 : j = 0
    · rw [if_pos ⟨c, c2⟩, c2, un_eq]
    · rw [if_neg (fun w => c2 w.2), un_nj c2, un_nk (by decide), un_nk (by decide), un_nk (by decide)]
  · rw [if_neg c, if_neg (fun w => c w.1), un_nk (by decide)]
theorem NI_rnd {M k : Nat} {F : Int32} : NI 1 (rndq M F k (fun _ _ => 0)) := by
  have z : ∀ i j, i ≠ 1 ∧ i ≠ 2 ∧ i ≠ 9 ∧ i ≠ 10 → rndq M F k (fun _ _ => 0) i j = 0 := fun i j h => rnd_k h
  have eab : ab (rndq M F k (fun _ _ => 0)) = 0 := by
    unfold ab
    rw [z 17 0 (by decide)]
    rfl
  have ebs : bs (rndq M F k (fun _ _ => 0)) = 0 := by
    unfold bs
    rw [z 24 0 (by decide)]
    rfl
  unfold NI Wn Ar
  rw [eab, ebs, rnd_1, rnd_2, z 17 0 (by decide), z 24 0 (by decide), z 4 0 (by decide), z 3 0 (by decide), z 5 0 (by decide), z 23 0 (by decide), z 16 0 (by decide), z 18 0 (by decide), z 19 0 (by decide), z 14 0 (by decide)]
  refine ⟨⟨rfl, by decide, fun _ => by decide, rfl, by decide⟩, ⟨0, by decide, rfl⟩, fun q => ?_, NB_0, NB_0, ⟨1, by decide, rfl⟩, NB_0, Or.inl rfl, fun w => ⟨rfl, ?_⟩, fun _ => rfl, fun w => absurd rfl w, E8_0, fun w => absurd rfl w, fun q _ => ?_, fun w => absurd rfl w⟩
  · rw [z 11 q (by decide), z 12 q (by decide)]
    exact ⟨NB_0, Int32.le_refl _⟩
  · by_cases c : k < M
    · rw [if_pos c] at w
      exact absurd rfl w
    · rw [if_neg c]
      exact Or.inl rfl
  · rw [rnd_9]
    split
    · exact Or.inr (Or.inl rfl)
    · exact Or.inl rfl
theorem INV_0 {M : Nat} {F : Int32} : INV 1 (is0 M F) (rk M F 8) := by
  have e2 := rk_2 (M := M) (F := F) 8
  have en : ∀ p, p < 8 → (rk M F 8).1 p = rndq M F p (fun _ _ => 0) := by
    intro p hp
    rw [rk_n 8, if_pos hp]
  have eln : ln (rk M F 8) = 0 := by
    unfold ln
    rw [e2]
    rfl
  have hwl : Wl (rk M F 8) := by
    unfold Wl
    rw [eln, e2]
    exact ⟨rfl, by decide⟩
  refine ⟨⟨fun i hi => ⟨⟨?_, fun w => ?_⟩, rfl⟩, ?_, ?_, ?_, hwl, fun x hx => ⟨?_, ?_⟩, fun x y _ _ h => ?_, ?_, fun x hx => ?_⟩, ⟨⟨hwl, fun q hq => ?_, fun x hx => ?_, Or.inl rfl⟩, ?_, fun p hp => ?_⟩, fun i hi => ⟨0, by decide, ?_, fun _ => by decide⟩⟩
  · rw [en i hi]
    have z : ∀ k j, k ≠ 1 ∧ k ≠ 2 ∧ k ≠ 9 ∧ k ≠ 10 → rndq M F i (fun _ _ => 0) k j = 0 := fun k j h => rnd_k h
    have cz : ∀ k j, k ≠ 0 ∧ k ≠ 6 ∧ k ≠ 7 → (is0 M F).1 i k j = 0 := by
      intro k j hk
      show (if k = 0 then _ else if i < M ∧ j = 0 then (if k = 6 then 1 else if k = 7 then F else 0) else 0) = (0 : Int32)
      rw [if_neg hk.1, if_neg hk.2.1, if_neg hk.2.2]
      split <;> rfl
    unfold RB
    rw [rnd_1, rnd_2, z 3 0 (by decide), z 5 0 (by decide), z 4 0 (by decide), z 32 0 (by decide), z 14 0 (by decide), z 16 0 (by decide), cz 12 0 (by decide), cz 12 2 (by decide)]
    refine ⟨rfl, rfl, rfl, rfl, rfl, rfl, fun j _ => ?_, fun j _ => ?_, rfl, rfl⟩
    · rw [z 6 j (by decide), z 7 j (by decide), z 8 j (by decide), cz 2 j (by decide), cz 3 j (by decide), cz 4 j (by decide)]
      exact ⟨rfl, rfl, rfl⟩
    · rw [rnd_9, rnd_10, z 11 j (by decide), z 12 j (by decide), z 13 j (by decide), cz 9 j (by decide), cz 10 j (by decide), cz 11 j (by decide)]
      exact ⟨rfl, rfl, rfl, rfl, rfl⟩
  · exfalso
    apply w
    rw [en i hi, rnd_k (by decide)]
  · rw [e2]
    rfl
  · rw [e2]
    rfl
  · rw [e2]
    rfl
  · show x + 1 < 121
    omega
  · show x + 1 ≠ 0
    omega
  · have h' : x + 1 = y + 1 := h
    omega
  · show 0 < 121
    decide
  · rw [eln] at hx
    exact absurd hx (Nat.not_lt_zero _)
  · rw [en q hq]
    refine ⟨NI_rnd, AP_0 ?_⟩
    rw [rnd_k (by decide)]
  · rw [eln] at hx
    exact absurd hx (Nat.not_lt_zero _)
  · rw [e2]
    exact NB_0
  · rw [en p hp]
    refine NJ_0 ?_
    rw [rnd_k (by decide)]
  · have n3 : ¬ (i < M ∧ (3 : Nat) = 0) := fun w => absurd w.2 (by decide)
    unfold is0
    dsimp only
    rw [if_neg (by decide), if_neg n3]
    rfl
theorem t_cell0 {sc : List Int32} {Q : Option Value → xH → Prop} {k : Nat} {h : xH} (hL : sc.length ≤ 2563) (hk : k ≤ 2) (hQ : ∀ x, x = (sc[k]?).getD 0 → Q (some (.int x)) h) : w_L_cell sc Q (nI k) h := by
  unfold w_L_cell
  have e : (Int32.ofNat sc.length ≤ nI k) ↔ sc.length ≤ k := nI_leI (a := sc.length) (by omega) (by omega)
  refine ⟨fun w => hQ 0 ?_, fun w => ?_⟩
  · rw [List.getElem?_eq_none (e.mp w)]
    rfl
  · have hlt : k < sc.length := by
      rw [e] at w
      omega
    refine ⟨sc[k], nI_nn (by omega), ?_, hQ _ ?_⟩
    · rw [nI_cl (by omega)]
      exact List.getElem?_eq_getElem hlt
    · rw [List.getElem?_eq_getElem hlt]
      rfl
theorem szI_1 {p : Int32} {M : Nat} (hM : M ≤ 8) (h : szI p 8 = nI M) : 1 ≤ M := by
  refine Classical.byContradiction (fun w => ?_)
  have e : M = 0 := by omega
  rw [e] at h
  unfold szI at h
  by_cases c : 1 < (if 8 < p then 8 else p)
  · rw [if_pos c] at h
    rw [h] at c
    exact absurd c (by decide)
  · rw [if_neg c] at h
    exact absurd h (by decide)
