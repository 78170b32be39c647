/-! the class's constructor -/
def szI (p m : Int32) : Int32 := if 1 < (if m < p then m else p) then (if m < p then m else p) else 1
def szW (w n r : Int32) : Int32 := if w < (n + 1) - r then (n + 1) - r else w
def cf0 (n r w : Int32) : Int32 := ((((1 : Int32) <<< (n &&& 31)) - 1) + (256 * r)) + (4096 * w)
/-- the numbers of a new object: how many nodes, readers, writers -/
def nnI (p1 : Int32) : Int32 := szI p1 8
def ffI (p1 p2 p3 : Int32) : Int32 := cf0 (nnI p1) (szI p2 (nnI p1)) (szW (szI p3 (nnI p1)) (nnI p1) (szI p2 (nnI p1)))
theorem szI_8 {p : Int32} : ∃ M, M ≤ 8 ∧ szI p 8 = nI M := by
  unfold szI
  by_cases c : 8 < p
  · rw [if_pos c]
    exact ⟨8, Nat.le_refl _, by rw [if_pos (by decide)]; rfl⟩
  · rw [if_neg c]
    by_cases c2 : 1 < p
    · rw [if_pos c2]
      have h0 : 0 ≤ p := Int32.le_of_lt (Int32.lt_trans (by decide) c2)
      obtain ⟨j, hj, e⟩ := nI_of2 (M := 8) (n := 8) (by decide) (Int32.not_lt.mpr h0) (Int32.not_lt.mp c)
      exact ⟨j, hj, e⟩
    · rw [if_neg c2]
      exact ⟨1, by decide, rfl⟩
theorem t_Qinit {Q : Option Value → xH → Prop} {l : List Value} {ar nr : List (Option Nat)} {M : Nat} {p1 p2 p3 : Int32} {kc ks : Nat} (hM : nnI p1 = nI M) (hM8 : M ≤ 8) (hQ : Q none (ph [.ref 2, .ref 3, .ref 973, .ref 981, .int 0] [.ref 4, .ref 5, .int 0, .int 0] (rwA 120) (ndA 8) (is0 M (ffI p1 p2 p3)) 1124)) : w_Q_init Q 1 p1 p2 p3 (ph [.null, .null, .null, .null, .int 0] l ar nr (is0 M (ffI p1 p2 p3)) 1) (kc + 1123) (ks + 8509) := by
  have hz : (is0 M (ffI p1 p2 p3)).2.1 = fun _ _ _ => 0 := rfl
  have hF : ffI p1 p2 p3 = cf0 (nI M) (szI p2 (nI M)) (szW (szI p3 (nI M)) (nI M) (szI p2 (nI M))) := by
    unfold ffI
    rw [hM]
  generalize hs : is0 M (ffI p1 p2 p3) = S at hQ hz ⊢
  unfold w_Q_init
  refine ⟨kc + 1122, ks + 8501, by omega, by omega, ?_⟩
  intro b2 h1 eb eh
  have eb' : b2 = 2 := eb
  subst eb' eh
  rw [ph_n2]
  refine ⟨_, ph_1 (by decide), by decide, ?_⟩
  intro h6 e6
  subst e6
  rw [ph_u1 (by decide)]
  refine ⟨kc + 1121, ks + 8497, by omega, by omega, ?_⟩
  intro b8 h7 eb8 eh7
  have eb' : b8 = 3 := eb8
  subst eb' eh7
  rw [ph_n3]
  refine ⟨969, kc + 152, 7259, ks + 1238, by omega, by omega, ?_⟩
  refine init_Ma (kc := 0) (ks := 0) hz ?_
  refine ⟨rfl, _, ph_1 (by decide), by decide, ?_⟩
  intro h17 e17
  subst e17
  rw [ph_u1 (by decide)]
  refine ⟨kc + 151, ks + 1228, by omega, by omega, ?_⟩
  intro b19 h18 eb19 eh18
  have eb' : b19 = 973 := eb19
  subst eb' eh18
  refine ⟨7, kc + 144, 49, ks + 1179, by omega, by omega, ?_⟩
  refine t_msg (m := 121) (kc := 0) (ks := 0) (by decide) (by rw [hz]) ?_
  refine ⟨rfl, _, ph_1 (by decide), by decide, ?_⟩
  intro h28 e28
  subst e28
  rw [ph_u1 (by decide)]
  refine ⟨kc + 143, ks + 1169, by omega, by omega, ?_⟩
  intro b30 h29 eb30 eh29
  have eb' : b30 = 981 := eb30
  subst eb' eh29
  refine ⟨7, kc + 136, 49, ks + 1120, by omega, by omega, ?_⟩
  refine t_msg (m := 122) (kc := 0) (ks := 0) (by decide) (by rw [hz]) ?_
  refine ⟨rfl, _, ph_1 (by decide), by decide, ?_⟩
  intro h39 e39
  subst e39
  rw [ph_u1 (by decide)]
  refine ⟨_, ph_1 (by decide), by decide, ?_⟩
  intro h41 e41
  subst e41
  rw [ph_u1 (by decide)]
  unfold w_Q_nearest w_Q_configuration w_Q_init_100
  refine ⟨nnI p1, rfl, szI p2 (nnI p1), rfl, szI p3 (nnI p1), rfl, ffI p1 p2 p3, rfl, 9, ?_⟩
  rw [← ndA_0, ← hs, hM]
  rw [← hs] at hQ
  exact t_Q103 (kc := kc) (ks := ks) hM8 hQ 8 0 rfl
/-- what the class's constructor leaves -/
theorem ph_cl {M : Nat} {F : Int32} : ph [.ref 2, .ref 3, .ref 973, .ref 981, .int 0] [.ref 4, .ref 5, .int 0, .int 0] (rwA 120) (ndA 8) (is0 M F) 1124 = cl 1 (1124, fun _ => none) (is0 M F) := by
  refine Prod.ext rfl (funext fun j => ?_)
  show (ph [.ref 2, .ref 3, .ref 973, .ref 981, .int 0] [.ref 4, .ref 5, .int 0, .int 0] (rwA 120) (ndA 8) (is0 M F) 1124).2 j = if 1 ≤ j ∧ j < 1 + 1124 then some (ccell 1 (is0 M F) (j - 1)) else none
  by_cases c0 : j = 0 ∨ 1124 < j
  · rw [ph_no c0, if_neg (by omega)]
  · rw [if_pos (by omega)]
    by_cases c1 : j = 1
    · rw [c1, ph_1 (by decide)]
      rfl
    · by_cases c2 : j = 2
      · rw [c2, ph_2 (by decide)]
        rfl
      · by_cases c3 : j = 3
        · rw [c3, ph_3 (by decide)]
          rfl
        · by_cases c4 : j = 4
          · rw [c4, ph_4 (by decide)]
            have e : rwA 120 = (List.range 120).map (fun x => some (ma 1 ((is0 M F).2.2.2.1 x))) := by
              unfold rwA
              refine List.map_congr_left (fun x hx => ?_)
              rw [if_pos (List.mem_range.mp hx)]
              show some (13 + 8 * x) = some (ma 1 (x + 1))
              unfold ma
              congr 1
              omega
            rw [e]
            rfl
          · exact ph_c (by omega) (by omega)
