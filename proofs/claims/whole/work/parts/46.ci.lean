/-! the class: a message is taken out -/
def sR (s : cS) (f : Nat → Nat) (t : Nat) : cS := (s.1, s.2.1, s.2.2.1, f, t)
theorem map_set {α : Type} {N j : Nat} {f : Nat → α} {v : α} : ((List.range N).map f).set j v = (List.range N).map (fun x => if x = j then v else f x) := by
  apply List.ext_getElem
  · simp
  · intro i h1 h2
    rw [List.getElem_set]
    by_cases h : j = i
    · subst h
      simp
    · rw [if_neg h]
      simp [Ne.symm h]
section TO
variable {c : Nat} {g : xH} {s : cS} {j m : Nat}
theorem ur_3 : xu (cl c g s) (c + 3) (.inl (2, .inr (((List.range 120).map (fun x => some (ma c (s.2.2.2.1 x)))).set j (some (ma c m))))) = cl c g (sR s (fun x => if x = j then m else s.2.2.2.1 x) s.2.2.2.2) := by
  refine cl_uk (d := 3) (by decide) ?_ ?_ rfl rfl
  · show Sum.inl (2, Sum.inr ((List.range 120).map (fun x => some (ma c (if x = j then m else s.2.2.2.1 x))))) = _
    rw [map_set]
    have e : (fun x => some (ma c (if x = j then m else s.2.2.2.1 x))) = (fun x => if x = j then some (ma c m) else some (ma c (s.2.2.2.1 x))) := by
      funext x
      by_cases h : x = j
      · rw [if_pos h, if_pos h]
      · rw [if_neg h, if_neg h]
    rw [e]
  · intro b hb hne
    match b, hb, hne with
    | 0, _, _ => rfl
    | 1, _, _ => rfl
    | 2, _, _ => rfl
    | 3, _, h => exact absurd rfl h
    | q + 4, hb, _ => omega
theorem ur_t : xu (cl c g s) (c + 2) (.inr (2, (og_2 c s).set 1 (.ref (ma c m)))) = cl c g (sR s s.2.2.2.1 m) := by
  refine cl_uk (d := 2) (by decide) ?_ ?_ rfl rfl
  · show Sum.inr (2, og_2 c (sR s s.2.2.2.1 m)) = _
    simp [og_2, sR]
  · intro b hb hne
    match b, hb, hne with
    | 0, _, _ => rfl
    | 1, _, _ => rfl
    | 2, _, h => exact absurd rfl h
    | 3, _, _ => rfl
    | q + 4, hb, _ => omega
end TO
def shR (f : Nat → Nat) (i m : Nat) : Nat → Nat := fun x => if i ≤ x ∧ x < i + m then f (x + 1) else f x
theorem shR_0 {f : Nat → Nat} {i : Nat} : shR f i 0 = f := by
  funext x
  unfold shR
  rw [if_neg (by omega)]
theorem shR_s {f : Nat → Nat} {i k : Nat} : (fun x => if x = i + k then shR f i k (i + k + 1) else shR f i k x) = shR f i (k + 1) := by
  funext x
  unfold shR
  by_cases h : x = i + k
  · rw [if_pos h, if_neg (by omega), if_pos (by omega), h]
  · rw [if_neg h]
    by_cases h2 : i ≤ x ∧ x < i + k
    · rw [if_pos h2, if_pos (by omega)]
    · rw [if_neg h2, if_neg (by omega)]
theorem ty3 : ∃ q, vwCl[3]? = some q ∧ xTys[2]? = some (.object q.1) := ⟨_, rfl, rfl⟩
theorem y_to14 {Q : Option Value → xH → Prop} {c : Nat} {g : xH} {s : cS} {i L l2 : Nat} {l1 : Int32} {E : Prop} (hw : ∀ x, x < 120 → s.2.2.2.1 x < 121) (hL : s.2.2.1 1 = nI L) (h120 : L ≤ 120) (hi : i < L) (hE : w_Ma_takeOut_52 Q (c + 2) l1 l2 (nI (i + (L - 1 - i))) (cl c g (sR s (shR s.2.2.2.1 i (L - 1 - i)) s.2.2.2.2)) ↔ E) : (∃ n, w_Ma_takeOut_14 Q n (c + 2) l1 l2 (nI i) (cl c g s)) ↔ E := by
  obtain ⟨q, hq1, hq2⟩ := ty3
  have e := loop_iff (fun n (x : Int32 × xH) => w_Ma_takeOut_14 Q n (c + 2) l1 l2 x.1 x.2) (fun k => (nI (i + k), cl c g (sR s (shR s.2.2.2.1 i k) s.2.2.2.2))) (L - 1 - i) E (fun _ => id) ?_ ?_
  · rw [shR_0] at e
    exact e
  · intro n k hk
    show w_Ma_takeOut_14 Q (n + 1) (c + 2) l1 l2 (nI (i + k)) (cl c g (sR s (shR s.2.2.2.1 i k) s.2.2.2.2)) ↔ w_Ma_takeOut_14 Q n (c + 2) l1 l2 (nI (i + (k + 1))) (cl c g (sR s (shR s.2.2.2.1 i (k + 1)) s.2.2.2.2))
    have e3 : nI (i + k) + 1 = nI (i + k + 1) := nI_1 _
    have e1 : ¬ nI L ≤ nI (i + k + 1) := by
      rw [nI_leI (by omega) (by omega)]
      omega
    have e2 : ¬ 120 ≤ nI (i + k + 1) := by
      rw [show (120 : Int32) = nI 120 from rfl, nI_leI (by omega) (by omega)]
      omega
    have en : 0 ≤ nI (i + k) := nI_pos' (by omega)
    have en1 : 0 ≤ nI (i + k + 1) := nI_pos' (by omega)
    have ec : (nI (i + k)).toNatClampNeg = i + k := nI_clamp (by omega)
    have ec1 : (nI (i + k + 1)).toNatClampNeg = i + k + 1 := nI_clamp (by omega)
    have hz : (sR s (shR s.2.2.2.1 i k) s.2.2.2.2).2.2.1 1 = nI L := hL
    have hu : xu (cl c g (sR s (shR s.2.2.2.1 i k) s.2.2.2.2)) (c + 3) (.inl (2, .inr (((List.range 120).map (fun x => some (ma c ((sR s (shR s.2.2.2.1 i k) s.2.2.2.2).2.2.2.1 x)))).set (i + k) (some (ma c (shR s.2.2.2.1 i k (i + k + 1))))))) = cl c g (sR s (shR s.2.2.2.1 i (k + 1)) s.2.2.2.2) := by
      rw [ur_3]
      show cl c g (sR s (fun x => if x = i + k then shR s.2.2.2.1 i k (i + k + 1) else shR s.2.2.2.1 i k x) s.2.2.2.2) = _
      rw [shR_s]
    have hrow : shR s.2.2.2.1 i k (i + k + 1) < 123 := by
      unfold shR
      rw [if_neg (by omega)]
      have := hw (i + k + 1) (by omega)
      omega
    rw [w_Ma_takeOut_14, e3]
    constructor
    · rintro ⟨f, x2, h1, h2, h3⟩
      rw [cg_2] at h1
      cases h1
      rw [og_2_2] at h2
      cases h2
      rw [hz] at h3
      obtain ⟨f3, a4, h4, h5, f5, a6, h6, h7, t9, y10, ar7, a8, h8, h9, h10, h11, h12, t13, q14, ar11, c15, v16, g1, g2, g3, g4, g5, g6, g7⟩ := (h3.2 e1).2 e2
      rw [cg_2] at h4 h6
      cases h4
      cases h6
      rw [og_2_0] at h5 h7
      cases h5
      cases h7
      rw [cg_3] at h10 g3
      cases h10
      cases g3
      rw [ec1, rng_get (by omega)] at h12
      cases h12
      have hh := g7 _ rfl
      rw [ec] at hh
      have hh2 : w_Ma_takeOut_14 Q n (c + 2) l1 l2 (nI (i + k + 1)) (xu (cl c g (sR s (shR s.2.2.2.1 i k) s.2.2.2.2)) (c + 3) (.inl (2, .inr (((List.range 120).map (fun x => some (ma c ((sR s (shR s.2.2.2.1 i k) s.2.2.2.2).2.2.2.1 x)))).set (i + k) (some (ma c (shR s.2.2.2.1 i k (i + k + 1)))))))) := hh
      rw [hu] at hh2
      exact hh2
    · intro h
      refine ⟨_, _, cg_2, og_2_2, ?_⟩
      rw [hz]
      refine ⟨fun hh => absurd hh e1, fun _ => ⟨fun hh => absurd hh e2, fun _ => ⟨_, _, cg_2, og_2_0, _, _, cg_2, og_2_0, 2, _, _, ma c (shR s.2.2.2.1 i k (i + k + 1)), rfl, rfl, cg_3, en1, ?_, 2, q, _, 3, _, hq2, hq1, cg_3, cm_0 hrow, en, ?_, ?_⟩⟩⟩
      · rw [ec1, rng_get (by omega)]
        rfl
      · rw [ec]
        simp
        omega
      · intro h12 eh
        rw [eh, ec, hu]
        exact h
  · intro n
    show w_Ma_takeOut_14 Q (n + 1) (c + 2) l1 l2 (nI (i + (L - 1 - i))) (cl c g (sR s (shR s.2.2.2.1 i (L - 1 - i)) s.2.2.2.2)) ↔ E
    have e3 : nI (i + (L - 1 - i)) + 1 = nI L := by
      rw [nI_1]
      congr 1
      omega
    have hz : (sR s (shR s.2.2.2.1 i (L - 1 - i)) s.2.2.2.2).2.2.1 1 = nI L := hL
    rw [← hE, w_Ma_takeOut_14, e3]
    constructor
    · rintro ⟨f, x2, h1, h2, h3⟩
      rw [cg_2] at h1
      cases h1
      rw [og_2_2] at h2
      cases h2
      rw [hz] at h3
      exact h3.1 (Int32.le_refl _)
    · intro h
      refine ⟨_, _, cg_2, og_2_2, ?_⟩
      rw [hz]
      exact ⟨fun _ => h, fun hh => absurd (Int32.le_refl _) hh⟩
