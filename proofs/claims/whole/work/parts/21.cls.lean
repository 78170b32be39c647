/-! the class's heap -/
abbrev cS : Type := (Nat → Nat → Nat → Int32) × (Nat → Nat → Nat → Int32) × (Nat → Int32) × (Nat → Nat) × Nat
def na (c i : Nat) : Nat := c + 988 + 17 * i
def ma (c m : Nat) : Nat := c + 4 + 8 * m
def on_0 (c : Nat) (s : cS) (i : Nat) : List Value := [.int (s.1 i 0 0), .int (s.1 i 0 1), .int (s.1 i 0 2), .int (s.1 i 0 3), .int (s.1 i 0 4), .int (s.1 i 0 5), .int (s.1 i 0 6), .ref (na c i + 1), .ref (na c i + 5), .ref (na c i + 8), .ref (na c i + 12)]
def on_1 (c : Nat) (s : cS) (i : Nat) : List Value := [.ref (na c i + 2), .ref (na c i + 3), .ref (na c i + 4)]
def on_5 (c : Nat) (s : cS) (i : Nat) : List Value := [.ref (na c i + 6), .ref (na c i + 7)]
def on_8 (c : Nat) (s : cS) (i : Nat) : List Value := [.ref (na c i + 9), .ref (na c i + 10), .ref (na c i + 11)]
def on_12 (c : Nat) (s : cS) (i : Nat) : List Value := [.int (s.1 i 12 0), .int (s.1 i 12 1), .int (s.1 i 12 2), .int (s.1 i 12 3), .int (s.1 i 12 4), .int (s.1 i 12 5), .int (s.1 i 12 6), .int (s.1 i 12 7), .int (s.1 i 12 8), .int (s.1 i 12 9), .int (s.1 i 12 10), .int (s.1 i 12 11), .int (s.1 i 12 12), .ref (na c i + 13)]
def on_13 (c : Nat) (s : cS) (i : Nat) : List Value := [.ref (na c i + 14), .ref (na c i + 15), .ref (na c i + 16)]
def om_0 (c : Nat) (s : cS) (m : Nat) : List Value := [.int (s.2.1 m 0 0), .int (s.2.1 m 0 1), .int (s.2.1 m 0 2), .int (s.2.1 m 0 3), .int (s.2.1 m 0 4), .int (s.2.1 m 0 5), .int (s.2.1 m 0 6), .int (s.2.1 m 0 7), .ref (ma c m + 1), .ref (ma c m + 4)]
def om_1 (c : Nat) (s : cS) (m : Nat) : List Value := [.ref (ma c m + 2), .ref (ma c m + 3)]
def om_4 (c : Nat) (s : cS) (m : Nat) : List Value := [.ref (ma c m + 5), .ref (ma c m + 6), .ref (ma c m + 7)]
def og_0 (c : Nat) (s : cS) : List Value := [.ref (c + 1), .ref (c + 2), .ref (ma c 121), .ref (ma c 122), .int (s.2.2.1 0)]
def og_2 (c : Nat) (s : cS) : List Value := [.ref (c + 3), .ref (ma c s.2.2.2.2), .int (s.2.2.1 1), .int (s.2.2.1 2)]
def ncell (c : Nat) (s : cS) (i : Nat) (k : Nat) : xE := match k with
  | 0 => .inr (4, (on_0 c s i))
  | 1 => .inr (1, (on_1 c s i))
  | 2 => .inl (0, .inl (rAr 4 (s.1 i 2)))
  | 3 => .inl (0, .inl (rAr 4 (s.1 i 3)))
  | 4 => .inl (0, .inl (rAr 4 (s.1 i 4)))
  | 5 => .inr (5, (on_5 c s i))
  | 6 => .inl (0, .inl (rAr 16 (s.1 i 6)))
  | 7 => .inl (0, .inl (rAr 16 (s.1 i 7)))
  | 8 => .inr (7, (on_8 c s i))
  | 9 => .inl (0, .inl (rAr 16 (s.1 i 9)))
  | 10 => .inl (0, .inl (rAr 16 (s.1 i 10)))
  | 11 => .inl (0, .inl (rAr 16 (s.1 i 11)))
  | 12 => .inr (6, (on_12 c s i))
  | 13 => .inr (1, (on_13 c s i))
  | 14 => .inl (0, .inl (rAr 4 (s.1 i 14)))
  | 15 => .inl (0, .inl (rAr 4 (s.1 i 15)))
  | _ => .inl (0, .inl (rAr 4 (s.1 i 16)))
def mcell (c : Nat) (s : cS) (m : Nat) (k : Nat) : xE := match k with
  | 0 => .inr (3, (om_0 c s m))
  | 1 => .inr (5, (om_1 c s m))
  | 2 => .inl (0, .inl (rAr 16 (s.2.1 m 2)))
  | 3 => .inl (0, .inl (rAr 16 (s.2.1 m 3)))
  | 4 => .inr (1, (om_4 c s m))
  | 5 => .inl (0, .inl (rAr 4 (s.2.1 m 5)))
  | 6 => .inl (0, .inl (rAr 4 (s.2.1 m 6)))
  | _ => .inl (0, .inl (rAr 4 (s.2.1 m 7)))
def gcell (c : Nat) (s : cS) (k : Nat) : xE := match k with
  | 0 => .inr (0, og_0 c s)
  | 1 => .inl (1, .inr ((List.range 8).map (fun i => some (na c i))))
  | 2 => .inr (2, og_2 c s)
  | _ => .inl (2, .inr ((List.range 120).map (fun x => some (ma c (s.2.2.2.1 x)))))
def ccell (c : Nat) (s : cS) (d : Nat) : xE := if d < 4 then gcell c s d else if d < 988 then mcell c s ((d - 4) / 8) ((d - 4) % 8) else ncell c s ((d - 988) / 17) ((d - 988) % 17)
def cl (c : Nat) (g : xH) (s : cS) : xH := (g.1, fun a => if c ≤ a ∧ a < c + 1124 then some (ccell c s (a - c)) else g.2 a)
def up2 (f : Nat → Nat → Nat → Int32) (i k j : Nat) (v : Int32) : Nat → Nat → Nat → Int32 := fun a b => if a = i ∧ b = k then up1 (f i k) j v else f a b
def upF (f : Nat → Nat → Nat → Int32) (i k : Nat) (x : Nat → Int32) : Nat → Nat → Nat → Int32 := fun a b => if a = i ∧ b = k then x else f a b
theorem upF_eq (f : Nat → Nat → Nat → Int32) (i k : Nat) (x : Nat → Int32) : upF f i k x i k = x := by simp [upF]
theorem upF_ne {f : Nat → Nat → Nat → Int32} {i k a b : Nat} {x : Nat → Int32} (h : ¬ (a = i ∧ b = k)) : upF f i k x a b = f a b := by simp [upF, h]
def sNF (s : cS) (i k : Nat) (f : Nat → Int32) : cS := (upF s.1 i k f, s.2)
def sMF (s : cS) (m k : Nat) (f : Nat → Int32) : cS := (s.1, upF s.2.1 m k f, s.2.2)
def sN (s : cS) (i k j : Nat) (v : Int32) : cS := sNF s i k (up1 (s.1 i k) j v)
def sM (s : cS) (m k j : Nat) (v : Int32) : cS := sMF s m k (up1 (s.2.1 m k) j v)
theorem sNF_eq (s : cS) (i k : Nat) (f : Nat → Int32) : (sNF s i k f).1 i k = f := upF_eq _ _ _ _
theorem sNF_ne {s : cS} {i k a b : Nat} {f : Nat → Int32} (h : ¬ (a = i ∧ b = k)) : (sNF s i k f).1 a b = s.1 a b := upF_ne h
theorem sNF_2 (s : cS) (i k : Nat) (f : Nat → Int32) : (sNF s i k f).2 = s.2 := rfl
theorem sMF_eq (s : cS) (i k : Nat) (f : Nat → Int32) : (sMF s i k f).2.1 i k = f := upF_eq _ _ _ _
theorem sMF_ne {s : cS} {i k a b : Nat} {f : Nat → Int32} (h : ¬ (a = i ∧ b = k)) : (sMF s i k f).2.1 a b = s.2.1 a b := upF_ne h
theorem sMF_1 (s : cS) (i k : Nat) (f : Nat → Int32) : (sMF s i k f).1 = s.1 := rfl
theorem sMF_3 (s : cS) (i k : Nat) (f : Nat → Int32) : (sMF s i k f).2.2 = s.2.2 := rfl
def sK (s : cS) (i : Nat) (v : Int32) : cS := (s.1, s.2.1, up1 s.2.2.1 i v, s.2.2.2)
theorem up2_eq (f : Nat → Nat → Nat → Int32) (i k j : Nat) (v : Int32) : up2 f i k j v i k = up1 (f i k) j v := by simp [up2]
theorem up2_ne {f : Nat → Nat → Nat → Int32} {i k j a b : Nat} {v : Int32} (h : ¬ (a = i ∧ b = k)) : up2 f i k j v a b = f a b := by simp [up2, h]
section CL
variable {c : Nat} {g : xH} {s : cS} {v : Int32} {j i m : Nat}
theorem cl_at {d : Nat} (h : d < 1124) : (cl c g s).2 (c + d) = some (ccell c s d) := by simp [cl, h]
theorem cl_n {k : Nat} (hi : i < 8) (hk : k < 17) : (cl c g s).2 (na c i + k) = some (ncell c s i k) := by
  rw [show na c i + k = c + (988 + 17 * i + k) by unfold na; omega, cl_at (by omega)]
  unfold ccell
  rw [if_neg (by omega), if_neg (by omega), show (988 + 17 * i + k - 988) / 17 = i by omega, show (988 + 17 * i + k - 988) % 17 = k by omega]
theorem cl_m {k : Nat} (hm : m < 123) (hk : k < 8) : (cl c g s).2 (ma c m + k) = some (mcell c s m k) := by
  rw [show ma c m + k = c + (4 + 8 * m + k) by unfold ma; omega, cl_at (by omega)]
  unfold ccell
  rw [if_neg (by omega), if_pos (by omega), show (4 + 8 * m + k - 4) / 8 = m by omega, show (4 + 8 * m + k - 4) % 8 = k by omega]
theorem cl_upd {s' : cS} {d : Nat} {e : xE} (hd : d < 1124) (he : ccell c s' d = e) (ho : ∀ i, i < 1124 → i ≠ d → ccell c s' i = ccell c s i) : xu (cl c g s) (c + d) e = cl c g s' := by
  unfold xu cl
  congr 1
  funext a
  show (if a = c + d then some e else if c ≤ a ∧ a < c + 1124 then some (ccell c s (a - c)) else g.2 a) = _
  by_cases h : a = c + d
  · subst h
    rw [if_pos rfl, if_pos ⟨by omega, by omega⟩, show c + d - c = d by omega, he]
  · rw [if_neg h]
    by_cases h2 : c ≤ a ∧ a < c + 1124
    · rw [if_pos h2, if_pos h2, ho (a - c) (by omega) (by omega)]
    · rw [if_neg h2, if_neg h2]
end CL
theorem ncell_cg {c : Nat} {s s' : cS} {i k : Nat} (hk : k < 17) (h : s'.1 i k = s.1 i k) : ncell c s' i k = ncell c s i k := by
  match k, hk, h with
  | 0, _, h => simp only [ncell, on_0, h]
  | 1, _, _ => rfl
  | 2, _, h => simp only [ncell, h]
  | 3, _, h => simp only [ncell, h]
  | 4, _, h => simp only [ncell, h]
  | 5, _, _ => rfl
  | 6, _, h => simp only [ncell, h]
  | 7, _, h => simp only [ncell, h]
  | 8, _, _ => rfl
  | 9, _, h => simp only [ncell, h]
  | 10, _, h => simp only [ncell, h]
  | 11, _, h => simp only [ncell, h]
  | 12, _, h => simp only [ncell, on_12, h]
  | 13, _, _ => rfl
  | 14, _, h => simp only [ncell, h]
  | 15, _, h => simp only [ncell, h]
  | 16, _, h => simp only [ncell, h]
  | q + 17, hk, _ => omega
theorem mcell_cg {c : Nat} {s s' : cS} {m k : Nat} (hk : k < 8) (h : s'.2.1 m k = s.2.1 m k) : mcell c s' m k = mcell c s m k := by
  match k, hk, h with
  | 0, _, h => simp only [mcell, om_0, h]
  | 1, _, _ => rfl
  | 2, _, h => simp only [mcell, h]
  | 3, _, h => simp only [mcell, h]
  | 4, _, _ => rfl
  | 5, _, h => simp only [mcell, h]
  | 6, _, h => simp only [mcell, h]
  | 7, _, h => simp only [mcell, h]
  | q + 8, hk, _ => omega
section CL2
variable {c : Nat} {g : xH} {s : cS} {v : Int32} {j i m : Nat}
theorem cl_un {s' : cS} {k : Nat} {e : xE} (hi : i < 8) (hk : k < 17) (he : ncell c s' i k = e) (hn : ∀ a b, ¬ (a = i ∧ b = k) → s'.1 a b = s.1 a b) (h2 : s'.2 = s.2) : xu (cl c g s) (na c i + k) e = cl c g s' := by
  rw [show na c i + k = c + (988 + 17 * i + k) by unfold na; omega]
  refine cl_upd (by omega) ?_ ?_
  · unfold ccell
    rw [if_neg (by omega), if_neg (by omega), show (988 + 17 * i + k - 988) / 17 = i by omega, show (988 + 17 * i + k - 988) % 17 = k by omega, he]
  · intro d hd hne
    unfold ccell
    by_cases h4 : d < 4
    · rw [if_pos h4, if_pos h4]
      unfold gcell og_0 og_2
      rw [h2]
    · rw [if_neg h4, if_neg h4]
      by_cases h9 : d < 988
      · rw [if_pos h9, if_pos h9]
        unfold mcell om_0 om_1 om_4
        rw [h2]
      · rw [if_neg h9, if_neg h9]
        exact ncell_cg (by omega) (hn _ _ (by rintro ⟨z1, z2⟩; omega))
theorem cl_um {s' : cS} {k : Nat} {e : xE} (hm : m < 123) (hk : k < 8) (he : mcell c s' m k = e) (hn : ∀ a b, ¬ (a = m ∧ b = k) → s'.2.1 a b = s.2.1 a b) (h1 : s'.1 = s.1) (h2 : s'.2.2 = s.2.2) : xu (cl c g s) (ma c m + k) e = cl c g s' := by
  rw [show ma c m + k = c + (4 + 8 * m + k) by unfold ma; omega]
  refine cl_upd (by omega) ?_ ?_
  · unfold ccell
    rw [if_neg (by omega), if_pos (by omega), show (4 + 8 * m + k - 4) / 8 = m by omega, show (4 + 8 * m + k - 4) % 8 = k by omega, he]
  · intro d hd hne
    unfold ccell
    by_cases h4 : d < 4
    · rw [if_pos h4, if_pos h4]
      unfold gcell og_0 og_2
      rw [h2]
    · rw [if_neg h4, if_neg h4]
      by_cases h9 : d < 988
      · rw [if_pos h9, if_pos h9]
        exact mcell_cg (by omega) (hn _ _ (by rintro ⟨z1, z2⟩; omega))
      · rw [if_neg h9, if_neg h9]
        unfold ncell on_0 on_1 on_5 on_8 on_12 on_13
        rw [h1]
theorem cn_0 (hi : i < 8) : (cl c g s).2 (na c i) = some (.inr (4, (on_0 c s i))) := cl_n (k := 0) hi (by decide)
theorem cn_1 (hi : i < 8) : (cl c g s).2 (na c i + 1) = some (.inr (1, (on_1 c s i))) := cl_n (k := 1) hi (by decide)
theorem cn_2 (hi : i < 8) : (cl c g s).2 (na c i + 2) = some (.inl (0, .inl (rAr 4 (s.1 i 2)))) := cl_n (k := 2) hi (by decide)
theorem un_2 {f : Nat → Int32} (hi : i < 8) : xu (cl c g s) (na c i + 2) (.inl (0, .inl (rAr 4 f))) = cl c g (sNF s i 2 f) := cl_un (k := 2) hi (by decide) (by show Sum.inl (0, Sum.inl (rAr 4 (upF s.1 i 2 f i 2))) = _; rw [upF_eq]) (fun a b h => upF_ne h) rfl
theorem cn_3 (hi : i < 8) : (cl c g s).2 (na c i + 3) = some (.inl (0, .inl (rAr 4 (s.1 i 3)))) := cl_n (k := 3) hi (by decide)
theorem un_3 {f : Nat → Int32} (hi : i < 8) : xu (cl c g s) (na c i + 3) (.inl (0, .inl (rAr 4 f))) = cl c g (sNF s i 3 f) := cl_un (k := 3) hi (by decide) (by show Sum.inl (0, Sum.inl (rAr 4 (upF s.1 i 3 f i 3))) = _; rw [upF_eq]) (fun a b h => upF_ne h) rfl
theorem cn_4 (hi : i < 8) : (cl c g s).2 (na c i + 4) = some (.inl (0, .inl (rAr 4 (s.1 i 4)))) := cl_n (k := 4) hi (by decide)
theorem un_4 {f : Nat → Int32} (hi : i < 8) : xu (cl c g s) (na c i + 4) (.inl (0, .inl (rAr 4 f))) = cl c g (sNF s i 4 f) := cl_un (k := 4) hi (by decide) (by show Sum.inl (0, Sum.inl (rAr 4 (upF s.1 i 4 f i 4))) = _; rw [upF_eq]) (fun a b h => upF_ne h) rfl
theorem cn_5 (hi : i < 8) : (cl c g s).2 (na c i + 5) = some (.inr (5, (on_5 c s i))) := cl_n (k := 5) hi (by decide)
theorem cn_6 (hi : i < 8) : (cl c g s).2 (na c i + 6) = some (.inl (0, .inl (rAr 16 (s.1 i 6)))) := cl_n (k := 6) hi (by decide)
theorem un_6 {f : Nat → Int32} (hi : i < 8) : xu (cl c g s) (na c i + 6) (.inl (0, .inl (rAr 16 f))) = cl c g (sNF s i 6 f) := cl_un (k := 6) hi (by decide) (by show Sum.inl (0, Sum.inl (rAr 16 (upF s.1 i 6 f i 6))) = _; rw [upF_eq]) (fun a b h => upF_ne h) rfl
theorem cn_7 (hi : i < 8) : (cl c g s).2 (na c i + 7) = some (.inl (0, .inl (rAr 16 (s.1 i 7)))) := cl_n (k := 7) hi (by decide)
theorem un_7 {f : Nat → Int32} (hi : i < 8) : xu (cl c g s) (na c i + 7) (.inl (0, .inl (rAr 16 f))) = cl c g (sNF s i 7 f) := cl_un (k := 7) hi (by decide) (by show Sum.inl (0, Sum.inl (rAr 16 (upF s.1 i 7 f i 7))) = _; rw [upF_eq]) (fun a b h => upF_ne h) rfl
theorem cn_8 (hi : i < 8) : (cl c g s).2 (na c i + 8) = some (.inr (7, (on_8 c s i))) := cl_n (k := 8) hi (by decide)
theorem cn_9 (hi : i < 8) : (cl c g s).2 (na c i + 9) = some (.inl (0, .inl (rAr 16 (s.1 i 9)))) := cl_n (k := 9) hi (by decide)
theorem un_9 {f : Nat → Int32} (hi : i < 8) : xu (cl c g s) (na c i + 9) (.inl (0, .inl (rAr 16 f))) = cl c g (sNF s i 9 f) := cl_un (k := 9) hi (by decide) (by show Sum.inl (0, Sum.inl (rAr 16 (upF s.1 i 9 f i 9))) = _; rw [upF_eq]) (fun a b h => upF_ne h) rfl
theorem cn_10 (hi : i < 8) : (cl c g s).2 (na c i + 10) = some (.inl (0, .inl (rAr 16 (s.1 i 10)))) := cl_n (k := 10) hi (by decide)
theorem un_10 {f : Nat → Int32} (hi : i < 8) : xu (cl c g s) (na c i + 10) (.inl (0, .inl (rAr 16 f))) = cl c g (sNF s i 10 f) := cl_un (k := 10) hi (by decide) (by show Sum.inl (0, Sum.inl (rAr 16 (upF s.1 i 10 f i 10))) = _; rw [upF_eq]) (fun a b h => upF_ne h) rfl
theorem cn_11 (hi : i < 8) : (cl c g s).2 (na c i + 11) = some (.inl (0, .inl (rAr 16 (s.1 i 11)))) := cl_n (k := 11) hi (by decide)
theorem un_11 {f : Nat → Int32} (hi : i < 8) : xu (cl c g s) (na c i + 11) (.inl (0, .inl (rAr 16 f))) = cl c g (sNF s i 11 f) := cl_un (k := 11) hi (by decide) (by show Sum.inl (0, Sum.inl (rAr 16 (upF s.1 i 11 f i 11))) = _; rw [upF_eq]) (fun a b h => upF_ne h) rfl
theorem cn_12 (hi : i < 8) : (cl c g s).2 (na c i + 12) = some (.inr (6, (on_12 c s i))) := cl_n (k := 12) hi (by decide)
theorem cn_13 (hi : i < 8) : (cl c g s).2 (na c i + 13) = some (.inr (1, (on_13 c s i))) := cl_n (k := 13) hi (by decide)
theorem cn_14 (hi : i < 8) : (cl c g s).2 (na c i + 14) = some (.inl (0, .inl (rAr 4 (s.1 i 14)))) := cl_n (k := 14) hi (by decide)
theorem un_14 {f : Nat → Int32} (hi : i < 8) : xu (cl c g s) (na c i + 14) (.inl (0, .inl (rAr 4 f))) = cl c g (sNF s i 14 f) := cl_un (k := 14) hi (by decide) (by show Sum.inl (0, Sum.inl (rAr 4 (upF s.1 i 14 f i 14))) = _; rw [upF_eq]) (fun a b h => upF_ne h) rfl
theorem cn_15 (hi : i < 8) : (cl c g s).2 (na c i + 15) = some (.inl (0, .inl (rAr 4 (s.1 i 15)))) := cl_n (k := 15) hi (by decide)
theorem un_15 {f : Nat → Int32} (hi : i < 8) : xu (cl c g s) (na c i + 15) (.inl (0, .inl (rAr 4 f))) = cl c g (sNF s i 15 f) := cl_un (k := 15) hi (by decide) (by show Sum.inl (0, Sum.inl (rAr 4 (upF s.1 i 15 f i 15))) = _; rw [upF_eq]) (fun a b h => upF_ne h) rfl
theorem cn_16 (hi : i < 8) : (cl c g s).2 (na c i + 16) = some (.inl (0, .inl (rAr 4 (s.1 i 16)))) := cl_n (k := 16) hi (by decide)
theorem un_16 {f : Nat → Int32} (hi : i < 8) : xu (cl c g s) (na c i + 16) (.inl (0, .inl (rAr 4 f))) = cl c g (sNF s i 16 f) := cl_un (k := 16) hi (by decide) (by show Sum.inl (0, Sum.inl (rAr 4 (upF s.1 i 16 f i 16))) = _; rw [upF_eq]) (fun a b h => upF_ne h) rfl
theorem cm_0 (hm : m < 123) : (cl c g s).2 (ma c m) = some (.inr (3, (om_0 c s m))) := cl_m (k := 0) hm (by decide)
theorem cm_1 (hm : m < 123) : (cl c g s).2 (ma c m + 1) = some (.inr (5, (om_1 c s m))) := cl_m (k := 1) hm (by decide)
theorem cm_2 (hm : m < 123) : (cl c g s).2 (ma c m + 2) = some (.inl (0, .inl (rAr 16 (s.2.1 m 2)))) := cl_m (k := 2) hm (by decide)
theorem um_2 {f : Nat → Int32} (hm : m < 123) : xu (cl c g s) (ma c m + 2) (.inl (0, .inl (rAr 16 f))) = cl c g (sMF s m 2 f) := cl_um (k := 2) hm (by decide) (by show Sum.inl (0, Sum.inl (rAr 16 (upF s.2.1 m 2 f m 2))) = _; rw [upF_eq]) (fun a b h => upF_ne h) rfl rfl
theorem cm_3 (hm : m < 123) : (cl c g s).2 (ma c m + 3) = some (.inl (0, .inl (rAr 16 (s.2.1 m 3)))) := cl_m (k := 3) hm (by decide)
theorem um_3 {f : Nat → Int32} (hm : m < 123) : xu (cl c g s) (ma c m + 3) (.inl (0, .inl (rAr 16 f))) = cl c g (sMF s m 3 f) := cl_um (k := 3) hm (by decide) (by show Sum.inl (0, Sum.inl (rAr 16 (upF s.2.1 m 3 f m 3))) = _; rw [upF_eq]) (fun a b h => upF_ne h) rfl rfl
theorem cm_4 (hm : m < 123) : (cl c g s).2 (ma c m + 4) = some (.inr (1, (om_4 c s m))) := cl_m (k := 4) hm (by decide)
theorem cm_5 (hm : m < 123) : (cl c g s).2 (ma c m + 5) = some (.inl (0, .inl (rAr 4 (s.2.1 m 5)))) := cl_m (k := 5) hm (by decide)
theorem um_5 {f : Nat → Int32} (hm : m < 123) : xu (cl c g s) (ma c m + 5) (.inl (0, .inl (rAr 4 f))) = cl c g (sMF s m 5 f) := cl_um (k := 5) hm (by decide) (by show Sum.inl (0, Sum.inl (rAr 4 (upF s.2.1 m 5 f m 5))) = _; rw [upF_eq]) (fun a b h => upF_ne h) rfl rfl
theorem cm_6 (hm : m < 123) : (cl c g s).2 (ma c m + 6) = some (.inl (0, .inl (rAr 4 (s.2.1 m 6)))) := cl_m (k := 6) hm (by decide)
theorem um_6 {f : Nat → Int32} (hm : m < 123) : xu (cl c g s) (ma c m + 6) (.inl (0, .inl (rAr 4 f))) = cl c g (sMF s m 6 f) := cl_um (k := 6) hm (by decide) (by show Sum.inl (0, Sum.inl (rAr 4 (upF s.2.1 m 6 f m 6))) = _; rw [upF_eq]) (fun a b h => upF_ne h) rfl rfl
theorem cm_7 (hm : m < 123) : (cl c g s).2 (ma c m + 7) = some (.inl (0, .inl (rAr 4 (s.2.1 m 7)))) := cl_m (k := 7) hm (by decide)
theorem um_7 {f : Nat → Int32} (hm : m < 123) : xu (cl c g s) (ma c m + 7) (.inl (0, .inl (rAr 4 f))) = cl c g (sMF s m 7 f) := cl_um (k := 7) hm (by decide) (by show Sum.inl (0, Sum.inl (rAr 4 (upF s.2.1 m 7 f m 7))) = _; rw [upF_eq]) (fun a b h => upF_ne h) rfl rfl
theorem cg_0 : (cl c g s).2 (c) = some (.inr (0, og_0 c s)) := cl_at (d := 0) (by decide)
theorem cg_1 : (cl c g s).2 (c + 1) = some (.inl (1, .inr ((List.range 8).map (fun i => some (na c i))))) := cl_at (d := 1) (by decide)
theorem cg_2 : (cl c g s).2 (c + 2) = some (.inr (2, og_2 c s)) := cl_at (d := 2) (by decide)
theorem cg_3 : (cl c g s).2 (c + 3) = some (.inl (2, .inr ((List.range 120).map (fun x => some (ma c (s.2.2.2.1 x)))))) := cl_at (d := 3) (by decide)
theorem on_0_len : (on_0 c s i).length = 11 := rfl
theorem on_0_0 : (on_0 c s i)[0]? = some (.int (s.1 i 0 0)) := rfl
theorem on_0_1 : (on_0 c s i)[1]? = some (.int (s.1 i 0 1)) := rfl
theorem on_0_2 : (on_0 c s i)[2]? = some (.int (s.1 i 0 2)) := rfl
theorem on_0_3 : (on_0 c s i)[3]? = some (.int (s.1 i 0 3)) := rfl
theorem on_0_4 : (on_0 c s i)[4]? = some (.int (s.1 i 0 4)) := rfl
theorem on_0_5 : (on_0 c s i)[5]? = some (.int (s.1 i 0 5)) := rfl
theorem on_0_6 : (on_0 c s i)[6]? = some (.int (s.1 i 0 6)) := rfl
theorem on_0_7 : (on_0 c s i)[7]? = some (.ref (na c i + 1)) := rfl
theorem on_0_8 : (on_0 c s i)[8]? = some (.ref (na c i + 5)) := rfl
theorem on_0_9 : (on_0 c s i)[9]? = some (.ref (na c i + 8)) := rfl
theorem on_0_10 : (on_0 c s i)[10]? = some (.ref (na c i + 12)) := rfl
theorem un_0_0 (hi : i < 8) : xu (cl c g s) (na c i) (.inr (4, (on_0 c s i).set 0 (.int v))) = cl c g (sN s i 0 0 v) := cl_un (k := 0) hi (by decide) (by show Sum.inr (4, on_0 c (sN s i 0 0 v) i) = _; simp [on_0, sN, sNF, upF, up1]) (fun a b h => upF_ne h) rfl
theorem un_0_1 (hi : i < 8) : xu (cl c g s) (na c i) (.inr (4, (on_0 c s i).set 1 (.int v))) = cl c g (sN s i 0 1 v) := cl_un (k := 0) hi (by decide) (by show Sum.inr (4, on_0 c (sN s i 0 1 v) i) = _; simp [on_0, sN, sNF, upF, up1]) (fun a b h => upF_ne h) rfl
theorem un_0_2 (hi : i < 8) : xu (cl c g s) (na c i) (.inr (4, (on_0 c s i).set 2 (.int v))) = cl c g (sN s i 0 2 v) := cl_un (k := 0) hi (by decide) (by show Sum.inr (4, on_0 c (sN s i 0 2 v) i) = _; simp [on_0, sN, sNF, upF, up1]) (fun a b h => upF_ne h) rfl
theorem un_0_3 (hi : i < 8) : xu (cl c g s) (na c i) (.inr (4, (on_0 c s i).set 3 (.int v))) = cl c g (sN s i 0 3 v) := cl_un (k := 0) hi (by decide) (by show Sum.inr (4, on_0 c (sN s i 0 3 v) i) = _; simp [on_0, sN, sNF, upF, up1]) (fun a b h => upF_ne h) rfl
theorem un_0_4 (hi : i < 8) : xu (cl c g s) (na c i) (.inr (4, (on_0 c s i).set 4 (.int v))) = cl c g (sN s i 0 4 v) := cl_un (k := 0) hi (by decide) (by show Sum.inr (4, on_0 c (sN s i 0 4 v) i) = _; simp [on_0, sN, sNF, upF, up1]) (fun a b h => upF_ne h) rfl
theorem un_0_5 (hi : i < 8) : xu (cl c g s) (na c i) (.inr (4, (on_0 c s i).set 5 (.int v))) = cl c g (sN s i 0 5 v) := cl_un (k := 0) hi (by decide) (by show Sum.inr (4, on_0 c (sN s i 0 5 v) i) = _; simp [on_0, sN, sNF, upF, up1]) (fun a b h => upF_ne h) rfl
theorem un_0_6 (hi : i < 8) : xu (cl c g s) (na c i) (.inr (4, (on_0 c s i).set 6 (.int v))) = cl c g (sN s i 0 6 v) := cl_un (k := 0) hi (by decide) (by show Sum.inr (4, on_0 c (sN s i 0 6 v) i) = _; simp [on_0, sN, sNF, upF, up1]) (fun a b h => upF_ne h) rfl
theorem on_1_len : (on_1 c s i).length = 3 := rfl
theorem on_1_0 : (on_1 c s i)[0]? = some (.ref (na c i + 2)) := rfl
theorem on_1_1 : (on_1 c s i)[1]? = some (.ref (na c i + 3)) := rfl
theorem on_1_2 : (on_1 c s i)[2]? = some (.ref (na c i + 4)) := rfl
theorem on_5_len : (on_5 c s i).length = 2 := rfl
theorem on_5_0 : (on_5 c s i)[0]? = some (.ref (na c i + 6)) := rfl
theorem on_5_1 : (on_5 c s i)[1]? = some (.ref (na c i + 7)) := rfl
theorem on_8_len : (on_8 c s i).length = 3 := rfl
theorem on_8_0 : (on_8 c s i)[0]? = some (.ref (na c i + 9)) := rfl
theorem on_8_1 : (on_8 c s i)[1]? = some (.ref (na c i + 10)) := rfl
theorem on_8_2 : (on_8 c s i)[2]? = some (.ref (na c i + 11)) := rfl
theorem on_12_len : (on_12 c s i).length = 14 := rfl
theorem on_12_0 : (on_12 c s i)[0]? = some (.int (s.1 i 12 0)) := rfl
theorem on_12_1 : (on_12 c s i)[1]? = some (.int (s.1 i 12 1)) := rfl
theorem on_12_2 : (on_12 c s i)[2]? = some (.int (s.1 i 12 2)) := rfl
theorem on_12_3 : (on_12 c s i)[3]? = some (.int (s.1 i 12 3)) := rfl
theorem on_12_4 : (on_12 c s i)[4]? = some (.int (s.1 i 12 4)) := rfl
theorem on_12_5 : (on_12 c s i)[5]? = some (.int (s.1 i 12 5)) := rfl
theorem on_12_6 : (on_12 c s i)[6]? = some (.int (s.1 i 12 6)) := rfl
theorem on_12_7 : (on_12 c s i)[7]? = some (.int (s.1 i 12 7)) := rfl
theorem on_12_8 : (on_12 c s i)[8]? = some (.int (s.1 i 12 8)) := rfl
theorem on_12_9 : (on_12 c s i)[9]? = some (.int (s.1 i 12 9)) := rfl
theorem on_12_10 : (on_12 c s i)[10]? = some (.int (s.1 i 12 10)) := rfl
theorem on_12_11 : (on_12 c s i)[11]? = some (.int (s.1 i 12 11)) := rfl
theorem on_12_12 : (on_12 c s i)[12]? = some (.int (s.1 i 12 12)) := rfl
theorem on_12_13 : (on_12 c s i)[13]? = some (.ref (na c i + 13)) := rfl
theorem un_12_0 (hi : i < 8) : xu (cl c g s) (na c i + 12) (.inr (6, (on_12 c s i).set 0 (.int v))) = cl c g (sN s i 12 0 v) := cl_un (k := 12) hi (by decide) (by show Sum.inr (6, on_12 c (sN s i 12 0 v) i) = _; simp [on_12, sN, sNF, upF, up1]) (fun a b h => upF_ne h) rfl
theorem un_12_1 (hi : i < 8) : xu (cl c g s) (na c i + 12) (.inr (6, (on_12 c s i).set 1 (.int v))) = cl c g (sN s i 12 1 v) := cl_un (k := 12) hi (by decide) (by show Sum.inr (6, on_12 c (sN s i 12 1 v) i) = _; simp [on_12, sN, sNF, upF, up1]) (fun a b h => upF_ne h) rfl
theorem un_12_2 (hi : i < 8) : xu (cl c g s) (na c i + 12) (.inr (6, (on_12 c s i).set 2 (.int v))) = cl c g (sN s i 12 2 v) := cl_un (k := 12) hi (by decide) (by show Sum.inr (6, on_12 c (sN s i 12 2 v) i) = _; simp [on_12, sN, sNF, upF, up1]) (fun a b h => upF_ne h) rfl
theorem un_12_3 (hi : i < 8) : xu (cl c g s) (na c i + 12) (.inr (6, (on_12 c s i).set 3 (.int v))) = cl c g (sN s i 12 3 v) := cl_un (k := 12) hi (by decide) (by show Sum.inr (6, on_12 c (sN s i 12 3 v) i) = _; simp [on_12, sN, sNF, upF, up1]) (fun a b h => upF_ne h) rfl
theorem un_12_4 (hi : i < 8) : xu (cl c g s) (na c i + 12) (.inr (6, (on_12 c s i).set 4 (.int v))) = cl c g (sN s i 12 4 v) := cl_un (k := 12) hi (by decide) (by show Sum.inr (6, on_12 c (sN s i 12 4 v) i) = _; simp [on_12, sN, sNF, upF, up1]) (fun a b h => upF_ne h) rfl
theorem un_12_5 (hi : i < 8) : xu (cl c g s) (na c i + 12) (.inr (6, (on_12 c s i).set 5 (.int v))) = cl c g (sN s i 12 5 v) := cl_un (k := 12) hi (by decide) (by show Sum.inr (6, on_12 c (sN s i 12 5 v) i) = _; simp [on_12, sN, sNF, upF, up1]) (fun a b h => upF_ne h) rfl
theorem un_12_6 (hi : i < 8) : xu (cl c g s) (na c i + 12) (.inr (6, (on_12 c s i).set 6 (.int v))) = cl c g (sN s i 12 6 v) := cl_un (k := 12) hi (by decide) (by show Sum.inr (6, on_12 c (sN s i 12 6 v) i) = _; simp [on_12, sN, sNF, upF, up1]) (fun a b h => upF_ne h) rfl
theorem un_12_7 (hi : i < 8) : xu (cl c g s) (na c i + 12) (.inr (6, (on_12 c s i).set 7 (.int v))) = cl c g (sN s i 12 7 v) := cl_un (k := 12) hi (by decide) (by show Sum.inr (6, on_12 c (sN s i 12 7 v) i) = _; simp [on_12, sN, sNF, upF, up1]) (fun a b h => upF_ne h) rfl
theorem un_12_8 (hi : i < 8) : xu (cl c g s) (na c i + 12) (.inr (6, (on_12 c s i).set 8 (.int v))) = cl c g (sN s i 12 8 v) := cl_un (k := 12) hi (by decide) (by show Sum.inr (6, on_12 c (sN s i 12 8 v) i) = _; simp [on_12, sN, sNF, upF, up1]) (fun a b h => upF_ne h) rfl
theorem un_12_9 (hi : i < 8) : xu (cl c g s) (na c i + 12) (.inr (6, (on_12 c s i).set 9 (.int v))) = cl c g (sN s i 12 9 v) := cl_un (k := 12) hi (by decide) (by show Sum.inr (6, on_12 c (sN s i 12 9 v) i) = _; simp [on_12, sN, sNF, upF, up1]) (fun a b h => upF_ne h) rfl
theorem un_12_10 (hi : i < 8) : xu (cl c g s) (na c i + 12) (.inr (6, (on_12 c s i).set 10 (.int v))) = cl c g (sN s i 12 10 v) := cl_un (k := 12) hi (by decide) (by show Sum.inr (6, on_12 c (sN s i 12 10 v) i) = _; simp [on_12, sN, sNF, upF, up1]) (fun a b h => upF_ne h) rfl
theorem un_12_11 (hi : i < 8) : xu (cl c g s) (na c i + 12) (.inr (6, (on_12 c s i).set 11 (.int v))) = cl c g (sN s i 12 11 v) := cl_un (k := 12) hi (by decide) (by show Sum.inr (6, on_12 c (sN s i 12 11 v) i) = _; simp [on_12, sN, sNF, upF, up1]) (fun a b h => upF_ne h) rfl
theorem un_12_12 (hi : i < 8) : xu (cl c g s) (na c i + 12) (.inr (6, (on_12 c s i).set 12 (.int v))) = cl c g (sN s i 12 12 v) := cl_un (k := 12) hi (by decide) (by show Sum.inr (6, on_12 c (sN s i 12 12 v) i) = _; simp [on_12, sN, sNF, upF, up1]) (fun a b h => upF_ne h) rfl
theorem on_13_len : (on_13 c s i).length = 3 := rfl
theorem on_13_0 : (on_13 c s i)[0]? = some (.ref (na c i + 14)) := rfl
theorem on_13_1 : (on_13 c s i)[1]? = some (.ref (na c i + 15)) := rfl
theorem on_13_2 : (on_13 c s i)[2]? = some (.ref (na c i + 16)) := rfl
theorem om_0_len : (om_0 c s m).length = 10 := rfl
theorem om_0_0 : (om_0 c s m)[0]? = some (.int (s.2.1 m 0 0)) := rfl
theorem om_0_1 : (om_0 c s m)[1]? = some (.int (s.2.1 m 0 1)) := rfl
theorem om_0_2 : (om_0 c s m)[2]? = some (.int (s.2.1 m 0 2)) := rfl
theorem om_0_3 : (om_0 c s m)[3]? = some (.int (s.2.1 m 0 3)) := rfl
theorem om_0_4 : (om_0 c s m)[4]? = some (.int (s.2.1 m 0 4)) := rfl
theorem om_0_5 : (om_0 c s m)[5]? = some (.int (s.2.1 m 0 5)) := rfl
theorem om_0_6 : (om_0 c s m)[6]? = some (.int (s.2.1 m 0 6)) := rfl
theorem om_0_7 : (om_0 c s m)[7]? = some (.int (s.2.1 m 0 7)) := rfl
theorem om_0_8 : (om_0 c s m)[8]? = some (.ref (ma c m + 1)) := rfl
theorem om_0_9 : (om_0 c s m)[9]? = some (.ref (ma c m + 4)) := rfl
theorem um_0_0 (hm : m < 123) : xu (cl c g s) (ma c m) (.inr (3, (om_0 c s m).set 0 (.int v))) = cl c g (sM s m 0 0 v) := cl_um (k := 0) hm (by decide) (by show Sum.inr (3, om_0 c (sM s m 0 0 v) m) = _; simp [om_0, sM, sMF, upF, up1]) (fun a b h => upF_ne h) rfl rfl
theorem um_0_1 (hm : m < 123) : xu (cl c g s) (ma c m) (.inr (3, (om_0 c s m).set 1 (.int v))) = cl c g (sM s m 0 1 v) := cl_um (k := 0) hm (by decide) (by show Sum.inr (3, om_0 c (sM s m 0 1 v) m) = _; simp [om_0, sM, sMF, upF, up1]) (fun a b h => upF_ne h) rfl rfl
theorem um_0_2 (hm : m < 123) : xu (cl c g s) (ma c m) (.inr (3, (om_0 c s m).set 2 (.int v))) = cl c g (sM s m 0 2 v) := cl_um (k := 0) hm (by decide) (by show Sum.inr (3, om_0 c (sM s m 0 2 v) m) = _; simp [om_0, sM, sMF, upF, up1]) (fun a b h => upF_ne h) rfl rfl
theorem um_0_3 (hm : m < 123) : xu (cl c g s) (ma c m) (.inr (3, (om_0 c s m).set 3 (.int v))) = cl c g (sM s m 0 3 v) := cl_um (k := 0) hm (by decide) (by show Sum.inr (3, om_0 c (sM s m 0 3 v) m) = _; simp [om_0, sM, sMF, upF, up1]) (fun a b h => upF_ne h) rfl rfl
theorem um_0_4 (hm : m < 123) : xu (cl c g s) (ma c m) (.inr (3, (om_0 c s m).set 4 (.int v))) = cl c g (sM s m 0 4 v) := cl_um (k := 0) hm (by decide) (by show Sum.inr (3, om_0 c (sM s m 0 4 v) m) = _; simp [om_0, sM, sMF, upF, up1]) (fun a b h => upF_ne h) rfl rfl
theorem um_0_5 (hm : m < 123) : xu (cl c g s) (ma c m) (.inr (3, (om_0 c s m).set 5 (.int v))) = cl c g (sM s m 0 5 v) := cl_um (k := 0) hm (by decide) (by show Sum.inr (3, om_0 c (sM s m 0 5 v) m) = _; simp [om_0, sM, sMF, upF, up1]) (fun a b h => upF_ne h) rfl rfl
theorem um_0_6 (hm : m < 123) : xu (cl c g s) (ma c m) (.inr (3, (om_0 c s m).set 6 (.int v))) = cl c g (sM s m 0 6 v) := cl_um (k := 0) hm (by decide) (by show Sum.inr (3, om_0 c (sM s m 0 6 v) m) = _; simp [om_0, sM, sMF, upF, up1]) (fun a b h => upF_ne h) rfl rfl
theorem um_0_7 (hm : m < 123) : xu (cl c g s) (ma c m) (.inr (3, (om_0 c s m).set 7 (.int v))) = cl c g (sM s m 0 7 v) := cl_um (k := 0) hm (by decide) (by show Sum.inr (3, om_0 c (sM s m 0 7 v) m) = _; simp [om_0, sM, sMF, upF, up1]) (fun a b h => upF_ne h) rfl rfl
theorem om_1_len : (om_1 c s m).length = 2 := rfl
theorem om_1_0 : (om_1 c s m)[0]? = some (.ref (ma c m + 2)) := rfl
theorem om_1_1 : (om_1 c s m)[1]? = some (.ref (ma c m + 3)) := rfl
theorem om_4_len : (om_4 c s m).length = 3 := rfl
theorem om_4_0 : (om_4 c s m)[0]? = some (.ref (ma c m + 5)) := rfl
theorem om_4_1 : (om_4 c s m)[1]? = some (.ref (ma c m + 6)) := rfl
theorem om_4_2 : (om_4 c s m)[2]? = some (.ref (ma c m + 7)) := rfl
theorem og_0_0 : (og_0 c s)[0]? = some (.ref (c + 1)) := rfl
theorem og_0_1 : (og_0 c s)[1]? = some (.ref (c + 2)) := rfl
theorem og_0_2 : (og_0 c s)[2]? = some (.ref (ma c 121)) := rfl
theorem og_0_3 : (og_0 c s)[3]? = some (.ref (ma c 122)) := rfl
theorem og_0_4 : (og_0 c s)[4]? = some (.int (s.2.2.1 0)) := rfl
theorem og_2_0 : (og_2 c s)[0]? = some (.ref (c + 3)) := rfl
theorem og_2_1 : (og_2 c s)[1]? = some (.ref (ma c s.2.2.2.2)) := rfl
theorem og_2_2 : (og_2 c s)[2]? = some (.int (s.2.2.1 1)) := rfl
theorem og_2_3 : (og_2 c s)[3]? = some (.int (s.2.2.1 2)) := rfl
theorem og_0_len : (og_0 c s).length = 5 := rfl
theorem og_2_len : (og_2 c s).length = 4 := rfl
end CL2
