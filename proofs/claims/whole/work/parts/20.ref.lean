/-! the reference's heap: 31 arrays behind one object -/
abbrev rS : Type := (Nat → Nat → Int32) × (Nat → Int32)
def rAr (n : Nat) (f : Nat → Int32) : List Int32 := (List.range n).map f
theorem rAr_get {n j : Nat} (f : Nat → Int32) (h : j < n) : (rAr n f)[j]? = some (f j) := by simp [rAr, h]
theorem rAr_len (n : Nat) (f : Nat → Int32) : (rAr n f).length = n := by simp [rAr]
def up1 (f : Nat → Int32) (j : Nat) (v : Int32) : Nat → Int32 := fun i => if i = j then v else f i
theorem up1_eq (f : Nat → Int32) (j : Nat) (v : Int32) : up1 f j v j = v := by simp [up1]
theorem up1_ne {f : Nat → Int32} {i j : Nat} {v : Int32} (h : i ≠ j) : up1 f j v i = f i := by simp [up1, h]
theorem rAr_set (n j : Nat) (f : Nat → Int32) (v : Int32) : (rAr n f).set j v = rAr n (up1 f j v) := by
  apply List.ext_getElem
  · simp [rAr]
  · intro i h1 h2
    rw [List.getElem_set]
    by_cases h : j = i
    · subst h
      simp [rAr, up1]
    · rw [if_neg h]
      simp [rAr, up1, Ne.symm h]
def robj (r : Nat) (t : rS) : List Value := [.int (t.2 0), .ref (r + 1), .ref (r + 2), .ref (r + 3), .ref (r + 4), .ref (r + 5), .ref (r + 6), .ref (r + 7), .ref (r + 8), .ref (r + 9), .ref (r + 10), .ref (r + 11), .ref (r + 12), .ref (r + 13), .int (t.2 1), .ref (r + 14), .ref (r + 15), .ref (r + 16), .ref (r + 17), .ref (r + 18), .ref (r + 19), .ref (r + 20), .ref (r + 21), .ref (r + 22), .ref (r + 23), .ref (r + 24), .ref (r + 25), .ref (r + 26), .ref (r + 27), .ref (r + 28), .ref (r + 29), .int (t.2 2), .ref (r + 30), .int (t.2 3), .int (t.2 4), .ref (r + 31)]
def rlen (k : Nat) : Nat := if k ≤ 5 then 8 else if k ≤ 8 then 32 else if k ≤ 13 then 128 else if k ≤ 26 then 8 else if k ≤ 29 then 32 else if k = 30 then 6360 else 53
def rc (r : Nat) (t : rS) (k : Nat) : xE := if k = 0 then .inr (8, robj r t) else .inl (0, .inl (rAr (rlen k) (t.1 k)))
def rl (r : Nat) (g : xH) (t : rS) : xH := (g.1, fun a => if r ≤ a ∧ a ≤ r + 31 then some (rc r t (a - r)) else g.2 a)
/-- an array replaced; one element of it -/
def sF (t : rS) (k : Nat) (f : Nat → Int32) : rS := (fun i => if i = k then f else t.1 i, t.2)
def sA (t : rS) (k j : Nat) (v : Int32) : rS := sF t k (up1 (t.1 k) j v)
def sG (t : rS) (i : Nat) (v : Int32) : rS := (t.1, up1 t.2 i v)
theorem sF_eq (t : rS) (k : Nat) (f : Nat → Int32) : (sF t k f).1 k = f := by simp [sF]
theorem sF_ne {t : rS} {k i : Nat} {f : Nat → Int32} (h : i ≠ k) : (sF t k f).1 i = t.1 i := by simp [sF, h]
theorem sF_2 (t : rS) (k : Nat) (f : Nat → Int32) : (sF t k f).2 = t.2 := rfl
theorem sF_sF (t : rS) (k : Nat) (f f' : Nat → Int32) : sF (sF t k f) k f' = sF t k f' := by
  unfold sF
  congr 1
  funext i
  by_cases h : i = k <;> simp [h]
theorem sG_1 (t : rS) (i : Nat) (v : Int32) : (sG t i v).1 = t.1 := rfl
theorem sG_2 (t : rS) (i : Nat) (v : Int32) : (sG t i v).2 = up1 t.2 i v := rfl
section RL
variable {r : Nat} {g : xH} {t : rS} {v : Int32} {j : Nat}
theorem rl_r : (rl r g t).2 r = some (.inr (8, robj r t)) := by simp [rl, rc]
theorem rl_kk {k : Nat} (h0 : 0 < k) (h1 : k ≤ 31) : (rl r g t).2 (r + k) = some (.inl (0, .inl (rAr (rlen k) (t.1 k)))) := by
  have h2 : ¬ k = 0 := by omega
  simp [rl, rc, h1, h2]
theorem rl_upd {t' : rS} {k : Nat} {e : xE} (hk : k ≤ 31) (he : rc r t' k = e) (ho : ∀ i, i ≤ 31 → i ≠ k → rc r t' i = rc r t i) : xu (rl r g t) (r + k) e = rl r g t' := by
  unfold xu rl
  congr 1
  funext a
  show (if a = r + k then some e else if r ≤ a ∧ a ≤ r + 31 then some (rc r t (a - r)) else g.2 a) = _
  by_cases h : a = r + k
  · subst h
    rw [if_pos rfl, if_pos ⟨by omega, by omega⟩, show r + k - r = k by omega, he]
  · rw [if_neg h]
    by_cases h2 : r ≤ a ∧ a ≤ r + 31
    · rw [if_pos h2, if_pos h2, ho (a - r) (by omega) (by omega)]
    · rw [if_neg h2, if_neg h2]
theorem rl_sF {f : Nat → Int32} {k : Nat} (h0 : 0 < k) (h1 : k ≤ 31) : xu (rl r g t) (r + k) (.inl (0, .inl (rAr (rlen k) f))) = rl r g (sF t k f) := by
  refine rl_upd h1 ?_ ?_
  · simp [rc, sF, show ¬ k = 0 by omega]
  · intro i _ hi
    unfold rc
    by_cases h : i = 0
    · simp [h, robj, sF]
    · simp [h, sF, hi]
theorem rl_k1 : (rl r g t).2 (r + 1) = some (.inl (0, .inl (rAr 8 (t.1 1)))) := rl_kk (by decide) (by decide)
theorem rl_s1 {f : Nat → Int32} : xu (rl r g t) (r + 1) (.inl (0, .inl (rAr 8 f))) = rl r g (sF t 1 f) := rl_sF (by decide) (by decide)
theorem rl_k2 : (rl r g t).2 (r + 2) = some (.inl (0, .inl (rAr 8 (t.1 2)))) := rl_kk (by decide) (by decide)
theorem rl_s2 {f : Nat → Int32} : xu (rl r g t) (r + 2) (.inl (0, .inl (rAr 8 f))) = rl r g (sF t 2 f) := rl_sF (by decide) (by decide)
theorem rl_k3 : (rl r g t).2 (r + 3) = some (.inl (0, .inl (rAr 8 (t.1 3)))) := rl_kk (by decide) (by decide)
theorem rl_s3 {f : Nat → Int32} : xu (rl r g t) (r + 3) (.inl (0, .inl (rAr 8 f))) = rl r g (sF t 3 f) := rl_sF (by decide) (by decide)
theorem rl_k4 : (rl r g t).2 (r + 4) = some (.inl (0, .inl (rAr 8 (t.1 4)))) := rl_kk (by decide) (by decide)
theorem rl_s4 {f : Nat → Int32} : xu (rl r g t) (r + 4) (.inl (0, .inl (rAr 8 f))) = rl r g (sF t 4 f) := rl_sF (by decide) (by decide)
theorem rl_k5 : (rl r g t).2 (r + 5) = some (.inl (0, .inl (rAr 8 (t.1 5)))) := rl_kk (by decide) (by decide)
theorem rl_s5 {f : Nat → Int32} : xu (rl r g t) (r + 5) (.inl (0, .inl (rAr 8 f))) = rl r g (sF t 5 f) := rl_sF (by decide) (by decide)
theorem rl_k6 : (rl r g t).2 (r + 6) = some (.inl (0, .inl (rAr 32 (t.1 6)))) := rl_kk (by decide) (by decide)
theorem rl_s6 {f : Nat → Int32} : xu (rl r g t) (r + 6) (.inl (0, .inl (rAr 32 f))) = rl r g (sF t 6 f) := rl_sF (by decide) (by decide)
theorem rl_k7 : (rl r g t).2 (r + 7) = some (.inl (0, .inl (rAr 32 (t.1 7)))) := rl_kk (by decide) (by decide)
theorem rl_s7 {f : Nat → Int32} : xu (rl r g t) (r + 7) (.inl (0, .inl (rAr 32 f))) = rl r g (sF t 7 f) := rl_sF (by decide) (by decide)
theorem rl_k8 : (rl r g t).2 (r + 8) = some (.inl (0, .inl (rAr 32 (t.1 8)))) := rl_kk (by decide) (by decide)
theorem rl_s8 {f : Nat → Int32} : xu (rl r g t) (r + 8) (.inl (0, .inl (rAr 32 f))) = rl r g (sF t 8 f) := rl_sF (by decide) (by decide)
theorem rl_k9 : (rl r g t).2 (r + 9) = some (.inl (0, .inl (rAr 128 (t.1 9)))) := rl_kk (by decide) (by decide)
theorem rl_s9 {f : Nat → Int32} : xu (rl r g t) (r + 9) (.inl (0, .inl (rAr 128 f))) = rl r g (sF t 9 f) := rl_sF (by decide) (by decide)
theorem rl_k10 : (rl r g t).2 (r + 10) = some (.inl (0, .inl (rAr 128 (t.1 10)))) := rl_kk (by decide) (by decide)
theorem rl_s10 {f : Nat → Int32} : xu (rl r g t) (r + 10) (.inl (0, .inl (rAr 128 f))) = rl r g (sF t 10 f) := rl_sF (by decide) (by decide)
theorem rl_k11 : (rl r g t).2 (r + 11) = some (.inl (0, .inl (rAr 128 (t.1 11)))) := rl_kk (by decide) (by decide)
theorem rl_s11 {f : Nat → Int32} : xu (rl r g t) (r + 11) (.inl (0, .inl (rAr 128 f))) = rl r g (sF t 11 f) := rl_sF (by decide) (by decide)
theorem rl_k12 : (rl r g t).2 (r + 12) = some (.inl (0, .inl (rAr 128 (t.1 12)))) := rl_kk (by decide) (by decide)
theorem rl_s12 {f : Nat → Int32} : xu (rl r g t) (r + 12) (.inl (0, .inl (rAr 128 f))) = rl r g (sF t 12 f) := rl_sF (by decide) (by decide)
theorem rl_k13 : (rl r g t).2 (r + 13) = some (.inl (0, .inl (rAr 128 (t.1 13)))) := rl_kk (by decide) (by decide)
theorem rl_s13 {f : Nat → Int32} : xu (rl r g t) (r + 13) (.inl (0, .inl (rAr 128 f))) = rl r g (sF t 13 f) := rl_sF (by decide) (by decide)
theorem rl_k14 : (rl r g t).2 (r + 14) = some (.inl (0, .inl (rAr 8 (t.1 14)))) := rl_kk (by decide) (by decide)
theorem rl_s14 {f : Nat → Int32} : xu (rl r g t) (r + 14) (.inl (0, .inl (rAr 8 f))) = rl r g (sF t 14 f) := rl_sF (by decide) (by decide)
theorem rl_k15 : (rl r g t).2 (r + 15) = some (.inl (0, .inl (rAr 8 (t.1 15)))) := rl_kk (by decide) (by decide)
theorem rl_s15 {f : Nat → Int32} : xu (rl r g t) (r + 15) (.inl (0, .inl (rAr 8 f))) = rl r g (sF t 15 f) := rl_sF (by decide) (by decide)
theorem rl_k16 : (rl r g t).2 (r + 16) = some (.inl (0, .inl (rAr 8 (t.1 16)))) := rl_kk (by decide) (by decide)
theorem rl_s16 {f : Nat → Int32} : xu (rl r g t) (r + 16) (.inl (0, .inl (rAr 8 f))) = rl r g (sF t 16 f) := rl_sF (by decide) (by decide)
theorem rl_k17 : (rl r g t).2 (r + 17) = some (.inl (0, .inl (rAr 8 (t.1 17)))) := rl_kk (by decide) (by decide)
theorem rl_s17 {f : Nat → Int32} : xu (rl r g t) (r + 17) (.inl (0, .inl (rAr 8 f))) = rl r g (sF t 17 f) := rl_sF (by decide) (by decide)
theorem rl_k18 : (rl r g t).2 (r + 18) = some (.inl (0, .inl (rAr 8 (t.1 18)))) := rl_kk (by decide) (by decide)
theorem rl_s18 {f : Nat → Int32} : xu (rl r g t) (r + 18) (.inl (0, .inl (rAr 8 f))) = rl r g (sF t 18 f) := rl_sF (by decide) (by decide)
theorem rl_k19 : (rl r g t).2 (r + 19) = some (.inl (0, .inl (rAr 8 (t.1 19)))) := rl_kk (by decide) (by decide)
theorem rl_s19 {f : Nat → Int32} : xu (rl r g t) (r + 19) (.inl (0, .inl (rAr 8 f))) = rl r g (sF t 19 f) := rl_sF (by decide) (by decide)
theorem rl_k20 : (rl r g t).2 (r + 20) = some (.inl (0, .inl (rAr 8 (t.1 20)))) := rl_kk (by decide) (by decide)
theorem rl_s20 {f : Nat → Int32} : xu (rl r g t) (r + 20) (.inl (0, .inl (rAr 8 f))) = rl r g (sF t 20 f) := rl_sF (by decide) (by decide)
theorem rl_k21 : (rl r g t).2 (r + 21) = some (.inl (0, .inl (rAr 8 (t.1 21)))) := rl_kk (by decide) (by decide)
theorem rl_s21 {f : Nat → Int32} : xu (rl r g t) (r + 21) (.inl (0, .inl (rAr 8 f))) = rl r g (sF t 21 f) := rl_sF (by decide) (by decide)
theorem rl_k22 : (rl r g t).2 (r + 22) = some (.inl (0, .inl (rAr 8 (t.1 22)))) := rl_kk (by decide) (by decide)
theorem rl_s22 {f : Nat → Int32} : xu (rl r g t) (r + 22) (.inl (0, .inl (rAr 8 f))) = rl r g (sF t 22 f) := rl_sF (by decide) (by decide)
theorem rl_k23 : (rl r g t).2 (r + 23) = some (.inl (0, .inl (rAr 8 (t.1 23)))) := rl_kk (by decide) (by decide)
theorem rl_s23 {f : Nat → Int32} : xu (rl r g t) (r + 23) (.inl (0, .inl (rAr 8 f))) = rl r g (sF t 23 f) := rl_sF (by decide) (by decide)
theorem rl_k24 : (rl r g t).2 (r + 24) = some (.inl (0, .inl (rAr 8 (t.1 24)))) := rl_kk (by decide) (by decide)
theorem rl_s24 {f : Nat → Int32} : xu (rl r g t) (r + 24) (.inl (0, .inl (rAr 8 f))) = rl r g (sF t 24 f) := rl_sF (by decide) (by decide)
theorem rl_k25 : (rl r g t).2 (r + 25) = some (.inl (0, .inl (rAr 8 (t.1 25)))) := rl_kk (by decide) (by decide)
theorem rl_s25 {f : Nat → Int32} : xu (rl r g t) (r + 25) (.inl (0, .inl (rAr 8 f))) = rl r g (sF t 25 f) := rl_sF (by decide) (by decide)
theorem rl_k26 : (rl r g t).2 (r + 26) = some (.inl (0, .inl (rAr 8 (t.1 26)))) := rl_kk (by decide) (by decide)
theorem rl_s26 {f : Nat → Int32} : xu (rl r g t) (r + 26) (.inl (0, .inl (rAr 8 f))) = rl r g (sF t 26 f) := rl_sF (by decide) (by decide)
theorem rl_k27 : (rl r g t).2 (r + 27) = some (.inl (0, .inl (rAr 32 (t.1 27)))) := rl_kk (by decide) (by decide)
theorem rl_s27 {f : Nat → Int32} : xu (rl r g t) (r + 27) (.inl (0, .inl (rAr 32 f))) = rl r g (sF t 27 f) := rl_sF (by decide) (by decide)
theorem rl_k28 : (rl r g t).2 (r + 28) = some (.inl (0, .inl (rAr 32 (t.1 28)))) := rl_kk (by decide) (by decide)
theorem rl_s28 {f : Nat → Int32} : xu (rl r g t) (r + 28) (.inl (0, .inl (rAr 32 f))) = rl r g (sF t 28 f) := rl_sF (by decide) (by decide)
theorem rl_k29 : (rl r g t).2 (r + 29) = some (.inl (0, .inl (rAr 32 (t.1 29)))) := rl_kk (by decide) (by decide)
theorem rl_s29 {f : Nat → Int32} : xu (rl r g t) (r + 29) (.inl (0, .inl (rAr 32 f))) = rl r g (sF t 29 f) := rl_sF (by decide) (by decide)
theorem rl_k30 : (rl r g t).2 (r + 30) = some (.inl (0, .inl (rAr 6360 (t.1 30)))) := rl_kk (by decide) (by decide)
theorem rl_s30 {f : Nat → Int32} : xu (rl r g t) (r + 30) (.inl (0, .inl (rAr 6360 f))) = rl r g (sF t 30 f) := rl_sF (by decide) (by decide)
theorem rl_k31 : (rl r g t).2 (r + 31) = some (.inl (0, .inl (rAr 53 (t.1 31)))) := rl_kk (by decide) (by decide)
theorem rl_s31 {f : Nat → Int32} : xu (rl r g t) (r + 31) (.inl (0, .inl (rAr 53 f))) = rl r g (sF t 31 f) := rl_sF (by decide) (by decide)
theorem ro_0 : (robj r t)[0]? = some (.int (t.2 0)) := rfl
theorem rl_g0 : xu (rl r g t) r (.inr (8, (robj r t).set 0 (.int v))) = rl r g (sG t 0 v) := by
  refine rl_upd (k := 0) (by decide) ?_ ?_
  · simp [rc, robj, sG, up1]
  · intro i _ hi
    unfold rc
    simp [hi, sG]
theorem ro_1 : (robj r t)[1]? = some (.ref (r + 1)) := rfl
theorem ro_2 : (robj r t)[2]? = some (.ref (r + 2)) := rfl
theorem ro_3 : (robj r t)[3]? = some (.ref (r + 3)) := rfl
theorem ro_4 : (robj r t)[4]? = some (.ref (r + 4)) := rfl
theorem ro_5 : (robj r t)[5]? = some (.ref (r + 5)) := rfl
theorem ro_6 : (robj r t)[6]? = some (.ref (r + 6)) := rfl
theorem ro_7 : (robj r t)[7]? = some (.ref (r + 7)) := rfl
theorem ro_8 : (robj r t)[8]? = some (.ref (r + 8)) := rfl
theorem ro_9 : (robj r t)[9]? = some (.ref (r + 9)) := rfl
theorem ro_10 : (robj r t)[10]? = some (.ref (r + 10)) := rfl
theorem ro_11 : (robj r t)[11]? = some (.ref (r + 11)) := rfl
theorem ro_12 : (robj r t)[12]? = some (.ref (r + 12)) := rfl
theorem ro_13 : (robj r t)[13]? = some (.ref (r + 13)) := rfl
theorem ro_14 : (robj r t)[14]? = some (.int (t.2 1)) := rfl
theorem rl_g1 : xu (rl r g t) r (.inr (8, (robj r t).set 14 (.int v))) = rl r g (sG t 1 v) := by
  refine rl_upd (k := 0) (by decide) ?_ ?_
  · simp [rc, robj, sG, up1]
  · intro i _ hi
    unfold rc
    simp [hi, sG]
theorem ro_15 : (robj r t)[15]? = some (.ref (r + 14)) := rfl
theorem ro_16 : (robj r t)[16]? = some (.ref (r + 15)) := rfl
theorem ro_17 : (robj r t)[17]? = some (.ref (r + 16)) := rfl
theorem ro_18 : (robj r t)[18]? = some (.ref (r + 17)) := rfl
theorem ro_19 : (robj r t)[19]? = some (.ref (r + 18)) := rfl
theorem ro_20 : (robj r t)[20]? = some (.ref (r + 19)) := rfl
theorem ro_21 : (robj r t)[21]? = some (.ref (r + 20)) := rfl
theorem ro_22 : (robj r t)[22]? = some (.ref (r + 21)) := rfl
theorem ro_23 : (robj r t)[23]? = some (.ref (r + 22)) := rfl
theorem ro_24 : (robj r t)[24]? = some (.ref (r + 23)) := rfl
theorem ro_25 : (robj r t)[25]? = some (.ref (r + 24)) := rfl
theorem ro_26 : (robj r t)[26]? = some (.ref (r + 25)) := rfl
theorem ro_27 : (robj r t)[27]? = some (.ref (r + 26)) := rfl
theorem ro_28 : (robj r t)[28]? = some (.ref (r + 27)) := rfl
theorem ro_29 : (robj r t)[29]? = some (.ref (r + 28)) := rfl
theorem ro_30 : (robj r t)[30]? = some (.ref (r + 29)) := rfl
theorem ro_31 : (robj r t)[31]? = some (.int (t.2 2)) := rfl
theorem rl_g2 : xu (rl r g t) r (.inr (8, (robj r t).set 31 (.int v))) = rl r g (sG t 2 v) := by
  refine rl_upd (k := 0) (by decide) ?_ ?_
  · simp [rc, robj, sG, up1]
  · intro i _ hi
    unfold rc
    simp [hi, sG]
theorem ro_32 : (robj r t)[32]? = some (.ref (r + 30)) := rfl
theorem ro_33 : (robj r t)[33]? = some (.int (t.2 3)) := rfl
theorem rl_g3 : xu (rl r g t) r (.inr (8, (robj r t).set 33 (.int v))) = rl r g (sG t 3 v) := by
  refine rl_upd (k := 0) (by decide) ?_ ?_
  · simp [rc, robj, sG, up1]
  · intro i _ hi
    unfold rc
    simp [hi, sG]
theorem ro_34 : (robj r t)[34]? = some (.int (t.2 4)) := rfl
theorem rl_g4 : xu (rl r g t) r (.inr (8, (robj r t).set 34 (.int v))) = rl r g (sG t 4 v) := by
  refine rl_upd (k := 0) (by decide) ?_ ?_
  · simp [rc, robj, sG, up1]
  · intro i _ hi
    unfold rc
    simp [hi, sG]
theorem ro_35 : (robj r t)[35]? = some (.ref (r + 31)) := rfl
theorem ro_len : (robj r t).length = 36 := rfl
theorem nb0 : narrow .boolean (.int 0) = .int 0 := rfl
theorem nb1 : narrow .boolean (.int 1) = .int 1 := rfl
theorem nI_nn {n : Nat} (h : n < 2147483648) : (0 : Int32) ≤ nI n := nI_pos' h
theorem nI_cl {n : Nat} (h : n < 2147483648) : (nI n).toNatClampNeg = n := nI_clamp h
end RL
