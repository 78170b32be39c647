/-! the reference's state by nodes -/
abbrev nv : Type := Nat → Nat → Int32
abbrev rA : Type := (Nat → nv) × (Nat → Nat → Int32) × (Nat → Int32) × (Nat → Int32)
def s8 (N : Nat → nv) : Int32 := N 0 32 0 + N 1 32 0 + N 2 32 0 + N 3 32 0 + N 4 32 0 + N 5 32 0 + N 6 32 0 + N 7 32 0
def tt (a : rA) : rS := (fun k i => if k ≤ 5 ∨ (14 ≤ k ∧ k ≤ 26) then a.1 i k 0 else if k ≤ 8 ∨ (27 ≤ k ∧ k ≤ 29) then a.1 (i / 4) k (i % 4) else if k ≤ 13 then a.1 (i / 16) k (i % 16) else if k = 30 then a.2.1 (i / 53) (i % 53) else if k = 31 then a.2.2.1 i else 0, fun i => if i = 4 then s8 a.1 else a.2.2.2 i)
def un (n : nv) (k j : Nat) (v : Int32) : nv := fun k' j' => if k' = k ∧ j' = j then v else n k' j'
def pN (a : rA) (p : Nat) (n : nv) : rA := (fun q => if q = p then n else a.1 q, a.2)
def aM (a : rA) (x : Nat) (m : Nat → Int32) : rA := (a.1, fun y => if y = x then m else a.2.1 y, a.2.2)
def aW (a : rA) (m : Nat → Int32) : rA := (a.1, a.2.1, m, a.2.2.2)
def aG (a : rA) (i : Nat) (v : Int32) : rA := (a.1, a.2.1, a.2.2.1, up1 a.2.2.2 i v)
section TA
variable {a : rA} {p q k k' j j' x i : Nat} {n n' : nv} {v : Int32} {m : Nat → Int32}
theorem pN_eq : (pN a p n).1 p = n := by simp [pN]
theorem pN_ne (h : q ≠ p) : (pN a p n).1 q = a.1 q := by simp [pN, h]
theorem pN_2 : (pN a p n).2 = a.2 := rfl
theorem pN_pN : pN (pN a p n) p n' = pN a p n' := by
  unfold pN
  congr 1
  funext q
  by_cases h : q = p <;> simp [h]
theorem pN_self : pN a p (a.1 p) = a := by
  unfold pN
  apply Prod.ext
  · funext q
    by_cases h : q = p <;> simp [h]
  · rfl
theorem un_eq : un n k j v k j = v := by simp [un]
theorem un_nk (h : k' ≠ k) : un n k j v k' j' = n k' j' := by simp [un, h]
theorem un_nj (h : j' ≠ j) : un n k j v k' j' = n k' j' := by simp [un, h]
theorem aM_1 : (aM a x m).1 = a.1 := rfl
theorem aM_2 : (aM a x m).2.1 x = m := by simp [aM]
theorem aM_3 : (aM a x m).2.2 = a.2.2 := rfl
theorem aM_n (h : i ≠ x) : (aM a x m).2.1 i = a.2.1 i := by simp [aM, h]
theorem aM_aM {f' : Nat → Int32} : aM (aM a x m) x f' = aM a x f' := by
  unfold aM
  congr 2
  funext q
  by_cases h : q = x <;> simp [h]
theorem aW_1 : (aW a m).1 = a.1 := rfl
theorem aW_2 : (aW a m).2.1 = a.2.1 := rfl
theorem aW_3 : (aW a m).2.2.1 = m := rfl
theorem aW_4 : (aW a m).2.2.2 = a.2.2.2 := rfl
theorem aG_1 : (aG a i v).1 = a.1 := rfl
theorem aG_2 : (aG a i v).2.1 = a.2.1 := rfl
theorem aG_3 : (aG a i v).2.2.1 = a.2.2.1 := rfl
theorem aG_4 : (aG a i v).2.2.2 = up1 a.2.2.2 i v := rfl
theorem tt_g8 (hk : k ≤ 5 ∨ (14 ≤ k ∧ k ≤ 26)) : (tt a).1 k i = a.1 i k 0 := by
  show (if k ≤ 5 ∨ (14 ≤ k ∧ k ≤ 26) then _ else _) = _
  rw [if_pos hk]
theorem tt_h32 (hk : (6 ≤ k ∧ k ≤ 8) ∨ (27 ≤ k ∧ k ≤ 29)) : (tt a).1 k i = a.1 (i / 4) k (i % 4) := by
  show (if k ≤ 5 ∨ (14 ≤ k ∧ k ≤ 26) then _ else if k ≤ 8 ∨ (27 ≤ k ∧ k ≤ 29) then _ else _) = _
  rw [if_neg (by omega), if_pos (by omega)]
theorem tt_h128 (hk : 9 ≤ k ∧ k ≤ 13) : (tt a).1 k i = a.1 (i / 16) k (i % 16) := by
  show (if k ≤ 5 ∨ (14 ≤ k ∧ k ≤ 26) then _ else if k ≤ 8 ∨ (27 ≤ k ∧ k ≤ 29) then _ else if k ≤ 13 then _ else _) = _
  rw [if_neg (by omega), if_neg (by omega), if_pos (by omega)]
theorem tt_h30 : (tt a).1 30 i = a.2.1 (i / 53) (i % 53) := rfl
theorem tt_r31 : (tt a).1 31 i = a.2.2.1 i := rfl
theorem tt_g32 (hk : (6 ≤ k ∧ k ≤ 8) ∨ (27 ≤ k ∧ k ≤ 29)) (hj : j < 4) : (tt a).1 k (4 * p + j) = a.1 p k j := by
  rw [tt_h32 hk, show (4 * p + j) / 4 = p by omega, show (4 * p + j) % 4 = j by omega]
theorem tt_g128 (hk : 9 ≤ k ∧ k ≤ 13) (hj : j < 16) : (tt a).1 k (16 * p + j) = a.1 p k j := by
  rw [tt_h128 hk, show (16 * p + j) / 16 = p by omega, show (16 * p + j) % 16 = j by omega]
theorem tt_r30 (hj : j < 53) : (tt a).1 30 (53 * x + j) = a.2.1 x j := by
  rw [tt_h30, show (53 * x + j) / 53 = x by omega, show (53 * x + j) % 53 = j by omega]
theorem pNun (h : k' ≠ k) : (pN a p (un (a.1 p) k j v)).1 q k' j' = a.1 q k' j' := by
  by_cases hq : q = p
  · subst hq
    rw [pN_eq, un_nk h]
  · rw [pN_ne hq]
theorem tt_oth (h : k' ≠ k) : (tt (pN a p (un (a.1 p) k j v))).1 k' i = (tt a).1 k' i := by
  unfold tt
  simp only [pNun h, pN_2]
theorem s8_un (h : (32 : Nat) ≠ k) : s8 (pN a p (un (a.1 p) k j v)).1 = s8 a.1 := by
  unfold s8
  simp only [pNun h]
theorem tt_2 (h : (32 : Nat) ≠ k) : (tt (pN a p (un (a.1 p) k j v))).2 = (tt a).2 := by
  funext i
  show (if i = 4 then s8 _ else _) = (if i = 4 then s8 _ else _)
  rw [s8_un h]
  rfl
theorem tt_w8 (hk : k ≤ 5 ∨ (14 ≤ k ∧ k ≤ 26)) : sF (tt a) k (up1 ((tt a).1 k) p v) = tt (pN a p (un (a.1 p) k 0 v)) := by
  apply Prod.ext
  · funext k' i
    show (if k' = k then up1 ((tt a).1 k) p v else (tt a).1 k') i = (tt (pN a p (un (a.1 p) k 0 v))).1 k' i
    by_cases h : k' = k
    · subst h
      rw [if_pos rfl]
      show (if i = p then v else (tt a).1 k' i) = _
      rw [tt_g8 hk, tt_g8 hk]
      by_cases hi : i = p
      · subst hi
        rw [if_pos rfl, pN_eq, un_eq]
      · rw [if_neg hi, pN_ne hi]
    · rw [if_neg h, tt_oth h]
  · rw [tt_2 (by omega)]
    rfl
theorem tt_w32 (hk : (6 ≤ k ∧ k ≤ 8) ∨ (27 ≤ k ∧ k ≤ 29)) (hj : j < 4) : sF (tt a) k (up1 ((tt a).1 k) (4 * p + j) v) = tt (pN a p (un (a.1 p) k j v)) := by
  apply Prod.ext
  · funext k' i
    show (if k' = k then up1 ((tt a).1 k) (4 * p + j) v else (tt a).1 k') i = (tt (pN a p (un (a.1 p) k j v))).1 k' i
    by_cases h : k' = k
    · subst h
      rw [if_pos rfl]
      show (if i = 4 * p + j then v else (tt a).1 k' i) = _
      rw [tt_h32 hk, tt_h32 hk]
      by_cases hi : i = 4 * p + j
      · rw [if_pos hi, show i / 4 = p by omega, show i % 4 = j by omega, pN_eq, un_eq]
      · rw [if_neg hi]
        by_cases hq : i / 4 = p
        · rw [hq, pN_eq, un_nj (by omega)]
        · rw [pN_ne hq]
    · rw [if_neg h, tt_oth h]
  · rw [tt_2 (by omega)]
    rfl
theorem tt_w128 (hk : 9 ≤ k ∧ k ≤ 13) (hj : j < 16) : sF (tt a) k (up1 ((tt a).1 k) (16 * p + j) v) = tt (pN a p (un (a.1 p) k j v)) := by
  apply Prod.ext
  · funext k' i
    show (if k' = k then up1 ((tt a).1 k) (16 * p + j) v else (tt a).1 k') i = (tt (pN a p (un (a.1 p) k j v))).1 k' i
    by_cases h : k' = k
    · subst h
      rw [if_pos rfl]
      show (if i = 16 * p + j then v else (tt a).1 k' i) = _
      rw [tt_h128 hk, tt_h128 hk]
      by_cases hi : i = 16 * p + j
      · rw [if_pos hi, show i / 16 = p by omega, show i % 16 = j by omega, pN_eq, un_eq]
      · rw [if_neg hi]
        by_cases hq : i / 16 = p
        · rw [hq, pN_eq, un_nj (by omega)]
        · rw [pN_ne hq]
    · rw [if_neg h, tt_oth h]
  · rw [tt_2 (by omega)]
    rfl
theorem tt_ne30 (h : k ≠ 30) : (tt (aM a x m)).1 k i = (tt a).1 k i := by
  unfold tt
  simp only [h, if_false, aM_1, aM_3]
theorem tt_ne31 (h : k ≠ 31) : (tt (aW a m)).1 k i = (tt a).1 k i := by
  unfold tt
  simp only [h, if_false, aW_1, aW_2]
theorem tt_u30 (hj : j < 53) : sF (tt a) 30 (up1 ((tt a).1 30) (53 * x + j) v) = tt (aM a x (up1 (a.2.1 x) j v)) := by
  apply Prod.ext
  · funext k' i
    show (if k' = 30 then up1 ((tt a).1 30) (53 * x + j) v else (tt a).1 k') i = (tt (aM a x (up1 (a.2.1 x) j v))).1 k' i
    by_cases h : k' = 30
    · subst h
      rw [if_pos rfl]
      show (if i = 53 * x + j then v else (tt a).1 30 i) = _
      rw [tt_h30, tt_h30]
      by_cases hi : i = 53 * x + j
      · rw [if_pos hi, show i / 53 = x by omega, show i % 53 = j by omega, aM_2, up1_eq]
      · rw [if_neg hi]
        by_cases hq : i / 53 = x
        · rw [hq, aM_2, up1_ne (by omega)]
        · rw [aM_n hq]
    · rw [if_neg h, tt_ne30 h]
  · rfl
theorem tt_u31 : sF (tt a) 31 (up1 ((tt a).1 31) j v) = tt (aW a (up1 a.2.2.1 j v)) := by
  apply Prod.ext
  · funext k' i
    show (if k' = 31 then up1 ((tt a).1 31) j v else (tt a).1 k') i = (tt (aW a (up1 a.2.2.1 j v))).1 k' i
    by_cases h : k' = 31
    · subst h
      rw [if_pos rfl]
      rfl
    · rw [if_neg h, tt_ne31 h]
  · rfl
theorem tt_G (h : i ≠ 4) : sG (tt a) i v = tt (aG a i v) := by
  apply Prod.ext
  · rfl
  · funext i'
    show (if i' = i then v else (if i' = 4 then s8 a.1 else a.2.2.2 i')) = (if i' = 4 then s8 a.1 else (if i' = i then v else a.2.2.2 i'))
    by_cases h1 : i' = i
    · subst h1
      simp [h]
    · simp [h1]
theorem i32lc (a b c : Int32) : a + (b + c) = b + (a + c) := by rw [← Int32.add_assoc, Int32.add_comm a b, Int32.add_assoc]
theorem s8_inc (hp : p < 8) : s8 (pN a p (un (a.1 p) 32 0 (a.1 p 32 0 + 1))).1 = s8 a.1 + 1 := by
  have hh : p = 0 ∨ p = 1 ∨ p = 2 ∨ p = 3 ∨ p = 4 ∨ p = 5 ∨ p = 6 ∨ p = 7 := by omega
  rcases hh with h | h | h | h | h | h | h | h <;> subst h <;> simp only [s8, pN, un, and_self, if_true] <;> simp (decide := true) only [if_true, if_false] <;> simp only [Int32.add_assoc, Int32.add_comm, i32lc]
theorem tt_G4 (hp : p < 8) : sG (tt a) 4 (s8 a.1 + 1) = tt (pN a p (un (a.1 p) 32 0 (a.1 p 32 0 + 1))) := by
  apply Prod.ext
  · funext k i
    by_cases hk : k = 32
    · subst hk
      rfl
    · rw [tt_oth hk]
      rfl
  · funext i'
    show (if i' = 4 then s8 a.1 + 1 else (if i' = 4 then s8 a.1 else a.2.2.2 i')) = (if i' = 4 then s8 _ else a.2.2.2 i')
    rw [s8_inc hp]
    by_cases h1 : i' = 4 <;> simp [h1]
theorem tt_i4 : (tt a).2 4 = s8 a.1 := rfl
theorem tt_r1 : (tt a).1 1 i = a.1 i 1 0 := tt_g8 (by decide)
theorem tt_u1 : sF (tt a) 1 (up1 ((tt a).1 1) p v) = tt (pN a p (un (a.1 p) 1 0 v)) := tt_w8 (by decide)
theorem tt_r2 : (tt a).1 2 i = a.1 i 2 0 := tt_g8 (by decide)
theorem tt_u2 : sF (tt a) 2 (up1 ((tt a).1 2) p v) = tt (pN a p (un (a.1 p) 2 0 v)) := tt_w8 (by decide)
theorem tt_r3 : (tt a).1 3 i = a.1 i 3 0 := tt_g8 (by decide)
theorem tt_u3 : sF (tt a) 3 (up1 ((tt a).1 3) p v) = tt (pN a p (un (a.1 p) 3 0 v)) := tt_w8 (by decide)
theorem tt_r4 : (tt a).1 4 i = a.1 i 4 0 := tt_g8 (by decide)
theorem tt_u4 : sF (tt a) 4 (up1 ((tt a).1 4) p v) = tt (pN a p (un (a.1 p) 4 0 v)) := tt_w8 (by decide)
theorem tt_r5 : (tt a).1 5 i = a.1 i 5 0 := tt_g8 (by decide)
theorem tt_u5 : sF (tt a) 5 (up1 ((tt a).1 5) p v) = tt (pN a p (un (a.1 p) 5 0 v)) := tt_w8 (by decide)
theorem tt_r14 : (tt a).1 14 i = a.1 i 14 0 := tt_g8 (by decide)
theorem tt_u14 : sF (tt a) 14 (up1 ((tt a).1 14) p v) = tt (pN a p (un (a.1 p) 14 0 v)) := tt_w8 (by decide)
theorem tt_r15 : (tt a).1 15 i = a.1 i 15 0 := tt_g8 (by decide)
theorem tt_u15 : sF (tt a) 15 (up1 ((tt a).1 15) p v) = tt (pN a p (un (a.1 p) 15 0 v)) := tt_w8 (by decide)
theorem tt_r16 : (tt a).1 16 i = a.1 i 16 0 := tt_g8 (by decide)
theorem tt_u16 : sF (tt a) 16 (up1 ((tt a).1 16) p v) = tt (pN a p (un (a.1 p) 16 0 v)) := tt_w8 (by decide)
theorem tt_r17 : (tt a).1 17 i = a.1 i 17 0 := tt_g8 (by decide)
theorem tt_u17 : sF (tt a) 17 (up1 ((tt a).1 17) p v) = tt (pN a p (un (a.1 p) 17 0 v)) := tt_w8 (by decide)
theorem tt_r18 : (tt a).1 18 i = a.1 i 18 0 := tt_g8 (by decide)
theorem tt_u18 : sF (tt a) 18 (up1 ((tt a).1 18) p v) = tt (pN a p (un (a.1 p) 18 0 v)) := tt_w8 (by decide)
theorem tt_r19 : (tt a).1 19 i = a.1 i 19 0 := tt_g8 (by decide)
theorem tt_u19 : sF (tt a) 19 (up1 ((tt a).1 19) p v) = tt (pN a p (un (a.1 p) 19 0 v)) := tt_w8 (by decide)
theorem tt_r20 : (tt a).1 20 i = a.1 i 20 0 := tt_g8 (by decide)
theorem tt_u20 : sF (tt a) 20 (up1 ((tt a).1 20) p v) = tt (pN a p (un (a.1 p) 20 0 v)) := tt_w8 (by decide)
theorem tt_r21 : (tt a).1 21 i = a.1 i 21 0 := tt_g8 (by decide)
theorem tt_u21 : sF (tt a) 21 (up1 ((tt a).1 21) p v) = tt (pN a p (un (a.1 p) 21 0 v)) := tt_w8 (by decide)
theorem tt_r22 : (tt a).1 22 i = a.1 i 22 0 := tt_g8 (by decide)
theorem tt_u22 : sF (tt a) 22 (up1 ((tt a).1 22) p v) = tt (pN a p (un (a.1 p) 22 0 v)) := tt_w8 (by decide)
theorem tt_r23 : (tt a).1 23 i = a.1 i 23 0 := tt_g8 (by decide)
theorem tt_u23 : sF (tt a) 23 (up1 ((tt a).1 23) p v) = tt (pN a p (un (a.1 p) 23 0 v)) := tt_w8 (by decide)
theorem tt_r24 : (tt a).1 24 i = a.1 i 24 0 := tt_g8 (by decide)
theorem tt_u24 : sF (tt a) 24 (up1 ((tt a).1 24) p v) = tt (pN a p (un (a.1 p) 24 0 v)) := tt_w8 (by decide)
theorem tt_r25 : (tt a).1 25 i = a.1 i 25 0 := tt_g8 (by decide)
theorem tt_u25 : sF (tt a) 25 (up1 ((tt a).1 25) p v) = tt (pN a p (un (a.1 p) 25 0 v)) := tt_w8 (by decide)
theorem tt_r26 : (tt a).1 26 i = a.1 i 26 0 := tt_g8 (by decide)
theorem tt_u26 : sF (tt a) 26 (up1 ((tt a).1 26) p v) = tt (pN a p (un (a.1 p) 26 0 v)) := tt_w8 (by decide)
theorem tt_r6 (hj : j < 4) : (tt a).1 6 (4 * p + j) = a.1 p 6 j := tt_g32 (by decide) hj
theorem tt_u6 (hj : j < 4) : sF (tt a) 6 (up1 ((tt a).1 6) (4 * p + j) v) = tt (pN a p (un (a.1 p) 6 j v)) := tt_w32 (by decide) hj
theorem tt_r7 (hj : j < 4) : (tt a).1 7 (4 * p + j) = a.1 p 7 j := tt_g32 (by decide) hj
theorem tt_u7 (hj : j < 4) : sF (tt a) 7 (up1 ((tt a).1 7) (4 * p + j) v) = tt (pN a p (un (a.1 p) 7 j v)) := tt_w32 (by decide) hj
theorem tt_r8 (hj : j < 4) : (tt a).1 8 (4 * p + j) = a.1 p 8 j := tt_g32 (by decide) hj
theorem tt_u8 (hj : j < 4) : sF (tt a) 8 (up1 ((tt a).1 8) (4 * p + j) v) = tt (pN a p (un (a.1 p) 8 j v)) := tt_w32 (by decide) hj
theorem tt_r27 (hj : j < 4) : (tt a).1 27 (4 * p + j) = a.1 p 27 j := tt_g32 (by decide) hj
theorem tt_u27 (hj : j < 4) : sF (tt a) 27 (up1 ((tt a).1 27) (4 * p + j) v) = tt (pN a p (un (a.1 p) 27 j v)) := tt_w32 (by decide) hj
theorem tt_r28 (hj : j < 4) : (tt a).1 28 (4 * p + j) = a.1 p 28 j := tt_g32 (by decide) hj
theorem tt_u28 (hj : j < 4) : sF (tt a) 28 (up1 ((tt a).1 28) (4 * p + j) v) = tt (pN a p (un (a.1 p) 28 j v)) := tt_w32 (by decide) hj
theorem tt_r29 (hj : j < 4) : (tt a).1 29 (4 * p + j) = a.1 p 29 j := tt_g32 (by decide) hj
theorem tt_u29 (hj : j < 4) : sF (tt a) 29 (up1 ((tt a).1 29) (4 * p + j) v) = tt (pN a p (un (a.1 p) 29 j v)) := tt_w32 (by decide) hj
theorem tt_r9 (hj : j < 16) : (tt a).1 9 (16 * p + j) = a.1 p 9 j := tt_g128 (by decide) hj
theorem tt_u9 (hj : j < 16) : sF (tt a) 9 (up1 ((tt a).1 9) (16 * p + j) v) = tt (pN a p (un (a.1 p) 9 j v)) := tt_w128 (by decide) hj
theorem tt_r10 (hj : j < 16) : (tt a).1 10 (16 * p + j) = a.1 p 10 j := tt_g128 (by decide) hj
theorem tt_u10 (hj : j < 16) : sF (tt a) 10 (up1 ((tt a).1 10) (16 * p + j) v) = tt (pN a p (un (a.1 p) 10 j v)) := tt_w128 (by decide) hj
theorem tt_r11 (hj : j < 16) : (tt a).1 11 (16 * p + j) = a.1 p 11 j := tt_g128 (by decide) hj
theorem tt_u11 (hj : j < 16) : sF (tt a) 11 (up1 ((tt a).1 11) (16 * p + j) v) = tt (pN a p (un (a.1 p) 11 j v)) := tt_w128 (by decide) hj
theorem tt_r12 (hj : j < 16) : (tt a).1 12 (16 * p + j) = a.1 p 12 j := tt_g128 (by decide) hj
theorem tt_u12 (hj : j < 16) : sF (tt a) 12 (up1 ((tt a).1 12) (16 * p + j) v) = tt (pN a p (un (a.1 p) 12 j v)) := tt_w128 (by decide) hj
theorem tt_r13 (hj : j < 16) : (tt a).1 13 (16 * p + j) = a.1 p 13 j := tt_g128 (by decide) hj
theorem tt_u13 (hj : j < 16) : sF (tt a) 13 (up1 ((tt a).1 13) (16 * p + j) v) = tt (pN a p (un (a.1 p) 13 j v)) := tt_w128 (by decide) hj
theorem tt_i0 : (tt a).2 0 = a.2.2.2 0 := rfl
theorem tt_j0 : sG (tt a) 0 v = tt (aG a 0 v) := tt_G (by decide)
theorem tt_i1 : (tt a).2 1 = a.2.2.2 1 := rfl
theorem tt_j1 : sG (tt a) 1 v = tt (aG a 1 v) := tt_G (by decide)
theorem tt_i2 : (tt a).2 2 = a.2.2.2 2 := rfl
theorem tt_j2 : sG (tt a) 2 v = tt (aG a 2 v) := tt_G (by decide)
theorem tt_i3 : (tt a).2 3 = a.2.2.2 3 := rfl
theorem tt_j3 : sG (tt a) 3 v = tt (aG a 3 v) := tt_G (by decide)
end TA
/-! the methods that stay at one node -/
def F_isUp (n : nv) : Int32 := if n 1 0 = 1 then 1 else 0
def F_down (n : nv) : nv := un (un (un (un (un (un n 1 0 2) 4 0 0) 14 0 0) 15 0 0) 16 0 0) 5 0 0
def F_may (n : nv) : Int32 × nv := if n 1 0 = 1 then (if n 4 0 = 1 then (0, F_down n) else (1, un (un n 4 0 (if n 4 0 ≤ 0 then 0 else n 4 0 - 1)) 32 0 (n 32 0 + 1))) else (0, n)
def F_round (n : nv) (v : Int32) : nv := if n 3 0 = v then n else if (F_may n).1 = 0 then (F_may n).2 else un (F_may n).2 3 0 v
def F_store (n : nv) (q : Nat) (x y z : Int32) : nv := if f_isGreater x y (n 6 q) (n 7 q) = 0 then n else if (F_may n).1 = 0 then (F_may n).2 else un (un (un (F_may n).2 6 q x) 7 q y) 8 q z
def F_map (n : nv) (q : Nat) (s c : Int32) : nv := if n 9 q = s ∧ n 10 q = c then n else if (F_may n).1 = 0 then (F_may n).2 else un (un (F_may n).2 9 q s) 10 q c
def F_vote (n : nv) (q : Nat) (x y z : Int32) : nv := if n 11 q = x ∧ n 12 q = y ∧ n 13 q = z then n else if (F_may n).1 = 0 then (F_may n).2 else un (un (un (F_may n).2 11 q x) 12 q y) 13 q z
def F_isData (n : nv) : Int32 := if n 15 0 = 1 ∨ n 15 0 = 2 then 1 else 0
def F_chosen (n : nv) : Int32 := if n 25 0 ≤ 0 then n 21 0 else n 26 0
def F_top (n : nv) (b c : Int32) : nv := if b ≤ n 25 0 then n else un (un n 25 0 b) 26 0 c
def F_best (n : nv) (q : Nat) (x y z : Int32) : nv := if f_isGreater x y (n 27 q) (n 28 q) = 0 then n else un (un (un n 27 q x) 28 q y) 29 q z
def F_refused (n : nv) (b : Int32) : nv := if n 3 0 < b >>> (3 &&& 31) then F_round n (b >>> (3 &&& 31)) else n
def F_own (n : nv) : Nat → nv
  | 0 => n
  | k + 1 => un (un (un (F_own n k) 27 k ((F_own n k) 6 k)) 28 k ((F_own n k) 7 k)) 29 k ((F_own n k) 8 k)
def F_storeAll (n : nv) (w : Nat → Int32) : Nat → nv
  | 0 => n
  | k + 1 => F_store (F_storeAll n w k) k (w (41 + 3 * k)) (w (41 + 3 * k + 1)) (w (41 + 3 * k + 2))
def F_proposed (n : nv) (q : Nat) : nv := un (un n 18 0 (if n 10 q = n 21 0 then 1 else 0)) 16 0 0
theorem e_down {a : rA} {p : Nat} : f_goesDown (tt a) p = tt (pN a p (F_down (a.1 p))) := by
  unfold f_goesDown F_down
  simp (disch := first | omega | decide) only [sA, tt_u1, tt_u2, tt_u3, tt_u4, tt_u5, tt_u6, tt_u7, tt_u8, tt_u9, tt_u10, tt_u11, tt_u12, tt_u13, tt_u14, tt_u15, tt_u16, tt_u17, tt_u18, tt_u19, tt_u20, tt_u21, tt_u22, tt_u23, tt_u24, tt_u25, tt_u26, tt_u27, tt_u28, tt_u29, tt_u30, tt_u31, tt_j0, tt_j1, tt_j2, tt_j3, pN_eq, pN_pN, pN_2, un_eq, un_nk, aM_1, aM_2, aM_3, aW_1, aW_2, aW_3, aG_1, aG_2, aG_3, aG_4]
theorem e_may1 {a : rA} {p : Nat} : (f_mayWrite (tt a) p).1 = (F_may (a.1 p)).1 := by
  unfold f_mayWrite F_may
  simp only [tt_r1, tt_r4]
  by_cases h1 : a.1 p 1 0 = 1 <;> by_cases h2 : a.1 p 4 0 = 1 <;> simp [h1, h2]
theorem e_may2 {a : rA} {p : Nat} (hp : p < 8) : (f_mayWrite (tt a) p).2 = tt (pN a p (F_may (a.1 p)).2) := by
  have e : ∀ x : Int32, sG (sA (tt a) 4 p x) 4 ((tt a).2 4 + 1) = tt (pN a p (un (un (a.1 p) 4 0 x) 32 0 (a.1 p 32 0 + 1))) := by
    intro x
    rw [show (tt a).2 4 = s8 (pN a p (un (a.1 p) 4 0 x)).1 from (s8_un (by decide)).symm, sA, tt_u4, tt_G4 hp, pN_eq, pN_pN, un_nk (by decide)]
  unfold f_mayWrite F_may
  simp only [tt_r1, tt_r4, e, e_down]
  by_cases h1 : a.1 p 1 0 = 1
  · by_cases h2 : a.1 p 4 0 = 1
    · simp only [h1, h2, if_true]
    · simp only [h1, h2, if_true, if_false]
  · simp only [h1, if_false, pN_self]
theorem e_round {a : rA} {p : Nat} {v : Int32} (hp : p < 8) : f_writeRound (tt a) p v = tt (pN a p (F_round (a.1 p) v)) := by
  unfold f_writeRound F_round
  simp only [tt_r3, e_may1, e_may2 hp]
  by_cases h1 : a.1 p 3 0 = v
  · simp only [h1, if_true, pN_self]
  · by_cases h2 : (F_may (a.1 p)).1 = 0
    · simp only [h1, h2, if_true, if_false]
    · simp only [h1, h2, if_false, sA, tt_u3, pN_eq, pN_pN]
theorem e_store {a : rA} {p : Nat} {q : Nat} {x y z : Int32} (hp : p < 8) (hq : q < 4) : f_store (tt a) p (4 * p + q) x y z = tt (pN a p (F_store (a.1 p) q x y z)) := by
  unfold f_store F_store
  simp only [tt_r6 hq, tt_r7 hq, e_may1, e_may2 hp]
  by_cases h1 : f_isGreater x y (a.1 p 6 q) (a.1 p 7 q) = 0
  · simp only [h1, if_true, pN_self]
  · by_cases h2 : (F_may (a.1 p)).1 = 0
    · simp only [h1, h2, if_true, if_false]
    · simp only [h1, h2, if_false, sA, tt_u6 hq, tt_u7 hq, tt_u8 hq, pN_eq, pN_pN]
theorem e_map {a : rA} {p : Nat} {q : Nat} {x y : Int32} (hp : p < 8) (hq : q < 16) : f_writeMap (tt a) p (16 * p + q) x y = tt (pN a p (F_map (a.1 p) q x y)) := by
  unfold f_writeMap F_map
  simp only [tt_r9 hq, tt_r10 hq, e_may1, e_may2 hp]
  by_cases h1 : a.1 p 9 q = x ∧ a.1 p 10 q = y
  · simp only [h1, and_self, if_true, pN_self]
  · by_cases h2 : (F_may (a.1 p)).1 = 0
    · simp only [h1, h2, if_true, if_false]
    · simp only [h1, h2, if_false, sA, tt_u9 hq, tt_u10 hq, pN_eq, pN_pN]
theorem e_vote {a : rA} {p : Nat} {q : Nat} {x y z : Int32} (hp : p < 8) (hq : q < 16) : f_writeVote (tt a) p (16 * p + q) x y z = tt (pN a p (F_vote (a.1 p) q x y z)) := by
  unfold f_writeVote F_vote
  simp only [tt_r11 hq, tt_r12 hq, tt_r13 hq, e_may1, e_may2 hp]
  by_cases h1 : a.1 p 11 q = x ∧ a.1 p 12 q = y ∧ a.1 p 13 q = z
  · simp only [h1, and_self, if_true, pN_self]
  · by_cases h2 : (F_may (a.1 p)).1 = 0
    · simp only [h1, h2, if_true, if_false]
    · simp only [h1, h2, if_false, sA, tt_u11 hq, tt_u12 hq, tt_u13 hq, pN_eq, pN_pN]
theorem e_isData {a : rA} {p : Nat} : f_isData (tt a) p = F_isData (a.1 p) := by
  unfold f_isData F_isData
  simp only [tt_r15]
theorem e_chosen {a : rA} {p : Nat} : f_chosen (tt a) p = F_chosen (a.1 p) := by
  unfold f_chosen F_chosen
  simp only [tt_r25, tt_r26, tt_r21]
theorem e_top {a : rA} {p : Nat} {b c : Int32} : f_top (tt a) p b c = tt (pN a p (F_top (a.1 p) b c)) := by
  unfold f_top F_top
  simp only [tt_r25]
  by_cases h1 : b ≤ a.1 p 25 0
  · simp only [h1, if_true, pN_self]
  · simp only [h1, if_false, sA, tt_u25, tt_u26, pN_eq, pN_pN]
theorem e_best {a : rA} {p : Nat} {q : Nat} {x y z : Int32} (hq : q < 4) : f_best (tt a) (4 * p + q) x y z = tt (pN a p (F_best (a.1 p) q x y z)) := by
  unfold f_best F_best
  simp only [tt_r27 hq, tt_r28 hq]
  by_cases h1 : f_isGreater x y (a.1 p 27 q) (a.1 p 28 q) = 0
  · simp only [h1, if_true, pN_self]
  · simp only [h1, if_false, sA, tt_u27 hq, tt_u28 hq, tt_u29 hq, pN_eq, pN_pN]
theorem e_refused {a : rA} {p : Nat} {b : Int32} (hp : p < 8) : f_refused (tt a) p b = tt (pN a p (F_refused (a.1 p) b)) := by
  unfold f_refused F_refused
  simp only [tt_r3]
  by_cases h1 : a.1 p 3 0 < b >>> (3 &&& 31)
  · simp only [h1, if_true, e_round hp]
  · simp only [h1, if_false, pN_self]
theorem e_own {a : rA} {p : Nat} : ∀ k, k ≤ 4 → f_own (tt a) p k = tt (pN a p (F_own (a.1 p) k)) := by
  intro k
  induction k with
  | zero =>
    intro _
    simp only [f_own, F_own, pN_self]
  | succ k ih =>
    intro hk
    have hk' : k < 4 := by omega
    rw [f_own, ih (by omega), F_own]
    simp only [sA, tt_r6 hk', tt_u27 hk', pN_eq, pN_pN, tt_r7 hk', tt_u28 hk', tt_r8 hk', tt_u29 hk']
theorem e_storeAll {a : rA} {p : Nat} (hp : p < 8) : ∀ k, k ≤ 4 → f_storeAll (tt a) p k = tt (pN a p (F_storeAll (a.1 p) a.2.2.1 k)) := by
  intro k
  induction k with
  | zero =>
    intro _
    simp only [f_storeAll, F_storeAll, pN_self]
  | succ k ih =>
    intro hk
    have hk' : k < 4 := by omega
    rw [f_storeAll, ih (by omega), F_storeAll]
    simp only [tt_r31, pN_2, e_store hp hk', pN_eq, pN_pN]
theorem e_proposed {a : rA} {p : Nat} {q : Nat} (hq : q < 16) : f_proposed (tt a) p q = tt (pN a p (F_proposed (a.1 p) q)) := by
  unfold f_proposed F_proposed
  simp only [sA, tt_r10 hq, tt_r21, tt_u18, tt_u16, pN_eq, pN_pN]
theorem gre_congr {f f' : Nat → Int32} : ∀ k, (∀ i, i < k → f i = f' i) → gre f k = gre f' k := by
  intro k
  induction k with
  | zero =>
    intro _
    rfl
  | succ k ih =>
    intro h
    rw [gre, gre, ih (fun i hi => h i (by omega)), h k (by omega)]
theorem lst_congr {f f' : Nat → Int32} : ∀ k, (∀ i, i < 16 → f i = f' i) → lst f k = lst f' k := by
  intro k
  induction k with
  | zero =>
    intro _
    rfl
  | succ k ih =>
    intro h
    rw [lst, lst, ih h, h (15 - k) (by omega)]
theorem aac_congr {f f' e e' : Nat → Int32} : ∀ k, (∀ i, i < k → f i = f' i) → (∀ i, i < k → e i = e' i) → aac f e k = aac f' e' k := by
  intro k
  induction k with
  | zero =>
    intro _ _
    rfl
  | succ k ih =>
    intro h h'
    rw [aac, aac, ih (fun i hi => h i (by omega)) (fun i hi => h' i (by omega)), h k (by omega), h' k (by omega)]
theorem e_gre {a : rA} {p : Nat} : gre (fun i => (tt a).1 9 (16 * p + i)) 16 = gre (a.1 p 9) 16 := gre_congr 16 (fun i hi => tt_r9 hi)
theorem e_lst {a : rA} {p : Nat} : lst (fun i => (tt a).1 9 (16 * p + i)) 16 = lst (a.1 p 9) 16 := lst_congr 16 (fun i hi => tt_r9 hi)
theorem e_aac {a : rA} {p : Nat} : aac (fun i => (tt a).1 9 (16 * p + i)) (fun i => (tt a).1 10 (16 * p + i)) 16 = aac (a.1 p 9) (a.1 p 10) 16 := aac_congr 16 (fun i hi => tt_r9 hi) (fun i hi => tt_r10 hi)
theorem n_isUp {Q : Option Value → xH → Prop} {r : Nat} {g : xH} {a : rA} {p : Nat} (hp : p < 8) : w_M_isUp Q r (nI p) (rl r g (tt a)) ↔ Q (some (.int (F_isUp (a.1 p)))) (rl r g (tt a)) := by
  rw [s_M_isUp hp, f_isUp, tt_r1, F_isUp]
theorem n_goesDown {Q : Option Value → xH → Prop} {r : Nat} {g : xH} {a : rA} {p : Nat} (hp : p < 8) : w_M_goesDown Q r (nI p) (rl r g (tt a)) ↔ Q none (rl r g (tt (pN a p (F_down (a.1 p))))) := by
  rw [s_M_goesDown hp, e_down]
theorem n_mayWrite {Q : Option Value → xH → Prop} {r : Nat} {g : xH} {a : rA} {p : Nat} (hp : p < 8) : w_M_mayWrite Q r (nI p) (rl r g (tt a)) ↔ Q (some (.int (F_may (a.1 p)).1)) (rl r g (tt (pN a p (F_may (a.1 p)).2))) := by
  rw [s_M_mayWrite hp, e_may1, e_may2 hp]
theorem n_writeRound {Q : Option Value → xH → Prop} {r : Nat} {g : xH} {a : rA} {p : Nat} {v : Int32} (hp : p < 8) : w_M_writeRound Q r (nI p) v (rl r g (tt a)) ↔ Q none (rl r g (tt (pN a p (F_round (a.1 p) v)))) := by
  rw [s_M_writeRound hp, e_round hp]
theorem n_store {Q : Option Value → xH → Prop} {r : Nat} {g : xH} {a : rA} {p : Nat} {q : Nat} {x y z : Int32} (hp : p < 8) (hq : q < 4) : w_M_store Q r (nI p) (nI q) x y z (rl r g (tt a)) ↔ Q none (rl r g (tt (pN a p (F_store (a.1 p) q x y z)))) := by
  rw [s_M_store hp hq, e_store hp hq]
theorem n_writeMap {Q : Option Value → xH → Prop} {r : Nat} {g : xH} {a : rA} {p : Nat} {q : Nat} {x y : Int32} (hp : p < 8) (hq : q < 16) : w_M_writeMap Q r (nI p) (nI q) x y (rl r g (tt a)) ↔ Q none (rl r g (tt (pN a p (F_map (a.1 p) q x y)))) := by
  rw [s_M_writeMap hp hq, e_map hp hq]
theorem n_writeVote {Q : Option Value → xH → Prop} {r : Nat} {g : xH} {a : rA} {p : Nat} {q : Nat} {x y z : Int32} (hp : p < 8) (hq : q < 16) : w_M_writeVote Q r (nI p) (nI q) x y z (rl r g (tt a)) ↔ Q none (rl r g (tt (pN a p (F_vote (a.1 p) q x y z)))) := by
  rw [s_M_writeVote hp hq, e_vote hp hq]
theorem n_greatest {Q : Option Value → xH → Prop} {r : Nat} {g : xH} {a : rA} {p : Nat} (hp : p < 8) : w_M_greatest Q r (nI p) (rl r g (tt a)) ↔ Q (some (.int (gre (a.1 p 9) 16))) (rl r g (tt a)) := by
  rw [s_M_greatest hp, e_gre]
theorem n_least {Q : Option Value → xH → Prop} {r : Nat} {g : xH} {a : rA} {p : Nat} (hp : p < 8) : w_M_least Q r (nI p) (rl r g (tt a)) ↔ Q (some (.int (lst (a.1 p 9) 16))) (rl r g (tt a)) := by
  rw [s_M_least hp, e_lst]
theorem n_allActive {Q : Option Value → xH → Prop} {r : Nat} {g : xH} {a : rA} {p : Nat} (hp : p < 8) : w_M_allActive Q r (nI p) (rl r g (tt a)) ↔ Q (some (.int (aac (a.1 p 9) (a.1 p 10) 16))) (rl r g (tt a)) := by
  rw [s_M_allActive hp, e_aac]
theorem n_isData {Q : Option Value → xH → Prop} {r : Nat} {g : xH} {a : rA} {p : Nat} (hp : p < 8) : w_M_isData Q r (nI p) (rl r g (tt a)) ↔ Q (some (.int (F_isData (a.1 p)))) (rl r g (tt a)) := by
  rw [s_M_isData hp, e_isData]
theorem n_chosen {Q : Option Value → xH → Prop} {r : Nat} {g : xH} {a : rA} {p : Nat} (hp : p < 8) : w_M_chosen Q r (nI p) (rl r g (tt a)) ↔ Q (some (.int (F_chosen (a.1 p)))) (rl r g (tt a)) := by
  rw [s_M_chosen hp, e_chosen]
theorem n_top {Q : Option Value → xH → Prop} {r : Nat} {g : xH} {a : rA} {p : Nat} {b c : Int32} (hp : p < 8) : w_M_top Q r (nI p) b c (rl r g (tt a)) ↔ Q none (rl r g (tt (pN a p (F_top (a.1 p) b c)))) := by
  rw [s_M_top hp, e_top]
theorem n_best {Q : Option Value → xH → Prop} {r : Nat} {g : xH} {a : rA} {p : Nat} {q : Nat} {x y z : Int32} (hp : p < 8) (hq : q < 4) : w_M_best Q r (nI p) (nI q) x y z (rl r g (tt a)) ↔ Q none (rl r g (tt (pN a p (F_best (a.1 p) q x y z)))) := by
  rw [s_M_best hp hq, e_best hq]
theorem n_refused {Q : Option Value → xH → Prop} {r : Nat} {g : xH} {a : rA} {p : Nat} {b : Int32} (hp : p < 8) : w_M_refused Q r (nI p) b (rl r g (tt a)) ↔ Q none (rl r g (tt (pN a p (F_refused (a.1 p) b)))) := by
  rw [s_M_refused hp, e_refused hp]
theorem n_bestIsOwn {Q : Option Value → xH → Prop} {r : Nat} {g : xH} {a : rA} {p : Nat} (hp : p < 8) : w_M_bestIsOwn Q r (nI p) (rl r g (tt a)) ↔ Q none (rl r g (tt (pN a p (F_own (a.1 p) 4)))) := by
  rw [s_M_bestIsOwn hp, e_own 4 (by decide)]
theorem n_storeAll {Q : Option Value → xH → Prop} {r : Nat} {g : xH} {a : rA} {p : Nat} (hp : p < 8) : w_M_storeAll Q r (nI p) (rl r g (tt a)) ↔ Q none (rl r g (tt (pN a p (F_storeAll (a.1 p) a.2.2.1 4)))) := by
  rw [s_M_storeAll hp, e_storeAll hp 4 (by decide)]
theorem n_proposed {Q : Option Value → xH → Prop} {r : Nat} {g : xH} {a : rA} {p : Nat} {q : Nat} (hp : p < 8) (hq : q < 16) (h17 : a.1 p 17 0 = nI q) : w_M_proposed Q r (nI p) (rl r g (tt a)) ↔ Q none (rl r g (tt (pN a p (F_proposed (a.1 p) q)))) := by
  rw [s_M_proposed hp hq (by rw [tt_r17, h17]), e_proposed hq]
def F_counts (n : nv) (w : Nat → Int32) : Int32 := if ¬ n 16 0 ≤ 0 ∧ w 3 = n 2 0 ∧ w 4 = n 5 0 ∧ (n 20 0 >>> (w 1 &&& 31)) &&& 1 = 0 then 1 else 0
theorem n_counts {Q : Option Value → xH → Prop} {r : Nat} {g : xH} {a : rA} {p : Nat} (hp : p < 8) : w_M_counts Q r (nI p) (rl r g (tt a)) ↔ Q (some (.int (F_counts (a.1 p) a.2.2.1))) (rl r g (tt a)) := by
  rw [s_M_counts (f := 0) hp, f_counts, F_counts, tt_r16, tt_r31, tt_r31, tt_r31, tt_r2, tt_r5, tt_r20]
def F_isFree (n : nv) : Int32 := if n 1 0 = 1 ∧ 0 ≤ gre (n 9) 16 ∧ n 16 0 = 0 then 1 else 0
theorem n_isFree {Q : Option Value → xH → Prop} {r : Nat} {g : xH} {a : rA} {p : Nat} (hp : p < 8) : w_M_isFree Q r (nI p) (rl r g (tt a)) ↔ Q (some (.int (F_isFree (a.1 p)))) (rl r g (tt a)) := by
  rw [s_M_isFree hp, f_isFree, F_isFree, tt_r1, tt_r16, e_gre]
