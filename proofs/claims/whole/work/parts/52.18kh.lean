/-! how many bits: sixteen -/
theorem land_n {a b : Nat} (ha : a < 4294967296) (hb : b < 4294967296) : nI a &&& nI b = nI (a &&& b) := by
  apply Int32.toBitVec_inj.mp
  apply BitVec.eq_of_toNat_eq
  rw [Int32.toBitVec_and, BitVec.toNat_and, pk_tn ha, pk_tn hb, pk_tn (Nat.lt_of_le_of_lt Nat.and_le_left ha)]
theorem ush_n {m k : Nat} {s : UInt32} (h : m < 4294967296) (hs : (s.toBitVec % 32).toNat = k) : ((nI m).toUInt32 >>> s).toInt32 = nI (m / 2 ^ k) := by
  apply Int32.toBitVec_inj.mp
  apply BitVec.eq_of_toNat_eq
  rw [pk_tn (Nat.lt_of_le_of_lt (Nat.div_le_self _ _) h)]
  show ((nI m).toUInt32 >>> s).toBitVec.toNat = _
  rw [UInt32.toBitVec_shiftRight, BitVec.ushiftRight_eq', BitVec.toNat_ushiftRight, hs, Nat.shiftRight_eq_div_pow]
  show (nI m).toBitVec.toNat / _ = _
  rw [pk_tn h]
def bA1 (m : Nat) : Nat := Nat.sub m (Nat.land (Nat.div m 2) 1431655765)
def bA2 (y : Nat) : Nat := Nat.add (Nat.land y 858993459) (Nat.land (Nat.div y 4) 858993459)
def bA3 (z : Nat) : Nat := Nat.land (Nat.add z (Nat.div z 16)) 252645135
def bA4 (i : Nat) : Nat := Nat.add i (Nat.div i 256)
def bA5 (i : Nat) : Nat := Nat.add i (Nat.div i 65536)
def bAN (m : Nat) : Nat := Nat.land (bA5 (bA4 (bA3 (bA2 (bA1 m))))) 63
def cA1 (x : Int32) : Int32 := x - (((x.toUInt32 >>> ((1 : Int32).toUInt32 &&& Int32.toUInt32 31)).toInt32) &&& 1431655765)
def cA2 (x : Int32) : Int32 := (x &&& 858993459) + (((x.toUInt32 >>> ((2 : Int32).toUInt32 &&& Int32.toUInt32 31)).toInt32) &&& 858993459)
def cA3 (x : Int32) : Int32 := (x + ((x.toUInt32 >>> ((4 : Int32).toUInt32 &&& Int32.toUInt32 31)).toInt32)) &&& 252645135
def cA4 (x : Int32) : Int32 := x + ((x.toUInt32 >>> ((8 : Int32).toUInt32 &&& Int32.toUInt32 31)).toInt32)
def cA5 (x : Int32) : Int32 := x + ((x.toUInt32 >>> ((16 : Int32).toUInt32 &&& Int32.toUInt32 31)).toInt32)
theorem bc_c {x : Int32} : bc x = cA5 (cA4 (cA3 (cA2 (cA1 x)))) &&& 63 := rfl
theorem bA1_le {m : Nat} : bA1 m ≤ m := Nat.sub_le _ _
theorem bA2_le {m : Nat} : bA2 m ≤ m + m / 4 := Nat.add_le_add Nat.and_le_left Nat.and_le_left
theorem bA3_le {m : Nat} : bA3 m ≤ m + m / 16 := Nat.and_le_left
theorem cA1_n {m : Nat} (h : m < 1048576) : cA1 (nI m) = nI (bA1 m) := by
  unfold cA1
  rw [ush_n (k := 1) (by omega) (by decide), show (1431655765 : Int32) = nI 1431655765 from rfl, land_n (by omega) (by decide), pk_sub]
  · rfl
  · exact Nat.le_trans Nat.and_le_left (Nat.div_le_self _ _)
theorem cA2_n {m : Nat} (h : m < 1048576) : cA2 (nI m) = nI (bA2 m) := by
  unfold cA2
  rw [ush_n (k := 2) (by omega) (by decide), show (858993459 : Int32) = nI 858993459 from rfl, land_n (by omega) (by decide), land_n (by omega) (by decide), nI_add]
  rfl
theorem cA3_n {m : Nat} (h : m < 1048576) : cA3 (nI m) = nI (bA3 m) := by
  unfold cA3
  rw [ush_n (k := 4) (by omega) (by decide), nI_add, show (252645135 : Int32) = nI 252645135 from rfl, land_n (by omega) (by decide)]
  rfl
theorem cA4_n {m : Nat} (h : m < 1048576) : cA4 (nI m) = nI (bA4 m) := by
  unfold cA4
  rw [ush_n (k := 8) (by omega) (by decide), nI_add]
  rfl
theorem cA5_n {m : Nat} (h : m < 1048576) : cA5 (nI m) = nI (bA5 m) := by
  unfold cA5
  rw [ush_n (k := 16) (by omega) (by decide), nI_add]
  rfl
theorem bc_n {m : Nat} (h : m < 65536) : bc (nI m) = nI (bAN m) := by
  have h1 : bA1 m < 65536 := Nat.lt_of_le_of_lt bA1_le h
  have h2 : bA2 (bA1 m) < 131072 := by
    have := bA2_le (m := bA1 m)
    omega
  have h3 : bA3 (bA2 (bA1 m)) < 262144 := by
    have := bA3_le (m := bA2 (bA1 m))
    omega
  have h4 : bA4 (bA3 (bA2 (bA1 m))) < 524288 := by
    show bA3 (bA2 (bA1 m)) + bA3 (bA2 (bA1 m)) / 256 < 524288
    omega
  have h5 : bA5 (bA4 (bA3 (bA2 (bA1 m)))) < 1048576 := by
    show bA4 (bA3 (bA2 (bA1 m))) + bA4 (bA3 (bA2 (bA1 m))) / 65536 < 1048576
    omega
  rw [bc_c, cA1_n (by omega), cA2_n (by omega), cA3_n (by omega), cA4_n (by omega), cA5_n (by omega), show (63 : Int32) = nI 63 from rfl, land_n (by omega) (by decide)]
  rfl
def mnyN (m : Nat) : Nat → Nat
  | 0 => 0
  | k + 1 => Nat.add (mnyN m k) (Nat.mod (Nat.div m (Nat.pow 2 k)) 2)
theorem shNq : ∀ k, k < 16 → ((nI k &&& 31).toBitVec.smod 32).toNat = k := by decide
theorem mny_n {m : Nat} (hm : m < 65536) : ∀ k, k ≤ 16 → mny (nI m) k = nI (mnyN m k) := by
  intro k
  induction k with
  | zero => exact fun _ => rfl
  | succ k ih =>
    intro hk
    rw [mny, ih (by omega)]
    unfold bt
    rw [pk_shrN (by omega) (nI k &&& 31) k (shNq k (by omega)), pk_andN (k := 1) (Nat.lt_of_le_of_lt (Nat.div_le_self _ _) (by omega)) (by decide), nI_add]
    rfl
theorem and_256 {h l A B : Nat} (hl : l < 256) (hB : B < 256) : (256 * h + l) &&& (256 * A + B) = 256 * (h &&& A) + (l &&& B) := by
  have e := Nat.div_add_mod ((256 * h + l) &&& (256 * A + B)) 256
  have e1 : ((256 * h + l) &&& (256 * A + B)) / 2 ^ 8 = h &&& A := by
    rw [Nat.and_div_two_pow, show (256 * h + l) / 2 ^ 8 = h by omega, show (256 * A + B) / 2 ^ 8 = A by omega]
  have e2 : ((256 * h + l) &&& (256 * A + B)) % 2 ^ 8 = l &&& B := by
    rw [Nat.and_mod_two_pow, show (256 * h + l) % 2 ^ 8 = l by omega, show (256 * A + B) % 2 ^ 8 = B by omega]
  rw [show (2 : Nat) ^ 8 = 256 from rfl] at e1 e2
  rw [e1, e2] at e
  exact e.symm
theorem q1a : ∀ b, b < 2 → ∀ h, h < 256 → (128 * b + h / 2) &&& 85 = h / 2 &&& 85 := by decide +kernel
theorem q1b : ∀ h, h < 256 → h / 2 &&& 5592405 = h / 2 &&& 85 ∧ h / 2 &&& 1431655765 = h / 2 &&& 85 ∧ (h / 2 &&& 85) ≤ h := by decide +kernel
theorem bA1_256 {h l : Nat} (hh : h < 256) (hl : l < 256) : bA1 (256 * h + l) = 256 * bA1 h + bA1 l := by
  have e2 : (256 * h + l) / 2 = 256 * (h / 2) + (128 * (h % 2) + l / 2) := by omega
  obtain ⟨a1, a2, a3⟩ := q1b h hh
  obtain ⟨d1, d2, d3⟩ := q1b l hl
  show (256 * h + l) - ((256 * h + l) / 2 &&& 1431655765) = 256 * (h - (h / 2 &&& 1431655765)) + (l - (l / 2 &&& 1431655765))
  have e3 : (256 * (h / 2) + (128 * (h % 2) + l / 2)) &&& 1431655765 = 256 * (h / 2 &&& 5592405) + ((128 * (h % 2) + l / 2) &&& 85) := and_256 (A := 5592405) (B := 85) (by omega) (by decide)
  rw [e2, e3, q1a (h % 2) (Nat.mod_lt _ (by decide)) l hl, a1, a2, d2]
  omega
theorem q2a : ∀ b, b < 4 → ∀ h, h < 256 → (64 * b + h / 4) &&& 51 = h / 4 &&& 51 := by decide +kernel
theorem q2b : ∀ h, h < 256 → h / 4 &&& 3355443 = h / 4 &&& 51 ∧ h / 4 &&& 858993459 = h / 4 &&& 51 ∧ h &&& 3355443 = h &&& 51 ∧ h &&& 858993459 = h &&& 51 := by decide +kernel
theorem bA2_256 {h l : Nat} (hh : h < 256) (hl : l < 256) : bA2 (256 * h + l) = 256 * bA2 h + bA2 l := by
  have e2 : (256 * h + l) / 4 = 256 * (h / 4) + (64 * (h % 4) + l / 4) := by omega
  obtain ⟨a1, a2, a3, a4⟩ := q2b h hh
  obtain ⟨d1, d2, d3, d4⟩ := q2b l hl
  show ((256 * h + l) &&& 858993459) + ((256 * h + l) / 4 &&& 858993459) = 256 * ((h &&& 858993459) + (h / 4 &&& 858993459)) + ((l &&& 858993459) + (l / 4 &&& 858993459))
  have e3 : (256 * (h / 4) + (64 * (h % 4) + l / 4)) &&& 858993459 = 256 * (h / 4 &&& 3355443) + ((64 * (h % 4) + l / 4) &&& 51) := and_256 (A := 3355443) (B := 51) (by omega) (by decide)
  have e4 : (256 * h + l) &&& 858993459 = 256 * (h &&& 3355443) + (l &&& 51) := and_256 (A := 3355443) (B := 51) hl (by decide)
  rw [e2, e3, e4, q2a (h % 4) (Nat.mod_lt _ (by decide)) l hl, a1, a2, a3, a4, d2, d4]
  omega
theorem q3a : ∀ x, x < 256 → x &&& 986895 = x &&& 15 ∧ x &&& 252645135 = x &&& 15 ∧ x &&& 15 = x % 16 := by decide +kernel
theorem q3b : ∀ x, x < 256 → bA1 x < 256 ∧ bA2 (bA1 x) ≤ 68 ∧ bA2 (bA1 x) % 16 ≤ 4 ∧ bA3 (bA2 (bA1 x)) ≤ 8 ∧ bA3 (bA2 (bA1 x)) = mnyN x 8 := by decide +kernel
theorem bA3_256 {h l : Nat} (hh : h ≤ 68) (hl : l ≤ 68) (h4 : h % 16 ≤ 4) : bA3 (256 * h + l) = 256 * bA3 h + bA3 l := by
  show ((256 * h + l) + (256 * h + l) / 16) &&& 252645135 = 256 * ((h + h / 16) &&& 252645135) + ((l + l / 16) &&& 252645135)
  have e2 : (256 * h + l) + (256 * h + l) / 16 = 256 * (h + h / 16) + (l + l / 16 + 16 * (h % 16)) := by omega
  have e3 : (256 * (h + h / 16) + (l + l / 16 + 16 * (h % 16))) &&& 252645135 = 256 * ((h + h / 16) &&& 986895) + ((l + l / 16 + 16 * (h % 16)) &&& 15) := and_256 (A := 986895) (B := 15) (by omega) (by decide)
  obtain ⟨a1, a2, a3⟩ := q3a (h + h / 16) (by omega)
  obtain ⟨d1, d2, d3⟩ := q3a (l + l / 16) (by omega)
  obtain ⟨g1, g2, g3⟩ := q3a (l + l / 16 + 16 * (h % 16)) (by omega)
  rw [e2, e3, a1, a2, d2, d3, g3, a3]
  omega
theorem mnyN_256 {h l : Nat} (hl : l < 256) : mnyN (256 * h + l) 16 = mnyN h 8 + mnyN l 8 := by
  have r0 : (256 * h + l) / 1 % 2 = l / 1 % 2 := by omega
  have r1 : (256 * h + l) / 2 % 2 = l / 2 % 2 := by omega
  have r2 : (256 * h + l) / 4 % 2 = l / 4 % 2 := by omega
  have r3 : (256 * h + l) / 8 % 2 = l / 8 % 2 := by omega
  have r4 : (256 * h + l) / 16 % 2 = l / 16 % 2 := by omega
  have r5 : (256 * h + l) / 32 % 2 = l / 32 % 2 := by omega
  have r6 : (256 * h + l) / 64 % 2 = l / 64 % 2 := by omega
  have r7 : (256 * h + l) / 128 % 2 = l / 128 % 2 := by omega
  have r8 : (256 * h + l) / 256 % 2 = h / 1 % 2 := by omega
  have r9 : (256 * h + l) / 512 % 2 = h / 2 % 2 := by omega
  have r10 : (256 * h + l) / 1024 % 2 = h / 4 % 2 := by omega
  have r11 : (256 * h + l) / 2048 % 2 = h / 8 % 2 := by omega
  have r12 : (256 * h + l) / 4096 % 2 = h / 16 % 2 := by omega
  have r13 : (256 * h + l) / 8192 % 2 = h / 32 % 2 := by omega
  have r14 : (256 * h + l) / 16384 % 2 = h / 64 % 2 := by omega
  have r15 : (256 * h + l) / 32768 % 2 = h / 128 % 2 := by omega
  show 0 + (256 * h + l) / 1 % 2 + (256 * h + l) / 2 % 2 + (256 * h + l) / 4 % 2 + (256 * h + l) / 8 % 2 + (256 * h + l) / 16 % 2 + (256 * h + l) / 32 % 2 + (256 * h + l) / 64 % 2 + (256 * h + l) / 128 % 2 + (256 * h + l) / 256 % 2 + (256 * h + l) / 512 % 2 + (256 * h + l) / 1024 % 2 + (256 * h + l) / 2048 % 2 + (256 * h + l) / 4096 % 2 + (256 * h + l) / 8192 % 2 + (256 * h + l) / 16384 % 2 + (256 * h + l) / 32768 % 2 = (0 + h / 1 % 2 + h / 2 % 2 + h / 4 % 2 + h / 8 % 2 + h / 16 % 2 + h / 32 % 2 + h / 64 % 2 + h / 128 % 2) + (0 + l / 1 % 2 + l / 2 % 2 + l / 4 % 2 + l / 8 % 2 + l / 16 % 2 + l / 32 % 2 + l / 64 % 2 + l / 128 % 2)
  rw [r0, r1, r2, r3, r4, r5, r6, r7, r8, r9, r10, r11, r12, r13, r14, r15]
  generalize h / 1 % 2 = x0, h / 2 % 2 = x1, h / 4 % 2 = x2, h / 8 % 2 = x3, h / 16 % 2 = x4, h / 32 % 2 = x5, h / 64 % 2 = x6, h / 128 % 2 = x7
  generalize l / 1 % 2 = y0, l / 2 % 2 = y1, l / 4 % 2 = y2, l / 8 % 2 = y3, l / 16 % 2 = y4, l / 32 % 2 = y5, l / 64 % 2 = y6, l / 128 % 2 = y7
  omega
theorem b_all {h l : Nat} (hh : h < 256) (hl : l < 256) : bAN (256 * h + l) = mnyN (256 * h + l) 16 := by
  obtain ⟨a1, a2, a3, a4, a5⟩ := q3b h hh
  obtain ⟨d1, d2, d3, d4, d5⟩ := q3b l hl
  show (bA5 (bA4 (bA3 (bA2 (bA1 (256 * h + l))))) &&& 63) = _
  rw [bA1_256 hh hl, bA2_256 a1 d1, bA3_256 a2 d2 a3, mnyN_256 hl, ← a5, ← d5]
  generalize bA3 (bA2 (bA1 h)) = u at a4 ⊢
  generalize bA3 (bA2 (bA1 l)) = w at d4 ⊢
  have e4 : bA4 (256 * u + w) = 256 * u + w + u := by
    show (256 * u + w) + (256 * u + w) / 256 = _
    omega
  have e5 : bA5 (256 * u + w + u) = 256 * u + w + u := by
    show (256 * u + w + u) + (256 * u + w + u) / 65536 = _
    omega
  rw [e4, e5, show (63 : Nat) = 2 ^ 6 - 1 from rfl, Nat.and_two_pow_sub_one_eq_mod]
  omega
theorem bc16 {x : Int32} (h : x &&& 65535 = x) : bc x = mny x 16 := by
  obtain ⟨j, hj, e⟩ := pk_andE x (m := 65535) 16 (by decide)
  rw [h] at e
  rw [e, bc_n hj, mny_n hj 16 (Nat.le_refl _)]
  have := b_all (h := j / 256) (l := j % 256) (by omega) (Nat.mod_lt _ (by decide))
  rw [Nat.div_add_mod j 256] at this
  rw [this]
