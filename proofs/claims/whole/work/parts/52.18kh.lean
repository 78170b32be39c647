/-! how many bits: sixteen -/
theorem land_n {a b : Nat} (ha : a < 4294967296) (hb : b < 4294967296) : nI a &&& nI b = nI (a &&& b) := by
  apply Int32.toBitVec_inj.mp
  apply BitVec.eq_of_toNat_eq
  rw [Int32.toBitVec_and, BitVec.toNat_and, pk_tn ha, pk_tn hb, pk_tn (Nat.lt_of_le_of_lt Nat.and_le_left ha)]
theorem ush_n {m k : Nat} {s : UInt32} (h : m < 4294967296) (hs : (s.toBitVec % 32).toNat = k) : ((nI m).toUInt32 >>> s).toInt32 = nI (m / 2 ^ k) := by
  apply Int32.toBitVec_inj.mp
  apply BitVec.eq_of_toNat_eq
  rw [pk_tn (Nat.lt_of_le_of_lt (Nat.div_le_self _ _) h)]
  show ((nI m).toUInt32 >>> s).toBitVec.toNat = _
  rw [UInt32.toBitVec_shiftRight, BitVec.ushiftRight_eq', BitVec.toNat_ushiftRight, hs, Nat.shiftRight_eq_div_pow]
  show (nI m).toBitVec.toNat / _ = _
  rw [pk_tn h]
def bA1 (m : Nat) : Nat := Nat.sub m (Nat.land (Nat.div m 2) 1431655765)
def bA2 (y : Nat) : Nat := Nat.add (Nat.land y 858993459) (Nat.land (Nat.div y 4) 858993459)
def bA3 (z : Nat) : Nat := Nat.land (Nat.add z (Nat.div z 16)) 252645135
def bA4 (i : Nat) : Nat := Nat.add i (Nat.div i 256)
def bA5 (i : Nat) : Nat := Nat.add i (Nat.div i 65536)
def bAN (m : Nat) : Nat := Nat.land (bA5 (bA4 (bA3 (bA2 (bA1 m))))) 63
def cA1 (x : Int32) : Int32 := x - (((x.toUInt32 >>> ((1 : Int32).toUInt32 &&& Int32.toUInt32 31)).toInt32) &&& 1431655765)
def cA2 (x : Int32) : Int32 := (x &&& 858993459) + (((x.toUInt32 >>> ((2 : Int32).toUInt32 &&& Int32.toUInt32 31)).toInt32) &&& 858993459)
def cA3 (x : Int32) : Int32 := (x + ((x.toUInt32 >>> ((4 : Int32).toUInt32 &&& Int32.toUInt32 31)).toInt32)) &&& 252645135
def cA4 (x : Int32) : Int32 := x + ((x.toUInt32 >>> ((8 : Int32).toUInt32 &&& Int32.toUInt32 31)).toInt32)
def cA5 (x : Int32) : Int32 := x + ((x.toUInt32 >>> ((16 : Int32).toUInt32 &&& Int32.toUInt32 31)).toInt32)
theorem bc_c {x : Int32} : bc x = cA5 (cA4 (cA3 (cA2 (cA1 x)))) &&& 63 := rfl
theorem bA1_le {m : Nat} : bA1 m ≤ m := Nat.sub_le _ _
theorem bA2_le {m : Nat} : bA2 m ≤ m + m / 4 := Nat.add_le_add Nat.and_le_left Nat.and_le_left
theorem bA3_le {m : Nat} : bA3 m ≤ m + m / 16 := Nat.and_le_left
theorem cA1_n {m : Nat} (h : m < 1048576) : cA1 (nI m) = nI (bA1 m) := by
  unfold cA1
  rw [ush_n (k := 1) (by omega) (by decide), show (1431655765 : Int32) = nI 1431655765 from rfl, land_n (by omega) (by decide), pk_sub]
  · rfl
  · exact Nat.le_trans Nat.and_le_left (Nat.div_le_self _ _)
theorem cA2_n {m : Nat} (h : m < 1048576) : cA2 (nI m) = nI (bA2 m) := by
  unfold cA2
  rw [ush_n (k := 2) (by omega) (by decide), show (858993459 : Int32) = nI 858993459 from rfl, land_n (by omega) (by decide), land_n (by omega) (by decide), nI_add]
  rfl
theorem cA3_n {m : Nat} (h : m < 1048576) : cA3 (nI m) = nI (bA3 m) := by
  unfold cA3
  rw [ush_n (k := 4) (by omega) (by decide), nI_add, show (252645135 : Int32) = nI 252645135 from rfl, land_n (by omega) (by decide)]
  rfl
theorem cA4_n {m : Nat} (h : m < 1048576) : cA4 (nI m) = nI (bA4 m) := by
  unfold cA4
  rw [ush_n (k := 8) (by omega) (by decide), nI_add]
  rfl
theorem cA5_n {m : Nat} (h : m < 1048576) : cA5 (nI m) = nI (bA5 m) := by
  unfold cA5
  rw [ush_n (k := 16) (by omega) (by decide), nI_add]
  rfl
theorem bc_n {m : Nat} (h : m < 65536) : bc (nI m) = nI (bAN m) := by
  have h1 : bA1 m < 65536 := Nat.lt_of_le_of_lt bA1_le h
  have h2 : bA2 (bA1 m) < 131072 := by
    have := bA2_le (m := bA1 m)
    omega
  have h3 : bA3 (bA2 (bA1 m)) < 262144 := by
    have := bA3_le (m := bA2 (bA1 m))
    omega
  have h4 : bA4 (bA3 (bA2 (bA1 m))) < 524288 := by
    show bA3 (bA2 (bA1 m)) + bA3 (bA2 (bA1 m)) / 256 < 524288
    omega
  have h5 : bA5 (bA4 (bA3 (bA2 (bA1 m)))) < 1048576 := by
    show bA4 (bA3 (bA2 (bA1 m))) + bA4 (bA3 (bA2 (bA1 m))) / 65536 < 1048576
    omega
  rw [bc_c, cA1_n (by omega), cA2_n (by omega), cA3_n (by omega), cA4_n (by omega), cA5_n (by omega), show (63 : Int32) = nI 63 from rfl, land_n (by omega) (by decide)]
  rfl
def mnyN (m : Nat) : Nat → Nat
  | 0 => 0
  | k + 1 => Nat.add (mnyN m k) (Nat.mod (Nat.div m (Nat.pow 2 k)) 2)
theorem shNq : ∀ k, k < 16 → ((nI k &&& 31).toBitVec.smod 32).toNat = k := by decide
theorem mny_n {m : Nat} (hm : m < 65536) : ∀ k, k ≤ 16 → mny (nI m) k = nI (mnyN m k) := by
  intro k
  induction k with
  | zero => exact fun _ => rfl
  | succ k ih =>
    intro hk
    rw [mny, ih (by omega)]
    unfold bt
    rw [pk_shrN (by omega) (nI k &&& 31) k (shNq k (by omega)), pk_andN (k := 1) (Nat.lt_of_le_of_lt (Nat.div_le_self _ _) (by omega)) (by decide), nI_add]
    rfl
def mA16 (m : Nat) : Nat := mnyN m 16
set_option maxRecDepth 100000 in
theorem b_all : ∀ h, h < 256 → ∀ l, l < 256 → bAN (Nat.add (Nat.mul 256 h) l) = mA16 (Nat.add (Nat.mul 256 h) l) := by decide +kernel
theorem bc16 {x : Int32} (h : x &&& 65535 = x) : bc x = mny x 16 := by
  obtain ⟨j, hj, e⟩ := pk_andE x (m := 65535) 16 (by decide)
  rw [h] at e
  rw [e, bc_n hj, mny_n hj 16 (Nat.le_refl _)]
  have := b_all (j / 256) (by omega) (j % 256) (Nat.mod_lt _ (by decide))
  have ej : Nat.add (Nat.mul 256 (j / 256)) (j % 256) = j := Nat.div_add_mod j 256
  rw [ej] at this
  rw [this]
  rfl
