set_option maxRecDepth 100000 in
def w_M_in (Q : Option Value → xH → Prop) (p1 : Int32) (p2 : Int32) (p3 : Int32) (h : xH) : Prop := ((p1 < p2 → (narrow .boolean (.int 0) = .int 0 ∧ Q (some (.int 0)) h)) ∧ (¬ p1 < p2 → ((p3 < p1 → (narrow .boolean (.int 0) = .int 0 ∧ Q (some (.int 0)) h)) ∧ (¬ p3 < p1 → (narrow .boolean (.int 1) = .int 1 ∧ Q (some (.int 1)) h)))))
set_option maxRecDepth 100000 in
set_option maxHeartbeats 4000000 in
theorem x_M_in {sc : List Int32} {Q : Option Value → xH → Prop} {p1 : Int32} {p2 : Int32} {p3 : Int32} {h : xH} (hw : w_M_in Q p1 p2 p3 h) : xMet sc m_M_in 0 0 0 [.int (p1), .int (p2), .int (p3)] h Q := by
  unfold w_M_in at hw
  refine xMet.of2 cw_M_in rfl rfl ?_
  show xW sc m_M_in 0 0 0 0 [some (.int (p1)), some (.int (p2)), some (.int (p3))] [] h Q
  refine xw_iload_n d_M_in_0 rfl rfl ?_
  refine xw_iload_n d_M_in_1 rfl rfl ?_
  refine xw_icmp_lt (tgt := 14) d_M_in_2 (by decide) (fun c2 => ?_) (fun c2 => ?_)
  · have hw := hw.1 c2
    refine xw_iconst (v := 0) d_M_in_14 (by decide) ?_
    exact xw_zreturn rfl hw.1 d_M_in_15 hw.2
  · have hw := hw.2 c2
    refine xw_iload_n d_M_in_5 rfl rfl ?_
    refine xw_iload_n d_M_in_6 rfl rfl ?_
    refine xw_icmp_gt (tgt := 14) d_M_in_7 (by decide) (fun c1 => ?_) (fun c1 => ?_)
    · have hw := hw.1 c1
      refine xw_iconst (v := 0) d_M_in_14 (by decide) ?_
      exact xw_zreturn rfl hw.1 d_M_in_15 hw.2
    · have hw := hw.2 c1
      refine xw_iconst (v := 1) d_M_in_10 (by decide) ?_
      refine xw_goto (tgt := 15) d_M_in_11 (by decide) ?_
      exact xw_zreturn rfl hw.1 d_M_in_15 hw.2
set_option maxRecDepth 100000 in
def w_M_isNode (Q : Option Value → xH → Prop) (p1 : Int32) (h : xH) : Prop := w_M_in (fun v h1 => ∃ (x2 : Int32), v = some (.int x2) ∧ (narrow .boolean (.int x2) = .int x2 ∧ Q (some (.int x2)) h1)) p1 0 7 h
set_option maxRecDepth 100000 in
set_option maxHeartbeats 4000000 in
theorem x_M_isNode {sc : List Int32} {Q : Option Value → xH → Prop} {p1 : Int32} {h : xH} (hw : w_M_isNode Q p1 h) : xMet sc m_M_isNode 1 0 0 [.int (p1)] h Q := by
  unfold w_M_isNode at hw
  refine xMet.of2 cw_M_isNode rfl rfl ?_
  show xW sc m_M_isNode 1 0 0 0 [some (.int (p1))] [] h Q
  refine xw_iload_n d_M_isNode_0 rfl rfl ?_
  refine xw_iconst (v := 0) d_M_isNode_1 (by decide) ?_
  refine xw_bipush (v := 7) d_M_isNode_2 (by decide) ?_
  refine xc_S3i lk_M_107 st_M_in d_M_isNode_4 (x_M_in hw) rfl rfl ?_
  intro x2 h1 hw
  exact xw_zreturn rfl hw.1 d_M_isNode_7 hw.2
set_option maxRecDepth 100000 in
def w_M_isUp (Q : Option Value → xH → Prop) (this : Nat) (p1 : Int32) (h : xH) : Prop := ∃ (f1 : List Value) (a2 : Nat), h.2 this = some (.inr (8, f1)) ∧ f1[1]? = some (.ref a2) ∧ ∃ (ar5 : List Int32) (x3 : Int32), h.2 a2 = some (.inl (0, .inl ar5)) ∧ 0 ≤ p1 ∧ ar5[p1.toNatClampNeg]? = some x3 ∧ ((¬ x3 = 1 → (narrow .boolean (.int 0) = .int 0 ∧ Q (some (.int 0)) h)) ∧ (x3 = 1 → (narrow .boolean (.int 1) = .int 1 ∧ Q (some (.int 1)) h)))
set_option maxRecDepth 100000 in
set_option maxHeartbeats 4000000 in
theorem x_M_isUp {sc : List Int32} {Q : Option Value → xH → Prop} {this : Nat} {p1 : Int32} {h : xH} (hw : w_M_isUp Q this p1 h) : xMet sc m_M_isUp 0 0 0 [.ref (this), .int (p1)] h Q := by
  unfold w_M_isUp at hw
  refine xMet.of2 cw_M_isUp rfl rfl ?_
  show xW sc m_M_isUp 0 0 0 0 [some (.ref (this)), some (.int (p1))] [] h Q
  refine xw_aload_n d_M_isUp_0 rfl rfl ?_
  obtain ⟨f1, a2, hA, hB, hw⟩ := hw
  refine xw_getr fr_M_9 d_M_isUp_1 hA hB ?_
  refine xw_iload_n d_M_isUp_4 rfl rfl ?_
  obtain ⟨ar5, x3, hA, hB, hC, hw⟩ := hw
  refine xw_iaload (t := 0) rfl d_M_isUp_5 hA hB hC ?_
  refine xw_iconst (v := 1) d_M_isUp_6 (by decide) ?_
  refine xw_icmp_ne (tgt := 14) d_M_isUp_7 (by decide) (fun c4 => ?_) (fun c4 => ?_)
  · have hw := hw.1 c4
    refine xw_iconst (v := 0) d_M_isUp_14 (by decide) ?_
    exact xw_zreturn rfl hw.1 d_M_isUp_15 hw.2
  · have hw := hw.2 c4
    refine xw_iconst (v := 1) d_M_isUp_10 (by decide) ?_
    refine xw_goto (tgt := 15) d_M_isUp_11 (by decide) ?_
    exact xw_zreturn rfl hw.1 d_M_isUp_15 hw.2
set_option maxRecDepth 100000 in
def w_M_reads (Q : Option Value → xH → Prop) (p1 : Int32) (h : xH) : Prop := Q (some (.int ((p1 >>> (8 &&& 31)) &&& 15))) h
set_option maxRecDepth 100000 in
set_option maxHeartbeats 4000000 in
theorem x_M_reads {sc : List Int32} {Q : Option Value → xH → Prop} {p1 : Int32} {h : xH} (hw : w_M_reads Q p1 h) : xMet sc m_M_reads 0 0 0 [.int (p1)] h Q := by
  unfold w_M_reads at hw
  refine xMet.of2 cw_M_reads rfl rfl ?_
  show xW sc m_M_reads 0 0 0 0 [some (.int (p1))] [] h Q
  refine xw_iload_n d_M_reads_0 rfl rfl ?_
  refine xw_bipush (v := 8) d_M_reads_1 (by decide) ?_
  refine xw_ishr d_M_reads_3 ?_
  refine xw_bipush (v := 15) d_M_reads_4 (by decide) ?_
  refine xw_iand d_M_reads_6 ?_
  exact xw_ireturn rfl d_M_reads_7 hw
set_option maxRecDepth 100000 in
def w_M_stores (Q : Option Value → xH → Prop) (p1 : Int32) (h : xH) : Prop := Q (some (.int ((p1 >>> (12 &&& 31)) &&& 15))) h
set_option maxRecDepth 100000 in
set_option maxHeartbeats 4000000 in
theorem x_M_stores {sc : List Int32} {Q : Option Value → xH → Prop} {p1 : Int32} {h : xH} (hw : w_M_stores Q p1 h) : xMet sc m_M_stores 0 0 0 [.int (p1)] h Q := by
  unfold w_M_stores at hw
  refine xMet.of2 cw_M_stores rfl rfl ?_
  show xW sc m_M_stores 0 0 0 0 [some (.int (p1))] [] h Q
  refine xw_iload_n d_M_stores_0 rfl rfl ?_
  refine xw_bipush (v := 12) d_M_stores_1 (by decide) ?_
  refine xw_ishr d_M_stores_3 ?_
  refine xw_bipush (v := 15) d_M_stores_4 (by decide) ?_
  refine xw_iand d_M_stores_6 ?_
  exact xw_ireturn rfl d_M_stores_7 hw
set_option maxRecDepth 100000 in
def w_M_many_4 (Q : Option Value → xH → Prop) : Nat → Int32 → Int32 → Int32 → xH → Prop
  | 0, _, _, _, _ => False
  | n + 1, l0, l1, l2, h => ((8 ≤ l2 → Q (some (.int l1)) h) ∧ (¬ 8 ≤ l2 → w_M_many_4 Q n (l0) (l1 + ((l0 >>> (l2 &&& 31)) &&& 1)) (l2 + 1) h))
set_option maxRecDepth 100000 in
set_option maxHeartbeats 4000000 in
theorem p_M_many_4 {sc : List Int32} {Q : Option Value → xH → Prop} : ∀ (n : Nat) (l0 : Int32) (l1 : Int32) (l2 : Int32) (h : xH), w_M_many_4 Q n l0 l1 l2 h → xW sc m_M_many 0 0 0 4 [some (.int (l0)), some (.int (l1)), some (.int (l2))] [] h Q := by
  intro n
  induction n with
  | zero => intro l0 l1 l2 h hw; exact False.elim hw
  | succ n ih =>
    intro l0 l1 l2 h hw
    rw [w_M_many_4] at hw
    refine xw_iload_n d_M_many_4 rfl rfl ?_
    refine xw_bipush (v := 8) d_M_many_5 (by decide) ?_
    refine xw_icmp_ge (tgt := 24) d_M_many_7 (by decide) (fun c1 => ?_) (fun c1 => ?_)
    · have hw := hw.1 c1
      refine xw_iload_n d_M_many_24 rfl rfl ?_
      exact xw_ireturn rfl d_M_many_25 hw
    · have hw := hw.2 c1
      refine xw_iload_n d_M_many_10 rfl rfl ?_
      refine xw_iload_n d_M_many_11 rfl rfl ?_
      refine xw_iload_n d_M_many_12 rfl rfl ?_
      refine xw_ishr d_M_many_13 ?_
      refine xw_iconst (v := 1) d_M_many_14 (by decide) ?_
      refine xw_iand d_M_many_15 ?_
      refine xw_iadd d_M_many_16 ?_
      refine xs_istore_n (lv' := [some (.int (l0)), some (.int (l1 + ((l0 >>> (l2 &&& 31)) &&& 1))), some (.int (l2))]) d_M_many_17 rfl rfl rfl ?_
      refine xs_iinc (v := l2 + 1) (lv' := [some (.int (l0)), some (.int (l1 + ((l0 >>> (l2 &&& 31)) &&& 1))), some (.int (l2 + 1))]) d_M_many_18 rfl rfl rfl ?_
      refine xw_goto (tgt := 4) d_M_many_21 (by decide) ?_
      exact ih (l0) (l1 + ((l0 >>> (l2 &&& 31)) &&& 1)) (l2 + 1) h hw
set_option maxRecDepth 100000 in
def w_M_many (Q : Option Value → xH → Prop) (p1 : Int32) (h : xH) : Prop := ∃ n1, w_M_many_4 Q n1 (p1) (0) (0) h
set_option maxRecDepth 100000 in
set_option maxHeartbeats 4000000 in
theorem x_M_many {sc : List Int32} {Q : Option Value → xH → Prop} {p1 : Int32} {h : xH} (hw : w_M_many Q p1 h) : xMet sc m_M_many 0 0 0 [.int (p1)] h Q := by
  unfold w_M_many at hw
  refine xMet.of2 cw_M_many rfl rfl ?_
  show xW sc m_M_many 0 0 0 0 [some (.int (p1)), none, none] [] h Q
  refine xw_iconst (v := 0) d_M_many_0 (by decide) ?_
  refine xs_istore_n (lv' := [some (.int (p1)), some (.int (0)), none]) d_M_many_1 rfl rfl rfl ?_
  refine xw_iconst (v := 0) d_M_many_2 (by decide) ?_
  refine xs_istore_n (lv' := [some (.int (p1)), some (.int (0)), some (.int (0))]) d_M_many_3 rfl rfl rfl ?_
  obtain ⟨n1, hw⟩ := hw
  exact p_M_many_4  n1 (p1) (0) (0) h hw
set_option maxRecDepth 100000 in
def w_M_goesDown (Q : Option Value → xH → Prop) (this : Nat) (p1 : Int32) (h : xH) : Prop := ∃ (f1 : List Value) (a2 : Nat), h.2 this = some (.inr (8, f1)) ∧ f1[1]? = some (.ref a2) ∧ ∃ ar3, h.2 a2 = some (.inl (0, .inl ar3)) ∧ 0 ≤ p1 ∧ p1.toNatClampNeg < ar3.length ∧ ∀ h4, h4 = xu h a2 (.inl (0, .inl (ar3.set p1.toNatClampNeg 2))) → ∃ (f5 : List Value) (a6 : Nat), h4.2 this = some (.inr (8, f5)) ∧ f5[4]? = some (.ref a6) ∧ ∃ ar7, h4.2 a6 = some (.inl (0, .inl ar7)) ∧ 0 ≤ p1 ∧ p1.toNatClampNeg < ar7.length ∧ ∀ h8, h8 = xu h4 a6 (.inl (0, .inl (ar7.set p1.toNatClampNeg 0))) → ∃ (f9 : List Value) (a10 : Nat), h8.2 this = some (.inr (8, f9)) ∧ f9[15]? = some (.ref a10) ∧ ∃ ar11, h8.2 a10 = some (.inl (0, .inl ar11)) ∧ 0 ≤ p1 ∧ p1.toNatClampNeg < ar11.length ∧ ∀ h12, h12 = xu h8 a10 (.inl (0, .inl (ar11.set p1.toNatClampNeg 0))) → ∃ (f13 : List Value) (a14 : Nat), h12.2 this = some (.inr (8, f13)) ∧ f13[16]? = some (.ref a14) ∧ ∃ ar15, h12.2 a14 = some (.inl (0, .inl ar15)) ∧ 0 ≤ p1 ∧ p1.toNatClampNeg < ar15.length ∧ ∀ h16, h16 = xu h12 a14 (.inl (0, .inl (ar15.set p1.toNatClampNeg 0))) → ∃ (f17 : List Value) (a18 : Nat), h16.2 this = some (.inr (8, f17)) ∧ f17[17]? = some (.ref a18) ∧ ∃ ar19, h16.2 a18 = some (.inl (0, .inl ar19)) ∧ 0 ≤ p1 ∧ p1.toNatClampNeg < ar19.length ∧ ∀ h20, h20 = xu h16 a18 (.inl (0, .inl (ar19.set p1.toNatClampNeg 0))) → ∃ (f21 : List Value) (a22 : Nat), h20.2 this = some (.inr (8, f21)) ∧ f21[5]? = some (.ref a22) ∧ ∃ ar23, h20.2 a22 = some (.inl (0, .inl ar23)) ∧ 0 ≤ p1 ∧ p1.toNatClampNeg < ar23.length ∧ ∀ h24, h24 = xu h20 a22 (.inl (0, .inl (ar23.set p1.toNatClampNeg 0))) → Q none h24
set_option maxRecDepth 100000 in
set_option maxHeartbeats 4000000 in
theorem x_M_goesDown {sc : List Int32} {Q : Option Value → xH → Prop} {this : Nat} {p1 : Int32} {h : xH} (hw : w_M_goesDown Q this p1 h) : xMet sc m_M_goesDown 0 0 0 [.ref (this), .int (p1)] h Q := by
  unfold w_M_goesDown at hw
  refine xMet.of2 cw_M_goesDown rfl rfl ?_
  show xW sc m_M_goesDown 0 0 0 0 [some (.ref (this)), some (.int (p1))] [] h Q
  refine xw_aload_n d_M_goesDown_0 rfl rfl ?_
  obtain ⟨f1, a2, hA, hB, hw⟩ := hw
  refine xw_getr fr_M_9 d_M_goesDown_1 hA hB ?_
  refine xw_iload_n d_M_goesDown_4 rfl rfl ?_
  refine xw_iconst (v := 2) d_M_goesDown_5 (by decide) ?_
  obtain ⟨ar3, hA, hB, hC, hw⟩ := hw
  refine xw_iastore (t := 0) rfl d_M_goesDown_6 hA hB hC ?_
  generalize hh : xu h a2 (.inl (0, .inl (ar3.set p1.toNatClampNeg 2))) = h4
  have hw := hw h4 hh.symm
  refine xw_aload_n d_M_goesDown_7 rfl rfl ?_
  obtain ⟨f5, a6, hA, hB, hw⟩ := hw
  refine xw_getr fr_M_19 d_M_goesDown_8 hA hB ?_
  refine xw_iload_n d_M_goesDown_11 rfl rfl ?_
  refine xw_iconst (v := 0) d_M_goesDown_12 (by decide) ?_
  obtain ⟨ar7, hA, hB, hC, hw⟩ := hw
  refine xw_iastore (t := 0) rfl d_M_goesDown_13 hA hB hC ?_
  generalize hh : xu h4 a6 (.inl (0, .inl (ar7.set p1.toNatClampNeg 0))) = h8
  have hw := hw h8 hh.symm
  refine xw_aload_n d_M_goesDown_14 rfl rfl ?_
  obtain ⟨f9, a10, hA, hB, hw⟩ := hw
  refine xw_getr fr_M_49 d_M_goesDown_15 hA hB ?_
  refine xw_iload_n d_M_goesDown_18 rfl rfl ?_
  refine xw_iconst (v := 0) d_M_goesDown_19 (by decide) ?_
  obtain ⟨ar11, hA, hB, hC, hw⟩ := hw
  refine xw_iastore (t := 0) rfl d_M_goesDown_20 hA hB hC ?_
  generalize hh : xu h8 a10 (.inl (0, .inl (ar11.set p1.toNatClampNeg 0))) = h12
  have hw := hw h12 hh.symm
  refine xw_aload_n d_M_goesDown_21 rfl rfl ?_
  obtain ⟨f13, a14, hA, hB, hw⟩ := hw
  refine xw_getr fr_M_52 d_M_goesDown_22 hA hB ?_
  refine xw_iload_n d_M_goesDown_25 rfl rfl ?_
  refine xw_iconst (v := 0) d_M_goesDown_26 (by decide) ?_
  obtain ⟨ar15, hA, hB, hC, hw⟩ := hw
  refine xw_iastore (t := 0) rfl d_M_goesDown_27 hA hB hC ?_
  generalize hh : xu h12 a14 (.inl (0, .inl (ar15.set p1.toNatClampNeg 0))) = h16
  have hw := hw h16 hh.symm
  refine xw_aload_n d_M_goesDown_28 rfl rfl ?_
  obtain ⟨f17, a18, hA, hB, hw⟩ := hw
  refine xw_getr fr_M_55 d_M_goesDown_29 hA hB ?_
  refine xw_iload_n d_M_goesDown_32 rfl rfl ?_
  refine xw_iconst (v := 0) d_M_goesDown_33 (by decide) ?_
  obtain ⟨ar19, hA, hB, hC, hw⟩ := hw
  refine xw_iastore (t := 0) rfl d_M_goesDown_34 hA hB hC ?_
  generalize hh : xu h16 a18 (.inl (0, .inl (ar19.set p1.toNatClampNeg 0))) = h20
  have hw := hw h20 hh.symm
  refine xw_aload_n d_M_goesDown_35 rfl rfl ?_
  obtain ⟨f21, a22, hA, hB, hw⟩ := hw
  refine xw_getr fr_M_22 d_M_goesDown_36 hA hB ?_
  refine xw_iload_n d_M_goesDown_39 rfl rfl ?_
  refine xw_iconst (v := 0) d_M_goesDown_40 (by decide) ?_
  obtain ⟨ar23, hA, hB, hC, hw⟩ := hw
  refine xw_iastore (t := 0) rfl d_M_goesDown_41 hA hB hC ?_
  generalize hh : xu h20 a22 (.inl (0, .inl (ar23.set p1.toNatClampNeg 0))) = h24
  have hw := hw h24 hh.symm
  exact xw_return rfl d_M_goesDown_42 hw
set_option maxRecDepth 100000 in
def w_M_mayWrite_53 (Q : Option Value → xH → Prop) (l0 : Nat) (l1 : Int32) (s0 : Int32) (s1 : Int32) (s2 : Nat) (h : xH) : Prop := ∃ ar1, h.2 s2 = some (.inl (0, .inl ar1)) ∧ 0 ≤ s1 ∧ s1.toNatClampNeg < ar1.length ∧ ∀ h2, h2 = xu h s2 (.inl (0, .inl (ar1.set s1.toNatClampNeg s0))) → ∃ (f3 : List Value) (x4 : Int32), h2.2 l0 = some (.inr (8, f3)) ∧ f3[34]? = some (.int x4) ∧ ∃ f5, h2.2 l0 = some (.inr (8, f5)) ∧ 34 < f5.length ∧ ∀ h6, h6 = xu h2 l0 (.inr (8, f5.set 34 (.int (x4 + 1)))) → (narrow .boolean (.int 1) = .int 1 ∧ Q (some (.int 1)) h6)
set_option maxRecDepth 100000 in
set_option maxHeartbeats 4000000 in
theorem p_M_mayWrite_53 {sc : List Int32} {Q : Option Value → xH → Prop} (l0 : Nat) (l1 : Int32) (s0 : Int32) (s1 : Int32) (s2 : Nat) (h : xH) (hw : w_M_mayWrite_53 Q l0 l1 s0 s1 s2 h) : xW sc m_M_mayWrite 1 0 0 53 [some (.ref (l0)), some (.int (l1))] [.int (s0), .int (s1), .ref (s2)] h Q := by
  unfold w_M_mayWrite_53 at hw
  obtain ⟨ar1, hA, hB, hC, hw⟩ := hw
  refine xw_iastore (t := 0) rfl d_M_mayWrite_53 hA hB hC ?_
  generalize hh : xu h s2 (.inl (0, .inl (ar1.set s1.toNatClampNeg s0))) = h2
  have hw := hw h2 hh.symm
  refine xw_aload_n d_M_mayWrite_54 rfl rfl ?_
  refine xw_dup d_M_mayWrite_55 rfl ?_
  obtain ⟨f3, x4, hA, hB, hw⟩ := hw
  refine xw_getr fr_M_119 d_M_mayWrite_56 hA hB ?_
  refine xw_iconst (v := 1) d_M_mayWrite_59 (by decide) ?_
  refine xw_iadd d_M_mayWrite_60 ?_
  obtain ⟨f5, hA, hB, hw⟩ := hw
  refine xw_puti fs_M_119 d_M_mayWrite_61 hA hB ?_
  generalize hh : xu h2 l0 (.inr (8, f5.set 34 (.int (x4 + 1)))) = h6
  have hw := hw h6 hh.symm
  refine xw_iconst (v := 1) d_M_mayWrite_64 (by decide) ?_
  exact xw_zreturn rfl hw.1 d_M_mayWrite_65 hw.2
set_option maxRecDepth 100000 in
def w_M_mayWrite (Q : Option Value → xH → Prop) (this : Nat) (p1 : Int32) (h : xH) : Prop := (∃ f2, h.2 this = some (.inr (8, f2))) ∧ w_M_isUp (fun v h1 => ∃ (x3 : Int32), v = some (.int x3) ∧ ((¬ x3 = 0 → ∃ (f4 : List Value) (a5 : Nat), h1.2 this = some (.inr (8, f4)) ∧ f4[4]? = some (.ref a5) ∧ ∃ (ar21 : List Int32) (x6 : Int32), h1.2 a5 = some (.inl (0, .inl ar21)) ∧ 0 ≤ p1 ∧ ar21[p1.toNatClampNeg]? = some x6 ∧ ((¬ x6 = 1 → ∃ (f7 : List Value) (a8 : Nat), h1.2 this = some (.inr (8, f7)) ∧ f7[4]? = some (.ref a8) ∧ ∃ (f9 : List Value) (a10 : Nat), h1.2 this = some (.inr (8, f9)) ∧ f9[4]? = some (.ref a10) ∧ ∃ (ar17 : List Int32) (x11 : Int32), h1.2 a10 = some (.inl (0, .inl ar17)) ∧ 0 ≤ p1 ∧ ar17[p1.toNatClampNeg]? = some x11 ∧ ((x11 ≤ 0 → w_M_mayWrite_53 Q (this) (p1) (0) (p1) (a8) h1) ∧ (¬ x11 ≤ 0 → ∃ (f12 : List Value) (a13 : Nat), h1.2 this = some (.inr (8, f12)) ∧ f12[4]? = some (.ref a13) ∧ ∃ (ar15 : List Int32) (x14 : Int32), h1.2 a13 = some (.inl (0, .inl ar15)) ∧ 0 ≤ p1 ∧ ar15[p1.toNatClampNeg]? = some x14 ∧ w_M_mayWrite_53 Q (this) (p1) (x14 - 1) (p1) (a8) h1))) ∧ (x6 = 1 → (∃ f19, h1.2 this = some (.inr (8, f19))) ∧ w_M_goesDown (fun v h18 => v = none ∧ (narrow .boolean (.int 0) = .int 0 ∧ Q (some (.int 0)) h18)) this p1 h1))) ∧ (x3 = 0 → (narrow .boolean (.int 0) = .int 0 ∧ Q (some (.int 0)) h1)))) this p1 h
set_option maxRecDepth 100000 in
set_option maxHeartbeats 4000000 in
theorem x_M_mayWrite {sc : List Int32} {Q : Option Value → xH → Prop} {this : Nat} {p1 : Int32} {h : xH} (hw : w_M_mayWrite Q this p1 h) : xMet sc m_M_mayWrite 1 0 0 [.ref (this), .int (p1)] h Q := by
  unfold w_M_mayWrite at hw
  refine xMet.of2 cw_M_mayWrite rfl rfl ?_
  show xW sc m_M_mayWrite 1 0 0 0 [some (.ref (this)), some (.int (p1))] [] h Q
  refine xw_aload_n d_M_mayWrite_0 rfl rfl ?_
  refine xw_iload_n d_M_mayWrite_1 rfl rfl ?_
  obtain ⟨⟨f2, hA⟩, hw⟩ := hw
  refine xc_V1i lk_M_111 in_M_isUp d_M_mayWrite_2 (x_M_isUp hw) rfl hA rfl ?_
  intro x3 h1 hw
  refine xw_if_ne (tgt := 10) d_M_mayWrite_5 (by decide) (fun c22 => ?_) (fun c22 => ?_)
  · have hw := hw.1 c22
    refine xw_aload_n d_M_mayWrite_10 rfl rfl ?_
    obtain ⟨f4, a5, hA, hB, hw⟩ := hw
    refine xw_getr fr_M_19 d_M_mayWrite_11 hA hB ?_
    refine xw_iload_n d_M_mayWrite_14 rfl rfl ?_
    obtain ⟨ar21, x6, hA, hB, hC, hw⟩ := hw
    refine xw_iaload (t := 0) rfl d_M_mayWrite_15 hA hB hC ?_
    refine xw_iconst (v := 1) d_M_mayWrite_16 (by decide) ?_
    refine xw_icmp_ne (tgt := 27) d_M_mayWrite_17 (by decide) (fun c20 => ?_) (fun c20 => ?_)
    · have hw := hw.1 c20
      refine xw_aload_n d_M_mayWrite_27 rfl rfl ?_
      obtain ⟨f7, a8, hA, hB, hw⟩ := hw
      refine xw_getr fr_M_19 d_M_mayWrite_28 hA hB ?_
      refine xw_iload_n d_M_mayWrite_31 rfl rfl ?_
      refine xw_aload_n d_M_mayWrite_32 rfl rfl ?_
      obtain ⟨f9, a10, hA, hB, hw⟩ := hw
      refine xw_getr fr_M_19 d_M_mayWrite_33 hA hB ?_
      refine xw_iload_n d_M_mayWrite_36 rfl rfl ?_
      obtain ⟨ar17, x11, hA, hB, hC, hw⟩ := hw
      refine xw_iaload (t := 0) rfl d_M_mayWrite_37 hA hB hC ?_
      refine xw_if_le (tgt := 52) d_M_mayWrite_38 (by decide) (fun c16 => ?_) (fun c16 => ?_)
      · have hw := hw.1 c16
        refine xw_iconst (v := 0) d_M_mayWrite_52 (by decide) ?_
        exact p_M_mayWrite_53  (this) (p1) (0) (p1) (a8) h1 hw
      · have hw := hw.2 c16
        refine xw_aload_n d_M_mayWrite_41 rfl rfl ?_
        obtain ⟨f12, a13, hA, hB, hw⟩ := hw
        refine xw_getr fr_M_19 d_M_mayWrite_42 hA hB ?_
        refine xw_iload_n d_M_mayWrite_45 rfl rfl ?_
        obtain ⟨ar15, x14, hA, hB, hC, hw⟩ := hw
        refine xw_iaload (t := 0) rfl d_M_mayWrite_46 hA hB hC ?_
        refine xw_iconst (v := 1) d_M_mayWrite_47 (by decide) ?_
        refine xw_isub d_M_mayWrite_48 ?_
        refine xw_goto (tgt := 53) d_M_mayWrite_49 (by decide) ?_
        exact p_M_mayWrite_53  (this) (p1) (x14 - 1) (p1) (a8) h1 hw
    · have hw := hw.2 c20
      refine xw_aload_n d_M_mayWrite_20 rfl rfl ?_
      refine xw_iload_n d_M_mayWrite_21 rfl rfl ?_
      obtain ⟨⟨f19, hA⟩, hw⟩ := hw
      refine xc_V1n lk_M_115 in_M_goesDown d_M_mayWrite_22 (x_M_goesDown hw) rfl hA rfl ?_
      intro h18 hw
      refine xw_iconst (v := 0) d_M_mayWrite_25 (by decide) ?_
      exact xw_zreturn rfl hw.1 d_M_mayWrite_26 hw.2
  · have hw := hw.2 c22
    refine xw_iconst (v := 0) d_M_mayWrite_8 (by decide) ?_
    exact xw_zreturn rfl hw.1 d_M_mayWrite_9 hw.2
set_option maxRecDepth 100000 in
def w_M_writeRound (Q : Option Value → xH → Prop) (this : Nat) (p1 : Int32) (p2 : Int32) (h : xH) : Prop := ∃ (f1 : List Value) (a2 : Nat), h.2 this = some (.inr (8, f1)) ∧ f1[3]? = some (.ref a2) ∧ ∃ (ar13 : List Int32) (x3 : Int32), h.2 a2 = some (.inl (0, .inl ar13)) ∧ 0 ≤ p1 ∧ ar13[p1.toNatClampNeg]? = some x3 ∧ ((x3 = p2 → Q none h) ∧ (¬ x3 = p2 → (∃ f5, h.2 this = some (.inr (8, f5))) ∧ w_M_mayWrite (fun v h4 => ∃ (x6 : Int32), v = some (.int x6) ∧ ((x6 = 0 → Q none h4) ∧ (¬ x6 = 0 → ∃ (f7 : List Value) (a8 : Nat), h4.2 this = some (.inr (8, f7)) ∧ f7[3]? = some (.ref a8) ∧ ∃ ar9, h4.2 a8 = some (.inl (0, .inl ar9)) ∧ 0 ≤ p1 ∧ p1.toNatClampNeg < ar9.length ∧ ∀ h10, h10 = xu h4 a8 (.inl (0, .inl (ar9.set p1.toNatClampNeg p2))) → Q none h10))) this p1 h))
set_option maxRecDepth 100000 in
set_option maxHeartbeats 4000000 in
theorem x_M_writeRound {sc : List Int32} {Q : Option Value → xH → Prop} {this : Nat} {p1 : Int32} {p2 : Int32} {h : xH} (hw : w_M_writeRound Q this p1 p2 h) : xMet sc m_M_writeRound 2 0 0 [.ref (this), .int (p1), .int (p2)] h Q := by
  unfold w_M_writeRound at hw
  refine xMet.of2 cw_M_writeRound rfl rfl ?_
  show xW sc m_M_writeRound 2 0 0 0 [some (.ref (this)), some (.int (p1)), some (.int (p2))] [] h Q
  refine xw_aload_n d_M_writeRound_0 rfl rfl ?_
  obtain ⟨f1, a2, hA, hB, hw⟩ := hw
  refine xw_getr fr_M_16 d_M_writeRound_1 hA hB ?_
  refine xw_iload_n d_M_writeRound_4 rfl rfl ?_
  obtain ⟨ar13, x3, hA, hB, hC, hw⟩ := hw
  refine xw_iaload (t := 0) rfl d_M_writeRound_5 hA hB hC ?_
  refine xw_iload_n d_M_writeRound_6 rfl rfl ?_
  refine xw_icmp_eq (tgt := 25) d_M_writeRound_7 (by decide) (fun c12 => ?_) (fun c12 => ?_)
  · have hw := hw.1 c12
    exact xw_return rfl d_M_writeRound_25 hw
  · have hw := hw.2 c12
    refine xw_aload_n d_M_writeRound_10 rfl rfl ?_
    refine xw_iload_n d_M_writeRound_11 rfl rfl ?_
    obtain ⟨⟨f5, hA⟩, hw⟩ := hw
    refine xc_V1i lk_M_122 in_M_mayWrite d_M_writeRound_12 (x_M_mayWrite hw) rfl hA rfl ?_
    intro x6 h4 hw
    refine xw_if_eq (tgt := 25) d_M_writeRound_15 (by decide) (fun c11 => ?_) (fun c11 => ?_)
    · have hw := hw.1 c11
      exact xw_return rfl d_M_writeRound_25 hw
    · have hw := hw.2 c11
      refine xw_aload_n d_M_writeRound_18 rfl rfl ?_
      obtain ⟨f7, a8, hA, hB, hw⟩ := hw
      refine xw_getr fr_M_16 d_M_writeRound_19 hA hB ?_
      refine xw_iload_n d_M_writeRound_22 rfl rfl ?_
      refine xw_iload_n d_M_writeRound_23 rfl rfl ?_
      obtain ⟨ar9, hA, hB, hC, hw⟩ := hw
      refine xw_iastore (t := 0) rfl d_M_writeRound_24 hA hB hC ?_
      generalize hh : xu h4 a8 (.inl (0, .inl (ar9.set p1.toNatClampNeg p2))) = h10
      have hw := hw h10 hh.symm
      exact xw_return rfl d_M_writeRound_25 hw
set_option maxRecDepth 100000 in
def w_M_isGreater_15 (Q : Option Value → xH → Prop) (l0 : Int32) (l1 : Int32) (l2 : Int32) (l3 : Int32) (h : xH) : Prop := (narrow .boolean (.int 1) = .int 1 ∧ Q (some (.int 1)) h)
set_option maxRecDepth 100000 in
set_option maxHeartbeats 4000000 in
theorem p_M_isGreater_15 {sc : List Int32} {Q : Option Value → xH → Prop} (l0 : Int32) (l1 : Int32) (l2 : Int32) (l3 : Int32) (h : xH) (hw : w_M_isGreater_15 Q l0 l1 l2 l3 h) : xW sc m_M_isGreater 0 0 0 15 [some (.int (l0)), some (.int (l1)), some (.int (l2)), some (.int (l3))] [] h Q := by
  unfold w_M_isGreater_15 at hw
  refine xw_iconst (v := 1) d_M_isGreater_15 (by decide) ?_
  refine xw_goto (tgt := 20) d_M_isGreater_16 (by decide) ?_
  exact xw_zreturn rfl hw.1 d_M_isGreater_20 hw.2
set_option maxRecDepth 100000 in
def w_M_isGreater (Q : Option Value → xH → Prop) (p1 : Int32) (p2 : Int32) (p3 : Int32) (p4 : Int32) (h : xH) : Prop := ((p3 < p1 → w_M_isGreater_15 Q (p1) (p2) (p3) (p4) h) ∧ (¬ p3 < p1 → ((¬ p1 = p3 → (narrow .boolean (.int 0) = .int 0 ∧ Q (some (.int 0)) h)) ∧ (p1 = p3 → ((p2 ≤ p4 → (narrow .boolean (.int 0) = .int 0 ∧ Q (some (.int 0)) h)) ∧ (¬ p2 ≤ p4 → w_M_isGreater_15 Q (p1) (p2) (p3) (p4) h))))))
set_option maxRecDepth 100000 in
set_option maxHeartbeats 4000000 in
theorem x_M_isGreater {sc : List Int32} {Q : Option Value → xH → Prop} {p1 : Int32} {p2 : Int32} {p3 : Int32} {p4 : Int32} {h : xH} (hw : w_M_isGreater Q p1 p2 p3 p4 h) : xMet sc m_M_isGreater 0 0 0 [.int (p1), .int (p2), .int (p3), .int (p4)] h Q := by
  unfold w_M_isGreater at hw
  refine xMet.of2 cw_M_isGreater rfl rfl ?_
  show xW sc m_M_isGreater 0 0 0 0 [some (.int (p1)), some (.int (p2)), some (.int (p3)), some (.int (p4))] [] h Q
  refine xw_iload_n d_M_isGreater_0 rfl rfl ?_
  refine xw_iload_n d_M_isGreater_1 rfl rfl ?_
  refine xw_icmp_gt (tgt := 15) d_M_isGreater_2 (by decide) (fun c3 => ?_) (fun c3 => ?_)
  · have hw := hw.1 c3
    exact p_M_isGreater_15  (p1) (p2) (p3) (p4) h hw
  · have hw := hw.2 c3
    refine xw_iload_n d_M_isGreater_5 rfl rfl ?_
    refine xw_iload_n d_M_isGreater_6 rfl rfl ?_
    refine xw_icmp_ne (tgt := 19) d_M_isGreater_7 (by decide) (fun c2 => ?_) (fun c2 => ?_)
    · have hw := hw.1 c2
      refine xw_iconst (v := 0) d_M_isGreater_19 (by decide) ?_
      exact xw_zreturn rfl hw.1 d_M_isGreater_20 hw.2
    · have hw := hw.2 c2
      refine xw_iload_n d_M_isGreater_10 rfl rfl ?_
      refine xw_iload_n d_M_isGreater_11 rfl rfl ?_
      refine xw_icmp_le (tgt := 19) d_M_isGreater_12 (by decide) (fun c1 => ?_) (fun c1 => ?_)
      · have hw := hw.1 c1
        refine xw_iconst (v := 0) d_M_isGreater_19 (by decide) ?_
        exact xw_zreturn rfl hw.1 d_M_isGreater_20 hw.2
      · have hw := hw.2 c1
        exact p_M_isGreater_15  (p1) (p2) (p3) (p4) h hw
set_option maxRecDepth 100000 in
def w_M_store (Q : Option Value → xH → Prop) (this : Nat) (p1 : Int32) (p2 : Int32) (p3 : Int32) (p4 : Int32) (p5 : Int32) (h : xH) : Prop := ∃ (f1 : List Value) (a2 : Nat), h.2 this = some (.inr (8, f1)) ∧ f1[6]? = some (.ref a2) ∧ ∃ (ar27 : List Int32) (x3 : Int32), h.2 a2 = some (.inl (0, .inl ar27)) ∧ 0 ≤ ((4 * p1) + p2 : Int32) ∧ ar27[((4 * p1) + p2 : Int32).toNatClampNeg]? = some x3 ∧ ∃ (f4 : List Value) (a5 : Nat), h.2 this = some (.inr (8, f4)) ∧ f4[7]? = some (.ref a5) ∧ ∃ (ar26 : List Int32) (x6 : Int32), h.2 a5 = some (.inl (0, .inl ar26)) ∧ 0 ≤ ((4 * p1) + p2 : Int32) ∧ ar26[((4 * p1) + p2 : Int32).toNatClampNeg]? = some x6 ∧ w_M_isGreater (fun v h7 => ∃ (x8 : Int32), v = some (.int x8) ∧ ((x8 = 0 → Q none h7) ∧ (¬ x8 = 0 → (∃ f10, h7.2 this = some (.inr (8, f10))) ∧ w_M_mayWrite (fun v h9 => ∃ (x11 : Int32), v = some (.int x11) ∧ ((¬ x11 = 0 → ∃ (f12 : List Value) (a13 : Nat), h9.2 this = some (.inr (8, f12)) ∧ f12[6]? = some (.ref a13) ∧ ∃ ar14, h9.2 a13 = some (.inl (0, .inl ar14)) ∧ 0 ≤ ((4 * p1) + p2 : Int32) ∧ ((4 * p1) + p2 : Int32).toNatClampNeg < ar14.length ∧ ∀ h15, h15 = xu h9 a13 (.inl (0, .inl (ar14.set ((4 * p1) + p2 : Int32).toNatClampNeg p3))) → ∃ (f16 : List Value) (a17 : Nat), h15.2 this = some (.inr (8, f16)) ∧ f16[7]? = some (.ref a17) ∧ ∃ ar18, h15.2 a17 = some (.inl (0, .inl ar18)) ∧ 0 ≤ ((4 * p1) + p2 : Int32) ∧ ((4 * p1) + p2 : Int32).toNatClampNeg < ar18.length ∧ ∀ h19, h19 = xu h15 a17 (.inl (0, .inl (ar18.set ((4 * p1) + p2 : Int32).toNatClampNeg p4))) → ∃ (f20 : List Value) (a21 : Nat), h19.2 this = some (.inr (8, f20)) ∧ f20[8]? = some (.ref a21) ∧ ∃ ar22, h19.2 a21 = some (.inl (0, .inl ar22)) ∧ 0 ≤ ((4 * p1) + p2 : Int32) ∧ ((4 * p1) + p2 : Int32).toNatClampNeg < ar22.length ∧ ∀ h23, h23 = xu h19 a21 (.inl (0, .inl (ar22.set ((4 * p1) + p2 : Int32).toNatClampNeg p5))) → Q none h23) ∧ (x11 = 0 → Q none h9))) this p1 h7))) p3 p4 x3 x6 h
set_option maxRecDepth 100000 in
set_option maxHeartbeats 4000000 in
theorem x_M_store {sc : List Int32} {Q : Option Value → xH → Prop} {this : Nat} {p1 : Int32} {p2 : Int32} {p3 : Int32} {p4 : Int32} {p5 : Int32} {h : xH} (hw : w_M_store Q this p1 p2 p3 p4 p5 h) : xMet sc m_M_store 2 0 0 [.ref (this), .int (p1), .int (p2), .int (p3), .int (p4), .int (p5)] h Q := by
  unfold w_M_store at hw
  refine xMet.of2 cw_M_store rfl rfl ?_
  show xW sc m_M_store 2 0 0 0 [some (.ref (this)), some (.int (p1)), some (.int (p2)), some (.int (p3)), some (.int (p4)), some (.int (p5)), none] [] h Q
  refine xw_iconst (v := 4) d_M_store_0 (by decide) ?_
  refine xw_iload_n d_M_store_1 rfl rfl ?_
  refine xw_imul d_M_store_2 ?_
  refine xw_iload_n d_M_store_3 rfl rfl ?_
  refine xw_iadd d_M_store_4 ?_
  refine xs_istore (lv' := [some (.ref (this)), some (.int (p1)), some (.int (p2)), some (.int (p3)), some (.int (p4)), some (.int (p5)), some (.int ((4 * p1) + p2))]) d_M_store_5 rfl rfl ?_
  refine xw_iload_n d_M_store_7 rfl rfl ?_
  refine xw_iload d_M_store_8 rfl ?_
  refine xw_aload_n d_M_store_10 rfl rfl ?_
  obtain ⟨f1, a2, hA, hB, hw⟩ := hw
  refine xw_getr fr_M_25 d_M_store_11 hA hB ?_
  refine xw_iload d_M_store_14 rfl ?_
  obtain ⟨ar27, x3, hA, hB, hC, hw⟩ := hw
  refine xw_iaload (t := 0) rfl d_M_store_16 hA hB hC ?_
  refine xw_aload_n d_M_store_17 rfl rfl ?_
  obtain ⟨f4, a5, hA, hB, hw⟩ := hw
  refine xw_getr fr_M_28 d_M_store_18 hA hB ?_
  refine xw_iload d_M_store_21 rfl ?_
  obtain ⟨ar26, x6, hA, hB, hC, hw⟩ := hw
  refine xw_iaload (t := 0) rfl d_M_store_23 hA hB hC ?_
  refine xc_S4i lk_M_125 st_M_isGreater d_M_store_24 (x_M_isGreater hw) rfl rfl ?_
  intro x8 h7 hw
  refine xw_if_eq (tgt := 38) d_M_store_27 (by decide) (fun c25 => ?_) (fun c25 => ?_)
  · have hw := hw.1 c25
    exact xw_return rfl d_M_store_38 hw
  · have hw := hw.2 c25
    refine xw_aload_n d_M_store_30 rfl rfl ?_
    refine xw_iload_n d_M_store_31 rfl rfl ?_
    obtain ⟨⟨f10, hA⟩, hw⟩ := hw
    refine xc_V1i lk_M_122 in_M_mayWrite d_M_store_32 (x_M_mayWrite hw) rfl hA rfl ?_
    intro x11 h9 hw
    refine xw_if_ne (tgt := 39) d_M_store_35 (by decide) (fun c24 => ?_) (fun c24 => ?_)
    · have hw := hw.1 c24
      refine xw_aload_n d_M_store_39 rfl rfl ?_
      obtain ⟨f12, a13, hA, hB, hw⟩ := hw
      refine xw_getr fr_M_25 d_M_store_40 hA hB ?_
      refine xw_iload d_M_store_43 rfl ?_
      refine xw_iload_n d_M_store_45 rfl rfl ?_
      obtain ⟨ar14, hA, hB, hC, hw⟩ := hw
      refine xw_iastore (t := 0) rfl d_M_store_46 hA hB hC ?_
      generalize hh : xu h9 a13 (.inl (0, .inl (ar14.set ((4 * p1) + p2 : Int32).toNatClampNeg p3))) = h15
      have hw := hw h15 hh.symm
      refine xw_aload_n d_M_store_47 rfl rfl ?_
      obtain ⟨f16, a17, hA, hB, hw⟩ := hw
      refine xw_getr fr_M_28 d_M_store_48 hA hB ?_
      refine xw_iload d_M_store_51 rfl ?_
      refine xw_iload d_M_store_53 rfl ?_
      obtain ⟨ar18, hA, hB, hC, hw⟩ := hw
      refine xw_iastore (t := 0) rfl d_M_store_55 hA hB hC ?_
      generalize hh : xu h15 a17 (.inl (0, .inl (ar18.set ((4 * p1) + p2 : Int32).toNatClampNeg p4))) = h19
      have hw := hw h19 hh.symm
      refine xw_aload_n d_M_store_56 rfl rfl ?_
      obtain ⟨f20, a21, hA, hB, hw⟩ := hw
      refine xw_getr fr_M_31 d_M_store_57 hA hB ?_
      refine xw_iload d_M_store_60 rfl ?_
      refine xw_iload d_M_store_62 rfl ?_
      obtain ⟨ar22, hA, hB, hC, hw⟩ := hw
      refine xw_iastore (t := 0) rfl d_M_store_64 hA hB hC ?_
      generalize hh : xu h19 a21 (.inl (0, .inl (ar22.set ((4 * p1) + p2 : Int32).toNatClampNeg p5))) = h23
      have hw := hw h23 hh.symm
      exact xw_return rfl d_M_store_65 hw
    · have hw := hw.2 c24
      exact xw_return rfl d_M_store_38 hw
set_option maxRecDepth 100000 in
def w_M_writeMap_31 (Q : Option Value → xH → Prop) (l0 : Nat) (l1 : Int32) (l2 : Int32) (l3 : Int32) (l4 : Int32) (l5 : Int32) (h : xH) : Prop := (∃ f2, h.2 l0 = some (.inr (8, f2))) ∧ w_M_mayWrite (fun v h1 => ∃ (x3 : Int32), v = some (.int x3) ∧ ((¬ x3 = 0 → ∃ (f4 : List Value) (a5 : Nat), h1.2 l0 = some (.inr (8, f4)) ∧ f4[9]? = some (.ref a5) ∧ ∃ ar6, h1.2 a5 = some (.inl (0, .inl ar6)) ∧ 0 ≤ l5 ∧ l5.toNatClampNeg < ar6.length ∧ ∀ h7, h7 = xu h1 a5 (.inl (0, .inl (ar6.set l5.toNatClampNeg l3))) → ∃ (f8 : List Value) (a9 : Nat), h7.2 l0 = some (.inr (8, f8)) ∧ f8[10]? = some (.ref a9) ∧ ∃ ar10, h7.2 a9 = some (.inl (0, .inl ar10)) ∧ 0 ≤ l5 ∧ l5.toNatClampNeg < ar10.length ∧ ∀ h11, h11 = xu h7 a9 (.inl (0, .inl (ar10.set l5.toNatClampNeg l4))) → Q none h11) ∧ (x3 = 0 → Q none h1))) l0 l1 h
set_option maxRecDepth 100000 in
set_option maxHeartbeats 4000000 in
theorem p_M_writeMap_31 {sc : List Int32} {Q : Option Value → xH → Prop} (l0 : Nat) (l1 : Int32) (l2 : Int32) (l3 : Int32) (l4 : Int32) (l5 : Int32) (h : xH) (hw : w_M_writeMap_31 Q l0 l1 l2 l3 l4 l5 h) : xW sc m_M_writeMap 2 0 0 31 [some (.ref (l0)), some (.int (l1)), some (.int (l2)), some (.int (l3)), some (.int (l4)), some (.int (l5))] [] h Q := by
  unfold w_M_writeMap_31 at hw
  refine xw_aload_n d_M_writeMap_31 rfl rfl ?_
  refine xw_iload_n d_M_writeMap_32 rfl rfl ?_
  obtain ⟨⟨f2, hA⟩, hw⟩ := hw
  refine xc_V1i lk_M_122 in_M_mayWrite d_M_writeMap_33 (x_M_mayWrite hw) rfl hA rfl ?_
  intro x3 h1 hw
  refine xw_if_ne (tgt := 40) d_M_writeMap_36 (by decide) (fun c12 => ?_) (fun c12 => ?_)
  · have hw := hw.1 c12
    refine xw_aload_n d_M_writeMap_40 rfl rfl ?_
    obtain ⟨f4, a5, hA, hB, hw⟩ := hw
    refine xw_getr fr_M_34 d_M_writeMap_41 hA hB ?_
    refine xw_iload d_M_writeMap_44 rfl ?_
    refine xw_iload_n d_M_writeMap_46 rfl rfl ?_
    obtain ⟨ar6, hA, hB, hC, hw⟩ := hw
    refine xw_iastore (t := 0) rfl d_M_writeMap_47 hA hB hC ?_
    generalize hh : xu h1 a5 (.inl (0, .inl (ar6.set l5.toNatClampNeg l3))) = h7
    have hw := hw h7 hh.symm
    refine xw_aload_n d_M_writeMap_48 rfl rfl ?_
    obtain ⟨f8, a9, hA, hB, hw⟩ := hw
    refine xw_getr fr_M_37 d_M_writeMap_49 hA hB ?_
    refine xw_iload d_M_writeMap_52 rfl ?_
    refine xw_iload d_M_writeMap_54 rfl ?_
    obtain ⟨ar10, hA, hB, hC, hw⟩ := hw
    refine xw_iastore (t := 0) rfl d_M_writeMap_56 hA hB hC ?_
    generalize hh : xu h7 a9 (.inl (0, .inl (ar10.set l5.toNatClampNeg l4))) = h11
    have hw := hw h11 hh.symm
    exact xw_return rfl d_M_writeMap_57 hw
  · have hw := hw.2 c12
    exact xw_return rfl d_M_writeMap_39 hw
set_option maxRecDepth 100000 in
def w_M_writeMap (Q : Option Value → xH → Prop) (this : Nat) (p1 : Int32) (p2 : Int32) (p3 : Int32) (p4 : Int32) (h : xH) : Prop := ∃ (f1 : List Value) (a2 : Nat), h.2 this = some (.inr (8, f1)) ∧ f1[9]? = some (.ref a2) ∧ ∃ (ar10 : List Int32) (x3 : Int32), h.2 a2 = some (.inl (0, .inl ar10)) ∧ 0 ≤ ((16 * p1) + p2 : Int32) ∧ ar10[((16 * p1) + p2 : Int32).toNatClampNeg]? = some x3 ∧ ((¬ x3 = p3 → w_M_writeMap_31 Q (this) (p1) (p2) (p3) (p4) ((16 * p1) + p2) h) ∧ (x3 = p3 → ∃ (f4 : List Value) (a5 : Nat), h.2 this = some (.inr (8, f4)) ∧ f4[10]? = some (.ref a5) ∧ ∃ (ar8 : List Int32) (x6 : Int32), h.2 a5 = some (.inl (0, .inl ar8)) ∧ 0 ≤ ((16 * p1) + p2 : Int32) ∧ ar8[((16 * p1) + p2 : Int32).toNatClampNeg]? = some x6 ∧ ((x6 = p4 → Q none h) ∧ (¬ x6 = p4 → w_M_writeMap_31 Q (this) (p1) (p2) (p3) (p4) ((16 * p1) + p2) h))))
set_option maxRecDepth 100000 in
set_option maxHeartbeats 4000000 in
theorem x_M_writeMap {sc : List Int32} {Q : Option Value → xH → Prop} {this : Nat} {p1 : Int32} {p2 : Int32} {p3 : Int32} {p4 : Int32} {h : xH} (hw : w_M_writeMap Q this p1 p2 p3 p4 h) : xMet sc m_M_writeMap 2 0 0 [.ref (this), .int (p1), .int (p2), .int (p3), .int (p4)] h Q := by
  unfold w_M_writeMap at hw
  refine xMet.of2 cw_M_writeMap rfl rfl ?_
  show xW sc m_M_writeMap 2 0 0 0 [some (.ref (this)), some (.int (p1)), some (.int (p2)), some (.int (p3)), some (.int (p4)), none] [] h Q
  refine xw_bipush (v := 16) d_M_writeMap_0 (by decide) ?_
  refine xw_iload_n d_M_writeMap_2 rfl rfl ?_
  refine xw_imul d_M_writeMap_3 ?_
  refine xw_iload_n d_M_writeMap_4 rfl rfl ?_
  refine xw_iadd d_M_writeMap_5 ?_
  refine xs_istore (lv' := [some (.ref (this)), some (.int (p1)), some (.int (p2)), some (.int (p3)), some (.int (p4)), some (.int ((16 * p1) + p2))]) d_M_writeMap_6 rfl rfl ?_
  refine xw_aload_n d_M_writeMap_8 rfl rfl ?_
  obtain ⟨f1, a2, hA, hB, hw⟩ := hw
  refine xw_getr fr_M_34 d_M_writeMap_9 hA hB ?_
  refine xw_iload d_M_writeMap_12 rfl ?_
  obtain ⟨ar10, x3, hA, hB, hC, hw⟩ := hw
  refine xw_iaload (t := 0) rfl d_M_writeMap_14 hA hB hC ?_
  refine xw_iload_n d_M_writeMap_15 rfl rfl ?_
  refine xw_icmp_ne (tgt := 31) d_M_writeMap_16 (by decide) (fun c9 => ?_) (fun c9 => ?_)
  · have hw := hw.1 c9
    exact p_M_writeMap_31  (this) (p1) (p2) (p3) (p4) ((16 * p1) + p2) h hw
  · have hw := hw.2 c9
    refine xw_aload_n d_M_writeMap_19 rfl rfl ?_
    obtain ⟨f4, a5, hA, hB, hw⟩ := hw
    refine xw_getr fr_M_37 d_M_writeMap_20 hA hB ?_
    refine xw_iload d_M_writeMap_23 rfl ?_
    obtain ⟨ar8, x6, hA, hB, hC, hw⟩ := hw
    refine xw_iaload (t := 0) rfl d_M_writeMap_25 hA hB hC ?_
    refine xw_iload d_M_writeMap_26 rfl ?_
    refine xw_icmp_eq (tgt := 39) d_M_writeMap_28 (by decide) (fun c7 => ?_) (fun c7 => ?_)
    · have hw := hw.1 c7
      exact xw_return rfl d_M_writeMap_39 hw
    · have hw := hw.2 c7
      exact p_M_writeMap_31  (this) (p1) (p2) (p3) (p4) ((16 * p1) + p2) h hw
set_option maxRecDepth 100000 in
def w_M_writeVote_43 (Q : Option Value → xH → Prop) (l0 : Nat) (l1 : Int32) (l2 : Int32) (l3 : Int32) (l4 : Int32) (l5 : Int32) (l6 : Int32) (h : xH) : Prop := (∃ f2, h.2 l0 = some (.inr (8, f2))) ∧ w_M_mayWrite (fun v h1 => ∃ (x3 : Int32), v = some (.int x3) ∧ ((¬ x3 = 0 → ∃ (f4 : List Value) (a5 : Nat), h1.2 l0 = some (.inr (8, f4)) ∧ f4[11]? = some (.ref a5) ∧ ∃ ar6, h1.2 a5 = some (.inl (0, .inl ar6)) ∧ 0 ≤ l6 ∧ l6.toNatClampNeg < ar6.length ∧ ∀ h7, h7 = xu h1 a5 (.inl (0, .inl (ar6.set l6.toNatClampNeg l3))) → ∃ (f8 : List Value) (a9 : Nat), h7.2 l0 = some (.inr (8, f8)) ∧ f8[12]? = some (.ref a9) ∧ ∃ ar10, h7.2 a9 = some (.inl (0, .inl ar10)) ∧ 0 ≤ l6 ∧ l6.toNatClampNeg < ar10.length ∧ ∀ h11, h11 = xu h7 a9 (.inl (0, .inl (ar10.set l6.toNatClampNeg l4))) → ∃ (f12 : List Value) (a13 : Nat), h11.2 l0 = some (.inr (8, f12)) ∧ f12[13]? = some (.ref a13) ∧ ∃ ar14, h11.2 a13 = some (.inl (0, .inl ar14)) ∧ 0 ≤ l6 ∧ l6.toNatClampNeg < ar14.length ∧ ∀ h15, h15 = xu h11 a13 (.inl (0, .inl (ar14.set l6.toNatClampNeg l5))) → Q none h15) ∧ (x3 = 0 → Q none h1))) l0 l1 h
set_option maxRecDepth 100000 in
set_option maxHeartbeats 4000000 in
theorem p_M_writeVote_43 {sc : List Int32} {Q : Option Value → xH → Prop} (l0 : Nat) (l1 : Int32) (l2 : Int32) (l3 : Int32) (l4 : Int32) (l5 : Int32) (l6 : Int32) (h : xH) (hw : w_M_writeVote_43 Q l0 l1 l2 l3 l4 l5 l6 h) : xW sc m_M_writeVote 2 0 0 43 [some (.ref (l0)), some (.int (l1)), some (.int (l2)), some (.int (l3)), some (.int (l4)), some (.int (l5)), some (.int (l6))] [] h Q := by
  unfold w_M_writeVote_43 at hw
  refine xw_aload_n d_M_writeVote_43 rfl rfl ?_
  refine xw_iload_n d_M_writeVote_44 rfl rfl ?_
  obtain ⟨⟨f2, hA⟩, hw⟩ := hw
  refine xc_V1i lk_M_122 in_M_mayWrite d_M_writeVote_45 (x_M_mayWrite hw) rfl hA rfl ?_
  intro x3 h1 hw
  refine xw_if_ne (tgt := 52) d_M_writeVote_48 (by decide) (fun c16 => ?_) (fun c16 => ?_)
  · have hw := hw.1 c16
    refine xw_aload_n d_M_writeVote_52 rfl rfl ?_
    obtain ⟨f4, a5, hA, hB, hw⟩ := hw
    refine xw_getr fr_M_40 d_M_writeVote_53 hA hB ?_
    refine xw_iload d_M_writeVote_56 rfl ?_
    refine xw_iload_n d_M_writeVote_58 rfl rfl ?_
    obtain ⟨ar6, hA, hB, hC, hw⟩ := hw
    refine xw_iastore (t := 0) rfl d_M_writeVote_59 hA hB hC ?_
    generalize hh : xu h1 a5 (.inl (0, .inl (ar6.set l6.toNatClampNeg l3))) = h7
    have hw := hw h7 hh.symm
    refine xw_aload_n d_M_writeVote_60 rfl rfl ?_
    obtain ⟨f8, a9, hA, hB, hw⟩ := hw
    refine xw_getr fr_M_43 d_M_writeVote_61 hA hB ?_
    refine xw_iload d_M_writeVote_64 rfl ?_
    refine xw_iload d_M_writeVote_66 rfl ?_
    obtain ⟨ar10, hA, hB, hC, hw⟩ := hw
    refine xw_iastore (t := 0) rfl d_M_writeVote_68 hA hB hC ?_
    generalize hh : xu h7 a9 (.inl (0, .inl (ar10.set l6.toNatClampNeg l4))) = h11
    have hw := hw h11 hh.symm
    refine xw_aload_n d_M_writeVote_69 rfl rfl ?_
    obtain ⟨f12, a13, hA, hB, hw⟩ := hw
    refine xw_getr fr_M_46 d_M_writeVote_70 hA hB ?_
    refine xw_iload d_M_writeVote_73 rfl ?_
    refine xw_iload d_M_writeVote_75 rfl ?_
    obtain ⟨ar14, hA, hB, hC, hw⟩ := hw
    refine xw_iastore (t := 0) rfl d_M_writeVote_77 hA hB hC ?_
    generalize hh : xu h11 a13 (.inl (0, .inl (ar14.set l6.toNatClampNeg l5))) = h15
    have hw := hw h15 hh.symm
    exact xw_return rfl d_M_writeVote_78 hw
  · have hw := hw.2 c16
    exact xw_return rfl d_M_writeVote_51 hw
set_option maxRecDepth 100000 in
def w_M_writeVote (Q : Option Value → xH → Prop) (this : Nat) (p1 : Int32) (p2 : Int32) (p3 : Int32) (p4 : Int32) (p5 : Int32) (h : xH) : Prop := ∃ (f1 : List Value) (a2 : Nat), h.2 this = some (.inr (8, f1)) ∧ f1[11]? = some (.ref a2) ∧ ∃ (ar15 : List Int32) (x3 : Int32), h.2 a2 = some (.inl (0, .inl ar15)) ∧ 0 ≤ ((16 * p1) + p2 : Int32) ∧ ar15[((16 * p1) + p2 : Int32).toNatClampNeg]? = some x3 ∧ ((¬ x3 = p3 → w_M_writeVote_43 Q (this) (p1) (p2) (p3) (p4) (p5) ((16 * p1) + p2) h) ∧ (x3 = p3 → ∃ (f4 : List Value) (a5 : Nat), h.2 this = some (.inr (8, f4)) ∧ f4[12]? = some (.ref a5) ∧ ∃ (ar13 : List Int32) (x6 : Int32), h.2 a5 = some (.inl (0, .inl ar13)) ∧ 0 ≤ ((16 * p1) + p2 : Int32) ∧ ar13[((16 * p1) + p2 : Int32).toNatClampNeg]? = some x6 ∧ ((¬ x6 = p4 → w_M_writeVote_43 Q (this) (p1) (p2) (p3) (p4) (p5) ((16 * p1) + p2) h) ∧ (x6 = p4 → ∃ (f7 : List Value) (a8 : Nat), h.2 this = some (.inr (8, f7)) ∧ f7[13]? = some (.ref a8) ∧ ∃ (ar11 : List Int32) (x9 : Int32), h.2 a8 = some (.inl (0, .inl ar11)) ∧ 0 ≤ ((16 * p1) + p2 : Int32) ∧ ar11[((16 * p1) + p2 : Int32).toNatClampNeg]? = some x9 ∧ ((x9 = p5 → Q none h) ∧ (¬ x9 = p5 → w_M_writeVote_43 Q (this) (p1) (p2) (p3) (p4) (p5) ((16 * p1) + p2) h))))))
set_option maxRecDepth 100000 in
set_option maxHeartbeats 4000000 in
theorem x_M_writeVote {sc : List Int32} {Q : Option Value → xH → Prop} {this : Nat} {p1 : Int32} {p2 : Int32} {p3 : Int32} {p4 : Int32} {p5 : Int32} {h : xH} (hw : w_M_writeVote Q this p1 p2 p3 p4 p5 h) : xMet sc m_M_writeVote 2 0 0 [.ref (this), .int (p1), .int (p2), .int (p3), .int (p4), .int (p5)] h Q := by
  unfold w_M_writeVote at hw
  refine xMet.of2 cw_M_writeVote rfl rfl ?_
  show xW sc m_M_writeVote 2 0 0 0 [some (.ref (this)), some (.int (p1)), some (.int (p2)), some (.int (p3)), some (.int (p4)), some (.int (p5)), none] [] h Q
  refine xw_bipush (v := 16) d_M_writeVote_0 (by decide) ?_
  refine xw_iload_n d_M_writeVote_2 rfl rfl ?_
  refine xw_imul d_M_writeVote_3 ?_
  refine xw_iload_n d_M_writeVote_4 rfl rfl ?_
  refine xw_iadd d_M_writeVote_5 ?_
  refine xs_istore (lv' := [some (.ref (this)), some (.int (p1)), some (.int (p2)), some (.int (p3)), some (.int (p4)), some (.int (p5)), some (.int ((16 * p1) + p2))]) d_M_writeVote_6 rfl rfl ?_
  refine xw_aload_n d_M_writeVote_8 rfl rfl ?_
  obtain ⟨f1, a2, hA, hB, hw⟩ := hw
  refine xw_getr fr_M_40 d_M_writeVote_9 hA hB ?_
  refine xw_iload d_M_writeVote_12 rfl ?_
  obtain ⟨ar15, x3, hA, hB, hC, hw⟩ := hw
  refine xw_iaload (t := 0) rfl d_M_writeVote_14 hA hB hC ?_
  refine xw_iload_n d_M_writeVote_15 rfl rfl ?_
  refine xw_icmp_ne (tgt := 43) d_M_writeVote_16 (by decide) (fun c14 => ?_) (fun c14 => ?_)
  · have hw := hw.1 c14
    exact p_M_writeVote_43  (this) (p1) (p2) (p3) (p4) (p5) ((16 * p1) + p2) h hw
  · have hw := hw.2 c14
    refine xw_aload_n d_M_writeVote_19 rfl rfl ?_
    obtain ⟨f4, a5, hA, hB, hw⟩ := hw
    refine xw_getr fr_M_43 d_M_writeVote_20 hA hB ?_
    refine xw_iload d_M_writeVote_23 rfl ?_
    obtain ⟨ar13, x6, hA, hB, hC, hw⟩ := hw
    refine xw_iaload (t := 0) rfl d_M_writeVote_25 hA hB hC ?_
    refine xw_iload d_M_writeVote_26 rfl ?_
    refine xw_icmp_ne (tgt := 43) d_M_writeVote_28 (by decide) (fun c12 => ?_) (fun c12 => ?_)
    · have hw := hw.1 c12
      exact p_M_writeVote_43  (this) (p1) (p2) (p3) (p4) (p5) ((16 * p1) + p2) h hw
    · have hw := hw.2 c12
      refine xw_aload_n d_M_writeVote_31 rfl rfl ?_
      obtain ⟨f7, a8, hA, hB, hw⟩ := hw
      refine xw_getr fr_M_46 d_M_writeVote_32 hA hB ?_
      refine xw_iload d_M_writeVote_35 rfl ?_
      obtain ⟨ar11, x9, hA, hB, hC, hw⟩ := hw
      refine xw_iaload (t := 0) rfl d_M_writeVote_37 hA hB hC ?_
      refine xw_iload d_M_writeVote_38 rfl ?_
      refine xw_icmp_eq (tgt := 51) d_M_writeVote_40 (by decide) (fun c10 => ?_) (fun c10 => ?_)
      · have hw := hw.1 c10
        exact xw_return rfl d_M_writeVote_51 hw
      · have hw := hw.2 c10
        exact p_M_writeVote_43  (this) (p1) (p2) (p3) (p4) (p5) ((16 * p1) + p2) h hw
set_option maxRecDepth 100000 in
def w_M_greatest_30 (Q : Option Value → xH → Prop) (L4 : Nat → Int32 → Int32 → Int32 → xH → Prop) (l0 : Nat) (l1 : Int32) (l2 : Int32) (l3 : Int32) (s0 : Int32) (h : xH) : Prop := L4 (l0) (l1) (s0) (l3 + 1) h
set_option maxRecDepth 100000 in
set_option maxHeartbeats 4000000 in
theorem p_M_greatest_30 {sc : List Int32} {Q : Option Value → xH → Prop} {L4 : Nat → Int32 → Int32 → Int32 → xH → Prop} (hL4 : ∀ l0 l1 l2 l3 h, L4 l0 l1 l2 l3 h → xW sc m_M_greatest 0 0 0 4 [some (.ref (l0)), some (.int (l1)), some (.int (l2)), some (.int (l3))] [] h Q) (l0 : Nat) (l1 : Int32) (l2 : Int32) (l3 : Int32) (s0 : Int32) (h : xH) (hw : w_M_greatest_30 Q L4 l0 l1 l2 l3 s0 h) : xW sc m_M_greatest 0 0 0 30 [some (.ref (l0)), some (.int (l1)), some (.int (l2)), some (.int (l3))] [.int (s0)] h Q := by
  unfold w_M_greatest_30 at hw
  refine xs_istore_n (lv' := [some (.ref (l0)), some (.int (l1)), some (.int (s0)), some (.int (l3))]) d_M_greatest_30 rfl rfl rfl ?_
  refine xs_iinc (v := l3 + 1) (lv' := [some (.ref (l0)), some (.int (l1)), some (.int (s0)), some (.int (l3 + 1))]) d_M_greatest_31 rfl rfl rfl ?_
  refine xw_goto (tgt := 4) d_M_greatest_34 (by decide) ?_
  exact hL4 (l0) (l1) (s0) (l3 + 1) h hw
set_option maxRecDepth 100000 in
def w_M_greatest_4 (Q : Option Value → xH → Prop) : Nat → Nat → Int32 → Int32 → Int32 → xH → Prop
  | 0, _, _, _, _, _ => False
  | n + 1, l0, l1, l2, l3, h => ((16 ≤ l3 → Q (some (.int l2)) h) ∧ (¬ 16 ≤ l3 → ∃ (f1 : List Value) (a2 : Nat), h.2 l0 = some (.inr (8, f1)) ∧ f1[9]? = some (.ref a2) ∧ ∃ (ar5 : List Int32) (x3 : Int32), h.2 a2 = some (.inl (0, .inl ar5)) ∧ 0 ≤ ((16 * l1) + l3 : Int32) ∧ ar5[((16 * l1) + l3 : Int32).toNatClampNeg]? = some x3 ∧ ((¬ x3 = 1 → w_M_greatest_30 Q (fun y0 y1 y2 y3 yh => w_M_greatest_4 Q n y0 y1 y2 y3 yh) (l0) (l1) (l2) (l3) (l2) h) ∧ (x3 = 1 → w_M_greatest_30 Q (fun y0 y1 y2 y3 yh => w_M_greatest_4 Q n y0 y1 y2 y3 yh) (l0) (l1) (l2) (l3) (l3) h))))
set_option maxRecDepth 100000 in
set_option maxHeartbeats 4000000 in
theorem p_M_greatest_4 {sc : List Int32} {Q : Option Value → xH → Prop} : ∀ (n : Nat) (l0 : Nat) (l1 : Int32) (l2 : Int32) (l3 : Int32) (h : xH), w_M_greatest_4 Q n l0 l1 l2 l3 h → xW sc m_M_greatest 0 0 0 4 [some (.ref (l0)), some (.int (l1)), some (.int (l2)), some (.int (l3))] [] h Q := by
  intro n
  induction n with
  | zero => intro l0 l1 l2 l3 h hw; exact False.elim hw
  | succ n ih =>
    intro l0 l1 l2 l3 h hw
    rw [w_M_greatest_4] at hw
    refine xw_iload_n d_M_greatest_4 rfl rfl ?_
    refine xw_bipush (v := 16) d_M_greatest_5 (by decide) ?_
    refine xw_icmp_ge (tgt := 37) d_M_greatest_7 (by decide) (fun c6 => ?_) (fun c6 => ?_)
    · have hw := hw.1 c6
      refine xw_iload_n d_M_greatest_37 rfl rfl ?_
      exact xw_ireturn rfl d_M_greatest_38 hw
    · have hw := hw.2 c6
      refine xw_aload_n d_M_greatest_10 rfl rfl ?_
      obtain ⟨f1, a2, hA, hB, hw⟩ := hw
      refine xw_getr fr_M_34 d_M_greatest_11 hA hB ?_
      refine xw_bipush (v := 16) d_M_greatest_14 (by decide) ?_
      refine xw_iload_n d_M_greatest_16 rfl rfl ?_
      refine xw_imul d_M_greatest_17 ?_
      refine xw_iload_n d_M_greatest_18 rfl rfl ?_
      refine xw_iadd d_M_greatest_19 ?_
      obtain ⟨ar5, x3, hA, hB, hC, hw⟩ := hw
      refine xw_iaload (t := 0) rfl d_M_greatest_20 hA hB hC ?_
      refine xw_iconst (v := 1) d_M_greatest_21 (by decide) ?_
      refine xw_icmp_ne (tgt := 29) d_M_greatest_22 (by decide) (fun c4 => ?_) (fun c4 => ?_)
      · have hw := hw.1 c4
        refine xw_iload_n d_M_greatest_29 rfl rfl ?_
        exact p_M_greatest_30 ih (l0) (l1) (l2) (l3) (l2) h hw
      · have hw := hw.2 c4
        refine xw_iload_n d_M_greatest_25 rfl rfl ?_
        refine xw_goto (tgt := 30) d_M_greatest_26 (by decide) ?_
        exact p_M_greatest_30 ih (l0) (l1) (l2) (l3) (l3) h hw
set_option maxRecDepth 100000 in
def w_M_greatest (Q : Option Value → xH → Prop) (this : Nat) (p1 : Int32) (h : xH) : Prop := ∃ n1, w_M_greatest_4 Q n1 (this) (p1) (-1) (0) h
set_option maxRecDepth 100000 in
set_option maxHeartbeats 4000000 in
theorem x_M_greatest {sc : List Int32} {Q : Option Value → xH → Prop} {this : Nat} {p1 : Int32} {h : xH} (hw : w_M_greatest Q this p1 h) : xMet sc m_M_greatest 0 0 0 [.ref (this), .int (p1)] h Q := by
  unfold w_M_greatest at hw
  refine xMet.of2 cw_M_greatest rfl rfl ?_
  show xW sc m_M_greatest 0 0 0 0 [some (.ref (this)), some (.int (p1)), none, none] [] h Q
  refine xw_iconst (v := -1) d_M_greatest_0 (by decide) ?_
  refine xs_istore_n (lv' := [some (.ref (this)), some (.int (p1)), some (.int (-1)), none]) d_M_greatest_1 rfl rfl rfl ?_
  refine xw_iconst (v := 0) d_M_greatest_2 (by decide) ?_
  refine xs_istore_n (lv' := [some (.ref (this)), some (.int (p1)), some (.int (-1)), some (.int (0))]) d_M_greatest_3 rfl rfl rfl ?_
  obtain ⟨n1, hw⟩ := hw
  exact p_M_greatest_4  n1 (this) (p1) (-1) (0) h hw
set_option maxRecDepth 100000 in
def w_M_least_29 (Q : Option Value → xH → Prop) (L5 : Nat → Int32 → Int32 → Int32 → xH → Prop) (l0 : Nat) (l1 : Int32) (l2 : Int32) (l3 : Int32) (s0 : Int32) (h : xH) : Prop := L5 (l0) (l1) (s0) (l3 + (-1)) h
set_option maxRecDepth 100000 in
set_option maxHeartbeats 4000000 in
theorem p_M_least_29 {sc : List Int32} {Q : Option Value → xH → Prop} {L5 : Nat → Int32 → Int32 → Int32 → xH → Prop} (hL5 : ∀ l0 l1 l2 l3 h, L5 l0 l1 l2 l3 h → xW sc m_M_least 0 0 0 5 [some (.ref (l0)), some (.int (l1)), some (.int (l2)), some (.int (l3))] [] h Q) (l0 : Nat) (l1 : Int32) (l2 : Int32) (l3 : Int32) (s0 : Int32) (h : xH) (hw : w_M_least_29 Q L5 l0 l1 l2 l3 s0 h) : xW sc m_M_least 0 0 0 29 [some (.ref (l0)), some (.int (l1)), some (.int (l2)), some (.int (l3))] [.int (s0)] h Q := by
  unfold w_M_least_29 at hw
  refine xs_istore_n (lv' := [some (.ref (l0)), some (.int (l1)), some (.int (s0)), some (.int (l3))]) d_M_least_29 rfl rfl rfl ?_
  refine xs_iinc (v := l3 + (-1)) (lv' := [some (.ref (l0)), some (.int (l1)), some (.int (s0)), some (.int (l3 + (-1)))]) d_M_least_30 rfl rfl rfl ?_
  refine xw_goto (tgt := 5) d_M_least_33 (by decide) ?_
  exact hL5 (l0) (l1) (s0) (l3 + (-1)) h hw
set_option maxRecDepth 100000 in
def w_M_least_5 (Q : Option Value → xH → Prop) : Nat → Nat → Int32 → Int32 → Int32 → xH → Prop
  | 0, _, _, _, _, _ => False
  | n + 1, l0, l1, l2, l3, h => ((l3 < 0 → Q (some (.int l2)) h) ∧ (¬ l3 < 0 → ∃ (f1 : List Value) (a2 : Nat), h.2 l0 = some (.inr (8, f1)) ∧ f1[9]? = some (.ref a2) ∧ ∃ (ar5 : List Int32) (x3 : Int32), h.2 a2 = some (.inl (0, .inl ar5)) ∧ 0 ≤ ((16 * l1) + l3 : Int32) ∧ ar5[((16 * l1) + l3 : Int32).toNatClampNeg]? = some x3 ∧ ((¬ x3 = 1 → w_M_least_29 Q (fun y0 y1 y2 y3 yh => w_M_least_5 Q n y0 y1 y2 y3 yh) (l0) (l1) (l2) (l3) (l2) h) ∧ (x3 = 1 → w_M_least_29 Q (fun y0 y1 y2 y3 yh => w_M_least_5 Q n y0 y1 y2 y3 yh) (l0) (l1) (l2) (l3) (l3) h))))
set_option maxRecDepth 100000 in
set_option maxHeartbeats 4000000 in
theorem p_M_least_5 {sc : List Int32} {Q : Option Value → xH → Prop} : ∀ (n : Nat) (l0 : Nat) (l1 : Int32) (l2 : Int32) (l3 : Int32) (h : xH), w_M_least_5 Q n l0 l1 l2 l3 h → xW sc m_M_least 0 0 0 5 [some (.ref (l0)), some (.int (l1)), some (.int (l2)), some (.int (l3))] [] h Q := by
  intro n
  induction n with
  | zero => intro l0 l1 l2 l3 h hw; exact False.elim hw
  | succ n ih =>
    intro l0 l1 l2 l3 h hw
    rw [w_M_least_5] at hw
    refine xw_iload_n d_M_least_5 rfl rfl ?_
    refine xw_if_lt (tgt := 36) d_M_least_6 (by decide) (fun c6 => ?_) (fun c6 => ?_)
    · have hw := hw.1 c6
      refine xw_iload_n d_M_least_36 rfl rfl ?_
      exact xw_ireturn rfl d_M_least_37 hw
    · have hw := hw.2 c6
      refine xw_aload_n d_M_least_9 rfl rfl ?_
      obtain ⟨f1, a2, hA, hB, hw⟩ := hw
      refine xw_getr fr_M_34 d_M_least_10 hA hB ?_
      refine xw_bipush (v := 16) d_M_least_13 (by decide) ?_
      refine xw_iload_n d_M_least_15 rfl rfl ?_
      refine xw_imul d_M_least_16 ?_
      refine xw_iload_n d_M_least_17 rfl rfl ?_
      refine xw_iadd d_M_least_18 ?_
      obtain ⟨ar5, x3, hA, hB, hC, hw⟩ := hw
      refine xw_iaload (t := 0) rfl d_M_least_19 hA hB hC ?_
      refine xw_iconst (v := 1) d_M_least_20 (by decide) ?_
      refine xw_icmp_ne (tgt := 28) d_M_least_21 (by decide) (fun c4 => ?_) (fun c4 => ?_)
      · have hw := hw.1 c4
        refine xw_iload_n d_M_least_28 rfl rfl ?_
        exact p_M_least_29 ih (l0) (l1) (l2) (l3) (l2) h hw
      · have hw := hw.2 c4
        refine xw_iload_n d_M_least_24 rfl rfl ?_
        refine xw_goto (tgt := 29) d_M_least_25 (by decide) ?_
        exact p_M_least_29 ih (l0) (l1) (l2) (l3) (l3) h hw
set_option maxRecDepth 100000 in
def w_M_least (Q : Option Value → xH → Prop) (this : Nat) (p1 : Int32) (h : xH) : Prop := ∃ n1, w_M_least_5 Q n1 (this) (p1) (-1) (15) h
set_option maxRecDepth 100000 in
set_option maxHeartbeats 4000000 in
theorem x_M_least {sc : List Int32} {Q : Option Value → xH → Prop} {this : Nat} {p1 : Int32} {h : xH} (hw : w_M_least Q this p1 h) : xMet sc m_M_least 0 0 0 [.ref (this), .int (p1)] h Q := by
  unfold w_M_least at hw
  refine xMet.of2 cw_M_least rfl rfl ?_
  show xW sc m_M_least 0 0 0 0 [some (.ref (this)), some (.int (p1)), none, none] [] h Q
  refine xw_iconst (v := -1) d_M_least_0 (by decide) ?_
  refine xs_istore_n (lv' := [some (.ref (this)), some (.int (p1)), some (.int (-1)), none]) d_M_least_1 rfl rfl rfl ?_
  refine xw_bipush (v := 15) d_M_least_2 (by decide) ?_
  refine xs_istore_n (lv' := [some (.ref (this)), some (.int (p1)), some (.int (-1)), some (.int (15))]) d_M_least_4 rfl rfl rfl ?_
  obtain ⟨n1, hw⟩ := hw
  exact p_M_least_5  n1 (this) (p1) (-1) (15) h hw
set_option maxRecDepth 100000 in
def w_M_allActive_45 (Q : Option Value → xH → Prop) (L4 : Nat → Int32 → Int32 → Int32 → xH → Prop) (l0 : Nat) (l1 : Int32) (l2 : Int32) (l3 : Int32) (s0 : Int32) (s1 : Int32) (h : xH) : Prop := L4 (l0) (l1) (s1 ||| s0) (l3 + 1) h
set_option maxRecDepth 100000 in
set_option maxHeartbeats 4000000 in
theorem p_M_allActive_45 {sc : List Int32} {Q : Option Value → xH → Prop} {L4 : Nat → Int32 → Int32 → Int32 → xH → Prop} (hL4 : ∀ l0 l1 l2 l3 h, L4 l0 l1 l2 l3 h → xW sc m_M_allActive 0 0 0 4 [some (.ref (l0)), some (.int (l1)), some (.int (l2)), some (.int (l3))] [] h Q) (l0 : Nat) (l1 : Int32) (l2 : Int32) (l3 : Int32) (s0 : Int32) (s1 : Int32) (h : xH) (hw : w_M_allActive_45 Q L4 l0 l1 l2 l3 s0 s1 h) : xW sc m_M_allActive 0 0 0 45 [some (.ref (l0)), some (.int (l1)), some (.int (l2)), some (.int (l3))] [.int (s0), .int (s1)] h Q := by
  unfold w_M_allActive_45 at hw
  refine xw_ior d_M_allActive_45 ?_
  refine xs_istore_n (lv' := [some (.ref (l0)), some (.int (l1)), some (.int (s1 ||| s0)), some (.int (l3))]) d_M_allActive_46 rfl rfl rfl ?_
  refine xs_iinc (v := l3 + 1) (lv' := [some (.ref (l0)), some (.int (l1)), some (.int (s1 ||| s0)), some (.int (l3 + 1))]) d_M_allActive_47 rfl rfl rfl ?_
  refine xw_goto (tgt := 4) d_M_allActive_50 (by decide) ?_
  exact hL4 (l0) (l1) (s1 ||| s0) (l3 + 1) h hw
set_option maxRecDepth 100000 in
def w_M_allActive_4 (Q : Option Value → xH → Prop) : Nat → Nat → Int32 → Int32 → Int32 → xH → Prop
  | 0, _, _, _, _, _ => False
  | n + 1, l0, l1, l2, l3, h => ((16 ≤ l3 → Q (some (.int l2)) h) ∧ (¬ 16 ≤ l3 → ∃ (f1 : List Value) (a2 : Nat), h.2 l0 = some (.inr (8, f1)) ∧ f1[9]? = some (.ref a2) ∧ ∃ (ar9 : List Int32) (x3 : Int32), h.2 a2 = some (.inl (0, .inl ar9)) ∧ 0 ≤ ((16 * l1) + l3 : Int32) ∧ ar9[((16 * l1) + l3 : Int32).toNatClampNeg]? = some x3 ∧ ((¬ x3 = 1 → w_M_allActive_45 Q (fun y0 y1 y2 y3 yh => w_M_allActive_4 Q n y0 y1 y2 y3 yh) (l0) (l1) (l2) (l3) (0) (l2) h) ∧ (x3 = 1 → ∃ (f4 : List Value) (a5 : Nat), h.2 l0 = some (.inr (8, f4)) ∧ f4[10]? = some (.ref a5) ∧ ∃ (ar7 : List Int32) (x6 : Int32), h.2 a5 = some (.inl (0, .inl ar7)) ∧ 0 ≤ ((16 * l1) + l3 : Int32) ∧ ar7[((16 * l1) + l3 : Int32).toNatClampNeg]? = some x6 ∧ w_M_allActive_45 Q (fun y0 y1 y2 y3 yh => w_M_allActive_4 Q n y0 y1 y2 y3 yh) (l0) (l1) (l2) (l3) (x6 &&& 255) (l2) h))))
set_option maxRecDepth 100000 in
set_option maxHeartbeats 4000000 in
theorem p_M_allActive_4 {sc : List Int32} {Q : Option Value → xH → Prop} : ∀ (n : Nat) (l0 : Nat) (l1 : Int32) (l2 : Int32) (l3 : Int32) (h : xH), w_M_allActive_4 Q n l0 l1 l2 l3 h → xW sc m_M_allActive 0 0 0 4 [some (.ref (l0)), some (.int (l1)), some (.int (l2)), some (.int (l3))] [] h Q := by
  intro n
  induction n with
  | zero => intro l0 l1 l2 l3 h hw; exact False.elim hw
  | succ n ih =>
    intro l0 l1 l2 l3 h hw
    rw [w_M_allActive_4] at hw
    refine xw_iload_n d_M_allActive_4 rfl rfl ?_
    refine xw_bipush (v := 16) d_M_allActive_5 (by decide) ?_
    refine xw_icmp_ge (tgt := 53) d_M_allActive_7 (by decide) (fun c10 => ?_) (fun c10 => ?_)
    · have hw := hw.1 c10
      refine xw_iload_n d_M_allActive_53 rfl rfl ?_
      exact xw_ireturn rfl d_M_allActive_54 hw
    · have hw := hw.2 c10
      refine xw_iload_n d_M_allActive_10 rfl rfl ?_
      refine xw_aload_n d_M_allActive_11 rfl rfl ?_
      obtain ⟨f1, a2, hA, hB, hw⟩ := hw
      refine xw_getr fr_M_34 d_M_allActive_12 hA hB ?_
      refine xw_bipush (v := 16) d_M_allActive_15 (by decide) ?_
      refine xw_iload_n d_M_allActive_17 rfl rfl ?_
      refine xw_imul d_M_allActive_18 ?_
      refine xw_iload_n d_M_allActive_19 rfl rfl ?_
      refine xw_iadd d_M_allActive_20 ?_
      obtain ⟨ar9, x3, hA, hB, hC, hw⟩ := hw
      refine xw_iaload (t := 0) rfl d_M_allActive_21 hA hB hC ?_
      refine xw_iconst (v := 1) d_M_allActive_22 (by decide) ?_
      refine xw_icmp_ne (tgt := 44) d_M_allActive_23 (by decide) (fun c8 => ?_) (fun c8 => ?_)
      · have hw := hw.1 c8
        refine xw_iconst (v := 0) d_M_allActive_44 (by decide) ?_
        exact p_M_allActive_45 ih (l0) (l1) (l2) (l3) (0) (l2) h hw
      · have hw := hw.2 c8
        refine xw_aload_n d_M_allActive_26 rfl rfl ?_
        obtain ⟨f4, a5, hA, hB, hw⟩ := hw
        refine xw_getr fr_M_37 d_M_allActive_27 hA hB ?_
        refine xw_bipush (v := 16) d_M_allActive_30 (by decide) ?_
        refine xw_iload_n d_M_allActive_32 rfl rfl ?_
        refine xw_imul d_M_allActive_33 ?_
        refine xw_iload_n d_M_allActive_34 rfl rfl ?_
        refine xw_iadd d_M_allActive_35 ?_
        obtain ⟨ar7, x6, hA, hB, hC, hw⟩ := hw
        refine xw_iaload (t := 0) rfl d_M_allActive_36 hA hB hC ?_
        refine xw_sipush (v := 255) d_M_allActive_37 (by decide) ?_
        refine xw_iand d_M_allActive_40 ?_
        refine xw_goto (tgt := 45) d_M_allActive_41 (by decide) ?_
        exact p_M_allActive_45 ih (l0) (l1) (l2) (l3) (x6 &&& 255) (l2) h hw
set_option maxRecDepth 100000 in
def w_M_allActive (Q : Option Value → xH → Prop) (this : Nat) (p1 : Int32) (h : xH) : Prop := ∃ n1, w_M_allActive_4 Q n1 (this) (p1) (0) (0) h
set_option maxRecDepth 100000 in
set_option maxHeartbeats 4000000 in
theorem x_M_allActive {sc : List Int32} {Q : Option Value → xH → Prop} {this : Nat} {p1 : Int32} {h : xH} (hw : w_M_allActive Q this p1 h) : xMet sc m_M_allActive 0 0 0 [.ref (this), .int (p1)] h Q := by
  unfold w_M_allActive at hw
  refine xMet.of2 cw_M_allActive rfl rfl ?_
  show xW sc m_M_allActive 0 0 0 0 [some (.ref (this)), some (.int (p1)), none, none] [] h Q
  refine xw_iconst (v := 0) d_M_allActive_0 (by decide) ?_
  refine xs_istore_n (lv' := [some (.ref (this)), some (.int (p1)), some (.int (0)), none]) d_M_allActive_1 rfl rfl rfl ?_
  refine xw_iconst (v := 0) d_M_allActive_2 (by decide) ?_
  refine xs_istore_n (lv' := [some (.ref (this)), some (.int (p1)), some (.int (0)), some (.int (0))]) d_M_allActive_3 rfl rfl rfl ?_
  obtain ⟨n1, hw⟩ := hw
  exact p_M_allActive_4  n1 (this) (p1) (0) (0) h hw
set_option maxRecDepth 100000 in
def w_M_send_368 (Q : Option Value → xH → Prop) (L213 : Nat → Int32 → Int32 → Int32 → Int32 → Int32 → Int32 → Int32 → Int32 → Int32 → Int32 → Int32 → Int32 → Int32 → xH → Prop) (l0 : Nat) (l1 : Int32) (l2 : Int32) (l3 : Int32) (l4 : Int32) (l5 : Int32) (l6 : Int32) (l7 : Int32) (l8 : Int32) (l9 : Int32) (l10 : Int32) (l11 : Int32) (l12 : Int32) (l13 : Int32) (l14 : Int32) (s0 : Int32) (s1 : Int32) (s2 : Nat) (h : xH) : Prop := ∃ ar1, h.2 s2 = some (.inl (0, .inl ar1)) ∧ 0 ≤ s1 ∧ s1.toNatClampNeg < ar1.length ∧ ∀ h2, h2 = xu h s2 (.inl (0, .inl (ar1.set s1.toNatClampNeg s0))) → L213 (l0) (l1) (l2) (l3) (l4) (l5) (l6) (l7) (l8) (l9) (l10) (l11) (l12) (l13 + 1) h2
set_option maxRecDepth 100000 in
set_option maxHeartbeats 4000000 in
theorem p_M_send_368 {sc : List Int32} {Q : Option Value → xH → Prop} {L213 : Nat → Int32 → Int32 → Int32 → Int32 → Int32 → Int32 → Int32 → Int32 → Int32 → Int32 → Int32 → Int32 → Int32 → xH → Prop} (hL213 : ∀ l0 l1 l2 l3 l4 l5 l6 l7 l8 l9 l10 l11 l12 l13 h, L213 l0 l1 l2 l3 l4 l5 l6 l7 l8 l9 l10 l11 l12 l13 h → xW sc m_M_send 0 0 0 213 [some (.ref (l0)), some (.int (l1)), some (.int (l2)), some (.int (l3)), some (.int (l4)), some (.int (l5)), some (.int (l6)), some (.int (l7)), some (.int (l8)), some (.int (l9)), some (.int (l10)), some (.int (l11)), some (.int (l12)), some (.int (l13)), none] [] h Q) (l0 : Nat) (l1 : Int32) (l2 : Int32) (l3 : Int32) (l4 : Int32) (l5 : Int32) (l6 : Int32) (l7 : Int32) (l8 : Int32) (l9 : Int32) (l10 : Int32) (l11 : Int32) (l12 : Int32) (l13 : Int32) (l14 : Int32) (s0 : Int32) (s1 : Int32) (s2 : Nat) (h : xH) (hw : w_M_send_368 Q L213 l0 l1 l2 l3 l4 l5 l6 l7 l8 l9 l10 l11 l12 l13 l14 s0 s1 s2 h) : xW sc m_M_send 0 0 0 368 [some (.ref (l0)), some (.int (l1)), some (.int (l2)), some (.int (l3)), some (.int (l4)), some (.int (l5)), some (.int (l6)), some (.int (l7)), some (.int (l8)), some (.int (l9)), some (.int (l10)), some (.int (l11)), some (.int (l12)), some (.int (l13)), some (.int (l14))] [.int (s0), .int (s1), .ref (s2)] h Q := by
  unfold w_M_send_368 at hw
  obtain ⟨ar1, hA, hB, hC, hw⟩ := hw
  refine xw_iastore (t := 0) rfl d_M_send_368 hA hB hC ?_
  generalize hh : xu h s2 (.inl (0, .inl (ar1.set s1.toNatClampNeg s0))) = h2
  have hw := hw h2 hh.symm
  refine xs_iinc (v := l13 + 1) (lv' := [some (.ref (l0)), some (.int (l1)), some (.int (l2)), some (.int (l3)), some (.int (l4)), some (.int (l5)), some (.int (l6)), some (.int (l7)), some (.int (l8)), some (.int (l9)), some (.int (l10)), some (.int (l11)), some (.int (l12)), some (.int (l13 + 1)), some (.int (l14))]) d_M_send_369 rfl rfl rfl ?_
  refine xw_goto (tgt := 213) d_M_send_372 (by decide) ?_
  refine xs_drop (lv' := [some (.ref (l0)), some (.int (l1)), some (.int (l2)), some (.int (l3)), some (.int (l4)), some (.int (l5)), some (.int (l6)), some (.int (l7)), some (.int (l8)), some (.int (l9)), some (.int (l10)), some (.int (l11)), some (.int (l12)), some (.int (l13 + 1)), none]) 14 rfl ?_
  exact hL213 (l0) (l1) (l2) (l3) (l4) (l5) (l6) (l7) (l8) (l9) (l10) (l11) (l12) (l13 + 1) h2 hw
set_option maxRecDepth 100000 in
def w_M_send_320 (Q : Option Value → xH → Prop) (L213 : Nat → Int32 → Int32 → Int32 → Int32 → Int32 → Int32 → Int32 → Int32 → Int32 → Int32 → Int32 → Int32 → Int32 → xH → Prop) (l0 : Nat) (l1 : Int32) (l2 : Int32) (l3 : Int32) (l4 : Int32) (l5 : Int32) (l6 : Int32) (l7 : Int32) (l8 : Int32) (l9 : Int32) (l10 : Int32) (l11 : Int32) (l12 : Int32) (l13 : Int32) (l14 : Int32) (s0 : Int32) (s1 : Int32) (s2 : Nat) (h : xH) : Prop := ∃ ar1, h.2 s2 = some (.inl (0, .inl ar1)) ∧ 0 ≤ s1 ∧ s1.toNatClampNeg < ar1.length ∧ ∀ h2, h2 = xu h s2 (.inl (0, .inl (ar1.set s1.toNatClampNeg s0))) → ∃ (f3 : List Value) (a4 : Nat), h2.2 l0 = some (.inr (8, f3)) ∧ f3[32]? = some (.ref a4) ∧ ((l10 = 0 → ((l11 = 0 → w_M_send_368 Q L213 (l0) (l1) (l2) (l3) (l4) (l5) (l6) (l7) (l8) (l9) (l10) (l11) (l12) (l13) (l14) (0) (((l12 + 41) + (3 * l13)) + 2) (a4) h2) ∧ (¬ l11 = 0 → ∃ (f5 : List Value) (a6 : Nat), h2.2 l0 = some (.inr (8, f5)) ∧ f5[30]? = some (.ref a6) ∧ ∃ (ar8 : List Int32) (x7 : Int32), h2.2 a6 = some (.inl (0, .inl ar8)) ∧ 0 ≤ l14 ∧ ar8[l14.toNatClampNeg]? = some x7 ∧ w_M_send_368 Q L213 (l0) (l1) (l2) (l3) (l4) (l5) (l6) (l7) (l8) (l9) (l10) (l11) (l12) (l13) (l14) (x7) (((l12 + 41) + (3 * l13)) + 2) (a4) h2))) ∧ (¬ l10 = 0 → ∃ (f10 : List Value) (a11 : Nat), h2.2 l0 = some (.inr (8, f10)) ∧ f10[8]? = some (.ref a11) ∧ ∃ (ar13 : List Int32) (x12 : Int32), h2.2 a11 = some (.inl (0, .inl ar13)) ∧ 0 ≤ l14 ∧ ar13[l14.toNatClampNeg]? = some x12 ∧ w_M_send_368 Q L213 (l0) (l1) (l2) (l3) (l4) (l5) (l6) (l7) (l8) (l9) (l10) (l11) (l12) (l13) (l14) (x12) (((l12 + 41) + (3 * l13)) + 2) (a4) h2))
set_option maxRecDepth 100000 in
set_option maxHeartbeats 4000000 in
theorem p_M_send_320 {sc : List Int32} {Q : Option Value → xH → Prop} {L213 : Nat → Int32 → Int32 → Int32 → Int32 → Int32 → Int32 → Int32 → Int32 → Int32 → Int32 → Int32 → Int32 → Int32 → xH → Prop} (hL213 : ∀ l0 l1 l2 l3 l4 l5 l6 l7 l8 l9 l10 l11 l12 l13 h, L213 l0 l1 l2 l3 l4 l5 l6 l7 l8 l9 l10 l11 l12 l13 h → xW sc m_M_send 0 0 0 213 [some (.ref (l0)), some (.int (l1)), some (.int (l2)), some (.int (l3)), some (.int (l4)), some (.int (l5)), some (.int (l6)), some (.int (l7)), some (.int (l8)), some (.int (l9)), some (.int (l10)), some (.int (l11)), some (.int (l12)), some (.int (l13)), none] [] h Q) (l0 : Nat) (l1 : Int32) (l2 : Int32) (l3 : Int32) (l4 : Int32) (l5 : Int32) (l6 : Int32) (l7 : Int32) (l8 : Int32) (l9 : Int32) (l10 : Int32) (l11 : Int32) (l12 : Int32) (l13 : Int32) (l14 : Int32) (s0 : Int32) (s1 : Int32) (s2 : Nat) (h : xH) (hw : w_M_send_320 Q L213 l0 l1 l2 l3 l4 l5 l6 l7 l8 l9 l10 l11 l12 l13 l14 s0 s1 s2 h) : xW sc m_M_send 0 0 0 320 [some (.ref (l0)), some (.int (l1)), some (.int (l2)), some (.int (l3)), some (.int (l4)), some (.int (l5)), some (.int (l6)), some (.int (l7)), some (.int (l8)), some (.int (l9)), some (.int (l10)), some (.int (l11)), some (.int (l12)), some (.int (l13)), some (.int (l14))] [.int (s0), .int (s1), .ref (s2)] h Q := by
  unfold w_M_send_320 at hw
  obtain ⟨ar1, hA, hB, hC, hw⟩ := hw
  refine xw_iastore (t := 0) rfl d_M_send_320 hA hB hC ?_
  generalize hh : xu h s2 (.inl (0, .inl (ar1.set s1.toNatClampNeg s0))) = h2
  have hw := hw h2 hh.symm
  refine xw_aload_n d_M_send_321 rfl rfl ?_
  obtain ⟨f3, a4, hA, hB, hw⟩ := hw
  refine xw_getr fr_M_97 d_M_send_322 hA hB ?_
  refine xw_iload d_M_send_325 rfl ?_
  refine xw_bipush (v := 41) d_M_send_327 (by decide) ?_
  refine xw_iadd d_M_send_329 ?_
  refine xw_iconst (v := 3) d_M_send_330 (by decide) ?_
  refine xw_iload d_M_send_331 rfl ?_
  refine xw_imul d_M_send_333 ?_
  refine xw_iadd d_M_send_334 ?_
  refine xw_iconst (v := 2) d_M_send_335 (by decide) ?_
  refine xw_iadd d_M_send_336 ?_
  refine xw_iload d_M_send_337 rfl ?_
  refine xw_if_eq (tgt := 352) d_M_send_339 (by decide) (fun c14 => ?_) (fun c14 => ?_)
  · have hw := hw.1 c14
    refine xw_iload d_M_send_352 rfl ?_
    refine xw_if_eq (tgt := 367) d_M_send_354 (by decide) (fun c9 => ?_) (fun c9 => ?_)
    · have hw := hw.1 c9
      refine xw_iconst (v := 0) d_M_send_367 (by decide) ?_
      exact p_M_send_368 hL213 (l0) (l1) (l2) (l3) (l4) (l5) (l6) (l7) (l8) (l9) (l10) (l11) (l12) (l13) (l14) (0) (((l12 + 41) + (3 * l13)) + 2) (a4) h2 hw
    · have hw := hw.2 c9
      refine xw_aload_n d_M_send_357 rfl rfl ?_
      obtain ⟨f5, a6, hA, hB, hw⟩ := hw
      refine xw_getr fr_M_94 d_M_send_358 hA hB ?_
      refine xw_iload d_M_send_361 rfl ?_
      obtain ⟨ar8, x7, hA, hB, hC, hw⟩ := hw
      refine xw_iaload (t := 0) rfl d_M_send_363 hA hB hC ?_
      refine xw_goto (tgt := 368) d_M_send_364 (by decide) ?_
      exact p_M_send_368 hL213 (l0) (l1) (l2) (l3) (l4) (l5) (l6) (l7) (l8) (l9) (l10) (l11) (l12) (l13) (l14) (x7) (((l12 + 41) + (3 * l13)) + 2) (a4) h2 hw
  · have hw := hw.2 c14
    refine xw_aload_n d_M_send_342 rfl rfl ?_
    obtain ⟨f10, a11, hA, hB, hw⟩ := hw
    refine xw_getr fr_M_31 d_M_send_343 hA hB ?_
    refine xw_iload d_M_send_346 rfl ?_
    obtain ⟨ar13, x12, hA, hB, hC, hw⟩ := hw
    refine xw_iaload (t := 0) rfl d_M_send_348 hA hB hC ?_
    refine xw_goto (tgt := 368) d_M_send_349 (by decide) ?_
    exact p_M_send_368 hL213 (l0) (l1) (l2) (l3) (l4) (l5) (l6) (l7) (l8) (l9) (l10) (l11) (l12) (l13) (l14) (x12) (((l12 + 41) + (3 * l13)) + 2) (a4) h2 hw
set_option maxRecDepth 100000 in
def w_M_send_272 (Q : Option Value → xH → Prop) (L213 : Nat → Int32 → Int32 → Int32 → Int32 → Int32 → Int32 → Int32 → Int32 → Int32 → Int32 → Int32 → Int32 → Int32 → xH → Prop) (l0 : Nat) (l1 : Int32) (l2 : Int32) (l3 : Int32) (l4 : Int32) (l5 : Int32) (l6 : Int32) (l7 : Int32) (l8 : Int32) (l9 : Int32) (l10 : Int32) (l11 : Int32) (l12 : Int32) (l13 : Int32) (l14 : Int32) (s0 : Int32) (s1 : Int32) (s2 : Nat) (h : xH) : Prop := ∃ ar1, h.2 s2 = some (.inl (0, .inl ar1)) ∧ 0 ≤ s1 ∧ s1.toNatClampNeg < ar1.length ∧ ∀ h2, h2 = xu h s2 (.inl (0, .inl (ar1.set s1.toNatClampNeg s0))) → ∃ (f3 : List Value) (a4 : Nat), h2.2 l0 = some (.inr (8, f3)) ∧ f3[32]? = some (.ref a4) ∧ ((l10 = 0 → ((l11 = 0 → w_M_send_320 Q L213 (l0) (l1) (l2) (l3) (l4) (l5) (l6) (l7) (l8) (l9) (l10) (l11) (l12) (l13) (l14) (0) (((l12 + 41) + (3 * l13)) + 1) (a4) h2) ∧ (¬ l11 = 0 → ∃ (f5 : List Value) (a6 : Nat), h2.2 l0 = some (.inr (8, f5)) ∧ f5[29]? = some (.ref a6) ∧ ∃ (ar8 : List Int32) (x7 : Int32), h2.2 a6 = some (.inl (0, .inl ar8)) ∧ 0 ≤ l14 ∧ ar8[l14.toNatClampNeg]? = some x7 ∧ w_M_send_320 Q L213 (l0) (l1) (l2) (l3) (l4) (l5) (l6) (l7) (l8) (l9) (l10) (l11) (l12) (l13) (l14) (x7) (((l12 + 41) + (3 * l13)) + 1) (a4) h2))) ∧ (¬ l10 = 0 → ∃ (f10 : List Value) (a11 : Nat), h2.2 l0 = some (.inr (8, f10)) ∧ f10[7]? = some (.ref a11) ∧ ∃ (ar13 : List Int32) (x12 : Int32), h2.2 a11 = some (.inl (0, .inl ar13)) ∧ 0 ≤ l14 ∧ ar13[l14.toNatClampNeg]? = some x12 ∧ w_M_send_320 Q L213 (l0) (l1) (l2) (l3) (l4) (l5) (l6) (l7) (l8) (l9) (l10) (l11) (l12) (l13) (l14) (x12) (((l12 + 41) + (3 * l13)) + 1) (a4) h2))
set_option maxRecDepth 100000 in
set_option maxHeartbeats 4000000 in
theorem p_M_send_272 {sc : List Int32} {Q : Option Value → xH → Prop} {L213 : Nat → Int32 → Int32 → Int32 → Int32 → Int32 → Int32 → Int32 → Int32 → Int32 → Int32 → Int32 → Int32 → Int32 → xH → Prop} (hL213 : ∀ l0 l1 l2 l3 l4 l5 l6 l7 l8 l9 l10 l11 l12 l13 h, L213 l0 l1 l2 l3 l4 l5 l6 l7 l8 l9 l10 l11 l12 l13 h → xW sc m_M_send 0 0 0 213 [some (.ref (l0)), some (.int (l1)), some (.int (l2)), some (.int (l3)), some (.int (l4)), some (.int (l5)), some (.int (l6)), some (.int (l7)), some (.int (l8)), some (.int (l9)), some (.int (l10)), some (.int (l11)), some (.int (l12)), some (.int (l13)), none] [] h Q) (l0 : Nat) (l1 : Int32) (l2 : Int32) (l3 : Int32) (l4 : Int32) (l5 : Int32) (l6 : Int32) (l7 : Int32) (l8 : Int32) (l9 : Int32) (l10 : Int32) (l11 : Int32) (l12 : Int32) (l13 : Int32) (l14 : Int32) (s0 : Int32) (s1 : Int32) (s2 : Nat) (h : xH) (hw : w_M_send_272 Q L213 l0 l1 l2 l3 l4 l5 l6 l7 l8 l9 l10 l11 l12 l13 l14 s0 s1 s2 h) : xW sc m_M_send 0 0 0 272 [some (.ref (l0)), some (.int (l1)), some (.int (l2)), some (.int (l3)), some (.int (l4)), some (.int (l5)), some (.int (l6)), some (.int (l7)), some (.int (l8)), some (.int (l9)), some (.int (l10)), some (.int (l11)), some (.int (l12)), some (.int (l13)), some (.int (l14))] [.int (s0), .int (s1), .ref (s2)] h Q := by
  unfold w_M_send_272 at hw
  obtain ⟨ar1, hA, hB, hC, hw⟩ := hw
  refine xw_iastore (t := 0) rfl d_M_send_272 hA hB hC ?_
  generalize hh : xu h s2 (.inl (0, .inl (ar1.set s1.toNatClampNeg s0))) = h2
  have hw := hw h2 hh.symm
  refine xw_aload_n d_M_send_273 rfl rfl ?_
  obtain ⟨f3, a4, hA, hB, hw⟩ := hw
  refine xw_getr fr_M_97 d_M_send_274 hA hB ?_
  refine xw_iload d_M_send_277 rfl ?_
  refine xw_bipush (v := 41) d_M_send_279 (by decide) ?_
  refine xw_iadd d_M_send_281 ?_
  refine xw_iconst (v := 3) d_M_send_282 (by decide) ?_
  refine xw_iload d_M_send_283 rfl ?_
  refine xw_imul d_M_send_285 ?_
  refine xw_iadd d_M_send_286 ?_
  refine xw_iconst (v := 1) d_M_send_287 (by decide) ?_
  refine xw_iadd d_M_send_288 ?_
  refine xw_iload d_M_send_289 rfl ?_
  refine xw_if_eq (tgt := 304) d_M_send_291 (by decide) (fun c14 => ?_) (fun c14 => ?_)
  · have hw := hw.1 c14
    refine xw_iload d_M_send_304 rfl ?_
    refine xw_if_eq (tgt := 319) d_M_send_306 (by decide) (fun c9 => ?_) (fun c9 => ?_)
    · have hw := hw.1 c9
      refine xw_iconst (v := 0) d_M_send_319 (by decide) ?_
      exact p_M_send_320 hL213 (l0) (l1) (l2) (l3) (l4) (l5) (l6) (l7) (l8) (l9) (l10) (l11) (l12) (l13) (l14) (0) (((l12 + 41) + (3 * l13)) + 1) (a4) h2 hw
    · have hw := hw.2 c9
      refine xw_aload_n d_M_send_309 rfl rfl ?_
      obtain ⟨f5, a6, hA, hB, hw⟩ := hw
      refine xw_getr fr_M_91 d_M_send_310 hA hB ?_
      refine xw_iload d_M_send_313 rfl ?_
      obtain ⟨ar8, x7, hA, hB, hC, hw⟩ := hw
      refine xw_iaload (t := 0) rfl d_M_send_315 hA hB hC ?_
      refine xw_goto (tgt := 320) d_M_send_316 (by decide) ?_
      exact p_M_send_320 hL213 (l0) (l1) (l2) (l3) (l4) (l5) (l6) (l7) (l8) (l9) (l10) (l11) (l12) (l13) (l14) (x7) (((l12 + 41) + (3 * l13)) + 1) (a4) h2 hw
  · have hw := hw.2 c14
    refine xw_aload_n d_M_send_294 rfl rfl ?_
    obtain ⟨f10, a11, hA, hB, hw⟩ := hw
    refine xw_getr fr_M_28 d_M_send_295 hA hB ?_
    refine xw_iload d_M_send_298 rfl ?_
    obtain ⟨ar13, x12, hA, hB, hC, hw⟩ := hw
    refine xw_iaload (t := 0) rfl d_M_send_300 hA hB hC ?_
    refine xw_goto (tgt := 320) d_M_send_301 (by decide) ?_
    exact p_M_send_320 hL213 (l0) (l1) (l2) (l3) (l4) (l5) (l6) (l7) (l8) (l9) (l10) (l11) (l12) (l13) (l14) (x12) (((l12 + 41) + (3 * l13)) + 1) (a4) h2 hw
set_option maxRecDepth 100000 in
def w_M_send_213 (Q : Option Value → xH → Prop) : Nat → Nat → Int32 → Int32 → Int32 → Int32 → Int32 → Int32 → Int32 → Int32 → Int32 → Int32 → Int32 → Int32 → Int32 → xH → Prop
  | 0, _, _, _, _, _, _, _, _, _, _, _, _, _, _, _ => False
  | n + 1, l0, l1, l2, l3, l4, l5, l6, l7, l8, l9, l10, l11, l12, l13, h => ((4 ≤ l13 → Q none h) ∧ (¬ 4 ≤ l13 → ∃ (f1 : List Value) (a2 : Nat), h.2 l0 = some (.inr (8, f1)) ∧ f1[32]? = some (.ref a2) ∧ ((l10 = 0 → ((l11 = 0 → w_M_send_272 Q (fun y0 y1 y2 y3 y4 y5 y6 y7 y8 y9 y10 y11 y12 y13 yh => w_M_send_213 Q n y0 y1 y2 y3 y4 y5 y6 y7 y8 y9 y10 y11 y12 y13 yh) (l0) (l1) (l2) (l3) (l4) (l5) (l6) (l7) (l8) (l9) (l10) (l11) (l12) (l13) ((4 * l2) + l13) (0) ((l12 + 41) + (3 * l13)) (a2) h) ∧ (¬ l11 = 0 → ∃ (f3 : List Value) (a4 : Nat), h.2 l0 = some (.inr (8, f3)) ∧ f3[28]? = some (.ref a4) ∧ ∃ (ar6 : List Int32) (x5 : Int32), h.2 a4 = some (.inl (0, .inl ar6)) ∧ 0 ≤ ((4 * l2) + l13 : Int32) ∧ ar6[((4 * l2) + l13 : Int32).toNatClampNeg]? = some x5 ∧ w_M_send_272 Q (fun y0 y1 y2 y3 y4 y5 y6 y7 y8 y9 y10 y11 y12 y13 yh => w_M_send_213 Q n y0 y1 y2 y3 y4 y5 y6 y7 y8 y9 y10 y11 y12 y13 yh) (l0) (l1) (l2) (l3) (l4) (l5) (l6) (l7) (l8) (l9) (l10) (l11) (l12) (l13) ((4 * l2) + l13) (x5) ((l12 + 41) + (3 * l13)) (a2) h))) ∧ (¬ l10 = 0 → ∃ (f8 : List Value) (a9 : Nat), h.2 l0 = some (.inr (8, f8)) ∧ f8[6]? = some (.ref a9) ∧ ∃ (ar11 : List Int32) (x10 : Int32), h.2 a9 = some (.inl (0, .inl ar11)) ∧ 0 ≤ ((4 * l2) + l13 : Int32) ∧ ar11[((4 * l2) + l13 : Int32).toNatClampNeg]? = some x10 ∧ w_M_send_272 Q (fun y0 y1 y2 y3 y4 y5 y6 y7 y8 y9 y10 y11 y12 y13 yh => w_M_send_213 Q n y0 y1 y2 y3 y4 y5 y6 y7 y8 y9 y10 y11 y12 y13 yh) (l0) (l1) (l2) (l3) (l4) (l5) (l6) (l7) (l8) (l9) (l10) (l11) (l12) (l13) ((4 * l2) + l13) (x10) ((l12 + 41) + (3 * l13)) (a2) h))))
set_option maxRecDepth 100000 in
set_option maxHeartbeats 4000000 in
theorem p_M_send_213 {sc : List Int32} {Q : Option Value → xH → Prop} : ∀ (n : Nat) (l0 : Nat) (l1 : Int32) (l2 : Int32) (l3 : Int32) (l4 : Int32) (l5 : Int32) (l6 : Int32) (l7 : Int32) (l8 : Int32) (l9 : Int32) (l10 : Int32) (l11 : Int32) (l12 : Int32) (l13 : Int32) (h : xH), w_M_send_213 Q n l0 l1 l2 l3 l4 l5 l6 l7 l8 l9 l10 l11 l12 l13 h → xW sc m_M_send 0 0 0 213 [some (.ref (l0)), some (.int (l1)), some (.int (l2)), some (.int (l3)), some (.int (l4)), some (.int (l5)), some (.int (l6)), some (.int (l7)), some (.int (l8)), some (.int (l9)), some (.int (l10)), some (.int (l11)), some (.int (l12)), some (.int (l13)), none] [] h Q := by
  intro n
  induction n with
  | zero => intro l0 l1 l2 l3 l4 l5 l6 l7 l8 l9 l10 l11 l12 l13 h hw; exact False.elim hw
  | succ n ih =>
    intro l0 l1 l2 l3 l4 l5 l6 l7 l8 l9 l10 l11 l12 l13 h hw
    rw [w_M_send_213] at hw
    refine xw_iload d_M_send_213 rfl ?_
    refine xw_iconst (v := 4) d_M_send_215 (by decide) ?_
    refine xw_icmp_ge (tgt := 375) d_M_send_216 (by decide) (fun c13 => ?_) (fun c13 => ?_)
    · have hw := hw.1 c13
      exact xw_return rfl d_M_send_375 hw
    · have hw := hw.2 c13
      refine xw_iconst (v := 4) d_M_send_219 (by decide) ?_
      refine xw_iload_n d_M_send_220 rfl rfl ?_
      refine xw_imul d_M_send_221 ?_
      refine xw_iload d_M_send_222 rfl ?_
      refine xw_iadd d_M_send_224 ?_
      refine xs_istore (lv' := [some (.ref (l0)), some (.int (l1)), some (.int (l2)), some (.int (l3)), some (.int (l4)), some (.int (l5)), some (.int (l6)), some (.int (l7)), some (.int (l8)), some (.int (l9)), some (.int (l10)), some (.int (l11)), some (.int (l12)), some (.int (l13)), some (.int ((4 * l2) + l13))]) d_M_send_225 rfl rfl ?_
      refine xw_aload_n d_M_send_227 rfl rfl ?_
      obtain ⟨f1, a2, hA, hB, hw⟩ := hw
      refine xw_getr fr_M_97 d_M_send_228 hA hB ?_
      refine xw_iload d_M_send_231 rfl ?_
      refine xw_bipush (v := 41) d_M_send_233 (by decide) ?_
      refine xw_iadd d_M_send_235 ?_
      refine xw_iconst (v := 3) d_M_send_236 (by decide) ?_
      refine xw_iload d_M_send_237 rfl ?_
      refine xw_imul d_M_send_239 ?_
      refine xw_iadd d_M_send_240 ?_
      refine xw_iload d_M_send_241 rfl ?_
      refine xw_if_eq (tgt := 256) d_M_send_243 (by decide) (fun c12 => ?_) (fun c12 => ?_)
      · have hw := hw.1 c12
        refine xw_iload d_M_send_256 rfl ?_
        refine xw_if_eq (tgt := 271) d_M_send_258 (by decide) (fun c7 => ?_) (fun c7 => ?_)
        · have hw := hw.1 c7
          refine xw_iconst (v := 0) d_M_send_271 (by decide) ?_
          exact p_M_send_272 ih (l0) (l1) (l2) (l3) (l4) (l5) (l6) (l7) (l8) (l9) (l10) (l11) (l12) (l13) ((4 * l2) + l13) (0) ((l12 + 41) + (3 * l13)) (a2) h hw
        · have hw := hw.2 c7
          refine xw_aload_n d_M_send_261 rfl rfl ?_
          obtain ⟨f3, a4, hA, hB, hw⟩ := hw
          refine xw_getr fr_M_88 d_M_send_262 hA hB ?_
          refine xw_iload d_M_send_265 rfl ?_
          obtain ⟨ar6, x5, hA, hB, hC, hw⟩ := hw
          refine xw_iaload (t := 0) rfl d_M_send_267 hA hB hC ?_
          refine xw_goto (tgt := 272) d_M_send_268 (by decide) ?_
          exact p_M_send_272 ih (l0) (l1) (l2) (l3) (l4) (l5) (l6) (l7) (l8) (l9) (l10) (l11) (l12) (l13) ((4 * l2) + l13) (x5) ((l12 + 41) + (3 * l13)) (a2) h hw
      · have hw := hw.2 c12
        refine xw_aload_n d_M_send_246 rfl rfl ?_
        obtain ⟨f8, a9, hA, hB, hw⟩ := hw
        refine xw_getr fr_M_25 d_M_send_247 hA hB ?_
        refine xw_iload d_M_send_250 rfl ?_
        obtain ⟨ar11, x10, hA, hB, hC, hw⟩ := hw
        refine xw_iaload (t := 0) rfl d_M_send_252 hA hB hC ?_
        refine xw_goto (tgt := 272) d_M_send_253 (by decide) ?_
        exact p_M_send_272 ih (l0) (l1) (l2) (l3) (l4) (l5) (l6) (l7) (l8) (l9) (l10) (l11) (l12) (l13) ((4 * l2) + l13) (x10) ((l12 + 41) + (3 * l13)) (a2) h hw
set_option maxRecDepth 100000 in
def w_M_send_141 (Q : Option Value → xH → Prop) : Nat → Nat → Int32 → Int32 → Int32 → Int32 → Int32 → Int32 → Int32 → Int32 → Int32 → Int32 → Int32 → Int32 → Int32 → xH → Prop
  | 0, _, _, _, _, _, _, _, _, _, _, _, _, _, _, _ => False
  | n + 1, l0, l1, l2, l3, l4, l5, l6, l7, l8, l9, l10, l11, l12, l13, h => ((16 ≤ l13 → ∃ n1, w_M_send_213 Q n1 (l0) (l1) (l2) (l3) (l4) (l5) (l6) (l7) (l8) (l9) (l10) (l11) (l12) (0) h) ∧ (¬ 16 ≤ l13 → ∃ (f2 : List Value) (a3 : Nat), h.2 l0 = some (.inr (8, f2)) ∧ f2[32]? = some (.ref a3) ∧ ∃ (f4 : List Value) (a5 : Nat), h.2 l0 = some (.inr (8, f4)) ∧ f4[9]? = some (.ref a5) ∧ ∃ (ar17 : List Int32) (x6 : Int32), h.2 a5 = some (.inl (0, .inl ar17)) ∧ 0 ≤ ((16 * l2) + l13 : Int32) ∧ ar17[((16 * l2) + l13 : Int32).toNatClampNeg]? = some x6 ∧ ∃ ar7, h.2 a3 = some (.inl (0, .inl ar7)) ∧ 0 ≤ ((l12 + 9) + (2 * l13) : Int32) ∧ ((l12 + 9) + (2 * l13) : Int32).toNatClampNeg < ar7.length ∧ ∀ h8, h8 = xu h a3 (.inl (0, .inl (ar7.set ((l12 + 9) + (2 * l13) : Int32).toNatClampNeg x6))) → ∃ (f9 : List Value) (a10 : Nat), h8.2 l0 = some (.inr (8, f9)) ∧ f9[32]? = some (.ref a10) ∧ ∃ (f11 : List Value) (a12 : Nat), h8.2 l0 = some (.inr (8, f11)) ∧ f11[10]? = some (.ref a12) ∧ ∃ (ar16 : List Int32) (x13 : Int32), h8.2 a12 = some (.inl (0, .inl ar16)) ∧ 0 ≤ ((16 * l2) + l13 : Int32) ∧ ar16[((16 * l2) + l13 : Int32).toNatClampNeg]? = some x13 ∧ ∃ ar14, h8.2 a10 = some (.inl (0, .inl ar14)) ∧ 0 ≤ (((l12 + 9) + (2 * l13)) + 1 : Int32) ∧ (((l12 + 9) + (2 * l13)) + 1 : Int32).toNatClampNeg < ar14.length ∧ ∀ h15, h15 = xu h8 a10 (.inl (0, .inl (ar14.set (((l12 + 9) + (2 * l13)) + 1 : Int32).toNatClampNeg x13))) → w_M_send_141 Q n (l0) (l1) (l2) (l3) (l4) (l5) (l6) (l7) (l8) (l9) (l10) (l11) (l12) (l13 + 1) h15))
set_option maxRecDepth 100000 in
set_option maxHeartbeats 4000000 in
theorem p_M_send_141 {sc : List Int32} {Q : Option Value → xH → Prop} : ∀ (n : Nat) (l0 : Nat) (l1 : Int32) (l2 : Int32) (l3 : Int32) (l4 : Int32) (l5 : Int32) (l6 : Int32) (l7 : Int32) (l8 : Int32) (l9 : Int32) (l10 : Int32) (l11 : Int32) (l12 : Int32) (l13 : Int32) (h : xH), w_M_send_141 Q n l0 l1 l2 l3 l4 l5 l6 l7 l8 l9 l10 l11 l12 l13 h → xW sc m_M_send 0 0 0 141 [some (.ref (l0)), some (.int (l1)), some (.int (l2)), some (.int (l3)), some (.int (l4)), some (.int (l5)), some (.int (l6)), some (.int (l7)), some (.int (l8)), some (.int (l9)), some (.int (l10)), some (.int (l11)), some (.int (l12)), some (.int (l13)), none] [] h Q := by
  intro n
  induction n with
  | zero => intro l0 l1 l2 l3 l4 l5 l6 l7 l8 l9 l10 l11 l12 l13 h hw; exact False.elim hw
  | succ n ih =>
    intro l0 l1 l2 l3 l4 l5 l6 l7 l8 l9 l10 l11 l12 l13 h hw
    rw [w_M_send_141] at hw
    refine xw_iload d_M_send_141 rfl ?_
    refine xw_bipush (v := 16) d_M_send_143 (by decide) ?_
    refine xw_icmp_ge (tgt := 210) d_M_send_145 (by decide) (fun c18 => ?_) (fun c18 => ?_)
    · have hw := hw.1 c18
      refine xw_iconst (v := 0) d_M_send_210 (by decide) ?_
      refine xs_istore (lv' := [some (.ref (l0)), some (.int (l1)), some (.int (l2)), some (.int (l3)), some (.int (l4)), some (.int (l5)), some (.int (l6)), some (.int (l7)), some (.int (l8)), some (.int (l9)), some (.int (l10)), some (.int (l11)), some (.int (l12)), some (.int (0)), none]) d_M_send_211 rfl rfl ?_
      obtain ⟨n1, hw⟩ := hw
      exact p_M_send_213  n1 (l0) (l1) (l2) (l3) (l4) (l5) (l6) (l7) (l8) (l9) (l10) (l11) (l12) (0) h hw
    · have hw := hw.2 c18
      refine xw_aload_n d_M_send_148 rfl rfl ?_
      obtain ⟨f2, a3, hA, hB, hw⟩ := hw
      refine xw_getr fr_M_97 d_M_send_149 hA hB ?_
      refine xw_iload d_M_send_152 rfl ?_
      refine xw_bipush (v := 9) d_M_send_154 (by decide) ?_
      refine xw_iadd d_M_send_156 ?_
      refine xw_iconst (v := 2) d_M_send_157 (by decide) ?_
      refine xw_iload d_M_send_158 rfl ?_
      refine xw_imul d_M_send_160 ?_
      refine xw_iadd d_M_send_161 ?_
      refine xw_aload_n d_M_send_162 rfl rfl ?_
      obtain ⟨f4, a5, hA, hB, hw⟩ := hw
      refine xw_getr fr_M_34 d_M_send_163 hA hB ?_
      refine xw_bipush (v := 16) d_M_send_166 (by decide) ?_
      refine xw_iload_n d_M_send_168 rfl rfl ?_
      refine xw_imul d_M_send_169 ?_
      refine xw_iload d_M_send_170 rfl ?_
      refine xw_iadd d_M_send_172 ?_
      obtain ⟨ar17, x6, hA, hB, hC, hw⟩ := hw
      refine xw_iaload (t := 0) rfl d_M_send_173 hA hB hC ?_
      obtain ⟨ar7, hA, hB, hC, hw⟩ := hw
      refine xw_iastore (t := 0) rfl d_M_send_174 hA hB hC ?_
      generalize hh : xu h a3 (.inl (0, .inl (ar7.set ((l12 + 9) + (2 * l13) : Int32).toNatClampNeg x6))) = h8
      have hw := hw h8 hh.symm
      refine xw_aload_n d_M_send_175 rfl rfl ?_
      obtain ⟨f9, a10, hA, hB, hw⟩ := hw
      refine xw_getr fr_M_97 d_M_send_176 hA hB ?_
      refine xw_iload d_M_send_179 rfl ?_
      refine xw_bipush (v := 9) d_M_send_181 (by decide) ?_
      refine xw_iadd d_M_send_183 ?_
      refine xw_iconst (v := 2) d_M_send_184 (by decide) ?_
      refine xw_iload d_M_send_185 rfl ?_
      refine xw_imul d_M_send_187 ?_
      refine xw_iadd d_M_send_188 ?_
      refine xw_iconst (v := 1) d_M_send_189 (by decide) ?_
      refine xw_iadd d_M_send_190 ?_
      refine xw_aload_n d_M_send_191 rfl rfl ?_
      obtain ⟨f11, a12, hA, hB, hw⟩ := hw
      refine xw_getr fr_M_37 d_M_send_192 hA hB ?_
      refine xw_bipush (v := 16) d_M_send_195 (by decide) ?_
      refine xw_iload_n d_M_send_197 rfl rfl ?_
      refine xw_imul d_M_send_198 ?_
      refine xw_iload d_M_send_199 rfl ?_
      refine xw_iadd d_M_send_201 ?_
      obtain ⟨ar16, x13, hA, hB, hC, hw⟩ := hw
      refine xw_iaload (t := 0) rfl d_M_send_202 hA hB hC ?_
      obtain ⟨ar14, hA, hB, hC, hw⟩ := hw
      refine xw_iastore (t := 0) rfl d_M_send_203 hA hB hC ?_
      generalize hh : xu h8 a10 (.inl (0, .inl (ar14.set (((l12 + 9) + (2 * l13)) + 1 : Int32).toNatClampNeg x13))) = h15
      have hw := hw h15 hh.symm
      refine xs_iinc (v := l13 + 1) (lv' := [some (.ref (l0)), some (.int (l1)), some (.int (l2)), some (.int (l3)), some (.int (l4)), some (.int (l5)), some (.int (l6)), some (.int (l7)), some (.int (l8)), some (.int (l9)), some (.int (l10)), some (.int (l11)), some (.int (l12)), some (.int (l13 + 1)), none]) d_M_send_204 rfl rfl rfl ?_
      refine xw_goto (tgt := 141) d_M_send_207 (by decide) ?_
      exact ih (l0) (l1) (l2) (l3) (l4) (l5) (l6) (l7) (l8) (l9) (l10) (l11) (l12) (l13 + 1) h15 hw
set_option maxRecDepth 100000 in
def w_M_send_80 (Q : Option Value → xH → Prop) (l0 : Nat) (l1 : Int32) (l2 : Int32) (l3 : Int32) (l4 : Int32) (l5 : Int32) (l6 : Int32) (l7 : Int32) (l8 : Int32) (l9 : Int32) (l10 : Int32) (l11 : Int32) (l12 : Int32) (h : xH) : Prop := ∃ (f1 : List Value) (a2 : Nat), h.2 l0 = some (.inr (8, f1)) ∧ f1[32]? = some (.ref a2) ∧ ∃ ar3, h.2 a2 = some (.inl (0, .inl ar3)) ∧ 0 ≤ (l12 + 4 : Int32) ∧ (l12 + 4 : Int32).toNatClampNeg < ar3.length ∧ ∀ h4, h4 = xu h a2 (.inl (0, .inl (ar3.set (l12 + 4 : Int32).toNatClampNeg l5))) → ∃ (f5 : List Value) (a6 : Nat), h4.2 l0 = some (.inr (8, f5)) ∧ f5[32]? = some (.ref a6) ∧ ∃ ar7, h4.2 a6 = some (.inl (0, .inl ar7)) ∧ 0 ≤ (l12 + 5 : Int32) ∧ (l12 + 5 : Int32).toNatClampNeg < ar7.length ∧ ∀ h8, h8 = xu h4 a6 (.inl (0, .inl (ar7.set (l12 + 5 : Int32).toNatClampNeg l6))) → ∃ (f9 : List Value) (a10 : Nat), h8.2 l0 = some (.inr (8, f9)) ∧ f9[32]? = some (.ref a10) ∧ ∃ ar11, h8.2 a10 = some (.inl (0, .inl ar11)) ∧ 0 ≤ (l12 + 6 : Int32) ∧ (l12 + 6 : Int32).toNatClampNeg < ar11.length ∧ ∀ h12, h12 = xu h8 a10 (.inl (0, .inl (ar11.set (l12 + 6 : Int32).toNatClampNeg l7))) → ∃ (f13 : List Value) (a14 : Nat), h12.2 l0 = some (.inr (8, f13)) ∧ f13[32]? = some (.ref a14) ∧ ∃ ar15, h12.2 a14 = some (.inl (0, .inl ar15)) ∧ 0 ≤ (l12 + 7 : Int32) ∧ (l12 + 7 : Int32).toNatClampNeg < ar15.length ∧ ∀ h16, h16 = xu h12 a14 (.inl (0, .inl (ar15.set (l12 + 7 : Int32).toNatClampNeg l8))) → ∃ (f17 : List Value) (a18 : Nat), h16.2 l0 = some (.inr (8, f17)) ∧ f17[32]? = some (.ref a18) ∧ ∃ ar19, h16.2 a18 = some (.inl (0, .inl ar19)) ∧ 0 ≤ (l12 + 8 : Int32) ∧ (l12 + 8 : Int32).toNatClampNeg < ar19.length ∧ ∀ h20, h20 = xu h16 a18 (.inl (0, .inl (ar19.set (l12 + 8 : Int32).toNatClampNeg l9))) → ∃ n21, w_M_send_141 Q n21 (l0) (l1) (l2) (l3) (l4) (l5) (l6) (l7) (l8) (l9) (l10) (l11) (l12) (0) h20
set_option maxRecDepth 100000 in
set_option maxHeartbeats 4000000 in
theorem p_M_send_80 {sc : List Int32} {Q : Option Value → xH → Prop} (l0 : Nat) (l1 : Int32) (l2 : Int32) (l3 : Int32) (l4 : Int32) (l5 : Int32) (l6 : Int32) (l7 : Int32) (l8 : Int32) (l9 : Int32) (l10 : Int32) (l11 : Int32) (l12 : Int32) (h : xH) (hw : w_M_send_80 Q l0 l1 l2 l3 l4 l5 l6 l7 l8 l9 l10 l11 l12 h) : xW sc m_M_send 0 0 0 80 [some (.ref (l0)), some (.int (l1)), some (.int (l2)), some (.int (l3)), some (.int (l4)), some (.int (l5)), some (.int (l6)), some (.int (l7)), some (.int (l8)), some (.int (l9)), some (.int (l10)), some (.int (l11)), some (.int (l12)), none, none] [] h Q := by
  unfold w_M_send_80 at hw
  refine xw_aload_n d_M_send_80 rfl rfl ?_
  obtain ⟨f1, a2, hA, hB, hw⟩ := hw
  refine xw_getr fr_M_97 d_M_send_81 hA hB ?_
  refine xw_iload d_M_send_84 rfl ?_
  refine xw_iconst (v := 4) d_M_send_86 (by decide) ?_
  refine xw_iadd d_M_send_87 ?_
  refine xw_iload d_M_send_88 rfl ?_
  obtain ⟨ar3, hA, hB, hC, hw⟩ := hw
  refine xw_iastore (t := 0) rfl d_M_send_90 hA hB hC ?_
  generalize hh : xu h a2 (.inl (0, .inl (ar3.set (l12 + 4 : Int32).toNatClampNeg l5))) = h4
  have hw := hw h4 hh.symm
  refine xw_aload_n d_M_send_91 rfl rfl ?_
  obtain ⟨f5, a6, hA, hB, hw⟩ := hw
  refine xw_getr fr_M_97 d_M_send_92 hA hB ?_
  refine xw_iload d_M_send_95 rfl ?_
  refine xw_iconst (v := 5) d_M_send_97 (by decide) ?_
  refine xw_iadd d_M_send_98 ?_
  refine xw_iload d_M_send_99 rfl ?_
  obtain ⟨ar7, hA, hB, hC, hw⟩ := hw
  refine xw_iastore (t := 0) rfl d_M_send_101 hA hB hC ?_
  generalize hh : xu h4 a6 (.inl (0, .inl (ar7.set (l12 + 5 : Int32).toNatClampNeg l6))) = h8
  have hw := hw h8 hh.symm
  refine xw_aload_n d_M_send_102 rfl rfl ?_
  obtain ⟨f9, a10, hA, hB, hw⟩ := hw
  refine xw_getr fr_M_97 d_M_send_103 hA hB ?_
  refine xw_iload d_M_send_106 rfl ?_
  refine xw_bipush (v := 6) d_M_send_108 (by decide) ?_
  refine xw_iadd d_M_send_110 ?_
  refine xw_iload d_M_send_111 rfl ?_
  obtain ⟨ar11, hA, hB, hC, hw⟩ := hw
  refine xw_iastore (t := 0) rfl d_M_send_113 hA hB hC ?_
  generalize hh : xu h8 a10 (.inl (0, .inl (ar11.set (l12 + 6 : Int32).toNatClampNeg l7))) = h12
  have hw := hw h12 hh.symm
  refine xw_aload_n d_M_send_114 rfl rfl ?_
  obtain ⟨f13, a14, hA, hB, hw⟩ := hw
  refine xw_getr fr_M_97 d_M_send_115 hA hB ?_
  refine xw_iload d_M_send_118 rfl ?_
  refine xw_bipush (v := 7) d_M_send_120 (by decide) ?_
  refine xw_iadd d_M_send_122 ?_
  refine xw_iload d_M_send_123 rfl ?_
  obtain ⟨ar15, hA, hB, hC, hw⟩ := hw
  refine xw_iastore (t := 0) rfl d_M_send_125 hA hB hC ?_
  generalize hh : xu h12 a14 (.inl (0, .inl (ar15.set (l12 + 7 : Int32).toNatClampNeg l8))) = h16
  have hw := hw h16 hh.symm
  refine xw_aload_n d_M_send_126 rfl rfl ?_
  obtain ⟨f17, a18, hA, hB, hw⟩ := hw
  refine xw_getr fr_M_97 d_M_send_127 hA hB ?_
  refine xw_iload d_M_send_130 rfl ?_
  refine xw_bipush (v := 8) d_M_send_132 (by decide) ?_
  refine xw_iadd d_M_send_134 ?_
  refine xw_iload d_M_send_135 rfl ?_
  obtain ⟨ar19, hA, hB, hC, hw⟩ := hw
  refine xw_iastore (t := 0) rfl d_M_send_137 hA hB hC ?_
  generalize hh : xu h16 a18 (.inl (0, .inl (ar19.set (l12 + 8 : Int32).toNatClampNeg l9))) = h20
  have hw := hw h20 hh.symm
  refine xw_iconst (v := 0) d_M_send_138 (by decide) ?_
  refine xs_istore (lv' := [some (.ref (l0)), some (.int (l1)), some (.int (l2)), some (.int (l3)), some (.int (l4)), some (.int (l5)), some (.int (l6)), some (.int (l7)), some (.int (l8)), some (.int (l9)), some (.int (l10)), some (.int (l11)), some (.int (l12)), some (.int (0)), none]) d_M_send_139 rfl rfl ?_
  obtain ⟨n21, hw⟩ := hw
  exact p_M_send_141  n21 (l0) (l1) (l2) (l3) (l4) (l5) (l6) (l7) (l8) (l9) (l10) (l11) (l12) (0) h20 hw
set_option maxRecDepth 100000 in
def w_M_send (Q : Option Value → xH → Prop) (this : Nat) (p1 : Int32) (p2 : Int32) (p3 : Int32) (p4 : Int32) (p5 : Int32) (p6 : Int32) (p7 : Int32) (p8 : Int32) (p9 : Int32) (p10 : Int32) (p11 : Int32) (h : xH) : Prop := ∃ (f1 : List Value) (x2 : Int32), h.2 this = some (.inr (8, f1)) ∧ f1[31]? = some (.int x2) ∧ ((¬ x2 = 120 → ∃ (f3 : List Value) (x4 : Int32), h.2 this = some (.inr (8, f3)) ∧ f3[31]? = some (.int x4) ∧ ∃ (f5 : List Value) (x6 : Int32), h.2 this = some (.inr (8, f5)) ∧ f5[31]? = some (.int x6) ∧ ∃ f7, h.2 this = some (.inr (8, f7)) ∧ 31 < f7.length ∧ ∀ h8, h8 = xu h this (.inr (8, f7.set 31 (.int (x6 + 1)))) → ∃ (f9 : List Value) (a10 : Nat), h8.2 this = some (.inr (8, f9)) ∧ f9[32]? = some (.ref a10) ∧ ∃ ar11, h8.2 a10 = some (.inl (0, .inl ar11)) ∧ 0 ≤ ((53 * x4) + 0 : Int32) ∧ ((53 * x4) + 0 : Int32).toNatClampNeg < ar11.length ∧ ∀ h12, h12 = xu h8 a10 (.inl (0, .inl (ar11.set ((53 * x4) + 0 : Int32).toNatClampNeg p1))) → ∃ (f13 : List Value) (a14 : Nat), h12.2 this = some (.inr (8, f13)) ∧ f13[32]? = some (.ref a14) ∧ ∃ ar15, h12.2 a14 = some (.inl (0, .inl ar15)) ∧ 0 ≤ ((53 * x4) + 1 : Int32) ∧ ((53 * x4) + 1 : Int32).toNatClampNeg < ar15.length ∧ ∀ h16, h16 = xu h12 a14 (.inl (0, .inl (ar15.set ((53 * x4) + 1 : Int32).toNatClampNeg p2))) → ∃ (f17 : List Value) (a18 : Nat), h16.2 this = some (.inr (8, f17)) ∧ f17[32]? = some (.ref a18) ∧ ∃ ar19, h16.2 a18 = some (.inl (0, .inl ar19)) ∧ 0 ≤ ((53 * x4) + 2 : Int32) ∧ ((53 * x4) + 2 : Int32).toNatClampNeg < ar19.length ∧ ∀ h20, h20 = xu h16 a18 (.inl (0, .inl (ar19.set ((53 * x4) + 2 : Int32).toNatClampNeg p3))) → ∃ (f21 : List Value) (a22 : Nat), h20.2 this = some (.inr (8, f21)) ∧ f21[32]? = some (.ref a22) ∧ ∃ ar23, h20.2 a22 = some (.inl (0, .inl ar23)) ∧ 0 ≤ ((53 * x4) + 3 : Int32) ∧ ((53 * x4) + 3 : Int32).toNatClampNeg < ar23.length ∧ ∀ h24, h24 = xu h20 a22 (.inl (0, .inl (ar23.set ((53 * x4) + 3 : Int32).toNatClampNeg p4))) → w_M_send_80 Q (this) (p1) (p2) (p3) (p4) (p5) (p6) (p7) (p8) (p9) (p10) (p11) (53 * x4) h24) ∧ (x2 = 120 → ∃ (f25 : List Value) (x26 : Int32), h.2 this = some (.inr (8, f25)) ∧ f25[33]? = some (.int x26) ∧ ∃ f27, h.2 this = some (.inr (8, f27)) ∧ 33 < f27.length ∧ ∀ h28, h28 = xu h this (.inr (8, f27.set 33 (.int (x26 + 1)))) → Q none h28))
set_option maxRecDepth 100000 in
set_option maxHeartbeats 4000000 in
theorem x_M_send {sc : List Int32} {Q : Option Value → xH → Prop} {this : Nat} {p1 : Int32} {p2 : Int32} {p3 : Int32} {p4 : Int32} {p5 : Int32} {p6 : Int32} {p7 : Int32} {p8 : Int32} {p9 : Int32} {p10 : Int32} {p11 : Int32} {h : xH} (hw : w_M_send Q this p1 p2 p3 p4 p5 p6 p7 p8 p9 p10 p11 h) : xMet sc m_M_send 0 0 0 [.ref (this), .int (p1), .int (p2), .int (p3), .int (p4), .int (p5), .int (p6), .int (p7), .int (p8), .int (p9), .int (p10), .int (p11)] h Q := by
  unfold w_M_send at hw
  refine xMet.of2 cw_M_send rfl rfl ?_
  show xW sc m_M_send 0 0 0 0 [some (.ref (this)), some (.int (p1)), some (.int (p2)), some (.int (p3)), some (.int (p4)), some (.int (p5)), some (.int (p6)), some (.int (p7)), some (.int (p8)), some (.int (p9)), some (.int (p10)), some (.int (p11)), none, none, none] [] h Q
  refine xw_aload_n d_M_send_0 rfl rfl ?_
  obtain ⟨f1, x2, hA, hB, hw⟩ := hw
  refine xw_getr fr_M_129 d_M_send_1 hA hB ?_
  refine xw_bipush (v := 120) d_M_send_4 (by decide) ?_
  refine xw_icmp_ne (tgt := 20) d_M_send_6 (by decide) (fun c29 => ?_) (fun c29 => ?_)
  · have hw := hw.1 c29
    refine xw_bipush (v := 53) d_M_send_20 (by decide) ?_
    refine xw_aload_n d_M_send_22 rfl rfl ?_
    obtain ⟨f3, x4, hA, hB, hw⟩ := hw
    refine xw_getr fr_M_129 d_M_send_23 hA hB ?_
    refine xw_imul d_M_send_26 ?_
    refine xs_istore (lv' := [some (.ref (this)), some (.int (p1)), some (.int (p2)), some (.int (p3)), some (.int (p4)), some (.int (p5)), some (.int (p6)), some (.int (p7)), some (.int (p8)), some (.int (p9)), some (.int (p10)), some (.int (p11)), some (.int (53 * x4)), none, none]) d_M_send_27 rfl rfl ?_
    refine xw_aload_n d_M_send_29 rfl rfl ?_
    refine xw_dup d_M_send_30 rfl ?_
    obtain ⟨f5, x6, hA, hB, hw⟩ := hw
    refine xw_getr fr_M_129 d_M_send_31 hA hB ?_
    refine xw_iconst (v := 1) d_M_send_34 (by decide) ?_
    refine xw_iadd d_M_send_35 ?_
    obtain ⟨f7, hA, hB, hw⟩ := hw
    refine xw_puti fs_M_129 d_M_send_36 hA hB ?_
    generalize hh : xu h this (.inr (8, f7.set 31 (.int (x6 + 1)))) = h8
    have hw := hw h8 hh.symm
    refine xw_aload_n d_M_send_39 rfl rfl ?_
    obtain ⟨f9, a10, hA, hB, hw⟩ := hw
    refine xw_getr fr_M_97 d_M_send_40 hA hB ?_
    refine xw_iload d_M_send_43 rfl ?_
    refine xw_iconst (v := 0) d_M_send_45 (by decide) ?_
    refine xw_iadd d_M_send_46 ?_
    refine xw_iload_n d_M_send_47 rfl rfl ?_
    obtain ⟨ar11, hA, hB, hC, hw⟩ := hw
    refine xw_iastore (t := 0) rfl d_M_send_48 hA hB hC ?_
    generalize hh : xu h8 a10 (.inl (0, .inl (ar11.set ((53 * x4) + 0 : Int32).toNatClampNeg p1))) = h12
    have hw := hw h12 hh.symm
    refine xw_aload_n d_M_send_49 rfl rfl ?_
    obtain ⟨f13, a14, hA, hB, hw⟩ := hw
    refine xw_getr fr_M_97 d_M_send_50 hA hB ?_
    refine xw_iload d_M_send_53 rfl ?_
    refine xw_iconst (v := 1) d_M_send_55 (by decide) ?_
    refine xw_iadd d_M_send_56 ?_
    refine xw_iload_n d_M_send_57 rfl rfl ?_
    obtain ⟨ar15, hA, hB, hC, hw⟩ := hw
    refine xw_iastore (t := 0) rfl d_M_send_58 hA hB hC ?_
    generalize hh : xu h12 a14 (.inl (0, .inl (ar15.set ((53 * x4) + 1 : Int32).toNatClampNeg p2))) = h16
    have hw := hw h16 hh.symm
    refine xw_aload_n d_M_send_59 rfl rfl ?_
    obtain ⟨f17, a18, hA, hB, hw⟩ := hw
    refine xw_getr fr_M_97 d_M_send_60 hA hB ?_
    refine xw_iload d_M_send_63 rfl ?_
    refine xw_iconst (v := 2) d_M_send_65 (by decide) ?_
    refine xw_iadd d_M_send_66 ?_
    refine xw_iload_n d_M_send_67 rfl rfl ?_
    obtain ⟨ar19, hA, hB, hC, hw⟩ := hw
    refine xw_iastore (t := 0) rfl d_M_send_68 hA hB hC ?_
    generalize hh : xu h16 a18 (.inl (0, .inl (ar19.set ((53 * x4) + 2 : Int32).toNatClampNeg p3))) = h20
    have hw := hw h20 hh.symm
    refine xw_aload_n d_M_send_69 rfl rfl ?_
    obtain ⟨f21, a22, hA, hB, hw⟩ := hw
    refine xw_getr fr_M_97 d_M_send_70 hA hB ?_
    refine xw_iload d_M_send_73 rfl ?_
    refine xw_iconst (v := 3) d_M_send_75 (by decide) ?_
    refine xw_iadd d_M_send_76 ?_
    refine xw_iload d_M_send_77 rfl ?_
    obtain ⟨ar23, hA, hB, hC, hw⟩ := hw
    refine xw_iastore (t := 0) rfl d_M_send_79 hA hB hC ?_
    generalize hh : xu h20 a22 (.inl (0, .inl (ar23.set ((53 * x4) + 3 : Int32).toNatClampNeg p4))) = h24
    have hw := hw h24 hh.symm
    exact p_M_send_80  (this) (p1) (p2) (p3) (p4) (p5) (p6) (p7) (p8) (p9) (p10) (p11) (53 * x4) h24 hw
  · have hw := hw.2 c29
    refine xw_aload_n d_M_send_9 rfl rfl ?_
    refine xw_dup d_M_send_10 rfl ?_
    obtain ⟨f25, x26, hA, hB, hw⟩ := hw
    refine xw_getr fr_M_132 d_M_send_11 hA hB ?_
    refine xw_iconst (v := 1) d_M_send_14 (by decide) ?_
    refine xw_iadd d_M_send_15 ?_
    obtain ⟨f27, hA, hB, hw⟩ := hw
    refine xw_puti fs_M_132 d_M_send_16 hA hB ?_
    generalize hh : xu h this (.inr (8, f27.set 33 (.int (x26 + 1)))) = h28
    have hw := hw h28 hh.symm
    exact xw_return rfl d_M_send_19 hw
set_option maxRecDepth 100000 in
def w_M_remove_15 (Q : Option Value → xH → Prop) : Nat → Nat → Int32 → Int32 → xH → Prop
  | 0, _, _, _, _ => False
  | n + 1, l0, l1, l2, h => ∃ (f1 : List Value) (x2 : Int32), h.2 l0 = some (.inr (8, f1)) ∧ f1[31]? = some (.int x2) ∧ (((53 * x2) ≤ l2 → Q none h) ∧ (¬ (53 * x2) ≤ l2 → ∃ (f3 : List Value) (a4 : Nat), h.2 l0 = some (.inr (8, f3)) ∧ f3[32]? = some (.ref a4) ∧ ∃ (f5 : List Value) (a6 : Nat), h.2 l0 = some (.inr (8, f5)) ∧ f5[32]? = some (.ref a6) ∧ ∃ (ar10 : List Int32) (x7 : Int32), h.2 a6 = some (.inl (0, .inl ar10)) ∧ 0 ≤ (l2 + 53 : Int32) ∧ ar10[(l2 + 53 : Int32).toNatClampNeg]? = some x7 ∧ ∃ ar8, h.2 a4 = some (.inl (0, .inl ar8)) ∧ 0 ≤ l2 ∧ l2.toNatClampNeg < ar8.length ∧ ∀ h9, h9 = xu h a4 (.inl (0, .inl (ar8.set l2.toNatClampNeg x7))) → w_M_remove_15 Q n (l0) (l1) (l2 + 1) h9))
set_option maxRecDepth 100000 in
set_option maxHeartbeats 4000000 in
theorem p_M_remove_15 {sc : List Int32} {Q : Option Value → xH → Prop} : ∀ (n : Nat) (l0 : Nat) (l1 : Int32) (l2 : Int32) (h : xH), w_M_remove_15 Q n l0 l1 l2 h → xW sc m_M_remove 0 0 0 15 [some (.ref (l0)), some (.int (l1)), some (.int (l2))] [] h Q := by
  intro n
  induction n with
  | zero => intro l0 l1 l2 h hw; exact False.elim hw
  | succ n ih =>
    intro l0 l1 l2 h hw
    rw [w_M_remove_15] at hw
    refine xw_iload_n d_M_remove_15 rfl rfl ?_
    refine xw_bipush (v := 53) d_M_remove_16 (by decide) ?_
    refine xw_aload_n d_M_remove_18 rfl rfl ?_
    obtain ⟨f1, x2, hA, hB, hw⟩ := hw
    refine xw_getr fr_M_129 d_M_remove_19 hA hB ?_
    refine xw_imul d_M_remove_22 ?_
    refine xw_icmp_ge (tgt := 47) d_M_remove_23 (by decide) (fun c11 => ?_) (fun c11 => ?_)
    · have hw := hw.1 c11
      exact xw_return rfl d_M_remove_47 hw
    · have hw := hw.2 c11
      refine xw_aload_n d_M_remove_26 rfl rfl ?_
      obtain ⟨f3, a4, hA, hB, hw⟩ := hw
      refine xw_getr fr_M_97 d_M_remove_27 hA hB ?_
      refine xw_iload_n d_M_remove_30 rfl rfl ?_
      refine xw_aload_n d_M_remove_31 rfl rfl ?_
      obtain ⟨f5, a6, hA, hB, hw⟩ := hw
      refine xw_getr fr_M_97 d_M_remove_32 hA hB ?_
      refine xw_iload_n d_M_remove_35 rfl rfl ?_
      refine xw_bipush (v := 53) d_M_remove_36 (by decide) ?_
      refine xw_iadd d_M_remove_38 ?_
      obtain ⟨ar10, x7, hA, hB, hC, hw⟩ := hw
      refine xw_iaload (t := 0) rfl d_M_remove_39 hA hB hC ?_
      obtain ⟨ar8, hA, hB, hC, hw⟩ := hw
      refine xw_iastore (t := 0) rfl d_M_remove_40 hA hB hC ?_
      generalize hh : xu h a4 (.inl (0, .inl (ar8.set l2.toNatClampNeg x7))) = h9
      have hw := hw h9 hh.symm
      refine xs_iinc (v := l2 + 1) (lv' := [some (.ref (l0)), some (.int (l1)), some (.int (l2 + 1))]) d_M_remove_41 rfl rfl rfl ?_
      refine xw_goto (tgt := 15) d_M_remove_44 (by decide) ?_
      exact ih (l0) (l1) (l2 + 1) h9 hw
set_option maxRecDepth 100000 in
def w_M_remove (Q : Option Value → xH → Prop) (this : Nat) (p1 : Int32) (h : xH) : Prop := ∃ (f1 : List Value) (x2 : Int32), h.2 this = some (.inr (8, f1)) ∧ f1[31]? = some (.int x2) ∧ ∃ f3, h.2 this = some (.inr (8, f3)) ∧ 31 < f3.length ∧ ∀ h4, h4 = xu h this (.inr (8, f3.set 31 (.int (x2 - 1)))) → ∃ n5, w_M_remove_15 Q n5 (this) (p1) (53 * p1) h4
set_option maxRecDepth 100000 in
set_option maxHeartbeats 4000000 in
theorem x_M_remove {sc : List Int32} {Q : Option Value → xH → Prop} {this : Nat} {p1 : Int32} {h : xH} (hw : w_M_remove Q this p1 h) : xMet sc m_M_remove 0 0 0 [.ref (this), .int (p1)] h Q := by
  unfold w_M_remove at hw
  refine xMet.of2 cw_M_remove rfl rfl ?_
  show xW sc m_M_remove 0 0 0 0 [some (.ref (this)), some (.int (p1)), none] [] h Q
  refine xw_aload_n d_M_remove_0 rfl rfl ?_
  refine xw_dup d_M_remove_1 rfl ?_
  obtain ⟨f1, x2, hA, hB, hw⟩ := hw
  refine xw_getr fr_M_129 d_M_remove_2 hA hB ?_
  refine xw_iconst (v := 1) d_M_remove_5 (by decide) ?_
  refine xw_isub d_M_remove_6 ?_
  obtain ⟨f3, hA, hB, hw⟩ := hw
  refine xw_puti fs_M_129 d_M_remove_7 hA hB ?_
  generalize hh : xu h this (.inr (8, f3.set 31 (.int (x2 - 1)))) = h4
  have hw := hw h4 hh.symm
  refine xw_bipush (v := 53) d_M_remove_10 (by decide) ?_
  refine xw_iload_n d_M_remove_12 rfl rfl ?_
  refine xw_imul d_M_remove_13 ?_
  refine xs_istore_n (lv' := [some (.ref (this)), some (.int (p1)), some (.int (53 * p1))]) d_M_remove_14 rfl rfl rfl ?_
  obtain ⟨n5, hw⟩ := hw
  exact p_M_remove_15  n5 (this) (p1) (53 * p1) h4 hw
set_option maxRecDepth 100000 in
def w_M_best (Q : Option Value → xH → Prop) (this : Nat) (p1 : Int32) (p2 : Int32) (p3 : Int32) (p4 : Int32) (p5 : Int32) (h : xH) : Prop := ∃ (f1 : List Value) (a2 : Nat), h.2 this = some (.inr (8, f1)) ∧ f1[28]? = some (.ref a2) ∧ ∃ (ar23 : List Int32) (x3 : Int32), h.2 a2 = some (.inl (0, .inl ar23)) ∧ 0 ≤ ((4 * p1) + p2 : Int32) ∧ ar23[((4 * p1) + p2 : Int32).toNatClampNeg]? = some x3 ∧ ∃ (f4 : List Value) (a5 : Nat), h.2 this = some (.inr (8, f4)) ∧ f4[29]? = some (.ref a5) ∧ ∃ (ar22 : List Int32) (x6 : Int32), h.2 a5 = some (.inl (0, .inl ar22)) ∧ 0 ≤ ((4 * p1) + p2 : Int32) ∧ ar22[((4 * p1) + p2 : Int32).toNatClampNeg]? = some x6 ∧ w_M_isGreater (fun v h7 => ∃ (x8 : Int32), v = some (.int x8) ∧ ((¬ x8 = 0 → ∃ (f9 : List Value) (a10 : Nat), h7.2 this = some (.inr (8, f9)) ∧ f9[28]? = some (.ref a10) ∧ ∃ ar11, h7.2 a10 = some (.inl (0, .inl ar11)) ∧ 0 ≤ ((4 * p1) + p2 : Int32) ∧ ((4 * p1) + p2 : Int32).toNatClampNeg < ar11.length ∧ ∀ h12, h12 = xu h7 a10 (.inl (0, .inl (ar11.set ((4 * p1) + p2 : Int32).toNatClampNeg p3))) → ∃ (f13 : List Value) (a14 : Nat), h12.2 this = some (.inr (8, f13)) ∧ f13[29]? = some (.ref a14) ∧ ∃ ar15, h12.2 a14 = some (.inl (0, .inl ar15)) ∧ 0 ≤ ((4 * p1) + p2 : Int32) ∧ ((4 * p1) + p2 : Int32).toNatClampNeg < ar15.length ∧ ∀ h16, h16 = xu h12 a14 (.inl (0, .inl (ar15.set ((4 * p1) + p2 : Int32).toNatClampNeg p4))) → ∃ (f17 : List Value) (a18 : Nat), h16.2 this = some (.inr (8, f17)) ∧ f17[30]? = some (.ref a18) ∧ ∃ ar19, h16.2 a18 = some (.inl (0, .inl ar19)) ∧ 0 ≤ ((4 * p1) + p2 : Int32) ∧ ((4 * p1) + p2 : Int32).toNatClampNeg < ar19.length ∧ ∀ h20, h20 = xu h16 a18 (.inl (0, .inl (ar19.set ((4 * p1) + p2 : Int32).toNatClampNeg p5))) → Q none h20) ∧ (x8 = 0 → Q none h7))) p3 p4 x3 x6 h
set_option maxRecDepth 100000 in
set_option maxHeartbeats 4000000 in
theorem x_M_best {sc : List Int32} {Q : Option Value → xH → Prop} {this : Nat} {p1 : Int32} {p2 : Int32} {p3 : Int32} {p4 : Int32} {p5 : Int32} {h : xH} (hw : w_M_best Q this p1 p2 p3 p4 p5 h) : xMet sc m_M_best 1 0 0 [.ref (this), .int (p1), .int (p2), .int (p3), .int (p4), .int (p5)] h Q := by
  unfold w_M_best at hw
  refine xMet.of2 cw_M_best rfl rfl ?_
  show xW sc m_M_best 1 0 0 0 [some (.ref (this)), some (.int (p1)), some (.int (p2)), some (.int (p3)), some (.int (p4)), some (.int (p5)), none] [] h Q
  refine xw_iconst (v := 4) d_M_best_0 (by decide) ?_
  refine xw_iload_n d_M_best_1 rfl rfl ?_
  refine xw_imul d_M_best_2 ?_
  refine xw_iload_n d_M_best_3 rfl rfl ?_
  refine xw_iadd d_M_best_4 ?_
  refine xs_istore (lv' := [some (.ref (this)), some (.int (p1)), some (.int (p2)), some (.int (p3)), some (.int (p4)), some (.int (p5)), some (.int ((4 * p1) + p2))]) d_M_best_5 rfl rfl ?_
  refine xw_iload_n d_M_best_7 rfl rfl ?_
  refine xw_iload d_M_best_8 rfl ?_
  refine xw_aload_n d_M_best_10 rfl rfl ?_
  obtain ⟨f1, a2, hA, hB, hw⟩ := hw
  refine xw_getr fr_M_88 d_M_best_11 hA hB ?_
  refine xw_iload d_M_best_14 rfl ?_
  obtain ⟨ar23, x3, hA, hB, hC, hw⟩ := hw
  refine xw_iaload (t := 0) rfl d_M_best_16 hA hB hC ?_
  refine xw_aload_n d_M_best_17 rfl rfl ?_
  obtain ⟨f4, a5, hA, hB, hw⟩ := hw
  refine xw_getr fr_M_91 d_M_best_18 hA hB ?_
  refine xw_iload d_M_best_21 rfl ?_
  obtain ⟨ar22, x6, hA, hB, hC, hw⟩ := hw
  refine xw_iaload (t := 0) rfl d_M_best_23 hA hB hC ?_
  refine xc_S4i lk_M_125 st_M_isGreater d_M_best_24 (x_M_isGreater hw) rfl rfl ?_
  intro x8 h7 hw
  refine xw_if_ne (tgt := 31) d_M_best_27 (by decide) (fun c21 => ?_) (fun c21 => ?_)
  · have hw := hw.1 c21
    refine xw_aload_n d_M_best_31 rfl rfl ?_
    obtain ⟨f9, a10, hA, hB, hw⟩ := hw
    refine xw_getr fr_M_88 d_M_best_32 hA hB ?_
    refine xw_iload d_M_best_35 rfl ?_
    refine xw_iload_n d_M_best_37 rfl rfl ?_
    obtain ⟨ar11, hA, hB, hC, hw⟩ := hw
    refine xw_iastore (t := 0) rfl d_M_best_38 hA hB hC ?_
    generalize hh : xu h7 a10 (.inl (0, .inl (ar11.set ((4 * p1) + p2 : Int32).toNatClampNeg p3))) = h12
    have hw := hw h12 hh.symm
    refine xw_aload_n d_M_best_39 rfl rfl ?_
    obtain ⟨f13, a14, hA, hB, hw⟩ := hw
    refine xw_getr fr_M_91 d_M_best_40 hA hB ?_
    refine xw_iload d_M_best_43 rfl ?_
    refine xw_iload d_M_best_45 rfl ?_
    obtain ⟨ar15, hA, hB, hC, hw⟩ := hw
    refine xw_iastore (t := 0) rfl d_M_best_47 hA hB hC ?_
    generalize hh : xu h12 a14 (.inl (0, .inl (ar15.set ((4 * p1) + p2 : Int32).toNatClampNeg p4))) = h16
    have hw := hw h16 hh.symm
    refine xw_aload_n d_M_best_48 rfl rfl ?_
    obtain ⟨f17, a18, hA, hB, hw⟩ := hw
    refine xw_getr fr_M_94 d_M_best_49 hA hB ?_
    refine xw_iload d_M_best_52 rfl ?_
    refine xw_iload d_M_best_54 rfl ?_
    obtain ⟨ar19, hA, hB, hC, hw⟩ := hw
    refine xw_iastore (t := 0) rfl d_M_best_56 hA hB hC ?_
    generalize hh : xu h16 a18 (.inl (0, .inl (ar19.set ((4 * p1) + p2 : Int32).toNatClampNeg p5))) = h20
    have hw := hw h20 hh.symm
    exact xw_return rfl d_M_best_57 hw
  · have hw := hw.2 c21
    exact xw_return rfl d_M_best_30 hw
set_option maxRecDepth 100000 in
def w_M_bestIsOwn_2 (Q : Option Value → xH → Prop) : Nat → Nat → Int32 → Int32 → xH → Prop
  | 0, _, _, _, _ => False
  | n + 1, l0, l1, l2, h => ((4 ≤ l2 → Q none h) ∧ (¬ 4 ≤ l2 → ∃ (f1 : List Value) (a2 : Nat), h.2 l0 = some (.inr (8, f1)) ∧ f1[28]? = some (.ref a2) ∧ ∃ (f3 : List Value) (a4 : Nat), h.2 l0 = some (.inr (8, f3)) ∧ f3[6]? = some (.ref a4) ∧ ∃ (ar24 : List Int32) (x5 : Int32), h.2 a4 = some (.inl (0, .inl ar24)) ∧ 0 ≤ ((4 * l1) + l2 : Int32) ∧ ar24[((4 * l1) + l2 : Int32).toNatClampNeg]? = some x5 ∧ ∃ ar6, h.2 a2 = some (.inl (0, .inl ar6)) ∧ 0 ≤ ((4 * l1) + l2 : Int32) ∧ ((4 * l1) + l2 : Int32).toNatClampNeg < ar6.length ∧ ∀ h7, h7 = xu h a2 (.inl (0, .inl (ar6.set ((4 * l1) + l2 : Int32).toNatClampNeg x5))) → ∃ (f8 : List Value) (a9 : Nat), h7.2 l0 = some (.inr (8, f8)) ∧ f8[29]? = some (.ref a9) ∧ ∃ (f10 : List Value) (a11 : Nat), h7.2 l0 = some (.inr (8, f10)) ∧ f10[7]? = some (.ref a11) ∧ ∃ (ar23 : List Int32) (x12 : Int32), h7.2 a11 = some (.inl (0, .inl ar23)) ∧ 0 ≤ ((4 * l1) + l2 : Int32) ∧ ar23[((4 * l1) + l2 : Int32).toNatClampNeg]? = some x12 ∧ ∃ ar13, h7.2 a9 = some (.inl (0, .inl ar13)) ∧ 0 ≤ ((4 * l1) + l2 : Int32) ∧ ((4 * l1) + l2 : Int32).toNatClampNeg < ar13.length ∧ ∀ h14, h14 = xu h7 a9 (.inl (0, .inl (ar13.set ((4 * l1) + l2 : Int32).toNatClampNeg x12))) → ∃ (f15 : List Value) (a16 : Nat), h14.2 l0 = some (.inr (8, f15)) ∧ f15[30]? = some (.ref a16) ∧ ∃ (f17 : List Value) (a18 : Nat), h14.2 l0 = some (.inr (8, f17)) ∧ f17[8]? = some (.ref a18) ∧ ∃ (ar22 : List Int32) (x19 : Int32), h14.2 a18 = some (.inl (0, .inl ar22)) ∧ 0 ≤ ((4 * l1) + l2 : Int32) ∧ ar22[((4 * l1) + l2 : Int32).toNatClampNeg]? = some x19 ∧ ∃ ar20, h14.2 a16 = some (.inl (0, .inl ar20)) ∧ 0 ≤ ((4 * l1) + l2 : Int32) ∧ ((4 * l1) + l2 : Int32).toNatClampNeg < ar20.length ∧ ∀ h21, h21 = xu h14 a16 (.inl (0, .inl (ar20.set ((4 * l1) + l2 : Int32).toNatClampNeg x19))) → w_M_bestIsOwn_2 Q n (l0) (l1) (l2 + 1) h21))
set_option maxRecDepth 100000 in
set_option maxHeartbeats 4000000 in
theorem p_M_bestIsOwn_2 {sc : List Int32} {Q : Option Value → xH → Prop} : ∀ (n : Nat) (l0 : Nat) (l1 : Int32) (l2 : Int32) (h : xH), w_M_bestIsOwn_2 Q n l0 l1 l2 h → xW sc m_M_bestIsOwn 0 0 0 2 [some (.ref (l0)), some (.int (l1)), some (.int (l2)), none] [] h Q := by
  intro n
  induction n with
  | zero => intro l0 l1 l2 h hw; exact False.elim hw
  | succ n ih =>
    intro l0 l1 l2 h hw
    rw [w_M_bestIsOwn_2] at hw
    refine xw_iload_n d_M_bestIsOwn_2 rfl rfl ?_
    refine xw_iconst (v := 4) d_M_bestIsOwn_3 (by decide) ?_
    refine xw_icmp_ge (tgt := 55) d_M_bestIsOwn_4 (by decide) (fun c25 => ?_) (fun c25 => ?_)
    · have hw := hw.1 c25
      exact xw_return rfl d_M_bestIsOwn_55 hw
    · have hw := hw.2 c25
      refine xw_iconst (v := 4) d_M_bestIsOwn_7 (by decide) ?_
      refine xw_iload_n d_M_bestIsOwn_8 rfl rfl ?_
      refine xw_imul d_M_bestIsOwn_9 ?_
      refine xw_iload_n d_M_bestIsOwn_10 rfl rfl ?_
      refine xw_iadd d_M_bestIsOwn_11 ?_
      refine xs_istore_n (lv' := [some (.ref (l0)), some (.int (l1)), some (.int (l2)), some (.int ((4 * l1) + l2))]) d_M_bestIsOwn_12 rfl rfl rfl ?_
      refine xw_aload_n d_M_bestIsOwn_13 rfl rfl ?_
      obtain ⟨f1, a2, hA, hB, hw⟩ := hw
      refine xw_getr fr_M_88 d_M_bestIsOwn_14 hA hB ?_
      refine xw_iload_n d_M_bestIsOwn_17 rfl rfl ?_
      refine xw_aload_n d_M_bestIsOwn_18 rfl rfl ?_
      obtain ⟨f3, a4, hA, hB, hw⟩ := hw
      refine xw_getr fr_M_25 d_M_bestIsOwn_19 hA hB ?_
      refine xw_iload_n d_M_bestIsOwn_22 rfl rfl ?_
      obtain ⟨ar24, x5, hA, hB, hC, hw⟩ := hw
      refine xw_iaload (t := 0) rfl d_M_bestIsOwn_23 hA hB hC ?_
      obtain ⟨ar6, hA, hB, hC, hw⟩ := hw
      refine xw_iastore (t := 0) rfl d_M_bestIsOwn_24 hA hB hC ?_
      generalize hh : xu h a2 (.inl (0, .inl (ar6.set ((4 * l1) + l2 : Int32).toNatClampNeg x5))) = h7
      have hw := hw h7 hh.symm
      refine xw_aload_n d_M_bestIsOwn_25 rfl rfl ?_
      obtain ⟨f8, a9, hA, hB, hw⟩ := hw
      refine xw_getr fr_M_91 d_M_bestIsOwn_26 hA hB ?_
      refine xw_iload_n d_M_bestIsOwn_29 rfl rfl ?_
      refine xw_aload_n d_M_bestIsOwn_30 rfl rfl ?_
      obtain ⟨f10, a11, hA, hB, hw⟩ := hw
      refine xw_getr fr_M_28 d_M_bestIsOwn_31 hA hB ?_
      refine xw_iload_n d_M_bestIsOwn_34 rfl rfl ?_
      obtain ⟨ar23, x12, hA, hB, hC, hw⟩ := hw
      refine xw_iaload (t := 0) rfl d_M_bestIsOwn_35 hA hB hC ?_
      obtain ⟨ar13, hA, hB, hC, hw⟩ := hw
      refine xw_iastore (t := 0) rfl d_M_bestIsOwn_36 hA hB hC ?_
      generalize hh : xu h7 a9 (.inl (0, .inl (ar13.set ((4 * l1) + l2 : Int32).toNatClampNeg x12))) = h14
      have hw := hw h14 hh.symm
      refine xw_aload_n d_M_bestIsOwn_37 rfl rfl ?_
      obtain ⟨f15, a16, hA, hB, hw⟩ := hw
      refine xw_getr fr_M_94 d_M_bestIsOwn_38 hA hB ?_
      refine xw_iload_n d_M_bestIsOwn_41 rfl rfl ?_
      refine xw_aload_n d_M_bestIsOwn_42 rfl rfl ?_
      obtain ⟨f17, a18, hA, hB, hw⟩ := hw
      refine xw_getr fr_M_31 d_M_bestIsOwn_43 hA hB ?_
      refine xw_iload_n d_M_bestIsOwn_46 rfl rfl ?_
      obtain ⟨ar22, x19, hA, hB, hC, hw⟩ := hw
      refine xw_iaload (t := 0) rfl d_M_bestIsOwn_47 hA hB hC ?_
      obtain ⟨ar20, hA, hB, hC, hw⟩ := hw
      refine xw_iastore (t := 0) rfl d_M_bestIsOwn_48 hA hB hC ?_
      generalize hh : xu h14 a16 (.inl (0, .inl (ar20.set ((4 * l1) + l2 : Int32).toNatClampNeg x19))) = h21
      have hw := hw h21 hh.symm
      refine xs_iinc (v := l2 + 1) (lv' := [some (.ref (l0)), some (.int (l1)), some (.int (l2 + 1)), some (.int ((4 * l1) + l2))]) d_M_bestIsOwn_49 rfl rfl rfl ?_
      refine xw_goto (tgt := 2) d_M_bestIsOwn_52 (by decide) ?_
      refine xs_drop (lv' := [some (.ref (l0)), some (.int (l1)), some (.int (l2 + 1)), none]) 3 rfl ?_
      exact ih (l0) (l1) (l2 + 1) h21 hw
set_option maxRecDepth 100000 in
def w_M_bestIsOwn (Q : Option Value → xH → Prop) (this : Nat) (p1 : Int32) (h : xH) : Prop := ∃ n1, w_M_bestIsOwn_2 Q n1 (this) (p1) (0) h
set_option maxRecDepth 100000 in
set_option maxHeartbeats 4000000 in
theorem x_M_bestIsOwn {sc : List Int32} {Q : Option Value → xH → Prop} {this : Nat} {p1 : Int32} {h : xH} (hw : w_M_bestIsOwn Q this p1 h) : xMet sc m_M_bestIsOwn 0 0 0 [.ref (this), .int (p1)] h Q := by
  unfold w_M_bestIsOwn at hw
  refine xMet.of2 cw_M_bestIsOwn rfl rfl ?_
  show xW sc m_M_bestIsOwn 0 0 0 0 [some (.ref (this)), some (.int (p1)), none, none] [] h Q
  refine xw_iconst (v := 0) d_M_bestIsOwn_0 (by decide) ?_
  refine xs_istore_n (lv' := [some (.ref (this)), some (.int (p1)), some (.int (0)), none]) d_M_bestIsOwn_1 rfl rfl rfl ?_
  obtain ⟨n1, hw⟩ := hw
  exact p_M_bestIsOwn_2  n1 (this) (p1) (0) h hw
set_option maxRecDepth 100000 in
def w_M_top (Q : Option Value → xH → Prop) (this : Nat) (p1 : Int32) (p2 : Int32) (p3 : Int32) (h : xH) : Prop := ∃ (f1 : List Value) (a2 : Nat), h.2 this = some (.inr (8, f1)) ∧ f1[26]? = some (.ref a2) ∧ ∃ (ar13 : List Int32) (x3 : Int32), h.2 a2 = some (.inl (0, .inl ar13)) ∧ 0 ≤ p1 ∧ ar13[p1.toNatClampNeg]? = some x3 ∧ ((x3 < p2 → ∃ (f4 : List Value) (a5 : Nat), h.2 this = some (.inr (8, f4)) ∧ f4[26]? = some (.ref a5) ∧ ∃ ar6, h.2 a5 = some (.inl (0, .inl ar6)) ∧ 0 ≤ p1 ∧ p1.toNatClampNeg < ar6.length ∧ ∀ h7, h7 = xu h a5 (.inl (0, .inl (ar6.set p1.toNatClampNeg p2))) → ∃ (f8 : List Value) (a9 : Nat), h7.2 this = some (.inr (8, f8)) ∧ f8[27]? = some (.ref a9) ∧ ∃ ar10, h7.2 a9 = some (.inl (0, .inl ar10)) ∧ 0 ≤ p1 ∧ p1.toNatClampNeg < ar10.length ∧ ∀ h11, h11 = xu h7 a9 (.inl (0, .inl (ar10.set p1.toNatClampNeg p3))) → Q none h11) ∧ (¬ x3 < p2 → Q none h))
set_option maxRecDepth 100000 in
set_option maxHeartbeats 4000000 in
theorem x_M_top {sc : List Int32} {Q : Option Value → xH → Prop} {this : Nat} {p1 : Int32} {p2 : Int32} {p3 : Int32} {h : xH} (hw : w_M_top Q this p1 p2 p3 h) : xMet sc m_M_top 0 0 0 [.ref (this), .int (p1), .int (p2), .int (p3)] h Q := by
  unfold w_M_top at hw
  refine xMet.of2 cw_M_top rfl rfl ?_
  show xW sc m_M_top 0 0 0 0 [some (.ref (this)), some (.int (p1)), some (.int (p2)), some (.int (p3))] [] h Q
  refine xw_iload_n d_M_top_0 rfl rfl ?_
  refine xw_aload_n d_M_top_1 rfl rfl ?_
  obtain ⟨f1, a2, hA, hB, hw⟩ := hw
  refine xw_getr fr_M_82 d_M_top_2 hA hB ?_
  refine xw_iload_n d_M_top_5 rfl rfl ?_
  obtain ⟨ar13, x3, hA, hB, hC, hw⟩ := hw
  refine xw_iaload (t := 0) rfl d_M_top_6 hA hB hC ?_
  refine xw_icmp_gt (tgt := 11) d_M_top_7 (by decide) (fun c12 => ?_) (fun c12 => ?_)
  · have hw := hw.1 c12
    refine xw_aload_n d_M_top_11 rfl rfl ?_
    obtain ⟨f4, a5, hA, hB, hw⟩ := hw
    refine xw_getr fr_M_82 d_M_top_12 hA hB ?_
    refine xw_iload_n d_M_top_15 rfl rfl ?_
    refine xw_iload_n d_M_top_16 rfl rfl ?_
    obtain ⟨ar6, hA, hB, hC, hw⟩ := hw
    refine xw_iastore (t := 0) rfl d_M_top_17 hA hB hC ?_
    generalize hh : xu h a5 (.inl (0, .inl (ar6.set p1.toNatClampNeg p2))) = h7
    have hw := hw h7 hh.symm
    refine xw_aload_n d_M_top_18 rfl rfl ?_
    obtain ⟨f8, a9, hA, hB, hw⟩ := hw
    refine xw_getr fr_M_85 d_M_top_19 hA hB ?_
    refine xw_iload_n d_M_top_22 rfl rfl ?_
    refine xw_iload_n d_M_top_23 rfl rfl ?_
    obtain ⟨ar10, hA, hB, hC, hw⟩ := hw
    refine xw_iastore (t := 0) rfl d_M_top_24 hA hB hC ?_
    generalize hh : xu h7 a9 (.inl (0, .inl (ar10.set p1.toNatClampNeg p3))) = h11
    have hw := hw h11 hh.symm
    exact xw_return rfl d_M_top_25 hw
  · have hw := hw.2 c12
    exact xw_return rfl d_M_top_10 hw
set_option maxRecDepth 100000 in
def w_M_isData_20 (Q : Option Value → xH → Prop) (l0 : Nat) (l1 : Int32) (h : xH) : Prop := (narrow .boolean (.int 1) = .int 1 ∧ Q (some (.int 1)) h)
set_option maxRecDepth 100000 in
set_option maxHeartbeats 4000000 in
theorem p_M_isData_20 {sc : List Int32} {Q : Option Value → xH → Prop} (l0 : Nat) (l1 : Int32) (h : xH) (hw : w_M_isData_20 Q l0 l1 h) : xW sc m_M_isData 0 0 0 20 [some (.ref (l0)), some (.int (l1))] [] h Q := by
  unfold w_M_isData_20 at hw
  refine xw_iconst (v := 1) d_M_isData_20 (by decide) ?_
  refine xw_goto (tgt := 25) d_M_isData_21 (by decide) ?_
  exact xw_zreturn rfl hw.1 d_M_isData_25 hw.2
set_option maxRecDepth 100000 in
def w_M_isData (Q : Option Value → xH → Prop) (this : Nat) (p1 : Int32) (h : xH) : Prop := ∃ (f1 : List Value) (a2 : Nat), h.2 this = some (.inr (8, f1)) ∧ f1[16]? = some (.ref a2) ∧ ∃ (ar10 : List Int32) (x3 : Int32), h.2 a2 = some (.inl (0, .inl ar10)) ∧ 0 ≤ p1 ∧ ar10[p1.toNatClampNeg]? = some x3 ∧ ((x3 = 1 → w_M_isData_20 Q (this) (p1) h) ∧ (¬ x3 = 1 → ∃ (f4 : List Value) (a5 : Nat), h.2 this = some (.inr (8, f4)) ∧ f4[16]? = some (.ref a5) ∧ ∃ (ar8 : List Int32) (x6 : Int32), h.2 a5 = some (.inl (0, .inl ar8)) ∧ 0 ≤ p1 ∧ ar8[p1.toNatClampNeg]? = some x6 ∧ ((¬ x6 = 2 → (narrow .boolean (.int 0) = .int 0 ∧ Q (some (.int 0)) h)) ∧ (x6 = 2 → w_M_isData_20 Q (this) (p1) h))))
set_option maxRecDepth 100000 in
set_option maxHeartbeats 4000000 in
theorem x_M_isData {sc : List Int32} {Q : Option Value → xH → Prop} {this : Nat} {p1 : Int32} {h : xH} (hw : w_M_isData Q this p1 h) : xMet sc m_M_isData 0 0 0 [.ref (this), .int (p1)] h Q := by
  unfold w_M_isData at hw
  refine xMet.of2 cw_M_isData rfl rfl ?_
  show xW sc m_M_isData 0 0 0 0 [some (.ref (this)), some (.int (p1))] [] h Q
  refine xw_aload_n d_M_isData_0 rfl rfl ?_
  obtain ⟨f1, a2, hA, hB, hw⟩ := hw
  refine xw_getr fr_M_52 d_M_isData_1 hA hB ?_
  refine xw_iload_n d_M_isData_4 rfl rfl ?_
  obtain ⟨ar10, x3, hA, hB, hC, hw⟩ := hw
  refine xw_iaload (t := 0) rfl d_M_isData_5 hA hB hC ?_
  refine xw_iconst (v := 1) d_M_isData_6 (by decide) ?_
  refine xw_icmp_eq (tgt := 20) d_M_isData_7 (by decide) (fun c9 => ?_) (fun c9 => ?_)
  · have hw := hw.1 c9
    exact p_M_isData_20  (this) (p1) h hw
  · have hw := hw.2 c9
    refine xw_aload_n d_M_isData_10 rfl rfl ?_
    obtain ⟨f4, a5, hA, hB, hw⟩ := hw
    refine xw_getr fr_M_52 d_M_isData_11 hA hB ?_
    refine xw_iload_n d_M_isData_14 rfl rfl ?_
    obtain ⟨ar8, x6, hA, hB, hC, hw⟩ := hw
    refine xw_iaload (t := 0) rfl d_M_isData_15 hA hB hC ?_
    refine xw_iconst (v := 2) d_M_isData_16 (by decide) ?_
    refine xw_icmp_ne (tgt := 24) d_M_isData_17 (by decide) (fun c7 => ?_) (fun c7 => ?_)
    · have hw := hw.1 c7
      refine xw_iconst (v := 0) d_M_isData_24 (by decide) ?_
      exact xw_zreturn rfl hw.1 d_M_isData_25 hw.2
    · have hw := hw.2 c7
      exact p_M_isData_20  (this) (p1) h hw
set_option maxRecDepth 100000 in
def w_M_chosen (Q : Option Value → xH → Prop) (this : Nat) (p1 : Int32) (h : xH) : Prop := ∃ (f1 : List Value) (a2 : Nat), h.2 this = some (.inr (8, f1)) ∧ f1[26]? = some (.ref a2) ∧ ∃ (ar13 : List Int32) (x3 : Int32), h.2 a2 = some (.inl (0, .inl ar13)) ∧ 0 ≤ p1 ∧ ar13[p1.toNatClampNeg]? = some x3 ∧ ((x3 ≤ 0 → ∃ (f4 : List Value) (a5 : Nat), h.2 this = some (.inr (8, f4)) ∧ f4[22]? = some (.ref a5) ∧ ∃ (ar7 : List Int32) (x6 : Int32), h.2 a5 = some (.inl (0, .inl ar7)) ∧ 0 ≤ p1 ∧ ar7[p1.toNatClampNeg]? = some x6 ∧ Q (some (.int x6)) h) ∧ (¬ x3 ≤ 0 → ∃ (f8 : List Value) (a9 : Nat), h.2 this = some (.inr (8, f8)) ∧ f8[27]? = some (.ref a9) ∧ ∃ (ar11 : List Int32) (x10 : Int32), h.2 a9 = some (.inl (0, .inl ar11)) ∧ 0 ≤ p1 ∧ ar11[p1.toNatClampNeg]? = some x10 ∧ Q (some (.int x10)) h))
set_option maxRecDepth 100000 in
set_option maxHeartbeats 4000000 in
theorem x_M_chosen {sc : List Int32} {Q : Option Value → xH → Prop} {this : Nat} {p1 : Int32} {h : xH} (hw : w_M_chosen Q this p1 h) : xMet sc m_M_chosen 0 0 0 [.ref (this), .int (p1)] h Q := by
  unfold w_M_chosen at hw
  refine xMet.of2 cw_M_chosen rfl rfl ?_
  show xW sc m_M_chosen 0 0 0 0 [some (.ref (this)), some (.int (p1))] [] h Q
  refine xw_aload_n d_M_chosen_0 rfl rfl ?_
  obtain ⟨f1, a2, hA, hB, hw⟩ := hw
  refine xw_getr fr_M_82 d_M_chosen_1 hA hB ?_
  refine xw_iload_n d_M_chosen_4 rfl rfl ?_
  obtain ⟨ar13, x3, hA, hB, hC, hw⟩ := hw
  refine xw_iaload (t := 0) rfl d_M_chosen_5 hA hB hC ?_
  refine xw_if_le (tgt := 18) d_M_chosen_6 (by decide) (fun c12 => ?_) (fun c12 => ?_)
  · have hw := hw.1 c12
    refine xw_aload_n d_M_chosen_18 rfl rfl ?_
    obtain ⟨f4, a5, hA, hB, hw⟩ := hw
    refine xw_getr fr_M_70 d_M_chosen_19 hA hB ?_
    refine xw_iload_n d_M_chosen_22 rfl rfl ?_
    obtain ⟨ar7, x6, hA, hB, hC, hw⟩ := hw
    refine xw_iaload (t := 0) rfl d_M_chosen_23 hA hB hC ?_
    exact xw_ireturn rfl d_M_chosen_24 hw
  · have hw := hw.2 c12
    refine xw_aload_n d_M_chosen_9 rfl rfl ?_
    obtain ⟨f8, a9, hA, hB, hw⟩ := hw
    refine xw_getr fr_M_85 d_M_chosen_10 hA hB ?_
    refine xw_iload_n d_M_chosen_13 rfl rfl ?_
    obtain ⟨ar11, x10, hA, hB, hC, hw⟩ := hw
    refine xw_iaload (t := 0) rfl d_M_chosen_14 hA hB hC ?_
    refine xw_goto (tgt := 24) d_M_chosen_15 (by decide) ?_
    exact xw_ireturn rfl d_M_chosen_24 hw
set_option maxRecDepth 100000 in
def w_M_request_263 (Q : Option Value → xH → Prop) (l0 : Nat) (l1 : Int32) (l2 : Int32) (l3 : Int32) (s0 : Int32) (s1 : Int32) (s2 : Int32) (s3 : Int32) (s4 : Int32) (s5 : Int32) (s6 : Int32) (s7 : Int32) (s8 : Int32) (s9 : Int32) (s10 : Int32) (s11 : Nat) (h : xH) : Prop := (∃ f2, h.2 s11 = some (.inr (8, f2))) ∧ w_M_send (fun v h1 => v = none ∧ Q none h1) s11 s10 s9 s8 s7 s6 s5 s4 s3 s2 s1 s0 h
set_option maxRecDepth 100000 in
set_option maxHeartbeats 4000000 in
theorem p_M_request_263 {sc : List Int32} {Q : Option Value → xH → Prop} (l0 : Nat) (l1 : Int32) (l2 : Int32) (l3 : Int32) (s0 : Int32) (s1 : Int32) (s2 : Int32) (s3 : Int32) (s4 : Int32) (s5 : Int32) (s6 : Int32) (s7 : Int32) (s8 : Int32) (s9 : Int32) (s10 : Int32) (s11 : Nat) (h : xH) (hw : w_M_request_263 Q l0 l1 l2 l3 s0 s1 s2 s3 s4 s5 s6 s7 s8 s9 s10 s11 h) : xW sc m_M_request 1 0 0 263 [some (.ref (l0)), some (.int (l1)), some (.int (l2)), some (.int (l3))] [.int (s0), .int (s1), .int (s2), .int (s3), .int (s4), .int (s5), .int (s6), .int (s7), .int (s8), .int (s9), .int (s10), .ref (s11)] h Q := by
  unfold w_M_request_263 at hw
  obtain ⟨⟨f2, hA⟩, hw⟩ := hw
  refine xc_V11n lk_M_138 in_M_send d_M_request_263 (x_M_send hw) rfl hA rfl ?_
  intro h1 hw
  exact xw_return rfl d_M_request_266 hw
set_option maxRecDepth 100000 in
def w_M_request_229 (Q : Option Value → xH → Prop) (l0 : Nat) (l1 : Int32) (l2 : Int32) (l3 : Int32) (s0 : Int32) (s1 : Nat) (h : xH) : Prop := ∃ (f1 : List Value) (a2 : Nat), h.2 l0 = some (.inr (8, f1)) ∧ f1[2]? = some (.ref a2) ∧ ∃ (ar13 : List Int32) (x3 : Int32), h.2 a2 = some (.inl (0, .inl ar13)) ∧ 0 ≤ l1 ∧ ar13[l1.toNatClampNeg]? = some x3 ∧ ∃ (f4 : List Value) (a5 : Nat), h.2 l0 = some (.inr (8, f4)) ∧ f4[5]? = some (.ref a5) ∧ ∃ (ar12 : List Int32) (x6 : Int32), h.2 a5 = some (.inl (0, .inl ar12)) ∧ 0 ≤ l1 ∧ ar12[l1.toNatClampNeg]? = some x6 ∧ ∃ (f7 : List Value) (a8 : Nat), h.2 l0 = some (.inr (8, f7)) ∧ f7[17]? = some (.ref a8) ∧ ∃ (ar11 : List Int32) (x9 : Int32), h.2 a8 = some (.inl (0, .inl ar11)) ∧ 0 ≤ l1 ∧ ar11[l1.toNatClampNeg]? = some x9 ∧ ((¬ x9 = 2 → w_M_request_263 Q (l0) (l1) (l2) (l3) (0) (0) (0) (0) (0) (0) (x6) (x3) (l2) (l1) (s0) (s1) h) ∧ (x9 = 2 → w_M_request_263 Q (l0) (l1) (l2) (l3) (1) (0) (0) (0) (0) (0) (x6) (x3) (l2) (l1) (s0) (s1) h))
set_option maxRecDepth 100000 in
set_option maxHeartbeats 4000000 in
theorem p_M_request_229 {sc : List Int32} {Q : Option Value → xH → Prop} (l0 : Nat) (l1 : Int32) (l2 : Int32) (l3 : Int32) (s0 : Int32) (s1 : Nat) (h : xH) (hw : w_M_request_229 Q l0 l1 l2 l3 s0 s1 h) : xW sc m_M_request 1 0 0 229 [some (.ref (l0)), some (.int (l1)), some (.int (l2)), some (.int (l3))] [.int (s0), .ref (s1)] h Q := by
  unfold w_M_request_229 at hw
  refine xw_iload_n d_M_request_229 rfl rfl ?_
  refine xw_iload_n d_M_request_230 rfl rfl ?_
  refine xw_aload_n d_M_request_231 rfl rfl ?_
  obtain ⟨f1, a2, hA, hB, hw⟩ := hw
  refine xw_getr fr_M_13 d_M_request_232 hA hB ?_
  refine xw_iload_n d_M_request_235 rfl rfl ?_
  obtain ⟨ar13, x3, hA, hB, hC, hw⟩ := hw
  refine xw_iaload (t := 0) rfl d_M_request_236 hA hB hC ?_
  refine xw_aload_n d_M_request_237 rfl rfl ?_
  obtain ⟨f4, a5, hA, hB, hw⟩ := hw
  refine xw_getr fr_M_22 d_M_request_238 hA hB ?_
  refine xw_iload_n d_M_request_241 rfl rfl ?_
  obtain ⟨ar12, x6, hA, hB, hC, hw⟩ := hw
  refine xw_iaload (t := 0) rfl d_M_request_242 hA hB hC ?_
  refine xw_iconst (v := 0) d_M_request_243 (by decide) ?_
  refine xw_iconst (v := 0) d_M_request_244 (by decide) ?_
  refine xw_iconst (v := 0) d_M_request_245 (by decide) ?_
  refine xw_iconst (v := 0) d_M_request_246 (by decide) ?_
  refine xw_iconst (v := 0) d_M_request_247 (by decide) ?_
  refine xw_aload_n d_M_request_248 rfl rfl ?_
  obtain ⟨f7, a8, hA, hB, hw⟩ := hw
  refine xw_getr fr_M_55 d_M_request_249 hA hB ?_
  refine xw_iload_n d_M_request_252 rfl rfl ?_
  obtain ⟨ar11, x9, hA, hB, hC, hw⟩ := hw
  refine xw_iaload (t := 0) rfl d_M_request_253 hA hB hC ?_
  refine xw_iconst (v := 2) d_M_request_254 (by decide) ?_
  refine xw_icmp_ne (tgt := 262) d_M_request_255 (by decide) (fun c10 => ?_) (fun c10 => ?_)
  · have hw := hw.1 c10
    refine xw_iconst (v := 0) d_M_request_262 (by decide) ?_
    exact p_M_request_263  (l0) (l1) (l2) (l3) (0) (0) (0) (0) (0) (0) (x6) (x3) (l2) (l1) (s0) (s1) h hw
  · have hw := hw.2 c10
    refine xw_iconst (v := 1) d_M_request_258 (by decide) ?_
    refine xw_goto (tgt := 263) d_M_request_259 (by decide) ?_
    exact p_M_request_263  (l0) (l1) (l2) (l3) (1) (0) (0) (0) (0) (0) (x6) (x3) (l2) (l1) (s0) (s1) h hw
set_option maxRecDepth 100000 in
def w_M_request (Q : Option Value → xH → Prop) (this : Nat) (p1 : Int32) (p2 : Int32) (h : xH) : Prop := ∃ (f1 : List Value) (a2 : Nat), h.2 this = some (.inr (8, f1)) ∧ f1[18]? = some (.ref a2) ∧ ∃ (ar107 : List Int32) (x3 : Int32), h.2 a2 = some (.inl (0, .inl ar107)) ∧ 0 ≤ p1 ∧ ar107[p1.toNatClampNeg]? = some x3 ∧ (∃ f5, h.2 this = some (.inr (8, f5))) ∧ w_M_isData (fun v h4 => ∃ (x6 : Int32), v = some (.int x6) ∧ ((x6 = 0 → ∃ (f7 : List Value) (a8 : Nat), h4.2 this = some (.inr (8, f7)) ∧ f7[16]? = some (.ref a8) ∧ ∃ (ar60 : List Int32) (x9 : Int32), h4.2 a8 = some (.inl (0, .inl ar60)) ∧ 0 ≤ p1 ∧ ar60[p1.toNatClampNeg]? = some x9 ∧ ((¬ x9 = 3 → ∃ (f10 : List Value) (a11 : Nat), h4.2 this = some (.inr (8, f10)) ∧ f10[17]? = some (.ref a11) ∧ ∃ (ar14 : List Int32) (x12 : Int32), h4.2 a11 = some (.inl (0, .inl ar14)) ∧ 0 ≤ p1 ∧ ar14[p1.toNatClampNeg]? = some x12 ∧ ((¬ x12 = 1 → w_M_request_229 Q (this) (p1) (p2) ((4 * p1) + x3) (12) (this) h4) ∧ (x12 = 1 → w_M_request_229 Q (this) (p1) (p2) ((4 * p1) + x3) (10) (this) h4))) ∧ (x9 = 3 → ∃ (f15 : List Value) (a16 : Nat), h4.2 this = some (.inr (8, f15)) ∧ f15[17]? = some (.ref a16) ∧ ∃ (ar58 : List Int32) (x17 : Int32), h4.2 a16 = some (.inl (0, .inl ar58)) ∧ 0 ≤ p1 ∧ ar58[p1.toNatClampNeg]? = some x17 ∧ ((¬ x17 = 1 → ∃ (f18 : List Value) (a19 : Nat), h4.2 this = some (.inr (8, f18)) ∧ f18[2]? = some (.ref a19) ∧ ∃ (ar38 : List Int32) (x20 : Int32), h4.2 a19 = some (.inl (0, .inl ar38)) ∧ 0 ≤ p1 ∧ ar38[p1.toNatClampNeg]? = some x20 ∧ ∃ (f21 : List Value) (a22 : Nat), h4.2 this = some (.inr (8, f21)) ∧ f21[5]? = some (.ref a22) ∧ ∃ (ar37 : List Int32) (x23 : Int32), h4.2 a22 = some (.inl (0, .inl ar37)) ∧ 0 ≤ p1 ∧ ar37[p1.toNatClampNeg]? = some x23 ∧ ∃ (f24 : List Value) (a25 : Nat), h4.2 this = some (.inr (8, f24)) ∧ f24[18]? = some (.ref a25) ∧ ∃ (ar36 : List Int32) (x26 : Int32), h4.2 a25 = some (.inl (0, .inl ar36)) ∧ 0 ≤ p1 ∧ ar36[p1.toNatClampNeg]? = some x26 ∧ ∃ (f27 : List Value) (a28 : Nat), h4.2 this = some (.inr (8, f27)) ∧ f27[24]? = some (.ref a28) ∧ ∃ (ar35 : List Int32) (x29 : Int32), h4.2 a28 = some (.inl (0, .inl ar35)) ∧ 0 ≤ p1 ∧ ar35[p1.toNatClampNeg]? = some x29 ∧ (∃ f31, h4.2 this = some (.inr (8, f31))) ∧ w_M_chosen (fun v h30 => ∃ (x32 : Int32), v = some (.int x32) ∧ (∃ f34, h30.2 this = some (.inr (8, f34))) ∧ w_M_send (fun v h33 => v = none ∧ Q none h33) this 7 p1 p2 x20 x23 x26 x29 x32 0 0 0 h30) this p1 h4) ∧ (x17 = 1 → ∃ (f39 : List Value) (a40 : Nat), h4.2 this = some (.inr (8, f39)) ∧ f39[2]? = some (.ref a40) ∧ ∃ (ar56 : List Int32) (x41 : Int32), h4.2 a40 = some (.inl (0, .inl ar56)) ∧ 0 ≤ p1 ∧ ar56[p1.toNatClampNeg]? = some x41 ∧ ∃ (f42 : List Value) (a43 : Nat), h4.2 this = some (.inr (8, f42)) ∧ f42[5]? = some (.ref a43) ∧ ∃ (ar55 : List Int32) (x44 : Int32), h4.2 a43 = some (.inl (0, .inl ar55)) ∧ 0 ≤ p1 ∧ ar55[p1.toNatClampNeg]? = some x44 ∧ ∃ (f45 : List Value) (a46 : Nat), h4.2 this = some (.inr (8, f45)) ∧ f45[18]? = some (.ref a46) ∧ ∃ (ar54 : List Int32) (x47 : Int32), h4.2 a46 = some (.inl (0, .inl ar54)) ∧ 0 ≤ p1 ∧ ar54[p1.toNatClampNeg]? = some x47 ∧ ∃ (f48 : List Value) (a49 : Nat), h4.2 this = some (.inr (8, f48)) ∧ f48[24]? = some (.ref a49) ∧ ∃ (ar53 : List Int32) (x50 : Int32), h4.2 a49 = some (.inl (0, .inl ar53)) ∧ 0 ≤ p1 ∧ ar53[p1.toNatClampNeg]? = some x50 ∧ (∃ f52, h4.2 this = some (.inr (8, f52))) ∧ w_M_send (fun v h51 => v = none ∧ Q none h51) this 5 p1 p2 x41 x44 x47 x50 0 0 0 0 h4))))) ∧ (¬ x6 = 0 → ∃ (f61 : List Value) (a62 : Nat), h4.2 this = some (.inr (8, f61)) ∧ f61[17]? = some (.ref a62) ∧ ∃ (ar105 : List Int32) (x63 : Int32), h4.2 a62 = some (.inl (0, .inl ar105)) ∧ 0 ≤ p1 ∧ ar105[p1.toNatClampNeg]? = some x63 ∧ ((¬ x63 = 1 → ∃ (f64 : List Value) (a65 : Nat), h4.2 this = some (.inr (8, f64)) ∧ f64[2]? = some (.ref a65) ∧ ∃ (ar89 : List Int32) (x66 : Int32), h4.2 a65 = some (.inl (0, .inl ar89)) ∧ 0 ≤ p1 ∧ ar89[p1.toNatClampNeg]? = some x66 ∧ ∃ (f67 : List Value) (a68 : Nat), h4.2 this = some (.inr (8, f67)) ∧ f67[5]? = some (.ref a68) ∧ ∃ (ar88 : List Int32) (x69 : Int32), h4.2 a68 = some (.inl (0, .inl ar88)) ∧ 0 ≤ p1 ∧ ar88[p1.toNatClampNeg]? = some x69 ∧ ∃ (f70 : List Value) (a71 : Nat), h4.2 this = some (.inr (8, f70)) ∧ f70[18]? = some (.ref a71) ∧ ∃ (ar87 : List Int32) (x72 : Int32), h4.2 a71 = some (.inl (0, .inl ar87)) ∧ 0 ≤ p1 ∧ ar87[p1.toNatClampNeg]? = some x72 ∧ ∃ (f73 : List Value) (a74 : Nat), h4.2 this = some (.inr (8, f73)) ∧ f73[28]? = some (.ref a74) ∧ ∃ (ar86 : List Int32) (x75 : Int32), h4.2 a74 = some (.inl (0, .inl ar86)) ∧ 0 ≤ ((4 * p1) + x3 : Int32) ∧ ar86[((4 * p1) + x3 : Int32).toNatClampNeg]? = some x75 ∧ ∃ (f76 : List Value) (a77 : Nat), h4.2 this = some (.inr (8, f76)) ∧ f76[29]? = some (.ref a77) ∧ ∃ (ar85 : List Int32) (x78 : Int32), h4.2 a77 = some (.inl (0, .inl ar85)) ∧ 0 ≤ ((4 * p1) + x3 : Int32) ∧ ar85[((4 * p1) + x3 : Int32).toNatClampNeg]? = some x78 ∧ ∃ (f79 : List Value) (a80 : Nat), h4.2 this = some (.inr (8, f79)) ∧ f79[30]? = some (.ref a80) ∧ ∃ (ar84 : List Int32) (x81 : Int32), h4.2 a80 = some (.inl (0, .inl ar84)) ∧ 0 ≤ ((4 * p1) + x3 : Int32) ∧ ar84[((4 * p1) + x3 : Int32).toNatClampNeg]? = some x81 ∧ (∃ f83, h4.2 this = some (.inr (8, f83))) ∧ w_M_send (fun v h82 => v = none ∧ Q none h82) this 3 p1 p2 x66 x69 x72 x75 x78 x81 0 0 h4) ∧ (x63 = 1 → ∃ (f90 : List Value) (a91 : Nat), h4.2 this = some (.inr (8, f90)) ∧ f90[2]? = some (.ref a91) ∧ ∃ (ar103 : List Int32) (x92 : Int32), h4.2 a91 = some (.inl (0, .inl ar103)) ∧ 0 ≤ p1 ∧ ar103[p1.toNatClampNeg]? = some x92 ∧ ∃ (f93 : List Value) (a94 : Nat), h4.2 this = some (.inr (8, f93)) ∧ f93[5]? = some (.ref a94) ∧ ∃ (ar102 : List Int32) (x95 : Int32), h4.2 a94 = some (.inl (0, .inl ar102)) ∧ 0 ≤ p1 ∧ ar102[p1.toNatClampNeg]? = some x95 ∧ ∃ (f96 : List Value) (a97 : Nat), h4.2 this = some (.inr (8, f96)) ∧ f96[18]? = some (.ref a97) ∧ ∃ (ar101 : List Int32) (x98 : Int32), h4.2 a97 = some (.inl (0, .inl ar101)) ∧ 0 ≤ p1 ∧ ar101[p1.toNatClampNeg]? = some x98 ∧ (∃ f100, h4.2 this = some (.inr (8, f100))) ∧ w_M_send (fun v h99 => v = none ∧ Q none h99) this 1 p1 p2 x92 x95 x98 0 0 0 0 0 h4))))) this p1 h
set_option maxRecDepth 100000 in
set_option maxHeartbeats 4000000 in
theorem x_M_request {sc : List Int32} {Q : Option Value → xH → Prop} {this : Nat} {p1 : Int32} {p2 : Int32} {h : xH} (hw : w_M_request Q this p1 p2 h) : xMet sc m_M_request 1 0 0 [.ref (this), .int (p1), .int (p2)] h Q := by
  unfold w_M_request at hw
  refine xMet.of2 cw_M_request rfl rfl ?_
  show xW sc m_M_request 1 0 0 0 [some (.ref (this)), some (.int (p1)), some (.int (p2)), none] [] h Q
  refine xw_iconst (v := 4) d_M_request_0 (by decide) ?_
  refine xw_iload_n d_M_request_1 rfl rfl ?_
  refine xw_imul d_M_request_2 ?_
  refine xw_aload_n d_M_request_3 rfl rfl ?_
  obtain ⟨f1, a2, hA, hB, hw⟩ := hw
  refine xw_getr fr_M_58 d_M_request_4 hA hB ?_
  refine xw_iload_n d_M_request_7 rfl rfl ?_
  obtain ⟨ar107, x3, hA, hB, hC, hw⟩ := hw
  refine xw_iaload (t := 0) rfl d_M_request_8 hA hB hC ?_
  refine xw_iadd d_M_request_9 ?_
  refine xs_istore_n (lv' := [some (.ref (this)), some (.int (p1)), some (.int (p2)), some (.int ((4 * p1) + x3))]) d_M_request_10 rfl rfl rfl ?_
  refine xw_aload_n d_M_request_11 rfl rfl ?_
  refine xw_iload_n d_M_request_12 rfl rfl ?_
  obtain ⟨⟨f5, hA⟩, hw⟩ := hw
  refine xc_V1i lk_M_135 in_M_isData d_M_request_13 (x_M_isData hw) rfl hA rfl ?_
  intro x6 h4 hw
  refine xw_if_eq (tgt := 110) d_M_request_16 (by decide) (fun c106 => ?_) (fun c106 => ?_)
  · have hw := hw.1 c106
    refine xw_aload_n d_M_request_110 rfl rfl ?_
    obtain ⟨f7, a8, hA, hB, hw⟩ := hw
    refine xw_getr fr_M_52 d_M_request_111 hA hB ?_
    refine xw_iload_n d_M_request_114 rfl rfl ?_
    obtain ⟨ar60, x9, hA, hB, hC, hw⟩ := hw
    refine xw_iaload (t := 0) rfl d_M_request_115 hA hB hC ?_
    refine xw_iconst (v := 3) d_M_request_116 (by decide) ?_
    refine xw_icmp_ne (tgt := 211) d_M_request_117 (by decide) (fun c59 => ?_) (fun c59 => ?_)
    · have hw := hw.1 c59
      refine xw_aload_n d_M_request_211 rfl rfl ?_
      refine xw_aload_n d_M_request_212 rfl rfl ?_
      obtain ⟨f10, a11, hA, hB, hw⟩ := hw
      refine xw_getr fr_M_55 d_M_request_213 hA hB ?_
      refine xw_iload_n d_M_request_216 rfl rfl ?_
      obtain ⟨ar14, x12, hA, hB, hC, hw⟩ := hw
      refine xw_iaload (t := 0) rfl d_M_request_217 hA hB hC ?_
      refine xw_iconst (v := 1) d_M_request_218 (by decide) ?_
      refine xw_icmp_ne (tgt := 227) d_M_request_219 (by decide) (fun c13 => ?_) (fun c13 => ?_)
      · have hw := hw.1 c13
        refine xw_bipush (v := 12) d_M_request_227 (by decide) ?_
        exact p_M_request_229  (this) (p1) (p2) ((4 * p1) + x3) (12) (this) h4 hw
      · have hw := hw.2 c13
        refine xw_bipush (v := 10) d_M_request_222 (by decide) ?_
        refine xw_goto (tgt := 229) d_M_request_224 (by decide) ?_
        exact p_M_request_229  (this) (p1) (p2) ((4 * p1) + x3) (10) (this) h4 hw
    · have hw := hw.2 c59
      refine xw_aload_n d_M_request_120 rfl rfl ?_
      obtain ⟨f15, a16, hA, hB, hw⟩ := hw
      refine xw_getr fr_M_55 d_M_request_121 hA hB ?_
      refine xw_iload_n d_M_request_124 rfl rfl ?_
      obtain ⟨ar58, x17, hA, hB, hC, hw⟩ := hw
      refine xw_iaload (t := 0) rfl d_M_request_125 hA hB hC ?_
      refine xw_iconst (v := 1) d_M_request_126 (by decide) ?_
      refine xw_icmp_ne (tgt := 168) d_M_request_127 (by decide) (fun c57 => ?_) (fun c57 => ?_)
      · have hw := hw.1 c57
        refine xw_aload_n d_M_request_168 rfl rfl ?_
        refine xw_bipush (v := 7) d_M_request_169 (by decide) ?_
        refine xw_iload_n d_M_request_171 rfl rfl ?_
        refine xw_iload_n d_M_request_172 rfl rfl ?_
        refine xw_aload_n d_M_request_173 rfl rfl ?_
        obtain ⟨f18, a19, hA, hB, hw⟩ := hw
        refine xw_getr fr_M_13 d_M_request_174 hA hB ?_
        refine xw_iload_n d_M_request_177 rfl rfl ?_
        obtain ⟨ar38, x20, hA, hB, hC, hw⟩ := hw
        refine xw_iaload (t := 0) rfl d_M_request_178 hA hB hC ?_
        refine xw_aload_n d_M_request_179 rfl rfl ?_
        obtain ⟨f21, a22, hA, hB, hw⟩ := hw
        refine xw_getr fr_M_22 d_M_request_180 hA hB ?_
        refine xw_iload_n d_M_request_183 rfl rfl ?_
        obtain ⟨ar37, x23, hA, hB, hC, hw⟩ := hw
        refine xw_iaload (t := 0) rfl d_M_request_184 hA hB hC ?_
        refine xw_aload_n d_M_request_185 rfl rfl ?_
        obtain ⟨f24, a25, hA, hB, hw⟩ := hw
        refine xw_getr fr_M_58 d_M_request_186 hA hB ?_
        refine xw_iload_n d_M_request_189 rfl rfl ?_
        obtain ⟨ar36, x26, hA, hB, hC, hw⟩ := hw
        refine xw_iaload (t := 0) rfl d_M_request_190 hA hB hC ?_
        refine xw_aload_n d_M_request_191 rfl rfl ?_
        obtain ⟨f27, a28, hA, hB, hw⟩ := hw
        refine xw_getr fr_M_76 d_M_request_192 hA hB ?_
        refine xw_iload_n d_M_request_195 rfl rfl ?_
        obtain ⟨ar35, x29, hA, hB, hC, hw⟩ := hw
        refine xw_iaload (t := 0) rfl d_M_request_196 hA hB hC ?_
        refine xw_aload_n d_M_request_197 rfl rfl ?_
        refine xw_iload_n d_M_request_198 rfl rfl ?_
        obtain ⟨⟨f31, hA⟩, hw⟩ := hw
        refine xc_V1i lk_M_142 in_M_chosen d_M_request_199 (x_M_chosen hw) rfl hA rfl ?_
        intro x32 h30 hw
        refine xw_iconst (v := 0) d_M_request_202 (by decide) ?_
        refine xw_iconst (v := 0) d_M_request_203 (by decide) ?_
        refine xw_iconst (v := 0) d_M_request_204 (by decide) ?_
        obtain ⟨⟨f34, hA⟩, hw⟩ := hw
        refine xc_V11n lk_M_138 in_M_send d_M_request_205 (x_M_send hw) rfl hA rfl ?_
        intro h33 hw
        refine xw_goto (tgt := 266) d_M_request_208 (by decide) ?_
        exact xw_return rfl d_M_request_266 hw
      · have hw := hw.2 c57
        refine xw_aload_n d_M_request_130 rfl rfl ?_
        refine xw_iconst (v := 5) d_M_request_131 (by decide) ?_
        refine xw_iload_n d_M_request_132 rfl rfl ?_
        refine xw_iload_n d_M_request_133 rfl rfl ?_
        refine xw_aload_n d_M_request_134 rfl rfl ?_
        obtain ⟨f39, a40, hA, hB, hw⟩ := hw
        refine xw_getr fr_M_13 d_M_request_135 hA hB ?_
        refine xw_iload_n d_M_request_138 rfl rfl ?_
        obtain ⟨ar56, x41, hA, hB, hC, hw⟩ := hw
        refine xw_iaload (t := 0) rfl d_M_request_139 hA hB hC ?_
        refine xw_aload_n d_M_request_140 rfl rfl ?_
        obtain ⟨f42, a43, hA, hB, hw⟩ := hw
        refine xw_getr fr_M_22 d_M_request_141 hA hB ?_
        refine xw_iload_n d_M_request_144 rfl rfl ?_
        obtain ⟨ar55, x44, hA, hB, hC, hw⟩ := hw
        refine xw_iaload (t := 0) rfl d_M_request_145 hA hB hC ?_
        refine xw_aload_n d_M_request_146 rfl rfl ?_
        obtain ⟨f45, a46, hA, hB, hw⟩ := hw
        refine xw_getr fr_M_58 d_M_request_147 hA hB ?_
        refine xw_iload_n d_M_request_150 rfl rfl ?_
        obtain ⟨ar54, x47, hA, hB, hC, hw⟩ := hw
        refine xw_iaload (t := 0) rfl d_M_request_151 hA hB hC ?_
        refine xw_aload_n d_M_request_152 rfl rfl ?_
        obtain ⟨f48, a49, hA, hB, hw⟩ := hw
        refine xw_getr fr_M_76 d_M_request_153 hA hB ?_
        refine xw_iload_n d_M_request_156 rfl rfl ?_
        obtain ⟨ar53, x50, hA, hB, hC, hw⟩ := hw
        refine xw_iaload (t := 0) rfl d_M_request_157 hA hB hC ?_
        refine xw_iconst (v := 0) d_M_request_158 (by decide) ?_
        refine xw_iconst (v := 0) d_M_request_159 (by decide) ?_
        refine xw_iconst (v := 0) d_M_request_160 (by decide) ?_
        refine xw_iconst (v := 0) d_M_request_161 (by decide) ?_
        obtain ⟨⟨f52, hA⟩, hw⟩ := hw
        refine xc_V11n lk_M_138 in_M_send d_M_request_162 (x_M_send hw) rfl hA rfl ?_
        intro h51 hw
        refine xw_goto (tgt := 266) d_M_request_165 (by decide) ?_
        exact xw_return rfl d_M_request_266 hw
  · have hw := hw.2 c106
    refine xw_aload_n d_M_request_19 rfl rfl ?_
    obtain ⟨f61, a62, hA, hB, hw⟩ := hw
    refine xw_getr fr_M_55 d_M_request_20 hA hB ?_
    refine xw_iload_n d_M_request_23 rfl rfl ?_
    obtain ⟨ar105, x63, hA, hB, hC, hw⟩ := hw
    refine xw_iaload (t := 0) rfl d_M_request_24 hA hB hC ?_
    refine xw_iconst (v := 1) d_M_request_25 (by decide) ?_
    refine xw_icmp_ne (tgt := 62) d_M_request_26 (by decide) (fun c104 => ?_) (fun c104 => ?_)
    · have hw := hw.1 c104
      refine xw_aload_n d_M_request_62 rfl rfl ?_
      refine xw_iconst (v := 3) d_M_request_63 (by decide) ?_
      refine xw_iload_n d_M_request_64 rfl rfl ?_
      refine xw_iload_n d_M_request_65 rfl rfl ?_
      refine xw_aload_n d_M_request_66 rfl rfl ?_
      obtain ⟨f64, a65, hA, hB, hw⟩ := hw
      refine xw_getr fr_M_13 d_M_request_67 hA hB ?_
      refine xw_iload_n d_M_request_70 rfl rfl ?_
      obtain ⟨ar89, x66, hA, hB, hC, hw⟩ := hw
      refine xw_iaload (t := 0) rfl d_M_request_71 hA hB hC ?_
      refine xw_aload_n d_M_request_72 rfl rfl ?_
      obtain ⟨f67, a68, hA, hB, hw⟩ := hw
      refine xw_getr fr_M_22 d_M_request_73 hA hB ?_
      refine xw_iload_n d_M_request_76 rfl rfl ?_
      obtain ⟨ar88, x69, hA, hB, hC, hw⟩ := hw
      refine xw_iaload (t := 0) rfl d_M_request_77 hA hB hC ?_
      refine xw_aload_n d_M_request_78 rfl rfl ?_
      obtain ⟨f70, a71, hA, hB, hw⟩ := hw
      refine xw_getr fr_M_58 d_M_request_79 hA hB ?_
      refine xw_iload_n d_M_request_82 rfl rfl ?_
      obtain ⟨ar87, x72, hA, hB, hC, hw⟩ := hw
      refine xw_iaload (t := 0) rfl d_M_request_83 hA hB hC ?_
      refine xw_aload_n d_M_request_84 rfl rfl ?_
      obtain ⟨f73, a74, hA, hB, hw⟩ := hw
      refine xw_getr fr_M_88 d_M_request_85 hA hB ?_
      refine xw_iload_n d_M_request_88 rfl rfl ?_
      obtain ⟨ar86, x75, hA, hB, hC, hw⟩ := hw
      refine xw_iaload (t := 0) rfl d_M_request_89 hA hB hC ?_
      refine xw_aload_n d_M_request_90 rfl rfl ?_
      obtain ⟨f76, a77, hA, hB, hw⟩ := hw
      refine xw_getr fr_M_91 d_M_request_91 hA hB ?_
      refine xw_iload_n d_M_request_94 rfl rfl ?_
      obtain ⟨ar85, x78, hA, hB, hC, hw⟩ := hw
      refine xw_iaload (t := 0) rfl d_M_request_95 hA hB hC ?_
      refine xw_aload_n d_M_request_96 rfl rfl ?_
      obtain ⟨f79, a80, hA, hB, hw⟩ := hw
      refine xw_getr fr_M_94 d_M_request_97 hA hB ?_
      refine xw_iload_n d_M_request_100 rfl rfl ?_
      obtain ⟨ar84, x81, hA, hB, hC, hw⟩ := hw
      refine xw_iaload (t := 0) rfl d_M_request_101 hA hB hC ?_
      refine xw_iconst (v := 0) d_M_request_102 (by decide) ?_
      refine xw_iconst (v := 0) d_M_request_103 (by decide) ?_
      obtain ⟨⟨f83, hA⟩, hw⟩ := hw
      refine xc_V11n lk_M_138 in_M_send d_M_request_104 (x_M_send hw) rfl hA rfl ?_
      intro h82 hw
      refine xw_goto (tgt := 266) d_M_request_107 (by decide) ?_
      exact xw_return rfl d_M_request_266 hw
    · have hw := hw.2 c104
      refine xw_aload_n d_M_request_29 rfl rfl ?_
      refine xw_iconst (v := 1) d_M_request_30 (by decide) ?_
      refine xw_iload_n d_M_request_31 rfl rfl ?_
      refine xw_iload_n d_M_request_32 rfl rfl ?_
      refine xw_aload_n d_M_request_33 rfl rfl ?_
      obtain ⟨f90, a91, hA, hB, hw⟩ := hw
      refine xw_getr fr_M_13 d_M_request_34 hA hB ?_
      refine xw_iload_n d_M_request_37 rfl rfl ?_
      obtain ⟨ar103, x92, hA, hB, hC, hw⟩ := hw
      refine xw_iaload (t := 0) rfl d_M_request_38 hA hB hC ?_
      refine xw_aload_n d_M_request_39 rfl rfl ?_
      obtain ⟨f93, a94, hA, hB, hw⟩ := hw
      refine xw_getr fr_M_22 d_M_request_40 hA hB ?_
      refine xw_iload_n d_M_request_43 rfl rfl ?_
      obtain ⟨ar102, x95, hA, hB, hC, hw⟩ := hw
      refine xw_iaload (t := 0) rfl d_M_request_44 hA hB hC ?_
      refine xw_aload_n d_M_request_45 rfl rfl ?_
      obtain ⟨f96, a97, hA, hB, hw⟩ := hw
      refine xw_getr fr_M_58 d_M_request_46 hA hB ?_
      refine xw_iload_n d_M_request_49 rfl rfl ?_
      obtain ⟨ar101, x98, hA, hB, hC, hw⟩ := hw
      refine xw_iaload (t := 0) rfl d_M_request_50 hA hB hC ?_
      refine xw_iconst (v := 0) d_M_request_51 (by decide) ?_
      refine xw_iconst (v := 0) d_M_request_52 (by decide) ?_
      refine xw_iconst (v := 0) d_M_request_53 (by decide) ?_
      refine xw_iconst (v := 0) d_M_request_54 (by decide) ?_
      refine xw_iconst (v := 0) d_M_request_55 (by decide) ?_
      obtain ⟨⟨f100, hA⟩, hw⟩ := hw
      refine xc_V11n lk_M_138 in_M_send d_M_request_56 (x_M_send hw) rfl hA rfl ?_
      intro h99 hw
      refine xw_goto (tgt := 266) d_M_request_59 (by decide) ?_
      exact xw_return rfl d_M_request_266 hw
set_option maxRecDepth 100000 in
def w_M_refused (Q : Option Value → xH → Prop) (this : Nat) (p1 : Int32) (p2 : Int32) (h : xH) : Prop := ∃ (f1 : List Value) (a2 : Nat), h.2 this = some (.inr (8, f1)) ∧ f1[3]? = some (.ref a2) ∧ ∃ (ar7 : List Int32) (x3 : Int32), h.2 a2 = some (.inl (0, .inl ar7)) ∧ 0 ≤ p1 ∧ ar7[p1.toNatClampNeg]? = some x3 ∧ (((p2 >>> (3 &&& 31)) ≤ x3 → Q none h) ∧ (¬ (p2 >>> (3 &&& 31)) ≤ x3 → (∃ f5, h.2 this = some (.inr (8, f5))) ∧ w_M_writeRound (fun v h4 => v = none ∧ Q none h4) this p1 (p2 >>> (3 &&& 31)) h))
set_option maxRecDepth 100000 in
set_option maxHeartbeats 4000000 in
theorem x_M_refused {sc : List Int32} {Q : Option Value → xH → Prop} {this : Nat} {p1 : Int32} {p2 : Int32} {h : xH} (hw : w_M_refused Q this p1 p2 h) : xMet sc m_M_refused 3 0 0 [.ref (this), .int (p1), .int (p2)] h Q := by
  unfold w_M_refused at hw
  refine xMet.of2 cw_M_refused rfl rfl ?_
  show xW sc m_M_refused 3 0 0 0 [some (.ref (this)), some (.int (p1)), some (.int (p2))] [] h Q
  refine xw_iload_n d_M_refused_0 rfl rfl ?_
  refine xw_iconst (v := 3) d_M_refused_1 (by decide) ?_
  refine xw_ishr d_M_refused_2 ?_
  refine xw_aload_n d_M_refused_3 rfl rfl ?_
  obtain ⟨f1, a2, hA, hB, hw⟩ := hw
  refine xw_getr fr_M_16 d_M_refused_4 hA hB ?_
  refine xw_iload_n d_M_refused_7 rfl rfl ?_
  obtain ⟨ar7, x3, hA, hB, hC, hw⟩ := hw
  refine xw_iaload (t := 0) rfl d_M_refused_8 hA hB hC ?_
  refine xw_icmp_le (tgt := 20) d_M_refused_9 (by decide) (fun c6 => ?_) (fun c6 => ?_)
  · have hw := hw.1 c6
    exact xw_return rfl d_M_refused_20 hw
  · have hw := hw.2 c6
    refine xw_aload_n d_M_refused_12 rfl rfl ?_
    refine xw_iload_n d_M_refused_13 rfl rfl ?_
    refine xw_iload_n d_M_refused_14 rfl rfl ?_
    refine xw_iconst (v := 3) d_M_refused_15 (by decide) ?_
    refine xw_ishr d_M_refused_16 ?_
    obtain ⟨⟨f5, hA⟩, hw⟩ := hw
    refine xc_V2n lk_M_164 in_M_writeRound d_M_refused_17 (x_M_writeRound hw) rfl hA rfl ?_
    intro h4 hw
    exact xw_return rfl d_M_refused_20 hw
set_option maxRecDepth 100000 in
def w_M_wantedSet_120 (Q : Option Value → xH → Prop) (L80 : Nat → Int32 → Int32 → Int32 → xH → Prop) (l0 : Nat) (l1 : Int32) (l2 : Int32) (l3 : Int32) (s0 : Int32) (s1 : Int32) (h : xH) : Prop := L80 (l0) (l1) (s1 ||| s0) (l3 + 1) h
set_option maxRecDepth 100000 in
set_option maxHeartbeats 4000000 in
theorem p_M_wantedSet_120 {sc : List Int32} {Q : Option Value → xH → Prop} {L80 : Nat → Int32 → Int32 → Int32 → xH → Prop} (hL80 : ∀ l0 l1 l2 l3 h, L80 l0 l1 l2 l3 h → xW sc m_M_wantedSet 1 0 0 80 [some (.ref (l0)), some (.int (l1)), some (.int (l2)), some (.int (l3))] [] h Q) (l0 : Nat) (l1 : Int32) (l2 : Int32) (l3 : Int32) (s0 : Int32) (s1 : Int32) (h : xH) (hw : w_M_wantedSet_120 Q L80 l0 l1 l2 l3 s0 s1 h) : xW sc m_M_wantedSet 1 0 0 120 [some (.ref (l0)), some (.int (l1)), some (.int (l2)), some (.int (l3))] [.int (s0), .int (s1)] h Q := by
  unfold w_M_wantedSet_120 at hw
  refine xw_ior d_M_wantedSet_120 ?_
  refine xs_istore_n (lv' := [some (.ref (l0)), some (.int (l1)), some (.int (s1 ||| s0)), some (.int (l3))]) d_M_wantedSet_121 rfl rfl rfl ?_
  refine xs_iinc (v := l3 + 1) (lv' := [some (.ref (l0)), some (.int (l1)), some (.int (s1 ||| s0)), some (.int (l3 + 1))]) d_M_wantedSet_122 rfl rfl rfl ?_
  refine xw_goto (tgt := 80) d_M_wantedSet_125 (by decide) ?_
  exact hL80 (l0) (l1) (s1 ||| s0) (l3 + 1) h hw
set_option maxRecDepth 100000 in
def w_M_wantedSet_80 (Q : Option Value → xH → Prop) : Nat → Nat → Int32 → Int32 → Int32 → xH → Prop
  | 0, _, _, _, _, _ => False
  | n + 1, l0, l1, l2, l3, h => ((16 ≤ l3 → Q (some (.int l2)) h) ∧ (¬ 16 ≤ l3 → ∃ (f1 : List Value) (a2 : Nat), h.2 l0 = some (.inr (8, f1)) ∧ f1[23]? = some (.ref a2) ∧ ∃ (ar9 : List Int32) (x3 : Int32), h.2 a2 = some (.inl (0, .inl ar9)) ∧ 0 ≤ l1 ∧ ar9[l1.toNatClampNeg]? = some x3 ∧ ((¬ ((x3 >>> (l3 &&& 31)) &&& 1) = 1 → w_M_wantedSet_120 Q (fun y0 y1 y2 y3 yh => w_M_wantedSet_80 Q n y0 y1 y2 y3 yh) (l0) (l1) (l2) (l3) (0) (l2) h) ∧ (((x3 >>> (l3 &&& 31)) &&& 1) = 1 → ∃ (f4 : List Value) (a5 : Nat), h.2 l0 = some (.inr (8, f4)) ∧ f4[10]? = some (.ref a5) ∧ ∃ (ar7 : List Int32) (x6 : Int32), h.2 a5 = some (.inl (0, .inl ar7)) ∧ 0 ≤ ((16 * l1) + l3 : Int32) ∧ ar7[((16 * l1) + l3 : Int32).toNatClampNeg]? = some x6 ∧ w_M_wantedSet_120 Q (fun y0 y1 y2 y3 yh => w_M_wantedSet_80 Q n y0 y1 y2 y3 yh) (l0) (l1) (l2) (l3) (x6 &&& 255) (l2) h))))
set_option maxRecDepth 100000 in
set_option maxHeartbeats 4000000 in
theorem p_M_wantedSet_80 {sc : List Int32} {Q : Option Value → xH → Prop} : ∀ (n : Nat) (l0 : Nat) (l1 : Int32) (l2 : Int32) (l3 : Int32) (h : xH), w_M_wantedSet_80 Q n l0 l1 l2 l3 h → xW sc m_M_wantedSet 1 0 0 80 [some (.ref (l0)), some (.int (l1)), some (.int (l2)), some (.int (l3))] [] h Q := by
  intro n
  induction n with
  | zero => intro l0 l1 l2 l3 h hw; exact False.elim hw
  | succ n ih =>
    intro l0 l1 l2 l3 h hw
    rw [w_M_wantedSet_80] at hw
    refine xw_iload_n d_M_wantedSet_80 rfl rfl ?_
    refine xw_bipush (v := 16) d_M_wantedSet_81 (by decide) ?_
    refine xw_icmp_ge (tgt := 128) d_M_wantedSet_83 (by decide) (fun c10 => ?_) (fun c10 => ?_)
    · have hw := hw.1 c10
      refine xw_iload_n d_M_wantedSet_128 rfl rfl ?_
      exact xw_ireturn rfl d_M_wantedSet_129 hw
    · have hw := hw.2 c10
      refine xw_iload_n d_M_wantedSet_86 rfl rfl ?_
      refine xw_aload_n d_M_wantedSet_87 rfl rfl ?_
      obtain ⟨f1, a2, hA, hB, hw⟩ := hw
      refine xw_getr fr_M_73 d_M_wantedSet_88 hA hB ?_
      refine xw_iload_n d_M_wantedSet_91 rfl rfl ?_
      obtain ⟨ar9, x3, hA, hB, hC, hw⟩ := hw
      refine xw_iaload (t := 0) rfl d_M_wantedSet_92 hA hB hC ?_
      refine xw_iload_n d_M_wantedSet_93 rfl rfl ?_
      refine xw_ishr d_M_wantedSet_94 ?_
      refine xw_iconst (v := 1) d_M_wantedSet_95 (by decide) ?_
      refine xw_iand d_M_wantedSet_96 ?_
      refine xw_iconst (v := 1) d_M_wantedSet_97 (by decide) ?_
      refine xw_icmp_ne (tgt := 119) d_M_wantedSet_98 (by decide) (fun c8 => ?_) (fun c8 => ?_)
      · have hw := hw.1 c8
        refine xw_iconst (v := 0) d_M_wantedSet_119 (by decide) ?_
        exact p_M_wantedSet_120 ih (l0) (l1) (l2) (l3) (0) (l2) h hw
      · have hw := hw.2 c8
        refine xw_aload_n d_M_wantedSet_101 rfl rfl ?_
        obtain ⟨f4, a5, hA, hB, hw⟩ := hw
        refine xw_getr fr_M_37 d_M_wantedSet_102 hA hB ?_
        refine xw_bipush (v := 16) d_M_wantedSet_105 (by decide) ?_
        refine xw_iload_n d_M_wantedSet_107 rfl rfl ?_
        refine xw_imul d_M_wantedSet_108 ?_
        refine xw_iload_n d_M_wantedSet_109 rfl rfl ?_
        refine xw_iadd d_M_wantedSet_110 ?_
        obtain ⟨ar7, x6, hA, hB, hC, hw⟩ := hw
        refine xw_iaload (t := 0) rfl d_M_wantedSet_111 hA hB hC ?_
        refine xw_sipush (v := 255) d_M_wantedSet_112 (by decide) ?_
        refine xw_iand d_M_wantedSet_115 ?_
        refine xw_goto (tgt := 120) d_M_wantedSet_116 (by decide) ?_
        exact p_M_wantedSet_120 ih (l0) (l1) (l2) (l3) (x6 &&& 255) (l2) h hw
set_option maxRecDepth 100000 in
def w_M_wantedSet_78 (Q : Option Value → xH → Prop) (l0 : Nat) (l1 : Int32) (l2 : Int32) (h : xH) : Prop := ∃ n1, w_M_wantedSet_80 Q n1 (l0) (l1) (l2) (0) h
set_option maxRecDepth 100000 in
set_option maxHeartbeats 4000000 in
theorem p_M_wantedSet_78 {sc : List Int32} {Q : Option Value → xH → Prop} (l0 : Nat) (l1 : Int32) (l2 : Int32) (h : xH) (hw : w_M_wantedSet_78 Q l0 l1 l2 h) : xW sc m_M_wantedSet 1 0 0 78 [some (.ref (l0)), some (.int (l1)), some (.int (l2)), none] [] h Q := by
  unfold w_M_wantedSet_78 at hw
  refine xw_iconst (v := 0) d_M_wantedSet_78 (by decide) ?_
  refine xs_istore_n (lv' := [some (.ref (l0)), some (.int (l1)), some (.int (l2)), some (.int (0))]) d_M_wantedSet_79 rfl rfl rfl ?_
  obtain ⟨n1, hw⟩ := hw
  exact p_M_wantedSet_80  n1 (l0) (l1) (l2) (0) h hw
set_option maxRecDepth 100000 in
def w_M_wantedSet (Q : Option Value → xH → Prop) (this : Nat) (p1 : Int32) (h : xH) : Prop := (∃ f2, h.2 this = some (.inr (8, f2))) ∧ w_M_isData (fun v h1 => ∃ (x3 : Int32), v = some (.int x3) ∧ ((x3 = 0 → ∃ (f4 : List Value) (a5 : Nat), h1.2 this = some (.inr (8, f4)) ∧ f4[16]? = some (.ref a5) ∧ ∃ (ar29 : List Int32) (x6 : Int32), h1.2 a5 = some (.inl (0, .inl ar29)) ∧ 0 ≤ p1 ∧ ar29[p1.toNatClampNeg]? = some x6 ∧ ((¬ x6 = 3 → ∃ (f7 : List Value) (a8 : Nat), h1.2 this = some (.inr (8, f7)) ∧ f7[17]? = some (.ref a8) ∧ ∃ (ar19 : List Int32) (x9 : Int32), h1.2 a8 = some (.inl (0, .inl ar19)) ∧ 0 ≤ p1 ∧ ar19[p1.toNatClampNeg]? = some x9 ∧ ((¬ x9 = 2 → w_M_wantedSet_78 Q (this) (p1) (0) h1) ∧ (x9 = 2 → ∃ (f10 : List Value) (a11 : Nat), h1.2 this = some (.inr (8, f10)) ∧ f10[10]? = some (.ref a11) ∧ ∃ (f12 : List Value) (a13 : Nat), h1.2 this = some (.inr (8, f12)) ∧ f12[18]? = some (.ref a13) ∧ ∃ (ar17 : List Int32) (x14 : Int32), h1.2 a13 = some (.inl (0, .inl ar17)) ∧ 0 ≤ p1 ∧ ar17[p1.toNatClampNeg]? = some x14 ∧ ∃ (ar16 : List Int32) (x15 : Int32), h1.2 a11 = some (.inl (0, .inl ar16)) ∧ 0 ≤ ((16 * p1) + x14 : Int32) ∧ ar16[((16 * p1) + x14 : Int32).toNatClampNeg]? = some x15 ∧ Q (some (.int (x15 &&& 255))) h1))) ∧ (x6 = 3 → ∃ (f20 : List Value) (a21 : Nat), h1.2 this = some (.inr (8, f20)) ∧ f20[10]? = some (.ref a21) ∧ ∃ (f22 : List Value) (a23 : Nat), h1.2 this = some (.inr (8, f22)) ∧ f22[25]? = some (.ref a23) ∧ ∃ (ar27 : List Int32) (x24 : Int32), h1.2 a23 = some (.inl (0, .inl ar27)) ∧ 0 ≤ p1 ∧ ar27[p1.toNatClampNeg]? = some x24 ∧ ∃ (ar26 : List Int32) (x25 : Int32), h1.2 a21 = some (.inl (0, .inl ar26)) ∧ 0 ≤ ((16 * p1) + x24 : Int32) ∧ ar26[((16 * p1) + x24 : Int32).toNatClampNeg]? = some x25 ∧ Q (some (.int (x25 &&& 255))) h1))) ∧ (¬ x3 = 0 → (∃ f31, h1.2 this = some (.inr (8, f31))) ∧ w_M_allActive (fun v h30 => ∃ (x32 : Int32), v = some (.int x32) ∧ Q (some (.int x32)) h30) this p1 h1))) this p1 h
set_option maxRecDepth 100000 in
set_option maxHeartbeats 4000000 in
theorem x_M_wantedSet {sc : List Int32} {Q : Option Value → xH → Prop} {this : Nat} {p1 : Int32} {h : xH} (hw : w_M_wantedSet Q this p1 h) : xMet sc m_M_wantedSet 1 0 0 [.ref (this), .int (p1)] h Q := by
  unfold w_M_wantedSet at hw
  refine xMet.of2 cw_M_wantedSet rfl rfl ?_
  show xW sc m_M_wantedSet 1 0 0 0 [some (.ref (this)), some (.int (p1)), none, none] [] h Q
  refine xw_aload_n d_M_wantedSet_0 rfl rfl ?_
  refine xw_iload_n d_M_wantedSet_1 rfl rfl ?_
  obtain ⟨⟨f2, hA⟩, hw⟩ := hw
  refine xc_V1i lk_M_135 in_M_isData d_M_wantedSet_2 (x_M_isData hw) rfl hA rfl ?_
  intro x3 h1 hw
  refine xw_if_eq (tgt := 14) d_M_wantedSet_5 (by decide) (fun c33 => ?_) (fun c33 => ?_)
  · have hw := hw.1 c33
    refine xw_aload_n d_M_wantedSet_14 rfl rfl ?_
    obtain ⟨f4, a5, hA, hB, hw⟩ := hw
    refine xw_getr fr_M_52 d_M_wantedSet_15 hA hB ?_
    refine xw_iload_n d_M_wantedSet_18 rfl rfl ?_
    obtain ⟨ar29, x6, hA, hB, hC, hw⟩ := hw
    refine xw_iaload (t := 0) rfl d_M_wantedSet_19 hA hB hC ?_
    refine xw_iconst (v := 3) d_M_wantedSet_20 (by decide) ?_
    refine xw_icmp_ne (tgt := 45) d_M_wantedSet_21 (by decide) (fun c28 => ?_) (fun c28 => ?_)
    · have hw := hw.1 c28
      refine xw_aload_n d_M_wantedSet_45 rfl rfl ?_
      obtain ⟨f7, a8, hA, hB, hw⟩ := hw
      refine xw_getr fr_M_55 d_M_wantedSet_46 hA hB ?_
      refine xw_iload_n d_M_wantedSet_49 rfl rfl ?_
      obtain ⟨ar19, x9, hA, hB, hC, hw⟩ := hw
      refine xw_iaload (t := 0) rfl d_M_wantedSet_50 hA hB hC ?_
      refine xw_iconst (v := 2) d_M_wantedSet_51 (by decide) ?_
      refine xw_icmp_ne (tgt := 76) d_M_wantedSet_52 (by decide) (fun c18 => ?_) (fun c18 => ?_)
      · have hw := hw.1 c18
        refine xw_iconst (v := 0) d_M_wantedSet_76 (by decide) ?_
        refine xs_istore_n (lv' := [some (.ref (this)), some (.int (p1)), some (.int (0)), none]) d_M_wantedSet_77 rfl rfl rfl ?_
        exact p_M_wantedSet_78  (this) (p1) (0) h1 hw
      · have hw := hw.2 c18
        refine xw_aload_n d_M_wantedSet_55 rfl rfl ?_
        obtain ⟨f10, a11, hA, hB, hw⟩ := hw
        refine xw_getr fr_M_37 d_M_wantedSet_56 hA hB ?_
        refine xw_bipush (v := 16) d_M_wantedSet_59 (by decide) ?_
        refine xw_iload_n d_M_wantedSet_61 rfl rfl ?_
        refine xw_imul d_M_wantedSet_62 ?_
        refine xw_aload_n d_M_wantedSet_63 rfl rfl ?_
        obtain ⟨f12, a13, hA, hB, hw⟩ := hw
        refine xw_getr fr_M_58 d_M_wantedSet_64 hA hB ?_
        refine xw_iload_n d_M_wantedSet_67 rfl rfl ?_
        obtain ⟨ar17, x14, hA, hB, hC, hw⟩ := hw
        refine xw_iaload (t := 0) rfl d_M_wantedSet_68 hA hB hC ?_
        refine xw_iadd d_M_wantedSet_69 ?_
        obtain ⟨ar16, x15, hA, hB, hC, hw⟩ := hw
        refine xw_iaload (t := 0) rfl d_M_wantedSet_70 hA hB hC ?_
        refine xw_sipush (v := 255) d_M_wantedSet_71 (by decide) ?_
        refine xw_iand d_M_wantedSet_74 ?_
        exact xw_ireturn rfl d_M_wantedSet_75 hw
    · have hw := hw.2 c28
      refine xw_aload_n d_M_wantedSet_24 rfl rfl ?_
      obtain ⟨f20, a21, hA, hB, hw⟩ := hw
      refine xw_getr fr_M_37 d_M_wantedSet_25 hA hB ?_
      refine xw_bipush (v := 16) d_M_wantedSet_28 (by decide) ?_
      refine xw_iload_n d_M_wantedSet_30 rfl rfl ?_
      refine xw_imul d_M_wantedSet_31 ?_
      refine xw_aload_n d_M_wantedSet_32 rfl rfl ?_
      obtain ⟨f22, a23, hA, hB, hw⟩ := hw
      refine xw_getr fr_M_79 d_M_wantedSet_33 hA hB ?_
      refine xw_iload_n d_M_wantedSet_36 rfl rfl ?_
      obtain ⟨ar27, x24, hA, hB, hC, hw⟩ := hw
      refine xw_iaload (t := 0) rfl d_M_wantedSet_37 hA hB hC ?_
      refine xw_iadd d_M_wantedSet_38 ?_
      obtain ⟨ar26, x25, hA, hB, hC, hw⟩ := hw
      refine xw_iaload (t := 0) rfl d_M_wantedSet_39 hA hB hC ?_
      refine xw_sipush (v := 255) d_M_wantedSet_40 (by decide) ?_
      refine xw_iand d_M_wantedSet_43 ?_
      exact xw_ireturn rfl d_M_wantedSet_44 hw
  · have hw := hw.2 c33
    refine xw_aload_n d_M_wantedSet_8 rfl rfl ?_
    refine xw_iload_n d_M_wantedSet_9 rfl rfl ?_
    obtain ⟨⟨f31, hA⟩, hw⟩ := hw
    refine xc_V1i lk_M_173 in_M_allActive d_M_wantedSet_10 (x_M_allActive hw) rfl hA rfl ?_
    intro x32 h30 hw
    exact xw_ireturn rfl d_M_wantedSet_13 hw
set_option maxRecDepth 100000 in
def w_M_isEnough_310 (Q : Option Value → xH → Prop) (L139 : Nat → Int32 → Int32 → Int32 → Int32 → xH → Prop) (l0 : Nat) (l1 : Int32) (l2 : Int32) (l3 : Int32) (l4 : Int32) (l5 : Int32) (l6 : Int32) (h : xH) : Prop := L139 (l0) (l1) (l2) (l3) (l4 + 1) h
set_option maxRecDepth 100000 in
set_option maxHeartbeats 4000000 in
theorem p_M_isEnough_310 {sc : List Int32} {Q : Option Value → xH → Prop} {L139 : Nat → Int32 → Int32 → Int32 → Int32 → xH → Prop} (hL139 : ∀ l0 l1 l2 l3 l4 h, L139 l0 l1 l2 l3 l4 h → xW sc m_M_isEnough 1 0 0 139 [some (.ref (l0)), some (.int (l1)), some (.int (l2)), some (.int (l3)), some (.int (l4)), none, none, none] [] h Q) (l0 : Nat) (l1 : Int32) (l2 : Int32) (l3 : Int32) (l4 : Int32) (l5 : Int32) (l6 : Int32) (h : xH) (hw : w_M_isEnough_310 Q L139 l0 l1 l2 l3 l4 l5 l6 h) : xW sc m_M_isEnough 1 0 0 310 [some (.ref (l0)), some (.int (l1)), some (.int (l2)), some (.int (l3)), some (.int (l4)), some (.int (l5)), some (.int (l6)), none] [] h Q := by
  unfold w_M_isEnough_310 at hw
  refine xs_iinc (v := l4 + 1) (lv' := [some (.ref (l0)), some (.int (l1)), some (.int (l2)), some (.int (l3)), some (.int (l4 + 1)), some (.int (l5)), some (.int (l6)), none]) d_M_isEnough_310 rfl rfl rfl ?_
  refine xw_goto (tgt := 139) d_M_isEnough_313 (by decide) ?_
  refine xs_drop (lv' := [some (.ref (l0)), some (.int (l1)), some (.int (l2)), some (.int (l3)), some (.int (l4 + 1)), none, some (.int (l6)), none]) 5 rfl ?_
  refine xs_drop (lv' := [some (.ref (l0)), some (.int (l1)), some (.int (l2)), some (.int (l3)), some (.int (l4 + 1)), none, none, none]) 6 rfl ?_
  exact hL139 (l0) (l1) (l2) (l3) (l4 + 1) h hw
set_option maxRecDepth 100000 in
def w_M_isEnough_309 (Q : Option Value → xH → Prop) (L139 : Nat → Int32 → Int32 → Int32 → Int32 → xH → Prop) (l0 : Nat) (l1 : Int32) (l2 : Int32) (l3 : Int32) (l4 : Int32) (l5 : Int32) (l6 : Int32) (l7 : Int32) (s0 : Int32) (h : xH) : Prop := w_M_isEnough_310 Q L139 (l0) (l1) (l2) (s0) (l4) (l5) (l6) h
set_option maxRecDepth 100000 in
set_option maxHeartbeats 4000000 in
theorem p_M_isEnough_309 {sc : List Int32} {Q : Option Value → xH → Prop} {L139 : Nat → Int32 → Int32 → Int32 → Int32 → xH → Prop} (hL139 : ∀ l0 l1 l2 l3 l4 h, L139 l0 l1 l2 l3 l4 h → xW sc m_M_isEnough 1 0 0 139 [some (.ref (l0)), some (.int (l1)), some (.int (l2)), some (.int (l3)), some (.int (l4)), none, none, none] [] h Q) (l0 : Nat) (l1 : Int32) (l2 : Int32) (l3 : Int32) (l4 : Int32) (l5 : Int32) (l6 : Int32) (l7 : Int32) (s0 : Int32) (h : xH) (hw : w_M_isEnough_309 Q L139 l0 l1 l2 l3 l4 l5 l6 l7 s0 h) : xW sc m_M_isEnough 1 0 0 309 [some (.ref (l0)), some (.int (l1)), some (.int (l2)), some (.int (l3)), some (.int (l4)), some (.int (l5)), some (.int (l6)), some (.int (l7))] [.int (s0)] h Q := by
  unfold w_M_isEnough_309 at hw
  refine xs_istore_n (lv' := [some (.ref (l0)), some (.int (l1)), some (.int (l2)), some (.int (s0)), some (.int (l4)), some (.int (l5)), some (.int (l6)), some (.int (l7))]) d_M_isEnough_309 rfl rfl rfl ?_
  refine xs_drop (lv' := [some (.ref (l0)), some (.int (l1)), some (.int (l2)), some (.int (s0)), some (.int (l4)), some (.int (l5)), some (.int (l6)), none]) 7 rfl ?_
  exact p_M_isEnough_310 hL139 (l0) (l1) (l2) (s0) (l4) (l5) (l6) h hw
set_option maxRecDepth 100000 in
def w_M_isEnough_308 (Q : Option Value → xH → Prop) (L139 : Nat → Int32 → Int32 → Int32 → Int32 → xH → Prop) (l0 : Nat) (l1 : Int32) (l2 : Int32) (l3 : Int32) (l4 : Int32) (l5 : Int32) (l6 : Int32) (l7 : Int32) (h : xH) : Prop := w_M_isEnough_309 Q L139 (l0) (l1) (l2) (l3) (l4) (l5) (l6) (l7) (0) h
set_option maxRecDepth 100000 in
set_option maxHeartbeats 4000000 in
theorem p_M_isEnough_308 {sc : List Int32} {Q : Option Value → xH → Prop} {L139 : Nat → Int32 → Int32 → Int32 → Int32 → xH → Prop} (hL139 : ∀ l0 l1 l2 l3 l4 h, L139 l0 l1 l2 l3 l4 h → xW sc m_M_isEnough 1 0 0 139 [some (.ref (l0)), some (.int (l1)), some (.int (l2)), some (.int (l3)), some (.int (l4)), none, none, none] [] h Q) (l0 : Nat) (l1 : Int32) (l2 : Int32) (l3 : Int32) (l4 : Int32) (l5 : Int32) (l6 : Int32) (l7 : Int32) (h : xH) (hw : w_M_isEnough_308 Q L139 l0 l1 l2 l3 l4 l5 l6 l7 h) : xW sc m_M_isEnough 1 0 0 308 [some (.ref (l0)), some (.int (l1)), some (.int (l2)), some (.int (l3)), some (.int (l4)), some (.int (l5)), some (.int (l6)), some (.int (l7))] [] h Q := by
  unfold w_M_isEnough_308 at hw
  refine xw_iconst (v := 0) d_M_isEnough_308 (by decide) ?_
  exact p_M_isEnough_309 hL139 (l0) (l1) (l2) (l3) (l4) (l5) (l6) (l7) (0) h hw
set_option maxRecDepth 100000 in
def w_M_isEnough_282 (Q : Option Value → xH → Prop) (L139 : Nat → Int32 → Int32 → Int32 → Int32 → xH → Prop) (l0 : Nat) (l1 : Int32) (l2 : Int32) (l3 : Int32) (l4 : Int32) (l5 : Int32) (l6 : Int32) (s0 : Int32) (h : xH) : Prop := ((l3 = 0 → w_M_isEnough_308 Q L139 (l0) (l1) (l2) (l3) (l4) (l5) (l6) (s0) h) ∧ (¬ l3 = 0 → w_M_many (fun v h1 => ∃ (x2 : Int32), v = some (.int x2) ∧ ((x2 < s0 → w_M_isEnough_308 Q L139 (l0) (l1) (l2) (l3) (l4) (l5) (l6) (s0) h1) ∧ (¬ x2 < s0 → w_M_isEnough_309 Q L139 (l0) (l1) (l2) (l3) (l4) (l5) (l6) (s0) (1) h1))) ((l2 &&& l5) &&& 255) h))
set_option maxRecDepth 100000 in
set_option maxHeartbeats 4000000 in
theorem p_M_isEnough_282 {sc : List Int32} {Q : Option Value → xH → Prop} {L139 : Nat → Int32 → Int32 → Int32 → Int32 → xH → Prop} (hL139 : ∀ l0 l1 l2 l3 l4 h, L139 l0 l1 l2 l3 l4 h → xW sc m_M_isEnough 1 0 0 139 [some (.ref (l0)), some (.int (l1)), some (.int (l2)), some (.int (l3)), some (.int (l4)), none, none, none] [] h Q) (l0 : Nat) (l1 : Int32) (l2 : Int32) (l3 : Int32) (l4 : Int32) (l5 : Int32) (l6 : Int32) (s0 : Int32) (h : xH) (hw : w_M_isEnough_282 Q L139 l0 l1 l2 l3 l4 l5 l6 s0 h) : xW sc m_M_isEnough 1 0 0 282 [some (.ref (l0)), some (.int (l1)), some (.int (l2)), some (.int (l3)), some (.int (l4)), some (.int (l5)), some (.int (l6)), none] [.int (s0)] h Q := by
  unfold w_M_isEnough_282 at hw
  refine xs_istore (lv' := [some (.ref (l0)), some (.int (l1)), some (.int (l2)), some (.int (l3)), some (.int (l4)), some (.int (l5)), some (.int (l6)), some (.int (s0))]) d_M_isEnough_282 rfl rfl ?_
  refine xw_iload_n d_M_isEnough_284 rfl rfl ?_
  refine xw_if_eq (tgt := 308) d_M_isEnough_285 (by decide) (fun c4 => ?_) (fun c4 => ?_)
  · have hw := hw.1 c4
    exact p_M_isEnough_308 hL139 (l0) (l1) (l2) (l3) (l4) (l5) (l6) (s0) h hw
  · have hw := hw.2 c4
    refine xw_iload_n d_M_isEnough_288 rfl rfl ?_
    refine xw_iload d_M_isEnough_289 rfl ?_
    refine xw_iand d_M_isEnough_291 ?_
    refine xw_sipush (v := 255) d_M_isEnough_292 (by decide) ?_
    refine xw_iand d_M_isEnough_295 ?_
    refine xc_S1i lk_M_185 st_M_many d_M_isEnough_296 (x_M_many hw) rfl rfl ?_
    intro x2 h1 hw
    refine xw_iload d_M_isEnough_299 rfl ?_
    refine xw_icmp_lt (tgt := 308) d_M_isEnough_301 (by decide) (fun c3 => ?_) (fun c3 => ?_)
    · have hw := hw.1 c3
      exact p_M_isEnough_308 hL139 (l0) (l1) (l2) (l3) (l4) (l5) (l6) (s0) h1 hw
    · have hw := hw.2 c3
      refine xw_iconst (v := 1) d_M_isEnough_304 (by decide) ?_
      refine xw_goto (tgt := 309) d_M_isEnough_305 (by decide) ?_
      exact p_M_isEnough_309 hL139 (l0) (l1) (l2) (l3) (l4) (l5) (l6) (s0) (1) h1 hw
set_option maxRecDepth 100000 in
def w_M_isEnough_212 (Q : Option Value → xH → Prop) (L139 : Nat → Int32 → Int32 → Int32 → Int32 → xH → Prop) (l0 : Nat) (l1 : Int32) (l2 : Int32) (l3 : Int32) (l4 : Int32) (l5 : Int32) (s0 : Int32) (h : xH) : Prop := ((¬ s0 = 0 → (∃ f2, h.2 l0 = some (.inr (8, f2))) ∧ w_M_isData (fun v h1 => ∃ (x3 : Int32), v = some (.int x3) ∧ ((x3 = 0 → w_M_reads (fun v h4 => ∃ (x5 : Int32), v = some (.int x5) ∧ w_M_stores (fun v h6 => ∃ (x7 : Int32), v = some (.int x7) ∧ ((x5 ≤ x7 → w_M_stores (fun v h8 => ∃ (x9 : Int32), v = some (.int x9) ∧ w_M_isEnough_282 Q L139 (l0) (l1) (l2) (l3) (l4) (l5) (s0) (x9) h8) l5 h6) ∧ (¬ x5 ≤ x7 → w_M_reads (fun v h10 => ∃ (x11 : Int32), v = some (.int x11) ∧ w_M_isEnough_282 Q L139 (l0) (l1) (l2) (l3) (l4) (l5) (s0) (x11) h10) l5 h6))) l5 h4) l5 h1) ∧ (¬ x3 = 0 → ∃ (f13 : List Value) (a14 : Nat), h1.2 l0 = some (.inr (8, f13)) ∧ f13[17]? = some (.ref a14) ∧ ∃ (ar21 : List Int32) (x15 : Int32), h1.2 a14 = some (.inl (0, .inl ar21)) ∧ 0 ≤ l1 ∧ ar21[l1.toNatClampNeg]? = some x15 ∧ ((¬ x15 = 1 → w_M_stores (fun v h16 => ∃ (x17 : Int32), v = some (.int x17) ∧ w_M_isEnough_282 Q L139 (l0) (l1) (l2) (l3) (l4) (l5) (s0) (x17) h16) l5 h1) ∧ (x15 = 1 → w_M_reads (fun v h18 => ∃ (x19 : Int32), v = some (.int x19) ∧ w_M_isEnough_282 Q L139 (l0) (l1) (l2) (l3) (l4) (l5) (s0) (x19) h18) l5 h1))))) l0 l1 h) ∧ (s0 = 0 → w_M_isEnough_310 Q L139 (l0) (l1) (l2) (l3) (l4) (l5) (s0) h))
set_option maxRecDepth 100000 in
set_option maxHeartbeats 4000000 in
theorem p_M_isEnough_212 {sc : List Int32} {Q : Option Value → xH → Prop} {L139 : Nat → Int32 → Int32 → Int32 → Int32 → xH → Prop} (hL139 : ∀ l0 l1 l2 l3 l4 h, L139 l0 l1 l2 l3 l4 h → xW sc m_M_isEnough 1 0 0 139 [some (.ref (l0)), some (.int (l1)), some (.int (l2)), some (.int (l3)), some (.int (l4)), none, none, none] [] h Q) (l0 : Nat) (l1 : Int32) (l2 : Int32) (l3 : Int32) (l4 : Int32) (l5 : Int32) (s0 : Int32) (h : xH) (hw : w_M_isEnough_212 Q L139 l0 l1 l2 l3 l4 l5 s0 h) : xW sc m_M_isEnough 1 0 0 212 [some (.ref (l0)), some (.int (l1)), some (.int (l2)), some (.int (l3)), some (.int (l4)), some (.int (l5)), none, none] [.int (s0)] h Q := by
  unfold w_M_isEnough_212 at hw
  refine xs_istore (lv' := [some (.ref (l0)), some (.int (l1)), some (.int (l2)), some (.int (l3)), some (.int (l4)), some (.int (l5)), some (.int (s0)), none]) d_M_isEnough_212 rfl rfl ?_
  refine xw_iload d_M_isEnough_214 rfl ?_
  refine xw_if_ne (tgt := 222) d_M_isEnough_216 (by decide) (fun c23 => ?_) (fun c23 => ?_)
  · have hw := hw.1 c23
    refine xw_aload_n d_M_isEnough_222 rfl rfl ?_
    refine xw_iload_n d_M_isEnough_223 rfl rfl ?_
    obtain ⟨⟨f2, hA⟩, hw⟩ := hw
    refine xc_V1i lk_M_135 in_M_isData d_M_isEnough_224 (x_M_isData hw) rfl hA rfl ?_
    intro x3 h1 hw
    refine xw_if_eq (tgt := 256) d_M_isEnough_227 (by decide) (fun c22 => ?_) (fun c22 => ?_)
    · have hw := hw.1 c22
      refine xw_iload d_M_isEnough_256 rfl ?_
      refine xc_S1i lk_M_188 st_M_reads d_M_isEnough_258 (x_M_reads hw) rfl rfl ?_
      intro x5 h4 hw
      refine xw_iload d_M_isEnough_261 rfl ?_
      refine xc_S1i lk_M_191 st_M_stores d_M_isEnough_263 (x_M_stores hw) rfl rfl ?_
      intro x7 h6 hw
      refine xw_icmp_le (tgt := 277) d_M_isEnough_266 (by decide) (fun c12 => ?_) (fun c12 => ?_)
      · have hw := hw.1 c12
        refine xw_iload d_M_isEnough_277 rfl ?_
        refine xc_S1i lk_M_191 st_M_stores d_M_isEnough_279 (x_M_stores hw) rfl rfl ?_
        intro x9 h8 hw
        exact p_M_isEnough_282 hL139 (l0) (l1) (l2) (l3) (l4) (l5) (s0) (x9) h8 hw
      · have hw := hw.2 c12
        refine xw_iload d_M_isEnough_269 rfl ?_
        refine xc_S1i lk_M_188 st_M_reads d_M_isEnough_271 (x_M_reads hw) rfl rfl ?_
        intro x11 h10 hw
        refine xw_goto (tgt := 282) d_M_isEnough_274 (by decide) ?_
        exact p_M_isEnough_282 hL139 (l0) (l1) (l2) (l3) (l4) (l5) (s0) (x11) h10 hw
    · have hw := hw.2 c22
      refine xw_aload_n d_M_isEnough_230 rfl rfl ?_
      obtain ⟨f13, a14, hA, hB, hw⟩ := hw
      refine xw_getr fr_M_55 d_M_isEnough_231 hA hB ?_
      refine xw_iload_n d_M_isEnough_234 rfl rfl ?_
      obtain ⟨ar21, x15, hA, hB, hC, hw⟩ := hw
      refine xw_iaload (t := 0) rfl d_M_isEnough_235 hA hB hC ?_
      refine xw_iconst (v := 1) d_M_isEnough_236 (by decide) ?_
      refine xw_icmp_ne (tgt := 248) d_M_isEnough_237 (by decide) (fun c20 => ?_) (fun c20 => ?_)
      · have hw := hw.1 c20
        refine xw_iload d_M_isEnough_248 rfl ?_
        refine xc_S1i lk_M_191 st_M_stores d_M_isEnough_250 (x_M_stores hw) rfl rfl ?_
        intro x17 h16 hw
        refine xw_goto (tgt := 282) d_M_isEnough_253 (by decide) ?_
        exact p_M_isEnough_282 hL139 (l0) (l1) (l2) (l3) (l4) (l5) (s0) (x17) h16 hw
      · have hw := hw.2 c20
        refine xw_iload d_M_isEnough_240 rfl ?_
        refine xc_S1i lk_M_188 st_M_reads d_M_isEnough_242 (x_M_reads hw) rfl rfl ?_
        intro x19 h18 hw
        refine xw_goto (tgt := 282) d_M_isEnough_245 (by decide) ?_
        exact p_M_isEnough_282 hL139 (l0) (l1) (l2) (l3) (l4) (l5) (s0) (x19) h18 hw
  · have hw := hw.2 c23
    refine xw_goto (tgt := 310) d_M_isEnough_219 (by decide) ?_
    exact p_M_isEnough_310 hL139 (l0) (l1) (l2) (l3) (l4) (l5) (s0) h hw
set_option maxRecDepth 100000 in
def w_M_isEnough_139 (Q : Option Value → xH → Prop) : Nat → Nat → Int32 → Int32 → Int32 → Int32 → xH → Prop
  | 0, _, _, _, _, _, _ => False
  | n + 1, l0, l1, l2, l3, l4, h => ((16 ≤ l4 → (narrow .boolean (.int l3) = .int l3 ∧ Q (some (.int l3)) h)) ∧ (¬ 16 ≤ l4 → ∃ (f1 : List Value) (a2 : Nat), h.2 l0 = some (.inr (8, f1)) ∧ f1[10]? = some (.ref a2) ∧ ∃ (ar18 : List Int32) (x3 : Int32), h.2 a2 = some (.inl (0, .inl ar18)) ∧ 0 ≤ ((16 * l1) + l4 : Int32) ∧ ar18[((16 * l1) + l4 : Int32).toNatClampNeg]? = some x3 ∧ (∃ f5, h.2 l0 = some (.inr (8, f5))) ∧ w_M_isData (fun v h4 => ∃ (x6 : Int32), v = some (.int x6) ∧ ((x6 = 0 → ∃ (f7 : List Value) (a8 : Nat), h4.2 l0 = some (.inr (8, f7)) ∧ f7[23]? = some (.ref a8) ∧ ∃ (ar11 : List Int32) (x9 : Int32), h4.2 a8 = some (.inl (0, .inl ar11)) ∧ 0 ≤ l1 ∧ ar11[l1.toNatClampNeg]? = some x9 ∧ ((¬ ((x9 >>> (l4 &&& 31)) &&& 1) = 1 → w_M_isEnough_212 Q (fun y0 y1 y2 y3 y4 yh => w_M_isEnough_139 Q n y0 y1 y2 y3 y4 yh) (l0) (l1) (l2) (l3) (l4) (x3) (0) h4) ∧ (((x9 >>> (l4 &&& 31)) &&& 1) = 1 → w_M_isEnough_212 Q (fun y0 y1 y2 y3 y4 yh => w_M_isEnough_139 Q n y0 y1 y2 y3 y4 yh) (l0) (l1) (l2) (l3) (l4) (x3) (1) h4))) ∧ (¬ x6 = 0 → ∃ (f12 : List Value) (a13 : Nat), h4.2 l0 = some (.inr (8, f12)) ∧ f12[9]? = some (.ref a13) ∧ ∃ (ar16 : List Int32) (x14 : Int32), h4.2 a13 = some (.inl (0, .inl ar16)) ∧ 0 ≤ ((16 * l1) + l4 : Int32) ∧ ar16[((16 * l1) + l4 : Int32).toNatClampNeg]? = some x14 ∧ ((¬ x14 = 1 → w_M_isEnough_212 Q (fun y0 y1 y2 y3 y4 yh => w_M_isEnough_139 Q n y0 y1 y2 y3 y4 yh) (l0) (l1) (l2) (l3) (l4) (x3) (0) h4) ∧ (x14 = 1 → w_M_isEnough_212 Q (fun y0 y1 y2 y3 y4 yh => w_M_isEnough_139 Q n y0 y1 y2 y3 y4 yh) (l0) (l1) (l2) (l3) (l4) (x3) (1) h4))))) l0 l1 h))
set_option maxRecDepth 100000 in
set_option maxHeartbeats 4000000 in
theorem p_M_isEnough_139 {sc : List Int32} {Q : Option Value → xH → Prop} : ∀ (n : Nat) (l0 : Nat) (l1 : Int32) (l2 : Int32) (l3 : Int32) (l4 : Int32) (h : xH), w_M_isEnough_139 Q n l0 l1 l2 l3 l4 h → xW sc m_M_isEnough 1 0 0 139 [some (.ref (l0)), some (.int (l1)), some (.int (l2)), some (.int (l3)), some (.int (l4)), none, none, none] [] h Q := by
  intro n
  induction n with
  | zero => intro l0 l1 l2 l3 l4 h hw; exact False.elim hw
  | succ n ih =>
    intro l0 l1 l2 l3 l4 h hw
    rw [w_M_isEnough_139] at hw
    refine xw_iload d_M_isEnough_139 rfl ?_
    refine xw_bipush (v := 16) d_M_isEnough_141 (by decide) ?_
    refine xw_icmp_ge (tgt := 316) d_M_isEnough_143 (by decide) (fun c19 => ?_) (fun c19 => ?_)
    · have hw := hw.1 c19
      refine xw_iload_n d_M_isEnough_316 rfl rfl ?_
      exact xw_zreturn rfl hw.1 d_M_isEnough_317 hw.2
    · have hw := hw.2 c19
      refine xw_aload_n d_M_isEnough_146 rfl rfl ?_
      obtain ⟨f1, a2, hA, hB, hw⟩ := hw
      refine xw_getr fr_M_37 d_M_isEnough_147 hA hB ?_
      refine xw_bipush (v := 16) d_M_isEnough_150 (by decide) ?_
      refine xw_iload_n d_M_isEnough_152 rfl rfl ?_
      refine xw_imul d_M_isEnough_153 ?_
      refine xw_iload d_M_isEnough_154 rfl ?_
      refine xw_iadd d_M_isEnough_156 ?_
      obtain ⟨ar18, x3, hA, hB, hC, hw⟩ := hw
      refine xw_iaload (t := 0) rfl d_M_isEnough_157 hA hB hC ?_
      refine xs_istore (lv' := [some (.ref (l0)), some (.int (l1)), some (.int (l2)), some (.int (l3)), some (.int (l4)), some (.int (x3)), none, none]) d_M_isEnough_158 rfl rfl ?_
      refine xw_aload_n d_M_isEnough_160 rfl rfl ?_
      refine xw_iload_n d_M_isEnough_161 rfl rfl ?_
      obtain ⟨⟨f5, hA⟩, hw⟩ := hw
      refine xc_V1i lk_M_135 in_M_isData d_M_isEnough_162 (x_M_isData hw) rfl hA rfl ?_
      intro x6 h4 hw
      refine xw_if_eq (tgt := 192) d_M_isEnough_165 (by decide) (fun c17 => ?_) (fun c17 => ?_)
      · have hw := hw.1 c17
        refine xw_aload_n d_M_isEnough_192 rfl rfl ?_
        obtain ⟨f7, a8, hA, hB, hw⟩ := hw
        refine xw_getr fr_M_73 d_M_isEnough_193 hA hB ?_
        refine xw_iload_n d_M_isEnough_196 rfl rfl ?_
        obtain ⟨ar11, x9, hA, hB, hC, hw⟩ := hw
        refine xw_iaload (t := 0) rfl d_M_isEnough_197 hA hB hC ?_
        refine xw_iload d_M_isEnough_198 rfl ?_
        refine xw_ishr d_M_isEnough_200 ?_
        refine xw_iconst (v := 1) d_M_isEnough_201 (by decide) ?_
        refine xw_iand d_M_isEnough_202 ?_
        refine xw_iconst (v := 1) d_M_isEnough_203 (by decide) ?_
        refine xw_icmp_ne (tgt := 211) d_M_isEnough_204 (by decide) (fun c10 => ?_) (fun c10 => ?_)
        · have hw := hw.1 c10
          refine xw_iconst (v := 0) d_M_isEnough_211 (by decide) ?_
          exact p_M_isEnough_212 ih (l0) (l1) (l2) (l3) (l4) (x3) (0) h4 hw
        · have hw := hw.2 c10
          refine xw_iconst (v := 1) d_M_isEnough_207 (by decide) ?_
          refine xw_goto (tgt := 212) d_M_isEnough_208 (by decide) ?_
          exact p_M_isEnough_212 ih (l0) (l1) (l2) (l3) (l4) (x3) (1) h4 hw
      · have hw := hw.2 c17
        refine xw_aload_n d_M_isEnough_168 rfl rfl ?_
        obtain ⟨f12, a13, hA, hB, hw⟩ := hw
        refine xw_getr fr_M_34 d_M_isEnough_169 hA hB ?_
        refine xw_bipush (v := 16) d_M_isEnough_172 (by decide) ?_
        refine xw_iload_n d_M_isEnough_174 rfl rfl ?_
        refine xw_imul d_M_isEnough_175 ?_
        refine xw_iload d_M_isEnough_176 rfl ?_
        refine xw_iadd d_M_isEnough_178 ?_
        obtain ⟨ar16, x14, hA, hB, hC, hw⟩ := hw
        refine xw_iaload (t := 0) rfl d_M_isEnough_179 hA hB hC ?_
        refine xw_iconst (v := 1) d_M_isEnough_180 (by decide) ?_
        refine xw_icmp_ne (tgt := 188) d_M_isEnough_181 (by decide) (fun c15 => ?_) (fun c15 => ?_)
        · have hw := hw.1 c15
          refine xw_iconst (v := 0) d_M_isEnough_188 (by decide) ?_
          refine xw_goto (tgt := 212) d_M_isEnough_189 (by decide) ?_
          exact p_M_isEnough_212 ih (l0) (l1) (l2) (l3) (l4) (x3) (0) h4 hw
        · have hw := hw.2 c15
          refine xw_iconst (v := 1) d_M_isEnough_184 (by decide) ?_
          refine xw_goto (tgt := 212) d_M_isEnough_185 (by decide) ?_
          exact p_M_isEnough_212 ih (l0) (l1) (l2) (l3) (l4) (x3) (1) h4 hw
set_option maxRecDepth 100000 in
def w_M_isEnough_134 (Q : Option Value → xH → Prop) (l0 : Nat) (l1 : Int32) (l2 : Int32) (h : xH) : Prop := ∃ n1, w_M_isEnough_139 Q n1 (l0) (l1) (l2) (1) (0) h
set_option maxRecDepth 100000 in
set_option maxHeartbeats 4000000 in
theorem p_M_isEnough_134 {sc : List Int32} {Q : Option Value → xH → Prop} (l0 : Nat) (l1 : Int32) (l2 : Int32) (h : xH) (hw : w_M_isEnough_134 Q l0 l1 l2 h) : xW sc m_M_isEnough 1 0 0 134 [some (.ref (l0)), some (.int (l1)), some (.int (l2)), none, none, none, none, none] [] h Q := by
  unfold w_M_isEnough_134 at hw
  refine xw_iconst (v := 1) d_M_isEnough_134 (by decide) ?_
  refine xs_istore_n (lv' := [some (.ref (l0)), some (.int (l1)), some (.int (l2)), some (.int (1)), none, none, none, none]) d_M_isEnough_135 rfl rfl rfl ?_
  refine xw_iconst (v := 0) d_M_isEnough_136 (by decide) ?_
  refine xs_istore (lv' := [some (.ref (l0)), some (.int (l1)), some (.int (l2)), some (.int (1)), some (.int (0)), none, none, none]) d_M_isEnough_137 rfl rfl ?_
  obtain ⟨n1, hw⟩ := hw
  exact p_M_isEnough_139  n1 (l0) (l1) (l2) (1) (0) h hw
set_option maxRecDepth 100000 in
def w_M_isEnough_65 (Q : Option Value → xH → Prop) (l0 : Nat) (l1 : Int32) (l2 : Int32) (l3 : Int32) (s0 : Int32) (s1 : Int32) (h : xH) : Prop := ((s1 < s0 → (narrow .boolean (.int 0) = .int 0 ∧ Q (some (.int 0)) h)) ∧ (¬ s1 < s0 → (narrow .boolean (.int 1) = .int 1 ∧ Q (some (.int 1)) h)))
set_option maxRecDepth 100000 in
set_option maxHeartbeats 4000000 in
theorem p_M_isEnough_65 {sc : List Int32} {Q : Option Value → xH → Prop} (l0 : Nat) (l1 : Int32) (l2 : Int32) (l3 : Int32) (s0 : Int32) (s1 : Int32) (h : xH) (hw : w_M_isEnough_65 Q l0 l1 l2 l3 s0 s1 h) : xW sc m_M_isEnough 1 0 0 65 [some (.ref (l0)), some (.int (l1)), some (.int (l2)), some (.int (l3)), none, none, none, none] [.int (s0), .int (s1)] h Q := by
  unfold w_M_isEnough_65 at hw
  refine xw_icmp_lt (tgt := 72) d_M_isEnough_65 (by decide) (fun c1 => ?_) (fun c1 => ?_)
  · have hw := hw.1 c1
    refine xw_iconst (v := 0) d_M_isEnough_72 (by decide) ?_
    exact xw_zreturn rfl hw.1 d_M_isEnough_73 hw.2
  · have hw := hw.2 c1
    refine xw_iconst (v := 1) d_M_isEnough_68 (by decide) ?_
    refine xw_goto (tgt := 73) d_M_isEnough_69 (by decide) ?_
    exact xw_zreturn rfl hw.1 d_M_isEnough_73 hw.2
set_option maxRecDepth 100000 in
def w_M_isEnough (Q : Option Value → xH → Prop) (this : Nat) (p1 : Int32) (h : xH) : Prop := ∃ (f1 : List Value) (a2 : Nat), h.2 this = some (.inr (8, f1)) ∧ f1[21]? = some (.ref a2) ∧ ∃ (ar51 : List Int32) (x3 : Int32), h.2 a2 = some (.inl (0, .inl ar51)) ∧ 0 ≤ p1 ∧ ar51[p1.toNatClampNeg]? = some x3 ∧ ∃ (f4 : List Value) (a5 : Nat), h.2 this = some (.inr (8, f4)) ∧ f4[16]? = some (.ref a5) ∧ ∃ (ar50 : List Int32) (x6 : Int32), h.2 a5 = some (.inl (0, .inl ar50)) ∧ 0 ≤ p1 ∧ ar50[p1.toNatClampNeg]? = some x6 ∧ ((¬ x6 = 3 → ∃ (f7 : List Value) (a8 : Nat), h.2 this = some (.inr (8, f7)) ∧ f7[16]? = some (.ref a8) ∧ ∃ (ar29 : List Int32) (x9 : Int32), h.2 a8 = some (.inl (0, .inl ar29)) ∧ 0 ≤ p1 ∧ ar29[p1.toNatClampNeg]? = some x9 ∧ ((¬ x9 = 4 → w_M_isEnough_134 Q (this) (p1) (x3) h) ∧ (x9 = 4 → ∃ (f10 : List Value) (a11 : Nat), h.2 this = some (.inr (8, f10)) ∧ f10[17]? = some (.ref a11) ∧ ∃ (ar27 : List Int32) (x12 : Int32), h.2 a11 = some (.inl (0, .inl ar27)) ∧ 0 ≤ p1 ∧ ar27[p1.toNatClampNeg]? = some x12 ∧ ((¬ x12 = 2 → w_M_isEnough_134 Q (this) (p1) (x3) h) ∧ (x12 = 2 → ∃ (f13 : List Value) (a14 : Nat), h.2 this = some (.inr (8, f13)) ∧ f13[10]? = some (.ref a14) ∧ ∃ (f15 : List Value) (a16 : Nat), h.2 this = some (.inr (8, f15)) ∧ f15[18]? = some (.ref a16) ∧ ∃ (ar25 : List Int32) (x17 : Int32), h.2 a16 = some (.inl (0, .inl ar25)) ∧ 0 ≤ p1 ∧ ar25[p1.toNatClampNeg]? = some x17 ∧ ∃ (ar24 : List Int32) (x18 : Int32), h.2 a14 = some (.inl (0, .inl ar24)) ∧ 0 ≤ ((16 * p1) + x17 : Int32) ∧ ar24[((16 * p1) + x17 : Int32).toNatClampNeg]? = some x18 ∧ w_M_many (fun v h19 => ∃ (x20 : Int32), v = some (.int x20) ∧ w_M_stores (fun v h21 => ∃ (x22 : Int32), v = some (.int x22) ∧ ((x20 < x22 → (narrow .boolean (.int 0) = .int 0 ∧ Q (some (.int 0)) h21)) ∧ (¬ x20 < x22 → (narrow .boolean (.int 1) = .int 1 ∧ Q (some (.int 1)) h21)))) x18 h19) ((x3 &&& x18) &&& 255) h))))) ∧ (x6 = 3 → ∃ (f30 : List Value) (a31 : Nat), h.2 this = some (.inr (8, f30)) ∧ f30[10]? = some (.ref a31) ∧ ∃ (f32 : List Value) (a33 : Nat), h.2 this = some (.inr (8, f32)) ∧ f32[25]? = some (.ref a33) ∧ ∃ (ar48 : List Int32) (x34 : Int32), h.2 a33 = some (.inl (0, .inl ar48)) ∧ 0 ≤ p1 ∧ ar48[p1.toNatClampNeg]? = some x34 ∧ ∃ (ar47 : List Int32) (x35 : Int32), h.2 a31 = some (.inl (0, .inl ar47)) ∧ 0 ≤ ((16 * p1) + x34 : Int32) ∧ ar47[((16 * p1) + x34 : Int32).toNatClampNeg]? = some x35 ∧ w_M_many (fun v h36 => ∃ (x37 : Int32), v = some (.int x37) ∧ ∃ (f38 : List Value) (a39 : Nat), h36.2 this = some (.inr (8, f38)) ∧ f38[17]? = some (.ref a39) ∧ ∃ (ar46 : List Int32) (x40 : Int32), h36.2 a39 = some (.inl (0, .inl ar46)) ∧ 0 ≤ p1 ∧ ar46[p1.toNatClampNeg]? = some x40 ∧ ((¬ x40 = 1 → w_M_stores (fun v h41 => ∃ (x42 : Int32), v = some (.int x42) ∧ w_M_isEnough_65 Q (this) (p1) (x3) (x35) (x42) (x37) h41) x35 h36) ∧ (x40 = 1 → w_M_reads (fun v h43 => ∃ (x44 : Int32), v = some (.int x44) ∧ w_M_isEnough_65 Q (this) (p1) (x3) (x35) (x44) (x37) h43) x35 h36))) ((x3 &&& x35) &&& 255) h))
set_option maxRecDepth 100000 in
set_option maxHeartbeats 4000000 in
theorem x_M_isEnough {sc : List Int32} {Q : Option Value → xH → Prop} {this : Nat} {p1 : Int32} {h : xH} (hw : w_M_isEnough Q this p1 h) : xMet sc m_M_isEnough 1 0 0 [.ref (this), .int (p1)] h Q := by
  unfold w_M_isEnough at hw
  refine xMet.of2 cw_M_isEnough rfl rfl ?_
  show xW sc m_M_isEnough 1 0 0 0 [some (.ref (this)), some (.int (p1)), none, none, none, none, none, none] [] h Q
  refine xw_aload_n d_M_isEnough_0 rfl rfl ?_
  obtain ⟨f1, a2, hA, hB, hw⟩ := hw
  refine xw_getr fr_M_67 d_M_isEnough_1 hA hB ?_
  refine xw_iload_n d_M_isEnough_4 rfl rfl ?_
  obtain ⟨ar51, x3, hA, hB, hC, hw⟩ := hw
  refine xw_iaload (t := 0) rfl d_M_isEnough_5 hA hB hC ?_
  refine xs_istore_n (lv' := [some (.ref (this)), some (.int (p1)), some (.int (x3)), none, none, none, none, none]) d_M_isEnough_6 rfl rfl rfl ?_
  refine xw_aload_n d_M_isEnough_7 rfl rfl ?_
  obtain ⟨f4, a5, hA, hB, hw⟩ := hw
  refine xw_getr fr_M_52 d_M_isEnough_8 hA hB ?_
  refine xw_iload_n d_M_isEnough_11 rfl rfl ?_
  obtain ⟨ar50, x6, hA, hB, hC, hw⟩ := hw
  refine xw_iaload (t := 0) rfl d_M_isEnough_12 hA hB hC ?_
  refine xw_iconst (v := 3) d_M_isEnough_13 (by decide) ?_
  refine xw_icmp_ne (tgt := 74) d_M_isEnough_14 (by decide) (fun c49 => ?_) (fun c49 => ?_)
  · have hw := hw.1 c49
    refine xw_aload_n d_M_isEnough_74 rfl rfl ?_
    obtain ⟨f7, a8, hA, hB, hw⟩ := hw
    refine xw_getr fr_M_52 d_M_isEnough_75 hA hB ?_
    refine xw_iload_n d_M_isEnough_78 rfl rfl ?_
    obtain ⟨ar29, x9, hA, hB, hC, hw⟩ := hw
    refine xw_iaload (t := 0) rfl d_M_isEnough_79 hA hB hC ?_
    refine xw_iconst (v := 4) d_M_isEnough_80 (by decide) ?_
    refine xw_icmp_ne (tgt := 134) d_M_isEnough_81 (by decide) (fun c28 => ?_) (fun c28 => ?_)
    · have hw := hw.1 c28
      exact p_M_isEnough_134  (this) (p1) (x3) h hw
    · have hw := hw.2 c28
      refine xw_aload_n d_M_isEnough_84 rfl rfl ?_
      obtain ⟨f10, a11, hA, hB, hw⟩ := hw
      refine xw_getr fr_M_55 d_M_isEnough_85 hA hB ?_
      refine xw_iload_n d_M_isEnough_88 rfl rfl ?_
      obtain ⟨ar27, x12, hA, hB, hC, hw⟩ := hw
      refine xw_iaload (t := 0) rfl d_M_isEnough_89 hA hB hC ?_
      refine xw_iconst (v := 2) d_M_isEnough_90 (by decide) ?_
      refine xw_icmp_ne (tgt := 134) d_M_isEnough_91 (by decide) (fun c26 => ?_) (fun c26 => ?_)
      · have hw := hw.1 c26
        exact p_M_isEnough_134  (this) (p1) (x3) h hw
      · have hw := hw.2 c26
        refine xw_aload_n d_M_isEnough_94 rfl rfl ?_
        obtain ⟨f13, a14, hA, hB, hw⟩ := hw
        refine xw_getr fr_M_37 d_M_isEnough_95 hA hB ?_
        refine xw_bipush (v := 16) d_M_isEnough_98 (by decide) ?_
        refine xw_iload_n d_M_isEnough_100 rfl rfl ?_
        refine xw_imul d_M_isEnough_101 ?_
        refine xw_aload_n d_M_isEnough_102 rfl rfl ?_
        obtain ⟨f15, a16, hA, hB, hw⟩ := hw
        refine xw_getr fr_M_58 d_M_isEnough_103 hA hB ?_
        refine xw_iload_n d_M_isEnough_106 rfl rfl ?_
        obtain ⟨ar25, x17, hA, hB, hC, hw⟩ := hw
        refine xw_iaload (t := 0) rfl d_M_isEnough_107 hA hB hC ?_
        refine xw_iadd d_M_isEnough_108 ?_
        obtain ⟨ar24, x18, hA, hB, hC, hw⟩ := hw
        refine xw_iaload (t := 0) rfl d_M_isEnough_109 hA hB hC ?_
        refine xs_istore_n (lv' := [some (.ref (this)), some (.int (p1)), some (.int (x3)), some (.int (x18)), none, none, none, none]) d_M_isEnough_110 rfl rfl rfl ?_
        refine xw_iload_n d_M_isEnough_111 rfl rfl ?_
        refine xw_iload_n d_M_isEnough_112 rfl rfl ?_
        refine xw_iand d_M_isEnough_113 ?_
        refine xw_sipush (v := 255) d_M_isEnough_114 (by decide) ?_
        refine xw_iand d_M_isEnough_117 ?_
        refine xc_S1i lk_M_185 st_M_many d_M_isEnough_118 (x_M_many hw) rfl rfl ?_
        intro x20 h19 hw
        refine xw_iload_n d_M_isEnough_121 rfl rfl ?_
        refine xc_S1i lk_M_191 st_M_stores d_M_isEnough_122 (x_M_stores hw) rfl rfl ?_
        intro x22 h21 hw
        refine xw_icmp_lt (tgt := 132) d_M_isEnough_125 (by decide) (fun c23 => ?_) (fun c23 => ?_)
        · have hw := hw.1 c23
          refine xw_iconst (v := 0) d_M_isEnough_132 (by decide) ?_
          exact xw_zreturn rfl hw.1 d_M_isEnough_133 hw.2
        · have hw := hw.2 c23
          refine xw_iconst (v := 1) d_M_isEnough_128 (by decide) ?_
          refine xw_goto (tgt := 133) d_M_isEnough_129 (by decide) ?_
          exact xw_zreturn rfl hw.1 d_M_isEnough_133 hw.2
  · have hw := hw.2 c49
    refine xw_aload_n d_M_isEnough_17 rfl rfl ?_
    obtain ⟨f30, a31, hA, hB, hw⟩ := hw
    refine xw_getr fr_M_37 d_M_isEnough_18 hA hB ?_
    refine xw_bipush (v := 16) d_M_isEnough_21 (by decide) ?_
    refine xw_iload_n d_M_isEnough_23 rfl rfl ?_
    refine xw_imul d_M_isEnough_24 ?_
    refine xw_aload_n d_M_isEnough_25 rfl rfl ?_
    obtain ⟨f32, a33, hA, hB, hw⟩ := hw
    refine xw_getr fr_M_79 d_M_isEnough_26 hA hB ?_
    refine xw_iload_n d_M_isEnough_29 rfl rfl ?_
    obtain ⟨ar48, x34, hA, hB, hC, hw⟩ := hw
    refine xw_iaload (t := 0) rfl d_M_isEnough_30 hA hB hC ?_
    refine xw_iadd d_M_isEnough_31 ?_
    obtain ⟨ar47, x35, hA, hB, hC, hw⟩ := hw
    refine xw_iaload (t := 0) rfl d_M_isEnough_32 hA hB hC ?_
    refine xs_istore_n (lv' := [some (.ref (this)), some (.int (p1)), some (.int (x3)), some (.int (x35)), none, none, none, none]) d_M_isEnough_33 rfl rfl rfl ?_
    refine xw_iload_n d_M_isEnough_34 rfl rfl ?_
    refine xw_iload_n d_M_isEnough_35 rfl rfl ?_
    refine xw_iand d_M_isEnough_36 ?_
    refine xw_sipush (v := 255) d_M_isEnough_37 (by decide) ?_
    refine xw_iand d_M_isEnough_40 ?_
    refine xc_S1i lk_M_185 st_M_many d_M_isEnough_41 (x_M_many hw) rfl rfl ?_
    intro x37 h36 hw
    refine xw_aload_n d_M_isEnough_44 rfl rfl ?_
    obtain ⟨f38, a39, hA, hB, hw⟩ := hw
    refine xw_getr fr_M_55 d_M_isEnough_45 hA hB ?_
    refine xw_iload_n d_M_isEnough_48 rfl rfl ?_
    obtain ⟨ar46, x40, hA, hB, hC, hw⟩ := hw
    refine xw_iaload (t := 0) rfl d_M_isEnough_49 hA hB hC ?_
    refine xw_iconst (v := 1) d_M_isEnough_50 (by decide) ?_
    refine xw_icmp_ne (tgt := 61) d_M_isEnough_51 (by decide) (fun c45 => ?_) (fun c45 => ?_)
    · have hw := hw.1 c45
      refine xw_iload_n d_M_isEnough_61 rfl rfl ?_
      refine xc_S1i lk_M_191 st_M_stores d_M_isEnough_62 (x_M_stores hw) rfl rfl ?_
      intro x42 h41 hw
      exact p_M_isEnough_65  (this) (p1) (x3) (x35) (x42) (x37) h41 hw
    · have hw := hw.2 c45
      refine xw_iload_n d_M_isEnough_54 rfl rfl ?_
      refine xc_S1i lk_M_188 st_M_reads d_M_isEnough_55 (x_M_reads hw) rfl rfl ?_
      intro x44 h43 hw
      refine xw_goto (tgt := 65) d_M_isEnough_58 (by decide) ?_
      exact p_M_isEnough_65  (this) (p1) (x3) (x35) (x44) (x37) h43 hw
set_option maxRecDepth 100000 in
def w_M_many16_4 (Q : Option Value → xH → Prop) : Nat → Int32 → Int32 → Int32 → xH → Prop
  | 0, _, _, _, _ => False
  | n + 1, l0, l1, l2, h => ((16 ≤ l2 → Q (some (.int l1)) h) ∧ (¬ 16 ≤ l2 → w_M_many16_4 Q n (l0) (l1 + ((l0 >>> (l2 &&& 31)) &&& 1)) (l2 + 1) h))
set_option maxRecDepth 100000 in
set_option maxHeartbeats 4000000 in
theorem p_M_many16_4 {sc : List Int32} {Q : Option Value → xH → Prop} : ∀ (n : Nat) (l0 : Int32) (l1 : Int32) (l2 : Int32) (h : xH), w_M_many16_4 Q n l0 l1 l2 h → xW sc m_M_many16 0 0 0 4 [some (.int (l0)), some (.int (l1)), some (.int (l2))] [] h Q := by
  intro n
  induction n with
  | zero => intro l0 l1 l2 h hw; exact False.elim hw
  | succ n ih =>
    intro l0 l1 l2 h hw
    rw [w_M_many16_4] at hw
    refine xw_iload_n d_M_many16_4 rfl rfl ?_
    refine xw_bipush (v := 16) d_M_many16_5 (by decide) ?_
    refine xw_icmp_ge (tgt := 24) d_M_many16_7 (by decide) (fun c1 => ?_) (fun c1 => ?_)
    · have hw := hw.1 c1
      refine xw_iload_n d_M_many16_24 rfl rfl ?_
      exact xw_ireturn rfl d_M_many16_25 hw
    · have hw := hw.2 c1
      refine xw_iload_n d_M_many16_10 rfl rfl ?_
      refine xw_iload_n d_M_many16_11 rfl rfl ?_
      refine xw_iload_n d_M_many16_12 rfl rfl ?_
      refine xw_ishr d_M_many16_13 ?_
      refine xw_iconst (v := 1) d_M_many16_14 (by decide) ?_
      refine xw_iand d_M_many16_15 ?_
      refine xw_iadd d_M_many16_16 ?_
      refine xs_istore_n (lv' := [some (.int (l0)), some (.int (l1 + ((l0 >>> (l2 &&& 31)) &&& 1))), some (.int (l2))]) d_M_many16_17 rfl rfl rfl ?_
      refine xs_iinc (v := l2 + 1) (lv' := [some (.int (l0)), some (.int (l1 + ((l0 >>> (l2 &&& 31)) &&& 1))), some (.int (l2 + 1))]) d_M_many16_18 rfl rfl rfl ?_
      refine xw_goto (tgt := 4) d_M_many16_21 (by decide) ?_
      exact ih (l0) (l1 + ((l0 >>> (l2 &&& 31)) &&& 1)) (l2 + 1) h hw
set_option maxRecDepth 100000 in
def w_M_many16 (Q : Option Value → xH → Prop) (p1 : Int32) (h : xH) : Prop := ∃ n1, w_M_many16_4 Q n1 (p1) (0) (0) h
set_option maxRecDepth 100000 in
set_option maxHeartbeats 4000000 in
theorem x_M_many16 {sc : List Int32} {Q : Option Value → xH → Prop} {p1 : Int32} {h : xH} (hw : w_M_many16 Q p1 h) : xMet sc m_M_many16 0 0 0 [.int (p1)] h Q := by
  unfold w_M_many16 at hw
  refine xMet.of2 cw_M_many16 rfl rfl ?_
  show xW sc m_M_many16 0 0 0 0 [some (.int (p1)), none, none] [] h Q
  refine xw_iconst (v := 0) d_M_many16_0 (by decide) ?_
  refine xs_istore_n (lv' := [some (.int (p1)), some (.int (0)), none]) d_M_many16_1 rfl rfl rfl ?_
  refine xw_iconst (v := 0) d_M_many16_2 (by decide) ?_
  refine xs_istore_n (lv' := [some (.int (p1)), some (.int (0)), some (.int (0))]) d_M_many16_3 rfl rfl rfl ?_
  obtain ⟨n1, hw⟩ := hw
  exact p_M_many16_4  n1 (p1) (0) (0) h hw
set_option maxRecDepth 100000 in
def w_M_proposed_35 (Q : Option Value → xH → Prop) (l0 : Nat) (l1 : Int32) (s0 : Int32) (s1 : Int32) (s2 : Nat) (h : xH) : Prop := ∃ ar1, h.2 s2 = some (.inl (0, .inl ar1)) ∧ 0 ≤ s1 ∧ s1.toNatClampNeg < ar1.length ∧ ∀ h2, h2 = xu h s2 (.inl (0, .inl (ar1.set s1.toNatClampNeg s0))) → ∃ (f3 : List Value) (a4 : Nat), h2.2 l0 = some (.inr (8, f3)) ∧ f3[17]? = some (.ref a4) ∧ ∃ ar5, h2.2 a4 = some (.inl (0, .inl ar5)) ∧ 0 ≤ l1 ∧ l1.toNatClampNeg < ar5.length ∧ ∀ h6, h6 = xu h2 a4 (.inl (0, .inl (ar5.set l1.toNatClampNeg 0))) → Q none h6
set_option maxRecDepth 100000 in
set_option maxHeartbeats 4000000 in
theorem p_M_proposed_35 {sc : List Int32} {Q : Option Value → xH → Prop} (l0 : Nat) (l1 : Int32) (s0 : Int32) (s1 : Int32) (s2 : Nat) (h : xH) (hw : w_M_proposed_35 Q l0 l1 s0 s1 s2 h) : xW sc m_M_proposed 0 0 0 35 [some (.ref (l0)), some (.int (l1))] [.int (s0), .int (s1), .ref (s2)] h Q := by
  unfold w_M_proposed_35 at hw
  obtain ⟨ar1, hA, hB, hC, hw⟩ := hw
  refine xw_iastore (t := 0) rfl d_M_proposed_35 hA hB hC ?_
  generalize hh : xu h s2 (.inl (0, .inl (ar1.set s1.toNatClampNeg s0))) = h2
  have hw := hw h2 hh.symm
  refine xw_aload_n d_M_proposed_36 rfl rfl ?_
  obtain ⟨f3, a4, hA, hB, hw⟩ := hw
  refine xw_getr fr_M_55 d_M_proposed_37 hA hB ?_
  refine xw_iload_n d_M_proposed_40 rfl rfl ?_
  refine xw_iconst (v := 0) d_M_proposed_41 (by decide) ?_
  obtain ⟨ar5, hA, hB, hC, hw⟩ := hw
  refine xw_iastore (t := 0) rfl d_M_proposed_42 hA hB hC ?_
  generalize hh : xu h2 a4 (.inl (0, .inl (ar5.set l1.toNatClampNeg 0))) = h6
  have hw := hw h6 hh.symm
  exact xw_return rfl d_M_proposed_43 hw
set_option maxRecDepth 100000 in
def w_M_proposed (Q : Option Value → xH → Prop) (this : Nat) (p1 : Int32) (h : xH) : Prop := ∃ (f1 : List Value) (a2 : Nat), h.2 this = some (.inr (8, f1)) ∧ f1[19]? = some (.ref a2) ∧ ∃ (f3 : List Value) (a4 : Nat), h.2 this = some (.inr (8, f3)) ∧ f3[10]? = some (.ref a4) ∧ ∃ (f5 : List Value) (a6 : Nat), h.2 this = some (.inr (8, f5)) ∧ f5[18]? = some (.ref a6) ∧ ∃ (ar15 : List Int32) (x7 : Int32), h.2 a6 = some (.inl (0, .inl ar15)) ∧ 0 ≤ p1 ∧ ar15[p1.toNatClampNeg]? = some x7 ∧ ∃ (ar14 : List Int32) (x8 : Int32), h.2 a4 = some (.inl (0, .inl ar14)) ∧ 0 ≤ ((16 * p1) + x7 : Int32) ∧ ar14[((16 * p1) + x7 : Int32).toNatClampNeg]? = some x8 ∧ ∃ (f9 : List Value) (a10 : Nat), h.2 this = some (.inr (8, f9)) ∧ f9[22]? = some (.ref a10) ∧ ∃ (ar13 : List Int32) (x11 : Int32), h.2 a10 = some (.inl (0, .inl ar13)) ∧ 0 ≤ p1 ∧ ar13[p1.toNatClampNeg]? = some x11 ∧ ((¬ x8 = x11 → w_M_proposed_35 Q (this) (p1) (0) (p1) (a2) h) ∧ (x8 = x11 → w_M_proposed_35 Q (this) (p1) (1) (p1) (a2) h))
set_option maxRecDepth 100000 in
set_option maxHeartbeats 4000000 in
theorem x_M_proposed {sc : List Int32} {Q : Option Value → xH → Prop} {this : Nat} {p1 : Int32} {h : xH} (hw : w_M_proposed Q this p1 h) : xMet sc m_M_proposed 0 0 0 [.ref (this), .int (p1)] h Q := by
  unfold w_M_proposed at hw
  refine xMet.of2 cw_M_proposed rfl rfl ?_
  show xW sc m_M_proposed 0 0 0 0 [some (.ref (this)), some (.int (p1))] [] h Q
  refine xw_aload_n d_M_proposed_0 rfl rfl ?_
  obtain ⟨f1, a2, hA, hB, hw⟩ := hw
  refine xw_getr fr_M_61 d_M_proposed_1 hA hB ?_
  refine xw_iload_n d_M_proposed_4 rfl rfl ?_
  refine xw_aload_n d_M_proposed_5 rfl rfl ?_
  obtain ⟨f3, a4, hA, hB, hw⟩ := hw
  refine xw_getr fr_M_37 d_M_proposed_6 hA hB ?_
  refine xw_bipush (v := 16) d_M_proposed_9 (by decide) ?_
  refine xw_iload_n d_M_proposed_11 rfl rfl ?_
  refine xw_imul d_M_proposed_12 ?_
  refine xw_aload_n d_M_proposed_13 rfl rfl ?_
  obtain ⟨f5, a6, hA, hB, hw⟩ := hw
  refine xw_getr fr_M_58 d_M_proposed_14 hA hB ?_
  refine xw_iload_n d_M_proposed_17 rfl rfl ?_
  obtain ⟨ar15, x7, hA, hB, hC, hw⟩ := hw
  refine xw_iaload (t := 0) rfl d_M_proposed_18 hA hB hC ?_
  refine xw_iadd d_M_proposed_19 ?_
  obtain ⟨ar14, x8, hA, hB, hC, hw⟩ := hw
  refine xw_iaload (t := 0) rfl d_M_proposed_20 hA hB hC ?_
  refine xw_aload_n d_M_proposed_21 rfl rfl ?_
  obtain ⟨f9, a10, hA, hB, hw⟩ := hw
  refine xw_getr fr_M_70 d_M_proposed_22 hA hB ?_
  refine xw_iload_n d_M_proposed_25 rfl rfl ?_
  obtain ⟨ar13, x11, hA, hB, hC, hw⟩ := hw
  refine xw_iaload (t := 0) rfl d_M_proposed_26 hA hB hC ?_
  refine xw_icmp_ne (tgt := 34) d_M_proposed_27 (by decide) (fun c12 => ?_) (fun c12 => ?_)
  · have hw := hw.1 c12
    refine xw_iconst (v := 0) d_M_proposed_34 (by decide) ?_
    exact p_M_proposed_35  (this) (p1) (0) (p1) (a2) h hw
  · have hw := hw.2 c12
    refine xw_iconst (v := 1) d_M_proposed_30 (by decide) ?_
    refine xw_goto (tgt := 35) d_M_proposed_31 (by decide) ?_
    exact p_M_proposed_35  (this) (p1) (1) (p1) (a2) h hw
set_option maxRecDepth 100000 in
def w_M_ends_164 (Q : Option Value → xH → Prop) (l0 : Nat) (l1 : Int32) (h : xH) : Prop := ∃ (f1 : List Value) (a2 : Nat), h.2 l0 = some (.inr (8, f1)) ∧ f1[17]? = some (.ref a2) ∧ ∃ ar3, h.2 a2 = some (.inl (0, .inl ar3)) ∧ 0 ≤ l1 ∧ l1.toNatClampNeg < ar3.length ∧ ∀ h4, h4 = xu h a2 (.inl (0, .inl (ar3.set l1.toNatClampNeg 0))) → Q none h4
set_option maxRecDepth 100000 in
set_option maxHeartbeats 4000000 in
theorem p_M_ends_164 {sc : List Int32} {Q : Option Value → xH → Prop} (l0 : Nat) (l1 : Int32) (h : xH) (hw : w_M_ends_164 Q l0 l1 h) : xW sc m_M_ends 3 0 0 164 [some (.ref (l0)), some (.int (l1)), none, none] [] h Q := by
  unfold w_M_ends_164 at hw
  refine xw_aload_n d_M_ends_164 rfl rfl ?_
  obtain ⟨f1, a2, hA, hB, hw⟩ := hw
  refine xw_getr fr_M_55 d_M_ends_165 hA hB ?_
  refine xw_iload_n d_M_ends_168 rfl rfl ?_
  refine xw_iconst (v := 0) d_M_ends_169 (by decide) ?_
  obtain ⟨ar3, hA, hB, hC, hw⟩ := hw
  refine xw_iastore (t := 0) rfl d_M_ends_170 hA hB hC ?_
  generalize hh : xu h a2 (.inl (0, .inl (ar3.set l1.toNatClampNeg 0))) = h4
  have hw := hw h4 hh.symm
  exact xw_return rfl d_M_ends_171 hw
set_option maxRecDepth 100000 in
def w_M_ends_140 (Q : Option Value → xH → Prop) (l0 : Nat) (l1 : Int32) (l2 : Int32) (h : xH) : Prop := (∃ f2, h.2 l0 = some (.inr (8, f2))) ∧ w_M_isUp (fun v h1 => ∃ (x3 : Int32), v = some (.int x3) ∧ ((¬ x3 = 0 → ∃ (f4 : List Value) (a5 : Nat), h1.2 l0 = some (.inr (8, f4)) ∧ f4[19]? = some (.ref a5) ∧ ∃ (f6 : List Value) (a7 : Nat), h1.2 l0 = some (.inr (8, f6)) ∧ f6[23]? = some (.ref a7) ∧ ∃ (ar13 : List Int32) (x8 : Int32), h1.2 a7 = some (.inl (0, .inl ar13)) ∧ 0 ≤ l1 ∧ ar13[l1.toNatClampNeg]? = some x8 ∧ w_M_many16 (fun v h9 => ∃ (x10 : Int32), v = some (.int x10) ∧ ∃ ar11, h9.2 a5 = some (.inl (0, .inl ar11)) ∧ 0 ≤ l1 ∧ l1.toNatClampNeg < ar11.length ∧ ∀ h12, h12 = xu h9 a5 (.inl (0, .inl (ar11.set l1.toNatClampNeg x10))) → w_M_ends_164 Q (l0) (l1) h12) x8 h1) ∧ (x3 = 0 → Q none h1))) l0 l1 h
set_option maxRecDepth 100000 in
set_option maxHeartbeats 4000000 in
theorem p_M_ends_140 {sc : List Int32} {Q : Option Value → xH → Prop} (l0 : Nat) (l1 : Int32) (l2 : Int32) (h : xH) (hw : w_M_ends_140 Q l0 l1 l2 h) : xW sc m_M_ends 3 0 0 140 [some (.ref (l0)), some (.int (l1)), some (.int (l2)), none] [] h Q := by
  unfold w_M_ends_140 at hw
  refine xw_aload_n d_M_ends_140 rfl rfl ?_
  refine xw_iload_n d_M_ends_141 rfl rfl ?_
  obtain ⟨⟨f2, hA⟩, hw⟩ := hw
  refine xc_V1i lk_M_111 in_M_isUp d_M_ends_142 (x_M_isUp hw) rfl hA rfl ?_
  intro x3 h1 hw
  refine xw_if_ne (tgt := 149) d_M_ends_145 (by decide) (fun c14 => ?_) (fun c14 => ?_)
  · have hw := hw.1 c14
    refine xw_aload_n d_M_ends_149 rfl rfl ?_
    obtain ⟨f4, a5, hA, hB, hw⟩ := hw
    refine xw_getr fr_M_61 d_M_ends_150 hA hB ?_
    refine xw_iload_n d_M_ends_153 rfl rfl ?_
    refine xw_aload_n d_M_ends_154 rfl rfl ?_
    obtain ⟨f6, a7, hA, hB, hw⟩ := hw
    refine xw_getr fr_M_73 d_M_ends_155 hA hB ?_
    refine xw_iload_n d_M_ends_158 rfl rfl ?_
    obtain ⟨ar13, x8, hA, hB, hC, hw⟩ := hw
    refine xw_iaload (t := 0) rfl d_M_ends_159 hA hB hC ?_
    refine xc_S1i lk_M_213 st_M_many16 d_M_ends_160 (x_M_many16 hw) rfl rfl ?_
    intro x10 h9 hw
    obtain ⟨ar11, hA, hB, hC, hw⟩ := hw
    refine xw_iastore (t := 0) rfl d_M_ends_163 hA hB hC ?_
    generalize hh : xu h9 a5 (.inl (0, .inl (ar11.set l1.toNatClampNeg x10))) = h12
    have hw := hw h12 hh.symm
    refine xs_drop (lv' := [some (.ref (l0)), some (.int (l1)), none, none]) 2 rfl ?_
    exact p_M_ends_164  (l0) (l1) h12 hw
  · have hw := hw.2 c14
    exact xw_return rfl d_M_ends_148 hw
set_option maxRecDepth 100000 in
def w_M_ends_134 (Q : Option Value → xH → Prop) (L76 : Nat → Int32 → Int32 → xH → Prop) (l0 : Nat) (l1 : Int32) (l2 : Int32) (l3 : Int32) (h : xH) : Prop := L76 (l0) (l1) (l2 + 1) h
set_option maxRecDepth 100000 in
set_option maxHeartbeats 4000000 in
theorem p_M_ends_134 {sc : List Int32} {Q : Option Value → xH → Prop} {L76 : Nat → Int32 → Int32 → xH → Prop} (hL76 : ∀ l0 l1 l2 h, L76 l0 l1 l2 h → xW sc m_M_ends 3 0 0 76 [some (.ref (l0)), some (.int (l1)), some (.int (l2)), none] [] h Q) (l0 : Nat) (l1 : Int32) (l2 : Int32) (l3 : Int32) (h : xH) (hw : w_M_ends_134 Q L76 l0 l1 l2 l3 h) : xW sc m_M_ends 3 0 0 134 [some (.ref (l0)), some (.int (l1)), some (.int (l2)), some (.int (l3))] [] h Q := by
  unfold w_M_ends_134 at hw
  refine xs_iinc (v := l2 + 1) (lv' := [some (.ref (l0)), some (.int (l1)), some (.int (l2 + 1)), some (.int (l3))]) d_M_ends_134 rfl rfl rfl ?_
  refine xw_goto (tgt := 76) d_M_ends_137 (by decide) ?_
  refine xs_drop (lv' := [some (.ref (l0)), some (.int (l1)), some (.int (l2 + 1)), none]) 3 rfl ?_
  exact hL76 (l0) (l1) (l2 + 1) h hw
set_option maxRecDepth 100000 in
def w_M_ends_76 (Q : Option Value → xH → Prop) : Nat → Nat → Int32 → Int32 → xH → Prop
  | 0, _, _, _, _ => False
  | n + 1, l0, l1, l2, h => ((16 ≤ l2 → w_M_ends_140 Q (l0) (l1) (l2) h) ∧ (¬ 16 ≤ l2 → (∃ f2, h.2 l0 = some (.inr (8, f2))) ∧ w_M_isUp (fun v h1 => ∃ (x3 : Int32), v = some (.int x3) ∧ ((x3 = 0 → w_M_ends_140 Q (l0) (l1) (l2) h1) ∧ (¬ x3 = 0 → ∃ (f4 : List Value) (a5 : Nat), h1.2 l0 = some (.inr (8, f4)) ∧ f4[23]? = some (.ref a5) ∧ ∃ (ar19 : List Int32) (x6 : Int32), h1.2 a5 = some (.inl (0, .inl ar19)) ∧ 0 ≤ l1 ∧ ar19[l1.toNatClampNeg]? = some x6 ∧ ((¬ ((x6 >>> (l2 &&& 31)) &&& 1) = 1 → w_M_ends_134 Q (fun y0 y1 y2 yh => w_M_ends_76 Q n y0 y1 y2 yh) (l0) (l1) (l2) ((16 * l1) + l2) h1) ∧ (((x6 >>> (l2 &&& 31)) &&& 1) = 1 → ∃ (f7 : List Value) (a8 : Nat), h1.2 l0 = some (.inr (8, f7)) ∧ f7[9]? = some (.ref a8) ∧ ∃ (ar17 : List Int32) (x9 : Int32), h1.2 a8 = some (.inl (0, .inl ar17)) ∧ 0 ≤ ((16 * l1) + l2 : Int32) ∧ ar17[((16 * l1) + l2 : Int32).toNatClampNeg]? = some x9 ∧ ((¬ x9 = 1 → w_M_ends_134 Q (fun y0 y1 y2 yh => w_M_ends_76 Q n y0 y1 y2 yh) (l0) (l1) (l2) ((16 * l1) + l2) h1) ∧ (x9 = 1 → ∃ (f10 : List Value) (a11 : Nat), h1.2 l0 = some (.inr (8, f10)) ∧ f10[10]? = some (.ref a11) ∧ ∃ (ar15 : List Int32) (x12 : Int32), h1.2 a11 = some (.inl (0, .inl ar15)) ∧ 0 ≤ ((16 * l1) + l2 : Int32) ∧ ar15[((16 * l1) + l2 : Int32).toNatClampNeg]? = some x12 ∧ (∃ f14, h1.2 l0 = some (.inr (8, f14))) ∧ w_M_writeMap (fun v h13 => v = none ∧ w_M_ends_134 Q (fun y0 y1 y2 yh => w_M_ends_76 Q n y0 y1 y2 yh) (l0) (l1) (l2) ((16 * l1) + l2) h13) l0 l1 l2 2 x12 h1))))))) l0 l1 h))
set_option maxRecDepth 100000 in
set_option maxHeartbeats 4000000 in
theorem p_M_ends_76 {sc : List Int32} {Q : Option Value → xH → Prop} : ∀ (n : Nat) (l0 : Nat) (l1 : Int32) (l2 : Int32) (h : xH), w_M_ends_76 Q n l0 l1 l2 h → xW sc m_M_ends 3 0 0 76 [some (.ref (l0)), some (.int (l1)), some (.int (l2)), none] [] h Q := by
  intro n
  induction n with
  | zero => intro l0 l1 l2 h hw; exact False.elim hw
  | succ n ih =>
    intro l0 l1 l2 h hw
    rw [w_M_ends_76] at hw
    refine xw_iload_n d_M_ends_76 rfl rfl ?_
    refine xw_bipush (v := 16) d_M_ends_77 (by decide) ?_
    refine xw_icmp_ge (tgt := 140) d_M_ends_79 (by decide) (fun c21 => ?_) (fun c21 => ?_)
    · have hw := hw.1 c21
      exact p_M_ends_140  (l0) (l1) (l2) h hw
    · have hw := hw.2 c21
      refine xw_aload_n d_M_ends_82 rfl rfl ?_
      refine xw_iload_n d_M_ends_83 rfl rfl ?_
      obtain ⟨⟨f2, hA⟩, hw⟩ := hw
      refine xc_V1i lk_M_111 in_M_isUp d_M_ends_84 (x_M_isUp hw) rfl hA rfl ?_
      intro x3 h1 hw
      refine xw_if_eq (tgt := 140) d_M_ends_87 (by decide) (fun c20 => ?_) (fun c20 => ?_)
      · have hw := hw.1 c20
        exact p_M_ends_140  (l0) (l1) (l2) h1 hw
      · have hw := hw.2 c20
        refine xw_bipush (v := 16) d_M_ends_90 (by decide) ?_
        refine xw_iload_n d_M_ends_92 rfl rfl ?_
        refine xw_imul d_M_ends_93 ?_
        refine xw_iload_n d_M_ends_94 rfl rfl ?_
        refine xw_iadd d_M_ends_95 ?_
        refine xs_istore_n (lv' := [some (.ref (l0)), some (.int (l1)), some (.int (l2)), some (.int ((16 * l1) + l2))]) d_M_ends_96 rfl rfl rfl ?_
        refine xw_aload_n d_M_ends_97 rfl rfl ?_
        obtain ⟨f4, a5, hA, hB, hw⟩ := hw
        refine xw_getr fr_M_73 d_M_ends_98 hA hB ?_
        refine xw_iload_n d_M_ends_101 rfl rfl ?_
        obtain ⟨ar19, x6, hA, hB, hC, hw⟩ := hw
        refine xw_iaload (t := 0) rfl d_M_ends_102 hA hB hC ?_
        refine xw_iload_n d_M_ends_103 rfl rfl ?_
        refine xw_ishr d_M_ends_104 ?_
        refine xw_iconst (v := 1) d_M_ends_105 (by decide) ?_
        refine xw_iand d_M_ends_106 ?_
        refine xw_iconst (v := 1) d_M_ends_107 (by decide) ?_
        refine xw_icmp_ne (tgt := 134) d_M_ends_108 (by decide) (fun c18 => ?_) (fun c18 => ?_)
        · have hw := hw.1 c18
          exact p_M_ends_134 ih (l0) (l1) (l2) ((16 * l1) + l2) h1 hw
        · have hw := hw.2 c18
          refine xw_aload_n d_M_ends_111 rfl rfl ?_
          obtain ⟨f7, a8, hA, hB, hw⟩ := hw
          refine xw_getr fr_M_34 d_M_ends_112 hA hB ?_
          refine xw_iload_n d_M_ends_115 rfl rfl ?_
          obtain ⟨ar17, x9, hA, hB, hC, hw⟩ := hw
          refine xw_iaload (t := 0) rfl d_M_ends_116 hA hB hC ?_
          refine xw_iconst (v := 1) d_M_ends_117 (by decide) ?_
          refine xw_icmp_ne (tgt := 134) d_M_ends_118 (by decide) (fun c16 => ?_) (fun c16 => ?_)
          · have hw := hw.1 c16
            exact p_M_ends_134 ih (l0) (l1) (l2) ((16 * l1) + l2) h1 hw
          · have hw := hw.2 c16
            refine xw_aload_n d_M_ends_121 rfl rfl ?_
            refine xw_iload_n d_M_ends_122 rfl rfl ?_
            refine xw_iload_n d_M_ends_123 rfl rfl ?_
            refine xw_iconst (v := 2) d_M_ends_124 (by decide) ?_
            refine xw_aload_n d_M_ends_125 rfl rfl ?_
            obtain ⟨f10, a11, hA, hB, hw⟩ := hw
            refine xw_getr fr_M_37 d_M_ends_126 hA hB ?_
            refine xw_iload_n d_M_ends_129 rfl rfl ?_
            obtain ⟨ar15, x12, hA, hB, hC, hw⟩ := hw
            refine xw_iaload (t := 0) rfl d_M_ends_130 hA hB hC ?_
            obtain ⟨⟨f14, hA⟩, hw⟩ := hw
            refine xc_V4n lk_M_206 in_M_writeMap d_M_ends_131 (x_M_writeMap hw) rfl hA rfl ?_
            intro h13 hw
            exact p_M_ends_134 ih (l0) (l1) (l2) ((16 * l1) + l2) h13 hw
set_option maxRecDepth 100000 in
def w_M_ends_71 (Q : Option Value → xH → Prop) (l0 : Nat) (l1 : Int32) (h : xH) : Prop := w_M_ends_164 Q (l0) (l1) h
set_option maxRecDepth 100000 in
set_option maxHeartbeats 4000000 in
theorem p_M_ends_71 {sc : List Int32} {Q : Option Value → xH → Prop} (l0 : Nat) (l1 : Int32) (h : xH) (hw : w_M_ends_71 Q l0 l1 h) : xW sc m_M_ends 3 0 0 71 [some (.ref (l0)), some (.int (l1)), none, none] [] h Q := by
  unfold w_M_ends_71 at hw
  refine xw_goto (tgt := 164) d_M_ends_71 (by decide) ?_
  exact p_M_ends_164  (l0) (l1) h hw
set_option maxRecDepth 100000 in
def w_M_ends (Q : Option Value → xH → Prop) (this : Nat) (p1 : Int32) (h : xH) : Prop := ∃ (f1 : List Value) (a2 : Nat), h.2 this = some (.inr (8, f1)) ∧ f1[16]? = some (.ref a2) ∧ ∃ (ar37 : List Int32) (x3 : Int32), h.2 a2 = some (.inl (0, .inl ar37)) ∧ 0 ≤ p1 ∧ ar37[p1.toNatClampNeg]? = some x3 ∧ ((¬ x3 = 3 → (∃ f5, h.2 this = some (.inr (8, f5))) ∧ w_M_isData (fun v h4 => ∃ (x6 : Int32), v = some (.int x6) ∧ ((x6 = 0 → ∃ n7, w_M_ends_76 Q n7 (this) (p1) (0) h4) ∧ (¬ x6 = 0 → ∃ (f8 : List Value) (a9 : Nat), h4.2 this = some (.inr (8, f8)) ∧ f8[19]? = some (.ref a9) ∧ ∃ (f10 : List Value) (a11 : Nat), h4.2 this = some (.inr (8, f10)) ∧ f10[30]? = some (.ref a11) ∧ ∃ (f12 : List Value) (a13 : Nat), h4.2 this = some (.inr (8, f12)) ∧ f12[18]? = some (.ref a13) ∧ ∃ (ar19 : List Int32) (x14 : Int32), h4.2 a13 = some (.inl (0, .inl ar19)) ∧ 0 ≤ p1 ∧ ar19[p1.toNatClampNeg]? = some x14 ∧ ∃ (ar18 : List Int32) (x15 : Int32), h4.2 a11 = some (.inl (0, .inl ar18)) ∧ 0 ≤ ((4 * p1) + x14 : Int32) ∧ ar18[((4 * p1) + x14 : Int32).toNatClampNeg]? = some x15 ∧ ∃ ar16, h4.2 a9 = some (.inl (0, .inl ar16)) ∧ 0 ≤ p1 ∧ p1.toNatClampNeg < ar16.length ∧ ∀ h17, h17 = xu h4 a9 (.inl (0, .inl (ar16.set p1.toNatClampNeg x15))) → w_M_ends_71 Q (this) (p1) h17))) this p1 h) ∧ (x3 = 3 → ∃ (f21 : List Value) (a22 : Nat), h.2 this = some (.inr (8, f21)) ∧ f21[18]? = some (.ref a22) ∧ ∃ (ar35 : List Int32) (x23 : Int32), h.2 a22 = some (.inl (0, .inl ar35)) ∧ 0 ≤ p1 ∧ ar35[p1.toNatClampNeg]? = some x23 ∧ (∃ f25, h.2 this = some (.inr (8, f25))) ∧ w_M_chosen (fun v h24 => ∃ (x26 : Int32), v = some (.int x26) ∧ (∃ f28, h24.2 this = some (.inr (8, f28))) ∧ w_M_writeMap (fun v h27 => v = none ∧ (∃ f30, h27.2 this = some (.inr (8, f30))) ∧ w_M_isUp (fun v h29 => ∃ (x31 : Int32), v = some (.int x31) ∧ ((¬ x31 = 0 → (∃ f33, h29.2 this = some (.inr (8, f33))) ∧ w_M_proposed (fun v h32 => v = none ∧ Q none h32) this p1 h29) ∧ (x31 = 0 → Q none h29))) this p1 h27) this p1 x23 1 x26 h24) this p1 h))
set_option maxRecDepth 100000 in
set_option maxHeartbeats 4000000 in
theorem x_M_ends {sc : List Int32} {Q : Option Value → xH → Prop} {this : Nat} {p1 : Int32} {h : xH} (hw : w_M_ends Q this p1 h) : xMet sc m_M_ends 3 0 0 [.ref (this), .int (p1)] h Q := by
  unfold w_M_ends at hw
  refine xMet.of2 cw_M_ends rfl rfl ?_
  show xW sc m_M_ends 3 0 0 0 [some (.ref (this)), some (.int (p1)), none, none] [] h Q
  refine xw_aload_n d_M_ends_0 rfl rfl ?_
  obtain ⟨f1, a2, hA, hB, hw⟩ := hw
  refine xw_getr fr_M_52 d_M_ends_1 hA hB ?_
  refine xw_iload_n d_M_ends_4 rfl rfl ?_
  obtain ⟨ar37, x3, hA, hB, hC, hw⟩ := hw
  refine xw_iaload (t := 0) rfl d_M_ends_5 hA hB hC ?_
  refine xw_iconst (v := 3) d_M_ends_6 (by decide) ?_
  refine xw_icmp_ne (tgt := 42) d_M_ends_7 (by decide) (fun c36 => ?_) (fun c36 => ?_)
  · have hw := hw.1 c36
    refine xw_aload_n d_M_ends_42 rfl rfl ?_
    refine xw_iload_n d_M_ends_43 rfl rfl ?_
    obtain ⟨⟨f5, hA⟩, hw⟩ := hw
    refine xc_V1i lk_M_135 in_M_isData d_M_ends_44 (x_M_isData hw) rfl hA rfl ?_
    intro x6 h4 hw
    refine xw_if_eq (tgt := 74) d_M_ends_47 (by decide) (fun c20 => ?_) (fun c20 => ?_)
    · have hw := hw.1 c20
      refine xw_iconst (v := 0) d_M_ends_74 (by decide) ?_
      refine xs_istore_n (lv' := [some (.ref (this)), some (.int (p1)), some (.int (0)), none]) d_M_ends_75 rfl rfl rfl ?_
      obtain ⟨n7, hw⟩ := hw
      exact p_M_ends_76  n7 (this) (p1) (0) h4 hw
    · have hw := hw.2 c20
      refine xw_aload_n d_M_ends_50 rfl rfl ?_
      obtain ⟨f8, a9, hA, hB, hw⟩ := hw
      refine xw_getr fr_M_61 d_M_ends_51 hA hB ?_
      refine xw_iload_n d_M_ends_54 rfl rfl ?_
      refine xw_aload_n d_M_ends_55 rfl rfl ?_
      obtain ⟨f10, a11, hA, hB, hw⟩ := hw
      refine xw_getr fr_M_94 d_M_ends_56 hA hB ?_
      refine xw_iconst (v := 4) d_M_ends_59 (by decide) ?_
      refine xw_iload_n d_M_ends_60 rfl rfl ?_
      refine xw_imul d_M_ends_61 ?_
      refine xw_aload_n d_M_ends_62 rfl rfl ?_
      obtain ⟨f12, a13, hA, hB, hw⟩ := hw
      refine xw_getr fr_M_58 d_M_ends_63 hA hB ?_
      refine xw_iload_n d_M_ends_66 rfl rfl ?_
      obtain ⟨ar19, x14, hA, hB, hC, hw⟩ := hw
      refine xw_iaload (t := 0) rfl d_M_ends_67 hA hB hC ?_
      refine xw_iadd d_M_ends_68 ?_
      obtain ⟨ar18, x15, hA, hB, hC, hw⟩ := hw
      refine xw_iaload (t := 0) rfl d_M_ends_69 hA hB hC ?_
      obtain ⟨ar16, hA, hB, hC, hw⟩ := hw
      refine xw_iastore (t := 0) rfl d_M_ends_70 hA hB hC ?_
      generalize hh : xu h4 a9 (.inl (0, .inl (ar16.set p1.toNatClampNeg x15))) = h17
      have hw := hw h17 hh.symm
      exact p_M_ends_71  (this) (p1) h17 hw
  · have hw := hw.2 c36
    refine xw_aload_n d_M_ends_10 rfl rfl ?_
    refine xw_iload_n d_M_ends_11 rfl rfl ?_
    refine xw_aload_n d_M_ends_12 rfl rfl ?_
    obtain ⟨f21, a22, hA, hB, hw⟩ := hw
    refine xw_getr fr_M_58 d_M_ends_13 hA hB ?_
    refine xw_iload_n d_M_ends_16 rfl rfl ?_
    obtain ⟨ar35, x23, hA, hB, hC, hw⟩ := hw
    refine xw_iaload (t := 0) rfl d_M_ends_17 hA hB hC ?_
    refine xw_iconst (v := 1) d_M_ends_18 (by decide) ?_
    refine xw_aload_n d_M_ends_19 rfl rfl ?_
    refine xw_iload_n d_M_ends_20 rfl rfl ?_
    obtain ⟨⟨f25, hA⟩, hw⟩ := hw
    refine xc_V1i lk_M_142 in_M_chosen d_M_ends_21 (x_M_chosen hw) rfl hA rfl ?_
    intro x26 h24 hw
    obtain ⟨⟨f28, hA⟩, hw⟩ := hw
    refine xc_V4n lk_M_206 in_M_writeMap d_M_ends_24 (x_M_writeMap hw) rfl hA rfl ?_
    intro h27 hw
    refine xw_aload_n d_M_ends_27 rfl rfl ?_
    refine xw_iload_n d_M_ends_28 rfl rfl ?_
    obtain ⟨⟨f30, hA⟩, hw⟩ := hw
    refine xc_V1i lk_M_111 in_M_isUp d_M_ends_29 (x_M_isUp hw) rfl hA rfl ?_
    intro x31 h29 hw
    refine xw_if_ne (tgt := 36) d_M_ends_32 (by decide) (fun c34 => ?_) (fun c34 => ?_)
    · have hw := hw.1 c34
      refine xw_aload_n d_M_ends_36 rfl rfl ?_
      refine xw_iload_n d_M_ends_37 rfl rfl ?_
      obtain ⟨⟨f33, hA⟩, hw⟩ := hw
      refine xc_V1n lk_M_210 in_M_proposed d_M_ends_38 (x_M_proposed hw) rfl hA rfl ?_
      intro h32 hw
      exact xw_return rfl d_M_ends_41 hw
    · have hw := hw.2 c34
      exact xw_return rfl d_M_ends_35 hw
set_option maxRecDepth 100000 in
def w_M_counts (Q : Option Value → xH → Prop) (this : Nat) (p1 : Int32) (h : xH) : Prop := ∃ (f1 : List Value) (a2 : Nat), h.2 this = some (.inr (8, f1)) ∧ f1[17]? = some (.ref a2) ∧ ∃ (ar32 : List Int32) (x3 : Int32), h.2 a2 = some (.inl (0, .inl ar32)) ∧ 0 ≤ p1 ∧ ar32[p1.toNatClampNeg]? = some x3 ∧ ((x3 ≤ 0 → (narrow .boolean (.int 0) = .int 0 ∧ Q (some (.int 0)) h)) ∧ (¬ x3 ≤ 0 → ∃ (f4 : List Value) (a5 : Nat), h.2 this = some (.inr (8, f4)) ∧ f4[35]? = some (.ref a5) ∧ ∃ (ar30 : List Int32) (x6 : Int32), h.2 a5 = some (.inl (0, .inl ar30)) ∧ 0 ≤ (3 : Int32) ∧ ar30[(3 : Int32).toNatClampNeg]? = some x6 ∧ ∃ (f7 : List Value) (a8 : Nat), h.2 this = some (.inr (8, f7)) ∧ f7[2]? = some (.ref a8) ∧ ∃ (ar29 : List Int32) (x9 : Int32), h.2 a8 = some (.inl (0, .inl ar29)) ∧ 0 ≤ p1 ∧ ar29[p1.toNatClampNeg]? = some x9 ∧ ((¬ x6 = x9 → (narrow .boolean (.int 0) = .int 0 ∧ Q (some (.int 0)) h)) ∧ (x6 = x9 → ∃ (f10 : List Value) (a11 : Nat), h.2 this = some (.inr (8, f10)) ∧ f10[35]? = some (.ref a11) ∧ ∃ (ar27 : List Int32) (x12 : Int32), h.2 a11 = some (.inl (0, .inl ar27)) ∧ 0 ≤ (4 : Int32) ∧ ar27[(4 : Int32).toNatClampNeg]? = some x12 ∧ ∃ (f13 : List Value) (a14 : Nat), h.2 this = some (.inr (8, f13)) ∧ f13[5]? = some (.ref a14) ∧ ∃ (ar26 : List Int32) (x15 : Int32), h.2 a14 = some (.inl (0, .inl ar26)) ∧ 0 ≤ p1 ∧ ar26[p1.toNatClampNeg]? = some x15 ∧ ((¬ x12 = x15 → (narrow .boolean (.int 0) = .int 0 ∧ Q (some (.int 0)) h)) ∧ (x12 = x15 → ∃ (f16 : List Value) (a17 : Nat), h.2 this = some (.inr (8, f16)) ∧ f16[21]? = some (.ref a17) ∧ ∃ (ar24 : List Int32) (x18 : Int32), h.2 a17 = some (.inl (0, .inl ar24)) ∧ 0 ≤ p1 ∧ ar24[p1.toNatClampNeg]? = some x18 ∧ ∃ (f19 : List Value) (a20 : Nat), h.2 this = some (.inr (8, f19)) ∧ f19[35]? = some (.ref a20) ∧ ∃ (ar23 : List Int32) (x21 : Int32), h.2 a20 = some (.inl (0, .inl ar23)) ∧ 0 ≤ (1 : Int32) ∧ ar23[(1 : Int32).toNatClampNeg]? = some x21 ∧ ((¬ ((x18 >>> (x21 &&& 31)) &&& 1) = 0 → (narrow .boolean (.int 0) = .int 0 ∧ Q (some (.int 0)) h)) ∧ (((x18 >>> (x21 &&& 31)) &&& 1) = 0 → (narrow .boolean (.int 1) = .int 1 ∧ Q (some (.int 1)) h)))))))))
set_option maxRecDepth 100000 in
set_option maxHeartbeats 4000000 in
theorem x_M_counts {sc : List Int32} {Q : Option Value → xH → Prop} {this : Nat} {p1 : Int32} {h : xH} (hw : w_M_counts Q this p1 h) : xMet sc m_M_counts 0 0 0 [.ref (this), .int (p1)] h Q := by
  unfold w_M_counts at hw
  refine xMet.of2 cw_M_counts rfl rfl ?_
  show xW sc m_M_counts 0 0 0 0 [some (.ref (this)), some (.int (p1))] [] h Q
  refine xw_aload_n d_M_counts_0 rfl rfl ?_
  obtain ⟨f1, a2, hA, hB, hw⟩ := hw
  refine xw_getr fr_M_55 d_M_counts_1 hA hB ?_
  refine xw_iload_n d_M_counts_4 rfl rfl ?_
  obtain ⟨ar32, x3, hA, hB, hC, hw⟩ := hw
  refine xw_iaload (t := 0) rfl d_M_counts_5 hA hB hC ?_
  refine xw_if_le (tgt := 61) d_M_counts_6 (by decide) (fun c31 => ?_) (fun c31 => ?_)
  · have hw := hw.1 c31
    refine xw_iconst (v := 0) d_M_counts_61 (by decide) ?_
    exact xw_zreturn rfl hw.1 d_M_counts_62 hw.2
  · have hw := hw.2 c31
    refine xw_aload_n d_M_counts_9 rfl rfl ?_
    obtain ⟨f4, a5, hA, hB, hw⟩ := hw
    refine xw_getr fr_M_100 d_M_counts_10 hA hB ?_
    refine xw_iconst (v := 3) d_M_counts_13 (by decide) ?_
    obtain ⟨ar30, x6, hA, hB, hC, hw⟩ := hw
    refine xw_iaload (t := 0) rfl d_M_counts_14 hA hB hC ?_
    refine xw_aload_n d_M_counts_15 rfl rfl ?_
    obtain ⟨f7, a8, hA, hB, hw⟩ := hw
    refine xw_getr fr_M_13 d_M_counts_16 hA hB ?_
    refine xw_iload_n d_M_counts_19 rfl rfl ?_
    obtain ⟨ar29, x9, hA, hB, hC, hw⟩ := hw
    refine xw_iaload (t := 0) rfl d_M_counts_20 hA hB hC ?_
    refine xw_icmp_ne (tgt := 61) d_M_counts_21 (by decide) (fun c28 => ?_) (fun c28 => ?_)
    · have hw := hw.1 c28
      refine xw_iconst (v := 0) d_M_counts_61 (by decide) ?_
      exact xw_zreturn rfl hw.1 d_M_counts_62 hw.2
    · have hw := hw.2 c28
      refine xw_aload_n d_M_counts_24 rfl rfl ?_
      obtain ⟨f10, a11, hA, hB, hw⟩ := hw
      refine xw_getr fr_M_100 d_M_counts_25 hA hB ?_
      refine xw_iconst (v := 4) d_M_counts_28 (by decide) ?_
      obtain ⟨ar27, x12, hA, hB, hC, hw⟩ := hw
      refine xw_iaload (t := 0) rfl d_M_counts_29 hA hB hC ?_
      refine xw_aload_n d_M_counts_30 rfl rfl ?_
      obtain ⟨f13, a14, hA, hB, hw⟩ := hw
      refine xw_getr fr_M_22 d_M_counts_31 hA hB ?_
      refine xw_iload_n d_M_counts_34 rfl rfl ?_
      obtain ⟨ar26, x15, hA, hB, hC, hw⟩ := hw
      refine xw_iaload (t := 0) rfl d_M_counts_35 hA hB hC ?_
      refine xw_icmp_ne (tgt := 61) d_M_counts_36 (by decide) (fun c25 => ?_) (fun c25 => ?_)
      · have hw := hw.1 c25
        refine xw_iconst (v := 0) d_M_counts_61 (by decide) ?_
        exact xw_zreturn rfl hw.1 d_M_counts_62 hw.2
      · have hw := hw.2 c25
        refine xw_aload_n d_M_counts_39 rfl rfl ?_
        obtain ⟨f16, a17, hA, hB, hw⟩ := hw
        refine xw_getr fr_M_67 d_M_counts_40 hA hB ?_
        refine xw_iload_n d_M_counts_43 rfl rfl ?_
        obtain ⟨ar24, x18, hA, hB, hC, hw⟩ := hw
        refine xw_iaload (t := 0) rfl d_M_counts_44 hA hB hC ?_
        refine xw_aload_n d_M_counts_45 rfl rfl ?_
        obtain ⟨f19, a20, hA, hB, hw⟩ := hw
        refine xw_getr fr_M_100 d_M_counts_46 hA hB ?_
        refine xw_iconst (v := 1) d_M_counts_49 (by decide) ?_
        obtain ⟨ar23, x21, hA, hB, hC, hw⟩ := hw
        refine xw_iaload (t := 0) rfl d_M_counts_50 hA hB hC ?_
        refine xw_ishr d_M_counts_51 ?_
        refine xw_iconst (v := 1) d_M_counts_52 (by decide) ?_
        refine xw_iand d_M_counts_53 ?_
        refine xw_if_ne (tgt := 61) d_M_counts_54 (by decide) (fun c22 => ?_) (fun c22 => ?_)
        · have hw := hw.1 c22
          refine xw_iconst (v := 0) d_M_counts_61 (by decide) ?_
          exact xw_zreturn rfl hw.1 d_M_counts_62 hw.2
        · have hw := hw.2 c22
          refine xw_iconst (v := 1) d_M_counts_57 (by decide) ?_
          refine xw_goto (tgt := 62) d_M_counts_58 (by decide) ?_
          exact xw_zreturn rfl hw.1 d_M_counts_62 hw.2
set_option maxRecDepth 100000 in
def w_M_answer (Q : Option Value → xH → Prop) (this : Nat) (p1 : Int32) (p2 : Int32) (p3 : Int32) (p4 : Int32) (p5 : Int32) (p6 : Int32) (p7 : Int32) (h : xH) : Prop := ∃ (f1 : List Value) (a2 : Nat), h.2 this = some (.inr (8, f1)) ∧ f1[35]? = some (.ref a2) ∧ ∃ (ar14 : List Int32) (x3 : Int32), h.2 a2 = some (.inl (0, .inl ar14)) ∧ 0 ≤ (1 : Int32) ∧ ar14[(1 : Int32).toNatClampNeg]? = some x3 ∧ ∃ (f4 : List Value) (a5 : Nat), h.2 this = some (.inr (8, f4)) ∧ f4[35]? = some (.ref a5) ∧ ∃ (ar13 : List Int32) (x6 : Int32), h.2 a5 = some (.inl (0, .inl ar13)) ∧ 0 ≤ (3 : Int32) ∧ ar13[(3 : Int32).toNatClampNeg]? = some x6 ∧ ∃ (f7 : List Value) (a8 : Nat), h.2 this = some (.inr (8, f7)) ∧ f7[35]? = some (.ref a8) ∧ ∃ (ar12 : List Int32) (x9 : Int32), h.2 a8 = some (.inl (0, .inl ar12)) ∧ 0 ≤ (4 : Int32) ∧ ar12[(4 : Int32).toNatClampNeg]? = some x9 ∧ (∃ f11, h.2 this = some (.inr (8, f11))) ∧ w_M_send (fun v h10 => v = none ∧ Q none h10) this p1 p2 x3 x6 x9 p7 p3 p4 p5 p6 0 h
set_option maxRecDepth 100000 in
set_option maxHeartbeats 4000000 in
theorem x_M_answer {sc : List Int32} {Q : Option Value → xH → Prop} {this : Nat} {p1 : Int32} {p2 : Int32} {p3 : Int32} {p4 : Int32} {p5 : Int32} {p6 : Int32} {p7 : Int32} {h : xH} (hw : w_M_answer Q this p1 p2 p3 p4 p5 p6 p7 h) : xMet sc m_M_answer 1 0 0 [.ref (this), .int (p1), .int (p2), .int (p3), .int (p4), .int (p5), .int (p6), .int (p7)] h Q := by
  unfold w_M_answer at hw
  refine xMet.of2 cw_M_answer rfl rfl ?_
  show xW sc m_M_answer 1 0 0 0 [some (.ref (this)), some (.int (p1)), some (.int (p2)), some (.int (p3)), some (.int (p4)), some (.int (p5)), some (.int (p6)), some (.int (p7))] [] h Q
  refine xw_aload_n d_M_answer_0 rfl rfl ?_
  refine xw_iload_n d_M_answer_1 rfl rfl ?_
  refine xw_iload_n d_M_answer_2 rfl rfl ?_
  refine xw_aload_n d_M_answer_3 rfl rfl ?_
  obtain ⟨f1, a2, hA, hB, hw⟩ := hw
  refine xw_getr fr_M_100 d_M_answer_4 hA hB ?_
  refine xw_iconst (v := 1) d_M_answer_7 (by decide) ?_
  obtain ⟨ar14, x3, hA, hB, hC, hw⟩ := hw
  refine xw_iaload (t := 0) rfl d_M_answer_8 hA hB hC ?_
  refine xw_aload_n d_M_answer_9 rfl rfl ?_
  obtain ⟨f4, a5, hA, hB, hw⟩ := hw
  refine xw_getr fr_M_100 d_M_answer_10 hA hB ?_
  refine xw_iconst (v := 3) d_M_answer_13 (by decide) ?_
  obtain ⟨ar13, x6, hA, hB, hC, hw⟩ := hw
  refine xw_iaload (t := 0) rfl d_M_answer_14 hA hB hC ?_
  refine xw_aload_n d_M_answer_15 rfl rfl ?_
  obtain ⟨f7, a8, hA, hB, hw⟩ := hw
  refine xw_getr fr_M_100 d_M_answer_16 hA hB ?_
  refine xw_iconst (v := 4) d_M_answer_19 (by decide) ?_
  obtain ⟨ar12, x9, hA, hB, hC, hw⟩ := hw
  refine xw_iaload (t := 0) rfl d_M_answer_20 hA hB hC ?_
  refine xw_iload d_M_answer_21 rfl ?_
  refine xw_iload_n d_M_answer_23 rfl rfl ?_
  refine xw_iload d_M_answer_24 rfl ?_
  refine xw_iload d_M_answer_26 rfl ?_
  refine xw_iload d_M_answer_28 rfl ?_
  refine xw_iconst (v := 0) d_M_answer_30 (by decide) ?_
  obtain ⟨⟨f11, hA⟩, hw⟩ := hw
  refine xc_V11n lk_M_138 in_M_send d_M_answer_31 (x_M_send hw) rfl hA rfl ?_
  intro h10 hw
  exact xw_return rfl d_M_answer_34 hw
set_option maxRecDepth 100000 in
def w_M_storeAll_2 (Q : Option Value → xH → Prop) : Nat → Nat → Int32 → Int32 → xH → Prop
  | 0, _, _, _, _ => False
  | n + 1, l0, l1, l2, h => ((4 ≤ l2 → Q none h) ∧ (¬ 4 ≤ l2 → ∃ (f1 : List Value) (a2 : Nat), h.2 l0 = some (.inr (8, f1)) ∧ f1[35]? = some (.ref a2) ∧ ∃ (ar14 : List Int32) (x3 : Int32), h.2 a2 = some (.inl (0, .inl ar14)) ∧ 0 ≤ (41 + (3 * l2) : Int32) ∧ ar14[(41 + (3 * l2) : Int32).toNatClampNeg]? = some x3 ∧ ∃ (f4 : List Value) (a5 : Nat), h.2 l0 = some (.inr (8, f4)) ∧ f4[35]? = some (.ref a5) ∧ ∃ (ar13 : List Int32) (x6 : Int32), h.2 a5 = some (.inl (0, .inl ar13)) ∧ 0 ≤ ((41 + (3 * l2)) + 1 : Int32) ∧ ar13[((41 + (3 * l2)) + 1 : Int32).toNatClampNeg]? = some x6 ∧ ∃ (f7 : List Value) (a8 : Nat), h.2 l0 = some (.inr (8, f7)) ∧ f7[35]? = some (.ref a8) ∧ ∃ (ar12 : List Int32) (x9 : Int32), h.2 a8 = some (.inl (0, .inl ar12)) ∧ 0 ≤ ((41 + (3 * l2)) + 2 : Int32) ∧ ar12[((41 + (3 * l2)) + 2 : Int32).toNatClampNeg]? = some x9 ∧ (∃ f11, h.2 l0 = some (.inr (8, f11))) ∧ w_M_store (fun v h10 => v = none ∧ w_M_storeAll_2 Q n (l0) (l1) (l2 + 1) h10) l0 l1 l2 x3 x6 x9 h))
set_option maxRecDepth 100000 in
set_option maxHeartbeats 4000000 in
theorem p_M_storeAll_2 {sc : List Int32} {Q : Option Value → xH → Prop} : ∀ (n : Nat) (l0 : Nat) (l1 : Int32) (l2 : Int32) (h : xH), w_M_storeAll_2 Q n l0 l1 l2 h → xW sc m_M_storeAll 3 0 0 2 [some (.ref (l0)), some (.int (l1)), some (.int (l2))] [] h Q := by
  intro n
  induction n with
  | zero => intro l0 l1 l2 h hw; exact False.elim hw
  | succ n ih =>
    intro l0 l1 l2 h hw
    rw [w_M_storeAll_2] at hw
    refine xw_iload_n d_M_storeAll_2 rfl rfl ?_
    refine xw_iconst (v := 4) d_M_storeAll_3 (by decide) ?_
    refine xw_icmp_ge (tgt := 56) d_M_storeAll_4 (by decide) (fun c15 => ?_) (fun c15 => ?_)
    · have hw := hw.1 c15
      exact xw_return rfl d_M_storeAll_56 hw
    · have hw := hw.2 c15
      refine xw_aload_n d_M_storeAll_7 rfl rfl ?_
      refine xw_iload_n d_M_storeAll_8 rfl rfl ?_
      refine xw_iload_n d_M_storeAll_9 rfl rfl ?_
      refine xw_aload_n d_M_storeAll_10 rfl rfl ?_
      obtain ⟨f1, a2, hA, hB, hw⟩ := hw
      refine xw_getr fr_M_100 d_M_storeAll_11 hA hB ?_
      refine xw_bipush (v := 41) d_M_storeAll_14 (by decide) ?_
      refine xw_iconst (v := 3) d_M_storeAll_16 (by decide) ?_
      refine xw_iload_n d_M_storeAll_17 rfl rfl ?_
      refine xw_imul d_M_storeAll_18 ?_
      refine xw_iadd d_M_storeAll_19 ?_
      obtain ⟨ar14, x3, hA, hB, hC, hw⟩ := hw
      refine xw_iaload (t := 0) rfl d_M_storeAll_20 hA hB hC ?_
      refine xw_aload_n d_M_storeAll_21 rfl rfl ?_
      obtain ⟨f4, a5, hA, hB, hw⟩ := hw
      refine xw_getr fr_M_100 d_M_storeAll_22 hA hB ?_
      refine xw_bipush (v := 41) d_M_storeAll_25 (by decide) ?_
      refine xw_iconst (v := 3) d_M_storeAll_27 (by decide) ?_
      refine xw_iload_n d_M_storeAll_28 rfl rfl ?_
      refine xw_imul d_M_storeAll_29 ?_
      refine xw_iadd d_M_storeAll_30 ?_
      refine xw_iconst (v := 1) d_M_storeAll_31 (by decide) ?_
      refine xw_iadd d_M_storeAll_32 ?_
      obtain ⟨ar13, x6, hA, hB, hC, hw⟩ := hw
      refine xw_iaload (t := 0) rfl d_M_storeAll_33 hA hB hC ?_
      refine xw_aload_n d_M_storeAll_34 rfl rfl ?_
      obtain ⟨f7, a8, hA, hB, hw⟩ := hw
      refine xw_getr fr_M_100 d_M_storeAll_35 hA hB ?_
      refine xw_bipush (v := 41) d_M_storeAll_38 (by decide) ?_
      refine xw_iconst (v := 3) d_M_storeAll_40 (by decide) ?_
      refine xw_iload_n d_M_storeAll_41 rfl rfl ?_
      refine xw_imul d_M_storeAll_42 ?_
      refine xw_iadd d_M_storeAll_43 ?_
      refine xw_iconst (v := 2) d_M_storeAll_44 (by decide) ?_
      refine xw_iadd d_M_storeAll_45 ?_
      obtain ⟨ar12, x9, hA, hB, hC, hw⟩ := hw
      refine xw_iaload (t := 0) rfl d_M_storeAll_46 hA hB hC ?_
      obtain ⟨⟨f11, hA⟩, hw⟩ := hw
      refine xc_V5n lk_M_150 in_M_store d_M_storeAll_47 (x_M_store hw) rfl hA rfl ?_
      intro h10 hw
      refine xs_iinc (v := l2 + 1) (lv' := [some (.ref (l0)), some (.int (l1)), some (.int (l2 + 1))]) d_M_storeAll_50 rfl rfl rfl ?_
      refine xw_goto (tgt := 2) d_M_storeAll_53 (by decide) ?_
      exact ih (l0) (l1) (l2 + 1) h10 hw
set_option maxRecDepth 100000 in
def w_M_storeAll (Q : Option Value → xH → Prop) (this : Nat) (p1 : Int32) (h : xH) : Prop := ∃ n1, w_M_storeAll_2 Q n1 (this) (p1) (0) h
set_option maxRecDepth 100000 in
set_option maxHeartbeats 4000000 in
theorem x_M_storeAll {sc : List Int32} {Q : Option Value → xH → Prop} {this : Nat} {p1 : Int32} {h : xH} (hw : w_M_storeAll Q this p1 h) : xMet sc m_M_storeAll 3 0 0 [.ref (this), .int (p1)] h Q := by
  unfold w_M_storeAll at hw
  refine xMet.of2 cw_M_storeAll rfl rfl ?_
  show xW sc m_M_storeAll 3 0 0 0 [some (.ref (this)), some (.int (p1)), none] [] h Q
  refine xw_iconst (v := 0) d_M_storeAll_0 (by decide) ?_
  refine xs_istore_n (lv' := [some (.ref (this)), some (.int (p1)), some (.int (0))]) d_M_storeAll_1 rfl rfl rfl ?_
  obtain ⟨n1, hw⟩ := hw
  exact p_M_storeAll_2  n1 (this) (p1) (0) h hw
set_option maxRecDepth 100000 in
def w_M_votes_121 (Q : Option Value → xH → Prop) (l0 : Nat) (l1 : Int32) (l2 : Int32) (l3 : Int32) (l4 : Int32) (s0 : Int32) (s1 : Int32) (s2 : Int32) (s3 : Int32) (s4 : Int32) (s5 : Nat) (h : xH) : Prop := (∃ f2, h.2 s5 = some (.inr (8, f2))) ∧ w_M_writeVote (fun v h1 => v = none ∧ (∃ f4, h1.2 l0 = some (.inr (8, f4))) ∧ w_M_isUp (fun v h3 => ∃ (x5 : Int32), v = some (.int x5) ∧ ((¬ x5 = 0 → ((l4 = 0 → ∃ (f6 : List Value) (a7 : Nat), h3.2 l0 = some (.inr (8, f6)) ∧ f6[35]? = some (.ref a7) ∧ ∃ (ar11 : List Int32) (x8 : Int32), h3.2 a7 = some (.inl (0, .inl ar11)) ∧ 0 ≤ (5 : Int32) ∧ ar11[(5 : Int32).toNatClampNeg]? = some x8 ∧ (∃ f10, h3.2 l0 = some (.inr (8, f10))) ∧ w_M_answer (fun v h9 => v = none ∧ Q none h9) l0 8 l1 0 0 0 0 x8 h3) ∧ (¬ l4 = 0 → ∃ (f12 : List Value) (a13 : Nat), h3.2 l0 = some (.inr (8, f12)) ∧ f12[12]? = some (.ref a13) ∧ ∃ (ar25 : List Int32) (x14 : Int32), h3.2 a13 = some (.inl (0, .inl ar25)) ∧ 0 ≤ l2 ∧ ar25[l2.toNatClampNeg]? = some x14 ∧ ∃ (f15 : List Value) (a16 : Nat), h3.2 l0 = some (.inr (8, f15)) ∧ f15[13]? = some (.ref a16) ∧ ∃ (ar24 : List Int32) (x17 : Int32), h3.2 a16 = some (.inl (0, .inl ar24)) ∧ 0 ≤ l2 ∧ ar24[l2.toNatClampNeg]? = some x17 ∧ ∃ (f18 : List Value) (a19 : Nat), h3.2 l0 = some (.inr (8, f18)) ∧ f18[35]? = some (.ref a19) ∧ ∃ (ar23 : List Int32) (x20 : Int32), h3.2 a19 = some (.inl (0, .inl ar23)) ∧ 0 ≤ (5 : Int32) ∧ ar23[(5 : Int32).toNatClampNeg]? = some x20 ∧ (∃ f22, h3.2 l0 = some (.inr (8, f22))) ∧ w_M_answer (fun v h21 => v = none ∧ Q none h21) l0 6 l1 x14 x17 0 0 x20 h3))) ∧ (x5 = 0 → Q none h3))) l0 l1 h1) s5 s4 s3 s2 s1 s0 h
set_option maxRecDepth 100000 in
set_option maxHeartbeats 4000000 in
theorem p_M_votes_121 {sc : List Int32} {Q : Option Value → xH → Prop} (l0 : Nat) (l1 : Int32) (l2 : Int32) (l3 : Int32) (l4 : Int32) (s0 : Int32) (s1 : Int32) (s2 : Int32) (s3 : Int32) (s4 : Int32) (s5 : Nat) (h : xH) (hw : w_M_votes_121 Q l0 l1 l2 l3 l4 s0 s1 s2 s3 s4 s5 h) : xW sc m_M_votes 3 0 0 121 [some (.ref (l0)), some (.int (l1)), some (.int (l2)), some (.int (l3)), some (.int (l4))] [.int (s0), .int (s1), .int (s2), .int (s3), .int (s4), .ref (s5)] h Q := by
  unfold w_M_votes_121 at hw
  obtain ⟨⟨f2, hA⟩, hw⟩ := hw
  refine xc_V5n lk_M_153 in_M_writeVote d_M_votes_121 (x_M_writeVote hw) rfl hA rfl ?_
  intro h1 hw
  refine xw_aload_n d_M_votes_124 rfl rfl ?_
  refine xw_iload_n d_M_votes_125 rfl rfl ?_
  obtain ⟨⟨f4, hA⟩, hw⟩ := hw
  refine xc_V1i lk_M_111 in_M_isUp d_M_votes_126 (x_M_isUp hw) rfl hA rfl ?_
  intro x5 h3 hw
  refine xw_if_ne (tgt := 133) d_M_votes_129 (by decide) (fun c27 => ?_) (fun c27 => ?_)
  · have hw := hw.1 c27
    refine xw_iload d_M_votes_133 rfl ?_
    refine xw_if_eq (tgt := 168) d_M_votes_135 (by decide) (fun c26 => ?_) (fun c26 => ?_)
    · have hw := hw.1 c26
      refine xw_aload_n d_M_votes_168 rfl rfl ?_
      refine xw_bipush (v := 8) d_M_votes_169 (by decide) ?_
      refine xw_iload_n d_M_votes_171 rfl rfl ?_
      refine xw_iconst (v := 0) d_M_votes_172 (by decide) ?_
      refine xw_iconst (v := 0) d_M_votes_173 (by decide) ?_
      refine xw_iconst (v := 0) d_M_votes_174 (by decide) ?_
      refine xw_iconst (v := 0) d_M_votes_175 (by decide) ?_
      refine xw_aload_n d_M_votes_176 rfl rfl ?_
      obtain ⟨f6, a7, hA, hB, hw⟩ := hw
      refine xw_getr fr_M_100 d_M_votes_177 hA hB ?_
      refine xw_iconst (v := 5) d_M_votes_180 (by decide) ?_
      obtain ⟨ar11, x8, hA, hB, hC, hw⟩ := hw
      refine xw_iaload (t := 0) rfl d_M_votes_181 hA hB hC ?_
      obtain ⟨⟨f10, hA⟩, hw⟩ := hw
      refine xc_V7n lk_M_223 in_M_answer d_M_votes_182 (x_M_answer hw) rfl hA rfl ?_
      intro h9 hw
      exact xw_return rfl d_M_votes_185 hw
    · have hw := hw.2 c26
      refine xw_aload_n d_M_votes_138 rfl rfl ?_
      refine xw_bipush (v := 6) d_M_votes_139 (by decide) ?_
      refine xw_iload_n d_M_votes_141 rfl rfl ?_
      refine xw_aload_n d_M_votes_142 rfl rfl ?_
      obtain ⟨f12, a13, hA, hB, hw⟩ := hw
      refine xw_getr fr_M_43 d_M_votes_143 hA hB ?_
      refine xw_iload_n d_M_votes_146 rfl rfl ?_
      obtain ⟨ar25, x14, hA, hB, hC, hw⟩ := hw
      refine xw_iaload (t := 0) rfl d_M_votes_147 hA hB hC ?_
      refine xw_aload_n d_M_votes_148 rfl rfl ?_
      obtain ⟨f15, a16, hA, hB, hw⟩ := hw
      refine xw_getr fr_M_46 d_M_votes_149 hA hB ?_
      refine xw_iload_n d_M_votes_152 rfl rfl ?_
      obtain ⟨ar24, x17, hA, hB, hC, hw⟩ := hw
      refine xw_iaload (t := 0) rfl d_M_votes_153 hA hB hC ?_
      refine xw_iconst (v := 0) d_M_votes_154 (by decide) ?_
      refine xw_iconst (v := 0) d_M_votes_155 (by decide) ?_
      refine xw_aload_n d_M_votes_156 rfl rfl ?_
      obtain ⟨f18, a19, hA, hB, hw⟩ := hw
      refine xw_getr fr_M_100 d_M_votes_157 hA hB ?_
      refine xw_iconst (v := 5) d_M_votes_160 (by decide) ?_
      obtain ⟨ar23, x20, hA, hB, hC, hw⟩ := hw
      refine xw_iaload (t := 0) rfl d_M_votes_161 hA hB hC ?_
      obtain ⟨⟨f22, hA⟩, hw⟩ := hw
      refine xc_V7n lk_M_223 in_M_answer d_M_votes_162 (x_M_answer hw) rfl hA rfl ?_
      intro h21 hw
      refine xw_goto (tgt := 185) d_M_votes_165 (by decide) ?_
      exact xw_return rfl d_M_votes_185 hw
  · have hw := hw.2 c27
    exact xw_return rfl d_M_votes_132 hw
set_option maxRecDepth 100000 in
def w_M_votes_100 (Q : Option Value → xH → Prop) (l0 : Nat) (l1 : Int32) (l2 : Int32) (l3 : Int32) (l4 : Int32) (s0 : Int32) (s1 : Int32) (s2 : Int32) (s3 : Int32) (s4 : Nat) (h : xH) : Prop := ((l4 = 0 → ∃ (f1 : List Value) (a2 : Nat), h.2 l0 = some (.inr (8, f1)) ∧ f1[35]? = some (.ref a2) ∧ ∃ (ar4 : List Int32) (x3 : Int32), h.2 a2 = some (.inl (0, .inl ar4)) ∧ 0 ≤ (7 : Int32) ∧ ar4[(7 : Int32).toNatClampNeg]? = some x3 ∧ w_M_votes_121 Q (l0) (l1) (l2) (l3) (l4) (x3) (s0) (s1) (s2) (s3) (s4) h) ∧ (¬ l4 = 0 → ∃ (f5 : List Value) (a6 : Nat), h.2 l0 = some (.inr (8, f5)) ∧ f5[13]? = some (.ref a6) ∧ ∃ (ar8 : List Int32) (x7 : Int32), h.2 a6 = some (.inl (0, .inl ar8)) ∧ 0 ≤ l2 ∧ ar8[l2.toNatClampNeg]? = some x7 ∧ w_M_votes_121 Q (l0) (l1) (l2) (l3) (l4) (x7) (s0) (s1) (s2) (s3) (s4) h))
set_option maxRecDepth 100000 in
set_option maxHeartbeats 4000000 in
theorem p_M_votes_100 {sc : List Int32} {Q : Option Value → xH → Prop} (l0 : Nat) (l1 : Int32) (l2 : Int32) (l3 : Int32) (l4 : Int32) (s0 : Int32) (s1 : Int32) (s2 : Int32) (s3 : Int32) (s4 : Nat) (h : xH) (hw : w_M_votes_100 Q l0 l1 l2 l3 l4 s0 s1 s2 s3 s4 h) : xW sc m_M_votes 3 0 0 100 [some (.ref (l0)), some (.int (l1)), some (.int (l2)), some (.int (l3)), some (.int (l4))] [.int (s0), .int (s1), .int (s2), .int (s3), .ref (s4)] h Q := by
  unfold w_M_votes_100 at hw
  refine xw_iload d_M_votes_100 rfl ?_
  refine xw_if_eq (tgt := 114) d_M_votes_102 (by decide) (fun c9 => ?_) (fun c9 => ?_)
  · have hw := hw.1 c9
    refine xw_aload_n d_M_votes_114 rfl rfl ?_
    obtain ⟨f1, a2, hA, hB, hw⟩ := hw
    refine xw_getr fr_M_100 d_M_votes_115 hA hB ?_
    refine xw_bipush (v := 7) d_M_votes_118 (by decide) ?_
    obtain ⟨ar4, x3, hA, hB, hC, hw⟩ := hw
    refine xw_iaload (t := 0) rfl d_M_votes_120 hA hB hC ?_
    exact p_M_votes_121  (l0) (l1) (l2) (l3) (l4) (x3) (s0) (s1) (s2) (s3) (s4) h hw
  · have hw := hw.2 c9
    refine xw_aload_n d_M_votes_105 rfl rfl ?_
    obtain ⟨f5, a6, hA, hB, hw⟩ := hw
    refine xw_getr fr_M_46 d_M_votes_106 hA hB ?_
    refine xw_iload_n d_M_votes_109 rfl rfl ?_
    obtain ⟨ar8, x7, hA, hB, hC, hw⟩ := hw
    refine xw_iaload (t := 0) rfl d_M_votes_110 hA hB hC ?_
    refine xw_goto (tgt := 121) d_M_votes_111 (by decide) ?_
    exact p_M_votes_121  (l0) (l1) (l2) (l3) (l4) (x7) (s0) (s1) (s2) (s3) (s4) h hw
set_option maxRecDepth 100000 in
def w_M_votes_76 (Q : Option Value → xH → Prop) (l0 : Nat) (l1 : Int32) (l2 : Int32) (l3 : Int32) (l4 : Int32) (h : xH) : Prop := ∃ (f1 : List Value) (a2 : Nat), h.2 l0 = some (.inr (8, f1)) ∧ f1[35]? = some (.ref a2) ∧ ∃ (ar9 : List Int32) (x3 : Int32), h.2 a2 = some (.inl (0, .inl ar9)) ∧ 0 ≤ (5 : Int32) ∧ ar9[(5 : Int32).toNatClampNeg]? = some x3 ∧ ((l4 = 0 → w_M_votes_100 Q (l0) (l1) (l2) (l3) (l4) (l3) (l3) (x3) (l1) (l0) h) ∧ (¬ l4 = 0 → ∃ (f4 : List Value) (a5 : Nat), h.2 l0 = some (.inr (8, f4)) ∧ f4[12]? = some (.ref a5) ∧ ∃ (ar7 : List Int32) (x6 : Int32), h.2 a5 = some (.inl (0, .inl ar7)) ∧ 0 ≤ l2 ∧ ar7[l2.toNatClampNeg]? = some x6 ∧ w_M_votes_100 Q (l0) (l1) (l2) (l3) (l4) (x6) (l3) (x3) (l1) (l0) h))
set_option maxRecDepth 100000 in
set_option maxHeartbeats 4000000 in
theorem p_M_votes_76 {sc : List Int32} {Q : Option Value → xH → Prop} (l0 : Nat) (l1 : Int32) (l2 : Int32) (l3 : Int32) (l4 : Int32) (h : xH) (hw : w_M_votes_76 Q l0 l1 l2 l3 l4 h) : xW sc m_M_votes 3 0 0 76 [some (.ref (l0)), some (.int (l1)), some (.int (l2)), some (.int (l3)), some (.int (l4))] [] h Q := by
  unfold w_M_votes_76 at hw
  refine xw_aload_n d_M_votes_76 rfl rfl ?_
  refine xw_iload_n d_M_votes_77 rfl rfl ?_
  refine xw_aload_n d_M_votes_78 rfl rfl ?_
  obtain ⟨f1, a2, hA, hB, hw⟩ := hw
  refine xw_getr fr_M_100 d_M_votes_79 hA hB ?_
  refine xw_iconst (v := 5) d_M_votes_82 (by decide) ?_
  obtain ⟨ar9, x3, hA, hB, hC, hw⟩ := hw
  refine xw_iaload (t := 0) rfl d_M_votes_83 hA hB hC ?_
  refine xw_iload_n d_M_votes_84 rfl rfl ?_
  refine xw_iload d_M_votes_85 rfl ?_
  refine xw_if_eq (tgt := 99) d_M_votes_87 (by decide) (fun c8 => ?_) (fun c8 => ?_)
  · have hw := hw.1 c8
    refine xw_iload_n d_M_votes_99 rfl rfl ?_
    exact p_M_votes_100  (l0) (l1) (l2) (l3) (l4) (l3) (l3) (x3) (l1) (l0) h hw
  · have hw := hw.2 c8
    refine xw_aload_n d_M_votes_90 rfl rfl ?_
    obtain ⟨f4, a5, hA, hB, hw⟩ := hw
    refine xw_getr fr_M_43 d_M_votes_91 hA hB ?_
    refine xw_iload_n d_M_votes_94 rfl rfl ?_
    obtain ⟨ar7, x6, hA, hB, hC, hw⟩ := hw
    refine xw_iaload (t := 0) rfl d_M_votes_95 hA hB hC ?_
    refine xw_goto (tgt := 100) d_M_votes_96 (by decide) ?_
    exact p_M_votes_100  (l0) (l1) (l2) (l3) (l4) (x6) (l3) (x3) (l1) (l0) h hw
set_option maxRecDepth 100000 in
def w_M_votes_53 (Q : Option Value → xH → Prop) (l0 : Nat) (l1 : Int32) (l2 : Int32) (l3 : Int32) (l4 : Int32) (h : xH) : Prop := ∃ (f1 : List Value) (a2 : Nat), h.2 l0 = some (.inr (8, f1)) ∧ f1[11]? = some (.ref a2) ∧ ∃ (ar10 : List Int32) (x3 : Int32), h.2 a2 = some (.inl (0, .inl ar10)) ∧ 0 ≤ l2 ∧ ar10[l2.toNatClampNeg]? = some x3 ∧ ∃ (f4 : List Value) (a5 : Nat), h.2 l0 = some (.inr (8, f4)) ∧ f4[35]? = some (.ref a5) ∧ ∃ (ar9 : List Int32) (x6 : Int32), h.2 a5 = some (.inl (0, .inl ar9)) ∧ 0 ≤ (5 : Int32) ∧ ar9[(5 : Int32).toNatClampNeg]? = some x6 ∧ (∃ f8, h.2 l0 = some (.inr (8, f8))) ∧ w_M_answer (fun v h7 => v = none ∧ Q none h7) l0 9 l1 x3 0 0 0 x6 h
set_option maxRecDepth 100000 in
set_option maxHeartbeats 4000000 in
theorem p_M_votes_53 {sc : List Int32} {Q : Option Value → xH → Prop} (l0 : Nat) (l1 : Int32) (l2 : Int32) (l3 : Int32) (l4 : Int32) (h : xH) (hw : w_M_votes_53 Q l0 l1 l2 l3 l4 h) : xW sc m_M_votes 3 0 0 53 [some (.ref (l0)), some (.int (l1)), some (.int (l2)), some (.int (l3)), some (.int (l4))] [] h Q := by
  unfold w_M_votes_53 at hw
  refine xw_aload_n d_M_votes_53 rfl rfl ?_
  refine xw_bipush (v := 9) d_M_votes_54 (by decide) ?_
  refine xw_iload_n d_M_votes_56 rfl rfl ?_
  refine xw_aload_n d_M_votes_57 rfl rfl ?_
  obtain ⟨f1, a2, hA, hB, hw⟩ := hw
  refine xw_getr fr_M_40 d_M_votes_58 hA hB ?_
  refine xw_iload_n d_M_votes_61 rfl rfl ?_
  obtain ⟨ar10, x3, hA, hB, hC, hw⟩ := hw
  refine xw_iaload (t := 0) rfl d_M_votes_62 hA hB hC ?_
  refine xw_iconst (v := 0) d_M_votes_63 (by decide) ?_
  refine xw_iconst (v := 0) d_M_votes_64 (by decide) ?_
  refine xw_iconst (v := 0) d_M_votes_65 (by decide) ?_
  refine xw_aload_n d_M_votes_66 rfl rfl ?_
  obtain ⟨f4, a5, hA, hB, hw⟩ := hw
  refine xw_getr fr_M_100 d_M_votes_67 hA hB ?_
  refine xw_iconst (v := 5) d_M_votes_70 (by decide) ?_
  obtain ⟨ar9, x6, hA, hB, hC, hw⟩ := hw
  refine xw_iaload (t := 0) rfl d_M_votes_71 hA hB hC ?_
  obtain ⟨⟨f8, hA⟩, hw⟩ := hw
  refine xc_V7n lk_M_223 in_M_answer d_M_votes_72 (x_M_answer hw) rfl hA rfl ?_
  intro h7 hw
  exact xw_return rfl d_M_votes_75 hw
set_option maxRecDepth 100000 in
def w_M_votes_23 (Q : Option Value → xH → Prop) (l0 : Nat) (l1 : Int32) (l2 : Int32) (l3 : Int32) (s0 : Int32) (h : xH) : Prop := ((s0 = 0 → ∃ (f1 : List Value) (a2 : Nat), h.2 l0 = some (.inr (8, f1)) ∧ f1[11]? = some (.ref a2) ∧ ∃ (ar5 : List Int32) (x3 : Int32), h.2 a2 = some (.inl (0, .inl ar5)) ∧ 0 ≤ l2 ∧ ar5[l2.toNatClampNeg]? = some x3 ∧ ((x3 ≤ l3 → w_M_votes_76 Q (l0) (l1) (l2) (l3) (s0) h) ∧ (¬ x3 ≤ l3 → w_M_votes_53 Q (l0) (l1) (l2) (l3) (s0) h))) ∧ (¬ s0 = 0 → ∃ (f6 : List Value) (a7 : Nat), h.2 l0 = some (.inr (8, f6)) ∧ f6[11]? = some (.ref a7) ∧ ∃ (ar10 : List Int32) (x8 : Int32), h.2 a7 = some (.inl (0, .inl ar10)) ∧ 0 ≤ l2 ∧ ar10[l2.toNatClampNeg]? = some x8 ∧ ((x8 < l3 → w_M_votes_76 Q (l0) (l1) (l2) (l3) (s0) h) ∧ (¬ x8 < l3 → w_M_votes_53 Q (l0) (l1) (l2) (l3) (s0) h))))
set_option maxRecDepth 100000 in
set_option maxHeartbeats 4000000 in
theorem p_M_votes_23 {sc : List Int32} {Q : Option Value → xH → Prop} (l0 : Nat) (l1 : Int32) (l2 : Int32) (l3 : Int32) (s0 : Int32) (h : xH) (hw : w_M_votes_23 Q l0 l1 l2 l3 s0 h) : xW sc m_M_votes 3 0 0 23 [some (.ref (l0)), some (.int (l1)), some (.int (l2)), some (.int (l3)), none] [.int (s0)] h Q := by
  unfold w_M_votes_23 at hw
  refine xs_istore (lv' := [some (.ref (l0)), some (.int (l1)), some (.int (l2)), some (.int (l3)), some (.int (s0))]) d_M_votes_23 rfl rfl ?_
  refine xw_iload d_M_votes_25 rfl ?_
  refine xw_if_eq (tgt := 43) d_M_votes_27 (by decide) (fun c11 => ?_) (fun c11 => ?_)
  · have hw := hw.1 c11
    refine xw_iload_n d_M_votes_43 rfl rfl ?_
    refine xw_aload_n d_M_votes_44 rfl rfl ?_
    obtain ⟨f1, a2, hA, hB, hw⟩ := hw
    refine xw_getr fr_M_40 d_M_votes_45 hA hB ?_
    refine xw_iload_n d_M_votes_48 rfl rfl ?_
    obtain ⟨ar5, x3, hA, hB, hC, hw⟩ := hw
    refine xw_iaload (t := 0) rfl d_M_votes_49 hA hB hC ?_
    refine xw_icmp_ge (tgt := 76) d_M_votes_50 (by decide) (fun c4 => ?_) (fun c4 => ?_)
    · have hw := hw.1 c4
      exact p_M_votes_76  (l0) (l1) (l2) (l3) (s0) h hw
    · have hw := hw.2 c4
      exact p_M_votes_53  (l0) (l1) (l2) (l3) (s0) h hw
  · have hw := hw.2 c11
    refine xw_iload_n d_M_votes_30 rfl rfl ?_
    refine xw_aload_n d_M_votes_31 rfl rfl ?_
    obtain ⟨f6, a7, hA, hB, hw⟩ := hw
    refine xw_getr fr_M_40 d_M_votes_32 hA hB ?_
    refine xw_iload_n d_M_votes_35 rfl rfl ?_
    obtain ⟨ar10, x8, hA, hB, hC, hw⟩ := hw
    refine xw_iaload (t := 0) rfl d_M_votes_36 hA hB hC ?_
    refine xw_icmp_gt (tgt := 76) d_M_votes_37 (by decide) (fun c9 => ?_) (fun c9 => ?_)
    · have hw := hw.1 c9
      exact p_M_votes_76  (l0) (l1) (l2) (l3) (s0) h hw
    · have hw := hw.2 c9
      refine xw_goto (tgt := 53) d_M_votes_40 (by decide) ?_
      exact p_M_votes_53  (l0) (l1) (l2) (l3) (s0) h hw
set_option maxRecDepth 100000 in
def w_M_votes (Q : Option Value → xH → Prop) (this : Nat) (p1 : Int32) (p2 : Int32) (h : xH) : Prop := ∃ (f1 : List Value) (a2 : Nat), h.2 this = some (.inr (8, f1)) ∧ f1[35]? = some (.ref a2) ∧ ∃ (ar9 : List Int32) (x3 : Int32), h.2 a2 = some (.inl (0, .inl ar9)) ∧ 0 ≤ (6 : Int32) ∧ ar9[(6 : Int32).toNatClampNeg]? = some x3 ∧ ∃ (f4 : List Value) (a5 : Nat), h.2 this = some (.inr (8, f4)) ∧ f4[35]? = some (.ref a5) ∧ ∃ (ar8 : List Int32) (x6 : Int32), h.2 a5 = some (.inl (0, .inl ar8)) ∧ 0 ≤ (0 : Int32) ∧ ar8[(0 : Int32).toNatClampNeg]? = some x6 ∧ ((¬ x6 = 5 → w_M_votes_23 Q (this) (p1) (p2) (x3) (0) h) ∧ (x6 = 5 → w_M_votes_23 Q (this) (p1) (p2) (x3) (1) h))
set_option maxRecDepth 100000 in
set_option maxHeartbeats 4000000 in
theorem x_M_votes {sc : List Int32} {Q : Option Value → xH → Prop} {this : Nat} {p1 : Int32} {p2 : Int32} {h : xH} (hw : w_M_votes Q this p1 p2 h) : xMet sc m_M_votes 3 0 0 [.ref (this), .int (p1), .int (p2)] h Q := by
  unfold w_M_votes at hw
  refine xMet.of2 cw_M_votes rfl rfl ?_
  show xW sc m_M_votes 3 0 0 0 [some (.ref (this)), some (.int (p1)), some (.int (p2)), none, none] [] h Q
  refine xw_aload_n d_M_votes_0 rfl rfl ?_
  obtain ⟨f1, a2, hA, hB, hw⟩ := hw
  refine xw_getr fr_M_100 d_M_votes_1 hA hB ?_
  refine xw_bipush (v := 6) d_M_votes_4 (by decide) ?_
  obtain ⟨ar9, x3, hA, hB, hC, hw⟩ := hw
  refine xw_iaload (t := 0) rfl d_M_votes_6 hA hB hC ?_
  refine xs_istore_n (lv' := [some (.ref (this)), some (.int (p1)), some (.int (p2)), some (.int (x3)), none]) d_M_votes_7 rfl rfl rfl ?_
  refine xw_aload_n d_M_votes_8 rfl rfl ?_
  obtain ⟨f4, a5, hA, hB, hw⟩ := hw
  refine xw_getr fr_M_100 d_M_votes_9 hA hB ?_
  refine xw_iconst (v := 0) d_M_votes_12 (by decide) ?_
  obtain ⟨ar8, x6, hA, hB, hC, hw⟩ := hw
  refine xw_iaload (t := 0) rfl d_M_votes_13 hA hB hC ?_
  refine xw_iconst (v := 5) d_M_votes_14 (by decide) ?_
  refine xw_icmp_ne (tgt := 22) d_M_votes_15 (by decide) (fun c7 => ?_) (fun c7 => ?_)
  · have hw := hw.1 c7
    refine xw_iconst (v := 0) d_M_votes_22 (by decide) ?_
    exact p_M_votes_23  (this) (p1) (p2) (x3) (0) h hw
  · have hw := hw.2 c7
    refine xw_iconst (v := 1) d_M_votes_18 (by decide) ?_
    refine xw_goto (tgt := 23) d_M_votes_19 (by decide) ?_
    exact p_M_votes_23  (this) (p1) (p2) (x3) (1) h hw
set_option maxRecDepth 100000 in
def w_M_isFree (Q : Option Value → xH → Prop) (this : Nat) (p1 : Int32) (h : xH) : Prop := w_M_isNode (fun v h1 => ∃ (x2 : Int32), v = some (.int x2) ∧ ((x2 = 0 → (narrow .boolean (.int 0) = .int 0 ∧ Q (some (.int 0)) h1)) ∧ (¬ x2 = 0 → (∃ f4, h1.2 this = some (.inr (8, f4))) ∧ w_M_isUp (fun v h3 => ∃ (x5 : Int32), v = some (.int x5) ∧ ((x5 = 0 → (narrow .boolean (.int 0) = .int 0 ∧ Q (some (.int 0)) h3)) ∧ (¬ x5 = 0 → (∃ f7, h3.2 this = some (.inr (8, f7))) ∧ w_M_greatest (fun v h6 => ∃ (x8 : Int32), v = some (.int x8) ∧ ((x8 < 0 → (narrow .boolean (.int 0) = .int 0 ∧ Q (some (.int 0)) h6)) ∧ (¬ x8 < 0 → ∃ (f9 : List Value) (a10 : Nat), h6.2 this = some (.inr (8, f9)) ∧ f9[17]? = some (.ref a10) ∧ ∃ (ar13 : List Int32) (x11 : Int32), h6.2 a10 = some (.inl (0, .inl ar13)) ∧ 0 ≤ p1 ∧ ar13[p1.toNatClampNeg]? = some x11 ∧ ((¬ x11 = 0 → (narrow .boolean (.int 0) = .int 0 ∧ Q (some (.int 0)) h6)) ∧ (x11 = 0 → (narrow .boolean (.int 1) = .int 1 ∧ Q (some (.int 1)) h6)))))) this p1 h3))) this p1 h1))) p1 h
set_option maxRecDepth 100000 in
set_option maxHeartbeats 4000000 in
theorem x_M_isFree {sc : List Int32} {Q : Option Value → xH → Prop} {this : Nat} {p1 : Int32} {h : xH} (hw : w_M_isFree Q this p1 h) : xMet sc m_M_isFree 2 0 0 [.ref (this), .int (p1)] h Q := by
  unfold w_M_isFree at hw
  refine xMet.of2 cw_M_isFree rfl rfl ?_
  show xW sc m_M_isFree 2 0 0 0 [some (.ref (this)), some (.int (p1))] [] h Q
  refine xw_iload_n d_M_isFree_0 rfl rfl ?_
  refine xc_S1i lk_M_245 st_M_isNode d_M_isFree_1 (x_M_isNode hw) rfl rfl ?_
  intro x2 h1 hw
  refine xw_if_eq (tgt := 36) d_M_isFree_4 (by decide) (fun c16 => ?_) (fun c16 => ?_)
  · have hw := hw.1 c16
    refine xw_iconst (v := 0) d_M_isFree_36 (by decide) ?_
    exact xw_zreturn rfl hw.1 d_M_isFree_37 hw.2
  · have hw := hw.2 c16
    refine xw_aload_n d_M_isFree_7 rfl rfl ?_
    refine xw_iload_n d_M_isFree_8 rfl rfl ?_
    obtain ⟨⟨f4, hA⟩, hw⟩ := hw
    refine xc_V1i lk_M_111 in_M_isUp d_M_isFree_9 (x_M_isUp hw) rfl hA rfl ?_
    intro x5 h3 hw
    refine xw_if_eq (tgt := 36) d_M_isFree_12 (by decide) (fun c15 => ?_) (fun c15 => ?_)
    · have hw := hw.1 c15
      refine xw_iconst (v := 0) d_M_isFree_36 (by decide) ?_
      exact xw_zreturn rfl hw.1 d_M_isFree_37 hw.2
    · have hw := hw.2 c15
      refine xw_aload_n d_M_isFree_15 rfl rfl ?_
      refine xw_iload_n d_M_isFree_16 rfl rfl ?_
      obtain ⟨⟨f7, hA⟩, hw⟩ := hw
      refine xc_V1i lk_M_233 in_M_greatest d_M_isFree_17 (x_M_greatest hw) rfl hA rfl ?_
      intro x8 h6 hw
      refine xw_if_lt (tgt := 36) d_M_isFree_20 (by decide) (fun c14 => ?_) (fun c14 => ?_)
      · have hw := hw.1 c14
        refine xw_iconst (v := 0) d_M_isFree_36 (by decide) ?_
        exact xw_zreturn rfl hw.1 d_M_isFree_37 hw.2
      · have hw := hw.2 c14
        refine xw_aload_n d_M_isFree_23 rfl rfl ?_
        obtain ⟨f9, a10, hA, hB, hw⟩ := hw
        refine xw_getr fr_M_55 d_M_isFree_24 hA hB ?_
        refine xw_iload_n d_M_isFree_27 rfl rfl ?_
        obtain ⟨ar13, x11, hA, hB, hC, hw⟩ := hw
        refine xw_iaload (t := 0) rfl d_M_isFree_28 hA hB hC ?_
        refine xw_if_ne (tgt := 36) d_M_isFree_29 (by decide) (fun c12 => ?_) (fun c12 => ?_)
        · have hw := hw.1 c12
          refine xw_iconst (v := 0) d_M_isFree_36 (by decide) ?_
          exact xw_zreturn rfl hw.1 d_M_isFree_37 hw.2
        · have hw := hw.2 c12
          refine xw_iconst (v := 1) d_M_isFree_32 (by decide) ?_
          refine xw_goto (tgt := 37) d_M_isFree_33 (by decide) ?_
          exact xw_zreturn rfl hw.1 d_M_isFree_37 hw.2
set_option maxRecDepth 100000 in
def w_M_gossip (Q : Option Value → xH → Prop) (this : Nat) (p1 : Int32) (p2 : Int32) (h : xH) : Prop := ∃ f1, h.2 this = some (.inr (8, f1)) ∧ 0 < f1.length ∧ ∀ h2, h2 = xu h this (.inr (8, f1.set 0 (.int (0)))) → w_M_isNode (fun v h3 => ∃ (x4 : Int32), v = some (.int x4) ∧ ((x4 = 0 → (narrow .boolean (.int 0) = .int 0 ∧ Q (some (.int 0)) h3)) ∧ (¬ x4 = 0 → w_M_isNode (fun v h5 => ∃ (x6 : Int32), v = some (.int x6) ∧ ((x6 = 0 → (narrow .boolean (.int 0) = .int 0 ∧ Q (some (.int 0)) h5)) ∧ (¬ x6 = 0 → ((p1 = p2 → (narrow .boolean (.int 0) = .int 0 ∧ Q (some (.int 0)) h5)) ∧ (¬ p1 = p2 → (∃ f8, h5.2 this = some (.inr (8, f8))) ∧ w_M_isUp (fun v h7 => ∃ (x9 : Int32), v = some (.int x9) ∧ ((x9 = 0 → (narrow .boolean (.int 0) = .int 0 ∧ Q (some (.int 0)) h7)) ∧ (¬ x9 = 0 → (∃ f11, h7.2 this = some (.inr (8, f11))) ∧ w_M_greatest (fun v h10 => ∃ (x12 : Int32), v = some (.int x12) ∧ ((0 ≤ x12 → (∃ f14, h10.2 this = some (.inr (8, f14))) ∧ w_M_send (fun v h13 => v = none ∧ (narrow .boolean (.int 1) = .int 1 ∧ Q (some (.int 1)) h13)) this 14 p1 p2 0 0 0 0 0 0 1 0 h10) ∧ (¬ 0 ≤ x12 → (narrow .boolean (.int 0) = .int 0 ∧ Q (some (.int 0)) h10)))) this p1 h7))) this p1 h5))))) p2 h3))) p1 h2
set_option maxRecDepth 100000 in
set_option maxHeartbeats 4000000 in
theorem x_M_gossip {sc : List Int32} {Q : Option Value → xH → Prop} {this : Nat} {p1 : Int32} {p2 : Int32} {h : xH} (hw : w_M_gossip Q this p1 p2 h) : xMet sc m_M_gossip 2 0 0 [.ref (this), .int (p1), .int (p2)] h Q := by
  unfold w_M_gossip at hw
  refine xMet.of2 cw_M_gossip rfl rfl ?_
  show xW sc m_M_gossip 2 0 0 0 [some (.ref (this)), some (.int (p1)), some (.int (p2))] [] h Q
  refine xw_aload_n d_M_gossip_0 rfl rfl ?_
  refine xw_iconst (v := 0) d_M_gossip_1 (by decide) ?_
  obtain ⟨f1, hA, hB, hw⟩ := hw
  refine xw_puti fs_M_103 d_M_gossip_2 hA hB ?_
  generalize hh : xu h this (.inr (8, f1.set 0 (.int (0)))) = h2
  have hw := hw h2 hh.symm
  refine xw_iload_n d_M_gossip_5 rfl rfl ?_
  refine xc_S1i lk_M_245 st_M_isNode d_M_gossip_6 (x_M_isNode hw) rfl rfl ?_
  intro x4 h3 hw
  refine xw_if_eq (tgt := 40) d_M_gossip_9 (by decide) (fun c19 => ?_) (fun c19 => ?_)
  · have hw := hw.1 c19
    refine xw_iconst (v := 0) d_M_gossip_40 (by decide) ?_
    exact xw_zreturn rfl hw.1 d_M_gossip_41 hw.2
  · have hw := hw.2 c19
    refine xw_iload_n d_M_gossip_12 rfl rfl ?_
    refine xc_S1i lk_M_245 st_M_isNode d_M_gossip_13 (x_M_isNode hw) rfl rfl ?_
    intro x6 h5 hw
    refine xw_if_eq (tgt := 40) d_M_gossip_16 (by decide) (fun c18 => ?_) (fun c18 => ?_)
    · have hw := hw.1 c18
      refine xw_iconst (v := 0) d_M_gossip_40 (by decide) ?_
      exact xw_zreturn rfl hw.1 d_M_gossip_41 hw.2
    · have hw := hw.2 c18
      refine xw_iload_n d_M_gossip_19 rfl rfl ?_
      refine xw_iload_n d_M_gossip_20 rfl rfl ?_
      refine xw_icmp_eq (tgt := 40) d_M_gossip_21 (by decide) (fun c17 => ?_) (fun c17 => ?_)
      · have hw := hw.1 c17
        refine xw_iconst (v := 0) d_M_gossip_40 (by decide) ?_
        exact xw_zreturn rfl hw.1 d_M_gossip_41 hw.2
      · have hw := hw.2 c17
        refine xw_aload_n d_M_gossip_24 rfl rfl ?_
        refine xw_iload_n d_M_gossip_25 rfl rfl ?_
        obtain ⟨⟨f8, hA⟩, hw⟩ := hw
        refine xc_V1i lk_M_111 in_M_isUp d_M_gossip_26 (x_M_isUp hw) rfl hA rfl ?_
        intro x9 h7 hw
        refine xw_if_eq (tgt := 40) d_M_gossip_29 (by decide) (fun c16 => ?_) (fun c16 => ?_)
        · have hw := hw.1 c16
          refine xw_iconst (v := 0) d_M_gossip_40 (by decide) ?_
          exact xw_zreturn rfl hw.1 d_M_gossip_41 hw.2
        · have hw := hw.2 c16
          refine xw_aload_n d_M_gossip_32 rfl rfl ?_
          refine xw_iload_n d_M_gossip_33 rfl rfl ?_
          obtain ⟨⟨f11, hA⟩, hw⟩ := hw
          refine xc_V1i lk_M_233 in_M_greatest d_M_gossip_34 (x_M_greatest hw) rfl hA rfl ?_
          intro x12 h10 hw
          refine xw_if_ge (tgt := 42) d_M_gossip_37 (by decide) (fun c15 => ?_) (fun c15 => ?_)
          · have hw := hw.1 c15
            refine xw_aload_n d_M_gossip_42 rfl rfl ?_
            refine xw_bipush (v := 14) d_M_gossip_43 (by decide) ?_
            refine xw_iload_n d_M_gossip_45 rfl rfl ?_
            refine xw_iload_n d_M_gossip_46 rfl rfl ?_
            refine xw_iconst (v := 0) d_M_gossip_47 (by decide) ?_
            refine xw_iconst (v := 0) d_M_gossip_48 (by decide) ?_
            refine xw_iconst (v := 0) d_M_gossip_49 (by decide) ?_
            refine xw_iconst (v := 0) d_M_gossip_50 (by decide) ?_
            refine xw_iconst (v := 0) d_M_gossip_51 (by decide) ?_
            refine xw_iconst (v := 0) d_M_gossip_52 (by decide) ?_
            refine xw_iconst (v := 1) d_M_gossip_53 (by decide) ?_
            refine xw_iconst (v := 0) d_M_gossip_54 (by decide) ?_
            obtain ⟨⟨f14, hA⟩, hw⟩ := hw
            refine xc_V11n lk_M_138 in_M_send d_M_gossip_55 (x_M_send hw) rfl hA rfl ?_
            intro h13 hw
            refine xw_iconst (v := 1) d_M_gossip_58 (by decide) ?_
            exact xw_zreturn rfl hw.1 d_M_gossip_59 hw.2
          · have hw := hw.2 c15
            refine xw_iconst (v := 0) d_M_gossip_40 (by decide) ?_
            exact xw_zreturn rfl hw.1 d_M_gossip_41 hw.2
set_option maxRecDepth 100000 in
def w_M_join_52 (Q : Option Value → xH → Prop) (l0 : Nat) (l1 : Int32) (l2 : Int32) (h : xH) : Prop := ∃ (f1 : List Value) (a2 : Nat), h.2 l0 = some (.inr (8, f1)) ∧ f1[1]? = some (.ref a2) ∧ ∃ ar3, h.2 a2 = some (.inl (0, .inl ar3)) ∧ 0 ≤ l1 ∧ l1.toNatClampNeg < ar3.length ∧ ∀ h4, h4 = xu h a2 (.inl (0, .inl (ar3.set l1.toNatClampNeg 1))) → (∃ f6, h4.2 l0 = some (.inr (8, f6))) ∧ w_M_send (fun v h5 => v = none ∧ (narrow .boolean (.int 1) = .int 1 ∧ Q (some (.int 1)) h5)) l0 15 l1 l2 0 0 0 0 0 0 0 0 h4
set_option maxRecDepth 100000 in
set_option maxHeartbeats 4000000 in
theorem p_M_join_52 {sc : List Int32} {Q : Option Value → xH → Prop} (l0 : Nat) (l1 : Int32) (l2 : Int32) (h : xH) (hw : w_M_join_52 Q l0 l1 l2 h) : xW sc m_M_join 2 0 0 52 [some (.ref (l0)), some (.int (l1)), some (.int (l2))] [] h Q := by
  unfold w_M_join_52 at hw
  refine xw_aload_n d_M_join_52 rfl rfl ?_
  obtain ⟨f1, a2, hA, hB, hw⟩ := hw
  refine xw_getr fr_M_9 d_M_join_53 hA hB ?_
  refine xw_iload_n d_M_join_56 rfl rfl ?_
  refine xw_iconst (v := 1) d_M_join_57 (by decide) ?_
  obtain ⟨ar3, hA, hB, hC, hw⟩ := hw
  refine xw_iastore (t := 0) rfl d_M_join_58 hA hB hC ?_
  generalize hh : xu h a2 (.inl (0, .inl (ar3.set l1.toNatClampNeg 1))) = h4
  have hw := hw h4 hh.symm
  refine xw_aload_n d_M_join_59 rfl rfl ?_
  refine xw_bipush (v := 15) d_M_join_60 (by decide) ?_
  refine xw_iload_n d_M_join_62 rfl rfl ?_
  refine xw_iload_n d_M_join_63 rfl rfl ?_
  refine xw_iconst (v := 0) d_M_join_64 (by decide) ?_
  refine xw_iconst (v := 0) d_M_join_65 (by decide) ?_
  refine xw_iconst (v := 0) d_M_join_66 (by decide) ?_
  refine xw_iconst (v := 0) d_M_join_67 (by decide) ?_
  refine xw_iconst (v := 0) d_M_join_68 (by decide) ?_
  refine xw_iconst (v := 0) d_M_join_69 (by decide) ?_
  refine xw_iconst (v := 0) d_M_join_70 (by decide) ?_
  refine xw_iconst (v := 0) d_M_join_71 (by decide) ?_
  obtain ⟨⟨f6, hA⟩, hw⟩ := hw
  refine xc_V11n lk_M_138 in_M_send d_M_join_72 (x_M_send hw) rfl hA rfl ?_
  intro h5 hw
  refine xw_iconst (v := 1) d_M_join_75 (by decide) ?_
  exact xw_zreturn rfl hw.1 d_M_join_76 hw.2
set_option maxRecDepth 100000 in
def w_M_join (Q : Option Value → xH → Prop) (this : Nat) (p1 : Int32) (p2 : Int32) (h : xH) : Prop := ∃ f1, h.2 this = some (.inr (8, f1)) ∧ 0 < f1.length ∧ ∀ h2, h2 = xu h this (.inr (8, f1.set 0 (.int (0)))) → w_M_isNode (fun v h3 => ∃ (x4 : Int32), v = some (.int x4) ∧ ((x4 = 0 → (narrow .boolean (.int 0) = .int 0 ∧ Q (some (.int 0)) h3)) ∧ (¬ x4 = 0 → w_M_isNode (fun v h5 => ∃ (x6 : Int32), v = some (.int x6) ∧ ((x6 = 0 → (narrow .boolean (.int 0) = .int 0 ∧ Q (some (.int 0)) h5)) ∧ (¬ x6 = 0 → ((p1 = p2 → (narrow .boolean (.int 0) = .int 0 ∧ Q (some (.int 0)) h5)) ∧ (¬ p1 = p2 → ∃ (f7 : List Value) (a8 : Nat), h5.2 this = some (.inr (8, f7)) ∧ f7[1]? = some (.ref a8) ∧ ∃ (ar19 : List Int32) (x9 : Int32), h5.2 a8 = some (.inl (0, .inl ar19)) ∧ 0 ≤ p1 ∧ ar19[p1.toNatClampNeg]? = some x9 ∧ ((x9 = 2 → (narrow .boolean (.int 0) = .int 0 ∧ Q (some (.int 0)) h5)) ∧ (¬ x9 = 2 → (∃ f11, h5.2 this = some (.inr (8, f11))) ∧ w_M_isUp (fun v h10 => ∃ (x12 : Int32), v = some (.int x12) ∧ ((x12 = 0 → w_M_join_52 Q (this) (p1) (p2) h10) ∧ (¬ x12 = 0 → (∃ f14, h10.2 this = some (.inr (8, f14))) ∧ w_M_greatest (fun v h13 => ∃ (x15 : Int32), v = some (.int x15) ∧ ((x15 < 0 → w_M_join_52 Q (this) (p1) (p2) h13) ∧ (¬ x15 < 0 → (narrow .boolean (.int 0) = .int 0 ∧ Q (some (.int 0)) h13)))) this p1 h10))) this p1 h5))))))) p2 h3))) p1 h2
set_option maxRecDepth 100000 in
set_option maxHeartbeats 4000000 in
theorem x_M_join {sc : List Int32} {Q : Option Value → xH → Prop} {this : Nat} {p1 : Int32} {p2 : Int32} {h : xH} (hw : w_M_join Q this p1 p2 h) : xMet sc m_M_join 2 0 0 [.ref (this), .int (p1), .int (p2)] h Q := by
  unfold w_M_join at hw
  refine xMet.of2 cw_M_join rfl rfl ?_
  show xW sc m_M_join 2 0 0 0 [some (.ref (this)), some (.int (p1)), some (.int (p2))] [] h Q
  refine xw_aload_n d_M_join_0 rfl rfl ?_
  refine xw_iconst (v := 0) d_M_join_1 (by decide) ?_
  obtain ⟨f1, hA, hB, hw⟩ := hw
  refine xw_puti fs_M_103 d_M_join_2 hA hB ?_
  generalize hh : xu h this (.inr (8, f1.set 0 (.int (0)))) = h2
  have hw := hw h2 hh.symm
  refine xw_iload_n d_M_join_5 rfl rfl ?_
  refine xc_S1i lk_M_245 st_M_isNode d_M_join_6 (x_M_isNode hw) rfl rfl ?_
  intro x4 h3 hw
  refine xw_if_eq (tgt := 50) d_M_join_9 (by decide) (fun c22 => ?_) (fun c22 => ?_)
  · have hw := hw.1 c22
    refine xw_iconst (v := 0) d_M_join_50 (by decide) ?_
    exact xw_zreturn rfl hw.1 d_M_join_51 hw.2
  · have hw := hw.2 c22
    refine xw_iload_n d_M_join_12 rfl rfl ?_
    refine xc_S1i lk_M_245 st_M_isNode d_M_join_13 (x_M_isNode hw) rfl rfl ?_
    intro x6 h5 hw
    refine xw_if_eq (tgt := 50) d_M_join_16 (by decide) (fun c21 => ?_) (fun c21 => ?_)
    · have hw := hw.1 c21
      refine xw_iconst (v := 0) d_M_join_50 (by decide) ?_
      exact xw_zreturn rfl hw.1 d_M_join_51 hw.2
    · have hw := hw.2 c21
      refine xw_iload_n d_M_join_19 rfl rfl ?_
      refine xw_iload_n d_M_join_20 rfl rfl ?_
      refine xw_icmp_eq (tgt := 50) d_M_join_21 (by decide) (fun c20 => ?_) (fun c20 => ?_)
      · have hw := hw.1 c20
        refine xw_iconst (v := 0) d_M_join_50 (by decide) ?_
        exact xw_zreturn rfl hw.1 d_M_join_51 hw.2
      · have hw := hw.2 c20
        refine xw_aload_n d_M_join_24 rfl rfl ?_
        obtain ⟨f7, a8, hA, hB, hw⟩ := hw
        refine xw_getr fr_M_9 d_M_join_25 hA hB ?_
        refine xw_iload_n d_M_join_28 rfl rfl ?_
        obtain ⟨ar19, x9, hA, hB, hC, hw⟩ := hw
        refine xw_iaload (t := 0) rfl d_M_join_29 hA hB hC ?_
        refine xw_iconst (v := 2) d_M_join_30 (by decide) ?_
        refine xw_icmp_eq (tgt := 50) d_M_join_31 (by decide) (fun c18 => ?_) (fun c18 => ?_)
        · have hw := hw.1 c18
          refine xw_iconst (v := 0) d_M_join_50 (by decide) ?_
          exact xw_zreturn rfl hw.1 d_M_join_51 hw.2
        · have hw := hw.2 c18
          refine xw_aload_n d_M_join_34 rfl rfl ?_
          refine xw_iload_n d_M_join_35 rfl rfl ?_
          obtain ⟨⟨f11, hA⟩, hw⟩ := hw
          refine xc_V1i lk_M_111 in_M_isUp d_M_join_36 (x_M_isUp hw) rfl hA rfl ?_
          intro x12 h10 hw
          refine xw_if_eq (tgt := 52) d_M_join_39 (by decide) (fun c17 => ?_) (fun c17 => ?_)
          · have hw := hw.1 c17
            exact p_M_join_52  (this) (p1) (p2) h10 hw
          · have hw := hw.2 c17
            refine xw_aload_n d_M_join_42 rfl rfl ?_
            refine xw_iload_n d_M_join_43 rfl rfl ?_
            obtain ⟨⟨f14, hA⟩, hw⟩ := hw
            refine xc_V1i lk_M_233 in_M_greatest d_M_join_44 (x_M_greatest hw) rfl hA rfl ?_
            intro x15 h13 hw
            refine xw_if_lt (tgt := 52) d_M_join_47 (by decide) (fun c16 => ?_) (fun c16 => ?_)
            · have hw := hw.1 c16
              exact p_M_join_52  (this) (p1) (p2) h13 hw
            · have hw := hw.2 c16
              refine xw_iconst (v := 0) d_M_join_50 (by decide) ?_
              exact xw_zreturn rfl hw.1 d_M_join_51 hw.2
set_option maxRecDepth 100000 in
def w_M_lose (Q : Option Value → xH → Prop) (this : Nat) (p1 : Int32) (h : xH) : Prop := ∃ f1, h.2 this = some (.inr (8, f1)) ∧ 0 < f1.length ∧ ∀ h2, h2 = xu h this (.inr (8, f1.set 0 (.int (0)))) → ∃ (f3 : List Value) (x4 : Int32), h2.2 this = some (.inr (8, f3)) ∧ f3[31]? = some (.int x4) ∧ w_M_in (fun v h5 => ∃ (x6 : Int32), v = some (.int x6) ∧ ((¬ x6 = 0 → (∃ f8, h5.2 this = some (.inr (8, f8))) ∧ w_M_remove (fun v h7 => v = none ∧ (narrow .boolean (.int 1) = .int 1 ∧ Q (some (.int 1)) h7)) this p1 h5) ∧ (x6 = 0 → (narrow .boolean (.int 0) = .int 0 ∧ Q (some (.int 0)) h5)))) p1 0 (x4 - 1) h2
set_option maxRecDepth 100000 in
set_option maxHeartbeats 4000000 in
theorem x_M_lose {sc : List Int32} {Q : Option Value → xH → Prop} {this : Nat} {p1 : Int32} {h : xH} (hw : w_M_lose Q this p1 h) : xMet sc m_M_lose 1 0 0 [.ref (this), .int (p1)] h Q := by
  unfold w_M_lose at hw
  refine xMet.of2 cw_M_lose rfl rfl ?_
  show xW sc m_M_lose 1 0 0 0 [some (.ref (this)), some (.int (p1))] [] h Q
  refine xw_aload_n d_M_lose_0 rfl rfl ?_
  refine xw_iconst (v := 0) d_M_lose_1 (by decide) ?_
  obtain ⟨f1, hA, hB, hw⟩ := hw
  refine xw_puti fs_M_103 d_M_lose_2 hA hB ?_
  generalize hh : xu h this (.inr (8, f1.set 0 (.int (0)))) = h2
  have hw := hw h2 hh.symm
  refine xw_iload_n d_M_lose_5 rfl rfl ?_
  refine xw_iconst (v := 0) d_M_lose_6 (by decide) ?_
  refine xw_aload_n d_M_lose_7 rfl rfl ?_
  obtain ⟨f3, x4, hA, hB, hw⟩ := hw
  refine xw_getr fr_M_129 d_M_lose_8 hA hB ?_
  refine xw_iconst (v := 1) d_M_lose_11 (by decide) ?_
  refine xw_isub d_M_lose_12 ?_
  refine xc_S3i lk_M_107 st_M_in d_M_lose_13 (x_M_in hw) rfl rfl ?_
  intro x6 h5 hw
  refine xw_if_ne (tgt := 21) d_M_lose_16 (by decide) (fun c9 => ?_) (fun c9 => ?_)
  · have hw := hw.1 c9
    refine xw_aload_n d_M_lose_21 rfl rfl ?_
    refine xw_iload_n d_M_lose_22 rfl rfl ?_
    obtain ⟨⟨f8, hA⟩, hw⟩ := hw
    refine xc_V1n lk_M_261 in_M_remove d_M_lose_23 (x_M_remove hw) rfl hA rfl ?_
    intro h7 hw
    refine xw_iconst (v := 1) d_M_lose_26 (by decide) ?_
    exact xw_zreturn rfl hw.1 d_M_lose_27 hw.2
  · have hw := hw.2 c9
    refine xw_iconst (v := 0) d_M_lose_19 (by decide) ?_
    exact xw_zreturn rfl hw.1 d_M_lose_20 hw.2
set_option maxRecDepth 100000 in
def w_M_twice_32 (Q : Option Value → xH → Prop) : Nat → Nat → Int32 → Int32 → xH → Prop
  | 0, _, _, _, _ => False
  | n + 1, l0, l1, l2, h => ((53 ≤ l2 → ∃ (f1 : List Value) (x2 : Int32), h.2 l0 = some (.inr (8, f1)) ∧ f1[31]? = some (.int x2) ∧ ∃ f3, h.2 l0 = some (.inr (8, f3)) ∧ 31 < f3.length ∧ ∀ h4, h4 = xu h l0 (.inr (8, f3.set 31 (.int (x2 + 1)))) → (narrow .boolean (.int 1) = .int 1 ∧ Q (some (.int 1)) h4)) ∧ (¬ 53 ≤ l2 → ∃ (f5 : List Value) (a6 : Nat), h.2 l0 = some (.inr (8, f5)) ∧ f5[32]? = some (.ref a6) ∧ ∃ (f7 : List Value) (x8 : Int32), h.2 l0 = some (.inr (8, f7)) ∧ f7[31]? = some (.int x8) ∧ ∃ (f9 : List Value) (a10 : Nat), h.2 l0 = some (.inr (8, f9)) ∧ f9[32]? = some (.ref a10) ∧ ∃ (ar14 : List Int32) (x11 : Int32), h.2 a10 = some (.inl (0, .inl ar14)) ∧ 0 ≤ ((53 * l1) + l2 : Int32) ∧ ar14[((53 * l1) + l2 : Int32).toNatClampNeg]? = some x11 ∧ ∃ ar12, h.2 a6 = some (.inl (0, .inl ar12)) ∧ 0 ≤ ((53 * x8) + l2 : Int32) ∧ ((53 * x8) + l2 : Int32).toNatClampNeg < ar12.length ∧ ∀ h13, h13 = xu h a6 (.inl (0, .inl (ar12.set ((53 * x8) + l2 : Int32).toNatClampNeg x11))) → w_M_twice_32 Q n (l0) (l1) (l2 + 1) h13))
set_option maxRecDepth 100000 in
set_option maxHeartbeats 4000000 in
theorem p_M_twice_32 {sc : List Int32} {Q : Option Value → xH → Prop} : ∀ (n : Nat) (l0 : Nat) (l1 : Int32) (l2 : Int32) (h : xH), w_M_twice_32 Q n l0 l1 l2 h → xW sc m_M_twice 1 0 0 32 [some (.ref (l0)), some (.int (l1)), some (.int (l2))] [] h Q := by
  intro n
  induction n with
  | zero => intro l0 l1 l2 h hw; exact False.elim hw
  | succ n ih =>
    intro l0 l1 l2 h hw
    rw [w_M_twice_32] at hw
    refine xw_iload_n d_M_twice_32 rfl rfl ?_
    refine xw_bipush (v := 53) d_M_twice_33 (by decide) ?_
    refine xw_icmp_ge (tgt := 69) d_M_twice_35 (by decide) (fun c15 => ?_) (fun c15 => ?_)
    · have hw := hw.1 c15
      refine xw_aload_n d_M_twice_69 rfl rfl ?_
      refine xw_dup d_M_twice_70 rfl ?_
      obtain ⟨f1, x2, hA, hB, hw⟩ := hw
      refine xw_getr fr_M_129 d_M_twice_71 hA hB ?_
      refine xw_iconst (v := 1) d_M_twice_74 (by decide) ?_
      refine xw_iadd d_M_twice_75 ?_
      obtain ⟨f3, hA, hB, hw⟩ := hw
      refine xw_puti fs_M_129 d_M_twice_76 hA hB ?_
      generalize hh : xu h l0 (.inr (8, f3.set 31 (.int (x2 + 1)))) = h4
      have hw := hw h4 hh.symm
      refine xw_iconst (v := 1) d_M_twice_79 (by decide) ?_
      exact xw_zreturn rfl hw.1 d_M_twice_80 hw.2
    · have hw := hw.2 c15
      refine xw_aload_n d_M_twice_38 rfl rfl ?_
      obtain ⟨f5, a6, hA, hB, hw⟩ := hw
      refine xw_getr fr_M_97 d_M_twice_39 hA hB ?_
      refine xw_bipush (v := 53) d_M_twice_42 (by decide) ?_
      refine xw_aload_n d_M_twice_44 rfl rfl ?_
      obtain ⟨f7, x8, hA, hB, hw⟩ := hw
      refine xw_getr fr_M_129 d_M_twice_45 hA hB ?_
      refine xw_imul d_M_twice_48 ?_
      refine xw_iload_n d_M_twice_49 rfl rfl ?_
      refine xw_iadd d_M_twice_50 ?_
      refine xw_aload_n d_M_twice_51 rfl rfl ?_
      obtain ⟨f9, a10, hA, hB, hw⟩ := hw
      refine xw_getr fr_M_97 d_M_twice_52 hA hB ?_
      refine xw_bipush (v := 53) d_M_twice_55 (by decide) ?_
      refine xw_iload_n d_M_twice_57 rfl rfl ?_
      refine xw_imul d_M_twice_58 ?_
      refine xw_iload_n d_M_twice_59 rfl rfl ?_
      refine xw_iadd d_M_twice_60 ?_
      obtain ⟨ar14, x11, hA, hB, hC, hw⟩ := hw
      refine xw_iaload (t := 0) rfl d_M_twice_61 hA hB hC ?_
      obtain ⟨ar12, hA, hB, hC, hw⟩ := hw
      refine xw_iastore (t := 0) rfl d_M_twice_62 hA hB hC ?_
      generalize hh : xu h a6 (.inl (0, .inl (ar12.set ((53 * x8) + l2 : Int32).toNatClampNeg x11))) = h13
      have hw := hw h13 hh.symm
      refine xs_iinc (v := l2 + 1) (lv' := [some (.ref (l0)), some (.int (l1)), some (.int (l2 + 1))]) d_M_twice_63 rfl rfl rfl ?_
      refine xw_goto (tgt := 32) d_M_twice_66 (by decide) ?_
      exact ih (l0) (l1) (l2 + 1) h13 hw
set_option maxRecDepth 100000 in
def w_M_twice (Q : Option Value → xH → Prop) (this : Nat) (p1 : Int32) (h : xH) : Prop := ∃ f1, h.2 this = some (.inr (8, f1)) ∧ 0 < f1.length ∧ ∀ h2, h2 = xu h this (.inr (8, f1.set 0 (.int (0)))) → ∃ (f3 : List Value) (x4 : Int32), h2.2 this = some (.inr (8, f3)) ∧ f3[31]? = some (.int x4) ∧ w_M_in (fun v h5 => ∃ (x6 : Int32), v = some (.int x6) ∧ ((x6 = 0 → (narrow .boolean (.int 0) = .int 0 ∧ Q (some (.int 0)) h5)) ∧ (¬ x6 = 0 → ∃ (f7 : List Value) (x8 : Int32), h5.2 this = some (.inr (8, f7)) ∧ f7[31]? = some (.int x8) ∧ ((¬ x8 = 120 → ∃ n9, w_M_twice_32 Q n9 (this) (p1) (0) h5) ∧ (x8 = 120 → (narrow .boolean (.int 0) = .int 0 ∧ Q (some (.int 0)) h5)))))) p1 0 (x4 - 1) h2
set_option maxRecDepth 100000 in
set_option maxHeartbeats 4000000 in
theorem x_M_twice {sc : List Int32} {Q : Option Value → xH → Prop} {this : Nat} {p1 : Int32} {h : xH} (hw : w_M_twice Q this p1 h) : xMet sc m_M_twice 1 0 0 [.ref (this), .int (p1)] h Q := by
  unfold w_M_twice at hw
  refine xMet.of2 cw_M_twice rfl rfl ?_
  show xW sc m_M_twice 1 0 0 0 [some (.ref (this)), some (.int (p1)), none] [] h Q
  refine xw_aload_n d_M_twice_0 rfl rfl ?_
  refine xw_iconst (v := 0) d_M_twice_1 (by decide) ?_
  obtain ⟨f1, hA, hB, hw⟩ := hw
  refine xw_puti fs_M_103 d_M_twice_2 hA hB ?_
  generalize hh : xu h this (.inr (8, f1.set 0 (.int (0)))) = h2
  have hw := hw h2 hh.symm
  refine xw_iload_n d_M_twice_5 rfl rfl ?_
  refine xw_iconst (v := 0) d_M_twice_6 (by decide) ?_
  refine xw_aload_n d_M_twice_7 rfl rfl ?_
  obtain ⟨f3, x4, hA, hB, hw⟩ := hw
  refine xw_getr fr_M_129 d_M_twice_8 hA hB ?_
  refine xw_iconst (v := 1) d_M_twice_11 (by decide) ?_
  refine xw_isub d_M_twice_12 ?_
  refine xc_S3i lk_M_107 st_M_in d_M_twice_13 (x_M_in hw) rfl rfl ?_
  intro x6 h5 hw
  refine xw_if_eq (tgt := 28) d_M_twice_16 (by decide) (fun c11 => ?_) (fun c11 => ?_)
  · have hw := hw.1 c11
    refine xw_iconst (v := 0) d_M_twice_28 (by decide) ?_
    exact xw_zreturn rfl hw.1 d_M_twice_29 hw.2
  · have hw := hw.2 c11
    refine xw_aload_n d_M_twice_19 rfl rfl ?_
    obtain ⟨f7, x8, hA, hB, hw⟩ := hw
    refine xw_getr fr_M_129 d_M_twice_20 hA hB ?_
    refine xw_bipush (v := 120) d_M_twice_23 (by decide) ?_
    refine xw_icmp_ne (tgt := 30) d_M_twice_25 (by decide) (fun c10 => ?_) (fun c10 => ?_)
    · have hw := hw.1 c10
      refine xw_iconst (v := 0) d_M_twice_30 (by decide) ?_
      refine xs_istore_n (lv' := [some (.ref (this)), some (.int (p1)), some (.int (0))]) d_M_twice_31 rfl rfl rfl ?_
      obtain ⟨n9, hw⟩ := hw
      exact p_M_twice_32  n9 (this) (p1) (0) h5 hw
    · have hw := hw.2 c10
      refine xw_iconst (v := 0) d_M_twice_28 (by decide) ?_
      exact xw_zreturn rfl hw.1 d_M_twice_29 hw.2
set_option maxRecDepth 100000 in
def w_M_crash (Q : Option Value → xH → Prop) (this : Nat) (p1 : Int32) (h : xH) : Prop := ∃ f1, h.2 this = some (.inr (8, f1)) ∧ 0 < f1.length ∧ ∀ h2, h2 = xu h this (.inr (8, f1.set 0 (.int (0)))) → w_M_isNode (fun v h3 => ∃ (x4 : Int32), v = some (.int x4) ∧ ((x4 = 0 → (narrow .boolean (.int 0) = .int 0 ∧ Q (some (.int 0)) h3)) ∧ (¬ x4 = 0 → (∃ f6, h3.2 this = some (.inr (8, f6))) ∧ w_M_isUp (fun v h5 => ∃ (x7 : Int32), v = some (.int x7) ∧ ((¬ x7 = 0 → (∃ f9, h5.2 this = some (.inr (8, f9))) ∧ w_M_goesDown (fun v h8 => v = none ∧ (narrow .boolean (.int 1) = .int 1 ∧ Q (some (.int 1)) h8)) this p1 h5) ∧ (x7 = 0 → (narrow .boolean (.int 0) = .int 0 ∧ Q (some (.int 0)) h5)))) this p1 h3))) p1 h2
set_option maxRecDepth 100000 in
set_option maxHeartbeats 4000000 in
theorem x_M_crash {sc : List Int32} {Q : Option Value → xH → Prop} {this : Nat} {p1 : Int32} {h : xH} (hw : w_M_crash Q this p1 h) : xMet sc m_M_crash 2 0 0 [.ref (this), .int (p1)] h Q := by
  unfold w_M_crash at hw
  refine xMet.of2 cw_M_crash rfl rfl ?_
  show xW sc m_M_crash 2 0 0 0 [some (.ref (this)), some (.int (p1))] [] h Q
  refine xw_aload_n d_M_crash_0 rfl rfl ?_
  refine xw_iconst (v := 0) d_M_crash_1 (by decide) ?_
  obtain ⟨f1, hA, hB, hw⟩ := hw
  refine xw_puti fs_M_103 d_M_crash_2 hA hB ?_
  generalize hh : xu h this (.inr (8, f1.set 0 (.int (0)))) = h2
  have hw := hw h2 hh.symm
  refine xw_iload_n d_M_crash_5 rfl rfl ?_
  refine xc_S1i lk_M_245 st_M_isNode d_M_crash_6 (x_M_isNode hw) rfl rfl ?_
  intro x4 h3 hw
  refine xw_if_eq (tgt := 20) d_M_crash_9 (by decide) (fun c11 => ?_) (fun c11 => ?_)
  · have hw := hw.1 c11
    refine xw_iconst (v := 0) d_M_crash_20 (by decide) ?_
    exact xw_zreturn rfl hw.1 d_M_crash_21 hw.2
  · have hw := hw.2 c11
    refine xw_aload_n d_M_crash_12 rfl rfl ?_
    refine xw_iload_n d_M_crash_13 rfl rfl ?_
    obtain ⟨⟨f6, hA⟩, hw⟩ := hw
    refine xc_V1i lk_M_111 in_M_isUp d_M_crash_14 (x_M_isUp hw) rfl hA rfl ?_
    intro x7 h5 hw
    refine xw_if_ne (tgt := 22) d_M_crash_17 (by decide) (fun c10 => ?_) (fun c10 => ?_)
    · have hw := hw.1 c10
      refine xw_aload_n d_M_crash_22 rfl rfl ?_
      refine xw_iload_n d_M_crash_23 rfl rfl ?_
      obtain ⟨⟨f9, hA⟩, hw⟩ := hw
      refine xc_V1n lk_M_115 in_M_goesDown d_M_crash_24 (x_M_goesDown hw) rfl hA rfl ?_
      intro h8 hw
      refine xw_iconst (v := 1) d_M_crash_27 (by decide) ?_
      exact xw_zreturn rfl hw.1 d_M_crash_28 hw.2
    · have hw := hw.2 c10
      refine xw_iconst (v := 0) d_M_crash_20 (by decide) ?_
      exact xw_zreturn rfl hw.1 d_M_crash_21 hw.2
set_option maxRecDepth 100000 in
def w_M_restart (Q : Option Value → xH → Prop) (this : Nat) (p1 : Int32) (h : xH) : Prop := ∃ f1, h.2 this = some (.inr (8, f1)) ∧ 0 < f1.length ∧ ∀ h2, h2 = xu h this (.inr (8, f1.set 0 (.int (0)))) → w_M_isNode (fun v h3 => ∃ (x4 : Int32), v = some (.int x4) ∧ ((x4 = 0 → (narrow .boolean (.int 0) = .int 0 ∧ Q (some (.int 0)) h3)) ∧ (¬ x4 = 0 → ∃ (f5 : List Value) (a6 : Nat), h3.2 this = some (.inr (8, f5)) ∧ f5[1]? = some (.ref a6) ∧ ∃ (ar23 : List Int32) (x7 : Int32), h3.2 a6 = some (.inl (0, .inl ar23)) ∧ 0 ≤ p1 ∧ ar23[p1.toNatClampNeg]? = some x7 ∧ ((x7 = 2 → ∃ (f8 : List Value) (a9 : Nat), h3.2 this = some (.inr (8, f8)) ∧ f8[1]? = some (.ref a9) ∧ ∃ ar10, h3.2 a9 = some (.inl (0, .inl ar10)) ∧ 0 ≤ p1 ∧ p1.toNatClampNeg < ar10.length ∧ ∀ h11, h11 = xu h3 a9 (.inl (0, .inl (ar10.set p1.toNatClampNeg 1))) → ∃ (f12 : List Value) (a13 : Nat), h11.2 this = some (.inr (8, f12)) ∧ f12[2]? = some (.ref a13) ∧ ∃ (ar21 : List Int32) (x14 : Int32), h11.2 a13 = some (.inl (0, .inl ar21)) ∧ 0 ≤ p1 ∧ ar21[p1.toNatClampNeg]? = some x14 ∧ ∃ ar15, h11.2 a13 = some (.inl (0, .inl ar15)) ∧ 0 ≤ p1 ∧ p1.toNatClampNeg < ar15.length ∧ ∀ h16, h16 = xu h11 a13 (.inl (0, .inl (ar15.set p1.toNatClampNeg (x14 + 1)))) → ∃ (f17 : List Value) (x18 : Int32), h16.2 this = some (.inr (8, f17)) ∧ f17[34]? = some (.int x18) ∧ ∃ f19, h16.2 this = some (.inr (8, f19)) ∧ 34 < f19.length ∧ ∀ h20, h20 = xu h16 this (.inr (8, f19.set 34 (.int (x18 + 1)))) → (narrow .boolean (.int 1) = .int 1 ∧ Q (some (.int 1)) h20)) ∧ (¬ x7 = 2 → (narrow .boolean (.int 0) = .int 0 ∧ Q (some (.int 0)) h3)))))) p1 h2
set_option maxRecDepth 100000 in
set_option maxHeartbeats 4000000 in
theorem x_M_restart {sc : List Int32} {Q : Option Value → xH → Prop} {this : Nat} {p1 : Int32} {h : xH} (hw : w_M_restart Q this p1 h) : xMet sc m_M_restart 2 0 0 [.ref (this), .int (p1)] h Q := by
  unfold w_M_restart at hw
  refine xMet.of2 cw_M_restart rfl rfl ?_
  show xW sc m_M_restart 2 0 0 0 [some (.ref (this)), some (.int (p1))] [] h Q
  refine xw_aload_n d_M_restart_0 rfl rfl ?_
  refine xw_iconst (v := 0) d_M_restart_1 (by decide) ?_
  obtain ⟨f1, hA, hB, hw⟩ := hw
  refine xw_puti fs_M_103 d_M_restart_2 hA hB ?_
  generalize hh : xu h this (.inr (8, f1.set 0 (.int (0)))) = h2
  have hw := hw h2 hh.symm
  refine xw_iload_n d_M_restart_5 rfl rfl ?_
  refine xc_S1i lk_M_245 st_M_isNode d_M_restart_6 (x_M_isNode hw) rfl rfl ?_
  intro x4 h3 hw
  refine xw_if_eq (tgt := 22) d_M_restart_9 (by decide) (fun c24 => ?_) (fun c24 => ?_)
  · have hw := hw.1 c24
    refine xw_iconst (v := 0) d_M_restart_22 (by decide) ?_
    exact xw_zreturn rfl hw.1 d_M_restart_23 hw.2
  · have hw := hw.2 c24
    refine xw_aload_n d_M_restart_12 rfl rfl ?_
    obtain ⟨f5, a6, hA, hB, hw⟩ := hw
    refine xw_getr fr_M_9 d_M_restart_13 hA hB ?_
    refine xw_iload_n d_M_restart_16 rfl rfl ?_
    obtain ⟨ar23, x7, hA, hB, hC, hw⟩ := hw
    refine xw_iaload (t := 0) rfl d_M_restart_17 hA hB hC ?_
    refine xw_iconst (v := 2) d_M_restart_18 (by decide) ?_
    refine xw_icmp_eq (tgt := 24) d_M_restart_19 (by decide) (fun c22 => ?_) (fun c22 => ?_)
    · have hw := hw.1 c22
      refine xw_aload_n d_M_restart_24 rfl rfl ?_
      obtain ⟨f8, a9, hA, hB, hw⟩ := hw
      refine xw_getr fr_M_9 d_M_restart_25 hA hB ?_
      refine xw_iload_n d_M_restart_28 rfl rfl ?_
      refine xw_iconst (v := 1) d_M_restart_29 (by decide) ?_
      obtain ⟨ar10, hA, hB, hC, hw⟩ := hw
      refine xw_iastore (t := 0) rfl d_M_restart_30 hA hB hC ?_
      generalize hh : xu h3 a9 (.inl (0, .inl (ar10.set p1.toNatClampNeg 1))) = h11
      have hw := hw h11 hh.symm
      refine xw_aload_n d_M_restart_31 rfl rfl ?_
      obtain ⟨f12, a13, hA, hB, hw⟩ := hw
      refine xw_getr fr_M_13 d_M_restart_32 hA hB ?_
      refine xw_iload_n d_M_restart_35 rfl rfl ?_
      refine xw_dup2 d_M_restart_36 rfl rfl ?_
      obtain ⟨ar21, x14, hA, hB, hC, hw⟩ := hw
      refine xw_iaload (t := 0) rfl d_M_restart_37 hA hB hC ?_
      refine xw_iconst (v := 1) d_M_restart_38 (by decide) ?_
      refine xw_iadd d_M_restart_39 ?_
      obtain ⟨ar15, hA, hB, hC, hw⟩ := hw
      refine xw_iastore (t := 0) rfl d_M_restart_40 hA hB hC ?_
      generalize hh : xu h11 a13 (.inl (0, .inl (ar15.set p1.toNatClampNeg (x14 + 1)))) = h16
      have hw := hw h16 hh.symm
      refine xw_aload_n d_M_restart_41 rfl rfl ?_
      refine xw_dup d_M_restart_42 rfl ?_
      obtain ⟨f17, x18, hA, hB, hw⟩ := hw
      refine xw_getr fr_M_119 d_M_restart_43 hA hB ?_
      refine xw_iconst (v := 1) d_M_restart_46 (by decide) ?_
      refine xw_iadd d_M_restart_47 ?_
      obtain ⟨f19, hA, hB, hw⟩ := hw
      refine xw_puti fs_M_119 d_M_restart_48 hA hB ?_
      generalize hh : xu h16 this (.inr (8, f19.set 34 (.int (x18 + 1)))) = h20
      have hw := hw h20 hh.symm
      refine xw_iconst (v := 1) d_M_restart_51 (by decide) ?_
      exact xw_zreturn rfl hw.1 d_M_restart_52 hw.2
    · have hw := hw.2 c22
      refine xw_iconst (v := 0) d_M_restart_22 (by decide) ?_
      exact xw_zreturn rfl hw.1 d_M_restart_23 hw.2
set_option maxRecDepth 100000 in
def w_M_arm (Q : Option Value → xH → Prop) (this : Nat) (p1 : Int32) (p2 : Int32) (h : xH) : Prop := ∃ f1, h.2 this = some (.inr (8, f1)) ∧ 0 < f1.length ∧ ∀ h2, h2 = xu h this (.inr (8, f1.set 0 (.int (0)))) → w_M_isNode (fun v h3 => ∃ (x4 : Int32), v = some (.int x4) ∧ ((x4 = 0 → (narrow .boolean (.int 0) = .int 0 ∧ Q (some (.int 0)) h3)) ∧ (¬ x4 = 0 → (∃ f6, h3.2 this = some (.inr (8, f6))) ∧ w_M_isUp (fun v h5 => ∃ (x7 : Int32), v = some (.int x7) ∧ ((x7 = 0 → (narrow .boolean (.int 0) = .int 0 ∧ Q (some (.int 0)) h5)) ∧ (¬ x7 = 0 → w_M_in (fun v h8 => ∃ (x9 : Int32), v = some (.int x9) ∧ ((¬ x9 = 0 → ∃ (f10 : List Value) (a11 : Nat), h8.2 this = some (.inr (8, f10)) ∧ f10[4]? = some (.ref a11) ∧ ∃ ar12, h8.2 a11 = some (.inl (0, .inl ar12)) ∧ 0 ≤ p1 ∧ p1.toNatClampNeg < ar12.length ∧ ∀ h13, h13 = xu h8 a11 (.inl (0, .inl (ar12.set p1.toNatClampNeg p2))) → (narrow .boolean (.int 1) = .int 1 ∧ Q (some (.int 1)) h13)) ∧ (x9 = 0 → (narrow .boolean (.int 0) = .int 0 ∧ Q (some (.int 0)) h8)))) p2 0 100 h5))) this p1 h3))) p1 h2
set_option maxRecDepth 100000 in
set_option maxHeartbeats 4000000 in
theorem x_M_arm {sc : List Int32} {Q : Option Value → xH → Prop} {this : Nat} {p1 : Int32} {p2 : Int32} {h : xH} (hw : w_M_arm Q this p1 p2 h) : xMet sc m_M_arm 2 0 0 [.ref (this), .int (p1), .int (p2)] h Q := by
  unfold w_M_arm at hw
  refine xMet.of2 cw_M_arm rfl rfl ?_
  show xW sc m_M_arm 2 0 0 0 [some (.ref (this)), some (.int (p1)), some (.int (p2))] [] h Q
  refine xw_aload_n d_M_arm_0 rfl rfl ?_
  refine xw_iconst (v := 0) d_M_arm_1 (by decide) ?_
  obtain ⟨f1, hA, hB, hw⟩ := hw
  refine xw_puti fs_M_103 d_M_arm_2 hA hB ?_
  generalize hh : xu h this (.inr (8, f1.set 0 (.int (0)))) = h2
  have hw := hw h2 hh.symm
  refine xw_iload_n d_M_arm_5 rfl rfl ?_
  refine xc_S1i lk_M_245 st_M_isNode d_M_arm_6 (x_M_isNode hw) rfl rfl ?_
  intro x4 h3 hw
  refine xw_if_eq (tgt := 30) d_M_arm_9 (by decide) (fun c16 => ?_) (fun c16 => ?_)
  · have hw := hw.1 c16
    refine xw_iconst (v := 0) d_M_arm_30 (by decide) ?_
    exact xw_zreturn rfl hw.1 d_M_arm_31 hw.2
  · have hw := hw.2 c16
    refine xw_aload_n d_M_arm_12 rfl rfl ?_
    refine xw_iload_n d_M_arm_13 rfl rfl ?_
    obtain ⟨⟨f6, hA⟩, hw⟩ := hw
    refine xc_V1i lk_M_111 in_M_isUp d_M_arm_14 (x_M_isUp hw) rfl hA rfl ?_
    intro x7 h5 hw
    refine xw_if_eq (tgt := 30) d_M_arm_17 (by decide) (fun c15 => ?_) (fun c15 => ?_)
    · have hw := hw.1 c15
      refine xw_iconst (v := 0) d_M_arm_30 (by decide) ?_
      exact xw_zreturn rfl hw.1 d_M_arm_31 hw.2
    · have hw := hw.2 c15
      refine xw_iload_n d_M_arm_20 rfl rfl ?_
      refine xw_iconst (v := 0) d_M_arm_21 (by decide) ?_
      refine xw_bipush (v := 100) d_M_arm_22 (by decide) ?_
      refine xc_S3i lk_M_107 st_M_in d_M_arm_24 (x_M_in hw) rfl rfl ?_
      intro x9 h8 hw
      refine xw_if_ne (tgt := 32) d_M_arm_27 (by decide) (fun c14 => ?_) (fun c14 => ?_)
      · have hw := hw.1 c14
        refine xw_aload_n d_M_arm_32 rfl rfl ?_
        obtain ⟨f10, a11, hA, hB, hw⟩ := hw
        refine xw_getr fr_M_19 d_M_arm_33 hA hB ?_
        refine xw_iload_n d_M_arm_36 rfl rfl ?_
        refine xw_iload_n d_M_arm_37 rfl rfl ?_
        obtain ⟨ar12, hA, hB, hC, hw⟩ := hw
        refine xw_iastore (t := 0) rfl d_M_arm_38 hA hB hC ?_
        generalize hh : xu h8 a11 (.inl (0, .inl (ar12.set p1.toNatClampNeg p2))) = h13
        have hw := hw h13 hh.symm
        refine xw_iconst (v := 1) d_M_arm_39 (by decide) ?_
        exact xw_zreturn rfl hw.1 d_M_arm_40 hw.2
      · have hw := hw.2 c14
        refine xw_iconst (v := 0) d_M_arm_30 (by decide) ?_
        exact xw_zreturn rfl hw.1 d_M_arm_31 hw.2
set_option maxRecDepth 100000 in
def w_M_node (Q : Option Value → xH → Prop) (this : Nat) (p1 : Int32) (p2 : Int32) (h : xH) : Prop := ∃ f1, h.2 this = some (.inr (8, f1)) ∧ 0 < f1.length ∧ ∀ h2, h2 = xu h this (.inr (8, f1.set 0 (.int (0)))) → w_M_isNode (fun v h3 => ∃ (x4 : Int32), v = some (.int x4) ∧ ((¬ x4 = 0 → ((p2 = 0 → ∃ (f6 : List Value) (a7 : Nat), h3.2 this = some (.inr (8, f6)) ∧ f6[1]? = some (.ref a7) ∧ ∃ (ar9 : List Int32) (x8 : Int32), h3.2 a7 = some (.inl (0, .inl ar9)) ∧ 0 ≤ p1 ∧ ar9[p1.toNatClampNeg]? = some x8 ∧ Q (some (.int x8)) h3) ∧ (p2 = 1 → ∃ (f11 : List Value) (a12 : Nat), h3.2 this = some (.inr (8, f11)) ∧ f11[2]? = some (.ref a12) ∧ ∃ (ar14 : List Int32) (x13 : Int32), h3.2 a12 = some (.inl (0, .inl ar14)) ∧ 0 ≤ p1 ∧ ar14[p1.toNatClampNeg]? = some x13 ∧ Q (some (.int x13)) h3) ∧ (p2 = 2 → ∃ (f16 : List Value) (a17 : Nat), h3.2 this = some (.inr (8, f16)) ∧ f16[3]? = some (.ref a17) ∧ ∃ (ar19 : List Int32) (x18 : Int32), h3.2 a17 = some (.inl (0, .inl ar19)) ∧ 0 ≤ p1 ∧ ar19[p1.toNatClampNeg]? = some x18 ∧ Q (some (.int x18)) h3) ∧ (p2 = 3 → (∃ f22, h3.2 this = some (.inr (8, f22))) ∧ w_M_least (fun v h21 => ∃ (x23 : Int32), v = some (.int x23) ∧ Q (some (.int x23)) h21) this p1 h3) ∧ (p2 = 4 → (∃ f26, h3.2 this = some (.inr (8, f26))) ∧ w_M_greatest (fun v h25 => ∃ (x27 : Int32), v = some (.int x27) ∧ Q (some (.int x27)) h25) this p1 h3) ∧ (p2 = 5 → ∃ (f29 : List Value) (a30 : Nat), h3.2 this = some (.inr (8, f29)) ∧ f29[5]? = some (.ref a30) ∧ ∃ (ar32 : List Int32) (x31 : Int32), h3.2 a30 = some (.inl (0, .inl ar32)) ∧ 0 ≤ p1 ∧ ar32[p1.toNatClampNeg]? = some x31 ∧ Q (some (.int x31)) h3) ∧ (p2 = 6 → ∃ (f34 : List Value) (a35 : Nat), h3.2 this = some (.inr (8, f34)) ∧ f34[4]? = some (.ref a35) ∧ ∃ (ar37 : List Int32) (x36 : Int32), h3.2 a35 = some (.inl (0, .inl ar37)) ∧ 0 ≤ p1 ∧ ar37[p1.toNatClampNeg]? = some x36 ∧ Q (some (.int x36)) h3) ∧ (¬ p2 = 0 → ¬ p2 = 1 → ¬ p2 = 2 → ¬ p2 = 3 → ¬ p2 = 4 → ¬ p2 = 5 → ¬ p2 = 6 → Q (some (.int (-1))) h3))) ∧ (x4 = 0 → Q (some (.int (-1))) h3))) p1 h2
set_option maxRecDepth 100000 in
set_option maxHeartbeats 4000000 in
theorem x_M_node {sc : List Int32} {Q : Option Value → xH → Prop} {this : Nat} {p1 : Int32} {p2 : Int32} {h : xH} (hw : w_M_node Q this p1 p2 h) : xMet sc m_M_node 2 0 0 [.ref (this), .int (p1), .int (p2)] h Q := by
  unfold w_M_node at hw
  refine xMet.of2 cw_M_node rfl rfl ?_
  show xW sc m_M_node 2 0 0 0 [some (.ref (this)), some (.int (p1)), some (.int (p2))] [] h Q
  refine xw_aload_n d_M_node_0 rfl rfl ?_
  refine xw_iconst (v := 0) d_M_node_1 (by decide) ?_
  obtain ⟨f1, hA, hB, hw⟩ := hw
  refine xw_puti fs_M_103 d_M_node_2 hA hB ?_
  generalize hh : xu h this (.inr (8, f1.set 0 (.int (0)))) = h2
  have hw := hw h2 hh.symm
  refine xw_iload_n d_M_node_5 rfl rfl ?_
  refine xc_S1i lk_M_245 st_M_isNode d_M_node_6 (x_M_isNode hw) rfl rfl ?_
  intro x4 h3 hw
  refine xw_if_ne (tgt := 14) d_M_node_9 (by decide) (fun c39 => ?_) (fun c39 => ?_)
  · have hw := hw.1 c39
    refine xw_iload_n d_M_node_14 rfl rfl ?_
    by_cases c10 : p2 = 0
    · have hw := hw.1 c10
      rw [c10]
      refine xw_tableIn (tgt := 56) (off := 41) d_M_node_15 (by decide) (by decide) (by decide +kernel) (by decide) ?_
      refine xw_aload_n d_M_node_56 rfl rfl ?_
      obtain ⟨f6, a7, hA, hB, hw⟩ := hw
      refine xw_getr fr_M_9 d_M_node_57 hA hB ?_
      refine xw_iload_n d_M_node_60 rfl rfl ?_
      obtain ⟨ar9, x8, hA, hB, hC, hw⟩ := hw
      refine xw_iaload (t := 0) rfl d_M_node_61 hA hB hC ?_
      exact xw_ireturn rfl d_M_node_62 hw
    by_cases c15 : p2 = 1
    · have hw := hw.2.1 c15
      rw [c15]
      refine xw_tableIn (tgt := 63) (off := 48) d_M_node_15 (by decide) (by decide) (by decide +kernel) (by decide) ?_
      refine xw_aload_n d_M_node_63 rfl rfl ?_
      obtain ⟨f11, a12, hA, hB, hw⟩ := hw
      refine xw_getr fr_M_13 d_M_node_64 hA hB ?_
      refine xw_iload_n d_M_node_67 rfl rfl ?_
      obtain ⟨ar14, x13, hA, hB, hC, hw⟩ := hw
      refine xw_iaload (t := 0) rfl d_M_node_68 hA hB hC ?_
      exact xw_ireturn rfl d_M_node_69 hw
    by_cases c20 : p2 = 2
    · have hw := hw.2.2.1 c20
      rw [c20]
      refine xw_tableIn (tgt := 70) (off := 55) d_M_node_15 (by decide) (by decide) (by decide +kernel) (by decide) ?_
      refine xw_aload_n d_M_node_70 rfl rfl ?_
      obtain ⟨f16, a17, hA, hB, hw⟩ := hw
      refine xw_getr fr_M_16 d_M_node_71 hA hB ?_
      refine xw_iload_n d_M_node_74 rfl rfl ?_
      obtain ⟨ar19, x18, hA, hB, hC, hw⟩ := hw
      refine xw_iaload (t := 0) rfl d_M_node_75 hA hB hC ?_
      exact xw_ireturn rfl d_M_node_76 hw
    by_cases c24 : p2 = 3
    · have hw := hw.2.2.2.1 c24
      rw [c24]
      refine xw_tableIn (tgt := 77) (off := 62) d_M_node_15 (by decide) (by decide) (by decide +kernel) (by decide) ?_
      refine xw_aload_n d_M_node_77 rfl rfl ?_
      refine xw_iload_n d_M_node_78 rfl rfl ?_
      obtain ⟨⟨f22, hA⟩, hw⟩ := hw
      refine xc_V1i lk_M_258 in_M_least d_M_node_79 (x_M_least hw) rfl hA rfl ?_
      intro x23 h21 hw
      exact xw_ireturn rfl d_M_node_82 hw
    by_cases c28 : p2 = 4
    · have hw := hw.2.2.2.2.1 c28
      rw [c28]
      refine xw_tableIn (tgt := 83) (off := 68) d_M_node_15 (by decide) (by decide) (by decide +kernel) (by decide) ?_
      refine xw_aload_n d_M_node_83 rfl rfl ?_
      refine xw_iload_n d_M_node_84 rfl rfl ?_
      obtain ⟨⟨f26, hA⟩, hw⟩ := hw
      refine xc_V1i lk_M_233 in_M_greatest d_M_node_85 (x_M_greatest hw) rfl hA rfl ?_
      intro x27 h25 hw
      exact xw_ireturn rfl d_M_node_88 hw
    by_cases c33 : p2 = 5
    · have hw := hw.2.2.2.2.2.1 c33
      rw [c33]
      refine xw_tableIn (tgt := 89) (off := 74) d_M_node_15 (by decide) (by decide) (by decide +kernel) (by decide) ?_
      refine xw_aload_n d_M_node_89 rfl rfl ?_
      obtain ⟨f29, a30, hA, hB, hw⟩ := hw
      refine xw_getr fr_M_22 d_M_node_90 hA hB ?_
      refine xw_iload_n d_M_node_93 rfl rfl ?_
      obtain ⟨ar32, x31, hA, hB, hC, hw⟩ := hw
      refine xw_iaload (t := 0) rfl d_M_node_94 hA hB hC ?_
      exact xw_ireturn rfl d_M_node_95 hw
    by_cases c38 : p2 = 6
    · have hw := hw.2.2.2.2.2.2.1 c38
      rw [c38]
      refine xw_tableIn (tgt := 96) (off := 81) d_M_node_15 (by decide) (by decide) (by decide +kernel) (by decide) ?_
      refine xw_aload_n d_M_node_96 rfl rfl ?_
      obtain ⟨f34, a35, hA, hB, hw⟩ := hw
      refine xw_getr fr_M_19 d_M_node_97 hA hB ?_
      refine xw_iload_n d_M_node_100 rfl rfl ?_
      obtain ⟨ar37, x36, hA, hB, hC, hw⟩ := hw
      refine xw_iaload (t := 0) rfl d_M_node_101 hA hB hC ?_
      exact xw_ireturn rfl d_M_node_102 hw
    have hw := hw.2.2.2.2.2.2.2 c10 c15 c20 c24 c28 c33 c38
    have ec10 := lv_neT c10 (a := 0) (by decide)
    have ec15 := lv_neT c15 (a := 1) (by decide)
    have ec20 := lv_neT c20 (a := 2) (by decide)
    have ec24 := lv_neT c24 (a := 3) (by decide)
    have ec28 := lv_neT c28 (a := 4) (by decide)
    have ec33 := lv_neT c33 (a := 5) (by decide)
    have ec38 := lv_neT c38 (a := 6) (by decide)
    refine xw_tableOut (tgt := 103) d_M_node_15 (by omega) (by decide) ?_
    refine xw_iconst (v := -1) d_M_node_103 (by decide) ?_
    exact xw_ireturn rfl d_M_node_104 hw
  · have hw := hw.2 c39
    refine xw_iconst (v := -1) d_M_node_12 (by decide) ?_
    exact xw_ireturn rfl d_M_node_13 hw
set_option maxRecDepth 100000 in
def w_M_cell (Q : Option Value → xH → Prop) (this : Nat) (p1 : Int32) (p2 : Int32) (p3 : Int32) (h : xH) : Prop := ∃ f1, h.2 this = some (.inr (8, f1)) ∧ 0 < f1.length ∧ ∀ h2, h2 = xu h this (.inr (8, f1.set 0 (.int (0)))) → w_M_isNode (fun v h3 => ∃ (x4 : Int32), v = some (.int x4) ∧ ((x4 = 0 → Q (some (.int (-1))) h3) ∧ (¬ x4 = 0 → w_M_in (fun v h5 => ∃ (x6 : Int32), v = some (.int x6) ∧ ((¬ x6 = 0 → ((¬ p3 = 0 → ((¬ p3 = 1 → ((¬ p3 = 2 → Q (some (.int (-1))) h5) ∧ (p3 = 2 → ∃ (f7 : List Value) (a8 : Nat), h5.2 this = some (.inr (8, f7)) ∧ f7[8]? = some (.ref a8) ∧ ∃ (ar10 : List Int32) (x9 : Int32), h5.2 a8 = some (.inl (0, .inl ar10)) ∧ 0 ≤ ((4 * p1) + p2 : Int32) ∧ ar10[((4 * p1) + p2 : Int32).toNatClampNeg]? = some x9 ∧ Q (some (.int x9)) h5))) ∧ (p3 = 1 → ∃ (f12 : List Value) (a13 : Nat), h5.2 this = some (.inr (8, f12)) ∧ f12[7]? = some (.ref a13) ∧ ∃ (ar15 : List Int32) (x14 : Int32), h5.2 a13 = some (.inl (0, .inl ar15)) ∧ 0 ≤ ((4 * p1) + p2 : Int32) ∧ ar15[((4 * p1) + p2 : Int32).toNatClampNeg]? = some x14 ∧ Q (some (.int x14)) h5))) ∧ (p3 = 0 → ∃ (f17 : List Value) (a18 : Nat), h5.2 this = some (.inr (8, f17)) ∧ f17[6]? = some (.ref a18) ∧ ∃ (ar20 : List Int32) (x19 : Int32), h5.2 a18 = some (.inl (0, .inl ar20)) ∧ 0 ≤ ((4 * p1) + p2 : Int32) ∧ ar20[((4 * p1) + p2 : Int32).toNatClampNeg]? = some x19 ∧ Q (some (.int x19)) h5))) ∧ (x6 = 0 → Q (some (.int (-1))) h5))) p2 0 3 h3))) p1 h2
set_option maxRecDepth 100000 in
set_option maxHeartbeats 4000000 in
theorem x_M_cell {sc : List Int32} {Q : Option Value → xH → Prop} {this : Nat} {p1 : Int32} {p2 : Int32} {p3 : Int32} {h : xH} (hw : w_M_cell Q this p1 p2 p3 h) : xMet sc m_M_cell 2 0 0 [.ref (this), .int (p1), .int (p2), .int (p3)] h Q := by
  unfold w_M_cell at hw
  refine xMet.of2 cw_M_cell rfl rfl ?_
  show xW sc m_M_cell 2 0 0 0 [some (.ref (this)), some (.int (p1)), some (.int (p2)), some (.int (p3)), none] [] h Q
  refine xw_aload_n d_M_cell_0 rfl rfl ?_
  refine xw_iconst (v := 0) d_M_cell_1 (by decide) ?_
  obtain ⟨f1, hA, hB, hw⟩ := hw
  refine xw_puti fs_M_103 d_M_cell_2 hA hB ?_
  generalize hh : xu h this (.inr (8, f1.set 0 (.int (0)))) = h2
  have hw := hw h2 hh.symm
  refine xw_iload_n d_M_cell_5 rfl rfl ?_
  refine xc_S1i lk_M_245 st_M_isNode d_M_cell_6 (x_M_isNode hw) rfl rfl ?_
  intro x4 h3 hw
  refine xw_if_eq (tgt := 21) d_M_cell_9 (by decide) (fun c23 => ?_) (fun c23 => ?_)
  · have hw := hw.1 c23
    refine xw_iconst (v := -1) d_M_cell_21 (by decide) ?_
    exact xw_ireturn rfl d_M_cell_22 hw
  · have hw := hw.2 c23
    refine xw_iload_n d_M_cell_12 rfl rfl ?_
    refine xw_iconst (v := 0) d_M_cell_13 (by decide) ?_
    refine xw_iconst (v := 3) d_M_cell_14 (by decide) ?_
    refine xc_S3i lk_M_107 st_M_in d_M_cell_15 (x_M_in hw) rfl rfl ?_
    intro x6 h5 hw
    refine xw_if_ne (tgt := 23) d_M_cell_18 (by decide) (fun c22 => ?_) (fun c22 => ?_)
    · have hw := hw.1 c22
      refine xw_iconst (v := 4) d_M_cell_23 (by decide) ?_
      refine xw_iload_n d_M_cell_24 rfl rfl ?_
      refine xw_imul d_M_cell_25 ?_
      refine xw_iload_n d_M_cell_26 rfl rfl ?_
      refine xw_iadd d_M_cell_27 ?_
      refine xs_istore (lv' := [some (.ref (this)), some (.int (p1)), some (.int (p2)), some (.int (p3)), some (.int ((4 * p1) + p2))]) d_M_cell_28 rfl rfl ?_
      refine xw_iload_n d_M_cell_30 rfl rfl ?_
      refine xw_if_ne (tgt := 44) d_M_cell_31 (by decide) (fun c21 => ?_) (fun c21 => ?_)
      · have hw := hw.1 c21
        refine xw_iload_n d_M_cell_44 rfl rfl ?_
        refine xw_iconst (v := 1) d_M_cell_45 (by decide) ?_
        refine xw_icmp_ne (tgt := 59) d_M_cell_46 (by decide) (fun c16 => ?_) (fun c16 => ?_)
        · have hw := hw.1 c16
          refine xw_iload_n d_M_cell_59 rfl rfl ?_
          refine xw_iconst (v := 2) d_M_cell_60 (by decide) ?_
          refine xw_icmp_ne (tgt := 74) d_M_cell_61 (by decide) (fun c11 => ?_) (fun c11 => ?_)
          · have hw := hw.1 c11
            refine xw_iconst (v := -1) d_M_cell_74 (by decide) ?_
            exact xw_ireturn rfl d_M_cell_75 hw
          · have hw := hw.2 c11
            refine xw_aload_n d_M_cell_64 rfl rfl ?_
            obtain ⟨f7, a8, hA, hB, hw⟩ := hw
            refine xw_getr fr_M_31 d_M_cell_65 hA hB ?_
            refine xw_iload d_M_cell_68 rfl ?_
            obtain ⟨ar10, x9, hA, hB, hC, hw⟩ := hw
            refine xw_iaload (t := 0) rfl d_M_cell_70 hA hB hC ?_
            refine xw_goto (tgt := 75) d_M_cell_71 (by decide) ?_
            exact xw_ireturn rfl d_M_cell_75 hw
        · have hw := hw.2 c16
          refine xw_aload_n d_M_cell_49 rfl rfl ?_
          obtain ⟨f12, a13, hA, hB, hw⟩ := hw
          refine xw_getr fr_M_28 d_M_cell_50 hA hB ?_
          refine xw_iload d_M_cell_53 rfl ?_
          obtain ⟨ar15, x14, hA, hB, hC, hw⟩ := hw
          refine xw_iaload (t := 0) rfl d_M_cell_55 hA hB hC ?_
          refine xw_goto (tgt := 75) d_M_cell_56 (by decide) ?_
          exact xw_ireturn rfl d_M_cell_75 hw
      · have hw := hw.2 c21
        refine xw_aload_n d_M_cell_34 rfl rfl ?_
        obtain ⟨f17, a18, hA, hB, hw⟩ := hw
        refine xw_getr fr_M_25 d_M_cell_35 hA hB ?_
        refine xw_iload d_M_cell_38 rfl ?_
        obtain ⟨ar20, x19, hA, hB, hC, hw⟩ := hw
        refine xw_iaload (t := 0) rfl d_M_cell_40 hA hB hC ?_
        refine xw_goto (tgt := 75) d_M_cell_41 (by decide) ?_
        exact xw_ireturn rfl d_M_cell_75 hw
    · have hw := hw.2 c22
      refine xw_iconst (v := -1) d_M_cell_21 (by decide) ?_
      exact xw_ireturn rfl d_M_cell_22 hw
set_option maxRecDepth 100000 in
def w_M_map (Q : Option Value → xH → Prop) (this : Nat) (p1 : Int32) (p2 : Int32) (p3 : Int32) (h : xH) : Prop := ∃ f1, h.2 this = some (.inr (8, f1)) ∧ 0 < f1.length ∧ ∀ h2, h2 = xu h this (.inr (8, f1.set 0 (.int (0)))) → w_M_isNode (fun v h3 => ∃ (x4 : Int32), v = some (.int x4) ∧ ((x4 = 0 → Q (some (.int (-1))) h3) ∧ (¬ x4 = 0 → w_M_in (fun v h5 => ∃ (x6 : Int32), v = some (.int x6) ∧ ((¬ x6 = 0 → ((p3 = 0 → ∃ (f8 : List Value) (a9 : Nat), h5.2 this = some (.inr (8, f8)) ∧ f8[9]? = some (.ref a9) ∧ ∃ (ar11 : List Int32) (x10 : Int32), h5.2 a9 = some (.inl (0, .inl ar11)) ∧ 0 ≤ ((16 * p1) + p2 : Int32) ∧ ar11[((16 * p1) + p2 : Int32).toNatClampNeg]? = some x10 ∧ Q (some (.int x10)) h5) ∧ (p3 = 1 → ∃ (f13 : List Value) (a14 : Nat), h5.2 this = some (.inr (8, f13)) ∧ f13[10]? = some (.ref a14) ∧ ∃ (ar16 : List Int32) (x15 : Int32), h5.2 a14 = some (.inl (0, .inl ar16)) ∧ 0 ≤ ((16 * p1) + p2 : Int32) ∧ ar16[((16 * p1) + p2 : Int32).toNatClampNeg]? = some x15 ∧ Q (some (.int x15)) h5) ∧ (p3 = 2 → ∃ (f18 : List Value) (a19 : Nat), h5.2 this = some (.inr (8, f18)) ∧ f18[11]? = some (.ref a19) ∧ ∃ (ar21 : List Int32) (x20 : Int32), h5.2 a19 = some (.inl (0, .inl ar21)) ∧ 0 ≤ ((16 * p1) + p2 : Int32) ∧ ar21[((16 * p1) + p2 : Int32).toNatClampNeg]? = some x20 ∧ Q (some (.int x20)) h5) ∧ (p3 = 3 → ∃ (f23 : List Value) (a24 : Nat), h5.2 this = some (.inr (8, f23)) ∧ f23[12]? = some (.ref a24) ∧ ∃ (ar26 : List Int32) (x25 : Int32), h5.2 a24 = some (.inl (0, .inl ar26)) ∧ 0 ≤ ((16 * p1) + p2 : Int32) ∧ ar26[((16 * p1) + p2 : Int32).toNatClampNeg]? = some x25 ∧ Q (some (.int x25)) h5) ∧ (p3 = 4 → ∃ (f28 : List Value) (a29 : Nat), h5.2 this = some (.inr (8, f28)) ∧ f28[13]? = some (.ref a29) ∧ ∃ (ar31 : List Int32) (x30 : Int32), h5.2 a29 = some (.inl (0, .inl ar31)) ∧ 0 ≤ ((16 * p1) + p2 : Int32) ∧ ar31[((16 * p1) + p2 : Int32).toNatClampNeg]? = some x30 ∧ Q (some (.int x30)) h5) ∧ (¬ p3 = 0 → ¬ p3 = 1 → ¬ p3 = 2 → ¬ p3 = 3 → ¬ p3 = 4 → Q (some (.int (-1))) h5))) ∧ (x6 = 0 → Q (some (.int (-1))) h5))) p2 0 15 h3))) p1 h2
set_option maxRecDepth 100000 in
set_option maxHeartbeats 4000000 in
theorem x_M_map {sc : List Int32} {Q : Option Value → xH → Prop} {this : Nat} {p1 : Int32} {p2 : Int32} {p3 : Int32} {h : xH} (hw : w_M_map Q this p1 p2 p3 h) : xMet sc m_M_map 2 0 0 [.ref (this), .int (p1), .int (p2), .int (p3)] h Q := by
  unfold w_M_map at hw
  refine xMet.of2 cw_M_map rfl rfl ?_
  show xW sc m_M_map 2 0 0 0 [some (.ref (this)), some (.int (p1)), some (.int (p2)), some (.int (p3)), none] [] h Q
  refine xw_aload_n d_M_map_0 rfl rfl ?_
  refine xw_iconst (v := 0) d_M_map_1 (by decide) ?_
  obtain ⟨f1, hA, hB, hw⟩ := hw
  refine xw_puti fs_M_103 d_M_map_2 hA hB ?_
  generalize hh : xu h this (.inr (8, f1.set 0 (.int (0)))) = h2
  have hw := hw h2 hh.symm
  refine xw_iload_n d_M_map_5 rfl rfl ?_
  refine xc_S1i lk_M_245 st_M_isNode d_M_map_6 (x_M_isNode hw) rfl rfl ?_
  intro x4 h3 hw
  refine xw_if_eq (tgt := 22) d_M_map_9 (by decide) (fun c34 => ?_) (fun c34 => ?_)
  · have hw := hw.1 c34
    refine xw_iconst (v := -1) d_M_map_22 (by decide) ?_
    exact xw_ireturn rfl d_M_map_23 hw
  · have hw := hw.2 c34
    refine xw_iload_n d_M_map_12 rfl rfl ?_
    refine xw_iconst (v := 0) d_M_map_13 (by decide) ?_
    refine xw_bipush (v := 15) d_M_map_14 (by decide) ?_
    refine xc_S3i lk_M_107 st_M_in d_M_map_16 (x_M_in hw) rfl rfl ?_
    intro x6 h5 hw
    refine xw_if_ne (tgt := 24) d_M_map_19 (by decide) (fun c33 => ?_) (fun c33 => ?_)
    · have hw := hw.1 c33
      refine xw_bipush (v := 16) d_M_map_24 (by decide) ?_
      refine xw_iload_n d_M_map_26 rfl rfl ?_
      refine xw_imul d_M_map_27 ?_
      refine xw_iload_n d_M_map_28 rfl rfl ?_
      refine xw_iadd d_M_map_29 ?_
      refine xs_istore (lv' := [some (.ref (this)), some (.int (p1)), some (.int (p2)), some (.int (p3)), some (.int ((16 * p1) + p2))]) d_M_map_30 rfl rfl ?_
      refine xw_iload_n d_M_map_32 rfl rfl ?_
      by_cases c12 : p3 = 0
      · have hw := hw.1 c12
        rw [c12]
        refine xw_tableIn (tgt := 68) (off := 35) d_M_map_33 (by decide) (by decide) (by decide +kernel) (by decide) ?_
        refine xw_aload_n d_M_map_68 rfl rfl ?_
        obtain ⟨f8, a9, hA, hB, hw⟩ := hw
        refine xw_getr fr_M_34 d_M_map_69 hA hB ?_
        refine xw_iload d_M_map_72 rfl ?_
        obtain ⟨ar11, x10, hA, hB, hC, hw⟩ := hw
        refine xw_iaload (t := 0) rfl d_M_map_74 hA hB hC ?_
        exact xw_ireturn rfl d_M_map_75 hw
      by_cases c17 : p3 = 1
      · have hw := hw.2.1 c17
        rw [c17]
        refine xw_tableIn (tgt := 76) (off := 43) d_M_map_33 (by decide) (by decide) (by decide +kernel) (by decide) ?_
        refine xw_aload_n d_M_map_76 rfl rfl ?_
        obtain ⟨f13, a14, hA, hB, hw⟩ := hw
        refine xw_getr fr_M_37 d_M_map_77 hA hB ?_
        refine xw_iload d_M_map_80 rfl ?_
        obtain ⟨ar16, x15, hA, hB, hC, hw⟩ := hw
        refine xw_iaload (t := 0) rfl d_M_map_82 hA hB hC ?_
        exact xw_ireturn rfl d_M_map_83 hw
      by_cases c22 : p3 = 2
      · have hw := hw.2.2.1 c22
        rw [c22]
        refine xw_tableIn (tgt := 84) (off := 51) d_M_map_33 (by decide) (by decide) (by decide +kernel) (by decide) ?_
        refine xw_aload_n d_M_map_84 rfl rfl ?_
        obtain ⟨f18, a19, hA, hB, hw⟩ := hw
        refine xw_getr fr_M_40 d_M_map_85 hA hB ?_
        refine xw_iload d_M_map_88 rfl ?_
        obtain ⟨ar21, x20, hA, hB, hC, hw⟩ := hw
        refine xw_iaload (t := 0) rfl d_M_map_90 hA hB hC ?_
        exact xw_ireturn rfl d_M_map_91 hw
      by_cases c27 : p3 = 3
      · have hw := hw.2.2.2.1 c27
        rw [c27]
        refine xw_tableIn (tgt := 92) (off := 59) d_M_map_33 (by decide) (by decide) (by decide +kernel) (by decide) ?_
        refine xw_aload_n d_M_map_92 rfl rfl ?_
        obtain ⟨f23, a24, hA, hB, hw⟩ := hw
        refine xw_getr fr_M_43 d_M_map_93 hA hB ?_
        refine xw_iload d_M_map_96 rfl ?_
        obtain ⟨ar26, x25, hA, hB, hC, hw⟩ := hw
        refine xw_iaload (t := 0) rfl d_M_map_98 hA hB hC ?_
        exact xw_ireturn rfl d_M_map_99 hw
      by_cases c32 : p3 = 4
      · have hw := hw.2.2.2.2.1 c32
        rw [c32]
        refine xw_tableIn (tgt := 100) (off := 67) d_M_map_33 (by decide) (by decide) (by decide +kernel) (by decide) ?_
        refine xw_aload_n d_M_map_100 rfl rfl ?_
        obtain ⟨f28, a29, hA, hB, hw⟩ := hw
        refine xw_getr fr_M_46 d_M_map_101 hA hB ?_
        refine xw_iload d_M_map_104 rfl ?_
        obtain ⟨ar31, x30, hA, hB, hC, hw⟩ := hw
        refine xw_iaload (t := 0) rfl d_M_map_106 hA hB hC ?_
        exact xw_ireturn rfl d_M_map_107 hw
      have hw := hw.2.2.2.2.2 c12 c17 c22 c27 c32
      have ec12 := lv_neT c12 (a := 0) (by decide)
      have ec17 := lv_neT c17 (a := 1) (by decide)
      have ec22 := lv_neT c22 (a := 2) (by decide)
      have ec27 := lv_neT c27 (a := 3) (by decide)
      have ec32 := lv_neT c32 (a := 4) (by decide)
      refine xw_tableOut (tgt := 108) d_M_map_33 (by omega) (by decide) ?_
      refine xw_iconst (v := -1) d_M_map_108 (by decide) ?_
      exact xw_ireturn rfl d_M_map_109 hw
    · have hw := hw.2 c33
      refine xw_iconst (v := -1) d_M_map_22 (by decide) ?_
      exact xw_ireturn rfl d_M_map_23 hw
set_option maxRecDepth 100000 in
def w_M_task_52 (Q : Option Value → xH → Prop) (l0 : Nat) (l1 : Int32) (l2 : Int32) (s0 : Int32) (s1 : Int32) (h : xH) : Prop := ((l2 = 0 → ∃ (f2 : List Value) (a3 : Nat), h.2 l0 = some (.inr (8, f2)) ∧ f2[15]? = some (.ref a3) ∧ ∃ (ar5 : List Int32) (x4 : Int32), h.2 a3 = some (.inl (0, .inl ar5)) ∧ 0 ≤ l1 ∧ ar5[l1.toNatClampNeg]? = some x4 ∧ Q (some (.int x4)) h) ∧ (l2 = 1 → ∃ (f7 : List Value) (a8 : Nat), h.2 l0 = some (.inr (8, f7)) ∧ f7[16]? = some (.ref a8) ∧ ∃ (ar10 : List Int32) (x9 : Int32), h.2 a8 = some (.inl (0, .inl ar10)) ∧ 0 ≤ l1 ∧ ar10[l1.toNatClampNeg]? = some x9 ∧ Q (some (.int x9)) h) ∧ (l2 = 2 → ∃ (f12 : List Value) (a13 : Nat), h.2 l0 = some (.inr (8, f12)) ∧ f12[17]? = some (.ref a13) ∧ ∃ (ar15 : List Int32) (x14 : Int32), h.2 a13 = some (.inl (0, .inl ar15)) ∧ 0 ≤ l1 ∧ ar15[l1.toNatClampNeg]? = some x14 ∧ Q (some (.int x14)) h) ∧ (l2 = 3 → ∃ (f17 : List Value) (a18 : Nat), h.2 l0 = some (.inr (8, f17)) ∧ f17[18]? = some (.ref a18) ∧ ∃ (ar20 : List Int32) (x19 : Int32), h.2 a18 = some (.inl (0, .inl ar20)) ∧ 0 ≤ l1 ∧ ar20[l1.toNatClampNeg]? = some x19 ∧ Q (some (.int x19)) h) ∧ (l2 = 4 → ∃ (f22 : List Value) (a23 : Nat), h.2 l0 = some (.inr (8, f22)) ∧ f22[17]? = some (.ref a23) ∧ ∃ (ar30 : List Int32) (x24 : Int32), h.2 a23 = some (.inl (0, .inl ar30)) ∧ 0 ≤ l1 ∧ ar30[l1.toNatClampNeg]? = some x24 ∧ ((¬ x24 = 0 → Q (some (.int 0)) h) ∧ (x24 = 0 → ∃ (f25 : List Value) (a26 : Nat), h.2 l0 = some (.inr (8, f25)) ∧ f25[19]? = some (.ref a26) ∧ ∃ (ar28 : List Int32) (x27 : Int32), h.2 a26 = some (.inl (0, .inl ar28)) ∧ 0 ≤ l1 ∧ ar28[l1.toNatClampNeg]? = some x27 ∧ Q (some (.int x27)) h))) ∧ (l2 = 5 → ∃ (f32 : List Value) (a33 : Nat), h.2 l0 = some (.inr (8, f32)) ∧ f32[20]? = some (.ref a33) ∧ ∃ (ar35 : List Int32) (x34 : Int32), h.2 a33 = some (.inl (0, .inl ar35)) ∧ 0 ≤ l1 ∧ ar35[l1.toNatClampNeg]? = some x34 ∧ Q (some (.int x34)) h) ∧ (l2 = 6 → ∃ (f37 : List Value) (a38 : Nat), h.2 l0 = some (.inr (8, f37)) ∧ f37[21]? = some (.ref a38) ∧ ∃ (ar40 : List Int32) (x39 : Int32), h.2 a38 = some (.inl (0, .inl ar40)) ∧ 0 ≤ l1 ∧ ar40[l1.toNatClampNeg]? = some x39 ∧ Q (some (.int x39)) h) ∧ (l2 = 7 → (∃ f43, h.2 l0 = some (.inr (8, f43))) ∧ w_M_isData (fun v h42 => ∃ (x44 : Int32), v = some (.int x44) ∧ ((x44 = 0 → Q (some (.int 0)) h42) ∧ (¬ x44 = 0 → ∃ (f45 : List Value) (a46 : Nat), h42.2 l0 = some (.inr (8, f45)) ∧ f45[28]? = some (.ref a46) ∧ ∃ (ar48 : List Int32) (x47 : Int32), h42.2 a46 = some (.inl (0, .inl ar48)) ∧ 0 ≤ (s1 + s0 : Int32) ∧ ar48[(s1 + s0 : Int32).toNatClampNeg]? = some x47 ∧ Q (some (.int x47)) h42))) l0 l1 h) ∧ (l2 = 8 → (∃ f52, h.2 l0 = some (.inr (8, f52))) ∧ w_M_isData (fun v h51 => ∃ (x53 : Int32), v = some (.int x53) ∧ ((x53 = 0 → Q (some (.int 0)) h51) ∧ (¬ x53 = 0 → ∃ (f54 : List Value) (a55 : Nat), h51.2 l0 = some (.inr (8, f54)) ∧ f54[29]? = some (.ref a55) ∧ ∃ (ar57 : List Int32) (x56 : Int32), h51.2 a55 = some (.inl (0, .inl ar57)) ∧ 0 ≤ (s1 + s0 : Int32) ∧ ar57[(s1 + s0 : Int32).toNatClampNeg]? = some x56 ∧ Q (some (.int x56)) h51))) l0 l1 h) ∧ (l2 = 9 → ∃ (f60 : List Value) (a61 : Nat), h.2 l0 = some (.inr (8, f60)) ∧ f60[16]? = some (.ref a61) ∧ ∃ (ar68 : List Int32) (x62 : Int32), h.2 a61 = some (.inl (0, .inl ar68)) ∧ 0 ≤ l1 ∧ ar68[l1.toNatClampNeg]? = some x62 ∧ ((¬ x62 = 3 → Q (some (.int 0)) h) ∧ (x62 = 3 → ∃ (f63 : List Value) (a64 : Nat), h.2 l0 = some (.inr (8, f63)) ∧ f63[24]? = some (.ref a64) ∧ ∃ (ar66 : List Int32) (x65 : Int32), h.2 a64 = some (.inl (0, .inl ar66)) ∧ 0 ≤ l1 ∧ ar66[l1.toNatClampNeg]? = some x65 ∧ Q (some (.int x65)) h))) ∧ (¬ l2 = 0 → ¬ l2 = 1 → ¬ l2 = 2 → ¬ l2 = 3 → ¬ l2 = 4 → ¬ l2 = 5 → ¬ l2 = 6 → ¬ l2 = 7 → ¬ l2 = 8 → ¬ l2 = 9 → Q (some (.int (-1))) h))
set_option maxRecDepth 100000 in
set_option maxHeartbeats 4000000 in
theorem p_M_task_52 {sc : List Int32} {Q : Option Value → xH → Prop} (l0 : Nat) (l1 : Int32) (l2 : Int32) (s0 : Int32) (s1 : Int32) (h : xH) (hw : w_M_task_52 Q l0 l1 l2 s0 s1 h) : xW sc m_M_task 2 0 0 52 [some (.ref (l0)), some (.int (l1)), some (.int (l2)), none] [.int (s0), .int (s1)] h Q := by
  unfold w_M_task_52 at hw
  refine xw_iadd d_M_task_52 ?_
  refine xs_istore_n (lv' := [some (.ref (l0)), some (.int (l1)), some (.int (l2)), some (.int (s1 + s0))]) d_M_task_53 rfl rfl rfl ?_
  refine xw_iload_n d_M_task_54 rfl rfl ?_
  by_cases c6 : l2 = 0
  · have hw := hw.1 c6
    rw [c6]
    refine xw_tableIn (tgt := 108) (off := 53) d_M_task_55 (by decide) (by decide) (by decide +kernel) (by decide) ?_
    refine xw_aload_n d_M_task_108 rfl rfl ?_
    obtain ⟨f2, a3, hA, hB, hw⟩ := hw
    refine xw_getr fr_M_49 d_M_task_109 hA hB ?_
    refine xw_iload_n d_M_task_112 rfl rfl ?_
    obtain ⟨ar5, x4, hA, hB, hC, hw⟩ := hw
    refine xw_iaload (t := 0) rfl d_M_task_113 hA hB hC ?_
    exact xw_ireturn rfl d_M_task_114 hw
  by_cases c11 : l2 = 1
  · have hw := hw.2.1 c11
    rw [c11]
    refine xw_tableIn (tgt := 115) (off := 60) d_M_task_55 (by decide) (by decide) (by decide +kernel) (by decide) ?_
    refine xw_aload_n d_M_task_115 rfl rfl ?_
    obtain ⟨f7, a8, hA, hB, hw⟩ := hw
    refine xw_getr fr_M_52 d_M_task_116 hA hB ?_
    refine xw_iload_n d_M_task_119 rfl rfl ?_
    obtain ⟨ar10, x9, hA, hB, hC, hw⟩ := hw
    refine xw_iaload (t := 0) rfl d_M_task_120 hA hB hC ?_
    exact xw_ireturn rfl d_M_task_121 hw
  by_cases c16 : l2 = 2
  · have hw := hw.2.2.1 c16
    rw [c16]
    refine xw_tableIn (tgt := 122) (off := 67) d_M_task_55 (by decide) (by decide) (by decide +kernel) (by decide) ?_
    refine xw_aload_n d_M_task_122 rfl rfl ?_
    obtain ⟨f12, a13, hA, hB, hw⟩ := hw
    refine xw_getr fr_M_55 d_M_task_123 hA hB ?_
    refine xw_iload_n d_M_task_126 rfl rfl ?_
    obtain ⟨ar15, x14, hA, hB, hC, hw⟩ := hw
    refine xw_iaload (t := 0) rfl d_M_task_127 hA hB hC ?_
    exact xw_ireturn rfl d_M_task_128 hw
  by_cases c21 : l2 = 3
  · have hw := hw.2.2.2.1 c21
    rw [c21]
    refine xw_tableIn (tgt := 129) (off := 74) d_M_task_55 (by decide) (by decide) (by decide +kernel) (by decide) ?_
    refine xw_aload_n d_M_task_129 rfl rfl ?_
    obtain ⟨f17, a18, hA, hB, hw⟩ := hw
    refine xw_getr fr_M_58 d_M_task_130 hA hB ?_
    refine xw_iload_n d_M_task_133 rfl rfl ?_
    obtain ⟨ar20, x19, hA, hB, hC, hw⟩ := hw
    refine xw_iaload (t := 0) rfl d_M_task_134 hA hB hC ?_
    exact xw_ireturn rfl d_M_task_135 hw
  by_cases c31 : l2 = 4
  · have hw := hw.2.2.2.2.1 c31
    rw [c31]
    refine xw_tableIn (tgt := 136) (off := 81) d_M_task_55 (by decide) (by decide) (by decide +kernel) (by decide) ?_
    refine xw_aload_n d_M_task_136 rfl rfl ?_
    obtain ⟨f22, a23, hA, hB, hw⟩ := hw
    refine xw_getr fr_M_55 d_M_task_137 hA hB ?_
    refine xw_iload_n d_M_task_140 rfl rfl ?_
    obtain ⟨ar30, x24, hA, hB, hC, hw⟩ := hw
    refine xw_iaload (t := 0) rfl d_M_task_141 hA hB hC ?_
    refine xw_if_ne (tgt := 154) d_M_task_142 (by decide) (fun c29 => ?_) (fun c29 => ?_)
    · have hw := hw.1 c29
      refine xw_iconst (v := 0) d_M_task_154 (by decide) ?_
      exact xw_ireturn rfl d_M_task_155 hw
    · have hw := hw.2 c29
      refine xw_aload_n d_M_task_145 rfl rfl ?_
      obtain ⟨f25, a26, hA, hB, hw⟩ := hw
      refine xw_getr fr_M_61 d_M_task_146 hA hB ?_
      refine xw_iload_n d_M_task_149 rfl rfl ?_
      obtain ⟨ar28, x27, hA, hB, hC, hw⟩ := hw
      refine xw_iaload (t := 0) rfl d_M_task_150 hA hB hC ?_
      refine xw_goto (tgt := 155) d_M_task_151 (by decide) ?_
      exact xw_ireturn rfl d_M_task_155 hw
  by_cases c36 : l2 = 5
  · have hw := hw.2.2.2.2.2.1 c36
    rw [c36]
    refine xw_tableIn (tgt := 156) (off := 101) d_M_task_55 (by decide) (by decide) (by decide +kernel) (by decide) ?_
    refine xw_aload_n d_M_task_156 rfl rfl ?_
    obtain ⟨f32, a33, hA, hB, hw⟩ := hw
    refine xw_getr fr_M_64 d_M_task_157 hA hB ?_
    refine xw_iload_n d_M_task_160 rfl rfl ?_
    obtain ⟨ar35, x34, hA, hB, hC, hw⟩ := hw
    refine xw_iaload (t := 0) rfl d_M_task_161 hA hB hC ?_
    exact xw_ireturn rfl d_M_task_162 hw
  by_cases c41 : l2 = 6
  · have hw := hw.2.2.2.2.2.2.1 c41
    rw [c41]
    refine xw_tableIn (tgt := 163) (off := 108) d_M_task_55 (by decide) (by decide) (by decide +kernel) (by decide) ?_
    refine xw_aload_n d_M_task_163 rfl rfl ?_
    obtain ⟨f37, a38, hA, hB, hw⟩ := hw
    refine xw_getr fr_M_67 d_M_task_164 hA hB ?_
    refine xw_iload_n d_M_task_167 rfl rfl ?_
    obtain ⟨ar40, x39, hA, hB, hC, hw⟩ := hw
    refine xw_iaload (t := 0) rfl d_M_task_168 hA hB hC ?_
    exact xw_ireturn rfl d_M_task_169 hw
  by_cases c50 : l2 = 7
  · have hw := hw.2.2.2.2.2.2.2.1 c50
    rw [c50]
    refine xw_tableIn (tgt := 170) (off := 115) d_M_task_55 (by decide) (by decide) (by decide +kernel) (by decide) ?_
    refine xw_aload_n d_M_task_170 rfl rfl ?_
    refine xw_iload_n d_M_task_171 rfl rfl ?_
    obtain ⟨⟨f43, hA⟩, hw⟩ := hw
    refine xc_V1i lk_M_135 in_M_isData d_M_task_172 (x_M_isData hw) rfl hA rfl ?_
    intro x44 h42 hw
    refine xw_if_eq (tgt := 187) d_M_task_175 (by decide) (fun c49 => ?_) (fun c49 => ?_)
    · have hw := hw.1 c49
      refine xw_iconst (v := 0) d_M_task_187 (by decide) ?_
      exact xw_ireturn rfl d_M_task_188 hw
    · have hw := hw.2 c49
      refine xw_aload_n d_M_task_178 rfl rfl ?_
      obtain ⟨f45, a46, hA, hB, hw⟩ := hw
      refine xw_getr fr_M_88 d_M_task_179 hA hB ?_
      refine xw_iload_n d_M_task_182 rfl rfl ?_
      obtain ⟨ar48, x47, hA, hB, hC, hw⟩ := hw
      refine xw_iaload (t := 0) rfl d_M_task_183 hA hB hC ?_
      refine xw_goto (tgt := 188) d_M_task_184 (by decide) ?_
      exact xw_ireturn rfl d_M_task_188 hw
  by_cases c59 : l2 = 8
  · have hw := hw.2.2.2.2.2.2.2.2.1 c59
    rw [c59]
    refine xw_tableIn (tgt := 189) (off := 134) d_M_task_55 (by decide) (by decide) (by decide +kernel) (by decide) ?_
    refine xw_aload_n d_M_task_189 rfl rfl ?_
    refine xw_iload_n d_M_task_190 rfl rfl ?_
    obtain ⟨⟨f52, hA⟩, hw⟩ := hw
    refine xc_V1i lk_M_135 in_M_isData d_M_task_191 (x_M_isData hw) rfl hA rfl ?_
    intro x53 h51 hw
    refine xw_if_eq (tgt := 206) d_M_task_194 (by decide) (fun c58 => ?_) (fun c58 => ?_)
    · have hw := hw.1 c58
      refine xw_iconst (v := 0) d_M_task_206 (by decide) ?_
      exact xw_ireturn rfl d_M_task_207 hw
    · have hw := hw.2 c58
      refine xw_aload_n d_M_task_197 rfl rfl ?_
      obtain ⟨f54, a55, hA, hB, hw⟩ := hw
      refine xw_getr fr_M_91 d_M_task_198 hA hB ?_
      refine xw_iload_n d_M_task_201 rfl rfl ?_
      obtain ⟨ar57, x56, hA, hB, hC, hw⟩ := hw
      refine xw_iaload (t := 0) rfl d_M_task_202 hA hB hC ?_
      refine xw_goto (tgt := 207) d_M_task_203 (by decide) ?_
      exact xw_ireturn rfl d_M_task_207 hw
  by_cases c69 : l2 = 9
  · have hw := hw.2.2.2.2.2.2.2.2.2.1 c69
    rw [c69]
    refine xw_tableIn (tgt := 208) (off := 153) d_M_task_55 (by decide) (by decide) (by decide +kernel) (by decide) ?_
    refine xw_aload_n d_M_task_208 rfl rfl ?_
    obtain ⟨f60, a61, hA, hB, hw⟩ := hw
    refine xw_getr fr_M_52 d_M_task_209 hA hB ?_
    refine xw_iload_n d_M_task_212 rfl rfl ?_
    obtain ⟨ar68, x62, hA, hB, hC, hw⟩ := hw
    refine xw_iaload (t := 0) rfl d_M_task_213 hA hB hC ?_
    refine xw_iconst (v := 3) d_M_task_214 (by decide) ?_
    refine xw_icmp_ne (tgt := 227) d_M_task_215 (by decide) (fun c67 => ?_) (fun c67 => ?_)
    · have hw := hw.1 c67
      refine xw_iconst (v := 0) d_M_task_227 (by decide) ?_
      exact xw_ireturn rfl d_M_task_228 hw
    · have hw := hw.2 c67
      refine xw_aload_n d_M_task_218 rfl rfl ?_
      obtain ⟨f63, a64, hA, hB, hw⟩ := hw
      refine xw_getr fr_M_76 d_M_task_219 hA hB ?_
      refine xw_iload_n d_M_task_222 rfl rfl ?_
      obtain ⟨ar66, x65, hA, hB, hC, hw⟩ := hw
      refine xw_iaload (t := 0) rfl d_M_task_223 hA hB hC ?_
      refine xw_goto (tgt := 228) d_M_task_224 (by decide) ?_
      exact xw_ireturn rfl d_M_task_228 hw
  have hw := hw.2.2.2.2.2.2.2.2.2.2 c6 c11 c16 c21 c31 c36 c41 c50 c59 c69
  have ec6 := lv_neT c6 (a := 0) (by decide)
  have ec11 := lv_neT c11 (a := 1) (by decide)
  have ec16 := lv_neT c16 (a := 2) (by decide)
  have ec21 := lv_neT c21 (a := 3) (by decide)
  have ec31 := lv_neT c31 (a := 4) (by decide)
  have ec36 := lv_neT c36 (a := 5) (by decide)
  have ec41 := lv_neT c41 (a := 6) (by decide)
  have ec50 := lv_neT c50 (a := 7) (by decide)
  have ec59 := lv_neT c59 (a := 8) (by decide)
  have ec69 := lv_neT c69 (a := 9) (by decide)
  refine xw_tableOut (tgt := 229) d_M_task_55 (by omega) (by decide) ?_
  refine xw_iconst (v := -1) d_M_task_229 (by decide) ?_
  exact xw_ireturn rfl d_M_task_230 hw
set_option maxRecDepth 100000 in
def w_M_task (Q : Option Value → xH → Prop) (this : Nat) (p1 : Int32) (p2 : Int32) (h : xH) : Prop := ∃ f1, h.2 this = some (.inr (8, f1)) ∧ 0 < f1.length ∧ ∀ h2, h2 = xu h this (.inr (8, f1.set 0 (.int (0)))) → w_M_isNode (fun v h3 => ∃ (x4 : Int32), v = some (.int x4) ∧ ((x4 = 0 → Q (some (.int (-1))) h3) ∧ (¬ x4 = 0 → (∃ f6, h3.2 this = some (.inr (8, f6))) ∧ w_M_isUp (fun v h5 => ∃ (x7 : Int32), v = some (.int x7) ∧ ((x7 = 0 → Q (some (.int (-1))) h5) ∧ (¬ x7 = 0 → ∃ (f8 : List Value) (a9 : Nat), h5.2 this = some (.inr (8, f8)) ∧ f8[15]? = some (.ref a9) ∧ ∃ (ar20 : List Int32) (x10 : Int32), h5.2 a9 = some (.inl (0, .inl ar20)) ∧ 0 ≤ p1 ∧ ar20[p1.toNatClampNeg]? = some x10 ∧ ((¬ x10 = 0 → (∃ f12, h5.2 this = some (.inr (8, f12))) ∧ w_M_isData (fun v h11 => ∃ (x13 : Int32), v = some (.int x13) ∧ ((x13 = 0 → w_M_task_52 Q (this) (p1) (p2) (0) (4 * p1) h11) ∧ (¬ x13 = 0 → ∃ (f14 : List Value) (a15 : Nat), h11.2 this = some (.inr (8, f14)) ∧ f14[18]? = some (.ref a15) ∧ ∃ (ar17 : List Int32) (x16 : Int32), h11.2 a15 = some (.inl (0, .inl ar17)) ∧ 0 ≤ p1 ∧ ar17[p1.toNatClampNeg]? = some x16 ∧ w_M_task_52 Q (this) (p1) (p2) (x16) (4 * p1) h11))) this p1 h5) ∧ (x10 = 0 → Q (some (.int (-1))) h5))))) this p1 h3))) p1 h2
set_option maxRecDepth 100000 in
set_option maxHeartbeats 4000000 in
theorem x_M_task {sc : List Int32} {Q : Option Value → xH → Prop} {this : Nat} {p1 : Int32} {p2 : Int32} {h : xH} (hw : w_M_task Q this p1 p2 h) : xMet sc m_M_task 2 0 0 [.ref (this), .int (p1), .int (p2)] h Q := by
  unfold w_M_task at hw
  refine xMet.of2 cw_M_task rfl rfl ?_
  show xW sc m_M_task 2 0 0 0 [some (.ref (this)), some (.int (p1)), some (.int (p2)), none] [] h Q
  refine xw_aload_n d_M_task_0 rfl rfl ?_
  refine xw_iconst (v := 0) d_M_task_1 (by decide) ?_
  obtain ⟨f1, hA, hB, hw⟩ := hw
  refine xw_puti fs_M_103 d_M_task_2 hA hB ?_
  generalize hh : xu h this (.inr (8, f1.set 0 (.int (0)))) = h2
  have hw := hw h2 hh.symm
  refine xw_iload_n d_M_task_5 rfl rfl ?_
  refine xc_S1i lk_M_245 st_M_isNode d_M_task_6 (x_M_isNode hw) rfl rfl ?_
  intro x4 h3 hw
  refine xw_if_eq (tgt := 29) d_M_task_9 (by decide) (fun c22 => ?_) (fun c22 => ?_)
  · have hw := hw.1 c22
    refine xw_iconst (v := -1) d_M_task_29 (by decide) ?_
    exact xw_ireturn rfl d_M_task_30 hw
  · have hw := hw.2 c22
    refine xw_aload_n d_M_task_12 rfl rfl ?_
    refine xw_iload_n d_M_task_13 rfl rfl ?_
    obtain ⟨⟨f6, hA⟩, hw⟩ := hw
    refine xc_V1i lk_M_111 in_M_isUp d_M_task_14 (x_M_isUp hw) rfl hA rfl ?_
    intro x7 h5 hw
    refine xw_if_eq (tgt := 29) d_M_task_17 (by decide) (fun c21 => ?_) (fun c21 => ?_)
    · have hw := hw.1 c21
      refine xw_iconst (v := -1) d_M_task_29 (by decide) ?_
      exact xw_ireturn rfl d_M_task_30 hw
    · have hw := hw.2 c21
      refine xw_aload_n d_M_task_20 rfl rfl ?_
      obtain ⟨f8, a9, hA, hB, hw⟩ := hw
      refine xw_getr fr_M_49 d_M_task_21 hA hB ?_
      refine xw_iload_n d_M_task_24 rfl rfl ?_
      obtain ⟨ar20, x10, hA, hB, hC, hw⟩ := hw
      refine xw_iaload (t := 0) rfl d_M_task_25 hA hB hC ?_
      refine xw_if_ne (tgt := 31) d_M_task_26 (by decide) (fun c19 => ?_) (fun c19 => ?_)
      · have hw := hw.1 c19
        refine xw_iconst (v := 4) d_M_task_31 (by decide) ?_
        refine xw_iload_n d_M_task_32 rfl rfl ?_
        refine xw_imul d_M_task_33 ?_
        refine xw_aload_n d_M_task_34 rfl rfl ?_
        refine xw_iload_n d_M_task_35 rfl rfl ?_
        obtain ⟨⟨f12, hA⟩, hw⟩ := hw
        refine xc_V1i lk_M_135 in_M_isData d_M_task_36 (x_M_isData hw) rfl hA rfl ?_
        intro x13 h11 hw
        refine xw_if_eq (tgt := 51) d_M_task_39 (by decide) (fun c18 => ?_) (fun c18 => ?_)
        · have hw := hw.1 c18
          refine xw_iconst (v := 0) d_M_task_51 (by decide) ?_
          exact p_M_task_52  (this) (p1) (p2) (0) (4 * p1) h11 hw
        · have hw := hw.2 c18
          refine xw_aload_n d_M_task_42 rfl rfl ?_
          obtain ⟨f14, a15, hA, hB, hw⟩ := hw
          refine xw_getr fr_M_58 d_M_task_43 hA hB ?_
          refine xw_iload_n d_M_task_46 rfl rfl ?_
          obtain ⟨ar17, x16, hA, hB, hC, hw⟩ := hw
          refine xw_iaload (t := 0) rfl d_M_task_47 hA hB hC ?_
          refine xw_goto (tgt := 52) d_M_task_48 (by decide) ?_
          exact p_M_task_52  (this) (p1) (p2) (x16) (4 * p1) h11 hw
      · have hw := hw.2 c19
        refine xw_iconst (v := -1) d_M_task_29 (by decide) ?_
        exact xw_ireturn rfl d_M_task_30 hw
set_option maxRecDepth 100000 in
def w_M_message_88 (Q : Option Value → xH → Prop) (L54 : Nat → Int32 → Int32 → Int32 → Int32 → xH → Prop) (l0 : Nat) (l1 : Int32) (l2 : Int32) (l3 : Int32) (l4 : Int32) (s0 : Int32) (h : xH) : Prop := L54 (l0) (l1) (l2) (s0) (l4 + 1) h
set_option maxRecDepth 100000 in
set_option maxHeartbeats 4000000 in
theorem p_M_message_88 {sc : List Int32} {Q : Option Value → xH → Prop} {L54 : Nat → Int32 → Int32 → Int32 → Int32 → xH → Prop} (hL54 : ∀ l0 l1 l2 l3 l4 h, L54 l0 l1 l2 l3 l4 h → xW sc m_M_message 1 0 0 54 [some (.ref (l0)), some (.int (l1)), some (.int (l2)), some (.int (l3)), some (.int (l4))] [] h Q) (l0 : Nat) (l1 : Int32) (l2 : Int32) (l3 : Int32) (l4 : Int32) (s0 : Int32) (h : xH) (hw : w_M_message_88 Q L54 l0 l1 l2 l3 l4 s0 h) : xW sc m_M_message 1 0 0 88 [some (.ref (l0)), some (.int (l1)), some (.int (l2)), some (.int (l3)), some (.int (l4))] [.int (s0)] h Q := by
  unfold w_M_message_88 at hw
  refine xs_istore_n (lv' := [some (.ref (l0)), some (.int (l1)), some (.int (l2)), some (.int (s0)), some (.int (l4))]) d_M_message_88 rfl rfl rfl ?_
  refine xs_iinc (v := l4 + 1) (lv' := [some (.ref (l0)), some (.int (l1)), some (.int (l2)), some (.int (s0)), some (.int (l4 + 1))]) d_M_message_89 rfl rfl rfl ?_
  refine xw_goto (tgt := 54) d_M_message_92 (by decide) ?_
  exact hL54 (l0) (l1) (l2) (s0) (l4 + 1) h hw
set_option maxRecDepth 100000 in
def w_M_message_54 (Q : Option Value → xH → Prop) : Nat → Nat → Int32 → Int32 → Int32 → Int32 → xH → Prop
  | 0, _, _, _, _, _, _ => False
  | n + 1, l0, l1, l2, l3, l4, h => ((16 ≤ l4 → Q (some (.int l3)) h) ∧ (¬ 16 ≤ l4 → ∃ (f1 : List Value) (a2 : Nat), h.2 l0 = some (.inr (8, f1)) ∧ f1[32]? = some (.ref a2) ∧ ∃ (ar5 : List Int32) (x3 : Int32), h.2 a2 = some (.inl (0, .inl ar5)) ∧ 0 ≤ (((53 * l1) + 9) + (2 * l4) : Int32) ∧ ar5[(((53 * l1) + 9) + (2 * l4) : Int32).toNatClampNeg]? = some x3 ∧ ((¬ x3 = 1 → w_M_message_88 Q (fun y0 y1 y2 y3 y4 yh => w_M_message_54 Q n y0 y1 y2 y3 y4 yh) (l0) (l1) (l2) (l3) (l4) (l3) h) ∧ (x3 = 1 → w_M_message_88 Q (fun y0 y1 y2 y3 y4 yh => w_M_message_54 Q n y0 y1 y2 y3 y4 yh) (l0) (l1) (l2) (l3) (l4) (l4) h))))
set_option maxRecDepth 100000 in
set_option maxHeartbeats 4000000 in
theorem p_M_message_54 {sc : List Int32} {Q : Option Value → xH → Prop} : ∀ (n : Nat) (l0 : Nat) (l1 : Int32) (l2 : Int32) (l3 : Int32) (l4 : Int32) (h : xH), w_M_message_54 Q n l0 l1 l2 l3 l4 h → xW sc m_M_message 1 0 0 54 [some (.ref (l0)), some (.int (l1)), some (.int (l2)), some (.int (l3)), some (.int (l4))] [] h Q := by
  intro n
  induction n with
  | zero => intro l0 l1 l2 l3 l4 h hw; exact False.elim hw
  | succ n ih =>
    intro l0 l1 l2 l3 l4 h hw
    rw [w_M_message_54] at hw
    refine xw_iload d_M_message_54 rfl ?_
    refine xw_bipush (v := 16) d_M_message_56 (by decide) ?_
    refine xw_icmp_ge (tgt := 95) d_M_message_58 (by decide) (fun c6 => ?_) (fun c6 => ?_)
    · have hw := hw.1 c6
      refine xw_iload_n d_M_message_95 rfl rfl ?_
      exact xw_ireturn rfl d_M_message_96 hw
    · have hw := hw.2 c6
      refine xw_aload_n d_M_message_61 rfl rfl ?_
      obtain ⟨f1, a2, hA, hB, hw⟩ := hw
      refine xw_getr fr_M_97 d_M_message_62 hA hB ?_
      refine xw_bipush (v := 53) d_M_message_65 (by decide) ?_
      refine xw_iload_n d_M_message_67 rfl rfl ?_
      refine xw_imul d_M_message_68 ?_
      refine xw_bipush (v := 9) d_M_message_69 (by decide) ?_
      refine xw_iadd d_M_message_71 ?_
      refine xw_iconst (v := 2) d_M_message_72 (by decide) ?_
      refine xw_iload d_M_message_73 rfl ?_
      refine xw_imul d_M_message_75 ?_
      refine xw_iadd d_M_message_76 ?_
      obtain ⟨ar5, x3, hA, hB, hC, hw⟩ := hw
      refine xw_iaload (t := 0) rfl d_M_message_77 hA hB hC ?_
      refine xw_iconst (v := 1) d_M_message_78 (by decide) ?_
      refine xw_icmp_ne (tgt := 87) d_M_message_79 (by decide) (fun c4 => ?_) (fun c4 => ?_)
      · have hw := hw.1 c4
        refine xw_iload_n d_M_message_87 rfl rfl ?_
        exact p_M_message_88 ih (l0) (l1) (l2) (l3) (l4) (l3) h hw
      · have hw := hw.2 c4
        refine xw_iload d_M_message_82 rfl ?_
        refine xw_goto (tgt := 88) d_M_message_84 (by decide) ?_
        exact p_M_message_88 ih (l0) (l1) (l2) (l3) (l4) (l4) h hw
set_option maxRecDepth 100000 in
def w_M_message (Q : Option Value → xH → Prop) (this : Nat) (p1 : Int32) (p2 : Int32) (h : xH) : Prop := ∃ f1, h.2 this = some (.inr (8, f1)) ∧ 0 < f1.length ∧ ∀ h2, h2 = xu h this (.inr (8, f1.set 0 (.int (0)))) → ∃ (f3 : List Value) (x4 : Int32), h2.2 this = some (.inr (8, f3)) ∧ f3[31]? = some (.int x4) ∧ w_M_in (fun v h5 => ∃ (x6 : Int32), v = some (.int x6) ∧ ((x6 = 0 → Q (some (.int (-1))) h5) ∧ (¬ x6 = 0 → w_M_in (fun v h7 => ∃ (x8 : Int32), v = some (.int x8) ∧ ((¬ x8 = 0 → ((9 ≤ p2 → ∃ n9, w_M_message_54 Q n9 (this) (p1) (p2) (-1) (0) h7) ∧ (¬ 9 ≤ p2 → ∃ (f10 : List Value) (a11 : Nat), h7.2 this = some (.inr (8, f10)) ∧ f10[32]? = some (.ref a11) ∧ ∃ (ar13 : List Int32) (x12 : Int32), h7.2 a11 = some (.inl (0, .inl ar13)) ∧ 0 ≤ ((53 * p1) + p2 : Int32) ∧ ar13[((53 * p1) + p2 : Int32).toNatClampNeg]? = some x12 ∧ Q (some (.int x12)) h7))) ∧ (x8 = 0 → Q (some (.int (-1))) h7))) p2 0 9 h5))) p1 0 (x4 - 1) h2
set_option maxRecDepth 100000 in
set_option maxHeartbeats 4000000 in
theorem x_M_message {sc : List Int32} {Q : Option Value → xH → Prop} {this : Nat} {p1 : Int32} {p2 : Int32} {h : xH} (hw : w_M_message Q this p1 p2 h) : xMet sc m_M_message 1 0 0 [.ref (this), .int (p1), .int (p2)] h Q := by
  unfold w_M_message at hw
  refine xMet.of2 cw_M_message rfl rfl ?_
  show xW sc m_M_message 1 0 0 0 [some (.ref (this)), some (.int (p1)), some (.int (p2)), none, none] [] h Q
  refine xw_aload_n d_M_message_0 rfl rfl ?_
  refine xw_iconst (v := 0) d_M_message_1 (by decide) ?_
  obtain ⟨f1, hA, hB, hw⟩ := hw
  refine xw_puti fs_M_103 d_M_message_2 hA hB ?_
  generalize hh : xu h this (.inr (8, f1.set 0 (.int (0)))) = h2
  have hw := hw h2 hh.symm
  refine xw_iload_n d_M_message_5 rfl rfl ?_
  refine xw_iconst (v := 0) d_M_message_6 (by decide) ?_
  refine xw_aload_n d_M_message_7 rfl rfl ?_
  obtain ⟨f3, x4, hA, hB, hw⟩ := hw
  refine xw_getr fr_M_129 d_M_message_8 hA hB ?_
  refine xw_iconst (v := 1) d_M_message_11 (by decide) ?_
  refine xw_isub d_M_message_12 ?_
  refine xc_S3i lk_M_107 st_M_in d_M_message_13 (x_M_in hw) rfl rfl ?_
  intro x6 h5 hw
  refine xw_if_eq (tgt := 29) d_M_message_16 (by decide) (fun c16 => ?_) (fun c16 => ?_)
  · have hw := hw.1 c16
    refine xw_iconst (v := -1) d_M_message_29 (by decide) ?_
    exact xw_ireturn rfl d_M_message_30 hw
  · have hw := hw.2 c16
    refine xw_iload_n d_M_message_19 rfl rfl ?_
    refine xw_iconst (v := 0) d_M_message_20 (by decide) ?_
    refine xw_bipush (v := 9) d_M_message_21 (by decide) ?_
    refine xc_S3i lk_M_107 st_M_in d_M_message_23 (x_M_in hw) rfl rfl ?_
    intro x8 h7 hw
    refine xw_if_ne (tgt := 31) d_M_message_26 (by decide) (fun c15 => ?_) (fun c15 => ?_)
    · have hw := hw.1 c15
      refine xw_iload_n d_M_message_31 rfl rfl ?_
      refine xw_bipush (v := 9) d_M_message_32 (by decide) ?_
      refine xw_icmp_ge (tgt := 49) d_M_message_34 (by decide) (fun c14 => ?_) (fun c14 => ?_)
      · have hw := hw.1 c14
        refine xw_iconst (v := -1) d_M_message_49 (by decide) ?_
        refine xs_istore_n (lv' := [some (.ref (this)), some (.int (p1)), some (.int (p2)), some (.int (-1)), none]) d_M_message_50 rfl rfl rfl ?_
        refine xw_iconst (v := 0) d_M_message_51 (by decide) ?_
        refine xs_istore (lv' := [some (.ref (this)), some (.int (p1)), some (.int (p2)), some (.int (-1)), some (.int (0))]) d_M_message_52 rfl rfl ?_
        obtain ⟨n9, hw⟩ := hw
        exact p_M_message_54  n9 (this) (p1) (p2) (-1) (0) h7 hw
      · have hw := hw.2 c14
        refine xw_aload_n d_M_message_37 rfl rfl ?_
        obtain ⟨f10, a11, hA, hB, hw⟩ := hw
        refine xw_getr fr_M_97 d_M_message_38 hA hB ?_
        refine xw_bipush (v := 53) d_M_message_41 (by decide) ?_
        refine xw_iload_n d_M_message_43 rfl rfl ?_
        refine xw_imul d_M_message_44 ?_
        refine xw_iload_n d_M_message_45 rfl rfl ?_
        refine xw_iadd d_M_message_46 ?_
        obtain ⟨ar13, x12, hA, hB, hC, hw⟩ := hw
        refine xw_iaload (t := 0) rfl d_M_message_47 hA hB hC ?_
        exact xw_ireturn rfl d_M_message_48 hw
    · have hw := hw.2 c15
      refine xw_iconst (v := -1) d_M_message_29 (by decide) ?_
      exact xw_ireturn rfl d_M_message_30 hw
set_option maxRecDepth 100000 in
def w_M_count_29 (Q : Option Value → xH → Prop) (L9 : Nat → Int32 → Int32 → Int32 → xH → Prop) (l0 : Nat) (l1 : Int32) (l2 : Int32) (l3 : Int32) (s0 : Int32) (s1 : Int32) (h : xH) : Prop := L9 (l0) (l1) (s1 + s0) (l3 + 1) h
set_option maxRecDepth 100000 in
set_option maxHeartbeats 4000000 in
theorem p_M_count_29 {sc : List Int32} {Q : Option Value → xH → Prop} {L9 : Nat → Int32 → Int32 → Int32 → xH → Prop} (hL9 : ∀ l0 l1 l2 l3 h, L9 l0 l1 l2 l3 h → xW sc m_M_count 1 0 0 9 [some (.ref (l0)), some (.int (l1)), some (.int (l2)), some (.int (l3))] [] h Q) (l0 : Nat) (l1 : Int32) (l2 : Int32) (l3 : Int32) (s0 : Int32) (s1 : Int32) (h : xH) (hw : w_M_count_29 Q L9 l0 l1 l2 l3 s0 s1 h) : xW sc m_M_count 1 0 0 29 [some (.ref (l0)), some (.int (l1)), some (.int (l2)), some (.int (l3))] [.int (s0), .int (s1)] h Q := by
  unfold w_M_count_29 at hw
  refine xw_iadd d_M_count_29 ?_
  refine xs_istore_n (lv' := [some (.ref (l0)), some (.int (l1)), some (.int (s1 + s0)), some (.int (l3))]) d_M_count_30 rfl rfl rfl ?_
  refine xs_iinc (v := l3 + 1) (lv' := [some (.ref (l0)), some (.int (l1)), some (.int (s1 + s0)), some (.int (l3 + 1))]) d_M_count_31 rfl rfl rfl ?_
  refine xw_goto (tgt := 9) d_M_count_34 (by decide) ?_
  exact hL9 (l0) (l1) (s1 + s0) (l3 + 1) h hw
set_option maxRecDepth 100000 in
def w_M_count_9 (Q : Option Value → xH → Prop) : Nat → Nat → Int32 → Int32 → Int32 → xH → Prop
  | 0, _, _, _, _, _ => False
  | n + 1, l0, l1, l2, l3, h => ((8 ≤ l3 → ((¬ l1 = 0 → ((¬ l1 = 1 → ((¬ l1 = 2 → ((¬ l1 = 3 → ((¬ l1 = 4 → Q (some (.int (-1))) h) ∧ (l1 = 4 → ∃ (f1 : List Value) (x2 : Int32), h.2 l0 = some (.inr (8, f1)) ∧ f1[33]? = some (.int x2) ∧ Q (some (.int x2)) h))) ∧ (l1 = 3 → Q (some (.int l2)) h))) ∧ (l1 = 2 → ∃ (f5 : List Value) (x6 : Int32), h.2 l0 = some (.inr (8, f5)) ∧ f5[34]? = some (.int x6) ∧ Q (some (.int x6)) h))) ∧ (l1 = 1 → ∃ (f8 : List Value) (x9 : Int32), h.2 l0 = some (.inr (8, f8)) ∧ f8[14]? = some (.int x9) ∧ Q (some (.int x9)) h))) ∧ (l1 = 0 → ∃ (f11 : List Value) (x12 : Int32), h.2 l0 = some (.inr (8, f11)) ∧ f11[31]? = some (.int x12) ∧ Q (some (.int x12)) h))) ∧ (¬ 8 ≤ l3 → (∃ f15, h.2 l0 = some (.inr (8, f15))) ∧ w_M_isUp (fun v h14 => ∃ (x16 : Int32), v = some (.int x16) ∧ ((x16 = 0 → w_M_count_29 Q (fun y0 y1 y2 y3 yh => w_M_count_9 Q n y0 y1 y2 y3 yh) (l0) (l1) (l2) (l3) (0) (l2) h14) ∧ (¬ x16 = 0 → w_M_count_29 Q (fun y0 y1 y2 y3 yh => w_M_count_9 Q n y0 y1 y2 y3 yh) (l0) (l1) (l2) (l3) (1) (l2) h14))) l0 l3 h))
set_option maxRecDepth 100000 in
set_option maxHeartbeats 4000000 in
theorem p_M_count_9 {sc : List Int32} {Q : Option Value → xH → Prop} : ∀ (n : Nat) (l0 : Nat) (l1 : Int32) (l2 : Int32) (l3 : Int32) (h : xH), w_M_count_9 Q n l0 l1 l2 l3 h → xW sc m_M_count 1 0 0 9 [some (.ref (l0)), some (.int (l1)), some (.int (l2)), some (.int (l3))] [] h Q := by
  intro n
  induction n with
  | zero => intro l0 l1 l2 l3 h hw; exact False.elim hw
  | succ n ih =>
    intro l0 l1 l2 l3 h hw
    rw [w_M_count_9] at hw
    refine xw_iload_n d_M_count_9 rfl rfl ?_
    refine xw_bipush (v := 8) d_M_count_10 (by decide) ?_
    refine xw_icmp_ge (tgt := 37) d_M_count_12 (by decide) (fun c18 => ?_) (fun c18 => ?_)
    · have hw := hw.1 c18
      refine xw_iload_n d_M_count_37 rfl rfl ?_
      refine xw_if_ne (tgt := 48) d_M_count_38 (by decide) (fun c13 => ?_) (fun c13 => ?_)
      · have hw := hw.1 c13
        refine xw_iload_n d_M_count_48 rfl rfl ?_
        refine xw_iconst (v := 1) d_M_count_49 (by decide) ?_
        refine xw_icmp_ne (tgt := 60) d_M_count_50 (by decide) (fun c10 => ?_) (fun c10 => ?_)
        · have hw := hw.1 c10
          refine xw_iload_n d_M_count_60 rfl rfl ?_
          refine xw_iconst (v := 2) d_M_count_61 (by decide) ?_
          refine xw_icmp_ne (tgt := 72) d_M_count_62 (by decide) (fun c7 => ?_) (fun c7 => ?_)
          · have hw := hw.1 c7
            refine xw_iload_n d_M_count_72 rfl rfl ?_
            refine xw_iconst (v := 3) d_M_count_73 (by decide) ?_
            refine xw_icmp_ne (tgt := 81) d_M_count_74 (by decide) (fun c4 => ?_) (fun c4 => ?_)
            · have hw := hw.1 c4
              refine xw_iload_n d_M_count_81 rfl rfl ?_
              refine xw_iconst (v := 4) d_M_count_82 (by decide) ?_
              refine xw_icmp_ne (tgt := 93) d_M_count_83 (by decide) (fun c3 => ?_) (fun c3 => ?_)
              · have hw := hw.1 c3
                refine xw_iconst (v := -1) d_M_count_93 (by decide) ?_
                exact xw_ireturn rfl d_M_count_94 hw
              · have hw := hw.2 c3
                refine xw_aload_n d_M_count_86 rfl rfl ?_
                obtain ⟨f1, x2, hA, hB, hw⟩ := hw
                refine xw_getr fr_M_132 d_M_count_87 hA hB ?_
                refine xw_goto (tgt := 94) d_M_count_90 (by decide) ?_
                exact xw_ireturn rfl d_M_count_94 hw
            · have hw := hw.2 c4
              refine xw_iload_n d_M_count_77 rfl rfl ?_
              refine xw_goto (tgt := 94) d_M_count_78 (by decide) ?_
              exact xw_ireturn rfl d_M_count_94 hw
          · have hw := hw.2 c7
            refine xw_aload_n d_M_count_65 rfl rfl ?_
            obtain ⟨f5, x6, hA, hB, hw⟩ := hw
            refine xw_getr fr_M_119 d_M_count_66 hA hB ?_
            refine xw_goto (tgt := 94) d_M_count_69 (by decide) ?_
            exact xw_ireturn rfl d_M_count_94 hw
        · have hw := hw.2 c10
          refine xw_aload_n d_M_count_53 rfl rfl ?_
          obtain ⟨f8, x9, hA, hB, hw⟩ := hw
          refine xw_getr fr_M_248 d_M_count_54 hA hB ?_
          refine xw_goto (tgt := 94) d_M_count_57 (by decide) ?_
          exact xw_ireturn rfl d_M_count_94 hw
      · have hw := hw.2 c13
        refine xw_aload_n d_M_count_41 rfl rfl ?_
        obtain ⟨f11, x12, hA, hB, hw⟩ := hw
        refine xw_getr fr_M_129 d_M_count_42 hA hB ?_
        refine xw_goto (tgt := 94) d_M_count_45 (by decide) ?_
        exact xw_ireturn rfl d_M_count_94 hw
    · have hw := hw.2 c18
      refine xw_iload_n d_M_count_15 rfl rfl ?_
      refine xw_aload_n d_M_count_16 rfl rfl ?_
      refine xw_iload_n d_M_count_17 rfl rfl ?_
      obtain ⟨⟨f15, hA⟩, hw⟩ := hw
      refine xc_V1i lk_M_111 in_M_isUp d_M_count_18 (x_M_isUp hw) rfl hA rfl ?_
      intro x16 h14 hw
      refine xw_if_eq (tgt := 28) d_M_count_21 (by decide) (fun c17 => ?_) (fun c17 => ?_)
      · have hw := hw.1 c17
        refine xw_iconst (v := 0) d_M_count_28 (by decide) ?_
        exact p_M_count_29 ih (l0) (l1) (l2) (l3) (0) (l2) h14 hw
      · have hw := hw.2 c17
        refine xw_iconst (v := 1) d_M_count_24 (by decide) ?_
        refine xw_goto (tgt := 29) d_M_count_25 (by decide) ?_
        exact p_M_count_29 ih (l0) (l1) (l2) (l3) (1) (l2) h14 hw
set_option maxRecDepth 100000 in
def w_M_count (Q : Option Value → xH → Prop) (this : Nat) (p1 : Int32) (h : xH) : Prop := ∃ f1, h.2 this = some (.inr (8, f1)) ∧ 0 < f1.length ∧ ∀ h2, h2 = xu h this (.inr (8, f1.set 0 (.int (0)))) → ∃ n3, w_M_count_9 Q n3 (this) (p1) (0) (0) h2
set_option maxRecDepth 100000 in
set_option maxHeartbeats 4000000 in
theorem x_M_count {sc : List Int32} {Q : Option Value → xH → Prop} {this : Nat} {p1 : Int32} {h : xH} (hw : w_M_count Q this p1 h) : xMet sc m_M_count 1 0 0 [.ref (this), .int (p1)] h Q := by
  unfold w_M_count at hw
  refine xMet.of2 cw_M_count rfl rfl ?_
  show xW sc m_M_count 1 0 0 0 [some (.ref (this)), some (.int (p1)), none, none] [] h Q
  refine xw_aload_n d_M_count_0 rfl rfl ?_
  refine xw_iconst (v := 0) d_M_count_1 (by decide) ?_
  obtain ⟨f1, hA, hB, hw⟩ := hw
  refine xw_puti fs_M_103 d_M_count_2 hA hB ?_
  generalize hh : xu h this (.inr (8, f1.set 0 (.int (0)))) = h2
  have hw := hw h2 hh.symm
  refine xw_iconst (v := 0) d_M_count_5 (by decide) ?_
  refine xs_istore_n (lv' := [some (.ref (this)), some (.int (p1)), some (.int (0)), none]) d_M_count_6 rfl rfl rfl ?_
  refine xw_iconst (v := 0) d_M_count_7 (by decide) ?_
  refine xs_istore_n (lv' := [some (.ref (this)), some (.int (p1)), some (.int (0)), some (.int (0))]) d_M_count_8 rfl rfl rfl ?_
  obtain ⟨n3, hw⟩ := hw
  exact p_M_count_9  n3 (this) (p1) (0) (0) h2 hw
