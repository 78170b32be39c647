set_option maxRecDepth 100000 in
def w_M_goesOn_0 (Q : Option Value → xH → Prop) : Nat → Nat → Int32 → xH → Prop
  | 0, _, _, _ => False
  | n + 1, l0, l1, h => (∃ f2, h.2 l0 = some (.inr (8, f2))) ∧ w_M_isUp (fun v h1 => ∃ (x3 : Int32), v = some (.int x3) ∧ ((x3 = 0 → Q none h1) ∧ (¬ x3 = 0 → ∃ (f4 : List Value) (a5 : Nat), h1.2 l0 = some (.inr (8, f4)) ∧ f4[17]? = some (.ref a5) ∧ ∃ (ar21 : List Int32) (x6 : Int32), h1.2 a5 = some (.inl (0, .inl ar21)) ∧ 0 ≤ l1 ∧ ar21[l1.toNatClampNeg]? = some x6 ∧ ((x6 ≤ 0 → Q none h1) ∧ (¬ x6 ≤ 0 → (∃ f8, h1.2 l0 = some (.inr (8, f8))) ∧ w_M_isEnough (fun v h7 => ∃ (x9 : Int32), v = some (.int x9) ∧ ((x9 = 0 → Q none h7) ∧ (¬ x9 = 0 → ∃ (f10 : List Value) (a11 : Nat), h7.2 l0 = some (.inr (8, f10)) ∧ f10[17]? = some (.ref a11) ∧ ∃ (ar18 : List Int32) (x12 : Int32), h7.2 a11 = some (.inl (0, .inl ar18)) ∧ 0 ≤ l1 ∧ ar18[l1.toNatClampNeg]? = some x12 ∧ ((¬ x12 = 1 → (∃ f14, h7.2 l0 = some (.inr (8, f14))) ∧ w_M_ends (fun v h13 => v = none ∧ w_M_goesOn_0 Q n (l0) (l1) h13) l0 l1 h7) ∧ (x12 = 1 → (∃ f16, h7.2 l0 = some (.inr (8, f16))) ∧ w_M_second (fun v h15 => v = none ∧ w_M_goesOn_0 Q n (l0) (l1) h15) l0 l1 h7))))) l0 l1 h1))))) l0 l1 h
set_option maxRecDepth 100000 in
set_option maxHeartbeats 4000000 in
theorem p_M_goesOn_0 {sc : List Int32} {Q : Option Value → xH → Prop} : ∀ (n : Nat) (l0 : Nat) (l1 : Int32) (h : xH), w_M_goesOn_0 Q n l0 l1 h → xW sc m_M_goesOn 8 0 0 0 [some (.ref (l0)), some (.int (l1))] [] h Q := by
  intro n
  induction n with
  | zero => intro l0 l1 h hw; exact False.elim hw
  | succ n ih =>
    intro l0 l1 h hw
    rw [w_M_goesOn_0] at hw
    refine xw_aload_n d_M_goesOn_0 rfl rfl ?_
    refine xw_iload_n d_M_goesOn_1 rfl rfl ?_
    obtain ⟨⟨f2, hA⟩, hw⟩ := hw
    refine xc_V1i lk_M_111 in_M_isUp d_M_goesOn_2 (x_M_isUp hw) rfl hA rfl ?_
    intro x3 h1 hw
    refine xw_if_eq (tgt := 51) d_M_goesOn_5 (by decide) (fun c22 => ?_) (fun c22 => ?_)
    · have hw := hw.1 c22
      exact xw_return rfl d_M_goesOn_51 hw
    · have hw := hw.2 c22
      refine xw_aload_n d_M_goesOn_8 rfl rfl ?_
      obtain ⟨f4, a5, hA, hB, hw⟩ := hw
      refine xw_getr fr_M_55 d_M_goesOn_9 hA hB ?_
      refine xw_iload_n d_M_goesOn_12 rfl rfl ?_
      obtain ⟨ar21, x6, hA, hB, hC, hw⟩ := hw
      refine xw_iaload (t := 0) rfl d_M_goesOn_13 hA hB hC ?_
      refine xw_if_le (tgt := 51) d_M_goesOn_14 (by decide) (fun c20 => ?_) (fun c20 => ?_)
      · have hw := hw.1 c20
        exact xw_return rfl d_M_goesOn_51 hw
      · have hw := hw.2 c20
        refine xw_aload_n d_M_goesOn_17 rfl rfl ?_
        refine xw_iload_n d_M_goesOn_18 rfl rfl ?_
        obtain ⟨⟨f8, hA⟩, hw⟩ := hw
        refine xc_V1i lk_M_194 in_M_isEnough d_M_goesOn_19 (x_M_isEnough hw) rfl hA rfl ?_
        intro x9 h7 hw
        refine xw_if_eq (tgt := 51) d_M_goesOn_22 (by decide) (fun c19 => ?_) (fun c19 => ?_)
        · have hw := hw.1 c19
          exact xw_return rfl d_M_goesOn_51 hw
        · have hw := hw.2 c19
          refine xw_aload_n d_M_goesOn_25 rfl rfl ?_
          obtain ⟨f10, a11, hA, hB, hw⟩ := hw
          refine xw_getr fr_M_55 d_M_goesOn_26 hA hB ?_
          refine xw_iload_n d_M_goesOn_29 rfl rfl ?_
          obtain ⟨ar18, x12, hA, hB, hC, hw⟩ := hw
          refine xw_iaload (t := 0) rfl d_M_goesOn_30 hA hB hC ?_
          refine xw_iconst (v := 1) d_M_goesOn_31 (by decide) ?_
          refine xw_icmp_ne (tgt := 43) d_M_goesOn_32 (by decide) (fun c17 => ?_) (fun c17 => ?_)
          · have hw := hw.1 c17
            refine xw_aload_n d_M_goesOn_43 rfl rfl ?_
            refine xw_iload_n d_M_goesOn_44 rfl rfl ?_
            obtain ⟨⟨f14, hA⟩, hw⟩ := hw
            refine xc_V1n lk_M_200 in_M_ends d_M_goesOn_45 (x_M_ends hw) rfl hA rfl ?_
            intro h13 hw
            refine xw_goto (tgt := 0) d_M_goesOn_48 (by decide) ?_
            exact ih (l0) (l1) h13 hw
          · have hw := hw.2 c17
            refine xw_aload_n d_M_goesOn_35 rfl rfl ?_
            refine xw_iload_n d_M_goesOn_36 rfl rfl ?_
            obtain ⟨⟨f16, hA⟩, hw⟩ := hw
            refine xc_V1n lk_M_197 in_M_second d_M_goesOn_37 (x_M_second hw) rfl hA rfl ?_
            intro h15 hw
            refine xw_goto (tgt := 0) d_M_goesOn_40 (by decide) ?_
            exact ih (l0) (l1) h15 hw
set_option maxRecDepth 100000 in
def w_M_goesOn (Q : Option Value → xH → Prop) (this : Nat) (p1 : Int32) (h : xH) : Prop := ∃ n1, w_M_goesOn_0 Q n1 (this) (p1) h
set_option maxRecDepth 100000 in
set_option maxHeartbeats 4000000 in
theorem x_M_goesOn {sc : List Int32} {Q : Option Value → xH → Prop} {this : Nat} {p1 : Int32} {h : xH} (hw : w_M_goesOn Q this p1 h) : xMet sc m_M_goesOn 8 0 0 [.ref (this), .int (p1)] h Q := by
  unfold w_M_goesOn at hw
  refine xMet.of2 cw_M_goesOn rfl rfl ?_
  show xW sc m_M_goesOn 8 0 0 0 [some (.ref (this)), some (.int (p1))] [] h Q
  obtain ⟨n1, hw⟩ := hw
  exact p_M_goesOn_0  n1 (this) (p1) h hw
set_option maxRecDepth 100000 in
def w_M_looks_88 (Q : Option Value → xH → Prop) (l0 : Nat) (l1 : Int32) (l2 : Int32) (h : xH) : Prop := (∃ f2, h.2 l0 = some (.inr (8, f2))) ∧ w_M_goesOn (fun v h1 => v = none ∧ Q none h1) l0 l1 h
set_option maxRecDepth 100000 in
set_option maxHeartbeats 4000000 in
theorem p_M_looks_88 {sc : List Int32} {Q : Option Value → xH → Prop} (l0 : Nat) (l1 : Int32) (l2 : Int32) (h : xH) (hw : w_M_looks_88 Q l0 l1 l2 h) : xW sc m_M_looks 9 0 0 88 [some (.ref (l0)), some (.int (l1)), some (.int (l2))] [] h Q := by
  unfold w_M_looks_88 at hw
  refine xw_aload_n d_M_looks_88 rfl rfl ?_
  refine xw_iload_n d_M_looks_89 rfl rfl ?_
  obtain ⟨⟨f2, hA⟩, hw⟩ := hw
  refine xc_V1n lk_M_216 in_M_goesOn d_M_looks_90 (x_M_goesOn hw) rfl hA rfl ?_
  intro h1 hw
  exact xw_return rfl d_M_looks_93 hw
set_option maxRecDepth 100000 in
def w_M_looks_41 (Q : Option Value → xH → Prop) (l0 : Nat) (l1 : Int32) (l2 : Int32) (h : xH) : Prop := (∃ f2, h.2 l0 = some (.inr (8, f2))) ∧ w_M_allActive (fun v h1 => ∃ (x3 : Int32), v = some (.int x3) ∧ (∃ f5, h1.2 l0 = some (.inr (8, f5))) ∧ w_M_ask (fun v h4 => v = none ∧ w_M_looks_88 Q (l0) (l1) (l2) h4) l0 l1 x3 h1) l0 l1 h
set_option maxRecDepth 100000 in
set_option maxHeartbeats 4000000 in
theorem p_M_looks_41 {sc : List Int32} {Q : Option Value → xH → Prop} (l0 : Nat) (l1 : Int32) (l2 : Int32) (h : xH) (hw : w_M_looks_41 Q l0 l1 l2 h) : xW sc m_M_looks 9 0 0 41 [some (.ref (l0)), some (.int (l1)), some (.int (l2))] [] h Q := by
  unfold w_M_looks_41 at hw
  refine xw_aload_n d_M_looks_41 rfl rfl ?_
  refine xw_iload_n d_M_looks_42 rfl rfl ?_
  refine xw_aload_n d_M_looks_43 rfl rfl ?_
  refine xw_iload_n d_M_looks_44 rfl rfl ?_
  obtain ⟨⟨f2, hA⟩, hw⟩ := hw
  refine xc_V1i lk_M_173 in_M_allActive d_M_looks_45 (x_M_allActive hw) rfl hA rfl ?_
  intro x3 h1 hw
  obtain ⟨⟨f5, hA⟩, hw⟩ := hw
  refine xc_V2n lk_M_182 in_M_ask d_M_looks_48 (x_M_ask hw) rfl hA rfl ?_
  intro h4 hw
  refine xw_goto (tgt := 88) d_M_looks_51 (by decide) ?_
  exact p_M_looks_88  (l0) (l1) (l2) h4 hw
set_option maxRecDepth 100000 in
def w_M_looks (Q : Option Value → xH → Prop) (this : Nat) (p1 : Int32) (p2 : Int32) (h : xH) : Prop := ∃ (f1 : List Value) (a2 : Nat), h.2 this = some (.inr (8, f1)) ∧ f1[17]? = some (.ref a2) ∧ ∃ (ar33 : List Int32) (x3 : Int32), h.2 a2 = some (.inl (0, .inl ar33)) ∧ 0 ≤ p1 ∧ ar33[p1.toNatClampNeg]? = some x3 ∧ ((¬ x3 = 0 → (∃ f5, h.2 this = some (.inr (8, f5))) ∧ w_M_isData (fun v h4 => ∃ (x6 : Int32), v = some (.int x6) ∧ ((x6 = 0 → ∃ (f7 : List Value) (a8 : Nat), h4.2 this = some (.inr (8, f7)) ∧ f7[16]? = some (.ref a8) ∧ ∃ (ar22 : List Int32) (x9 : Int32), h4.2 a8 = some (.inl (0, .inl ar22)) ∧ 0 ≤ p1 ∧ ar22[p1.toNatClampNeg]? = some x9 ∧ ((¬ x9 = 3 → w_M_looks_88 Q (this) (p1) (p2) h4) ∧ (x9 = 3 → ∃ (f10 : List Value) (a11 : Nat), h4.2 this = some (.inr (8, f10)) ∧ f10[9]? = some (.ref a11) ∧ ∃ (f12 : List Value) (a13 : Nat), h4.2 this = some (.inr (8, f12)) ∧ f12[18]? = some (.ref a13) ∧ ∃ (ar20 : List Int32) (x14 : Int32), h4.2 a13 = some (.inl (0, .inl ar20)) ∧ 0 ≤ p1 ∧ ar20[p1.toNatClampNeg]? = some x14 ∧ ∃ (ar19 : List Int32) (x15 : Int32), h4.2 a11 = some (.inl (0, .inl ar19)) ∧ 0 ≤ ((16 * p1) + x14 : Int32) ∧ ar19[((16 * p1) + x14 : Int32).toNatClampNeg]? = some x15 ∧ ((x15 = 0 → w_M_looks_88 Q (this) (p1) (p2) h4) ∧ (¬ x15 = 0 → (∃ f17, h4.2 this = some (.inr (8, f17))) ∧ w_M_proposed (fun v h16 => v = none ∧ w_M_looks_88 Q (this) (p1) (p2) h16) this p1 h4))))) ∧ (¬ x6 = 0 → ∃ (f23 : List Value) (a24 : Nat), h4.2 this = some (.inr (8, f23)) ∧ f23[17]? = some (.ref a24) ∧ ∃ (ar30 : List Int32) (x25 : Int32), h4.2 a24 = some (.inl (0, .inl ar30)) ∧ 0 ≤ p1 ∧ ar30[p1.toNatClampNeg]? = some x25 ∧ ((¬ x25 = 1 → w_M_looks_41 Q (this) (p1) (p2) h4) ∧ (x25 = 1 → ((p2 = 0 → w_M_looks_41 Q (this) (p1) (p2) h4) ∧ (¬ p2 = 0 → (∃ f27, h4.2 this = some (.inr (8, f27))) ∧ w_M_begins (fun v h26 => v = none ∧ w_M_looks_88 Q (this) (p1) (p2) h26) this p1 1 h4))))))) this p1 h) ∧ (x3 = 0 → Q none h))
set_option maxRecDepth 100000 in
set_option maxHeartbeats 4000000 in
theorem x_M_looks {sc : List Int32} {Q : Option Value → xH → Prop} {this : Nat} {p1 : Int32} {p2 : Int32} {h : xH} (hw : w_M_looks Q this p1 p2 h) : xMet sc m_M_looks 9 0 0 [.ref (this), .int (p1), .int (p2)] h Q := by
  unfold w_M_looks at hw
  refine xMet.of2 cw_M_looks rfl rfl ?_
  show xW sc m_M_looks 9 0 0 0 [some (.ref (this)), some (.int (p1)), some (.int (p2))] [] h Q
  refine xw_aload_n d_M_looks_0 rfl rfl ?_
  obtain ⟨f1, a2, hA, hB, hw⟩ := hw
  refine xw_getr fr_M_55 d_M_looks_1 hA hB ?_
  refine xw_iload_n d_M_looks_4 rfl rfl ?_
  obtain ⟨ar33, x3, hA, hB, hC, hw⟩ := hw
  refine xw_iaload (t := 0) rfl d_M_looks_5 hA hB hC ?_
  refine xw_if_ne (tgt := 10) d_M_looks_6 (by decide) (fun c32 => ?_) (fun c32 => ?_)
  · have hw := hw.1 c32
    refine xw_aload_n d_M_looks_10 rfl rfl ?_
    refine xw_iload_n d_M_looks_11 rfl rfl ?_
    obtain ⟨⟨f5, hA⟩, hw⟩ := hw
    refine xc_V1i lk_M_135 in_M_isData d_M_looks_12 (x_M_isData hw) rfl hA rfl ?_
    intro x6 h4 hw
    refine xw_if_eq (tgt := 54) d_M_looks_15 (by decide) (fun c31 => ?_) (fun c31 => ?_)
    · have hw := hw.1 c31
      refine xw_aload_n d_M_looks_54 rfl rfl ?_
      obtain ⟨f7, a8, hA, hB, hw⟩ := hw
      refine xw_getr fr_M_52 d_M_looks_55 hA hB ?_
      refine xw_iload_n d_M_looks_58 rfl rfl ?_
      obtain ⟨ar22, x9, hA, hB, hC, hw⟩ := hw
      refine xw_iaload (t := 0) rfl d_M_looks_59 hA hB hC ?_
      refine xw_iconst (v := 3) d_M_looks_60 (by decide) ?_
      refine xw_icmp_ne (tgt := 88) d_M_looks_61 (by decide) (fun c21 => ?_) (fun c21 => ?_)
      · have hw := hw.1 c21
        exact p_M_looks_88  (this) (p1) (p2) h4 hw
      · have hw := hw.2 c21
        refine xw_aload_n d_M_looks_64 rfl rfl ?_
        obtain ⟨f10, a11, hA, hB, hw⟩ := hw
        refine xw_getr fr_M_34 d_M_looks_65 hA hB ?_
        refine xw_bipush (v := 16) d_M_looks_68 (by decide) ?_
        refine xw_iload_n d_M_looks_70 rfl rfl ?_
        refine xw_imul d_M_looks_71 ?_
        refine xw_aload_n d_M_looks_72 rfl rfl ?_
        obtain ⟨f12, a13, hA, hB, hw⟩ := hw
        refine xw_getr fr_M_58 d_M_looks_73 hA hB ?_
        refine xw_iload_n d_M_looks_76 rfl rfl ?_
        obtain ⟨ar20, x14, hA, hB, hC, hw⟩ := hw
        refine xw_iaload (t := 0) rfl d_M_looks_77 hA hB hC ?_
        refine xw_iadd d_M_looks_78 ?_
        obtain ⟨ar19, x15, hA, hB, hC, hw⟩ := hw
        refine xw_iaload (t := 0) rfl d_M_looks_79 hA hB hC ?_
        refine xw_if_eq (tgt := 88) d_M_looks_80 (by decide) (fun c18 => ?_) (fun c18 => ?_)
        · have hw := hw.1 c18
          exact p_M_looks_88  (this) (p1) (p2) h4 hw
        · have hw := hw.2 c18
          refine xw_aload_n d_M_looks_83 rfl rfl ?_
          refine xw_iload_n d_M_looks_84 rfl rfl ?_
          obtain ⟨⟨f17, hA⟩, hw⟩ := hw
          refine xc_V1n lk_M_210 in_M_proposed d_M_looks_85 (x_M_proposed hw) rfl hA rfl ?_
          intro h16 hw
          exact p_M_looks_88  (this) (p1) (p2) h16 hw
    · have hw := hw.2 c31
      refine xw_aload_n d_M_looks_18 rfl rfl ?_
      obtain ⟨f23, a24, hA, hB, hw⟩ := hw
      refine xw_getr fr_M_55 d_M_looks_19 hA hB ?_
      refine xw_iload_n d_M_looks_22 rfl rfl ?_
      obtain ⟨ar30, x25, hA, hB, hC, hw⟩ := hw
      refine xw_iaload (t := 0) rfl d_M_looks_23 hA hB hC ?_
      refine xw_iconst (v := 1) d_M_looks_24 (by decide) ?_
      refine xw_icmp_ne (tgt := 41) d_M_looks_25 (by decide) (fun c29 => ?_) (fun c29 => ?_)
      · have hw := hw.1 c29
        exact p_M_looks_41  (this) (p1) (p2) h4 hw
      · have hw := hw.2 c29
        refine xw_iload_n d_M_looks_28 rfl rfl ?_
        refine xw_if_eq (tgt := 41) d_M_looks_29 (by decide) (fun c28 => ?_) (fun c28 => ?_)
        · have hw := hw.1 c28
          exact p_M_looks_41  (this) (p1) (p2) h4 hw
        · have hw := hw.2 c28
          refine xw_aload_n d_M_looks_32 rfl rfl ?_
          refine xw_iload_n d_M_looks_33 rfl rfl ?_
          refine xw_iconst (v := 1) d_M_looks_34 (by decide) ?_
          obtain ⟨⟨f27, hA⟩, hw⟩ := hw
          refine xc_V2n lk_M_203 in_M_begins d_M_looks_35 (x_M_begins hw) rfl hA rfl ?_
          intro h26 hw
          refine xw_goto (tgt := 88) d_M_looks_38 (by decide) ?_
          exact p_M_looks_88  (this) (p1) (p2) h26 hw
  · have hw := hw.2 c32
    exact xw_return rfl d_M_looks_9 hw
set_option maxRecDepth 100000 in
def w_M_hasAnswered (Q : Option Value → xH → Prop) (this : Nat) (p1 : Int32) (h : xH) : Prop := ∃ (f1 : List Value) (a2 : Nat), h.2 this = some (.inr (8, f1)) ∧ f1[21]? = some (.ref a2) ∧ ∃ (ar12 : List Int32) (x3 : Int32), h.2 a2 = some (.inl (0, .inl ar12)) ∧ 0 ≤ p1 ∧ ar12[p1.toNatClampNeg]? = some x3 ∧ ∃ (f4 : List Value) (a5 : Nat), h.2 this = some (.inr (8, f4)) ∧ f4[35]? = some (.ref a5) ∧ ∃ (ar11 : List Int32) (x6 : Int32), h.2 a5 = some (.inl (0, .inl ar11)) ∧ 0 ≤ (1 : Int32) ∧ ar11[(1 : Int32).toNatClampNeg]? = some x6 ∧ ∃ ar7, h.2 a2 = some (.inl (0, .inl ar7)) ∧ 0 ≤ p1 ∧ p1.toNatClampNeg < ar7.length ∧ ∀ h8, h8 = xu h a2 (.inl (0, .inl (ar7.set p1.toNatClampNeg (x3 ||| ((1 : Int32) <<< (x6 &&& 31)))))) → (∃ f10, h8.2 this = some (.inr (8, f10))) ∧ w_M_goesOn (fun v h9 => v = none ∧ Q none h9) this p1 h8
set_option maxRecDepth 100000 in
set_option maxHeartbeats 4000000 in
theorem x_M_hasAnswered {sc : List Int32} {Q : Option Value → xH → Prop} {this : Nat} {p1 : Int32} {h : xH} (hw : w_M_hasAnswered Q this p1 h) : xMet sc m_M_hasAnswered 9 0 0 [.ref (this), .int (p1)] h Q := by
  unfold w_M_hasAnswered at hw
  refine xMet.of2 cw_M_hasAnswered rfl rfl ?_
  show xW sc m_M_hasAnswered 9 0 0 0 [some (.ref (this)), some (.int (p1))] [] h Q
  refine xw_aload_n d_M_hasAnswered_0 rfl rfl ?_
  obtain ⟨f1, a2, hA, hB, hw⟩ := hw
  refine xw_getr fr_M_67 d_M_hasAnswered_1 hA hB ?_
  refine xw_iload_n d_M_hasAnswered_4 rfl rfl ?_
  refine xw_dup2 d_M_hasAnswered_5 rfl rfl ?_
  obtain ⟨ar12, x3, hA, hB, hC, hw⟩ := hw
  refine xw_iaload (t := 0) rfl d_M_hasAnswered_6 hA hB hC ?_
  refine xw_iconst (v := 1) d_M_hasAnswered_7 (by decide) ?_
  refine xw_aload_n d_M_hasAnswered_8 rfl rfl ?_
  obtain ⟨f4, a5, hA, hB, hw⟩ := hw
  refine xw_getr fr_M_100 d_M_hasAnswered_9 hA hB ?_
  refine xw_iconst (v := 1) d_M_hasAnswered_12 (by decide) ?_
  obtain ⟨ar11, x6, hA, hB, hC, hw⟩ := hw
  refine xw_iaload (t := 0) rfl d_M_hasAnswered_13 hA hB hC ?_
  refine xw_ishl d_M_hasAnswered_14 ?_
  refine xw_ior d_M_hasAnswered_15 ?_
  obtain ⟨ar7, hA, hB, hC, hw⟩ := hw
  refine xw_iastore (t := 0) rfl d_M_hasAnswered_16 hA hB hC ?_
  generalize hh : xu h a2 (.inl (0, .inl (ar7.set p1.toNatClampNeg (x3 ||| ((1 : Int32) <<< (x6 &&& 31)))))) = h8
  have hw := hw h8 hh.symm
  refine xw_aload_n d_M_hasAnswered_17 rfl rfl ?_
  refine xw_iload_n d_M_hasAnswered_18 rfl rfl ?_
  obtain ⟨⟨f10, hA⟩, hw⟩ := hw
  refine xc_V1n lk_M_216 in_M_goesOn d_M_hasAnswered_19 (x_M_goesOn hw) rfl hA rfl ?_
  intro h9 hw
  exact xw_return rfl d_M_hasAnswered_22 hw
set_option maxRecDepth 100000 in
def w_M_merges_196 (Q : Option Value → xH → Prop) (L115 : Nat → Int32 → Int32 → Int32 → Int32 → xH → Prop) (l0 : Nat) (l1 : Int32) (l2 : Int32) (l3 : Int32) (l4 : Int32) (l5 : Int32) (h : xH) : Prop := L115 (l0) (l1) (l2) (l3) (l4 + 1) h
set_option maxRecDepth 100000 in
set_option maxHeartbeats 4000000 in
theorem p_M_merges_196 {sc : List Int32} {Q : Option Value → xH → Prop} {L115 : Nat → Int32 → Int32 → Int32 → Int32 → xH → Prop} (hL115 : ∀ l0 l1 l2 l3 l4 h, L115 l0 l1 l2 l3 l4 h → xW sc m_M_merges 10 0 0 115 [some (.ref (l0)), some (.int (l1)), some (.int (l2)), some (.int (l3)), some (.int (l4)), none, none] [] h Q) (l0 : Nat) (l1 : Int32) (l2 : Int32) (l3 : Int32) (l4 : Int32) (l5 : Int32) (h : xH) (hw : w_M_merges_196 Q L115 l0 l1 l2 l3 l4 l5 h) : xW sc m_M_merges 10 0 0 196 [some (.ref (l0)), some (.int (l1)), some (.int (l2)), some (.int (l3)), some (.int (l4)), some (.int (l5)), none] [] h Q := by
  unfold w_M_merges_196 at hw
  refine xs_iinc (v := l4 + 1) (lv' := [some (.ref (l0)), some (.int (l1)), some (.int (l2)), some (.int (l3)), some (.int (l4 + 1)), some (.int (l5)), none]) d_M_merges_196 rfl rfl rfl ?_
  refine xw_goto (tgt := 115) d_M_merges_199 (by decide) ?_
  refine xs_drop (lv' := [some (.ref (l0)), some (.int (l1)), some (.int (l2)), some (.int (l3)), some (.int (l4 + 1)), none, none]) 5 rfl ?_
  exact hL115 (l0) (l1) (l2) (l3) (l4 + 1) h hw
set_option maxRecDepth 100000 in
def w_M_merges_115 (Q : Option Value → xH → Prop) : Nat → Nat → Int32 → Int32 → Int32 → Int32 → xH → Prop
  | 0, _, _, _, _, _, _ => False
  | n + 1, l0, l1, l2, l3, l4, h => ((16 ≤ l4 → (∃ f2, h.2 l0 = some (.inr (8, f2))) ∧ w_M_looks (fun v h1 => v = none ∧ Q none h1) l0 l1 l3 h) ∧ (¬ 16 ≤ l4 → ∃ (f3 : List Value) (a4 : Nat), h.2 l0 = some (.inr (8, f3)) ∧ f3[35]? = some (.ref a4) ∧ ∃ (ar27 : List Int32) (x5 : Int32), h.2 a4 = some (.inl (0, .inl ar27)) ∧ 0 ≤ (9 + (2 * l4) : Int32) ∧ ar27[(9 + (2 * l4) : Int32).toNatClampNeg]? = some x5 ∧ ∃ (f6 : List Value) (a7 : Nat), h.2 l0 = some (.inr (8, f6)) ∧ f6[9]? = some (.ref a7) ∧ ∃ (ar26 : List Int32) (x8 : Int32), h.2 a7 = some (.inl (0, .inl ar26)) ∧ 0 ≤ ((16 * l1) + l4 : Int32) ∧ ar26[((16 * l1) + l4 : Int32).toNatClampNeg]? = some x8 ∧ ((x8 < x5 → ∃ (f9 : List Value) (a10 : Nat), h.2 l0 = some (.inr (8, f9)) ∧ f9[9]? = some (.ref a10) ∧ ∃ (f11 : List Value) (a12 : Nat), h.2 l0 = some (.inr (8, f11)) ∧ f11[35]? = some (.ref a12) ∧ ∃ (ar24 : List Int32) (x13 : Int32), h.2 a12 = some (.inl (0, .inl ar24)) ∧ 0 ≤ (9 + (2 * l4) : Int32) ∧ ar24[(9 + (2 * l4) : Int32).toNatClampNeg]? = some x13 ∧ ∃ ar14, h.2 a10 = some (.inl (0, .inl ar14)) ∧ 0 ≤ ((16 * l1) + l4 : Int32) ∧ ((16 * l1) + l4 : Int32).toNatClampNeg < ar14.length ∧ ∀ h15, h15 = xu h a10 (.inl (0, .inl (ar14.set ((16 * l1) + l4 : Int32).toNatClampNeg x13))) → ∃ (f16 : List Value) (a17 : Nat), h15.2 l0 = some (.inr (8, f16)) ∧ f16[10]? = some (.ref a17) ∧ ∃ (f18 : List Value) (a19 : Nat), h15.2 l0 = some (.inr (8, f18)) ∧ f18[35]? = some (.ref a19) ∧ ∃ (ar23 : List Int32) (x20 : Int32), h15.2 a19 = some (.inl (0, .inl ar23)) ∧ 0 ≤ ((9 + (2 * l4)) + 1 : Int32) ∧ ar23[((9 + (2 * l4)) + 1 : Int32).toNatClampNeg]? = some x20 ∧ ∃ ar21, h15.2 a17 = some (.inl (0, .inl ar21)) ∧ 0 ≤ ((16 * l1) + l4 : Int32) ∧ ((16 * l1) + l4 : Int32).toNatClampNeg < ar21.length ∧ ∀ h22, h22 = xu h15 a17 (.inl (0, .inl (ar21.set ((16 * l1) + l4 : Int32).toNatClampNeg x20))) → w_M_merges_196 Q (fun y0 y1 y2 y3 y4 yh => w_M_merges_115 Q n y0 y1 y2 y3 y4 yh) (l0) (l1) (l2) (l3) (l4) ((16 * l1) + l4) h22) ∧ (¬ x8 < x5 → w_M_merges_196 Q (fun y0 y1 y2 y3 y4 yh => w_M_merges_115 Q n y0 y1 y2 y3 y4 yh) (l0) (l1) (l2) (l3) (l4) ((16 * l1) + l4) h))))
set_option maxRecDepth 100000 in
set_option maxHeartbeats 4000000 in
theorem p_M_merges_115 {sc : List Int32} {Q : Option Value → xH → Prop} : ∀ (n : Nat) (l0 : Nat) (l1 : Int32) (l2 : Int32) (l3 : Int32) (l4 : Int32) (h : xH), w_M_merges_115 Q n l0 l1 l2 l3 l4 h → xW sc m_M_merges 10 0 0 115 [some (.ref (l0)), some (.int (l1)), some (.int (l2)), some (.int (l3)), some (.int (l4)), none, none] [] h Q := by
  intro n
  induction n with
  | zero => intro l0 l1 l2 l3 l4 h hw; exact False.elim hw
  | succ n ih =>
    intro l0 l1 l2 l3 l4 h hw
    rw [w_M_merges_115] at hw
    refine xw_iload d_M_merges_115 rfl ?_
    refine xw_bipush (v := 16) d_M_merges_117 (by decide) ?_
    refine xw_icmp_ge (tgt := 202) d_M_merges_119 (by decide) (fun c28 => ?_) (fun c28 => ?_)
    · have hw := hw.1 c28
      refine xw_aload_n d_M_merges_202 rfl rfl ?_
      refine xw_iload_n d_M_merges_203 rfl rfl ?_
      refine xw_iload_n d_M_merges_204 rfl rfl ?_
      obtain ⟨⟨f2, hA⟩, hw⟩ := hw
      refine xc_V2n lk_M_219 in_M_looks d_M_merges_205 (x_M_looks hw) rfl hA rfl ?_
      intro h1 hw
      exact xw_return rfl d_M_merges_208 hw
    · have hw := hw.2 c28
      refine xw_bipush (v := 16) d_M_merges_122 (by decide) ?_
      refine xw_iload_n d_M_merges_124 rfl rfl ?_
      refine xw_imul d_M_merges_125 ?_
      refine xw_iload d_M_merges_126 rfl ?_
      refine xw_iadd d_M_merges_128 ?_
      refine xs_istore (lv' := [some (.ref (l0)), some (.int (l1)), some (.int (l2)), some (.int (l3)), some (.int (l4)), some (.int ((16 * l1) + l4)), none]) d_M_merges_129 rfl rfl ?_
      refine xw_aload_n d_M_merges_131 rfl rfl ?_
      obtain ⟨f3, a4, hA, hB, hw⟩ := hw
      refine xw_getr fr_M_100 d_M_merges_132 hA hB ?_
      refine xw_bipush (v := 9) d_M_merges_135 (by decide) ?_
      refine xw_iconst (v := 2) d_M_merges_137 (by decide) ?_
      refine xw_iload d_M_merges_138 rfl ?_
      refine xw_imul d_M_merges_140 ?_
      refine xw_iadd d_M_merges_141 ?_
      obtain ⟨ar27, x5, hA, hB, hC, hw⟩ := hw
      refine xw_iaload (t := 0) rfl d_M_merges_142 hA hB hC ?_
      refine xw_aload_n d_M_merges_143 rfl rfl ?_
      obtain ⟨f6, a7, hA, hB, hw⟩ := hw
      refine xw_getr fr_M_34 d_M_merges_144 hA hB ?_
      refine xw_iload d_M_merges_147 rfl ?_
      obtain ⟨ar26, x8, hA, hB, hC, hw⟩ := hw
      refine xw_iaload (t := 0) rfl d_M_merges_149 hA hB hC ?_
      refine xw_icmp_gt (tgt := 156) d_M_merges_150 (by decide) (fun c25 => ?_) (fun c25 => ?_)
      · have hw := hw.1 c25
        refine xw_aload_n d_M_merges_156 rfl rfl ?_
        obtain ⟨f9, a10, hA, hB, hw⟩ := hw
        refine xw_getr fr_M_34 d_M_merges_157 hA hB ?_
        refine xw_iload d_M_merges_160 rfl ?_
        refine xw_aload_n d_M_merges_162 rfl rfl ?_
        obtain ⟨f11, a12, hA, hB, hw⟩ := hw
        refine xw_getr fr_M_100 d_M_merges_163 hA hB ?_
        refine xw_bipush (v := 9) d_M_merges_166 (by decide) ?_
        refine xw_iconst (v := 2) d_M_merges_168 (by decide) ?_
        refine xw_iload d_M_merges_169 rfl ?_
        refine xw_imul d_M_merges_171 ?_
        refine xw_iadd d_M_merges_172 ?_
        obtain ⟨ar24, x13, hA, hB, hC, hw⟩ := hw
        refine xw_iaload (t := 0) rfl d_M_merges_173 hA hB hC ?_
        obtain ⟨ar14, hA, hB, hC, hw⟩ := hw
        refine xw_iastore (t := 0) rfl d_M_merges_174 hA hB hC ?_
        generalize hh : xu h a10 (.inl (0, .inl (ar14.set ((16 * l1) + l4 : Int32).toNatClampNeg x13))) = h15
        have hw := hw h15 hh.symm
        refine xw_aload_n d_M_merges_175 rfl rfl ?_
        obtain ⟨f16, a17, hA, hB, hw⟩ := hw
        refine xw_getr fr_M_37 d_M_merges_176 hA hB ?_
        refine xw_iload d_M_merges_179 rfl ?_
        refine xw_aload_n d_M_merges_181 rfl rfl ?_
        obtain ⟨f18, a19, hA, hB, hw⟩ := hw
        refine xw_getr fr_M_100 d_M_merges_182 hA hB ?_
        refine xw_bipush (v := 9) d_M_merges_185 (by decide) ?_
        refine xw_iconst (v := 2) d_M_merges_187 (by decide) ?_
        refine xw_iload d_M_merges_188 rfl ?_
        refine xw_imul d_M_merges_190 ?_
        refine xw_iadd d_M_merges_191 ?_
        refine xw_iconst (v := 1) d_M_merges_192 (by decide) ?_
        refine xw_iadd d_M_merges_193 ?_
        obtain ⟨ar23, x20, hA, hB, hC, hw⟩ := hw
        refine xw_iaload (t := 0) rfl d_M_merges_194 hA hB hC ?_
        obtain ⟨ar21, hA, hB, hC, hw⟩ := hw
        refine xw_iastore (t := 0) rfl d_M_merges_195 hA hB hC ?_
        generalize hh : xu h15 a17 (.inl (0, .inl (ar21.set ((16 * l1) + l4 : Int32).toNatClampNeg x20))) = h22
        have hw := hw h22 hh.symm
        exact p_M_merges_196 ih (l0) (l1) (l2) (l3) (l4) ((16 * l1) + l4) h22 hw
      · have hw := hw.2 c25
        refine xw_goto (tgt := 196) d_M_merges_153 (by decide) ?_
        exact p_M_merges_196 ih (l0) (l1) (l2) (l3) (l4) ((16 * l1) + l4) h hw
set_option maxRecDepth 100000 in
def w_M_merges_92 (Q : Option Value → xH → Prop) (L7 : Nat → Int32 → Int32 → Int32 → Int32 → xH → Prop) (l0 : Nat) (l1 : Int32) (l2 : Int32) (l3 : Int32) (l4 : Int32) (l5 : Int32) (l6 : Int32) (s0 : Int32) (h : xH) : Prop := L7 (l0) (l1) (l2) (s0) (l4 + 1) h
set_option maxRecDepth 100000 in
set_option maxHeartbeats 4000000 in
theorem p_M_merges_92 {sc : List Int32} {Q : Option Value → xH → Prop} {L7 : Nat → Int32 → Int32 → Int32 → Int32 → xH → Prop} (hL7 : ∀ l0 l1 l2 l3 l4 h, L7 l0 l1 l2 l3 l4 h → xW sc m_M_merges 10 0 0 7 [some (.ref (l0)), some (.int (l1)), some (.int (l2)), some (.int (l3)), some (.int (l4)), none, none] [] h Q) (l0 : Nat) (l1 : Int32) (l2 : Int32) (l3 : Int32) (l4 : Int32) (l5 : Int32) (l6 : Int32) (s0 : Int32) (h : xH) (hw : w_M_merges_92 Q L7 l0 l1 l2 l3 l4 l5 l6 s0 h) : xW sc m_M_merges 10 0 0 92 [some (.ref (l0)), some (.int (l1)), some (.int (l2)), some (.int (l3)), some (.int (l4)), some (.int (l5)), some (.int (l6))] [.int (s0)] h Q := by
  unfold w_M_merges_92 at hw
  refine xs_istore_n (lv' := [some (.ref (l0)), some (.int (l1)), some (.int (l2)), some (.int (s0)), some (.int (l4)), some (.int (l5)), some (.int (l6))]) d_M_merges_92 rfl rfl rfl ?_
  refine xs_iinc (v := l4 + 1) (lv' := [some (.ref (l0)), some (.int (l1)), some (.int (l2)), some (.int (s0)), some (.int (l4 + 1)), some (.int (l5)), some (.int (l6))]) d_M_merges_93 rfl rfl rfl ?_
  refine xw_goto (tgt := 7) d_M_merges_96 (by decide) ?_
  refine xs_drop (lv' := [some (.ref (l0)), some (.int (l1)), some (.int (l2)), some (.int (s0)), some (.int (l4 + 1)), none, some (.int (l6))]) 5 rfl ?_
  refine xs_drop (lv' := [some (.ref (l0)), some (.int (l1)), some (.int (l2)), some (.int (s0)), some (.int (l4 + 1)), none, none]) 6 rfl ?_
  exact hL7 (l0) (l1) (l2) (s0) (l4 + 1) h hw
set_option maxRecDepth 100000 in
def w_M_merges_91 (Q : Option Value → xH → Prop) (L7 : Nat → Int32 → Int32 → Int32 → Int32 → xH → Prop) (l0 : Nat) (l1 : Int32) (l2 : Int32) (l3 : Int32) (l4 : Int32) (l5 : Int32) (l6 : Int32) (h : xH) : Prop := w_M_merges_92 Q L7 (l0) (l1) (l2) (l3) (l4) (l5) (l6) (0) h
set_option maxRecDepth 100000 in
set_option maxHeartbeats 4000000 in
theorem p_M_merges_91 {sc : List Int32} {Q : Option Value → xH → Prop} {L7 : Nat → Int32 → Int32 → Int32 → Int32 → xH → Prop} (hL7 : ∀ l0 l1 l2 l3 l4 h, L7 l0 l1 l2 l3 l4 h → xW sc m_M_merges 10 0 0 7 [some (.ref (l0)), some (.int (l1)), some (.int (l2)), some (.int (l3)), some (.int (l4)), none, none] [] h Q) (l0 : Nat) (l1 : Int32) (l2 : Int32) (l3 : Int32) (l4 : Int32) (l5 : Int32) (l6 : Int32) (h : xH) (hw : w_M_merges_91 Q L7 l0 l1 l2 l3 l4 l5 l6 h) : xW sc m_M_merges 10 0 0 91 [some (.ref (l0)), some (.int (l1)), some (.int (l2)), some (.int (l3)), some (.int (l4)), some (.int (l5)), some (.int (l6))] [] h Q := by
  unfold w_M_merges_91 at hw
  refine xw_iconst (v := 0) d_M_merges_91 (by decide) ?_
  exact p_M_merges_92 hL7 (l0) (l1) (l2) (l3) (l4) (l5) (l6) (0) h hw
set_option maxRecDepth 100000 in
def w_M_merges_87 (Q : Option Value → xH → Prop) (L7 : Nat → Int32 → Int32 → Int32 → Int32 → xH → Prop) (l0 : Nat) (l1 : Int32) (l2 : Int32) (l3 : Int32) (l4 : Int32) (l5 : Int32) (l6 : Int32) (h : xH) : Prop := w_M_merges_92 Q L7 (l0) (l1) (l2) (l3) (l4) (l5) (l6) (1) h
set_option maxRecDepth 100000 in
set_option maxHeartbeats 4000000 in
theorem p_M_merges_87 {sc : List Int32} {Q : Option Value → xH → Prop} {L7 : Nat → Int32 → Int32 → Int32 → Int32 → xH → Prop} (hL7 : ∀ l0 l1 l2 l3 l4 h, L7 l0 l1 l2 l3 l4 h → xW sc m_M_merges 10 0 0 7 [some (.ref (l0)), some (.int (l1)), some (.int (l2)), some (.int (l3)), some (.int (l4)), none, none] [] h Q) (l0 : Nat) (l1 : Int32) (l2 : Int32) (l3 : Int32) (l4 : Int32) (l5 : Int32) (l6 : Int32) (h : xH) (hw : w_M_merges_87 Q L7 l0 l1 l2 l3 l4 l5 l6 h) : xW sc m_M_merges 10 0 0 87 [some (.ref (l0)), some (.int (l1)), some (.int (l2)), some (.int (l3)), some (.int (l4)), some (.int (l5)), some (.int (l6))] [] h Q := by
  unfold w_M_merges_87 at hw
  refine xw_iconst (v := 1) d_M_merges_87 (by decide) ?_
  refine xw_goto (tgt := 92) d_M_merges_88 (by decide) ?_
  exact p_M_merges_92 hL7 (l0) (l1) (l2) (l3) (l4) (l5) (l6) (1) h hw
set_option maxRecDepth 100000 in
def w_M_merges_66 (Q : Option Value → xH → Prop) (L7 : Nat → Int32 → Int32 → Int32 → Int32 → xH → Prop) (l0 : Nat) (l1 : Int32) (l2 : Int32) (l3 : Int32) (l4 : Int32) (l5 : Int32) (l6 : Int32) (s0 : Int32) (h : xH) : Prop := ((¬ l3 = 0 → w_M_merges_87 Q L7 (l0) (l1) (s0) (l3) (l4) (l5) (l6) h) ∧ (l3 = 0 → ((l6 = 0 → w_M_merges_91 Q L7 (l0) (l1) (s0) (l3) (l4) (l5) (l6) h) ∧ (¬ l6 = 0 → ∃ (f1 : List Value) (a2 : Nat), h.2 l0 = some (.inr (8, f1)) ∧ f1[9]? = some (.ref a2) ∧ ∃ (ar5 : List Int32) (x3 : Int32), h.2 a2 = some (.inl (0, .inl ar5)) ∧ 0 ≤ l5 ∧ ar5[l5.toNatClampNeg]? = some x3 ∧ ((¬ x3 = 1 → w_M_merges_91 Q L7 (l0) (l1) (s0) (l3) (l4) (l5) (l6) h) ∧ (x3 = 1 → w_M_merges_87 Q L7 (l0) (l1) (s0) (l3) (l4) (l5) (l6) h))))))
set_option maxRecDepth 100000 in
set_option maxHeartbeats 4000000 in
theorem p_M_merges_66 {sc : List Int32} {Q : Option Value → xH → Prop} {L7 : Nat → Int32 → Int32 → Int32 → Int32 → xH → Prop} (hL7 : ∀ l0 l1 l2 l3 l4 h, L7 l0 l1 l2 l3 l4 h → xW sc m_M_merges 10 0 0 7 [some (.ref (l0)), some (.int (l1)), some (.int (l2)), some (.int (l3)), some (.int (l4)), none, none] [] h Q) (l0 : Nat) (l1 : Int32) (l2 : Int32) (l3 : Int32) (l4 : Int32) (l5 : Int32) (l6 : Int32) (s0 : Int32) (h : xH) (hw : w_M_merges_66 Q L7 l0 l1 l2 l3 l4 l5 l6 s0 h) : xW sc m_M_merges 10 0 0 66 [some (.ref (l0)), some (.int (l1)), some (.int (l2)), some (.int (l3)), some (.int (l4)), some (.int (l5)), some (.int (l6))] [.int (s0)] h Q := by
  unfold w_M_merges_66 at hw
  refine xs_istore_n (lv' := [some (.ref (l0)), some (.int (l1)), some (.int (s0)), some (.int (l3)), some (.int (l4)), some (.int (l5)), some (.int (l6))]) d_M_merges_66 rfl rfl rfl ?_
  refine xw_iload_n d_M_merges_67 rfl rfl ?_
  refine xw_if_ne (tgt := 87) d_M_merges_68 (by decide) (fun c7 => ?_) (fun c7 => ?_)
  · have hw := hw.1 c7
    exact p_M_merges_87 hL7 (l0) (l1) (s0) (l3) (l4) (l5) (l6) h hw
  · have hw := hw.2 c7
    refine xw_iload d_M_merges_71 rfl ?_
    refine xw_if_eq (tgt := 91) d_M_merges_73 (by decide) (fun c6 => ?_) (fun c6 => ?_)
    · have hw := hw.1 c6
      exact p_M_merges_91 hL7 (l0) (l1) (s0) (l3) (l4) (l5) (l6) h hw
    · have hw := hw.2 c6
      refine xw_aload_n d_M_merges_76 rfl rfl ?_
      obtain ⟨f1, a2, hA, hB, hw⟩ := hw
      refine xw_getr fr_M_34 d_M_merges_77 hA hB ?_
      refine xw_iload d_M_merges_80 rfl ?_
      obtain ⟨ar5, x3, hA, hB, hC, hw⟩ := hw
      refine xw_iaload (t := 0) rfl d_M_merges_82 hA hB hC ?_
      refine xw_iconst (v := 1) d_M_merges_83 (by decide) ?_
      refine xw_icmp_ne (tgt := 91) d_M_merges_84 (by decide) (fun c4 => ?_) (fun c4 => ?_)
      · have hw := hw.1 c4
        exact p_M_merges_91 hL7 (l0) (l1) (s0) (l3) (l4) (l5) (l6) h hw
      · have hw := hw.2 c4
        exact p_M_merges_87 hL7 (l0) (l1) (s0) (l3) (l4) (l5) (l6) h hw
set_option maxRecDepth 100000 in
def w_M_merges_61 (Q : Option Value → xH → Prop) (L7 : Nat → Int32 → Int32 → Int32 → Int32 → xH → Prop) (l0 : Nat) (l1 : Int32) (l2 : Int32) (l3 : Int32) (l4 : Int32) (l5 : Int32) (l6 : Int32) (h : xH) : Prop := w_M_merges_66 Q L7 (l0) (l1) (l2) (l3) (l4) (l5) (l6) (1) h
set_option maxRecDepth 100000 in
set_option maxHeartbeats 4000000 in
theorem p_M_merges_61 {sc : List Int32} {Q : Option Value → xH → Prop} {L7 : Nat → Int32 → Int32 → Int32 → Int32 → xH → Prop} (hL7 : ∀ l0 l1 l2 l3 l4 h, L7 l0 l1 l2 l3 l4 h → xW sc m_M_merges 10 0 0 7 [some (.ref (l0)), some (.int (l1)), some (.int (l2)), some (.int (l3)), some (.int (l4)), none, none] [] h Q) (l0 : Nat) (l1 : Int32) (l2 : Int32) (l3 : Int32) (l4 : Int32) (l5 : Int32) (l6 : Int32) (h : xH) (hw : w_M_merges_61 Q L7 l0 l1 l2 l3 l4 l5 l6 h) : xW sc m_M_merges 10 0 0 61 [some (.ref (l0)), some (.int (l1)), some (.int (l2)), some (.int (l3)), some (.int (l4)), some (.int (l5)), some (.int (l6))] [] h Q := by
  unfold w_M_merges_61 at hw
  refine xw_iconst (v := 1) d_M_merges_61 (by decide) ?_
  refine xw_goto (tgt := 66) d_M_merges_62 (by decide) ?_
  exact p_M_merges_66 hL7 (l0) (l1) (l2) (l3) (l4) (l5) (l6) (1) h hw
set_option maxRecDepth 100000 in
def w_M_merges_50 (Q : Option Value → xH → Prop) (L7 : Nat → Int32 → Int32 → Int32 → Int32 → xH → Prop) (l0 : Nat) (l1 : Int32) (l2 : Int32) (l3 : Int32) (l4 : Int32) (l5 : Int32) (s0 : Int32) (h : xH) : Prop := ((¬ l2 = 0 → w_M_merges_61 Q L7 (l0) (l1) (l2) (l3) (l4) (l5) (s0) h) ∧ (l2 = 0 → ((s0 = 0 → w_M_merges_66 Q L7 (l0) (l1) (l2) (l3) (l4) (l5) (s0) (0) h) ∧ (¬ s0 = 0 → w_M_merges_61 Q L7 (l0) (l1) (l2) (l3) (l4) (l5) (s0) h))))
set_option maxRecDepth 100000 in
set_option maxHeartbeats 4000000 in
theorem p_M_merges_50 {sc : List Int32} {Q : Option Value → xH → Prop} {L7 : Nat → Int32 → Int32 → Int32 → Int32 → xH → Prop} (hL7 : ∀ l0 l1 l2 l3 l4 h, L7 l0 l1 l2 l3 l4 h → xW sc m_M_merges 10 0 0 7 [some (.ref (l0)), some (.int (l1)), some (.int (l2)), some (.int (l3)), some (.int (l4)), none, none] [] h Q) (l0 : Nat) (l1 : Int32) (l2 : Int32) (l3 : Int32) (l4 : Int32) (l5 : Int32) (s0 : Int32) (h : xH) (hw : w_M_merges_50 Q L7 l0 l1 l2 l3 l4 l5 s0 h) : xW sc m_M_merges 10 0 0 50 [some (.ref (l0)), some (.int (l1)), some (.int (l2)), some (.int (l3)), some (.int (l4)), some (.int (l5)), none] [.int (s0)] h Q := by
  unfold w_M_merges_50 at hw
  refine xs_istore (lv' := [some (.ref (l0)), some (.int (l1)), some (.int (l2)), some (.int (l3)), some (.int (l4)), some (.int (l5)), some (.int (s0))]) d_M_merges_50 rfl rfl ?_
  refine xw_iload_n d_M_merges_52 rfl rfl ?_
  refine xw_if_ne (tgt := 61) d_M_merges_53 (by decide) (fun c2 => ?_) (fun c2 => ?_)
  · have hw := hw.1 c2
    exact p_M_merges_61 hL7 (l0) (l1) (l2) (l3) (l4) (l5) (s0) h hw
  · have hw := hw.2 c2
    refine xw_iload d_M_merges_56 rfl ?_
    refine xw_if_eq (tgt := 65) d_M_merges_58 (by decide) (fun c1 => ?_) (fun c1 => ?_)
    · have hw := hw.1 c1
      refine xw_iconst (v := 0) d_M_merges_65 (by decide) ?_
      exact p_M_merges_66 hL7 (l0) (l1) (l2) (l3) (l4) (l5) (s0) (0) h hw
    · have hw := hw.2 c1
      exact p_M_merges_61 hL7 (l0) (l1) (l2) (l3) (l4) (l5) (s0) h hw
set_option maxRecDepth 100000 in
def w_M_merges_7 (Q : Option Value → xH → Prop) : Nat → Nat → Int32 → Int32 → Int32 → Int32 → xH → Prop
  | 0, _, _, _, _, _, _ => False
  | n + 1, l0, l1, l2, l3, l4, h => ((16 ≤ l4 → ((l2 = 0 → Q none h) ∧ (¬ l2 = 0 → (∃ f2, h.2 l0 = some (.inr (8, f2))) ∧ w_M_mayWrite (fun v h1 => ∃ (x3 : Int32), v = some (.int x3) ∧ ((¬ x3 = 0 → ∃ n4, w_M_merges_115 Q n4 (l0) (l1) (l2) (l3) (0) h1) ∧ (x3 = 0 → Q none h1))) l0 l1 h))) ∧ (¬ 16 ≤ l4 → ∃ (f7 : List Value) (a8 : Nat), h.2 l0 = some (.inr (8, f7)) ∧ f7[35]? = some (.ref a8) ∧ ∃ (ar15 : List Int32) (x9 : Int32), h.2 a8 = some (.inl (0, .inl ar15)) ∧ 0 ≤ (9 + (2 * l4) : Int32) ∧ ar15[(9 + (2 * l4) : Int32).toNatClampNeg]? = some x9 ∧ ∃ (f10 : List Value) (a11 : Nat), h.2 l0 = some (.inr (8, f10)) ∧ f10[9]? = some (.ref a11) ∧ ∃ (ar14 : List Int32) (x12 : Int32), h.2 a11 = some (.inl (0, .inl ar14)) ∧ 0 ≤ ((16 * l1) + l4 : Int32) ∧ ar14[((16 * l1) + l4 : Int32).toNatClampNeg]? = some x12 ∧ ((x9 ≤ x12 → w_M_merges_50 Q (fun y0 y1 y2 y3 y4 yh => w_M_merges_7 Q n y0 y1 y2 y3 y4 yh) (l0) (l1) (l2) (l3) (l4) ((16 * l1) + l4) (0) h) ∧ (¬ x9 ≤ x12 → w_M_merges_50 Q (fun y0 y1 y2 y3 y4 yh => w_M_merges_7 Q n y0 y1 y2 y3 y4 yh) (l0) (l1) (l2) (l3) (l4) ((16 * l1) + l4) (1) h))))
set_option maxRecDepth 100000 in
set_option maxHeartbeats 4000000 in
theorem p_M_merges_7 {sc : List Int32} {Q : Option Value → xH → Prop} : ∀ (n : Nat) (l0 : Nat) (l1 : Int32) (l2 : Int32) (l3 : Int32) (l4 : Int32) (h : xH), w_M_merges_7 Q n l0 l1 l2 l3 l4 h → xW sc m_M_merges 10 0 0 7 [some (.ref (l0)), some (.int (l1)), some (.int (l2)), some (.int (l3)), some (.int (l4)), none, none] [] h Q := by
  intro n
  induction n with
  | zero => intro l0 l1 l2 l3 l4 h hw; exact False.elim hw
  | succ n ih =>
    intro l0 l1 l2 l3 l4 h hw
    rw [w_M_merges_7] at hw
    refine xw_iload d_M_merges_7 rfl ?_
    refine xw_bipush (v := 16) d_M_merges_9 (by decide) ?_
    refine xw_icmp_ge (tgt := 99) d_M_merges_11 (by decide) (fun c16 => ?_) (fun c16 => ?_)
    · have hw := hw.1 c16
      refine xw_iload_n d_M_merges_99 rfl rfl ?_
      refine xw_if_eq (tgt := 111) d_M_merges_100 (by decide) (fun c6 => ?_) (fun c6 => ?_)
      · have hw := hw.1 c6
        exact xw_return rfl d_M_merges_111 hw
      · have hw := hw.2 c6
        refine xw_aload_n d_M_merges_103 rfl rfl ?_
        refine xw_iload_n d_M_merges_104 rfl rfl ?_
        obtain ⟨⟨f2, hA⟩, hw⟩ := hw
        refine xc_V1i lk_M_122 in_M_mayWrite d_M_merges_105 (x_M_mayWrite hw) rfl hA rfl ?_
        intro x3 h1 hw
        refine xw_if_ne (tgt := 112) d_M_merges_108 (by decide) (fun c5 => ?_) (fun c5 => ?_)
        · have hw := hw.1 c5
          refine xw_iconst (v := 0) d_M_merges_112 (by decide) ?_
          refine xs_istore (lv' := [some (.ref (l0)), some (.int (l1)), some (.int (l2)), some (.int (l3)), some (.int (0)), none, none]) d_M_merges_113 rfl rfl ?_
          obtain ⟨n4, hw⟩ := hw
          exact p_M_merges_115  n4 (l0) (l1) (l2) (l3) (0) h1 hw
        · have hw := hw.2 c5
          exact xw_return rfl d_M_merges_111 hw
    · have hw := hw.2 c16
      refine xw_bipush (v := 16) d_M_merges_14 (by decide) ?_
      refine xw_iload_n d_M_merges_16 rfl rfl ?_
      refine xw_imul d_M_merges_17 ?_
      refine xw_iload d_M_merges_18 rfl ?_
      refine xw_iadd d_M_merges_20 ?_
      refine xs_istore (lv' := [some (.ref (l0)), some (.int (l1)), some (.int (l2)), some (.int (l3)), some (.int (l4)), some (.int ((16 * l1) + l4)), none]) d_M_merges_21 rfl rfl ?_
      refine xw_aload_n d_M_merges_23 rfl rfl ?_
      obtain ⟨f7, a8, hA, hB, hw⟩ := hw
      refine xw_getr fr_M_100 d_M_merges_24 hA hB ?_
      refine xw_bipush (v := 9) d_M_merges_27 (by decide) ?_
      refine xw_iconst (v := 2) d_M_merges_29 (by decide) ?_
      refine xw_iload d_M_merges_30 rfl ?_
      refine xw_imul d_M_merges_32 ?_
      refine xw_iadd d_M_merges_33 ?_
      obtain ⟨ar15, x9, hA, hB, hC, hw⟩ := hw
      refine xw_iaload (t := 0) rfl d_M_merges_34 hA hB hC ?_
      refine xw_aload_n d_M_merges_35 rfl rfl ?_
      obtain ⟨f10, a11, hA, hB, hw⟩ := hw
      refine xw_getr fr_M_34 d_M_merges_36 hA hB ?_
      refine xw_iload d_M_merges_39 rfl ?_
      obtain ⟨ar14, x12, hA, hB, hC, hw⟩ := hw
      refine xw_iaload (t := 0) rfl d_M_merges_41 hA hB hC ?_
      refine xw_icmp_le (tgt := 49) d_M_merges_42 (by decide) (fun c13 => ?_) (fun c13 => ?_)
      · have hw := hw.1 c13
        refine xw_iconst (v := 0) d_M_merges_49 (by decide) ?_
        exact p_M_merges_50 ih (l0) (l1) (l2) (l3) (l4) ((16 * l1) + l4) (0) h hw
      · have hw := hw.2 c13
        refine xw_iconst (v := 1) d_M_merges_45 (by decide) ?_
        refine xw_goto (tgt := 50) d_M_merges_46 (by decide) ?_
        exact p_M_merges_50 ih (l0) (l1) (l2) (l3) (l4) ((16 * l1) + l4) (1) h hw
set_option maxRecDepth 100000 in
def w_M_merges (Q : Option Value → xH → Prop) (this : Nat) (p1 : Int32) (h : xH) : Prop := ∃ n1, w_M_merges_7 Q n1 (this) (p1) (0) (0) (0) h
set_option maxRecDepth 100000 in
set_option maxHeartbeats 4000000 in
theorem x_M_merges {sc : List Int32} {Q : Option Value → xH → Prop} {this : Nat} {p1 : Int32} {h : xH} (hw : w_M_merges Q this p1 h) : xMet sc m_M_merges 10 0 0 [.ref (this), .int (p1)] h Q := by
  unfold w_M_merges at hw
  refine xMet.of2 cw_M_merges rfl rfl ?_
  show xW sc m_M_merges 10 0 0 0 [some (.ref (this)), some (.int (p1)), none, none, none, none, none] [] h Q
  refine xw_iconst (v := 0) d_M_merges_0 (by decide) ?_
  refine xs_istore_n (lv' := [some (.ref (this)), some (.int (p1)), some (.int (0)), none, none, none, none]) d_M_merges_1 rfl rfl rfl ?_
  refine xw_iconst (v := 0) d_M_merges_2 (by decide) ?_
  refine xs_istore_n (lv' := [some (.ref (this)), some (.int (p1)), some (.int (0)), some (.int (0)), none, none, none]) d_M_merges_3 rfl rfl rfl ?_
  refine xw_iconst (v := 0) d_M_merges_4 (by decide) ?_
  refine xs_istore (lv' := [some (.ref (this)), some (.int (p1)), some (.int (0)), some (.int (0)), some (.int (0)), none, none]) d_M_merges_5 rfl rfl ?_
  obtain ⟨n1, hw⟩ := hw
  exact p_M_merges_7  n1 (this) (p1) (0) (0) (0) h hw
set_option maxRecDepth 100000 in
def w_M_answers_189 (Q : Option Value → xH → Prop) (l0 : Nat) (l1 : Int32) (h : xH) : Prop := (∃ f2, h.2 l0 = some (.inr (8, f2))) ∧ w_M_hasAnswered (fun v h1 => v = none ∧ Q none h1) l0 l1 h
set_option maxRecDepth 100000 in
set_option maxHeartbeats 4000000 in
theorem p_M_answers_189 {sc : List Int32} {Q : Option Value → xH → Prop} (l0 : Nat) (l1 : Int32) (h : xH) (hw : w_M_answers_189 Q l0 l1 h) : xW sc m_M_answers 10 0 0 189 [some (.ref (l0)), some (.int (l1)), none] [] h Q := by
  unfold w_M_answers_189 at hw
  refine xw_aload_n d_M_answers_189 rfl rfl ?_
  refine xw_iload_n d_M_answers_190 rfl rfl ?_
  obtain ⟨⟨f2, hA⟩, hw⟩ := hw
  refine xc_V1n lk_M_242 in_M_hasAnswered d_M_answers_191 (x_M_hasAnswered hw) rfl hA rfl ?_
  intro h1 hw
  exact xw_return rfl d_M_answers_194 hw
set_option maxRecDepth 100000 in
def w_M_answers_132 (Q : Option Value → xH → Prop) : Nat → Nat → Int32 → Int32 → xH → Prop
  | 0, _, _, _, _ => False
  | n + 1, l0, l1, l2, h => ((4 ≤ l2 → w_M_answers_189 Q (l0) (l1) h) ∧ (¬ 4 ≤ l2 → ∃ (f1 : List Value) (a2 : Nat), h.2 l0 = some (.inr (8, f1)) ∧ f1[35]? = some (.ref a2) ∧ ∃ (ar14 : List Int32) (x3 : Int32), h.2 a2 = some (.inl (0, .inl ar14)) ∧ 0 ≤ (41 + (3 * l2) : Int32) ∧ ar14[(41 + (3 * l2) : Int32).toNatClampNeg]? = some x3 ∧ ∃ (f4 : List Value) (a5 : Nat), h.2 l0 = some (.inr (8, f4)) ∧ f4[35]? = some (.ref a5) ∧ ∃ (ar13 : List Int32) (x6 : Int32), h.2 a5 = some (.inl (0, .inl ar13)) ∧ 0 ≤ ((41 + (3 * l2)) + 1 : Int32) ∧ ar13[((41 + (3 * l2)) + 1 : Int32).toNatClampNeg]? = some x6 ∧ ∃ (f7 : List Value) (a8 : Nat), h.2 l0 = some (.inr (8, f7)) ∧ f7[35]? = some (.ref a8) ∧ ∃ (ar12 : List Int32) (x9 : Int32), h.2 a8 = some (.inl (0, .inl ar12)) ∧ 0 ≤ ((41 + (3 * l2)) + 2 : Int32) ∧ ar12[((41 + (3 * l2)) + 2 : Int32).toNatClampNeg]? = some x9 ∧ (∃ f11, h.2 l0 = some (.inr (8, f11))) ∧ w_M_best (fun v h10 => v = none ∧ w_M_answers_132 Q n (l0) (l1) (l2 + 1) h10) l0 l1 l2 x3 x6 x9 h))
set_option maxRecDepth 100000 in
set_option maxHeartbeats 4000000 in
theorem p_M_answers_132 {sc : List Int32} {Q : Option Value → xH → Prop} : ∀ (n : Nat) (l0 : Nat) (l1 : Int32) (l2 : Int32) (h : xH), w_M_answers_132 Q n l0 l1 l2 h → xW sc m_M_answers 10 0 0 132 [some (.ref (l0)), some (.int (l1)), some (.int (l2))] [] h Q := by
  intro n
  induction n with
  | zero => intro l0 l1 l2 h hw; exact False.elim hw
  | succ n ih =>
    intro l0 l1 l2 h hw
    rw [w_M_answers_132] at hw
    refine xw_iload_n d_M_answers_132 rfl rfl ?_
    refine xw_iconst (v := 4) d_M_answers_133 (by decide) ?_
    refine xw_icmp_ge (tgt := 186) d_M_answers_134 (by decide) (fun c15 => ?_) (fun c15 => ?_)
    · have hw := hw.1 c15
      refine xw_goto (tgt := 189) d_M_answers_186 (by decide) ?_
      refine xs_drop (lv' := [some (.ref (l0)), some (.int (l1)), none]) 2 rfl ?_
      exact p_M_answers_189  (l0) (l1) h hw
    · have hw := hw.2 c15
      refine xw_aload_n d_M_answers_137 rfl rfl ?_
      refine xw_iload_n d_M_answers_138 rfl rfl ?_
      refine xw_iload_n d_M_answers_139 rfl rfl ?_
      refine xw_aload_n d_M_answers_140 rfl rfl ?_
      obtain ⟨f1, a2, hA, hB, hw⟩ := hw
      refine xw_getr fr_M_100 d_M_answers_141 hA hB ?_
      refine xw_bipush (v := 41) d_M_answers_144 (by decide) ?_
      refine xw_iconst (v := 3) d_M_answers_146 (by decide) ?_
      refine xw_iload_n d_M_answers_147 rfl rfl ?_
      refine xw_imul d_M_answers_148 ?_
      refine xw_iadd d_M_answers_149 ?_
      obtain ⟨ar14, x3, hA, hB, hC, hw⟩ := hw
      refine xw_iaload (t := 0) rfl d_M_answers_150 hA hB hC ?_
      refine xw_aload_n d_M_answers_151 rfl rfl ?_
      obtain ⟨f4, a5, hA, hB, hw⟩ := hw
      refine xw_getr fr_M_100 d_M_answers_152 hA hB ?_
      refine xw_bipush (v := 41) d_M_answers_155 (by decide) ?_
      refine xw_iconst (v := 3) d_M_answers_157 (by decide) ?_
      refine xw_iload_n d_M_answers_158 rfl rfl ?_
      refine xw_imul d_M_answers_159 ?_
      refine xw_iadd d_M_answers_160 ?_
      refine xw_iconst (v := 1) d_M_answers_161 (by decide) ?_
      refine xw_iadd d_M_answers_162 ?_
      obtain ⟨ar13, x6, hA, hB, hC, hw⟩ := hw
      refine xw_iaload (t := 0) rfl d_M_answers_163 hA hB hC ?_
      refine xw_aload_n d_M_answers_164 rfl rfl ?_
      obtain ⟨f7, a8, hA, hB, hw⟩ := hw
      refine xw_getr fr_M_100 d_M_answers_165 hA hB ?_
      refine xw_bipush (v := 41) d_M_answers_168 (by decide) ?_
      refine xw_iconst (v := 3) d_M_answers_170 (by decide) ?_
      refine xw_iload_n d_M_answers_171 rfl rfl ?_
      refine xw_imul d_M_answers_172 ?_
      refine xw_iadd d_M_answers_173 ?_
      refine xw_iconst (v := 2) d_M_answers_174 (by decide) ?_
      refine xw_iadd d_M_answers_175 ?_
      obtain ⟨ar12, x9, hA, hB, hC, hw⟩ := hw
      refine xw_iaload (t := 0) rfl d_M_answers_176 hA hB hC ?_
      obtain ⟨⟨f11, hA⟩, hw⟩ := hw
      refine xc_V5n lk_M_146 in_M_best d_M_answers_177 (x_M_best hw) rfl hA rfl ?_
      intro h10 hw
      refine xs_iinc (v := l2 + 1) (lv' := [some (.ref (l0)), some (.int (l1)), some (.int (l2 + 1))]) d_M_answers_180 rfl rfl rfl ?_
      refine xw_goto (tgt := 132) d_M_answers_183 (by decide) ?_
      exact ih (l0) (l1) (l2 + 1) h10 hw
set_option maxRecDepth 100000 in
def w_M_answers (Q : Option Value → xH → Prop) (this : Nat) (p1 : Int32) (h : xH) : Prop := ∃ (f1 : List Value) (a2 : Nat), h.2 this = some (.inr (8, f1)) ∧ f1[35]? = some (.ref a2) ∧ ∃ (ar50 : List Int32) (x3 : Int32), h.2 a2 = some (.inl (0, .inl ar50)) ∧ 0 ≤ (0 : Int32) ∧ ar50[(0 : Int32).toNatClampNeg]? = some x3 ∧ ((x3 = 2 → ∃ (f5 : List Value) (a6 : Nat), h.2 this = some (.inr (8, f5)) ∧ f5[18]? = some (.ref a6) ∧ ∃ (ar22 : List Int32) (x7 : Int32), h.2 a6 = some (.inl (0, .inl ar22)) ∧ 0 ≤ p1 ∧ ar22[p1.toNatClampNeg]? = some x7 ∧ ∃ (f8 : List Value) (a9 : Nat), h.2 this = some (.inr (8, f8)) ∧ f8[35]? = some (.ref a9) ∧ ∃ (ar21 : List Int32) (x10 : Int32), h.2 a9 = some (.inl (0, .inl ar21)) ∧ 0 ≤ (6 : Int32) ∧ ar21[(6 : Int32).toNatClampNeg]? = some x10 ∧ ∃ (f11 : List Value) (a12 : Nat), h.2 this = some (.inr (8, f11)) ∧ f11[35]? = some (.ref a12) ∧ ∃ (ar20 : List Int32) (x13 : Int32), h.2 a12 = some (.inl (0, .inl ar20)) ∧ 0 ≤ (7 : Int32) ∧ ar20[(7 : Int32).toNatClampNeg]? = some x13 ∧ ∃ (f14 : List Value) (a15 : Nat), h.2 this = some (.inr (8, f14)) ∧ f14[35]? = some (.ref a15) ∧ ∃ (ar19 : List Int32) (x16 : Int32), h.2 a15 = some (.inl (0, .inl ar19)) ∧ 0 ≤ (8 : Int32) ∧ ar19[(8 : Int32).toNatClampNeg]? = some x16 ∧ (∃ f18, h.2 this = some (.inr (8, f18))) ∧ w_M_best (fun v h17 => v = none ∧ w_M_answers_189 Q (this) (p1) h17) this p1 x7 x10 x13 x16 h) ∧ (x3 = 3 → w_M_answers_189 Q (this) (p1) h) ∧ (x3 = 4 → w_M_answers_189 Q (this) (p1) h) ∧ (x3 = 5 → w_M_answers_189 Q (this) (p1) h) ∧ (x3 = 6 → ∃ (f27 : List Value) (a28 : Nat), h.2 this = some (.inr (8, f27)) ∧ f27[35]? = some (.ref a28) ∧ ∃ (ar36 : List Int32) (x29 : Int32), h.2 a28 = some (.inl (0, .inl ar36)) ∧ 0 ≤ (6 : Int32) ∧ ar36[(6 : Int32).toNatClampNeg]? = some x29 ∧ ∃ (f30 : List Value) (a31 : Nat), h.2 this = some (.inr (8, f30)) ∧ f30[35]? = some (.ref a31) ∧ ∃ (ar35 : List Int32) (x32 : Int32), h.2 a31 = some (.inl (0, .inl ar35)) ∧ 0 ≤ (7 : Int32) ∧ ar35[(7 : Int32).toNatClampNeg]? = some x32 ∧ (∃ f34, h.2 this = some (.inr (8, f34))) ∧ w_M_top (fun v h33 => v = none ∧ w_M_answers_189 Q (this) (p1) h33) this p1 x29 x32 h) ∧ (x3 = 7 → w_M_answers_189 Q (this) (p1) h) ∧ (x3 = 8 → w_M_answers_189 Q (this) (p1) h) ∧ (x3 = 9 → ∃ (f40 : List Value) (a41 : Nat), h.2 this = some (.inr (8, f40)) ∧ f40[35]? = some (.ref a41) ∧ ∃ (ar45 : List Int32) (x42 : Int32), h.2 a41 = some (.inl (0, .inl ar45)) ∧ 0 ≤ (6 : Int32) ∧ ar45[(6 : Int32).toNatClampNeg]? = some x42 ∧ (∃ f44, h.2 this = some (.inr (8, f44))) ∧ w_M_refused (fun v h43 => v = none ∧ Q none h43) this p1 x42 h) ∧ (x3 = 10 → w_M_answers_189 Q (this) (p1) h) ∧ (x3 = 11 → ∃ n48, w_M_answers_132 Q n48 (this) (p1) (0) h) ∧ (¬ x3 = 2 → ¬ x3 = 3 → ¬ x3 = 4 → ¬ x3 = 5 → ¬ x3 = 6 → ¬ x3 = 7 → ¬ x3 = 8 → ¬ x3 = 9 → ¬ x3 = 10 → ¬ x3 = 11 → w_M_answers_189 Q (this) (p1) h))
set_option maxRecDepth 100000 in
set_option maxHeartbeats 4000000 in
theorem x_M_answers {sc : List Int32} {Q : Option Value → xH → Prop} {this : Nat} {p1 : Int32} {h : xH} (hw : w_M_answers Q this p1 h) : xMet sc m_M_answers 10 0 0 [.ref (this), .int (p1)] h Q := by
  unfold w_M_answers at hw
  refine xMet.of2 cw_M_answers rfl rfl ?_
  show xW sc m_M_answers 10 0 0 0 [some (.ref (this)), some (.int (p1)), none] [] h Q
  refine xw_aload_n d_M_answers_0 rfl rfl ?_
  obtain ⟨f1, a2, hA, hB, hw⟩ := hw
  refine xw_getr fr_M_100 d_M_answers_1 hA hB ?_
  refine xw_iconst (v := 0) d_M_answers_4 (by decide) ?_
  obtain ⟨ar50, x3, hA, hB, hC, hw⟩ := hw
  refine xw_iaload (t := 0) rfl d_M_answers_5 hA hB hC ?_
  by_cases c23 : x3 = 2
  · have hw := hw.1 c23
    rw [c23]
    refine xw_tableIn (tgt := 73) (off := 67) d_M_answers_6 (by decide) (by decide) (by decide +kernel) (by decide) ?_
    refine xw_aload_n d_M_answers_73 rfl rfl ?_
    refine xw_iload_n d_M_answers_74 rfl rfl ?_
    refine xw_aload_n d_M_answers_75 rfl rfl ?_
    obtain ⟨f5, a6, hA, hB, hw⟩ := hw
    refine xw_getr fr_M_58 d_M_answers_76 hA hB ?_
    refine xw_iload_n d_M_answers_79 rfl rfl ?_
    obtain ⟨ar22, x7, hA, hB, hC, hw⟩ := hw
    refine xw_iaload (t := 0) rfl d_M_answers_80 hA hB hC ?_
    refine xw_aload_n d_M_answers_81 rfl rfl ?_
    obtain ⟨f8, a9, hA, hB, hw⟩ := hw
    refine xw_getr fr_M_100 d_M_answers_82 hA hB ?_
    refine xw_bipush (v := 6) d_M_answers_85 (by decide) ?_
    obtain ⟨ar21, x10, hA, hB, hC, hw⟩ := hw
    refine xw_iaload (t := 0) rfl d_M_answers_87 hA hB hC ?_
    refine xw_aload_n d_M_answers_88 rfl rfl ?_
    obtain ⟨f11, a12, hA, hB, hw⟩ := hw
    refine xw_getr fr_M_100 d_M_answers_89 hA hB ?_
    refine xw_bipush (v := 7) d_M_answers_92 (by decide) ?_
    obtain ⟨ar20, x13, hA, hB, hC, hw⟩ := hw
    refine xw_iaload (t := 0) rfl d_M_answers_94 hA hB hC ?_
    refine xw_aload_n d_M_answers_95 rfl rfl ?_
    obtain ⟨f14, a15, hA, hB, hw⟩ := hw
    refine xw_getr fr_M_100 d_M_answers_96 hA hB ?_
    refine xw_bipush (v := 8) d_M_answers_99 (by decide) ?_
    obtain ⟨ar19, x16, hA, hB, hC, hw⟩ := hw
    refine xw_iaload (t := 0) rfl d_M_answers_101 hA hB hC ?_
    obtain ⟨⟨f18, hA⟩, hw⟩ := hw
    refine xc_V5n lk_M_146 in_M_best d_M_answers_102 (x_M_best hw) rfl hA rfl ?_
    intro h17 hw
    refine xw_goto (tgt := 189) d_M_answers_105 (by decide) ?_
    exact p_M_answers_189  (this) (p1) h17 hw
  by_cases c24 : x3 = 3
  · have hw := hw.2.1 c24
    rw [c24]
    refine xw_tableIn (tgt := 189) (off := 183) d_M_answers_6 (by decide) (by decide) (by decide +kernel) (by decide) ?_
    exact p_M_answers_189  (this) (p1) h hw
  by_cases c25 : x3 = 4
  · have hw := hw.2.2.1 c25
    rw [c25]
    refine xw_tableIn (tgt := 189) (off := 183) d_M_answers_6 (by decide) (by decide) (by decide +kernel) (by decide) ?_
    exact p_M_answers_189  (this) (p1) h hw
  by_cases c26 : x3 = 5
  · have hw := hw.2.2.2.1 c26
    rw [c26]
    refine xw_tableIn (tgt := 189) (off := 183) d_M_answers_6 (by decide) (by decide) (by decide +kernel) (by decide) ?_
    exact p_M_answers_189  (this) (p1) h hw
  by_cases c37 : x3 = 6
  · have hw := hw.2.2.2.2.1 c37
    rw [c37]
    refine xw_tableIn (tgt := 108) (off := 102) d_M_answers_6 (by decide) (by decide) (by decide +kernel) (by decide) ?_
    refine xw_aload_n d_M_answers_108 rfl rfl ?_
    refine xw_iload_n d_M_answers_109 rfl rfl ?_
    refine xw_aload_n d_M_answers_110 rfl rfl ?_
    obtain ⟨f27, a28, hA, hB, hw⟩ := hw
    refine xw_getr fr_M_100 d_M_answers_111 hA hB ?_
    refine xw_bipush (v := 6) d_M_answers_114 (by decide) ?_
    obtain ⟨ar36, x29, hA, hB, hC, hw⟩ := hw
    refine xw_iaload (t := 0) rfl d_M_answers_116 hA hB hC ?_
    refine xw_aload_n d_M_answers_117 rfl rfl ?_
    obtain ⟨f30, a31, hA, hB, hw⟩ := hw
    refine xw_getr fr_M_100 d_M_answers_118 hA hB ?_
    refine xw_bipush (v := 7) d_M_answers_121 (by decide) ?_
    obtain ⟨ar35, x32, hA, hB, hC, hw⟩ := hw
    refine xw_iaload (t := 0) rfl d_M_answers_123 hA hB hC ?_
    obtain ⟨⟨f34, hA⟩, hw⟩ := hw
    refine xc_V3n lk_M_156 in_M_top d_M_answers_124 (x_M_top hw) rfl hA rfl ?_
    intro h33 hw
    refine xw_goto (tgt := 189) d_M_answers_127 (by decide) ?_
    exact p_M_answers_189  (this) (p1) h33 hw
  by_cases c38 : x3 = 7
  · have hw := hw.2.2.2.2.2.1 c38
    rw [c38]
    refine xw_tableIn (tgt := 189) (off := 183) d_M_answers_6 (by decide) (by decide) (by decide +kernel) (by decide) ?_
    exact p_M_answers_189  (this) (p1) h hw
  by_cases c39 : x3 = 8
  · have hw := hw.2.2.2.2.2.2.1 c39
    rw [c39]
    refine xw_tableIn (tgt := 189) (off := 183) d_M_answers_6 (by decide) (by decide) (by decide +kernel) (by decide) ?_
    exact p_M_answers_189  (this) (p1) h hw
  by_cases c46 : x3 = 9
  · have hw := hw.2.2.2.2.2.2.2.1 c46
    rw [c46]
    refine xw_tableIn (tgt := 60) (off := 54) d_M_answers_6 (by decide) (by decide) (by decide +kernel) (by decide) ?_
    refine xw_aload_n d_M_answers_60 rfl rfl ?_
    refine xw_iload_n d_M_answers_61 rfl rfl ?_
    refine xw_aload_n d_M_answers_62 rfl rfl ?_
    obtain ⟨f40, a41, hA, hB, hw⟩ := hw
    refine xw_getr fr_M_100 d_M_answers_63 hA hB ?_
    refine xw_bipush (v := 6) d_M_answers_66 (by decide) ?_
    obtain ⟨ar45, x42, hA, hB, hC, hw⟩ := hw
    refine xw_iaload (t := 0) rfl d_M_answers_68 hA hB hC ?_
    obtain ⟨⟨f44, hA⟩, hw⟩ := hw
    refine xc_V2n lk_M_160 in_M_refused d_M_answers_69 (x_M_refused hw) rfl hA rfl ?_
    intro h43 hw
    exact xw_return rfl d_M_answers_72 hw
  by_cases c47 : x3 = 10
  · have hw := hw.2.2.2.2.2.2.2.2.1 c47
    rw [c47]
    refine xw_tableIn (tgt := 189) (off := 183) d_M_answers_6 (by decide) (by decide) (by decide +kernel) (by decide) ?_
    exact p_M_answers_189  (this) (p1) h hw
  by_cases c49 : x3 = 11
  · have hw := hw.2.2.2.2.2.2.2.2.2.1 c49
    rw [c49]
    refine xw_tableIn (tgt := 130) (off := 124) d_M_answers_6 (by decide) (by decide) (by decide +kernel) (by decide) ?_
    refine xw_iconst (v := 0) d_M_answers_130 (by decide) ?_
    refine xs_istore_n (lv' := [some (.ref (this)), some (.int (p1)), some (.int (0))]) d_M_answers_131 rfl rfl rfl ?_
    obtain ⟨n48, hw⟩ := hw
    exact p_M_answers_132  n48 (this) (p1) (0) h hw
  have hw := hw.2.2.2.2.2.2.2.2.2.2 c23 c24 c25 c26 c37 c38 c39 c46 c47 c49
  have ec23 := lv_neT c23 (a := 2) (by decide)
  have ec24 := lv_neT c24 (a := 3) (by decide)
  have ec25 := lv_neT c25 (a := 4) (by decide)
  have ec26 := lv_neT c26 (a := 5) (by decide)
  have ec37 := lv_neT c37 (a := 6) (by decide)
  have ec38 := lv_neT c38 (a := 7) (by decide)
  have ec39 := lv_neT c39 (a := 8) (by decide)
  have ec46 := lv_neT c46 (a := 9) (by decide)
  have ec47 := lv_neT c47 (a := 10) (by decide)
  have ec49 := lv_neT c49 (a := 11) (by decide)
  refine xw_tableOut (tgt := 189) d_M_answers_6 (by omega) (by decide) ?_
  exact p_M_answers_189  (this) (p1) h hw
set_option maxRecDepth 100000 in
def w_M_handles (Q : Option Value → xH → Prop) (this : Nat) (p1 : Int32) (h : xH) : Prop := ∃ (f1 : List Value) (a2 : Nat), h.2 this = some (.inr (8, f1)) ∧ f1[35]? = some (.ref a2) ∧ ∃ (ar140 : List Int32) (x3 : Int32), h.2 a2 = some (.inl (0, .inl ar140)) ∧ 0 ≤ (5 : Int32) ∧ ar140[(5 : Int32).toNatClampNeg]? = some x3 ∧ ∃ (f4 : List Value) (a5 : Nat), h.2 this = some (.inr (8, f4)) ∧ f4[35]? = some (.ref a5) ∧ ∃ (ar139 : List Int32) (x6 : Int32), h.2 a5 = some (.inl (0, .inl ar139)) ∧ 0 ≤ (5 : Int32) ∧ ar139[(5 : Int32).toNatClampNeg]? = some x6 ∧ ∃ (f7 : List Value) (a8 : Nat), h.2 this = some (.inr (8, f7)) ∧ f7[35]? = some (.ref a8) ∧ ∃ (ar138 : List Int32) (x9 : Int32), h.2 a8 = some (.inl (0, .inl ar138)) ∧ 0 ≤ (0 : Int32) ∧ ar138[(0 : Int32).toNatClampNeg]? = some x9 ∧ ((x9 = 1 → ∃ (f11 : List Value) (a12 : Nat), h.2 this = some (.inr (8, f11)) ∧ f11[6]? = some (.ref a12) ∧ ∃ (ar28 : List Int32) (x13 : Int32), h.2 a12 = some (.inl (0, .inl ar28)) ∧ 0 ≤ ((4 * p1) + (x6 &&& 3) : Int32) ∧ ar28[((4 * p1) + (x6 &&& 3) : Int32).toNatClampNeg]? = some x13 ∧ ∃ (f14 : List Value) (a15 : Nat), h.2 this = some (.inr (8, f14)) ∧ f14[7]? = some (.ref a15) ∧ ∃ (ar27 : List Int32) (x16 : Int32), h.2 a15 = some (.inl (0, .inl ar27)) ∧ 0 ≤ ((4 * p1) + (x6 &&& 3) : Int32) ∧ ar27[((4 * p1) + (x6 &&& 3) : Int32).toNatClampNeg]? = some x16 ∧ ∃ (f17 : List Value) (a18 : Nat), h.2 this = some (.inr (8, f17)) ∧ f17[8]? = some (.ref a18) ∧ ∃ (ar26 : List Int32) (x19 : Int32), h.2 a18 = some (.inl (0, .inl ar26)) ∧ 0 ≤ ((4 * p1) + (x6 &&& 3) : Int32) ∧ ar26[((4 * p1) + (x6 &&& 3) : Int32).toNatClampNeg]? = some x19 ∧ ∃ (f20 : List Value) (a21 : Nat), h.2 this = some (.inr (8, f20)) ∧ f20[35]? = some (.ref a21) ∧ ∃ (ar25 : List Int32) (x22 : Int32), h.2 a21 = some (.inl (0, .inl ar25)) ∧ 0 ≤ (5 : Int32) ∧ ar25[(5 : Int32).toNatClampNeg]? = some x22 ∧ (∃ f24, h.2 this = some (.inr (8, f24))) ∧ w_M_answer (fun v h23 => v = none ∧ Q none h23) this 2 p1 x13 x16 x19 0 x22 h) ∧ (x9 = 2 → (∃ f31, h.2 this = some (.inr (8, f31))) ∧ w_M_counts (fun v h30 => ∃ (x32 : Int32), v = some (.int x32) ∧ ((x32 = 0 → Q none h30) ∧ (¬ x32 = 0 → (∃ f34, h30.2 this = some (.inr (8, f34))) ∧ w_M_answers (fun v h33 => v = none ∧ Q none h33) this p1 h30))) this p1 h) ∧ (x9 = 3 → ∃ (f37 : List Value) (a38 : Nat), h.2 this = some (.inr (8, f37)) ∧ f37[35]? = some (.ref a38) ∧ ∃ (ar60 : List Int32) (x39 : Int32), h.2 a38 = some (.inl (0, .inl ar60)) ∧ 0 ≤ (5 : Int32) ∧ ar60[(5 : Int32).toNatClampNeg]? = some x39 ∧ ∃ (f40 : List Value) (a41 : Nat), h.2 this = some (.inr (8, f40)) ∧ f40[35]? = some (.ref a41) ∧ ∃ (ar59 : List Int32) (x42 : Int32), h.2 a41 = some (.inl (0, .inl ar59)) ∧ 0 ≤ (6 : Int32) ∧ ar59[(6 : Int32).toNatClampNeg]? = some x42 ∧ ∃ (f43 : List Value) (a44 : Nat), h.2 this = some (.inr (8, f43)) ∧ f43[35]? = some (.ref a44) ∧ ∃ (ar58 : List Int32) (x45 : Int32), h.2 a44 = some (.inl (0, .inl ar58)) ∧ 0 ≤ (7 : Int32) ∧ ar58[(7 : Int32).toNatClampNeg]? = some x45 ∧ ∃ (f46 : List Value) (a47 : Nat), h.2 this = some (.inr (8, f46)) ∧ f46[35]? = some (.ref a47) ∧ ∃ (ar57 : List Int32) (x48 : Int32), h.2 a47 = some (.inl (0, .inl ar57)) ∧ 0 ≤ (8 : Int32) ∧ ar57[(8 : Int32).toNatClampNeg]? = some x48 ∧ (∃ f50, h.2 this = some (.inr (8, f50))) ∧ w_M_store (fun v h49 => v = none ∧ (∃ f52, h49.2 this = some (.inr (8, f52))) ∧ w_M_isUp (fun v h51 => ∃ (x53 : Int32), v = some (.int x53) ∧ ((x53 = 0 → Q none h51) ∧ (¬ x53 = 0 → (∃ f55, h51.2 this = some (.inr (8, f55))) ∧ w_M_answer (fun v h54 => v = none ∧ Q none h54) this 4 p1 0 0 0 0 0 h51))) this p1 h49) this p1 x39 x42 x45 x48 h) ∧ (x9 = 4 → (∃ f63, h.2 this = some (.inr (8, f63))) ∧ w_M_counts (fun v h62 => ∃ (x64 : Int32), v = some (.int x64) ∧ ((x64 = 0 → Q none h62) ∧ (¬ x64 = 0 → (∃ f66, h62.2 this = some (.inr (8, f66))) ∧ w_M_answers (fun v h65 => v = none ∧ Q none h65) this p1 h62))) this p1 h) ∧ (x9 = 5 → (∃ f70, h.2 this = some (.inr (8, f70))) ∧ w_M_votes (fun v h69 => v = none ∧ Q none h69) this p1 ((16 * p1) + x3) h) ∧ (x9 = 6 → (∃ f73, h.2 this = some (.inr (8, f73))) ∧ w_M_counts (fun v h72 => ∃ (x74 : Int32), v = some (.int x74) ∧ ((x74 = 0 → Q none h72) ∧ (¬ x74 = 0 → (∃ f76, h72.2 this = some (.inr (8, f76))) ∧ w_M_answers (fun v h75 => v = none ∧ Q none h75) this p1 h72))) this p1 h) ∧ (x9 = 7 → (∃ f80, h.2 this = some (.inr (8, f80))) ∧ w_M_votes (fun v h79 => v = none ∧ Q none h79) this p1 ((16 * p1) + x3) h) ∧ (x9 = 8 → (∃ f83, h.2 this = some (.inr (8, f83))) ∧ w_M_counts (fun v h82 => ∃ (x84 : Int32), v = some (.int x84) ∧ ((x84 = 0 → Q none h82) ∧ (¬ x84 = 0 → (∃ f86, h82.2 this = some (.inr (8, f86))) ∧ w_M_answers (fun v h85 => v = none ∧ Q none h85) this p1 h82))) this p1 h) ∧ (x9 = 9 → (∃ f90, h.2 this = some (.inr (8, f90))) ∧ w_M_counts (fun v h89 => ∃ (x91 : Int32), v = some (.int x91) ∧ ((x91 = 0 → Q none h89) ∧ (¬ x91 = 0 → (∃ f93, h89.2 this = some (.inr (8, f93))) ∧ w_M_answers (fun v h92 => v = none ∧ Q none h92) this p1 h89))) this p1 h) ∧ (x9 = 10 → (∃ f97, h.2 this = some (.inr (8, f97))) ∧ w_M_answer (fun v h96 => v = none ∧ Q none h96) this 11 p1 0 0 0 1 0 h) ∧ (x9 = 11 → (∃ f100, h.2 this = some (.inr (8, f100))) ∧ w_M_counts (fun v h99 => ∃ (x101 : Int32), v = some (.int x101) ∧ ((x101 = 0 → Q none h99) ∧ (¬ x101 = 0 → (∃ f103, h99.2 this = some (.inr (8, f103))) ∧ w_M_answers (fun v h102 => v = none ∧ Q none h102) this p1 h99))) this p1 h) ∧ (x9 = 12 → (∃ f107, h.2 this = some (.inr (8, f107))) ∧ w_M_storeAll (fun v h106 => v = none ∧ (∃ f109, h106.2 this = some (.inr (8, f109))) ∧ w_M_isUp (fun v h108 => ∃ (x110 : Int32), v = some (.int x110) ∧ ((x110 = 0 → Q none h108) ∧ (¬ x110 = 0 → (∃ f112, h108.2 this = some (.inr (8, f112))) ∧ w_M_answer (fun v h111 => v = none ∧ Q none h111) this 13 p1 0 0 0 0 0 h108))) this p1 h106) this p1 h) ∧ (x9 = 13 → (∃ f116, h.2 this = some (.inr (8, f116))) ∧ w_M_counts (fun v h115 => ∃ (x117 : Int32), v = some (.int x117) ∧ ((x117 = 0 → Q none h115) ∧ (¬ x117 = 0 → (∃ f119, h115.2 this = some (.inr (8, f119))) ∧ w_M_answers (fun v h118 => v = none ∧ Q none h118) this p1 h115))) this p1 h) ∧ (x9 = 14 → (∃ f123, h.2 this = some (.inr (8, f123))) ∧ w_M_storeAll (fun v h122 => v = none ∧ Q none h122) this p1 h) ∧ (x9 = 15 → (∃ f126, h.2 this = some (.inr (8, f126))) ∧ w_M_greatest (fun v h125 => ∃ (x127 : Int32), v = some (.int x127) ∧ ((x127 < 0 → Q none h125) ∧ (¬ x127 < 0 → (∃ f129, h125.2 this = some (.inr (8, f129))) ∧ w_M_answer (fun v h128 => v = none ∧ Q none h128) this 14 p1 0 0 0 1 0 h125))) this p1 h) ∧ (¬ x9 = 1 → ¬ x9 = 2 → ¬ x9 = 3 → ¬ x9 = 4 → ¬ x9 = 5 → ¬ x9 = 6 → ¬ x9 = 7 → ¬ x9 = 8 → ¬ x9 = 9 → ¬ x9 = 10 → ¬ x9 = 11 → ¬ x9 = 12 → ¬ x9 = 13 → ¬ x9 = 14 → ¬ x9 = 15 → (∃ f133, h.2 this = some (.inr (8, f133))) ∧ w_M_counts (fun v h132 => ∃ (x134 : Int32), v = some (.int x134) ∧ ((x134 = 0 → Q none h132) ∧ (¬ x134 = 0 → (∃ f136, h132.2 this = some (.inr (8, f136))) ∧ w_M_answers (fun v h135 => v = none ∧ Q none h135) this p1 h132))) this p1 h))
set_option maxRecDepth 100000 in
set_option maxHeartbeats 4000000 in
theorem x_M_handles {sc : List Int32} {Q : Option Value → xH → Prop} {this : Nat} {p1 : Int32} {h : xH} (hw : w_M_handles Q this p1 h) : xMet sc m_M_handles 11 0 0 [.ref (this), .int (p1)] h Q := by
  unfold w_M_handles at hw
  refine xMet.of2 cw_M_handles rfl rfl ?_
  show xW sc m_M_handles 11 0 0 0 [some (.ref (this)), some (.int (p1)), none, none] [] h Q
  refine xw_bipush (v := 16) d_M_handles_0 (by decide) ?_
  refine xw_iload_n d_M_handles_2 rfl rfl ?_
  refine xw_imul d_M_handles_3 ?_
  refine xw_aload_n d_M_handles_4 rfl rfl ?_
  obtain ⟨f1, a2, hA, hB, hw⟩ := hw
  refine xw_getr fr_M_100 d_M_handles_5 hA hB ?_
  refine xw_iconst (v := 5) d_M_handles_8 (by decide) ?_
  obtain ⟨ar140, x3, hA, hB, hC, hw⟩ := hw
  refine xw_iaload (t := 0) rfl d_M_handles_9 hA hB hC ?_
  refine xw_iadd d_M_handles_10 ?_
  refine xs_istore_n (lv' := [some (.ref (this)), some (.int (p1)), some (.int ((16 * p1) + x3)), none]) d_M_handles_11 rfl rfl rfl ?_
  refine xw_iconst (v := 4) d_M_handles_12 (by decide) ?_
  refine xw_iload_n d_M_handles_13 rfl rfl ?_
  refine xw_imul d_M_handles_14 ?_
  refine xw_aload_n d_M_handles_15 rfl rfl ?_
  obtain ⟨f4, a5, hA, hB, hw⟩ := hw
  refine xw_getr fr_M_100 d_M_handles_16 hA hB ?_
  refine xw_iconst (v := 5) d_M_handles_19 (by decide) ?_
  obtain ⟨ar139, x6, hA, hB, hC, hw⟩ := hw
  refine xw_iaload (t := 0) rfl d_M_handles_20 hA hB hC ?_
  refine xw_iconst (v := 3) d_M_handles_21 (by decide) ?_
  refine xw_iand d_M_handles_22 ?_
  refine xw_iadd d_M_handles_23 ?_
  refine xs_istore_n (lv' := [some (.ref (this)), some (.int (p1)), some (.int ((16 * p1) + x3)), some (.int ((4 * p1) + (x6 &&& 3)))]) d_M_handles_24 rfl rfl rfl ?_
  refine xw_aload_n d_M_handles_25 rfl rfl ?_
  obtain ⟨f7, a8, hA, hB, hw⟩ := hw
  refine xw_getr fr_M_100 d_M_handles_26 hA hB ?_
  refine xw_iconst (v := 0) d_M_handles_29 (by decide) ?_
  obtain ⟨ar138, x9, hA, hB, hC, hw⟩ := hw
  refine xw_iaload (t := 0) rfl d_M_handles_30 hA hB hC ?_
  by_cases c29 : x9 = 1
  · have hw := hw.1 c29
    rw [c29]
    refine xw_tableIn (tgt := 104) (off := 73) d_M_handles_31 (by decide) (by decide) (by decide +kernel) (by decide) ?_
    refine xw_aload_n d_M_handles_104 rfl rfl ?_
    refine xw_iconst (v := 2) d_M_handles_105 (by decide) ?_
    refine xw_iload_n d_M_handles_106 rfl rfl ?_
    refine xw_aload_n d_M_handles_107 rfl rfl ?_
    obtain ⟨f11, a12, hA, hB, hw⟩ := hw
    refine xw_getr fr_M_25 d_M_handles_108 hA hB ?_
    refine xw_iload_n d_M_handles_111 rfl rfl ?_
    obtain ⟨ar28, x13, hA, hB, hC, hw⟩ := hw
    refine xw_iaload (t := 0) rfl d_M_handles_112 hA hB hC ?_
    refine xw_aload_n d_M_handles_113 rfl rfl ?_
    obtain ⟨f14, a15, hA, hB, hw⟩ := hw
    refine xw_getr fr_M_28 d_M_handles_114 hA hB ?_
    refine xw_iload_n d_M_handles_117 rfl rfl ?_
    obtain ⟨ar27, x16, hA, hB, hC, hw⟩ := hw
    refine xw_iaload (t := 0) rfl d_M_handles_118 hA hB hC ?_
    refine xw_aload_n d_M_handles_119 rfl rfl ?_
    obtain ⟨f17, a18, hA, hB, hw⟩ := hw
    refine xw_getr fr_M_31 d_M_handles_120 hA hB ?_
    refine xw_iload_n d_M_handles_123 rfl rfl ?_
    obtain ⟨ar26, x19, hA, hB, hC, hw⟩ := hw
    refine xw_iaload (t := 0) rfl d_M_handles_124 hA hB hC ?_
    refine xw_iconst (v := 0) d_M_handles_125 (by decide) ?_
    refine xw_aload_n d_M_handles_126 rfl rfl ?_
    obtain ⟨f20, a21, hA, hB, hw⟩ := hw
    refine xw_getr fr_M_100 d_M_handles_127 hA hB ?_
    refine xw_iconst (v := 5) d_M_handles_130 (by decide) ?_
    obtain ⟨ar25, x22, hA, hB, hC, hw⟩ := hw
    refine xw_iaload (t := 0) rfl d_M_handles_131 hA hB hC ?_
    obtain ⟨⟨f24, hA⟩, hw⟩ := hw
    refine xc_V7n lk_M_223 in_M_answer d_M_handles_132 (x_M_answer hw) rfl hA rfl ?_
    intro h23 hw
    refine xw_goto (tgt := 288) d_M_handles_135 (by decide) ?_
    exact xw_return rfl d_M_handles_288 hw
  by_cases c36 : x9 = 2
  · have hw := hw.2.1 c36
    rw [c36]
    refine xw_tableIn (tgt := 275) (off := 244) d_M_handles_31 (by decide) (by decide) (by decide +kernel) (by decide) ?_
    refine xw_aload_n d_M_handles_275 rfl rfl ?_
    refine xw_iload_n d_M_handles_276 rfl rfl ?_
    obtain ⟨⟨f31, hA⟩, hw⟩ := hw
    refine xc_V1i lk_M_236 in_M_counts d_M_handles_277 (x_M_counts hw) rfl hA rfl ?_
    intro x32 h30 hw
    refine xw_if_eq (tgt := 288) d_M_handles_280 (by decide) (fun c35 => ?_) (fun c35 => ?_)
    · have hw := hw.1 c35
      exact xw_return rfl d_M_handles_288 hw
    · have hw := hw.2 c35
      refine xw_aload_n d_M_handles_283 rfl rfl ?_
      refine xw_iload_n d_M_handles_284 rfl rfl ?_
      obtain ⟨⟨f34, hA⟩, hw⟩ := hw
      refine xc_V1n lk_M_239 in_M_answers d_M_handles_285 (x_M_answers hw) rfl hA rfl ?_
      intro h33 hw
      exact xw_return rfl d_M_handles_288 hw
  by_cases c61 : x9 = 3
  · have hw := hw.2.2.1 c61
    rw [c61]
    refine xw_tableIn (tgt := 138) (off := 107) d_M_handles_31 (by decide) (by decide) (by decide +kernel) (by decide) ?_
    refine xw_aload_n d_M_handles_138 rfl rfl ?_
    refine xw_iload_n d_M_handles_139 rfl rfl ?_
    refine xw_aload_n d_M_handles_140 rfl rfl ?_
    obtain ⟨f37, a38, hA, hB, hw⟩ := hw
    refine xw_getr fr_M_100 d_M_handles_141 hA hB ?_
    refine xw_iconst (v := 5) d_M_handles_144 (by decide) ?_
    obtain ⟨ar60, x39, hA, hB, hC, hw⟩ := hw
    refine xw_iaload (t := 0) rfl d_M_handles_145 hA hB hC ?_
    refine xw_aload_n d_M_handles_146 rfl rfl ?_
    obtain ⟨f40, a41, hA, hB, hw⟩ := hw
    refine xw_getr fr_M_100 d_M_handles_147 hA hB ?_
    refine xw_bipush (v := 6) d_M_handles_150 (by decide) ?_
    obtain ⟨ar59, x42, hA, hB, hC, hw⟩ := hw
    refine xw_iaload (t := 0) rfl d_M_handles_152 hA hB hC ?_
    refine xw_aload_n d_M_handles_153 rfl rfl ?_
    obtain ⟨f43, a44, hA, hB, hw⟩ := hw
    refine xw_getr fr_M_100 d_M_handles_154 hA hB ?_
    refine xw_bipush (v := 7) d_M_handles_157 (by decide) ?_
    obtain ⟨ar58, x45, hA, hB, hC, hw⟩ := hw
    refine xw_iaload (t := 0) rfl d_M_handles_159 hA hB hC ?_
    refine xw_aload_n d_M_handles_160 rfl rfl ?_
    obtain ⟨f46, a47, hA, hB, hw⟩ := hw
    refine xw_getr fr_M_100 d_M_handles_161 hA hB ?_
    refine xw_bipush (v := 8) d_M_handles_164 (by decide) ?_
    obtain ⟨ar57, x48, hA, hB, hC, hw⟩ := hw
    refine xw_iaload (t := 0) rfl d_M_handles_166 hA hB hC ?_
    obtain ⟨⟨f50, hA⟩, hw⟩ := hw
    refine xc_V5n lk_M_150 in_M_store d_M_handles_167 (x_M_store hw) rfl hA rfl ?_
    intro h49 hw
    refine xw_aload_n d_M_handles_170 rfl rfl ?_
    refine xw_iload_n d_M_handles_171 rfl rfl ?_
    obtain ⟨⟨f52, hA⟩, hw⟩ := hw
    refine xc_V1i lk_M_111 in_M_isUp d_M_handles_172 (x_M_isUp hw) rfl hA rfl ?_
    intro x53 h51 hw
    refine xw_if_eq (tgt := 288) d_M_handles_175 (by decide) (fun c56 => ?_) (fun c56 => ?_)
    · have hw := hw.1 c56
      exact xw_return rfl d_M_handles_288 hw
    · have hw := hw.2 c56
      refine xw_aload_n d_M_handles_178 rfl rfl ?_
      refine xw_iconst (v := 4) d_M_handles_179 (by decide) ?_
      refine xw_iload_n d_M_handles_180 rfl rfl ?_
      refine xw_iconst (v := 0) d_M_handles_181 (by decide) ?_
      refine xw_iconst (v := 0) d_M_handles_182 (by decide) ?_
      refine xw_iconst (v := 0) d_M_handles_183 (by decide) ?_
      refine xw_iconst (v := 0) d_M_handles_184 (by decide) ?_
      refine xw_iconst (v := 0) d_M_handles_185 (by decide) ?_
      obtain ⟨⟨f55, hA⟩, hw⟩ := hw
      refine xc_V7n lk_M_223 in_M_answer d_M_handles_186 (x_M_answer hw) rfl hA rfl ?_
      intro h54 hw
      refine xw_goto (tgt := 288) d_M_handles_189 (by decide) ?_
      exact xw_return rfl d_M_handles_288 hw
  by_cases c68 : x9 = 4
  · have hw := hw.2.2.2.1 c68
    rw [c68]
    refine xw_tableIn (tgt := 275) (off := 244) d_M_handles_31 (by decide) (by decide) (by decide +kernel) (by decide) ?_
    refine xw_aload_n d_M_handles_275 rfl rfl ?_
    refine xw_iload_n d_M_handles_276 rfl rfl ?_
    obtain ⟨⟨f63, hA⟩, hw⟩ := hw
    refine xc_V1i lk_M_236 in_M_counts d_M_handles_277 (x_M_counts hw) rfl hA rfl ?_
    intro x64 h62 hw
    refine xw_if_eq (tgt := 288) d_M_handles_280 (by decide) (fun c67 => ?_) (fun c67 => ?_)
    · have hw := hw.1 c67
      exact xw_return rfl d_M_handles_288 hw
    · have hw := hw.2 c67
      refine xw_aload_n d_M_handles_283 rfl rfl ?_
      refine xw_iload_n d_M_handles_284 rfl rfl ?_
      obtain ⟨⟨f66, hA⟩, hw⟩ := hw
      refine xc_V1n lk_M_239 in_M_answers d_M_handles_285 (x_M_answers hw) rfl hA rfl ?_
      intro h65 hw
      exact xw_return rfl d_M_handles_288 hw
  by_cases c71 : x9 = 5
  · have hw := hw.2.2.2.2.1 c71
    rw [c71]
    refine xw_tableIn (tgt := 192) (off := 161) d_M_handles_31 (by decide) (by decide) (by decide +kernel) (by decide) ?_
    refine xw_aload_n d_M_handles_192 rfl rfl ?_
    refine xw_iload_n d_M_handles_193 rfl rfl ?_
    refine xw_iload_n d_M_handles_194 rfl rfl ?_
    obtain ⟨⟨f70, hA⟩, hw⟩ := hw
    refine xc_V2n lk_M_227 in_M_votes d_M_handles_195 (x_M_votes hw) rfl hA rfl ?_
    intro h69 hw
    refine xw_goto (tgt := 288) d_M_handles_198 (by decide) ?_
    exact xw_return rfl d_M_handles_288 hw
  by_cases c78 : x9 = 6
  · have hw := hw.2.2.2.2.2.1 c78
    rw [c78]
    refine xw_tableIn (tgt := 275) (off := 244) d_M_handles_31 (by decide) (by decide) (by decide +kernel) (by decide) ?_
    refine xw_aload_n d_M_handles_275 rfl rfl ?_
    refine xw_iload_n d_M_handles_276 rfl rfl ?_
    obtain ⟨⟨f73, hA⟩, hw⟩ := hw
    refine xc_V1i lk_M_236 in_M_counts d_M_handles_277 (x_M_counts hw) rfl hA rfl ?_
    intro x74 h72 hw
    refine xw_if_eq (tgt := 288) d_M_handles_280 (by decide) (fun c77 => ?_) (fun c77 => ?_)
    · have hw := hw.1 c77
      exact xw_return rfl d_M_handles_288 hw
    · have hw := hw.2 c77
      refine xw_aload_n d_M_handles_283 rfl rfl ?_
      refine xw_iload_n d_M_handles_284 rfl rfl ?_
      obtain ⟨⟨f76, hA⟩, hw⟩ := hw
      refine xc_V1n lk_M_239 in_M_answers d_M_handles_285 (x_M_answers hw) rfl hA rfl ?_
      intro h75 hw
      exact xw_return rfl d_M_handles_288 hw
  by_cases c81 : x9 = 7
  · have hw := hw.2.2.2.2.2.2.1 c81
    rw [c81]
    refine xw_tableIn (tgt := 192) (off := 161) d_M_handles_31 (by decide) (by decide) (by decide +kernel) (by decide) ?_
    refine xw_aload_n d_M_handles_192 rfl rfl ?_
    refine xw_iload_n d_M_handles_193 rfl rfl ?_
    refine xw_iload_n d_M_handles_194 rfl rfl ?_
    obtain ⟨⟨f80, hA⟩, hw⟩ := hw
    refine xc_V2n lk_M_227 in_M_votes d_M_handles_195 (x_M_votes hw) rfl hA rfl ?_
    intro h79 hw
    refine xw_goto (tgt := 288) d_M_handles_198 (by decide) ?_
    exact xw_return rfl d_M_handles_288 hw
  by_cases c88 : x9 = 8
  · have hw := hw.2.2.2.2.2.2.2.1 c88
    rw [c88]
    refine xw_tableIn (tgt := 275) (off := 244) d_M_handles_31 (by decide) (by decide) (by decide +kernel) (by decide) ?_
    refine xw_aload_n d_M_handles_275 rfl rfl ?_
    refine xw_iload_n d_M_handles_276 rfl rfl ?_
    obtain ⟨⟨f83, hA⟩, hw⟩ := hw
    refine xc_V1i lk_M_236 in_M_counts d_M_handles_277 (x_M_counts hw) rfl hA rfl ?_
    intro x84 h82 hw
    refine xw_if_eq (tgt := 288) d_M_handles_280 (by decide) (fun c87 => ?_) (fun c87 => ?_)
    · have hw := hw.1 c87
      exact xw_return rfl d_M_handles_288 hw
    · have hw := hw.2 c87
      refine xw_aload_n d_M_handles_283 rfl rfl ?_
      refine xw_iload_n d_M_handles_284 rfl rfl ?_
      obtain ⟨⟨f86, hA⟩, hw⟩ := hw
      refine xc_V1n lk_M_239 in_M_answers d_M_handles_285 (x_M_answers hw) rfl hA rfl ?_
      intro h85 hw
      exact xw_return rfl d_M_handles_288 hw
  by_cases c95 : x9 = 9
  · have hw := hw.2.2.2.2.2.2.2.2.1 c95
    rw [c95]
    refine xw_tableIn (tgt := 275) (off := 244) d_M_handles_31 (by decide) (by decide) (by decide +kernel) (by decide) ?_
    refine xw_aload_n d_M_handles_275 rfl rfl ?_
    refine xw_iload_n d_M_handles_276 rfl rfl ?_
    obtain ⟨⟨f90, hA⟩, hw⟩ := hw
    refine xc_V1i lk_M_236 in_M_counts d_M_handles_277 (x_M_counts hw) rfl hA rfl ?_
    intro x91 h89 hw
    refine xw_if_eq (tgt := 288) d_M_handles_280 (by decide) (fun c94 => ?_) (fun c94 => ?_)
    · have hw := hw.1 c94
      exact xw_return rfl d_M_handles_288 hw
    · have hw := hw.2 c94
      refine xw_aload_n d_M_handles_283 rfl rfl ?_
      refine xw_iload_n d_M_handles_284 rfl rfl ?_
      obtain ⟨⟨f93, hA⟩, hw⟩ := hw
      refine xc_V1n lk_M_239 in_M_answers d_M_handles_285 (x_M_answers hw) rfl hA rfl ?_
      intro h92 hw
      exact xw_return rfl d_M_handles_288 hw
  by_cases c98 : x9 = 10
  · have hw := hw.2.2.2.2.2.2.2.2.2.1 c98
    rw [c98]
    refine xw_tableIn (tgt := 201) (off := 170) d_M_handles_31 (by decide) (by decide) (by decide +kernel) (by decide) ?_
    refine xw_aload_n d_M_handles_201 rfl rfl ?_
    refine xw_bipush (v := 11) d_M_handles_202 (by decide) ?_
    refine xw_iload_n d_M_handles_204 rfl rfl ?_
    refine xw_iconst (v := 0) d_M_handles_205 (by decide) ?_
    refine xw_iconst (v := 0) d_M_handles_206 (by decide) ?_
    refine xw_iconst (v := 0) d_M_handles_207 (by decide) ?_
    refine xw_iconst (v := 1) d_M_handles_208 (by decide) ?_
    refine xw_iconst (v := 0) d_M_handles_209 (by decide) ?_
    obtain ⟨⟨f97, hA⟩, hw⟩ := hw
    refine xc_V7n lk_M_223 in_M_answer d_M_handles_210 (x_M_answer hw) rfl hA rfl ?_
    intro h96 hw
    refine xw_goto (tgt := 288) d_M_handles_213 (by decide) ?_
    exact xw_return rfl d_M_handles_288 hw
  by_cases c105 : x9 = 11
  · have hw := hw.2.2.2.2.2.2.2.2.2.2.1 c105
    rw [c105]
    refine xw_tableIn (tgt := 275) (off := 244) d_M_handles_31 (by decide) (by decide) (by decide +kernel) (by decide) ?_
    refine xw_aload_n d_M_handles_275 rfl rfl ?_
    refine xw_iload_n d_M_handles_276 rfl rfl ?_
    obtain ⟨⟨f100, hA⟩, hw⟩ := hw
    refine xc_V1i lk_M_236 in_M_counts d_M_handles_277 (x_M_counts hw) rfl hA rfl ?_
    intro x101 h99 hw
    refine xw_if_eq (tgt := 288) d_M_handles_280 (by decide) (fun c104 => ?_) (fun c104 => ?_)
    · have hw := hw.1 c104
      exact xw_return rfl d_M_handles_288 hw
    · have hw := hw.2 c104
      refine xw_aload_n d_M_handles_283 rfl rfl ?_
      refine xw_iload_n d_M_handles_284 rfl rfl ?_
      obtain ⟨⟨f103, hA⟩, hw⟩ := hw
      refine xc_V1n lk_M_239 in_M_answers d_M_handles_285 (x_M_answers hw) rfl hA rfl ?_
      intro h102 hw
      exact xw_return rfl d_M_handles_288 hw
  by_cases c114 : x9 = 12
  · have hw := hw.2.2.2.2.2.2.2.2.2.2.2.1 c114
    rw [c114]
    refine xw_tableIn (tgt := 216) (off := 185) d_M_handles_31 (by decide) (by decide) (by decide +kernel) (by decide) ?_
    refine xw_aload_n d_M_handles_216 rfl rfl ?_
    refine xw_iload_n d_M_handles_217 rfl rfl ?_
    obtain ⟨⟨f107, hA⟩, hw⟩ := hw
    refine xc_V1n lk_M_230 in_M_storeAll d_M_handles_218 (x_M_storeAll hw) rfl hA rfl ?_
    intro h106 hw
    refine xw_aload_n d_M_handles_221 rfl rfl ?_
    refine xw_iload_n d_M_handles_222 rfl rfl ?_
    obtain ⟨⟨f109, hA⟩, hw⟩ := hw
    refine xc_V1i lk_M_111 in_M_isUp d_M_handles_223 (x_M_isUp hw) rfl hA rfl ?_
    intro x110 h108 hw
    refine xw_if_eq (tgt := 288) d_M_handles_226 (by decide) (fun c113 => ?_) (fun c113 => ?_)
    · have hw := hw.1 c113
      exact xw_return rfl d_M_handles_288 hw
    · have hw := hw.2 c113
      refine xw_aload_n d_M_handles_229 rfl rfl ?_
      refine xw_bipush (v := 13) d_M_handles_230 (by decide) ?_
      refine xw_iload_n d_M_handles_232 rfl rfl ?_
      refine xw_iconst (v := 0) d_M_handles_233 (by decide) ?_
      refine xw_iconst (v := 0) d_M_handles_234 (by decide) ?_
      refine xw_iconst (v := 0) d_M_handles_235 (by decide) ?_
      refine xw_iconst (v := 0) d_M_handles_236 (by decide) ?_
      refine xw_iconst (v := 0) d_M_handles_237 (by decide) ?_
      obtain ⟨⟨f112, hA⟩, hw⟩ := hw
      refine xc_V7n lk_M_223 in_M_answer d_M_handles_238 (x_M_answer hw) rfl hA rfl ?_
      intro h111 hw
      refine xw_goto (tgt := 288) d_M_handles_241 (by decide) ?_
      exact xw_return rfl d_M_handles_288 hw
  by_cases c121 : x9 = 13
  · have hw := hw.2.2.2.2.2.2.2.2.2.2.2.2.1 c121
    rw [c121]
    refine xw_tableIn (tgt := 275) (off := 244) d_M_handles_31 (by decide) (by decide) (by decide +kernel) (by decide) ?_
    refine xw_aload_n d_M_handles_275 rfl rfl ?_
    refine xw_iload_n d_M_handles_276 rfl rfl ?_
    obtain ⟨⟨f116, hA⟩, hw⟩ := hw
    refine xc_V1i lk_M_236 in_M_counts d_M_handles_277 (x_M_counts hw) rfl hA rfl ?_
    intro x117 h115 hw
    refine xw_if_eq (tgt := 288) d_M_handles_280 (by decide) (fun c120 => ?_) (fun c120 => ?_)
    · have hw := hw.1 c120
      exact xw_return rfl d_M_handles_288 hw
    · have hw := hw.2 c120
      refine xw_aload_n d_M_handles_283 rfl rfl ?_
      refine xw_iload_n d_M_handles_284 rfl rfl ?_
      obtain ⟨⟨f119, hA⟩, hw⟩ := hw
      refine xc_V1n lk_M_239 in_M_answers d_M_handles_285 (x_M_answers hw) rfl hA rfl ?_
      intro h118 hw
      exact xw_return rfl d_M_handles_288 hw
  by_cases c124 : x9 = 14
  · have hw := hw.2.2.2.2.2.2.2.2.2.2.2.2.2.1 c124
    rw [c124]
    refine xw_tableIn (tgt := 244) (off := 213) d_M_handles_31 (by decide) (by decide) (by decide +kernel) (by decide) ?_
    refine xw_aload_n d_M_handles_244 rfl rfl ?_
    refine xw_iload_n d_M_handles_245 rfl rfl ?_
    obtain ⟨⟨f123, hA⟩, hw⟩ := hw
    refine xc_V1n lk_M_230 in_M_storeAll d_M_handles_246 (x_M_storeAll hw) rfl hA rfl ?_
    intro h122 hw
    refine xw_goto (tgt := 288) d_M_handles_249 (by decide) ?_
    exact xw_return rfl d_M_handles_288 hw
  by_cases c131 : x9 = 15
  · have hw := hw.2.2.2.2.2.2.2.2.2.2.2.2.2.2.1 c131
    rw [c131]
    refine xw_tableIn (tgt := 252) (off := 221) d_M_handles_31 (by decide) (by decide) (by decide +kernel) (by decide) ?_
    refine xw_aload_n d_M_handles_252 rfl rfl ?_
    refine xw_iload_n d_M_handles_253 rfl rfl ?_
    obtain ⟨⟨f126, hA⟩, hw⟩ := hw
    refine xc_V1i lk_M_233 in_M_greatest d_M_handles_254 (x_M_greatest hw) rfl hA rfl ?_
    intro x127 h125 hw
    refine xw_if_lt (tgt := 288) d_M_handles_257 (by decide) (fun c130 => ?_) (fun c130 => ?_)
    · have hw := hw.1 c130
      exact xw_return rfl d_M_handles_288 hw
    · have hw := hw.2 c130
      refine xw_aload_n d_M_handles_260 rfl rfl ?_
      refine xw_bipush (v := 14) d_M_handles_261 (by decide) ?_
      refine xw_iload_n d_M_handles_263 rfl rfl ?_
      refine xw_iconst (v := 0) d_M_handles_264 (by decide) ?_
      refine xw_iconst (v := 0) d_M_handles_265 (by decide) ?_
      refine xw_iconst (v := 0) d_M_handles_266 (by decide) ?_
      refine xw_iconst (v := 1) d_M_handles_267 (by decide) ?_
      refine xw_iconst (v := 0) d_M_handles_268 (by decide) ?_
      obtain ⟨⟨f129, hA⟩, hw⟩ := hw
      refine xc_V7n lk_M_223 in_M_answer d_M_handles_269 (x_M_answer hw) rfl hA rfl ?_
      intro h128 hw
      refine xw_goto (tgt := 288) d_M_handles_272 (by decide) ?_
      exact xw_return rfl d_M_handles_288 hw
  have hw := hw.2.2.2.2.2.2.2.2.2.2.2.2.2.2.2 c29 c36 c61 c68 c71 c78 c81 c88 c95 c98 c105 c114 c121 c124 c131
  have ec29 := lv_neT c29 (a := 1) (by decide)
  have ec36 := lv_neT c36 (a := 2) (by decide)
  have ec61 := lv_neT c61 (a := 3) (by decide)
  have ec68 := lv_neT c68 (a := 4) (by decide)
  have ec71 := lv_neT c71 (a := 5) (by decide)
  have ec78 := lv_neT c78 (a := 6) (by decide)
  have ec81 := lv_neT c81 (a := 7) (by decide)
  have ec88 := lv_neT c88 (a := 8) (by decide)
  have ec95 := lv_neT c95 (a := 9) (by decide)
  have ec98 := lv_neT c98 (a := 10) (by decide)
  have ec105 := lv_neT c105 (a := 11) (by decide)
  have ec114 := lv_neT c114 (a := 12) (by decide)
  have ec121 := lv_neT c121 (a := 13) (by decide)
  have ec124 := lv_neT c124 (a := 14) (by decide)
  have ec131 := lv_neT c131 (a := 15) (by decide)
  refine xw_tableOut (tgt := 275) d_M_handles_31 (by omega) (by decide) ?_
  refine xw_aload_n d_M_handles_275 rfl rfl ?_
  refine xw_iload_n d_M_handles_276 rfl rfl ?_
  obtain ⟨⟨f133, hA⟩, hw⟩ := hw
  refine xc_V1i lk_M_236 in_M_counts d_M_handles_277 (x_M_counts hw) rfl hA rfl ?_
  intro x134 h132 hw
  refine xw_if_eq (tgt := 288) d_M_handles_280 (by decide) (fun c137 => ?_) (fun c137 => ?_)
  · have hw := hw.1 c137
    exact xw_return rfl d_M_handles_288 hw
  · have hw := hw.2 c137
    refine xw_aload_n d_M_handles_283 rfl rfl ?_
    refine xw_iload_n d_M_handles_284 rfl rfl ?_
    obtain ⟨⟨f136, hA⟩, hw⟩ := hw
    refine xc_V1n lk_M_239 in_M_answers d_M_handles_285 (x_M_answers hw) rfl hA rfl ?_
    intro h135 hw
    exact xw_return rfl d_M_handles_288 hw
set_option maxRecDepth 100000 in
def w_M_starts (Q : Option Value → xH → Prop) (this : Nat) (p1 : Int32) (p2 : Int32) (p3 : Int32) (p4 : Int32) (h : xH) : Prop := ∃ (f1 : List Value) (x2 : Int32), h.2 this = some (.inr (8, f1)) ∧ f1[14]? = some (.int x2) ∧ ∃ f3, h.2 this = some (.inr (8, f3)) ∧ 14 < f3.length ∧ ∀ h4, h4 = xu h this (.inr (8, f3.set 14 (.int (x2 + 1)))) → ∃ (f5 : List Value) (x6 : Int32), h4.2 this = some (.inr (8, f5)) ∧ f5[14]? = some (.int x6) ∧ ∃ (f7 : List Value) (a8 : Nat), h4.2 this = some (.inr (8, f7)) ∧ f7[15]? = some (.ref a8) ∧ ∃ ar9, h4.2 a8 = some (.inl (0, .inl ar9)) ∧ 0 ≤ p1 ∧ p1.toNatClampNeg < ar9.length ∧ ∀ h10, h10 = xu h4 a8 (.inl (0, .inl (ar9.set p1.toNatClampNeg x6))) → ∃ (f11 : List Value) (a12 : Nat), h10.2 this = some (.inr (8, f11)) ∧ f11[16]? = some (.ref a12) ∧ ∃ ar13, h10.2 a12 = some (.inl (0, .inl ar13)) ∧ 0 ≤ p1 ∧ p1.toNatClampNeg < ar13.length ∧ ∀ h14, h14 = xu h10 a12 (.inl (0, .inl (ar13.set p1.toNatClampNeg p2))) → ∃ (f15 : List Value) (a16 : Nat), h14.2 this = some (.inr (8, f15)) ∧ f15[18]? = some (.ref a16) ∧ ∃ ar17, h14.2 a16 = some (.inl (0, .inl ar17)) ∧ 0 ≤ p1 ∧ p1.toNatClampNeg < ar17.length ∧ ∀ h18, h18 = xu h14 a16 (.inl (0, .inl (ar17.set p1.toNatClampNeg p3))) → ∃ (f19 : List Value) (a20 : Nat), h18.2 this = some (.inr (8, f19)) ∧ f19[22]? = some (.ref a20) ∧ ∃ ar21, h18.2 a20 = some (.inl (0, .inl ar21)) ∧ 0 ≤ p1 ∧ p1.toNatClampNeg < ar21.length ∧ ∀ h22, h22 = xu h18 a20 (.inl (0, .inl (ar21.set p1.toNatClampNeg p4))) → ∃ (f23 : List Value) (a24 : Nat), h22.2 this = some (.inr (8, f23)) ∧ f23[19]? = some (.ref a24) ∧ ∃ ar25, h22.2 a24 = some (.inl (0, .inl ar25)) ∧ 0 ≤ p1 ∧ p1.toNatClampNeg < ar25.length ∧ ∀ h26, h26 = xu h22 a24 (.inl (0, .inl (ar25.set p1.toNatClampNeg 0))) → ∃ (f27 : List Value) (a28 : Nat), h26.2 this = some (.inr (8, f27)) ∧ f27[24]? = some (.ref a28) ∧ ∃ ar29, h26.2 a28 = some (.inl (0, .inl ar29)) ∧ 0 ≤ p1 ∧ p1.toNatClampNeg < ar29.length ∧ ∀ h30, h30 = xu h26 a28 (.inl (0, .inl (ar29.set p1.toNatClampNeg 0))) → (∃ f32, h30.2 this = some (.inr (8, f32))) ∧ w_M_begins (fun v h31 => v = none ∧ (∃ f34, h31.2 this = some (.inr (8, f34))) ∧ w_M_goesOn (fun v h33 => v = none ∧ (∃ f36, h33.2 this = some (.inr (8, f36))) ∧ w_M_isUp (fun v h35 => ∃ (x37 : Int32), v = some (.int x37) ∧ ((x37 = 0 → Q (some (.int (-9))) h35) ∧ (¬ x37 = 0 → Q (some (.int x6)) h35))) this p1 h33) this p1 h31) this p1 1 h30
set_option maxRecDepth 100000 in
set_option maxHeartbeats 4000000 in
theorem x_M_starts {sc : List Int32} {Q : Option Value → xH → Prop} {this : Nat} {p1 : Int32} {p2 : Int32} {p3 : Int32} {p4 : Int32} {h : xH} (hw : w_M_starts Q this p1 p2 p3 p4 h) : xMet sc m_M_starts 9 0 0 [.ref (this), .int (p1), .int (p2), .int (p3), .int (p4)] h Q := by
  unfold w_M_starts at hw
  refine xMet.of2 cw_M_starts rfl rfl ?_
  show xW sc m_M_starts 9 0 0 0 [some (.ref (this)), some (.int (p1)), some (.int (p2)), some (.int (p3)), some (.int (p4)), none] [] h Q
  refine xw_aload_n d_M_starts_0 rfl rfl ?_
  refine xw_dup d_M_starts_1 rfl ?_
  obtain ⟨f1, x2, hA, hB, hw⟩ := hw
  refine xw_getr fr_M_248 d_M_starts_2 hA hB ?_
  refine xw_iconst (v := 1) d_M_starts_5 (by decide) ?_
  refine xw_iadd d_M_starts_6 ?_
  obtain ⟨f3, hA, hB, hw⟩ := hw
  refine xw_puti fs_M_248 d_M_starts_7 hA hB ?_
  generalize hh : xu h this (.inr (8, f3.set 14 (.int (x2 + 1)))) = h4
  have hw := hw h4 hh.symm
  refine xw_aload_n d_M_starts_10 rfl rfl ?_
  obtain ⟨f5, x6, hA, hB, hw⟩ := hw
  refine xw_getr fr_M_248 d_M_starts_11 hA hB ?_
  refine xs_istore (lv' := [some (.ref (this)), some (.int (p1)), some (.int (p2)), some (.int (p3)), some (.int (p4)), some (.int (x6))]) d_M_starts_14 rfl rfl ?_
  refine xw_aload_n d_M_starts_16 rfl rfl ?_
  obtain ⟨f7, a8, hA, hB, hw⟩ := hw
  refine xw_getr fr_M_49 d_M_starts_17 hA hB ?_
  refine xw_iload_n d_M_starts_20 rfl rfl ?_
  refine xw_iload d_M_starts_21 rfl ?_
  obtain ⟨ar9, hA, hB, hC, hw⟩ := hw
  refine xw_iastore (t := 0) rfl d_M_starts_23 hA hB hC ?_
  generalize hh : xu h4 a8 (.inl (0, .inl (ar9.set p1.toNatClampNeg x6))) = h10
  have hw := hw h10 hh.symm
  refine xw_aload_n d_M_starts_24 rfl rfl ?_
  obtain ⟨f11, a12, hA, hB, hw⟩ := hw
  refine xw_getr fr_M_52 d_M_starts_25 hA hB ?_
  refine xw_iload_n d_M_starts_28 rfl rfl ?_
  refine xw_iload_n d_M_starts_29 rfl rfl ?_
  obtain ⟨ar13, hA, hB, hC, hw⟩ := hw
  refine xw_iastore (t := 0) rfl d_M_starts_30 hA hB hC ?_
  generalize hh : xu h10 a12 (.inl (0, .inl (ar13.set p1.toNatClampNeg p2))) = h14
  have hw := hw h14 hh.symm
  refine xw_aload_n d_M_starts_31 rfl rfl ?_
  obtain ⟨f15, a16, hA, hB, hw⟩ := hw
  refine xw_getr fr_M_58 d_M_starts_32 hA hB ?_
  refine xw_iload_n d_M_starts_35 rfl rfl ?_
  refine xw_iload_n d_M_starts_36 rfl rfl ?_
  obtain ⟨ar17, hA, hB, hC, hw⟩ := hw
  refine xw_iastore (t := 0) rfl d_M_starts_37 hA hB hC ?_
  generalize hh : xu h14 a16 (.inl (0, .inl (ar17.set p1.toNatClampNeg p3))) = h18
  have hw := hw h18 hh.symm
  refine xw_aload_n d_M_starts_38 rfl rfl ?_
  obtain ⟨f19, a20, hA, hB, hw⟩ := hw
  refine xw_getr fr_M_70 d_M_starts_39 hA hB ?_
  refine xw_iload_n d_M_starts_42 rfl rfl ?_
  refine xw_iload d_M_starts_43 rfl ?_
  obtain ⟨ar21, hA, hB, hC, hw⟩ := hw
  refine xw_iastore (t := 0) rfl d_M_starts_45 hA hB hC ?_
  generalize hh : xu h18 a20 (.inl (0, .inl (ar21.set p1.toNatClampNeg p4))) = h22
  have hw := hw h22 hh.symm
  refine xw_aload_n d_M_starts_46 rfl rfl ?_
  obtain ⟨f23, a24, hA, hB, hw⟩ := hw
  refine xw_getr fr_M_61 d_M_starts_47 hA hB ?_
  refine xw_iload_n d_M_starts_50 rfl rfl ?_
  refine xw_iconst (v := 0) d_M_starts_51 (by decide) ?_
  obtain ⟨ar25, hA, hB, hC, hw⟩ := hw
  refine xw_iastore (t := 0) rfl d_M_starts_52 hA hB hC ?_
  generalize hh : xu h22 a24 (.inl (0, .inl (ar25.set p1.toNatClampNeg 0))) = h26
  have hw := hw h26 hh.symm
  refine xw_aload_n d_M_starts_53 rfl rfl ?_
  obtain ⟨f27, a28, hA, hB, hw⟩ := hw
  refine xw_getr fr_M_76 d_M_starts_54 hA hB ?_
  refine xw_iload_n d_M_starts_57 rfl rfl ?_
  refine xw_iconst (v := 0) d_M_starts_58 (by decide) ?_
  obtain ⟨ar29, hA, hB, hC, hw⟩ := hw
  refine xw_iastore (t := 0) rfl d_M_starts_59 hA hB hC ?_
  generalize hh : xu h26 a28 (.inl (0, .inl (ar29.set p1.toNatClampNeg 0))) = h30
  have hw := hw h30 hh.symm
  refine xw_aload_n d_M_starts_60 rfl rfl ?_
  refine xw_iload_n d_M_starts_61 rfl rfl ?_
  refine xw_iconst (v := 1) d_M_starts_62 (by decide) ?_
  obtain ⟨⟨f32, hA⟩, hw⟩ := hw
  refine xc_V2n lk_M_203 in_M_begins d_M_starts_63 (x_M_begins hw) rfl hA rfl ?_
  intro h31 hw
  refine xw_aload_n d_M_starts_66 rfl rfl ?_
  refine xw_iload_n d_M_starts_67 rfl rfl ?_
  obtain ⟨⟨f34, hA⟩, hw⟩ := hw
  refine xc_V1n lk_M_216 in_M_goesOn d_M_starts_68 (x_M_goesOn hw) rfl hA rfl ?_
  intro h33 hw
  refine xw_aload_n d_M_starts_71 rfl rfl ?_
  refine xw_iload_n d_M_starts_72 rfl rfl ?_
  obtain ⟨⟨f36, hA⟩, hw⟩ := hw
  refine xc_V1i lk_M_111 in_M_isUp d_M_starts_73 (x_M_isUp hw) rfl hA rfl ?_
  intro x37 h35 hw
  refine xw_if_eq (tgt := 84) d_M_starts_76 (by decide) (fun c38 => ?_) (fun c38 => ?_)
  · have hw := hw.1 c38
    refine xw_bipush (v := -9) d_M_starts_84 (by decide) ?_
    exact xw_ireturn rfl d_M_starts_86 hw
  · have hw := hw.2 c38
    refine xw_iload d_M_starts_79 rfl ?_
    refine xw_goto (tgt := 86) d_M_starts_81 (by decide) ?_
    exact xw_ireturn rfl d_M_starts_86 hw
set_option maxRecDepth 100000 in
def w_M_read_22 (Q : Option Value → xH → Prop) (l0 : Nat) (l1 : Int32) (l2 : Int32) (h : xH) : Prop := Q (some (.int (-1))) h
set_option maxRecDepth 100000 in
set_option maxHeartbeats 4000000 in
theorem p_M_read_22 {sc : List Int32} {Q : Option Value → xH → Prop} (l0 : Nat) (l1 : Int32) (l2 : Int32) (h : xH) (hw : w_M_read_22 Q l0 l1 l2 h) : xW sc m_M_read 10 0 0 22 [some (.ref (l0)), some (.int (l1)), some (.int (l2))] [] h Q := by
  unfold w_M_read_22 at hw
  refine xw_iconst (v := -1) d_M_read_22 (by decide) ?_
  refine xw_goto (tgt := 34) d_M_read_23 (by decide) ?_
  exact xw_ireturn rfl d_M_read_34 hw
set_option maxRecDepth 100000 in
def w_M_read (Q : Option Value → xH → Prop) (this : Nat) (p1 : Int32) (p2 : Int32) (h : xH) : Prop := ∃ f1, h.2 this = some (.inr (8, f1)) ∧ 0 < f1.length ∧ ∀ h2, h2 = xu h this (.inr (8, f1.set 0 (.int (0)))) → (∃ f4, h2.2 this = some (.inr (8, f4))) ∧ w_M_isFree (fun v h3 => ∃ (x5 : Int32), v = some (.int x5) ∧ ((x5 = 0 → w_M_read_22 Q (this) (p1) (p2) h3) ∧ (¬ x5 = 0 → w_M_in (fun v h6 => ∃ (x7 : Int32), v = some (.int x7) ∧ ((¬ x7 = 0 → (∃ f9, h6.2 this = some (.inr (8, f9))) ∧ w_M_starts (fun v h8 => ∃ (x10 : Int32), v = some (.int x10) ∧ Q (some (.int x10)) h8) this p1 1 p2 0 h6) ∧ (x7 = 0 → w_M_read_22 Q (this) (p1) (p2) h6))) p2 0 3 h3))) this p1 h2
set_option maxRecDepth 100000 in
set_option maxHeartbeats 4000000 in
theorem x_M_read {sc : List Int32} {Q : Option Value → xH → Prop} {this : Nat} {p1 : Int32} {p2 : Int32} {h : xH} (hw : w_M_read Q this p1 p2 h) : xMet sc m_M_read 10 0 0 [.ref (this), .int (p1), .int (p2)] h Q := by
  unfold w_M_read at hw
  refine xMet.of2 cw_M_read rfl rfl ?_
  show xW sc m_M_read 10 0 0 0 [some (.ref (this)), some (.int (p1)), some (.int (p2))] [] h Q
  refine xw_aload_n d_M_read_0 rfl rfl ?_
  refine xw_iconst (v := 0) d_M_read_1 (by decide) ?_
  obtain ⟨f1, hA, hB, hw⟩ := hw
  refine xw_puti fs_M_103 d_M_read_2 hA hB ?_
  generalize hh : xu h this (.inr (8, f1.set 0 (.int (0)))) = h2
  have hw := hw h2 hh.symm
  refine xw_aload_n d_M_read_5 rfl rfl ?_
  refine xw_iload_n d_M_read_6 rfl rfl ?_
  obtain ⟨⟨f4, hA⟩, hw⟩ := hw
  refine xc_V1i lk_M_251 in_M_isFree d_M_read_7 (x_M_isFree hw) rfl hA rfl ?_
  intro x5 h3 hw
  refine xw_if_eq (tgt := 22) d_M_read_10 (by decide) (fun c12 => ?_) (fun c12 => ?_)
  · have hw := hw.1 c12
    exact p_M_read_22  (this) (p1) (p2) h3 hw
  · have hw := hw.2 c12
    refine xw_iload_n d_M_read_13 rfl rfl ?_
    refine xw_iconst (v := 0) d_M_read_14 (by decide) ?_
    refine xw_iconst (v := 3) d_M_read_15 (by decide) ?_
    refine xc_S3i lk_M_107 st_M_in d_M_read_16 (x_M_in hw) rfl rfl ?_
    intro x7 h6 hw
    refine xw_if_ne (tgt := 26) d_M_read_19 (by decide) (fun c11 => ?_) (fun c11 => ?_)
    · have hw := hw.1 c11
      refine xw_aload_n d_M_read_26 rfl rfl ?_
      refine xw_iload_n d_M_read_27 rfl rfl ?_
      refine xw_iconst (v := 1) d_M_read_28 (by decide) ?_
      refine xw_iload_n d_M_read_29 rfl rfl ?_
      refine xw_iconst (v := 0) d_M_read_30 (by decide) ?_
      obtain ⟨⟨f9, hA⟩, hw⟩ := hw
      refine xc_V4i lk_M_254 in_M_starts d_M_read_31 (x_M_starts hw) rfl hA rfl ?_
      intro x10 h8 hw
      exact xw_ireturn rfl d_M_read_34 hw
    · have hw := hw.2 c11
      exact p_M_read_22  (this) (p1) (p2) h6 hw
set_option maxRecDepth 100000 in
def w_M_write_22 (Q : Option Value → xH → Prop) (l0 : Nat) (l1 : Int32) (l2 : Int32) (l3 : Int32) (h : xH) : Prop := Q (some (.int (-1))) h
set_option maxRecDepth 100000 in
set_option maxHeartbeats 4000000 in
theorem p_M_write_22 {sc : List Int32} {Q : Option Value → xH → Prop} (l0 : Nat) (l1 : Int32) (l2 : Int32) (l3 : Int32) (h : xH) (hw : w_M_write_22 Q l0 l1 l2 l3 h) : xW sc m_M_write 10 0 0 22 [some (.ref (l0)), some (.int (l1)), some (.int (l2)), some (.int (l3))] [] h Q := by
  unfold w_M_write_22 at hw
  refine xw_iconst (v := -1) d_M_write_22 (by decide) ?_
  refine xw_goto (tgt := 34) d_M_write_23 (by decide) ?_
  exact xw_ireturn rfl d_M_write_34 hw
set_option maxRecDepth 100000 in
def w_M_write (Q : Option Value → xH → Prop) (this : Nat) (p1 : Int32) (p2 : Int32) (p3 : Int32) (h : xH) : Prop := ∃ f1, h.2 this = some (.inr (8, f1)) ∧ 0 < f1.length ∧ ∀ h2, h2 = xu h this (.inr (8, f1.set 0 (.int (0)))) → (∃ f4, h2.2 this = some (.inr (8, f4))) ∧ w_M_isFree (fun v h3 => ∃ (x5 : Int32), v = some (.int x5) ∧ ((x5 = 0 → w_M_write_22 Q (this) (p1) (p2) (p3) h3) ∧ (¬ x5 = 0 → w_M_in (fun v h6 => ∃ (x7 : Int32), v = some (.int x7) ∧ ((¬ x7 = 0 → (∃ f9, h6.2 this = some (.inr (8, f9))) ∧ w_M_starts (fun v h8 => ∃ (x10 : Int32), v = some (.int x10) ∧ Q (some (.int x10)) h8) this p1 2 p2 p3 h6) ∧ (x7 = 0 → w_M_write_22 Q (this) (p1) (p2) (p3) h6))) p2 0 3 h3))) this p1 h2
set_option maxRecDepth 100000 in
set_option maxHeartbeats 4000000 in
theorem x_M_write {sc : List Int32} {Q : Option Value → xH → Prop} {this : Nat} {p1 : Int32} {p2 : Int32} {p3 : Int32} {h : xH} (hw : w_M_write Q this p1 p2 p3 h) : xMet sc m_M_write 10 0 0 [.ref (this), .int (p1), .int (p2), .int (p3)] h Q := by
  unfold w_M_write at hw
  refine xMet.of2 cw_M_write rfl rfl ?_
  show xW sc m_M_write 10 0 0 0 [some (.ref (this)), some (.int (p1)), some (.int (p2)), some (.int (p3))] [] h Q
  refine xw_aload_n d_M_write_0 rfl rfl ?_
  refine xw_iconst (v := 0) d_M_write_1 (by decide) ?_
  obtain ⟨f1, hA, hB, hw⟩ := hw
  refine xw_puti fs_M_103 d_M_write_2 hA hB ?_
  generalize hh : xu h this (.inr (8, f1.set 0 (.int (0)))) = h2
  have hw := hw h2 hh.symm
  refine xw_aload_n d_M_write_5 rfl rfl ?_
  refine xw_iload_n d_M_write_6 rfl rfl ?_
  obtain ⟨⟨f4, hA⟩, hw⟩ := hw
  refine xc_V1i lk_M_251 in_M_isFree d_M_write_7 (x_M_isFree hw) rfl hA rfl ?_
  intro x5 h3 hw
  refine xw_if_eq (tgt := 22) d_M_write_10 (by decide) (fun c12 => ?_) (fun c12 => ?_)
  · have hw := hw.1 c12
    exact p_M_write_22  (this) (p1) (p2) (p3) h3 hw
  · have hw := hw.2 c12
    refine xw_iload_n d_M_write_13 rfl rfl ?_
    refine xw_iconst (v := 0) d_M_write_14 (by decide) ?_
    refine xw_iconst (v := 3) d_M_write_15 (by decide) ?_
    refine xc_S3i lk_M_107 st_M_in d_M_write_16 (x_M_in hw) rfl rfl ?_
    intro x7 h6 hw
    refine xw_if_ne (tgt := 26) d_M_write_19 (by decide) (fun c11 => ?_) (fun c11 => ?_)
    · have hw := hw.1 c11
      refine xw_aload_n d_M_write_26 rfl rfl ?_
      refine xw_iload_n d_M_write_27 rfl rfl ?_
      refine xw_iconst (v := 2) d_M_write_28 (by decide) ?_
      refine xw_iload_n d_M_write_29 rfl rfl ?_
      refine xw_iload_n d_M_write_30 rfl rfl ?_
      obtain ⟨⟨f9, hA⟩, hw⟩ := hw
      refine xc_V4i lk_M_254 in_M_starts d_M_write_31 (x_M_starts hw) rfl hA rfl ?_
      intro x10 h8 hw
      exact xw_ireturn rfl d_M_write_34 hw
    · have hw := hw.2 c11
      exact p_M_write_22  (this) (p1) (p2) (p3) h6 hw
set_option maxRecDepth 100000 in
def w_M_propose_24 (Q : Option Value → xH → Prop) (l0 : Nat) (l1 : Int32) (l2 : Int32) (l3 : Int32) (l4 : Int32) (s0 : Int32) (h : xH) : Prop := (∃ f2, h.2 l0 = some (.inr (8, f2))) ∧ w_M_isFree (fun v h1 => ∃ (x3 : Int32), v = some (.int x3) ∧ ((x3 = 0 → Q (some (.int (-1))) h1) ∧ (¬ x3 = 0 → w_M_in (fun v h4 => ∃ (x5 : Int32), v = some (.int x5) ∧ ((x5 = 0 → Q (some (.int (-1))) h4) ∧ (¬ x5 = 0 → w_M_in (fun v h6 => ∃ (x7 : Int32), v = some (.int x7) ∧ ((x7 = 0 → Q (some (.int (-1))) h6) ∧ (¬ x7 = 0 → (((l3 + l4) ≤ s0 → Q (some (.int (-1))) h6) ∧ (¬ (l3 + l4) ≤ s0 → (∃ f9, h6.2 l0 = some (.inr (8, f9))) ∧ w_M_greatest (fun v h8 => ∃ (x10 : Int32), v = some (.int x10) ∧ ((¬ x10 = 15 → ∃ (f11 : List Value) (a12 : Nat), h8.2 l0 = some (.inr (8, f11)) ∧ f11[25]? = some (.ref a12) ∧ (∃ f14, h8.2 l0 = some (.inr (8, f14))) ∧ w_M_greatest (fun v h13 => ∃ (x15 : Int32), v = some (.int x15) ∧ ∃ ar16, h13.2 a12 = some (.inl (0, .inl ar16)) ∧ 0 ≤ l1 ∧ l1.toNatClampNeg < ar16.length ∧ ∀ h17, h17 = xu h13 a12 (.inl (0, .inl (ar16.set l1.toNatClampNeg x15))) → ∃ (f18 : List Value) (a19 : Nat), h17.2 l0 = some (.inr (8, f18)) ∧ f18[25]? = some (.ref a19) ∧ ∃ (ar24 : List Int32) (x20 : Int32), h17.2 a19 = some (.inl (0, .inl ar24)) ∧ 0 ≤ l1 ∧ ar24[l1.toNatClampNeg]? = some x20 ∧ (∃ f22, h17.2 l0 = some (.inr (8, f22))) ∧ w_M_starts (fun v h21 => ∃ (x23 : Int32), v = some (.int x23) ∧ Q (some (.int x23)) h21) l0 l1 3 (x20 + 1) ((l2 + (256 * l3)) + (4096 * l4)) h17) l0 l1 h8) ∧ (x10 = 15 → Q (some (.int (-1))) h8))) l0 l1 h6))))) l4 1 s0 h4))) l3 1 s0 h1))) l0 l1 h
set_option maxRecDepth 100000 in
set_option maxHeartbeats 4000000 in
theorem p_M_propose_24 {sc : List Int32} {Q : Option Value → xH → Prop} (l0 : Nat) (l1 : Int32) (l2 : Int32) (l3 : Int32) (l4 : Int32) (s0 : Int32) (h : xH) (hw : w_M_propose_24 Q l0 l1 l2 l3 l4 s0 h) : xW sc m_M_propose 10 0 0 24 [some (.ref (l0)), some (.int (l1)), some (.int (l2)), some (.int (l3)), some (.int (l4)), none] [.int (s0)] h Q := by
  unfold w_M_propose_24 at hw
  refine xs_istore (lv' := [some (.ref (l0)), some (.int (l1)), some (.int (l2)), some (.int (l3)), some (.int (l4)), some (.int (s0))]) d_M_propose_24 rfl rfl ?_
  refine xw_aload_n d_M_propose_26 rfl rfl ?_
  refine xw_iload_n d_M_propose_27 rfl rfl ?_
  obtain ⟨⟨f2, hA⟩, hw⟩ := hw
  refine xc_V1i lk_M_251 in_M_isFree d_M_propose_28 (x_M_isFree hw) rfl hA rfl ?_
  intro x3 h1 hw
  refine xw_if_eq (tgt := 74) d_M_propose_31 (by decide) (fun c29 => ?_) (fun c29 => ?_)
  · have hw := hw.1 c29
    refine xw_iconst (v := -1) d_M_propose_74 (by decide) ?_
    exact xw_ireturn rfl d_M_propose_75 hw
  · have hw := hw.2 c29
    refine xw_iload_n d_M_propose_34 rfl rfl ?_
    refine xw_iconst (v := 1) d_M_propose_35 (by decide) ?_
    refine xw_iload d_M_propose_36 rfl ?_
    refine xc_S3i lk_M_107 st_M_in d_M_propose_38 (x_M_in hw) rfl rfl ?_
    intro x5 h4 hw
    refine xw_if_eq (tgt := 74) d_M_propose_41 (by decide) (fun c28 => ?_) (fun c28 => ?_)
    · have hw := hw.1 c28
      refine xw_iconst (v := -1) d_M_propose_74 (by decide) ?_
      exact xw_ireturn rfl d_M_propose_75 hw
    · have hw := hw.2 c28
      refine xw_iload d_M_propose_44 rfl ?_
      refine xw_iconst (v := 1) d_M_propose_46 (by decide) ?_
      refine xw_iload d_M_propose_47 rfl ?_
      refine xc_S3i lk_M_107 st_M_in d_M_propose_49 (x_M_in hw) rfl rfl ?_
      intro x7 h6 hw
      refine xw_if_eq (tgt := 74) d_M_propose_52 (by decide) (fun c27 => ?_) (fun c27 => ?_)
      · have hw := hw.1 c27
        refine xw_iconst (v := -1) d_M_propose_74 (by decide) ?_
        exact xw_ireturn rfl d_M_propose_75 hw
      · have hw := hw.2 c27
        refine xw_iload_n d_M_propose_55 rfl rfl ?_
        refine xw_iload d_M_propose_56 rfl ?_
        refine xw_iadd d_M_propose_58 ?_
        refine xw_iload d_M_propose_59 rfl ?_
        refine xw_icmp_le (tgt := 74) d_M_propose_61 (by decide) (fun c26 => ?_) (fun c26 => ?_)
        · have hw := hw.1 c26
          refine xw_iconst (v := -1) d_M_propose_74 (by decide) ?_
          exact xw_ireturn rfl d_M_propose_75 hw
        · have hw := hw.2 c26
          refine xw_aload_n d_M_propose_64 rfl rfl ?_
          refine xw_iload_n d_M_propose_65 rfl rfl ?_
          obtain ⟨⟨f9, hA⟩, hw⟩ := hw
          refine xc_V1i lk_M_233 in_M_greatest d_M_propose_66 (x_M_greatest hw) rfl hA rfl ?_
          intro x10 h8 hw
          refine xw_bipush (v := 15) d_M_propose_69 (by decide) ?_
          refine xw_icmp_ne (tgt := 76) d_M_propose_71 (by decide) (fun c25 => ?_) (fun c25 => ?_)
          · have hw := hw.1 c25
            refine xw_aload_n d_M_propose_76 rfl rfl ?_
            obtain ⟨f11, a12, hA, hB, hw⟩ := hw
            refine xw_getr fr_M_79 d_M_propose_77 hA hB ?_
            refine xw_iload_n d_M_propose_80 rfl rfl ?_
            refine xw_aload_n d_M_propose_81 rfl rfl ?_
            refine xw_iload_n d_M_propose_82 rfl rfl ?_
            obtain ⟨⟨f14, hA⟩, hw⟩ := hw
            refine xc_V1i lk_M_233 in_M_greatest d_M_propose_83 (x_M_greatest hw) rfl hA rfl ?_
            intro x15 h13 hw
            obtain ⟨ar16, hA, hB, hC, hw⟩ := hw
            refine xw_iastore (t := 0) rfl d_M_propose_86 hA hB hC ?_
            generalize hh : xu h13 a12 (.inl (0, .inl (ar16.set l1.toNatClampNeg x15))) = h17
            have hw := hw h17 hh.symm
            refine xw_aload_n d_M_propose_87 rfl rfl ?_
            refine xw_iload_n d_M_propose_88 rfl rfl ?_
            refine xw_iconst (v := 3) d_M_propose_89 (by decide) ?_
            refine xw_aload_n d_M_propose_90 rfl rfl ?_
            obtain ⟨f18, a19, hA, hB, hw⟩ := hw
            refine xw_getr fr_M_79 d_M_propose_91 hA hB ?_
            refine xw_iload_n d_M_propose_94 rfl rfl ?_
            obtain ⟨ar24, x20, hA, hB, hC, hw⟩ := hw
            refine xw_iaload (t := 0) rfl d_M_propose_95 hA hB hC ?_
            refine xw_iconst (v := 1) d_M_propose_96 (by decide) ?_
            refine xw_iadd d_M_propose_97 ?_
            refine xw_iload_n d_M_propose_98 rfl rfl ?_
            refine xw_sipush (v := 256) d_M_propose_99 (by decide) ?_
            refine xw_iload_n d_M_propose_102 rfl rfl ?_
            refine xw_imul d_M_propose_103 ?_
            refine xw_iadd d_M_propose_104 ?_
            refine xw_sipush (v := 4096) d_M_propose_105 (by decide) ?_
            refine xw_iload d_M_propose_108 rfl ?_
            refine xw_imul d_M_propose_110 ?_
            refine xw_iadd d_M_propose_111 ?_
            obtain ⟨⟨f22, hA⟩, hw⟩ := hw
            refine xc_V4i lk_M_254 in_M_starts d_M_propose_112 (x_M_starts hw) rfl hA rfl ?_
            intro x23 h21 hw
            exact xw_ireturn rfl d_M_propose_115 hw
          · have hw := hw.2 c25
            refine xw_iconst (v := -1) d_M_propose_74 (by decide) ?_
            exact xw_ireturn rfl d_M_propose_75 hw
set_option maxRecDepth 100000 in
def w_M_propose (Q : Option Value → xH → Prop) (this : Nat) (p1 : Int32) (p2 : Int32) (p3 : Int32) (p4 : Int32) (h : xH) : Prop := ∃ f1, h.2 this = some (.inr (8, f1)) ∧ 0 < f1.length ∧ ∀ h2, h2 = xu h this (.inr (8, f1.set 0 (.int (0)))) → w_M_in (fun v h3 => ∃ (x4 : Int32), v = some (.int x4) ∧ ((x4 = 0 → w_M_propose_24 Q (this) (p1) (p2) (p3) (p4) (0) h3) ∧ (¬ x4 = 0 → w_M_many (fun v h5 => ∃ (x6 : Int32), v = some (.int x6) ∧ w_M_propose_24 Q (this) (p1) (p2) (p3) (p4) (x6) h5) p2 h3))) p2 1 255 h2
set_option maxRecDepth 100000 in
set_option maxHeartbeats 4000000 in
theorem x_M_propose {sc : List Int32} {Q : Option Value → xH → Prop} {this : Nat} {p1 : Int32} {p2 : Int32} {p3 : Int32} {p4 : Int32} {h : xH} (hw : w_M_propose Q this p1 p2 p3 p4 h) : xMet sc m_M_propose 10 0 0 [.ref (this), .int (p1), .int (p2), .int (p3), .int (p4)] h Q := by
  unfold w_M_propose at hw
  refine xMet.of2 cw_M_propose rfl rfl ?_
  show xW sc m_M_propose 10 0 0 0 [some (.ref (this)), some (.int (p1)), some (.int (p2)), some (.int (p3)), some (.int (p4)), none] [] h Q
  refine xw_aload_n d_M_propose_0 rfl rfl ?_
  refine xw_iconst (v := 0) d_M_propose_1 (by decide) ?_
  obtain ⟨f1, hA, hB, hw⟩ := hw
  refine xw_puti fs_M_103 d_M_propose_2 hA hB ?_
  generalize hh : xu h this (.inr (8, f1.set 0 (.int (0)))) = h2
  have hw := hw h2 hh.symm
  refine xw_iload_n d_M_propose_5 rfl rfl ?_
  refine xw_iconst (v := 1) d_M_propose_6 (by decide) ?_
  refine xw_sipush (v := 255) d_M_propose_7 (by decide) ?_
  refine xc_S3i lk_M_107 st_M_in d_M_propose_10 (x_M_in hw) rfl rfl ?_
  intro x4 h3 hw
  refine xw_if_eq (tgt := 23) d_M_propose_13 (by decide) (fun c7 => ?_) (fun c7 => ?_)
  · have hw := hw.1 c7
    refine xw_iconst (v := 0) d_M_propose_23 (by decide) ?_
    exact p_M_propose_24  (this) (p1) (p2) (p3) (p4) (0) h3 hw
  · have hw := hw.2 c7
    refine xw_iload_n d_M_propose_16 rfl rfl ?_
    refine xc_S1i lk_M_185 st_M_many d_M_propose_17 (x_M_many hw) rfl rfl ?_
    intro x6 h5 hw
    refine xw_goto (tgt := 24) d_M_propose_20 (by decide) ?_
    exact p_M_propose_24  (this) (p1) (p2) (p3) (p4) (x6) h5 hw
set_option maxRecDepth 100000 in
def w_M_retire_75 (Q : Option Value → xH → Prop) (L37 : Nat → Int32 → Int32 → xH → Prop) (l0 : Nat) (l1 : Int32) (l2 : Int32) (s0 : Int32) (s1 : Int32) (s2 : Int32) (s3 : Nat) (h : xH) : Prop := ∃ ar1, h.2 s3 = some (.inl (0, .inl ar1)) ∧ 0 ≤ s2 ∧ s2.toNatClampNeg < ar1.length ∧ ∀ h2, h2 = xu h s3 (.inl (0, .inl (ar1.set s2.toNatClampNeg (s1 ||| s0)))) → L37 (l0) (l1) (l2 + 1) h2
set_option maxRecDepth 100000 in
set_option maxHeartbeats 4000000 in
theorem p_M_retire_75 {sc : List Int32} {Q : Option Value → xH → Prop} {L37 : Nat → Int32 → Int32 → xH → Prop} (hL37 : ∀ l0 l1 l2 h, L37 l0 l1 l2 h → xW sc m_M_retire 10 0 0 37 [some (.ref (l0)), some (.int (l1)), some (.int (l2))] [] h Q) (l0 : Nat) (l1 : Int32) (l2 : Int32) (s0 : Int32) (s1 : Int32) (s2 : Int32) (s3 : Nat) (h : xH) (hw : w_M_retire_75 Q L37 l0 l1 l2 s0 s1 s2 s3 h) : xW sc m_M_retire 10 0 0 75 [some (.ref (l0)), some (.int (l1)), some (.int (l2))] [.int (s0), .int (s1), .int (s2), .ref (s3)] h Q := by
  unfold w_M_retire_75 at hw
  refine xw_ior d_M_retire_75 ?_
  obtain ⟨ar1, hA, hB, hC, hw⟩ := hw
  refine xw_iastore (t := 0) rfl d_M_retire_76 hA hB hC ?_
  generalize hh : xu h s3 (.inl (0, .inl (ar1.set s2.toNatClampNeg (s1 ||| s0)))) = h2
  have hw := hw h2 hh.symm
  refine xs_iinc (v := l2 + 1) (lv' := [some (.ref (l0)), some (.int (l1)), some (.int (l2 + 1))]) d_M_retire_77 rfl rfl rfl ?_
  refine xw_goto (tgt := 37) d_M_retire_80 (by decide) ?_
  exact hL37 (l0) (l1) (l2 + 1) h2 hw
set_option maxRecDepth 100000 in
def w_M_retire_37 (Q : Option Value → xH → Prop) : Nat → Nat → Int32 → Int32 → xH → Prop
  | 0, _, _, _, _ => False
  | n + 1, l0, l1, l2, h => (∃ f2, h.2 l0 = some (.inr (8, f2))) ∧ w_M_greatest (fun v h1 => ∃ (x3 : Int32), v = some (.int x3) ∧ ((x3 ≤ l2 → (∃ f5, h1.2 l0 = some (.inr (8, f5))) ∧ w_M_greatest (fun v h4 => ∃ (x6 : Int32), v = some (.int x6) ∧ (∃ f8, h4.2 l0 = some (.inr (8, f8))) ∧ w_M_starts (fun v h7 => ∃ (x9 : Int32), v = some (.int x9) ∧ Q (some (.int x9)) h7) l0 l1 4 x6 0 h4) l0 l1 h1) ∧ (¬ x3 ≤ l2 → ∃ (f10 : List Value) (a11 : Nat), h1.2 l0 = some (.inr (8, f10)) ∧ f10[23]? = some (.ref a11) ∧ ∃ (ar18 : List Int32) (x12 : Int32), h1.2 a11 = some (.inl (0, .inl ar18)) ∧ 0 ≤ l1 ∧ ar18[l1.toNatClampNeg]? = some x12 ∧ ∃ (f13 : List Value) (a14 : Nat), h1.2 l0 = some (.inr (8, f13)) ∧ f13[9]? = some (.ref a14) ∧ ∃ (ar17 : List Int32) (x15 : Int32), h1.2 a14 = some (.inl (0, .inl ar17)) ∧ 0 ≤ ((16 * l1) + l2 : Int32) ∧ ar17[((16 * l1) + l2 : Int32).toNatClampNeg]? = some x15 ∧ ((¬ x15 = 1 → w_M_retire_75 Q (fun y0 y1 y2 yh => w_M_retire_37 Q n y0 y1 y2 yh) (l0) (l1) (l2) (0) (x12) (l1) (a11) h1) ∧ (x15 = 1 → w_M_retire_75 Q (fun y0 y1 y2 yh => w_M_retire_37 Q n y0 y1 y2 yh) (l0) (l1) (l2) ((1 : Int32) <<< (l2 &&& 31)) (x12) (l1) (a11) h1))))) l0 l1 h
set_option maxRecDepth 100000 in
set_option maxHeartbeats 4000000 in
theorem p_M_retire_37 {sc : List Int32} {Q : Option Value → xH → Prop} : ∀ (n : Nat) (l0 : Nat) (l1 : Int32) (l2 : Int32) (h : xH), w_M_retire_37 Q n l0 l1 l2 h → xW sc m_M_retire 10 0 0 37 [some (.ref (l0)), some (.int (l1)), some (.int (l2))] [] h Q := by
  intro n
  induction n with
  | zero => intro l0 l1 l2 h hw; exact False.elim hw
  | succ n ih =>
    intro l0 l1 l2 h hw
    rw [w_M_retire_37] at hw
    refine xw_iload_n d_M_retire_37 rfl rfl ?_
    refine xw_aload_n d_M_retire_38 rfl rfl ?_
    refine xw_iload_n d_M_retire_39 rfl rfl ?_
    obtain ⟨⟨f2, hA⟩, hw⟩ := hw
    refine xc_V1i lk_M_233 in_M_greatest d_M_retire_40 (x_M_greatest hw) rfl hA rfl ?_
    intro x3 h1 hw
    refine xw_icmp_ge (tgt := 83) d_M_retire_43 (by decide) (fun c19 => ?_) (fun c19 => ?_)
    · have hw := hw.1 c19
      refine xw_aload_n d_M_retire_83 rfl rfl ?_
      refine xw_iload_n d_M_retire_84 rfl rfl ?_
      refine xw_iconst (v := 4) d_M_retire_85 (by decide) ?_
      refine xw_aload_n d_M_retire_86 rfl rfl ?_
      refine xw_iload_n d_M_retire_87 rfl rfl ?_
      obtain ⟨⟨f5, hA⟩, hw⟩ := hw
      refine xc_V1i lk_M_233 in_M_greatest d_M_retire_88 (x_M_greatest hw) rfl hA rfl ?_
      intro x6 h4 hw
      refine xw_iconst (v := 0) d_M_retire_91 (by decide) ?_
      obtain ⟨⟨f8, hA⟩, hw⟩ := hw
      refine xc_V4i lk_M_254 in_M_starts d_M_retire_92 (x_M_starts hw) rfl hA rfl ?_
      intro x9 h7 hw
      exact xw_ireturn rfl d_M_retire_95 hw
    · have hw := hw.2 c19
      refine xw_aload_n d_M_retire_46 rfl rfl ?_
      obtain ⟨f10, a11, hA, hB, hw⟩ := hw
      refine xw_getr fr_M_73 d_M_retire_47 hA hB ?_
      refine xw_iload_n d_M_retire_50 rfl rfl ?_
      refine xw_dup2 d_M_retire_51 rfl rfl ?_
      obtain ⟨ar18, x12, hA, hB, hC, hw⟩ := hw
      refine xw_iaload (t := 0) rfl d_M_retire_52 hA hB hC ?_
      refine xw_aload_n d_M_retire_53 rfl rfl ?_
      obtain ⟨f13, a14, hA, hB, hw⟩ := hw
      refine xw_getr fr_M_34 d_M_retire_54 hA hB ?_
      refine xw_bipush (v := 16) d_M_retire_57 (by decide) ?_
      refine xw_iload_n d_M_retire_59 rfl rfl ?_
      refine xw_imul d_M_retire_60 ?_
      refine xw_iload_n d_M_retire_61 rfl rfl ?_
      refine xw_iadd d_M_retire_62 ?_
      obtain ⟨ar17, x15, hA, hB, hC, hw⟩ := hw
      refine xw_iaload (t := 0) rfl d_M_retire_63 hA hB hC ?_
      refine xw_iconst (v := 1) d_M_retire_64 (by decide) ?_
      refine xw_icmp_ne (tgt := 74) d_M_retire_65 (by decide) (fun c16 => ?_) (fun c16 => ?_)
      · have hw := hw.1 c16
        refine xw_iconst (v := 0) d_M_retire_74 (by decide) ?_
        exact p_M_retire_75 ih (l0) (l1) (l2) (0) (x12) (l1) (a11) h1 hw
      · have hw := hw.2 c16
        refine xw_iconst (v := 1) d_M_retire_68 (by decide) ?_
        refine xw_iload_n d_M_retire_69 rfl rfl ?_
        refine xw_ishl d_M_retire_70 ?_
        refine xw_goto (tgt := 75) d_M_retire_71 (by decide) ?_
        exact p_M_retire_75 ih (l0) (l1) (l2) ((1 : Int32) <<< (l2 &&& 31)) (x12) (l1) (a11) h1 hw
set_option maxRecDepth 100000 in
def w_M_retire (Q : Option Value → xH → Prop) (this : Nat) (p1 : Int32) (h : xH) : Prop := ∃ f1, h.2 this = some (.inr (8, f1)) ∧ 0 < f1.length ∧ ∀ h2, h2 = xu h this (.inr (8, f1.set 0 (.int (0)))) → (∃ f4, h2.2 this = some (.inr (8, f4))) ∧ w_M_isFree (fun v h3 => ∃ (x5 : Int32), v = some (.int x5) ∧ ((x5 = 0 → Q (some (.int (-1))) h3) ∧ (¬ x5 = 0 → (∃ f7, h3.2 this = some (.inr (8, f7))) ∧ w_M_least (fun v h6 => ∃ (x8 : Int32), v = some (.int x8) ∧ (∃ f10, h6.2 this = some (.inr (8, f10))) ∧ w_M_greatest (fun v h9 => ∃ (x11 : Int32), v = some (.int x11) ∧ ((¬ x8 = x11 → ∃ (f12 : List Value) (a13 : Nat), h9.2 this = some (.inr (8, f12)) ∧ f12[23]? = some (.ref a13) ∧ ∃ ar14, h9.2 a13 = some (.inl (0, .inl ar14)) ∧ 0 ≤ p1 ∧ p1.toNatClampNeg < ar14.length ∧ ∀ h15, h15 = xu h9 a13 (.inl (0, .inl (ar14.set p1.toNatClampNeg 0))) → ∃ n16, w_M_retire_37 Q n16 (this) (p1) (0) h15) ∧ (x8 = x11 → Q (some (.int (-1))) h9))) this p1 h6) this p1 h3))) this p1 h2
set_option maxRecDepth 100000 in
set_option maxHeartbeats 4000000 in
theorem x_M_retire {sc : List Int32} {Q : Option Value → xH → Prop} {this : Nat} {p1 : Int32} {h : xH} (hw : w_M_retire Q this p1 h) : xMet sc m_M_retire 10 0 0 [.ref (this), .int (p1)] h Q := by
  unfold w_M_retire at hw
  refine xMet.of2 cw_M_retire rfl rfl ?_
  show xW sc m_M_retire 10 0 0 0 [some (.ref (this)), some (.int (p1)), none] [] h Q
  refine xw_aload_n d_M_retire_0 rfl rfl ?_
  refine xw_iconst (v := 0) d_M_retire_1 (by decide) ?_
  obtain ⟨f1, hA, hB, hw⟩ := hw
  refine xw_puti fs_M_103 d_M_retire_2 hA hB ?_
  generalize hh : xu h this (.inr (8, f1.set 0 (.int (0)))) = h2
  have hw := hw h2 hh.symm
  refine xw_aload_n d_M_retire_5 rfl rfl ?_
  refine xw_iload_n d_M_retire_6 rfl rfl ?_
  obtain ⟨⟨f4, hA⟩, hw⟩ := hw
  refine xc_V1i lk_M_251 in_M_isFree d_M_retire_7 (x_M_isFree hw) rfl hA rfl ?_
  intro x5 h3 hw
  refine xw_if_eq (tgt := 26) d_M_retire_10 (by decide) (fun c18 => ?_) (fun c18 => ?_)
  · have hw := hw.1 c18
    refine xw_iconst (v := -1) d_M_retire_26 (by decide) ?_
    exact xw_ireturn rfl d_M_retire_27 hw
  · have hw := hw.2 c18
    refine xw_aload_n d_M_retire_13 rfl rfl ?_
    refine xw_iload_n d_M_retire_14 rfl rfl ?_
    obtain ⟨⟨f7, hA⟩, hw⟩ := hw
    refine xc_V1i lk_M_258 in_M_least d_M_retire_15 (x_M_least hw) rfl hA rfl ?_
    intro x8 h6 hw
    refine xw_aload_n d_M_retire_18 rfl rfl ?_
    refine xw_iload_n d_M_retire_19 rfl rfl ?_
    obtain ⟨⟨f10, hA⟩, hw⟩ := hw
    refine xc_V1i lk_M_233 in_M_greatest d_M_retire_20 (x_M_greatest hw) rfl hA rfl ?_
    intro x11 h9 hw
    refine xw_icmp_ne (tgt := 28) d_M_retire_23 (by decide) (fun c17 => ?_) (fun c17 => ?_)
    · have hw := hw.1 c17
      refine xw_aload_n d_M_retire_28 rfl rfl ?_
      obtain ⟨f12, a13, hA, hB, hw⟩ := hw
      refine xw_getr fr_M_73 d_M_retire_29 hA hB ?_
      refine xw_iload_n d_M_retire_32 rfl rfl ?_
      refine xw_iconst (v := 0) d_M_retire_33 (by decide) ?_
      obtain ⟨ar14, hA, hB, hC, hw⟩ := hw
      refine xw_iastore (t := 0) rfl d_M_retire_34 hA hB hC ?_
      generalize hh : xu h9 a13 (.inl (0, .inl (ar14.set p1.toNatClampNeg 0))) = h15
      have hw := hw h15 hh.symm
      refine xw_iconst (v := 0) d_M_retire_35 (by decide) ?_
      refine xs_istore_n (lv' := [some (.ref (this)), some (.int (p1)), some (.int (0))]) d_M_retire_36 rfl rfl rfl ?_
      obtain ⟨n16, hw⟩ := hw
      exact p_M_retire_37  n16 (this) (p1) (0) h15 hw
    · have hw := hw.2 c17
      refine xw_iconst (v := -1) d_M_retire_26 (by decide) ?_
      exact xw_ireturn rfl d_M_retire_27 hw
set_option maxRecDepth 100000 in
def w_M_again_120 (Q : Option Value → xH → Prop) (l0 : Nat) (l1 : Int32) (h : xH) : Prop := (∃ f2, h.2 l0 = some (.inr (8, f2))) ∧ w_M_isUp (fun v h1 => ∃ (x3 : Int32), v = some (.int x3) ∧ ((x3 = 0 → Q (some (.int (-9))) h1) ∧ (¬ x3 = 0 → ∃ (f4 : List Value) (a5 : Nat), h1.2 l0 = some (.inr (8, f4)) ∧ f4[20]? = some (.ref a5) ∧ ∃ (ar13 : List Int32) (x6 : Int32), h1.2 a5 = some (.inl (0, .inl ar13)) ∧ 0 ≤ l1 ∧ ar13[l1.toNatClampNeg]? = some x6 ∧ ∃ (f7 : List Value) (a8 : Nat), h1.2 l0 = some (.inr (8, f7)) ∧ f7[21]? = some (.ref a8) ∧ ∃ (ar12 : List Int32) (x9 : Int32), h1.2 a8 = some (.inl (0, .inl ar12)) ∧ 0 ≤ l1 ∧ ar12[l1.toNatClampNeg]? = some x9 ∧ w_M_many (fun v h10 => ∃ (x11 : Int32), v = some (.int x11) ∧ Q (some (.int x11)) h10) (x6 &&& (x9 ^^^ (-1))) h1))) l0 l1 h
set_option maxRecDepth 100000 in
set_option maxHeartbeats 4000000 in
theorem p_M_again_120 {sc : List Int32} {Q : Option Value → xH → Prop} (l0 : Nat) (l1 : Int32) (h : xH) (hw : w_M_again_120 Q l0 l1 h) : xW sc m_M_again 9 0 0 120 [some (.ref (l0)), some (.int (l1)), none] [] h Q := by
  unfold w_M_again_120 at hw
  refine xw_aload_n d_M_again_120 rfl rfl ?_
  refine xw_iload_n d_M_again_121 rfl rfl ?_
  obtain ⟨⟨f2, hA⟩, hw⟩ := hw
  refine xc_V1i lk_M_111 in_M_isUp d_M_again_122 (x_M_isUp hw) rfl hA rfl ?_
  intro x3 h1 hw
  refine xw_if_eq (tgt := 149) d_M_again_125 (by decide) (fun c14 => ?_) (fun c14 => ?_)
  · have hw := hw.1 c14
    refine xw_bipush (v := -9) d_M_again_149 (by decide) ?_
    exact xw_ireturn rfl d_M_again_151 hw
  · have hw := hw.2 c14
    refine xw_aload_n d_M_again_128 rfl rfl ?_
    obtain ⟨f4, a5, hA, hB, hw⟩ := hw
    refine xw_getr fr_M_64 d_M_again_129 hA hB ?_
    refine xw_iload_n d_M_again_132 rfl rfl ?_
    obtain ⟨ar13, x6, hA, hB, hC, hw⟩ := hw
    refine xw_iaload (t := 0) rfl d_M_again_133 hA hB hC ?_
    refine xw_aload_n d_M_again_134 rfl rfl ?_
    obtain ⟨f7, a8, hA, hB, hw⟩ := hw
    refine xw_getr fr_M_67 d_M_again_135 hA hB ?_
    refine xw_iload_n d_M_again_138 rfl rfl ?_
    obtain ⟨ar12, x9, hA, hB, hC, hw⟩ := hw
    refine xw_iaload (t := 0) rfl d_M_again_139 hA hB hC ?_
    refine xw_iconst (v := -1) d_M_again_140 (by decide) ?_
    refine xw_ixor d_M_again_141 ?_
    refine xw_iand d_M_again_142 ?_
    refine xc_S1i lk_M_185 st_M_many d_M_again_143 (x_M_many hw) rfl rfl ?_
    intro x11 h10 hw
    refine xw_goto (tgt := 151) d_M_again_146 (by decide) ?_
    exact xw_ireturn rfl d_M_again_151 hw
set_option maxRecDepth 100000 in
def w_M_again_114 (Q : Option Value → xH → Prop) (L57 : Nat → Int32 → Int32 → xH → Prop) (l0 : Nat) (l1 : Int32) (l2 : Int32) (h : xH) : Prop := L57 (l0) (l1) (l2 + 1) h
set_option maxRecDepth 100000 in
set_option maxHeartbeats 4000000 in
theorem p_M_again_114 {sc : List Int32} {Q : Option Value → xH → Prop} {L57 : Nat → Int32 → Int32 → xH → Prop} (hL57 : ∀ l0 l1 l2 h, L57 l0 l1 l2 h → xW sc m_M_again 9 0 0 57 [some (.ref (l0)), some (.int (l1)), some (.int (l2))] [] h Q) (l0 : Nat) (l1 : Int32) (l2 : Int32) (h : xH) (hw : w_M_again_114 Q L57 l0 l1 l2 h) : xW sc m_M_again 9 0 0 114 [some (.ref (l0)), some (.int (l1)), some (.int (l2))] [] h Q := by
  unfold w_M_again_114 at hw
  refine xs_iinc (v := l2 + 1) (lv' := [some (.ref (l0)), some (.int (l1)), some (.int (l2 + 1))]) d_M_again_114 rfl rfl rfl ?_
  refine xw_goto (tgt := 57) d_M_again_117 (by decide) ?_
  exact hL57 (l0) (l1) (l2 + 1) h hw
set_option maxRecDepth 100000 in
def w_M_again_57 (Q : Option Value → xH → Prop) : Nat → Nat → Int32 → Int32 → xH → Prop
  | 0, _, _, _, _ => False
  | n + 1, l0, l1, l2, h => ((8 ≤ l2 → w_M_again_120 Q (l0) (l1) h) ∧ (¬ 8 ≤ l2 → ∃ (f1 : List Value) (a2 : Nat), h.2 l0 = some (.inr (8, f1)) ∧ f1[20]? = some (.ref a2) ∧ ∃ (ar20 : List Int32) (x3 : Int32), h.2 a2 = some (.inl (0, .inl ar20)) ∧ 0 ≤ l1 ∧ ar20[l1.toNatClampNeg]? = some x3 ∧ ∃ (f4 : List Value) (a5 : Nat), h.2 l0 = some (.inr (8, f4)) ∧ f4[21]? = some (.ref a5) ∧ ∃ (ar19 : List Int32) (x6 : Int32), h.2 a5 = some (.inl (0, .inl ar19)) ∧ 0 ≤ l1 ∧ ar19[l1.toNatClampNeg]? = some x6 ∧ ((((x3 &&& (x6 ^^^ (-1)) : Int32) >>> (l2 &&& 31)) = 0 → w_M_again_114 Q (fun y0 y1 y2 yh => w_M_again_57 Q n y0 y1 y2 yh) (l0) (l1) (l2) h) ∧ (¬ ((x3 &&& (x6 ^^^ (-1)) : Int32) >>> (l2 &&& 31)) = 0 → ∃ (f7 : List Value) (a8 : Nat), h.2 l0 = some (.inr (8, f7)) ∧ f7[20]? = some (.ref a8) ∧ ∃ (ar17 : List Int32) (x9 : Int32), h.2 a8 = some (.inl (0, .inl ar17)) ∧ 0 ≤ l1 ∧ ar17[l1.toNatClampNeg]? = some x9 ∧ ∃ (f10 : List Value) (a11 : Nat), h.2 l0 = some (.inr (8, f10)) ∧ f10[21]? = some (.ref a11) ∧ ∃ (ar16 : List Int32) (x12 : Int32), h.2 a11 = some (.inl (0, .inl ar16)) ∧ 0 ≤ l1 ∧ ar16[l1.toNatClampNeg]? = some x12 ∧ ((¬ (((x9 &&& (x12 ^^^ (-1)) : Int32) >>> (l2 &&& 31)) &&& 1) = 0 → (∃ f14, h.2 l0 = some (.inr (8, f14))) ∧ w_M_request (fun v h13 => v = none ∧ w_M_again_114 Q (fun y0 y1 y2 yh => w_M_again_57 Q n y0 y1 y2 yh) (l0) (l1) (l2) h13) l0 l1 l2 h) ∧ ((((x9 &&& (x12 ^^^ (-1)) : Int32) >>> (l2 &&& 31)) &&& 1) = 0 → w_M_again_114 Q (fun y0 y1 y2 yh => w_M_again_57 Q n y0 y1 y2 yh) (l0) (l1) (l2) h))))))
set_option maxRecDepth 100000 in
set_option maxHeartbeats 4000000 in
theorem p_M_again_57 {sc : List Int32} {Q : Option Value → xH → Prop} : ∀ (n : Nat) (l0 : Nat) (l1 : Int32) (l2 : Int32) (h : xH), w_M_again_57 Q n l0 l1 l2 h → xW sc m_M_again 9 0 0 57 [some (.ref (l0)), some (.int (l1)), some (.int (l2))] [] h Q := by
  intro n
  induction n with
  | zero => intro l0 l1 l2 h hw; exact False.elim hw
  | succ n ih =>
    intro l0 l1 l2 h hw
    rw [w_M_again_57] at hw
    refine xw_iload_n d_M_again_57 rfl rfl ?_
    refine xw_bipush (v := 8) d_M_again_58 (by decide) ?_
    refine xw_icmp_ge (tgt := 120) d_M_again_60 (by decide) (fun c21 => ?_) (fun c21 => ?_)
    · have hw := hw.1 c21
      refine xs_drop (lv' := [some (.ref (l0)), some (.int (l1)), none]) 2 rfl ?_
      exact p_M_again_120  (l0) (l1) h hw
    · have hw := hw.2 c21
      refine xw_aload_n d_M_again_63 rfl rfl ?_
      obtain ⟨f1, a2, hA, hB, hw⟩ := hw
      refine xw_getr fr_M_64 d_M_again_64 hA hB ?_
      refine xw_iload_n d_M_again_67 rfl rfl ?_
      obtain ⟨ar20, x3, hA, hB, hC, hw⟩ := hw
      refine xw_iaload (t := 0) rfl d_M_again_68 hA hB hC ?_
      refine xw_aload_n d_M_again_69 rfl rfl ?_
      obtain ⟨f4, a5, hA, hB, hw⟩ := hw
      refine xw_getr fr_M_67 d_M_again_70 hA hB ?_
      refine xw_iload_n d_M_again_73 rfl rfl ?_
      obtain ⟨ar19, x6, hA, hB, hC, hw⟩ := hw
      refine xw_iaload (t := 0) rfl d_M_again_74 hA hB hC ?_
      refine xw_iconst (v := -1) d_M_again_75 (by decide) ?_
      refine xw_ixor d_M_again_76 ?_
      refine xw_iand d_M_again_77 ?_
      refine xw_iload_n d_M_again_78 rfl rfl ?_
      refine xw_ishr d_M_again_79 ?_
      refine xw_if_eq (tgt := 114) d_M_again_80 (by decide) (fun c18 => ?_) (fun c18 => ?_)
      · have hw := hw.1 c18
        exact p_M_again_114 ih (l0) (l1) (l2) h hw
      · have hw := hw.2 c18
        refine xw_aload_n d_M_again_83 rfl rfl ?_
        obtain ⟨f7, a8, hA, hB, hw⟩ := hw
        refine xw_getr fr_M_64 d_M_again_84 hA hB ?_
        refine xw_iload_n d_M_again_87 rfl rfl ?_
        obtain ⟨ar17, x9, hA, hB, hC, hw⟩ := hw
        refine xw_iaload (t := 0) rfl d_M_again_88 hA hB hC ?_
        refine xw_aload_n d_M_again_89 rfl rfl ?_
        obtain ⟨f10, a11, hA, hB, hw⟩ := hw
        refine xw_getr fr_M_67 d_M_again_90 hA hB ?_
        refine xw_iload_n d_M_again_93 rfl rfl ?_
        obtain ⟨ar16, x12, hA, hB, hC, hw⟩ := hw
        refine xw_iaload (t := 0) rfl d_M_again_94 hA hB hC ?_
        refine xw_iconst (v := -1) d_M_again_95 (by decide) ?_
        refine xw_ixor d_M_again_96 ?_
        refine xw_iand d_M_again_97 ?_
        refine xw_iload_n d_M_again_98 rfl rfl ?_
        refine xw_ishr d_M_again_99 ?_
        refine xw_iconst (v := 1) d_M_again_100 (by decide) ?_
        refine xw_iand d_M_again_101 ?_
        refine xw_if_ne (tgt := 108) d_M_again_102 (by decide) (fun c15 => ?_) (fun c15 => ?_)
        · have hw := hw.1 c15
          refine xw_aload_n d_M_again_108 rfl rfl ?_
          refine xw_iload_n d_M_again_109 rfl rfl ?_
          refine xw_iload_n d_M_again_110 rfl rfl ?_
          obtain ⟨⟨f14, hA⟩, hw⟩ := hw
          refine xc_V2n lk_M_170 in_M_request d_M_again_111 (x_M_request hw) rfl hA rfl ?_
          intro h13 hw
          exact p_M_again_114 ih (l0) (l1) (l2) h13 hw
        · have hw := hw.2 c15
          refine xw_goto (tgt := 114) d_M_again_105 (by decide) ?_
          exact p_M_again_114 ih (l0) (l1) (l2) h hw
set_option maxRecDepth 100000 in
def w_M_again (Q : Option Value → xH → Prop) (this : Nat) (p1 : Int32) (h : xH) : Prop := ∃ f1, h.2 this = some (.inr (8, f1)) ∧ 0 < f1.length ∧ ∀ h2, h2 = xu h this (.inr (8, f1.set 0 (.int (0)))) → w_M_isNode (fun v h3 => ∃ (x4 : Int32), v = some (.int x4) ∧ ((x4 = 0 → Q (some (.int (-1))) h3) ∧ (¬ x4 = 0 → (∃ f6, h3.2 this = some (.inr (8, f6))) ∧ w_M_isUp (fun v h5 => ∃ (x7 : Int32), v = some (.int x7) ∧ ((x7 = 0 → Q (some (.int (-1))) h5) ∧ (¬ x7 = 0 → ∃ (f8 : List Value) (a9 : Nat), h5.2 this = some (.inr (8, f8)) ∧ f8[17]? = some (.ref a9) ∧ ∃ (ar22 : List Int32) (x10 : Int32), h5.2 a9 = some (.inl (0, .inl ar22)) ∧ 0 ≤ p1 ∧ ar22[p1.toNatClampNeg]? = some x10 ∧ ((¬ x10 = 0 → ∃ (f11 : List Value) (a12 : Nat), h5.2 this = some (.inr (8, f11)) ∧ f11[16]? = some (.ref a12) ∧ ∃ (ar20 : List Int32) (x13 : Int32), h5.2 a12 = some (.inl (0, .inl ar20)) ∧ 0 ≤ p1 ∧ ar20[p1.toNatClampNeg]? = some x13 ∧ ((¬ x13 = 3 → ∃ n14, w_M_again_57 Q n14 (this) (p1) (0) h5) ∧ (x13 = 3 → (∃ f16, h5.2 this = some (.inr (8, f16))) ∧ w_M_begins (fun v h15 => v = none ∧ (∃ f18, h15.2 this = some (.inr (8, f18))) ∧ w_M_goesOn (fun v h17 => v = none ∧ w_M_again_120 Q (this) (p1) h17) this p1 h15) this p1 1 h5))) ∧ (x10 = 0 → Q (some (.int (-1))) h5))))) this p1 h3))) p1 h2
set_option maxRecDepth 100000 in
set_option maxHeartbeats 4000000 in
theorem x_M_again {sc : List Int32} {Q : Option Value → xH → Prop} {this : Nat} {p1 : Int32} {h : xH} (hw : w_M_again Q this p1 h) : xMet sc m_M_again 9 0 0 [.ref (this), .int (p1)] h Q := by
  unfold w_M_again at hw
  refine xMet.of2 cw_M_again rfl rfl ?_
  show xW sc m_M_again 9 0 0 0 [some (.ref (this)), some (.int (p1)), none] [] h Q
  refine xw_aload_n d_M_again_0 rfl rfl ?_
  refine xw_iconst (v := 0) d_M_again_1 (by decide) ?_
  obtain ⟨f1, hA, hB, hw⟩ := hw
  refine xw_puti fs_M_103 d_M_again_2 hA hB ?_
  generalize hh : xu h this (.inr (8, f1.set 0 (.int (0)))) = h2
  have hw := hw h2 hh.symm
  refine xw_iload_n d_M_again_5 rfl rfl ?_
  refine xc_S1i lk_M_245 st_M_isNode d_M_again_6 (x_M_isNode hw) rfl rfl ?_
  intro x4 h3 hw
  refine xw_if_eq (tgt := 29) d_M_again_9 (by decide) (fun c24 => ?_) (fun c24 => ?_)
  · have hw := hw.1 c24
    refine xw_iconst (v := -1) d_M_again_29 (by decide) ?_
    exact xw_ireturn rfl d_M_again_30 hw
  · have hw := hw.2 c24
    refine xw_aload_n d_M_again_12 rfl rfl ?_
    refine xw_iload_n d_M_again_13 rfl rfl ?_
    obtain ⟨⟨f6, hA⟩, hw⟩ := hw
    refine xc_V1i lk_M_111 in_M_isUp d_M_again_14 (x_M_isUp hw) rfl hA rfl ?_
    intro x7 h5 hw
    refine xw_if_eq (tgt := 29) d_M_again_17 (by decide) (fun c23 => ?_) (fun c23 => ?_)
    · have hw := hw.1 c23
      refine xw_iconst (v := -1) d_M_again_29 (by decide) ?_
      exact xw_ireturn rfl d_M_again_30 hw
    · have hw := hw.2 c23
      refine xw_aload_n d_M_again_20 rfl rfl ?_
      obtain ⟨f8, a9, hA, hB, hw⟩ := hw
      refine xw_getr fr_M_55 d_M_again_21 hA hB ?_
      refine xw_iload_n d_M_again_24 rfl rfl ?_
      obtain ⟨ar22, x10, hA, hB, hC, hw⟩ := hw
      refine xw_iaload (t := 0) rfl d_M_again_25 hA hB hC ?_
      refine xw_if_ne (tgt := 31) d_M_again_26 (by decide) (fun c21 => ?_) (fun c21 => ?_)
      · have hw := hw.1 c21
        refine xw_aload_n d_M_again_31 rfl rfl ?_
        obtain ⟨f11, a12, hA, hB, hw⟩ := hw
        refine xw_getr fr_M_52 d_M_again_32 hA hB ?_
        refine xw_iload_n d_M_again_35 rfl rfl ?_
        obtain ⟨ar20, x13, hA, hB, hC, hw⟩ := hw
        refine xw_iaload (t := 0) rfl d_M_again_36 hA hB hC ?_
        refine xw_iconst (v := 3) d_M_again_37 (by decide) ?_
        refine xw_icmp_ne (tgt := 55) d_M_again_38 (by decide) (fun c19 => ?_) (fun c19 => ?_)
        · have hw := hw.1 c19
          refine xw_iconst (v := 0) d_M_again_55 (by decide) ?_
          refine xs_istore_n (lv' := [some (.ref (this)), some (.int (p1)), some (.int (0))]) d_M_again_56 rfl rfl rfl ?_
          obtain ⟨n14, hw⟩ := hw
          exact p_M_again_57  n14 (this) (p1) (0) h5 hw
        · have hw := hw.2 c19
          refine xw_aload_n d_M_again_41 rfl rfl ?_
          refine xw_iload_n d_M_again_42 rfl rfl ?_
          refine xw_iconst (v := 1) d_M_again_43 (by decide) ?_
          obtain ⟨⟨f16, hA⟩, hw⟩ := hw
          refine xc_V2n lk_M_203 in_M_begins d_M_again_44 (x_M_begins hw) rfl hA rfl ?_
          intro h15 hw
          refine xw_aload_n d_M_again_47 rfl rfl ?_
          refine xw_iload_n d_M_again_48 rfl rfl ?_
          obtain ⟨⟨f18, hA⟩, hw⟩ := hw
          refine xc_V1n lk_M_216 in_M_goesOn d_M_again_49 (x_M_goesOn hw) rfl hA rfl ?_
          intro h17 hw
          refine xw_goto (tgt := 120) d_M_again_52 (by decide) ?_
          exact p_M_again_120  (this) (p1) h17 hw
      · have hw := hw.2 c21
        refine xw_iconst (v := -1) d_M_again_29 (by decide) ?_
        exact xw_ireturn rfl d_M_again_30 hw
set_option maxRecDepth 100000 in
def w_M_deliver_23 (Q : Option Value → xH → Prop) : Nat → Nat → Int32 → Int32 → xH → Prop
  | 0, _, _, _, _ => False
  | n + 1, l0, l1, l2, h => ((53 ≤ l2 → (∃ f2, h.2 l0 = some (.inr (8, f2))) ∧ w_M_remove (fun v h1 => v = none ∧ ∃ (f3 : List Value) (a4 : Nat), h1.2 l0 = some (.inr (8, f3)) ∧ f3[35]? = some (.ref a4) ∧ ∃ (ar18 : List Int32) (x5 : Int32), h1.2 a4 = some (.inl (0, .inl ar18)) ∧ 0 ≤ (2 : Int32) ∧ ar18[(2 : Int32).toNatClampNeg]? = some x5 ∧ (∃ f7, h1.2 l0 = some (.inr (8, f7))) ∧ w_M_isUp (fun v h6 => ∃ (x8 : Int32), v = some (.int x8) ∧ ((¬ x8 = 0 → (∃ f10, h6.2 l0 = some (.inr (8, f10))) ∧ w_M_merges (fun v h9 => v = none ∧ (∃ f12, h9.2 l0 = some (.inr (8, f12))) ∧ w_M_isUp (fun v h11 => ∃ (x13 : Int32), v = some (.int x13) ∧ ((x13 = 0 → Q (some (.int 1)) h11) ∧ (¬ x13 = 0 → (∃ f15, h11.2 l0 = some (.inr (8, f15))) ∧ w_M_handles (fun v h14 => v = none ∧ Q (some (.int 1)) h14) l0 x5 h11))) l0 x5 h9) l0 x5 h6) ∧ (x8 = 0 → Q (some (.int 0)) h6))) l0 x5 h1) l0 l1 h) ∧ (¬ 53 ≤ l2 → ∃ (f19 : List Value) (a20 : Nat), h.2 l0 = some (.inr (8, f19)) ∧ f19[35]? = some (.ref a20) ∧ ∃ (f21 : List Value) (a22 : Nat), h.2 l0 = some (.inr (8, f21)) ∧ f21[32]? = some (.ref a22) ∧ ∃ (ar26 : List Int32) (x23 : Int32), h.2 a22 = some (.inl (0, .inl ar26)) ∧ 0 ≤ ((53 * l1) + l2 : Int32) ∧ ar26[((53 * l1) + l2 : Int32).toNatClampNeg]? = some x23 ∧ ∃ ar24, h.2 a20 = some (.inl (0, .inl ar24)) ∧ 0 ≤ l2 ∧ l2.toNatClampNeg < ar24.length ∧ ∀ h25, h25 = xu h a20 (.inl (0, .inl (ar24.set l2.toNatClampNeg x23))) → w_M_deliver_23 Q n (l0) (l1) (l2 + 1) h25))
set_option maxRecDepth 100000 in
set_option maxHeartbeats 4000000 in
theorem p_M_deliver_23 {sc : List Int32} {Q : Option Value → xH → Prop} : ∀ (n : Nat) (l0 : Nat) (l1 : Int32) (l2 : Int32) (h : xH), w_M_deliver_23 Q n l0 l1 l2 h → xW sc m_M_deliver 12 0 0 23 [some (.ref (l0)), some (.int (l1)), some (.int (l2))] [] h Q := by
  intro n
  induction n with
  | zero => intro l0 l1 l2 h hw; exact False.elim hw
  | succ n ih =>
    intro l0 l1 l2 h hw
    rw [w_M_deliver_23] at hw
    refine xw_iload_n d_M_deliver_23 rfl rfl ?_
    refine xw_bipush (v := 53) d_M_deliver_24 (by decide) ?_
    refine xw_icmp_ge (tgt := 52) d_M_deliver_26 (by decide) (fun c27 => ?_) (fun c27 => ?_)
    · have hw := hw.1 c27
      refine xw_aload_n d_M_deliver_52 rfl rfl ?_
      refine xw_iload_n d_M_deliver_53 rfl rfl ?_
      obtain ⟨⟨f2, hA⟩, hw⟩ := hw
      refine xc_V1n lk_M_261 in_M_remove d_M_deliver_54 (x_M_remove hw) rfl hA rfl ?_
      intro h1 hw
      refine xw_aload_n d_M_deliver_57 rfl rfl ?_
      obtain ⟨f3, a4, hA, hB, hw⟩ := hw
      refine xw_getr fr_M_100 d_M_deliver_58 hA hB ?_
      refine xw_iconst (v := 2) d_M_deliver_61 (by decide) ?_
      obtain ⟨ar18, x5, hA, hB, hC, hw⟩ := hw
      refine xw_iaload (t := 0) rfl d_M_deliver_62 hA hB hC ?_
      refine xs_istore_n (lv' := [some (.ref (l0)), some (.int (l1)), some (.int (x5))]) d_M_deliver_63 rfl rfl rfl ?_
      refine xw_aload_n d_M_deliver_64 rfl rfl ?_
      refine xw_iload_n d_M_deliver_65 rfl rfl ?_
      obtain ⟨⟨f7, hA⟩, hw⟩ := hw
      refine xc_V1i lk_M_111 in_M_isUp d_M_deliver_66 (x_M_isUp hw) rfl hA rfl ?_
      intro x8 h6 hw
      refine xw_if_ne (tgt := 74) d_M_deliver_69 (by decide) (fun c17 => ?_) (fun c17 => ?_)
      · have hw := hw.1 c17
        refine xw_aload_n d_M_deliver_74 rfl rfl ?_
        refine xw_iload_n d_M_deliver_75 rfl rfl ?_
        obtain ⟨⟨f10, hA⟩, hw⟩ := hw
        refine xc_V1n lk_M_264 in_M_merges d_M_deliver_76 (x_M_merges hw) rfl hA rfl ?_
        intro h9 hw
        refine xw_aload_n d_M_deliver_79 rfl rfl ?_
        refine xw_iload_n d_M_deliver_80 rfl rfl ?_
        obtain ⟨⟨f12, hA⟩, hw⟩ := hw
        refine xc_V1i lk_M_111 in_M_isUp d_M_deliver_81 (x_M_isUp hw) rfl hA rfl ?_
        intro x13 h11 hw
        refine xw_if_eq (tgt := 92) d_M_deliver_84 (by decide) (fun c16 => ?_) (fun c16 => ?_)
        · have hw := hw.1 c16
          refine xw_iconst (v := 1) d_M_deliver_92 (by decide) ?_
          exact xw_ireturn rfl d_M_deliver_93 hw
        · have hw := hw.2 c16
          refine xw_aload_n d_M_deliver_87 rfl rfl ?_
          refine xw_iload_n d_M_deliver_88 rfl rfl ?_
          obtain ⟨⟨f15, hA⟩, hw⟩ := hw
          refine xc_V1n lk_M_267 in_M_handles d_M_deliver_89 (x_M_handles hw) rfl hA rfl ?_
          intro h14 hw
          refine xw_iconst (v := 1) d_M_deliver_92 (by decide) ?_
          exact xw_ireturn rfl d_M_deliver_93 hw
      · have hw := hw.2 c17
        refine xw_iconst (v := 0) d_M_deliver_72 (by decide) ?_
        exact xw_ireturn rfl d_M_deliver_73 hw
    · have hw := hw.2 c27
      refine xw_aload_n d_M_deliver_29 rfl rfl ?_
      obtain ⟨f19, a20, hA, hB, hw⟩ := hw
      refine xw_getr fr_M_100 d_M_deliver_30 hA hB ?_
      refine xw_iload_n d_M_deliver_33 rfl rfl ?_
      refine xw_aload_n d_M_deliver_34 rfl rfl ?_
      obtain ⟨f21, a22, hA, hB, hw⟩ := hw
      refine xw_getr fr_M_97 d_M_deliver_35 hA hB ?_
      refine xw_bipush (v := 53) d_M_deliver_38 (by decide) ?_
      refine xw_iload_n d_M_deliver_40 rfl rfl ?_
      refine xw_imul d_M_deliver_41 ?_
      refine xw_iload_n d_M_deliver_42 rfl rfl ?_
      refine xw_iadd d_M_deliver_43 ?_
      obtain ⟨ar26, x23, hA, hB, hC, hw⟩ := hw
      refine xw_iaload (t := 0) rfl d_M_deliver_44 hA hB hC ?_
      obtain ⟨ar24, hA, hB, hC, hw⟩ := hw
      refine xw_iastore (t := 0) rfl d_M_deliver_45 hA hB hC ?_
      generalize hh : xu h a20 (.inl (0, .inl (ar24.set l2.toNatClampNeg x23))) = h25
      have hw := hw h25 hh.symm
      refine xs_iinc (v := l2 + 1) (lv' := [some (.ref (l0)), some (.int (l1)), some (.int (l2 + 1))]) d_M_deliver_46 rfl rfl rfl ?_
      refine xw_goto (tgt := 23) d_M_deliver_49 (by decide) ?_
      exact ih (l0) (l1) (l2 + 1) h25 hw
set_option maxRecDepth 100000 in
def w_M_deliver (Q : Option Value → xH → Prop) (this : Nat) (p1 : Int32) (h : xH) : Prop := ∃ f1, h.2 this = some (.inr (8, f1)) ∧ 0 < f1.length ∧ ∀ h2, h2 = xu h this (.inr (8, f1.set 0 (.int (0)))) → ∃ (f3 : List Value) (x4 : Int32), h2.2 this = some (.inr (8, f3)) ∧ f3[31]? = some (.int x4) ∧ w_M_in (fun v h5 => ∃ (x6 : Int32), v = some (.int x6) ∧ ((¬ x6 = 0 → ∃ n7, w_M_deliver_23 Q n7 (this) (p1) (0) h5) ∧ (x6 = 0 → Q (some (.int (-1))) h5))) p1 0 (x4 - 1) h2
set_option maxRecDepth 100000 in
set_option maxHeartbeats 4000000 in
theorem x_M_deliver {sc : List Int32} {Q : Option Value → xH → Prop} {this : Nat} {p1 : Int32} {h : xH} (hw : w_M_deliver Q this p1 h) : xMet sc m_M_deliver 12 0 0 [.ref (this), .int (p1)] h Q := by
  unfold w_M_deliver at hw
  refine xMet.of2 cw_M_deliver rfl rfl ?_
  show xW sc m_M_deliver 12 0 0 0 [some (.ref (this)), some (.int (p1)), none] [] h Q
  refine xw_aload_n d_M_deliver_0 rfl rfl ?_
  refine xw_iconst (v := 0) d_M_deliver_1 (by decide) ?_
  obtain ⟨f1, hA, hB, hw⟩ := hw
  refine xw_puti fs_M_103 d_M_deliver_2 hA hB ?_
  generalize hh : xu h this (.inr (8, f1.set 0 (.int (0)))) = h2
  have hw := hw h2 hh.symm
  refine xw_iload_n d_M_deliver_5 rfl rfl ?_
  refine xw_iconst (v := 0) d_M_deliver_6 (by decide) ?_
  refine xw_aload_n d_M_deliver_7 rfl rfl ?_
  obtain ⟨f3, x4, hA, hB, hw⟩ := hw
  refine xw_getr fr_M_129 d_M_deliver_8 hA hB ?_
  refine xw_iconst (v := 1) d_M_deliver_11 (by decide) ?_
  refine xw_isub d_M_deliver_12 ?_
  refine xc_S3i lk_M_107 st_M_in d_M_deliver_13 (x_M_in hw) rfl rfl ?_
  intro x6 h5 hw
  refine xw_if_ne (tgt := 21) d_M_deliver_16 (by decide) (fun c8 => ?_) (fun c8 => ?_)
  · have hw := hw.1 c8
    refine xw_iconst (v := 0) d_M_deliver_21 (by decide) ?_
    refine xs_istore_n (lv' := [some (.ref (this)), some (.int (p1)), some (.int (0))]) d_M_deliver_22 rfl rfl rfl ?_
    obtain ⟨n7, hw⟩ := hw
    exact p_M_deliver_23  n7 (this) (p1) (0) h5 hw
  · have hw := hw.2 c8
    refine xw_iconst (v := -1) d_M_deliver_19 (by decide) ?_
    exact xw_ireturn rfl d_M_deliver_20 hw
