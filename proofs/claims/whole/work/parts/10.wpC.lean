set_option maxRecDepth 100000 in
def w_No_fall (Q : Option Value → xH → Prop) (this : Nat) (h : xH) : Prop := ∃ f1, h.2 this = some (.inr (4, f1)) ∧ 1 < f1.length ∧ ∀ h2, h2 = xu h this (.inr (4, f1.set 1 (.int (2)))) → ∃ f3, h2.2 this = some (.inr (4, f3)) ∧ 5 < f3.length ∧ ∀ h4, h4 = xu h2 this (.inr (4, f3.set 5 (.int (0)))) → ∃ f5, h4.2 this = some (.inr (4, f5)) ∧ 4 < f5.length ∧ ∀ h6, h6 = xu h4 this (.inr (4, f5.set 4 (.int (0)))) → ∃ (f7 : List Value) (a8 : Nat), h6.2 this = some (.inr (4, f7)) ∧ f7[10]? = some (.ref a8) ∧ ∃ f9, h6.2 a8 = some (.inr (6, f9)) ∧ 0 < f9.length ∧ ∀ h10, h10 = xu h6 a8 (.inr (6, f9.set 0 (.int (0)))) → ∃ (f11 : List Value) (a12 : Nat), h10.2 this = some (.inr (4, f11)) ∧ f11[10]? = some (.ref a12) ∧ ∃ f13, h10.2 a12 = some (.inr (6, f13)) ∧ 2 < f13.length ∧ ∀ h14, h14 = xu h10 a12 (.inr (6, f13.set 2 (.int (0)))) → Q none h14
set_option maxRecDepth 100000 in
set_option maxHeartbeats 4000000 in
theorem x_No_fall {sc : List Int32} {Q : Option Value → xH → Prop} {this : Nat} {h : xH} (hw : w_No_fall Q this h) : xMet sc m_No_fall 0 0 0 [.ref (this)] h Q := by
  unfold w_No_fall at hw
  refine xMet.of2 cw_No_fall rfl rfl ?_
  show xW sc m_No_fall 0 0 0 0 [some (.ref (this))] [] h Q
  refine xw_aload_n d_No_fall_0 rfl rfl ?_
  refine xw_iconst (v := 2) d_No_fall_1 (by decide) ?_
  obtain ⟨f1, hA, hB, hw⟩ := hw
  refine xw_puti fs_No_9 d_No_fall_2 hA hB ?_
  generalize hh : xu h this (.inr (4, f1.set 1 (.int (2)))) = h2
  have hw := hw h2 hh.symm
  refine xw_aload_n d_No_fall_5 rfl rfl ?_
  refine xw_iconst (v := 0) d_No_fall_6 (by decide) ?_
  obtain ⟨f3, hA, hB, hw⟩ := hw
  refine xw_puti fs_No_24 d_No_fall_7 hA hB ?_
  generalize hh : xu h2 this (.inr (4, f3.set 5 (.int (0)))) = h4
  have hw := hw h4 hh.symm
  refine xw_aload_n d_No_fall_10 rfl rfl ?_
  refine xw_iconst (v := 0) d_No_fall_11 (by decide) ?_
  obtain ⟨f5, hA, hB, hw⟩ := hw
  refine xw_puti fs_No_21 d_No_fall_12 hA hB ?_
  generalize hh : xu h4 this (.inr (4, f5.set 4 (.int (0)))) = h6
  have hw := hw h6 hh.symm
  refine xw_aload_n d_No_fall_15 rfl rfl ?_
  obtain ⟨f7, a8, hA, hB, hw⟩ := hw
  refine xw_getr fr_No_54 d_No_fall_16 hA hB ?_
  refine xw_iconst (v := 0) d_No_fall_19 (by decide) ?_
  obtain ⟨f9, hA, hB, hw⟩ := hw
  refine xw_puti fs_No_64 d_No_fall_20 hA hB ?_
  generalize hh : xu h6 a8 (.inr (6, f9.set 0 (.int (0)))) = h10
  have hw := hw h10 hh.symm
  refine xw_aload_n d_No_fall_23 rfl rfl ?_
  obtain ⟨f11, a12, hA, hB, hw⟩ := hw
  refine xw_getr fr_No_54 d_No_fall_24 hA hB ?_
  refine xw_iconst (v := 0) d_No_fall_27 (by decide) ?_
  obtain ⟨f13, hA, hB, hw⟩ := hw
  refine xw_puti fs_No_61 d_No_fall_28 hA hB ?_
  generalize hh : xu h10 a12 (.inr (6, f13.set 2 (.int (0)))) = h14
  have hw := hw h14 hh.symm
  exact xw_return rfl d_No_fall_31 hw
set_option maxRecDepth 100000 in
def w_No_isUp (Q : Option Value → xH → Prop) (this : Nat) (h : xH) : Prop := ∃ (f1 : List Value) (x2 : Int32), h.2 this = some (.inr (4, f1)) ∧ f1[1]? = some (.int x2) ∧ ((¬ x2 = 1 → (narrow .boolean (.int 0) = .int 0 ∧ Q (some (.int 0)) h)) ∧ (x2 = 1 → (narrow .boolean (.int 1) = .int 1 ∧ Q (some (.int 1)) h)))
set_option maxRecDepth 100000 in
set_option maxHeartbeats 4000000 in
theorem x_No_isUp {sc : List Int32} {Q : Option Value → xH → Prop} {this : Nat} {h : xH} (hw : w_No_isUp Q this h) : xMet sc m_No_isUp 0 0 0 [.ref (this)] h Q := by
  unfold w_No_isUp at hw
  refine xMet.of2 cw_No_isUp rfl rfl ?_
  show xW sc m_No_isUp 0 0 0 0 [some (.ref (this))] [] h Q
  refine xw_aload_n d_No_isUp_0 rfl rfl ?_
  obtain ⟨f1, x2, hA, hB, hw⟩ := hw
  refine xw_getr fr_No_9 d_No_isUp_1 hA hB ?_
  refine xw_iconst (v := 1) d_No_isUp_4 (by decide) ?_
  refine xw_icmp_ne (tgt := 12) d_No_isUp_5 (by decide) (fun c3 => ?_) (fun c3 => ?_)
  · have hw := hw.1 c3
    refine xw_iconst (v := 0) d_No_isUp_12 (by decide) ?_
    exact xw_zreturn rfl hw.1 d_No_isUp_13 hw.2
  · have hw := hw.2 c3
    refine xw_iconst (v := 1) d_No_isUp_8 (by decide) ?_
    refine xw_goto (tgt := 13) d_No_isUp_9 (by decide) ?_
    exact xw_zreturn rfl hw.1 d_No_isUp_13 hw.2
set_option maxRecDepth 100000 in
def w_Q_find (Q : Option Value → xH → Prop) (this : Nat) (p1 : Int32) (h : xH) : Prop := ((p1 < 0 → Q (some (.null)) h) ∧ (¬ p1 < 0 → ((8 ≤ p1 → Q (some (.null)) h) ∧ (¬ 8 ≤ p1 → ∃ (f1 : List Value) (a2 : Nat), h.2 this = some (.inr (0, f1)) ∧ f1[0]? = some (.ref a2) ∧ ∃ t5 y6 ar3 a4, xTys[t5]? = some y6 ∧ y6.isReference = true ∧ h.2 a2 = some (.inl (t5, .inr ar3)) ∧ 0 ≤ p1 ∧ ar3[p1.toNatClampNeg]? = some (some a4) ∧ Q (some (.ref (a4))) h))))
set_option maxRecDepth 100000 in
set_option maxHeartbeats 4000000 in
theorem x_Q_find {sc : List Int32} {Q : Option Value → xH → Prop} {this : Nat} {p1 : Int32} {h : xH} (hw : w_Q_find Q this p1 h) : xMet sc m_Q_find 0 0 0 [.ref (this), .int (p1)] h Q := by
  unfold w_Q_find at hw
  refine xMet.of2 cw_Q_find rfl rfl ?_
  show xW sc m_Q_find 0 0 0 0 [some (.ref (this)), some (.int (p1))] [] h Q
  refine xw_iload_n d_Q_find_0 rfl rfl ?_
  refine xw_if_lt (tgt := 19) d_Q_find_1 (by decide) (fun c8 => ?_) (fun c8 => ?_)
  · have hw := hw.1 c8
    refine xw_null d_Q_find_19 ?_
    exact xw_areturn rfl (Or.inl ⟨_, rfl⟩) (Or.inl rfl) d_Q_find_20 hw
  · have hw := hw.2 c8
    refine xw_iload_n d_Q_find_4 rfl rfl ?_
    refine xw_bipush (v := 8) d_Q_find_5 (by decide) ?_
    refine xw_icmp_ge (tgt := 19) d_Q_find_7 (by decide) (fun c7 => ?_) (fun c7 => ?_)
    · have hw := hw.1 c7
      refine xw_null d_Q_find_19 ?_
      exact xw_areturn rfl (Or.inl ⟨_, rfl⟩) (Or.inl rfl) d_Q_find_20 hw
    · have hw := hw.2 c7
      refine xw_aload_n d_Q_find_10 rfl rfl ?_
      obtain ⟨f1, a2, hA, hB, hw⟩ := hw
      refine xw_getr fr_Q_11 d_Q_find_11 hA hB ?_
      refine xw_iload_n d_Q_find_14 rfl rfl ?_
      obtain ⟨t5, y6, ar3, a4, hT, hY, hA, hB, hC, hw⟩ := hw
      refine xw_aaload hT hY d_Q_find_15 hA hB hC ?_
      show xW sc m_Q_find 0 0 0 16 [some (.ref (this)), some (.int (p1))] [.ref (a4)] h Q
      refine xw_goto (tgt := 20) d_Q_find_16 (by decide) ?_
      exact xw_areturn rfl (Or.inl ⟨_, rfl⟩) (Or.inr ⟨_, rfl⟩) d_Q_find_20 hw
set_option maxRecDepth 100000 in
def w_Q_crash (Q : Option Value → xH → Prop) (this : Nat) (p1 : Int32) (h : xH) : Prop := (∃ f2, h.2 this = some (.inr (0, f2))) ∧ w_Q_find (fun v h1 => (v = some .null ∧ (narrow .boolean (.int 0) = .int 0 ∧ Q (some (.int 0)) h1)) ∨ ∃ b3, v = some (.ref b3) ∧ (∃ f5, h1.2 b3 = some (.inr (4, f5))) ∧ w_No_isUp (fun v h4 => ∃ (x6 : Int32), v = some (.int x6) ∧ ((¬ x6 = 0 → (∃ f8, h4.2 b3 = some (.inr (4, f8))) ∧ w_No_fall (fun v h7 => v = none ∧ (narrow .boolean (.int 1) = .int 1 ∧ Q (some (.int 1)) h7)) b3 h4) ∧ (x6 = 0 → (narrow .boolean (.int 0) = .int 0 ∧ Q (some (.int 0)) h4)))) b3 h1) this p1 h
set_option maxRecDepth 100000 in
set_option maxHeartbeats 4000000 in
theorem x_Q_crash {sc : List Int32} {Q : Option Value → xH → Prop} {this : Nat} {p1 : Int32} {h : xH} (hw : w_Q_crash Q this p1 h) : xMet sc m_Q_crash 1 0 0 [.ref (this), .int (p1)] h Q := by
  unfold w_Q_crash at hw
  refine xMet.of2 cw_Q_crash rfl rfl ?_
  show xW sc m_Q_crash 1 0 0 0 [some (.ref (this)), some (.int (p1)), none] [] h Q
  refine xw_aload_n d_Q_crash_0 rfl rfl ?_
  refine xw_iload_n d_Q_crash_1 rfl rfl ?_
  obtain ⟨⟨f2, hA⟩, hw⟩ := hw
  refine xc_V1r lk_Q_93 in_Q_find d_Q_crash_2 (x_Q_find hw) rfl hA rfl ?_ ?_
  · intro h1 hw
    refine xs_astore_nN (lv' := [some (.ref (this)), some (.int (p1)), some (.null)]) d_Q_crash_5 rfl rfl rfl ?_
    refine xw_aload_nN d_Q_crash_6 rfl rfl ?_
    refine xw_ifnullN (tgt := 17) d_Q_crash_7 (by decide) ?_
    refine xw_iconst (v := 0) d_Q_crash_17 (by decide) ?_
    exact xw_zreturn rfl hw.1 d_Q_crash_18 hw.2
  · intro b3 h1 hw
    refine xs_astore_n (lv' := [some (.ref (this)), some (.int (p1)), some (.ref (b3))]) d_Q_crash_5 rfl rfl rfl ?_
    refine xw_aload_n d_Q_crash_6 rfl rfl ?_
    refine xw_ifnull d_Q_crash_7 ?_
    refine xw_aload_n d_Q_crash_10 rfl rfl ?_
    obtain ⟨⟨f5, hA⟩, hw⟩ := hw
    refine xc_V0i lk_Q_129 in_No_isUp d_Q_crash_11 (x_No_isUp hw) rfl hA rfl ?_
    intro x6 h4 hw
    refine xw_if_ne (tgt := 19) d_Q_crash_14 (by decide) (fun c9 => ?_) (fun c9 => ?_)
    · have hw := hw.1 c9
      refine xw_aload_n d_Q_crash_19 rfl rfl ?_
      obtain ⟨⟨f8, hA⟩, hw⟩ := hw
      refine xc_V0n lk_Q_195 in_No_fall d_Q_crash_20 (x_No_fall hw) rfl hA rfl ?_
      intro h7 hw
      refine xw_iconst (v := 1) d_Q_crash_23 (by decide) ?_
      exact xw_zreturn rfl hw.1 d_Q_crash_24 hw.2
    · have hw := hw.2 c9
      refine xw_iconst (v := 0) d_Q_crash_17 (by decide) ?_
      exact xw_zreturn rfl hw.1 d_Q_crash_18 hw.2
set_option maxRecDepth 100000 in
def w_Q_arm (Q : Option Value → xH → Prop) (this : Nat) (p1 : Int32) (p2 : Int32) (h : xH) : Prop := (∃ f2, h.2 this = some (.inr (0, f2))) ∧ w_Q_find (fun v h1 => (v = some .null ∧ (narrow .boolean (.int 0) = .int 0 ∧ Q (some (.int 0)) h1)) ∨ ∃ b3, v = some (.ref b3) ∧ (∃ f5, h1.2 b3 = some (.inr (4, f5))) ∧ w_No_isUp (fun v h4 => ∃ (x6 : Int32), v = some (.int x6) ∧ ((x6 = 0 → (narrow .boolean (.int 0) = .int 0 ∧ Q (some (.int 0)) h4)) ∧ (¬ x6 = 0 → ((p2 < 0 → (narrow .boolean (.int 0) = .int 0 ∧ Q (some (.int 0)) h4)) ∧ (¬ p2 < 0 → ((p2 ≤ 100 → ∃ f7, h4.2 b3 = some (.inr (4, f7)) ∧ 5 < f7.length ∧ ∀ h8, h8 = xu h4 b3 (.inr (4, f7.set 5 (.int (p2)))) → (narrow .boolean (.int 1) = .int 1 ∧ Q (some (.int 1)) h8)) ∧ (¬ p2 ≤ 100 → (narrow .boolean (.int 0) = .int 0 ∧ Q (some (.int 0)) h4)))))))) b3 h1) this p1 h
set_option maxRecDepth 100000 in
set_option maxHeartbeats 4000000 in
theorem x_Q_arm {sc : List Int32} {Q : Option Value → xH → Prop} {this : Nat} {p1 : Int32} {p2 : Int32} {h : xH} (hw : w_Q_arm Q this p1 p2 h) : xMet sc m_Q_arm 1 0 0 [.ref (this), .int (p1), .int (p2)] h Q := by
  unfold w_Q_arm at hw
  refine xMet.of2 cw_Q_arm rfl rfl ?_
  show xW sc m_Q_arm 1 0 0 0 [some (.ref (this)), some (.int (p1)), some (.int (p2)), none] [] h Q
  refine xw_aload_n d_Q_arm_0 rfl rfl ?_
  refine xw_iload_n d_Q_arm_1 rfl rfl ?_
  obtain ⟨⟨f2, hA⟩, hw⟩ := hw
  refine xc_V1r lk_Q_93 in_Q_find d_Q_arm_2 (x_Q_find hw) rfl hA rfl ?_ ?_
  · intro h1 hw
    refine xs_astore_nN (lv' := [some (.ref (this)), some (.int (p1)), some (.int (p2)), some (.null)]) d_Q_arm_5 rfl rfl rfl ?_
    refine xw_aload_nN d_Q_arm_6 rfl rfl ?_
    refine xw_ifnullN (tgt := 27) d_Q_arm_7 (by decide) ?_
    refine xw_iconst (v := 0) d_Q_arm_27 (by decide) ?_
    exact xw_zreturn rfl hw.1 d_Q_arm_28 hw.2
  · intro b3 h1 hw
    refine xs_astore_n (lv' := [some (.ref (this)), some (.int (p1)), some (.int (p2)), some (.ref (b3))]) d_Q_arm_5 rfl rfl rfl ?_
    refine xw_aload_n d_Q_arm_6 rfl rfl ?_
    refine xw_ifnull d_Q_arm_7 ?_
    refine xw_aload_n d_Q_arm_10 rfl rfl ?_
    obtain ⟨⟨f5, hA⟩, hw⟩ := hw
    refine xc_V0i lk_Q_129 in_No_isUp d_Q_arm_11 (x_No_isUp hw) rfl hA rfl ?_
    intro x6 h4 hw
    refine xw_if_eq (tgt := 27) d_Q_arm_14 (by decide) (fun c11 => ?_) (fun c11 => ?_)
    · have hw := hw.1 c11
      refine xw_iconst (v := 0) d_Q_arm_27 (by decide) ?_
      exact xw_zreturn rfl hw.1 d_Q_arm_28 hw.2
    · have hw := hw.2 c11
      refine xw_iload_n d_Q_arm_17 rfl rfl ?_
      refine xw_if_lt (tgt := 27) d_Q_arm_18 (by decide) (fun c10 => ?_) (fun c10 => ?_)
      · have hw := hw.1 c10
        refine xw_iconst (v := 0) d_Q_arm_27 (by decide) ?_
        exact xw_zreturn rfl hw.1 d_Q_arm_28 hw.2
      · have hw := hw.2 c10
        refine xw_iload_n d_Q_arm_21 rfl rfl ?_
        refine xw_bipush (v := 100) d_Q_arm_22 (by decide) ?_
        refine xw_icmp_le (tgt := 29) d_Q_arm_24 (by decide) (fun c9 => ?_) (fun c9 => ?_)
        · have hw := hw.1 c9
          refine xw_aload_n d_Q_arm_29 rfl rfl ?_
          refine xw_iload_n d_Q_arm_30 rfl rfl ?_
          obtain ⟨f7, hA, hB, hw⟩ := hw
          refine xw_puti fs_Q_204 d_Q_arm_31 hA hB ?_
          generalize hh : xu h4 b3 (.inr (4, f7.set 5 (.int (p2)))) = h8
          have hw := hw h8 hh.symm
          refine xw_iconst (v := 1) d_Q_arm_34 (by decide) ?_
          exact xw_zreturn rfl hw.1 d_Q_arm_35 hw.2
        · have hw := hw.2 c9
          refine xw_iconst (v := 0) d_Q_arm_27 (by decide) ?_
          exact xw_zreturn rfl hw.1 d_Q_arm_28 hw.2
set_option maxRecDepth 100000 in
def w_Q_writesOfAll_4 (Q : Option Value → xH → Prop) : Nat → Nat → Int32 → Int32 → xH → Prop
  | 0, _, _, _, _ => False
  | n + 1, l0, l1, l2, h => ((8 ≤ l2 → Q (some (.int l1)) h) ∧ (¬ 8 ≤ l2 → ∃ (f1 : List Value) (a2 : Nat), h.2 l0 = some (.inr (0, f1)) ∧ f1[0]? = some (.ref a2) ∧ ∃ t5 y6 ar3 a4, xTys[t5]? = some y6 ∧ y6.isReference = true ∧ h.2 a2 = some (.inl (t5, .inr ar3)) ∧ 0 ≤ l2 ∧ ar3[l2.toNatClampNeg]? = some (some a4) ∧ ∃ (f7 : List Value) (x8 : Int32), h.2 a4 = some (.inr (4, f7)) ∧ f7[6]? = some (.int x8) ∧ w_Q_writesOfAll_4 Q n (l0) (l1 + x8) (l2 + 1) h))
set_option maxRecDepth 100000 in
set_option maxHeartbeats 4000000 in
theorem p_Q_writesOfAll_4 {sc : List Int32} {Q : Option Value → xH → Prop} : ∀ (n : Nat) (l0 : Nat) (l1 : Int32) (l2 : Int32) (h : xH), w_Q_writesOfAll_4 Q n l0 l1 l2 h → xW sc m_Q_writesOfAll 0 0 0 4 [some (.ref (l0)), some (.int (l1)), some (.int (l2))] [] h Q := by
  intro n
  induction n with
  | zero => intro l0 l1 l2 h hw; exact False.elim hw
  | succ n ih =>
    intro l0 l1 l2 h hw
    rw [w_Q_writesOfAll_4] at hw
    refine xw_iload_n d_Q_writesOfAll_4 rfl rfl ?_
    refine xw_bipush (v := 8) d_Q_writesOfAll_5 (by decide) ?_
    refine xw_icmp_ge (tgt := 28) d_Q_writesOfAll_7 (by decide) (fun c9 => ?_) (fun c9 => ?_)
    · have hw := hw.1 c9
      refine xw_iload_n d_Q_writesOfAll_28 rfl rfl ?_
      exact xw_ireturn rfl d_Q_writesOfAll_29 hw
    · have hw := hw.2 c9
      refine xw_iload_n d_Q_writesOfAll_10 rfl rfl ?_
      refine xw_aload_n d_Q_writesOfAll_11 rfl rfl ?_
      obtain ⟨f1, a2, hA, hB, hw⟩ := hw
      refine xw_getr fr_Q_11 d_Q_writesOfAll_12 hA hB ?_
      refine xw_iload_n d_Q_writesOfAll_15 rfl rfl ?_
      obtain ⟨t5, y6, ar3, a4, hT, hY, hA, hB, hC, hw⟩ := hw
      refine xw_aaload hT hY d_Q_writesOfAll_16 hA hB hC ?_
      show xW sc m_Q_writesOfAll 0 0 0 17 [some (.ref (l0)), some (.int (l1)), some (.int (l2))] [.ref (a4), .int (l1)] h Q
      obtain ⟨f7, x8, hA, hB, hw⟩ := hw
      refine xw_getr fr_Q_292 d_Q_writesOfAll_17 hA hB ?_
      refine xw_iadd d_Q_writesOfAll_20 ?_
      refine xs_istore_n (lv' := [some (.ref (l0)), some (.int (l1 + x8)), some (.int (l2))]) d_Q_writesOfAll_21 rfl rfl rfl ?_
      refine xs_iinc (v := l2 + 1) (lv' := [some (.ref (l0)), some (.int (l1 + x8)), some (.int (l2 + 1))]) d_Q_writesOfAll_22 rfl rfl rfl ?_
      refine xw_goto (tgt := 4) d_Q_writesOfAll_25 (by decide) ?_
      exact ih (l0) (l1 + x8) (l2 + 1) h hw
set_option maxRecDepth 100000 in
def w_Q_writesOfAll (Q : Option Value → xH → Prop) (this : Nat) (h : xH) : Prop := ∃ n1, w_Q_writesOfAll_4 Q n1 (this) (0) (0) h
set_option maxRecDepth 100000 in
set_option maxHeartbeats 4000000 in
theorem x_Q_writesOfAll {sc : List Int32} {Q : Option Value → xH → Prop} {this : Nat} {h : xH} (hw : w_Q_writesOfAll Q this h) : xMet sc m_Q_writesOfAll 0 0 0 [.ref (this)] h Q := by
  unfold w_Q_writesOfAll at hw
  refine xMet.of2 cw_Q_writesOfAll rfl rfl ?_
  show xW sc m_Q_writesOfAll 0 0 0 0 [some (.ref (this)), none, none] [] h Q
  refine xw_iconst (v := 0) d_Q_writesOfAll_0 (by decide) ?_
  refine xs_istore_n (lv' := [some (.ref (this)), some (.int (0)), none]) d_Q_writesOfAll_1 rfl rfl rfl ?_
  refine xw_iconst (v := 0) d_Q_writesOfAll_2 (by decide) ?_
  refine xs_istore_n (lv' := [some (.ref (this)), some (.int (0)), some (.int (0))]) d_Q_writesOfAll_3 rfl rfl rfl ?_
  obtain ⟨n1, hw⟩ := hw
  exact p_Q_writesOfAll_4  n1 (this) (0) (0) h hw
set_option maxRecDepth 100000 in
def w_Q_nodesUp_28 (Q : Option Value → xH → Prop) (L4 : Nat → Int32 → Int32 → xH → Prop) (l0 : Nat) (l1 : Int32) (l2 : Int32) (s0 : Int32) (s1 : Int32) (h : xH) : Prop := L4 (l0) (s1 + s0) (l2 + 1) h
set_option maxRecDepth 100000 in
set_option maxHeartbeats 4000000 in
theorem p_Q_nodesUp_28 {sc : List Int32} {Q : Option Value → xH → Prop} {L4 : Nat → Int32 → Int32 → xH → Prop} (hL4 : ∀ l0 l1 l2 h, L4 l0 l1 l2 h → xW sc m_Q_nodesUp 1 0 0 4 [some (.ref (l0)), some (.int (l1)), some (.int (l2))] [] h Q) (l0 : Nat) (l1 : Int32) (l2 : Int32) (s0 : Int32) (s1 : Int32) (h : xH) (hw : w_Q_nodesUp_28 Q L4 l0 l1 l2 s0 s1 h) : xW sc m_Q_nodesUp 1 0 0 28 [some (.ref (l0)), some (.int (l1)), some (.int (l2))] [.int (s0), .int (s1)] h Q := by
  unfold w_Q_nodesUp_28 at hw
  refine xw_iadd d_Q_nodesUp_28 ?_
  refine xs_istore_n (lv' := [some (.ref (l0)), some (.int (s1 + s0)), some (.int (l2))]) d_Q_nodesUp_29 rfl rfl rfl ?_
  refine xs_iinc (v := l2 + 1) (lv' := [some (.ref (l0)), some (.int (s1 + s0)), some (.int (l2 + 1))]) d_Q_nodesUp_30 rfl rfl rfl ?_
  refine xw_goto (tgt := 4) d_Q_nodesUp_33 (by decide) ?_
  exact hL4 (l0) (s1 + s0) (l2 + 1) h hw
set_option maxRecDepth 100000 in
def w_Q_nodesUp_4 (Q : Option Value → xH → Prop) : Nat → Nat → Int32 → Int32 → xH → Prop
  | 0, _, _, _, _ => False
  | n + 1, l0, l1, l2, h => ((8 ≤ l2 → Q (some (.int l1)) h) ∧ (¬ 8 ≤ l2 → ∃ (f1 : List Value) (a2 : Nat), h.2 l0 = some (.inr (0, f1)) ∧ f1[0]? = some (.ref a2) ∧ ∃ t5 y6 ar3 a4, xTys[t5]? = some y6 ∧ y6.isReference = true ∧ h.2 a2 = some (.inl (t5, .inr ar3)) ∧ 0 ≤ l2 ∧ ar3[l2.toNatClampNeg]? = some (some a4) ∧ (∃ f8, h.2 a4 = some (.inr (4, f8))) ∧ w_No_isUp (fun v h7 => ∃ (x9 : Int32), v = some (.int x9) ∧ ((x9 = 0 → w_Q_nodesUp_28 Q (fun y0 y1 y2 yh => w_Q_nodesUp_4 Q n y0 y1 y2 yh) (l0) (l1) (l2) (0) (l1) h7) ∧ (¬ x9 = 0 → w_Q_nodesUp_28 Q (fun y0 y1 y2 yh => w_Q_nodesUp_4 Q n y0 y1 y2 yh) (l0) (l1) (l2) (1) (l1) h7))) a4 h))
set_option maxRecDepth 100000 in
set_option maxHeartbeats 4000000 in
theorem p_Q_nodesUp_4 {sc : List Int32} {Q : Option Value → xH → Prop} : ∀ (n : Nat) (l0 : Nat) (l1 : Int32) (l2 : Int32) (h : xH), w_Q_nodesUp_4 Q n l0 l1 l2 h → xW sc m_Q_nodesUp 1 0 0 4 [some (.ref (l0)), some (.int (l1)), some (.int (l2))] [] h Q := by
  intro n
  induction n with
  | zero => intro l0 l1 l2 h hw; exact False.elim hw
  | succ n ih =>
    intro l0 l1 l2 h hw
    rw [w_Q_nodesUp_4] at hw
    refine xw_iload_n d_Q_nodesUp_4 rfl rfl ?_
    refine xw_bipush (v := 8) d_Q_nodesUp_5 (by decide) ?_
    refine xw_icmp_ge (tgt := 36) d_Q_nodesUp_7 (by decide) (fun c11 => ?_) (fun c11 => ?_)
    · have hw := hw.1 c11
      refine xw_iload_n d_Q_nodesUp_36 rfl rfl ?_
      exact xw_ireturn rfl d_Q_nodesUp_37 hw
    · have hw := hw.2 c11
      refine xw_iload_n d_Q_nodesUp_10 rfl rfl ?_
      refine xw_aload_n d_Q_nodesUp_11 rfl rfl ?_
      obtain ⟨f1, a2, hA, hB, hw⟩ := hw
      refine xw_getr fr_Q_11 d_Q_nodesUp_12 hA hB ?_
      refine xw_iload_n d_Q_nodesUp_15 rfl rfl ?_
      obtain ⟨t5, y6, ar3, a4, hT, hY, hA, hB, hC, hw⟩ := hw
      refine xw_aaload hT hY d_Q_nodesUp_16 hA hB hC ?_
      show xW sc m_Q_nodesUp 1 0 0 17 [some (.ref (l0)), some (.int (l1)), some (.int (l2))] [.ref (a4), .int (l1)] h Q
      obtain ⟨⟨f8, hA⟩, hw⟩ := hw
      refine xc_V0i lk_Q_129 in_No_isUp d_Q_nodesUp_17 (x_No_isUp hw) rfl hA rfl ?_
      intro x9 h7 hw
      refine xw_if_eq (tgt := 27) d_Q_nodesUp_20 (by decide) (fun c10 => ?_) (fun c10 => ?_)
      · have hw := hw.1 c10
        refine xw_iconst (v := 0) d_Q_nodesUp_27 (by decide) ?_
        exact p_Q_nodesUp_28 ih (l0) (l1) (l2) (0) (l1) h7 hw
      · have hw := hw.2 c10
        refine xw_iconst (v := 1) d_Q_nodesUp_23 (by decide) ?_
        refine xw_goto (tgt := 28) d_Q_nodesUp_24 (by decide) ?_
        exact p_Q_nodesUp_28 ih (l0) (l1) (l2) (1) (l1) h7 hw
set_option maxRecDepth 100000 in
def w_Q_nodesUp (Q : Option Value → xH → Prop) (this : Nat) (h : xH) : Prop := ∃ n1, w_Q_nodesUp_4 Q n1 (this) (0) (0) h
set_option maxRecDepth 100000 in
set_option maxHeartbeats 4000000 in
theorem x_Q_nodesUp {sc : List Int32} {Q : Option Value → xH → Prop} {this : Nat} {h : xH} (hw : w_Q_nodesUp Q this h) : xMet sc m_Q_nodesUp 1 0 0 [.ref (this)] h Q := by
  unfold w_Q_nodesUp at hw
  refine xMet.of2 cw_Q_nodesUp rfl rfl ?_
  show xW sc m_Q_nodesUp 1 0 0 0 [some (.ref (this)), none, none] [] h Q
  refine xw_iconst (v := 0) d_Q_nodesUp_0 (by decide) ?_
  refine xs_istore_n (lv' := [some (.ref (this)), some (.int (0)), none]) d_Q_nodesUp_1 rfl rfl rfl ?_
  refine xw_iconst (v := 0) d_Q_nodesUp_2 (by decide) ?_
  refine xs_istore_n (lv' := [some (.ref (this)), some (.int (0)), some (.int (0))]) d_Q_nodesUp_3 rfl rfl rfl ?_
  obtain ⟨n1, hw⟩ := hw
  exact p_Q_nodesUp_4  n1 (this) (0) (0) h hw
set_option maxRecDepth 100000 in
def w_Q_isObject (Q : Option Value → xH → Prop) (p1 : Int32) (h : xH) : Prop := ((p1 < 0 → (narrow .boolean (.int 0) = .int 0 ∧ Q (some (.int 0)) h)) ∧ (¬ p1 < 0 → ((4 ≤ p1 → (narrow .boolean (.int 0) = .int 0 ∧ Q (some (.int 0)) h)) ∧ (¬ 4 ≤ p1 → (narrow .boolean (.int 1) = .int 1 ∧ Q (some (.int 1)) h)))))
set_option maxRecDepth 100000 in
set_option maxHeartbeats 4000000 in
theorem x_Q_isObject {sc : List Int32} {Q : Option Value → xH → Prop} {p1 : Int32} {h : xH} (hw : w_Q_isObject Q p1 h) : xMet sc m_Q_isObject 0 0 0 [.int (p1)] h Q := by
  unfold w_Q_isObject at hw
  refine xMet.of2 cw_Q_isObject rfl rfl ?_
  show xW sc m_Q_isObject 0 0 0 0 [some (.int (p1))] [] h Q
  refine xw_iload_n d_Q_isObject_0 rfl rfl ?_
  refine xw_if_lt (tgt := 13) d_Q_isObject_1 (by decide) (fun c2 => ?_) (fun c2 => ?_)
  · have hw := hw.1 c2
    refine xw_iconst (v := 0) d_Q_isObject_13 (by decide) ?_
    exact xw_zreturn rfl hw.1 d_Q_isObject_14 hw.2
  · have hw := hw.2 c2
    refine xw_iload_n d_Q_isObject_4 rfl rfl ?_
    refine xw_iconst (v := 4) d_Q_isObject_5 (by decide) ?_
    refine xw_icmp_ge (tgt := 13) d_Q_isObject_6 (by decide) (fun c1 => ?_) (fun c1 => ?_)
    · have hw := hw.1 c1
      refine xw_iconst (v := 0) d_Q_isObject_13 (by decide) ?_
      exact xw_zreturn rfl hw.1 d_Q_isObject_14 hw.2
    · have hw := hw.2 c1
      refine xw_iconst (v := 1) d_Q_isObject_9 (by decide) ?_
      refine xw_goto (tgt := 14) d_Q_isObject_10 (by decide) ?_
      exact xw_zreturn rfl hw.1 d_Q_isObject_14 hw.2
set_option maxRecDepth 100000 in
def w_Q_isIndex (Q : Option Value → xH → Prop) (p1 : Int32) (h : xH) : Prop := ((p1 < 0 → (narrow .boolean (.int 0) = .int 0 ∧ Q (some (.int 0)) h)) ∧ (¬ p1 < 0 → ((16 ≤ p1 → (narrow .boolean (.int 0) = .int 0 ∧ Q (some (.int 0)) h)) ∧ (¬ 16 ≤ p1 → (narrow .boolean (.int 1) = .int 1 ∧ Q (some (.int 1)) h)))))
set_option maxRecDepth 100000 in
set_option maxHeartbeats 4000000 in
theorem x_Q_isIndex {sc : List Int32} {Q : Option Value → xH → Prop} {p1 : Int32} {h : xH} (hw : w_Q_isIndex Q p1 h) : xMet sc m_Q_isIndex 0 0 0 [.int (p1)] h Q := by
  unfold w_Q_isIndex at hw
  refine xMet.of2 cw_Q_isIndex rfl rfl ?_
  show xW sc m_Q_isIndex 0 0 0 0 [some (.int (p1))] [] h Q
  refine xw_iload_n d_Q_isIndex_0 rfl rfl ?_
  refine xw_if_lt (tgt := 14) d_Q_isIndex_1 (by decide) (fun c2 => ?_) (fun c2 => ?_)
  · have hw := hw.1 c2
    refine xw_iconst (v := 0) d_Q_isIndex_14 (by decide) ?_
    exact xw_zreturn rfl hw.1 d_Q_isIndex_15 hw.2
  · have hw := hw.2 c2
    refine xw_iload_n d_Q_isIndex_4 rfl rfl ?_
    refine xw_bipush (v := 16) d_Q_isIndex_5 (by decide) ?_
    refine xw_icmp_ge (tgt := 14) d_Q_isIndex_7 (by decide) (fun c1 => ?_) (fun c1 => ?_)
    · have hw := hw.1 c1
      refine xw_iconst (v := 0) d_Q_isIndex_14 (by decide) ?_
      exact xw_zreturn rfl hw.1 d_Q_isIndex_15 hw.2
    · have hw := hw.2 c1
      refine xw_iconst (v := 1) d_Q_isIndex_10 (by decide) ?_
      refine xw_goto (tgt := 15) d_Q_isIndex_11 (by decide) ?_
      exact xw_zreturn rfl hw.1 d_Q_isIndex_15 hw.2
set_option maxRecDepth 100000 in
def w_Q_nearest (Q : Option Value → xH → Prop) (p1 : Int32) (p2 : Int32) (h : xH) : Prop := Q (some (.int (if 1 < (if p2 < p1 then p2 else p1) then (if p2 < p1 then p2 else p1) else 1))) h
set_option maxRecDepth 100000 in
set_option maxHeartbeats 4000000 in
theorem x_Q_nearest {sc : List Int32} {Q : Option Value → xH → Prop} {p1 : Int32} {p2 : Int32} {h : xH} (hw : w_Q_nearest Q p1 p2 h) : xMet sc m_Q_nearest 1 0 0 [.int (p1), .int (p2)] h Q := by
  unfold w_Q_nearest at hw
  refine xMet.of2 cw_Q_nearest rfl rfl ?_
  show xW sc m_Q_nearest 1 0 0 0 [some (.int (p1)), some (.int (p2))] [] h Q
  refine xw_iconst (v := 1) d_Q_nearest_0 (by decide) ?_
  refine xw_iload_n d_Q_nearest_1 rfl rfl ?_
  refine xw_iload_n d_Q_nearest_2 rfl rfl ?_
  refine xw_min mn_Q_295 d_Q_nearest_3 (Nat.le_of_ble_eq_true rfl) (Nat.le_of_ble_eq_true rfl) ?_
  refine xw_max mx_Q_40 d_Q_nearest_6 (Nat.le_of_ble_eq_true rfl) (Nat.le_of_ble_eq_true rfl) ?_
  exact xw_ireturn rfl d_Q_nearest_9 hw
set_option maxRecDepth 100000 in
def w_Q_isIn (Q : Option Value → xH → Prop) (p1 : Int32) (p2 : Int32) (h : xH) : Prop := ((((p1 >>> (p2 &&& 31)) &&& 1) = 0 → (narrow .boolean (.int 0) = .int 0 ∧ Q (some (.int 0)) h)) ∧ (¬ ((p1 >>> (p2 &&& 31)) &&& 1) = 0 → (narrow .boolean (.int 1) = .int 1 ∧ Q (some (.int 1)) h)))
set_option maxRecDepth 100000 in
set_option maxHeartbeats 4000000 in
theorem x_Q_isIn {sc : List Int32} {Q : Option Value → xH → Prop} {p1 : Int32} {p2 : Int32} {h : xH} (hw : w_Q_isIn Q p1 p2 h) : xMet sc m_Q_isIn 0 0 0 [.int (p1), .int (p2)] h Q := by
  unfold w_Q_isIn at hw
  refine xMet.of2 cw_Q_isIn rfl rfl ?_
  show xW sc m_Q_isIn 0 0 0 0 [some (.int (p1)), some (.int (p2))] [] h Q
  refine xw_iload_n d_Q_isIn_0 rfl rfl ?_
  refine xw_iload_n d_Q_isIn_1 rfl rfl ?_
  refine xw_ishr d_Q_isIn_2 ?_
  refine xw_iconst (v := 1) d_Q_isIn_3 (by decide) ?_
  refine xw_iand d_Q_isIn_4 ?_
  refine xw_if_eq (tgt := 12) d_Q_isIn_5 (by decide) (fun c1 => ?_) (fun c1 => ?_)
  · have hw := hw.1 c1
    refine xw_iconst (v := 0) d_Q_isIn_12 (by decide) ?_
    exact xw_zreturn rfl hw.1 d_Q_isIn_13 hw.2
  · have hw := hw.2 c1
    refine xw_iconst (v := 1) d_Q_isIn_8 (by decide) ?_
    refine xw_goto (tgt := 13) d_Q_isIn_9 (by decide) ?_
    exact xw_zreturn rfl hw.1 d_Q_isIn_13 hw.2
set_option maxRecDepth 100000 in
def w_Q_least_2 (Q : Option Value → xH → Prop) : Nat → Int32 → Int32 → xH → Prop
  | 0, _, _, _ => False
  | n + 1, l0, l1, h => ((16 ≤ l1 → Q (some (.int (-1))) h) ∧ (¬ 16 ≤ l1 → w_Q_isIn (fun v h1 => ∃ (x2 : Int32), v = some (.int x2) ∧ ((x2 = 0 → w_Q_least_2 Q n (l0) (l1 + 1) h1) ∧ (¬ x2 = 0 → Q (some (.int l1)) h1))) l0 l1 h))
set_option maxRecDepth 100000 in
set_option maxHeartbeats 4000000 in
theorem p_Q_least_2 {sc : List Int32} {Q : Option Value → xH → Prop} : ∀ (n : Nat) (l0 : Int32) (l1 : Int32) (h : xH), w_Q_least_2 Q n l0 l1 h → xW sc m_Q_least 1 0 0 2 [some (.int (l0)), some (.int (l1))] [] h Q := by
  intro n
  induction n with
  | zero => intro l0 l1 h hw; exact False.elim hw
  | succ n ih =>
    intro l0 l1 h hw
    rw [w_Q_least_2] at hw
    refine xw_iload_n d_Q_least_2 rfl rfl ?_
    refine xw_bipush (v := 16) d_Q_least_3 (by decide) ?_
    refine xw_icmp_ge (tgt := 24) d_Q_least_5 (by decide) (fun c4 => ?_) (fun c4 => ?_)
    · have hw := hw.1 c4
      refine xw_iconst (v := -1) d_Q_least_24 (by decide) ?_
      exact xw_ireturn rfl d_Q_least_25 hw
    · have hw := hw.2 c4
      refine xw_iload_n d_Q_least_8 rfl rfl ?_
      refine xw_iload_n d_Q_least_9 rfl rfl ?_
      refine xc_S2i lk_Q_298 st_Q_isIn d_Q_least_10 (x_Q_isIn hw) rfl rfl ?_
      intro x2 h1 hw
      refine xw_if_eq (tgt := 18) d_Q_least_13 (by decide) (fun c3 => ?_) (fun c3 => ?_)
      · have hw := hw.1 c3
        refine xs_iinc (v := l1 + 1) (lv' := [some (.int (l0)), some (.int (l1 + 1))]) d_Q_least_18 rfl rfl rfl ?_
        refine xw_goto (tgt := 2) d_Q_least_21 (by decide) ?_
        exact ih (l0) (l1 + 1) h1 hw
      · have hw := hw.2 c3
        refine xw_iload_n d_Q_least_16 rfl rfl ?_
        exact xw_ireturn rfl d_Q_least_17 hw
set_option maxRecDepth 100000 in
def w_Q_least (Q : Option Value → xH → Prop) (p1 : Int32) (h : xH) : Prop := ∃ n1, w_Q_least_2 Q n1 (p1) (0) h
set_option maxRecDepth 100000 in
set_option maxHeartbeats 4000000 in
theorem x_Q_least {sc : List Int32} {Q : Option Value → xH → Prop} {p1 : Int32} {h : xH} (hw : w_Q_least Q p1 h) : xMet sc m_Q_least 1 0 0 [.int (p1)] h Q := by
  unfold w_Q_least at hw
  refine xMet.of2 cw_Q_least rfl rfl ?_
  show xW sc m_Q_least 1 0 0 0 [some (.int (p1)), none] [] h Q
  refine xw_iconst (v := 0) d_Q_least_0 (by decide) ?_
  refine xs_istore_n (lv' := [some (.int (p1)), some (.int (0))]) d_Q_least_1 rfl rfl rfl ?_
  obtain ⟨n1, hw⟩ := hw
  exact p_Q_least_2  n1 (p1) (0) h hw
set_option maxRecDepth 100000 in
def w_Q_greatest_3 (Q : Option Value → xH → Prop) : Nat → Int32 → Int32 → xH → Prop
  | 0, _, _, _ => False
  | n + 1, l0, l1, h => ((l1 < 0 → Q (some (.int (-1))) h) ∧ (¬ l1 < 0 → w_Q_isIn (fun v h1 => ∃ (x2 : Int32), v = some (.int x2) ∧ ((x2 = 0 → w_Q_greatest_3 Q n (l0) (l1 + (-1)) h1) ∧ (¬ x2 = 0 → Q (some (.int l1)) h1))) l0 l1 h))
set_option maxRecDepth 100000 in
set_option maxHeartbeats 4000000 in
theorem p_Q_greatest_3 {sc : List Int32} {Q : Option Value → xH → Prop} : ∀ (n : Nat) (l0 : Int32) (l1 : Int32) (h : xH), w_Q_greatest_3 Q n l0 l1 h → xW sc m_Q_greatest 1 0 0 3 [some (.int (l0)), some (.int (l1))] [] h Q := by
  intro n
  induction n with
  | zero => intro l0 l1 h hw; exact False.elim hw
  | succ n ih =>
    intro l0 l1 h hw
    rw [w_Q_greatest_3] at hw
    refine xw_iload_n d_Q_greatest_3 rfl rfl ?_
    refine xw_if_lt (tgt := 23) d_Q_greatest_4 (by decide) (fun c4 => ?_) (fun c4 => ?_)
    · have hw := hw.1 c4
      refine xw_iconst (v := -1) d_Q_greatest_23 (by decide) ?_
      exact xw_ireturn rfl d_Q_greatest_24 hw
    · have hw := hw.2 c4
      refine xw_iload_n d_Q_greatest_7 rfl rfl ?_
      refine xw_iload_n d_Q_greatest_8 rfl rfl ?_
      refine xc_S2i lk_Q_298 st_Q_isIn d_Q_greatest_9 (x_Q_isIn hw) rfl rfl ?_
      intro x2 h1 hw
      refine xw_if_eq (tgt := 17) d_Q_greatest_12 (by decide) (fun c3 => ?_) (fun c3 => ?_)
      · have hw := hw.1 c3
        refine xs_iinc (v := l1 + (-1)) (lv' := [some (.int (l0)), some (.int (l1 + (-1)))]) d_Q_greatest_17 rfl rfl rfl ?_
        refine xw_goto (tgt := 3) d_Q_greatest_20 (by decide) ?_
        exact ih (l0) (l1 + (-1)) h1 hw
      · have hw := hw.2 c3
        refine xw_iload_n d_Q_greatest_15 rfl rfl ?_
        exact xw_ireturn rfl d_Q_greatest_16 hw
set_option maxRecDepth 100000 in
def w_Q_greatest (Q : Option Value → xH → Prop) (p1 : Int32) (h : xH) : Prop := ∃ n1, w_Q_greatest_3 Q n1 (p1) (15) h
set_option maxRecDepth 100000 in
set_option maxHeartbeats 4000000 in
theorem x_Q_greatest {sc : List Int32} {Q : Option Value → xH → Prop} {p1 : Int32} {h : xH} (hw : w_Q_greatest Q p1 h) : xMet sc m_Q_greatest 1 0 0 [.int (p1)] h Q := by
  unfold w_Q_greatest at hw
  refine xMet.of2 cw_Q_greatest rfl rfl ?_
  show xW sc m_Q_greatest 1 0 0 0 [some (.int (p1)), none] [] h Q
  refine xw_bipush (v := 15) d_Q_greatest_0 (by decide) ?_
  refine xs_istore_n (lv' := [some (.int (p1)), some (.int (15))]) d_Q_greatest_2 rfl rfl rfl ?_
  obtain ⟨n1, hw⟩ := hw
  exact p_Q_greatest_3  n1 (p1) (15) h hw
set_option maxRecDepth 100000 in
def w_JI_bitCount (Q : Option Value → xH → Prop) (p1 : Int32) (h : xH) : Prop := Q (some (.int ((((((((p1 - (((p1.toUInt32 >>> ((1 : Int32).toUInt32 &&& Int32.toUInt32 31)).toInt32) &&& 1431655765)) &&& 858993459) + ((((p1 - (((p1.toUInt32 >>> ((1 : Int32).toUInt32 &&& Int32.toUInt32 31)).toInt32) &&& 1431655765) : Int32).toUInt32 >>> ((2 : Int32).toUInt32 &&& Int32.toUInt32 31)).toInt32) &&& 858993459)) + (((((p1 - (((p1.toUInt32 >>> ((1 : Int32).toUInt32 &&& Int32.toUInt32 31)).toInt32) &&& 1431655765)) &&& 858993459) + ((((p1 - (((p1.toUInt32 >>> ((1 : Int32).toUInt32 &&& Int32.toUInt32 31)).toInt32) &&& 1431655765) : Int32).toUInt32 >>> ((2 : Int32).toUInt32 &&& Int32.toUInt32 31)).toInt32) &&& 858993459) : Int32).toUInt32 >>> ((4 : Int32).toUInt32 &&& Int32.toUInt32 31)).toInt32)) &&& 252645135) + (((((((p1 - (((p1.toUInt32 >>> ((1 : Int32).toUInt32 &&& Int32.toUInt32 31)).toInt32) &&& 1431655765)) &&& 858993459) + ((((p1 - (((p1.toUInt32 >>> ((1 : Int32).toUInt32 &&& Int32.toUInt32 31)).toInt32) &&& 1431655765) : Int32).toUInt32 >>> ((2 : Int32).toUInt32 &&& Int32.toUInt32 31)).toInt32) &&& 858993459)) + (((((p1 - (((p1.toUInt32 >>> ((1 : Int32).toUInt32 &&& Int32.toUInt32 31)).toInt32) &&& 1431655765)) &&& 858993459) + ((((p1 - (((p1.toUInt32 >>> ((1 : Int32).toUInt32 &&& Int32.toUInt32 31)).toInt32) &&& 1431655765) : Int32).toUInt32 >>> ((2 : Int32).toUInt32 &&& Int32.toUInt32 31)).toInt32) &&& 858993459) : Int32).toUInt32 >>> ((4 : Int32).toUInt32 &&& Int32.toUInt32 31)).toInt32)) &&& 252645135 : Int32).toUInt32 >>> ((8 : Int32).toUInt32 &&& Int32.toUInt32 31)).toInt32)) + ((((((((p1 - (((p1.toUInt32 >>> ((1 : Int32).toUInt32 &&& Int32.toUInt32 31)).toInt32) &&& 1431655765)) &&& 858993459) + ((((p1 - (((p1.toUInt32 >>> ((1 : Int32).toUInt32 &&& Int32.toUInt32 31)).toInt32) &&& 1431655765) : Int32).toUInt32 >>> ((2 : Int32).toUInt32 &&& Int32.toUInt32 31)).toInt32) &&& 858993459)) + (((((p1 - (((p1.toUInt32 >>> ((1 : Int32).toUInt32 &&& Int32.toUInt32 31)).toInt32) &&& 1431655765)) &&& 858993459) + ((((p1 - (((p1.toUInt32 >>> ((1 : Int32).toUInt32 &&& Int32.toUInt32 31)).toInt32) &&& 1431655765) : Int32).toUInt32 >>> ((2 : Int32).toUInt32 &&& Int32.toUInt32 31)).toInt32) &&& 858993459) : Int32).toUInt32 >>> ((4 : Int32).toUInt32 &&& Int32.toUInt32 31)).toInt32)) &&& 252645135) + (((((((p1 - (((p1.toUInt32 >>> ((1 : Int32).toUInt32 &&& Int32.toUInt32 31)).toInt32) &&& 1431655765)) &&& 858993459) + ((((p1 - (((p1.toUInt32 >>> ((1 : Int32).toUInt32 &&& Int32.toUInt32 31)).toInt32) &&& 1431655765) : Int32).toUInt32 >>> ((2 : Int32).toUInt32 &&& Int32.toUInt32 31)).toInt32) &&& 858993459)) + (((((p1 - (((p1.toUInt32 >>> ((1 : Int32).toUInt32 &&& Int32.toUInt32 31)).toInt32) &&& 1431655765)) &&& 858993459) + ((((p1 - (((p1.toUInt32 >>> ((1 : Int32).toUInt32 &&& Int32.toUInt32 31)).toInt32) &&& 1431655765) : Int32).toUInt32 >>> ((2 : Int32).toUInt32 &&& Int32.toUInt32 31)).toInt32) &&& 858993459) : Int32).toUInt32 >>> ((4 : Int32).toUInt32 &&& Int32.toUInt32 31)).toInt32)) &&& 252645135 : Int32).toUInt32 >>> ((8 : Int32).toUInt32 &&& Int32.toUInt32 31)).toInt32) : Int32).toUInt32 >>> ((16 : Int32).toUInt32 &&& Int32.toUInt32 31)).toInt32)) &&& 63))) h
set_option maxRecDepth 100000 in
set_option maxHeartbeats 4000000 in
theorem x_JI_bitCount {sc : List Int32} {Q : Option Value → xH → Prop} {p1 : Int32} {h : xH} (hw : w_JI_bitCount Q p1 h) : xMet sc m_JI_bitCount 0 0 0 [.int (p1)] h Q := by
  unfold w_JI_bitCount at hw
  refine xMet.of2 cw_JI_bitCount rfl rfl ?_
  show xW sc m_JI_bitCount 0 0 0 0 [some (.int (p1))] [] h Q
  refine xw_iload_n d_JI_bitCount_0 rfl rfl ?_
  refine xw_iload_n d_JI_bitCount_1 rfl rfl ?_
  refine xw_iconst (v := 1) d_JI_bitCount_2 (by decide) ?_
  refine xw_iushr (v := (p1.toUInt32 >>> ((1 : Int32).toUInt32 &&& Int32.toUInt32 31)).toInt32) d_JI_bitCount_3 rfl ?_
  refine xw_ldcw (v := 1431655765) cn_JI_265 d_JI_bitCount_4 ?_
  refine xw_iand d_JI_bitCount_7 ?_
  refine xw_isub d_JI_bitCount_8 ?_
  refine xs_istore_n (lv' := [some (.int (p1 - (((p1.toUInt32 >>> ((1 : Int32).toUInt32 &&& Int32.toUInt32 31)).toInt32) &&& 1431655765)))]) d_JI_bitCount_9 rfl rfl rfl ?_
  refine xw_iload_n d_JI_bitCount_10 rfl rfl ?_
  refine xw_ldcw (v := 858993459) cn_JI_266 d_JI_bitCount_11 ?_
  refine xw_iand d_JI_bitCount_14 ?_
  refine xw_iload_n d_JI_bitCount_15 rfl rfl ?_
  refine xw_iconst (v := 2) d_JI_bitCount_16 (by decide) ?_
  refine xw_iushr (v := ((p1 - (((p1.toUInt32 >>> ((1 : Int32).toUInt32 &&& Int32.toUInt32 31)).toInt32) &&& 1431655765) : Int32).toUInt32 >>> ((2 : Int32).toUInt32 &&& Int32.toUInt32 31)).toInt32) d_JI_bitCount_17 rfl ?_
  refine xw_ldcw (v := 858993459) cn_JI_266 d_JI_bitCount_18 ?_
  refine xw_iand d_JI_bitCount_21 ?_
  refine xw_iadd d_JI_bitCount_22 ?_
  refine xs_istore_n (lv' := [some (.int (((p1 - (((p1.toUInt32 >>> ((1 : Int32).toUInt32 &&& Int32.toUInt32 31)).toInt32) &&& 1431655765)) &&& 858993459) + ((((p1 - (((p1.toUInt32 >>> ((1 : Int32).toUInt32 &&& Int32.toUInt32 31)).toInt32) &&& 1431655765) : Int32).toUInt32 >>> ((2 : Int32).toUInt32 &&& Int32.toUInt32 31)).toInt32) &&& 858993459)))]) d_JI_bitCount_23 rfl rfl rfl ?_
  refine xw_iload_n d_JI_bitCount_24 rfl rfl ?_
  refine xw_iload_n d_JI_bitCount_25 rfl rfl ?_
  refine xw_iconst (v := 4) d_JI_bitCount_26 (by decide) ?_
  refine xw_iushr (v := ((((p1 - (((p1.toUInt32 >>> ((1 : Int32).toUInt32 &&& Int32.toUInt32 31)).toInt32) &&& 1431655765)) &&& 858993459) + ((((p1 - (((p1.toUInt32 >>> ((1 : Int32).toUInt32 &&& Int32.toUInt32 31)).toInt32) &&& 1431655765) : Int32).toUInt32 >>> ((2 : Int32).toUInt32 &&& Int32.toUInt32 31)).toInt32) &&& 858993459) : Int32).toUInt32 >>> ((4 : Int32).toUInt32 &&& Int32.toUInt32 31)).toInt32) d_JI_bitCount_27 rfl ?_
  refine xw_iadd d_JI_bitCount_28 ?_
  refine xw_ldcw (v := 252645135) cn_JI_267 d_JI_bitCount_29 ?_
  refine xw_iand d_JI_bitCount_32 ?_
  refine xs_istore_n (lv' := [some (.int (((((p1 - (((p1.toUInt32 >>> ((1 : Int32).toUInt32 &&& Int32.toUInt32 31)).toInt32) &&& 1431655765)) &&& 858993459) + ((((p1 - (((p1.toUInt32 >>> ((1 : Int32).toUInt32 &&& Int32.toUInt32 31)).toInt32) &&& 1431655765) : Int32).toUInt32 >>> ((2 : Int32).toUInt32 &&& Int32.toUInt32 31)).toInt32) &&& 858993459)) + (((((p1 - (((p1.toUInt32 >>> ((1 : Int32).toUInt32 &&& Int32.toUInt32 31)).toInt32) &&& 1431655765)) &&& 858993459) + ((((p1 - (((p1.toUInt32 >>> ((1 : Int32).toUInt32 &&& Int32.toUInt32 31)).toInt32) &&& 1431655765) : Int32).toUInt32 >>> ((2 : Int32).toUInt32 &&& Int32.toUInt32 31)).toInt32) &&& 858993459) : Int32).toUInt32 >>> ((4 : Int32).toUInt32 &&& Int32.toUInt32 31)).toInt32)) &&& 252645135))]) d_JI_bitCount_33 rfl rfl rfl ?_
  refine xw_iload_n d_JI_bitCount_34 rfl rfl ?_
  refine xw_iload_n d_JI_bitCount_35 rfl rfl ?_
  refine xw_bipush (v := 8) d_JI_bitCount_36 (by decide) ?_
  refine xw_iushr (v := ((((((p1 - (((p1.toUInt32 >>> ((1 : Int32).toUInt32 &&& Int32.toUInt32 31)).toInt32) &&& 1431655765)) &&& 858993459) + ((((p1 - (((p1.toUInt32 >>> ((1 : Int32).toUInt32 &&& Int32.toUInt32 31)).toInt32) &&& 1431655765) : Int32).toUInt32 >>> ((2 : Int32).toUInt32 &&& Int32.toUInt32 31)).toInt32) &&& 858993459)) + (((((p1 - (((p1.toUInt32 >>> ((1 : Int32).toUInt32 &&& Int32.toUInt32 31)).toInt32) &&& 1431655765)) &&& 858993459) + ((((p1 - (((p1.toUInt32 >>> ((1 : Int32).toUInt32 &&& Int32.toUInt32 31)).toInt32) &&& 1431655765) : Int32).toUInt32 >>> ((2 : Int32).toUInt32 &&& Int32.toUInt32 31)).toInt32) &&& 858993459) : Int32).toUInt32 >>> ((4 : Int32).toUInt32 &&& Int32.toUInt32 31)).toInt32)) &&& 252645135 : Int32).toUInt32 >>> ((8 : Int32).toUInt32 &&& Int32.toUInt32 31)).toInt32) d_JI_bitCount_38 rfl ?_
  refine xw_iadd d_JI_bitCount_39 ?_
  refine xs_istore_n (lv' := [some (.int ((((((p1 - (((p1.toUInt32 >>> ((1 : Int32).toUInt32 &&& Int32.toUInt32 31)).toInt32) &&& 1431655765)) &&& 858993459) + ((((p1 - (((p1.toUInt32 >>> ((1 : Int32).toUInt32 &&& Int32.toUInt32 31)).toInt32) &&& 1431655765) : Int32).toUInt32 >>> ((2 : Int32).toUInt32 &&& Int32.toUInt32 31)).toInt32) &&& 858993459)) + (((((p1 - (((p1.toUInt32 >>> ((1 : Int32).toUInt32 &&& Int32.toUInt32 31)).toInt32) &&& 1431655765)) &&& 858993459) + ((((p1 - (((p1.toUInt32 >>> ((1 : Int32).toUInt32 &&& Int32.toUInt32 31)).toInt32) &&& 1431655765) : Int32).toUInt32 >>> ((2 : Int32).toUInt32 &&& Int32.toUInt32 31)).toInt32) &&& 858993459) : Int32).toUInt32 >>> ((4 : Int32).toUInt32 &&& Int32.toUInt32 31)).toInt32)) &&& 252645135) + (((((((p1 - (((p1.toUInt32 >>> ((1 : Int32).toUInt32 &&& Int32.toUInt32 31)).toInt32) &&& 1431655765)) &&& 858993459) + ((((p1 - (((p1.toUInt32 >>> ((1 : Int32).toUInt32 &&& Int32.toUInt32 31)).toInt32) &&& 1431655765) : Int32).toUInt32 >>> ((2 : Int32).toUInt32 &&& Int32.toUInt32 31)).toInt32) &&& 858993459)) + (((((p1 - (((p1.toUInt32 >>> ((1 : Int32).toUInt32 &&& Int32.toUInt32 31)).toInt32) &&& 1431655765)) &&& 858993459) + ((((p1 - (((p1.toUInt32 >>> ((1 : Int32).toUInt32 &&& Int32.toUInt32 31)).toInt32) &&& 1431655765) : Int32).toUInt32 >>> ((2 : Int32).toUInt32 &&& Int32.toUInt32 31)).toInt32) &&& 858993459) : Int32).toUInt32 >>> ((4 : Int32).toUInt32 &&& Int32.toUInt32 31)).toInt32)) &&& 252645135 : Int32).toUInt32 >>> ((8 : Int32).toUInt32 &&& Int32.toUInt32 31)).toInt32)))]) d_JI_bitCount_40 rfl rfl rfl ?_
  refine xw_iload_n d_JI_bitCount_41 rfl rfl ?_
  refine xw_iload_n d_JI_bitCount_42 rfl rfl ?_
  refine xw_bipush (v := 16) d_JI_bitCount_43 (by decide) ?_
  refine xw_iushr (v := (((((((p1 - (((p1.toUInt32 >>> ((1 : Int32).toUInt32 &&& Int32.toUInt32 31)).toInt32) &&& 1431655765)) &&& 858993459) + ((((p1 - (((p1.toUInt32 >>> ((1 : Int32).toUInt32 &&& Int32.toUInt32 31)).toInt32) &&& 1431655765) : Int32).toUInt32 >>> ((2 : Int32).toUInt32 &&& Int32.toUInt32 31)).toInt32) &&& 858993459)) + (((((p1 - (((p1.toUInt32 >>> ((1 : Int32).toUInt32 &&& Int32.toUInt32 31)).toInt32) &&& 1431655765)) &&& 858993459) + ((((p1 - (((p1.toUInt32 >>> ((1 : Int32).toUInt32 &&& Int32.toUInt32 31)).toInt32) &&& 1431655765) : Int32).toUInt32 >>> ((2 : Int32).toUInt32 &&& Int32.toUInt32 31)).toInt32) &&& 858993459) : Int32).toUInt32 >>> ((4 : Int32).toUInt32 &&& Int32.toUInt32 31)).toInt32)) &&& 252645135) + (((((((p1 - (((p1.toUInt32 >>> ((1 : Int32).toUInt32 &&& Int32.toUInt32 31)).toInt32) &&& 1431655765)) &&& 858993459) + ((((p1 - (((p1.toUInt32 >>> ((1 : Int32).toUInt32 &&& Int32.toUInt32 31)).toInt32) &&& 1431655765) : Int32).toUInt32 >>> ((2 : Int32).toUInt32 &&& Int32.toUInt32 31)).toInt32) &&& 858993459)) + (((((p1 - (((p1.toUInt32 >>> ((1 : Int32).toUInt32 &&& Int32.toUInt32 31)).toInt32) &&& 1431655765)) &&& 858993459) + ((((p1 - (((p1.toUInt32 >>> ((1 : Int32).toUInt32 &&& Int32.toUInt32 31)).toInt32) &&& 1431655765) : Int32).toUInt32 >>> ((2 : Int32).toUInt32 &&& Int32.toUInt32 31)).toInt32) &&& 858993459) : Int32).toUInt32 >>> ((4 : Int32).toUInt32 &&& Int32.toUInt32 31)).toInt32)) &&& 252645135 : Int32).toUInt32 >>> ((8 : Int32).toUInt32 &&& Int32.toUInt32 31)).toInt32) : Int32).toUInt32 >>> ((16 : Int32).toUInt32 &&& Int32.toUInt32 31)).toInt32) d_JI_bitCount_45 rfl ?_
  refine xw_iadd d_JI_bitCount_46 ?_
  refine xs_istore_n (lv' := [some (.int (((((((p1 - (((p1.toUInt32 >>> ((1 : Int32).toUInt32 &&& Int32.toUInt32 31)).toInt32) &&& 1431655765)) &&& 858993459) + ((((p1 - (((p1.toUInt32 >>> ((1 : Int32).toUInt32 &&& Int32.toUInt32 31)).toInt32) &&& 1431655765) : Int32).toUInt32 >>> ((2 : Int32).toUInt32 &&& Int32.toUInt32 31)).toInt32) &&& 858993459)) + (((((p1 - (((p1.toUInt32 >>> ((1 : Int32).toUInt32 &&& Int32.toUInt32 31)).toInt32) &&& 1431655765)) &&& 858993459) + ((((p1 - (((p1.toUInt32 >>> ((1 : Int32).toUInt32 &&& Int32.toUInt32 31)).toInt32) &&& 1431655765) : Int32).toUInt32 >>> ((2 : Int32).toUInt32 &&& Int32.toUInt32 31)).toInt32) &&& 858993459) : Int32).toUInt32 >>> ((4 : Int32).toUInt32 &&& Int32.toUInt32 31)).toInt32)) &&& 252645135) + (((((((p1 - (((p1.toUInt32 >>> ((1 : Int32).toUInt32 &&& Int32.toUInt32 31)).toInt32) &&& 1431655765)) &&& 858993459) + ((((p1 - (((p1.toUInt32 >>> ((1 : Int32).toUInt32 &&& Int32.toUInt32 31)).toInt32) &&& 1431655765) : Int32).toUInt32 >>> ((2 : Int32).toUInt32 &&& Int32.toUInt32 31)).toInt32) &&& 858993459)) + (((((p1 - (((p1.toUInt32 >>> ((1 : Int32).toUInt32 &&& Int32.toUInt32 31)).toInt32) &&& 1431655765)) &&& 858993459) + ((((p1 - (((p1.toUInt32 >>> ((1 : Int32).toUInt32 &&& Int32.toUInt32 31)).toInt32) &&& 1431655765) : Int32).toUInt32 >>> ((2 : Int32).toUInt32 &&& Int32.toUInt32 31)).toInt32) &&& 858993459) : Int32).toUInt32 >>> ((4 : Int32).toUInt32 &&& Int32.toUInt32 31)).toInt32)) &&& 252645135 : Int32).toUInt32 >>> ((8 : Int32).toUInt32 &&& Int32.toUInt32 31)).toInt32)) + ((((((((p1 - (((p1.toUInt32 >>> ((1 : Int32).toUInt32 &&& Int32.toUInt32 31)).toInt32) &&& 1431655765)) &&& 858993459) + ((((p1 - (((p1.toUInt32 >>> ((1 : Int32).toUInt32 &&& Int32.toUInt32 31)).toInt32) &&& 1431655765) : Int32).toUInt32 >>> ((2 : Int32).toUInt32 &&& Int32.toUInt32 31)).toInt32) &&& 858993459)) + (((((p1 - (((p1.toUInt32 >>> ((1 : Int32).toUInt32 &&& Int32.toUInt32 31)).toInt32) &&& 1431655765)) &&& 858993459) + ((((p1 - (((p1.toUInt32 >>> ((1 : Int32).toUInt32 &&& Int32.toUInt32 31)).toInt32) &&& 1431655765) : Int32).toUInt32 >>> ((2 : Int32).toUInt32 &&& Int32.toUInt32 31)).toInt32) &&& 858993459) : Int32).toUInt32 >>> ((4 : Int32).toUInt32 &&& Int32.toUInt32 31)).toInt32)) &&& 252645135) + (((((((p1 - (((p1.toUInt32 >>> ((1 : Int32).toUInt32 &&& Int32.toUInt32 31)).toInt32) &&& 1431655765)) &&& 858993459) + ((((p1 - (((p1.toUInt32 >>> ((1 : Int32).toUInt32 &&& Int32.toUInt32 31)).toInt32) &&& 1431655765) : Int32).toUInt32 >>> ((2 : Int32).toUInt32 &&& Int32.toUInt32 31)).toInt32) &&& 858993459)) + (((((p1 - (((p1.toUInt32 >>> ((1 : Int32).toUInt32 &&& Int32.toUInt32 31)).toInt32) &&& 1431655765)) &&& 858993459) + ((((p1 - (((p1.toUInt32 >>> ((1 : Int32).toUInt32 &&& Int32.toUInt32 31)).toInt32) &&& 1431655765) : Int32).toUInt32 >>> ((2 : Int32).toUInt32 &&& Int32.toUInt32 31)).toInt32) &&& 858993459) : Int32).toUInt32 >>> ((4 : Int32).toUInt32 &&& Int32.toUInt32 31)).toInt32)) &&& 252645135 : Int32).toUInt32 >>> ((8 : Int32).toUInt32 &&& Int32.toUInt32 31)).toInt32) : Int32).toUInt32 >>> ((16 : Int32).toUInt32 &&& Int32.toUInt32 31)).toInt32)))]) d_JI_bitCount_47 rfl rfl rfl ?_
  refine xw_iload_n d_JI_bitCount_48 rfl rfl ?_
  refine xw_bipush (v := 63) d_JI_bitCount_49 (by decide) ?_
  refine xw_iand d_JI_bitCount_51 ?_
  exact xw_ireturn rfl d_JI_bitCount_52 hw
set_option maxRecDepth 100000 in
def w_Q_isConfiguration (Q : Option Value → xH → Prop) (p1 : Int32) (p2 : Int32) (p3 : Int32) (h : xH) : Prop := ((p1 < 1 → (narrow .boolean (.int 0) = .int 0 ∧ Q (some (.int 0)) h)) ∧ (¬ p1 < 1 → ((p1 < 256 → w_JI_bitCount (fun v h1 => ∃ (x2 : Int32), v = some (.int x2) ∧ ((p2 < 1 → (narrow .boolean (.int 0) = .int 0 ∧ Q (some (.int 0)) h1)) ∧ (¬ p2 < 1 → ((x2 < p2 → (narrow .boolean (.int 0) = .int 0 ∧ Q (some (.int 0)) h1)) ∧ (¬ x2 < p2 → ((p3 < 1 → (narrow .boolean (.int 0) = .int 0 ∧ Q (some (.int 0)) h1)) ∧ (¬ p3 < 1 → ((x2 < p3 → (narrow .boolean (.int 0) = .int 0 ∧ Q (some (.int 0)) h1)) ∧ (¬ x2 < p3 → (((p2 + p3) ≤ x2 → (narrow .boolean (.int 0) = .int 0 ∧ Q (some (.int 0)) h1)) ∧ (¬ (p2 + p3) ≤ x2 → (narrow .boolean (.int 1) = .int 1 ∧ Q (some (.int 1)) h1)))))))))))) p1 h) ∧ (¬ p1 < 256 → (narrow .boolean (.int 0) = .int 0 ∧ Q (some (.int 0)) h)))))
set_option maxRecDepth 100000 in
set_option maxHeartbeats 4000000 in
theorem x_Q_isConfiguration {sc : List Int32} {Q : Option Value → xH → Prop} {p1 : Int32} {p2 : Int32} {p3 : Int32} {h : xH} (hw : w_Q_isConfiguration Q p1 p2 p3 h) : xMet sc m_Q_isConfiguration 1 0 0 [.int (p1), .int (p2), .int (p3)] h Q := by
  unfold w_Q_isConfiguration at hw
  refine xMet.of2 cw_Q_isConfiguration rfl rfl ?_
  show xW sc m_Q_isConfiguration 1 0 0 0 [some (.int (p1)), some (.int (p2)), some (.int (p3)), none] [] h Q
  refine xw_iload_n d_Q_isConfiguration_0 rfl rfl ?_
  refine xw_iconst (v := 1) d_Q_isConfiguration_1 (by decide) ?_
  refine xw_icmp_lt (tgt := 12) d_Q_isConfiguration_2 (by decide) (fun c9 => ?_) (fun c9 => ?_)
  · have hw := hw.1 c9
    refine xw_iconst (v := 0) d_Q_isConfiguration_12 (by decide) ?_
    exact xw_zreturn rfl hw.1 d_Q_isConfiguration_13 hw.2
  · have hw := hw.2 c9
    refine xw_iload_n d_Q_isConfiguration_5 rfl rfl ?_
    refine xw_sipush (v := 256) d_Q_isConfiguration_6 (by decide) ?_
    refine xw_icmp_lt (tgt := 14) d_Q_isConfiguration_9 (by decide) (fun c8 => ?_) (fun c8 => ?_)
    · have hw := hw.1 c8
      refine xw_iload_n d_Q_isConfiguration_14 rfl rfl ?_
      refine xc_S1i lk_Q_111 st_JI_bitCount d_Q_isConfiguration_15 (x_JI_bitCount hw) rfl rfl ?_
      intro x2 h1 hw
      refine xs_istore_n (lv' := [some (.int (p1)), some (.int (p2)), some (.int (p3)), some (.int (x2))]) d_Q_isConfiguration_18 rfl rfl rfl ?_
      refine xw_iload_n d_Q_isConfiguration_19 rfl rfl ?_
      refine xw_iconst (v := 1) d_Q_isConfiguration_20 (by decide) ?_
      refine xw_icmp_lt (tgt := 50) d_Q_isConfiguration_21 (by decide) (fun c7 => ?_) (fun c7 => ?_)
      · have hw := hw.1 c7
        refine xw_iconst (v := 0) d_Q_isConfiguration_50 (by decide) ?_
        exact xw_zreturn rfl hw.1 d_Q_isConfiguration_51 hw.2
      · have hw := hw.2 c7
        refine xw_iload_n d_Q_isConfiguration_24 rfl rfl ?_
        refine xw_iload_n d_Q_isConfiguration_25 rfl rfl ?_
        refine xw_icmp_gt (tgt := 50) d_Q_isConfiguration_26 (by decide) (fun c6 => ?_) (fun c6 => ?_)
        · have hw := hw.1 c6
          refine xw_iconst (v := 0) d_Q_isConfiguration_50 (by decide) ?_
          exact xw_zreturn rfl hw.1 d_Q_isConfiguration_51 hw.2
        · have hw := hw.2 c6
          refine xw_iload_n d_Q_isConfiguration_29 rfl rfl ?_
          refine xw_iconst (v := 1) d_Q_isConfiguration_30 (by decide) ?_
          refine xw_icmp_lt (tgt := 50) d_Q_isConfiguration_31 (by decide) (fun c5 => ?_) (fun c5 => ?_)
          · have hw := hw.1 c5
            refine xw_iconst (v := 0) d_Q_isConfiguration_50 (by decide) ?_
            exact xw_zreturn rfl hw.1 d_Q_isConfiguration_51 hw.2
          · have hw := hw.2 c5
            refine xw_iload_n d_Q_isConfiguration_34 rfl rfl ?_
            refine xw_iload_n d_Q_isConfiguration_35 rfl rfl ?_
            refine xw_icmp_gt (tgt := 50) d_Q_isConfiguration_36 (by decide) (fun c4 => ?_) (fun c4 => ?_)
            · have hw := hw.1 c4
              refine xw_iconst (v := 0) d_Q_isConfiguration_50 (by decide) ?_
              exact xw_zreturn rfl hw.1 d_Q_isConfiguration_51 hw.2
            · have hw := hw.2 c4
              refine xw_iload_n d_Q_isConfiguration_39 rfl rfl ?_
              refine xw_iload_n d_Q_isConfiguration_40 rfl rfl ?_
              refine xw_iadd d_Q_isConfiguration_41 ?_
              refine xw_iload_n d_Q_isConfiguration_42 rfl rfl ?_
              refine xw_icmp_le (tgt := 50) d_Q_isConfiguration_43 (by decide) (fun c3 => ?_) (fun c3 => ?_)
              · have hw := hw.1 c3
                refine xw_iconst (v := 0) d_Q_isConfiguration_50 (by decide) ?_
                exact xw_zreturn rfl hw.1 d_Q_isConfiguration_51 hw.2
              · have hw := hw.2 c3
                refine xw_iconst (v := 1) d_Q_isConfiguration_46 (by decide) ?_
                refine xw_goto (tgt := 51) d_Q_isConfiguration_47 (by decide) ?_
                exact xw_zreturn rfl hw.1 d_Q_isConfiguration_51 hw.2
    · have hw := hw.2 c8
      refine xw_iconst (v := 0) d_Q_isConfiguration_12 (by decide) ?_
      exact xw_zreturn rfl hw.1 d_Q_isConfiguration_13 hw.2
set_option maxRecDepth 100000 in
def w_Q_configuration (Q : Option Value → xH → Prop) (p1 : Int32) (p2 : Int32) (p3 : Int32) (h : xH) : Prop := Q (some (.int ((p1 + (256 * p2)) + (4096 * p3)))) h
set_option maxRecDepth 100000 in
set_option maxHeartbeats 4000000 in
theorem x_Q_configuration {sc : List Int32} {Q : Option Value → xH → Prop} {p1 : Int32} {p2 : Int32} {p3 : Int32} {h : xH} (hw : w_Q_configuration Q p1 p2 p3 h) : xMet sc m_Q_configuration 0 0 0 [.int (p1), .int (p2), .int (p3)] h Q := by
  unfold w_Q_configuration at hw
  refine xMet.of2 cw_Q_configuration rfl rfl ?_
  show xW sc m_Q_configuration 0 0 0 0 [some (.int (p1)), some (.int (p2)), some (.int (p3))] [] h Q
  refine xw_iload_n d_Q_configuration_0 rfl rfl ?_
  refine xw_sipush (v := 256) d_Q_configuration_1 (by decide) ?_
  refine xw_iload_n d_Q_configuration_4 rfl rfl ?_
  refine xw_imul d_Q_configuration_5 ?_
  refine xw_iadd d_Q_configuration_6 ?_
  refine xw_sipush (v := 4096) d_Q_configuration_7 (by decide) ?_
  refine xw_iload_n d_Q_configuration_10 rfl rfl ?_
  refine xw_imul d_Q_configuration_11 ?_
  refine xw_iadd d_Q_configuration_12 ?_
  exact xw_ireturn rfl d_Q_configuration_13 hw
set_option maxRecDepth 100000 in
def w_Q_membersOf (Q : Option Value → xH → Prop) (p1 : Int32) (h : xH) : Prop := Q (some (.int (p1 &&& 255))) h
set_option maxRecDepth 100000 in
set_option maxHeartbeats 4000000 in
theorem x_Q_membersOf {sc : List Int32} {Q : Option Value → xH → Prop} {p1 : Int32} {h : xH} (hw : w_Q_membersOf Q p1 h) : xMet sc m_Q_membersOf 0 0 0 [.int (p1)] h Q := by
  unfold w_Q_membersOf at hw
  refine xMet.of2 cw_Q_membersOf rfl rfl ?_
  show xW sc m_Q_membersOf 0 0 0 0 [some (.int (p1))] [] h Q
  refine xw_iload_n d_Q_membersOf_0 rfl rfl ?_
  refine xw_sipush (v := 255) d_Q_membersOf_1 (by decide) ?_
  refine xw_iand d_Q_membersOf_4 ?_
  exact xw_ireturn rfl d_Q_membersOf_5 hw
set_option maxRecDepth 100000 in
def w_Q_readersOf (Q : Option Value → xH → Prop) (p1 : Int32) (h : xH) : Prop := Q (some (.int ((p1 >>> (8 &&& 31)) &&& 15))) h
set_option maxRecDepth 100000 in
set_option maxHeartbeats 4000000 in
theorem x_Q_readersOf {sc : List Int32} {Q : Option Value → xH → Prop} {p1 : Int32} {h : xH} (hw : w_Q_readersOf Q p1 h) : xMet sc m_Q_readersOf 0 0 0 [.int (p1)] h Q := by
  unfold w_Q_readersOf at hw
  refine xMet.of2 cw_Q_readersOf rfl rfl ?_
  show xW sc m_Q_readersOf 0 0 0 0 [some (.int (p1))] [] h Q
  refine xw_iload_n d_Q_readersOf_0 rfl rfl ?_
  refine xw_bipush (v := 8) d_Q_readersOf_1 (by decide) ?_
  refine xw_ishr d_Q_readersOf_3 ?_
  refine xw_bipush (v := 15) d_Q_readersOf_4 (by decide) ?_
  refine xw_iand d_Q_readersOf_6 ?_
  exact xw_ireturn rfl d_Q_readersOf_7 hw
set_option maxRecDepth 100000 in
def w_Q_writersOf (Q : Option Value → xH → Prop) (p1 : Int32) (h : xH) : Prop := Q (some (.int ((p1 >>> (12 &&& 31)) &&& 15))) h
set_option maxRecDepth 100000 in
set_option maxHeartbeats 4000000 in
theorem x_Q_writersOf {sc : List Int32} {Q : Option Value → xH → Prop} {p1 : Int32} {h : xH} (hw : w_Q_writersOf Q p1 h) : xMet sc m_Q_writersOf 0 0 0 [.int (p1)] h Q := by
  unfold w_Q_writersOf at hw
  refine xMet.of2 cw_Q_writersOf rfl rfl ?_
  show xW sc m_Q_writersOf 0 0 0 0 [some (.int (p1))] [] h Q
  refine xw_iload_n d_Q_writersOf_0 rfl rfl ?_
  refine xw_bipush (v := 12) d_Q_writersOf_1 (by decide) ?_
  refine xw_ishr d_Q_writersOf_3 ?_
  refine xw_bipush (v := 15) d_Q_writersOf_4 (by decide) ?_
  refine xw_iand d_Q_writersOf_6 ?_
  exact xw_ireturn rfl d_Q_writersOf_7 hw
set_option maxRecDepth 100000 in
def w_Q_isAnswer (Q : Option Value → xH → Prop) (p1 : Int32) (h : xH) : Prop := ((p1 = 2 → (narrow .boolean (.int 1) = .int 1 ∧ Q (some (.int 1)) h)) ∧ (p1 = 3 → (narrow .boolean (.int 0) = .int 0 ∧ Q (some (.int 0)) h)) ∧ (p1 = 4 → (narrow .boolean (.int 1) = .int 1 ∧ Q (some (.int 1)) h)) ∧ (p1 = 5 → (narrow .boolean (.int 0) = .int 0 ∧ Q (some (.int 0)) h)) ∧ (p1 = 6 → (narrow .boolean (.int 1) = .int 1 ∧ Q (some (.int 1)) h)) ∧ (p1 = 7 → (narrow .boolean (.int 0) = .int 0 ∧ Q (some (.int 0)) h)) ∧ (p1 = 8 → (narrow .boolean (.int 1) = .int 1 ∧ Q (some (.int 1)) h)) ∧ (p1 = 9 → (narrow .boolean (.int 1) = .int 1 ∧ Q (some (.int 1)) h)) ∧ (p1 = 10 → (narrow .boolean (.int 0) = .int 0 ∧ Q (some (.int 0)) h)) ∧ (p1 = 11 → (narrow .boolean (.int 1) = .int 1 ∧ Q (some (.int 1)) h)) ∧ (p1 = 12 → (narrow .boolean (.int 0) = .int 0 ∧ Q (some (.int 0)) h)) ∧ (p1 = 13 → (narrow .boolean (.int 1) = .int 1 ∧ Q (some (.int 1)) h)) ∧ (¬ p1 = 2 → ¬ p1 = 3 → ¬ p1 = 4 → ¬ p1 = 5 → ¬ p1 = 6 → ¬ p1 = 7 → ¬ p1 = 8 → ¬ p1 = 9 → ¬ p1 = 10 → ¬ p1 = 11 → ¬ p1 = 12 → ¬ p1 = 13 → (narrow .boolean (.int 0) = .int 0 ∧ Q (some (.int 0)) h)))
set_option maxRecDepth 100000 in
set_option maxHeartbeats 4000000 in
theorem x_Q_isAnswer {sc : List Int32} {Q : Option Value → xH → Prop} {p1 : Int32} {h : xH} (hw : w_Q_isAnswer Q p1 h) : xMet sc m_Q_isAnswer 0 0 0 [.int (p1)] h Q := by
  unfold w_Q_isAnswer at hw
  refine xMet.of2 cw_Q_isAnswer rfl rfl ?_
  show xW sc m_Q_isAnswer 0 0 0 0 [some (.int (p1))] [] h Q
  refine xw_iload_n d_Q_isAnswer_0 rfl rfl ?_
  by_cases c2 : p1 = 2
  · have hw := hw.1 c2
    rw [c2]
    refine xw_tableIn (tgt := 64) (off := 63) d_Q_isAnswer_1 (by decide) (by decide) (by decide +kernel) (by decide) ?_
    refine xw_iconst (v := 1) d_Q_isAnswer_64 (by decide) ?_
    exact xw_zreturn rfl hw.1 d_Q_isAnswer_65 hw.2
  by_cases c3 : p1 = 3
  · have hw := hw.2.1 c3
    rw [c3]
    refine xw_tableIn (tgt := 66) (off := 65) d_Q_isAnswer_1 (by decide) (by decide) (by decide +kernel) (by decide) ?_
    refine xw_iconst (v := 0) d_Q_isAnswer_66 (by decide) ?_
    exact xw_zreturn rfl hw.1 d_Q_isAnswer_67 hw.2
  by_cases c4 : p1 = 4
  · have hw := hw.2.2.1 c4
    rw [c4]
    refine xw_tableIn (tgt := 64) (off := 63) d_Q_isAnswer_1 (by decide) (by decide) (by decide +kernel) (by decide) ?_
    refine xw_iconst (v := 1) d_Q_isAnswer_64 (by decide) ?_
    exact xw_zreturn rfl hw.1 d_Q_isAnswer_65 hw.2
  by_cases c5 : p1 = 5
  · have hw := hw.2.2.2.1 c5
    rw [c5]
    refine xw_tableIn (tgt := 66) (off := 65) d_Q_isAnswer_1 (by decide) (by decide) (by decide +kernel) (by decide) ?_
    refine xw_iconst (v := 0) d_Q_isAnswer_66 (by decide) ?_
    exact xw_zreturn rfl hw.1 d_Q_isAnswer_67 hw.2
  by_cases c6 : p1 = 6
  · have hw := hw.2.2.2.2.1 c6
    rw [c6]
    refine xw_tableIn (tgt := 64) (off := 63) d_Q_isAnswer_1 (by decide) (by decide) (by decide +kernel) (by decide) ?_
    refine xw_iconst (v := 1) d_Q_isAnswer_64 (by decide) ?_
    exact xw_zreturn rfl hw.1 d_Q_isAnswer_65 hw.2
  by_cases c7 : p1 = 7
  · have hw := hw.2.2.2.2.2.1 c7
    rw [c7]
    refine xw_tableIn (tgt := 66) (off := 65) d_Q_isAnswer_1 (by decide) (by decide) (by decide +kernel) (by decide) ?_
    refine xw_iconst (v := 0) d_Q_isAnswer_66 (by decide) ?_
    exact xw_zreturn rfl hw.1 d_Q_isAnswer_67 hw.2
  by_cases c8 : p1 = 8
  · have hw := hw.2.2.2.2.2.2.1 c8
    rw [c8]
    refine xw_tableIn (tgt := 64) (off := 63) d_Q_isAnswer_1 (by decide) (by decide) (by decide +kernel) (by decide) ?_
    refine xw_iconst (v := 1) d_Q_isAnswer_64 (by decide) ?_
    exact xw_zreturn rfl hw.1 d_Q_isAnswer_65 hw.2
  by_cases c9 : p1 = 9
  · have hw := hw.2.2.2.2.2.2.2.1 c9
    rw [c9]
    refine xw_tableIn (tgt := 64) (off := 63) d_Q_isAnswer_1 (by decide) (by decide) (by decide +kernel) (by decide) ?_
    refine xw_iconst (v := 1) d_Q_isAnswer_64 (by decide) ?_
    exact xw_zreturn rfl hw.1 d_Q_isAnswer_65 hw.2
  by_cases c10 : p1 = 10
  · have hw := hw.2.2.2.2.2.2.2.2.1 c10
    rw [c10]
    refine xw_tableIn (tgt := 66) (off := 65) d_Q_isAnswer_1 (by decide) (by decide) (by decide +kernel) (by decide) ?_
    refine xw_iconst (v := 0) d_Q_isAnswer_66 (by decide) ?_
    exact xw_zreturn rfl hw.1 d_Q_isAnswer_67 hw.2
  by_cases c11 : p1 = 11
  · have hw := hw.2.2.2.2.2.2.2.2.2.1 c11
    rw [c11]
    refine xw_tableIn (tgt := 64) (off := 63) d_Q_isAnswer_1 (by decide) (by decide) (by decide +kernel) (by decide) ?_
    refine xw_iconst (v := 1) d_Q_isAnswer_64 (by decide) ?_
    exact xw_zreturn rfl hw.1 d_Q_isAnswer_65 hw.2
  by_cases c12 : p1 = 12
  · have hw := hw.2.2.2.2.2.2.2.2.2.2.1 c12
    rw [c12]
    refine xw_tableIn (tgt := 66) (off := 65) d_Q_isAnswer_1 (by decide) (by decide) (by decide +kernel) (by decide) ?_
    refine xw_iconst (v := 0) d_Q_isAnswer_66 (by decide) ?_
    exact xw_zreturn rfl hw.1 d_Q_isAnswer_67 hw.2
  by_cases c13 : p1 = 13
  · have hw := hw.2.2.2.2.2.2.2.2.2.2.2.1 c13
    rw [c13]
    refine xw_tableIn (tgt := 64) (off := 63) d_Q_isAnswer_1 (by decide) (by decide) (by decide +kernel) (by decide) ?_
    refine xw_iconst (v := 1) d_Q_isAnswer_64 (by decide) ?_
    exact xw_zreturn rfl hw.1 d_Q_isAnswer_65 hw.2
  have hw := hw.2.2.2.2.2.2.2.2.2.2.2.2 c2 c3 c4 c5 c6 c7 c8 c9 c10 c11 c12 c13
  have ec2 := lv_neT c2 (a := 2) (by decide)
  have ec3 := lv_neT c3 (a := 3) (by decide)
  have ec4 := lv_neT c4 (a := 4) (by decide)
  have ec5 := lv_neT c5 (a := 5) (by decide)
  have ec6 := lv_neT c6 (a := 6) (by decide)
  have ec7 := lv_neT c7 (a := 7) (by decide)
  have ec8 := lv_neT c8 (a := 8) (by decide)
  have ec9 := lv_neT c9 (a := 9) (by decide)
  have ec10 := lv_neT c10 (a := 10) (by decide)
  have ec11 := lv_neT c11 (a := 11) (by decide)
  have ec12 := lv_neT c12 (a := 12) (by decide)
  have ec13 := lv_neT c13 (a := 13) (by decide)
  refine xw_tableOut (tgt := 66) d_Q_isAnswer_1 (by omega) (by decide) ?_
  refine xw_iconst (v := 0) d_Q_isAnswer_66 (by decide) ?_
  exact xw_zreturn rfl hw.1 d_Q_isAnswer_67 hw.2
set_option maxRecDepth 100000 in
def w_No_isBusy (Q : Option Value → xH → Prop) (this : Nat) (h : xH) : Prop := ∃ (f1 : List Value) (x2 : Int32), h.2 this = some (.inr (4, f1)) ∧ f1[1]? = some (.int x2) ∧ ((¬ x2 = 1 → (narrow .boolean (.int 0) = .int 0 ∧ Q (some (.int 0)) h)) ∧ (x2 = 1 → ∃ (f3 : List Value) (a4 : Nat), h.2 this = some (.inr (4, f3)) ∧ f3[10]? = some (.ref a4) ∧ ∃ (f5 : List Value) (x6 : Int32), h.2 a4 = some (.inr (6, f5)) ∧ f5[2]? = some (.int x6) ∧ ((x6 = 0 → (narrow .boolean (.int 0) = .int 0 ∧ Q (some (.int 0)) h)) ∧ (¬ x6 = 0 → (narrow .boolean (.int 1) = .int 1 ∧ Q (some (.int 1)) h)))))
set_option maxRecDepth 100000 in
set_option maxHeartbeats 4000000 in
theorem x_No_isBusy {sc : List Int32} {Q : Option Value → xH → Prop} {this : Nat} {h : xH} (hw : w_No_isBusy Q this h) : xMet sc m_No_isBusy 0 0 0 [.ref (this)] h Q := by
  unfold w_No_isBusy at hw
  refine xMet.of2 cw_No_isBusy rfl rfl ?_
  show xW sc m_No_isBusy 0 0 0 0 [some (.ref (this))] [] h Q
  refine xw_aload_n d_No_isBusy_0 rfl rfl ?_
  obtain ⟨f1, x2, hA, hB, hw⟩ := hw
  refine xw_getr fr_No_9 d_No_isBusy_1 hA hB ?_
  refine xw_iconst (v := 1) d_No_isBusy_4 (by decide) ?_
  refine xw_icmp_ne (tgt := 22) d_No_isBusy_5 (by decide) (fun c8 => ?_) (fun c8 => ?_)
  · have hw := hw.1 c8
    refine xw_iconst (v := 0) d_No_isBusy_22 (by decide) ?_
    exact xw_zreturn rfl hw.1 d_No_isBusy_23 hw.2
  · have hw := hw.2 c8
    refine xw_aload_n d_No_isBusy_8 rfl rfl ?_
    obtain ⟨f3, a4, hA, hB, hw⟩ := hw
    refine xw_getr fr_No_54 d_No_isBusy_9 hA hB ?_
    obtain ⟨f5, x6, hA, hB, hw⟩ := hw
    refine xw_getr fr_No_61 d_No_isBusy_12 hA hB ?_
    refine xw_if_eq (tgt := 22) d_No_isBusy_15 (by decide) (fun c7 => ?_) (fun c7 => ?_)
    · have hw := hw.1 c7
      refine xw_iconst (v := 0) d_No_isBusy_22 (by decide) ?_
      exact xw_zreturn rfl hw.1 d_No_isBusy_23 hw.2
    · have hw := hw.2 c7
      refine xw_iconst (v := 1) d_No_isBusy_18 (by decide) ?_
      refine xw_goto (tgt := 23) d_No_isBusy_19 (by decide) ?_
      exact xw_zreturn rfl hw.1 d_No_isBusy_23 hw.2
set_option maxRecDepth 100000 in
def w_Se_having_26 (Q : Option Value → xH → Prop) (L4 : Nat → Int32 → Int32 → Int32 → xH → Prop) (l0 : Nat) (l1 : Int32) (l2 : Int32) (l3 : Int32) (h : xH) : Prop := L4 (l0) (l1) (l2) (l3 + 1) h
set_option maxRecDepth 100000 in
set_option maxHeartbeats 4000000 in
theorem p_Se_having_26 {sc : List Int32} {Q : Option Value → xH → Prop} {L4 : Nat → Int32 → Int32 → Int32 → xH → Prop} (hL4 : ∀ l0 l1 l2 l3 h, L4 l0 l1 l2 l3 h → xW sc m_Se_having 0 0 0 4 [some (.ref (l0)), some (.int (l1)), some (.int (l2)), some (.int (l3))] [] h Q) (l0 : Nat) (l1 : Int32) (l2 : Int32) (l3 : Int32) (h : xH) (hw : w_Se_having_26 Q L4 l0 l1 l2 l3 h) : xW sc m_Se_having 0 0 0 26 [some (.ref (l0)), some (.int (l1)), some (.int (l2)), some (.int (l3))] [] h Q := by
  unfold w_Se_having_26 at hw
  refine xs_iinc (v := l3 + 1) (lv' := [some (.ref (l0)), some (.int (l1)), some (.int (l2)), some (.int (l3 + 1))]) d_Se_having_26 rfl rfl rfl ?_
  refine xw_goto (tgt := 4) d_Se_having_29 (by decide) ?_
  exact hL4 (l0) (l1) (l2) (l3 + 1) h hw
set_option maxRecDepth 100000 in
def w_Se_having_4 (Q : Option Value → xH → Prop) : Nat → Nat → Int32 → Int32 → Int32 → xH → Prop
  | 0, _, _, _, _, _ => False
  | n + 1, l0, l1, l2, l3, h => ((16 ≤ l3 → Q (some (.int l2)) h) ∧ (¬ 16 ≤ l3 → ∃ (f1 : List Value) (a2 : Nat), h.2 l0 = some (.inr (5, f1)) ∧ f1[0]? = some (.ref a2) ∧ ∃ (ar5 : List Int32) (x3 : Int32), h.2 a2 = some (.inl (0, .inl ar5)) ∧ 0 ≤ l3 ∧ ar5[l3.toNatClampNeg]? = some x3 ∧ ((¬ x3 = l1 → w_Se_having_26 Q (fun y0 y1 y2 y3 yh => w_Se_having_4 Q n y0 y1 y2 y3 yh) (l0) (l1) (l2) (l3) h) ∧ (x3 = l1 → w_Se_having_26 Q (fun y0 y1 y2 y3 yh => w_Se_having_4 Q n y0 y1 y2 y3 yh) (l0) (l1) (l2 ||| ((1 : Int32) <<< (l3 &&& 31))) (l3) h))))
set_option maxRecDepth 100000 in
set_option maxHeartbeats 4000000 in
theorem p_Se_having_4 {sc : List Int32} {Q : Option Value → xH → Prop} : ∀ (n : Nat) (l0 : Nat) (l1 : Int32) (l2 : Int32) (l3 : Int32) (h : xH), w_Se_having_4 Q n l0 l1 l2 l3 h → xW sc m_Se_having 0 0 0 4 [some (.ref (l0)), some (.int (l1)), some (.int (l2)), some (.int (l3))] [] h Q := by
  intro n
  induction n with
  | zero => intro l0 l1 l2 l3 h hw; exact False.elim hw
  | succ n ih =>
    intro l0 l1 l2 l3 h hw
    rw [w_Se_having_4] at hw
    refine xw_iload_n d_Se_having_4 rfl rfl ?_
    refine xw_bipush (v := 16) d_Se_having_5 (by decide) ?_
    refine xw_icmp_ge (tgt := 32) d_Se_having_7 (by decide) (fun c6 => ?_) (fun c6 => ?_)
    · have hw := hw.1 c6
      refine xw_iload_n d_Se_having_32 rfl rfl ?_
      exact xw_ireturn rfl d_Se_having_33 hw
    · have hw := hw.2 c6
      refine xw_aload_n d_Se_having_10 rfl rfl ?_
      obtain ⟨f1, a2, hA, hB, hw⟩ := hw
      refine xw_getr fr_Se_9 d_Se_having_11 hA hB ?_
      refine xw_iload_n d_Se_having_14 rfl rfl ?_
      obtain ⟨ar5, x3, hA, hB, hC, hw⟩ := hw
      refine xw_iaload (t := 0) rfl d_Se_having_15 hA hB hC ?_
      refine xw_iload_n d_Se_having_16 rfl rfl ?_
      refine xw_icmp_ne (tgt := 26) d_Se_having_17 (by decide) (fun c4 => ?_) (fun c4 => ?_)
      · have hw := hw.1 c4
        exact p_Se_having_26 ih (l0) (l1) (l2) (l3) h hw
      · have hw := hw.2 c4
        refine xw_iload_n d_Se_having_20 rfl rfl ?_
        refine xw_iconst (v := 1) d_Se_having_21 (by decide) ?_
        refine xw_iload_n d_Se_having_22 rfl rfl ?_
        refine xw_ishl d_Se_having_23 ?_
        refine xw_ior d_Se_having_24 ?_
        refine xs_istore_n (lv' := [some (.ref (l0)), some (.int (l1)), some (.int (l2 ||| ((1 : Int32) <<< (l3 &&& 31)))), some (.int (l3))]) d_Se_having_25 rfl rfl rfl ?_
        exact p_Se_having_26 ih (l0) (l1) (l2 ||| ((1 : Int32) <<< (l3 &&& 31))) (l3) h hw
set_option maxRecDepth 100000 in
def w_Se_having (Q : Option Value → xH → Prop) (this : Nat) (p1 : Int32) (h : xH) : Prop := ∃ n1, w_Se_having_4 Q n1 (this) (p1) (0) (0) h
set_option maxRecDepth 100000 in
set_option maxHeartbeats 4000000 in
theorem x_Se_having {sc : List Int32} {Q : Option Value → xH → Prop} {this : Nat} {p1 : Int32} {h : xH} (hw : w_Se_having Q this p1 h) : xMet sc m_Se_having 0 0 0 [.ref (this), .int (p1)] h Q := by
  unfold w_Se_having at hw
  refine xMet.of2 cw_Se_having rfl rfl ?_
  show xW sc m_Se_having 0 0 0 0 [some (.ref (this)), some (.int (p1)), none, none] [] h Q
  refine xw_iconst (v := 0) d_Se_having_0 (by decide) ?_
  refine xs_istore_n (lv' := [some (.ref (this)), some (.int (p1)), some (.int (0)), none]) d_Se_having_1 rfl rfl rfl ?_
  refine xw_iconst (v := 0) d_Se_having_2 (by decide) ?_
  refine xs_istore_n (lv' := [some (.ref (this)), some (.int (p1)), some (.int (0)), some (.int (0))]) d_Se_having_3 rfl rfl rfl ?_
  obtain ⟨n1, hw⟩ := hw
  exact p_Se_having_4  n1 (this) (p1) (0) (0) h hw
set_option maxRecDepth 100000 in
def w_Ta_open (Q : Option Value → xH → Prop) (this : Nat) (p1 : Int32) (p2 : Int32) (p3 : Int32) (h : xH) : Prop := ∃ f1, h.2 this = some (.inr (6, f1)) ∧ 0 < f1.length ∧ ∀ h2, h2 = xu h this (.inr (6, f1.set 0 (.int (p1)))) → ∃ f3, h2.2 this = some (.inr (6, f3)) ∧ 1 < f3.length ∧ ∀ h4, h4 = xu h2 this (.inr (6, f3.set 1 (.int (p2)))) → ∃ f5, h4.2 this = some (.inr (6, f5)) ∧ 3 < f5.length ∧ ∀ h6, h6 = xu h4 this (.inr (6, f5.set 3 (.int (p3)))) → ∃ f7, h6.2 this = some (.inr (6, f7)) ∧ 2 < f7.length ∧ ∀ h8, h8 = xu h6 this (.inr (6, f7.set 2 (.int (0)))) → ∃ f9, h8.2 this = some (.inr (6, f9)) ∧ 4 < f9.length ∧ ∀ h10, h10 = xu h8 this (.inr (6, f9.set 4 (.int (0)))) → ∃ f11, h10.2 this = some (.inr (6, f11)) ∧ 7 < f11.length ∧ ∀ h12, h12 = xu h10 this (.inr (6, f11.set 7 (.int (0)))) → ∃ f13, h12.2 this = some (.inr (6, f13)) ∧ 8 < f13.length ∧ ∀ h14, h14 = xu h12 this (.inr (6, f13.set 8 (.int (0)))) → ∃ f15, h14.2 this = some (.inr (6, f15)) ∧ 9 < f15.length ∧ ∀ h16, h16 = xu h14 this (.inr (6, f15.set 9 (.int (0)))) → ∃ f17, h16.2 this = some (.inr (6, f17)) ∧ 12 < f17.length ∧ ∀ h18, h18 = xu h16 this (.inr (6, f17.set 12 (.int (0)))) → Q none h18
set_option maxRecDepth 100000 in
set_option maxHeartbeats 4000000 in
theorem x_Ta_open {sc : List Int32} {Q : Option Value → xH → Prop} {this : Nat} {p1 : Int32} {p2 : Int32} {p3 : Int32} {h : xH} (hw : w_Ta_open Q this p1 p2 p3 h) : xMet sc m_Ta_open 0 0 0 [.ref (this), .int (p1), .int (p2), .int (p3)] h Q := by
  unfold w_Ta_open at hw
  refine xMet.of2 cw_Ta_open rfl rfl ?_
  show xW sc m_Ta_open 0 0 0 0 [some (.ref (this)), some (.int (p1)), some (.int (p2)), some (.int (p3))] [] h Q
  refine xw_aload_n d_Ta_open_0 rfl rfl ?_
  refine xw_iload_n d_Ta_open_1 rfl rfl ?_
  obtain ⟨f1, hA, hB, hw⟩ := hw
  refine xw_puti fs_Ta_22 d_Ta_open_2 hA hB ?_
  generalize hh : xu h this (.inr (6, f1.set 0 (.int (p1)))) = h2
  have hw := hw h2 hh.symm
  refine xw_aload_n d_Ta_open_5 rfl rfl ?_
  refine xw_iload_n d_Ta_open_6 rfl rfl ?_
  obtain ⟨f3, hA, hB, hw⟩ := hw
  refine xw_puti fs_Ta_18 d_Ta_open_7 hA hB ?_
  generalize hh : xu h2 this (.inr (6, f3.set 1 (.int (p2)))) = h4
  have hw := hw h4 hh.symm
  refine xw_aload_n d_Ta_open_10 rfl rfl ?_
  refine xw_iload_n d_Ta_open_11 rfl rfl ?_
  obtain ⟨f5, hA, hB, hw⟩ := hw
  refine xw_puti fs_Ta_25 d_Ta_open_12 hA hB ?_
  generalize hh : xu h4 this (.inr (6, f5.set 3 (.int (p3)))) = h6
  have hw := hw h6 hh.symm
  refine xw_aload_n d_Ta_open_15 rfl rfl ?_
  refine xw_iconst (v := 0) d_Ta_open_16 (by decide) ?_
  obtain ⟨f7, hA, hB, hw⟩ := hw
  refine xw_puti fs_Ta_28 d_Ta_open_17 hA hB ?_
  generalize hh : xu h6 this (.inr (6, f7.set 2 (.int (0)))) = h8
  have hw := hw h8 hh.symm
  refine xw_aload_n d_Ta_open_20 rfl rfl ?_
  refine xw_iconst (v := 0) d_Ta_open_21 (by decide) ?_
  obtain ⟨f9, hA, hB, hw⟩ := hw
  refine xw_puti fs_Ta_31 d_Ta_open_22 hA hB ?_
  generalize hh : xu h8 this (.inr (6, f9.set 4 (.int (0)))) = h10
  have hw := hw h10 hh.symm
  refine xw_aload_n d_Ta_open_25 rfl rfl ?_
  refine xw_iconst (v := 0) d_Ta_open_26 (by decide) ?_
  obtain ⟨f11, hA, hB, hw⟩ := hw
  refine xw_puti fs_Ta_34 d_Ta_open_27 hA hB ?_
  generalize hh : xu h10 this (.inr (6, f11.set 7 (.int (0)))) = h12
  have hw := hw h12 hh.symm
  refine xw_aload_n d_Ta_open_30 rfl rfl ?_
  refine xw_iconst (v := 0) d_Ta_open_31 (by decide) ?_
  obtain ⟨f13, hA, hB, hw⟩ := hw
  refine xw_puti fs_Ta_37 d_Ta_open_32 hA hB ?_
  generalize hh : xu h12 this (.inr (6, f13.set 8 (.int (0)))) = h14
  have hw := hw h14 hh.symm
  refine xw_aload_n d_Ta_open_35 rfl rfl ?_
  refine xw_iconst (v := 0) d_Ta_open_36 (by decide) ?_
  obtain ⟨f15, hA, hB, hw⟩ := hw
  refine xw_puti fs_Ta_40 d_Ta_open_37 hA hB ?_
  generalize hh : xu h14 this (.inr (6, f15.set 9 (.int (0)))) = h16
  have hw := hw h16 hh.symm
  refine xw_aload_n d_Ta_open_40 rfl rfl ?_
  refine xw_iconst (v := 0) d_Ta_open_41 (by decide) ?_
  obtain ⟨f17, hA, hB, hw⟩ := hw
  refine xw_puti fs_Ta_43 d_Ta_open_42 hA hB ?_
  generalize hh : xu h16 this (.inr (6, f17.set 12 (.int (0)))) = h18
  have hw := hw h18 hh.symm
  exact xw_return rfl d_Ta_open_45 hw
set_option maxRecDepth 100000 in
def w_Q_openTask (Q : Option Value → xH → Prop) (this : Nat) (p1 : Int32) (p2 : Int32) (p3 : Int32) (h : xH) : Prop := (∃ f2, h.2 this = some (.inr (0, f2))) ∧ w_Q_find (fun v h1 => (v = some .null ∧ Q (some (.null)) h1) ∨ ∃ b3, v = some (.ref b3) ∧ (∃ f5, h1.2 b3 = some (.inr (4, f5))) ∧ w_No_isUp (fun v h4 => ∃ (x6 : Int32), v = some (.int x6) ∧ ((x6 = 0 → Q (some (.null)) h4) ∧ (¬ x6 = 0 → (∃ f8, h4.2 b3 = some (.inr (4, f8))) ∧ w_No_isBusy (fun v h7 => ∃ (x9 : Int32), v = some (.int x9) ∧ ((¬ x9 = 0 → Q (some (.null)) h7) ∧ (x9 = 0 → ∃ (f10 : List Value) (a11 : Nat), h7.2 b3 = some (.inr (4, f10)) ∧ f10[8]? = some (.ref a11) ∧ (∃ f13, h7.2 a11 = some (.inr (5, f13))) ∧ w_Se_having (fun v h12 => ∃ (x14 : Int32), v = some (.int x14) ∧ ((¬ x14 = 0 → ∃ (f15 : List Value) (x16 : Int32), h12.2 this = some (.inr (0, f15)) ∧ f15[4]? = some (.int x16) ∧ ∃ f17, h12.2 this = some (.inr (0, f17)) ∧ 4 < f17.length ∧ ∀ h18, h18 = xu h12 this (.inr (0, f17.set 4 (.int (x16 + 1)))) → ∃ (f19 : List Value) (a20 : Nat), h18.2 b3 = some (.inr (4, f19)) ∧ f19[10]? = some (.ref a20) ∧ ∃ (f21 : List Value) (x22 : Int32), h18.2 this = some (.inr (0, f21)) ∧ f21[4]? = some (.int x22) ∧ (∃ f24, h18.2 a20 = some (.inr (6, f24))) ∧ w_Ta_open (fun v h23 => v = none ∧ Q (some (.ref (b3))) h23) a20 x22 p2 p3 h18) ∧ (x14 = 0 → Q (some (.null)) h12))) a11 1 h7))) b3 h4))) b3 h1) this p1 h
set_option maxRecDepth 100000 in
set_option maxHeartbeats 4000000 in
theorem x_Q_openTask {sc : List Int32} {Q : Option Value → xH → Prop} {this : Nat} {p1 : Int32} {p2 : Int32} {p3 : Int32} {h : xH} (hw : w_Q_openTask Q this p1 p2 p3 h) : xMet sc m_Q_openTask 1 0 0 [.ref (this), .int (p1), .int (p2), .int (p3)] h Q := by
  unfold w_Q_openTask at hw
  refine xMet.of2 cw_Q_openTask rfl rfl ?_
  show xW sc m_Q_openTask 1 0 0 0 [some (.ref (this)), some (.int (p1)), some (.int (p2)), some (.int (p3)), none] [] h Q
  refine xw_aload_n d_Q_openTask_0 rfl rfl ?_
  refine xw_iload_n d_Q_openTask_1 rfl rfl ?_
  obtain ⟨⟨f2, hA⟩, hw⟩ := hw
  refine xc_V1r lk_Q_93 in_Q_find d_Q_openTask_2 (x_Q_find hw) rfl hA rfl ?_ ?_
  · intro h1 hw
    refine xs_astoreN (lv' := [some (.ref (this)), some (.int (p1)), some (.int (p2)), some (.int (p3)), some (.null)]) d_Q_openTask_5 rfl rfl ?_
    refine xw_aloadN d_Q_openTask_7 rfl ?_
    refine xw_ifnullN (tgt := 40) d_Q_openTask_9 (by decide) ?_
    refine xw_null d_Q_openTask_40 ?_
    exact xw_areturn rfl (Or.inl ⟨_, rfl⟩) (Or.inl rfl) d_Q_openTask_41 hw
  · intro b3 h1 hw
    refine xs_astore (lv' := [some (.ref (this)), some (.int (p1)), some (.int (p2)), some (.int (p3)), some (.ref (b3))]) d_Q_openTask_5 rfl rfl ?_
    refine xw_aload d_Q_openTask_7 rfl ?_
    refine xw_ifnull d_Q_openTask_9 ?_
    refine xw_aload d_Q_openTask_12 rfl ?_
    obtain ⟨⟨f5, hA⟩, hw⟩ := hw
    refine xc_V0i lk_Q_129 in_No_isUp d_Q_openTask_14 (x_No_isUp hw) rfl hA rfl ?_
    intro x6 h4 hw
    refine xw_if_eq (tgt := 40) d_Q_openTask_17 (by decide) (fun c27 => ?_) (fun c27 => ?_)
    · have hw := hw.1 c27
      refine xw_null d_Q_openTask_40 ?_
      exact xw_areturn rfl (Or.inl ⟨_, rfl⟩) (Or.inl rfl) d_Q_openTask_41 hw
    · have hw := hw.2 c27
      refine xw_aload d_Q_openTask_20 rfl ?_
      obtain ⟨⟨f8, hA⟩, hw⟩ := hw
      refine xc_V0i lk_Q_119 in_No_isBusy d_Q_openTask_22 (x_No_isBusy hw) rfl hA rfl ?_
      intro x9 h7 hw
      refine xw_if_ne (tgt := 40) d_Q_openTask_25 (by decide) (fun c26 => ?_) (fun c26 => ?_)
      · have hw := hw.1 c26
        refine xw_null d_Q_openTask_40 ?_
        exact xw_areturn rfl (Or.inl ⟨_, rfl⟩) (Or.inl rfl) d_Q_openTask_41 hw
      · have hw := hw.2 c26
        refine xw_aload d_Q_openTask_28 rfl ?_
        obtain ⟨f10, a11, hA, hB, hw⟩ := hw
        refine xw_getr fr_Q_55 d_Q_openTask_30 hA hB ?_
        refine xw_iconst (v := 1) d_Q_openTask_33 (by decide) ?_
        obtain ⟨⟨f13, hA⟩, hw⟩ := hw
        refine xc_V1i lk_Q_101 in_Se_having d_Q_openTask_34 (x_Se_having hw) rfl hA rfl ?_
        intro x14 h12 hw
        refine xw_if_ne (tgt := 42) d_Q_openTask_37 (by decide) (fun c25 => ?_) (fun c25 => ?_)
        · have hw := hw.1 c25
          refine xw_aload_n d_Q_openTask_42 rfl rfl ?_
          refine xw_dup d_Q_openTask_43 rfl ?_
          obtain ⟨f15, x16, hA, hB, hw⟩ := hw
          refine xw_getr fr_Q_32 d_Q_openTask_44 hA hB ?_
          refine xw_iconst (v := 1) d_Q_openTask_47 (by decide) ?_
          refine xw_iadd d_Q_openTask_48 ?_
          obtain ⟨f17, hA, hB, hw⟩ := hw
          refine xw_puti fs_Q_32 d_Q_openTask_49 hA hB ?_
          generalize hh : xu h12 this (.inr (0, f17.set 4 (.int (x16 + 1)))) = h18
          have hw := hw h18 hh.symm
          refine xw_aload d_Q_openTask_52 rfl ?_
          obtain ⟨f19, a20, hA, hB, hw⟩ := hw
          refine xw_getr fr_Q_84 d_Q_openTask_54 hA hB ?_
          refine xw_aload_n d_Q_openTask_57 rfl rfl ?_
          obtain ⟨f21, x22, hA, hB, hw⟩ := hw
          refine xw_getr fr_Q_32 d_Q_openTask_58 hA hB ?_
          refine xw_iload_n d_Q_openTask_61 rfl rfl ?_
          refine xw_iload_n d_Q_openTask_62 rfl rfl ?_
          obtain ⟨⟨f24, hA⟩, hw⟩ := hw
          refine xc_V3n lk_Q_302 in_Ta_open d_Q_openTask_63 (x_Ta_open hw) rfl hA rfl ?_
          intro h23 hw
          refine xw_aload d_Q_openTask_66 rfl ?_
          exact xw_areturn rfl (Or.inl ⟨_, rfl⟩) (Or.inr ⟨_, rfl⟩) d_Q_openTask_68 hw
        · have hw := hw.2 c25
          refine xw_null d_Q_openTask_40 ?_
          exact xw_areturn rfl (Or.inl ⟨_, rfl⟩) (Or.inl rfl) d_Q_openTask_41 hw
set_option maxRecDepth 100000 in
def w_Q_started (Q : Option Value → xH → Prop) (p1 : Nat) (h : xH) : Prop := (∃ f2, h.2 p1 = some (.inr (4, f2))) ∧ w_No_isUp (fun v h1 => ∃ (x3 : Int32), v = some (.int x3) ∧ ((x3 = 0 → Q (some (.int (-9))) h1) ∧ (¬ x3 = 0 → ∃ (f4 : List Value) (a5 : Nat), h1.2 p1 = some (.inr (4, f4)) ∧ f4[10]? = some (.ref a5) ∧ ∃ (f6 : List Value) (x7 : Int32), h1.2 a5 = some (.inr (6, f6)) ∧ f6[0]? = some (.int x7) ∧ Q (some (.int x7)) h1))) p1 h
set_option maxRecDepth 100000 in
set_option maxHeartbeats 4000000 in
theorem x_Q_started {sc : List Int32} {Q : Option Value → xH → Prop} {p1 : Nat} {h : xH} (hw : w_Q_started Q p1 h) : xMet sc m_Q_started 1 0 0 [.ref (p1)] h Q := by
  unfold w_Q_started at hw
  refine xMet.of2 cw_Q_started rfl rfl ?_
  show xW sc m_Q_started 1 0 0 0 [some (.ref (p1))] [] h Q
  refine xw_aload_n d_Q_started_0 rfl rfl ?_
  obtain ⟨⟨f2, hA⟩, hw⟩ := hw
  refine xc_V0i lk_Q_129 in_No_isUp d_Q_started_1 (x_No_isUp hw) rfl hA rfl ?_
  intro x3 h1 hw
  refine xw_if_eq (tgt := 17) d_Q_started_4 (by decide) (fun c8 => ?_) (fun c8 => ?_)
  · have hw := hw.1 c8
    refine xw_bipush (v := -9) d_Q_started_17 (by decide) ?_
    exact xw_ireturn rfl d_Q_started_19 hw
  · have hw := hw.2 c8
    refine xw_aload_n d_Q_started_7 rfl rfl ?_
    obtain ⟨f4, a5, hA, hB, hw⟩ := hw
    refine xw_getr fr_Q_84 d_Q_started_8 hA hB ?_
    obtain ⟨f6, x7, hA, hB, hw⟩ := hw
    refine xw_getr fr_Q_249 d_Q_started_11 hA hB ?_
    refine xw_goto (tgt := 19) d_Q_started_14 (by decide) ?_
    exact xw_ireturn rfl d_Q_started_19 hw
set_option maxRecDepth 100000 in
def w_Q_requestOf_13 (Q : Option Value → xH → Prop) (l0 : Nat) (s0 : Int32) (h : xH) : Prop := ∃ (f1 : List Value) (x2 : Int32), h.2 l0 = some (.inr (6, f1)) ∧ f1[1]? = some (.int x2) ∧ ((x2 = 3 → ((s0 = 0 → Q (some (.int 7)) h) ∧ (¬ s0 = 0 → Q (some (.int 5)) h))) ∧ (x2 = 4 → ((s0 = 0 → Q (some (.int 12)) h) ∧ (¬ s0 = 0 → Q (some (.int 10)) h))) ∧ (¬ x2 = 3 → ¬ x2 = 4 → ((s0 = 0 → Q (some (.int 3)) h) ∧ (¬ s0 = 0 → Q (some (.int 1)) h))))
set_option maxRecDepth 100000 in
set_option maxHeartbeats 4000000 in
theorem p_Q_requestOf_13 {sc : List Int32} {Q : Option Value → xH → Prop} (l0 : Nat) (s0 : Int32) (h : xH) (hw : w_Q_requestOf_13 Q l0 s0 h) : xW sc m_Q_requestOf 0 0 0 13 [some (.ref (l0)), none] [.int (s0)] h Q := by
  unfold w_Q_requestOf_13 at hw
  refine xs_istore_n (lv' := [some (.ref (l0)), some (.int (s0))]) d_Q_requestOf_13 rfl rfl rfl ?_
  refine xw_aload_n d_Q_requestOf_14 rfl rfl ?_
  obtain ⟨f1, x2, hA, hB, hw⟩ := hw
  refine xw_getr fr_Q_123 d_Q_requestOf_15 hA hB ?_
  by_cases c5 : x2 = 3
  · have hw := hw.1 c5
    rw [c5]
    refine xw_lookup (tgt := 44) (off := 26) d_Q_requestOf_18 (by decide +kernel) (by decide +kernel) (by decide) ?_
    refine xw_iload_n d_Q_requestOf_44 rfl rfl ?_
    refine xw_if_eq (tgt := 52) d_Q_requestOf_45 (by decide) (fun c4 => ?_) (fun c4 => ?_)
    · have hw := hw.1 c4
      refine xw_bipush (v := 7) d_Q_requestOf_52 (by decide) ?_
      exact xw_ireturn rfl d_Q_requestOf_54 hw
    · have hw := hw.2 c4
      refine xw_iconst (v := 5) d_Q_requestOf_48 (by decide) ?_
      refine xw_goto (tgt := 54) d_Q_requestOf_49 (by decide) ?_
      exact xw_ireturn rfl d_Q_requestOf_54 hw
  by_cases c7 : x2 = 4
  · have hw := hw.2.1 c7
    rw [c7]
    refine xw_lookup (tgt := 55) (off := 37) d_Q_requestOf_18 (by decide +kernel) (by decide +kernel) (by decide) ?_
    refine xw_iload_n d_Q_requestOf_55 rfl rfl ?_
    refine xw_if_eq (tgt := 64) d_Q_requestOf_56 (by decide) (fun c6 => ?_) (fun c6 => ?_)
    · have hw := hw.1 c6
      refine xw_bipush (v := 12) d_Q_requestOf_64 (by decide) ?_
      exact xw_ireturn rfl d_Q_requestOf_66 hw
    · have hw := hw.2 c6
      refine xw_bipush (v := 10) d_Q_requestOf_59 (by decide) ?_
      refine xw_goto (tgt := 66) d_Q_requestOf_61 (by decide) ?_
      exact xw_ireturn rfl d_Q_requestOf_66 hw
  have hw := hw.2.2 c5 c7
  refine xw_lookup (tgt := 67) (off := 49) d_Q_requestOf_18 (by decide +kernel) (by show Op.lookupswitch.offset [(3, 26), (4, 37)] _ _ = _; rw [lv_osw c5 (by decide), lv_osw c7 (by decide)]; rfl) (by decide) ?_
  refine xw_iload_n d_Q_requestOf_67 rfl rfl ?_
  refine xw_if_eq (tgt := 75) d_Q_requestOf_68 (by decide) (fun c8 => ?_) (fun c8 => ?_)
  · have hw := hw.1 c8
    refine xw_iconst (v := 3) d_Q_requestOf_75 (by decide) ?_
    exact xw_ireturn rfl d_Q_requestOf_76 hw
  · have hw := hw.2 c8
    refine xw_iconst (v := 1) d_Q_requestOf_71 (by decide) ?_
    refine xw_goto (tgt := 76) d_Q_requestOf_72 (by decide) ?_
    exact xw_ireturn rfl d_Q_requestOf_76 hw
set_option maxRecDepth 100000 in
def w_Q_requestOf (Q : Option Value → xH → Prop) (p1 : Nat) (h : xH) : Prop := ∃ (f1 : List Value) (x2 : Int32), h.2 p1 = some (.inr (6, f1)) ∧ f1[2]? = some (.int x2) ∧ ((¬ x2 = 1 → w_Q_requestOf_13 Q (p1) (0) h) ∧ (x2 = 1 → w_Q_requestOf_13 Q (p1) (1) h))
set_option maxRecDepth 100000 in
set_option maxHeartbeats 4000000 in
theorem x_Q_requestOf {sc : List Int32} {Q : Option Value → xH → Prop} {p1 : Nat} {h : xH} (hw : w_Q_requestOf Q p1 h) : xMet sc m_Q_requestOf 0 0 0 [.ref (p1)] h Q := by
  unfold w_Q_requestOf at hw
  refine xMet.of2 cw_Q_requestOf rfl rfl ?_
  show xW sc m_Q_requestOf 0 0 0 0 [some (.ref (p1)), none] [] h Q
  refine xw_aload_n d_Q_requestOf_0 rfl rfl ?_
  obtain ⟨f1, x2, hA, hB, hw⟩ := hw
  refine xw_getr fr_Q_252 d_Q_requestOf_1 hA hB ?_
  refine xw_iconst (v := 1) d_Q_requestOf_4 (by decide) ?_
  refine xw_icmp_ne (tgt := 12) d_Q_requestOf_5 (by decide) (fun c3 => ?_) (fun c3 => ?_)
  · have hw := hw.1 c3
    refine xw_iconst (v := 0) d_Q_requestOf_12 (by decide) ?_
    exact p_Q_requestOf_13  (p1) (0) h hw
  · have hw := hw.2 c3
    refine xw_iconst (v := 1) d_Q_requestOf_8 (by decide) ?_
    refine xw_goto (tgt := 13) d_Q_requestOf_9 (by decide) ?_
    exact p_Q_requestOf_13  (p1) (1) h hw
set_option maxRecDepth 100000 in
def w_Q_concerned (Q : Option Value → xH → Prop) (p1 : Nat) (h : xH) : Prop := ∃ (f1 : List Value) (a2 : Nat), h.2 p1 = some (.inr (4, f1)) ∧ f1[10]? = some (.ref a2) ∧ ∃ (f3 : List Value) (x4 : Int32), h.2 a2 = some (.inr (6, f3)) ∧ f3[1]? = some (.int x4) ∧ ((x4 = 3 → ∃ (f6 : List Value) (x7 : Int32), h.2 a2 = some (.inr (6, f6)) ∧ f6[3]? = some (.int x7) ∧ Q (some (.int ((1 : Int32) <<< ((x7 - 1) &&& 31)))) h) ∧ (x4 = 4 → ∃ (f9 : List Value) (x10 : Int32), h.2 a2 = some (.inr (6, f9)) ∧ f9[2]? = some (.int x10) ∧ ((¬ x10 = 1 → ∃ (f11 : List Value) (x12 : Int32), h.2 a2 = some (.inr (6, f11)) ∧ f11[3]? = some (.int x12) ∧ Q (some (.int ((1 : Int32) <<< (x12 &&& 31)))) h) ∧ (x10 = 1 → ∃ (f13 : List Value) (x14 : Int32), h.2 a2 = some (.inr (6, f13)) ∧ f13[12]? = some (.int x14) ∧ Q (some (.int x14)) h))) ∧ (¬ x4 = 3 → ¬ x4 = 4 → ∃ (f17 : List Value) (a18 : Nat), h.2 p1 = some (.inr (4, f17)) ∧ f17[8]? = some (.ref a18) ∧ (∃ f20, h.2 a18 = some (.inr (5, f20))) ∧ w_Se_having (fun v h19 => ∃ (x21 : Int32), v = some (.int x21) ∧ Q (some (.int x21)) h19) a18 1 h))
set_option maxRecDepth 100000 in
set_option maxHeartbeats 4000000 in
theorem x_Q_concerned {sc : List Int32} {Q : Option Value → xH → Prop} {p1 : Nat} {h : xH} (hw : w_Q_concerned Q p1 h) : xMet sc m_Q_concerned 1 0 0 [.ref (p1)] h Q := by
  unfold w_Q_concerned at hw
  refine xMet.of2 cw_Q_concerned rfl rfl ?_
  show xW sc m_Q_concerned 1 0 0 0 [some (.ref (p1)), none] [] h Q
  refine xw_aload_n d_Q_concerned_0 rfl rfl ?_
  obtain ⟨f1, a2, hA, hB, hw⟩ := hw
  refine xw_getr fr_Q_84 d_Q_concerned_1 hA hB ?_
  refine xs_astore_n (lv' := [some (.ref (p1)), some (.ref (a2))]) d_Q_concerned_4 rfl rfl rfl ?_
  refine xw_aload_n d_Q_concerned_5 rfl rfl ?_
  obtain ⟨f3, x4, hA, hB, hw⟩ := hw
  refine xw_getr fr_Q_123 d_Q_concerned_6 hA hB ?_
  by_cases c8 : x4 = 3
  · have hw := hw.1 c8
    rw [c8]
    refine xw_lookup (tgt := 36) (off := 27) d_Q_concerned_9 (by decide +kernel) (by decide +kernel) (by decide) ?_
    refine xw_iconst (v := 1) d_Q_concerned_36 (by decide) ?_
    refine xw_aload_n d_Q_concerned_37 rfl rfl ?_
    obtain ⟨f6, x7, hA, hB, hw⟩ := hw
    refine xw_getr fr_Q_255 d_Q_concerned_38 hA hB ?_
    refine xw_iconst (v := 1) d_Q_concerned_41 (by decide) ?_
    refine xw_isub d_Q_concerned_42 ?_
    refine xw_ishl d_Q_concerned_43 ?_
    exact xw_ireturn rfl d_Q_concerned_44 hw
  by_cases c16 : x4 = 4
  · have hw := hw.2.1 c16
    rw [c16]
    refine xw_lookup (tgt := 45) (off := 36) d_Q_concerned_9 (by decide +kernel) (by decide +kernel) (by decide) ?_
    refine xw_aload_n d_Q_concerned_45 rfl rfl ?_
    obtain ⟨f9, x10, hA, hB, hw⟩ := hw
    refine xw_getr fr_Q_252 d_Q_concerned_46 hA hB ?_
    refine xw_iconst (v := 1) d_Q_concerned_49 (by decide) ?_
    refine xw_icmp_ne (tgt := 60) d_Q_concerned_50 (by decide) (fun c15 => ?_) (fun c15 => ?_)
    · have hw := hw.1 c15
      refine xw_iconst (v := 1) d_Q_concerned_60 (by decide) ?_
      refine xw_aload_n d_Q_concerned_61 rfl rfl ?_
      obtain ⟨f11, x12, hA, hB, hw⟩ := hw
      refine xw_getr fr_Q_255 d_Q_concerned_62 hA hB ?_
      refine xw_ishl d_Q_concerned_65 ?_
      exact xw_ireturn rfl d_Q_concerned_66 hw
    · have hw := hw.2 c15
      refine xw_aload_n d_Q_concerned_53 rfl rfl ?_
      obtain ⟨f13, x14, hA, hB, hw⟩ := hw
      refine xw_getr fr_Q_116 d_Q_concerned_54 hA hB ?_
      refine xw_goto (tgt := 66) d_Q_concerned_57 (by decide) ?_
      exact xw_ireturn rfl d_Q_concerned_66 hw
  have hw := hw.2.2 c8 c16
  refine xw_lookup (tgt := 67) (off := 58) d_Q_concerned_9 (by decide +kernel) (by show Op.lookupswitch.offset [(3, 27), (4, 36)] _ _ = _; rw [lv_osw c8 (by decide), lv_osw c16 (by decide)]; rfl) (by decide) ?_
  refine xw_aload_n d_Q_concerned_67 rfl rfl ?_
  obtain ⟨f17, a18, hA, hB, hw⟩ := hw
  refine xw_getr fr_Q_55 d_Q_concerned_68 hA hB ?_
  refine xw_iconst (v := 1) d_Q_concerned_71 (by decide) ?_
  obtain ⟨⟨f20, hA⟩, hw⟩ := hw
  refine xc_V1i lk_Q_101 in_Se_having d_Q_concerned_72 (x_Se_having hw) rfl hA rfl ?_
  intro x21 h19 hw
  exact xw_ireturn rfl d_Q_concerned_75 hw
set_option maxRecDepth 100000 in
def w_Q_needed (Q : Option Value → xH → Prop) (p1 : Nat) (p2 : Int32) (h : xH) : Prop := ∃ (f1 : List Value) (x2 : Int32), h.2 p1 = some (.inr (6, f1)) ∧ f1[2]? = some (.int x2) ∧ ((¬ x2 = 2 → w_Q_readersOf (fun v h3 => ∃ (x4 : Int32), v = some (.int x4) ∧ ∃ (f5 : List Value) (x6 : Int32), h3.2 p1 = some (.inr (6, f5)) ∧ f5[1]? = some (.int x6) ∧ ((¬ x6 = 4 → Q (some (.int x4)) h3) ∧ (x6 = 4 → w_Q_writersOf (fun v h7 => ∃ (x8 : Int32), v = some (.int x8) ∧ Q (some (.int (if x4 < x8 then x8 else x4))) h7) p2 h3))) p2 h) ∧ (x2 = 2 → w_Q_writersOf (fun v h10 => ∃ (x11 : Int32), v = some (.int x11) ∧ Q (some (.int x11)) h10) p2 h))
set_option maxRecDepth 100000 in
set_option maxHeartbeats 4000000 in
theorem x_Q_needed {sc : List Int32} {Q : Option Value → xH → Prop} {p1 : Nat} {p2 : Int32} {h : xH} (hw : w_Q_needed Q p1 p2 h) : xMet sc m_Q_needed 1 0 0 [.ref (p1), .int (p2)] h Q := by
  unfold w_Q_needed at hw
  refine xMet.of2 cw_Q_needed rfl rfl ?_
  show xW sc m_Q_needed 1 0 0 0 [some (.ref (p1)), some (.int (p2)), none] [] h Q
  refine xw_aload_n d_Q_needed_0 rfl rfl ?_
  obtain ⟨f1, x2, hA, hB, hw⟩ := hw
  refine xw_getr fr_Q_252 d_Q_needed_1 hA hB ?_
  refine xw_iconst (v := 2) d_Q_needed_4 (by decide) ?_
  refine xw_icmp_ne (tgt := 13) d_Q_needed_5 (by decide) (fun c12 => ?_) (fun c12 => ?_)
  · have hw := hw.1 c12
    refine xw_iload_n d_Q_needed_13 rfl rfl ?_
    refine xc_S1i lk_Q_352 st_Q_readersOf d_Q_needed_14 (x_Q_readersOf hw) rfl rfl ?_
    intro x4 h3 hw
    refine xs_istore_n (lv' := [some (.ref (p1)), some (.int (p2)), some (.int (x4))]) d_Q_needed_17 rfl rfl rfl ?_
    refine xw_aload_n d_Q_needed_18 rfl rfl ?_
    obtain ⟨f5, x6, hA, hB, hw⟩ := hw
    refine xw_getr fr_Q_123 d_Q_needed_19 hA hB ?_
    refine xw_iconst (v := 4) d_Q_needed_22 (by decide) ?_
    refine xw_icmp_ne (tgt := 37) d_Q_needed_23 (by decide) (fun c9 => ?_) (fun c9 => ?_)
    · have hw := hw.1 c9
      refine xw_iload_n d_Q_needed_37 rfl rfl ?_
      exact xw_ireturn rfl d_Q_needed_38 hw
    · have hw := hw.2 c9
      refine xw_iload_n d_Q_needed_26 rfl rfl ?_
      refine xw_iload_n d_Q_needed_27 rfl rfl ?_
      refine xc_S1i lk_Q_349 st_Q_writersOf d_Q_needed_28 (x_Q_writersOf hw) rfl rfl ?_
      intro x8 h7 hw
      refine xw_max mx_Q_40 d_Q_needed_31 (Nat.le_of_ble_eq_true rfl) (Nat.le_of_ble_eq_true rfl) ?_
      refine xw_goto (tgt := 38) d_Q_needed_34 (by decide) ?_
      exact xw_ireturn rfl d_Q_needed_38 hw
  · have hw := hw.2 c12
    refine xw_iload_n d_Q_needed_8 rfl rfl ?_
    refine xc_S1i lk_Q_349 st_Q_writersOf d_Q_needed_9 (x_Q_writersOf hw) rfl rfl ?_
    intro x11 h10 hw
    exact xw_ireturn rfl d_Q_needed_12 hw
set_option maxRecDepth 100000 in
def w_Co_init (Q : Option Value → xH → Prop) (this : Nat) (h : xH) (kc : Nat) (ks : Nat) : Prop := ∃ k3 k4, kc = k3 + 1 ∧ ks = k4 + 4 ∧ ∀ b2 h1, b2 = h.1 + 1 → h1 = xn h (.inl (0, .inl (List.replicate 4 0))) → ∃ f5, h1.2 this = some (.inr (1, f5)) ∧ 0 < f5.length ∧ ∀ h6, h6 = xu h1 this (.inr (1, f5.set 0 (.ref (b2)))) → ∃ k9 k10, k3 = k9 + 1 ∧ k4 = k10 + 4 ∧ ∀ b8 h7, b8 = h6.1 + 1 → h7 = xn h6 (.inl (0, .inl (List.replicate 4 0))) → ∃ f11, h7.2 this = some (.inr (1, f11)) ∧ 1 < f11.length ∧ ∀ h12, h12 = xu h7 this (.inr (1, f11.set 1 (.ref (b8)))) → ∃ k15 k16, k9 = k15 + 1 ∧ k10 = k16 + 4 ∧ ∀ b14 h13, b14 = h12.1 + 1 → h13 = xn h12 (.inl (0, .inl (List.replicate 4 0))) → ∃ f17, h13.2 this = some (.inr (1, f17)) ∧ 2 < f17.length ∧ ∀ h18, h18 = xu h13 this (.inr (1, f17.set 2 (.ref (b14)))) → Q none h18
set_option maxRecDepth 100000 in
set_option maxHeartbeats 4000000 in
theorem x_Co_init {sc : List Int32} {Q : Option Value → xH → Prop} {this : Nat} {h : xH} {kc : Nat} {ks : Nat} (hw : w_Co_init Q this h kc ks) : xMet sc m_Co_init 1 kc ks [.ref (this)] h Q := by
  unfold w_Co_init at hw
  refine xMet.of2 cw_Co_init rfl rfl ?_
  show xW sc m_Co_init 1 kc ks 0 [some (.ref (this))] [] h Q
  refine xw_aload_n d_Co_init_0 rfl rfl ?_
  refine xw_obj oi_Co_3 d_Co_init_1 (Nat.le_of_ble_eq_true rfl) (Nat.le_of_ble_eq_true rfl) ?_
  refine xw_aload_n d_Co_init_4 rfl rfl ?_
  refine xw_iconst (v := 4) d_Co_init_5 (by decide) ?_
  obtain ⟨k3, k4, hA, hB, hw⟩ := hw
  rw [hA, hB]
  refine xw_newarray (t := 0) (N := 4) rfl aI d_Co_init_6 (by decide) (by decide) (by decide) ?_
  generalize hb : h.1 + 1 = b2
  generalize hh : xn h (.inl (0, .inl (List.replicate 4 0))) = h1
  have hw := hw b2 h1 hb.symm hh.symm
  obtain ⟨f5, hA, hB, hw⟩ := hw
  refine xw_putrF fs_Co_9 rfl (Or.inr ⟨_, rfl⟩) d_Co_init_8 hA hB ?_
  generalize hh : xu h1 this (.inr (1, f5.set 0 (.ref (b2)))) = h6
  have hw := hw h6 hh.symm
  refine xw_aload_n d_Co_init_11 rfl rfl ?_
  refine xw_iconst (v := 4) d_Co_init_12 (by decide) ?_
  obtain ⟨k9, k10, hA, hB, hw⟩ := hw
  rw [hA, hB]
  refine xw_newarray (t := 0) (N := 4) rfl aI d_Co_init_13 (by decide) (by decide) (by decide) ?_
  generalize hb : h6.1 + 1 = b8
  generalize hh : xn h6 (.inl (0, .inl (List.replicate 4 0))) = h7
  have hw := hw b8 h7 hb.symm hh.symm
  obtain ⟨f11, hA, hB, hw⟩ := hw
  refine xw_putrF fs_Co_15 rfl (Or.inr ⟨_, rfl⟩) d_Co_init_15 hA hB ?_
  generalize hh : xu h7 this (.inr (1, f11.set 1 (.ref (b8)))) = h12
  have hw := hw h12 hh.symm
  refine xw_aload_n d_Co_init_18 rfl rfl ?_
  refine xw_iconst (v := 4) d_Co_init_19 (by decide) ?_
  obtain ⟨k15, k16, hA, hB, hw⟩ := hw
  rw [hA, hB]
  refine xw_newarray (t := 0) (N := 4) rfl aI d_Co_init_20 (by decide) (by decide) (by decide) ?_
  generalize hb : h12.1 + 1 = b14
  generalize hh : xn h12 (.inl (0, .inl (List.replicate 4 0))) = h13
  have hw := hw b14 h13 hb.symm hh.symm
  obtain ⟨f17, hA, hB, hw⟩ := hw
  refine xw_putrF fs_Co_18 rfl (Or.inr ⟨_, rfl⟩) d_Co_init_22 hA hB ?_
  generalize hh : xu h13 this (.inr (1, f17.set 2 (.ref (b14)))) = h18
  have hw := hw h18 hh.symm
  exact xw_return rfl d_Co_init_25 hw
set_option maxRecDepth 100000 in
def w_Co_numberOf (Q : Option Value → xH → Prop) (this : Nat) (p1 : Int32) (h : xH) : Prop := w_Q_isObject (fun v h1 => ∃ (x2 : Int32), v = some (.int x2) ∧ ((x2 = 0 → Q (some (.int 0)) h1) ∧ (¬ x2 = 0 → ∃ (f3 : List Value) (a4 : Nat), h1.2 this = some (.inr (1, f3)) ∧ f3[0]? = some (.ref a4) ∧ ∃ (ar6 : List Int32) (x5 : Int32), h1.2 a4 = some (.inl (0, .inl ar6)) ∧ 0 ≤ p1 ∧ ar6[p1.toNatClampNeg]? = some x5 ∧ Q (some (.int x5)) h1))) p1 h
set_option maxRecDepth 100000 in
set_option maxHeartbeats 4000000 in
theorem x_Co_numberOf {sc : List Int32} {Q : Option Value → xH → Prop} {this : Nat} {p1 : Int32} {h : xH} (hw : w_Co_numberOf Q this p1 h) : xMet sc m_Co_numberOf 1 0 0 [.ref (this), .int (p1)] h Q := by
  unfold w_Co_numberOf at hw
  refine xMet.of2 cw_Co_numberOf rfl rfl ?_
  show xW sc m_Co_numberOf 1 0 0 0 [some (.ref (this)), some (.int (p1))] [] h Q
  refine xw_iload_n d_Co_numberOf_0 rfl rfl ?_
  refine xc_SN1i ln_Co_21 st_Q_isObject d_Co_numberOf_1 (x_Q_isObject hw) rfl rfl ?_
  intro x2 h1 hw
  refine xw_if_eq (tgt := 16) d_Co_numberOf_4 (by decide) (fun c7 => ?_) (fun c7 => ?_)
  · have hw := hw.1 c7
    refine xw_iconst (v := 0) d_Co_numberOf_16 (by decide) ?_
    exact xw_ireturn rfl d_Co_numberOf_17 hw
  · have hw := hw.2 c7
    refine xw_aload_n d_Co_numberOf_7 rfl rfl ?_
    obtain ⟨f3, a4, hA, hB, hw⟩ := hw
    refine xw_getr fr_Co_9 d_Co_numberOf_8 hA hB ?_
    refine xw_iload_n d_Co_numberOf_11 rfl rfl ?_
    obtain ⟨ar6, x5, hA, hB, hC, hw⟩ := hw
    refine xw_iaload (t := 0) rfl d_Co_numberOf_12 hA hB hC ?_
    refine xw_goto (tgt := 17) d_Co_numberOf_13 (by decide) ?_
    exact xw_ireturn rfl d_Co_numberOf_17 hw
set_option maxRecDepth 100000 in
def w_Co_writerOf (Q : Option Value → xH → Prop) (this : Nat) (p1 : Int32) (h : xH) : Prop := w_Q_isObject (fun v h1 => ∃ (x2 : Int32), v = some (.int x2) ∧ ((x2 = 0 → Q (some (.int 0)) h1) ∧ (¬ x2 = 0 → ∃ (f3 : List Value) (a4 : Nat), h1.2 this = some (.inr (1, f3)) ∧ f3[1]? = some (.ref a4) ∧ ∃ (ar6 : List Int32) (x5 : Int32), h1.2 a4 = some (.inl (0, .inl ar6)) ∧ 0 ≤ p1 ∧ ar6[p1.toNatClampNeg]? = some x5 ∧ Q (some (.int x5)) h1))) p1 h
set_option maxRecDepth 100000 in
set_option maxHeartbeats 4000000 in
theorem x_Co_writerOf {sc : List Int32} {Q : Option Value → xH → Prop} {this : Nat} {p1 : Int32} {h : xH} (hw : w_Co_writerOf Q this p1 h) : xMet sc m_Co_writerOf 1 0 0 [.ref (this), .int (p1)] h Q := by
  unfold w_Co_writerOf at hw
  refine xMet.of2 cw_Co_writerOf rfl rfl ?_
  show xW sc m_Co_writerOf 1 0 0 0 [some (.ref (this)), some (.int (p1))] [] h Q
  refine xw_iload_n d_Co_writerOf_0 rfl rfl ?_
  refine xc_SN1i ln_Co_21 st_Q_isObject d_Co_writerOf_1 (x_Q_isObject hw) rfl rfl ?_
  intro x2 h1 hw
  refine xw_if_eq (tgt := 16) d_Co_writerOf_4 (by decide) (fun c7 => ?_) (fun c7 => ?_)
  · have hw := hw.1 c7
    refine xw_iconst (v := 0) d_Co_writerOf_16 (by decide) ?_
    exact xw_ireturn rfl d_Co_writerOf_17 hw
  · have hw := hw.2 c7
    refine xw_aload_n d_Co_writerOf_7 rfl rfl ?_
    obtain ⟨f3, a4, hA, hB, hw⟩ := hw
    refine xw_getr fr_Co_15 d_Co_writerOf_8 hA hB ?_
    refine xw_iload_n d_Co_writerOf_11 rfl rfl ?_
    obtain ⟨ar6, x5, hA, hB, hC, hw⟩ := hw
    refine xw_iaload (t := 0) rfl d_Co_writerOf_12 hA hB hC ?_
    refine xw_goto (tgt := 17) d_Co_writerOf_13 (by decide) ?_
    exact xw_ireturn rfl d_Co_writerOf_17 hw
set_option maxRecDepth 100000 in
def w_Co_valueOf (Q : Option Value → xH → Prop) (this : Nat) (p1 : Int32) (h : xH) : Prop := w_Q_isObject (fun v h1 => ∃ (x2 : Int32), v = some (.int x2) ∧ ((x2 = 0 → Q (some (.int 0)) h1) ∧ (¬ x2 = 0 → ∃ (f3 : List Value) (a4 : Nat), h1.2 this = some (.inr (1, f3)) ∧ f3[2]? = some (.ref a4) ∧ ∃ (ar6 : List Int32) (x5 : Int32), h1.2 a4 = some (.inl (0, .inl ar6)) ∧ 0 ≤ p1 ∧ ar6[p1.toNatClampNeg]? = some x5 ∧ Q (some (.int x5)) h1))) p1 h
set_option maxRecDepth 100000 in
set_option maxHeartbeats 4000000 in
theorem x_Co_valueOf {sc : List Int32} {Q : Option Value → xH → Prop} {this : Nat} {p1 : Int32} {h : xH} (hw : w_Co_valueOf Q this p1 h) : xMet sc m_Co_valueOf 1 0 0 [.ref (this), .int (p1)] h Q := by
  unfold w_Co_valueOf at hw
  refine xMet.of2 cw_Co_valueOf rfl rfl ?_
  show xW sc m_Co_valueOf 1 0 0 0 [some (.ref (this)), some (.int (p1))] [] h Q
  refine xw_iload_n d_Co_valueOf_0 rfl rfl ?_
  refine xc_SN1i ln_Co_21 st_Q_isObject d_Co_valueOf_1 (x_Q_isObject hw) rfl rfl ?_
  intro x2 h1 hw
  refine xw_if_eq (tgt := 16) d_Co_valueOf_4 (by decide) (fun c7 => ?_) (fun c7 => ?_)
  · have hw := hw.1 c7
    refine xw_iconst (v := 0) d_Co_valueOf_16 (by decide) ?_
    exact xw_ireturn rfl d_Co_valueOf_17 hw
  · have hw := hw.2 c7
    refine xw_aload_n d_Co_valueOf_7 rfl rfl ?_
    obtain ⟨f3, a4, hA, hB, hw⟩ := hw
    refine xw_getr fr_Co_18 d_Co_valueOf_8 hA hB ?_
    refine xw_iload_n d_Co_valueOf_11 rfl rfl ?_
    obtain ⟨ar6, x5, hA, hB, hC, hw⟩ := hw
    refine xw_iaload (t := 0) rfl d_Co_valueOf_12 hA hB hC ?_
    refine xw_goto (tgt := 17) d_Co_valueOf_13 (by decide) ?_
    exact xw_ireturn rfl d_Co_valueOf_17 hw
set_option maxRecDepth 100000 in
def w_Co_put (Q : Option Value → xH → Prop) (this : Nat) (p1 : Int32) (p2 : Int32) (p3 : Int32) (p4 : Int32) (h : xH) : Prop := w_Q_isObject (fun v h1 => ∃ (x2 : Int32), v = some (.int x2) ∧ ((x2 = 0 → Q none h1) ∧ (¬ x2 = 0 → ∃ (f3 : List Value) (a4 : Nat), h1.2 this = some (.inr (1, f3)) ∧ f3[0]? = some (.ref a4) ∧ ∃ ar5, h1.2 a4 = some (.inl (0, .inl ar5)) ∧ 0 ≤ p1 ∧ p1.toNatClampNeg < ar5.length ∧ ∀ h6, h6 = xu h1 a4 (.inl (0, .inl (ar5.set p1.toNatClampNeg p2))) → ∃ (f7 : List Value) (a8 : Nat), h6.2 this = some (.inr (1, f7)) ∧ f7[1]? = some (.ref a8) ∧ ∃ ar9, h6.2 a8 = some (.inl (0, .inl ar9)) ∧ 0 ≤ p1 ∧ p1.toNatClampNeg < ar9.length ∧ ∀ h10, h10 = xu h6 a8 (.inl (0, .inl (ar9.set p1.toNatClampNeg p3))) → ∃ (f11 : List Value) (a12 : Nat), h10.2 this = some (.inr (1, f11)) ∧ f11[2]? = some (.ref a12) ∧ ∃ ar13, h10.2 a12 = some (.inl (0, .inl ar13)) ∧ 0 ≤ p1 ∧ p1.toNatClampNeg < ar13.length ∧ ∀ h14, h14 = xu h10 a12 (.inl (0, .inl (ar13.set p1.toNatClampNeg p4))) → Q none h14))) p1 h
set_option maxRecDepth 100000 in
set_option maxHeartbeats 4000000 in
theorem x_Co_put {sc : List Int32} {Q : Option Value → xH → Prop} {this : Nat} {p1 : Int32} {p2 : Int32} {p3 : Int32} {p4 : Int32} {h : xH} (hw : w_Co_put Q this p1 p2 p3 p4 h) : xMet sc m_Co_put 1 0 0 [.ref (this), .int (p1), .int (p2), .int (p3), .int (p4)] h Q := by
  unfold w_Co_put at hw
  refine xMet.of2 cw_Co_put rfl rfl ?_
  show xW sc m_Co_put 1 0 0 0 [some (.ref (this)), some (.int (p1)), some (.int (p2)), some (.int (p3)), some (.int (p4))] [] h Q
  refine xw_iload_n d_Co_put_0 rfl rfl ?_
  refine xc_SN1i ln_Co_21 st_Q_isObject d_Co_put_1 (x_Q_isObject hw) rfl rfl ?_
  intro x2 h1 hw
  refine xw_if_eq (tgt := 29) d_Co_put_4 (by decide) (fun c15 => ?_) (fun c15 => ?_)
  · have hw := hw.1 c15
    exact xw_return rfl d_Co_put_29 hw
  · have hw := hw.2 c15
    refine xw_aload_n d_Co_put_7 rfl rfl ?_
    obtain ⟨f3, a4, hA, hB, hw⟩ := hw
    refine xw_getr fr_Co_9 d_Co_put_8 hA hB ?_
    refine xw_iload_n d_Co_put_11 rfl rfl ?_
    refine xw_iload_n d_Co_put_12 rfl rfl ?_
    obtain ⟨ar5, hA, hB, hC, hw⟩ := hw
    refine xw_iastore (t := 0) rfl d_Co_put_13 hA hB hC ?_
    generalize hh : xu h1 a4 (.inl (0, .inl (ar5.set p1.toNatClampNeg p2))) = h6
    have hw := hw h6 hh.symm
    refine xw_aload_n d_Co_put_14 rfl rfl ?_
    obtain ⟨f7, a8, hA, hB, hw⟩ := hw
    refine xw_getr fr_Co_15 d_Co_put_15 hA hB ?_
    refine xw_iload_n d_Co_put_18 rfl rfl ?_
    refine xw_iload_n d_Co_put_19 rfl rfl ?_
    obtain ⟨ar9, hA, hB, hC, hw⟩ := hw
    refine xw_iastore (t := 0) rfl d_Co_put_20 hA hB hC ?_
    generalize hh : xu h6 a8 (.inl (0, .inl (ar9.set p1.toNatClampNeg p3))) = h10
    have hw := hw h10 hh.symm
    refine xw_aload_n d_Co_put_21 rfl rfl ?_
    obtain ⟨f11, a12, hA, hB, hw⟩ := hw
    refine xw_getr fr_Co_18 d_Co_put_22 hA hB ?_
    refine xw_iload_n d_Co_put_25 rfl rfl ?_
    refine xw_iload d_Co_put_26 rfl ?_
    obtain ⟨ar13, hA, hB, hC, hw⟩ := hw
    refine xw_iastore (t := 0) rfl d_Co_put_28 hA hB hC ?_
    generalize hh : xu h10 a12 (.inl (0, .inl (ar13.set p1.toNatClampNeg p4))) = h14
    have hw := hw h14 hh.symm
    exact xw_return rfl d_Co_put_29 hw
set_option maxRecDepth 100000 in
def w_Co_copyFrom (Q : Option Value → xH → Prop) (this : Nat) (p1 : Nat) (h : xH) : Prop := ∃ (f1 : List Value) (a2 : Nat), h.2 p1 = some (.inr (1, f1)) ∧ f1[0]? = some (.ref a2) ∧ ∃ (f3 : List Value) (a4 : Nat), h.2 this = some (.inr (1, f3)) ∧ f3[0]? = some (.ref a4) ∧ ∃ ar5 ar6, h.2 a2 = some (.inl (0, .inl ar5)) ∧ h.2 a4 = some (.inl (0, .inl ar6)) ∧ ¬ (0 : Int32) < 0 ∧ ¬ (0 : Int32) < 0 ∧ ¬ (4 : Int32) < 0 ∧ (0 : Int32).toNatClampNeg + (4 : Int32).toNatClampNeg ≤ ar5.length ∧ (0 : Int32).toNatClampNeg + (4 : Int32).toNatClampNeg ≤ ar6.length ∧ ∀ h7, h7 = xu h a4 (.inl (0, .inl (xcp ar5 ar6 (0 : Int32).toNatClampNeg (0 : Int32).toNatClampNeg (4 : Int32).toNatClampNeg))) → ∃ (f8 : List Value) (a9 : Nat), h7.2 p1 = some (.inr (1, f8)) ∧ f8[1]? = some (.ref a9) ∧ ∃ (f10 : List Value) (a11 : Nat), h7.2 this = some (.inr (1, f10)) ∧ f10[1]? = some (.ref a11) ∧ ∃ ar12 ar13, h7.2 a9 = some (.inl (0, .inl ar12)) ∧ h7.2 a11 = some (.inl (0, .inl ar13)) ∧ ¬ (0 : Int32) < 0 ∧ ¬ (0 : Int32) < 0 ∧ ¬ (4 : Int32) < 0 ∧ (0 : Int32).toNatClampNeg + (4 : Int32).toNatClampNeg ≤ ar12.length ∧ (0 : Int32).toNatClampNeg + (4 : Int32).toNatClampNeg ≤ ar13.length ∧ ∀ h14, h14 = xu h7 a11 (.inl (0, .inl (xcp ar12 ar13 (0 : Int32).toNatClampNeg (0 : Int32).toNatClampNeg (4 : Int32).toNatClampNeg))) → ∃ (f15 : List Value) (a16 : Nat), h14.2 p1 = some (.inr (1, f15)) ∧ f15[2]? = some (.ref a16) ∧ ∃ (f17 : List Value) (a18 : Nat), h14.2 this = some (.inr (1, f17)) ∧ f17[2]? = some (.ref a18) ∧ ∃ ar19 ar20, h14.2 a16 = some (.inl (0, .inl ar19)) ∧ h14.2 a18 = some (.inl (0, .inl ar20)) ∧ ¬ (0 : Int32) < 0 ∧ ¬ (0 : Int32) < 0 ∧ ¬ (4 : Int32) < 0 ∧ (0 : Int32).toNatClampNeg + (4 : Int32).toNatClampNeg ≤ ar19.length ∧ (0 : Int32).toNatClampNeg + (4 : Int32).toNatClampNeg ≤ ar20.length ∧ ∀ h21, h21 = xu h14 a18 (.inl (0, .inl (xcp ar19 ar20 (0 : Int32).toNatClampNeg (0 : Int32).toNatClampNeg (4 : Int32).toNatClampNeg))) → Q none h21
set_option maxRecDepth 100000 in
set_option maxHeartbeats 4000000 in
theorem x_Co_copyFrom {sc : List Int32} {Q : Option Value → xH → Prop} {this : Nat} {p1 : Nat} {h : xH} (hw : w_Co_copyFrom Q this p1 h) : xMet sc m_Co_copyFrom 1 0 0 [.ref (this), .ref (p1)] h Q := by
  unfold w_Co_copyFrom at hw
  refine xMet.of2 cw_Co_copyFrom rfl rfl ?_
  show xW sc m_Co_copyFrom 1 0 0 0 [some (.ref (this)), some (.ref (p1))] [] h Q
  refine xw_aload_n d_Co_copyFrom_0 rfl rfl ?_
  obtain ⟨f1, a2, hA, hB, hw⟩ := hw
  refine xw_getr fr_Co_9 d_Co_copyFrom_1 hA hB ?_
  refine xw_iconst (v := 0) d_Co_copyFrom_4 (by decide) ?_
  refine xw_aload_n d_Co_copyFrom_5 rfl rfl ?_
  obtain ⟨f3, a4, hA, hB, hw⟩ := hw
  refine xw_getr fr_Co_9 d_Co_copyFrom_6 hA hB ?_
  refine xw_iconst (v := 0) d_Co_copyFrom_9 (by decide) ?_
  refine xw_iconst (v := 4) d_Co_copyFrom_10 (by decide) ?_
  obtain ⟨ar5, ar6, hA, hB, hC, hD, hE, hF, hG, hw⟩ := hw
  refine xw_copy (t := 0) rfl ac_Co_25 d_Co_copyFrom_11 (Nat.le_of_ble_eq_true rfl) hA hB hC hD hE hF hG (Nat.le_of_ble_eq_true rfl) ?_
  generalize hh : xu h a4 (.inl (0, .inl (xcp ar5 ar6 (0 : Int32).toNatClampNeg (0 : Int32).toNatClampNeg (4 : Int32).toNatClampNeg))) = h7
  have hw := hw h7 hh.symm
  refine xw_aload_n d_Co_copyFrom_14 rfl rfl ?_
  obtain ⟨f8, a9, hA, hB, hw⟩ := hw
  refine xw_getr fr_Co_15 d_Co_copyFrom_15 hA hB ?_
  refine xw_iconst (v := 0) d_Co_copyFrom_18 (by decide) ?_
  refine xw_aload_n d_Co_copyFrom_19 rfl rfl ?_
  obtain ⟨f10, a11, hA, hB, hw⟩ := hw
  refine xw_getr fr_Co_15 d_Co_copyFrom_20 hA hB ?_
  refine xw_iconst (v := 0) d_Co_copyFrom_23 (by decide) ?_
  refine xw_iconst (v := 4) d_Co_copyFrom_24 (by decide) ?_
  obtain ⟨ar12, ar13, hA, hB, hC, hD, hE, hF, hG, hw⟩ := hw
  refine xw_copy (t := 0) rfl ac_Co_25 d_Co_copyFrom_25 (Nat.le_of_ble_eq_true rfl) hA hB hC hD hE hF hG (Nat.le_of_ble_eq_true rfl) ?_
  generalize hh : xu h7 a11 (.inl (0, .inl (xcp ar12 ar13 (0 : Int32).toNatClampNeg (0 : Int32).toNatClampNeg (4 : Int32).toNatClampNeg))) = h14
  have hw := hw h14 hh.symm
  refine xw_aload_n d_Co_copyFrom_28 rfl rfl ?_
  obtain ⟨f15, a16, hA, hB, hw⟩ := hw
  refine xw_getr fr_Co_18 d_Co_copyFrom_29 hA hB ?_
  refine xw_iconst (v := 0) d_Co_copyFrom_32 (by decide) ?_
  refine xw_aload_n d_Co_copyFrom_33 rfl rfl ?_
  obtain ⟨f17, a18, hA, hB, hw⟩ := hw
  refine xw_getr fr_Co_18 d_Co_copyFrom_34 hA hB ?_
  refine xw_iconst (v := 0) d_Co_copyFrom_37 (by decide) ?_
  refine xw_iconst (v := 4) d_Co_copyFrom_38 (by decide) ?_
  obtain ⟨ar19, ar20, hA, hB, hC, hD, hE, hF, hG, hw⟩ := hw
  refine xw_copy (t := 0) rfl ac_Co_25 d_Co_copyFrom_39 (Nat.le_of_ble_eq_true rfl) hA hB hC hD hE hF hG (Nat.le_of_ble_eq_true rfl) ?_
  generalize hh : xu h14 a18 (.inl (0, .inl (xcp ar19 ar20 (0 : Int32).toNatClampNeg (0 : Int32).toNatClampNeg (4 : Int32).toNatClampNeg))) = h21
  have hw := hw h21 hh.symm
  exact xw_return rfl d_Co_copyFrom_42 hw
set_option maxRecDepth 100000 in
def w_Co_isLess_51 (Q : Option Value → xH → Prop) (l0 : Nat) (l1 : Int32) (l2 : Nat) (l3 : Int32) (l4 : Int32) (h : xH) : Prop := (narrow .boolean (.int 1) = .int 1 ∧ Q (some (.int 1)) h)
set_option maxRecDepth 100000 in
set_option maxHeartbeats 4000000 in
theorem p_Co_isLess_51 {sc : List Int32} {Q : Option Value → xH → Prop} (l0 : Nat) (l1 : Int32) (l2 : Nat) (l3 : Int32) (l4 : Int32) (h : xH) (hw : w_Co_isLess_51 Q l0 l1 l2 l3 l4 h) : xW sc m_Co_isLess 1 0 0 51 [some (.ref (l0)), some (.int (l1)), some (.ref (l2)), some (.int (l3)), some (.int (l4))] [] h Q := by
  unfold w_Co_isLess_51 at hw
  refine xw_iconst (v := 1) d_Co_isLess_51 (by decide) ?_
  refine xw_goto (tgt := 56) d_Co_isLess_52 (by decide) ?_
  exact xw_zreturn rfl hw.1 d_Co_isLess_56 hw.2
set_option maxRecDepth 100000 in
def w_Co_isLess (Q : Option Value → xH → Prop) (this : Nat) (p1 : Int32) (p2 : Nat) (h : xH) : Prop := w_Q_isObject (fun v h1 => ∃ (x2 : Int32), v = some (.int x2) ∧ ((¬ x2 = 0 → ∃ (f3 : List Value) (a4 : Nat), h1.2 this = some (.inr (1, f3)) ∧ f3[0]? = some (.ref a4) ∧ ∃ (ar21 : List Int32) (x5 : Int32), h1.2 a4 = some (.inl (0, .inl ar21)) ∧ 0 ≤ p1 ∧ ar21[p1.toNatClampNeg]? = some x5 ∧ ∃ (f6 : List Value) (a7 : Nat), h1.2 p2 = some (.inr (1, f6)) ∧ f6[0]? = some (.ref a7) ∧ ∃ (ar20 : List Int32) (x8 : Int32), h1.2 a7 = some (.inl (0, .inl ar20)) ∧ 0 ≤ p1 ∧ ar20[p1.toNatClampNeg]? = some x8 ∧ ((x5 < x8 → w_Co_isLess_51 Q (this) (p1) (p2) (x5) (x8) h1) ∧ (¬ x5 < x8 → ((¬ x5 = x8 → (narrow .boolean (.int 0) = .int 0 ∧ Q (some (.int 0)) h1)) ∧ (x5 = x8 → ∃ (f9 : List Value) (a10 : Nat), h1.2 this = some (.inr (1, f9)) ∧ f9[1]? = some (.ref a10) ∧ ∃ (ar17 : List Int32) (x11 : Int32), h1.2 a10 = some (.inl (0, .inl ar17)) ∧ 0 ≤ p1 ∧ ar17[p1.toNatClampNeg]? = some x11 ∧ ∃ (f12 : List Value) (a13 : Nat), h1.2 p2 = some (.inr (1, f12)) ∧ f12[1]? = some (.ref a13) ∧ ∃ (ar16 : List Int32) (x14 : Int32), h1.2 a13 = some (.inl (0, .inl ar16)) ∧ 0 ≤ p1 ∧ ar16[p1.toNatClampNeg]? = some x14 ∧ ((x14 ≤ x11 → (narrow .boolean (.int 0) = .int 0 ∧ Q (some (.int 0)) h1)) ∧ (¬ x14 ≤ x11 → w_Co_isLess_51 Q (this) (p1) (p2) (x5) (x8) h1))))))) ∧ (x2 = 0 → (narrow .boolean (.int 0) = .int 0 ∧ Q (some (.int 0)) h1)))) p1 h
set_option maxRecDepth 100000 in
set_option maxHeartbeats 4000000 in
theorem x_Co_isLess {sc : List Int32} {Q : Option Value → xH → Prop} {this : Nat} {p1 : Int32} {p2 : Nat} {h : xH} (hw : w_Co_isLess Q this p1 p2 h) : xMet sc m_Co_isLess 1 0 0 [.ref (this), .int (p1), .ref (p2)] h Q := by
  unfold w_Co_isLess at hw
  refine xMet.of2 cw_Co_isLess rfl rfl ?_
  show xW sc m_Co_isLess 1 0 0 0 [some (.ref (this)), some (.int (p1)), some (.ref (p2)), none, none] [] h Q
  refine xw_iload_n d_Co_isLess_0 rfl rfl ?_
  refine xc_SN1i ln_Co_21 st_Q_isObject d_Co_isLess_1 (x_Q_isObject hw) rfl rfl ?_
  intro x2 h1 hw
  refine xw_if_ne (tgt := 9) d_Co_isLess_4 (by decide) (fun c22 => ?_) (fun c22 => ?_)
  · have hw := hw.1 c22
    refine xw_aload_n d_Co_isLess_9 rfl rfl ?_
    obtain ⟨f3, a4, hA, hB, hw⟩ := hw
    refine xw_getr fr_Co_9 d_Co_isLess_10 hA hB ?_
    refine xw_iload_n d_Co_isLess_13 rfl rfl ?_
    obtain ⟨ar21, x5, hA, hB, hC, hw⟩ := hw
    refine xw_iaload (t := 0) rfl d_Co_isLess_14 hA hB hC ?_
    refine xs_istore_n (lv' := [some (.ref (this)), some (.int (p1)), some (.ref (p2)), some (.int (x5)), none]) d_Co_isLess_15 rfl rfl rfl ?_
    refine xw_aload_n d_Co_isLess_16 rfl rfl ?_
    obtain ⟨f6, a7, hA, hB, hw⟩ := hw
    refine xw_getr fr_Co_9 d_Co_isLess_17 hA hB ?_
    refine xw_iload_n d_Co_isLess_20 rfl rfl ?_
    obtain ⟨ar20, x8, hA, hB, hC, hw⟩ := hw
    refine xw_iaload (t := 0) rfl d_Co_isLess_21 hA hB hC ?_
    refine xs_istore (lv' := [some (.ref (this)), some (.int (p1)), some (.ref (p2)), some (.int (x5)), some (.int (x8))]) d_Co_isLess_22 rfl rfl ?_
    refine xw_iload_n d_Co_isLess_24 rfl rfl ?_
    refine xw_iload d_Co_isLess_25 rfl ?_
    refine xw_icmp_lt (tgt := 51) d_Co_isLess_27 (by decide) (fun c19 => ?_) (fun c19 => ?_)
    · have hw := hw.1 c19
      exact p_Co_isLess_51  (this) (p1) (p2) (x5) (x8) h1 hw
    · have hw := hw.2 c19
      refine xw_iload_n d_Co_isLess_30 rfl rfl ?_
      refine xw_iload d_Co_isLess_31 rfl ?_
      refine xw_icmp_ne (tgt := 55) d_Co_isLess_33 (by decide) (fun c18 => ?_) (fun c18 => ?_)
      · have hw := hw.1 c18
        refine xw_iconst (v := 0) d_Co_isLess_55 (by decide) ?_
        exact xw_zreturn rfl hw.1 d_Co_isLess_56 hw.2
      · have hw := hw.2 c18
        refine xw_aload_n d_Co_isLess_36 rfl rfl ?_
        obtain ⟨f9, a10, hA, hB, hw⟩ := hw
        refine xw_getr fr_Co_15 d_Co_isLess_37 hA hB ?_
        refine xw_iload_n d_Co_isLess_40 rfl rfl ?_
        obtain ⟨ar17, x11, hA, hB, hC, hw⟩ := hw
        refine xw_iaload (t := 0) rfl d_Co_isLess_41 hA hB hC ?_
        refine xw_aload_n d_Co_isLess_42 rfl rfl ?_
        obtain ⟨f12, a13, hA, hB, hw⟩ := hw
        refine xw_getr fr_Co_15 d_Co_isLess_43 hA hB ?_
        refine xw_iload_n d_Co_isLess_46 rfl rfl ?_
        obtain ⟨ar16, x14, hA, hB, hC, hw⟩ := hw
        refine xw_iaload (t := 0) rfl d_Co_isLess_47 hA hB hC ?_
        refine xw_icmp_ge (tgt := 55) d_Co_isLess_48 (by decide) (fun c15 => ?_) (fun c15 => ?_)
        · have hw := hw.1 c15
          refine xw_iconst (v := 0) d_Co_isLess_55 (by decide) ?_
          exact xw_zreturn rfl hw.1 d_Co_isLess_56 hw.2
        · have hw := hw.2 c15
          exact p_Co_isLess_51  (this) (p1) (p2) (x5) (x8) h1 hw
  · have hw := hw.2 c22
    refine xw_iconst (v := 0) d_Co_isLess_7 (by decide) ?_
    exact xw_zreturn rfl hw.1 d_Co_isLess_8 hw.2
set_option maxRecDepth 100000 in
def w_Co_putFrom (Q : Option Value → xH → Prop) (this : Nat) (p1 : Int32) (p2 : Nat) (h : xH) : Prop := w_Q_isObject (fun v h1 => ∃ (x2 : Int32), v = some (.int x2) ∧ ((x2 = 0 → Q none h1) ∧ (¬ x2 = 0 → ∃ (f3 : List Value) (a4 : Nat), h1.2 this = some (.inr (1, f3)) ∧ f3[0]? = some (.ref a4) ∧ ∃ (f5 : List Value) (a6 : Nat), h1.2 p2 = some (.inr (1, f5)) ∧ f5[0]? = some (.ref a6) ∧ ∃ (ar26 : List Int32) (x7 : Int32), h1.2 a6 = some (.inl (0, .inl ar26)) ∧ 0 ≤ p1 ∧ ar26[p1.toNatClampNeg]? = some x7 ∧ ∃ ar8, h1.2 a4 = some (.inl (0, .inl ar8)) ∧ 0 ≤ p1 ∧ p1.toNatClampNeg < ar8.length ∧ ∀ h9, h9 = xu h1 a4 (.inl (0, .inl (ar8.set p1.toNatClampNeg x7))) → ∃ (f10 : List Value) (a11 : Nat), h9.2 this = some (.inr (1, f10)) ∧ f10[1]? = some (.ref a11) ∧ ∃ (f12 : List Value) (a13 : Nat), h9.2 p2 = some (.inr (1, f12)) ∧ f12[1]? = some (.ref a13) ∧ ∃ (ar25 : List Int32) (x14 : Int32), h9.2 a13 = some (.inl (0, .inl ar25)) ∧ 0 ≤ p1 ∧ ar25[p1.toNatClampNeg]? = some x14 ∧ ∃ ar15, h9.2 a11 = some (.inl (0, .inl ar15)) ∧ 0 ≤ p1 ∧ p1.toNatClampNeg < ar15.length ∧ ∀ h16, h16 = xu h9 a11 (.inl (0, .inl (ar15.set p1.toNatClampNeg x14))) → ∃ (f17 : List Value) (a18 : Nat), h16.2 this = some (.inr (1, f17)) ∧ f17[2]? = some (.ref a18) ∧ ∃ (f19 : List Value) (a20 : Nat), h16.2 p2 = some (.inr (1, f19)) ∧ f19[2]? = some (.ref a20) ∧ ∃ (ar24 : List Int32) (x21 : Int32), h16.2 a20 = some (.inl (0, .inl ar24)) ∧ 0 ≤ p1 ∧ ar24[p1.toNatClampNeg]? = some x21 ∧ ∃ ar22, h16.2 a18 = some (.inl (0, .inl ar22)) ∧ 0 ≤ p1 ∧ p1.toNatClampNeg < ar22.length ∧ ∀ h23, h23 = xu h16 a18 (.inl (0, .inl (ar22.set p1.toNatClampNeg x21))) → Q none h23))) p1 h
set_option maxRecDepth 100000 in
set_option maxHeartbeats 4000000 in
theorem x_Co_putFrom {sc : List Int32} {Q : Option Value → xH → Prop} {this : Nat} {p1 : Int32} {p2 : Nat} {h : xH} (hw : w_Co_putFrom Q this p1 p2 h) : xMet sc m_Co_putFrom 1 0 0 [.ref (this), .int (p1), .ref (p2)] h Q := by
  unfold w_Co_putFrom at hw
  refine xMet.of2 cw_Co_putFrom rfl rfl ?_
  show xW sc m_Co_putFrom 1 0 0 0 [some (.ref (this)), some (.int (p1)), some (.ref (p2))] [] h Q
  refine xw_iload_n d_Co_putFrom_0 rfl rfl ?_
  refine xc_SN1i ln_Co_21 st_Q_isObject d_Co_putFrom_1 (x_Q_isObject hw) rfl rfl ?_
  intro x2 h1 hw
  refine xw_if_eq (tgt := 43) d_Co_putFrom_4 (by decide) (fun c27 => ?_) (fun c27 => ?_)
  · have hw := hw.1 c27
    exact xw_return rfl d_Co_putFrom_43 hw
  · have hw := hw.2 c27
    refine xw_aload_n d_Co_putFrom_7 rfl rfl ?_
    obtain ⟨f3, a4, hA, hB, hw⟩ := hw
    refine xw_getr fr_Co_9 d_Co_putFrom_8 hA hB ?_
    refine xw_iload_n d_Co_putFrom_11 rfl rfl ?_
    refine xw_aload_n d_Co_putFrom_12 rfl rfl ?_
    obtain ⟨f5, a6, hA, hB, hw⟩ := hw
    refine xw_getr fr_Co_9 d_Co_putFrom_13 hA hB ?_
    refine xw_iload_n d_Co_putFrom_16 rfl rfl ?_
    obtain ⟨ar26, x7, hA, hB, hC, hw⟩ := hw
    refine xw_iaload (t := 0) rfl d_Co_putFrom_17 hA hB hC ?_
    obtain ⟨ar8, hA, hB, hC, hw⟩ := hw
    refine xw_iastore (t := 0) rfl d_Co_putFrom_18 hA hB hC ?_
    generalize hh : xu h1 a4 (.inl (0, .inl (ar8.set p1.toNatClampNeg x7))) = h9
    have hw := hw h9 hh.symm
    refine xw_aload_n d_Co_putFrom_19 rfl rfl ?_
    obtain ⟨f10, a11, hA, hB, hw⟩ := hw
    refine xw_getr fr_Co_15 d_Co_putFrom_20 hA hB ?_
    refine xw_iload_n d_Co_putFrom_23 rfl rfl ?_
    refine xw_aload_n d_Co_putFrom_24 rfl rfl ?_
    obtain ⟨f12, a13, hA, hB, hw⟩ := hw
    refine xw_getr fr_Co_15 d_Co_putFrom_25 hA hB ?_
    refine xw_iload_n d_Co_putFrom_28 rfl rfl ?_
    obtain ⟨ar25, x14, hA, hB, hC, hw⟩ := hw
    refine xw_iaload (t := 0) rfl d_Co_putFrom_29 hA hB hC ?_
    obtain ⟨ar15, hA, hB, hC, hw⟩ := hw
    refine xw_iastore (t := 0) rfl d_Co_putFrom_30 hA hB hC ?_
    generalize hh : xu h9 a11 (.inl (0, .inl (ar15.set p1.toNatClampNeg x14))) = h16
    have hw := hw h16 hh.symm
    refine xw_aload_n d_Co_putFrom_31 rfl rfl ?_
    obtain ⟨f17, a18, hA, hB, hw⟩ := hw
    refine xw_getr fr_Co_18 d_Co_putFrom_32 hA hB ?_
    refine xw_iload_n d_Co_putFrom_35 rfl rfl ?_
    refine xw_aload_n d_Co_putFrom_36 rfl rfl ?_
    obtain ⟨f19, a20, hA, hB, hw⟩ := hw
    refine xw_getr fr_Co_18 d_Co_putFrom_37 hA hB ?_
    refine xw_iload_n d_Co_putFrom_40 rfl rfl ?_
    obtain ⟨ar24, x21, hA, hB, hC, hw⟩ := hw
    refine xw_iaload (t := 0) rfl d_Co_putFrom_41 hA hB hC ?_
    obtain ⟨ar22, hA, hB, hC, hw⟩ := hw
    refine xw_iastore (t := 0) rfl d_Co_putFrom_42 hA hB hC ?_
    generalize hh : xu h16 a18 (.inl (0, .inl (ar22.set p1.toNatClampNeg x21))) = h23
    have hw := hw h23 hh.symm
    exact xw_return rfl d_Co_putFrom_43 hw
set_option maxRecDepth 100000 in
def w_Co_takeGreater_30 (Q : Option Value → xH → Prop) (L2 : Nat → Nat → Int32 → Int32 → xH → Prop) (l0 : Nat) (l1 : Nat) (l2 : Int32) (l3 : Int32) (h : xH) : Prop := L2 (l0) (l1) (l2) (l3 + 1) h
set_option maxRecDepth 100000 in
set_option maxHeartbeats 4000000 in
theorem p_Co_takeGreater_30 {sc : List Int32} {Q : Option Value → xH → Prop} {L2 : Nat → Nat → Int32 → Int32 → xH → Prop} (hL2 : ∀ l0 l1 l2 l3 h, L2 l0 l1 l2 l3 h → xW sc m_Co_takeGreater 2 0 0 2 [some (.ref (l0)), some (.ref (l1)), some (.int (l2)), some (.int (l3))] [] h Q) (l0 : Nat) (l1 : Nat) (l2 : Int32) (l3 : Int32) (h : xH) (hw : w_Co_takeGreater_30 Q L2 l0 l1 l2 l3 h) : xW sc m_Co_takeGreater 2 0 0 30 [some (.ref (l0)), some (.ref (l1)), some (.int (l2)), some (.int (l3))] [] h Q := by
  unfold w_Co_takeGreater_30 at hw
  refine xs_iinc (v := l3 + 1) (lv' := [some (.ref (l0)), some (.ref (l1)), some (.int (l2)), some (.int (l3 + 1))]) d_Co_takeGreater_30 rfl rfl rfl ?_
  refine xw_goto (tgt := 2) d_Co_takeGreater_33 (by decide) ?_
  exact hL2 (l0) (l1) (l2) (l3 + 1) h hw
set_option maxRecDepth 100000 in
def w_Co_takeGreater_2 (Q : Option Value → xH → Prop) : Nat → Nat → Nat → Int32 → Int32 → xH → Prop
  | 0, _, _, _, _, _ => False
  | n + 1, l0, l1, l2, l3, h => ((4 ≤ l3 → Q none h) ∧ (¬ 4 ≤ l3 → w_Q_isIn (fun v h1 => ∃ (x2 : Int32), v = some (.int x2) ∧ ((x2 = 0 → w_Co_takeGreater_30 Q (fun y0 y1 y2 y3 yh => w_Co_takeGreater_2 Q n y0 y1 y2 y3 yh) (l0) (l1) (l2) (l3) h1) ∧ (¬ x2 = 0 → (∃ f4, h1.2 l0 = some (.inr (1, f4))) ∧ w_Co_isLess (fun v h3 => ∃ (x5 : Int32), v = some (.int x5) ∧ ((x5 = 0 → w_Co_takeGreater_30 Q (fun y0 y1 y2 y3 yh => w_Co_takeGreater_2 Q n y0 y1 y2 y3 yh) (l0) (l1) (l2) (l3) h3) ∧ (¬ x5 = 0 → (∃ f7, h3.2 l0 = some (.inr (1, f7))) ∧ w_Co_putFrom (fun v h6 => v = none ∧ w_Co_takeGreater_30 Q (fun y0 y1 y2 y3 yh => w_Co_takeGreater_2 Q n y0 y1 y2 y3 yh) (l0) (l1) (l2) (l3) h6) l0 l3 l1 h3))) l0 l3 l1 h1))) l2 l3 h))
set_option maxRecDepth 100000 in
set_option maxHeartbeats 4000000 in
theorem p_Co_takeGreater_2 {sc : List Int32} {Q : Option Value → xH → Prop} : ∀ (n : Nat) (l0 : Nat) (l1 : Nat) (l2 : Int32) (l3 : Int32) (h : xH), w_Co_takeGreater_2 Q n l0 l1 l2 l3 h → xW sc m_Co_takeGreater 2 0 0 2 [some (.ref (l0)), some (.ref (l1)), some (.int (l2)), some (.int (l3))] [] h Q := by
  intro n
  induction n with
  | zero => intro l0 l1 l2 l3 h hw; exact False.elim hw
  | succ n ih =>
    intro l0 l1 l2 l3 h hw
    rw [w_Co_takeGreater_2] at hw
    refine xw_iload_n d_Co_takeGreater_2 rfl rfl ?_
    refine xw_iconst (v := 4) d_Co_takeGreater_3 (by decide) ?_
    refine xw_icmp_ge (tgt := 36) d_Co_takeGreater_4 (by decide) (fun c10 => ?_) (fun c10 => ?_)
    · have hw := hw.1 c10
      exact xw_return rfl d_Co_takeGreater_36 hw
    · have hw := hw.2 c10
      refine xw_iload_n d_Co_takeGreater_7 rfl rfl ?_
      refine xw_iload_n d_Co_takeGreater_8 rfl rfl ?_
      refine xc_SN2i ln_Co_31 st_Q_isIn d_Co_takeGreater_9 (x_Q_isIn hw) rfl rfl ?_
      intro x2 h1 hw
      refine xw_if_eq (tgt := 30) d_Co_takeGreater_12 (by decide) (fun c9 => ?_) (fun c9 => ?_)
      · have hw := hw.1 c9
        exact p_Co_takeGreater_30 ih (l0) (l1) (l2) (l3) h1 hw
      · have hw := hw.2 c9
        refine xw_aload_n d_Co_takeGreater_15 rfl rfl ?_
        refine xw_iload_n d_Co_takeGreater_16 rfl rfl ?_
        refine xw_aload_n d_Co_takeGreater_17 rfl rfl ?_
        obtain ⟨⟨f4, hA⟩, hw⟩ := hw
        refine xc_V2i lk_Co_35 in_Co_isLess d_Co_takeGreater_18 (x_Co_isLess hw) rfl hA rfl ?_
        intro x5 h3 hw
        refine xw_if_eq (tgt := 30) d_Co_takeGreater_21 (by decide) (fun c8 => ?_) (fun c8 => ?_)
        · have hw := hw.1 c8
          exact p_Co_takeGreater_30 ih (l0) (l1) (l2) (l3) h3 hw
        · have hw := hw.2 c8
          refine xw_aload_n d_Co_takeGreater_24 rfl rfl ?_
          refine xw_iload_n d_Co_takeGreater_25 rfl rfl ?_
          refine xw_aload_n d_Co_takeGreater_26 rfl rfl ?_
          obtain ⟨⟨f7, hA⟩, hw⟩ := hw
          refine xc_V2n lk_Co_39 in_Co_putFrom d_Co_takeGreater_27 (x_Co_putFrom hw) rfl hA rfl ?_
          intro h6 hw
          exact p_Co_takeGreater_30 ih (l0) (l1) (l2) (l3) h6 hw
set_option maxRecDepth 100000 in
def w_Co_takeGreater (Q : Option Value → xH → Prop) (this : Nat) (p1 : Nat) (p2 : Int32) (h : xH) : Prop := ∃ n1, w_Co_takeGreater_2 Q n1 (this) (p1) (p2) (0) h
set_option maxRecDepth 100000 in
set_option maxHeartbeats 4000000 in
theorem x_Co_takeGreater {sc : List Int32} {Q : Option Value → xH → Prop} {this : Nat} {p1 : Nat} {p2 : Int32} {h : xH} (hw : w_Co_takeGreater Q this p1 p2 h) : xMet sc m_Co_takeGreater 2 0 0 [.ref (this), .ref (p1), .int (p2)] h Q := by
  unfold w_Co_takeGreater at hw
  refine xMet.of2 cw_Co_takeGreater rfl rfl ?_
  show xW sc m_Co_takeGreater 2 0 0 0 [some (.ref (this)), some (.ref (p1)), some (.int (p2)), none] [] h Q
  refine xw_iconst (v := 0) d_Co_takeGreater_0 (by decide) ?_
  refine xs_istore_n (lv' := [some (.ref (this)), some (.ref (p1)), some (.int (p2)), some (.int (0))]) d_Co_takeGreater_1 rfl rfl rfl ?_
  obtain ⟨n1, hw⟩ := hw
  exact p_Co_takeGreater_2  n1 (this) (p1) (p2) (0) h hw
set_option maxRecDepth 100000 in
def w_Se_init (Q : Option Value → xH → Prop) (this : Nat) (h : xH) (kc : Nat) (ks : Nat) : Prop := ∃ k3 k4, kc = k3 + 1 ∧ ks = k4 + 16 ∧ ∀ b2 h1, b2 = h.1 + 1 → h1 = xn h (.inl (0, .inl (List.replicate 16 0))) → ∃ f5, h1.2 this = some (.inr (5, f5)) ∧ 0 < f5.length ∧ ∀ h6, h6 = xu h1 this (.inr (5, f5.set 0 (.ref (b2)))) → ∃ k9 k10, k3 = k9 + 1 ∧ k4 = k10 + 16 ∧ ∀ b8 h7, b8 = h6.1 + 1 → h7 = xn h6 (.inl (0, .inl (List.replicate 16 0))) → ∃ f11, h7.2 this = some (.inr (5, f11)) ∧ 1 < f11.length ∧ ∀ h12, h12 = xu h7 this (.inr (5, f11.set 1 (.ref (b8)))) → Q none h12
set_option maxRecDepth 100000 in
set_option maxHeartbeats 4000000 in
theorem x_Se_init {sc : List Int32} {Q : Option Value → xH → Prop} {this : Nat} {h : xH} {kc : Nat} {ks : Nat} (hw : w_Se_init Q this h kc ks) : xMet sc m_Se_init 1 kc ks [.ref (this)] h Q := by
  unfold w_Se_init at hw
  refine xMet.of2 cw_Se_init rfl rfl ?_
  show xW sc m_Se_init 1 kc ks 0 [some (.ref (this))] [] h Q
  refine xw_aload_n d_Se_init_0 rfl rfl ?_
  refine xw_obj oi_Se_3 d_Se_init_1 (Nat.le_of_ble_eq_true rfl) (Nat.le_of_ble_eq_true rfl) ?_
  refine xw_aload_n d_Se_init_4 rfl rfl ?_
  refine xw_bipush (v := 16) d_Se_init_5 (by decide) ?_
  obtain ⟨k3, k4, hA, hB, hw⟩ := hw
  rw [hA, hB]
  refine xw_newarray (t := 0) (N := 16) rfl aI d_Se_init_7 (by decide) (by decide) (by decide) ?_
  generalize hb : h.1 + 1 = b2
  generalize hh : xn h (.inl (0, .inl (List.replicate 16 0))) = h1
  have hw := hw b2 h1 hb.symm hh.symm
  obtain ⟨f5, hA, hB, hw⟩ := hw
  refine xw_putrF fs_Se_9 rfl (Or.inr ⟨_, rfl⟩) d_Se_init_9 hA hB ?_
  generalize hh : xu h1 this (.inr (5, f5.set 0 (.ref (b2)))) = h6
  have hw := hw h6 hh.symm
  refine xw_aload_n d_Se_init_12 rfl rfl ?_
  refine xw_bipush (v := 16) d_Se_init_13 (by decide) ?_
  obtain ⟨k9, k10, hA, hB, hw⟩ := hw
  rw [hA, hB]
  refine xw_newarray (t := 0) (N := 16) rfl aI d_Se_init_15 (by decide) (by decide) (by decide) ?_
  generalize hb : h6.1 + 1 = b8
  generalize hh : xn h6 (.inl (0, .inl (List.replicate 16 0))) = h7
  have hw := hw b8 h7 hb.symm hh.symm
  obtain ⟨f11, hA, hB, hw⟩ := hw
  refine xw_putrF fs_Se_15 rfl (Or.inr ⟨_, rfl⟩) d_Se_init_17 hA hB ?_
  generalize hh : xu h7 this (.inr (5, f11.set 1 (.ref (b8)))) = h12
  have hw := hw h12 hh.symm
  exact xw_return rfl d_Se_init_20 hw
set_option maxRecDepth 100000 in
def w_Me_init (Q : Option Value → xH → Prop) (this : Nat) (h : xH) (kc : Nat) (ks : Nat) : Prop := ∃ k3 k4, kc = k3 + 1 ∧ ks = k4 + 2 ∧ ∀ b2 h1, b2 = h.1 + 1 → h1 = xn h (.inr (5, [.null, .null])) → ∃ k6 k7 k8 k9, k3 = k6 + k7 ∧ k4 = k8 + k9 ∧ w_Se_init (fun v h5 => v = none ∧ ∃ f10, h5.2 this = some (.inr (3, f10)) ∧ 8 < f10.length ∧ ∀ h11, h11 = xu h5 this (.inr (3, f10.set 8 (.ref (b2)))) → ∃ k14 k15, k7 = k14 + 1 ∧ k9 = k15 + 3 ∧ ∀ b13 h12, b13 = h11.1 + 1 → h12 = xn h11 (.inr (1, [.null, .null, .null])) → ∃ k17 k18 k19 k20, k14 = k17 + k18 ∧ k15 = k19 + k20 ∧ w_Co_init (fun v h16 => v = none ∧ ∃ f21, h16.2 this = some (.inr (3, f21)) ∧ 9 < f21.length ∧ ∀ h22, h22 = xu h16 this (.inr (3, f21.set 9 (.ref (b13)))) → Q none h22) b13 h12 k17 k19) b2 h1 k6 k8
set_option maxRecDepth 100000 in
set_option maxHeartbeats 4000000 in
theorem x_Me_init {sc : List Int32} {Q : Option Value → xH → Prop} {this : Nat} {h : xH} {kc : Nat} {ks : Nat} (hw : w_Me_init Q this h kc ks) : xMet sc m_Me_init 2 kc ks [.ref (this)] h Q := by
  unfold w_Me_init at hw
  refine xMet.of2 cw_Me_init rfl rfl ?_
  show xW sc m_Me_init 2 kc ks 0 [some (.ref (this))] [] h Q
  refine xw_aload_n d_Me_init_0 rfl rfl ?_
  refine xw_obj oi_Me_3 d_Me_init_1 (Nat.le_of_ble_eq_true rfl) (Nat.le_of_ble_eq_true rfl) ?_
  refine xw_aload_n d_Me_init_4 rfl rfl ?_
  obtain ⟨k3, k4, hA, hB, hw⟩ := hw
  rw [hA, hB]
  refine xw_new ns_Me_9 d_Me_init_5 ?_
  generalize hb : h.1 + 1 = b2
  generalize hh : xn h (.inr (5, [.null, .null])) = h1
  have hw := hw b2 h1 hb.symm hh.symm
  refine xw_dup d_Me_init_8 rfl ?_
  obtain ⟨k6, k7, k8, k9, hA, hB, hw⟩ := hw
  refine xc_IN0 ln_Me_11 rfl rfl im_Se_init d_Me_init_9 hA hB (x_Se_init hw) rfl rfl ?_
  intro h5 hw
  obtain ⟨f10, hA, hB, hw⟩ := hw
  refine xw_putrF fs_Me_12 rfl (Or.inl ⟨_, rfl⟩) d_Me_init_12 hA hB ?_
  generalize hh : xu h5 this (.inr (3, f10.set 8 (.ref (b2)))) = h11
  have hw := hw h11 hh.symm
  refine xw_aload_n d_Me_init_15 rfl rfl ?_
  obtain ⟨k14, k15, hA, hB, hw⟩ := hw
  rw [hA, hB]
  refine xw_new ns_Me_18 d_Me_init_16 ?_
  generalize hb : h11.1 + 1 = b13
  generalize hh : xn h11 (.inr (1, [.null, .null, .null])) = h12
  have hw := hw b13 h12 hb.symm hh.symm
  refine xw_dup d_Me_init_19 rfl ?_
  obtain ⟨k17, k18, k19, k20, hA, hB, hw⟩ := hw
  refine xc_IN0 ln_Me_20 rfl rfl im_Co_init d_Me_init_20 hA hB (x_Co_init hw) rfl rfl ?_
  intro h16 hw
  obtain ⟨f21, hA, hB, hw⟩ := hw
  refine xw_putrF fs_Me_21 rfl (Or.inl ⟨_, rfl⟩) d_Me_init_23 hA hB ?_
  generalize hh : xu h16 this (.inr (3, f21.set 9 (.ref (b13)))) = h22
  have hw := hw h22 hh.symm
  exact xw_return rfl d_Me_init_26 hw
set_option maxRecDepth 100000 in
def w_Ma_init_36 (Q : Option Value → xH → Prop) : Nat → Nat → Int32 → xH → Nat → Nat → Prop
  | 0, _, _, _, _, _ => False
  | n + 1, l0, l1, h, kc, ks => ((120 ≤ l1 → Q none h) ∧ (¬ 120 ≤ l1 → ∃ (f1 : List Value) (a2 : Nat), h.2 l0 = some (.inr (2, f1)) ∧ f1[0]? = some (.ref a2) ∧ ∃ k5 k6, kc = k5 + 1 ∧ ks = k6 + 10 ∧ ∀ b4 h3, b4 = h.1 + 1 → h3 = xn h (.inr (3, [.int 0, .int 0, .int 0, .int 0, .int 0, .int 0, .int 0, .int 0, .null, .null])) → ∃ k8 k9 k10 k11, k5 = k8 + k9 ∧ k6 = k10 + k11 ∧ w_Me_init (fun v h7 => v = none ∧ ∃ (t14 : Nat) (q15 : vw_C) (ar12 : List (Option Nat)) (c16 : Nat) (v17 : List Value), xTys[t14]? = some (.object q15.1) ∧ vwCl[c16]? = some q15 ∧ h7.2 a2 = some (.inl (t14, .inr ar12)) ∧ h7.2 b4 = some (.inr (c16, v17)) ∧ 0 ≤ l1 ∧ l1.toNatClampNeg < ar12.length ∧ ∀ h13, h13 = xu h7 a2 (.inl (t14, .inr (ar12.set l1.toNatClampNeg (some b4)))) → w_Ma_init_36 Q n (l0) (l1 + 1) h13 k9 k11) b4 h3 k8 k10))
set_option maxRecDepth 100000 in
set_option maxHeartbeats 4000000 in
theorem p_Ma_init_36 {sc : List Int32} {Q : Option Value → xH → Prop} : ∀ (n : Nat) (l0 : Nat) (l1 : Int32) (h : xH) (kc : Nat) (ks : Nat), w_Ma_init_36 Q n l0 l1 h kc ks → xW sc m_Ma_init 3 kc ks 36 [some (.ref (l0)), some (.int (l1))] [] h Q := by
  intro n
  induction n with
  | zero => intro l0 l1 h kc ks hw; exact False.elim hw
  | succ n ih =>
    intro l0 l1 h kc ks hw
    rw [w_Ma_init_36] at hw
    refine xw_iload_n d_Ma_init_36 rfl rfl ?_
    refine xw_bipush (v := 120) d_Ma_init_37 (by decide) ?_
    refine xw_icmp_ge (tgt := 61) d_Ma_init_39 (by decide) (fun c18 => ?_) (fun c18 => ?_)
    · have hw := hw.1 c18
      exact xw_return rfl d_Ma_init_61 hw
    · have hw := hw.2 c18
      refine xw_aload_n d_Ma_init_42 rfl rfl ?_
      obtain ⟨f1, a2, hA, hB, hw⟩ := hw
      refine xw_getr fr_Ma_11 d_Ma_init_43 hA hB ?_
      refine xw_iload_n d_Ma_init_46 rfl rfl ?_
      obtain ⟨k5, k6, hA, hB, hw⟩ := hw
      rw [hA, hB]
      refine xw_new ns_Ma_9 d_Ma_init_47 ?_
      generalize hb : h.1 + 1 = b4
      generalize hh : xn h (.inr (3, [.int 0, .int 0, .int 0, .int 0, .int 0, .int 0, .int 0, .int 0, .null, .null])) = h3
      have hw := hw b4 h3 hb.symm hh.symm
      refine xw_dup d_Ma_init_50 rfl ?_
      obtain ⟨k8, k9, k10, k11, hA, hB, hw⟩ := hw
      refine xc_IN0 ln_Ma_17 rfl rfl im_Me_init d_Ma_init_51 hA hB (x_Me_init hw) rfl rfl ?_
      intro h7 hw
      obtain ⟨t14, q15, ar12, c16, v17, hT, hV, hA, hE, hB, hC, hw⟩ := hw
      refine xw_aastore hT hV d_Ma_init_54 hA hE hB hC ?_
      generalize hh : xu h7 a2 (.inl (t14, .inr (ar12.set l1.toNatClampNeg (some b4)))) = h13
      have hw := hw h13 hh.symm
      refine xs_iinc (v := l1 + 1) (lv' := [some (.ref (l0)), some (.int (l1 + 1))]) d_Ma_init_55 rfl rfl rfl ?_
      refine xw_goto (tgt := 36) d_Ma_init_58 (by decide) ?_
      exact ih (l0) (l1 + 1) h13 k9 k11 hw
set_option maxRecDepth 100000 in
def w_Ma_init (Q : Option Value → xH → Prop) (this : Nat) (h : xH) (kc : Nat) (ks : Nat) : Prop := ∃ k3 k4, kc = k3 + 1 ∧ ks = k4 + 120 ∧ ∀ b2 h1, b2 = h.1 + 1 → h1 = xn h (.inl (2, .inr (List.replicate 120 none))) → ∃ f5, h1.2 this = some (.inr (2, f5)) ∧ 0 < f5.length ∧ ∀ h6, h6 = xu h1 this (.inr (2, f5.set 0 (.ref (b2)))) → ∃ k9 k10, k3 = k9 + 1 ∧ k4 = k10 + 10 ∧ ∀ b8 h7, b8 = h6.1 + 1 → h7 = xn h6 (.inr (3, [.int 0, .int 0, .int 0, .int 0, .int 0, .int 0, .int 0, .int 0, .null, .null])) → ∃ k12 k13 k14 k15, k9 = k12 + k13 ∧ k10 = k14 + k15 ∧ w_Me_init (fun v h11 => v = none ∧ ∃ f16, h11.2 this = some (.inr (2, f16)) ∧ 1 < f16.length ∧ ∀ h17, h17 = xu h11 this (.inr (2, f16.set 1 (.ref (b8)))) → ∃ f18, h17.2 this = some (.inr (2, f18)) ∧ 2 < f18.length ∧ ∀ h19, h19 = xu h17 this (.inr (2, f18.set 2 (.int (0)))) → ∃ f20, h19.2 this = some (.inr (2, f20)) ∧ 3 < f20.length ∧ ∀ h21, h21 = xu h19 this (.inr (2, f20.set 3 (.int (0)))) → ∃ n22, w_Ma_init_36 Q n22 (this) (0) h21 k13 k15) b8 h7 k12 k14
set_option maxRecDepth 100000 in
set_option maxHeartbeats 4000000 in
theorem x_Ma_init {sc : List Int32} {Q : Option Value → xH → Prop} {this : Nat} {h : xH} {kc : Nat} {ks : Nat} (hw : w_Ma_init Q this h kc ks) : xMet sc m_Ma_init 3 kc ks [.ref (this)] h Q := by
  unfold w_Ma_init at hw
  refine xMet.of2 cw_Ma_init rfl rfl ?_
  show xW sc m_Ma_init 3 kc ks 0 [some (.ref (this)), none] [] h Q
  refine xw_aload_n d_Ma_init_0 rfl rfl ?_
  refine xw_obj oi_Ma_3 d_Ma_init_1 (Nat.le_of_ble_eq_true rfl) (Nat.le_of_ble_eq_true rfl) ?_
  refine xw_aload_n d_Ma_init_4 rfl rfl ?_
  refine xw_bipush (v := 120) d_Ma_init_5 (by decide) ?_
  obtain ⟨k3, k4, hA, hB, hw⟩ := hw
  rw [hA, hB]
  refine xw_anewarray (t := 2) (N := 120) rfl cl_Ma_9 ao_Me d_Ma_init_7 (by decide) (by decide) (by decide) ?_
  generalize hb : h.1 + 1 = b2
  generalize hh : xn h (.inl (2, .inr (List.replicate 120 none))) = h1
  have hw := hw b2 h1 hb.symm hh.symm
  obtain ⟨f5, hA, hB, hw⟩ := hw
  refine xw_putrF fs_Ma_11 rfl (Or.inr ⟨_, rfl⟩) d_Ma_init_10 hA hB ?_
  generalize hh : xu h1 this (.inr (2, f5.set 0 (.ref (b2)))) = h6
  have hw := hw h6 hh.symm
  refine xw_aload_n d_Ma_init_13 rfl rfl ?_
  obtain ⟨k9, k10, hA, hB, hw⟩ := hw
  rw [hA, hB]
  refine xw_new ns_Ma_9 d_Ma_init_14 ?_
  generalize hb : h6.1 + 1 = b8
  generalize hh : xn h6 (.inr (3, [.int 0, .int 0, .int 0, .int 0, .int 0, .int 0, .int 0, .int 0, .null, .null])) = h7
  have hw := hw b8 h7 hb.symm hh.symm
  refine xw_dup d_Ma_init_17 rfl ?_
  obtain ⟨k12, k13, k14, k15, hA, hB, hw⟩ := hw
  refine xc_IN0 ln_Ma_17 rfl rfl im_Me_init d_Ma_init_18 hA hB (x_Me_init hw) rfl rfl ?_
  intro h11 hw
  obtain ⟨f16, hA, hB, hw⟩ := hw
  refine xw_putr fs_Ma_18 (Or.inl ⟨_, rfl⟩) d_Ma_init_21 hA hB ?_
  generalize hh : xu h11 this (.inr (2, f16.set 1 (.ref (b8)))) = h17
  have hw := hw h17 hh.symm
  refine xw_aload_n d_Ma_init_24 rfl rfl ?_
  refine xw_iconst (v := 0) d_Ma_init_25 (by decide) ?_
  obtain ⟨f18, hA, hB, hw⟩ := hw
  refine xw_puti fs_Ma_22 d_Ma_init_26 hA hB ?_
  generalize hh : xu h17 this (.inr (2, f18.set 2 (.int (0)))) = h19
  have hw := hw h19 hh.symm
  refine xw_aload_n d_Ma_init_29 rfl rfl ?_
  refine xw_iconst (v := 0) d_Ma_init_30 (by decide) ?_
  obtain ⟨f20, hA, hB, hw⟩ := hw
  refine xw_puti fs_Ma_26 d_Ma_init_31 hA hB ?_
  generalize hh : xu h19 this (.inr (2, f20.set 3 (.int (0)))) = h21
  have hw := hw h21 hh.symm
  refine xw_iconst (v := 0) d_Ma_init_34 (by decide) ?_
  refine xs_istore_n (lv' := [some (.ref (this)), some (.int (0))]) d_Ma_init_35 rfl rfl rfl ?_
  obtain ⟨n22, hw⟩ := hw
  exact p_Ma_init_36  n22 (this) (0) h21 k13 k15 hw
set_option maxRecDepth 100000 in
def w_Ma_row (Q : Option Value → xH → Prop) (this : Nat) (p1 : Int32) (h : xH) : Prop := ((p1 < 0 → Q (some (.null)) h) ∧ (¬ p1 < 0 → ∃ (f1 : List Value) (x2 : Int32), h.2 this = some (.inr (2, f1)) ∧ f1[2]? = some (.int x2) ∧ ((x2 ≤ p1 → Q (some (.null)) h) ∧ (¬ x2 ≤ p1 → ((120 ≤ p1 → Q (some (.null)) h) ∧ (¬ 120 ≤ p1 → ∃ (f3 : List Value) (a4 : Nat), h.2 this = some (.inr (2, f3)) ∧ f3[0]? = some (.ref a4) ∧ ∃ t7 y8 ar5 a6, xTys[t7]? = some y8 ∧ y8.isReference = true ∧ h.2 a4 = some (.inl (t7, .inr ar5)) ∧ 0 ≤ p1 ∧ ar5[p1.toNatClampNeg]? = some (some a6) ∧ Q (some (.ref (a6))) h))))))
set_option maxRecDepth 100000 in
set_option maxHeartbeats 4000000 in
theorem x_Ma_row {sc : List Int32} {Q : Option Value → xH → Prop} {this : Nat} {p1 : Int32} {h : xH} (hw : w_Ma_row Q this p1 h) : xMet sc m_Ma_row 0 0 0 [.ref (this), .int (p1)] h Q := by
  unfold w_Ma_row at hw
  refine xMet.of2 cw_Ma_row rfl rfl ?_
  show xW sc m_Ma_row 0 0 0 0 [some (.ref (this)), some (.int (p1))] [] h Q
  refine xw_iload_n d_Ma_row_0 rfl rfl ?_
  refine xw_if_lt (tgt := 27) d_Ma_row_1 (by decide) (fun c11 => ?_) (fun c11 => ?_)
  · have hw := hw.1 c11
    refine xw_null d_Ma_row_27 ?_
    exact xw_areturn rfl (Or.inl ⟨_, rfl⟩) (Or.inl rfl) d_Ma_row_28 hw
  · have hw := hw.2 c11
    refine xw_iload_n d_Ma_row_4 rfl rfl ?_
    refine xw_aload_n d_Ma_row_5 rfl rfl ?_
    obtain ⟨f1, x2, hA, hB, hw⟩ := hw
    refine xw_getr fr_Ma_22 d_Ma_row_6 hA hB ?_
    refine xw_icmp_ge (tgt := 27) d_Ma_row_9 (by decide) (fun c10 => ?_) (fun c10 => ?_)
    · have hw := hw.1 c10
      refine xw_null d_Ma_row_27 ?_
      exact xw_areturn rfl (Or.inl ⟨_, rfl⟩) (Or.inl rfl) d_Ma_row_28 hw
    · have hw := hw.2 c10
      refine xw_iload_n d_Ma_row_12 rfl rfl ?_
      refine xw_bipush (v := 120) d_Ma_row_13 (by decide) ?_
      refine xw_icmp_ge (tgt := 27) d_Ma_row_15 (by decide) (fun c9 => ?_) (fun c9 => ?_)
      · have hw := hw.1 c9
        refine xw_null d_Ma_row_27 ?_
        exact xw_areturn rfl (Or.inl ⟨_, rfl⟩) (Or.inl rfl) d_Ma_row_28 hw
      · have hw := hw.2 c9
        refine xw_aload_n d_Ma_row_18 rfl rfl ?_
        obtain ⟨f3, a4, hA, hB, hw⟩ := hw
        refine xw_getr fr_Ma_11 d_Ma_row_19 hA hB ?_
        refine xw_iload_n d_Ma_row_22 rfl rfl ?_
        obtain ⟨t7, y8, ar5, a6, hT, hY, hA, hB, hC, hw⟩ := hw
        refine xw_aaload hT hY d_Ma_row_23 hA hB hC ?_
        show xW sc m_Ma_row 0 0 0 24 [some (.ref (this)), some (.int (p1))] [.ref (a6)] h Q
        refine xw_goto (tgt := 28) d_Ma_row_24 (by decide) ?_
        exact xw_areturn rfl (Or.inl ⟨_, rfl⟩) (Or.inr ⟨_, rfl⟩) d_Ma_row_28 hw
set_option maxRecDepth 100000 in
def w_Se_copyFrom (Q : Option Value → xH → Prop) (this : Nat) (p1 : Nat) (h : xH) : Prop := ∃ (f1 : List Value) (a2 : Nat), h.2 p1 = some (.inr (5, f1)) ∧ f1[0]? = some (.ref a2) ∧ ∃ (f3 : List Value) (a4 : Nat), h.2 this = some (.inr (5, f3)) ∧ f3[0]? = some (.ref a4) ∧ ∃ ar5 ar6, h.2 a2 = some (.inl (0, .inl ar5)) ∧ h.2 a4 = some (.inl (0, .inl ar6)) ∧ ¬ (0 : Int32) < 0 ∧ ¬ (0 : Int32) < 0 ∧ ¬ (16 : Int32) < 0 ∧ (0 : Int32).toNatClampNeg + (16 : Int32).toNatClampNeg ≤ ar5.length ∧ (0 : Int32).toNatClampNeg + (16 : Int32).toNatClampNeg ≤ ar6.length ∧ ∀ h7, h7 = xu h a4 (.inl (0, .inl (xcp ar5 ar6 (0 : Int32).toNatClampNeg (0 : Int32).toNatClampNeg (16 : Int32).toNatClampNeg))) → ∃ (f8 : List Value) (a9 : Nat), h7.2 p1 = some (.inr (5, f8)) ∧ f8[1]? = some (.ref a9) ∧ ∃ (f10 : List Value) (a11 : Nat), h7.2 this = some (.inr (5, f10)) ∧ f10[1]? = some (.ref a11) ∧ ∃ ar12 ar13, h7.2 a9 = some (.inl (0, .inl ar12)) ∧ h7.2 a11 = some (.inl (0, .inl ar13)) ∧ ¬ (0 : Int32) < 0 ∧ ¬ (0 : Int32) < 0 ∧ ¬ (16 : Int32) < 0 ∧ (0 : Int32).toNatClampNeg + (16 : Int32).toNatClampNeg ≤ ar12.length ∧ (0 : Int32).toNatClampNeg + (16 : Int32).toNatClampNeg ≤ ar13.length ∧ ∀ h14, h14 = xu h7 a11 (.inl (0, .inl (xcp ar12 ar13 (0 : Int32).toNatClampNeg (0 : Int32).toNatClampNeg (16 : Int32).toNatClampNeg))) → Q none h14
set_option maxRecDepth 100000 in
set_option maxHeartbeats 4000000 in
theorem x_Se_copyFrom {sc : List Int32} {Q : Option Value → xH → Prop} {this : Nat} {p1 : Nat} {h : xH} (hw : w_Se_copyFrom Q this p1 h) : xMet sc m_Se_copyFrom 1 0 0 [.ref (this), .ref (p1)] h Q := by
  unfold w_Se_copyFrom at hw
  refine xMet.of2 cw_Se_copyFrom rfl rfl ?_
  show xW sc m_Se_copyFrom 1 0 0 0 [some (.ref (this)), some (.ref (p1))] [] h Q
  refine xw_aload_n d_Se_copyFrom_0 rfl rfl ?_
  obtain ⟨f1, a2, hA, hB, hw⟩ := hw
  refine xw_getr fr_Se_9 d_Se_copyFrom_1 hA hB ?_
  refine xw_iconst (v := 0) d_Se_copyFrom_4 (by decide) ?_
  refine xw_aload_n d_Se_copyFrom_5 rfl rfl ?_
  obtain ⟨f3, a4, hA, hB, hw⟩ := hw
  refine xw_getr fr_Se_9 d_Se_copyFrom_6 hA hB ?_
  refine xw_iconst (v := 0) d_Se_copyFrom_9 (by decide) ?_
  refine xw_bipush (v := 16) d_Se_copyFrom_10 (by decide) ?_
  obtain ⟨ar5, ar6, hA, hB, hC, hD, hE, hF, hG, hw⟩ := hw
  refine xw_copy (t := 0) rfl ac_Se_30 d_Se_copyFrom_12 (Nat.le_of_ble_eq_true rfl) hA hB hC hD hE hF hG (Nat.le_of_ble_eq_true rfl) ?_
  generalize hh : xu h a4 (.inl (0, .inl (xcp ar5 ar6 (0 : Int32).toNatClampNeg (0 : Int32).toNatClampNeg (16 : Int32).toNatClampNeg))) = h7
  have hw := hw h7 hh.symm
  refine xw_aload_n d_Se_copyFrom_15 rfl rfl ?_
  obtain ⟨f8, a9, hA, hB, hw⟩ := hw
  refine xw_getr fr_Se_15 d_Se_copyFrom_16 hA hB ?_
  refine xw_iconst (v := 0) d_Se_copyFrom_19 (by decide) ?_
  refine xw_aload_n d_Se_copyFrom_20 rfl rfl ?_
  obtain ⟨f10, a11, hA, hB, hw⟩ := hw
  refine xw_getr fr_Se_15 d_Se_copyFrom_21 hA hB ?_
  refine xw_iconst (v := 0) d_Se_copyFrom_24 (by decide) ?_
  refine xw_bipush (v := 16) d_Se_copyFrom_25 (by decide) ?_
  obtain ⟨ar12, ar13, hA, hB, hC, hD, hE, hF, hG, hw⟩ := hw
  refine xw_copy (t := 0) rfl ac_Se_30 d_Se_copyFrom_27 (Nat.le_of_ble_eq_true rfl) hA hB hC hD hE hF hG (Nat.le_of_ble_eq_true rfl) ?_
  generalize hh : xu h7 a11 (.inl (0, .inl (xcp ar12 ar13 (0 : Int32).toNatClampNeg (0 : Int32).toNatClampNeg (16 : Int32).toNatClampNeg))) = h14
  have hw := hw h14 hh.symm
  exact xw_return rfl d_Se_copyFrom_30 hw
set_option maxRecDepth 100000 in
def w_Me_copyFrom (Q : Option Value → xH → Prop) (this : Nat) (p1 : Nat) (h : xH) : Prop := ∃ (f1 : List Value) (x2 : Int32), h.2 p1 = some (.inr (3, f1)) ∧ f1[0]? = some (.int x2) ∧ ∃ f3, h.2 this = some (.inr (3, f3)) ∧ 0 < f3.length ∧ ∀ h4, h4 = xu h this (.inr (3, f3.set 0 (.int (x2)))) → ∃ (f5 : List Value) (x6 : Int32), h4.2 p1 = some (.inr (3, f5)) ∧ f5[1]? = some (.int x6) ∧ ∃ f7, h4.2 this = some (.inr (3, f7)) ∧ 1 < f7.length ∧ ∀ h8, h8 = xu h4 this (.inr (3, f7.set 1 (.int (x6)))) → ∃ (f9 : List Value) (x10 : Int32), h8.2 p1 = some (.inr (3, f9)) ∧ f9[2]? = some (.int x10) ∧ ∃ f11, h8.2 this = some (.inr (3, f11)) ∧ 2 < f11.length ∧ ∀ h12, h12 = xu h8 this (.inr (3, f11.set 2 (.int (x10)))) → ∃ (f13 : List Value) (x14 : Int32), h12.2 p1 = some (.inr (3, f13)) ∧ f13[3]? = some (.int x14) ∧ ∃ f15, h12.2 this = some (.inr (3, f15)) ∧ 3 < f15.length ∧ ∀ h16, h16 = xu h12 this (.inr (3, f15.set 3 (.int (x14)))) → ∃ (f17 : List Value) (x18 : Int32), h16.2 p1 = some (.inr (3, f17)) ∧ f17[4]? = some (.int x18) ∧ ∃ f19, h16.2 this = some (.inr (3, f19)) ∧ 4 < f19.length ∧ ∀ h20, h20 = xu h16 this (.inr (3, f19.set 4 (.int (x18)))) → ∃ (f21 : List Value) (x22 : Int32), h20.2 p1 = some (.inr (3, f21)) ∧ f21[5]? = some (.int x22) ∧ ∃ f23, h20.2 this = some (.inr (3, f23)) ∧ 5 < f23.length ∧ ∀ h24, h24 = xu h20 this (.inr (3, f23.set 5 (.int (x22)))) → ∃ (f25 : List Value) (x26 : Int32), h24.2 p1 = some (.inr (3, f25)) ∧ f25[6]? = some (.int x26) ∧ ∃ f27, h24.2 this = some (.inr (3, f27)) ∧ 6 < f27.length ∧ ∀ h28, h28 = xu h24 this (.inr (3, f27.set 6 (.int (x26)))) → ∃ (f29 : List Value) (x30 : Int32), h28.2 p1 = some (.inr (3, f29)) ∧ f29[7]? = some (.int x30) ∧ ∃ f31, h28.2 this = some (.inr (3, f31)) ∧ 7 < f31.length ∧ ∀ h32, h32 = xu h28 this (.inr (3, f31.set 7 (.int (x30)))) → ∃ (f33 : List Value) (a34 : Nat), h32.2 this = some (.inr (3, f33)) ∧ f33[8]? = some (.ref a34) ∧ ∃ (f35 : List Value) (a36 : Nat), h32.2 p1 = some (.inr (3, f35)) ∧ f35[8]? = some (.ref a36) ∧ (∃ f38, h32.2 a34 = some (.inr (5, f38))) ∧ w_Se_copyFrom (fun v h37 => v = none ∧ ∃ (f39 : List Value) (a40 : Nat), h37.2 this = some (.inr (3, f39)) ∧ f39[9]? = some (.ref a40) ∧ ∃ (f41 : List Value) (a42 : Nat), h37.2 p1 = some (.inr (3, f41)) ∧ f41[9]? = some (.ref a42) ∧ (∃ f44, h37.2 a40 = some (.inr (1, f44))) ∧ w_Co_copyFrom (fun v h43 => v = none ∧ Q none h43) a40 a42 h37) a34 a36 h32
set_option maxRecDepth 100000 in
set_option maxHeartbeats 4000000 in
theorem x_Me_copyFrom {sc : List Int32} {Q : Option Value → xH → Prop} {this : Nat} {p1 : Nat} {h : xH} (hw : w_Me_copyFrom Q this p1 h) : xMet sc m_Me_copyFrom 2 0 0 [.ref (this), .ref (p1)] h Q := by
  unfold w_Me_copyFrom at hw
  refine xMet.of2 cw_Me_copyFrom rfl rfl ?_
  show xW sc m_Me_copyFrom 2 0 0 0 [some (.ref (this)), some (.ref (p1))] [] h Q
  refine xw_aload_n d_Me_copyFrom_0 rfl rfl ?_
  refine xw_aload_n d_Me_copyFrom_1 rfl rfl ?_
  obtain ⟨f1, x2, hA, hB, hw⟩ := hw
  refine xw_getr fr_Me_25 d_Me_copyFrom_2 hA hB ?_
  obtain ⟨f3, hA, hB, hw⟩ := hw
  refine xw_puti fs_Me_25 d_Me_copyFrom_5 hA hB ?_
  generalize hh : xu h this (.inr (3, f3.set 0 (.int (x2)))) = h4
  have hw := hw h4 hh.symm
  refine xw_aload_n d_Me_copyFrom_8 rfl rfl ?_
  refine xw_aload_n d_Me_copyFrom_9 rfl rfl ?_
  obtain ⟨f5, x6, hA, hB, hw⟩ := hw
  refine xw_getr fr_Me_52 d_Me_copyFrom_10 hA hB ?_
  obtain ⟨f7, hA, hB, hw⟩ := hw
  refine xw_puti fs_Me_52 d_Me_copyFrom_13 hA hB ?_
  generalize hh : xu h4 this (.inr (3, f7.set 1 (.int (x6)))) = h8
  have hw := hw h8 hh.symm
  refine xw_aload_n d_Me_copyFrom_16 rfl rfl ?_
  refine xw_aload_n d_Me_copyFrom_17 rfl rfl ?_
  obtain ⟨f9, x10, hA, hB, hw⟩ := hw
  refine xw_getr fr_Me_55 d_Me_copyFrom_18 hA hB ?_
  obtain ⟨f11, hA, hB, hw⟩ := hw
  refine xw_puti fs_Me_55 d_Me_copyFrom_21 hA hB ?_
  generalize hh : xu h8 this (.inr (3, f11.set 2 (.int (x10)))) = h12
  have hw := hw h12 hh.symm
  refine xw_aload_n d_Me_copyFrom_24 rfl rfl ?_
  refine xw_aload_n d_Me_copyFrom_25 rfl rfl ?_
  obtain ⟨f13, x14, hA, hB, hw⟩ := hw
  refine xw_getr fr_Me_29 d_Me_copyFrom_26 hA hB ?_
  obtain ⟨f15, hA, hB, hw⟩ := hw
  refine xw_puti fs_Me_29 d_Me_copyFrom_29 hA hB ?_
  generalize hh : xu h12 this (.inr (3, f15.set 3 (.int (x14)))) = h16
  have hw := hw h16 hh.symm
  refine xw_aload_n d_Me_copyFrom_32 rfl rfl ?_
  refine xw_aload_n d_Me_copyFrom_33 rfl rfl ?_
  obtain ⟨f17, x18, hA, hB, hw⟩ := hw
  refine xw_getr fr_Me_32 d_Me_copyFrom_34 hA hB ?_
  obtain ⟨f19, hA, hB, hw⟩ := hw
  refine xw_puti fs_Me_32 d_Me_copyFrom_37 hA hB ?_
  generalize hh : xu h16 this (.inr (3, f19.set 4 (.int (x18)))) = h20
  have hw := hw h20 hh.symm
  refine xw_aload_n d_Me_copyFrom_40 rfl rfl ?_
  refine xw_aload_n d_Me_copyFrom_41 rfl rfl ?_
  obtain ⟨f21, x22, hA, hB, hw⟩ := hw
  refine xw_getr fr_Me_35 d_Me_copyFrom_42 hA hB ?_
  obtain ⟨f23, hA, hB, hw⟩ := hw
  refine xw_puti fs_Me_35 d_Me_copyFrom_45 hA hB ?_
  generalize hh : xu h20 this (.inr (3, f23.set 5 (.int (x22)))) = h24
  have hw := hw h24 hh.symm
  refine xw_aload_n d_Me_copyFrom_48 rfl rfl ?_
  refine xw_aload_n d_Me_copyFrom_49 rfl rfl ?_
  obtain ⟨f25, x26, hA, hB, hw⟩ := hw
  refine xw_getr fr_Me_38 d_Me_copyFrom_50 hA hB ?_
  obtain ⟨f27, hA, hB, hw⟩ := hw
  refine xw_puti fs_Me_38 d_Me_copyFrom_53 hA hB ?_
  generalize hh : xu h24 this (.inr (3, f27.set 6 (.int (x26)))) = h28
  have hw := hw h28 hh.symm
  refine xw_aload_n d_Me_copyFrom_56 rfl rfl ?_
  refine xw_aload_n d_Me_copyFrom_57 rfl rfl ?_
  obtain ⟨f29, x30, hA, hB, hw⟩ := hw
  refine xw_getr fr_Me_41 d_Me_copyFrom_58 hA hB ?_
  obtain ⟨f31, hA, hB, hw⟩ := hw
  refine xw_puti fs_Me_41 d_Me_copyFrom_61 hA hB ?_
  generalize hh : xu h28 this (.inr (3, f31.set 7 (.int (x30)))) = h32
  have hw := hw h32 hh.symm
  refine xw_aload_n d_Me_copyFrom_64 rfl rfl ?_
  obtain ⟨f33, a34, hA, hB, hw⟩ := hw
  refine xw_getr fr_Me_12 d_Me_copyFrom_65 hA hB ?_
  refine xw_aload_n d_Me_copyFrom_68 rfl rfl ?_
  obtain ⟨f35, a36, hA, hB, hw⟩ := hw
  refine xw_getr fr_Me_12 d_Me_copyFrom_69 hA hB ?_
  obtain ⟨⟨f38, hA⟩, hw⟩ := hw
  refine xc_V1n lk_Me_59 in_Se_copyFrom d_Me_copyFrom_72 (x_Se_copyFrom hw) rfl hA rfl ?_
  intro h37 hw
  refine xw_aload_n d_Me_copyFrom_75 rfl rfl ?_
  obtain ⟨f39, a40, hA, hB, hw⟩ := hw
  refine xw_getr fr_Me_21 d_Me_copyFrom_76 hA hB ?_
  refine xw_aload_n d_Me_copyFrom_79 rfl rfl ?_
  obtain ⟨f41, a42, hA, hB, hw⟩ := hw
  refine xw_getr fr_Me_21 d_Me_copyFrom_80 hA hB ?_
  obtain ⟨⟨f44, hA⟩, hw⟩ := hw
  refine xc_V1n lk_Me_63 in_Co_copyFrom d_Me_copyFrom_83 (x_Co_copyFrom hw) rfl hA rfl ?_
  intro h43 hw
  exact xw_return rfl d_Me_copyFrom_86 hw
set_option maxRecDepth 100000 in
def w_Ma_send (Q : Option Value → xH → Prop) (this : Nat) (p1 : Nat) (h : xH) : Prop := ∃ (f1 : List Value) (x2 : Int32), h.2 this = some (.inr (2, f1)) ∧ f1[2]? = some (.int x2) ∧ ((x2 < 120 → ∃ (f3 : List Value) (a4 : Nat), h.2 this = some (.inr (2, f3)) ∧ f3[0]? = some (.ref a4) ∧ ∃ (f5 : List Value) (x6 : Int32), h.2 this = some (.inr (2, f5)) ∧ f5[2]? = some (.int x6) ∧ ∃ t9 y10 ar7 a8, xTys[t9]? = some y10 ∧ y10.isReference = true ∧ h.2 a4 = some (.inl (t9, .inr ar7)) ∧ 0 ≤ x6 ∧ ar7[x6.toNatClampNeg]? = some (some a8) ∧ (∃ f12, h.2 a8 = some (.inr (3, f12))) ∧ w_Me_copyFrom (fun v h11 => v = none ∧ ∃ (f13 : List Value) (x14 : Int32), h11.2 this = some (.inr (2, f13)) ∧ f13[2]? = some (.int x14) ∧ ∃ f15, h11.2 this = some (.inr (2, f15)) ∧ 2 < f15.length ∧ ∀ h16, h16 = xu h11 this (.inr (2, f15.set 2 (.int (x14 + 1)))) → Q none h16) a8 p1 h) ∧ (¬ x2 < 120 → ∃ (f17 : List Value) (x18 : Int32), h.2 this = some (.inr (2, f17)) ∧ f17[3]? = some (.int x18) ∧ ∃ f19, h.2 this = some (.inr (2, f19)) ∧ 3 < f19.length ∧ ∀ h20, h20 = xu h this (.inr (2, f19.set 3 (.int (x18 + 1)))) → Q none h20))
set_option maxRecDepth 100000 in
set_option maxHeartbeats 4000000 in
theorem x_Ma_send {sc : List Int32} {Q : Option Value → xH → Prop} {this : Nat} {p1 : Nat} {h : xH} (hw : w_Ma_send Q this p1 h) : xMet sc m_Ma_send 3 0 0 [.ref (this), .ref (p1)] h Q := by
  unfold w_Ma_send at hw
  refine xMet.of2 cw_Ma_send rfl rfl ?_
  show xW sc m_Ma_send 3 0 0 0 [some (.ref (this)), some (.ref (p1))] [] h Q
  refine xw_aload_n d_Ma_send_0 rfl rfl ?_
  obtain ⟨f1, x2, hA, hB, hw⟩ := hw
  refine xw_getr fr_Ma_22 d_Ma_send_1 hA hB ?_
  refine xw_bipush (v := 120) d_Ma_send_4 (by decide) ?_
  refine xw_icmp_lt (tgt := 20) d_Ma_send_6 (by decide) (fun c21 => ?_) (fun c21 => ?_)
  · have hw := hw.1 c21
    refine xw_aload_n d_Ma_send_20 rfl rfl ?_
    obtain ⟨f3, a4, hA, hB, hw⟩ := hw
    refine xw_getr fr_Ma_11 d_Ma_send_21 hA hB ?_
    refine xw_aload_n d_Ma_send_24 rfl rfl ?_
    obtain ⟨f5, x6, hA, hB, hw⟩ := hw
    refine xw_getr fr_Ma_22 d_Ma_send_25 hA hB ?_
    obtain ⟨t9, y10, ar7, a8, hT, hY, hA, hB, hC, hw⟩ := hw
    refine xw_aaload hT hY d_Ma_send_28 hA hB hC ?_
    show xW sc m_Ma_send 3 0 0 29 [some (.ref (this)), some (.ref (p1))] [.ref (a8)] h Q
    refine xw_aload_n d_Ma_send_29 rfl rfl ?_
    obtain ⟨⟨f12, hA⟩, hw⟩ := hw
    refine xc_V1n lk_Ma_29 in_Me_copyFrom d_Ma_send_30 (x_Me_copyFrom hw) rfl hA rfl ?_
    intro h11 hw
    refine xw_aload_n d_Ma_send_33 rfl rfl ?_
    refine xw_dup d_Ma_send_34 rfl ?_
    obtain ⟨f13, x14, hA, hB, hw⟩ := hw
    refine xw_getr fr_Ma_22 d_Ma_send_35 hA hB ?_
    refine xw_iconst (v := 1) d_Ma_send_38 (by decide) ?_
    refine xw_iadd d_Ma_send_39 ?_
    obtain ⟨f15, hA, hB, hw⟩ := hw
    refine xw_puti fs_Ma_22 d_Ma_send_40 hA hB ?_
    generalize hh : xu h11 this (.inr (2, f15.set 2 (.int (x14 + 1)))) = h16
    have hw := hw h16 hh.symm
    exact xw_return rfl d_Ma_send_43 hw
  · have hw := hw.2 c21
    refine xw_aload_n d_Ma_send_9 rfl rfl ?_
    refine xw_dup d_Ma_send_10 rfl ?_
    obtain ⟨f17, x18, hA, hB, hw⟩ := hw
    refine xw_getr fr_Ma_26 d_Ma_send_11 hA hB ?_
    refine xw_iconst (v := 1) d_Ma_send_14 (by decide) ?_
    refine xw_iadd d_Ma_send_15 ?_
    obtain ⟨f19, hA, hB, hw⟩ := hw
    refine xw_puti fs_Ma_26 d_Ma_send_16 hA hB ?_
    generalize hh : xu h this (.inr (2, f19.set 3 (.int (x18 + 1)))) = h20
    have hw := hw h20 hh.symm
    exact xw_return rfl d_Ma_send_19 hw
set_option maxRecDepth 100000 in
def w_Ma_takeOut_52 (Q : Option Value → xH → Prop) (l0 : Nat) (l1 : Int32) (l2 : Nat) (l3 : Int32) (h : xH) : Prop := ∃ (f1 : List Value) (x2 : Int32), h.2 l0 = some (.inr (2, f1)) ∧ f1[2]? = some (.int x2) ∧ ∃ f3, h.2 l0 = some (.inr (2, f3)) ∧ 2 < f3.length ∧ ∀ h4, h4 = xu h l0 (.inr (2, f3.set 2 (.int (x2 - 1)))) → ∃ (f5 : List Value) (a6 : Nat), h4.2 l0 = some (.inr (2, f5)) ∧ f5[0]? = some (.ref a6) ∧ ∃ (f7 : List Value) (x8 : Int32), h4.2 l0 = some (.inr (2, f7)) ∧ f7[2]? = some (.int x8) ∧ ∃ (f9 : List Value) (a10 : Nat), h4.2 l0 = some (.inr (2, f9)) ∧ f9[1]? = some (.ref a10) ∧ ∃ (t13 : Nat) (q14 : vw_C) (ar11 : List (Option Nat)) (c15 : Nat) (v16 : List Value), xTys[t13]? = some (.object q14.1) ∧ vwCl[c15]? = some q14 ∧ h4.2 a6 = some (.inl (t13, .inr ar11)) ∧ h4.2 a10 = some (.inr (c15, v16)) ∧ 0 ≤ x8 ∧ x8.toNatClampNeg < ar11.length ∧ ∀ h12, h12 = xu h4 a6 (.inl (t13, .inr (ar11.set x8.toNatClampNeg (some a10)))) → ∃ f17, h12.2 l0 = some (.inr (2, f17)) ∧ 1 < f17.length ∧ ∀ h18, h18 = xu h12 l0 (.inr (2, f17.set 1 (.ref (l2)))) → Q (some (.ref (l2))) h18
set_option maxRecDepth 100000 in
set_option maxHeartbeats 4000000 in
theorem p_Ma_takeOut_52 {sc : List Int32} {Q : Option Value → xH → Prop} (l0 : Nat) (l1 : Int32) (l2 : Nat) (l3 : Int32) (h : xH) (hw : w_Ma_takeOut_52 Q l0 l1 l2 l3 h) : xW sc m_Ma_takeOut 1 0 0 52 [some (.ref (l0)), some (.int (l1)), some (.ref (l2)), some (.int (l3))] [] h Q := by
  unfold w_Ma_takeOut_52 at hw
  refine xw_aload_n d_Ma_takeOut_52 rfl rfl ?_
  refine xw_dup d_Ma_takeOut_53 rfl ?_
  obtain ⟨f1, x2, hA, hB, hw⟩ := hw
  refine xw_getr fr_Ma_22 d_Ma_takeOut_54 hA hB ?_
  refine xw_iconst (v := 1) d_Ma_takeOut_57 (by decide) ?_
  refine xw_isub d_Ma_takeOut_58 ?_
  obtain ⟨f3, hA, hB, hw⟩ := hw
  refine xw_puti fs_Ma_22 d_Ma_takeOut_59 hA hB ?_
  generalize hh : xu h l0 (.inr (2, f3.set 2 (.int (x2 - 1)))) = h4
  have hw := hw h4 hh.symm
  refine xw_aload_n d_Ma_takeOut_62 rfl rfl ?_
  obtain ⟨f5, a6, hA, hB, hw⟩ := hw
  refine xw_getr fr_Ma_11 d_Ma_takeOut_63 hA hB ?_
  refine xw_aload_n d_Ma_takeOut_66 rfl rfl ?_
  obtain ⟨f7, x8, hA, hB, hw⟩ := hw
  refine xw_getr fr_Ma_22 d_Ma_takeOut_67 hA hB ?_
  refine xw_aload_n d_Ma_takeOut_70 rfl rfl ?_
  obtain ⟨f9, a10, hA, hB, hw⟩ := hw
  refine xw_getr fr_Ma_18 d_Ma_takeOut_71 hA hB ?_
  obtain ⟨t13, q14, ar11, c15, v16, hT, hV, hA, hE, hB, hC, hw⟩ := hw
  refine xw_aastore hT hV d_Ma_takeOut_74 hA hE hB hC ?_
  generalize hh : xu h4 a6 (.inl (t13, .inr (ar11.set x8.toNatClampNeg (some a10)))) = h12
  have hw := hw h12 hh.symm
  refine xw_aload_n d_Ma_takeOut_75 rfl rfl ?_
  refine xw_aload_n d_Ma_takeOut_76 rfl rfl ?_
  obtain ⟨f17, hA, hB, hw⟩ := hw
  refine xw_putr fs_Ma_18 (Or.inl ⟨_, rfl⟩) d_Ma_takeOut_77 hA hB ?_
  generalize hh : xu h12 l0 (.inr (2, f17.set 1 (.ref (l2)))) = h18
  have hw := hw h18 hh.symm
  refine xw_aload_n d_Ma_takeOut_80 rfl rfl ?_
  exact xw_areturn rfl (Or.inl ⟨_, rfl⟩) (Or.inr ⟨_, rfl⟩) d_Ma_takeOut_81 hw
set_option maxRecDepth 100000 in
def w_Ma_takeOut_14 (Q : Option Value → xH → Prop) : Nat → Nat → Int32 → Nat → Int32 → xH → Prop
  | 0, _, _, _, _, _ => False
  | n + 1, l0, l1, l2, l3, h => ∃ (f1 : List Value) (x2 : Int32), h.2 l0 = some (.inr (2, f1)) ∧ f1[2]? = some (.int x2) ∧ ((x2 ≤ (l3 + 1) → w_Ma_takeOut_52 Q (l0) (l1) (l2) (l3) h) ∧ (¬ x2 ≤ (l3 + 1) → ((120 ≤ (l3 + 1) → w_Ma_takeOut_52 Q (l0) (l1) (l2) (l3) h) ∧ (¬ 120 ≤ (l3 + 1) → ∃ (f3 : List Value) (a4 : Nat), h.2 l0 = some (.inr (2, f3)) ∧ f3[0]? = some (.ref a4) ∧ ∃ (f5 : List Value) (a6 : Nat), h.2 l0 = some (.inr (2, f5)) ∧ f5[0]? = some (.ref a6) ∧ ∃ t9 y10 ar7 a8, xTys[t9]? = some y10 ∧ y10.isReference = true ∧ h.2 a6 = some (.inl (t9, .inr ar7)) ∧ 0 ≤ (l3 + 1 : Int32) ∧ ar7[(l3 + 1 : Int32).toNatClampNeg]? = some (some a8) ∧ ∃ (t13 : Nat) (q14 : vw_C) (ar11 : List (Option Nat)) (c15 : Nat) (v16 : List Value), xTys[t13]? = some (.object q14.1) ∧ vwCl[c15]? = some q14 ∧ h.2 a4 = some (.inl (t13, .inr ar11)) ∧ h.2 a8 = some (.inr (c15, v16)) ∧ 0 ≤ l3 ∧ l3.toNatClampNeg < ar11.length ∧ ∀ h12, h12 = xu h a4 (.inl (t13, .inr (ar11.set l3.toNatClampNeg (some a8)))) → w_Ma_takeOut_14 Q n (l0) (l1) (l2) (l3 + 1) h12))))
set_option maxRecDepth 100000 in
set_option maxHeartbeats 4000000 in
theorem p_Ma_takeOut_14 {sc : List Int32} {Q : Option Value → xH → Prop} : ∀ (n : Nat) (l0 : Nat) (l1 : Int32) (l2 : Nat) (l3 : Int32) (h : xH), w_Ma_takeOut_14 Q n l0 l1 l2 l3 h → xW sc m_Ma_takeOut 1 0 0 14 [some (.ref (l0)), some (.int (l1)), some (.ref (l2)), some (.int (l3))] [] h Q := by
  intro n
  induction n with
  | zero => intro l0 l1 l2 l3 h hw; exact False.elim hw
  | succ n ih =>
    intro l0 l1 l2 l3 h hw
    rw [w_Ma_takeOut_14] at hw
    refine xw_iload_n d_Ma_takeOut_14 rfl rfl ?_
    refine xw_iconst (v := 1) d_Ma_takeOut_15 (by decide) ?_
    refine xw_iadd d_Ma_takeOut_16 ?_
    refine xw_aload_n d_Ma_takeOut_17 rfl rfl ?_
    obtain ⟨f1, x2, hA, hB, hw⟩ := hw
    refine xw_getr fr_Ma_22 d_Ma_takeOut_18 hA hB ?_
    refine xw_icmp_ge (tgt := 52) d_Ma_takeOut_21 (by decide) (fun c18 => ?_) (fun c18 => ?_)
    · have hw := hw.1 c18
      exact p_Ma_takeOut_52  (l0) (l1) (l2) (l3) h hw
    · have hw := hw.2 c18
      refine xw_iload_n d_Ma_takeOut_24 rfl rfl ?_
      refine xw_iconst (v := 1) d_Ma_takeOut_25 (by decide) ?_
      refine xw_iadd d_Ma_takeOut_26 ?_
      refine xw_bipush (v := 120) d_Ma_takeOut_27 (by decide) ?_
      refine xw_icmp_ge (tgt := 52) d_Ma_takeOut_29 (by decide) (fun c17 => ?_) (fun c17 => ?_)
      · have hw := hw.1 c17
        exact p_Ma_takeOut_52  (l0) (l1) (l2) (l3) h hw
      · have hw := hw.2 c17
        refine xw_aload_n d_Ma_takeOut_32 rfl rfl ?_
        obtain ⟨f3, a4, hA, hB, hw⟩ := hw
        refine xw_getr fr_Ma_11 d_Ma_takeOut_33 hA hB ?_
        refine xw_iload_n d_Ma_takeOut_36 rfl rfl ?_
        refine xw_aload_n d_Ma_takeOut_37 rfl rfl ?_
        obtain ⟨f5, a6, hA, hB, hw⟩ := hw
        refine xw_getr fr_Ma_11 d_Ma_takeOut_38 hA hB ?_
        refine xw_iload_n d_Ma_takeOut_41 rfl rfl ?_
        refine xw_iconst (v := 1) d_Ma_takeOut_42 (by decide) ?_
        refine xw_iadd d_Ma_takeOut_43 ?_
        obtain ⟨t9, y10, ar7, a8, hT, hY, hA, hB, hC, hw⟩ := hw
        refine xw_aaload hT hY d_Ma_takeOut_44 hA hB hC ?_
        show xW sc m_Ma_takeOut 1 0 0 45 [some (.ref (l0)), some (.int (l1)), some (.ref (l2)), some (.int (l3))] [.ref (a8), .int (l3), .ref (a4)] h Q
        obtain ⟨t13, q14, ar11, c15, v16, hT, hV, hA, hE, hB, hC, hw⟩ := hw
        refine xw_aastore hT hV d_Ma_takeOut_45 hA hE hB hC ?_
        generalize hh : xu h a4 (.inl (t13, .inr (ar11.set l3.toNatClampNeg (some a8)))) = h12
        have hw := hw h12 hh.symm
        refine xs_iinc (v := l3 + 1) (lv' := [some (.ref (l0)), some (.int (l1)), some (.ref (l2)), some (.int (l3 + 1))]) d_Ma_takeOut_46 rfl rfl rfl ?_
        refine xw_goto (tgt := 14) d_Ma_takeOut_49 (by decide) ?_
        exact ih (l0) (l1) (l2) (l3 + 1) h12 hw
set_option maxRecDepth 100000 in
def w_Ma_takeOut (Q : Option Value → xH → Prop) (this : Nat) (p1 : Int32) (h : xH) : Prop := (∃ f2, h.2 this = some (.inr (2, f2))) ∧ w_Ma_row (fun v h1 => (v = some .null ∧ Q (some (.null)) h1) ∨ ∃ b3, v = some (.ref b3) ∧ ∃ n4, w_Ma_takeOut_14 Q n4 (this) (p1) (b3) (p1) h1) this p1 h
set_option maxRecDepth 100000 in
set_option maxHeartbeats 4000000 in
theorem x_Ma_takeOut {sc : List Int32} {Q : Option Value → xH → Prop} {this : Nat} {p1 : Int32} {h : xH} (hw : w_Ma_takeOut Q this p1 h) : xMet sc m_Ma_takeOut 1 0 0 [.ref (this), .int (p1)] h Q := by
  unfold w_Ma_takeOut at hw
  refine xMet.of2 cw_Ma_takeOut rfl rfl ?_
  show xW sc m_Ma_takeOut 1 0 0 0 [some (.ref (this)), some (.int (p1)), none, none] [] h Q
  refine xw_aload_n d_Ma_takeOut_0 rfl rfl ?_
  refine xw_iload_n d_Ma_takeOut_1 rfl rfl ?_
  obtain ⟨⟨f2, hA⟩, hw⟩ := hw
  refine xc_V1r lk_Ma_33 in_Ma_row d_Ma_takeOut_2 (x_Ma_row hw) rfl hA rfl ?_ ?_
  · intro h1 hw
    refine xs_astore_nN (lv' := [some (.ref (this)), some (.int (p1)), some (.null), none]) d_Ma_takeOut_5 rfl rfl rfl ?_
    refine xw_aload_nN d_Ma_takeOut_6 rfl rfl ?_
    refine xw_ifnonnullN d_Ma_takeOut_7 ?_
    refine xw_null d_Ma_takeOut_10 ?_
    exact xw_areturn rfl (Or.inl ⟨_, rfl⟩) (Or.inl rfl) d_Ma_takeOut_11 hw
  · intro b3 h1 hw
    refine xs_astore_n (lv' := [some (.ref (this)), some (.int (p1)), some (.ref (b3)), none]) d_Ma_takeOut_5 rfl rfl rfl ?_
    refine xw_aload_n d_Ma_takeOut_6 rfl rfl ?_
    refine xw_ifnonnull (tgt := 12) d_Ma_takeOut_7 (by decide) ?_
    refine xw_iload_n d_Ma_takeOut_12 rfl rfl ?_
    refine xs_istore_n (lv' := [some (.ref (this)), some (.int (p1)), some (.ref (b3)), some (.int (p1))]) d_Ma_takeOut_13 rfl rfl rfl ?_
    obtain ⟨n4, hw⟩ := hw
    exact p_Ma_takeOut_14  n4 (this) (p1) (b3) (p1) h1 hw
set_option maxRecDepth 100000 in
def w_Me_hasTag_16 (Q : Option Value → xH → Prop) (l0 : Nat) (h : xH) : Prop := (narrow .boolean (.int 1) = .int 1 ∧ Q (some (.int 1)) h)
set_option maxRecDepth 100000 in
set_option maxHeartbeats 4000000 in
theorem p_Me_hasTag_16 {sc : List Int32} {Q : Option Value → xH → Prop} (l0 : Nat) (h : xH) (hw : w_Me_hasTag_16 Q l0 h) : xW sc m_Me_hasTag 0 0 0 16 [some (.ref (l0))] [] h Q := by
  unfold w_Me_hasTag_16 at hw
  refine xw_iconst (v := 1) d_Me_hasTag_16 (by decide) ?_
  refine xw_goto (tgt := 21) d_Me_hasTag_17 (by decide) ?_
  exact xw_zreturn rfl hw.1 d_Me_hasTag_21 hw.2
set_option maxRecDepth 100000 in
def w_Me_hasTag (Q : Option Value → xH → Prop) (this : Nat) (h : xH) : Prop := ∃ (f1 : List Value) (x2 : Int32), h.2 this = some (.inr (3, f1)) ∧ f1[0]? = some (.int x2) ∧ ((x2 = 2 → w_Me_hasTag_16 Q (this) h) ∧ (¬ x2 = 2 → ∃ (f3 : List Value) (x4 : Int32), h.2 this = some (.inr (3, f3)) ∧ f3[0]? = some (.int x4) ∧ ((¬ x4 = 3 → (narrow .boolean (.int 0) = .int 0 ∧ Q (some (.int 0)) h)) ∧ (x4 = 3 → w_Me_hasTag_16 Q (this) h))))
set_option maxRecDepth 100000 in
set_option maxHeartbeats 4000000 in
theorem x_Me_hasTag {sc : List Int32} {Q : Option Value → xH → Prop} {this : Nat} {h : xH} (hw : w_Me_hasTag Q this h) : xMet sc m_Me_hasTag 0 0 0 [.ref (this)] h Q := by
  unfold w_Me_hasTag at hw
  refine xMet.of2 cw_Me_hasTag rfl rfl ?_
  show xW sc m_Me_hasTag 0 0 0 0 [some (.ref (this))] [] h Q
  refine xw_aload_n d_Me_hasTag_0 rfl rfl ?_
  obtain ⟨f1, x2, hA, hB, hw⟩ := hw
  refine xw_getr fr_Me_25 d_Me_hasTag_1 hA hB ?_
  refine xw_iconst (v := 2) d_Me_hasTag_4 (by decide) ?_
  refine xw_icmp_eq (tgt := 16) d_Me_hasTag_5 (by decide) (fun c6 => ?_) (fun c6 => ?_)
  · have hw := hw.1 c6
    exact p_Me_hasTag_16  (this) h hw
  · have hw := hw.2 c6
    refine xw_aload_n d_Me_hasTag_8 rfl rfl ?_
    obtain ⟨f3, x4, hA, hB, hw⟩ := hw
    refine xw_getr fr_Me_25 d_Me_hasTag_9 hA hB ?_
    refine xw_iconst (v := 3) d_Me_hasTag_12 (by decide) ?_
    refine xw_icmp_ne (tgt := 20) d_Me_hasTag_13 (by decide) (fun c5 => ?_) (fun c5 => ?_)
    · have hw := hw.1 c5
      refine xw_iconst (v := 0) d_Me_hasTag_20 (by decide) ?_
      exact xw_zreturn rfl hw.1 d_Me_hasTag_21 hw.2
    · have hw := hw.2 c5
      exact p_Me_hasTag_16  (this) h hw
set_option maxRecDepth 100000 in
def w_Me_clear (Q : Option Value → xH → Prop) (this : Nat) (h : xH) : Prop := ∃ f1, h.2 this = some (.inr (3, f1)) ∧ 0 < f1.length ∧ ∀ h2, h2 = xu h this (.inr (3, f1.set 0 (.int (0)))) → ∃ f3, h2.2 this = some (.inr (3, f3)) ∧ 3 < f3.length ∧ ∀ h4, h4 = xu h2 this (.inr (3, f3.set 3 (.int (0)))) → ∃ f5, h4.2 this = some (.inr (3, f5)) ∧ 4 < f5.length ∧ ∀ h6, h6 = xu h4 this (.inr (3, f5.set 4 (.int (0)))) → ∃ f7, h6.2 this = some (.inr (3, f7)) ∧ 5 < f7.length ∧ ∀ h8, h8 = xu h6 this (.inr (3, f7.set 5 (.int (0)))) → ∃ f9, h8.2 this = some (.inr (3, f9)) ∧ 6 < f9.length ∧ ∀ h10, h10 = xu h8 this (.inr (3, f9.set 6 (.int (0)))) → ∃ f11, h10.2 this = some (.inr (3, f11)) ∧ 7 < f11.length ∧ ∀ h12, h12 = xu h10 this (.inr (3, f11.set 7 (.int (0)))) → Q none h12
set_option maxRecDepth 100000 in
set_option maxHeartbeats 4000000 in
theorem x_Me_clear {sc : List Int32} {Q : Option Value → xH → Prop} {this : Nat} {h : xH} (hw : w_Me_clear Q this h) : xMet sc m_Me_clear 0 0 0 [.ref (this)] h Q := by
  unfold w_Me_clear at hw
  refine xMet.of2 cw_Me_clear rfl rfl ?_
  show xW sc m_Me_clear 0 0 0 0 [some (.ref (this))] [] h Q
  refine xw_aload_n d_Me_clear_0 rfl rfl ?_
  refine xw_iconst (v := 0) d_Me_clear_1 (by decide) ?_
  obtain ⟨f1, hA, hB, hw⟩ := hw
  refine xw_puti fs_Me_25 d_Me_clear_2 hA hB ?_
  generalize hh : xu h this (.inr (3, f1.set 0 (.int (0)))) = h2
  have hw := hw h2 hh.symm
  refine xw_aload_n d_Me_clear_5 rfl rfl ?_
  refine xw_iconst (v := 0) d_Me_clear_6 (by decide) ?_
  obtain ⟨f3, hA, hB, hw⟩ := hw
  refine xw_puti fs_Me_29 d_Me_clear_7 hA hB ?_
  generalize hh : xu h2 this (.inr (3, f3.set 3 (.int (0)))) = h4
  have hw := hw h4 hh.symm
  refine xw_aload_n d_Me_clear_10 rfl rfl ?_
  refine xw_iconst (v := 0) d_Me_clear_11 (by decide) ?_
  obtain ⟨f5, hA, hB, hw⟩ := hw
  refine xw_puti fs_Me_32 d_Me_clear_12 hA hB ?_
  generalize hh : xu h4 this (.inr (3, f5.set 4 (.int (0)))) = h6
  have hw := hw h6 hh.symm
  refine xw_aload_n d_Me_clear_15 rfl rfl ?_
  refine xw_iconst (v := 0) d_Me_clear_16 (by decide) ?_
  obtain ⟨f7, hA, hB, hw⟩ := hw
  refine xw_puti fs_Me_35 d_Me_clear_17 hA hB ?_
  generalize hh : xu h6 this (.inr (3, f7.set 5 (.int (0)))) = h8
  have hw := hw h8 hh.symm
  refine xw_aload_n d_Me_clear_20 rfl rfl ?_
  refine xw_iconst (v := 0) d_Me_clear_21 (by decide) ?_
  obtain ⟨f9, hA, hB, hw⟩ := hw
  refine xw_puti fs_Me_38 d_Me_clear_22 hA hB ?_
  generalize hh : xu h8 this (.inr (3, f9.set 6 (.int (0)))) = h10
  have hw := hw h10 hh.symm
  refine xw_aload_n d_Me_clear_25 rfl rfl ?_
  refine xw_iconst (v := 0) d_Me_clear_26 (by decide) ?_
  obtain ⟨f11, hA, hB, hw⟩ := hw
  refine xw_puti fs_Me_41 d_Me_clear_27 hA hB ?_
  generalize hh : xu h10 this (.inr (3, f11.set 7 (.int (0)))) = h12
  have hw := hw h12 hh.symm
  exact xw_return rfl d_Me_clear_30 hw
set_option maxRecDepth 100000 in
def w_Me_open (Q : Option Value → xH → Prop) (this : Nat) (p1 : Int32) (p2 : Nat) (p3 : Int32) (h : xH) : Prop := (∃ f2, h.2 this = some (.inr (3, f2))) ∧ w_Me_clear (fun v h1 => v = none ∧ ∃ f3, h1.2 this = some (.inr (3, f3)) ∧ 0 < f3.length ∧ ∀ h4, h4 = xu h1 this (.inr (3, f3.set 0 (.int (p1)))) → ∃ (f5 : List Value) (x6 : Int32), h4.2 p2 = some (.inr (4, f5)) ∧ f5[0]? = some (.int x6) ∧ ∃ f7, h4.2 this = some (.inr (3, f7)) ∧ 1 < f7.length ∧ ∀ h8, h8 = xu h4 this (.inr (3, f7.set 1 (.int (x6)))) → ∃ f9, h8.2 this = some (.inr (3, f9)) ∧ 2 < f9.length ∧ ∀ h10, h10 = xu h8 this (.inr (3, f9.set 2 (.int (p3)))) → ∃ (f11 : List Value) (a12 : Nat), h10.2 this = some (.inr (3, f11)) ∧ f11[8]? = some (.ref a12) ∧ ∃ (f13 : List Value) (a14 : Nat), h10.2 p2 = some (.inr (4, f13)) ∧ f13[8]? = some (.ref a14) ∧ (∃ f16, h10.2 a12 = some (.inr (5, f16))) ∧ w_Se_copyFrom (fun v h15 => v = none ∧ Q none h15) a12 a14 h10) this h
set_option maxRecDepth 100000 in
set_option maxHeartbeats 4000000 in
theorem x_Me_open {sc : List Int32} {Q : Option Value → xH → Prop} {this : Nat} {p1 : Int32} {p2 : Nat} {p3 : Int32} {h : xH} (hw : w_Me_open Q this p1 p2 p3 h) : xMet sc m_Me_open 2 0 0 [.ref (this), .int (p1), .ref (p2), .int (p3)] h Q := by
  unfold w_Me_open at hw
  refine xMet.of2 cw_Me_open rfl rfl ?_
  show xW sc m_Me_open 2 0 0 0 [some (.ref (this)), some (.int (p1)), some (.ref (p2)), some (.int (p3))] [] h Q
  refine xw_aload_n d_Me_open_0 rfl rfl ?_
  obtain ⟨⟨f2, hA⟩, hw⟩ := hw
  refine xc_V0n lk_Me_44 in_Me_clear d_Me_open_1 (x_Me_clear hw) rfl hA rfl ?_
  intro h1 hw
  refine xw_aload_n d_Me_open_4 rfl rfl ?_
  refine xw_iload_n d_Me_open_5 rfl rfl ?_
  obtain ⟨f3, hA, hB, hw⟩ := hw
  refine xw_puti fs_Me_25 d_Me_open_6 hA hB ?_
  generalize hh : xu h1 this (.inr (3, f3.set 0 (.int (p1)))) = h4
  have hw := hw h4 hh.symm
  refine xw_aload_n d_Me_open_9 rfl rfl ?_
  refine xw_aload_n d_Me_open_10 rfl rfl ?_
  obtain ⟨f5, x6, hA, hB, hw⟩ := hw
  refine xw_getr fr_Me_47 d_Me_open_11 hA hB ?_
  obtain ⟨f7, hA, hB, hw⟩ := hw
  refine xw_puti fs_Me_52 d_Me_open_14 hA hB ?_
  generalize hh : xu h4 this (.inr (3, f7.set 1 (.int (x6)))) = h8
  have hw := hw h8 hh.symm
  refine xw_aload_n d_Me_open_17 rfl rfl ?_
  refine xw_iload_n d_Me_open_18 rfl rfl ?_
  obtain ⟨f9, hA, hB, hw⟩ := hw
  refine xw_puti fs_Me_55 d_Me_open_19 hA hB ?_
  generalize hh : xu h8 this (.inr (3, f9.set 2 (.int (p3)))) = h10
  have hw := hw h10 hh.symm
  refine xw_aload_n d_Me_open_22 rfl rfl ?_
  obtain ⟨f11, a12, hA, hB, hw⟩ := hw
  refine xw_getr fr_Me_12 d_Me_open_23 hA hB ?_
  refine xw_aload_n d_Me_open_26 rfl rfl ?_
  obtain ⟨f13, a14, hA, hB, hw⟩ := hw
  refine xw_getr fr_Me_58 d_Me_open_27 hA hB ?_
  obtain ⟨⟨f16, hA⟩, hw⟩ := hw
  refine xc_V1n lk_Me_59 in_Se_copyFrom d_Me_open_30 (x_Se_copyFrom hw) rfl hA rfl ?_
  intro h15 hw
  exact xw_return rfl d_Me_open_33 hw
set_option maxRecDepth 100000 in
def w_Me_openAnswer (Q : Option Value → xH → Prop) (this : Nat) (p1 : Nat) (p2 : Int32) (h : xH) : Prop := (∃ f2, h.2 this = some (.inr (3, f2))) ∧ w_Me_clear (fun v h1 => v = none ∧ ∃ f3, h1.2 this = some (.inr (3, f3)) ∧ 1 < f3.length ∧ ∀ h4, h4 = xu h1 this (.inr (3, f3.set 1 (.int (p2)))) → ∃ (f5 : List Value) (x6 : Int32), h4.2 p1 = some (.inr (3, f5)) ∧ f5[1]? = some (.int x6) ∧ ∃ f7, h4.2 this = some (.inr (3, f7)) ∧ 2 < f7.length ∧ ∀ h8, h8 = xu h4 this (.inr (3, f7.set 2 (.int (x6)))) → ∃ (f9 : List Value) (x10 : Int32), h8.2 p1 = some (.inr (3, f9)) ∧ f9[3]? = some (.int x10) ∧ ∃ f11, h8.2 this = some (.inr (3, f11)) ∧ 3 < f11.length ∧ ∀ h12, h12 = xu h8 this (.inr (3, f11.set 3 (.int (x10)))) → ∃ (f13 : List Value) (x14 : Int32), h12.2 p1 = some (.inr (3, f13)) ∧ f13[4]? = some (.int x14) ∧ ∃ f15, h12.2 this = some (.inr (3, f15)) ∧ 4 < f15.length ∧ ∀ h16, h16 = xu h12 this (.inr (3, f15.set 4 (.int (x14)))) → Q none h16) this h
set_option maxRecDepth 100000 in
set_option maxHeartbeats 4000000 in
theorem x_Me_openAnswer {sc : List Int32} {Q : Option Value → xH → Prop} {this : Nat} {p1 : Nat} {p2 : Int32} {h : xH} (hw : w_Me_openAnswer Q this p1 p2 h) : xMet sc m_Me_openAnswer 1 0 0 [.ref (this), .ref (p1), .int (p2)] h Q := by
  unfold w_Me_openAnswer at hw
  refine xMet.of2 cw_Me_openAnswer rfl rfl ?_
  show xW sc m_Me_openAnswer 1 0 0 0 [some (.ref (this)), some (.ref (p1)), some (.int (p2))] [] h Q
  refine xw_aload_n d_Me_openAnswer_0 rfl rfl ?_
  obtain ⟨⟨f2, hA⟩, hw⟩ := hw
  refine xc_V0n lk_Me_44 in_Me_clear d_Me_openAnswer_1 (x_Me_clear hw) rfl hA rfl ?_
  intro h1 hw
  refine xw_aload_n d_Me_openAnswer_4 rfl rfl ?_
  refine xw_iload_n d_Me_openAnswer_5 rfl rfl ?_
  obtain ⟨f3, hA, hB, hw⟩ := hw
  refine xw_puti fs_Me_52 d_Me_openAnswer_6 hA hB ?_
  generalize hh : xu h1 this (.inr (3, f3.set 1 (.int (p2)))) = h4
  have hw := hw h4 hh.symm
  refine xw_aload_n d_Me_openAnswer_9 rfl rfl ?_
  refine xw_aload_n d_Me_openAnswer_10 rfl rfl ?_
  obtain ⟨f5, x6, hA, hB, hw⟩ := hw
  refine xw_getr fr_Me_52 d_Me_openAnswer_11 hA hB ?_
  obtain ⟨f7, hA, hB, hw⟩ := hw
  refine xw_puti fs_Me_55 d_Me_openAnswer_14 hA hB ?_
  generalize hh : xu h4 this (.inr (3, f7.set 2 (.int (x6)))) = h8
  have hw := hw h8 hh.symm
  refine xw_aload_n d_Me_openAnswer_17 rfl rfl ?_
  refine xw_aload_n d_Me_openAnswer_18 rfl rfl ?_
  obtain ⟨f9, x10, hA, hB, hw⟩ := hw
  refine xw_getr fr_Me_29 d_Me_openAnswer_19 hA hB ?_
  obtain ⟨f11, hA, hB, hw⟩ := hw
  refine xw_puti fs_Me_29 d_Me_openAnswer_22 hA hB ?_
  generalize hh : xu h8 this (.inr (3, f11.set 3 (.int (x10)))) = h12
  have hw := hw h12 hh.symm
  refine xw_aload_n d_Me_openAnswer_25 rfl rfl ?_
  refine xw_aload_n d_Me_openAnswer_26 rfl rfl ?_
  obtain ⟨f13, x14, hA, hB, hw⟩ := hw
  refine xw_getr fr_Me_32 d_Me_openAnswer_27 hA hB ?_
  obtain ⟨f15, hA, hB, hw⟩ := hw
  refine xw_puti fs_Me_32 d_Me_openAnswer_30 hA hB ?_
  generalize hh : xu h12 this (.inr (3, f15.set 4 (.int (x14)))) = h16
  have hw := hw h16 hh.symm
  exact xw_return rfl d_Me_openAnswer_33 hw
set_option maxRecDepth 100000 in
def w_Ta_init (Q : Option Value → xH → Prop) (this : Nat) (h : xH) (kc : Nat) (ks : Nat) : Prop := ∃ k3 k4, kc = k3 + 1 ∧ ks = k4 + 3 ∧ ∀ b2 h1, b2 = h.1 + 1 → h1 = xn h (.inr (1, [.null, .null, .null])) → ∃ k6 k7 k8 k9, k3 = k6 + k7 ∧ k4 = k8 + k9 ∧ w_Co_init (fun v h5 => v = none ∧ ∃ f10, h5.2 this = some (.inr (6, f10)) ∧ 13 < f10.length ∧ ∀ h11, h11 = xu h5 this (.inr (6, f10.set 13 (.ref (b2)))) → Q none h11) b2 h1 k6 k8
set_option maxRecDepth 100000 in
set_option maxHeartbeats 4000000 in
theorem x_Ta_init {sc : List Int32} {Q : Option Value → xH → Prop} {this : Nat} {h : xH} {kc : Nat} {ks : Nat} (hw : w_Ta_init Q this h kc ks) : xMet sc m_Ta_init 2 kc ks [.ref (this)] h Q := by
  unfold w_Ta_init at hw
  refine xMet.of2 cw_Ta_init rfl rfl ?_
  show xW sc m_Ta_init 2 kc ks 0 [some (.ref (this))] [] h Q
  refine xw_aload_n d_Ta_init_0 rfl rfl ?_
  refine xw_obj oi_Ta_3 d_Ta_init_1 (Nat.le_of_ble_eq_true rfl) (Nat.le_of_ble_eq_true rfl) ?_
  refine xw_aload_n d_Ta_init_4 rfl rfl ?_
  obtain ⟨k3, k4, hA, hB, hw⟩ := hw
  rw [hA, hB]
  refine xw_new ns_Ta_9 d_Ta_init_5 ?_
  generalize hb : h.1 + 1 = b2
  generalize hh : xn h (.inr (1, [.null, .null, .null])) = h1
  have hw := hw b2 h1 hb.symm hh.symm
  refine xw_dup d_Ta_init_8 rfl ?_
  obtain ⟨k6, k7, k8, k9, hA, hB, hw⟩ := hw
  refine xc_IN0 ln_Ta_11 rfl rfl im_Co_init d_Ta_init_9 hA hB (x_Co_init hw) rfl rfl ?_
  intro h5 hw
  obtain ⟨f10, hA, hB, hw⟩ := hw
  refine xw_putrF fs_Ta_12 rfl (Or.inl ⟨_, rfl⟩) d_Ta_init_12 hA hB ?_
  generalize hh : xu h5 this (.inr (6, f10.set 13 (.ref (b2)))) = h11
  have hw := hw h11 hh.symm
  exact xw_return rfl d_Ta_init_15 hw
set_option maxRecDepth 100000 in
def w_Vo_init (Q : Option Value → xH → Prop) (this : Nat) (h : xH) (kc : Nat) (ks : Nat) : Prop := ∃ k3 k4, kc = k3 + 1 ∧ ks = k4 + 16 ∧ ∀ b2 h1, b2 = h.1 + 1 → h1 = xn h (.inl (0, .inl (List.replicate 16 0))) → ∃ f5, h1.2 this = some (.inr (7, f5)) ∧ 0 < f5.length ∧ ∀ h6, h6 = xu h1 this (.inr (7, f5.set 0 (.ref (b2)))) → ∃ k9 k10, k3 = k9 + 1 ∧ k4 = k10 + 16 ∧ ∀ b8 h7, b8 = h6.1 + 1 → h7 = xn h6 (.inl (0, .inl (List.replicate 16 0))) → ∃ f11, h7.2 this = some (.inr (7, f11)) ∧ 1 < f11.length ∧ ∀ h12, h12 = xu h7 this (.inr (7, f11.set 1 (.ref (b8)))) → ∃ k15 k16, k9 = k15 + 1 ∧ k10 = k16 + 16 ∧ ∀ b14 h13, b14 = h12.1 + 1 → h13 = xn h12 (.inl (0, .inl (List.replicate 16 0))) → ∃ f17, h13.2 this = some (.inr (7, f17)) ∧ 2 < f17.length ∧ ∀ h18, h18 = xu h13 this (.inr (7, f17.set 2 (.ref (b14)))) → Q none h18
set_option maxRecDepth 100000 in
set_option maxHeartbeats 4000000 in
theorem x_Vo_init {sc : List Int32} {Q : Option Value → xH → Prop} {this : Nat} {h : xH} {kc : Nat} {ks : Nat} (hw : w_Vo_init Q this h kc ks) : xMet sc m_Vo_init 1 kc ks [.ref (this)] h Q := by
  unfold w_Vo_init at hw
  refine xMet.of2 cw_Vo_init rfl rfl ?_
  show xW sc m_Vo_init 1 kc ks 0 [some (.ref (this))] [] h Q
  refine xw_aload_n d_Vo_init_0 rfl rfl ?_
  refine xw_obj oi_Vo_3 d_Vo_init_1 (Nat.le_of_ble_eq_true rfl) (Nat.le_of_ble_eq_true rfl) ?_
  refine xw_aload_n d_Vo_init_4 rfl rfl ?_
  refine xw_bipush (v := 16) d_Vo_init_5 (by decide) ?_
  obtain ⟨k3, k4, hA, hB, hw⟩ := hw
  rw [hA, hB]
  refine xw_newarray (t := 0) (N := 16) rfl aI d_Vo_init_7 (by decide) (by decide) (by decide) ?_
  generalize hb : h.1 + 1 = b2
  generalize hh : xn h (.inl (0, .inl (List.replicate 16 0))) = h1
  have hw := hw b2 h1 hb.symm hh.symm
  obtain ⟨f5, hA, hB, hw⟩ := hw
  refine xw_putrF fs_Vo_9 rfl (Or.inr ⟨_, rfl⟩) d_Vo_init_9 hA hB ?_
  generalize hh : xu h1 this (.inr (7, f5.set 0 (.ref (b2)))) = h6
  have hw := hw h6 hh.symm
  refine xw_aload_n d_Vo_init_12 rfl rfl ?_
  refine xw_bipush (v := 16) d_Vo_init_13 (by decide) ?_
  obtain ⟨k9, k10, hA, hB, hw⟩ := hw
  rw [hA, hB]
  refine xw_newarray (t := 0) (N := 16) rfl aI d_Vo_init_15 (by decide) (by decide) (by decide) ?_
  generalize hb : h6.1 + 1 = b8
  generalize hh : xn h6 (.inl (0, .inl (List.replicate 16 0))) = h7
  have hw := hw b8 h7 hb.symm hh.symm
  obtain ⟨f11, hA, hB, hw⟩ := hw
  refine xw_putrF fs_Vo_15 rfl (Or.inr ⟨_, rfl⟩) d_Vo_init_17 hA hB ?_
  generalize hh : xu h7 this (.inr (7, f11.set 1 (.ref (b8)))) = h12
  have hw := hw h12 hh.symm
  refine xw_aload_n d_Vo_init_20 rfl rfl ?_
  refine xw_bipush (v := 16) d_Vo_init_21 (by decide) ?_
  obtain ⟨k15, k16, hA, hB, hw⟩ := hw
  rw [hA, hB]
  refine xw_newarray (t := 0) (N := 16) rfl aI d_Vo_init_23 (by decide) (by decide) (by decide) ?_
  generalize hb : h12.1 + 1 = b14
  generalize hh : xn h12 (.inl (0, .inl (List.replicate 16 0))) = h13
  have hw := hw b14 h13 hb.symm hh.symm
  obtain ⟨f17, hA, hB, hw⟩ := hw
  refine xw_putrF fs_Vo_18 rfl (Or.inr ⟨_, rfl⟩) d_Vo_init_25 hA hB ?_
  generalize hh : xu h13 this (.inr (7, f17.set 2 (.ref (b14)))) = h18
  have hw := hw h18 hh.symm
  exact xw_return rfl d_Vo_init_28 hw
set_option maxRecDepth 100000 in
def w_No_init (Q : Option Value → xH → Prop) (this : Nat) (p1 : Int32) (h : xH) (kc : Nat) (ks : Nat) : Prop := ∃ f1, h.2 this = some (.inr (4, f1)) ∧ 1 < f1.length ∧ ∀ h2, h2 = xu h this (.inr (4, f1.set 1 (.int (0)))) → ∃ f3, h2.2 this = some (.inr (4, f3)) ∧ 2 < f3.length ∧ ∀ h4, h4 = xu h2 this (.inr (4, f3.set 2 (.int (1)))) → ∃ f5, h4.2 this = some (.inr (4, f5)) ∧ 3 < f5.length ∧ ∀ h6, h6 = xu h4 this (.inr (4, f5.set 3 (.int (0)))) → ∃ f7, h6.2 this = some (.inr (4, f7)) ∧ 4 < f7.length ∧ ∀ h8, h8 = xu h6 this (.inr (4, f7.set 4 (.int (0)))) → ∃ f9, h8.2 this = some (.inr (4, f9)) ∧ 5 < f9.length ∧ ∀ h10, h10 = xu h8 this (.inr (4, f9.set 5 (.int (0)))) → ∃ f11, h10.2 this = some (.inr (4, f11)) ∧ 6 < f11.length ∧ ∀ h12, h12 = xu h10 this (.inr (4, f11.set 6 (.int (0)))) → ∃ k15 k16, kc = k15 + 1 ∧ ks = k16 + 3 ∧ ∀ b14 h13, b14 = h12.1 + 1 → h13 = xn h12 (.inr (1, [.null, .null, .null])) → ∃ k18 k19 k20 k21, k15 = k18 + k19 ∧ k16 = k20 + k21 ∧ w_Co_init (fun v h17 => v = none ∧ ∃ f22, h17.2 this = some (.inr (4, f22)) ∧ 7 < f22.length ∧ ∀ h23, h23 = xu h17 this (.inr (4, f22.set 7 (.ref (b14)))) → ∃ k26 k27, k19 = k26 + 1 ∧ k21 = k27 + 2 ∧ ∀ b25 h24, b25 = h23.1 + 1 → h24 = xn h23 (.inr (5, [.null, .null])) → ∃ k29 k30 k31 k32, k26 = k29 + k30 ∧ k27 = k31 + k32 ∧ w_Se_init (fun v h28 => v = none ∧ ∃ f33, h28.2 this = some (.inr (4, f33)) ∧ 8 < f33.length ∧ ∀ h34, h34 = xu h28 this (.inr (4, f33.set 8 (.ref (b25)))) → ∃ k37 k38, k30 = k37 + 1 ∧ k32 = k38 + 3 ∧ ∀ b36 h35, b36 = h34.1 + 1 → h35 = xn h34 (.inr (7, [.null, .null, .null])) → ∃ k40 k41 k42 k43, k37 = k40 + k41 ∧ k38 = k42 + k43 ∧ w_Vo_init (fun v h39 => v = none ∧ ∃ f44, h39.2 this = some (.inr (4, f44)) ∧ 9 < f44.length ∧ ∀ h45, h45 = xu h39 this (.inr (4, f44.set 9 (.ref (b36)))) → ∃ k48 k49, k41 = k48 + 1 ∧ k43 = k49 + 14 ∧ ∀ b47 h46, b47 = h45.1 + 1 → h46 = xn h45 (.inr (6, [.int 0, .int 0, .int 0, .int 0, .int 0, .int 0, .int 0, .int 0, .int 0, .int 0, .int 0, .int 0, .int 0, .null])) → ∃ k51 k52 k53 k54, k48 = k51 + k52 ∧ k49 = k53 + k54 ∧ w_Ta_init (fun v h50 => v = none ∧ ∃ f55, h50.2 this = some (.inr (4, f55)) ∧ 10 < f55.length ∧ ∀ h56, h56 = xu h50 this (.inr (4, f55.set 10 (.ref (b47)))) → ∃ f57, h56.2 this = some (.inr (4, f57)) ∧ 0 < f57.length ∧ ∀ h58, h58 = xu h56 this (.inr (4, f57.set 0 (.int (p1)))) → Q none h58) b47 h46 k51 k53) b36 h35 k40 k42) b25 h24 k29 k31) b14 h13 k18 k20
set_option maxRecDepth 100000 in
set_option maxHeartbeats 4000000 in
theorem x_No_init {sc : List Int32} {Q : Option Value → xH → Prop} {this : Nat} {p1 : Int32} {h : xH} {kc : Nat} {ks : Nat} (hw : w_No_init Q this p1 h kc ks) : xMet sc m_No_init 3 kc ks [.ref (this), .int (p1)] h Q := by
  unfold w_No_init at hw
  refine xMet.of2 cw_No_init rfl rfl ?_
  show xW sc m_No_init 3 kc ks 0 [some (.ref (this)), some (.int (p1))] [] h Q
  refine xw_aload_n d_No_init_0 rfl rfl ?_
  refine xw_obj oi_No_3 d_No_init_1 (Nat.le_of_ble_eq_true rfl) (Nat.le_of_ble_eq_true rfl) ?_
  refine xw_aload_n d_No_init_4 rfl rfl ?_
  refine xw_iconst (v := 0) d_No_init_5 (by decide) ?_
  obtain ⟨f1, hA, hB, hw⟩ := hw
  refine xw_puti fs_No_9 d_No_init_6 hA hB ?_
  generalize hh : xu h this (.inr (4, f1.set 1 (.int (0)))) = h2
  have hw := hw h2 hh.symm
  refine xw_aload_n d_No_init_9 rfl rfl ?_
  refine xw_iconst (v := 1) d_No_init_10 (by decide) ?_
  obtain ⟨f3, hA, hB, hw⟩ := hw
  refine xw_puti fs_No_15 d_No_init_11 hA hB ?_
  generalize hh : xu h2 this (.inr (4, f3.set 2 (.int (1)))) = h4
  have hw := hw h4 hh.symm
  refine xw_aload_n d_No_init_14 rfl rfl ?_
  refine xw_iconst (v := 0) d_No_init_15 (by decide) ?_
  obtain ⟨f5, hA, hB, hw⟩ := hw
  refine xw_puti fs_No_18 d_No_init_16 hA hB ?_
  generalize hh : xu h4 this (.inr (4, f5.set 3 (.int (0)))) = h6
  have hw := hw h6 hh.symm
  refine xw_aload_n d_No_init_19 rfl rfl ?_
  refine xw_iconst (v := 0) d_No_init_20 (by decide) ?_
  obtain ⟨f7, hA, hB, hw⟩ := hw
  refine xw_puti fs_No_21 d_No_init_21 hA hB ?_
  generalize hh : xu h6 this (.inr (4, f7.set 4 (.int (0)))) = h8
  have hw := hw h8 hh.symm
  refine xw_aload_n d_No_init_24 rfl rfl ?_
  refine xw_iconst (v := 0) d_No_init_25 (by decide) ?_
  obtain ⟨f9, hA, hB, hw⟩ := hw
  refine xw_puti fs_No_24 d_No_init_26 hA hB ?_
  generalize hh : xu h8 this (.inr (4, f9.set 5 (.int (0)))) = h10
  have hw := hw h10 hh.symm
  refine xw_aload_n d_No_init_29 rfl rfl ?_
  refine xw_iconst (v := 0) d_No_init_30 (by decide) ?_
  obtain ⟨f11, hA, hB, hw⟩ := hw
  refine xw_puti fs_No_27 d_No_init_31 hA hB ?_
  generalize hh : xu h10 this (.inr (4, f11.set 6 (.int (0)))) = h12
  have hw := hw h12 hh.symm
  refine xw_aload_n d_No_init_34 rfl rfl ?_
  obtain ⟨k15, k16, hA, hB, hw⟩ := hw
  rw [hA, hB]
  refine xw_new ns_No_30 d_No_init_35 ?_
  generalize hb : h12.1 + 1 = b14
  generalize hh : xn h12 (.inr (1, [.null, .null, .null])) = h13
  have hw := hw b14 h13 hb.symm hh.symm
  refine xw_dup d_No_init_38 rfl ?_
  obtain ⟨k18, k19, k20, k21, hA, hB, hw⟩ := hw
  refine xc_IN0 ln_No_32 rfl rfl im_Co_init d_No_init_39 hA hB (x_Co_init hw) rfl rfl ?_
  intro h17 hw
  obtain ⟨f22, hA, hB, hw⟩ := hw
  refine xw_putrF fs_No_33 rfl (Or.inl ⟨_, rfl⟩) d_No_init_42 hA hB ?_
  generalize hh : xu h17 this (.inr (4, f22.set 7 (.ref (b14)))) = h23
  have hw := hw h23 hh.symm
  refine xw_aload_n d_No_init_45 rfl rfl ?_
  obtain ⟨k26, k27, hA, hB, hw⟩ := hw
  rw [hA, hB]
  refine xw_new ns_No_37 d_No_init_46 ?_
  generalize hb : h23.1 + 1 = b25
  generalize hh : xn h23 (.inr (5, [.null, .null])) = h24
  have hw := hw b25 h24 hb.symm hh.symm
  refine xw_dup d_No_init_49 rfl ?_
  obtain ⟨k29, k30, k31, k32, hA, hB, hw⟩ := hw
  refine xc_IN0 ln_No_39 rfl rfl im_Se_init d_No_init_50 hA hB (x_Se_init hw) rfl rfl ?_
  intro h28 hw
  obtain ⟨f33, hA, hB, hw⟩ := hw
  refine xw_putrF fs_No_40 rfl (Or.inl ⟨_, rfl⟩) d_No_init_53 hA hB ?_
  generalize hh : xu h28 this (.inr (4, f33.set 8 (.ref (b25)))) = h34
  have hw := hw h34 hh.symm
  refine xw_aload_n d_No_init_56 rfl rfl ?_
  obtain ⟨k37, k38, hA, hB, hw⟩ := hw
  rw [hA, hB]
  refine xw_new ns_No_44 d_No_init_57 ?_
  generalize hb : h34.1 + 1 = b36
  generalize hh : xn h34 (.inr (7, [.null, .null, .null])) = h35
  have hw := hw b36 h35 hb.symm hh.symm
  refine xw_dup d_No_init_60 rfl ?_
  obtain ⟨k40, k41, k42, k43, hA, hB, hw⟩ := hw
  refine xc_IN0 ln_No_46 rfl rfl im_Vo_init d_No_init_61 hA hB (x_Vo_init hw) rfl rfl ?_
  intro h39 hw
  obtain ⟨f44, hA, hB, hw⟩ := hw
  refine xw_putrF fs_No_47 rfl (Or.inl ⟨_, rfl⟩) d_No_init_64 hA hB ?_
  generalize hh : xu h39 this (.inr (4, f44.set 9 (.ref (b36)))) = h45
  have hw := hw h45 hh.symm
  refine xw_aload_n d_No_init_67 rfl rfl ?_
  obtain ⟨k48, k49, hA, hB, hw⟩ := hw
  rw [hA, hB]
  refine xw_new ns_No_51 d_No_init_68 ?_
  generalize hb : h45.1 + 1 = b47
  generalize hh : xn h45 (.inr (6, [.int 0, .int 0, .int 0, .int 0, .int 0, .int 0, .int 0, .int 0, .int 0, .int 0, .int 0, .int 0, .int 0, .null])) = h46
  have hw := hw b47 h46 hb.symm hh.symm
  refine xw_dup d_No_init_71 rfl ?_
  obtain ⟨k51, k52, k53, k54, hA, hB, hw⟩ := hw
  refine xc_IN0 ln_No_53 rfl rfl im_Ta_init d_No_init_72 hA hB (x_Ta_init hw) rfl rfl ?_
  intro h50 hw
  obtain ⟨f55, hA, hB, hw⟩ := hw
  refine xw_putrF fs_No_54 rfl (Or.inl ⟨_, rfl⟩) d_No_init_75 hA hB ?_
  generalize hh : xu h50 this (.inr (4, f55.set 10 (.ref (b47)))) = h56
  have hw := hw h56 hh.symm
  refine xw_aload_n d_No_init_78 rfl rfl ?_
  refine xw_iload_n d_No_init_79 rfl rfl ?_
  obtain ⟨f57, hA, hB, hw⟩ := hw
  refine xw_putiF fs_No_58 rfl d_No_init_80 hA hB ?_
  generalize hh : xu h56 this (.inr (4, f57.set 0 (.int (p1)))) = h58
  have hw := hw h58 hh.symm
  exact xw_return rfl d_No_init_83 hw
set_option maxRecDepth 100000 in
def w_No_mayWrite (Q : Option Value → xH → Prop) (this : Nat) (h : xH) : Prop := ∃ (f1 : List Value) (x2 : Int32), h.2 this = some (.inr (4, f1)) ∧ f1[1]? = some (.int x2) ∧ ((x2 = 1 → ∃ (f3 : List Value) (x4 : Int32), h.2 this = some (.inr (4, f3)) ∧ f3[5]? = some (.int x4) ∧ ((¬ x4 = 1 → ∃ (f5 : List Value) (x6 : Int32), h.2 this = some (.inr (4, f5)) ∧ f5[5]? = some (.int x6) ∧ ∃ f7, h.2 this = some (.inr (4, f7)) ∧ 5 < f7.length ∧ ∀ h8, h8 = xu h this (.inr (4, f7.set 5 (.int (if 0 < (x6 - 1) then (x6 - 1) else 0)))) → ∃ (f9 : List Value) (x10 : Int32), h8.2 this = some (.inr (4, f9)) ∧ f9[6]? = some (.int x10) ∧ ∃ f11, h8.2 this = some (.inr (4, f11)) ∧ 6 < f11.length ∧ ∀ h12, h12 = xu h8 this (.inr (4, f11.set 6 (.int (x10 + 1)))) → (narrow .boolean (.int 1) = .int 1 ∧ Q (some (.int 1)) h12)) ∧ (x4 = 1 → (∃ f14, h.2 this = some (.inr (4, f14))) ∧ w_No_fall (fun v h13 => v = none ∧ (narrow .boolean (.int 0) = .int 0 ∧ Q (some (.int 0)) h13)) this h))) ∧ (¬ x2 = 1 → (narrow .boolean (.int 0) = .int 0 ∧ Q (some (.int 0)) h)))
set_option maxRecDepth 100000 in
set_option maxHeartbeats 4000000 in
theorem x_No_mayWrite {sc : List Int32} {Q : Option Value → xH → Prop} {this : Nat} {h : xH} (hw : w_No_mayWrite Q this h) : xMet sc m_No_mayWrite 1 0 0 [.ref (this)] h Q := by
  unfold w_No_mayWrite at hw
  refine xMet.of2 cw_No_mayWrite rfl rfl ?_
  show xW sc m_No_mayWrite 1 0 0 0 [some (.ref (this))] [] h Q
  refine xw_aload_n d_No_mayWrite_0 rfl rfl ?_
  obtain ⟨f1, x2, hA, hB, hw⟩ := hw
  refine xw_getr fr_No_9 d_No_mayWrite_1 hA hB ?_
  refine xw_iconst (v := 1) d_No_mayWrite_4 (by decide) ?_
  refine xw_icmp_eq (tgt := 10) d_No_mayWrite_5 (by decide) (fun c16 => ?_) (fun c16 => ?_)
  · have hw := hw.1 c16
    refine xw_aload_n d_No_mayWrite_10 rfl rfl ?_
    obtain ⟨f3, x4, hA, hB, hw⟩ := hw
    refine xw_getr fr_No_24 d_No_mayWrite_11 hA hB ?_
    refine xw_iconst (v := 1) d_No_mayWrite_14 (by decide) ?_
    refine xw_icmp_ne (tgt := 24) d_No_mayWrite_15 (by decide) (fun c15 => ?_) (fun c15 => ?_)
    · have hw := hw.1 c15
      refine xw_aload_n d_No_mayWrite_24 rfl rfl ?_
      refine xw_iconst (v := 0) d_No_mayWrite_25 (by decide) ?_
      refine xw_aload_n d_No_mayWrite_26 rfl rfl ?_
      obtain ⟨f5, x6, hA, hB, hw⟩ := hw
      refine xw_getr fr_No_24 d_No_mayWrite_27 hA hB ?_
      refine xw_iconst (v := 1) d_No_mayWrite_30 (by decide) ?_
      refine xw_isub d_No_mayWrite_31 ?_
      refine xw_max mx_No_70 d_No_mayWrite_32 (Nat.le_of_ble_eq_true rfl) (Nat.le_of_ble_eq_true rfl) ?_
      obtain ⟨f7, hA, hB, hw⟩ := hw
      refine xw_puti fs_No_24 d_No_mayWrite_35 hA hB ?_
      generalize hh : xu h this (.inr (4, f7.set 5 (.int (if 0 < (x6 - 1) then (x6 - 1) else 0)))) = h8
      have hw := hw h8 hh.symm
      refine xw_aload_n d_No_mayWrite_38 rfl rfl ?_
      refine xw_dup d_No_mayWrite_39 rfl ?_
      obtain ⟨f9, x10, hA, hB, hw⟩ := hw
      refine xw_getr fr_No_27 d_No_mayWrite_40 hA hB ?_
      refine xw_iconst (v := 1) d_No_mayWrite_43 (by decide) ?_
      refine xw_iadd d_No_mayWrite_44 ?_
      obtain ⟨f11, hA, hB, hw⟩ := hw
      refine xw_puti fs_No_27 d_No_mayWrite_45 hA hB ?_
      generalize hh : xu h8 this (.inr (4, f11.set 6 (.int (x10 + 1)))) = h12
      have hw := hw h12 hh.symm
      refine xw_iconst (v := 1) d_No_mayWrite_48 (by decide) ?_
      exact xw_zreturn rfl hw.1 d_No_mayWrite_49 hw.2
    · have hw := hw.2 c15
      refine xw_aload_n d_No_mayWrite_18 rfl rfl ?_
      obtain ⟨⟨f14, hA⟩, hw⟩ := hw
      refine xc_V0n lk_No_67 in_No_fall d_No_mayWrite_19 (x_No_fall hw) rfl hA rfl ?_
      intro h13 hw
      refine xw_iconst (v := 0) d_No_mayWrite_22 (by decide) ?_
      exact xw_zreturn rfl hw.1 d_No_mayWrite_23 hw.2
  · have hw := hw.2 c16
    refine xw_iconst (v := 0) d_No_mayWrite_8 (by decide) ?_
    exact xw_zreturn rfl hw.1 d_No_mayWrite_9 hw.2
set_option maxRecDepth 100000 in
def w_No_openPhase (Q : Option Value → xH → Prop) (this : Nat) (p1 : Int32) (h : xH) : Prop := ∃ (f1 : List Value) (x2 : Int32), h.2 this = some (.inr (4, f1)) ∧ f1[4]? = some (.int x2) ∧ ∃ f3, h.2 this = some (.inr (4, f3)) ∧ 4 < f3.length ∧ ∀ h4, h4 = xu h this (.inr (4, f3.set 4 (.int (x2 + 1)))) → ∃ (f5 : List Value) (a6 : Nat), h4.2 this = some (.inr (4, f5)) ∧ f5[10]? = some (.ref a6) ∧ ∃ f7, h4.2 a6 = some (.inr (6, f7)) ∧ 2 < f7.length ∧ ∀ h8, h8 = xu h4 a6 (.inr (6, f7.set 2 (.int (p1)))) → ∃ (f9 : List Value) (a10 : Nat), h8.2 this = some (.inr (4, f9)) ∧ f9[10]? = some (.ref a10) ∧ ∃ f11, h8.2 a10 = some (.inr (6, f11)) ∧ 5 < f11.length ∧ ∀ h12, h12 = xu h8 a10 (.inr (6, f11.set 5 (.int (0)))) → ∃ (f13 : List Value) (a14 : Nat), h12.2 this = some (.inr (4, f13)) ∧ f13[10]? = some (.ref a14) ∧ ∃ f15, h12.2 a14 = some (.inr (6, f15)) ∧ 6 < f15.length ∧ ∀ h16, h16 = xu h12 a14 (.inr (6, f15.set 6 (.int (0)))) → Q none h16
set_option maxRecDepth 100000 in
set_option maxHeartbeats 4000000 in
theorem x_No_openPhase {sc : List Int32} {Q : Option Value → xH → Prop} {this : Nat} {p1 : Int32} {h : xH} (hw : w_No_openPhase Q this p1 h) : xMet sc m_No_openPhase 0 0 0 [.ref (this), .int (p1)] h Q := by
  unfold w_No_openPhase at hw
  refine xMet.of2 cw_No_openPhase rfl rfl ?_
  show xW sc m_No_openPhase 0 0 0 0 [some (.ref (this)), some (.int (p1))] [] h Q
  refine xw_aload_n d_No_openPhase_0 rfl rfl ?_
  refine xw_dup d_No_openPhase_1 rfl ?_
  obtain ⟨f1, x2, hA, hB, hw⟩ := hw
  refine xw_getr fr_No_21 d_No_openPhase_2 hA hB ?_
  refine xw_iconst (v := 1) d_No_openPhase_5 (by decide) ?_
  refine xw_iadd d_No_openPhase_6 ?_
  obtain ⟨f3, hA, hB, hw⟩ := hw
  refine xw_puti fs_No_21 d_No_openPhase_7 hA hB ?_
  generalize hh : xu h this (.inr (4, f3.set 4 (.int (x2 + 1)))) = h4
  have hw := hw h4 hh.symm
  refine xw_aload_n d_No_openPhase_10 rfl rfl ?_
  obtain ⟨f5, a6, hA, hB, hw⟩ := hw
  refine xw_getr fr_No_54 d_No_openPhase_11 hA hB ?_
  refine xw_iload_n d_No_openPhase_14 rfl rfl ?_
  obtain ⟨f7, hA, hB, hw⟩ := hw
  refine xw_puti fs_No_61 d_No_openPhase_15 hA hB ?_
  generalize hh : xu h4 a6 (.inr (6, f7.set 2 (.int (p1)))) = h8
  have hw := hw h8 hh.symm
  refine xw_aload_n d_No_openPhase_18 rfl rfl ?_
  obtain ⟨f9, a10, hA, hB, hw⟩ := hw
  refine xw_getr fr_No_54 d_No_openPhase_19 hA hB ?_
  refine xw_iconst (v := 0) d_No_openPhase_22 (by decide) ?_
  obtain ⟨f11, hA, hB, hw⟩ := hw
  refine xw_puti fs_No_76 d_No_openPhase_23 hA hB ?_
  generalize hh : xu h8 a10 (.inr (6, f11.set 5 (.int (0)))) = h12
  have hw := hw h12 hh.symm
  refine xw_aload_n d_No_openPhase_26 rfl rfl ?_
  obtain ⟨f13, a14, hA, hB, hw⟩ := hw
  refine xw_getr fr_No_54 d_No_openPhase_27 hA hB ?_
  refine xw_iconst (v := 0) d_No_openPhase_30 (by decide) ?_
  obtain ⟨f15, hA, hB, hw⟩ := hw
  refine xw_puti fs_No_79 d_No_openPhase_31 hA hB ?_
  generalize hh : xu h12 a14 (.inr (6, f15.set 6 (.int (0)))) = h16
  have hw := hw h16 hh.symm
  exact xw_return rfl d_No_openPhase_34 hw
set_option maxRecDepth 100000 in
def w_No_raiseRound (Q : Option Value → xH → Prop) (this : Nat) (p1 : Int32) (h : xH) : Prop := ∃ (f1 : List Value) (x2 : Int32), h.2 this = some (.inr (4, f1)) ∧ f1[3]? = some (.int x2) ∧ ((p1 ≤ x2 → Q none h) ∧ (¬ p1 ≤ x2 → (∃ f4, h.2 this = some (.inr (4, f4))) ∧ w_No_mayWrite (fun v h3 => ∃ (x5 : Int32), v = some (.int x5) ∧ ((x5 = 0 → Q none h3) ∧ (¬ x5 = 0 → ∃ f6, h3.2 this = some (.inr (4, f6)) ∧ 3 < f6.length ∧ ∀ h7, h7 = xu h3 this (.inr (4, f6.set 3 (.int (p1)))) → Q none h7))) this h))
set_option maxRecDepth 100000 in
set_option maxHeartbeats 4000000 in
theorem x_No_raiseRound {sc : List Int32} {Q : Option Value → xH → Prop} {this : Nat} {p1 : Int32} {h : xH} (hw : w_No_raiseRound Q this p1 h) : xMet sc m_No_raiseRound 2 0 0 [.ref (this), .int (p1)] h Q := by
  unfold w_No_raiseRound at hw
  refine xMet.of2 cw_No_raiseRound rfl rfl ?_
  show xW sc m_No_raiseRound 2 0 0 0 [some (.ref (this)), some (.int (p1))] [] h Q
  refine xw_iload_n d_No_raiseRound_0 rfl rfl ?_
  refine xw_aload_n d_No_raiseRound_1 rfl rfl ?_
  obtain ⟨f1, x2, hA, hB, hw⟩ := hw
  refine xw_getr fr_No_18 d_No_raiseRound_2 hA hB ?_
  refine xw_icmp_le (tgt := 20) d_No_raiseRound_5 (by decide) (fun c9 => ?_) (fun c9 => ?_)
  · have hw := hw.1 c9
    exact xw_return rfl d_No_raiseRound_20 hw
  · have hw := hw.2 c9
    refine xw_aload_n d_No_raiseRound_8 rfl rfl ?_
    obtain ⟨⟨f4, hA⟩, hw⟩ := hw
    refine xc_V0i lk_No_82 in_No_mayWrite d_No_raiseRound_9 (x_No_mayWrite hw) rfl hA rfl ?_
    intro x5 h3 hw
    refine xw_if_eq (tgt := 20) d_No_raiseRound_12 (by decide) (fun c8 => ?_) (fun c8 => ?_)
    · have hw := hw.1 c8
      exact xw_return rfl d_No_raiseRound_20 hw
    · have hw := hw.2 c8
      refine xw_aload_n d_No_raiseRound_15 rfl rfl ?_
      refine xw_iload_n d_No_raiseRound_16 rfl rfl ?_
      obtain ⟨f6, hA, hB, hw⟩ := hw
      refine xw_puti fs_No_18 d_No_raiseRound_17 hA hB ?_
      generalize hh : xu h3 this (.inr (4, f6.set 3 (.int (p1)))) = h7
      have hw := hw h7 hh.symm
      exact xw_return rfl d_No_raiseRound_20 hw
set_option maxRecDepth 100000 in
def w_No_take_50 (Q : Option Value → xH → Prop) (L2 : Nat → Nat → Int32 → Int32 → xH → Prop) (l0 : Nat) (l1 : Nat) (l2 : Int32) (l3 : Int32) (h : xH) : Prop := L2 (l0) (l1) (l2) (l3 + 1) h
set_option maxRecDepth 100000 in
set_option maxHeartbeats 4000000 in
theorem p_No_take_50 {sc : List Int32} {Q : Option Value → xH → Prop} {L2 : Nat → Nat → Int32 → Int32 → xH → Prop} (hL2 : ∀ l0 l1 l2 l3 h, L2 l0 l1 l2 l3 h → xW sc m_No_take 2 0 0 2 [some (.ref (l0)), some (.ref (l1)), some (.int (l2)), some (.int (l3))] [] h Q) (l0 : Nat) (l1 : Nat) (l2 : Int32) (l3 : Int32) (h : xH) (hw : w_No_take_50 Q L2 l0 l1 l2 l3 h) : xW sc m_No_take 2 0 0 50 [some (.ref (l0)), some (.ref (l1)), some (.int (l2)), some (.int (l3))] [] h Q := by
  unfold w_No_take_50 at hw
  refine xs_iinc (v := l3 + 1) (lv' := [some (.ref (l0)), some (.ref (l1)), some (.int (l2)), some (.int (l3 + 1))]) d_No_take_50 rfl rfl rfl ?_
  refine xw_goto (tgt := 2) d_No_take_53 (by decide) ?_
  exact hL2 (l0) (l1) (l2) (l3 + 1) h hw
set_option maxRecDepth 100000 in
def w_No_take_2 (Q : Option Value → xH → Prop) : Nat → Nat → Nat → Int32 → Int32 → xH → Prop
  | 0, _, _, _, _, _ => False
  | n + 1, l0, l1, l2, l3, h => ((4 ≤ l3 → Q none h) ∧ (¬ 4 ≤ l3 → (∃ f2, h.2 l0 = some (.inr (4, f2))) ∧ w_No_isUp (fun v h1 => ∃ (x3 : Int32), v = some (.int x3) ∧ ((x3 = 0 → Q none h1) ∧ (¬ x3 = 0 → w_Q_isIn (fun v h4 => ∃ (x5 : Int32), v = some (.int x5) ∧ ((x5 = 0 → w_No_take_50 Q (fun y0 y1 y2 y3 yh => w_No_take_2 Q n y0 y1 y2 y3 yh) (l0) (l1) (l2) (l3) h4) ∧ (¬ x5 = 0 → ∃ (f6 : List Value) (a7 : Nat), h4.2 l0 = some (.inr (4, f6)) ∧ f6[7]? = some (.ref a7) ∧ (∃ f9, h4.2 a7 = some (.inr (1, f9))) ∧ w_Co_isLess (fun v h8 => ∃ (x10 : Int32), v = some (.int x10) ∧ ((x10 = 0 → w_No_take_50 Q (fun y0 y1 y2 y3 yh => w_No_take_2 Q n y0 y1 y2 y3 yh) (l0) (l1) (l2) (l3) h8) ∧ (¬ x10 = 0 → (∃ f12, h8.2 l0 = some (.inr (4, f12))) ∧ w_No_mayWrite (fun v h11 => ∃ (x13 : Int32), v = some (.int x13) ∧ ((x13 = 0 → w_No_take_50 Q (fun y0 y1 y2 y3 yh => w_No_take_2 Q n y0 y1 y2 y3 yh) (l0) (l1) (l2) (l3) h11) ∧ (¬ x13 = 0 → ∃ (f14 : List Value) (a15 : Nat), h11.2 l0 = some (.inr (4, f14)) ∧ f14[7]? = some (.ref a15) ∧ (∃ f17, h11.2 a15 = some (.inr (1, f17))) ∧ w_Co_putFrom (fun v h16 => v = none ∧ w_No_take_50 Q (fun y0 y1 y2 y3 yh => w_No_take_2 Q n y0 y1 y2 y3 yh) (l0) (l1) (l2) (l3) h16) a15 l3 l1 h11))) l0 h8))) a7 l3 l1 h4))) l2 l3 h1))) l0 h))
set_option maxRecDepth 100000 in
set_option maxHeartbeats 4000000 in
theorem p_No_take_2 {sc : List Int32} {Q : Option Value → xH → Prop} : ∀ (n : Nat) (l0 : Nat) (l1 : Nat) (l2 : Int32) (l3 : Int32) (h : xH), w_No_take_2 Q n l0 l1 l2 l3 h → xW sc m_No_take 2 0 0 2 [some (.ref (l0)), some (.ref (l1)), some (.int (l2)), some (.int (l3))] [] h Q := by
  intro n
  induction n with
  | zero => intro l0 l1 l2 l3 h hw; exact False.elim hw
  | succ n ih =>
    intro l0 l1 l2 l3 h hw
    rw [w_No_take_2] at hw
    refine xw_iload_n d_No_take_2 rfl rfl ?_
    refine xw_iconst (v := 4) d_No_take_3 (by decide) ?_
    refine xw_icmp_ge (tgt := 56) d_No_take_4 (by decide) (fun c22 => ?_) (fun c22 => ?_)
    · have hw := hw.1 c22
      exact xw_return rfl d_No_take_56 hw
    · have hw := hw.2 c22
      refine xw_aload_n d_No_take_7 rfl rfl ?_
      obtain ⟨⟨f2, hA⟩, hw⟩ := hw
      refine xc_V0i lk_No_86 in_No_isUp d_No_take_8 (x_No_isUp hw) rfl hA rfl ?_
      intro x3 h1 hw
      refine xw_if_eq (tgt := 56) d_No_take_11 (by decide) (fun c21 => ?_) (fun c21 => ?_)
      · have hw := hw.1 c21
        exact xw_return rfl d_No_take_56 hw
      · have hw := hw.2 c21
        refine xw_iload_n d_No_take_14 rfl rfl ?_
        refine xw_iload_n d_No_take_15 rfl rfl ?_
        refine xc_SN2i ln_No_89 st_Q_isIn d_No_take_16 (x_Q_isIn hw) rfl rfl ?_
        intro x5 h4 hw
        refine xw_if_eq (tgt := 50) d_No_take_19 (by decide) (fun c20 => ?_) (fun c20 => ?_)
        · have hw := hw.1 c20
          exact p_No_take_50 ih (l0) (l1) (l2) (l3) h4 hw
        · have hw := hw.2 c20
          refine xw_aload_n d_No_take_22 rfl rfl ?_
          obtain ⟨f6, a7, hA, hB, hw⟩ := hw
          refine xw_getr fr_No_33 d_No_take_23 hA hB ?_
          refine xw_iload_n d_No_take_26 rfl rfl ?_
          refine xw_aload_n d_No_take_27 rfl rfl ?_
          obtain ⟨⟨f9, hA⟩, hw⟩ := hw
          refine xc_V2i lk_No_93 in_Co_isLess d_No_take_28 (x_Co_isLess hw) rfl hA rfl ?_
          intro x10 h8 hw
          refine xw_if_eq (tgt := 50) d_No_take_31 (by decide) (fun c19 => ?_) (fun c19 => ?_)
          · have hw := hw.1 c19
            exact p_No_take_50 ih (l0) (l1) (l2) (l3) h8 hw
          · have hw := hw.2 c19
            refine xw_aload_n d_No_take_34 rfl rfl ?_
            obtain ⟨⟨f12, hA⟩, hw⟩ := hw
            refine xc_V0i lk_No_82 in_No_mayWrite d_No_take_35 (x_No_mayWrite hw) rfl hA rfl ?_
            intro x13 h11 hw
            refine xw_if_eq (tgt := 50) d_No_take_38 (by decide) (fun c18 => ?_) (fun c18 => ?_)
            · have hw := hw.1 c18
              exact p_No_take_50 ih (l0) (l1) (l2) (l3) h11 hw
            · have hw := hw.2 c18
              refine xw_aload_n d_No_take_41 rfl rfl ?_
              obtain ⟨f14, a15, hA, hB, hw⟩ := hw
              refine xw_getr fr_No_33 d_No_take_42 hA hB ?_
              refine xw_iload_n d_No_take_45 rfl rfl ?_
              refine xw_aload_n d_No_take_46 rfl rfl ?_
              obtain ⟨⟨f17, hA⟩, hw⟩ := hw
              refine xc_V2n lk_No_97 in_Co_putFrom d_No_take_47 (x_Co_putFrom hw) rfl hA rfl ?_
              intro h16 hw
              exact p_No_take_50 ih (l0) (l1) (l2) (l3) h16 hw
set_option maxRecDepth 100000 in
def w_No_take (Q : Option Value → xH → Prop) (this : Nat) (p1 : Nat) (p2 : Int32) (h : xH) : Prop := ∃ n1, w_No_take_2 Q n1 (this) (p1) (p2) (0) h
set_option maxRecDepth 100000 in
set_option maxHeartbeats 4000000 in
theorem x_No_take {sc : List Int32} {Q : Option Value → xH → Prop} {this : Nat} {p1 : Nat} {p2 : Int32} {h : xH} (hw : w_No_take Q this p1 p2 h) : xMet sc m_No_take 2 0 0 [.ref (this), .ref (p1), .int (p2)] h Q := by
  unfold w_No_take at hw
  refine xMet.of2 cw_No_take rfl rfl ?_
  show xW sc m_No_take 2 0 0 0 [some (.ref (this)), some (.ref (p1)), some (.int (p2)), none] [] h Q
  refine xw_iconst (v := 0) d_No_take_0 (by decide) ?_
  refine xs_istore_n (lv' := [some (.ref (this)), some (.ref (p1)), some (.int (p2)), some (.int (0))]) d_No_take_1 rfl rfl rfl ?_
  obtain ⟨n1, hw⟩ := hw
  exact p_No_take_2  n1 (this) (p1) (p2) (0) h hw
set_option maxRecDepth 100000 in
def w_Se_isBehind_2 (Q : Option Value → xH → Prop) : Nat → Nat → Nat → Int32 → xH → Prop
  | 0, _, _, _, _ => False
  | n + 1, l0, l1, l2, h => ((16 ≤ l2 → (narrow .boolean (.int 0) = .int 0 ∧ Q (some (.int 0)) h)) ∧ (¬ 16 ≤ l2 → ∃ (f1 : List Value) (a2 : Nat), h.2 l1 = some (.inr (5, f1)) ∧ f1[0]? = some (.ref a2) ∧ ∃ (ar9 : List Int32) (x3 : Int32), h.2 a2 = some (.inl (0, .inl ar9)) ∧ 0 ≤ l2 ∧ ar9[l2.toNatClampNeg]? = some x3 ∧ ∃ (f4 : List Value) (a5 : Nat), h.2 l0 = some (.inr (5, f4)) ∧ f4[0]? = some (.ref a5) ∧ ∃ (ar8 : List Int32) (x6 : Int32), h.2 a5 = some (.inl (0, .inl ar8)) ∧ 0 ≤ l2 ∧ ar8[l2.toNatClampNeg]? = some x6 ∧ ((x3 ≤ x6 → w_Se_isBehind_2 Q n (l0) (l1) (l2 + 1) h) ∧ (¬ x3 ≤ x6 → (narrow .boolean (.int 1) = .int 1 ∧ Q (some (.int 1)) h)))))
set_option maxRecDepth 100000 in
set_option maxHeartbeats 4000000 in
theorem p_Se_isBehind_2 {sc : List Int32} {Q : Option Value → xH → Prop} : ∀ (n : Nat) (l0 : Nat) (l1 : Nat) (l2 : Int32) (h : xH), w_Se_isBehind_2 Q n l0 l1 l2 h → xW sc m_Se_isBehind 0 0 0 2 [some (.ref (l0)), some (.ref (l1)), some (.int (l2))] [] h Q := by
  intro n
  induction n with
  | zero => intro l0 l1 l2 h hw; exact False.elim hw
  | succ n ih =>
    intro l0 l1 l2 h hw
    rw [w_Se_isBehind_2] at hw
    refine xw_iload_n d_Se_isBehind_2 rfl rfl ?_
    refine xw_bipush (v := 16) d_Se_isBehind_3 (by decide) ?_
    refine xw_icmp_ge (tgt := 31) d_Se_isBehind_5 (by decide) (fun c10 => ?_) (fun c10 => ?_)
    · have hw := hw.1 c10
      refine xw_iconst (v := 0) d_Se_isBehind_31 (by decide) ?_
      exact xw_zreturn rfl hw.1 d_Se_isBehind_32 hw.2
    · have hw := hw.2 c10
      refine xw_aload_n d_Se_isBehind_8 rfl rfl ?_
      obtain ⟨f1, a2, hA, hB, hw⟩ := hw
      refine xw_getr fr_Se_9 d_Se_isBehind_9 hA hB ?_
      refine xw_iload_n d_Se_isBehind_12 rfl rfl ?_
      obtain ⟨ar9, x3, hA, hB, hC, hw⟩ := hw
      refine xw_iaload (t := 0) rfl d_Se_isBehind_13 hA hB hC ?_
      refine xw_aload_n d_Se_isBehind_14 rfl rfl ?_
      obtain ⟨f4, a5, hA, hB, hw⟩ := hw
      refine xw_getr fr_Se_9 d_Se_isBehind_15 hA hB ?_
      refine xw_iload_n d_Se_isBehind_18 rfl rfl ?_
      obtain ⟨ar8, x6, hA, hB, hC, hw⟩ := hw
      refine xw_iaload (t := 0) rfl d_Se_isBehind_19 hA hB hC ?_
      refine xw_icmp_le (tgt := 25) d_Se_isBehind_20 (by decide) (fun c7 => ?_) (fun c7 => ?_)
      · have hw := hw.1 c7
        refine xs_iinc (v := l2 + 1) (lv' := [some (.ref (l0)), some (.ref (l1)), some (.int (l2 + 1))]) d_Se_isBehind_25 rfl rfl rfl ?_
        refine xw_goto (tgt := 2) d_Se_isBehind_28 (by decide) ?_
        exact ih (l0) (l1) (l2 + 1) h hw
      · have hw := hw.2 c7
        refine xw_iconst (v := 1) d_Se_isBehind_23 (by decide) ?_
        exact xw_zreturn rfl hw.1 d_Se_isBehind_24 hw.2
set_option maxRecDepth 100000 in
def w_Se_isBehind (Q : Option Value → xH → Prop) (this : Nat) (p1 : Nat) (h : xH) : Prop := ∃ n1, w_Se_isBehind_2 Q n1 (this) (p1) (0) h
set_option maxRecDepth 100000 in
set_option maxHeartbeats 4000000 in
theorem x_Se_isBehind {sc : List Int32} {Q : Option Value → xH → Prop} {this : Nat} {p1 : Nat} {h : xH} (hw : w_Se_isBehind Q this p1 h) : xMet sc m_Se_isBehind 0 0 0 [.ref (this), .ref (p1)] h Q := by
  unfold w_Se_isBehind at hw
  refine xMet.of2 cw_Se_isBehind rfl rfl ?_
  show xW sc m_Se_isBehind 0 0 0 0 [some (.ref (this)), some (.ref (p1)), none] [] h Q
  refine xw_iconst (v := 0) d_Se_isBehind_0 (by decide) ?_
  refine xs_istore_n (lv' := [some (.ref (this)), some (.ref (p1)), some (.int (0))]) d_Se_isBehind_1 rfl rfl rfl ?_
  obtain ⟨n1, hw⟩ := hw
  exact p_Se_isBehind_2  n1 (this) (p1) (0) h hw
set_option maxRecDepth 100000 in
def w_Se_takeGreater_47 (Q : Option Value → xH → Prop) (L2 : Nat → Nat → Int32 → xH → Prop) (l0 : Nat) (l1 : Nat) (l2 : Int32) (h : xH) : Prop := L2 (l0) (l1) (l2 + 1) h
set_option maxRecDepth 100000 in
set_option maxHeartbeats 4000000 in
theorem p_Se_takeGreater_47 {sc : List Int32} {Q : Option Value → xH → Prop} {L2 : Nat → Nat → Int32 → xH → Prop} (hL2 : ∀ l0 l1 l2 h, L2 l0 l1 l2 h → xW sc m_Se_takeGreater 0 0 0 2 [some (.ref (l0)), some (.ref (l1)), some (.int (l2))] [] h Q) (l0 : Nat) (l1 : Nat) (l2 : Int32) (h : xH) (hw : w_Se_takeGreater_47 Q L2 l0 l1 l2 h) : xW sc m_Se_takeGreater 0 0 0 47 [some (.ref (l0)), some (.ref (l1)), some (.int (l2))] [] h Q := by
  unfold w_Se_takeGreater_47 at hw
  refine xs_iinc (v := l2 + 1) (lv' := [some (.ref (l0)), some (.ref (l1)), some (.int (l2 + 1))]) d_Se_takeGreater_47 rfl rfl rfl ?_
  refine xw_goto (tgt := 2) d_Se_takeGreater_50 (by decide) ?_
  exact hL2 (l0) (l1) (l2 + 1) h hw
set_option maxRecDepth 100000 in
def w_Se_takeGreater_2 (Q : Option Value → xH → Prop) : Nat → Nat → Nat → Int32 → xH → Prop
  | 0, _, _, _, _ => False
  | n + 1, l0, l1, l2, h => ((16 ≤ l2 → Q none h) ∧ (¬ 16 ≤ l2 → ∃ (f1 : List Value) (a2 : Nat), h.2 l1 = some (.inr (5, f1)) ∧ f1[0]? = some (.ref a2) ∧ ∃ (ar25 : List Int32) (x3 : Int32), h.2 a2 = some (.inl (0, .inl ar25)) ∧ 0 ≤ l2 ∧ ar25[l2.toNatClampNeg]? = some x3 ∧ ∃ (f4 : List Value) (a5 : Nat), h.2 l0 = some (.inr (5, f4)) ∧ f4[0]? = some (.ref a5) ∧ ∃ (ar24 : List Int32) (x6 : Int32), h.2 a5 = some (.inl (0, .inl ar24)) ∧ 0 ≤ l2 ∧ ar24[l2.toNatClampNeg]? = some x6 ∧ ((x3 ≤ x6 → w_Se_takeGreater_47 Q (fun y0 y1 y2 yh => w_Se_takeGreater_2 Q n y0 y1 y2 yh) (l0) (l1) (l2) h) ∧ (¬ x3 ≤ x6 → ∃ (f7 : List Value) (a8 : Nat), h.2 l0 = some (.inr (5, f7)) ∧ f7[0]? = some (.ref a8) ∧ ∃ (f9 : List Value) (a10 : Nat), h.2 l1 = some (.inr (5, f9)) ∧ f9[0]? = some (.ref a10) ∧ ∃ (ar22 : List Int32) (x11 : Int32), h.2 a10 = some (.inl (0, .inl ar22)) ∧ 0 ≤ l2 ∧ ar22[l2.toNatClampNeg]? = some x11 ∧ ∃ ar12, h.2 a8 = some (.inl (0, .inl ar12)) ∧ 0 ≤ l2 ∧ l2.toNatClampNeg < ar12.length ∧ ∀ h13, h13 = xu h a8 (.inl (0, .inl (ar12.set l2.toNatClampNeg x11))) → ∃ (f14 : List Value) (a15 : Nat), h13.2 l0 = some (.inr (5, f14)) ∧ f14[1]? = some (.ref a15) ∧ ∃ (f16 : List Value) (a17 : Nat), h13.2 l1 = some (.inr (5, f16)) ∧ f16[1]? = some (.ref a17) ∧ ∃ (ar21 : List Int32) (x18 : Int32), h13.2 a17 = some (.inl (0, .inl ar21)) ∧ 0 ≤ l2 ∧ ar21[l2.toNatClampNeg]? = some x18 ∧ ∃ ar19, h13.2 a15 = some (.inl (0, .inl ar19)) ∧ 0 ≤ l2 ∧ l2.toNatClampNeg < ar19.length ∧ ∀ h20, h20 = xu h13 a15 (.inl (0, .inl (ar19.set l2.toNatClampNeg x18))) → w_Se_takeGreater_47 Q (fun y0 y1 y2 yh => w_Se_takeGreater_2 Q n y0 y1 y2 yh) (l0) (l1) (l2) h20))))
set_option maxRecDepth 100000 in
set_option maxHeartbeats 4000000 in
theorem p_Se_takeGreater_2 {sc : List Int32} {Q : Option Value → xH → Prop} : ∀ (n : Nat) (l0 : Nat) (l1 : Nat) (l2 : Int32) (h : xH), w_Se_takeGreater_2 Q n l0 l1 l2 h → xW sc m_Se_takeGreater 0 0 0 2 [some (.ref (l0)), some (.ref (l1)), some (.int (l2))] [] h Q := by
  intro n
  induction n with
  | zero => intro l0 l1 l2 h hw; exact False.elim hw
  | succ n ih =>
    intro l0 l1 l2 h hw
    rw [w_Se_takeGreater_2] at hw
    refine xw_iload_n d_Se_takeGreater_2 rfl rfl ?_
    refine xw_bipush (v := 16) d_Se_takeGreater_3 (by decide) ?_
    refine xw_icmp_ge (tgt := 53) d_Se_takeGreater_5 (by decide) (fun c26 => ?_) (fun c26 => ?_)
    · have hw := hw.1 c26
      exact xw_return rfl d_Se_takeGreater_53 hw
    · have hw := hw.2 c26
      refine xw_aload_n d_Se_takeGreater_8 rfl rfl ?_
      obtain ⟨f1, a2, hA, hB, hw⟩ := hw
      refine xw_getr fr_Se_9 d_Se_takeGreater_9 hA hB ?_
      refine xw_iload_n d_Se_takeGreater_12 rfl rfl ?_
      obtain ⟨ar25, x3, hA, hB, hC, hw⟩ := hw
      refine xw_iaload (t := 0) rfl d_Se_takeGreater_13 hA hB hC ?_
      refine xw_aload_n d_Se_takeGreater_14 rfl rfl ?_
      obtain ⟨f4, a5, hA, hB, hw⟩ := hw
      refine xw_getr fr_Se_9 d_Se_takeGreater_15 hA hB ?_
      refine xw_iload_n d_Se_takeGreater_18 rfl rfl ?_
      obtain ⟨ar24, x6, hA, hB, hC, hw⟩ := hw
      refine xw_iaload (t := 0) rfl d_Se_takeGreater_19 hA hB hC ?_
      refine xw_icmp_le (tgt := 47) d_Se_takeGreater_20 (by decide) (fun c23 => ?_) (fun c23 => ?_)
      · have hw := hw.1 c23
        exact p_Se_takeGreater_47 ih (l0) (l1) (l2) h hw
      · have hw := hw.2 c23
        refine xw_aload_n d_Se_takeGreater_23 rfl rfl ?_
        obtain ⟨f7, a8, hA, hB, hw⟩ := hw
        refine xw_getr fr_Se_9 d_Se_takeGreater_24 hA hB ?_
        refine xw_iload_n d_Se_takeGreater_27 rfl rfl ?_
        refine xw_aload_n d_Se_takeGreater_28 rfl rfl ?_
        obtain ⟨f9, a10, hA, hB, hw⟩ := hw
        refine xw_getr fr_Se_9 d_Se_takeGreater_29 hA hB ?_
        refine xw_iload_n d_Se_takeGreater_32 rfl rfl ?_
        obtain ⟨ar22, x11, hA, hB, hC, hw⟩ := hw
        refine xw_iaload (t := 0) rfl d_Se_takeGreater_33 hA hB hC ?_
        obtain ⟨ar12, hA, hB, hC, hw⟩ := hw
        refine xw_iastore (t := 0) rfl d_Se_takeGreater_34 hA hB hC ?_
        generalize hh : xu h a8 (.inl (0, .inl (ar12.set l2.toNatClampNeg x11))) = h13
        have hw := hw h13 hh.symm
        refine xw_aload_n d_Se_takeGreater_35 rfl rfl ?_
        obtain ⟨f14, a15, hA, hB, hw⟩ := hw
        refine xw_getr fr_Se_15 d_Se_takeGreater_36 hA hB ?_
        refine xw_iload_n d_Se_takeGreater_39 rfl rfl ?_
        refine xw_aload_n d_Se_takeGreater_40 rfl rfl ?_
        obtain ⟨f16, a17, hA, hB, hw⟩ := hw
        refine xw_getr fr_Se_15 d_Se_takeGreater_41 hA hB ?_
        refine xw_iload_n d_Se_takeGreater_44 rfl rfl ?_
        obtain ⟨ar21, x18, hA, hB, hC, hw⟩ := hw
        refine xw_iaload (t := 0) rfl d_Se_takeGreater_45 hA hB hC ?_
        obtain ⟨ar19, hA, hB, hC, hw⟩ := hw
        refine xw_iastore (t := 0) rfl d_Se_takeGreater_46 hA hB hC ?_
        generalize hh : xu h13 a15 (.inl (0, .inl (ar19.set l2.toNatClampNeg x18))) = h20
        have hw := hw h20 hh.symm
        exact p_Se_takeGreater_47 ih (l0) (l1) (l2) h20 hw
set_option maxRecDepth 100000 in
def w_Se_takeGreater (Q : Option Value → xH → Prop) (this : Nat) (p1 : Nat) (h : xH) : Prop := ∃ n1, w_Se_takeGreater_2 Q n1 (this) (p1) (0) h
set_option maxRecDepth 100000 in
set_option maxHeartbeats 4000000 in
theorem x_Se_takeGreater {sc : List Int32} {Q : Option Value → xH → Prop} {this : Nat} {p1 : Nat} {h : xH} (hw : w_Se_takeGreater Q this p1 h) : xMet sc m_Se_takeGreater 0 0 0 [.ref (this), .ref (p1)] h Q := by
  unfold w_Se_takeGreater at hw
  refine xMet.of2 cw_Se_takeGreater rfl rfl ?_
  show xW sc m_Se_takeGreater 0 0 0 0 [some (.ref (this)), some (.ref (p1)), none] [] h Q
  refine xw_iconst (v := 0) d_Se_takeGreater_0 (by decide) ?_
  refine xs_istore_n (lv' := [some (.ref (this)), some (.ref (p1)), some (.int (0))]) d_Se_takeGreater_1 rfl rfl rfl ?_
  obtain ⟨n1, hw⟩ := hw
  exact p_Se_takeGreater_2  n1 (this) (p1) (0) h hw
set_option maxRecDepth 100000 in
def w_No_merge (Q : Option Value → xH → Prop) (this : Nat) (p1 : Nat) (h : xH) : Prop := ∃ (f1 : List Value) (a2 : Nat), h.2 this = some (.inr (4, f1)) ∧ f1[8]? = some (.ref a2) ∧ (∃ f4, h.2 a2 = some (.inr (5, f4))) ∧ w_Se_isBehind (fun v h3 => ∃ (x5 : Int32), v = some (.int x5) ∧ ((x5 = 0 → (narrow .boolean (.int 0) = .int 0 ∧ Q (some (.int 0)) h3)) ∧ (¬ x5 = 0 → (∃ f7, h3.2 this = some (.inr (4, f7))) ∧ w_No_mayWrite (fun v h6 => ∃ (x8 : Int32), v = some (.int x8) ∧ ((¬ x8 = 0 → ∃ (f9 : List Value) (a10 : Nat), h6.2 this = some (.inr (4, f9)) ∧ f9[8]? = some (.ref a10) ∧ (∃ f12, h6.2 a10 = some (.inr (5, f12))) ∧ w_Se_takeGreater (fun v h11 => v = none ∧ (narrow .boolean (.int 1) = .int 1 ∧ Q (some (.int 1)) h11)) a10 p1 h6) ∧ (x8 = 0 → (narrow .boolean (.int 0) = .int 0 ∧ Q (some (.int 0)) h6)))) this h3))) a2 p1 h
set_option maxRecDepth 100000 in
set_option maxHeartbeats 4000000 in
theorem x_No_merge {sc : List Int32} {Q : Option Value → xH → Prop} {this : Nat} {p1 : Nat} {h : xH} (hw : w_No_merge Q this p1 h) : xMet sc m_No_merge 2 0 0 [.ref (this), .ref (p1)] h Q := by
  unfold w_No_merge at hw
  refine xMet.of2 cw_No_merge rfl rfl ?_
  show xW sc m_No_merge 2 0 0 0 [some (.ref (this)), some (.ref (p1))] [] h Q
  refine xw_aload_n d_No_merge_0 rfl rfl ?_
  obtain ⟨f1, a2, hA, hB, hw⟩ := hw
  refine xw_getr fr_No_40 d_No_merge_1 hA hB ?_
  refine xw_aload_n d_No_merge_4 rfl rfl ?_
  obtain ⟨⟨f4, hA⟩, hw⟩ := hw
  refine xc_V1i lk_No_101 in_Se_isBehind d_No_merge_5 (x_Se_isBehind hw) rfl hA rfl ?_
  intro x5 h3 hw
  refine xw_if_eq (tgt := 18) d_No_merge_8 (by decide) (fun c14 => ?_) (fun c14 => ?_)
  · have hw := hw.1 c14
    refine xw_iconst (v := 0) d_No_merge_18 (by decide) ?_
    exact xw_zreturn rfl hw.1 d_No_merge_19 hw.2
  · have hw := hw.2 c14
    refine xw_aload_n d_No_merge_11 rfl rfl ?_
    obtain ⟨⟨f7, hA⟩, hw⟩ := hw
    refine xc_V0i lk_No_82 in_No_mayWrite d_No_merge_12 (x_No_mayWrite hw) rfl hA rfl ?_
    intro x8 h6 hw
    refine xw_if_ne (tgt := 20) d_No_merge_15 (by decide) (fun c13 => ?_) (fun c13 => ?_)
    · have hw := hw.1 c13
      refine xw_aload_n d_No_merge_20 rfl rfl ?_
      obtain ⟨f9, a10, hA, hB, hw⟩ := hw
      refine xw_getr fr_No_40 d_No_merge_21 hA hB ?_
      refine xw_aload_n d_No_merge_24 rfl rfl ?_
      obtain ⟨⟨f12, hA⟩, hw⟩ := hw
      refine xc_V1n lk_No_105 in_Se_takeGreater d_No_merge_25 (x_Se_takeGreater hw) rfl hA rfl ?_
      intro h11 hw
      refine xw_iconst (v := 1) d_No_merge_28 (by decide) ?_
      exact xw_zreturn rfl hw.1 d_No_merge_29 hw.2
    · have hw := hw.2 c13
      refine xw_iconst (v := 0) d_No_merge_18 (by decide) ?_
      exact xw_zreturn rfl hw.1 d_No_merge_19 hw.2
set_option maxRecDepth 100000 in
def w_Se_put (Q : Option Value → xH → Prop) (this : Nat) (p1 : Int32) (p2 : Int32) (p3 : Int32) (h : xH) : Prop := w_Q_isIndex (fun v h1 => ∃ (x2 : Int32), v = some (.int x2) ∧ ((x2 = 0 → Q none h1) ∧ (¬ x2 = 0 → ∃ (f3 : List Value) (a4 : Nat), h1.2 this = some (.inr (5, f3)) ∧ f3[0]? = some (.ref a4) ∧ ∃ ar5, h1.2 a4 = some (.inl (0, .inl ar5)) ∧ 0 ≤ p1 ∧ p1.toNatClampNeg < ar5.length ∧ ∀ h6, h6 = xu h1 a4 (.inl (0, .inl (ar5.set p1.toNatClampNeg p2))) → ∃ (f7 : List Value) (a8 : Nat), h6.2 this = some (.inr (5, f7)) ∧ f7[1]? = some (.ref a8) ∧ ∃ ar9, h6.2 a8 = some (.inl (0, .inl ar9)) ∧ 0 ≤ p1 ∧ p1.toNatClampNeg < ar9.length ∧ ∀ h10, h10 = xu h6 a8 (.inl (0, .inl (ar9.set p1.toNatClampNeg p3))) → Q none h10))) p1 h
set_option maxRecDepth 100000 in
set_option maxHeartbeats 4000000 in
theorem x_Se_put {sc : List Int32} {Q : Option Value → xH → Prop} {this : Nat} {p1 : Int32} {p2 : Int32} {p3 : Int32} {h : xH} (hw : w_Se_put Q this p1 p2 p3 h) : xMet sc m_Se_put 1 0 0 [.ref (this), .int (p1), .int (p2), .int (p3)] h Q := by
  unfold w_Se_put at hw
  refine xMet.of2 cw_Se_put rfl rfl ?_
  show xW sc m_Se_put 1 0 0 0 [some (.ref (this)), some (.int (p1)), some (.int (p2)), some (.int (p3))] [] h Q
  refine xw_iload_n d_Se_put_0 rfl rfl ?_
  refine xc_SN1i ln_Se_18 st_Q_isIndex d_Se_put_1 (x_Q_isIndex hw) rfl rfl ?_
  intro x2 h1 hw
  refine xw_if_eq (tgt := 21) d_Se_put_4 (by decide) (fun c11 => ?_) (fun c11 => ?_)
  · have hw := hw.1 c11
    exact xw_return rfl d_Se_put_21 hw
  · have hw := hw.2 c11
    refine xw_aload_n d_Se_put_7 rfl rfl ?_
    obtain ⟨f3, a4, hA, hB, hw⟩ := hw
    refine xw_getr fr_Se_9 d_Se_put_8 hA hB ?_
    refine xw_iload_n d_Se_put_11 rfl rfl ?_
    refine xw_iload_n d_Se_put_12 rfl rfl ?_
    obtain ⟨ar5, hA, hB, hC, hw⟩ := hw
    refine xw_iastore (t := 0) rfl d_Se_put_13 hA hB hC ?_
    generalize hh : xu h1 a4 (.inl (0, .inl (ar5.set p1.toNatClampNeg p2))) = h6
    have hw := hw h6 hh.symm
    refine xw_aload_n d_Se_put_14 rfl rfl ?_
    obtain ⟨f7, a8, hA, hB, hw⟩ := hw
    refine xw_getr fr_Se_15 d_Se_put_15 hA hB ?_
    refine xw_iload_n d_Se_put_18 rfl rfl ?_
    refine xw_iload_n d_Se_put_19 rfl rfl ?_
    obtain ⟨ar9, hA, hB, hC, hw⟩ := hw
    refine xw_iastore (t := 0) rfl d_Se_put_20 hA hB hC ?_
    generalize hh : xu h6 a8 (.inl (0, .inl (ar9.set p1.toNatClampNeg p3))) = h10
    have hw := hw h10 hh.symm
    exact xw_return rfl d_Se_put_21 hw
set_option maxRecDepth 100000 in
def w_No_mark (Q : Option Value → xH → Prop) (this : Nat) (p1 : Int32) (p2 : Int32) (p3 : Int32) (h : xH) : Prop := (∃ f2, h.2 this = some (.inr (4, f2))) ∧ w_No_mayWrite (fun v h1 => ∃ (x3 : Int32), v = some (.int x3) ∧ ((x3 = 0 → Q none h1) ∧ (¬ x3 = 0 → ∃ (f4 : List Value) (a5 : Nat), h1.2 this = some (.inr (4, f4)) ∧ f4[8]? = some (.ref a5) ∧ (∃ f7, h1.2 a5 = some (.inr (5, f7))) ∧ w_Se_put (fun v h6 => v = none ∧ Q none h6) a5 p1 p2 p3 h1))) this h
set_option maxRecDepth 100000 in
set_option maxHeartbeats 4000000 in
theorem x_No_mark {sc : List Int32} {Q : Option Value → xH → Prop} {this : Nat} {p1 : Int32} {p2 : Int32} {p3 : Int32} {h : xH} (hw : w_No_mark Q this p1 p2 p3 h) : xMet sc m_No_mark 2 0 0 [.ref (this), .int (p1), .int (p2), .int (p3)] h Q := by
  unfold w_No_mark at hw
  refine xMet.of2 cw_No_mark rfl rfl ?_
  show xW sc m_No_mark 2 0 0 0 [some (.ref (this)), some (.int (p1)), some (.int (p2)), some (.int (p3))] [] h Q
  refine xw_aload_n d_No_mark_0 rfl rfl ?_
  obtain ⟨⟨f2, hA⟩, hw⟩ := hw
  refine xc_V0i lk_No_82 in_No_mayWrite d_No_mark_1 (x_No_mayWrite hw) rfl hA rfl ?_
  intro x3 h1 hw
  refine xw_if_eq (tgt := 17) d_No_mark_4 (by decide) (fun c8 => ?_) (fun c8 => ?_)
  · have hw := hw.1 c8
    exact xw_return rfl d_No_mark_17 hw
  · have hw := hw.2 c8
    refine xw_aload_n d_No_mark_7 rfl rfl ?_
    obtain ⟨f4, a5, hA, hB, hw⟩ := hw
    refine xw_getr fr_No_40 d_No_mark_8 hA hB ?_
    refine xw_iload_n d_No_mark_11 rfl rfl ?_
    refine xw_iload_n d_No_mark_12 rfl rfl ?_
    refine xw_iload_n d_No_mark_13 rfl rfl ?_
    obtain ⟨⟨f7, hA⟩, hw⟩ := hw
    refine xc_V3n lk_No_109 in_Se_put d_No_mark_14 (x_Se_put hw) rfl hA rfl ?_
    intro h6 hw
    exact xw_return rfl d_No_mark_17 hw
set_option maxRecDepth 100000 in
def w_Se_stateOf (Q : Option Value → xH → Prop) (this : Nat) (p1 : Int32) (h : xH) : Prop := w_Q_isIndex (fun v h1 => ∃ (x2 : Int32), v = some (.int x2) ∧ ((x2 = 0 → Q (some (.int 0)) h1) ∧ (¬ x2 = 0 → ∃ (f3 : List Value) (a4 : Nat), h1.2 this = some (.inr (5, f3)) ∧ f3[0]? = some (.ref a4) ∧ ∃ (ar6 : List Int32) (x5 : Int32), h1.2 a4 = some (.inl (0, .inl ar6)) ∧ 0 ≤ p1 ∧ ar6[p1.toNatClampNeg]? = some x5 ∧ Q (some (.int x5)) h1))) p1 h
set_option maxRecDepth 100000 in
set_option maxHeartbeats 4000000 in
theorem x_Se_stateOf {sc : List Int32} {Q : Option Value → xH → Prop} {this : Nat} {p1 : Int32} {h : xH} (hw : w_Se_stateOf Q this p1 h) : xMet sc m_Se_stateOf 1 0 0 [.ref (this), .int (p1)] h Q := by
  unfold w_Se_stateOf at hw
  refine xMet.of2 cw_Se_stateOf rfl rfl ?_
  show xW sc m_Se_stateOf 1 0 0 0 [some (.ref (this)), some (.int (p1))] [] h Q
  refine xw_iload_n d_Se_stateOf_0 rfl rfl ?_
  refine xc_SN1i ln_Se_18 st_Q_isIndex d_Se_stateOf_1 (x_Q_isIndex hw) rfl rfl ?_
  intro x2 h1 hw
  refine xw_if_eq (tgt := 16) d_Se_stateOf_4 (by decide) (fun c7 => ?_) (fun c7 => ?_)
  · have hw := hw.1 c7
    refine xw_iconst (v := 0) d_Se_stateOf_16 (by decide) ?_
    exact xw_ireturn rfl d_Se_stateOf_17 hw
  · have hw := hw.2 c7
    refine xw_aload_n d_Se_stateOf_7 rfl rfl ?_
    obtain ⟨f3, a4, hA, hB, hw⟩ := hw
    refine xw_getr fr_Se_9 d_Se_stateOf_8 hA hB ?_
    refine xw_iload_n d_Se_stateOf_11 rfl rfl ?_
    obtain ⟨ar6, x5, hA, hB, hC, hw⟩ := hw
    refine xw_iaload (t := 0) rfl d_Se_stateOf_12 hA hB hC ?_
    refine xw_goto (tgt := 17) d_Se_stateOf_13 (by decide) ?_
    exact xw_ireturn rfl d_Se_stateOf_17 hw
set_option maxRecDepth 100000 in
def w_Se_configurationOf (Q : Option Value → xH → Prop) (this : Nat) (p1 : Int32) (h : xH) : Prop := w_Q_isIndex (fun v h1 => ∃ (x2 : Int32), v = some (.int x2) ∧ ((x2 = 0 → Q (some (.int 0)) h1) ∧ (¬ x2 = 0 → ∃ (f3 : List Value) (a4 : Nat), h1.2 this = some (.inr (5, f3)) ∧ f3[1]? = some (.ref a4) ∧ ∃ (ar6 : List Int32) (x5 : Int32), h1.2 a4 = some (.inl (0, .inl ar6)) ∧ 0 ≤ p1 ∧ ar6[p1.toNatClampNeg]? = some x5 ∧ Q (some (.int x5)) h1))) p1 h
set_option maxRecDepth 100000 in
set_option maxHeartbeats 4000000 in
theorem x_Se_configurationOf {sc : List Int32} {Q : Option Value → xH → Prop} {this : Nat} {p1 : Int32} {h : xH} (hw : w_Se_configurationOf Q this p1 h) : xMet sc m_Se_configurationOf 1 0 0 [.ref (this), .int (p1)] h Q := by
  unfold w_Se_configurationOf at hw
  refine xMet.of2 cw_Se_configurationOf rfl rfl ?_
  show xW sc m_Se_configurationOf 1 0 0 0 [some (.ref (this)), some (.int (p1))] [] h Q
  refine xw_iload_n d_Se_configurationOf_0 rfl rfl ?_
  refine xc_SN1i ln_Se_18 st_Q_isIndex d_Se_configurationOf_1 (x_Q_isIndex hw) rfl rfl ?_
  intro x2 h1 hw
  refine xw_if_eq (tgt := 16) d_Se_configurationOf_4 (by decide) (fun c7 => ?_) (fun c7 => ?_)
  · have hw := hw.1 c7
    refine xw_iconst (v := 0) d_Se_configurationOf_16 (by decide) ?_
    exact xw_ireturn rfl d_Se_configurationOf_17 hw
  · have hw := hw.2 c7
    refine xw_aload_n d_Se_configurationOf_7 rfl rfl ?_
    obtain ⟨f3, a4, hA, hB, hw⟩ := hw
    refine xw_getr fr_Se_15 d_Se_configurationOf_8 hA hB ?_
    refine xw_iload_n d_Se_configurationOf_11 rfl rfl ?_
    obtain ⟨ar6, x5, hA, hB, hC, hw⟩ := hw
    refine xw_iaload (t := 0) rfl d_Se_configurationOf_12 hA hB hC ?_
    refine xw_goto (tgt := 17) d_Se_configurationOf_13 (by decide) ?_
    exact xw_ireturn rfl d_Se_configurationOf_17 hw
set_option maxRecDepth 100000 in
def w_Se_membersOfAll_30 (Q : Option Value → xH → Prop) (L4 : Nat → Int32 → Int32 → Int32 → xH → Prop) (l0 : Nat) (l1 : Int32) (l2 : Int32) (l3 : Int32) (h : xH) : Prop := L4 (l0) (l1) (l2) (l3 + 1) h
set_option maxRecDepth 100000 in
set_option maxHeartbeats 4000000 in
theorem p_Se_membersOfAll_30 {sc : List Int32} {Q : Option Value → xH → Prop} {L4 : Nat → Int32 → Int32 → Int32 → xH → Prop} (hL4 : ∀ l0 l1 l2 l3 h, L4 l0 l1 l2 l3 h → xW sc m_Se_membersOfAll 1 0 0 4 [some (.ref (l0)), some (.int (l1)), some (.int (l2)), some (.int (l3))] [] h Q) (l0 : Nat) (l1 : Int32) (l2 : Int32) (l3 : Int32) (h : xH) (hw : w_Se_membersOfAll_30 Q L4 l0 l1 l2 l3 h) : xW sc m_Se_membersOfAll 1 0 0 30 [some (.ref (l0)), some (.int (l1)), some (.int (l2)), some (.int (l3))] [] h Q := by
  unfold w_Se_membersOfAll_30 at hw
  refine xs_iinc (v := l3 + 1) (lv' := [some (.ref (l0)), some (.int (l1)), some (.int (l2)), some (.int (l3 + 1))]) d_Se_membersOfAll_30 rfl rfl rfl ?_
  refine xw_goto (tgt := 4) d_Se_membersOfAll_33 (by decide) ?_
  exact hL4 (l0) (l1) (l2) (l3 + 1) h hw
set_option maxRecDepth 100000 in
def w_Se_membersOfAll_4 (Q : Option Value → xH → Prop) : Nat → Nat → Int32 → Int32 → Int32 → xH → Prop
  | 0, _, _, _, _, _ => False
  | n + 1, l0, l1, l2, l3, h => ((16 ≤ l3 → Q (some (.int l2)) h) ∧ (¬ 16 ≤ l3 → w_Q_isIn (fun v h1 => ∃ (x2 : Int32), v = some (.int x2) ∧ ((x2 = 0 → w_Se_membersOfAll_30 Q (fun y0 y1 y2 y3 yh => w_Se_membersOfAll_4 Q n y0 y1 y2 y3 yh) (l0) (l1) (l2) (l3) h1) ∧ (¬ x2 = 0 → ∃ (f3 : List Value) (a4 : Nat), h1.2 l0 = some (.inr (5, f3)) ∧ f3[1]? = some (.ref a4) ∧ ∃ (ar8 : List Int32) (x5 : Int32), h1.2 a4 = some (.inl (0, .inl ar8)) ∧ 0 ≤ l3 ∧ ar8[l3.toNatClampNeg]? = some x5 ∧ w_Q_membersOf (fun v h6 => ∃ (x7 : Int32), v = some (.int x7) ∧ w_Se_membersOfAll_30 Q (fun y0 y1 y2 y3 yh => w_Se_membersOfAll_4 Q n y0 y1 y2 y3 yh) (l0) (l1) (l2 ||| x7) (l3) h6) x5 h1))) l1 l3 h))
set_option maxRecDepth 100000 in
set_option maxHeartbeats 4000000 in
theorem p_Se_membersOfAll_4 {sc : List Int32} {Q : Option Value → xH → Prop} : ∀ (n : Nat) (l0 : Nat) (l1 : Int32) (l2 : Int32) (l3 : Int32) (h : xH), w_Se_membersOfAll_4 Q n l0 l1 l2 l3 h → xW sc m_Se_membersOfAll 1 0 0 4 [some (.ref (l0)), some (.int (l1)), some (.int (l2)), some (.int (l3))] [] h Q := by
  intro n
  induction n with
  | zero => intro l0 l1 l2 l3 h hw; exact False.elim hw
  | succ n ih =>
    intro l0 l1 l2 l3 h hw
    rw [w_Se_membersOfAll_4] at hw
    refine xw_iload_n d_Se_membersOfAll_4 rfl rfl ?_
    refine xw_bipush (v := 16) d_Se_membersOfAll_5 (by decide) ?_
    refine xw_icmp_ge (tgt := 36) d_Se_membersOfAll_7 (by decide) (fun c10 => ?_) (fun c10 => ?_)
    · have hw := hw.1 c10
      refine xw_iload_n d_Se_membersOfAll_36 rfl rfl ?_
      exact xw_ireturn rfl d_Se_membersOfAll_37 hw
    · have hw := hw.2 c10
      refine xw_iload_n d_Se_membersOfAll_10 rfl rfl ?_
      refine xw_iload_n d_Se_membersOfAll_11 rfl rfl ?_
      refine xc_SN2i ln_Se_22 st_Q_isIn d_Se_membersOfAll_12 (x_Q_isIn hw) rfl rfl ?_
      intro x2 h1 hw
      refine xw_if_eq (tgt := 30) d_Se_membersOfAll_15 (by decide) (fun c9 => ?_) (fun c9 => ?_)
      · have hw := hw.1 c9
        exact p_Se_membersOfAll_30 ih (l0) (l1) (l2) (l3) h1 hw
      · have hw := hw.2 c9
        refine xw_iload_n d_Se_membersOfAll_18 rfl rfl ?_
        refine xw_aload_n d_Se_membersOfAll_19 rfl rfl ?_
        obtain ⟨f3, a4, hA, hB, hw⟩ := hw
        refine xw_getr fr_Se_15 d_Se_membersOfAll_20 hA hB ?_
        refine xw_iload_n d_Se_membersOfAll_23 rfl rfl ?_
        obtain ⟨ar8, x5, hA, hB, hC, hw⟩ := hw
        refine xw_iaload (t := 0) rfl d_Se_membersOfAll_24 hA hB hC ?_
        refine xc_SN1i ln_Se_26 st_Q_membersOf d_Se_membersOfAll_25 (x_Q_membersOf hw) rfl rfl ?_
        intro x7 h6 hw
        refine xw_ior d_Se_membersOfAll_28 ?_
        refine xs_istore_n (lv' := [some (.ref (l0)), some (.int (l1)), some (.int (l2 ||| x7)), some (.int (l3))]) d_Se_membersOfAll_29 rfl rfl rfl ?_
        exact p_Se_membersOfAll_30 ih (l0) (l1) (l2 ||| x7) (l3) h6 hw
set_option maxRecDepth 100000 in
def w_Se_membersOfAll (Q : Option Value → xH → Prop) (this : Nat) (p1 : Int32) (h : xH) : Prop := ∃ n1, w_Se_membersOfAll_4 Q n1 (this) (p1) (0) (0) h
set_option maxRecDepth 100000 in
set_option maxHeartbeats 4000000 in
theorem x_Se_membersOfAll {sc : List Int32} {Q : Option Value → xH → Prop} {this : Nat} {p1 : Int32} {h : xH} (hw : w_Se_membersOfAll Q this p1 h) : xMet sc m_Se_membersOfAll 1 0 0 [.ref (this), .int (p1)] h Q := by
  unfold w_Se_membersOfAll at hw
  refine xMet.of2 cw_Se_membersOfAll rfl rfl ?_
  show xW sc m_Se_membersOfAll 1 0 0 0 [some (.ref (this)), some (.int (p1)), none, none] [] h Q
  refine xw_iconst (v := 0) d_Se_membersOfAll_0 (by decide) ?_
  refine xs_istore_n (lv' := [some (.ref (this)), some (.int (p1)), some (.int (0)), none]) d_Se_membersOfAll_1 rfl rfl rfl ?_
  refine xw_iconst (v := 0) d_Se_membersOfAll_2 (by decide) ?_
  refine xs_istore_n (lv' := [some (.ref (this)), some (.int (p1)), some (.int (0)), some (.int (0))]) d_Se_membersOfAll_3 rfl rfl rfl ?_
  obtain ⟨n1, hw⟩ := hw
  exact p_Se_membersOfAll_4  n1 (this) (p1) (0) (0) h hw
set_option maxRecDepth 100000 in
def w_Ta_isOfObject_16 (Q : Option Value → xH → Prop) (l0 : Nat) (h : xH) : Prop := (narrow .boolean (.int 1) = .int 1 ∧ Q (some (.int 1)) h)
set_option maxRecDepth 100000 in
set_option maxHeartbeats 4000000 in
theorem p_Ta_isOfObject_16 {sc : List Int32} {Q : Option Value → xH → Prop} (l0 : Nat) (h : xH) (hw : w_Ta_isOfObject_16 Q l0 h) : xW sc m_Ta_isOfObject 0 0 0 16 [some (.ref (l0))] [] h Q := by
  unfold w_Ta_isOfObject_16 at hw
  refine xw_iconst (v := 1) d_Ta_isOfObject_16 (by decide) ?_
  refine xw_goto (tgt := 21) d_Ta_isOfObject_17 (by decide) ?_
  exact xw_zreturn rfl hw.1 d_Ta_isOfObject_21 hw.2
set_option maxRecDepth 100000 in
def w_Ta_isOfObject (Q : Option Value → xH → Prop) (this : Nat) (h : xH) : Prop := ∃ (f1 : List Value) (x2 : Int32), h.2 this = some (.inr (6, f1)) ∧ f1[1]? = some (.int x2) ∧ ((x2 = 1 → w_Ta_isOfObject_16 Q (this) h) ∧ (¬ x2 = 1 → ∃ (f3 : List Value) (x4 : Int32), h.2 this = some (.inr (6, f3)) ∧ f3[1]? = some (.int x4) ∧ ((¬ x4 = 2 → (narrow .boolean (.int 0) = .int 0 ∧ Q (some (.int 0)) h)) ∧ (x4 = 2 → w_Ta_isOfObject_16 Q (this) h))))
set_option maxRecDepth 100000 in
set_option maxHeartbeats 4000000 in
theorem x_Ta_isOfObject {sc : List Int32} {Q : Option Value → xH → Prop} {this : Nat} {h : xH} (hw : w_Ta_isOfObject Q this h) : xMet sc m_Ta_isOfObject 0 0 0 [.ref (this)] h Q := by
  unfold w_Ta_isOfObject at hw
  refine xMet.of2 cw_Ta_isOfObject rfl rfl ?_
  show xW sc m_Ta_isOfObject 0 0 0 0 [some (.ref (this))] [] h Q
  refine xw_aload_n d_Ta_isOfObject_0 rfl rfl ?_
  obtain ⟨f1, x2, hA, hB, hw⟩ := hw
  refine xw_getr fr_Ta_18 d_Ta_isOfObject_1 hA hB ?_
  refine xw_iconst (v := 1) d_Ta_isOfObject_4 (by decide) ?_
  refine xw_icmp_eq (tgt := 16) d_Ta_isOfObject_5 (by decide) (fun c6 => ?_) (fun c6 => ?_)
  · have hw := hw.1 c6
    exact p_Ta_isOfObject_16  (this) h hw
  · have hw := hw.2 c6
    refine xw_aload_n d_Ta_isOfObject_8 rfl rfl ?_
    obtain ⟨f3, x4, hA, hB, hw⟩ := hw
    refine xw_getr fr_Ta_18 d_Ta_isOfObject_9 hA hB ?_
    refine xw_iconst (v := 2) d_Ta_isOfObject_12 (by decide) ?_
    refine xw_icmp_ne (tgt := 20) d_Ta_isOfObject_13 (by decide) (fun c5 => ?_) (fun c5 => ?_)
    · have hw := hw.1 c5
      refine xw_iconst (v := 0) d_Ta_isOfObject_20 (by decide) ?_
      exact xw_zreturn rfl hw.1 d_Ta_isOfObject_21 hw.2
    · have hw := hw.2 c5
      exact p_Ta_isOfObject_16  (this) h hw
set_option maxRecDepth 100000 in
def w_Vo_promisedAt (Q : Option Value → xH → Prop) (this : Nat) (p1 : Int32) (h : xH) : Prop := w_Q_isIndex (fun v h1 => ∃ (x2 : Int32), v = some (.int x2) ∧ ((x2 = 0 → Q (some (.int 0)) h1) ∧ (¬ x2 = 0 → ∃ (f3 : List Value) (a4 : Nat), h1.2 this = some (.inr (7, f3)) ∧ f3[0]? = some (.ref a4) ∧ ∃ (ar6 : List Int32) (x5 : Int32), h1.2 a4 = some (.inl (0, .inl ar6)) ∧ 0 ≤ p1 ∧ ar6[p1.toNatClampNeg]? = some x5 ∧ Q (some (.int x5)) h1))) p1 h
set_option maxRecDepth 100000 in
set_option maxHeartbeats 4000000 in
theorem x_Vo_promisedAt {sc : List Int32} {Q : Option Value → xH → Prop} {this : Nat} {p1 : Int32} {h : xH} (hw : w_Vo_promisedAt Q this p1 h) : xMet sc m_Vo_promisedAt 1 0 0 [.ref (this), .int (p1)] h Q := by
  unfold w_Vo_promisedAt at hw
  refine xMet.of2 cw_Vo_promisedAt rfl rfl ?_
  show xW sc m_Vo_promisedAt 1 0 0 0 [some (.ref (this)), some (.int (p1))] [] h Q
  refine xw_iload_n d_Vo_promisedAt_0 rfl rfl ?_
  refine xc_SN1i ln_Vo_21 st_Q_isIndex d_Vo_promisedAt_1 (x_Q_isIndex hw) rfl rfl ?_
  intro x2 h1 hw
  refine xw_if_eq (tgt := 16) d_Vo_promisedAt_4 (by decide) (fun c7 => ?_) (fun c7 => ?_)
  · have hw := hw.1 c7
    refine xw_iconst (v := 0) d_Vo_promisedAt_16 (by decide) ?_
    exact xw_ireturn rfl d_Vo_promisedAt_17 hw
  · have hw := hw.2 c7
    refine xw_aload_n d_Vo_promisedAt_7 rfl rfl ?_
    obtain ⟨f3, a4, hA, hB, hw⟩ := hw
    refine xw_getr fr_Vo_9 d_Vo_promisedAt_8 hA hB ?_
    refine xw_iload_n d_Vo_promisedAt_11 rfl rfl ?_
    obtain ⟨ar6, x5, hA, hB, hC, hw⟩ := hw
    refine xw_iaload (t := 0) rfl d_Vo_promisedAt_12 hA hB hC ?_
    refine xw_goto (tgt := 17) d_Vo_promisedAt_13 (by decide) ?_
    exact xw_ireturn rfl d_Vo_promisedAt_17 hw
set_option maxRecDepth 100000 in
def w_Vo_acceptedAt (Q : Option Value → xH → Prop) (this : Nat) (p1 : Int32) (h : xH) : Prop := w_Q_isIndex (fun v h1 => ∃ (x2 : Int32), v = some (.int x2) ∧ ((x2 = 0 → Q (some (.int 0)) h1) ∧ (¬ x2 = 0 → ∃ (f3 : List Value) (a4 : Nat), h1.2 this = some (.inr (7, f3)) ∧ f3[1]? = some (.ref a4) ∧ ∃ (ar6 : List Int32) (x5 : Int32), h1.2 a4 = some (.inl (0, .inl ar6)) ∧ 0 ≤ p1 ∧ ar6[p1.toNatClampNeg]? = some x5 ∧ Q (some (.int x5)) h1))) p1 h
set_option maxRecDepth 100000 in
set_option maxHeartbeats 4000000 in
theorem x_Vo_acceptedAt {sc : List Int32} {Q : Option Value → xH → Prop} {this : Nat} {p1 : Int32} {h : xH} (hw : w_Vo_acceptedAt Q this p1 h) : xMet sc m_Vo_acceptedAt 1 0 0 [.ref (this), .int (p1)] h Q := by
  unfold w_Vo_acceptedAt at hw
  refine xMet.of2 cw_Vo_acceptedAt rfl rfl ?_
  show xW sc m_Vo_acceptedAt 1 0 0 0 [some (.ref (this)), some (.int (p1))] [] h Q
  refine xw_iload_n d_Vo_acceptedAt_0 rfl rfl ?_
  refine xc_SN1i ln_Vo_21 st_Q_isIndex d_Vo_acceptedAt_1 (x_Q_isIndex hw) rfl rfl ?_
  intro x2 h1 hw
  refine xw_if_eq (tgt := 16) d_Vo_acceptedAt_4 (by decide) (fun c7 => ?_) (fun c7 => ?_)
  · have hw := hw.1 c7
    refine xw_iconst (v := 0) d_Vo_acceptedAt_16 (by decide) ?_
    exact xw_ireturn rfl d_Vo_acceptedAt_17 hw
  · have hw := hw.2 c7
    refine xw_aload_n d_Vo_acceptedAt_7 rfl rfl ?_
    obtain ⟨f3, a4, hA, hB, hw⟩ := hw
    refine xw_getr fr_Vo_15 d_Vo_acceptedAt_8 hA hB ?_
    refine xw_iload_n d_Vo_acceptedAt_11 rfl rfl ?_
    obtain ⟨ar6, x5, hA, hB, hC, hw⟩ := hw
    refine xw_iaload (t := 0) rfl d_Vo_acceptedAt_12 hA hB hC ?_
    refine xw_goto (tgt := 17) d_Vo_acceptedAt_13 (by decide) ?_
    exact xw_ireturn rfl d_Vo_acceptedAt_17 hw
set_option maxRecDepth 100000 in
def w_Vo_configurationAt (Q : Option Value → xH → Prop) (this : Nat) (p1 : Int32) (h : xH) : Prop := w_Q_isIndex (fun v h1 => ∃ (x2 : Int32), v = some (.int x2) ∧ ((x2 = 0 → Q (some (.int 0)) h1) ∧ (¬ x2 = 0 → ∃ (f3 : List Value) (a4 : Nat), h1.2 this = some (.inr (7, f3)) ∧ f3[2]? = some (.ref a4) ∧ ∃ (ar6 : List Int32) (x5 : Int32), h1.2 a4 = some (.inl (0, .inl ar6)) ∧ 0 ≤ p1 ∧ ar6[p1.toNatClampNeg]? = some x5 ∧ Q (some (.int x5)) h1))) p1 h
set_option maxRecDepth 100000 in
set_option maxHeartbeats 4000000 in
theorem x_Vo_configurationAt {sc : List Int32} {Q : Option Value → xH → Prop} {this : Nat} {p1 : Int32} {h : xH} (hw : w_Vo_configurationAt Q this p1 h) : xMet sc m_Vo_configurationAt 1 0 0 [.ref (this), .int (p1)] h Q := by
  unfold w_Vo_configurationAt at hw
  refine xMet.of2 cw_Vo_configurationAt rfl rfl ?_
  show xW sc m_Vo_configurationAt 1 0 0 0 [some (.ref (this)), some (.int (p1))] [] h Q
  refine xw_iload_n d_Vo_configurationAt_0 rfl rfl ?_
  refine xc_SN1i ln_Vo_21 st_Q_isIndex d_Vo_configurationAt_1 (x_Q_isIndex hw) rfl rfl ?_
  intro x2 h1 hw
  refine xw_if_eq (tgt := 16) d_Vo_configurationAt_4 (by decide) (fun c7 => ?_) (fun c7 => ?_)
  · have hw := hw.1 c7
    refine xw_iconst (v := 0) d_Vo_configurationAt_16 (by decide) ?_
    exact xw_ireturn rfl d_Vo_configurationAt_17 hw
  · have hw := hw.2 c7
    refine xw_aload_n d_Vo_configurationAt_7 rfl rfl ?_
    obtain ⟨f3, a4, hA, hB, hw⟩ := hw
    refine xw_getr fr_Vo_18 d_Vo_configurationAt_8 hA hB ?_
    refine xw_iload_n d_Vo_configurationAt_11 rfl rfl ?_
    obtain ⟨ar6, x5, hA, hB, hC, hw⟩ := hw
    refine xw_iaload (t := 0) rfl d_Vo_configurationAt_12 hA hB hC ?_
    refine xw_goto (tgt := 17) d_Vo_configurationAt_13 (by decide) ?_
    exact xw_ireturn rfl d_Vo_configurationAt_17 hw
set_option maxRecDepth 100000 in
def w_Vo_isAs (Q : Option Value → xH → Prop) (this : Nat) (p1 : Int32) (p2 : Int32) (p3 : Int32) (p4 : Int32) (h : xH) : Prop := w_Q_isIndex (fun v h1 => ∃ (x2 : Int32), v = some (.int x2) ∧ ((x2 = 0 → (narrow .boolean (.int 0) = .int 0 ∧ Q (some (.int 0)) h1)) ∧ (¬ x2 = 0 → ∃ (f3 : List Value) (a4 : Nat), h1.2 this = some (.inr (7, f3)) ∧ f3[0]? = some (.ref a4) ∧ ∃ (ar17 : List Int32) (x5 : Int32), h1.2 a4 = some (.inl (0, .inl ar17)) ∧ 0 ≤ p1 ∧ ar17[p1.toNatClampNeg]? = some x5 ∧ ((¬ x5 = p2 → (narrow .boolean (.int 0) = .int 0 ∧ Q (some (.int 0)) h1)) ∧ (x5 = p2 → ∃ (f6 : List Value) (a7 : Nat), h1.2 this = some (.inr (7, f6)) ∧ f6[1]? = some (.ref a7) ∧ ∃ (ar15 : List Int32) (x8 : Int32), h1.2 a7 = some (.inl (0, .inl ar15)) ∧ 0 ≤ p1 ∧ ar15[p1.toNatClampNeg]? = some x8 ∧ ((¬ x8 = p3 → (narrow .boolean (.int 0) = .int 0 ∧ Q (some (.int 0)) h1)) ∧ (x8 = p3 → ∃ (f9 : List Value) (a10 : Nat), h1.2 this = some (.inr (7, f9)) ∧ f9[2]? = some (.ref a10) ∧ ∃ (ar13 : List Int32) (x11 : Int32), h1.2 a10 = some (.inl (0, .inl ar13)) ∧ 0 ≤ p1 ∧ ar13[p1.toNatClampNeg]? = some x11 ∧ ((¬ x11 = p4 → (narrow .boolean (.int 0) = .int 0 ∧ Q (some (.int 0)) h1)) ∧ (x11 = p4 → (narrow .boolean (.int 1) = .int 1 ∧ Q (some (.int 1)) h1)))))))))) p1 h
set_option maxRecDepth 100000 in
set_option maxHeartbeats 4000000 in
theorem x_Vo_isAs {sc : List Int32} {Q : Option Value → xH → Prop} {this : Nat} {p1 : Int32} {p2 : Int32} {p3 : Int32} {p4 : Int32} {h : xH} (hw : w_Vo_isAs Q this p1 p2 p3 p4 h) : xMet sc m_Vo_isAs 1 0 0 [.ref (this), .int (p1), .int (p2), .int (p3), .int (p4)] h Q := by
  unfold w_Vo_isAs at hw
  refine xMet.of2 cw_Vo_isAs rfl rfl ?_
  show xW sc m_Vo_isAs 1 0 0 0 [some (.ref (this)), some (.int (p1)), some (.int (p2)), some (.int (p3)), some (.int (p4))] [] h Q
  refine xw_iload_n d_Vo_isAs_0 rfl rfl ?_
  refine xc_SN1i ln_Vo_21 st_Q_isIndex d_Vo_isAs_1 (x_Q_isIndex hw) rfl rfl ?_
  intro x2 h1 hw
  refine xw_if_eq (tgt := 42) d_Vo_isAs_4 (by decide) (fun c18 => ?_) (fun c18 => ?_)
  · have hw := hw.1 c18
    refine xw_iconst (v := 0) d_Vo_isAs_42 (by decide) ?_
    exact xw_zreturn rfl hw.1 d_Vo_isAs_43 hw.2
  · have hw := hw.2 c18
    refine xw_aload_n d_Vo_isAs_7 rfl rfl ?_
    obtain ⟨f3, a4, hA, hB, hw⟩ := hw
    refine xw_getr fr_Vo_9 d_Vo_isAs_8 hA hB ?_
    refine xw_iload_n d_Vo_isAs_11 rfl rfl ?_
    obtain ⟨ar17, x5, hA, hB, hC, hw⟩ := hw
    refine xw_iaload (t := 0) rfl d_Vo_isAs_12 hA hB hC ?_
    refine xw_iload_n d_Vo_isAs_13 rfl rfl ?_
    refine xw_icmp_ne (tgt := 42) d_Vo_isAs_14 (by decide) (fun c16 => ?_) (fun c16 => ?_)
    · have hw := hw.1 c16
      refine xw_iconst (v := 0) d_Vo_isAs_42 (by decide) ?_
      exact xw_zreturn rfl hw.1 d_Vo_isAs_43 hw.2
    · have hw := hw.2 c16
      refine xw_aload_n d_Vo_isAs_17 rfl rfl ?_
      obtain ⟨f6, a7, hA, hB, hw⟩ := hw
      refine xw_getr fr_Vo_15 d_Vo_isAs_18 hA hB ?_
      refine xw_iload_n d_Vo_isAs_21 rfl rfl ?_
      obtain ⟨ar15, x8, hA, hB, hC, hw⟩ := hw
      refine xw_iaload (t := 0) rfl d_Vo_isAs_22 hA hB hC ?_
      refine xw_iload_n d_Vo_isAs_23 rfl rfl ?_
      refine xw_icmp_ne (tgt := 42) d_Vo_isAs_24 (by decide) (fun c14 => ?_) (fun c14 => ?_)
      · have hw := hw.1 c14
        refine xw_iconst (v := 0) d_Vo_isAs_42 (by decide) ?_
        exact xw_zreturn rfl hw.1 d_Vo_isAs_43 hw.2
      · have hw := hw.2 c14
        refine xw_aload_n d_Vo_isAs_27 rfl rfl ?_
        obtain ⟨f9, a10, hA, hB, hw⟩ := hw
        refine xw_getr fr_Vo_18 d_Vo_isAs_28 hA hB ?_
        refine xw_iload_n d_Vo_isAs_31 rfl rfl ?_
        obtain ⟨ar13, x11, hA, hB, hC, hw⟩ := hw
        refine xw_iaload (t := 0) rfl d_Vo_isAs_32 hA hB hC ?_
        refine xw_iload d_Vo_isAs_33 rfl ?_
        refine xw_icmp_ne (tgt := 42) d_Vo_isAs_35 (by decide) (fun c12 => ?_) (fun c12 => ?_)
        · have hw := hw.1 c12
          refine xw_iconst (v := 0) d_Vo_isAs_42 (by decide) ?_
          exact xw_zreturn rfl hw.1 d_Vo_isAs_43 hw.2
        · have hw := hw.2 c12
          refine xw_iconst (v := 1) d_Vo_isAs_38 (by decide) ?_
          refine xw_goto (tgt := 43) d_Vo_isAs_39 (by decide) ?_
          exact xw_zreturn rfl hw.1 d_Vo_isAs_43 hw.2
set_option maxRecDepth 100000 in
def w_Vo_put (Q : Option Value → xH → Prop) (this : Nat) (p1 : Int32) (p2 : Int32) (p3 : Int32) (p4 : Int32) (h : xH) : Prop := w_Q_isIndex (fun v h1 => ∃ (x2 : Int32), v = some (.int x2) ∧ ((x2 = 0 → Q none h1) ∧ (¬ x2 = 0 → ∃ (f3 : List Value) (a4 : Nat), h1.2 this = some (.inr (7, f3)) ∧ f3[0]? = some (.ref a4) ∧ ∃ ar5, h1.2 a4 = some (.inl (0, .inl ar5)) ∧ 0 ≤ p1 ∧ p1.toNatClampNeg < ar5.length ∧ ∀ h6, h6 = xu h1 a4 (.inl (0, .inl (ar5.set p1.toNatClampNeg p2))) → ∃ (f7 : List Value) (a8 : Nat), h6.2 this = some (.inr (7, f7)) ∧ f7[1]? = some (.ref a8) ∧ ∃ ar9, h6.2 a8 = some (.inl (0, .inl ar9)) ∧ 0 ≤ p1 ∧ p1.toNatClampNeg < ar9.length ∧ ∀ h10, h10 = xu h6 a8 (.inl (0, .inl (ar9.set p1.toNatClampNeg p3))) → ∃ (f11 : List Value) (a12 : Nat), h10.2 this = some (.inr (7, f11)) ∧ f11[2]? = some (.ref a12) ∧ ∃ ar13, h10.2 a12 = some (.inl (0, .inl ar13)) ∧ 0 ≤ p1 ∧ p1.toNatClampNeg < ar13.length ∧ ∀ h14, h14 = xu h10 a12 (.inl (0, .inl (ar13.set p1.toNatClampNeg p4))) → Q none h14))) p1 h
set_option maxRecDepth 100000 in
set_option maxHeartbeats 4000000 in
theorem x_Vo_put {sc : List Int32} {Q : Option Value → xH → Prop} {this : Nat} {p1 : Int32} {p2 : Int32} {p3 : Int32} {p4 : Int32} {h : xH} (hw : w_Vo_put Q this p1 p2 p3 p4 h) : xMet sc m_Vo_put 1 0 0 [.ref (this), .int (p1), .int (p2), .int (p3), .int (p4)] h Q := by
  unfold w_Vo_put at hw
  refine xMet.of2 cw_Vo_put rfl rfl ?_
  show xW sc m_Vo_put 1 0 0 0 [some (.ref (this)), some (.int (p1)), some (.int (p2)), some (.int (p3)), some (.int (p4))] [] h Q
  refine xw_iload_n d_Vo_put_0 rfl rfl ?_
  refine xc_SN1i ln_Vo_21 st_Q_isIndex d_Vo_put_1 (x_Q_isIndex hw) rfl rfl ?_
  intro x2 h1 hw
  refine xw_if_eq (tgt := 29) d_Vo_put_4 (by decide) (fun c15 => ?_) (fun c15 => ?_)
  · have hw := hw.1 c15
    exact xw_return rfl d_Vo_put_29 hw
  · have hw := hw.2 c15
    refine xw_aload_n d_Vo_put_7 rfl rfl ?_
    obtain ⟨f3, a4, hA, hB, hw⟩ := hw
    refine xw_getr fr_Vo_9 d_Vo_put_8 hA hB ?_
    refine xw_iload_n d_Vo_put_11 rfl rfl ?_
    refine xw_iload_n d_Vo_put_12 rfl rfl ?_
    obtain ⟨ar5, hA, hB, hC, hw⟩ := hw
    refine xw_iastore (t := 0) rfl d_Vo_put_13 hA hB hC ?_
    generalize hh : xu h1 a4 (.inl (0, .inl (ar5.set p1.toNatClampNeg p2))) = h6
    have hw := hw h6 hh.symm
    refine xw_aload_n d_Vo_put_14 rfl rfl ?_
    obtain ⟨f7, a8, hA, hB, hw⟩ := hw
    refine xw_getr fr_Vo_15 d_Vo_put_15 hA hB ?_
    refine xw_iload_n d_Vo_put_18 rfl rfl ?_
    refine xw_iload_n d_Vo_put_19 rfl rfl ?_
    obtain ⟨ar9, hA, hB, hC, hw⟩ := hw
    refine xw_iastore (t := 0) rfl d_Vo_put_20 hA hB hC ?_
    generalize hh : xu h6 a8 (.inl (0, .inl (ar9.set p1.toNatClampNeg p3))) = h10
    have hw := hw h10 hh.symm
    refine xw_aload_n d_Vo_put_21 rfl rfl ?_
    obtain ⟨f11, a12, hA, hB, hw⟩ := hw
    refine xw_getr fr_Vo_18 d_Vo_put_22 hA hB ?_
    refine xw_iload_n d_Vo_put_25 rfl rfl ?_
    refine xw_iload d_Vo_put_26 rfl ?_
    obtain ⟨ar13, hA, hB, hC, hw⟩ := hw
    refine xw_iastore (t := 0) rfl d_Vo_put_28 hA hB hC ?_
    generalize hh : xu h10 a12 (.inl (0, .inl (ar13.set p1.toNatClampNeg p4))) = h14
    have hw := hw h14 hh.symm
    exact xw_return rfl d_Vo_put_29 hw
