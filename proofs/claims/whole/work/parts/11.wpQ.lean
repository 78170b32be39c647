set_option maxRecDepth 100000 in
def w_Q_init_161 (Q : Option Value → xH → Prop) (L103 : Nat → Int32 → Int32 → Int32 → Int32 → Int32 → Int32 → Int32 → Int32 → xH → Nat → Nat → Prop) (l0 : Nat) (l1 : Int32) (l2 : Int32) (l3 : Int32) (l4 : Int32) (l5 : Int32) (l6 : Int32) (l7 : Int32) (l8 : Int32) (h : xH) (kc : Nat) (ks : Nat) : Prop := L103 (l0) (l1) (l2) (l3) (l4) (l5) (l6) (l7) (l8 + 1) h kc ks
set_option maxRecDepth 100000 in
set_option maxHeartbeats 4000000 in
theorem p_Q_init_161 {sc : List Int32} {Q : Option Value → xH → Prop} {L103 : Nat → Int32 → Int32 → Int32 → Int32 → Int32 → Int32 → Int32 → Int32 → xH → Nat → Nat → Prop} (hL103 : ∀ l0 l1 l2 l3 l4 l5 l6 l7 l8 h kc ks, L103 l0 l1 l2 l3 l4 l5 l6 l7 l8 h kc ks → xW sc m_Q_init 4 kc ks 103 [some (.ref (l0)), some (.int (l1)), some (.int (l2)), some (.int (l3)), some (.int (l4)), some (.int (l5)), some (.int (l6)), some (.int (l7)), some (.int (l8))] [] h Q) (l0 : Nat) (l1 : Int32) (l2 : Int32) (l3 : Int32) (l4 : Int32) (l5 : Int32) (l6 : Int32) (l7 : Int32) (l8 : Int32) (h : xH) (kc : Nat) (ks : Nat) (hw : w_Q_init_161 Q L103 l0 l1 l2 l3 l4 l5 l6 l7 l8 h kc ks) : xW sc m_Q_init 4 kc ks 161 [some (.ref (l0)), some (.int (l1)), some (.int (l2)), some (.int (l3)), some (.int (l4)), some (.int (l5)), some (.int (l6)), some (.int (l7)), some (.int (l8))] [] h Q := by
  unfold w_Q_init_161 at hw
  refine xs_iinc (v := l8 + 1) (lv' := [some (.ref (l0)), some (.int (l1)), some (.int (l2)), some (.int (l3)), some (.int (l4)), some (.int (l5)), some (.int (l6)), some (.int (l7)), some (.int (l8 + 1))]) d_Q_init_161 rfl rfl rfl ?_
  refine xw_goto (tgt := 103) d_Q_init_164 (by decide) ?_
  exact hL103 (l0) (l1) (l2) (l3) (l4) (l5) (l6) (l7) (l8 + 1) h kc ks hw
set_option maxRecDepth 100000 in
def w_Q_init_103 (Q : Option Value → xH → Prop) : Nat → Nat → Int32 → Int32 → Int32 → Int32 → Int32 → Int32 → Int32 → Int32 → xH → Nat → Nat → Prop
  | 0, _, _, _, _, _, _, _, _, _, _, _, _ => False
  | n + 1, l0, l1, l2, l3, l4, l5, l6, l7, l8, h, kc, ks => ((8 ≤ l8 → Q none h) ∧ (¬ 8 ≤ l8 → ∃ (f1 : List Value) (a2 : Nat), h.2 l0 = some (.inr (0, f1)) ∧ f1[0]? = some (.ref a2) ∧ ∃ k5 k6, kc = k5 + 1 ∧ ks = k6 + 11 ∧ ∀ b4 h3, b4 = h.1 + 1 → h3 = xn h (.inr (4, [.int 0, .int 0, .int 0, .int 0, .int 0, .int 0, .int 0, .null, .null, .null, .null])) → ∃ k8 k9 k10 k11, k5 = k8 + k9 ∧ k6 = k10 + k11 ∧ w_No_init (fun v h7 => v = none ∧ ∃ (t14 : Nat) (q15 : vw_C) (ar12 : List (Option Nat)) (c16 : Nat) (v17 : List Value), xTys[t14]? = some (.object q15.1) ∧ vwCl[c16]? = some q15 ∧ h7.2 a2 = some (.inl (t14, .inr ar12)) ∧ h7.2 b4 = some (.inr (c16, v17)) ∧ 0 ≤ l8 ∧ l8.toNatClampNeg < ar12.length ∧ ∀ h13, h13 = xu h7 a2 (.inl (t14, .inr (ar12.set l8.toNatClampNeg (some b4)))) → ((l4 ≤ l8 → w_Q_init_161 Q (fun y0 y1 y2 y3 y4 y5 y6 y7 y8 yh yc ys => w_Q_init_103 Q n y0 y1 y2 y3 y4 y5 y6 y7 y8 yh yc ys) (l0) (l1) (l2) (l3) (l4) (l5) (l6) (l7) (l8) h13 k9 k11) ∧ (¬ l4 ≤ l8 → ∃ (f18 : List Value) (a19 : Nat), h13.2 l0 = some (.inr (0, f18)) ∧ f18[0]? = some (.ref a19) ∧ ∃ t22 y23 ar20 a21, xTys[t22]? = some y23 ∧ y23.isReference = true ∧ h13.2 a19 = some (.inl (t22, .inr ar20)) ∧ 0 ≤ l8 ∧ ar20[l8.toNatClampNeg]? = some (some a21) ∧ ∃ f24, h13.2 a21 = some (.inr (4, f24)) ∧ 1 < f24.length ∧ ∀ h25, h25 = xu h13 a21 (.inr (4, f24.set 1 (.int (1)))) → ∃ (f26 : List Value) (a27 : Nat), h25.2 l0 = some (.inr (0, f26)) ∧ f26[0]? = some (.ref a27) ∧ ∃ t30 y31 ar28 a29, xTys[t30]? = some y31 ∧ y31.isReference = true ∧ h25.2 a27 = some (.inl (t30, .inr ar28)) ∧ 0 ≤ l8 ∧ ar28[l8.toNatClampNeg]? = some (some a29) ∧ ∃ (f32 : List Value) (a33 : Nat), h25.2 a29 = some (.inr (4, f32)) ∧ f32[8]? = some (.ref a33) ∧ (∃ f35, h25.2 a33 = some (.inr (5, f35))) ∧ w_Se_put (fun v h34 => v = none ∧ w_Q_init_161 Q (fun y0 y1 y2 y3 y4 y5 y6 y7 y8 yh yc ys => w_Q_init_103 Q n y0 y1 y2 y3 y4 y5 y6 y7 y8 yh yc ys) (l0) (l1) (l2) (l3) (l4) (l5) (l6) (l7) (l8) h34 k9 k11) a33 0 1 l7 h25))) b4 l8 h3 k8 k10))
set_option maxRecDepth 100000 in
set_option maxHeartbeats 4000000 in
theorem p_Q_init_103 {sc : List Int32} {Q : Option Value → xH → Prop} : ∀ (n : Nat) (l0 : Nat) (l1 : Int32) (l2 : Int32) (l3 : Int32) (l4 : Int32) (l5 : Int32) (l6 : Int32) (l7 : Int32) (l8 : Int32) (h : xH) (kc : Nat) (ks : Nat), w_Q_init_103 Q n l0 l1 l2 l3 l4 l5 l6 l7 l8 h kc ks → xW sc m_Q_init 4 kc ks 103 [some (.ref (l0)), some (.int (l1)), some (.int (l2)), some (.int (l3)), some (.int (l4)), some (.int (l5)), some (.int (l6)), some (.int (l7)), some (.int (l8))] [] h Q := by
  intro n
  induction n with
  | zero => intro l0 l1 l2 l3 l4 l5 l6 l7 l8 h kc ks hw; exact False.elim hw
  | succ n ih =>
    intro l0 l1 l2 l3 l4 l5 l6 l7 l8 h kc ks hw
    rw [w_Q_init_103] at hw
    refine xw_iload d_Q_init_103 rfl ?_
    refine xw_bipush (v := 8) d_Q_init_105 (by decide) ?_
    refine xw_icmp_ge (tgt := 167) d_Q_init_107 (by decide) (fun c37 => ?_) (fun c37 => ?_)
    · have hw := hw.1 c37
      exact xw_return rfl d_Q_init_167 hw
    · have hw := hw.2 c37
      refine xw_aload_n d_Q_init_110 rfl rfl ?_
      obtain ⟨f1, a2, hA, hB, hw⟩ := hw
      refine xw_getr fr_Q_11 d_Q_init_111 hA hB ?_
      refine xw_iload d_Q_init_114 rfl ?_
      obtain ⟨k5, k6, hA, hB, hw⟩ := hw
      rw [hA, hB]
      refine xw_new ns_Q_9 d_Q_init_116 ?_
      generalize hb : h.1 + 1 = b4
      generalize hh : xn h (.inr (4, [.int 0, .int 0, .int 0, .int 0, .int 0, .int 0, .int 0, .null, .null, .null, .null])) = h3
      have hw := hw b4 h3 hb.symm hh.symm
      refine xw_dup d_Q_init_119 rfl ?_
      refine xw_iload d_Q_init_120 rfl ?_
      obtain ⟨k8, k9, k10, k11, hA, hB, hw⟩ := hw
      refine xc_I1 lk_Q_49 rfl rfl im_No_init d_Q_init_122 hA hB (x_No_init hw) rfl rfl ?_
      intro h7 hw
      obtain ⟨t14, q15, ar12, c16, v17, hT, hV, hA, hE, hB, hC, hw⟩ := hw
      refine xw_aastore hT hV d_Q_init_125 hA hE hB hC ?_
      generalize hh : xu h7 a2 (.inl (t14, .inr (ar12.set l8.toNatClampNeg (some b4)))) = h13
      have hw := hw h13 hh.symm
      refine xw_iload d_Q_init_126 rfl ?_
      refine xw_iload d_Q_init_128 rfl ?_
      refine xw_icmp_ge (tgt := 161) d_Q_init_130 (by decide) (fun c36 => ?_) (fun c36 => ?_)
      · have hw := hw.1 c36
        exact p_Q_init_161 ih (l0) (l1) (l2) (l3) (l4) (l5) (l6) (l7) (l8) h13 k9 k11 hw
      · have hw := hw.2 c36
        refine xw_aload_n d_Q_init_133 rfl rfl ?_
        obtain ⟨f18, a19, hA, hB, hw⟩ := hw
        refine xw_getr fr_Q_11 d_Q_init_134 hA hB ?_
        refine xw_iload d_Q_init_137 rfl ?_
        obtain ⟨t22, y23, ar20, a21, hT, hY, hA, hB, hC, hw⟩ := hw
        refine xw_aaload hT hY d_Q_init_139 hA hB hC ?_
        show xW sc m_Q_init 4 k9 k11 140 [some (.ref (l0)), some (.int (l1)), some (.int (l2)), some (.int (l3)), some (.int (l4)), some (.int (l5)), some (.int (l6)), some (.int (l7)), some (.int (l8))] [.ref (a21)] h13 Q
        refine xw_iconst (v := 1) d_Q_init_140 (by decide) ?_
        obtain ⟨f24, hA, hB, hw⟩ := hw
        refine xw_puti fs_Q_52 d_Q_init_141 hA hB ?_
        generalize hh : xu h13 a21 (.inr (4, f24.set 1 (.int (1)))) = h25
        have hw := hw h25 hh.symm
        refine xw_aload_n d_Q_init_144 rfl rfl ?_
        obtain ⟨f26, a27, hA, hB, hw⟩ := hw
        refine xw_getr fr_Q_11 d_Q_init_145 hA hB ?_
        refine xw_iload d_Q_init_148 rfl ?_
        obtain ⟨t30, y31, ar28, a29, hT, hY, hA, hB, hC, hw⟩ := hw
        refine xw_aaload hT hY d_Q_init_150 hA hB hC ?_
        show xW sc m_Q_init 4 k9 k11 151 [some (.ref (l0)), some (.int (l1)), some (.int (l2)), some (.int (l3)), some (.int (l4)), some (.int (l5)), some (.int (l6)), some (.int (l7)), some (.int (l8))] [.ref (a29)] h25 Q
        obtain ⟨f32, a33, hA, hB, hw⟩ := hw
        refine xw_getr fr_Q_55 d_Q_init_151 hA hB ?_
        refine xw_iconst (v := 0) d_Q_init_154 (by decide) ?_
        refine xw_iconst (v := 1) d_Q_init_155 (by decide) ?_
        refine xw_iload d_Q_init_156 rfl ?_
        obtain ⟨⟨f35, hA⟩, hw⟩ := hw
        refine xc_V3n lk_Q_59 in_Se_put d_Q_init_158 (x_Se_put hw) rfl hA rfl ?_
        intro h34 hw
        exact p_Q_init_161 ih (l0) (l1) (l2) (l3) (l4) (l5) (l6) (l7) (l8) h34 k9 k11 hw
set_option maxRecDepth 100000 in
def w_Q_init_100 (Q : Option Value → xH → Prop) (l0 : Nat) (l1 : Int32) (l2 : Int32) (l3 : Int32) (l4 : Int32) (l5 : Int32) (l6 : Int32) (l7 : Int32) (h : xH) (kc : Nat) (ks : Nat) : Prop := ∃ n1, w_Q_init_103 Q n1 (l0) (l1) (l2) (l3) (l4) (l5) (l6) (l7) (0) h kc ks
set_option maxRecDepth 100000 in
set_option maxHeartbeats 4000000 in
theorem p_Q_init_100 {sc : List Int32} {Q : Option Value → xH → Prop} (l0 : Nat) (l1 : Int32) (l2 : Int32) (l3 : Int32) (l4 : Int32) (l5 : Int32) (l6 : Int32) (l7 : Int32) (h : xH) (kc : Nat) (ks : Nat) (hw : w_Q_init_100 Q l0 l1 l2 l3 l4 l5 l6 l7 h kc ks) : xW sc m_Q_init 4 kc ks 100 [some (.ref (l0)), some (.int (l1)), some (.int (l2)), some (.int (l3)), some (.int (l4)), some (.int (l5)), some (.int (l6)), some (.int (l7)), none] [] h Q := by
  unfold w_Q_init_100 at hw
  refine xw_iconst (v := 0) d_Q_init_100 (by decide) ?_
  refine xs_istore (lv' := [some (.ref (l0)), some (.int (l1)), some (.int (l2)), some (.int (l3)), some (.int (l4)), some (.int (l5)), some (.int (l6)), some (.int (l7)), some (.int (0))]) d_Q_init_101 rfl rfl ?_
  obtain ⟨n1, hw⟩ := hw
  exact p_Q_init_103  n1 (l0) (l1) (l2) (l3) (l4) (l5) (l6) (l7) (0) h kc ks hw
set_option maxRecDepth 100000 in
def w_Q_init (Q : Option Value → xH → Prop) (this : Nat) (p1 : Int32) (p2 : Int32) (p3 : Int32) (h : xH) (kc : Nat) (ks : Nat) : Prop := ∃ k3 k4, kc = k3 + 1 ∧ ks = k4 + 8 ∧ ∀ b2 h1, b2 = h.1 + 1 → h1 = xn h (.inl (1, .inr (List.replicate 8 none))) → ∃ f5, h1.2 this = some (.inr (0, f5)) ∧ 0 < f5.length ∧ ∀ h6, h6 = xu h1 this (.inr (0, f5.set 0 (.ref (b2)))) → ∃ k9 k10, k3 = k9 + 1 ∧ k4 = k10 + 4 ∧ ∀ b8 h7, b8 = h6.1 + 1 → h7 = xn h6 (.inr (2, [.null, .null, .int 0, .int 0])) → ∃ k12 k13 k14 k15, k9 = k12 + k13 ∧ k10 = k14 + k15 ∧ w_Ma_init (fun v h11 => v = none ∧ ∃ f16, h11.2 this = some (.inr (0, f16)) ∧ 1 < f16.length ∧ ∀ h17, h17 = xu h11 this (.inr (0, f16.set 1 (.ref (b8)))) → ∃ k20 k21, k13 = k20 + 1 ∧ k15 = k21 + 10 ∧ ∀ b19 h18, b19 = h17.1 + 1 → h18 = xn h17 (.inr (3, [.int 0, .int 0, .int 0, .int 0, .int 0, .int 0, .int 0, .int 0, .null, .null])) → ∃ k23 k24 k25 k26, k20 = k23 + k24 ∧ k21 = k25 + k26 ∧ w_Me_init (fun v h22 => v = none ∧ ∃ f27, h22.2 this = some (.inr (0, f27)) ∧ 2 < f27.length ∧ ∀ h28, h28 = xu h22 this (.inr (0, f27.set 2 (.ref (b19)))) → ∃ k31 k32, k24 = k31 + 1 ∧ k26 = k32 + 10 ∧ ∀ b30 h29, b30 = h28.1 + 1 → h29 = xn h28 (.inr (3, [.int 0, .int 0, .int 0, .int 0, .int 0, .int 0, .int 0, .int 0, .null, .null])) → ∃ k34 k35 k36 k37, k31 = k34 + k35 ∧ k32 = k36 + k37 ∧ w_Me_init (fun v h33 => v = none ∧ ∃ f38, h33.2 this = some (.inr (0, f38)) ∧ 3 < f38.length ∧ ∀ h39, h39 = xu h33 this (.inr (0, f38.set 3 (.ref (b30)))) → ∃ f40, h39.2 this = some (.inr (0, f40)) ∧ 4 < f40.length ∧ ∀ h41, h41 = xu h39 this (.inr (0, f40.set 4 (.int (0)))) → w_Q_nearest (fun v h42 => ∃ (x43 : Int32), v = some (.int x43) ∧ w_Q_nearest (fun v h44 => ∃ (x45 : Int32), v = some (.int x45) ∧ w_Q_nearest (fun v h46 => ∃ (x47 : Int32), v = some (.int x47) ∧ w_Q_configuration (fun v h48 => ∃ (x49 : Int32), v = some (.int x49) ∧ w_Q_init_100 Q (this) (p1) (p2) (p3) (x43) (x45) (if x47 < ((x43 + 1) - x45) then ((x43 + 1) - x45) else x47) (x49) h48 k35 k37) (((1 : Int32) <<< (x43 &&& 31)) - 1) x45 (if x47 < ((x43 + 1) - x45) then ((x43 + 1) - x45) else x47) h46) p3 x43 h44) p2 x43 h42) p1 8 h41) b30 h29 k34 k36) b19 h18 k23 k25) b8 h7 k12 k14
set_option maxRecDepth 100000 in
set_option maxHeartbeats 4000000 in
theorem x_Q_init {sc : List Int32} {Q : Option Value → xH → Prop} {this : Nat} {p1 : Int32} {p2 : Int32} {p3 : Int32} {h : xH} {kc : Nat} {ks : Nat} (hw : w_Q_init Q this p1 p2 p3 h kc ks) : xMet sc m_Q_init 4 kc ks [.ref (this), .int (p1), .int (p2), .int (p3)] h Q := by
  unfold w_Q_init at hw
  refine xMet.of2 cw_Q_init rfl rfl ?_
  show xW sc m_Q_init 4 kc ks 0 [some (.ref (this)), some (.int (p1)), some (.int (p2)), some (.int (p3)), none, none, none, none, none] [] h Q
  refine xw_aload_n d_Q_init_0 rfl rfl ?_
  refine xw_obj oi_Q_3 d_Q_init_1 (Nat.le_of_ble_eq_true rfl) (Nat.le_of_ble_eq_true rfl) ?_
  refine xw_aload_n d_Q_init_4 rfl rfl ?_
  refine xw_bipush (v := 8) d_Q_init_5 (by decide) ?_
  obtain ⟨k3, k4, hA, hB, hw⟩ := hw
  rw [hA, hB]
  refine xw_anewarray (t := 1) (N := 8) rfl cl_Q_9 ao_No d_Q_init_7 (by decide) (by decide) (by decide) ?_
  generalize hb : h.1 + 1 = b2
  generalize hh : xn h (.inl (1, .inr (List.replicate 8 none))) = h1
  have hw := hw b2 h1 hb.symm hh.symm
  obtain ⟨f5, hA, hB, hw⟩ := hw
  refine xw_putrF fs_Q_11 rfl (Or.inr ⟨_, rfl⟩) d_Q_init_10 hA hB ?_
  generalize hh : xu h1 this (.inr (0, f5.set 0 (.ref (b2)))) = h6
  have hw := hw h6 hh.symm
  refine xw_aload_n d_Q_init_13 rfl rfl ?_
  obtain ⟨k9, k10, hA, hB, hw⟩ := hw
  rw [hA, hB]
  refine xw_new ns_Q_15 d_Q_init_14 ?_
  generalize hb : h6.1 + 1 = b8
  generalize hh : xn h6 (.inr (2, [.null, .null, .int 0, .int 0])) = h7
  have hw := hw b8 h7 hb.symm hh.symm
  refine xw_dup d_Q_init_17 rfl ?_
  obtain ⟨k12, k13, k14, k15, hA, hB, hw⟩ := hw
  refine xc_I0 lk_Q_17 rfl rfl im_Ma_init d_Q_init_18 hA hB (x_Ma_init hw) rfl rfl ?_
  intro h11 hw
  obtain ⟨f16, hA, hB, hw⟩ := hw
  refine xw_putrF fs_Q_18 rfl (Or.inl ⟨_, rfl⟩) d_Q_init_21 hA hB ?_
  generalize hh : xu h11 this (.inr (0, f16.set 1 (.ref (b8)))) = h17
  have hw := hw h17 hh.symm
  refine xw_aload_n d_Q_init_24 rfl rfl ?_
  obtain ⟨k20, k21, hA, hB, hw⟩ := hw
  rw [hA, hB]
  refine xw_new ns_Q_22 d_Q_init_25 ?_
  generalize hb : h17.1 + 1 = b19
  generalize hh : xn h17 (.inr (3, [.int 0, .int 0, .int 0, .int 0, .int 0, .int 0, .int 0, .int 0, .null, .null])) = h18
  have hw := hw b19 h18 hb.symm hh.symm
  refine xw_dup d_Q_init_28 rfl ?_
  obtain ⟨k23, k24, k25, k26, hA, hB, hw⟩ := hw
  refine xc_IN0 ln_Q_24 rfl rfl im_Me_init d_Q_init_29 hA hB (x_Me_init hw) rfl rfl ?_
  intro h22 hw
  obtain ⟨f27, hA, hB, hw⟩ := hw
  refine xw_putrF fs_Q_25 rfl (Or.inl ⟨_, rfl⟩) d_Q_init_32 hA hB ?_
  generalize hh : xu h22 this (.inr (0, f27.set 2 (.ref (b19)))) = h28
  have hw := hw h28 hh.symm
  refine xw_aload_n d_Q_init_35 rfl rfl ?_
  obtain ⟨k31, k32, hA, hB, hw⟩ := hw
  rw [hA, hB]
  refine xw_new ns_Q_22 d_Q_init_36 ?_
  generalize hb : h28.1 + 1 = b30
  generalize hh : xn h28 (.inr (3, [.int 0, .int 0, .int 0, .int 0, .int 0, .int 0, .int 0, .int 0, .null, .null])) = h29
  have hw := hw b30 h29 hb.symm hh.symm
  refine xw_dup d_Q_init_39 rfl ?_
  obtain ⟨k34, k35, k36, k37, hA, hB, hw⟩ := hw
  refine xc_IN0 ln_Q_24 rfl rfl im_Me_init d_Q_init_40 hA hB (x_Me_init hw) rfl rfl ?_
  intro h33 hw
  obtain ⟨f38, hA, hB, hw⟩ := hw
  refine xw_putrF fs_Q_29 rfl (Or.inl ⟨_, rfl⟩) d_Q_init_43 hA hB ?_
  generalize hh : xu h33 this (.inr (0, f38.set 3 (.ref (b30)))) = h39
  have hw := hw h39 hh.symm
  refine xw_aload_n d_Q_init_46 rfl rfl ?_
  refine xw_iconst (v := 0) d_Q_init_47 (by decide) ?_
  obtain ⟨f40, hA, hB, hw⟩ := hw
  refine xw_puti fs_Q_32 d_Q_init_48 hA hB ?_
  generalize hh : xu h39 this (.inr (0, f40.set 4 (.int (0)))) = h41
  have hw := hw h41 hh.symm
  refine xw_iload_n d_Q_init_51 rfl rfl ?_
  refine xw_bipush (v := 8) d_Q_init_52 (by decide) ?_
  refine xc_S2i lk_Q_36 st_Q_nearest d_Q_init_54 (x_Q_nearest hw) rfl rfl ?_
  intro x43 h42 hw
  refine xs_istore (lv' := [some (.ref (this)), some (.int (p1)), some (.int (p2)), some (.int (p3)), some (.int (x43)), none, none, none, none]) d_Q_init_57 rfl rfl ?_
  refine xw_iload_n d_Q_init_59 rfl rfl ?_
  refine xw_iload d_Q_init_60 rfl ?_
  refine xc_S2i lk_Q_36 st_Q_nearest d_Q_init_62 (x_Q_nearest hw) rfl rfl ?_
  intro x45 h44 hw
  refine xs_istore (lv' := [some (.ref (this)), some (.int (p1)), some (.int (p2)), some (.int (p3)), some (.int (x43)), some (.int (x45)), none, none, none]) d_Q_init_65 rfl rfl ?_
  refine xw_iload_n d_Q_init_67 rfl rfl ?_
  refine xw_iload d_Q_init_68 rfl ?_
  refine xc_S2i lk_Q_36 st_Q_nearest d_Q_init_70 (x_Q_nearest hw) rfl rfl ?_
  intro x47 h46 hw
  refine xw_iload d_Q_init_73 rfl ?_
  refine xw_iconst (v := 1) d_Q_init_75 (by decide) ?_
  refine xw_iadd d_Q_init_76 ?_
  refine xw_iload d_Q_init_77 rfl ?_
  refine xw_isub d_Q_init_79 ?_
  refine xw_max mx_Q_40 d_Q_init_80 (Nat.le_of_ble_eq_true rfl) (Nat.le_of_ble_eq_true rfl) ?_
  refine xs_istore (lv' := [some (.ref (this)), some (.int (p1)), some (.int (p2)), some (.int (p3)), some (.int (x43)), some (.int (x45)), some (.int (if x47 < ((x43 + 1) - x45) then ((x43 + 1) - x45) else x47)), none, none]) d_Q_init_83 rfl rfl ?_
  refine xw_iconst (v := 1) d_Q_init_85 (by decide) ?_
  refine xw_iload d_Q_init_86 rfl ?_
  refine xw_ishl d_Q_init_88 ?_
  refine xw_iconst (v := 1) d_Q_init_89 (by decide) ?_
  refine xw_isub d_Q_init_90 ?_
  refine xw_iload d_Q_init_91 rfl ?_
  refine xw_iload d_Q_init_93 rfl ?_
  refine xc_S3i lk_Q_45 st_Q_configuration d_Q_init_95 (x_Q_configuration hw) rfl rfl ?_
  intro x49 h48 hw
  refine xs_istore (lv' := [some (.ref (this)), some (.int (p1)), some (.int (p2)), some (.int (p3)), some (.int (x43)), some (.int (x45)), some (.int (if x47 < ((x43 + 1) - x45) then ((x43 + 1) - x45) else x47)), some (.int (x49)), none]) d_Q_init_98 rfl rfl ?_
  exact p_Q_init_100  (this) (p1) (p2) (p3) (x43) (x45) (if x47 < ((x43 + 1) - x45) then ((x43 + 1) - x45) else x47) (x49) h48 k35 k37 hw
set_option maxRecDepth 100000 in
def w_Q_draftRequest_101 (Q : Option Value → xH → Prop) (l0 : Nat) (l1 : Nat) (l2 : Nat) (s0 : Int32) (s1 : Nat) (h : xH) : Prop := ∃ f1, h.2 s1 = some (.inr (3, f1)) ∧ 7 < f1.length ∧ ∀ h2, h2 = xu h s1 (.inr (3, f1.set 7 (.int (s0)))) → ∃ (f3 : List Value) (a4 : Nat), h2.2 l0 = some (.inr (0, f3)) ∧ f3[2]? = some (.ref a4) ∧ ∃ (f5 : List Value) (a6 : Nat), h2.2 a4 = some (.inr (3, f5)) ∧ f5[9]? = some (.ref a6) ∧ ∃ (f7 : List Value) (a8 : Nat), h2.2 l2 = some (.inr (6, f7)) ∧ f7[13]? = some (.ref a8) ∧ (∃ f10, h2.2 a6 = some (.inr (1, f10))) ∧ w_Co_copyFrom (fun v h9 => v = none ∧ Q none h9) a6 a8 h2
set_option maxRecDepth 100000 in
set_option maxHeartbeats 4000000 in
theorem p_Q_draftRequest_101 {sc : List Int32} {Q : Option Value → xH → Prop} (l0 : Nat) (l1 : Nat) (l2 : Nat) (s0 : Int32) (s1 : Nat) (h : xH) (hw : w_Q_draftRequest_101 Q l0 l1 l2 s0 s1 h) : xW sc m_Q_draftRequest 3 0 0 101 [some (.ref (l0)), some (.ref (l1)), some (.ref (l2))] [.int (s0), .ref (s1)] h Q := by
  unfold w_Q_draftRequest_101 at hw
  obtain ⟨f1, hA, hB, hw⟩ := hw
  refine xw_puti fs_Q_280 d_Q_draftRequest_101 hA hB ?_
  generalize hh : xu h s1 (.inr (3, f1.set 7 (.int (s0)))) = h2
  have hw := hw h2 hh.symm
  refine xw_aload_n d_Q_draftRequest_104 rfl rfl ?_
  obtain ⟨f3, a4, hA, hB, hw⟩ := hw
  refine xw_getr fr_Q_25 d_Q_draftRequest_105 hA hB ?_
  obtain ⟨f5, a6, hA, hB, hw⟩ := hw
  refine xw_getr fr_Q_142 d_Q_draftRequest_108 hA hB ?_
  refine xw_aload_n d_Q_draftRequest_111 rfl rfl ?_
  obtain ⟨f7, a8, hA, hB, hw⟩ := hw
  refine xw_getr fr_Q_264 d_Q_draftRequest_112 hA hB ?_
  obtain ⟨⟨f10, hA⟩, hw⟩ := hw
  refine xc_V1n lk_Q_149 in_Co_copyFrom d_Q_draftRequest_115 (x_Co_copyFrom hw) rfl hA rfl ?_
  intro h9 hw
  exact xw_return rfl d_Q_draftRequest_118 hw
set_option maxRecDepth 100000 in
def w_Q_draftRequest_63 (Q : Option Value → xH → Prop) (l0 : Nat) (l1 : Nat) (l2 : Nat) (s0 : Int32) (s1 : Nat) (h : xH) : Prop := ∃ f1, h.2 s1 = some (.inr (3, f1)) ∧ 5 < f1.length ∧ ∀ h2, h2 = xu h s1 (.inr (3, f1.set 5 (.int (s0)))) → ∃ (f3 : List Value) (a4 : Nat), h2.2 l0 = some (.inr (0, f3)) ∧ f3[2]? = some (.ref a4) ∧ ∃ (f5 : List Value) (x6 : Int32), h2.2 l2 = some (.inr (6, f5)) ∧ f5[7]? = some (.int x6) ∧ ∃ f7, h2.2 a4 = some (.inr (3, f7)) ∧ 6 < f7.length ∧ ∀ h8, h8 = xu h2 a4 (.inr (3, f7.set 6 (.int (x6)))) → ∃ (f9 : List Value) (a10 : Nat), h8.2 l0 = some (.inr (0, f9)) ∧ f9[2]? = some (.ref a10) ∧ ∃ (f11 : List Value) (a12 : Nat), h8.2 l0 = some (.inr (0, f11)) ∧ f11[2]? = some (.ref a12) ∧ ∃ (f13 : List Value) (x14 : Int32), h8.2 a12 = some (.inr (3, f13)) ∧ f13[0]? = some (.int x14) ∧ ((¬ x14 = 7 → w_Q_draftRequest_101 Q (l0) (l1) (l2) (0) (a10) h8) ∧ (x14 = 7 → ∃ (f15 : List Value) (x16 : Int32), h8.2 l2 = some (.inr (6, f15)) ∧ f15[11]? = some (.int x16) ∧ w_Q_draftRequest_101 Q (l0) (l1) (l2) (x16) (a10) h8))
set_option maxRecDepth 100000 in
set_option maxHeartbeats 4000000 in
theorem p_Q_draftRequest_63 {sc : List Int32} {Q : Option Value → xH → Prop} (l0 : Nat) (l1 : Nat) (l2 : Nat) (s0 : Int32) (s1 : Nat) (h : xH) (hw : w_Q_draftRequest_63 Q l0 l1 l2 s0 s1 h) : xW sc m_Q_draftRequest 3 0 0 63 [some (.ref (l0)), some (.ref (l1)), some (.ref (l2))] [.int (s0), .ref (s1)] h Q := by
  unfold w_Q_draftRequest_63 at hw
  obtain ⟨f1, hA, hB, hw⟩ := hw
  refine xw_puti fs_Q_275 d_Q_draftRequest_63 hA hB ?_
  generalize hh : xu h s1 (.inr (3, f1.set 5 (.int (s0)))) = h2
  have hw := hw h2 hh.symm
  refine xw_aload_n d_Q_draftRequest_66 rfl rfl ?_
  obtain ⟨f3, a4, hA, hB, hw⟩ := hw
  refine xw_getr fr_Q_25 d_Q_draftRequest_67 hA hB ?_
  refine xw_aload_n d_Q_draftRequest_70 rfl rfl ?_
  obtain ⟨f5, x6, hA, hB, hw⟩ := hw
  refine xw_getr fr_Q_267 d_Q_draftRequest_71 hA hB ?_
  obtain ⟨f7, hA, hB, hw⟩ := hw
  refine xw_puti fs_Q_279 d_Q_draftRequest_74 hA hB ?_
  generalize hh : xu h2 a4 (.inr (3, f7.set 6 (.int (x6)))) = h8
  have hw := hw h8 hh.symm
  refine xw_aload_n d_Q_draftRequest_77 rfl rfl ?_
  obtain ⟨f9, a10, hA, hB, hw⟩ := hw
  refine xw_getr fr_Q_25 d_Q_draftRequest_78 hA hB ?_
  refine xw_aload_n d_Q_draftRequest_81 rfl rfl ?_
  obtain ⟨f11, a12, hA, hB, hw⟩ := hw
  refine xw_getr fr_Q_25 d_Q_draftRequest_82 hA hB ?_
  obtain ⟨f13, x14, hA, hB, hw⟩ := hw
  refine xw_getr fr_Q_175 d_Q_draftRequest_85 hA hB ?_
  refine xw_bipush (v := 7) d_Q_draftRequest_88 (by decide) ?_
  refine xw_icmp_ne (tgt := 100) d_Q_draftRequest_90 (by decide) (fun c17 => ?_) (fun c17 => ?_)
  · have hw := hw.1 c17
    refine xw_iconst (v := 0) d_Q_draftRequest_100 (by decide) ?_
    exact p_Q_draftRequest_101  (l0) (l1) (l2) (0) (a10) h8 hw
  · have hw := hw.2 c17
    refine xw_aload_n d_Q_draftRequest_93 rfl rfl ?_
    obtain ⟨f15, x16, hA, hB, hw⟩ := hw
    refine xw_getr fr_Q_310 d_Q_draftRequest_94 hA hB ?_
    refine xw_goto (tgt := 101) d_Q_draftRequest_97 (by decide) ?_
    exact p_Q_draftRequest_101  (l0) (l1) (l2) (x16) (a10) h8 hw
set_option maxRecDepth 100000 in
def w_Q_draftRequest (Q : Option Value → xH → Prop) (this : Nat) (p1 : Nat) (h : xH) : Prop := ∃ (f1 : List Value) (a2 : Nat), h.2 p1 = some (.inr (4, f1)) ∧ f1[10]? = some (.ref a2) ∧ ∃ (f3 : List Value) (a4 : Nat), h.2 this = some (.inr (0, f3)) ∧ f3[2]? = some (.ref a4) ∧ w_Q_requestOf (fun v h5 => ∃ (x6 : Int32), v = some (.int x6) ∧ ∃ (f7 : List Value) (x8 : Int32), h5.2 p1 = some (.inr (4, f7)) ∧ f7[0]? = some (.int x8) ∧ (∃ f10, h5.2 a4 = some (.inr (3, f10))) ∧ w_Me_open (fun v h9 => v = none ∧ ∃ (f11 : List Value) (a12 : Nat), h9.2 this = some (.inr (0, f11)) ∧ f11[2]? = some (.ref a12) ∧ ∃ (f13 : List Value) (x14 : Int32), h9.2 p1 = some (.inr (4, f13)) ∧ f13[2]? = some (.int x14) ∧ ∃ f15, h9.2 a12 = some (.inr (3, f15)) ∧ 3 < f15.length ∧ ∀ h16, h16 = xu h9 a12 (.inr (3, f15.set 3 (.int (x14)))) → ∃ (f17 : List Value) (a18 : Nat), h16.2 this = some (.inr (0, f17)) ∧ f17[2]? = some (.ref a18) ∧ ∃ (f19 : List Value) (x20 : Int32), h16.2 p1 = some (.inr (4, f19)) ∧ f19[4]? = some (.int x20) ∧ ∃ f21, h16.2 a18 = some (.inr (3, f21)) ∧ 4 < f21.length ∧ ∀ h22, h22 = xu h16 a18 (.inr (3, f21.set 4 (.int (x20)))) → ∃ (f23 : List Value) (a24 : Nat), h22.2 this = some (.inr (0, f23)) ∧ f23[2]? = some (.ref a24) ∧ ∃ (f25 : List Value) (x26 : Int32), h22.2 a2 = some (.inr (6, f25)) ∧ f25[1]? = some (.int x26) ∧ ((¬ x26 = 4 → ∃ (f27 : List Value) (x28 : Int32), h22.2 a2 = some (.inr (6, f27)) ∧ f27[3]? = some (.int x28) ∧ w_Q_draftRequest_63 Q (this) (p1) (a2) (x28) (a24) h22) ∧ (x26 = 4 → w_Q_draftRequest_63 Q (this) (p1) (a2) (0) (a24) h22))) a4 x6 p1 x8 h5) a2 h
set_option maxRecDepth 100000 in
set_option maxHeartbeats 4000000 in
theorem x_Q_draftRequest {sc : List Int32} {Q : Option Value → xH → Prop} {this : Nat} {p1 : Nat} {h : xH} (hw : w_Q_draftRequest Q this p1 h) : xMet sc m_Q_draftRequest 3 0 0 [.ref (this), .ref (p1)] h Q := by
  unfold w_Q_draftRequest at hw
  refine xMet.of2 cw_Q_draftRequest rfl rfl ?_
  show xW sc m_Q_draftRequest 3 0 0 0 [some (.ref (this)), some (.ref (p1)), none] [] h Q
  refine xw_aload_n d_Q_draftRequest_0 rfl rfl ?_
  obtain ⟨f1, a2, hA, hB, hw⟩ := hw
  refine xw_getr fr_Q_84 d_Q_draftRequest_1 hA hB ?_
  refine xs_astore_n (lv' := [some (.ref (this)), some (.ref (p1)), some (.ref (a2))]) d_Q_draftRequest_4 rfl rfl rfl ?_
  refine xw_aload_n d_Q_draftRequest_5 rfl rfl ?_
  obtain ⟨f3, a4, hA, hB, hw⟩ := hw
  refine xw_getr fr_Q_25 d_Q_draftRequest_6 hA hB ?_
  refine xw_aload_n d_Q_draftRequest_9 rfl rfl ?_
  refine xc_S1i lk_Q_338 st_Q_requestOf d_Q_draftRequest_10 (x_Q_requestOf hw) rfl rfl ?_
  intro x6 h5 hw
  refine xw_aload_n d_Q_draftRequest_13 rfl rfl ?_
  refine xw_aload_n d_Q_draftRequest_14 rfl rfl ?_
  obtain ⟨f7, x8, hA, hB, hw⟩ := hw
  refine xw_getr fr_Q_316 d_Q_draftRequest_15 hA hB ?_
  obtain ⟨⟨f10, hA⟩, hw⟩ := hw
  refine xc_V3n lk_Q_138 in_Me_open d_Q_draftRequest_18 (x_Me_open hw) rfl hA rfl ?_
  intro h9 hw
  refine xw_aload_n d_Q_draftRequest_21 rfl rfl ?_
  obtain ⟨f11, a12, hA, hB, hw⟩ := hw
  refine xw_getr fr_Q_25 d_Q_draftRequest_22 hA hB ?_
  refine xw_aload_n d_Q_draftRequest_25 rfl rfl ?_
  obtain ⟨f13, x14, hA, hB, hw⟩ := hw
  refine xw_getr fr_Q_201 d_Q_draftRequest_26 hA hB ?_
  obtain ⟨f15, hA, hB, hw⟩ := hw
  refine xw_puti fs_Q_273 d_Q_draftRequest_29 hA hB ?_
  generalize hh : xu h9 a12 (.inr (3, f15.set 3 (.int (x14)))) = h16
  have hw := hw h16 hh.symm
  refine xw_aload_n d_Q_draftRequest_32 rfl rfl ?_
  obtain ⟨f17, a18, hA, hB, hw⟩ := hw
  refine xw_getr fr_Q_25 d_Q_draftRequest_33 hA hB ?_
  refine xw_aload_n d_Q_draftRequest_36 rfl rfl ?_
  obtain ⟨f19, x20, hA, hB, hw⟩ := hw
  refine xw_getr fr_Q_213 d_Q_draftRequest_37 hA hB ?_
  obtain ⟨f21, hA, hB, hw⟩ := hw
  refine xw_puti fs_Q_274 d_Q_draftRequest_40 hA hB ?_
  generalize hh : xu h16 a18 (.inr (3, f21.set 4 (.int (x20)))) = h22
  have hw := hw h22 hh.symm
  refine xw_aload_n d_Q_draftRequest_43 rfl rfl ?_
  obtain ⟨f23, a24, hA, hB, hw⟩ := hw
  refine xw_getr fr_Q_25 d_Q_draftRequest_44 hA hB ?_
  refine xw_aload_n d_Q_draftRequest_47 rfl rfl ?_
  obtain ⟨f25, x26, hA, hB, hw⟩ := hw
  refine xw_getr fr_Q_123 d_Q_draftRequest_48 hA hB ?_
  refine xw_iconst (v := 4) d_Q_draftRequest_51 (by decide) ?_
  refine xw_icmp_ne (tgt := 59) d_Q_draftRequest_52 (by decide) (fun c29 => ?_) (fun c29 => ?_)
  · have hw := hw.1 c29
    refine xw_aload_n d_Q_draftRequest_59 rfl rfl ?_
    obtain ⟨f27, x28, hA, hB, hw⟩ := hw
    refine xw_getr fr_Q_255 d_Q_draftRequest_60 hA hB ?_
    exact p_Q_draftRequest_63  (this) (p1) (a2) (x28) (a24) h22 hw
  · have hw := hw.2 c29
    refine xw_iconst (v := 0) d_Q_draftRequest_55 (by decide) ?_
    refine xw_goto (tgt := 63) d_Q_draftRequest_56 (by decide) ?_
    exact p_Q_draftRequest_63  (this) (p1) (a2) (0) (a24) h22 hw
set_option maxRecDepth 100000 in
def w_Q_hear_86 (Q : Option Value → xH → Prop) (l0 : Nat) (l1 : Nat) (l2 : Nat) (h : xH) : Prop := ∃ (f1 : List Value) (x2 : Int32), h.2 l1 = some (.inr (3, f1)) ∧ f1[0]? = some (.int x2) ∧ ((¬ x2 = 2 → ∃ (f3 : List Value) (x4 : Int32), h.2 l1 = some (.inr (3, f3)) ∧ f3[0]? = some (.int x4) ∧ ((¬ x4 = 11 → ∃ (f5 : List Value) (x6 : Int32), h.2 l1 = some (.inr (3, f5)) ∧ f5[0]? = some (.int x6) ∧ ((¬ x6 = 6 → Q none h) ∧ (x6 = 6 → ∃ (f7 : List Value) (x8 : Int32), h.2 l1 = some (.inr (3, f7)) ∧ f7[6]? = some (.int x8) ∧ ∃ (f9 : List Value) (x10 : Int32), h.2 l2 = some (.inr (6, f9)) ∧ f9[10]? = some (.int x10) ∧ ((x8 ≤ x10 → Q none h) ∧ (¬ x8 ≤ x10 → ∃ (f11 : List Value) (x12 : Int32), h.2 l1 = some (.inr (3, f11)) ∧ f11[6]? = some (.int x12) ∧ ∃ f13, h.2 l2 = some (.inr (6, f13)) ∧ 10 < f13.length ∧ ∀ h14, h14 = xu h l2 (.inr (6, f13.set 10 (.int (x12)))) → ∃ (f15 : List Value) (x16 : Int32), h14.2 l1 = some (.inr (3, f15)) ∧ f15[7]? = some (.int x16) ∧ ∃ f17, h14.2 l2 = some (.inr (6, f17)) ∧ 11 < f17.length ∧ ∀ h18, h18 = xu h14 l2 (.inr (6, f17.set 11 (.int (x16)))) → Q none h18))))) ∧ (x4 = 11 → ∃ (f21 : List Value) (a22 : Nat), h.2 l2 = some (.inr (6, f21)) ∧ f21[13]? = some (.ref a22) ∧ ∃ (f23 : List Value) (a24 : Nat), h.2 l1 = some (.inr (3, f23)) ∧ f23[9]? = some (.ref a24) ∧ (∃ f26, h.2 a22 = some (.inr (1, f26))) ∧ w_Co_takeGreater (fun v h25 => v = none ∧ Q none h25) a22 a24 15 h))) ∧ (x2 = 2 → ∃ (f28 : List Value) (a29 : Nat), h.2 l2 = some (.inr (6, f28)) ∧ f28[13]? = some (.ref a29) ∧ ∃ (f30 : List Value) (a31 : Nat), h.2 l1 = some (.inr (3, f30)) ∧ f30[9]? = some (.ref a31) ∧ ∃ (f32 : List Value) (x33 : Int32), h.2 l1 = some (.inr (3, f32)) ∧ f32[5]? = some (.int x33) ∧ (∃ f35, h.2 a29 = some (.inr (1, f35))) ∧ w_Co_takeGreater (fun v h34 => v = none ∧ Q none h34) a29 a31 ((1 : Int32) <<< (x33 &&& 31)) h))
set_option maxRecDepth 100000 in
set_option maxHeartbeats 4000000 in
theorem p_Q_hear_86 {sc : List Int32} {Q : Option Value → xH → Prop} (l0 : Nat) (l1 : Nat) (l2 : Nat) (h : xH) (hw : w_Q_hear_86 Q l0 l1 l2 h) : xW sc m_Q_hear 3 0 0 86 [some (.ref (l0)), some (.ref (l1)), some (.ref (l2))] [] h Q := by
  unfold w_Q_hear_86 at hw
  refine xw_aload_n d_Q_hear_86 rfl rfl ?_
  obtain ⟨f1, x2, hA, hB, hw⟩ := hw
  refine xw_getr fr_Q_175 d_Q_hear_87 hA hB ?_
  refine xw_iconst (v := 2) d_Q_hear_90 (by decide) ?_
  refine xw_icmp_ne (tgt := 114) d_Q_hear_91 (by decide) (fun c36 => ?_) (fun c36 => ?_)
  · have hw := hw.1 c36
    refine xw_aload_n d_Q_hear_114 rfl rfl ?_
    obtain ⟨f3, x4, hA, hB, hw⟩ := hw
    refine xw_getr fr_Q_175 d_Q_hear_115 hA hB ?_
    refine xw_bipush (v := 11) d_Q_hear_118 (by decide) ?_
    refine xw_icmp_ne (tgt := 139) d_Q_hear_120 (by decide) (fun c27 => ?_) (fun c27 => ?_)
    · have hw := hw.1 c27
      refine xw_aload_n d_Q_hear_139 rfl rfl ?_
      obtain ⟨f5, x6, hA, hB, hw⟩ := hw
      refine xw_getr fr_Q_175 d_Q_hear_140 hA hB ?_
      refine xw_bipush (v := 6) d_Q_hear_143 (by decide) ?_
      refine xw_icmp_ne (tgt := 175) d_Q_hear_145 (by decide) (fun c20 => ?_) (fun c20 => ?_)
      · have hw := hw.1 c20
        exact xw_return rfl d_Q_hear_175 hw
      · have hw := hw.2 c20
        refine xw_aload_n d_Q_hear_148 rfl rfl ?_
        obtain ⟨f7, x8, hA, hB, hw⟩ := hw
        refine xw_getr fr_Q_279 d_Q_hear_149 hA hB ?_
        refine xw_aload_n d_Q_hear_152 rfl rfl ?_
        obtain ⟨f9, x10, hA, hB, hw⟩ := hw
        refine xw_getr fr_Q_307 d_Q_hear_153 hA hB ?_
        refine xw_icmp_le (tgt := 175) d_Q_hear_156 (by decide) (fun c19 => ?_) (fun c19 => ?_)
        · have hw := hw.1 c19
          exact xw_return rfl d_Q_hear_175 hw
        · have hw := hw.2 c19
          refine xw_aload_n d_Q_hear_159 rfl rfl ?_
          refine xw_aload_n d_Q_hear_160 rfl rfl ?_
          obtain ⟨f11, x12, hA, hB, hw⟩ := hw
          refine xw_getr fr_Q_279 d_Q_hear_161 hA hB ?_
          obtain ⟨f13, hA, hB, hw⟩ := hw
          refine xw_puti fs_Q_307 d_Q_hear_164 hA hB ?_
          generalize hh : xu h l2 (.inr (6, f13.set 10 (.int (x12)))) = h14
          have hw := hw h14 hh.symm
          refine xw_aload_n d_Q_hear_167 rfl rfl ?_
          refine xw_aload_n d_Q_hear_168 rfl rfl ?_
          obtain ⟨f15, x16, hA, hB, hw⟩ := hw
          refine xw_getr fr_Q_280 d_Q_hear_169 hA hB ?_
          obtain ⟨f17, hA, hB, hw⟩ := hw
          refine xw_puti fs_Q_310 d_Q_hear_172 hA hB ?_
          generalize hh : xu h14 l2 (.inr (6, f17.set 11 (.int (x16)))) = h18
          have hw := hw h18 hh.symm
          exact xw_return rfl d_Q_hear_175 hw
    · have hw := hw.2 c27
      refine xw_aload_n d_Q_hear_123 rfl rfl ?_
      obtain ⟨f21, a22, hA, hB, hw⟩ := hw
      refine xw_getr fr_Q_264 d_Q_hear_124 hA hB ?_
      refine xw_aload_n d_Q_hear_127 rfl rfl ?_
      obtain ⟨f23, a24, hA, hB, hw⟩ := hw
      refine xw_getr fr_Q_142 d_Q_hear_128 hA hB ?_
      refine xw_bipush (v := 15) d_Q_hear_131 (by decide) ?_
      obtain ⟨⟨f26, hA⟩, hw⟩ := hw
      refine xc_V2n lk_Q_386 in_Co_takeGreater d_Q_hear_133 (x_Co_takeGreater hw) rfl hA rfl ?_
      intro h25 hw
      refine xw_goto (tgt := 175) d_Q_hear_136 (by decide) ?_
      exact xw_return rfl d_Q_hear_175 hw
  · have hw := hw.2 c36
    refine xw_aload_n d_Q_hear_94 rfl rfl ?_
    obtain ⟨f28, a29, hA, hB, hw⟩ := hw
    refine xw_getr fr_Q_264 d_Q_hear_95 hA hB ?_
    refine xw_aload_n d_Q_hear_98 rfl rfl ?_
    obtain ⟨f30, a31, hA, hB, hw⟩ := hw
    refine xw_getr fr_Q_142 d_Q_hear_99 hA hB ?_
    refine xw_iconst (v := 1) d_Q_hear_102 (by decide) ?_
    refine xw_aload_n d_Q_hear_103 rfl rfl ?_
    obtain ⟨f32, x33, hA, hB, hw⟩ := hw
    refine xw_getr fr_Q_275 d_Q_hear_104 hA hB ?_
    refine xw_ishl d_Q_hear_107 ?_
    obtain ⟨⟨f35, hA⟩, hw⟩ := hw
    refine xc_V2n lk_Q_386 in_Co_takeGreater d_Q_hear_108 (x_Co_takeGreater hw) rfl hA rfl ?_
    intro h34 hw
    refine xw_goto (tgt := 175) d_Q_hear_111 (by decide) ?_
    exact xw_return rfl d_Q_hear_175 hw
set_option maxRecDepth 100000 in
def w_Q_hear (Q : Option Value → xH → Prop) (p1 : Nat) (p2 : Nat) (h : xH) : Prop := ∃ (f1 : List Value) (a2 : Nat), h.2 p1 = some (.inr (4, f1)) ∧ f1[10]? = some (.ref a2) ∧ (∃ f4, h.2 p1 = some (.inr (4, f4))) ∧ w_No_isBusy (fun v h3 => ∃ (x5 : Int32), v = some (.int x5) ∧ ((x5 = 0 → Q none h3) ∧ (¬ x5 = 0 → ∃ (f6 : List Value) (x7 : Int32), h3.2 p2 = some (.inr (3, f6)) ∧ f6[3]? = some (.int x7) ∧ ∃ (f8 : List Value) (x9 : Int32), h3.2 p1 = some (.inr (4, f8)) ∧ f8[2]? = some (.int x9) ∧ ((¬ x7 = x9 → Q none h3) ∧ (x7 = x9 → ∃ (f10 : List Value) (x11 : Int32), h3.2 p2 = some (.inr (3, f10)) ∧ f10[4]? = some (.int x11) ∧ ∃ (f12 : List Value) (x13 : Int32), h3.2 p1 = some (.inr (4, f12)) ∧ f12[4]? = some (.int x13) ∧ ((x11 = x13 → ∃ (f14 : List Value) (x15 : Int32), h3.2 a2 = some (.inr (6, f14)) ∧ f14[6]? = some (.int x15) ∧ ∃ (f16 : List Value) (x17 : Int32), h3.2 p2 = some (.inr (3, f16)) ∧ f16[1]? = some (.int x17) ∧ w_Q_isIn (fun v h18 => ∃ (x19 : Int32), v = some (.int x19) ∧ ((x19 = 0 → ∃ (f20 : List Value) (x21 : Int32), h18.2 p2 = some (.inr (3, f20)) ∧ f20[0]? = some (.int x21) ∧ ((¬ x21 = 9 → ∃ (f22 : List Value) (x23 : Int32), h18.2 a2 = some (.inr (6, f22)) ∧ f22[6]? = some (.int x23) ∧ ∃ (f24 : List Value) (x25 : Int32), h18.2 p2 = some (.inr (3, f24)) ∧ f24[1]? = some (.int x25) ∧ ∃ f26, h18.2 a2 = some (.inr (6, f26)) ∧ 6 < f26.length ∧ ∀ h27, h27 = xu h18 a2 (.inr (6, f26.set 6 (.int (x23 ||| ((1 : Int32) <<< (x25 &&& 31)))))) → w_Q_hear_86 Q (p1) (p2) (a2) h27) ∧ (x21 = 9 → ∃ (f28 : List Value) (x29 : Int32), h18.2 p2 = some (.inr (3, f28)) ∧ f28[6]? = some (.int x29) ∧ ¬ (8 : Int32) = 0 ∧ (∃ f31, h18.2 p1 = some (.inr (4, f31))) ∧ w_No_raiseRound (fun v h30 => v = none ∧ Q none h30) p1 (x29 / 8) h18))) ∧ (¬ x19 = 0 → Q none h18))) x15 x17 h3) ∧ (¬ x11 = x13 → Q none h3))))))) p1 h
set_option maxRecDepth 100000 in
set_option maxHeartbeats 4000000 in
theorem x_Q_hear {sc : List Int32} {Q : Option Value → xH → Prop} {p1 : Nat} {p2 : Nat} {h : xH} (hw : w_Q_hear Q p1 p2 h) : xMet sc m_Q_hear 3 0 0 [.ref (p1), .ref (p2)] h Q := by
  unfold w_Q_hear at hw
  refine xMet.of2 cw_Q_hear rfl rfl ?_
  show xW sc m_Q_hear 3 0 0 0 [some (.ref (p1)), some (.ref (p2)), none] [] h Q
  refine xw_aload_n d_Q_hear_0 rfl rfl ?_
  obtain ⟨f1, a2, hA, hB, hw⟩ := hw
  refine xw_getr fr_Q_84 d_Q_hear_1 hA hB ?_
  refine xs_astore_n (lv' := [some (.ref (p1)), some (.ref (p2)), some (.ref (a2))]) d_Q_hear_4 rfl rfl rfl ?_
  refine xw_aload_n d_Q_hear_5 rfl rfl ?_
  obtain ⟨⟨f4, hA⟩, hw⟩ := hw
  refine xc_V0i lk_Q_119 in_No_isBusy d_Q_hear_6 (x_No_isBusy hw) rfl hA rfl ?_
  intro x5 h3 hw
  refine xw_if_eq (tgt := 34) d_Q_hear_9 (by decide) (fun c36 => ?_) (fun c36 => ?_)
  · have hw := hw.1 c36
    exact xw_return rfl d_Q_hear_34 hw
  · have hw := hw.2 c36
    refine xw_aload_n d_Q_hear_12 rfl rfl ?_
    obtain ⟨f6, x7, hA, hB, hw⟩ := hw
    refine xw_getr fr_Q_273 d_Q_hear_13 hA hB ?_
    refine xw_aload_n d_Q_hear_16 rfl rfl ?_
    obtain ⟨f8, x9, hA, hB, hw⟩ := hw
    refine xw_getr fr_Q_201 d_Q_hear_17 hA hB ?_
    refine xw_icmp_ne (tgt := 34) d_Q_hear_20 (by decide) (fun c35 => ?_) (fun c35 => ?_)
    · have hw := hw.1 c35
      exact xw_return rfl d_Q_hear_34 hw
    · have hw := hw.2 c35
      refine xw_aload_n d_Q_hear_23 rfl rfl ?_
      obtain ⟨f10, x11, hA, hB, hw⟩ := hw
      refine xw_getr fr_Q_274 d_Q_hear_24 hA hB ?_
      refine xw_aload_n d_Q_hear_27 rfl rfl ?_
      obtain ⟨f12, x13, hA, hB, hw⟩ := hw
      refine xw_getr fr_Q_213 d_Q_hear_28 hA hB ?_
      refine xw_icmp_eq (tgt := 35) d_Q_hear_31 (by decide) (fun c34 => ?_) (fun c34 => ?_)
      · have hw := hw.1 c34
        refine xw_aload_n d_Q_hear_35 rfl rfl ?_
        obtain ⟨f14, x15, hA, hB, hw⟩ := hw
        refine xw_getr fr_Q_135 d_Q_hear_36 hA hB ?_
        refine xw_aload_n d_Q_hear_39 rfl rfl ?_
        obtain ⟨f16, x17, hA, hB, hw⟩ := hw
        refine xw_getr fr_Q_270 d_Q_hear_40 hA hB ?_
        refine xc_S2i lk_Q_298 st_Q_isIn d_Q_hear_43 (x_Q_isIn hw) rfl rfl ?_
        intro x19 h18 hw
        refine xw_if_eq (tgt := 50) d_Q_hear_46 (by decide) (fun c33 => ?_) (fun c33 => ?_)
        · have hw := hw.1 c33
          refine xw_aload_n d_Q_hear_50 rfl rfl ?_
          obtain ⟨f20, x21, hA, hB, hw⟩ := hw
          refine xw_getr fr_Q_175 d_Q_hear_51 hA hB ?_
          refine xw_bipush (v := 9) d_Q_hear_54 (by decide) ?_
          refine xw_icmp_ne (tgt := 71) d_Q_hear_56 (by decide) (fun c32 => ?_) (fun c32 => ?_)
          · have hw := hw.1 c32
            refine xw_aload_n d_Q_hear_71 rfl rfl ?_
            refine xw_dup d_Q_hear_72 rfl ?_
            obtain ⟨f22, x23, hA, hB, hw⟩ := hw
            refine xw_getr fr_Q_135 d_Q_hear_73 hA hB ?_
            refine xw_iconst (v := 1) d_Q_hear_76 (by decide) ?_
            refine xw_aload_n d_Q_hear_77 rfl rfl ?_
            obtain ⟨f24, x25, hA, hB, hw⟩ := hw
            refine xw_getr fr_Q_270 d_Q_hear_78 hA hB ?_
            refine xw_ishl d_Q_hear_81 ?_
            refine xw_ior d_Q_hear_82 ?_
            obtain ⟨f26, hA, hB, hw⟩ := hw
            refine xw_puti fs_Q_135 d_Q_hear_83 hA hB ?_
            generalize hh : xu h18 a2 (.inr (6, f26.set 6 (.int (x23 ||| ((1 : Int32) <<< (x25 &&& 31)))))) = h27
            have hw := hw h27 hh.symm
            exact p_Q_hear_86  (p1) (p2) (a2) h27 hw
          · have hw := hw.2 c32
            refine xw_aload_n d_Q_hear_59 rfl rfl ?_
            refine xw_aload_n d_Q_hear_60 rfl rfl ?_
            obtain ⟨f28, x29, hA, hB, hw⟩ := hw
            refine xw_getr fr_Q_279 d_Q_hear_61 hA hB ?_
            refine xw_bipush (v := 8) d_Q_hear_64 (by decide) ?_
            obtain ⟨hz, hw⟩ := hw
            refine xw_idiv d_Q_hear_66 hz ?_
            obtain ⟨⟨f31, hA⟩, hw⟩ := hw
            refine xc_V1n lk_Q_313 in_No_raiseRound d_Q_hear_67 (x_No_raiseRound hw) rfl hA rfl ?_
            intro h30 hw
            exact xw_return rfl d_Q_hear_70 hw
        · have hw := hw.2 c33
          exact xw_return rfl d_Q_hear_49 hw
      · have hw := hw.2 c34
        exact xw_return rfl d_Q_hear_34 hw
set_option maxRecDepth 100000 in
def w_Q_vote_199 (Q : Option Value → xH → Prop) (l0 : Nat) (l1 : Nat) (l2 : Nat) (l3 : Int32) (l4 : Int32) (h : xH) : Prop := ∃ (f1 : List Value) (a2 : Nat), h.2 l0 = some (.inr (0, f1)) ∧ f1[3]? = some (.ref a2) ∧ ∃ f3, h.2 a2 = some (.inr (3, f3)) ∧ 0 < f3.length ∧ ∀ h4, h4 = xu h a2 (.inr (3, f3.set 0 (.int (9)))) → ∃ (f5 : List Value) (a6 : Nat), h4.2 l0 = some (.inr (0, f5)) ∧ f5[3]? = some (.ref a6) ∧ ∃ f7, h4.2 a6 = some (.inr (3, f7)) ∧ 6 < f7.length ∧ ∀ h8, h8 = xu h4 a6 (.inr (3, f7.set 6 (.int (l4)))) → Q none h8
set_option maxRecDepth 100000 in
set_option maxHeartbeats 4000000 in
theorem p_Q_vote_199 {sc : List Int32} {Q : Option Value → xH → Prop} (l0 : Nat) (l1 : Nat) (l2 : Nat) (l3 : Int32) (l4 : Int32) (h : xH) (hw : w_Q_vote_199 Q l0 l1 l2 l3 l4 h) : xW sc m_Q_vote 2 0 0 199 [some (.ref (l0)), some (.ref (l1)), some (.ref (l2)), some (.int (l3)), some (.int (l4)), none] [] h Q := by
  unfold w_Q_vote_199 at hw
  refine xw_aload_n d_Q_vote_199 rfl rfl ?_
  obtain ⟨f1, a2, hA, hB, hw⟩ := hw
  refine xw_getr fr_Q_29 d_Q_vote_200 hA hB ?_
  refine xw_bipush (v := 9) d_Q_vote_203 (by decide) ?_
  obtain ⟨f3, hA, hB, hw⟩ := hw
  refine xw_puti fs_Q_175 d_Q_vote_205 hA hB ?_
  generalize hh : xu h a2 (.inr (3, f3.set 0 (.int (9)))) = h4
  have hw := hw h4 hh.symm
  refine xw_aload_n d_Q_vote_208 rfl rfl ?_
  obtain ⟨f5, a6, hA, hB, hw⟩ := hw
  refine xw_getr fr_Q_29 d_Q_vote_209 hA hB ?_
  refine xw_iload d_Q_vote_212 rfl ?_
  obtain ⟨f7, hA, hB, hw⟩ := hw
  refine xw_puti fs_Q_279 d_Q_vote_214 hA hB ?_
  generalize hh : xu h4 a6 (.inr (3, f7.set 6 (.int (l4)))) = h8
  have hw := hw h8 hh.symm
  exact xw_return rfl d_Q_vote_217 hw
set_option maxRecDepth 100000 in
def w_Q_vote_196 (Q : Option Value → xH → Prop) (l0 : Nat) (l1 : Nat) (l2 : Nat) (l3 : Int32) (l4 : Int32) (l5 : Int32) (h : xH) : Prop := Q none h
set_option maxRecDepth 100000 in
set_option maxHeartbeats 4000000 in
theorem p_Q_vote_196 {sc : List Int32} {Q : Option Value → xH → Prop} (l0 : Nat) (l1 : Nat) (l2 : Nat) (l3 : Int32) (l4 : Int32) (l5 : Int32) (h : xH) (hw : w_Q_vote_196 Q l0 l1 l2 l3 l4 l5 h) : xW sc m_Q_vote 2 0 0 196 [some (.ref (l0)), some (.ref (l1)), some (.ref (l2)), some (.int (l3)), some (.int (l4)), some (.int (l5))] [] h Q := by
  unfold w_Q_vote_196 at hw
  refine xw_goto (tgt := 217) d_Q_vote_196 (by decide) ?_
  exact xw_return rfl d_Q_vote_217 hw
set_option maxRecDepth 100000 in
def w_Q_vote_115 (Q : Option Value → xH → Prop) (l0 : Nat) (l1 : Nat) (l2 : Nat) (l3 : Int32) (l4 : Int32) (h : xH) : Prop := ∃ (f1 : List Value) (x2 : Int32), h.2 l2 = some (.inr (3, f1)) ∧ f1[0]? = some (.int x2) ∧ ((¬ x2 = 7 → w_Q_vote_199 Q (l0) (l1) (l2) (l3) (l4) h) ∧ (x2 = 7 → ∃ (f3 : List Value) (x4 : Int32), h.2 l2 = some (.inr (3, f3)) ∧ f3[6]? = some (.int x4) ∧ ((x4 < l4 → w_Q_vote_199 Q (l0) (l1) (l2) (l3) (l4) h) ∧ (¬ x4 < l4 → ∃ (f5 : List Value) (a6 : Nat), h.2 l0 = some (.inr (0, f5)) ∧ f5[3]? = some (.ref a6) ∧ ∃ f7, h.2 a6 = some (.inr (3, f7)) ∧ 0 < f7.length ∧ ∀ h8, h8 = xu h a6 (.inr (3, f7.set 0 (.int (8)))) → ∃ (f9 : List Value) (a10 : Nat), h8.2 l1 = some (.inr (4, f9)) ∧ f9[9]? = some (.ref a10) ∧ ∃ (f11 : List Value) (x12 : Int32), h8.2 l2 = some (.inr (3, f11)) ∧ f11[6]? = some (.int x12) ∧ ∃ (f13 : List Value) (x14 : Int32), h8.2 l2 = some (.inr (3, f13)) ∧ f13[6]? = some (.int x14) ∧ ∃ (f15 : List Value) (x16 : Int32), h8.2 l2 = some (.inr (3, f15)) ∧ f15[7]? = some (.int x16) ∧ (∃ f18, h8.2 a10 = some (.inr (7, f18))) ∧ w_Vo_isAs (fun v h17 => ∃ (x19 : Int32), v = some (.int x19) ∧ ((¬ x19 = 0 → w_Q_vote_196 Q (l0) (l1) (l2) (l3) (l4) (x19) h17) ∧ (x19 = 0 → (∃ f21, h17.2 l1 = some (.inr (4, f21))) ∧ w_No_mayWrite (fun v h20 => ∃ (x22 : Int32), v = some (.int x22) ∧ ((x22 = 0 → w_Q_vote_196 Q (l0) (l1) (l2) (l3) (l4) (x19) h20) ∧ (¬ x22 = 0 → ∃ (f23 : List Value) (a24 : Nat), h20.2 l1 = some (.inr (4, f23)) ∧ f23[9]? = some (.ref a24) ∧ ∃ (f25 : List Value) (x26 : Int32), h20.2 l2 = some (.inr (3, f25)) ∧ f25[6]? = some (.int x26) ∧ ∃ (f27 : List Value) (x28 : Int32), h20.2 l2 = some (.inr (3, f27)) ∧ f27[6]? = some (.int x28) ∧ ∃ (f29 : List Value) (x30 : Int32), h20.2 l2 = some (.inr (3, f29)) ∧ f29[7]? = some (.int x30) ∧ (∃ f32, h20.2 a24 = some (.inr (7, f32))) ∧ w_Vo_put (fun v h31 => v = none ∧ w_Q_vote_196 Q (l0) (l1) (l2) (l3) (l4) (x19) h31) a24 l3 x26 x28 x30 h20))) l1 h17))) a10 l3 x12 x14 x16 h8))))
set_option maxRecDepth 100000 in
set_option maxHeartbeats 4000000 in
theorem p_Q_vote_115 {sc : List Int32} {Q : Option Value → xH → Prop} (l0 : Nat) (l1 : Nat) (l2 : Nat) (l3 : Int32) (l4 : Int32) (h : xH) (hw : w_Q_vote_115 Q l0 l1 l2 l3 l4 h) : xW sc m_Q_vote 2 0 0 115 [some (.ref (l0)), some (.ref (l1)), some (.ref (l2)), some (.int (l3)), some (.int (l4)), none] [] h Q := by
  unfold w_Q_vote_115 at hw
  refine xw_aload_n d_Q_vote_115 rfl rfl ?_
  obtain ⟨f1, x2, hA, hB, hw⟩ := hw
  refine xw_getr fr_Q_175 d_Q_vote_116 hA hB ?_
  refine xw_bipush (v := 7) d_Q_vote_119 (by decide) ?_
  refine xw_icmp_ne (tgt := 199) d_Q_vote_121 (by decide) (fun c36 => ?_) (fun c36 => ?_)
  · have hw := hw.1 c36
    exact p_Q_vote_199  (l0) (l1) (l2) (l3) (l4) h hw
  · have hw := hw.2 c36
    refine xw_aload_n d_Q_vote_124 rfl rfl ?_
    obtain ⟨f3, x4, hA, hB, hw⟩ := hw
    refine xw_getr fr_Q_279 d_Q_vote_125 hA hB ?_
    refine xw_iload d_Q_vote_128 rfl ?_
    refine xw_icmp_lt (tgt := 199) d_Q_vote_130 (by decide) (fun c35 => ?_) (fun c35 => ?_)
    · have hw := hw.1 c35
      exact p_Q_vote_199  (l0) (l1) (l2) (l3) (l4) h hw
    · have hw := hw.2 c35
      refine xw_aload_n d_Q_vote_133 rfl rfl ?_
      obtain ⟨f5, a6, hA, hB, hw⟩ := hw
      refine xw_getr fr_Q_29 d_Q_vote_134 hA hB ?_
      refine xw_bipush (v := 8) d_Q_vote_137 (by decide) ?_
      obtain ⟨f7, hA, hB, hw⟩ := hw
      refine xw_puti fs_Q_175 d_Q_vote_139 hA hB ?_
      generalize hh : xu h a6 (.inr (3, f7.set 0 (.int (8)))) = h8
      have hw := hw h8 hh.symm
      refine xw_aload_n d_Q_vote_142 rfl rfl ?_
      obtain ⟨f9, a10, hA, hB, hw⟩ := hw
      refine xw_getr fr_Q_234 d_Q_vote_143 hA hB ?_
      refine xw_iload_n d_Q_vote_146 rfl rfl ?_
      refine xw_aload_n d_Q_vote_147 rfl rfl ?_
      obtain ⟨f11, x12, hA, hB, hw⟩ := hw
      refine xw_getr fr_Q_279 d_Q_vote_148 hA hB ?_
      refine xw_aload_n d_Q_vote_151 rfl rfl ?_
      obtain ⟨f13, x14, hA, hB, hw⟩ := hw
      refine xw_getr fr_Q_279 d_Q_vote_152 hA hB ?_
      refine xw_aload_n d_Q_vote_155 rfl rfl ?_
      obtain ⟨f15, x16, hA, hB, hw⟩ := hw
      refine xw_getr fr_Q_280 d_Q_vote_156 hA hB ?_
      obtain ⟨⟨f18, hA⟩, hw⟩ := hw
      refine xc_V4i lk_Q_379 in_Vo_isAs d_Q_vote_159 (x_Vo_isAs hw) rfl hA rfl ?_
      intro x19 h17 hw
      refine xs_istore (lv' := [some (.ref (l0)), some (.ref (l1)), some (.ref (l2)), some (.int (l3)), some (.int (l4)), some (.int (x19))]) d_Q_vote_162 rfl rfl ?_
      refine xw_iload d_Q_vote_164 rfl ?_
      refine xw_if_ne (tgt := 196) d_Q_vote_166 (by decide) (fun c34 => ?_) (fun c34 => ?_)
      · have hw := hw.1 c34
        exact p_Q_vote_196  (l0) (l1) (l2) (l3) (l4) (x19) h17 hw
      · have hw := hw.2 c34
        refine xw_aload_n d_Q_vote_169 rfl rfl ?_
        obtain ⟨⟨f21, hA⟩, hw⟩ := hw
        refine xc_V0i lk_Q_198 in_No_mayWrite d_Q_vote_170 (x_No_mayWrite hw) rfl hA rfl ?_
        intro x22 h20 hw
        refine xw_if_eq (tgt := 196) d_Q_vote_173 (by decide) (fun c33 => ?_) (fun c33 => ?_)
        · have hw := hw.1 c33
          exact p_Q_vote_196  (l0) (l1) (l2) (l3) (l4) (x19) h20 hw
        · have hw := hw.2 c33
          refine xw_aload_n d_Q_vote_176 rfl rfl ?_
          obtain ⟨f23, a24, hA, hB, hw⟩ := hw
          refine xw_getr fr_Q_234 d_Q_vote_177 hA hB ?_
          refine xw_iload_n d_Q_vote_180 rfl rfl ?_
          refine xw_aload_n d_Q_vote_181 rfl rfl ?_
          obtain ⟨f25, x26, hA, hB, hw⟩ := hw
          refine xw_getr fr_Q_279 d_Q_vote_182 hA hB ?_
          refine xw_aload_n d_Q_vote_185 rfl rfl ?_
          obtain ⟨f27, x28, hA, hB, hw⟩ := hw
          refine xw_getr fr_Q_279 d_Q_vote_186 hA hB ?_
          refine xw_aload_n d_Q_vote_189 rfl rfl ?_
          obtain ⟨f29, x30, hA, hB, hw⟩ := hw
          refine xw_getr fr_Q_280 d_Q_vote_190 hA hB ?_
          obtain ⟨⟨f32, hA⟩, hw⟩ := hw
          refine xc_V4n lk_Q_378 in_Vo_put d_Q_vote_193 (x_Vo_put hw) rfl hA rfl ?_
          intro h31 hw
          exact p_Q_vote_196  (l0) (l1) (l2) (l3) (l4) (x19) h31 hw
set_option maxRecDepth 100000 in
def w_Q_vote (Q : Option Value → xH → Prop) (this : Nat) (p1 : Nat) (p2 : Nat) (h : xH) : Prop := ∃ (f1 : List Value) (x2 : Int32), h.2 p2 = some (.inr (3, f1)) ∧ f1[5]? = some (.int x2) ∧ ∃ (f3 : List Value) (a4 : Nat), h.2 p1 = some (.inr (4, f3)) ∧ f3[9]? = some (.ref a4) ∧ (∃ f6, h.2 a4 = some (.inr (7, f6))) ∧ w_Vo_promisedAt (fun v h5 => ∃ (x7 : Int32), v = some (.int x7) ∧ ∃ (f8 : List Value) (a9 : Nat), h5.2 this = some (.inr (0, f8)) ∧ f8[3]? = some (.ref a9) ∧ ∃ f10, h5.2 a9 = some (.inr (3, f10)) ∧ 5 < f10.length ∧ ∀ h11, h11 = xu h5 a9 (.inr (3, f10.set 5 (.int (x2)))) → ∃ (f12 : List Value) (x13 : Int32), h11.2 p2 = some (.inr (3, f12)) ∧ f12[0]? = some (.int x13) ∧ ((¬ x13 = 5 → w_Q_vote_115 Q (this) (p1) (p2) (x2) (x7) h11) ∧ (x13 = 5 → ∃ (f14 : List Value) (x15 : Int32), h11.2 p2 = some (.inr (3, f14)) ∧ f14[6]? = some (.int x15) ∧ ((x15 ≤ x7 → w_Q_vote_115 Q (this) (p1) (p2) (x2) (x7) h11) ∧ (¬ x15 ≤ x7 → ∃ (f16 : List Value) (a17 : Nat), h11.2 this = some (.inr (0, f16)) ∧ f16[3]? = some (.ref a17) ∧ ∃ f18, h11.2 a17 = some (.inr (3, f18)) ∧ 0 < f18.length ∧ ∀ h19, h19 = xu h11 a17 (.inr (3, f18.set 0 (.int (6)))) → ∃ (f20 : List Value) (a21 : Nat), h19.2 this = some (.inr (0, f20)) ∧ f20[3]? = some (.ref a21) ∧ ∃ (f22 : List Value) (a23 : Nat), h19.2 p1 = some (.inr (4, f22)) ∧ f22[9]? = some (.ref a23) ∧ (∃ f25, h19.2 a23 = some (.inr (7, f25))) ∧ w_Vo_acceptedAt (fun v h24 => ∃ (x26 : Int32), v = some (.int x26) ∧ ∃ f27, h24.2 a21 = some (.inr (3, f27)) ∧ 6 < f27.length ∧ ∀ h28, h28 = xu h24 a21 (.inr (3, f27.set 6 (.int (x26)))) → ∃ (f29 : List Value) (a30 : Nat), h28.2 this = some (.inr (0, f29)) ∧ f29[3]? = some (.ref a30) ∧ ∃ (f31 : List Value) (a32 : Nat), h28.2 p1 = some (.inr (4, f31)) ∧ f31[9]? = some (.ref a32) ∧ (∃ f34, h28.2 a32 = some (.inr (7, f34))) ∧ w_Vo_configurationAt (fun v h33 => ∃ (x35 : Int32), v = some (.int x35) ∧ ∃ f36, h33.2 a30 = some (.inr (3, f36)) ∧ 7 < f36.length ∧ ∀ h37, h37 = xu h33 a30 (.inr (3, f36.set 7 (.int (x35)))) → (∃ f39, h37.2 p1 = some (.inr (4, f39))) ∧ w_No_mayWrite (fun v h38 => ∃ (x40 : Int32), v = some (.int x40) ∧ ((x40 = 0 → Q none h38) ∧ (¬ x40 = 0 → ∃ (f41 : List Value) (a42 : Nat), h38.2 p1 = some (.inr (4, f41)) ∧ f41[9]? = some (.ref a42) ∧ ∃ (f43 : List Value) (x44 : Int32), h38.2 p2 = some (.inr (3, f43)) ∧ f43[6]? = some (.int x44) ∧ ∃ (f45 : List Value) (a46 : Nat), h38.2 this = some (.inr (0, f45)) ∧ f45[3]? = some (.ref a46) ∧ ∃ (f47 : List Value) (x48 : Int32), h38.2 a46 = some (.inr (3, f47)) ∧ f47[6]? = some (.int x48) ∧ ∃ (f49 : List Value) (a50 : Nat), h38.2 this = some (.inr (0, f49)) ∧ f49[3]? = some (.ref a50) ∧ ∃ (f51 : List Value) (x52 : Int32), h38.2 a50 = some (.inr (3, f51)) ∧ f51[7]? = some (.int x52) ∧ (∃ f54, h38.2 a42 = some (.inr (7, f54))) ∧ w_Vo_put (fun v h53 => v = none ∧ Q none h53) a42 x2 x44 x48 x52 h38))) p1 h37) a32 x2 h28) a23 x2 h19))))) a4 x2 h
set_option maxRecDepth 100000 in
set_option maxHeartbeats 4000000 in
theorem x_Q_vote {sc : List Int32} {Q : Option Value → xH → Prop} {this : Nat} {p1 : Nat} {p2 : Nat} {h : xH} (hw : w_Q_vote Q this p1 p2 h) : xMet sc m_Q_vote 2 0 0 [.ref (this), .ref (p1), .ref (p2)] h Q := by
  unfold w_Q_vote at hw
  refine xMet.of2 cw_Q_vote rfl rfl ?_
  show xW sc m_Q_vote 2 0 0 0 [some (.ref (this)), some (.ref (p1)), some (.ref (p2)), none, none, none] [] h Q
  refine xw_aload_n d_Q_vote_0 rfl rfl ?_
  obtain ⟨f1, x2, hA, hB, hw⟩ := hw
  refine xw_getr fr_Q_275 d_Q_vote_1 hA hB ?_
  refine xs_istore_n (lv' := [some (.ref (this)), some (.ref (p1)), some (.ref (p2)), some (.int (x2)), none, none]) d_Q_vote_4 rfl rfl rfl ?_
  refine xw_aload_n d_Q_vote_5 rfl rfl ?_
  obtain ⟨f3, a4, hA, hB, hw⟩ := hw
  refine xw_getr fr_Q_234 d_Q_vote_6 hA hB ?_
  refine xw_iload_n d_Q_vote_9 rfl rfl ?_
  obtain ⟨⟨f6, hA⟩, hw⟩ := hw
  refine xc_V1i lk_Q_238 in_Vo_promisedAt d_Q_vote_10 (x_Vo_promisedAt hw) rfl hA rfl ?_
  intro x7 h5 hw
  refine xs_istore (lv' := [some (.ref (this)), some (.ref (p1)), some (.ref (p2)), some (.int (x2)), some (.int (x7)), none]) d_Q_vote_13 rfl rfl ?_
  refine xw_aload_n d_Q_vote_15 rfl rfl ?_
  obtain ⟨f8, a9, hA, hB, hw⟩ := hw
  refine xw_getr fr_Q_29 d_Q_vote_16 hA hB ?_
  refine xw_iload_n d_Q_vote_19 rfl rfl ?_
  obtain ⟨f10, hA, hB, hw⟩ := hw
  refine xw_puti fs_Q_275 d_Q_vote_20 hA hB ?_
  generalize hh : xu h5 a9 (.inr (3, f10.set 5 (.int (x2)))) = h11
  have hw := hw h11 hh.symm
  refine xw_aload_n d_Q_vote_23 rfl rfl ?_
  obtain ⟨f12, x13, hA, hB, hw⟩ := hw
  refine xw_getr fr_Q_175 d_Q_vote_24 hA hB ?_
  refine xw_iconst (v := 5) d_Q_vote_27 (by decide) ?_
  refine xw_icmp_ne (tgt := 115) d_Q_vote_28 (by decide) (fun c57 => ?_) (fun c57 => ?_)
  · have hw := hw.1 c57
    exact p_Q_vote_115  (this) (p1) (p2) (x2) (x7) h11 hw
  · have hw := hw.2 c57
    refine xw_aload_n d_Q_vote_31 rfl rfl ?_
    obtain ⟨f14, x15, hA, hB, hw⟩ := hw
    refine xw_getr fr_Q_279 d_Q_vote_32 hA hB ?_
    refine xw_iload d_Q_vote_35 rfl ?_
    refine xw_icmp_le (tgt := 115) d_Q_vote_37 (by decide) (fun c56 => ?_) (fun c56 => ?_)
    · have hw := hw.1 c56
      exact p_Q_vote_115  (this) (p1) (p2) (x2) (x7) h11 hw
    · have hw := hw.2 c56
      refine xw_aload_n d_Q_vote_40 rfl rfl ?_
      obtain ⟨f16, a17, hA, hB, hw⟩ := hw
      refine xw_getr fr_Q_29 d_Q_vote_41 hA hB ?_
      refine xw_bipush (v := 6) d_Q_vote_44 (by decide) ?_
      obtain ⟨f18, hA, hB, hw⟩ := hw
      refine xw_puti fs_Q_175 d_Q_vote_46 hA hB ?_
      generalize hh : xu h11 a17 (.inr (3, f18.set 0 (.int (6)))) = h19
      have hw := hw h19 hh.symm
      refine xw_aload_n d_Q_vote_49 rfl rfl ?_
      obtain ⟨f20, a21, hA, hB, hw⟩ := hw
      refine xw_getr fr_Q_29 d_Q_vote_50 hA hB ?_
      refine xw_aload_n d_Q_vote_53 rfl rfl ?_
      obtain ⟨f22, a23, hA, hB, hw⟩ := hw
      refine xw_getr fr_Q_234 d_Q_vote_54 hA hB ?_
      refine xw_iload_n d_Q_vote_57 rfl rfl ?_
      obtain ⟨⟨f25, hA⟩, hw⟩ := hw
      refine xc_V1i lk_Q_243 in_Vo_acceptedAt d_Q_vote_58 (x_Vo_acceptedAt hw) rfl hA rfl ?_
      intro x26 h24 hw
      obtain ⟨f27, hA, hB, hw⟩ := hw
      refine xw_puti fs_Q_279 d_Q_vote_61 hA hB ?_
      generalize hh : xu h24 a21 (.inr (3, f27.set 6 (.int (x26)))) = h28
      have hw := hw h28 hh.symm
      refine xw_aload_n d_Q_vote_64 rfl rfl ?_
      obtain ⟨f29, a30, hA, hB, hw⟩ := hw
      refine xw_getr fr_Q_29 d_Q_vote_65 hA hB ?_
      refine xw_aload_n d_Q_vote_68 rfl rfl ?_
      obtain ⟨f31, a32, hA, hB, hw⟩ := hw
      refine xw_getr fr_Q_234 d_Q_vote_69 hA hB ?_
      refine xw_iload_n d_Q_vote_72 rfl rfl ?_
      obtain ⟨⟨f34, hA⟩, hw⟩ := hw
      refine xc_V1i lk_Q_246 in_Vo_configurationAt d_Q_vote_73 (x_Vo_configurationAt hw) rfl hA rfl ?_
      intro x35 h33 hw
      obtain ⟨f36, hA, hB, hw⟩ := hw
      refine xw_puti fs_Q_280 d_Q_vote_76 hA hB ?_
      generalize hh : xu h33 a30 (.inr (3, f36.set 7 (.int (x35)))) = h37
      have hw := hw h37 hh.symm
      refine xw_aload_n d_Q_vote_79 rfl rfl ?_
      obtain ⟨⟨f39, hA⟩, hw⟩ := hw
      refine xc_V0i lk_Q_198 in_No_mayWrite d_Q_vote_80 (x_No_mayWrite hw) rfl hA rfl ?_
      intro x40 h38 hw
      refine xw_if_eq (tgt := 217) d_Q_vote_83 (by decide) (fun c55 => ?_) (fun c55 => ?_)
      · have hw := hw.1 c55
        exact xw_return rfl d_Q_vote_217 hw
      · have hw := hw.2 c55
        refine xw_aload_n d_Q_vote_86 rfl rfl ?_
        obtain ⟨f41, a42, hA, hB, hw⟩ := hw
        refine xw_getr fr_Q_234 d_Q_vote_87 hA hB ?_
        refine xw_iload_n d_Q_vote_90 rfl rfl ?_
        refine xw_aload_n d_Q_vote_91 rfl rfl ?_
        obtain ⟨f43, x44, hA, hB, hw⟩ := hw
        refine xw_getr fr_Q_279 d_Q_vote_92 hA hB ?_
        refine xw_aload_n d_Q_vote_95 rfl rfl ?_
        obtain ⟨f45, a46, hA, hB, hw⟩ := hw
        refine xw_getr fr_Q_29 d_Q_vote_96 hA hB ?_
        obtain ⟨f47, x48, hA, hB, hw⟩ := hw
        refine xw_getr fr_Q_279 d_Q_vote_99 hA hB ?_
        refine xw_aload_n d_Q_vote_102 rfl rfl ?_
        obtain ⟨f49, a50, hA, hB, hw⟩ := hw
        refine xw_getr fr_Q_29 d_Q_vote_103 hA hB ?_
        obtain ⟨f51, x52, hA, hB, hw⟩ := hw
        refine xw_getr fr_Q_280 d_Q_vote_106 hA hB ?_
        obtain ⟨⟨f54, hA⟩, hw⟩ := hw
        refine xc_V4n lk_Q_378 in_Vo_put d_Q_vote_109 (x_Vo_put hw) rfl hA rfl ?_
        intro h53 hw
        refine xw_goto (tgt := 217) d_Q_vote_112 (by decide) ?_
        exact xw_return rfl d_Q_vote_217 hw
set_option maxRecDepth 100000 in
def w_Q_serve_244 (Q : Option Value → xH → Prop) (l0 : Nat) (l1 : Nat) (l2 : Nat) (s0 : Int32) (s1 : Nat) (h : xH) : Prop := ∃ f1, h.2 s1 = some (.inr (3, f1)) ∧ 0 < f1.length ∧ ∀ h2, h2 = xu h s1 (.inr (3, f1.set 0 (.int (s0)))) → ∃ (f3 : List Value) (a4 : Nat), h2.2 l0 = some (.inr (0, f3)) ∧ f3[3]? = some (.ref a4) ∧ ∃ (f5 : List Value) (a6 : Nat), h2.2 a4 = some (.inr (3, f5)) ∧ f5[9]? = some (.ref a6) ∧ ∃ (f7 : List Value) (a8 : Nat), h2.2 l1 = some (.inr (4, f7)) ∧ f7[7]? = some (.ref a8) ∧ (∃ f10, h2.2 a6 = some (.inr (1, f10))) ∧ w_Co_copyFrom (fun v h9 => v = none ∧ Q none h9) a6 a8 h2
set_option maxRecDepth 100000 in
set_option maxHeartbeats 4000000 in
theorem p_Q_serve_244 {sc : List Int32} {Q : Option Value → xH → Prop} (l0 : Nat) (l1 : Nat) (l2 : Nat) (s0 : Int32) (s1 : Nat) (h : xH) (hw : w_Q_serve_244 Q l0 l1 l2 s0 s1 h) : xW sc m_Q_serve 3 0 0 244 [some (.ref (l0)), some (.ref (l1)), some (.ref (l2))] [.int (s0), .ref (s1)] h Q := by
  unfold w_Q_serve_244 at hw
  obtain ⟨f1, hA, hB, hw⟩ := hw
  refine xw_puti fs_Q_175 d_Q_serve_244 hA hB ?_
  generalize hh : xu h s1 (.inr (3, f1.set 0 (.int (s0)))) = h2
  have hw := hw h2 hh.symm
  refine xw_aload_n d_Q_serve_247 rfl rfl ?_
  obtain ⟨f3, a4, hA, hB, hw⟩ := hw
  refine xw_getr fr_Q_29 d_Q_serve_248 hA hB ?_
  obtain ⟨f5, a6, hA, hB, hw⟩ := hw
  refine xw_getr fr_Q_142 d_Q_serve_251 hA hB ?_
  refine xw_aload_n d_Q_serve_254 rfl rfl ?_
  obtain ⟨f7, a8, hA, hB, hw⟩ := hw
  refine xw_getr fr_Q_146 d_Q_serve_255 hA hB ?_
  obtain ⟨⟨f10, hA⟩, hw⟩ := hw
  refine xc_V1n lk_Q_149 in_Co_copyFrom d_Q_serve_258 (x_Co_copyFrom hw) rfl hA rfl ?_
  intro h9 hw
  refine xw_goto (tgt := 264) d_Q_serve_261 (by decide) ?_
  exact xw_return rfl d_Q_serve_264 hw
set_option maxRecDepth 100000 in
def w_Q_serve_171 (Q : Option Value → xH → Prop) (l0 : Nat) (l1 : Nat) (l2 : Nat) (h : xH) : Prop := ∃ (f1 : List Value) (a2 : Nat), h.2 l0 = some (.inr (0, f1)) ∧ f1[3]? = some (.ref a2) ∧ ∃ (f3 : List Value) (a4 : Nat), h.2 a2 = some (.inr (3, f3)) ∧ f3[9]? = some (.ref a4) ∧ ∃ (f5 : List Value) (a6 : Nat), h.2 l1 = some (.inr (4, f5)) ∧ f5[7]? = some (.ref a6) ∧ (∃ f8, h.2 a4 = some (.inr (1, f8))) ∧ w_Co_copyFrom (fun v h7 => v = none ∧ Q none h7) a4 a6 h
set_option maxRecDepth 100000 in
set_option maxHeartbeats 4000000 in
theorem p_Q_serve_171 {sc : List Int32} {Q : Option Value → xH → Prop} (l0 : Nat) (l1 : Nat) (l2 : Nat) (h : xH) (hw : w_Q_serve_171 Q l0 l1 l2 h) : xW sc m_Q_serve 3 0 0 171 [some (.ref (l0)), some (.ref (l1)), some (.ref (l2))] [] h Q := by
  unfold w_Q_serve_171 at hw
  refine xw_aload_n d_Q_serve_171 rfl rfl ?_
  obtain ⟨f1, a2, hA, hB, hw⟩ := hw
  refine xw_getr fr_Q_29 d_Q_serve_172 hA hB ?_
  obtain ⟨f3, a4, hA, hB, hw⟩ := hw
  refine xw_getr fr_Q_142 d_Q_serve_175 hA hB ?_
  refine xw_aload_n d_Q_serve_178 rfl rfl ?_
  obtain ⟨f5, a6, hA, hB, hw⟩ := hw
  refine xw_getr fr_Q_146 d_Q_serve_179 hA hB ?_
  obtain ⟨⟨f8, hA⟩, hw⟩ := hw
  refine xc_V1n lk_Q_149 in_Co_copyFrom d_Q_serve_182 (x_Co_copyFrom hw) rfl hA rfl ?_
  intro h7 hw
  refine xw_goto (tgt := 264) d_Q_serve_185 (by decide) ?_
  exact xw_return rfl d_Q_serve_264 hw
set_option maxRecDepth 100000 in
def w_Q_serve (Q : Option Value → xH → Prop) (this : Nat) (p1 : Nat) (p2 : Nat) (h : xH) : Prop := ∃ (f1 : List Value) (a2 : Nat), h.2 this = some (.inr (0, f1)) ∧ f1[3]? = some (.ref a2) ∧ ∃ (f3 : List Value) (x4 : Int32), h.2 p1 = some (.inr (4, f3)) ∧ f3[0]? = some (.int x4) ∧ (∃ f6, h.2 a2 = some (.inr (3, f6))) ∧ w_Me_openAnswer (fun v h5 => v = none ∧ ∃ (f7 : List Value) (x8 : Int32), h5.2 p2 = some (.inr (3, f7)) ∧ f7[0]? = some (.int x8) ∧ ((x8 = 1 → ∃ (f10 : List Value) (a11 : Nat), h5.2 this = some (.inr (0, f10)) ∧ f10[3]? = some (.ref a11) ∧ ∃ f12, h5.2 a11 = some (.inr (3, f12)) ∧ 0 < f12.length ∧ ∀ h13, h13 = xu h5 a11 (.inr (3, f12.set 0 (.int (2)))) → ∃ (f14 : List Value) (a15 : Nat), h13.2 this = some (.inr (0, f14)) ∧ f14[3]? = some (.ref a15) ∧ ∃ (f16 : List Value) (x17 : Int32), h13.2 p2 = some (.inr (3, f16)) ∧ f16[5]? = some (.int x17) ∧ ∃ f18, h13.2 a15 = some (.inr (3, f18)) ∧ 5 < f18.length ∧ ∀ h19, h19 = xu h13 a15 (.inr (3, f18.set 5 (.int (x17)))) → ∃ (f20 : List Value) (a21 : Nat), h19.2 this = some (.inr (0, f20)) ∧ f20[3]? = some (.ref a21) ∧ ∃ (f22 : List Value) (a23 : Nat), h19.2 a21 = some (.inr (3, f22)) ∧ f22[9]? = some (.ref a23) ∧ ∃ (f24 : List Value) (a25 : Nat), h19.2 p1 = some (.inr (4, f24)) ∧ f24[7]? = some (.ref a25) ∧ (∃ f27, h19.2 a23 = some (.inr (1, f27))) ∧ w_Co_copyFrom (fun v h26 => v = none ∧ Q none h26) a23 a25 h19) ∧ (x8 = 2 → Q none h5) ∧ (x8 = 3 → ∃ (f30 : List Value) (a31 : Nat), h5.2 this = some (.inr (0, f30)) ∧ f30[3]? = some (.ref a31) ∧ ∃ f32, h5.2 a31 = some (.inr (3, f32)) ∧ 0 < f32.length ∧ ∀ h33, h33 = xu h5 a31 (.inr (3, f32.set 0 (.int (4)))) → ∃ (f34 : List Value) (a35 : Nat), h33.2 p2 = some (.inr (3, f34)) ∧ f34[9]? = some (.ref a35) ∧ ∃ (f36 : List Value) (x37 : Int32), h33.2 p2 = some (.inr (3, f36)) ∧ f36[5]? = some (.int x37) ∧ (∃ f39, h33.2 p1 = some (.inr (4, f39))) ∧ w_No_take (fun v h38 => v = none ∧ Q none h38) p1 a35 ((1 : Int32) <<< (x37 &&& 31)) h33) ∧ (x8 = 4 → Q none h5) ∧ (x8 = 5 → (∃ f43, h5.2 this = some (.inr (0, f43))) ∧ w_Q_vote (fun v h42 => v = none ∧ Q none h42) this p1 p2 h5) ∧ (x8 = 6 → Q none h5) ∧ (x8 = 7 → (∃ f47, h5.2 this = some (.inr (0, f47))) ∧ w_Q_vote (fun v h46 => v = none ∧ Q none h46) this p1 p2 h5) ∧ (x8 = 8 → Q none h5) ∧ (x8 = 9 → Q none h5) ∧ (x8 = 10 → ∃ (f51 : List Value) (a52 : Nat), h5.2 this = some (.inr (0, f51)) ∧ f51[3]? = some (.ref a52) ∧ ∃ f53, h5.2 a52 = some (.inr (3, f53)) ∧ 0 < f53.length ∧ ∀ h54, h54 = xu h5 a52 (.inr (3, f53.set 0 (.int (11)))) → w_Q_serve_171 Q (this) (p1) (p2) h54) ∧ (x8 = 11 → Q none h5) ∧ (x8 = 12 → ∃ (f57 : List Value) (a58 : Nat), h5.2 this = some (.inr (0, f57)) ∧ f57[3]? = some (.ref a58) ∧ ∃ f59, h5.2 a58 = some (.inr (3, f59)) ∧ 0 < f59.length ∧ ∀ h60, h60 = xu h5 a58 (.inr (3, f59.set 0 (.int (13)))) → ∃ (f61 : List Value) (a62 : Nat), h60.2 p2 = some (.inr (3, f61)) ∧ f61[9]? = some (.ref a62) ∧ (∃ f64, h60.2 p1 = some (.inr (4, f64))) ∧ w_No_take (fun v h63 => v = none ∧ Q none h63) p1 a62 15 h60) ∧ (x8 = 13 → Q none h5) ∧ (x8 = 14 → ∃ (f67 : List Value) (a68 : Nat), h5.2 p2 = some (.inr (3, f67)) ∧ f67[9]? = some (.ref a68) ∧ (∃ f70, h5.2 p1 = some (.inr (4, f70))) ∧ w_No_take (fun v h69 => v = none ∧ Q none h69) p1 a68 15 h5) ∧ (x8 = 15 → ∃ (f72 : List Value) (a73 : Nat), h5.2 this = some (.inr (0, f72)) ∧ f72[3]? = some (.ref a73) ∧ ∃ (f74 : List Value) (a75 : Nat), h5.2 p1 = some (.inr (4, f74)) ∧ f74[8]? = some (.ref a75) ∧ (∃ f77, h5.2 a75 = some (.inr (5, f77))) ∧ w_Se_having (fun v h76 => ∃ (x78 : Int32), v = some (.int x78) ∧ ((x78 = 0 → w_Q_serve_244 Q (this) (p1) (p2) (0) (a73) h76) ∧ (¬ x78 = 0 → w_Q_serve_244 Q (this) (p1) (p2) (14) (a73) h76))) a75 1 h5) ∧ (¬ x8 = 1 → ¬ x8 = 2 → ¬ x8 = 3 → ¬ x8 = 4 → ¬ x8 = 5 → ¬ x8 = 6 → ¬ x8 = 7 → ¬ x8 = 8 → ¬ x8 = 9 → ¬ x8 = 10 → ¬ x8 = 11 → ¬ x8 = 12 → ¬ x8 = 13 → ¬ x8 = 14 → ¬ x8 = 15 → Q none h5))) a2 p2 x4 h
set_option maxRecDepth 100000 in
set_option maxHeartbeats 4000000 in
theorem x_Q_serve {sc : List Int32} {Q : Option Value → xH → Prop} {this : Nat} {p1 : Nat} {p2 : Nat} {h : xH} (hw : w_Q_serve Q this p1 p2 h) : xMet sc m_Q_serve 3 0 0 [.ref (this), .ref (p1), .ref (p2)] h Q := by
  unfold w_Q_serve at hw
  refine xMet.of2 cw_Q_serve rfl rfl ?_
  show xW sc m_Q_serve 3 0 0 0 [some (.ref (this)), some (.ref (p1)), some (.ref (p2))] [] h Q
  refine xw_aload_n d_Q_serve_0 rfl rfl ?_
  obtain ⟨f1, a2, hA, hB, hw⟩ := hw
  refine xw_getr fr_Q_29 d_Q_serve_1 hA hB ?_
  refine xw_aload_n d_Q_serve_4 rfl rfl ?_
  refine xw_aload_n d_Q_serve_5 rfl rfl ?_
  obtain ⟨f3, x4, hA, hB, hw⟩ := hw
  refine xw_getr fr_Q_316 d_Q_serve_6 hA hB ?_
  obtain ⟨⟨f6, hA⟩, hw⟩ := hw
  refine xc_V2n lk_Q_371 in_Me_openAnswer d_Q_serve_9 (x_Me_openAnswer hw) rfl hA rfl ?_
  intro h5 hw
  refine xw_aload_n d_Q_serve_12 rfl rfl ?_
  obtain ⟨f7, x8, hA, hB, hw⟩ := hw
  refine xw_getr fr_Q_175 d_Q_serve_13 hA hB ?_
  by_cases c28 : x8 = 1
  · have hw := hw.1 c28
    rw [c28]
    refine xw_tableIn (tgt := 92) (off := 76) d_Q_serve_16 (by decide) (by decide) (by decide +kernel) (by decide) ?_
    refine xw_aload_n d_Q_serve_92 rfl rfl ?_
    obtain ⟨f10, a11, hA, hB, hw⟩ := hw
    refine xw_getr fr_Q_29 d_Q_serve_93 hA hB ?_
    refine xw_iconst (v := 2) d_Q_serve_96 (by decide) ?_
    obtain ⟨f12, hA, hB, hw⟩ := hw
    refine xw_puti fs_Q_175 d_Q_serve_97 hA hB ?_
    generalize hh : xu h5 a11 (.inr (3, f12.set 0 (.int (2)))) = h13
    have hw := hw h13 hh.symm
    refine xw_aload_n d_Q_serve_100 rfl rfl ?_
    obtain ⟨f14, a15, hA, hB, hw⟩ := hw
    refine xw_getr fr_Q_29 d_Q_serve_101 hA hB ?_
    refine xw_aload_n d_Q_serve_104 rfl rfl ?_
    obtain ⟨f16, x17, hA, hB, hw⟩ := hw
    refine xw_getr fr_Q_275 d_Q_serve_105 hA hB ?_
    obtain ⟨f18, hA, hB, hw⟩ := hw
    refine xw_puti fs_Q_275 d_Q_serve_108 hA hB ?_
    generalize hh : xu h13 a15 (.inr (3, f18.set 5 (.int (x17)))) = h19
    have hw := hw h19 hh.symm
    refine xw_aload_n d_Q_serve_111 rfl rfl ?_
    obtain ⟨f20, a21, hA, hB, hw⟩ := hw
    refine xw_getr fr_Q_29 d_Q_serve_112 hA hB ?_
    obtain ⟨f22, a23, hA, hB, hw⟩ := hw
    refine xw_getr fr_Q_142 d_Q_serve_115 hA hB ?_
    refine xw_aload_n d_Q_serve_118 rfl rfl ?_
    obtain ⟨f24, a25, hA, hB, hw⟩ := hw
    refine xw_getr fr_Q_146 d_Q_serve_119 hA hB ?_
    obtain ⟨⟨f27, hA⟩, hw⟩ := hw
    refine xc_V1n lk_Q_149 in_Co_copyFrom d_Q_serve_122 (x_Co_copyFrom hw) rfl hA rfl ?_
    intro h26 hw
    refine xw_goto (tgt := 264) d_Q_serve_125 (by decide) ?_
    exact xw_return rfl d_Q_serve_264 hw
  by_cases c29 : x8 = 2
  · have hw := hw.2.1 c29
    rw [c29]
    refine xw_tableIn (tgt := 264) (off := 248) d_Q_serve_16 (by decide) (by decide) (by decide +kernel) (by decide) ?_
    exact xw_return rfl d_Q_serve_264 hw
  by_cases c40 : x8 = 3
  · have hw := hw.2.2.1 c40
    rw [c40]
    refine xw_tableIn (tgt := 128) (off := 112) d_Q_serve_16 (by decide) (by decide) (by decide +kernel) (by decide) ?_
    refine xw_aload_n d_Q_serve_128 rfl rfl ?_
    obtain ⟨f30, a31, hA, hB, hw⟩ := hw
    refine xw_getr fr_Q_29 d_Q_serve_129 hA hB ?_
    refine xw_iconst (v := 4) d_Q_serve_132 (by decide) ?_
    obtain ⟨f32, hA, hB, hw⟩ := hw
    refine xw_puti fs_Q_175 d_Q_serve_133 hA hB ?_
    generalize hh : xu h5 a31 (.inr (3, f32.set 0 (.int (4)))) = h33
    have hw := hw h33 hh.symm
    refine xw_aload_n d_Q_serve_136 rfl rfl ?_
    refine xw_aload_n d_Q_serve_137 rfl rfl ?_
    obtain ⟨f34, a35, hA, hB, hw⟩ := hw
    refine xw_getr fr_Q_142 d_Q_serve_138 hA hB ?_
    refine xw_iconst (v := 1) d_Q_serve_141 (by decide) ?_
    refine xw_aload_n d_Q_serve_142 rfl rfl ?_
    obtain ⟨f36, x37, hA, hB, hw⟩ := hw
    refine xw_getr fr_Q_275 d_Q_serve_143 hA hB ?_
    refine xw_ishl d_Q_serve_146 ?_
    obtain ⟨⟨f39, hA⟩, hw⟩ := hw
    refine xc_V2n lk_Q_325 in_No_take d_Q_serve_147 (x_No_take hw) rfl hA rfl ?_
    intro h38 hw
    refine xw_goto (tgt := 264) d_Q_serve_150 (by decide) ?_
    exact xw_return rfl d_Q_serve_264 hw
  by_cases c41 : x8 = 4
  · have hw := hw.2.2.2.1 c41
    rw [c41]
    refine xw_tableIn (tgt := 264) (off := 248) d_Q_serve_16 (by decide) (by decide) (by decide +kernel) (by decide) ?_
    exact xw_return rfl d_Q_serve_264 hw
  by_cases c44 : x8 = 5
  · have hw := hw.2.2.2.2.1 c44
    rw [c44]
    refine xw_tableIn (tgt := 153) (off := 137) d_Q_serve_16 (by decide) (by decide) (by decide +kernel) (by decide) ?_
    refine xw_aload_n d_Q_serve_153 rfl rfl ?_
    refine xw_aload_n d_Q_serve_154 rfl rfl ?_
    refine xw_aload_n d_Q_serve_155 rfl rfl ?_
    obtain ⟨⟨f43, hA⟩, hw⟩ := hw
    refine xc_V2n lk_Q_375 in_Q_vote d_Q_serve_156 (x_Q_vote hw) rfl hA rfl ?_
    intro h42 hw
    refine xw_goto (tgt := 264) d_Q_serve_159 (by decide) ?_
    exact xw_return rfl d_Q_serve_264 hw
  by_cases c45 : x8 = 6
  · have hw := hw.2.2.2.2.2.1 c45
    rw [c45]
    refine xw_tableIn (tgt := 264) (off := 248) d_Q_serve_16 (by decide) (by decide) (by decide +kernel) (by decide) ?_
    exact xw_return rfl d_Q_serve_264 hw
  by_cases c48 : x8 = 7
  · have hw := hw.2.2.2.2.2.2.1 c48
    rw [c48]
    refine xw_tableIn (tgt := 153) (off := 137) d_Q_serve_16 (by decide) (by decide) (by decide +kernel) (by decide) ?_
    refine xw_aload_n d_Q_serve_153 rfl rfl ?_
    refine xw_aload_n d_Q_serve_154 rfl rfl ?_
    refine xw_aload_n d_Q_serve_155 rfl rfl ?_
    obtain ⟨⟨f47, hA⟩, hw⟩ := hw
    refine xc_V2n lk_Q_375 in_Q_vote d_Q_serve_156 (x_Q_vote hw) rfl hA rfl ?_
    intro h46 hw
    refine xw_goto (tgt := 264) d_Q_serve_159 (by decide) ?_
    exact xw_return rfl d_Q_serve_264 hw
  by_cases c49 : x8 = 8
  · have hw := hw.2.2.2.2.2.2.2.1 c49
    rw [c49]
    refine xw_tableIn (tgt := 264) (off := 248) d_Q_serve_16 (by decide) (by decide) (by decide +kernel) (by decide) ?_
    exact xw_return rfl d_Q_serve_264 hw
  by_cases c50 : x8 = 9
  · have hw := hw.2.2.2.2.2.2.2.2.1 c50
    rw [c50]
    refine xw_tableIn (tgt := 264) (off := 248) d_Q_serve_16 (by decide) (by decide) (by decide +kernel) (by decide) ?_
    exact xw_return rfl d_Q_serve_264 hw
  by_cases c55 : x8 = 10
  · have hw := hw.2.2.2.2.2.2.2.2.2.1 c55
    rw [c55]
    refine xw_tableIn (tgt := 162) (off := 146) d_Q_serve_16 (by decide) (by decide) (by decide +kernel) (by decide) ?_
    refine xw_aload_n d_Q_serve_162 rfl rfl ?_
    obtain ⟨f51, a52, hA, hB, hw⟩ := hw
    refine xw_getr fr_Q_29 d_Q_serve_163 hA hB ?_
    refine xw_bipush (v := 11) d_Q_serve_166 (by decide) ?_
    obtain ⟨f53, hA, hB, hw⟩ := hw
    refine xw_puti fs_Q_175 d_Q_serve_168 hA hB ?_
    generalize hh : xu h5 a52 (.inr (3, f53.set 0 (.int (11)))) = h54
    have hw := hw h54 hh.symm
    exact p_Q_serve_171  (this) (p1) (p2) h54 hw
  by_cases c56 : x8 = 11
  · have hw := hw.2.2.2.2.2.2.2.2.2.2.1 c56
    rw [c56]
    refine xw_tableIn (tgt := 264) (off := 248) d_Q_serve_16 (by decide) (by decide) (by decide +kernel) (by decide) ?_
    exact xw_return rfl d_Q_serve_264 hw
  by_cases c65 : x8 = 12
  · have hw := hw.2.2.2.2.2.2.2.2.2.2.2.1 c65
    rw [c65]
    refine xw_tableIn (tgt := 188) (off := 172) d_Q_serve_16 (by decide) (by decide) (by decide +kernel) (by decide) ?_
    refine xw_aload_n d_Q_serve_188 rfl rfl ?_
    obtain ⟨f57, a58, hA, hB, hw⟩ := hw
    refine xw_getr fr_Q_29 d_Q_serve_189 hA hB ?_
    refine xw_bipush (v := 13) d_Q_serve_192 (by decide) ?_
    obtain ⟨f59, hA, hB, hw⟩ := hw
    refine xw_puti fs_Q_175 d_Q_serve_194 hA hB ?_
    generalize hh : xu h5 a58 (.inr (3, f59.set 0 (.int (13)))) = h60
    have hw := hw h60 hh.symm
    refine xw_aload_n d_Q_serve_197 rfl rfl ?_
    refine xw_aload_n d_Q_serve_198 rfl rfl ?_
    obtain ⟨f61, a62, hA, hB, hw⟩ := hw
    refine xw_getr fr_Q_142 d_Q_serve_199 hA hB ?_
    refine xw_bipush (v := 15) d_Q_serve_202 (by decide) ?_
    obtain ⟨⟨f64, hA⟩, hw⟩ := hw
    refine xc_V2n lk_Q_325 in_No_take d_Q_serve_204 (x_No_take hw) rfl hA rfl ?_
    intro h63 hw
    refine xw_goto (tgt := 264) d_Q_serve_207 (by decide) ?_
    exact xw_return rfl d_Q_serve_264 hw
  by_cases c66 : x8 = 13
  · have hw := hw.2.2.2.2.2.2.2.2.2.2.2.2.1 c66
    rw [c66]
    refine xw_tableIn (tgt := 264) (off := 248) d_Q_serve_16 (by decide) (by decide) (by decide +kernel) (by decide) ?_
    exact xw_return rfl d_Q_serve_264 hw
  by_cases c71 : x8 = 14
  · have hw := hw.2.2.2.2.2.2.2.2.2.2.2.2.2.1 c71
    rw [c71]
    refine xw_tableIn (tgt := 210) (off := 194) d_Q_serve_16 (by decide) (by decide) (by decide +kernel) (by decide) ?_
    refine xw_aload_n d_Q_serve_210 rfl rfl ?_
    refine xw_aload_n d_Q_serve_211 rfl rfl ?_
    obtain ⟨f67, a68, hA, hB, hw⟩ := hw
    refine xw_getr fr_Q_142 d_Q_serve_212 hA hB ?_
    refine xw_bipush (v := 15) d_Q_serve_215 (by decide) ?_
    obtain ⟨⟨f70, hA⟩, hw⟩ := hw
    refine xc_V2n lk_Q_325 in_No_take d_Q_serve_217 (x_No_take hw) rfl hA rfl ?_
    intro h69 hw
    refine xw_goto (tgt := 264) d_Q_serve_220 (by decide) ?_
    exact xw_return rfl d_Q_serve_264 hw
  by_cases c80 : x8 = 15
  · have hw := hw.2.2.2.2.2.2.2.2.2.2.2.2.2.2.1 c80
    rw [c80]
    refine xw_tableIn (tgt := 223) (off := 207) d_Q_serve_16 (by decide) (by decide) (by decide +kernel) (by decide) ?_
    refine xw_aload_n d_Q_serve_223 rfl rfl ?_
    obtain ⟨f72, a73, hA, hB, hw⟩ := hw
    refine xw_getr fr_Q_29 d_Q_serve_224 hA hB ?_
    refine xw_aload_n d_Q_serve_227 rfl rfl ?_
    obtain ⟨f74, a75, hA, hB, hw⟩ := hw
    refine xw_getr fr_Q_55 d_Q_serve_228 hA hB ?_
    refine xw_iconst (v := 1) d_Q_serve_231 (by decide) ?_
    obtain ⟨⟨f77, hA⟩, hw⟩ := hw
    refine xc_V1i lk_Q_101 in_Se_having d_Q_serve_232 (x_Se_having hw) rfl hA rfl ?_
    intro x78 h76 hw
    refine xw_if_eq (tgt := 243) d_Q_serve_235 (by decide) (fun c79 => ?_) (fun c79 => ?_)
    · have hw := hw.1 c79
      refine xw_iconst (v := 0) d_Q_serve_243 (by decide) ?_
      exact p_Q_serve_244  (this) (p1) (p2) (0) (a73) h76 hw
    · have hw := hw.2 c79
      refine xw_bipush (v := 14) d_Q_serve_238 (by decide) ?_
      refine xw_goto (tgt := 244) d_Q_serve_240 (by decide) ?_
      exact p_Q_serve_244  (this) (p1) (p2) (14) (a73) h76 hw
  have hw := hw.2.2.2.2.2.2.2.2.2.2.2.2.2.2.2 c28 c29 c40 c41 c44 c45 c48 c49 c50 c55 c56 c65 c66 c71 c80
  have ec28 := lv_neT c28 (a := 1) (by decide)
  have ec29 := lv_neT c29 (a := 2) (by decide)
  have ec40 := lv_neT c40 (a := 3) (by decide)
  have ec41 := lv_neT c41 (a := 4) (by decide)
  have ec44 := lv_neT c44 (a := 5) (by decide)
  have ec45 := lv_neT c45 (a := 6) (by decide)
  have ec48 := lv_neT c48 (a := 7) (by decide)
  have ec49 := lv_neT c49 (a := 8) (by decide)
  have ec50 := lv_neT c50 (a := 9) (by decide)
  have ec55 := lv_neT c55 (a := 10) (by decide)
  have ec56 := lv_neT c56 (a := 11) (by decide)
  have ec65 := lv_neT c65 (a := 12) (by decide)
  have ec66 := lv_neT c66 (a := 13) (by decide)
  have ec71 := lv_neT c71 (a := 14) (by decide)
  have ec80 := lv_neT c80 (a := 15) (by decide)
  refine xw_tableOut (tgt := 264) d_Q_serve_16 (by omega) (by decide) ?_
  exact xw_return rfl d_Q_serve_264 hw
set_option maxRecDepth 100000 in
def w_Q_ask_125 (Q : Option Value → xH → Prop) (L25 : Nat → Nat → Nat → Int32 → Int32 → xH → Prop) (l0 : Nat) (l1 : Nat) (l2 : Nat) (l3 : Int32) (l4 : Int32) (h : xH) : Prop := L25 (l0) (l1) (l2) (l3) (l4 + 1) h
set_option maxRecDepth 100000 in
set_option maxHeartbeats 4000000 in
theorem p_Q_ask_125 {sc : List Int32} {Q : Option Value → xH → Prop} {L25 : Nat → Nat → Nat → Int32 → Int32 → xH → Prop} (hL25 : ∀ l0 l1 l2 l3 l4 h, L25 l0 l1 l2 l3 l4 h → xW sc m_Q_ask 4 0 0 25 [some (.ref (l0)), some (.ref (l1)), some (.ref (l2)), some (.int (l3)), some (.int (l4))] [] h Q) (l0 : Nat) (l1 : Nat) (l2 : Nat) (l3 : Int32) (l4 : Int32) (h : xH) (hw : w_Q_ask_125 Q L25 l0 l1 l2 l3 l4 h) : xW sc m_Q_ask 4 0 0 125 [some (.ref (l0)), some (.ref (l1)), some (.ref (l2)), some (.int (l3)), some (.int (l4))] [] h Q := by
  unfold w_Q_ask_125 at hw
  refine xs_iinc (v := l4 + 1) (lv' := [some (.ref (l0)), some (.ref (l1)), some (.ref (l2)), some (.int (l3)), some (.int (l4 + 1))]) d_Q_ask_125 rfl rfl rfl ?_
  refine xw_goto (tgt := 25) d_Q_ask_128 (by decide) ?_
  exact hL25 (l0) (l1) (l2) (l3) (l4 + 1) h hw
set_option maxRecDepth 100000 in
def w_Q_ask_25 (Q : Option Value → xH → Prop) : Nat → Nat → Nat → Nat → Int32 → Int32 → xH → Prop
  | 0, _, _, _, _, _, _ => False
  | n + 1, l0, l1, l2, l3, l4, h => ((8 ≤ l4 → Q none h) ∧ (¬ 8 ≤ l4 → (∃ f2, h.2 l1 = some (.inr (4, f2))) ∧ w_No_isUp (fun v h1 => ∃ (x3 : Int32), v = some (.int x3) ∧ ((x3 = 0 → Q none h1) ∧ (¬ x3 = 0 → w_Q_isIn (fun v h4 => ∃ (x5 : Int32), v = some (.int x5) ∧ ((x5 = 0 → w_Q_ask_125 Q (fun y0 y1 y2 y3 y4 yh => w_Q_ask_25 Q n y0 y1 y2 y3 y4 yh) (l0) (l1) (l2) (l3) (l4) h4) ∧ (¬ x5 = 0 → ∃ (f6 : List Value) (x7 : Int32), h4.2 l2 = some (.inr (6, f6)) ∧ f6[5]? = some (.int x7) ∧ w_Q_isIn (fun v h8 => ∃ (x9 : Int32), v = some (.int x9) ∧ ((x9 = 0 → ∃ (f10 : List Value) (x11 : Int32), h8.2 l2 = some (.inr (6, f10)) ∧ f10[5]? = some (.int x11) ∧ ∃ f12, h8.2 l2 = some (.inr (6, f12)) ∧ 5 < f12.length ∧ ∀ h13, h13 = xu h8 l2 (.inr (6, f12.set 5 (.int (x11 ||| ((1 : Int32) <<< (l4 &&& 31)))))) → ∃ (f14 : List Value) (x15 : Int32), h13.2 l1 = some (.inr (4, f14)) ∧ f14[0]? = some (.int x15) ∧ ((¬ l4 = x15 → ∃ (f16 : List Value) (a17 : Nat), h13.2 l0 = some (.inr (0, f16)) ∧ f16[2]? = some (.ref a17) ∧ ∃ f18, h13.2 a17 = some (.inr (3, f18)) ∧ 2 < f18.length ∧ ∀ h19, h19 = xu h13 a17 (.inr (3, f18.set 2 (.int (l4)))) → ∃ (f20 : List Value) (a21 : Nat), h19.2 l0 = some (.inr (0, f20)) ∧ f20[1]? = some (.ref a21) ∧ ∃ (f22 : List Value) (a23 : Nat), h19.2 l0 = some (.inr (0, f22)) ∧ f22[2]? = some (.ref a23) ∧ (∃ f25, h19.2 a21 = some (.inr (2, f25))) ∧ w_Ma_send (fun v h24 => v = none ∧ w_Q_ask_125 Q (fun y0 y1 y2 y3 y4 yh => w_Q_ask_25 Q n y0 y1 y2 y3 y4 yh) (l0) (l1) (l2) (l3) (l4) h24) a21 a23 h19) ∧ (l4 = x15 → ∃ (f26 : List Value) (a27 : Nat), h13.2 l0 = some (.inr (0, f26)) ∧ f26[2]? = some (.ref a27) ∧ (∃ f29, h13.2 l0 = some (.inr (0, f29))) ∧ w_Q_serve (fun v h28 => v = none ∧ ∃ (f30 : List Value) (a31 : Nat), h28.2 l0 = some (.inr (0, f30)) ∧ f30[3]? = some (.ref a31) ∧ w_Q_hear (fun v h32 => v = none ∧ w_Q_ask_125 Q (fun y0 y1 y2 y3 y4 yh => w_Q_ask_25 Q n y0 y1 y2 y3 y4 yh) (l0) (l1) (l2) (l3) (l4) h32) l1 a31 h28) l0 l1 a27 h13))) ∧ (¬ x9 = 0 → w_Q_ask_125 Q (fun y0 y1 y2 y3 y4 yh => w_Q_ask_25 Q n y0 y1 y2 y3 y4 yh) (l0) (l1) (l2) (l3) (l4) h8))) x7 l4 h4))) l3 l4 h1))) l1 h))
set_option maxRecDepth 100000 in
set_option maxHeartbeats 4000000 in
theorem p_Q_ask_25 {sc : List Int32} {Q : Option Value → xH → Prop} : ∀ (n : Nat) (l0 : Nat) (l1 : Nat) (l2 : Nat) (l3 : Int32) (l4 : Int32) (h : xH), w_Q_ask_25 Q n l0 l1 l2 l3 l4 h → xW sc m_Q_ask 4 0 0 25 [some (.ref (l0)), some (.ref (l1)), some (.ref (l2)), some (.int (l3)), some (.int (l4))] [] h Q := by
  intro n
  induction n with
  | zero => intro l0 l1 l2 l3 l4 h hw; exact False.elim hw
  | succ n ih =>
    intro l0 l1 l2 l3 l4 h hw
    rw [w_Q_ask_25] at hw
    refine xw_iload d_Q_ask_25 rfl ?_
    refine xw_bipush (v := 8) d_Q_ask_27 (by decide) ?_
    refine xw_icmp_ge (tgt := 131) d_Q_ask_29 (by decide) (fun c37 => ?_) (fun c37 => ?_)
    · have hw := hw.1 c37
      exact xw_return rfl d_Q_ask_131 hw
    · have hw := hw.2 c37
      refine xw_aload_n d_Q_ask_32 rfl rfl ?_
      obtain ⟨⟨f2, hA⟩, hw⟩ := hw
      refine xc_V0i lk_Q_129 in_No_isUp d_Q_ask_33 (x_No_isUp hw) rfl hA rfl ?_
      intro x3 h1 hw
      refine xw_if_eq (tgt := 131) d_Q_ask_36 (by decide) (fun c36 => ?_) (fun c36 => ?_)
      · have hw := hw.1 c36
        exact xw_return rfl d_Q_ask_131 hw
      · have hw := hw.2 c36
        refine xw_iload_n d_Q_ask_39 rfl rfl ?_
        refine xw_iload d_Q_ask_40 rfl ?_
        refine xc_S2i lk_Q_298 st_Q_isIn d_Q_ask_42 (x_Q_isIn hw) rfl rfl ?_
        intro x5 h4 hw
        refine xw_if_eq (tgt := 125) d_Q_ask_45 (by decide) (fun c35 => ?_) (fun c35 => ?_)
        · have hw := hw.1 c35
          exact p_Q_ask_125 ih (l0) (l1) (l2) (l3) (l4) h4 hw
        · have hw := hw.2 c35
          refine xw_aload_n d_Q_ask_48 rfl rfl ?_
          obtain ⟨f6, x7, hA, hB, hw⟩ := hw
          refine xw_getr fr_Q_132 d_Q_ask_49 hA hB ?_
          refine xw_iload d_Q_ask_52 rfl ?_
          refine xc_S2i lk_Q_298 st_Q_isIn d_Q_ask_54 (x_Q_isIn hw) rfl rfl ?_
          intro x9 h8 hw
          refine xw_if_eq (tgt := 63) d_Q_ask_57 (by decide) (fun c34 => ?_) (fun c34 => ?_)
          · have hw := hw.1 c34
            refine xw_aload_n d_Q_ask_63 rfl rfl ?_
            refine xw_dup d_Q_ask_64 rfl ?_
            obtain ⟨f10, x11, hA, hB, hw⟩ := hw
            refine xw_getr fr_Q_132 d_Q_ask_65 hA hB ?_
            refine xw_iconst (v := 1) d_Q_ask_68 (by decide) ?_
            refine xw_iload d_Q_ask_69 rfl ?_
            refine xw_ishl d_Q_ask_71 ?_
            refine xw_ior d_Q_ask_72 ?_
            obtain ⟨f12, hA, hB, hw⟩ := hw
            refine xw_puti fs_Q_132 d_Q_ask_73 hA hB ?_
            generalize hh : xu h8 l2 (.inr (6, f12.set 5 (.int (x11 ||| ((1 : Int32) <<< (l4 &&& 31)))))) = h13
            have hw := hw h13 hh.symm
            refine xw_iload d_Q_ask_76 rfl ?_
            refine xw_aload_n d_Q_ask_78 rfl rfl ?_
            obtain ⟨f14, x15, hA, hB, hw⟩ := hw
            refine xw_getr fr_Q_316 d_Q_ask_79 hA hB ?_
            refine xw_icmp_ne (tgt := 105) d_Q_ask_82 (by decide) (fun c33 => ?_) (fun c33 => ?_)
            · have hw := hw.1 c33
              refine xw_aload_n d_Q_ask_105 rfl rfl ?_
              obtain ⟨f16, a17, hA, hB, hw⟩ := hw
              refine xw_getr fr_Q_25 d_Q_ask_106 hA hB ?_
              refine xw_iload d_Q_ask_109 rfl ?_
              obtain ⟨f18, hA, hB, hw⟩ := hw
              refine xw_puti fs_Q_163 d_Q_ask_111 hA hB ?_
              generalize hh : xu h13 a17 (.inr (3, f18.set 2 (.int (l4)))) = h19
              have hw := hw h19 hh.symm
              refine xw_aload_n d_Q_ask_114 rfl rfl ?_
              obtain ⟨f20, a21, hA, hB, hw⟩ := hw
              refine xw_getr fr_Q_18 d_Q_ask_115 hA hB ?_
              refine xw_aload_n d_Q_ask_118 rfl rfl ?_
              obtain ⟨f22, a23, hA, hB, hw⟩ := hw
              refine xw_getr fr_Q_25 d_Q_ask_119 hA hB ?_
              obtain ⟨⟨f25, hA⟩, hw⟩ := hw
              refine xc_V1n lk_Q_155 in_Ma_send d_Q_ask_122 (x_Ma_send hw) rfl hA rfl ?_
              intro h24 hw
              exact p_Q_ask_125 ih (l0) (l1) (l2) (l3) (l4) h24 hw
            · have hw := hw.2 c33
              refine xw_aload_n d_Q_ask_85 rfl rfl ?_
              refine xw_aload_n d_Q_ask_86 rfl rfl ?_
              refine xw_aload_n d_Q_ask_87 rfl rfl ?_
              obtain ⟨f26, a27, hA, hB, hw⟩ := hw
              refine xw_getr fr_Q_25 d_Q_ask_88 hA hB ?_
              obtain ⟨⟨f29, hA⟩, hw⟩ := hw
              refine xc_V2n lk_Q_183 in_Q_serve d_Q_ask_91 (x_Q_serve hw) rfl hA rfl ?_
              intro h28 hw
              refine xw_aload_n d_Q_ask_94 rfl rfl ?_
              refine xw_aload_n d_Q_ask_95 rfl rfl ?_
              obtain ⟨f30, a31, hA, hB, hw⟩ := hw
              refine xw_getr fr_Q_29 d_Q_ask_96 hA hB ?_
              refine xc_S2n lk_Q_179 st_Q_hear d_Q_ask_99 (x_Q_hear hw) rfl rfl ?_
              intro h32 hw
              refine xw_goto (tgt := 125) d_Q_ask_102 (by decide) ?_
              exact p_Q_ask_125 ih (l0) (l1) (l2) (l3) (l4) h32 hw
          · have hw := hw.2 c34
            refine xw_goto (tgt := 125) d_Q_ask_60 (by decide) ?_
            exact p_Q_ask_125 ih (l0) (l1) (l2) (l3) (l4) h8 hw
set_option maxRecDepth 100000 in
def w_Q_ask (Q : Option Value → xH → Prop) (this : Nat) (p1 : Nat) (h : xH) : Prop := ∃ (f1 : List Value) (a2 : Nat), h.2 p1 = some (.inr (4, f1)) ∧ f1[10]? = some (.ref a2) ∧ ∃ (f3 : List Value) (a4 : Nat), h.2 p1 = some (.inr (4, f3)) ∧ f3[8]? = some (.ref a4) ∧ w_Q_concerned (fun v h5 => ∃ (x6 : Int32), v = some (.int x6) ∧ (∃ f8, h5.2 a4 = some (.inr (5, f8))) ∧ w_Se_membersOfAll (fun v h7 => ∃ (x9 : Int32), v = some (.int x9) ∧ (∃ f11, h7.2 this = some (.inr (0, f11))) ∧ w_Q_draftRequest (fun v h10 => v = none ∧ ∃ n12, w_Q_ask_25 Q n12 (this) (p1) (a2) (x9) (0) h10) this p1 h7) a4 x6 h5) p1 h
set_option maxRecDepth 100000 in
set_option maxHeartbeats 4000000 in
theorem x_Q_ask {sc : List Int32} {Q : Option Value → xH → Prop} {this : Nat} {p1 : Nat} {h : xH} (hw : w_Q_ask Q this p1 h) : xMet sc m_Q_ask 4 0 0 [.ref (this), .ref (p1)] h Q := by
  unfold w_Q_ask at hw
  refine xMet.of2 cw_Q_ask rfl rfl ?_
  show xW sc m_Q_ask 4 0 0 0 [some (.ref (this)), some (.ref (p1)), none, none, none] [] h Q
  refine xw_aload_n d_Q_ask_0 rfl rfl ?_
  obtain ⟨f1, a2, hA, hB, hw⟩ := hw
  refine xw_getr fr_Q_84 d_Q_ask_1 hA hB ?_
  refine xs_astore_n (lv' := [some (.ref (this)), some (.ref (p1)), some (.ref (a2)), none, none]) d_Q_ask_4 rfl rfl rfl ?_
  refine xw_aload_n d_Q_ask_5 rfl rfl ?_
  obtain ⟨f3, a4, hA, hB, hw⟩ := hw
  refine xw_getr fr_Q_55 d_Q_ask_6 hA hB ?_
  refine xw_aload_n d_Q_ask_9 rfl rfl ?_
  refine xc_S1i lk_Q_329 st_Q_concerned d_Q_ask_10 (x_Q_concerned hw) rfl rfl ?_
  intro x6 h5 hw
  obtain ⟨⟨f8, hA⟩, hw⟩ := hw
  refine xc_V1i lk_Q_332 in_Se_membersOfAll d_Q_ask_13 (x_Se_membersOfAll hw) rfl hA rfl ?_
  intro x9 h7 hw
  refine xs_istore_n (lv' := [some (.ref (this)), some (.ref (p1)), some (.ref (a2)), some (.int (x9)), none]) d_Q_ask_16 rfl rfl rfl ?_
  refine xw_aload_n d_Q_ask_17 rfl rfl ?_
  refine xw_aload_n d_Q_ask_18 rfl rfl ?_
  obtain ⟨⟨f11, hA⟩, hw⟩ := hw
  refine xc_V1n lk_Q_335 in_Q_draftRequest d_Q_ask_19 (x_Q_draftRequest hw) rfl hA rfl ?_
  intro h10 hw
  refine xw_iconst (v := 0) d_Q_ask_22 (by decide) ?_
  refine xs_istore (lv' := [some (.ref (this)), some (.ref (p1)), some (.ref (a2)), some (.int (x9)), some (.int (0))]) d_Q_ask_23 rfl rfl ?_
  obtain ⟨n12, hw⟩ := hw
  exact p_Q_ask_25  n12 (this) (p1) (a2) (x9) (0) h10 hw
set_option maxRecDepth 100000 in
def w_Q_beginFirst_68 (Q : Option Value → xH → Prop) (l0 : Nat) (l1 : Nat) (l2 : Nat) (h : xH) : Prop := (∃ f2, h.2 l0 = some (.inr (0, f2))) ∧ w_Q_ask (fun v h1 => v = none ∧ Q none h1) l0 l1 h
set_option maxRecDepth 100000 in
set_option maxHeartbeats 4000000 in
theorem p_Q_beginFirst_68 {sc : List Int32} {Q : Option Value → xH → Prop} (l0 : Nat) (l1 : Nat) (l2 : Nat) (h : xH) (hw : w_Q_beginFirst_68 Q l0 l1 l2 h) : xW sc m_Q_beginFirst 5 0 0 68 [some (.ref (l0)), some (.ref (l1)), some (.ref (l2))] [] h Q := by
  unfold w_Q_beginFirst_68 at hw
  refine xw_aload_n d_Q_beginFirst_68 rfl rfl ?_
  refine xw_aload_n d_Q_beginFirst_69 rfl rfl ?_
  obtain ⟨⟨f2, hA⟩, hw⟩ := hw
  refine xc_V1n lk_Q_319 in_Q_ask d_Q_beginFirst_70 (x_Q_ask hw) rfl hA rfl ?_
  intro h1 hw
  exact xw_return rfl d_Q_beginFirst_73 hw
set_option maxRecDepth 100000 in
def w_Q_beginFirst (Q : Option Value → xH → Prop) (this : Nat) (p1 : Nat) (h : xH) : Prop := ∃ (f1 : List Value) (a2 : Nat), h.2 p1 = some (.inr (4, f1)) ∧ f1[10]? = some (.ref a2) ∧ (∃ f4, h.2 p1 = some (.inr (4, f4))) ∧ w_No_openPhase (fun v h3 => v = none ∧ ∃ (f5 : List Value) (a6 : Nat), h3.2 a2 = some (.inr (6, f5)) ∧ f5[13]? = some (.ref a6) ∧ ∃ (f7 : List Value) (a8 : Nat), h3.2 p1 = some (.inr (4, f7)) ∧ f7[7]? = some (.ref a8) ∧ (∃ f10, h3.2 a6 = some (.inr (1, f10))) ∧ w_Co_copyFrom (fun v h9 => v = none ∧ ∃ (f11 : List Value) (x12 : Int32), h9.2 a2 = some (.inr (6, f11)) ∧ f11[1]? = some (.int x12) ∧ ((¬ x12 = 3 → w_Q_beginFirst_68 Q (this) (p1) (a2) h9) ∧ (x12 = 3 → ∃ f13, h9.2 a2 = some (.inr (6, f13)) ∧ 10 < f13.length ∧ ∀ h14, h14 = xu h9 a2 (.inr (6, f13.set 10 (.int (0)))) → ∃ (f15 : List Value) (x16 : Int32), h14.2 a2 = some (.inr (6, f15)) ∧ f15[9]? = some (.int x16) ∧ ∃ f17, h14.2 a2 = some (.inr (6, f17)) ∧ 11 < f17.length ∧ ∀ h18, h18 = xu h14 a2 (.inr (6, f17.set 11 (.int (x16)))) → ∃ (f19 : List Value) (x20 : Int32), h18.2 p1 = some (.inr (4, f19)) ∧ f19[3]? = some (.int x20) ∧ (∃ f22, h18.2 p1 = some (.inr (4, f22))) ∧ w_No_raiseRound (fun v h21 => v = none ∧ ∃ (f23 : List Value) (x24 : Int32), h21.2 p1 = some (.inr (4, f23)) ∧ f23[3]? = some (.int x24) ∧ ∃ (f25 : List Value) (x26 : Int32), h21.2 p1 = some (.inr (4, f25)) ∧ f25[0]? = some (.int x26) ∧ ∃ f27, h21.2 a2 = some (.inr (6, f27)) ∧ 7 < f27.length ∧ ∀ h28, h28 = xu h21 a2 (.inr (6, f27.set 7 (.int ((8 * x24) + x26)))) → w_Q_beginFirst_68 Q (this) (p1) (a2) h28) p1 (x20 + 1) h18))) a6 a8 h3) p1 1 h
set_option maxRecDepth 100000 in
set_option maxHeartbeats 4000000 in
theorem x_Q_beginFirst {sc : List Int32} {Q : Option Value → xH → Prop} {this : Nat} {p1 : Nat} {h : xH} (hw : w_Q_beginFirst Q this p1 h) : xMet sc m_Q_beginFirst 5 0 0 [.ref (this), .ref (p1)] h Q := by
  unfold w_Q_beginFirst at hw
  refine xMet.of2 cw_Q_beginFirst rfl rfl ?_
  show xW sc m_Q_beginFirst 5 0 0 0 [some (.ref (this)), some (.ref (p1)), none] [] h Q
  refine xw_aload_n d_Q_beginFirst_0 rfl rfl ?_
  obtain ⟨f1, a2, hA, hB, hw⟩ := hw
  refine xw_getr fr_Q_84 d_Q_beginFirst_1 hA hB ?_
  refine xs_astore_n (lv' := [some (.ref (this)), some (.ref (p1)), some (.ref (a2))]) d_Q_beginFirst_4 rfl rfl rfl ?_
  refine xw_aload_n d_Q_beginFirst_5 rfl rfl ?_
  refine xw_iconst (v := 1) d_Q_beginFirst_6 (by decide) ?_
  obtain ⟨⟨f4, hA⟩, hw⟩ := hw
  refine xc_V1n lk_Q_304 in_No_openPhase d_Q_beginFirst_7 (x_No_openPhase hw) rfl hA rfl ?_
  intro h3 hw
  refine xw_aload_n d_Q_beginFirst_10 rfl rfl ?_
  obtain ⟨f5, a6, hA, hB, hw⟩ := hw
  refine xw_getr fr_Q_264 d_Q_beginFirst_11 hA hB ?_
  refine xw_aload_n d_Q_beginFirst_14 rfl rfl ?_
  obtain ⟨f7, a8, hA, hB, hw⟩ := hw
  refine xw_getr fr_Q_146 d_Q_beginFirst_15 hA hB ?_
  obtain ⟨⟨f10, hA⟩, hw⟩ := hw
  refine xc_V1n lk_Q_149 in_Co_copyFrom d_Q_beginFirst_18 (x_Co_copyFrom hw) rfl hA rfl ?_
  intro h9 hw
  refine xw_aload_n d_Q_beginFirst_21 rfl rfl ?_
  obtain ⟨f11, x12, hA, hB, hw⟩ := hw
  refine xw_getr fr_Q_123 d_Q_beginFirst_22 hA hB ?_
  refine xw_iconst (v := 3) d_Q_beginFirst_25 (by decide) ?_
  refine xw_icmp_ne (tgt := 68) d_Q_beginFirst_26 (by decide) (fun c29 => ?_) (fun c29 => ?_)
  · have hw := hw.1 c29
    exact p_Q_beginFirst_68  (this) (p1) (a2) h9 hw
  · have hw := hw.2 c29
    refine xw_aload_n d_Q_beginFirst_29 rfl rfl ?_
    refine xw_iconst (v := 0) d_Q_beginFirst_30 (by decide) ?_
    obtain ⟨f13, hA, hB, hw⟩ := hw
    refine xw_puti fs_Q_307 d_Q_beginFirst_31 hA hB ?_
    generalize hh : xu h9 a2 (.inr (6, f13.set 10 (.int (0)))) = h14
    have hw := hw h14 hh.symm
    refine xw_aload_n d_Q_beginFirst_34 rfl rfl ?_
    refine xw_aload_n d_Q_beginFirst_35 rfl rfl ?_
    obtain ⟨f15, x16, hA, hB, hw⟩ := hw
    refine xw_getr fr_Q_108 d_Q_beginFirst_36 hA hB ?_
    obtain ⟨f17, hA, hB, hw⟩ := hw
    refine xw_puti fs_Q_310 d_Q_beginFirst_39 hA hB ?_
    generalize hh : xu h14 a2 (.inr (6, f17.set 11 (.int (x16)))) = h18
    have hw := hw h18 hh.symm
    refine xw_aload_n d_Q_beginFirst_42 rfl rfl ?_
    refine xw_aload_n d_Q_beginFirst_43 rfl rfl ?_
    obtain ⟨f19, x20, hA, hB, hw⟩ := hw
    refine xw_getr fr_Q_207 d_Q_beginFirst_44 hA hB ?_
    refine xw_iconst (v := 1) d_Q_beginFirst_47 (by decide) ?_
    refine xw_iadd d_Q_beginFirst_48 ?_
    obtain ⟨⟨f22, hA⟩, hw⟩ := hw
    refine xc_V1n lk_Q_313 in_No_raiseRound d_Q_beginFirst_49 (x_No_raiseRound hw) rfl hA rfl ?_
    intro h21 hw
    refine xw_aload_n d_Q_beginFirst_52 rfl rfl ?_
    refine xw_bipush (v := 8) d_Q_beginFirst_53 (by decide) ?_
    refine xw_aload_n d_Q_beginFirst_55 rfl rfl ?_
    obtain ⟨f23, x24, hA, hB, hw⟩ := hw
    refine xw_getr fr_Q_207 d_Q_beginFirst_56 hA hB ?_
    refine xw_imul d_Q_beginFirst_59 ?_
    refine xw_aload_n d_Q_beginFirst_60 rfl rfl ?_
    obtain ⟨f25, x26, hA, hB, hw⟩ := hw
    refine xw_getr fr_Q_316 d_Q_beginFirst_61 hA hB ?_
    refine xw_iadd d_Q_beginFirst_64 ?_
    obtain ⟨f27, hA, hB, hw⟩ := hw
    refine xw_puti fs_Q_267 d_Q_beginFirst_65 hA hB ?_
    generalize hh : xu h21 a2 (.inr (6, f27.set 7 (.int ((8 * x24) + x26)))) = h28
    have hw := hw h28 hh.symm
    exact p_Q_beginFirst_68  (this) (p1) (a2) h28 hw
set_option maxRecDepth 100000 in
def w_Q_beginSecond_71 (Q : Option Value → xH → Prop) (l0 : Nat) (l1 : Nat) (l2 : Nat) (h : xH) : Prop := (∃ f2, h.2 l0 = some (.inr (0, f2))) ∧ w_Q_ask (fun v h1 => v = none ∧ Q none h1) l0 l1 h
set_option maxRecDepth 100000 in
set_option maxHeartbeats 4000000 in
theorem p_Q_beginSecond_71 {sc : List Int32} {Q : Option Value → xH → Prop} (l0 : Nat) (l1 : Nat) (l2 : Nat) (h : xH) (hw : w_Q_beginSecond_71 Q l0 l1 l2 h) : xW sc m_Q_beginSecond 5 0 0 71 [some (.ref (l0)), some (.ref (l1)), some (.ref (l2))] [] h Q := by
  unfold w_Q_beginSecond_71 at hw
  refine xw_aload_n d_Q_beginSecond_71 rfl rfl ?_
  refine xw_aload_n d_Q_beginSecond_72 rfl rfl ?_
  obtain ⟨⟨f2, hA⟩, hw⟩ := hw
  refine xc_V1n lk_Q_319 in_Q_ask d_Q_beginSecond_73 (x_Q_ask hw) rfl hA rfl ?_
  intro h1 hw
  exact xw_return rfl d_Q_beginSecond_76 hw
set_option maxRecDepth 100000 in
def w_Q_beginSecond_50 (Q : Option Value → xH → Prop) (l0 : Nat) (l1 : Nat) (l2 : Nat) (h : xH) : Prop := (∃ f2, h.2 l2 = some (.inr (6, f2))) ∧ w_Ta_isOfObject (fun v h1 => ∃ (x3 : Int32), v = some (.int x3) ∧ ((x3 = 0 → w_Q_beginSecond_71 Q (l0) (l1) (l2) h1) ∧ (¬ x3 = 0 → ∃ (f4 : List Value) (a5 : Nat), h1.2 l2 = some (.inr (6, f4)) ∧ f4[13]? = some (.ref a5) ∧ ∃ (f6 : List Value) (x7 : Int32), h1.2 l2 = some (.inr (6, f6)) ∧ f6[3]? = some (.int x7) ∧ (∃ f9, h1.2 l1 = some (.inr (4, f9))) ∧ w_No_take (fun v h8 => v = none ∧ w_Q_beginSecond_71 Q (l0) (l1) (l2) h8) l1 a5 ((1 : Int32) <<< (x7 &&& 31)) h1))) l2 h
set_option maxRecDepth 100000 in
set_option maxHeartbeats 4000000 in
theorem p_Q_beginSecond_50 {sc : List Int32} {Q : Option Value → xH → Prop} (l0 : Nat) (l1 : Nat) (l2 : Nat) (h : xH) (hw : w_Q_beginSecond_50 Q l0 l1 l2 h) : xW sc m_Q_beginSecond 5 0 0 50 [some (.ref (l0)), some (.ref (l1)), some (.ref (l2))] [] h Q := by
  unfold w_Q_beginSecond_50 at hw
  refine xw_aload_n d_Q_beginSecond_50 rfl rfl ?_
  obtain ⟨⟨f2, hA⟩, hw⟩ := hw
  refine xc_V0i lk_Q_261 in_Ta_isOfObject d_Q_beginSecond_51 (x_Ta_isOfObject hw) rfl hA rfl ?_
  intro x3 h1 hw
  refine xw_if_eq (tgt := 71) d_Q_beginSecond_54 (by decide) (fun c10 => ?_) (fun c10 => ?_)
  · have hw := hw.1 c10
    exact p_Q_beginSecond_71  (l0) (l1) (l2) h1 hw
  · have hw := hw.2 c10
    refine xw_aload_n d_Q_beginSecond_57 rfl rfl ?_
    refine xw_aload_n d_Q_beginSecond_58 rfl rfl ?_
    obtain ⟨f4, a5, hA, hB, hw⟩ := hw
    refine xw_getr fr_Q_264 d_Q_beginSecond_59 hA hB ?_
    refine xw_iconst (v := 1) d_Q_beginSecond_62 (by decide) ?_
    refine xw_aload_n d_Q_beginSecond_63 rfl rfl ?_
    obtain ⟨f6, x7, hA, hB, hw⟩ := hw
    refine xw_getr fr_Q_255 d_Q_beginSecond_64 hA hB ?_
    refine xw_ishl d_Q_beginSecond_67 ?_
    obtain ⟨⟨f9, hA⟩, hw⟩ := hw
    refine xc_V2n lk_Q_325 in_No_take d_Q_beginSecond_68 (x_No_take hw) rfl hA rfl ?_
    intro h8 hw
    exact p_Q_beginSecond_71  (l0) (l1) (l2) h8 hw
set_option maxRecDepth 100000 in
def w_Q_beginSecond (Q : Option Value → xH → Prop) (this : Nat) (p1 : Nat) (h : xH) : Prop := ∃ (f1 : List Value) (a2 : Nat), h.2 p1 = some (.inr (4, f1)) ∧ f1[10]? = some (.ref a2) ∧ (∃ f4, h.2 p1 = some (.inr (4, f4))) ∧ w_No_openPhase (fun v h3 => v = none ∧ ∃ (f5 : List Value) (x6 : Int32), h3.2 a2 = some (.inr (6, f5)) ∧ f5[1]? = some (.int x6) ∧ ((¬ x6 = 2 → w_Q_beginSecond_50 Q (this) (p1) (a2) h3) ∧ (x6 = 2 → ∃ (f7 : List Value) (a8 : Nat), h3.2 a2 = some (.inr (6, f7)) ∧ f7[13]? = some (.ref a8) ∧ ∃ (f9 : List Value) (x10 : Int32), h3.2 a2 = some (.inr (6, f9)) ∧ f9[3]? = some (.int x10) ∧ ∃ (f11 : List Value) (a12 : Nat), h3.2 a2 = some (.inr (6, f11)) ∧ f11[13]? = some (.ref a12) ∧ ∃ (f13 : List Value) (x14 : Int32), h3.2 a2 = some (.inr (6, f13)) ∧ f13[3]? = some (.int x14) ∧ (∃ f16, h3.2 a12 = some (.inr (1, f16))) ∧ w_Co_numberOf (fun v h15 => ∃ (x17 : Int32), v = some (.int x17) ∧ ∃ (f18 : List Value) (x19 : Int32), h15.2 p1 = some (.inr (4, f18)) ∧ f18[0]? = some (.int x19) ∧ ∃ (f20 : List Value) (x21 : Int32), h15.2 a2 = some (.inr (6, f20)) ∧ f20[8]? = some (.int x21) ∧ (∃ f23, h15.2 a8 = some (.inr (1, f23))) ∧ w_Co_put (fun v h22 => v = none ∧ w_Q_beginSecond_50 Q (this) (p1) (a2) h22) a8 x10 (x17 + 1) x19 x21 h15) a12 x14 h3))) p1 2 h
set_option maxRecDepth 100000 in
set_option maxHeartbeats 4000000 in
theorem x_Q_beginSecond {sc : List Int32} {Q : Option Value → xH → Prop} {this : Nat} {p1 : Nat} {h : xH} (hw : w_Q_beginSecond Q this p1 h) : xMet sc m_Q_beginSecond 5 0 0 [.ref (this), .ref (p1)] h Q := by
  unfold w_Q_beginSecond at hw
  refine xMet.of2 cw_Q_beginSecond rfl rfl ?_
  show xW sc m_Q_beginSecond 5 0 0 0 [some (.ref (this)), some (.ref (p1)), none] [] h Q
  refine xw_aload_n d_Q_beginSecond_0 rfl rfl ?_
  obtain ⟨f1, a2, hA, hB, hw⟩ := hw
  refine xw_getr fr_Q_84 d_Q_beginSecond_1 hA hB ?_
  refine xs_astore_n (lv' := [some (.ref (this)), some (.ref (p1)), some (.ref (a2))]) d_Q_beginSecond_4 rfl rfl rfl ?_
  refine xw_aload_n d_Q_beginSecond_5 rfl rfl ?_
  refine xw_iconst (v := 2) d_Q_beginSecond_6 (by decide) ?_
  obtain ⟨⟨f4, hA⟩, hw⟩ := hw
  refine xc_V1n lk_Q_304 in_No_openPhase d_Q_beginSecond_7 (x_No_openPhase hw) rfl hA rfl ?_
  intro h3 hw
  refine xw_aload_n d_Q_beginSecond_10 rfl rfl ?_
  obtain ⟨f5, x6, hA, hB, hw⟩ := hw
  refine xw_getr fr_Q_123 d_Q_beginSecond_11 hA hB ?_
  refine xw_iconst (v := 2) d_Q_beginSecond_14 (by decide) ?_
  refine xw_icmp_ne (tgt := 50) d_Q_beginSecond_15 (by decide) (fun c24 => ?_) (fun c24 => ?_)
  · have hw := hw.1 c24
    exact p_Q_beginSecond_50  (this) (p1) (a2) h3 hw
  · have hw := hw.2 c24
    refine xw_aload_n d_Q_beginSecond_18 rfl rfl ?_
    obtain ⟨f7, a8, hA, hB, hw⟩ := hw
    refine xw_getr fr_Q_264 d_Q_beginSecond_19 hA hB ?_
    refine xw_aload_n d_Q_beginSecond_22 rfl rfl ?_
    obtain ⟨f9, x10, hA, hB, hw⟩ := hw
    refine xw_getr fr_Q_255 d_Q_beginSecond_23 hA hB ?_
    refine xw_aload_n d_Q_beginSecond_26 rfl rfl ?_
    obtain ⟨f11, a12, hA, hB, hw⟩ := hw
    refine xw_getr fr_Q_264 d_Q_beginSecond_27 hA hB ?_
    refine xw_aload_n d_Q_beginSecond_30 rfl rfl ?_
    obtain ⟨f13, x14, hA, hB, hw⟩ := hw
    refine xw_getr fr_Q_255 d_Q_beginSecond_31 hA hB ?_
    obtain ⟨⟨f16, hA⟩, hw⟩ := hw
    refine xc_V1i lk_Q_216 in_Co_numberOf d_Q_beginSecond_34 (x_Co_numberOf hw) rfl hA rfl ?_
    intro x17 h15 hw
    refine xw_iconst (v := 1) d_Q_beginSecond_37 (by decide) ?_
    refine xw_iadd d_Q_beginSecond_38 ?_
    refine xw_aload_n d_Q_beginSecond_39 rfl rfl ?_
    obtain ⟨f18, x19, hA, hB, hw⟩ := hw
    refine xw_getr fr_Q_316 d_Q_beginSecond_40 hA hB ?_
    refine xw_aload_n d_Q_beginSecond_43 rfl rfl ?_
    obtain ⟨f20, x21, hA, hB, hw⟩ := hw
    refine xw_getr fr_Q_88 d_Q_beginSecond_44 hA hB ?_
    obtain ⟨⟨f23, hA⟩, hw⟩ := hw
    refine xc_V4n lk_Q_322 in_Co_put d_Q_beginSecond_47 (x_Co_put hw) rfl hA rfl ?_
    intro h22 hw
    exact p_Q_beginSecond_50  (this) (p1) (a2) h22 hw
set_option maxRecDepth 100000 in
def w_Q_conclude_64 (Q : Option Value → xH → Prop) (l0 : Nat) (l1 : Nat) (s0 : Int32) (s1 : Nat) (h : xH) : Prop := ∃ f1, h.2 s1 = some (.inr (6, f1)) ∧ 4 < f1.length ∧ ∀ h2, h2 = xu h s1 (.inr (6, f1.set 4 (.int (s0)))) → Q none h2
set_option maxRecDepth 100000 in
set_option maxHeartbeats 4000000 in
theorem p_Q_conclude_64 {sc : List Int32} {Q : Option Value → xH → Prop} (l0 : Nat) (l1 : Nat) (s0 : Int32) (s1 : Nat) (h : xH) (hw : w_Q_conclude_64 Q l0 l1 s0 s1 h) : xW sc m_Q_conclude 2 0 0 64 [some (.ref (l0)), some (.ref (l1))] [.int (s0), .ref (s1)] h Q := by
  unfold w_Q_conclude_64 at hw
  obtain ⟨f1, hA, hB, hw⟩ := hw
  refine xw_puti fs_Q_258 d_Q_conclude_64 hA hB ?_
  generalize hh : xu h s1 (.inr (6, f1.set 4 (.int (s0)))) = h2
  have hw := hw h2 hh.symm
  refine xw_goto (tgt := 99) d_Q_conclude_67 (by decide) ?_
  exact xw_return rfl d_Q_conclude_99 hw
set_option maxRecDepth 100000 in
def w_Q_conclude (Q : Option Value → xH → Prop) (p1 : Nat) (h : xH) : Prop := ∃ (f1 : List Value) (a2 : Nat), h.2 p1 = some (.inr (4, f1)) ∧ f1[10]? = some (.ref a2) ∧ ∃ f3, h.2 a2 = some (.inr (6, f3)) ∧ 2 < f3.length ∧ ∀ h4, h4 = xu h a2 (.inr (6, f3.set 2 (.int (0)))) → ∃ (f5 : List Value) (x6 : Int32), h4.2 a2 = some (.inr (6, f5)) ∧ f5[1]? = some (.int x6) ∧ ((x6 = 3 → ∃ (f8 : List Value) (a9 : Nat), h4.2 p1 = some (.inr (4, f8)) ∧ f8[8]? = some (.ref a9) ∧ ∃ (f10 : List Value) (x11 : Int32), h4.2 a2 = some (.inr (6, f10)) ∧ f10[3]? = some (.int x11) ∧ (∃ f13, h4.2 a9 = some (.inr (5, f13))) ∧ w_Se_configurationOf (fun v h12 => ∃ (x14 : Int32), v = some (.int x14) ∧ ∃ (f15 : List Value) (x16 : Int32), h12.2 a2 = some (.inr (6, f15)) ∧ f15[9]? = some (.int x16) ∧ ((¬ x14 = x16 → w_Q_conclude_64 Q (p1) (a2) (0) (a2) h12) ∧ (x14 = x16 → w_Q_conclude_64 Q (p1) (a2) (1) (a2) h12))) a9 x11 h4) ∧ (x6 = 4 → ∃ (f19 : List Value) (x20 : Int32), h4.2 a2 = some (.inr (6, f19)) ∧ f19[12]? = some (.int x20) ∧ w_JI_bitCount (fun v h21 => ∃ (x22 : Int32), v = some (.int x22) ∧ ∃ f23, h21.2 a2 = some (.inr (6, f23)) ∧ 4 < f23.length ∧ ∀ h24, h24 = xu h21 a2 (.inr (6, f23.set 4 (.int (x22)))) → Q none h24) x20 h4) ∧ (¬ x6 = 3 → ¬ x6 = 4 → ∃ (f26 : List Value) (a27 : Nat), h4.2 a2 = some (.inr (6, f26)) ∧ f26[13]? = some (.ref a27) ∧ ∃ (f28 : List Value) (x29 : Int32), h4.2 a2 = some (.inr (6, f28)) ∧ f28[3]? = some (.int x29) ∧ (∃ f31, h4.2 a27 = some (.inr (1, f31))) ∧ w_Co_valueOf (fun v h30 => ∃ (x32 : Int32), v = some (.int x32) ∧ ∃ f33, h30.2 a2 = some (.inr (6, f33)) ∧ 4 < f33.length ∧ ∀ h34, h34 = xu h30 a2 (.inr (6, f33.set 4 (.int (x32)))) → Q none h34) a27 x29 h4))
set_option maxRecDepth 100000 in
set_option maxHeartbeats 4000000 in
theorem x_Q_conclude {sc : List Int32} {Q : Option Value → xH → Prop} {p1 : Nat} {h : xH} (hw : w_Q_conclude Q p1 h) : xMet sc m_Q_conclude 2 0 0 [.ref (p1)] h Q := by
  unfold w_Q_conclude at hw
  refine xMet.of2 cw_Q_conclude rfl rfl ?_
  show xW sc m_Q_conclude 2 0 0 0 [some (.ref (p1)), none] [] h Q
  refine xw_aload_n d_Q_conclude_0 rfl rfl ?_
  obtain ⟨f1, a2, hA, hB, hw⟩ := hw
  refine xw_getr fr_Q_84 d_Q_conclude_1 hA hB ?_
  refine xs_astore_n (lv' := [some (.ref (p1)), some (.ref (a2))]) d_Q_conclude_4 rfl rfl rfl ?_
  refine xw_aload_n d_Q_conclude_5 rfl rfl ?_
  refine xw_iconst (v := 0) d_Q_conclude_6 (by decide) ?_
  obtain ⟨f3, hA, hB, hw⟩ := hw
  refine xw_puti fs_Q_252 d_Q_conclude_7 hA hB ?_
  generalize hh : xu h a2 (.inr (6, f3.set 2 (.int (0)))) = h4
  have hw := hw h4 hh.symm
  refine xw_aload_n d_Q_conclude_10 rfl rfl ?_
  obtain ⟨f5, x6, hA, hB, hw⟩ := hw
  refine xw_getr fr_Q_123 d_Q_conclude_11 hA hB ?_
  by_cases c18 : x6 = 3
  · have hw := hw.1 c18
    rw [c18]
    refine xw_lookup (tgt := 40) (off := 26) d_Q_conclude_14 (by decide +kernel) (by decide +kernel) (by decide) ?_
    refine xw_aload_n d_Q_conclude_40 rfl rfl ?_
    refine xw_aload_n d_Q_conclude_41 rfl rfl ?_
    obtain ⟨f8, a9, hA, hB, hw⟩ := hw
    refine xw_getr fr_Q_55 d_Q_conclude_42 hA hB ?_
    refine xw_aload_n d_Q_conclude_45 rfl rfl ?_
    obtain ⟨f10, x11, hA, hB, hw⟩ := hw
    refine xw_getr fr_Q_255 d_Q_conclude_46 hA hB ?_
    obtain ⟨⟨f13, hA⟩, hw⟩ := hw
    refine xc_V1i lk_Q_231 in_Se_configurationOf d_Q_conclude_49 (x_Se_configurationOf hw) rfl hA rfl ?_
    intro x14 h12 hw
    refine xw_aload_n d_Q_conclude_52 rfl rfl ?_
    obtain ⟨f15, x16, hA, hB, hw⟩ := hw
    refine xw_getr fr_Q_108 d_Q_conclude_53 hA hB ?_
    refine xw_icmp_ne (tgt := 63) d_Q_conclude_56 (by decide) (fun c17 => ?_) (fun c17 => ?_)
    · have hw := hw.1 c17
      refine xw_iconst (v := 0) d_Q_conclude_63 (by decide) ?_
      exact p_Q_conclude_64  (p1) (a2) (0) (a2) h12 hw
    · have hw := hw.2 c17
      refine xw_iconst (v := 1) d_Q_conclude_59 (by decide) ?_
      refine xw_goto (tgt := 64) d_Q_conclude_60 (by decide) ?_
      exact p_Q_conclude_64  (p1) (a2) (1) (a2) h12 hw
  by_cases c25 : x6 = 4
  · have hw := hw.2.1 c25
    rw [c25]
    refine xw_lookup (tgt := 70) (off := 56) d_Q_conclude_14 (by decide +kernel) (by decide +kernel) (by decide) ?_
    refine xw_aload_n d_Q_conclude_70 rfl rfl ?_
    refine xw_aload_n d_Q_conclude_71 rfl rfl ?_
    obtain ⟨f19, x20, hA, hB, hw⟩ := hw
    refine xw_getr fr_Q_116 d_Q_conclude_72 hA hB ?_
    refine xc_S1i lk_Q_111 st_JI_bitCount d_Q_conclude_75 (x_JI_bitCount hw) rfl rfl ?_
    intro x22 h21 hw
    obtain ⟨f23, hA, hB, hw⟩ := hw
    refine xw_puti fs_Q_258 d_Q_conclude_78 hA hB ?_
    generalize hh : xu h21 a2 (.inr (6, f23.set 4 (.int (x22)))) = h24
    have hw := hw h24 hh.symm
    refine xw_goto (tgt := 99) d_Q_conclude_81 (by decide) ?_
    exact xw_return rfl d_Q_conclude_99 hw
  have hw := hw.2.2 c18 c25
  refine xw_lookup (tgt := 84) (off := 70) d_Q_conclude_14 (by decide +kernel) (by show Op.lookupswitch.offset [(3, 26), (4, 56)] _ _ = _; rw [lv_osw c18 (by decide), lv_osw c25 (by decide)]; rfl) (by decide) ?_
  refine xw_aload_n d_Q_conclude_84 rfl rfl ?_
  refine xw_aload_n d_Q_conclude_85 rfl rfl ?_
  obtain ⟨f26, a27, hA, hB, hw⟩ := hw
  refine xw_getr fr_Q_264 d_Q_conclude_86 hA hB ?_
  refine xw_aload_n d_Q_conclude_89 rfl rfl ?_
  obtain ⟨f28, x29, hA, hB, hw⟩ := hw
  refine xw_getr fr_Q_255 d_Q_conclude_90 hA hB ?_
  obtain ⟨⟨f31, hA⟩, hw⟩ := hw
  refine xc_V1i lk_Q_222 in_Co_valueOf d_Q_conclude_93 (x_Co_valueOf hw) rfl hA rfl ?_
  intro x32 h30 hw
  obtain ⟨f33, hA, hB, hw⟩ := hw
  refine xw_puti fs_Q_258 d_Q_conclude_96 hA hB ?_
  generalize hh : xu h30 a2 (.inr (6, f33.set 4 (.int (x32)))) = h34
  have hw := hw h34 hh.symm
  exact xw_return rfl d_Q_conclude_99 hw
set_option maxRecDepth 100000 in
def w_Q_finish_92 (Q : Option Value → xH → Prop) (l0 : Nat) (l1 : Nat) (l2 : Int32) (h : xH) : Prop := (∃ f2, h.2 l0 = some (.inr (4, f2))) ∧ w_No_isUp (fun v h1 => ∃ (x3 : Int32), v = some (.int x3) ∧ ((x3 = 0 → Q none h1) ∧ (¬ x3 = 0 → w_Q_conclude (fun v h4 => v = none ∧ Q none h4) l0 h1))) l0 h
set_option maxRecDepth 100000 in
set_option maxHeartbeats 4000000 in
theorem p_Q_finish_92 {sc : List Int32} {Q : Option Value → xH → Prop} (l0 : Nat) (l1 : Nat) (l2 : Int32) (h : xH) (hw : w_Q_finish_92 Q l0 l1 l2 h) : xW sc m_Q_finish 3 0 0 92 [some (.ref (l0)), some (.ref (l1)), some (.int (l2))] [] h Q := by
  unfold w_Q_finish_92 at hw
  refine xw_aload_n d_Q_finish_92 rfl rfl ?_
  obtain ⟨⟨f2, hA⟩, hw⟩ := hw
  refine xc_V0i lk_Q_129 in_No_isUp d_Q_finish_93 (x_No_isUp hw) rfl hA rfl ?_
  intro x3 h1 hw
  refine xw_if_eq (tgt := 103) d_Q_finish_96 (by decide) (fun c5 => ?_) (fun c5 => ?_)
  · have hw := hw.1 c5
    exact xw_return rfl d_Q_finish_103 hw
  · have hw := hw.2 c5
    refine xw_aload_n d_Q_finish_99 rfl rfl ?_
    refine xc_S1n lk_Q_368 st_Q_conclude d_Q_finish_100 (x_Q_conclude hw) rfl rfl ?_
    intro h4 hw
    exact xw_return rfl d_Q_finish_103 hw
set_option maxRecDepth 100000 in
def w_Q_finish_86 (Q : Option Value → xH → Prop) (L28 : Nat → Nat → Int32 → xH → Prop) (l0 : Nat) (l1 : Nat) (l2 : Int32) (h : xH) : Prop := L28 (l0) (l1) (l2 + 1) h
set_option maxRecDepth 100000 in
set_option maxHeartbeats 4000000 in
theorem p_Q_finish_86 {sc : List Int32} {Q : Option Value → xH → Prop} {L28 : Nat → Nat → Int32 → xH → Prop} (hL28 : ∀ l0 l1 l2 h, L28 l0 l1 l2 h → xW sc m_Q_finish 3 0 0 28 [some (.ref (l0)), some (.ref (l1)), some (.int (l2))] [] h Q) (l0 : Nat) (l1 : Nat) (l2 : Int32) (h : xH) (hw : w_Q_finish_86 Q L28 l0 l1 l2 h) : xW sc m_Q_finish 3 0 0 86 [some (.ref (l0)), some (.ref (l1)), some (.int (l2))] [] h Q := by
  unfold w_Q_finish_86 at hw
  refine xs_iinc (v := l2 + 1) (lv' := [some (.ref (l0)), some (.ref (l1)), some (.int (l2 + 1))]) d_Q_finish_86 rfl rfl rfl ?_
  refine xw_goto (tgt := 28) d_Q_finish_89 (by decide) ?_
  exact hL28 (l0) (l1) (l2 + 1) h hw
set_option maxRecDepth 100000 in
def w_Q_finish_28 (Q : Option Value → xH → Prop) : Nat → Nat → Nat → Int32 → xH → Prop
  | 0, _, _, _, _ => False
  | n + 1, l0, l1, l2, h => ((16 ≤ l2 → w_Q_finish_92 Q (l0) (l1) (l2) h) ∧ (¬ 16 ≤ l2 → ∃ (f1 : List Value) (x2 : Int32), h.2 l1 = some (.inr (6, f1)) ∧ f1[1]? = some (.int x2) ∧ ((¬ x2 = 4 → w_Q_finish_92 Q (l0) (l1) (l2) h) ∧ (x2 = 4 → (∃ f4, h.2 l0 = some (.inr (4, f4))) ∧ w_No_isUp (fun v h3 => ∃ (x5 : Int32), v = some (.int x5) ∧ ((x5 = 0 → w_Q_finish_92 Q (l0) (l1) (l2) h3) ∧ (¬ x5 = 0 → ∃ (f6 : List Value) (x7 : Int32), h3.2 l1 = some (.inr (6, f6)) ∧ f6[12]? = some (.int x7) ∧ w_Q_isIn (fun v h8 => ∃ (x9 : Int32), v = some (.int x9) ∧ ((x9 = 0 → w_Q_finish_86 Q (fun y0 y1 y2 yh => w_Q_finish_28 Q n y0 y1 y2 yh) (l0) (l1) (l2) h8) ∧ (¬ x9 = 0 → ∃ (f10 : List Value) (a11 : Nat), h8.2 l0 = some (.inr (4, f10)) ∧ f10[8]? = some (.ref a11) ∧ (∃ f13, h8.2 a11 = some (.inr (5, f13))) ∧ w_Se_stateOf (fun v h12 => ∃ (x14 : Int32), v = some (.int x14) ∧ ((¬ x14 = 1 → w_Q_finish_86 Q (fun y0 y1 y2 yh => w_Q_finish_28 Q n y0 y1 y2 yh) (l0) (l1) (l2) h12) ∧ (x14 = 1 → ∃ (f15 : List Value) (a16 : Nat), h12.2 l0 = some (.inr (4, f15)) ∧ f15[8]? = some (.ref a16) ∧ (∃ f18, h12.2 a16 = some (.inr (5, f18))) ∧ w_Se_configurationOf (fun v h17 => ∃ (x19 : Int32), v = some (.int x19) ∧ (∃ f21, h17.2 l0 = some (.inr (4, f21))) ∧ w_No_mark (fun v h20 => v = none ∧ w_Q_finish_86 Q (fun y0 y1 y2 yh => w_Q_finish_28 Q n y0 y1 y2 yh) (l0) (l1) (l2) h20) l0 l2 2 x19 h17) a16 l2 h12))) a11 l2 h8))) x7 l2 h3))) l0 h))))
set_option maxRecDepth 100000 in
set_option maxHeartbeats 4000000 in
theorem p_Q_finish_28 {sc : List Int32} {Q : Option Value → xH → Prop} : ∀ (n : Nat) (l0 : Nat) (l1 : Nat) (l2 : Int32) (h : xH), w_Q_finish_28 Q n l0 l1 l2 h → xW sc m_Q_finish 3 0 0 28 [some (.ref (l0)), some (.ref (l1)), some (.int (l2))] [] h Q := by
  intro n
  induction n with
  | zero => intro l0 l1 l2 h hw; exact False.elim hw
  | succ n ih =>
    intro l0 l1 l2 h hw
    rw [w_Q_finish_28] at hw
    refine xw_iload_n d_Q_finish_28 rfl rfl ?_
    refine xw_bipush (v := 16) d_Q_finish_29 (by decide) ?_
    refine xw_icmp_ge (tgt := 92) d_Q_finish_31 (by decide) (fun c26 => ?_) (fun c26 => ?_)
    · have hw := hw.1 c26
      exact p_Q_finish_92  (l0) (l1) (l2) h hw
    · have hw := hw.2 c26
      refine xw_aload_n d_Q_finish_34 rfl rfl ?_
      obtain ⟨f1, x2, hA, hB, hw⟩ := hw
      refine xw_getr fr_Q_123 d_Q_finish_35 hA hB ?_
      refine xw_iconst (v := 4) d_Q_finish_38 (by decide) ?_
      refine xw_icmp_ne (tgt := 92) d_Q_finish_39 (by decide) (fun c25 => ?_) (fun c25 => ?_)
      · have hw := hw.1 c25
        exact p_Q_finish_92  (l0) (l1) (l2) h hw
      · have hw := hw.2 c25
        refine xw_aload_n d_Q_finish_42 rfl rfl ?_
        obtain ⟨⟨f4, hA⟩, hw⟩ := hw
        refine xc_V0i lk_Q_129 in_No_isUp d_Q_finish_43 (x_No_isUp hw) rfl hA rfl ?_
        intro x5 h3 hw
        refine xw_if_eq (tgt := 92) d_Q_finish_46 (by decide) (fun c24 => ?_) (fun c24 => ?_)
        · have hw := hw.1 c24
          exact p_Q_finish_92  (l0) (l1) (l2) h3 hw
        · have hw := hw.2 c24
          refine xw_aload_n d_Q_finish_49 rfl rfl ?_
          obtain ⟨f6, x7, hA, hB, hw⟩ := hw
          refine xw_getr fr_Q_116 d_Q_finish_50 hA hB ?_
          refine xw_iload_n d_Q_finish_53 rfl rfl ?_
          refine xc_S2i lk_Q_298 st_Q_isIn d_Q_finish_54 (x_Q_isIn hw) rfl rfl ?_
          intro x9 h8 hw
          refine xw_if_eq (tgt := 86) d_Q_finish_57 (by decide) (fun c23 => ?_) (fun c23 => ?_)
          · have hw := hw.1 c23
            exact p_Q_finish_86 ih (l0) (l1) (l2) h8 hw
          · have hw := hw.2 c23
            refine xw_aload_n d_Q_finish_60 rfl rfl ?_
            obtain ⟨f10, a11, hA, hB, hw⟩ := hw
            refine xw_getr fr_Q_55 d_Q_finish_61 hA hB ?_
            refine xw_iload_n d_Q_finish_64 rfl rfl ?_
            obtain ⟨⟨f13, hA⟩, hw⟩ := hw
            refine xc_V1i lk_Q_228 in_Se_stateOf d_Q_finish_65 (x_Se_stateOf hw) rfl hA rfl ?_
            intro x14 h12 hw
            refine xw_iconst (v := 1) d_Q_finish_68 (by decide) ?_
            refine xw_icmp_ne (tgt := 86) d_Q_finish_69 (by decide) (fun c22 => ?_) (fun c22 => ?_)
            · have hw := hw.1 c22
              exact p_Q_finish_86 ih (l0) (l1) (l2) h12 hw
            · have hw := hw.2 c22
              refine xw_aload_n d_Q_finish_72 rfl rfl ?_
              refine xw_iload_n d_Q_finish_73 rfl rfl ?_
              refine xw_iconst (v := 2) d_Q_finish_74 (by decide) ?_
              refine xw_aload_n d_Q_finish_75 rfl rfl ?_
              obtain ⟨f15, a16, hA, hB, hw⟩ := hw
              refine xw_getr fr_Q_55 d_Q_finish_76 hA hB ?_
              refine xw_iload_n d_Q_finish_79 rfl rfl ?_
              obtain ⟨⟨f18, hA⟩, hw⟩ := hw
              refine xc_V1i lk_Q_231 in_Se_configurationOf d_Q_finish_80 (x_Se_configurationOf hw) rfl hA rfl ?_
              intro x19 h17 hw
              obtain ⟨⟨f21, hA⟩, hw⟩ := hw
              refine xc_V3n lk_Q_365 in_No_mark d_Q_finish_83 (x_No_mark hw) rfl hA rfl ?_
              intro h20 hw
              exact p_Q_finish_86 ih (l0) (l1) (l2) h20 hw
set_option maxRecDepth 100000 in
def w_Q_finish_26 (Q : Option Value → xH → Prop) (l0 : Nat) (l1 : Nat) (h : xH) : Prop := ∃ n1, w_Q_finish_28 Q n1 (l0) (l1) (0) h
set_option maxRecDepth 100000 in
set_option maxHeartbeats 4000000 in
theorem p_Q_finish_26 {sc : List Int32} {Q : Option Value → xH → Prop} (l0 : Nat) (l1 : Nat) (h : xH) (hw : w_Q_finish_26 Q l0 l1 h) : xW sc m_Q_finish 3 0 0 26 [some (.ref (l0)), some (.ref (l1)), none] [] h Q := by
  unfold w_Q_finish_26 at hw
  refine xw_iconst (v := 0) d_Q_finish_26 (by decide) ?_
  refine xs_istore_n (lv' := [some (.ref (l0)), some (.ref (l1)), some (.int (0))]) d_Q_finish_27 rfl rfl rfl ?_
  obtain ⟨n1, hw⟩ := hw
  exact p_Q_finish_28  n1 (l0) (l1) (0) h hw
set_option maxRecDepth 100000 in
def w_Q_finish (Q : Option Value → xH → Prop) (p1 : Nat) (h : xH) : Prop := ∃ (f1 : List Value) (a2 : Nat), h.2 p1 = some (.inr (4, f1)) ∧ f1[10]? = some (.ref a2) ∧ ∃ (f3 : List Value) (x4 : Int32), h.2 a2 = some (.inr (6, f3)) ∧ f3[1]? = some (.int x4) ∧ ((¬ x4 = 3 → w_Q_finish_26 Q (p1) (a2) h) ∧ (x4 = 3 → ∃ (f5 : List Value) (x6 : Int32), h.2 a2 = some (.inr (6, f5)) ∧ f5[3]? = some (.int x6) ∧ ∃ (f7 : List Value) (x8 : Int32), h.2 a2 = some (.inr (6, f7)) ∧ f7[11]? = some (.int x8) ∧ (∃ f10, h.2 p1 = some (.inr (4, f10))) ∧ w_No_mark (fun v h9 => v = none ∧ w_Q_finish_26 Q (p1) (a2) h9) p1 x6 1 x8 h))
set_option maxRecDepth 100000 in
set_option maxHeartbeats 4000000 in
theorem x_Q_finish {sc : List Int32} {Q : Option Value → xH → Prop} {p1 : Nat} {h : xH} (hw : w_Q_finish Q p1 h) : xMet sc m_Q_finish 3 0 0 [.ref (p1)] h Q := by
  unfold w_Q_finish at hw
  refine xMet.of2 cw_Q_finish rfl rfl ?_
  show xW sc m_Q_finish 3 0 0 0 [some (.ref (p1)), none, none] [] h Q
  refine xw_aload_n d_Q_finish_0 rfl rfl ?_
  obtain ⟨f1, a2, hA, hB, hw⟩ := hw
  refine xw_getr fr_Q_84 d_Q_finish_1 hA hB ?_
  refine xs_astore_n (lv' := [some (.ref (p1)), some (.ref (a2)), none]) d_Q_finish_4 rfl rfl rfl ?_
  refine xw_aload_n d_Q_finish_5 rfl rfl ?_
  obtain ⟨f3, x4, hA, hB, hw⟩ := hw
  refine xw_getr fr_Q_123 d_Q_finish_6 hA hB ?_
  refine xw_iconst (v := 3) d_Q_finish_9 (by decide) ?_
  refine xw_icmp_ne (tgt := 26) d_Q_finish_10 (by decide) (fun c11 => ?_) (fun c11 => ?_)
  · have hw := hw.1 c11
    exact p_Q_finish_26  (p1) (a2) h hw
  · have hw := hw.2 c11
    refine xw_aload_n d_Q_finish_13 rfl rfl ?_
    refine xw_aload_n d_Q_finish_14 rfl rfl ?_
    obtain ⟨f5, x6, hA, hB, hw⟩ := hw
    refine xw_getr fr_Q_255 d_Q_finish_15 hA hB ?_
    refine xw_iconst (v := 1) d_Q_finish_18 (by decide) ?_
    refine xw_aload_n d_Q_finish_19 rfl rfl ?_
    obtain ⟨f7, x8, hA, hB, hw⟩ := hw
    refine xw_getr fr_Q_310 d_Q_finish_20 hA hB ?_
    obtain ⟨⟨f10, hA⟩, hw⟩ := hw
    refine xc_V3n lk_Q_365 in_No_mark d_Q_finish_23 (x_No_mark hw) rfl hA rfl ?_
    intro h9 hw
    exact p_Q_finish_26  (p1) (a2) h9 hw
set_option maxRecDepth 100000 in
def w_Q_isEnough_62 (Q : Option Value → xH → Prop) (L7 : Nat → Int32 → Int32 → xH → Prop) (l0 : Nat) (l1 : Int32) (l2 : Int32) (l3 : Int32) (l4 : Int32) (h : xH) : Prop := L7 (l0) (l1) (l2 + 1) h
set_option maxRecDepth 100000 in
set_option maxHeartbeats 4000000 in
theorem p_Q_isEnough_62 {sc : List Int32} {Q : Option Value → xH → Prop} {L7 : Nat → Int32 → Int32 → xH → Prop} (hL7 : ∀ l0 l1 l2 h, L7 l0 l1 l2 h → xW sc m_Q_isEnough 2 0 0 7 [some (.ref (l0)), some (.int (l1)), some (.int (l2)), none, none] [] h Q) (l0 : Nat) (l1 : Int32) (l2 : Int32) (l3 : Int32) (l4 : Int32) (h : xH) (hw : w_Q_isEnough_62 Q L7 l0 l1 l2 l3 l4 h) : xW sc m_Q_isEnough 2 0 0 62 [some (.ref (l0)), some (.int (l1)), some (.int (l2)), some (.int (l3)), some (.int (l4))] [] h Q := by
  unfold w_Q_isEnough_62 at hw
  refine xs_iinc (v := l2 + 1) (lv' := [some (.ref (l0)), some (.int (l1)), some (.int (l2 + 1)), some (.int (l3)), some (.int (l4))]) d_Q_isEnough_62 rfl rfl rfl ?_
  refine xw_goto (tgt := 7) d_Q_isEnough_65 (by decide) ?_
  refine xs_drop (lv' := [some (.ref (l0)), some (.int (l1)), some (.int (l2 + 1)), none, some (.int (l4))]) 3 rfl ?_
  refine xs_drop (lv' := [some (.ref (l0)), some (.int (l1)), some (.int (l2 + 1)), none, none]) 4 rfl ?_
  exact hL7 (l0) (l1) (l2 + 1) h hw
set_option maxRecDepth 100000 in
def w_Q_isEnough_7 (Q : Option Value → xH → Prop) : Nat → Nat → Int32 → Int32 → xH → Prop
  | 0, _, _, _, _ => False
  | n + 1, l0, l1, l2, h => ((16 ≤ l2 → (narrow .boolean (.int 1) = .int 1 ∧ Q (some (.int 1)) h)) ∧ (¬ 16 ≤ l2 → ∃ (f1 : List Value) (a2 : Nat), h.2 l0 = some (.inr (4, f1)) ∧ f1[8]? = some (.ref a2) ∧ (∃ f4, h.2 a2 = some (.inr (5, f4))) ∧ w_Se_configurationOf (fun v h3 => ∃ (x5 : Int32), v = some (.int x5) ∧ ∃ (f6 : List Value) (a7 : Nat), h3.2 l0 = some (.inr (4, f6)) ∧ f6[10]? = some (.ref a7) ∧ ∃ (f8 : List Value) (x9 : Int32), h3.2 a7 = some (.inr (6, f8)) ∧ f8[6]? = some (.int x9) ∧ w_Q_membersOf (fun v h10 => ∃ (x11 : Int32), v = some (.int x11) ∧ w_JI_bitCount (fun v h12 => ∃ (x13 : Int32), v = some (.int x13) ∧ w_Q_isIn (fun v h14 => ∃ (x15 : Int32), v = some (.int x15) ∧ ((x15 = 0 → w_Q_isEnough_62 Q (fun y0 y1 y2 yh => w_Q_isEnough_7 Q n y0 y1 y2 yh) (l0) (l1) (l2) (x5) (x13) h14) ∧ (¬ x15 = 0 → ∃ (f16 : List Value) (a17 : Nat), h14.2 l0 = some (.inr (4, f16)) ∧ f16[10]? = some (.ref a17) ∧ w_Q_needed (fun v h18 => ∃ (x19 : Int32), v = some (.int x19) ∧ ((x19 ≤ x13 → w_Q_isEnough_62 Q (fun y0 y1 y2 yh => w_Q_isEnough_7 Q n y0 y1 y2 yh) (l0) (l1) (l2) (x5) (x13) h18) ∧ (¬ x19 ≤ x13 → (narrow .boolean (.int 0) = .int 0 ∧ Q (some (.int 0)) h18)))) a17 x5 h14))) l1 l2 h12) (x9 &&& x11) h10) x5 h3) a2 l2 h))
set_option maxRecDepth 100000 in
set_option maxHeartbeats 4000000 in
theorem p_Q_isEnough_7 {sc : List Int32} {Q : Option Value → xH → Prop} : ∀ (n : Nat) (l0 : Nat) (l1 : Int32) (l2 : Int32) (h : xH), w_Q_isEnough_7 Q n l0 l1 l2 h → xW sc m_Q_isEnough 2 0 0 7 [some (.ref (l0)), some (.int (l1)), some (.int (l2)), none, none] [] h Q := by
  intro n
  induction n with
  | zero => intro l0 l1 l2 h hw; exact False.elim hw
  | succ n ih =>
    intro l0 l1 l2 h hw
    rw [w_Q_isEnough_7] at hw
    refine xw_iload_n d_Q_isEnough_7 rfl rfl ?_
    refine xw_bipush (v := 16) d_Q_isEnough_8 (by decide) ?_
    refine xw_icmp_ge (tgt := 68) d_Q_isEnough_10 (by decide) (fun c22 => ?_) (fun c22 => ?_)
    · have hw := hw.1 c22
      refine xw_iconst (v := 1) d_Q_isEnough_68 (by decide) ?_
      exact xw_zreturn rfl hw.1 d_Q_isEnough_69 hw.2
    · have hw := hw.2 c22
      refine xw_aload_n d_Q_isEnough_13 rfl rfl ?_
      obtain ⟨f1, a2, hA, hB, hw⟩ := hw
      refine xw_getr fr_Q_55 d_Q_isEnough_14 hA hB ?_
      refine xw_iload_n d_Q_isEnough_17 rfl rfl ?_
      obtain ⟨⟨f4, hA⟩, hw⟩ := hw
      refine xc_V1i lk_Q_231 in_Se_configurationOf d_Q_isEnough_18 (x_Se_configurationOf hw) rfl hA rfl ?_
      intro x5 h3 hw
      refine xs_istore_n (lv' := [some (.ref (l0)), some (.int (l1)), some (.int (l2)), some (.int (x5)), none]) d_Q_isEnough_21 rfl rfl rfl ?_
      refine xw_aload_n d_Q_isEnough_22 rfl rfl ?_
      obtain ⟨f6, a7, hA, hB, hw⟩ := hw
      refine xw_getr fr_Q_84 d_Q_isEnough_23 hA hB ?_
      obtain ⟨f8, x9, hA, hB, hw⟩ := hw
      refine xw_getr fr_Q_135 d_Q_isEnough_26 hA hB ?_
      refine xw_iload_n d_Q_isEnough_29 rfl rfl ?_
      refine xc_S1i lk_Q_342 st_Q_membersOf d_Q_isEnough_30 (x_Q_membersOf hw) rfl rfl ?_
      intro x11 h10 hw
      refine xw_iand d_Q_isEnough_33 ?_
      refine xc_S1i lk_Q_111 st_JI_bitCount d_Q_isEnough_34 (x_JI_bitCount hw) rfl rfl ?_
      intro x13 h12 hw
      refine xs_istore (lv' := [some (.ref (l0)), some (.int (l1)), some (.int (l2)), some (.int (x5)), some (.int (x13))]) d_Q_isEnough_37 rfl rfl ?_
      refine xw_iload_n d_Q_isEnough_39 rfl rfl ?_
      refine xw_iload_n d_Q_isEnough_40 rfl rfl ?_
      refine xc_S2i lk_Q_298 st_Q_isIn d_Q_isEnough_41 (x_Q_isIn hw) rfl rfl ?_
      intro x15 h14 hw
      refine xw_if_eq (tgt := 62) d_Q_isEnough_44 (by decide) (fun c21 => ?_) (fun c21 => ?_)
      · have hw := hw.1 c21
        exact p_Q_isEnough_62 ih (l0) (l1) (l2) (x5) (x13) h14 hw
      · have hw := hw.2 c21
        refine xw_iload d_Q_isEnough_47 rfl ?_
        refine xw_aload_n d_Q_isEnough_49 rfl rfl ?_
        obtain ⟨f16, a17, hA, hB, hw⟩ := hw
        refine xw_getr fr_Q_84 d_Q_isEnough_50 hA hB ?_
        refine xw_iload_n d_Q_isEnough_53 rfl rfl ?_
        refine xc_S2i lk_Q_345 st_Q_needed d_Q_isEnough_54 (x_Q_needed hw) rfl rfl ?_
        intro x19 h18 hw
        refine xw_icmp_ge (tgt := 62) d_Q_isEnough_57 (by decide) (fun c20 => ?_) (fun c20 => ?_)
        · have hw := hw.1 c20
          exact p_Q_isEnough_62 ih (l0) (l1) (l2) (x5) (x13) h18 hw
        · have hw := hw.2 c20
          refine xw_iconst (v := 0) d_Q_isEnough_60 (by decide) ?_
          exact xw_zreturn rfl hw.1 d_Q_isEnough_61 hw.2
set_option maxRecDepth 100000 in
def w_Q_isEnough (Q : Option Value → xH → Prop) (p1 : Nat) (h : xH) : Prop := w_Q_concerned (fun v h1 => ∃ (x2 : Int32), v = some (.int x2) ∧ ∃ n3, w_Q_isEnough_7 Q n3 (p1) (x2) (0) h1) p1 h
set_option maxRecDepth 100000 in
set_option maxHeartbeats 4000000 in
theorem x_Q_isEnough {sc : List Int32} {Q : Option Value → xH → Prop} {p1 : Nat} {h : xH} (hw : w_Q_isEnough Q p1 h) : xMet sc m_Q_isEnough 2 0 0 [.ref (p1)] h Q := by
  unfold w_Q_isEnough at hw
  refine xMet.of2 cw_Q_isEnough rfl rfl ?_
  show xW sc m_Q_isEnough 2 0 0 0 [some (.ref (p1)), none, none, none, none] [] h Q
  refine xw_aload_n d_Q_isEnough_0 rfl rfl ?_
  refine xc_S1i lk_Q_329 st_Q_concerned d_Q_isEnough_1 (x_Q_concerned hw) rfl rfl ?_
  intro x2 h1 hw
  refine xs_istore_n (lv' := [some (.ref (p1)), some (.int (x2)), none, none, none]) d_Q_isEnough_4 rfl rfl rfl ?_
  refine xw_iconst (v := 0) d_Q_isEnough_5 (by decide) ?_
  refine xs_istore_n (lv' := [some (.ref (p1)), some (.int (x2)), some (.int (0)), none, none]) d_Q_isEnough_6 rfl rfl rfl ?_
  obtain ⟨n3, hw⟩ := hw
  exact p_Q_isEnough_7  n3 (p1) (x2) (0) h1 hw
set_option maxRecDepth 100000 in
def w_Q_settle_44 (Q : Option Value → xH → Prop) (L2 : Nat → Nat → Int32 → xH → Prop) (l0 : Nat) (l1 : Nat) (l2 : Int32) (h : xH) : Prop := L2 (l0) (l1) (l2 + 1) h
set_option maxRecDepth 100000 in
set_option maxHeartbeats 4000000 in
theorem p_Q_settle_44 {sc : List Int32} {Q : Option Value → xH → Prop} {L2 : Nat → Nat → Int32 → xH → Prop} (hL2 : ∀ l0 l1 l2 h, L2 l0 l1 l2 h → xW sc m_Q_settle 6 0 0 2 [some (.ref (l0)), some (.ref (l1)), some (.int (l2))] [] h Q) (l0 : Nat) (l1 : Nat) (l2 : Int32) (h : xH) (hw : w_Q_settle_44 Q L2 l0 l1 l2 h) : xW sc m_Q_settle 6 0 0 44 [some (.ref (l0)), some (.ref (l1)), some (.int (l2))] [] h Q := by
  unfold w_Q_settle_44 at hw
  refine xs_iinc (v := l2 + 1) (lv' := [some (.ref (l0)), some (.ref (l1)), some (.int (l2 + 1))]) d_Q_settle_44 rfl rfl rfl ?_
  refine xw_goto (tgt := 2) d_Q_settle_47 (by decide) ?_
  exact hL2 (l0) (l1) (l2 + 1) h hw
set_option maxRecDepth 100000 in
def w_Q_settle_2 (Q : Option Value → xH → Prop) : Nat → Nat → Nat → Int32 → xH → Prop
  | 0, _, _, _, _ => False
  | n + 1, l0, l1, l2, h => ((2 ≤ l2 → Q none h) ∧ (¬ 2 ≤ l2 → (∃ f2, h.2 l1 = some (.inr (4, f2))) ∧ w_No_isBusy (fun v h1 => ∃ (x3 : Int32), v = some (.int x3) ∧ ((x3 = 0 → Q none h1) ∧ (¬ x3 = 0 → w_Q_isEnough (fun v h4 => ∃ (x5 : Int32), v = some (.int x5) ∧ ((x5 = 0 → Q none h4) ∧ (¬ x5 = 0 → ∃ (f6 : List Value) (a7 : Nat), h4.2 l1 = some (.inr (4, f6)) ∧ f6[10]? = some (.ref a7) ∧ ∃ (f8 : List Value) (x9 : Int32), h4.2 a7 = some (.inr (6, f8)) ∧ f8[2]? = some (.int x9) ∧ ((¬ x9 = 1 → w_Q_finish (fun v h10 => v = none ∧ w_Q_settle_44 Q (fun y0 y1 y2 yh => w_Q_settle_2 Q n y0 y1 y2 yh) (l0) (l1) (l2) h10) l1 h4) ∧ (x9 = 1 → (∃ f12, h4.2 l0 = some (.inr (0, f12))) ∧ w_Q_beginSecond (fun v h11 => v = none ∧ w_Q_settle_44 Q (fun y0 y1 y2 yh => w_Q_settle_2 Q n y0 y1 y2 yh) (l0) (l1) (l2) h11) l0 l1 h4))))) l1 h1))) l1 h))
set_option maxRecDepth 100000 in
set_option maxHeartbeats 4000000 in
theorem p_Q_settle_2 {sc : List Int32} {Q : Option Value → xH → Prop} : ∀ (n : Nat) (l0 : Nat) (l1 : Nat) (l2 : Int32) (h : xH), w_Q_settle_2 Q n l0 l1 l2 h → xW sc m_Q_settle 6 0 0 2 [some (.ref (l0)), some (.ref (l1)), some (.int (l2))] [] h Q := by
  intro n
  induction n with
  | zero => intro l0 l1 l2 h hw; exact False.elim hw
  | succ n ih =>
    intro l0 l1 l2 h hw
    rw [w_Q_settle_2] at hw
    refine xw_iload_n d_Q_settle_2 rfl rfl ?_
    refine xw_iconst (v := 2) d_Q_settle_3 (by decide) ?_
    refine xw_icmp_ge (tgt := 50) d_Q_settle_4 (by decide) (fun c16 => ?_) (fun c16 => ?_)
    · have hw := hw.1 c16
      exact xw_return rfl d_Q_settle_50 hw
    · have hw := hw.2 c16
      refine xw_aload_n d_Q_settle_7 rfl rfl ?_
      obtain ⟨⟨f2, hA⟩, hw⟩ := hw
      refine xc_V0i lk_Q_119 in_No_isBusy d_Q_settle_8 (x_No_isBusy hw) rfl hA rfl ?_
      intro x3 h1 hw
      refine xw_if_eq (tgt := 50) d_Q_settle_11 (by decide) (fun c15 => ?_) (fun c15 => ?_)
      · have hw := hw.1 c15
        exact xw_return rfl d_Q_settle_50 hw
      · have hw := hw.2 c15
        refine xw_aload_n d_Q_settle_14 rfl rfl ?_
        refine xc_S1i lk_Q_355 st_Q_isEnough d_Q_settle_15 (x_Q_isEnough hw) rfl rfl ?_
        intro x5 h4 hw
        refine xw_if_eq (tgt := 50) d_Q_settle_18 (by decide) (fun c14 => ?_) (fun c14 => ?_)
        · have hw := hw.1 c14
          exact xw_return rfl d_Q_settle_50 hw
        · have hw := hw.2 c14
          refine xw_aload_n d_Q_settle_21 rfl rfl ?_
          obtain ⟨f6, a7, hA, hB, hw⟩ := hw
          refine xw_getr fr_Q_84 d_Q_settle_22 hA hB ?_
          obtain ⟨f8, x9, hA, hB, hw⟩ := hw
          refine xw_getr fr_Q_252 d_Q_settle_25 hA hB ?_
          refine xw_iconst (v := 1) d_Q_settle_28 (by decide) ?_
          refine xw_icmp_ne (tgt := 40) d_Q_settle_29 (by decide) (fun c13 => ?_) (fun c13 => ?_)
          · have hw := hw.1 c13
            refine xw_aload_n d_Q_settle_40 rfl rfl ?_
            refine xc_S1n lk_Q_362 st_Q_finish d_Q_settle_41 (x_Q_finish hw) rfl rfl ?_
            intro h10 hw
            exact p_Q_settle_44 ih (l0) (l1) (l2) h10 hw
          · have hw := hw.2 c13
            refine xw_aload_n d_Q_settle_32 rfl rfl ?_
            refine xw_aload_n d_Q_settle_33 rfl rfl ?_
            obtain ⟨⟨f12, hA⟩, hw⟩ := hw
            refine xc_V1n lk_Q_359 in_Q_beginSecond d_Q_settle_34 (x_Q_beginSecond hw) rfl hA rfl ?_
            intro h11 hw
            refine xw_goto (tgt := 44) d_Q_settle_37 (by decide) ?_
            exact p_Q_settle_44 ih (l0) (l1) (l2) h11 hw
set_option maxRecDepth 100000 in
def w_Q_settle (Q : Option Value → xH → Prop) (this : Nat) (p1 : Nat) (h : xH) : Prop := ∃ n1, w_Q_settle_2 Q n1 (this) (p1) (0) h
set_option maxRecDepth 100000 in
set_option maxHeartbeats 4000000 in
theorem x_Q_settle {sc : List Int32} {Q : Option Value → xH → Prop} {this : Nat} {p1 : Nat} {h : xH} (hw : w_Q_settle Q this p1 h) : xMet sc m_Q_settle 6 0 0 [.ref (this), .ref (p1)] h Q := by
  unfold w_Q_settle at hw
  refine xMet.of2 cw_Q_settle rfl rfl ?_
  show xW sc m_Q_settle 6 0 0 0 [some (.ref (this)), some (.ref (p1)), none] [] h Q
  refine xw_iconst (v := 0) d_Q_settle_0 (by decide) ?_
  refine xs_istore_n (lv' := [some (.ref (this)), some (.ref (p1)), some (.int (0))]) d_Q_settle_1 rfl rfl rfl ?_
  obtain ⟨n1, hw⟩ := hw
  exact p_Q_settle_2  n1 (this) (p1) (0) h hw
set_option maxRecDepth 100000 in
def w_Q_read (Q : Option Value → xH → Prop) (this : Nat) (p1 : Int32) (p2 : Int32) (h : xH) : Prop := w_Q_isObject (fun v h1 => ∃ (x2 : Int32), v = some (.int x2) ∧ ((¬ x2 = 0 → (∃ f4, h1.2 this = some (.inr (0, f4))) ∧ w_Q_openTask (fun v h3 => (v = some .null ∧ Q (some (.int (-1))) h3) ∨ ∃ b5, v = some (.ref b5) ∧ (∃ f7, h3.2 this = some (.inr (0, f7))) ∧ w_Q_beginFirst (fun v h6 => v = none ∧ (∃ f9, h6.2 this = some (.inr (0, f9))) ∧ w_Q_settle (fun v h8 => v = none ∧ w_Q_started (fun v h10 => ∃ (x11 : Int32), v = some (.int x11) ∧ Q (some (.int x11)) h10) b5 h8) this b5 h6) this b5 h3) this p1 1 p2 h1) ∧ (x2 = 0 → Q (some (.int (-1))) h1))) p2 h
set_option maxRecDepth 100000 in
set_option maxHeartbeats 4000000 in
theorem x_Q_read {sc : List Int32} {Q : Option Value → xH → Prop} {this : Nat} {p1 : Int32} {p2 : Int32} {h : xH} (hw : w_Q_read Q this p1 p2 h) : xMet sc m_Q_read 7 0 0 [.ref (this), .int (p1), .int (p2)] h Q := by
  unfold w_Q_read at hw
  refine xMet.of2 cw_Q_read rfl rfl ?_
  show xW sc m_Q_read 7 0 0 0 [some (.ref (this)), some (.int (p1)), some (.int (p2)), none] [] h Q
  refine xw_iload_n d_Q_read_0 rfl rfl ?_
  refine xc_S1i lk_Q_65 st_Q_isObject d_Q_read_1 (x_Q_isObject hw) rfl rfl ?_
  intro x2 h1 hw
  refine xw_if_ne (tgt := 9) d_Q_read_4 (by decide) (fun c12 => ?_) (fun c12 => ?_)
  · have hw := hw.1 c12
    refine xw_aload_n d_Q_read_9 rfl rfl ?_
    refine xw_iload_n d_Q_read_10 rfl rfl ?_
    refine xw_iconst (v := 1) d_Q_read_11 (by decide) ?_
    refine xw_iload_n d_Q_read_12 rfl rfl ?_
    obtain ⟨⟨f4, hA⟩, hw⟩ := hw
    refine xc_V3r lk_Q_69 in_Q_openTask d_Q_read_13 (x_Q_openTask hw) rfl hA rfl ?_ ?_
    · intro h3 hw
      refine xs_astore_nN (lv' := [some (.ref (this)), some (.int (p1)), some (.int (p2)), some (.null)]) d_Q_read_16 rfl rfl rfl ?_
      refine xw_aload_nN d_Q_read_17 rfl rfl ?_
      refine xw_ifnonnullN d_Q_read_18 ?_
      refine xw_iconst (v := -1) d_Q_read_21 (by decide) ?_
      exact xw_ireturn rfl d_Q_read_22 hw
    · intro b5 h3 hw
      refine xs_astore_n (lv' := [some (.ref (this)), some (.int (p1)), some (.int (p2)), some (.ref (b5))]) d_Q_read_16 rfl rfl rfl ?_
      refine xw_aload_n d_Q_read_17 rfl rfl ?_
      refine xw_ifnonnull (tgt := 23) d_Q_read_18 (by decide) ?_
      refine xw_aload_n d_Q_read_23 rfl rfl ?_
      refine xw_aload_n d_Q_read_24 rfl rfl ?_
      obtain ⟨⟨f7, hA⟩, hw⟩ := hw
      refine xc_V1n lk_Q_73 in_Q_beginFirst d_Q_read_25 (x_Q_beginFirst hw) rfl hA rfl ?_
      intro h6 hw
      refine xw_aload_n d_Q_read_28 rfl rfl ?_
      refine xw_aload_n d_Q_read_29 rfl rfl ?_
      obtain ⟨⟨f9, hA⟩, hw⟩ := hw
      refine xc_V1n lk_Q_77 in_Q_settle d_Q_read_30 (x_Q_settle hw) rfl hA rfl ?_
      intro h8 hw
      refine xw_aload_n d_Q_read_33 rfl rfl ?_
      refine xc_S1i lk_Q_80 st_Q_started d_Q_read_34 (x_Q_started hw) rfl rfl ?_
      intro x11 h10 hw
      exact xw_ireturn rfl d_Q_read_37 hw
  · have hw := hw.2 c12
    refine xw_iconst (v := -1) d_Q_read_7 (by decide) ?_
    exact xw_ireturn rfl d_Q_read_8 hw
set_option maxRecDepth 100000 in
def w_Q_write (Q : Option Value → xH → Prop) (this : Nat) (p1 : Int32) (p2 : Int32) (p3 : Int32) (h : xH) : Prop := w_Q_isObject (fun v h1 => ∃ (x2 : Int32), v = some (.int x2) ∧ ((¬ x2 = 0 → (∃ f4, h1.2 this = some (.inr (0, f4))) ∧ w_Q_openTask (fun v h3 => (v = some .null ∧ Q (some (.int (-1))) h3) ∨ ∃ b5, v = some (.ref b5) ∧ ∃ (f6 : List Value) (a7 : Nat), h3.2 b5 = some (.inr (4, f6)) ∧ f6[10]? = some (.ref a7) ∧ ∃ f8, h3.2 a7 = some (.inr (6, f8)) ∧ 8 < f8.length ∧ ∀ h9, h9 = xu h3 a7 (.inr (6, f8.set 8 (.int (p3)))) → (∃ f11, h9.2 this = some (.inr (0, f11))) ∧ w_Q_beginFirst (fun v h10 => v = none ∧ (∃ f13, h10.2 this = some (.inr (0, f13))) ∧ w_Q_settle (fun v h12 => v = none ∧ w_Q_started (fun v h14 => ∃ (x15 : Int32), v = some (.int x15) ∧ Q (some (.int x15)) h14) b5 h12) this b5 h10) this b5 h9) this p1 2 p2 h1) ∧ (x2 = 0 → Q (some (.int (-1))) h1))) p2 h
set_option maxRecDepth 100000 in
set_option maxHeartbeats 4000000 in
theorem x_Q_write {sc : List Int32} {Q : Option Value → xH → Prop} {this : Nat} {p1 : Int32} {p2 : Int32} {p3 : Int32} {h : xH} (hw : w_Q_write Q this p1 p2 p3 h) : xMet sc m_Q_write 7 0 0 [.ref (this), .int (p1), .int (p2), .int (p3)] h Q := by
  unfold w_Q_write at hw
  refine xMet.of2 cw_Q_write rfl rfl ?_
  show xW sc m_Q_write 7 0 0 0 [some (.ref (this)), some (.int (p1)), some (.int (p2)), some (.int (p3)), none] [] h Q
  refine xw_iload_n d_Q_write_0 rfl rfl ?_
  refine xc_S1i lk_Q_65 st_Q_isObject d_Q_write_1 (x_Q_isObject hw) rfl rfl ?_
  intro x2 h1 hw
  refine xw_if_ne (tgt := 9) d_Q_write_4 (by decide) (fun c16 => ?_) (fun c16 => ?_)
  · have hw := hw.1 c16
    refine xw_aload_n d_Q_write_9 rfl rfl ?_
    refine xw_iload_n d_Q_write_10 rfl rfl ?_
    refine xw_iconst (v := 2) d_Q_write_11 (by decide) ?_
    refine xw_iload_n d_Q_write_12 rfl rfl ?_
    obtain ⟨⟨f4, hA⟩, hw⟩ := hw
    refine xc_V3r lk_Q_69 in_Q_openTask d_Q_write_13 (x_Q_openTask hw) rfl hA rfl ?_ ?_
    · intro h3 hw
      refine xs_astoreN (lv' := [some (.ref (this)), some (.int (p1)), some (.int (p2)), some (.int (p3)), some (.null)]) d_Q_write_16 rfl rfl ?_
      refine xw_aloadN d_Q_write_18 rfl ?_
      refine xw_ifnonnullN d_Q_write_20 ?_
      refine xw_iconst (v := -1) d_Q_write_23 (by decide) ?_
      exact xw_ireturn rfl d_Q_write_24 hw
    · intro b5 h3 hw
      refine xs_astore (lv' := [some (.ref (this)), some (.int (p1)), some (.int (p2)), some (.int (p3)), some (.ref (b5))]) d_Q_write_16 rfl rfl ?_
      refine xw_aload d_Q_write_18 rfl ?_
      refine xw_ifnonnull (tgt := 25) d_Q_write_20 (by decide) ?_
      refine xw_aload d_Q_write_25 rfl ?_
      obtain ⟨f6, a7, hA, hB, hw⟩ := hw
      refine xw_getr fr_Q_84 d_Q_write_27 hA hB ?_
      refine xw_iload_n d_Q_write_30 rfl rfl ?_
      obtain ⟨f8, hA, hB, hw⟩ := hw
      refine xw_puti fs_Q_88 d_Q_write_31 hA hB ?_
      generalize hh : xu h3 a7 (.inr (6, f8.set 8 (.int (p3)))) = h9
      have hw := hw h9 hh.symm
      refine xw_aload_n d_Q_write_34 rfl rfl ?_
      refine xw_aload d_Q_write_35 rfl ?_
      obtain ⟨⟨f11, hA⟩, hw⟩ := hw
      refine xc_V1n lk_Q_73 in_Q_beginFirst d_Q_write_37 (x_Q_beginFirst hw) rfl hA rfl ?_
      intro h10 hw
      refine xw_aload_n d_Q_write_40 rfl rfl ?_
      refine xw_aload d_Q_write_41 rfl ?_
      obtain ⟨⟨f13, hA⟩, hw⟩ := hw
      refine xc_V1n lk_Q_77 in_Q_settle d_Q_write_43 (x_Q_settle hw) rfl hA rfl ?_
      intro h12 hw
      refine xw_aload d_Q_write_46 rfl ?_
      refine xc_S1i lk_Q_80 st_Q_started d_Q_write_48 (x_Q_started hw) rfl rfl ?_
      intro x15 h14 hw
      exact xw_ireturn rfl d_Q_write_51 hw
  · have hw := hw.2 c16
    refine xw_iconst (v := -1) d_Q_write_7 (by decide) ?_
    exact xw_ireturn rfl d_Q_write_8 hw
set_option maxRecDepth 100000 in
def w_Q_propose (Q : Option Value → xH → Prop) (this : Nat) (p1 : Int32) (p2 : Int32) (p3 : Int32) (p4 : Int32) (h : xH) : Prop := (∃ f2, h.2 this = some (.inr (0, f2))) ∧ w_Q_find (fun v h1 => (v = some .null ∧ Q (some (.int (-1))) h1) ∨ ∃ b3, v = some (.ref b3) ∧ w_Q_isConfiguration (fun v h4 => ∃ (x5 : Int32), v = some (.int x5) ∧ ((¬ x5 = 0 → ∃ (f6 : List Value) (a7 : Nat), h4.2 b3 = some (.inr (4, f6)) ∧ f6[8]? = some (.ref a7) ∧ (∃ f9, h4.2 a7 = some (.inr (5, f9))) ∧ w_Se_having (fun v h8 => ∃ (x10 : Int32), v = some (.int x10) ∧ w_Q_greatest (fun v h11 => ∃ (x12 : Int32), v = some (.int x12) ∧ (((x12 + 1) < 16 → (∃ f14, h11.2 this = some (.inr (0, f14))) ∧ w_Q_openTask (fun v h13 => (v = some .null ∧ Q (some (.int (-1))) h13) ∨ ∃ b15, v = some (.ref b15) ∧ ∃ (f16 : List Value) (a17 : Nat), h13.2 b15 = some (.inr (4, f16)) ∧ f16[10]? = some (.ref a17) ∧ w_Q_configuration (fun v h18 => ∃ (x19 : Int32), v = some (.int x19) ∧ ∃ f20, h18.2 a17 = some (.inr (6, f20)) ∧ 9 < f20.length ∧ ∀ h21, h21 = xu h18 a17 (.inr (6, f20.set 9 (.int (x19)))) → (∃ f23, h21.2 this = some (.inr (0, f23))) ∧ w_Q_beginFirst (fun v h22 => v = none ∧ (∃ f25, h22.2 this = some (.inr (0, f25))) ∧ w_Q_settle (fun v h24 => v = none ∧ w_Q_started (fun v h26 => ∃ (x27 : Int32), v = some (.int x27) ∧ Q (some (.int x27)) h26) b15 h24) this b15 h22) this b15 h21) p2 p3 p4 h13) this p1 3 (x12 + 1) h11) ∧ (¬ (x12 + 1) < 16 → Q (some (.int (-1))) h11))) x10 h8) a7 1 h4) ∧ (x5 = 0 → Q (some (.int (-1))) h4))) p2 p3 p4 h1) this p1 h
set_option maxRecDepth 100000 in
set_option maxHeartbeats 4000000 in
theorem x_Q_propose {sc : List Int32} {Q : Option Value → xH → Prop} {this : Nat} {p1 : Int32} {p2 : Int32} {p3 : Int32} {p4 : Int32} {h : xH} (hw : w_Q_propose Q this p1 p2 p3 p4 h) : xMet sc m_Q_propose 7 0 0 [.ref (this), .int (p1), .int (p2), .int (p3), .int (p4)] h Q := by
  unfold w_Q_propose at hw
  refine xMet.of2 cw_Q_propose rfl rfl ?_
  show xW sc m_Q_propose 7 0 0 0 [some (.ref (this)), some (.int (p1)), some (.int (p2)), some (.int (p3)), some (.int (p4)), none, none, none] [] h Q
  refine xw_aload_n d_Q_propose_0 rfl rfl ?_
  refine xw_iload_n d_Q_propose_1 rfl rfl ?_
  obtain ⟨⟨f2, hA⟩, hw⟩ := hw
  refine xc_V1r lk_Q_93 in_Q_find d_Q_propose_2 (x_Q_find hw) rfl hA rfl ?_ ?_
  · intro h1 hw
    refine xs_astoreN (lv' := [some (.ref (this)), some (.int (p1)), some (.int (p2)), some (.int (p3)), some (.int (p4)), some (.null), none, none]) d_Q_propose_5 rfl rfl ?_
    refine xw_aloadN d_Q_propose_7 rfl ?_
    refine xw_ifnullN (tgt := 22) d_Q_propose_9 (by decide) ?_
    refine xw_iconst (v := -1) d_Q_propose_22 (by decide) ?_
    exact xw_ireturn rfl d_Q_propose_23 hw
  · intro b3 h1 hw
    refine xs_astore (lv' := [some (.ref (this)), some (.int (p1)), some (.int (p2)), some (.int (p3)), some (.int (p4)), some (.ref (b3)), none, none]) d_Q_propose_5 rfl rfl ?_
    refine xw_aload d_Q_propose_7 rfl ?_
    refine xw_ifnull d_Q_propose_9 ?_
    refine xw_iload_n d_Q_propose_12 rfl rfl ?_
    refine xw_iload_n d_Q_propose_13 rfl rfl ?_
    refine xw_iload d_Q_propose_14 rfl ?_
    refine xc_S3i lk_Q_97 st_Q_isConfiguration d_Q_propose_16 (x_Q_isConfiguration hw) rfl rfl ?_
    intro x5 h4 hw
    refine xw_if_ne (tgt := 24) d_Q_propose_19 (by decide) (fun c29 => ?_) (fun c29 => ?_)
    · have hw := hw.1 c29
      refine xw_aload d_Q_propose_24 rfl ?_
      obtain ⟨f6, a7, hA, hB, hw⟩ := hw
      refine xw_getr fr_Q_55 d_Q_propose_26 hA hB ?_
      refine xw_iconst (v := 1) d_Q_propose_29 (by decide) ?_
      obtain ⟨⟨f9, hA⟩, hw⟩ := hw
      refine xc_V1i lk_Q_101 in_Se_having d_Q_propose_30 (x_Se_having hw) rfl hA rfl ?_
      intro x10 h8 hw
      refine xc_S1i lk_Q_105 st_Q_greatest d_Q_propose_33 (x_Q_greatest hw) rfl rfl ?_
      intro x12 h11 hw
      refine xw_iconst (v := 1) d_Q_propose_36 (by decide) ?_
      refine xw_iadd d_Q_propose_37 ?_
      refine xs_istore (lv' := [some (.ref (this)), some (.int (p1)), some (.int (p2)), some (.int (p3)), some (.int (p4)), some (.ref (b3)), some (.int (x12 + 1)), none]) d_Q_propose_38 rfl rfl ?_
      refine xw_iload d_Q_propose_40 rfl ?_
      refine xw_bipush (v := 16) d_Q_propose_42 (by decide) ?_
      refine xw_icmp_lt (tgt := 49) d_Q_propose_44 (by decide) (fun c28 => ?_) (fun c28 => ?_)
      · have hw := hw.1 c28
        refine xw_aload_n d_Q_propose_49 rfl rfl ?_
        refine xw_iload_n d_Q_propose_50 rfl rfl ?_
        refine xw_iconst (v := 3) d_Q_propose_51 (by decide) ?_
        refine xw_iload d_Q_propose_52 rfl ?_
        obtain ⟨⟨f14, hA⟩, hw⟩ := hw
        refine xc_V3r lk_Q_69 in_Q_openTask d_Q_propose_54 (x_Q_openTask hw) rfl hA rfl ?_ ?_
        · intro h13 hw
          refine xs_astoreN (lv' := [some (.ref (this)), some (.int (p1)), some (.int (p2)), some (.int (p3)), some (.int (p4)), some (.ref (b3)), some (.int (x12 + 1)), some (.null)]) d_Q_propose_57 rfl rfl ?_
          refine xw_aloadN d_Q_propose_59 rfl ?_
          refine xw_ifnonnullN d_Q_propose_61 ?_
          refine xw_iconst (v := -1) d_Q_propose_64 (by decide) ?_
          exact xw_ireturn rfl d_Q_propose_65 hw
        · intro b15 h13 hw
          refine xs_astore (lv' := [some (.ref (this)), some (.int (p1)), some (.int (p2)), some (.int (p3)), some (.int (p4)), some (.ref (b3)), some (.int (x12 + 1)), some (.ref (b15))]) d_Q_propose_57 rfl rfl ?_
          refine xw_aload d_Q_propose_59 rfl ?_
          refine xw_ifnonnull (tgt := 66) d_Q_propose_61 (by decide) ?_
          refine xw_aload d_Q_propose_66 rfl ?_
          obtain ⟨f16, a17, hA, hB, hw⟩ := hw
          refine xw_getr fr_Q_84 d_Q_propose_68 hA hB ?_
          refine xw_iload_n d_Q_propose_71 rfl rfl ?_
          refine xw_iload_n d_Q_propose_72 rfl rfl ?_
          refine xw_iload d_Q_propose_73 rfl ?_
          refine xc_S3i lk_Q_45 st_Q_configuration d_Q_propose_75 (x_Q_configuration hw) rfl rfl ?_
          intro x19 h18 hw
          obtain ⟨f20, hA, hB, hw⟩ := hw
          refine xw_puti fs_Q_108 d_Q_propose_78 hA hB ?_
          generalize hh : xu h18 a17 (.inr (6, f20.set 9 (.int (x19)))) = h21
          have hw := hw h21 hh.symm
          refine xw_aload_n d_Q_propose_81 rfl rfl ?_
          refine xw_aload d_Q_propose_82 rfl ?_
          obtain ⟨⟨f23, hA⟩, hw⟩ := hw
          refine xc_V1n lk_Q_73 in_Q_beginFirst d_Q_propose_84 (x_Q_beginFirst hw) rfl hA rfl ?_
          intro h22 hw
          refine xw_aload_n d_Q_propose_87 rfl rfl ?_
          refine xw_aload d_Q_propose_88 rfl ?_
          obtain ⟨⟨f25, hA⟩, hw⟩ := hw
          refine xc_V1n lk_Q_77 in_Q_settle d_Q_propose_90 (x_Q_settle hw) rfl hA rfl ?_
          intro h24 hw
          refine xw_aload d_Q_propose_93 rfl ?_
          refine xc_S1i lk_Q_80 st_Q_started d_Q_propose_95 (x_Q_started hw) rfl rfl ?_
          intro x27 h26 hw
          exact xw_ireturn rfl d_Q_propose_98 hw
      · have hw := hw.2 c28
        refine xw_iconst (v := -1) d_Q_propose_47 (by decide) ?_
        exact xw_ireturn rfl d_Q_propose_48 hw
    · have hw := hw.2 c29
      refine xw_iconst (v := -1) d_Q_propose_22 (by decide) ?_
      exact xw_ireturn rfl d_Q_propose_23 hw
set_option maxRecDepth 100000 in
def w_Q_retire (Q : Option Value → xH → Prop) (this : Nat) (p1 : Int32) (h : xH) : Prop := (∃ f2, h.2 this = some (.inr (0, f2))) ∧ w_Q_find (fun v h1 => (v = some .null ∧ Q (some (.int (-1))) h1) ∨ ∃ b3, v = some (.ref b3) ∧ ∃ (f4 : List Value) (a5 : Nat), h1.2 b3 = some (.inr (4, f4)) ∧ f4[8]? = some (.ref a5) ∧ (∃ f7, h1.2 a5 = some (.inr (5, f7))) ∧ w_Se_having (fun v h6 => ∃ (x8 : Int32), v = some (.int x8) ∧ w_JI_bitCount (fun v h9 => ∃ (x10 : Int32), v = some (.int x10) ∧ ((2 ≤ x10 → w_Q_greatest (fun v h11 => ∃ (x12 : Int32), v = some (.int x12) ∧ (∃ f14, h11.2 this = some (.inr (0, f14))) ∧ w_Q_openTask (fun v h13 => (v = some .null ∧ Q (some (.int (-1))) h13) ∨ ∃ b15, v = some (.ref b15) ∧ ∃ (f16 : List Value) (a17 : Nat), h13.2 b15 = some (.inr (4, f16)) ∧ f16[10]? = some (.ref a17) ∧ ∃ f18, h13.2 a17 = some (.inr (6, f18)) ∧ 12 < f18.length ∧ ∀ h19, h19 = xu h13 a17 (.inr (6, f18.set 12 (.int (x8 &&& (((1 : Int32) <<< (x12 &&& 31)) ^^^ (-1)))))) → (∃ f21, h19.2 this = some (.inr (0, f21))) ∧ w_Q_beginFirst (fun v h20 => v = none ∧ (∃ f23, h20.2 this = some (.inr (0, f23))) ∧ w_Q_settle (fun v h22 => v = none ∧ w_Q_started (fun v h24 => ∃ (x25 : Int32), v = some (.int x25) ∧ Q (some (.int x25)) h24) b15 h22) this b15 h20) this b15 h19) this p1 4 x12 h11) x8 h9) ∧ (¬ 2 ≤ x10 → Q (some (.int (-1))) h9))) x8 h6) a5 1 h1) this p1 h
set_option maxRecDepth 100000 in
set_option maxHeartbeats 4000000 in
theorem x_Q_retire {sc : List Int32} {Q : Option Value → xH → Prop} {this : Nat} {p1 : Int32} {h : xH} (hw : w_Q_retire Q this p1 h) : xMet sc m_Q_retire 7 0 0 [.ref (this), .int (p1)] h Q := by
  unfold w_Q_retire at hw
  refine xMet.of2 cw_Q_retire rfl rfl ?_
  show xW sc m_Q_retire 7 0 0 0 [some (.ref (this)), some (.int (p1)), none, none, none, none] [] h Q
  refine xw_aload_n d_Q_retire_0 rfl rfl ?_
  refine xw_iload_n d_Q_retire_1 rfl rfl ?_
  obtain ⟨⟨f2, hA⟩, hw⟩ := hw
  refine xc_V1r lk_Q_93 in_Q_find d_Q_retire_2 (x_Q_find hw) rfl hA rfl ?_ ?_
  · intro h1 hw
    refine xs_astore_nN (lv' := [some (.ref (this)), some (.int (p1)), some (.null), none, none, none]) d_Q_retire_5 rfl rfl rfl ?_
    refine xw_aload_nN d_Q_retire_6 rfl rfl ?_
    refine xw_ifnonnullN d_Q_retire_7 ?_
    refine xw_iconst (v := -1) d_Q_retire_10 (by decide) ?_
    exact xw_ireturn rfl d_Q_retire_11 hw
  · intro b3 h1 hw
    refine xs_astore_n (lv' := [some (.ref (this)), some (.int (p1)), some (.ref (b3)), none, none, none]) d_Q_retire_5 rfl rfl rfl ?_
    refine xw_aload_n d_Q_retire_6 rfl rfl ?_
    refine xw_ifnonnull (tgt := 12) d_Q_retire_7 (by decide) ?_
    refine xw_aload_n d_Q_retire_12 rfl rfl ?_
    obtain ⟨f4, a5, hA, hB, hw⟩ := hw
    refine xw_getr fr_Q_55 d_Q_retire_13 hA hB ?_
    refine xw_iconst (v := 1) d_Q_retire_16 (by decide) ?_
    obtain ⟨⟨f7, hA⟩, hw⟩ := hw
    refine xc_V1i lk_Q_101 in_Se_having d_Q_retire_17 (x_Se_having hw) rfl hA rfl ?_
    intro x8 h6 hw
    refine xs_istore_n (lv' := [some (.ref (this)), some (.int (p1)), some (.ref (b3)), some (.int (x8)), none, none]) d_Q_retire_20 rfl rfl rfl ?_
    refine xw_iload_n d_Q_retire_21 rfl rfl ?_
    refine xc_S1i lk_Q_111 st_JI_bitCount d_Q_retire_22 (x_JI_bitCount hw) rfl rfl ?_
    intro x10 h9 hw
    refine xw_iconst (v := 2) d_Q_retire_25 (by decide) ?_
    refine xw_icmp_ge (tgt := 31) d_Q_retire_26 (by decide) (fun c26 => ?_) (fun c26 => ?_)
    · have hw := hw.1 c26
      refine xw_iload_n d_Q_retire_31 rfl rfl ?_
      refine xc_S1i lk_Q_105 st_Q_greatest d_Q_retire_32 (x_Q_greatest hw) rfl rfl ?_
      intro x12 h11 hw
      refine xs_istore (lv' := [some (.ref (this)), some (.int (p1)), some (.ref (b3)), some (.int (x8)), some (.int (x12)), none]) d_Q_retire_35 rfl rfl ?_
      refine xw_aload_n d_Q_retire_37 rfl rfl ?_
      refine xw_iload_n d_Q_retire_38 rfl rfl ?_
      refine xw_iconst (v := 4) d_Q_retire_39 (by decide) ?_
      refine xw_iload d_Q_retire_40 rfl ?_
      obtain ⟨⟨f14, hA⟩, hw⟩ := hw
      refine xc_V3r lk_Q_69 in_Q_openTask d_Q_retire_42 (x_Q_openTask hw) rfl hA rfl ?_ ?_
      · intro h13 hw
        refine xs_astoreN (lv' := [some (.ref (this)), some (.int (p1)), some (.ref (b3)), some (.int (x8)), some (.int (x12)), some (.null)]) d_Q_retire_45 rfl rfl ?_
        refine xw_aloadN d_Q_retire_47 rfl ?_
        refine xw_ifnonnullN d_Q_retire_49 ?_
        refine xw_iconst (v := -1) d_Q_retire_52 (by decide) ?_
        exact xw_ireturn rfl d_Q_retire_53 hw
      · intro b15 h13 hw
        refine xs_astore (lv' := [some (.ref (this)), some (.int (p1)), some (.ref (b3)), some (.int (x8)), some (.int (x12)), some (.ref (b15))]) d_Q_retire_45 rfl rfl ?_
        refine xw_aload d_Q_retire_47 rfl ?_
        refine xw_ifnonnull (tgt := 54) d_Q_retire_49 (by decide) ?_
        refine xw_aload d_Q_retire_54 rfl ?_
        obtain ⟨f16, a17, hA, hB, hw⟩ := hw
        refine xw_getr fr_Q_84 d_Q_retire_56 hA hB ?_
        refine xw_iload_n d_Q_retire_59 rfl rfl ?_
        refine xw_iconst (v := 1) d_Q_retire_60 (by decide) ?_
        refine xw_iload d_Q_retire_61 rfl ?_
        refine xw_ishl d_Q_retire_63 ?_
        refine xw_iconst (v := -1) d_Q_retire_64 (by decide) ?_
        refine xw_ixor d_Q_retire_65 ?_
        refine xw_iand d_Q_retire_66 ?_
        obtain ⟨f18, hA, hB, hw⟩ := hw
        refine xw_puti fs_Q_116 d_Q_retire_67 hA hB ?_
        generalize hh : xu h13 a17 (.inr (6, f18.set 12 (.int (x8 &&& (((1 : Int32) <<< (x12 &&& 31)) ^^^ (-1)))))) = h19
        have hw := hw h19 hh.symm
        refine xw_aload_n d_Q_retire_70 rfl rfl ?_
        refine xw_aload d_Q_retire_71 rfl ?_
        obtain ⟨⟨f21, hA⟩, hw⟩ := hw
        refine xc_V1n lk_Q_73 in_Q_beginFirst d_Q_retire_73 (x_Q_beginFirst hw) rfl hA rfl ?_
        intro h20 hw
        refine xw_aload_n d_Q_retire_76 rfl rfl ?_
        refine xw_aload d_Q_retire_77 rfl ?_
        obtain ⟨⟨f23, hA⟩, hw⟩ := hw
        refine xc_V1n lk_Q_77 in_Q_settle d_Q_retire_79 (x_Q_settle hw) rfl hA rfl ?_
        intro h22 hw
        refine xw_aload d_Q_retire_82 rfl ?_
        refine xc_S1i lk_Q_80 st_Q_started d_Q_retire_84 (x_Q_started hw) rfl rfl ?_
        intro x25 h24 hw
        exact xw_ireturn rfl d_Q_retire_87 hw
    · have hw := hw.2 c26
      refine xw_iconst (v := -1) d_Q_retire_29 (by decide) ?_
      exact xw_ireturn rfl d_Q_retire_30 hw
set_option maxRecDepth 100000 in
def w_Q_askAgain_58 (Q : Option Value → xH → Prop) (L25 : Nat → Nat → Int32 → Int32 → xH → Prop) (l0 : Nat) (l1 : Nat) (l2 : Int32) (l3 : Int32) (h : xH) : Prop := L25 (l0) (l1) (l2) (l3 + 1) h
set_option maxRecDepth 100000 in
set_option maxHeartbeats 4000000 in
theorem p_Q_askAgain_58 {sc : List Int32} {Q : Option Value → xH → Prop} {L25 : Nat → Nat → Int32 → Int32 → xH → Prop} (hL25 : ∀ l0 l1 l2 l3 h, L25 l0 l1 l2 l3 h → xW sc m_Q_askAgain 4 0 0 25 [some (.ref (l0)), some (.ref (l1)), some (.int (l2)), some (.int (l3))] [] h Q) (l0 : Nat) (l1 : Nat) (l2 : Int32) (l3 : Int32) (h : xH) (hw : w_Q_askAgain_58 Q L25 l0 l1 l2 l3 h) : xW sc m_Q_askAgain 4 0 0 58 [some (.ref (l0)), some (.ref (l1)), some (.int (l2)), some (.int (l3))] [] h Q := by
  unfold w_Q_askAgain_58 at hw
  refine xs_iinc (v := l3 + 1) (lv' := [some (.ref (l0)), some (.ref (l1)), some (.int (l2)), some (.int (l3 + 1))]) d_Q_askAgain_58 rfl rfl rfl ?_
  refine xw_goto (tgt := 25) d_Q_askAgain_61 (by decide) ?_
  exact hL25 (l0) (l1) (l2) (l3 + 1) h hw
set_option maxRecDepth 100000 in
def w_Q_askAgain_25 (Q : Option Value → xH → Prop) : Nat → Nat → Nat → Int32 → Int32 → xH → Prop
  | 0, _, _, _, _, _ => False
  | n + 1, l0, l1, l2, l3, h => ((8 ≤ l3 → Q none h) ∧ (¬ 8 ≤ l3 → w_Q_isIn (fun v h1 => ∃ (x2 : Int32), v = some (.int x2) ∧ ((x2 = 0 → w_Q_askAgain_58 Q (fun y0 y1 y2 y3 yh => w_Q_askAgain_25 Q n y0 y1 y2 y3 yh) (l0) (l1) (l2) (l3) h1) ∧ (¬ x2 = 0 → ∃ (f3 : List Value) (a4 : Nat), h1.2 l0 = some (.inr (0, f3)) ∧ f3[2]? = some (.ref a4) ∧ ∃ f5, h1.2 a4 = some (.inr (3, f5)) ∧ 2 < f5.length ∧ ∀ h6, h6 = xu h1 a4 (.inr (3, f5.set 2 (.int (l3)))) → ∃ (f7 : List Value) (a8 : Nat), h6.2 l0 = some (.inr (0, f7)) ∧ f7[1]? = some (.ref a8) ∧ ∃ (f9 : List Value) (a10 : Nat), h6.2 l0 = some (.inr (0, f9)) ∧ f9[2]? = some (.ref a10) ∧ (∃ f12, h6.2 a8 = some (.inr (2, f12))) ∧ w_Ma_send (fun v h11 => v = none ∧ w_Q_askAgain_58 Q (fun y0 y1 y2 y3 yh => w_Q_askAgain_25 Q n y0 y1 y2 y3 yh) (l0) (l1) (l2) (l3) h11) a8 a10 h6))) l2 l3 h))
set_option maxRecDepth 100000 in
set_option maxHeartbeats 4000000 in
theorem p_Q_askAgain_25 {sc : List Int32} {Q : Option Value → xH → Prop} : ∀ (n : Nat) (l0 : Nat) (l1 : Nat) (l2 : Int32) (l3 : Int32) (h : xH), w_Q_askAgain_25 Q n l0 l1 l2 l3 h → xW sc m_Q_askAgain 4 0 0 25 [some (.ref (l0)), some (.ref (l1)), some (.int (l2)), some (.int (l3))] [] h Q := by
  intro n
  induction n with
  | zero => intro l0 l1 l2 l3 h hw; exact False.elim hw
  | succ n ih =>
    intro l0 l1 l2 l3 h hw
    rw [w_Q_askAgain_25] at hw
    refine xw_iload_n d_Q_askAgain_25 rfl rfl ?_
    refine xw_bipush (v := 8) d_Q_askAgain_26 (by decide) ?_
    refine xw_icmp_ge (tgt := 64) d_Q_askAgain_28 (by decide) (fun c14 => ?_) (fun c14 => ?_)
    · have hw := hw.1 c14
      exact xw_return rfl d_Q_askAgain_64 hw
    · have hw := hw.2 c14
      refine xw_iload_n d_Q_askAgain_31 rfl rfl ?_
      refine xw_iload_n d_Q_askAgain_32 rfl rfl ?_
      refine xc_S2i lk_Q_298 st_Q_isIn d_Q_askAgain_33 (x_Q_isIn hw) rfl rfl ?_
      intro x2 h1 hw
      refine xw_if_eq (tgt := 58) d_Q_askAgain_36 (by decide) (fun c13 => ?_) (fun c13 => ?_)
      · have hw := hw.1 c13
        exact p_Q_askAgain_58 ih (l0) (l1) (l2) (l3) h1 hw
      · have hw := hw.2 c13
        refine xw_aload_n d_Q_askAgain_39 rfl rfl ?_
        obtain ⟨f3, a4, hA, hB, hw⟩ := hw
        refine xw_getr fr_Q_25 d_Q_askAgain_40 hA hB ?_
        refine xw_iload_n d_Q_askAgain_43 rfl rfl ?_
        obtain ⟨f5, hA, hB, hw⟩ := hw
        refine xw_puti fs_Q_163 d_Q_askAgain_44 hA hB ?_
        generalize hh : xu h1 a4 (.inr (3, f5.set 2 (.int (l3)))) = h6
        have hw := hw h6 hh.symm
        refine xw_aload_n d_Q_askAgain_47 rfl rfl ?_
        obtain ⟨f7, a8, hA, hB, hw⟩ := hw
        refine xw_getr fr_Q_18 d_Q_askAgain_48 hA hB ?_
        refine xw_aload_n d_Q_askAgain_51 rfl rfl ?_
        obtain ⟨f9, a10, hA, hB, hw⟩ := hw
        refine xw_getr fr_Q_25 d_Q_askAgain_52 hA hB ?_
        obtain ⟨⟨f12, hA⟩, hw⟩ := hw
        refine xc_V1n lk_Q_155 in_Ma_send d_Q_askAgain_55 (x_Ma_send hw) rfl hA rfl ?_
        intro h11 hw
        exact p_Q_askAgain_58 ih (l0) (l1) (l2) (l3) h11 hw
set_option maxRecDepth 100000 in
def w_Q_askAgain (Q : Option Value → xH → Prop) (this : Nat) (p1 : Nat) (h : xH) : Prop := ∃ (f1 : List Value) (a2 : Nat), h.2 p1 = some (.inr (4, f1)) ∧ f1[10]? = some (.ref a2) ∧ ∃ (f3 : List Value) (x4 : Int32), h.2 a2 = some (.inr (6, f3)) ∧ f3[5]? = some (.int x4) ∧ ∃ (f5 : List Value) (a6 : Nat), h.2 p1 = some (.inr (4, f5)) ∧ f5[10]? = some (.ref a6) ∧ ∃ (f7 : List Value) (x8 : Int32), h.2 a6 = some (.inr (6, f7)) ∧ f7[6]? = some (.int x8) ∧ (∃ f10, h.2 this = some (.inr (0, f10))) ∧ w_Q_draftRequest (fun v h9 => v = none ∧ ∃ n11, w_Q_askAgain_25 Q n11 (this) (p1) (x4 &&& (x8 ^^^ (-1))) (0) h9) this p1 h
set_option maxRecDepth 100000 in
set_option maxHeartbeats 4000000 in
theorem x_Q_askAgain {sc : List Int32} {Q : Option Value → xH → Prop} {this : Nat} {p1 : Nat} {h : xH} (hw : w_Q_askAgain Q this p1 h) : xMet sc m_Q_askAgain 4 0 0 [.ref (this), .ref (p1)] h Q := by
  unfold w_Q_askAgain at hw
  refine xMet.of2 cw_Q_askAgain rfl rfl ?_
  show xW sc m_Q_askAgain 4 0 0 0 [some (.ref (this)), some (.ref (p1)), none, none] [] h Q
  refine xw_aload_n d_Q_askAgain_0 rfl rfl ?_
  obtain ⟨f1, a2, hA, hB, hw⟩ := hw
  refine xw_getr fr_Q_84 d_Q_askAgain_1 hA hB ?_
  obtain ⟨f3, x4, hA, hB, hw⟩ := hw
  refine xw_getr fr_Q_132 d_Q_askAgain_4 hA hB ?_
  refine xw_aload_n d_Q_askAgain_7 rfl rfl ?_
  obtain ⟨f5, a6, hA, hB, hw⟩ := hw
  refine xw_getr fr_Q_84 d_Q_askAgain_8 hA hB ?_
  obtain ⟨f7, x8, hA, hB, hw⟩ := hw
  refine xw_getr fr_Q_135 d_Q_askAgain_11 hA hB ?_
  refine xw_iconst (v := -1) d_Q_askAgain_14 (by decide) ?_
  refine xw_ixor d_Q_askAgain_15 ?_
  refine xw_iand d_Q_askAgain_16 ?_
  refine xs_istore_n (lv' := [some (.ref (this)), some (.ref (p1)), some (.int (x4 &&& (x8 ^^^ (-1)))), none]) d_Q_askAgain_17 rfl rfl rfl ?_
  refine xw_aload_n d_Q_askAgain_18 rfl rfl ?_
  refine xw_aload_n d_Q_askAgain_19 rfl rfl ?_
  obtain ⟨⟨f10, hA⟩, hw⟩ := hw
  refine xc_V1n lk_Q_335 in_Q_draftRequest d_Q_askAgain_20 (x_Q_draftRequest hw) rfl hA rfl ?_
  intro h9 hw
  refine xw_iconst (v := 0) d_Q_askAgain_23 (by decide) ?_
  refine xs_istore_n (lv' := [some (.ref (this)), some (.ref (p1)), some (.int (x4 &&& (x8 ^^^ (-1)))), some (.int (0))]) d_Q_askAgain_24 rfl rfl rfl ?_
  obtain ⟨n11, hw⟩ := hw
  exact p_Q_askAgain_25  n11 (this) (p1) (x4 &&& (x8 ^^^ (-1))) (0) h9 hw
set_option maxRecDepth 100000 in
def w_Q_again_50 (Q : Option Value → xH → Prop) (l0 : Nat) (l1 : Int32) (l2 : Nat) (l3 : Nat) (h : xH) : Prop := (∃ f2, h.2 l2 = some (.inr (4, f2))) ∧ w_No_isUp (fun v h1 => ∃ (x3 : Int32), v = some (.int x3) ∧ ((x3 = 0 → Q (some (.int (-9))) h1) ∧ (¬ x3 = 0 → ∃ (f4 : List Value) (x5 : Int32), h1.2 l3 = some (.inr (6, f4)) ∧ f4[5]? = some (.int x5) ∧ ∃ (f6 : List Value) (x7 : Int32), h1.2 l3 = some (.inr (6, f6)) ∧ f6[6]? = some (.int x7) ∧ w_JI_bitCount (fun v h8 => ∃ (x9 : Int32), v = some (.int x9) ∧ Q (some (.int x9)) h8) (x5 &&& (x7 ^^^ (-1))) h1))) l2 h
set_option maxRecDepth 100000 in
set_option maxHeartbeats 4000000 in
theorem p_Q_again_50 {sc : List Int32} {Q : Option Value → xH → Prop} (l0 : Nat) (l1 : Int32) (l2 : Nat) (l3 : Nat) (h : xH) (hw : w_Q_again_50 Q l0 l1 l2 l3 h) : xW sc m_Q_again 7 0 0 50 [some (.ref (l0)), some (.int (l1)), some (.ref (l2)), some (.ref (l3))] [] h Q := by
  unfold w_Q_again_50 at hw
  refine xw_aload_n d_Q_again_50 rfl rfl ?_
  obtain ⟨⟨f2, hA⟩, hw⟩ := hw
  refine xc_V0i lk_Q_129 in_No_isUp d_Q_again_51 (x_No_isUp hw) rfl hA rfl ?_
  intro x3 h1 hw
  refine xw_if_eq (tgt := 74) d_Q_again_54 (by decide) (fun c10 => ?_) (fun c10 => ?_)
  · have hw := hw.1 c10
    refine xw_bipush (v := -9) d_Q_again_74 (by decide) ?_
    exact xw_ireturn rfl d_Q_again_76 hw
  · have hw := hw.2 c10
    refine xw_aload_n d_Q_again_57 rfl rfl ?_
    obtain ⟨f4, x5, hA, hB, hw⟩ := hw
    refine xw_getr fr_Q_132 d_Q_again_58 hA hB ?_
    refine xw_aload_n d_Q_again_61 rfl rfl ?_
    obtain ⟨f6, x7, hA, hB, hw⟩ := hw
    refine xw_getr fr_Q_135 d_Q_again_62 hA hB ?_
    refine xw_iconst (v := -1) d_Q_again_65 (by decide) ?_
    refine xw_ixor d_Q_again_66 ?_
    refine xw_iand d_Q_again_67 ?_
    refine xc_S1i lk_Q_111 st_JI_bitCount d_Q_again_68 (x_JI_bitCount hw) rfl rfl ?_
    intro x9 h8 hw
    refine xw_goto (tgt := 76) d_Q_again_71 (by decide) ?_
    exact xw_ireturn rfl d_Q_again_76 hw
set_option maxRecDepth 100000 in
def w_Q_again (Q : Option Value → xH → Prop) (this : Nat) (p1 : Int32) (h : xH) : Prop := (∃ f2, h.2 this = some (.inr (0, f2))) ∧ w_Q_find (fun v h1 => (v = some .null ∧ Q (some (.int (-1))) h1) ∨ ∃ b3, v = some (.ref b3) ∧ (∃ f5, h1.2 b3 = some (.inr (4, f5))) ∧ w_No_isBusy (fun v h4 => ∃ (x6 : Int32), v = some (.int x6) ∧ ((¬ x6 = 0 → ∃ (f7 : List Value) (a8 : Nat), h4.2 b3 = some (.inr (4, f7)) ∧ f7[10]? = some (.ref a8) ∧ ∃ (f9 : List Value) (x10 : Int32), h4.2 a8 = some (.inr (6, f9)) ∧ f9[1]? = some (.int x10) ∧ ((¬ x10 = 3 → (∃ f12, h4.2 this = some (.inr (0, f12))) ∧ w_Q_askAgain (fun v h11 => v = none ∧ w_Q_again_50 Q (this) (p1) (b3) (a8) h11) this b3 h4) ∧ (x10 = 3 → (∃ f14, h4.2 this = some (.inr (0, f14))) ∧ w_Q_beginFirst (fun v h13 => v = none ∧ (∃ f16, h13.2 this = some (.inr (0, f16))) ∧ w_Q_settle (fun v h15 => v = none ∧ w_Q_again_50 Q (this) (p1) (b3) (a8) h15) this b3 h13) this b3 h4))) ∧ (x6 = 0 → Q (some (.int (-1))) h4))) b3 h1) this p1 h
set_option maxRecDepth 100000 in
set_option maxHeartbeats 4000000 in
theorem x_Q_again {sc : List Int32} {Q : Option Value → xH → Prop} {this : Nat} {p1 : Int32} {h : xH} (hw : w_Q_again Q this p1 h) : xMet sc m_Q_again 7 0 0 [.ref (this), .int (p1)] h Q := by
  unfold w_Q_again at hw
  refine xMet.of2 cw_Q_again rfl rfl ?_
  show xW sc m_Q_again 7 0 0 0 [some (.ref (this)), some (.int (p1)), none, none] [] h Q
  refine xw_aload_n d_Q_again_0 rfl rfl ?_
  refine xw_iload_n d_Q_again_1 rfl rfl ?_
  obtain ⟨⟨f2, hA⟩, hw⟩ := hw
  refine xc_V1r lk_Q_93 in_Q_find d_Q_again_2 (x_Q_find hw) rfl hA rfl ?_ ?_
  · intro h1 hw
    refine xs_astore_nN (lv' := [some (.ref (this)), some (.int (p1)), some (.null), none]) d_Q_again_5 rfl rfl rfl ?_
    refine xw_aload_nN d_Q_again_6 rfl rfl ?_
    refine xw_ifnullN (tgt := 17) d_Q_again_7 (by decide) ?_
    refine xw_iconst (v := -1) d_Q_again_17 (by decide) ?_
    exact xw_ireturn rfl d_Q_again_18 hw
  · intro b3 h1 hw
    refine xs_astore_n (lv' := [some (.ref (this)), some (.int (p1)), some (.ref (b3)), none]) d_Q_again_5 rfl rfl rfl ?_
    refine xw_aload_n d_Q_again_6 rfl rfl ?_
    refine xw_ifnull d_Q_again_7 ?_
    refine xw_aload_n d_Q_again_10 rfl rfl ?_
    obtain ⟨⟨f5, hA⟩, hw⟩ := hw
    refine xc_V0i lk_Q_119 in_No_isBusy d_Q_again_11 (x_No_isBusy hw) rfl hA rfl ?_
    intro x6 h4 hw
    refine xw_if_ne (tgt := 19) d_Q_again_14 (by decide) (fun c18 => ?_) (fun c18 => ?_)
    · have hw := hw.1 c18
      refine xw_aload_n d_Q_again_19 rfl rfl ?_
      obtain ⟨f7, a8, hA, hB, hw⟩ := hw
      refine xw_getr fr_Q_84 d_Q_again_20 hA hB ?_
      refine xs_astore_n (lv' := [some (.ref (this)), some (.int (p1)), some (.ref (b3)), some (.ref (a8))]) d_Q_again_23 rfl rfl rfl ?_
      refine xw_aload_n d_Q_again_24 rfl rfl ?_
      obtain ⟨f9, x10, hA, hB, hw⟩ := hw
      refine xw_getr fr_Q_123 d_Q_again_25 hA hB ?_
      refine xw_iconst (v := 3) d_Q_again_28 (by decide) ?_
      refine xw_icmp_ne (tgt := 45) d_Q_again_29 (by decide) (fun c17 => ?_) (fun c17 => ?_)
      · have hw := hw.1 c17
        refine xw_aload_n d_Q_again_45 rfl rfl ?_
        refine xw_aload_n d_Q_again_46 rfl rfl ?_
        obtain ⟨⟨f12, hA⟩, hw⟩ := hw
        refine xc_V1n lk_Q_126 in_Q_askAgain d_Q_again_47 (x_Q_askAgain hw) rfl hA rfl ?_
        intro h11 hw
        exact p_Q_again_50  (this) (p1) (b3) (a8) h11 hw
      · have hw := hw.2 c17
        refine xw_aload_n d_Q_again_32 rfl rfl ?_
        refine xw_aload_n d_Q_again_33 rfl rfl ?_
        obtain ⟨⟨f14, hA⟩, hw⟩ := hw
        refine xc_V1n lk_Q_73 in_Q_beginFirst d_Q_again_34 (x_Q_beginFirst hw) rfl hA rfl ?_
        intro h13 hw
        refine xw_aload_n d_Q_again_37 rfl rfl ?_
        refine xw_aload_n d_Q_again_38 rfl rfl ?_
        obtain ⟨⟨f16, hA⟩, hw⟩ := hw
        refine xc_V1n lk_Q_77 in_Q_settle d_Q_again_39 (x_Q_settle hw) rfl hA rfl ?_
        intro h15 hw
        refine xw_goto (tgt := 50) d_Q_again_42 (by decide) ?_
        exact p_Q_again_50  (this) (p1) (b3) (a8) h15 hw
    · have hw := hw.2 c18
      refine xw_iconst (v := -1) d_Q_again_17 (by decide) ?_
      exact xw_ireturn rfl d_Q_again_18 hw
set_option maxRecDepth 100000 in
def w_Q_gossip (Q : Option Value → xH → Prop) (this : Nat) (p1 : Int32) (p2 : Int32) (h : xH) : Prop := (∃ f2, h.2 this = some (.inr (0, f2))) ∧ w_Q_find (fun v h1 => (v = some .null ∧ (narrow .boolean (.int 0) = .int 0 ∧ Q (some (.int 0)) h1)) ∨ ∃ b3, v = some (.ref b3) ∧ (∃ f5, h1.2 this = some (.inr (0, f5))) ∧ w_Q_find (fun v h4 => (v = some .null ∧ (narrow .boolean (.int 0) = .int 0 ∧ Q (some (.int 0)) h4)) ∨ ∃ b6, v = some (.ref b6) ∧ ((¬ p1 = p2 → (∃ f8, h4.2 b3 = some (.inr (4, f8))) ∧ w_No_isUp (fun v h7 => ∃ (x9 : Int32), v = some (.int x9) ∧ ((x9 = 0 → (narrow .boolean (.int 0) = .int 0 ∧ Q (some (.int 0)) h7)) ∧ (¬ x9 = 0 → ∃ (f10 : List Value) (a11 : Nat), h7.2 b3 = some (.inr (4, f10)) ∧ f10[8]? = some (.ref a11) ∧ (∃ f13, h7.2 a11 = some (.inr (5, f13))) ∧ w_Se_having (fun v h12 => ∃ (x14 : Int32), v = some (.int x14) ∧ ((¬ x14 = 0 → ∃ (f15 : List Value) (a16 : Nat), h12.2 this = some (.inr (0, f15)) ∧ f15[2]? = some (.ref a16) ∧ (∃ f18, h12.2 a16 = some (.inr (3, f18))) ∧ w_Me_open (fun v h17 => v = none ∧ ∃ (f19 : List Value) (a20 : Nat), h17.2 this = some (.inr (0, f19)) ∧ f19[2]? = some (.ref a20) ∧ ∃ (f21 : List Value) (a22 : Nat), h17.2 a20 = some (.inr (3, f21)) ∧ f21[9]? = some (.ref a22) ∧ ∃ (f23 : List Value) (a24 : Nat), h17.2 b3 = some (.inr (4, f23)) ∧ f23[7]? = some (.ref a24) ∧ (∃ f26, h17.2 a22 = some (.inr (1, f26))) ∧ w_Co_copyFrom (fun v h25 => v = none ∧ ∃ (f27 : List Value) (a28 : Nat), h25.2 this = some (.inr (0, f27)) ∧ f27[1]? = some (.ref a28) ∧ ∃ (f29 : List Value) (a30 : Nat), h25.2 this = some (.inr (0, f29)) ∧ f29[2]? = some (.ref a30) ∧ (∃ f32, h25.2 a28 = some (.inr (2, f32))) ∧ w_Ma_send (fun v h31 => v = none ∧ (narrow .boolean (.int 1) = .int 1 ∧ Q (some (.int 1)) h31)) a28 a30 h25) a22 a24 h17) a16 14 b3 p2 h12) ∧ (x14 = 0 → (narrow .boolean (.int 0) = .int 0 ∧ Q (some (.int 0)) h12)))) a11 1 h7))) b3 h4) ∧ (p1 = p2 → (narrow .boolean (.int 0) = .int 0 ∧ Q (some (.int 0)) h4)))) this p2 h1) this p1 h
set_option maxRecDepth 100000 in
set_option maxHeartbeats 4000000 in
theorem x_Q_gossip {sc : List Int32} {Q : Option Value → xH → Prop} {this : Nat} {p1 : Int32} {p2 : Int32} {h : xH} (hw : w_Q_gossip Q this p1 p2 h) : xMet sc m_Q_gossip 4 0 0 [.ref (this), .int (p1), .int (p2)] h Q := by
  unfold w_Q_gossip at hw
  refine xMet.of2 cw_Q_gossip rfl rfl ?_
  show xW sc m_Q_gossip 4 0 0 0 [some (.ref (this)), some (.int (p1)), some (.int (p2)), none] [] h Q
  refine xw_aload_n d_Q_gossip_0 rfl rfl ?_
  refine xw_iload_n d_Q_gossip_1 rfl rfl ?_
  obtain ⟨⟨f2, hA⟩, hw⟩ := hw
  refine xc_V1r lk_Q_93 in_Q_find d_Q_gossip_2 (x_Q_find hw) rfl hA rfl ?_ ?_
  · intro h1 hw
    refine xs_astore_nN (lv' := [some (.ref (this)), some (.int (p1)), some (.int (p2)), some (.null)]) d_Q_gossip_5 rfl rfl rfl ?_
    refine xw_aload_nN d_Q_gossip_6 rfl rfl ?_
    refine xw_ifnullN (tgt := 23) d_Q_gossip_7 (by decide) ?_
    refine xw_iconst (v := 0) d_Q_gossip_23 (by decide) ?_
    exact xw_zreturn rfl hw.1 d_Q_gossip_24 hw.2
  · intro b3 h1 hw
    refine xs_astore_n (lv' := [some (.ref (this)), some (.int (p1)), some (.int (p2)), some (.ref (b3))]) d_Q_gossip_5 rfl rfl rfl ?_
    refine xw_aload_n d_Q_gossip_6 rfl rfl ?_
    refine xw_ifnull d_Q_gossip_7 ?_
    refine xw_aload_n d_Q_gossip_10 rfl rfl ?_
    refine xw_iload_n d_Q_gossip_11 rfl rfl ?_
    obtain ⟨⟨f5, hA⟩, hw⟩ := hw
    refine xc_V1r lk_Q_93 in_Q_find d_Q_gossip_12 (x_Q_find hw) rfl hA rfl ?_ ?_
    · intro h4 hw
      refine xw_ifnullN (tgt := 23) d_Q_gossip_15 (by decide) ?_
      refine xw_iconst (v := 0) d_Q_gossip_23 (by decide) ?_
      exact xw_zreturn rfl hw.1 d_Q_gossip_24 hw.2
    · intro b6 h4 hw
      refine xw_ifnull d_Q_gossip_15 ?_
      refine xw_iload_n d_Q_gossip_18 rfl rfl ?_
      refine xw_iload_n d_Q_gossip_19 rfl rfl ?_
      refine xw_icmp_ne (tgt := 25) d_Q_gossip_20 (by decide) (fun c35 => ?_) (fun c35 => ?_)
      · have hw := hw.1 c35
        refine xw_aload_n d_Q_gossip_25 rfl rfl ?_
        obtain ⟨⟨f8, hA⟩, hw⟩ := hw
        refine xc_V0i lk_Q_129 in_No_isUp d_Q_gossip_26 (x_No_isUp hw) rfl hA rfl ?_
        intro x9 h7 hw
        refine xw_if_eq (tgt := 43) d_Q_gossip_29 (by decide) (fun c34 => ?_) (fun c34 => ?_)
        · have hw := hw.1 c34
          refine xw_iconst (v := 0) d_Q_gossip_43 (by decide) ?_
          exact xw_zreturn rfl hw.1 d_Q_gossip_44 hw.2
        · have hw := hw.2 c34
          refine xw_aload_n d_Q_gossip_32 rfl rfl ?_
          obtain ⟨f10, a11, hA, hB, hw⟩ := hw
          refine xw_getr fr_Q_55 d_Q_gossip_33 hA hB ?_
          refine xw_iconst (v := 1) d_Q_gossip_36 (by decide) ?_
          obtain ⟨⟨f13, hA⟩, hw⟩ := hw
          refine xc_V1i lk_Q_101 in_Se_having d_Q_gossip_37 (x_Se_having hw) rfl hA rfl ?_
          intro x14 h12 hw
          refine xw_if_ne (tgt := 45) d_Q_gossip_40 (by decide) (fun c33 => ?_) (fun c33 => ?_)
          · have hw := hw.1 c33
            refine xw_aload_n d_Q_gossip_45 rfl rfl ?_
            obtain ⟨f15, a16, hA, hB, hw⟩ := hw
            refine xw_getr fr_Q_25 d_Q_gossip_46 hA hB ?_
            refine xw_bipush (v := 14) d_Q_gossip_49 (by decide) ?_
            refine xw_aload_n d_Q_gossip_51 rfl rfl ?_
            refine xw_iload_n d_Q_gossip_52 rfl rfl ?_
            obtain ⟨⟨f18, hA⟩, hw⟩ := hw
            refine xc_V3n lk_Q_138 in_Me_open d_Q_gossip_53 (x_Me_open hw) rfl hA rfl ?_
            intro h17 hw
            refine xw_aload_n d_Q_gossip_56 rfl rfl ?_
            obtain ⟨f19, a20, hA, hB, hw⟩ := hw
            refine xw_getr fr_Q_25 d_Q_gossip_57 hA hB ?_
            obtain ⟨f21, a22, hA, hB, hw⟩ := hw
            refine xw_getr fr_Q_142 d_Q_gossip_60 hA hB ?_
            refine xw_aload_n d_Q_gossip_63 rfl rfl ?_
            obtain ⟨f23, a24, hA, hB, hw⟩ := hw
            refine xw_getr fr_Q_146 d_Q_gossip_64 hA hB ?_
            obtain ⟨⟨f26, hA⟩, hw⟩ := hw
            refine xc_V1n lk_Q_149 in_Co_copyFrom d_Q_gossip_67 (x_Co_copyFrom hw) rfl hA rfl ?_
            intro h25 hw
            refine xw_aload_n d_Q_gossip_70 rfl rfl ?_
            obtain ⟨f27, a28, hA, hB, hw⟩ := hw
            refine xw_getr fr_Q_18 d_Q_gossip_71 hA hB ?_
            refine xw_aload_n d_Q_gossip_74 rfl rfl ?_
            obtain ⟨f29, a30, hA, hB, hw⟩ := hw
            refine xw_getr fr_Q_25 d_Q_gossip_75 hA hB ?_
            obtain ⟨⟨f32, hA⟩, hw⟩ := hw
            refine xc_V1n lk_Q_155 in_Ma_send d_Q_gossip_78 (x_Ma_send hw) rfl hA rfl ?_
            intro h31 hw
            refine xw_iconst (v := 1) d_Q_gossip_81 (by decide) ?_
            exact xw_zreturn rfl hw.1 d_Q_gossip_82 hw.2
          · have hw := hw.2 c33
            refine xw_iconst (v := 0) d_Q_gossip_43 (by decide) ?_
            exact xw_zreturn rfl hw.1 d_Q_gossip_44 hw.2
      · have hw := hw.2 c35
        refine xw_iconst (v := 0) d_Q_gossip_23 (by decide) ?_
        exact xw_zreturn rfl hw.1 d_Q_gossip_24 hw.2
set_option maxRecDepth 100000 in
def w_Q_join_53 (Q : Option Value → xH → Prop) (l0 : Nat) (l1 : Int32) (l2 : Int32) (l3 : Nat) (h : xH) : Prop := ∃ f1, h.2 l3 = some (.inr (4, f1)) ∧ 1 < f1.length ∧ ∀ h2, h2 = xu h l3 (.inr (4, f1.set 1 (.int (1)))) → ∃ (f3 : List Value) (a4 : Nat), h2.2 l0 = some (.inr (0, f3)) ∧ f3[2]? = some (.ref a4) ∧ (∃ f6, h2.2 a4 = some (.inr (3, f6))) ∧ w_Me_open (fun v h5 => v = none ∧ ∃ (f7 : List Value) (a8 : Nat), h5.2 l0 = some (.inr (0, f7)) ∧ f7[1]? = some (.ref a8) ∧ ∃ (f9 : List Value) (a10 : Nat), h5.2 l0 = some (.inr (0, f9)) ∧ f9[2]? = some (.ref a10) ∧ (∃ f12, h5.2 a8 = some (.inr (2, f12))) ∧ w_Ma_send (fun v h11 => v = none ∧ (narrow .boolean (.int 1) = .int 1 ∧ Q (some (.int 1)) h11)) a8 a10 h5) a4 15 l3 l2 h2
set_option maxRecDepth 100000 in
set_option maxHeartbeats 4000000 in
theorem p_Q_join_53 {sc : List Int32} {Q : Option Value → xH → Prop} (l0 : Nat) (l1 : Int32) (l2 : Int32) (l3 : Nat) (h : xH) (hw : w_Q_join_53 Q l0 l1 l2 l3 h) : xW sc m_Q_join 4 0 0 53 [some (.ref (l0)), some (.int (l1)), some (.int (l2)), some (.ref (l3))] [] h Q := by
  unfold w_Q_join_53 at hw
  refine xw_aload_n d_Q_join_53 rfl rfl ?_
  refine xw_iconst (v := 1) d_Q_join_54 (by decide) ?_
  obtain ⟨f1, hA, hB, hw⟩ := hw
  refine xw_puti fs_Q_52 d_Q_join_55 hA hB ?_
  generalize hh : xu h l3 (.inr (4, f1.set 1 (.int (1)))) = h2
  have hw := hw h2 hh.symm
  refine xw_aload_n d_Q_join_58 rfl rfl ?_
  obtain ⟨f3, a4, hA, hB, hw⟩ := hw
  refine xw_getr fr_Q_25 d_Q_join_59 hA hB ?_
  refine xw_bipush (v := 15) d_Q_join_62 (by decide) ?_
  refine xw_aload_n d_Q_join_64 rfl rfl ?_
  refine xw_iload_n d_Q_join_65 rfl rfl ?_
  obtain ⟨⟨f6, hA⟩, hw⟩ := hw
  refine xc_V3n lk_Q_138 in_Me_open d_Q_join_66 (x_Me_open hw) rfl hA rfl ?_
  intro h5 hw
  refine xw_aload_n d_Q_join_69 rfl rfl ?_
  obtain ⟨f7, a8, hA, hB, hw⟩ := hw
  refine xw_getr fr_Q_18 d_Q_join_70 hA hB ?_
  refine xw_aload_n d_Q_join_73 rfl rfl ?_
  obtain ⟨f9, a10, hA, hB, hw⟩ := hw
  refine xw_getr fr_Q_25 d_Q_join_74 hA hB ?_
  obtain ⟨⟨f12, hA⟩, hw⟩ := hw
  refine xc_V1n lk_Q_155 in_Ma_send d_Q_join_77 (x_Ma_send hw) rfl hA rfl ?_
  intro h11 hw
  refine xw_iconst (v := 1) d_Q_join_80 (by decide) ?_
  exact xw_zreturn rfl hw.1 d_Q_join_81 hw.2
set_option maxRecDepth 100000 in
def w_Q_join (Q : Option Value → xH → Prop) (this : Nat) (p1 : Int32) (p2 : Int32) (h : xH) : Prop := (∃ f2, h.2 this = some (.inr (0, f2))) ∧ w_Q_find (fun v h1 => (v = some .null ∧ (narrow .boolean (.int 0) = .int 0 ∧ Q (some (.int 0)) h1)) ∨ ∃ b3, v = some (.ref b3) ∧ (∃ f5, h1.2 this = some (.inr (0, f5))) ∧ w_Q_find (fun v h4 => (v = some .null ∧ (narrow .boolean (.int 0) = .int 0 ∧ Q (some (.int 0)) h4)) ∨ ∃ b6, v = some (.ref b6) ∧ ((¬ p1 = p2 → ∃ (f7 : List Value) (x8 : Int32), h4.2 b3 = some (.inr (4, f7)) ∧ f7[1]? = some (.int x8) ∧ ((x8 = 2 → (narrow .boolean (.int 0) = .int 0 ∧ Q (some (.int 0)) h4)) ∧ (¬ x8 = 2 → (∃ f10, h4.2 b3 = some (.inr (4, f10))) ∧ w_No_isUp (fun v h9 => ∃ (x11 : Int32), v = some (.int x11) ∧ ((x11 = 0 → w_Q_join_53 Q (this) (p1) (p2) (b3) h9) ∧ (¬ x11 = 0 → ∃ (f12 : List Value) (a13 : Nat), h9.2 b3 = some (.inr (4, f12)) ∧ f12[8]? = some (.ref a13) ∧ (∃ f15, h9.2 a13 = some (.inr (5, f15))) ∧ w_Se_having (fun v h14 => ∃ (x16 : Int32), v = some (.int x16) ∧ ((x16 = 0 → w_Q_join_53 Q (this) (p1) (p2) (b3) h14) ∧ (¬ x16 = 0 → (narrow .boolean (.int 0) = .int 0 ∧ Q (some (.int 0)) h14)))) a13 1 h9))) b3 h4))) ∧ (p1 = p2 → (narrow .boolean (.int 0) = .int 0 ∧ Q (some (.int 0)) h4)))) this p2 h1) this p1 h
set_option maxRecDepth 100000 in
set_option maxHeartbeats 4000000 in
theorem x_Q_join {sc : List Int32} {Q : Option Value → xH → Prop} {this : Nat} {p1 : Int32} {p2 : Int32} {h : xH} (hw : w_Q_join Q this p1 p2 h) : xMet sc m_Q_join 4 0 0 [.ref (this), .int (p1), .int (p2)] h Q := by
  unfold w_Q_join at hw
  refine xMet.of2 cw_Q_join rfl rfl ?_
  show xW sc m_Q_join 4 0 0 0 [some (.ref (this)), some (.int (p1)), some (.int (p2)), none] [] h Q
  refine xw_aload_n d_Q_join_0 rfl rfl ?_
  refine xw_iload_n d_Q_join_1 rfl rfl ?_
  obtain ⟨⟨f2, hA⟩, hw⟩ := hw
  refine xc_V1r lk_Q_93 in_Q_find d_Q_join_2 (x_Q_find hw) rfl hA rfl ?_ ?_
  · intro h1 hw
    refine xs_astore_nN (lv' := [some (.ref (this)), some (.int (p1)), some (.int (p2)), some (.null)]) d_Q_join_5 rfl rfl rfl ?_
    refine xw_aload_nN d_Q_join_6 rfl rfl ?_
    refine xw_ifnullN (tgt := 23) d_Q_join_7 (by decide) ?_
    refine xw_iconst (v := 0) d_Q_join_23 (by decide) ?_
    exact xw_zreturn rfl hw.1 d_Q_join_24 hw.2
  · intro b3 h1 hw
    refine xs_astore_n (lv' := [some (.ref (this)), some (.int (p1)), some (.int (p2)), some (.ref (b3))]) d_Q_join_5 rfl rfl rfl ?_
    refine xw_aload_n d_Q_join_6 rfl rfl ?_
    refine xw_ifnull d_Q_join_7 ?_
    refine xw_aload_n d_Q_join_10 rfl rfl ?_
    refine xw_iload_n d_Q_join_11 rfl rfl ?_
    obtain ⟨⟨f5, hA⟩, hw⟩ := hw
    refine xc_V1r lk_Q_93 in_Q_find d_Q_join_12 (x_Q_find hw) rfl hA rfl ?_ ?_
    · intro h4 hw
      refine xw_ifnullN (tgt := 23) d_Q_join_15 (by decide) ?_
      refine xw_iconst (v := 0) d_Q_join_23 (by decide) ?_
      exact xw_zreturn rfl hw.1 d_Q_join_24 hw.2
    · intro b6 h4 hw
      refine xw_ifnull d_Q_join_15 ?_
      refine xw_iload_n d_Q_join_18 rfl rfl ?_
      refine xw_iload_n d_Q_join_19 rfl rfl ?_
      refine xw_icmp_ne (tgt := 25) d_Q_join_20 (by decide) (fun c20 => ?_) (fun c20 => ?_)
      · have hw := hw.1 c20
        refine xw_aload_n d_Q_join_25 rfl rfl ?_
        obtain ⟨f7, x8, hA, hB, hw⟩ := hw
        refine xw_getr fr_Q_52 d_Q_join_26 hA hB ?_
        refine xw_iconst (v := 2) d_Q_join_29 (by decide) ?_
        refine xw_icmp_eq (tgt := 51) d_Q_join_30 (by decide) (fun c19 => ?_) (fun c19 => ?_)
        · have hw := hw.1 c19
          refine xw_iconst (v := 0) d_Q_join_51 (by decide) ?_
          exact xw_zreturn rfl hw.1 d_Q_join_52 hw.2
        · have hw := hw.2 c19
          refine xw_aload_n d_Q_join_33 rfl rfl ?_
          obtain ⟨⟨f10, hA⟩, hw⟩ := hw
          refine xc_V0i lk_Q_129 in_No_isUp d_Q_join_34 (x_No_isUp hw) rfl hA rfl ?_
          intro x11 h9 hw
          refine xw_if_eq (tgt := 53) d_Q_join_37 (by decide) (fun c18 => ?_) (fun c18 => ?_)
          · have hw := hw.1 c18
            exact p_Q_join_53  (this) (p1) (p2) (b3) h9 hw
          · have hw := hw.2 c18
            refine xw_aload_n d_Q_join_40 rfl rfl ?_
            obtain ⟨f12, a13, hA, hB, hw⟩ := hw
            refine xw_getr fr_Q_55 d_Q_join_41 hA hB ?_
            refine xw_iconst (v := 1) d_Q_join_44 (by decide) ?_
            obtain ⟨⟨f15, hA⟩, hw⟩ := hw
            refine xc_V1i lk_Q_101 in_Se_having d_Q_join_45 (x_Se_having hw) rfl hA rfl ?_
            intro x16 h14 hw
            refine xw_if_eq (tgt := 53) d_Q_join_48 (by decide) (fun c17 => ?_) (fun c17 => ?_)
            · have hw := hw.1 c17
              exact p_Q_join_53  (this) (p1) (p2) (b3) h14 hw
            · have hw := hw.2 c17
              refine xw_iconst (v := 0) d_Q_join_51 (by decide) ?_
              exact xw_zreturn rfl hw.1 d_Q_join_52 hw.2
      · have hw := hw.2 c20
        refine xw_iconst (v := 0) d_Q_join_23 (by decide) ?_
        exact xw_zreturn rfl hw.1 d_Q_join_24 hw.2
set_option maxRecDepth 100000 in
def w_Q_look_78 (Q : Option Value → xH → Prop) (l0 : Nat) (l1 : Nat) (l2 : Int32) (l3 : Nat) (h : xH) : Prop := (∃ f2, h.2 l0 = some (.inr (0, f2))) ∧ w_Q_ask (fun v h1 => v = none ∧ Q none h1) l0 l1 h
set_option maxRecDepth 100000 in
set_option maxHeartbeats 4000000 in
theorem p_Q_look_78 {sc : List Int32} {Q : Option Value → xH → Prop} (l0 : Nat) (l1 : Nat) (l2 : Int32) (l3 : Nat) (h : xH) (hw : w_Q_look_78 Q l0 l1 l2 l3 h) : xW sc m_Q_look 6 0 0 78 [some (.ref (l0)), some (.ref (l1)), some (.int (l2)), some (.ref (l3))] [] h Q := by
  unfold w_Q_look_78 at hw
  refine xw_aload_n d_Q_look_78 rfl rfl ?_
  refine xw_aload_n d_Q_look_79 rfl rfl ?_
  obtain ⟨⟨f2, hA⟩, hw⟩ := hw
  refine xc_V1n lk_Q_319 in_Q_ask d_Q_look_80 (x_Q_ask hw) rfl hA rfl ?_
  intro h1 hw
  exact xw_return rfl d_Q_look_83 hw
set_option maxRecDepth 100000 in
def w_Q_look (Q : Option Value → xH → Prop) (this : Nat) (p1 : Nat) (p2 : Int32) (h : xH) : Prop := ∃ (f1 : List Value) (a2 : Nat), h.2 p1 = some (.inr (4, f1)) ∧ f1[10]? = some (.ref a2) ∧ (∃ f4, h.2 p1 = some (.inr (4, f4))) ∧ w_No_isBusy (fun v h3 => ∃ (x5 : Int32), v = some (.int x5) ∧ ((¬ x5 = 0 → ∃ (f6 : List Value) (x7 : Int32), h3.2 a2 = some (.inr (6, f6)) ∧ f6[1]? = some (.int x7) ∧ ((¬ x7 = 3 → (∃ f9, h3.2 a2 = some (.inr (6, f9))) ∧ w_Ta_isOfObject (fun v h8 => ∃ (x10 : Int32), v = some (.int x10) ∧ ((x10 = 0 → Q none h8) ∧ (¬ x10 = 0 → ∃ (f11 : List Value) (x12 : Int32), h8.2 a2 = some (.inr (6, f11)) ∧ f11[2]? = some (.int x12) ∧ ((¬ x12 = 1 → w_Q_look_78 Q (this) (p1) (p2) (a2) h8) ∧ (x12 = 1 → ∃ (f13 : List Value) (a14 : Nat), h8.2 p1 = some (.inr (4, f13)) ∧ f13[8]? = some (.ref a14) ∧ (∃ f16, h8.2 a14 = some (.inr (5, f16))) ∧ w_Se_having (fun v h15 => ∃ (x17 : Int32), v = some (.int x17) ∧ (((p2 &&& x17) = 0 → w_Q_look_78 Q (this) (p1) (p2) (a2) h15) ∧ (¬ (p2 &&& x17) = 0 → (∃ f19, h15.2 this = some (.inr (0, f19))) ∧ w_Q_beginFirst (fun v h18 => v = none ∧ Q none h18) this p1 h15))) a14 2 h8))))) a2 h3) ∧ (x7 = 3 → ∃ (f23 : List Value) (a24 : Nat), h3.2 p1 = some (.inr (4, f23)) ∧ f23[8]? = some (.ref a24) ∧ ∃ (f25 : List Value) (x26 : Int32), h3.2 a2 = some (.inr (6, f25)) ∧ f25[3]? = some (.int x26) ∧ (∃ f28, h3.2 a24 = some (.inr (5, f28))) ∧ w_Se_stateOf (fun v h27 => ∃ (x29 : Int32), v = some (.int x29) ∧ ((x29 = 0 → Q none h27) ∧ (¬ x29 = 0 → w_Q_conclude (fun v h30 => v = none ∧ Q none h30) p1 h27))) a24 x26 h3))) ∧ (x5 = 0 → Q none h3))) p1 h
set_option maxRecDepth 100000 in
set_option maxHeartbeats 4000000 in
theorem x_Q_look {sc : List Int32} {Q : Option Value → xH → Prop} {this : Nat} {p1 : Nat} {p2 : Int32} {h : xH} (hw : w_Q_look Q this p1 p2 h) : xMet sc m_Q_look 6 0 0 [.ref (this), .ref (p1), .int (p2)] h Q := by
  unfold w_Q_look at hw
  refine xMet.of2 cw_Q_look rfl rfl ?_
  show xW sc m_Q_look 6 0 0 0 [some (.ref (this)), some (.ref (p1)), some (.int (p2)), none] [] h Q
  refine xw_aload_n d_Q_look_0 rfl rfl ?_
  obtain ⟨f1, a2, hA, hB, hw⟩ := hw
  refine xw_getr fr_Q_84 d_Q_look_1 hA hB ?_
  refine xs_astore_n (lv' := [some (.ref (this)), some (.ref (p1)), some (.int (p2)), some (.ref (a2))]) d_Q_look_4 rfl rfl rfl ?_
  refine xw_aload_n d_Q_look_5 rfl rfl ?_
  obtain ⟨⟨f4, hA⟩, hw⟩ := hw
  refine xc_V0i lk_Q_119 in_No_isBusy d_Q_look_6 (x_No_isBusy hw) rfl hA rfl ?_
  intro x5 h3 hw
  refine xw_if_ne (tgt := 13) d_Q_look_9 (by decide) (fun c33 => ?_) (fun c33 => ?_)
  · have hw := hw.1 c33
    refine xw_aload_n d_Q_look_13 rfl rfl ?_
    obtain ⟨f6, x7, hA, hB, hw⟩ := hw
    refine xw_getr fr_Q_123 d_Q_look_14 hA hB ?_
    refine xw_iconst (v := 3) d_Q_look_17 (by decide) ?_
    refine xw_icmp_ne (tgt := 42) d_Q_look_18 (by decide) (fun c32 => ?_) (fun c32 => ?_)
    · have hw := hw.1 c32
      refine xw_aload_n d_Q_look_42 rfl rfl ?_
      obtain ⟨⟨f9, hA⟩, hw⟩ := hw
      refine xc_V0i lk_Q_261 in_Ta_isOfObject d_Q_look_43 (x_Ta_isOfObject hw) rfl hA rfl ?_
      intro x10 h8 hw
      refine xw_if_eq (tgt := 83) d_Q_look_46 (by decide) (fun c22 => ?_) (fun c22 => ?_)
      · have hw := hw.1 c22
        exact xw_return rfl d_Q_look_83 hw
      · have hw := hw.2 c22
        refine xw_aload_n d_Q_look_49 rfl rfl ?_
        obtain ⟨f11, x12, hA, hB, hw⟩ := hw
        refine xw_getr fr_Q_252 d_Q_look_50 hA hB ?_
        refine xw_iconst (v := 1) d_Q_look_53 (by decide) ?_
        refine xw_icmp_ne (tgt := 78) d_Q_look_54 (by decide) (fun c21 => ?_) (fun c21 => ?_)
        · have hw := hw.1 c21
          exact p_Q_look_78  (this) (p1) (p2) (a2) h8 hw
        · have hw := hw.2 c21
          refine xw_iload_n d_Q_look_57 rfl rfl ?_
          refine xw_aload_n d_Q_look_58 rfl rfl ?_
          obtain ⟨f13, a14, hA, hB, hw⟩ := hw
          refine xw_getr fr_Q_55 d_Q_look_59 hA hB ?_
          refine xw_iconst (v := 2) d_Q_look_62 (by decide) ?_
          obtain ⟨⟨f16, hA⟩, hw⟩ := hw
          refine xc_V1i lk_Q_101 in_Se_having d_Q_look_63 (x_Se_having hw) rfl hA rfl ?_
          intro x17 h15 hw
          refine xw_iand d_Q_look_66 ?_
          refine xw_if_eq (tgt := 78) d_Q_look_67 (by decide) (fun c20 => ?_) (fun c20 => ?_)
          · have hw := hw.1 c20
            exact p_Q_look_78  (this) (p1) (p2) (a2) h15 hw
          · have hw := hw.2 c20
            refine xw_aload_n d_Q_look_70 rfl rfl ?_
            refine xw_aload_n d_Q_look_71 rfl rfl ?_
            obtain ⟨⟨f19, hA⟩, hw⟩ := hw
            refine xc_V1n lk_Q_73 in_Q_beginFirst d_Q_look_72 (x_Q_beginFirst hw) rfl hA rfl ?_
            intro h18 hw
            refine xw_goto (tgt := 83) d_Q_look_75 (by decide) ?_
            exact xw_return rfl d_Q_look_83 hw
    · have hw := hw.2 c32
      refine xw_aload_n d_Q_look_21 rfl rfl ?_
      obtain ⟨f23, a24, hA, hB, hw⟩ := hw
      refine xw_getr fr_Q_55 d_Q_look_22 hA hB ?_
      refine xw_aload_n d_Q_look_25 rfl rfl ?_
      obtain ⟨f25, x26, hA, hB, hw⟩ := hw
      refine xw_getr fr_Q_255 d_Q_look_26 hA hB ?_
      obtain ⟨⟨f28, hA⟩, hw⟩ := hw
      refine xc_V1i lk_Q_228 in_Se_stateOf d_Q_look_29 (x_Se_stateOf hw) rfl hA rfl ?_
      intro x29 h27 hw
      refine xw_if_eq (tgt := 83) d_Q_look_32 (by decide) (fun c31 => ?_) (fun c31 => ?_)
      · have hw := hw.1 c31
        exact xw_return rfl d_Q_look_83 hw
      · have hw := hw.2 c31
        refine xw_aload_n d_Q_look_35 rfl rfl ?_
        refine xc_S1n lk_Q_368 st_Q_conclude d_Q_look_36 (x_Q_conclude hw) rfl rfl ?_
        intro h30 hw
        refine xw_goto (tgt := 83) d_Q_look_39 (by decide) ?_
        exact xw_return rfl d_Q_look_83 hw
  · have hw := hw.2 c33
    exact xw_return rfl d_Q_look_12 hw
set_option maxRecDepth 100000 in
def w_Q_sendReply (Q : Option Value → xH → Prop) (this : Nat) (p1 : Nat) (h : xH) : Prop := (∃ f2, h.2 p1 = some (.inr (4, f2))) ∧ w_No_isUp (fun v h1 => ∃ (x3 : Int32), v = some (.int x3) ∧ ((x3 = 0 → Q none h1) ∧ (¬ x3 = 0 → ∃ (f4 : List Value) (a5 : Nat), h1.2 this = some (.inr (0, f4)) ∧ f4[3]? = some (.ref a5) ∧ ∃ (f6 : List Value) (x7 : Int32), h1.2 a5 = some (.inr (3, f6)) ∧ f6[0]? = some (.int x7) ∧ ((x7 = 0 → Q none h1) ∧ (¬ x7 = 0 → ∃ (f8 : List Value) (a9 : Nat), h1.2 this = some (.inr (0, f8)) ∧ f8[3]? = some (.ref a9) ∧ ∃ (f10 : List Value) (a11 : Nat), h1.2 a9 = some (.inr (3, f10)) ∧ f10[8]? = some (.ref a11) ∧ ∃ (f12 : List Value) (a13 : Nat), h1.2 p1 = some (.inr (4, f12)) ∧ f12[8]? = some (.ref a13) ∧ (∃ f15, h1.2 a11 = some (.inr (5, f15))) ∧ w_Se_copyFrom (fun v h14 => v = none ∧ ∃ (f16 : List Value) (a17 : Nat), h14.2 this = some (.inr (0, f16)) ∧ f16[1]? = some (.ref a17) ∧ ∃ (f18 : List Value) (a19 : Nat), h14.2 this = some (.inr (0, f18)) ∧ f18[3]? = some (.ref a19) ∧ (∃ f21, h14.2 a17 = some (.inr (2, f21))) ∧ w_Ma_send (fun v h20 => v = none ∧ Q none h20) a17 a19 h14) a11 a13 h1))))) p1 h
set_option maxRecDepth 100000 in
set_option maxHeartbeats 4000000 in
theorem x_Q_sendReply {sc : List Int32} {Q : Option Value → xH → Prop} {this : Nat} {p1 : Nat} {h : xH} (hw : w_Q_sendReply Q this p1 h) : xMet sc m_Q_sendReply 4 0 0 [.ref (this), .ref (p1)] h Q := by
  unfold w_Q_sendReply at hw
  refine xMet.of2 cw_Q_sendReply rfl rfl ?_
  show xW sc m_Q_sendReply 4 0 0 0 [some (.ref (this)), some (.ref (p1))] [] h Q
  refine xw_aload_n d_Q_sendReply_0 rfl rfl ?_
  obtain ⟨⟨f2, hA⟩, hw⟩ := hw
  refine xc_V0i lk_Q_129 in_No_isUp d_Q_sendReply_1 (x_No_isUp hw) rfl hA rfl ?_
  intro x3 h1 hw
  refine xw_if_eq (tgt := 42) d_Q_sendReply_4 (by decide) (fun c23 => ?_) (fun c23 => ?_)
  · have hw := hw.1 c23
    exact xw_return rfl d_Q_sendReply_42 hw
  · have hw := hw.2 c23
    refine xw_aload_n d_Q_sendReply_7 rfl rfl ?_
    obtain ⟨f4, a5, hA, hB, hw⟩ := hw
    refine xw_getr fr_Q_29 d_Q_sendReply_8 hA hB ?_
    obtain ⟨f6, x7, hA, hB, hw⟩ := hw
    refine xw_getr fr_Q_175 d_Q_sendReply_11 hA hB ?_
    refine xw_if_eq (tgt := 42) d_Q_sendReply_14 (by decide) (fun c22 => ?_) (fun c22 => ?_)
    · have hw := hw.1 c22
      exact xw_return rfl d_Q_sendReply_42 hw
    · have hw := hw.2 c22
      refine xw_aload_n d_Q_sendReply_17 rfl rfl ?_
      obtain ⟨f8, a9, hA, hB, hw⟩ := hw
      refine xw_getr fr_Q_29 d_Q_sendReply_18 hA hB ?_
      obtain ⟨f10, a11, hA, hB, hw⟩ := hw
      refine xw_getr fr_Q_166 d_Q_sendReply_21 hA hB ?_
      refine xw_aload_n d_Q_sendReply_24 rfl rfl ?_
      obtain ⟨f12, a13, hA, hB, hw⟩ := hw
      refine xw_getr fr_Q_55 d_Q_sendReply_25 hA hB ?_
      obtain ⟨⟨f15, hA⟩, hw⟩ := hw
      refine xc_V1n lk_Q_383 in_Se_copyFrom d_Q_sendReply_28 (x_Se_copyFrom hw) rfl hA rfl ?_
      intro h14 hw
      refine xw_aload_n d_Q_sendReply_31 rfl rfl ?_
      obtain ⟨f16, a17, hA, hB, hw⟩ := hw
      refine xw_getr fr_Q_18 d_Q_sendReply_32 hA hB ?_
      refine xw_aload_n d_Q_sendReply_35 rfl rfl ?_
      obtain ⟨f18, a19, hA, hB, hw⟩ := hw
      refine xw_getr fr_Q_29 d_Q_sendReply_36 hA hB ?_
      obtain ⟨⟨f21, hA⟩, hw⟩ := hw
      refine xc_V1n lk_Q_155 in_Ma_send d_Q_sendReply_39 (x_Ma_send hw) rfl hA rfl ?_
      intro h20 hw
      exact xw_return rfl d_Q_sendReply_42 hw
set_option maxRecDepth 100000 in
def w_Q_deliver_100 (Q : Option Value → xH → Prop) (l0 : Nat) (l1 : Int32) (l2 : Nat) (l3 : Nat) (l4 : Int32) (h : xH) : Prop := (∃ f2, h.2 l3 = some (.inr (4, f2))) ∧ w_No_isUp (fun v h1 => ∃ (x3 : Int32), v = some (.int x3) ∧ ((x3 = 0 → Q (some (.int 1)) h1) ∧ (¬ x3 = 0 → (∃ f5, h1.2 l0 = some (.inr (0, f5))) ∧ w_Q_serve (fun v h4 => v = none ∧ (∃ f7, h4.2 l0 = some (.inr (0, f7))) ∧ w_Q_sendReply (fun v h6 => v = none ∧ Q (some (.int 1)) h6) l0 l3 h4) l0 l3 l2 h1))) l3 h
set_option maxRecDepth 100000 in
set_option maxHeartbeats 4000000 in
theorem p_Q_deliver_100 {sc : List Int32} {Q : Option Value → xH → Prop} (l0 : Nat) (l1 : Int32) (l2 : Nat) (l3 : Nat) (l4 : Int32) (h : xH) (hw : w_Q_deliver_100 Q l0 l1 l2 l3 l4 h) : xW sc m_Q_deliver 7 0 0 100 [some (.ref (l0)), some (.int (l1)), some (.ref (l2)), some (.ref (l3)), some (.int (l4))] [] h Q := by
  unfold w_Q_deliver_100 at hw
  refine xw_aload_n d_Q_deliver_100 rfl rfl ?_
  obtain ⟨⟨f2, hA⟩, hw⟩ := hw
  refine xc_V0i lk_Q_129 in_No_isUp d_Q_deliver_101 (x_No_isUp hw) rfl hA rfl ?_
  intro x3 h1 hw
  refine xw_if_eq (tgt := 118) d_Q_deliver_104 (by decide) (fun c8 => ?_) (fun c8 => ?_)
  · have hw := hw.1 c8
    refine xw_iconst (v := 1) d_Q_deliver_118 (by decide) ?_
    exact xw_ireturn rfl d_Q_deliver_119 hw
  · have hw := hw.2 c8
    refine xw_aload_n d_Q_deliver_107 rfl rfl ?_
    refine xw_aload_n d_Q_deliver_108 rfl rfl ?_
    refine xw_aload_n d_Q_deliver_109 rfl rfl ?_
    obtain ⟨⟨f5, hA⟩, hw⟩ := hw
    refine xc_V2n lk_Q_183 in_Q_serve d_Q_deliver_110 (x_Q_serve hw) rfl hA rfl ?_
    intro h4 hw
    refine xw_aload_n d_Q_deliver_113 rfl rfl ?_
    refine xw_aload_n d_Q_deliver_114 rfl rfl ?_
    obtain ⟨⟨f7, hA⟩, hw⟩ := hw
    refine xc_V1n lk_Q_186 in_Q_sendReply d_Q_deliver_115 (x_Q_sendReply hw) rfl hA rfl ?_
    intro h6 hw
    refine xw_iconst (v := 1) d_Q_deliver_118 (by decide) ?_
    exact xw_ireturn rfl d_Q_deliver_119 hw
set_option maxRecDepth 100000 in
def w_Q_deliver_70 (Q : Option Value → xH → Prop) (l0 : Nat) (l1 : Int32) (l2 : Nat) (l3 : Nat) (l4 : Int32) (h : xH) : Prop := (∃ f2, h.2 l3 = some (.inr (4, f2))) ∧ w_No_isUp (fun v h1 => ∃ (x3 : Int32), v = some (.int x3) ∧ ((x3 = 0 → w_Q_deliver_100 Q (l0) (l1) (l2) (l3) (l4) h1) ∧ (¬ x3 = 0 → ∃ (f4 : List Value) (x5 : Int32), h1.2 l2 = some (.inr (3, f4)) ∧ f4[0]? = some (.int x5) ∧ w_Q_isAnswer (fun v h6 => ∃ (x7 : Int32), v = some (.int x7) ∧ ((x7 = 0 → w_Q_deliver_100 Q (l0) (l1) (l2) (l3) (l4) h6) ∧ (¬ x7 = 0 → w_Q_hear (fun v h8 => v = none ∧ (∃ f10, h8.2 l0 = some (.inr (0, f10))) ∧ w_Q_settle (fun v h9 => v = none ∧ Q (some (.int 1)) h9) l0 l3 h8) l3 l2 h6))) x5 h1))) l3 h
set_option maxRecDepth 100000 in
set_option maxHeartbeats 4000000 in
theorem p_Q_deliver_70 {sc : List Int32} {Q : Option Value → xH → Prop} (l0 : Nat) (l1 : Int32) (l2 : Nat) (l3 : Nat) (l4 : Int32) (h : xH) (hw : w_Q_deliver_70 Q l0 l1 l2 l3 l4 h) : xW sc m_Q_deliver 7 0 0 70 [some (.ref (l0)), some (.int (l1)), some (.ref (l2)), some (.ref (l3)), some (.int (l4))] [] h Q := by
  unfold w_Q_deliver_70 at hw
  refine xw_aload_n d_Q_deliver_70 rfl rfl ?_
  obtain ⟨⟨f2, hA⟩, hw⟩ := hw
  refine xc_V0i lk_Q_129 in_No_isUp d_Q_deliver_71 (x_No_isUp hw) rfl hA rfl ?_
  intro x3 h1 hw
  refine xw_if_eq (tgt := 100) d_Q_deliver_74 (by decide) (fun c12 => ?_) (fun c12 => ?_)
  · have hw := hw.1 c12
    exact p_Q_deliver_100  (l0) (l1) (l2) (l3) (l4) h1 hw
  · have hw := hw.2 c12
    refine xw_aload_n d_Q_deliver_77 rfl rfl ?_
    obtain ⟨f4, x5, hA, hB, hw⟩ := hw
    refine xw_getr fr_Q_175 d_Q_deliver_78 hA hB ?_
    refine xc_S1i lk_Q_176 st_Q_isAnswer d_Q_deliver_81 (x_Q_isAnswer hw) rfl rfl ?_
    intro x7 h6 hw
    refine xw_if_eq (tgt := 100) d_Q_deliver_84 (by decide) (fun c11 => ?_) (fun c11 => ?_)
    · have hw := hw.1 c11
      exact p_Q_deliver_100  (l0) (l1) (l2) (l3) (l4) h6 hw
    · have hw := hw.2 c11
      refine xw_aload_n d_Q_deliver_87 rfl rfl ?_
      refine xw_aload_n d_Q_deliver_88 rfl rfl ?_
      refine xc_S2n lk_Q_179 st_Q_hear d_Q_deliver_89 (x_Q_hear hw) rfl rfl ?_
      intro h8 hw
      refine xw_aload_n d_Q_deliver_92 rfl rfl ?_
      refine xw_aload_n d_Q_deliver_93 rfl rfl ?_
      obtain ⟨⟨f10, hA⟩, hw⟩ := hw
      refine xc_V1n lk_Q_77 in_Q_settle d_Q_deliver_94 (x_Q_settle hw) rfl hA rfl ?_
      intro h9 hw
      refine xw_goto (tgt := 118) d_Q_deliver_97 (by decide) ?_
      refine xw_iconst (v := 1) d_Q_deliver_118 (by decide) ?_
      exact xw_ireturn rfl d_Q_deliver_119 hw
set_option maxRecDepth 100000 in
def w_Q_deliver (Q : Option Value → xH → Prop) (this : Nat) (p1 : Int32) (h : xH) : Prop := ∃ (f1 : List Value) (a2 : Nat), h.2 this = some (.inr (0, f1)) ∧ f1[1]? = some (.ref a2) ∧ (∃ f4, h.2 a2 = some (.inr (2, f4))) ∧ w_Ma_takeOut (fun v h3 => (v = some .null ∧ Q (some (.int (-1))) h3) ∨ ∃ b5, v = some (.ref b5) ∧ ∃ (f6 : List Value) (x7 : Int32), h3.2 b5 = some (.inr (3, f6)) ∧ f6[2]? = some (.int x7) ∧ (∃ f9, h3.2 this = some (.inr (0, f9))) ∧ w_Q_find (fun v h8 => (v = some .null ∧ Q (some (.int 0)) h8) ∨ ∃ b10, v = some (.ref b10) ∧ (∃ f12, h8.2 b10 = some (.inr (4, f12))) ∧ w_No_isUp (fun v h11 => ∃ (x13 : Int32), v = some (.int x13) ∧ ((¬ x13 = 0 → ∃ (f14 : List Value) (a15 : Nat), h11.2 b10 = some (.inr (4, f14)) ∧ f14[8]? = some (.ref a15) ∧ (∃ f17, h11.2 a15 = some (.inr (5, f17))) ∧ w_Se_having (fun v h16 => ∃ (x18 : Int32), v = some (.int x18) ∧ ∃ (f19 : List Value) (a20 : Nat), h16.2 b5 = some (.inr (3, f19)) ∧ f19[8]? = some (.ref a20) ∧ (∃ f22, h16.2 b10 = some (.inr (4, f22))) ∧ w_No_merge (fun v h21 => ∃ (x23 : Int32), v = some (.int x23) ∧ ((x23 = 0 → w_Q_deliver_70 Q (this) (p1) (b5) (b10) (x18) h21) ∧ (¬ x23 = 0 → (∃ f25, h21.2 this = some (.inr (0, f25))) ∧ w_Q_look (fun v h24 => v = none ∧ (∃ f27, h24.2 this = some (.inr (0, f27))) ∧ w_Q_settle (fun v h26 => v = none ∧ w_Q_deliver_70 Q (this) (p1) (b5) (b10) (x18) h26) this b10 h24) this b10 x18 h21))) b10 a20 h16) a15 1 h11) ∧ (x13 = 0 → Q (some (.int 0)) h11))) b10 h8) this x7 h3) a2 p1 h
set_option maxRecDepth 100000 in
set_option maxHeartbeats 4000000 in
theorem x_Q_deliver {sc : List Int32} {Q : Option Value → xH → Prop} {this : Nat} {p1 : Int32} {h : xH} (hw : w_Q_deliver Q this p1 h) : xMet sc m_Q_deliver 7 0 0 [.ref (this), .int (p1)] h Q := by
  unfold w_Q_deliver at hw
  refine xMet.of2 cw_Q_deliver rfl rfl ?_
  show xW sc m_Q_deliver 7 0 0 0 [some (.ref (this)), some (.int (p1)), none, none, none] [] h Q
  refine xw_aload_n d_Q_deliver_0 rfl rfl ?_
  obtain ⟨f1, a2, hA, hB, hw⟩ := hw
  refine xw_getr fr_Q_18 d_Q_deliver_1 hA hB ?_
  refine xw_iload_n d_Q_deliver_4 rfl rfl ?_
  obtain ⟨⟨f4, hA⟩, hw⟩ := hw
  refine xc_V1r lk_Q_159 in_Ma_takeOut d_Q_deliver_5 (x_Ma_takeOut hw) rfl hA rfl ?_ ?_
  · intro h3 hw
    refine xs_astore_nN (lv' := [some (.ref (this)), some (.int (p1)), some (.null), none, none]) d_Q_deliver_8 rfl rfl rfl ?_
    refine xw_aload_nN d_Q_deliver_9 rfl rfl ?_
    refine xw_ifnonnullN d_Q_deliver_10 ?_
    refine xw_iconst (v := -1) d_Q_deliver_13 (by decide) ?_
    exact xw_ireturn rfl d_Q_deliver_14 hw
  · intro b5 h3 hw
    refine xs_astore_n (lv' := [some (.ref (this)), some (.int (p1)), some (.ref (b5)), none, none]) d_Q_deliver_8 rfl rfl rfl ?_
    refine xw_aload_n d_Q_deliver_9 rfl rfl ?_
    refine xw_ifnonnull (tgt := 15) d_Q_deliver_10 (by decide) ?_
    refine xw_aload_n d_Q_deliver_15 rfl rfl ?_
    refine xw_aload_n d_Q_deliver_16 rfl rfl ?_
    obtain ⟨f6, x7, hA, hB, hw⟩ := hw
    refine xw_getr fr_Q_163 d_Q_deliver_17 hA hB ?_
    obtain ⟨⟨f9, hA⟩, hw⟩ := hw
    refine xc_V1r lk_Q_93 in_Q_find d_Q_deliver_20 (x_Q_find hw) rfl hA rfl ?_ ?_
    · intro h8 hw
      refine xs_astore_nN (lv' := [some (.ref (this)), some (.int (p1)), some (.ref (b5)), some (.null), none]) d_Q_deliver_23 rfl rfl rfl ?_
      refine xw_aload_nN d_Q_deliver_24 rfl rfl ?_
      refine xw_ifnullN (tgt := 35) d_Q_deliver_25 (by decide) ?_
      refine xw_iconst (v := 0) d_Q_deliver_35 (by decide) ?_
      exact xw_ireturn rfl d_Q_deliver_36 hw
    · intro b10 h8 hw
      refine xs_astore_n (lv' := [some (.ref (this)), some (.int (p1)), some (.ref (b5)), some (.ref (b10)), none]) d_Q_deliver_23 rfl rfl rfl ?_
      refine xw_aload_n d_Q_deliver_24 rfl rfl ?_
      refine xw_ifnull d_Q_deliver_25 ?_
      refine xw_aload_n d_Q_deliver_28 rfl rfl ?_
      obtain ⟨⟨f12, hA⟩, hw⟩ := hw
      refine xc_V0i lk_Q_129 in_No_isUp d_Q_deliver_29 (x_No_isUp hw) rfl hA rfl ?_
      intro x13 h11 hw
      refine xw_if_ne (tgt := 37) d_Q_deliver_32 (by decide) (fun c29 => ?_) (fun c29 => ?_)
      · have hw := hw.1 c29
        refine xw_aload_n d_Q_deliver_37 rfl rfl ?_
        obtain ⟨f14, a15, hA, hB, hw⟩ := hw
        refine xw_getr fr_Q_55 d_Q_deliver_38 hA hB ?_
        refine xw_iconst (v := 1) d_Q_deliver_41 (by decide) ?_
        obtain ⟨⟨f17, hA⟩, hw⟩ := hw
        refine xc_V1i lk_Q_101 in_Se_having d_Q_deliver_42 (x_Se_having hw) rfl hA rfl ?_
        intro x18 h16 hw
        refine xs_istore (lv' := [some (.ref (this)), some (.int (p1)), some (.ref (b5)), some (.ref (b10)), some (.int (x18))]) d_Q_deliver_45 rfl rfl ?_
        refine xw_aload_n d_Q_deliver_47 rfl rfl ?_
        refine xw_aload_n d_Q_deliver_48 rfl rfl ?_
        obtain ⟨f19, a20, hA, hB, hw⟩ := hw
        refine xw_getr fr_Q_166 d_Q_deliver_49 hA hB ?_
        obtain ⟨⟨f22, hA⟩, hw⟩ := hw
        refine xc_V1i lk_Q_167 in_No_merge d_Q_deliver_52 (x_No_merge hw) rfl hA rfl ?_
        intro x23 h21 hw
        refine xw_if_eq (tgt := 70) d_Q_deliver_55 (by decide) (fun c28 => ?_) (fun c28 => ?_)
        · have hw := hw.1 c28
          exact p_Q_deliver_70  (this) (p1) (b5) (b10) (x18) h21 hw
        · have hw := hw.2 c28
          refine xw_aload_n d_Q_deliver_58 rfl rfl ?_
          refine xw_aload_n d_Q_deliver_59 rfl rfl ?_
          refine xw_iload d_Q_deliver_60 rfl ?_
          obtain ⟨⟨f25, hA⟩, hw⟩ := hw
          refine xc_V2n lk_Q_171 in_Q_look d_Q_deliver_62 (x_Q_look hw) rfl hA rfl ?_
          intro h24 hw
          refine xw_aload_n d_Q_deliver_65 rfl rfl ?_
          refine xw_aload_n d_Q_deliver_66 rfl rfl ?_
          obtain ⟨⟨f27, hA⟩, hw⟩ := hw
          refine xc_V1n lk_Q_77 in_Q_settle d_Q_deliver_67 (x_Q_settle hw) rfl hA rfl ?_
          intro h26 hw
          exact p_Q_deliver_70  (this) (p1) (b5) (b10) (x18) h26 hw
      · have hw := hw.2 c29
        refine xw_iconst (v := 0) d_Q_deliver_35 (by decide) ?_
        exact xw_ireturn rfl d_Q_deliver_36 hw
set_option maxRecDepth 100000 in
def w_Q_lose (Q : Option Value → xH → Prop) (this : Nat) (p1 : Int32) (h : xH) : Prop := ∃ (f1 : List Value) (a2 : Nat), h.2 this = some (.inr (0, f1)) ∧ f1[1]? = some (.ref a2) ∧ (∃ f4, h.2 a2 = some (.inr (2, f4))) ∧ w_Ma_takeOut (fun v h3 => (v = some .null ∧ (narrow .boolean (.int 0) = .int 0 ∧ Q (some (.int 0)) h3)) ∨ ∃ b5, v = some (.ref b5) ∧ (narrow .boolean (.int 1) = .int 1 ∧ Q (some (.int 1)) h3)) a2 p1 h
set_option maxRecDepth 100000 in
set_option maxHeartbeats 4000000 in
theorem x_Q_lose {sc : List Int32} {Q : Option Value → xH → Prop} {this : Nat} {p1 : Int32} {h : xH} (hw : w_Q_lose Q this p1 h) : xMet sc m_Q_lose 2 0 0 [.ref (this), .int (p1)] h Q := by
  unfold w_Q_lose at hw
  refine xMet.of2 cw_Q_lose rfl rfl ?_
  show xW sc m_Q_lose 2 0 0 0 [some (.ref (this)), some (.int (p1))] [] h Q
  refine xw_aload_n d_Q_lose_0 rfl rfl ?_
  obtain ⟨f1, a2, hA, hB, hw⟩ := hw
  refine xw_getr fr_Q_18 d_Q_lose_1 hA hB ?_
  refine xw_iload_n d_Q_lose_4 rfl rfl ?_
  obtain ⟨⟨f4, hA⟩, hw⟩ := hw
  refine xc_V1r lk_Q_159 in_Ma_takeOut d_Q_lose_5 (x_Ma_takeOut hw) rfl hA rfl ?_ ?_
  · intro h3 hw
    refine xw_ifnullN (tgt := 15) d_Q_lose_8 (by decide) ?_
    refine xw_iconst (v := 0) d_Q_lose_15 (by decide) ?_
    exact xw_zreturn rfl hw.1 d_Q_lose_16 hw.2
  · intro b5 h3 hw
    refine xw_ifnull d_Q_lose_8 ?_
    refine xw_iconst (v := 1) d_Q_lose_11 (by decide) ?_
    refine xw_goto (tgt := 16) d_Q_lose_12 (by decide) ?_
    exact xw_zreturn rfl hw.1 d_Q_lose_16 hw.2
set_option maxRecDepth 100000 in
def w_Q_twice (Q : Option Value → xH → Prop) (this : Nat) (p1 : Int32) (h : xH) : Prop := ∃ (f1 : List Value) (a2 : Nat), h.2 this = some (.inr (0, f1)) ∧ f1[1]? = some (.ref a2) ∧ (∃ f4, h.2 a2 = some (.inr (2, f4))) ∧ w_Ma_row (fun v h3 => (v = some .null ∧ (narrow .boolean (.int 0) = .int 0 ∧ Q (some (.int 0)) h3)) ∨ ∃ b5, v = some (.ref b5) ∧ ∃ (f6 : List Value) (a7 : Nat), h3.2 this = some (.inr (0, f6)) ∧ f6[1]? = some (.ref a7) ∧ ∃ (f8 : List Value) (x9 : Int32), h3.2 a7 = some (.inr (2, f8)) ∧ f8[2]? = some (.int x9) ∧ ((x9 < 120 → ∃ (f10 : List Value) (a11 : Nat), h3.2 this = some (.inr (0, f10)) ∧ f10[1]? = some (.ref a11) ∧ (∃ f13, h3.2 a11 = some (.inr (2, f13))) ∧ w_Ma_send (fun v h12 => v = none ∧ (narrow .boolean (.int 1) = .int 1 ∧ Q (some (.int 1)) h12)) a11 b5 h3) ∧ (¬ x9 < 120 → (narrow .boolean (.int 0) = .int 0 ∧ Q (some (.int 0)) h3)))) a2 p1 h
set_option maxRecDepth 100000 in
set_option maxHeartbeats 4000000 in
theorem x_Q_twice {sc : List Int32} {Q : Option Value → xH → Prop} {this : Nat} {p1 : Int32} {h : xH} (hw : w_Q_twice Q this p1 h) : xMet sc m_Q_twice 4 0 0 [.ref (this), .int (p1)] h Q := by
  unfold w_Q_twice at hw
  refine xMet.of2 cw_Q_twice rfl rfl ?_
  show xW sc m_Q_twice 4 0 0 0 [some (.ref (this)), some (.int (p1)), none] [] h Q
  refine xw_aload_n d_Q_twice_0 rfl rfl ?_
  obtain ⟨f1, a2, hA, hB, hw⟩ := hw
  refine xw_getr fr_Q_18 d_Q_twice_1 hA hB ?_
  refine xw_iload_n d_Q_twice_4 rfl rfl ?_
  obtain ⟨⟨f4, hA⟩, hw⟩ := hw
  refine xc_V1r lk_Q_189 in_Ma_row d_Q_twice_5 (x_Ma_row hw) rfl hA rfl ?_ ?_
  · intro h3 hw
    refine xs_astore_nN (lv' := [some (.ref (this)), some (.int (p1)), some (.null)]) d_Q_twice_8 rfl rfl rfl ?_
    refine xw_aload_nN d_Q_twice_9 rfl rfl ?_
    refine xw_ifnullN (tgt := 25) d_Q_twice_10 (by decide) ?_
    refine xw_iconst (v := 0) d_Q_twice_25 (by decide) ?_
    exact xw_zreturn rfl hw.1 d_Q_twice_26 hw.2
  · intro b5 h3 hw
    refine xs_astore_n (lv' := [some (.ref (this)), some (.int (p1)), some (.ref (b5))]) d_Q_twice_8 rfl rfl rfl ?_
    refine xw_aload_n d_Q_twice_9 rfl rfl ?_
    refine xw_ifnull d_Q_twice_10 ?_
    refine xw_aload_n d_Q_twice_13 rfl rfl ?_
    obtain ⟨f6, a7, hA, hB, hw⟩ := hw
    refine xw_getr fr_Q_18 d_Q_twice_14 hA hB ?_
    obtain ⟨f8, x9, hA, hB, hw⟩ := hw
    refine xw_getr fr_Q_192 d_Q_twice_17 hA hB ?_
    refine xw_bipush (v := 120) d_Q_twice_20 (by decide) ?_
    refine xw_icmp_lt (tgt := 27) d_Q_twice_22 (by decide) (fun c14 => ?_) (fun c14 => ?_)
    · have hw := hw.1 c14
      refine xw_aload_n d_Q_twice_27 rfl rfl ?_
      obtain ⟨f10, a11, hA, hB, hw⟩ := hw
      refine xw_getr fr_Q_18 d_Q_twice_28 hA hB ?_
      refine xw_aload_n d_Q_twice_31 rfl rfl ?_
      obtain ⟨⟨f13, hA⟩, hw⟩ := hw
      refine xc_V1n lk_Q_155 in_Ma_send d_Q_twice_32 (x_Ma_send hw) rfl hA rfl ?_
      intro h12 hw
      refine xw_iconst (v := 1) d_Q_twice_35 (by decide) ?_
      exact xw_zreturn rfl hw.1 d_Q_twice_36 hw.2
    · have hw := hw.2 c14
      refine xw_iconst (v := 0) d_Q_twice_25 (by decide) ?_
      exact xw_zreturn rfl hw.1 d_Q_twice_26 hw.2
set_option maxRecDepth 100000 in
def w_Q_restart (Q : Option Value → xH → Prop) (this : Nat) (p1 : Int32) (h : xH) : Prop := (∃ f2, h.2 this = some (.inr (0, f2))) ∧ w_Q_find (fun v h1 => (v = some .null ∧ (narrow .boolean (.int 0) = .int 0 ∧ Q (some (.int 0)) h1)) ∨ ∃ b3, v = some (.ref b3) ∧ ∃ (f4 : List Value) (x5 : Int32), h1.2 b3 = some (.inr (4, f4)) ∧ f4[1]? = some (.int x5) ∧ ((x5 = 2 → ∃ f6, h1.2 b3 = some (.inr (4, f6)) ∧ 1 < f6.length ∧ ∀ h7, h7 = xu h1 b3 (.inr (4, f6.set 1 (.int (1)))) → (∃ f9, h7.2 b3 = some (.inr (4, f9))) ∧ w_No_mayWrite (fun v h8 => ∃ (x10 : Int32), v = some (.int x10) ∧ ((x10 = 0 → (narrow .boolean (.int 1) = .int 1 ∧ Q (some (.int 1)) h8)) ∧ (¬ x10 = 0 → ∃ (f11 : List Value) (x12 : Int32), h8.2 b3 = some (.inr (4, f11)) ∧ f11[2]? = some (.int x12) ∧ ∃ f13, h8.2 b3 = some (.inr (4, f13)) ∧ 2 < f13.length ∧ ∀ h14, h14 = xu h8 b3 (.inr (4, f13.set 2 (.int (x12 + 1)))) → (narrow .boolean (.int 1) = .int 1 ∧ Q (some (.int 1)) h14)))) b3 h7) ∧ (¬ x5 = 2 → (narrow .boolean (.int 0) = .int 0 ∧ Q (some (.int 0)) h1)))) this p1 h
set_option maxRecDepth 100000 in
set_option maxHeartbeats 4000000 in
theorem x_Q_restart {sc : List Int32} {Q : Option Value → xH → Prop} {this : Nat} {p1 : Int32} {h : xH} (hw : w_Q_restart Q this p1 h) : xMet sc m_Q_restart 2 0 0 [.ref (this), .int (p1)] h Q := by
  unfold w_Q_restart at hw
  refine xMet.of2 cw_Q_restart rfl rfl ?_
  show xW sc m_Q_restart 2 0 0 0 [some (.ref (this)), some (.int (p1)), none] [] h Q
  refine xw_aload_n d_Q_restart_0 rfl rfl ?_
  refine xw_iload_n d_Q_restart_1 rfl rfl ?_
  obtain ⟨⟨f2, hA⟩, hw⟩ := hw
  refine xc_V1r lk_Q_93 in_Q_find d_Q_restart_2 (x_Q_find hw) rfl hA rfl ?_ ?_
  · intro h1 hw
    refine xs_astore_nN (lv' := [some (.ref (this)), some (.int (p1)), some (.null)]) d_Q_restart_5 rfl rfl rfl ?_
    refine xw_aload_nN d_Q_restart_6 rfl rfl ?_
    refine xw_ifnullN (tgt := 18) d_Q_restart_7 (by decide) ?_
    refine xw_iconst (v := 0) d_Q_restart_18 (by decide) ?_
    exact xw_zreturn rfl hw.1 d_Q_restart_19 hw.2
  · intro b3 h1 hw
    refine xs_astore_n (lv' := [some (.ref (this)), some (.int (p1)), some (.ref (b3))]) d_Q_restart_5 rfl rfl rfl ?_
    refine xw_aload_n d_Q_restart_6 rfl rfl ?_
    refine xw_ifnull d_Q_restart_7 ?_
    refine xw_aload_n d_Q_restart_10 rfl rfl ?_
    obtain ⟨f4, x5, hA, hB, hw⟩ := hw
    refine xw_getr fr_Q_52 d_Q_restart_11 hA hB ?_
    refine xw_iconst (v := 2) d_Q_restart_14 (by decide) ?_
    refine xw_icmp_eq (tgt := 20) d_Q_restart_15 (by decide) (fun c16 => ?_) (fun c16 => ?_)
    · have hw := hw.1 c16
      refine xw_aload_n d_Q_restart_20 rfl rfl ?_
      refine xw_iconst (v := 1) d_Q_restart_21 (by decide) ?_
      obtain ⟨f6, hA, hB, hw⟩ := hw
      refine xw_puti fs_Q_52 d_Q_restart_22 hA hB ?_
      generalize hh : xu h1 b3 (.inr (4, f6.set 1 (.int (1)))) = h7
      have hw := hw h7 hh.symm
      refine xw_aload_n d_Q_restart_25 rfl rfl ?_
      obtain ⟨⟨f9, hA⟩, hw⟩ := hw
      refine xc_V0i lk_Q_198 in_No_mayWrite d_Q_restart_26 (x_No_mayWrite hw) rfl hA rfl ?_
      intro x10 h8 hw
      refine xw_if_eq (tgt := 42) d_Q_restart_29 (by decide) (fun c15 => ?_) (fun c15 => ?_)
      · have hw := hw.1 c15
        refine xw_iconst (v := 1) d_Q_restart_42 (by decide) ?_
        exact xw_zreturn rfl hw.1 d_Q_restart_43 hw.2
      · have hw := hw.2 c15
        refine xw_aload_n d_Q_restart_32 rfl rfl ?_
        refine xw_dup d_Q_restart_33 rfl ?_
        obtain ⟨f11, x12, hA, hB, hw⟩ := hw
        refine xw_getr fr_Q_201 d_Q_restart_34 hA hB ?_
        refine xw_iconst (v := 1) d_Q_restart_37 (by decide) ?_
        refine xw_iadd d_Q_restart_38 ?_
        obtain ⟨f13, hA, hB, hw⟩ := hw
        refine xw_puti fs_Q_201 d_Q_restart_39 hA hB ?_
        generalize hh : xu h8 b3 (.inr (4, f13.set 2 (.int (x12 + 1)))) = h14
        have hw := hw h14 hh.symm
        refine xw_iconst (v := 1) d_Q_restart_42 (by decide) ?_
        exact xw_zreturn rfl hw.1 d_Q_restart_43 hw.2
    · have hw := hw.2 c16
      refine xw_iconst (v := 0) d_Q_restart_18 (by decide) ?_
      exact xw_zreturn rfl hw.1 d_Q_restart_19 hw.2
set_option maxRecDepth 100000 in
def w_Q_node (Q : Option Value → xH → Prop) (this : Nat) (p1 : Int32) (p2 : Int32) (h : xH) : Prop := (∃ f2, h.2 this = some (.inr (0, f2))) ∧ w_Q_find (fun v h1 => (v = some .null ∧ Q (some (.int (-1))) h1) ∨ ∃ b3, v = some (.ref b3) ∧ ((p2 = 0 → ∃ (f5 : List Value) (x6 : Int32), h1.2 b3 = some (.inr (4, f5)) ∧ f5[1]? = some (.int x6) ∧ Q (some (.int x6)) h1) ∧ (p2 = 1 → ∃ (f8 : List Value) (x9 : Int32), h1.2 b3 = some (.inr (4, f8)) ∧ f8[2]? = some (.int x9) ∧ Q (some (.int x9)) h1) ∧ (p2 = 2 → ∃ (f11 : List Value) (x12 : Int32), h1.2 b3 = some (.inr (4, f11)) ∧ f11[3]? = some (.int x12) ∧ Q (some (.int x12)) h1) ∧ (p2 = 3 → ∃ (f14 : List Value) (a15 : Nat), h1.2 b3 = some (.inr (4, f14)) ∧ f14[8]? = some (.ref a15) ∧ (∃ f17, h1.2 a15 = some (.inr (5, f17))) ∧ w_Se_having (fun v h16 => ∃ (x18 : Int32), v = some (.int x18) ∧ w_Q_least (fun v h19 => ∃ (x20 : Int32), v = some (.int x20) ∧ Q (some (.int x20)) h19) x18 h16) a15 1 h1) ∧ (p2 = 4 → ∃ (f22 : List Value) (a23 : Nat), h1.2 b3 = some (.inr (4, f22)) ∧ f22[8]? = some (.ref a23) ∧ (∃ f25, h1.2 a23 = some (.inr (5, f25))) ∧ w_Se_having (fun v h24 => ∃ (x26 : Int32), v = some (.int x26) ∧ w_Q_greatest (fun v h27 => ∃ (x28 : Int32), v = some (.int x28) ∧ Q (some (.int x28)) h27) x26 h24) a23 1 h1) ∧ (p2 = 5 → ∃ (f30 : List Value) (x31 : Int32), h1.2 b3 = some (.inr (4, f30)) ∧ f30[4]? = some (.int x31) ∧ Q (some (.int x31)) h1) ∧ (p2 = 6 → ∃ (f33 : List Value) (x34 : Int32), h1.2 b3 = some (.inr (4, f33)) ∧ f33[5]? = some (.int x34) ∧ Q (some (.int x34)) h1) ∧ (¬ p2 = 0 → ¬ p2 = 1 → ¬ p2 = 2 → ¬ p2 = 3 → ¬ p2 = 4 → ¬ p2 = 5 → ¬ p2 = 6 → Q (some (.int (-1))) h1))) this p1 h
set_option maxRecDepth 100000 in
set_option maxHeartbeats 4000000 in
theorem x_Q_node {sc : List Int32} {Q : Option Value → xH → Prop} {this : Nat} {p1 : Int32} {p2 : Int32} {h : xH} (hw : w_Q_node Q this p1 p2 h) : xMet sc m_Q_node 2 0 0 [.ref (this), .int (p1), .int (p2)] h Q := by
  unfold w_Q_node at hw
  refine xMet.of2 cw_Q_node rfl rfl ?_
  show xW sc m_Q_node 2 0 0 0 [some (.ref (this)), some (.int (p1)), some (.int (p2)), none] [] h Q
  refine xw_aload_n d_Q_node_0 rfl rfl ?_
  refine xw_iload_n d_Q_node_1 rfl rfl ?_
  obtain ⟨⟨f2, hA⟩, hw⟩ := hw
  refine xc_V1r lk_Q_93 in_Q_find d_Q_node_2 (x_Q_find hw) rfl hA rfl ?_ ?_
  · intro h1 hw
    refine xs_astore_nN (lv' := [some (.ref (this)), some (.int (p1)), some (.int (p2)), some (.null)]) d_Q_node_5 rfl rfl rfl ?_
    refine xw_aload_nN d_Q_node_6 rfl rfl ?_
    refine xw_ifnonnullN d_Q_node_7 ?_
    refine xw_iconst (v := -1) d_Q_node_10 (by decide) ?_
    exact xw_ireturn rfl d_Q_node_11 hw
  · intro b3 h1 hw
    refine xs_astore_n (lv' := [some (.ref (this)), some (.int (p1)), some (.int (p2)), some (.ref (b3))]) d_Q_node_5 rfl rfl rfl ?_
    refine xw_aload_n d_Q_node_6 rfl rfl ?_
    refine xw_ifnonnull (tgt := 12) d_Q_node_7 (by decide) ?_
    refine xw_iload_n d_Q_node_12 rfl rfl ?_
    by_cases c7 : p2 = 0
    · have hw := hw.1 c7
      rw [c7]
      refine xw_tableIn (tgt := 56) (off := 43) d_Q_node_13 (by decide) (by decide) (by decide +kernel) (by decide) ?_
      refine xw_aload_n d_Q_node_56 rfl rfl ?_
      obtain ⟨f5, x6, hA, hB, hw⟩ := hw
      refine xw_getr fr_Q_52 d_Q_node_57 hA hB ?_
      exact xw_ireturn rfl d_Q_node_60 hw
    by_cases c10 : p2 = 1
    · have hw := hw.2.1 c10
      rw [c10]
      refine xw_tableIn (tgt := 61) (off := 48) d_Q_node_13 (by decide) (by decide) (by decide +kernel) (by decide) ?_
      refine xw_aload_n d_Q_node_61 rfl rfl ?_
      obtain ⟨f8, x9, hA, hB, hw⟩ := hw
      refine xw_getr fr_Q_201 d_Q_node_62 hA hB ?_
      exact xw_ireturn rfl d_Q_node_65 hw
    by_cases c13 : p2 = 2
    · have hw := hw.2.2.1 c13
      rw [c13]
      refine xw_tableIn (tgt := 66) (off := 53) d_Q_node_13 (by decide) (by decide) (by decide +kernel) (by decide) ?_
      refine xw_aload_n d_Q_node_66 rfl rfl ?_
      obtain ⟨f11, x12, hA, hB, hw⟩ := hw
      refine xw_getr fr_Q_207 d_Q_node_67 hA hB ?_
      exact xw_ireturn rfl d_Q_node_70 hw
    by_cases c21 : p2 = 3
    · have hw := hw.2.2.2.1 c21
      rw [c21]
      refine xw_tableIn (tgt := 71) (off := 58) d_Q_node_13 (by decide) (by decide) (by decide +kernel) (by decide) ?_
      refine xw_aload_n d_Q_node_71 rfl rfl ?_
      obtain ⟨f14, a15, hA, hB, hw⟩ := hw
      refine xw_getr fr_Q_55 d_Q_node_72 hA hB ?_
      refine xw_iconst (v := 1) d_Q_node_75 (by decide) ?_
      obtain ⟨⟨f17, hA⟩, hw⟩ := hw
      refine xc_V1i lk_Q_101 in_Se_having d_Q_node_76 (x_Se_having hw) rfl hA rfl ?_
      intro x18 h16 hw
      refine xc_S1i lk_Q_210 st_Q_least d_Q_node_79 (x_Q_least hw) rfl rfl ?_
      intro x20 h19 hw
      exact xw_ireturn rfl d_Q_node_82 hw
    by_cases c29 : p2 = 4
    · have hw := hw.2.2.2.2.1 c29
      rw [c29]
      refine xw_tableIn (tgt := 83) (off := 70) d_Q_node_13 (by decide) (by decide) (by decide +kernel) (by decide) ?_
      refine xw_aload_n d_Q_node_83 rfl rfl ?_
      obtain ⟨f22, a23, hA, hB, hw⟩ := hw
      refine xw_getr fr_Q_55 d_Q_node_84 hA hB ?_
      refine xw_iconst (v := 1) d_Q_node_87 (by decide) ?_
      obtain ⟨⟨f25, hA⟩, hw⟩ := hw
      refine xc_V1i lk_Q_101 in_Se_having d_Q_node_88 (x_Se_having hw) rfl hA rfl ?_
      intro x26 h24 hw
      refine xc_S1i lk_Q_105 st_Q_greatest d_Q_node_91 (x_Q_greatest hw) rfl rfl ?_
      intro x28 h27 hw
      exact xw_ireturn rfl d_Q_node_94 hw
    by_cases c32 : p2 = 5
    · have hw := hw.2.2.2.2.2.1 c32
      rw [c32]
      refine xw_tableIn (tgt := 95) (off := 82) d_Q_node_13 (by decide) (by decide) (by decide +kernel) (by decide) ?_
      refine xw_aload_n d_Q_node_95 rfl rfl ?_
      obtain ⟨f30, x31, hA, hB, hw⟩ := hw
      refine xw_getr fr_Q_213 d_Q_node_96 hA hB ?_
      exact xw_ireturn rfl d_Q_node_99 hw
    by_cases c35 : p2 = 6
    · have hw := hw.2.2.2.2.2.2.1 c35
      rw [c35]
      refine xw_tableIn (tgt := 100) (off := 87) d_Q_node_13 (by decide) (by decide) (by decide +kernel) (by decide) ?_
      refine xw_aload_n d_Q_node_100 rfl rfl ?_
      obtain ⟨f33, x34, hA, hB, hw⟩ := hw
      refine xw_getr fr_Q_204 d_Q_node_101 hA hB ?_
      exact xw_ireturn rfl d_Q_node_104 hw
    have hw := hw.2.2.2.2.2.2.2 c7 c10 c13 c21 c29 c32 c35
    have ec7 := lv_neT c7 (a := 0) (by decide)
    have ec10 := lv_neT c10 (a := 1) (by decide)
    have ec13 := lv_neT c13 (a := 2) (by decide)
    have ec21 := lv_neT c21 (a := 3) (by decide)
    have ec29 := lv_neT c29 (a := 4) (by decide)
    have ec32 := lv_neT c32 (a := 5) (by decide)
    have ec35 := lv_neT c35 (a := 6) (by decide)
    refine xw_tableOut (tgt := 105) d_Q_node_13 (by omega) (by decide) ?_
    refine xw_iconst (v := -1) d_Q_node_105 (by decide) ?_
    exact xw_ireturn rfl d_Q_node_106 hw
set_option maxRecDepth 100000 in
def w_Q_cell (Q : Option Value → xH → Prop) (this : Nat) (p1 : Int32) (p2 : Int32) (p3 : Int32) (h : xH) : Prop := (∃ f2, h.2 this = some (.inr (0, f2))) ∧ w_Q_find (fun v h1 => (v = some .null ∧ Q (some (.int (-1))) h1) ∨ ∃ b3, v = some (.ref b3) ∧ w_Q_isObject (fun v h4 => ∃ (x5 : Int32), v = some (.int x5) ∧ ((¬ x5 = 0 → ((p3 = 0 → ∃ (f7 : List Value) (a8 : Nat), h4.2 b3 = some (.inr (4, f7)) ∧ f7[7]? = some (.ref a8) ∧ (∃ f10, h4.2 a8 = some (.inr (1, f10))) ∧ w_Co_numberOf (fun v h9 => ∃ (x11 : Int32), v = some (.int x11) ∧ Q (some (.int x11)) h9) a8 p2 h4) ∧ (p3 = 1 → ∃ (f13 : List Value) (a14 : Nat), h4.2 b3 = some (.inr (4, f13)) ∧ f13[7]? = some (.ref a14) ∧ (∃ f16, h4.2 a14 = some (.inr (1, f16))) ∧ w_Co_writerOf (fun v h15 => ∃ (x17 : Int32), v = some (.int x17) ∧ Q (some (.int x17)) h15) a14 p2 h4) ∧ (p3 = 2 → ∃ (f19 : List Value) (a20 : Nat), h4.2 b3 = some (.inr (4, f19)) ∧ f19[7]? = some (.ref a20) ∧ (∃ f22, h4.2 a20 = some (.inr (1, f22))) ∧ w_Co_valueOf (fun v h21 => ∃ (x23 : Int32), v = some (.int x23) ∧ Q (some (.int x23)) h21) a20 p2 h4) ∧ (¬ p3 = 0 → ¬ p3 = 1 → ¬ p3 = 2 → Q (some (.int (-1))) h4))) ∧ (x5 = 0 → Q (some (.int (-1))) h4))) p2 h1) this p1 h
set_option maxRecDepth 100000 in
set_option maxHeartbeats 4000000 in
theorem x_Q_cell {sc : List Int32} {Q : Option Value → xH → Prop} {this : Nat} {p1 : Int32} {p2 : Int32} {p3 : Int32} {h : xH} (hw : w_Q_cell Q this p1 p2 p3 h) : xMet sc m_Q_cell 2 0 0 [.ref (this), .int (p1), .int (p2), .int (p3)] h Q := by
  unfold w_Q_cell at hw
  refine xMet.of2 cw_Q_cell rfl rfl ?_
  show xW sc m_Q_cell 2 0 0 0 [some (.ref (this)), some (.int (p1)), some (.int (p2)), some (.int (p3)), none] [] h Q
  refine xw_aload_n d_Q_cell_0 rfl rfl ?_
  refine xw_iload_n d_Q_cell_1 rfl rfl ?_
  obtain ⟨⟨f2, hA⟩, hw⟩ := hw
  refine xc_V1r lk_Q_93 in_Q_find d_Q_cell_2 (x_Q_find hw) rfl hA rfl ?_ ?_
  · intro h1 hw
    refine xs_astoreN (lv' := [some (.ref (this)), some (.int (p1)), some (.int (p2)), some (.int (p3)), some (.null)]) d_Q_cell_5 rfl rfl ?_
    refine xw_aloadN d_Q_cell_7 rfl ?_
    refine xw_ifnullN (tgt := 19) d_Q_cell_9 (by decide) ?_
    refine xw_iconst (v := -1) d_Q_cell_19 (by decide) ?_
    exact xw_ireturn rfl d_Q_cell_20 hw
  · intro b3 h1 hw
    refine xs_astore (lv' := [some (.ref (this)), some (.int (p1)), some (.int (p2)), some (.int (p3)), some (.ref (b3))]) d_Q_cell_5 rfl rfl ?_
    refine xw_aload d_Q_cell_7 rfl ?_
    refine xw_ifnull d_Q_cell_9 ?_
    refine xw_iload_n d_Q_cell_12 rfl rfl ?_
    refine xc_S1i lk_Q_65 st_Q_isObject d_Q_cell_13 (x_Q_isObject hw) rfl rfl ?_
    intro x5 h4 hw
    refine xw_if_ne (tgt := 21) d_Q_cell_16 (by decide) (fun c25 => ?_) (fun c25 => ?_)
    · have hw := hw.1 c25
      refine xw_iload_n d_Q_cell_21 rfl rfl ?_
      by_cases c12 : p3 = 0
      · have hw := hw.1 c12
        rw [c12]
        refine xw_tableIn (tgt := 48) (off := 26) d_Q_cell_22 (by decide) (by decide) (by decide +kernel) (by decide) ?_
        refine xw_aload d_Q_cell_48 rfl ?_
        obtain ⟨f7, a8, hA, hB, hw⟩ := hw
        refine xw_getr fr_Q_146 d_Q_cell_50 hA hB ?_
        refine xw_iload_n d_Q_cell_53 rfl rfl ?_
        obtain ⟨⟨f10, hA⟩, hw⟩ := hw
        refine xc_V1i lk_Q_216 in_Co_numberOf d_Q_cell_54 (x_Co_numberOf hw) rfl hA rfl ?_
        intro x11 h9 hw
        exact xw_ireturn rfl d_Q_cell_57 hw
      by_cases c18 : p3 = 1
      · have hw := hw.2.1 c18
        rw [c18]
        refine xw_tableIn (tgt := 58) (off := 36) d_Q_cell_22 (by decide) (by decide) (by decide +kernel) (by decide) ?_
        refine xw_aload d_Q_cell_58 rfl ?_
        obtain ⟨f13, a14, hA, hB, hw⟩ := hw
        refine xw_getr fr_Q_146 d_Q_cell_60 hA hB ?_
        refine xw_iload_n d_Q_cell_63 rfl rfl ?_
        obtain ⟨⟨f16, hA⟩, hw⟩ := hw
        refine xc_V1i lk_Q_219 in_Co_writerOf d_Q_cell_64 (x_Co_writerOf hw) rfl hA rfl ?_
        intro x17 h15 hw
        exact xw_ireturn rfl d_Q_cell_67 hw
      by_cases c24 : p3 = 2
      · have hw := hw.2.2.1 c24
        rw [c24]
        refine xw_tableIn (tgt := 68) (off := 46) d_Q_cell_22 (by decide) (by decide) (by decide +kernel) (by decide) ?_
        refine xw_aload d_Q_cell_68 rfl ?_
        obtain ⟨f19, a20, hA, hB, hw⟩ := hw
        refine xw_getr fr_Q_146 d_Q_cell_70 hA hB ?_
        refine xw_iload_n d_Q_cell_73 rfl rfl ?_
        obtain ⟨⟨f22, hA⟩, hw⟩ := hw
        refine xc_V1i lk_Q_222 in_Co_valueOf d_Q_cell_74 (x_Co_valueOf hw) rfl hA rfl ?_
        intro x23 h21 hw
        exact xw_ireturn rfl d_Q_cell_77 hw
      have hw := hw.2.2.2 c12 c18 c24
      have ec12 := lv_neT c12 (a := 0) (by decide)
      have ec18 := lv_neT c18 (a := 1) (by decide)
      have ec24 := lv_neT c24 (a := 2) (by decide)
      refine xw_tableOut (tgt := 78) d_Q_cell_22 (by omega) (by decide) ?_
      refine xw_iconst (v := -1) d_Q_cell_78 (by decide) ?_
      exact xw_ireturn rfl d_Q_cell_79 hw
    · have hw := hw.2 c25
      refine xw_iconst (v := -1) d_Q_cell_19 (by decide) ?_
      exact xw_ireturn rfl d_Q_cell_20 hw
set_option maxRecDepth 100000 in
def w_Q_map (Q : Option Value → xH → Prop) (this : Nat) (p1 : Int32) (p2 : Int32) (p3 : Int32) (h : xH) : Prop := (∃ f2, h.2 this = some (.inr (0, f2))) ∧ w_Q_find (fun v h1 => (v = some .null ∧ Q (some (.int (-1))) h1) ∨ ∃ b3, v = some (.ref b3) ∧ w_Q_isIndex (fun v h4 => ∃ (x5 : Int32), v = some (.int x5) ∧ ((¬ x5 = 0 → ((p3 = 0 → ∃ (f7 : List Value) (a8 : Nat), h4.2 b3 = some (.inr (4, f7)) ∧ f7[8]? = some (.ref a8) ∧ (∃ f10, h4.2 a8 = some (.inr (5, f10))) ∧ w_Se_stateOf (fun v h9 => ∃ (x11 : Int32), v = some (.int x11) ∧ Q (some (.int x11)) h9) a8 p2 h4) ∧ (p3 = 1 → ∃ (f13 : List Value) (a14 : Nat), h4.2 b3 = some (.inr (4, f13)) ∧ f13[8]? = some (.ref a14) ∧ (∃ f16, h4.2 a14 = some (.inr (5, f16))) ∧ w_Se_configurationOf (fun v h15 => ∃ (x17 : Int32), v = some (.int x17) ∧ Q (some (.int x17)) h15) a14 p2 h4) ∧ (p3 = 2 → ∃ (f19 : List Value) (a20 : Nat), h4.2 b3 = some (.inr (4, f19)) ∧ f19[9]? = some (.ref a20) ∧ (∃ f22, h4.2 a20 = some (.inr (7, f22))) ∧ w_Vo_promisedAt (fun v h21 => ∃ (x23 : Int32), v = some (.int x23) ∧ Q (some (.int x23)) h21) a20 p2 h4) ∧ (p3 = 3 → ∃ (f25 : List Value) (a26 : Nat), h4.2 b3 = some (.inr (4, f25)) ∧ f25[9]? = some (.ref a26) ∧ (∃ f28, h4.2 a26 = some (.inr (7, f28))) ∧ w_Vo_acceptedAt (fun v h27 => ∃ (x29 : Int32), v = some (.int x29) ∧ Q (some (.int x29)) h27) a26 p2 h4) ∧ (p3 = 4 → ∃ (f31 : List Value) (a32 : Nat), h4.2 b3 = some (.inr (4, f31)) ∧ f31[9]? = some (.ref a32) ∧ (∃ f34, h4.2 a32 = some (.inr (7, f34))) ∧ w_Vo_configurationAt (fun v h33 => ∃ (x35 : Int32), v = some (.int x35) ∧ Q (some (.int x35)) h33) a32 p2 h4) ∧ (¬ p3 = 0 → ¬ p3 = 1 → ¬ p3 = 2 → ¬ p3 = 3 → ¬ p3 = 4 → Q (some (.int (-1))) h4))) ∧ (x5 = 0 → Q (some (.int (-1))) h4))) p2 h1) this p1 h
set_option maxRecDepth 100000 in
set_option maxHeartbeats 4000000 in
theorem x_Q_map {sc : List Int32} {Q : Option Value → xH → Prop} {this : Nat} {p1 : Int32} {p2 : Int32} {p3 : Int32} {h : xH} (hw : w_Q_map Q this p1 p2 p3 h) : xMet sc m_Q_map 2 0 0 [.ref (this), .int (p1), .int (p2), .int (p3)] h Q := by
  unfold w_Q_map at hw
  refine xMet.of2 cw_Q_map rfl rfl ?_
  show xW sc m_Q_map 2 0 0 0 [some (.ref (this)), some (.int (p1)), some (.int (p2)), some (.int (p3)), none] [] h Q
  refine xw_aload_n d_Q_map_0 rfl rfl ?_
  refine xw_iload_n d_Q_map_1 rfl rfl ?_
  obtain ⟨⟨f2, hA⟩, hw⟩ := hw
  refine xc_V1r lk_Q_93 in_Q_find d_Q_map_2 (x_Q_find hw) rfl hA rfl ?_ ?_
  · intro h1 hw
    refine xs_astoreN (lv' := [some (.ref (this)), some (.int (p1)), some (.int (p2)), some (.int (p3)), some (.null)]) d_Q_map_5 rfl rfl ?_
    refine xw_aloadN d_Q_map_7 rfl ?_
    refine xw_ifnullN (tgt := 19) d_Q_map_9 (by decide) ?_
    refine xw_iconst (v := -1) d_Q_map_19 (by decide) ?_
    exact xw_ireturn rfl d_Q_map_20 hw
  · intro b3 h1 hw
    refine xs_astore (lv' := [some (.ref (this)), some (.int (p1)), some (.int (p2)), some (.int (p3)), some (.ref (b3))]) d_Q_map_5 rfl rfl ?_
    refine xw_aload d_Q_map_7 rfl ?_
    refine xw_ifnull d_Q_map_9 ?_
    refine xw_iload_n d_Q_map_12 rfl rfl ?_
    refine xc_S1i lk_Q_225 st_Q_isIndex d_Q_map_13 (x_Q_isIndex hw) rfl rfl ?_
    intro x5 h4 hw
    refine xw_if_ne (tgt := 21) d_Q_map_16 (by decide) (fun c37 => ?_) (fun c37 => ?_)
    · have hw := hw.1 c37
      refine xw_iload_n d_Q_map_21 rfl rfl ?_
      by_cases c12 : p3 = 0
      · have hw := hw.1 c12
        rw [c12]
        refine xw_tableIn (tgt := 56) (off := 34) d_Q_map_22 (by decide) (by decide) (by decide +kernel) (by decide) ?_
        refine xw_aload d_Q_map_56 rfl ?_
        obtain ⟨f7, a8, hA, hB, hw⟩ := hw
        refine xw_getr fr_Q_55 d_Q_map_58 hA hB ?_
        refine xw_iload_n d_Q_map_61 rfl rfl ?_
        obtain ⟨⟨f10, hA⟩, hw⟩ := hw
        refine xc_V1i lk_Q_228 in_Se_stateOf d_Q_map_62 (x_Se_stateOf hw) rfl hA rfl ?_
        intro x11 h9 hw
        exact xw_ireturn rfl d_Q_map_65 hw
      by_cases c18 : p3 = 1
      · have hw := hw.2.1 c18
        rw [c18]
        refine xw_tableIn (tgt := 66) (off := 44) d_Q_map_22 (by decide) (by decide) (by decide +kernel) (by decide) ?_
        refine xw_aload d_Q_map_66 rfl ?_
        obtain ⟨f13, a14, hA, hB, hw⟩ := hw
        refine xw_getr fr_Q_55 d_Q_map_68 hA hB ?_
        refine xw_iload_n d_Q_map_71 rfl rfl ?_
        obtain ⟨⟨f16, hA⟩, hw⟩ := hw
        refine xc_V1i lk_Q_231 in_Se_configurationOf d_Q_map_72 (x_Se_configurationOf hw) rfl hA rfl ?_
        intro x17 h15 hw
        exact xw_ireturn rfl d_Q_map_75 hw
      by_cases c24 : p3 = 2
      · have hw := hw.2.2.1 c24
        rw [c24]
        refine xw_tableIn (tgt := 76) (off := 54) d_Q_map_22 (by decide) (by decide) (by decide +kernel) (by decide) ?_
        refine xw_aload d_Q_map_76 rfl ?_
        obtain ⟨f19, a20, hA, hB, hw⟩ := hw
        refine xw_getr fr_Q_234 d_Q_map_78 hA hB ?_
        refine xw_iload_n d_Q_map_81 rfl rfl ?_
        obtain ⟨⟨f22, hA⟩, hw⟩ := hw
        refine xc_V1i lk_Q_238 in_Vo_promisedAt d_Q_map_82 (x_Vo_promisedAt hw) rfl hA rfl ?_
        intro x23 h21 hw
        exact xw_ireturn rfl d_Q_map_85 hw
      by_cases c30 : p3 = 3
      · have hw := hw.2.2.2.1 c30
        rw [c30]
        refine xw_tableIn (tgt := 86) (off := 64) d_Q_map_22 (by decide) (by decide) (by decide +kernel) (by decide) ?_
        refine xw_aload d_Q_map_86 rfl ?_
        obtain ⟨f25, a26, hA, hB, hw⟩ := hw
        refine xw_getr fr_Q_234 d_Q_map_88 hA hB ?_
        refine xw_iload_n d_Q_map_91 rfl rfl ?_
        obtain ⟨⟨f28, hA⟩, hw⟩ := hw
        refine xc_V1i lk_Q_243 in_Vo_acceptedAt d_Q_map_92 (x_Vo_acceptedAt hw) rfl hA rfl ?_
        intro x29 h27 hw
        exact xw_ireturn rfl d_Q_map_95 hw
      by_cases c36 : p3 = 4
      · have hw := hw.2.2.2.2.1 c36
        rw [c36]
        refine xw_tableIn (tgt := 96) (off := 74) d_Q_map_22 (by decide) (by decide) (by decide +kernel) (by decide) ?_
        refine xw_aload d_Q_map_96 rfl ?_
        obtain ⟨f31, a32, hA, hB, hw⟩ := hw
        refine xw_getr fr_Q_234 d_Q_map_98 hA hB ?_
        refine xw_iload_n d_Q_map_101 rfl rfl ?_
        obtain ⟨⟨f34, hA⟩, hw⟩ := hw
        refine xc_V1i lk_Q_246 in_Vo_configurationAt d_Q_map_102 (x_Vo_configurationAt hw) rfl hA rfl ?_
        intro x35 h33 hw
        exact xw_ireturn rfl d_Q_map_105 hw
      have hw := hw.2.2.2.2.2 c12 c18 c24 c30 c36
      have ec12 := lv_neT c12 (a := 0) (by decide)
      have ec18 := lv_neT c18 (a := 1) (by decide)
      have ec24 := lv_neT c24 (a := 2) (by decide)
      have ec30 := lv_neT c30 (a := 3) (by decide)
      have ec36 := lv_neT c36 (a := 4) (by decide)
      refine xw_tableOut (tgt := 106) d_Q_map_22 (by omega) (by decide) ?_
      refine xw_iconst (v := -1) d_Q_map_106 (by decide) ?_
      exact xw_ireturn rfl d_Q_map_107 hw
    · have hw := hw.2 c37
      refine xw_iconst (v := -1) d_Q_map_19 (by decide) ?_
      exact xw_ireturn rfl d_Q_map_20 hw
set_option maxRecDepth 100000 in
def w_Q_task (Q : Option Value → xH → Prop) (this : Nat) (p1 : Int32) (p2 : Int32) (h : xH) : Prop := (∃ f2, h.2 this = some (.inr (0, f2))) ∧ w_Q_find (fun v h1 => (v = some .null ∧ Q (some (.int (-1))) h1) ∨ ∃ b3, v = some (.ref b3) ∧ (∃ f5, h1.2 b3 = some (.inr (4, f5))) ∧ w_No_isUp (fun v h4 => ∃ (x6 : Int32), v = some (.int x6) ∧ ((x6 = 0 → Q (some (.int (-1))) h4) ∧ (¬ x6 = 0 → ∃ (f7 : List Value) (a8 : Nat), h4.2 b3 = some (.inr (4, f7)) ∧ f7[10]? = some (.ref a8) ∧ ∃ (f9 : List Value) (x10 : Int32), h4.2 a8 = some (.inr (6, f9)) ∧ f9[0]? = some (.int x10) ∧ ((¬ x10 = 0 → ∃ (f11 : List Value) (a12 : Nat), h4.2 b3 = some (.inr (4, f11)) ∧ f11[10]? = some (.ref a12) ∧ ((p2 = 0 → ∃ (f14 : List Value) (x15 : Int32), h4.2 a12 = some (.inr (6, f14)) ∧ f14[0]? = some (.int x15) ∧ Q (some (.int x15)) h4) ∧ (p2 = 1 → ∃ (f17 : List Value) (x18 : Int32), h4.2 a12 = some (.inr (6, f17)) ∧ f17[1]? = some (.int x18) ∧ Q (some (.int x18)) h4) ∧ (p2 = 2 → ∃ (f20 : List Value) (x21 : Int32), h4.2 a12 = some (.inr (6, f20)) ∧ f20[2]? = some (.int x21) ∧ Q (some (.int x21)) h4) ∧ (p2 = 3 → ∃ (f23 : List Value) (x24 : Int32), h4.2 a12 = some (.inr (6, f23)) ∧ f23[3]? = some (.int x24) ∧ Q (some (.int x24)) h4) ∧ (p2 = 4 → ∃ (f26 : List Value) (x27 : Int32), h4.2 a12 = some (.inr (6, f26)) ∧ f26[4]? = some (.int x27) ∧ Q (some (.int x27)) h4) ∧ (p2 = 5 → ∃ (f29 : List Value) (x30 : Int32), h4.2 a12 = some (.inr (6, f29)) ∧ f29[5]? = some (.int x30) ∧ Q (some (.int x30)) h4) ∧ (p2 = 6 → ∃ (f32 : List Value) (x33 : Int32), h4.2 a12 = some (.inr (6, f32)) ∧ f32[6]? = some (.int x33) ∧ Q (some (.int x33)) h4) ∧ (p2 = 7 → (∃ f36, h4.2 a12 = some (.inr (6, f36))) ∧ w_Ta_isOfObject (fun v h35 => ∃ (x37 : Int32), v = some (.int x37) ∧ ((x37 = 0 → Q (some (.int 0)) h35) ∧ (¬ x37 = 0 → ∃ (f38 : List Value) (a39 : Nat), h35.2 a12 = some (.inr (6, f38)) ∧ f38[13]? = some (.ref a39) ∧ ∃ (f40 : List Value) (x41 : Int32), h35.2 a12 = some (.inr (6, f40)) ∧ f40[3]? = some (.int x41) ∧ (∃ f43, h35.2 a39 = some (.inr (1, f43))) ∧ w_Co_numberOf (fun v h42 => ∃ (x44 : Int32), v = some (.int x44) ∧ Q (some (.int x44)) h42) a39 x41 h35))) a12 h4) ∧ (p2 = 8 → (∃ f48, h4.2 a12 = some (.inr (6, f48))) ∧ w_Ta_isOfObject (fun v h47 => ∃ (x49 : Int32), v = some (.int x49) ∧ ((x49 = 0 → Q (some (.int 0)) h47) ∧ (¬ x49 = 0 → ∃ (f50 : List Value) (a51 : Nat), h47.2 a12 = some (.inr (6, f50)) ∧ f50[13]? = some (.ref a51) ∧ ∃ (f52 : List Value) (x53 : Int32), h47.2 a12 = some (.inr (6, f52)) ∧ f52[3]? = some (.int x53) ∧ (∃ f55, h47.2 a51 = some (.inr (1, f55))) ∧ w_Co_writerOf (fun v h54 => ∃ (x56 : Int32), v = some (.int x56) ∧ Q (some (.int x56)) h54) a51 x53 h47))) a12 h4) ∧ (p2 = 9 → ∃ (f59 : List Value) (x60 : Int32), h4.2 a12 = some (.inr (6, f59)) ∧ f59[7]? = some (.int x60) ∧ Q (some (.int x60)) h4) ∧ (¬ p2 = 0 → ¬ p2 = 1 → ¬ p2 = 2 → ¬ p2 = 3 → ¬ p2 = 4 → ¬ p2 = 5 → ¬ p2 = 6 → ¬ p2 = 7 → ¬ p2 = 8 → ¬ p2 = 9 → Q (some (.int (-1))) h4))) ∧ (x10 = 0 → Q (some (.int (-1))) h4))))) b3 h1) this p1 h
set_option maxRecDepth 100000 in
set_option maxHeartbeats 4000000 in
theorem x_Q_task {sc : List Int32} {Q : Option Value → xH → Prop} {this : Nat} {p1 : Int32} {p2 : Int32} {h : xH} (hw : w_Q_task Q this p1 p2 h) : xMet sc m_Q_task 2 0 0 [.ref (this), .int (p1), .int (p2)] h Q := by
  unfold w_Q_task at hw
  refine xMet.of2 cw_Q_task rfl rfl ?_
  show xW sc m_Q_task 2 0 0 0 [some (.ref (this)), some (.int (p1)), some (.int (p2)), none, none] [] h Q
  refine xw_aload_n d_Q_task_0 rfl rfl ?_
  refine xw_iload_n d_Q_task_1 rfl rfl ?_
  obtain ⟨⟨f2, hA⟩, hw⟩ := hw
  refine xc_V1r lk_Q_93 in_Q_find d_Q_task_2 (x_Q_find hw) rfl hA rfl ?_ ?_
  · intro h1 hw
    refine xs_astore_nN (lv' := [some (.ref (this)), some (.int (p1)), some (.int (p2)), some (.null), none]) d_Q_task_5 rfl rfl rfl ?_
    refine xw_aload_nN d_Q_task_6 rfl rfl ?_
    refine xw_ifnullN (tgt := 27) d_Q_task_7 (by decide) ?_
    refine xw_iconst (v := -1) d_Q_task_27 (by decide) ?_
    exact xw_ireturn rfl d_Q_task_28 hw
  · intro b3 h1 hw
    refine xs_astore_n (lv' := [some (.ref (this)), some (.int (p1)), some (.int (p2)), some (.ref (b3)), none]) d_Q_task_5 rfl rfl rfl ?_
    refine xw_aload_n d_Q_task_6 rfl rfl ?_
    refine xw_ifnull d_Q_task_7 ?_
    refine xw_aload_n d_Q_task_10 rfl rfl ?_
    obtain ⟨⟨f5, hA⟩, hw⟩ := hw
    refine xc_V0i lk_Q_129 in_No_isUp d_Q_task_11 (x_No_isUp hw) rfl hA rfl ?_
    intro x6 h4 hw
    refine xw_if_eq (tgt := 27) d_Q_task_14 (by decide) (fun c63 => ?_) (fun c63 => ?_)
    · have hw := hw.1 c63
      refine xw_iconst (v := -1) d_Q_task_27 (by decide) ?_
      exact xw_ireturn rfl d_Q_task_28 hw
    · have hw := hw.2 c63
      refine xw_aload_n d_Q_task_17 rfl rfl ?_
      obtain ⟨f7, a8, hA, hB, hw⟩ := hw
      refine xw_getr fr_Q_84 d_Q_task_18 hA hB ?_
      obtain ⟨f9, x10, hA, hB, hw⟩ := hw
      refine xw_getr fr_Q_249 d_Q_task_21 hA hB ?_
      refine xw_if_ne (tgt := 29) d_Q_task_24 (by decide) (fun c62 => ?_) (fun c62 => ?_)
      · have hw := hw.1 c62
        refine xw_aload_n d_Q_task_29 rfl rfl ?_
        obtain ⟨f11, a12, hA, hB, hw⟩ := hw
        refine xw_getr fr_Q_84 d_Q_task_30 hA hB ?_
        refine xs_astore (lv' := [some (.ref (this)), some (.int (p1)), some (.int (p2)), some (.ref (b3)), some (.ref (a12))]) d_Q_task_33 rfl rfl ?_
        refine xw_iload_n d_Q_task_35 rfl rfl ?_
        by_cases c16 : p2 = 0
        · have hw := hw.1 c16
          rw [c16]
          refine xw_tableIn (tgt := 92) (off := 56) d_Q_task_36 (by decide) (by decide) (by decide +kernel) (by decide) ?_
          refine xw_aload d_Q_task_92 rfl ?_
          obtain ⟨f14, x15, hA, hB, hw⟩ := hw
          refine xw_getr fr_Q_249 d_Q_task_94 hA hB ?_
          exact xw_ireturn rfl d_Q_task_97 hw
        by_cases c19 : p2 = 1
        · have hw := hw.2.1 c19
          rw [c19]
          refine xw_tableIn (tgt := 98) (off := 62) d_Q_task_36 (by decide) (by decide) (by decide +kernel) (by decide) ?_
          refine xw_aload d_Q_task_98 rfl ?_
          obtain ⟨f17, x18, hA, hB, hw⟩ := hw
          refine xw_getr fr_Q_123 d_Q_task_100 hA hB ?_
          exact xw_ireturn rfl d_Q_task_103 hw
        by_cases c22 : p2 = 2
        · have hw := hw.2.2.1 c22
          rw [c22]
          refine xw_tableIn (tgt := 104) (off := 68) d_Q_task_36 (by decide) (by decide) (by decide +kernel) (by decide) ?_
          refine xw_aload d_Q_task_104 rfl ?_
          obtain ⟨f20, x21, hA, hB, hw⟩ := hw
          refine xw_getr fr_Q_252 d_Q_task_106 hA hB ?_
          exact xw_ireturn rfl d_Q_task_109 hw
        by_cases c25 : p2 = 3
        · have hw := hw.2.2.2.1 c25
          rw [c25]
          refine xw_tableIn (tgt := 110) (off := 74) d_Q_task_36 (by decide) (by decide) (by decide +kernel) (by decide) ?_
          refine xw_aload d_Q_task_110 rfl ?_
          obtain ⟨f23, x24, hA, hB, hw⟩ := hw
          refine xw_getr fr_Q_255 d_Q_task_112 hA hB ?_
          exact xw_ireturn rfl d_Q_task_115 hw
        by_cases c28 : p2 = 4
        · have hw := hw.2.2.2.2.1 c28
          rw [c28]
          refine xw_tableIn (tgt := 116) (off := 80) d_Q_task_36 (by decide) (by decide) (by decide +kernel) (by decide) ?_
          refine xw_aload d_Q_task_116 rfl ?_
          obtain ⟨f26, x27, hA, hB, hw⟩ := hw
          refine xw_getr fr_Q_258 d_Q_task_118 hA hB ?_
          exact xw_ireturn rfl d_Q_task_121 hw
        by_cases c31 : p2 = 5
        · have hw := hw.2.2.2.2.2.1 c31
          rw [c31]
          refine xw_tableIn (tgt := 122) (off := 86) d_Q_task_36 (by decide) (by decide) (by decide +kernel) (by decide) ?_
          refine xw_aload d_Q_task_122 rfl ?_
          obtain ⟨f29, x30, hA, hB, hw⟩ := hw
          refine xw_getr fr_Q_132 d_Q_task_124 hA hB ?_
          exact xw_ireturn rfl d_Q_task_127 hw
        by_cases c34 : p2 = 6
        · have hw := hw.2.2.2.2.2.2.1 c34
          rw [c34]
          refine xw_tableIn (tgt := 128) (off := 92) d_Q_task_36 (by decide) (by decide) (by decide +kernel) (by decide) ?_
          refine xw_aload d_Q_task_128 rfl ?_
          obtain ⟨f32, x33, hA, hB, hw⟩ := hw
          refine xw_getr fr_Q_135 d_Q_task_130 hA hB ?_
          exact xw_ireturn rfl d_Q_task_133 hw
        by_cases c46 : p2 = 7
        · have hw := hw.2.2.2.2.2.2.2.1 c46
          rw [c46]
          refine xw_tableIn (tgt := 134) (off := 98) d_Q_task_36 (by decide) (by decide) (by decide +kernel) (by decide) ?_
          refine xw_aload d_Q_task_134 rfl ?_
          obtain ⟨⟨f36, hA⟩, hw⟩ := hw
          refine xc_V0i lk_Q_261 in_Ta_isOfObject d_Q_task_136 (x_Ta_isOfObject hw) rfl hA rfl ?_
          intro x37 h35 hw
          refine xw_if_eq (tgt := 158) d_Q_task_139 (by decide) (fun c45 => ?_) (fun c45 => ?_)
          · have hw := hw.1 c45
            refine xw_iconst (v := 0) d_Q_task_158 (by decide) ?_
            exact xw_ireturn rfl d_Q_task_159 hw
          · have hw := hw.2 c45
            refine xw_aload d_Q_task_142 rfl ?_
            obtain ⟨f38, a39, hA, hB, hw⟩ := hw
            refine xw_getr fr_Q_264 d_Q_task_144 hA hB ?_
            refine xw_aload d_Q_task_147 rfl ?_
            obtain ⟨f40, x41, hA, hB, hw⟩ := hw
            refine xw_getr fr_Q_255 d_Q_task_149 hA hB ?_
            obtain ⟨⟨f43, hA⟩, hw⟩ := hw
            refine xc_V1i lk_Q_216 in_Co_numberOf d_Q_task_152 (x_Co_numberOf hw) rfl hA rfl ?_
            intro x44 h42 hw
            refine xw_goto (tgt := 159) d_Q_task_155 (by decide) ?_
            exact xw_ireturn rfl d_Q_task_159 hw
        by_cases c58 : p2 = 8
        · have hw := hw.2.2.2.2.2.2.2.2.1 c58
          rw [c58]
          refine xw_tableIn (tgt := 160) (off := 124) d_Q_task_36 (by decide) (by decide) (by decide +kernel) (by decide) ?_
          refine xw_aload d_Q_task_160 rfl ?_
          obtain ⟨⟨f48, hA⟩, hw⟩ := hw
          refine xc_V0i lk_Q_261 in_Ta_isOfObject d_Q_task_162 (x_Ta_isOfObject hw) rfl hA rfl ?_
          intro x49 h47 hw
          refine xw_if_eq (tgt := 184) d_Q_task_165 (by decide) (fun c57 => ?_) (fun c57 => ?_)
          · have hw := hw.1 c57
            refine xw_iconst (v := 0) d_Q_task_184 (by decide) ?_
            exact xw_ireturn rfl d_Q_task_185 hw
          · have hw := hw.2 c57
            refine xw_aload d_Q_task_168 rfl ?_
            obtain ⟨f50, a51, hA, hB, hw⟩ := hw
            refine xw_getr fr_Q_264 d_Q_task_170 hA hB ?_
            refine xw_aload d_Q_task_173 rfl ?_
            obtain ⟨f52, x53, hA, hB, hw⟩ := hw
            refine xw_getr fr_Q_255 d_Q_task_175 hA hB ?_
            obtain ⟨⟨f55, hA⟩, hw⟩ := hw
            refine xc_V1i lk_Q_219 in_Co_writerOf d_Q_task_178 (x_Co_writerOf hw) rfl hA rfl ?_
            intro x56 h54 hw
            refine xw_goto (tgt := 185) d_Q_task_181 (by decide) ?_
            exact xw_ireturn rfl d_Q_task_185 hw
        by_cases c61 : p2 = 9
        · have hw := hw.2.2.2.2.2.2.2.2.2.1 c61
          rw [c61]
          refine xw_tableIn (tgt := 186) (off := 150) d_Q_task_36 (by decide) (by decide) (by decide +kernel) (by decide) ?_
          refine xw_aload d_Q_task_186 rfl ?_
          obtain ⟨f59, x60, hA, hB, hw⟩ := hw
          refine xw_getr fr_Q_267 d_Q_task_188 hA hB ?_
          exact xw_ireturn rfl d_Q_task_191 hw
        have hw := hw.2.2.2.2.2.2.2.2.2.2 c16 c19 c22 c25 c28 c31 c34 c46 c58 c61
        have ec16 := lv_neT c16 (a := 0) (by decide)
        have ec19 := lv_neT c19 (a := 1) (by decide)
        have ec22 := lv_neT c22 (a := 2) (by decide)
        have ec25 := lv_neT c25 (a := 3) (by decide)
        have ec28 := lv_neT c28 (a := 4) (by decide)
        have ec31 := lv_neT c31 (a := 5) (by decide)
        have ec34 := lv_neT c34 (a := 6) (by decide)
        have ec46 := lv_neT c46 (a := 7) (by decide)
        have ec58 := lv_neT c58 (a := 8) (by decide)
        have ec61 := lv_neT c61 (a := 9) (by decide)
        refine xw_tableOut (tgt := 192) d_Q_task_36 (by omega) (by decide) ?_
        refine xw_iconst (v := -1) d_Q_task_192 (by decide) ?_
        exact xw_ireturn rfl d_Q_task_193 hw
      · have hw := hw.2 c62
        refine xw_iconst (v := -1) d_Q_task_27 (by decide) ?_
        exact xw_ireturn rfl d_Q_task_28 hw
set_option maxRecDepth 100000 in
def w_Q_message (Q : Option Value → xH → Prop) (this : Nat) (p1 : Int32) (p2 : Int32) (h : xH) : Prop := ∃ (f1 : List Value) (a2 : Nat), h.2 this = some (.inr (0, f1)) ∧ f1[1]? = some (.ref a2) ∧ (∃ f4, h.2 a2 = some (.inr (2, f4))) ∧ w_Ma_row (fun v h3 => (v = some .null ∧ Q (some (.int (-1))) h3) ∨ ∃ b5, v = some (.ref b5) ∧ ((p2 = 0 → ∃ (f7 : List Value) (x8 : Int32), h3.2 b5 = some (.inr (3, f7)) ∧ f7[0]? = some (.int x8) ∧ Q (some (.int x8)) h3) ∧ (p2 = 1 → ∃ (f10 : List Value) (x11 : Int32), h3.2 b5 = some (.inr (3, f10)) ∧ f10[1]? = some (.int x11) ∧ Q (some (.int x11)) h3) ∧ (p2 = 2 → ∃ (f13 : List Value) (x14 : Int32), h3.2 b5 = some (.inr (3, f13)) ∧ f13[2]? = some (.int x14) ∧ Q (some (.int x14)) h3) ∧ (p2 = 3 → ∃ (f16 : List Value) (x17 : Int32), h3.2 b5 = some (.inr (3, f16)) ∧ f16[3]? = some (.int x17) ∧ Q (some (.int x17)) h3) ∧ (p2 = 4 → ∃ (f19 : List Value) (x20 : Int32), h3.2 b5 = some (.inr (3, f19)) ∧ f19[4]? = some (.int x20) ∧ Q (some (.int x20)) h3) ∧ (p2 = 5 → ∃ (f22 : List Value) (x23 : Int32), h3.2 b5 = some (.inr (3, f22)) ∧ f22[5]? = some (.int x23) ∧ Q (some (.int x23)) h3) ∧ (p2 = 6 → (∃ f26, h3.2 b5 = some (.inr (3, f26))) ∧ w_Me_hasTag (fun v h25 => ∃ (x27 : Int32), v = some (.int x27) ∧ ((x27 = 0 → ∃ (f28 : List Value) (x29 : Int32), h25.2 b5 = some (.inr (3, f28)) ∧ f28[6]? = some (.int x29) ∧ Q (some (.int x29)) h25) ∧ (¬ x27 = 0 → ∃ (f30 : List Value) (a31 : Nat), h25.2 b5 = some (.inr (3, f30)) ∧ f30[9]? = some (.ref a31) ∧ ∃ (f32 : List Value) (x33 : Int32), h25.2 b5 = some (.inr (3, f32)) ∧ f32[5]? = some (.int x33) ∧ (∃ f35, h25.2 a31 = some (.inr (1, f35))) ∧ w_Co_numberOf (fun v h34 => ∃ (x36 : Int32), v = some (.int x36) ∧ Q (some (.int x36)) h34) a31 x33 h25))) b5 h3) ∧ (p2 = 7 → (∃ f40, h3.2 b5 = some (.inr (3, f40))) ∧ w_Me_hasTag (fun v h39 => ∃ (x41 : Int32), v = some (.int x41) ∧ ((x41 = 0 → ∃ (f42 : List Value) (x43 : Int32), h39.2 b5 = some (.inr (3, f42)) ∧ f42[7]? = some (.int x43) ∧ Q (some (.int x43)) h39) ∧ (¬ x41 = 0 → ∃ (f44 : List Value) (a45 : Nat), h39.2 b5 = some (.inr (3, f44)) ∧ f44[9]? = some (.ref a45) ∧ ∃ (f46 : List Value) (x47 : Int32), h39.2 b5 = some (.inr (3, f46)) ∧ f46[5]? = some (.int x47) ∧ (∃ f49, h39.2 a45 = some (.inr (1, f49))) ∧ w_Co_writerOf (fun v h48 => ∃ (x50 : Int32), v = some (.int x50) ∧ Q (some (.int x50)) h48) a45 x47 h39))) b5 h3) ∧ (p2 = 8 → (∃ f54, h3.2 b5 = some (.inr (3, f54))) ∧ w_Me_hasTag (fun v h53 => ∃ (x55 : Int32), v = some (.int x55) ∧ ((x55 = 0 → Q (some (.int 0)) h53) ∧ (¬ x55 = 0 → ∃ (f56 : List Value) (a57 : Nat), h53.2 b5 = some (.inr (3, f56)) ∧ f56[9]? = some (.ref a57) ∧ ∃ (f58 : List Value) (x59 : Int32), h53.2 b5 = some (.inr (3, f58)) ∧ f58[5]? = some (.int x59) ∧ (∃ f61, h53.2 a57 = some (.inr (1, f61))) ∧ w_Co_valueOf (fun v h60 => ∃ (x62 : Int32), v = some (.int x62) ∧ Q (some (.int x62)) h60) a57 x59 h53))) b5 h3) ∧ (p2 = 9 → ∃ (f65 : List Value) (a66 : Nat), h3.2 b5 = some (.inr (3, f65)) ∧ f65[8]? = some (.ref a66) ∧ (∃ f68, h3.2 a66 = some (.inr (5, f68))) ∧ w_Se_having (fun v h67 => ∃ (x69 : Int32), v = some (.int x69) ∧ w_Q_greatest (fun v h70 => ∃ (x71 : Int32), v = some (.int x71) ∧ Q (some (.int x71)) h70) x69 h67) a66 1 h3) ∧ (¬ p2 = 0 → ¬ p2 = 1 → ¬ p2 = 2 → ¬ p2 = 3 → ¬ p2 = 4 → ¬ p2 = 5 → ¬ p2 = 6 → ¬ p2 = 7 → ¬ p2 = 8 → ¬ p2 = 9 → Q (some (.int (-1))) h3))) a2 p1 h
set_option maxRecDepth 100000 in
set_option maxHeartbeats 4000000 in
theorem x_Q_message {sc : List Int32} {Q : Option Value → xH → Prop} {this : Nat} {p1 : Int32} {p2 : Int32} {h : xH} (hw : w_Q_message Q this p1 p2 h) : xMet sc m_Q_message 2 0 0 [.ref (this), .int (p1), .int (p2)] h Q := by
  unfold w_Q_message at hw
  refine xMet.of2 cw_Q_message rfl rfl ?_
  show xW sc m_Q_message 2 0 0 0 [some (.ref (this)), some (.int (p1)), some (.int (p2)), none] [] h Q
  refine xw_aload_n d_Q_message_0 rfl rfl ?_
  obtain ⟨f1, a2, hA, hB, hw⟩ := hw
  refine xw_getr fr_Q_18 d_Q_message_1 hA hB ?_
  refine xw_iload_n d_Q_message_4 rfl rfl ?_
  obtain ⟨⟨f4, hA⟩, hw⟩ := hw
  refine xc_V1r lk_Q_189 in_Ma_row d_Q_message_5 (x_Ma_row hw) rfl hA rfl ?_ ?_
  · intro h3 hw
    refine xs_astore_nN (lv' := [some (.ref (this)), some (.int (p1)), some (.int (p2)), some (.null)]) d_Q_message_8 rfl rfl rfl ?_
    refine xw_aload_nN d_Q_message_9 rfl rfl ?_
    refine xw_ifnonnullN d_Q_message_10 ?_
    refine xw_iconst (v := -1) d_Q_message_13 (by decide) ?_
    exact xw_ireturn rfl d_Q_message_14 hw
  · intro b5 h3 hw
    refine xs_astore_n (lv' := [some (.ref (this)), some (.int (p1)), some (.int (p2)), some (.ref (b5))]) d_Q_message_8 rfl rfl rfl ?_
    refine xw_aload_n d_Q_message_9 rfl rfl ?_
    refine xw_ifnonnull (tgt := 15) d_Q_message_10 (by decide) ?_
    refine xw_iload_n d_Q_message_15 rfl rfl ?_
    by_cases c9 : p2 = 0
    · have hw := hw.1 c9
      rw [c9]
      refine xw_tableIn (tgt := 72) (off := 56) d_Q_message_16 (by decide) (by decide) (by decide +kernel) (by decide) ?_
      refine xw_aload_n d_Q_message_72 rfl rfl ?_
      obtain ⟨f7, x8, hA, hB, hw⟩ := hw
      refine xw_getr fr_Q_175 d_Q_message_73 hA hB ?_
      exact xw_ireturn rfl d_Q_message_76 hw
    by_cases c12 : p2 = 1
    · have hw := hw.2.1 c12
      rw [c12]
      refine xw_tableIn (tgt := 77) (off := 61) d_Q_message_16 (by decide) (by decide) (by decide +kernel) (by decide) ?_
      refine xw_aload_n d_Q_message_77 rfl rfl ?_
      obtain ⟨f10, x11, hA, hB, hw⟩ := hw
      refine xw_getr fr_Q_270 d_Q_message_78 hA hB ?_
      exact xw_ireturn rfl d_Q_message_81 hw
    by_cases c15 : p2 = 2
    · have hw := hw.2.2.1 c15
      rw [c15]
      refine xw_tableIn (tgt := 82) (off := 66) d_Q_message_16 (by decide) (by decide) (by decide +kernel) (by decide) ?_
      refine xw_aload_n d_Q_message_82 rfl rfl ?_
      obtain ⟨f13, x14, hA, hB, hw⟩ := hw
      refine xw_getr fr_Q_163 d_Q_message_83 hA hB ?_
      exact xw_ireturn rfl d_Q_message_86 hw
    by_cases c18 : p2 = 3
    · have hw := hw.2.2.2.1 c18
      rw [c18]
      refine xw_tableIn (tgt := 87) (off := 71) d_Q_message_16 (by decide) (by decide) (by decide +kernel) (by decide) ?_
      refine xw_aload_n d_Q_message_87 rfl rfl ?_
      obtain ⟨f16, x17, hA, hB, hw⟩ := hw
      refine xw_getr fr_Q_273 d_Q_message_88 hA hB ?_
      exact xw_ireturn rfl d_Q_message_91 hw
    by_cases c21 : p2 = 4
    · have hw := hw.2.2.2.2.1 c21
      rw [c21]
      refine xw_tableIn (tgt := 92) (off := 76) d_Q_message_16 (by decide) (by decide) (by decide +kernel) (by decide) ?_
      refine xw_aload_n d_Q_message_92 rfl rfl ?_
      obtain ⟨f19, x20, hA, hB, hw⟩ := hw
      refine xw_getr fr_Q_274 d_Q_message_93 hA hB ?_
      exact xw_ireturn rfl d_Q_message_96 hw
    by_cases c24 : p2 = 5
    · have hw := hw.2.2.2.2.2.1 c24
      rw [c24]
      refine xw_tableIn (tgt := 97) (off := 81) d_Q_message_16 (by decide) (by decide) (by decide +kernel) (by decide) ?_
      refine xw_aload_n d_Q_message_97 rfl rfl ?_
      obtain ⟨f22, x23, hA, hB, hw⟩ := hw
      refine xw_getr fr_Q_275 d_Q_message_98 hA hB ?_
      exact xw_ireturn rfl d_Q_message_101 hw
    by_cases c38 : p2 = 6
    · have hw := hw.2.2.2.2.2.2.1 c38
      rw [c38]
      refine xw_tableIn (tgt := 102) (off := 86) d_Q_message_16 (by decide) (by decide) (by decide +kernel) (by decide) ?_
      refine xw_aload_n d_Q_message_102 rfl rfl ?_
      obtain ⟨⟨f26, hA⟩, hw⟩ := hw
      refine xc_V0i lk_Q_276 in_Me_hasTag d_Q_message_103 (x_Me_hasTag hw) rfl hA rfl ?_
      intro x27 h25 hw
      refine xw_if_eq (tgt := 123) d_Q_message_106 (by decide) (fun c37 => ?_) (fun c37 => ?_)
      · have hw := hw.1 c37
        refine xw_aload_n d_Q_message_123 rfl rfl ?_
        obtain ⟨f28, x29, hA, hB, hw⟩ := hw
        refine xw_getr fr_Q_279 d_Q_message_124 hA hB ?_
        exact xw_ireturn rfl d_Q_message_127 hw
      · have hw := hw.2 c37
        refine xw_aload_n d_Q_message_109 rfl rfl ?_
        obtain ⟨f30, a31, hA, hB, hw⟩ := hw
        refine xw_getr fr_Q_142 d_Q_message_110 hA hB ?_
        refine xw_aload_n d_Q_message_113 rfl rfl ?_
        obtain ⟨f32, x33, hA, hB, hw⟩ := hw
        refine xw_getr fr_Q_275 d_Q_message_114 hA hB ?_
        obtain ⟨⟨f35, hA⟩, hw⟩ := hw
        refine xc_V1i lk_Q_216 in_Co_numberOf d_Q_message_117 (x_Co_numberOf hw) rfl hA rfl ?_
        intro x36 h34 hw
        refine xw_goto (tgt := 127) d_Q_message_120 (by decide) ?_
        exact xw_ireturn rfl d_Q_message_127 hw
    by_cases c52 : p2 = 7
    · have hw := hw.2.2.2.2.2.2.2.1 c52
      rw [c52]
      refine xw_tableIn (tgt := 128) (off := 112) d_Q_message_16 (by decide) (by decide) (by decide +kernel) (by decide) ?_
      refine xw_aload_n d_Q_message_128 rfl rfl ?_
      obtain ⟨⟨f40, hA⟩, hw⟩ := hw
      refine xc_V0i lk_Q_276 in_Me_hasTag d_Q_message_129 (x_Me_hasTag hw) rfl hA rfl ?_
      intro x41 h39 hw
      refine xw_if_eq (tgt := 149) d_Q_message_132 (by decide) (fun c51 => ?_) (fun c51 => ?_)
      · have hw := hw.1 c51
        refine xw_aload_n d_Q_message_149 rfl rfl ?_
        obtain ⟨f42, x43, hA, hB, hw⟩ := hw
        refine xw_getr fr_Q_280 d_Q_message_150 hA hB ?_
        exact xw_ireturn rfl d_Q_message_153 hw
      · have hw := hw.2 c51
        refine xw_aload_n d_Q_message_135 rfl rfl ?_
        obtain ⟨f44, a45, hA, hB, hw⟩ := hw
        refine xw_getr fr_Q_142 d_Q_message_136 hA hB ?_
        refine xw_aload_n d_Q_message_139 rfl rfl ?_
        obtain ⟨f46, x47, hA, hB, hw⟩ := hw
        refine xw_getr fr_Q_275 d_Q_message_140 hA hB ?_
        obtain ⟨⟨f49, hA⟩, hw⟩ := hw
        refine xc_V1i lk_Q_219 in_Co_writerOf d_Q_message_143 (x_Co_writerOf hw) rfl hA rfl ?_
        intro x50 h48 hw
        refine xw_goto (tgt := 153) d_Q_message_146 (by decide) ?_
        exact xw_ireturn rfl d_Q_message_153 hw
    by_cases c64 : p2 = 8
    · have hw := hw.2.2.2.2.2.2.2.2.1 c64
      rw [c64]
      refine xw_tableIn (tgt := 154) (off := 138) d_Q_message_16 (by decide) (by decide) (by decide +kernel) (by decide) ?_
      refine xw_aload_n d_Q_message_154 rfl rfl ?_
      obtain ⟨⟨f54, hA⟩, hw⟩ := hw
      refine xc_V0i lk_Q_276 in_Me_hasTag d_Q_message_155 (x_Me_hasTag hw) rfl hA rfl ?_
      intro x55 h53 hw
      refine xw_if_eq (tgt := 175) d_Q_message_158 (by decide) (fun c63 => ?_) (fun c63 => ?_)
      · have hw := hw.1 c63
        refine xw_iconst (v := 0) d_Q_message_175 (by decide) ?_
        exact xw_ireturn rfl d_Q_message_176 hw
      · have hw := hw.2 c63
        refine xw_aload_n d_Q_message_161 rfl rfl ?_
        obtain ⟨f56, a57, hA, hB, hw⟩ := hw
        refine xw_getr fr_Q_142 d_Q_message_162 hA hB ?_
        refine xw_aload_n d_Q_message_165 rfl rfl ?_
        obtain ⟨f58, x59, hA, hB, hw⟩ := hw
        refine xw_getr fr_Q_275 d_Q_message_166 hA hB ?_
        obtain ⟨⟨f61, hA⟩, hw⟩ := hw
        refine xc_V1i lk_Q_222 in_Co_valueOf d_Q_message_169 (x_Co_valueOf hw) rfl hA rfl ?_
        intro x62 h60 hw
        refine xw_goto (tgt := 176) d_Q_message_172 (by decide) ?_
        exact xw_ireturn rfl d_Q_message_176 hw
    by_cases c72 : p2 = 9
    · have hw := hw.2.2.2.2.2.2.2.2.2.1 c72
      rw [c72]
      refine xw_tableIn (tgt := 177) (off := 161) d_Q_message_16 (by decide) (by decide) (by decide +kernel) (by decide) ?_
      refine xw_aload_n d_Q_message_177 rfl rfl ?_
      obtain ⟨f65, a66, hA, hB, hw⟩ := hw
      refine xw_getr fr_Q_166 d_Q_message_178 hA hB ?_
      refine xw_iconst (v := 1) d_Q_message_181 (by decide) ?_
      obtain ⟨⟨f68, hA⟩, hw⟩ := hw
      refine xc_V1i lk_Q_101 in_Se_having d_Q_message_182 (x_Se_having hw) rfl hA rfl ?_
      intro x69 h67 hw
      refine xc_S1i lk_Q_105 st_Q_greatest d_Q_message_185 (x_Q_greatest hw) rfl rfl ?_
      intro x71 h70 hw
      exact xw_ireturn rfl d_Q_message_188 hw
    have hw := hw.2.2.2.2.2.2.2.2.2.2 c9 c12 c15 c18 c21 c24 c38 c52 c64 c72
    have ec9 := lv_neT c9 (a := 0) (by decide)
    have ec12 := lv_neT c12 (a := 1) (by decide)
    have ec15 := lv_neT c15 (a := 2) (by decide)
    have ec18 := lv_neT c18 (a := 3) (by decide)
    have ec21 := lv_neT c21 (a := 4) (by decide)
    have ec24 := lv_neT c24 (a := 5) (by decide)
    have ec38 := lv_neT c38 (a := 6) (by decide)
    have ec52 := lv_neT c52 (a := 7) (by decide)
    have ec64 := lv_neT c64 (a := 8) (by decide)
    have ec72 := lv_neT c72 (a := 9) (by decide)
    refine xw_tableOut (tgt := 189) d_Q_message_16 (by omega) (by decide) ?_
    refine xw_iconst (v := -1) d_Q_message_189 (by decide) ?_
    exact xw_ireturn rfl d_Q_message_190 hw
set_option maxRecDepth 100000 in
def w_Q_count (Q : Option Value → xH → Prop) (this : Nat) (p1 : Int32) (h : xH) : Prop := ((p1 = 0 → ∃ (f2 : List Value) (a3 : Nat), h.2 this = some (.inr (0, f2)) ∧ f2[1]? = some (.ref a3) ∧ ∃ (f4 : List Value) (x5 : Int32), h.2 a3 = some (.inr (2, f4)) ∧ f4[2]? = some (.int x5) ∧ Q (some (.int x5)) h) ∧ (p1 = 1 → ∃ (f7 : List Value) (x8 : Int32), h.2 this = some (.inr (0, f7)) ∧ f7[4]? = some (.int x8) ∧ Q (some (.int x8)) h) ∧ (p1 = 2 → (∃ f11, h.2 this = some (.inr (0, f11))) ∧ w_Q_writesOfAll (fun v h10 => ∃ (x12 : Int32), v = some (.int x12) ∧ Q (some (.int x12)) h10) this h) ∧ (p1 = 3 → (∃ f15, h.2 this = some (.inr (0, f15))) ∧ w_Q_nodesUp (fun v h14 => ∃ (x16 : Int32), v = some (.int x16) ∧ Q (some (.int x16)) h14) this h) ∧ (p1 = 4 → ∃ (f18 : List Value) (a19 : Nat), h.2 this = some (.inr (0, f18)) ∧ f18[1]? = some (.ref a19) ∧ ∃ (f20 : List Value) (x21 : Int32), h.2 a19 = some (.inr (2, f20)) ∧ f20[3]? = some (.int x21) ∧ Q (some (.int x21)) h) ∧ (¬ p1 = 0 → ¬ p1 = 1 → ¬ p1 = 2 → ¬ p1 = 3 → ¬ p1 = 4 → Q (some (.int (-1))) h))
set_option maxRecDepth 100000 in
set_option maxHeartbeats 4000000 in
theorem x_Q_count {sc : List Int32} {Q : Option Value → xH → Prop} {this : Nat} {p1 : Int32} {h : xH} (hw : w_Q_count Q this p1 h) : xMet sc m_Q_count 2 0 0 [.ref (this), .int (p1)] h Q := by
  unfold w_Q_count at hw
  refine xMet.of2 cw_Q_count rfl rfl ?_
  show xW sc m_Q_count 2 0 0 0 [some (.ref (this)), some (.int (p1))] [] h Q
  refine xw_iload_n d_Q_count_0 rfl rfl ?_
  by_cases c6 : p1 = 0
  · have hw := hw.1 c6
    rw [c6]
    refine xw_tableIn (tgt := 36) (off := 35) d_Q_count_1 (by decide) (by decide) (by decide +kernel) (by decide) ?_
    refine xw_aload_n d_Q_count_36 rfl rfl ?_
    obtain ⟨f2, a3, hA, hB, hw⟩ := hw
    refine xw_getr fr_Q_18 d_Q_count_37 hA hB ?_
    obtain ⟨f4, x5, hA, hB, hw⟩ := hw
    refine xw_getr fr_Q_192 d_Q_count_40 hA hB ?_
    exact xw_ireturn rfl d_Q_count_43 hw
  by_cases c9 : p1 = 1
  · have hw := hw.2.1 c9
    rw [c9]
    refine xw_tableIn (tgt := 44) (off := 43) d_Q_count_1 (by decide) (by decide) (by decide +kernel) (by decide) ?_
    refine xw_aload_n d_Q_count_44 rfl rfl ?_
    obtain ⟨f7, x8, hA, hB, hw⟩ := hw
    refine xw_getr fr_Q_32 d_Q_count_45 hA hB ?_
    exact xw_ireturn rfl d_Q_count_48 hw
  by_cases c13 : p1 = 2
  · have hw := hw.2.2.1 c13
    rw [c13]
    refine xw_tableIn (tgt := 49) (off := 48) d_Q_count_1 (by decide) (by decide) (by decide +kernel) (by decide) ?_
    refine xw_aload_n d_Q_count_49 rfl rfl ?_
    obtain ⟨⟨f11, hA⟩, hw⟩ := hw
    refine xc_V0i lk_Q_282 in_Q_writesOfAll d_Q_count_50 (x_Q_writesOfAll hw) rfl hA rfl ?_
    intro x12 h10 hw
    exact xw_ireturn rfl d_Q_count_53 hw
  by_cases c17 : p1 = 3
  · have hw := hw.2.2.2.1 c17
    rw [c17]
    refine xw_tableIn (tgt := 54) (off := 53) d_Q_count_1 (by decide) (by decide) (by decide +kernel) (by decide) ?_
    refine xw_aload_n d_Q_count_54 rfl rfl ?_
    obtain ⟨⟨f15, hA⟩, hw⟩ := hw
    refine xc_V0i lk_Q_286 in_Q_nodesUp d_Q_count_55 (x_Q_nodesUp hw) rfl hA rfl ?_
    intro x16 h14 hw
    exact xw_ireturn rfl d_Q_count_58 hw
  by_cases c22 : p1 = 4
  · have hw := hw.2.2.2.2.1 c22
    rw [c22]
    refine xw_tableIn (tgt := 59) (off := 58) d_Q_count_1 (by decide) (by decide) (by decide +kernel) (by decide) ?_
    refine xw_aload_n d_Q_count_59 rfl rfl ?_
    obtain ⟨f18, a19, hA, hB, hw⟩ := hw
    refine xw_getr fr_Q_18 d_Q_count_60 hA hB ?_
    obtain ⟨f20, x21, hA, hB, hw⟩ := hw
    refine xw_getr fr_Q_289 d_Q_count_63 hA hB ?_
    exact xw_ireturn rfl d_Q_count_66 hw
  have hw := hw.2.2.2.2.2 c6 c9 c13 c17 c22
  have ec6 := lv_neT c6 (a := 0) (by decide)
  have ec9 := lv_neT c9 (a := 1) (by decide)
  have ec13 := lv_neT c13 (a := 2) (by decide)
  have ec17 := lv_neT c17 (a := 3) (by decide)
  have ec22 := lv_neT c22 (a := 4) (by decide)
  refine xw_tableOut (tgt := 67) d_Q_count_1 (by omega) (by decide) ?_
  refine xw_iconst (v := -1) d_Q_count_67 (by decide) ?_
  exact xw_ireturn rfl d_Q_count_68 hw
