set_option maxRecDepth 100000 in
def w_M_does_347 (Q : Option Value → xH → Prop) (l0 : Nat) (l1 : Int32) (l2 : Int32) (h : xH) : Prop := (∃ f2, h.2 l0 = some (.inr (8, f2))) ∧ w_M_isUp (fun v h1 => ∃ (x3 : Int32), v = some (.int x3) ∧ ((x3 = 0 → Q none h1) ∧ (¬ x3 = 0 → ∃ (f4 : List Value) (a5 : Nat), h1.2 l0 = some (.inr (8, f4)) ∧ f4[21]? = some (.ref a5) ∧ ∃ (ar9 : List Int32) (x6 : Int32), h1.2 a5 = some (.inl (0, .inl ar9)) ∧ 0 ≤ l1 ∧ ar9[l1.toNatClampNeg]? = some x6 ∧ ∃ ar7, h1.2 a5 = some (.inl (0, .inl ar7)) ∧ 0 ≤ l1 ∧ l1.toNatClampNeg < ar7.length ∧ ∀ h8, h8 = xu h1 a5 (.inl (0, .inl (ar7.set l1.toNatClampNeg (x6 ||| ((1 : Int32) <<< (l1 &&& 31)))))) → Q none h8))) l0 l1 h
set_option maxRecDepth 100000 in
set_option maxHeartbeats 4000000 in
theorem p_M_does_347 {sc : List Int32} {Q : Option Value → xH → Prop} (l0 : Nat) (l1 : Int32) (l2 : Int32) (h : xH) (hw : w_M_does_347 Q l0 l1 l2 h) : xW sc m_M_does 4 0 0 347 [some (.ref (l0)), some (.int (l1)), some (.int (l2)), none, none] [] h Q := by
  unfold w_M_does_347 at hw
  refine xw_aload_n d_M_does_347 rfl rfl ?_
  refine xw_iload_n d_M_does_348 rfl rfl ?_
  obtain ⟨⟨f2, hA⟩, hw⟩ := hw
  refine xc_V1i lk_M_111 in_M_isUp d_M_does_349 (x_M_isUp hw) rfl hA rfl ?_
  intro x3 h1 hw
  refine xw_if_eq (tgt := 367) d_M_does_352 (by decide) (fun c10 => ?_) (fun c10 => ?_)
  · have hw := hw.1 c10
    exact xw_return rfl d_M_does_367 hw
  · have hw := hw.2 c10
    refine xw_aload_n d_M_does_355 rfl rfl ?_
    obtain ⟨f4, a5, hA, hB, hw⟩ := hw
    refine xw_getr fr_M_67 d_M_does_356 hA hB ?_
    refine xw_iload_n d_M_does_359 rfl rfl ?_
    refine xw_dup2 d_M_does_360 rfl rfl ?_
    obtain ⟨ar9, x6, hA, hB, hC, hw⟩ := hw
    refine xw_iaload (t := 0) rfl d_M_does_361 hA hB hC ?_
    refine xw_iconst (v := 1) d_M_does_362 (by decide) ?_
    refine xw_iload_n d_M_does_363 rfl rfl ?_
    refine xw_ishl d_M_does_364 ?_
    refine xw_ior d_M_does_365 ?_
    obtain ⟨ar7, hA, hB, hC, hw⟩ := hw
    refine xw_iastore (t := 0) rfl d_M_does_366 hA hB hC ?_
    generalize hh : xu h1 a5 (.inl (0, .inl (ar7.set l1.toNatClampNeg (x6 ||| ((1 : Int32) <<< (l1 &&& 31)))))) = h8
    have hw := hw h8 hh.symm
    exact xw_return rfl d_M_does_367 hw
set_option maxRecDepth 100000 in
def w_M_does_335 (Q : Option Value → xH → Prop) (l0 : Nat) (l1 : Int32) (l2 : Int32) (h : xH) : Prop := ∃ (f1 : List Value) (a2 : Nat), h.2 l0 = some (.inr (8, f1)) ∧ f1[11]? = some (.ref a2) ∧ ∃ (ar6 : List Int32) (x3 : Int32), h.2 a2 = some (.inl (0, .inl ar6)) ∧ 0 ≤ l2 ∧ ar6[l2.toNatClampNeg]? = some x3 ∧ (∃ f5, h.2 l0 = some (.inr (8, f5))) ∧ w_M_refused (fun v h4 => v = none ∧ Q none h4) l0 l1 x3 h
set_option maxRecDepth 100000 in
set_option maxHeartbeats 4000000 in
theorem p_M_does_335 {sc : List Int32} {Q : Option Value → xH → Prop} (l0 : Nat) (l1 : Int32) (l2 : Int32) (h : xH) (hw : w_M_does_335 Q l0 l1 l2 h) : xW sc m_M_does 4 0 0 335 [some (.ref (l0)), some (.int (l1)), some (.int (l2)), none, none] [] h Q := by
  unfold w_M_does_335 at hw
  refine xw_aload_n d_M_does_335 rfl rfl ?_
  refine xw_iload_n d_M_does_336 rfl rfl ?_
  refine xw_aload_n d_M_does_337 rfl rfl ?_
  obtain ⟨f1, a2, hA, hB, hw⟩ := hw
  refine xw_getr fr_M_40 d_M_does_338 hA hB ?_
  refine xw_iload_n d_M_does_341 rfl rfl ?_
  obtain ⟨ar6, x3, hA, hB, hC, hw⟩ := hw
  refine xw_iaload (t := 0) rfl d_M_does_342 hA hB hC ?_
  obtain ⟨⟨f5, hA⟩, hw⟩ := hw
  refine xc_V2n lk_M_160 in_M_refused d_M_does_343 (x_M_refused hw) rfl hA rfl ?_
  intro h4 hw
  exact xw_return rfl d_M_does_346 hw
set_option maxRecDepth 100000 in
def w_M_does_279 (Q : Option Value → xH → Prop) (l0 : Nat) (l1 : Int32) (l2 : Int32) (h : xH) : Prop := ∃ (f1 : List Value) (a2 : Nat), h.2 l0 = some (.inr (8, f1)) ∧ f1[17]? = some (.ref a2) ∧ ∃ (ar31 : List Int32) (x3 : Int32), h.2 a2 = some (.inl (0, .inl ar31)) ∧ 0 ≤ l1 ∧ ar31[l1.toNatClampNeg]? = some x3 ∧ ((¬ x3 = 2 → w_M_does_335 Q (l0) (l1) (l2) h) ∧ (x3 = 2 → ∃ (f4 : List Value) (a5 : Nat), h.2 l0 = some (.inr (8, f4)) ∧ f4[24]? = some (.ref a5) ∧ ∃ (ar29 : List Int32) (x6 : Int32), h.2 a5 = some (.inl (0, .inl ar29)) ∧ 0 ≤ l1 ∧ ar29[l1.toNatClampNeg]? = some x6 ∧ ∃ (f7 : List Value) (a8 : Nat), h.2 l0 = some (.inr (8, f7)) ∧ f7[11]? = some (.ref a8) ∧ ∃ (ar28 : List Int32) (x9 : Int32), h.2 a8 = some (.inl (0, .inl ar28)) ∧ 0 ≤ l2 ∧ ar28[l2.toNatClampNeg]? = some x9 ∧ ((x6 < x9 → w_M_does_335 Q (l0) (l1) (l2) h) ∧ (¬ x6 < x9 → ∃ (f10 : List Value) (a11 : Nat), h.2 l0 = some (.inr (8, f10)) ∧ f10[18]? = some (.ref a11) ∧ ∃ (ar26 : List Int32) (x12 : Int32), h.2 a11 = some (.inl (0, .inl ar26)) ∧ 0 ≤ l1 ∧ ar26[l1.toNatClampNeg]? = some x12 ∧ ∃ (f13 : List Value) (a14 : Nat), h.2 l0 = some (.inr (8, f13)) ∧ f13[24]? = some (.ref a14) ∧ ∃ (ar25 : List Int32) (x15 : Int32), h.2 a14 = some (.inl (0, .inl ar25)) ∧ 0 ≤ l1 ∧ ar25[l1.toNatClampNeg]? = some x15 ∧ ∃ (f16 : List Value) (a17 : Nat), h.2 l0 = some (.inr (8, f16)) ∧ f16[24]? = some (.ref a17) ∧ ∃ (ar24 : List Int32) (x18 : Int32), h.2 a17 = some (.inl (0, .inl ar24)) ∧ 0 ≤ l1 ∧ ar24[l1.toNatClampNeg]? = some x18 ∧ (∃ f20, h.2 l0 = some (.inr (8, f20))) ∧ w_M_chosen (fun v h19 => ∃ (x21 : Int32), v = some (.int x21) ∧ (∃ f23, h19.2 l0 = some (.inr (8, f23))) ∧ w_M_writeVote (fun v h22 => v = none ∧ w_M_does_347 Q (l0) (l1) (l2) h22) l0 l1 x12 x15 x18 x21 h19) l0 l1 h))))
set_option maxRecDepth 100000 in
set_option maxHeartbeats 4000000 in
theorem p_M_does_279 {sc : List Int32} {Q : Option Value → xH → Prop} (l0 : Nat) (l1 : Int32) (l2 : Int32) (h : xH) (hw : w_M_does_279 Q l0 l1 l2 h) : xW sc m_M_does 4 0 0 279 [some (.ref (l0)), some (.int (l1)), some (.int (l2)), none, none] [] h Q := by
  unfold w_M_does_279 at hw
  refine xw_aload_n d_M_does_279 rfl rfl ?_
  obtain ⟨f1, a2, hA, hB, hw⟩ := hw
  refine xw_getr fr_M_55 d_M_does_280 hA hB ?_
  refine xw_iload_n d_M_does_283 rfl rfl ?_
  obtain ⟨ar31, x3, hA, hB, hC, hw⟩ := hw
  refine xw_iaload (t := 0) rfl d_M_does_284 hA hB hC ?_
  refine xw_iconst (v := 2) d_M_does_285 (by decide) ?_
  refine xw_icmp_ne (tgt := 335) d_M_does_286 (by decide) (fun c30 => ?_) (fun c30 => ?_)
  · have hw := hw.1 c30
    exact p_M_does_335  (l0) (l1) (l2) h hw
  · have hw := hw.2 c30
    refine xw_aload_n d_M_does_289 rfl rfl ?_
    obtain ⟨f4, a5, hA, hB, hw⟩ := hw
    refine xw_getr fr_M_76 d_M_does_290 hA hB ?_
    refine xw_iload_n d_M_does_293 rfl rfl ?_
    obtain ⟨ar29, x6, hA, hB, hC, hw⟩ := hw
    refine xw_iaload (t := 0) rfl d_M_does_294 hA hB hC ?_
    refine xw_aload_n d_M_does_295 rfl rfl ?_
    obtain ⟨f7, a8, hA, hB, hw⟩ := hw
    refine xw_getr fr_M_40 d_M_does_296 hA hB ?_
    refine xw_iload_n d_M_does_299 rfl rfl ?_
    obtain ⟨ar28, x9, hA, hB, hC, hw⟩ := hw
    refine xw_iaload (t := 0) rfl d_M_does_300 hA hB hC ?_
    refine xw_icmp_lt (tgt := 335) d_M_does_301 (by decide) (fun c27 => ?_) (fun c27 => ?_)
    · have hw := hw.1 c27
      exact p_M_does_335  (l0) (l1) (l2) h hw
    · have hw := hw.2 c27
      refine xw_aload_n d_M_does_304 rfl rfl ?_
      refine xw_iload_n d_M_does_305 rfl rfl ?_
      refine xw_aload_n d_M_does_306 rfl rfl ?_
      obtain ⟨f10, a11, hA, hB, hw⟩ := hw
      refine xw_getr fr_M_58 d_M_does_307 hA hB ?_
      refine xw_iload_n d_M_does_310 rfl rfl ?_
      obtain ⟨ar26, x12, hA, hB, hC, hw⟩ := hw
      refine xw_iaload (t := 0) rfl d_M_does_311 hA hB hC ?_
      refine xw_aload_n d_M_does_312 rfl rfl ?_
      obtain ⟨f13, a14, hA, hB, hw⟩ := hw
      refine xw_getr fr_M_76 d_M_does_313 hA hB ?_
      refine xw_iload_n d_M_does_316 rfl rfl ?_
      obtain ⟨ar25, x15, hA, hB, hC, hw⟩ := hw
      refine xw_iaload (t := 0) rfl d_M_does_317 hA hB hC ?_
      refine xw_aload_n d_M_does_318 rfl rfl ?_
      obtain ⟨f16, a17, hA, hB, hw⟩ := hw
      refine xw_getr fr_M_76 d_M_does_319 hA hB ?_
      refine xw_iload_n d_M_does_322 rfl rfl ?_
      obtain ⟨ar24, x18, hA, hB, hC, hw⟩ := hw
      refine xw_iaload (t := 0) rfl d_M_does_323 hA hB hC ?_
      refine xw_aload_n d_M_does_324 rfl rfl ?_
      refine xw_iload_n d_M_does_325 rfl rfl ?_
      obtain ⟨⟨f20, hA⟩, hw⟩ := hw
      refine xc_V1i lk_M_142 in_M_chosen d_M_does_326 (x_M_chosen hw) rfl hA rfl ?_
      intro x21 h19 hw
      obtain ⟨⟨f23, hA⟩, hw⟩ := hw
      refine xc_V5n lk_M_153 in_M_writeVote d_M_does_329 (x_M_writeVote hw) rfl hA rfl ?_
      intro h22 hw
      refine xw_goto (tgt := 347) d_M_does_332 (by decide) ?_
      exact p_M_does_347  (l0) (l1) (l2) h22 hw
set_option maxRecDepth 100000 in
def w_M_does_196 (Q : Option Value → xH → Prop) (L117 : Nat → Int32 → Int32 → Int32 → xH → Prop) (l0 : Nat) (l1 : Int32) (l2 : Int32) (l3 : Int32) (l4 : Int32) (h : xH) : Prop := L117 (l0) (l1) (l2) (l3 + 1) h
set_option maxRecDepth 100000 in
set_option maxHeartbeats 4000000 in
theorem p_M_does_196 {sc : List Int32} {Q : Option Value → xH → Prop} {L117 : Nat → Int32 → Int32 → Int32 → xH → Prop} (hL117 : ∀ l0 l1 l2 l3 h, L117 l0 l1 l2 l3 h → xW sc m_M_does 4 0 0 117 [some (.ref (l0)), some (.int (l1)), some (.int (l2)), some (.int (l3)), none] [] h Q) (l0 : Nat) (l1 : Int32) (l2 : Int32) (l3 : Int32) (l4 : Int32) (h : xH) (hw : w_M_does_196 Q L117 l0 l1 l2 l3 l4 h) : xW sc m_M_does 4 0 0 196 [some (.ref (l0)), some (.int (l1)), some (.int (l2)), some (.int (l3)), some (.int (l4))] [] h Q := by
  unfold w_M_does_196 at hw
  refine xs_iinc (v := l3 + 1) (lv' := [some (.ref (l0)), some (.int (l1)), some (.int (l2)), some (.int (l3 + 1)), some (.int (l4))]) d_M_does_196 rfl rfl rfl ?_
  refine xw_goto (tgt := 117) d_M_does_199 (by decide) ?_
  refine xs_drop (lv' := [some (.ref (l0)), some (.int (l1)), some (.int (l2)), some (.int (l3 + 1)), none]) 4 rfl ?_
  exact hL117 (l0) (l1) (l2) (l3 + 1) h hw
set_option maxRecDepth 100000 in
def w_M_does_117 (Q : Option Value → xH → Prop) : Nat → Nat → Int32 → Int32 → Int32 → xH → Prop
  | 0, _, _, _, _, _ => False
  | n + 1, l0, l1, l2, l3, h => ((4 ≤ l3 → w_M_does_347 Q (l0) (l1) (l2) h) ∧ (¬ 4 ≤ l3 → ∃ (f1 : List Value) (a2 : Nat), h.2 l0 = some (.inr (8, f1)) ∧ f1[17]? = some (.ref a2) ∧ ∃ (ar33 : List Int32) (x3 : Int32), h.2 a2 = some (.inl (0, .inl ar33)) ∧ 0 ≤ l1 ∧ ar33[l1.toNatClampNeg]? = some x3 ∧ ((¬ x3 = 1 → ∃ (f4 : List Value) (a5 : Nat), h.2 l0 = some (.inr (8, f4)) ∧ f4[28]? = some (.ref a5) ∧ ∃ (ar17 : List Int32) (x6 : Int32), h.2 a5 = some (.inl (0, .inl ar17)) ∧ 0 ≤ ((4 * l1) + l3 : Int32) ∧ ar17[((4 * l1) + l3 : Int32).toNatClampNeg]? = some x6 ∧ ∃ (f7 : List Value) (a8 : Nat), h.2 l0 = some (.inr (8, f7)) ∧ f7[29]? = some (.ref a8) ∧ ∃ (ar16 : List Int32) (x9 : Int32), h.2 a8 = some (.inl (0, .inl ar16)) ∧ 0 ≤ ((4 * l1) + l3 : Int32) ∧ ar16[((4 * l1) + l3 : Int32).toNatClampNeg]? = some x9 ∧ ∃ (f10 : List Value) (a11 : Nat), h.2 l0 = some (.inr (8, f10)) ∧ f10[30]? = some (.ref a11) ∧ ∃ (ar15 : List Int32) (x12 : Int32), h.2 a11 = some (.inl (0, .inl ar15)) ∧ 0 ≤ ((4 * l1) + l3 : Int32) ∧ ar15[((4 * l1) + l3 : Int32).toNatClampNeg]? = some x12 ∧ (∃ f14, h.2 l0 = some (.inr (8, f14))) ∧ w_M_store (fun v h13 => v = none ∧ w_M_does_196 Q (fun y0 y1 y2 y3 yh => w_M_does_117 Q n y0 y1 y2 y3 yh) (l0) (l1) (l2) (l3) ((4 * l1) + l3) h13) l0 l1 l3 x6 x9 x12 h) ∧ (x3 = 1 → ∃ (f18 : List Value) (a19 : Nat), h.2 l0 = some (.inr (8, f18)) ∧ f18[6]? = some (.ref a19) ∧ ∃ (ar31 : List Int32) (x20 : Int32), h.2 a19 = some (.inl (0, .inl ar31)) ∧ 0 ≤ ((4 * l1) + l3 : Int32) ∧ ar31[((4 * l1) + l3 : Int32).toNatClampNeg]? = some x20 ∧ ∃ (f21 : List Value) (a22 : Nat), h.2 l0 = some (.inr (8, f21)) ∧ f21[7]? = some (.ref a22) ∧ ∃ (ar30 : List Int32) (x23 : Int32), h.2 a22 = some (.inl (0, .inl ar30)) ∧ 0 ≤ ((4 * l1) + l3 : Int32) ∧ ar30[((4 * l1) + l3 : Int32).toNatClampNeg]? = some x23 ∧ ∃ (f24 : List Value) (a25 : Nat), h.2 l0 = some (.inr (8, f24)) ∧ f24[8]? = some (.ref a25) ∧ ∃ (ar29 : List Int32) (x26 : Int32), h.2 a25 = some (.inl (0, .inl ar29)) ∧ 0 ≤ ((4 * l1) + l3 : Int32) ∧ ar29[((4 * l1) + l3 : Int32).toNatClampNeg]? = some x26 ∧ (∃ f28, h.2 l0 = some (.inr (8, f28))) ∧ w_M_best (fun v h27 => v = none ∧ w_M_does_196 Q (fun y0 y1 y2 y3 yh => w_M_does_117 Q n y0 y1 y2 y3 yh) (l0) (l1) (l2) (l3) ((4 * l1) + l3) h27) l0 l1 l3 x20 x23 x26 h))))
set_option maxRecDepth 100000 in
set_option maxHeartbeats 4000000 in
theorem p_M_does_117 {sc : List Int32} {Q : Option Value → xH → Prop} : ∀ (n : Nat) (l0 : Nat) (l1 : Int32) (l2 : Int32) (l3 : Int32) (h : xH), w_M_does_117 Q n l0 l1 l2 l3 h → xW sc m_M_does 4 0 0 117 [some (.ref (l0)), some (.int (l1)), some (.int (l2)), some (.int (l3)), none] [] h Q := by
  intro n
  induction n with
  | zero => intro l0 l1 l2 l3 h hw; exact False.elim hw
  | succ n ih =>
    intro l0 l1 l2 l3 h hw
    rw [w_M_does_117] at hw
    refine xw_iload_n d_M_does_117 rfl rfl ?_
    refine xw_iconst (v := 4) d_M_does_118 (by decide) ?_
    refine xw_icmp_ge (tgt := 202) d_M_does_119 (by decide) (fun c34 => ?_) (fun c34 => ?_)
    · have hw := hw.1 c34
      refine xw_goto (tgt := 347) d_M_does_202 (by decide) ?_
      refine xs_drop (lv' := [some (.ref (l0)), some (.int (l1)), some (.int (l2)), none, none]) 3 rfl ?_
      exact p_M_does_347  (l0) (l1) (l2) h hw
    · have hw := hw.2 c34
      refine xw_iconst (v := 4) d_M_does_122 (by decide) ?_
      refine xw_iload_n d_M_does_123 rfl rfl ?_
      refine xw_imul d_M_does_124 ?_
      refine xw_iload_n d_M_does_125 rfl rfl ?_
      refine xw_iadd d_M_does_126 ?_
      refine xs_istore (lv' := [some (.ref (l0)), some (.int (l1)), some (.int (l2)), some (.int (l3)), some (.int ((4 * l1) + l3))]) d_M_does_127 rfl rfl ?_
      refine xw_aload_n d_M_does_129 rfl rfl ?_
      obtain ⟨f1, a2, hA, hB, hw⟩ := hw
      refine xw_getr fr_M_55 d_M_does_130 hA hB ?_
      refine xw_iload_n d_M_does_133 rfl rfl ?_
      obtain ⟨ar33, x3, hA, hB, hC, hw⟩ := hw
      refine xw_iaload (t := 0) rfl d_M_does_134 hA hB hC ?_
      refine xw_iconst (v := 1) d_M_does_135 (by decide) ?_
      refine xw_icmp_ne (tgt := 169) d_M_does_136 (by decide) (fun c32 => ?_) (fun c32 => ?_)
      · have hw := hw.1 c32
        refine xw_aload_n d_M_does_169 rfl rfl ?_
        refine xw_iload_n d_M_does_170 rfl rfl ?_
        refine xw_iload_n d_M_does_171 rfl rfl ?_
        refine xw_aload_n d_M_does_172 rfl rfl ?_
        obtain ⟨f4, a5, hA, hB, hw⟩ := hw
        refine xw_getr fr_M_88 d_M_does_173 hA hB ?_
        refine xw_iload d_M_does_176 rfl ?_
        obtain ⟨ar17, x6, hA, hB, hC, hw⟩ := hw
        refine xw_iaload (t := 0) rfl d_M_does_178 hA hB hC ?_
        refine xw_aload_n d_M_does_179 rfl rfl ?_
        obtain ⟨f7, a8, hA, hB, hw⟩ := hw
        refine xw_getr fr_M_91 d_M_does_180 hA hB ?_
        refine xw_iload d_M_does_183 rfl ?_
        obtain ⟨ar16, x9, hA, hB, hC, hw⟩ := hw
        refine xw_iaload (t := 0) rfl d_M_does_185 hA hB hC ?_
        refine xw_aload_n d_M_does_186 rfl rfl ?_
        obtain ⟨f10, a11, hA, hB, hw⟩ := hw
        refine xw_getr fr_M_94 d_M_does_187 hA hB ?_
        refine xw_iload d_M_does_190 rfl ?_
        obtain ⟨ar15, x12, hA, hB, hC, hw⟩ := hw
        refine xw_iaload (t := 0) rfl d_M_does_192 hA hB hC ?_
        obtain ⟨⟨f14, hA⟩, hw⟩ := hw
        refine xc_V5n lk_M_150 in_M_store d_M_does_193 (x_M_store hw) rfl hA rfl ?_
        intro h13 hw
        exact p_M_does_196 ih (l0) (l1) (l2) (l3) ((4 * l1) + l3) h13 hw
      · have hw := hw.2 c32
        refine xw_aload_n d_M_does_139 rfl rfl ?_
        refine xw_iload_n d_M_does_140 rfl rfl ?_
        refine xw_iload_n d_M_does_141 rfl rfl ?_
        refine xw_aload_n d_M_does_142 rfl rfl ?_
        obtain ⟨f18, a19, hA, hB, hw⟩ := hw
        refine xw_getr fr_M_25 d_M_does_143 hA hB ?_
        refine xw_iload d_M_does_146 rfl ?_
        obtain ⟨ar31, x20, hA, hB, hC, hw⟩ := hw
        refine xw_iaload (t := 0) rfl d_M_does_148 hA hB hC ?_
        refine xw_aload_n d_M_does_149 rfl rfl ?_
        obtain ⟨f21, a22, hA, hB, hw⟩ := hw
        refine xw_getr fr_M_28 d_M_does_150 hA hB ?_
        refine xw_iload d_M_does_153 rfl ?_
        obtain ⟨ar30, x23, hA, hB, hC, hw⟩ := hw
        refine xw_iaload (t := 0) rfl d_M_does_155 hA hB hC ?_
        refine xw_aload_n d_M_does_156 rfl rfl ?_
        obtain ⟨f24, a25, hA, hB, hw⟩ := hw
        refine xw_getr fr_M_31 d_M_does_157 hA hB ?_
        refine xw_iload d_M_does_160 rfl ?_
        obtain ⟨ar29, x26, hA, hB, hC, hw⟩ := hw
        refine xw_iaload (t := 0) rfl d_M_does_162 hA hB hC ?_
        obtain ⟨⟨f28, hA⟩, hw⟩ := hw
        refine xc_V5n lk_M_146 in_M_best d_M_does_163 (x_M_best hw) rfl hA rfl ?_
        intro h27 hw
        refine xw_goto (tgt := 196) d_M_does_166 (by decide) ?_
        exact p_M_does_196 ih (l0) (l1) (l2) (l3) ((4 * l1) + l3) h27 hw
set_option maxRecDepth 100000 in
def w_M_does_102 (Q : Option Value → xH → Prop) (l0 : Nat) (l1 : Int32) (l2 : Int32) (l3 : Int32) (h : xH) : Prop := w_M_does_347 Q (l0) (l1) (l2) h
set_option maxRecDepth 100000 in
set_option maxHeartbeats 4000000 in
theorem p_M_does_102 {sc : List Int32} {Q : Option Value → xH → Prop} (l0 : Nat) (l1 : Int32) (l2 : Int32) (l3 : Int32) (h : xH) (hw : w_M_does_102 Q l0 l1 l2 l3 h) : xW sc m_M_does 4 0 0 102 [some (.ref (l0)), some (.int (l1)), some (.int (l2)), some (.int (l3)), none] [] h Q := by
  unfold w_M_does_102 at hw
  refine xw_goto (tgt := 347) d_M_does_102 (by decide) ?_
  refine xs_drop (lv' := [some (.ref (l0)), some (.int (l1)), some (.int (l2)), none, none]) 3 rfl ?_
  exact p_M_does_347  (l0) (l1) (l2) h hw
set_option maxRecDepth 100000 in
def w_M_does (Q : Option Value → xH → Prop) (this : Nat) (p1 : Int32) (h : xH) : Prop := ∃ (f1 : List Value) (a2 : Nat), h.2 this = some (.inr (8, f1)) ∧ f1[18]? = some (.ref a2) ∧ ∃ (ar101 : List Int32) (x3 : Int32), h.2 a2 = some (.inl (0, .inl ar101)) ∧ 0 ≤ p1 ∧ ar101[p1.toNatClampNeg]? = some x3 ∧ (∃ f5, h.2 this = some (.inr (8, f5))) ∧ w_M_isData (fun v h4 => ∃ (x6 : Int32), v = some (.int x6) ∧ ((x6 = 0 → ∃ (f7 : List Value) (a8 : Nat), h4.2 this = some (.inr (8, f7)) ∧ f7[16]? = some (.ref a8) ∧ ∃ (ar54 : List Int32) (x9 : Int32), h4.2 a8 = some (.inl (0, .inl ar54)) ∧ 0 ≤ p1 ∧ ar54[p1.toNatClampNeg]? = some x9 ∧ ((¬ x9 = 4 → ∃ (f10 : List Value) (a11 : Nat), h4.2 this = some (.inr (8, f10)) ∧ f10[17]? = some (.ref a11) ∧ ∃ (ar51 : List Int32) (x12 : Int32), h4.2 a11 = some (.inl (0, .inl ar51)) ∧ 0 ≤ p1 ∧ ar51[p1.toNatClampNeg]? = some x12 ∧ ((¬ x12 = 1 → w_M_does_279 Q (this) (p1) ((16 * p1) + x3) h4) ∧ (x12 = 1 → ∃ (f13 : List Value) (a14 : Nat), h4.2 this = some (.inr (8, f13)) ∧ f13[24]? = some (.ref a14) ∧ ∃ (ar49 : List Int32) (x15 : Int32), h4.2 a14 = some (.inl (0, .inl ar49)) ∧ 0 ≤ p1 ∧ ar49[p1.toNatClampNeg]? = some x15 ∧ ∃ (f16 : List Value) (a17 : Nat), h4.2 this = some (.inr (8, f16)) ∧ f16[11]? = some (.ref a17) ∧ ∃ (ar48 : List Int32) (x18 : Int32), h4.2 a17 = some (.inl (0, .inl ar48)) ∧ 0 ≤ ((16 * p1) + x3 : Int32) ∧ ar48[((16 * p1) + x3 : Int32).toNatClampNeg]? = some x18 ∧ ((x15 ≤ x18 → w_M_does_279 Q (this) (p1) ((16 * p1) + x3) h4) ∧ (¬ x15 ≤ x18 → ∃ (f19 : List Value) (a20 : Nat), h4.2 this = some (.inr (8, f19)) ∧ f19[18]? = some (.ref a20) ∧ ∃ (ar46 : List Int32) (x21 : Int32), h4.2 a20 = some (.inl (0, .inl ar46)) ∧ 0 ≤ p1 ∧ ar46[p1.toNatClampNeg]? = some x21 ∧ ∃ (f22 : List Value) (a23 : Nat), h4.2 this = some (.inr (8, f22)) ∧ f22[24]? = some (.ref a23) ∧ ∃ (ar45 : List Int32) (x24 : Int32), h4.2 a23 = some (.inl (0, .inl ar45)) ∧ 0 ≤ p1 ∧ ar45[p1.toNatClampNeg]? = some x24 ∧ ∃ (f25 : List Value) (a26 : Nat), h4.2 this = some (.inr (8, f25)) ∧ f25[12]? = some (.ref a26) ∧ ∃ (ar44 : List Int32) (x27 : Int32), h4.2 a26 = some (.inl (0, .inl ar44)) ∧ 0 ≤ ((16 * p1) + x3 : Int32) ∧ ar44[((16 * p1) + x3 : Int32).toNatClampNeg]? = some x27 ∧ ∃ (f28 : List Value) (a29 : Nat), h4.2 this = some (.inr (8, f28)) ∧ f28[13]? = some (.ref a29) ∧ ∃ (ar43 : List Int32) (x30 : Int32), h4.2 a29 = some (.inl (0, .inl ar43)) ∧ 0 ≤ ((16 * p1) + x3 : Int32) ∧ ar43[((16 * p1) + x3 : Int32).toNatClampNeg]? = some x30 ∧ (∃ f32, h4.2 this = some (.inr (8, f32))) ∧ w_M_writeVote (fun v h31 => v = none ∧ ∃ (f33 : List Value) (a34 : Nat), h31.2 this = some (.inr (8, f33)) ∧ f33[12]? = some (.ref a34) ∧ ∃ (ar42 : List Int32) (x35 : Int32), h31.2 a34 = some (.inl (0, .inl ar42)) ∧ 0 ≤ ((16 * p1) + x3 : Int32) ∧ ar42[((16 * p1) + x3 : Int32).toNatClampNeg]? = some x35 ∧ ∃ (f36 : List Value) (a37 : Nat), h31.2 this = some (.inr (8, f36)) ∧ f36[13]? = some (.ref a37) ∧ ∃ (ar41 : List Int32) (x38 : Int32), h31.2 a37 = some (.inl (0, .inl ar41)) ∧ 0 ≤ ((16 * p1) + x3 : Int32) ∧ ar41[((16 * p1) + x3 : Int32).toNatClampNeg]? = some x38 ∧ (∃ f40, h31.2 this = some (.inr (8, f40))) ∧ w_M_top (fun v h39 => v = none ∧ w_M_does_347 Q (this) (p1) ((16 * p1) + x3) h39) this p1 x35 x38 h31) this p1 x21 x24 x27 x30 h4))))) ∧ (x9 = 4 → ∃ n52, w_M_does_117 Q n52 (this) (p1) ((16 * p1) + x3) (0) h4))) ∧ (¬ x6 = 0 → ∃ (f55 : List Value) (a56 : Nat), h4.2 this = some (.inr (8, f55)) ∧ f55[18]? = some (.ref a56) ∧ ∃ (ar99 : List Int32) (x57 : Int32), h4.2 a56 = some (.inl (0, .inl ar99)) ∧ 0 ≤ p1 ∧ ar99[p1.toNatClampNeg]? = some x57 ∧ ∃ (f58 : List Value) (a59 : Nat), h4.2 this = some (.inr (8, f58)) ∧ f58[17]? = some (.ref a59) ∧ ∃ (ar98 : List Int32) (x60 : Int32), h4.2 a59 = some (.inl (0, .inl ar98)) ∧ 0 ≤ p1 ∧ ar98[p1.toNatClampNeg]? = some x60 ∧ ((¬ x60 = 1 → ∃ (f61 : List Value) (a62 : Nat), h4.2 this = some (.inr (8, f61)) ∧ f61[18]? = some (.ref a62) ∧ ∃ (ar78 : List Int32) (x63 : Int32), h4.2 a62 = some (.inl (0, .inl ar78)) ∧ 0 ≤ p1 ∧ ar78[p1.toNatClampNeg]? = some x63 ∧ ∃ (f64 : List Value) (a65 : Nat), h4.2 this = some (.inr (8, f64)) ∧ f64[28]? = some (.ref a65) ∧ ∃ (ar77 : List Int32) (x66 : Int32), h4.2 a65 = some (.inl (0, .inl ar77)) ∧ 0 ≤ ((4 * p1) + x57 : Int32) ∧ ar77[((4 * p1) + x57 : Int32).toNatClampNeg]? = some x66 ∧ ∃ (f67 : List Value) (a68 : Nat), h4.2 this = some (.inr (8, f67)) ∧ f67[29]? = some (.ref a68) ∧ ∃ (ar76 : List Int32) (x69 : Int32), h4.2 a68 = some (.inl (0, .inl ar76)) ∧ 0 ≤ ((4 * p1) + x57 : Int32) ∧ ar76[((4 * p1) + x57 : Int32).toNatClampNeg]? = some x69 ∧ ∃ (f70 : List Value) (a71 : Nat), h4.2 this = some (.inr (8, f70)) ∧ f70[30]? = some (.ref a71) ∧ ∃ (ar75 : List Int32) (x72 : Int32), h4.2 a71 = some (.inl (0, .inl ar75)) ∧ 0 ≤ ((4 * p1) + x57 : Int32) ∧ ar75[((4 * p1) + x57 : Int32).toNatClampNeg]? = some x72 ∧ (∃ f74, h4.2 this = some (.inr (8, f74))) ∧ w_M_store (fun v h73 => v = none ∧ w_M_does_102 Q (this) (p1) ((16 * p1) + x3) ((4 * p1) + x57) h73) this p1 x63 x66 x69 x72 h4) ∧ (x60 = 1 → ∃ (f79 : List Value) (a80 : Nat), h4.2 this = some (.inr (8, f79)) ∧ f79[18]? = some (.ref a80) ∧ ∃ (ar96 : List Int32) (x81 : Int32), h4.2 a80 = some (.inl (0, .inl ar96)) ∧ 0 ≤ p1 ∧ ar96[p1.toNatClampNeg]? = some x81 ∧ ∃ (f82 : List Value) (a83 : Nat), h4.2 this = some (.inr (8, f82)) ∧ f82[6]? = some (.ref a83) ∧ ∃ (ar95 : List Int32) (x84 : Int32), h4.2 a83 = some (.inl (0, .inl ar95)) ∧ 0 ≤ ((4 * p1) + x57 : Int32) ∧ ar95[((4 * p1) + x57 : Int32).toNatClampNeg]? = some x84 ∧ ∃ (f85 : List Value) (a86 : Nat), h4.2 this = some (.inr (8, f85)) ∧ f85[7]? = some (.ref a86) ∧ ∃ (ar94 : List Int32) (x87 : Int32), h4.2 a86 = some (.inl (0, .inl ar94)) ∧ 0 ≤ ((4 * p1) + x57 : Int32) ∧ ar94[((4 * p1) + x57 : Int32).toNatClampNeg]? = some x87 ∧ ∃ (f88 : List Value) (a89 : Nat), h4.2 this = some (.inr (8, f88)) ∧ f88[8]? = some (.ref a89) ∧ ∃ (ar93 : List Int32) (x90 : Int32), h4.2 a89 = some (.inl (0, .inl ar93)) ∧ 0 ≤ ((4 * p1) + x57 : Int32) ∧ ar93[((4 * p1) + x57 : Int32).toNatClampNeg]? = some x90 ∧ (∃ f92, h4.2 this = some (.inr (8, f92))) ∧ w_M_best (fun v h91 => v = none ∧ w_M_does_102 Q (this) (p1) ((16 * p1) + x3) ((4 * p1) + x57) h91) this p1 x81 x84 x87 x90 h4))))) this p1 h
set_option maxRecDepth 100000 in
set_option maxHeartbeats 4000000 in
theorem x_M_does {sc : List Int32} {Q : Option Value → xH → Prop} {this : Nat} {p1 : Int32} {h : xH} (hw : w_M_does Q this p1 h) : xMet sc m_M_does 4 0 0 [.ref (this), .int (p1)] h Q := by
  unfold w_M_does at hw
  refine xMet.of2 cw_M_does rfl rfl ?_
  show xW sc m_M_does 4 0 0 0 [some (.ref (this)), some (.int (p1)), none, none, none] [] h Q
  refine xw_bipush (v := 16) d_M_does_0 (by decide) ?_
  refine xw_iload_n d_M_does_2 rfl rfl ?_
  refine xw_imul d_M_does_3 ?_
  refine xw_aload_n d_M_does_4 rfl rfl ?_
  obtain ⟨f1, a2, hA, hB, hw⟩ := hw
  refine xw_getr fr_M_58 d_M_does_5 hA hB ?_
  refine xw_iload_n d_M_does_8 rfl rfl ?_
  obtain ⟨ar101, x3, hA, hB, hC, hw⟩ := hw
  refine xw_iaload (t := 0) rfl d_M_does_9 hA hB hC ?_
  refine xw_iadd d_M_does_10 ?_
  refine xs_istore_n (lv' := [some (.ref (this)), some (.int (p1)), some (.int ((16 * p1) + x3)), none, none]) d_M_does_11 rfl rfl rfl ?_
  refine xw_aload_n d_M_does_12 rfl rfl ?_
  refine xw_iload_n d_M_does_13 rfl rfl ?_
  obtain ⟨⟨f5, hA⟩, hw⟩ := hw
  refine xc_V1i lk_M_135 in_M_isData d_M_does_14 (x_M_isData hw) rfl hA rfl ?_
  intro x6 h4 hw
  refine xw_if_eq (tgt := 105) d_M_does_17 (by decide) (fun c100 => ?_) (fun c100 => ?_)
  · have hw := hw.1 c100
    refine xw_aload_n d_M_does_105 rfl rfl ?_
    obtain ⟨f7, a8, hA, hB, hw⟩ := hw
    refine xw_getr fr_M_52 d_M_does_106 hA hB ?_
    refine xw_iload_n d_M_does_109 rfl rfl ?_
    obtain ⟨ar54, x9, hA, hB, hC, hw⟩ := hw
    refine xw_iaload (t := 0) rfl d_M_does_110 hA hB hC ?_
    refine xw_iconst (v := 4) d_M_does_111 (by decide) ?_
    refine xw_icmp_ne (tgt := 205) d_M_does_112 (by decide) (fun c53 => ?_) (fun c53 => ?_)
    · have hw := hw.1 c53
      refine xw_aload_n d_M_does_205 rfl rfl ?_
      obtain ⟨f10, a11, hA, hB, hw⟩ := hw
      refine xw_getr fr_M_55 d_M_does_206 hA hB ?_
      refine xw_iload_n d_M_does_209 rfl rfl ?_
      obtain ⟨ar51, x12, hA, hB, hC, hw⟩ := hw
      refine xw_iaload (t := 0) rfl d_M_does_210 hA hB hC ?_
      refine xw_iconst (v := 1) d_M_does_211 (by decide) ?_
      refine xw_icmp_ne (tgt := 279) d_M_does_212 (by decide) (fun c50 => ?_) (fun c50 => ?_)
      · have hw := hw.1 c50
        exact p_M_does_279  (this) (p1) ((16 * p1) + x3) h4 hw
      · have hw := hw.2 c50
        refine xw_aload_n d_M_does_215 rfl rfl ?_
        obtain ⟨f13, a14, hA, hB, hw⟩ := hw
        refine xw_getr fr_M_76 d_M_does_216 hA hB ?_
        refine xw_iload_n d_M_does_219 rfl rfl ?_
        obtain ⟨ar49, x15, hA, hB, hC, hw⟩ := hw
        refine xw_iaload (t := 0) rfl d_M_does_220 hA hB hC ?_
        refine xw_aload_n d_M_does_221 rfl rfl ?_
        obtain ⟨f16, a17, hA, hB, hw⟩ := hw
        refine xw_getr fr_M_40 d_M_does_222 hA hB ?_
        refine xw_iload_n d_M_does_225 rfl rfl ?_
        obtain ⟨ar48, x18, hA, hB, hC, hw⟩ := hw
        refine xw_iaload (t := 0) rfl d_M_does_226 hA hB hC ?_
        refine xw_icmp_le (tgt := 279) d_M_does_227 (by decide) (fun c47 => ?_) (fun c47 => ?_)
        · have hw := hw.1 c47
          exact p_M_does_279  (this) (p1) ((16 * p1) + x3) h4 hw
        · have hw := hw.2 c47
          refine xw_aload_n d_M_does_230 rfl rfl ?_
          refine xw_iload_n d_M_does_231 rfl rfl ?_
          refine xw_aload_n d_M_does_232 rfl rfl ?_
          obtain ⟨f19, a20, hA, hB, hw⟩ := hw
          refine xw_getr fr_M_58 d_M_does_233 hA hB ?_
          refine xw_iload_n d_M_does_236 rfl rfl ?_
          obtain ⟨ar46, x21, hA, hB, hC, hw⟩ := hw
          refine xw_iaload (t := 0) rfl d_M_does_237 hA hB hC ?_
          refine xw_aload_n d_M_does_238 rfl rfl ?_
          obtain ⟨f22, a23, hA, hB, hw⟩ := hw
          refine xw_getr fr_M_76 d_M_does_239 hA hB ?_
          refine xw_iload_n d_M_does_242 rfl rfl ?_
          obtain ⟨ar45, x24, hA, hB, hC, hw⟩ := hw
          refine xw_iaload (t := 0) rfl d_M_does_243 hA hB hC ?_
          refine xw_aload_n d_M_does_244 rfl rfl ?_
          obtain ⟨f25, a26, hA, hB, hw⟩ := hw
          refine xw_getr fr_M_43 d_M_does_245 hA hB ?_
          refine xw_iload_n d_M_does_248 rfl rfl ?_
          obtain ⟨ar44, x27, hA, hB, hC, hw⟩ := hw
          refine xw_iaload (t := 0) rfl d_M_does_249 hA hB hC ?_
          refine xw_aload_n d_M_does_250 rfl rfl ?_
          obtain ⟨f28, a29, hA, hB, hw⟩ := hw
          refine xw_getr fr_M_46 d_M_does_251 hA hB ?_
          refine xw_iload_n d_M_does_254 rfl rfl ?_
          obtain ⟨ar43, x30, hA, hB, hC, hw⟩ := hw
          refine xw_iaload (t := 0) rfl d_M_does_255 hA hB hC ?_
          obtain ⟨⟨f32, hA⟩, hw⟩ := hw
          refine xc_V5n lk_M_153 in_M_writeVote d_M_does_256 (x_M_writeVote hw) rfl hA rfl ?_
          intro h31 hw
          refine xw_aload_n d_M_does_259 rfl rfl ?_
          refine xw_iload_n d_M_does_260 rfl rfl ?_
          refine xw_aload_n d_M_does_261 rfl rfl ?_
          obtain ⟨f33, a34, hA, hB, hw⟩ := hw
          refine xw_getr fr_M_43 d_M_does_262 hA hB ?_
          refine xw_iload_n d_M_does_265 rfl rfl ?_
          obtain ⟨ar42, x35, hA, hB, hC, hw⟩ := hw
          refine xw_iaload (t := 0) rfl d_M_does_266 hA hB hC ?_
          refine xw_aload_n d_M_does_267 rfl rfl ?_
          obtain ⟨f36, a37, hA, hB, hw⟩ := hw
          refine xw_getr fr_M_46 d_M_does_268 hA hB ?_
          refine xw_iload_n d_M_does_271 rfl rfl ?_
          obtain ⟨ar41, x38, hA, hB, hC, hw⟩ := hw
          refine xw_iaload (t := 0) rfl d_M_does_272 hA hB hC ?_
          obtain ⟨⟨f40, hA⟩, hw⟩ := hw
          refine xc_V3n lk_M_156 in_M_top d_M_does_273 (x_M_top hw) rfl hA rfl ?_
          intro h39 hw
          refine xw_goto (tgt := 347) d_M_does_276 (by decide) ?_
          exact p_M_does_347  (this) (p1) ((16 * p1) + x3) h39 hw
    · have hw := hw.2 c53
      refine xw_iconst (v := 0) d_M_does_115 (by decide) ?_
      refine xs_istore_n (lv' := [some (.ref (this)), some (.int (p1)), some (.int ((16 * p1) + x3)), some (.int (0)), none]) d_M_does_116 rfl rfl rfl ?_
      obtain ⟨n52, hw⟩ := hw
      exact p_M_does_117  n52 (this) (p1) ((16 * p1) + x3) (0) h4 hw
  · have hw := hw.2 c100
    refine xw_iconst (v := 4) d_M_does_20 (by decide) ?_
    refine xw_iload_n d_M_does_21 rfl rfl ?_
    refine xw_imul d_M_does_22 ?_
    refine xw_aload_n d_M_does_23 rfl rfl ?_
    obtain ⟨f55, a56, hA, hB, hw⟩ := hw
    refine xw_getr fr_M_58 d_M_does_24 hA hB ?_
    refine xw_iload_n d_M_does_27 rfl rfl ?_
    obtain ⟨ar99, x57, hA, hB, hC, hw⟩ := hw
    refine xw_iaload (t := 0) rfl d_M_does_28 hA hB hC ?_
    refine xw_iadd d_M_does_29 ?_
    refine xs_istore_n (lv' := [some (.ref (this)), some (.int (p1)), some (.int ((16 * p1) + x3)), some (.int ((4 * p1) + x57)), none]) d_M_does_30 rfl rfl rfl ?_
    refine xw_aload_n d_M_does_31 rfl rfl ?_
    obtain ⟨f58, a59, hA, hB, hw⟩ := hw
    refine xw_getr fr_M_55 d_M_does_32 hA hB ?_
    refine xw_iload_n d_M_does_35 rfl rfl ?_
    obtain ⟨ar98, x60, hA, hB, hC, hw⟩ := hw
    refine xw_iaload (t := 0) rfl d_M_does_36 hA hB hC ?_
    refine xw_iconst (v := 1) d_M_does_37 (by decide) ?_
    refine xw_icmp_ne (tgt := 73) d_M_does_38 (by decide) (fun c97 => ?_) (fun c97 => ?_)
    · have hw := hw.1 c97
      refine xw_aload_n d_M_does_73 rfl rfl ?_
      refine xw_iload_n d_M_does_74 rfl rfl ?_
      refine xw_aload_n d_M_does_75 rfl rfl ?_
      obtain ⟨f61, a62, hA, hB, hw⟩ := hw
      refine xw_getr fr_M_58 d_M_does_76 hA hB ?_
      refine xw_iload_n d_M_does_79 rfl rfl ?_
      obtain ⟨ar78, x63, hA, hB, hC, hw⟩ := hw
      refine xw_iaload (t := 0) rfl d_M_does_80 hA hB hC ?_
      refine xw_aload_n d_M_does_81 rfl rfl ?_
      obtain ⟨f64, a65, hA, hB, hw⟩ := hw
      refine xw_getr fr_M_88 d_M_does_82 hA hB ?_
      refine xw_iload_n d_M_does_85 rfl rfl ?_
      obtain ⟨ar77, x66, hA, hB, hC, hw⟩ := hw
      refine xw_iaload (t := 0) rfl d_M_does_86 hA hB hC ?_
      refine xw_aload_n d_M_does_87 rfl rfl ?_
      obtain ⟨f67, a68, hA, hB, hw⟩ := hw
      refine xw_getr fr_M_91 d_M_does_88 hA hB ?_
      refine xw_iload_n d_M_does_91 rfl rfl ?_
      obtain ⟨ar76, x69, hA, hB, hC, hw⟩ := hw
      refine xw_iaload (t := 0) rfl d_M_does_92 hA hB hC ?_
      refine xw_aload_n d_M_does_93 rfl rfl ?_
      obtain ⟨f70, a71, hA, hB, hw⟩ := hw
      refine xw_getr fr_M_94 d_M_does_94 hA hB ?_
      refine xw_iload_n d_M_does_97 rfl rfl ?_
      obtain ⟨ar75, x72, hA, hB, hC, hw⟩ := hw
      refine xw_iaload (t := 0) rfl d_M_does_98 hA hB hC ?_
      obtain ⟨⟨f74, hA⟩, hw⟩ := hw
      refine xc_V5n lk_M_150 in_M_store d_M_does_99 (x_M_store hw) rfl hA rfl ?_
      intro h73 hw
      exact p_M_does_102  (this) (p1) ((16 * p1) + x3) ((4 * p1) + x57) h73 hw
    · have hw := hw.2 c97
      refine xw_aload_n d_M_does_41 rfl rfl ?_
      refine xw_iload_n d_M_does_42 rfl rfl ?_
      refine xw_aload_n d_M_does_43 rfl rfl ?_
      obtain ⟨f79, a80, hA, hB, hw⟩ := hw
      refine xw_getr fr_M_58 d_M_does_44 hA hB ?_
      refine xw_iload_n d_M_does_47 rfl rfl ?_
      obtain ⟨ar96, x81, hA, hB, hC, hw⟩ := hw
      refine xw_iaload (t := 0) rfl d_M_does_48 hA hB hC ?_
      refine xw_aload_n d_M_does_49 rfl rfl ?_
      obtain ⟨f82, a83, hA, hB, hw⟩ := hw
      refine xw_getr fr_M_25 d_M_does_50 hA hB ?_
      refine xw_iload_n d_M_does_53 rfl rfl ?_
      obtain ⟨ar95, x84, hA, hB, hC, hw⟩ := hw
      refine xw_iaload (t := 0) rfl d_M_does_54 hA hB hC ?_
      refine xw_aload_n d_M_does_55 rfl rfl ?_
      obtain ⟨f85, a86, hA, hB, hw⟩ := hw
      refine xw_getr fr_M_28 d_M_does_56 hA hB ?_
      refine xw_iload_n d_M_does_59 rfl rfl ?_
      obtain ⟨ar94, x87, hA, hB, hC, hw⟩ := hw
      refine xw_iaload (t := 0) rfl d_M_does_60 hA hB hC ?_
      refine xw_aload_n d_M_does_61 rfl rfl ?_
      obtain ⟨f88, a89, hA, hB, hw⟩ := hw
      refine xw_getr fr_M_31 d_M_does_62 hA hB ?_
      refine xw_iload_n d_M_does_65 rfl rfl ?_
      obtain ⟨ar93, x90, hA, hB, hC, hw⟩ := hw
      refine xw_iaload (t := 0) rfl d_M_does_66 hA hB hC ?_
      obtain ⟨⟨f92, hA⟩, hw⟩ := hw
      refine xc_V5n lk_M_146 in_M_best d_M_does_67 (x_M_best hw) rfl hA rfl ?_
      intro h91 hw
      refine xw_goto (tgt := 102) d_M_does_70 (by decide) ?_
      exact p_M_does_102  (this) (p1) ((16 * p1) + x3) ((4 * p1) + x57) h91 hw
set_option maxRecDepth 100000 in
def w_M_ask_72 (Q : Option Value → xH → Prop) (L2 : Nat → Int32 → Int32 → Int32 → xH → Prop) (l0 : Nat) (l1 : Int32) (l2 : Int32) (l3 : Int32) (h : xH) : Prop := L2 (l0) (l1) (l2) (l3 + 1) h
set_option maxRecDepth 100000 in
set_option maxHeartbeats 4000000 in
theorem p_M_ask_72 {sc : List Int32} {Q : Option Value → xH → Prop} {L2 : Nat → Int32 → Int32 → Int32 → xH → Prop} (hL2 : ∀ l0 l1 l2 l3 h, L2 l0 l1 l2 l3 h → xW sc m_M_ask 5 0 0 2 [some (.ref (l0)), some (.int (l1)), some (.int (l2)), some (.int (l3))] [] h Q) (l0 : Nat) (l1 : Int32) (l2 : Int32) (l3 : Int32) (h : xH) (hw : w_M_ask_72 Q L2 l0 l1 l2 l3 h) : xW sc m_M_ask 5 0 0 72 [some (.ref (l0)), some (.int (l1)), some (.int (l2)), some (.int (l3))] [] h Q := by
  unfold w_M_ask_72 at hw
  refine xs_iinc (v := l3 + 1) (lv' := [some (.ref (l0)), some (.int (l1)), some (.int (l2)), some (.int (l3 + 1))]) d_M_ask_72 rfl rfl rfl ?_
  refine xw_goto (tgt := 2) d_M_ask_75 (by decide) ?_
  exact hL2 (l0) (l1) (l2) (l3 + 1) h hw
set_option maxRecDepth 100000 in
def w_M_ask_2 (Q : Option Value → xH → Prop) : Nat → Nat → Int32 → Int32 → Int32 → xH → Prop
  | 0, _, _, _, _, _ => False
  | n + 1, l0, l1, l2, l3, h => ((8 ≤ l3 → Q none h) ∧ (¬ 8 ≤ l3 → (∃ f2, h.2 l0 = some (.inr (8, f2))) ∧ w_M_isUp (fun v h1 => ∃ (x3 : Int32), v = some (.int x3) ∧ ((x3 = 0 → Q none h1) ∧ (¬ x3 = 0 → ((((l2 >>> (l3 &&& 31)) &&& 1) = 0 → w_M_ask_72 Q (fun y0 y1 y2 y3 yh => w_M_ask_2 Q n y0 y1 y2 y3 yh) (l0) (l1) (l2) (l3) h1) ∧ (¬ ((l2 >>> (l3 &&& 31)) &&& 1) = 0 → ∃ (f4 : List Value) (a5 : Nat), h1.2 l0 = some (.inr (8, f4)) ∧ f4[20]? = some (.ref a5) ∧ ∃ (ar19 : List Int32) (x6 : Int32), h1.2 a5 = some (.inl (0, .inl ar19)) ∧ 0 ≤ l1 ∧ ar19[l1.toNatClampNeg]? = some x6 ∧ ((¬ ((x6 >>> (l3 &&& 31)) &&& 1) = 1 → ∃ (f7 : List Value) (a8 : Nat), h1.2 l0 = some (.inr (8, f7)) ∧ f7[20]? = some (.ref a8) ∧ ∃ (ar17 : List Int32) (x9 : Int32), h1.2 a8 = some (.inl (0, .inl ar17)) ∧ 0 ≤ l1 ∧ ar17[l1.toNatClampNeg]? = some x9 ∧ ∃ ar10, h1.2 a8 = some (.inl (0, .inl ar10)) ∧ 0 ≤ l1 ∧ l1.toNatClampNeg < ar10.length ∧ ∀ h11, h11 = xu h1 a8 (.inl (0, .inl (ar10.set l1.toNatClampNeg (x9 ||| ((1 : Int32) <<< (l3 &&& 31)))))) → ((¬ l3 = l1 → (∃ f13, h11.2 l0 = some (.inr (8, f13))) ∧ w_M_request (fun v h12 => v = none ∧ w_M_ask_72 Q (fun y0 y1 y2 y3 yh => w_M_ask_2 Q n y0 y1 y2 y3 yh) (l0) (l1) (l2) (l3) h12) l0 l1 l3 h11) ∧ (l3 = l1 → (∃ f15, h11.2 l0 = some (.inr (8, f15))) ∧ w_M_does (fun v h14 => v = none ∧ w_M_ask_72 Q (fun y0 y1 y2 y3 yh => w_M_ask_2 Q n y0 y1 y2 y3 yh) (l0) (l1) (l2) (l3) h14) l0 l1 h11))) ∧ (((x6 >>> (l3 &&& 31)) &&& 1) = 1 → w_M_ask_72 Q (fun y0 y1 y2 y3 yh => w_M_ask_2 Q n y0 y1 y2 y3 yh) (l0) (l1) (l2) (l3) h1))))))) l0 l1 h))
set_option maxRecDepth 100000 in
set_option maxHeartbeats 4000000 in
theorem p_M_ask_2 {sc : List Int32} {Q : Option Value → xH → Prop} : ∀ (n : Nat) (l0 : Nat) (l1 : Int32) (l2 : Int32) (l3 : Int32) (h : xH), w_M_ask_2 Q n l0 l1 l2 l3 h → xW sc m_M_ask 5 0 0 2 [some (.ref (l0)), some (.int (l1)), some (.int (l2)), some (.int (l3))] [] h Q := by
  intro n
  induction n with
  | zero => intro l0 l1 l2 l3 h hw; exact False.elim hw
  | succ n ih =>
    intro l0 l1 l2 l3 h hw
    rw [w_M_ask_2] at hw
    refine xw_iload_n d_M_ask_2 rfl rfl ?_
    refine xw_bipush (v := 8) d_M_ask_3 (by decide) ?_
    refine xw_icmp_ge (tgt := 78) d_M_ask_5 (by decide) (fun c22 => ?_) (fun c22 => ?_)
    · have hw := hw.1 c22
      exact xw_return rfl d_M_ask_78 hw
    · have hw := hw.2 c22
      refine xw_aload_n d_M_ask_8 rfl rfl ?_
      refine xw_iload_n d_M_ask_9 rfl rfl ?_
      obtain ⟨⟨f2, hA⟩, hw⟩ := hw
      refine xc_V1i lk_M_111 in_M_isUp d_M_ask_10 (x_M_isUp hw) rfl hA rfl ?_
      intro x3 h1 hw
      refine xw_if_eq (tgt := 78) d_M_ask_13 (by decide) (fun c21 => ?_) (fun c21 => ?_)
      · have hw := hw.1 c21
        exact xw_return rfl d_M_ask_78 hw
      · have hw := hw.2 c21
        refine xw_iload_n d_M_ask_16 rfl rfl ?_
        refine xw_iload_n d_M_ask_17 rfl rfl ?_
        refine xw_ishr d_M_ask_18 ?_
        refine xw_iconst (v := 1) d_M_ask_19 (by decide) ?_
        refine xw_iand d_M_ask_20 ?_
        refine xw_if_eq (tgt := 72) d_M_ask_21 (by decide) (fun c20 => ?_) (fun c20 => ?_)
        · have hw := hw.1 c20
          exact p_M_ask_72 ih (l0) (l1) (l2) (l3) h1 hw
        · have hw := hw.2 c20
          refine xw_aload_n d_M_ask_24 rfl rfl ?_
          obtain ⟨f4, a5, hA, hB, hw⟩ := hw
          refine xw_getr fr_M_64 d_M_ask_25 hA hB ?_
          refine xw_iload_n d_M_ask_28 rfl rfl ?_
          obtain ⟨ar19, x6, hA, hB, hC, hw⟩ := hw
          refine xw_iaload (t := 0) rfl d_M_ask_29 hA hB hC ?_
          refine xw_iload_n d_M_ask_30 rfl rfl ?_
          refine xw_ishr d_M_ask_31 ?_
          refine xw_iconst (v := 1) d_M_ask_32 (by decide) ?_
          refine xw_iand d_M_ask_33 ?_
          refine xw_iconst (v := 1) d_M_ask_34 (by decide) ?_
          refine xw_icmp_ne (tgt := 41) d_M_ask_35 (by decide) (fun c18 => ?_) (fun c18 => ?_)
          · have hw := hw.1 c18
            refine xw_aload_n d_M_ask_41 rfl rfl ?_
            obtain ⟨f7, a8, hA, hB, hw⟩ := hw
            refine xw_getr fr_M_64 d_M_ask_42 hA hB ?_
            refine xw_iload_n d_M_ask_45 rfl rfl ?_
            refine xw_dup2 d_M_ask_46 rfl rfl ?_
            obtain ⟨ar17, x9, hA, hB, hC, hw⟩ := hw
            refine xw_iaload (t := 0) rfl d_M_ask_47 hA hB hC ?_
            refine xw_iconst (v := 1) d_M_ask_48 (by decide) ?_
            refine xw_iload_n d_M_ask_49 rfl rfl ?_
            refine xw_ishl d_M_ask_50 ?_
            refine xw_ior d_M_ask_51 ?_
            obtain ⟨ar10, hA, hB, hC, hw⟩ := hw
            refine xw_iastore (t := 0) rfl d_M_ask_52 hA hB hC ?_
            generalize hh : xu h1 a8 (.inl (0, .inl (ar10.set l1.toNatClampNeg (x9 ||| ((1 : Int32) <<< (l3 &&& 31)))))) = h11
            have hw := hw h11 hh.symm
            refine xw_iload_n d_M_ask_53 rfl rfl ?_
            refine xw_iload_n d_M_ask_54 rfl rfl ?_
            refine xw_icmp_ne (tgt := 66) d_M_ask_55 (by decide) (fun c16 => ?_) (fun c16 => ?_)
            · have hw := hw.1 c16
              refine xw_aload_n d_M_ask_66 rfl rfl ?_
              refine xw_iload_n d_M_ask_67 rfl rfl ?_
              refine xw_iload_n d_M_ask_68 rfl rfl ?_
              obtain ⟨⟨f13, hA⟩, hw⟩ := hw
              refine xc_V2n lk_M_170 in_M_request d_M_ask_69 (x_M_request hw) rfl hA rfl ?_
              intro h12 hw
              exact p_M_ask_72 ih (l0) (l1) (l2) (l3) h12 hw
            · have hw := hw.2 c16
              refine xw_aload_n d_M_ask_58 rfl rfl ?_
              refine xw_iload_n d_M_ask_59 rfl rfl ?_
              obtain ⟨⟨f15, hA⟩, hw⟩ := hw
              refine xc_V1n lk_M_167 in_M_does d_M_ask_60 (x_M_does hw) rfl hA rfl ?_
              intro h14 hw
              refine xw_goto (tgt := 72) d_M_ask_63 (by decide) ?_
              exact p_M_ask_72 ih (l0) (l1) (l2) (l3) h14 hw
          · have hw := hw.2 c18
            refine xw_goto (tgt := 72) d_M_ask_38 (by decide) ?_
            exact p_M_ask_72 ih (l0) (l1) (l2) (l3) h1 hw
set_option maxRecDepth 100000 in
def w_M_ask (Q : Option Value → xH → Prop) (this : Nat) (p1 : Int32) (p2 : Int32) (h : xH) : Prop := ∃ n1, w_M_ask_2 Q n1 (this) (p1) (p2) (0) h
set_option maxRecDepth 100000 in
set_option maxHeartbeats 4000000 in
theorem x_M_ask {sc : List Int32} {Q : Option Value → xH → Prop} {this : Nat} {p1 : Int32} {p2 : Int32} {h : xH} (hw : w_M_ask Q this p1 p2 h) : xMet sc m_M_ask 5 0 0 [.ref (this), .int (p1), .int (p2)] h Q := by
  unfold w_M_ask at hw
  refine xMet.of2 cw_M_ask rfl rfl ?_
  show xW sc m_M_ask 5 0 0 0 [some (.ref (this)), some (.int (p1)), some (.int (p2)), none] [] h Q
  refine xw_iconst (v := 0) d_M_ask_0 (by decide) ?_
  refine xs_istore_n (lv' := [some (.ref (this)), some (.int (p1)), some (.int (p2)), some (.int (0))]) d_M_ask_1 rfl rfl rfl ?_
  obtain ⟨n1, hw⟩ := hw
  exact p_M_ask_2  n1 (this) (p1) (p2) (0) h hw
set_option maxRecDepth 100000 in
def w_M_begins_109 (Q : Option Value → xH → Prop) (l0 : Nat) (l1 : Int32) (l2 : Int32) (h : xH) : Prop := (∃ f2, h.2 l0 = some (.inr (8, f2))) ∧ w_M_wantedSet (fun v h1 => ∃ (x3 : Int32), v = some (.int x3) ∧ (∃ f5, h1.2 l0 = some (.inr (8, f5))) ∧ w_M_ask (fun v h4 => v = none ∧ Q none h4) l0 l1 x3 h1) l0 l1 h
set_option maxRecDepth 100000 in
set_option maxHeartbeats 4000000 in
theorem p_M_begins_109 {sc : List Int32} {Q : Option Value → xH → Prop} (l0 : Nat) (l1 : Int32) (l2 : Int32) (h : xH) (hw : w_M_begins_109 Q l0 l1 l2 h) : xW sc m_M_begins 6 0 0 109 [some (.ref (l0)), some (.int (l1)), some (.int (l2))] [] h Q := by
  unfold w_M_begins_109 at hw
  refine xw_aload_n d_M_begins_109 rfl rfl ?_
  refine xw_iload_n d_M_begins_110 rfl rfl ?_
  refine xw_aload_n d_M_begins_111 rfl rfl ?_
  refine xw_iload_n d_M_begins_112 rfl rfl ?_
  obtain ⟨⟨f2, hA⟩, hw⟩ := hw
  refine xc_V1i lk_M_179 in_M_wantedSet d_M_begins_113 (x_M_wantedSet hw) rfl hA rfl ?_
  intro x3 h1 hw
  obtain ⟨⟨f5, hA⟩, hw⟩ := hw
  refine xc_V2n lk_M_182 in_M_ask d_M_begins_116 (x_M_ask hw) rfl hA rfl ?_
  intro h4 hw
  exact xw_return rfl d_M_begins_119 hw
set_option maxRecDepth 100000 in
def w_M_begins_55 (Q : Option Value → xH → Prop) (l0 : Nat) (l1 : Int32) (l2 : Int32) (h : xH) : Prop := ((¬ l2 = 1 → w_M_begins_109 Q (l0) (l1) (l2) h) ∧ (l2 = 1 → ∃ (f1 : List Value) (a2 : Nat), h.2 l0 = some (.inr (8, f1)) ∧ f1[16]? = some (.ref a2) ∧ ∃ (ar23 : List Int32) (x3 : Int32), h.2 a2 = some (.inl (0, .inl ar23)) ∧ 0 ≤ l1 ∧ ar23[l1.toNatClampNeg]? = some x3 ∧ ((¬ x3 = 3 → w_M_begins_109 Q (l0) (l1) (l2) h) ∧ (x3 = 3 → ∃ (f4 : List Value) (a5 : Nat), h.2 l0 = some (.inr (8, f4)) ∧ f4[3]? = some (.ref a5) ∧ ∃ (ar21 : List Int32) (x6 : Int32), h.2 a5 = some (.inl (0, .inl ar21)) ∧ 0 ≤ l1 ∧ ar21[l1.toNatClampNeg]? = some x6 ∧ (∃ f8, h.2 l0 = some (.inr (8, f8))) ∧ w_M_writeRound (fun v h7 => v = none ∧ (∃ f10, h7.2 l0 = some (.inr (8, f10))) ∧ w_M_isUp (fun v h9 => ∃ (x11 : Int32), v = some (.int x11) ∧ ((¬ x11 = 0 → ∃ (f12 : List Value) (a13 : Nat), h9.2 l0 = some (.inr (8, f12)) ∧ f12[24]? = some (.ref a13) ∧ ∃ (f14 : List Value) (a15 : Nat), h9.2 l0 = some (.inr (8, f14)) ∧ f14[3]? = some (.ref a15) ∧ ∃ (ar19 : List Int32) (x16 : Int32), h9.2 a15 = some (.inl (0, .inl ar19)) ∧ 0 ≤ l1 ∧ ar19[l1.toNatClampNeg]? = some x16 ∧ ∃ ar17, h9.2 a13 = some (.inl (0, .inl ar17)) ∧ 0 ≤ l1 ∧ l1.toNatClampNeg < ar17.length ∧ ∀ h18, h18 = xu h9 a13 (.inl (0, .inl (ar17.set l1.toNatClampNeg ((8 * x16) + l1)))) → w_M_begins_109 Q (l0) (l1) (l2) h18) ∧ (x11 = 0 → Q none h9))) l0 l1 h7) l0 l1 (x6 + 1) h))))
set_option maxRecDepth 100000 in
set_option maxHeartbeats 4000000 in
theorem p_M_begins_55 {sc : List Int32} {Q : Option Value → xH → Prop} (l0 : Nat) (l1 : Int32) (l2 : Int32) (h : xH) (hw : w_M_begins_55 Q l0 l1 l2 h) : xW sc m_M_begins 6 0 0 55 [some (.ref (l0)), some (.int (l1)), some (.int (l2))] [] h Q := by
  unfold w_M_begins_55 at hw
  refine xw_iload_n d_M_begins_55 rfl rfl ?_
  refine xw_iconst (v := 1) d_M_begins_56 (by decide) ?_
  refine xw_icmp_ne (tgt := 109) d_M_begins_57 (by decide) (fun c24 => ?_) (fun c24 => ?_)
  · have hw := hw.1 c24
    exact p_M_begins_109  (l0) (l1) (l2) h hw
  · have hw := hw.2 c24
    refine xw_aload_n d_M_begins_60 rfl rfl ?_
    obtain ⟨f1, a2, hA, hB, hw⟩ := hw
    refine xw_getr fr_M_52 d_M_begins_61 hA hB ?_
    refine xw_iload_n d_M_begins_64 rfl rfl ?_
    obtain ⟨ar23, x3, hA, hB, hC, hw⟩ := hw
    refine xw_iaload (t := 0) rfl d_M_begins_65 hA hB hC ?_
    refine xw_iconst (v := 3) d_M_begins_66 (by decide) ?_
    refine xw_icmp_ne (tgt := 109) d_M_begins_67 (by decide) (fun c22 => ?_) (fun c22 => ?_)
    · have hw := hw.1 c22
      exact p_M_begins_109  (l0) (l1) (l2) h hw
    · have hw := hw.2 c22
      refine xw_aload_n d_M_begins_70 rfl rfl ?_
      refine xw_iload_n d_M_begins_71 rfl rfl ?_
      refine xw_aload_n d_M_begins_72 rfl rfl ?_
      obtain ⟨f4, a5, hA, hB, hw⟩ := hw
      refine xw_getr fr_M_16 d_M_begins_73 hA hB ?_
      refine xw_iload_n d_M_begins_76 rfl rfl ?_
      obtain ⟨ar21, x6, hA, hB, hC, hw⟩ := hw
      refine xw_iaload (t := 0) rfl d_M_begins_77 hA hB hC ?_
      refine xw_iconst (v := 1) d_M_begins_78 (by decide) ?_
      refine xw_iadd d_M_begins_79 ?_
      obtain ⟨⟨f8, hA⟩, hw⟩ := hw
      refine xc_V2n lk_M_164 in_M_writeRound d_M_begins_80 (x_M_writeRound hw) rfl hA rfl ?_
      intro h7 hw
      refine xw_aload_n d_M_begins_83 rfl rfl ?_
      refine xw_iload_n d_M_begins_84 rfl rfl ?_
      obtain ⟨⟨f10, hA⟩, hw⟩ := hw
      refine xc_V1i lk_M_111 in_M_isUp d_M_begins_85 (x_M_isUp hw) rfl hA rfl ?_
      intro x11 h9 hw
      refine xw_if_ne (tgt := 92) d_M_begins_88 (by decide) (fun c20 => ?_) (fun c20 => ?_)
      · have hw := hw.1 c20
        refine xw_aload_n d_M_begins_92 rfl rfl ?_
        obtain ⟨f12, a13, hA, hB, hw⟩ := hw
        refine xw_getr fr_M_76 d_M_begins_93 hA hB ?_
        refine xw_iload_n d_M_begins_96 rfl rfl ?_
        refine xw_bipush (v := 8) d_M_begins_97 (by decide) ?_
        refine xw_aload_n d_M_begins_99 rfl rfl ?_
        obtain ⟨f14, a15, hA, hB, hw⟩ := hw
        refine xw_getr fr_M_16 d_M_begins_100 hA hB ?_
        refine xw_iload_n d_M_begins_103 rfl rfl ?_
        obtain ⟨ar19, x16, hA, hB, hC, hw⟩ := hw
        refine xw_iaload (t := 0) rfl d_M_begins_104 hA hB hC ?_
        refine xw_imul d_M_begins_105 ?_
        refine xw_iload_n d_M_begins_106 rfl rfl ?_
        refine xw_iadd d_M_begins_107 ?_
        obtain ⟨ar17, hA, hB, hC, hw⟩ := hw
        refine xw_iastore (t := 0) rfl d_M_begins_108 hA hB hC ?_
        generalize hh : xu h9 a13 (.inl (0, .inl (ar17.set l1.toNatClampNeg ((8 * x16) + l1)))) = h18
        have hw := hw h18 hh.symm
        exact p_M_begins_109  (l0) (l1) (l2) h18 hw
      · have hw := hw.2 c20
        exact xw_return rfl d_M_begins_91 hw
set_option maxRecDepth 100000 in
def w_M_begins (Q : Option Value → xH → Prop) (this : Nat) (p1 : Int32) (p2 : Int32) (h : xH) : Prop := ∃ (f1 : List Value) (a2 : Nat), h.2 this = some (.inr (8, f1)) ∧ f1[17]? = some (.ref a2) ∧ ∃ ar3, h.2 a2 = some (.inl (0, .inl ar3)) ∧ 0 ≤ p1 ∧ p1.toNatClampNeg < ar3.length ∧ ∀ h4, h4 = xu h a2 (.inl (0, .inl (ar3.set p1.toNatClampNeg p2))) → ∃ (f5 : List Value) (a6 : Nat), h4.2 this = some (.inr (8, f5)) ∧ f5[5]? = some (.ref a6) ∧ ∃ (ar29 : List Int32) (x7 : Int32), h4.2 a6 = some (.inl (0, .inl ar29)) ∧ 0 ≤ p1 ∧ ar29[p1.toNatClampNeg]? = some x7 ∧ ∃ ar8, h4.2 a6 = some (.inl (0, .inl ar8)) ∧ 0 ≤ p1 ∧ p1.toNatClampNeg < ar8.length ∧ ∀ h9, h9 = xu h4 a6 (.inl (0, .inl (ar8.set p1.toNatClampNeg (x7 + 1)))) → ∃ (f10 : List Value) (a11 : Nat), h9.2 this = some (.inr (8, f10)) ∧ f10[20]? = some (.ref a11) ∧ ∃ ar12, h9.2 a11 = some (.inl (0, .inl ar12)) ∧ 0 ≤ p1 ∧ p1.toNatClampNeg < ar12.length ∧ ∀ h13, h13 = xu h9 a11 (.inl (0, .inl (ar12.set p1.toNatClampNeg 0))) → ∃ (f14 : List Value) (a15 : Nat), h13.2 this = some (.inr (8, f14)) ∧ f14[21]? = some (.ref a15) ∧ ∃ ar16, h13.2 a15 = some (.inl (0, .inl ar16)) ∧ 0 ≤ p1 ∧ p1.toNatClampNeg < ar16.length ∧ ∀ h17, h17 = xu h13 a15 (.inl (0, .inl (ar16.set p1.toNatClampNeg 0))) → ((¬ p2 = 1 → w_M_begins_55 Q (this) (p1) (p2) h17) ∧ (p2 = 1 → (∃ f19, h17.2 this = some (.inr (8, f19))) ∧ w_M_bestIsOwn (fun v h18 => v = none ∧ ∃ (f20 : List Value) (a21 : Nat), h18.2 this = some (.inr (8, f20)) ∧ f20[26]? = some (.ref a21) ∧ ∃ ar22, h18.2 a21 = some (.inl (0, .inl ar22)) ∧ 0 ≤ p1 ∧ p1.toNatClampNeg < ar22.length ∧ ∀ h23, h23 = xu h18 a21 (.inl (0, .inl (ar22.set p1.toNatClampNeg 0))) → ∃ (f24 : List Value) (a25 : Nat), h23.2 this = some (.inr (8, f24)) ∧ f24[27]? = some (.ref a25) ∧ ∃ ar26, h23.2 a25 = some (.inl (0, .inl ar26)) ∧ 0 ≤ p1 ∧ p1.toNatClampNeg < ar26.length ∧ ∀ h27, h27 = xu h23 a25 (.inl (0, .inl (ar26.set p1.toNatClampNeg 0))) → w_M_begins_55 Q (this) (p1) (p2) h27) this p1 h17))
set_option maxRecDepth 100000 in
set_option maxHeartbeats 4000000 in
theorem x_M_begins {sc : List Int32} {Q : Option Value → xH → Prop} {this : Nat} {p1 : Int32} {p2 : Int32} {h : xH} (hw : w_M_begins Q this p1 p2 h) : xMet sc m_M_begins 6 0 0 [.ref (this), .int (p1), .int (p2)] h Q := by
  unfold w_M_begins at hw
  refine xMet.of2 cw_M_begins rfl rfl ?_
  show xW sc m_M_begins 6 0 0 0 [some (.ref (this)), some (.int (p1)), some (.int (p2))] [] h Q
  refine xw_aload_n d_M_begins_0 rfl rfl ?_
  obtain ⟨f1, a2, hA, hB, hw⟩ := hw
  refine xw_getr fr_M_55 d_M_begins_1 hA hB ?_
  refine xw_iload_n d_M_begins_4 rfl rfl ?_
  refine xw_iload_n d_M_begins_5 rfl rfl ?_
  obtain ⟨ar3, hA, hB, hC, hw⟩ := hw
  refine xw_iastore (t := 0) rfl d_M_begins_6 hA hB hC ?_
  generalize hh : xu h a2 (.inl (0, .inl (ar3.set p1.toNatClampNeg p2))) = h4
  have hw := hw h4 hh.symm
  refine xw_aload_n d_M_begins_7 rfl rfl ?_
  obtain ⟨f5, a6, hA, hB, hw⟩ := hw
  refine xw_getr fr_M_22 d_M_begins_8 hA hB ?_
  refine xw_iload_n d_M_begins_11 rfl rfl ?_
  refine xw_dup2 d_M_begins_12 rfl rfl ?_
  obtain ⟨ar29, x7, hA, hB, hC, hw⟩ := hw
  refine xw_iaload (t := 0) rfl d_M_begins_13 hA hB hC ?_
  refine xw_iconst (v := 1) d_M_begins_14 (by decide) ?_
  refine xw_iadd d_M_begins_15 ?_
  obtain ⟨ar8, hA, hB, hC, hw⟩ := hw
  refine xw_iastore (t := 0) rfl d_M_begins_16 hA hB hC ?_
  generalize hh : xu h4 a6 (.inl (0, .inl (ar8.set p1.toNatClampNeg (x7 + 1)))) = h9
  have hw := hw h9 hh.symm
  refine xw_aload_n d_M_begins_17 rfl rfl ?_
  obtain ⟨f10, a11, hA, hB, hw⟩ := hw
  refine xw_getr fr_M_64 d_M_begins_18 hA hB ?_
  refine xw_iload_n d_M_begins_21 rfl rfl ?_
  refine xw_iconst (v := 0) d_M_begins_22 (by decide) ?_
  obtain ⟨ar12, hA, hB, hC, hw⟩ := hw
  refine xw_iastore (t := 0) rfl d_M_begins_23 hA hB hC ?_
  generalize hh : xu h9 a11 (.inl (0, .inl (ar12.set p1.toNatClampNeg 0))) = h13
  have hw := hw h13 hh.symm
  refine xw_aload_n d_M_begins_24 rfl rfl ?_
  obtain ⟨f14, a15, hA, hB, hw⟩ := hw
  refine xw_getr fr_M_67 d_M_begins_25 hA hB ?_
  refine xw_iload_n d_M_begins_28 rfl rfl ?_
  refine xw_iconst (v := 0) d_M_begins_29 (by decide) ?_
  obtain ⟨ar16, hA, hB, hC, hw⟩ := hw
  refine xw_iastore (t := 0) rfl d_M_begins_30 hA hB hC ?_
  generalize hh : xu h13 a15 (.inl (0, .inl (ar16.set p1.toNatClampNeg 0))) = h17
  have hw := hw h17 hh.symm
  refine xw_iload_n d_M_begins_31 rfl rfl ?_
  refine xw_iconst (v := 1) d_M_begins_32 (by decide) ?_
  refine xw_icmp_ne (tgt := 55) d_M_begins_33 (by decide) (fun c28 => ?_) (fun c28 => ?_)
  · have hw := hw.1 c28
    exact p_M_begins_55  (this) (p1) (p2) h17 hw
  · have hw := hw.2 c28
    refine xw_aload_n d_M_begins_36 rfl rfl ?_
    refine xw_iload_n d_M_begins_37 rfl rfl ?_
    obtain ⟨⟨f19, hA⟩, hw⟩ := hw
    refine xc_V1n lk_M_176 in_M_bestIsOwn d_M_begins_38 (x_M_bestIsOwn hw) rfl hA rfl ?_
    intro h18 hw
    refine xw_aload_n d_M_begins_41 rfl rfl ?_
    obtain ⟨f20, a21, hA, hB, hw⟩ := hw
    refine xw_getr fr_M_82 d_M_begins_42 hA hB ?_
    refine xw_iload_n d_M_begins_45 rfl rfl ?_
    refine xw_iconst (v := 0) d_M_begins_46 (by decide) ?_
    obtain ⟨ar22, hA, hB, hC, hw⟩ := hw
    refine xw_iastore (t := 0) rfl d_M_begins_47 hA hB hC ?_
    generalize hh : xu h18 a21 (.inl (0, .inl (ar22.set p1.toNatClampNeg 0))) = h23
    have hw := hw h23 hh.symm
    refine xw_aload_n d_M_begins_48 rfl rfl ?_
    obtain ⟨f24, a25, hA, hB, hw⟩ := hw
    refine xw_getr fr_M_85 d_M_begins_49 hA hB ?_
    refine xw_iload_n d_M_begins_52 rfl rfl ?_
    refine xw_iconst (v := 0) d_M_begins_53 (by decide) ?_
    obtain ⟨ar26, hA, hB, hC, hw⟩ := hw
    refine xw_iastore (t := 0) rfl d_M_begins_54 hA hB hC ?_
    generalize hh : xu h23 a25 (.inl (0, .inl (ar26.set p1.toNatClampNeg 0))) = h27
    have hw := hw h27 hh.symm
    exact p_M_begins_55  (this) (p1) (p2) h27 hw
set_option maxRecDepth 100000 in
def w_M_second_96 (Q : Option Value → xH → Prop) (l0 : Nat) (l1 : Int32) (h : xH) : Prop := (∃ f2, h.2 l0 = some (.inr (8, f2))) ∧ w_M_begins (fun v h1 => v = none ∧ Q none h1) l0 l1 2 h
set_option maxRecDepth 100000 in
set_option maxHeartbeats 4000000 in
theorem p_M_second_96 {sc : List Int32} {Q : Option Value → xH → Prop} (l0 : Nat) (l1 : Int32) (h : xH) (hw : w_M_second_96 Q l0 l1 h) : xW sc m_M_second 7 0 0 96 [some (.ref (l0)), some (.int (l1)), none] [] h Q := by
  unfold w_M_second_96 at hw
  refine xw_aload_n d_M_second_96 rfl rfl ?_
  refine xw_iload_n d_M_second_97 rfl rfl ?_
  refine xw_iconst (v := 2) d_M_second_98 (by decide) ?_
  obtain ⟨⟨f2, hA⟩, hw⟩ := hw
  refine xc_V2n lk_M_203 in_M_begins d_M_second_99 (x_M_begins hw) rfl hA rfl ?_
  intro h1 hw
  exact xw_return rfl d_M_second_102 hw
set_option maxRecDepth 100000 in
def w_M_second_58 (Q : Option Value → xH → Prop) (l0 : Nat) (l1 : Int32) (l2 : Int32) (h : xH) : Prop := ∃ (f1 : List Value) (a2 : Nat), h.2 l0 = some (.inr (8, f1)) ∧ f1[18]? = some (.ref a2) ∧ ∃ (ar22 : List Int32) (x3 : Int32), h.2 a2 = some (.inl (0, .inl ar22)) ∧ 0 ≤ l1 ∧ ar22[l1.toNatClampNeg]? = some x3 ∧ ∃ (f4 : List Value) (a5 : Nat), h.2 l0 = some (.inr (8, f4)) ∧ f4[28]? = some (.ref a5) ∧ ∃ (ar21 : List Int32) (x6 : Int32), h.2 a5 = some (.inl (0, .inl ar21)) ∧ 0 ≤ l2 ∧ ar21[l2.toNatClampNeg]? = some x6 ∧ ∃ (f7 : List Value) (a8 : Nat), h.2 l0 = some (.inr (8, f7)) ∧ f7[29]? = some (.ref a8) ∧ ∃ (ar20 : List Int32) (x9 : Int32), h.2 a8 = some (.inl (0, .inl ar20)) ∧ 0 ≤ l2 ∧ ar20[l2.toNatClampNeg]? = some x9 ∧ ∃ (f10 : List Value) (a11 : Nat), h.2 l0 = some (.inr (8, f10)) ∧ f10[30]? = some (.ref a11) ∧ ∃ (ar19 : List Int32) (x12 : Int32), h.2 a11 = some (.inl (0, .inl ar19)) ∧ 0 ≤ l2 ∧ ar19[l2.toNatClampNeg]? = some x12 ∧ (∃ f14, h.2 l0 = some (.inr (8, f14))) ∧ w_M_store (fun v h13 => v = none ∧ (∃ f16, h13.2 l0 = some (.inr (8, f16))) ∧ w_M_isUp (fun v h15 => ∃ (x17 : Int32), v = some (.int x17) ∧ ((¬ x17 = 0 → w_M_second_96 Q (l0) (l1) h15) ∧ (x17 = 0 → Q none h15))) l0 l1 h13) l0 l1 x3 x6 x9 x12 h
set_option maxRecDepth 100000 in
set_option maxHeartbeats 4000000 in
theorem p_M_second_58 {sc : List Int32} {Q : Option Value → xH → Prop} (l0 : Nat) (l1 : Int32) (l2 : Int32) (h : xH) (hw : w_M_second_58 Q l0 l1 l2 h) : xW sc m_M_second 7 0 0 58 [some (.ref (l0)), some (.int (l1)), some (.int (l2))] [] h Q := by
  unfold w_M_second_58 at hw
  refine xw_aload_n d_M_second_58 rfl rfl ?_
  refine xw_iload_n d_M_second_59 rfl rfl ?_
  refine xw_aload_n d_M_second_60 rfl rfl ?_
  obtain ⟨f1, a2, hA, hB, hw⟩ := hw
  refine xw_getr fr_M_58 d_M_second_61 hA hB ?_
  refine xw_iload_n d_M_second_64 rfl rfl ?_
  obtain ⟨ar22, x3, hA, hB, hC, hw⟩ := hw
  refine xw_iaload (t := 0) rfl d_M_second_65 hA hB hC ?_
  refine xw_aload_n d_M_second_66 rfl rfl ?_
  obtain ⟨f4, a5, hA, hB, hw⟩ := hw
  refine xw_getr fr_M_88 d_M_second_67 hA hB ?_
  refine xw_iload_n d_M_second_70 rfl rfl ?_
  obtain ⟨ar21, x6, hA, hB, hC, hw⟩ := hw
  refine xw_iaload (t := 0) rfl d_M_second_71 hA hB hC ?_
  refine xw_aload_n d_M_second_72 rfl rfl ?_
  obtain ⟨f7, a8, hA, hB, hw⟩ := hw
  refine xw_getr fr_M_91 d_M_second_73 hA hB ?_
  refine xw_iload_n d_M_second_76 rfl rfl ?_
  obtain ⟨ar20, x9, hA, hB, hC, hw⟩ := hw
  refine xw_iaload (t := 0) rfl d_M_second_77 hA hB hC ?_
  refine xw_aload_n d_M_second_78 rfl rfl ?_
  obtain ⟨f10, a11, hA, hB, hw⟩ := hw
  refine xw_getr fr_M_94 d_M_second_79 hA hB ?_
  refine xw_iload_n d_M_second_82 rfl rfl ?_
  obtain ⟨ar19, x12, hA, hB, hC, hw⟩ := hw
  refine xw_iaload (t := 0) rfl d_M_second_83 hA hB hC ?_
  obtain ⟨⟨f14, hA⟩, hw⟩ := hw
  refine xc_V5n lk_M_150 in_M_store d_M_second_84 (x_M_store hw) rfl hA rfl ?_
  intro h13 hw
  refine xw_aload_n d_M_second_87 rfl rfl ?_
  refine xw_iload_n d_M_second_88 rfl rfl ?_
  obtain ⟨⟨f16, hA⟩, hw⟩ := hw
  refine xc_V1i lk_M_111 in_M_isUp d_M_second_89 (x_M_isUp hw) rfl hA rfl ?_
  intro x17 h15 hw
  refine xw_if_ne (tgt := 96) d_M_second_92 (by decide) (fun c18 => ?_) (fun c18 => ?_)
  · have hw := hw.1 c18
    refine xs_drop (lv' := [some (.ref (l0)), some (.int (l1)), none]) 2 rfl ?_
    exact p_M_second_96  (l0) (l1) h15 hw
  · have hw := hw.2 c18
    exact xw_return rfl d_M_second_95 hw
set_option maxRecDepth 100000 in
def w_M_second (Q : Option Value → xH → Prop) (this : Nat) (p1 : Int32) (h : xH) : Prop := (∃ f2, h.2 this = some (.inr (8, f2))) ∧ w_M_isData (fun v h1 => ∃ (x3 : Int32), v = some (.int x3) ∧ ((x3 = 0 → w_M_second_96 Q (this) (p1) h1) ∧ (¬ x3 = 0 → ∃ (f4 : List Value) (a5 : Nat), h1.2 this = some (.inr (8, f4)) ∧ f4[18]? = some (.ref a5) ∧ ∃ (ar30 : List Int32) (x6 : Int32), h1.2 a5 = some (.inl (0, .inl ar30)) ∧ 0 ≤ p1 ∧ ar30[p1.toNatClampNeg]? = some x6 ∧ ∃ (f7 : List Value) (a8 : Nat), h1.2 this = some (.inr (8, f7)) ∧ f7[16]? = some (.ref a8) ∧ ∃ (ar29 : List Int32) (x9 : Int32), h1.2 a8 = some (.inl (0, .inl ar29)) ∧ 0 ≤ p1 ∧ ar29[p1.toNatClampNeg]? = some x9 ∧ ((¬ x9 = 2 → w_M_second_58 Q (this) (p1) ((4 * p1) + x6) h1) ∧ (x9 = 2 → ∃ (f10 : List Value) (a11 : Nat), h1.2 this = some (.inr (8, f10)) ∧ f10[28]? = some (.ref a11) ∧ ∃ (ar27 : List Int32) (x12 : Int32), h1.2 a11 = some (.inl (0, .inl ar27)) ∧ 0 ≤ ((4 * p1) + x6 : Int32) ∧ ar27[((4 * p1) + x6 : Int32).toNatClampNeg]? = some x12 ∧ ∃ ar13, h1.2 a11 = some (.inl (0, .inl ar13)) ∧ 0 ≤ ((4 * p1) + x6 : Int32) ∧ ((4 * p1) + x6 : Int32).toNatClampNeg < ar13.length ∧ ∀ h14, h14 = xu h1 a11 (.inl (0, .inl (ar13.set ((4 * p1) + x6 : Int32).toNatClampNeg (x12 + 1)))) → ∃ (f15 : List Value) (a16 : Nat), h14.2 this = some (.inr (8, f15)) ∧ f15[29]? = some (.ref a16) ∧ ∃ ar17, h14.2 a16 = some (.inl (0, .inl ar17)) ∧ 0 ≤ ((4 * p1) + x6 : Int32) ∧ ((4 * p1) + x6 : Int32).toNatClampNeg < ar17.length ∧ ∀ h18, h18 = xu h14 a16 (.inl (0, .inl (ar17.set ((4 * p1) + x6 : Int32).toNatClampNeg p1))) → ∃ (f19 : List Value) (a20 : Nat), h18.2 this = some (.inr (8, f19)) ∧ f19[30]? = some (.ref a20) ∧ ∃ (f21 : List Value) (a22 : Nat), h18.2 this = some (.inr (8, f21)) ∧ f21[22]? = some (.ref a22) ∧ ∃ (ar26 : List Int32) (x23 : Int32), h18.2 a22 = some (.inl (0, .inl ar26)) ∧ 0 ≤ p1 ∧ ar26[p1.toNatClampNeg]? = some x23 ∧ ∃ ar24, h18.2 a20 = some (.inl (0, .inl ar24)) ∧ 0 ≤ ((4 * p1) + x6 : Int32) ∧ ((4 * p1) + x6 : Int32).toNatClampNeg < ar24.length ∧ ∀ h25, h25 = xu h18 a20 (.inl (0, .inl (ar24.set ((4 * p1) + x6 : Int32).toNatClampNeg x23))) → w_M_second_58 Q (this) (p1) ((4 * p1) + x6) h25))))) this p1 h
set_option maxRecDepth 100000 in
set_option maxHeartbeats 4000000 in
theorem x_M_second {sc : List Int32} {Q : Option Value → xH → Prop} {this : Nat} {p1 : Int32} {h : xH} (hw : w_M_second Q this p1 h) : xMet sc m_M_second 7 0 0 [.ref (this), .int (p1)] h Q := by
  unfold w_M_second at hw
  refine xMet.of2 cw_M_second rfl rfl ?_
  show xW sc m_M_second 7 0 0 0 [some (.ref (this)), some (.int (p1)), none] [] h Q
  refine xw_aload_n d_M_second_0 rfl rfl ?_
  refine xw_iload_n d_M_second_1 rfl rfl ?_
  obtain ⟨⟨f2, hA⟩, hw⟩ := hw
  refine xc_V1i lk_M_135 in_M_isData d_M_second_2 (x_M_isData hw) rfl hA rfl ?_
  intro x3 h1 hw
  refine xw_if_eq (tgt := 96) d_M_second_5 (by decide) (fun c31 => ?_) (fun c31 => ?_)
  · have hw := hw.1 c31
    exact p_M_second_96  (this) (p1) h1 hw
  · have hw := hw.2 c31
    refine xw_iconst (v := 4) d_M_second_8 (by decide) ?_
    refine xw_iload_n d_M_second_9 rfl rfl ?_
    refine xw_imul d_M_second_10 ?_
    refine xw_aload_n d_M_second_11 rfl rfl ?_
    obtain ⟨f4, a5, hA, hB, hw⟩ := hw
    refine xw_getr fr_M_58 d_M_second_12 hA hB ?_
    refine xw_iload_n d_M_second_15 rfl rfl ?_
    obtain ⟨ar30, x6, hA, hB, hC, hw⟩ := hw
    refine xw_iaload (t := 0) rfl d_M_second_16 hA hB hC ?_
    refine xw_iadd d_M_second_17 ?_
    refine xs_istore_n (lv' := [some (.ref (this)), some (.int (p1)), some (.int ((4 * p1) + x6))]) d_M_second_18 rfl rfl rfl ?_
    refine xw_aload_n d_M_second_19 rfl rfl ?_
    obtain ⟨f7, a8, hA, hB, hw⟩ := hw
    refine xw_getr fr_M_52 d_M_second_20 hA hB ?_
    refine xw_iload_n d_M_second_23 rfl rfl ?_
    obtain ⟨ar29, x9, hA, hB, hC, hw⟩ := hw
    refine xw_iaload (t := 0) rfl d_M_second_24 hA hB hC ?_
    refine xw_iconst (v := 2) d_M_second_25 (by decide) ?_
    refine xw_icmp_ne (tgt := 58) d_M_second_26 (by decide) (fun c28 => ?_) (fun c28 => ?_)
    · have hw := hw.1 c28
      exact p_M_second_58  (this) (p1) ((4 * p1) + x6) h1 hw
    · have hw := hw.2 c28
      refine xw_aload_n d_M_second_29 rfl rfl ?_
      obtain ⟨f10, a11, hA, hB, hw⟩ := hw
      refine xw_getr fr_M_88 d_M_second_30 hA hB ?_
      refine xw_iload_n d_M_second_33 rfl rfl ?_
      refine xw_dup2 d_M_second_34 rfl rfl ?_
      obtain ⟨ar27, x12, hA, hB, hC, hw⟩ := hw
      refine xw_iaload (t := 0) rfl d_M_second_35 hA hB hC ?_
      refine xw_iconst (v := 1) d_M_second_36 (by decide) ?_
      refine xw_iadd d_M_second_37 ?_
      obtain ⟨ar13, hA, hB, hC, hw⟩ := hw
      refine xw_iastore (t := 0) rfl d_M_second_38 hA hB hC ?_
      generalize hh : xu h1 a11 (.inl (0, .inl (ar13.set ((4 * p1) + x6 : Int32).toNatClampNeg (x12 + 1)))) = h14
      have hw := hw h14 hh.symm
      refine xw_aload_n d_M_second_39 rfl rfl ?_
      obtain ⟨f15, a16, hA, hB, hw⟩ := hw
      refine xw_getr fr_M_91 d_M_second_40 hA hB ?_
      refine xw_iload_n d_M_second_43 rfl rfl ?_
      refine xw_iload_n d_M_second_44 rfl rfl ?_
      obtain ⟨ar17, hA, hB, hC, hw⟩ := hw
      refine xw_iastore (t := 0) rfl d_M_second_45 hA hB hC ?_
      generalize hh : xu h14 a16 (.inl (0, .inl (ar17.set ((4 * p1) + x6 : Int32).toNatClampNeg p1))) = h18
      have hw := hw h18 hh.symm
      refine xw_aload_n d_M_second_46 rfl rfl ?_
      obtain ⟨f19, a20, hA, hB, hw⟩ := hw
      refine xw_getr fr_M_94 d_M_second_47 hA hB ?_
      refine xw_iload_n d_M_second_50 rfl rfl ?_
      refine xw_aload_n d_M_second_51 rfl rfl ?_
      obtain ⟨f21, a22, hA, hB, hw⟩ := hw
      refine xw_getr fr_M_70 d_M_second_52 hA hB ?_
      refine xw_iload_n d_M_second_55 rfl rfl ?_
      obtain ⟨ar26, x23, hA, hB, hC, hw⟩ := hw
      refine xw_iaload (t := 0) rfl d_M_second_56 hA hB hC ?_
      obtain ⟨ar24, hA, hB, hC, hw⟩ := hw
      refine xw_iastore (t := 0) rfl d_M_second_57 hA hB hC ?_
      generalize hh : xu h18 a20 (.inl (0, .inl (ar24.set ((4 * p1) + x6 : Int32).toNatClampNeg x23))) = h25
      have hw := hw h25 hh.symm
      exact p_M_second_58  (this) (p1) ((4 * p1) + x6) h25 hw
