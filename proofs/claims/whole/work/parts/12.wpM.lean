set_option maxRecDepth 100000 in
def w_M_init_430 (Q : Option Value → xH → Prop) (L356 : Nat → Int32 → Int32 → Int32 → Int32 → Int32 → Int32 → Int32 → xH → Nat → Nat → Prop) (l0 : Nat) (l1 : Int32) (l2 : Int32) (l3 : Int32) (l4 : Int32) (l5 : Int32) (l6 : Int32) (l7 : Int32) (h : xH) (kc : Nat) (ks : Nat) : Prop := L356 (l0) (l1) (l2) (l3) (l4) (l5) (l6) (l7 + 1) h kc ks
set_option maxRecDepth 100000 in
set_option maxHeartbeats 4000000 in
theorem p_M_init_430 {sc : List Int32} {Q : Option Value → xH → Prop} {L356 : Nat → Int32 → Int32 → Int32 → Int32 → Int32 → Int32 → Int32 → xH → Nat → Nat → Prop} (hL356 : ∀ l0 l1 l2 l3 l4 l5 l6 l7 h kc ks, L356 l0 l1 l2 l3 l4 l5 l6 l7 h kc ks → xW sc m_M_init 1 kc ks 356 [some (.ref (l0)), some (.int (l1)), some (.int (l2)), some (.int (l3)), some (.int (l4)), some (.int (l5)), some (.int (l6)), some (.int (l7))] [] h Q) (l0 : Nat) (l1 : Int32) (l2 : Int32) (l3 : Int32) (l4 : Int32) (l5 : Int32) (l6 : Int32) (l7 : Int32) (h : xH) (kc : Nat) (ks : Nat) (hw : w_M_init_430 Q L356 l0 l1 l2 l3 l4 l5 l6 l7 h kc ks) : xW sc m_M_init 1 kc ks 430 [some (.ref (l0)), some (.int (l1)), some (.int (l2)), some (.int (l3)), some (.int (l4)), some (.int (l5)), some (.int (l6)), some (.int (l7))] [] h Q := by
  unfold w_M_init_430 at hw
  refine xs_iinc (v := l7 + 1) (lv' := [some (.ref (l0)), some (.int (l1)), some (.int (l2)), some (.int (l3)), some (.int (l4)), some (.int (l5)), some (.int (l6)), some (.int (l7 + 1))]) d_M_init_430 rfl rfl rfl ?_
  refine xw_goto (tgt := 356) d_M_init_433 (by decide) ?_
  exact hL356 (l0) (l1) (l2) (l3) (l4) (l5) (l6) (l7 + 1) h kc ks hw
set_option maxRecDepth 100000 in
def w_M_init_356 (Q : Option Value → xH → Prop) : Nat → Nat → Int32 → Int32 → Int32 → Int32 → Int32 → Int32 → Int32 → xH → Nat → Nat → Prop
  | 0, _, _, _, _, _, _, _, _, _, _, _ => False
  | n + 1, l0, l1, l2, l3, l4, l5, l6, l7, h, kc, ks => ((8 ≤ l7 → Q none h) ∧ (¬ 8 ≤ l7 → ∃ (f1 : List Value) (a2 : Nat), h.2 l0 = some (.inr (8, f1)) ∧ f1[2]? = some (.ref a2) ∧ ∃ ar3, h.2 a2 = some (.inl (0, .inl ar3)) ∧ 0 ≤ l7 ∧ l7.toNatClampNeg < ar3.length ∧ ∀ h4, h4 = xu h a2 (.inl (0, .inl (ar3.set l7.toNatClampNeg 1))) → ((l7 < l4 → ∃ (f5 : List Value) (a6 : Nat), h4.2 l0 = some (.inr (8, f5)) ∧ f5[1]? = some (.ref a6) ∧ ∃ ar7, h4.2 a6 = some (.inl (0, .inl ar7)) ∧ 0 ≤ l7 ∧ l7.toNatClampNeg < ar7.length ∧ ∀ h8, h8 = xu h4 a6 (.inl (0, .inl (ar7.set l7.toNatClampNeg 1))) → ∃ (f9 : List Value) (a10 : Nat), h8.2 l0 = some (.inr (8, f9)) ∧ f9[9]? = some (.ref a10) ∧ ∃ ar11, h8.2 a10 = some (.inl (0, .inl ar11)) ∧ 0 ≤ (16 * l7 : Int32) ∧ (16 * l7 : Int32).toNatClampNeg < ar11.length ∧ ∀ h12, h12 = xu h8 a10 (.inl (0, .inl (ar11.set (16 * l7 : Int32).toNatClampNeg 1))) → ∃ (f13 : List Value) (a14 : Nat), h12.2 l0 = some (.inr (8, f13)) ∧ f13[10]? = some (.ref a14) ∧ ∃ ar15, h12.2 a14 = some (.inl (0, .inl ar15)) ∧ 0 ≤ (16 * l7 : Int32) ∧ (16 * l7 : Int32).toNatClampNeg < ar15.length ∧ ∀ h16, h16 = xu h12 a14 (.inl (0, .inl (ar15.set (16 * l7 : Int32).toNatClampNeg (((((1 : Int32) <<< (l4 &&& 31)) - 1) + (256 * l5)) + (4096 * l6))))) → w_M_init_430 Q (fun y0 y1 y2 y3 y4 y5 y6 y7 yh yc ys => w_M_init_356 Q n y0 y1 y2 y3 y4 y5 y6 y7 yh yc ys) (l0) (l1) (l2) (l3) (l4) (l5) (l6) (l7) h16 kc ks) ∧ (¬ l7 < l4 → w_M_init_430 Q (fun y0 y1 y2 y3 y4 y5 y6 y7 yh yc ys => w_M_init_356 Q n y0 y1 y2 y3 y4 y5 y6 y7 yh yc ys) (l0) (l1) (l2) (l3) (l4) (l5) (l6) (l7) h4 kc ks))))
set_option maxRecDepth 100000 in
set_option maxHeartbeats 4000000 in
theorem p_M_init_356 {sc : List Int32} {Q : Option Value → xH → Prop} : ∀ (n : Nat) (l0 : Nat) (l1 : Int32) (l2 : Int32) (l3 : Int32) (l4 : Int32) (l5 : Int32) (l6 : Int32) (l7 : Int32) (h : xH) (kc : Nat) (ks : Nat), w_M_init_356 Q n l0 l1 l2 l3 l4 l5 l6 l7 h kc ks → xW sc m_M_init 1 kc ks 356 [some (.ref (l0)), some (.int (l1)), some (.int (l2)), some (.int (l3)), some (.int (l4)), some (.int (l5)), some (.int (l6)), some (.int (l7))] [] h Q := by
  intro n
  induction n with
  | zero => intro l0 l1 l2 l3 l4 l5 l6 l7 h kc ks hw; exact False.elim hw
  | succ n ih =>
    intro l0 l1 l2 l3 l4 l5 l6 l7 h kc ks hw
    rw [w_M_init_356] at hw
    refine xw_iload d_M_init_356 rfl ?_
    refine xw_bipush (v := 8) d_M_init_358 (by decide) ?_
    refine xw_icmp_ge (tgt := 436) d_M_init_360 (by decide) (fun c18 => ?_) (fun c18 => ?_)
    · have hw := hw.1 c18
      exact xw_return rfl d_M_init_436 hw
    · have hw := hw.2 c18
      refine xw_aload_n d_M_init_363 rfl rfl ?_
      obtain ⟨f1, a2, hA, hB, hw⟩ := hw
      refine xw_getr fr_M_13 d_M_init_364 hA hB ?_
      refine xw_iload d_M_init_367 rfl ?_
      refine xw_iconst (v := 1) d_M_init_369 (by decide) ?_
      obtain ⟨ar3, hA, hB, hC, hw⟩ := hw
      refine xw_iastore (t := 0) rfl d_M_init_370 hA hB hC ?_
      generalize hh : xu h a2 (.inl (0, .inl (ar3.set l7.toNatClampNeg 1))) = h4
      have hw := hw h4 hh.symm
      refine xw_iload d_M_init_371 rfl ?_
      refine xw_iload d_M_init_373 rfl ?_
      refine xw_icmp_lt (tgt := 381) d_M_init_375 (by decide) (fun c17 => ?_) (fun c17 => ?_)
      · have hw := hw.1 c17
        refine xw_aload_n d_M_init_381 rfl rfl ?_
        obtain ⟨f5, a6, hA, hB, hw⟩ := hw
        refine xw_getr fr_M_9 d_M_init_382 hA hB ?_
        refine xw_iload d_M_init_385 rfl ?_
        refine xw_iconst (v := 1) d_M_init_387 (by decide) ?_
        obtain ⟨ar7, hA, hB, hC, hw⟩ := hw
        refine xw_iastore (t := 0) rfl d_M_init_388 hA hB hC ?_
        generalize hh : xu h4 a6 (.inl (0, .inl (ar7.set l7.toNatClampNeg 1))) = h8
        have hw := hw h8 hh.symm
        refine xw_aload_n d_M_init_389 rfl rfl ?_
        obtain ⟨f9, a10, hA, hB, hw⟩ := hw
        refine xw_getr fr_M_34 d_M_init_390 hA hB ?_
        refine xw_bipush (v := 16) d_M_init_393 (by decide) ?_
        refine xw_iload d_M_init_395 rfl ?_
        refine xw_imul d_M_init_397 ?_
        refine xw_iconst (v := 1) d_M_init_398 (by decide) ?_
        obtain ⟨ar11, hA, hB, hC, hw⟩ := hw
        refine xw_iastore (t := 0) rfl d_M_init_399 hA hB hC ?_
        generalize hh : xu h8 a10 (.inl (0, .inl (ar11.set (16 * l7 : Int32).toNatClampNeg 1))) = h12
        have hw := hw h12 hh.symm
        refine xw_aload_n d_M_init_400 rfl rfl ?_
        obtain ⟨f13, a14, hA, hB, hw⟩ := hw
        refine xw_getr fr_M_37 d_M_init_401 hA hB ?_
        refine xw_bipush (v := 16) d_M_init_404 (by decide) ?_
        refine xw_iload d_M_init_406 rfl ?_
        refine xw_imul d_M_init_408 ?_
        refine xw_iconst (v := 1) d_M_init_409 (by decide) ?_
        refine xw_iload d_M_init_410 rfl ?_
        refine xw_ishl d_M_init_412 ?_
        refine xw_iconst (v := 1) d_M_init_413 (by decide) ?_
        refine xw_isub d_M_init_414 ?_
        refine xw_sipush (v := 256) d_M_init_415 (by decide) ?_
        refine xw_iload d_M_init_418 rfl ?_
        refine xw_imul d_M_init_420 ?_
        refine xw_iadd d_M_init_421 ?_
        refine xw_sipush (v := 4096) d_M_init_422 (by decide) ?_
        refine xw_iload d_M_init_425 rfl ?_
        refine xw_imul d_M_init_427 ?_
        refine xw_iadd d_M_init_428 ?_
        obtain ⟨ar15, hA, hB, hC, hw⟩ := hw
        refine xw_iastore (t := 0) rfl d_M_init_429 hA hB hC ?_
        generalize hh : xu h12 a14 (.inl (0, .inl (ar15.set (16 * l7 : Int32).toNatClampNeg (((((1 : Int32) <<< (l4 &&& 31)) - 1) + (256 * l5)) + (4096 * l6))))) = h16
        have hw := hw h16 hh.symm
        exact p_M_init_430 ih (l0) (l1) (l2) (l3) (l4) (l5) (l6) (l7) h16 kc ks hw
      · have hw := hw.2 c17
        refine xw_goto (tgt := 430) d_M_init_378 (by decide) ?_
        exact p_M_init_430 ih (l0) (l1) (l2) (l3) (l4) (l5) (l6) (l7) h4 kc ks hw
set_option maxRecDepth 100000 in
def w_M_init_351 (Q : Option Value → xH → Prop) (l0 : Nat) (l1 : Int32) (l2 : Int32) (l3 : Int32) (l4 : Int32) (l5 : Int32) (l6 : Int32) (s0 : Int32) (h : xH) (kc : Nat) (ks : Nat) : Prop := ∃ n1, w_M_init_356 Q n1 (l0) (l1) (l2) (l3) (l4) (l5) (s0) (0) h kc ks
set_option maxRecDepth 100000 in
set_option maxHeartbeats 4000000 in
theorem p_M_init_351 {sc : List Int32} {Q : Option Value → xH → Prop} (l0 : Nat) (l1 : Int32) (l2 : Int32) (l3 : Int32) (l4 : Int32) (l5 : Int32) (l6 : Int32) (s0 : Int32) (h : xH) (kc : Nat) (ks : Nat) (hw : w_M_init_351 Q l0 l1 l2 l3 l4 l5 l6 s0 h kc ks) : xW sc m_M_init 1 kc ks 351 [some (.ref (l0)), some (.int (l1)), some (.int (l2)), some (.int (l3)), some (.int (l4)), some (.int (l5)), some (.int (l6)), none] [.int (s0)] h Q := by
  unfold w_M_init_351 at hw
  refine xs_istore (lv' := [some (.ref (l0)), some (.int (l1)), some (.int (l2)), some (.int (l3)), some (.int (l4)), some (.int (l5)), some (.int (s0)), none]) d_M_init_351 rfl rfl ?_
  refine xw_iconst (v := 0) d_M_init_353 (by decide) ?_
  refine xs_istore (lv' := [some (.ref (l0)), some (.int (l1)), some (.int (l2)), some (.int (l3)), some (.int (l4)), some (.int (l5)), some (.int (s0)), some (.int (0))]) d_M_init_354 rfl rfl ?_
  obtain ⟨n1, hw⟩ := hw
  exact p_M_init_356  n1 (l0) (l1) (l2) (l3) (l4) (l5) (s0) (0) h kc ks hw
set_option maxRecDepth 100000 in
def w_M_init_325 (Q : Option Value → xH → Prop) (l0 : Nat) (l1 : Int32) (l2 : Int32) (l3 : Int32) (l4 : Int32) (l5 : Int32) (s0 : Int32) (h : xH) (kc : Nat) (ks : Nat) : Prop := ((((l4 + 1) - l5) ≤ s0 → w_M_init_351 Q (l0) (l1) (l2) (l3) (l4) (l5) (s0) (s0) h kc ks) ∧ (¬ ((l4 + 1) - l5) ≤ s0 → w_M_init_351 Q (l0) (l1) (l2) (l3) (l4) (l5) (s0) ((l4 + 1) - l5) h kc ks))
set_option maxRecDepth 100000 in
set_option maxHeartbeats 4000000 in
theorem p_M_init_325 {sc : List Int32} {Q : Option Value → xH → Prop} (l0 : Nat) (l1 : Int32) (l2 : Int32) (l3 : Int32) (l4 : Int32) (l5 : Int32) (s0 : Int32) (h : xH) (kc : Nat) (ks : Nat) (hw : w_M_init_325 Q l0 l1 l2 l3 l4 l5 s0 h kc ks) : xW sc m_M_init 1 kc ks 325 [some (.ref (l0)), some (.int (l1)), some (.int (l2)), some (.int (l3)), some (.int (l4)), some (.int (l5)), none, none] [.int (s0)] h Q := by
  unfold w_M_init_325 at hw
  refine xs_istore (lv' := [some (.ref (l0)), some (.int (l1)), some (.int (l2)), some (.int (l3)), some (.int (l4)), some (.int (l5)), some (.int (s0)), none]) d_M_init_325 rfl rfl ?_
  refine xw_iload d_M_init_327 rfl ?_
  refine xw_iload d_M_init_329 rfl ?_
  refine xw_iconst (v := 1) d_M_init_331 (by decide) ?_
  refine xw_iadd d_M_init_332 ?_
  refine xw_iload d_M_init_333 rfl ?_
  refine xw_isub d_M_init_335 ?_
  refine xw_icmp_ge (tgt := 349) d_M_init_336 (by decide) (fun c1 => ?_) (fun c1 => ?_)
  · have hw := hw.1 c1
    refine xw_iload d_M_init_349 rfl ?_
    exact p_M_init_351  (l0) (l1) (l2) (l3) (l4) (l5) (s0) (s0) h kc ks hw
  · have hw := hw.2 c1
    refine xw_iload d_M_init_339 rfl ?_
    refine xw_iconst (v := 1) d_M_init_341 (by decide) ?_
    refine xw_iadd d_M_init_342 ?_
    refine xw_iload d_M_init_343 rfl ?_
    refine xw_isub d_M_init_345 ?_
    refine xw_goto (tgt := 351) d_M_init_346 (by decide) ?_
    exact p_M_init_351  (l0) (l1) (l2) (l3) (l4) (l5) (s0) ((l4 + 1) - l5) h kc ks hw
set_option maxRecDepth 100000 in
def w_M_init_302 (Q : Option Value → xH → Prop) (l0 : Nat) (l1 : Int32) (l2 : Int32) (l3 : Int32) (l4 : Int32) (s0 : Int32) (h : xH) (kc : Nat) (ks : Nat) : Prop := ((1 ≤ l3 → ((l3 ≤ l4 → w_M_init_325 Q (l0) (l1) (l2) (l3) (l4) (s0) (l3) h kc ks) ∧ (¬ l3 ≤ l4 → w_M_init_325 Q (l0) (l1) (l2) (l3) (l4) (s0) (l4) h kc ks))) ∧ (¬ 1 ≤ l3 → w_M_init_325 Q (l0) (l1) (l2) (l3) (l4) (s0) (1) h kc ks))
set_option maxRecDepth 100000 in
set_option maxHeartbeats 4000000 in
theorem p_M_init_302 {sc : List Int32} {Q : Option Value → xH → Prop} (l0 : Nat) (l1 : Int32) (l2 : Int32) (l3 : Int32) (l4 : Int32) (s0 : Int32) (h : xH) (kc : Nat) (ks : Nat) (hw : w_M_init_302 Q l0 l1 l2 l3 l4 s0 h kc ks) : xW sc m_M_init 1 kc ks 302 [some (.ref (l0)), some (.int (l1)), some (.int (l2)), some (.int (l3)), some (.int (l4)), none, none, none] [.int (s0)] h Q := by
  unfold w_M_init_302 at hw
  refine xs_istore (lv' := [some (.ref (l0)), some (.int (l1)), some (.int (l2)), some (.int (l3)), some (.int (l4)), some (.int (s0)), none, none]) d_M_init_302 rfl rfl ?_
  refine xw_iload_n d_M_init_304 rfl rfl ?_
  refine xw_iconst (v := 1) d_M_init_305 (by decide) ?_
  refine xw_icmp_ge (tgt := 313) d_M_init_306 (by decide) (fun c2 => ?_) (fun c2 => ?_)
  · have hw := hw.1 c2
    refine xw_iload_n d_M_init_313 rfl rfl ?_
    refine xw_iload d_M_init_314 rfl ?_
    refine xw_icmp_le (tgt := 324) d_M_init_316 (by decide) (fun c1 => ?_) (fun c1 => ?_)
    · have hw := hw.1 c1
      refine xw_iload_n d_M_init_324 rfl rfl ?_
      exact p_M_init_325  (l0) (l1) (l2) (l3) (l4) (s0) (l3) h kc ks hw
    · have hw := hw.2 c1
      refine xw_iload d_M_init_319 rfl ?_
      refine xw_goto (tgt := 325) d_M_init_321 (by decide) ?_
      exact p_M_init_325  (l0) (l1) (l2) (l3) (l4) (s0) (l4) h kc ks hw
  · have hw := hw.2 c2
    refine xw_iconst (v := 1) d_M_init_309 (by decide) ?_
    refine xw_goto (tgt := 325) d_M_init_310 (by decide) ?_
    exact p_M_init_325  (l0) (l1) (l2) (l3) (l4) (s0) (1) h kc ks hw
set_option maxRecDepth 100000 in
def w_M_init_279 (Q : Option Value → xH → Prop) (l0 : Nat) (l1 : Int32) (l2 : Int32) (l3 : Int32) (s0 : Int32) (h : xH) (kc : Nat) (ks : Nat) : Prop := ((1 ≤ l2 → ((l2 ≤ s0 → w_M_init_302 Q (l0) (l1) (l2) (l3) (s0) (l2) h kc ks) ∧ (¬ l2 ≤ s0 → w_M_init_302 Q (l0) (l1) (l2) (l3) (s0) (s0) h kc ks))) ∧ (¬ 1 ≤ l2 → w_M_init_302 Q (l0) (l1) (l2) (l3) (s0) (1) h kc ks))
set_option maxRecDepth 100000 in
set_option maxHeartbeats 4000000 in
theorem p_M_init_279 {sc : List Int32} {Q : Option Value → xH → Prop} (l0 : Nat) (l1 : Int32) (l2 : Int32) (l3 : Int32) (s0 : Int32) (h : xH) (kc : Nat) (ks : Nat) (hw : w_M_init_279 Q l0 l1 l2 l3 s0 h kc ks) : xW sc m_M_init 1 kc ks 279 [some (.ref (l0)), some (.int (l1)), some (.int (l2)), some (.int (l3)), none, none, none, none] [.int (s0)] h Q := by
  unfold w_M_init_279 at hw
  refine xs_istore (lv' := [some (.ref (l0)), some (.int (l1)), some (.int (l2)), some (.int (l3)), some (.int (s0)), none, none, none]) d_M_init_279 rfl rfl ?_
  refine xw_iload_n d_M_init_281 rfl rfl ?_
  refine xw_iconst (v := 1) d_M_init_282 (by decide) ?_
  refine xw_icmp_ge (tgt := 290) d_M_init_283 (by decide) (fun c2 => ?_) (fun c2 => ?_)
  · have hw := hw.1 c2
    refine xw_iload_n d_M_init_290 rfl rfl ?_
    refine xw_iload d_M_init_291 rfl ?_
    refine xw_icmp_le (tgt := 301) d_M_init_293 (by decide) (fun c1 => ?_) (fun c1 => ?_)
    · have hw := hw.1 c1
      refine xw_iload_n d_M_init_301 rfl rfl ?_
      exact p_M_init_302  (l0) (l1) (l2) (l3) (s0) (l2) h kc ks hw
    · have hw := hw.2 c1
      refine xw_iload d_M_init_296 rfl ?_
      refine xw_goto (tgt := 302) d_M_init_298 (by decide) ?_
      exact p_M_init_302  (l0) (l1) (l2) (l3) (s0) (s0) h kc ks hw
  · have hw := hw.2 c2
    refine xw_iconst (v := 1) d_M_init_286 (by decide) ?_
    refine xw_goto (tgt := 302) d_M_init_287 (by decide) ?_
    exact p_M_init_302  (l0) (l1) (l2) (l3) (s0) (1) h kc ks hw
set_option maxRecDepth 100000 in
def w_M_init (Q : Option Value → xH → Prop) (this : Nat) (p1 : Int32) (p2 : Int32) (p3 : Int32) (h : xH) (kc : Nat) (ks : Nat) : Prop := ∃ k3 k4, kc = k3 + 1 ∧ ks = k4 + 8 ∧ ∀ b2 h1, b2 = h.1 + 1 → h1 = xn h (.inl (0, .inl (List.replicate 8 0))) → ∃ f5, h1.2 this = some (.inr (8, f5)) ∧ 1 < f5.length ∧ ∀ h6, h6 = xu h1 this (.inr (8, f5.set 1 (.ref (b2)))) → ∃ k9 k10, k3 = k9 + 1 ∧ k4 = k10 + 8 ∧ ∀ b8 h7, b8 = h6.1 + 1 → h7 = xn h6 (.inl (0, .inl (List.replicate 8 0))) → ∃ f11, h7.2 this = some (.inr (8, f11)) ∧ 2 < f11.length ∧ ∀ h12, h12 = xu h7 this (.inr (8, f11.set 2 (.ref (b8)))) → ∃ k15 k16, k9 = k15 + 1 ∧ k10 = k16 + 8 ∧ ∀ b14 h13, b14 = h12.1 + 1 → h13 = xn h12 (.inl (0, .inl (List.replicate 8 0))) → ∃ f17, h13.2 this = some (.inr (8, f17)) ∧ 3 < f17.length ∧ ∀ h18, h18 = xu h13 this (.inr (8, f17.set 3 (.ref (b14)))) → ∃ k21 k22, k15 = k21 + 1 ∧ k16 = k22 + 8 ∧ ∀ b20 h19, b20 = h18.1 + 1 → h19 = xn h18 (.inl (0, .inl (List.replicate 8 0))) → ∃ f23, h19.2 this = some (.inr (8, f23)) ∧ 4 < f23.length ∧ ∀ h24, h24 = xu h19 this (.inr (8, f23.set 4 (.ref (b20)))) → ∃ k27 k28, k21 = k27 + 1 ∧ k22 = k28 + 8 ∧ ∀ b26 h25, b26 = h24.1 + 1 → h25 = xn h24 (.inl (0, .inl (List.replicate 8 0))) → ∃ f29, h25.2 this = some (.inr (8, f29)) ∧ 5 < f29.length ∧ ∀ h30, h30 = xu h25 this (.inr (8, f29.set 5 (.ref (b26)))) → ∃ k33 k34, k27 = k33 + 1 ∧ k28 = k34 + 32 ∧ ∀ b32 h31, b32 = h30.1 + 1 → h31 = xn h30 (.inl (0, .inl (List.replicate 32 0))) → ∃ f35, h31.2 this = some (.inr (8, f35)) ∧ 6 < f35.length ∧ ∀ h36, h36 = xu h31 this (.inr (8, f35.set 6 (.ref (b32)))) → ∃ k39 k40, k33 = k39 + 1 ∧ k34 = k40 + 32 ∧ ∀ b38 h37, b38 = h36.1 + 1 → h37 = xn h36 (.inl (0, .inl (List.replicate 32 0))) → ∃ f41, h37.2 this = some (.inr (8, f41)) ∧ 7 < f41.length ∧ ∀ h42, h42 = xu h37 this (.inr (8, f41.set 7 (.ref (b38)))) → ∃ k45 k46, k39 = k45 + 1 ∧ k40 = k46 + 32 ∧ ∀ b44 h43, b44 = h42.1 + 1 → h43 = xn h42 (.inl (0, .inl (List.replicate 32 0))) → ∃ f47, h43.2 this = some (.inr (8, f47)) ∧ 8 < f47.length ∧ ∀ h48, h48 = xu h43 this (.inr (8, f47.set 8 (.ref (b44)))) → ∃ k51 k52, k45 = k51 + 1 ∧ k46 = k52 + 128 ∧ ∀ b50 h49, b50 = h48.1 + 1 → h49 = xn h48 (.inl (0, .inl (List.replicate 128 0))) → ∃ f53, h49.2 this = some (.inr (8, f53)) ∧ 9 < f53.length ∧ ∀ h54, h54 = xu h49 this (.inr (8, f53.set 9 (.ref (b50)))) → ∃ k57 k58, k51 = k57 + 1 ∧ k52 = k58 + 128 ∧ ∀ b56 h55, b56 = h54.1 + 1 → h55 = xn h54 (.inl (0, .inl (List.replicate 128 0))) → ∃ f59, h55.2 this = some (.inr (8, f59)) ∧ 10 < f59.length ∧ ∀ h60, h60 = xu h55 this (.inr (8, f59.set 10 (.ref (b56)))) → ∃ k63 k64, k57 = k63 + 1 ∧ k58 = k64 + 128 ∧ ∀ b62 h61, b62 = h60.1 + 1 → h61 = xn h60 (.inl (0, .inl (List.replicate 128 0))) → ∃ f65, h61.2 this = some (.inr (8, f65)) ∧ 11 < f65.length ∧ ∀ h66, h66 = xu h61 this (.inr (8, f65.set 11 (.ref (b62)))) → ∃ k69 k70, k63 = k69 + 1 ∧ k64 = k70 + 128 ∧ ∀ b68 h67, b68 = h66.1 + 1 → h67 = xn h66 (.inl (0, .inl (List.replicate 128 0))) → ∃ f71, h67.2 this = some (.inr (8, f71)) ∧ 12 < f71.length ∧ ∀ h72, h72 = xu h67 this (.inr (8, f71.set 12 (.ref (b68)))) → ∃ k75 k76, k69 = k75 + 1 ∧ k70 = k76 + 128 ∧ ∀ b74 h73, b74 = h72.1 + 1 → h73 = xn h72 (.inl (0, .inl (List.replicate 128 0))) → ∃ f77, h73.2 this = some (.inr (8, f77)) ∧ 13 < f77.length ∧ ∀ h78, h78 = xu h73 this (.inr (8, f77.set 13 (.ref (b74)))) → ∃ k81 k82, k75 = k81 + 1 ∧ k76 = k82 + 8 ∧ ∀ b80 h79, b80 = h78.1 + 1 → h79 = xn h78 (.inl (0, .inl (List.replicate 8 0))) → ∃ f83, h79.2 this = some (.inr (8, f83)) ∧ 15 < f83.length ∧ ∀ h84, h84 = xu h79 this (.inr (8, f83.set 15 (.ref (b80)))) → ∃ k87 k88, k81 = k87 + 1 ∧ k82 = k88 + 8 ∧ ∀ b86 h85, b86 = h84.1 + 1 → h85 = xn h84 (.inl (0, .inl (List.replicate 8 0))) → ∃ f89, h85.2 this = some (.inr (8, f89)) ∧ 16 < f89.length ∧ ∀ h90, h90 = xu h85 this (.inr (8, f89.set 16 (.ref (b86)))) → ∃ k93 k94, k87 = k93 + 1 ∧ k88 = k94 + 8 ∧ ∀ b92 h91, b92 = h90.1 + 1 → h91 = xn h90 (.inl (0, .inl (List.replicate 8 0))) → ∃ f95, h91.2 this = some (.inr (8, f95)) ∧ 17 < f95.length ∧ ∀ h96, h96 = xu h91 this (.inr (8, f95.set 17 (.ref (b92)))) → ∃ k99 k100, k93 = k99 + 1 ∧ k94 = k100 + 8 ∧ ∀ b98 h97, b98 = h96.1 + 1 → h97 = xn h96 (.inl (0, .inl (List.replicate 8 0))) → ∃ f101, h97.2 this = some (.inr (8, f101)) ∧ 18 < f101.length ∧ ∀ h102, h102 = xu h97 this (.inr (8, f101.set 18 (.ref (b98)))) → ∃ k105 k106, k99 = k105 + 1 ∧ k100 = k106 + 8 ∧ ∀ b104 h103, b104 = h102.1 + 1 → h103 = xn h102 (.inl (0, .inl (List.replicate 8 0))) → ∃ f107, h103.2 this = some (.inr (8, f107)) ∧ 19 < f107.length ∧ ∀ h108, h108 = xu h103 this (.inr (8, f107.set 19 (.ref (b104)))) → ∃ k111 k112, k105 = k111 + 1 ∧ k106 = k112 + 8 ∧ ∀ b110 h109, b110 = h108.1 + 1 → h109 = xn h108 (.inl (0, .inl (List.replicate 8 0))) → ∃ f113, h109.2 this = some (.inr (8, f113)) ∧ 20 < f113.length ∧ ∀ h114, h114 = xu h109 this (.inr (8, f113.set 20 (.ref (b110)))) → ∃ k117 k118, k111 = k117 + 1 ∧ k112 = k118 + 8 ∧ ∀ b116 h115, b116 = h114.1 + 1 → h115 = xn h114 (.inl (0, .inl (List.replicate 8 0))) → ∃ f119, h115.2 this = some (.inr (8, f119)) ∧ 21 < f119.length ∧ ∀ h120, h120 = xu h115 this (.inr (8, f119.set 21 (.ref (b116)))) → ∃ k123 k124, k117 = k123 + 1 ∧ k118 = k124 + 8 ∧ ∀ b122 h121, b122 = h120.1 + 1 → h121 = xn h120 (.inl (0, .inl (List.replicate 8 0))) → ∃ f125, h121.2 this = some (.inr (8, f125)) ∧ 22 < f125.length ∧ ∀ h126, h126 = xu h121 this (.inr (8, f125.set 22 (.ref (b122)))) → ∃ k129 k130, k123 = k129 + 1 ∧ k124 = k130 + 8 ∧ ∀ b128 h127, b128 = h126.1 + 1 → h127 = xn h126 (.inl (0, .inl (List.replicate 8 0))) → ∃ f131, h127.2 this = some (.inr (8, f131)) ∧ 23 < f131.length ∧ ∀ h132, h132 = xu h127 this (.inr (8, f131.set 23 (.ref (b128)))) → ∃ k135 k136, k129 = k135 + 1 ∧ k130 = k136 + 8 ∧ ∀ b134 h133, b134 = h132.1 + 1 → h133 = xn h132 (.inl (0, .inl (List.replicate 8 0))) → ∃ f137, h133.2 this = some (.inr (8, f137)) ∧ 24 < f137.length ∧ ∀ h138, h138 = xu h133 this (.inr (8, f137.set 24 (.ref (b134)))) → ∃ k141 k142, k135 = k141 + 1 ∧ k136 = k142 + 8 ∧ ∀ b140 h139, b140 = h138.1 + 1 → h139 = xn h138 (.inl (0, .inl (List.replicate 8 0))) → ∃ f143, h139.2 this = some (.inr (8, f143)) ∧ 25 < f143.length ∧ ∀ h144, h144 = xu h139 this (.inr (8, f143.set 25 (.ref (b140)))) → ∃ k147 k148, k141 = k147 + 1 ∧ k142 = k148 + 8 ∧ ∀ b146 h145, b146 = h144.1 + 1 → h145 = xn h144 (.inl (0, .inl (List.replicate 8 0))) → ∃ f149, h145.2 this = some (.inr (8, f149)) ∧ 26 < f149.length ∧ ∀ h150, h150 = xu h145 this (.inr (8, f149.set 26 (.ref (b146)))) → ∃ k153 k154, k147 = k153 + 1 ∧ k148 = k154 + 8 ∧ ∀ b152 h151, b152 = h150.1 + 1 → h151 = xn h150 (.inl (0, .inl (List.replicate 8 0))) → ∃ f155, h151.2 this = some (.inr (8, f155)) ∧ 27 < f155.length ∧ ∀ h156, h156 = xu h151 this (.inr (8, f155.set 27 (.ref (b152)))) → ∃ k159 k160, k153 = k159 + 1 ∧ k154 = k160 + 32 ∧ ∀ b158 h157, b158 = h156.1 + 1 → h157 = xn h156 (.inl (0, .inl (List.replicate 32 0))) → ∃ f161, h157.2 this = some (.inr (8, f161)) ∧ 28 < f161.length ∧ ∀ h162, h162 = xu h157 this (.inr (8, f161.set 28 (.ref (b158)))) → ∃ k165 k166, k159 = k165 + 1 ∧ k160 = k166 + 32 ∧ ∀ b164 h163, b164 = h162.1 + 1 → h163 = xn h162 (.inl (0, .inl (List.replicate 32 0))) → ∃ f167, h163.2 this = some (.inr (8, f167)) ∧ 29 < f167.length ∧ ∀ h168, h168 = xu h163 this (.inr (8, f167.set 29 (.ref (b164)))) → ∃ k171 k172, k165 = k171 + 1 ∧ k166 = k172 + 32 ∧ ∀ b170 h169, b170 = h168.1 + 1 → h169 = xn h168 (.inl (0, .inl (List.replicate 32 0))) → ∃ f173, h169.2 this = some (.inr (8, f173)) ∧ 30 < f173.length ∧ ∀ h174, h174 = xu h169 this (.inr (8, f173.set 30 (.ref (b170)))) → ∃ k177 k178, k171 = k177 + 1 ∧ k172 = k178 + 6360 ∧ ∀ b176 h175, b176 = h174.1 + 1 → h175 = xn h174 (.inl (0, .inl (List.replicate 6360 0))) → ∃ f179, h175.2 this = some (.inr (8, f179)) ∧ 32 < f179.length ∧ ∀ h180, h180 = xu h175 this (.inr (8, f179.set 32 (.ref (b176)))) → ∃ k183 k184, k177 = k183 + 1 ∧ k178 = k184 + 53 ∧ ∀ b182 h181, b182 = h180.1 + 1 → h181 = xn h180 (.inl (0, .inl (List.replicate 53 0))) → ∃ f185, h181.2 this = some (.inr (8, f185)) ∧ 35 < f185.length ∧ ∀ h186, h186 = xu h181 this (.inr (8, f185.set 35 (.ref (b182)))) → ((1 ≤ p1 → ((p1 ≤ 8 → w_M_init_279 Q (this) (p1) (p2) (p3) (p1) h186 k183 k184) ∧ (¬ p1 ≤ 8 → w_M_init_279 Q (this) (p1) (p2) (p3) (8) h186 k183 k184))) ∧ (¬ 1 ≤ p1 → w_M_init_279 Q (this) (p1) (p2) (p3) (1) h186 k183 k184))
set_option maxRecDepth 100000 in
set_option maxHeartbeats 4000000 in
theorem x_M_init {sc : List Int32} {Q : Option Value → xH → Prop} {this : Nat} {p1 : Int32} {p2 : Int32} {p3 : Int32} {h : xH} {kc : Nat} {ks : Nat} (hw : w_M_init Q this p1 p2 p3 h kc ks) : xMet sc m_M_init 1 kc ks [.ref (this), .int (p1), .int (p2), .int (p3)] h Q := by
  unfold w_M_init at hw
  refine xMet.of2 cw_M_init rfl rfl ?_
  show xW sc m_M_init 1 kc ks 0 [some (.ref (this)), some (.int (p1)), some (.int (p2)), some (.int (p3)), none, none, none, none] [] h Q
  refine xw_aload_n d_M_init_0 rfl rfl ?_
  refine xw_obj oi_M_1 d_M_init_1 (Nat.le_of_ble_eq_true rfl) (Nat.le_of_ble_eq_true rfl) ?_
  refine xw_aload_n d_M_init_4 rfl rfl ?_
  refine xw_bipush (v := 8) d_M_init_5 (by decide) ?_
  obtain ⟨k3, k4, hA, hB, hw⟩ := hw
  rw [hA, hB]
  refine xw_newarray (t := 0) (N := 8) rfl aI d_M_init_7 (by decide) (by decide) (by decide) ?_
  generalize hb : h.1 + 1 = b2
  generalize hh : xn h (.inl (0, .inl (List.replicate 8 0))) = h1
  have hw := hw b2 h1 hb.symm hh.symm
  obtain ⟨f5, hA, hB, hw⟩ := hw
  refine xw_putrF fs_M_9 rfl (Or.inr ⟨_, rfl⟩) d_M_init_9 hA hB ?_
  generalize hh : xu h1 this (.inr (8, f5.set 1 (.ref (b2)))) = h6
  have hw := hw h6 hh.symm
  refine xw_aload_n d_M_init_12 rfl rfl ?_
  refine xw_bipush (v := 8) d_M_init_13 (by decide) ?_
  obtain ⟨k9, k10, hA, hB, hw⟩ := hw
  rw [hA, hB]
  refine xw_newarray (t := 0) (N := 8) rfl aI d_M_init_15 (by decide) (by decide) (by decide) ?_
  generalize hb : h6.1 + 1 = b8
  generalize hh : xn h6 (.inl (0, .inl (List.replicate 8 0))) = h7
  have hw := hw b8 h7 hb.symm hh.symm
  obtain ⟨f11, hA, hB, hw⟩ := hw
  refine xw_putrF fs_M_13 rfl (Or.inr ⟨_, rfl⟩) d_M_init_17 hA hB ?_
  generalize hh : xu h7 this (.inr (8, f11.set 2 (.ref (b8)))) = h12
  have hw := hw h12 hh.symm
  refine xw_aload_n d_M_init_20 rfl rfl ?_
  refine xw_bipush (v := 8) d_M_init_21 (by decide) ?_
  obtain ⟨k15, k16, hA, hB, hw⟩ := hw
  rw [hA, hB]
  refine xw_newarray (t := 0) (N := 8) rfl aI d_M_init_23 (by decide) (by decide) (by decide) ?_
  generalize hb : h12.1 + 1 = b14
  generalize hh : xn h12 (.inl (0, .inl (List.replicate 8 0))) = h13
  have hw := hw b14 h13 hb.symm hh.symm
  obtain ⟨f17, hA, hB, hw⟩ := hw
  refine xw_putrF fs_M_16 rfl (Or.inr ⟨_, rfl⟩) d_M_init_25 hA hB ?_
  generalize hh : xu h13 this (.inr (8, f17.set 3 (.ref (b14)))) = h18
  have hw := hw h18 hh.symm
  refine xw_aload_n d_M_init_28 rfl rfl ?_
  refine xw_bipush (v := 8) d_M_init_29 (by decide) ?_
  obtain ⟨k21, k22, hA, hB, hw⟩ := hw
  rw [hA, hB]
  refine xw_newarray (t := 0) (N := 8) rfl aI d_M_init_31 (by decide) (by decide) (by decide) ?_
  generalize hb : h18.1 + 1 = b20
  generalize hh : xn h18 (.inl (0, .inl (List.replicate 8 0))) = h19
  have hw := hw b20 h19 hb.symm hh.symm
  obtain ⟨f23, hA, hB, hw⟩ := hw
  refine xw_putrF fs_M_19 rfl (Or.inr ⟨_, rfl⟩) d_M_init_33 hA hB ?_
  generalize hh : xu h19 this (.inr (8, f23.set 4 (.ref (b20)))) = h24
  have hw := hw h24 hh.symm
  refine xw_aload_n d_M_init_36 rfl rfl ?_
  refine xw_bipush (v := 8) d_M_init_37 (by decide) ?_
  obtain ⟨k27, k28, hA, hB, hw⟩ := hw
  rw [hA, hB]
  refine xw_newarray (t := 0) (N := 8) rfl aI d_M_init_39 (by decide) (by decide) (by decide) ?_
  generalize hb : h24.1 + 1 = b26
  generalize hh : xn h24 (.inl (0, .inl (List.replicate 8 0))) = h25
  have hw := hw b26 h25 hb.symm hh.symm
  obtain ⟨f29, hA, hB, hw⟩ := hw
  refine xw_putrF fs_M_22 rfl (Or.inr ⟨_, rfl⟩) d_M_init_41 hA hB ?_
  generalize hh : xu h25 this (.inr (8, f29.set 5 (.ref (b26)))) = h30
  have hw := hw h30 hh.symm
  refine xw_aload_n d_M_init_44 rfl rfl ?_
  refine xw_bipush (v := 32) d_M_init_45 (by decide) ?_
  obtain ⟨k33, k34, hA, hB, hw⟩ := hw
  rw [hA, hB]
  refine xw_newarray (t := 0) (N := 32) rfl aI d_M_init_47 (by decide) (by decide) (by decide) ?_
  generalize hb : h30.1 + 1 = b32
  generalize hh : xn h30 (.inl (0, .inl (List.replicate 32 0))) = h31
  have hw := hw b32 h31 hb.symm hh.symm
  obtain ⟨f35, hA, hB, hw⟩ := hw
  refine xw_putrF fs_M_25 rfl (Or.inr ⟨_, rfl⟩) d_M_init_49 hA hB ?_
  generalize hh : xu h31 this (.inr (8, f35.set 6 (.ref (b32)))) = h36
  have hw := hw h36 hh.symm
  refine xw_aload_n d_M_init_52 rfl rfl ?_
  refine xw_bipush (v := 32) d_M_init_53 (by decide) ?_
  obtain ⟨k39, k40, hA, hB, hw⟩ := hw
  rw [hA, hB]
  refine xw_newarray (t := 0) (N := 32) rfl aI d_M_init_55 (by decide) (by decide) (by decide) ?_
  generalize hb : h36.1 + 1 = b38
  generalize hh : xn h36 (.inl (0, .inl (List.replicate 32 0))) = h37
  have hw := hw b38 h37 hb.symm hh.symm
  obtain ⟨f41, hA, hB, hw⟩ := hw
  refine xw_putrF fs_M_28 rfl (Or.inr ⟨_, rfl⟩) d_M_init_57 hA hB ?_
  generalize hh : xu h37 this (.inr (8, f41.set 7 (.ref (b38)))) = h42
  have hw := hw h42 hh.symm
  refine xw_aload_n d_M_init_60 rfl rfl ?_
  refine xw_bipush (v := 32) d_M_init_61 (by decide) ?_
  obtain ⟨k45, k46, hA, hB, hw⟩ := hw
  rw [hA, hB]
  refine xw_newarray (t := 0) (N := 32) rfl aI d_M_init_63 (by decide) (by decide) (by decide) ?_
  generalize hb : h42.1 + 1 = b44
  generalize hh : xn h42 (.inl (0, .inl (List.replicate 32 0))) = h43
  have hw := hw b44 h43 hb.symm hh.symm
  obtain ⟨f47, hA, hB, hw⟩ := hw
  refine xw_putrF fs_M_31 rfl (Or.inr ⟨_, rfl⟩) d_M_init_65 hA hB ?_
  generalize hh : xu h43 this (.inr (8, f47.set 8 (.ref (b44)))) = h48
  have hw := hw h48 hh.symm
  refine xw_aload_n d_M_init_68 rfl rfl ?_
  refine xw_sipush (v := 128) d_M_init_69 (by decide) ?_
  obtain ⟨k51, k52, hA, hB, hw⟩ := hw
  rw [hA, hB]
  refine xw_newarray (t := 0) (N := 128) rfl aI d_M_init_72 (by decide) (by decide) (by decide) ?_
  generalize hb : h48.1 + 1 = b50
  generalize hh : xn h48 (.inl (0, .inl (List.replicate 128 0))) = h49
  have hw := hw b50 h49 hb.symm hh.symm
  obtain ⟨f53, hA, hB, hw⟩ := hw
  refine xw_putrF fs_M_34 rfl (Or.inr ⟨_, rfl⟩) d_M_init_74 hA hB ?_
  generalize hh : xu h49 this (.inr (8, f53.set 9 (.ref (b50)))) = h54
  have hw := hw h54 hh.symm
  refine xw_aload_n d_M_init_77 rfl rfl ?_
  refine xw_sipush (v := 128) d_M_init_78 (by decide) ?_
  obtain ⟨k57, k58, hA, hB, hw⟩ := hw
  rw [hA, hB]
  refine xw_newarray (t := 0) (N := 128) rfl aI d_M_init_81 (by decide) (by decide) (by decide) ?_
  generalize hb : h54.1 + 1 = b56
  generalize hh : xn h54 (.inl (0, .inl (List.replicate 128 0))) = h55
  have hw := hw b56 h55 hb.symm hh.symm
  obtain ⟨f59, hA, hB, hw⟩ := hw
  refine xw_putrF fs_M_37 rfl (Or.inr ⟨_, rfl⟩) d_M_init_83 hA hB ?_
  generalize hh : xu h55 this (.inr (8, f59.set 10 (.ref (b56)))) = h60
  have hw := hw h60 hh.symm
  refine xw_aload_n d_M_init_86 rfl rfl ?_
  refine xw_sipush (v := 128) d_M_init_87 (by decide) ?_
  obtain ⟨k63, k64, hA, hB, hw⟩ := hw
  rw [hA, hB]
  refine xw_newarray (t := 0) (N := 128) rfl aI d_M_init_90 (by decide) (by decide) (by decide) ?_
  generalize hb : h60.1 + 1 = b62
  generalize hh : xn h60 (.inl (0, .inl (List.replicate 128 0))) = h61
  have hw := hw b62 h61 hb.symm hh.symm
  obtain ⟨f65, hA, hB, hw⟩ := hw
  refine xw_putrF fs_M_40 rfl (Or.inr ⟨_, rfl⟩) d_M_init_92 hA hB ?_
  generalize hh : xu h61 this (.inr (8, f65.set 11 (.ref (b62)))) = h66
  have hw := hw h66 hh.symm
  refine xw_aload_n d_M_init_95 rfl rfl ?_
  refine xw_sipush (v := 128) d_M_init_96 (by decide) ?_
  obtain ⟨k69, k70, hA, hB, hw⟩ := hw
  rw [hA, hB]
  refine xw_newarray (t := 0) (N := 128) rfl aI d_M_init_99 (by decide) (by decide) (by decide) ?_
  generalize hb : h66.1 + 1 = b68
  generalize hh : xn h66 (.inl (0, .inl (List.replicate 128 0))) = h67
  have hw := hw b68 h67 hb.symm hh.symm
  obtain ⟨f71, hA, hB, hw⟩ := hw
  refine xw_putrF fs_M_43 rfl (Or.inr ⟨_, rfl⟩) d_M_init_101 hA hB ?_
  generalize hh : xu h67 this (.inr (8, f71.set 12 (.ref (b68)))) = h72
  have hw := hw h72 hh.symm
  refine xw_aload_n d_M_init_104 rfl rfl ?_
  refine xw_sipush (v := 128) d_M_init_105 (by decide) ?_
  obtain ⟨k75, k76, hA, hB, hw⟩ := hw
  rw [hA, hB]
  refine xw_newarray (t := 0) (N := 128) rfl aI d_M_init_108 (by decide) (by decide) (by decide) ?_
  generalize hb : h72.1 + 1 = b74
  generalize hh : xn h72 (.inl (0, .inl (List.replicate 128 0))) = h73
  have hw := hw b74 h73 hb.symm hh.symm
  obtain ⟨f77, hA, hB, hw⟩ := hw
  refine xw_putrF fs_M_46 rfl (Or.inr ⟨_, rfl⟩) d_M_init_110 hA hB ?_
  generalize hh : xu h73 this (.inr (8, f77.set 13 (.ref (b74)))) = h78
  have hw := hw h78 hh.symm
  refine xw_aload_n d_M_init_113 rfl rfl ?_
  refine xw_bipush (v := 8) d_M_init_114 (by decide) ?_
  obtain ⟨k81, k82, hA, hB, hw⟩ := hw
  rw [hA, hB]
  refine xw_newarray (t := 0) (N := 8) rfl aI d_M_init_116 (by decide) (by decide) (by decide) ?_
  generalize hb : h78.1 + 1 = b80
  generalize hh : xn h78 (.inl (0, .inl (List.replicate 8 0))) = h79
  have hw := hw b80 h79 hb.symm hh.symm
  obtain ⟨f83, hA, hB, hw⟩ := hw
  refine xw_putrF fs_M_49 rfl (Or.inr ⟨_, rfl⟩) d_M_init_118 hA hB ?_
  generalize hh : xu h79 this (.inr (8, f83.set 15 (.ref (b80)))) = h84
  have hw := hw h84 hh.symm
  refine xw_aload_n d_M_init_121 rfl rfl ?_
  refine xw_bipush (v := 8) d_M_init_122 (by decide) ?_
  obtain ⟨k87, k88, hA, hB, hw⟩ := hw
  rw [hA, hB]
  refine xw_newarray (t := 0) (N := 8) rfl aI d_M_init_124 (by decide) (by decide) (by decide) ?_
  generalize hb : h84.1 + 1 = b86
  generalize hh : xn h84 (.inl (0, .inl (List.replicate 8 0))) = h85
  have hw := hw b86 h85 hb.symm hh.symm
  obtain ⟨f89, hA, hB, hw⟩ := hw
  refine xw_putrF fs_M_52 rfl (Or.inr ⟨_, rfl⟩) d_M_init_126 hA hB ?_
  generalize hh : xu h85 this (.inr (8, f89.set 16 (.ref (b86)))) = h90
  have hw := hw h90 hh.symm
  refine xw_aload_n d_M_init_129 rfl rfl ?_
  refine xw_bipush (v := 8) d_M_init_130 (by decide) ?_
  obtain ⟨k93, k94, hA, hB, hw⟩ := hw
  rw [hA, hB]
  refine xw_newarray (t := 0) (N := 8) rfl aI d_M_init_132 (by decide) (by decide) (by decide) ?_
  generalize hb : h90.1 + 1 = b92
  generalize hh : xn h90 (.inl (0, .inl (List.replicate 8 0))) = h91
  have hw := hw b92 h91 hb.symm hh.symm
  obtain ⟨f95, hA, hB, hw⟩ := hw
  refine xw_putrF fs_M_55 rfl (Or.inr ⟨_, rfl⟩) d_M_init_134 hA hB ?_
  generalize hh : xu h91 this (.inr (8, f95.set 17 (.ref (b92)))) = h96
  have hw := hw h96 hh.symm
  refine xw_aload_n d_M_init_137 rfl rfl ?_
  refine xw_bipush (v := 8) d_M_init_138 (by decide) ?_
  obtain ⟨k99, k100, hA, hB, hw⟩ := hw
  rw [hA, hB]
  refine xw_newarray (t := 0) (N := 8) rfl aI d_M_init_140 (by decide) (by decide) (by decide) ?_
  generalize hb : h96.1 + 1 = b98
  generalize hh : xn h96 (.inl (0, .inl (List.replicate 8 0))) = h97
  have hw := hw b98 h97 hb.symm hh.symm
  obtain ⟨f101, hA, hB, hw⟩ := hw
  refine xw_putrF fs_M_58 rfl (Or.inr ⟨_, rfl⟩) d_M_init_142 hA hB ?_
  generalize hh : xu h97 this (.inr (8, f101.set 18 (.ref (b98)))) = h102
  have hw := hw h102 hh.symm
  refine xw_aload_n d_M_init_145 rfl rfl ?_
  refine xw_bipush (v := 8) d_M_init_146 (by decide) ?_
  obtain ⟨k105, k106, hA, hB, hw⟩ := hw
  rw [hA, hB]
  refine xw_newarray (t := 0) (N := 8) rfl aI d_M_init_148 (by decide) (by decide) (by decide) ?_
  generalize hb : h102.1 + 1 = b104
  generalize hh : xn h102 (.inl (0, .inl (List.replicate 8 0))) = h103
  have hw := hw b104 h103 hb.symm hh.symm
  obtain ⟨f107, hA, hB, hw⟩ := hw
  refine xw_putrF fs_M_61 rfl (Or.inr ⟨_, rfl⟩) d_M_init_150 hA hB ?_
  generalize hh : xu h103 this (.inr (8, f107.set 19 (.ref (b104)))) = h108
  have hw := hw h108 hh.symm
  refine xw_aload_n d_M_init_153 rfl rfl ?_
  refine xw_bipush (v := 8) d_M_init_154 (by decide) ?_
  obtain ⟨k111, k112, hA, hB, hw⟩ := hw
  rw [hA, hB]
  refine xw_newarray (t := 0) (N := 8) rfl aI d_M_init_156 (by decide) (by decide) (by decide) ?_
  generalize hb : h108.1 + 1 = b110
  generalize hh : xn h108 (.inl (0, .inl (List.replicate 8 0))) = h109
  have hw := hw b110 h109 hb.symm hh.symm
  obtain ⟨f113, hA, hB, hw⟩ := hw
  refine xw_putrF fs_M_64 rfl (Or.inr ⟨_, rfl⟩) d_M_init_158 hA hB ?_
  generalize hh : xu h109 this (.inr (8, f113.set 20 (.ref (b110)))) = h114
  have hw := hw h114 hh.symm
  refine xw_aload_n d_M_init_161 rfl rfl ?_
  refine xw_bipush (v := 8) d_M_init_162 (by decide) ?_
  obtain ⟨k117, k118, hA, hB, hw⟩ := hw
  rw [hA, hB]
  refine xw_newarray (t := 0) (N := 8) rfl aI d_M_init_164 (by decide) (by decide) (by decide) ?_
  generalize hb : h114.1 + 1 = b116
  generalize hh : xn h114 (.inl (0, .inl (List.replicate 8 0))) = h115
  have hw := hw b116 h115 hb.symm hh.symm
  obtain ⟨f119, hA, hB, hw⟩ := hw
  refine xw_putrF fs_M_67 rfl (Or.inr ⟨_, rfl⟩) d_M_init_166 hA hB ?_
  generalize hh : xu h115 this (.inr (8, f119.set 21 (.ref (b116)))) = h120
  have hw := hw h120 hh.symm
  refine xw_aload_n d_M_init_169 rfl rfl ?_
  refine xw_bipush (v := 8) d_M_init_170 (by decide) ?_
  obtain ⟨k123, k124, hA, hB, hw⟩ := hw
  rw [hA, hB]
  refine xw_newarray (t := 0) (N := 8) rfl aI d_M_init_172 (by decide) (by decide) (by decide) ?_
  generalize hb : h120.1 + 1 = b122
  generalize hh : xn h120 (.inl (0, .inl (List.replicate 8 0))) = h121
  have hw := hw b122 h121 hb.symm hh.symm
  obtain ⟨f125, hA, hB, hw⟩ := hw
  refine xw_putrF fs_M_70 rfl (Or.inr ⟨_, rfl⟩) d_M_init_174 hA hB ?_
  generalize hh : xu h121 this (.inr (8, f125.set 22 (.ref (b122)))) = h126
  have hw := hw h126 hh.symm
  refine xw_aload_n d_M_init_177 rfl rfl ?_
  refine xw_bipush (v := 8) d_M_init_178 (by decide) ?_
  obtain ⟨k129, k130, hA, hB, hw⟩ := hw
  rw [hA, hB]
  refine xw_newarray (t := 0) (N := 8) rfl aI d_M_init_180 (by decide) (by decide) (by decide) ?_
  generalize hb : h126.1 + 1 = b128
  generalize hh : xn h126 (.inl (0, .inl (List.replicate 8 0))) = h127
  have hw := hw b128 h127 hb.symm hh.symm
  obtain ⟨f131, hA, hB, hw⟩ := hw
  refine xw_putrF fs_M_73 rfl (Or.inr ⟨_, rfl⟩) d_M_init_182 hA hB ?_
  generalize hh : xu h127 this (.inr (8, f131.set 23 (.ref (b128)))) = h132
  have hw := hw h132 hh.symm
  refine xw_aload_n d_M_init_185 rfl rfl ?_
  refine xw_bipush (v := 8) d_M_init_186 (by decide) ?_
  obtain ⟨k135, k136, hA, hB, hw⟩ := hw
  rw [hA, hB]
  refine xw_newarray (t := 0) (N := 8) rfl aI d_M_init_188 (by decide) (by decide) (by decide) ?_
  generalize hb : h132.1 + 1 = b134
  generalize hh : xn h132 (.inl (0, .inl (List.replicate 8 0))) = h133
  have hw := hw b134 h133 hb.symm hh.symm
  obtain ⟨f137, hA, hB, hw⟩ := hw
  refine xw_putrF fs_M_76 rfl (Or.inr ⟨_, rfl⟩) d_M_init_190 hA hB ?_
  generalize hh : xu h133 this (.inr (8, f137.set 24 (.ref (b134)))) = h138
  have hw := hw h138 hh.symm
  refine xw_aload_n d_M_init_193 rfl rfl ?_
  refine xw_bipush (v := 8) d_M_init_194 (by decide) ?_
  obtain ⟨k141, k142, hA, hB, hw⟩ := hw
  rw [hA, hB]
  refine xw_newarray (t := 0) (N := 8) rfl aI d_M_init_196 (by decide) (by decide) (by decide) ?_
  generalize hb : h138.1 + 1 = b140
  generalize hh : xn h138 (.inl (0, .inl (List.replicate 8 0))) = h139
  have hw := hw b140 h139 hb.symm hh.symm
  obtain ⟨f143, hA, hB, hw⟩ := hw
  refine xw_putrF fs_M_79 rfl (Or.inr ⟨_, rfl⟩) d_M_init_198 hA hB ?_
  generalize hh : xu h139 this (.inr (8, f143.set 25 (.ref (b140)))) = h144
  have hw := hw h144 hh.symm
  refine xw_aload_n d_M_init_201 rfl rfl ?_
  refine xw_bipush (v := 8) d_M_init_202 (by decide) ?_
  obtain ⟨k147, k148, hA, hB, hw⟩ := hw
  rw [hA, hB]
  refine xw_newarray (t := 0) (N := 8) rfl aI d_M_init_204 (by decide) (by decide) (by decide) ?_
  generalize hb : h144.1 + 1 = b146
  generalize hh : xn h144 (.inl (0, .inl (List.replicate 8 0))) = h145
  have hw := hw b146 h145 hb.symm hh.symm
  obtain ⟨f149, hA, hB, hw⟩ := hw
  refine xw_putrF fs_M_82 rfl (Or.inr ⟨_, rfl⟩) d_M_init_206 hA hB ?_
  generalize hh : xu h145 this (.inr (8, f149.set 26 (.ref (b146)))) = h150
  have hw := hw h150 hh.symm
  refine xw_aload_n d_M_init_209 rfl rfl ?_
  refine xw_bipush (v := 8) d_M_init_210 (by decide) ?_
  obtain ⟨k153, k154, hA, hB, hw⟩ := hw
  rw [hA, hB]
  refine xw_newarray (t := 0) (N := 8) rfl aI d_M_init_212 (by decide) (by decide) (by decide) ?_
  generalize hb : h150.1 + 1 = b152
  generalize hh : xn h150 (.inl (0, .inl (List.replicate 8 0))) = h151
  have hw := hw b152 h151 hb.symm hh.symm
  obtain ⟨f155, hA, hB, hw⟩ := hw
  refine xw_putrF fs_M_85 rfl (Or.inr ⟨_, rfl⟩) d_M_init_214 hA hB ?_
  generalize hh : xu h151 this (.inr (8, f155.set 27 (.ref (b152)))) = h156
  have hw := hw h156 hh.symm
  refine xw_aload_n d_M_init_217 rfl rfl ?_
  refine xw_bipush (v := 32) d_M_init_218 (by decide) ?_
  obtain ⟨k159, k160, hA, hB, hw⟩ := hw
  rw [hA, hB]
  refine xw_newarray (t := 0) (N := 32) rfl aI d_M_init_220 (by decide) (by decide) (by decide) ?_
  generalize hb : h156.1 + 1 = b158
  generalize hh : xn h156 (.inl (0, .inl (List.replicate 32 0))) = h157
  have hw := hw b158 h157 hb.symm hh.symm
  obtain ⟨f161, hA, hB, hw⟩ := hw
  refine xw_putrF fs_M_88 rfl (Or.inr ⟨_, rfl⟩) d_M_init_222 hA hB ?_
  generalize hh : xu h157 this (.inr (8, f161.set 28 (.ref (b158)))) = h162
  have hw := hw h162 hh.symm
  refine xw_aload_n d_M_init_225 rfl rfl ?_
  refine xw_bipush (v := 32) d_M_init_226 (by decide) ?_
  obtain ⟨k165, k166, hA, hB, hw⟩ := hw
  rw [hA, hB]
  refine xw_newarray (t := 0) (N := 32) rfl aI d_M_init_228 (by decide) (by decide) (by decide) ?_
  generalize hb : h162.1 + 1 = b164
  generalize hh : xn h162 (.inl (0, .inl (List.replicate 32 0))) = h163
  have hw := hw b164 h163 hb.symm hh.symm
  obtain ⟨f167, hA, hB, hw⟩ := hw
  refine xw_putrF fs_M_91 rfl (Or.inr ⟨_, rfl⟩) d_M_init_230 hA hB ?_
  generalize hh : xu h163 this (.inr (8, f167.set 29 (.ref (b164)))) = h168
  have hw := hw h168 hh.symm
  refine xw_aload_n d_M_init_233 rfl rfl ?_
  refine xw_bipush (v := 32) d_M_init_234 (by decide) ?_
  obtain ⟨k171, k172, hA, hB, hw⟩ := hw
  rw [hA, hB]
  refine xw_newarray (t := 0) (N := 32) rfl aI d_M_init_236 (by decide) (by decide) (by decide) ?_
  generalize hb : h168.1 + 1 = b170
  generalize hh : xn h168 (.inl (0, .inl (List.replicate 32 0))) = h169
  have hw := hw b170 h169 hb.symm hh.symm
  obtain ⟨f173, hA, hB, hw⟩ := hw
  refine xw_putrF fs_M_94 rfl (Or.inr ⟨_, rfl⟩) d_M_init_238 hA hB ?_
  generalize hh : xu h169 this (.inr (8, f173.set 30 (.ref (b170)))) = h174
  have hw := hw h174 hh.symm
  refine xw_aload_n d_M_init_241 rfl rfl ?_
  refine xw_sipush (v := 6360) d_M_init_242 (by decide) ?_
  obtain ⟨k177, k178, hA, hB, hw⟩ := hw
  rw [hA, hB]
  refine xw_newarray (t := 0) (N := 6360) rfl aI d_M_init_245 (by decide) (by decide) (by decide) ?_
  generalize hb : h174.1 + 1 = b176
  generalize hh : xn h174 (.inl (0, .inl (List.replicate 6360 0))) = h175
  have hw := hw b176 h175 hb.symm hh.symm
  obtain ⟨f179, hA, hB, hw⟩ := hw
  refine xw_putrF fs_M_97 rfl (Or.inr ⟨_, rfl⟩) d_M_init_247 hA hB ?_
  generalize hh : xu h175 this (.inr (8, f179.set 32 (.ref (b176)))) = h180
  have hw := hw h180 hh.symm
  refine xw_aload_n d_M_init_250 rfl rfl ?_
  refine xw_bipush (v := 53) d_M_init_251 (by decide) ?_
  obtain ⟨k183, k184, hA, hB, hw⟩ := hw
  rw [hA, hB]
  refine xw_newarray (t := 0) (N := 53) rfl aI d_M_init_253 (by decide) (by decide) (by decide) ?_
  generalize hb : h180.1 + 1 = b182
  generalize hh : xn h180 (.inl (0, .inl (List.replicate 53 0))) = h181
  have hw := hw b182 h181 hb.symm hh.symm
  obtain ⟨f185, hA, hB, hw⟩ := hw
  refine xw_putrF fs_M_100 rfl (Or.inr ⟨_, rfl⟩) d_M_init_255 hA hB ?_
  generalize hh : xu h181 this (.inr (8, f185.set 35 (.ref (b182)))) = h186
  have hw := hw h186 hh.symm
  refine xw_iload_n d_M_init_258 rfl rfl ?_
  refine xw_iconst (v := 1) d_M_init_259 (by decide) ?_
  refine xw_icmp_ge (tgt := 267) d_M_init_260 (by decide) (fun c188 => ?_) (fun c188 => ?_)
  · have hw := hw.1 c188
    refine xw_iload_n d_M_init_267 rfl rfl ?_
    refine xw_bipush (v := 8) d_M_init_268 (by decide) ?_
    refine xw_icmp_le (tgt := 278) d_M_init_270 (by decide) (fun c187 => ?_) (fun c187 => ?_)
    · have hw := hw.1 c187
      refine xw_iload_n d_M_init_278 rfl rfl ?_
      exact p_M_init_279  (this) (p1) (p2) (p3) (p1) h186 k183 k184 hw
    · have hw := hw.2 c187
      refine xw_bipush (v := 8) d_M_init_273 (by decide) ?_
      refine xw_goto (tgt := 279) d_M_init_275 (by decide) ?_
      exact p_M_init_279  (this) (p1) (p2) (p3) (8) h186 k183 k184 hw
  · have hw := hw.2 c188
    refine xw_iconst (v := 1) d_M_init_263 (by decide) ?_
    refine xw_goto (tgt := 279) d_M_init_264 (by decide) ?_
    exact p_M_init_279  (this) (p1) (p2) (p3) (1) h186 k183 k184 hw
set_option maxRecDepth 100000 in
def w_M_in (Q : Option Value → xH → Prop) (p1 : Int32) (p2 : Int32) (p3 : Int32) (h : xH) : Prop := ((p1 < p2 → (narrow .boolean (.int 0) = .int 0 ∧ Q (some (.int 0)) h)) ∧ (¬ p1 < p2 → ((p3 < p1 → (narrow .boolean (.int 0) = .int 0 ∧ Q (some (.int 0)) h)) ∧ (¬ p3 < p1 → (narrow .boolean (.int 1) = .int 1 ∧ Q (some (.int 1)) h)))))
set_option maxRecDepth 100000 in
set_option maxHeartbeats 4000000 in
theorem x_M_in {sc : List Int32} {Q : Option Value → xH → Prop} {p1 : Int32} {p2 : Int32} {p3 : Int32} {h : xH} (hw : w_M_in Q p1 p2 p3 h) : xMet sc m_M_in 0 0 0 [.int (p1), .int (p2), .int (p3)] h Q := by
  unfold w_M_in at hw
  refine xMet.of2 cw_M_in rfl rfl ?_
  show xW sc m_M_in 0 0 0 0 [some (.int (p1)), some (.int (p2)), some (.int (p3))] [] h Q
  refine xw_iload_n d_M_in_0 rfl rfl ?_
  refine xw_iload_n d_M_in_1 rfl rfl ?_
  refine xw_icmp_lt (tgt := 14) d_M_in_2 (by decide) (fun c2 => ?_) (fun c2 => ?_)
  · have hw := hw.1 c2
    refine xw_iconst (v := 0) d_M_in_14 (by decide) ?_
    exact xw_zreturn rfl hw.1 d_M_in_15 hw.2
  · have hw := hw.2 c2
    refine xw_iload_n d_M_in_5 rfl rfl ?_
    refine xw_iload_n d_M_in_6 rfl rfl ?_
    refine xw_icmp_gt (tgt := 14) d_M_in_7 (by decide) (fun c1 => ?_) (fun c1 => ?_)
    · have hw := hw.1 c1
      refine xw_iconst (v := 0) d_M_in_14 (by decide) ?_
      exact xw_zreturn rfl hw.1 d_M_in_15 hw.2
    · have hw := hw.2 c1
      refine xw_iconst (v := 1) d_M_in_10 (by decide) ?_
      refine xw_goto (tgt := 15) d_M_in_11 (by decide) ?_
      exact xw_zreturn rfl hw.1 d_M_in_15 hw.2
set_option maxRecDepth 100000 in
def w_M_isNode (Q : Option Value → xH → Prop) (p1 : Int32) (h : xH) : Prop := w_M_in (fun v h1 => ∃ (x2 : Int32), v = some (.int x2) ∧ (narrow .boolean (.int x2) = .int x2 ∧ Q (some (.int x2)) h1)) p1 0 7 h
set_option maxRecDepth 100000 in
set_option maxHeartbeats 4000000 in
theorem x_M_isNode {sc : List Int32} {Q : Option Value → xH → Prop} {p1 : Int32} {h : xH} (hw : w_M_isNode Q p1 h) : xMet sc m_M_isNode 1 0 0 [.int (p1)] h Q := by
  unfold w_M_isNode at hw
  refine xMet.of2 cw_M_isNode rfl rfl ?_
  show xW sc m_M_isNode 1 0 0 0 [some (.int (p1))] [] h Q
  refine xw_iload_n d_M_isNode_0 rfl rfl ?_
  refine xw_iconst (v := 0) d_M_isNode_1 (by decide) ?_
  refine xw_bipush (v := 7) d_M_isNode_2 (by decide) ?_
  refine xc_S3i lk_M_107 st_M_in d_M_isNode_4 (x_M_in hw) rfl rfl ?_
  intro x2 h1 hw
  exact xw_zreturn rfl hw.1 d_M_isNode_7 hw.2
set_option maxRecDepth 100000 in
def w_M_isUp (Q : Option Value → xH → Prop) (this : Nat) (p1 : Int32) (h : xH) : Prop := ∃ (f1 : List Value) (a2 : Nat), h.2 this = some (.inr (8, f1)) ∧ f1[1]? = some (.ref a2) ∧ ∃ (ar5 : List Int32) (x3 : Int32), h.2 a2 = some (.inl (0, .inl ar5)) ∧ 0 ≤ p1 ∧ ar5[p1.toNatClampNeg]? = some x3 ∧ ((¬ x3 = 1 → (narrow .boolean (.int 0) = .int 0 ∧ Q (some (.int 0)) h)) ∧ (x3 = 1 → (narrow .boolean (.int 1) = .int 1 ∧ Q (some (.int 1)) h)))
set_option maxRecDepth 100000 in
set_option maxHeartbeats 4000000 in
theorem x_M_isUp {sc : List Int32} {Q : Option Value → xH → Prop} {this : Nat} {p1 : Int32} {h : xH} (hw : w_M_isUp Q this p1 h) : xMet sc m_M_isUp 0 0 0 [.ref (this), .int (p1)] h Q := by
  unfold w_M_isUp at hw
  refine xMet.of2 cw_M_isUp rfl rfl ?_
  show xW sc m_M_isUp 0 0 0 0 [some (.ref (this)), some (.int (p1))] [] h Q
  refine xw_aload_n d_M_isUp_0 rfl rfl ?_
  obtain ⟨f1, a2, hA, hB, hw⟩ := hw
  refine xw_getr fr_M_9 d_M_isUp_1 hA hB ?_
  refine xw_iload_n d_M_isUp_4 rfl rfl ?_
  obtain ⟨ar5, x3, hA, hB, hC, hw⟩ := hw
  refine xw_iaload (t := 0) rfl d_M_isUp_5 hA hB hC ?_
  refine xw_iconst (v := 1) d_M_isUp_6 (by decide) ?_
  refine xw_icmp_ne (tgt := 14) d_M_isUp_7 (by decide) (fun c4 => ?_) (fun c4 => ?_)
  · have hw := hw.1 c4
    refine xw_iconst (v := 0) d_M_isUp_14 (by decide) ?_
    exact xw_zreturn rfl hw.1 d_M_isUp_15 hw.2
  · have hw := hw.2 c4
    refine xw_iconst (v := 1) d_M_isUp_10 (by decide) ?_
    refine xw_goto (tgt := 15) d_M_isUp_11 (by decide) ?_
    exact xw_zreturn rfl hw.1 d_M_isUp_15 hw.2
set_option maxRecDepth 100000 in
def w_M_reads (Q : Option Value → xH → Prop) (p1 : Int32) (h : xH) : Prop := Q (some (.int ((p1 >>> (8 &&& 31)) &&& 15))) h
set_option maxRecDepth 100000 in
set_option maxHeartbeats 4000000 in
theorem x_M_reads {sc : List Int32} {Q : Option Value → xH → Prop} {p1 : Int32} {h : xH} (hw : w_M_reads Q p1 h) : xMet sc m_M_reads 0 0 0 [.int (p1)] h Q := by
  unfold w_M_reads at hw
  refine xMet.of2 cw_M_reads rfl rfl ?_
  show xW sc m_M_reads 0 0 0 0 [some (.int (p1))] [] h Q
  refine xw_iload_n d_M_reads_0 rfl rfl ?_
  refine xw_bipush (v := 8) d_M_reads_1 (by decide) ?_
  refine xw_ishr d_M_reads_3 ?_
  refine xw_bipush (v := 15) d_M_reads_4 (by decide) ?_
  refine xw_iand d_M_reads_6 ?_
  exact xw_ireturn rfl d_M_reads_7 hw
set_option maxRecDepth 100000 in
def w_M_stores (Q : Option Value → xH → Prop) (p1 : Int32) (h : xH) : Prop := Q (some (.int ((p1 >>> (12 &&& 31)) &&& 15))) h
set_option maxRecDepth 100000 in
set_option maxHeartbeats 4000000 in
theorem x_M_stores {sc : List Int32} {Q : Option Value → xH → Prop} {p1 : Int32} {h : xH} (hw : w_M_stores Q p1 h) : xMet sc m_M_stores 0 0 0 [.int (p1)] h Q := by
  unfold w_M_stores at hw
  refine xMet.of2 cw_M_stores rfl rfl ?_
  show xW sc m_M_stores 0 0 0 0 [some (.int (p1))] [] h Q
  refine xw_iload_n d_M_stores_0 rfl rfl ?_
  refine xw_bipush (v := 12) d_M_stores_1 (by decide) ?_
  refine xw_ishr d_M_stores_3 ?_
  refine xw_bipush (v := 15) d_M_stores_4 (by decide) ?_
  refine xw_iand d_M_stores_6 ?_
  exact xw_ireturn rfl d_M_stores_7 hw
set_option maxRecDepth 100000 in
def w_M_many_4 (Q : Option Value → xH → Prop) : Nat → Int32 → Int32 → Int32 → xH → Prop
  | 0, _, _, _, _ => False
  | n + 1, l0, l1, l2, h => ((8 ≤ l2 → Q (some (.int l1)) h) ∧ (¬ 8 ≤ l2 → w_M_many_4 Q n (l0) (l1 + ((l0 >>> (l2 &&& 31)) &&& 1)) (l2 + 1) h))
set_option maxRecDepth 100000 in
set_option maxHeartbeats 4000000 in
theorem p_M_many_4 {sc : List Int32} {Q : Option Value → xH → Prop} : ∀ (n : Nat) (l0 : Int32) (l1 : Int32) (l2 : Int32) (h : xH), w_M_many_4 Q n l0 l1 l2 h → xW sc m_M_many 0 0 0 4 [some (.int (l0)), some (.int (l1)), some (.int (l2))] [] h Q := by
  intro n
  induction n with
  | zero => intro l0 l1 l2 h hw; exact False.elim hw
  | succ n ih =>
    intro l0 l1 l2 h hw
    rw [w_M_many_4] at hw
    refine xw_iload_n d_M_many_4 rfl rfl ?_
    refine xw_bipush (v := 8) d_M_many_5 (by decide) ?_
    refine xw_icmp_ge (tgt := 24) d_M_many_7 (by decide) (fun c1 => ?_) (fun c1 => ?_)
    · have hw := hw.1 c1
      refine xw_iload_n d_M_many_24 rfl rfl ?_
      exact xw_ireturn rfl d_M_many_25 hw
    · have hw := hw.2 c1
      refine xw_iload_n d_M_many_10 rfl rfl ?_
      refine xw_iload_n d_M_many_11 rfl rfl ?_
      refine xw_iload_n d_M_many_12 rfl rfl ?_
      refine xw_ishr d_M_many_13 ?_
      refine xw_iconst (v := 1) d_M_many_14 (by decide) ?_
      refine xw_iand d_M_many_15 ?_
      refine xw_iadd d_M_many_16 ?_
      refine xs_istore_n (lv' := [some (.int (l0)), some (.int (l1 + ((l0 >>> (l2 &&& 31)) &&& 1))), some (.int (l2))]) d_M_many_17 rfl rfl rfl ?_
      refine xs_iinc (v := l2 + 1) (lv' := [some (.int (l0)), some (.int (l1 + ((l0 >>> (l2 &&& 31)) &&& 1))), some (.int (l2 + 1))]) d_M_many_18 rfl rfl rfl ?_
      refine xw_goto (tgt := 4) d_M_many_21 (by decide) ?_
      exact ih (l0) (l1 + ((l0 >>> (l2 &&& 31)) &&& 1)) (l2 + 1) h hw
set_option maxRecDepth 100000 in
def w_M_many (Q : Option Value → xH → Prop) (p1 : Int32) (h : xH) : Prop := ∃ n1, w_M_many_4 Q n1 (p1) (0) (0) h
set_option maxRecDepth 100000 in
set_option maxHeartbeats 4000000 in
theorem x_M_many {sc : List Int32} {Q : Option Value → xH → Prop} {p1 : Int32} {h : xH} (hw : w_M_many Q p1 h) : xMet sc m_M_many 0 0 0 [.int (p1)] h Q := by
  unfold w_M_many at hw
  refine xMet.of2 cw_M_many rfl rfl ?_
  show xW sc m_M_many 0 0 0 0 [some (.int (p1)), none, none] [] h Q
  refine xw_iconst (v := 0) d_M_many_0 (by decide) ?_
  refine xs_istore_n (lv' := [some (.int (p1)), some (.int (0)), none]) d_M_many_1 rfl rfl rfl ?_
  refine xw_iconst (v := 0) d_M_many_2 (by decide) ?_
  refine xs_istore_n (lv' := [some (.int (p1)), some (.int (0)), some (.int (0))]) d_M_many_3 rfl rfl rfl ?_
  obtain ⟨n1, hw⟩ := hw
  exact p_M_many_4  n1 (p1) (0) (0) h hw
set_option maxRecDepth 100000 in
def w_M_goesDown (Q : Option Value → xH → Prop) (this : Nat) (p1 : Int32) (h : xH) : Prop := ∃ (f1 : List Value) (a2 : Nat), h.2 this = some (.inr (8, f1)) ∧ f1[1]? = some (.ref a2) ∧ ∃ ar3, h.2 a2 = some (.inl (0, .inl ar3)) ∧ 0 ≤ p1 ∧ p1.toNatClampNeg < ar3.length ∧ ∀ h4, h4 = xu h a2 (.inl (0, .inl (ar3.set p1.toNatClampNeg 2))) → ∃ (f5 : List Value) (a6 : Nat), h4.2 this = some (.inr (8, f5)) ∧ f5[4]? = some (.ref a6) ∧ ∃ ar7, h4.2 a6 = some (.inl (0, .inl ar7)) ∧ 0 ≤ p1 ∧ p1.toNatClampNeg < ar7.length ∧ ∀ h8, h8 = xu h4 a6 (.inl (0, .inl (ar7.set p1.toNatClampNeg 0))) → ∃ (f9 : List Value) (a10 : Nat), h8.2 this = some (.inr (8, f9)) ∧ f9[15]? = some (.ref a10) ∧ ∃ ar11, h8.2 a10 = some (.inl (0, .inl ar11)) ∧ 0 ≤ p1 ∧ p1.toNatClampNeg < ar11.length ∧ ∀ h12, h12 = xu h8 a10 (.inl (0, .inl (ar11.set p1.toNatClampNeg 0))) → ∃ (f13 : List Value) (a14 : Nat), h12.2 this = some (.inr (8, f13)) ∧ f13[16]? = some (.ref a14) ∧ ∃ ar15, h12.2 a14 = some (.inl (0, .inl ar15)) ∧ 0 ≤ p1 ∧ p1.toNatClampNeg < ar15.length ∧ ∀ h16, h16 = xu h12 a14 (.inl (0, .inl (ar15.set p1.toNatClampNeg 0))) → ∃ (f17 : List Value) (a18 : Nat), h16.2 this = some (.inr (8, f17)) ∧ f17[17]? = some (.ref a18) ∧ ∃ ar19, h16.2 a18 = some (.inl (0, .inl ar19)) ∧ 0 ≤ p1 ∧ p1.toNatClampNeg < ar19.length ∧ ∀ h20, h20 = xu h16 a18 (.inl (0, .inl (ar19.set p1.toNatClampNeg 0))) → ∃ (f21 : List Value) (a22 : Nat), h20.2 this = some (.inr (8, f21)) ∧ f21[5]? = some (.ref a22) ∧ ∃ ar23, h20.2 a22 = some (.inl (0, .inl ar23)) ∧ 0 ≤ p1 ∧ p1.toNatClampNeg < ar23.length ∧ ∀ h24, h24 = xu h20 a22 (.inl (0, .inl (ar23.set p1.toNatClampNeg 0))) → Q none h24
set_option maxRecDepth 100000 in
set_option maxHeartbeats 4000000 in
theorem x_M_goesDown {sc : List Int32} {Q : Option Value → xH → Prop} {this : Nat} {p1 : Int32} {h : xH} (hw : w_M_goesDown Q this p1 h) : xMet sc m_M_goesDown 0 0 0 [.ref (this), .int (p1)] h Q := by
  unfold w_M_goesDown at hw
  refine xMet.of2 cw_M_goesDown rfl rfl ?_
  show xW sc m_M_goesDown 0 0 0 0 [some (.ref (this)), some (.int (p1))] [] h Q
  refine xw_aload_n d_M_goesDown_0 rfl rfl ?_
  obtain ⟨f1, a2, hA, hB, hw⟩ := hw
  refine xw_getr fr_M_9 d_M_goesDown_1 hA hB ?_
  refine xw_iload_n d_M_goesDown_4 rfl rfl ?_
  refine xw_iconst (v := 2) d_M_goesDown_5 (by decide) ?_
  obtain ⟨ar3, hA, hB, hC, hw⟩ := hw
  refine xw_iastore (t := 0) rfl d_M_goesDown_6 hA hB hC ?_
  generalize hh : xu h a2 (.inl (0, .inl (ar3.set p1.toNatClampNeg 2))) = h4
  have hw := hw h4 hh.symm
  refine xw_aload_n d_M_goesDown_7 rfl rfl ?_
  obtain ⟨f5, a6, hA, hB, hw⟩ := hw
  refine xw_getr fr_M_19 d_M_goesDown_8 hA hB ?_
  refine xw_iload_n d_M_goesDown_11 rfl rfl ?_
  refine xw_iconst (v := 0) d_M_goesDown_12 (by decide) ?_
  obtain ⟨ar7, hA, hB, hC, hw⟩ := hw
  refine xw_iastore (t := 0) rfl d_M_goesDown_13 hA hB hC ?_
  generalize hh : xu h4 a6 (.inl (0, .inl (ar7.set p1.toNatClampNeg 0))) = h8
  have hw := hw h8 hh.symm
  refine xw_aload_n d_M_goesDown_14 rfl rfl ?_
  obtain ⟨f9, a10, hA, hB, hw⟩ := hw
  refine xw_getr fr_M_49 d_M_goesDown_15 hA hB ?_
  refine xw_iload_n d_M_goesDown_18 rfl rfl ?_
  refine xw_iconst (v := 0) d_M_goesDown_19 (by decide) ?_
  obtain ⟨ar11, hA, hB, hC, hw⟩ := hw
  refine xw_iastore (t := 0) rfl d_M_goesDown_20 hA hB hC ?_
  generalize hh : xu h8 a10 (.inl (0, .inl (ar11.set p1.toNatClampNeg 0))) = h12
  have hw := hw h12 hh.symm
  refine xw_aload_n d_M_goesDown_21 rfl rfl ?_
  obtain ⟨f13, a14, hA, hB, hw⟩ := hw
  refine xw_getr fr_M_52 d_M_goesDown_22 hA hB ?_
  refine xw_iload_n d_M_goesDown_25 rfl rfl ?_
  refine xw_iconst (v := 0) d_M_goesDown_26 (by decide) ?_
  obtain ⟨ar15, hA, hB, hC, hw⟩ := hw
  refine xw_iastore (t := 0) rfl d_M_goesDown_27 hA hB hC ?_
  generalize hh : xu h12 a14 (.inl (0, .inl (ar15.set p1.toNatClampNeg 0))) = h16
  have hw := hw h16 hh.symm
  refine xw_aload_n d_M_goesDown_28 rfl rfl ?_
  obtain ⟨f17, a18, hA, hB, hw⟩ := hw
  refine xw_getr fr_M_55 d_M_goesDown_29 hA hB ?_
  refine xw_iload_n d_M_goesDown_32 rfl rfl ?_
  refine xw_iconst (v := 0) d_M_goesDown_33 (by decide) ?_
  obtain ⟨ar19, hA, hB, hC, hw⟩ := hw
  refine xw_iastore (t := 0) rfl d_M_goesDown_34 hA hB hC ?_
  generalize hh : xu h16 a18 (.inl (0, .inl (ar19.set p1.toNatClampNeg 0))) = h20
  have hw := hw h20 hh.symm
  refine xw_aload_n d_M_goesDown_35 rfl rfl ?_
  obtain ⟨f21, a22, hA, hB, hw⟩ := hw
  refine xw_getr fr_M_22 d_M_goesDown_36 hA hB ?_
  refine xw_iload_n d_M_goesDown_39 rfl rfl ?_
  refine xw_iconst (v := 0) d_M_goesDown_40 (by decide) ?_
  obtain ⟨ar23, hA, hB, hC, hw⟩ := hw
  refine xw_iastore (t := 0) rfl d_M_goesDown_41 hA hB hC ?_
  generalize hh : xu h20 a22 (.inl (0, .inl (ar23.set p1.toNatClampNeg 0))) = h24
  have hw := hw h24 hh.symm
  exact xw_return rfl d_M_goesDown_42 hw
set_option maxRecDepth 100000 in
def w_M_mayWrite_53 (Q : Option Value → xH → Prop) (l0 : Nat) (l1 : Int32) (s0 : Int32) (s1 : Int32) (s2 : Nat) (h : xH) : Prop := ∃ ar1, h.2 s2 = some (.inl (0, .inl ar1)) ∧ 0 ≤ s1 ∧ s1.toNatClampNeg < ar1.length ∧ ∀ h2, h2 = xu h s2 (.inl (0, .inl (ar1.set s1.toNatClampNeg s0))) → ∃ (f3 : List Value) (x4 : Int32), h2.2 l0 = some (.inr (8, f3)) ∧ f3[34]? = some (.int x4) ∧ ∃ f5, h2.2 l0 = some (.inr (8, f5)) ∧ 34 < f5.length ∧ ∀ h6, h6 = xu h2 l0 (.inr (8, f5.set 34 (.int (x4 + 1)))) → (narrow .boolean (.int 1) = .int 1 ∧ Q (some (.int 1)) h6)
set_option maxRecDepth 100000 in
set_option maxHeartbeats 4000000 in
theorem p_M_mayWrite_53 {sc : List Int32} {Q : Option Value → xH → Prop} (l0 : Nat) (l1 : Int32) (s0 : Int32) (s1 : Int32) (s2 : Nat) (h : xH) (hw : w_M_mayWrite_53 Q l0 l1 s0 s1 s2 h) : xW sc m_M_mayWrite 1 0 0 53 [some (.ref (l0)), some (.int (l1))] [.int (s0), .int (s1), .ref (s2)] h Q := by
  unfold w_M_mayWrite_53 at hw
  obtain ⟨ar1, hA, hB, hC, hw⟩ := hw
  refine xw_iastore (t := 0) rfl d_M_mayWrite_53 hA hB hC ?_
  generalize hh : xu h s2 (.inl (0, .inl (ar1.set s1.toNatClampNeg s0))) = h2
  have hw := hw h2 hh.symm
  refine xw_aload_n d_M_mayWrite_54 rfl rfl ?_
  refine xw_dup d_M_mayWrite_55 rfl ?_
  obtain ⟨f3, x4, hA, hB, hw⟩ := hw
  refine xw_getr fr_M_119 d_M_mayWrite_56 hA hB ?_
  refine xw_iconst (v := 1) d_M_mayWrite_59 (by decide) ?_
  refine xw_iadd d_M_mayWrite_60 ?_
  obtain ⟨f5, hA, hB, hw⟩ := hw
  refine xw_puti fs_M_119 d_M_mayWrite_61 hA hB ?_
  generalize hh : xu h2 l0 (.inr (8, f5.set 34 (.int (x4 + 1)))) = h6
  have hw := hw h6 hh.symm
  refine xw_iconst (v := 1) d_M_mayWrite_64 (by decide) ?_
  exact xw_zreturn rfl hw.1 d_M_mayWrite_65 hw.2
set_option maxRecDepth 100000 in
def w_M_mayWrite (Q : Option Value → xH → Prop) (this : Nat) (p1 : Int32) (h : xH) : Prop := (∃ f2, h.2 this = some (.inr (8, f2))) ∧ w_M_isUp (fun v h1 => ∃ (x3 : Int32), v = some (.int x3) ∧ ((¬ x3 = 0 → ∃ (f4 : List Value) (a5 : Nat), h1.2 this = some (.inr (8, f4)) ∧ f4[4]? = some (.ref a5) ∧ ∃ (ar21 : List Int32) (x6 : Int32), h1.2 a5 = some (.inl (0, .inl ar21)) ∧ 0 ≤ p1 ∧ ar21[p1.toNatClampNeg]? = some x6 ∧ ((¬ x6 = 1 → ∃ (f7 : List Value) (a8 : Nat), h1.2 this = some (.inr (8, f7)) ∧ f7[4]? = some (.ref a8) ∧ ∃ (f9 : List Value) (a10 : Nat), h1.2 this = some (.inr (8, f9)) ∧ f9[4]? = some (.ref a10) ∧ ∃ (ar17 : List Int32) (x11 : Int32), h1.2 a10 = some (.inl (0, .inl ar17)) ∧ 0 ≤ p1 ∧ ar17[p1.toNatClampNeg]? = some x11 ∧ ((x11 ≤ 0 → w_M_mayWrite_53 Q (this) (p1) (0) (p1) (a8) h1) ∧ (¬ x11 ≤ 0 → ∃ (f12 : List Value) (a13 : Nat), h1.2 this = some (.inr (8, f12)) ∧ f12[4]? = some (.ref a13) ∧ ∃ (ar15 : List Int32) (x14 : Int32), h1.2 a13 = some (.inl (0, .inl ar15)) ∧ 0 ≤ p1 ∧ ar15[p1.toNatClampNeg]? = some x14 ∧ w_M_mayWrite_53 Q (this) (p1) (x14 - 1) (p1) (a8) h1))) ∧ (x6 = 1 → (∃ f19, h1.2 this = some (.inr (8, f19))) ∧ w_M_goesDown (fun v h18 => v = none ∧ (narrow .boolean (.int 0) = .int 0 ∧ Q (some (.int 0)) h18)) this p1 h1))) ∧ (x3 = 0 → (narrow .boolean (.int 0) = .int 0 ∧ Q (some (.int 0)) h1)))) this p1 h
set_option maxRecDepth 100000 in
set_option maxHeartbeats 4000000 in
theorem x_M_mayWrite {sc : List Int32} {Q : Option Value → xH → Prop} {this : Nat} {p1 : Int32} {h : xH} (hw : w_M_mayWrite Q this p1 h) : xMet sc m_M_mayWrite 1 0 0 [.ref (this), .int (p1)] h Q := by
  unfold w_M_mayWrite at hw
  refine xMet.of2 cw_M_mayWrite rfl rfl ?_
  show xW sc m_M_mayWrite 1 0 0 0 [some (.ref (this)), some (.int (p1))] [] h Q
  refine xw_aload_n d_M_mayWrite_0 rfl rfl ?_
  refine xw_iload_n d_M_mayWrite_1 rfl rfl ?_
  obtain ⟨⟨f2, hA⟩, hw⟩ := hw
  refine xc_V1i lk_M_111 in_M_isUp d_M_mayWrite_2 (x_M_isUp hw) rfl hA rfl ?_
  intro x3 h1 hw
  refine xw_if_ne (tgt := 10) d_M_mayWrite_5 (by decide) (fun c22 => ?_) (fun c22 => ?_)
  · have hw := hw.1 c22
    refine xw_aload_n d_M_mayWrite_10 rfl rfl ?_
    obtain ⟨f4, a5, hA, hB, hw⟩ := hw
    refine xw_getr fr_M_19 d_M_mayWrite_11 hA hB ?_
    refine xw_iload_n d_M_mayWrite_14 rfl rfl ?_
    obtain ⟨ar21, x6, hA, hB, hC, hw⟩ := hw
    refine xw_iaload (t := 0) rfl d_M_mayWrite_15 hA hB hC ?_
    refine xw_iconst (v := 1) d_M_mayWrite_16 (by decide) ?_
    refine xw_icmp_ne (tgt := 27) d_M_mayWrite_17 (by decide) (fun c20 => ?_) (fun c20 => ?_)
    · have hw := hw.1 c20
      refine xw_aload_n d_M_mayWrite_27 rfl rfl ?_
      obtain ⟨f7, a8, hA, hB, hw⟩ := hw
      refine xw_getr fr_M_19 d_M_mayWrite_28 hA hB ?_
      refine xw_iload_n d_M_mayWrite_31 rfl rfl ?_
      refine xw_aload_n d_M_mayWrite_32 rfl rfl ?_
      obtain ⟨f9, a10, hA, hB, hw⟩ := hw
      refine xw_getr fr_M_19 d_M_mayWrite_33 hA hB ?_
      refine xw_iload_n d_M_mayWrite_36 rfl rfl ?_
      obtain ⟨ar17, x11, hA, hB, hC, hw⟩ := hw
      refine xw_iaload (t := 0) rfl d_M_mayWrite_37 hA hB hC ?_
      refine xw_if_le (tgt := 52) d_M_mayWrite_38 (by decide) (fun c16 => ?_) (fun c16 => ?_)
      · have hw := hw.1 c16
        refine xw_iconst (v := 0) d_M_mayWrite_52 (by decide) ?_
        exact p_M_mayWrite_53  (this) (p1) (0) (p1) (a8) h1 hw
      · have hw := hw.2 c16
        refine xw_aload_n d_M_mayWrite_41 rfl rfl ?_
        obtain ⟨f12, a13, hA, hB, hw⟩ := hw
        refine xw_getr fr_M_19 d_M_mayWrite_42 hA hB ?_
        refine xw_iload_n d_M_mayWrite_45 rfl rfl ?_
        obtain ⟨ar15, x14, hA, hB, hC, hw⟩ := hw
        refine xw_iaload (t := 0) rfl d_M_mayWrite_46 hA hB hC ?_
        refine xw_iconst (v := 1) d_M_mayWrite_47 (by decide) ?_
        refine xw_isub d_M_mayWrite_48 ?_
        refine xw_goto (tgt := 53) d_M_mayWrite_49 (by decide) ?_
        exact p_M_mayWrite_53  (this) (p1) (x14 - 1) (p1) (a8) h1 hw
    · have hw := hw.2 c20
      refine xw_aload_n d_M_mayWrite_20 rfl rfl ?_
      refine xw_iload_n d_M_mayWrite_21 rfl rfl ?_
      obtain ⟨⟨f19, hA⟩, hw⟩ := hw
      refine xc_V1n lk_M_115 in_M_goesDown d_M_mayWrite_22 (x_M_goesDown hw) rfl hA rfl ?_
      intro h18 hw
      refine xw_iconst (v := 0) d_M_mayWrite_25 (by decide) ?_
      exact xw_zreturn rfl hw.1 d_M_mayWrite_26 hw.2
  · have hw := hw.2 c22
    refine xw_iconst (v := 0) d_M_mayWrite_8 (by decide) ?_
    exact xw_zreturn rfl hw.1 d_M_mayWrite_9 hw.2
set_option maxRecDepth 100000 in
def w_M_writeRound (Q : Option Value → xH → Prop) (this : Nat) (p1 : Int32) (p2 : Int32) (h : xH) : Prop := ∃ (f1 : List Value) (a2 : Nat), h.2 this = some (.inr (8, f1)) ∧ f1[3]? = some (.ref a2) ∧ ∃ (ar13 : List Int32) (x3 : Int32), h.2 a2 = some (.inl (0, .inl ar13)) ∧ 0 ≤ p1 ∧ ar13[p1.toNatClampNeg]? = some x3 ∧ ((x3 = p2 → Q none h) ∧ (¬ x3 = p2 → (∃ f5, h.2 this = some (.inr (8, f5))) ∧ w_M_mayWrite (fun v h4 => ∃ (x6 : Int32), v = some (.int x6) ∧ ((x6 = 0 → Q none h4) ∧ (¬ x6 = 0 → ∃ (f7 : List Value) (a8 : Nat), h4.2 this = some (.inr (8, f7)) ∧ f7[3]? = some (.ref a8) ∧ ∃ ar9, h4.2 a8 = some (.inl (0, .inl ar9)) ∧ 0 ≤ p1 ∧ p1.toNatClampNeg < ar9.length ∧ ∀ h10, h10 = xu h4 a8 (.inl (0, .inl (ar9.set p1.toNatClampNeg p2))) → Q none h10))) this p1 h))
set_option maxRecDepth 100000 in
set_option maxHeartbeats 4000000 in
theorem x_M_writeRound {sc : List Int32} {Q : Option Value → xH → Prop} {this : Nat} {p1 : Int32} {p2 : Int32} {h : xH} (hw : w_M_writeRound Q this p1 p2 h) : xMet sc m_M_writeRound 2 0 0 [.ref (this), .int (p1), .int (p2)] h Q := by
  unfold w_M_writeRound at hw
  refine xMet.of2 cw_M_writeRound rfl rfl ?_
  show xW sc m_M_writeRound 2 0 0 0 [some (.ref (this)), some (.int (p1)), some (.int (p2))] [] h Q
  refine xw_aload_n d_M_writeRound_0 rfl rfl ?_
  obtain ⟨f1, a2, hA, hB, hw⟩ := hw
  refine xw_getr fr_M_16 d_M_writeRound_1 hA hB ?_
  refine xw_iload_n d_M_writeRound_4 rfl rfl ?_
  obtain ⟨ar13, x3, hA, hB, hC, hw⟩ := hw
  refine xw_iaload (t := 0) rfl d_M_writeRound_5 hA hB hC ?_
  refine xw_iload_n d_M_writeRound_6 rfl rfl ?_
  refine xw_icmp_eq (tgt := 25) d_M_writeRound_7 (by decide) (fun c12 => ?_) (fun c12 => ?_)
  · have hw := hw.1 c12
    exact xw_return rfl d_M_writeRound_25 hw
  · have hw := hw.2 c12
    refine xw_aload_n d_M_writeRound_10 rfl rfl ?_
    refine xw_iload_n d_M_writeRound_11 rfl rfl ?_
    obtain ⟨⟨f5, hA⟩, hw⟩ := hw
    refine xc_V1i lk_M_122 in_M_mayWrite d_M_writeRound_12 (x_M_mayWrite hw) rfl hA rfl ?_
    intro x6 h4 hw
    refine xw_if_eq (tgt := 25) d_M_writeRound_15 (by decide) (fun c11 => ?_) (fun c11 => ?_)
    · have hw := hw.1 c11
      exact xw_return rfl d_M_writeRound_25 hw
    · have hw := hw.2 c11
      refine xw_aload_n d_M_writeRound_18 rfl rfl ?_
      obtain ⟨f7, a8, hA, hB, hw⟩ := hw
      refine xw_getr fr_M_16 d_M_writeRound_19 hA hB ?_
      refine xw_iload_n d_M_writeRound_22 rfl rfl ?_
      refine xw_iload_n d_M_writeRound_23 rfl rfl ?_
      obtain ⟨ar9, hA, hB, hC, hw⟩ := hw
      refine xw_iastore (t := 0) rfl d_M_writeRound_24 hA hB hC ?_
      generalize hh : xu h4 a8 (.inl (0, .inl (ar9.set p1.toNatClampNeg p2))) = h10
      have hw := hw h10 hh.symm
      exact xw_return rfl d_M_writeRound_25 hw
set_option maxRecDepth 100000 in
def w_M_isGreater_15 (Q : Option Value → xH → Prop) (l0 : Int32) (l1 : Int32) (l2 : Int32) (l3 : Int32) (h : xH) : Prop := (narrow .boolean (.int 1) = .int 1 ∧ Q (some (.int 1)) h)
set_option maxRecDepth 100000 in
set_option maxHeartbeats 4000000 in
theorem p_M_isGreater_15 {sc : List Int32} {Q : Option Value → xH → Prop} (l0 : Int32) (l1 : Int32) (l2 : Int32) (l3 : Int32) (h : xH) (hw : w_M_isGreater_15 Q l0 l1 l2 l3 h) : xW sc m_M_isGreater 0 0 0 15 [some (.int (l0)), some (.int (l1)), some (.int (l2)), some (.int (l3))] [] h Q := by
  unfold w_M_isGreater_15 at hw
  refine xw_iconst (v := 1) d_M_isGreater_15 (by decide) ?_
  refine xw_goto (tgt := 20) d_M_isGreater_16 (by decide) ?_
  exact xw_zreturn rfl hw.1 d_M_isGreater_20 hw.2
set_option maxRecDepth 100000 in
def w_M_isGreater (Q : Option Value → xH → Prop) (p1 : Int32) (p2 : Int32) (p3 : Int32) (p4 : Int32) (h : xH) : Prop := ((p3 < p1 → w_M_isGreater_15 Q (p1) (p2) (p3) (p4) h) ∧ (¬ p3 < p1 → ((¬ p1 = p3 → (narrow .boolean (.int 0) = .int 0 ∧ Q (some (.int 0)) h)) ∧ (p1 = p3 → ((p2 ≤ p4 → (narrow .boolean (.int 0) = .int 0 ∧ Q (some (.int 0)) h)) ∧ (¬ p2 ≤ p4 → w_M_isGreater_15 Q (p1) (p2) (p3) (p4) h))))))
set_option maxRecDepth 100000 in
set_option maxHeartbeats 4000000 in
theorem x_M_isGreater {sc : List Int32} {Q : Option Value → xH → Prop} {p1 : Int32} {p2 : Int32} {p3 : Int32} {p4 : Int32} {h : xH} (hw : w_M_isGreater Q p1 p2 p3 p4 h) : xMet sc m_M_isGreater 0 0 0 [.int (p1), .int (p2), .int (p3), .int (p4)] h Q := by
  unfold w_M_isGreater at hw
  refine xMet.of2 cw_M_isGreater rfl rfl ?_
  show xW sc m_M_isGreater 0 0 0 0 [some (.int (p1)), some (.int (p2)), some (.int (p3)), some (.int (p4))] [] h Q
  refine xw_iload_n d_M_isGreater_0 rfl rfl ?_
  refine xw_iload_n d_M_isGreater_1 rfl rfl ?_
  refine xw_icmp_gt (tgt := 15) d_M_isGreater_2 (by decide) (fun c3 => ?_) (fun c3 => ?_)
  · have hw := hw.1 c3
    exact p_M_isGreater_15  (p1) (p2) (p3) (p4) h hw
  · have hw := hw.2 c3
    refine xw_iload_n d_M_isGreater_5 rfl rfl ?_
    refine xw_iload_n d_M_isGreater_6 rfl rfl ?_
    refine xw_icmp_ne (tgt := 19) d_M_isGreater_7 (by decide) (fun c2 => ?_) (fun c2 => ?_)
    · have hw := hw.1 c2
      refine xw_iconst (v := 0) d_M_isGreater_19 (by decide) ?_
      exact xw_zreturn rfl hw.1 d_M_isGreater_20 hw.2
    · have hw := hw.2 c2
      refine xw_iload_n d_M_isGreater_10 rfl rfl ?_
      refine xw_iload_n d_M_isGreater_11 rfl rfl ?_
      refine xw_icmp_le (tgt := 19) d_M_isGreater_12 (by decide) (fun c1 => ?_) (fun c1 => ?_)
      · have hw := hw.1 c1
        refine xw_iconst (v := 0) d_M_isGreater_19 (by decide) ?_
        exact xw_zreturn rfl hw.1 d_M_isGreater_20 hw.2
      · have hw := hw.2 c1
        exact p_M_isGreater_15  (p1) (p2) (p3) (p4) h hw
set_option maxRecDepth 100000 in
def w_M_store (Q : Option Value → xH → Prop) (this : Nat) (p1 : Int32) (p2 : Int32) (p3 : Int32) (p4 : Int32) (p5 : Int32) (h : xH) : Prop := ∃ (f1 : List Value) (a2 : Nat), h.2 this = some (.inr (8, f1)) ∧ f1[6]? = some (.ref a2) ∧ ∃ (ar27 : List Int32) (x3 : Int32), h.2 a2 = some (.inl (0, .inl ar27)) ∧ 0 ≤ ((4 * p1) + p2 : Int32) ∧ ar27[((4 * p1) + p2 : Int32).toNatClampNeg]? = some x3 ∧ ∃ (f4 : List Value) (a5 : Nat), h.2 this = some (.inr (8, f4)) ∧ f4[7]? = some (.ref a5) ∧ ∃ (ar26 : List Int32) (x6 : Int32), h.2 a5 = some (.inl (0, .inl ar26)) ∧ 0 ≤ ((4 * p1) + p2 : Int32) ∧ ar26[((4 * p1) + p2 : Int32).toNatClampNeg]? = some x6 ∧ w_M_isGreater (fun v h7 => ∃ (x8 : Int32), v = some (.int x8) ∧ ((x8 = 0 → Q none h7) ∧ (¬ x8 = 0 → (∃ f10, h7.2 this = some (.inr (8, f10))) ∧ w_M_mayWrite (fun v h9 => ∃ (x11 : Int32), v = some (.int x11) ∧ ((¬ x11 = 0 → ∃ (f12 : List Value) (a13 : Nat), h9.2 this = some (.inr (8, f12)) ∧ f12[6]? = some (.ref a13) ∧ ∃ ar14, h9.2 a13 = some (.inl (0, .inl ar14)) ∧ 0 ≤ ((4 * p1) + p2 : Int32) ∧ ((4 * p1) + p2 : Int32).toNatClampNeg < ar14.length ∧ ∀ h15, h15 = xu h9 a13 (.inl (0, .inl (ar14.set ((4 * p1) + p2 : Int32).toNatClampNeg p3))) → ∃ (f16 : List Value) (a17 : Nat), h15.2 this = some (.inr (8, f16)) ∧ f16[7]? = some (.ref a17) ∧ ∃ ar18, h15.2 a17 = some (.inl (0, .inl ar18)) ∧ 0 ≤ ((4 * p1) + p2 : Int32) ∧ ((4 * p1) + p2 : Int32).toNatClampNeg < ar18.length ∧ ∀ h19, h19 = xu h15 a17 (.inl (0, .inl (ar18.set ((4 * p1) + p2 : Int32).toNatClampNeg p4))) → ∃ (f20 : List Value) (a21 : Nat), h19.2 this = some (.inr (8, f20)) ∧ f20[8]? = some (.ref a21) ∧ ∃ ar22, h19.2 a21 = some (.inl (0, .inl ar22)) ∧ 0 ≤ ((4 * p1) + p2 : Int32) ∧ ((4 * p1) + p2 : Int32).toNatClampNeg < ar22.length ∧ ∀ h23, h23 = xu h19 a21 (.inl (0, .inl (ar22.set ((4 * p1) + p2 : Int32).toNatClampNeg p5))) → Q none h23) ∧ (x11 = 0 → Q none h9))) this p1 h7))) p3 p4 x3 x6 h
set_option maxRecDepth 100000 in
set_option maxHeartbeats 4000000 in
theorem x_M_store {sc : List Int32} {Q : Option Value → xH → Prop} {this : Nat} {p1 : Int32} {p2 : Int32} {p3 : Int32} {p4 : Int32} {p5 : Int32} {h : xH} (hw : w_M_store Q this p1 p2 p3 p4 p5 h) : xMet sc m_M_store 2 0 0 [.ref (this), .int (p1), .int (p2), .int (p3), .int (p4), .int (p5)] h Q := by
  unfold w_M_store at hw
  refine xMet.of2 cw_M_store rfl rfl ?_
  show xW sc m_M_store 2 0 0 0 [some (.ref (this)), some (.int (p1)), some (.int (p2)), some (.int (p3)), some (.int (p4)), some (.int (p5)), none] [] h Q
  refine xw_iconst (v := 4) d_M_store_0 (by decide) ?_
  refine xw_iload_n d_M_store_1 rfl rfl ?_
  refine xw_imul d_M_store_2 ?_
  refine xw_iload_n d_M_store_3 rfl rfl ?_
  refine xw_iadd d_M_store_4 ?_
  refine xs_istore (lv' := [some (.ref (this)), some (.int (p1)), some (.int (p2)), some (.int (p3)), some (.int (p4)), some (.int (p5)), some (.int ((4 * p1) + p2))]) d_M_store_5 rfl rfl ?_
  refine xw_iload_n d_M_store_7 rfl rfl ?_
  refine xw_iload d_M_store_8 rfl ?_
  refine xw_aload_n d_M_store_10 rfl rfl ?_
  obtain ⟨f1, a2, hA, hB, hw⟩ := hw
  refine xw_getr fr_M_25 d_M_store_11 hA hB ?_
  refine xw_iload d_M_store_14 rfl ?_
  obtain ⟨ar27, x3, hA, hB, hC, hw⟩ := hw
  refine xw_iaload (t := 0) rfl d_M_store_16 hA hB hC ?_
  refine xw_aload_n d_M_store_17 rfl rfl ?_
  obtain ⟨f4, a5, hA, hB, hw⟩ := hw
  refine xw_getr fr_M_28 d_M_store_18 hA hB ?_
  refine xw_iload d_M_store_21 rfl ?_
  obtain ⟨ar26, x6, hA, hB, hC, hw⟩ := hw
  refine xw_iaload (t := 0) rfl d_M_store_23 hA hB hC ?_
  refine xc_S4i lk_M_125 st_M_isGreater d_M_store_24 (x_M_isGreater hw) rfl rfl ?_
  intro x8 h7 hw
  refine xw_if_eq (tgt := 38) d_M_store_27 (by decide) (fun c25 => ?_) (fun c25 => ?_)
  · have hw := hw.1 c25
    exact xw_return rfl d_M_store_38 hw
  · have hw := hw.2 c25
    refine xw_aload_n d_M_store_30 rfl rfl ?_
    refine xw_iload_n d_M_store_31 rfl rfl ?_
    obtain ⟨⟨f10, hA⟩, hw⟩ := hw
    refine xc_V1i lk_M_122 in_M_mayWrite d_M_store_32 (x_M_mayWrite hw) rfl hA rfl ?_
    intro x11 h9 hw
    refine xw_if_ne (tgt := 39) d_M_store_35 (by decide) (fun c24 => ?_) (fun c24 => ?_)
    · have hw := hw.1 c24
      refine xw_aload_n d_M_store_39 rfl rfl ?_
      obtain ⟨f12, a13, hA, hB, hw⟩ := hw
      refine xw_getr fr_M_25 d_M_store_40 hA hB ?_
      refine xw_iload d_M_store_43 rfl ?_
      refine xw_iload_n d_M_store_45 rfl rfl ?_
      obtain ⟨ar14, hA, hB, hC, hw⟩ := hw
      refine xw_iastore (t := 0) rfl d_M_store_46 hA hB hC ?_
      generalize hh : xu h9 a13 (.inl (0, .inl (ar14.set ((4 * p1) + p2 : Int32).toNatClampNeg p3))) = h15
      have hw := hw h15 hh.symm
      refine xw_aload_n d_M_store_47 rfl rfl ?_
      obtain ⟨f16, a17, hA, hB, hw⟩ := hw
      refine xw_getr fr_M_28 d_M_store_48 hA hB ?_
      refine xw_iload d_M_store_51 rfl ?_
      refine xw_iload d_M_store_53 rfl ?_
      obtain ⟨ar18, hA, hB, hC, hw⟩ := hw
      refine xw_iastore (t := 0) rfl d_M_store_55 hA hB hC ?_
      generalize hh : xu h15 a17 (.inl (0, .inl (ar18.set ((4 * p1) + p2 : Int32).toNatClampNeg p4))) = h19
      have hw := hw h19 hh.symm
      refine xw_aload_n d_M_store_56 rfl rfl ?_
      obtain ⟨f20, a21, hA, hB, hw⟩ := hw
      refine xw_getr fr_M_31 d_M_store_57 hA hB ?_
      refine xw_iload d_M_store_60 rfl ?_
      refine xw_iload d_M_store_62 rfl ?_
      obtain ⟨ar22, hA, hB, hC, hw⟩ := hw
      refine xw_iastore (t := 0) rfl d_M_store_64 hA hB hC ?_
      generalize hh : xu h19 a21 (.inl (0, .inl (ar22.set ((4 * p1) + p2 : Int32).toNatClampNeg p5))) = h23
      have hw := hw h23 hh.symm
      exact xw_return rfl d_M_store_65 hw
    · have hw := hw.2 c24
      exact xw_return rfl d_M_store_38 hw
set_option maxRecDepth 100000 in
def w_M_writeMap_31 (Q : Option Value → xH → Prop) (l0 : Nat) (l1 : Int32) (l2 : Int32) (l3 : Int32) (l4 : Int32) (l5 : Int32) (h : xH) : Prop := (∃ f2, h.2 l0 = some (.inr (8, f2))) ∧ w_M_mayWrite (fun v h1 => ∃ (x3 : Int32), v = some (.int x3) ∧ ((¬ x3 = 0 → ∃ (f4 : List Value) (a5 : Nat), h1.2 l0 = some (.inr (8, f4)) ∧ f4[9]? = some (.ref a5) ∧ ∃ ar6, h1.2 a5 = some (.inl (0, .inl ar6)) ∧ 0 ≤ l5 ∧ l5.toNatClampNeg < ar6.length ∧ ∀ h7, h7 = xu h1 a5 (.inl (0, .inl (ar6.set l5.toNatClampNeg l3))) → ∃ (f8 : List Value) (a9 : Nat), h7.2 l0 = some (.inr (8, f8)) ∧ f8[10]? = some (.ref a9) ∧ ∃ ar10, h7.2 a9 = some (.inl (0, .inl ar10)) ∧ 0 ≤ l5 ∧ l5.toNatClampNeg < ar10.length ∧ ∀ h11, h11 = xu h7 a9 (.inl (0, .inl (ar10.set l5.toNatClampNeg l4))) → Q none h11) ∧ (x3 = 0 → Q none h1))) l0 l1 h
set_option maxRecDepth 100000 in
set_option maxHeartbeats 4000000 in
theorem p_M_writeMap_31 {sc : List Int32} {Q : Option Value → xH → Prop} (l0 : Nat) (l1 : Int32) (l2 : Int32) (l3 : Int32) (l4 : Int32) (l5 : Int32) (h : xH) (hw : w_M_writeMap_31 Q l0 l1 l2 l3 l4 l5 h) : xW sc m_M_writeMap 2 0 0 31 [some (.ref (l0)), some (.int (l1)), some (.int (l2)), some (.int (l3)), some (.int (l4)), some (.int (l5))] [] h Q := by
  unfold w_M_writeMap_31 at hw
  refine xw_aload_n d_M_writeMap_31 rfl rfl ?_
  refine xw_iload_n d_M_writeMap_32 rfl rfl ?_
  obtain ⟨⟨f2, hA⟩, hw⟩ := hw
  refine xc_V1i lk_M_122 in_M_mayWrite d_M_writeMap_33 (x_M_mayWrite hw) rfl hA rfl ?_
  intro x3 h1 hw
  refine xw_if_ne (tgt := 40) d_M_writeMap_36 (by decide) (fun c12 => ?_) (fun c12 => ?_)
  · have hw := hw.1 c12
    refine xw_aload_n d_M_writeMap_40 rfl rfl ?_
    obtain ⟨f4, a5, hA, hB, hw⟩ := hw
    refine xw_getr fr_M_34 d_M_writeMap_41 hA hB ?_
    refine xw_iload d_M_writeMap_44 rfl ?_
    refine xw_iload_n d_M_writeMap_46 rfl rfl ?_
    obtain ⟨ar6, hA, hB, hC, hw⟩ := hw
    refine xw_iastore (t := 0) rfl d_M_writeMap_47 hA hB hC ?_
    generalize hh : xu h1 a5 (.inl (0, .inl (ar6.set l5.toNatClampNeg l3))) = h7
    have hw := hw h7 hh.symm
    refine xw_aload_n d_M_writeMap_48 rfl rfl ?_
    obtain ⟨f8, a9, hA, hB, hw⟩ := hw
    refine xw_getr fr_M_37 d_M_writeMap_49 hA hB ?_
    refine xw_iload d_M_writeMap_52 rfl ?_
    refine xw_iload d_M_writeMap_54 rfl ?_
    obtain ⟨ar10, hA, hB, hC, hw⟩ := hw
    refine xw_iastore (t := 0) rfl d_M_writeMap_56 hA hB hC ?_
    generalize hh : xu h7 a9 (.inl (0, .inl (ar10.set l5.toNatClampNeg l4))) = h11
    have hw := hw h11 hh.symm
    exact xw_return rfl d_M_writeMap_57 hw
  · have hw := hw.2 c12
    exact xw_return rfl d_M_writeMap_39 hw
set_option maxRecDepth 100000 in
def w_M_writeMap (Q : Option Value → xH → Prop) (this : Nat) (p1 : Int32) (p2 : Int32) (p3 : Int32) (p4 : Int32) (h : xH) : Prop := ∃ (f1 : List Value) (a2 : Nat), h.2 this = some (.inr (8, f1)) ∧ f1[9]? = some (.ref a2) ∧ ∃ (ar10 : List Int32) (x3 : Int32), h.2 a2 = some (.inl (0, .inl ar10)) ∧ 0 ≤ ((16 * p1) + p2 : Int32) ∧ ar10[((16 * p1) + p2 : Int32).toNatClampNeg]? = some x3 ∧ ((¬ x3 = p3 → w_M_writeMap_31 Q (this) (p1) (p2) (p3) (p4) ((16 * p1) + p2) h) ∧ (x3 = p3 → ∃ (f4 : List Value) (a5 : Nat), h.2 this = some (.inr (8, f4)) ∧ f4[10]? = some (.ref a5) ∧ ∃ (ar8 : List Int32) (x6 : Int32), h.2 a5 = some (.inl (0, .inl ar8)) ∧ 0 ≤ ((16 * p1) + p2 : Int32) ∧ ar8[((16 * p1) + p2 : Int32).toNatClampNeg]? = some x6 ∧ ((x6 = p4 → Q none h) ∧ (¬ x6 = p4 → w_M_writeMap_31 Q (this) (p1) (p2) (p3) (p4) ((16 * p1) + p2) h))))
set_option maxRecDepth 100000 in
set_option maxHeartbeats 4000000 in
theorem x_M_writeMap {sc : List Int32} {Q : Option Value → xH → Prop} {this : Nat} {p1 : Int32} {p2 : Int32} {p3 : Int32} {p4 : Int32} {h : xH} (hw : w_M_writeMap Q this p1 p2 p3 p4 h) : xMet sc m_M_writeMap 2 0 0 [.ref (this), .int (p1), .int (p2), .int (p3), .int (p4)] h Q := by
  unfold w_M_writeMap at hw
  refine xMet.of2 cw_M_writeMap rfl rfl ?_
  show xW sc m_M_writeMap 2 0 0 0 [some (.ref (this)), some (.int (p1)), some (.int (p2)), some (.int (p3)), some (.int (p4)), none] [] h Q
  refine xw_bipush (v := 16) d_M_writeMap_0 (by decide) ?_
  refine xw_iload_n d_M_writeMap_2 rfl rfl ?_
  refine xw_imul d_M_writeMap_3 ?_
  refine xw_iload_n d_M_writeMap_4 rfl rfl ?_
  refine xw_iadd d_M_writeMap_5 ?_
  refine xs_istore (lv' := [some (.ref (this)), some (.int (p1)), some (.int (p2)), some (.int (p3)), some (.int (p4)), some (.int ((16 * p1) + p2))]) d_M_writeMap_6 rfl rfl ?_
  refine xw_aload_n d_M_writeMap_8 rfl rfl ?_
  obtain ⟨f1, a2, hA, hB, hw⟩ := hw
  refine xw_getr fr_M_34 d_M_writeMap_9 hA hB ?_
  refine xw_iload d_M_writeMap_12 rfl ?_
  obtain ⟨ar10, x3, hA, hB, hC, hw⟩ := hw
  refine xw_iaload (t := 0) rfl d_M_writeMap_14 hA hB hC ?_
  refine xw_iload_n d_M_writeMap_15 rfl rfl ?_
  refine xw_icmp_ne (tgt := 31) d_M_writeMap_16 (by decide) (fun c9 => ?_) (fun c9 => ?_)
  · have hw := hw.1 c9
    exact p_M_writeMap_31  (this) (p1) (p2) (p3) (p4) ((16 * p1) + p2) h hw
  · have hw := hw.2 c9
    refine xw_aload_n d_M_writeMap_19 rfl rfl ?_
    obtain ⟨f4, a5, hA, hB, hw⟩ := hw
    refine xw_getr fr_M_37 d_M_writeMap_20 hA hB ?_
    refine xw_iload d_M_writeMap_23 rfl ?_
    obtain ⟨ar8, x6, hA, hB, hC, hw⟩ := hw
    refine xw_iaload (t := 0) rfl d_M_writeMap_25 hA hB hC ?_
    refine xw_iload d_M_writeMap_26 rfl ?_
    refine xw_icmp_eq (tgt := 39) d_M_writeMap_28 (by decide) (fun c7 => ?_) (fun c7 => ?_)
    · have hw := hw.1 c7
      exact xw_return rfl d_M_writeMap_39 hw
    · have hw := hw.2 c7
      exact p_M_writeMap_31  (this) (p1) (p2) (p3) (p4) ((16 * p1) + p2) h hw
set_option maxRecDepth 100000 in
def w_M_writeVote_43 (Q : Option Value → xH → Prop) (l0 : Nat) (l1 : Int32) (l2 : Int32) (l3 : Int32) (l4 : Int32) (l5 : Int32) (l6 : Int32) (h : xH) : Prop := (∃ f2, h.2 l0 = some (.inr (8, f2))) ∧ w_M_mayWrite (fun v h1 => ∃ (x3 : Int32), v = some (.int x3) ∧ ((¬ x3 = 0 → ∃ (f4 : List Value) (a5 : Nat), h1.2 l0 = some (.inr (8, f4)) ∧ f4[11]? = some (.ref a5) ∧ ∃ ar6, h1.2 a5 = some (.inl (0, .inl ar6)) ∧ 0 ≤ l6 ∧ l6.toNatClampNeg < ar6.length ∧ ∀ h7, h7 = xu h1 a5 (.inl (0, .inl (ar6.set l6.toNatClampNeg l3))) → ∃ (f8 : List Value) (a9 : Nat), h7.2 l0 = some (.inr (8, f8)) ∧ f8[12]? = some (.ref a9) ∧ ∃ ar10, h7.2 a9 = some (.inl (0, .inl ar10)) ∧ 0 ≤ l6 ∧ l6.toNatClampNeg < ar10.length ∧ ∀ h11, h11 = xu h7 a9 (.inl (0, .inl (ar10.set l6.toNatClampNeg l4))) → ∃ (f12 : List Value) (a13 : Nat), h11.2 l0 = some (.inr (8, f12)) ∧ f12[13]? = some (.ref a13) ∧ ∃ ar14, h11.2 a13 = some (.inl (0, .inl ar14)) ∧ 0 ≤ l6 ∧ l6.toNatClampNeg < ar14.length ∧ ∀ h15, h15 = xu h11 a13 (.inl (0, .inl (ar14.set l6.toNatClampNeg l5))) → Q none h15) ∧ (x3 = 0 → Q none h1))) l0 l1 h
set_option maxRecDepth 100000 in
set_option maxHeartbeats 4000000 in
theorem p_M_writeVote_43 {sc : List Int32} {Q : Option Value → xH → Prop} (l0 : Nat) (l1 : Int32) (l2 : Int32) (l3 : Int32) (l4 : Int32) (l5 : Int32) (l6 : Int32) (h : xH) (hw : w_M_writeVote_43 Q l0 l1 l2 l3 l4 l5 l6 h) : xW sc m_M_writeVote 2 0 0 43 [some (.ref (l0)), some (.int (l1)), some (.int (l2)), some (.int (l3)), some (.int (l4)), some (.int (l5)), some (.int (l6))] [] h Q := by
  unfold w_M_writeVote_43 at hw
  refine xw_aload_n d_M_writeVote_43 rfl rfl ?_
  refine xw_iload_n d_M_writeVote_44 rfl rfl ?_
  obtain ⟨⟨f2, hA⟩, hw⟩ := hw
  refine xc_V1i lk_M_122 in_M_mayWrite d_M_writeVote_45 (x_M_mayWrite hw) rfl hA rfl ?_
  intro x3 h1 hw
  refine xw_if_ne (tgt := 52) d_M_writeVote_48 (by decide) (fun c16 => ?_) (fun c16 => ?_)
  · have hw := hw.1 c16
    refine xw_aload_n d_M_writeVote_52 rfl rfl ?_
    obtain ⟨f4, a5, hA, hB, hw⟩ := hw
    refine xw_getr fr_M_40 d_M_writeVote_53 hA hB ?_
    refine xw_iload d_M_writeVote_56 rfl ?_
    refine xw_iload_n d_M_writeVote_58 rfl rfl ?_
    obtain ⟨ar6, hA, hB, hC, hw⟩ := hw
    refine xw_iastore (t := 0) rfl d_M_writeVote_59 hA hB hC ?_
    generalize hh : xu h1 a5 (.inl (0, .inl (ar6.set l6.toNatClampNeg l3))) = h7
    have hw := hw h7 hh.symm
    refine xw_aload_n d_M_writeVote_60 rfl rfl ?_
    obtain ⟨f8, a9, hA, hB, hw⟩ := hw
    refine xw_getr fr_M_43 d_M_writeVote_61 hA hB ?_
    refine xw_iload d_M_writeVote_64 rfl ?_
    refine xw_iload d_M_writeVote_66 rfl ?_
    obtain ⟨ar10, hA, hB, hC, hw⟩ := hw
    refine xw_iastore (t := 0) rfl d_M_writeVote_68 hA hB hC ?_
    generalize hh : xu h7 a9 (.inl (0, .inl (ar10.set l6.toNatClampNeg l4))) = h11
    have hw := hw h11 hh.symm
    refine xw_aload_n d_M_writeVote_69 rfl rfl ?_
    obtain ⟨f12, a13, hA, hB, hw⟩ := hw
    refine xw_getr fr_M_46 d_M_writeVote_70 hA hB ?_
    refine xw_iload d_M_writeVote_73 rfl ?_
    refine xw_iload d_M_writeVote_75 rfl ?_
    obtain ⟨ar14, hA, hB, hC, hw⟩ := hw
    refine xw_iastore (t := 0) rfl d_M_writeVote_77 hA hB hC ?_
    generalize hh : xu h11 a13 (.inl (0, .inl (ar14.set l6.toNatClampNeg l5))) = h15
    have hw := hw h15 hh.symm
    exact xw_return rfl d_M_writeVote_78 hw
  · have hw := hw.2 c16
    exact xw_return rfl d_M_writeVote_51 hw
set_option maxRecDepth 100000 in
def w_M_writeVote (Q : Option Value → xH → Prop) (this : Nat) (p1 : Int32) (p2 : Int32) (p3 : Int32) (p4 : Int32) (p5 : Int32) (h : xH) : Prop := ∃ (f1 : List Value) (a2 : Nat), h.2 this = some (.inr (8, f1)) ∧ f1[11]? = some (.ref a2) ∧ ∃ (ar15 : List Int32) (x3 : Int32), h.2 a2 = some (.inl (0, .inl ar15)) ∧ 0 ≤ ((16 * p1) + p2 : Int32) ∧ ar15[((16 * p1) + p2 : Int32).toNatClampNeg]? = some x3 ∧ ((¬ x3 = p3 → w_M_writeVote_43 Q (this) (p1) (p2) (p3) (p4) (p5) ((16 * p1) + p2) h) ∧ (x3 = p3 → ∃ (f4 : List Value) (a5 : Nat), h.2 this = some (.inr (8, f4)) ∧ f4[12]? = some (.ref a5) ∧ ∃ (ar13 : List Int32) (x6 : Int32), h.2 a5 = some (.inl (0, .inl ar13)) ∧ 0 ≤ ((16 * p1) + p2 : Int32) ∧ ar13[((16 * p1) + p2 : Int32).toNatClampNeg]? = some x6 ∧ ((¬ x6 = p4 → w_M_writeVote_43 Q (this) (p1) (p2) (p3) (p4) (p5) ((16 * p1) + p2) h) ∧ (x6 = p4 → ∃ (f7 : List Value) (a8 : Nat), h.2 this = some (.inr (8, f7)) ∧ f7[13]? = some (.ref a8) ∧ ∃ (ar11 : List Int32) (x9 : Int32), h.2 a8 = some (.inl (0, .inl ar11)) ∧ 0 ≤ ((16 * p1) + p2 : Int32) ∧ ar11[((16 * p1) + p2 : Int32).toNatClampNeg]? = some x9 ∧ ((x9 = p5 → Q none h) ∧ (¬ x9 = p5 → w_M_writeVote_43 Q (this) (p1) (p2) (p3) (p4) (p5) ((16 * p1) + p2) h))))))
set_option maxRecDepth 100000 in
set_option maxHeartbeats 4000000 in
theorem x_M_writeVote {sc : List Int32} {Q : Option Value → xH → Prop} {this : Nat} {p1 : Int32} {p2 : Int32} {p3 : Int32} {p4 : Int32} {p5 : Int32} {h : xH} (hw : w_M_writeVote Q this p1 p2 p3 p4 p5 h) : xMet sc m_M_writeVote 2 0 0 [.ref (this), .int (p1), .int (p2), .int (p3), .int (p4), .int (p5)] h Q := by
  unfold w_M_writeVote at hw
  refine xMet.of2 cw_M_writeVote rfl rfl ?_
  show xW sc m_M_writeVote 2 0 0 0 [some (.ref (this)), some (.int (p1)), some (.int (p2)), some (.int (p3)), some (.int (p4)), some (.int (p5)), none] [] h Q
  refine xw_bipush (v := 16) d_M_writeVote_0 (by decide) ?_
  refine xw_iload_n d_M_writeVote_2 rfl rfl ?_
  refine xw_imul d_M_writeVote_3 ?_
  refine xw_iload_n d_M_writeVote_4 rfl rfl ?_
  refine xw_iadd d_M_writeVote_5 ?_
  refine xs_istore (lv' := [some (.ref (this)), some (.int (p1)), some (.int (p2)), some (.int (p3)), some (.int (p4)), some (.int (p5)), some (.int ((16 * p1) + p2))]) d_M_writeVote_6 rfl rfl ?_
  refine xw_aload_n d_M_writeVote_8 rfl rfl ?_
  obtain ⟨f1, a2, hA, hB, hw⟩ := hw
  refine xw_getr fr_M_40 d_M_writeVote_9 hA hB ?_
  refine xw_iload d_M_writeVote_12 rfl ?_
  obtain ⟨ar15, x3, hA, hB, hC, hw⟩ := hw
  refine xw_iaload (t := 0) rfl d_M_writeVote_14 hA hB hC ?_
  refine xw_iload_n d_M_writeVote_15 rfl rfl ?_
  refine xw_icmp_ne (tgt := 43) d_M_writeVote_16 (by decide) (fun c14 => ?_) (fun c14 => ?_)
  · have hw := hw.1 c14
    exact p_M_writeVote_43  (this) (p1) (p2) (p3) (p4) (p5) ((16 * p1) + p2) h hw
  · have hw := hw.2 c14
    refine xw_aload_n d_M_writeVote_19 rfl rfl ?_
    obtain ⟨f4, a5, hA, hB, hw⟩ := hw
    refine xw_getr fr_M_43 d_M_writeVote_20 hA hB ?_
    refine xw_iload d_M_writeVote_23 rfl ?_
    obtain ⟨ar13, x6, hA, hB, hC, hw⟩ := hw
    refine xw_iaload (t := 0) rfl d_M_writeVote_25 hA hB hC ?_
    refine xw_iload d_M_writeVote_26 rfl ?_
    refine xw_icmp_ne (tgt := 43) d_M_writeVote_28 (by decide) (fun c12 => ?_) (fun c12 => ?_)
    · have hw := hw.1 c12
      exact p_M_writeVote_43  (this) (p1) (p2) (p3) (p4) (p5) ((16 * p1) + p2) h hw
    · have hw := hw.2 c12
      refine xw_aload_n d_M_writeVote_31 rfl rfl ?_
      obtain ⟨f7, a8, hA, hB, hw⟩ := hw
      refine xw_getr fr_M_46 d_M_writeVote_32 hA hB ?_
      refine xw_iload d_M_writeVote_35 rfl ?_
      obtain ⟨ar11, x9, hA, hB, hC, hw⟩ := hw
      refine xw_iaload (t := 0) rfl d_M_writeVote_37 hA hB hC ?_
      refine xw_iload d_M_writeVote_38 rfl ?_
      refine xw_icmp_eq (tgt := 51) d_M_writeVote_40 (by decide) (fun c10 => ?_) (fun c10 => ?_)
      · have hw := hw.1 c10
        exact xw_return rfl d_M_writeVote_51 hw
      · have hw := hw.2 c10
        exact p_M_writeVote_43  (this) (p1) (p2) (p3) (p4) (p5) ((16 * p1) + p2) h hw
set_option maxRecDepth 100000 in
def w_M_greatest_30 (Q : Option Value → xH → Prop) (L4 : Nat → Int32 → Int32 → Int32 → xH → Prop) (l0 : Nat) (l1 : Int32) (l2 : Int32) (l3 : Int32) (s0 : Int32) (h : xH) : Prop := L4 (l0) (l1) (s0) (l3 + 1) h
set_option maxRecDepth 100000 in
set_option maxHeartbeats 4000000 in
theorem p_M_greatest_30 {sc : List Int32} {Q : Option Value → xH → Prop} {L4 : Nat → Int32 → Int32 → Int32 → xH → Prop} (hL4 : ∀ l0 l1 l2 l3 h, L4 l0 l1 l2 l3 h → xW sc m_M_greatest 0 0 0 4 [some (.ref (l0)), some (.int (l1)), some (.int (l2)), some (.int (l3))] [] h Q) (l0 : Nat) (l1 : Int32) (l2 : Int32) (l3 : Int32) (s0 : Int32) (h : xH) (hw : w_M_greatest_30 Q L4 l0 l1 l2 l3 s0 h) : xW sc m_M_greatest 0 0 0 30 [some (.ref (l0)), some (.int (l1)), some (.int (l2)), some (.int (l3))] [.int (s0)] h Q := by
  unfold w_M_greatest_30 at hw
  refine xs_istore_n (lv' := [some (.ref (l0)), some (.int (l1)), some (.int (s0)), some (.int (l3))]) d_M_greatest_30 rfl rfl rfl ?_
  refine xs_iinc (v := l3 + 1) (lv' := [some (.ref (l0)), some (.int (l1)), some (.int (s0)), some (.int (l3 + 1))]) d_M_greatest_31 rfl rfl rfl ?_
  refine xw_goto (tgt := 4) d_M_greatest_34 (by decide) ?_
  exact hL4 (l0) (l1) (s0) (l3 + 1) h hw
set_option maxRecDepth 100000 in
def w_M_greatest_4 (Q : Option Value → xH → Prop) : Nat → Nat → Int32 → Int32 → Int32 → xH → Prop
  | 0, _, _, _, _, _ => False
  | n + 1, l0, l1, l2, l3, h => ((16 ≤ l3 → Q (some (.int l2)) h) ∧ (¬ 16 ≤ l3 → ∃ (f1 : List Value) (a2 : Nat), h.2 l0 = some (.inr (8, f1)) ∧ f1[9]? = some (.ref a2) ∧ ∃ (ar5 : List Int32) (x3 : Int32), h.2 a2 = some (.inl (0, .inl ar5)) ∧ 0 ≤ ((16 * l1) + l3 : Int32) ∧ ar5[((16 * l1) + l3 : Int32).toNatClampNeg]? = some x3 ∧ ((¬ x3 = 1 → w_M_greatest_30 Q (fun y0 y1 y2 y3 yh => w_M_greatest_4 Q n y0 y1 y2 y3 yh) (l0) (l1) (l2) (l3) (l2) h) ∧ (x3 = 1 → w_M_greatest_30 Q (fun y0 y1 y2 y3 yh => w_M_greatest_4 Q n y0 y1 y2 y3 yh) (l0) (l1) (l2) (l3) (l3) h))))
set_option maxRecDepth 100000 in
set_option maxHeartbeats 4000000 in
theorem p_M_greatest_4 {sc : List Int32} {Q : Option Value → xH → Prop} : ∀ (n : Nat) (l0 : Nat) (l1 : Int32) (l2 : Int32) (l3 : Int32) (h : xH), w_M_greatest_4 Q n l0 l1 l2 l3 h → xW sc m_M_greatest 0 0 0 4 [some (.ref (l0)), some (.int (l1)), some (.int (l2)), some (.int (l3))] [] h Q := by
  intro n
  induction n with
  | zero => intro l0 l1 l2 l3 h hw; exact False.elim hw
  | succ n ih =>
    intro l0 l1 l2 l3 h hw
    rw [w_M_greatest_4] at hw
    refine xw_iload_n d_M_greatest_4 rfl rfl ?_
    refine xw_bipush (v := 16) d_M_greatest_5 (by decide) ?_
    refine xw_icmp_ge (tgt := 37) d_M_greatest_7 (by decide) (fun c6 => ?_) (fun c6 => ?_)
    · have hw := hw.1 c6
      refine xw_iload_n d_M_greatest_37 rfl rfl ?_
      exact xw_ireturn rfl d_M_greatest_38 hw
    · have hw := hw.2 c6
      refine xw_aload_n d_M_greatest_10 rfl rfl ?_
      obtain ⟨f1, a2, hA, hB, hw⟩ := hw
      refine xw_getr fr_M_34 d_M_greatest_11 hA hB ?_
      refine xw_bipush (v := 16) d_M_greatest_14 (by decide) ?_
      refine xw_iload_n d_M_greatest_16 rfl rfl ?_
      refine xw_imul d_M_greatest_17 ?_
      refine xw_iload_n d_M_greatest_18 rfl rfl ?_
      refine xw_iadd d_M_greatest_19 ?_
      obtain ⟨ar5, x3, hA, hB, hC, hw⟩ := hw
      refine xw_iaload (t := 0) rfl d_M_greatest_20 hA hB hC ?_
      refine xw_iconst (v := 1) d_M_greatest_21 (by decide) ?_
      refine xw_icmp_ne (tgt := 29) d_M_greatest_22 (by decide) (fun c4 => ?_) (fun c4 => ?_)
      · have hw := hw.1 c4
        refine xw_iload_n d_M_greatest_29 rfl rfl ?_
        exact p_M_greatest_30 ih (l0) (l1) (l2) (l3) (l2) h hw
      · have hw := hw.2 c4
        refine xw_iload_n d_M_greatest_25 rfl rfl ?_
        refine xw_goto (tgt := 30) d_M_greatest_26 (by decide) ?_
        exact p_M_greatest_30 ih (l0) (l1) (l2) (l3) (l3) h hw
set_option maxRecDepth 100000 in
def w_M_greatest (Q : Option Value → xH → Prop) (this : Nat) (p1 : Int32) (h : xH) : Prop := ∃ n1, w_M_greatest_4 Q n1 (this) (p1) (-1) (0) h
set_option maxRecDepth 100000 in
set_option maxHeartbeats 4000000 in
theorem x_M_greatest {sc : List Int32} {Q : Option Value → xH → Prop} {this : Nat} {p1 : Int32} {h : xH} (hw : w_M_greatest Q this p1 h) : xMet sc m_M_greatest 0 0 0 [.ref (this), .int (p1)] h Q := by
  unfold w_M_greatest at hw
  refine xMet.of2 cw_M_greatest rfl rfl ?_
  show xW sc m_M_greatest 0 0 0 0 [some (.ref (this)), some (.int (p1)), none, none] [] h Q
  refine xw_iconst (v := -1) d_M_greatest_0 (by decide) ?_
  refine xs_istore_n (lv' := [some (.ref (this)), some (.int (p1)), some (.int (-1)), none]) d_M_greatest_1 rfl rfl rfl ?_
  refine xw_iconst (v := 0) d_M_greatest_2 (by decide) ?_
  refine xs_istore_n (lv' := [some (.ref (this)), some (.int (p1)), some (.int (-1)), some (.int (0))]) d_M_greatest_3 rfl rfl rfl ?_
  obtain ⟨n1, hw⟩ := hw
  exact p_M_greatest_4  n1 (this) (p1) (-1) (0) h hw
set_option maxRecDepth 100000 in
def w_M_least_29 (Q : Option Value → xH → Prop) (L5 : Nat → Int32 → Int32 → Int32 → xH → Prop) (l0 : Nat) (l1 : Int32) (l2 : Int32) (l3 : Int32) (s0 : Int32) (h : xH) : Prop := L5 (l0) (l1) (s0) (l3 + (-1)) h
set_option maxRecDepth 100000 in
set_option maxHeartbeats 4000000 in
theorem p_M_least_29 {sc : List Int32} {Q : Option Value → xH → Prop} {L5 : Nat → Int32 → Int32 → Int32 → xH → Prop} (hL5 : ∀ l0 l1 l2 l3 h, L5 l0 l1 l2 l3 h → xW sc m_M_least 0 0 0 5 [some (.ref (l0)), some (.int (l1)), some (.int (l2)), some (.int (l3))] [] h Q) (l0 : Nat) (l1 : Int32) (l2 : Int32) (l3 : Int32) (s0 : Int32) (h : xH) (hw : w_M_least_29 Q L5 l0 l1 l2 l3 s0 h) : xW sc m_M_least 0 0 0 29 [some (.ref (l0)), some (.int (l1)), some (.int (l2)), some (.int (l3))] [.int (s0)] h Q := by
  unfold w_M_least_29 at hw
  refine xs_istore_n (lv' := [some (.ref (l0)), some (.int (l1)), some (.int (s0)), some (.int (l3))]) d_M_least_29 rfl rfl rfl ?_
  refine xs_iinc (v := l3 + (-1)) (lv' := [some (.ref (l0)), some (.int (l1)), some (.int (s0)), some (.int (l3 + (-1)))]) d_M_least_30 rfl rfl rfl ?_
  refine xw_goto (tgt := 5) d_M_least_33 (by decide) ?_
  exact hL5 (l0) (l1) (s0) (l3 + (-1)) h hw
set_option maxRecDepth 100000 in
def w_M_least_5 (Q : Option Value → xH → Prop) : Nat → Nat → Int32 → Int32 → Int32 → xH → Prop
  | 0, _, _, _, _, _ => False
  | n + 1, l0, l1, l2, l3, h => ((l3 < 0 → Q (some (.int l2)) h) ∧ (¬ l3 < 0 → ∃ (f1 : List Value) (a2 : Nat), h.2 l0 = some (.inr (8, f1)) ∧ f1[9]? = some (.ref a2) ∧ ∃ (ar5 : List Int32) (x3 : Int32), h.2 a2 = some (.inl (0, .inl ar5)) ∧ 0 ≤ ((16 * l1) + l3 : Int32) ∧ ar5[((16 * l1) + l3 : Int32).toNatClampNeg]? = some x3 ∧ ((¬ x3 = 1 → w_M_least_29 Q (fun y0 y1 y2 y3 yh => w_M_least_5 Q n y0 y1 y2 y3 yh) (l0) (l1) (l2) (l3) (l2) h) ∧ (x3 = 1 → w_M_least_29 Q (fun y0 y1 y2 y3 yh => w_M_least_5 Q n y0 y1 y2 y3 yh) (l0) (l1) (l2) (l3) (l3) h))))
set_option maxRecDepth 100000 in
set_option maxHeartbeats 4000000 in
theorem p_M_least_5 {sc : List Int32} {Q : Option Value → xH → Prop} : ∀ (n : Nat) (l0 : Nat) (l1 : Int32) (l2 : Int32) (l3 : Int32) (h : xH), w_M_least_5 Q n l0 l1 l2 l3 h → xW sc m_M_least 0 0 0 5 [some (.ref (l0)), some (.int (l1)), some (.int (l2)), some (.int (l3))] [] h Q := by
  intro n
  induction n with
  | zero => intro l0 l1 l2 l3 h hw; exact False.elim hw
  | succ n ih =>
    intro l0 l1 l2 l3 h hw
    rw [w_M_least_5] at hw
    refine xw_iload_n d_M_least_5 rfl rfl ?_
    refine xw_if_lt (tgt := 36) d_M_least_6 (by decide) (fun c6 => ?_) (fun c6 => ?_)
    · have hw := hw.1 c6
      refine xw_iload_n d_M_least_36 rfl rfl ?_
      exact xw_ireturn rfl d_M_least_37 hw
    · have hw := hw.2 c6
      refine xw_aload_n d_M_least_9 rfl rfl ?_
      obtain ⟨f1, a2, hA, hB, hw⟩ := hw
      refine xw_getr fr_M_34 d_M_least_10 hA hB ?_
      refine xw_bipush (v := 16) d_M_least_13 (by decide) ?_
      refine xw_iload_n d_M_least_15 rfl rfl ?_
      refine xw_imul d_M_least_16 ?_
      refine xw_iload_n d_M_least_17 rfl rfl ?_
      refine xw_iadd d_M_least_18 ?_
      obtain ⟨ar5, x3, hA, hB, hC, hw⟩ := hw
      refine xw_iaload (t := 0) rfl d_M_least_19 hA hB hC ?_
      refine xw_iconst (v := 1) d_M_least_20 (by decide) ?_
      refine xw_icmp_ne (tgt := 28) d_M_least_21 (by decide) (fun c4 => ?_) (fun c4 => ?_)
      · have hw := hw.1 c4
        refine xw_iload_n d_M_least_28 rfl rfl ?_
        exact p_M_least_29 ih (l0) (l1) (l2) (l3) (l2) h hw
      · have hw := hw.2 c4
        refine xw_iload_n d_M_least_24 rfl rfl ?_
        refine xw_goto (tgt := 29) d_M_least_25 (by decide) ?_
        exact p_M_least_29 ih (l0) (l1) (l2) (l3) (l3) h hw
set_option maxRecDepth 100000 in
def w_M_least (Q : Option Value → xH → Prop) (this : Nat) (p1 : Int32) (h : xH) : Prop := ∃ n1, w_M_least_5 Q n1 (this) (p1) (-1) (15) h
set_option maxRecDepth 100000 in
set_option maxHeartbeats 4000000 in
theorem x_M_least {sc : List Int32} {Q : Option Value → xH → Prop} {this : Nat} {p1 : Int32} {h : xH} (hw : w_M_least Q this p1 h) : xMet sc m_M_least 0 0 0 [.ref (this), .int (p1)] h Q := by
  unfold w_M_least at hw
  refine xMet.of2 cw_M_least rfl rfl ?_
  show xW sc m_M_least 0 0 0 0 [some (.ref (this)), some (.int (p1)), none, none] [] h Q
  refine xw_iconst (v := -1) d_M_least_0 (by decide) ?_
  refine xs_istore_n (lv' := [some (.ref (this)), some (.int (p1)), some (.int (-1)), none]) d_M_least_1 rfl rfl rfl ?_
  refine xw_bipush (v := 15) d_M_least_2 (by decide) ?_
  refine xs_istore_n (lv' := [some (.ref (this)), some (.int (p1)), some (.int (-1)), some (.int (15))]) d_M_least_4 rfl rfl rfl ?_
  obtain ⟨n1, hw⟩ := hw
  exact p_M_least_5  n1 (this) (p1) (-1) (15) h hw
set_option maxRecDepth 100000 in
def w_M_allActive_45 (Q : Option Value → xH → Prop) (L4 : Nat → Int32 → Int32 → Int32 → xH → Prop) (l0 : Nat) (l1 : Int32) (l2 : Int32) (l3 : Int32) (s0 : Int32) (s1 : Int32) (h : xH) : Prop := L4 (l0) (l1) (s1 ||| s0) (l3 + 1) h
set_option maxRecDepth 100000 in
set_option maxHeartbeats 4000000 in
theorem p_M_allActive_45 {sc : List Int32} {Q : Option Value → xH → Prop} {L4 : Nat → Int32 → Int32 → Int32 → xH → Prop} (hL4 : ∀ l0 l1 l2 l3 h, L4 l0 l1 l2 l3 h → xW sc m_M_allActive 0 0 0 4 [some (.ref (l0)), some (.int (l1)), some (.int (l2)), some (.int (l3))] [] h Q) (l0 : Nat) (l1 : Int32) (l2 : Int32) (l3 : Int32) (s0 : Int32) (s1 : Int32) (h : xH) (hw : w_M_allActive_45 Q L4 l0 l1 l2 l3 s0 s1 h) : xW sc m_M_allActive 0 0 0 45 [some (.ref (l0)), some (.int (l1)), some (.int (l2)), some (.int (l3))] [.int (s0), .int (s1)] h Q := by
  unfold w_M_allActive_45 at hw
  refine xw_ior d_M_allActive_45 ?_
  refine xs_istore_n (lv' := [some (.ref (l0)), some (.int (l1)), some (.int (s1 ||| s0)), some (.int (l3))]) d_M_allActive_46 rfl rfl rfl ?_
  refine xs_iinc (v := l3 + 1) (lv' := [some (.ref (l0)), some (.int (l1)), some (.int (s1 ||| s0)), some (.int (l3 + 1))]) d_M_allActive_47 rfl rfl rfl ?_
  refine xw_goto (tgt := 4) d_M_allActive_50 (by decide) ?_
  exact hL4 (l0) (l1) (s1 ||| s0) (l3 + 1) h hw
set_option maxRecDepth 100000 in
def w_M_allActive_4 (Q : Option Value → xH → Prop) : Nat → Nat → Int32 → Int32 → Int32 → xH → Prop
  | 0, _, _, _, _, _ => False
  | n + 1, l0, l1, l2, l3, h => ((16 ≤ l3 → Q (some (.int l2)) h) ∧ (¬ 16 ≤ l3 → ∃ (f1 : List Value) (a2 : Nat), h.2 l0 = some (.inr (8, f1)) ∧ f1[9]? = some (.ref a2) ∧ ∃ (ar9 : List Int32) (x3 : Int32), h.2 a2 = some (.inl (0, .inl ar9)) ∧ 0 ≤ ((16 * l1) + l3 : Int32) ∧ ar9[((16 * l1) + l3 : Int32).toNatClampNeg]? = some x3 ∧ ((¬ x3 = 1 → w_M_allActive_45 Q (fun y0 y1 y2 y3 yh => w_M_allActive_4 Q n y0 y1 y2 y3 yh) (l0) (l1) (l2) (l3) (0) (l2) h) ∧ (x3 = 1 → ∃ (f4 : List Value) (a5 : Nat), h.2 l0 = some (.inr (8, f4)) ∧ f4[10]? = some (.ref a5) ∧ ∃ (ar7 : List Int32) (x6 : Int32), h.2 a5 = some (.inl (0, .inl ar7)) ∧ 0 ≤ ((16 * l1) + l3 : Int32) ∧ ar7[((16 * l1) + l3 : Int32).toNatClampNeg]? = some x6 ∧ w_M_allActive_45 Q (fun y0 y1 y2 y3 yh => w_M_allActive_4 Q n y0 y1 y2 y3 yh) (l0) (l1) (l2) (l3) (x6 &&& 255) (l2) h))))
set_option maxRecDepth 100000 in
set_option maxHeartbeats 4000000 in
theorem p_M_allActive_4 {sc : List Int32} {Q : Option Value → xH → Prop} : ∀ (n : Nat) (l0 : Nat) (l1 : Int32) (l2 : Int32) (l3 : Int32) (h : xH), w_M_allActive_4 Q n l0 l1 l2 l3 h → xW sc m_M_allActive 0 0 0 4 [some (.ref (l0)), some (.int (l1)), some (.int (l2)), some (.int (l3))] [] h Q := by
  intro n
  induction n with
  | zero => intro l0 l1 l2 l3 h hw; exact False.elim hw
  | succ n ih =>
    intro l0 l1 l2 l3 h hw
    rw [w_M_allActive_4] at hw
    refine xw_iload_n d_M_allActive_4 rfl rfl ?_
    refine xw_bipush (v := 16) d_M_allActive_5 (by decide) ?_
    refine xw_icmp_ge (tgt := 53) d_M_allActive_7 (by decide) (fun c10 => ?_) (fun c10 => ?_)
    · have hw := hw.1 c10
      refine xw_iload_n d_M_allActive_53 rfl rfl ?_
      exact xw_ireturn rfl d_M_allActive_54 hw
    · have hw := hw.2 c10
      refine xw_iload_n d_M_allActive_10 rfl rfl ?_
      refine xw_aload_n d_M_allActive_11 rfl rfl ?_
      obtain ⟨f1, a2, hA, hB, hw⟩ := hw
      refine xw_getr fr_M_34 d_M_allActive_12 hA hB ?_
      refine xw_bipush (v := 16) d_M_allActive_15 (by decide) ?_
      refine xw_iload_n d_M_allActive_17 rfl rfl ?_
      refine xw_imul d_M_allActive_18 ?_
      refine xw_iload_n d_M_allActive_19 rfl rfl ?_
      refine xw_iadd d_M_allActive_20 ?_
      obtain ⟨ar9, x3, hA, hB, hC, hw⟩ := hw
      refine xw_iaload (t := 0) rfl d_M_allActive_21 hA hB hC ?_
      refine xw_iconst (v := 1) d_M_allActive_22 (by decide) ?_
      refine xw_icmp_ne (tgt := 44) d_M_allActive_23 (by decide) (fun c8 => ?_) (fun c8 => ?_)
      · have hw := hw.1 c8
        refine xw_iconst (v := 0) d_M_allActive_44 (by decide) ?_
        exact p_M_allActive_45 ih (l0) (l1) (l2) (l3) (0) (l2) h hw
      · have hw := hw.2 c8
        refine xw_aload_n d_M_allActive_26 rfl rfl ?_
        obtain ⟨f4, a5, hA, hB, hw⟩ := hw
        refine xw_getr fr_M_37 d_M_allActive_27 hA hB ?_
        refine xw_bipush (v := 16) d_M_allActive_30 (by decide) ?_
        refine xw_iload_n d_M_allActive_32 rfl rfl ?_
        refine xw_imul d_M_allActive_33 ?_
        refine xw_iload_n d_M_allActive_34 rfl rfl ?_
        refine xw_iadd d_M_allActive_35 ?_
        obtain ⟨ar7, x6, hA, hB, hC, hw⟩ := hw
        refine xw_iaload (t := 0) rfl d_M_allActive_36 hA hB hC ?_
        refine xw_sipush (v := 255) d_M_allActive_37 (by decide) ?_
        refine xw_iand d_M_allActive_40 ?_
        refine xw_goto (tgt := 45) d_M_allActive_41 (by decide) ?_
        exact p_M_allActive_45 ih (l0) (l1) (l2) (l3) (x6 &&& 255) (l2) h hw
set_option maxRecDepth 100000 in
def w_M_allActive (Q : Option Value → xH → Prop) (this : Nat) (p1 : Int32) (h : xH) : Prop := ∃ n1, w_M_allActive_4 Q n1 (this) (p1) (0) (0) h
set_option maxRecDepth 100000 in
set_option maxHeartbeats 4000000 in
theorem x_M_allActive {sc : List Int32} {Q : Option Value → xH → Prop} {this : Nat} {p1 : Int32} {h : xH} (hw : w_M_allActive Q this p1 h) : xMet sc m_M_allActive 0 0 0 [.ref (this), .int (p1)] h Q := by
  unfold w_M_allActive at hw
  refine xMet.of2 cw_M_allActive rfl rfl ?_
  show xW sc m_M_allActive 0 0 0 0 [some (.ref (this)), some (.int (p1)), none, none] [] h Q
  refine xw_iconst (v := 0) d_M_allActive_0 (by decide) ?_
  refine xs_istore_n (lv' := [some (.ref (this)), some (.int (p1)), some (.int (0)), none]) d_M_allActive_1 rfl rfl rfl ?_
  refine xw_iconst (v := 0) d_M_allActive_2 (by decide) ?_
  refine xs_istore_n (lv' := [some (.ref (this)), some (.int (p1)), some (.int (0)), some (.int (0))]) d_M_allActive_3 rfl rfl rfl ?_
  obtain ⟨n1, hw⟩ := hw
  exact p_M_allActive_4  n1 (this) (p1) (0) (0) h hw
set_option maxRecDepth 100000 in
def w_M_send_368 (Q : Option Value → xH → Prop) (L213 : Nat → Int32 → Int32 → Int32 → Int32 → Int32 → Int32 → Int32 → Int32 → Int32 → Int32 → Int32 → Int32 → Int32 → xH → Prop) (l0 : Nat) (l1 : Int32) (l2 : Int32) (l3 : Int32) (l4 : Int32) (l5 : Int32) (l6 : Int32) (l7 : Int32) (l8 : Int32) (l9 : Int32) (l10 : Int32) (l11 : Int32) (l12 : Int32) (l13 : Int32) (l14 : Int32) (s0 : Int32) (s1 : Int32) (s2 : Nat) (h : xH) : Prop := ∃ ar1, h.2 s2 = some (.inl (0, .inl ar1)) ∧ 0 ≤ s1 ∧ s1.toNatClampNeg < ar1.length ∧ ∀ h2, h2 = xu h s2 (.inl (0, .inl (ar1.set s1.toNatClampNeg s0))) → L213 (l0) (l1) (l2) (l3) (l4) (l5) (l6) (l7) (l8) (l9) (l10) (l11) (l12) (l13 + 1) h2
set_option maxRecDepth 100000 in
set_option maxHeartbeats 4000000 in
theorem p_M_send_368 {sc : List Int32} {Q : Option Value → xH → Prop} {L213 : Nat → Int32 → Int32 → Int32 → Int32 → Int32 → Int32 → Int32 → Int32 → Int32 → Int32 → Int32 → Int32 → Int32 → xH → Prop} (hL213 : ∀ l0 l1 l2 l3 l4 l5 l6 l7 l8 l9 l10 l11 l12 l13 h, L213 l0 l1 l2 l3 l4 l5 l6 l7 l8 l9 l10 l11 l12 l13 h → xW sc m_M_send 0 0 0 213 [some (.ref (l0)), some (.int (l1)), some (.int (l2)), some (.int (l3)), some (.int (l4)), some (.int (l5)), some (.int (l6)), some (.int (l7)), some (.int (l8)), some (.int (l9)), some (.int (l10)), some (.int (l11)), some (.int (l12)), some (.int (l13)), none] [] h Q) (l0 : Nat) (l1 : Int32) (l2 : Int32) (l3 : Int32) (l4 : Int32) (l5 : Int32) (l6 : Int32) (l7 : Int32) (l8 : Int32) (l9 : Int32) (l10 : Int32) (l11 : Int32) (l12 : Int32) (l13 : Int32) (l14 : Int32) (s0 : Int32) (s1 : Int32) (s2 : Nat) (h : xH) (hw : w_M_send_368 Q L213 l0 l1 l2 l3 l4 l5 l6 l7 l8 l9 l10 l11 l12 l13 l14 s0 s1 s2 h) : xW sc m_M_send 0 0 0 368 [some (.ref (l0)), some (.int (l1)), some (.int (l2)), some (.int (l3)), some (.int (l4)), some (.int (l5)), some (.int (l6)), some (.int (l7)), some (.int (l8)), some (.int (l9)), some (.int (l10)), some (.int (l11)), some (.int (l12)), some (.int (l13)), some (.int (l14))] [.int (s0), .int (s1), .ref (s2)] h Q := by
  unfold w_M_send_368 at hw
  obtain ⟨ar1, hA, hB, hC, hw⟩ := hw
  refine xw_iastore (t := 0) rfl d_M_send_368 hA hB hC ?_
  generalize hh : xu h s2 (.inl (0, .inl (ar1.set s1.toNatClampNeg s0))) = h2
  have hw := hw h2 hh.symm
  refine xs_iinc (v := l13 + 1) (lv' := [some (.ref (l0)), some (.int (l1)), some (.int (l2)), some (.int (l3)), some (.int (l4)), some (.int (l5)), some (.int (l6)), some (.int (l7)), some (.int (l8)), some (.int (l9)), some (.int (l10)), some (.int (l11)), some (.int (l12)), some (.int (l13 + 1)), some (.int (l14))]) d_M_send_369 rfl rfl rfl ?_
  refine xw_goto (tgt := 213) d_M_send_372 (by decide) ?_
  refine xs_drop (lv' := [some (.ref (l0)), some (.int (l1)), some (.int (l2)), some (.int (l3)), some (.int (l4)), some (.int (l5)), some (.int (l6)), some (.int (l7)), some (.int (l8)), some (.int (l9)), some (.int (l10)), some (.int (l11)), some (.int (l12)), some (.int (l13 + 1)), none]) 14 rfl ?_
  exact hL213 (l0) (l1) (l2) (l3) (l4) (l5) (l6) (l7) (l8) (l9) (l10) (l11) (l12) (l13 + 1) h2 hw
set_option maxRecDepth 100000 in
def w_M_send_320 (Q : Option Value → xH → Prop) (L213 : Nat → Int32 → Int32 → Int32 → Int32 → Int32 → Int32 → Int32 → Int32 → Int32 → Int32 → Int32 → Int32 → Int32 → xH → Prop) (l0 : Nat) (l1 : Int32) (l2 : Int32) (l3 : Int32) (l4 : Int32) (l5 : Int32) (l6 : Int32) (l7 : Int32) (l8 : Int32) (l9 : Int32) (l10 : Int32) (l11 : Int32) (l12 : Int32) (l13 : Int32) (l14 : Int32) (s0 : Int32) (s1 : Int32) (s2 : Nat) (h : xH) : Prop := ∃ ar1, h.2 s2 = some (.inl (0, .inl ar1)) ∧ 0 ≤ s1 ∧ s1.toNatClampNeg < ar1.length ∧ ∀ h2, h2 = xu h s2 (.inl (0, .inl (ar1.set s1.toNatClampNeg s0))) → ∃ (f3 : List Value) (a4 : Nat), h2.2 l0 = some (.inr (8, f3)) ∧ f3[32]? = some (.ref a4) ∧ ((l10 = 0 → ((l11 = 0 → w_M_send_368 Q L213 (l0) (l1) (l2) (l3) (l4) (l5) (l6) (l7) (l8) (l9) (l10) (l11) (l12) (l13) (l14) (0) (((l12 + 41) + (3 * l13)) + 2) (a4) h2) ∧ (¬ l11 = 0 → ∃ (f5 : List Value) (a6 : Nat), h2.2 l0 = some (.inr (8, f5)) ∧ f5[30]? = some (.ref a6) ∧ ∃ (ar8 : List Int32) (x7 : Int32), h2.2 a6 = some (.inl (0, .inl ar8)) ∧ 0 ≤ l14 ∧ ar8[l14.toNatClampNeg]? = some x7 ∧ w_M_send_368 Q L213 (l0) (l1) (l2) (l3) (l4) (l5) (l6) (l7) (l8) (l9) (l10) (l11) (l12) (l13) (l14) (x7) (((l12 + 41) + (3 * l13)) + 2) (a4) h2))) ∧ (¬ l10 = 0 → ∃ (f10 : List Value) (a11 : Nat), h2.2 l0 = some (.inr (8, f10)) ∧ f10[8]? = some (.ref a11) ∧ ∃ (ar13 : List Int32) (x12 : Int32), h2.2 a11 = some (.inl (0, .inl ar13)) ∧ 0 ≤ l14 ∧ ar13[l14.toNatClampNeg]? = some x12 ∧ w_M_send_368 Q L213 (l0) (l1) (l2) (l3) (l4) (l5) (l6) (l7) (l8) (l9) (l10) (l11) (l12) (l13) (l14) (x12) (((l12 + 41) + (3 * l13)) + 2) (a4) h2))
set_option maxRecDepth 100000 in
set_option maxHeartbeats 4000000 in
theorem p_M_send_320 {sc : List Int32} {Q : Option Value → xH → Prop} {L213 : Nat → Int32 → Int32 → Int32 → Int32 → Int32 → Int32 → Int32 → Int32 → Int32 → Int32 → Int32 → Int32 → Int32 → xH → Prop} (hL213 : ∀ l0 l1 l2 l3 l4 l5 l6 l7 l8 l9 l10 l11 l12 l13 h, L213 l0 l1 l2 l3 l4 l5 l6 l7 l8 l9 l10 l11 l12 l13 h → xW sc m_M_send 0 0 0 213 [some (.ref (l0)), some (.int (l1)), some (.int (l2)), some (.int (l3)), some (.int (l4)), some (.int (l5)), some (.int (l6)), some (.int (l7)), some (.int (l8)), some (.int (l9)), some (.int (l10)), some (.int (l11)), some (.int (l12)), some (.int (l13)), none] [] h Q) (l0 : Nat) (l1 : Int32) (l2 : Int32) (l3 : Int32) (l4 : Int32) (l5 : Int32) (l6 : Int32) (l7 : Int32) (l8 : Int32) (l9 : Int32) (l10 : Int32) (l11 : Int32) (l12 : Int32) (l13 : Int32) (l14 : Int32) (s0 : Int32) (s1 : Int32) (s2 : Nat) (h : xH) (hw : w_M_send_320 Q L213 l0 l1 l2 l3 l4 l5 l6 l7 l8 l9 l10 l11 l12 l13 l14 s0 s1 s2 h) : xW sc m_M_send 0 0 0 320 [some (.ref (l0)), some (.int (l1)), some (.int (l2)), some (.int (l3)), some (.int (l4)), some (.int (l5)), some (.int (l6)), some (.int (l7)), some (.int (l8)), some (.int (l9)), some (.int (l10)), some (.int (l11)), some (.int (l12)), some (.int (l13)), some (.int (l14))] [.int (s0), .int (s1), .ref (s2)] h Q := by
  unfold w_M_send_320 at hw
  obtain ⟨ar1, hA, hB, hC, hw⟩ := hw
  refine xw_iastore (t := 0) rfl d_M_send_320 hA hB hC ?_
  generalize hh : xu h s2 (.inl (0, .inl (ar1.set s1.toNatClampNeg s0))) = h2
  have hw := hw h2 hh.symm
  refine xw_aload_n d_M_send_321 rfl rfl ?_
  obtain ⟨f3, a4, hA, hB, hw⟩ := hw
  refine xw_getr fr_M_97 d_M_send_322 hA hB ?_
  refine xw_iload d_M_send_325 rfl ?_
  refine xw_bipush (v := 41) d_M_send_327 (by decide) ?_
  refine xw_iadd d_M_send_329 ?_
  refine xw_iconst (v := 3) d_M_send_330 (by decide) ?_
  refine xw_iload d_M_send_331 rfl ?_
  refine xw_imul d_M_send_333 ?_
  refine xw_iadd d_M_send_334 ?_
  refine xw_iconst (v := 2) d_M_send_335 (by decide) ?_
  refine xw_iadd d_M_send_336 ?_
  refine xw_iload d_M_send_337 rfl ?_
  refine xw_if_eq (tgt := 352) d_M_send_339 (by decide) (fun c14 => ?_) (fun c14 => ?_)
  · have hw := hw.1 c14
    refine xw_iload d_M_send_352 rfl ?_
    refine xw_if_eq (tgt := 367) d_M_send_354 (by decide) (fun c9 => ?_) (fun c9 => ?_)
    · have hw := hw.1 c9
      refine xw_iconst (v := 0) d_M_send_367 (by decide) ?_
      exact p_M_send_368 hL213 (l0) (l1) (l2) (l3) (l4) (l5) (l6) (l7) (l8) (l9) (l10) (l11) (l12) (l13) (l14) (0) (((l12 + 41) + (3 * l13)) + 2) (a4) h2 hw
    · have hw := hw.2 c9
      refine xw_aload_n d_M_send_357 rfl rfl ?_
      obtain ⟨f5, a6, hA, hB, hw⟩ := hw
      refine xw_getr fr_M_94 d_M_send_358 hA hB ?_
      refine xw_iload d_M_send_361 rfl ?_
      obtain ⟨ar8, x7, hA, hB, hC, hw⟩ := hw
      refine xw_iaload (t := 0) rfl d_M_send_363 hA hB hC ?_
      refine xw_goto (tgt := 368) d_M_send_364 (by decide) ?_
      exact p_M_send_368 hL213 (l0) (l1) (l2) (l3) (l4) (l5) (l6) (l7) (l8) (l9) (l10) (l11) (l12) (l13) (l14) (x7) (((l12 + 41) + (3 * l13)) + 2) (a4) h2 hw
  · have hw := hw.2 c14
    refine xw_aload_n d_M_send_342 rfl rfl ?_
    obtain ⟨f10, a11, hA, hB, hw⟩ := hw
    refine xw_getr fr_M_31 d_M_send_343 hA hB ?_
    refine xw_iload d_M_send_346 rfl ?_
    obtain ⟨ar13, x12, hA, hB, hC, hw⟩ := hw
    refine xw_iaload (t := 0) rfl d_M_send_348 hA hB hC ?_
    refine xw_goto (tgt := 368) d_M_send_349 (by decide) ?_
    exact p_M_send_368 hL213 (l0) (l1) (l2) (l3) (l4) (l5) (l6) (l7) (l8) (l9) (l10) (l11) (l12) (l13) (l14) (x12) (((l12 + 41) + (3 * l13)) + 2) (a4) h2 hw
set_option maxRecDepth 100000 in
def w_M_send_272 (Q : Option Value → xH → Prop) (L213 : Nat → Int32 → Int32 → Int32 → Int32 → Int32 → Int32 → Int32 → Int32 → Int32 → Int32 → Int32 → Int32 → Int32 → xH → Prop) (l0 : Nat) (l1 : Int32) (l2 : Int32) (l3 : Int32) (l4 : Int32) (l5 : Int32) (l6 : Int32) (l7 : Int32) (l8 : Int32) (l9 : Int32) (l10 : Int32) (l11 : Int32) (l12 : Int32) (l13 : Int32) (l14 : Int32) (s0 : Int32) (s1 : Int32) (s2 : Nat) (h : xH) : Prop := ∃ ar1, h.2 s2 = some (.inl (0, .inl ar1)) ∧ 0 ≤ s1 ∧ s1.toNatClampNeg < ar1.length ∧ ∀ h2, h2 = xu h s2 (.inl (0, .inl (ar1.set s1.toNatClampNeg s0))) → ∃ (f3 : List Value) (a4 : Nat), h2.2 l0 = some (.inr (8, f3)) ∧ f3[32]? = some (.ref a4) ∧ ((l10 = 0 → ((l11 = 0 → w_M_send_320 Q L213 (l0) (l1) (l2) (l3) (l4) (l5) (l6) (l7) (l8) (l9) (l10) (l11) (l12) (l13) (l14) (0) (((l12 + 41) + (3 * l13)) + 1) (a4) h2) ∧ (¬ l11 = 0 → ∃ (f5 : List Value) (a6 : Nat), h2.2 l0 = some (.inr (8, f5)) ∧ f5[29]? = some (.ref a6) ∧ ∃ (ar8 : List Int32) (x7 : Int32), h2.2 a6 = some (.inl (0, .inl ar8)) ∧ 0 ≤ l14 ∧ ar8[l14.toNatClampNeg]? = some x7 ∧ w_M_send_320 Q L213 (l0) (l1) (l2) (l3) (l4) (l5) (l6) (l7) (l8) (l9) (l10) (l11) (l12) (l13) (l14) (x7) (((l12 + 41) + (3 * l13)) + 1) (a4) h2))) ∧ (¬ l10 = 0 → ∃ (f10 : List Value) (a11 : Nat), h2.2 l0 = some (.inr (8, f10)) ∧ f10[7]? = some (.ref a11) ∧ ∃ (ar13 : List Int32) (x12 : Int32), h2.2 a11 = some (.inl (0, .inl ar13)) ∧ 0 ≤ l14 ∧ ar13[l14.toNatClampNeg]? = some x12 ∧ w_M_send_320 Q L213 (l0) (l1) (l2) (l3) (l4) (l5) (l6) (l7) (l8) (l9) (l10) (l11) (l12) (l13) (l14) (x12) (((l12 + 41) + (3 * l13)) + 1) (a4) h2))
set_option maxRecDepth 100000 in
set_option maxHeartbeats 4000000 in
theorem p_M_send_272 {sc : List Int32} {Q : Option Value → xH → Prop} {L213 : Nat → Int32 → Int32 → Int32 → Int32 → Int32 → Int32 → Int32 → Int32 → Int32 → Int32 → Int32 → Int32 → Int32 → xH → Prop} (hL213 : ∀ l0 l1 l2 l3 l4 l5 l6 l7 l8 l9 l10 l11 l12 l13 h, L213 l0 l1 l2 l3 l4 l5 l6 l7 l8 l9 l10 l11 l12 l13 h → xW sc m_M_send 0 0 0 213 [some (.ref (l0)), some (.int (l1)), some (.int (l2)), some (.int (l3)), some (.int (l4)), some (.int (l5)), some (.int (l6)), some (.int (l7)), some (.int (l8)), some (.int (l9)), some (.int (l10)), some (.int (l11)), some (.int (l12)), some (.int (l13)), none] [] h Q) (l0 : Nat) (l1 : Int32) (l2 : Int32) (l3 : Int32) (l4 : Int32) (l5 : Int32) (l6 : Int32) (l7 : Int32) (l8 : Int32) (l9 : Int32) (l10 : Int32) (l11 : Int32) (l12 : Int32) (l13 : Int32) (l14 : Int32) (s0 : Int32) (s1 : Int32) (s2 : Nat) (h : xH) (hw : w_M_send_272 Q L213 l0 l1 l2 l3 l4 l5 l6 l7 l8 l9 l10 l11 l12 l13 l14 s0 s1 s2 h) : xW sc m_M_send 0 0 0 272 [some (.ref (l0)), some (.int (l1)), some (.int (l2)), some (.int (l3)), some (.int (l4)), some (.int (l5)), some (.int (l6)), some (.int (l7)), some (.int (l8)), some (.int (l9)), some (.int (l10)), some (.int (l11)), some (.int (l12)), some (.int (l13)), some (.int (l14))] [.int (s0), .int (s1), .ref (s2)] h Q := by
  unfold w_M_send_272 at hw
  obtain ⟨ar1, hA, hB, hC, hw⟩ := hw
  refine xw_iastore (t := 0) rfl d_M_send_272 hA hB hC ?_
  generalize hh : xu h s2 (.inl (0, .inl (ar1.set s1.toNatClampNeg s0))) = h2
  have hw := hw h2 hh.symm
  refine xw_aload_n d_M_send_273 rfl rfl ?_
  obtain ⟨f3, a4, hA, hB, hw⟩ := hw
  refine xw_getr fr_M_97 d_M_send_274 hA hB ?_
  refine xw_iload d_M_send_277 rfl ?_
  refine xw_bipush (v := 41) d_M_send_279 (by decide) ?_
  refine xw_iadd d_M_send_281 ?_
  refine xw_iconst (v := 3) d_M_send_282 (by decide) ?_
  refine xw_iload d_M_send_283 rfl ?_
  refine xw_imul d_M_send_285 ?_
  refine xw_iadd d_M_send_286 ?_
  refine xw_iconst (v := 1) d_M_send_287 (by decide) ?_
  refine xw_iadd d_M_send_288 ?_
  refine xw_iload d_M_send_289 rfl ?_
  refine xw_if_eq (tgt := 304) d_M_send_291 (by decide) (fun c14 => ?_) (fun c14 => ?_)
  · have hw := hw.1 c14
    refine xw_iload d_M_send_304 rfl ?_
    refine xw_if_eq (tgt := 319) d_M_send_306 (by decide) (fun c9 => ?_) (fun c9 => ?_)
    · have hw := hw.1 c9
      refine xw_iconst (v := 0) d_M_send_319 (by decide) ?_
      exact p_M_send_320 hL213 (l0) (l1) (l2) (l3) (l4) (l5) (l6) (l7) (l8) (l9) (l10) (l11) (l12) (l13) (l14) (0) (((l12 + 41) + (3 * l13)) + 1) (a4) h2 hw
    · have hw := hw.2 c9
      refine xw_aload_n d_M_send_309 rfl rfl ?_
      obtain ⟨f5, a6, hA, hB, hw⟩ := hw
      refine xw_getr fr_M_91 d_M_send_310 hA hB ?_
      refine xw_iload d_M_send_313 rfl ?_
      obtain ⟨ar8, x7, hA, hB, hC, hw⟩ := hw
      refine xw_iaload (t := 0) rfl d_M_send_315 hA hB hC ?_
      refine xw_goto (tgt := 320) d_M_send_316 (by decide) ?_
      exact p_M_send_320 hL213 (l0) (l1) (l2) (l3) (l4) (l5) (l6) (l7) (l8) (l9) (l10) (l11) (l12) (l13) (l14) (x7) (((l12 + 41) + (3 * l13)) + 1) (a4) h2 hw
  · have hw := hw.2 c14
    refine xw_aload_n d_M_send_294 rfl rfl ?_
    obtain ⟨f10, a11, hA, hB, hw⟩ := hw
    refine xw_getr fr_M_28 d_M_send_295 hA hB ?_
    refine xw_iload d_M_send_298 rfl ?_
    obtain ⟨ar13, x12, hA, hB, hC, hw⟩ := hw
    refine xw_iaload (t := 0) rfl d_M_send_300 hA hB hC ?_
    refine xw_goto (tgt := 320) d_M_send_301 (by decide) ?_
    exact p_M_send_320 hL213 (l0) (l1) (l2) (l3) (l4) (l5) (l6) (l7) (l8) (l9) (l10) (l11) (l12) (l13) (l14) (x12) (((l12 + 41) + (3 * l13)) + 1) (a4) h2 hw
set_option maxRecDepth 100000 in
def w_M_send_213 (Q : Option Value → xH → Prop) : Nat → Nat → Int32 → Int32 → Int32 → Int32 → Int32 → Int32 → Int32 → Int32 → Int32 → Int32 → Int32 → Int32 → Int32 → xH → Prop
  | 0, _, _, _, _, _, _, _, _, _, _, _, _, _, _, _ => False
  | n + 1, l0, l1, l2, l3, l4, l5, l6, l7, l8, l9, l10, l11, l12, l13, h => ((4 ≤ l13 → Q none h) ∧ (¬ 4 ≤ l13 → ∃ (f1 : List Value) (a2 : Nat), h.2 l0 = some (.inr (8, f1)) ∧ f1[32]? = some (.ref a2) ∧ ((l10 = 0 → ((l11 = 0 → w_M_send_272 Q (fun y0 y1 y2 y3 y4 y5 y6 y7 y8 y9 y10 y11 y12 y13 yh => w_M_send_213 Q n y0 y1 y2 y3 y4 y5 y6 y7 y8 y9 y10 y11 y12 y13 yh) (l0) (l1) (l2) (l3) (l4) (l5) (l6) (l7) (l8) (l9) (l10) (l11) (l12) (l13) ((4 * l2) + l13) (0) ((l12 + 41) + (3 * l13)) (a2) h) ∧ (¬ l11 = 0 → ∃ (f3 : List Value) (a4 : Nat), h.2 l0 = some (.inr (8, f3)) ∧ f3[28]? = some (.ref a4) ∧ ∃ (ar6 : List Int32) (x5 : Int32), h.2 a4 = some (.inl (0, .inl ar6)) ∧ 0 ≤ ((4 * l2) + l13 : Int32) ∧ ar6[((4 * l2) + l13 : Int32).toNatClampNeg]? = some x5 ∧ w_M_send_272 Q (fun y0 y1 y2 y3 y4 y5 y6 y7 y8 y9 y10 y11 y12 y13 yh => w_M_send_213 Q n y0 y1 y2 y3 y4 y5 y6 y7 y8 y9 y10 y11 y12 y13 yh) (l0) (l1) (l2) (l3) (l4) (l5) (l6) (l7) (l8) (l9) (l10) (l11) (l12) (l13) ((4 * l2) + l13) (x5) ((l12 + 41) + (3 * l13)) (a2) h))) ∧ (¬ l10 = 0 → ∃ (f8 : List Value) (a9 : Nat), h.2 l0 = some (.inr (8, f8)) ∧ f8[6]? = some (.ref a9) ∧ ∃ (ar11 : List Int32) (x10 : Int32), h.2 a9 = some (.inl (0, .inl ar11)) ∧ 0 ≤ ((4 * l2) + l13 : Int32) ∧ ar11[((4 * l2) + l13 : Int32).toNatClampNeg]? = some x10 ∧ w_M_send_272 Q (fun y0 y1 y2 y3 y4 y5 y6 y7 y8 y9 y10 y11 y12 y13 yh => w_M_send_213 Q n y0 y1 y2 y3 y4 y5 y6 y7 y8 y9 y10 y11 y12 y13 yh) (l0) (l1) (l2) (l3) (l4) (l5) (l6) (l7) (l8) (l9) (l10) (l11) (l12) (l13) ((4 * l2) + l13) (x10) ((l12 + 41) + (3 * l13)) (a2) h))))
set_option maxRecDepth 100000 in
set_option maxHeartbeats 4000000 in
theorem p_M_send_213 {sc : List Int32} {Q : Option Value → xH → Prop} : ∀ (n : Nat) (l0 : Nat) (l1 : Int32) (l2 : Int32) (l3 : Int32) (l4 : Int32) (l5 : Int32) (l6 : Int32) (l7 : Int32) (l8 : Int32) (l9 : Int32) (l10 : Int32) (l11 : Int32) (l12 : Int32) (l13 : Int32) (h : xH), w_M_send_213 Q n l0 l1 l2 l3 l4 l5 l6 l7 l8 l9 l10 l11 l12 l13 h → xW sc m_M_send 0 0 0 213 [some (.ref (l0)), some (.int (l1)), some (.int (l2)), some (.int (l3)), some (.int (l4)), some (.int (l5)), some (.int (l6)), some (.int (l7)), some (.int (l8)), some (.int (l9)), some (.int (l10)), some (.int (l11)), some (.int (l12)), some (.int (l13)), none] [] h Q := by
  intro n
  induction n with
  | zero => intro l0 l1 l2 l3 l4 l5 l6 l7 l8 l9 l10 l11 l12 l13 h hw; exact False.elim hw
  | succ n ih =>
    intro l0 l1 l2 l3 l4 l5 l6 l7 l8 l9 l10 l11 l12 l13 h hw
    rw [w_M_send_213] at hw
    refine xw_iload d_M_send_213 rfl ?_
    refine xw_iconst (v := 4) d_M_send_215 (by decide) ?_
    refine xw_icmp_ge (tgt := 375) d_M_send_216 (by decide) (fun c13 => ?_) (fun c13 => ?_)
    · have hw := hw.1 c13
      exact xw_return rfl d_M_send_375 hw
    · have hw := hw.2 c13
      refine xw_iconst (v := 4) d_M_send_219 (by decide) ?_
      refine xw_iload_n d_M_send_220 rfl rfl ?_
      refine xw_imul d_M_send_221 ?_
      refine xw_iload d_M_send_222 rfl ?_
      refine xw_iadd d_M_send_224 ?_
      refine xs_istore (lv' := [some (.ref (l0)), some (.int (l1)), some (.int (l2)), some (.int (l3)), some (.int (l4)), some (.int (l5)), some (.int (l6)), some (.int (l7)), some (.int (l8)), some (.int (l9)), some (.int (l10)), some (.int (l11)), some (.int (l12)), some (.int (l13)), some (.int ((4 * l2) + l13))]) d_M_send_225 rfl rfl ?_
      refine xw_aload_n d_M_send_227 rfl rfl ?_
      obtain ⟨f1, a2, hA, hB, hw⟩ := hw
      refine xw_getr fr_M_97 d_M_send_228 hA hB ?_
      refine xw_iload d_M_send_231 rfl ?_
      refine xw_bipush (v := 41) d_M_send_233 (by decide) ?_
      refine xw_iadd d_M_send_235 ?_
      refine xw_iconst (v := 3) d_M_send_236 (by decide) ?_
      refine xw_iload d_M_send_237 rfl ?_
      refine xw_imul d_M_send_239 ?_
      refine xw_iadd d_M_send_240 ?_
      refine xw_iload d_M_send_241 rfl ?_
      refine xw_if_eq (tgt := 256) d_M_send_243 (by decide) (fun c12 => ?_) (fun c12 => ?_)
      · have hw := hw.1 c12
        refine xw_iload d_M_send_256 rfl ?_
        refine xw_if_eq (tgt := 271) d_M_send_258 (by decide) (fun c7 => ?_) (fun c7 => ?_)
        · have hw := hw.1 c7
          refine xw_iconst (v := 0) d_M_send_271 (by decide) ?_
          exact p_M_send_272 ih (l0) (l1) (l2) (l3) (l4) (l5) (l6) (l7) (l8) (l9) (l10) (l11) (l12) (l13) ((4 * l2) + l13) (0) ((l12 + 41) + (3 * l13)) (a2) h hw
        · have hw := hw.2 c7
          refine xw_aload_n d_M_send_261 rfl rfl ?_
          obtain ⟨f3, a4, hA, hB, hw⟩ := hw
          refine xw_getr fr_M_88 d_M_send_262 hA hB ?_
          refine xw_iload d_M_send_265 rfl ?_
          obtain ⟨ar6, x5, hA, hB, hC, hw⟩ := hw
          refine xw_iaload (t := 0) rfl d_M_send_267 hA hB hC ?_
          refine xw_goto (tgt := 272) d_M_send_268 (by decide) ?_
          exact p_M_send_272 ih (l0) (l1) (l2) (l3) (l4) (l5) (l6) (l7) (l8) (l9) (l10) (l11) (l12) (l13) ((4 * l2) + l13) (x5) ((l12 + 41) + (3 * l13)) (a2) h hw
      · have hw := hw.2 c12
        refine xw_aload_n d_M_send_246 rfl rfl ?_
        obtain ⟨f8, a9, hA, hB, hw⟩ := hw
        refine xw_getr fr_M_25 d_M_send_247 hA hB ?_
        refine xw_iload d_M_send_250 rfl ?_
        obtain ⟨ar11, x10, hA, hB, hC, hw⟩ := hw
        refine xw_iaload (t := 0) rfl d_M_send_252 hA hB hC ?_
        refine xw_goto (tgt := 272) d_M_send_253 (by decide) ?_
        exact p_M_send_272 ih (l0) (l1) (l2) (l3) (l4) (l5) (l6) (l7) (l8) (l9) (l10) (l11) (l12) (l13) ((4 * l2) + l13) (x10) ((l12 + 41) + (3 * l13)) (a2) h hw
set_option maxRecDepth 100000 in
def w_M_send_141 (Q : Option Value → xH → Prop) : Nat → Nat → Int32 → Int32 → Int32 → Int32 → Int32 → Int32 → Int32 → Int32 → Int32 → Int32 → Int32 → Int32 → Int32 → xH → Prop
  | 0, _, _, _, _, _, _, _, _, _, _, _, _, _, _, _ => False
  | n + 1, l0, l1, l2, l3, l4, l5, l6, l7, l8, l9, l10, l11, l12, l13, h => ((16 ≤ l13 → ∃ n1, w_M_send_213 Q n1 (l0) (l1) (l2) (l3) (l4) (l5) (l6) (l7) (l8) (l9) (l10) (l11) (l12) (0) h) ∧ (¬ 16 ≤ l13 → ∃ (f2 : List Value) (a3 : Nat), h.2 l0 = some (.inr (8, f2)) ∧ f2[32]? = some (.ref a3) ∧ ∃ (f4 : List Value) (a5 : Nat), h.2 l0 = some (.inr (8, f4)) ∧ f4[9]? = some (.ref a5) ∧ ∃ (ar17 : List Int32) (x6 : Int32), h.2 a5 = some (.inl (0, .inl ar17)) ∧ 0 ≤ ((16 * l2) + l13 : Int32) ∧ ar17[((16 * l2) + l13 : Int32).toNatClampNeg]? = some x6 ∧ ∃ ar7, h.2 a3 = some (.inl (0, .inl ar7)) ∧ 0 ≤ ((l12 + 9) + (2 * l13) : Int32) ∧ ((l12 + 9) + (2 * l13) : Int32).toNatClampNeg < ar7.length ∧ ∀ h8, h8 = xu h a3 (.inl (0, .inl (ar7.set ((l12 + 9) + (2 * l13) : Int32).toNatClampNeg x6))) → ∃ (f9 : List Value) (a10 : Nat), h8.2 l0 = some (.inr (8, f9)) ∧ f9[32]? = some (.ref a10) ∧ ∃ (f11 : List Value) (a12 : Nat), h8.2 l0 = some (.inr (8, f11)) ∧ f11[10]? = some (.ref a12) ∧ ∃ (ar16 : List Int32) (x13 : Int32), h8.2 a12 = some (.inl (0, .inl ar16)) ∧ 0 ≤ ((16 * l2) + l13 : Int32) ∧ ar16[((16 * l2) + l13 : Int32).toNatClampNeg]? = some x13 ∧ ∃ ar14, h8.2 a10 = some (.inl (0, .inl ar14)) ∧ 0 ≤ (((l12 + 9) + (2 * l13)) + 1 : Int32) ∧ (((l12 + 9) + (2 * l13)) + 1 : Int32).toNatClampNeg < ar14.length ∧ ∀ h15, h15 = xu h8 a10 (.inl (0, .inl (ar14.set (((l12 + 9) + (2 * l13)) + 1 : Int32).toNatClampNeg x13))) → w_M_send_141 Q n (l0) (l1) (l2) (l3) (l4) (l5) (l6) (l7) (l8) (l9) (l10) (l11) (l12) (l13 + 1) h15))
set_option maxRecDepth 100000 in
set_option maxHeartbeats 4000000 in
theorem p_M_send_141 {sc : List Int32} {Q : Option Value → xH → Prop} : ∀ (n : Nat) (l0 : Nat) (l1 : Int32) (l2 : Int32) (l3 : Int32) (l4 : Int32) (l5 : Int32) (l6 : Int32) (l7 : Int32) (l8 : Int32) (l9 : Int32) (l10 : Int32) (l11 : Int32) (l12 : Int32) (l13 : Int32) (h : xH), w_M_send_141 Q n l0 l1 l2 l3 l4 l5 l6 l7 l8 l9 l10 l11 l12 l13 h → xW sc m_M_send 0 0 0 141 [some (.ref (l0)), some (.int (l1)), some (.int (l2)), some (.int (l3)), some (.int (l4)), some (.int (l5)), some (.int (l6)), some (.int (l7)), some (.int (l8)), some (.int (l9)), some (.int (l10)), some (.int (l11)), some (.int (l12)), some (.int (l13)), none] [] h Q := by
  intro n
  induction n with
  | zero => intro l0 l1 l2 l3 l4 l5 l6 l7 l8 l9 l10 l11 l12 l13 h hw; exact False.elim hw
  | succ n ih =>
    intro l0 l1 l2 l3 l4 l5 l6 l7 l8 l9 l10 l11 l12 l13 h hw
    rw [w_M_send_141] at hw
    refine xw_iload d_M_send_141 rfl ?_
    refine xw_bipush (v := 16) d_M_send_143 (by decide) ?_
    refine xw_icmp_ge (tgt := 210) d_M_send_145 (by decide) (fun c18 => ?_) (fun c18 => ?_)
    · have hw := hw.1 c18
      refine xw_iconst (v := 0) d_M_send_210 (by decide) ?_
      refine xs_istore (lv' := [some (.ref (l0)), some (.int (l1)), some (.int (l2)), some (.int (l3)), some (.int (l4)), some (.int (l5)), some (.int (l6)), some (.int (l7)), some (.int (l8)), some (.int (l9)), some (.int (l10)), some (.int (l11)), some (.int (l12)), some (.int (0)), none]) d_M_send_211 rfl rfl ?_
      obtain ⟨n1, hw⟩ := hw
      exact p_M_send_213  n1 (l0) (l1) (l2) (l3) (l4) (l5) (l6) (l7) (l8) (l9) (l10) (l11) (l12) (0) h hw
    · have hw := hw.2 c18
      refine xw_aload_n d_M_send_148 rfl rfl ?_
      obtain ⟨f2, a3, hA, hB, hw⟩ := hw
      refine xw_getr fr_M_97 d_M_send_149 hA hB ?_
      refine xw_iload d_M_send_152 rfl ?_
      refine xw_bipush (v := 9) d_M_send_154 (by decide) ?_
      refine xw_iadd d_M_send_156 ?_
      refine xw_iconst (v := 2) d_M_send_157 (by decide) ?_
      refine xw_iload d_M_send_158 rfl ?_
      refine xw_imul d_M_send_160 ?_
      refine xw_iadd d_M_send_161 ?_
      refine xw_aload_n d_M_send_162 rfl rfl ?_
      obtain ⟨f4, a5, hA, hB, hw⟩ := hw
      refine xw_getr fr_M_34 d_M_send_163 hA hB ?_
      refine xw_bipush (v := 16) d_M_send_166 (by decide) ?_
      refine xw_iload_n d_M_send_168 rfl rfl ?_
      refine xw_imul d_M_send_169 ?_
      refine xw_iload d_M_send_170 rfl ?_
      refine xw_iadd d_M_send_172 ?_
      obtain ⟨ar17, x6, hA, hB, hC, hw⟩ := hw
      refine xw_iaload (t := 0) rfl d_M_send_173 hA hB hC ?_
      obtain ⟨ar7, hA, hB, hC, hw⟩ := hw
      refine xw_iastore (t := 0) rfl d_M_send_174 hA hB hC ?_
      generalize hh : xu h a3 (.inl (0, .inl (ar7.set ((l12 + 9) + (2 * l13) : Int32).toNatClampNeg x6))) = h8
      have hw := hw h8 hh.symm
      refine xw_aload_n d_M_send_175 rfl rfl ?_
      obtain ⟨f9, a10, hA, hB, hw⟩ := hw
      refine xw_getr fr_M_97 d_M_send_176 hA hB ?_
      refine xw_iload d_M_send_179 rfl ?_
      refine xw_bipush (v := 9) d_M_send_181 (by decide) ?_
      refine xw_iadd d_M_send_183 ?_
      refine xw_iconst (v := 2) d_M_send_184 (by decide) ?_
      refine xw_iload d_M_send_185 rfl ?_
      refine xw_imul d_M_send_187 ?_
      refine xw_iadd d_M_send_188 ?_
      refine xw_iconst (v := 1) d_M_send_189 (by decide) ?_
      refine xw_iadd d_M_send_190 ?_
      refine xw_aload_n d_M_send_191 rfl rfl ?_
      obtain ⟨f11, a12, hA, hB, hw⟩ := hw
      refine xw_getr fr_M_37 d_M_send_192 hA hB ?_
      refine xw_bipush (v := 16) d_M_send_195 (by decide) ?_
      refine xw_iload_n d_M_send_197 rfl rfl ?_
      refine xw_imul d_M_send_198 ?_
      refine xw_iload d_M_send_199 rfl ?_
      refine xw_iadd d_M_send_201 ?_
      obtain ⟨ar16, x13, hA, hB, hC, hw⟩ := hw
      refine xw_iaload (t := 0) rfl d_M_send_202 hA hB hC ?_
      obtain ⟨ar14, hA, hB, hC, hw⟩ := hw
      refine xw_iastore (t := 0) rfl d_M_send_203 hA hB hC ?_
      generalize hh : xu h8 a10 (.inl (0, .inl (ar14.set (((l12 + 9) + (2 * l13)) + 1 : Int32).toNatClampNeg x13))) = h15
      have hw := hw h15 hh.symm
      refine xs_iinc (v := l13 + 1) (lv' := [some (.ref (l0)), some (.int (l1)), some (.int (l2)), some (.int (l3)), some (.int (l4)), some (.int (l5)), some (.int (l6)), some (.int (l7)), some (.int (l8)), some (.int (l9)), some (.int (l10)), some (.int (l11)), some (.int (l12)), some (.int (l13 + 1)), none]) d_M_send_204 rfl rfl rfl ?_
      refine xw_goto (tgt := 141) d_M_send_207 (by decide) ?_
      exact ih (l0) (l1) (l2) (l3) (l4) (l5) (l6) (l7) (l8) (l9) (l10) (l11) (l12) (l13 + 1) h15 hw
set_option maxRecDepth 100000 in
def w_M_send (Q : Option Value → xH → Prop) (this : Nat) (p1 : Int32) (p2 : Int32) (p3 : Int32) (p4 : Int32) (p5 : Int32) (p6 : Int32) (p7 : Int32) (p8 : Int32) (p9 : Int32) (p10 : Int32) (p11 : Int32) (h : xH) : Prop := ∃ (f1 : List Value) (x2 : Int32), h.2 this = some (.inr (8, f1)) ∧ f1[31]? = some (.int x2) ∧ ((¬ x2 = 120 → ∃ (f3 : List Value) (x4 : Int32), h.2 this = some (.inr (8, f3)) ∧ f3[31]? = some (.int x4) ∧ ∃ (f5 : List Value) (x6 : Int32), h.2 this = some (.inr (8, f5)) ∧ f5[31]? = some (.int x6) ∧ ∃ f7, h.2 this = some (.inr (8, f7)) ∧ 31 < f7.length ∧ ∀ h8, h8 = xu h this (.inr (8, f7.set 31 (.int (x6 + 1)))) → ∃ (f9 : List Value) (a10 : Nat), h8.2 this = some (.inr (8, f9)) ∧ f9[32]? = some (.ref a10) ∧ ∃ ar11, h8.2 a10 = some (.inl (0, .inl ar11)) ∧ 0 ≤ ((53 * x4) + 0 : Int32) ∧ ((53 * x4) + 0 : Int32).toNatClampNeg < ar11.length ∧ ∀ h12, h12 = xu h8 a10 (.inl (0, .inl (ar11.set ((53 * x4) + 0 : Int32).toNatClampNeg p1))) → ∃ (f13 : List Value) (a14 : Nat), h12.2 this = some (.inr (8, f13)) ∧ f13[32]? = some (.ref a14) ∧ ∃ ar15, h12.2 a14 = some (.inl (0, .inl ar15)) ∧ 0 ≤ ((53 * x4) + 1 : Int32) ∧ ((53 * x4) + 1 : Int32).toNatClampNeg < ar15.length ∧ ∀ h16, h16 = xu h12 a14 (.inl (0, .inl (ar15.set ((53 * x4) + 1 : Int32).toNatClampNeg p2))) → ∃ (f17 : List Value) (a18 : Nat), h16.2 this = some (.inr (8, f17)) ∧ f17[32]? = some (.ref a18) ∧ ∃ ar19, h16.2 a18 = some (.inl (0, .inl ar19)) ∧ 0 ≤ ((53 * x4) + 2 : Int32) ∧ ((53 * x4) + 2 : Int32).toNatClampNeg < ar19.length ∧ ∀ h20, h20 = xu h16 a18 (.inl (0, .inl (ar19.set ((53 * x4) + 2 : Int32).toNatClampNeg p3))) → ∃ (f21 : List Value) (a22 : Nat), h20.2 this = some (.inr (8, f21)) ∧ f21[32]? = some (.ref a22) ∧ ∃ ar23, h20.2 a22 = some (.inl (0, .inl ar23)) ∧ 0 ≤ ((53 * x4) + 3 : Int32) ∧ ((53 * x4) + 3 : Int32).toNatClampNeg < ar23.length ∧ ∀ h24, h24 = xu h20 a22 (.inl (0, .inl (ar23.set ((53 * x4) + 3 : Int32).toNatClampNeg p4))) → ∃ (f25 : List Value) (a26 : Nat), h24.2 this = some (.inr (8, f25)) ∧ f25[32]? = some (.ref a26) ∧ ∃ ar27, h24.2 a26 = some (.inl (0, .inl ar27)) ∧ 0 ≤ ((53 * x4) + 4 : Int32) ∧ ((53 * x4) + 4 : Int32).toNatClampNeg < ar27.length ∧ ∀ h28, h28 = xu h24 a26 (.inl (0, .inl (ar27.set ((53 * x4) + 4 : Int32).toNatClampNeg p5))) → ∃ (f29 : List Value) (a30 : Nat), h28.2 this = some (.inr (8, f29)) ∧ f29[32]? = some (.ref a30) ∧ ∃ ar31, h28.2 a30 = some (.inl (0, .inl ar31)) ∧ 0 ≤ ((53 * x4) + 5 : Int32) ∧ ((53 * x4) + 5 : Int32).toNatClampNeg < ar31.length ∧ ∀ h32, h32 = xu h28 a30 (.inl (0, .inl (ar31.set ((53 * x4) + 5 : Int32).toNatClampNeg p6))) → ∃ (f33 : List Value) (a34 : Nat), h32.2 this = some (.inr (8, f33)) ∧ f33[32]? = some (.ref a34) ∧ ∃ ar35, h32.2 a34 = some (.inl (0, .inl ar35)) ∧ 0 ≤ ((53 * x4) + 6 : Int32) ∧ ((53 * x4) + 6 : Int32).toNatClampNeg < ar35.length ∧ ∀ h36, h36 = xu h32 a34 (.inl (0, .inl (ar35.set ((53 * x4) + 6 : Int32).toNatClampNeg p7))) → ∃ (f37 : List Value) (a38 : Nat), h36.2 this = some (.inr (8, f37)) ∧ f37[32]? = some (.ref a38) ∧ ∃ ar39, h36.2 a38 = some (.inl (0, .inl ar39)) ∧ 0 ≤ ((53 * x4) + 7 : Int32) ∧ ((53 * x4) + 7 : Int32).toNatClampNeg < ar39.length ∧ ∀ h40, h40 = xu h36 a38 (.inl (0, .inl (ar39.set ((53 * x4) + 7 : Int32).toNatClampNeg p8))) → ∃ (f41 : List Value) (a42 : Nat), h40.2 this = some (.inr (8, f41)) ∧ f41[32]? = some (.ref a42) ∧ ∃ ar43, h40.2 a42 = some (.inl (0, .inl ar43)) ∧ 0 ≤ ((53 * x4) + 8 : Int32) ∧ ((53 * x4) + 8 : Int32).toNatClampNeg < ar43.length ∧ ∀ h44, h44 = xu h40 a42 (.inl (0, .inl (ar43.set ((53 * x4) + 8 : Int32).toNatClampNeg p9))) → ∃ n45, w_M_send_141 Q n45 (this) (p1) (p2) (p3) (p4) (p5) (p6) (p7) (p8) (p9) (p10) (p11) (53 * x4) (0) h44) ∧ (x2 = 120 → ∃ (f46 : List Value) (x47 : Int32), h.2 this = some (.inr (8, f46)) ∧ f46[33]? = some (.int x47) ∧ ∃ f48, h.2 this = some (.inr (8, f48)) ∧ 33 < f48.length ∧ ∀ h49, h49 = xu h this (.inr (8, f48.set 33 (.int (x47 + 1)))) → Q none h49))
set_option maxRecDepth 100000 in
set_option maxHeartbeats 4000000 in
theorem x_M_send {sc : List Int32} {Q : Option Value → xH → Prop} {this : Nat} {p1 : Int32} {p2 : Int32} {p3 : Int32} {p4 : Int32} {p5 : Int32} {p6 : Int32} {p7 : Int32} {p8 : Int32} {p9 : Int32} {p10 : Int32} {p11 : Int32} {h : xH} (hw : w_M_send Q this p1 p2 p3 p4 p5 p6 p7 p8 p9 p10 p11 h) : xMet sc m_M_send 0 0 0 [.ref (this), .int (p1), .int (p2), .int (p3), .int (p4), .int (p5), .int (p6), .int (p7), .int (p8), .int (p9), .int (p10), .int (p11)] h Q := by
  unfold w_M_send at hw
  refine xMet.of2 cw_M_send rfl rfl ?_
  show xW sc m_M_send 0 0 0 0 [some (.ref (this)), some (.int (p1)), some (.int (p2)), some (.int (p3)), some (.int (p4)), some (.int (p5)), some (.int (p6)), some (.int (p7)), some (.int (p8)), some (.int (p9)), some (.int (p10)), some (.int (p11)), none, none, none] [] h Q
  refine xw_aload_n d_M_send_0 rfl rfl ?_
  obtain ⟨f1, x2, hA, hB, hw⟩ := hw
  refine xw_getr fr_M_129 d_M_send_1 hA hB ?_
  refine xw_bipush (v := 120) d_M_send_4 (by decide) ?_
  refine xw_icmp_ne (tgt := 20) d_M_send_6 (by decide) (fun c50 => ?_) (fun c50 => ?_)
  · have hw := hw.1 c50
    refine xw_bipush (v := 53) d_M_send_20 (by decide) ?_
    refine xw_aload_n d_M_send_22 rfl rfl ?_
    obtain ⟨f3, x4, hA, hB, hw⟩ := hw
    refine xw_getr fr_M_129 d_M_send_23 hA hB ?_
    refine xw_imul d_M_send_26 ?_
    refine xs_istore (lv' := [some (.ref (this)), some (.int (p1)), some (.int (p2)), some (.int (p3)), some (.int (p4)), some (.int (p5)), some (.int (p6)), some (.int (p7)), some (.int (p8)), some (.int (p9)), some (.int (p10)), some (.int (p11)), some (.int (53 * x4)), none, none]) d_M_send_27 rfl rfl ?_
    refine xw_aload_n d_M_send_29 rfl rfl ?_
    refine xw_dup d_M_send_30 rfl ?_
    obtain ⟨f5, x6, hA, hB, hw⟩ := hw
    refine xw_getr fr_M_129 d_M_send_31 hA hB ?_
    refine xw_iconst (v := 1) d_M_send_34 (by decide) ?_
    refine xw_iadd d_M_send_35 ?_
    obtain ⟨f7, hA, hB, hw⟩ := hw
    refine xw_puti fs_M_129 d_M_send_36 hA hB ?_
    generalize hh : xu h this (.inr (8, f7.set 31 (.int (x6 + 1)))) = h8
    have hw := hw h8 hh.symm
    refine xw_aload_n d_M_send_39 rfl rfl ?_
    obtain ⟨f9, a10, hA, hB, hw⟩ := hw
    refine xw_getr fr_M_97 d_M_send_40 hA hB ?_
    refine xw_iload d_M_send_43 rfl ?_
    refine xw_iconst (v := 0) d_M_send_45 (by decide) ?_
    refine xw_iadd d_M_send_46 ?_
    refine xw_iload_n d_M_send_47 rfl rfl ?_
    obtain ⟨ar11, hA, hB, hC, hw⟩ := hw
    refine xw_iastore (t := 0) rfl d_M_send_48 hA hB hC ?_
    generalize hh : xu h8 a10 (.inl (0, .inl (ar11.set ((53 * x4) + 0 : Int32).toNatClampNeg p1))) = h12
    have hw := hw h12 hh.symm
    refine xw_aload_n d_M_send_49 rfl rfl ?_
    obtain ⟨f13, a14, hA, hB, hw⟩ := hw
    refine xw_getr fr_M_97 d_M_send_50 hA hB ?_
    refine xw_iload d_M_send_53 rfl ?_
    refine xw_iconst (v := 1) d_M_send_55 (by decide) ?_
    refine xw_iadd d_M_send_56 ?_
    refine xw_iload_n d_M_send_57 rfl rfl ?_
    obtain ⟨ar15, hA, hB, hC, hw⟩ := hw
    refine xw_iastore (t := 0) rfl d_M_send_58 hA hB hC ?_
    generalize hh : xu h12 a14 (.inl (0, .inl (ar15.set ((53 * x4) + 1 : Int32).toNatClampNeg p2))) = h16
    have hw := hw h16 hh.symm
    refine xw_aload_n d_M_send_59 rfl rfl ?_
    obtain ⟨f17, a18, hA, hB, hw⟩ := hw
    refine xw_getr fr_M_97 d_M_send_60 hA hB ?_
    refine xw_iload d_M_send_63 rfl ?_
    refine xw_iconst (v := 2) d_M_send_65 (by decide) ?_
    refine xw_iadd d_M_send_66 ?_
    refine xw_iload_n d_M_send_67 rfl rfl ?_
    obtain ⟨ar19, hA, hB, hC, hw⟩ := hw
    refine xw_iastore (t := 0) rfl d_M_send_68 hA hB hC ?_
    generalize hh : xu h16 a18 (.inl (0, .inl (ar19.set ((53 * x4) + 2 : Int32).toNatClampNeg p3))) = h20
    have hw := hw h20 hh.symm
    refine xw_aload_n d_M_send_69 rfl rfl ?_
    obtain ⟨f21, a22, hA, hB, hw⟩ := hw
    refine xw_getr fr_M_97 d_M_send_70 hA hB ?_
    refine xw_iload d_M_send_73 rfl ?_
    refine xw_iconst (v := 3) d_M_send_75 (by decide) ?_
    refine xw_iadd d_M_send_76 ?_
    refine xw_iload d_M_send_77 rfl ?_
    obtain ⟨ar23, hA, hB, hC, hw⟩ := hw
    refine xw_iastore (t := 0) rfl d_M_send_79 hA hB hC ?_
    generalize hh : xu h20 a22 (.inl (0, .inl (ar23.set ((53 * x4) + 3 : Int32).toNatClampNeg p4))) = h24
    have hw := hw h24 hh.symm
    refine xw_aload_n d_M_send_80 rfl rfl ?_
    obtain ⟨f25, a26, hA, hB, hw⟩ := hw
    refine xw_getr fr_M_97 d_M_send_81 hA hB ?_
    refine xw_iload d_M_send_84 rfl ?_
    refine xw_iconst (v := 4) d_M_send_86 (by decide) ?_
    refine xw_iadd d_M_send_87 ?_
    refine xw_iload d_M_send_88 rfl ?_
    obtain ⟨ar27, hA, hB, hC, hw⟩ := hw
    refine xw_iastore (t := 0) rfl d_M_send_90 hA hB hC ?_
    generalize hh : xu h24 a26 (.inl (0, .inl (ar27.set ((53 * x4) + 4 : Int32).toNatClampNeg p5))) = h28
    have hw := hw h28 hh.symm
    refine xw_aload_n d_M_send_91 rfl rfl ?_
    obtain ⟨f29, a30, hA, hB, hw⟩ := hw
    refine xw_getr fr_M_97 d_M_send_92 hA hB ?_
    refine xw_iload d_M_send_95 rfl ?_
    refine xw_iconst (v := 5) d_M_send_97 (by decide) ?_
    refine xw_iadd d_M_send_98 ?_
    refine xw_iload d_M_send_99 rfl ?_
    obtain ⟨ar31, hA, hB, hC, hw⟩ := hw
    refine xw_iastore (t := 0) rfl d_M_send_101 hA hB hC ?_
    generalize hh : xu h28 a30 (.inl (0, .inl (ar31.set ((53 * x4) + 5 : Int32).toNatClampNeg p6))) = h32
    have hw := hw h32 hh.symm
    refine xw_aload_n d_M_send_102 rfl rfl ?_
    obtain ⟨f33, a34, hA, hB, hw⟩ := hw
    refine xw_getr fr_M_97 d_M_send_103 hA hB ?_
    refine xw_iload d_M_send_106 rfl ?_
    refine xw_bipush (v := 6) d_M_send_108 (by decide) ?_
    refine xw_iadd d_M_send_110 ?_
    refine xw_iload d_M_send_111 rfl ?_
    obtain ⟨ar35, hA, hB, hC, hw⟩ := hw
    refine xw_iastore (t := 0) rfl d_M_send_113 hA hB hC ?_
    generalize hh : xu h32 a34 (.inl (0, .inl (ar35.set ((53 * x4) + 6 : Int32).toNatClampNeg p7))) = h36
    have hw := hw h36 hh.symm
    refine xw_aload_n d_M_send_114 rfl rfl ?_
    obtain ⟨f37, a38, hA, hB, hw⟩ := hw
    refine xw_getr fr_M_97 d_M_send_115 hA hB ?_
    refine xw_iload d_M_send_118 rfl ?_
    refine xw_bipush (v := 7) d_M_send_120 (by decide) ?_
    refine xw_iadd d_M_send_122 ?_
    refine xw_iload d_M_send_123 rfl ?_
    obtain ⟨ar39, hA, hB, hC, hw⟩ := hw
    refine xw_iastore (t := 0) rfl d_M_send_125 hA hB hC ?_
    generalize hh : xu h36 a38 (.inl (0, .inl (ar39.set ((53 * x4) + 7 : Int32).toNatClampNeg p8))) = h40
    have hw := hw h40 hh.symm
    refine xw_aload_n d_M_send_126 rfl rfl ?_
    obtain ⟨f41, a42, hA, hB, hw⟩ := hw
    refine xw_getr fr_M_97 d_M_send_127 hA hB ?_
    refine xw_iload d_M_send_130 rfl ?_
    refine xw_bipush (v := 8) d_M_send_132 (by decide) ?_
    refine xw_iadd d_M_send_134 ?_
    refine xw_iload d_M_send_135 rfl ?_
    obtain ⟨ar43, hA, hB, hC, hw⟩ := hw
    refine xw_iastore (t := 0) rfl d_M_send_137 hA hB hC ?_
    generalize hh : xu h40 a42 (.inl (0, .inl (ar43.set ((53 * x4) + 8 : Int32).toNatClampNeg p9))) = h44
    have hw := hw h44 hh.symm
    refine xw_iconst (v := 0) d_M_send_138 (by decide) ?_
    refine xs_istore (lv' := [some (.ref (this)), some (.int (p1)), some (.int (p2)), some (.int (p3)), some (.int (p4)), some (.int (p5)), some (.int (p6)), some (.int (p7)), some (.int (p8)), some (.int (p9)), some (.int (p10)), some (.int (p11)), some (.int (53 * x4)), some (.int (0)), none]) d_M_send_139 rfl rfl ?_
    obtain ⟨n45, hw⟩ := hw
    exact p_M_send_141  n45 (this) (p1) (p2) (p3) (p4) (p5) (p6) (p7) (p8) (p9) (p10) (p11) (53 * x4) (0) h44 hw
  · have hw := hw.2 c50
    refine xw_aload_n d_M_send_9 rfl rfl ?_
    refine xw_dup d_M_send_10 rfl ?_
    obtain ⟨f46, x47, hA, hB, hw⟩ := hw
    refine xw_getr fr_M_132 d_M_send_11 hA hB ?_
    refine xw_iconst (v := 1) d_M_send_14 (by decide) ?_
    refine xw_iadd d_M_send_15 ?_
    obtain ⟨f48, hA, hB, hw⟩ := hw
    refine xw_puti fs_M_132 d_M_send_16 hA hB ?_
    generalize hh : xu h this (.inr (8, f48.set 33 (.int (x47 + 1)))) = h49
    have hw := hw h49 hh.symm
    exact xw_return rfl d_M_send_19 hw
set_option maxRecDepth 100000 in
def w_M_remove_15 (Q : Option Value → xH → Prop) : Nat → Nat → Int32 → Int32 → xH → Prop
  | 0, _, _, _, _ => False
  | n + 1, l0, l1, l2, h => ∃ (f1 : List Value) (x2 : Int32), h.2 l0 = some (.inr (8, f1)) ∧ f1[31]? = some (.int x2) ∧ (((53 * x2) ≤ l2 → Q none h) ∧ (¬ (53 * x2) ≤ l2 → ∃ (f3 : List Value) (a4 : Nat), h.2 l0 = some (.inr (8, f3)) ∧ f3[32]? = some (.ref a4) ∧ ∃ (f5 : List Value) (a6 : Nat), h.2 l0 = some (.inr (8, f5)) ∧ f5[32]? = some (.ref a6) ∧ ∃ (ar10 : List Int32) (x7 : Int32), h.2 a6 = some (.inl (0, .inl ar10)) ∧ 0 ≤ (l2 + 53 : Int32) ∧ ar10[(l2 + 53 : Int32).toNatClampNeg]? = some x7 ∧ ∃ ar8, h.2 a4 = some (.inl (0, .inl ar8)) ∧ 0 ≤ l2 ∧ l2.toNatClampNeg < ar8.length ∧ ∀ h9, h9 = xu h a4 (.inl (0, .inl (ar8.set l2.toNatClampNeg x7))) → w_M_remove_15 Q n (l0) (l1) (l2 + 1) h9))
set_option maxRecDepth 100000 in
set_option maxHeartbeats 4000000 in
theorem p_M_remove_15 {sc : List Int32} {Q : Option Value → xH → Prop} : ∀ (n : Nat) (l0 : Nat) (l1 : Int32) (l2 : Int32) (h : xH), w_M_remove_15 Q n l0 l1 l2 h → xW sc m_M_remove 0 0 0 15 [some (.ref (l0)), some (.int (l1)), some (.int (l2))] [] h Q := by
  intro n
  induction n with
  | zero => intro l0 l1 l2 h hw; exact False.elim hw
  | succ n ih =>
    intro l0 l1 l2 h hw
    rw [w_M_remove_15] at hw
    refine xw_iload_n d_M_remove_15 rfl rfl ?_
    refine xw_bipush (v := 53) d_M_remove_16 (by decide) ?_
    refine xw_aload_n d_M_remove_18 rfl rfl ?_
    obtain ⟨f1, x2, hA, hB, hw⟩ := hw
    refine xw_getr fr_M_129 d_M_remove_19 hA hB ?_
    refine xw_imul d_M_remove_22 ?_
    refine xw_icmp_ge (tgt := 47) d_M_remove_23 (by decide) (fun c11 => ?_) (fun c11 => ?_)
    · have hw := hw.1 c11
      exact xw_return rfl d_M_remove_47 hw
    · have hw := hw.2 c11
      refine xw_aload_n d_M_remove_26 rfl rfl ?_
      obtain ⟨f3, a4, hA, hB, hw⟩ := hw
      refine xw_getr fr_M_97 d_M_remove_27 hA hB ?_
      refine xw_iload_n d_M_remove_30 rfl rfl ?_
      refine xw_aload_n d_M_remove_31 rfl rfl ?_
      obtain ⟨f5, a6, hA, hB, hw⟩ := hw
      refine xw_getr fr_M_97 d_M_remove_32 hA hB ?_
      refine xw_iload_n d_M_remove_35 rfl rfl ?_
      refine xw_bipush (v := 53) d_M_remove_36 (by decide) ?_
      refine xw_iadd d_M_remove_38 ?_
      obtain ⟨ar10, x7, hA, hB, hC, hw⟩ := hw
      refine xw_iaload (t := 0) rfl d_M_remove_39 hA hB hC ?_
      obtain ⟨ar8, hA, hB, hC, hw⟩ := hw
      refine xw_iastore (t := 0) rfl d_M_remove_40 hA hB hC ?_
      generalize hh : xu h a4 (.inl (0, .inl (ar8.set l2.toNatClampNeg x7))) = h9
      have hw := hw h9 hh.symm
      refine xs_iinc (v := l2 + 1) (lv' := [some (.ref (l0)), some (.int (l1)), some (.int (l2 + 1))]) d_M_remove_41 rfl rfl rfl ?_
      refine xw_goto (tgt := 15) d_M_remove_44 (by decide) ?_
      exact ih (l0) (l1) (l2 + 1) h9 hw
set_option maxRecDepth 100000 in
def w_M_remove (Q : Option Value → xH → Prop) (this : Nat) (p1 : Int32) (h : xH) : Prop := ∃ (f1 : List Value) (x2 : Int32), h.2 this = some (.inr (8, f1)) ∧ f1[31]? = some (.int x2) ∧ ∃ f3, h.2 this = some (.inr (8, f3)) ∧ 31 < f3.length ∧ ∀ h4, h4 = xu h this (.inr (8, f3.set 31 (.int (x2 - 1)))) → ∃ n5, w_M_remove_15 Q n5 (this) (p1) (53 * p1) h4
set_option maxRecDepth 100000 in
set_option maxHeartbeats 4000000 in
theorem x_M_remove {sc : List Int32} {Q : Option Value → xH → Prop} {this : Nat} {p1 : Int32} {h : xH} (hw : w_M_remove Q this p1 h) : xMet sc m_M_remove 0 0 0 [.ref (this), .int (p1)] h Q := by
  unfold w_M_remove at hw
  refine xMet.of2 cw_M_remove rfl rfl ?_
  show xW sc m_M_remove 0 0 0 0 [some (.ref (this)), some (.int (p1)), none] [] h Q
  refine xw_aload_n d_M_remove_0 rfl rfl ?_
  refine xw_dup d_M_remove_1 rfl ?_
  obtain ⟨f1, x2, hA, hB, hw⟩ := hw
  refine xw_getr fr_M_129 d_M_remove_2 hA hB ?_
  refine xw_iconst (v := 1) d_M_remove_5 (by decide) ?_
  refine xw_isub d_M_remove_6 ?_
  obtain ⟨f3, hA, hB, hw⟩ := hw
  refine xw_puti fs_M_129 d_M_remove_7 hA hB ?_
  generalize hh : xu h this (.inr (8, f3.set 31 (.int (x2 - 1)))) = h4
  have hw := hw h4 hh.symm
  refine xw_bipush (v := 53) d_M_remove_10 (by decide) ?_
  refine xw_iload_n d_M_remove_12 rfl rfl ?_
  refine xw_imul d_M_remove_13 ?_
  refine xs_istore_n (lv' := [some (.ref (this)), some (.int (p1)), some (.int (53 * p1))]) d_M_remove_14 rfl rfl rfl ?_
  obtain ⟨n5, hw⟩ := hw
  exact p_M_remove_15  n5 (this) (p1) (53 * p1) h4 hw
set_option maxRecDepth 100000 in
def w_M_best (Q : Option Value → xH → Prop) (this : Nat) (p1 : Int32) (p2 : Int32) (p3 : Int32) (p4 : Int32) (p5 : Int32) (h : xH) : Prop := ∃ (f1 : List Value) (a2 : Nat), h.2 this = some (.inr (8, f1)) ∧ f1[28]? = some (.ref a2) ∧ ∃ (ar23 : List Int32) (x3 : Int32), h.2 a2 = some (.inl (0, .inl ar23)) ∧ 0 ≤ ((4 * p1) + p2 : Int32) ∧ ar23[((4 * p1) + p2 : Int32).toNatClampNeg]? = some x3 ∧ ∃ (f4 : List Value) (a5 : Nat), h.2 this = some (.inr (8, f4)) ∧ f4[29]? = some (.ref a5) ∧ ∃ (ar22 : List Int32) (x6 : Int32), h.2 a5 = some (.inl (0, .inl ar22)) ∧ 0 ≤ ((4 * p1) + p2 : Int32) ∧ ar22[((4 * p1) + p2 : Int32).toNatClampNeg]? = some x6 ∧ w_M_isGreater (fun v h7 => ∃ (x8 : Int32), v = some (.int x8) ∧ ((¬ x8 = 0 → ∃ (f9 : List Value) (a10 : Nat), h7.2 this = some (.inr (8, f9)) ∧ f9[28]? = some (.ref a10) ∧ ∃ ar11, h7.2 a10 = some (.inl (0, .inl ar11)) ∧ 0 ≤ ((4 * p1) + p2 : Int32) ∧ ((4 * p1) + p2 : Int32).toNatClampNeg < ar11.length ∧ ∀ h12, h12 = xu h7 a10 (.inl (0, .inl (ar11.set ((4 * p1) + p2 : Int32).toNatClampNeg p3))) → ∃ (f13 : List Value) (a14 : Nat), h12.2 this = some (.inr (8, f13)) ∧ f13[29]? = some (.ref a14) ∧ ∃ ar15, h12.2 a14 = some (.inl (0, .inl ar15)) ∧ 0 ≤ ((4 * p1) + p2 : Int32) ∧ ((4 * p1) + p2 : Int32).toNatClampNeg < ar15.length ∧ ∀ h16, h16 = xu h12 a14 (.inl (0, .inl (ar15.set ((4 * p1) + p2 : Int32).toNatClampNeg p4))) → ∃ (f17 : List Value) (a18 : Nat), h16.2 this = some (.inr (8, f17)) ∧ f17[30]? = some (.ref a18) ∧ ∃ ar19, h16.2 a18 = some (.inl (0, .inl ar19)) ∧ 0 ≤ ((4 * p1) + p2 : Int32) ∧ ((4 * p1) + p2 : Int32).toNatClampNeg < ar19.length ∧ ∀ h20, h20 = xu h16 a18 (.inl (0, .inl (ar19.set ((4 * p1) + p2 : Int32).toNatClampNeg p5))) → Q none h20) ∧ (x8 = 0 → Q none h7))) p3 p4 x3 x6 h
set_option maxRecDepth 100000 in
set_option maxHeartbeats 4000000 in
theorem x_M_best {sc : List Int32} {Q : Option Value → xH → Prop} {this : Nat} {p1 : Int32} {p2 : Int32} {p3 : Int32} {p4 : Int32} {p5 : Int32} {h : xH} (hw : w_M_best Q this p1 p2 p3 p4 p5 h) : xMet sc m_M_best 1 0 0 [.ref (this), .int (p1), .int (p2), .int (p3), .int (p4), .int (p5)] h Q := by
  unfold w_M_best at hw
  refine xMet.of2 cw_M_best rfl rfl ?_
  show xW sc m_M_best 1 0 0 0 [some (.ref (this)), some (.int (p1)), some (.int (p2)), some (.int (p3)), some (.int (p4)), some (.int (p5)), none] [] h Q
  refine xw_iconst (v := 4) d_M_best_0 (by decide) ?_
  refine xw_iload_n d_M_best_1 rfl rfl ?_
  refine xw_imul d_M_best_2 ?_
  refine xw_iload_n d_M_best_3 rfl rfl ?_
  refine xw_iadd d_M_best_4 ?_
  refine xs_istore (lv' := [some (.ref (this)), some (.int (p1)), some (.int (p2)), some (.int (p3)), some (.int (p4)), some (.int (p5)), some (.int ((4 * p1) + p2))]) d_M_best_5 rfl rfl ?_
  refine xw_iload_n d_M_best_7 rfl rfl ?_
  refine xw_iload d_M_best_8 rfl ?_
  refine xw_aload_n d_M_best_10 rfl rfl ?_
  obtain ⟨f1, a2, hA, hB, hw⟩ := hw
  refine xw_getr fr_M_88 d_M_best_11 hA hB ?_
  refine xw_iload d_M_best_14 rfl ?_
  obtain ⟨ar23, x3, hA, hB, hC, hw⟩ := hw
  refine xw_iaload (t := 0) rfl d_M_best_16 hA hB hC ?_
  refine xw_aload_n d_M_best_17 rfl rfl ?_
  obtain ⟨f4, a5, hA, hB, hw⟩ := hw
  refine xw_getr fr_M_91 d_M_best_18 hA hB ?_
  refine xw_iload d_M_best_21 rfl ?_
  obtain ⟨ar22, x6, hA, hB, hC, hw⟩ := hw
  refine xw_iaload (t := 0) rfl d_M_best_23 hA hB hC ?_
  refine xc_S4i lk_M_125 st_M_isGreater d_M_best_24 (x_M_isGreater hw) rfl rfl ?_
  intro x8 h7 hw
  refine xw_if_ne (tgt := 31) d_M_best_27 (by decide) (fun c21 => ?_) (fun c21 => ?_)
  · have hw := hw.1 c21
    refine xw_aload_n d_M_best_31 rfl rfl ?_
    obtain ⟨f9, a10, hA, hB, hw⟩ := hw
    refine xw_getr fr_M_88 d_M_best_32 hA hB ?_
    refine xw_iload d_M_best_35 rfl ?_
    refine xw_iload_n d_M_best_37 rfl rfl ?_
    obtain ⟨ar11, hA, hB, hC, hw⟩ := hw
    refine xw_iastore (t := 0) rfl d_M_best_38 hA hB hC ?_
    generalize hh : xu h7 a10 (.inl (0, .inl (ar11.set ((4 * p1) + p2 : Int32).toNatClampNeg p3))) = h12
    have hw := hw h12 hh.symm
    refine xw_aload_n d_M_best_39 rfl rfl ?_
    obtain ⟨f13, a14, hA, hB, hw⟩ := hw
    refine xw_getr fr_M_91 d_M_best_40 hA hB ?_
    refine xw_iload d_M_best_43 rfl ?_
    refine xw_iload d_M_best_45 rfl ?_
    obtain ⟨ar15, hA, hB, hC, hw⟩ := hw
    refine xw_iastore (t := 0) rfl d_M_best_47 hA hB hC ?_
    generalize hh : xu h12 a14 (.inl (0, .inl (ar15.set ((4 * p1) + p2 : Int32).toNatClampNeg p4))) = h16
    have hw := hw h16 hh.symm
    refine xw_aload_n d_M_best_48 rfl rfl ?_
    obtain ⟨f17, a18, hA, hB, hw⟩ := hw
    refine xw_getr fr_M_94 d_M_best_49 hA hB ?_
    refine xw_iload d_M_best_52 rfl ?_
    refine xw_iload d_M_best_54 rfl ?_
    obtain ⟨ar19, hA, hB, hC, hw⟩ := hw
    refine xw_iastore (t := 0) rfl d_M_best_56 hA hB hC ?_
    generalize hh : xu h16 a18 (.inl (0, .inl (ar19.set ((4 * p1) + p2 : Int32).toNatClampNeg p5))) = h20
    have hw := hw h20 hh.symm
    exact xw_return rfl d_M_best_57 hw
  · have hw := hw.2 c21
    exact xw_return rfl d_M_best_30 hw
set_option maxRecDepth 100000 in
def w_M_bestIsOwn_2 (Q : Option Value → xH → Prop) : Nat → Nat → Int32 → Int32 → xH → Prop
  | 0, _, _, _, _ => False
  | n + 1, l0, l1, l2, h => ((4 ≤ l2 → Q none h) ∧ (¬ 4 ≤ l2 → ∃ (f1 : List Value) (a2 : Nat), h.2 l0 = some (.inr (8, f1)) ∧ f1[28]? = some (.ref a2) ∧ ∃ (f3 : List Value) (a4 : Nat), h.2 l0 = some (.inr (8, f3)) ∧ f3[6]? = some (.ref a4) ∧ ∃ (ar24 : List Int32) (x5 : Int32), h.2 a4 = some (.inl (0, .inl ar24)) ∧ 0 ≤ ((4 * l1) + l2 : Int32) ∧ ar24[((4 * l1) + l2 : Int32).toNatClampNeg]? = some x5 ∧ ∃ ar6, h.2 a2 = some (.inl (0, .inl ar6)) ∧ 0 ≤ ((4 * l1) + l2 : Int32) ∧ ((4 * l1) + l2 : Int32).toNatClampNeg < ar6.length ∧ ∀ h7, h7 = xu h a2 (.inl (0, .inl (ar6.set ((4 * l1) + l2 : Int32).toNatClampNeg x5))) → ∃ (f8 : List Value) (a9 : Nat), h7.2 l0 = some (.inr (8, f8)) ∧ f8[29]? = some (.ref a9) ∧ ∃ (f10 : List Value) (a11 : Nat), h7.2 l0 = some (.inr (8, f10)) ∧ f10[7]? = some (.ref a11) ∧ ∃ (ar23 : List Int32) (x12 : Int32), h7.2 a11 = some (.inl (0, .inl ar23)) ∧ 0 ≤ ((4 * l1) + l2 : Int32) ∧ ar23[((4 * l1) + l2 : Int32).toNatClampNeg]? = some x12 ∧ ∃ ar13, h7.2 a9 = some (.inl (0, .inl ar13)) ∧ 0 ≤ ((4 * l1) + l2 : Int32) ∧ ((4 * l1) + l2 : Int32).toNatClampNeg < ar13.length ∧ ∀ h14, h14 = xu h7 a9 (.inl (0, .inl (ar13.set ((4 * l1) + l2 : Int32).toNatClampNeg x12))) → ∃ (f15 : List Value) (a16 : Nat), h14.2 l0 = some (.inr (8, f15)) ∧ f15[30]? = some (.ref a16) ∧ ∃ (f17 : List Value) (a18 : Nat), h14.2 l0 = some (.inr (8, f17)) ∧ f17[8]? = some (.ref a18) ∧ ∃ (ar22 : List Int32) (x19 : Int32), h14.2 a18 = some (.inl (0, .inl ar22)) ∧ 0 ≤ ((4 * l1) + l2 : Int32) ∧ ar22[((4 * l1) + l2 : Int32).toNatClampNeg]? = some x19 ∧ ∃ ar20, h14.2 a16 = some (.inl (0, .inl ar20)) ∧ 0 ≤ ((4 * l1) + l2 : Int32) ∧ ((4 * l1) + l2 : Int32).toNatClampNeg < ar20.length ∧ ∀ h21, h21 = xu h14 a16 (.inl (0, .inl (ar20.set ((4 * l1) + l2 : Int32).toNatClampNeg x19))) → w_M_bestIsOwn_2 Q n (l0) (l1) (l2 + 1) h21))
set_option maxRecDepth 100000 in
set_option maxHeartbeats 4000000 in
theorem p_M_bestIsOwn_2 {sc : List Int32} {Q : Option Value → xH → Prop} : ∀ (n : Nat) (l0 : Nat) (l1 : Int32) (l2 : Int32) (h : xH), w_M_bestIsOwn_2 Q n l0 l1 l2 h → xW sc m_M_bestIsOwn 0 0 0 2 [some (.ref (l0)), some (.int (l1)), some (.int (l2)), none] [] h Q := by
  intro n
  induction n with
  | zero => intro l0 l1 l2 h hw; exact False.elim hw
  | succ n ih =>
    intro l0 l1 l2 h hw
    rw [w_M_bestIsOwn_2] at hw
    refine xw_iload_n d_M_bestIsOwn_2 rfl rfl ?_
    refine xw_iconst (v := 4) d_M_bestIsOwn_3 (by decide) ?_
    refine xw_icmp_ge (tgt := 55) d_M_bestIsOwn_4 (by decide) (fun c25 => ?_) (fun c25 => ?_)
    · have hw := hw.1 c25
      exact xw_return rfl d_M_bestIsOwn_55 hw
    · have hw := hw.2 c25
      refine xw_iconst (v := 4) d_M_bestIsOwn_7 (by decide) ?_
      refine xw_iload_n d_M_bestIsOwn_8 rfl rfl ?_
      refine xw_imul d_M_bestIsOwn_9 ?_
      refine xw_iload_n d_M_bestIsOwn_10 rfl rfl ?_
      refine xw_iadd d_M_bestIsOwn_11 ?_
      refine xs_istore_n (lv' := [some (.ref (l0)), some (.int (l1)), some (.int (l2)), some (.int ((4 * l1) + l2))]) d_M_bestIsOwn_12 rfl rfl rfl ?_
      refine xw_aload_n d_M_bestIsOwn_13 rfl rfl ?_
      obtain ⟨f1, a2, hA, hB, hw⟩ := hw
      refine xw_getr fr_M_88 d_M_bestIsOwn_14 hA hB ?_
      refine xw_iload_n d_M_bestIsOwn_17 rfl rfl ?_
      refine xw_aload_n d_M_bestIsOwn_18 rfl rfl ?_
      obtain ⟨f3, a4, hA, hB, hw⟩ := hw
      refine xw_getr fr_M_25 d_M_bestIsOwn_19 hA hB ?_
      refine xw_iload_n d_M_bestIsOwn_22 rfl rfl ?_
      obtain ⟨ar24, x5, hA, hB, hC, hw⟩ := hw
      refine xw_iaload (t := 0) rfl d_M_bestIsOwn_23 hA hB hC ?_
      obtain ⟨ar6, hA, hB, hC, hw⟩ := hw
      refine xw_iastore (t := 0) rfl d_M_bestIsOwn_24 hA hB hC ?_
      generalize hh : xu h a2 (.inl (0, .inl (ar6.set ((4 * l1) + l2 : Int32).toNatClampNeg x5))) = h7
      have hw := hw h7 hh.symm
      refine xw_aload_n d_M_bestIsOwn_25 rfl rfl ?_
      obtain ⟨f8, a9, hA, hB, hw⟩ := hw
      refine xw_getr fr_M_91 d_M_bestIsOwn_26 hA hB ?_
      refine xw_iload_n d_M_bestIsOwn_29 rfl rfl ?_
      refine xw_aload_n d_M_bestIsOwn_30 rfl rfl ?_
      obtain ⟨f10, a11, hA, hB, hw⟩ := hw
      refine xw_getr fr_M_28 d_M_bestIsOwn_31 hA hB ?_
      refine xw_iload_n d_M_bestIsOwn_34 rfl rfl ?_
      obtain ⟨ar23, x12, hA, hB, hC, hw⟩ := hw
      refine xw_iaload (t := 0) rfl d_M_bestIsOwn_35 hA hB hC ?_
      obtain ⟨ar13, hA, hB, hC, hw⟩ := hw
      refine xw_iastore (t := 0) rfl d_M_bestIsOwn_36 hA hB hC ?_
      generalize hh : xu h7 a9 (.inl (0, .inl (ar13.set ((4 * l1) + l2 : Int32).toNatClampNeg x12))) = h14
      have hw := hw h14 hh.symm
      refine xw_aload_n d_M_bestIsOwn_37 rfl rfl ?_
      obtain ⟨f15, a16, hA, hB, hw⟩ := hw
      refine xw_getr fr_M_94 d_M_bestIsOwn_38 hA hB ?_
      refine xw_iload_n d_M_bestIsOwn_41 rfl rfl ?_
      refine xw_aload_n d_M_bestIsOwn_42 rfl rfl ?_
      obtain ⟨f17, a18, hA, hB, hw⟩ := hw
      refine xw_getr fr_M_31 d_M_bestIsOwn_43 hA hB ?_
      refine xw_iload_n d_M_bestIsOwn_46 rfl rfl ?_
      obtain ⟨ar22, x19, hA, hB, hC, hw⟩ := hw
      refine xw_iaload (t := 0) rfl d_M_bestIsOwn_47 hA hB hC ?_
      obtain ⟨ar20, hA, hB, hC, hw⟩ := hw
      refine xw_iastore (t := 0) rfl d_M_bestIsOwn_48 hA hB hC ?_
      generalize hh : xu h14 a16 (.inl (0, .inl (ar20.set ((4 * l1) + l2 : Int32).toNatClampNeg x19))) = h21
      have hw := hw h21 hh.symm
      refine xs_iinc (v := l2 + 1) (lv' := [some (.ref (l0)), some (.int (l1)), some (.int (l2 + 1)), some (.int ((4 * l1) + l2))]) d_M_bestIsOwn_49 rfl rfl rfl ?_
      refine xw_goto (tgt := 2) d_M_bestIsOwn_52 (by decide) ?_
      refine xs_drop (lv' := [some (.ref (l0)), some (.int (l1)), some (.int (l2 + 1)), none]) 3 rfl ?_
      exact ih (l0) (l1) (l2 + 1) h21 hw
set_option maxRecDepth 100000 in
def w_M_bestIsOwn (Q : Option Value → xH → Prop) (this : Nat) (p1 : Int32) (h : xH) : Prop := ∃ n1, w_M_bestIsOwn_2 Q n1 (this) (p1) (0) h
set_option maxRecDepth 100000 in
set_option maxHeartbeats 4000000 in
theorem x_M_bestIsOwn {sc : List Int32} {Q : Option Value → xH → Prop} {this : Nat} {p1 : Int32} {h : xH} (hw : w_M_bestIsOwn Q this p1 h) : xMet sc m_M_bestIsOwn 0 0 0 [.ref (this), .int (p1)] h Q := by
  unfold w_M_bestIsOwn at hw
  refine xMet.of2 cw_M_bestIsOwn rfl rfl ?_
  show xW sc m_M_bestIsOwn 0 0 0 0 [some (.ref (this)), some (.int (p1)), none, none] [] h Q
  refine xw_iconst (v := 0) d_M_bestIsOwn_0 (by decide) ?_
  refine xs_istore_n (lv' := [some (.ref (this)), some (.int (p1)), some (.int (0)), none]) d_M_bestIsOwn_1 rfl rfl rfl ?_
  obtain ⟨n1, hw⟩ := hw
  exact p_M_bestIsOwn_2  n1 (this) (p1) (0) h hw
set_option maxRecDepth 100000 in
def w_M_top (Q : Option Value → xH → Prop) (this : Nat) (p1 : Int32) (p2 : Int32) (p3 : Int32) (h : xH) : Prop := ∃ (f1 : List Value) (a2 : Nat), h.2 this = some (.inr (8, f1)) ∧ f1[26]? = some (.ref a2) ∧ ∃ (ar13 : List Int32) (x3 : Int32), h.2 a2 = some (.inl (0, .inl ar13)) ∧ 0 ≤ p1 ∧ ar13[p1.toNatClampNeg]? = some x3 ∧ ((x3 < p2 → ∃ (f4 : List Value) (a5 : Nat), h.2 this = some (.inr (8, f4)) ∧ f4[26]? = some (.ref a5) ∧ ∃ ar6, h.2 a5 = some (.inl (0, .inl ar6)) ∧ 0 ≤ p1 ∧ p1.toNatClampNeg < ar6.length ∧ ∀ h7, h7 = xu h a5 (.inl (0, .inl (ar6.set p1.toNatClampNeg p2))) → ∃ (f8 : List Value) (a9 : Nat), h7.2 this = some (.inr (8, f8)) ∧ f8[27]? = some (.ref a9) ∧ ∃ ar10, h7.2 a9 = some (.inl (0, .inl ar10)) ∧ 0 ≤ p1 ∧ p1.toNatClampNeg < ar10.length ∧ ∀ h11, h11 = xu h7 a9 (.inl (0, .inl (ar10.set p1.toNatClampNeg p3))) → Q none h11) ∧ (¬ x3 < p2 → Q none h))
set_option maxRecDepth 100000 in
set_option maxHeartbeats 4000000 in
theorem x_M_top {sc : List Int32} {Q : Option Value → xH → Prop} {this : Nat} {p1 : Int32} {p2 : Int32} {p3 : Int32} {h : xH} (hw : w_M_top Q this p1 p2 p3 h) : xMet sc m_M_top 0 0 0 [.ref (this), .int (p1), .int (p2), .int (p3)] h Q := by
  unfold w_M_top at hw
  refine xMet.of2 cw_M_top rfl rfl ?_
  show xW sc m_M_top 0 0 0 0 [some (.ref (this)), some (.int (p1)), some (.int (p2)), some (.int (p3))] [] h Q
  refine xw_iload_n d_M_top_0 rfl rfl ?_
  refine xw_aload_n d_M_top_1 rfl rfl ?_
  obtain ⟨f1, a2, hA, hB, hw⟩ := hw
  refine xw_getr fr_M_82 d_M_top_2 hA hB ?_
  refine xw_iload_n d_M_top_5 rfl rfl ?_
  obtain ⟨ar13, x3, hA, hB, hC, hw⟩ := hw
  refine xw_iaload (t := 0) rfl d_M_top_6 hA hB hC ?_
  refine xw_icmp_gt (tgt := 11) d_M_top_7 (by decide) (fun c12 => ?_) (fun c12 => ?_)
  · have hw := hw.1 c12
    refine xw_aload_n d_M_top_11 rfl rfl ?_
    obtain ⟨f4, a5, hA, hB, hw⟩ := hw
    refine xw_getr fr_M_82 d_M_top_12 hA hB ?_
    refine xw_iload_n d_M_top_15 rfl rfl ?_
    refine xw_iload_n d_M_top_16 rfl rfl ?_
    obtain ⟨ar6, hA, hB, hC, hw⟩ := hw
    refine xw_iastore (t := 0) rfl d_M_top_17 hA hB hC ?_
    generalize hh : xu h a5 (.inl (0, .inl (ar6.set p1.toNatClampNeg p2))) = h7
    have hw := hw h7 hh.symm
    refine xw_aload_n d_M_top_18 rfl rfl ?_
    obtain ⟨f8, a9, hA, hB, hw⟩ := hw
    refine xw_getr fr_M_85 d_M_top_19 hA hB ?_
    refine xw_iload_n d_M_top_22 rfl rfl ?_
    refine xw_iload_n d_M_top_23 rfl rfl ?_
    obtain ⟨ar10, hA, hB, hC, hw⟩ := hw
    refine xw_iastore (t := 0) rfl d_M_top_24 hA hB hC ?_
    generalize hh : xu h7 a9 (.inl (0, .inl (ar10.set p1.toNatClampNeg p3))) = h11
    have hw := hw h11 hh.symm
    exact xw_return rfl d_M_top_25 hw
  · have hw := hw.2 c12
    exact xw_return rfl d_M_top_10 hw
set_option maxRecDepth 100000 in
def w_M_isData_20 (Q : Option Value → xH → Prop) (l0 : Nat) (l1 : Int32) (h : xH) : Prop := (narrow .boolean (.int 1) = .int 1 ∧ Q (some (.int 1)) h)
set_option maxRecDepth 100000 in
set_option maxHeartbeats 4000000 in
theorem p_M_isData_20 {sc : List Int32} {Q : Option Value → xH → Prop} (l0 : Nat) (l1 : Int32) (h : xH) (hw : w_M_isData_20 Q l0 l1 h) : xW sc m_M_isData 0 0 0 20 [some (.ref (l0)), some (.int (l1))] [] h Q := by
  unfold w_M_isData_20 at hw
  refine xw_iconst (v := 1) d_M_isData_20 (by decide) ?_
  refine xw_goto (tgt := 25) d_M_isData_21 (by decide) ?_
  exact xw_zreturn rfl hw.1 d_M_isData_25 hw.2
set_option maxRecDepth 100000 in
def w_M_isData (Q : Option Value → xH → Prop) (this : Nat) (p1 : Int32) (h : xH) : Prop := ∃ (f1 : List Value) (a2 : Nat), h.2 this = some (.inr (8, f1)) ∧ f1[16]? = some (.ref a2) ∧ ∃ (ar10 : List Int32) (x3 : Int32), h.2 a2 = some (.inl (0, .inl ar10)) ∧ 0 ≤ p1 ∧ ar10[p1.toNatClampNeg]? = some x3 ∧ ((x3 = 1 → w_M_isData_20 Q (this) (p1) h) ∧ (¬ x3 = 1 → ∃ (f4 : List Value) (a5 : Nat), h.2 this = some (.inr (8, f4)) ∧ f4[16]? = some (.ref a5) ∧ ∃ (ar8 : List Int32) (x6 : Int32), h.2 a5 = some (.inl (0, .inl ar8)) ∧ 0 ≤ p1 ∧ ar8[p1.toNatClampNeg]? = some x6 ∧ ((¬ x6 = 2 → (narrow .boolean (.int 0) = .int 0 ∧ Q (some (.int 0)) h)) ∧ (x6 = 2 → w_M_isData_20 Q (this) (p1) h))))
set_option maxRecDepth 100000 in
set_option maxHeartbeats 4000000 in
theorem x_M_isData {sc : List Int32} {Q : Option Value → xH → Prop} {this : Nat} {p1 : Int32} {h : xH} (hw : w_M_isData Q this p1 h) : xMet sc m_M_isData 0 0 0 [.ref (this), .int (p1)] h Q := by
  unfold w_M_isData at hw
  refine xMet.of2 cw_M_isData rfl rfl ?_
  show xW sc m_M_isData 0 0 0 0 [some (.ref (this)), some (.int (p1))] [] h Q
  refine xw_aload_n d_M_isData_0 rfl rfl ?_
  obtain ⟨f1, a2, hA, hB, hw⟩ := hw
  refine xw_getr fr_M_52 d_M_isData_1 hA hB ?_
  refine xw_iload_n d_M_isData_4 rfl rfl ?_
  obtain ⟨ar10, x3, hA, hB, hC, hw⟩ := hw
  refine xw_iaload (t := 0) rfl d_M_isData_5 hA hB hC ?_
  refine xw_iconst (v := 1) d_M_isData_6 (by decide) ?_
  refine xw_icmp_eq (tgt := 20) d_M_isData_7 (by decide) (fun c9 => ?_) (fun c9 => ?_)
  · have hw := hw.1 c9
    exact p_M_isData_20  (this) (p1) h hw
  · have hw := hw.2 c9
    refine xw_aload_n d_M_isData_10 rfl rfl ?_
    obtain ⟨f4, a5, hA, hB, hw⟩ := hw
    refine xw_getr fr_M_52 d_M_isData_11 hA hB ?_
    refine xw_iload_n d_M_isData_14 rfl rfl ?_
    obtain ⟨ar8, x6, hA, hB, hC, hw⟩ := hw
    refine xw_iaload (t := 0) rfl d_M_isData_15 hA hB hC ?_
    refine xw_iconst (v := 2) d_M_isData_16 (by decide) ?_
    refine xw_icmp_ne (tgt := 24) d_M_isData_17 (by decide) (fun c7 => ?_) (fun c7 => ?_)
    · have hw := hw.1 c7
      refine xw_iconst (v := 0) d_M_isData_24 (by decide) ?_
      exact xw_zreturn rfl hw.1 d_M_isData_25 hw.2
    · have hw := hw.2 c7
      exact p_M_isData_20  (this) (p1) h hw
set_option maxRecDepth 100000 in
def w_M_chosen (Q : Option Value → xH → Prop) (this : Nat) (p1 : Int32) (h : xH) : Prop := ∃ (f1 : List Value) (a2 : Nat), h.2 this = some (.inr (8, f1)) ∧ f1[26]? = some (.ref a2) ∧ ∃ (ar13 : List Int32) (x3 : Int32), h.2 a2 = some (.inl (0, .inl ar13)) ∧ 0 ≤ p1 ∧ ar13[p1.toNatClampNeg]? = some x3 ∧ ((x3 ≤ 0 → ∃ (f4 : List Value) (a5 : Nat), h.2 this = some (.inr (8, f4)) ∧ f4[22]? = some (.ref a5) ∧ ∃ (ar7 : List Int32) (x6 : Int32), h.2 a5 = some (.inl (0, .inl ar7)) ∧ 0 ≤ p1 ∧ ar7[p1.toNatClampNeg]? = some x6 ∧ Q (some (.int x6)) h) ∧ (¬ x3 ≤ 0 → ∃ (f8 : List Value) (a9 : Nat), h.2 this = some (.inr (8, f8)) ∧ f8[27]? = some (.ref a9) ∧ ∃ (ar11 : List Int32) (x10 : Int32), h.2 a9 = some (.inl (0, .inl ar11)) ∧ 0 ≤ p1 ∧ ar11[p1.toNatClampNeg]? = some x10 ∧ Q (some (.int x10)) h))
set_option maxRecDepth 100000 in
set_option maxHeartbeats 4000000 in
theorem x_M_chosen {sc : List Int32} {Q : Option Value → xH → Prop} {this : Nat} {p1 : Int32} {h : xH} (hw : w_M_chosen Q this p1 h) : xMet sc m_M_chosen 0 0 0 [.ref (this), .int (p1)] h Q := by
  unfold w_M_chosen at hw
  refine xMet.of2 cw_M_chosen rfl rfl ?_
  show xW sc m_M_chosen 0 0 0 0 [some (.ref (this)), some (.int (p1))] [] h Q
  refine xw_aload_n d_M_chosen_0 rfl rfl ?_
  obtain ⟨f1, a2, hA, hB, hw⟩ := hw
  refine xw_getr fr_M_82 d_M_chosen_1 hA hB ?_
  refine xw_iload_n d_M_chosen_4 rfl rfl ?_
  obtain ⟨ar13, x3, hA, hB, hC, hw⟩ := hw
  refine xw_iaload (t := 0) rfl d_M_chosen_5 hA hB hC ?_
  refine xw_if_le (tgt := 18) d_M_chosen_6 (by decide) (fun c12 => ?_) (fun c12 => ?_)
  · have hw := hw.1 c12
    refine xw_aload_n d_M_chosen_18 rfl rfl ?_
    obtain ⟨f4, a5, hA, hB, hw⟩ := hw
    refine xw_getr fr_M_70 d_M_chosen_19 hA hB ?_
    refine xw_iload_n d_M_chosen_22 rfl rfl ?_
    obtain ⟨ar7, x6, hA, hB, hC, hw⟩ := hw
    refine xw_iaload (t := 0) rfl d_M_chosen_23 hA hB hC ?_
    exact xw_ireturn rfl d_M_chosen_24 hw
  · have hw := hw.2 c12
    refine xw_aload_n d_M_chosen_9 rfl rfl ?_
    obtain ⟨f8, a9, hA, hB, hw⟩ := hw
    refine xw_getr fr_M_85 d_M_chosen_10 hA hB ?_
    refine xw_iload_n d_M_chosen_13 rfl rfl ?_
    obtain ⟨ar11, x10, hA, hB, hC, hw⟩ := hw
    refine xw_iaload (t := 0) rfl d_M_chosen_14 hA hB hC ?_
    refine xw_goto (tgt := 24) d_M_chosen_15 (by decide) ?_
    exact xw_ireturn rfl d_M_chosen_24 hw
set_option maxRecDepth 100000 in
def w_M_request_263 (Q : Option Value → xH → Prop) (l0 : Nat) (l1 : Int32) (l2 : Int32) (l3 : Int32) (s0 : Int32) (s1 : Int32) (s2 : Int32) (s3 : Int32) (s4 : Int32) (s5 : Int32) (s6 : Int32) (s7 : Int32) (s8 : Int32) (s9 : Int32) (s10 : Int32) (s11 : Nat) (h : xH) : Prop := (∃ f2, h.2 s11 = some (.inr (8, f2))) ∧ w_M_send (fun v h1 => v = none ∧ Q none h1) s11 s10 s9 s8 s7 s6 s5 s4 s3 s2 s1 s0 h
set_option maxRecDepth 100000 in
set_option maxHeartbeats 4000000 in
theorem p_M_request_263 {sc : List Int32} {Q : Option Value → xH → Prop} (l0 : Nat) (l1 : Int32) (l2 : Int32) (l3 : Int32) (s0 : Int32) (s1 : Int32) (s2 : Int32) (s3 : Int32) (s4 : Int32) (s5 : Int32) (s6 : Int32) (s7 : Int32) (s8 : Int32) (s9 : Int32) (s10 : Int32) (s11 : Nat) (h : xH) (hw : w_M_request_263 Q l0 l1 l2 l3 s0 s1 s2 s3 s4 s5 s6 s7 s8 s9 s10 s11 h) : xW sc m_M_request 1 0 0 263 [some (.ref (l0)), some (.int (l1)), some (.int (l2)), some (.int (l3))] [.int (s0), .int (s1), .int (s2), .int (s3), .int (s4), .int (s5), .int (s6), .int (s7), .int (s8), .int (s9), .int (s10), .ref (s11)] h Q := by
  unfold w_M_request_263 at hw
  obtain ⟨⟨f2, hA⟩, hw⟩ := hw
  refine xc_V11n lk_M_138 in_M_send d_M_request_263 (x_M_send hw) rfl hA rfl ?_
  intro h1 hw
  exact xw_return rfl d_M_request_266 hw
set_option maxRecDepth 100000 in
def w_M_request_229 (Q : Option Value → xH → Prop) (l0 : Nat) (l1 : Int32) (l2 : Int32) (l3 : Int32) (s0 : Int32) (s1 : Nat) (h : xH) : Prop := ∃ (f1 : List Value) (a2 : Nat), h.2 l0 = some (.inr (8, f1)) ∧ f1[2]? = some (.ref a2) ∧ ∃ (ar13 : List Int32) (x3 : Int32), h.2 a2 = some (.inl (0, .inl ar13)) ∧ 0 ≤ l1 ∧ ar13[l1.toNatClampNeg]? = some x3 ∧ ∃ (f4 : List Value) (a5 : Nat), h.2 l0 = some (.inr (8, f4)) ∧ f4[5]? = some (.ref a5) ∧ ∃ (ar12 : List Int32) (x6 : Int32), h.2 a5 = some (.inl (0, .inl ar12)) ∧ 0 ≤ l1 ∧ ar12[l1.toNatClampNeg]? = some x6 ∧ ∃ (f7 : List Value) (a8 : Nat), h.2 l0 = some (.inr (8, f7)) ∧ f7[17]? = some (.ref a8) ∧ ∃ (ar11 : List Int32) (x9 : Int32), h.2 a8 = some (.inl (0, .inl ar11)) ∧ 0 ≤ l1 ∧ ar11[l1.toNatClampNeg]? = some x9 ∧ ((¬ x9 = 2 → w_M_request_263 Q (l0) (l1) (l2) (l3) (0) (0) (0) (0) (0) (0) (x6) (x3) (l2) (l1) (s0) (s1) h) ∧ (x9 = 2 → w_M_request_263 Q (l0) (l1) (l2) (l3) (1) (0) (0) (0) (0) (0) (x6) (x3) (l2) (l1) (s0) (s1) h))
set_option maxRecDepth 100000 in
set_option maxHeartbeats 4000000 in
theorem p_M_request_229 {sc : List Int32} {Q : Option Value → xH → Prop} (l0 : Nat) (l1 : Int32) (l2 : Int32) (l3 : Int32) (s0 : Int32) (s1 : Nat) (h : xH) (hw : w_M_request_229 Q l0 l1 l2 l3 s0 s1 h) : xW sc m_M_request 1 0 0 229 [some (.ref (l0)), some (.int (l1)), some (.int (l2)), some (.int (l3))] [.int (s0), .ref (s1)] h Q := by
  unfold w_M_request_229 at hw
  refine xw_iload_n d_M_request_229 rfl rfl ?_
  refine xw_iload_n d_M_request_230 rfl rfl ?_
  refine xw_aload_n d_M_request_231 rfl rfl ?_
  obtain ⟨f1, a2, hA, hB, hw⟩ := hw
  refine xw_getr fr_M_13 d_M_request_232 hA hB ?_
  refine xw_iload_n d_M_request_235 rfl rfl ?_
  obtain ⟨ar13, x3, hA, hB, hC, hw⟩ := hw
  refine xw_iaload (t := 0) rfl d_M_request_236 hA hB hC ?_
  refine xw_aload_n d_M_request_237 rfl rfl ?_
  obtain ⟨f4, a5, hA, hB, hw⟩ := hw
  refine xw_getr fr_M_22 d_M_request_238 hA hB ?_
  refine xw_iload_n d_M_request_241 rfl rfl ?_
  obtain ⟨ar12, x6, hA, hB, hC, hw⟩ := hw
  refine xw_iaload (t := 0) rfl d_M_request_242 hA hB hC ?_
  refine xw_iconst (v := 0) d_M_request_243 (by decide) ?_
  refine xw_iconst (v := 0) d_M_request_244 (by decide) ?_
  refine xw_iconst (v := 0) d_M_request_245 (by decide) ?_
  refine xw_iconst (v := 0) d_M_request_246 (by decide) ?_
  refine xw_iconst (v := 0) d_M_request_247 (by decide) ?_
  refine xw_aload_n d_M_request_248 rfl rfl ?_
  obtain ⟨f7, a8, hA, hB, hw⟩ := hw
  refine xw_getr fr_M_55 d_M_request_249 hA hB ?_
  refine xw_iload_n d_M_request_252 rfl rfl ?_
  obtain ⟨ar11, x9, hA, hB, hC, hw⟩ := hw
  refine xw_iaload (t := 0) rfl d_M_request_253 hA hB hC ?_
  refine xw_iconst (v := 2) d_M_request_254 (by decide) ?_
  refine xw_icmp_ne (tgt := 262) d_M_request_255 (by decide) (fun c10 => ?_) (fun c10 => ?_)
  · have hw := hw.1 c10
    refine xw_iconst (v := 0) d_M_request_262 (by decide) ?_
    exact p_M_request_263  (l0) (l1) (l2) (l3) (0) (0) (0) (0) (0) (0) (x6) (x3) (l2) (l1) (s0) (s1) h hw
  · have hw := hw.2 c10
    refine xw_iconst (v := 1) d_M_request_258 (by decide) ?_
    refine xw_goto (tgt := 263) d_M_request_259 (by decide) ?_
    exact p_M_request_263  (l0) (l1) (l2) (l3) (1) (0) (0) (0) (0) (0) (x6) (x3) (l2) (l1) (s0) (s1) h hw
set_option maxRecDepth 100000 in
def w_M_request (Q : Option Value → xH → Prop) (this : Nat) (p1 : Int32) (p2 : Int32) (h : xH) : Prop := ∃ (f1 : List Value) (a2 : Nat), h.2 this = some (.inr (8, f1)) ∧ f1[18]? = some (.ref a2) ∧ ∃ (ar107 : List Int32) (x3 : Int32), h.2 a2 = some (.inl (0, .inl ar107)) ∧ 0 ≤ p1 ∧ ar107[p1.toNatClampNeg]? = some x3 ∧ (∃ f5, h.2 this = some (.inr (8, f5))) ∧ w_M_isData (fun v h4 => ∃ (x6 : Int32), v = some (.int x6) ∧ ((x6 = 0 → ∃ (f7 : List Value) (a8 : Nat), h4.2 this = some (.inr (8, f7)) ∧ f7[16]? = some (.ref a8) ∧ ∃ (ar60 : List Int32) (x9 : Int32), h4.2 a8 = some (.inl (0, .inl ar60)) ∧ 0 ≤ p1 ∧ ar60[p1.toNatClampNeg]? = some x9 ∧ ((¬ x9 = 3 → ∃ (f10 : List Value) (a11 : Nat), h4.2 this = some (.inr (8, f10)) ∧ f10[17]? = some (.ref a11) ∧ ∃ (ar14 : List Int32) (x12 : Int32), h4.2 a11 = some (.inl (0, .inl ar14)) ∧ 0 ≤ p1 ∧ ar14[p1.toNatClampNeg]? = some x12 ∧ ((¬ x12 = 1 → w_M_request_229 Q (this) (p1) (p2) ((4 * p1) + x3) (12) (this) h4) ∧ (x12 = 1 → w_M_request_229 Q (this) (p1) (p2) ((4 * p1) + x3) (10) (this) h4))) ∧ (x9 = 3 → ∃ (f15 : List Value) (a16 : Nat), h4.2 this = some (.inr (8, f15)) ∧ f15[17]? = some (.ref a16) ∧ ∃ (ar58 : List Int32) (x17 : Int32), h4.2 a16 = some (.inl (0, .inl ar58)) ∧ 0 ≤ p1 ∧ ar58[p1.toNatClampNeg]? = some x17 ∧ ((¬ x17 = 1 → ∃ (f18 : List Value) (a19 : Nat), h4.2 this = some (.inr (8, f18)) ∧ f18[2]? = some (.ref a19) ∧ ∃ (ar38 : List Int32) (x20 : Int32), h4.2 a19 = some (.inl (0, .inl ar38)) ∧ 0 ≤ p1 ∧ ar38[p1.toNatClampNeg]? = some x20 ∧ ∃ (f21 : List Value) (a22 : Nat), h4.2 this = some (.inr (8, f21)) ∧ f21[5]? = some (.ref a22) ∧ ∃ (ar37 : List Int32) (x23 : Int32), h4.2 a22 = some (.inl (0, .inl ar37)) ∧ 0 ≤ p1 ∧ ar37[p1.toNatClampNeg]? = some x23 ∧ ∃ (f24 : List Value) (a25 : Nat), h4.2 this = some (.inr (8, f24)) ∧ f24[18]? = some (.ref a25) ∧ ∃ (ar36 : List Int32) (x26 : Int32), h4.2 a25 = some (.inl (0, .inl ar36)) ∧ 0 ≤ p1 ∧ ar36[p1.toNatClampNeg]? = some x26 ∧ ∃ (f27 : List Value) (a28 : Nat), h4.2 this = some (.inr (8, f27)) ∧ f27[24]? = some (.ref a28) ∧ ∃ (ar35 : List Int32) (x29 : Int32), h4.2 a28 = some (.inl (0, .inl ar35)) ∧ 0 ≤ p1 ∧ ar35[p1.toNatClampNeg]? = some x29 ∧ (∃ f31, h4.2 this = some (.inr (8, f31))) ∧ w_M_chosen (fun v h30 => ∃ (x32 : Int32), v = some (.int x32) ∧ (∃ f34, h30.2 this = some (.inr (8, f34))) ∧ w_M_send (fun v h33 => v = none ∧ Q none h33) this 7 p1 p2 x20 x23 x26 x29 x32 0 0 0 h30) this p1 h4) ∧ (x17 = 1 → ∃ (f39 : List Value) (a40 : Nat), h4.2 this = some (.inr (8, f39)) ∧ f39[2]? = some (.ref a40) ∧ ∃ (ar56 : List Int32) (x41 : Int32), h4.2 a40 = some (.inl (0, .inl ar56)) ∧ 0 ≤ p1 ∧ ar56[p1.toNatClampNeg]? = some x41 ∧ ∃ (f42 : List Value) (a43 : Nat), h4.2 this = some (.inr (8, f42)) ∧ f42[5]? = some (.ref a43) ∧ ∃ (ar55 : List Int32) (x44 : Int32), h4.2 a43 = some (.inl (0, .inl ar55)) ∧ 0 ≤ p1 ∧ ar55[p1.toNatClampNeg]? = some x44 ∧ ∃ (f45 : List Value) (a46 : Nat), h4.2 this = some (.inr (8, f45)) ∧ f45[18]? = some (.ref a46) ∧ ∃ (ar54 : List Int32) (x47 : Int32), h4.2 a46 = some (.inl (0, .inl ar54)) ∧ 0 ≤ p1 ∧ ar54[p1.toNatClampNeg]? = some x47 ∧ ∃ (f48 : List Value) (a49 : Nat), h4.2 this = some (.inr (8, f48)) ∧ f48[24]? = some (.ref a49) ∧ ∃ (ar53 : List Int32) (x50 : Int32), h4.2 a49 = some (.inl (0, .inl ar53)) ∧ 0 ≤ p1 ∧ ar53[p1.toNatClampNeg]? = some x50 ∧ (∃ f52, h4.2 this = some (.inr (8, f52))) ∧ w_M_send (fun v h51 => v = none ∧ Q none h51) this 5 p1 p2 x41 x44 x47 x50 0 0 0 0 h4))))) ∧ (¬ x6 = 0 → ∃ (f61 : List Value) (a62 : Nat), h4.2 this = some (.inr (8, f61)) ∧ f61[17]? = some (.ref a62) ∧ ∃ (ar105 : List Int32) (x63 : Int32), h4.2 a62 = some (.inl (0, .inl ar105)) ∧ 0 ≤ p1 ∧ ar105[p1.toNatClampNeg]? = some x63 ∧ ((¬ x63 = 1 → ∃ (f64 : List Value) (a65 : Nat), h4.2 this = some (.inr (8, f64)) ∧ f64[2]? = some (.ref a65) ∧ ∃ (ar89 : List Int32) (x66 : Int32), h4.2 a65 = some (.inl (0, .inl ar89)) ∧ 0 ≤ p1 ∧ ar89[p1.toNatClampNeg]? = some x66 ∧ ∃ (f67 : List Value) (a68 : Nat), h4.2 this = some (.inr (8, f67)) ∧ f67[5]? = some (.ref a68) ∧ ∃ (ar88 : List Int32) (x69 : Int32), h4.2 a68 = some (.inl (0, .inl ar88)) ∧ 0 ≤ p1 ∧ ar88[p1.toNatClampNeg]? = some x69 ∧ ∃ (f70 : List Value) (a71 : Nat), h4.2 this = some (.inr (8, f70)) ∧ f70[18]? = some (.ref a71) ∧ ∃ (ar87 : List Int32) (x72 : Int32), h4.2 a71 = some (.inl (0, .inl ar87)) ∧ 0 ≤ p1 ∧ ar87[p1.toNatClampNeg]? = some x72 ∧ ∃ (f73 : List Value) (a74 : Nat), h4.2 this = some (.inr (8, f73)) ∧ f73[28]? = some (.ref a74) ∧ ∃ (ar86 : List Int32) (x75 : Int32), h4.2 a74 = some (.inl (0, .inl ar86)) ∧ 0 ≤ ((4 * p1) + x3 : Int32) ∧ ar86[((4 * p1) + x3 : Int32).toNatClampNeg]? = some x75 ∧ ∃ (f76 : List Value) (a77 : Nat), h4.2 this = some (.inr (8, f76)) ∧ f76[29]? = some (.ref a77) ∧ ∃ (ar85 : List Int32) (x78 : Int32), h4.2 a77 = some (.inl (0, .inl ar85)) ∧ 0 ≤ ((4 * p1) + x3 : Int32) ∧ ar85[((4 * p1) + x3 : Int32).toNatClampNeg]? = some x78 ∧ ∃ (f79 : List Value) (a80 : Nat), h4.2 this = some (.inr (8, f79)) ∧ f79[30]? = some (.ref a80) ∧ ∃ (ar84 : List Int32) (x81 : Int32), h4.2 a80 = some (.inl (0, .inl ar84)) ∧ 0 ≤ ((4 * p1) + x3 : Int32) ∧ ar84[((4 * p1) + x3 : Int32).toNatClampNeg]? = some x81 ∧ (∃ f83, h4.2 this = some (.inr (8, f83))) ∧ w_M_send (fun v h82 => v = none ∧ Q none h82) this 3 p1 p2 x66 x69 x72 x75 x78 x81 0 0 h4) ∧ (x63 = 1 → ∃ (f90 : List Value) (a91 : Nat), h4.2 this = some (.inr (8, f90)) ∧ f90[2]? = some (.ref a91) ∧ ∃ (ar103 : List Int32) (x92 : Int32), h4.2 a91 = some (.inl (0, .inl ar103)) ∧ 0 ≤ p1 ∧ ar103[p1.toNatClampNeg]? = some x92 ∧ ∃ (f93 : List Value) (a94 : Nat), h4.2 this = some (.inr (8, f93)) ∧ f93[5]? = some (.ref a94) ∧ ∃ (ar102 : List Int32) (x95 : Int32), h4.2 a94 = some (.inl (0, .inl ar102)) ∧ 0 ≤ p1 ∧ ar102[p1.toNatClampNeg]? = some x95 ∧ ∃ (f96 : List Value) (a97 : Nat), h4.2 this = some (.inr (8, f96)) ∧ f96[18]? = some (.ref a97) ∧ ∃ (ar101 : List Int32) (x98 : Int32), h4.2 a97 = some (.inl (0, .inl ar101)) ∧ 0 ≤ p1 ∧ ar101[p1.toNatClampNeg]? = some x98 ∧ (∃ f100, h4.2 this = some (.inr (8, f100))) ∧ w_M_send (fun v h99 => v = none ∧ Q none h99) this 1 p1 p2 x92 x95 x98 0 0 0 0 0 h4))))) this p1 h
set_option maxRecDepth 100000 in
set_option maxHeartbeats 4000000 in
theorem x_M_request {sc : List Int32} {Q : Option Value → xH → Prop} {this : Nat} {p1 : Int32} {p2 : Int32} {h : xH} (hw : w_M_request Q this p1 p2 h) : xMet sc m_M_request 1 0 0 [.ref (this), .int (p1), .int (p2)] h Q := by
  unfold w_M_request at hw
  refine xMet.of2 cw_M_request rfl rfl ?_
  show xW sc m_M_request 1 0 0 0 [some (.ref (this)), some (.int (p1)), some (.int (p2)), none] [] h Q
  refine xw_iconst (v := 4) d_M_request_0 (by decide) ?_
  refine xw_iload_n d_M_request_1 rfl rfl ?_
  refine xw_imul d_M_request_2 ?_
  refine xw_aload_n d_M_request_3 rfl rfl ?_
  obtain ⟨f1, a2, hA, hB, hw⟩ := hw
  refine xw_getr fr_M_58 d_M_request_4 hA hB ?_
  refine xw_iload_n d_M_request_7 rfl rfl ?_
  obtain ⟨ar107, x3, hA, hB, hC, hw⟩ := hw
  refine xw_iaload (t := 0) rfl d_M_request_8 hA hB hC ?_
  refine xw_iadd d_M_request_9 ?_
  refine xs_istore_n (lv' := [some (.ref (this)), some (.int (p1)), some (.int (p2)), some (.int ((4 * p1) + x3))]) d_M_request_10 rfl rfl rfl ?_
  refine xw_aload_n d_M_request_11 rfl rfl ?_
  refine xw_iload_n d_M_request_12 rfl rfl ?_
  obtain ⟨⟨f5, hA⟩, hw⟩ := hw
  refine xc_V1i lk_M_135 in_M_isData d_M_request_13 (x_M_isData hw) rfl hA rfl ?_
  intro x6 h4 hw
  refine xw_if_eq (tgt := 110) d_M_request_16 (by decide) (fun c106 => ?_) (fun c106 => ?_)
  · have hw := hw.1 c106
    refine xw_aload_n d_M_request_110 rfl rfl ?_
    obtain ⟨f7, a8, hA, hB, hw⟩ := hw
    refine xw_getr fr_M_52 d_M_request_111 hA hB ?_
    refine xw_iload_n d_M_request_114 rfl rfl ?_
    obtain ⟨ar60, x9, hA, hB, hC, hw⟩ := hw
    refine xw_iaload (t := 0) rfl d_M_request_115 hA hB hC ?_
    refine xw_iconst (v := 3) d_M_request_116 (by decide) ?_
    refine xw_icmp_ne (tgt := 211) d_M_request_117 (by decide) (fun c59 => ?_) (fun c59 => ?_)
    · have hw := hw.1 c59
      refine xw_aload_n d_M_request_211 rfl rfl ?_
      refine xw_aload_n d_M_request_212 rfl rfl ?_
      obtain ⟨f10, a11, hA, hB, hw⟩ := hw
      refine xw_getr fr_M_55 d_M_request_213 hA hB ?_
      refine xw_iload_n d_M_request_216 rfl rfl ?_
      obtain ⟨ar14, x12, hA, hB, hC, hw⟩ := hw
      refine xw_iaload (t := 0) rfl d_M_request_217 hA hB hC ?_
      refine xw_iconst (v := 1) d_M_request_218 (by decide) ?_
      refine xw_icmp_ne (tgt := 227) d_M_request_219 (by decide) (fun c13 => ?_) (fun c13 => ?_)
      · have hw := hw.1 c13
        refine xw_bipush (v := 12) d_M_request_227 (by decide) ?_
        exact p_M_request_229  (this) (p1) (p2) ((4 * p1) + x3) (12) (this) h4 hw
      · have hw := hw.2 c13
        refine xw_bipush (v := 10) d_M_request_222 (by decide) ?_
        refine xw_goto (tgt := 229) d_M_request_224 (by decide) ?_
        exact p_M_request_229  (this) (p1) (p2) ((4 * p1) + x3) (10) (this) h4 hw
    · have hw := hw.2 c59
      refine xw_aload_n d_M_request_120 rfl rfl ?_
      obtain ⟨f15, a16, hA, hB, hw⟩ := hw
      refine xw_getr fr_M_55 d_M_request_121 hA hB ?_
      refine xw_iload_n d_M_request_124 rfl rfl ?_
      obtain ⟨ar58, x17, hA, hB, hC, hw⟩ := hw
      refine xw_iaload (t := 0) rfl d_M_request_125 hA hB hC ?_
      refine xw_iconst (v := 1) d_M_request_126 (by decide) ?_
      refine xw_icmp_ne (tgt := 168) d_M_request_127 (by decide) (fun c57 => ?_) (fun c57 => ?_)
      · have hw := hw.1 c57
        refine xw_aload_n d_M_request_168 rfl rfl ?_
        refine xw_bipush (v := 7) d_M_request_169 (by decide) ?_
        refine xw_iload_n d_M_request_171 rfl rfl ?_
        refine xw_iload_n d_M_request_172 rfl rfl ?_
        refine xw_aload_n d_M_request_173 rfl rfl ?_
        obtain ⟨f18, a19, hA, hB, hw⟩ := hw
        refine xw_getr fr_M_13 d_M_request_174 hA hB ?_
        refine xw_iload_n d_M_request_177 rfl rfl ?_
        obtain ⟨ar38, x20, hA, hB, hC, hw⟩ := hw
        refine xw_iaload (t := 0) rfl d_M_request_178 hA hB hC ?_
        refine xw_aload_n d_M_request_179 rfl rfl ?_
        obtain ⟨f21, a22, hA, hB, hw⟩ := hw
        refine xw_getr fr_M_22 d_M_request_180 hA hB ?_
        refine xw_iload_n d_M_request_183 rfl rfl ?_
        obtain ⟨ar37, x23, hA, hB, hC, hw⟩ := hw
        refine xw_iaload (t := 0) rfl d_M_request_184 hA hB hC ?_
        refine xw_aload_n d_M_request_185 rfl rfl ?_
        obtain ⟨f24, a25, hA, hB, hw⟩ := hw
        refine xw_getr fr_M_58 d_M_request_186 hA hB ?_
        refine xw_iload_n d_M_request_189 rfl rfl ?_
        obtain ⟨ar36, x26, hA, hB, hC, hw⟩ := hw
        refine xw_iaload (t := 0) rfl d_M_request_190 hA hB hC ?_
        refine xw_aload_n d_M_request_191 rfl rfl ?_
        obtain ⟨f27, a28, hA, hB, hw⟩ := hw
        refine xw_getr fr_M_76 d_M_request_192 hA hB ?_
        refine xw_iload_n d_M_request_195 rfl rfl ?_
        obtain ⟨ar35, x29, hA, hB, hC, hw⟩ := hw
        refine xw_iaload (t := 0) rfl d_M_request_196 hA hB hC ?_
        refine xw_aload_n d_M_request_197 rfl rfl ?_
        refine xw_iload_n d_M_request_198 rfl rfl ?_
        obtain ⟨⟨f31, hA⟩, hw⟩ := hw
        refine xc_V1i lk_M_142 in_M_chosen d_M_request_199 (x_M_chosen hw) rfl hA rfl ?_
        intro x32 h30 hw
        refine xw_iconst (v := 0) d_M_request_202 (by decide) ?_
        refine xw_iconst (v := 0) d_M_request_203 (by decide) ?_
        refine xw_iconst (v := 0) d_M_request_204 (by decide) ?_
        obtain ⟨⟨f34, hA⟩, hw⟩ := hw
        refine xc_V11n lk_M_138 in_M_send d_M_request_205 (x_M_send hw) rfl hA rfl ?_
        intro h33 hw
        refine xw_goto (tgt := 266) d_M_request_208 (by decide) ?_
        exact xw_return rfl d_M_request_266 hw
      · have hw := hw.2 c57
        refine xw_aload_n d_M_request_130 rfl rfl ?_
        refine xw_iconst (v := 5) d_M_request_131 (by decide) ?_
        refine xw_iload_n d_M_request_132 rfl rfl ?_
        refine xw_iload_n d_M_request_133 rfl rfl ?_
        refine xw_aload_n d_M_request_134 rfl rfl ?_
        obtain ⟨f39, a40, hA, hB, hw⟩ := hw
        refine xw_getr fr_M_13 d_M_request_135 hA hB ?_
        refine xw_iload_n d_M_request_138 rfl rfl ?_
        obtain ⟨ar56, x41, hA, hB, hC, hw⟩ := hw
        refine xw_iaload (t := 0) rfl d_M_request_139 hA hB hC ?_
        refine xw_aload_n d_M_request_140 rfl rfl ?_
        obtain ⟨f42, a43, hA, hB, hw⟩ := hw
        refine xw_getr fr_M_22 d_M_request_141 hA hB ?_
        refine xw_iload_n d_M_request_144 rfl rfl ?_
        obtain ⟨ar55, x44, hA, hB, hC, hw⟩ := hw
        refine xw_iaload (t := 0) rfl d_M_request_145 hA hB hC ?_
        refine xw_aload_n d_M_request_146 rfl rfl ?_
        obtain ⟨f45, a46, hA, hB, hw⟩ := hw
        refine xw_getr fr_M_58 d_M_request_147 hA hB ?_
        refine xw_iload_n d_M_request_150 rfl rfl ?_
        obtain ⟨ar54, x47, hA, hB, hC, hw⟩ := hw
        refine xw_iaload (t := 0) rfl d_M_request_151 hA hB hC ?_
        refine xw_aload_n d_M_request_152 rfl rfl ?_
        obtain ⟨f48, a49, hA, hB, hw⟩ := hw
        refine xw_getr fr_M_76 d_M_request_153 hA hB ?_
        refine xw_iload_n d_M_request_156 rfl rfl ?_
        obtain ⟨ar53, x50, hA, hB, hC, hw⟩ := hw
        refine xw_iaload (t := 0) rfl d_M_request_157 hA hB hC ?_
        refine xw_iconst (v := 0) d_M_request_158 (by decide) ?_
        refine xw_iconst (v := 0) d_M_request_159 (by decide) ?_
        refine xw_iconst (v := 0) d_M_request_160 (by decide) ?_
        refine xw_iconst (v := 0) d_M_request_161 (by decide) ?_
        obtain ⟨⟨f52, hA⟩, hw⟩ := hw
        refine xc_V11n lk_M_138 in_M_send d_M_request_162 (x_M_send hw) rfl hA rfl ?_
        intro h51 hw
        refine xw_goto (tgt := 266) d_M_request_165 (by decide) ?_
        exact xw_return rfl d_M_request_266 hw
  · have hw := hw.2 c106
    refine xw_aload_n d_M_request_19 rfl rfl ?_
    obtain ⟨f61, a62, hA, hB, hw⟩ := hw
    refine xw_getr fr_M_55 d_M_request_20 hA hB ?_
    refine xw_iload_n d_M_request_23 rfl rfl ?_
    obtain ⟨ar105, x63, hA, hB, hC, hw⟩ := hw
    refine xw_iaload (t := 0) rfl d_M_request_24 hA hB hC ?_
    refine xw_iconst (v := 1) d_M_request_25 (by decide) ?_
    refine xw_icmp_ne (tgt := 62) d_M_request_26 (by decide) (fun c104 => ?_) (fun c104 => ?_)
    · have hw := hw.1 c104
      refine xw_aload_n d_M_request_62 rfl rfl ?_
      refine xw_iconst (v := 3) d_M_request_63 (by decide) ?_
      refine xw_iload_n d_M_request_64 rfl rfl ?_
      refine xw_iload_n d_M_request_65 rfl rfl ?_
      refine xw_aload_n d_M_request_66 rfl rfl ?_
      obtain ⟨f64, a65, hA, hB, hw⟩ := hw
      refine xw_getr fr_M_13 d_M_request_67 hA hB ?_
      refine xw_iload_n d_M_request_70 rfl rfl ?_
      obtain ⟨ar89, x66, hA, hB, hC, hw⟩ := hw
      refine xw_iaload (t := 0) rfl d_M_request_71 hA hB hC ?_
      refine xw_aload_n d_M_request_72 rfl rfl ?_
      obtain ⟨f67, a68, hA, hB, hw⟩ := hw
      refine xw_getr fr_M_22 d_M_request_73 hA hB ?_
      refine xw_iload_n d_M_request_76 rfl rfl ?_
      obtain ⟨ar88, x69, hA, hB, hC, hw⟩ := hw
      refine xw_iaload (t := 0) rfl d_M_request_77 hA hB hC ?_
      refine xw_aload_n d_M_request_78 rfl rfl ?_
      obtain ⟨f70, a71, hA, hB, hw⟩ := hw
      refine xw_getr fr_M_58 d_M_request_79 hA hB ?_
      refine xw_iload_n d_M_request_82 rfl rfl ?_
      obtain ⟨ar87, x72, hA, hB, hC, hw⟩ := hw
      refine xw_iaload (t := 0) rfl d_M_request_83 hA hB hC ?_
      refine xw_aload_n d_M_request_84 rfl rfl ?_
      obtain ⟨f73, a74, hA, hB, hw⟩ := hw
      refine xw_getr fr_M_88 d_M_request_85 hA hB ?_
      refine xw_iload_n d_M_request_88 rfl rfl ?_
      obtain ⟨ar86, x75, hA, hB, hC, hw⟩ := hw
      refine xw_iaload (t := 0) rfl d_M_request_89 hA hB hC ?_
      refine xw_aload_n d_M_request_90 rfl rfl ?_
      obtain ⟨f76, a77, hA, hB, hw⟩ := hw
      refine xw_getr fr_M_91 d_M_request_91 hA hB ?_
      refine xw_iload_n d_M_request_94 rfl rfl ?_
      obtain ⟨ar85, x78, hA, hB, hC, hw⟩ := hw
      refine xw_iaload (t := 0) rfl d_M_request_95 hA hB hC ?_
      refine xw_aload_n d_M_request_96 rfl rfl ?_
      obtain ⟨f79, a80, hA, hB, hw⟩ := hw
      refine xw_getr fr_M_94 d_M_request_97 hA hB ?_
      refine xw_iload_n d_M_request_100 rfl rfl ?_
      obtain ⟨ar84, x81, hA, hB, hC, hw⟩ := hw
      refine xw_iaload (t := 0) rfl d_M_request_101 hA hB hC ?_
      refine xw_iconst (v := 0) d_M_request_102 (by decide) ?_
      refine xw_iconst (v := 0) d_M_request_103 (by decide) ?_
      obtain ⟨⟨f83, hA⟩, hw⟩ := hw
      refine xc_V11n lk_M_138 in_M_send d_M_request_104 (x_M_send hw) rfl hA rfl ?_
      intro h82 hw
      refine xw_goto (tgt := 266) d_M_request_107 (by decide) ?_
      exact xw_return rfl d_M_request_266 hw
    · have hw := hw.2 c104
      refine xw_aload_n d_M_request_29 rfl rfl ?_
      refine xw_iconst (v := 1) d_M_request_30 (by decide) ?_
      refine xw_iload_n d_M_request_31 rfl rfl ?_
      refine xw_iload_n d_M_request_32 rfl rfl ?_
      refine xw_aload_n d_M_request_33 rfl rfl ?_
      obtain ⟨f90, a91, hA, hB, hw⟩ := hw
      refine xw_getr fr_M_13 d_M_request_34 hA hB ?_
      refine xw_iload_n d_M_request_37 rfl rfl ?_
      obtain ⟨ar103, x92, hA, hB, hC, hw⟩ := hw
      refine xw_iaload (t := 0) rfl d_M_request_38 hA hB hC ?_
      refine xw_aload_n d_M_request_39 rfl rfl ?_
      obtain ⟨f93, a94, hA, hB, hw⟩ := hw
      refine xw_getr fr_M_22 d_M_request_40 hA hB ?_
      refine xw_iload_n d_M_request_43 rfl rfl ?_
      obtain ⟨ar102, x95, hA, hB, hC, hw⟩ := hw
      refine xw_iaload (t := 0) rfl d_M_request_44 hA hB hC ?_
      refine xw_aload_n d_M_request_45 rfl rfl ?_
      obtain ⟨f96, a97, hA, hB, hw⟩ := hw
      refine xw_getr fr_M_58 d_M_request_46 hA hB ?_
      refine xw_iload_n d_M_request_49 rfl rfl ?_
      obtain ⟨ar101, x98, hA, hB, hC, hw⟩ := hw
      refine xw_iaload (t := 0) rfl d_M_request_50 hA hB hC ?_
      refine xw_iconst (v := 0) d_M_request_51 (by decide) ?_
      refine xw_iconst (v := 0) d_M_request_52 (by decide) ?_
      refine xw_iconst (v := 0) d_M_request_53 (by decide) ?_
      refine xw_iconst (v := 0) d_M_request_54 (by decide) ?_
      refine xw_iconst (v := 0) d_M_request_55 (by decide) ?_
      obtain ⟨⟨f100, hA⟩, hw⟩ := hw
      refine xc_V11n lk_M_138 in_M_send d_M_request_56 (x_M_send hw) rfl hA rfl ?_
      intro h99 hw
      refine xw_goto (tgt := 266) d_M_request_59 (by decide) ?_
      exact xw_return rfl d_M_request_266 hw
set_option maxRecDepth 100000 in
def w_M_refused (Q : Option Value → xH → Prop) (this : Nat) (p1 : Int32) (p2 : Int32) (h : xH) : Prop := ∃ (f1 : List Value) (a2 : Nat), h.2 this = some (.inr (8, f1)) ∧ f1[3]? = some (.ref a2) ∧ ∃ (ar7 : List Int32) (x3 : Int32), h.2 a2 = some (.inl (0, .inl ar7)) ∧ 0 ≤ p1 ∧ ar7[p1.toNatClampNeg]? = some x3 ∧ (((p2 >>> (3 &&& 31)) ≤ x3 → Q none h) ∧ (¬ (p2 >>> (3 &&& 31)) ≤ x3 → (∃ f5, h.2 this = some (.inr (8, f5))) ∧ w_M_writeRound (fun v h4 => v = none ∧ Q none h4) this p1 (p2 >>> (3 &&& 31)) h))
set_option maxRecDepth 100000 in
set_option maxHeartbeats 4000000 in
theorem x_M_refused {sc : List Int32} {Q : Option Value → xH → Prop} {this : Nat} {p1 : Int32} {p2 : Int32} {h : xH} (hw : w_M_refused Q this p1 p2 h) : xMet sc m_M_refused 3 0 0 [.ref (this), .int (p1), .int (p2)] h Q := by
  unfold w_M_refused at hw
  refine xMet.of2 cw_M_refused rfl rfl ?_
  show xW sc m_M_refused 3 0 0 0 [some (.ref (this)), some (.int (p1)), some (.int (p2))] [] h Q
  refine xw_iload_n d_M_refused_0 rfl rfl ?_
  refine xw_iconst (v := 3) d_M_refused_1 (by decide) ?_
  refine xw_ishr d_M_refused_2 ?_
  refine xw_aload_n d_M_refused_3 rfl rfl ?_
  obtain ⟨f1, a2, hA, hB, hw⟩ := hw
  refine xw_getr fr_M_16 d_M_refused_4 hA hB ?_
  refine xw_iload_n d_M_refused_7 rfl rfl ?_
  obtain ⟨ar7, x3, hA, hB, hC, hw⟩ := hw
  refine xw_iaload (t := 0) rfl d_M_refused_8 hA hB hC ?_
  refine xw_icmp_le (tgt := 20) d_M_refused_9 (by decide) (fun c6 => ?_) (fun c6 => ?_)
  · have hw := hw.1 c6
    exact xw_return rfl d_M_refused_20 hw
  · have hw := hw.2 c6
    refine xw_aload_n d_M_refused_12 rfl rfl ?_
    refine xw_iload_n d_M_refused_13 rfl rfl ?_
    refine xw_iload_n d_M_refused_14 rfl rfl ?_
    refine xw_iconst (v := 3) d_M_refused_15 (by decide) ?_
    refine xw_ishr d_M_refused_16 ?_
    obtain ⟨⟨f5, hA⟩, hw⟩ := hw
    refine xc_V2n lk_M_164 in_M_writeRound d_M_refused_17 (x_M_writeRound hw) rfl hA rfl ?_
    intro h4 hw
    exact xw_return rfl d_M_refused_20 hw
set_option maxRecDepth 100000 in
def w_M_does_347 (Q : Option Value → xH → Prop) (l0 : Nat) (l1 : Int32) (l2 : Int32) (h : xH) : Prop := (∃ f2, h.2 l0 = some (.inr (8, f2))) ∧ w_M_isUp (fun v h1 => ∃ (x3 : Int32), v = some (.int x3) ∧ ((x3 = 0 → Q none h1) ∧ (¬ x3 = 0 → ∃ (f4 : List Value) (a5 : Nat), h1.2 l0 = some (.inr (8, f4)) ∧ f4[21]? = some (.ref a5) ∧ ∃ (ar9 : List Int32) (x6 : Int32), h1.2 a5 = some (.inl (0, .inl ar9)) ∧ 0 ≤ l1 ∧ ar9[l1.toNatClampNeg]? = some x6 ∧ ∃ ar7, h1.2 a5 = some (.inl (0, .inl ar7)) ∧ 0 ≤ l1 ∧ l1.toNatClampNeg < ar7.length ∧ ∀ h8, h8 = xu h1 a5 (.inl (0, .inl (ar7.set l1.toNatClampNeg (x6 ||| ((1 : Int32) <<< (l1 &&& 31)))))) → Q none h8))) l0 l1 h
set_option maxRecDepth 100000 in
set_option maxHeartbeats 4000000 in
theorem p_M_does_347 {sc : List Int32} {Q : Option Value → xH → Prop} (l0 : Nat) (l1 : Int32) (l2 : Int32) (h : xH) (hw : w_M_does_347 Q l0 l1 l2 h) : xW sc m_M_does 4 0 0 347 [some (.ref (l0)), some (.int (l1)), some (.int (l2)), none, none] [] h Q := by
  unfold w_M_does_347 at hw
  refine xw_aload_n d_M_does_347 rfl rfl ?_
  refine xw_iload_n d_M_does_348 rfl rfl ?_
  obtain ⟨⟨f2, hA⟩, hw⟩ := hw
  refine xc_V1i lk_M_111 in_M_isUp d_M_does_349 (x_M_isUp hw) rfl hA rfl ?_
  intro x3 h1 hw
  refine xw_if_eq (tgt := 367) d_M_does_352 (by decide) (fun c10 => ?_) (fun c10 => ?_)
  · have hw := hw.1 c10
    exact xw_return rfl d_M_does_367 hw
  · have hw := hw.2 c10
    refine xw_aload_n d_M_does_355 rfl rfl ?_
    obtain ⟨f4, a5, hA, hB, hw⟩ := hw
    refine xw_getr fr_M_67 d_M_does_356 hA hB ?_
    refine xw_iload_n d_M_does_359 rfl rfl ?_
    refine xw_dup2 d_M_does_360 rfl rfl ?_
    obtain ⟨ar9, x6, hA, hB, hC, hw⟩ := hw
    refine xw_iaload (t := 0) rfl d_M_does_361 hA hB hC ?_
    refine xw_iconst (v := 1) d_M_does_362 (by decide) ?_
    refine xw_iload_n d_M_does_363 rfl rfl ?_
    refine xw_ishl d_M_does_364 ?_
    refine xw_ior d_M_does_365 ?_
    obtain ⟨ar7, hA, hB, hC, hw⟩ := hw
    refine xw_iastore (t := 0) rfl d_M_does_366 hA hB hC ?_
    generalize hh : xu h1 a5 (.inl (0, .inl (ar7.set l1.toNatClampNeg (x6 ||| ((1 : Int32) <<< (l1 &&& 31)))))) = h8
    have hw := hw h8 hh.symm
    exact xw_return rfl d_M_does_367 hw
set_option maxRecDepth 100000 in
def w_M_does_335 (Q : Option Value → xH → Prop) (l0 : Nat) (l1 : Int32) (l2 : Int32) (h : xH) : Prop := ∃ (f1 : List Value) (a2 : Nat), h.2 l0 = some (.inr (8, f1)) ∧ f1[11]? = some (.ref a2) ∧ ∃ (ar6 : List Int32) (x3 : Int32), h.2 a2 = some (.inl (0, .inl ar6)) ∧ 0 ≤ l2 ∧ ar6[l2.toNatClampNeg]? = some x3 ∧ (∃ f5, h.2 l0 = some (.inr (8, f5))) ∧ w_M_refused (fun v h4 => v = none ∧ Q none h4) l0 l1 x3 h
set_option maxRecDepth 100000 in
set_option maxHeartbeats 4000000 in
theorem p_M_does_335 {sc : List Int32} {Q : Option Value → xH → Prop} (l0 : Nat) (l1 : Int32) (l2 : Int32) (h : xH) (hw : w_M_does_335 Q l0 l1 l2 h) : xW sc m_M_does 4 0 0 335 [some (.ref (l0)), some (.int (l1)), some (.int (l2)), none, none] [] h Q := by
  unfold w_M_does_335 at hw
  refine xw_aload_n d_M_does_335 rfl rfl ?_
  refine xw_iload_n d_M_does_336 rfl rfl ?_
  refine xw_aload_n d_M_does_337 rfl rfl ?_
  obtain ⟨f1, a2, hA, hB, hw⟩ := hw
  refine xw_getr fr_M_40 d_M_does_338 hA hB ?_
  refine xw_iload_n d_M_does_341 rfl rfl ?_
  obtain ⟨ar6, x3, hA, hB, hC, hw⟩ := hw
  refine xw_iaload (t := 0) rfl d_M_does_342 hA hB hC ?_
  obtain ⟨⟨f5, hA⟩, hw⟩ := hw
  refine xc_V2n lk_M_160 in_M_refused d_M_does_343 (x_M_refused hw) rfl hA rfl ?_
  intro h4 hw
  exact xw_return rfl d_M_does_346 hw
set_option maxRecDepth 100000 in
def w_M_does_279 (Q : Option Value → xH → Prop) (l0 : Nat) (l1 : Int32) (l2 : Int32) (h : xH) : Prop := ∃ (f1 : List Value) (a2 : Nat), h.2 l0 = some (.inr (8, f1)) ∧ f1[17]? = some (.ref a2) ∧ ∃ (ar31 : List Int32) (x3 : Int32), h.2 a2 = some (.inl (0, .inl ar31)) ∧ 0 ≤ l1 ∧ ar31[l1.toNatClampNeg]? = some x3 ∧ ((¬ x3 = 2 → w_M_does_335 Q (l0) (l1) (l2) h) ∧ (x3 = 2 → ∃ (f4 : List Value) (a5 : Nat), h.2 l0 = some (.inr (8, f4)) ∧ f4[24]? = some (.ref a5) ∧ ∃ (ar29 : List Int32) (x6 : Int32), h.2 a5 = some (.inl (0, .inl ar29)) ∧ 0 ≤ l1 ∧ ar29[l1.toNatClampNeg]? = some x6 ∧ ∃ (f7 : List Value) (a8 : Nat), h.2 l0 = some (.inr (8, f7)) ∧ f7[11]? = some (.ref a8) ∧ ∃ (ar28 : List Int32) (x9 : Int32), h.2 a8 = some (.inl (0, .inl ar28)) ∧ 0 ≤ l2 ∧ ar28[l2.toNatClampNeg]? = some x9 ∧ ((x6 < x9 → w_M_does_335 Q (l0) (l1) (l2) h) ∧ (¬ x6 < x9 → ∃ (f10 : List Value) (a11 : Nat), h.2 l0 = some (.inr (8, f10)) ∧ f10[18]? = some (.ref a11) ∧ ∃ (ar26 : List Int32) (x12 : Int32), h.2 a11 = some (.inl (0, .inl ar26)) ∧ 0 ≤ l1 ∧ ar26[l1.toNatClampNeg]? = some x12 ∧ ∃ (f13 : List Value) (a14 : Nat), h.2 l0 = some (.inr (8, f13)) ∧ f13[24]? = some (.ref a14) ∧ ∃ (ar25 : List Int32) (x15 : Int32), h.2 a14 = some (.inl (0, .inl ar25)) ∧ 0 ≤ l1 ∧ ar25[l1.toNatClampNeg]? = some x15 ∧ ∃ (f16 : List Value) (a17 : Nat), h.2 l0 = some (.inr (8, f16)) ∧ f16[24]? = some (.ref a17) ∧ ∃ (ar24 : List Int32) (x18 : Int32), h.2 a17 = some (.inl (0, .inl ar24)) ∧ 0 ≤ l1 ∧ ar24[l1.toNatClampNeg]? = some x18 ∧ (∃ f20, h.2 l0 = some (.inr (8, f20))) ∧ w_M_chosen (fun v h19 => ∃ (x21 : Int32), v = some (.int x21) ∧ (∃ f23, h19.2 l0 = some (.inr (8, f23))) ∧ w_M_writeVote (fun v h22 => v = none ∧ w_M_does_347 Q (l0) (l1) (l2) h22) l0 l1 x12 x15 x18 x21 h19) l0 l1 h))))
set_option maxRecDepth 100000 in
set_option maxHeartbeats 4000000 in
theorem p_M_does_279 {sc : List Int32} {Q : Option Value → xH → Prop} (l0 : Nat) (l1 : Int32) (l2 : Int32) (h : xH) (hw : w_M_does_279 Q l0 l1 l2 h) : xW sc m_M_does 4 0 0 279 [some (.ref (l0)), some (.int (l1)), some (.int (l2)), none, none] [] h Q := by
  unfold w_M_does_279 at hw
  refine xw_aload_n d_M_does_279 rfl rfl ?_
  obtain ⟨f1, a2, hA, hB, hw⟩ := hw
  refine xw_getr fr_M_55 d_M_does_280 hA hB ?_
  refine xw_iload_n d_M_does_283 rfl rfl ?_
  obtain ⟨ar31, x3, hA, hB, hC, hw⟩ := hw
  refine xw_iaload (t := 0) rfl d_M_does_284 hA hB hC ?_
  refine xw_iconst (v := 2) d_M_does_285 (by decide) ?_
  refine xw_icmp_ne (tgt := 335) d_M_does_286 (by decide) (fun c30 => ?_) (fun c30 => ?_)
  · have hw := hw.1 c30
    exact p_M_does_335  (l0) (l1) (l2) h hw
  · have hw := hw.2 c30
    refine xw_aload_n d_M_does_289 rfl rfl ?_
    obtain ⟨f4, a5, hA, hB, hw⟩ := hw
    refine xw_getr fr_M_76 d_M_does_290 hA hB ?_
    refine xw_iload_n d_M_does_293 rfl rfl ?_
    obtain ⟨ar29, x6, hA, hB, hC, hw⟩ := hw
    refine xw_iaload (t := 0) rfl d_M_does_294 hA hB hC ?_
    refine xw_aload_n d_M_does_295 rfl rfl ?_
    obtain ⟨f7, a8, hA, hB, hw⟩ := hw
    refine xw_getr fr_M_40 d_M_does_296 hA hB ?_
    refine xw_iload_n d_M_does_299 rfl rfl ?_
    obtain ⟨ar28, x9, hA, hB, hC, hw⟩ := hw
    refine xw_iaload (t := 0) rfl d_M_does_300 hA hB hC ?_
    refine xw_icmp_lt (tgt := 335) d_M_does_301 (by decide) (fun c27 => ?_) (fun c27 => ?_)
    · have hw := hw.1 c27
      exact p_M_does_335  (l0) (l1) (l2) h hw
    · have hw := hw.2 c27
      refine xw_aload_n d_M_does_304 rfl rfl ?_
      refine xw_iload_n d_M_does_305 rfl rfl ?_
      refine xw_aload_n d_M_does_306 rfl rfl ?_
      obtain ⟨f10, a11, hA, hB, hw⟩ := hw
      refine xw_getr fr_M_58 d_M_does_307 hA hB ?_
      refine xw_iload_n d_M_does_310 rfl rfl ?_
      obtain ⟨ar26, x12, hA, hB, hC, hw⟩ := hw
      refine xw_iaload (t := 0) rfl d_M_does_311 hA hB hC ?_
      refine xw_aload_n d_M_does_312 rfl rfl ?_
      obtain ⟨f13, a14, hA, hB, hw⟩ := hw
      refine xw_getr fr_M_76 d_M_does_313 hA hB ?_
      refine xw_iload_n d_M_does_316 rfl rfl ?_
      obtain ⟨ar25, x15, hA, hB, hC, hw⟩ := hw
      refine xw_iaload (t := 0) rfl d_M_does_317 hA hB hC ?_
      refine xw_aload_n d_M_does_318 rfl rfl ?_
      obtain ⟨f16, a17, hA, hB, hw⟩ := hw
      refine xw_getr fr_M_76 d_M_does_319 hA hB ?_
      refine xw_iload_n d_M_does_322 rfl rfl ?_
      obtain ⟨ar24, x18, hA, hB, hC, hw⟩ := hw
      refine xw_iaload (t := 0) rfl d_M_does_323 hA hB hC ?_
      refine xw_aload_n d_M_does_324 rfl rfl ?_
      refine xw_iload_n d_M_does_325 rfl rfl ?_
      obtain ⟨⟨f20, hA⟩, hw⟩ := hw
      refine xc_V1i lk_M_142 in_M_chosen d_M_does_326 (x_M_chosen hw) rfl hA rfl ?_
      intro x21 h19 hw
      obtain ⟨⟨f23, hA⟩, hw⟩ := hw
      refine xc_V5n lk_M_153 in_M_writeVote d_M_does_329 (x_M_writeVote hw) rfl hA rfl ?_
      intro h22 hw
      refine xw_goto (tgt := 347) d_M_does_332 (by decide) ?_
      exact p_M_does_347  (l0) (l1) (l2) h22 hw
set_option maxRecDepth 100000 in
def w_M_does_196 (Q : Option Value → xH → Prop) (L117 : Nat → Int32 → Int32 → Int32 → xH → Prop) (l0 : Nat) (l1 : Int32) (l2 : Int32) (l3 : Int32) (l4 : Int32) (h : xH) : Prop := L117 (l0) (l1) (l2) (l3 + 1) h
set_option maxRecDepth 100000 in
set_option maxHeartbeats 4000000 in
theorem p_M_does_196 {sc : List Int32} {Q : Option Value → xH → Prop} {L117 : Nat → Int32 → Int32 → Int32 → xH → Prop} (hL117 : ∀ l0 l1 l2 l3 h, L117 l0 l1 l2 l3 h → xW sc m_M_does 4 0 0 117 [some (.ref (l0)), some (.int (l1)), some (.int (l2)), some (.int (l3)), none] [] h Q) (l0 : Nat) (l1 : Int32) (l2 : Int32) (l3 : Int32) (l4 : Int32) (h : xH) (hw : w_M_does_196 Q L117 l0 l1 l2 l3 l4 h) : xW sc m_M_does 4 0 0 196 [some (.ref (l0)), some (.int (l1)), some (.int (l2)), some (.int (l3)), some (.int (l4))] [] h Q := by
  unfold w_M_does_196 at hw
  refine xs_iinc (v := l3 + 1) (lv' := [some (.ref (l0)), some (.int (l1)), some (.int (l2)), some (.int (l3 + 1)), some (.int (l4))]) d_M_does_196 rfl rfl rfl ?_
  refine xw_goto (tgt := 117) d_M_does_199 (by decide) ?_
  refine xs_drop (lv' := [some (.ref (l0)), some (.int (l1)), some (.int (l2)), some (.int (l3 + 1)), none]) 4 rfl ?_
  exact hL117 (l0) (l1) (l2) (l3 + 1) h hw
set_option maxRecDepth 100000 in
def w_M_does_117 (Q : Option Value → xH → Prop) : Nat → Nat → Int32 → Int32 → Int32 → xH → Prop
  | 0, _, _, _, _, _ => False
  | n + 1, l0, l1, l2, l3, h => ((4 ≤ l3 → w_M_does_347 Q (l0) (l1) (l2) h) ∧ (¬ 4 ≤ l3 → ∃ (f1 : List Value) (a2 : Nat), h.2 l0 = some (.inr (8, f1)) ∧ f1[17]? = some (.ref a2) ∧ ∃ (ar33 : List Int32) (x3 : Int32), h.2 a2 = some (.inl (0, .inl ar33)) ∧ 0 ≤ l1 ∧ ar33[l1.toNatClampNeg]? = some x3 ∧ ((¬ x3 = 1 → ∃ (f4 : List Value) (a5 : Nat), h.2 l0 = some (.inr (8, f4)) ∧ f4[28]? = some (.ref a5) ∧ ∃ (ar17 : List Int32) (x6 : Int32), h.2 a5 = some (.inl (0, .inl ar17)) ∧ 0 ≤ ((4 * l1) + l3 : Int32) ∧ ar17[((4 * l1) + l3 : Int32).toNatClampNeg]? = some x6 ∧ ∃ (f7 : List Value) (a8 : Nat), h.2 l0 = some (.inr (8, f7)) ∧ f7[29]? = some (.ref a8) ∧ ∃ (ar16 : List Int32) (x9 : Int32), h.2 a8 = some (.inl (0, .inl ar16)) ∧ 0 ≤ ((4 * l1) + l3 : Int32) ∧ ar16[((4 * l1) + l3 : Int32).toNatClampNeg]? = some x9 ∧ ∃ (f10 : List Value) (a11 : Nat), h.2 l0 = some (.inr (8, f10)) ∧ f10[30]? = some (.ref a11) ∧ ∃ (ar15 : List Int32) (x12 : Int32), h.2 a11 = some (.inl (0, .inl ar15)) ∧ 0 ≤ ((4 * l1) + l3 : Int32) ∧ ar15[((4 * l1) + l3 : Int32).toNatClampNeg]? = some x12 ∧ (∃ f14, h.2 l0 = some (.inr (8, f14))) ∧ w_M_store (fun v h13 => v = none ∧ w_M_does_196 Q (fun y0 y1 y2 y3 yh => w_M_does_117 Q n y0 y1 y2 y3 yh) (l0) (l1) (l2) (l3) ((4 * l1) + l3) h13) l0 l1 l3 x6 x9 x12 h) ∧ (x3 = 1 → ∃ (f18 : List Value) (a19 : Nat), h.2 l0 = some (.inr (8, f18)) ∧ f18[6]? = some (.ref a19) ∧ ∃ (ar31 : List Int32) (x20 : Int32), h.2 a19 = some (.inl (0, .inl ar31)) ∧ 0 ≤ ((4 * l1) + l3 : Int32) ∧ ar31[((4 * l1) + l3 : Int32).toNatClampNeg]? = some x20 ∧ ∃ (f21 : List Value) (a22 : Nat), h.2 l0 = some (.inr (8, f21)) ∧ f21[7]? = some (.ref a22) ∧ ∃ (ar30 : List Int32) (x23 : Int32), h.2 a22 = some (.inl (0, .inl ar30)) ∧ 0 ≤ ((4 * l1) + l3 : Int32) ∧ ar30[((4 * l1) + l3 : Int32).toNatClampNeg]? = some x23 ∧ ∃ (f24 : List Value) (a25 : Nat), h.2 l0 = some (.inr (8, f24)) ∧ f24[8]? = some (.ref a25) ∧ ∃ (ar29 : List Int32) (x26 : Int32), h.2 a25 = some (.inl (0, .inl ar29)) ∧ 0 ≤ ((4 * l1) + l3 : Int32) ∧ ar29[((4 * l1) + l3 : Int32).toNatClampNeg]? = some x26 ∧ (∃ f28, h.2 l0 = some (.inr (8, f28))) ∧ w_M_best (fun v h27 => v = none ∧ w_M_does_196 Q (fun y0 y1 y2 y3 yh => w_M_does_117 Q n y0 y1 y2 y3 yh) (l0) (l1) (l2) (l3) ((4 * l1) + l3) h27) l0 l1 l3 x20 x23 x26 h))))
set_option maxRecDepth 100000 in
set_option maxHeartbeats 4000000 in
theorem p_M_does_117 {sc : List Int32} {Q : Option Value → xH → Prop} : ∀ (n : Nat) (l0 : Nat) (l1 : Int32) (l2 : Int32) (l3 : Int32) (h : xH), w_M_does_117 Q n l0 l1 l2 l3 h → xW sc m_M_does 4 0 0 117 [some (.ref (l0)), some (.int (l1)), some (.int (l2)), some (.int (l3)), none] [] h Q := by
  intro n
  induction n with
  | zero => intro l0 l1 l2 l3 h hw; exact False.elim hw
  | succ n ih =>
    intro l0 l1 l2 l3 h hw
    rw [w_M_does_117] at hw
    refine xw_iload_n d_M_does_117 rfl rfl ?_
    refine xw_iconst (v := 4) d_M_does_118 (by decide) ?_
    refine xw_icmp_ge (tgt := 202) d_M_does_119 (by decide) (fun c34 => ?_) (fun c34 => ?_)
    · have hw := hw.1 c34
      refine xw_goto (tgt := 347) d_M_does_202 (by decide) ?_
      refine xs_drop (lv' := [some (.ref (l0)), some (.int (l1)), some (.int (l2)), none, none]) 3 rfl ?_
      exact p_M_does_347  (l0) (l1) (l2) h hw
    · have hw := hw.2 c34
      refine xw_iconst (v := 4) d_M_does_122 (by decide) ?_
      refine xw_iload_n d_M_does_123 rfl rfl ?_
      refine xw_imul d_M_does_124 ?_
      refine xw_iload_n d_M_does_125 rfl rfl ?_
      refine xw_iadd d_M_does_126 ?_
      refine xs_istore (lv' := [some (.ref (l0)), some (.int (l1)), some (.int (l2)), some (.int (l3)), some (.int ((4 * l1) + l3))]) d_M_does_127 rfl rfl ?_
      refine xw_aload_n d_M_does_129 rfl rfl ?_
      obtain ⟨f1, a2, hA, hB, hw⟩ := hw
      refine xw_getr fr_M_55 d_M_does_130 hA hB ?_
      refine xw_iload_n d_M_does_133 rfl rfl ?_
      obtain ⟨ar33, x3, hA, hB, hC, hw⟩ := hw
      refine xw_iaload (t := 0) rfl d_M_does_134 hA hB hC ?_
      refine xw_iconst (v := 1) d_M_does_135 (by decide) ?_
      refine xw_icmp_ne (tgt := 169) d_M_does_136 (by decide) (fun c32 => ?_) (fun c32 => ?_)
      · have hw := hw.1 c32
        refine xw_aload_n d_M_does_169 rfl rfl ?_
        refine xw_iload_n d_M_does_170 rfl rfl ?_
        refine xw_iload_n d_M_does_171 rfl rfl ?_
        refine xw_aload_n d_M_does_172 rfl rfl ?_
        obtain ⟨f4, a5, hA, hB, hw⟩ := hw
        refine xw_getr fr_M_88 d_M_does_173 hA hB ?_
        refine xw_iload d_M_does_176 rfl ?_
        obtain ⟨ar17, x6, hA, hB, hC, hw⟩ := hw
        refine xw_iaload (t := 0) rfl d_M_does_178 hA hB hC ?_
        refine xw_aload_n d_M_does_179 rfl rfl ?_
        obtain ⟨f7, a8, hA, hB, hw⟩ := hw
        refine xw_getr fr_M_91 d_M_does_180 hA hB ?_
        refine xw_iload d_M_does_183 rfl ?_
        obtain ⟨ar16, x9, hA, hB, hC, hw⟩ := hw
        refine xw_iaload (t := 0) rfl d_M_does_185 hA hB hC ?_
        refine xw_aload_n d_M_does_186 rfl rfl ?_
        obtain ⟨f10, a11, hA, hB, hw⟩ := hw
        refine xw_getr fr_M_94 d_M_does_187 hA hB ?_
        refine xw_iload d_M_does_190 rfl ?_
        obtain ⟨ar15, x12, hA, hB, hC, hw⟩ := hw
        refine xw_iaload (t := 0) rfl d_M_does_192 hA hB hC ?_
        obtain ⟨⟨f14, hA⟩, hw⟩ := hw
        refine xc_V5n lk_M_150 in_M_store d_M_does_193 (x_M_store hw) rfl hA rfl ?_
        intro h13 hw
        exact p_M_does_196 ih (l0) (l1) (l2) (l3) ((4 * l1) + l3) h13 hw
      · have hw := hw.2 c32
        refine xw_aload_n d_M_does_139 rfl rfl ?_
        refine xw_iload_n d_M_does_140 rfl rfl ?_
        refine xw_iload_n d_M_does_141 rfl rfl ?_
        refine xw_aload_n d_M_does_142 rfl rfl ?_
        obtain ⟨f18, a19, hA, hB, hw⟩ := hw
        refine xw_getr fr_M_25 d_M_does_143 hA hB ?_
        refine xw_iload d_M_does_146 rfl ?_
        obtain ⟨ar31, x20, hA, hB, hC, hw⟩ := hw
        refine xw_iaload (t := 0) rfl d_M_does_148 hA hB hC ?_
        refine xw_aload_n d_M_does_149 rfl rfl ?_
        obtain ⟨f21, a22, hA, hB, hw⟩ := hw
        refine xw_getr fr_M_28 d_M_does_150 hA hB ?_
        refine xw_iload d_M_does_153 rfl ?_
        obtain ⟨ar30, x23, hA, hB, hC, hw⟩ := hw
        refine xw_iaload (t := 0) rfl d_M_does_155 hA hB hC ?_
        refine xw_aload_n d_M_does_156 rfl rfl ?_
        obtain ⟨f24, a25, hA, hB, hw⟩ := hw
        refine xw_getr fr_M_31 d_M_does_157 hA hB ?_
        refine xw_iload d_M_does_160 rfl ?_
        obtain ⟨ar29, x26, hA, hB, hC, hw⟩ := hw
        refine xw_iaload (t := 0) rfl d_M_does_162 hA hB hC ?_
        obtain ⟨⟨f28, hA⟩, hw⟩ := hw
        refine xc_V5n lk_M_146 in_M_best d_M_does_163 (x_M_best hw) rfl hA rfl ?_
        intro h27 hw
        refine xw_goto (tgt := 196) d_M_does_166 (by decide) ?_
        exact p_M_does_196 ih (l0) (l1) (l2) (l3) ((4 * l1) + l3) h27 hw
set_option maxRecDepth 100000 in
def w_M_does_102 (Q : Option Value → xH → Prop) (l0 : Nat) (l1 : Int32) (l2 : Int32) (l3 : Int32) (h : xH) : Prop := w_M_does_347 Q (l0) (l1) (l2) h
set_option maxRecDepth 100000 in
set_option maxHeartbeats 4000000 in
theorem p_M_does_102 {sc : List Int32} {Q : Option Value → xH → Prop} (l0 : Nat) (l1 : Int32) (l2 : Int32) (l3 : Int32) (h : xH) (hw : w_M_does_102 Q l0 l1 l2 l3 h) : xW sc m_M_does 4 0 0 102 [some (.ref (l0)), some (.int (l1)), some (.int (l2)), some (.int (l3)), none] [] h Q := by
  unfold w_M_does_102 at hw
  refine xw_goto (tgt := 347) d_M_does_102 (by decide) ?_
  refine xs_drop (lv' := [some (.ref (l0)), some (.int (l1)), some (.int (l2)), none, none]) 3 rfl ?_
  exact p_M_does_347  (l0) (l1) (l2) h hw
set_option maxRecDepth 100000 in
def w_M_does (Q : Option Value → xH → Prop) (this : Nat) (p1 : Int32) (h : xH) : Prop := ∃ (f1 : List Value) (a2 : Nat), h.2 this = some (.inr (8, f1)) ∧ f1[18]? = some (.ref a2) ∧ ∃ (ar101 : List Int32) (x3 : Int32), h.2 a2 = some (.inl (0, .inl ar101)) ∧ 0 ≤ p1 ∧ ar101[p1.toNatClampNeg]? = some x3 ∧ (∃ f5, h.2 this = some (.inr (8, f5))) ∧ w_M_isData (fun v h4 => ∃ (x6 : Int32), v = some (.int x6) ∧ ((x6 = 0 → ∃ (f7 : List Value) (a8 : Nat), h4.2 this = some (.inr (8, f7)) ∧ f7[16]? = some (.ref a8) ∧ ∃ (ar54 : List Int32) (x9 : Int32), h4.2 a8 = some (.inl (0, .inl ar54)) ∧ 0 ≤ p1 ∧ ar54[p1.toNatClampNeg]? = some x9 ∧ ((¬ x9 = 4 → ∃ (f10 : List Value) (a11 : Nat), h4.2 this = some (.inr (8, f10)) ∧ f10[17]? = some (.ref a11) ∧ ∃ (ar51 : List Int32) (x12 : Int32), h4.2 a11 = some (.inl (0, .inl ar51)) ∧ 0 ≤ p1 ∧ ar51[p1.toNatClampNeg]? = some x12 ∧ ((¬ x12 = 1 → w_M_does_279 Q (this) (p1) ((16 * p1) + x3) h4) ∧ (x12 = 1 → ∃ (f13 : List Value) (a14 : Nat), h4.2 this = some (.inr (8, f13)) ∧ f13[24]? = some (.ref a14) ∧ ∃ (ar49 : List Int32) (x15 : Int32), h4.2 a14 = some (.inl (0, .inl ar49)) ∧ 0 ≤ p1 ∧ ar49[p1.toNatClampNeg]? = some x15 ∧ ∃ (f16 : List Value) (a17 : Nat), h4.2 this = some (.inr (8, f16)) ∧ f16[11]? = some (.ref a17) ∧ ∃ (ar48 : List Int32) (x18 : Int32), h4.2 a17 = some (.inl (0, .inl ar48)) ∧ 0 ≤ ((16 * p1) + x3 : Int32) ∧ ar48[((16 * p1) + x3 : Int32).toNatClampNeg]? = some x18 ∧ ((x15 ≤ x18 → w_M_does_279 Q (this) (p1) ((16 * p1) + x3) h4) ∧ (¬ x15 ≤ x18 → ∃ (f19 : List Value) (a20 : Nat), h4.2 this = some (.inr (8, f19)) ∧ f19[18]? = some (.ref a20) ∧ ∃ (ar46 : List Int32) (x21 : Int32), h4.2 a20 = some (.inl (0, .inl ar46)) ∧ 0 ≤ p1 ∧ ar46[p1.toNatClampNeg]? = some x21 ∧ ∃ (f22 : List Value) (a23 : Nat), h4.2 this = some (.inr (8, f22)) ∧ f22[24]? = some (.ref a23) ∧ ∃ (ar45 : List Int32) (x24 : Int32), h4.2 a23 = some (.inl (0, .inl ar45)) ∧ 0 ≤ p1 ∧ ar45[p1.toNatClampNeg]? = some x24 ∧ ∃ (f25 : List Value) (a26 : Nat), h4.2 this = some (.inr (8, f25)) ∧ f25[12]? = some (.ref a26) ∧ ∃ (ar44 : List Int32) (x27 : Int32), h4.2 a26 = some (.inl (0, .inl ar44)) ∧ 0 ≤ ((16 * p1) + x3 : Int32) ∧ ar44[((16 * p1) + x3 : Int32).toNatClampNeg]? = some x27 ∧ ∃ (f28 : List Value) (a29 : Nat), h4.2 this = some (.inr (8, f28)) ∧ f28[13]? = some (.ref a29) ∧ ∃ (ar43 : List Int32) (x30 : Int32), h4.2 a29 = some (.inl (0, .inl ar43)) ∧ 0 ≤ ((16 * p1) + x3 : Int32) ∧ ar43[((16 * p1) + x3 : Int32).toNatClampNeg]? = some x30 ∧ (∃ f32, h4.2 this = some (.inr (8, f32))) ∧ w_M_writeVote (fun v h31 => v = none ∧ ∃ (f33 : List Value) (a34 : Nat), h31.2 this = some (.inr (8, f33)) ∧ f33[12]? = some (.ref a34) ∧ ∃ (ar42 : List Int32) (x35 : Int32), h31.2 a34 = some (.inl (0, .inl ar42)) ∧ 0 ≤ ((16 * p1) + x3 : Int32) ∧ ar42[((16 * p1) + x3 : Int32).toNatClampNeg]? = some x35 ∧ ∃ (f36 : List Value) (a37 : Nat), h31.2 this = some (.inr (8, f36)) ∧ f36[13]? = some (.ref a37) ∧ ∃ (ar41 : List Int32) (x38 : Int32), h31.2 a37 = some (.inl (0, .inl ar41)) ∧ 0 ≤ ((16 * p1) + x3 : Int32) ∧ ar41[((16 * p1) + x3 : Int32).toNatClampNeg]? = some x38 ∧ (∃ f40, h31.2 this = some (.inr (8, f40))) ∧ w_M_top (fun v h39 => v = none ∧ w_M_does_347 Q (this) (p1) ((16 * p1) + x3) h39) this p1 x35 x38 h31) this p1 x21 x24 x27 x30 h4))))) ∧ (x9 = 4 → ∃ n52, w_M_does_117 Q n52 (this) (p1) ((16 * p1) + x3) (0) h4))) ∧ (¬ x6 = 0 → ∃ (f55 : List Value) (a56 : Nat), h4.2 this = some (.inr (8, f55)) ∧ f55[18]? = some (.ref a56) ∧ ∃ (ar99 : List Int32) (x57 : Int32), h4.2 a56 = some (.inl (0, .inl ar99)) ∧ 0 ≤ p1 ∧ ar99[p1.toNatClampNeg]? = some x57 ∧ ∃ (f58 : List Value) (a59 : Nat), h4.2 this = some (.inr (8, f58)) ∧ f58[17]? = some (.ref a59) ∧ ∃ (ar98 : List Int32) (x60 : Int32), h4.2 a59 = some (.inl (0, .inl ar98)) ∧ 0 ≤ p1 ∧ ar98[p1.toNatClampNeg]? = some x60 ∧ ((¬ x60 = 1 → ∃ (f61 : List Value) (a62 : Nat), h4.2 this = some (.inr (8, f61)) ∧ f61[18]? = some (.ref a62) ∧ ∃ (ar78 : List Int32) (x63 : Int32), h4.2 a62 = some (.inl (0, .inl ar78)) ∧ 0 ≤ p1 ∧ ar78[p1.toNatClampNeg]? = some x63 ∧ ∃ (f64 : List Value) (a65 : Nat), h4.2 this = some (.inr (8, f64)) ∧ f64[28]? = some (.ref a65) ∧ ∃ (ar77 : List Int32) (x66 : Int32), h4.2 a65 = some (.inl (0, .inl ar77)) ∧ 0 ≤ ((4 * p1) + x57 : Int32) ∧ ar77[((4 * p1) + x57 : Int32).toNatClampNeg]? = some x66 ∧ ∃ (f67 : List Value) (a68 : Nat), h4.2 this = some (.inr (8, f67)) ∧ f67[29]? = some (.ref a68) ∧ ∃ (ar76 : List Int32) (x69 : Int32), h4.2 a68 = some (.inl (0, .inl ar76)) ∧ 0 ≤ ((4 * p1) + x57 : Int32) ∧ ar76[((4 * p1) + x57 : Int32).toNatClampNeg]? = some x69 ∧ ∃ (f70 : List Value) (a71 : Nat), h4.2 this = some (.inr (8, f70)) ∧ f70[30]? = some (.ref a71) ∧ ∃ (ar75 : List Int32) (x72 : Int32), h4.2 a71 = some (.inl (0, .inl ar75)) ∧ 0 ≤ ((4 * p1) + x57 : Int32) ∧ ar75[((4 * p1) + x57 : Int32).toNatClampNeg]? = some x72 ∧ (∃ f74, h4.2 this = some (.inr (8, f74))) ∧ w_M_store (fun v h73 => v = none ∧ w_M_does_102 Q (this) (p1) ((16 * p1) + x3) ((4 * p1) + x57) h73) this p1 x63 x66 x69 x72 h4) ∧ (x60 = 1 → ∃ (f79 : List Value) (a80 : Nat), h4.2 this = some (.inr (8, f79)) ∧ f79[18]? = some (.ref a80) ∧ ∃ (ar96 : List Int32) (x81 : Int32), h4.2 a80 = some (.inl (0, .inl ar96)) ∧ 0 ≤ p1 ∧ ar96[p1.toNatClampNeg]? = some x81 ∧ ∃ (f82 : List Value) (a83 : Nat), h4.2 this = some (.inr (8, f82)) ∧ f82[6]? = some (.ref a83) ∧ ∃ (ar95 : List Int32) (x84 : Int32), h4.2 a83 = some (.inl (0, .inl ar95)) ∧ 0 ≤ ((4 * p1) + x57 : Int32) ∧ ar95[((4 * p1) + x57 : Int32).toNatClampNeg]? = some x84 ∧ ∃ (f85 : List Value) (a86 : Nat), h4.2 this = some (.inr (8, f85)) ∧ f85[7]? = some (.ref a86) ∧ ∃ (ar94 : List Int32) (x87 : Int32), h4.2 a86 = some (.inl (0, .inl ar94)) ∧ 0 ≤ ((4 * p1) + x57 : Int32) ∧ ar94[((4 * p1) + x57 : Int32).toNatClampNeg]? = some x87 ∧ ∃ (f88 : List Value) (a89 : Nat), h4.2 this = some (.inr (8, f88)) ∧ f88[8]? = some (.ref a89) ∧ ∃ (ar93 : List Int32) (x90 : Int32), h4.2 a89 = some (.inl (0, .inl ar93)) ∧ 0 ≤ ((4 * p1) + x57 : Int32) ∧ ar93[((4 * p1) + x57 : Int32).toNatClampNeg]? = some x90 ∧ (∃ f92, h4.2 this = some (.inr (8, f92))) ∧ w_M_best (fun v h91 => v = none ∧ w_M_does_102 Q (this) (p1) ((16 * p1) + x3) ((4 * p1) + x57) h91) this p1 x81 x84 x87 x90 h4))))) this p1 h
set_option maxRecDepth 100000 in
set_option maxHeartbeats 4000000 in
theorem x_M_does {sc : List Int32} {Q : Option Value → xH → Prop} {this : Nat} {p1 : Int32} {h : xH} (hw : w_M_does Q this p1 h) : xMet sc m_M_does 4 0 0 [.ref (this), .int (p1)] h Q := by
  unfold w_M_does at hw
  refine xMet.of2 cw_M_does rfl rfl ?_
  show xW sc m_M_does 4 0 0 0 [some (.ref (this)), some (.int (p1)), none, none, none] [] h Q
  refine xw_bipush (v := 16) d_M_does_0 (by decide) ?_
  refine xw_iload_n d_M_does_2 rfl rfl ?_
  refine xw_imul d_M_does_3 ?_
  refine xw_aload_n d_M_does_4 rfl rfl ?_
  obtain ⟨f1, a2, hA, hB, hw⟩ := hw
  refine xw_getr fr_M_58 d_M_does_5 hA hB ?_
  refine xw_iload_n d_M_does_8 rfl rfl ?_
  obtain ⟨ar101, x3, hA, hB, hC, hw⟩ := hw
  refine xw_iaload (t := 0) rfl d_M_does_9 hA hB hC ?_
  refine xw_iadd d_M_does_10 ?_
  refine xs_istore_n (lv' := [some (.ref (this)), some (.int (p1)), some (.int ((16 * p1) + x3)), none, none]) d_M_does_11 rfl rfl rfl ?_
  refine xw_aload_n d_M_does_12 rfl rfl ?_
  refine xw_iload_n d_M_does_13 rfl rfl ?_
  obtain ⟨⟨f5, hA⟩, hw⟩ := hw
  refine xc_V1i lk_M_135 in_M_isData d_M_does_14 (x_M_isData hw) rfl hA rfl ?_
  intro x6 h4 hw
  refine xw_if_eq (tgt := 105) d_M_does_17 (by decide) (fun c100 => ?_) (fun c100 => ?_)
  · have hw := hw.1 c100
    refine xw_aload_n d_M_does_105 rfl rfl ?_
    obtain ⟨f7, a8, hA, hB, hw⟩ := hw
    refine xw_getr fr_M_52 d_M_does_106 hA hB ?_
    refine xw_iload_n d_M_does_109 rfl rfl ?_
    obtain ⟨ar54, x9, hA, hB, hC, hw⟩ := hw
    refine xw_iaload (t := 0) rfl d_M_does_110 hA hB hC ?_
    refine xw_iconst (v := 4) d_M_does_111 (by decide) ?_
    refine xw_icmp_ne (tgt := 205) d_M_does_112 (by decide) (fun c53 => ?_) (fun c53 => ?_)
    · have hw := hw.1 c53
      refine xw_aload_n d_M_does_205 rfl rfl ?_
      obtain ⟨f10, a11, hA, hB, hw⟩ := hw
      refine xw_getr fr_M_55 d_M_does_206 hA hB ?_
      refine xw_iload_n d_M_does_209 rfl rfl ?_
      obtain ⟨ar51, x12, hA, hB, hC, hw⟩ := hw
      refine xw_iaload (t := 0) rfl d_M_does_210 hA hB hC ?_
      refine xw_iconst (v := 1) d_M_does_211 (by decide) ?_
      refine xw_icmp_ne (tgt := 279) d_M_does_212 (by decide) (fun c50 => ?_) (fun c50 => ?_)
      · have hw := hw.1 c50
        exact p_M_does_279  (this) (p1) ((16 * p1) + x3) h4 hw
      · have hw := hw.2 c50
        refine xw_aload_n d_M_does_215 rfl rfl ?_
        obtain ⟨f13, a14, hA, hB, hw⟩ := hw
        refine xw_getr fr_M_76 d_M_does_216 hA hB ?_
        refine xw_iload_n d_M_does_219 rfl rfl ?_
        obtain ⟨ar49, x15, hA, hB, hC, hw⟩ := hw
        refine xw_iaload (t := 0) rfl d_M_does_220 hA hB hC ?_
        refine xw_aload_n d_M_does_221 rfl rfl ?_
        obtain ⟨f16, a17, hA, hB, hw⟩ := hw
        refine xw_getr fr_M_40 d_M_does_222 hA hB ?_
        refine xw_iload_n d_M_does_225 rfl rfl ?_
        obtain ⟨ar48, x18, hA, hB, hC, hw⟩ := hw
        refine xw_iaload (t := 0) rfl d_M_does_226 hA hB hC ?_
        refine xw_icmp_le (tgt := 279) d_M_does_227 (by decide) (fun c47 => ?_) (fun c47 => ?_)
        · have hw := hw.1 c47
          exact p_M_does_279  (this) (p1) ((16 * p1) + x3) h4 hw
        · have hw := hw.2 c47
          refine xw_aload_n d_M_does_230 rfl rfl ?_
          refine xw_iload_n d_M_does_231 rfl rfl ?_
          refine xw_aload_n d_M_does_232 rfl rfl ?_
          obtain ⟨f19, a20, hA, hB, hw⟩ := hw
          refine xw_getr fr_M_58 d_M_does_233 hA hB ?_
          refine xw_iload_n d_M_does_236 rfl rfl ?_
          obtain ⟨ar46, x21, hA, hB, hC, hw⟩ := hw
          refine xw_iaload (t := 0) rfl d_M_does_237 hA hB hC ?_
          refine xw_aload_n d_M_does_238 rfl rfl ?_
          obtain ⟨f22, a23, hA, hB, hw⟩ := hw
          refine xw_getr fr_M_76 d_M_does_239 hA hB ?_
          refine xw_iload_n d_M_does_242 rfl rfl ?_
          obtain ⟨ar45, x24, hA, hB, hC, hw⟩ := hw
          refine xw_iaload (t := 0) rfl d_M_does_243 hA hB hC ?_
          refine xw_aload_n d_M_does_244 rfl rfl ?_
          obtain ⟨f25, a26, hA, hB, hw⟩ := hw
          refine xw_getr fr_M_43 d_M_does_245 hA hB ?_
          refine xw_iload_n d_M_does_248 rfl rfl ?_
          obtain ⟨ar44, x27, hA, hB, hC, hw⟩ := hw
          refine xw_iaload (t := 0) rfl d_M_does_249 hA hB hC ?_
          refine xw_aload_n d_M_does_250 rfl rfl ?_
          obtain ⟨f28, a29, hA, hB, hw⟩ := hw
          refine xw_getr fr_M_46 d_M_does_251 hA hB ?_
          refine xw_iload_n d_M_does_254 rfl rfl ?_
          obtain ⟨ar43, x30, hA, hB, hC, hw⟩ := hw
          refine xw_iaload (t := 0) rfl d_M_does_255 hA hB hC ?_
          obtain ⟨⟨f32, hA⟩, hw⟩ := hw
          refine xc_V5n lk_M_153 in_M_writeVote d_M_does_256 (x_M_writeVote hw) rfl hA rfl ?_
          intro h31 hw
          refine xw_aload_n d_M_does_259 rfl rfl ?_
          refine xw_iload_n d_M_does_260 rfl rfl ?_
          refine xw_aload_n d_M_does_261 rfl rfl ?_
          obtain ⟨f33, a34, hA, hB, hw⟩ := hw
          refine xw_getr fr_M_43 d_M_does_262 hA hB ?_
          refine xw_iload_n d_M_does_265 rfl rfl ?_
          obtain ⟨ar42, x35, hA, hB, hC, hw⟩ := hw
          refine xw_iaload (t := 0) rfl d_M_does_266 hA hB hC ?_
          refine xw_aload_n d_M_does_267 rfl rfl ?_
          obtain ⟨f36, a37, hA, hB, hw⟩ := hw
          refine xw_getr fr_M_46 d_M_does_268 hA hB ?_
          refine xw_iload_n d_M_does_271 rfl rfl ?_
          obtain ⟨ar41, x38, hA, hB, hC, hw⟩ := hw
          refine xw_iaload (t := 0) rfl d_M_does_272 hA hB hC ?_
          obtain ⟨⟨f40, hA⟩, hw⟩ := hw
          refine xc_V3n lk_M_156 in_M_top d_M_does_273 (x_M_top hw) rfl hA rfl ?_
          intro h39 hw
          refine xw_goto (tgt := 347) d_M_does_276 (by decide) ?_
          exact p_M_does_347  (this) (p1) ((16 * p1) + x3) h39 hw
    · have hw := hw.2 c53
      refine xw_iconst (v := 0) d_M_does_115 (by decide) ?_
      refine xs_istore_n (lv' := [some (.ref (this)), some (.int (p1)), some (.int ((16 * p1) + x3)), some (.int (0)), none]) d_M_does_116 rfl rfl rfl ?_
      obtain ⟨n52, hw⟩ := hw
      exact p_M_does_117  n52 (this) (p1) ((16 * p1) + x3) (0) h4 hw
  · have hw := hw.2 c100
    refine xw_iconst (v := 4) d_M_does_20 (by decide) ?_
    refine xw_iload_n d_M_does_21 rfl rfl ?_
    refine xw_imul d_M_does_22 ?_
    refine xw_aload_n d_M_does_23 rfl rfl ?_
    obtain ⟨f55, a56, hA, hB, hw⟩ := hw
    refine xw_getr fr_M_58 d_M_does_24 hA hB ?_
    refine xw_iload_n d_M_does_27 rfl rfl ?_
    obtain ⟨ar99, x57, hA, hB, hC, hw⟩ := hw
    refine xw_iaload (t := 0) rfl d_M_does_28 hA hB hC ?_
    refine xw_iadd d_M_does_29 ?_
    refine xs_istore_n (lv' := [some (.ref (this)), some (.int (p1)), some (.int ((16 * p1) + x3)), some (.int ((4 * p1) + x57)), none]) d_M_does_30 rfl rfl rfl ?_
    refine xw_aload_n d_M_does_31 rfl rfl ?_
    obtain ⟨f58, a59, hA, hB, hw⟩ := hw
    refine xw_getr fr_M_55 d_M_does_32 hA hB ?_
    refine xw_iload_n d_M_does_35 rfl rfl ?_
    obtain ⟨ar98, x60, hA, hB, hC, hw⟩ := hw
    refine xw_iaload (t := 0) rfl d_M_does_36 hA hB hC ?_
    refine xw_iconst (v := 1) d_M_does_37 (by decide) ?_
    refine xw_icmp_ne (tgt := 73) d_M_does_38 (by decide) (fun c97 => ?_) (fun c97 => ?_)
    · have hw := hw.1 c97
      refine xw_aload_n d_M_does_73 rfl rfl ?_
      refine xw_iload_n d_M_does_74 rfl rfl ?_
      refine xw_aload_n d_M_does_75 rfl rfl ?_
      obtain ⟨f61, a62, hA, hB, hw⟩ := hw
      refine xw_getr fr_M_58 d_M_does_76 hA hB ?_
      refine xw_iload_n d_M_does_79 rfl rfl ?_
      obtain ⟨ar78, x63, hA, hB, hC, hw⟩ := hw
      refine xw_iaload (t := 0) rfl d_M_does_80 hA hB hC ?_
      refine xw_aload_n d_M_does_81 rfl rfl ?_
      obtain ⟨f64, a65, hA, hB, hw⟩ := hw
      refine xw_getr fr_M_88 d_M_does_82 hA hB ?_
      refine xw_iload_n d_M_does_85 rfl rfl ?_
      obtain ⟨ar77, x66, hA, hB, hC, hw⟩ := hw
      refine xw_iaload (t := 0) rfl d_M_does_86 hA hB hC ?_
      refine xw_aload_n d_M_does_87 rfl rfl ?_
      obtain ⟨f67, a68, hA, hB, hw⟩ := hw
      refine xw_getr fr_M_91 d_M_does_88 hA hB ?_
      refine xw_iload_n d_M_does_91 rfl rfl ?_
      obtain ⟨ar76, x69, hA, hB, hC, hw⟩ := hw
      refine xw_iaload (t := 0) rfl d_M_does_92 hA hB hC ?_
      refine xw_aload_n d_M_does_93 rfl rfl ?_
      obtain ⟨f70, a71, hA, hB, hw⟩ := hw
      refine xw_getr fr_M_94 d_M_does_94 hA hB ?_
      refine xw_iload_n d_M_does_97 rfl rfl ?_
      obtain ⟨ar75, x72, hA, hB, hC, hw⟩ := hw
      refine xw_iaload (t := 0) rfl d_M_does_98 hA hB hC ?_
      obtain ⟨⟨f74, hA⟩, hw⟩ := hw
      refine xc_V5n lk_M_150 in_M_store d_M_does_99 (x_M_store hw) rfl hA rfl ?_
      intro h73 hw
      exact p_M_does_102  (this) (p1) ((16 * p1) + x3) ((4 * p1) + x57) h73 hw
    · have hw := hw.2 c97
      refine xw_aload_n d_M_does_41 rfl rfl ?_
      refine xw_iload_n d_M_does_42 rfl rfl ?_
      refine xw_aload_n d_M_does_43 rfl rfl ?_
      obtain ⟨f79, a80, hA, hB, hw⟩ := hw
      refine xw_getr fr_M_58 d_M_does_44 hA hB ?_
      refine xw_iload_n d_M_does_47 rfl rfl ?_
      obtain ⟨ar96, x81, hA, hB, hC, hw⟩ := hw
      refine xw_iaload (t := 0) rfl d_M_does_48 hA hB hC ?_
      refine xw_aload_n d_M_does_49 rfl rfl ?_
      obtain ⟨f82, a83, hA, hB, hw⟩ := hw
      refine xw_getr fr_M_25 d_M_does_50 hA hB ?_
      refine xw_iload_n d_M_does_53 rfl rfl ?_
      obtain ⟨ar95, x84, hA, hB, hC, hw⟩ := hw
      refine xw_iaload (t := 0) rfl d_M_does_54 hA hB hC ?_
      refine xw_aload_n d_M_does_55 rfl rfl ?_
      obtain ⟨f85, a86, hA, hB, hw⟩ := hw
      refine xw_getr fr_M_28 d_M_does_56 hA hB ?_
      refine xw_iload_n d_M_does_59 rfl rfl ?_
      obtain ⟨ar94, x87, hA, hB, hC, hw⟩ := hw
      refine xw_iaload (t := 0) rfl d_M_does_60 hA hB hC ?_
      refine xw_aload_n d_M_does_61 rfl rfl ?_
      obtain ⟨f88, a89, hA, hB, hw⟩ := hw
      refine xw_getr fr_M_31 d_M_does_62 hA hB ?_
      refine xw_iload_n d_M_does_65 rfl rfl ?_
      obtain ⟨ar93, x90, hA, hB, hC, hw⟩ := hw
      refine xw_iaload (t := 0) rfl d_M_does_66 hA hB hC ?_
      obtain ⟨⟨f92, hA⟩, hw⟩ := hw
      refine xc_V5n lk_M_146 in_M_best d_M_does_67 (x_M_best hw) rfl hA rfl ?_
      intro h91 hw
      refine xw_goto (tgt := 102) d_M_does_70 (by decide) ?_
      exact p_M_does_102  (this) (p1) ((16 * p1) + x3) ((4 * p1) + x57) h91 hw
set_option maxRecDepth 100000 in
def w_M_ask_72 (Q : Option Value → xH → Prop) (L2 : Nat → Int32 → Int32 → Int32 → xH → Prop) (l0 : Nat) (l1 : Int32) (l2 : Int32) (l3 : Int32) (h : xH) : Prop := L2 (l0) (l1) (l2) (l3 + 1) h
set_option maxRecDepth 100000 in
set_option maxHeartbeats 4000000 in
theorem p_M_ask_72 {sc : List Int32} {Q : Option Value → xH → Prop} {L2 : Nat → Int32 → Int32 → Int32 → xH → Prop} (hL2 : ∀ l0 l1 l2 l3 h, L2 l0 l1 l2 l3 h → xW sc m_M_ask 5 0 0 2 [some (.ref (l0)), some (.int (l1)), some (.int (l2)), some (.int (l3))] [] h Q) (l0 : Nat) (l1 : Int32) (l2 : Int32) (l3 : Int32) (h : xH) (hw : w_M_ask_72 Q L2 l0 l1 l2 l3 h) : xW sc m_M_ask 5 0 0 72 [some (.ref (l0)), some (.int (l1)), some (.int (l2)), some (.int (l3))] [] h Q := by
  unfold w_M_ask_72 at hw
  refine xs_iinc (v := l3 + 1) (lv' := [some (.ref (l0)), some (.int (l1)), some (.int (l2)), some (.int (l3 + 1))]) d_M_ask_72 rfl rfl rfl ?_
  refine xw_goto (tgt := 2) d_M_ask_75 (by decide) ?_
  exact hL2 (l0) (l1) (l2) (l3 + 1) h hw
set_option maxRecDepth 100000 in
def w_M_ask_2 (Q : Option Value → xH → Prop) : Nat → Nat → Int32 → Int32 → Int32 → xH → Prop
  | 0, _, _, _, _, _ => False
  | n + 1, l0, l1, l2, l3, h => ((8 ≤ l3 → Q none h) ∧ (¬ 8 ≤ l3 → (∃ f2, h.2 l0 = some (.inr (8, f2))) ∧ w_M_isUp (fun v h1 => ∃ (x3 : Int32), v = some (.int x3) ∧ ((x3 = 0 → Q none h1) ∧ (¬ x3 = 0 → ((((l2 >>> (l3 &&& 31)) &&& 1) = 0 → w_M_ask_72 Q (fun y0 y1 y2 y3 yh => w_M_ask_2 Q n y0 y1 y2 y3 yh) (l0) (l1) (l2) (l3) h1) ∧ (¬ ((l2 >>> (l3 &&& 31)) &&& 1) = 0 → ∃ (f4 : List Value) (a5 : Nat), h1.2 l0 = some (.inr (8, f4)) ∧ f4[20]? = some (.ref a5) ∧ ∃ (ar19 : List Int32) (x6 : Int32), h1.2 a5 = some (.inl (0, .inl ar19)) ∧ 0 ≤ l1 ∧ ar19[l1.toNatClampNeg]? = some x6 ∧ ((¬ ((x6 >>> (l3 &&& 31)) &&& 1) = 1 → ∃ (f7 : List Value) (a8 : Nat), h1.2 l0 = some (.inr (8, f7)) ∧ f7[20]? = some (.ref a8) ∧ ∃ (ar17 : List Int32) (x9 : Int32), h1.2 a8 = some (.inl (0, .inl ar17)) ∧ 0 ≤ l1 ∧ ar17[l1.toNatClampNeg]? = some x9 ∧ ∃ ar10, h1.2 a8 = some (.inl (0, .inl ar10)) ∧ 0 ≤ l1 ∧ l1.toNatClampNeg < ar10.length ∧ ∀ h11, h11 = xu h1 a8 (.inl (0, .inl (ar10.set l1.toNatClampNeg (x9 ||| ((1 : Int32) <<< (l3 &&& 31)))))) → ((¬ l3 = l1 → (∃ f13, h11.2 l0 = some (.inr (8, f13))) ∧ w_M_request (fun v h12 => v = none ∧ w_M_ask_72 Q (fun y0 y1 y2 y3 yh => w_M_ask_2 Q n y0 y1 y2 y3 yh) (l0) (l1) (l2) (l3) h12) l0 l1 l3 h11) ∧ (l3 = l1 → (∃ f15, h11.2 l0 = some (.inr (8, f15))) ∧ w_M_does (fun v h14 => v = none ∧ w_M_ask_72 Q (fun y0 y1 y2 y3 yh => w_M_ask_2 Q n y0 y1 y2 y3 yh) (l0) (l1) (l2) (l3) h14) l0 l1 h11))) ∧ (((x6 >>> (l3 &&& 31)) &&& 1) = 1 → w_M_ask_72 Q (fun y0 y1 y2 y3 yh => w_M_ask_2 Q n y0 y1 y2 y3 yh) (l0) (l1) (l2) (l3) h1))))))) l0 l1 h))
set_option maxRecDepth 100000 in
set_option maxHeartbeats 4000000 in
theorem p_M_ask_2 {sc : List Int32} {Q : Option Value → xH → Prop} : ∀ (n : Nat) (l0 : Nat) (l1 : Int32) (l2 : Int32) (l3 : Int32) (h : xH), w_M_ask_2 Q n l0 l1 l2 l3 h → xW sc m_M_ask 5 0 0 2 [some (.ref (l0)), some (.int (l1)), some (.int (l2)), some (.int (l3))] [] h Q := by
  intro n
  induction n with
  | zero => intro l0 l1 l2 l3 h hw; exact False.elim hw
  | succ n ih =>
    intro l0 l1 l2 l3 h hw
    rw [w_M_ask_2] at hw
    refine xw_iload_n d_M_ask_2 rfl rfl ?_
    refine xw_bipush (v := 8) d_M_ask_3 (by decide) ?_
    refine xw_icmp_ge (tgt := 78) d_M_ask_5 (by decide) (fun c22 => ?_) (fun c22 => ?_)
    · have hw := hw.1 c22
      exact xw_return rfl d_M_ask_78 hw
    · have hw := hw.2 c22
      refine xw_aload_n d_M_ask_8 rfl rfl ?_
      refine xw_iload_n d_M_ask_9 rfl rfl ?_
      obtain ⟨⟨f2, hA⟩, hw⟩ := hw
      refine xc_V1i lk_M_111 in_M_isUp d_M_ask_10 (x_M_isUp hw) rfl hA rfl ?_
      intro x3 h1 hw
      refine xw_if_eq (tgt := 78) d_M_ask_13 (by decide) (fun c21 => ?_) (fun c21 => ?_)
      · have hw := hw.1 c21
        exact xw_return rfl d_M_ask_78 hw
      · have hw := hw.2 c21
        refine xw_iload_n d_M_ask_16 rfl rfl ?_
        refine xw_iload_n d_M_ask_17 rfl rfl ?_
        refine xw_ishr d_M_ask_18 ?_
        refine xw_iconst (v := 1) d_M_ask_19 (by decide) ?_
        refine xw_iand d_M_ask_20 ?_
        refine xw_if_eq (tgt := 72) d_M_ask_21 (by decide) (fun c20 => ?_) (fun c20 => ?_)
        · have hw := hw.1 c20
          exact p_M_ask_72 ih (l0) (l1) (l2) (l3) h1 hw
        · have hw := hw.2 c20
          refine xw_aload_n d_M_ask_24 rfl rfl ?_
          obtain ⟨f4, a5, hA, hB, hw⟩ := hw
          refine xw_getr fr_M_64 d_M_ask_25 hA hB ?_
          refine xw_iload_n d_M_ask_28 rfl rfl ?_
          obtain ⟨ar19, x6, hA, hB, hC, hw⟩ := hw
          refine xw_iaload (t := 0) rfl d_M_ask_29 hA hB hC ?_
          refine xw_iload_n d_M_ask_30 rfl rfl ?_
          refine xw_ishr d_M_ask_31 ?_
          refine xw_iconst (v := 1) d_M_ask_32 (by decide) ?_
          refine xw_iand d_M_ask_33 ?_
          refine xw_iconst (v := 1) d_M_ask_34 (by decide) ?_
          refine xw_icmp_ne (tgt := 41) d_M_ask_35 (by decide) (fun c18 => ?_) (fun c18 => ?_)
          · have hw := hw.1 c18
            refine xw_aload_n d_M_ask_41 rfl rfl ?_
            obtain ⟨f7, a8, hA, hB, hw⟩ := hw
            refine xw_getr fr_M_64 d_M_ask_42 hA hB ?_
            refine xw_iload_n d_M_ask_45 rfl rfl ?_
            refine xw_dup2 d_M_ask_46 rfl rfl ?_
            obtain ⟨ar17, x9, hA, hB, hC, hw⟩ := hw
            refine xw_iaload (t := 0) rfl d_M_ask_47 hA hB hC ?_
            refine xw_iconst (v := 1) d_M_ask_48 (by decide) ?_
            refine xw_iload_n d_M_ask_49 rfl rfl ?_
            refine xw_ishl d_M_ask_50 ?_
            refine xw_ior d_M_ask_51 ?_
            obtain ⟨ar10, hA, hB, hC, hw⟩ := hw
            refine xw_iastore (t := 0) rfl d_M_ask_52 hA hB hC ?_
            generalize hh : xu h1 a8 (.inl (0, .inl (ar10.set l1.toNatClampNeg (x9 ||| ((1 : Int32) <<< (l3 &&& 31)))))) = h11
            have hw := hw h11 hh.symm
            refine xw_iload_n d_M_ask_53 rfl rfl ?_
            refine xw_iload_n d_M_ask_54 rfl rfl ?_
            refine xw_icmp_ne (tgt := 66) d_M_ask_55 (by decide) (fun c16 => ?_) (fun c16 => ?_)
            · have hw := hw.1 c16
              refine xw_aload_n d_M_ask_66 rfl rfl ?_
              refine xw_iload_n d_M_ask_67 rfl rfl ?_
              refine xw_iload_n d_M_ask_68 rfl rfl ?_
              obtain ⟨⟨f13, hA⟩, hw⟩ := hw
              refine xc_V2n lk_M_170 in_M_request d_M_ask_69 (x_M_request hw) rfl hA rfl ?_
              intro h12 hw
              exact p_M_ask_72 ih (l0) (l1) (l2) (l3) h12 hw
            · have hw := hw.2 c16
              refine xw_aload_n d_M_ask_58 rfl rfl ?_
              refine xw_iload_n d_M_ask_59 rfl rfl ?_
              obtain ⟨⟨f15, hA⟩, hw⟩ := hw
              refine xc_V1n lk_M_167 in_M_does d_M_ask_60 (x_M_does hw) rfl hA rfl ?_
              intro h14 hw
              refine xw_goto (tgt := 72) d_M_ask_63 (by decide) ?_
              exact p_M_ask_72 ih (l0) (l1) (l2) (l3) h14 hw
          · have hw := hw.2 c18
            refine xw_goto (tgt := 72) d_M_ask_38 (by decide) ?_
            exact p_M_ask_72 ih (l0) (l1) (l2) (l3) h1 hw
set_option maxRecDepth 100000 in
def w_M_ask (Q : Option Value → xH → Prop) (this : Nat) (p1 : Int32) (p2 : Int32) (h : xH) : Prop := ∃ n1, w_M_ask_2 Q n1 (this) (p1) (p2) (0) h
set_option maxRecDepth 100000 in
set_option maxHeartbeats 4000000 in
theorem x_M_ask {sc : List Int32} {Q : Option Value → xH → Prop} {this : Nat} {p1 : Int32} {p2 : Int32} {h : xH} (hw : w_M_ask Q this p1 p2 h) : xMet sc m_M_ask 5 0 0 [.ref (this), .int (p1), .int (p2)] h Q := by
  unfold w_M_ask at hw
  refine xMet.of2 cw_M_ask rfl rfl ?_
  show xW sc m_M_ask 5 0 0 0 [some (.ref (this)), some (.int (p1)), some (.int (p2)), none] [] h Q
  refine xw_iconst (v := 0) d_M_ask_0 (by decide) ?_
  refine xs_istore_n (lv' := [some (.ref (this)), some (.int (p1)), some (.int (p2)), some (.int (0))]) d_M_ask_1 rfl rfl rfl ?_
  obtain ⟨n1, hw⟩ := hw
  exact p_M_ask_2  n1 (this) (p1) (p2) (0) h hw
set_option maxRecDepth 100000 in
def w_M_wantedSet_120 (Q : Option Value → xH → Prop) (L80 : Nat → Int32 → Int32 → Int32 → xH → Prop) (l0 : Nat) (l1 : Int32) (l2 : Int32) (l3 : Int32) (s0 : Int32) (s1 : Int32) (h : xH) : Prop := L80 (l0) (l1) (s1 ||| s0) (l3 + 1) h
set_option maxRecDepth 100000 in
set_option maxHeartbeats 4000000 in
theorem p_M_wantedSet_120 {sc : List Int32} {Q : Option Value → xH → Prop} {L80 : Nat → Int32 → Int32 → Int32 → xH → Prop} (hL80 : ∀ l0 l1 l2 l3 h, L80 l0 l1 l2 l3 h → xW sc m_M_wantedSet 1 0 0 80 [some (.ref (l0)), some (.int (l1)), some (.int (l2)), some (.int (l3))] [] h Q) (l0 : Nat) (l1 : Int32) (l2 : Int32) (l3 : Int32) (s0 : Int32) (s1 : Int32) (h : xH) (hw : w_M_wantedSet_120 Q L80 l0 l1 l2 l3 s0 s1 h) : xW sc m_M_wantedSet 1 0 0 120 [some (.ref (l0)), some (.int (l1)), some (.int (l2)), some (.int (l3))] [.int (s0), .int (s1)] h Q := by
  unfold w_M_wantedSet_120 at hw
  refine xw_ior d_M_wantedSet_120 ?_
  refine xs_istore_n (lv' := [some (.ref (l0)), some (.int (l1)), some (.int (s1 ||| s0)), some (.int (l3))]) d_M_wantedSet_121 rfl rfl rfl ?_
  refine xs_iinc (v := l3 + 1) (lv' := [some (.ref (l0)), some (.int (l1)), some (.int (s1 ||| s0)), some (.int (l3 + 1))]) d_M_wantedSet_122 rfl rfl rfl ?_
  refine xw_goto (tgt := 80) d_M_wantedSet_125 (by decide) ?_
  exact hL80 (l0) (l1) (s1 ||| s0) (l3 + 1) h hw
set_option maxRecDepth 100000 in
def w_M_wantedSet_80 (Q : Option Value → xH → Prop) : Nat → Nat → Int32 → Int32 → Int32 → xH → Prop
  | 0, _, _, _, _, _ => False
  | n + 1, l0, l1, l2, l3, h => ((16 ≤ l3 → Q (some (.int l2)) h) ∧ (¬ 16 ≤ l3 → ∃ (f1 : List Value) (a2 : Nat), h.2 l0 = some (.inr (8, f1)) ∧ f1[23]? = some (.ref a2) ∧ ∃ (ar9 : List Int32) (x3 : Int32), h.2 a2 = some (.inl (0, .inl ar9)) ∧ 0 ≤ l1 ∧ ar9[l1.toNatClampNeg]? = some x3 ∧ ((¬ ((x3 >>> (l3 &&& 31)) &&& 1) = 1 → w_M_wantedSet_120 Q (fun y0 y1 y2 y3 yh => w_M_wantedSet_80 Q n y0 y1 y2 y3 yh) (l0) (l1) (l2) (l3) (0) (l2) h) ∧ (((x3 >>> (l3 &&& 31)) &&& 1) = 1 → ∃ (f4 : List Value) (a5 : Nat), h.2 l0 = some (.inr (8, f4)) ∧ f4[10]? = some (.ref a5) ∧ ∃ (ar7 : List Int32) (x6 : Int32), h.2 a5 = some (.inl (0, .inl ar7)) ∧ 0 ≤ ((16 * l1) + l3 : Int32) ∧ ar7[((16 * l1) + l3 : Int32).toNatClampNeg]? = some x6 ∧ w_M_wantedSet_120 Q (fun y0 y1 y2 y3 yh => w_M_wantedSet_80 Q n y0 y1 y2 y3 yh) (l0) (l1) (l2) (l3) (x6 &&& 255) (l2) h))))
set_option maxRecDepth 100000 in
set_option maxHeartbeats 4000000 in
theorem p_M_wantedSet_80 {sc : List Int32} {Q : Option Value → xH → Prop} : ∀ (n : Nat) (l0 : Nat) (l1 : Int32) (l2 : Int32) (l3 : Int32) (h : xH), w_M_wantedSet_80 Q n l0 l1 l2 l3 h → xW sc m_M_wantedSet 1 0 0 80 [some (.ref (l0)), some (.int (l1)), some (.int (l2)), some (.int (l3))] [] h Q := by
  intro n
  induction n with
  | zero => intro l0 l1 l2 l3 h hw; exact False.elim hw
  | succ n ih =>
    intro l0 l1 l2 l3 h hw
    rw [w_M_wantedSet_80] at hw
    refine xw_iload_n d_M_wantedSet_80 rfl rfl ?_
    refine xw_bipush (v := 16) d_M_wantedSet_81 (by decide) ?_
    refine xw_icmp_ge (tgt := 128) d_M_wantedSet_83 (by decide) (fun c10 => ?_) (fun c10 => ?_)
    · have hw := hw.1 c10
      refine xw_iload_n d_M_wantedSet_128 rfl rfl ?_
      exact xw_ireturn rfl d_M_wantedSet_129 hw
    · have hw := hw.2 c10
      refine xw_iload_n d_M_wantedSet_86 rfl rfl ?_
      refine xw_aload_n d_M_wantedSet_87 rfl rfl ?_
      obtain ⟨f1, a2, hA, hB, hw⟩ := hw
      refine xw_getr fr_M_73 d_M_wantedSet_88 hA hB ?_
      refine xw_iload_n d_M_wantedSet_91 rfl rfl ?_
      obtain ⟨ar9, x3, hA, hB, hC, hw⟩ := hw
      refine xw_iaload (t := 0) rfl d_M_wantedSet_92 hA hB hC ?_
      refine xw_iload_n d_M_wantedSet_93 rfl rfl ?_
      refine xw_ishr d_M_wantedSet_94 ?_
      refine xw_iconst (v := 1) d_M_wantedSet_95 (by decide) ?_
      refine xw_iand d_M_wantedSet_96 ?_
      refine xw_iconst (v := 1) d_M_wantedSet_97 (by decide) ?_
      refine xw_icmp_ne (tgt := 119) d_M_wantedSet_98 (by decide) (fun c8 => ?_) (fun c8 => ?_)
      · have hw := hw.1 c8
        refine xw_iconst (v := 0) d_M_wantedSet_119 (by decide) ?_
        exact p_M_wantedSet_120 ih (l0) (l1) (l2) (l3) (0) (l2) h hw
      · have hw := hw.2 c8
        refine xw_aload_n d_M_wantedSet_101 rfl rfl ?_
        obtain ⟨f4, a5, hA, hB, hw⟩ := hw
        refine xw_getr fr_M_37 d_M_wantedSet_102 hA hB ?_
        refine xw_bipush (v := 16) d_M_wantedSet_105 (by decide) ?_
        refine xw_iload_n d_M_wantedSet_107 rfl rfl ?_
        refine xw_imul d_M_wantedSet_108 ?_
        refine xw_iload_n d_M_wantedSet_109 rfl rfl ?_
        refine xw_iadd d_M_wantedSet_110 ?_
        obtain ⟨ar7, x6, hA, hB, hC, hw⟩ := hw
        refine xw_iaload (t := 0) rfl d_M_wantedSet_111 hA hB hC ?_
        refine xw_sipush (v := 255) d_M_wantedSet_112 (by decide) ?_
        refine xw_iand d_M_wantedSet_115 ?_
        refine xw_goto (tgt := 120) d_M_wantedSet_116 (by decide) ?_
        exact p_M_wantedSet_120 ih (l0) (l1) (l2) (l3) (x6 &&& 255) (l2) h hw
set_option maxRecDepth 100000 in
def w_M_wantedSet (Q : Option Value → xH → Prop) (this : Nat) (p1 : Int32) (h : xH) : Prop := (∃ f2, h.2 this = some (.inr (8, f2))) ∧ w_M_isData (fun v h1 => ∃ (x3 : Int32), v = some (.int x3) ∧ ((x3 = 0 → ∃ (f4 : List Value) (a5 : Nat), h1.2 this = some (.inr (8, f4)) ∧ f4[16]? = some (.ref a5) ∧ ∃ (ar30 : List Int32) (x6 : Int32), h1.2 a5 = some (.inl (0, .inl ar30)) ∧ 0 ≤ p1 ∧ ar30[p1.toNatClampNeg]? = some x6 ∧ ((¬ x6 = 3 → ∃ (f7 : List Value) (a8 : Nat), h1.2 this = some (.inr (8, f7)) ∧ f7[17]? = some (.ref a8) ∧ ∃ (ar20 : List Int32) (x9 : Int32), h1.2 a8 = some (.inl (0, .inl ar20)) ∧ 0 ≤ p1 ∧ ar20[p1.toNatClampNeg]? = some x9 ∧ ((¬ x9 = 2 → ∃ n10, w_M_wantedSet_80 Q n10 (this) (p1) (0) (0) h1) ∧ (x9 = 2 → ∃ (f11 : List Value) (a12 : Nat), h1.2 this = some (.inr (8, f11)) ∧ f11[10]? = some (.ref a12) ∧ ∃ (f13 : List Value) (a14 : Nat), h1.2 this = some (.inr (8, f13)) ∧ f13[18]? = some (.ref a14) ∧ ∃ (ar18 : List Int32) (x15 : Int32), h1.2 a14 = some (.inl (0, .inl ar18)) ∧ 0 ≤ p1 ∧ ar18[p1.toNatClampNeg]? = some x15 ∧ ∃ (ar17 : List Int32) (x16 : Int32), h1.2 a12 = some (.inl (0, .inl ar17)) ∧ 0 ≤ ((16 * p1) + x15 : Int32) ∧ ar17[((16 * p1) + x15 : Int32).toNatClampNeg]? = some x16 ∧ Q (some (.int (x16 &&& 255))) h1))) ∧ (x6 = 3 → ∃ (f21 : List Value) (a22 : Nat), h1.2 this = some (.inr (8, f21)) ∧ f21[10]? = some (.ref a22) ∧ ∃ (f23 : List Value) (a24 : Nat), h1.2 this = some (.inr (8, f23)) ∧ f23[25]? = some (.ref a24) ∧ ∃ (ar28 : List Int32) (x25 : Int32), h1.2 a24 = some (.inl (0, .inl ar28)) ∧ 0 ≤ p1 ∧ ar28[p1.toNatClampNeg]? = some x25 ∧ ∃ (ar27 : List Int32) (x26 : Int32), h1.2 a22 = some (.inl (0, .inl ar27)) ∧ 0 ≤ ((16 * p1) + x25 : Int32) ∧ ar27[((16 * p1) + x25 : Int32).toNatClampNeg]? = some x26 ∧ Q (some (.int (x26 &&& 255))) h1))) ∧ (¬ x3 = 0 → (∃ f32, h1.2 this = some (.inr (8, f32))) ∧ w_M_allActive (fun v h31 => ∃ (x33 : Int32), v = some (.int x33) ∧ Q (some (.int x33)) h31) this p1 h1))) this p1 h
set_option maxRecDepth 100000 in
set_option maxHeartbeats 4000000 in
theorem x_M_wantedSet {sc : List Int32} {Q : Option Value → xH → Prop} {this : Nat} {p1 : Int32} {h : xH} (hw : w_M_wantedSet Q this p1 h) : xMet sc m_M_wantedSet 1 0 0 [.ref (this), .int (p1)] h Q := by
  unfold w_M_wantedSet at hw
  refine xMet.of2 cw_M_wantedSet rfl rfl ?_
  show xW sc m_M_wantedSet 1 0 0 0 [some (.ref (this)), some (.int (p1)), none, none] [] h Q
  refine xw_aload_n d_M_wantedSet_0 rfl rfl ?_
  refine xw_iload_n d_M_wantedSet_1 rfl rfl ?_
  obtain ⟨⟨f2, hA⟩, hw⟩ := hw
  refine xc_V1i lk_M_135 in_M_isData d_M_wantedSet_2 (x_M_isData hw) rfl hA rfl ?_
  intro x3 h1 hw
  refine xw_if_eq (tgt := 14) d_M_wantedSet_5 (by decide) (fun c34 => ?_) (fun c34 => ?_)
  · have hw := hw.1 c34
    refine xw_aload_n d_M_wantedSet_14 rfl rfl ?_
    obtain ⟨f4, a5, hA, hB, hw⟩ := hw
    refine xw_getr fr_M_52 d_M_wantedSet_15 hA hB ?_
    refine xw_iload_n d_M_wantedSet_18 rfl rfl ?_
    obtain ⟨ar30, x6, hA, hB, hC, hw⟩ := hw
    refine xw_iaload (t := 0) rfl d_M_wantedSet_19 hA hB hC ?_
    refine xw_iconst (v := 3) d_M_wantedSet_20 (by decide) ?_
    refine xw_icmp_ne (tgt := 45) d_M_wantedSet_21 (by decide) (fun c29 => ?_) (fun c29 => ?_)
    · have hw := hw.1 c29
      refine xw_aload_n d_M_wantedSet_45 rfl rfl ?_
      obtain ⟨f7, a8, hA, hB, hw⟩ := hw
      refine xw_getr fr_M_55 d_M_wantedSet_46 hA hB ?_
      refine xw_iload_n d_M_wantedSet_49 rfl rfl ?_
      obtain ⟨ar20, x9, hA, hB, hC, hw⟩ := hw
      refine xw_iaload (t := 0) rfl d_M_wantedSet_50 hA hB hC ?_
      refine xw_iconst (v := 2) d_M_wantedSet_51 (by decide) ?_
      refine xw_icmp_ne (tgt := 76) d_M_wantedSet_52 (by decide) (fun c19 => ?_) (fun c19 => ?_)
      · have hw := hw.1 c19
        refine xw_iconst (v := 0) d_M_wantedSet_76 (by decide) ?_
        refine xs_istore_n (lv' := [some (.ref (this)), some (.int (p1)), some (.int (0)), none]) d_M_wantedSet_77 rfl rfl rfl ?_
        refine xw_iconst (v := 0) d_M_wantedSet_78 (by decide) ?_
        refine xs_istore_n (lv' := [some (.ref (this)), some (.int (p1)), some (.int (0)), some (.int (0))]) d_M_wantedSet_79 rfl rfl rfl ?_
        obtain ⟨n10, hw⟩ := hw
        exact p_M_wantedSet_80  n10 (this) (p1) (0) (0) h1 hw
      · have hw := hw.2 c19
        refine xw_aload_n d_M_wantedSet_55 rfl rfl ?_
        obtain ⟨f11, a12, hA, hB, hw⟩ := hw
        refine xw_getr fr_M_37 d_M_wantedSet_56 hA hB ?_
        refine xw_bipush (v := 16) d_M_wantedSet_59 (by decide) ?_
        refine xw_iload_n d_M_wantedSet_61 rfl rfl ?_
        refine xw_imul d_M_wantedSet_62 ?_
        refine xw_aload_n d_M_wantedSet_63 rfl rfl ?_
        obtain ⟨f13, a14, hA, hB, hw⟩ := hw
        refine xw_getr fr_M_58 d_M_wantedSet_64 hA hB ?_
        refine xw_iload_n d_M_wantedSet_67 rfl rfl ?_
        obtain ⟨ar18, x15, hA, hB, hC, hw⟩ := hw
        refine xw_iaload (t := 0) rfl d_M_wantedSet_68 hA hB hC ?_
        refine xw_iadd d_M_wantedSet_69 ?_
        obtain ⟨ar17, x16, hA, hB, hC, hw⟩ := hw
        refine xw_iaload (t := 0) rfl d_M_wantedSet_70 hA hB hC ?_
        refine xw_sipush (v := 255) d_M_wantedSet_71 (by decide) ?_
        refine xw_iand d_M_wantedSet_74 ?_
        exact xw_ireturn rfl d_M_wantedSet_75 hw
    · have hw := hw.2 c29
      refine xw_aload_n d_M_wantedSet_24 rfl rfl ?_
      obtain ⟨f21, a22, hA, hB, hw⟩ := hw
      refine xw_getr fr_M_37 d_M_wantedSet_25 hA hB ?_
      refine xw_bipush (v := 16) d_M_wantedSet_28 (by decide) ?_
      refine xw_iload_n d_M_wantedSet_30 rfl rfl ?_
      refine xw_imul d_M_wantedSet_31 ?_
      refine xw_aload_n d_M_wantedSet_32 rfl rfl ?_
      obtain ⟨f23, a24, hA, hB, hw⟩ := hw
      refine xw_getr fr_M_79 d_M_wantedSet_33 hA hB ?_
      refine xw_iload_n d_M_wantedSet_36 rfl rfl ?_
      obtain ⟨ar28, x25, hA, hB, hC, hw⟩ := hw
      refine xw_iaload (t := 0) rfl d_M_wantedSet_37 hA hB hC ?_
      refine xw_iadd d_M_wantedSet_38 ?_
      obtain ⟨ar27, x26, hA, hB, hC, hw⟩ := hw
      refine xw_iaload (t := 0) rfl d_M_wantedSet_39 hA hB hC ?_
      refine xw_sipush (v := 255) d_M_wantedSet_40 (by decide) ?_
      refine xw_iand d_M_wantedSet_43 ?_
      exact xw_ireturn rfl d_M_wantedSet_44 hw
  · have hw := hw.2 c34
    refine xw_aload_n d_M_wantedSet_8 rfl rfl ?_
    refine xw_iload_n d_M_wantedSet_9 rfl rfl ?_
    obtain ⟨⟨f32, hA⟩, hw⟩ := hw
    refine xc_V1i lk_M_173 in_M_allActive d_M_wantedSet_10 (x_M_allActive hw) rfl hA rfl ?_
    intro x33 h31 hw
    exact xw_ireturn rfl d_M_wantedSet_13 hw
set_option maxRecDepth 100000 in
def w_M_begins_109 (Q : Option Value → xH → Prop) (l0 : Nat) (l1 : Int32) (l2 : Int32) (h : xH) : Prop := (∃ f2, h.2 l0 = some (.inr (8, f2))) ∧ w_M_wantedSet (fun v h1 => ∃ (x3 : Int32), v = some (.int x3) ∧ (∃ f5, h1.2 l0 = some (.inr (8, f5))) ∧ w_M_ask (fun v h4 => v = none ∧ Q none h4) l0 l1 x3 h1) l0 l1 h
set_option maxRecDepth 100000 in
set_option maxHeartbeats 4000000 in
theorem p_M_begins_109 {sc : List Int32} {Q : Option Value → xH → Prop} (l0 : Nat) (l1 : Int32) (l2 : Int32) (h : xH) (hw : w_M_begins_109 Q l0 l1 l2 h) : xW sc m_M_begins 6 0 0 109 [some (.ref (l0)), some (.int (l1)), some (.int (l2))] [] h Q := by
  unfold w_M_begins_109 at hw
  refine xw_aload_n d_M_begins_109 rfl rfl ?_
  refine xw_iload_n d_M_begins_110 rfl rfl ?_
  refine xw_aload_n d_M_begins_111 rfl rfl ?_
  refine xw_iload_n d_M_begins_112 rfl rfl ?_
  obtain ⟨⟨f2, hA⟩, hw⟩ := hw
  refine xc_V1i lk_M_179 in_M_wantedSet d_M_begins_113 (x_M_wantedSet hw) rfl hA rfl ?_
  intro x3 h1 hw
  obtain ⟨⟨f5, hA⟩, hw⟩ := hw
  refine xc_V2n lk_M_182 in_M_ask d_M_begins_116 (x_M_ask hw) rfl hA rfl ?_
  intro h4 hw
  exact xw_return rfl d_M_begins_119 hw
set_option maxRecDepth 100000 in
def w_M_begins_55 (Q : Option Value → xH → Prop) (l0 : Nat) (l1 : Int32) (l2 : Int32) (h : xH) : Prop := ((¬ l2 = 1 → w_M_begins_109 Q (l0) (l1) (l2) h) ∧ (l2 = 1 → ∃ (f1 : List Value) (a2 : Nat), h.2 l0 = some (.inr (8, f1)) ∧ f1[16]? = some (.ref a2) ∧ ∃ (ar23 : List Int32) (x3 : Int32), h.2 a2 = some (.inl (0, .inl ar23)) ∧ 0 ≤ l1 ∧ ar23[l1.toNatClampNeg]? = some x3 ∧ ((¬ x3 = 3 → w_M_begins_109 Q (l0) (l1) (l2) h) ∧ (x3 = 3 → ∃ (f4 : List Value) (a5 : Nat), h.2 l0 = some (.inr (8, f4)) ∧ f4[3]? = some (.ref a5) ∧ ∃ (ar21 : List Int32) (x6 : Int32), h.2 a5 = some (.inl (0, .inl ar21)) ∧ 0 ≤ l1 ∧ ar21[l1.toNatClampNeg]? = some x6 ∧ (∃ f8, h.2 l0 = some (.inr (8, f8))) ∧ w_M_writeRound (fun v h7 => v = none ∧ (∃ f10, h7.2 l0 = some (.inr (8, f10))) ∧ w_M_isUp (fun v h9 => ∃ (x11 : Int32), v = some (.int x11) ∧ ((¬ x11 = 0 → ∃ (f12 : List Value) (a13 : Nat), h9.2 l0 = some (.inr (8, f12)) ∧ f12[24]? = some (.ref a13) ∧ ∃ (f14 : List Value) (a15 : Nat), h9.2 l0 = some (.inr (8, f14)) ∧ f14[3]? = some (.ref a15) ∧ ∃ (ar19 : List Int32) (x16 : Int32), h9.2 a15 = some (.inl (0, .inl ar19)) ∧ 0 ≤ l1 ∧ ar19[l1.toNatClampNeg]? = some x16 ∧ ∃ ar17, h9.2 a13 = some (.inl (0, .inl ar17)) ∧ 0 ≤ l1 ∧ l1.toNatClampNeg < ar17.length ∧ ∀ h18, h18 = xu h9 a13 (.inl (0, .inl (ar17.set l1.toNatClampNeg ((8 * x16) + l1)))) → w_M_begins_109 Q (l0) (l1) (l2) h18) ∧ (x11 = 0 → Q none h9))) l0 l1 h7) l0 l1 (x6 + 1) h))))
set_option maxRecDepth 100000 in
set_option maxHeartbeats 4000000 in
theorem p_M_begins_55 {sc : List Int32} {Q : Option Value → xH → Prop} (l0 : Nat) (l1 : Int32) (l2 : Int32) (h : xH) (hw : w_M_begins_55 Q l0 l1 l2 h) : xW sc m_M_begins 6 0 0 55 [some (.ref (l0)), some (.int (l1)), some (.int (l2))] [] h Q := by
  unfold w_M_begins_55 at hw
  refine xw_iload_n d_M_begins_55 rfl rfl ?_
  refine xw_iconst (v := 1) d_M_begins_56 (by decide) ?_
  refine xw_icmp_ne (tgt := 109) d_M_begins_57 (by decide) (fun c24 => ?_) (fun c24 => ?_)
  · have hw := hw.1 c24
    exact p_M_begins_109  (l0) (l1) (l2) h hw
  · have hw := hw.2 c24
    refine xw_aload_n d_M_begins_60 rfl rfl ?_
    obtain ⟨f1, a2, hA, hB, hw⟩ := hw
    refine xw_getr fr_M_52 d_M_begins_61 hA hB ?_
    refine xw_iload_n d_M_begins_64 rfl rfl ?_
    obtain ⟨ar23, x3, hA, hB, hC, hw⟩ := hw
    refine xw_iaload (t := 0) rfl d_M_begins_65 hA hB hC ?_
    refine xw_iconst (v := 3) d_M_begins_66 (by decide) ?_
    refine xw_icmp_ne (tgt := 109) d_M_begins_67 (by decide) (fun c22 => ?_) (fun c22 => ?_)
    · have hw := hw.1 c22
      exact p_M_begins_109  (l0) (l1) (l2) h hw
    · have hw := hw.2 c22
      refine xw_aload_n d_M_begins_70 rfl rfl ?_
      refine xw_iload_n d_M_begins_71 rfl rfl ?_
      refine xw_aload_n d_M_begins_72 rfl rfl ?_
      obtain ⟨f4, a5, hA, hB, hw⟩ := hw
      refine xw_getr fr_M_16 d_M_begins_73 hA hB ?_
      refine xw_iload_n d_M_begins_76 rfl rfl ?_
      obtain ⟨ar21, x6, hA, hB, hC, hw⟩ := hw
      refine xw_iaload (t := 0) rfl d_M_begins_77 hA hB hC ?_
      refine xw_iconst (v := 1) d_M_begins_78 (by decide) ?_
      refine xw_iadd d_M_begins_79 ?_
      obtain ⟨⟨f8, hA⟩, hw⟩ := hw
      refine xc_V2n lk_M_164 in_M_writeRound d_M_begins_80 (x_M_writeRound hw) rfl hA rfl ?_
      intro h7 hw
      refine xw_aload_n d_M_begins_83 rfl rfl ?_
      refine xw_iload_n d_M_begins_84 rfl rfl ?_
      obtain ⟨⟨f10, hA⟩, hw⟩ := hw
      refine xc_V1i lk_M_111 in_M_isUp d_M_begins_85 (x_M_isUp hw) rfl hA rfl ?_
      intro x11 h9 hw
      refine xw_if_ne (tgt := 92) d_M_begins_88 (by decide) (fun c20 => ?_) (fun c20 => ?_)
      · have hw := hw.1 c20
        refine xw_aload_n d_M_begins_92 rfl rfl ?_
        obtain ⟨f12, a13, hA, hB, hw⟩ := hw
        refine xw_getr fr_M_76 d_M_begins_93 hA hB ?_
        refine xw_iload_n d_M_begins_96 rfl rfl ?_
        refine xw_bipush (v := 8) d_M_begins_97 (by decide) ?_
        refine xw_aload_n d_M_begins_99 rfl rfl ?_
        obtain ⟨f14, a15, hA, hB, hw⟩ := hw
        refine xw_getr fr_M_16 d_M_begins_100 hA hB ?_
        refine xw_iload_n d_M_begins_103 rfl rfl ?_
        obtain ⟨ar19, x16, hA, hB, hC, hw⟩ := hw
        refine xw_iaload (t := 0) rfl d_M_begins_104 hA hB hC ?_
        refine xw_imul d_M_begins_105 ?_
        refine xw_iload_n d_M_begins_106 rfl rfl ?_
        refine xw_iadd d_M_begins_107 ?_
        obtain ⟨ar17, hA, hB, hC, hw⟩ := hw
        refine xw_iastore (t := 0) rfl d_M_begins_108 hA hB hC ?_
        generalize hh : xu h9 a13 (.inl (0, .inl (ar17.set l1.toNatClampNeg ((8 * x16) + l1)))) = h18
        have hw := hw h18 hh.symm
        exact p_M_begins_109  (l0) (l1) (l2) h18 hw
      · have hw := hw.2 c20
        exact xw_return rfl d_M_begins_91 hw
set_option maxRecDepth 100000 in
def w_M_begins (Q : Option Value → xH → Prop) (this : Nat) (p1 : Int32) (p2 : Int32) (h : xH) : Prop := ∃ (f1 : List Value) (a2 : Nat), h.2 this = some (.inr (8, f1)) ∧ f1[17]? = some (.ref a2) ∧ ∃ ar3, h.2 a2 = some (.inl (0, .inl ar3)) ∧ 0 ≤ p1 ∧ p1.toNatClampNeg < ar3.length ∧ ∀ h4, h4 = xu h a2 (.inl (0, .inl (ar3.set p1.toNatClampNeg p2))) → ∃ (f5 : List Value) (a6 : Nat), h4.2 this = some (.inr (8, f5)) ∧ f5[5]? = some (.ref a6) ∧ ∃ (ar29 : List Int32) (x7 : Int32), h4.2 a6 = some (.inl (0, .inl ar29)) ∧ 0 ≤ p1 ∧ ar29[p1.toNatClampNeg]? = some x7 ∧ ∃ ar8, h4.2 a6 = some (.inl (0, .inl ar8)) ∧ 0 ≤ p1 ∧ p1.toNatClampNeg < ar8.length ∧ ∀ h9, h9 = xu h4 a6 (.inl (0, .inl (ar8.set p1.toNatClampNeg (x7 + 1)))) → ∃ (f10 : List Value) (a11 : Nat), h9.2 this = some (.inr (8, f10)) ∧ f10[20]? = some (.ref a11) ∧ ∃ ar12, h9.2 a11 = some (.inl (0, .inl ar12)) ∧ 0 ≤ p1 ∧ p1.toNatClampNeg < ar12.length ∧ ∀ h13, h13 = xu h9 a11 (.inl (0, .inl (ar12.set p1.toNatClampNeg 0))) → ∃ (f14 : List Value) (a15 : Nat), h13.2 this = some (.inr (8, f14)) ∧ f14[21]? = some (.ref a15) ∧ ∃ ar16, h13.2 a15 = some (.inl (0, .inl ar16)) ∧ 0 ≤ p1 ∧ p1.toNatClampNeg < ar16.length ∧ ∀ h17, h17 = xu h13 a15 (.inl (0, .inl (ar16.set p1.toNatClampNeg 0))) → ((¬ p2 = 1 → w_M_begins_55 Q (this) (p1) (p2) h17) ∧ (p2 = 1 → (∃ f19, h17.2 this = some (.inr (8, f19))) ∧ w_M_bestIsOwn (fun v h18 => v = none ∧ ∃ (f20 : List Value) (a21 : Nat), h18.2 this = some (.inr (8, f20)) ∧ f20[26]? = some (.ref a21) ∧ ∃ ar22, h18.2 a21 = some (.inl (0, .inl ar22)) ∧ 0 ≤ p1 ∧ p1.toNatClampNeg < ar22.length ∧ ∀ h23, h23 = xu h18 a21 (.inl (0, .inl (ar22.set p1.toNatClampNeg 0))) → ∃ (f24 : List Value) (a25 : Nat), h23.2 this = some (.inr (8, f24)) ∧ f24[27]? = some (.ref a25) ∧ ∃ ar26, h23.2 a25 = some (.inl (0, .inl ar26)) ∧ 0 ≤ p1 ∧ p1.toNatClampNeg < ar26.length ∧ ∀ h27, h27 = xu h23 a25 (.inl (0, .inl (ar26.set p1.toNatClampNeg 0))) → w_M_begins_55 Q (this) (p1) (p2) h27) this p1 h17))
set_option maxRecDepth 100000 in
set_option maxHeartbeats 4000000 in
theorem x_M_begins {sc : List Int32} {Q : Option Value → xH → Prop} {this : Nat} {p1 : Int32} {p2 : Int32} {h : xH} (hw : w_M_begins Q this p1 p2 h) : xMet sc m_M_begins 6 0 0 [.ref (this), .int (p1), .int (p2)] h Q := by
  unfold w_M_begins at hw
  refine xMet.of2 cw_M_begins rfl rfl ?_
  show xW sc m_M_begins 6 0 0 0 [some (.ref (this)), some (.int (p1)), some (.int (p2))] [] h Q
  refine xw_aload_n d_M_begins_0 rfl rfl ?_
  obtain ⟨f1, a2, hA, hB, hw⟩ := hw
  refine xw_getr fr_M_55 d_M_begins_1 hA hB ?_
  refine xw_iload_n d_M_begins_4 rfl rfl ?_
  refine xw_iload_n d_M_begins_5 rfl rfl ?_
  obtain ⟨ar3, hA, hB, hC, hw⟩ := hw
  refine xw_iastore (t := 0) rfl d_M_begins_6 hA hB hC ?_
  generalize hh : xu h a2 (.inl (0, .inl (ar3.set p1.toNatClampNeg p2))) = h4
  have hw := hw h4 hh.symm
  refine xw_aload_n d_M_begins_7 rfl rfl ?_
  obtain ⟨f5, a6, hA, hB, hw⟩ := hw
  refine xw_getr fr_M_22 d_M_begins_8 hA hB ?_
  refine xw_iload_n d_M_begins_11 rfl rfl ?_
  refine xw_dup2 d_M_begins_12 rfl rfl ?_
  obtain ⟨ar29, x7, hA, hB, hC, hw⟩ := hw
  refine xw_iaload (t := 0) rfl d_M_begins_13 hA hB hC ?_
  refine xw_iconst (v := 1) d_M_begins_14 (by decide) ?_
  refine xw_iadd d_M_begins_15 ?_
  obtain ⟨ar8, hA, hB, hC, hw⟩ := hw
  refine xw_iastore (t := 0) rfl d_M_begins_16 hA hB hC ?_
  generalize hh : xu h4 a6 (.inl (0, .inl (ar8.set p1.toNatClampNeg (x7 + 1)))) = h9
  have hw := hw h9 hh.symm
  refine xw_aload_n d_M_begins_17 rfl rfl ?_
  obtain ⟨f10, a11, hA, hB, hw⟩ := hw
  refine xw_getr fr_M_64 d_M_begins_18 hA hB ?_
  refine xw_iload_n d_M_begins_21 rfl rfl ?_
  refine xw_iconst (v := 0) d_M_begins_22 (by decide) ?_
  obtain ⟨ar12, hA, hB, hC, hw⟩ := hw
  refine xw_iastore (t := 0) rfl d_M_begins_23 hA hB hC ?_
  generalize hh : xu h9 a11 (.inl (0, .inl (ar12.set p1.toNatClampNeg 0))) = h13
  have hw := hw h13 hh.symm
  refine xw_aload_n d_M_begins_24 rfl rfl ?_
  obtain ⟨f14, a15, hA, hB, hw⟩ := hw
  refine xw_getr fr_M_67 d_M_begins_25 hA hB ?_
  refine xw_iload_n d_M_begins_28 rfl rfl ?_
  refine xw_iconst (v := 0) d_M_begins_29 (by decide) ?_
  obtain ⟨ar16, hA, hB, hC, hw⟩ := hw
  refine xw_iastore (t := 0) rfl d_M_begins_30 hA hB hC ?_
  generalize hh : xu h13 a15 (.inl (0, .inl (ar16.set p1.toNatClampNeg 0))) = h17
  have hw := hw h17 hh.symm
  refine xw_iload_n d_M_begins_31 rfl rfl ?_
  refine xw_iconst (v := 1) d_M_begins_32 (by decide) ?_
  refine xw_icmp_ne (tgt := 55) d_M_begins_33 (by decide) (fun c28 => ?_) (fun c28 => ?_)
  · have hw := hw.1 c28
    exact p_M_begins_55  (this) (p1) (p2) h17 hw
  · have hw := hw.2 c28
    refine xw_aload_n d_M_begins_36 rfl rfl ?_
    refine xw_iload_n d_M_begins_37 rfl rfl ?_
    obtain ⟨⟨f19, hA⟩, hw⟩ := hw
    refine xc_V1n lk_M_176 in_M_bestIsOwn d_M_begins_38 (x_M_bestIsOwn hw) rfl hA rfl ?_
    intro h18 hw
    refine xw_aload_n d_M_begins_41 rfl rfl ?_
    obtain ⟨f20, a21, hA, hB, hw⟩ := hw
    refine xw_getr fr_M_82 d_M_begins_42 hA hB ?_
    refine xw_iload_n d_M_begins_45 rfl rfl ?_
    refine xw_iconst (v := 0) d_M_begins_46 (by decide) ?_
    obtain ⟨ar22, hA, hB, hC, hw⟩ := hw
    refine xw_iastore (t := 0) rfl d_M_begins_47 hA hB hC ?_
    generalize hh : xu h18 a21 (.inl (0, .inl (ar22.set p1.toNatClampNeg 0))) = h23
    have hw := hw h23 hh.symm
    refine xw_aload_n d_M_begins_48 rfl rfl ?_
    obtain ⟨f24, a25, hA, hB, hw⟩ := hw
    refine xw_getr fr_M_85 d_M_begins_49 hA hB ?_
    refine xw_iload_n d_M_begins_52 rfl rfl ?_
    refine xw_iconst (v := 0) d_M_begins_53 (by decide) ?_
    obtain ⟨ar26, hA, hB, hC, hw⟩ := hw
    refine xw_iastore (t := 0) rfl d_M_begins_54 hA hB hC ?_
    generalize hh : xu h23 a25 (.inl (0, .inl (ar26.set p1.toNatClampNeg 0))) = h27
    have hw := hw h27 hh.symm
    exact p_M_begins_55  (this) (p1) (p2) h27 hw
set_option maxRecDepth 100000 in
def w_M_isEnough_310 (Q : Option Value → xH → Prop) (L139 : Nat → Int32 → Int32 → Int32 → Int32 → xH → Prop) (l0 : Nat) (l1 : Int32) (l2 : Int32) (l3 : Int32) (l4 : Int32) (l5 : Int32) (l6 : Int32) (h : xH) : Prop := L139 (l0) (l1) (l2) (l3) (l4 + 1) h
set_option maxRecDepth 100000 in
set_option maxHeartbeats 4000000 in
theorem p_M_isEnough_310 {sc : List Int32} {Q : Option Value → xH → Prop} {L139 : Nat → Int32 → Int32 → Int32 → Int32 → xH → Prop} (hL139 : ∀ l0 l1 l2 l3 l4 h, L139 l0 l1 l2 l3 l4 h → xW sc m_M_isEnough 1 0 0 139 [some (.ref (l0)), some (.int (l1)), some (.int (l2)), some (.int (l3)), some (.int (l4)), none, none, none] [] h Q) (l0 : Nat) (l1 : Int32) (l2 : Int32) (l3 : Int32) (l4 : Int32) (l5 : Int32) (l6 : Int32) (h : xH) (hw : w_M_isEnough_310 Q L139 l0 l1 l2 l3 l4 l5 l6 h) : xW sc m_M_isEnough 1 0 0 310 [some (.ref (l0)), some (.int (l1)), some (.int (l2)), some (.int (l3)), some (.int (l4)), some (.int (l5)), some (.int (l6)), none] [] h Q := by
  unfold w_M_isEnough_310 at hw
  refine xs_iinc (v := l4 + 1) (lv' := [some (.ref (l0)), some (.int (l1)), some (.int (l2)), some (.int (l3)), some (.int (l4 + 1)), some (.int (l5)), some (.int (l6)), none]) d_M_isEnough_310 rfl rfl rfl ?_
  refine xw_goto (tgt := 139) d_M_isEnough_313 (by decide) ?_
  refine xs_drop (lv' := [some (.ref (l0)), some (.int (l1)), some (.int (l2)), some (.int (l3)), some (.int (l4 + 1)), none, some (.int (l6)), none]) 5 rfl ?_
  refine xs_drop (lv' := [some (.ref (l0)), some (.int (l1)), some (.int (l2)), some (.int (l3)), some (.int (l4 + 1)), none, none, none]) 6 rfl ?_
  exact hL139 (l0) (l1) (l2) (l3) (l4 + 1) h hw
set_option maxRecDepth 100000 in
def w_M_isEnough_309 (Q : Option Value → xH → Prop) (L139 : Nat → Int32 → Int32 → Int32 → Int32 → xH → Prop) (l0 : Nat) (l1 : Int32) (l2 : Int32) (l3 : Int32) (l4 : Int32) (l5 : Int32) (l6 : Int32) (l7 : Int32) (s0 : Int32) (h : xH) : Prop := w_M_isEnough_310 Q L139 (l0) (l1) (l2) (s0) (l4) (l5) (l6) h
set_option maxRecDepth 100000 in
set_option maxHeartbeats 4000000 in
theorem p_M_isEnough_309 {sc : List Int32} {Q : Option Value → xH → Prop} {L139 : Nat → Int32 → Int32 → Int32 → Int32 → xH → Prop} (hL139 : ∀ l0 l1 l2 l3 l4 h, L139 l0 l1 l2 l3 l4 h → xW sc m_M_isEnough 1 0 0 139 [some (.ref (l0)), some (.int (l1)), some (.int (l2)), some (.int (l3)), some (.int (l4)), none, none, none] [] h Q) (l0 : Nat) (l1 : Int32) (l2 : Int32) (l3 : Int32) (l4 : Int32) (l5 : Int32) (l6 : Int32) (l7 : Int32) (s0 : Int32) (h : xH) (hw : w_M_isEnough_309 Q L139 l0 l1 l2 l3 l4 l5 l6 l7 s0 h) : xW sc m_M_isEnough 1 0 0 309 [some (.ref (l0)), some (.int (l1)), some (.int (l2)), some (.int (l3)), some (.int (l4)), some (.int (l5)), some (.int (l6)), some (.int (l7))] [.int (s0)] h Q := by
  unfold w_M_isEnough_309 at hw
  refine xs_istore_n (lv' := [some (.ref (l0)), some (.int (l1)), some (.int (l2)), some (.int (s0)), some (.int (l4)), some (.int (l5)), some (.int (l6)), some (.int (l7))]) d_M_isEnough_309 rfl rfl rfl ?_
  refine xs_drop (lv' := [some (.ref (l0)), some (.int (l1)), some (.int (l2)), some (.int (s0)), some (.int (l4)), some (.int (l5)), some (.int (l6)), none]) 7 rfl ?_
  exact p_M_isEnough_310 hL139 (l0) (l1) (l2) (s0) (l4) (l5) (l6) h hw
set_option maxRecDepth 100000 in
def w_M_isEnough_308 (Q : Option Value → xH → Prop) (L139 : Nat → Int32 → Int32 → Int32 → Int32 → xH → Prop) (l0 : Nat) (l1 : Int32) (l2 : Int32) (l3 : Int32) (l4 : Int32) (l5 : Int32) (l6 : Int32) (l7 : Int32) (h : xH) : Prop := w_M_isEnough_309 Q L139 (l0) (l1) (l2) (l3) (l4) (l5) (l6) (l7) (0) h
set_option maxRecDepth 100000 in
set_option maxHeartbeats 4000000 in
theorem p_M_isEnough_308 {sc : List Int32} {Q : Option Value → xH → Prop} {L139 : Nat → Int32 → Int32 → Int32 → Int32 → xH → Prop} (hL139 : ∀ l0 l1 l2 l3 l4 h, L139 l0 l1 l2 l3 l4 h → xW sc m_M_isEnough 1 0 0 139 [some (.ref (l0)), some (.int (l1)), some (.int (l2)), some (.int (l3)), some (.int (l4)), none, none, none] [] h Q) (l0 : Nat) (l1 : Int32) (l2 : Int32) (l3 : Int32) (l4 : Int32) (l5 : Int32) (l6 : Int32) (l7 : Int32) (h : xH) (hw : w_M_isEnough_308 Q L139 l0 l1 l2 l3 l4 l5 l6 l7 h) : xW sc m_M_isEnough 1 0 0 308 [some (.ref (l0)), some (.int (l1)), some (.int (l2)), some (.int (l3)), some (.int (l4)), some (.int (l5)), some (.int (l6)), some (.int (l7))] [] h Q := by
  unfold w_M_isEnough_308 at hw
  refine xw_iconst (v := 0) d_M_isEnough_308 (by decide) ?_
  exact p_M_isEnough_309 hL139 (l0) (l1) (l2) (l3) (l4) (l5) (l6) (l7) (0) h hw
set_option maxRecDepth 100000 in
def w_M_isEnough_282 (Q : Option Value → xH → Prop) (L139 : Nat → Int32 → Int32 → Int32 → Int32 → xH → Prop) (l0 : Nat) (l1 : Int32) (l2 : Int32) (l3 : Int32) (l4 : Int32) (l5 : Int32) (l6 : Int32) (s0 : Int32) (h : xH) : Prop := ((l3 = 0 → w_M_isEnough_308 Q L139 (l0) (l1) (l2) (l3) (l4) (l5) (l6) (s0) h) ∧ (¬ l3 = 0 → w_M_many (fun v h1 => ∃ (x2 : Int32), v = some (.int x2) ∧ ((x2 < s0 → w_M_isEnough_308 Q L139 (l0) (l1) (l2) (l3) (l4) (l5) (l6) (s0) h1) ∧ (¬ x2 < s0 → w_M_isEnough_309 Q L139 (l0) (l1) (l2) (l3) (l4) (l5) (l6) (s0) (1) h1))) ((l2 &&& l5) &&& 255) h))
set_option maxRecDepth 100000 in
set_option maxHeartbeats 4000000 in
theorem p_M_isEnough_282 {sc : List Int32} {Q : Option Value → xH → Prop} {L139 : Nat → Int32 → Int32 → Int32 → Int32 → xH → Prop} (hL139 : ∀ l0 l1 l2 l3 l4 h, L139 l0 l1 l2 l3 l4 h → xW sc m_M_isEnough 1 0 0 139 [some (.ref (l0)), some (.int (l1)), some (.int (l2)), some (.int (l3)), some (.int (l4)), none, none, none] [] h Q) (l0 : Nat) (l1 : Int32) (l2 : Int32) (l3 : Int32) (l4 : Int32) (l5 : Int32) (l6 : Int32) (s0 : Int32) (h : xH) (hw : w_M_isEnough_282 Q L139 l0 l1 l2 l3 l4 l5 l6 s0 h) : xW sc m_M_isEnough 1 0 0 282 [some (.ref (l0)), some (.int (l1)), some (.int (l2)), some (.int (l3)), some (.int (l4)), some (.int (l5)), some (.int (l6)), none] [.int (s0)] h Q := by
  unfold w_M_isEnough_282 at hw
  refine xs_istore (lv' := [some (.ref (l0)), some (.int (l1)), some (.int (l2)), some (.int (l3)), some (.int (l4)), some (.int (l5)), some (.int (l6)), some (.int (s0))]) d_M_isEnough_282 rfl rfl ?_
  refine xw_iload_n d_M_isEnough_284 rfl rfl ?_
  refine xw_if_eq (tgt := 308) d_M_isEnough_285 (by decide) (fun c4 => ?_) (fun c4 => ?_)
  · have hw := hw.1 c4
    exact p_M_isEnough_308 hL139 (l0) (l1) (l2) (l3) (l4) (l5) (l6) (s0) h hw
  · have hw := hw.2 c4
    refine xw_iload_n d_M_isEnough_288 rfl rfl ?_
    refine xw_iload d_M_isEnough_289 rfl ?_
    refine xw_iand d_M_isEnough_291 ?_
    refine xw_sipush (v := 255) d_M_isEnough_292 (by decide) ?_
    refine xw_iand d_M_isEnough_295 ?_
    refine xc_S1i lk_M_185 st_M_many d_M_isEnough_296 (x_M_many hw) rfl rfl ?_
    intro x2 h1 hw
    refine xw_iload d_M_isEnough_299 rfl ?_
    refine xw_icmp_lt (tgt := 308) d_M_isEnough_301 (by decide) (fun c3 => ?_) (fun c3 => ?_)
    · have hw := hw.1 c3
      exact p_M_isEnough_308 hL139 (l0) (l1) (l2) (l3) (l4) (l5) (l6) (s0) h1 hw
    · have hw := hw.2 c3
      refine xw_iconst (v := 1) d_M_isEnough_304 (by decide) ?_
      refine xw_goto (tgt := 309) d_M_isEnough_305 (by decide) ?_
      exact p_M_isEnough_309 hL139 (l0) (l1) (l2) (l3) (l4) (l5) (l6) (s0) (1) h1 hw
set_option maxRecDepth 100000 in
def w_M_isEnough_212 (Q : Option Value → xH → Prop) (L139 : Nat → Int32 → Int32 → Int32 → Int32 → xH → Prop) (l0 : Nat) (l1 : Int32) (l2 : Int32) (l3 : Int32) (l4 : Int32) (l5 : Int32) (s0 : Int32) (h : xH) : Prop := ((¬ s0 = 0 → (∃ f2, h.2 l0 = some (.inr (8, f2))) ∧ w_M_isData (fun v h1 => ∃ (x3 : Int32), v = some (.int x3) ∧ ((x3 = 0 → w_M_reads (fun v h4 => ∃ (x5 : Int32), v = some (.int x5) ∧ w_M_stores (fun v h6 => ∃ (x7 : Int32), v = some (.int x7) ∧ ((x5 ≤ x7 → w_M_stores (fun v h8 => ∃ (x9 : Int32), v = some (.int x9) ∧ w_M_isEnough_282 Q L139 (l0) (l1) (l2) (l3) (l4) (l5) (s0) (x9) h8) l5 h6) ∧ (¬ x5 ≤ x7 → w_M_reads (fun v h10 => ∃ (x11 : Int32), v = some (.int x11) ∧ w_M_isEnough_282 Q L139 (l0) (l1) (l2) (l3) (l4) (l5) (s0) (x11) h10) l5 h6))) l5 h4) l5 h1) ∧ (¬ x3 = 0 → ∃ (f13 : List Value) (a14 : Nat), h1.2 l0 = some (.inr (8, f13)) ∧ f13[17]? = some (.ref a14) ∧ ∃ (ar21 : List Int32) (x15 : Int32), h1.2 a14 = some (.inl (0, .inl ar21)) ∧ 0 ≤ l1 ∧ ar21[l1.toNatClampNeg]? = some x15 ∧ ((¬ x15 = 1 → w_M_stores (fun v h16 => ∃ (x17 : Int32), v = some (.int x17) ∧ w_M_isEnough_282 Q L139 (l0) (l1) (l2) (l3) (l4) (l5) (s0) (x17) h16) l5 h1) ∧ (x15 = 1 → w_M_reads (fun v h18 => ∃ (x19 : Int32), v = some (.int x19) ∧ w_M_isEnough_282 Q L139 (l0) (l1) (l2) (l3) (l4) (l5) (s0) (x19) h18) l5 h1))))) l0 l1 h) ∧ (s0 = 0 → w_M_isEnough_310 Q L139 (l0) (l1) (l2) (l3) (l4) (l5) (s0) h))
set_option maxRecDepth 100000 in
set_option maxHeartbeats 4000000 in
theorem p_M_isEnough_212 {sc : List Int32} {Q : Option Value → xH → Prop} {L139 : Nat → Int32 → Int32 → Int32 → Int32 → xH → Prop} (hL139 : ∀ l0 l1 l2 l3 l4 h, L139 l0 l1 l2 l3 l4 h → xW sc m_M_isEnough 1 0 0 139 [some (.ref (l0)), some (.int (l1)), some (.int (l2)), some (.int (l3)), some (.int (l4)), none, none, none] [] h Q) (l0 : Nat) (l1 : Int32) (l2 : Int32) (l3 : Int32) (l4 : Int32) (l5 : Int32) (s0 : Int32) (h : xH) (hw : w_M_isEnough_212 Q L139 l0 l1 l2 l3 l4 l5 s0 h) : xW sc m_M_isEnough 1 0 0 212 [some (.ref (l0)), some (.int (l1)), some (.int (l2)), some (.int (l3)), some (.int (l4)), some (.int (l5)), none, none] [.int (s0)] h Q := by
  unfold w_M_isEnough_212 at hw
  refine xs_istore (lv' := [some (.ref (l0)), some (.int (l1)), some (.int (l2)), some (.int (l3)), some (.int (l4)), some (.int (l5)), some (.int (s0)), none]) d_M_isEnough_212 rfl rfl ?_
  refine xw_iload d_M_isEnough_214 rfl ?_
  refine xw_if_ne (tgt := 222) d_M_isEnough_216 (by decide) (fun c23 => ?_) (fun c23 => ?_)
  · have hw := hw.1 c23
    refine xw_aload_n d_M_isEnough_222 rfl rfl ?_
    refine xw_iload_n d_M_isEnough_223 rfl rfl ?_
    obtain ⟨⟨f2, hA⟩, hw⟩ := hw
    refine xc_V1i lk_M_135 in_M_isData d_M_isEnough_224 (x_M_isData hw) rfl hA rfl ?_
    intro x3 h1 hw
    refine xw_if_eq (tgt := 256) d_M_isEnough_227 (by decide) (fun c22 => ?_) (fun c22 => ?_)
    · have hw := hw.1 c22
      refine xw_iload d_M_isEnough_256 rfl ?_
      refine xc_S1i lk_M_188 st_M_reads d_M_isEnough_258 (x_M_reads hw) rfl rfl ?_
      intro x5 h4 hw
      refine xw_iload d_M_isEnough_261 rfl ?_
      refine xc_S1i lk_M_191 st_M_stores d_M_isEnough_263 (x_M_stores hw) rfl rfl ?_
      intro x7 h6 hw
      refine xw_icmp_le (tgt := 277) d_M_isEnough_266 (by decide) (fun c12 => ?_) (fun c12 => ?_)
      · have hw := hw.1 c12
        refine xw_iload d_M_isEnough_277 rfl ?_
        refine xc_S1i lk_M_191 st_M_stores d_M_isEnough_279 (x_M_stores hw) rfl rfl ?_
        intro x9 h8 hw
        exact p_M_isEnough_282 hL139 (l0) (l1) (l2) (l3) (l4) (l5) (s0) (x9) h8 hw
      · have hw := hw.2 c12
        refine xw_iload d_M_isEnough_269 rfl ?_
        refine xc_S1i lk_M_188 st_M_reads d_M_isEnough_271 (x_M_reads hw) rfl rfl ?_
        intro x11 h10 hw
        refine xw_goto (tgt := 282) d_M_isEnough_274 (by decide) ?_
        exact p_M_isEnough_282 hL139 (l0) (l1) (l2) (l3) (l4) (l5) (s0) (x11) h10 hw
    · have hw := hw.2 c22
      refine xw_aload_n d_M_isEnough_230 rfl rfl ?_
      obtain ⟨f13, a14, hA, hB, hw⟩ := hw
      refine xw_getr fr_M_55 d_M_isEnough_231 hA hB ?_
      refine xw_iload_n d_M_isEnough_234 rfl rfl ?_
      obtain ⟨ar21, x15, hA, hB, hC, hw⟩ := hw
      refine xw_iaload (t := 0) rfl d_M_isEnough_235 hA hB hC ?_
      refine xw_iconst (v := 1) d_M_isEnough_236 (by decide) ?_
      refine xw_icmp_ne (tgt := 248) d_M_isEnough_237 (by decide) (fun c20 => ?_) (fun c20 => ?_)
      · have hw := hw.1 c20
        refine xw_iload d_M_isEnough_248 rfl ?_
        refine xc_S1i lk_M_191 st_M_stores d_M_isEnough_250 (x_M_stores hw) rfl rfl ?_
        intro x17 h16 hw
        refine xw_goto (tgt := 282) d_M_isEnough_253 (by decide) ?_
        exact p_M_isEnough_282 hL139 (l0) (l1) (l2) (l3) (l4) (l5) (s0) (x17) h16 hw
      · have hw := hw.2 c20
        refine xw_iload d_M_isEnough_240 rfl ?_
        refine xc_S1i lk_M_188 st_M_reads d_M_isEnough_242 (x_M_reads hw) rfl rfl ?_
        intro x19 h18 hw
        refine xw_goto (tgt := 282) d_M_isEnough_245 (by decide) ?_
        exact p_M_isEnough_282 hL139 (l0) (l1) (l2) (l3) (l4) (l5) (s0) (x19) h18 hw
  · have hw := hw.2 c23
    refine xw_goto (tgt := 310) d_M_isEnough_219 (by decide) ?_
    exact p_M_isEnough_310 hL139 (l0) (l1) (l2) (l3) (l4) (l5) (s0) h hw
set_option maxRecDepth 100000 in
def w_M_isEnough_139 (Q : Option Value → xH → Prop) : Nat → Nat → Int32 → Int32 → Int32 → Int32 → xH → Prop
  | 0, _, _, _, _, _, _ => False
  | n + 1, l0, l1, l2, l3, l4, h => ((16 ≤ l4 → (narrow .boolean (.int l3) = .int l3 ∧ Q (some (.int l3)) h)) ∧ (¬ 16 ≤ l4 → ∃ (f1 : List Value) (a2 : Nat), h.2 l0 = some (.inr (8, f1)) ∧ f1[10]? = some (.ref a2) ∧ ∃ (ar18 : List Int32) (x3 : Int32), h.2 a2 = some (.inl (0, .inl ar18)) ∧ 0 ≤ ((16 * l1) + l4 : Int32) ∧ ar18[((16 * l1) + l4 : Int32).toNatClampNeg]? = some x3 ∧ (∃ f5, h.2 l0 = some (.inr (8, f5))) ∧ w_M_isData (fun v h4 => ∃ (x6 : Int32), v = some (.int x6) ∧ ((x6 = 0 → ∃ (f7 : List Value) (a8 : Nat), h4.2 l0 = some (.inr (8, f7)) ∧ f7[23]? = some (.ref a8) ∧ ∃ (ar11 : List Int32) (x9 : Int32), h4.2 a8 = some (.inl (0, .inl ar11)) ∧ 0 ≤ l1 ∧ ar11[l1.toNatClampNeg]? = some x9 ∧ ((¬ ((x9 >>> (l4 &&& 31)) &&& 1) = 1 → w_M_isEnough_212 Q (fun y0 y1 y2 y3 y4 yh => w_M_isEnough_139 Q n y0 y1 y2 y3 y4 yh) (l0) (l1) (l2) (l3) (l4) (x3) (0) h4) ∧ (((x9 >>> (l4 &&& 31)) &&& 1) = 1 → w_M_isEnough_212 Q (fun y0 y1 y2 y3 y4 yh => w_M_isEnough_139 Q n y0 y1 y2 y3 y4 yh) (l0) (l1) (l2) (l3) (l4) (x3) (1) h4))) ∧ (¬ x6 = 0 → ∃ (f12 : List Value) (a13 : Nat), h4.2 l0 = some (.inr (8, f12)) ∧ f12[9]? = some (.ref a13) ∧ ∃ (ar16 : List Int32) (x14 : Int32), h4.2 a13 = some (.inl (0, .inl ar16)) ∧ 0 ≤ ((16 * l1) + l4 : Int32) ∧ ar16[((16 * l1) + l4 : Int32).toNatClampNeg]? = some x14 ∧ ((¬ x14 = 1 → w_M_isEnough_212 Q (fun y0 y1 y2 y3 y4 yh => w_M_isEnough_139 Q n y0 y1 y2 y3 y4 yh) (l0) (l1) (l2) (l3) (l4) (x3) (0) h4) ∧ (x14 = 1 → w_M_isEnough_212 Q (fun y0 y1 y2 y3 y4 yh => w_M_isEnough_139 Q n y0 y1 y2 y3 y4 yh) (l0) (l1) (l2) (l3) (l4) (x3) (1) h4))))) l0 l1 h))
set_option maxRecDepth 100000 in
set_option maxHeartbeats 4000000 in
theorem p_M_isEnough_139 {sc : List Int32} {Q : Option Value → xH → Prop} : ∀ (n : Nat) (l0 : Nat) (l1 : Int32) (l2 : Int32) (l3 : Int32) (l4 : Int32) (h : xH), w_M_isEnough_139 Q n l0 l1 l2 l3 l4 h → xW sc m_M_isEnough 1 0 0 139 [some (.ref (l0)), some (.int (l1)), some (.int (l2)), some (.int (l3)), some (.int (l4)), none, none, none] [] h Q := by
  intro n
  induction n with
  | zero => intro l0 l1 l2 l3 l4 h hw; exact False.elim hw
  | succ n ih =>
    intro l0 l1 l2 l3 l4 h hw
    rw [w_M_isEnough_139] at hw
    refine xw_iload d_M_isEnough_139 rfl ?_
    refine xw_bipush (v := 16) d_M_isEnough_141 (by decide) ?_
    refine xw_icmp_ge (tgt := 316) d_M_isEnough_143 (by decide) (fun c19 => ?_) (fun c19 => ?_)
    · have hw := hw.1 c19
      refine xw_iload_n d_M_isEnough_316 rfl rfl ?_
      exact xw_zreturn rfl hw.1 d_M_isEnough_317 hw.2
    · have hw := hw.2 c19
      refine xw_aload_n d_M_isEnough_146 rfl rfl ?_
      obtain ⟨f1, a2, hA, hB, hw⟩ := hw
      refine xw_getr fr_M_37 d_M_isEnough_147 hA hB ?_
      refine xw_bipush (v := 16) d_M_isEnough_150 (by decide) ?_
      refine xw_iload_n d_M_isEnough_152 rfl rfl ?_
      refine xw_imul d_M_isEnough_153 ?_
      refine xw_iload d_M_isEnough_154 rfl ?_
      refine xw_iadd d_M_isEnough_156 ?_
      obtain ⟨ar18, x3, hA, hB, hC, hw⟩ := hw
      refine xw_iaload (t := 0) rfl d_M_isEnough_157 hA hB hC ?_
      refine xs_istore (lv' := [some (.ref (l0)), some (.int (l1)), some (.int (l2)), some (.int (l3)), some (.int (l4)), some (.int (x3)), none, none]) d_M_isEnough_158 rfl rfl ?_
      refine xw_aload_n d_M_isEnough_160 rfl rfl ?_
      refine xw_iload_n d_M_isEnough_161 rfl rfl ?_
      obtain ⟨⟨f5, hA⟩, hw⟩ := hw
      refine xc_V1i lk_M_135 in_M_isData d_M_isEnough_162 (x_M_isData hw) rfl hA rfl ?_
      intro x6 h4 hw
      refine xw_if_eq (tgt := 192) d_M_isEnough_165 (by decide) (fun c17 => ?_) (fun c17 => ?_)
      · have hw := hw.1 c17
        refine xw_aload_n d_M_isEnough_192 rfl rfl ?_
        obtain ⟨f7, a8, hA, hB, hw⟩ := hw
        refine xw_getr fr_M_73 d_M_isEnough_193 hA hB ?_
        refine xw_iload_n d_M_isEnough_196 rfl rfl ?_
        obtain ⟨ar11, x9, hA, hB, hC, hw⟩ := hw
        refine xw_iaload (t := 0) rfl d_M_isEnough_197 hA hB hC ?_
        refine xw_iload d_M_isEnough_198 rfl ?_
        refine xw_ishr d_M_isEnough_200 ?_
        refine xw_iconst (v := 1) d_M_isEnough_201 (by decide) ?_
        refine xw_iand d_M_isEnough_202 ?_
        refine xw_iconst (v := 1) d_M_isEnough_203 (by decide) ?_
        refine xw_icmp_ne (tgt := 211) d_M_isEnough_204 (by decide) (fun c10 => ?_) (fun c10 => ?_)
        · have hw := hw.1 c10
          refine xw_iconst (v := 0) d_M_isEnough_211 (by decide) ?_
          exact p_M_isEnough_212 ih (l0) (l1) (l2) (l3) (l4) (x3) (0) h4 hw
        · have hw := hw.2 c10
          refine xw_iconst (v := 1) d_M_isEnough_207 (by decide) ?_
          refine xw_goto (tgt := 212) d_M_isEnough_208 (by decide) ?_
          exact p_M_isEnough_212 ih (l0) (l1) (l2) (l3) (l4) (x3) (1) h4 hw
      · have hw := hw.2 c17
        refine xw_aload_n d_M_isEnough_168 rfl rfl ?_
        obtain ⟨f12, a13, hA, hB, hw⟩ := hw
        refine xw_getr fr_M_34 d_M_isEnough_169 hA hB ?_
        refine xw_bipush (v := 16) d_M_isEnough_172 (by decide) ?_
        refine xw_iload_n d_M_isEnough_174 rfl rfl ?_
        refine xw_imul d_M_isEnough_175 ?_
        refine xw_iload d_M_isEnough_176 rfl ?_
        refine xw_iadd d_M_isEnough_178 ?_
        obtain ⟨ar16, x14, hA, hB, hC, hw⟩ := hw
        refine xw_iaload (t := 0) rfl d_M_isEnough_179 hA hB hC ?_
        refine xw_iconst (v := 1) d_M_isEnough_180 (by decide) ?_
        refine xw_icmp_ne (tgt := 188) d_M_isEnough_181 (by decide) (fun c15 => ?_) (fun c15 => ?_)
        · have hw := hw.1 c15
          refine xw_iconst (v := 0) d_M_isEnough_188 (by decide) ?_
          refine xw_goto (tgt := 212) d_M_isEnough_189 (by decide) ?_
          exact p_M_isEnough_212 ih (l0) (l1) (l2) (l3) (l4) (x3) (0) h4 hw
        · have hw := hw.2 c15
          refine xw_iconst (v := 1) d_M_isEnough_184 (by decide) ?_
          refine xw_goto (tgt := 212) d_M_isEnough_185 (by decide) ?_
          exact p_M_isEnough_212 ih (l0) (l1) (l2) (l3) (l4) (x3) (1) h4 hw
set_option maxRecDepth 100000 in
def w_M_isEnough_134 (Q : Option Value → xH → Prop) (l0 : Nat) (l1 : Int32) (l2 : Int32) (h : xH) : Prop := ∃ n1, w_M_isEnough_139 Q n1 (l0) (l1) (l2) (1) (0) h
set_option maxRecDepth 100000 in
set_option maxHeartbeats 4000000 in
theorem p_M_isEnough_134 {sc : List Int32} {Q : Option Value → xH → Prop} (l0 : Nat) (l1 : Int32) (l2 : Int32) (h : xH) (hw : w_M_isEnough_134 Q l0 l1 l2 h) : xW sc m_M_isEnough 1 0 0 134 [some (.ref (l0)), some (.int (l1)), some (.int (l2)), none, none, none, none, none] [] h Q := by
  unfold w_M_isEnough_134 at hw
  refine xw_iconst (v := 1) d_M_isEnough_134 (by decide) ?_
  refine xs_istore_n (lv' := [some (.ref (l0)), some (.int (l1)), some (.int (l2)), some (.int (1)), none, none, none, none]) d_M_isEnough_135 rfl rfl rfl ?_
  refine xw_iconst (v := 0) d_M_isEnough_136 (by decide) ?_
  refine xs_istore (lv' := [some (.ref (l0)), some (.int (l1)), some (.int (l2)), some (.int (1)), some (.int (0)), none, none, none]) d_M_isEnough_137 rfl rfl ?_
  obtain ⟨n1, hw⟩ := hw
  exact p_M_isEnough_139  n1 (l0) (l1) (l2) (1) (0) h hw
set_option maxRecDepth 100000 in
def w_M_isEnough_65 (Q : Option Value → xH → Prop) (l0 : Nat) (l1 : Int32) (l2 : Int32) (l3 : Int32) (s0 : Int32) (s1 : Int32) (h : xH) : Prop := ((s1 < s0 → (narrow .boolean (.int 0) = .int 0 ∧ Q (some (.int 0)) h)) ∧ (¬ s1 < s0 → (narrow .boolean (.int 1) = .int 1 ∧ Q (some (.int 1)) h)))
set_option maxRecDepth 100000 in
set_option maxHeartbeats 4000000 in
theorem p_M_isEnough_65 {sc : List Int32} {Q : Option Value → xH → Prop} (l0 : Nat) (l1 : Int32) (l2 : Int32) (l3 : Int32) (s0 : Int32) (s1 : Int32) (h : xH) (hw : w_M_isEnough_65 Q l0 l1 l2 l3 s0 s1 h) : xW sc m_M_isEnough 1 0 0 65 [some (.ref (l0)), some (.int (l1)), some (.int (l2)), some (.int (l3)), none, none, none, none] [.int (s0), .int (s1)] h Q := by
  unfold w_M_isEnough_65 at hw
  refine xw_icmp_lt (tgt := 72) d_M_isEnough_65 (by decide) (fun c1 => ?_) (fun c1 => ?_)
  · have hw := hw.1 c1
    refine xw_iconst (v := 0) d_M_isEnough_72 (by decide) ?_
    exact xw_zreturn rfl hw.1 d_M_isEnough_73 hw.2
  · have hw := hw.2 c1
    refine xw_iconst (v := 1) d_M_isEnough_68 (by decide) ?_
    refine xw_goto (tgt := 73) d_M_isEnough_69 (by decide) ?_
    exact xw_zreturn rfl hw.1 d_M_isEnough_73 hw.2
set_option maxRecDepth 100000 in
def w_M_isEnough (Q : Option Value → xH → Prop) (this : Nat) (p1 : Int32) (h : xH) : Prop := ∃ (f1 : List Value) (a2 : Nat), h.2 this = some (.inr (8, f1)) ∧ f1[21]? = some (.ref a2) ∧ ∃ (ar51 : List Int32) (x3 : Int32), h.2 a2 = some (.inl (0, .inl ar51)) ∧ 0 ≤ p1 ∧ ar51[p1.toNatClampNeg]? = some x3 ∧ ∃ (f4 : List Value) (a5 : Nat), h.2 this = some (.inr (8, f4)) ∧ f4[16]? = some (.ref a5) ∧ ∃ (ar50 : List Int32) (x6 : Int32), h.2 a5 = some (.inl (0, .inl ar50)) ∧ 0 ≤ p1 ∧ ar50[p1.toNatClampNeg]? = some x6 ∧ ((¬ x6 = 3 → ∃ (f7 : List Value) (a8 : Nat), h.2 this = some (.inr (8, f7)) ∧ f7[16]? = some (.ref a8) ∧ ∃ (ar29 : List Int32) (x9 : Int32), h.2 a8 = some (.inl (0, .inl ar29)) ∧ 0 ≤ p1 ∧ ar29[p1.toNatClampNeg]? = some x9 ∧ ((¬ x9 = 4 → w_M_isEnough_134 Q (this) (p1) (x3) h) ∧ (x9 = 4 → ∃ (f10 : List Value) (a11 : Nat), h.2 this = some (.inr (8, f10)) ∧ f10[17]? = some (.ref a11) ∧ ∃ (ar27 : List Int32) (x12 : Int32), h.2 a11 = some (.inl (0, .inl ar27)) ∧ 0 ≤ p1 ∧ ar27[p1.toNatClampNeg]? = some x12 ∧ ((¬ x12 = 2 → w_M_isEnough_134 Q (this) (p1) (x3) h) ∧ (x12 = 2 → ∃ (f13 : List Value) (a14 : Nat), h.2 this = some (.inr (8, f13)) ∧ f13[10]? = some (.ref a14) ∧ ∃ (f15 : List Value) (a16 : Nat), h.2 this = some (.inr (8, f15)) ∧ f15[18]? = some (.ref a16) ∧ ∃ (ar25 : List Int32) (x17 : Int32), h.2 a16 = some (.inl (0, .inl ar25)) ∧ 0 ≤ p1 ∧ ar25[p1.toNatClampNeg]? = some x17 ∧ ∃ (ar24 : List Int32) (x18 : Int32), h.2 a14 = some (.inl (0, .inl ar24)) ∧ 0 ≤ ((16 * p1) + x17 : Int32) ∧ ar24[((16 * p1) + x17 : Int32).toNatClampNeg]? = some x18 ∧ w_M_many (fun v h19 => ∃ (x20 : Int32), v = some (.int x20) ∧ w_M_stores (fun v h21 => ∃ (x22 : Int32), v = some (.int x22) ∧ ((x20 < x22 → (narrow .boolean (.int 0) = .int 0 ∧ Q (some (.int 0)) h21)) ∧ (¬ x20 < x22 → (narrow .boolean (.int 1) = .int 1 ∧ Q (some (.int 1)) h21)))) x18 h19) ((x3 &&& x18) &&& 255) h))))) ∧ (x6 = 3 → ∃ (f30 : List Value) (a31 : Nat), h.2 this = some (.inr (8, f30)) ∧ f30[10]? = some (.ref a31) ∧ ∃ (f32 : List Value) (a33 : Nat), h.2 this = some (.inr (8, f32)) ∧ f32[25]? = some (.ref a33) ∧ ∃ (ar48 : List Int32) (x34 : Int32), h.2 a33 = some (.inl (0, .inl ar48)) ∧ 0 ≤ p1 ∧ ar48[p1.toNatClampNeg]? = some x34 ∧ ∃ (ar47 : List Int32) (x35 : Int32), h.2 a31 = some (.inl (0, .inl ar47)) ∧ 0 ≤ ((16 * p1) + x34 : Int32) ∧ ar47[((16 * p1) + x34 : Int32).toNatClampNeg]? = some x35 ∧ w_M_many (fun v h36 => ∃ (x37 : Int32), v = some (.int x37) ∧ ∃ (f38 : List Value) (a39 : Nat), h36.2 this = some (.inr (8, f38)) ∧ f38[17]? = some (.ref a39) ∧ ∃ (ar46 : List Int32) (x40 : Int32), h36.2 a39 = some (.inl (0, .inl ar46)) ∧ 0 ≤ p1 ∧ ar46[p1.toNatClampNeg]? = some x40 ∧ ((¬ x40 = 1 → w_M_stores (fun v h41 => ∃ (x42 : Int32), v = some (.int x42) ∧ w_M_isEnough_65 Q (this) (p1) (x3) (x35) (x42) (x37) h41) x35 h36) ∧ (x40 = 1 → w_M_reads (fun v h43 => ∃ (x44 : Int32), v = some (.int x44) ∧ w_M_isEnough_65 Q (this) (p1) (x3) (x35) (x44) (x37) h43) x35 h36))) ((x3 &&& x35) &&& 255) h))
set_option maxRecDepth 100000 in
set_option maxHeartbeats 4000000 in
theorem x_M_isEnough {sc : List Int32} {Q : Option Value → xH → Prop} {this : Nat} {p1 : Int32} {h : xH} (hw : w_M_isEnough Q this p1 h) : xMet sc m_M_isEnough 1 0 0 [.ref (this), .int (p1)] h Q := by
  unfold w_M_isEnough at hw
  refine xMet.of2 cw_M_isEnough rfl rfl ?_
  show xW sc m_M_isEnough 1 0 0 0 [some (.ref (this)), some (.int (p1)), none, none, none, none, none, none] [] h Q
  refine xw_aload_n d_M_isEnough_0 rfl rfl ?_
  obtain ⟨f1, a2, hA, hB, hw⟩ := hw
  refine xw_getr fr_M_67 d_M_isEnough_1 hA hB ?_
  refine xw_iload_n d_M_isEnough_4 rfl rfl ?_
  obtain ⟨ar51, x3, hA, hB, hC, hw⟩ := hw
  refine xw_iaload (t := 0) rfl d_M_isEnough_5 hA hB hC ?_
  refine xs_istore_n (lv' := [some (.ref (this)), some (.int (p1)), some (.int (x3)), none, none, none, none, none]) d_M_isEnough_6 rfl rfl rfl ?_
  refine xw_aload_n d_M_isEnough_7 rfl rfl ?_
  obtain ⟨f4, a5, hA, hB, hw⟩ := hw
  refine xw_getr fr_M_52 d_M_isEnough_8 hA hB ?_
  refine xw_iload_n d_M_isEnough_11 rfl rfl ?_
  obtain ⟨ar50, x6, hA, hB, hC, hw⟩ := hw
  refine xw_iaload (t := 0) rfl d_M_isEnough_12 hA hB hC ?_
  refine xw_iconst (v := 3) d_M_isEnough_13 (by decide) ?_
  refine xw_icmp_ne (tgt := 74) d_M_isEnough_14 (by decide) (fun c49 => ?_) (fun c49 => ?_)
  · have hw := hw.1 c49
    refine xw_aload_n d_M_isEnough_74 rfl rfl ?_
    obtain ⟨f7, a8, hA, hB, hw⟩ := hw
    refine xw_getr fr_M_52 d_M_isEnough_75 hA hB ?_
    refine xw_iload_n d_M_isEnough_78 rfl rfl ?_
    obtain ⟨ar29, x9, hA, hB, hC, hw⟩ := hw
    refine xw_iaload (t := 0) rfl d_M_isEnough_79 hA hB hC ?_
    refine xw_iconst (v := 4) d_M_isEnough_80 (by decide) ?_
    refine xw_icmp_ne (tgt := 134) d_M_isEnough_81 (by decide) (fun c28 => ?_) (fun c28 => ?_)
    · have hw := hw.1 c28
      exact p_M_isEnough_134  (this) (p1) (x3) h hw
    · have hw := hw.2 c28
      refine xw_aload_n d_M_isEnough_84 rfl rfl ?_
      obtain ⟨f10, a11, hA, hB, hw⟩ := hw
      refine xw_getr fr_M_55 d_M_isEnough_85 hA hB ?_
      refine xw_iload_n d_M_isEnough_88 rfl rfl ?_
      obtain ⟨ar27, x12, hA, hB, hC, hw⟩ := hw
      refine xw_iaload (t := 0) rfl d_M_isEnough_89 hA hB hC ?_
      refine xw_iconst (v := 2) d_M_isEnough_90 (by decide) ?_
      refine xw_icmp_ne (tgt := 134) d_M_isEnough_91 (by decide) (fun c26 => ?_) (fun c26 => ?_)
      · have hw := hw.1 c26
        exact p_M_isEnough_134  (this) (p1) (x3) h hw
      · have hw := hw.2 c26
        refine xw_aload_n d_M_isEnough_94 rfl rfl ?_
        obtain ⟨f13, a14, hA, hB, hw⟩ := hw
        refine xw_getr fr_M_37 d_M_isEnough_95 hA hB ?_
        refine xw_bipush (v := 16) d_M_isEnough_98 (by decide) ?_
        refine xw_iload_n d_M_isEnough_100 rfl rfl ?_
        refine xw_imul d_M_isEnough_101 ?_
        refine xw_aload_n d_M_isEnough_102 rfl rfl ?_
        obtain ⟨f15, a16, hA, hB, hw⟩ := hw
        refine xw_getr fr_M_58 d_M_isEnough_103 hA hB ?_
        refine xw_iload_n d_M_isEnough_106 rfl rfl ?_
        obtain ⟨ar25, x17, hA, hB, hC, hw⟩ := hw
        refine xw_iaload (t := 0) rfl d_M_isEnough_107 hA hB hC ?_
        refine xw_iadd d_M_isEnough_108 ?_
        obtain ⟨ar24, x18, hA, hB, hC, hw⟩ := hw
        refine xw_iaload (t := 0) rfl d_M_isEnough_109 hA hB hC ?_
        refine xs_istore_n (lv' := [some (.ref (this)), some (.int (p1)), some (.int (x3)), some (.int (x18)), none, none, none, none]) d_M_isEnough_110 rfl rfl rfl ?_
        refine xw_iload_n d_M_isEnough_111 rfl rfl ?_
        refine xw_iload_n d_M_isEnough_112 rfl rfl ?_
        refine xw_iand d_M_isEnough_113 ?_
        refine xw_sipush (v := 255) d_M_isEnough_114 (by decide) ?_
        refine xw_iand d_M_isEnough_117 ?_
        refine xc_S1i lk_M_185 st_M_many d_M_isEnough_118 (x_M_many hw) rfl rfl ?_
        intro x20 h19 hw
        refine xw_iload_n d_M_isEnough_121 rfl rfl ?_
        refine xc_S1i lk_M_191 st_M_stores d_M_isEnough_122 (x_M_stores hw) rfl rfl ?_
        intro x22 h21 hw
        refine xw_icmp_lt (tgt := 132) d_M_isEnough_125 (by decide) (fun c23 => ?_) (fun c23 => ?_)
        · have hw := hw.1 c23
          refine xw_iconst (v := 0) d_M_isEnough_132 (by decide) ?_
          exact xw_zreturn rfl hw.1 d_M_isEnough_133 hw.2
        · have hw := hw.2 c23
          refine xw_iconst (v := 1) d_M_isEnough_128 (by decide) ?_
          refine xw_goto (tgt := 133) d_M_isEnough_129 (by decide) ?_
          exact xw_zreturn rfl hw.1 d_M_isEnough_133 hw.2
  · have hw := hw.2 c49
    refine xw_aload_n d_M_isEnough_17 rfl rfl ?_
    obtain ⟨f30, a31, hA, hB, hw⟩ := hw
    refine xw_getr fr_M_37 d_M_isEnough_18 hA hB ?_
    refine xw_bipush (v := 16) d_M_isEnough_21 (by decide) ?_
    refine xw_iload_n d_M_isEnough_23 rfl rfl ?_
    refine xw_imul d_M_isEnough_24 ?_
    refine xw_aload_n d_M_isEnough_25 rfl rfl ?_
    obtain ⟨f32, a33, hA, hB, hw⟩ := hw
    refine xw_getr fr_M_79 d_M_isEnough_26 hA hB ?_
    refine xw_iload_n d_M_isEnough_29 rfl rfl ?_
    obtain ⟨ar48, x34, hA, hB, hC, hw⟩ := hw
    refine xw_iaload (t := 0) rfl d_M_isEnough_30 hA hB hC ?_
    refine xw_iadd d_M_isEnough_31 ?_
    obtain ⟨ar47, x35, hA, hB, hC, hw⟩ := hw
    refine xw_iaload (t := 0) rfl d_M_isEnough_32 hA hB hC ?_
    refine xs_istore_n (lv' := [some (.ref (this)), some (.int (p1)), some (.int (x3)), some (.int (x35)), none, none, none, none]) d_M_isEnough_33 rfl rfl rfl ?_
    refine xw_iload_n d_M_isEnough_34 rfl rfl ?_
    refine xw_iload_n d_M_isEnough_35 rfl rfl ?_
    refine xw_iand d_M_isEnough_36 ?_
    refine xw_sipush (v := 255) d_M_isEnough_37 (by decide) ?_
    refine xw_iand d_M_isEnough_40 ?_
    refine xc_S1i lk_M_185 st_M_many d_M_isEnough_41 (x_M_many hw) rfl rfl ?_
    intro x37 h36 hw
    refine xw_aload_n d_M_isEnough_44 rfl rfl ?_
    obtain ⟨f38, a39, hA, hB, hw⟩ := hw
    refine xw_getr fr_M_55 d_M_isEnough_45 hA hB ?_
    refine xw_iload_n d_M_isEnough_48 rfl rfl ?_
    obtain ⟨ar46, x40, hA, hB, hC, hw⟩ := hw
    refine xw_iaload (t := 0) rfl d_M_isEnough_49 hA hB hC ?_
    refine xw_iconst (v := 1) d_M_isEnough_50 (by decide) ?_
    refine xw_icmp_ne (tgt := 61) d_M_isEnough_51 (by decide) (fun c45 => ?_) (fun c45 => ?_)
    · have hw := hw.1 c45
      refine xw_iload_n d_M_isEnough_61 rfl rfl ?_
      refine xc_S1i lk_M_191 st_M_stores d_M_isEnough_62 (x_M_stores hw) rfl rfl ?_
      intro x42 h41 hw
      exact p_M_isEnough_65  (this) (p1) (x3) (x35) (x42) (x37) h41 hw
    · have hw := hw.2 c45
      refine xw_iload_n d_M_isEnough_54 rfl rfl ?_
      refine xc_S1i lk_M_188 st_M_reads d_M_isEnough_55 (x_M_reads hw) rfl rfl ?_
      intro x44 h43 hw
      refine xw_goto (tgt := 65) d_M_isEnough_58 (by decide) ?_
      exact p_M_isEnough_65  (this) (p1) (x3) (x35) (x44) (x37) h43 hw
set_option maxRecDepth 100000 in
def w_M_many16_4 (Q : Option Value → xH → Prop) : Nat → Int32 → Int32 → Int32 → xH → Prop
  | 0, _, _, _, _ => False
  | n + 1, l0, l1, l2, h => ((16 ≤ l2 → Q (some (.int l1)) h) ∧ (¬ 16 ≤ l2 → w_M_many16_4 Q n (l0) (l1 + ((l0 >>> (l2 &&& 31)) &&& 1)) (l2 + 1) h))
set_option maxRecDepth 100000 in
set_option maxHeartbeats 4000000 in
theorem p_M_many16_4 {sc : List Int32} {Q : Option Value → xH → Prop} : ∀ (n : Nat) (l0 : Int32) (l1 : Int32) (l2 : Int32) (h : xH), w_M_many16_4 Q n l0 l1 l2 h → xW sc m_M_many16 0 0 0 4 [some (.int (l0)), some (.int (l1)), some (.int (l2))] [] h Q := by
  intro n
  induction n with
  | zero => intro l0 l1 l2 h hw; exact False.elim hw
  | succ n ih =>
    intro l0 l1 l2 h hw
    rw [w_M_many16_4] at hw
    refine xw_iload_n d_M_many16_4 rfl rfl ?_
    refine xw_bipush (v := 16) d_M_many16_5 (by decide) ?_
    refine xw_icmp_ge (tgt := 24) d_M_many16_7 (by decide) (fun c1 => ?_) (fun c1 => ?_)
    · have hw := hw.1 c1
      refine xw_iload_n d_M_many16_24 rfl rfl ?_
      exact xw_ireturn rfl d_M_many16_25 hw
    · have hw := hw.2 c1
      refine xw_iload_n d_M_many16_10 rfl rfl ?_
      refine xw_iload_n d_M_many16_11 rfl rfl ?_
      refine xw_iload_n d_M_many16_12 rfl rfl ?_
      refine xw_ishr d_M_many16_13 ?_
      refine xw_iconst (v := 1) d_M_many16_14 (by decide) ?_
      refine xw_iand d_M_many16_15 ?_
      refine xw_iadd d_M_many16_16 ?_
      refine xs_istore_n (lv' := [some (.int (l0)), some (.int (l1 + ((l0 >>> (l2 &&& 31)) &&& 1))), some (.int (l2))]) d_M_many16_17 rfl rfl rfl ?_
      refine xs_iinc (v := l2 + 1) (lv' := [some (.int (l0)), some (.int (l1 + ((l0 >>> (l2 &&& 31)) &&& 1))), some (.int (l2 + 1))]) d_M_many16_18 rfl rfl rfl ?_
      refine xw_goto (tgt := 4) d_M_many16_21 (by decide) ?_
      exact ih (l0) (l1 + ((l0 >>> (l2 &&& 31)) &&& 1)) (l2 + 1) h hw
set_option maxRecDepth 100000 in
def w_M_many16 (Q : Option Value → xH → Prop) (p1 : Int32) (h : xH) : Prop := ∃ n1, w_M_many16_4 Q n1 (p1) (0) (0) h
set_option maxRecDepth 100000 in
set_option maxHeartbeats 4000000 in
theorem x_M_many16 {sc : List Int32} {Q : Option Value → xH → Prop} {p1 : Int32} {h : xH} (hw : w_M_many16 Q p1 h) : xMet sc m_M_many16 0 0 0 [.int (p1)] h Q := by
  unfold w_M_many16 at hw
  refine xMet.of2 cw_M_many16 rfl rfl ?_
  show xW sc m_M_many16 0 0 0 0 [some (.int (p1)), none, none] [] h Q
  refine xw_iconst (v := 0) d_M_many16_0 (by decide) ?_
  refine xs_istore_n (lv' := [some (.int (p1)), some (.int (0)), none]) d_M_many16_1 rfl rfl rfl ?_
  refine xw_iconst (v := 0) d_M_many16_2 (by decide) ?_
  refine xs_istore_n (lv' := [some (.int (p1)), some (.int (0)), some (.int (0))]) d_M_many16_3 rfl rfl rfl ?_
  obtain ⟨n1, hw⟩ := hw
  exact p_M_many16_4  n1 (p1) (0) (0) h hw
set_option maxRecDepth 100000 in
def w_M_proposed_35 (Q : Option Value → xH → Prop) (l0 : Nat) (l1 : Int32) (s0 : Int32) (s1 : Int32) (s2 : Nat) (h : xH) : Prop := ∃ ar1, h.2 s2 = some (.inl (0, .inl ar1)) ∧ 0 ≤ s1 ∧ s1.toNatClampNeg < ar1.length ∧ ∀ h2, h2 = xu h s2 (.inl (0, .inl (ar1.set s1.toNatClampNeg s0))) → ∃ (f3 : List Value) (a4 : Nat), h2.2 l0 = some (.inr (8, f3)) ∧ f3[17]? = some (.ref a4) ∧ ∃ ar5, h2.2 a4 = some (.inl (0, .inl ar5)) ∧ 0 ≤ l1 ∧ l1.toNatClampNeg < ar5.length ∧ ∀ h6, h6 = xu h2 a4 (.inl (0, .inl (ar5.set l1.toNatClampNeg 0))) → Q none h6
set_option maxRecDepth 100000 in
set_option maxHeartbeats 4000000 in
theorem p_M_proposed_35 {sc : List Int32} {Q : Option Value → xH → Prop} (l0 : Nat) (l1 : Int32) (s0 : Int32) (s1 : Int32) (s2 : Nat) (h : xH) (hw : w_M_proposed_35 Q l0 l1 s0 s1 s2 h) : xW sc m_M_proposed 0 0 0 35 [some (.ref (l0)), some (.int (l1))] [.int (s0), .int (s1), .ref (s2)] h Q := by
  unfold w_M_proposed_35 at hw
  obtain ⟨ar1, hA, hB, hC, hw⟩ := hw
  refine xw_iastore (t := 0) rfl d_M_proposed_35 hA hB hC ?_
  generalize hh : xu h s2 (.inl (0, .inl (ar1.set s1.toNatClampNeg s0))) = h2
  have hw := hw h2 hh.symm
  refine xw_aload_n d_M_proposed_36 rfl rfl ?_
  obtain ⟨f3, a4, hA, hB, hw⟩ := hw
  refine xw_getr fr_M_55 d_M_proposed_37 hA hB ?_
  refine xw_iload_n d_M_proposed_40 rfl rfl ?_
  refine xw_iconst (v := 0) d_M_proposed_41 (by decide) ?_
  obtain ⟨ar5, hA, hB, hC, hw⟩ := hw
  refine xw_iastore (t := 0) rfl d_M_proposed_42 hA hB hC ?_
  generalize hh : xu h2 a4 (.inl (0, .inl (ar5.set l1.toNatClampNeg 0))) = h6
  have hw := hw h6 hh.symm
  exact xw_return rfl d_M_proposed_43 hw
set_option maxRecDepth 100000 in
def w_M_proposed (Q : Option Value → xH → Prop) (this : Nat) (p1 : Int32) (h : xH) : Prop := ∃ (f1 : List Value) (a2 : Nat), h.2 this = some (.inr (8, f1)) ∧ f1[19]? = some (.ref a2) ∧ ∃ (f3 : List Value) (a4 : Nat), h.2 this = some (.inr (8, f3)) ∧ f3[10]? = some (.ref a4) ∧ ∃ (f5 : List Value) (a6 : Nat), h.2 this = some (.inr (8, f5)) ∧ f5[18]? = some (.ref a6) ∧ ∃ (ar15 : List Int32) (x7 : Int32), h.2 a6 = some (.inl (0, .inl ar15)) ∧ 0 ≤ p1 ∧ ar15[p1.toNatClampNeg]? = some x7 ∧ ∃ (ar14 : List Int32) (x8 : Int32), h.2 a4 = some (.inl (0, .inl ar14)) ∧ 0 ≤ ((16 * p1) + x7 : Int32) ∧ ar14[((16 * p1) + x7 : Int32).toNatClampNeg]? = some x8 ∧ ∃ (f9 : List Value) (a10 : Nat), h.2 this = some (.inr (8, f9)) ∧ f9[22]? = some (.ref a10) ∧ ∃ (ar13 : List Int32) (x11 : Int32), h.2 a10 = some (.inl (0, .inl ar13)) ∧ 0 ≤ p1 ∧ ar13[p1.toNatClampNeg]? = some x11 ∧ ((¬ x8 = x11 → w_M_proposed_35 Q (this) (p1) (0) (p1) (a2) h) ∧ (x8 = x11 → w_M_proposed_35 Q (this) (p1) (1) (p1) (a2) h))
set_option maxRecDepth 100000 in
set_option maxHeartbeats 4000000 in
theorem x_M_proposed {sc : List Int32} {Q : Option Value → xH → Prop} {this : Nat} {p1 : Int32} {h : xH} (hw : w_M_proposed Q this p1 h) : xMet sc m_M_proposed 0 0 0 [.ref (this), .int (p1)] h Q := by
  unfold w_M_proposed at hw
  refine xMet.of2 cw_M_proposed rfl rfl ?_
  show xW sc m_M_proposed 0 0 0 0 [some (.ref (this)), some (.int (p1))] [] h Q
  refine xw_aload_n d_M_proposed_0 rfl rfl ?_
  obtain ⟨f1, a2, hA, hB, hw⟩ := hw
  refine xw_getr fr_M_61 d_M_proposed_1 hA hB ?_
  refine xw_iload_n d_M_proposed_4 rfl rfl ?_
  refine xw_aload_n d_M_proposed_5 rfl rfl ?_
  obtain ⟨f3, a4, hA, hB, hw⟩ := hw
  refine xw_getr fr_M_37 d_M_proposed_6 hA hB ?_
  refine xw_bipush (v := 16) d_M_proposed_9 (by decide) ?_
  refine xw_iload_n d_M_proposed_11 rfl rfl ?_
  refine xw_imul d_M_proposed_12 ?_
  refine xw_aload_n d_M_proposed_13 rfl rfl ?_
  obtain ⟨f5, a6, hA, hB, hw⟩ := hw
  refine xw_getr fr_M_58 d_M_proposed_14 hA hB ?_
  refine xw_iload_n d_M_proposed_17 rfl rfl ?_
  obtain ⟨ar15, x7, hA, hB, hC, hw⟩ := hw
  refine xw_iaload (t := 0) rfl d_M_proposed_18 hA hB hC ?_
  refine xw_iadd d_M_proposed_19 ?_
  obtain ⟨ar14, x8, hA, hB, hC, hw⟩ := hw
  refine xw_iaload (t := 0) rfl d_M_proposed_20 hA hB hC ?_
  refine xw_aload_n d_M_proposed_21 rfl rfl ?_
  obtain ⟨f9, a10, hA, hB, hw⟩ := hw
  refine xw_getr fr_M_70 d_M_proposed_22 hA hB ?_
  refine xw_iload_n d_M_proposed_25 rfl rfl ?_
  obtain ⟨ar13, x11, hA, hB, hC, hw⟩ := hw
  refine xw_iaload (t := 0) rfl d_M_proposed_26 hA hB hC ?_
  refine xw_icmp_ne (tgt := 34) d_M_proposed_27 (by decide) (fun c12 => ?_) (fun c12 => ?_)
  · have hw := hw.1 c12
    refine xw_iconst (v := 0) d_M_proposed_34 (by decide) ?_
    exact p_M_proposed_35  (this) (p1) (0) (p1) (a2) h hw
  · have hw := hw.2 c12
    refine xw_iconst (v := 1) d_M_proposed_30 (by decide) ?_
    refine xw_goto (tgt := 35) d_M_proposed_31 (by decide) ?_
    exact p_M_proposed_35  (this) (p1) (1) (p1) (a2) h hw
set_option maxRecDepth 100000 in
def w_M_ends_164 (Q : Option Value → xH → Prop) (l0 : Nat) (l1 : Int32) (h : xH) : Prop := ∃ (f1 : List Value) (a2 : Nat), h.2 l0 = some (.inr (8, f1)) ∧ f1[17]? = some (.ref a2) ∧ ∃ ar3, h.2 a2 = some (.inl (0, .inl ar3)) ∧ 0 ≤ l1 ∧ l1.toNatClampNeg < ar3.length ∧ ∀ h4, h4 = xu h a2 (.inl (0, .inl (ar3.set l1.toNatClampNeg 0))) → Q none h4
set_option maxRecDepth 100000 in
set_option maxHeartbeats 4000000 in
theorem p_M_ends_164 {sc : List Int32} {Q : Option Value → xH → Prop} (l0 : Nat) (l1 : Int32) (h : xH) (hw : w_M_ends_164 Q l0 l1 h) : xW sc m_M_ends 3 0 0 164 [some (.ref (l0)), some (.int (l1)), none, none] [] h Q := by
  unfold w_M_ends_164 at hw
  refine xw_aload_n d_M_ends_164 rfl rfl ?_
  obtain ⟨f1, a2, hA, hB, hw⟩ := hw
  refine xw_getr fr_M_55 d_M_ends_165 hA hB ?_
  refine xw_iload_n d_M_ends_168 rfl rfl ?_
  refine xw_iconst (v := 0) d_M_ends_169 (by decide) ?_
  obtain ⟨ar3, hA, hB, hC, hw⟩ := hw
  refine xw_iastore (t := 0) rfl d_M_ends_170 hA hB hC ?_
  generalize hh : xu h a2 (.inl (0, .inl (ar3.set l1.toNatClampNeg 0))) = h4
  have hw := hw h4 hh.symm
  exact xw_return rfl d_M_ends_171 hw
set_option maxRecDepth 100000 in
def w_M_ends_140 (Q : Option Value → xH → Prop) (l0 : Nat) (l1 : Int32) (l2 : Int32) (h : xH) : Prop := (∃ f2, h.2 l0 = some (.inr (8, f2))) ∧ w_M_isUp (fun v h1 => ∃ (x3 : Int32), v = some (.int x3) ∧ ((¬ x3 = 0 → ∃ (f4 : List Value) (a5 : Nat), h1.2 l0 = some (.inr (8, f4)) ∧ f4[19]? = some (.ref a5) ∧ ∃ (f6 : List Value) (a7 : Nat), h1.2 l0 = some (.inr (8, f6)) ∧ f6[23]? = some (.ref a7) ∧ ∃ (ar13 : List Int32) (x8 : Int32), h1.2 a7 = some (.inl (0, .inl ar13)) ∧ 0 ≤ l1 ∧ ar13[l1.toNatClampNeg]? = some x8 ∧ w_M_many16 (fun v h9 => ∃ (x10 : Int32), v = some (.int x10) ∧ ∃ ar11, h9.2 a5 = some (.inl (0, .inl ar11)) ∧ 0 ≤ l1 ∧ l1.toNatClampNeg < ar11.length ∧ ∀ h12, h12 = xu h9 a5 (.inl (0, .inl (ar11.set l1.toNatClampNeg x10))) → w_M_ends_164 Q (l0) (l1) h12) x8 h1) ∧ (x3 = 0 → Q none h1))) l0 l1 h
set_option maxRecDepth 100000 in
set_option maxHeartbeats 4000000 in
theorem p_M_ends_140 {sc : List Int32} {Q : Option Value → xH → Prop} (l0 : Nat) (l1 : Int32) (l2 : Int32) (h : xH) (hw : w_M_ends_140 Q l0 l1 l2 h) : xW sc m_M_ends 3 0 0 140 [some (.ref (l0)), some (.int (l1)), some (.int (l2)), none] [] h Q := by
  unfold w_M_ends_140 at hw
  refine xw_aload_n d_M_ends_140 rfl rfl ?_
  refine xw_iload_n d_M_ends_141 rfl rfl ?_
  obtain ⟨⟨f2, hA⟩, hw⟩ := hw
  refine xc_V1i lk_M_111 in_M_isUp d_M_ends_142 (x_M_isUp hw) rfl hA rfl ?_
  intro x3 h1 hw
  refine xw_if_ne (tgt := 149) d_M_ends_145 (by decide) (fun c14 => ?_) (fun c14 => ?_)
  · have hw := hw.1 c14
    refine xw_aload_n d_M_ends_149 rfl rfl ?_
    obtain ⟨f4, a5, hA, hB, hw⟩ := hw
    refine xw_getr fr_M_61 d_M_ends_150 hA hB ?_
    refine xw_iload_n d_M_ends_153 rfl rfl ?_
    refine xw_aload_n d_M_ends_154 rfl rfl ?_
    obtain ⟨f6, a7, hA, hB, hw⟩ := hw
    refine xw_getr fr_M_73 d_M_ends_155 hA hB ?_
    refine xw_iload_n d_M_ends_158 rfl rfl ?_
    obtain ⟨ar13, x8, hA, hB, hC, hw⟩ := hw
    refine xw_iaload (t := 0) rfl d_M_ends_159 hA hB hC ?_
    refine xc_S1i lk_M_213 st_M_many16 d_M_ends_160 (x_M_many16 hw) rfl rfl ?_
    intro x10 h9 hw
    obtain ⟨ar11, hA, hB, hC, hw⟩ := hw
    refine xw_iastore (t := 0) rfl d_M_ends_163 hA hB hC ?_
    generalize hh : xu h9 a5 (.inl (0, .inl (ar11.set l1.toNatClampNeg x10))) = h12
    have hw := hw h12 hh.symm
    refine xs_drop (lv' := [some (.ref (l0)), some (.int (l1)), none, none]) 2 rfl ?_
    exact p_M_ends_164  (l0) (l1) h12 hw
  · have hw := hw.2 c14
    exact xw_return rfl d_M_ends_148 hw
set_option maxRecDepth 100000 in
def w_M_ends_134 (Q : Option Value → xH → Prop) (L76 : Nat → Int32 → Int32 → xH → Prop) (l0 : Nat) (l1 : Int32) (l2 : Int32) (l3 : Int32) (h : xH) : Prop := L76 (l0) (l1) (l2 + 1) h
set_option maxRecDepth 100000 in
set_option maxHeartbeats 4000000 in
theorem p_M_ends_134 {sc : List Int32} {Q : Option Value → xH → Prop} {L76 : Nat → Int32 → Int32 → xH → Prop} (hL76 : ∀ l0 l1 l2 h, L76 l0 l1 l2 h → xW sc m_M_ends 3 0 0 76 [some (.ref (l0)), some (.int (l1)), some (.int (l2)), none] [] h Q) (l0 : Nat) (l1 : Int32) (l2 : Int32) (l3 : Int32) (h : xH) (hw : w_M_ends_134 Q L76 l0 l1 l2 l3 h) : xW sc m_M_ends 3 0 0 134 [some (.ref (l0)), some (.int (l1)), some (.int (l2)), some (.int (l3))] [] h Q := by
  unfold w_M_ends_134 at hw
  refine xs_iinc (v := l2 + 1) (lv' := [some (.ref (l0)), some (.int (l1)), some (.int (l2 + 1)), some (.int (l3))]) d_M_ends_134 rfl rfl rfl ?_
  refine xw_goto (tgt := 76) d_M_ends_137 (by decide) ?_
  refine xs_drop (lv' := [some (.ref (l0)), some (.int (l1)), some (.int (l2 + 1)), none]) 3 rfl ?_
  exact hL76 (l0) (l1) (l2 + 1) h hw
set_option maxRecDepth 100000 in
def w_M_ends_76 (Q : Option Value → xH → Prop) : Nat → Nat → Int32 → Int32 → xH → Prop
  | 0, _, _, _, _ => False
  | n + 1, l0, l1, l2, h => ((16 ≤ l2 → w_M_ends_140 Q (l0) (l1) (l2) h) ∧ (¬ 16 ≤ l2 → (∃ f2, h.2 l0 = some (.inr (8, f2))) ∧ w_M_isUp (fun v h1 => ∃ (x3 : Int32), v = some (.int x3) ∧ ((x3 = 0 → w_M_ends_140 Q (l0) (l1) (l2) h1) ∧ (¬ x3 = 0 → ∃ (f4 : List Value) (a5 : Nat), h1.2 l0 = some (.inr (8, f4)) ∧ f4[23]? = some (.ref a5) ∧ ∃ (ar19 : List Int32) (x6 : Int32), h1.2 a5 = some (.inl (0, .inl ar19)) ∧ 0 ≤ l1 ∧ ar19[l1.toNatClampNeg]? = some x6 ∧ ((¬ ((x6 >>> (l2 &&& 31)) &&& 1) = 1 → w_M_ends_134 Q (fun y0 y1 y2 yh => w_M_ends_76 Q n y0 y1 y2 yh) (l0) (l1) (l2) ((16 * l1) + l2) h1) ∧ (((x6 >>> (l2 &&& 31)) &&& 1) = 1 → ∃ (f7 : List Value) (a8 : Nat), h1.2 l0 = some (.inr (8, f7)) ∧ f7[9]? = some (.ref a8) ∧ ∃ (ar17 : List Int32) (x9 : Int32), h1.2 a8 = some (.inl (0, .inl ar17)) ∧ 0 ≤ ((16 * l1) + l2 : Int32) ∧ ar17[((16 * l1) + l2 : Int32).toNatClampNeg]? = some x9 ∧ ((¬ x9 = 1 → w_M_ends_134 Q (fun y0 y1 y2 yh => w_M_ends_76 Q n y0 y1 y2 yh) (l0) (l1) (l2) ((16 * l1) + l2) h1) ∧ (x9 = 1 → ∃ (f10 : List Value) (a11 : Nat), h1.2 l0 = some (.inr (8, f10)) ∧ f10[10]? = some (.ref a11) ∧ ∃ (ar15 : List Int32) (x12 : Int32), h1.2 a11 = some (.inl (0, .inl ar15)) ∧ 0 ≤ ((16 * l1) + l2 : Int32) ∧ ar15[((16 * l1) + l2 : Int32).toNatClampNeg]? = some x12 ∧ (∃ f14, h1.2 l0 = some (.inr (8, f14))) ∧ w_M_writeMap (fun v h13 => v = none ∧ w_M_ends_134 Q (fun y0 y1 y2 yh => w_M_ends_76 Q n y0 y1 y2 yh) (l0) (l1) (l2) ((16 * l1) + l2) h13) l0 l1 l2 2 x12 h1))))))) l0 l1 h))
set_option maxRecDepth 100000 in
set_option maxHeartbeats 4000000 in
theorem p_M_ends_76 {sc : List Int32} {Q : Option Value → xH → Prop} : ∀ (n : Nat) (l0 : Nat) (l1 : Int32) (l2 : Int32) (h : xH), w_M_ends_76 Q n l0 l1 l2 h → xW sc m_M_ends 3 0 0 76 [some (.ref (l0)), some (.int (l1)), some (.int (l2)), none] [] h Q := by
  intro n
  induction n with
  | zero => intro l0 l1 l2 h hw; exact False.elim hw
  | succ n ih =>
    intro l0 l1 l2 h hw
    rw [w_M_ends_76] at hw
    refine xw_iload_n d_M_ends_76 rfl rfl ?_
    refine xw_bipush (v := 16) d_M_ends_77 (by decide) ?_
    refine xw_icmp_ge (tgt := 140) d_M_ends_79 (by decide) (fun c21 => ?_) (fun c21 => ?_)
    · have hw := hw.1 c21
      exact p_M_ends_140  (l0) (l1) (l2) h hw
    · have hw := hw.2 c21
      refine xw_aload_n d_M_ends_82 rfl rfl ?_
      refine xw_iload_n d_M_ends_83 rfl rfl ?_
      obtain ⟨⟨f2, hA⟩, hw⟩ := hw
      refine xc_V1i lk_M_111 in_M_isUp d_M_ends_84 (x_M_isUp hw) rfl hA rfl ?_
      intro x3 h1 hw
      refine xw_if_eq (tgt := 140) d_M_ends_87 (by decide) (fun c20 => ?_) (fun c20 => ?_)
      · have hw := hw.1 c20
        exact p_M_ends_140  (l0) (l1) (l2) h1 hw
      · have hw := hw.2 c20
        refine xw_bipush (v := 16) d_M_ends_90 (by decide) ?_
        refine xw_iload_n d_M_ends_92 rfl rfl ?_
        refine xw_imul d_M_ends_93 ?_
        refine xw_iload_n d_M_ends_94 rfl rfl ?_
        refine xw_iadd d_M_ends_95 ?_
        refine xs_istore_n (lv' := [some (.ref (l0)), some (.int (l1)), some (.int (l2)), some (.int ((16 * l1) + l2))]) d_M_ends_96 rfl rfl rfl ?_
        refine xw_aload_n d_M_ends_97 rfl rfl ?_
        obtain ⟨f4, a5, hA, hB, hw⟩ := hw
        refine xw_getr fr_M_73 d_M_ends_98 hA hB ?_
        refine xw_iload_n d_M_ends_101 rfl rfl ?_
        obtain ⟨ar19, x6, hA, hB, hC, hw⟩ := hw
        refine xw_iaload (t := 0) rfl d_M_ends_102 hA hB hC ?_
        refine xw_iload_n d_M_ends_103 rfl rfl ?_
        refine xw_ishr d_M_ends_104 ?_
        refine xw_iconst (v := 1) d_M_ends_105 (by decide) ?_
        refine xw_iand d_M_ends_106 ?_
        refine xw_iconst (v := 1) d_M_ends_107 (by decide) ?_
        refine xw_icmp_ne (tgt := 134) d_M_ends_108 (by decide) (fun c18 => ?_) (fun c18 => ?_)
        · have hw := hw.1 c18
          exact p_M_ends_134 ih (l0) (l1) (l2) ((16 * l1) + l2) h1 hw
        · have hw := hw.2 c18
          refine xw_aload_n d_M_ends_111 rfl rfl ?_
          obtain ⟨f7, a8, hA, hB, hw⟩ := hw
          refine xw_getr fr_M_34 d_M_ends_112 hA hB ?_
          refine xw_iload_n d_M_ends_115 rfl rfl ?_
          obtain ⟨ar17, x9, hA, hB, hC, hw⟩ := hw
          refine xw_iaload (t := 0) rfl d_M_ends_116 hA hB hC ?_
          refine xw_iconst (v := 1) d_M_ends_117 (by decide) ?_
          refine xw_icmp_ne (tgt := 134) d_M_ends_118 (by decide) (fun c16 => ?_) (fun c16 => ?_)
          · have hw := hw.1 c16
            exact p_M_ends_134 ih (l0) (l1) (l2) ((16 * l1) + l2) h1 hw
          · have hw := hw.2 c16
            refine xw_aload_n d_M_ends_121 rfl rfl ?_
            refine xw_iload_n d_M_ends_122 rfl rfl ?_
            refine xw_iload_n d_M_ends_123 rfl rfl ?_
            refine xw_iconst (v := 2) d_M_ends_124 (by decide) ?_
            refine xw_aload_n d_M_ends_125 rfl rfl ?_
            obtain ⟨f10, a11, hA, hB, hw⟩ := hw
            refine xw_getr fr_M_37 d_M_ends_126 hA hB ?_
            refine xw_iload_n d_M_ends_129 rfl rfl ?_
            obtain ⟨ar15, x12, hA, hB, hC, hw⟩ := hw
            refine xw_iaload (t := 0) rfl d_M_ends_130 hA hB hC ?_
            obtain ⟨⟨f14, hA⟩, hw⟩ := hw
            refine xc_V4n lk_M_206 in_M_writeMap d_M_ends_131 (x_M_writeMap hw) rfl hA rfl ?_
            intro h13 hw
            exact p_M_ends_134 ih (l0) (l1) (l2) ((16 * l1) + l2) h13 hw
set_option maxRecDepth 100000 in
def w_M_ends (Q : Option Value → xH → Prop) (this : Nat) (p1 : Int32) (h : xH) : Prop := ∃ (f1 : List Value) (a2 : Nat), h.2 this = some (.inr (8, f1)) ∧ f1[16]? = some (.ref a2) ∧ ∃ (ar37 : List Int32) (x3 : Int32), h.2 a2 = some (.inl (0, .inl ar37)) ∧ 0 ≤ p1 ∧ ar37[p1.toNatClampNeg]? = some x3 ∧ ((¬ x3 = 3 → (∃ f5, h.2 this = some (.inr (8, f5))) ∧ w_M_isData (fun v h4 => ∃ (x6 : Int32), v = some (.int x6) ∧ ((x6 = 0 → ∃ n7, w_M_ends_76 Q n7 (this) (p1) (0) h4) ∧ (¬ x6 = 0 → ∃ (f8 : List Value) (a9 : Nat), h4.2 this = some (.inr (8, f8)) ∧ f8[19]? = some (.ref a9) ∧ ∃ (f10 : List Value) (a11 : Nat), h4.2 this = some (.inr (8, f10)) ∧ f10[30]? = some (.ref a11) ∧ ∃ (f12 : List Value) (a13 : Nat), h4.2 this = some (.inr (8, f12)) ∧ f12[18]? = some (.ref a13) ∧ ∃ (ar19 : List Int32) (x14 : Int32), h4.2 a13 = some (.inl (0, .inl ar19)) ∧ 0 ≤ p1 ∧ ar19[p1.toNatClampNeg]? = some x14 ∧ ∃ (ar18 : List Int32) (x15 : Int32), h4.2 a11 = some (.inl (0, .inl ar18)) ∧ 0 ≤ ((4 * p1) + x14 : Int32) ∧ ar18[((4 * p1) + x14 : Int32).toNatClampNeg]? = some x15 ∧ ∃ ar16, h4.2 a9 = some (.inl (0, .inl ar16)) ∧ 0 ≤ p1 ∧ p1.toNatClampNeg < ar16.length ∧ ∀ h17, h17 = xu h4 a9 (.inl (0, .inl (ar16.set p1.toNatClampNeg x15))) → w_M_ends_164 Q (this) (p1) h17))) this p1 h) ∧ (x3 = 3 → ∃ (f21 : List Value) (a22 : Nat), h.2 this = some (.inr (8, f21)) ∧ f21[18]? = some (.ref a22) ∧ ∃ (ar35 : List Int32) (x23 : Int32), h.2 a22 = some (.inl (0, .inl ar35)) ∧ 0 ≤ p1 ∧ ar35[p1.toNatClampNeg]? = some x23 ∧ (∃ f25, h.2 this = some (.inr (8, f25))) ∧ w_M_chosen (fun v h24 => ∃ (x26 : Int32), v = some (.int x26) ∧ (∃ f28, h24.2 this = some (.inr (8, f28))) ∧ w_M_writeMap (fun v h27 => v = none ∧ (∃ f30, h27.2 this = some (.inr (8, f30))) ∧ w_M_isUp (fun v h29 => ∃ (x31 : Int32), v = some (.int x31) ∧ ((¬ x31 = 0 → (∃ f33, h29.2 this = some (.inr (8, f33))) ∧ w_M_proposed (fun v h32 => v = none ∧ Q none h32) this p1 h29) ∧ (x31 = 0 → Q none h29))) this p1 h27) this p1 x23 1 x26 h24) this p1 h))
set_option maxRecDepth 100000 in
set_option maxHeartbeats 4000000 in
theorem x_M_ends {sc : List Int32} {Q : Option Value → xH → Prop} {this : Nat} {p1 : Int32} {h : xH} (hw : w_M_ends Q this p1 h) : xMet sc m_M_ends 3 0 0 [.ref (this), .int (p1)] h Q := by
  unfold w_M_ends at hw
  refine xMet.of2 cw_M_ends rfl rfl ?_
  show xW sc m_M_ends 3 0 0 0 [some (.ref (this)), some (.int (p1)), none, none] [] h Q
  refine xw_aload_n d_M_ends_0 rfl rfl ?_
  obtain ⟨f1, a2, hA, hB, hw⟩ := hw
  refine xw_getr fr_M_52 d_M_ends_1 hA hB ?_
  refine xw_iload_n d_M_ends_4 rfl rfl ?_
  obtain ⟨ar37, x3, hA, hB, hC, hw⟩ := hw
  refine xw_iaload (t := 0) rfl d_M_ends_5 hA hB hC ?_
  refine xw_iconst (v := 3) d_M_ends_6 (by decide) ?_
  refine xw_icmp_ne (tgt := 42) d_M_ends_7 (by decide) (fun c36 => ?_) (fun c36 => ?_)
  · have hw := hw.1 c36
    refine xw_aload_n d_M_ends_42 rfl rfl ?_
    refine xw_iload_n d_M_ends_43 rfl rfl ?_
    obtain ⟨⟨f5, hA⟩, hw⟩ := hw
    refine xc_V1i lk_M_135 in_M_isData d_M_ends_44 (x_M_isData hw) rfl hA rfl ?_
    intro x6 h4 hw
    refine xw_if_eq (tgt := 74) d_M_ends_47 (by decide) (fun c20 => ?_) (fun c20 => ?_)
    · have hw := hw.1 c20
      refine xw_iconst (v := 0) d_M_ends_74 (by decide) ?_
      refine xs_istore_n (lv' := [some (.ref (this)), some (.int (p1)), some (.int (0)), none]) d_M_ends_75 rfl rfl rfl ?_
      obtain ⟨n7, hw⟩ := hw
      exact p_M_ends_76  n7 (this) (p1) (0) h4 hw
    · have hw := hw.2 c20
      refine xw_aload_n d_M_ends_50 rfl rfl ?_
      obtain ⟨f8, a9, hA, hB, hw⟩ := hw
      refine xw_getr fr_M_61 d_M_ends_51 hA hB ?_
      refine xw_iload_n d_M_ends_54 rfl rfl ?_
      refine xw_aload_n d_M_ends_55 rfl rfl ?_
      obtain ⟨f10, a11, hA, hB, hw⟩ := hw
      refine xw_getr fr_M_94 d_M_ends_56 hA hB ?_
      refine xw_iconst (v := 4) d_M_ends_59 (by decide) ?_
      refine xw_iload_n d_M_ends_60 rfl rfl ?_
      refine xw_imul d_M_ends_61 ?_
      refine xw_aload_n d_M_ends_62 rfl rfl ?_
      obtain ⟨f12, a13, hA, hB, hw⟩ := hw
      refine xw_getr fr_M_58 d_M_ends_63 hA hB ?_
      refine xw_iload_n d_M_ends_66 rfl rfl ?_
      obtain ⟨ar19, x14, hA, hB, hC, hw⟩ := hw
      refine xw_iaload (t := 0) rfl d_M_ends_67 hA hB hC ?_
      refine xw_iadd d_M_ends_68 ?_
      obtain ⟨ar18, x15, hA, hB, hC, hw⟩ := hw
      refine xw_iaload (t := 0) rfl d_M_ends_69 hA hB hC ?_
      obtain ⟨ar16, hA, hB, hC, hw⟩ := hw
      refine xw_iastore (t := 0) rfl d_M_ends_70 hA hB hC ?_
      generalize hh : xu h4 a9 (.inl (0, .inl (ar16.set p1.toNatClampNeg x15))) = h17
      have hw := hw h17 hh.symm
      refine xw_goto (tgt := 164) d_M_ends_71 (by decide) ?_
      exact p_M_ends_164  (this) (p1) h17 hw
  · have hw := hw.2 c36
    refine xw_aload_n d_M_ends_10 rfl rfl ?_
    refine xw_iload_n d_M_ends_11 rfl rfl ?_
    refine xw_aload_n d_M_ends_12 rfl rfl ?_
    obtain ⟨f21, a22, hA, hB, hw⟩ := hw
    refine xw_getr fr_M_58 d_M_ends_13 hA hB ?_
    refine xw_iload_n d_M_ends_16 rfl rfl ?_
    obtain ⟨ar35, x23, hA, hB, hC, hw⟩ := hw
    refine xw_iaload (t := 0) rfl d_M_ends_17 hA hB hC ?_
    refine xw_iconst (v := 1) d_M_ends_18 (by decide) ?_
    refine xw_aload_n d_M_ends_19 rfl rfl ?_
    refine xw_iload_n d_M_ends_20 rfl rfl ?_
    obtain ⟨⟨f25, hA⟩, hw⟩ := hw
    refine xc_V1i lk_M_142 in_M_chosen d_M_ends_21 (x_M_chosen hw) rfl hA rfl ?_
    intro x26 h24 hw
    obtain ⟨⟨f28, hA⟩, hw⟩ := hw
    refine xc_V4n lk_M_206 in_M_writeMap d_M_ends_24 (x_M_writeMap hw) rfl hA rfl ?_
    intro h27 hw
    refine xw_aload_n d_M_ends_27 rfl rfl ?_
    refine xw_iload_n d_M_ends_28 rfl rfl ?_
    obtain ⟨⟨f30, hA⟩, hw⟩ := hw
    refine xc_V1i lk_M_111 in_M_isUp d_M_ends_29 (x_M_isUp hw) rfl hA rfl ?_
    intro x31 h29 hw
    refine xw_if_ne (tgt := 36) d_M_ends_32 (by decide) (fun c34 => ?_) (fun c34 => ?_)
    · have hw := hw.1 c34
      refine xw_aload_n d_M_ends_36 rfl rfl ?_
      refine xw_iload_n d_M_ends_37 rfl rfl ?_
      obtain ⟨⟨f33, hA⟩, hw⟩ := hw
      refine xc_V1n lk_M_210 in_M_proposed d_M_ends_38 (x_M_proposed hw) rfl hA rfl ?_
      intro h32 hw
      exact xw_return rfl d_M_ends_41 hw
    · have hw := hw.2 c34
      exact xw_return rfl d_M_ends_35 hw
set_option maxRecDepth 100000 in
def w_M_second_96 (Q : Option Value → xH → Prop) (l0 : Nat) (l1 : Int32) (h : xH) : Prop := (∃ f2, h.2 l0 = some (.inr (8, f2))) ∧ w_M_begins (fun v h1 => v = none ∧ Q none h1) l0 l1 2 h
set_option maxRecDepth 100000 in
set_option maxHeartbeats 4000000 in
theorem p_M_second_96 {sc : List Int32} {Q : Option Value → xH → Prop} (l0 : Nat) (l1 : Int32) (h : xH) (hw : w_M_second_96 Q l0 l1 h) : xW sc m_M_second 7 0 0 96 [some (.ref (l0)), some (.int (l1)), none] [] h Q := by
  unfold w_M_second_96 at hw
  refine xw_aload_n d_M_second_96 rfl rfl ?_
  refine xw_iload_n d_M_second_97 rfl rfl ?_
  refine xw_iconst (v := 2) d_M_second_98 (by decide) ?_
  obtain ⟨⟨f2, hA⟩, hw⟩ := hw
  refine xc_V2n lk_M_203 in_M_begins d_M_second_99 (x_M_begins hw) rfl hA rfl ?_
  intro h1 hw
  exact xw_return rfl d_M_second_102 hw
set_option maxRecDepth 100000 in
def w_M_second_58 (Q : Option Value → xH → Prop) (l0 : Nat) (l1 : Int32) (l2 : Int32) (h : xH) : Prop := ∃ (f1 : List Value) (a2 : Nat), h.2 l0 = some (.inr (8, f1)) ∧ f1[18]? = some (.ref a2) ∧ ∃ (ar22 : List Int32) (x3 : Int32), h.2 a2 = some (.inl (0, .inl ar22)) ∧ 0 ≤ l1 ∧ ar22[l1.toNatClampNeg]? = some x3 ∧ ∃ (f4 : List Value) (a5 : Nat), h.2 l0 = some (.inr (8, f4)) ∧ f4[28]? = some (.ref a5) ∧ ∃ (ar21 : List Int32) (x6 : Int32), h.2 a5 = some (.inl (0, .inl ar21)) ∧ 0 ≤ l2 ∧ ar21[l2.toNatClampNeg]? = some x6 ∧ ∃ (f7 : List Value) (a8 : Nat), h.2 l0 = some (.inr (8, f7)) ∧ f7[29]? = some (.ref a8) ∧ ∃ (ar20 : List Int32) (x9 : Int32), h.2 a8 = some (.inl (0, .inl ar20)) ∧ 0 ≤ l2 ∧ ar20[l2.toNatClampNeg]? = some x9 ∧ ∃ (f10 : List Value) (a11 : Nat), h.2 l0 = some (.inr (8, f10)) ∧ f10[30]? = some (.ref a11) ∧ ∃ (ar19 : List Int32) (x12 : Int32), h.2 a11 = some (.inl (0, .inl ar19)) ∧ 0 ≤ l2 ∧ ar19[l2.toNatClampNeg]? = some x12 ∧ (∃ f14, h.2 l0 = some (.inr (8, f14))) ∧ w_M_store (fun v h13 => v = none ∧ (∃ f16, h13.2 l0 = some (.inr (8, f16))) ∧ w_M_isUp (fun v h15 => ∃ (x17 : Int32), v = some (.int x17) ∧ ((¬ x17 = 0 → w_M_second_96 Q (l0) (l1) h15) ∧ (x17 = 0 → Q none h15))) l0 l1 h13) l0 l1 x3 x6 x9 x12 h
set_option maxRecDepth 100000 in
set_option maxHeartbeats 4000000 in
theorem p_M_second_58 {sc : List Int32} {Q : Option Value → xH → Prop} (l0 : Nat) (l1 : Int32) (l2 : Int32) (h : xH) (hw : w_M_second_58 Q l0 l1 l2 h) : xW sc m_M_second 7 0 0 58 [some (.ref (l0)), some (.int (l1)), some (.int (l2))] [] h Q := by
  unfold w_M_second_58 at hw
  refine xw_aload_n d_M_second_58 rfl rfl ?_
  refine xw_iload_n d_M_second_59 rfl rfl ?_
  refine xw_aload_n d_M_second_60 rfl rfl ?_
  obtain ⟨f1, a2, hA, hB, hw⟩ := hw
  refine xw_getr fr_M_58 d_M_second_61 hA hB ?_
  refine xw_iload_n d_M_second_64 rfl rfl ?_
  obtain ⟨ar22, x3, hA, hB, hC, hw⟩ := hw
  refine xw_iaload (t := 0) rfl d_M_second_65 hA hB hC ?_
  refine xw_aload_n d_M_second_66 rfl rfl ?_
  obtain ⟨f4, a5, hA, hB, hw⟩ := hw
  refine xw_getr fr_M_88 d_M_second_67 hA hB ?_
  refine xw_iload_n d_M_second_70 rfl rfl ?_
  obtain ⟨ar21, x6, hA, hB, hC, hw⟩ := hw
  refine xw_iaload (t := 0) rfl d_M_second_71 hA hB hC ?_
  refine xw_aload_n d_M_second_72 rfl rfl ?_
  obtain ⟨f7, a8, hA, hB, hw⟩ := hw
  refine xw_getr fr_M_91 d_M_second_73 hA hB ?_
  refine xw_iload_n d_M_second_76 rfl rfl ?_
  obtain ⟨ar20, x9, hA, hB, hC, hw⟩ := hw
  refine xw_iaload (t := 0) rfl d_M_second_77 hA hB hC ?_
  refine xw_aload_n d_M_second_78 rfl rfl ?_
  obtain ⟨f10, a11, hA, hB, hw⟩ := hw
  refine xw_getr fr_M_94 d_M_second_79 hA hB ?_
  refine xw_iload_n d_M_second_82 rfl rfl ?_
  obtain ⟨ar19, x12, hA, hB, hC, hw⟩ := hw
  refine xw_iaload (t := 0) rfl d_M_second_83 hA hB hC ?_
  obtain ⟨⟨f14, hA⟩, hw⟩ := hw
  refine xc_V5n lk_M_150 in_M_store d_M_second_84 (x_M_store hw) rfl hA rfl ?_
  intro h13 hw
  refine xw_aload_n d_M_second_87 rfl rfl ?_
  refine xw_iload_n d_M_second_88 rfl rfl ?_
  obtain ⟨⟨f16, hA⟩, hw⟩ := hw
  refine xc_V1i lk_M_111 in_M_isUp d_M_second_89 (x_M_isUp hw) rfl hA rfl ?_
  intro x17 h15 hw
  refine xw_if_ne (tgt := 96) d_M_second_92 (by decide) (fun c18 => ?_) (fun c18 => ?_)
  · have hw := hw.1 c18
    refine xs_drop (lv' := [some (.ref (l0)), some (.int (l1)), none]) 2 rfl ?_
    exact p_M_second_96  (l0) (l1) h15 hw
  · have hw := hw.2 c18
    exact xw_return rfl d_M_second_95 hw
set_option maxRecDepth 100000 in
def w_M_second (Q : Option Value → xH → Prop) (this : Nat) (p1 : Int32) (h : xH) : Prop := (∃ f2, h.2 this = some (.inr (8, f2))) ∧ w_M_isData (fun v h1 => ∃ (x3 : Int32), v = some (.int x3) ∧ ((x3 = 0 → w_M_second_96 Q (this) (p1) h1) ∧ (¬ x3 = 0 → ∃ (f4 : List Value) (a5 : Nat), h1.2 this = some (.inr (8, f4)) ∧ f4[18]? = some (.ref a5) ∧ ∃ (ar30 : List Int32) (x6 : Int32), h1.2 a5 = some (.inl (0, .inl ar30)) ∧ 0 ≤ p1 ∧ ar30[p1.toNatClampNeg]? = some x6 ∧ ∃ (f7 : List Value) (a8 : Nat), h1.2 this = some (.inr (8, f7)) ∧ f7[16]? = some (.ref a8) ∧ ∃ (ar29 : List Int32) (x9 : Int32), h1.2 a8 = some (.inl (0, .inl ar29)) ∧ 0 ≤ p1 ∧ ar29[p1.toNatClampNeg]? = some x9 ∧ ((¬ x9 = 2 → w_M_second_58 Q (this) (p1) ((4 * p1) + x6) h1) ∧ (x9 = 2 → ∃ (f10 : List Value) (a11 : Nat), h1.2 this = some (.inr (8, f10)) ∧ f10[28]? = some (.ref a11) ∧ ∃ (ar27 : List Int32) (x12 : Int32), h1.2 a11 = some (.inl (0, .inl ar27)) ∧ 0 ≤ ((4 * p1) + x6 : Int32) ∧ ar27[((4 * p1) + x6 : Int32).toNatClampNeg]? = some x12 ∧ ∃ ar13, h1.2 a11 = some (.inl (0, .inl ar13)) ∧ 0 ≤ ((4 * p1) + x6 : Int32) ∧ ((4 * p1) + x6 : Int32).toNatClampNeg < ar13.length ∧ ∀ h14, h14 = xu h1 a11 (.inl (0, .inl (ar13.set ((4 * p1) + x6 : Int32).toNatClampNeg (x12 + 1)))) → ∃ (f15 : List Value) (a16 : Nat), h14.2 this = some (.inr (8, f15)) ∧ f15[29]? = some (.ref a16) ∧ ∃ ar17, h14.2 a16 = some (.inl (0, .inl ar17)) ∧ 0 ≤ ((4 * p1) + x6 : Int32) ∧ ((4 * p1) + x6 : Int32).toNatClampNeg < ar17.length ∧ ∀ h18, h18 = xu h14 a16 (.inl (0, .inl (ar17.set ((4 * p1) + x6 : Int32).toNatClampNeg p1))) → ∃ (f19 : List Value) (a20 : Nat), h18.2 this = some (.inr (8, f19)) ∧ f19[30]? = some (.ref a20) ∧ ∃ (f21 : List Value) (a22 : Nat), h18.2 this = some (.inr (8, f21)) ∧ f21[22]? = some (.ref a22) ∧ ∃ (ar26 : List Int32) (x23 : Int32), h18.2 a22 = some (.inl (0, .inl ar26)) ∧ 0 ≤ p1 ∧ ar26[p1.toNatClampNeg]? = some x23 ∧ ∃ ar24, h18.2 a20 = some (.inl (0, .inl ar24)) ∧ 0 ≤ ((4 * p1) + x6 : Int32) ∧ ((4 * p1) + x6 : Int32).toNatClampNeg < ar24.length ∧ ∀ h25, h25 = xu h18 a20 (.inl (0, .inl (ar24.set ((4 * p1) + x6 : Int32).toNatClampNeg x23))) → w_M_second_58 Q (this) (p1) ((4 * p1) + x6) h25))))) this p1 h
set_option maxRecDepth 100000 in
set_option maxHeartbeats 4000000 in
theorem x_M_second {sc : List Int32} {Q : Option Value → xH → Prop} {this : Nat} {p1 : Int32} {h : xH} (hw : w_M_second Q this p1 h) : xMet sc m_M_second 7 0 0 [.ref (this), .int (p1)] h Q := by
  unfold w_M_second at hw
  refine xMet.of2 cw_M_second rfl rfl ?_
  show xW sc m_M_second 7 0 0 0 [some (.ref (this)), some (.int (p1)), none] [] h Q
  refine xw_aload_n d_M_second_0 rfl rfl ?_
  refine xw_iload_n d_M_second_1 rfl rfl ?_
  obtain ⟨⟨f2, hA⟩, hw⟩ := hw
  refine xc_V1i lk_M_135 in_M_isData d_M_second_2 (x_M_isData hw) rfl hA rfl ?_
  intro x3 h1 hw
  refine xw_if_eq (tgt := 96) d_M_second_5 (by decide) (fun c31 => ?_) (fun c31 => ?_)
  · have hw := hw.1 c31
    exact p_M_second_96  (this) (p1) h1 hw
  · have hw := hw.2 c31
    refine xw_iconst (v := 4) d_M_second_8 (by decide) ?_
    refine xw_iload_n d_M_second_9 rfl rfl ?_
    refine xw_imul d_M_second_10 ?_
    refine xw_aload_n d_M_second_11 rfl rfl ?_
    obtain ⟨f4, a5, hA, hB, hw⟩ := hw
    refine xw_getr fr_M_58 d_M_second_12 hA hB ?_
    refine xw_iload_n d_M_second_15 rfl rfl ?_
    obtain ⟨ar30, x6, hA, hB, hC, hw⟩ := hw
    refine xw_iaload (t := 0) rfl d_M_second_16 hA hB hC ?_
    refine xw_iadd d_M_second_17 ?_
    refine xs_istore_n (lv' := [some (.ref (this)), some (.int (p1)), some (.int ((4 * p1) + x6))]) d_M_second_18 rfl rfl rfl ?_
    refine xw_aload_n d_M_second_19 rfl rfl ?_
    obtain ⟨f7, a8, hA, hB, hw⟩ := hw
    refine xw_getr fr_M_52 d_M_second_20 hA hB ?_
    refine xw_iload_n d_M_second_23 rfl rfl ?_
    obtain ⟨ar29, x9, hA, hB, hC, hw⟩ := hw
    refine xw_iaload (t := 0) rfl d_M_second_24 hA hB hC ?_
    refine xw_iconst (v := 2) d_M_second_25 (by decide) ?_
    refine xw_icmp_ne (tgt := 58) d_M_second_26 (by decide) (fun c28 => ?_) (fun c28 => ?_)
    · have hw := hw.1 c28
      exact p_M_second_58  (this) (p1) ((4 * p1) + x6) h1 hw
    · have hw := hw.2 c28
      refine xw_aload_n d_M_second_29 rfl rfl ?_
      obtain ⟨f10, a11, hA, hB, hw⟩ := hw
      refine xw_getr fr_M_88 d_M_second_30 hA hB ?_
      refine xw_iload_n d_M_second_33 rfl rfl ?_
      refine xw_dup2 d_M_second_34 rfl rfl ?_
      obtain ⟨ar27, x12, hA, hB, hC, hw⟩ := hw
      refine xw_iaload (t := 0) rfl d_M_second_35 hA hB hC ?_
      refine xw_iconst (v := 1) d_M_second_36 (by decide) ?_
      refine xw_iadd d_M_second_37 ?_
      obtain ⟨ar13, hA, hB, hC, hw⟩ := hw
      refine xw_iastore (t := 0) rfl d_M_second_38 hA hB hC ?_
      generalize hh : xu h1 a11 (.inl (0, .inl (ar13.set ((4 * p1) + x6 : Int32).toNatClampNeg (x12 + 1)))) = h14
      have hw := hw h14 hh.symm
      refine xw_aload_n d_M_second_39 rfl rfl ?_
      obtain ⟨f15, a16, hA, hB, hw⟩ := hw
      refine xw_getr fr_M_91 d_M_second_40 hA hB ?_
      refine xw_iload_n d_M_second_43 rfl rfl ?_
      refine xw_iload_n d_M_second_44 rfl rfl ?_
      obtain ⟨ar17, hA, hB, hC, hw⟩ := hw
      refine xw_iastore (t := 0) rfl d_M_second_45 hA hB hC ?_
      generalize hh : xu h14 a16 (.inl (0, .inl (ar17.set ((4 * p1) + x6 : Int32).toNatClampNeg p1))) = h18
      have hw := hw h18 hh.symm
      refine xw_aload_n d_M_second_46 rfl rfl ?_
      obtain ⟨f19, a20, hA, hB, hw⟩ := hw
      refine xw_getr fr_M_94 d_M_second_47 hA hB ?_
      refine xw_iload_n d_M_second_50 rfl rfl ?_
      refine xw_aload_n d_M_second_51 rfl rfl ?_
      obtain ⟨f21, a22, hA, hB, hw⟩ := hw
      refine xw_getr fr_M_70 d_M_second_52 hA hB ?_
      refine xw_iload_n d_M_second_55 rfl rfl ?_
      obtain ⟨ar26, x23, hA, hB, hC, hw⟩ := hw
      refine xw_iaload (t := 0) rfl d_M_second_56 hA hB hC ?_
      obtain ⟨ar24, hA, hB, hC, hw⟩ := hw
      refine xw_iastore (t := 0) rfl d_M_second_57 hA hB hC ?_
      generalize hh : xu h18 a20 (.inl (0, .inl (ar24.set ((4 * p1) + x6 : Int32).toNatClampNeg x23))) = h25
      have hw := hw h25 hh.symm
      exact p_M_second_58  (this) (p1) ((4 * p1) + x6) h25 hw
set_option maxRecDepth 100000 in
def w_M_goesOn_0 (Q : Option Value → xH → Prop) : Nat → Nat → Int32 → xH → Prop
  | 0, _, _, _ => False
  | n + 1, l0, l1, h => (∃ f2, h.2 l0 = some (.inr (8, f2))) ∧ w_M_isUp (fun v h1 => ∃ (x3 : Int32), v = some (.int x3) ∧ ((x3 = 0 → Q none h1) ∧ (¬ x3 = 0 → ∃ (f4 : List Value) (a5 : Nat), h1.2 l0 = some (.inr (8, f4)) ∧ f4[17]? = some (.ref a5) ∧ ∃ (ar21 : List Int32) (x6 : Int32), h1.2 a5 = some (.inl (0, .inl ar21)) ∧ 0 ≤ l1 ∧ ar21[l1.toNatClampNeg]? = some x6 ∧ ((x6 ≤ 0 → Q none h1) ∧ (¬ x6 ≤ 0 → (∃ f8, h1.2 l0 = some (.inr (8, f8))) ∧ w_M_isEnough (fun v h7 => ∃ (x9 : Int32), v = some (.int x9) ∧ ((x9 = 0 → Q none h7) ∧ (¬ x9 = 0 → ∃ (f10 : List Value) (a11 : Nat), h7.2 l0 = some (.inr (8, f10)) ∧ f10[17]? = some (.ref a11) ∧ ∃ (ar18 : List Int32) (x12 : Int32), h7.2 a11 = some (.inl (0, .inl ar18)) ∧ 0 ≤ l1 ∧ ar18[l1.toNatClampNeg]? = some x12 ∧ ((¬ x12 = 1 → (∃ f14, h7.2 l0 = some (.inr (8, f14))) ∧ w_M_ends (fun v h13 => v = none ∧ w_M_goesOn_0 Q n (l0) (l1) h13) l0 l1 h7) ∧ (x12 = 1 → (∃ f16, h7.2 l0 = some (.inr (8, f16))) ∧ w_M_second (fun v h15 => v = none ∧ w_M_goesOn_0 Q n (l0) (l1) h15) l0 l1 h7))))) l0 l1 h1))))) l0 l1 h
set_option maxRecDepth 100000 in
set_option maxHeartbeats 4000000 in
theorem p_M_goesOn_0 {sc : List Int32} {Q : Option Value → xH → Prop} : ∀ (n : Nat) (l0 : Nat) (l1 : Int32) (h : xH), w_M_goesOn_0 Q n l0 l1 h → xW sc m_M_goesOn 8 0 0 0 [some (.ref (l0)), some (.int (l1))] [] h Q := by
  intro n
  induction n with
  | zero => intro l0 l1 h hw; exact False.elim hw
  | succ n ih =>
    intro l0 l1 h hw
    rw [w_M_goesOn_0] at hw
    refine xw_aload_n d_M_goesOn_0 rfl rfl ?_
    refine xw_iload_n d_M_goesOn_1 rfl rfl ?_
    obtain ⟨⟨f2, hA⟩, hw⟩ := hw
    refine xc_V1i lk_M_111 in_M_isUp d_M_goesOn_2 (x_M_isUp hw) rfl hA rfl ?_
    intro x3 h1 hw
    refine xw_if_eq (tgt := 51) d_M_goesOn_5 (by decide) (fun c22 => ?_) (fun c22 => ?_)
    · have hw := hw.1 c22
      exact xw_return rfl d_M_goesOn_51 hw
    · have hw := hw.2 c22
      refine xw_aload_n d_M_goesOn_8 rfl rfl ?_
      obtain ⟨f4, a5, hA, hB, hw⟩ := hw
      refine xw_getr fr_M_55 d_M_goesOn_9 hA hB ?_
      refine xw_iload_n d_M_goesOn_12 rfl rfl ?_
      obtain ⟨ar21, x6, hA, hB, hC, hw⟩ := hw
      refine xw_iaload (t := 0) rfl d_M_goesOn_13 hA hB hC ?_
      refine xw_if_le (tgt := 51) d_M_goesOn_14 (by decide) (fun c20 => ?_) (fun c20 => ?_)
      · have hw := hw.1 c20
        exact xw_return rfl d_M_goesOn_51 hw
      · have hw := hw.2 c20
        refine xw_aload_n d_M_goesOn_17 rfl rfl ?_
        refine xw_iload_n d_M_goesOn_18 rfl rfl ?_
        obtain ⟨⟨f8, hA⟩, hw⟩ := hw
        refine xc_V1i lk_M_194 in_M_isEnough d_M_goesOn_19 (x_M_isEnough hw) rfl hA rfl ?_
        intro x9 h7 hw
        refine xw_if_eq (tgt := 51) d_M_goesOn_22 (by decide) (fun c19 => ?_) (fun c19 => ?_)
        · have hw := hw.1 c19
          exact xw_return rfl d_M_goesOn_51 hw
        · have hw := hw.2 c19
          refine xw_aload_n d_M_goesOn_25 rfl rfl ?_
          obtain ⟨f10, a11, hA, hB, hw⟩ := hw
          refine xw_getr fr_M_55 d_M_goesOn_26 hA hB ?_
          refine xw_iload_n d_M_goesOn_29 rfl rfl ?_
          obtain ⟨ar18, x12, hA, hB, hC, hw⟩ := hw
          refine xw_iaload (t := 0) rfl d_M_goesOn_30 hA hB hC ?_
          refine xw_iconst (v := 1) d_M_goesOn_31 (by decide) ?_
          refine xw_icmp_ne (tgt := 43) d_M_goesOn_32 (by decide) (fun c17 => ?_) (fun c17 => ?_)
          · have hw := hw.1 c17
            refine xw_aload_n d_M_goesOn_43 rfl rfl ?_
            refine xw_iload_n d_M_goesOn_44 rfl rfl ?_
            obtain ⟨⟨f14, hA⟩, hw⟩ := hw
            refine xc_V1n lk_M_200 in_M_ends d_M_goesOn_45 (x_M_ends hw) rfl hA rfl ?_
            intro h13 hw
            refine xw_goto (tgt := 0) d_M_goesOn_48 (by decide) ?_
            exact ih (l0) (l1) h13 hw
          · have hw := hw.2 c17
            refine xw_aload_n d_M_goesOn_35 rfl rfl ?_
            refine xw_iload_n d_M_goesOn_36 rfl rfl ?_
            obtain ⟨⟨f16, hA⟩, hw⟩ := hw
            refine xc_V1n lk_M_197 in_M_second d_M_goesOn_37 (x_M_second hw) rfl hA rfl ?_
            intro h15 hw
            refine xw_goto (tgt := 0) d_M_goesOn_40 (by decide) ?_
            exact ih (l0) (l1) h15 hw
set_option maxRecDepth 100000 in
def w_M_goesOn (Q : Option Value → xH → Prop) (this : Nat) (p1 : Int32) (h : xH) : Prop := ∃ n1, w_M_goesOn_0 Q n1 (this) (p1) h
set_option maxRecDepth 100000 in
set_option maxHeartbeats 4000000 in
theorem x_M_goesOn {sc : List Int32} {Q : Option Value → xH → Prop} {this : Nat} {p1 : Int32} {h : xH} (hw : w_M_goesOn Q this p1 h) : xMet sc m_M_goesOn 8 0 0 [.ref (this), .int (p1)] h Q := by
  unfold w_M_goesOn at hw
  refine xMet.of2 cw_M_goesOn rfl rfl ?_
  show xW sc m_M_goesOn 8 0 0 0 [some (.ref (this)), some (.int (p1))] [] h Q
  obtain ⟨n1, hw⟩ := hw
  exact p_M_goesOn_0  n1 (this) (p1) h hw
set_option maxRecDepth 100000 in
def w_M_looks_88 (Q : Option Value → xH → Prop) (l0 : Nat) (l1 : Int32) (l2 : Int32) (h : xH) : Prop := (∃ f2, h.2 l0 = some (.inr (8, f2))) ∧ w_M_goesOn (fun v h1 => v = none ∧ Q none h1) l0 l1 h
set_option maxRecDepth 100000 in
set_option maxHeartbeats 4000000 in
theorem p_M_looks_88 {sc : List Int32} {Q : Option Value → xH → Prop} (l0 : Nat) (l1 : Int32) (l2 : Int32) (h : xH) (hw : w_M_looks_88 Q l0 l1 l2 h) : xW sc m_M_looks 9 0 0 88 [some (.ref (l0)), some (.int (l1)), some (.int (l2))] [] h Q := by
  unfold w_M_looks_88 at hw
  refine xw_aload_n d_M_looks_88 rfl rfl ?_
  refine xw_iload_n d_M_looks_89 rfl rfl ?_
  obtain ⟨⟨f2, hA⟩, hw⟩ := hw
  refine xc_V1n lk_M_216 in_M_goesOn d_M_looks_90 (x_M_goesOn hw) rfl hA rfl ?_
  intro h1 hw
  exact xw_return rfl d_M_looks_93 hw
set_option maxRecDepth 100000 in
def w_M_looks_41 (Q : Option Value → xH → Prop) (l0 : Nat) (l1 : Int32) (l2 : Int32) (h : xH) : Prop := (∃ f2, h.2 l0 = some (.inr (8, f2))) ∧ w_M_allActive (fun v h1 => ∃ (x3 : Int32), v = some (.int x3) ∧ (∃ f5, h1.2 l0 = some (.inr (8, f5))) ∧ w_M_ask (fun v h4 => v = none ∧ w_M_looks_88 Q (l0) (l1) (l2) h4) l0 l1 x3 h1) l0 l1 h
set_option maxRecDepth 100000 in
set_option maxHeartbeats 4000000 in
theorem p_M_looks_41 {sc : List Int32} {Q : Option Value → xH → Prop} (l0 : Nat) (l1 : Int32) (l2 : Int32) (h : xH) (hw : w_M_looks_41 Q l0 l1 l2 h) : xW sc m_M_looks 9 0 0 41 [some (.ref (l0)), some (.int (l1)), some (.int (l2))] [] h Q := by
  unfold w_M_looks_41 at hw
  refine xw_aload_n d_M_looks_41 rfl rfl ?_
  refine xw_iload_n d_M_looks_42 rfl rfl ?_
  refine xw_aload_n d_M_looks_43 rfl rfl ?_
  refine xw_iload_n d_M_looks_44 rfl rfl ?_
  obtain ⟨⟨f2, hA⟩, hw⟩ := hw
  refine xc_V1i lk_M_173 in_M_allActive d_M_looks_45 (x_M_allActive hw) rfl hA rfl ?_
  intro x3 h1 hw
  obtain ⟨⟨f5, hA⟩, hw⟩ := hw
  refine xc_V2n lk_M_182 in_M_ask d_M_looks_48 (x_M_ask hw) rfl hA rfl ?_
  intro h4 hw
  refine xw_goto (tgt := 88) d_M_looks_51 (by decide) ?_
  exact p_M_looks_88  (l0) (l1) (l2) h4 hw
set_option maxRecDepth 100000 in
def w_M_looks (Q : Option Value → xH → Prop) (this : Nat) (p1 : Int32) (p2 : Int32) (h : xH) : Prop := ∃ (f1 : List Value) (a2 : Nat), h.2 this = some (.inr (8, f1)) ∧ f1[17]? = some (.ref a2) ∧ ∃ (ar33 : List Int32) (x3 : Int32), h.2 a2 = some (.inl (0, .inl ar33)) ∧ 0 ≤ p1 ∧ ar33[p1.toNatClampNeg]? = some x3 ∧ ((¬ x3 = 0 → (∃ f5, h.2 this = some (.inr (8, f5))) ∧ w_M_isData (fun v h4 => ∃ (x6 : Int32), v = some (.int x6) ∧ ((x6 = 0 → ∃ (f7 : List Value) (a8 : Nat), h4.2 this = some (.inr (8, f7)) ∧ f7[16]? = some (.ref a8) ∧ ∃ (ar22 : List Int32) (x9 : Int32), h4.2 a8 = some (.inl (0, .inl ar22)) ∧ 0 ≤ p1 ∧ ar22[p1.toNatClampNeg]? = some x9 ∧ ((¬ x9 = 3 → w_M_looks_88 Q (this) (p1) (p2) h4) ∧ (x9 = 3 → ∃ (f10 : List Value) (a11 : Nat), h4.2 this = some (.inr (8, f10)) ∧ f10[9]? = some (.ref a11) ∧ ∃ (f12 : List Value) (a13 : Nat), h4.2 this = some (.inr (8, f12)) ∧ f12[18]? = some (.ref a13) ∧ ∃ (ar20 : List Int32) (x14 : Int32), h4.2 a13 = some (.inl (0, .inl ar20)) ∧ 0 ≤ p1 ∧ ar20[p1.toNatClampNeg]? = some x14 ∧ ∃ (ar19 : List Int32) (x15 : Int32), h4.2 a11 = some (.inl (0, .inl ar19)) ∧ 0 ≤ ((16 * p1) + x14 : Int32) ∧ ar19[((16 * p1) + x14 : Int32).toNatClampNeg]? = some x15 ∧ ((x15 = 0 → w_M_looks_88 Q (this) (p1) (p2) h4) ∧ (¬ x15 = 0 → (∃ f17, h4.2 this = some (.inr (8, f17))) ∧ w_M_proposed (fun v h16 => v = none ∧ w_M_looks_88 Q (this) (p1) (p2) h16) this p1 h4))))) ∧ (¬ x6 = 0 → ∃ (f23 : List Value) (a24 : Nat), h4.2 this = some (.inr (8, f23)) ∧ f23[17]? = some (.ref a24) ∧ ∃ (ar30 : List Int32) (x25 : Int32), h4.2 a24 = some (.inl (0, .inl ar30)) ∧ 0 ≤ p1 ∧ ar30[p1.toNatClampNeg]? = some x25 ∧ ((¬ x25 = 1 → w_M_looks_41 Q (this) (p1) (p2) h4) ∧ (x25 = 1 → ((p2 = 0 → w_M_looks_41 Q (this) (p1) (p2) h4) ∧ (¬ p2 = 0 → (∃ f27, h4.2 this = some (.inr (8, f27))) ∧ w_M_begins (fun v h26 => v = none ∧ w_M_looks_88 Q (this) (p1) (p2) h26) this p1 1 h4))))))) this p1 h) ∧ (x3 = 0 → Q none h))
set_option maxRecDepth 100000 in
set_option maxHeartbeats 4000000 in
theorem x_M_looks {sc : List Int32} {Q : Option Value → xH → Prop} {this : Nat} {p1 : Int32} {p2 : Int32} {h : xH} (hw : w_M_looks Q this p1 p2 h) : xMet sc m_M_looks 9 0 0 [.ref (this), .int (p1), .int (p2)] h Q := by
  unfold w_M_looks at hw
  refine xMet.of2 cw_M_looks rfl rfl ?_
  show xW sc m_M_looks 9 0 0 0 [some (.ref (this)), some (.int (p1)), some (.int (p2))] [] h Q
  refine xw_aload_n d_M_looks_0 rfl rfl ?_
  obtain ⟨f1, a2, hA, hB, hw⟩ := hw
  refine xw_getr fr_M_55 d_M_looks_1 hA hB ?_
  refine xw_iload_n d_M_looks_4 rfl rfl ?_
  obtain ⟨ar33, x3, hA, hB, hC, hw⟩ := hw
  refine xw_iaload (t := 0) rfl d_M_looks_5 hA hB hC ?_
  refine xw_if_ne (tgt := 10) d_M_looks_6 (by decide) (fun c32 => ?_) (fun c32 => ?_)
  · have hw := hw.1 c32
    refine xw_aload_n d_M_looks_10 rfl rfl ?_
    refine xw_iload_n d_M_looks_11 rfl rfl ?_
    obtain ⟨⟨f5, hA⟩, hw⟩ := hw
    refine xc_V1i lk_M_135 in_M_isData d_M_looks_12 (x_M_isData hw) rfl hA rfl ?_
    intro x6 h4 hw
    refine xw_if_eq (tgt := 54) d_M_looks_15 (by decide) (fun c31 => ?_) (fun c31 => ?_)
    · have hw := hw.1 c31
      refine xw_aload_n d_M_looks_54 rfl rfl ?_
      obtain ⟨f7, a8, hA, hB, hw⟩ := hw
      refine xw_getr fr_M_52 d_M_looks_55 hA hB ?_
      refine xw_iload_n d_M_looks_58 rfl rfl ?_
      obtain ⟨ar22, x9, hA, hB, hC, hw⟩ := hw
      refine xw_iaload (t := 0) rfl d_M_looks_59 hA hB hC ?_
      refine xw_iconst (v := 3) d_M_looks_60 (by decide) ?_
      refine xw_icmp_ne (tgt := 88) d_M_looks_61 (by decide) (fun c21 => ?_) (fun c21 => ?_)
      · have hw := hw.1 c21
        exact p_M_looks_88  (this) (p1) (p2) h4 hw
      · have hw := hw.2 c21
        refine xw_aload_n d_M_looks_64 rfl rfl ?_
        obtain ⟨f10, a11, hA, hB, hw⟩ := hw
        refine xw_getr fr_M_34 d_M_looks_65 hA hB ?_
        refine xw_bipush (v := 16) d_M_looks_68 (by decide) ?_
        refine xw_iload_n d_M_looks_70 rfl rfl ?_
        refine xw_imul d_M_looks_71 ?_
        refine xw_aload_n d_M_looks_72 rfl rfl ?_
        obtain ⟨f12, a13, hA, hB, hw⟩ := hw
        refine xw_getr fr_M_58 d_M_looks_73 hA hB ?_
        refine xw_iload_n d_M_looks_76 rfl rfl ?_
        obtain ⟨ar20, x14, hA, hB, hC, hw⟩ := hw
        refine xw_iaload (t := 0) rfl d_M_looks_77 hA hB hC ?_
        refine xw_iadd d_M_looks_78 ?_
        obtain ⟨ar19, x15, hA, hB, hC, hw⟩ := hw
        refine xw_iaload (t := 0) rfl d_M_looks_79 hA hB hC ?_
        refine xw_if_eq (tgt := 88) d_M_looks_80 (by decide) (fun c18 => ?_) (fun c18 => ?_)
        · have hw := hw.1 c18
          exact p_M_looks_88  (this) (p1) (p2) h4 hw
        · have hw := hw.2 c18
          refine xw_aload_n d_M_looks_83 rfl rfl ?_
          refine xw_iload_n d_M_looks_84 rfl rfl ?_
          obtain ⟨⟨f17, hA⟩, hw⟩ := hw
          refine xc_V1n lk_M_210 in_M_proposed d_M_looks_85 (x_M_proposed hw) rfl hA rfl ?_
          intro h16 hw
          exact p_M_looks_88  (this) (p1) (p2) h16 hw
    · have hw := hw.2 c31
      refine xw_aload_n d_M_looks_18 rfl rfl ?_
      obtain ⟨f23, a24, hA, hB, hw⟩ := hw
      refine xw_getr fr_M_55 d_M_looks_19 hA hB ?_
      refine xw_iload_n d_M_looks_22 rfl rfl ?_
      obtain ⟨ar30, x25, hA, hB, hC, hw⟩ := hw
      refine xw_iaload (t := 0) rfl d_M_looks_23 hA hB hC ?_
      refine xw_iconst (v := 1) d_M_looks_24 (by decide) ?_
      refine xw_icmp_ne (tgt := 41) d_M_looks_25 (by decide) (fun c29 => ?_) (fun c29 => ?_)
      · have hw := hw.1 c29
        exact p_M_looks_41  (this) (p1) (p2) h4 hw
      · have hw := hw.2 c29
        refine xw_iload_n d_M_looks_28 rfl rfl ?_
        refine xw_if_eq (tgt := 41) d_M_looks_29 (by decide) (fun c28 => ?_) (fun c28 => ?_)
        · have hw := hw.1 c28
          exact p_M_looks_41  (this) (p1) (p2) h4 hw
        · have hw := hw.2 c28
          refine xw_aload_n d_M_looks_32 rfl rfl ?_
          refine xw_iload_n d_M_looks_33 rfl rfl ?_
          refine xw_iconst (v := 1) d_M_looks_34 (by decide) ?_
          obtain ⟨⟨f27, hA⟩, hw⟩ := hw
          refine xc_V2n lk_M_203 in_M_begins d_M_looks_35 (x_M_begins hw) rfl hA rfl ?_
          intro h26 hw
          refine xw_goto (tgt := 88) d_M_looks_38 (by decide) ?_
          exact p_M_looks_88  (this) (p1) (p2) h26 hw
  · have hw := hw.2 c32
    exact xw_return rfl d_M_looks_9 hw
set_option maxRecDepth 100000 in
def w_M_counts (Q : Option Value → xH → Prop) (this : Nat) (p1 : Int32) (h : xH) : Prop := ∃ (f1 : List Value) (a2 : Nat), h.2 this = some (.inr (8, f1)) ∧ f1[17]? = some (.ref a2) ∧ ∃ (ar32 : List Int32) (x3 : Int32), h.2 a2 = some (.inl (0, .inl ar32)) ∧ 0 ≤ p1 ∧ ar32[p1.toNatClampNeg]? = some x3 ∧ ((x3 ≤ 0 → (narrow .boolean (.int 0) = .int 0 ∧ Q (some (.int 0)) h)) ∧ (¬ x3 ≤ 0 → ∃ (f4 : List Value) (a5 : Nat), h.2 this = some (.inr (8, f4)) ∧ f4[35]? = some (.ref a5) ∧ ∃ (ar30 : List Int32) (x6 : Int32), h.2 a5 = some (.inl (0, .inl ar30)) ∧ 0 ≤ (3 : Int32) ∧ ar30[(3 : Int32).toNatClampNeg]? = some x6 ∧ ∃ (f7 : List Value) (a8 : Nat), h.2 this = some (.inr (8, f7)) ∧ f7[2]? = some (.ref a8) ∧ ∃ (ar29 : List Int32) (x9 : Int32), h.2 a8 = some (.inl (0, .inl ar29)) ∧ 0 ≤ p1 ∧ ar29[p1.toNatClampNeg]? = some x9 ∧ ((¬ x6 = x9 → (narrow .boolean (.int 0) = .int 0 ∧ Q (some (.int 0)) h)) ∧ (x6 = x9 → ∃ (f10 : List Value) (a11 : Nat), h.2 this = some (.inr (8, f10)) ∧ f10[35]? = some (.ref a11) ∧ ∃ (ar27 : List Int32) (x12 : Int32), h.2 a11 = some (.inl (0, .inl ar27)) ∧ 0 ≤ (4 : Int32) ∧ ar27[(4 : Int32).toNatClampNeg]? = some x12 ∧ ∃ (f13 : List Value) (a14 : Nat), h.2 this = some (.inr (8, f13)) ∧ f13[5]? = some (.ref a14) ∧ ∃ (ar26 : List Int32) (x15 : Int32), h.2 a14 = some (.inl (0, .inl ar26)) ∧ 0 ≤ p1 ∧ ar26[p1.toNatClampNeg]? = some x15 ∧ ((¬ x12 = x15 → (narrow .boolean (.int 0) = .int 0 ∧ Q (some (.int 0)) h)) ∧ (x12 = x15 → ∃ (f16 : List Value) (a17 : Nat), h.2 this = some (.inr (8, f16)) ∧ f16[21]? = some (.ref a17) ∧ ∃ (ar24 : List Int32) (x18 : Int32), h.2 a17 = some (.inl (0, .inl ar24)) ∧ 0 ≤ p1 ∧ ar24[p1.toNatClampNeg]? = some x18 ∧ ∃ (f19 : List Value) (a20 : Nat), h.2 this = some (.inr (8, f19)) ∧ f19[35]? = some (.ref a20) ∧ ∃ (ar23 : List Int32) (x21 : Int32), h.2 a20 = some (.inl (0, .inl ar23)) ∧ 0 ≤ (1 : Int32) ∧ ar23[(1 : Int32).toNatClampNeg]? = some x21 ∧ ((¬ ((x18 >>> (x21 &&& 31)) &&& 1) = 0 → (narrow .boolean (.int 0) = .int 0 ∧ Q (some (.int 0)) h)) ∧ (((x18 >>> (x21 &&& 31)) &&& 1) = 0 → (narrow .boolean (.int 1) = .int 1 ∧ Q (some (.int 1)) h)))))))))
set_option maxRecDepth 100000 in
set_option maxHeartbeats 4000000 in
theorem x_M_counts {sc : List Int32} {Q : Option Value → xH → Prop} {this : Nat} {p1 : Int32} {h : xH} (hw : w_M_counts Q this p1 h) : xMet sc m_M_counts 0 0 0 [.ref (this), .int (p1)] h Q := by
  unfold w_M_counts at hw
  refine xMet.of2 cw_M_counts rfl rfl ?_
  show xW sc m_M_counts 0 0 0 0 [some (.ref (this)), some (.int (p1))] [] h Q
  refine xw_aload_n d_M_counts_0 rfl rfl ?_
  obtain ⟨f1, a2, hA, hB, hw⟩ := hw
  refine xw_getr fr_M_55 d_M_counts_1 hA hB ?_
  refine xw_iload_n d_M_counts_4 rfl rfl ?_
  obtain ⟨ar32, x3, hA, hB, hC, hw⟩ := hw
  refine xw_iaload (t := 0) rfl d_M_counts_5 hA hB hC ?_
  refine xw_if_le (tgt := 61) d_M_counts_6 (by decide) (fun c31 => ?_) (fun c31 => ?_)
  · have hw := hw.1 c31
    refine xw_iconst (v := 0) d_M_counts_61 (by decide) ?_
    exact xw_zreturn rfl hw.1 d_M_counts_62 hw.2
  · have hw := hw.2 c31
    refine xw_aload_n d_M_counts_9 rfl rfl ?_
    obtain ⟨f4, a5, hA, hB, hw⟩ := hw
    refine xw_getr fr_M_100 d_M_counts_10 hA hB ?_
    refine xw_iconst (v := 3) d_M_counts_13 (by decide) ?_
    obtain ⟨ar30, x6, hA, hB, hC, hw⟩ := hw
    refine xw_iaload (t := 0) rfl d_M_counts_14 hA hB hC ?_
    refine xw_aload_n d_M_counts_15 rfl rfl ?_
    obtain ⟨f7, a8, hA, hB, hw⟩ := hw
    refine xw_getr fr_M_13 d_M_counts_16 hA hB ?_
    refine xw_iload_n d_M_counts_19 rfl rfl ?_
    obtain ⟨ar29, x9, hA, hB, hC, hw⟩ := hw
    refine xw_iaload (t := 0) rfl d_M_counts_20 hA hB hC ?_
    refine xw_icmp_ne (tgt := 61) d_M_counts_21 (by decide) (fun c28 => ?_) (fun c28 => ?_)
    · have hw := hw.1 c28
      refine xw_iconst (v := 0) d_M_counts_61 (by decide) ?_
      exact xw_zreturn rfl hw.1 d_M_counts_62 hw.2
    · have hw := hw.2 c28
      refine xw_aload_n d_M_counts_24 rfl rfl ?_
      obtain ⟨f10, a11, hA, hB, hw⟩ := hw
      refine xw_getr fr_M_100 d_M_counts_25 hA hB ?_
      refine xw_iconst (v := 4) d_M_counts_28 (by decide) ?_
      obtain ⟨ar27, x12, hA, hB, hC, hw⟩ := hw
      refine xw_iaload (t := 0) rfl d_M_counts_29 hA hB hC ?_
      refine xw_aload_n d_M_counts_30 rfl rfl ?_
      obtain ⟨f13, a14, hA, hB, hw⟩ := hw
      refine xw_getr fr_M_22 d_M_counts_31 hA hB ?_
      refine xw_iload_n d_M_counts_34 rfl rfl ?_
      obtain ⟨ar26, x15, hA, hB, hC, hw⟩ := hw
      refine xw_iaload (t := 0) rfl d_M_counts_35 hA hB hC ?_
      refine xw_icmp_ne (tgt := 61) d_M_counts_36 (by decide) (fun c25 => ?_) (fun c25 => ?_)
      · have hw := hw.1 c25
        refine xw_iconst (v := 0) d_M_counts_61 (by decide) ?_
        exact xw_zreturn rfl hw.1 d_M_counts_62 hw.2
      · have hw := hw.2 c25
        refine xw_aload_n d_M_counts_39 rfl rfl ?_
        obtain ⟨f16, a17, hA, hB, hw⟩ := hw
        refine xw_getr fr_M_67 d_M_counts_40 hA hB ?_
        refine xw_iload_n d_M_counts_43 rfl rfl ?_
        obtain ⟨ar24, x18, hA, hB, hC, hw⟩ := hw
        refine xw_iaload (t := 0) rfl d_M_counts_44 hA hB hC ?_
        refine xw_aload_n d_M_counts_45 rfl rfl ?_
        obtain ⟨f19, a20, hA, hB, hw⟩ := hw
        refine xw_getr fr_M_100 d_M_counts_46 hA hB ?_
        refine xw_iconst (v := 1) d_M_counts_49 (by decide) ?_
        obtain ⟨ar23, x21, hA, hB, hC, hw⟩ := hw
        refine xw_iaload (t := 0) rfl d_M_counts_50 hA hB hC ?_
        refine xw_ishr d_M_counts_51 ?_
        refine xw_iconst (v := 1) d_M_counts_52 (by decide) ?_
        refine xw_iand d_M_counts_53 ?_
        refine xw_if_ne (tgt := 61) d_M_counts_54 (by decide) (fun c22 => ?_) (fun c22 => ?_)
        · have hw := hw.1 c22
          refine xw_iconst (v := 0) d_M_counts_61 (by decide) ?_
          exact xw_zreturn rfl hw.1 d_M_counts_62 hw.2
        · have hw := hw.2 c22
          refine xw_iconst (v := 1) d_M_counts_57 (by decide) ?_
          refine xw_goto (tgt := 62) d_M_counts_58 (by decide) ?_
          exact xw_zreturn rfl hw.1 d_M_counts_62 hw.2
set_option maxRecDepth 100000 in
def w_M_answer (Q : Option Value → xH → Prop) (this : Nat) (p1 : Int32) (p2 : Int32) (p3 : Int32) (p4 : Int32) (p5 : Int32) (p6 : Int32) (p7 : Int32) (h : xH) : Prop := ∃ (f1 : List Value) (a2 : Nat), h.2 this = some (.inr (8, f1)) ∧ f1[35]? = some (.ref a2) ∧ ∃ (ar14 : List Int32) (x3 : Int32), h.2 a2 = some (.inl (0, .inl ar14)) ∧ 0 ≤ (1 : Int32) ∧ ar14[(1 : Int32).toNatClampNeg]? = some x3 ∧ ∃ (f4 : List Value) (a5 : Nat), h.2 this = some (.inr (8, f4)) ∧ f4[35]? = some (.ref a5) ∧ ∃ (ar13 : List Int32) (x6 : Int32), h.2 a5 = some (.inl (0, .inl ar13)) ∧ 0 ≤ (3 : Int32) ∧ ar13[(3 : Int32).toNatClampNeg]? = some x6 ∧ ∃ (f7 : List Value) (a8 : Nat), h.2 this = some (.inr (8, f7)) ∧ f7[35]? = some (.ref a8) ∧ ∃ (ar12 : List Int32) (x9 : Int32), h.2 a8 = some (.inl (0, .inl ar12)) ∧ 0 ≤ (4 : Int32) ∧ ar12[(4 : Int32).toNatClampNeg]? = some x9 ∧ (∃ f11, h.2 this = some (.inr (8, f11))) ∧ w_M_send (fun v h10 => v = none ∧ Q none h10) this p1 p2 x3 x6 x9 p7 p3 p4 p5 p6 0 h
set_option maxRecDepth 100000 in
set_option maxHeartbeats 4000000 in
theorem x_M_answer {sc : List Int32} {Q : Option Value → xH → Prop} {this : Nat} {p1 : Int32} {p2 : Int32} {p3 : Int32} {p4 : Int32} {p5 : Int32} {p6 : Int32} {p7 : Int32} {h : xH} (hw : w_M_answer Q this p1 p2 p3 p4 p5 p6 p7 h) : xMet sc m_M_answer 1 0 0 [.ref (this), .int (p1), .int (p2), .int (p3), .int (p4), .int (p5), .int (p6), .int (p7)] h Q := by
  unfold w_M_answer at hw
  refine xMet.of2 cw_M_answer rfl rfl ?_
  show xW sc m_M_answer 1 0 0 0 [some (.ref (this)), some (.int (p1)), some (.int (p2)), some (.int (p3)), some (.int (p4)), some (.int (p5)), some (.int (p6)), some (.int (p7))] [] h Q
  refine xw_aload_n d_M_answer_0 rfl rfl ?_
  refine xw_iload_n d_M_answer_1 rfl rfl ?_
  refine xw_iload_n d_M_answer_2 rfl rfl ?_
  refine xw_aload_n d_M_answer_3 rfl rfl ?_
  obtain ⟨f1, a2, hA, hB, hw⟩ := hw
  refine xw_getr fr_M_100 d_M_answer_4 hA hB ?_
  refine xw_iconst (v := 1) d_M_answer_7 (by decide) ?_
  obtain ⟨ar14, x3, hA, hB, hC, hw⟩ := hw
  refine xw_iaload (t := 0) rfl d_M_answer_8 hA hB hC ?_
  refine xw_aload_n d_M_answer_9 rfl rfl ?_
  obtain ⟨f4, a5, hA, hB, hw⟩ := hw
  refine xw_getr fr_M_100 d_M_answer_10 hA hB ?_
  refine xw_iconst (v := 3) d_M_answer_13 (by decide) ?_
  obtain ⟨ar13, x6, hA, hB, hC, hw⟩ := hw
  refine xw_iaload (t := 0) rfl d_M_answer_14 hA hB hC ?_
  refine xw_aload_n d_M_answer_15 rfl rfl ?_
  obtain ⟨f7, a8, hA, hB, hw⟩ := hw
  refine xw_getr fr_M_100 d_M_answer_16 hA hB ?_
  refine xw_iconst (v := 4) d_M_answer_19 (by decide) ?_
  obtain ⟨ar12, x9, hA, hB, hC, hw⟩ := hw
  refine xw_iaload (t := 0) rfl d_M_answer_20 hA hB hC ?_
  refine xw_iload d_M_answer_21 rfl ?_
  refine xw_iload_n d_M_answer_23 rfl rfl ?_
  refine xw_iload d_M_answer_24 rfl ?_
  refine xw_iload d_M_answer_26 rfl ?_
  refine xw_iload d_M_answer_28 rfl ?_
  refine xw_iconst (v := 0) d_M_answer_30 (by decide) ?_
  obtain ⟨⟨f11, hA⟩, hw⟩ := hw
  refine xc_V11n lk_M_138 in_M_send d_M_answer_31 (x_M_send hw) rfl hA rfl ?_
  intro h10 hw
  exact xw_return rfl d_M_answer_34 hw
set_option maxRecDepth 100000 in
def w_M_hasAnswered (Q : Option Value → xH → Prop) (this : Nat) (p1 : Int32) (h : xH) : Prop := ∃ (f1 : List Value) (a2 : Nat), h.2 this = some (.inr (8, f1)) ∧ f1[21]? = some (.ref a2) ∧ ∃ (ar12 : List Int32) (x3 : Int32), h.2 a2 = some (.inl (0, .inl ar12)) ∧ 0 ≤ p1 ∧ ar12[p1.toNatClampNeg]? = some x3 ∧ ∃ (f4 : List Value) (a5 : Nat), h.2 this = some (.inr (8, f4)) ∧ f4[35]? = some (.ref a5) ∧ ∃ (ar11 : List Int32) (x6 : Int32), h.2 a5 = some (.inl (0, .inl ar11)) ∧ 0 ≤ (1 : Int32) ∧ ar11[(1 : Int32).toNatClampNeg]? = some x6 ∧ ∃ ar7, h.2 a2 = some (.inl (0, .inl ar7)) ∧ 0 ≤ p1 ∧ p1.toNatClampNeg < ar7.length ∧ ∀ h8, h8 = xu h a2 (.inl (0, .inl (ar7.set p1.toNatClampNeg (x3 ||| ((1 : Int32) <<< (x6 &&& 31)))))) → (∃ f10, h8.2 this = some (.inr (8, f10))) ∧ w_M_goesOn (fun v h9 => v = none ∧ Q none h9) this p1 h8
set_option maxRecDepth 100000 in
set_option maxHeartbeats 4000000 in
theorem x_M_hasAnswered {sc : List Int32} {Q : Option Value → xH → Prop} {this : Nat} {p1 : Int32} {h : xH} (hw : w_M_hasAnswered Q this p1 h) : xMet sc m_M_hasAnswered 9 0 0 [.ref (this), .int (p1)] h Q := by
  unfold w_M_hasAnswered at hw
  refine xMet.of2 cw_M_hasAnswered rfl rfl ?_
  show xW sc m_M_hasAnswered 9 0 0 0 [some (.ref (this)), some (.int (p1))] [] h Q
  refine xw_aload_n d_M_hasAnswered_0 rfl rfl ?_
  obtain ⟨f1, a2, hA, hB, hw⟩ := hw
  refine xw_getr fr_M_67 d_M_hasAnswered_1 hA hB ?_
  refine xw_iload_n d_M_hasAnswered_4 rfl rfl ?_
  refine xw_dup2 d_M_hasAnswered_5 rfl rfl ?_
  obtain ⟨ar12, x3, hA, hB, hC, hw⟩ := hw
  refine xw_iaload (t := 0) rfl d_M_hasAnswered_6 hA hB hC ?_
  refine xw_iconst (v := 1) d_M_hasAnswered_7 (by decide) ?_
  refine xw_aload_n d_M_hasAnswered_8 rfl rfl ?_
  obtain ⟨f4, a5, hA, hB, hw⟩ := hw
  refine xw_getr fr_M_100 d_M_hasAnswered_9 hA hB ?_
  refine xw_iconst (v := 1) d_M_hasAnswered_12 (by decide) ?_
  obtain ⟨ar11, x6, hA, hB, hC, hw⟩ := hw
  refine xw_iaload (t := 0) rfl d_M_hasAnswered_13 hA hB hC ?_
  refine xw_ishl d_M_hasAnswered_14 ?_
  refine xw_ior d_M_hasAnswered_15 ?_
  obtain ⟨ar7, hA, hB, hC, hw⟩ := hw
  refine xw_iastore (t := 0) rfl d_M_hasAnswered_16 hA hB hC ?_
  generalize hh : xu h a2 (.inl (0, .inl (ar7.set p1.toNatClampNeg (x3 ||| ((1 : Int32) <<< (x6 &&& 31)))))) = h8
  have hw := hw h8 hh.symm
  refine xw_aload_n d_M_hasAnswered_17 rfl rfl ?_
  refine xw_iload_n d_M_hasAnswered_18 rfl rfl ?_
  obtain ⟨⟨f10, hA⟩, hw⟩ := hw
  refine xc_V1n lk_M_216 in_M_goesOn d_M_hasAnswered_19 (x_M_goesOn hw) rfl hA rfl ?_
  intro h9 hw
  exact xw_return rfl d_M_hasAnswered_22 hw
set_option maxRecDepth 100000 in
def w_M_storeAll_2 (Q : Option Value → xH → Prop) : Nat → Nat → Int32 → Int32 → xH → Prop
  | 0, _, _, _, _ => False
  | n + 1, l0, l1, l2, h => ((4 ≤ l2 → Q none h) ∧ (¬ 4 ≤ l2 → ∃ (f1 : List Value) (a2 : Nat), h.2 l0 = some (.inr (8, f1)) ∧ f1[35]? = some (.ref a2) ∧ ∃ (ar14 : List Int32) (x3 : Int32), h.2 a2 = some (.inl (0, .inl ar14)) ∧ 0 ≤ (41 + (3 * l2) : Int32) ∧ ar14[(41 + (3 * l2) : Int32).toNatClampNeg]? = some x3 ∧ ∃ (f4 : List Value) (a5 : Nat), h.2 l0 = some (.inr (8, f4)) ∧ f4[35]? = some (.ref a5) ∧ ∃ (ar13 : List Int32) (x6 : Int32), h.2 a5 = some (.inl (0, .inl ar13)) ∧ 0 ≤ ((41 + (3 * l2)) + 1 : Int32) ∧ ar13[((41 + (3 * l2)) + 1 : Int32).toNatClampNeg]? = some x6 ∧ ∃ (f7 : List Value) (a8 : Nat), h.2 l0 = some (.inr (8, f7)) ∧ f7[35]? = some (.ref a8) ∧ ∃ (ar12 : List Int32) (x9 : Int32), h.2 a8 = some (.inl (0, .inl ar12)) ∧ 0 ≤ ((41 + (3 * l2)) + 2 : Int32) ∧ ar12[((41 + (3 * l2)) + 2 : Int32).toNatClampNeg]? = some x9 ∧ (∃ f11, h.2 l0 = some (.inr (8, f11))) ∧ w_M_store (fun v h10 => v = none ∧ w_M_storeAll_2 Q n (l0) (l1) (l2 + 1) h10) l0 l1 l2 x3 x6 x9 h))
set_option maxRecDepth 100000 in
set_option maxHeartbeats 4000000 in
theorem p_M_storeAll_2 {sc : List Int32} {Q : Option Value → xH → Prop} : ∀ (n : Nat) (l0 : Nat) (l1 : Int32) (l2 : Int32) (h : xH), w_M_storeAll_2 Q n l0 l1 l2 h → xW sc m_M_storeAll 3 0 0 2 [some (.ref (l0)), some (.int (l1)), some (.int (l2))] [] h Q := by
  intro n
  induction n with
  | zero => intro l0 l1 l2 h hw; exact False.elim hw
  | succ n ih =>
    intro l0 l1 l2 h hw
    rw [w_M_storeAll_2] at hw
    refine xw_iload_n d_M_storeAll_2 rfl rfl ?_
    refine xw_iconst (v := 4) d_M_storeAll_3 (by decide) ?_
    refine xw_icmp_ge (tgt := 56) d_M_storeAll_4 (by decide) (fun c15 => ?_) (fun c15 => ?_)
    · have hw := hw.1 c15
      exact xw_return rfl d_M_storeAll_56 hw
    · have hw := hw.2 c15
      refine xw_aload_n d_M_storeAll_7 rfl rfl ?_
      refine xw_iload_n d_M_storeAll_8 rfl rfl ?_
      refine xw_iload_n d_M_storeAll_9 rfl rfl ?_
      refine xw_aload_n d_M_storeAll_10 rfl rfl ?_
      obtain ⟨f1, a2, hA, hB, hw⟩ := hw
      refine xw_getr fr_M_100 d_M_storeAll_11 hA hB ?_
      refine xw_bipush (v := 41) d_M_storeAll_14 (by decide) ?_
      refine xw_iconst (v := 3) d_M_storeAll_16 (by decide) ?_
      refine xw_iload_n d_M_storeAll_17 rfl rfl ?_
      refine xw_imul d_M_storeAll_18 ?_
      refine xw_iadd d_M_storeAll_19 ?_
      obtain ⟨ar14, x3, hA, hB, hC, hw⟩ := hw
      refine xw_iaload (t := 0) rfl d_M_storeAll_20 hA hB hC ?_
      refine xw_aload_n d_M_storeAll_21 rfl rfl ?_
      obtain ⟨f4, a5, hA, hB, hw⟩ := hw
      refine xw_getr fr_M_100 d_M_storeAll_22 hA hB ?_
      refine xw_bipush (v := 41) d_M_storeAll_25 (by decide) ?_
      refine xw_iconst (v := 3) d_M_storeAll_27 (by decide) ?_
      refine xw_iload_n d_M_storeAll_28 rfl rfl ?_
      refine xw_imul d_M_storeAll_29 ?_
      refine xw_iadd d_M_storeAll_30 ?_
      refine xw_iconst (v := 1) d_M_storeAll_31 (by decide) ?_
      refine xw_iadd d_M_storeAll_32 ?_
      obtain ⟨ar13, x6, hA, hB, hC, hw⟩ := hw
      refine xw_iaload (t := 0) rfl d_M_storeAll_33 hA hB hC ?_
      refine xw_aload_n d_M_storeAll_34 rfl rfl ?_
      obtain ⟨f7, a8, hA, hB, hw⟩ := hw
      refine xw_getr fr_M_100 d_M_storeAll_35 hA hB ?_
      refine xw_bipush (v := 41) d_M_storeAll_38 (by decide) ?_
      refine xw_iconst (v := 3) d_M_storeAll_40 (by decide) ?_
      refine xw_iload_n d_M_storeAll_41 rfl rfl ?_
      refine xw_imul d_M_storeAll_42 ?_
      refine xw_iadd d_M_storeAll_43 ?_
      refine xw_iconst (v := 2) d_M_storeAll_44 (by decide) ?_
      refine xw_iadd d_M_storeAll_45 ?_
      obtain ⟨ar12, x9, hA, hB, hC, hw⟩ := hw
      refine xw_iaload (t := 0) rfl d_M_storeAll_46 hA hB hC ?_
      obtain ⟨⟨f11, hA⟩, hw⟩ := hw
      refine xc_V5n lk_M_150 in_M_store d_M_storeAll_47 (x_M_store hw) rfl hA rfl ?_
      intro h10 hw
      refine xs_iinc (v := l2 + 1) (lv' := [some (.ref (l0)), some (.int (l1)), some (.int (l2 + 1))]) d_M_storeAll_50 rfl rfl rfl ?_
      refine xw_goto (tgt := 2) d_M_storeAll_53 (by decide) ?_
      exact ih (l0) (l1) (l2 + 1) h10 hw
set_option maxRecDepth 100000 in
def w_M_storeAll (Q : Option Value → xH → Prop) (this : Nat) (p1 : Int32) (h : xH) : Prop := ∃ n1, w_M_storeAll_2 Q n1 (this) (p1) (0) h
set_option maxRecDepth 100000 in
set_option maxHeartbeats 4000000 in
theorem x_M_storeAll {sc : List Int32} {Q : Option Value → xH → Prop} {this : Nat} {p1 : Int32} {h : xH} (hw : w_M_storeAll Q this p1 h) : xMet sc m_M_storeAll 3 0 0 [.ref (this), .int (p1)] h Q := by
  unfold w_M_storeAll at hw
  refine xMet.of2 cw_M_storeAll rfl rfl ?_
  show xW sc m_M_storeAll 3 0 0 0 [some (.ref (this)), some (.int (p1)), none] [] h Q
  refine xw_iconst (v := 0) d_M_storeAll_0 (by decide) ?_
  refine xs_istore_n (lv' := [some (.ref (this)), some (.int (p1)), some (.int (0))]) d_M_storeAll_1 rfl rfl rfl ?_
  obtain ⟨n1, hw⟩ := hw
  exact p_M_storeAll_2  n1 (this) (p1) (0) h hw
set_option maxRecDepth 100000 in
def w_M_merges_196 (Q : Option Value → xH → Prop) (L115 : Nat → Int32 → Int32 → Int32 → Int32 → xH → Prop) (l0 : Nat) (l1 : Int32) (l2 : Int32) (l3 : Int32) (l4 : Int32) (l5 : Int32) (h : xH) : Prop := L115 (l0) (l1) (l2) (l3) (l4 + 1) h
set_option maxRecDepth 100000 in
set_option maxHeartbeats 4000000 in
theorem p_M_merges_196 {sc : List Int32} {Q : Option Value → xH → Prop} {L115 : Nat → Int32 → Int32 → Int32 → Int32 → xH → Prop} (hL115 : ∀ l0 l1 l2 l3 l4 h, L115 l0 l1 l2 l3 l4 h → xW sc m_M_merges 10 0 0 115 [some (.ref (l0)), some (.int (l1)), some (.int (l2)), some (.int (l3)), some (.int (l4)), none, none] [] h Q) (l0 : Nat) (l1 : Int32) (l2 : Int32) (l3 : Int32) (l4 : Int32) (l5 : Int32) (h : xH) (hw : w_M_merges_196 Q L115 l0 l1 l2 l3 l4 l5 h) : xW sc m_M_merges 10 0 0 196 [some (.ref (l0)), some (.int (l1)), some (.int (l2)), some (.int (l3)), some (.int (l4)), some (.int (l5)), none] [] h Q := by
  unfold w_M_merges_196 at hw
  refine xs_iinc (v := l4 + 1) (lv' := [some (.ref (l0)), some (.int (l1)), some (.int (l2)), some (.int (l3)), some (.int (l4 + 1)), some (.int (l5)), none]) d_M_merges_196 rfl rfl rfl ?_
  refine xw_goto (tgt := 115) d_M_merges_199 (by decide) ?_
  refine xs_drop (lv' := [some (.ref (l0)), some (.int (l1)), some (.int (l2)), some (.int (l3)), some (.int (l4 + 1)), none, none]) 5 rfl ?_
  exact hL115 (l0) (l1) (l2) (l3) (l4 + 1) h hw
set_option maxRecDepth 100000 in
def w_M_merges_115 (Q : Option Value → xH → Prop) : Nat → Nat → Int32 → Int32 → Int32 → Int32 → xH → Prop
  | 0, _, _, _, _, _, _ => False
  | n + 1, l0, l1, l2, l3, l4, h => ((16 ≤ l4 → (∃ f2, h.2 l0 = some (.inr (8, f2))) ∧ w_M_looks (fun v h1 => v = none ∧ Q none h1) l0 l1 l3 h) ∧ (¬ 16 ≤ l4 → ∃ (f3 : List Value) (a4 : Nat), h.2 l0 = some (.inr (8, f3)) ∧ f3[35]? = some (.ref a4) ∧ ∃ (ar27 : List Int32) (x5 : Int32), h.2 a4 = some (.inl (0, .inl ar27)) ∧ 0 ≤ (9 + (2 * l4) : Int32) ∧ ar27[(9 + (2 * l4) : Int32).toNatClampNeg]? = some x5 ∧ ∃ (f6 : List Value) (a7 : Nat), h.2 l0 = some (.inr (8, f6)) ∧ f6[9]? = some (.ref a7) ∧ ∃ (ar26 : List Int32) (x8 : Int32), h.2 a7 = some (.inl (0, .inl ar26)) ∧ 0 ≤ ((16 * l1) + l4 : Int32) ∧ ar26[((16 * l1) + l4 : Int32).toNatClampNeg]? = some x8 ∧ ((x8 < x5 → ∃ (f9 : List Value) (a10 : Nat), h.2 l0 = some (.inr (8, f9)) ∧ f9[9]? = some (.ref a10) ∧ ∃ (f11 : List Value) (a12 : Nat), h.2 l0 = some (.inr (8, f11)) ∧ f11[35]? = some (.ref a12) ∧ ∃ (ar24 : List Int32) (x13 : Int32), h.2 a12 = some (.inl (0, .inl ar24)) ∧ 0 ≤ (9 + (2 * l4) : Int32) ∧ ar24[(9 + (2 * l4) : Int32).toNatClampNeg]? = some x13 ∧ ∃ ar14, h.2 a10 = some (.inl (0, .inl ar14)) ∧ 0 ≤ ((16 * l1) + l4 : Int32) ∧ ((16 * l1) + l4 : Int32).toNatClampNeg < ar14.length ∧ ∀ h15, h15 = xu h a10 (.inl (0, .inl (ar14.set ((16 * l1) + l4 : Int32).toNatClampNeg x13))) → ∃ (f16 : List Value) (a17 : Nat), h15.2 l0 = some (.inr (8, f16)) ∧ f16[10]? = some (.ref a17) ∧ ∃ (f18 : List Value) (a19 : Nat), h15.2 l0 = some (.inr (8, f18)) ∧ f18[35]? = some (.ref a19) ∧ ∃ (ar23 : List Int32) (x20 : Int32), h15.2 a19 = some (.inl (0, .inl ar23)) ∧ 0 ≤ ((9 + (2 * l4)) + 1 : Int32) ∧ ar23[((9 + (2 * l4)) + 1 : Int32).toNatClampNeg]? = some x20 ∧ ∃ ar21, h15.2 a17 = some (.inl (0, .inl ar21)) ∧ 0 ≤ ((16 * l1) + l4 : Int32) ∧ ((16 * l1) + l4 : Int32).toNatClampNeg < ar21.length ∧ ∀ h22, h22 = xu h15 a17 (.inl (0, .inl (ar21.set ((16 * l1) + l4 : Int32).toNatClampNeg x20))) → w_M_merges_196 Q (fun y0 y1 y2 y3 y4 yh => w_M_merges_115 Q n y0 y1 y2 y3 y4 yh) (l0) (l1) (l2) (l3) (l4) ((16 * l1) + l4) h22) ∧ (¬ x8 < x5 → w_M_merges_196 Q (fun y0 y1 y2 y3 y4 yh => w_M_merges_115 Q n y0 y1 y2 y3 y4 yh) (l0) (l1) (l2) (l3) (l4) ((16 * l1) + l4) h))))
set_option maxRecDepth 100000 in
set_option maxHeartbeats 4000000 in
theorem p_M_merges_115 {sc : List Int32} {Q : Option Value → xH → Prop} : ∀ (n : Nat) (l0 : Nat) (l1 : Int32) (l2 : Int32) (l3 : Int32) (l4 : Int32) (h : xH), w_M_merges_115 Q n l0 l1 l2 l3 l4 h → xW sc m_M_merges 10 0 0 115 [some (.ref (l0)), some (.int (l1)), some (.int (l2)), some (.int (l3)), some (.int (l4)), none, none] [] h Q := by
  intro n
  induction n with
  | zero => intro l0 l1 l2 l3 l4 h hw; exact False.elim hw
  | succ n ih =>
    intro l0 l1 l2 l3 l4 h hw
    rw [w_M_merges_115] at hw
    refine xw_iload d_M_merges_115 rfl ?_
    refine xw_bipush (v := 16) d_M_merges_117 (by decide) ?_
    refine xw_icmp_ge (tgt := 202) d_M_merges_119 (by decide) (fun c28 => ?_) (fun c28 => ?_)
    · have hw := hw.1 c28
      refine xw_aload_n d_M_merges_202 rfl rfl ?_
      refine xw_iload_n d_M_merges_203 rfl rfl ?_
      refine xw_iload_n d_M_merges_204 rfl rfl ?_
      obtain ⟨⟨f2, hA⟩, hw⟩ := hw
      refine xc_V2n lk_M_219 in_M_looks d_M_merges_205 (x_M_looks hw) rfl hA rfl ?_
      intro h1 hw
      exact xw_return rfl d_M_merges_208 hw
    · have hw := hw.2 c28
      refine xw_bipush (v := 16) d_M_merges_122 (by decide) ?_
      refine xw_iload_n d_M_merges_124 rfl rfl ?_
      refine xw_imul d_M_merges_125 ?_
      refine xw_iload d_M_merges_126 rfl ?_
      refine xw_iadd d_M_merges_128 ?_
      refine xs_istore (lv' := [some (.ref (l0)), some (.int (l1)), some (.int (l2)), some (.int (l3)), some (.int (l4)), some (.int ((16 * l1) + l4)), none]) d_M_merges_129 rfl rfl ?_
      refine xw_aload_n d_M_merges_131 rfl rfl ?_
      obtain ⟨f3, a4, hA, hB, hw⟩ := hw
      refine xw_getr fr_M_100 d_M_merges_132 hA hB ?_
      refine xw_bipush (v := 9) d_M_merges_135 (by decide) ?_
      refine xw_iconst (v := 2) d_M_merges_137 (by decide) ?_
      refine xw_iload d_M_merges_138 rfl ?_
      refine xw_imul d_M_merges_140 ?_
      refine xw_iadd d_M_merges_141 ?_
      obtain ⟨ar27, x5, hA, hB, hC, hw⟩ := hw
      refine xw_iaload (t := 0) rfl d_M_merges_142 hA hB hC ?_
      refine xw_aload_n d_M_merges_143 rfl rfl ?_
      obtain ⟨f6, a7, hA, hB, hw⟩ := hw
      refine xw_getr fr_M_34 d_M_merges_144 hA hB ?_
      refine xw_iload d_M_merges_147 rfl ?_
      obtain ⟨ar26, x8, hA, hB, hC, hw⟩ := hw
      refine xw_iaload (t := 0) rfl d_M_merges_149 hA hB hC ?_
      refine xw_icmp_gt (tgt := 156) d_M_merges_150 (by decide) (fun c25 => ?_) (fun c25 => ?_)
      · have hw := hw.1 c25
        refine xw_aload_n d_M_merges_156 rfl rfl ?_
        obtain ⟨f9, a10, hA, hB, hw⟩ := hw
        refine xw_getr fr_M_34 d_M_merges_157 hA hB ?_
        refine xw_iload d_M_merges_160 rfl ?_
        refine xw_aload_n d_M_merges_162 rfl rfl ?_
        obtain ⟨f11, a12, hA, hB, hw⟩ := hw
        refine xw_getr fr_M_100 d_M_merges_163 hA hB ?_
        refine xw_bipush (v := 9) d_M_merges_166 (by decide) ?_
        refine xw_iconst (v := 2) d_M_merges_168 (by decide) ?_
        refine xw_iload d_M_merges_169 rfl ?_
        refine xw_imul d_M_merges_171 ?_
        refine xw_iadd d_M_merges_172 ?_
        obtain ⟨ar24, x13, hA, hB, hC, hw⟩ := hw
        refine xw_iaload (t := 0) rfl d_M_merges_173 hA hB hC ?_
        obtain ⟨ar14, hA, hB, hC, hw⟩ := hw
        refine xw_iastore (t := 0) rfl d_M_merges_174 hA hB hC ?_
        generalize hh : xu h a10 (.inl (0, .inl (ar14.set ((16 * l1) + l4 : Int32).toNatClampNeg x13))) = h15
        have hw := hw h15 hh.symm
        refine xw_aload_n d_M_merges_175 rfl rfl ?_
        obtain ⟨f16, a17, hA, hB, hw⟩ := hw
        refine xw_getr fr_M_37 d_M_merges_176 hA hB ?_
        refine xw_iload d_M_merges_179 rfl ?_
        refine xw_aload_n d_M_merges_181 rfl rfl ?_
        obtain ⟨f18, a19, hA, hB, hw⟩ := hw
        refine xw_getr fr_M_100 d_M_merges_182 hA hB ?_
        refine xw_bipush (v := 9) d_M_merges_185 (by decide) ?_
        refine xw_iconst (v := 2) d_M_merges_187 (by decide) ?_
        refine xw_iload d_M_merges_188 rfl ?_
        refine xw_imul d_M_merges_190 ?_
        refine xw_iadd d_M_merges_191 ?_
        refine xw_iconst (v := 1) d_M_merges_192 (by decide) ?_
        refine xw_iadd d_M_merges_193 ?_
        obtain ⟨ar23, x20, hA, hB, hC, hw⟩ := hw
        refine xw_iaload (t := 0) rfl d_M_merges_194 hA hB hC ?_
        obtain ⟨ar21, hA, hB, hC, hw⟩ := hw
        refine xw_iastore (t := 0) rfl d_M_merges_195 hA hB hC ?_
        generalize hh : xu h15 a17 (.inl (0, .inl (ar21.set ((16 * l1) + l4 : Int32).toNatClampNeg x20))) = h22
        have hw := hw h22 hh.symm
        exact p_M_merges_196 ih (l0) (l1) (l2) (l3) (l4) ((16 * l1) + l4) h22 hw
      · have hw := hw.2 c25
        refine xw_goto (tgt := 196) d_M_merges_153 (by decide) ?_
        exact p_M_merges_196 ih (l0) (l1) (l2) (l3) (l4) ((16 * l1) + l4) h hw
set_option maxRecDepth 100000 in
def w_M_merges_92 (Q : Option Value → xH → Prop) (L7 : Nat → Int32 → Int32 → Int32 → Int32 → xH → Prop) (l0 : Nat) (l1 : Int32) (l2 : Int32) (l3 : Int32) (l4 : Int32) (l5 : Int32) (l6 : Int32) (s0 : Int32) (h : xH) : Prop := L7 (l0) (l1) (l2) (s0) (l4 + 1) h
set_option maxRecDepth 100000 in
set_option maxHeartbeats 4000000 in
theorem p_M_merges_92 {sc : List Int32} {Q : Option Value → xH → Prop} {L7 : Nat → Int32 → Int32 → Int32 → Int32 → xH → Prop} (hL7 : ∀ l0 l1 l2 l3 l4 h, L7 l0 l1 l2 l3 l4 h → xW sc m_M_merges 10 0 0 7 [some (.ref (l0)), some (.int (l1)), some (.int (l2)), some (.int (l3)), some (.int (l4)), none, none] [] h Q) (l0 : Nat) (l1 : Int32) (l2 : Int32) (l3 : Int32) (l4 : Int32) (l5 : Int32) (l6 : Int32) (s0 : Int32) (h : xH) (hw : w_M_merges_92 Q L7 l0 l1 l2 l3 l4 l5 l6 s0 h) : xW sc m_M_merges 10 0 0 92 [some (.ref (l0)), some (.int (l1)), some (.int (l2)), some (.int (l3)), some (.int (l4)), some (.int (l5)), some (.int (l6))] [.int (s0)] h Q := by
  unfold w_M_merges_92 at hw
  refine xs_istore_n (lv' := [some (.ref (l0)), some (.int (l1)), some (.int (l2)), some (.int (s0)), some (.int (l4)), some (.int (l5)), some (.int (l6))]) d_M_merges_92 rfl rfl rfl ?_
  refine xs_iinc (v := l4 + 1) (lv' := [some (.ref (l0)), some (.int (l1)), some (.int (l2)), some (.int (s0)), some (.int (l4 + 1)), some (.int (l5)), some (.int (l6))]) d_M_merges_93 rfl rfl rfl ?_
  refine xw_goto (tgt := 7) d_M_merges_96 (by decide) ?_
  refine xs_drop (lv' := [some (.ref (l0)), some (.int (l1)), some (.int (l2)), some (.int (s0)), some (.int (l4 + 1)), none, some (.int (l6))]) 5 rfl ?_
  refine xs_drop (lv' := [some (.ref (l0)), some (.int (l1)), some (.int (l2)), some (.int (s0)), some (.int (l4 + 1)), none, none]) 6 rfl ?_
  exact hL7 (l0) (l1) (l2) (s0) (l4 + 1) h hw
set_option maxRecDepth 100000 in
def w_M_merges_91 (Q : Option Value → xH → Prop) (L7 : Nat → Int32 → Int32 → Int32 → Int32 → xH → Prop) (l0 : Nat) (l1 : Int32) (l2 : Int32) (l3 : Int32) (l4 : Int32) (l5 : Int32) (l6 : Int32) (h : xH) : Prop := w_M_merges_92 Q L7 (l0) (l1) (l2) (l3) (l4) (l5) (l6) (0) h
set_option maxRecDepth 100000 in
set_option maxHeartbeats 4000000 in
theorem p_M_merges_91 {sc : List Int32} {Q : Option Value → xH → Prop} {L7 : Nat → Int32 → Int32 → Int32 → Int32 → xH → Prop} (hL7 : ∀ l0 l1 l2 l3 l4 h, L7 l0 l1 l2 l3 l4 h → xW sc m_M_merges 10 0 0 7 [some (.ref (l0)), some (.int (l1)), some (.int (l2)), some (.int (l3)), some (.int (l4)), none, none] [] h Q) (l0 : Nat) (l1 : Int32) (l2 : Int32) (l3 : Int32) (l4 : Int32) (l5 : Int32) (l6 : Int32) (h : xH) (hw : w_M_merges_91 Q L7 l0 l1 l2 l3 l4 l5 l6 h) : xW sc m_M_merges 10 0 0 91 [some (.ref (l0)), some (.int (l1)), some (.int (l2)), some (.int (l3)), some (.int (l4)), some (.int (l5)), some (.int (l6))] [] h Q := by
  unfold w_M_merges_91 at hw
  refine xw_iconst (v := 0) d_M_merges_91 (by decide) ?_
  exact p_M_merges_92 hL7 (l0) (l1) (l2) (l3) (l4) (l5) (l6) (0) h hw
set_option maxRecDepth 100000 in
def w_M_merges_87 (Q : Option Value → xH → Prop) (L7 : Nat → Int32 → Int32 → Int32 → Int32 → xH → Prop) (l0 : Nat) (l1 : Int32) (l2 : Int32) (l3 : Int32) (l4 : Int32) (l5 : Int32) (l6 : Int32) (h : xH) : Prop := w_M_merges_92 Q L7 (l0) (l1) (l2) (l3) (l4) (l5) (l6) (1) h
set_option maxRecDepth 100000 in
set_option maxHeartbeats 4000000 in
theorem p_M_merges_87 {sc : List Int32} {Q : Option Value → xH → Prop} {L7 : Nat → Int32 → Int32 → Int32 → Int32 → xH → Prop} (hL7 : ∀ l0 l1 l2 l3 l4 h, L7 l0 l1 l2 l3 l4 h → xW sc m_M_merges 10 0 0 7 [some (.ref (l0)), some (.int (l1)), some (.int (l2)), some (.int (l3)), some (.int (l4)), none, none] [] h Q) (l0 : Nat) (l1 : Int32) (l2 : Int32) (l3 : Int32) (l4 : Int32) (l5 : Int32) (l6 : Int32) (h : xH) (hw : w_M_merges_87 Q L7 l0 l1 l2 l3 l4 l5 l6 h) : xW sc m_M_merges 10 0 0 87 [some (.ref (l0)), some (.int (l1)), some (.int (l2)), some (.int (l3)), some (.int (l4)), some (.int (l5)), some (.int (l6))] [] h Q := by
  unfold w_M_merges_87 at hw
  refine xw_iconst (v := 1) d_M_merges_87 (by decide) ?_
  refine xw_goto (tgt := 92) d_M_merges_88 (by decide) ?_
  exact p_M_merges_92 hL7 (l0) (l1) (l2) (l3) (l4) (l5) (l6) (1) h hw
set_option maxRecDepth 100000 in
def w_M_merges_66 (Q : Option Value → xH → Prop) (L7 : Nat → Int32 → Int32 → Int32 → Int32 → xH → Prop) (l0 : Nat) (l1 : Int32) (l2 : Int32) (l3 : Int32) (l4 : Int32) (l5 : Int32) (l6 : Int32) (s0 : Int32) (h : xH) : Prop := ((¬ l3 = 0 → w_M_merges_87 Q L7 (l0) (l1) (s0) (l3) (l4) (l5) (l6) h) ∧ (l3 = 0 → ((l6 = 0 → w_M_merges_91 Q L7 (l0) (l1) (s0) (l3) (l4) (l5) (l6) h) ∧ (¬ l6 = 0 → ∃ (f1 : List Value) (a2 : Nat), h.2 l0 = some (.inr (8, f1)) ∧ f1[9]? = some (.ref a2) ∧ ∃ (ar5 : List Int32) (x3 : Int32), h.2 a2 = some (.inl (0, .inl ar5)) ∧ 0 ≤ l5 ∧ ar5[l5.toNatClampNeg]? = some x3 ∧ ((¬ x3 = 1 → w_M_merges_91 Q L7 (l0) (l1) (s0) (l3) (l4) (l5) (l6) h) ∧ (x3 = 1 → w_M_merges_87 Q L7 (l0) (l1) (s0) (l3) (l4) (l5) (l6) h))))))
set_option maxRecDepth 100000 in
set_option maxHeartbeats 4000000 in
theorem p_M_merges_66 {sc : List Int32} {Q : Option Value → xH → Prop} {L7 : Nat → Int32 → Int32 → Int32 → Int32 → xH → Prop} (hL7 : ∀ l0 l1 l2 l3 l4 h, L7 l0 l1 l2 l3 l4 h → xW sc m_M_merges 10 0 0 7 [some (.ref (l0)), some (.int (l1)), some (.int (l2)), some (.int (l3)), some (.int (l4)), none, none] [] h Q) (l0 : Nat) (l1 : Int32) (l2 : Int32) (l3 : Int32) (l4 : Int32) (l5 : Int32) (l6 : Int32) (s0 : Int32) (h : xH) (hw : w_M_merges_66 Q L7 l0 l1 l2 l3 l4 l5 l6 s0 h) : xW sc m_M_merges 10 0 0 66 [some (.ref (l0)), some (.int (l1)), some (.int (l2)), some (.int (l3)), some (.int (l4)), some (.int (l5)), some (.int (l6))] [.int (s0)] h Q := by
  unfold w_M_merges_66 at hw
  refine xs_istore_n (lv' := [some (.ref (l0)), some (.int (l1)), some (.int (s0)), some (.int (l3)), some (.int (l4)), some (.int (l5)), some (.int (l6))]) d_M_merges_66 rfl rfl rfl ?_
  refine xw_iload_n d_M_merges_67 rfl rfl ?_
  refine xw_if_ne (tgt := 87) d_M_merges_68 (by decide) (fun c7 => ?_) (fun c7 => ?_)
  · have hw := hw.1 c7
    exact p_M_merges_87 hL7 (l0) (l1) (s0) (l3) (l4) (l5) (l6) h hw
  · have hw := hw.2 c7
    refine xw_iload d_M_merges_71 rfl ?_
    refine xw_if_eq (tgt := 91) d_M_merges_73 (by decide) (fun c6 => ?_) (fun c6 => ?_)
    · have hw := hw.1 c6
      exact p_M_merges_91 hL7 (l0) (l1) (s0) (l3) (l4) (l5) (l6) h hw
    · have hw := hw.2 c6
      refine xw_aload_n d_M_merges_76 rfl rfl ?_
      obtain ⟨f1, a2, hA, hB, hw⟩ := hw
      refine xw_getr fr_M_34 d_M_merges_77 hA hB ?_
      refine xw_iload d_M_merges_80 rfl ?_
      obtain ⟨ar5, x3, hA, hB, hC, hw⟩ := hw
      refine xw_iaload (t := 0) rfl d_M_merges_82 hA hB hC ?_
      refine xw_iconst (v := 1) d_M_merges_83 (by decide) ?_
      refine xw_icmp_ne (tgt := 91) d_M_merges_84 (by decide) (fun c4 => ?_) (fun c4 => ?_)
      · have hw := hw.1 c4
        exact p_M_merges_91 hL7 (l0) (l1) (s0) (l3) (l4) (l5) (l6) h hw
      · have hw := hw.2 c4
        exact p_M_merges_87 hL7 (l0) (l1) (s0) (l3) (l4) (l5) (l6) h hw
set_option maxRecDepth 100000 in
def w_M_merges_61 (Q : Option Value → xH → Prop) (L7 : Nat → Int32 → Int32 → Int32 → Int32 → xH → Prop) (l0 : Nat) (l1 : Int32) (l2 : Int32) (l3 : Int32) (l4 : Int32) (l5 : Int32) (l6 : Int32) (h : xH) : Prop := w_M_merges_66 Q L7 (l0) (l1) (l2) (l3) (l4) (l5) (l6) (1) h
set_option maxRecDepth 100000 in
set_option maxHeartbeats 4000000 in
theorem p_M_merges_61 {sc : List Int32} {Q : Option Value → xH → Prop} {L7 : Nat → Int32 → Int32 → Int32 → Int32 → xH → Prop} (hL7 : ∀ l0 l1 l2 l3 l4 h, L7 l0 l1 l2 l3 l4 h → xW sc m_M_merges 10 0 0 7 [some (.ref (l0)), some (.int (l1)), some (.int (l2)), some (.int (l3)), some (.int (l4)), none, none] [] h Q) (l0 : Nat) (l1 : Int32) (l2 : Int32) (l3 : Int32) (l4 : Int32) (l5 : Int32) (l6 : Int32) (h : xH) (hw : w_M_merges_61 Q L7 l0 l1 l2 l3 l4 l5 l6 h) : xW sc m_M_merges 10 0 0 61 [some (.ref (l0)), some (.int (l1)), some (.int (l2)), some (.int (l3)), some (.int (l4)), some (.int (l5)), some (.int (l6))] [] h Q := by
  unfold w_M_merges_61 at hw
  refine xw_iconst (v := 1) d_M_merges_61 (by decide) ?_
  refine xw_goto (tgt := 66) d_M_merges_62 (by decide) ?_
  exact p_M_merges_66 hL7 (l0) (l1) (l2) (l3) (l4) (l5) (l6) (1) h hw
set_option maxRecDepth 100000 in
def w_M_merges_50 (Q : Option Value → xH → Prop) (L7 : Nat → Int32 → Int32 → Int32 → Int32 → xH → Prop) (l0 : Nat) (l1 : Int32) (l2 : Int32) (l3 : Int32) (l4 : Int32) (l5 : Int32) (s0 : Int32) (h : xH) : Prop := ((¬ l2 = 0 → w_M_merges_61 Q L7 (l0) (l1) (l2) (l3) (l4) (l5) (s0) h) ∧ (l2 = 0 → ((s0 = 0 → w_M_merges_66 Q L7 (l0) (l1) (l2) (l3) (l4) (l5) (s0) (0) h) ∧ (¬ s0 = 0 → w_M_merges_61 Q L7 (l0) (l1) (l2) (l3) (l4) (l5) (s0) h))))
set_option maxRecDepth 100000 in
set_option maxHeartbeats 4000000 in
theorem p_M_merges_50 {sc : List Int32} {Q : Option Value → xH → Prop} {L7 : Nat → Int32 → Int32 → Int32 → Int32 → xH → Prop} (hL7 : ∀ l0 l1 l2 l3 l4 h, L7 l0 l1 l2 l3 l4 h → xW sc m_M_merges 10 0 0 7 [some (.ref (l0)), some (.int (l1)), some (.int (l2)), some (.int (l3)), some (.int (l4)), none, none] [] h Q) (l0 : Nat) (l1 : Int32) (l2 : Int32) (l3 : Int32) (l4 : Int32) (l5 : Int32) (s0 : Int32) (h : xH) (hw : w_M_merges_50 Q L7 l0 l1 l2 l3 l4 l5 s0 h) : xW sc m_M_merges 10 0 0 50 [some (.ref (l0)), some (.int (l1)), some (.int (l2)), some (.int (l3)), some (.int (l4)), some (.int (l5)), none] [.int (s0)] h Q := by
  unfold w_M_merges_50 at hw
  refine xs_istore (lv' := [some (.ref (l0)), some (.int (l1)), some (.int (l2)), some (.int (l3)), some (.int (l4)), some (.int (l5)), some (.int (s0))]) d_M_merges_50 rfl rfl ?_
  refine xw_iload_n d_M_merges_52 rfl rfl ?_
  refine xw_if_ne (tgt := 61) d_M_merges_53 (by decide) (fun c2 => ?_) (fun c2 => ?_)
  · have hw := hw.1 c2
    exact p_M_merges_61 hL7 (l0) (l1) (l2) (l3) (l4) (l5) (s0) h hw
  · have hw := hw.2 c2
    refine xw_iload d_M_merges_56 rfl ?_
    refine xw_if_eq (tgt := 65) d_M_merges_58 (by decide) (fun c1 => ?_) (fun c1 => ?_)
    · have hw := hw.1 c1
      refine xw_iconst (v := 0) d_M_merges_65 (by decide) ?_
      exact p_M_merges_66 hL7 (l0) (l1) (l2) (l3) (l4) (l5) (s0) (0) h hw
    · have hw := hw.2 c1
      exact p_M_merges_61 hL7 (l0) (l1) (l2) (l3) (l4) (l5) (s0) h hw
set_option maxRecDepth 100000 in
def w_M_merges_7 (Q : Option Value → xH → Prop) : Nat → Nat → Int32 → Int32 → Int32 → Int32 → xH → Prop
  | 0, _, _, _, _, _, _ => False
  | n + 1, l0, l1, l2, l3, l4, h => ((16 ≤ l4 → ((l2 = 0 → Q none h) ∧ (¬ l2 = 0 → (∃ f2, h.2 l0 = some (.inr (8, f2))) ∧ w_M_mayWrite (fun v h1 => ∃ (x3 : Int32), v = some (.int x3) ∧ ((¬ x3 = 0 → ∃ n4, w_M_merges_115 Q n4 (l0) (l1) (l2) (l3) (0) h1) ∧ (x3 = 0 → Q none h1))) l0 l1 h))) ∧ (¬ 16 ≤ l4 → ∃ (f7 : List Value) (a8 : Nat), h.2 l0 = some (.inr (8, f7)) ∧ f7[35]? = some (.ref a8) ∧ ∃ (ar15 : List Int32) (x9 : Int32), h.2 a8 = some (.inl (0, .inl ar15)) ∧ 0 ≤ (9 + (2 * l4) : Int32) ∧ ar15[(9 + (2 * l4) : Int32).toNatClampNeg]? = some x9 ∧ ∃ (f10 : List Value) (a11 : Nat), h.2 l0 = some (.inr (8, f10)) ∧ f10[9]? = some (.ref a11) ∧ ∃ (ar14 : List Int32) (x12 : Int32), h.2 a11 = some (.inl (0, .inl ar14)) ∧ 0 ≤ ((16 * l1) + l4 : Int32) ∧ ar14[((16 * l1) + l4 : Int32).toNatClampNeg]? = some x12 ∧ ((x9 ≤ x12 → w_M_merges_50 Q (fun y0 y1 y2 y3 y4 yh => w_M_merges_7 Q n y0 y1 y2 y3 y4 yh) (l0) (l1) (l2) (l3) (l4) ((16 * l1) + l4) (0) h) ∧ (¬ x9 ≤ x12 → w_M_merges_50 Q (fun y0 y1 y2 y3 y4 yh => w_M_merges_7 Q n y0 y1 y2 y3 y4 yh) (l0) (l1) (l2) (l3) (l4) ((16 * l1) + l4) (1) h))))
set_option maxRecDepth 100000 in
set_option maxHeartbeats 4000000 in
theorem p_M_merges_7 {sc : List Int32} {Q : Option Value → xH → Prop} : ∀ (n : Nat) (l0 : Nat) (l1 : Int32) (l2 : Int32) (l3 : Int32) (l4 : Int32) (h : xH), w_M_merges_7 Q n l0 l1 l2 l3 l4 h → xW sc m_M_merges 10 0 0 7 [some (.ref (l0)), some (.int (l1)), some (.int (l2)), some (.int (l3)), some (.int (l4)), none, none] [] h Q := by
  intro n
  induction n with
  | zero => intro l0 l1 l2 l3 l4 h hw; exact False.elim hw
  | succ n ih =>
    intro l0 l1 l2 l3 l4 h hw
    rw [w_M_merges_7] at hw
    refine xw_iload d_M_merges_7 rfl ?_
    refine xw_bipush (v := 16) d_M_merges_9 (by decide) ?_
    refine xw_icmp_ge (tgt := 99) d_M_merges_11 (by decide) (fun c16 => ?_) (fun c16 => ?_)
    · have hw := hw.1 c16
      refine xw_iload_n d_M_merges_99 rfl rfl ?_
      refine xw_if_eq (tgt := 111) d_M_merges_100 (by decide) (fun c6 => ?_) (fun c6 => ?_)
      · have hw := hw.1 c6
        exact xw_return rfl d_M_merges_111 hw
      · have hw := hw.2 c6
        refine xw_aload_n d_M_merges_103 rfl rfl ?_
        refine xw_iload_n d_M_merges_104 rfl rfl ?_
        obtain ⟨⟨f2, hA⟩, hw⟩ := hw
        refine xc_V1i lk_M_122 in_M_mayWrite d_M_merges_105 (x_M_mayWrite hw) rfl hA rfl ?_
        intro x3 h1 hw
        refine xw_if_ne (tgt := 112) d_M_merges_108 (by decide) (fun c5 => ?_) (fun c5 => ?_)
        · have hw := hw.1 c5
          refine xw_iconst (v := 0) d_M_merges_112 (by decide) ?_
          refine xs_istore (lv' := [some (.ref (l0)), some (.int (l1)), some (.int (l2)), some (.int (l3)), some (.int (0)), none, none]) d_M_merges_113 rfl rfl ?_
          obtain ⟨n4, hw⟩ := hw
          exact p_M_merges_115  n4 (l0) (l1) (l2) (l3) (0) h1 hw
        · have hw := hw.2 c5
          exact xw_return rfl d_M_merges_111 hw
    · have hw := hw.2 c16
      refine xw_bipush (v := 16) d_M_merges_14 (by decide) ?_
      refine xw_iload_n d_M_merges_16 rfl rfl ?_
      refine xw_imul d_M_merges_17 ?_
      refine xw_iload d_M_merges_18 rfl ?_
      refine xw_iadd d_M_merges_20 ?_
      refine xs_istore (lv' := [some (.ref (l0)), some (.int (l1)), some (.int (l2)), some (.int (l3)), some (.int (l4)), some (.int ((16 * l1) + l4)), none]) d_M_merges_21 rfl rfl ?_
      refine xw_aload_n d_M_merges_23 rfl rfl ?_
      obtain ⟨f7, a8, hA, hB, hw⟩ := hw
      refine xw_getr fr_M_100 d_M_merges_24 hA hB ?_
      refine xw_bipush (v := 9) d_M_merges_27 (by decide) ?_
      refine xw_iconst (v := 2) d_M_merges_29 (by decide) ?_
      refine xw_iload d_M_merges_30 rfl ?_
      refine xw_imul d_M_merges_32 ?_
      refine xw_iadd d_M_merges_33 ?_
      obtain ⟨ar15, x9, hA, hB, hC, hw⟩ := hw
      refine xw_iaload (t := 0) rfl d_M_merges_34 hA hB hC ?_
      refine xw_aload_n d_M_merges_35 rfl rfl ?_
      obtain ⟨f10, a11, hA, hB, hw⟩ := hw
      refine xw_getr fr_M_34 d_M_merges_36 hA hB ?_
      refine xw_iload d_M_merges_39 rfl ?_
      obtain ⟨ar14, x12, hA, hB, hC, hw⟩ := hw
      refine xw_iaload (t := 0) rfl d_M_merges_41 hA hB hC ?_
      refine xw_icmp_le (tgt := 49) d_M_merges_42 (by decide) (fun c13 => ?_) (fun c13 => ?_)
      · have hw := hw.1 c13
        refine xw_iconst (v := 0) d_M_merges_49 (by decide) ?_
        exact p_M_merges_50 ih (l0) (l1) (l2) (l3) (l4) ((16 * l1) + l4) (0) h hw
      · have hw := hw.2 c13
        refine xw_iconst (v := 1) d_M_merges_45 (by decide) ?_
        refine xw_goto (tgt := 50) d_M_merges_46 (by decide) ?_
        exact p_M_merges_50 ih (l0) (l1) (l2) (l3) (l4) ((16 * l1) + l4) (1) h hw
set_option maxRecDepth 100000 in
def w_M_merges (Q : Option Value → xH → Prop) (this : Nat) (p1 : Int32) (h : xH) : Prop := ∃ n1, w_M_merges_7 Q n1 (this) (p1) (0) (0) (0) h
set_option maxRecDepth 100000 in
set_option maxHeartbeats 4000000 in
theorem x_M_merges {sc : List Int32} {Q : Option Value → xH → Prop} {this : Nat} {p1 : Int32} {h : xH} (hw : w_M_merges Q this p1 h) : xMet sc m_M_merges 10 0 0 [.ref (this), .int (p1)] h Q := by
  unfold w_M_merges at hw
  refine xMet.of2 cw_M_merges rfl rfl ?_
  show xW sc m_M_merges 10 0 0 0 [some (.ref (this)), some (.int (p1)), none, none, none, none, none] [] h Q
  refine xw_iconst (v := 0) d_M_merges_0 (by decide) ?_
  refine xs_istore_n (lv' := [some (.ref (this)), some (.int (p1)), some (.int (0)), none, none, none, none]) d_M_merges_1 rfl rfl rfl ?_
  refine xw_iconst (v := 0) d_M_merges_2 (by decide) ?_
  refine xs_istore_n (lv' := [some (.ref (this)), some (.int (p1)), some (.int (0)), some (.int (0)), none, none, none]) d_M_merges_3 rfl rfl rfl ?_
  refine xw_iconst (v := 0) d_M_merges_4 (by decide) ?_
  refine xs_istore (lv' := [some (.ref (this)), some (.int (p1)), some (.int (0)), some (.int (0)), some (.int (0)), none, none]) d_M_merges_5 rfl rfl ?_
  obtain ⟨n1, hw⟩ := hw
  exact p_M_merges_7  n1 (this) (p1) (0) (0) (0) h hw
set_option maxRecDepth 100000 in
def w_M_answers_189 (Q : Option Value → xH → Prop) (l0 : Nat) (l1 : Int32) (h : xH) : Prop := (∃ f2, h.2 l0 = some (.inr (8, f2))) ∧ w_M_hasAnswered (fun v h1 => v = none ∧ Q none h1) l0 l1 h
set_option maxRecDepth 100000 in
set_option maxHeartbeats 4000000 in
theorem p_M_answers_189 {sc : List Int32} {Q : Option Value → xH → Prop} (l0 : Nat) (l1 : Int32) (h : xH) (hw : w_M_answers_189 Q l0 l1 h) : xW sc m_M_answers 10 0 0 189 [some (.ref (l0)), some (.int (l1)), none] [] h Q := by
  unfold w_M_answers_189 at hw
  refine xw_aload_n d_M_answers_189 rfl rfl ?_
  refine xw_iload_n d_M_answers_190 rfl rfl ?_
  obtain ⟨⟨f2, hA⟩, hw⟩ := hw
  refine xc_V1n lk_M_242 in_M_hasAnswered d_M_answers_191 (x_M_hasAnswered hw) rfl hA rfl ?_
  intro h1 hw
  exact xw_return rfl d_M_answers_194 hw
set_option maxRecDepth 100000 in
def w_M_answers_132 (Q : Option Value → xH → Prop) : Nat → Nat → Int32 → Int32 → xH → Prop
  | 0, _, _, _, _ => False
  | n + 1, l0, l1, l2, h => ((4 ≤ l2 → w_M_answers_189 Q (l0) (l1) h) ∧ (¬ 4 ≤ l2 → ∃ (f1 : List Value) (a2 : Nat), h.2 l0 = some (.inr (8, f1)) ∧ f1[35]? = some (.ref a2) ∧ ∃ (ar14 : List Int32) (x3 : Int32), h.2 a2 = some (.inl (0, .inl ar14)) ∧ 0 ≤ (41 + (3 * l2) : Int32) ∧ ar14[(41 + (3 * l2) : Int32).toNatClampNeg]? = some x3 ∧ ∃ (f4 : List Value) (a5 : Nat), h.2 l0 = some (.inr (8, f4)) ∧ f4[35]? = some (.ref a5) ∧ ∃ (ar13 : List Int32) (x6 : Int32), h.2 a5 = some (.inl (0, .inl ar13)) ∧ 0 ≤ ((41 + (3 * l2)) + 1 : Int32) ∧ ar13[((41 + (3 * l2)) + 1 : Int32).toNatClampNeg]? = some x6 ∧ ∃ (f7 : List Value) (a8 : Nat), h.2 l0 = some (.inr (8, f7)) ∧ f7[35]? = some (.ref a8) ∧ ∃ (ar12 : List Int32) (x9 : Int32), h.2 a8 = some (.inl (0, .inl ar12)) ∧ 0 ≤ ((41 + (3 * l2)) + 2 : Int32) ∧ ar12[((41 + (3 * l2)) + 2 : Int32).toNatClampNeg]? = some x9 ∧ (∃ f11, h.2 l0 = some (.inr (8, f11))) ∧ w_M_best (fun v h10 => v = none ∧ w_M_answers_132 Q n (l0) (l1) (l2 + 1) h10) l0 l1 l2 x3 x6 x9 h))
set_option maxRecDepth 100000 in
set_option maxHeartbeats 4000000 in
theorem p_M_answers_132 {sc : List Int32} {Q : Option Value → xH → Prop} : ∀ (n : Nat) (l0 : Nat) (l1 : Int32) (l2 : Int32) (h : xH), w_M_answers_132 Q n l0 l1 l2 h → xW sc m_M_answers 10 0 0 132 [some (.ref (l0)), some (.int (l1)), some (.int (l2))] [] h Q := by
  intro n
  induction n with
  | zero => intro l0 l1 l2 h hw; exact False.elim hw
  | succ n ih =>
    intro l0 l1 l2 h hw
    rw [w_M_answers_132] at hw
    refine xw_iload_n d_M_answers_132 rfl rfl ?_
    refine xw_iconst (v := 4) d_M_answers_133 (by decide) ?_
    refine xw_icmp_ge (tgt := 186) d_M_answers_134 (by decide) (fun c15 => ?_) (fun c15 => ?_)
    · have hw := hw.1 c15
      refine xw_goto (tgt := 189) d_M_answers_186 (by decide) ?_
      refine xs_drop (lv' := [some (.ref (l0)), some (.int (l1)), none]) 2 rfl ?_
      exact p_M_answers_189  (l0) (l1) h hw
    · have hw := hw.2 c15
      refine xw_aload_n d_M_answers_137 rfl rfl ?_
      refine xw_iload_n d_M_answers_138 rfl rfl ?_
      refine xw_iload_n d_M_answers_139 rfl rfl ?_
      refine xw_aload_n d_M_answers_140 rfl rfl ?_
      obtain ⟨f1, a2, hA, hB, hw⟩ := hw
      refine xw_getr fr_M_100 d_M_answers_141 hA hB ?_
      refine xw_bipush (v := 41) d_M_answers_144 (by decide) ?_
      refine xw_iconst (v := 3) d_M_answers_146 (by decide) ?_
      refine xw_iload_n d_M_answers_147 rfl rfl ?_
      refine xw_imul d_M_answers_148 ?_
      refine xw_iadd d_M_answers_149 ?_
      obtain ⟨ar14, x3, hA, hB, hC, hw⟩ := hw
      refine xw_iaload (t := 0) rfl d_M_answers_150 hA hB hC ?_
      refine xw_aload_n d_M_answers_151 rfl rfl ?_
      obtain ⟨f4, a5, hA, hB, hw⟩ := hw
      refine xw_getr fr_M_100 d_M_answers_152 hA hB ?_
      refine xw_bipush (v := 41) d_M_answers_155 (by decide) ?_
      refine xw_iconst (v := 3) d_M_answers_157 (by decide) ?_
      refine xw_iload_n d_M_answers_158 rfl rfl ?_
      refine xw_imul d_M_answers_159 ?_
      refine xw_iadd d_M_answers_160 ?_
      refine xw_iconst (v := 1) d_M_answers_161 (by decide) ?_
      refine xw_iadd d_M_answers_162 ?_
      obtain ⟨ar13, x6, hA, hB, hC, hw⟩ := hw
      refine xw_iaload (t := 0) rfl d_M_answers_163 hA hB hC ?_
      refine xw_aload_n d_M_answers_164 rfl rfl ?_
      obtain ⟨f7, a8, hA, hB, hw⟩ := hw
      refine xw_getr fr_M_100 d_M_answers_165 hA hB ?_
      refine xw_bipush (v := 41) d_M_answers_168 (by decide) ?_
      refine xw_iconst (v := 3) d_M_answers_170 (by decide) ?_
      refine xw_iload_n d_M_answers_171 rfl rfl ?_
      refine xw_imul d_M_answers_172 ?_
      refine xw_iadd d_M_answers_173 ?_
      refine xw_iconst (v := 2) d_M_answers_174 (by decide) ?_
      refine xw_iadd d_M_answers_175 ?_
      obtain ⟨ar12, x9, hA, hB, hC, hw⟩ := hw
      refine xw_iaload (t := 0) rfl d_M_answers_176 hA hB hC ?_
      obtain ⟨⟨f11, hA⟩, hw⟩ := hw
      refine xc_V5n lk_M_146 in_M_best d_M_answers_177 (x_M_best hw) rfl hA rfl ?_
      intro h10 hw
      refine xs_iinc (v := l2 + 1) (lv' := [some (.ref (l0)), some (.int (l1)), some (.int (l2 + 1))]) d_M_answers_180 rfl rfl rfl ?_
      refine xw_goto (tgt := 132) d_M_answers_183 (by decide) ?_
      exact ih (l0) (l1) (l2 + 1) h10 hw
set_option maxRecDepth 100000 in
def w_M_answers (Q : Option Value → xH → Prop) (this : Nat) (p1 : Int32) (h : xH) : Prop := ∃ (f1 : List Value) (a2 : Nat), h.2 this = some (.inr (8, f1)) ∧ f1[35]? = some (.ref a2) ∧ ∃ (ar50 : List Int32) (x3 : Int32), h.2 a2 = some (.inl (0, .inl ar50)) ∧ 0 ≤ (0 : Int32) ∧ ar50[(0 : Int32).toNatClampNeg]? = some x3 ∧ ((x3 = 2 → ∃ (f5 : List Value) (a6 : Nat), h.2 this = some (.inr (8, f5)) ∧ f5[18]? = some (.ref a6) ∧ ∃ (ar22 : List Int32) (x7 : Int32), h.2 a6 = some (.inl (0, .inl ar22)) ∧ 0 ≤ p1 ∧ ar22[p1.toNatClampNeg]? = some x7 ∧ ∃ (f8 : List Value) (a9 : Nat), h.2 this = some (.inr (8, f8)) ∧ f8[35]? = some (.ref a9) ∧ ∃ (ar21 : List Int32) (x10 : Int32), h.2 a9 = some (.inl (0, .inl ar21)) ∧ 0 ≤ (6 : Int32) ∧ ar21[(6 : Int32).toNatClampNeg]? = some x10 ∧ ∃ (f11 : List Value) (a12 : Nat), h.2 this = some (.inr (8, f11)) ∧ f11[35]? = some (.ref a12) ∧ ∃ (ar20 : List Int32) (x13 : Int32), h.2 a12 = some (.inl (0, .inl ar20)) ∧ 0 ≤ (7 : Int32) ∧ ar20[(7 : Int32).toNatClampNeg]? = some x13 ∧ ∃ (f14 : List Value) (a15 : Nat), h.2 this = some (.inr (8, f14)) ∧ f14[35]? = some (.ref a15) ∧ ∃ (ar19 : List Int32) (x16 : Int32), h.2 a15 = some (.inl (0, .inl ar19)) ∧ 0 ≤ (8 : Int32) ∧ ar19[(8 : Int32).toNatClampNeg]? = some x16 ∧ (∃ f18, h.2 this = some (.inr (8, f18))) ∧ w_M_best (fun v h17 => v = none ∧ w_M_answers_189 Q (this) (p1) h17) this p1 x7 x10 x13 x16 h) ∧ (x3 = 3 → w_M_answers_189 Q (this) (p1) h) ∧ (x3 = 4 → w_M_answers_189 Q (this) (p1) h) ∧ (x3 = 5 → w_M_answers_189 Q (this) (p1) h) ∧ (x3 = 6 → ∃ (f27 : List Value) (a28 : Nat), h.2 this = some (.inr (8, f27)) ∧ f27[35]? = some (.ref a28) ∧ ∃ (ar36 : List Int32) (x29 : Int32), h.2 a28 = some (.inl (0, .inl ar36)) ∧ 0 ≤ (6 : Int32) ∧ ar36[(6 : Int32).toNatClampNeg]? = some x29 ∧ ∃ (f30 : List Value) (a31 : Nat), h.2 this = some (.inr (8, f30)) ∧ f30[35]? = some (.ref a31) ∧ ∃ (ar35 : List Int32) (x32 : Int32), h.2 a31 = some (.inl (0, .inl ar35)) ∧ 0 ≤ (7 : Int32) ∧ ar35[(7 : Int32).toNatClampNeg]? = some x32 ∧ (∃ f34, h.2 this = some (.inr (8, f34))) ∧ w_M_top (fun v h33 => v = none ∧ w_M_answers_189 Q (this) (p1) h33) this p1 x29 x32 h) ∧ (x3 = 7 → w_M_answers_189 Q (this) (p1) h) ∧ (x3 = 8 → w_M_answers_189 Q (this) (p1) h) ∧ (x3 = 9 → ∃ (f40 : List Value) (a41 : Nat), h.2 this = some (.inr (8, f40)) ∧ f40[35]? = some (.ref a41) ∧ ∃ (ar45 : List Int32) (x42 : Int32), h.2 a41 = some (.inl (0, .inl ar45)) ∧ 0 ≤ (6 : Int32) ∧ ar45[(6 : Int32).toNatClampNeg]? = some x42 ∧ (∃ f44, h.2 this = some (.inr (8, f44))) ∧ w_M_refused (fun v h43 => v = none ∧ Q none h43) this p1 x42 h) ∧ (x3 = 10 → w_M_answers_189 Q (this) (p1) h) ∧ (x3 = 11 → ∃ n48, w_M_answers_132 Q n48 (this) (p1) (0) h) ∧ (¬ x3 = 2 → ¬ x3 = 3 → ¬ x3 = 4 → ¬ x3 = 5 → ¬ x3 = 6 → ¬ x3 = 7 → ¬ x3 = 8 → ¬ x3 = 9 → ¬ x3 = 10 → ¬ x3 = 11 → w_M_answers_189 Q (this) (p1) h))
set_option maxRecDepth 100000 in
set_option maxHeartbeats 4000000 in
theorem x_M_answers {sc : List Int32} {Q : Option Value → xH → Prop} {this : Nat} {p1 : Int32} {h : xH} (hw : w_M_answers Q this p1 h) : xMet sc m_M_answers 10 0 0 [.ref (this), .int (p1)] h Q := by
  unfold w_M_answers at hw
  refine xMet.of2 cw_M_answers rfl rfl ?_
  show xW sc m_M_answers 10 0 0 0 [some (.ref (this)), some (.int (p1)), none] [] h Q
  refine xw_aload_n d_M_answers_0 rfl rfl ?_
  obtain ⟨f1, a2, hA, hB, hw⟩ := hw
  refine xw_getr fr_M_100 d_M_answers_1 hA hB ?_
  refine xw_iconst (v := 0) d_M_answers_4 (by decide) ?_
  obtain ⟨ar50, x3, hA, hB, hC, hw⟩ := hw
  refine xw_iaload (t := 0) rfl d_M_answers_5 hA hB hC ?_
  by_cases c23 : x3 = 2
  · have hw := hw.1 c23
    rw [c23]
    refine xw_tableIn (tgt := 73) (off := 67) d_M_answers_6 (by decide) (by decide) (by decide +kernel) (by decide) ?_
    refine xw_aload_n d_M_answers_73 rfl rfl ?_
    refine xw_iload_n d_M_answers_74 rfl rfl ?_
    refine xw_aload_n d_M_answers_75 rfl rfl ?_
    obtain ⟨f5, a6, hA, hB, hw⟩ := hw
    refine xw_getr fr_M_58 d_M_answers_76 hA hB ?_
    refine xw_iload_n d_M_answers_79 rfl rfl ?_
    obtain ⟨ar22, x7, hA, hB, hC, hw⟩ := hw
    refine xw_iaload (t := 0) rfl d_M_answers_80 hA hB hC ?_
    refine xw_aload_n d_M_answers_81 rfl rfl ?_
    obtain ⟨f8, a9, hA, hB, hw⟩ := hw
    refine xw_getr fr_M_100 d_M_answers_82 hA hB ?_
    refine xw_bipush (v := 6) d_M_answers_85 (by decide) ?_
    obtain ⟨ar21, x10, hA, hB, hC, hw⟩ := hw
    refine xw_iaload (t := 0) rfl d_M_answers_87 hA hB hC ?_
    refine xw_aload_n d_M_answers_88 rfl rfl ?_
    obtain ⟨f11, a12, hA, hB, hw⟩ := hw
    refine xw_getr fr_M_100 d_M_answers_89 hA hB ?_
    refine xw_bipush (v := 7) d_M_answers_92 (by decide) ?_
    obtain ⟨ar20, x13, hA, hB, hC, hw⟩ := hw
    refine xw_iaload (t := 0) rfl d_M_answers_94 hA hB hC ?_
    refine xw_aload_n d_M_answers_95 rfl rfl ?_
    obtain ⟨f14, a15, hA, hB, hw⟩ := hw
    refine xw_getr fr_M_100 d_M_answers_96 hA hB ?_
    refine xw_bipush (v := 8) d_M_answers_99 (by decide) ?_
    obtain ⟨ar19, x16, hA, hB, hC, hw⟩ := hw
    refine xw_iaload (t := 0) rfl d_M_answers_101 hA hB hC ?_
    obtain ⟨⟨f18, hA⟩, hw⟩ := hw
    refine xc_V5n lk_M_146 in_M_best d_M_answers_102 (x_M_best hw) rfl hA rfl ?_
    intro h17 hw
    refine xw_goto (tgt := 189) d_M_answers_105 (by decide) ?_
    exact p_M_answers_189  (this) (p1) h17 hw
  by_cases c24 : x3 = 3
  · have hw := hw.2.1 c24
    rw [c24]
    refine xw_tableIn (tgt := 189) (off := 183) d_M_answers_6 (by decide) (by decide) (by decide +kernel) (by decide) ?_
    exact p_M_answers_189  (this) (p1) h hw
  by_cases c25 : x3 = 4
  · have hw := hw.2.2.1 c25
    rw [c25]
    refine xw_tableIn (tgt := 189) (off := 183) d_M_answers_6 (by decide) (by decide) (by decide +kernel) (by decide) ?_
    exact p_M_answers_189  (this) (p1) h hw
  by_cases c26 : x3 = 5
  · have hw := hw.2.2.2.1 c26
    rw [c26]
    refine xw_tableIn (tgt := 189) (off := 183) d_M_answers_6 (by decide) (by decide) (by decide +kernel) (by decide) ?_
    exact p_M_answers_189  (this) (p1) h hw
  by_cases c37 : x3 = 6
  · have hw := hw.2.2.2.2.1 c37
    rw [c37]
    refine xw_tableIn (tgt := 108) (off := 102) d_M_answers_6 (by decide) (by decide) (by decide +kernel) (by decide) ?_
    refine xw_aload_n d_M_answers_108 rfl rfl ?_
    refine xw_iload_n d_M_answers_109 rfl rfl ?_
    refine xw_aload_n d_M_answers_110 rfl rfl ?_
    obtain ⟨f27, a28, hA, hB, hw⟩ := hw
    refine xw_getr fr_M_100 d_M_answers_111 hA hB ?_
    refine xw_bipush (v := 6) d_M_answers_114 (by decide) ?_
    obtain ⟨ar36, x29, hA, hB, hC, hw⟩ := hw
    refine xw_iaload (t := 0) rfl d_M_answers_116 hA hB hC ?_
    refine xw_aload_n d_M_answers_117 rfl rfl ?_
    obtain ⟨f30, a31, hA, hB, hw⟩ := hw
    refine xw_getr fr_M_100 d_M_answers_118 hA hB ?_
    refine xw_bipush (v := 7) d_M_answers_121 (by decide) ?_
    obtain ⟨ar35, x32, hA, hB, hC, hw⟩ := hw
    refine xw_iaload (t := 0) rfl d_M_answers_123 hA hB hC ?_
    obtain ⟨⟨f34, hA⟩, hw⟩ := hw
    refine xc_V3n lk_M_156 in_M_top d_M_answers_124 (x_M_top hw) rfl hA rfl ?_
    intro h33 hw
    refine xw_goto (tgt := 189) d_M_answers_127 (by decide) ?_
    exact p_M_answers_189  (this) (p1) h33 hw
  by_cases c38 : x3 = 7
  · have hw := hw.2.2.2.2.2.1 c38
    rw [c38]
    refine xw_tableIn (tgt := 189) (off := 183) d_M_answers_6 (by decide) (by decide) (by decide +kernel) (by decide) ?_
    exact p_M_answers_189  (this) (p1) h hw
  by_cases c39 : x3 = 8
  · have hw := hw.2.2.2.2.2.2.1 c39
    rw [c39]
    refine xw_tableIn (tgt := 189) (off := 183) d_M_answers_6 (by decide) (by decide) (by decide +kernel) (by decide) ?_
    exact p_M_answers_189  (this) (p1) h hw
  by_cases c46 : x3 = 9
  · have hw := hw.2.2.2.2.2.2.2.1 c46
    rw [c46]
    refine xw_tableIn (tgt := 60) (off := 54) d_M_answers_6 (by decide) (by decide) (by decide +kernel) (by decide) ?_
    refine xw_aload_n d_M_answers_60 rfl rfl ?_
    refine xw_iload_n d_M_answers_61 rfl rfl ?_
    refine xw_aload_n d_M_answers_62 rfl rfl ?_
    obtain ⟨f40, a41, hA, hB, hw⟩ := hw
    refine xw_getr fr_M_100 d_M_answers_63 hA hB ?_
    refine xw_bipush (v := 6) d_M_answers_66 (by decide) ?_
    obtain ⟨ar45, x42, hA, hB, hC, hw⟩ := hw
    refine xw_iaload (t := 0) rfl d_M_answers_68 hA hB hC ?_
    obtain ⟨⟨f44, hA⟩, hw⟩ := hw
    refine xc_V2n lk_M_160 in_M_refused d_M_answers_69 (x_M_refused hw) rfl hA rfl ?_
    intro h43 hw
    exact xw_return rfl d_M_answers_72 hw
  by_cases c47 : x3 = 10
  · have hw := hw.2.2.2.2.2.2.2.2.1 c47
    rw [c47]
    refine xw_tableIn (tgt := 189) (off := 183) d_M_answers_6 (by decide) (by decide) (by decide +kernel) (by decide) ?_
    exact p_M_answers_189  (this) (p1) h hw
  by_cases c49 : x3 = 11
  · have hw := hw.2.2.2.2.2.2.2.2.2.1 c49
    rw [c49]
    refine xw_tableIn (tgt := 130) (off := 124) d_M_answers_6 (by decide) (by decide) (by decide +kernel) (by decide) ?_
    refine xw_iconst (v := 0) d_M_answers_130 (by decide) ?_
    refine xs_istore_n (lv' := [some (.ref (this)), some (.int (p1)), some (.int (0))]) d_M_answers_131 rfl rfl rfl ?_
    obtain ⟨n48, hw⟩ := hw
    exact p_M_answers_132  n48 (this) (p1) (0) h hw
  have hw := hw.2.2.2.2.2.2.2.2.2.2 c23 c24 c25 c26 c37 c38 c39 c46 c47 c49
  have ec23 := lv_neT c23 (a := 2) (by decide)
  have ec24 := lv_neT c24 (a := 3) (by decide)
  have ec25 := lv_neT c25 (a := 4) (by decide)
  have ec26 := lv_neT c26 (a := 5) (by decide)
  have ec37 := lv_neT c37 (a := 6) (by decide)
  have ec38 := lv_neT c38 (a := 7) (by decide)
  have ec39 := lv_neT c39 (a := 8) (by decide)
  have ec46 := lv_neT c46 (a := 9) (by decide)
  have ec47 := lv_neT c47 (a := 10) (by decide)
  have ec49 := lv_neT c49 (a := 11) (by decide)
  refine xw_tableOut (tgt := 189) d_M_answers_6 (by omega) (by decide) ?_
  exact p_M_answers_189  (this) (p1) h hw
set_option maxRecDepth 100000 in
def w_M_votes_121 (Q : Option Value → xH → Prop) (l0 : Nat) (l1 : Int32) (l2 : Int32) (l3 : Int32) (l4 : Int32) (s0 : Int32) (s1 : Int32) (s2 : Int32) (s3 : Int32) (s4 : Int32) (s5 : Nat) (h : xH) : Prop := (∃ f2, h.2 s5 = some (.inr (8, f2))) ∧ w_M_writeVote (fun v h1 => v = none ∧ (∃ f4, h1.2 l0 = some (.inr (8, f4))) ∧ w_M_isUp (fun v h3 => ∃ (x5 : Int32), v = some (.int x5) ∧ ((¬ x5 = 0 → ((l4 = 0 → ∃ (f6 : List Value) (a7 : Nat), h3.2 l0 = some (.inr (8, f6)) ∧ f6[35]? = some (.ref a7) ∧ ∃ (ar11 : List Int32) (x8 : Int32), h3.2 a7 = some (.inl (0, .inl ar11)) ∧ 0 ≤ (5 : Int32) ∧ ar11[(5 : Int32).toNatClampNeg]? = some x8 ∧ (∃ f10, h3.2 l0 = some (.inr (8, f10))) ∧ w_M_answer (fun v h9 => v = none ∧ Q none h9) l0 8 l1 0 0 0 0 x8 h3) ∧ (¬ l4 = 0 → ∃ (f12 : List Value) (a13 : Nat), h3.2 l0 = some (.inr (8, f12)) ∧ f12[12]? = some (.ref a13) ∧ ∃ (ar25 : List Int32) (x14 : Int32), h3.2 a13 = some (.inl (0, .inl ar25)) ∧ 0 ≤ l2 ∧ ar25[l2.toNatClampNeg]? = some x14 ∧ ∃ (f15 : List Value) (a16 : Nat), h3.2 l0 = some (.inr (8, f15)) ∧ f15[13]? = some (.ref a16) ∧ ∃ (ar24 : List Int32) (x17 : Int32), h3.2 a16 = some (.inl (0, .inl ar24)) ∧ 0 ≤ l2 ∧ ar24[l2.toNatClampNeg]? = some x17 ∧ ∃ (f18 : List Value) (a19 : Nat), h3.2 l0 = some (.inr (8, f18)) ∧ f18[35]? = some (.ref a19) ∧ ∃ (ar23 : List Int32) (x20 : Int32), h3.2 a19 = some (.inl (0, .inl ar23)) ∧ 0 ≤ (5 : Int32) ∧ ar23[(5 : Int32).toNatClampNeg]? = some x20 ∧ (∃ f22, h3.2 l0 = some (.inr (8, f22))) ∧ w_M_answer (fun v h21 => v = none ∧ Q none h21) l0 6 l1 x14 x17 0 0 x20 h3))) ∧ (x5 = 0 → Q none h3))) l0 l1 h1) s5 s4 s3 s2 s1 s0 h
set_option maxRecDepth 100000 in
set_option maxHeartbeats 4000000 in
theorem p_M_votes_121 {sc : List Int32} {Q : Option Value → xH → Prop} (l0 : Nat) (l1 : Int32) (l2 : Int32) (l3 : Int32) (l4 : Int32) (s0 : Int32) (s1 : Int32) (s2 : Int32) (s3 : Int32) (s4 : Int32) (s5 : Nat) (h : xH) (hw : w_M_votes_121 Q l0 l1 l2 l3 l4 s0 s1 s2 s3 s4 s5 h) : xW sc m_M_votes 3 0 0 121 [some (.ref (l0)), some (.int (l1)), some (.int (l2)), some (.int (l3)), some (.int (l4))] [.int (s0), .int (s1), .int (s2), .int (s3), .int (s4), .ref (s5)] h Q := by
  unfold w_M_votes_121 at hw
  obtain ⟨⟨f2, hA⟩, hw⟩ := hw
  refine xc_V5n lk_M_153 in_M_writeVote d_M_votes_121 (x_M_writeVote hw) rfl hA rfl ?_
  intro h1 hw
  refine xw_aload_n d_M_votes_124 rfl rfl ?_
  refine xw_iload_n d_M_votes_125 rfl rfl ?_
  obtain ⟨⟨f4, hA⟩, hw⟩ := hw
  refine xc_V1i lk_M_111 in_M_isUp d_M_votes_126 (x_M_isUp hw) rfl hA rfl ?_
  intro x5 h3 hw
  refine xw_if_ne (tgt := 133) d_M_votes_129 (by decide) (fun c27 => ?_) (fun c27 => ?_)
  · have hw := hw.1 c27
    refine xw_iload d_M_votes_133 rfl ?_
    refine xw_if_eq (tgt := 168) d_M_votes_135 (by decide) (fun c26 => ?_) (fun c26 => ?_)
    · have hw := hw.1 c26
      refine xw_aload_n d_M_votes_168 rfl rfl ?_
      refine xw_bipush (v := 8) d_M_votes_169 (by decide) ?_
      refine xw_iload_n d_M_votes_171 rfl rfl ?_
      refine xw_iconst (v := 0) d_M_votes_172 (by decide) ?_
      refine xw_iconst (v := 0) d_M_votes_173 (by decide) ?_
      refine xw_iconst (v := 0) d_M_votes_174 (by decide) ?_
      refine xw_iconst (v := 0) d_M_votes_175 (by decide) ?_
      refine xw_aload_n d_M_votes_176 rfl rfl ?_
      obtain ⟨f6, a7, hA, hB, hw⟩ := hw
      refine xw_getr fr_M_100 d_M_votes_177 hA hB ?_
      refine xw_iconst (v := 5) d_M_votes_180 (by decide) ?_
      obtain ⟨ar11, x8, hA, hB, hC, hw⟩ := hw
      refine xw_iaload (t := 0) rfl d_M_votes_181 hA hB hC ?_
      obtain ⟨⟨f10, hA⟩, hw⟩ := hw
      refine xc_V7n lk_M_223 in_M_answer d_M_votes_182 (x_M_answer hw) rfl hA rfl ?_
      intro h9 hw
      exact xw_return rfl d_M_votes_185 hw
    · have hw := hw.2 c26
      refine xw_aload_n d_M_votes_138 rfl rfl ?_
      refine xw_bipush (v := 6) d_M_votes_139 (by decide) ?_
      refine xw_iload_n d_M_votes_141 rfl rfl ?_
      refine xw_aload_n d_M_votes_142 rfl rfl ?_
      obtain ⟨f12, a13, hA, hB, hw⟩ := hw
      refine xw_getr fr_M_43 d_M_votes_143 hA hB ?_
      refine xw_iload_n d_M_votes_146 rfl rfl ?_
      obtain ⟨ar25, x14, hA, hB, hC, hw⟩ := hw
      refine xw_iaload (t := 0) rfl d_M_votes_147 hA hB hC ?_
      refine xw_aload_n d_M_votes_148 rfl rfl ?_
      obtain ⟨f15, a16, hA, hB, hw⟩ := hw
      refine xw_getr fr_M_46 d_M_votes_149 hA hB ?_
      refine xw_iload_n d_M_votes_152 rfl rfl ?_
      obtain ⟨ar24, x17, hA, hB, hC, hw⟩ := hw
      refine xw_iaload (t := 0) rfl d_M_votes_153 hA hB hC ?_
      refine xw_iconst (v := 0) d_M_votes_154 (by decide) ?_
      refine xw_iconst (v := 0) d_M_votes_155 (by decide) ?_
      refine xw_aload_n d_M_votes_156 rfl rfl ?_
      obtain ⟨f18, a19, hA, hB, hw⟩ := hw
      refine xw_getr fr_M_100 d_M_votes_157 hA hB ?_
      refine xw_iconst (v := 5) d_M_votes_160 (by decide) ?_
      obtain ⟨ar23, x20, hA, hB, hC, hw⟩ := hw
      refine xw_iaload (t := 0) rfl d_M_votes_161 hA hB hC ?_
      obtain ⟨⟨f22, hA⟩, hw⟩ := hw
      refine xc_V7n lk_M_223 in_M_answer d_M_votes_162 (x_M_answer hw) rfl hA rfl ?_
      intro h21 hw
      refine xw_goto (tgt := 185) d_M_votes_165 (by decide) ?_
      exact xw_return rfl d_M_votes_185 hw
  · have hw := hw.2 c27
    exact xw_return rfl d_M_votes_132 hw
set_option maxRecDepth 100000 in
def w_M_votes_100 (Q : Option Value → xH → Prop) (l0 : Nat) (l1 : Int32) (l2 : Int32) (l3 : Int32) (l4 : Int32) (s0 : Int32) (s1 : Int32) (s2 : Int32) (s3 : Int32) (s4 : Nat) (h : xH) : Prop := ((l4 = 0 → ∃ (f1 : List Value) (a2 : Nat), h.2 l0 = some (.inr (8, f1)) ∧ f1[35]? = some (.ref a2) ∧ ∃ (ar4 : List Int32) (x3 : Int32), h.2 a2 = some (.inl (0, .inl ar4)) ∧ 0 ≤ (7 : Int32) ∧ ar4[(7 : Int32).toNatClampNeg]? = some x3 ∧ w_M_votes_121 Q (l0) (l1) (l2) (l3) (l4) (x3) (s0) (s1) (s2) (s3) (s4) h) ∧ (¬ l4 = 0 → ∃ (f5 : List Value) (a6 : Nat), h.2 l0 = some (.inr (8, f5)) ∧ f5[13]? = some (.ref a6) ∧ ∃ (ar8 : List Int32) (x7 : Int32), h.2 a6 = some (.inl (0, .inl ar8)) ∧ 0 ≤ l2 ∧ ar8[l2.toNatClampNeg]? = some x7 ∧ w_M_votes_121 Q (l0) (l1) (l2) (l3) (l4) (x7) (s0) (s1) (s2) (s3) (s4) h))
set_option maxRecDepth 100000 in
set_option maxHeartbeats 4000000 in
theorem p_M_votes_100 {sc : List Int32} {Q : Option Value → xH → Prop} (l0 : Nat) (l1 : Int32) (l2 : Int32) (l3 : Int32) (l4 : Int32) (s0 : Int32) (s1 : Int32) (s2 : Int32) (s3 : Int32) (s4 : Nat) (h : xH) (hw : w_M_votes_100 Q l0 l1 l2 l3 l4 s0 s1 s2 s3 s4 h) : xW sc m_M_votes 3 0 0 100 [some (.ref (l0)), some (.int (l1)), some (.int (l2)), some (.int (l3)), some (.int (l4))] [.int (s0), .int (s1), .int (s2), .int (s3), .ref (s4)] h Q := by
  unfold w_M_votes_100 at hw
  refine xw_iload d_M_votes_100 rfl ?_
  refine xw_if_eq (tgt := 114) d_M_votes_102 (by decide) (fun c9 => ?_) (fun c9 => ?_)
  · have hw := hw.1 c9
    refine xw_aload_n d_M_votes_114 rfl rfl ?_
    obtain ⟨f1, a2, hA, hB, hw⟩ := hw
    refine xw_getr fr_M_100 d_M_votes_115 hA hB ?_
    refine xw_bipush (v := 7) d_M_votes_118 (by decide) ?_
    obtain ⟨ar4, x3, hA, hB, hC, hw⟩ := hw
    refine xw_iaload (t := 0) rfl d_M_votes_120 hA hB hC ?_
    exact p_M_votes_121  (l0) (l1) (l2) (l3) (l4) (x3) (s0) (s1) (s2) (s3) (s4) h hw
  · have hw := hw.2 c9
    refine xw_aload_n d_M_votes_105 rfl rfl ?_
    obtain ⟨f5, a6, hA, hB, hw⟩ := hw
    refine xw_getr fr_M_46 d_M_votes_106 hA hB ?_
    refine xw_iload_n d_M_votes_109 rfl rfl ?_
    obtain ⟨ar8, x7, hA, hB, hC, hw⟩ := hw
    refine xw_iaload (t := 0) rfl d_M_votes_110 hA hB hC ?_
    refine xw_goto (tgt := 121) d_M_votes_111 (by decide) ?_
    exact p_M_votes_121  (l0) (l1) (l2) (l3) (l4) (x7) (s0) (s1) (s2) (s3) (s4) h hw
set_option maxRecDepth 100000 in
def w_M_votes_76 (Q : Option Value → xH → Prop) (l0 : Nat) (l1 : Int32) (l2 : Int32) (l3 : Int32) (l4 : Int32) (h : xH) : Prop := ∃ (f1 : List Value) (a2 : Nat), h.2 l0 = some (.inr (8, f1)) ∧ f1[35]? = some (.ref a2) ∧ ∃ (ar9 : List Int32) (x3 : Int32), h.2 a2 = some (.inl (0, .inl ar9)) ∧ 0 ≤ (5 : Int32) ∧ ar9[(5 : Int32).toNatClampNeg]? = some x3 ∧ ((l4 = 0 → w_M_votes_100 Q (l0) (l1) (l2) (l3) (l4) (l3) (l3) (x3) (l1) (l0) h) ∧ (¬ l4 = 0 → ∃ (f4 : List Value) (a5 : Nat), h.2 l0 = some (.inr (8, f4)) ∧ f4[12]? = some (.ref a5) ∧ ∃ (ar7 : List Int32) (x6 : Int32), h.2 a5 = some (.inl (0, .inl ar7)) ∧ 0 ≤ l2 ∧ ar7[l2.toNatClampNeg]? = some x6 ∧ w_M_votes_100 Q (l0) (l1) (l2) (l3) (l4) (x6) (l3) (x3) (l1) (l0) h))
set_option maxRecDepth 100000 in
set_option maxHeartbeats 4000000 in
theorem p_M_votes_76 {sc : List Int32} {Q : Option Value → xH → Prop} (l0 : Nat) (l1 : Int32) (l2 : Int32) (l3 : Int32) (l4 : Int32) (h : xH) (hw : w_M_votes_76 Q l0 l1 l2 l3 l4 h) : xW sc m_M_votes 3 0 0 76 [some (.ref (l0)), some (.int (l1)), some (.int (l2)), some (.int (l3)), some (.int (l4))] [] h Q := by
  unfold w_M_votes_76 at hw
  refine xw_aload_n d_M_votes_76 rfl rfl ?_
  refine xw_iload_n d_M_votes_77 rfl rfl ?_
  refine xw_aload_n d_M_votes_78 rfl rfl ?_
  obtain ⟨f1, a2, hA, hB, hw⟩ := hw
  refine xw_getr fr_M_100 d_M_votes_79 hA hB ?_
  refine xw_iconst (v := 5) d_M_votes_82 (by decide) ?_
  obtain ⟨ar9, x3, hA, hB, hC, hw⟩ := hw
  refine xw_iaload (t := 0) rfl d_M_votes_83 hA hB hC ?_
  refine xw_iload_n d_M_votes_84 rfl rfl ?_
  refine xw_iload d_M_votes_85 rfl ?_
  refine xw_if_eq (tgt := 99) d_M_votes_87 (by decide) (fun c8 => ?_) (fun c8 => ?_)
  · have hw := hw.1 c8
    refine xw_iload_n d_M_votes_99 rfl rfl ?_
    exact p_M_votes_100  (l0) (l1) (l2) (l3) (l4) (l3) (l3) (x3) (l1) (l0) h hw
  · have hw := hw.2 c8
    refine xw_aload_n d_M_votes_90 rfl rfl ?_
    obtain ⟨f4, a5, hA, hB, hw⟩ := hw
    refine xw_getr fr_M_43 d_M_votes_91 hA hB ?_
    refine xw_iload_n d_M_votes_94 rfl rfl ?_
    obtain ⟨ar7, x6, hA, hB, hC, hw⟩ := hw
    refine xw_iaload (t := 0) rfl d_M_votes_95 hA hB hC ?_
    refine xw_goto (tgt := 100) d_M_votes_96 (by decide) ?_
    exact p_M_votes_100  (l0) (l1) (l2) (l3) (l4) (x6) (l3) (x3) (l1) (l0) h hw
set_option maxRecDepth 100000 in
def w_M_votes_53 (Q : Option Value → xH → Prop) (l0 : Nat) (l1 : Int32) (l2 : Int32) (l3 : Int32) (l4 : Int32) (h : xH) : Prop := ∃ (f1 : List Value) (a2 : Nat), h.2 l0 = some (.inr (8, f1)) ∧ f1[11]? = some (.ref a2) ∧ ∃ (ar10 : List Int32) (x3 : Int32), h.2 a2 = some (.inl (0, .inl ar10)) ∧ 0 ≤ l2 ∧ ar10[l2.toNatClampNeg]? = some x3 ∧ ∃ (f4 : List Value) (a5 : Nat), h.2 l0 = some (.inr (8, f4)) ∧ f4[35]? = some (.ref a5) ∧ ∃ (ar9 : List Int32) (x6 : Int32), h.2 a5 = some (.inl (0, .inl ar9)) ∧ 0 ≤ (5 : Int32) ∧ ar9[(5 : Int32).toNatClampNeg]? = some x6 ∧ (∃ f8, h.2 l0 = some (.inr (8, f8))) ∧ w_M_answer (fun v h7 => v = none ∧ Q none h7) l0 9 l1 x3 0 0 0 x6 h
set_option maxRecDepth 100000 in
set_option maxHeartbeats 4000000 in
theorem p_M_votes_53 {sc : List Int32} {Q : Option Value → xH → Prop} (l0 : Nat) (l1 : Int32) (l2 : Int32) (l3 : Int32) (l4 : Int32) (h : xH) (hw : w_M_votes_53 Q l0 l1 l2 l3 l4 h) : xW sc m_M_votes 3 0 0 53 [some (.ref (l0)), some (.int (l1)), some (.int (l2)), some (.int (l3)), some (.int (l4))] [] h Q := by
  unfold w_M_votes_53 at hw
  refine xw_aload_n d_M_votes_53 rfl rfl ?_
  refine xw_bipush (v := 9) d_M_votes_54 (by decide) ?_
  refine xw_iload_n d_M_votes_56 rfl rfl ?_
  refine xw_aload_n d_M_votes_57 rfl rfl ?_
  obtain ⟨f1, a2, hA, hB, hw⟩ := hw
  refine xw_getr fr_M_40 d_M_votes_58 hA hB ?_
  refine xw_iload_n d_M_votes_61 rfl rfl ?_
  obtain ⟨ar10, x3, hA, hB, hC, hw⟩ := hw
  refine xw_iaload (t := 0) rfl d_M_votes_62 hA hB hC ?_
  refine xw_iconst (v := 0) d_M_votes_63 (by decide) ?_
  refine xw_iconst (v := 0) d_M_votes_64 (by decide) ?_
  refine xw_iconst (v := 0) d_M_votes_65 (by decide) ?_
  refine xw_aload_n d_M_votes_66 rfl rfl ?_
  obtain ⟨f4, a5, hA, hB, hw⟩ := hw
  refine xw_getr fr_M_100 d_M_votes_67 hA hB ?_
  refine xw_iconst (v := 5) d_M_votes_70 (by decide) ?_
  obtain ⟨ar9, x6, hA, hB, hC, hw⟩ := hw
  refine xw_iaload (t := 0) rfl d_M_votes_71 hA hB hC ?_
  obtain ⟨⟨f8, hA⟩, hw⟩ := hw
  refine xc_V7n lk_M_223 in_M_answer d_M_votes_72 (x_M_answer hw) rfl hA rfl ?_
  intro h7 hw
  exact xw_return rfl d_M_votes_75 hw
set_option maxRecDepth 100000 in
def w_M_votes_23 (Q : Option Value → xH → Prop) (l0 : Nat) (l1 : Int32) (l2 : Int32) (l3 : Int32) (s0 : Int32) (h : xH) : Prop := ((s0 = 0 → ∃ (f1 : List Value) (a2 : Nat), h.2 l0 = some (.inr (8, f1)) ∧ f1[11]? = some (.ref a2) ∧ ∃ (ar5 : List Int32) (x3 : Int32), h.2 a2 = some (.inl (0, .inl ar5)) ∧ 0 ≤ l2 ∧ ar5[l2.toNatClampNeg]? = some x3 ∧ ((x3 ≤ l3 → w_M_votes_76 Q (l0) (l1) (l2) (l3) (s0) h) ∧ (¬ x3 ≤ l3 → w_M_votes_53 Q (l0) (l1) (l2) (l3) (s0) h))) ∧ (¬ s0 = 0 → ∃ (f6 : List Value) (a7 : Nat), h.2 l0 = some (.inr (8, f6)) ∧ f6[11]? = some (.ref a7) ∧ ∃ (ar10 : List Int32) (x8 : Int32), h.2 a7 = some (.inl (0, .inl ar10)) ∧ 0 ≤ l2 ∧ ar10[l2.toNatClampNeg]? = some x8 ∧ ((x8 < l3 → w_M_votes_76 Q (l0) (l1) (l2) (l3) (s0) h) ∧ (¬ x8 < l3 → w_M_votes_53 Q (l0) (l1) (l2) (l3) (s0) h))))
set_option maxRecDepth 100000 in
set_option maxHeartbeats 4000000 in
theorem p_M_votes_23 {sc : List Int32} {Q : Option Value → xH → Prop} (l0 : Nat) (l1 : Int32) (l2 : Int32) (l3 : Int32) (s0 : Int32) (h : xH) (hw : w_M_votes_23 Q l0 l1 l2 l3 s0 h) : xW sc m_M_votes 3 0 0 23 [some (.ref (l0)), some (.int (l1)), some (.int (l2)), some (.int (l3)), none] [.int (s0)] h Q := by
  unfold w_M_votes_23 at hw
  refine xs_istore (lv' := [some (.ref (l0)), some (.int (l1)), some (.int (l2)), some (.int (l3)), some (.int (s0))]) d_M_votes_23 rfl rfl ?_
  refine xw_iload d_M_votes_25 rfl ?_
  refine xw_if_eq (tgt := 43) d_M_votes_27 (by decide) (fun c11 => ?_) (fun c11 => ?_)
  · have hw := hw.1 c11
    refine xw_iload_n d_M_votes_43 rfl rfl ?_
    refine xw_aload_n d_M_votes_44 rfl rfl ?_
    obtain ⟨f1, a2, hA, hB, hw⟩ := hw
    refine xw_getr fr_M_40 d_M_votes_45 hA hB ?_
    refine xw_iload_n d_M_votes_48 rfl rfl ?_
    obtain ⟨ar5, x3, hA, hB, hC, hw⟩ := hw
    refine xw_iaload (t := 0) rfl d_M_votes_49 hA hB hC ?_
    refine xw_icmp_ge (tgt := 76) d_M_votes_50 (by decide) (fun c4 => ?_) (fun c4 => ?_)
    · have hw := hw.1 c4
      exact p_M_votes_76  (l0) (l1) (l2) (l3) (s0) h hw
    · have hw := hw.2 c4
      exact p_M_votes_53  (l0) (l1) (l2) (l3) (s0) h hw
  · have hw := hw.2 c11
    refine xw_iload_n d_M_votes_30 rfl rfl ?_
    refine xw_aload_n d_M_votes_31 rfl rfl ?_
    obtain ⟨f6, a7, hA, hB, hw⟩ := hw
    refine xw_getr fr_M_40 d_M_votes_32 hA hB ?_
    refine xw_iload_n d_M_votes_35 rfl rfl ?_
    obtain ⟨ar10, x8, hA, hB, hC, hw⟩ := hw
    refine xw_iaload (t := 0) rfl d_M_votes_36 hA hB hC ?_
    refine xw_icmp_gt (tgt := 76) d_M_votes_37 (by decide) (fun c9 => ?_) (fun c9 => ?_)
    · have hw := hw.1 c9
      exact p_M_votes_76  (l0) (l1) (l2) (l3) (s0) h hw
    · have hw := hw.2 c9
      refine xw_goto (tgt := 53) d_M_votes_40 (by decide) ?_
      exact p_M_votes_53  (l0) (l1) (l2) (l3) (s0) h hw
set_option maxRecDepth 100000 in
def w_M_votes (Q : Option Value → xH → Prop) (this : Nat) (p1 : Int32) (p2 : Int32) (h : xH) : Prop := ∃ (f1 : List Value) (a2 : Nat), h.2 this = some (.inr (8, f1)) ∧ f1[35]? = some (.ref a2) ∧ ∃ (ar9 : List Int32) (x3 : Int32), h.2 a2 = some (.inl (0, .inl ar9)) ∧ 0 ≤ (6 : Int32) ∧ ar9[(6 : Int32).toNatClampNeg]? = some x3 ∧ ∃ (f4 : List Value) (a5 : Nat), h.2 this = some (.inr (8, f4)) ∧ f4[35]? = some (.ref a5) ∧ ∃ (ar8 : List Int32) (x6 : Int32), h.2 a5 = some (.inl (0, .inl ar8)) ∧ 0 ≤ (0 : Int32) ∧ ar8[(0 : Int32).toNatClampNeg]? = some x6 ∧ ((¬ x6 = 5 → w_M_votes_23 Q (this) (p1) (p2) (x3) (0) h) ∧ (x6 = 5 → w_M_votes_23 Q (this) (p1) (p2) (x3) (1) h))
set_option maxRecDepth 100000 in
set_option maxHeartbeats 4000000 in
theorem x_M_votes {sc : List Int32} {Q : Option Value → xH → Prop} {this : Nat} {p1 : Int32} {p2 : Int32} {h : xH} (hw : w_M_votes Q this p1 p2 h) : xMet sc m_M_votes 3 0 0 [.ref (this), .int (p1), .int (p2)] h Q := by
  unfold w_M_votes at hw
  refine xMet.of2 cw_M_votes rfl rfl ?_
  show xW sc m_M_votes 3 0 0 0 [some (.ref (this)), some (.int (p1)), some (.int (p2)), none, none] [] h Q
  refine xw_aload_n d_M_votes_0 rfl rfl ?_
  obtain ⟨f1, a2, hA, hB, hw⟩ := hw
  refine xw_getr fr_M_100 d_M_votes_1 hA hB ?_
  refine xw_bipush (v := 6) d_M_votes_4 (by decide) ?_
  obtain ⟨ar9, x3, hA, hB, hC, hw⟩ := hw
  refine xw_iaload (t := 0) rfl d_M_votes_6 hA hB hC ?_
  refine xs_istore_n (lv' := [some (.ref (this)), some (.int (p1)), some (.int (p2)), some (.int (x3)), none]) d_M_votes_7 rfl rfl rfl ?_
  refine xw_aload_n d_M_votes_8 rfl rfl ?_
  obtain ⟨f4, a5, hA, hB, hw⟩ := hw
  refine xw_getr fr_M_100 d_M_votes_9 hA hB ?_
  refine xw_iconst (v := 0) d_M_votes_12 (by decide) ?_
  obtain ⟨ar8, x6, hA, hB, hC, hw⟩ := hw
  refine xw_iaload (t := 0) rfl d_M_votes_13 hA hB hC ?_
  refine xw_iconst (v := 5) d_M_votes_14 (by decide) ?_
  refine xw_icmp_ne (tgt := 22) d_M_votes_15 (by decide) (fun c7 => ?_) (fun c7 => ?_)
  · have hw := hw.1 c7
    refine xw_iconst (v := 0) d_M_votes_22 (by decide) ?_
    exact p_M_votes_23  (this) (p1) (p2) (x3) (0) h hw
  · have hw := hw.2 c7
    refine xw_iconst (v := 1) d_M_votes_18 (by decide) ?_
    refine xw_goto (tgt := 23) d_M_votes_19 (by decide) ?_
    exact p_M_votes_23  (this) (p1) (p2) (x3) (1) h hw
set_option maxRecDepth 100000 in
def w_M_handles (Q : Option Value → xH → Prop) (this : Nat) (p1 : Int32) (h : xH) : Prop := ∃ (f1 : List Value) (a2 : Nat), h.2 this = some (.inr (8, f1)) ∧ f1[35]? = some (.ref a2) ∧ ∃ (ar140 : List Int32) (x3 : Int32), h.2 a2 = some (.inl (0, .inl ar140)) ∧ 0 ≤ (5 : Int32) ∧ ar140[(5 : Int32).toNatClampNeg]? = some x3 ∧ ∃ (f4 : List Value) (a5 : Nat), h.2 this = some (.inr (8, f4)) ∧ f4[35]? = some (.ref a5) ∧ ∃ (ar139 : List Int32) (x6 : Int32), h.2 a5 = some (.inl (0, .inl ar139)) ∧ 0 ≤ (5 : Int32) ∧ ar139[(5 : Int32).toNatClampNeg]? = some x6 ∧ ∃ (f7 : List Value) (a8 : Nat), h.2 this = some (.inr (8, f7)) ∧ f7[35]? = some (.ref a8) ∧ ∃ (ar138 : List Int32) (x9 : Int32), h.2 a8 = some (.inl (0, .inl ar138)) ∧ 0 ≤ (0 : Int32) ∧ ar138[(0 : Int32).toNatClampNeg]? = some x9 ∧ ((x9 = 1 → ∃ (f11 : List Value) (a12 : Nat), h.2 this = some (.inr (8, f11)) ∧ f11[6]? = some (.ref a12) ∧ ∃ (ar28 : List Int32) (x13 : Int32), h.2 a12 = some (.inl (0, .inl ar28)) ∧ 0 ≤ ((4 * p1) + (x6 &&& 3) : Int32) ∧ ar28[((4 * p1) + (x6 &&& 3) : Int32).toNatClampNeg]? = some x13 ∧ ∃ (f14 : List Value) (a15 : Nat), h.2 this = some (.inr (8, f14)) ∧ f14[7]? = some (.ref a15) ∧ ∃ (ar27 : List Int32) (x16 : Int32), h.2 a15 = some (.inl (0, .inl ar27)) ∧ 0 ≤ ((4 * p1) + (x6 &&& 3) : Int32) ∧ ar27[((4 * p1) + (x6 &&& 3) : Int32).toNatClampNeg]? = some x16 ∧ ∃ (f17 : List Value) (a18 : Nat), h.2 this = some (.inr (8, f17)) ∧ f17[8]? = some (.ref a18) ∧ ∃ (ar26 : List Int32) (x19 : Int32), h.2 a18 = some (.inl (0, .inl ar26)) ∧ 0 ≤ ((4 * p1) + (x6 &&& 3) : Int32) ∧ ar26[((4 * p1) + (x6 &&& 3) : Int32).toNatClampNeg]? = some x19 ∧ ∃ (f20 : List Value) (a21 : Nat), h.2 this = some (.inr (8, f20)) ∧ f20[35]? = some (.ref a21) ∧ ∃ (ar25 : List Int32) (x22 : Int32), h.2 a21 = some (.inl (0, .inl ar25)) ∧ 0 ≤ (5 : Int32) ∧ ar25[(5 : Int32).toNatClampNeg]? = some x22 ∧ (∃ f24, h.2 this = some (.inr (8, f24))) ∧ w_M_answer (fun v h23 => v = none ∧ Q none h23) this 2 p1 x13 x16 x19 0 x22 h) ∧ (x9 = 2 → (∃ f31, h.2 this = some (.inr (8, f31))) ∧ w_M_counts (fun v h30 => ∃ (x32 : Int32), v = some (.int x32) ∧ ((x32 = 0 → Q none h30) ∧ (¬ x32 = 0 → (∃ f34, h30.2 this = some (.inr (8, f34))) ∧ w_M_answers (fun v h33 => v = none ∧ Q none h33) this p1 h30))) this p1 h) ∧ (x9 = 3 → ∃ (f37 : List Value) (a38 : Nat), h.2 this = some (.inr (8, f37)) ∧ f37[35]? = some (.ref a38) ∧ ∃ (ar60 : List Int32) (x39 : Int32), h.2 a38 = some (.inl (0, .inl ar60)) ∧ 0 ≤ (5 : Int32) ∧ ar60[(5 : Int32).toNatClampNeg]? = some x39 ∧ ∃ (f40 : List Value) (a41 : Nat), h.2 this = some (.inr (8, f40)) ∧ f40[35]? = some (.ref a41) ∧ ∃ (ar59 : List Int32) (x42 : Int32), h.2 a41 = some (.inl (0, .inl ar59)) ∧ 0 ≤ (6 : Int32) ∧ ar59[(6 : Int32).toNatClampNeg]? = some x42 ∧ ∃ (f43 : List Value) (a44 : Nat), h.2 this = some (.inr (8, f43)) ∧ f43[35]? = some (.ref a44) ∧ ∃ (ar58 : List Int32) (x45 : Int32), h.2 a44 = some (.inl (0, .inl ar58)) ∧ 0 ≤ (7 : Int32) ∧ ar58[(7 : Int32).toNatClampNeg]? = some x45 ∧ ∃ (f46 : List Value) (a47 : Nat), h.2 this = some (.inr (8, f46)) ∧ f46[35]? = some (.ref a47) ∧ ∃ (ar57 : List Int32) (x48 : Int32), h.2 a47 = some (.inl (0, .inl ar57)) ∧ 0 ≤ (8 : Int32) ∧ ar57[(8 : Int32).toNatClampNeg]? = some x48 ∧ (∃ f50, h.2 this = some (.inr (8, f50))) ∧ w_M_store (fun v h49 => v = none ∧ (∃ f52, h49.2 this = some (.inr (8, f52))) ∧ w_M_isUp (fun v h51 => ∃ (x53 : Int32), v = some (.int x53) ∧ ((x53 = 0 → Q none h51) ∧ (¬ x53 = 0 → (∃ f55, h51.2 this = some (.inr (8, f55))) ∧ w_M_answer (fun v h54 => v = none ∧ Q none h54) this 4 p1 0 0 0 0 0 h51))) this p1 h49) this p1 x39 x42 x45 x48 h) ∧ (x9 = 4 → (∃ f63, h.2 this = some (.inr (8, f63))) ∧ w_M_counts (fun v h62 => ∃ (x64 : Int32), v = some (.int x64) ∧ ((x64 = 0 → Q none h62) ∧ (¬ x64 = 0 → (∃ f66, h62.2 this = some (.inr (8, f66))) ∧ w_M_answers (fun v h65 => v = none ∧ Q none h65) this p1 h62))) this p1 h) ∧ (x9 = 5 → (∃ f70, h.2 this = some (.inr (8, f70))) ∧ w_M_votes (fun v h69 => v = none ∧ Q none h69) this p1 ((16 * p1) + x3) h) ∧ (x9 = 6 → (∃ f73, h.2 this = some (.inr (8, f73))) ∧ w_M_counts (fun v h72 => ∃ (x74 : Int32), v = some (.int x74) ∧ ((x74 = 0 → Q none h72) ∧ (¬ x74 = 0 → (∃ f76, h72.2 this = some (.inr (8, f76))) ∧ w_M_answers (fun v h75 => v = none ∧ Q none h75) this p1 h72))) this p1 h) ∧ (x9 = 7 → (∃ f80, h.2 this = some (.inr (8, f80))) ∧ w_M_votes (fun v h79 => v = none ∧ Q none h79) this p1 ((16 * p1) + x3) h) ∧ (x9 = 8 → (∃ f83, h.2 this = some (.inr (8, f83))) ∧ w_M_counts (fun v h82 => ∃ (x84 : Int32), v = some (.int x84) ∧ ((x84 = 0 → Q none h82) ∧ (¬ x84 = 0 → (∃ f86, h82.2 this = some (.inr (8, f86))) ∧ w_M_answers (fun v h85 => v = none ∧ Q none h85) this p1 h82))) this p1 h) ∧ (x9 = 9 → (∃ f90, h.2 this = some (.inr (8, f90))) ∧ w_M_counts (fun v h89 => ∃ (x91 : Int32), v = some (.int x91) ∧ ((x91 = 0 → Q none h89) ∧ (¬ x91 = 0 → (∃ f93, h89.2 this = some (.inr (8, f93))) ∧ w_M_answers (fun v h92 => v = none ∧ Q none h92) this p1 h89))) this p1 h) ∧ (x9 = 10 → (∃ f97, h.2 this = some (.inr (8, f97))) ∧ w_M_answer (fun v h96 => v = none ∧ Q none h96) this 11 p1 0 0 0 1 0 h) ∧ (x9 = 11 → (∃ f100, h.2 this = some (.inr (8, f100))) ∧ w_M_counts (fun v h99 => ∃ (x101 : Int32), v = some (.int x101) ∧ ((x101 = 0 → Q none h99) ∧ (¬ x101 = 0 → (∃ f103, h99.2 this = some (.inr (8, f103))) ∧ w_M_answers (fun v h102 => v = none ∧ Q none h102) this p1 h99))) this p1 h) ∧ (x9 = 12 → (∃ f107, h.2 this = some (.inr (8, f107))) ∧ w_M_storeAll (fun v h106 => v = none ∧ (∃ f109, h106.2 this = some (.inr (8, f109))) ∧ w_M_isUp (fun v h108 => ∃ (x110 : Int32), v = some (.int x110) ∧ ((x110 = 0 → Q none h108) ∧ (¬ x110 = 0 → (∃ f112, h108.2 this = some (.inr (8, f112))) ∧ w_M_answer (fun v h111 => v = none ∧ Q none h111) this 13 p1 0 0 0 0 0 h108))) this p1 h106) this p1 h) ∧ (x9 = 13 → (∃ f116, h.2 this = some (.inr (8, f116))) ∧ w_M_counts (fun v h115 => ∃ (x117 : Int32), v = some (.int x117) ∧ ((x117 = 0 → Q none h115) ∧ (¬ x117 = 0 → (∃ f119, h115.2 this = some (.inr (8, f119))) ∧ w_M_answers (fun v h118 => v = none ∧ Q none h118) this p1 h115))) this p1 h) ∧ (x9 = 14 → (∃ f123, h.2 this = some (.inr (8, f123))) ∧ w_M_storeAll (fun v h122 => v = none ∧ Q none h122) this p1 h) ∧ (x9 = 15 → (∃ f126, h.2 this = some (.inr (8, f126))) ∧ w_M_greatest (fun v h125 => ∃ (x127 : Int32), v = some (.int x127) ∧ ((x127 < 0 → Q none h125) ∧ (¬ x127 < 0 → (∃ f129, h125.2 this = some (.inr (8, f129))) ∧ w_M_answer (fun v h128 => v = none ∧ Q none h128) this 14 p1 0 0 0 1 0 h125))) this p1 h) ∧ (¬ x9 = 1 → ¬ x9 = 2 → ¬ x9 = 3 → ¬ x9 = 4 → ¬ x9 = 5 → ¬ x9 = 6 → ¬ x9 = 7 → ¬ x9 = 8 → ¬ x9 = 9 → ¬ x9 = 10 → ¬ x9 = 11 → ¬ x9 = 12 → ¬ x9 = 13 → ¬ x9 = 14 → ¬ x9 = 15 → (∃ f133, h.2 this = some (.inr (8, f133))) ∧ w_M_counts (fun v h132 => ∃ (x134 : Int32), v = some (.int x134) ∧ ((x134 = 0 → Q none h132) ∧ (¬ x134 = 0 → (∃ f136, h132.2 this = some (.inr (8, f136))) ∧ w_M_answers (fun v h135 => v = none ∧ Q none h135) this p1 h132))) this p1 h))
set_option maxRecDepth 100000 in
set_option maxHeartbeats 4000000 in
theorem x_M_handles {sc : List Int32} {Q : Option Value → xH → Prop} {this : Nat} {p1 : Int32} {h : xH} (hw : w_M_handles Q this p1 h) : xMet sc m_M_handles 11 0 0 [.ref (this), .int (p1)] h Q := by
  unfold w_M_handles at hw
  refine xMet.of2 cw_M_handles rfl rfl ?_
  show xW sc m_M_handles 11 0 0 0 [some (.ref (this)), some (.int (p1)), none, none] [] h Q
  refine xw_bipush (v := 16) d_M_handles_0 (by decide) ?_
  refine xw_iload_n d_M_handles_2 rfl rfl ?_
  refine xw_imul d_M_handles_3 ?_
  refine xw_aload_n d_M_handles_4 rfl rfl ?_
  obtain ⟨f1, a2, hA, hB, hw⟩ := hw
  refine xw_getr fr_M_100 d_M_handles_5 hA hB ?_
  refine xw_iconst (v := 5) d_M_handles_8 (by decide) ?_
  obtain ⟨ar140, x3, hA, hB, hC, hw⟩ := hw
  refine xw_iaload (t := 0) rfl d_M_handles_9 hA hB hC ?_
  refine xw_iadd d_M_handles_10 ?_
  refine xs_istore_n (lv' := [some (.ref (this)), some (.int (p1)), some (.int ((16 * p1) + x3)), none]) d_M_handles_11 rfl rfl rfl ?_
  refine xw_iconst (v := 4) d_M_handles_12 (by decide) ?_
  refine xw_iload_n d_M_handles_13 rfl rfl ?_
  refine xw_imul d_M_handles_14 ?_
  refine xw_aload_n d_M_handles_15 rfl rfl ?_
  obtain ⟨f4, a5, hA, hB, hw⟩ := hw
  refine xw_getr fr_M_100 d_M_handles_16 hA hB ?_
  refine xw_iconst (v := 5) d_M_handles_19 (by decide) ?_
  obtain ⟨ar139, x6, hA, hB, hC, hw⟩ := hw
  refine xw_iaload (t := 0) rfl d_M_handles_20 hA hB hC ?_
  refine xw_iconst (v := 3) d_M_handles_21 (by decide) ?_
  refine xw_iand d_M_handles_22 ?_
  refine xw_iadd d_M_handles_23 ?_
  refine xs_istore_n (lv' := [some (.ref (this)), some (.int (p1)), some (.int ((16 * p1) + x3)), some (.int ((4 * p1) + (x6 &&& 3)))]) d_M_handles_24 rfl rfl rfl ?_
  refine xw_aload_n d_M_handles_25 rfl rfl ?_
  obtain ⟨f7, a8, hA, hB, hw⟩ := hw
  refine xw_getr fr_M_100 d_M_handles_26 hA hB ?_
  refine xw_iconst (v := 0) d_M_handles_29 (by decide) ?_
  obtain ⟨ar138, x9, hA, hB, hC, hw⟩ := hw
  refine xw_iaload (t := 0) rfl d_M_handles_30 hA hB hC ?_
  by_cases c29 : x9 = 1
  · have hw := hw.1 c29
    rw [c29]
    refine xw_tableIn (tgt := 104) (off := 73) d_M_handles_31 (by decide) (by decide) (by decide +kernel) (by decide) ?_
    refine xw_aload_n d_M_handles_104 rfl rfl ?_
    refine xw_iconst (v := 2) d_M_handles_105 (by decide) ?_
    refine xw_iload_n d_M_handles_106 rfl rfl ?_
    refine xw_aload_n d_M_handles_107 rfl rfl ?_
    obtain ⟨f11, a12, hA, hB, hw⟩ := hw
    refine xw_getr fr_M_25 d_M_handles_108 hA hB ?_
    refine xw_iload_n d_M_handles_111 rfl rfl ?_
    obtain ⟨ar28, x13, hA, hB, hC, hw⟩ := hw
    refine xw_iaload (t := 0) rfl d_M_handles_112 hA hB hC ?_
    refine xw_aload_n d_M_handles_113 rfl rfl ?_
    obtain ⟨f14, a15, hA, hB, hw⟩ := hw
    refine xw_getr fr_M_28 d_M_handles_114 hA hB ?_
    refine xw_iload_n d_M_handles_117 rfl rfl ?_
    obtain ⟨ar27, x16, hA, hB, hC, hw⟩ := hw
    refine xw_iaload (t := 0) rfl d_M_handles_118 hA hB hC ?_
    refine xw_aload_n d_M_handles_119 rfl rfl ?_
    obtain ⟨f17, a18, hA, hB, hw⟩ := hw
    refine xw_getr fr_M_31 d_M_handles_120 hA hB ?_
    refine xw_iload_n d_M_handles_123 rfl rfl ?_
    obtain ⟨ar26, x19, hA, hB, hC, hw⟩ := hw
    refine xw_iaload (t := 0) rfl d_M_handles_124 hA hB hC ?_
    refine xw_iconst (v := 0) d_M_handles_125 (by decide) ?_
    refine xw_aload_n d_M_handles_126 rfl rfl ?_
    obtain ⟨f20, a21, hA, hB, hw⟩ := hw
    refine xw_getr fr_M_100 d_M_handles_127 hA hB ?_
    refine xw_iconst (v := 5) d_M_handles_130 (by decide) ?_
    obtain ⟨ar25, x22, hA, hB, hC, hw⟩ := hw
    refine xw_iaload (t := 0) rfl d_M_handles_131 hA hB hC ?_
    obtain ⟨⟨f24, hA⟩, hw⟩ := hw
    refine xc_V7n lk_M_223 in_M_answer d_M_handles_132 (x_M_answer hw) rfl hA rfl ?_
    intro h23 hw
    refine xw_goto (tgt := 288) d_M_handles_135 (by decide) ?_
    exact xw_return rfl d_M_handles_288 hw
  by_cases c36 : x9 = 2
  · have hw := hw.2.1 c36
    rw [c36]
    refine xw_tableIn (tgt := 275) (off := 244) d_M_handles_31 (by decide) (by decide) (by decide +kernel) (by decide) ?_
    refine xw_aload_n d_M_handles_275 rfl rfl ?_
    refine xw_iload_n d_M_handles_276 rfl rfl ?_
    obtain ⟨⟨f31, hA⟩, hw⟩ := hw
    refine xc_V1i lk_M_236 in_M_counts d_M_handles_277 (x_M_counts hw) rfl hA rfl ?_
    intro x32 h30 hw
    refine xw_if_eq (tgt := 288) d_M_handles_280 (by decide) (fun c35 => ?_) (fun c35 => ?_)
    · have hw := hw.1 c35
      exact xw_return rfl d_M_handles_288 hw
    · have hw := hw.2 c35
      refine xw_aload_n d_M_handles_283 rfl rfl ?_
      refine xw_iload_n d_M_handles_284 rfl rfl ?_
      obtain ⟨⟨f34, hA⟩, hw⟩ := hw
      refine xc_V1n lk_M_239 in_M_answers d_M_handles_285 (x_M_answers hw) rfl hA rfl ?_
      intro h33 hw
      exact xw_return rfl d_M_handles_288 hw
  by_cases c61 : x9 = 3
  · have hw := hw.2.2.1 c61
    rw [c61]
    refine xw_tableIn (tgt := 138) (off := 107) d_M_handles_31 (by decide) (by decide) (by decide +kernel) (by decide) ?_
    refine xw_aload_n d_M_handles_138 rfl rfl ?_
    refine xw_iload_n d_M_handles_139 rfl rfl ?_
    refine xw_aload_n d_M_handles_140 rfl rfl ?_
    obtain ⟨f37, a38, hA, hB, hw⟩ := hw
    refine xw_getr fr_M_100 d_M_handles_141 hA hB ?_
    refine xw_iconst (v := 5) d_M_handles_144 (by decide) ?_
    obtain ⟨ar60, x39, hA, hB, hC, hw⟩ := hw
    refine xw_iaload (t := 0) rfl d_M_handles_145 hA hB hC ?_
    refine xw_aload_n d_M_handles_146 rfl rfl ?_
    obtain ⟨f40, a41, hA, hB, hw⟩ := hw
    refine xw_getr fr_M_100 d_M_handles_147 hA hB ?_
    refine xw_bipush (v := 6) d_M_handles_150 (by decide) ?_
    obtain ⟨ar59, x42, hA, hB, hC, hw⟩ := hw
    refine xw_iaload (t := 0) rfl d_M_handles_152 hA hB hC ?_
    refine xw_aload_n d_M_handles_153 rfl rfl ?_
    obtain ⟨f43, a44, hA, hB, hw⟩ := hw
    refine xw_getr fr_M_100 d_M_handles_154 hA hB ?_
    refine xw_bipush (v := 7) d_M_handles_157 (by decide) ?_
    obtain ⟨ar58, x45, hA, hB, hC, hw⟩ := hw
    refine xw_iaload (t := 0) rfl d_M_handles_159 hA hB hC ?_
    refine xw_aload_n d_M_handles_160 rfl rfl ?_
    obtain ⟨f46, a47, hA, hB, hw⟩ := hw
    refine xw_getr fr_M_100 d_M_handles_161 hA hB ?_
    refine xw_bipush (v := 8) d_M_handles_164 (by decide) ?_
    obtain ⟨ar57, x48, hA, hB, hC, hw⟩ := hw
    refine xw_iaload (t := 0) rfl d_M_handles_166 hA hB hC ?_
    obtain ⟨⟨f50, hA⟩, hw⟩ := hw
    refine xc_V5n lk_M_150 in_M_store d_M_handles_167 (x_M_store hw) rfl hA rfl ?_
    intro h49 hw
    refine xw_aload_n d_M_handles_170 rfl rfl ?_
    refine xw_iload_n d_M_handles_171 rfl rfl ?_
    obtain ⟨⟨f52, hA⟩, hw⟩ := hw
    refine xc_V1i lk_M_111 in_M_isUp d_M_handles_172 (x_M_isUp hw) rfl hA rfl ?_
    intro x53 h51 hw
    refine xw_if_eq (tgt := 288) d_M_handles_175 (by decide) (fun c56 => ?_) (fun c56 => ?_)
    · have hw := hw.1 c56
      exact xw_return rfl d_M_handles_288 hw
    · have hw := hw.2 c56
      refine xw_aload_n d_M_handles_178 rfl rfl ?_
      refine xw_iconst (v := 4) d_M_handles_179 (by decide) ?_
      refine xw_iload_n d_M_handles_180 rfl rfl ?_
      refine xw_iconst (v := 0) d_M_handles_181 (by decide) ?_
      refine xw_iconst (v := 0) d_M_handles_182 (by decide) ?_
      refine xw_iconst (v := 0) d_M_handles_183 (by decide) ?_
      refine xw_iconst (v := 0) d_M_handles_184 (by decide) ?_
      refine xw_iconst (v := 0) d_M_handles_185 (by decide) ?_
      obtain ⟨⟨f55, hA⟩, hw⟩ := hw
      refine xc_V7n lk_M_223 in_M_answer d_M_handles_186 (x_M_answer hw) rfl hA rfl ?_
      intro h54 hw
      refine xw_goto (tgt := 288) d_M_handles_189 (by decide) ?_
      exact xw_return rfl d_M_handles_288 hw
  by_cases c68 : x9 = 4
  · have hw := hw.2.2.2.1 c68
    rw [c68]
    refine xw_tableIn (tgt := 275) (off := 244) d_M_handles_31 (by decide) (by decide) (by decide +kernel) (by decide) ?_
    refine xw_aload_n d_M_handles_275 rfl rfl ?_
    refine xw_iload_n d_M_handles_276 rfl rfl ?_
    obtain ⟨⟨f63, hA⟩, hw⟩ := hw
    refine xc_V1i lk_M_236 in_M_counts d_M_handles_277 (x_M_counts hw) rfl hA rfl ?_
    intro x64 h62 hw
    refine xw_if_eq (tgt := 288) d_M_handles_280 (by decide) (fun c67 => ?_) (fun c67 => ?_)
    · have hw := hw.1 c67
      exact xw_return rfl d_M_handles_288 hw
    · have hw := hw.2 c67
      refine xw_aload_n d_M_handles_283 rfl rfl ?_
      refine xw_iload_n d_M_handles_284 rfl rfl ?_
      obtain ⟨⟨f66, hA⟩, hw⟩ := hw
      refine xc_V1n lk_M_239 in_M_answers d_M_handles_285 (x_M_answers hw) rfl hA rfl ?_
      intro h65 hw
      exact xw_return rfl d_M_handles_288 hw
  by_cases c71 : x9 = 5
  · have hw := hw.2.2.2.2.1 c71
    rw [c71]
    refine xw_tableIn (tgt := 192) (off := 161) d_M_handles_31 (by decide) (by decide) (by decide +kernel) (by decide) ?_
    refine xw_aload_n d_M_handles_192 rfl rfl ?_
    refine xw_iload_n d_M_handles_193 rfl rfl ?_
    refine xw_iload_n d_M_handles_194 rfl rfl ?_
    obtain ⟨⟨f70, hA⟩, hw⟩ := hw
    refine xc_V2n lk_M_227 in_M_votes d_M_handles_195 (x_M_votes hw) rfl hA rfl ?_
    intro h69 hw
    refine xw_goto (tgt := 288) d_M_handles_198 (by decide) ?_
    exact xw_return rfl d_M_handles_288 hw
  by_cases c78 : x9 = 6
  · have hw := hw.2.2.2.2.2.1 c78
    rw [c78]
    refine xw_tableIn (tgt := 275) (off := 244) d_M_handles_31 (by decide) (by decide) (by decide +kernel) (by decide) ?_
    refine xw_aload_n d_M_handles_275 rfl rfl ?_
    refine xw_iload_n d_M_handles_276 rfl rfl ?_
    obtain ⟨⟨f73, hA⟩, hw⟩ := hw
    refine xc_V1i lk_M_236 in_M_counts d_M_handles_277 (x_M_counts hw) rfl hA rfl ?_
    intro x74 h72 hw
    refine xw_if_eq (tgt := 288) d_M_handles_280 (by decide) (fun c77 => ?_) (fun c77 => ?_)
    · have hw := hw.1 c77
      exact xw_return rfl d_M_handles_288 hw
    · have hw := hw.2 c77
      refine xw_aload_n d_M_handles_283 rfl rfl ?_
      refine xw_iload_n d_M_handles_284 rfl rfl ?_
      obtain ⟨⟨f76, hA⟩, hw⟩ := hw
      refine xc_V1n lk_M_239 in_M_answers d_M_handles_285 (x_M_answers hw) rfl hA rfl ?_
      intro h75 hw
      exact xw_return rfl d_M_handles_288 hw
  by_cases c81 : x9 = 7
  · have hw := hw.2.2.2.2.2.2.1 c81
    rw [c81]
    refine xw_tableIn (tgt := 192) (off := 161) d_M_handles_31 (by decide) (by decide) (by decide +kernel) (by decide) ?_
    refine xw_aload_n d_M_handles_192 rfl rfl ?_
    refine xw_iload_n d_M_handles_193 rfl rfl ?_
    refine xw_iload_n d_M_handles_194 rfl rfl ?_
    obtain ⟨⟨f80, hA⟩, hw⟩ := hw
    refine xc_V2n lk_M_227 in_M_votes d_M_handles_195 (x_M_votes hw) rfl hA rfl ?_
    intro h79 hw
    refine xw_goto (tgt := 288) d_M_handles_198 (by decide) ?_
    exact xw_return rfl d_M_handles_288 hw
  by_cases c88 : x9 = 8
  · have hw := hw.2.2.2.2.2.2.2.1 c88
    rw [c88]
    refine xw_tableIn (tgt := 275) (off := 244) d_M_handles_31 (by decide) (by decide) (by decide +kernel) (by decide) ?_
    refine xw_aload_n d_M_handles_275 rfl rfl ?_
    refine xw_iload_n d_M_handles_276 rfl rfl ?_
    obtain ⟨⟨f83, hA⟩, hw⟩ := hw
    refine xc_V1i lk_M_236 in_M_counts d_M_handles_277 (x_M_counts hw) rfl hA rfl ?_
    intro x84 h82 hw
    refine xw_if_eq (tgt := 288) d_M_handles_280 (by decide) (fun c87 => ?_) (fun c87 => ?_)
    · have hw := hw.1 c87
      exact xw_return rfl d_M_handles_288 hw
    · have hw := hw.2 c87
      refine xw_aload_n d_M_handles_283 rfl rfl ?_
      refine xw_iload_n d_M_handles_284 rfl rfl ?_
      obtain ⟨⟨f86, hA⟩, hw⟩ := hw
      refine xc_V1n lk_M_239 in_M_answers d_M_handles_285 (x_M_answers hw) rfl hA rfl ?_
      intro h85 hw
      exact xw_return rfl d_M_handles_288 hw
  by_cases c95 : x9 = 9
  · have hw := hw.2.2.2.2.2.2.2.2.1 c95
    rw [c95]
    refine xw_tableIn (tgt := 275) (off := 244) d_M_handles_31 (by decide) (by decide) (by decide +kernel) (by decide) ?_
    refine xw_aload_n d_M_handles_275 rfl rfl ?_
    refine xw_iload_n d_M_handles_276 rfl rfl ?_
    obtain ⟨⟨f90, hA⟩, hw⟩ := hw
    refine xc_V1i lk_M_236 in_M_counts d_M_handles_277 (x_M_counts hw) rfl hA rfl ?_
    intro x91 h89 hw
    refine xw_if_eq (tgt := 288) d_M_handles_280 (by decide) (fun c94 => ?_) (fun c94 => ?_)
    · have hw := hw.1 c94
      exact xw_return rfl d_M_handles_288 hw
    · have hw := hw.2 c94
      refine xw_aload_n d_M_handles_283 rfl rfl ?_
      refine xw_iload_n d_M_handles_284 rfl rfl ?_
      obtain ⟨⟨f93, hA⟩, hw⟩ := hw
      refine xc_V1n lk_M_239 in_M_answers d_M_handles_285 (x_M_answers hw) rfl hA rfl ?_
      intro h92 hw
      exact xw_return rfl d_M_handles_288 hw
  by_cases c98 : x9 = 10
  · have hw := hw.2.2.2.2.2.2.2.2.2.1 c98
    rw [c98]
    refine xw_tableIn (tgt := 201) (off := 170) d_M_handles_31 (by decide) (by decide) (by decide +kernel) (by decide) ?_
    refine xw_aload_n d_M_handles_201 rfl rfl ?_
    refine xw_bipush (v := 11) d_M_handles_202 (by decide) ?_
    refine xw_iload_n d_M_handles_204 rfl rfl ?_
    refine xw_iconst (v := 0) d_M_handles_205 (by decide) ?_
    refine xw_iconst (v := 0) d_M_handles_206 (by decide) ?_
    refine xw_iconst (v := 0) d_M_handles_207 (by decide) ?_
    refine xw_iconst (v := 1) d_M_handles_208 (by decide) ?_
    refine xw_iconst (v := 0) d_M_handles_209 (by decide) ?_
    obtain ⟨⟨f97, hA⟩, hw⟩ := hw
    refine xc_V7n lk_M_223 in_M_answer d_M_handles_210 (x_M_answer hw) rfl hA rfl ?_
    intro h96 hw
    refine xw_goto (tgt := 288) d_M_handles_213 (by decide) ?_
    exact xw_return rfl d_M_handles_288 hw
  by_cases c105 : x9 = 11
  · have hw := hw.2.2.2.2.2.2.2.2.2.2.1 c105
    rw [c105]
    refine xw_tableIn (tgt := 275) (off := 244) d_M_handles_31 (by decide) (by decide) (by decide +kernel) (by decide) ?_
    refine xw_aload_n d_M_handles_275 rfl rfl ?_
    refine xw_iload_n d_M_handles_276 rfl rfl ?_
    obtain ⟨⟨f100, hA⟩, hw⟩ := hw
    refine xc_V1i lk_M_236 in_M_counts d_M_handles_277 (x_M_counts hw) rfl hA rfl ?_
    intro x101 h99 hw
    refine xw_if_eq (tgt := 288) d_M_handles_280 (by decide) (fun c104 => ?_) (fun c104 => ?_)
    · have hw := hw.1 c104
      exact xw_return rfl d_M_handles_288 hw
    · have hw := hw.2 c104
      refine xw_aload_n d_M_handles_283 rfl rfl ?_
      refine xw_iload_n d_M_handles_284 rfl rfl ?_
      obtain ⟨⟨f103, hA⟩, hw⟩ := hw
      refine xc_V1n lk_M_239 in_M_answers d_M_handles_285 (x_M_answers hw) rfl hA rfl ?_
      intro h102 hw
      exact xw_return rfl d_M_handles_288 hw
  by_cases c114 : x9 = 12
  · have hw := hw.2.2.2.2.2.2.2.2.2.2.2.1 c114
    rw [c114]
    refine xw_tableIn (tgt := 216) (off := 185) d_M_handles_31 (by decide) (by decide) (by decide +kernel) (by decide) ?_
    refine xw_aload_n d_M_handles_216 rfl rfl ?_
    refine xw_iload_n d_M_handles_217 rfl rfl ?_
    obtain ⟨⟨f107, hA⟩, hw⟩ := hw
    refine xc_V1n lk_M_230 in_M_storeAll d_M_handles_218 (x_M_storeAll hw) rfl hA rfl ?_
    intro h106 hw
    refine xw_aload_n d_M_handles_221 rfl rfl ?_
    refine xw_iload_n d_M_handles_222 rfl rfl ?_
    obtain ⟨⟨f109, hA⟩, hw⟩ := hw
    refine xc_V1i lk_M_111 in_M_isUp d_M_handles_223 (x_M_isUp hw) rfl hA rfl ?_
    intro x110 h108 hw
    refine xw_if_eq (tgt := 288) d_M_handles_226 (by decide) (fun c113 => ?_) (fun c113 => ?_)
    · have hw := hw.1 c113
      exact xw_return rfl d_M_handles_288 hw
    · have hw := hw.2 c113
      refine xw_aload_n d_M_handles_229 rfl rfl ?_
      refine xw_bipush (v := 13) d_M_handles_230 (by decide) ?_
      refine xw_iload_n d_M_handles_232 rfl rfl ?_
      refine xw_iconst (v := 0) d_M_handles_233 (by decide) ?_
      refine xw_iconst (v := 0) d_M_handles_234 (by decide) ?_
      refine xw_iconst (v := 0) d_M_handles_235 (by decide) ?_
      refine xw_iconst (v := 0) d_M_handles_236 (by decide) ?_
      refine xw_iconst (v := 0) d_M_handles_237 (by decide) ?_
      obtain ⟨⟨f112, hA⟩, hw⟩ := hw
      refine xc_V7n lk_M_223 in_M_answer d_M_handles_238 (x_M_answer hw) rfl hA rfl ?_
      intro h111 hw
      refine xw_goto (tgt := 288) d_M_handles_241 (by decide) ?_
      exact xw_return rfl d_M_handles_288 hw
  by_cases c121 : x9 = 13
  · have hw := hw.2.2.2.2.2.2.2.2.2.2.2.2.1 c121
    rw [c121]
    refine xw_tableIn (tgt := 275) (off := 244) d_M_handles_31 (by decide) (by decide) (by decide +kernel) (by decide) ?_
    refine xw_aload_n d_M_handles_275 rfl rfl ?_
    refine xw_iload_n d_M_handles_276 rfl rfl ?_
    obtain ⟨⟨f116, hA⟩, hw⟩ := hw
    refine xc_V1i lk_M_236 in_M_counts d_M_handles_277 (x_M_counts hw) rfl hA rfl ?_
    intro x117 h115 hw
    refine xw_if_eq (tgt := 288) d_M_handles_280 (by decide) (fun c120 => ?_) (fun c120 => ?_)
    · have hw := hw.1 c120
      exact xw_return rfl d_M_handles_288 hw
    · have hw := hw.2 c120
      refine xw_aload_n d_M_handles_283 rfl rfl ?_
      refine xw_iload_n d_M_handles_284 rfl rfl ?_
      obtain ⟨⟨f119, hA⟩, hw⟩ := hw
      refine xc_V1n lk_M_239 in_M_answers d_M_handles_285 (x_M_answers hw) rfl hA rfl ?_
      intro h118 hw
      exact xw_return rfl d_M_handles_288 hw
  by_cases c124 : x9 = 14
  · have hw := hw.2.2.2.2.2.2.2.2.2.2.2.2.2.1 c124
    rw [c124]
    refine xw_tableIn (tgt := 244) (off := 213) d_M_handles_31 (by decide) (by decide) (by decide +kernel) (by decide) ?_
    refine xw_aload_n d_M_handles_244 rfl rfl ?_
    refine xw_iload_n d_M_handles_245 rfl rfl ?_
    obtain ⟨⟨f123, hA⟩, hw⟩ := hw
    refine xc_V1n lk_M_230 in_M_storeAll d_M_handles_246 (x_M_storeAll hw) rfl hA rfl ?_
    intro h122 hw
    refine xw_goto (tgt := 288) d_M_handles_249 (by decide) ?_
    exact xw_return rfl d_M_handles_288 hw
  by_cases c131 : x9 = 15
  · have hw := hw.2.2.2.2.2.2.2.2.2.2.2.2.2.2.1 c131
    rw [c131]
    refine xw_tableIn (tgt := 252) (off := 221) d_M_handles_31 (by decide) (by decide) (by decide +kernel) (by decide) ?_
    refine xw_aload_n d_M_handles_252 rfl rfl ?_
    refine xw_iload_n d_M_handles_253 rfl rfl ?_
    obtain ⟨⟨f126, hA⟩, hw⟩ := hw
    refine xc_V1i lk_M_233 in_M_greatest d_M_handles_254 (x_M_greatest hw) rfl hA rfl ?_
    intro x127 h125 hw
    refine xw_if_lt (tgt := 288) d_M_handles_257 (by decide) (fun c130 => ?_) (fun c130 => ?_)
    · have hw := hw.1 c130
      exact xw_return rfl d_M_handles_288 hw
    · have hw := hw.2 c130
      refine xw_aload_n d_M_handles_260 rfl rfl ?_
      refine xw_bipush (v := 14) d_M_handles_261 (by decide) ?_
      refine xw_iload_n d_M_handles_263 rfl rfl ?_
      refine xw_iconst (v := 0) d_M_handles_264 (by decide) ?_
      refine xw_iconst (v := 0) d_M_handles_265 (by decide) ?_
      refine xw_iconst (v := 0) d_M_handles_266 (by decide) ?_
      refine xw_iconst (v := 1) d_M_handles_267 (by decide) ?_
      refine xw_iconst (v := 0) d_M_handles_268 (by decide) ?_
      obtain ⟨⟨f129, hA⟩, hw⟩ := hw
      refine xc_V7n lk_M_223 in_M_answer d_M_handles_269 (x_M_answer hw) rfl hA rfl ?_
      intro h128 hw
      refine xw_goto (tgt := 288) d_M_handles_272 (by decide) ?_
      exact xw_return rfl d_M_handles_288 hw
  have hw := hw.2.2.2.2.2.2.2.2.2.2.2.2.2.2.2 c29 c36 c61 c68 c71 c78 c81 c88 c95 c98 c105 c114 c121 c124 c131
  have ec29 := lv_neT c29 (a := 1) (by decide)
  have ec36 := lv_neT c36 (a := 2) (by decide)
  have ec61 := lv_neT c61 (a := 3) (by decide)
  have ec68 := lv_neT c68 (a := 4) (by decide)
  have ec71 := lv_neT c71 (a := 5) (by decide)
  have ec78 := lv_neT c78 (a := 6) (by decide)
  have ec81 := lv_neT c81 (a := 7) (by decide)
  have ec88 := lv_neT c88 (a := 8) (by decide)
  have ec95 := lv_neT c95 (a := 9) (by decide)
  have ec98 := lv_neT c98 (a := 10) (by decide)
  have ec105 := lv_neT c105 (a := 11) (by decide)
  have ec114 := lv_neT c114 (a := 12) (by decide)
  have ec121 := lv_neT c121 (a := 13) (by decide)
  have ec124 := lv_neT c124 (a := 14) (by decide)
  have ec131 := lv_neT c131 (a := 15) (by decide)
  refine xw_tableOut (tgt := 275) d_M_handles_31 (by omega) (by decide) ?_
  refine xw_aload_n d_M_handles_275 rfl rfl ?_
  refine xw_iload_n d_M_handles_276 rfl rfl ?_
  obtain ⟨⟨f133, hA⟩, hw⟩ := hw
  refine xc_V1i lk_M_236 in_M_counts d_M_handles_277 (x_M_counts hw) rfl hA rfl ?_
  intro x134 h132 hw
  refine xw_if_eq (tgt := 288) d_M_handles_280 (by decide) (fun c137 => ?_) (fun c137 => ?_)
  · have hw := hw.1 c137
    exact xw_return rfl d_M_handles_288 hw
  · have hw := hw.2 c137
    refine xw_aload_n d_M_handles_283 rfl rfl ?_
    refine xw_iload_n d_M_handles_284 rfl rfl ?_
    obtain ⟨⟨f136, hA⟩, hw⟩ := hw
    refine xc_V1n lk_M_239 in_M_answers d_M_handles_285 (x_M_answers hw) rfl hA rfl ?_
    intro h135 hw
    exact xw_return rfl d_M_handles_288 hw
set_option maxRecDepth 100000 in
def w_M_isFree (Q : Option Value → xH → Prop) (this : Nat) (p1 : Int32) (h : xH) : Prop := w_M_isNode (fun v h1 => ∃ (x2 : Int32), v = some (.int x2) ∧ ((x2 = 0 → (narrow .boolean (.int 0) = .int 0 ∧ Q (some (.int 0)) h1)) ∧ (¬ x2 = 0 → (∃ f4, h1.2 this = some (.inr (8, f4))) ∧ w_M_isUp (fun v h3 => ∃ (x5 : Int32), v = some (.int x5) ∧ ((x5 = 0 → (narrow .boolean (.int 0) = .int 0 ∧ Q (some (.int 0)) h3)) ∧ (¬ x5 = 0 → (∃ f7, h3.2 this = some (.inr (8, f7))) ∧ w_M_greatest (fun v h6 => ∃ (x8 : Int32), v = some (.int x8) ∧ ((x8 < 0 → (narrow .boolean (.int 0) = .int 0 ∧ Q (some (.int 0)) h6)) ∧ (¬ x8 < 0 → ∃ (f9 : List Value) (a10 : Nat), h6.2 this = some (.inr (8, f9)) ∧ f9[17]? = some (.ref a10) ∧ ∃ (ar13 : List Int32) (x11 : Int32), h6.2 a10 = some (.inl (0, .inl ar13)) ∧ 0 ≤ p1 ∧ ar13[p1.toNatClampNeg]? = some x11 ∧ ((¬ x11 = 0 → (narrow .boolean (.int 0) = .int 0 ∧ Q (some (.int 0)) h6)) ∧ (x11 = 0 → (narrow .boolean (.int 1) = .int 1 ∧ Q (some (.int 1)) h6)))))) this p1 h3))) this p1 h1))) p1 h
set_option maxRecDepth 100000 in
set_option maxHeartbeats 4000000 in
theorem x_M_isFree {sc : List Int32} {Q : Option Value → xH → Prop} {this : Nat} {p1 : Int32} {h : xH} (hw : w_M_isFree Q this p1 h) : xMet sc m_M_isFree 2 0 0 [.ref (this), .int (p1)] h Q := by
  unfold w_M_isFree at hw
  refine xMet.of2 cw_M_isFree rfl rfl ?_
  show xW sc m_M_isFree 2 0 0 0 [some (.ref (this)), some (.int (p1))] [] h Q
  refine xw_iload_n d_M_isFree_0 rfl rfl ?_
  refine xc_S1i lk_M_245 st_M_isNode d_M_isFree_1 (x_M_isNode hw) rfl rfl ?_
  intro x2 h1 hw
  refine xw_if_eq (tgt := 36) d_M_isFree_4 (by decide) (fun c16 => ?_) (fun c16 => ?_)
  · have hw := hw.1 c16
    refine xw_iconst (v := 0) d_M_isFree_36 (by decide) ?_
    exact xw_zreturn rfl hw.1 d_M_isFree_37 hw.2
  · have hw := hw.2 c16
    refine xw_aload_n d_M_isFree_7 rfl rfl ?_
    refine xw_iload_n d_M_isFree_8 rfl rfl ?_
    obtain ⟨⟨f4, hA⟩, hw⟩ := hw
    refine xc_V1i lk_M_111 in_M_isUp d_M_isFree_9 (x_M_isUp hw) rfl hA rfl ?_
    intro x5 h3 hw
    refine xw_if_eq (tgt := 36) d_M_isFree_12 (by decide) (fun c15 => ?_) (fun c15 => ?_)
    · have hw := hw.1 c15
      refine xw_iconst (v := 0) d_M_isFree_36 (by decide) ?_
      exact xw_zreturn rfl hw.1 d_M_isFree_37 hw.2
    · have hw := hw.2 c15
      refine xw_aload_n d_M_isFree_15 rfl rfl ?_
      refine xw_iload_n d_M_isFree_16 rfl rfl ?_
      obtain ⟨⟨f7, hA⟩, hw⟩ := hw
      refine xc_V1i lk_M_233 in_M_greatest d_M_isFree_17 (x_M_greatest hw) rfl hA rfl ?_
      intro x8 h6 hw
      refine xw_if_lt (tgt := 36) d_M_isFree_20 (by decide) (fun c14 => ?_) (fun c14 => ?_)
      · have hw := hw.1 c14
        refine xw_iconst (v := 0) d_M_isFree_36 (by decide) ?_
        exact xw_zreturn rfl hw.1 d_M_isFree_37 hw.2
      · have hw := hw.2 c14
        refine xw_aload_n d_M_isFree_23 rfl rfl ?_
        obtain ⟨f9, a10, hA, hB, hw⟩ := hw
        refine xw_getr fr_M_55 d_M_isFree_24 hA hB ?_
        refine xw_iload_n d_M_isFree_27 rfl rfl ?_
        obtain ⟨ar13, x11, hA, hB, hC, hw⟩ := hw
        refine xw_iaload (t := 0) rfl d_M_isFree_28 hA hB hC ?_
        refine xw_if_ne (tgt := 36) d_M_isFree_29 (by decide) (fun c12 => ?_) (fun c12 => ?_)
        · have hw := hw.1 c12
          refine xw_iconst (v := 0) d_M_isFree_36 (by decide) ?_
          exact xw_zreturn rfl hw.1 d_M_isFree_37 hw.2
        · have hw := hw.2 c12
          refine xw_iconst (v := 1) d_M_isFree_32 (by decide) ?_
          refine xw_goto (tgt := 37) d_M_isFree_33 (by decide) ?_
          exact xw_zreturn rfl hw.1 d_M_isFree_37 hw.2
set_option maxRecDepth 100000 in
def w_M_starts (Q : Option Value → xH → Prop) (this : Nat) (p1 : Int32) (p2 : Int32) (p3 : Int32) (p4 : Int32) (h : xH) : Prop := ∃ (f1 : List Value) (x2 : Int32), h.2 this = some (.inr (8, f1)) ∧ f1[14]? = some (.int x2) ∧ ∃ f3, h.2 this = some (.inr (8, f3)) ∧ 14 < f3.length ∧ ∀ h4, h4 = xu h this (.inr (8, f3.set 14 (.int (x2 + 1)))) → ∃ (f5 : List Value) (x6 : Int32), h4.2 this = some (.inr (8, f5)) ∧ f5[14]? = some (.int x6) ∧ ∃ (f7 : List Value) (a8 : Nat), h4.2 this = some (.inr (8, f7)) ∧ f7[15]? = some (.ref a8) ∧ ∃ ar9, h4.2 a8 = some (.inl (0, .inl ar9)) ∧ 0 ≤ p1 ∧ p1.toNatClampNeg < ar9.length ∧ ∀ h10, h10 = xu h4 a8 (.inl (0, .inl (ar9.set p1.toNatClampNeg x6))) → ∃ (f11 : List Value) (a12 : Nat), h10.2 this = some (.inr (8, f11)) ∧ f11[16]? = some (.ref a12) ∧ ∃ ar13, h10.2 a12 = some (.inl (0, .inl ar13)) ∧ 0 ≤ p1 ∧ p1.toNatClampNeg < ar13.length ∧ ∀ h14, h14 = xu h10 a12 (.inl (0, .inl (ar13.set p1.toNatClampNeg p2))) → ∃ (f15 : List Value) (a16 : Nat), h14.2 this = some (.inr (8, f15)) ∧ f15[18]? = some (.ref a16) ∧ ∃ ar17, h14.2 a16 = some (.inl (0, .inl ar17)) ∧ 0 ≤ p1 ∧ p1.toNatClampNeg < ar17.length ∧ ∀ h18, h18 = xu h14 a16 (.inl (0, .inl (ar17.set p1.toNatClampNeg p3))) → ∃ (f19 : List Value) (a20 : Nat), h18.2 this = some (.inr (8, f19)) ∧ f19[22]? = some (.ref a20) ∧ ∃ ar21, h18.2 a20 = some (.inl (0, .inl ar21)) ∧ 0 ≤ p1 ∧ p1.toNatClampNeg < ar21.length ∧ ∀ h22, h22 = xu h18 a20 (.inl (0, .inl (ar21.set p1.toNatClampNeg p4))) → ∃ (f23 : List Value) (a24 : Nat), h22.2 this = some (.inr (8, f23)) ∧ f23[19]? = some (.ref a24) ∧ ∃ ar25, h22.2 a24 = some (.inl (0, .inl ar25)) ∧ 0 ≤ p1 ∧ p1.toNatClampNeg < ar25.length ∧ ∀ h26, h26 = xu h22 a24 (.inl (0, .inl (ar25.set p1.toNatClampNeg 0))) → ∃ (f27 : List Value) (a28 : Nat), h26.2 this = some (.inr (8, f27)) ∧ f27[24]? = some (.ref a28) ∧ ∃ ar29, h26.2 a28 = some (.inl (0, .inl ar29)) ∧ 0 ≤ p1 ∧ p1.toNatClampNeg < ar29.length ∧ ∀ h30, h30 = xu h26 a28 (.inl (0, .inl (ar29.set p1.toNatClampNeg 0))) → (∃ f32, h30.2 this = some (.inr (8, f32))) ∧ w_M_begins (fun v h31 => v = none ∧ (∃ f34, h31.2 this = some (.inr (8, f34))) ∧ w_M_goesOn (fun v h33 => v = none ∧ (∃ f36, h33.2 this = some (.inr (8, f36))) ∧ w_M_isUp (fun v h35 => ∃ (x37 : Int32), v = some (.int x37) ∧ ((x37 = 0 → Q (some (.int (-9))) h35) ∧ (¬ x37 = 0 → Q (some (.int x6)) h35))) this p1 h33) this p1 h31) this p1 1 h30
set_option maxRecDepth 100000 in
set_option maxHeartbeats 4000000 in
theorem x_M_starts {sc : List Int32} {Q : Option Value → xH → Prop} {this : Nat} {p1 : Int32} {p2 : Int32} {p3 : Int32} {p4 : Int32} {h : xH} (hw : w_M_starts Q this p1 p2 p3 p4 h) : xMet sc m_M_starts 9 0 0 [.ref (this), .int (p1), .int (p2), .int (p3), .int (p4)] h Q := by
  unfold w_M_starts at hw
  refine xMet.of2 cw_M_starts rfl rfl ?_
  show xW sc m_M_starts 9 0 0 0 [some (.ref (this)), some (.int (p1)), some (.int (p2)), some (.int (p3)), some (.int (p4)), none] [] h Q
  refine xw_aload_n d_M_starts_0 rfl rfl ?_
  refine xw_dup d_M_starts_1 rfl ?_
  obtain ⟨f1, x2, hA, hB, hw⟩ := hw
  refine xw_getr fr_M_248 d_M_starts_2 hA hB ?_
  refine xw_iconst (v := 1) d_M_starts_5 (by decide) ?_
  refine xw_iadd d_M_starts_6 ?_
  obtain ⟨f3, hA, hB, hw⟩ := hw
  refine xw_puti fs_M_248 d_M_starts_7 hA hB ?_
  generalize hh : xu h this (.inr (8, f3.set 14 (.int (x2 + 1)))) = h4
  have hw := hw h4 hh.symm
  refine xw_aload_n d_M_starts_10 rfl rfl ?_
  obtain ⟨f5, x6, hA, hB, hw⟩ := hw
  refine xw_getr fr_M_248 d_M_starts_11 hA hB ?_
  refine xs_istore (lv' := [some (.ref (this)), some (.int (p1)), some (.int (p2)), some (.int (p3)), some (.int (p4)), some (.int (x6))]) d_M_starts_14 rfl rfl ?_
  refine xw_aload_n d_M_starts_16 rfl rfl ?_
  obtain ⟨f7, a8, hA, hB, hw⟩ := hw
  refine xw_getr fr_M_49 d_M_starts_17 hA hB ?_
  refine xw_iload_n d_M_starts_20 rfl rfl ?_
  refine xw_iload d_M_starts_21 rfl ?_
  obtain ⟨ar9, hA, hB, hC, hw⟩ := hw
  refine xw_iastore (t := 0) rfl d_M_starts_23 hA hB hC ?_
  generalize hh : xu h4 a8 (.inl (0, .inl (ar9.set p1.toNatClampNeg x6))) = h10
  have hw := hw h10 hh.symm
  refine xw_aload_n d_M_starts_24 rfl rfl ?_
  obtain ⟨f11, a12, hA, hB, hw⟩ := hw
  refine xw_getr fr_M_52 d_M_starts_25 hA hB ?_
  refine xw_iload_n d_M_starts_28 rfl rfl ?_
  refine xw_iload_n d_M_starts_29 rfl rfl ?_
  obtain ⟨ar13, hA, hB, hC, hw⟩ := hw
  refine xw_iastore (t := 0) rfl d_M_starts_30 hA hB hC ?_
  generalize hh : xu h10 a12 (.inl (0, .inl (ar13.set p1.toNatClampNeg p2))) = h14
  have hw := hw h14 hh.symm
  refine xw_aload_n d_M_starts_31 rfl rfl ?_
  obtain ⟨f15, a16, hA, hB, hw⟩ := hw
  refine xw_getr fr_M_58 d_M_starts_32 hA hB ?_
  refine xw_iload_n d_M_starts_35 rfl rfl ?_
  refine xw_iload_n d_M_starts_36 rfl rfl ?_
  obtain ⟨ar17, hA, hB, hC, hw⟩ := hw
  refine xw_iastore (t := 0) rfl d_M_starts_37 hA hB hC ?_
  generalize hh : xu h14 a16 (.inl (0, .inl (ar17.set p1.toNatClampNeg p3))) = h18
  have hw := hw h18 hh.symm
  refine xw_aload_n d_M_starts_38 rfl rfl ?_
  obtain ⟨f19, a20, hA, hB, hw⟩ := hw
  refine xw_getr fr_M_70 d_M_starts_39 hA hB ?_
  refine xw_iload_n d_M_starts_42 rfl rfl ?_
  refine xw_iload d_M_starts_43 rfl ?_
  obtain ⟨ar21, hA, hB, hC, hw⟩ := hw
  refine xw_iastore (t := 0) rfl d_M_starts_45 hA hB hC ?_
  generalize hh : xu h18 a20 (.inl (0, .inl (ar21.set p1.toNatClampNeg p4))) = h22
  have hw := hw h22 hh.symm
  refine xw_aload_n d_M_starts_46 rfl rfl ?_
  obtain ⟨f23, a24, hA, hB, hw⟩ := hw
  refine xw_getr fr_M_61 d_M_starts_47 hA hB ?_
  refine xw_iload_n d_M_starts_50 rfl rfl ?_
  refine xw_iconst (v := 0) d_M_starts_51 (by decide) ?_
  obtain ⟨ar25, hA, hB, hC, hw⟩ := hw
  refine xw_iastore (t := 0) rfl d_M_starts_52 hA hB hC ?_
  generalize hh : xu h22 a24 (.inl (0, .inl (ar25.set p1.toNatClampNeg 0))) = h26
  have hw := hw h26 hh.symm
  refine xw_aload_n d_M_starts_53 rfl rfl ?_
  obtain ⟨f27, a28, hA, hB, hw⟩ := hw
  refine xw_getr fr_M_76 d_M_starts_54 hA hB ?_
  refine xw_iload_n d_M_starts_57 rfl rfl ?_
  refine xw_iconst (v := 0) d_M_starts_58 (by decide) ?_
  obtain ⟨ar29, hA, hB, hC, hw⟩ := hw
  refine xw_iastore (t := 0) rfl d_M_starts_59 hA hB hC ?_
  generalize hh : xu h26 a28 (.inl (0, .inl (ar29.set p1.toNatClampNeg 0))) = h30
  have hw := hw h30 hh.symm
  refine xw_aload_n d_M_starts_60 rfl rfl ?_
  refine xw_iload_n d_M_starts_61 rfl rfl ?_
  refine xw_iconst (v := 1) d_M_starts_62 (by decide) ?_
  obtain ⟨⟨f32, hA⟩, hw⟩ := hw
  refine xc_V2n lk_M_203 in_M_begins d_M_starts_63 (x_M_begins hw) rfl hA rfl ?_
  intro h31 hw
  refine xw_aload_n d_M_starts_66 rfl rfl ?_
  refine xw_iload_n d_M_starts_67 rfl rfl ?_
  obtain ⟨⟨f34, hA⟩, hw⟩ := hw
  refine xc_V1n lk_M_216 in_M_goesOn d_M_starts_68 (x_M_goesOn hw) rfl hA rfl ?_
  intro h33 hw
  refine xw_aload_n d_M_starts_71 rfl rfl ?_
  refine xw_iload_n d_M_starts_72 rfl rfl ?_
  obtain ⟨⟨f36, hA⟩, hw⟩ := hw
  refine xc_V1i lk_M_111 in_M_isUp d_M_starts_73 (x_M_isUp hw) rfl hA rfl ?_
  intro x37 h35 hw
  refine xw_if_eq (tgt := 84) d_M_starts_76 (by decide) (fun c38 => ?_) (fun c38 => ?_)
  · have hw := hw.1 c38
    refine xw_bipush (v := -9) d_M_starts_84 (by decide) ?_
    exact xw_ireturn rfl d_M_starts_86 hw
  · have hw := hw.2 c38
    refine xw_iload d_M_starts_79 rfl ?_
    refine xw_goto (tgt := 86) d_M_starts_81 (by decide) ?_
    exact xw_ireturn rfl d_M_starts_86 hw
set_option maxRecDepth 100000 in
def w_M_read_22 (Q : Option Value → xH → Prop) (l0 : Nat) (l1 : Int32) (l2 : Int32) (h : xH) : Prop := Q (some (.int (-1))) h
set_option maxRecDepth 100000 in
set_option maxHeartbeats 4000000 in
theorem p_M_read_22 {sc : List Int32} {Q : Option Value → xH → Prop} (l0 : Nat) (l1 : Int32) (l2 : Int32) (h : xH) (hw : w_M_read_22 Q l0 l1 l2 h) : xW sc m_M_read 10 0 0 22 [some (.ref (l0)), some (.int (l1)), some (.int (l2))] [] h Q := by
  unfold w_M_read_22 at hw
  refine xw_iconst (v := -1) d_M_read_22 (by decide) ?_
  refine xw_goto (tgt := 34) d_M_read_23 (by decide) ?_
  exact xw_ireturn rfl d_M_read_34 hw
set_option maxRecDepth 100000 in
def w_M_read (Q : Option Value → xH → Prop) (this : Nat) (p1 : Int32) (p2 : Int32) (h : xH) : Prop := ∃ f1, h.2 this = some (.inr (8, f1)) ∧ 0 < f1.length ∧ ∀ h2, h2 = xu h this (.inr (8, f1.set 0 (.int (0)))) → (∃ f4, h2.2 this = some (.inr (8, f4))) ∧ w_M_isFree (fun v h3 => ∃ (x5 : Int32), v = some (.int x5) ∧ ((x5 = 0 → w_M_read_22 Q (this) (p1) (p2) h3) ∧ (¬ x5 = 0 → w_M_in (fun v h6 => ∃ (x7 : Int32), v = some (.int x7) ∧ ((¬ x7 = 0 → (∃ f9, h6.2 this = some (.inr (8, f9))) ∧ w_M_starts (fun v h8 => ∃ (x10 : Int32), v = some (.int x10) ∧ Q (some (.int x10)) h8) this p1 1 p2 0 h6) ∧ (x7 = 0 → w_M_read_22 Q (this) (p1) (p2) h6))) p2 0 3 h3))) this p1 h2
set_option maxRecDepth 100000 in
set_option maxHeartbeats 4000000 in
theorem x_M_read {sc : List Int32} {Q : Option Value → xH → Prop} {this : Nat} {p1 : Int32} {p2 : Int32} {h : xH} (hw : w_M_read Q this p1 p2 h) : xMet sc m_M_read 10 0 0 [.ref (this), .int (p1), .int (p2)] h Q := by
  unfold w_M_read at hw
  refine xMet.of2 cw_M_read rfl rfl ?_
  show xW sc m_M_read 10 0 0 0 [some (.ref (this)), some (.int (p1)), some (.int (p2))] [] h Q
  refine xw_aload_n d_M_read_0 rfl rfl ?_
  refine xw_iconst (v := 0) d_M_read_1 (by decide) ?_
  obtain ⟨f1, hA, hB, hw⟩ := hw
  refine xw_puti fs_M_103 d_M_read_2 hA hB ?_
  generalize hh : xu h this (.inr (8, f1.set 0 (.int (0)))) = h2
  have hw := hw h2 hh.symm
  refine xw_aload_n d_M_read_5 rfl rfl ?_
  refine xw_iload_n d_M_read_6 rfl rfl ?_
  obtain ⟨⟨f4, hA⟩, hw⟩ := hw
  refine xc_V1i lk_M_251 in_M_isFree d_M_read_7 (x_M_isFree hw) rfl hA rfl ?_
  intro x5 h3 hw
  refine xw_if_eq (tgt := 22) d_M_read_10 (by decide) (fun c12 => ?_) (fun c12 => ?_)
  · have hw := hw.1 c12
    exact p_M_read_22  (this) (p1) (p2) h3 hw
  · have hw := hw.2 c12
    refine xw_iload_n d_M_read_13 rfl rfl ?_
    refine xw_iconst (v := 0) d_M_read_14 (by decide) ?_
    refine xw_iconst (v := 3) d_M_read_15 (by decide) ?_
    refine xc_S3i lk_M_107 st_M_in d_M_read_16 (x_M_in hw) rfl rfl ?_
    intro x7 h6 hw
    refine xw_if_ne (tgt := 26) d_M_read_19 (by decide) (fun c11 => ?_) (fun c11 => ?_)
    · have hw := hw.1 c11
      refine xw_aload_n d_M_read_26 rfl rfl ?_
      refine xw_iload_n d_M_read_27 rfl rfl ?_
      refine xw_iconst (v := 1) d_M_read_28 (by decide) ?_
      refine xw_iload_n d_M_read_29 rfl rfl ?_
      refine xw_iconst (v := 0) d_M_read_30 (by decide) ?_
      obtain ⟨⟨f9, hA⟩, hw⟩ := hw
      refine xc_V4i lk_M_254 in_M_starts d_M_read_31 (x_M_starts hw) rfl hA rfl ?_
      intro x10 h8 hw
      exact xw_ireturn rfl d_M_read_34 hw
    · have hw := hw.2 c11
      exact p_M_read_22  (this) (p1) (p2) h6 hw
set_option maxRecDepth 100000 in
def w_M_write_22 (Q : Option Value → xH → Prop) (l0 : Nat) (l1 : Int32) (l2 : Int32) (l3 : Int32) (h : xH) : Prop := Q (some (.int (-1))) h
set_option maxRecDepth 100000 in
set_option maxHeartbeats 4000000 in
theorem p_M_write_22 {sc : List Int32} {Q : Option Value → xH → Prop} (l0 : Nat) (l1 : Int32) (l2 : Int32) (l3 : Int32) (h : xH) (hw : w_M_write_22 Q l0 l1 l2 l3 h) : xW sc m_M_write 10 0 0 22 [some (.ref (l0)), some (.int (l1)), some (.int (l2)), some (.int (l3))] [] h Q := by
  unfold w_M_write_22 at hw
  refine xw_iconst (v := -1) d_M_write_22 (by decide) ?_
  refine xw_goto (tgt := 34) d_M_write_23 (by decide) ?_
  exact xw_ireturn rfl d_M_write_34 hw
set_option maxRecDepth 100000 in
def w_M_write (Q : Option Value → xH → Prop) (this : Nat) (p1 : Int32) (p2 : Int32) (p3 : Int32) (h : xH) : Prop := ∃ f1, h.2 this = some (.inr (8, f1)) ∧ 0 < f1.length ∧ ∀ h2, h2 = xu h this (.inr (8, f1.set 0 (.int (0)))) → (∃ f4, h2.2 this = some (.inr (8, f4))) ∧ w_M_isFree (fun v h3 => ∃ (x5 : Int32), v = some (.int x5) ∧ ((x5 = 0 → w_M_write_22 Q (this) (p1) (p2) (p3) h3) ∧ (¬ x5 = 0 → w_M_in (fun v h6 => ∃ (x7 : Int32), v = some (.int x7) ∧ ((¬ x7 = 0 → (∃ f9, h6.2 this = some (.inr (8, f9))) ∧ w_M_starts (fun v h8 => ∃ (x10 : Int32), v = some (.int x10) ∧ Q (some (.int x10)) h8) this p1 2 p2 p3 h6) ∧ (x7 = 0 → w_M_write_22 Q (this) (p1) (p2) (p3) h6))) p2 0 3 h3))) this p1 h2
set_option maxRecDepth 100000 in
set_option maxHeartbeats 4000000 in
theorem x_M_write {sc : List Int32} {Q : Option Value → xH → Prop} {this : Nat} {p1 : Int32} {p2 : Int32} {p3 : Int32} {h : xH} (hw : w_M_write Q this p1 p2 p3 h) : xMet sc m_M_write 10 0 0 [.ref (this), .int (p1), .int (p2), .int (p3)] h Q := by
  unfold w_M_write at hw
  refine xMet.of2 cw_M_write rfl rfl ?_
  show xW sc m_M_write 10 0 0 0 [some (.ref (this)), some (.int (p1)), some (.int (p2)), some (.int (p3))] [] h Q
  refine xw_aload_n d_M_write_0 rfl rfl ?_
  refine xw_iconst (v := 0) d_M_write_1 (by decide) ?_
  obtain ⟨f1, hA, hB, hw⟩ := hw
  refine xw_puti fs_M_103 d_M_write_2 hA hB ?_
  generalize hh : xu h this (.inr (8, f1.set 0 (.int (0)))) = h2
  have hw := hw h2 hh.symm
  refine xw_aload_n d_M_write_5 rfl rfl ?_
  refine xw_iload_n d_M_write_6 rfl rfl ?_
  obtain ⟨⟨f4, hA⟩, hw⟩ := hw
  refine xc_V1i lk_M_251 in_M_isFree d_M_write_7 (x_M_isFree hw) rfl hA rfl ?_
  intro x5 h3 hw
  refine xw_if_eq (tgt := 22) d_M_write_10 (by decide) (fun c12 => ?_) (fun c12 => ?_)
  · have hw := hw.1 c12
    exact p_M_write_22  (this) (p1) (p2) (p3) h3 hw
  · have hw := hw.2 c12
    refine xw_iload_n d_M_write_13 rfl rfl ?_
    refine xw_iconst (v := 0) d_M_write_14 (by decide) ?_
    refine xw_iconst (v := 3) d_M_write_15 (by decide) ?_
    refine xc_S3i lk_M_107 st_M_in d_M_write_16 (x_M_in hw) rfl rfl ?_
    intro x7 h6 hw
    refine xw_if_ne (tgt := 26) d_M_write_19 (by decide) (fun c11 => ?_) (fun c11 => ?_)
    · have hw := hw.1 c11
      refine xw_aload_n d_M_write_26 rfl rfl ?_
      refine xw_iload_n d_M_write_27 rfl rfl ?_
      refine xw_iconst (v := 2) d_M_write_28 (by decide) ?_
      refine xw_iload_n d_M_write_29 rfl rfl ?_
      refine xw_iload_n d_M_write_30 rfl rfl ?_
      obtain ⟨⟨f9, hA⟩, hw⟩ := hw
      refine xc_V4i lk_M_254 in_M_starts d_M_write_31 (x_M_starts hw) rfl hA rfl ?_
      intro x10 h8 hw
      exact xw_ireturn rfl d_M_write_34 hw
    · have hw := hw.2 c11
      exact p_M_write_22  (this) (p1) (p2) (p3) h6 hw
set_option maxRecDepth 100000 in
def w_M_propose_24 (Q : Option Value → xH → Prop) (l0 : Nat) (l1 : Int32) (l2 : Int32) (l3 : Int32) (l4 : Int32) (s0 : Int32) (h : xH) : Prop := (∃ f2, h.2 l0 = some (.inr (8, f2))) ∧ w_M_isFree (fun v h1 => ∃ (x3 : Int32), v = some (.int x3) ∧ ((x3 = 0 → Q (some (.int (-1))) h1) ∧ (¬ x3 = 0 → w_M_in (fun v h4 => ∃ (x5 : Int32), v = some (.int x5) ∧ ((x5 = 0 → Q (some (.int (-1))) h4) ∧ (¬ x5 = 0 → w_M_in (fun v h6 => ∃ (x7 : Int32), v = some (.int x7) ∧ ((x7 = 0 → Q (some (.int (-1))) h6) ∧ (¬ x7 = 0 → (((l3 + l4) ≤ s0 → Q (some (.int (-1))) h6) ∧ (¬ (l3 + l4) ≤ s0 → (∃ f9, h6.2 l0 = some (.inr (8, f9))) ∧ w_M_greatest (fun v h8 => ∃ (x10 : Int32), v = some (.int x10) ∧ ((¬ x10 = 15 → ∃ (f11 : List Value) (a12 : Nat), h8.2 l0 = some (.inr (8, f11)) ∧ f11[25]? = some (.ref a12) ∧ (∃ f14, h8.2 l0 = some (.inr (8, f14))) ∧ w_M_greatest (fun v h13 => ∃ (x15 : Int32), v = some (.int x15) ∧ ∃ ar16, h13.2 a12 = some (.inl (0, .inl ar16)) ∧ 0 ≤ l1 ∧ l1.toNatClampNeg < ar16.length ∧ ∀ h17, h17 = xu h13 a12 (.inl (0, .inl (ar16.set l1.toNatClampNeg x15))) → ∃ (f18 : List Value) (a19 : Nat), h17.2 l0 = some (.inr (8, f18)) ∧ f18[25]? = some (.ref a19) ∧ ∃ (ar24 : List Int32) (x20 : Int32), h17.2 a19 = some (.inl (0, .inl ar24)) ∧ 0 ≤ l1 ∧ ar24[l1.toNatClampNeg]? = some x20 ∧ (∃ f22, h17.2 l0 = some (.inr (8, f22))) ∧ w_M_starts (fun v h21 => ∃ (x23 : Int32), v = some (.int x23) ∧ Q (some (.int x23)) h21) l0 l1 3 (x20 + 1) ((l2 + (256 * l3)) + (4096 * l4)) h17) l0 l1 h8) ∧ (x10 = 15 → Q (some (.int (-1))) h8))) l0 l1 h6))))) l4 1 s0 h4))) l3 1 s0 h1))) l0 l1 h
set_option maxRecDepth 100000 in
set_option maxHeartbeats 4000000 in
theorem p_M_propose_24 {sc : List Int32} {Q : Option Value → xH → Prop} (l0 : Nat) (l1 : Int32) (l2 : Int32) (l3 : Int32) (l4 : Int32) (s0 : Int32) (h : xH) (hw : w_M_propose_24 Q l0 l1 l2 l3 l4 s0 h) : xW sc m_M_propose 10 0 0 24 [some (.ref (l0)), some (.int (l1)), some (.int (l2)), some (.int (l3)), some (.int (l4)), none] [.int (s0)] h Q := by
  unfold w_M_propose_24 at hw
  refine xs_istore (lv' := [some (.ref (l0)), some (.int (l1)), some (.int (l2)), some (.int (l3)), some (.int (l4)), some (.int (s0))]) d_M_propose_24 rfl rfl ?_
  refine xw_aload_n d_M_propose_26 rfl rfl ?_
  refine xw_iload_n d_M_propose_27 rfl rfl ?_
  obtain ⟨⟨f2, hA⟩, hw⟩ := hw
  refine xc_V1i lk_M_251 in_M_isFree d_M_propose_28 (x_M_isFree hw) rfl hA rfl ?_
  intro x3 h1 hw
  refine xw_if_eq (tgt := 74) d_M_propose_31 (by decide) (fun c29 => ?_) (fun c29 => ?_)
  · have hw := hw.1 c29
    refine xw_iconst (v := -1) d_M_propose_74 (by decide) ?_
    exact xw_ireturn rfl d_M_propose_75 hw
  · have hw := hw.2 c29
    refine xw_iload_n d_M_propose_34 rfl rfl ?_
    refine xw_iconst (v := 1) d_M_propose_35 (by decide) ?_
    refine xw_iload d_M_propose_36 rfl ?_
    refine xc_S3i lk_M_107 st_M_in d_M_propose_38 (x_M_in hw) rfl rfl ?_
    intro x5 h4 hw
    refine xw_if_eq (tgt := 74) d_M_propose_41 (by decide) (fun c28 => ?_) (fun c28 => ?_)
    · have hw := hw.1 c28
      refine xw_iconst (v := -1) d_M_propose_74 (by decide) ?_
      exact xw_ireturn rfl d_M_propose_75 hw
    · have hw := hw.2 c28
      refine xw_iload d_M_propose_44 rfl ?_
      refine xw_iconst (v := 1) d_M_propose_46 (by decide) ?_
      refine xw_iload d_M_propose_47 rfl ?_
      refine xc_S3i lk_M_107 st_M_in d_M_propose_49 (x_M_in hw) rfl rfl ?_
      intro x7 h6 hw
      refine xw_if_eq (tgt := 74) d_M_propose_52 (by decide) (fun c27 => ?_) (fun c27 => ?_)
      · have hw := hw.1 c27
        refine xw_iconst (v := -1) d_M_propose_74 (by decide) ?_
        exact xw_ireturn rfl d_M_propose_75 hw
      · have hw := hw.2 c27
        refine xw_iload_n d_M_propose_55 rfl rfl ?_
        refine xw_iload d_M_propose_56 rfl ?_
        refine xw_iadd d_M_propose_58 ?_
        refine xw_iload d_M_propose_59 rfl ?_
        refine xw_icmp_le (tgt := 74) d_M_propose_61 (by decide) (fun c26 => ?_) (fun c26 => ?_)
        · have hw := hw.1 c26
          refine xw_iconst (v := -1) d_M_propose_74 (by decide) ?_
          exact xw_ireturn rfl d_M_propose_75 hw
        · have hw := hw.2 c26
          refine xw_aload_n d_M_propose_64 rfl rfl ?_
          refine xw_iload_n d_M_propose_65 rfl rfl ?_
          obtain ⟨⟨f9, hA⟩, hw⟩ := hw
          refine xc_V1i lk_M_233 in_M_greatest d_M_propose_66 (x_M_greatest hw) rfl hA rfl ?_
          intro x10 h8 hw
          refine xw_bipush (v := 15) d_M_propose_69 (by decide) ?_
          refine xw_icmp_ne (tgt := 76) d_M_propose_71 (by decide) (fun c25 => ?_) (fun c25 => ?_)
          · have hw := hw.1 c25
            refine xw_aload_n d_M_propose_76 rfl rfl ?_
            obtain ⟨f11, a12, hA, hB, hw⟩ := hw
            refine xw_getr fr_M_79 d_M_propose_77 hA hB ?_
            refine xw_iload_n d_M_propose_80 rfl rfl ?_
            refine xw_aload_n d_M_propose_81 rfl rfl ?_
            refine xw_iload_n d_M_propose_82 rfl rfl ?_
            obtain ⟨⟨f14, hA⟩, hw⟩ := hw
            refine xc_V1i lk_M_233 in_M_greatest d_M_propose_83 (x_M_greatest hw) rfl hA rfl ?_
            intro x15 h13 hw
            obtain ⟨ar16, hA, hB, hC, hw⟩ := hw
            refine xw_iastore (t := 0) rfl d_M_propose_86 hA hB hC ?_
            generalize hh : xu h13 a12 (.inl (0, .inl (ar16.set l1.toNatClampNeg x15))) = h17
            have hw := hw h17 hh.symm
            refine xw_aload_n d_M_propose_87 rfl rfl ?_
            refine xw_iload_n d_M_propose_88 rfl rfl ?_
            refine xw_iconst (v := 3) d_M_propose_89 (by decide) ?_
            refine xw_aload_n d_M_propose_90 rfl rfl ?_
            obtain ⟨f18, a19, hA, hB, hw⟩ := hw
            refine xw_getr fr_M_79 d_M_propose_91 hA hB ?_
            refine xw_iload_n d_M_propose_94 rfl rfl ?_
            obtain ⟨ar24, x20, hA, hB, hC, hw⟩ := hw
            refine xw_iaload (t := 0) rfl d_M_propose_95 hA hB hC ?_
            refine xw_iconst (v := 1) d_M_propose_96 (by decide) ?_
            refine xw_iadd d_M_propose_97 ?_
            refine xw_iload_n d_M_propose_98 rfl rfl ?_
            refine xw_sipush (v := 256) d_M_propose_99 (by decide) ?_
            refine xw_iload_n d_M_propose_102 rfl rfl ?_
            refine xw_imul d_M_propose_103 ?_
            refine xw_iadd d_M_propose_104 ?_
            refine xw_sipush (v := 4096) d_M_propose_105 (by decide) ?_
            refine xw_iload d_M_propose_108 rfl ?_
            refine xw_imul d_M_propose_110 ?_
            refine xw_iadd d_M_propose_111 ?_
            obtain ⟨⟨f22, hA⟩, hw⟩ := hw
            refine xc_V4i lk_M_254 in_M_starts d_M_propose_112 (x_M_starts hw) rfl hA rfl ?_
            intro x23 h21 hw
            exact xw_ireturn rfl d_M_propose_115 hw
          · have hw := hw.2 c25
            refine xw_iconst (v := -1) d_M_propose_74 (by decide) ?_
            exact xw_ireturn rfl d_M_propose_75 hw
set_option maxRecDepth 100000 in
def w_M_propose (Q : Option Value → xH → Prop) (this : Nat) (p1 : Int32) (p2 : Int32) (p3 : Int32) (p4 : Int32) (h : xH) : Prop := ∃ f1, h.2 this = some (.inr (8, f1)) ∧ 0 < f1.length ∧ ∀ h2, h2 = xu h this (.inr (8, f1.set 0 (.int (0)))) → w_M_in (fun v h3 => ∃ (x4 : Int32), v = some (.int x4) ∧ ((x4 = 0 → w_M_propose_24 Q (this) (p1) (p2) (p3) (p4) (0) h3) ∧ (¬ x4 = 0 → w_M_many (fun v h5 => ∃ (x6 : Int32), v = some (.int x6) ∧ w_M_propose_24 Q (this) (p1) (p2) (p3) (p4) (x6) h5) p2 h3))) p2 1 255 h2
set_option maxRecDepth 100000 in
set_option maxHeartbeats 4000000 in
theorem x_M_propose {sc : List Int32} {Q : Option Value → xH → Prop} {this : Nat} {p1 : Int32} {p2 : Int32} {p3 : Int32} {p4 : Int32} {h : xH} (hw : w_M_propose Q this p1 p2 p3 p4 h) : xMet sc m_M_propose 10 0 0 [.ref (this), .int (p1), .int (p2), .int (p3), .int (p4)] h Q := by
  unfold w_M_propose at hw
  refine xMet.of2 cw_M_propose rfl rfl ?_
  show xW sc m_M_propose 10 0 0 0 [some (.ref (this)), some (.int (p1)), some (.int (p2)), some (.int (p3)), some (.int (p4)), none] [] h Q
  refine xw_aload_n d_M_propose_0 rfl rfl ?_
  refine xw_iconst (v := 0) d_M_propose_1 (by decide) ?_
  obtain ⟨f1, hA, hB, hw⟩ := hw
  refine xw_puti fs_M_103 d_M_propose_2 hA hB ?_
  generalize hh : xu h this (.inr (8, f1.set 0 (.int (0)))) = h2
  have hw := hw h2 hh.symm
  refine xw_iload_n d_M_propose_5 rfl rfl ?_
  refine xw_iconst (v := 1) d_M_propose_6 (by decide) ?_
  refine xw_sipush (v := 255) d_M_propose_7 (by decide) ?_
  refine xc_S3i lk_M_107 st_M_in d_M_propose_10 (x_M_in hw) rfl rfl ?_
  intro x4 h3 hw
  refine xw_if_eq (tgt := 23) d_M_propose_13 (by decide) (fun c7 => ?_) (fun c7 => ?_)
  · have hw := hw.1 c7
    refine xw_iconst (v := 0) d_M_propose_23 (by decide) ?_
    exact p_M_propose_24  (this) (p1) (p2) (p3) (p4) (0) h3 hw
  · have hw := hw.2 c7
    refine xw_iload_n d_M_propose_16 rfl rfl ?_
    refine xc_S1i lk_M_185 st_M_many d_M_propose_17 (x_M_many hw) rfl rfl ?_
    intro x6 h5 hw
    refine xw_goto (tgt := 24) d_M_propose_20 (by decide) ?_
    exact p_M_propose_24  (this) (p1) (p2) (p3) (p4) (x6) h5 hw
set_option maxRecDepth 100000 in
def w_M_retire_75 (Q : Option Value → xH → Prop) (L37 : Nat → Int32 → Int32 → xH → Prop) (l0 : Nat) (l1 : Int32) (l2 : Int32) (s0 : Int32) (s1 : Int32) (s2 : Int32) (s3 : Nat) (h : xH) : Prop := ∃ ar1, h.2 s3 = some (.inl (0, .inl ar1)) ∧ 0 ≤ s2 ∧ s2.toNatClampNeg < ar1.length ∧ ∀ h2, h2 = xu h s3 (.inl (0, .inl (ar1.set s2.toNatClampNeg (s1 ||| s0)))) → L37 (l0) (l1) (l2 + 1) h2
set_option maxRecDepth 100000 in
set_option maxHeartbeats 4000000 in
theorem p_M_retire_75 {sc : List Int32} {Q : Option Value → xH → Prop} {L37 : Nat → Int32 → Int32 → xH → Prop} (hL37 : ∀ l0 l1 l2 h, L37 l0 l1 l2 h → xW sc m_M_retire 10 0 0 37 [some (.ref (l0)), some (.int (l1)), some (.int (l2))] [] h Q) (l0 : Nat) (l1 : Int32) (l2 : Int32) (s0 : Int32) (s1 : Int32) (s2 : Int32) (s3 : Nat) (h : xH) (hw : w_M_retire_75 Q L37 l0 l1 l2 s0 s1 s2 s3 h) : xW sc m_M_retire 10 0 0 75 [some (.ref (l0)), some (.int (l1)), some (.int (l2))] [.int (s0), .int (s1), .int (s2), .ref (s3)] h Q := by
  unfold w_M_retire_75 at hw
  refine xw_ior d_M_retire_75 ?_
  obtain ⟨ar1, hA, hB, hC, hw⟩ := hw
  refine xw_iastore (t := 0) rfl d_M_retire_76 hA hB hC ?_
  generalize hh : xu h s3 (.inl (0, .inl (ar1.set s2.toNatClampNeg (s1 ||| s0)))) = h2
  have hw := hw h2 hh.symm
  refine xs_iinc (v := l2 + 1) (lv' := [some (.ref (l0)), some (.int (l1)), some (.int (l2 + 1))]) d_M_retire_77 rfl rfl rfl ?_
  refine xw_goto (tgt := 37) d_M_retire_80 (by decide) ?_
  exact hL37 (l0) (l1) (l2 + 1) h2 hw
set_option maxRecDepth 100000 in
def w_M_retire_37 (Q : Option Value → xH → Prop) : Nat → Nat → Int32 → Int32 → xH → Prop
  | 0, _, _, _, _ => False
  | n + 1, l0, l1, l2, h => (∃ f2, h.2 l0 = some (.inr (8, f2))) ∧ w_M_greatest (fun v h1 => ∃ (x3 : Int32), v = some (.int x3) ∧ ((x3 ≤ l2 → (∃ f5, h1.2 l0 = some (.inr (8, f5))) ∧ w_M_greatest (fun v h4 => ∃ (x6 : Int32), v = some (.int x6) ∧ (∃ f8, h4.2 l0 = some (.inr (8, f8))) ∧ w_M_starts (fun v h7 => ∃ (x9 : Int32), v = some (.int x9) ∧ Q (some (.int x9)) h7) l0 l1 4 x6 0 h4) l0 l1 h1) ∧ (¬ x3 ≤ l2 → ∃ (f10 : List Value) (a11 : Nat), h1.2 l0 = some (.inr (8, f10)) ∧ f10[23]? = some (.ref a11) ∧ ∃ (ar18 : List Int32) (x12 : Int32), h1.2 a11 = some (.inl (0, .inl ar18)) ∧ 0 ≤ l1 ∧ ar18[l1.toNatClampNeg]? = some x12 ∧ ∃ (f13 : List Value) (a14 : Nat), h1.2 l0 = some (.inr (8, f13)) ∧ f13[9]? = some (.ref a14) ∧ ∃ (ar17 : List Int32) (x15 : Int32), h1.2 a14 = some (.inl (0, .inl ar17)) ∧ 0 ≤ ((16 * l1) + l2 : Int32) ∧ ar17[((16 * l1) + l2 : Int32).toNatClampNeg]? = some x15 ∧ ((¬ x15 = 1 → w_M_retire_75 Q (fun y0 y1 y2 yh => w_M_retire_37 Q n y0 y1 y2 yh) (l0) (l1) (l2) (0) (x12) (l1) (a11) h1) ∧ (x15 = 1 → w_M_retire_75 Q (fun y0 y1 y2 yh => w_M_retire_37 Q n y0 y1 y2 yh) (l0) (l1) (l2) ((1 : Int32) <<< (l2 &&& 31)) (x12) (l1) (a11) h1))))) l0 l1 h
set_option maxRecDepth 100000 in
set_option maxHeartbeats 4000000 in
theorem p_M_retire_37 {sc : List Int32} {Q : Option Value → xH → Prop} : ∀ (n : Nat) (l0 : Nat) (l1 : Int32) (l2 : Int32) (h : xH), w_M_retire_37 Q n l0 l1 l2 h → xW sc m_M_retire 10 0 0 37 [some (.ref (l0)), some (.int (l1)), some (.int (l2))] [] h Q := by
  intro n
  induction n with
  | zero => intro l0 l1 l2 h hw; exact False.elim hw
  | succ n ih =>
    intro l0 l1 l2 h hw
    rw [w_M_retire_37] at hw
    refine xw_iload_n d_M_retire_37 rfl rfl ?_
    refine xw_aload_n d_M_retire_38 rfl rfl ?_
    refine xw_iload_n d_M_retire_39 rfl rfl ?_
    obtain ⟨⟨f2, hA⟩, hw⟩ := hw
    refine xc_V1i lk_M_233 in_M_greatest d_M_retire_40 (x_M_greatest hw) rfl hA rfl ?_
    intro x3 h1 hw
    refine xw_icmp_ge (tgt := 83) d_M_retire_43 (by decide) (fun c19 => ?_) (fun c19 => ?_)
    · have hw := hw.1 c19
      refine xw_aload_n d_M_retire_83 rfl rfl ?_
      refine xw_iload_n d_M_retire_84 rfl rfl ?_
      refine xw_iconst (v := 4) d_M_retire_85 (by decide) ?_
      refine xw_aload_n d_M_retire_86 rfl rfl ?_
      refine xw_iload_n d_M_retire_87 rfl rfl ?_
      obtain ⟨⟨f5, hA⟩, hw⟩ := hw
      refine xc_V1i lk_M_233 in_M_greatest d_M_retire_88 (x_M_greatest hw) rfl hA rfl ?_
      intro x6 h4 hw
      refine xw_iconst (v := 0) d_M_retire_91 (by decide) ?_
      obtain ⟨⟨f8, hA⟩, hw⟩ := hw
      refine xc_V4i lk_M_254 in_M_starts d_M_retire_92 (x_M_starts hw) rfl hA rfl ?_
      intro x9 h7 hw
      exact xw_ireturn rfl d_M_retire_95 hw
    · have hw := hw.2 c19
      refine xw_aload_n d_M_retire_46 rfl rfl ?_
      obtain ⟨f10, a11, hA, hB, hw⟩ := hw
      refine xw_getr fr_M_73 d_M_retire_47 hA hB ?_
      refine xw_iload_n d_M_retire_50 rfl rfl ?_
      refine xw_dup2 d_M_retire_51 rfl rfl ?_
      obtain ⟨ar18, x12, hA, hB, hC, hw⟩ := hw
      refine xw_iaload (t := 0) rfl d_M_retire_52 hA hB hC ?_
      refine xw_aload_n d_M_retire_53 rfl rfl ?_
      obtain ⟨f13, a14, hA, hB, hw⟩ := hw
      refine xw_getr fr_M_34 d_M_retire_54 hA hB ?_
      refine xw_bipush (v := 16) d_M_retire_57 (by decide) ?_
      refine xw_iload_n d_M_retire_59 rfl rfl ?_
      refine xw_imul d_M_retire_60 ?_
      refine xw_iload_n d_M_retire_61 rfl rfl ?_
      refine xw_iadd d_M_retire_62 ?_
      obtain ⟨ar17, x15, hA, hB, hC, hw⟩ := hw
      refine xw_iaload (t := 0) rfl d_M_retire_63 hA hB hC ?_
      refine xw_iconst (v := 1) d_M_retire_64 (by decide) ?_
      refine xw_icmp_ne (tgt := 74) d_M_retire_65 (by decide) (fun c16 => ?_) (fun c16 => ?_)
      · have hw := hw.1 c16
        refine xw_iconst (v := 0) d_M_retire_74 (by decide) ?_
        exact p_M_retire_75 ih (l0) (l1) (l2) (0) (x12) (l1) (a11) h1 hw
      · have hw := hw.2 c16
        refine xw_iconst (v := 1) d_M_retire_68 (by decide) ?_
        refine xw_iload_n d_M_retire_69 rfl rfl ?_
        refine xw_ishl d_M_retire_70 ?_
        refine xw_goto (tgt := 75) d_M_retire_71 (by decide) ?_
        exact p_M_retire_75 ih (l0) (l1) (l2) ((1 : Int32) <<< (l2 &&& 31)) (x12) (l1) (a11) h1 hw
set_option maxRecDepth 100000 in
def w_M_retire (Q : Option Value → xH → Prop) (this : Nat) (p1 : Int32) (h : xH) : Prop := ∃ f1, h.2 this = some (.inr (8, f1)) ∧ 0 < f1.length ∧ ∀ h2, h2 = xu h this (.inr (8, f1.set 0 (.int (0)))) → (∃ f4, h2.2 this = some (.inr (8, f4))) ∧ w_M_isFree (fun v h3 => ∃ (x5 : Int32), v = some (.int x5) ∧ ((x5 = 0 → Q (some (.int (-1))) h3) ∧ (¬ x5 = 0 → (∃ f7, h3.2 this = some (.inr (8, f7))) ∧ w_M_least (fun v h6 => ∃ (x8 : Int32), v = some (.int x8) ∧ (∃ f10, h6.2 this = some (.inr (8, f10))) ∧ w_M_greatest (fun v h9 => ∃ (x11 : Int32), v = some (.int x11) ∧ ((¬ x8 = x11 → ∃ (f12 : List Value) (a13 : Nat), h9.2 this = some (.inr (8, f12)) ∧ f12[23]? = some (.ref a13) ∧ ∃ ar14, h9.2 a13 = some (.inl (0, .inl ar14)) ∧ 0 ≤ p1 ∧ p1.toNatClampNeg < ar14.length ∧ ∀ h15, h15 = xu h9 a13 (.inl (0, .inl (ar14.set p1.toNatClampNeg 0))) → ∃ n16, w_M_retire_37 Q n16 (this) (p1) (0) h15) ∧ (x8 = x11 → Q (some (.int (-1))) h9))) this p1 h6) this p1 h3))) this p1 h2
set_option maxRecDepth 100000 in
set_option maxHeartbeats 4000000 in
theorem x_M_retire {sc : List Int32} {Q : Option Value → xH → Prop} {this : Nat} {p1 : Int32} {h : xH} (hw : w_M_retire Q this p1 h) : xMet sc m_M_retire 10 0 0 [.ref (this), .int (p1)] h Q := by
  unfold w_M_retire at hw
  refine xMet.of2 cw_M_retire rfl rfl ?_
  show xW sc m_M_retire 10 0 0 0 [some (.ref (this)), some (.int (p1)), none] [] h Q
  refine xw_aload_n d_M_retire_0 rfl rfl ?_
  refine xw_iconst (v := 0) d_M_retire_1 (by decide) ?_
  obtain ⟨f1, hA, hB, hw⟩ := hw
  refine xw_puti fs_M_103 d_M_retire_2 hA hB ?_
  generalize hh : xu h this (.inr (8, f1.set 0 (.int (0)))) = h2
  have hw := hw h2 hh.symm
  refine xw_aload_n d_M_retire_5 rfl rfl ?_
  refine xw_iload_n d_M_retire_6 rfl rfl ?_
  obtain ⟨⟨f4, hA⟩, hw⟩ := hw
  refine xc_V1i lk_M_251 in_M_isFree d_M_retire_7 (x_M_isFree hw) rfl hA rfl ?_
  intro x5 h3 hw
  refine xw_if_eq (tgt := 26) d_M_retire_10 (by decide) (fun c18 => ?_) (fun c18 => ?_)
  · have hw := hw.1 c18
    refine xw_iconst (v := -1) d_M_retire_26 (by decide) ?_
    exact xw_ireturn rfl d_M_retire_27 hw
  · have hw := hw.2 c18
    refine xw_aload_n d_M_retire_13 rfl rfl ?_
    refine xw_iload_n d_M_retire_14 rfl rfl ?_
    obtain ⟨⟨f7, hA⟩, hw⟩ := hw
    refine xc_V1i lk_M_258 in_M_least d_M_retire_15 (x_M_least hw) rfl hA rfl ?_
    intro x8 h6 hw
    refine xw_aload_n d_M_retire_18 rfl rfl ?_
    refine xw_iload_n d_M_retire_19 rfl rfl ?_
    obtain ⟨⟨f10, hA⟩, hw⟩ := hw
    refine xc_V1i lk_M_233 in_M_greatest d_M_retire_20 (x_M_greatest hw) rfl hA rfl ?_
    intro x11 h9 hw
    refine xw_icmp_ne (tgt := 28) d_M_retire_23 (by decide) (fun c17 => ?_) (fun c17 => ?_)
    · have hw := hw.1 c17
      refine xw_aload_n d_M_retire_28 rfl rfl ?_
      obtain ⟨f12, a13, hA, hB, hw⟩ := hw
      refine xw_getr fr_M_73 d_M_retire_29 hA hB ?_
      refine xw_iload_n d_M_retire_32 rfl rfl ?_
      refine xw_iconst (v := 0) d_M_retire_33 (by decide) ?_
      obtain ⟨ar14, hA, hB, hC, hw⟩ := hw
      refine xw_iastore (t := 0) rfl d_M_retire_34 hA hB hC ?_
      generalize hh : xu h9 a13 (.inl (0, .inl (ar14.set p1.toNatClampNeg 0))) = h15
      have hw := hw h15 hh.symm
      refine xw_iconst (v := 0) d_M_retire_35 (by decide) ?_
      refine xs_istore_n (lv' := [some (.ref (this)), some (.int (p1)), some (.int (0))]) d_M_retire_36 rfl rfl rfl ?_
      obtain ⟨n16, hw⟩ := hw
      exact p_M_retire_37  n16 (this) (p1) (0) h15 hw
    · have hw := hw.2 c17
      refine xw_iconst (v := -1) d_M_retire_26 (by decide) ?_
      exact xw_ireturn rfl d_M_retire_27 hw
set_option maxRecDepth 100000 in
def w_M_again_120 (Q : Option Value → xH → Prop) (l0 : Nat) (l1 : Int32) (h : xH) : Prop := (∃ f2, h.2 l0 = some (.inr (8, f2))) ∧ w_M_isUp (fun v h1 => ∃ (x3 : Int32), v = some (.int x3) ∧ ((x3 = 0 → Q (some (.int (-9))) h1) ∧ (¬ x3 = 0 → ∃ (f4 : List Value) (a5 : Nat), h1.2 l0 = some (.inr (8, f4)) ∧ f4[20]? = some (.ref a5) ∧ ∃ (ar13 : List Int32) (x6 : Int32), h1.2 a5 = some (.inl (0, .inl ar13)) ∧ 0 ≤ l1 ∧ ar13[l1.toNatClampNeg]? = some x6 ∧ ∃ (f7 : List Value) (a8 : Nat), h1.2 l0 = some (.inr (8, f7)) ∧ f7[21]? = some (.ref a8) ∧ ∃ (ar12 : List Int32) (x9 : Int32), h1.2 a8 = some (.inl (0, .inl ar12)) ∧ 0 ≤ l1 ∧ ar12[l1.toNatClampNeg]? = some x9 ∧ w_M_many (fun v h10 => ∃ (x11 : Int32), v = some (.int x11) ∧ Q (some (.int x11)) h10) (x6 &&& (x9 ^^^ (-1))) h1))) l0 l1 h
set_option maxRecDepth 100000 in
set_option maxHeartbeats 4000000 in
theorem p_M_again_120 {sc : List Int32} {Q : Option Value → xH → Prop} (l0 : Nat) (l1 : Int32) (h : xH) (hw : w_M_again_120 Q l0 l1 h) : xW sc m_M_again 9 0 0 120 [some (.ref (l0)), some (.int (l1)), none] [] h Q := by
  unfold w_M_again_120 at hw
  refine xw_aload_n d_M_again_120 rfl rfl ?_
  refine xw_iload_n d_M_again_121 rfl rfl ?_
  obtain ⟨⟨f2, hA⟩, hw⟩ := hw
  refine xc_V1i lk_M_111 in_M_isUp d_M_again_122 (x_M_isUp hw) rfl hA rfl ?_
  intro x3 h1 hw
  refine xw_if_eq (tgt := 149) d_M_again_125 (by decide) (fun c14 => ?_) (fun c14 => ?_)
  · have hw := hw.1 c14
    refine xw_bipush (v := -9) d_M_again_149 (by decide) ?_
    exact xw_ireturn rfl d_M_again_151 hw
  · have hw := hw.2 c14
    refine xw_aload_n d_M_again_128 rfl rfl ?_
    obtain ⟨f4, a5, hA, hB, hw⟩ := hw
    refine xw_getr fr_M_64 d_M_again_129 hA hB ?_
    refine xw_iload_n d_M_again_132 rfl rfl ?_
    obtain ⟨ar13, x6, hA, hB, hC, hw⟩ := hw
    refine xw_iaload (t := 0) rfl d_M_again_133 hA hB hC ?_
    refine xw_aload_n d_M_again_134 rfl rfl ?_
    obtain ⟨f7, a8, hA, hB, hw⟩ := hw
    refine xw_getr fr_M_67 d_M_again_135 hA hB ?_
    refine xw_iload_n d_M_again_138 rfl rfl ?_
    obtain ⟨ar12, x9, hA, hB, hC, hw⟩ := hw
    refine xw_iaload (t := 0) rfl d_M_again_139 hA hB hC ?_
    refine xw_iconst (v := -1) d_M_again_140 (by decide) ?_
    refine xw_ixor d_M_again_141 ?_
    refine xw_iand d_M_again_142 ?_
    refine xc_S1i lk_M_185 st_M_many d_M_again_143 (x_M_many hw) rfl rfl ?_
    intro x11 h10 hw
    refine xw_goto (tgt := 151) d_M_again_146 (by decide) ?_
    exact xw_ireturn rfl d_M_again_151 hw
set_option maxRecDepth 100000 in
def w_M_again_114 (Q : Option Value → xH → Prop) (L57 : Nat → Int32 → Int32 → xH → Prop) (l0 : Nat) (l1 : Int32) (l2 : Int32) (h : xH) : Prop := L57 (l0) (l1) (l2 + 1) h
set_option maxRecDepth 100000 in
set_option maxHeartbeats 4000000 in
theorem p_M_again_114 {sc : List Int32} {Q : Option Value → xH → Prop} {L57 : Nat → Int32 → Int32 → xH → Prop} (hL57 : ∀ l0 l1 l2 h, L57 l0 l1 l2 h → xW sc m_M_again 9 0 0 57 [some (.ref (l0)), some (.int (l1)), some (.int (l2))] [] h Q) (l0 : Nat) (l1 : Int32) (l2 : Int32) (h : xH) (hw : w_M_again_114 Q L57 l0 l1 l2 h) : xW sc m_M_again 9 0 0 114 [some (.ref (l0)), some (.int (l1)), some (.int (l2))] [] h Q := by
  unfold w_M_again_114 at hw
  refine xs_iinc (v := l2 + 1) (lv' := [some (.ref (l0)), some (.int (l1)), some (.int (l2 + 1))]) d_M_again_114 rfl rfl rfl ?_
  refine xw_goto (tgt := 57) d_M_again_117 (by decide) ?_
  exact hL57 (l0) (l1) (l2 + 1) h hw
set_option maxRecDepth 100000 in
def w_M_again_57 (Q : Option Value → xH → Prop) : Nat → Nat → Int32 → Int32 → xH → Prop
  | 0, _, _, _, _ => False
  | n + 1, l0, l1, l2, h => ((8 ≤ l2 → w_M_again_120 Q (l0) (l1) h) ∧ (¬ 8 ≤ l2 → ∃ (f1 : List Value) (a2 : Nat), h.2 l0 = some (.inr (8, f1)) ∧ f1[20]? = some (.ref a2) ∧ ∃ (ar20 : List Int32) (x3 : Int32), h.2 a2 = some (.inl (0, .inl ar20)) ∧ 0 ≤ l1 ∧ ar20[l1.toNatClampNeg]? = some x3 ∧ ∃ (f4 : List Value) (a5 : Nat), h.2 l0 = some (.inr (8, f4)) ∧ f4[21]? = some (.ref a5) ∧ ∃ (ar19 : List Int32) (x6 : Int32), h.2 a5 = some (.inl (0, .inl ar19)) ∧ 0 ≤ l1 ∧ ar19[l1.toNatClampNeg]? = some x6 ∧ ((((x3 &&& (x6 ^^^ (-1)) : Int32) >>> (l2 &&& 31)) = 0 → w_M_again_114 Q (fun y0 y1 y2 yh => w_M_again_57 Q n y0 y1 y2 yh) (l0) (l1) (l2) h) ∧ (¬ ((x3 &&& (x6 ^^^ (-1)) : Int32) >>> (l2 &&& 31)) = 0 → ∃ (f7 : List Value) (a8 : Nat), h.2 l0 = some (.inr (8, f7)) ∧ f7[20]? = some (.ref a8) ∧ ∃ (ar17 : List Int32) (x9 : Int32), h.2 a8 = some (.inl (0, .inl ar17)) ∧ 0 ≤ l1 ∧ ar17[l1.toNatClampNeg]? = some x9 ∧ ∃ (f10 : List Value) (a11 : Nat), h.2 l0 = some (.inr (8, f10)) ∧ f10[21]? = some (.ref a11) ∧ ∃ (ar16 : List Int32) (x12 : Int32), h.2 a11 = some (.inl (0, .inl ar16)) ∧ 0 ≤ l1 ∧ ar16[l1.toNatClampNeg]? = some x12 ∧ ((¬ (((x9 &&& (x12 ^^^ (-1)) : Int32) >>> (l2 &&& 31)) &&& 1) = 0 → (∃ f14, h.2 l0 = some (.inr (8, f14))) ∧ w_M_request (fun v h13 => v = none ∧ w_M_again_114 Q (fun y0 y1 y2 yh => w_M_again_57 Q n y0 y1 y2 yh) (l0) (l1) (l2) h13) l0 l1 l2 h) ∧ ((((x9 &&& (x12 ^^^ (-1)) : Int32) >>> (l2 &&& 31)) &&& 1) = 0 → w_M_again_114 Q (fun y0 y1 y2 yh => w_M_again_57 Q n y0 y1 y2 yh) (l0) (l1) (l2) h))))))
set_option maxRecDepth 100000 in
set_option maxHeartbeats 4000000 in
theorem p_M_again_57 {sc : List Int32} {Q : Option Value → xH → Prop} : ∀ (n : Nat) (l0 : Nat) (l1 : Int32) (l2 : Int32) (h : xH), w_M_again_57 Q n l0 l1 l2 h → xW sc m_M_again 9 0 0 57 [some (.ref (l0)), some (.int (l1)), some (.int (l2))] [] h Q := by
  intro n
  induction n with
  | zero => intro l0 l1 l2 h hw; exact False.elim hw
  | succ n ih =>
    intro l0 l1 l2 h hw
    rw [w_M_again_57] at hw
    refine xw_iload_n d_M_again_57 rfl rfl ?_
    refine xw_bipush (v := 8) d_M_again_58 (by decide) ?_
    refine xw_icmp_ge (tgt := 120) d_M_again_60 (by decide) (fun c21 => ?_) (fun c21 => ?_)
    · have hw := hw.1 c21
      refine xs_drop (lv' := [some (.ref (l0)), some (.int (l1)), none]) 2 rfl ?_
      exact p_M_again_120  (l0) (l1) h hw
    · have hw := hw.2 c21
      refine xw_aload_n d_M_again_63 rfl rfl ?_
      obtain ⟨f1, a2, hA, hB, hw⟩ := hw
      refine xw_getr fr_M_64 d_M_again_64 hA hB ?_
      refine xw_iload_n d_M_again_67 rfl rfl ?_
      obtain ⟨ar20, x3, hA, hB, hC, hw⟩ := hw
      refine xw_iaload (t := 0) rfl d_M_again_68 hA hB hC ?_
      refine xw_aload_n d_M_again_69 rfl rfl ?_
      obtain ⟨f4, a5, hA, hB, hw⟩ := hw
      refine xw_getr fr_M_67 d_M_again_70 hA hB ?_
      refine xw_iload_n d_M_again_73 rfl rfl ?_
      obtain ⟨ar19, x6, hA, hB, hC, hw⟩ := hw
      refine xw_iaload (t := 0) rfl d_M_again_74 hA hB hC ?_
      refine xw_iconst (v := -1) d_M_again_75 (by decide) ?_
      refine xw_ixor d_M_again_76 ?_
      refine xw_iand d_M_again_77 ?_
      refine xw_iload_n d_M_again_78 rfl rfl ?_
      refine xw_ishr d_M_again_79 ?_
      refine xw_if_eq (tgt := 114) d_M_again_80 (by decide) (fun c18 => ?_) (fun c18 => ?_)
      · have hw := hw.1 c18
        exact p_M_again_114 ih (l0) (l1) (l2) h hw
      · have hw := hw.2 c18
        refine xw_aload_n d_M_again_83 rfl rfl ?_
        obtain ⟨f7, a8, hA, hB, hw⟩ := hw
        refine xw_getr fr_M_64 d_M_again_84 hA hB ?_
        refine xw_iload_n d_M_again_87 rfl rfl ?_
        obtain ⟨ar17, x9, hA, hB, hC, hw⟩ := hw
        refine xw_iaload (t := 0) rfl d_M_again_88 hA hB hC ?_
        refine xw_aload_n d_M_again_89 rfl rfl ?_
        obtain ⟨f10, a11, hA, hB, hw⟩ := hw
        refine xw_getr fr_M_67 d_M_again_90 hA hB ?_
        refine xw_iload_n d_M_again_93 rfl rfl ?_
        obtain ⟨ar16, x12, hA, hB, hC, hw⟩ := hw
        refine xw_iaload (t := 0) rfl d_M_again_94 hA hB hC ?_
        refine xw_iconst (v := -1) d_M_again_95 (by decide) ?_
        refine xw_ixor d_M_again_96 ?_
        refine xw_iand d_M_again_97 ?_
        refine xw_iload_n d_M_again_98 rfl rfl ?_
        refine xw_ishr d_M_again_99 ?_
        refine xw_iconst (v := 1) d_M_again_100 (by decide) ?_
        refine xw_iand d_M_again_101 ?_
        refine xw_if_ne (tgt := 108) d_M_again_102 (by decide) (fun c15 => ?_) (fun c15 => ?_)
        · have hw := hw.1 c15
          refine xw_aload_n d_M_again_108 rfl rfl ?_
          refine xw_iload_n d_M_again_109 rfl rfl ?_
          refine xw_iload_n d_M_again_110 rfl rfl ?_
          obtain ⟨⟨f14, hA⟩, hw⟩ := hw
          refine xc_V2n lk_M_170 in_M_request d_M_again_111 (x_M_request hw) rfl hA rfl ?_
          intro h13 hw
          exact p_M_again_114 ih (l0) (l1) (l2) h13 hw
        · have hw := hw.2 c15
          refine xw_goto (tgt := 114) d_M_again_105 (by decide) ?_
          exact p_M_again_114 ih (l0) (l1) (l2) h hw
set_option maxRecDepth 100000 in
def w_M_again (Q : Option Value → xH → Prop) (this : Nat) (p1 : Int32) (h : xH) : Prop := ∃ f1, h.2 this = some (.inr (8, f1)) ∧ 0 < f1.length ∧ ∀ h2, h2 = xu h this (.inr (8, f1.set 0 (.int (0)))) → w_M_isNode (fun v h3 => ∃ (x4 : Int32), v = some (.int x4) ∧ ((x4 = 0 → Q (some (.int (-1))) h3) ∧ (¬ x4 = 0 → (∃ f6, h3.2 this = some (.inr (8, f6))) ∧ w_M_isUp (fun v h5 => ∃ (x7 : Int32), v = some (.int x7) ∧ ((x7 = 0 → Q (some (.int (-1))) h5) ∧ (¬ x7 = 0 → ∃ (f8 : List Value) (a9 : Nat), h5.2 this = some (.inr (8, f8)) ∧ f8[17]? = some (.ref a9) ∧ ∃ (ar22 : List Int32) (x10 : Int32), h5.2 a9 = some (.inl (0, .inl ar22)) ∧ 0 ≤ p1 ∧ ar22[p1.toNatClampNeg]? = some x10 ∧ ((¬ x10 = 0 → ∃ (f11 : List Value) (a12 : Nat), h5.2 this = some (.inr (8, f11)) ∧ f11[16]? = some (.ref a12) ∧ ∃ (ar20 : List Int32) (x13 : Int32), h5.2 a12 = some (.inl (0, .inl ar20)) ∧ 0 ≤ p1 ∧ ar20[p1.toNatClampNeg]? = some x13 ∧ ((¬ x13 = 3 → ∃ n14, w_M_again_57 Q n14 (this) (p1) (0) h5) ∧ (x13 = 3 → (∃ f16, h5.2 this = some (.inr (8, f16))) ∧ w_M_begins (fun v h15 => v = none ∧ (∃ f18, h15.2 this = some (.inr (8, f18))) ∧ w_M_goesOn (fun v h17 => v = none ∧ w_M_again_120 Q (this) (p1) h17) this p1 h15) this p1 1 h5))) ∧ (x10 = 0 → Q (some (.int (-1))) h5))))) this p1 h3))) p1 h2
set_option maxRecDepth 100000 in
set_option maxHeartbeats 4000000 in
theorem x_M_again {sc : List Int32} {Q : Option Value → xH → Prop} {this : Nat} {p1 : Int32} {h : xH} (hw : w_M_again Q this p1 h) : xMet sc m_M_again 9 0 0 [.ref (this), .int (p1)] h Q := by
  unfold w_M_again at hw
  refine xMet.of2 cw_M_again rfl rfl ?_
  show xW sc m_M_again 9 0 0 0 [some (.ref (this)), some (.int (p1)), none] [] h Q
  refine xw_aload_n d_M_again_0 rfl rfl ?_
  refine xw_iconst (v := 0) d_M_again_1 (by decide) ?_
  obtain ⟨f1, hA, hB, hw⟩ := hw
  refine xw_puti fs_M_103 d_M_again_2 hA hB ?_
  generalize hh : xu h this (.inr (8, f1.set 0 (.int (0)))) = h2
  have hw := hw h2 hh.symm
  refine xw_iload_n d_M_again_5 rfl rfl ?_
  refine xc_S1i lk_M_245 st_M_isNode d_M_again_6 (x_M_isNode hw) rfl rfl ?_
  intro x4 h3 hw
  refine xw_if_eq (tgt := 29) d_M_again_9 (by decide) (fun c24 => ?_) (fun c24 => ?_)
  · have hw := hw.1 c24
    refine xw_iconst (v := -1) d_M_again_29 (by decide) ?_
    exact xw_ireturn rfl d_M_again_30 hw
  · have hw := hw.2 c24
    refine xw_aload_n d_M_again_12 rfl rfl ?_
    refine xw_iload_n d_M_again_13 rfl rfl ?_
    obtain ⟨⟨f6, hA⟩, hw⟩ := hw
    refine xc_V1i lk_M_111 in_M_isUp d_M_again_14 (x_M_isUp hw) rfl hA rfl ?_
    intro x7 h5 hw
    refine xw_if_eq (tgt := 29) d_M_again_17 (by decide) (fun c23 => ?_) (fun c23 => ?_)
    · have hw := hw.1 c23
      refine xw_iconst (v := -1) d_M_again_29 (by decide) ?_
      exact xw_ireturn rfl d_M_again_30 hw
    · have hw := hw.2 c23
      refine xw_aload_n d_M_again_20 rfl rfl ?_
      obtain ⟨f8, a9, hA, hB, hw⟩ := hw
      refine xw_getr fr_M_55 d_M_again_21 hA hB ?_
      refine xw_iload_n d_M_again_24 rfl rfl ?_
      obtain ⟨ar22, x10, hA, hB, hC, hw⟩ := hw
      refine xw_iaload (t := 0) rfl d_M_again_25 hA hB hC ?_
      refine xw_if_ne (tgt := 31) d_M_again_26 (by decide) (fun c21 => ?_) (fun c21 => ?_)
      · have hw := hw.1 c21
        refine xw_aload_n d_M_again_31 rfl rfl ?_
        obtain ⟨f11, a12, hA, hB, hw⟩ := hw
        refine xw_getr fr_M_52 d_M_again_32 hA hB ?_
        refine xw_iload_n d_M_again_35 rfl rfl ?_
        obtain ⟨ar20, x13, hA, hB, hC, hw⟩ := hw
        refine xw_iaload (t := 0) rfl d_M_again_36 hA hB hC ?_
        refine xw_iconst (v := 3) d_M_again_37 (by decide) ?_
        refine xw_icmp_ne (tgt := 55) d_M_again_38 (by decide) (fun c19 => ?_) (fun c19 => ?_)
        · have hw := hw.1 c19
          refine xw_iconst (v := 0) d_M_again_55 (by decide) ?_
          refine xs_istore_n (lv' := [some (.ref (this)), some (.int (p1)), some (.int (0))]) d_M_again_56 rfl rfl rfl ?_
          obtain ⟨n14, hw⟩ := hw
          exact p_M_again_57  n14 (this) (p1) (0) h5 hw
        · have hw := hw.2 c19
          refine xw_aload_n d_M_again_41 rfl rfl ?_
          refine xw_iload_n d_M_again_42 rfl rfl ?_
          refine xw_iconst (v := 1) d_M_again_43 (by decide) ?_
          obtain ⟨⟨f16, hA⟩, hw⟩ := hw
          refine xc_V2n lk_M_203 in_M_begins d_M_again_44 (x_M_begins hw) rfl hA rfl ?_
          intro h15 hw
          refine xw_aload_n d_M_again_47 rfl rfl ?_
          refine xw_iload_n d_M_again_48 rfl rfl ?_
          obtain ⟨⟨f18, hA⟩, hw⟩ := hw
          refine xc_V1n lk_M_216 in_M_goesOn d_M_again_49 (x_M_goesOn hw) rfl hA rfl ?_
          intro h17 hw
          refine xw_goto (tgt := 120) d_M_again_52 (by decide) ?_
          exact p_M_again_120  (this) (p1) h17 hw
      · have hw := hw.2 c21
        refine xw_iconst (v := -1) d_M_again_29 (by decide) ?_
        exact xw_ireturn rfl d_M_again_30 hw
set_option maxRecDepth 100000 in
def w_M_gossip (Q : Option Value → xH → Prop) (this : Nat) (p1 : Int32) (p2 : Int32) (h : xH) : Prop := ∃ f1, h.2 this = some (.inr (8, f1)) ∧ 0 < f1.length ∧ ∀ h2, h2 = xu h this (.inr (8, f1.set 0 (.int (0)))) → w_M_isNode (fun v h3 => ∃ (x4 : Int32), v = some (.int x4) ∧ ((x4 = 0 → (narrow .boolean (.int 0) = .int 0 ∧ Q (some (.int 0)) h3)) ∧ (¬ x4 = 0 → w_M_isNode (fun v h5 => ∃ (x6 : Int32), v = some (.int x6) ∧ ((x6 = 0 → (narrow .boolean (.int 0) = .int 0 ∧ Q (some (.int 0)) h5)) ∧ (¬ x6 = 0 → ((p1 = p2 → (narrow .boolean (.int 0) = .int 0 ∧ Q (some (.int 0)) h5)) ∧ (¬ p1 = p2 → (∃ f8, h5.2 this = some (.inr (8, f8))) ∧ w_M_isUp (fun v h7 => ∃ (x9 : Int32), v = some (.int x9) ∧ ((x9 = 0 → (narrow .boolean (.int 0) = .int 0 ∧ Q (some (.int 0)) h7)) ∧ (¬ x9 = 0 → (∃ f11, h7.2 this = some (.inr (8, f11))) ∧ w_M_greatest (fun v h10 => ∃ (x12 : Int32), v = some (.int x12) ∧ ((0 ≤ x12 → (∃ f14, h10.2 this = some (.inr (8, f14))) ∧ w_M_send (fun v h13 => v = none ∧ (narrow .boolean (.int 1) = .int 1 ∧ Q (some (.int 1)) h13)) this 14 p1 p2 0 0 0 0 0 0 1 0 h10) ∧ (¬ 0 ≤ x12 → (narrow .boolean (.int 0) = .int 0 ∧ Q (some (.int 0)) h10)))) this p1 h7))) this p1 h5))))) p2 h3))) p1 h2
set_option maxRecDepth 100000 in
set_option maxHeartbeats 4000000 in
theorem x_M_gossip {sc : List Int32} {Q : Option Value → xH → Prop} {this : Nat} {p1 : Int32} {p2 : Int32} {h : xH} (hw : w_M_gossip Q this p1 p2 h) : xMet sc m_M_gossip 2 0 0 [.ref (this), .int (p1), .int (p2)] h Q := by
  unfold w_M_gossip at hw
  refine xMet.of2 cw_M_gossip rfl rfl ?_
  show xW sc m_M_gossip 2 0 0 0 [some (.ref (this)), some (.int (p1)), some (.int (p2))] [] h Q
  refine xw_aload_n d_M_gossip_0 rfl rfl ?_
  refine xw_iconst (v := 0) d_M_gossip_1 (by decide) ?_
  obtain ⟨f1, hA, hB, hw⟩ := hw
  refine xw_puti fs_M_103 d_M_gossip_2 hA hB ?_
  generalize hh : xu h this (.inr (8, f1.set 0 (.int (0)))) = h2
  have hw := hw h2 hh.symm
  refine xw_iload_n d_M_gossip_5 rfl rfl ?_
  refine xc_S1i lk_M_245 st_M_isNode d_M_gossip_6 (x_M_isNode hw) rfl rfl ?_
  intro x4 h3 hw
  refine xw_if_eq (tgt := 40) d_M_gossip_9 (by decide) (fun c19 => ?_) (fun c19 => ?_)
  · have hw := hw.1 c19
    refine xw_iconst (v := 0) d_M_gossip_40 (by decide) ?_
    exact xw_zreturn rfl hw.1 d_M_gossip_41 hw.2
  · have hw := hw.2 c19
    refine xw_iload_n d_M_gossip_12 rfl rfl ?_
    refine xc_S1i lk_M_245 st_M_isNode d_M_gossip_13 (x_M_isNode hw) rfl rfl ?_
    intro x6 h5 hw
    refine xw_if_eq (tgt := 40) d_M_gossip_16 (by decide) (fun c18 => ?_) (fun c18 => ?_)
    · have hw := hw.1 c18
      refine xw_iconst (v := 0) d_M_gossip_40 (by decide) ?_
      exact xw_zreturn rfl hw.1 d_M_gossip_41 hw.2
    · have hw := hw.2 c18
      refine xw_iload_n d_M_gossip_19 rfl rfl ?_
      refine xw_iload_n d_M_gossip_20 rfl rfl ?_
      refine xw_icmp_eq (tgt := 40) d_M_gossip_21 (by decide) (fun c17 => ?_) (fun c17 => ?_)
      · have hw := hw.1 c17
        refine xw_iconst (v := 0) d_M_gossip_40 (by decide) ?_
        exact xw_zreturn rfl hw.1 d_M_gossip_41 hw.2
      · have hw := hw.2 c17
        refine xw_aload_n d_M_gossip_24 rfl rfl ?_
        refine xw_iload_n d_M_gossip_25 rfl rfl ?_
        obtain ⟨⟨f8, hA⟩, hw⟩ := hw
        refine xc_V1i lk_M_111 in_M_isUp d_M_gossip_26 (x_M_isUp hw) rfl hA rfl ?_
        intro x9 h7 hw
        refine xw_if_eq (tgt := 40) d_M_gossip_29 (by decide) (fun c16 => ?_) (fun c16 => ?_)
        · have hw := hw.1 c16
          refine xw_iconst (v := 0) d_M_gossip_40 (by decide) ?_
          exact xw_zreturn rfl hw.1 d_M_gossip_41 hw.2
        · have hw := hw.2 c16
          refine xw_aload_n d_M_gossip_32 rfl rfl ?_
          refine xw_iload_n d_M_gossip_33 rfl rfl ?_
          obtain ⟨⟨f11, hA⟩, hw⟩ := hw
          refine xc_V1i lk_M_233 in_M_greatest d_M_gossip_34 (x_M_greatest hw) rfl hA rfl ?_
          intro x12 h10 hw
          refine xw_if_ge (tgt := 42) d_M_gossip_37 (by decide) (fun c15 => ?_) (fun c15 => ?_)
          · have hw := hw.1 c15
            refine xw_aload_n d_M_gossip_42 rfl rfl ?_
            refine xw_bipush (v := 14) d_M_gossip_43 (by decide) ?_
            refine xw_iload_n d_M_gossip_45 rfl rfl ?_
            refine xw_iload_n d_M_gossip_46 rfl rfl ?_
            refine xw_iconst (v := 0) d_M_gossip_47 (by decide) ?_
            refine xw_iconst (v := 0) d_M_gossip_48 (by decide) ?_
            refine xw_iconst (v := 0) d_M_gossip_49 (by decide) ?_
            refine xw_iconst (v := 0) d_M_gossip_50 (by decide) ?_
            refine xw_iconst (v := 0) d_M_gossip_51 (by decide) ?_
            refine xw_iconst (v := 0) d_M_gossip_52 (by decide) ?_
            refine xw_iconst (v := 1) d_M_gossip_53 (by decide) ?_
            refine xw_iconst (v := 0) d_M_gossip_54 (by decide) ?_
            obtain ⟨⟨f14, hA⟩, hw⟩ := hw
            refine xc_V11n lk_M_138 in_M_send d_M_gossip_55 (x_M_send hw) rfl hA rfl ?_
            intro h13 hw
            refine xw_iconst (v := 1) d_M_gossip_58 (by decide) ?_
            exact xw_zreturn rfl hw.1 d_M_gossip_59 hw.2
          · have hw := hw.2 c15
            refine xw_iconst (v := 0) d_M_gossip_40 (by decide) ?_
            exact xw_zreturn rfl hw.1 d_M_gossip_41 hw.2
set_option maxRecDepth 100000 in
def w_M_join_52 (Q : Option Value → xH → Prop) (l0 : Nat) (l1 : Int32) (l2 : Int32) (h : xH) : Prop := ∃ (f1 : List Value) (a2 : Nat), h.2 l0 = some (.inr (8, f1)) ∧ f1[1]? = some (.ref a2) ∧ ∃ ar3, h.2 a2 = some (.inl (0, .inl ar3)) ∧ 0 ≤ l1 ∧ l1.toNatClampNeg < ar3.length ∧ ∀ h4, h4 = xu h a2 (.inl (0, .inl (ar3.set l1.toNatClampNeg 1))) → (∃ f6, h4.2 l0 = some (.inr (8, f6))) ∧ w_M_send (fun v h5 => v = none ∧ (narrow .boolean (.int 1) = .int 1 ∧ Q (some (.int 1)) h5)) l0 15 l1 l2 0 0 0 0 0 0 0 0 h4
set_option maxRecDepth 100000 in
set_option maxHeartbeats 4000000 in
theorem p_M_join_52 {sc : List Int32} {Q : Option Value → xH → Prop} (l0 : Nat) (l1 : Int32) (l2 : Int32) (h : xH) (hw : w_M_join_52 Q l0 l1 l2 h) : xW sc m_M_join 2 0 0 52 [some (.ref (l0)), some (.int (l1)), some (.int (l2))] [] h Q := by
  unfold w_M_join_52 at hw
  refine xw_aload_n d_M_join_52 rfl rfl ?_
  obtain ⟨f1, a2, hA, hB, hw⟩ := hw
  refine xw_getr fr_M_9 d_M_join_53 hA hB ?_
  refine xw_iload_n d_M_join_56 rfl rfl ?_
  refine xw_iconst (v := 1) d_M_join_57 (by decide) ?_
  obtain ⟨ar3, hA, hB, hC, hw⟩ := hw
  refine xw_iastore (t := 0) rfl d_M_join_58 hA hB hC ?_
  generalize hh : xu h a2 (.inl (0, .inl (ar3.set l1.toNatClampNeg 1))) = h4
  have hw := hw h4 hh.symm
  refine xw_aload_n d_M_join_59 rfl rfl ?_
  refine xw_bipush (v := 15) d_M_join_60 (by decide) ?_
  refine xw_iload_n d_M_join_62 rfl rfl ?_
  refine xw_iload_n d_M_join_63 rfl rfl ?_
  refine xw_iconst (v := 0) d_M_join_64 (by decide) ?_
  refine xw_iconst (v := 0) d_M_join_65 (by decide) ?_
  refine xw_iconst (v := 0) d_M_join_66 (by decide) ?_
  refine xw_iconst (v := 0) d_M_join_67 (by decide) ?_
  refine xw_iconst (v := 0) d_M_join_68 (by decide) ?_
  refine xw_iconst (v := 0) d_M_join_69 (by decide) ?_
  refine xw_iconst (v := 0) d_M_join_70 (by decide) ?_
  refine xw_iconst (v := 0) d_M_join_71 (by decide) ?_
  obtain ⟨⟨f6, hA⟩, hw⟩ := hw
  refine xc_V11n lk_M_138 in_M_send d_M_join_72 (x_M_send hw) rfl hA rfl ?_
  intro h5 hw
  refine xw_iconst (v := 1) d_M_join_75 (by decide) ?_
  exact xw_zreturn rfl hw.1 d_M_join_76 hw.2
set_option maxRecDepth 100000 in
def w_M_join (Q : Option Value → xH → Prop) (this : Nat) (p1 : Int32) (p2 : Int32) (h : xH) : Prop := ∃ f1, h.2 this = some (.inr (8, f1)) ∧ 0 < f1.length ∧ ∀ h2, h2 = xu h this (.inr (8, f1.set 0 (.int (0)))) → w_M_isNode (fun v h3 => ∃ (x4 : Int32), v = some (.int x4) ∧ ((x4 = 0 → (narrow .boolean (.int 0) = .int 0 ∧ Q (some (.int 0)) h3)) ∧ (¬ x4 = 0 → w_M_isNode (fun v h5 => ∃ (x6 : Int32), v = some (.int x6) ∧ ((x6 = 0 → (narrow .boolean (.int 0) = .int 0 ∧ Q (some (.int 0)) h5)) ∧ (¬ x6 = 0 → ((p1 = p2 → (narrow .boolean (.int 0) = .int 0 ∧ Q (some (.int 0)) h5)) ∧ (¬ p1 = p2 → ∃ (f7 : List Value) (a8 : Nat), h5.2 this = some (.inr (8, f7)) ∧ f7[1]? = some (.ref a8) ∧ ∃ (ar19 : List Int32) (x9 : Int32), h5.2 a8 = some (.inl (0, .inl ar19)) ∧ 0 ≤ p1 ∧ ar19[p1.toNatClampNeg]? = some x9 ∧ ((x9 = 2 → (narrow .boolean (.int 0) = .int 0 ∧ Q (some (.int 0)) h5)) ∧ (¬ x9 = 2 → (∃ f11, h5.2 this = some (.inr (8, f11))) ∧ w_M_isUp (fun v h10 => ∃ (x12 : Int32), v = some (.int x12) ∧ ((x12 = 0 → w_M_join_52 Q (this) (p1) (p2) h10) ∧ (¬ x12 = 0 → (∃ f14, h10.2 this = some (.inr (8, f14))) ∧ w_M_greatest (fun v h13 => ∃ (x15 : Int32), v = some (.int x15) ∧ ((x15 < 0 → w_M_join_52 Q (this) (p1) (p2) h13) ∧ (¬ x15 < 0 → (narrow .boolean (.int 0) = .int 0 ∧ Q (some (.int 0)) h13)))) this p1 h10))) this p1 h5))))))) p2 h3))) p1 h2
set_option maxRecDepth 100000 in
set_option maxHeartbeats 4000000 in
theorem x_M_join {sc : List Int32} {Q : Option Value → xH → Prop} {this : Nat} {p1 : Int32} {p2 : Int32} {h : xH} (hw : w_M_join Q this p1 p2 h) : xMet sc m_M_join 2 0 0 [.ref (this), .int (p1), .int (p2)] h Q := by
  unfold w_M_join at hw
  refine xMet.of2 cw_M_join rfl rfl ?_
  show xW sc m_M_join 2 0 0 0 [some (.ref (this)), some (.int (p1)), some (.int (p2))] [] h Q
  refine xw_aload_n d_M_join_0 rfl rfl ?_
  refine xw_iconst (v := 0) d_M_join_1 (by decide) ?_
  obtain ⟨f1, hA, hB, hw⟩ := hw
  refine xw_puti fs_M_103 d_M_join_2 hA hB ?_
  generalize hh : xu h this (.inr (8, f1.set 0 (.int (0)))) = h2
  have hw := hw h2 hh.symm
  refine xw_iload_n d_M_join_5 rfl rfl ?_
  refine xc_S1i lk_M_245 st_M_isNode d_M_join_6 (x_M_isNode hw) rfl rfl ?_
  intro x4 h3 hw
  refine xw_if_eq (tgt := 50) d_M_join_9 (by decide) (fun c22 => ?_) (fun c22 => ?_)
  · have hw := hw.1 c22
    refine xw_iconst (v := 0) d_M_join_50 (by decide) ?_
    exact xw_zreturn rfl hw.1 d_M_join_51 hw.2
  · have hw := hw.2 c22
    refine xw_iload_n d_M_join_12 rfl rfl ?_
    refine xc_S1i lk_M_245 st_M_isNode d_M_join_13 (x_M_isNode hw) rfl rfl ?_
    intro x6 h5 hw
    refine xw_if_eq (tgt := 50) d_M_join_16 (by decide) (fun c21 => ?_) (fun c21 => ?_)
    · have hw := hw.1 c21
      refine xw_iconst (v := 0) d_M_join_50 (by decide) ?_
      exact xw_zreturn rfl hw.1 d_M_join_51 hw.2
    · have hw := hw.2 c21
      refine xw_iload_n d_M_join_19 rfl rfl ?_
      refine xw_iload_n d_M_join_20 rfl rfl ?_
      refine xw_icmp_eq (tgt := 50) d_M_join_21 (by decide) (fun c20 => ?_) (fun c20 => ?_)
      · have hw := hw.1 c20
        refine xw_iconst (v := 0) d_M_join_50 (by decide) ?_
        exact xw_zreturn rfl hw.1 d_M_join_51 hw.2
      · have hw := hw.2 c20
        refine xw_aload_n d_M_join_24 rfl rfl ?_
        obtain ⟨f7, a8, hA, hB, hw⟩ := hw
        refine xw_getr fr_M_9 d_M_join_25 hA hB ?_
        refine xw_iload_n d_M_join_28 rfl rfl ?_
        obtain ⟨ar19, x9, hA, hB, hC, hw⟩ := hw
        refine xw_iaload (t := 0) rfl d_M_join_29 hA hB hC ?_
        refine xw_iconst (v := 2) d_M_join_30 (by decide) ?_
        refine xw_icmp_eq (tgt := 50) d_M_join_31 (by decide) (fun c18 => ?_) (fun c18 => ?_)
        · have hw := hw.1 c18
          refine xw_iconst (v := 0) d_M_join_50 (by decide) ?_
          exact xw_zreturn rfl hw.1 d_M_join_51 hw.2
        · have hw := hw.2 c18
          refine xw_aload_n d_M_join_34 rfl rfl ?_
          refine xw_iload_n d_M_join_35 rfl rfl ?_
          obtain ⟨⟨f11, hA⟩, hw⟩ := hw
          refine xc_V1i lk_M_111 in_M_isUp d_M_join_36 (x_M_isUp hw) rfl hA rfl ?_
          intro x12 h10 hw
          refine xw_if_eq (tgt := 52) d_M_join_39 (by decide) (fun c17 => ?_) (fun c17 => ?_)
          · have hw := hw.1 c17
            exact p_M_join_52  (this) (p1) (p2) h10 hw
          · have hw := hw.2 c17
            refine xw_aload_n d_M_join_42 rfl rfl ?_
            refine xw_iload_n d_M_join_43 rfl rfl ?_
            obtain ⟨⟨f14, hA⟩, hw⟩ := hw
            refine xc_V1i lk_M_233 in_M_greatest d_M_join_44 (x_M_greatest hw) rfl hA rfl ?_
            intro x15 h13 hw
            refine xw_if_lt (tgt := 52) d_M_join_47 (by decide) (fun c16 => ?_) (fun c16 => ?_)
            · have hw := hw.1 c16
              exact p_M_join_52  (this) (p1) (p2) h13 hw
            · have hw := hw.2 c16
              refine xw_iconst (v := 0) d_M_join_50 (by decide) ?_
              exact xw_zreturn rfl hw.1 d_M_join_51 hw.2
set_option maxRecDepth 100000 in
def w_M_deliver_23 (Q : Option Value → xH → Prop) : Nat → Nat → Int32 → Int32 → xH → Prop
  | 0, _, _, _, _ => False
  | n + 1, l0, l1, l2, h => ((53 ≤ l2 → (∃ f2, h.2 l0 = some (.inr (8, f2))) ∧ w_M_remove (fun v h1 => v = none ∧ ∃ (f3 : List Value) (a4 : Nat), h1.2 l0 = some (.inr (8, f3)) ∧ f3[35]? = some (.ref a4) ∧ ∃ (ar18 : List Int32) (x5 : Int32), h1.2 a4 = some (.inl (0, .inl ar18)) ∧ 0 ≤ (2 : Int32) ∧ ar18[(2 : Int32).toNatClampNeg]? = some x5 ∧ (∃ f7, h1.2 l0 = some (.inr (8, f7))) ∧ w_M_isUp (fun v h6 => ∃ (x8 : Int32), v = some (.int x8) ∧ ((¬ x8 = 0 → (∃ f10, h6.2 l0 = some (.inr (8, f10))) ∧ w_M_merges (fun v h9 => v = none ∧ (∃ f12, h9.2 l0 = some (.inr (8, f12))) ∧ w_M_isUp (fun v h11 => ∃ (x13 : Int32), v = some (.int x13) ∧ ((x13 = 0 → Q (some (.int 1)) h11) ∧ (¬ x13 = 0 → (∃ f15, h11.2 l0 = some (.inr (8, f15))) ∧ w_M_handles (fun v h14 => v = none ∧ Q (some (.int 1)) h14) l0 x5 h11))) l0 x5 h9) l0 x5 h6) ∧ (x8 = 0 → Q (some (.int 0)) h6))) l0 x5 h1) l0 l1 h) ∧ (¬ 53 ≤ l2 → ∃ (f19 : List Value) (a20 : Nat), h.2 l0 = some (.inr (8, f19)) ∧ f19[35]? = some (.ref a20) ∧ ∃ (f21 : List Value) (a22 : Nat), h.2 l0 = some (.inr (8, f21)) ∧ f21[32]? = some (.ref a22) ∧ ∃ (ar26 : List Int32) (x23 : Int32), h.2 a22 = some (.inl (0, .inl ar26)) ∧ 0 ≤ ((53 * l1) + l2 : Int32) ∧ ar26[((53 * l1) + l2 : Int32).toNatClampNeg]? = some x23 ∧ ∃ ar24, h.2 a20 = some (.inl (0, .inl ar24)) ∧ 0 ≤ l2 ∧ l2.toNatClampNeg < ar24.length ∧ ∀ h25, h25 = xu h a20 (.inl (0, .inl (ar24.set l2.toNatClampNeg x23))) → w_M_deliver_23 Q n (l0) (l1) (l2 + 1) h25))
set_option maxRecDepth 100000 in
set_option maxHeartbeats 4000000 in
theorem p_M_deliver_23 {sc : List Int32} {Q : Option Value → xH → Prop} : ∀ (n : Nat) (l0 : Nat) (l1 : Int32) (l2 : Int32) (h : xH), w_M_deliver_23 Q n l0 l1 l2 h → xW sc m_M_deliver 12 0 0 23 [some (.ref (l0)), some (.int (l1)), some (.int (l2))] [] h Q := by
  intro n
  induction n with
  | zero => intro l0 l1 l2 h hw; exact False.elim hw
  | succ n ih =>
    intro l0 l1 l2 h hw
    rw [w_M_deliver_23] at hw
    refine xw_iload_n d_M_deliver_23 rfl rfl ?_
    refine xw_bipush (v := 53) d_M_deliver_24 (by decide) ?_
    refine xw_icmp_ge (tgt := 52) d_M_deliver_26 (by decide) (fun c27 => ?_) (fun c27 => ?_)
    · have hw := hw.1 c27
      refine xw_aload_n d_M_deliver_52 rfl rfl ?_
      refine xw_iload_n d_M_deliver_53 rfl rfl ?_
      obtain ⟨⟨f2, hA⟩, hw⟩ := hw
      refine xc_V1n lk_M_261 in_M_remove d_M_deliver_54 (x_M_remove hw) rfl hA rfl ?_
      intro h1 hw
      refine xw_aload_n d_M_deliver_57 rfl rfl ?_
      obtain ⟨f3, a4, hA, hB, hw⟩ := hw
      refine xw_getr fr_M_100 d_M_deliver_58 hA hB ?_
      refine xw_iconst (v := 2) d_M_deliver_61 (by decide) ?_
      obtain ⟨ar18, x5, hA, hB, hC, hw⟩ := hw
      refine xw_iaload (t := 0) rfl d_M_deliver_62 hA hB hC ?_
      refine xs_istore_n (lv' := [some (.ref (l0)), some (.int (l1)), some (.int (x5))]) d_M_deliver_63 rfl rfl rfl ?_
      refine xw_aload_n d_M_deliver_64 rfl rfl ?_
      refine xw_iload_n d_M_deliver_65 rfl rfl ?_
      obtain ⟨⟨f7, hA⟩, hw⟩ := hw
      refine xc_V1i lk_M_111 in_M_isUp d_M_deliver_66 (x_M_isUp hw) rfl hA rfl ?_
      intro x8 h6 hw
      refine xw_if_ne (tgt := 74) d_M_deliver_69 (by decide) (fun c17 => ?_) (fun c17 => ?_)
      · have hw := hw.1 c17
        refine xw_aload_n d_M_deliver_74 rfl rfl ?_
        refine xw_iload_n d_M_deliver_75 rfl rfl ?_
        obtain ⟨⟨f10, hA⟩, hw⟩ := hw
        refine xc_V1n lk_M_264 in_M_merges d_M_deliver_76 (x_M_merges hw) rfl hA rfl ?_
        intro h9 hw
        refine xw_aload_n d_M_deliver_79 rfl rfl ?_
        refine xw_iload_n d_M_deliver_80 rfl rfl ?_
        obtain ⟨⟨f12, hA⟩, hw⟩ := hw
        refine xc_V1i lk_M_111 in_M_isUp d_M_deliver_81 (x_M_isUp hw) rfl hA rfl ?_
        intro x13 h11 hw
        refine xw_if_eq (tgt := 92) d_M_deliver_84 (by decide) (fun c16 => ?_) (fun c16 => ?_)
        · have hw := hw.1 c16
          refine xw_iconst (v := 1) d_M_deliver_92 (by decide) ?_
          exact xw_ireturn rfl d_M_deliver_93 hw
        · have hw := hw.2 c16
          refine xw_aload_n d_M_deliver_87 rfl rfl ?_
          refine xw_iload_n d_M_deliver_88 rfl rfl ?_
          obtain ⟨⟨f15, hA⟩, hw⟩ := hw
          refine xc_V1n lk_M_267 in_M_handles d_M_deliver_89 (x_M_handles hw) rfl hA rfl ?_
          intro h14 hw
          refine xw_iconst (v := 1) d_M_deliver_92 (by decide) ?_
          exact xw_ireturn rfl d_M_deliver_93 hw
      · have hw := hw.2 c17
        refine xw_iconst (v := 0) d_M_deliver_72 (by decide) ?_
        exact xw_ireturn rfl d_M_deliver_73 hw
    · have hw := hw.2 c27
      refine xw_aload_n d_M_deliver_29 rfl rfl ?_
      obtain ⟨f19, a20, hA, hB, hw⟩ := hw
      refine xw_getr fr_M_100 d_M_deliver_30 hA hB ?_
      refine xw_iload_n d_M_deliver_33 rfl rfl ?_
      refine xw_aload_n d_M_deliver_34 rfl rfl ?_
      obtain ⟨f21, a22, hA, hB, hw⟩ := hw
      refine xw_getr fr_M_97 d_M_deliver_35 hA hB ?_
      refine xw_bipush (v := 53) d_M_deliver_38 (by decide) ?_
      refine xw_iload_n d_M_deliver_40 rfl rfl ?_
      refine xw_imul d_M_deliver_41 ?_
      refine xw_iload_n d_M_deliver_42 rfl rfl ?_
      refine xw_iadd d_M_deliver_43 ?_
      obtain ⟨ar26, x23, hA, hB, hC, hw⟩ := hw
      refine xw_iaload (t := 0) rfl d_M_deliver_44 hA hB hC ?_
      obtain ⟨ar24, hA, hB, hC, hw⟩ := hw
      refine xw_iastore (t := 0) rfl d_M_deliver_45 hA hB hC ?_
      generalize hh : xu h a20 (.inl (0, .inl (ar24.set l2.toNatClampNeg x23))) = h25
      have hw := hw h25 hh.symm
      refine xs_iinc (v := l2 + 1) (lv' := [some (.ref (l0)), some (.int (l1)), some (.int (l2 + 1))]) d_M_deliver_46 rfl rfl rfl ?_
      refine xw_goto (tgt := 23) d_M_deliver_49 (by decide) ?_
      exact ih (l0) (l1) (l2 + 1) h25 hw
set_option maxRecDepth 100000 in
def w_M_deliver (Q : Option Value → xH → Prop) (this : Nat) (p1 : Int32) (h : xH) : Prop := ∃ f1, h.2 this = some (.inr (8, f1)) ∧ 0 < f1.length ∧ ∀ h2, h2 = xu h this (.inr (8, f1.set 0 (.int (0)))) → ∃ (f3 : List Value) (x4 : Int32), h2.2 this = some (.inr (8, f3)) ∧ f3[31]? = some (.int x4) ∧ w_M_in (fun v h5 => ∃ (x6 : Int32), v = some (.int x6) ∧ ((¬ x6 = 0 → ∃ n7, w_M_deliver_23 Q n7 (this) (p1) (0) h5) ∧ (x6 = 0 → Q (some (.int (-1))) h5))) p1 0 (x4 - 1) h2
set_option maxRecDepth 100000 in
set_option maxHeartbeats 4000000 in
theorem x_M_deliver {sc : List Int32} {Q : Option Value → xH → Prop} {this : Nat} {p1 : Int32} {h : xH} (hw : w_M_deliver Q this p1 h) : xMet sc m_M_deliver 12 0 0 [.ref (this), .int (p1)] h Q := by
  unfold w_M_deliver at hw
  refine xMet.of2 cw_M_deliver rfl rfl ?_
  show xW sc m_M_deliver 12 0 0 0 [some (.ref (this)), some (.int (p1)), none] [] h Q
  refine xw_aload_n d_M_deliver_0 rfl rfl ?_
  refine xw_iconst (v := 0) d_M_deliver_1 (by decide) ?_
  obtain ⟨f1, hA, hB, hw⟩ := hw
  refine xw_puti fs_M_103 d_M_deliver_2 hA hB ?_
  generalize hh : xu h this (.inr (8, f1.set 0 (.int (0)))) = h2
  have hw := hw h2 hh.symm
  refine xw_iload_n d_M_deliver_5 rfl rfl ?_
  refine xw_iconst (v := 0) d_M_deliver_6 (by decide) ?_
  refine xw_aload_n d_M_deliver_7 rfl rfl ?_
  obtain ⟨f3, x4, hA, hB, hw⟩ := hw
  refine xw_getr fr_M_129 d_M_deliver_8 hA hB ?_
  refine xw_iconst (v := 1) d_M_deliver_11 (by decide) ?_
  refine xw_isub d_M_deliver_12 ?_
  refine xc_S3i lk_M_107 st_M_in d_M_deliver_13 (x_M_in hw) rfl rfl ?_
  intro x6 h5 hw
  refine xw_if_ne (tgt := 21) d_M_deliver_16 (by decide) (fun c8 => ?_) (fun c8 => ?_)
  · have hw := hw.1 c8
    refine xw_iconst (v := 0) d_M_deliver_21 (by decide) ?_
    refine xs_istore_n (lv' := [some (.ref (this)), some (.int (p1)), some (.int (0))]) d_M_deliver_22 rfl rfl rfl ?_
    obtain ⟨n7, hw⟩ := hw
    exact p_M_deliver_23  n7 (this) (p1) (0) h5 hw
  · have hw := hw.2 c8
    refine xw_iconst (v := -1) d_M_deliver_19 (by decide) ?_
    exact xw_ireturn rfl d_M_deliver_20 hw
set_option maxRecDepth 100000 in
def w_M_lose (Q : Option Value → xH → Prop) (this : Nat) (p1 : Int32) (h : xH) : Prop := ∃ f1, h.2 this = some (.inr (8, f1)) ∧ 0 < f1.length ∧ ∀ h2, h2 = xu h this (.inr (8, f1.set 0 (.int (0)))) → ∃ (f3 : List Value) (x4 : Int32), h2.2 this = some (.inr (8, f3)) ∧ f3[31]? = some (.int x4) ∧ w_M_in (fun v h5 => ∃ (x6 : Int32), v = some (.int x6) ∧ ((¬ x6 = 0 → (∃ f8, h5.2 this = some (.inr (8, f8))) ∧ w_M_remove (fun v h7 => v = none ∧ (narrow .boolean (.int 1) = .int 1 ∧ Q (some (.int 1)) h7)) this p1 h5) ∧ (x6 = 0 → (narrow .boolean (.int 0) = .int 0 ∧ Q (some (.int 0)) h5)))) p1 0 (x4 - 1) h2
set_option maxRecDepth 100000 in
set_option maxHeartbeats 4000000 in
theorem x_M_lose {sc : List Int32} {Q : Option Value → xH → Prop} {this : Nat} {p1 : Int32} {h : xH} (hw : w_M_lose Q this p1 h) : xMet sc m_M_lose 1 0 0 [.ref (this), .int (p1)] h Q := by
  unfold w_M_lose at hw
  refine xMet.of2 cw_M_lose rfl rfl ?_
  show xW sc m_M_lose 1 0 0 0 [some (.ref (this)), some (.int (p1))] [] h Q
  refine xw_aload_n d_M_lose_0 rfl rfl ?_
  refine xw_iconst (v := 0) d_M_lose_1 (by decide) ?_
  obtain ⟨f1, hA, hB, hw⟩ := hw
  refine xw_puti fs_M_103 d_M_lose_2 hA hB ?_
  generalize hh : xu h this (.inr (8, f1.set 0 (.int (0)))) = h2
  have hw := hw h2 hh.symm
  refine xw_iload_n d_M_lose_5 rfl rfl ?_
  refine xw_iconst (v := 0) d_M_lose_6 (by decide) ?_
  refine xw_aload_n d_M_lose_7 rfl rfl ?_
  obtain ⟨f3, x4, hA, hB, hw⟩ := hw
  refine xw_getr fr_M_129 d_M_lose_8 hA hB ?_
  refine xw_iconst (v := 1) d_M_lose_11 (by decide) ?_
  refine xw_isub d_M_lose_12 ?_
  refine xc_S3i lk_M_107 st_M_in d_M_lose_13 (x_M_in hw) rfl rfl ?_
  intro x6 h5 hw
  refine xw_if_ne (tgt := 21) d_M_lose_16 (by decide) (fun c9 => ?_) (fun c9 => ?_)
  · have hw := hw.1 c9
    refine xw_aload_n d_M_lose_21 rfl rfl ?_
    refine xw_iload_n d_M_lose_22 rfl rfl ?_
    obtain ⟨⟨f8, hA⟩, hw⟩ := hw
    refine xc_V1n lk_M_261 in_M_remove d_M_lose_23 (x_M_remove hw) rfl hA rfl ?_
    intro h7 hw
    refine xw_iconst (v := 1) d_M_lose_26 (by decide) ?_
    exact xw_zreturn rfl hw.1 d_M_lose_27 hw.2
  · have hw := hw.2 c9
    refine xw_iconst (v := 0) d_M_lose_19 (by decide) ?_
    exact xw_zreturn rfl hw.1 d_M_lose_20 hw.2
set_option maxRecDepth 100000 in
def w_M_twice_32 (Q : Option Value → xH → Prop) : Nat → Nat → Int32 → Int32 → xH → Prop
  | 0, _, _, _, _ => False
  | n + 1, l0, l1, l2, h => ((53 ≤ l2 → ∃ (f1 : List Value) (x2 : Int32), h.2 l0 = some (.inr (8, f1)) ∧ f1[31]? = some (.int x2) ∧ ∃ f3, h.2 l0 = some (.inr (8, f3)) ∧ 31 < f3.length ∧ ∀ h4, h4 = xu h l0 (.inr (8, f3.set 31 (.int (x2 + 1)))) → (narrow .boolean (.int 1) = .int 1 ∧ Q (some (.int 1)) h4)) ∧ (¬ 53 ≤ l2 → ∃ (f5 : List Value) (a6 : Nat), h.2 l0 = some (.inr (8, f5)) ∧ f5[32]? = some (.ref a6) ∧ ∃ (f7 : List Value) (x8 : Int32), h.2 l0 = some (.inr (8, f7)) ∧ f7[31]? = some (.int x8) ∧ ∃ (f9 : List Value) (a10 : Nat), h.2 l0 = some (.inr (8, f9)) ∧ f9[32]? = some (.ref a10) ∧ ∃ (ar14 : List Int32) (x11 : Int32), h.2 a10 = some (.inl (0, .inl ar14)) ∧ 0 ≤ ((53 * l1) + l2 : Int32) ∧ ar14[((53 * l1) + l2 : Int32).toNatClampNeg]? = some x11 ∧ ∃ ar12, h.2 a6 = some (.inl (0, .inl ar12)) ∧ 0 ≤ ((53 * x8) + l2 : Int32) ∧ ((53 * x8) + l2 : Int32).toNatClampNeg < ar12.length ∧ ∀ h13, h13 = xu h a6 (.inl (0, .inl (ar12.set ((53 * x8) + l2 : Int32).toNatClampNeg x11))) → w_M_twice_32 Q n (l0) (l1) (l2 + 1) h13))
set_option maxRecDepth 100000 in
set_option maxHeartbeats 4000000 in
theorem p_M_twice_32 {sc : List Int32} {Q : Option Value → xH → Prop} : ∀ (n : Nat) (l0 : Nat) (l1 : Int32) (l2 : Int32) (h : xH), w_M_twice_32 Q n l0 l1 l2 h → xW sc m_M_twice 1 0 0 32 [some (.ref (l0)), some (.int (l1)), some (.int (l2))] [] h Q := by
  intro n
  induction n with
  | zero => intro l0 l1 l2 h hw; exact False.elim hw
  | succ n ih =>
    intro l0 l1 l2 h hw
    rw [w_M_twice_32] at hw
    refine xw_iload_n d_M_twice_32 rfl rfl ?_
    refine xw_bipush (v := 53) d_M_twice_33 (by decide) ?_
    refine xw_icmp_ge (tgt := 69) d_M_twice_35 (by decide) (fun c15 => ?_) (fun c15 => ?_)
    · have hw := hw.1 c15
      refine xw_aload_n d_M_twice_69 rfl rfl ?_
      refine xw_dup d_M_twice_70 rfl ?_
      obtain ⟨f1, x2, hA, hB, hw⟩ := hw
      refine xw_getr fr_M_129 d_M_twice_71 hA hB ?_
      refine xw_iconst (v := 1) d_M_twice_74 (by decide) ?_
      refine xw_iadd d_M_twice_75 ?_
      obtain ⟨f3, hA, hB, hw⟩ := hw
      refine xw_puti fs_M_129 d_M_twice_76 hA hB ?_
      generalize hh : xu h l0 (.inr (8, f3.set 31 (.int (x2 + 1)))) = h4
      have hw := hw h4 hh.symm
      refine xw_iconst (v := 1) d_M_twice_79 (by decide) ?_
      exact xw_zreturn rfl hw.1 d_M_twice_80 hw.2
    · have hw := hw.2 c15
      refine xw_aload_n d_M_twice_38 rfl rfl ?_
      obtain ⟨f5, a6, hA, hB, hw⟩ := hw
      refine xw_getr fr_M_97 d_M_twice_39 hA hB ?_
      refine xw_bipush (v := 53) d_M_twice_42 (by decide) ?_
      refine xw_aload_n d_M_twice_44 rfl rfl ?_
      obtain ⟨f7, x8, hA, hB, hw⟩ := hw
      refine xw_getr fr_M_129 d_M_twice_45 hA hB ?_
      refine xw_imul d_M_twice_48 ?_
      refine xw_iload_n d_M_twice_49 rfl rfl ?_
      refine xw_iadd d_M_twice_50 ?_
      refine xw_aload_n d_M_twice_51 rfl rfl ?_
      obtain ⟨f9, a10, hA, hB, hw⟩ := hw
      refine xw_getr fr_M_97 d_M_twice_52 hA hB ?_
      refine xw_bipush (v := 53) d_M_twice_55 (by decide) ?_
      refine xw_iload_n d_M_twice_57 rfl rfl ?_
      refine xw_imul d_M_twice_58 ?_
      refine xw_iload_n d_M_twice_59 rfl rfl ?_
      refine xw_iadd d_M_twice_60 ?_
      obtain ⟨ar14, x11, hA, hB, hC, hw⟩ := hw
      refine xw_iaload (t := 0) rfl d_M_twice_61 hA hB hC ?_
      obtain ⟨ar12, hA, hB, hC, hw⟩ := hw
      refine xw_iastore (t := 0) rfl d_M_twice_62 hA hB hC ?_
      generalize hh : xu h a6 (.inl (0, .inl (ar12.set ((53 * x8) + l2 : Int32).toNatClampNeg x11))) = h13
      have hw := hw h13 hh.symm
      refine xs_iinc (v := l2 + 1) (lv' := [some (.ref (l0)), some (.int (l1)), some (.int (l2 + 1))]) d_M_twice_63 rfl rfl rfl ?_
      refine xw_goto (tgt := 32) d_M_twice_66 (by decide) ?_
      exact ih (l0) (l1) (l2 + 1) h13 hw
set_option maxRecDepth 100000 in
def w_M_twice (Q : Option Value → xH → Prop) (this : Nat) (p1 : Int32) (h : xH) : Prop := ∃ f1, h.2 this = some (.inr (8, f1)) ∧ 0 < f1.length ∧ ∀ h2, h2 = xu h this (.inr (8, f1.set 0 (.int (0)))) → ∃ (f3 : List Value) (x4 : Int32), h2.2 this = some (.inr (8, f3)) ∧ f3[31]? = some (.int x4) ∧ w_M_in (fun v h5 => ∃ (x6 : Int32), v = some (.int x6) ∧ ((x6 = 0 → (narrow .boolean (.int 0) = .int 0 ∧ Q (some (.int 0)) h5)) ∧ (¬ x6 = 0 → ∃ (f7 : List Value) (x8 : Int32), h5.2 this = some (.inr (8, f7)) ∧ f7[31]? = some (.int x8) ∧ ((¬ x8 = 120 → ∃ n9, w_M_twice_32 Q n9 (this) (p1) (0) h5) ∧ (x8 = 120 → (narrow .boolean (.int 0) = .int 0 ∧ Q (some (.int 0)) h5)))))) p1 0 (x4 - 1) h2
set_option maxRecDepth 100000 in
set_option maxHeartbeats 4000000 in
theorem x_M_twice {sc : List Int32} {Q : Option Value → xH → Prop} {this : Nat} {p1 : Int32} {h : xH} (hw : w_M_twice Q this p1 h) : xMet sc m_M_twice 1 0 0 [.ref (this), .int (p1)] h Q := by
  unfold w_M_twice at hw
  refine xMet.of2 cw_M_twice rfl rfl ?_
  show xW sc m_M_twice 1 0 0 0 [some (.ref (this)), some (.int (p1)), none] [] h Q
  refine xw_aload_n d_M_twice_0 rfl rfl ?_
  refine xw_iconst (v := 0) d_M_twice_1 (by decide) ?_
  obtain ⟨f1, hA, hB, hw⟩ := hw
  refine xw_puti fs_M_103 d_M_twice_2 hA hB ?_
  generalize hh : xu h this (.inr (8, f1.set 0 (.int (0)))) = h2
  have hw := hw h2 hh.symm
  refine xw_iload_n d_M_twice_5 rfl rfl ?_
  refine xw_iconst (v := 0) d_M_twice_6 (by decide) ?_
  refine xw_aload_n d_M_twice_7 rfl rfl ?_
  obtain ⟨f3, x4, hA, hB, hw⟩ := hw
  refine xw_getr fr_M_129 d_M_twice_8 hA hB ?_
  refine xw_iconst (v := 1) d_M_twice_11 (by decide) ?_
  refine xw_isub d_M_twice_12 ?_
  refine xc_S3i lk_M_107 st_M_in d_M_twice_13 (x_M_in hw) rfl rfl ?_
  intro x6 h5 hw
  refine xw_if_eq (tgt := 28) d_M_twice_16 (by decide) (fun c11 => ?_) (fun c11 => ?_)
  · have hw := hw.1 c11
    refine xw_iconst (v := 0) d_M_twice_28 (by decide) ?_
    exact xw_zreturn rfl hw.1 d_M_twice_29 hw.2
  · have hw := hw.2 c11
    refine xw_aload_n d_M_twice_19 rfl rfl ?_
    obtain ⟨f7, x8, hA, hB, hw⟩ := hw
    refine xw_getr fr_M_129 d_M_twice_20 hA hB ?_
    refine xw_bipush (v := 120) d_M_twice_23 (by decide) ?_
    refine xw_icmp_ne (tgt := 30) d_M_twice_25 (by decide) (fun c10 => ?_) (fun c10 => ?_)
    · have hw := hw.1 c10
      refine xw_iconst (v := 0) d_M_twice_30 (by decide) ?_
      refine xs_istore_n (lv' := [some (.ref (this)), some (.int (p1)), some (.int (0))]) d_M_twice_31 rfl rfl rfl ?_
      obtain ⟨n9, hw⟩ := hw
      exact p_M_twice_32  n9 (this) (p1) (0) h5 hw
    · have hw := hw.2 c10
      refine xw_iconst (v := 0) d_M_twice_28 (by decide) ?_
      exact xw_zreturn rfl hw.1 d_M_twice_29 hw.2
set_option maxRecDepth 100000 in
def w_M_crash (Q : Option Value → xH → Prop) (this : Nat) (p1 : Int32) (h : xH) : Prop := ∃ f1, h.2 this = some (.inr (8, f1)) ∧ 0 < f1.length ∧ ∀ h2, h2 = xu h this (.inr (8, f1.set 0 (.int (0)))) → w_M_isNode (fun v h3 => ∃ (x4 : Int32), v = some (.int x4) ∧ ((x4 = 0 → (narrow .boolean (.int 0) = .int 0 ∧ Q (some (.int 0)) h3)) ∧ (¬ x4 = 0 → (∃ f6, h3.2 this = some (.inr (8, f6))) ∧ w_M_isUp (fun v h5 => ∃ (x7 : Int32), v = some (.int x7) ∧ ((¬ x7 = 0 → (∃ f9, h5.2 this = some (.inr (8, f9))) ∧ w_M_goesDown (fun v h8 => v = none ∧ (narrow .boolean (.int 1) = .int 1 ∧ Q (some (.int 1)) h8)) this p1 h5) ∧ (x7 = 0 → (narrow .boolean (.int 0) = .int 0 ∧ Q (some (.int 0)) h5)))) this p1 h3))) p1 h2
set_option maxRecDepth 100000 in
set_option maxHeartbeats 4000000 in
theorem x_M_crash {sc : List Int32} {Q : Option Value → xH → Prop} {this : Nat} {p1 : Int32} {h : xH} (hw : w_M_crash Q this p1 h) : xMet sc m_M_crash 2 0 0 [.ref (this), .int (p1)] h Q := by
  unfold w_M_crash at hw
  refine xMet.of2 cw_M_crash rfl rfl ?_
  show xW sc m_M_crash 2 0 0 0 [some (.ref (this)), some (.int (p1))] [] h Q
  refine xw_aload_n d_M_crash_0 rfl rfl ?_
  refine xw_iconst (v := 0) d_M_crash_1 (by decide) ?_
  obtain ⟨f1, hA, hB, hw⟩ := hw
  refine xw_puti fs_M_103 d_M_crash_2 hA hB ?_
  generalize hh : xu h this (.inr (8, f1.set 0 (.int (0)))) = h2
  have hw := hw h2 hh.symm
  refine xw_iload_n d_M_crash_5 rfl rfl ?_
  refine xc_S1i lk_M_245 st_M_isNode d_M_crash_6 (x_M_isNode hw) rfl rfl ?_
  intro x4 h3 hw
  refine xw_if_eq (tgt := 20) d_M_crash_9 (by decide) (fun c11 => ?_) (fun c11 => ?_)
  · have hw := hw.1 c11
    refine xw_iconst (v := 0) d_M_crash_20 (by decide) ?_
    exact xw_zreturn rfl hw.1 d_M_crash_21 hw.2
  · have hw := hw.2 c11
    refine xw_aload_n d_M_crash_12 rfl rfl ?_
    refine xw_iload_n d_M_crash_13 rfl rfl ?_
    obtain ⟨⟨f6, hA⟩, hw⟩ := hw
    refine xc_V1i lk_M_111 in_M_isUp d_M_crash_14 (x_M_isUp hw) rfl hA rfl ?_
    intro x7 h5 hw
    refine xw_if_ne (tgt := 22) d_M_crash_17 (by decide) (fun c10 => ?_) (fun c10 => ?_)
    · have hw := hw.1 c10
      refine xw_aload_n d_M_crash_22 rfl rfl ?_
      refine xw_iload_n d_M_crash_23 rfl rfl ?_
      obtain ⟨⟨f9, hA⟩, hw⟩ := hw
      refine xc_V1n lk_M_115 in_M_goesDown d_M_crash_24 (x_M_goesDown hw) rfl hA rfl ?_
      intro h8 hw
      refine xw_iconst (v := 1) d_M_crash_27 (by decide) ?_
      exact xw_zreturn rfl hw.1 d_M_crash_28 hw.2
    · have hw := hw.2 c10
      refine xw_iconst (v := 0) d_M_crash_20 (by decide) ?_
      exact xw_zreturn rfl hw.1 d_M_crash_21 hw.2
set_option maxRecDepth 100000 in
def w_M_restart (Q : Option Value → xH → Prop) (this : Nat) (p1 : Int32) (h : xH) : Prop := ∃ f1, h.2 this = some (.inr (8, f1)) ∧ 0 < f1.length ∧ ∀ h2, h2 = xu h this (.inr (8, f1.set 0 (.int (0)))) → w_M_isNode (fun v h3 => ∃ (x4 : Int32), v = some (.int x4) ∧ ((x4 = 0 → (narrow .boolean (.int 0) = .int 0 ∧ Q (some (.int 0)) h3)) ∧ (¬ x4 = 0 → ∃ (f5 : List Value) (a6 : Nat), h3.2 this = some (.inr (8, f5)) ∧ f5[1]? = some (.ref a6) ∧ ∃ (ar23 : List Int32) (x7 : Int32), h3.2 a6 = some (.inl (0, .inl ar23)) ∧ 0 ≤ p1 ∧ ar23[p1.toNatClampNeg]? = some x7 ∧ ((x7 = 2 → ∃ (f8 : List Value) (a9 : Nat), h3.2 this = some (.inr (8, f8)) ∧ f8[1]? = some (.ref a9) ∧ ∃ ar10, h3.2 a9 = some (.inl (0, .inl ar10)) ∧ 0 ≤ p1 ∧ p1.toNatClampNeg < ar10.length ∧ ∀ h11, h11 = xu h3 a9 (.inl (0, .inl (ar10.set p1.toNatClampNeg 1))) → ∃ (f12 : List Value) (a13 : Nat), h11.2 this = some (.inr (8, f12)) ∧ f12[2]? = some (.ref a13) ∧ ∃ (ar21 : List Int32) (x14 : Int32), h11.2 a13 = some (.inl (0, .inl ar21)) ∧ 0 ≤ p1 ∧ ar21[p1.toNatClampNeg]? = some x14 ∧ ∃ ar15, h11.2 a13 = some (.inl (0, .inl ar15)) ∧ 0 ≤ p1 ∧ p1.toNatClampNeg < ar15.length ∧ ∀ h16, h16 = xu h11 a13 (.inl (0, .inl (ar15.set p1.toNatClampNeg (x14 + 1)))) → ∃ (f17 : List Value) (x18 : Int32), h16.2 this = some (.inr (8, f17)) ∧ f17[34]? = some (.int x18) ∧ ∃ f19, h16.2 this = some (.inr (8, f19)) ∧ 34 < f19.length ∧ ∀ h20, h20 = xu h16 this (.inr (8, f19.set 34 (.int (x18 + 1)))) → (narrow .boolean (.int 1) = .int 1 ∧ Q (some (.int 1)) h20)) ∧ (¬ x7 = 2 → (narrow .boolean (.int 0) = .int 0 ∧ Q (some (.int 0)) h3)))))) p1 h2
set_option maxRecDepth 100000 in
set_option maxHeartbeats 4000000 in
theorem x_M_restart {sc : List Int32} {Q : Option Value → xH → Prop} {this : Nat} {p1 : Int32} {h : xH} (hw : w_M_restart Q this p1 h) : xMet sc m_M_restart 2 0 0 [.ref (this), .int (p1)] h Q := by
  unfold w_M_restart at hw
  refine xMet.of2 cw_M_restart rfl rfl ?_
  show xW sc m_M_restart 2 0 0 0 [some (.ref (this)), some (.int (p1))] [] h Q
  refine xw_aload_n d_M_restart_0 rfl rfl ?_
  refine xw_iconst (v := 0) d_M_restart_1 (by decide) ?_
  obtain ⟨f1, hA, hB, hw⟩ := hw
  refine xw_puti fs_M_103 d_M_restart_2 hA hB ?_
  generalize hh : xu h this (.inr (8, f1.set 0 (.int (0)))) = h2
  have hw := hw h2 hh.symm
  refine xw_iload_n d_M_restart_5 rfl rfl ?_
  refine xc_S1i lk_M_245 st_M_isNode d_M_restart_6 (x_M_isNode hw) rfl rfl ?_
  intro x4 h3 hw
  refine xw_if_eq (tgt := 22) d_M_restart_9 (by decide) (fun c24 => ?_) (fun c24 => ?_)
  · have hw := hw.1 c24
    refine xw_iconst (v := 0) d_M_restart_22 (by decide) ?_
    exact xw_zreturn rfl hw.1 d_M_restart_23 hw.2
  · have hw := hw.2 c24
    refine xw_aload_n d_M_restart_12 rfl rfl ?_
    obtain ⟨f5, a6, hA, hB, hw⟩ := hw
    refine xw_getr fr_M_9 d_M_restart_13 hA hB ?_
    refine xw_iload_n d_M_restart_16 rfl rfl ?_
    obtain ⟨ar23, x7, hA, hB, hC, hw⟩ := hw
    refine xw_iaload (t := 0) rfl d_M_restart_17 hA hB hC ?_
    refine xw_iconst (v := 2) d_M_restart_18 (by decide) ?_
    refine xw_icmp_eq (tgt := 24) d_M_restart_19 (by decide) (fun c22 => ?_) (fun c22 => ?_)
    · have hw := hw.1 c22
      refine xw_aload_n d_M_restart_24 rfl rfl ?_
      obtain ⟨f8, a9, hA, hB, hw⟩ := hw
      refine xw_getr fr_M_9 d_M_restart_25 hA hB ?_
      refine xw_iload_n d_M_restart_28 rfl rfl ?_
      refine xw_iconst (v := 1) d_M_restart_29 (by decide) ?_
      obtain ⟨ar10, hA, hB, hC, hw⟩ := hw
      refine xw_iastore (t := 0) rfl d_M_restart_30 hA hB hC ?_
      generalize hh : xu h3 a9 (.inl (0, .inl (ar10.set p1.toNatClampNeg 1))) = h11
      have hw := hw h11 hh.symm
      refine xw_aload_n d_M_restart_31 rfl rfl ?_
      obtain ⟨f12, a13, hA, hB, hw⟩ := hw
      refine xw_getr fr_M_13 d_M_restart_32 hA hB ?_
      refine xw_iload_n d_M_restart_35 rfl rfl ?_
      refine xw_dup2 d_M_restart_36 rfl rfl ?_
      obtain ⟨ar21, x14, hA, hB, hC, hw⟩ := hw
      refine xw_iaload (t := 0) rfl d_M_restart_37 hA hB hC ?_
      refine xw_iconst (v := 1) d_M_restart_38 (by decide) ?_
      refine xw_iadd d_M_restart_39 ?_
      obtain ⟨ar15, hA, hB, hC, hw⟩ := hw
      refine xw_iastore (t := 0) rfl d_M_restart_40 hA hB hC ?_
      generalize hh : xu h11 a13 (.inl (0, .inl (ar15.set p1.toNatClampNeg (x14 + 1)))) = h16
      have hw := hw h16 hh.symm
      refine xw_aload_n d_M_restart_41 rfl rfl ?_
      refine xw_dup d_M_restart_42 rfl ?_
      obtain ⟨f17, x18, hA, hB, hw⟩ := hw
      refine xw_getr fr_M_119 d_M_restart_43 hA hB ?_
      refine xw_iconst (v := 1) d_M_restart_46 (by decide) ?_
      refine xw_iadd d_M_restart_47 ?_
      obtain ⟨f19, hA, hB, hw⟩ := hw
      refine xw_puti fs_M_119 d_M_restart_48 hA hB ?_
      generalize hh : xu h16 this (.inr (8, f19.set 34 (.int (x18 + 1)))) = h20
      have hw := hw h20 hh.symm
      refine xw_iconst (v := 1) d_M_restart_51 (by decide) ?_
      exact xw_zreturn rfl hw.1 d_M_restart_52 hw.2
    · have hw := hw.2 c22
      refine xw_iconst (v := 0) d_M_restart_22 (by decide) ?_
      exact xw_zreturn rfl hw.1 d_M_restart_23 hw.2
set_option maxRecDepth 100000 in
def w_M_arm (Q : Option Value → xH → Prop) (this : Nat) (p1 : Int32) (p2 : Int32) (h : xH) : Prop := ∃ f1, h.2 this = some (.inr (8, f1)) ∧ 0 < f1.length ∧ ∀ h2, h2 = xu h this (.inr (8, f1.set 0 (.int (0)))) → w_M_isNode (fun v h3 => ∃ (x4 : Int32), v = some (.int x4) ∧ ((x4 = 0 → (narrow .boolean (.int 0) = .int 0 ∧ Q (some (.int 0)) h3)) ∧ (¬ x4 = 0 → (∃ f6, h3.2 this = some (.inr (8, f6))) ∧ w_M_isUp (fun v h5 => ∃ (x7 : Int32), v = some (.int x7) ∧ ((x7 = 0 → (narrow .boolean (.int 0) = .int 0 ∧ Q (some (.int 0)) h5)) ∧ (¬ x7 = 0 → w_M_in (fun v h8 => ∃ (x9 : Int32), v = some (.int x9) ∧ ((¬ x9 = 0 → ∃ (f10 : List Value) (a11 : Nat), h8.2 this = some (.inr (8, f10)) ∧ f10[4]? = some (.ref a11) ∧ ∃ ar12, h8.2 a11 = some (.inl (0, .inl ar12)) ∧ 0 ≤ p1 ∧ p1.toNatClampNeg < ar12.length ∧ ∀ h13, h13 = xu h8 a11 (.inl (0, .inl (ar12.set p1.toNatClampNeg p2))) → (narrow .boolean (.int 1) = .int 1 ∧ Q (some (.int 1)) h13)) ∧ (x9 = 0 → (narrow .boolean (.int 0) = .int 0 ∧ Q (some (.int 0)) h8)))) p2 0 100 h5))) this p1 h3))) p1 h2
set_option maxRecDepth 100000 in
set_option maxHeartbeats 4000000 in
theorem x_M_arm {sc : List Int32} {Q : Option Value → xH → Prop} {this : Nat} {p1 : Int32} {p2 : Int32} {h : xH} (hw : w_M_arm Q this p1 p2 h) : xMet sc m_M_arm 2 0 0 [.ref (this), .int (p1), .int (p2)] h Q := by
  unfold w_M_arm at hw
  refine xMet.of2 cw_M_arm rfl rfl ?_
  show xW sc m_M_arm 2 0 0 0 [some (.ref (this)), some (.int (p1)), some (.int (p2))] [] h Q
  refine xw_aload_n d_M_arm_0 rfl rfl ?_
  refine xw_iconst (v := 0) d_M_arm_1 (by decide) ?_
  obtain ⟨f1, hA, hB, hw⟩ := hw
  refine xw_puti fs_M_103 d_M_arm_2 hA hB ?_
  generalize hh : xu h this (.inr (8, f1.set 0 (.int (0)))) = h2
  have hw := hw h2 hh.symm
  refine xw_iload_n d_M_arm_5 rfl rfl ?_
  refine xc_S1i lk_M_245 st_M_isNode d_M_arm_6 (x_M_isNode hw) rfl rfl ?_
  intro x4 h3 hw
  refine xw_if_eq (tgt := 30) d_M_arm_9 (by decide) (fun c16 => ?_) (fun c16 => ?_)
  · have hw := hw.1 c16
    refine xw_iconst (v := 0) d_M_arm_30 (by decide) ?_
    exact xw_zreturn rfl hw.1 d_M_arm_31 hw.2
  · have hw := hw.2 c16
    refine xw_aload_n d_M_arm_12 rfl rfl ?_
    refine xw_iload_n d_M_arm_13 rfl rfl ?_
    obtain ⟨⟨f6, hA⟩, hw⟩ := hw
    refine xc_V1i lk_M_111 in_M_isUp d_M_arm_14 (x_M_isUp hw) rfl hA rfl ?_
    intro x7 h5 hw
    refine xw_if_eq (tgt := 30) d_M_arm_17 (by decide) (fun c15 => ?_) (fun c15 => ?_)
    · have hw := hw.1 c15
      refine xw_iconst (v := 0) d_M_arm_30 (by decide) ?_
      exact xw_zreturn rfl hw.1 d_M_arm_31 hw.2
    · have hw := hw.2 c15
      refine xw_iload_n d_M_arm_20 rfl rfl ?_
      refine xw_iconst (v := 0) d_M_arm_21 (by decide) ?_
      refine xw_bipush (v := 100) d_M_arm_22 (by decide) ?_
      refine xc_S3i lk_M_107 st_M_in d_M_arm_24 (x_M_in hw) rfl rfl ?_
      intro x9 h8 hw
      refine xw_if_ne (tgt := 32) d_M_arm_27 (by decide) (fun c14 => ?_) (fun c14 => ?_)
      · have hw := hw.1 c14
        refine xw_aload_n d_M_arm_32 rfl rfl ?_
        obtain ⟨f10, a11, hA, hB, hw⟩ := hw
        refine xw_getr fr_M_19 d_M_arm_33 hA hB ?_
        refine xw_iload_n d_M_arm_36 rfl rfl ?_
        refine xw_iload_n d_M_arm_37 rfl rfl ?_
        obtain ⟨ar12, hA, hB, hC, hw⟩ := hw
        refine xw_iastore (t := 0) rfl d_M_arm_38 hA hB hC ?_
        generalize hh : xu h8 a11 (.inl (0, .inl (ar12.set p1.toNatClampNeg p2))) = h13
        have hw := hw h13 hh.symm
        refine xw_iconst (v := 1) d_M_arm_39 (by decide) ?_
        exact xw_zreturn rfl hw.1 d_M_arm_40 hw.2
      · have hw := hw.2 c14
        refine xw_iconst (v := 0) d_M_arm_30 (by decide) ?_
        exact xw_zreturn rfl hw.1 d_M_arm_31 hw.2
set_option maxRecDepth 100000 in
def w_M_node (Q : Option Value → xH → Prop) (this : Nat) (p1 : Int32) (p2 : Int32) (h : xH) : Prop := ∃ f1, h.2 this = some (.inr (8, f1)) ∧ 0 < f1.length ∧ ∀ h2, h2 = xu h this (.inr (8, f1.set 0 (.int (0)))) → w_M_isNode (fun v h3 => ∃ (x4 : Int32), v = some (.int x4) ∧ ((¬ x4 = 0 → ((p2 = 0 → ∃ (f6 : List Value) (a7 : Nat), h3.2 this = some (.inr (8, f6)) ∧ f6[1]? = some (.ref a7) ∧ ∃ (ar9 : List Int32) (x8 : Int32), h3.2 a7 = some (.inl (0, .inl ar9)) ∧ 0 ≤ p1 ∧ ar9[p1.toNatClampNeg]? = some x8 ∧ Q (some (.int x8)) h3) ∧ (p2 = 1 → ∃ (f11 : List Value) (a12 : Nat), h3.2 this = some (.inr (8, f11)) ∧ f11[2]? = some (.ref a12) ∧ ∃ (ar14 : List Int32) (x13 : Int32), h3.2 a12 = some (.inl (0, .inl ar14)) ∧ 0 ≤ p1 ∧ ar14[p1.toNatClampNeg]? = some x13 ∧ Q (some (.int x13)) h3) ∧ (p2 = 2 → ∃ (f16 : List Value) (a17 : Nat), h3.2 this = some (.inr (8, f16)) ∧ f16[3]? = some (.ref a17) ∧ ∃ (ar19 : List Int32) (x18 : Int32), h3.2 a17 = some (.inl (0, .inl ar19)) ∧ 0 ≤ p1 ∧ ar19[p1.toNatClampNeg]? = some x18 ∧ Q (some (.int x18)) h3) ∧ (p2 = 3 → (∃ f22, h3.2 this = some (.inr (8, f22))) ∧ w_M_least (fun v h21 => ∃ (x23 : Int32), v = some (.int x23) ∧ Q (some (.int x23)) h21) this p1 h3) ∧ (p2 = 4 → (∃ f26, h3.2 this = some (.inr (8, f26))) ∧ w_M_greatest (fun v h25 => ∃ (x27 : Int32), v = some (.int x27) ∧ Q (some (.int x27)) h25) this p1 h3) ∧ (p2 = 5 → ∃ (f29 : List Value) (a30 : Nat), h3.2 this = some (.inr (8, f29)) ∧ f29[5]? = some (.ref a30) ∧ ∃ (ar32 : List Int32) (x31 : Int32), h3.2 a30 = some (.inl (0, .inl ar32)) ∧ 0 ≤ p1 ∧ ar32[p1.toNatClampNeg]? = some x31 ∧ Q (some (.int x31)) h3) ∧ (p2 = 6 → ∃ (f34 : List Value) (a35 : Nat), h3.2 this = some (.inr (8, f34)) ∧ f34[4]? = some (.ref a35) ∧ ∃ (ar37 : List Int32) (x36 : Int32), h3.2 a35 = some (.inl (0, .inl ar37)) ∧ 0 ≤ p1 ∧ ar37[p1.toNatClampNeg]? = some x36 ∧ Q (some (.int x36)) h3) ∧ (¬ p2 = 0 → ¬ p2 = 1 → ¬ p2 = 2 → ¬ p2 = 3 → ¬ p2 = 4 → ¬ p2 = 5 → ¬ p2 = 6 → Q (some (.int (-1))) h3))) ∧ (x4 = 0 → Q (some (.int (-1))) h3))) p1 h2
set_option maxRecDepth 100000 in
set_option maxHeartbeats 4000000 in
theorem x_M_node {sc : List Int32} {Q : Option Value → xH → Prop} {this : Nat} {p1 : Int32} {p2 : Int32} {h : xH} (hw : w_M_node Q this p1 p2 h) : xMet sc m_M_node 2 0 0 [.ref (this), .int (p1), .int (p2)] h Q := by
  unfold w_M_node at hw
  refine xMet.of2 cw_M_node rfl rfl ?_
  show xW sc m_M_node 2 0 0 0 [some (.ref (this)), some (.int (p1)), some (.int (p2))] [] h Q
  refine xw_aload_n d_M_node_0 rfl rfl ?_
  refine xw_iconst (v := 0) d_M_node_1 (by decide) ?_
  obtain ⟨f1, hA, hB, hw⟩ := hw
  refine xw_puti fs_M_103 d_M_node_2 hA hB ?_
  generalize hh : xu h this (.inr (8, f1.set 0 (.int (0)))) = h2
  have hw := hw h2 hh.symm
  refine xw_iload_n d_M_node_5 rfl rfl ?_
  refine xc_S1i lk_M_245 st_M_isNode d_M_node_6 (x_M_isNode hw) rfl rfl ?_
  intro x4 h3 hw
  refine xw_if_ne (tgt := 14) d_M_node_9 (by decide) (fun c39 => ?_) (fun c39 => ?_)
  · have hw := hw.1 c39
    refine xw_iload_n d_M_node_14 rfl rfl ?_
    by_cases c10 : p2 = 0
    · have hw := hw.1 c10
      rw [c10]
      refine xw_tableIn (tgt := 56) (off := 41) d_M_node_15 (by decide) (by decide) (by decide +kernel) (by decide) ?_
      refine xw_aload_n d_M_node_56 rfl rfl ?_
      obtain ⟨f6, a7, hA, hB, hw⟩ := hw
      refine xw_getr fr_M_9 d_M_node_57 hA hB ?_
      refine xw_iload_n d_M_node_60 rfl rfl ?_
      obtain ⟨ar9, x8, hA, hB, hC, hw⟩ := hw
      refine xw_iaload (t := 0) rfl d_M_node_61 hA hB hC ?_
      exact xw_ireturn rfl d_M_node_62 hw
    by_cases c15 : p2 = 1
    · have hw := hw.2.1 c15
      rw [c15]
      refine xw_tableIn (tgt := 63) (off := 48) d_M_node_15 (by decide) (by decide) (by decide +kernel) (by decide) ?_
      refine xw_aload_n d_M_node_63 rfl rfl ?_
      obtain ⟨f11, a12, hA, hB, hw⟩ := hw
      refine xw_getr fr_M_13 d_M_node_64 hA hB ?_
      refine xw_iload_n d_M_node_67 rfl rfl ?_
      obtain ⟨ar14, x13, hA, hB, hC, hw⟩ := hw
      refine xw_iaload (t := 0) rfl d_M_node_68 hA hB hC ?_
      exact xw_ireturn rfl d_M_node_69 hw
    by_cases c20 : p2 = 2
    · have hw := hw.2.2.1 c20
      rw [c20]
      refine xw_tableIn (tgt := 70) (off := 55) d_M_node_15 (by decide) (by decide) (by decide +kernel) (by decide) ?_
      refine xw_aload_n d_M_node_70 rfl rfl ?_
      obtain ⟨f16, a17, hA, hB, hw⟩ := hw
      refine xw_getr fr_M_16 d_M_node_71 hA hB ?_
      refine xw_iload_n d_M_node_74 rfl rfl ?_
      obtain ⟨ar19, x18, hA, hB, hC, hw⟩ := hw
      refine xw_iaload (t := 0) rfl d_M_node_75 hA hB hC ?_
      exact xw_ireturn rfl d_M_node_76 hw
    by_cases c24 : p2 = 3
    · have hw := hw.2.2.2.1 c24
      rw [c24]
      refine xw_tableIn (tgt := 77) (off := 62) d_M_node_15 (by decide) (by decide) (by decide +kernel) (by decide) ?_
      refine xw_aload_n d_M_node_77 rfl rfl ?_
      refine xw_iload_n d_M_node_78 rfl rfl ?_
      obtain ⟨⟨f22, hA⟩, hw⟩ := hw
      refine xc_V1i lk_M_258 in_M_least d_M_node_79 (x_M_least hw) rfl hA rfl ?_
      intro x23 h21 hw
      exact xw_ireturn rfl d_M_node_82 hw
    by_cases c28 : p2 = 4
    · have hw := hw.2.2.2.2.1 c28
      rw [c28]
      refine xw_tableIn (tgt := 83) (off := 68) d_M_node_15 (by decide) (by decide) (by decide +kernel) (by decide) ?_
      refine xw_aload_n d_M_node_83 rfl rfl ?_
      refine xw_iload_n d_M_node_84 rfl rfl ?_
      obtain ⟨⟨f26, hA⟩, hw⟩ := hw
      refine xc_V1i lk_M_233 in_M_greatest d_M_node_85 (x_M_greatest hw) rfl hA rfl ?_
      intro x27 h25 hw
      exact xw_ireturn rfl d_M_node_88 hw
    by_cases c33 : p2 = 5
    · have hw := hw.2.2.2.2.2.1 c33
      rw [c33]
      refine xw_tableIn (tgt := 89) (off := 74) d_M_node_15 (by decide) (by decide) (by decide +kernel) (by decide) ?_
      refine xw_aload_n d_M_node_89 rfl rfl ?_
      obtain ⟨f29, a30, hA, hB, hw⟩ := hw
      refine xw_getr fr_M_22 d_M_node_90 hA hB ?_
      refine xw_iload_n d_M_node_93 rfl rfl ?_
      obtain ⟨ar32, x31, hA, hB, hC, hw⟩ := hw
      refine xw_iaload (t := 0) rfl d_M_node_94 hA hB hC ?_
      exact xw_ireturn rfl d_M_node_95 hw
    by_cases c38 : p2 = 6
    · have hw := hw.2.2.2.2.2.2.1 c38
      rw [c38]
      refine xw_tableIn (tgt := 96) (off := 81) d_M_node_15 (by decide) (by decide) (by decide +kernel) (by decide) ?_
      refine xw_aload_n d_M_node_96 rfl rfl ?_
      obtain ⟨f34, a35, hA, hB, hw⟩ := hw
      refine xw_getr fr_M_19 d_M_node_97 hA hB ?_
      refine xw_iload_n d_M_node_100 rfl rfl ?_
      obtain ⟨ar37, x36, hA, hB, hC, hw⟩ := hw
      refine xw_iaload (t := 0) rfl d_M_node_101 hA hB hC ?_
      exact xw_ireturn rfl d_M_node_102 hw
    have hw := hw.2.2.2.2.2.2.2 c10 c15 c20 c24 c28 c33 c38
    have ec10 := lv_neT c10 (a := 0) (by decide)
    have ec15 := lv_neT c15 (a := 1) (by decide)
    have ec20 := lv_neT c20 (a := 2) (by decide)
    have ec24 := lv_neT c24 (a := 3) (by decide)
    have ec28 := lv_neT c28 (a := 4) (by decide)
    have ec33 := lv_neT c33 (a := 5) (by decide)
    have ec38 := lv_neT c38 (a := 6) (by decide)
    refine xw_tableOut (tgt := 103) d_M_node_15 (by omega) (by decide) ?_
    refine xw_iconst (v := -1) d_M_node_103 (by decide) ?_
    exact xw_ireturn rfl d_M_node_104 hw
  · have hw := hw.2 c39
    refine xw_iconst (v := -1) d_M_node_12 (by decide) ?_
    exact xw_ireturn rfl d_M_node_13 hw
set_option maxRecDepth 100000 in
def w_M_cell (Q : Option Value → xH → Prop) (this : Nat) (p1 : Int32) (p2 : Int32) (p3 : Int32) (h : xH) : Prop := ∃ f1, h.2 this = some (.inr (8, f1)) ∧ 0 < f1.length ∧ ∀ h2, h2 = xu h this (.inr (8, f1.set 0 (.int (0)))) → w_M_isNode (fun v h3 => ∃ (x4 : Int32), v = some (.int x4) ∧ ((x4 = 0 → Q (some (.int (-1))) h3) ∧ (¬ x4 = 0 → w_M_in (fun v h5 => ∃ (x6 : Int32), v = some (.int x6) ∧ ((¬ x6 = 0 → ((¬ p3 = 0 → ((¬ p3 = 1 → ((¬ p3 = 2 → Q (some (.int (-1))) h5) ∧ (p3 = 2 → ∃ (f7 : List Value) (a8 : Nat), h5.2 this = some (.inr (8, f7)) ∧ f7[8]? = some (.ref a8) ∧ ∃ (ar10 : List Int32) (x9 : Int32), h5.2 a8 = some (.inl (0, .inl ar10)) ∧ 0 ≤ ((4 * p1) + p2 : Int32) ∧ ar10[((4 * p1) + p2 : Int32).toNatClampNeg]? = some x9 ∧ Q (some (.int x9)) h5))) ∧ (p3 = 1 → ∃ (f12 : List Value) (a13 : Nat), h5.2 this = some (.inr (8, f12)) ∧ f12[7]? = some (.ref a13) ∧ ∃ (ar15 : List Int32) (x14 : Int32), h5.2 a13 = some (.inl (0, .inl ar15)) ∧ 0 ≤ ((4 * p1) + p2 : Int32) ∧ ar15[((4 * p1) + p2 : Int32).toNatClampNeg]? = some x14 ∧ Q (some (.int x14)) h5))) ∧ (p3 = 0 → ∃ (f17 : List Value) (a18 : Nat), h5.2 this = some (.inr (8, f17)) ∧ f17[6]? = some (.ref a18) ∧ ∃ (ar20 : List Int32) (x19 : Int32), h5.2 a18 = some (.inl (0, .inl ar20)) ∧ 0 ≤ ((4 * p1) + p2 : Int32) ∧ ar20[((4 * p1) + p2 : Int32).toNatClampNeg]? = some x19 ∧ Q (some (.int x19)) h5))) ∧ (x6 = 0 → Q (some (.int (-1))) h5))) p2 0 3 h3))) p1 h2
set_option maxRecDepth 100000 in
set_option maxHeartbeats 4000000 in
theorem x_M_cell {sc : List Int32} {Q : Option Value → xH → Prop} {this : Nat} {p1 : Int32} {p2 : Int32} {p3 : Int32} {h : xH} (hw : w_M_cell Q this p1 p2 p3 h) : xMet sc m_M_cell 2 0 0 [.ref (this), .int (p1), .int (p2), .int (p3)] h Q := by
  unfold w_M_cell at hw
  refine xMet.of2 cw_M_cell rfl rfl ?_
  show xW sc m_M_cell 2 0 0 0 [some (.ref (this)), some (.int (p1)), some (.int (p2)), some (.int (p3)), none] [] h Q
  refine xw_aload_n d_M_cell_0 rfl rfl ?_
  refine xw_iconst (v := 0) d_M_cell_1 (by decide) ?_
  obtain ⟨f1, hA, hB, hw⟩ := hw
  refine xw_puti fs_M_103 d_M_cell_2 hA hB ?_
  generalize hh : xu h this (.inr (8, f1.set 0 (.int (0)))) = h2
  have hw := hw h2 hh.symm
  refine xw_iload_n d_M_cell_5 rfl rfl ?_
  refine xc_S1i lk_M_245 st_M_isNode d_M_cell_6 (x_M_isNode hw) rfl rfl ?_
  intro x4 h3 hw
  refine xw_if_eq (tgt := 21) d_M_cell_9 (by decide) (fun c23 => ?_) (fun c23 => ?_)
  · have hw := hw.1 c23
    refine xw_iconst (v := -1) d_M_cell_21 (by decide) ?_
    exact xw_ireturn rfl d_M_cell_22 hw
  · have hw := hw.2 c23
    refine xw_iload_n d_M_cell_12 rfl rfl ?_
    refine xw_iconst (v := 0) d_M_cell_13 (by decide) ?_
    refine xw_iconst (v := 3) d_M_cell_14 (by decide) ?_
    refine xc_S3i lk_M_107 st_M_in d_M_cell_15 (x_M_in hw) rfl rfl ?_
    intro x6 h5 hw
    refine xw_if_ne (tgt := 23) d_M_cell_18 (by decide) (fun c22 => ?_) (fun c22 => ?_)
    · have hw := hw.1 c22
      refine xw_iconst (v := 4) d_M_cell_23 (by decide) ?_
      refine xw_iload_n d_M_cell_24 rfl rfl ?_
      refine xw_imul d_M_cell_25 ?_
      refine xw_iload_n d_M_cell_26 rfl rfl ?_
      refine xw_iadd d_M_cell_27 ?_
      refine xs_istore (lv' := [some (.ref (this)), some (.int (p1)), some (.int (p2)), some (.int (p3)), some (.int ((4 * p1) + p2))]) d_M_cell_28 rfl rfl ?_
      refine xw_iload_n d_M_cell_30 rfl rfl ?_
      refine xw_if_ne (tgt := 44) d_M_cell_31 (by decide) (fun c21 => ?_) (fun c21 => ?_)
      · have hw := hw.1 c21
        refine xw_iload_n d_M_cell_44 rfl rfl ?_
        refine xw_iconst (v := 1) d_M_cell_45 (by decide) ?_
        refine xw_icmp_ne (tgt := 59) d_M_cell_46 (by decide) (fun c16 => ?_) (fun c16 => ?_)
        · have hw := hw.1 c16
          refine xw_iload_n d_M_cell_59 rfl rfl ?_
          refine xw_iconst (v := 2) d_M_cell_60 (by decide) ?_
          refine xw_icmp_ne (tgt := 74) d_M_cell_61 (by decide) (fun c11 => ?_) (fun c11 => ?_)
          · have hw := hw.1 c11
            refine xw_iconst (v := -1) d_M_cell_74 (by decide) ?_
            exact xw_ireturn rfl d_M_cell_75 hw
          · have hw := hw.2 c11
            refine xw_aload_n d_M_cell_64 rfl rfl ?_
            obtain ⟨f7, a8, hA, hB, hw⟩ := hw
            refine xw_getr fr_M_31 d_M_cell_65 hA hB ?_
            refine xw_iload d_M_cell_68 rfl ?_
            obtain ⟨ar10, x9, hA, hB, hC, hw⟩ := hw
            refine xw_iaload (t := 0) rfl d_M_cell_70 hA hB hC ?_
            refine xw_goto (tgt := 75) d_M_cell_71 (by decide) ?_
            exact xw_ireturn rfl d_M_cell_75 hw
        · have hw := hw.2 c16
          refine xw_aload_n d_M_cell_49 rfl rfl ?_
          obtain ⟨f12, a13, hA, hB, hw⟩ := hw
          refine xw_getr fr_M_28 d_M_cell_50 hA hB ?_
          refine xw_iload d_M_cell_53 rfl ?_
          obtain ⟨ar15, x14, hA, hB, hC, hw⟩ := hw
          refine xw_iaload (t := 0) rfl d_M_cell_55 hA hB hC ?_
          refine xw_goto (tgt := 75) d_M_cell_56 (by decide) ?_
          exact xw_ireturn rfl d_M_cell_75 hw
      · have hw := hw.2 c21
        refine xw_aload_n d_M_cell_34 rfl rfl ?_
        obtain ⟨f17, a18, hA, hB, hw⟩ := hw
        refine xw_getr fr_M_25 d_M_cell_35 hA hB ?_
        refine xw_iload d_M_cell_38 rfl ?_
        obtain ⟨ar20, x19, hA, hB, hC, hw⟩ := hw
        refine xw_iaload (t := 0) rfl d_M_cell_40 hA hB hC ?_
        refine xw_goto (tgt := 75) d_M_cell_41 (by decide) ?_
        exact xw_ireturn rfl d_M_cell_75 hw
    · have hw := hw.2 c22
      refine xw_iconst (v := -1) d_M_cell_21 (by decide) ?_
      exact xw_ireturn rfl d_M_cell_22 hw
set_option maxRecDepth 100000 in
def w_M_map (Q : Option Value → xH → Prop) (this : Nat) (p1 : Int32) (p2 : Int32) (p3 : Int32) (h : xH) : Prop := ∃ f1, h.2 this = some (.inr (8, f1)) ∧ 0 < f1.length ∧ ∀ h2, h2 = xu h this (.inr (8, f1.set 0 (.int (0)))) → w_M_isNode (fun v h3 => ∃ (x4 : Int32), v = some (.int x4) ∧ ((x4 = 0 → Q (some (.int (-1))) h3) ∧ (¬ x4 = 0 → w_M_in (fun v h5 => ∃ (x6 : Int32), v = some (.int x6) ∧ ((¬ x6 = 0 → ((p3 = 0 → ∃ (f8 : List Value) (a9 : Nat), h5.2 this = some (.inr (8, f8)) ∧ f8[9]? = some (.ref a9) ∧ ∃ (ar11 : List Int32) (x10 : Int32), h5.2 a9 = some (.inl (0, .inl ar11)) ∧ 0 ≤ ((16 * p1) + p2 : Int32) ∧ ar11[((16 * p1) + p2 : Int32).toNatClampNeg]? = some x10 ∧ Q (some (.int x10)) h5) ∧ (p3 = 1 → ∃ (f13 : List Value) (a14 : Nat), h5.2 this = some (.inr (8, f13)) ∧ f13[10]? = some (.ref a14) ∧ ∃ (ar16 : List Int32) (x15 : Int32), h5.2 a14 = some (.inl (0, .inl ar16)) ∧ 0 ≤ ((16 * p1) + p2 : Int32) ∧ ar16[((16 * p1) + p2 : Int32).toNatClampNeg]? = some x15 ∧ Q (some (.int x15)) h5) ∧ (p3 = 2 → ∃ (f18 : List Value) (a19 : Nat), h5.2 this = some (.inr (8, f18)) ∧ f18[11]? = some (.ref a19) ∧ ∃ (ar21 : List Int32) (x20 : Int32), h5.2 a19 = some (.inl (0, .inl ar21)) ∧ 0 ≤ ((16 * p1) + p2 : Int32) ∧ ar21[((16 * p1) + p2 : Int32).toNatClampNeg]? = some x20 ∧ Q (some (.int x20)) h5) ∧ (p3 = 3 → ∃ (f23 : List Value) (a24 : Nat), h5.2 this = some (.inr (8, f23)) ∧ f23[12]? = some (.ref a24) ∧ ∃ (ar26 : List Int32) (x25 : Int32), h5.2 a24 = some (.inl (0, .inl ar26)) ∧ 0 ≤ ((16 * p1) + p2 : Int32) ∧ ar26[((16 * p1) + p2 : Int32).toNatClampNeg]? = some x25 ∧ Q (some (.int x25)) h5) ∧ (p3 = 4 → ∃ (f28 : List Value) (a29 : Nat), h5.2 this = some (.inr (8, f28)) ∧ f28[13]? = some (.ref a29) ∧ ∃ (ar31 : List Int32) (x30 : Int32), h5.2 a29 = some (.inl (0, .inl ar31)) ∧ 0 ≤ ((16 * p1) + p2 : Int32) ∧ ar31[((16 * p1) + p2 : Int32).toNatClampNeg]? = some x30 ∧ Q (some (.int x30)) h5) ∧ (¬ p3 = 0 → ¬ p3 = 1 → ¬ p3 = 2 → ¬ p3 = 3 → ¬ p3 = 4 → Q (some (.int (-1))) h5))) ∧ (x6 = 0 → Q (some (.int (-1))) h5))) p2 0 15 h3))) p1 h2
set_option maxRecDepth 100000 in
set_option maxHeartbeats 4000000 in
theorem x_M_map {sc : List Int32} {Q : Option Value → xH → Prop} {this : Nat} {p1 : Int32} {p2 : Int32} {p3 : Int32} {h : xH} (hw : w_M_map Q this p1 p2 p3 h) : xMet sc m_M_map 2 0 0 [.ref (this), .int (p1), .int (p2), .int (p3)] h Q := by
  unfold w_M_map at hw
  refine xMet.of2 cw_M_map rfl rfl ?_
  show xW sc m_M_map 2 0 0 0 [some (.ref (this)), some (.int (p1)), some (.int (p2)), some (.int (p3)), none] [] h Q
  refine xw_aload_n d_M_map_0 rfl rfl ?_
  refine xw_iconst (v := 0) d_M_map_1 (by decide) ?_
  obtain ⟨f1, hA, hB, hw⟩ := hw
  refine xw_puti fs_M_103 d_M_map_2 hA hB ?_
  generalize hh : xu h this (.inr (8, f1.set 0 (.int (0)))) = h2
  have hw := hw h2 hh.symm
  refine xw_iload_n d_M_map_5 rfl rfl ?_
  refine xc_S1i lk_M_245 st_M_isNode d_M_map_6 (x_M_isNode hw) rfl rfl ?_
  intro x4 h3 hw
  refine xw_if_eq (tgt := 22) d_M_map_9 (by decide) (fun c34 => ?_) (fun c34 => ?_)
  · have hw := hw.1 c34
    refine xw_iconst (v := -1) d_M_map_22 (by decide) ?_
    exact xw_ireturn rfl d_M_map_23 hw
  · have hw := hw.2 c34
    refine xw_iload_n d_M_map_12 rfl rfl ?_
    refine xw_iconst (v := 0) d_M_map_13 (by decide) ?_
    refine xw_bipush (v := 15) d_M_map_14 (by decide) ?_
    refine xc_S3i lk_M_107 st_M_in d_M_map_16 (x_M_in hw) rfl rfl ?_
    intro x6 h5 hw
    refine xw_if_ne (tgt := 24) d_M_map_19 (by decide) (fun c33 => ?_) (fun c33 => ?_)
    · have hw := hw.1 c33
      refine xw_bipush (v := 16) d_M_map_24 (by decide) ?_
      refine xw_iload_n d_M_map_26 rfl rfl ?_
      refine xw_imul d_M_map_27 ?_
      refine xw_iload_n d_M_map_28 rfl rfl ?_
      refine xw_iadd d_M_map_29 ?_
      refine xs_istore (lv' := [some (.ref (this)), some (.int (p1)), some (.int (p2)), some (.int (p3)), some (.int ((16 * p1) + p2))]) d_M_map_30 rfl rfl ?_
      refine xw_iload_n d_M_map_32 rfl rfl ?_
      by_cases c12 : p3 = 0
      · have hw := hw.1 c12
        rw [c12]
        refine xw_tableIn (tgt := 68) (off := 35) d_M_map_33 (by decide) (by decide) (by decide +kernel) (by decide) ?_
        refine xw_aload_n d_M_map_68 rfl rfl ?_
        obtain ⟨f8, a9, hA, hB, hw⟩ := hw
        refine xw_getr fr_M_34 d_M_map_69 hA hB ?_
        refine xw_iload d_M_map_72 rfl ?_
        obtain ⟨ar11, x10, hA, hB, hC, hw⟩ := hw
        refine xw_iaload (t := 0) rfl d_M_map_74 hA hB hC ?_
        exact xw_ireturn rfl d_M_map_75 hw
      by_cases c17 : p3 = 1
      · have hw := hw.2.1 c17
        rw [c17]
        refine xw_tableIn (tgt := 76) (off := 43) d_M_map_33 (by decide) (by decide) (by decide +kernel) (by decide) ?_
        refine xw_aload_n d_M_map_76 rfl rfl ?_
        obtain ⟨f13, a14, hA, hB, hw⟩ := hw
        refine xw_getr fr_M_37 d_M_map_77 hA hB ?_
        refine xw_iload d_M_map_80 rfl ?_
        obtain ⟨ar16, x15, hA, hB, hC, hw⟩ := hw
        refine xw_iaload (t := 0) rfl d_M_map_82 hA hB hC ?_
        exact xw_ireturn rfl d_M_map_83 hw
      by_cases c22 : p3 = 2
      · have hw := hw.2.2.1 c22
        rw [c22]
        refine xw_tableIn (tgt := 84) (off := 51) d_M_map_33 (by decide) (by decide) (by decide +kernel) (by decide) ?_
        refine xw_aload_n d_M_map_84 rfl rfl ?_
        obtain ⟨f18, a19, hA, hB, hw⟩ := hw
        refine xw_getr fr_M_40 d_M_map_85 hA hB ?_
        refine xw_iload d_M_map_88 rfl ?_
        obtain ⟨ar21, x20, hA, hB, hC, hw⟩ := hw
        refine xw_iaload (t := 0) rfl d_M_map_90 hA hB hC ?_
        exact xw_ireturn rfl d_M_map_91 hw
      by_cases c27 : p3 = 3
      · have hw := hw.2.2.2.1 c27
        rw [c27]
        refine xw_tableIn (tgt := 92) (off := 59) d_M_map_33 (by decide) (by decide) (by decide +kernel) (by decide) ?_
        refine xw_aload_n d_M_map_92 rfl rfl ?_
        obtain ⟨f23, a24, hA, hB, hw⟩ := hw
        refine xw_getr fr_M_43 d_M_map_93 hA hB ?_
        refine xw_iload d_M_map_96 rfl ?_
        obtain ⟨ar26, x25, hA, hB, hC, hw⟩ := hw
        refine xw_iaload (t := 0) rfl d_M_map_98 hA hB hC ?_
        exact xw_ireturn rfl d_M_map_99 hw
      by_cases c32 : p3 = 4
      · have hw := hw.2.2.2.2.1 c32
        rw [c32]
        refine xw_tableIn (tgt := 100) (off := 67) d_M_map_33 (by decide) (by decide) (by decide +kernel) (by decide) ?_
        refine xw_aload_n d_M_map_100 rfl rfl ?_
        obtain ⟨f28, a29, hA, hB, hw⟩ := hw
        refine xw_getr fr_M_46 d_M_map_101 hA hB ?_
        refine xw_iload d_M_map_104 rfl ?_
        obtain ⟨ar31, x30, hA, hB, hC, hw⟩ := hw
        refine xw_iaload (t := 0) rfl d_M_map_106 hA hB hC ?_
        exact xw_ireturn rfl d_M_map_107 hw
      have hw := hw.2.2.2.2.2 c12 c17 c22 c27 c32
      have ec12 := lv_neT c12 (a := 0) (by decide)
      have ec17 := lv_neT c17 (a := 1) (by decide)
      have ec22 := lv_neT c22 (a := 2) (by decide)
      have ec27 := lv_neT c27 (a := 3) (by decide)
      have ec32 := lv_neT c32 (a := 4) (by decide)
      refine xw_tableOut (tgt := 108) d_M_map_33 (by omega) (by decide) ?_
      refine xw_iconst (v := -1) d_M_map_108 (by decide) ?_
      exact xw_ireturn rfl d_M_map_109 hw
    · have hw := hw.2 c33
      refine xw_iconst (v := -1) d_M_map_22 (by decide) ?_
      exact xw_ireturn rfl d_M_map_23 hw
set_option maxRecDepth 100000 in
def w_M_task_52 (Q : Option Value → xH → Prop) (l0 : Nat) (l1 : Int32) (l2 : Int32) (s0 : Int32) (s1 : Int32) (h : xH) : Prop := ((l2 = 0 → ∃ (f2 : List Value) (a3 : Nat), h.2 l0 = some (.inr (8, f2)) ∧ f2[15]? = some (.ref a3) ∧ ∃ (ar5 : List Int32) (x4 : Int32), h.2 a3 = some (.inl (0, .inl ar5)) ∧ 0 ≤ l1 ∧ ar5[l1.toNatClampNeg]? = some x4 ∧ Q (some (.int x4)) h) ∧ (l2 = 1 → ∃ (f7 : List Value) (a8 : Nat), h.2 l0 = some (.inr (8, f7)) ∧ f7[16]? = some (.ref a8) ∧ ∃ (ar10 : List Int32) (x9 : Int32), h.2 a8 = some (.inl (0, .inl ar10)) ∧ 0 ≤ l1 ∧ ar10[l1.toNatClampNeg]? = some x9 ∧ Q (some (.int x9)) h) ∧ (l2 = 2 → ∃ (f12 : List Value) (a13 : Nat), h.2 l0 = some (.inr (8, f12)) ∧ f12[17]? = some (.ref a13) ∧ ∃ (ar15 : List Int32) (x14 : Int32), h.2 a13 = some (.inl (0, .inl ar15)) ∧ 0 ≤ l1 ∧ ar15[l1.toNatClampNeg]? = some x14 ∧ Q (some (.int x14)) h) ∧ (l2 = 3 → ∃ (f17 : List Value) (a18 : Nat), h.2 l0 = some (.inr (8, f17)) ∧ f17[18]? = some (.ref a18) ∧ ∃ (ar20 : List Int32) (x19 : Int32), h.2 a18 = some (.inl (0, .inl ar20)) ∧ 0 ≤ l1 ∧ ar20[l1.toNatClampNeg]? = some x19 ∧ Q (some (.int x19)) h) ∧ (l2 = 4 → ∃ (f22 : List Value) (a23 : Nat), h.2 l0 = some (.inr (8, f22)) ∧ f22[17]? = some (.ref a23) ∧ ∃ (ar30 : List Int32) (x24 : Int32), h.2 a23 = some (.inl (0, .inl ar30)) ∧ 0 ≤ l1 ∧ ar30[l1.toNatClampNeg]? = some x24 ∧ ((¬ x24 = 0 → Q (some (.int 0)) h) ∧ (x24 = 0 → ∃ (f25 : List Value) (a26 : Nat), h.2 l0 = some (.inr (8, f25)) ∧ f25[19]? = some (.ref a26) ∧ ∃ (ar28 : List Int32) (x27 : Int32), h.2 a26 = some (.inl (0, .inl ar28)) ∧ 0 ≤ l1 ∧ ar28[l1.toNatClampNeg]? = some x27 ∧ Q (some (.int x27)) h))) ∧ (l2 = 5 → ∃ (f32 : List Value) (a33 : Nat), h.2 l0 = some (.inr (8, f32)) ∧ f32[20]? = some (.ref a33) ∧ ∃ (ar35 : List Int32) (x34 : Int32), h.2 a33 = some (.inl (0, .inl ar35)) ∧ 0 ≤ l1 ∧ ar35[l1.toNatClampNeg]? = some x34 ∧ Q (some (.int x34)) h) ∧ (l2 = 6 → ∃ (f37 : List Value) (a38 : Nat), h.2 l0 = some (.inr (8, f37)) ∧ f37[21]? = some (.ref a38) ∧ ∃ (ar40 : List Int32) (x39 : Int32), h.2 a38 = some (.inl (0, .inl ar40)) ∧ 0 ≤ l1 ∧ ar40[l1.toNatClampNeg]? = some x39 ∧ Q (some (.int x39)) h) ∧ (l2 = 7 → (∃ f43, h.2 l0 = some (.inr (8, f43))) ∧ w_M_isData (fun v h42 => ∃ (x44 : Int32), v = some (.int x44) ∧ ((x44 = 0 → Q (some (.int 0)) h42) ∧ (¬ x44 = 0 → ∃ (f45 : List Value) (a46 : Nat), h42.2 l0 = some (.inr (8, f45)) ∧ f45[28]? = some (.ref a46) ∧ ∃ (ar48 : List Int32) (x47 : Int32), h42.2 a46 = some (.inl (0, .inl ar48)) ∧ 0 ≤ (s1 + s0 : Int32) ∧ ar48[(s1 + s0 : Int32).toNatClampNeg]? = some x47 ∧ Q (some (.int x47)) h42))) l0 l1 h) ∧ (l2 = 8 → (∃ f52, h.2 l0 = some (.inr (8, f52))) ∧ w_M_isData (fun v h51 => ∃ (x53 : Int32), v = some (.int x53) ∧ ((x53 = 0 → Q (some (.int 0)) h51) ∧ (¬ x53 = 0 → ∃ (f54 : List Value) (a55 : Nat), h51.2 l0 = some (.inr (8, f54)) ∧ f54[29]? = some (.ref a55) ∧ ∃ (ar57 : List Int32) (x56 : Int32), h51.2 a55 = some (.inl (0, .inl ar57)) ∧ 0 ≤ (s1 + s0 : Int32) ∧ ar57[(s1 + s0 : Int32).toNatClampNeg]? = some x56 ∧ Q (some (.int x56)) h51))) l0 l1 h) ∧ (l2 = 9 → ∃ (f60 : List Value) (a61 : Nat), h.2 l0 = some (.inr (8, f60)) ∧ f60[16]? = some (.ref a61) ∧ ∃ (ar68 : List Int32) (x62 : Int32), h.2 a61 = some (.inl (0, .inl ar68)) ∧ 0 ≤ l1 ∧ ar68[l1.toNatClampNeg]? = some x62 ∧ ((¬ x62 = 3 → Q (some (.int 0)) h) ∧ (x62 = 3 → ∃ (f63 : List Value) (a64 : Nat), h.2 l0 = some (.inr (8, f63)) ∧ f63[24]? = some (.ref a64) ∧ ∃ (ar66 : List Int32) (x65 : Int32), h.2 a64 = some (.inl (0, .inl ar66)) ∧ 0 ≤ l1 ∧ ar66[l1.toNatClampNeg]? = some x65 ∧ Q (some (.int x65)) h))) ∧ (¬ l2 = 0 → ¬ l2 = 1 → ¬ l2 = 2 → ¬ l2 = 3 → ¬ l2 = 4 → ¬ l2 = 5 → ¬ l2 = 6 → ¬ l2 = 7 → ¬ l2 = 8 → ¬ l2 = 9 → Q (some (.int (-1))) h))
set_option maxRecDepth 100000 in
set_option maxHeartbeats 4000000 in
theorem p_M_task_52 {sc : List Int32} {Q : Option Value → xH → Prop} (l0 : Nat) (l1 : Int32) (l2 : Int32) (s0 : Int32) (s1 : Int32) (h : xH) (hw : w_M_task_52 Q l0 l1 l2 s0 s1 h) : xW sc m_M_task 2 0 0 52 [some (.ref (l0)), some (.int (l1)), some (.int (l2)), none] [.int (s0), .int (s1)] h Q := by
  unfold w_M_task_52 at hw
  refine xw_iadd d_M_task_52 ?_
  refine xs_istore_n (lv' := [some (.ref (l0)), some (.int (l1)), some (.int (l2)), some (.int (s1 + s0))]) d_M_task_53 rfl rfl rfl ?_
  refine xw_iload_n d_M_task_54 rfl rfl ?_
  by_cases c6 : l2 = 0
  · have hw := hw.1 c6
    rw [c6]
    refine xw_tableIn (tgt := 108) (off := 53) d_M_task_55 (by decide) (by decide) (by decide +kernel) (by decide) ?_
    refine xw_aload_n d_M_task_108 rfl rfl ?_
    obtain ⟨f2, a3, hA, hB, hw⟩ := hw
    refine xw_getr fr_M_49 d_M_task_109 hA hB ?_
    refine xw_iload_n d_M_task_112 rfl rfl ?_
    obtain ⟨ar5, x4, hA, hB, hC, hw⟩ := hw
    refine xw_iaload (t := 0) rfl d_M_task_113 hA hB hC ?_
    exact xw_ireturn rfl d_M_task_114 hw
  by_cases c11 : l2 = 1
  · have hw := hw.2.1 c11
    rw [c11]
    refine xw_tableIn (tgt := 115) (off := 60) d_M_task_55 (by decide) (by decide) (by decide +kernel) (by decide) ?_
    refine xw_aload_n d_M_task_115 rfl rfl ?_
    obtain ⟨f7, a8, hA, hB, hw⟩ := hw
    refine xw_getr fr_M_52 d_M_task_116 hA hB ?_
    refine xw_iload_n d_M_task_119 rfl rfl ?_
    obtain ⟨ar10, x9, hA, hB, hC, hw⟩ := hw
    refine xw_iaload (t := 0) rfl d_M_task_120 hA hB hC ?_
    exact xw_ireturn rfl d_M_task_121 hw
  by_cases c16 : l2 = 2
  · have hw := hw.2.2.1 c16
    rw [c16]
    refine xw_tableIn (tgt := 122) (off := 67) d_M_task_55 (by decide) (by decide) (by decide +kernel) (by decide) ?_
    refine xw_aload_n d_M_task_122 rfl rfl ?_
    obtain ⟨f12, a13, hA, hB, hw⟩ := hw
    refine xw_getr fr_M_55 d_M_task_123 hA hB ?_
    refine xw_iload_n d_M_task_126 rfl rfl ?_
    obtain ⟨ar15, x14, hA, hB, hC, hw⟩ := hw
    refine xw_iaload (t := 0) rfl d_M_task_127 hA hB hC ?_
    exact xw_ireturn rfl d_M_task_128 hw
  by_cases c21 : l2 = 3
  · have hw := hw.2.2.2.1 c21
    rw [c21]
    refine xw_tableIn (tgt := 129) (off := 74) d_M_task_55 (by decide) (by decide) (by decide +kernel) (by decide) ?_
    refine xw_aload_n d_M_task_129 rfl rfl ?_
    obtain ⟨f17, a18, hA, hB, hw⟩ := hw
    refine xw_getr fr_M_58 d_M_task_130 hA hB ?_
    refine xw_iload_n d_M_task_133 rfl rfl ?_
    obtain ⟨ar20, x19, hA, hB, hC, hw⟩ := hw
    refine xw_iaload (t := 0) rfl d_M_task_134 hA hB hC ?_
    exact xw_ireturn rfl d_M_task_135 hw
  by_cases c31 : l2 = 4
  · have hw := hw.2.2.2.2.1 c31
    rw [c31]
    refine xw_tableIn (tgt := 136) (off := 81) d_M_task_55 (by decide) (by decide) (by decide +kernel) (by decide) ?_
    refine xw_aload_n d_M_task_136 rfl rfl ?_
    obtain ⟨f22, a23, hA, hB, hw⟩ := hw
    refine xw_getr fr_M_55 d_M_task_137 hA hB ?_
    refine xw_iload_n d_M_task_140 rfl rfl ?_
    obtain ⟨ar30, x24, hA, hB, hC, hw⟩ := hw
    refine xw_iaload (t := 0) rfl d_M_task_141 hA hB hC ?_
    refine xw_if_ne (tgt := 154) d_M_task_142 (by decide) (fun c29 => ?_) (fun c29 => ?_)
    · have hw := hw.1 c29
      refine xw_iconst (v := 0) d_M_task_154 (by decide) ?_
      exact xw_ireturn rfl d_M_task_155 hw
    · have hw := hw.2 c29
      refine xw_aload_n d_M_task_145 rfl rfl ?_
      obtain ⟨f25, a26, hA, hB, hw⟩ := hw
      refine xw_getr fr_M_61 d_M_task_146 hA hB ?_
      refine xw_iload_n d_M_task_149 rfl rfl ?_
      obtain ⟨ar28, x27, hA, hB, hC, hw⟩ := hw
      refine xw_iaload (t := 0) rfl d_M_task_150 hA hB hC ?_
      refine xw_goto (tgt := 155) d_M_task_151 (by decide) ?_
      exact xw_ireturn rfl d_M_task_155 hw
  by_cases c36 : l2 = 5
  · have hw := hw.2.2.2.2.2.1 c36
    rw [c36]
    refine xw_tableIn (tgt := 156) (off := 101) d_M_task_55 (by decide) (by decide) (by decide +kernel) (by decide) ?_
    refine xw_aload_n d_M_task_156 rfl rfl ?_
    obtain ⟨f32, a33, hA, hB, hw⟩ := hw
    refine xw_getr fr_M_64 d_M_task_157 hA hB ?_
    refine xw_iload_n d_M_task_160 rfl rfl ?_
    obtain ⟨ar35, x34, hA, hB, hC, hw⟩ := hw
    refine xw_iaload (t := 0) rfl d_M_task_161 hA hB hC ?_
    exact xw_ireturn rfl d_M_task_162 hw
  by_cases c41 : l2 = 6
  · have hw := hw.2.2.2.2.2.2.1 c41
    rw [c41]
    refine xw_tableIn (tgt := 163) (off := 108) d_M_task_55 (by decide) (by decide) (by decide +kernel) (by decide) ?_
    refine xw_aload_n d_M_task_163 rfl rfl ?_
    obtain ⟨f37, a38, hA, hB, hw⟩ := hw
    refine xw_getr fr_M_67 d_M_task_164 hA hB ?_
    refine xw_iload_n d_M_task_167 rfl rfl ?_
    obtain ⟨ar40, x39, hA, hB, hC, hw⟩ := hw
    refine xw_iaload (t := 0) rfl d_M_task_168 hA hB hC ?_
    exact xw_ireturn rfl d_M_task_169 hw
  by_cases c50 : l2 = 7
  · have hw := hw.2.2.2.2.2.2.2.1 c50
    rw [c50]
    refine xw_tableIn (tgt := 170) (off := 115) d_M_task_55 (by decide) (by decide) (by decide +kernel) (by decide) ?_
    refine xw_aload_n d_M_task_170 rfl rfl ?_
    refine xw_iload_n d_M_task_171 rfl rfl ?_
    obtain ⟨⟨f43, hA⟩, hw⟩ := hw
    refine xc_V1i lk_M_135 in_M_isData d_M_task_172 (x_M_isData hw) rfl hA rfl ?_
    intro x44 h42 hw
    refine xw_if_eq (tgt := 187) d_M_task_175 (by decide) (fun c49 => ?_) (fun c49 => ?_)
    · have hw := hw.1 c49
      refine xw_iconst (v := 0) d_M_task_187 (by decide) ?_
      exact xw_ireturn rfl d_M_task_188 hw
    · have hw := hw.2 c49
      refine xw_aload_n d_M_task_178 rfl rfl ?_
      obtain ⟨f45, a46, hA, hB, hw⟩ := hw
      refine xw_getr fr_M_88 d_M_task_179 hA hB ?_
      refine xw_iload_n d_M_task_182 rfl rfl ?_
      obtain ⟨ar48, x47, hA, hB, hC, hw⟩ := hw
      refine xw_iaload (t := 0) rfl d_M_task_183 hA hB hC ?_
      refine xw_goto (tgt := 188) d_M_task_184 (by decide) ?_
      exact xw_ireturn rfl d_M_task_188 hw
  by_cases c59 : l2 = 8
  · have hw := hw.2.2.2.2.2.2.2.2.1 c59
    rw [c59]
    refine xw_tableIn (tgt := 189) (off := 134) d_M_task_55 (by decide) (by decide) (by decide +kernel) (by decide) ?_
    refine xw_aload_n d_M_task_189 rfl rfl ?_
    refine xw_iload_n d_M_task_190 rfl rfl ?_
    obtain ⟨⟨f52, hA⟩, hw⟩ := hw
    refine xc_V1i lk_M_135 in_M_isData d_M_task_191 (x_M_isData hw) rfl hA rfl ?_
    intro x53 h51 hw
    refine xw_if_eq (tgt := 206) d_M_task_194 (by decide) (fun c58 => ?_) (fun c58 => ?_)
    · have hw := hw.1 c58
      refine xw_iconst (v := 0) d_M_task_206 (by decide) ?_
      exact xw_ireturn rfl d_M_task_207 hw
    · have hw := hw.2 c58
      refine xw_aload_n d_M_task_197 rfl rfl ?_
      obtain ⟨f54, a55, hA, hB, hw⟩ := hw
      refine xw_getr fr_M_91 d_M_task_198 hA hB ?_
      refine xw_iload_n d_M_task_201 rfl rfl ?_
      obtain ⟨ar57, x56, hA, hB, hC, hw⟩ := hw
      refine xw_iaload (t := 0) rfl d_M_task_202 hA hB hC ?_
      refine xw_goto (tgt := 207) d_M_task_203 (by decide) ?_
      exact xw_ireturn rfl d_M_task_207 hw
  by_cases c69 : l2 = 9
  · have hw := hw.2.2.2.2.2.2.2.2.2.1 c69
    rw [c69]
    refine xw_tableIn (tgt := 208) (off := 153) d_M_task_55 (by decide) (by decide) (by decide +kernel) (by decide) ?_
    refine xw_aload_n d_M_task_208 rfl rfl ?_
    obtain ⟨f60, a61, hA, hB, hw⟩ := hw
    refine xw_getr fr_M_52 d_M_task_209 hA hB ?_
    refine xw_iload_n d_M_task_212 rfl rfl ?_
    obtain ⟨ar68, x62, hA, hB, hC, hw⟩ := hw
    refine xw_iaload (t := 0) rfl d_M_task_213 hA hB hC ?_
    refine xw_iconst (v := 3) d_M_task_214 (by decide) ?_
    refine xw_icmp_ne (tgt := 227) d_M_task_215 (by decide) (fun c67 => ?_) (fun c67 => ?_)
    · have hw := hw.1 c67
      refine xw_iconst (v := 0) d_M_task_227 (by decide) ?_
      exact xw_ireturn rfl d_M_task_228 hw
    · have hw := hw.2 c67
      refine xw_aload_n d_M_task_218 rfl rfl ?_
      obtain ⟨f63, a64, hA, hB, hw⟩ := hw
      refine xw_getr fr_M_76 d_M_task_219 hA hB ?_
      refine xw_iload_n d_M_task_222 rfl rfl ?_
      obtain ⟨ar66, x65, hA, hB, hC, hw⟩ := hw
      refine xw_iaload (t := 0) rfl d_M_task_223 hA hB hC ?_
      refine xw_goto (tgt := 228) d_M_task_224 (by decide) ?_
      exact xw_ireturn rfl d_M_task_228 hw
  have hw := hw.2.2.2.2.2.2.2.2.2.2 c6 c11 c16 c21 c31 c36 c41 c50 c59 c69
  have ec6 := lv_neT c6 (a := 0) (by decide)
  have ec11 := lv_neT c11 (a := 1) (by decide)
  have ec16 := lv_neT c16 (a := 2) (by decide)
  have ec21 := lv_neT c21 (a := 3) (by decide)
  have ec31 := lv_neT c31 (a := 4) (by decide)
  have ec36 := lv_neT c36 (a := 5) (by decide)
  have ec41 := lv_neT c41 (a := 6) (by decide)
  have ec50 := lv_neT c50 (a := 7) (by decide)
  have ec59 := lv_neT c59 (a := 8) (by decide)
  have ec69 := lv_neT c69 (a := 9) (by decide)
  refine xw_tableOut (tgt := 229) d_M_task_55 (by omega) (by decide) ?_
  refine xw_iconst (v := -1) d_M_task_229 (by decide) ?_
  exact xw_ireturn rfl d_M_task_230 hw
set_option maxRecDepth 100000 in
def w_M_task (Q : Option Value → xH → Prop) (this : Nat) (p1 : Int32) (p2 : Int32) (h : xH) : Prop := ∃ f1, h.2 this = some (.inr (8, f1)) ∧ 0 < f1.length ∧ ∀ h2, h2 = xu h this (.inr (8, f1.set 0 (.int (0)))) → w_M_isNode (fun v h3 => ∃ (x4 : Int32), v = some (.int x4) ∧ ((x4 = 0 → Q (some (.int (-1))) h3) ∧ (¬ x4 = 0 → (∃ f6, h3.2 this = some (.inr (8, f6))) ∧ w_M_isUp (fun v h5 => ∃ (x7 : Int32), v = some (.int x7) ∧ ((x7 = 0 → Q (some (.int (-1))) h5) ∧ (¬ x7 = 0 → ∃ (f8 : List Value) (a9 : Nat), h5.2 this = some (.inr (8, f8)) ∧ f8[15]? = some (.ref a9) ∧ ∃ (ar20 : List Int32) (x10 : Int32), h5.2 a9 = some (.inl (0, .inl ar20)) ∧ 0 ≤ p1 ∧ ar20[p1.toNatClampNeg]? = some x10 ∧ ((¬ x10 = 0 → (∃ f12, h5.2 this = some (.inr (8, f12))) ∧ w_M_isData (fun v h11 => ∃ (x13 : Int32), v = some (.int x13) ∧ ((x13 = 0 → w_M_task_52 Q (this) (p1) (p2) (0) (4 * p1) h11) ∧ (¬ x13 = 0 → ∃ (f14 : List Value) (a15 : Nat), h11.2 this = some (.inr (8, f14)) ∧ f14[18]? = some (.ref a15) ∧ ∃ (ar17 : List Int32) (x16 : Int32), h11.2 a15 = some (.inl (0, .inl ar17)) ∧ 0 ≤ p1 ∧ ar17[p1.toNatClampNeg]? = some x16 ∧ w_M_task_52 Q (this) (p1) (p2) (x16) (4 * p1) h11))) this p1 h5) ∧ (x10 = 0 → Q (some (.int (-1))) h5))))) this p1 h3))) p1 h2
set_option maxRecDepth 100000 in
set_option maxHeartbeats 4000000 in
theorem x_M_task {sc : List Int32} {Q : Option Value → xH → Prop} {this : Nat} {p1 : Int32} {p2 : Int32} {h : xH} (hw : w_M_task Q this p1 p2 h) : xMet sc m_M_task 2 0 0 [.ref (this), .int (p1), .int (p2)] h Q := by
  unfold w_M_task at hw
  refine xMet.of2 cw_M_task rfl rfl ?_
  show xW sc m_M_task 2 0 0 0 [some (.ref (this)), some (.int (p1)), some (.int (p2)), none] [] h Q
  refine xw_aload_n d_M_task_0 rfl rfl ?_
  refine xw_iconst (v := 0) d_M_task_1 (by decide) ?_
  obtain ⟨f1, hA, hB, hw⟩ := hw
  refine xw_puti fs_M_103 d_M_task_2 hA hB ?_
  generalize hh : xu h this (.inr (8, f1.set 0 (.int (0)))) = h2
  have hw := hw h2 hh.symm
  refine xw_iload_n d_M_task_5 rfl rfl ?_
  refine xc_S1i lk_M_245 st_M_isNode d_M_task_6 (x_M_isNode hw) rfl rfl ?_
  intro x4 h3 hw
  refine xw_if_eq (tgt := 29) d_M_task_9 (by decide) (fun c22 => ?_) (fun c22 => ?_)
  · have hw := hw.1 c22
    refine xw_iconst (v := -1) d_M_task_29 (by decide) ?_
    exact xw_ireturn rfl d_M_task_30 hw
  · have hw := hw.2 c22
    refine xw_aload_n d_M_task_12 rfl rfl ?_
    refine xw_iload_n d_M_task_13 rfl rfl ?_
    obtain ⟨⟨f6, hA⟩, hw⟩ := hw
    refine xc_V1i lk_M_111 in_M_isUp d_M_task_14 (x_M_isUp hw) rfl hA rfl ?_
    intro x7 h5 hw
    refine xw_if_eq (tgt := 29) d_M_task_17 (by decide) (fun c21 => ?_) (fun c21 => ?_)
    · have hw := hw.1 c21
      refine xw_iconst (v := -1) d_M_task_29 (by decide) ?_
      exact xw_ireturn rfl d_M_task_30 hw
    · have hw := hw.2 c21
      refine xw_aload_n d_M_task_20 rfl rfl ?_
      obtain ⟨f8, a9, hA, hB, hw⟩ := hw
      refine xw_getr fr_M_49 d_M_task_21 hA hB ?_
      refine xw_iload_n d_M_task_24 rfl rfl ?_
      obtain ⟨ar20, x10, hA, hB, hC, hw⟩ := hw
      refine xw_iaload (t := 0) rfl d_M_task_25 hA hB hC ?_
      refine xw_if_ne (tgt := 31) d_M_task_26 (by decide) (fun c19 => ?_) (fun c19 => ?_)
      · have hw := hw.1 c19
        refine xw_iconst (v := 4) d_M_task_31 (by decide) ?_
        refine xw_iload_n d_M_task_32 rfl rfl ?_
        refine xw_imul d_M_task_33 ?_
        refine xw_aload_n d_M_task_34 rfl rfl ?_
        refine xw_iload_n d_M_task_35 rfl rfl ?_
        obtain ⟨⟨f12, hA⟩, hw⟩ := hw
        refine xc_V1i lk_M_135 in_M_isData d_M_task_36 (x_M_isData hw) rfl hA rfl ?_
        intro x13 h11 hw
        refine xw_if_eq (tgt := 51) d_M_task_39 (by decide) (fun c18 => ?_) (fun c18 => ?_)
        · have hw := hw.1 c18
          refine xw_iconst (v := 0) d_M_task_51 (by decide) ?_
          exact p_M_task_52  (this) (p1) (p2) (0) (4 * p1) h11 hw
        · have hw := hw.2 c18
          refine xw_aload_n d_M_task_42 rfl rfl ?_
          obtain ⟨f14, a15, hA, hB, hw⟩ := hw
          refine xw_getr fr_M_58 d_M_task_43 hA hB ?_
          refine xw_iload_n d_M_task_46 rfl rfl ?_
          obtain ⟨ar17, x16, hA, hB, hC, hw⟩ := hw
          refine xw_iaload (t := 0) rfl d_M_task_47 hA hB hC ?_
          refine xw_goto (tgt := 52) d_M_task_48 (by decide) ?_
          exact p_M_task_52  (this) (p1) (p2) (x16) (4 * p1) h11 hw
      · have hw := hw.2 c19
        refine xw_iconst (v := -1) d_M_task_29 (by decide) ?_
        exact xw_ireturn rfl d_M_task_30 hw
set_option maxRecDepth 100000 in
def w_M_message_88 (Q : Option Value → xH → Prop) (L54 : Nat → Int32 → Int32 → Int32 → Int32 → xH → Prop) (l0 : Nat) (l1 : Int32) (l2 : Int32) (l3 : Int32) (l4 : Int32) (s0 : Int32) (h : xH) : Prop := L54 (l0) (l1) (l2) (s0) (l4 + 1) h
set_option maxRecDepth 100000 in
set_option maxHeartbeats 4000000 in
theorem p_M_message_88 {sc : List Int32} {Q : Option Value → xH → Prop} {L54 : Nat → Int32 → Int32 → Int32 → Int32 → xH → Prop} (hL54 : ∀ l0 l1 l2 l3 l4 h, L54 l0 l1 l2 l3 l4 h → xW sc m_M_message 1 0 0 54 [some (.ref (l0)), some (.int (l1)), some (.int (l2)), some (.int (l3)), some (.int (l4))] [] h Q) (l0 : Nat) (l1 : Int32) (l2 : Int32) (l3 : Int32) (l4 : Int32) (s0 : Int32) (h : xH) (hw : w_M_message_88 Q L54 l0 l1 l2 l3 l4 s0 h) : xW sc m_M_message 1 0 0 88 [some (.ref (l0)), some (.int (l1)), some (.int (l2)), some (.int (l3)), some (.int (l4))] [.int (s0)] h Q := by
  unfold w_M_message_88 at hw
  refine xs_istore_n (lv' := [some (.ref (l0)), some (.int (l1)), some (.int (l2)), some (.int (s0)), some (.int (l4))]) d_M_message_88 rfl rfl rfl ?_
  refine xs_iinc (v := l4 + 1) (lv' := [some (.ref (l0)), some (.int (l1)), some (.int (l2)), some (.int (s0)), some (.int (l4 + 1))]) d_M_message_89 rfl rfl rfl ?_
  refine xw_goto (tgt := 54) d_M_message_92 (by decide) ?_
  exact hL54 (l0) (l1) (l2) (s0) (l4 + 1) h hw
set_option maxRecDepth 100000 in
def w_M_message_54 (Q : Option Value → xH → Prop) : Nat → Nat → Int32 → Int32 → Int32 → Int32 → xH → Prop
  | 0, _, _, _, _, _, _ => False
  | n + 1, l0, l1, l2, l3, l4, h => ((16 ≤ l4 → Q (some (.int l3)) h) ∧ (¬ 16 ≤ l4 → ∃ (f1 : List Value) (a2 : Nat), h.2 l0 = some (.inr (8, f1)) ∧ f1[32]? = some (.ref a2) ∧ ∃ (ar5 : List Int32) (x3 : Int32), h.2 a2 = some (.inl (0, .inl ar5)) ∧ 0 ≤ (((53 * l1) + 9) + (2 * l4) : Int32) ∧ ar5[(((53 * l1) + 9) + (2 * l4) : Int32).toNatClampNeg]? = some x3 ∧ ((¬ x3 = 1 → w_M_message_88 Q (fun y0 y1 y2 y3 y4 yh => w_M_message_54 Q n y0 y1 y2 y3 y4 yh) (l0) (l1) (l2) (l3) (l4) (l3) h) ∧ (x3 = 1 → w_M_message_88 Q (fun y0 y1 y2 y3 y4 yh => w_M_message_54 Q n y0 y1 y2 y3 y4 yh) (l0) (l1) (l2) (l3) (l4) (l4) h))))
set_option maxRecDepth 100000 in
set_option maxHeartbeats 4000000 in
theorem p_M_message_54 {sc : List Int32} {Q : Option Value → xH → Prop} : ∀ (n : Nat) (l0 : Nat) (l1 : Int32) (l2 : Int32) (l3 : Int32) (l4 : Int32) (h : xH), w_M_message_54 Q n l0 l1 l2 l3 l4 h → xW sc m_M_message 1 0 0 54 [some (.ref (l0)), some (.int (l1)), some (.int (l2)), some (.int (l3)), some (.int (l4))] [] h Q := by
  intro n
  induction n with
  | zero => intro l0 l1 l2 l3 l4 h hw; exact False.elim hw
  | succ n ih =>
    intro l0 l1 l2 l3 l4 h hw
    rw [w_M_message_54] at hw
    refine xw_iload d_M_message_54 rfl ?_
    refine xw_bipush (v := 16) d_M_message_56 (by decide) ?_
    refine xw_icmp_ge (tgt := 95) d_M_message_58 (by decide) (fun c6 => ?_) (fun c6 => ?_)
    · have hw := hw.1 c6
      refine xw_iload_n d_M_message_95 rfl rfl ?_
      exact xw_ireturn rfl d_M_message_96 hw
    · have hw := hw.2 c6
      refine xw_aload_n d_M_message_61 rfl rfl ?_
      obtain ⟨f1, a2, hA, hB, hw⟩ := hw
      refine xw_getr fr_M_97 d_M_message_62 hA hB ?_
      refine xw_bipush (v := 53) d_M_message_65 (by decide) ?_
      refine xw_iload_n d_M_message_67 rfl rfl ?_
      refine xw_imul d_M_message_68 ?_
      refine xw_bipush (v := 9) d_M_message_69 (by decide) ?_
      refine xw_iadd d_M_message_71 ?_
      refine xw_iconst (v := 2) d_M_message_72 (by decide) ?_
      refine xw_iload d_M_message_73 rfl ?_
      refine xw_imul d_M_message_75 ?_
      refine xw_iadd d_M_message_76 ?_
      obtain ⟨ar5, x3, hA, hB, hC, hw⟩ := hw
      refine xw_iaload (t := 0) rfl d_M_message_77 hA hB hC ?_
      refine xw_iconst (v := 1) d_M_message_78 (by decide) ?_
      refine xw_icmp_ne (tgt := 87) d_M_message_79 (by decide) (fun c4 => ?_) (fun c4 => ?_)
      · have hw := hw.1 c4
        refine xw_iload_n d_M_message_87 rfl rfl ?_
        exact p_M_message_88 ih (l0) (l1) (l2) (l3) (l4) (l3) h hw
      · have hw := hw.2 c4
        refine xw_iload d_M_message_82 rfl ?_
        refine xw_goto (tgt := 88) d_M_message_84 (by decide) ?_
        exact p_M_message_88 ih (l0) (l1) (l2) (l3) (l4) (l4) h hw
set_option maxRecDepth 100000 in
def w_M_message (Q : Option Value → xH → Prop) (this : Nat) (p1 : Int32) (p2 : Int32) (h : xH) : Prop := ∃ f1, h.2 this = some (.inr (8, f1)) ∧ 0 < f1.length ∧ ∀ h2, h2 = xu h this (.inr (8, f1.set 0 (.int (0)))) → ∃ (f3 : List Value) (x4 : Int32), h2.2 this = some (.inr (8, f3)) ∧ f3[31]? = some (.int x4) ∧ w_M_in (fun v h5 => ∃ (x6 : Int32), v = some (.int x6) ∧ ((x6 = 0 → Q (some (.int (-1))) h5) ∧ (¬ x6 = 0 → w_M_in (fun v h7 => ∃ (x8 : Int32), v = some (.int x8) ∧ ((¬ x8 = 0 → ((9 ≤ p2 → ∃ n9, w_M_message_54 Q n9 (this) (p1) (p2) (-1) (0) h7) ∧ (¬ 9 ≤ p2 → ∃ (f10 : List Value) (a11 : Nat), h7.2 this = some (.inr (8, f10)) ∧ f10[32]? = some (.ref a11) ∧ ∃ (ar13 : List Int32) (x12 : Int32), h7.2 a11 = some (.inl (0, .inl ar13)) ∧ 0 ≤ ((53 * p1) + p2 : Int32) ∧ ar13[((53 * p1) + p2 : Int32).toNatClampNeg]? = some x12 ∧ Q (some (.int x12)) h7))) ∧ (x8 = 0 → Q (some (.int (-1))) h7))) p2 0 9 h5))) p1 0 (x4 - 1) h2
set_option maxRecDepth 100000 in
set_option maxHeartbeats 4000000 in
theorem x_M_message {sc : List Int32} {Q : Option Value → xH → Prop} {this : Nat} {p1 : Int32} {p2 : Int32} {h : xH} (hw : w_M_message Q this p1 p2 h) : xMet sc m_M_message 1 0 0 [.ref (this), .int (p1), .int (p2)] h Q := by
  unfold w_M_message at hw
  refine xMet.of2 cw_M_message rfl rfl ?_
  show xW sc m_M_message 1 0 0 0 [some (.ref (this)), some (.int (p1)), some (.int (p2)), none, none] [] h Q
  refine xw_aload_n d_M_message_0 rfl rfl ?_
  refine xw_iconst (v := 0) d_M_message_1 (by decide) ?_
  obtain ⟨f1, hA, hB, hw⟩ := hw
  refine xw_puti fs_M_103 d_M_message_2 hA hB ?_
  generalize hh : xu h this (.inr (8, f1.set 0 (.int (0)))) = h2
  have hw := hw h2 hh.symm
  refine xw_iload_n d_M_message_5 rfl rfl ?_
  refine xw_iconst (v := 0) d_M_message_6 (by decide) ?_
  refine xw_aload_n d_M_message_7 rfl rfl ?_
  obtain ⟨f3, x4, hA, hB, hw⟩ := hw
  refine xw_getr fr_M_129 d_M_message_8 hA hB ?_
  refine xw_iconst (v := 1) d_M_message_11 (by decide) ?_
  refine xw_isub d_M_message_12 ?_
  refine xc_S3i lk_M_107 st_M_in d_M_message_13 (x_M_in hw) rfl rfl ?_
  intro x6 h5 hw
  refine xw_if_eq (tgt := 29) d_M_message_16 (by decide) (fun c16 => ?_) (fun c16 => ?_)
  · have hw := hw.1 c16
    refine xw_iconst (v := -1) d_M_message_29 (by decide) ?_
    exact xw_ireturn rfl d_M_message_30 hw
  · have hw := hw.2 c16
    refine xw_iload_n d_M_message_19 rfl rfl ?_
    refine xw_iconst (v := 0) d_M_message_20 (by decide) ?_
    refine xw_bipush (v := 9) d_M_message_21 (by decide) ?_
    refine xc_S3i lk_M_107 st_M_in d_M_message_23 (x_M_in hw) rfl rfl ?_
    intro x8 h7 hw
    refine xw_if_ne (tgt := 31) d_M_message_26 (by decide) (fun c15 => ?_) (fun c15 => ?_)
    · have hw := hw.1 c15
      refine xw_iload_n d_M_message_31 rfl rfl ?_
      refine xw_bipush (v := 9) d_M_message_32 (by decide) ?_
      refine xw_icmp_ge (tgt := 49) d_M_message_34 (by decide) (fun c14 => ?_) (fun c14 => ?_)
      · have hw := hw.1 c14
        refine xw_iconst (v := -1) d_M_message_49 (by decide) ?_
        refine xs_istore_n (lv' := [some (.ref (this)), some (.int (p1)), some (.int (p2)), some (.int (-1)), none]) d_M_message_50 rfl rfl rfl ?_
        refine xw_iconst (v := 0) d_M_message_51 (by decide) ?_
        refine xs_istore (lv' := [some (.ref (this)), some (.int (p1)), some (.int (p2)), some (.int (-1)), some (.int (0))]) d_M_message_52 rfl rfl ?_
        obtain ⟨n9, hw⟩ := hw
        exact p_M_message_54  n9 (this) (p1) (p2) (-1) (0) h7 hw
      · have hw := hw.2 c14
        refine xw_aload_n d_M_message_37 rfl rfl ?_
        obtain ⟨f10, a11, hA, hB, hw⟩ := hw
        refine xw_getr fr_M_97 d_M_message_38 hA hB ?_
        refine xw_bipush (v := 53) d_M_message_41 (by decide) ?_
        refine xw_iload_n d_M_message_43 rfl rfl ?_
        refine xw_imul d_M_message_44 ?_
        refine xw_iload_n d_M_message_45 rfl rfl ?_
        refine xw_iadd d_M_message_46 ?_
        obtain ⟨ar13, x12, hA, hB, hC, hw⟩ := hw
        refine xw_iaload (t := 0) rfl d_M_message_47 hA hB hC ?_
        exact xw_ireturn rfl d_M_message_48 hw
    · have hw := hw.2 c15
      refine xw_iconst (v := -1) d_M_message_29 (by decide) ?_
      exact xw_ireturn rfl d_M_message_30 hw
set_option maxRecDepth 100000 in
def w_M_count_29 (Q : Option Value → xH → Prop) (L9 : Nat → Int32 → Int32 → Int32 → xH → Prop) (l0 : Nat) (l1 : Int32) (l2 : Int32) (l3 : Int32) (s0 : Int32) (s1 : Int32) (h : xH) : Prop := L9 (l0) (l1) (s1 + s0) (l3 + 1) h
set_option maxRecDepth 100000 in
set_option maxHeartbeats 4000000 in
theorem p_M_count_29 {sc : List Int32} {Q : Option Value → xH → Prop} {L9 : Nat → Int32 → Int32 → Int32 → xH → Prop} (hL9 : ∀ l0 l1 l2 l3 h, L9 l0 l1 l2 l3 h → xW sc m_M_count 1 0 0 9 [some (.ref (l0)), some (.int (l1)), some (.int (l2)), some (.int (l3))] [] h Q) (l0 : Nat) (l1 : Int32) (l2 : Int32) (l3 : Int32) (s0 : Int32) (s1 : Int32) (h : xH) (hw : w_M_count_29 Q L9 l0 l1 l2 l3 s0 s1 h) : xW sc m_M_count 1 0 0 29 [some (.ref (l0)), some (.int (l1)), some (.int (l2)), some (.int (l3))] [.int (s0), .int (s1)] h Q := by
  unfold w_M_count_29 at hw
  refine xw_iadd d_M_count_29 ?_
  refine xs_istore_n (lv' := [some (.ref (l0)), some (.int (l1)), some (.int (s1 + s0)), some (.int (l3))]) d_M_count_30 rfl rfl rfl ?_
  refine xs_iinc (v := l3 + 1) (lv' := [some (.ref (l0)), some (.int (l1)), some (.int (s1 + s0)), some (.int (l3 + 1))]) d_M_count_31 rfl rfl rfl ?_
  refine xw_goto (tgt := 9) d_M_count_34 (by decide) ?_
  exact hL9 (l0) (l1) (s1 + s0) (l3 + 1) h hw
set_option maxRecDepth 100000 in
def w_M_count_9 (Q : Option Value → xH → Prop) : Nat → Nat → Int32 → Int32 → Int32 → xH → Prop
  | 0, _, _, _, _, _ => False
  | n + 1, l0, l1, l2, l3, h => ((8 ≤ l3 → ((¬ l1 = 0 → ((¬ l1 = 1 → ((¬ l1 = 2 → ((¬ l1 = 3 → ((¬ l1 = 4 → Q (some (.int (-1))) h) ∧ (l1 = 4 → ∃ (f1 : List Value) (x2 : Int32), h.2 l0 = some (.inr (8, f1)) ∧ f1[33]? = some (.int x2) ∧ Q (some (.int x2)) h))) ∧ (l1 = 3 → Q (some (.int l2)) h))) ∧ (l1 = 2 → ∃ (f5 : List Value) (x6 : Int32), h.2 l0 = some (.inr (8, f5)) ∧ f5[34]? = some (.int x6) ∧ Q (some (.int x6)) h))) ∧ (l1 = 1 → ∃ (f8 : List Value) (x9 : Int32), h.2 l0 = some (.inr (8, f8)) ∧ f8[14]? = some (.int x9) ∧ Q (some (.int x9)) h))) ∧ (l1 = 0 → ∃ (f11 : List Value) (x12 : Int32), h.2 l0 = some (.inr (8, f11)) ∧ f11[31]? = some (.int x12) ∧ Q (some (.int x12)) h))) ∧ (¬ 8 ≤ l3 → (∃ f15, h.2 l0 = some (.inr (8, f15))) ∧ w_M_isUp (fun v h14 => ∃ (x16 : Int32), v = some (.int x16) ∧ ((x16 = 0 → w_M_count_29 Q (fun y0 y1 y2 y3 yh => w_M_count_9 Q n y0 y1 y2 y3 yh) (l0) (l1) (l2) (l3) (0) (l2) h14) ∧ (¬ x16 = 0 → w_M_count_29 Q (fun y0 y1 y2 y3 yh => w_M_count_9 Q n y0 y1 y2 y3 yh) (l0) (l1) (l2) (l3) (1) (l2) h14))) l0 l3 h))
set_option maxRecDepth 100000 in
set_option maxHeartbeats 4000000 in
theorem p_M_count_9 {sc : List Int32} {Q : Option Value → xH → Prop} : ∀ (n : Nat) (l0 : Nat) (l1 : Int32) (l2 : Int32) (l3 : Int32) (h : xH), w_M_count_9 Q n l0 l1 l2 l3 h → xW sc m_M_count 1 0 0 9 [some (.ref (l0)), some (.int (l1)), some (.int (l2)), some (.int (l3))] [] h Q := by
  intro n
  induction n with
  | zero => intro l0 l1 l2 l3 h hw; exact False.elim hw
  | succ n ih =>
    intro l0 l1 l2 l3 h hw
    rw [w_M_count_9] at hw
    refine xw_iload_n d_M_count_9 rfl rfl ?_
    refine xw_bipush (v := 8) d_M_count_10 (by decide) ?_
    refine xw_icmp_ge (tgt := 37) d_M_count_12 (by decide) (fun c18 => ?_) (fun c18 => ?_)
    · have hw := hw.1 c18
      refine xw_iload_n d_M_count_37 rfl rfl ?_
      refine xw_if_ne (tgt := 48) d_M_count_38 (by decide) (fun c13 => ?_) (fun c13 => ?_)
      · have hw := hw.1 c13
        refine xw_iload_n d_M_count_48 rfl rfl ?_
        refine xw_iconst (v := 1) d_M_count_49 (by decide) ?_
        refine xw_icmp_ne (tgt := 60) d_M_count_50 (by decide) (fun c10 => ?_) (fun c10 => ?_)
        · have hw := hw.1 c10
          refine xw_iload_n d_M_count_60 rfl rfl ?_
          refine xw_iconst (v := 2) d_M_count_61 (by decide) ?_
          refine xw_icmp_ne (tgt := 72) d_M_count_62 (by decide) (fun c7 => ?_) (fun c7 => ?_)
          · have hw := hw.1 c7
            refine xw_iload_n d_M_count_72 rfl rfl ?_
            refine xw_iconst (v := 3) d_M_count_73 (by decide) ?_
            refine xw_icmp_ne (tgt := 81) d_M_count_74 (by decide) (fun c4 => ?_) (fun c4 => ?_)
            · have hw := hw.1 c4
              refine xw_iload_n d_M_count_81 rfl rfl ?_
              refine xw_iconst (v := 4) d_M_count_82 (by decide) ?_
              refine xw_icmp_ne (tgt := 93) d_M_count_83 (by decide) (fun c3 => ?_) (fun c3 => ?_)
              · have hw := hw.1 c3
                refine xw_iconst (v := -1) d_M_count_93 (by decide) ?_
                exact xw_ireturn rfl d_M_count_94 hw
              · have hw := hw.2 c3
                refine xw_aload_n d_M_count_86 rfl rfl ?_
                obtain ⟨f1, x2, hA, hB, hw⟩ := hw
                refine xw_getr fr_M_132 d_M_count_87 hA hB ?_
                refine xw_goto (tgt := 94) d_M_count_90 (by decide) ?_
                exact xw_ireturn rfl d_M_count_94 hw
            · have hw := hw.2 c4
              refine xw_iload_n d_M_count_77 rfl rfl ?_
              refine xw_goto (tgt := 94) d_M_count_78 (by decide) ?_
              exact xw_ireturn rfl d_M_count_94 hw
          · have hw := hw.2 c7
            refine xw_aload_n d_M_count_65 rfl rfl ?_
            obtain ⟨f5, x6, hA, hB, hw⟩ := hw
            refine xw_getr fr_M_119 d_M_count_66 hA hB ?_
            refine xw_goto (tgt := 94) d_M_count_69 (by decide) ?_
            exact xw_ireturn rfl d_M_count_94 hw
        · have hw := hw.2 c10
          refine xw_aload_n d_M_count_53 rfl rfl ?_
          obtain ⟨f8, x9, hA, hB, hw⟩ := hw
          refine xw_getr fr_M_248 d_M_count_54 hA hB ?_
          refine xw_goto (tgt := 94) d_M_count_57 (by decide) ?_
          exact xw_ireturn rfl d_M_count_94 hw
      · have hw := hw.2 c13
        refine xw_aload_n d_M_count_41 rfl rfl ?_
        obtain ⟨f11, x12, hA, hB, hw⟩ := hw
        refine xw_getr fr_M_129 d_M_count_42 hA hB ?_
        refine xw_goto (tgt := 94) d_M_count_45 (by decide) ?_
        exact xw_ireturn rfl d_M_count_94 hw
    · have hw := hw.2 c18
      refine xw_iload_n d_M_count_15 rfl rfl ?_
      refine xw_aload_n d_M_count_16 rfl rfl ?_
      refine xw_iload_n d_M_count_17 rfl rfl ?_
      obtain ⟨⟨f15, hA⟩, hw⟩ := hw
      refine xc_V1i lk_M_111 in_M_isUp d_M_count_18 (x_M_isUp hw) rfl hA rfl ?_
      intro x16 h14 hw
      refine xw_if_eq (tgt := 28) d_M_count_21 (by decide) (fun c17 => ?_) (fun c17 => ?_)
      · have hw := hw.1 c17
        refine xw_iconst (v := 0) d_M_count_28 (by decide) ?_
        exact p_M_count_29 ih (l0) (l1) (l2) (l3) (0) (l2) h14 hw
      · have hw := hw.2 c17
        refine xw_iconst (v := 1) d_M_count_24 (by decide) ?_
        refine xw_goto (tgt := 29) d_M_count_25 (by decide) ?_
        exact p_M_count_29 ih (l0) (l1) (l2) (l3) (1) (l2) h14 hw
set_option maxRecDepth 100000 in
def w_M_count (Q : Option Value → xH → Prop) (this : Nat) (p1 : Int32) (h : xH) : Prop := ∃ f1, h.2 this = some (.inr (8, f1)) ∧ 0 < f1.length ∧ ∀ h2, h2 = xu h this (.inr (8, f1.set 0 (.int (0)))) → ∃ n3, w_M_count_9 Q n3 (this) (p1) (0) (0) h2
set_option maxRecDepth 100000 in
set_option maxHeartbeats 4000000 in
theorem x_M_count {sc : List Int32} {Q : Option Value → xH → Prop} {this : Nat} {p1 : Int32} {h : xH} (hw : w_M_count Q this p1 h) : xMet sc m_M_count 1 0 0 [.ref (this), .int (p1)] h Q := by
  unfold w_M_count at hw
  refine xMet.of2 cw_M_count rfl rfl ?_
  show xW sc m_M_count 1 0 0 0 [some (.ref (this)), some (.int (p1)), none, none] [] h Q
  refine xw_aload_n d_M_count_0 rfl rfl ?_
  refine xw_iconst (v := 0) d_M_count_1 (by decide) ?_
  obtain ⟨f1, hA, hB, hw⟩ := hw
  refine xw_puti fs_M_103 d_M_count_2 hA hB ?_
  generalize hh : xu h this (.inr (8, f1.set 0 (.int (0)))) = h2
  have hw := hw h2 hh.symm
  refine xw_iconst (v := 0) d_M_count_5 (by decide) ?_
  refine xs_istore_n (lv' := [some (.ref (this)), some (.int (p1)), some (.int (0)), none]) d_M_count_6 rfl rfl rfl ?_
  refine xw_iconst (v := 0) d_M_count_7 (by decide) ?_
  refine xs_istore_n (lv' := [some (.ref (this)), some (.int (p1)), some (.int (0)), some (.int (0))]) d_M_count_8 rfl rfl rfl ?_
  obtain ⟨n3, hw⟩ := hw
  exact p_M_count_9  n3 (this) (p1) (0) (0) h2 hw
