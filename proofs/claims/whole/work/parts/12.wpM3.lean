set_option maxRecDepth 100000 in
def w_M_init_430 (Q : Option Value → xH → Prop) (L356 : Nat → Int32 → Int32 → Int32 → Int32 → Int32 → Int32 → Int32 → xH → Nat → Nat → Prop) (l0 : Nat) (l1 : Int32) (l2 : Int32) (l3 : Int32) (l4 : Int32) (l5 : Int32) (l6 : Int32) (l7 : Int32) (h : xH) (kc : Nat) (ks : Nat) : Prop := L356 (l0) (l1) (l2) (l3) (l4) (l5) (l6) (l7 + 1) h kc ks
set_option maxRecDepth 100000 in
set_option maxHeartbeats 4000000 in
theorem p_M_init_430 {sc : List Int32} {Q : Option Value → xH → Prop} {L356 : Nat → Int32 → Int32 → Int32 → Int32 → Int32 → Int32 → Int32 → xH → Nat → Nat → Prop} (hL356 : ∀ l0 l1 l2 l3 l4 l5 l6 l7 h kc ks, L356 l0 l1 l2 l3 l4 l5 l6 l7 h kc ks → xW sc m_M_init 1 kc ks 356 [some (.ref (l0)), some (.int (l1)), some (.int (l2)), some (.int (l3)), some (.int (l4)), some (.int (l5)), some (.int (l6)), some (.int (l7))] [] h Q) (l0 : Nat) (l1 : Int32) (l2 : Int32) (l3 : Int32) (l4 : Int32) (l5 : Int32) (l6 : Int32) (l7 : Int32) (h : xH) (kc : Nat) (ks : Nat) (hw : w_M_init_430 Q L356 l0 l1 l2 l3 l4 l5 l6 l7 h kc ks) : xW sc m_M_init 1 kc ks 430 [some (.ref (l0)), some (.int (l1)), some (.int (l2)), some (.int (l3)), some (.int (l4)), some (.int (l5)), some (.int (l6)), some (.int (l7))] [] h Q := by
  unfold w_M_init_430 at hw
  refine xs_iinc (v := l7 + 1) (lv' := [some (.ref (l0)), some (.int (l1)), some (.int (l2)), some (.int (l3)), some (.int (l4)), some (.int (l5)), some (.int (l6)), some (.int (l7 + 1))]) d_M_init_430 rfl rfl rfl ?_
  refine xw_goto (tgt := 356) d_M_init_433 (by decide) ?_
  exact hL356 (l0) (l1) (l2) (l3) (l4) (l5) (l6) (l7 + 1) h kc ks hw
set_option maxRecDepth 100000 in
def w_M_init_356 (Q : Option Value → xH → Prop) : Nat → Nat → Int32 → Int32 → Int32 → Int32 → Int32 → Int32 → Int32 → xH → Nat → Nat → Prop
  | 0, _, _, _, _, _, _, _, _, _, _, _ => False
  | n + 1, l0, l1, l2, l3, l4, l5, l6, l7, h, kc, ks => ((8 ≤ l7 → Q none h) ∧ (¬ 8 ≤ l7 → ∃ (f1 : List Value) (a2 : Nat), h.2 l0 = some (.inr (8, f1)) ∧ f1[2]? = some (.ref a2) ∧ ∃ ar3, h.2 a2 = some (.inl (0, .inl ar3)) ∧ 0 ≤ l7 ∧ l7.toNatClampNeg < ar3.length ∧ ∀ h4, h4 = xu h a2 (.inl (0, .inl (ar3.set l7.toNatClampNeg 1))) → ((l7 < l4 → ∃ (f5 : List Value) (a6 : Nat), h4.2 l0 = some (.inr (8, f5)) ∧ f5[1]? = some (.ref a6) ∧ ∃ ar7, h4.2 a6 = some (.inl (0, .inl ar7)) ∧ 0 ≤ l7 ∧ l7.toNatClampNeg < ar7.length ∧ ∀ h8, h8 = xu h4 a6 (.inl (0, .inl (ar7.set l7.toNatClampNeg 1))) → ∃ (f9 : List Value) (a10 : Nat), h8.2 l0 = some (.inr (8, f9)) ∧ f9[9]? = some (.ref a10) ∧ ∃ ar11, h8.2 a10 = some (.inl (0, .inl ar11)) ∧ 0 ≤ (16 * l7 : Int32) ∧ (16 * l7 : Int32).toNatClampNeg < ar11.length ∧ ∀ h12, h12 = xu h8 a10 (.inl (0, .inl (ar11.set (16 * l7 : Int32).toNatClampNeg 1))) → ∃ (f13 : List Value) (a14 : Nat), h12.2 l0 = some (.inr (8, f13)) ∧ f13[10]? = some (.ref a14) ∧ ∃ ar15, h12.2 a14 = some (.inl (0, .inl ar15)) ∧ 0 ≤ (16 * l7 : Int32) ∧ (16 * l7 : Int32).toNatClampNeg < ar15.length ∧ ∀ h16, h16 = xu h12 a14 (.inl (0, .inl (ar15.set (16 * l7 : Int32).toNatClampNeg (((((1 : Int32) <<< (l4 &&& 31)) - 1) + (256 * l5)) + (4096 * l6))))) → w_M_init_430 Q (fun y0 y1 y2 y3 y4 y5 y6 y7 yh yc ys => w_M_init_356 Q n y0 y1 y2 y3 y4 y5 y6 y7 yh yc ys) (l0) (l1) (l2) (l3) (l4) (l5) (l6) (l7) h16 kc ks) ∧ (¬ l7 < l4 → w_M_init_430 Q (fun y0 y1 y2 y3 y4 y5 y6 y7 yh yc ys => w_M_init_356 Q n y0 y1 y2 y3 y4 y5 y6 y7 yh yc ys) (l0) (l1) (l2) (l3) (l4) (l5) (l6) (l7) h4 kc ks))))
set_option maxRecDepth 100000 in
set_option maxHeartbeats 4000000 in
theorem p_M_init_356 {sc : List Int32} {Q : Option Value → xH → Prop} : ∀ (n : Nat) (l0 : Nat) (l1 : Int32) (l2 : Int32) (l3 : Int32) (l4 : Int32) (l5 : Int32) (l6 : Int32) (l7 : Int32) (h : xH) (kc : Nat) (ks : Nat), w_M_init_356 Q n l0 l1 l2 l3 l4 l5 l6 l7 h kc ks → xW sc m_M_init 1 kc ks 356 [some (.ref (l0)), some (.int (l1)), some (.int (l2)), some (.int (l3)), some (.int (l4)), some (.int (l5)), some (.int (l6)), some (.int (l7))] [] h Q := by
  intro n
  induction n with
  | zero => intro l0 l1 l2 l3 l4 l5 l6 l7 h kc ks hw; exact False.elim hw
  | succ n ih =>
    intro l0 l1 l2 l3 l4 l5 l6 l7 h kc ks hw
    rw [w_M_init_356] at hw
    refine xw_iload d_M_init_356 rfl ?_
    refine xw_bipush (v := 8) d_M_init_358 (by decide) ?_
    refine xw_icmp_ge (tgt := 436) d_M_init_360 (by decide) (fun c18 => ?_) (fun c18 => ?_)
    · have hw := hw.1 c18
      exact xw_return rfl d_M_init_436 hw
    · have hw := hw.2 c18
      refine xw_aload_n d_M_init_363 rfl rfl ?_
      obtain ⟨f1, a2, hA, hB, hw⟩ := hw
      refine xw_getr fr_M_13 d_M_init_364 hA hB ?_
      refine xw_iload d_M_init_367 rfl ?_
      refine xw_iconst (v := 1) d_M_init_369 (by decide) ?_
      obtain ⟨ar3, hA, hB, hC, hw⟩ := hw
      refine xw_iastore (t := 0) rfl d_M_init_370 hA hB hC ?_
      generalize hh : xu h a2 (.inl (0, .inl (ar3.set l7.toNatClampNeg 1))) = h4
      have hw := hw h4 hh.symm
      refine xw_iload d_M_init_371 rfl ?_
      refine xw_iload d_M_init_373 rfl ?_
      refine xw_icmp_lt (tgt := 381) d_M_init_375 (by decide) (fun c17 => ?_) (fun c17 => ?_)
      · have hw := hw.1 c17
        refine xw_aload_n d_M_init_381 rfl rfl ?_
        obtain ⟨f5, a6, hA, hB, hw⟩ := hw
        refine xw_getr fr_M_9 d_M_init_382 hA hB ?_
        refine xw_iload d_M_init_385 rfl ?_
        refine xw_iconst (v := 1) d_M_init_387 (by decide) ?_
        obtain ⟨ar7, hA, hB, hC, hw⟩ := hw
        refine xw_iastore (t := 0) rfl d_M_init_388 hA hB hC ?_
        generalize hh : xu h4 a6 (.inl (0, .inl (ar7.set l7.toNatClampNeg 1))) = h8
        have hw := hw h8 hh.symm
        refine xw_aload_n d_M_init_389 rfl rfl ?_
        obtain ⟨f9, a10, hA, hB, hw⟩ := hw
        refine xw_getr fr_M_34 d_M_init_390 hA hB ?_
        refine xw_bipush (v := 16) d_M_init_393 (by decide) ?_
        refine xw_iload d_M_init_395 rfl ?_
        refine xw_imul d_M_init_397 ?_
        refine xw_iconst (v := 1) d_M_init_398 (by decide) ?_
        obtain ⟨ar11, hA, hB, hC, hw⟩ := hw
        refine xw_iastore (t := 0) rfl d_M_init_399 hA hB hC ?_
        generalize hh : xu h8 a10 (.inl (0, .inl (ar11.set (16 * l7 : Int32).toNatClampNeg 1))) = h12
        have hw := hw h12 hh.symm
        refine xw_aload_n d_M_init_400 rfl rfl ?_
        obtain ⟨f13, a14, hA, hB, hw⟩ := hw
        refine xw_getr fr_M_37 d_M_init_401 hA hB ?_
        refine xw_bipush (v := 16) d_M_init_404 (by decide) ?_
        refine xw_iload d_M_init_406 rfl ?_
        refine xw_imul d_M_init_408 ?_
        refine xw_iconst (v := 1) d_M_init_409 (by decide) ?_
        refine xw_iload d_M_init_410 rfl ?_
        refine xw_ishl d_M_init_412 ?_
        refine xw_iconst (v := 1) d_M_init_413 (by decide) ?_
        refine xw_isub d_M_init_414 ?_
        refine xw_sipush (v := 256) d_M_init_415 (by decide) ?_
        refine xw_iload d_M_init_418 rfl ?_
        refine xw_imul d_M_init_420 ?_
        refine xw_iadd d_M_init_421 ?_
        refine xw_sipush (v := 4096) d_M_init_422 (by decide) ?_
        refine xw_iload d_M_init_425 rfl ?_
        refine xw_imul d_M_init_427 ?_
        refine xw_iadd d_M_init_428 ?_
        obtain ⟨ar15, hA, hB, hC, hw⟩ := hw
        refine xw_iastore (t := 0) rfl d_M_init_429 hA hB hC ?_
        generalize hh : xu h12 a14 (.inl (0, .inl (ar15.set (16 * l7 : Int32).toNatClampNeg (((((1 : Int32) <<< (l4 &&& 31)) - 1) + (256 * l5)) + (4096 * l6))))) = h16
        have hw := hw h16 hh.symm
        exact p_M_init_430 ih (l0) (l1) (l2) (l3) (l4) (l5) (l6) (l7) h16 kc ks hw
      · have hw := hw.2 c17
        refine xw_goto (tgt := 430) d_M_init_378 (by decide) ?_
        exact p_M_init_430 ih (l0) (l1) (l2) (l3) (l4) (l5) (l6) (l7) h4 kc ks hw
set_option maxRecDepth 100000 in
def w_M_init_351 (Q : Option Value → xH → Prop) (l0 : Nat) (l1 : Int32) (l2 : Int32) (l3 : Int32) (l4 : Int32) (l5 : Int32) (l6 : Int32) (s0 : Int32) (h : xH) (kc : Nat) (ks : Nat) : Prop := ∃ n1, w_M_init_356 Q n1 (l0) (l1) (l2) (l3) (l4) (l5) (s0) (0) h kc ks
set_option maxRecDepth 100000 in
set_option maxHeartbeats 4000000 in
theorem p_M_init_351 {sc : List Int32} {Q : Option Value → xH → Prop} (l0 : Nat) (l1 : Int32) (l2 : Int32) (l3 : Int32) (l4 : Int32) (l5 : Int32) (l6 : Int32) (s0 : Int32) (h : xH) (kc : Nat) (ks : Nat) (hw : w_M_init_351 Q l0 l1 l2 l3 l4 l5 l6 s0 h kc ks) : xW sc m_M_init 1 kc ks 351 [some (.ref (l0)), some (.int (l1)), some (.int (l2)), some (.int (l3)), some (.int (l4)), some (.int (l5)), some (.int (l6)), none] [.int (s0)] h Q := by
  unfold w_M_init_351 at hw
  refine xs_istore (lv' := [some (.ref (l0)), some (.int (l1)), some (.int (l2)), some (.int (l3)), some (.int (l4)), some (.int (l5)), some (.int (s0)), none]) d_M_init_351 rfl rfl ?_
  refine xw_iconst (v := 0) d_M_init_353 (by decide) ?_
  refine xs_istore (lv' := [some (.ref (l0)), some (.int (l1)), some (.int (l2)), some (.int (l3)), some (.int (l4)), some (.int (l5)), some (.int (s0)), some (.int (0))]) d_M_init_354 rfl rfl ?_
  obtain ⟨n1, hw⟩ := hw
  exact p_M_init_356  n1 (l0) (l1) (l2) (l3) (l4) (l5) (s0) (0) h kc ks hw
set_option maxRecDepth 100000 in
def w_M_init_325 (Q : Option Value → xH → Prop) (l0 : Nat) (l1 : Int32) (l2 : Int32) (l3 : Int32) (l4 : Int32) (l5 : Int32) (s0 : Int32) (h : xH) (kc : Nat) (ks : Nat) : Prop := ((((l4 + 1) - l5) ≤ s0 → w_M_init_351 Q (l0) (l1) (l2) (l3) (l4) (l5) (s0) (s0) h kc ks) ∧ (¬ ((l4 + 1) - l5) ≤ s0 → w_M_init_351 Q (l0) (l1) (l2) (l3) (l4) (l5) (s0) ((l4 + 1) - l5) h kc ks))
set_option maxRecDepth 100000 in
set_option maxHeartbeats 4000000 in
theorem p_M_init_325 {sc : List Int32} {Q : Option Value → xH → Prop} (l0 : Nat) (l1 : Int32) (l2 : Int32) (l3 : Int32) (l4 : Int32) (l5 : Int32) (s0 : Int32) (h : xH) (kc : Nat) (ks : Nat) (hw : w_M_init_325 Q l0 l1 l2 l3 l4 l5 s0 h kc ks) : xW sc m_M_init 1 kc ks 325 [some (.ref (l0)), some (.int (l1)), some (.int (l2)), some (.int (l3)), some (.int (l4)), some (.int (l5)), none, none] [.int (s0)] h Q := by
  unfold w_M_init_325 at hw
  refine xs_istore (lv' := [some (.ref (l0)), some (.int (l1)), some (.int (l2)), some (.int (l3)), some (.int (l4)), some (.int (l5)), some (.int (s0)), none]) d_M_init_325 rfl rfl ?_
  refine xw_iload d_M_init_327 rfl ?_
  refine xw_iload d_M_init_329 rfl ?_
  refine xw_iconst (v := 1) d_M_init_331 (by decide) ?_
  refine xw_iadd d_M_init_332 ?_
  refine xw_iload d_M_init_333 rfl ?_
  refine xw_isub d_M_init_335 ?_
  refine xw_icmp_ge (tgt := 349) d_M_init_336 (by decide) (fun c1 => ?_) (fun c1 => ?_)
  · have hw := hw.1 c1
    refine xw_iload d_M_init_349 rfl ?_
    exact p_M_init_351  (l0) (l1) (l2) (l3) (l4) (l5) (s0) (s0) h kc ks hw
  · have hw := hw.2 c1
    refine xw_iload d_M_init_339 rfl ?_
    refine xw_iconst (v := 1) d_M_init_341 (by decide) ?_
    refine xw_iadd d_M_init_342 ?_
    refine xw_iload d_M_init_343 rfl ?_
    refine xw_isub d_M_init_345 ?_
    refine xw_goto (tgt := 351) d_M_init_346 (by decide) ?_
    exact p_M_init_351  (l0) (l1) (l2) (l3) (l4) (l5) (s0) ((l4 + 1) - l5) h kc ks hw
set_option maxRecDepth 100000 in
def w_M_init_302 (Q : Option Value → xH → Prop) (l0 : Nat) (l1 : Int32) (l2 : Int32) (l3 : Int32) (l4 : Int32) (s0 : Int32) (h : xH) (kc : Nat) (ks : Nat) : Prop := ((1 ≤ l3 → ((l3 ≤ l4 → w_M_init_325 Q (l0) (l1) (l2) (l3) (l4) (s0) (l3) h kc ks) ∧ (¬ l3 ≤ l4 → w_M_init_325 Q (l0) (l1) (l2) (l3) (l4) (s0) (l4) h kc ks))) ∧ (¬ 1 ≤ l3 → w_M_init_325 Q (l0) (l1) (l2) (l3) (l4) (s0) (1) h kc ks))
set_option maxRecDepth 100000 in
set_option maxHeartbeats 4000000 in
theorem p_M_init_302 {sc : List Int32} {Q : Option Value → xH → Prop} (l0 : Nat) (l1 : Int32) (l2 : Int32) (l3 : Int32) (l4 : Int32) (s0 : Int32) (h : xH) (kc : Nat) (ks : Nat) (hw : w_M_init_302 Q l0 l1 l2 l3 l4 s0 h kc ks) : xW sc m_M_init 1 kc ks 302 [some (.ref (l0)), some (.int (l1)), some (.int (l2)), some (.int (l3)), some (.int (l4)), none, none, none] [.int (s0)] h Q := by
  unfold w_M_init_302 at hw
  refine xs_istore (lv' := [some (.ref (l0)), some (.int (l1)), some (.int (l2)), some (.int (l3)), some (.int (l4)), some (.int (s0)), none, none]) d_M_init_302 rfl rfl ?_
  refine xw_iload_n d_M_init_304 rfl rfl ?_
  refine xw_iconst (v := 1) d_M_init_305 (by decide) ?_
  refine xw_icmp_ge (tgt := 313) d_M_init_306 (by decide) (fun c2 => ?_) (fun c2 => ?_)
  · have hw := hw.1 c2
    refine xw_iload_n d_M_init_313 rfl rfl ?_
    refine xw_iload d_M_init_314 rfl ?_
    refine xw_icmp_le (tgt := 324) d_M_init_316 (by decide) (fun c1 => ?_) (fun c1 => ?_)
    · have hw := hw.1 c1
      refine xw_iload_n d_M_init_324 rfl rfl ?_
      exact p_M_init_325  (l0) (l1) (l2) (l3) (l4) (s0) (l3) h kc ks hw
    · have hw := hw.2 c1
      refine xw_iload d_M_init_319 rfl ?_
      refine xw_goto (tgt := 325) d_M_init_321 (by decide) ?_
      exact p_M_init_325  (l0) (l1) (l2) (l3) (l4) (s0) (l4) h kc ks hw
  · have hw := hw.2 c2
    refine xw_iconst (v := 1) d_M_init_309 (by decide) ?_
    refine xw_goto (tgt := 325) d_M_init_310 (by decide) ?_
    exact p_M_init_325  (l0) (l1) (l2) (l3) (l4) (s0) (1) h kc ks hw
set_option maxRecDepth 100000 in
def w_M_init_279 (Q : Option Value → xH → Prop) (l0 : Nat) (l1 : Int32) (l2 : Int32) (l3 : Int32) (s0 : Int32) (h : xH) (kc : Nat) (ks : Nat) : Prop := ((1 ≤ l2 → ((l2 ≤ s0 → w_M_init_302 Q (l0) (l1) (l2) (l3) (s0) (l2) h kc ks) ∧ (¬ l2 ≤ s0 → w_M_init_302 Q (l0) (l1) (l2) (l3) (s0) (s0) h kc ks))) ∧ (¬ 1 ≤ l2 → w_M_init_302 Q (l0) (l1) (l2) (l3) (s0) (1) h kc ks))
set_option maxRecDepth 100000 in
set_option maxHeartbeats 4000000 in
theorem p_M_init_279 {sc : List Int32} {Q : Option Value → xH → Prop} (l0 : Nat) (l1 : Int32) (l2 : Int32) (l3 : Int32) (s0 : Int32) (h : xH) (kc : Nat) (ks : Nat) (hw : w_M_init_279 Q l0 l1 l2 l3 s0 h kc ks) : xW sc m_M_init 1 kc ks 279 [some (.ref (l0)), some (.int (l1)), some (.int (l2)), some (.int (l3)), none, none, none, none] [.int (s0)] h Q := by
  unfold w_M_init_279 at hw
  refine xs_istore (lv' := [some (.ref (l0)), some (.int (l1)), some (.int (l2)), some (.int (l3)), some (.int (s0)), none, none, none]) d_M_init_279 rfl rfl ?_
  refine xw_iload_n d_M_init_281 rfl rfl ?_
  refine xw_iconst (v := 1) d_M_init_282 (by decide) ?_
  refine xw_icmp_ge (tgt := 290) d_M_init_283 (by decide) (fun c2 => ?_) (fun c2 => ?_)
  · have hw := hw.1 c2
    refine xw_iload_n d_M_init_290 rfl rfl ?_
    refine xw_iload d_M_init_291 rfl ?_
    refine xw_icmp_le (tgt := 301) d_M_init_293 (by decide) (fun c1 => ?_) (fun c1 => ?_)
    · have hw := hw.1 c1
      refine xw_iload_n d_M_init_301 rfl rfl ?_
      exact p_M_init_302  (l0) (l1) (l2) (l3) (s0) (l2) h kc ks hw
    · have hw := hw.2 c1
      refine xw_iload d_M_init_296 rfl ?_
      refine xw_goto (tgt := 302) d_M_init_298 (by decide) ?_
      exact p_M_init_302  (l0) (l1) (l2) (l3) (s0) (s0) h kc ks hw
  · have hw := hw.2 c2
    refine xw_iconst (v := 1) d_M_init_286 (by decide) ?_
    refine xw_goto (tgt := 302) d_M_init_287 (by decide) ?_
    exact p_M_init_302  (l0) (l1) (l2) (l3) (s0) (1) h kc ks hw
set_option maxRecDepth 100000 in
def w_M_init_193 (Q : Option Value → xH → Prop) (l0 : Nat) (l1 : Int32) (l2 : Int32) (l3 : Int32) (h : xH) (kc : Nat) (ks : Nat) : Prop := ∃ k3 k4, kc = k3 + 1 ∧ ks = k4 + 8 ∧ ∀ b2 h1, b2 = h.1 + 1 → h1 = xn h (.inl (0, .inl (List.replicate 8 0))) → ∃ f5, h1.2 l0 = some (.inr (8, f5)) ∧ 25 < f5.length ∧ ∀ h6, h6 = xu h1 l0 (.inr (8, f5.set 25 (.ref (b2)))) → ∃ k9 k10, k3 = k9 + 1 ∧ k4 = k10 + 8 ∧ ∀ b8 h7, b8 = h6.1 + 1 → h7 = xn h6 (.inl (0, .inl (List.replicate 8 0))) → ∃ f11, h7.2 l0 = some (.inr (8, f11)) ∧ 26 < f11.length ∧ ∀ h12, h12 = xu h7 l0 (.inr (8, f11.set 26 (.ref (b8)))) → ∃ k15 k16, k9 = k15 + 1 ∧ k10 = k16 + 8 ∧ ∀ b14 h13, b14 = h12.1 + 1 → h13 = xn h12 (.inl (0, .inl (List.replicate 8 0))) → ∃ f17, h13.2 l0 = some (.inr (8, f17)) ∧ 27 < f17.length ∧ ∀ h18, h18 = xu h13 l0 (.inr (8, f17.set 27 (.ref (b14)))) → ∃ k21 k22, k15 = k21 + 1 ∧ k16 = k22 + 32 ∧ ∀ b20 h19, b20 = h18.1 + 1 → h19 = xn h18 (.inl (0, .inl (List.replicate 32 0))) → ∃ f23, h19.2 l0 = some (.inr (8, f23)) ∧ 28 < f23.length ∧ ∀ h24, h24 = xu h19 l0 (.inr (8, f23.set 28 (.ref (b20)))) → ∃ k27 k28, k21 = k27 + 1 ∧ k22 = k28 + 32 ∧ ∀ b26 h25, b26 = h24.1 + 1 → h25 = xn h24 (.inl (0, .inl (List.replicate 32 0))) → ∃ f29, h25.2 l0 = some (.inr (8, f29)) ∧ 29 < f29.length ∧ ∀ h30, h30 = xu h25 l0 (.inr (8, f29.set 29 (.ref (b26)))) → ∃ k33 k34, k27 = k33 + 1 ∧ k28 = k34 + 32 ∧ ∀ b32 h31, b32 = h30.1 + 1 → h31 = xn h30 (.inl (0, .inl (List.replicate 32 0))) → ∃ f35, h31.2 l0 = some (.inr (8, f35)) ∧ 30 < f35.length ∧ ∀ h36, h36 = xu h31 l0 (.inr (8, f35.set 30 (.ref (b32)))) → ∃ k39 k40, k33 = k39 + 1 ∧ k34 = k40 + 6360 ∧ ∀ b38 h37, b38 = h36.1 + 1 → h37 = xn h36 (.inl (0, .inl (List.replicate 6360 0))) → ∃ f41, h37.2 l0 = some (.inr (8, f41)) ∧ 32 < f41.length ∧ ∀ h42, h42 = xu h37 l0 (.inr (8, f41.set 32 (.ref (b38)))) → ∃ k45 k46, k39 = k45 + 1 ∧ k40 = k46 + 53 ∧ ∀ b44 h43, b44 = h42.1 + 1 → h43 = xn h42 (.inl (0, .inl (List.replicate 53 0))) → ∃ f47, h43.2 l0 = some (.inr (8, f47)) ∧ 35 < f47.length ∧ ∀ h48, h48 = xu h43 l0 (.inr (8, f47.set 35 (.ref (b44)))) → ((1 ≤ l1 → ((l1 ≤ 8 → w_M_init_279 Q (l0) (l1) (l2) (l3) (l1) h48 k45 k46) ∧ (¬ l1 ≤ 8 → w_M_init_279 Q (l0) (l1) (l2) (l3) (8) h48 k45 k46))) ∧ (¬ 1 ≤ l1 → w_M_init_279 Q (l0) (l1) (l2) (l3) (1) h48 k45 k46))
set_option maxRecDepth 100000 in
set_option maxHeartbeats 4000000 in
theorem p_M_init_193 {sc : List Int32} {Q : Option Value → xH → Prop} (l0 : Nat) (l1 : Int32) (l2 : Int32) (l3 : Int32) (h : xH) (kc : Nat) (ks : Nat) (hw : w_M_init_193 Q l0 l1 l2 l3 h kc ks) : xW sc m_M_init 1 kc ks 193 [some (.ref (l0)), some (.int (l1)), some (.int (l2)), some (.int (l3)), none, none, none, none] [] h Q := by
  unfold w_M_init_193 at hw
  refine xw_aload_n d_M_init_193 rfl rfl ?_
  refine xw_bipush (v := 8) d_M_init_194 (by decide) ?_
  obtain ⟨k3, k4, hA, hB, hw⟩ := hw
  rw [hA, hB]
  refine xw_newarray (t := 0) (N := 8) rfl aI d_M_init_196 (by decide) (by decide) (by decide) ?_
  generalize hb : h.1 + 1 = b2
  generalize hh : xn h (.inl (0, .inl (List.replicate 8 0))) = h1
  have hw := hw b2 h1 hb.symm hh.symm
  obtain ⟨f5, hA, hB, hw⟩ := hw
  refine xw_putrF fs_M_79 rfl (Or.inr ⟨_, rfl⟩) d_M_init_198 hA hB ?_
  generalize hh : xu h1 l0 (.inr (8, f5.set 25 (.ref (b2)))) = h6
  have hw := hw h6 hh.symm
  refine xw_aload_n d_M_init_201 rfl rfl ?_
  refine xw_bipush (v := 8) d_M_init_202 (by decide) ?_
  obtain ⟨k9, k10, hA, hB, hw⟩ := hw
  rw [hA, hB]
  refine xw_newarray (t := 0) (N := 8) rfl aI d_M_init_204 (by decide) (by decide) (by decide) ?_
  generalize hb : h6.1 + 1 = b8
  generalize hh : xn h6 (.inl (0, .inl (List.replicate 8 0))) = h7
  have hw := hw b8 h7 hb.symm hh.symm
  obtain ⟨f11, hA, hB, hw⟩ := hw
  refine xw_putrF fs_M_82 rfl (Or.inr ⟨_, rfl⟩) d_M_init_206 hA hB ?_
  generalize hh : xu h7 l0 (.inr (8, f11.set 26 (.ref (b8)))) = h12
  have hw := hw h12 hh.symm
  refine xw_aload_n d_M_init_209 rfl rfl ?_
  refine xw_bipush (v := 8) d_M_init_210 (by decide) ?_
  obtain ⟨k15, k16, hA, hB, hw⟩ := hw
  rw [hA, hB]
  refine xw_newarray (t := 0) (N := 8) rfl aI d_M_init_212 (by decide) (by decide) (by decide) ?_
  generalize hb : h12.1 + 1 = b14
  generalize hh : xn h12 (.inl (0, .inl (List.replicate 8 0))) = h13
  have hw := hw b14 h13 hb.symm hh.symm
  obtain ⟨f17, hA, hB, hw⟩ := hw
  refine xw_putrF fs_M_85 rfl (Or.inr ⟨_, rfl⟩) d_M_init_214 hA hB ?_
  generalize hh : xu h13 l0 (.inr (8, f17.set 27 (.ref (b14)))) = h18
  have hw := hw h18 hh.symm
  refine xw_aload_n d_M_init_217 rfl rfl ?_
  refine xw_bipush (v := 32) d_M_init_218 (by decide) ?_
  obtain ⟨k21, k22, hA, hB, hw⟩ := hw
  rw [hA, hB]
  refine xw_newarray (t := 0) (N := 32) rfl aI d_M_init_220 (by decide) (by decide) (by decide) ?_
  generalize hb : h18.1 + 1 = b20
  generalize hh : xn h18 (.inl (0, .inl (List.replicate 32 0))) = h19
  have hw := hw b20 h19 hb.symm hh.symm
  obtain ⟨f23, hA, hB, hw⟩ := hw
  refine xw_putrF fs_M_88 rfl (Or.inr ⟨_, rfl⟩) d_M_init_222 hA hB ?_
  generalize hh : xu h19 l0 (.inr (8, f23.set 28 (.ref (b20)))) = h24
  have hw := hw h24 hh.symm
  refine xw_aload_n d_M_init_225 rfl rfl ?_
  refine xw_bipush (v := 32) d_M_init_226 (by decide) ?_
  obtain ⟨k27, k28, hA, hB, hw⟩ := hw
  rw [hA, hB]
  refine xw_newarray (t := 0) (N := 32) rfl aI d_M_init_228 (by decide) (by decide) (by decide) ?_
  generalize hb : h24.1 + 1 = b26
  generalize hh : xn h24 (.inl (0, .inl (List.replicate 32 0))) = h25
  have hw := hw b26 h25 hb.symm hh.symm
  obtain ⟨f29, hA, hB, hw⟩ := hw
  refine xw_putrF fs_M_91 rfl (Or.inr ⟨_, rfl⟩) d_M_init_230 hA hB ?_
  generalize hh : xu h25 l0 (.inr (8, f29.set 29 (.ref (b26)))) = h30
  have hw := hw h30 hh.symm
  refine xw_aload_n d_M_init_233 rfl rfl ?_
  refine xw_bipush (v := 32) d_M_init_234 (by decide) ?_
  obtain ⟨k33, k34, hA, hB, hw⟩ := hw
  rw [hA, hB]
  refine xw_newarray (t := 0) (N := 32) rfl aI d_M_init_236 (by decide) (by decide) (by decide) ?_
  generalize hb : h30.1 + 1 = b32
  generalize hh : xn h30 (.inl (0, .inl (List.replicate 32 0))) = h31
  have hw := hw b32 h31 hb.symm hh.symm
  obtain ⟨f35, hA, hB, hw⟩ := hw
  refine xw_putrF fs_M_94 rfl (Or.inr ⟨_, rfl⟩) d_M_init_238 hA hB ?_
  generalize hh : xu h31 l0 (.inr (8, f35.set 30 (.ref (b32)))) = h36
  have hw := hw h36 hh.symm
  refine xw_aload_n d_M_init_241 rfl rfl ?_
  refine xw_sipush (v := 6360) d_M_init_242 (by decide) ?_
  obtain ⟨k39, k40, hA, hB, hw⟩ := hw
  rw [hA, hB]
  refine xw_newarray (t := 0) (N := 6360) rfl aI d_M_init_245 (by decide) (by decide) (by decide) ?_
  generalize hb : h36.1 + 1 = b38
  generalize hh : xn h36 (.inl (0, .inl (List.replicate 6360 0))) = h37
  have hw := hw b38 h37 hb.symm hh.symm
  obtain ⟨f41, hA, hB, hw⟩ := hw
  refine xw_putrF fs_M_97 rfl (Or.inr ⟨_, rfl⟩) d_M_init_247 hA hB ?_
  generalize hh : xu h37 l0 (.inr (8, f41.set 32 (.ref (b38)))) = h42
  have hw := hw h42 hh.symm
  refine xw_aload_n d_M_init_250 rfl rfl ?_
  refine xw_bipush (v := 53) d_M_init_251 (by decide) ?_
  obtain ⟨k45, k46, hA, hB, hw⟩ := hw
  rw [hA, hB]
  refine xw_newarray (t := 0) (N := 53) rfl aI d_M_init_253 (by decide) (by decide) (by decide) ?_
  generalize hb : h42.1 + 1 = b44
  generalize hh : xn h42 (.inl (0, .inl (List.replicate 53 0))) = h43
  have hw := hw b44 h43 hb.symm hh.symm
  obtain ⟨f47, hA, hB, hw⟩ := hw
  refine xw_putrF fs_M_100 rfl (Or.inr ⟨_, rfl⟩) d_M_init_255 hA hB ?_
  generalize hh : xu h43 l0 (.inr (8, f47.set 35 (.ref (b44)))) = h48
  have hw := hw h48 hh.symm
  refine xw_iload_n d_M_init_258 rfl rfl ?_
  refine xw_iconst (v := 1) d_M_init_259 (by decide) ?_
  refine xw_icmp_ge (tgt := 267) d_M_init_260 (by decide) (fun c50 => ?_) (fun c50 => ?_)
  · have hw := hw.1 c50
    refine xw_iload_n d_M_init_267 rfl rfl ?_
    refine xw_bipush (v := 8) d_M_init_268 (by decide) ?_
    refine xw_icmp_le (tgt := 278) d_M_init_270 (by decide) (fun c49 => ?_) (fun c49 => ?_)
    · have hw := hw.1 c49
      refine xw_iload_n d_M_init_278 rfl rfl ?_
      exact p_M_init_279  (l0) (l1) (l2) (l3) (l1) h48 k45 k46 hw
    · have hw := hw.2 c49
      refine xw_bipush (v := 8) d_M_init_273 (by decide) ?_
      refine xw_goto (tgt := 279) d_M_init_275 (by decide) ?_
      exact p_M_init_279  (l0) (l1) (l2) (l3) (8) h48 k45 k46 hw
  · have hw := hw.2 c50
    refine xw_iconst (v := 1) d_M_init_263 (by decide) ?_
    refine xw_goto (tgt := 279) d_M_init_264 (by decide) ?_
    exact p_M_init_279  (l0) (l1) (l2) (l3) (1) h48 k45 k46 hw
set_option maxRecDepth 100000 in
def w_M_init_95 (Q : Option Value → xH → Prop) (l0 : Nat) (l1 : Int32) (l2 : Int32) (l3 : Int32) (h : xH) (kc : Nat) (ks : Nat) : Prop := ∃ k3 k4, kc = k3 + 1 ∧ ks = k4 + 128 ∧ ∀ b2 h1, b2 = h.1 + 1 → h1 = xn h (.inl (0, .inl (List.replicate 128 0))) → ∃ f5, h1.2 l0 = some (.inr (8, f5)) ∧ 12 < f5.length ∧ ∀ h6, h6 = xu h1 l0 (.inr (8, f5.set 12 (.ref (b2)))) → ∃ k9 k10, k3 = k9 + 1 ∧ k4 = k10 + 128 ∧ ∀ b8 h7, b8 = h6.1 + 1 → h7 = xn h6 (.inl (0, .inl (List.replicate 128 0))) → ∃ f11, h7.2 l0 = some (.inr (8, f11)) ∧ 13 < f11.length ∧ ∀ h12, h12 = xu h7 l0 (.inr (8, f11.set 13 (.ref (b8)))) → ∃ k15 k16, k9 = k15 + 1 ∧ k10 = k16 + 8 ∧ ∀ b14 h13, b14 = h12.1 + 1 → h13 = xn h12 (.inl (0, .inl (List.replicate 8 0))) → ∃ f17, h13.2 l0 = some (.inr (8, f17)) ∧ 15 < f17.length ∧ ∀ h18, h18 = xu h13 l0 (.inr (8, f17.set 15 (.ref (b14)))) → ∃ k21 k22, k15 = k21 + 1 ∧ k16 = k22 + 8 ∧ ∀ b20 h19, b20 = h18.1 + 1 → h19 = xn h18 (.inl (0, .inl (List.replicate 8 0))) → ∃ f23, h19.2 l0 = some (.inr (8, f23)) ∧ 16 < f23.length ∧ ∀ h24, h24 = xu h19 l0 (.inr (8, f23.set 16 (.ref (b20)))) → ∃ k27 k28, k21 = k27 + 1 ∧ k22 = k28 + 8 ∧ ∀ b26 h25, b26 = h24.1 + 1 → h25 = xn h24 (.inl (0, .inl (List.replicate 8 0))) → ∃ f29, h25.2 l0 = some (.inr (8, f29)) ∧ 17 < f29.length ∧ ∀ h30, h30 = xu h25 l0 (.inr (8, f29.set 17 (.ref (b26)))) → ∃ k33 k34, k27 = k33 + 1 ∧ k28 = k34 + 8 ∧ ∀ b32 h31, b32 = h30.1 + 1 → h31 = xn h30 (.inl (0, .inl (List.replicate 8 0))) → ∃ f35, h31.2 l0 = some (.inr (8, f35)) ∧ 18 < f35.length ∧ ∀ h36, h36 = xu h31 l0 (.inr (8, f35.set 18 (.ref (b32)))) → ∃ k39 k40, k33 = k39 + 1 ∧ k34 = k40 + 8 ∧ ∀ b38 h37, b38 = h36.1 + 1 → h37 = xn h36 (.inl (0, .inl (List.replicate 8 0))) → ∃ f41, h37.2 l0 = some (.inr (8, f41)) ∧ 19 < f41.length ∧ ∀ h42, h42 = xu h37 l0 (.inr (8, f41.set 19 (.ref (b38)))) → ∃ k45 k46, k39 = k45 + 1 ∧ k40 = k46 + 8 ∧ ∀ b44 h43, b44 = h42.1 + 1 → h43 = xn h42 (.inl (0, .inl (List.replicate 8 0))) → ∃ f47, h43.2 l0 = some (.inr (8, f47)) ∧ 20 < f47.length ∧ ∀ h48, h48 = xu h43 l0 (.inr (8, f47.set 20 (.ref (b44)))) → ∃ k51 k52, k45 = k51 + 1 ∧ k46 = k52 + 8 ∧ ∀ b50 h49, b50 = h48.1 + 1 → h49 = xn h48 (.inl (0, .inl (List.replicate 8 0))) → ∃ f53, h49.2 l0 = some (.inr (8, f53)) ∧ 21 < f53.length ∧ ∀ h54, h54 = xu h49 l0 (.inr (8, f53.set 21 (.ref (b50)))) → ∃ k57 k58, k51 = k57 + 1 ∧ k52 = k58 + 8 ∧ ∀ b56 h55, b56 = h54.1 + 1 → h55 = xn h54 (.inl (0, .inl (List.replicate 8 0))) → ∃ f59, h55.2 l0 = some (.inr (8, f59)) ∧ 22 < f59.length ∧ ∀ h60, h60 = xu h55 l0 (.inr (8, f59.set 22 (.ref (b56)))) → ∃ k63 k64, k57 = k63 + 1 ∧ k58 = k64 + 8 ∧ ∀ b62 h61, b62 = h60.1 + 1 → h61 = xn h60 (.inl (0, .inl (List.replicate 8 0))) → ∃ f65, h61.2 l0 = some (.inr (8, f65)) ∧ 23 < f65.length ∧ ∀ h66, h66 = xu h61 l0 (.inr (8, f65.set 23 (.ref (b62)))) → ∃ k69 k70, k63 = k69 + 1 ∧ k64 = k70 + 8 ∧ ∀ b68 h67, b68 = h66.1 + 1 → h67 = xn h66 (.inl (0, .inl (List.replicate 8 0))) → ∃ f71, h67.2 l0 = some (.inr (8, f71)) ∧ 24 < f71.length ∧ ∀ h72, h72 = xu h67 l0 (.inr (8, f71.set 24 (.ref (b68)))) → w_M_init_193 Q (l0) (l1) (l2) (l3) h72 k69 k70
set_option maxRecDepth 100000 in
set_option maxHeartbeats 4000000 in
theorem p_M_init_95 {sc : List Int32} {Q : Option Value → xH → Prop} (l0 : Nat) (l1 : Int32) (l2 : Int32) (l3 : Int32) (h : xH) (kc : Nat) (ks : Nat) (hw : w_M_init_95 Q l0 l1 l2 l3 h kc ks) : xW sc m_M_init 1 kc ks 95 [some (.ref (l0)), some (.int (l1)), some (.int (l2)), some (.int (l3)), none, none, none, none] [] h Q := by
  unfold w_M_init_95 at hw
  refine xw_aload_n d_M_init_95 rfl rfl ?_
  refine xw_sipush (v := 128) d_M_init_96 (by decide) ?_
  obtain ⟨k3, k4, hA, hB, hw⟩ := hw
  rw [hA, hB]
  refine xw_newarray (t := 0) (N := 128) rfl aI d_M_init_99 (by decide) (by decide) (by decide) ?_
  generalize hb : h.1 + 1 = b2
  generalize hh : xn h (.inl (0, .inl (List.replicate 128 0))) = h1
  have hw := hw b2 h1 hb.symm hh.symm
  obtain ⟨f5, hA, hB, hw⟩ := hw
  refine xw_putrF fs_M_43 rfl (Or.inr ⟨_, rfl⟩) d_M_init_101 hA hB ?_
  generalize hh : xu h1 l0 (.inr (8, f5.set 12 (.ref (b2)))) = h6
  have hw := hw h6 hh.symm
  refine xw_aload_n d_M_init_104 rfl rfl ?_
  refine xw_sipush (v := 128) d_M_init_105 (by decide) ?_
  obtain ⟨k9, k10, hA, hB, hw⟩ := hw
  rw [hA, hB]
  refine xw_newarray (t := 0) (N := 128) rfl aI d_M_init_108 (by decide) (by decide) (by decide) ?_
  generalize hb : h6.1 + 1 = b8
  generalize hh : xn h6 (.inl (0, .inl (List.replicate 128 0))) = h7
  have hw := hw b8 h7 hb.symm hh.symm
  obtain ⟨f11, hA, hB, hw⟩ := hw
  refine xw_putrF fs_M_46 rfl (Or.inr ⟨_, rfl⟩) d_M_init_110 hA hB ?_
  generalize hh : xu h7 l0 (.inr (8, f11.set 13 (.ref (b8)))) = h12
  have hw := hw h12 hh.symm
  refine xw_aload_n d_M_init_113 rfl rfl ?_
  refine xw_bipush (v := 8) d_M_init_114 (by decide) ?_
  obtain ⟨k15, k16, hA, hB, hw⟩ := hw
  rw [hA, hB]
  refine xw_newarray (t := 0) (N := 8) rfl aI d_M_init_116 (by decide) (by decide) (by decide) ?_
  generalize hb : h12.1 + 1 = b14
  generalize hh : xn h12 (.inl (0, .inl (List.replicate 8 0))) = h13
  have hw := hw b14 h13 hb.symm hh.symm
  obtain ⟨f17, hA, hB, hw⟩ := hw
  refine xw_putrF fs_M_49 rfl (Or.inr ⟨_, rfl⟩) d_M_init_118 hA hB ?_
  generalize hh : xu h13 l0 (.inr (8, f17.set 15 (.ref (b14)))) = h18
  have hw := hw h18 hh.symm
  refine xw_aload_n d_M_init_121 rfl rfl ?_
  refine xw_bipush (v := 8) d_M_init_122 (by decide) ?_
  obtain ⟨k21, k22, hA, hB, hw⟩ := hw
  rw [hA, hB]
  refine xw_newarray (t := 0) (N := 8) rfl aI d_M_init_124 (by decide) (by decide) (by decide) ?_
  generalize hb : h18.1 + 1 = b20
  generalize hh : xn h18 (.inl (0, .inl (List.replicate 8 0))) = h19
  have hw := hw b20 h19 hb.symm hh.symm
  obtain ⟨f23, hA, hB, hw⟩ := hw
  refine xw_putrF fs_M_52 rfl (Or.inr ⟨_, rfl⟩) d_M_init_126 hA hB ?_
  generalize hh : xu h19 l0 (.inr (8, f23.set 16 (.ref (b20)))) = h24
  have hw := hw h24 hh.symm
  refine xw_aload_n d_M_init_129 rfl rfl ?_
  refine xw_bipush (v := 8) d_M_init_130 (by decide) ?_
  obtain ⟨k27, k28, hA, hB, hw⟩ := hw
  rw [hA, hB]
  refine xw_newarray (t := 0) (N := 8) rfl aI d_M_init_132 (by decide) (by decide) (by decide) ?_
  generalize hb : h24.1 + 1 = b26
  generalize hh : xn h24 (.inl (0, .inl (List.replicate 8 0))) = h25
  have hw := hw b26 h25 hb.symm hh.symm
  obtain ⟨f29, hA, hB, hw⟩ := hw
  refine xw_putrF fs_M_55 rfl (Or.inr ⟨_, rfl⟩) d_M_init_134 hA hB ?_
  generalize hh : xu h25 l0 (.inr (8, f29.set 17 (.ref (b26)))) = h30
  have hw := hw h30 hh.symm
  refine xw_aload_n d_M_init_137 rfl rfl ?_
  refine xw_bipush (v := 8) d_M_init_138 (by decide) ?_
  obtain ⟨k33, k34, hA, hB, hw⟩ := hw
  rw [hA, hB]
  refine xw_newarray (t := 0) (N := 8) rfl aI d_M_init_140 (by decide) (by decide) (by decide) ?_
  generalize hb : h30.1 + 1 = b32
  generalize hh : xn h30 (.inl (0, .inl (List.replicate 8 0))) = h31
  have hw := hw b32 h31 hb.symm hh.symm
  obtain ⟨f35, hA, hB, hw⟩ := hw
  refine xw_putrF fs_M_58 rfl (Or.inr ⟨_, rfl⟩) d_M_init_142 hA hB ?_
  generalize hh : xu h31 l0 (.inr (8, f35.set 18 (.ref (b32)))) = h36
  have hw := hw h36 hh.symm
  refine xw_aload_n d_M_init_145 rfl rfl ?_
  refine xw_bipush (v := 8) d_M_init_146 (by decide) ?_
  obtain ⟨k39, k40, hA, hB, hw⟩ := hw
  rw [hA, hB]
  refine xw_newarray (t := 0) (N := 8) rfl aI d_M_init_148 (by decide) (by decide) (by decide) ?_
  generalize hb : h36.1 + 1 = b38
  generalize hh : xn h36 (.inl (0, .inl (List.replicate 8 0))) = h37
  have hw := hw b38 h37 hb.symm hh.symm
  obtain ⟨f41, hA, hB, hw⟩ := hw
  refine xw_putrF fs_M_61 rfl (Or.inr ⟨_, rfl⟩) d_M_init_150 hA hB ?_
  generalize hh : xu h37 l0 (.inr (8, f41.set 19 (.ref (b38)))) = h42
  have hw := hw h42 hh.symm
  refine xw_aload_n d_M_init_153 rfl rfl ?_
  refine xw_bipush (v := 8) d_M_init_154 (by decide) ?_
  obtain ⟨k45, k46, hA, hB, hw⟩ := hw
  rw [hA, hB]
  refine xw_newarray (t := 0) (N := 8) rfl aI d_M_init_156 (by decide) (by decide) (by decide) ?_
  generalize hb : h42.1 + 1 = b44
  generalize hh : xn h42 (.inl (0, .inl (List.replicate 8 0))) = h43
  have hw := hw b44 h43 hb.symm hh.symm
  obtain ⟨f47, hA, hB, hw⟩ := hw
  refine xw_putrF fs_M_64 rfl (Or.inr ⟨_, rfl⟩) d_M_init_158 hA hB ?_
  generalize hh : xu h43 l0 (.inr (8, f47.set 20 (.ref (b44)))) = h48
  have hw := hw h48 hh.symm
  refine xw_aload_n d_M_init_161 rfl rfl ?_
  refine xw_bipush (v := 8) d_M_init_162 (by decide) ?_
  obtain ⟨k51, k52, hA, hB, hw⟩ := hw
  rw [hA, hB]
  refine xw_newarray (t := 0) (N := 8) rfl aI d_M_init_164 (by decide) (by decide) (by decide) ?_
  generalize hb : h48.1 + 1 = b50
  generalize hh : xn h48 (.inl (0, .inl (List.replicate 8 0))) = h49
  have hw := hw b50 h49 hb.symm hh.symm
  obtain ⟨f53, hA, hB, hw⟩ := hw
  refine xw_putrF fs_M_67 rfl (Or.inr ⟨_, rfl⟩) d_M_init_166 hA hB ?_
  generalize hh : xu h49 l0 (.inr (8, f53.set 21 (.ref (b50)))) = h54
  have hw := hw h54 hh.symm
  refine xw_aload_n d_M_init_169 rfl rfl ?_
  refine xw_bipush (v := 8) d_M_init_170 (by decide) ?_
  obtain ⟨k57, k58, hA, hB, hw⟩ := hw
  rw [hA, hB]
  refine xw_newarray (t := 0) (N := 8) rfl aI d_M_init_172 (by decide) (by decide) (by decide) ?_
  generalize hb : h54.1 + 1 = b56
  generalize hh : xn h54 (.inl (0, .inl (List.replicate 8 0))) = h55
  have hw := hw b56 h55 hb.symm hh.symm
  obtain ⟨f59, hA, hB, hw⟩ := hw
  refine xw_putrF fs_M_70 rfl (Or.inr ⟨_, rfl⟩) d_M_init_174 hA hB ?_
  generalize hh : xu h55 l0 (.inr (8, f59.set 22 (.ref (b56)))) = h60
  have hw := hw h60 hh.symm
  refine xw_aload_n d_M_init_177 rfl rfl ?_
  refine xw_bipush (v := 8) d_M_init_178 (by decide) ?_
  obtain ⟨k63, k64, hA, hB, hw⟩ := hw
  rw [hA, hB]
  refine xw_newarray (t := 0) (N := 8) rfl aI d_M_init_180 (by decide) (by decide) (by decide) ?_
  generalize hb : h60.1 + 1 = b62
  generalize hh : xn h60 (.inl (0, .inl (List.replicate 8 0))) = h61
  have hw := hw b62 h61 hb.symm hh.symm
  obtain ⟨f65, hA, hB, hw⟩ := hw
  refine xw_putrF fs_M_73 rfl (Or.inr ⟨_, rfl⟩) d_M_init_182 hA hB ?_
  generalize hh : xu h61 l0 (.inr (8, f65.set 23 (.ref (b62)))) = h66
  have hw := hw h66 hh.symm
  refine xw_aload_n d_M_init_185 rfl rfl ?_
  refine xw_bipush (v := 8) d_M_init_186 (by decide) ?_
  obtain ⟨k69, k70, hA, hB, hw⟩ := hw
  rw [hA, hB]
  refine xw_newarray (t := 0) (N := 8) rfl aI d_M_init_188 (by decide) (by decide) (by decide) ?_
  generalize hb : h66.1 + 1 = b68
  generalize hh : xn h66 (.inl (0, .inl (List.replicate 8 0))) = h67
  have hw := hw b68 h67 hb.symm hh.symm
  obtain ⟨f71, hA, hB, hw⟩ := hw
  refine xw_putrF fs_M_76 rfl (Or.inr ⟨_, rfl⟩) d_M_init_190 hA hB ?_
  generalize hh : xu h67 l0 (.inr (8, f71.set 24 (.ref (b68)))) = h72
  have hw := hw h72 hh.symm
  exact p_M_init_193  (l0) (l1) (l2) (l3) h72 k69 k70 hw
set_option maxRecDepth 100000 in
def w_M_init (Q : Option Value → xH → Prop) (this : Nat) (p1 : Int32) (p2 : Int32) (p3 : Int32) (h : xH) (kc : Nat) (ks : Nat) : Prop := ∃ k3 k4, kc = k3 + 1 ∧ ks = k4 + 8 ∧ ∀ b2 h1, b2 = h.1 + 1 → h1 = xn h (.inl (0, .inl (List.replicate 8 0))) → ∃ f5, h1.2 this = some (.inr (8, f5)) ∧ 1 < f5.length ∧ ∀ h6, h6 = xu h1 this (.inr (8, f5.set 1 (.ref (b2)))) → ∃ k9 k10, k3 = k9 + 1 ∧ k4 = k10 + 8 ∧ ∀ b8 h7, b8 = h6.1 + 1 → h7 = xn h6 (.inl (0, .inl (List.replicate 8 0))) → ∃ f11, h7.2 this = some (.inr (8, f11)) ∧ 2 < f11.length ∧ ∀ h12, h12 = xu h7 this (.inr (8, f11.set 2 (.ref (b8)))) → ∃ k15 k16, k9 = k15 + 1 ∧ k10 = k16 + 8 ∧ ∀ b14 h13, b14 = h12.1 + 1 → h13 = xn h12 (.inl (0, .inl (List.replicate 8 0))) → ∃ f17, h13.2 this = some (.inr (8, f17)) ∧ 3 < f17.length ∧ ∀ h18, h18 = xu h13 this (.inr (8, f17.set 3 (.ref (b14)))) → ∃ k21 k22, k15 = k21 + 1 ∧ k16 = k22 + 8 ∧ ∀ b20 h19, b20 = h18.1 + 1 → h19 = xn h18 (.inl (0, .inl (List.replicate 8 0))) → ∃ f23, h19.2 this = some (.inr (8, f23)) ∧ 4 < f23.length ∧ ∀ h24, h24 = xu h19 this (.inr (8, f23.set 4 (.ref (b20)))) → ∃ k27 k28, k21 = k27 + 1 ∧ k22 = k28 + 8 ∧ ∀ b26 h25, b26 = h24.1 + 1 → h25 = xn h24 (.inl (0, .inl (List.replicate 8 0))) → ∃ f29, h25.2 this = some (.inr (8, f29)) ∧ 5 < f29.length ∧ ∀ h30, h30 = xu h25 this (.inr (8, f29.set 5 (.ref (b26)))) → ∃ k33 k34, k27 = k33 + 1 ∧ k28 = k34 + 32 ∧ ∀ b32 h31, b32 = h30.1 + 1 → h31 = xn h30 (.inl (0, .inl (List.replicate 32 0))) → ∃ f35, h31.2 this = some (.inr (8, f35)) ∧ 6 < f35.length ∧ ∀ h36, h36 = xu h31 this (.inr (8, f35.set 6 (.ref (b32)))) → ∃ k39 k40, k33 = k39 + 1 ∧ k34 = k40 + 32 ∧ ∀ b38 h37, b38 = h36.1 + 1 → h37 = xn h36 (.inl (0, .inl (List.replicate 32 0))) → ∃ f41, h37.2 this = some (.inr (8, f41)) ∧ 7 < f41.length ∧ ∀ h42, h42 = xu h37 this (.inr (8, f41.set 7 (.ref (b38)))) → ∃ k45 k46, k39 = k45 + 1 ∧ k40 = k46 + 32 ∧ ∀ b44 h43, b44 = h42.1 + 1 → h43 = xn h42 (.inl (0, .inl (List.replicate 32 0))) → ∃ f47, h43.2 this = some (.inr (8, f47)) ∧ 8 < f47.length ∧ ∀ h48, h48 = xu h43 this (.inr (8, f47.set 8 (.ref (b44)))) → ∃ k51 k52, k45 = k51 + 1 ∧ k46 = k52 + 128 ∧ ∀ b50 h49, b50 = h48.1 + 1 → h49 = xn h48 (.inl (0, .inl (List.replicate 128 0))) → ∃ f53, h49.2 this = some (.inr (8, f53)) ∧ 9 < f53.length ∧ ∀ h54, h54 = xu h49 this (.inr (8, f53.set 9 (.ref (b50)))) → ∃ k57 k58, k51 = k57 + 1 ∧ k52 = k58 + 128 ∧ ∀ b56 h55, b56 = h54.1 + 1 → h55 = xn h54 (.inl (0, .inl (List.replicate 128 0))) → ∃ f59, h55.2 this = some (.inr (8, f59)) ∧ 10 < f59.length ∧ ∀ h60, h60 = xu h55 this (.inr (8, f59.set 10 (.ref (b56)))) → ∃ k63 k64, k57 = k63 + 1 ∧ k58 = k64 + 128 ∧ ∀ b62 h61, b62 = h60.1 + 1 → h61 = xn h60 (.inl (0, .inl (List.replicate 128 0))) → ∃ f65, h61.2 this = some (.inr (8, f65)) ∧ 11 < f65.length ∧ ∀ h66, h66 = xu h61 this (.inr (8, f65.set 11 (.ref (b62)))) → w_M_init_95 Q (this) (p1) (p2) (p3) h66 k63 k64
set_option maxRecDepth 100000 in
set_option maxHeartbeats 4000000 in
theorem x_M_init {sc : List Int32} {Q : Option Value → xH → Prop} {this : Nat} {p1 : Int32} {p2 : Int32} {p3 : Int32} {h : xH} {kc : Nat} {ks : Nat} (hw : w_M_init Q this p1 p2 p3 h kc ks) : xMet sc m_M_init 1 kc ks [.ref (this), .int (p1), .int (p2), .int (p3)] h Q := by
  unfold w_M_init at hw
  refine xMet.of2 cw_M_init rfl rfl ?_
  show xW sc m_M_init 1 kc ks 0 [some (.ref (this)), some (.int (p1)), some (.int (p2)), some (.int (p3)), none, none, none, none] [] h Q
  refine xw_aload_n d_M_init_0 rfl rfl ?_
  refine xw_obj oi_M_1 d_M_init_1 (Nat.le_of_ble_eq_true rfl) (Nat.le_of_ble_eq_true rfl) ?_
  refine xw_aload_n d_M_init_4 rfl rfl ?_
  refine xw_bipush (v := 8) d_M_init_5 (by decide) ?_
  obtain ⟨k3, k4, hA, hB, hw⟩ := hw
  rw [hA, hB]
  refine xw_newarray (t := 0) (N := 8) rfl aI d_M_init_7 (by decide) (by decide) (by decide) ?_
  generalize hb : h.1 + 1 = b2
  generalize hh : xn h (.inl (0, .inl (List.replicate 8 0))) = h1
  have hw := hw b2 h1 hb.symm hh.symm
  obtain ⟨f5, hA, hB, hw⟩ := hw
  refine xw_putrF fs_M_9 rfl (Or.inr ⟨_, rfl⟩) d_M_init_9 hA hB ?_
  generalize hh : xu h1 this (.inr (8, f5.set 1 (.ref (b2)))) = h6
  have hw := hw h6 hh.symm
  refine xw_aload_n d_M_init_12 rfl rfl ?_
  refine xw_bipush (v := 8) d_M_init_13 (by decide) ?_
  obtain ⟨k9, k10, hA, hB, hw⟩ := hw
  rw [hA, hB]
  refine xw_newarray (t := 0) (N := 8) rfl aI d_M_init_15 (by decide) (by decide) (by decide) ?_
  generalize hb : h6.1 + 1 = b8
  generalize hh : xn h6 (.inl (0, .inl (List.replicate 8 0))) = h7
  have hw := hw b8 h7 hb.symm hh.symm
  obtain ⟨f11, hA, hB, hw⟩ := hw
  refine xw_putrF fs_M_13 rfl (Or.inr ⟨_, rfl⟩) d_M_init_17 hA hB ?_
  generalize hh : xu h7 this (.inr (8, f11.set 2 (.ref (b8)))) = h12
  have hw := hw h12 hh.symm
  refine xw_aload_n d_M_init_20 rfl rfl ?_
  refine xw_bipush (v := 8) d_M_init_21 (by decide) ?_
  obtain ⟨k15, k16, hA, hB, hw⟩ := hw
  rw [hA, hB]
  refine xw_newarray (t := 0) (N := 8) rfl aI d_M_init_23 (by decide) (by decide) (by decide) ?_
  generalize hb : h12.1 + 1 = b14
  generalize hh : xn h12 (.inl (0, .inl (List.replicate 8 0))) = h13
  have hw := hw b14 h13 hb.symm hh.symm
  obtain ⟨f17, hA, hB, hw⟩ := hw
  refine xw_putrF fs_M_16 rfl (Or.inr ⟨_, rfl⟩) d_M_init_25 hA hB ?_
  generalize hh : xu h13 this (.inr (8, f17.set 3 (.ref (b14)))) = h18
  have hw := hw h18 hh.symm
  refine xw_aload_n d_M_init_28 rfl rfl ?_
  refine xw_bipush (v := 8) d_M_init_29 (by decide) ?_
  obtain ⟨k21, k22, hA, hB, hw⟩ := hw
  rw [hA, hB]
  refine xw_newarray (t := 0) (N := 8) rfl aI d_M_init_31 (by decide) (by decide) (by decide) ?_
  generalize hb : h18.1 + 1 = b20
  generalize hh : xn h18 (.inl (0, .inl (List.replicate 8 0))) = h19
  have hw := hw b20 h19 hb.symm hh.symm
  obtain ⟨f23, hA, hB, hw⟩ := hw
  refine xw_putrF fs_M_19 rfl (Or.inr ⟨_, rfl⟩) d_M_init_33 hA hB ?_
  generalize hh : xu h19 this (.inr (8, f23.set 4 (.ref (b20)))) = h24
  have hw := hw h24 hh.symm
  refine xw_aload_n d_M_init_36 rfl rfl ?_
  refine xw_bipush (v := 8) d_M_init_37 (by decide) ?_
  obtain ⟨k27, k28, hA, hB, hw⟩ := hw
  rw [hA, hB]
  refine xw_newarray (t := 0) (N := 8) rfl aI d_M_init_39 (by decide) (by decide) (by decide) ?_
  generalize hb : h24.1 + 1 = b26
  generalize hh : xn h24 (.inl (0, .inl (List.replicate 8 0))) = h25
  have hw := hw b26 h25 hb.symm hh.symm
  obtain ⟨f29, hA, hB, hw⟩ := hw
  refine xw_putrF fs_M_22 rfl (Or.inr ⟨_, rfl⟩) d_M_init_41 hA hB ?_
  generalize hh : xu h25 this (.inr (8, f29.set 5 (.ref (b26)))) = h30
  have hw := hw h30 hh.symm
  refine xw_aload_n d_M_init_44 rfl rfl ?_
  refine xw_bipush (v := 32) d_M_init_45 (by decide) ?_
  obtain ⟨k33, k34, hA, hB, hw⟩ := hw
  rw [hA, hB]
  refine xw_newarray (t := 0) (N := 32) rfl aI d_M_init_47 (by decide) (by decide) (by decide) ?_
  generalize hb : h30.1 + 1 = b32
  generalize hh : xn h30 (.inl (0, .inl (List.replicate 32 0))) = h31
  have hw := hw b32 h31 hb.symm hh.symm
  obtain ⟨f35, hA, hB, hw⟩ := hw
  refine xw_putrF fs_M_25 rfl (Or.inr ⟨_, rfl⟩) d_M_init_49 hA hB ?_
  generalize hh : xu h31 this (.inr (8, f35.set 6 (.ref (b32)))) = h36
  have hw := hw h36 hh.symm
  refine xw_aload_n d_M_init_52 rfl rfl ?_
  refine xw_bipush (v := 32) d_M_init_53 (by decide) ?_
  obtain ⟨k39, k40, hA, hB, hw⟩ := hw
  rw [hA, hB]
  refine xw_newarray (t := 0) (N := 32) rfl aI d_M_init_55 (by decide) (by decide) (by decide) ?_
  generalize hb : h36.1 + 1 = b38
  generalize hh : xn h36 (.inl (0, .inl (List.replicate 32 0))) = h37
  have hw := hw b38 h37 hb.symm hh.symm
  obtain ⟨f41, hA, hB, hw⟩ := hw
  refine xw_putrF fs_M_28 rfl (Or.inr ⟨_, rfl⟩) d_M_init_57 hA hB ?_
  generalize hh : xu h37 this (.inr (8, f41.set 7 (.ref (b38)))) = h42
  have hw := hw h42 hh.symm
  refine xw_aload_n d_M_init_60 rfl rfl ?_
  refine xw_bipush (v := 32) d_M_init_61 (by decide) ?_
  obtain ⟨k45, k46, hA, hB, hw⟩ := hw
  rw [hA, hB]
  refine xw_newarray (t := 0) (N := 32) rfl aI d_M_init_63 (by decide) (by decide) (by decide) ?_
  generalize hb : h42.1 + 1 = b44
  generalize hh : xn h42 (.inl (0, .inl (List.replicate 32 0))) = h43
  have hw := hw b44 h43 hb.symm hh.symm
  obtain ⟨f47, hA, hB, hw⟩ := hw
  refine xw_putrF fs_M_31 rfl (Or.inr ⟨_, rfl⟩) d_M_init_65 hA hB ?_
  generalize hh : xu h43 this (.inr (8, f47.set 8 (.ref (b44)))) = h48
  have hw := hw h48 hh.symm
  refine xw_aload_n d_M_init_68 rfl rfl ?_
  refine xw_sipush (v := 128) d_M_init_69 (by decide) ?_
  obtain ⟨k51, k52, hA, hB, hw⟩ := hw
  rw [hA, hB]
  refine xw_newarray (t := 0) (N := 128) rfl aI d_M_init_72 (by decide) (by decide) (by decide) ?_
  generalize hb : h48.1 + 1 = b50
  generalize hh : xn h48 (.inl (0, .inl (List.replicate 128 0))) = h49
  have hw := hw b50 h49 hb.symm hh.symm
  obtain ⟨f53, hA, hB, hw⟩ := hw
  refine xw_putrF fs_M_34 rfl (Or.inr ⟨_, rfl⟩) d_M_init_74 hA hB ?_
  generalize hh : xu h49 this (.inr (8, f53.set 9 (.ref (b50)))) = h54
  have hw := hw h54 hh.symm
  refine xw_aload_n d_M_init_77 rfl rfl ?_
  refine xw_sipush (v := 128) d_M_init_78 (by decide) ?_
  obtain ⟨k57, k58, hA, hB, hw⟩ := hw
  rw [hA, hB]
  refine xw_newarray (t := 0) (N := 128) rfl aI d_M_init_81 (by decide) (by decide) (by decide) ?_
  generalize hb : h54.1 + 1 = b56
  generalize hh : xn h54 (.inl (0, .inl (List.replicate 128 0))) = h55
  have hw := hw b56 h55 hb.symm hh.symm
  obtain ⟨f59, hA, hB, hw⟩ := hw
  refine xw_putrF fs_M_37 rfl (Or.inr ⟨_, rfl⟩) d_M_init_83 hA hB ?_
  generalize hh : xu h55 this (.inr (8, f59.set 10 (.ref (b56)))) = h60
  have hw := hw h60 hh.symm
  refine xw_aload_n d_M_init_86 rfl rfl ?_
  refine xw_sipush (v := 128) d_M_init_87 (by decide) ?_
  obtain ⟨k63, k64, hA, hB, hw⟩ := hw
  rw [hA, hB]
  refine xw_newarray (t := 0) (N := 128) rfl aI d_M_init_90 (by decide) (by decide) (by decide) ?_
  generalize hb : h60.1 + 1 = b62
  generalize hh : xn h60 (.inl (0, .inl (List.replicate 128 0))) = h61
  have hw := hw b62 h61 hb.symm hh.symm
  obtain ⟨f65, hA, hB, hw⟩ := hw
  refine xw_putrF fs_M_40 rfl (Or.inr ⟨_, rfl⟩) d_M_init_92 hA hB ?_
  generalize hh : xu h61 this (.inr (8, f65.set 11 (.ref (b62)))) = h66
  have hw := hw h66 hh.symm
  exact p_M_init_95  (this) (p1) (p2) (p3) h66 k63 k64 hw
