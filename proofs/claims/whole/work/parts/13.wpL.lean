set_option maxRecDepth 100000 in
def w_L_cell (sc : List Int32) (Q : Option Value → xH → Prop) (p2 : Int32) (h : xH) : Prop := (((Int32.ofNat sc.length) ≤ p2 → Q (some (.int 0)) h) ∧ (¬ (Int32.ofNat sc.length) ≤ p2 → ∃ (x1 : Int32), 0 ≤ p2 ∧ sc[p2.toNatClampNeg]? = some x1 ∧ Q (some (.int x1)) h))
set_option maxRecDepth 100000 in
set_option maxHeartbeats 4000000 in
theorem x_L_cell {sc : List Int32} {Q : Option Value → xH → Prop} {p2 : Int32} {h : xH} (hw : w_L_cell sc Q p2 h) : xMet sc m_L_cell 0 0 0 [.ref 0, .int (p2)] h Q := by
  unfold w_L_cell at hw
  refine xMet.of2 cw_L_cell rfl rfl ?_
  show xW sc m_L_cell 0 0 0 0 [some (.ref 0), some (.int (p2))] [] h Q
  refine xw_iload_n d_L_cell_0 rfl rfl ?_
  refine xw_aload_n d_L_cell_1 rfl rfl ?_
  refine xw_slen d_L_cell_2 rfl ?_
  refine xw_icmp_ge (tgt := 12) d_L_cell_3 (by decide) (fun c2 => ?_) (fun c2 => ?_)
  · have hw := hw.1 c2
    refine xw_iconst (v := 0) d_L_cell_12 (by decide) ?_
    exact xw_ireturn rfl d_L_cell_13 hw
  · have hw := hw.2 c2
    refine xw_aload_n d_L_cell_6 rfl rfl ?_
    refine xw_iload_n d_L_cell_7 rfl rfl ?_
    obtain ⟨x1, hA, hB, hw⟩ := hw
    refine xw_sload d_L_cell_8 hA hB ?_
    refine xw_goto (tgt := 13) d_L_cell_9 (by decide) ?_
    exact xw_ireturn rfl d_L_cell_13 hw
set_option maxRecDepth 100000 in
def w_L_law_749 (sc : List Int32) (Q : Option Value → xH → Prop) (L48 : Nat → Nat → Int32 → xH → Nat → Nat → Prop) (l1 : Nat) (l2 : Nat) (l3 : Int32) (h : xH) (kc : Nat) (ks : Nat) : Prop := L48 (l1) (l2) (l3 + 5) h kc ks
set_option maxRecDepth 100000 in
set_option maxHeartbeats 4000000 in
theorem p_L_law_749 {sc : List Int32} {Q : Option Value → xH → Prop} {L48 : Nat → Nat → Int32 → xH → Nat → Nat → Prop} (hL48 : ∀ l1 l2 l3 h kc ks, L48 l1 l2 l3 h kc ks → xW sc m_L_law 13 kc ks 48 [some (.ref 0), some (.ref (l1)), some (.ref (l2)), some (.int (l3))] [] h Q) (l1 : Nat) (l2 : Nat) (l3 : Int32) (h : xH) (kc : Nat) (ks : Nat) (hw : w_L_law_749 sc Q L48 l1 l2 l3 h kc ks) : xW sc m_L_law 13 kc ks 749 [some (.ref 0), some (.ref (l1)), some (.ref (l2)), some (.int (l3))] [] h Q := by
  unfold w_L_law_749 at hw
  refine xs_iinc (v := l3 + 5) (lv' := [some (.ref 0), some (.ref (l1)), some (.ref (l2)), some (.int (l3 + 5))]) d_L_law_749 rfl rfl rfl ?_
  refine xw_goto (tgt := 48) d_L_law_752 (by decide) ?_
  exact hL48 (l1) (l2) (l3 + 5) h kc ks hw
set_option maxRecDepth 100000 in
def w_L_law_48 (sc : List Int32) (Q : Option Value → xH → Prop) : Nat → Nat → Nat → Int32 → xH → Nat → Nat → Prop
  | 0, _, _, _, _, _, _ => False
  | n + 1, l1, l2, l3, h, kc, ks => ((((Int32.ofNat sc.length) - 5) < l3 → (narrow .boolean (.int 1) = .int 1 ∧ Q (some (.int 1)) h)) ∧ (¬ ((Int32.ofNat sc.length) - 5) < l3 → ∃ (x1 : Int32), 0 ≤ l3 ∧ sc[l3.toNatClampNeg]? = some x1 ∧ (((x1 &&& 31) = 0 → ∃ (x3 : Int32), 0 ≤ (l3 + 1 : Int32) ∧ sc[(l3 + 1 : Int32).toNatClampNeg]? = some x3 ∧ ∃ (x4 : Int32), 0 ≤ (l3 + 2 : Int32) ∧ sc[(l3 + 2 : Int32).toNatClampNeg]? = some x4 ∧ (∃ f6, h.2 l1 = some (.inr (0, f6))) ∧ w_Q_read (fun v h5 => ∃ (x7 : Int32), v = some (.int x7) ∧ ∃ (x8 : Int32), 0 ≤ (l3 + 1 : Int32) ∧ sc[(l3 + 1 : Int32).toNatClampNeg]? = some x8 ∧ ∃ (x9 : Int32), 0 ≤ (l3 + 2 : Int32) ∧ sc[(l3 + 2 : Int32).toNatClampNeg]? = some x9 ∧ (∃ f11, h5.2 l2 = some (.inr (8, f11))) ∧ w_M_read (fun v h10 => ∃ (x12 : Int32), v = some (.int x12) ∧ ((x7 = x12 → w_L_law_749 sc Q (fun y0 y1 y2 yh yc ys => w_L_law_48 sc Q n y0 y1 y2 yh yc ys) (l1) (l2) (l3) h10 kc ks) ∧ (¬ x7 = x12 → (narrow .boolean (.int 0) = .int 0 ∧ Q (some (.int 0)) h10)))) l2 x8 x9 h5) l1 x3 x4 h) ∧ ((x1 &&& 31) = 1 → ∃ (x15 : Int32), 0 ≤ (l3 + 1 : Int32) ∧ sc[(l3 + 1 : Int32).toNatClampNeg]? = some x15 ∧ ∃ (x16 : Int32), 0 ≤ (l3 + 2 : Int32) ∧ sc[(l3 + 2 : Int32).toNatClampNeg]? = some x16 ∧ ∃ (x17 : Int32), 0 ≤ (l3 + 3 : Int32) ∧ sc[(l3 + 3 : Int32).toNatClampNeg]? = some x17 ∧ (∃ f19, h.2 l1 = some (.inr (0, f19))) ∧ w_Q_write (fun v h18 => ∃ (x20 : Int32), v = some (.int x20) ∧ ∃ (x21 : Int32), 0 ≤ (l3 + 1 : Int32) ∧ sc[(l3 + 1 : Int32).toNatClampNeg]? = some x21 ∧ ∃ (x22 : Int32), 0 ≤ (l3 + 2 : Int32) ∧ sc[(l3 + 2 : Int32).toNatClampNeg]? = some x22 ∧ ∃ (x23 : Int32), 0 ≤ (l3 + 3 : Int32) ∧ sc[(l3 + 3 : Int32).toNatClampNeg]? = some x23 ∧ (∃ f25, h18.2 l2 = some (.inr (8, f25))) ∧ w_M_write (fun v h24 => ∃ (x26 : Int32), v = some (.int x26) ∧ ((x20 = x26 → w_L_law_749 sc Q (fun y0 y1 y2 yh yc ys => w_L_law_48 sc Q n y0 y1 y2 yh yc ys) (l1) (l2) (l3) h24 kc ks) ∧ (¬ x20 = x26 → (narrow .boolean (.int 0) = .int 0 ∧ Q (some (.int 0)) h24)))) l2 x21 x22 x23 h18) l1 x15 x16 x17 h) ∧ ((x1 &&& 31) = 2 → ∃ (x29 : Int32), 0 ≤ (l3 + 1 : Int32) ∧ sc[(l3 + 1 : Int32).toNatClampNeg]? = some x29 ∧ ∃ (x30 : Int32), 0 ≤ (l3 + 2 : Int32) ∧ sc[(l3 + 2 : Int32).toNatClampNeg]? = some x30 ∧ ∃ (x31 : Int32), 0 ≤ (l3 + 3 : Int32) ∧ sc[(l3 + 3 : Int32).toNatClampNeg]? = some x31 ∧ ∃ (x32 : Int32), 0 ≤ (l3 + 4 : Int32) ∧ sc[(l3 + 4 : Int32).toNatClampNeg]? = some x32 ∧ (∃ f34, h.2 l1 = some (.inr (0, f34))) ∧ w_Q_propose (fun v h33 => ∃ (x35 : Int32), v = some (.int x35) ∧ ∃ (x36 : Int32), 0 ≤ (l3 + 1 : Int32) ∧ sc[(l3 + 1 : Int32).toNatClampNeg]? = some x36 ∧ ∃ (x37 : Int32), 0 ≤ (l3 + 2 : Int32) ∧ sc[(l3 + 2 : Int32).toNatClampNeg]? = some x37 ∧ ∃ (x38 : Int32), 0 ≤ (l3 + 3 : Int32) ∧ sc[(l3 + 3 : Int32).toNatClampNeg]? = some x38 ∧ ∃ (x39 : Int32), 0 ≤ (l3 + 4 : Int32) ∧ sc[(l3 + 4 : Int32).toNatClampNeg]? = some x39 ∧ (∃ f41, h33.2 l2 = some (.inr (8, f41))) ∧ w_M_propose (fun v h40 => ∃ (x42 : Int32), v = some (.int x42) ∧ ((x35 = x42 → w_L_law_749 sc Q (fun y0 y1 y2 yh yc ys => w_L_law_48 sc Q n y0 y1 y2 yh yc ys) (l1) (l2) (l3) h40 kc ks) ∧ (¬ x35 = x42 → (narrow .boolean (.int 0) = .int 0 ∧ Q (some (.int 0)) h40)))) l2 x36 x37 x38 x39 h33) l1 x29 x30 x31 x32 h) ∧ ((x1 &&& 31) = 3 → ∃ (x45 : Int32), 0 ≤ (l3 + 1 : Int32) ∧ sc[(l3 + 1 : Int32).toNatClampNeg]? = some x45 ∧ (∃ f47, h.2 l1 = some (.inr (0, f47))) ∧ w_Q_retire (fun v h46 => ∃ (x48 : Int32), v = some (.int x48) ∧ ∃ (x49 : Int32), 0 ≤ (l3 + 1 : Int32) ∧ sc[(l3 + 1 : Int32).toNatClampNeg]? = some x49 ∧ (∃ f51, h46.2 l2 = some (.inr (8, f51))) ∧ w_M_retire (fun v h50 => ∃ (x52 : Int32), v = some (.int x52) ∧ ((x48 = x52 → w_L_law_749 sc Q (fun y0 y1 y2 yh yc ys => w_L_law_48 sc Q n y0 y1 y2 yh yc ys) (l1) (l2) (l3) h50 kc ks) ∧ (¬ x48 = x52 → (narrow .boolean (.int 0) = .int 0 ∧ Q (some (.int 0)) h50)))) l2 x49 h46) l1 x45 h) ∧ ((x1 &&& 31) = 4 → ∃ (x55 : Int32), 0 ≤ (l3 + 1 : Int32) ∧ sc[(l3 + 1 : Int32).toNatClampNeg]? = some x55 ∧ (∃ f57, h.2 l1 = some (.inr (0, f57))) ∧ w_Q_again (fun v h56 => ∃ (x58 : Int32), v = some (.int x58) ∧ ∃ (x59 : Int32), 0 ≤ (l3 + 1 : Int32) ∧ sc[(l3 + 1 : Int32).toNatClampNeg]? = some x59 ∧ (∃ f61, h56.2 l2 = some (.inr (8, f61))) ∧ w_M_again (fun v h60 => ∃ (x62 : Int32), v = some (.int x62) ∧ ((x58 = x62 → w_L_law_749 sc Q (fun y0 y1 y2 yh yc ys => w_L_law_48 sc Q n y0 y1 y2 yh yc ys) (l1) (l2) (l3) h60 kc ks) ∧ (¬ x58 = x62 → (narrow .boolean (.int 0) = .int 0 ∧ Q (some (.int 0)) h60)))) l2 x59 h56) l1 x55 h) ∧ ((x1 &&& 31) = 5 → ∃ (x65 : Int32), 0 ≤ (l3 + 1 : Int32) ∧ sc[(l3 + 1 : Int32).toNatClampNeg]? = some x65 ∧ ∃ (x66 : Int32), 0 ≤ (l3 + 2 : Int32) ∧ sc[(l3 + 2 : Int32).toNatClampNeg]? = some x66 ∧ (∃ f68, h.2 l1 = some (.inr (0, f68))) ∧ w_Q_gossip (fun v h67 => ∃ (x69 : Int32), v = some (.int x69) ∧ ∃ (x70 : Int32), 0 ≤ (l3 + 1 : Int32) ∧ sc[(l3 + 1 : Int32).toNatClampNeg]? = some x70 ∧ ∃ (x71 : Int32), 0 ≤ (l3 + 2 : Int32) ∧ sc[(l3 + 2 : Int32).toNatClampNeg]? = some x71 ∧ (∃ f73, h67.2 l2 = some (.inr (8, f73))) ∧ w_M_gossip (fun v h72 => ∃ (x74 : Int32), v = some (.int x74) ∧ ((x69 = x74 → w_L_law_749 sc Q (fun y0 y1 y2 yh yc ys => w_L_law_48 sc Q n y0 y1 y2 yh yc ys) (l1) (l2) (l3) h72 kc ks) ∧ (¬ x69 = x74 → (narrow .boolean (.int 0) = .int 0 ∧ Q (some (.int 0)) h72)))) l2 x70 x71 h67) l1 x65 x66 h) ∧ ((x1 &&& 31) = 6 → ∃ (x77 : Int32), 0 ≤ (l3 + 1 : Int32) ∧ sc[(l3 + 1 : Int32).toNatClampNeg]? = some x77 ∧ ∃ (x78 : Int32), 0 ≤ (l3 + 2 : Int32) ∧ sc[(l3 + 2 : Int32).toNatClampNeg]? = some x78 ∧ (∃ f80, h.2 l1 = some (.inr (0, f80))) ∧ w_Q_join (fun v h79 => ∃ (x81 : Int32), v = some (.int x81) ∧ ∃ (x82 : Int32), 0 ≤ (l3 + 1 : Int32) ∧ sc[(l3 + 1 : Int32).toNatClampNeg]? = some x82 ∧ ∃ (x83 : Int32), 0 ≤ (l3 + 2 : Int32) ∧ sc[(l3 + 2 : Int32).toNatClampNeg]? = some x83 ∧ (∃ f85, h79.2 l2 = some (.inr (8, f85))) ∧ w_M_join (fun v h84 => ∃ (x86 : Int32), v = some (.int x86) ∧ ((x81 = x86 → w_L_law_749 sc Q (fun y0 y1 y2 yh yc ys => w_L_law_48 sc Q n y0 y1 y2 yh yc ys) (l1) (l2) (l3) h84 kc ks) ∧ (¬ x81 = x86 → (narrow .boolean (.int 0) = .int 0 ∧ Q (some (.int 0)) h84)))) l2 x82 x83 h79) l1 x77 x78 h) ∧ ((x1 &&& 31) = 7 → ∃ (x89 : Int32), 0 ≤ (l3 + 1 : Int32) ∧ sc[(l3 + 1 : Int32).toNatClampNeg]? = some x89 ∧ (∃ f91, h.2 l1 = some (.inr (0, f91))) ∧ w_Q_deliver (fun v h90 => ∃ (x92 : Int32), v = some (.int x92) ∧ ∃ (x93 : Int32), 0 ≤ (l3 + 1 : Int32) ∧ sc[(l3 + 1 : Int32).toNatClampNeg]? = some x93 ∧ (∃ f95, h90.2 l2 = some (.inr (8, f95))) ∧ w_M_deliver (fun v h94 => ∃ (x96 : Int32), v = some (.int x96) ∧ ((x92 = x96 → w_L_law_749 sc Q (fun y0 y1 y2 yh yc ys => w_L_law_48 sc Q n y0 y1 y2 yh yc ys) (l1) (l2) (l3) h94 kc ks) ∧ (¬ x92 = x96 → (narrow .boolean (.int 0) = .int 0 ∧ Q (some (.int 0)) h94)))) l2 x93 h90) l1 x89 h) ∧ ((x1 &&& 31) = 8 → ∃ (x99 : Int32), 0 ≤ (l3 + 1 : Int32) ∧ sc[(l3 + 1 : Int32).toNatClampNeg]? = some x99 ∧ (∃ f101, h.2 l1 = some (.inr (0, f101))) ∧ w_Q_lose (fun v h100 => ∃ (x102 : Int32), v = some (.int x102) ∧ ∃ (x103 : Int32), 0 ≤ (l3 + 1 : Int32) ∧ sc[(l3 + 1 : Int32).toNatClampNeg]? = some x103 ∧ (∃ f105, h100.2 l2 = some (.inr (8, f105))) ∧ w_M_lose (fun v h104 => ∃ (x106 : Int32), v = some (.int x106) ∧ ((x102 = x106 → w_L_law_749 sc Q (fun y0 y1 y2 yh yc ys => w_L_law_48 sc Q n y0 y1 y2 yh yc ys) (l1) (l2) (l3) h104 kc ks) ∧ (¬ x102 = x106 → (narrow .boolean (.int 0) = .int 0 ∧ Q (some (.int 0)) h104)))) l2 x103 h100) l1 x99 h) ∧ ((x1 &&& 31) = 9 → ∃ (x109 : Int32), 0 ≤ (l3 + 1 : Int32) ∧ sc[(l3 + 1 : Int32).toNatClampNeg]? = some x109 ∧ (∃ f111, h.2 l1 = some (.inr (0, f111))) ∧ w_Q_twice (fun v h110 => ∃ (x112 : Int32), v = some (.int x112) ∧ ∃ (x113 : Int32), 0 ≤ (l3 + 1 : Int32) ∧ sc[(l3 + 1 : Int32).toNatClampNeg]? = some x113 ∧ (∃ f115, h110.2 l2 = some (.inr (8, f115))) ∧ w_M_twice (fun v h114 => ∃ (x116 : Int32), v = some (.int x116) ∧ ((x112 = x116 → w_L_law_749 sc Q (fun y0 y1 y2 yh yc ys => w_L_law_48 sc Q n y0 y1 y2 yh yc ys) (l1) (l2) (l3) h114 kc ks) ∧ (¬ x112 = x116 → (narrow .boolean (.int 0) = .int 0 ∧ Q (some (.int 0)) h114)))) l2 x113 h110) l1 x109 h) ∧ ((x1 &&& 31) = 10 → ∃ (x119 : Int32), 0 ≤ (l3 + 1 : Int32) ∧ sc[(l3 + 1 : Int32).toNatClampNeg]? = some x119 ∧ (∃ f121, h.2 l1 = some (.inr (0, f121))) ∧ w_Q_crash (fun v h120 => ∃ (x122 : Int32), v = some (.int x122) ∧ ∃ (x123 : Int32), 0 ≤ (l3 + 1 : Int32) ∧ sc[(l3 + 1 : Int32).toNatClampNeg]? = some x123 ∧ (∃ f125, h120.2 l2 = some (.inr (8, f125))) ∧ w_M_crash (fun v h124 => ∃ (x126 : Int32), v = some (.int x126) ∧ ((x122 = x126 → w_L_law_749 sc Q (fun y0 y1 y2 yh yc ys => w_L_law_48 sc Q n y0 y1 y2 yh yc ys) (l1) (l2) (l3) h124 kc ks) ∧ (¬ x122 = x126 → (narrow .boolean (.int 0) = .int 0 ∧ Q (some (.int 0)) h124)))) l2 x123 h120) l1 x119 h) ∧ ((x1 &&& 31) = 11 → ∃ (x129 : Int32), 0 ≤ (l3 + 1 : Int32) ∧ sc[(l3 + 1 : Int32).toNatClampNeg]? = some x129 ∧ (∃ f131, h.2 l1 = some (.inr (0, f131))) ∧ w_Q_restart (fun v h130 => ∃ (x132 : Int32), v = some (.int x132) ∧ ∃ (x133 : Int32), 0 ≤ (l3 + 1 : Int32) ∧ sc[(l3 + 1 : Int32).toNatClampNeg]? = some x133 ∧ (∃ f135, h130.2 l2 = some (.inr (8, f135))) ∧ w_M_restart (fun v h134 => ∃ (x136 : Int32), v = some (.int x136) ∧ ((x132 = x136 → w_L_law_749 sc Q (fun y0 y1 y2 yh yc ys => w_L_law_48 sc Q n y0 y1 y2 yh yc ys) (l1) (l2) (l3) h134 kc ks) ∧ (¬ x132 = x136 → (narrow .boolean (.int 0) = .int 0 ∧ Q (some (.int 0)) h134)))) l2 x133 h130) l1 x129 h) ∧ ((x1 &&& 31) = 12 → ∃ (x139 : Int32), 0 ≤ (l3 + 1 : Int32) ∧ sc[(l3 + 1 : Int32).toNatClampNeg]? = some x139 ∧ ∃ (x140 : Int32), 0 ≤ (l3 + 2 : Int32) ∧ sc[(l3 + 2 : Int32).toNatClampNeg]? = some x140 ∧ (∃ f142, h.2 l1 = some (.inr (0, f142))) ∧ w_Q_arm (fun v h141 => ∃ (x143 : Int32), v = some (.int x143) ∧ ∃ (x144 : Int32), 0 ≤ (l3 + 1 : Int32) ∧ sc[(l3 + 1 : Int32).toNatClampNeg]? = some x144 ∧ ∃ (x145 : Int32), 0 ≤ (l3 + 2 : Int32) ∧ sc[(l3 + 2 : Int32).toNatClampNeg]? = some x145 ∧ (∃ f147, h141.2 l2 = some (.inr (8, f147))) ∧ w_M_arm (fun v h146 => ∃ (x148 : Int32), v = some (.int x148) ∧ ((x143 = x148 → w_L_law_749 sc Q (fun y0 y1 y2 yh yc ys => w_L_law_48 sc Q n y0 y1 y2 yh yc ys) (l1) (l2) (l3) h146 kc ks) ∧ (¬ x143 = x148 → (narrow .boolean (.int 0) = .int 0 ∧ Q (some (.int 0)) h146)))) l2 x144 x145 h141) l1 x139 x140 h) ∧ ((x1 &&& 31) = 13 → ∃ (x151 : Int32), 0 ≤ (l3 + 1 : Int32) ∧ sc[(l3 + 1 : Int32).toNatClampNeg]? = some x151 ∧ ∃ (x152 : Int32), 0 ≤ (l3 + 2 : Int32) ∧ sc[(l3 + 2 : Int32).toNatClampNeg]? = some x152 ∧ (∃ f154, h.2 l1 = some (.inr (0, f154))) ∧ w_Q_node (fun v h153 => ∃ (x155 : Int32), v = some (.int x155) ∧ ∃ (x156 : Int32), 0 ≤ (l3 + 1 : Int32) ∧ sc[(l3 + 1 : Int32).toNatClampNeg]? = some x156 ∧ ∃ (x157 : Int32), 0 ≤ (l3 + 2 : Int32) ∧ sc[(l3 + 2 : Int32).toNatClampNeg]? = some x157 ∧ (∃ f159, h153.2 l2 = some (.inr (8, f159))) ∧ w_M_node (fun v h158 => ∃ (x160 : Int32), v = some (.int x160) ∧ ((x155 = x160 → w_L_law_749 sc Q (fun y0 y1 y2 yh yc ys => w_L_law_48 sc Q n y0 y1 y2 yh yc ys) (l1) (l2) (l3) h158 kc ks) ∧ (¬ x155 = x160 → (narrow .boolean (.int 0) = .int 0 ∧ Q (some (.int 0)) h158)))) l2 x156 x157 h153) l1 x151 x152 h) ∧ ((x1 &&& 31) = 14 → ∃ (x163 : Int32), 0 ≤ (l3 + 1 : Int32) ∧ sc[(l3 + 1 : Int32).toNatClampNeg]? = some x163 ∧ ∃ (x164 : Int32), 0 ≤ (l3 + 2 : Int32) ∧ sc[(l3 + 2 : Int32).toNatClampNeg]? = some x164 ∧ ∃ (x165 : Int32), 0 ≤ (l3 + 3 : Int32) ∧ sc[(l3 + 3 : Int32).toNatClampNeg]? = some x165 ∧ (∃ f167, h.2 l1 = some (.inr (0, f167))) ∧ w_Q_cell (fun v h166 => ∃ (x168 : Int32), v = some (.int x168) ∧ ∃ (x169 : Int32), 0 ≤ (l3 + 1 : Int32) ∧ sc[(l3 + 1 : Int32).toNatClampNeg]? = some x169 ∧ ∃ (x170 : Int32), 0 ≤ (l3 + 2 : Int32) ∧ sc[(l3 + 2 : Int32).toNatClampNeg]? = some x170 ∧ ∃ (x171 : Int32), 0 ≤ (l3 + 3 : Int32) ∧ sc[(l3 + 3 : Int32).toNatClampNeg]? = some x171 ∧ (∃ f173, h166.2 l2 = some (.inr (8, f173))) ∧ w_M_cell (fun v h172 => ∃ (x174 : Int32), v = some (.int x174) ∧ ((x168 = x174 → w_L_law_749 sc Q (fun y0 y1 y2 yh yc ys => w_L_law_48 sc Q n y0 y1 y2 yh yc ys) (l1) (l2) (l3) h172 kc ks) ∧ (¬ x168 = x174 → (narrow .boolean (.int 0) = .int 0 ∧ Q (some (.int 0)) h172)))) l2 x169 x170 x171 h166) l1 x163 x164 x165 h) ∧ ((x1 &&& 31) = 15 → ∃ (x177 : Int32), 0 ≤ (l3 + 1 : Int32) ∧ sc[(l3 + 1 : Int32).toNatClampNeg]? = some x177 ∧ ∃ (x178 : Int32), 0 ≤ (l3 + 2 : Int32) ∧ sc[(l3 + 2 : Int32).toNatClampNeg]? = some x178 ∧ ∃ (x179 : Int32), 0 ≤ (l3 + 3 : Int32) ∧ sc[(l3 + 3 : Int32).toNatClampNeg]? = some x179 ∧ (∃ f181, h.2 l1 = some (.inr (0, f181))) ∧ w_Q_map (fun v h180 => ∃ (x182 : Int32), v = some (.int x182) ∧ ∃ (x183 : Int32), 0 ≤ (l3 + 1 : Int32) ∧ sc[(l3 + 1 : Int32).toNatClampNeg]? = some x183 ∧ ∃ (x184 : Int32), 0 ≤ (l3 + 2 : Int32) ∧ sc[(l3 + 2 : Int32).toNatClampNeg]? = some x184 ∧ ∃ (x185 : Int32), 0 ≤ (l3 + 3 : Int32) ∧ sc[(l3 + 3 : Int32).toNatClampNeg]? = some x185 ∧ (∃ f187, h180.2 l2 = some (.inr (8, f187))) ∧ w_M_map (fun v h186 => ∃ (x188 : Int32), v = some (.int x188) ∧ ((x182 = x188 → w_L_law_749 sc Q (fun y0 y1 y2 yh yc ys => w_L_law_48 sc Q n y0 y1 y2 yh yc ys) (l1) (l2) (l3) h186 kc ks) ∧ (¬ x182 = x188 → (narrow .boolean (.int 0) = .int 0 ∧ Q (some (.int 0)) h186)))) l2 x183 x184 x185 h180) l1 x177 x178 x179 h) ∧ ((x1 &&& 31) = 16 → ∃ (x191 : Int32), 0 ≤ (l3 + 1 : Int32) ∧ sc[(l3 + 1 : Int32).toNatClampNeg]? = some x191 ∧ ∃ (x192 : Int32), 0 ≤ (l3 + 2 : Int32) ∧ sc[(l3 + 2 : Int32).toNatClampNeg]? = some x192 ∧ (∃ f194, h.2 l1 = some (.inr (0, f194))) ∧ w_Q_task (fun v h193 => ∃ (x195 : Int32), v = some (.int x195) ∧ ∃ (x196 : Int32), 0 ≤ (l3 + 1 : Int32) ∧ sc[(l3 + 1 : Int32).toNatClampNeg]? = some x196 ∧ ∃ (x197 : Int32), 0 ≤ (l3 + 2 : Int32) ∧ sc[(l3 + 2 : Int32).toNatClampNeg]? = some x197 ∧ (∃ f199, h193.2 l2 = some (.inr (8, f199))) ∧ w_M_task (fun v h198 => ∃ (x200 : Int32), v = some (.int x200) ∧ ((x195 = x200 → w_L_law_749 sc Q (fun y0 y1 y2 yh yc ys => w_L_law_48 sc Q n y0 y1 y2 yh yc ys) (l1) (l2) (l3) h198 kc ks) ∧ (¬ x195 = x200 → (narrow .boolean (.int 0) = .int 0 ∧ Q (some (.int 0)) h198)))) l2 x196 x197 h193) l1 x191 x192 h) ∧ ((x1 &&& 31) = 17 → ∃ (x203 : Int32), 0 ≤ (l3 + 1 : Int32) ∧ sc[(l3 + 1 : Int32).toNatClampNeg]? = some x203 ∧ ∃ (x204 : Int32), 0 ≤ (l3 + 2 : Int32) ∧ sc[(l3 + 2 : Int32).toNatClampNeg]? = some x204 ∧ (∃ f206, h.2 l1 = some (.inr (0, f206))) ∧ w_Q_message (fun v h205 => ∃ (x207 : Int32), v = some (.int x207) ∧ ∃ (x208 : Int32), 0 ≤ (l3 + 1 : Int32) ∧ sc[(l3 + 1 : Int32).toNatClampNeg]? = some x208 ∧ ∃ (x209 : Int32), 0 ≤ (l3 + 2 : Int32) ∧ sc[(l3 + 2 : Int32).toNatClampNeg]? = some x209 ∧ (∃ f211, h205.2 l2 = some (.inr (8, f211))) ∧ w_M_message (fun v h210 => ∃ (x212 : Int32), v = some (.int x212) ∧ ((x207 = x212 → w_L_law_749 sc Q (fun y0 y1 y2 yh yc ys => w_L_law_48 sc Q n y0 y1 y2 yh yc ys) (l1) (l2) (l3) h210 kc ks) ∧ (¬ x207 = x212 → (narrow .boolean (.int 0) = .int 0 ∧ Q (some (.int 0)) h210)))) l2 x208 x209 h205) l1 x203 x204 h) ∧ ((x1 &&& 31) = 18 → ∃ (x215 : Int32), 0 ≤ (l3 + 1 : Int32) ∧ sc[(l3 + 1 : Int32).toNatClampNeg]? = some x215 ∧ (∃ f217, h.2 l1 = some (.inr (0, f217))) ∧ w_Q_count (fun v h216 => ∃ (x218 : Int32), v = some (.int x218) ∧ ∃ (x219 : Int32), 0 ≤ (l3 + 1 : Int32) ∧ sc[(l3 + 1 : Int32).toNatClampNeg]? = some x219 ∧ (∃ f221, h216.2 l2 = some (.inr (8, f221))) ∧ w_M_count (fun v h220 => ∃ (x222 : Int32), v = some (.int x222) ∧ ((x218 = x222 → w_L_law_749 sc Q (fun y0 y1 y2 yh yc ys => w_L_law_48 sc Q n y0 y1 y2 yh yc ys) (l1) (l2) (l3) h220 kc ks) ∧ (¬ x218 = x222 → (narrow .boolean (.int 0) = .int 0 ∧ Q (some (.int 0)) h220)))) l2 x219 h216) l1 x215 h) ∧ (¬ (x1 &&& 31) = 0 → ¬ (x1 &&& 31) = 1 → ¬ (x1 &&& 31) = 2 → ¬ (x1 &&& 31) = 3 → ¬ (x1 &&& 31) = 4 → ¬ (x1 &&& 31) = 5 → ¬ (x1 &&& 31) = 6 → ¬ (x1 &&& 31) = 7 → ¬ (x1 &&& 31) = 8 → ¬ (x1 &&& 31) = 9 → ¬ (x1 &&& 31) = 10 → ¬ (x1 &&& 31) = 11 → ¬ (x1 &&& 31) = 12 → ¬ (x1 &&& 31) = 13 → ¬ (x1 &&& 31) = 14 → ¬ (x1 &&& 31) = 15 → ¬ (x1 &&& 31) = 16 → ¬ (x1 &&& 31) = 17 → ¬ (x1 &&& 31) = 18 → w_L_law_749 sc Q (fun y0 y1 y2 yh yc ys => w_L_law_48 sc Q n y0 y1 y2 yh yc ys) (l1) (l2) (l3) h kc ks))))
set_option maxRecDepth 100000 in
set_option maxHeartbeats 4000000 in
theorem p_L_law_48 {sc : List Int32} {Q : Option Value → xH → Prop} : ∀ (n : Nat) (l1 : Nat) (l2 : Nat) (l3 : Int32) (h : xH) (kc : Nat) (ks : Nat), w_L_law_48 sc Q n l1 l2 l3 h kc ks → xW sc m_L_law 13 kc ks 48 [some (.ref 0), some (.ref (l1)), some (.ref (l2)), some (.int (l3))] [] h Q := by
  intro n
  induction n with
  | zero => intro l1 l2 l3 h kc ks hw; exact False.elim hw
  | succ n ih =>
    intro l1 l2 l3 h kc ks hw
    rw [w_L_law_48] at hw
    refine xw_iload_n d_L_law_48 rfl rfl ?_
    refine xw_aload_n d_L_law_49 rfl rfl ?_
    refine xw_slen d_L_law_50 rfl ?_
    refine xw_iconst (v := 5) d_L_law_51 (by decide) ?_
    refine xw_isub d_L_law_52 ?_
    refine xw_icmp_gt (tgt := 755) d_L_law_53 (by decide) (fun c225 => ?_) (fun c225 => ?_)
    · have hw := hw.1 c225
      refine xw_iconst (v := 1) d_L_law_755 (by decide) ?_
      exact xw_zreturn rfl hw.1 d_L_law_756 hw.2
    · have hw := hw.2 c225
      refine xw_aload_n d_L_law_56 rfl rfl ?_
      refine xw_iload_n d_L_law_57 rfl rfl ?_
      obtain ⟨x1, hA, hB, hw⟩ := hw
      refine xw_sload d_L_law_58 hA hB ?_
      refine xw_bipush (v := 31) d_L_law_59 (by decide) ?_
      refine xw_iand d_L_law_61 ?_
      generalize hxz2 : x1 &&& 31 = z2 at hw ⊢
      by_cases c14 : z2 = 0
      · have hw := hw.1 c14
        rw [c14]
        refine xw_tableIn (tgt := 152) (off := 90) d_L_law_62 (by decide) (by decide) (by decide +kernel) (by decide) ?_
        refine xw_aload_n d_L_law_152 rfl rfl ?_
        refine xw_aload_n d_L_law_153 rfl rfl ?_
        refine xw_iload_n d_L_law_154 rfl rfl ?_
        refine xw_iconst (v := 1) d_L_law_155 (by decide) ?_
        refine xw_iadd d_L_law_156 ?_
        obtain ⟨x3, hA, hB, hw⟩ := hw
        refine xw_sload d_L_law_157 hA hB ?_
        refine xw_aload_n d_L_law_158 rfl rfl ?_
        refine xw_iload_n d_L_law_159 rfl rfl ?_
        refine xw_iconst (v := 2) d_L_law_160 (by decide) ?_
        refine xw_iadd d_L_law_161 ?_
        obtain ⟨x4, hA, hB, hw⟩ := hw
        refine xw_sload d_L_law_162 hA hB ?_
        obtain ⟨⟨f6, hA⟩, hw⟩ := hw
        refine xc_V2i lk_L_21 in_Q_read d_L_law_163 (x_Q_read hw) rfl hA rfl ?_
        intro x7 h5 hw
        refine xw_aload_n d_L_law_166 rfl rfl ?_
        refine xw_aload_n d_L_law_167 rfl rfl ?_
        refine xw_iload_n d_L_law_168 rfl rfl ?_
        refine xw_iconst (v := 1) d_L_law_169 (by decide) ?_
        refine xw_iadd d_L_law_170 ?_
        obtain ⟨x8, hA, hB, hw⟩ := hw
        refine xw_sload d_L_law_171 hA hB ?_
        refine xw_aload_n d_L_law_172 rfl rfl ?_
        refine xw_iload_n d_L_law_173 rfl rfl ?_
        refine xw_iconst (v := 2) d_L_law_174 (by decide) ?_
        refine xw_iadd d_L_law_175 ?_
        obtain ⟨x9, hA, hB, hw⟩ := hw
        refine xw_sload d_L_law_176 hA hB ?_
        obtain ⟨⟨f11, hA⟩, hw⟩ := hw
        refine xc_V2i lk_L_25 in_M_read d_L_law_177 (x_M_read hw) rfl hA rfl ?_
        intro x12 h10 hw
        refine xw_icmp_eq (tgt := 749) d_L_law_180 (by decide) (fun c13 => ?_) (fun c13 => ?_)
        · have hw := hw.1 c13
          exact p_L_law_749 ih (l1) (l2) (l3) h10 kc ks hw
        · have hw := hw.2 c13
          refine xw_iconst (v := 0) d_L_law_183 (by decide) ?_
          exact xw_zreturn rfl hw.1 d_L_law_184 hw.2
      by_cases c28 : z2 = 1
      · have hw := hw.2.1 c28
        rw [c28]
        refine xw_tableIn (tgt := 185) (off := 123) d_L_law_62 (by decide) (by decide) (by decide +kernel) (by decide) ?_
        refine xw_aload_n d_L_law_185 rfl rfl ?_
        refine xw_aload_n d_L_law_186 rfl rfl ?_
        refine xw_iload_n d_L_law_187 rfl rfl ?_
        refine xw_iconst (v := 1) d_L_law_188 (by decide) ?_
        refine xw_iadd d_L_law_189 ?_
        obtain ⟨x15, hA, hB, hw⟩ := hw
        refine xw_sload d_L_law_190 hA hB ?_
        refine xw_aload_n d_L_law_191 rfl rfl ?_
        refine xw_iload_n d_L_law_192 rfl rfl ?_
        refine xw_iconst (v := 2) d_L_law_193 (by decide) ?_
        refine xw_iadd d_L_law_194 ?_
        obtain ⟨x16, hA, hB, hw⟩ := hw
        refine xw_sload d_L_law_195 hA hB ?_
        refine xw_aload_n d_L_law_196 rfl rfl ?_
        refine xw_iload_n d_L_law_197 rfl rfl ?_
        refine xw_iconst (v := 3) d_L_law_198 (by decide) ?_
        refine xw_iadd d_L_law_199 ?_
        obtain ⟨x17, hA, hB, hw⟩ := hw
        refine xw_sload d_L_law_200 hA hB ?_
        obtain ⟨⟨f19, hA⟩, hw⟩ := hw
        refine xc_V3i lk_L_26 in_Q_write d_L_law_201 (x_Q_write hw) rfl hA rfl ?_
        intro x20 h18 hw
        refine xw_aload_n d_L_law_204 rfl rfl ?_
        refine xw_aload_n d_L_law_205 rfl rfl ?_
        refine xw_iload_n d_L_law_206 rfl rfl ?_
        refine xw_iconst (v := 1) d_L_law_207 (by decide) ?_
        refine xw_iadd d_L_law_208 ?_
        obtain ⟨x21, hA, hB, hw⟩ := hw
        refine xw_sload d_L_law_209 hA hB ?_
        refine xw_aload_n d_L_law_210 rfl rfl ?_
        refine xw_iload_n d_L_law_211 rfl rfl ?_
        refine xw_iconst (v := 2) d_L_law_212 (by decide) ?_
        refine xw_iadd d_L_law_213 ?_
        obtain ⟨x22, hA, hB, hw⟩ := hw
        refine xw_sload d_L_law_214 hA hB ?_
        refine xw_aload_n d_L_law_215 rfl rfl ?_
        refine xw_iload_n d_L_law_216 rfl rfl ?_
        refine xw_iconst (v := 3) d_L_law_217 (by decide) ?_
        refine xw_iadd d_L_law_218 ?_
        obtain ⟨x23, hA, hB, hw⟩ := hw
        refine xw_sload d_L_law_219 hA hB ?_
        obtain ⟨⟨f25, hA⟩, hw⟩ := hw
        refine xc_V3i lk_L_30 in_M_write d_L_law_220 (x_M_write hw) rfl hA rfl ?_
        intro x26 h24 hw
        refine xw_icmp_eq (tgt := 749) d_L_law_223 (by decide) (fun c27 => ?_) (fun c27 => ?_)
        · have hw := hw.1 c27
          exact p_L_law_749 ih (l1) (l2) (l3) h24 kc ks hw
        · have hw := hw.2 c27
          refine xw_iconst (v := 0) d_L_law_226 (by decide) ?_
          exact xw_zreturn rfl hw.1 d_L_law_227 hw.2
      by_cases c44 : z2 = 2
      · have hw := hw.2.2.1 c44
        rw [c44]
        refine xw_tableIn (tgt := 228) (off := 166) d_L_law_62 (by decide) (by decide) (by decide +kernel) (by decide) ?_
        refine xw_aload_n d_L_law_228 rfl rfl ?_
        refine xw_aload_n d_L_law_229 rfl rfl ?_
        refine xw_iload_n d_L_law_230 rfl rfl ?_
        refine xw_iconst (v := 1) d_L_law_231 (by decide) ?_
        refine xw_iadd d_L_law_232 ?_
        obtain ⟨x29, hA, hB, hw⟩ := hw
        refine xw_sload d_L_law_233 hA hB ?_
        refine xw_aload_n d_L_law_234 rfl rfl ?_
        refine xw_iload_n d_L_law_235 rfl rfl ?_
        refine xw_iconst (v := 2) d_L_law_236 (by decide) ?_
        refine xw_iadd d_L_law_237 ?_
        obtain ⟨x30, hA, hB, hw⟩ := hw
        refine xw_sload d_L_law_238 hA hB ?_
        refine xw_aload_n d_L_law_239 rfl rfl ?_
        refine xw_iload_n d_L_law_240 rfl rfl ?_
        refine xw_iconst (v := 3) d_L_law_241 (by decide) ?_
        refine xw_iadd d_L_law_242 ?_
        obtain ⟨x31, hA, hB, hw⟩ := hw
        refine xw_sload d_L_law_243 hA hB ?_
        refine xw_aload_n d_L_law_244 rfl rfl ?_
        refine xw_iload_n d_L_law_245 rfl rfl ?_
        refine xw_iconst (v := 4) d_L_law_246 (by decide) ?_
        refine xw_iadd d_L_law_247 ?_
        obtain ⟨x32, hA, hB, hw⟩ := hw
        refine xw_sload d_L_law_248 hA hB ?_
        obtain ⟨⟨f34, hA⟩, hw⟩ := hw
        refine xc_V4i lk_L_31 in_Q_propose d_L_law_249 (x_Q_propose hw) rfl hA rfl ?_
        intro x35 h33 hw
        refine xw_aload_n d_L_law_252 rfl rfl ?_
        refine xw_aload_n d_L_law_253 rfl rfl ?_
        refine xw_iload_n d_L_law_254 rfl rfl ?_
        refine xw_iconst (v := 1) d_L_law_255 (by decide) ?_
        refine xw_iadd d_L_law_256 ?_
        obtain ⟨x36, hA, hB, hw⟩ := hw
        refine xw_sload d_L_law_257 hA hB ?_
        refine xw_aload_n d_L_law_258 rfl rfl ?_
        refine xw_iload_n d_L_law_259 rfl rfl ?_
        refine xw_iconst (v := 2) d_L_law_260 (by decide) ?_
        refine xw_iadd d_L_law_261 ?_
        obtain ⟨x37, hA, hB, hw⟩ := hw
        refine xw_sload d_L_law_262 hA hB ?_
        refine xw_aload_n d_L_law_263 rfl rfl ?_
        refine xw_iload_n d_L_law_264 rfl rfl ?_
        refine xw_iconst (v := 3) d_L_law_265 (by decide) ?_
        refine xw_iadd d_L_law_266 ?_
        obtain ⟨x38, hA, hB, hw⟩ := hw
        refine xw_sload d_L_law_267 hA hB ?_
        refine xw_aload_n d_L_law_268 rfl rfl ?_
        refine xw_iload_n d_L_law_269 rfl rfl ?_
        refine xw_iconst (v := 4) d_L_law_270 (by decide) ?_
        refine xw_iadd d_L_law_271 ?_
        obtain ⟨x39, hA, hB, hw⟩ := hw
        refine xw_sload d_L_law_272 hA hB ?_
        obtain ⟨⟨f41, hA⟩, hw⟩ := hw
        refine xc_V4i lk_L_35 in_M_propose d_L_law_273 (x_M_propose hw) rfl hA rfl ?_
        intro x42 h40 hw
        refine xw_icmp_eq (tgt := 749) d_L_law_276 (by decide) (fun c43 => ?_) (fun c43 => ?_)
        · have hw := hw.1 c43
          exact p_L_law_749 ih (l1) (l2) (l3) h40 kc ks hw
        · have hw := hw.2 c43
          refine xw_iconst (v := 0) d_L_law_279 (by decide) ?_
          exact xw_zreturn rfl hw.1 d_L_law_280 hw.2
      by_cases c54 : z2 = 3
      · have hw := hw.2.2.2.1 c54
        rw [c54]
        refine xw_tableIn (tgt := 281) (off := 219) d_L_law_62 (by decide) (by decide) (by decide +kernel) (by decide) ?_
        refine xw_aload_n d_L_law_281 rfl rfl ?_
        refine xw_aload_n d_L_law_282 rfl rfl ?_
        refine xw_iload_n d_L_law_283 rfl rfl ?_
        refine xw_iconst (v := 1) d_L_law_284 (by decide) ?_
        refine xw_iadd d_L_law_285 ?_
        obtain ⟨x45, hA, hB, hw⟩ := hw
        refine xw_sload d_L_law_286 hA hB ?_
        obtain ⟨⟨f47, hA⟩, hw⟩ := hw
        refine xc_V1i lk_L_36 in_Q_retire d_L_law_287 (x_Q_retire hw) rfl hA rfl ?_
        intro x48 h46 hw
        refine xw_aload_n d_L_law_290 rfl rfl ?_
        refine xw_aload_n d_L_law_291 rfl rfl ?_
        refine xw_iload_n d_L_law_292 rfl rfl ?_
        refine xw_iconst (v := 1) d_L_law_293 (by decide) ?_
        refine xw_iadd d_L_law_294 ?_
        obtain ⟨x49, hA, hB, hw⟩ := hw
        refine xw_sload d_L_law_295 hA hB ?_
        obtain ⟨⟨f51, hA⟩, hw⟩ := hw
        refine xc_V1i lk_L_40 in_M_retire d_L_law_296 (x_M_retire hw) rfl hA rfl ?_
        intro x52 h50 hw
        refine xw_icmp_eq (tgt := 749) d_L_law_299 (by decide) (fun c53 => ?_) (fun c53 => ?_)
        · have hw := hw.1 c53
          exact p_L_law_749 ih (l1) (l2) (l3) h50 kc ks hw
        · have hw := hw.2 c53
          refine xw_iconst (v := 0) d_L_law_302 (by decide) ?_
          exact xw_zreturn rfl hw.1 d_L_law_303 hw.2
      by_cases c64 : z2 = 4
      · have hw := hw.2.2.2.2.1 c64
        rw [c64]
        refine xw_tableIn (tgt := 304) (off := 242) d_L_law_62 (by decide) (by decide) (by decide +kernel) (by decide) ?_
        refine xw_aload_n d_L_law_304 rfl rfl ?_
        refine xw_aload_n d_L_law_305 rfl rfl ?_
        refine xw_iload_n d_L_law_306 rfl rfl ?_
        refine xw_iconst (v := 1) d_L_law_307 (by decide) ?_
        refine xw_iadd d_L_law_308 ?_
        obtain ⟨x55, hA, hB, hw⟩ := hw
        refine xw_sload d_L_law_309 hA hB ?_
        obtain ⟨⟨f57, hA⟩, hw⟩ := hw
        refine xc_V1i lk_L_41 in_Q_again d_L_law_310 (x_Q_again hw) rfl hA rfl ?_
        intro x58 h56 hw
        refine xw_aload_n d_L_law_313 rfl rfl ?_
        refine xw_aload_n d_L_law_314 rfl rfl ?_
        refine xw_iload_n d_L_law_315 rfl rfl ?_
        refine xw_iconst (v := 1) d_L_law_316 (by decide) ?_
        refine xw_iadd d_L_law_317 ?_
        obtain ⟨x59, hA, hB, hw⟩ := hw
        refine xw_sload d_L_law_318 hA hB ?_
        obtain ⟨⟨f61, hA⟩, hw⟩ := hw
        refine xc_V1i lk_L_44 in_M_again d_L_law_319 (x_M_again hw) rfl hA rfl ?_
        intro x62 h60 hw
        refine xw_icmp_eq (tgt := 749) d_L_law_322 (by decide) (fun c63 => ?_) (fun c63 => ?_)
        · have hw := hw.1 c63
          exact p_L_law_749 ih (l1) (l2) (l3) h60 kc ks hw
        · have hw := hw.2 c63
          refine xw_iconst (v := 0) d_L_law_325 (by decide) ?_
          exact xw_zreturn rfl hw.1 d_L_law_326 hw.2
      by_cases c76 : z2 = 5
      · have hw := hw.2.2.2.2.2.1 c76
        rw [c76]
        refine xw_tableIn (tgt := 327) (off := 265) d_L_law_62 (by decide) (by decide) (by decide +kernel) (by decide) ?_
        refine xw_aload_n d_L_law_327 rfl rfl ?_
        refine xw_aload_n d_L_law_328 rfl rfl ?_
        refine xw_iload_n d_L_law_329 rfl rfl ?_
        refine xw_iconst (v := 1) d_L_law_330 (by decide) ?_
        refine xw_iadd d_L_law_331 ?_
        obtain ⟨x65, hA, hB, hw⟩ := hw
        refine xw_sload d_L_law_332 hA hB ?_
        refine xw_aload_n d_L_law_333 rfl rfl ?_
        refine xw_iload_n d_L_law_334 rfl rfl ?_
        refine xw_iconst (v := 2) d_L_law_335 (by decide) ?_
        refine xw_iadd d_L_law_336 ?_
        obtain ⟨x66, hA, hB, hw⟩ := hw
        refine xw_sload d_L_law_337 hA hB ?_
        obtain ⟨⟨f68, hA⟩, hw⟩ := hw
        refine xc_V2i lk_L_45 in_Q_gossip d_L_law_338 (x_Q_gossip hw) rfl hA rfl ?_
        intro x69 h67 hw
        refine xw_aload_n d_L_law_341 rfl rfl ?_
        refine xw_aload_n d_L_law_342 rfl rfl ?_
        refine xw_iload_n d_L_law_343 rfl rfl ?_
        refine xw_iconst (v := 1) d_L_law_344 (by decide) ?_
        refine xw_iadd d_L_law_345 ?_
        obtain ⟨x70, hA, hB, hw⟩ := hw
        refine xw_sload d_L_law_346 hA hB ?_
        refine xw_aload_n d_L_law_347 rfl rfl ?_
        refine xw_iload_n d_L_law_348 rfl rfl ?_
        refine xw_iconst (v := 2) d_L_law_349 (by decide) ?_
        refine xw_iadd d_L_law_350 ?_
        obtain ⟨x71, hA, hB, hw⟩ := hw
        refine xw_sload d_L_law_351 hA hB ?_
        obtain ⟨⟨f73, hA⟩, hw⟩ := hw
        refine xc_V2i lk_L_49 in_M_gossip d_L_law_352 (x_M_gossip hw) rfl hA rfl ?_
        intro x74 h72 hw
        refine xw_icmp_eq (tgt := 749) d_L_law_355 (by decide) (fun c75 => ?_) (fun c75 => ?_)
        · have hw := hw.1 c75
          exact p_L_law_749 ih (l1) (l2) (l3) h72 kc ks hw
        · have hw := hw.2 c75
          refine xw_iconst (v := 0) d_L_law_358 (by decide) ?_
          exact xw_zreturn rfl hw.1 d_L_law_359 hw.2
      by_cases c88 : z2 = 6
      · have hw := hw.2.2.2.2.2.2.1 c88
        rw [c88]
        refine xw_tableIn (tgt := 360) (off := 298) d_L_law_62 (by decide) (by decide) (by decide +kernel) (by decide) ?_
        refine xw_aload_n d_L_law_360 rfl rfl ?_
        refine xw_aload_n d_L_law_361 rfl rfl ?_
        refine xw_iload_n d_L_law_362 rfl rfl ?_
        refine xw_iconst (v := 1) d_L_law_363 (by decide) ?_
        refine xw_iadd d_L_law_364 ?_
        obtain ⟨x77, hA, hB, hw⟩ := hw
        refine xw_sload d_L_law_365 hA hB ?_
        refine xw_aload_n d_L_law_366 rfl rfl ?_
        refine xw_iload_n d_L_law_367 rfl rfl ?_
        refine xw_iconst (v := 2) d_L_law_368 (by decide) ?_
        refine xw_iadd d_L_law_369 ?_
        obtain ⟨x78, hA, hB, hw⟩ := hw
        refine xw_sload d_L_law_370 hA hB ?_
        obtain ⟨⟨f80, hA⟩, hw⟩ := hw
        refine xc_V2i lk_L_50 in_Q_join d_L_law_371 (x_Q_join hw) rfl hA rfl ?_
        intro x81 h79 hw
        refine xw_aload_n d_L_law_374 rfl rfl ?_
        refine xw_aload_n d_L_law_375 rfl rfl ?_
        refine xw_iload_n d_L_law_376 rfl rfl ?_
        refine xw_iconst (v := 1) d_L_law_377 (by decide) ?_
        refine xw_iadd d_L_law_378 ?_
        obtain ⟨x82, hA, hB, hw⟩ := hw
        refine xw_sload d_L_law_379 hA hB ?_
        refine xw_aload_n d_L_law_380 rfl rfl ?_
        refine xw_iload_n d_L_law_381 rfl rfl ?_
        refine xw_iconst (v := 2) d_L_law_382 (by decide) ?_
        refine xw_iadd d_L_law_383 ?_
        obtain ⟨x83, hA, hB, hw⟩ := hw
        refine xw_sload d_L_law_384 hA hB ?_
        obtain ⟨⟨f85, hA⟩, hw⟩ := hw
        refine xc_V2i lk_L_53 in_M_join d_L_law_385 (x_M_join hw) rfl hA rfl ?_
        intro x86 h84 hw
        refine xw_icmp_eq (tgt := 749) d_L_law_388 (by decide) (fun c87 => ?_) (fun c87 => ?_)
        · have hw := hw.1 c87
          exact p_L_law_749 ih (l1) (l2) (l3) h84 kc ks hw
        · have hw := hw.2 c87
          refine xw_iconst (v := 0) d_L_law_391 (by decide) ?_
          exact xw_zreturn rfl hw.1 d_L_law_392 hw.2
      by_cases c98 : z2 = 7
      · have hw := hw.2.2.2.2.2.2.2.1 c98
        rw [c98]
        refine xw_tableIn (tgt := 393) (off := 331) d_L_law_62 (by decide) (by decide) (by decide +kernel) (by decide) ?_
        refine xw_aload_n d_L_law_393 rfl rfl ?_
        refine xw_aload_n d_L_law_394 rfl rfl ?_
        refine xw_iload_n d_L_law_395 rfl rfl ?_
        refine xw_iconst (v := 1) d_L_law_396 (by decide) ?_
        refine xw_iadd d_L_law_397 ?_
        obtain ⟨x89, hA, hB, hw⟩ := hw
        refine xw_sload d_L_law_398 hA hB ?_
        obtain ⟨⟨f91, hA⟩, hw⟩ := hw
        refine xc_V1i lk_L_54 in_Q_deliver d_L_law_399 (x_Q_deliver hw) rfl hA rfl ?_
        intro x92 h90 hw
        refine xw_aload_n d_L_law_402 rfl rfl ?_
        refine xw_aload_n d_L_law_403 rfl rfl ?_
        refine xw_iload_n d_L_law_404 rfl rfl ?_
        refine xw_iconst (v := 1) d_L_law_405 (by decide) ?_
        refine xw_iadd d_L_law_406 ?_
        obtain ⟨x93, hA, hB, hw⟩ := hw
        refine xw_sload d_L_law_407 hA hB ?_
        obtain ⟨⟨f95, hA⟩, hw⟩ := hw
        refine xc_V1i lk_L_57 in_M_deliver d_L_law_408 (x_M_deliver hw) rfl hA rfl ?_
        intro x96 h94 hw
        refine xw_icmp_eq (tgt := 749) d_L_law_411 (by decide) (fun c97 => ?_) (fun c97 => ?_)
        · have hw := hw.1 c97
          exact p_L_law_749 ih (l1) (l2) (l3) h94 kc ks hw
        · have hw := hw.2 c97
          refine xw_iconst (v := 0) d_L_law_414 (by decide) ?_
          exact xw_zreturn rfl hw.1 d_L_law_415 hw.2
      by_cases c108 : z2 = 8
      · have hw := hw.2.2.2.2.2.2.2.2.1 c108
        rw [c108]
        refine xw_tableIn (tgt := 416) (off := 354) d_L_law_62 (by decide) (by decide) (by decide +kernel) (by decide) ?_
        refine xw_aload_n d_L_law_416 rfl rfl ?_
        refine xw_aload_n d_L_law_417 rfl rfl ?_
        refine xw_iload_n d_L_law_418 rfl rfl ?_
        refine xw_iconst (v := 1) d_L_law_419 (by decide) ?_
        refine xw_iadd d_L_law_420 ?_
        obtain ⟨x99, hA, hB, hw⟩ := hw
        refine xw_sload d_L_law_421 hA hB ?_
        obtain ⟨⟨f101, hA⟩, hw⟩ := hw
        refine xc_V1i lk_L_58 in_Q_lose d_L_law_422 (x_Q_lose hw) rfl hA rfl ?_
        intro x102 h100 hw
        refine xw_aload_n d_L_law_425 rfl rfl ?_
        refine xw_aload_n d_L_law_426 rfl rfl ?_
        refine xw_iload_n d_L_law_427 rfl rfl ?_
        refine xw_iconst (v := 1) d_L_law_428 (by decide) ?_
        refine xw_iadd d_L_law_429 ?_
        obtain ⟨x103, hA, hB, hw⟩ := hw
        refine xw_sload d_L_law_430 hA hB ?_
        obtain ⟨⟨f105, hA⟩, hw⟩ := hw
        refine xc_V1i lk_L_62 in_M_lose d_L_law_431 (x_M_lose hw) rfl hA rfl ?_
        intro x106 h104 hw
        refine xw_icmp_eq (tgt := 749) d_L_law_434 (by decide) (fun c107 => ?_) (fun c107 => ?_)
        · have hw := hw.1 c107
          exact p_L_law_749 ih (l1) (l2) (l3) h104 kc ks hw
        · have hw := hw.2 c107
          refine xw_iconst (v := 0) d_L_law_437 (by decide) ?_
          exact xw_zreturn rfl hw.1 d_L_law_438 hw.2
      by_cases c118 : z2 = 9
      · have hw := hw.2.2.2.2.2.2.2.2.2.1 c118
        rw [c118]
        refine xw_tableIn (tgt := 439) (off := 377) d_L_law_62 (by decide) (by decide) (by decide +kernel) (by decide) ?_
        refine xw_aload_n d_L_law_439 rfl rfl ?_
        refine xw_aload_n d_L_law_440 rfl rfl ?_
        refine xw_iload_n d_L_law_441 rfl rfl ?_
        refine xw_iconst (v := 1) d_L_law_442 (by decide) ?_
        refine xw_iadd d_L_law_443 ?_
        obtain ⟨x109, hA, hB, hw⟩ := hw
        refine xw_sload d_L_law_444 hA hB ?_
        obtain ⟨⟨f111, hA⟩, hw⟩ := hw
        refine xc_V1i lk_L_63 in_Q_twice d_L_law_445 (x_Q_twice hw) rfl hA rfl ?_
        intro x112 h110 hw
        refine xw_aload_n d_L_law_448 rfl rfl ?_
        refine xw_aload_n d_L_law_449 rfl rfl ?_
        refine xw_iload_n d_L_law_450 rfl rfl ?_
        refine xw_iconst (v := 1) d_L_law_451 (by decide) ?_
        refine xw_iadd d_L_law_452 ?_
        obtain ⟨x113, hA, hB, hw⟩ := hw
        refine xw_sload d_L_law_453 hA hB ?_
        obtain ⟨⟨f115, hA⟩, hw⟩ := hw
        refine xc_V1i lk_L_66 in_M_twice d_L_law_454 (x_M_twice hw) rfl hA rfl ?_
        intro x116 h114 hw
        refine xw_icmp_eq (tgt := 749) d_L_law_457 (by decide) (fun c117 => ?_) (fun c117 => ?_)
        · have hw := hw.1 c117
          exact p_L_law_749 ih (l1) (l2) (l3) h114 kc ks hw
        · have hw := hw.2 c117
          refine xw_iconst (v := 0) d_L_law_460 (by decide) ?_
          exact xw_zreturn rfl hw.1 d_L_law_461 hw.2
      by_cases c128 : z2 = 10
      · have hw := hw.2.2.2.2.2.2.2.2.2.2.1 c128
        rw [c128]
        refine xw_tableIn (tgt := 462) (off := 400) d_L_law_62 (by decide) (by decide) (by decide +kernel) (by decide) ?_
        refine xw_aload_n d_L_law_462 rfl rfl ?_
        refine xw_aload_n d_L_law_463 rfl rfl ?_
        refine xw_iload_n d_L_law_464 rfl rfl ?_
        refine xw_iconst (v := 1) d_L_law_465 (by decide) ?_
        refine xw_iadd d_L_law_466 ?_
        obtain ⟨x119, hA, hB, hw⟩ := hw
        refine xw_sload d_L_law_467 hA hB ?_
        obtain ⟨⟨f121, hA⟩, hw⟩ := hw
        refine xc_V1i lk_L_67 in_Q_crash d_L_law_468 (x_Q_crash hw) rfl hA rfl ?_
        intro x122 h120 hw
        refine xw_aload_n d_L_law_471 rfl rfl ?_
        refine xw_aload_n d_L_law_472 rfl rfl ?_
        refine xw_iload_n d_L_law_473 rfl rfl ?_
        refine xw_iconst (v := 1) d_L_law_474 (by decide) ?_
        refine xw_iadd d_L_law_475 ?_
        obtain ⟨x123, hA, hB, hw⟩ := hw
        refine xw_sload d_L_law_476 hA hB ?_
        obtain ⟨⟨f125, hA⟩, hw⟩ := hw
        refine xc_V1i lk_L_70 in_M_crash d_L_law_477 (x_M_crash hw) rfl hA rfl ?_
        intro x126 h124 hw
        refine xw_icmp_eq (tgt := 749) d_L_law_480 (by decide) (fun c127 => ?_) (fun c127 => ?_)
        · have hw := hw.1 c127
          exact p_L_law_749 ih (l1) (l2) (l3) h124 kc ks hw
        · have hw := hw.2 c127
          refine xw_iconst (v := 0) d_L_law_483 (by decide) ?_
          exact xw_zreturn rfl hw.1 d_L_law_484 hw.2
      by_cases c138 : z2 = 11
      · have hw := hw.2.2.2.2.2.2.2.2.2.2.2.1 c138
        rw [c138]
        refine xw_tableIn (tgt := 485) (off := 423) d_L_law_62 (by decide) (by decide) (by decide +kernel) (by decide) ?_
        refine xw_aload_n d_L_law_485 rfl rfl ?_
        refine xw_aload_n d_L_law_486 rfl rfl ?_
        refine xw_iload_n d_L_law_487 rfl rfl ?_
        refine xw_iconst (v := 1) d_L_law_488 (by decide) ?_
        refine xw_iadd d_L_law_489 ?_
        obtain ⟨x129, hA, hB, hw⟩ := hw
        refine xw_sload d_L_law_490 hA hB ?_
        obtain ⟨⟨f131, hA⟩, hw⟩ := hw
        refine xc_V1i lk_L_71 in_Q_restart d_L_law_491 (x_Q_restart hw) rfl hA rfl ?_
        intro x132 h130 hw
        refine xw_aload_n d_L_law_494 rfl rfl ?_
        refine xw_aload_n d_L_law_495 rfl rfl ?_
        refine xw_iload_n d_L_law_496 rfl rfl ?_
        refine xw_iconst (v := 1) d_L_law_497 (by decide) ?_
        refine xw_iadd d_L_law_498 ?_
        obtain ⟨x133, hA, hB, hw⟩ := hw
        refine xw_sload d_L_law_499 hA hB ?_
        obtain ⟨⟨f135, hA⟩, hw⟩ := hw
        refine xc_V1i lk_L_74 in_M_restart d_L_law_500 (x_M_restart hw) rfl hA rfl ?_
        intro x136 h134 hw
        refine xw_icmp_eq (tgt := 749) d_L_law_503 (by decide) (fun c137 => ?_) (fun c137 => ?_)
        · have hw := hw.1 c137
          exact p_L_law_749 ih (l1) (l2) (l3) h134 kc ks hw
        · have hw := hw.2 c137
          refine xw_iconst (v := 0) d_L_law_506 (by decide) ?_
          exact xw_zreturn rfl hw.1 d_L_law_507 hw.2
      by_cases c150 : z2 = 12
      · have hw := hw.2.2.2.2.2.2.2.2.2.2.2.2.1 c150
        rw [c150]
        refine xw_tableIn (tgt := 508) (off := 446) d_L_law_62 (by decide) (by decide) (by decide +kernel) (by decide) ?_
        refine xw_aload_n d_L_law_508 rfl rfl ?_
        refine xw_aload_n d_L_law_509 rfl rfl ?_
        refine xw_iload_n d_L_law_510 rfl rfl ?_
        refine xw_iconst (v := 1) d_L_law_511 (by decide) ?_
        refine xw_iadd d_L_law_512 ?_
        obtain ⟨x139, hA, hB, hw⟩ := hw
        refine xw_sload d_L_law_513 hA hB ?_
        refine xw_aload_n d_L_law_514 rfl rfl ?_
        refine xw_iload_n d_L_law_515 rfl rfl ?_
        refine xw_iconst (v := 2) d_L_law_516 (by decide) ?_
        refine xw_iadd d_L_law_517 ?_
        obtain ⟨x140, hA, hB, hw⟩ := hw
        refine xw_sload d_L_law_518 hA hB ?_
        obtain ⟨⟨f142, hA⟩, hw⟩ := hw
        refine xc_V2i lk_L_75 in_Q_arm d_L_law_519 (x_Q_arm hw) rfl hA rfl ?_
        intro x143 h141 hw
        refine xw_aload_n d_L_law_522 rfl rfl ?_
        refine xw_aload_n d_L_law_523 rfl rfl ?_
        refine xw_iload_n d_L_law_524 rfl rfl ?_
        refine xw_iconst (v := 1) d_L_law_525 (by decide) ?_
        refine xw_iadd d_L_law_526 ?_
        obtain ⟨x144, hA, hB, hw⟩ := hw
        refine xw_sload d_L_law_527 hA hB ?_
        refine xw_aload_n d_L_law_528 rfl rfl ?_
        refine xw_iload_n d_L_law_529 rfl rfl ?_
        refine xw_iconst (v := 2) d_L_law_530 (by decide) ?_
        refine xw_iadd d_L_law_531 ?_
        obtain ⟨x145, hA, hB, hw⟩ := hw
        refine xw_sload d_L_law_532 hA hB ?_
        obtain ⟨⟨f147, hA⟩, hw⟩ := hw
        refine xc_V2i lk_L_78 in_M_arm d_L_law_533 (x_M_arm hw) rfl hA rfl ?_
        intro x148 h146 hw
        refine xw_icmp_eq (tgt := 749) d_L_law_536 (by decide) (fun c149 => ?_) (fun c149 => ?_)
        · have hw := hw.1 c149
          exact p_L_law_749 ih (l1) (l2) (l3) h146 kc ks hw
        · have hw := hw.2 c149
          refine xw_iconst (v := 0) d_L_law_539 (by decide) ?_
          exact xw_zreturn rfl hw.1 d_L_law_540 hw.2
      by_cases c162 : z2 = 13
      · have hw := hw.2.2.2.2.2.2.2.2.2.2.2.2.2.1 c162
        rw [c162]
        refine xw_tableIn (tgt := 541) (off := 479) d_L_law_62 (by decide) (by decide) (by decide +kernel) (by decide) ?_
        refine xw_aload_n d_L_law_541 rfl rfl ?_
        refine xw_aload_n d_L_law_542 rfl rfl ?_
        refine xw_iload_n d_L_law_543 rfl rfl ?_
        refine xw_iconst (v := 1) d_L_law_544 (by decide) ?_
        refine xw_iadd d_L_law_545 ?_
        obtain ⟨x151, hA, hB, hw⟩ := hw
        refine xw_sload d_L_law_546 hA hB ?_
        refine xw_aload_n d_L_law_547 rfl rfl ?_
        refine xw_iload_n d_L_law_548 rfl rfl ?_
        refine xw_iconst (v := 2) d_L_law_549 (by decide) ?_
        refine xw_iadd d_L_law_550 ?_
        obtain ⟨x152, hA, hB, hw⟩ := hw
        refine xw_sload d_L_law_551 hA hB ?_
        obtain ⟨⟨f154, hA⟩, hw⟩ := hw
        refine xc_V2i lk_L_79 in_Q_node d_L_law_552 (x_Q_node hw) rfl hA rfl ?_
        intro x155 h153 hw
        refine xw_aload_n d_L_law_555 rfl rfl ?_
        refine xw_aload_n d_L_law_556 rfl rfl ?_
        refine xw_iload_n d_L_law_557 rfl rfl ?_
        refine xw_iconst (v := 1) d_L_law_558 (by decide) ?_
        refine xw_iadd d_L_law_559 ?_
        obtain ⟨x156, hA, hB, hw⟩ := hw
        refine xw_sload d_L_law_560 hA hB ?_
        refine xw_aload_n d_L_law_561 rfl rfl ?_
        refine xw_iload_n d_L_law_562 rfl rfl ?_
        refine xw_iconst (v := 2) d_L_law_563 (by decide) ?_
        refine xw_iadd d_L_law_564 ?_
        obtain ⟨x157, hA, hB, hw⟩ := hw
        refine xw_sload d_L_law_565 hA hB ?_
        obtain ⟨⟨f159, hA⟩, hw⟩ := hw
        refine xc_V2i lk_L_82 in_M_node d_L_law_566 (x_M_node hw) rfl hA rfl ?_
        intro x160 h158 hw
        refine xw_icmp_eq (tgt := 749) d_L_law_569 (by decide) (fun c161 => ?_) (fun c161 => ?_)
        · have hw := hw.1 c161
          exact p_L_law_749 ih (l1) (l2) (l3) h158 kc ks hw
        · have hw := hw.2 c161
          refine xw_iconst (v := 0) d_L_law_572 (by decide) ?_
          exact xw_zreturn rfl hw.1 d_L_law_573 hw.2
      by_cases c176 : z2 = 14
      · have hw := hw.2.2.2.2.2.2.2.2.2.2.2.2.2.2.1 c176
        rw [c176]
        refine xw_tableIn (tgt := 574) (off := 512) d_L_law_62 (by decide) (by decide) (by decide +kernel) (by decide) ?_
        refine xw_aload_n d_L_law_574 rfl rfl ?_
        refine xw_aload_n d_L_law_575 rfl rfl ?_
        refine xw_iload_n d_L_law_576 rfl rfl ?_
        refine xw_iconst (v := 1) d_L_law_577 (by decide) ?_
        refine xw_iadd d_L_law_578 ?_
        obtain ⟨x163, hA, hB, hw⟩ := hw
        refine xw_sload d_L_law_579 hA hB ?_
        refine xw_aload_n d_L_law_580 rfl rfl ?_
        refine xw_iload_n d_L_law_581 rfl rfl ?_
        refine xw_iconst (v := 2) d_L_law_582 (by decide) ?_
        refine xw_iadd d_L_law_583 ?_
        obtain ⟨x164, hA, hB, hw⟩ := hw
        refine xw_sload d_L_law_584 hA hB ?_
        refine xw_aload_n d_L_law_585 rfl rfl ?_
        refine xw_iload_n d_L_law_586 rfl rfl ?_
        refine xw_iconst (v := 3) d_L_law_587 (by decide) ?_
        refine xw_iadd d_L_law_588 ?_
        obtain ⟨x165, hA, hB, hw⟩ := hw
        refine xw_sload d_L_law_589 hA hB ?_
        obtain ⟨⟨f167, hA⟩, hw⟩ := hw
        refine xc_V3i lk_L_83 in_Q_cell d_L_law_590 (x_Q_cell hw) rfl hA rfl ?_
        intro x168 h166 hw
        refine xw_aload_n d_L_law_593 rfl rfl ?_
        refine xw_aload_n d_L_law_594 rfl rfl ?_
        refine xw_iload_n d_L_law_595 rfl rfl ?_
        refine xw_iconst (v := 1) d_L_law_596 (by decide) ?_
        refine xw_iadd d_L_law_597 ?_
        obtain ⟨x169, hA, hB, hw⟩ := hw
        refine xw_sload d_L_law_598 hA hB ?_
        refine xw_aload_n d_L_law_599 rfl rfl ?_
        refine xw_iload_n d_L_law_600 rfl rfl ?_
        refine xw_iconst (v := 2) d_L_law_601 (by decide) ?_
        refine xw_iadd d_L_law_602 ?_
        obtain ⟨x170, hA, hB, hw⟩ := hw
        refine xw_sload d_L_law_603 hA hB ?_
        refine xw_aload_n d_L_law_604 rfl rfl ?_
        refine xw_iload_n d_L_law_605 rfl rfl ?_
        refine xw_iconst (v := 3) d_L_law_606 (by decide) ?_
        refine xw_iadd d_L_law_607 ?_
        obtain ⟨x171, hA, hB, hw⟩ := hw
        refine xw_sload d_L_law_608 hA hB ?_
        obtain ⟨⟨f173, hA⟩, hw⟩ := hw
        refine xc_V3i lk_L_85 in_M_cell d_L_law_609 (x_M_cell hw) rfl hA rfl ?_
        intro x174 h172 hw
        refine xw_icmp_eq (tgt := 749) d_L_law_612 (by decide) (fun c175 => ?_) (fun c175 => ?_)
        · have hw := hw.1 c175
          exact p_L_law_749 ih (l1) (l2) (l3) h172 kc ks hw
        · have hw := hw.2 c175
          refine xw_iconst (v := 0) d_L_law_615 (by decide) ?_
          exact xw_zreturn rfl hw.1 d_L_law_616 hw.2
      by_cases c190 : z2 = 15
      · have hw := hw.2.2.2.2.2.2.2.2.2.2.2.2.2.2.2.1 c190
        rw [c190]
        refine xw_tableIn (tgt := 617) (off := 555) d_L_law_62 (by decide) (by decide) (by decide +kernel) (by decide) ?_
        refine xw_aload_n d_L_law_617 rfl rfl ?_
        refine xw_aload_n d_L_law_618 rfl rfl ?_
        refine xw_iload_n d_L_law_619 rfl rfl ?_
        refine xw_iconst (v := 1) d_L_law_620 (by decide) ?_
        refine xw_iadd d_L_law_621 ?_
        obtain ⟨x177, hA, hB, hw⟩ := hw
        refine xw_sload d_L_law_622 hA hB ?_
        refine xw_aload_n d_L_law_623 rfl rfl ?_
        refine xw_iload_n d_L_law_624 rfl rfl ?_
        refine xw_iconst (v := 2) d_L_law_625 (by decide) ?_
        refine xw_iadd d_L_law_626 ?_
        obtain ⟨x178, hA, hB, hw⟩ := hw
        refine xw_sload d_L_law_627 hA hB ?_
        refine xw_aload_n d_L_law_628 rfl rfl ?_
        refine xw_iload_n d_L_law_629 rfl rfl ?_
        refine xw_iconst (v := 3) d_L_law_630 (by decide) ?_
        refine xw_iadd d_L_law_631 ?_
        obtain ⟨x179, hA, hB, hw⟩ := hw
        refine xw_sload d_L_law_632 hA hB ?_
        obtain ⟨⟨f181, hA⟩, hw⟩ := hw
        refine xc_V3i lk_L_86 in_Q_map d_L_law_633 (x_Q_map hw) rfl hA rfl ?_
        intro x182 h180 hw
        refine xw_aload_n d_L_law_636 rfl rfl ?_
        refine xw_aload_n d_L_law_637 rfl rfl ?_
        refine xw_iload_n d_L_law_638 rfl rfl ?_
        refine xw_iconst (v := 1) d_L_law_639 (by decide) ?_
        refine xw_iadd d_L_law_640 ?_
        obtain ⟨x183, hA, hB, hw⟩ := hw
        refine xw_sload d_L_law_641 hA hB ?_
        refine xw_aload_n d_L_law_642 rfl rfl ?_
        refine xw_iload_n d_L_law_643 rfl rfl ?_
        refine xw_iconst (v := 2) d_L_law_644 (by decide) ?_
        refine xw_iadd d_L_law_645 ?_
        obtain ⟨x184, hA, hB, hw⟩ := hw
        refine xw_sload d_L_law_646 hA hB ?_
        refine xw_aload_n d_L_law_647 rfl rfl ?_
        refine xw_iload_n d_L_law_648 rfl rfl ?_
        refine xw_iconst (v := 3) d_L_law_649 (by decide) ?_
        refine xw_iadd d_L_law_650 ?_
        obtain ⟨x185, hA, hB, hw⟩ := hw
        refine xw_sload d_L_law_651 hA hB ?_
        obtain ⟨⟨f187, hA⟩, hw⟩ := hw
        refine xc_V3i lk_L_89 in_M_map d_L_law_652 (x_M_map hw) rfl hA rfl ?_
        intro x188 h186 hw
        refine xw_icmp_eq (tgt := 749) d_L_law_655 (by decide) (fun c189 => ?_) (fun c189 => ?_)
        · have hw := hw.1 c189
          exact p_L_law_749 ih (l1) (l2) (l3) h186 kc ks hw
        · have hw := hw.2 c189
          refine xw_iconst (v := 0) d_L_law_658 (by decide) ?_
          exact xw_zreturn rfl hw.1 d_L_law_659 hw.2
      by_cases c202 : z2 = 16
      · have hw := hw.2.2.2.2.2.2.2.2.2.2.2.2.2.2.2.2.1 c202
        rw [c202]
        refine xw_tableIn (tgt := 660) (off := 598) d_L_law_62 (by decide) (by decide) (by decide +kernel) (by decide) ?_
        refine xw_aload_n d_L_law_660 rfl rfl ?_
        refine xw_aload_n d_L_law_661 rfl rfl ?_
        refine xw_iload_n d_L_law_662 rfl rfl ?_
        refine xw_iconst (v := 1) d_L_law_663 (by decide) ?_
        refine xw_iadd d_L_law_664 ?_
        obtain ⟨x191, hA, hB, hw⟩ := hw
        refine xw_sload d_L_law_665 hA hB ?_
        refine xw_aload_n d_L_law_666 rfl rfl ?_
        refine xw_iload_n d_L_law_667 rfl rfl ?_
        refine xw_iconst (v := 2) d_L_law_668 (by decide) ?_
        refine xw_iadd d_L_law_669 ?_
        obtain ⟨x192, hA, hB, hw⟩ := hw
        refine xw_sload d_L_law_670 hA hB ?_
        obtain ⟨⟨f194, hA⟩, hw⟩ := hw
        refine xc_V2i lk_L_90 in_Q_task d_L_law_671 (x_Q_task hw) rfl hA rfl ?_
        intro x195 h193 hw
        refine xw_aload_n d_L_law_674 rfl rfl ?_
        refine xw_aload_n d_L_law_675 rfl rfl ?_
        refine xw_iload_n d_L_law_676 rfl rfl ?_
        refine xw_iconst (v := 1) d_L_law_677 (by decide) ?_
        refine xw_iadd d_L_law_678 ?_
        obtain ⟨x196, hA, hB, hw⟩ := hw
        refine xw_sload d_L_law_679 hA hB ?_
        refine xw_aload_n d_L_law_680 rfl rfl ?_
        refine xw_iload_n d_L_law_681 rfl rfl ?_
        refine xw_iconst (v := 2) d_L_law_682 (by decide) ?_
        refine xw_iadd d_L_law_683 ?_
        obtain ⟨x197, hA, hB, hw⟩ := hw
        refine xw_sload d_L_law_684 hA hB ?_
        obtain ⟨⟨f199, hA⟩, hw⟩ := hw
        refine xc_V2i lk_L_93 in_M_task d_L_law_685 (x_M_task hw) rfl hA rfl ?_
        intro x200 h198 hw
        refine xw_icmp_eq (tgt := 749) d_L_law_688 (by decide) (fun c201 => ?_) (fun c201 => ?_)
        · have hw := hw.1 c201
          exact p_L_law_749 ih (l1) (l2) (l3) h198 kc ks hw
        · have hw := hw.2 c201
          refine xw_iconst (v := 0) d_L_law_691 (by decide) ?_
          exact xw_zreturn rfl hw.1 d_L_law_692 hw.2
      by_cases c214 : z2 = 17
      · have hw := hw.2.2.2.2.2.2.2.2.2.2.2.2.2.2.2.2.2.1 c214
        rw [c214]
        refine xw_tableIn (tgt := 693) (off := 631) d_L_law_62 (by decide) (by decide) (by decide +kernel) (by decide) ?_
        refine xw_aload_n d_L_law_693 rfl rfl ?_
        refine xw_aload_n d_L_law_694 rfl rfl ?_
        refine xw_iload_n d_L_law_695 rfl rfl ?_
        refine xw_iconst (v := 1) d_L_law_696 (by decide) ?_
        refine xw_iadd d_L_law_697 ?_
        obtain ⟨x203, hA, hB, hw⟩ := hw
        refine xw_sload d_L_law_698 hA hB ?_
        refine xw_aload_n d_L_law_699 rfl rfl ?_
        refine xw_iload_n d_L_law_700 rfl rfl ?_
        refine xw_iconst (v := 2) d_L_law_701 (by decide) ?_
        refine xw_iadd d_L_law_702 ?_
        obtain ⟨x204, hA, hB, hw⟩ := hw
        refine xw_sload d_L_law_703 hA hB ?_
        obtain ⟨⟨f206, hA⟩, hw⟩ := hw
        refine xc_V2i lk_L_94 in_Q_message d_L_law_704 (x_Q_message hw) rfl hA rfl ?_
        intro x207 h205 hw
        refine xw_aload_n d_L_law_707 rfl rfl ?_
        refine xw_aload_n d_L_law_708 rfl rfl ?_
        refine xw_iload_n d_L_law_709 rfl rfl ?_
        refine xw_iconst (v := 1) d_L_law_710 (by decide) ?_
        refine xw_iadd d_L_law_711 ?_
        obtain ⟨x208, hA, hB, hw⟩ := hw
        refine xw_sload d_L_law_712 hA hB ?_
        refine xw_aload_n d_L_law_713 rfl rfl ?_
        refine xw_iload_n d_L_law_714 rfl rfl ?_
        refine xw_iconst (v := 2) d_L_law_715 (by decide) ?_
        refine xw_iadd d_L_law_716 ?_
        obtain ⟨x209, hA, hB, hw⟩ := hw
        refine xw_sload d_L_law_717 hA hB ?_
        obtain ⟨⟨f211, hA⟩, hw⟩ := hw
        refine xc_V2i lk_L_97 in_M_message d_L_law_718 (x_M_message hw) rfl hA rfl ?_
        intro x212 h210 hw
        refine xw_icmp_eq (tgt := 749) d_L_law_721 (by decide) (fun c213 => ?_) (fun c213 => ?_)
        · have hw := hw.1 c213
          exact p_L_law_749 ih (l1) (l2) (l3) h210 kc ks hw
        · have hw := hw.2 c213
          refine xw_iconst (v := 0) d_L_law_724 (by decide) ?_
          exact xw_zreturn rfl hw.1 d_L_law_725 hw.2
      by_cases c224 : z2 = 18
      · have hw := hw.2.2.2.2.2.2.2.2.2.2.2.2.2.2.2.2.2.2.1 c224
        rw [c224]
        refine xw_tableIn (tgt := 726) (off := 664) d_L_law_62 (by decide) (by decide) (by decide +kernel) (by decide) ?_
        refine xw_aload_n d_L_law_726 rfl rfl ?_
        refine xw_aload_n d_L_law_727 rfl rfl ?_
        refine xw_iload_n d_L_law_728 rfl rfl ?_
        refine xw_iconst (v := 1) d_L_law_729 (by decide) ?_
        refine xw_iadd d_L_law_730 ?_
        obtain ⟨x215, hA, hB, hw⟩ := hw
        refine xw_sload d_L_law_731 hA hB ?_
        obtain ⟨⟨f217, hA⟩, hw⟩ := hw
        refine xc_V1i lk_L_98 in_Q_count d_L_law_732 (x_Q_count hw) rfl hA rfl ?_
        intro x218 h216 hw
        refine xw_aload_n d_L_law_735 rfl rfl ?_
        refine xw_aload_n d_L_law_736 rfl rfl ?_
        refine xw_iload_n d_L_law_737 rfl rfl ?_
        refine xw_iconst (v := 1) d_L_law_738 (by decide) ?_
        refine xw_iadd d_L_law_739 ?_
        obtain ⟨x219, hA, hB, hw⟩ := hw
        refine xw_sload d_L_law_740 hA hB ?_
        obtain ⟨⟨f221, hA⟩, hw⟩ := hw
        refine xc_V1i lk_L_101 in_M_count d_L_law_741 (x_M_count hw) rfl hA rfl ?_
        intro x222 h220 hw
        refine xw_icmp_eq (tgt := 749) d_L_law_744 (by decide) (fun c223 => ?_) (fun c223 => ?_)
        · have hw := hw.1 c223
          exact p_L_law_749 ih (l1) (l2) (l3) h220 kc ks hw
        · have hw := hw.2 c223
          refine xw_iconst (v := 0) d_L_law_747 (by decide) ?_
          exact xw_zreturn rfl hw.1 d_L_law_748 hw.2
      have hw := hw.2.2.2.2.2.2.2.2.2.2.2.2.2.2.2.2.2.2.2 c14 c28 c44 c54 c64 c76 c88 c98 c108 c118 c128 c138 c150 c162 c176 c190 c202 c214 c224
      have ec14 := lv_neT c14 (a := 0) (by decide)
      have ec28 := lv_neT c28 (a := 1) (by decide)
      have ec44 := lv_neT c44 (a := 2) (by decide)
      have ec54 := lv_neT c54 (a := 3) (by decide)
      have ec64 := lv_neT c64 (a := 4) (by decide)
      have ec76 := lv_neT c76 (a := 5) (by decide)
      have ec88 := lv_neT c88 (a := 6) (by decide)
      have ec98 := lv_neT c98 (a := 7) (by decide)
      have ec108 := lv_neT c108 (a := 8) (by decide)
      have ec118 := lv_neT c118 (a := 9) (by decide)
      have ec128 := lv_neT c128 (a := 10) (by decide)
      have ec138 := lv_neT c138 (a := 11) (by decide)
      have ec150 := lv_neT c150 (a := 12) (by decide)
      have ec162 := lv_neT c162 (a := 13) (by decide)
      have ec176 := lv_neT c176 (a := 14) (by decide)
      have ec190 := lv_neT c190 (a := 15) (by decide)
      have ec202 := lv_neT c202 (a := 16) (by decide)
      have ec214 := lv_neT c214 (a := 17) (by decide)
      have ec224 := lv_neT c224 (a := 18) (by decide)
      refine xw_tableOut (tgt := 749) d_L_law_62 (by omega) (by decide) ?_
      exact p_L_law_749 ih (l1) (l2) (l3) h kc ks hw
set_option maxRecDepth 100000 in
def w_L_law (sc : List Int32) (Q : Option Value → xH → Prop) (h : xH) (kc : Nat) (ks : Nat) : Prop := ∃ k3 k4, kc = k3 + 1 ∧ ks = k4 + 5 ∧ ∀ b2 h1, b2 = h.1 + 1 → h1 = xn h (.inr (0, [.null, .null, .null, .null, .int 0])) → w_L_cell sc (fun v h5 => ∃ (x6 : Int32), v = some (.int x6) ∧ w_L_cell sc (fun v h7 => ∃ (x8 : Int32), v = some (.int x8) ∧ w_L_cell sc (fun v h9 => ∃ (x10 : Int32), v = some (.int x10) ∧ ∃ k12 k13 k14 k15, k3 = k12 + k13 ∧ k4 = k14 + k15 ∧ w_Q_init (fun v h11 => v = none ∧ ∃ k18 k19, k13 = k18 + 1 ∧ k15 = k19 + 36 ∧ ∀ b17 h16, b17 = h11.1 + 1 → h16 = xn h11 (.inr (8, [.int 0, .null, .null, .null, .null, .null, .null, .null, .null, .null, .null, .null, .null, .null, .int 0, .null, .null, .null, .null, .null, .null, .null, .null, .null, .null, .null, .null, .null, .null, .null, .null, .int 0, .null, .int 0, .int 0, .null])) → w_L_cell sc (fun v h20 => ∃ (x21 : Int32), v = some (.int x21) ∧ w_L_cell sc (fun v h22 => ∃ (x23 : Int32), v = some (.int x23) ∧ w_L_cell sc (fun v h24 => ∃ (x25 : Int32), v = some (.int x25) ∧ ∃ k27 k28 k29 k30, k18 = k27 + k28 ∧ k19 = k29 + k30 ∧ w_M_init (fun v h26 => v = none ∧ ∃ n31, w_L_law_48 sc Q n31 (b2) (b17) (3) h26 k28 k30) b17 x21 x23 x25 h24 k27 k29) 2 h22) 1 h20) 0 h16) b2 x6 x8 x10 h9 k12 k14) 2 h7) 1 h5) 0 h1
set_option maxRecDepth 100000 in
set_option maxHeartbeats 4000000 in
theorem p_L_law {sc : List Int32} {Q : Option Value → xH → Prop} {h : xH} {kc : Nat} {ks : Nat} (hw : w_L_law sc Q h kc ks) : xW sc m_L_law 13 kc ks 0 [some (.ref 0), none, none, none] [] h Q := by
  unfold w_L_law at hw
  obtain ⟨k3, k4, hA, hB, hw⟩ := hw
  rw [hA, hB]
  refine xw_new ns_L_7 d_L_law_0 ?_
  generalize hb : h.1 + 1 = b2
  generalize hh : xn h (.inr (0, [.null, .null, .null, .null, .int 0])) = h1
  have hw := hw b2 h1 hb.symm hh.symm
  refine xw_dup d_L_law_3 rfl ?_
  refine xw_aload_n d_L_law_4 rfl rfl ?_
  refine xw_iconst (v := 0) d_L_law_5 (by decide) ?_
  refine xc_S2i lk_L_9 st_L_cell d_L_law_6 (x_L_cell hw) rfl rfl ?_
  intro x6 h5 hw
  refine xw_aload_n d_L_law_9 rfl rfl ?_
  refine xw_iconst (v := 1) d_L_law_10 (by decide) ?_
  refine xc_S2i lk_L_9 st_L_cell d_L_law_11 (x_L_cell hw) rfl rfl ?_
  intro x8 h7 hw
  refine xw_aload_n d_L_law_14 rfl rfl ?_
  refine xw_iconst (v := 2) d_L_law_15 (by decide) ?_
  refine xc_S2i lk_L_9 st_L_cell d_L_law_16 (x_L_cell hw) rfl rfl ?_
  intro x10 h9 hw
  obtain ⟨k12, k13, k14, k15, hA, hB, hw⟩ := hw
  refine xc_I3 lk_L_15 rfl rfl im_Q_init d_L_law_19 hA hB (x_Q_init hw) rfl rfl ?_
  intro h11 hw
  refine xs_astore_n (lv' := [some (.ref 0), some (.ref (b2)), none, none]) d_L_law_22 rfl rfl rfl ?_
  obtain ⟨k18, k19, hA, hB, hw⟩ := hw
  rw [hA, hB]
  refine xw_new ns_L_18 d_L_law_23 ?_
  generalize hb : h11.1 + 1 = b17
  generalize hh : xn h11 (.inr (8, [.int 0, .null, .null, .null, .null, .null, .null, .null, .null, .null, .null, .null, .null, .null, .int 0, .null, .null, .null, .null, .null, .null, .null, .null, .null, .null, .null, .null, .null, .null, .null, .null, .int 0, .null, .int 0, .int 0, .null])) = h16
  have hw := hw b17 h16 hb.symm hh.symm
  refine xw_dup d_L_law_26 rfl ?_
  refine xw_aload_n d_L_law_27 rfl rfl ?_
  refine xw_iconst (v := 0) d_L_law_28 (by decide) ?_
  refine xc_S2i lk_L_9 st_L_cell d_L_law_29 (x_L_cell hw) rfl rfl ?_
  intro x21 h20 hw
  refine xw_aload_n d_L_law_32 rfl rfl ?_
  refine xw_iconst (v := 1) d_L_law_33 (by decide) ?_
  refine xc_S2i lk_L_9 st_L_cell d_L_law_34 (x_L_cell hw) rfl rfl ?_
  intro x23 h22 hw
  refine xw_aload_n d_L_law_37 rfl rfl ?_
  refine xw_iconst (v := 2) d_L_law_38 (by decide) ?_
  refine xc_S2i lk_L_9 st_L_cell d_L_law_39 (x_L_cell hw) rfl rfl ?_
  intro x25 h24 hw
  obtain ⟨k27, k28, k29, k30, hA, hB, hw⟩ := hw
  refine xc_I3 lk_L_20 rfl rfl im_M_init d_L_law_42 hA hB (x_M_init hw) rfl rfl ?_
  intro h26 hw
  refine xs_astore_n (lv' := [some (.ref 0), some (.ref (b2)), some (.ref (b17)), none]) d_L_law_45 rfl rfl rfl ?_
  refine xw_iconst (v := 3) d_L_law_46 (by decide) ?_
  refine xs_istore_n (lv' := [some (.ref 0), some (.ref (b2)), some (.ref (b17)), some (.int (3))]) d_L_law_47 rfl rfl rfl ?_
  obtain ⟨n31, hw⟩ := hw
  exact p_L_law_48  n31 (b2) (b17) (3) h26 k28 k30 hw
