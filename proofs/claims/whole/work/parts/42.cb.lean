/-! the class's numbers, rows; find -/
section CK
variable {c : Nat} {g : xH} {s : cS} {v : Int32} {i m : Nat} {n : nv}
theorem sK_1 : (sK s i v).1 = s.1 := rfl
theorem sK_2 : (sK s i v).2.1 = s.2.1 := rfl
theorem sK_3 : (sK s i v).2.2.1 = up1 s.2.2.1 i v := rfl
theorem sK_4 : (sK s i v).2.2.2 = s.2.2.2 := rfl
theorem cN_sK : cN (sK s i v) m n = sK (cN s m n) i v := rfl
theorem cM_sK : cM (sK s i v) m n = sK (cM s m n) i v := rfl
theorem cl_uk {s' : cS} {d : Nat} {e : xE} (hd : d < 4) (he : gcell c s' d = e) (ho : ∀ b, b < 4 → b ≠ d → gcell c s' b = gcell c s b) (h1 : s'.1 = s.1) (h2 : s'.2.1 = s.2.1) : xu (cl c g s) (c + d) e = cl c g s' := by
  refine cl_upd (by omega) ?_ ?_
  · unfold ccell
    rw [if_pos hd, he]
  · intro b hb hne
    unfold ccell
    by_cases h4 : b < 4
    · rw [if_pos h4, if_pos h4, ho b h4 hne]
    · rw [if_neg h4, if_neg h4]
      by_cases h9 : b < 988
      · rw [if_pos h9, if_pos h9]
        exact mcell_cg (Nat.mod_lt _ (by decide)) (by rw [h2])
      · rw [if_neg h9, if_neg h9]
        exact ncell_cg (Nat.mod_lt _ (by decide)) (by rw [h1])
theorem ug_0 : xu (cl c g s) c (.inr (0, (og_0 c s).set 4 (.int v))) = cl c g (sK s 0 v) := by
  refine cl_uk (d := 0) (by decide) ?_ ?_ rfl rfl
  · show Sum.inr (0, og_0 c (sK s 0 v)) = _
    simp [og_0, sK, up1]
  · intro b hb hne
    match b, hb, hne with
    | 0, _, h => exact absurd rfl h
    | 1, _, _ => rfl
    | 2, _, _ => rfl
    | 3, _, _ => rfl
    | q + 4, hb, _ => omega
theorem ug_1 : xu (cl c g s) (c + 2) (.inr (2, (og_2 c s).set 2 (.int v))) = cl c g (sK s 1 v) := by
  refine cl_uk (d := 2) (by decide) ?_ ?_ rfl rfl
  · show Sum.inr (2, og_2 c (sK s 1 v)) = _
    simp [og_2, sK, up1]
  · intro b hb hne
    match b, hb, hne with
    | 0, _, _ => rfl
    | 1, _, _ => rfl
    | 2, _, h => exact absurd rfl h
    | 3, _, _ => rfl
    | q + 4, hb, _ => omega
theorem ug_2 : xu (cl c g s) (c + 2) (.inr (2, (og_2 c s).set 3 (.int v))) = cl c g (sK s 2 v) := by
  refine cl_uk (d := 2) (by decide) ?_ ?_ rfl rfl
  · show Sum.inr (2, og_2 c (sK s 2 v)) = _
    simp [og_2, sK, up1]
  · intro b hb hne
    match b, hb, hne with
    | 0, _, _ => rfl
    | 1, _, _ => rfl
    | 2, _, h => exact absurd rfl h
    | 3, _, _ => rfl
    | q + 4, hb, _ => omega
end CK
theorem rng_get {α : Type} {N k : Nat} {f : Nat → α} (h : k < N) : ((List.range N).map f)[k]? = some (f k) := by simp [h]
theorem xt1 : xTys[1]? = xTys[1]? := rfl
def bc (x : Int32) : Int32 := (((((((x - (((x.toUInt32 >>> ((1 : Int32).toUInt32 &&& Int32.toUInt32 31)).toInt32) &&& 1431655765)) &&& 858993459) + ((((x - (((x.toUInt32 >>> ((1 : Int32).toUInt32 &&& Int32.toUInt32 31)).toInt32) &&& 1431655765) : Int32).toUInt32 >>> ((2 : Int32).toUInt32 &&& Int32.toUInt32 31)).toInt32) &&& 858993459)) + (((((x - (((x.toUInt32 >>> ((1 : Int32).toUInt32 &&& Int32.toUInt32 31)).toInt32) &&& 1431655765)) &&& 858993459) + ((((x - (((x.toUInt32 >>> ((1 : Int32).toUInt32 &&& Int32.toUInt32 31)).toInt32) &&& 1431655765) : Int32).toUInt32 >>> ((2 : Int32).toUInt32 &&& Int32.toUInt32 31)).toInt32) &&& 858993459) : Int32).toUInt32 >>> ((4 : Int32).toUInt32 &&& Int32.toUInt32 31)).toInt32)) &&& 252645135) + (((((((x - (((x.toUInt32 >>> ((1 : Int32).toUInt32 &&& Int32.toUInt32 31)).toInt32) &&& 1431655765)) &&& 858993459) + ((((x - (((x.toUInt32 >>> ((1 : Int32).toUInt32 &&& Int32.toUInt32 31)).toInt32) &&& 1431655765) : Int32).toUInt32 >>> ((2 : Int32).toUInt32 &&& Int32.toUInt32 31)).toInt32) &&& 858993459)) + (((((x - (((x.toUInt32 >>> ((1 : Int32).toUInt32 &&& Int32.toUInt32 31)).toInt32) &&& 1431655765)) &&& 858993459) + ((((x - (((x.toUInt32 >>> ((1 : Int32).toUInt32 &&& Int32.toUInt32 31)).toInt32) &&& 1431655765) : Int32).toUInt32 >>> ((2 : Int32).toUInt32 &&& Int32.toUInt32 31)).toInt32) &&& 858993459) : Int32).toUInt32 >>> ((4 : Int32).toUInt32 &&& Int32.toUInt32 31)).toInt32)) &&& 252645135 : Int32).toUInt32 >>> ((8 : Int32).toUInt32 &&& Int32.toUInt32 31)).toInt32)) + ((((((((x - (((x.toUInt32 >>> ((1 : Int32).toUInt32 &&& Int32.toUInt32 31)).toInt32) &&& 1431655765)) &&& 858993459) + ((((x - (((x.toUInt32 >>> ((1 : Int32).toUInt32 &&& Int32.toUInt32 31)).toInt32) &&& 1431655765) : Int32).toUInt32 >>> ((2 : Int32).toUInt32 &&& Int32.toUInt32 31)).toInt32) &&& 858993459)) + (((((x - (((x.toUInt32 >>> ((1 : Int32).toUInt32 &&& Int32.toUInt32 31)).toInt32) &&& 1431655765)) &&& 858993459) + ((((x - (((x.toUInt32 >>> ((1 : Int32).toUInt32 &&& Int32.toUInt32 31)).toInt32) &&& 1431655765) : Int32).toUInt32 >>> ((2 : Int32).toUInt32 &&& Int32.toUInt32 31)).toInt32) &&& 858993459) : Int32).toUInt32 >>> ((4 : Int32).toUInt32 &&& Int32.toUInt32 31)).toInt32)) &&& 252645135) + (((((((x - (((x.toUInt32 >>> ((1 : Int32).toUInt32 &&& Int32.toUInt32 31)).toInt32) &&& 1431655765)) &&& 858993459) + ((((x - (((x.toUInt32 >>> ((1 : Int32).toUInt32 &&& Int32.toUInt32 31)).toInt32) &&& 1431655765) : Int32).toUInt32 >>> ((2 : Int32).toUInt32 &&& Int32.toUInt32 31)).toInt32) &&& 858993459)) + (((((x - (((x.toUInt32 >>> ((1 : Int32).toUInt32 &&& Int32.toUInt32 31)).toInt32) &&& 1431655765)) &&& 858993459) + ((((x - (((x.toUInt32 >>> ((1 : Int32).toUInt32 &&& Int32.toUInt32 31)).toInt32) &&& 1431655765) : Int32).toUInt32 >>> ((2 : Int32).toUInt32 &&& Int32.toUInt32 31)).toInt32) &&& 858993459) : Int32).toUInt32 >>> ((4 : Int32).toUInt32 &&& Int32.toUInt32 31)).toInt32)) &&& 252645135 : Int32).toUInt32 >>> ((8 : Int32).toUInt32 &&& Int32.toUInt32 31)).toInt32) : Int32).toUInt32 >>> ((16 : Int32).toUInt32 &&& Int32.toUInt32 31)).toInt32)) &&& 63
theorem y_bc {Q : Option Value → xH → Prop} {h : xH} {x : Int32} : w_JI_bitCount Q x h ↔ Q (some (.int (bc x))) h := Iff.rfl
theorem bc8a : ∀ k, k < 256 → bc (nI k) = mny (nI k) 8 := by decide +kernel
theorem bc8 {x c : Int32} : bc (x &&& (c &&& 255)) = mny ((x &&& c) &&& 255) 8 := by
  rw [← Int32.and_assoc]
  obtain ⟨j, hj, e⟩ := pk_andE (x &&& c) (m := 255) 8 (by decide)
  rw [e]
  exact bc8a j hj
theorem y_find {Q : Option Value → xH → Prop} {c : Nat} {g : xH} {s : cS} {p : Nat} (hp : p < 8) : w_Q_find Q c (nI p) (cl c g s) ↔ Q (some (.ref (na c p))) (cl c g s) := by
  have e0 : ¬ nI p < 0 := nI_pos (by omega)
  have e8 : ¬ 8 ≤ nI p := by
    rw [show (8 : Int32) = nI 8 from rfl, nI_leI (by omega) (by omega)]
    omega
  have en : 0 ≤ nI p := nI_pos' (by omega)
  have ec : (nI p).toNatClampNeg = p := nI_clamp (by omega)
  unfold w_Q_find
  constructor
  · intro hh
    obtain ⟨f, a, h0, h1, t, y, ar, b, h2, h3, h4, h5, h6, h7⟩ := (hh.2 e0).2 e8
    rw [cg_0] at h0
    cases h0
    rw [og_0_0] at h1
    cases h1
    rw [cg_1] at h4
    cases h4
    rw [ec, rng_get hp] at h6
    cases h6
    exact h7
  · intro h
    refine ⟨fun hh => absurd hh e0, fun _ => ⟨fun hh => absurd hh e8, fun _ => ⟨_, _, cg_0, og_0_0, 1, _, _, na c p, rfl, rfl, cg_1, en, ?_, h⟩⟩⟩
    rw [ec, rng_get hp]
theorem y_findn {Q : Option Value → xH → Prop} {c : Nat} {g : xH} {s : cS} {v : Int32} (hn : ¬ (0 ≤ v ∧ v ≤ 7)) : w_Q_find Q c v (cl c g s) ↔ Q (some .null) (cl c g s) := by
  unfold w_Q_find
  by_cases h0 : v < 0
  · simp only [h0, true_implies, not_true_eq_false, false_implies, and_true]
  · have h8 : 8 ≤ v := by
      apply Int32.not_lt.mp
      intro h
      apply hn
      refine ⟨Int32.not_lt.mp h0, ?_⟩
      have h1 := Int32.lt_iff_toInt_lt.mp h
      apply Int32.le_iff_toInt_le.mpr
      have e8 : (8 : Int32).toInt = 8 := by decide
      have e7 : (7 : Int32).toInt = 7 := by decide
      rw [e8] at h1
      rw [e7]
      omega
    simp only [h0, h8, true_implies, not_true_eq_false, not_false_eq_true, false_implies, and_true, true_and]
def C_mem (f : Nat → Int32) (w : Int32) : Nat → Int32
  | 0 => 0
  | k + 1 => if (w >>> (nI k &&& 31)) &&& 1 = 0 then C_mem f w k else C_mem f w k ||| (f k &&& 255)
theorem y_mem {Q : Option Value → xH → Prop} {c : Nat} {g : xH} {s : cS} {i : Nat} {w : Int32} (hi : i < 8) : w_Se_membersOfAll Q (na c i + 5) w (cl c g s) ↔ Q (some (.int (C_mem (s.1 i 7) w 16))) (cl c g s) := by
  unfold w_Se_membersOfAll
  refine loop_iff (fun n (x : Int32 × Int32) => w_Se_membersOfAll_4 Q n (na c i + 5) w x.1 x.2 (cl c g s)) (fun k => (C_mem (s.1 i 7) w k, nI k)) 16 _ (fun _ => id) ?_ ?_
  · intro n k hk
    show w_Se_membersOfAll_4 Q (n + 1) (na c i + 5) w (C_mem (s.1 i 7) w k) (nI k) (cl c g s) ↔ w_Se_membersOfAll_4 Q n (na c i + 5) w (C_mem (s.1 i 7) w (k + 1)) (nI (k + 1)) (cl c g s)
    rw [w_Se_membersOfAll_4, C_mem]
    by_cases h1 : (w >>> (nI k &&& 31)) &&& 1 = 0
    · simp (maxSteps := 4000000) (disch := first | omega | decide) only [w_Se_membersOfAll_30, s_Q_isIn, cn_0, cn_1, cn_2, un_2, cn_3, un_3, cn_4, un_4, cn_5, cn_6, un_6, cn_7, un_7, cn_8, cn_9, un_9, cn_10, un_10, cn_11, un_11, cn_12, cn_13, cn_14, un_14, cn_15, un_15, cn_16, un_16, cm_0, cm_1, cm_2, um_2, cm_3, um_3, cm_4, cm_5, um_5, cm_6, um_6, cm_7, um_7, cg_0, cg_1, cg_2, cg_3, on_0_len, on_0_0, on_0_1, on_0_2, on_0_3, on_0_4, on_0_5, on_0_6, on_0_7, on_0_8, on_0_9, on_0_10, un_0_0, un_0_1, un_0_2, un_0_3, un_0_4, un_0_5, un_0_6, on_1_len, on_1_0, on_1_1, on_1_2, on_5_len, on_5_0, on_5_1, on_8_len, on_8_0, on_8_1, on_8_2, on_12_len, on_12_0, on_12_1, on_12_2, on_12_3, on_12_4, on_12_5, on_12_6, on_12_7, on_12_8, on_12_9, on_12_10, on_12_11, on_12_12, on_12_13, un_12_0, un_12_1, un_12_2, un_12_3, un_12_4, un_12_5, un_12_6, un_12_7, un_12_8, un_12_9, un_12_10, un_12_11, un_12_12, on_13_len, on_13_0, on_13_1, on_13_2, om_0_len, om_0_0, om_0_1, om_0_2, om_0_3, om_0_4, om_0_5, om_0_6, om_0_7, om_0_8, om_0_9, um_0_0, um_0_1, um_0_2, um_0_3, um_0_4, um_0_5, um_0_6, um_0_7, om_1_len, om_1_0, om_1_1, om_4_len, om_4_0, om_4_1, om_4_2, og_0_0, og_0_1, og_0_2, og_0_3, og_0_4, og_2_0, og_2_1, og_2_2, og_2_3, og_0_len, og_2_len, Option.some.injEq, Sum.inr.injEq, Sum.inl.injEq, Prod.mk.injEq, Value.ref.injEq, Value.int.injEq, true_and, and_true, exists_eq_left', exists_eq_left, exists_and_left, forall_eq, rAr_get, rAr_len, rAr_set, nI_nn, nI_cl, exists_const, exists_eq', exists_eq, nI_add, xlt, up1_eq, nb0, nb1, sN_c, sM_c, sNF_c, sMF_c, ua_up, cN_eq, cN_cN, cN_2, cN_cM, cM_eq, cM_1, cM_3, cM_cM, cM_ne,  un_eq, un_nk, un_nj, ua_eq, ua_nk, xcp4, xcp16, y0n, y4n, y16n, yl4, yl16, eq_self, not_true_eq_false, not_false_eq_true, true_implies, false_implies, if_true, if_false, sK_1, sK_2, sK_3, sK_4, cN_sK, ug_0, ug_1, ug_2, h1, k10, xge16, nI_1]
    · simp (maxSteps := 4000000) (disch := first | omega | decide) only [w_Se_membersOfAll_30, s_Q_isIn, s_Q_membersOf, cn_0, cn_1, cn_2, un_2, cn_3, un_3, cn_4, un_4, cn_5, cn_6, un_6, cn_7, un_7, cn_8, cn_9, un_9, cn_10, un_10, cn_11, un_11, cn_12, cn_13, cn_14, un_14, cn_15, un_15, cn_16, un_16, cm_0, cm_1, cm_2, um_2, cm_3, um_3, cm_4, cm_5, um_5, cm_6, um_6, cm_7, um_7, cg_0, cg_1, cg_2, cg_3, on_0_len, on_0_0, on_0_1, on_0_2, on_0_3, on_0_4, on_0_5, on_0_6, on_0_7, on_0_8, on_0_9, on_0_10, un_0_0, un_0_1, un_0_2, un_0_3, un_0_4, un_0_5, un_0_6, on_1_len, on_1_0, on_1_1, on_1_2, on_5_len, on_5_0, on_5_1, on_8_len, on_8_0, on_8_1, on_8_2, on_12_len, on_12_0, on_12_1, on_12_2, on_12_3, on_12_4, on_12_5, on_12_6, on_12_7, on_12_8, on_12_9, on_12_10, on_12_11, on_12_12, on_12_13, un_12_0, un_12_1, un_12_2, un_12_3, un_12_4, un_12_5, un_12_6, un_12_7, un_12_8, un_12_9, un_12_10, un_12_11, un_12_12, on_13_len, on_13_0, on_13_1, on_13_2, om_0_len, om_0_0, om_0_1, om_0_2, om_0_3, om_0_4, om_0_5, om_0_6, om_0_7, om_0_8, om_0_9, um_0_0, um_0_1, um_0_2, um_0_3, um_0_4, um_0_5, um_0_6, um_0_7, om_1_len, om_1_0, om_1_1, om_4_len, om_4_0, om_4_1, om_4_2, og_0_0, og_0_1, og_0_2, og_0_3, og_0_4, og_2_0, og_2_1, og_2_2, og_2_3, og_0_len, og_2_len, Option.some.injEq, Sum.inr.injEq, Sum.inl.injEq, Prod.mk.injEq, Value.ref.injEq, Value.int.injEq, true_and, and_true, exists_eq_left', exists_eq_left, exists_and_left, forall_eq, rAr_get, rAr_len, rAr_set, nI_nn, nI_cl, exists_const, exists_eq', exists_eq, nI_add, xlt, up1_eq, nb0, nb1, sN_c, sM_c, sNF_c, sMF_c, ua_up, cN_eq, cN_cN, cN_2, cN_cM, cM_eq, cM_1, cM_3, cM_cM, cM_ne,  un_eq, un_nk, un_nj, ua_eq, ua_nk, xcp4, xcp16, y0n, y4n, y16n, yl4, yl16, eq_self, not_true_eq_false, not_false_eq_true, true_implies, false_implies, if_true, if_false, sK_1, sK_2, sK_3, sK_4, cN_sK, ug_0, ug_1, ug_2, h1, k10, xge16, nI_1]
  · intro n
    show w_Se_membersOfAll_4 Q (n + 1) (na c i + 5) w (C_mem (s.1 i 7) w 16) (nI 16) (cl c g s) ↔ _
    rw [w_Se_membersOfAll_4]
    have h1 : (16 : Int32) ≤ nI 16 := by decide
    simp [h1]
def C_conc (n : nv) : Int32 := if n 12 1 = 3 then (1 : Int32) <<< ((n 12 3 - 1) &&& 31) else if n 12 1 = 4 then (if n 12 2 = 1 then n 12 12 else (1 : Int32) <<< (n 12 3 &&& 31)) else hav (n 6) 1 16
theorem y_conc {Q : Option Value → xH → Prop} {c : Nat} {g : xH} {s : cS} {i : Nat} (hi : i < 8) : w_Q_concerned Q (na c i) (cl c g s) ↔ Q (some (.int (C_conc (s.1 i)))) (cl c g s) := by
  unfold C_conc
  by_cases h3 : s.1 i 12 1 = 3
  · simp (maxSteps := 4000000) (disch := first | omega | decide) only [w_Q_concerned, cn_0, cn_1, cn_2, un_2, cn_3, un_3, cn_4, un_4, cn_5, cn_6, un_6, cn_7, un_7, cn_8, cn_9, un_9, cn_10, un_10, cn_11, un_11, cn_12, cn_13, cn_14, un_14, cn_15, un_15, cn_16, un_16, cm_0, cm_1, cm_2, um_2, cm_3, um_3, cm_4, cm_5, um_5, cm_6, um_6, cm_7, um_7, cg_0, cg_1, cg_2, cg_3, on_0_len, on_0_0, on_0_1, on_0_2, on_0_3, on_0_4, on_0_5, on_0_6, on_0_7, on_0_8, on_0_9, on_0_10, un_0_0, un_0_1, un_0_2, un_0_3, un_0_4, un_0_5, un_0_6, on_1_len, on_1_0, on_1_1, on_1_2, on_5_len, on_5_0, on_5_1, on_8_len, on_8_0, on_8_1, on_8_2, on_12_len, on_12_0, on_12_1, on_12_2, on_12_3, on_12_4, on_12_5, on_12_6, on_12_7, on_12_8, on_12_9, on_12_10, on_12_11, on_12_12, on_12_13, un_12_0, un_12_1, un_12_2, un_12_3, un_12_4, un_12_5, un_12_6, un_12_7, un_12_8, un_12_9, un_12_10, un_12_11, un_12_12, on_13_len, on_13_0, on_13_1, on_13_2, om_0_len, om_0_0, om_0_1, om_0_2, om_0_3, om_0_4, om_0_5, om_0_6, om_0_7, om_0_8, om_0_9, um_0_0, um_0_1, um_0_2, um_0_3, um_0_4, um_0_5, um_0_6, um_0_7, om_1_len, om_1_0, om_1_1, om_4_len, om_4_0, om_4_1, om_4_2, og_0_0, og_0_1, og_0_2, og_0_3, og_0_4, og_2_0, og_2_1, og_2_2, og_2_3, og_0_len, og_2_len, Option.some.injEq, Sum.inr.injEq, Sum.inl.injEq, Prod.mk.injEq, Value.ref.injEq, Value.int.injEq, true_and, and_true, exists_eq_left', exists_eq_left, exists_and_left, forall_eq, rAr_get, rAr_len, rAr_set, nI_nn, nI_cl, exists_const, exists_eq', exists_eq, nI_add, xlt, up1_eq, nb0, nb1, sN_c, sM_c, sNF_c, sMF_c, ua_up, cN_eq, cN_cN, cN_2, cN_cM, cM_eq, cM_1, cM_3, cM_cM, cM_ne,  un_eq, un_nk, un_nj, ua_eq, ua_nk, xcp4, xcp16, y0n, y4n, y16n, yl4, yl16, eq_self, not_true_eq_false, not_false_eq_true, true_implies, false_implies, if_true, if_false, sK_1, sK_2, sK_3, sK_4, cN_sK, ug_0, ug_1, ug_2, h3, kq3_4]
  · by_cases h4 : s.1 i 12 1 = 4
    · by_cases h5 : s.1 i 12 2 = 1
      · simp (maxSteps := 4000000) (disch := first | omega | decide) only [w_Q_concerned, cn_0, cn_1, cn_2, un_2, cn_3, un_3, cn_4, un_4, cn_5, cn_6, un_6, cn_7, un_7, cn_8, cn_9, un_9, cn_10, un_10, cn_11, un_11, cn_12, cn_13, cn_14, un_14, cn_15, un_15, cn_16, un_16, cm_0, cm_1, cm_2, um_2, cm_3, um_3, cm_4, cm_5, um_5, cm_6, um_6, cm_7, um_7, cg_0, cg_1, cg_2, cg_3, on_0_len, on_0_0, on_0_1, on_0_2, on_0_3, on_0_4, on_0_5, on_0_6, on_0_7, on_0_8, on_0_9, on_0_10, un_0_0, un_0_1, un_0_2, un_0_3, un_0_4, un_0_5, un_0_6, on_1_len, on_1_0, on_1_1, on_1_2, on_5_len, on_5_0, on_5_1, on_8_len, on_8_0, on_8_1, on_8_2, on_12_len, on_12_0, on_12_1, on_12_2, on_12_3, on_12_4, on_12_5, on_12_6, on_12_7, on_12_8, on_12_9, on_12_10, on_12_11, on_12_12, on_12_13, un_12_0, un_12_1, un_12_2, un_12_3, un_12_4, un_12_5, un_12_6, un_12_7, un_12_8, un_12_9, un_12_10, un_12_11, un_12_12, on_13_len, on_13_0, on_13_1, on_13_2, om_0_len, om_0_0, om_0_1, om_0_2, om_0_3, om_0_4, om_0_5, om_0_6, om_0_7, om_0_8, om_0_9, um_0_0, um_0_1, um_0_2, um_0_3, um_0_4, um_0_5, um_0_6, um_0_7, om_1_len, om_1_0, om_1_1, om_4_len, om_4_0, om_4_1, om_4_2, og_0_0, og_0_1, og_0_2, og_0_3, og_0_4, og_2_0, og_2_1, og_2_2, og_2_3, og_0_len, og_2_len, Option.some.injEq, Sum.inr.injEq, Sum.inl.injEq, Prod.mk.injEq, Value.ref.injEq, Value.int.injEq, true_and, and_true, exists_eq_left', exists_eq_left, exists_and_left, forall_eq, rAr_get, rAr_len, rAr_set, nI_nn, nI_cl, exists_const, exists_eq', exists_eq, nI_add, xlt, up1_eq, nb0, nb1, sN_c, sM_c, sNF_c, sMF_c, ua_up, cN_eq, cN_cN, cN_2, cN_cM, cM_eq, cM_1, cM_3, cM_cM, cM_ne,  un_eq, un_nk, un_nj, ua_eq, ua_nk, xcp4, xcp16, y0n, y4n, y16n, yl4, yl16, eq_self, not_true_eq_false, not_false_eq_true, true_implies, false_implies, if_true, if_false, sK_1, sK_2, sK_3, sK_4, cN_sK, ug_0, ug_1, ug_2, h3, h4, h5, kq4_3]
      · simp (maxSteps := 4000000) (disch := first | omega | decide) only [w_Q_concerned, cn_0, cn_1, cn_2, un_2, cn_3, un_3, cn_4, un_4, cn_5, cn_6, un_6, cn_7, un_7, cn_8, cn_9, un_9, cn_10, un_10, cn_11, un_11, cn_12, cn_13, cn_14, un_14, cn_15, un_15, cn_16, un_16, cm_0, cm_1, cm_2, um_2, cm_3, um_3, cm_4, cm_5, um_5, cm_6, um_6, cm_7, um_7, cg_0, cg_1, cg_2, cg_3, on_0_len, on_0_0, on_0_1, on_0_2, on_0_3, on_0_4, on_0_5, on_0_6, on_0_7, on_0_8, on_0_9, on_0_10, un_0_0, un_0_1, un_0_2, un_0_3, un_0_4, un_0_5, un_0_6, on_1_len, on_1_0, on_1_1, on_1_2, on_5_len, on_5_0, on_5_1, on_8_len, on_8_0, on_8_1, on_8_2, on_12_len, on_12_0, on_12_1, on_12_2, on_12_3, on_12_4, on_12_5, on_12_6, on_12_7, on_12_8, on_12_9, on_12_10, on_12_11, on_12_12, on_12_13, un_12_0, un_12_1, un_12_2, un_12_3, un_12_4, un_12_5, un_12_6, un_12_7, un_12_8, un_12_9, un_12_10, un_12_11, un_12_12, on_13_len, on_13_0, on_13_1, on_13_2, om_0_len, om_0_0, om_0_1, om_0_2, om_0_3, om_0_4, om_0_5, om_0_6, om_0_7, om_0_8, om_0_9, um_0_0, um_0_1, um_0_2, um_0_3, um_0_4, um_0_5, um_0_6, um_0_7, om_1_len, om_1_0, om_1_1, om_4_len, om_4_0, om_4_1, om_4_2, og_0_0, og_0_1, og_0_2, og_0_3, og_0_4, og_2_0, og_2_1, og_2_2, og_2_3, og_0_len, og_2_len, Option.some.injEq, Sum.inr.injEq, Sum.inl.injEq, Prod.mk.injEq, Value.ref.injEq, Value.int.injEq, true_and, and_true, exists_eq_left', exists_eq_left, exists_and_left, forall_eq, rAr_get, rAr_len, rAr_set, nI_nn, nI_cl, exists_const, exists_eq', exists_eq, nI_add, xlt, up1_eq, nb0, nb1, sN_c, sM_c, sNF_c, sMF_c, ua_up, cN_eq, cN_cN, cN_2, cN_cM, cM_eq, cM_1, cM_3, cM_cM, cM_ne,  un_eq, un_nk, un_nj, ua_eq, ua_nk, xcp4, xcp16, y0n, y4n, y16n, yl4, yl16, eq_self, not_true_eq_false, not_false_eq_true, true_implies, false_implies, if_true, if_false, sK_1, sK_2, sK_3, sK_4, cN_sK, ug_0, ug_1, ug_2, h3, h4, h5, kq4_3]
    · simp (maxSteps := 4000000) (disch := first | omega | decide) only [w_Q_concerned, s_Se_having_n hi, cn_0, cn_1, cn_2, un_2, cn_3, un_3, cn_4, un_4, cn_5, cn_6, un_6, cn_7, un_7, cn_8, cn_9, un_9, cn_10, un_10, cn_11, un_11, cn_12, cn_13, cn_14, un_14, cn_15, un_15, cn_16, un_16, cm_0, cm_1, cm_2, um_2, cm_3, um_3, cm_4, cm_5, um_5, cm_6, um_6, cm_7, um_7, cg_0, cg_1, cg_2, cg_3, on_0_len, on_0_0, on_0_1, on_0_2, on_0_3, on_0_4, on_0_5, on_0_6, on_0_7, on_0_8, on_0_9, on_0_10, un_0_0, un_0_1, un_0_2, un_0_3, un_0_4, un_0_5, un_0_6, on_1_len, on_1_0, on_1_1, on_1_2, on_5_len, on_5_0, on_5_1, on_8_len, on_8_0, on_8_1, on_8_2, on_12_len, on_12_0, on_12_1, on_12_2, on_12_3, on_12_4, on_12_5, on_12_6, on_12_7, on_12_8, on_12_9, on_12_10, on_12_11, on_12_12, on_12_13, un_12_0, un_12_1, un_12_2, un_12_3, un_12_4, un_12_5, un_12_6, un_12_7, un_12_8, un_12_9, un_12_10, un_12_11, un_12_12, on_13_len, on_13_0, on_13_1, on_13_2, om_0_len, om_0_0, om_0_1, om_0_2, om_0_3, om_0_4, om_0_5, om_0_6, om_0_7, om_0_8, om_0_9, um_0_0, um_0_1, um_0_2, um_0_3, um_0_4, um_0_5, um_0_6, um_0_7, om_1_len, om_1_0, om_1_1, om_4_len, om_4_0, om_4_1, om_4_2, og_0_0, og_0_1, og_0_2, og_0_3, og_0_4, og_2_0, og_2_1, og_2_2, og_2_3, og_0_len, og_2_len, Option.some.injEq, Sum.inr.injEq, Sum.inl.injEq, Prod.mk.injEq, Value.ref.injEq, Value.int.injEq, true_and, and_true, exists_eq_left', exists_eq_left, exists_and_left, forall_eq, rAr_get, rAr_len, rAr_set, nI_nn, nI_cl, exists_const, exists_eq', exists_eq, nI_add, xlt, up1_eq, nb0, nb1, sN_c, sM_c, sNF_c, sMF_c, ua_up, cN_eq, cN_cN, cN_2, cN_cM, cM_eq, cM_1, cM_3, cM_cM, cM_ne,  un_eq, un_nk, un_nj, ua_eq, ua_nk, xcp4, xcp16, y0n, y4n, y16n, yl4, yl16, eq_self, not_true_eq_false, not_false_eq_true, true_implies, false_implies, if_true, if_false, sK_1, sK_2, sK_3, sK_4, cN_sK, ug_0, ug_1, ug_2, h3, h4]
def C_rq (n : nv) : Int32 := if n 12 2 = 1 then (if n 12 1 = 3 then 5 else if n 12 1 = 4 then 10 else 1) else (if n 12 1 = 3 then 7 else if n 12 1 = 4 then 12 else 3)
theorem y_rq {Q : Option Value → xH → Prop} {c : Nat} {g : xH} {s : cS} {i : Nat} (hi : i < 8) : w_Q_requestOf Q (na c i + 12) (cl c g s) ↔ Q (some (.int (C_rq (s.1 i)))) (cl c g s) := by
  unfold C_rq
  by_cases h5 : s.1 i 12 2 = 1 <;> by_cases h3 : s.1 i 12 1 = 3 <;> by_cases h4 : s.1 i 12 1 = 4 <;>
  simp (maxSteps := 4000000) (disch := first | omega | decide) only [w_Q_requestOf, w_Q_requestOf_13, cn_0, cn_1, cn_2, un_2, cn_3, un_3, cn_4, un_4, cn_5, cn_6, un_6, cn_7, un_7, cn_8, cn_9, un_9, cn_10, un_10, cn_11, un_11, cn_12, cn_13, cn_14, un_14, cn_15, un_15, cn_16, un_16, cm_0, cm_1, cm_2, um_2, cm_3, um_3, cm_4, cm_5, um_5, cm_6, um_6, cm_7, um_7, cg_0, cg_1, cg_2, cg_3, on_0_len, on_0_0, on_0_1, on_0_2, on_0_3, on_0_4, on_0_5, on_0_6, on_0_7, on_0_8, on_0_9, on_0_10, un_0_0, un_0_1, un_0_2, un_0_3, un_0_4, un_0_5, un_0_6, on_1_len, on_1_0, on_1_1, on_1_2, on_5_len, on_5_0, on_5_1, on_8_len, on_8_0, on_8_1, on_8_2, on_12_len, on_12_0, on_12_1, on_12_2, on_12_3, on_12_4, on_12_5, on_12_6, on_12_7, on_12_8, on_12_9, on_12_10, on_12_11, on_12_12, on_12_13, un_12_0, un_12_1, un_12_2, un_12_3, un_12_4, un_12_5, un_12_6, un_12_7, un_12_8, un_12_9, un_12_10, un_12_11, un_12_12, on_13_len, on_13_0, on_13_1, on_13_2, om_0_len, om_0_0, om_0_1, om_0_2, om_0_3, om_0_4, om_0_5, om_0_6, om_0_7, om_0_8, om_0_9, um_0_0, um_0_1, um_0_2, um_0_3, um_0_4, um_0_5, um_0_6, um_0_7, om_1_len, om_1_0, om_1_1, om_4_len, om_4_0, om_4_1, om_4_2, og_0_0, og_0_1, og_0_2, og_0_3, og_0_4, og_2_0, og_2_1, og_2_2, og_2_3, og_0_len, og_2_len, Option.some.injEq, Sum.inr.injEq, Sum.inl.injEq, Prod.mk.injEq, Value.ref.injEq, Value.int.injEq, true_and, and_true, exists_eq_left', exists_eq_left, exists_and_left, forall_eq, rAr_get, rAr_len, rAr_set, nI_nn, nI_cl, exists_const, exists_eq', exists_eq, nI_add, xlt, up1_eq, nb0, nb1, sN_c, sM_c, sNF_c, sMF_c, ua_up, cN_eq, cN_cN, cN_2, cN_cM, cM_eq, cM_1, cM_3, cM_cM, cM_ne,  un_eq, un_nk, un_nj, ua_eq, ua_nk, xcp4, xcp16, y0n, y4n, y16n, yl4, yl16, eq_self, not_true_eq_false, not_false_eq_true, true_implies, false_implies, if_true, if_false, sK_1, sK_2, sK_3, sK_4, cN_sK, ug_0, ug_1, ug_2, h3, h4, h5, kq4_3, kq3_4, k10]
  all_goals simp_all
def C_clr (d : nv) : nv := un (un (un (un (un (un d 0 0 0) 0 3 0) 0 4 0) 0 5 0) 0 6 0) 0 7 0
def C_open (d : nv) (n : nv) (kd to : Int32) : nv := ua (ua (un (un (un (C_clr d) 0 0 kd) 0 1 (n 0 0)) 0 2 to) 2 (n 6)) 3 (n 7)
def C_draft (d n : nv) : nv := ua (ua (ua (un (un (un (un (un (C_open d n (C_rq n) (n 0 0)) 0 3 (n 0 2)) 0 4 (n 0 4)) 0 5 (if n 12 1 = 4 then 0 else n 12 3)) 0 6 (n 12 7)) 0 7 (if C_rq n = 7 then n 12 11 else 0)) 5 (n 14)) 6 (n 15)) 7 (n 16)
theorem y_clr {Q : Option Value → xH → Prop} {c : Nat} {g : xH} {s : cS} {m : Nat} (hm : m < 123) : w_Me_clear Q (ma c m) (cl c g s) ↔ Q none (cl c g (cM s m (C_clr (s.2.1 m)))) := by
  unfold C_clr
  simp (maxSteps := 4000000) (disch := first | omega | decide) only [w_Me_clear, cn_0, cn_1, cn_2, un_2, cn_3, un_3, cn_4, un_4, cn_5, cn_6, un_6, cn_7, un_7, cn_8, cn_9, un_9, cn_10, un_10, cn_11, un_11, cn_12, cn_13, cn_14, un_14, cn_15, un_15, cn_16, un_16, cm_0, cm_1, cm_2, um_2, cm_3, um_3, cm_4, cm_5, um_5, cm_6, um_6, cm_7, um_7, cg_0, cg_1, cg_2, cg_3, on_0_len, on_0_0, on_0_1, on_0_2, on_0_3, on_0_4, on_0_5, on_0_6, on_0_7, on_0_8, on_0_9, on_0_10, un_0_0, un_0_1, un_0_2, un_0_3, un_0_4, un_0_5, un_0_6, on_1_len, on_1_0, on_1_1, on_1_2, on_5_len, on_5_0, on_5_1, on_8_len, on_8_0, on_8_1, on_8_2, on_12_len, on_12_0, on_12_1, on_12_2, on_12_3, on_12_4, on_12_5, on_12_6, on_12_7, on_12_8, on_12_9, on_12_10, on_12_11, on_12_12, on_12_13, un_12_0, un_12_1, un_12_2, un_12_3, un_12_4, un_12_5, un_12_6, un_12_7, un_12_8, un_12_9, un_12_10, un_12_11, un_12_12, on_13_len, on_13_0, on_13_1, on_13_2, om_0_len, om_0_0, om_0_1, om_0_2, om_0_3, om_0_4, om_0_5, om_0_6, om_0_7, om_0_8, om_0_9, um_0_0, um_0_1, um_0_2, um_0_3, um_0_4, um_0_5, um_0_6, um_0_7, om_1_len, om_1_0, om_1_1, om_4_len, om_4_0, om_4_1, om_4_2, og_0_0, og_0_1, og_0_2, og_0_3, og_0_4, og_2_0, og_2_1, og_2_2, og_2_3, og_0_len, og_2_len, Option.some.injEq, Sum.inr.injEq, Sum.inl.injEq, Prod.mk.injEq, Value.ref.injEq, Value.int.injEq, true_and, and_true, exists_eq_left', exists_eq_left, exists_and_left, forall_eq, rAr_get, rAr_len, rAr_set, nI_nn, nI_cl, exists_const, exists_eq', exists_eq, nI_add, xlt, up1_eq, nb0, nb1, sN_c, sM_c, sNF_c, sMF_c, ua_up, cN_eq, cN_cN, cN_2, cN_cM, cM_eq, cM_1, cM_3, cM_cM, cM_ne,  un_eq, un_nk, un_nj, ua_eq, ua_nk, xcp4, xcp16, y0n, y4n, y16n, yl4, yl16, eq_self, not_true_eq_false, not_false_eq_true, true_implies, false_implies, if_true, if_false, sK_1, sK_2, sK_3, sK_4, cN_sK, ug_0, ug_1, ug_2]
theorem y_open {Q : Option Value → xH → Prop} {c : Nat} {g : xH} {s : cS} {i m : Nat} {kd to : Int32} (hi : i < 8) (hm : m < 123) : w_Me_open Q (ma c m) kd (na c i) to (cl c g s) ↔ Q none (cl c g (cM s m (C_open (s.2.1 m) (s.1 i) kd to))) := by
  unfold C_open
  simp (maxSteps := 4000000) (disch := first | omega | decide) only [w_Me_open, y_clr hm, w_Se_copyFrom, cn_0, cn_1, cn_2, un_2, cn_3, un_3, cn_4, un_4, cn_5, cn_6, un_6, cn_7, un_7, cn_8, cn_9, un_9, cn_10, un_10, cn_11, un_11, cn_12, cn_13, cn_14, un_14, cn_15, un_15, cn_16, un_16, cm_0, cm_1, cm_2, um_2, cm_3, um_3, cm_4, cm_5, um_5, cm_6, um_6, cm_7, um_7, cg_0, cg_1, cg_2, cg_3, on_0_len, on_0_0, on_0_1, on_0_2, on_0_3, on_0_4, on_0_5, on_0_6, on_0_7, on_0_8, on_0_9, on_0_10, un_0_0, un_0_1, un_0_2, un_0_3, un_0_4, un_0_5, un_0_6, on_1_len, on_1_0, on_1_1, on_1_2, on_5_len, on_5_0, on_5_1, on_8_len, on_8_0, on_8_1, on_8_2, on_12_len, on_12_0, on_12_1, on_12_2, on_12_3, on_12_4, on_12_5, on_12_6, on_12_7, on_12_8, on_12_9, on_12_10, on_12_11, on_12_12, on_12_13, un_12_0, un_12_1, un_12_2, un_12_3, un_12_4, un_12_5, un_12_6, un_12_7, un_12_8, un_12_9, un_12_10, un_12_11, un_12_12, on_13_len, on_13_0, on_13_1, on_13_2, om_0_len, om_0_0, om_0_1, om_0_2, om_0_3, om_0_4, om_0_5, om_0_6, om_0_7, om_0_8, om_0_9, um_0_0, um_0_1, um_0_2, um_0_3, um_0_4, um_0_5, um_0_6, um_0_7, om_1_len, om_1_0, om_1_1, om_4_len, om_4_0, om_4_1, om_4_2, og_0_0, og_0_1, og_0_2, og_0_3, og_0_4, og_2_0, og_2_1, og_2_2, og_2_3, og_0_len, og_2_len, Option.some.injEq, Sum.inr.injEq, Sum.inl.injEq, Prod.mk.injEq, Value.ref.injEq, Value.int.injEq, true_and, and_true, exists_eq_left', exists_eq_left, exists_and_left, forall_eq, rAr_get, rAr_len, rAr_set, nI_nn, nI_cl, exists_const, exists_eq', exists_eq, nI_add, xlt, up1_eq, nb0, nb1, sN_c, sM_c, sNF_c, sMF_c, ua_up, cN_eq, cN_cN, cN_2, cN_cM, cM_eq, cM_1, cM_3, cM_cM, cM_ne,  un_eq, un_nk, un_nj, ua_eq, ua_nk, xcp4, xcp16, y0n, y4n, y16n, yl4, yl16, eq_self, not_true_eq_false, not_false_eq_true, true_implies, false_implies, if_true, if_false, sK_1, sK_2, sK_3, sK_4, cN_sK, ug_0, ug_1, ug_2]
theorem opn_00 {d n : nv} {kd to : Int32} : C_open d n kd to 0 0 = kd := by
  unfold C_open
  rw [ua_nk (by decide), ua_nk (by decide)]
  simp (disch := decide) only [un_nj, un_eq]
set_option maxRecDepth 100000 in
set_option maxHeartbeats 8000000 in
theorem y_draft {Q : Option Value → xH → Prop} {c : Nat} {g : xH} {s : cS} {i : Nat} (hi : i < 8) : w_Q_draftRequest Q c (na c i) (cl c g s) ↔ Q none (cl c g (cM s 121 (C_draft (s.2.1 121) (s.1 i)))) := by
  have h121 : 121 < 123 := by decide
  unfold C_draft
  by_cases h4 : s.1 i 12 1 = 4 <;> by_cases h7 : C_rq (s.1 i) = 7 <;>
  simp (maxSteps := 4000000) (disch := first | omega | decide) only [w_Q_draftRequest, w_Q_draftRequest_63, w_Q_draftRequest_101, y_rq hi, y_open hi h121, w_Co_copyFrom, cn_0, cn_1, cn_2, un_2, cn_3, un_3, cn_4, un_4, cn_5, cn_6, un_6, cn_7, un_7, cn_8, cn_9, un_9, cn_10, un_10, cn_11, un_11, cn_12, cn_13, cn_14, un_14, cn_15, un_15, cn_16, un_16, cm_0, cm_1, cm_2, um_2, cm_3, um_3, cm_4, cm_5, um_5, cm_6, um_6, cm_7, um_7, cg_0, cg_1, cg_2, cg_3, on_0_len, on_0_0, on_0_1, on_0_2, on_0_3, on_0_4, on_0_5, on_0_6, on_0_7, on_0_8, on_0_9, on_0_10, un_0_0, un_0_1, un_0_2, un_0_3, un_0_4, un_0_5, un_0_6, on_1_len, on_1_0, on_1_1, on_1_2, on_5_len, on_5_0, on_5_1, on_8_len, on_8_0, on_8_1, on_8_2, on_12_len, on_12_0, on_12_1, on_12_2, on_12_3, on_12_4, on_12_5, on_12_6, on_12_7, on_12_8, on_12_9, on_12_10, on_12_11, on_12_12, on_12_13, un_12_0, un_12_1, un_12_2, un_12_3, un_12_4, un_12_5, un_12_6, un_12_7, un_12_8, un_12_9, un_12_10, un_12_11, un_12_12, on_13_len, on_13_0, on_13_1, on_13_2, om_0_len, om_0_0, om_0_1, om_0_2, om_0_3, om_0_4, om_0_5, om_0_6, om_0_7, om_0_8, om_0_9, um_0_0, um_0_1, um_0_2, um_0_3, um_0_4, um_0_5, um_0_6, um_0_7, om_1_len, om_1_0, om_1_1, om_4_len, om_4_0, om_4_1, om_4_2, og_0_0, og_0_1, og_0_2, og_0_3, og_0_4, og_2_0, og_2_1, og_2_2, og_2_3, og_0_len, og_2_len, Option.some.injEq, Sum.inr.injEq, Sum.inl.injEq, Prod.mk.injEq, Value.ref.injEq, Value.int.injEq, true_and, and_true, exists_eq_left', exists_eq_left, exists_and_left, forall_eq, rAr_get, rAr_len, rAr_set, nI_nn, nI_cl, exists_const, exists_eq', exists_eq, nI_add, xlt, up1_eq, nb0, nb1, sN_c, sM_c, sNF_c, sMF_c, ua_up, cN_eq, cN_cN, cN_2, cN_cM, cM_eq, cM_1, cM_3, cM_cM, cM_ne,  un_eq, un_nk, un_nj, ua_eq, ua_nk, xcp4, xcp16, y0n, y4n, y16n, yl4, yl16, eq_self, not_true_eq_false, not_false_eq_true, true_implies, false_implies, if_true, if_false, sK_1, sK_2, sK_3, sK_4, cN_sK, ug_0, ug_1, ug_2, opn_00, h4, h7]
/-! the class's mail -/
def C_cp (d v : nv) : nv := ua (ua (ua (ua (ua (un (un (un (un (un (un (un (un d 0 0 (v 0 0)) 0 1 (v 0 1)) 0 2 (v 0 2)) 0 3 (v 0 3)) 0 4 (v 0 4)) 0 5 (v 0 5)) 0 6 (v 0 6)) 0 7 (v 0 7)) 2 (v 2)) 3 (v 3)) 5 (v 5)) 6 (v 6)) 7 (v 7)
set_option maxRecDepth 100000 in
set_option maxHeartbeats 8000000 in
theorem y_mcp {Q : Option Value → xH → Prop} {c : Nat} {g : xH} {s : cS} {m x : Nat} (hm : m < 123) (hx : x < 123) (hne : m ≠ x) : w_Me_copyFrom Q (ma c x) (ma c m) (cl c g s) ↔ Q none (cl c g (cM s x (C_cp (s.2.1 x) (s.2.1 m)))) := by
  unfold C_cp
  simp (maxSteps := 4000000) (disch := first | omega | decide) only [w_Me_copyFrom, w_Se_copyFrom, w_Co_copyFrom, cn_0, cn_1, cn_2, un_2, cn_3, un_3, cn_4, un_4, cn_5, cn_6, un_6, cn_7, un_7, cn_8, cn_9, un_9, cn_10, un_10, cn_11, un_11, cn_12, cn_13, cn_14, un_14, cn_15, un_15, cn_16, un_16, cm_0, cm_1, cm_2, um_2, cm_3, um_3, cm_4, cm_5, um_5, cm_6, um_6, cm_7, um_7, cg_0, cg_1, cg_2, cg_3, on_0_len, on_0_0, on_0_1, on_0_2, on_0_3, on_0_4, on_0_5, on_0_6, on_0_7, on_0_8, on_0_9, on_0_10, un_0_0, un_0_1, un_0_2, un_0_3, un_0_4, un_0_5, un_0_6, on_1_len, on_1_0, on_1_1, on_1_2, on_5_len, on_5_0, on_5_1, on_8_len, on_8_0, on_8_1, on_8_2, on_12_len, on_12_0, on_12_1, on_12_2, on_12_3, on_12_4, on_12_5, on_12_6, on_12_7, on_12_8, on_12_9, on_12_10, on_12_11, on_12_12, on_12_13, un_12_0, un_12_1, un_12_2, un_12_3, un_12_4, un_12_5, un_12_6, un_12_7, un_12_8, un_12_9, un_12_10, un_12_11, un_12_12, on_13_len, on_13_0, on_13_1, on_13_2, om_0_len, om_0_0, om_0_1, om_0_2, om_0_3, om_0_4, om_0_5, om_0_6, om_0_7, om_0_8, om_0_9, um_0_0, um_0_1, um_0_2, um_0_3, um_0_4, um_0_5, um_0_6, um_0_7, om_1_len, om_1_0, om_1_1, om_4_len, om_4_0, om_4_1, om_4_2, og_0_0, og_0_1, og_0_2, og_0_3, og_0_4, og_2_0, og_2_1, og_2_2, og_2_3, og_0_len, og_2_len, Option.some.injEq, Sum.inr.injEq, Sum.inl.injEq, Prod.mk.injEq, Value.ref.injEq, Value.int.injEq, true_and, and_true, exists_eq_left', exists_eq_left, exists_and_left, forall_eq, rAr_get, rAr_len, rAr_set, nI_nn, nI_cl, exists_const, exists_eq', exists_eq, nI_add, xlt, up1_eq, nb0, nb1, sN_c, sM_c, sNF_c, sMF_c, ua_up, cN_eq, cN_cN, cN_2, cN_cM, cM_eq, cM_1, cM_3, cM_cM, cM_ne,  un_eq, un_nk, un_nj, ua_eq, ua_nk, xcp4, xcp16, y0n, y4n, y16n, yl4, yl16, eq_self, not_true_eq_false, not_false_eq_true, true_implies, false_implies, if_true, if_false, sK_1, sK_2, sK_3, sK_4, cN_sK, ug_0, ug_1, ug_2, cM_ne hne]
def C_send (s : cS) (m : Nat) : cS := if s.2.2.1 1 < 120 then sK (cM s (s.2.2.2.1 (s.2.2.1 1).toNatClampNeg) (C_cp (s.2.1 (s.2.2.2.1 (s.2.2.1 1).toNatClampNeg)) (s.2.1 m))) 1 (s.2.2.1 1 + 1) else sK s 2 (s.2.2.1 2 + 1)
theorem y_send {Q : Option Value → xH → Prop} {c : Nat} {g : xH} {s : cS} {m L : Nat} (hm : m < 123) (hL : s.2.2.1 1 = nI L) (h120 : L ≤ 120) (hr : L < 120 → s.2.2.2.1 L < 123 ∧ m ≠ s.2.2.2.1 L) : w_Ma_send Q (c + 2) (ma c m) (cl c g s) ↔ Q none (cl c g (C_send s m)) := by
  unfold C_send
  by_cases h : L < 120
  · have h1 : s.2.2.1 1 < 120 := by
      rw [hL, show (120 : Int32) = nI 120 from rfl, nI_ltI (by omega) (by omega)]
      exact h
    have ec : (s.2.2.1 1).toNatClampNeg = L := by rw [hL, nI_cl (by omega)]
    have en : 0 ≤ s.2.2.1 1 := by
      rw [hL]
      exact nI_pos' (by omega)
    obtain ⟨h3, h4⟩ := hr h
    have hc := fun Q => y_mcp (Q := Q) (c := c) (g := g) (s := s) hm h3 h4
    rw [if_pos h1, ec]
    have tail : ∀ s' : cS, (∃ (f13 : List Value), (cl c g s').2 (c + 2) = some (.inr (2, f13)) ∧ ∃ (x : Int32), f13[2]? = some (.int x) ∧ ∃ (f15 : List Value), (cl c g s').2 (c + 2) = some (.inr (2, f15)) ∧ 2 < f15.length ∧ Q none (xu (cl c g s') (c + 2) (.inr (2, f15.set 2 (.int (x + 1)))))) ↔ Q none (cl c g (sK s' 1 (s'.2.2.1 1 + 1))) := by
      intro s'
      simp (maxSteps := 4000000) (disch := first | omega | decide) only [cn_0, cn_1, cn_2, un_2, cn_3, un_3, cn_4, un_4, cn_5, cn_6, un_6, cn_7, un_7, cn_8, cn_9, un_9, cn_10, un_10, cn_11, un_11, cn_12, cn_13, cn_14, un_14, cn_15, un_15, cn_16, un_16, cm_0, cm_1, cm_2, um_2, cm_3, um_3, cm_4, cm_5, um_5, cm_6, um_6, cm_7, um_7, cg_0, cg_1, cg_2, cg_3, on_0_len, on_0_0, on_0_1, on_0_2, on_0_3, on_0_4, on_0_5, on_0_6, on_0_7, on_0_8, on_0_9, on_0_10, un_0_0, un_0_1, un_0_2, un_0_3, un_0_4, un_0_5, un_0_6, on_1_len, on_1_0, on_1_1, on_1_2, on_5_len, on_5_0, on_5_1, on_8_len, on_8_0, on_8_1, on_8_2, on_12_len, on_12_0, on_12_1, on_12_2, on_12_3, on_12_4, on_12_5, on_12_6, on_12_7, on_12_8, on_12_9, on_12_10, on_12_11, on_12_12, on_12_13, un_12_0, un_12_1, un_12_2, un_12_3, un_12_4, un_12_5, un_12_6, un_12_7, un_12_8, un_12_9, un_12_10, un_12_11, un_12_12, on_13_len, on_13_0, on_13_1, on_13_2, om_0_len, om_0_0, om_0_1, om_0_2, om_0_3, om_0_4, om_0_5, om_0_6, om_0_7, om_0_8, om_0_9, um_0_0, um_0_1, um_0_2, um_0_3, um_0_4, um_0_5, um_0_6, um_0_7, om_1_len, om_1_0, om_1_1, om_4_len, om_4_0, om_4_1, om_4_2, og_0_0, og_0_1, og_0_2, og_0_3, og_0_4, og_2_0, og_2_1, og_2_2, og_2_3, og_0_len, og_2_len, Option.some.injEq, Sum.inr.injEq, Sum.inl.injEq, Prod.mk.injEq, Value.ref.injEq, Value.int.injEq, true_and, and_true, exists_eq_left', exists_eq_left, exists_and_left, forall_eq, rAr_get, rAr_len, rAr_set, nI_nn, nI_cl, exists_const, exists_eq', exists_eq, nI_add, xlt, up1_eq, nb0, nb1, sN_c, sM_c, sNF_c, sMF_c, ua_up, cN_eq, cN_cN, cN_2, cN_cM, cM_eq, cM_1, cM_3, cM_cM, cM_ne,  un_eq, un_nk, un_nj, ua_eq, ua_nk, xcp4, xcp16, y0n, y4n, y16n, yl4, yl16, eq_self, not_true_eq_false, not_false_eq_true, true_implies, false_implies, if_true, if_false, sK_1, sK_2, sK_3, sK_4, cN_sK, ug_0, ug_1, ug_2]
    unfold w_Ma_send
    simp (maxSteps := 4000000) (disch := first | omega | decide) only [cn_0, cn_1, cn_2, un_2, cn_3, un_3, cn_4, un_4, cn_5, cn_6, un_6, cn_7, un_7, cn_8, cn_9, un_9, cn_10, un_10, cn_11, un_11, cn_12, cn_13, cn_14, un_14, cn_15, un_15, cn_16, un_16, cm_0, cm_1, cm_2, um_2, cm_3, um_3, cm_4, cm_5, um_5, cm_6, um_6, cm_7, um_7, cg_0, cg_1, cg_2, cg_3, on_0_len, on_0_0, on_0_1, on_0_2, on_0_3, on_0_4, on_0_5, on_0_6, on_0_7, on_0_8, on_0_9, on_0_10, un_0_0, un_0_1, un_0_2, un_0_3, un_0_4, un_0_5, un_0_6, on_1_len, on_1_0, on_1_1, on_1_2, on_5_len, on_5_0, on_5_1, on_8_len, on_8_0, on_8_1, on_8_2, on_12_len, on_12_0, on_12_1, on_12_2, on_12_3, on_12_4, on_12_5, on_12_6, on_12_7, on_12_8, on_12_9, on_12_10, on_12_11, on_12_12, on_12_13, un_12_0, un_12_1, un_12_2, un_12_3, un_12_4, un_12_5, un_12_6, un_12_7, un_12_8, un_12_9, un_12_10, un_12_11, un_12_12, on_13_len, on_13_0, on_13_1, on_13_2, om_0_len, om_0_0, om_0_1, om_0_2, om_0_3, om_0_4, om_0_5, om_0_6, om_0_7, om_0_8, om_0_9, um_0_0, um_0_1, um_0_2, um_0_3, um_0_4, um_0_5, um_0_6, um_0_7, om_1_len, om_1_0, om_1_1, om_4_len, om_4_0, om_4_1, om_4_2, og_0_0, og_0_1, og_0_2, og_0_3, og_0_4, og_2_0, og_2_1, og_2_2, og_2_3, og_0_len, og_2_len, Option.some.injEq, Sum.inr.injEq, Sum.inl.injEq, Prod.mk.injEq, Value.ref.injEq, Value.int.injEq, true_and, and_true, exists_eq_left', exists_eq_left, exists_and_left, forall_eq, rAr_get, rAr_len, rAr_set, nI_nn, nI_cl, exists_const, exists_eq', exists_eq, nI_add, xlt, up1_eq, nb0, nb1, sN_c, sM_c, sNF_c, sMF_c, ua_up, cN_eq, cN_cN, cN_2, cN_cM, cM_eq, cM_1, cM_3, cM_cM, cM_ne,  un_eq, un_nk, un_nj, ua_eq, ua_nk, xcp4, xcp16, y0n, y4n, y16n, yl4, yl16, eq_self, not_true_eq_false, not_false_eq_true, true_implies, false_implies, if_true, if_false, sK_1, sK_2, sK_3, sK_4, cN_sK, ug_0, ug_1, ug_2, h1]
    constructor
    · rintro ⟨t, y, h5, h6, ar, ⟨rfl, rfl⟩, h7, b, h9, h10⟩
      rw [ec, rng_get h] at h9
      cases h9
      have h11 := h10.2
      rw [hc] at h11
      exact (tail _).mp h11.2
    · intro hq
      refine ⟨2, _, rfl, rfl, _, ⟨rfl, rfl⟩, en, ma c (s.2.2.2.1 L), by rw [ec, rng_get h], ⟨_, cm_0 h3⟩, ?_⟩
      rw [hc]
      exact ⟨rfl, (tail _).mpr hq⟩
  · have h1 : ¬ s.2.2.1 1 < 120 := by
      rw [hL, show (120 : Int32) = nI 120 from rfl, nI_ltI (by omega) (by omega)]
      exact h
    rw [if_neg h1]
    simp (maxSteps := 4000000) (disch := first | omega | decide) only [w_Ma_send, cn_0, cn_1, cn_2, un_2, cn_3, un_3, cn_4, un_4, cn_5, cn_6, un_6, cn_7, un_7, cn_8, cn_9, un_9, cn_10, un_10, cn_11, un_11, cn_12, cn_13, cn_14, un_14, cn_15, un_15, cn_16, un_16, cm_0, cm_1, cm_2, um_2, cm_3, um_3, cm_4, cm_5, um_5, cm_6, um_6, cm_7, um_7, cg_0, cg_1, cg_2, cg_3, on_0_len, on_0_0, on_0_1, on_0_2, on_0_3, on_0_4, on_0_5, on_0_6, on_0_7, on_0_8, on_0_9, on_0_10, un_0_0, un_0_1, un_0_2, un_0_3, un_0_4, un_0_5, un_0_6, on_1_len, on_1_0, on_1_1, on_1_2, on_5_len, on_5_0, on_5_1, on_8_len, on_8_0, on_8_1, on_8_2, on_12_len, on_12_0, on_12_1, on_12_2, on_12_3, on_12_4, on_12_5, on_12_6, on_12_7, on_12_8, on_12_9, on_12_10, on_12_11, on_12_12, on_12_13, un_12_0, un_12_1, un_12_2, un_12_3, un_12_4, un_12_5, un_12_6, un_12_7, un_12_8, un_12_9, un_12_10, un_12_11, un_12_12, on_13_len, on_13_0, on_13_1, on_13_2, om_0_len, om_0_0, om_0_1, om_0_2, om_0_3, om_0_4, om_0_5, om_0_6, om_0_7, om_0_8, om_0_9, um_0_0, um_0_1, um_0_2, um_0_3, um_0_4, um_0_5, um_0_6, um_0_7, om_1_len, om_1_0, om_1_1, om_4_len, om_4_0, om_4_1, om_4_2, og_0_0, og_0_1, og_0_2, og_0_3, og_0_4, og_2_0, og_2_1, og_2_2, og_2_3, og_0_len, og_2_len, Option.some.injEq, Sum.inr.injEq, Sum.inl.injEq, Prod.mk.injEq, Value.ref.injEq, Value.int.injEq, true_and, and_true, exists_eq_left', exists_eq_left, exists_and_left, forall_eq, rAr_get, rAr_len, rAr_set, nI_nn, nI_cl, exists_const, exists_eq', exists_eq, nI_add, xlt, up1_eq, nb0, nb1, sN_c, sM_c, sNF_c, sMF_c, ua_up, cN_eq, cN_cN, cN_2, cN_cM, cM_eq, cM_1, cM_3, cM_cM, cM_ne,  un_eq, un_nk, un_nj, ua_eq, ua_nk, xcp4, xcp16, y0n, y4n, y16n, yl4, yl16, eq_self, not_true_eq_false, not_false_eq_true, true_implies, false_implies, if_true, if_false, sK_1, sK_2, sK_3, sK_4, cN_sK, ug_0, ug_1, ug_2, h1]
