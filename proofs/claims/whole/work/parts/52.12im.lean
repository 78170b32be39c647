/-! what can be seen: the class answers as the reference -/
section VIEWS
variable {Q : Option Value → xH → Prop} {c : Nat} {g : xH} {s : cS} {a : rA} {p q : Nat} {v x y z : Int32}
theorem t_findn (hn : ¬ (0 ≤ v ∧ v ≤ 7)) (h : Q (some .null) (cl c g s)) : w_Q_find Q c v (cl c g s) := (y_findn hn).mpr h
theorem t_node (hp : p < 8) (hr : RR s a) (h : Q (some (.int (V_node (a.1 p) x))) (cl c g s)) : w_Q_node Q c (nI p) x (cl c g s) := by
  obtain ⟨b1, b2, b3, b4, b5, b6, b7, b8, b9, b10⟩ := (hr.1 p hp).1.1
  have eg : gre (a.1 p 9) 16 = gre (s.1 p 6) 16 := gre_congr 16 (fun k hk => ((b8 k hk).1).symm)
  have el : lst (a.1 p 9) 16 = lst (s.1 p 6) 16 := lst_congr 16 (fun k hk => ((b8 k hk).1).symm)
  unfold V_node at h
  unfold w_Q_node
  refine ⟨⟨_, cg_0⟩, (y_find hp).mpr (Or.inr ⟨_, rfl, ?_⟩)⟩
  refine ⟨fun e => ⟨_, _, cn_0 hp, on_0_1, ?_⟩, fun e => ⟨_, _, cn_0 hp, on_0_2, ?_⟩, fun e => ⟨_, _, cn_0 hp, on_0_3, ?_⟩, fun e => ⟨_, _, cn_0 hp, on_0_8, ⟨_, cn_5 hp⟩, (s_Se_having_n hp).mpr ⟨_, rfl, y_lst.mpr ⟨_, rfl, ?_⟩⟩⟩, fun e => ⟨_, _, cn_0 hp, on_0_8, ⟨_, cn_5 hp⟩, (s_Se_having_n hp).mpr ⟨_, rfl, y_gre.mpr ⟨_, rfl, ?_⟩⟩⟩, fun e => ⟨_, _, cn_0 hp, on_0_4, ?_⟩, fun e => ⟨_, _, cn_0 hp, on_0_5, ?_⟩, fun n0 n1 n2 n3 n4 n5 n6 => ?_⟩
  · rw [if_pos e] at h
    rw [b1]
    exact h
  · subst e
    rw [if_neg (by decide), if_pos rfl] at h
    rw [b2]
    exact h
  · subst e
    rw [if_neg (by decide), if_neg (by decide), if_pos rfl] at h
    rw [b3]
    exact h
  · subst e
    rw [if_neg (by decide), if_neg (by decide), if_neg (by decide), if_pos rfl, el] at h
    exact h
  · subst e
    rw [if_neg (by decide), if_neg (by decide), if_neg (by decide), if_neg (by decide), if_pos rfl, eg] at h
    exact h
  · subst e
    rw [if_neg (by decide), if_neg (by decide), if_neg (by decide), if_neg (by decide), if_neg (by decide), if_pos rfl] at h
    rw [b4]
    exact h
  · subst e
    rw [if_neg (by decide), if_neg (by decide), if_neg (by decide), if_neg (by decide), if_neg (by decide), if_neg (by decide), if_pos rfl] at h
    rw [b5]
    exact h
  · rw [if_neg n0, if_neg n1, if_neg n2, if_neg n3, if_neg n4, if_neg n5, if_neg n6] at h
    exact h
theorem t_nodem (hn : ¬ (0 ≤ v ∧ v ≤ 7)) (h : Q (some (.int (-1))) (cl c g s)) : w_Q_node Q c v x (cl c g s) := by
  unfold w_Q_node
  exact ⟨⟨_, cg_0⟩, t_findn hn (Or.inl ⟨rfl, h⟩)⟩
theorem oO (hq : q < 4) : (if 0 ≤ nI q ∧ ¬ 4 ≤ nI q then (1 : Int32) else 0) = 1 := if_pos (of_eq_true (yO hq))
theorem oX (hq : q < 16) : (if 0 ≤ nI q ∧ ¬ 16 ≤ nI q then (1 : Int32) else 0) = 1 := if_pos (of_eq_true (yX hq))
theorem o3n (hn : ¬ (0 ≤ v ∧ v ≤ 3)) : (if 0 ≤ v ∧ ¬ 4 ≤ v then (1 : Int32) else 0) = 0 := by
  refine if_neg (fun z => hn ⟨z.1, ?_⟩)
  have h4 := Int32.not_le.mp z.2
  obtain ⟨j, hj, e⟩ := nI_of2 (M := 4) (n := 4) (by decide) (Int32.not_lt.mpr z.1) (Int32.le_of_lt h4)
  rw [e] at h4 ⊢
  rw [show (4 : Int32) = nI 4 from rfl, nI_ltI (by omega) (by omega)] at h4
  rw [show (3 : Int32) = nI 3 from rfl, nI_leI (by omega) (by omega)]
  omega
theorem o15n (hn : ¬ (0 ≤ v ∧ v ≤ 15)) : (if 0 ≤ v ∧ ¬ 16 ≤ v then (1 : Int32) else 0) = 0 := by
  refine if_neg (fun z => hn ⟨z.1, ?_⟩)
  have h4 := Int32.not_le.mp z.2
  obtain ⟨j, hj, e⟩ := nI_of2 (M := 16) (n := 16) (by decide) (Int32.not_lt.mpr z.1) (Int32.le_of_lt h4)
  rw [e] at h4 ⊢
  rw [show (16 : Int32) = nI 16 from rfl, nI_ltI (by omega) (by omega)] at h4
  rw [show (15 : Int32) = nI 15 from rfl, nI_leI (by omega) (by omega)]
  omega
/-- a copy's number, writer, value, wherever the copies lie -/
theorem t_num {h : xH} {k a0 : Nat} {l : List Value} {f : Nat → Int32} (hq : q < 4) (h1 : h.2 k = some (.inr (1, l))) (h2 : l[0]? = some (.ref a0)) (h3 : h.2 a0 = some (.inl (0, .inl (rAr 4 f)))) (hQ : Q (some (.int (f q))) h) : w_Co_numberOf Q k (nI q) h := by
  unfold w_Co_numberOf
  refine s_Q_isObject.mpr ?_
  rw [oO hq]
  refine ⟨1, rfl, fun z => absurd z (by decide), fun _ => ⟨_, _, h1, h2, _, f q, h3, nI_nn (by omega), ?_, hQ⟩⟩
  rw [nI_cl (by omega), rAr_get f hq]
theorem t_wri {h : xH} {k a0 : Nat} {l : List Value} {f : Nat → Int32} (hq : q < 4) (h1 : h.2 k = some (.inr (1, l))) (h2 : l[1]? = some (.ref a0)) (h3 : h.2 a0 = some (.inl (0, .inl (rAr 4 f)))) (hQ : Q (some (.int (f q))) h) : w_Co_writerOf Q k (nI q) h := by
  unfold w_Co_writerOf
  refine s_Q_isObject.mpr ?_
  rw [oO hq]
  refine ⟨1, rfl, fun z => absurd z (by decide), fun _ => ⟨_, _, h1, h2, _, f q, h3, nI_nn (by omega), ?_, hQ⟩⟩
  rw [nI_cl (by omega), rAr_get f hq]
theorem t_val {h : xH} {k a0 : Nat} {l : List Value} {f : Nat → Int32} (hq : q < 4) (h1 : h.2 k = some (.inr (1, l))) (h2 : l[2]? = some (.ref a0)) (h3 : h.2 a0 = some (.inl (0, .inl (rAr 4 f)))) (hQ : Q (some (.int (f q))) h) : w_Co_valueOf Q k (nI q) h := by
  unfold w_Co_valueOf
  refine s_Q_isObject.mpr ?_
  rw [oO hq]
  refine ⟨1, rfl, fun z => absurd z (by decide), fun _ => ⟨_, _, h1, h2, _, f q, h3, nI_nn (by omega), ?_, hQ⟩⟩
  rw [nI_cl (by omega), rAr_get f hq]
theorem t_cell (hp : p < 8) (hq : q < 4) (hr : RR s a) (h : Q (some (.int (V_cell (a.1 p) q x))) (cl c g s)) : w_Q_cell Q c (nI p) (nI q) x (cl c g s) := by
  obtain ⟨b1, b2, b3, b4, b5, b6, b7, b8, b9, b10⟩ := (hr.1 p hp).1.1
  obtain ⟨d1, d2, d3⟩ := b7 q hq
  unfold V_cell at h
  unfold w_Q_cell
  refine ⟨⟨_, cg_0⟩, (y_find hp).mpr (Or.inr ⟨_, rfl, s_Q_isObject.mpr ?_⟩)⟩
  rw [oO hq]
  refine ⟨1, rfl, fun _ => ⟨fun e => ⟨_, _, cn_0 hp, on_0_7, ⟨_, cn_1 hp⟩, t_num hq (cn_1 hp) on_1_0 (cn_2 hp) ⟨_, rfl, ?_⟩⟩, fun e => ⟨_, _, cn_0 hp, on_0_7, ⟨_, cn_1 hp⟩, t_wri hq (cn_1 hp) on_1_1 (cn_3 hp) ⟨_, rfl, ?_⟩⟩, fun e => ⟨_, _, cn_0 hp, on_0_7, ⟨_, cn_1 hp⟩, t_val hq (cn_1 hp) on_1_2 (cn_4 hp) ⟨_, rfl, ?_⟩⟩, fun n0 n1 n2 => ?_⟩, fun z => absurd z (by decide)⟩
  · rw [if_pos e] at h
    rw [d1]
    exact h
  · subst e
    rw [if_neg (by decide), if_pos rfl] at h
    rw [d2]
    exact h
  · subst e
    rw [if_neg (by decide), if_neg (by decide), if_pos rfl] at h
    rw [d3]
    exact h
  · rw [if_neg n0, if_neg n1, if_neg n2] at h
    exact h
theorem t_cellm (hn : ¬ (0 ≤ v ∧ v ≤ 7)) (h : Q (some (.int (-1))) (cl c g s)) : w_Q_cell Q c v x y (cl c g s) := by
  unfold w_Q_cell
  exact ⟨⟨_, cg_0⟩, t_findn hn (Or.inl ⟨rfl, h⟩)⟩
theorem t_celln (hp : p < 8) (hn : ¬ (0 ≤ v ∧ v ≤ 3)) (h : Q (some (.int (-1))) (cl c g s)) : w_Q_cell Q c (nI p) v x (cl c g s) := by
  unfold w_Q_cell
  refine ⟨⟨_, cg_0⟩, (y_find hp).mpr (Or.inr ⟨_, rfl, s_Q_isObject.mpr ?_⟩)⟩
  rw [o3n hn]
  exact ⟨0, rfl, fun z => absurd rfl z, fun _ => h⟩
theorem t_sta (hp : p < 8) (hq : q < 16) (hQ : Q (some (.int (s.1 p 6 q))) (cl c g s)) : w_Se_stateOf Q (na c p + 5) (nI q) (cl c g s) := by
  unfold w_Se_stateOf
  refine s_Q_isIndex.mpr ?_
  rw [oX hq]
  refine ⟨1, rfl, fun z => absurd z (by decide), fun _ => ⟨_, _, cn_5 hp, on_5_0, _, s.1 p 6 q, cn_6 hp, nI_nn (by omega), ?_, hQ⟩⟩
  rw [nI_cl (by omega), rAr_get _ hq]
theorem t_cof (hp : p < 8) (hq : q < 16) (hQ : Q (some (.int (s.1 p 7 q))) (cl c g s)) : w_Se_configurationOf Q (na c p + 5) (nI q) (cl c g s) := by
  unfold w_Se_configurationOf
  refine s_Q_isIndex.mpr ?_
  rw [oX hq]
  refine ⟨1, rfl, fun z => absurd z (by decide), fun _ => ⟨_, _, cn_5 hp, on_5_1, _, s.1 p 7 q, cn_7 hp, nI_nn (by omega), ?_, hQ⟩⟩
  rw [nI_cl (by omega), rAr_get _ hq]
theorem t_map (hp : p < 8) (hq : q < 16) (hr : RR s a) (h : Q (some (.int (V_map (a.1 p) q x))) (cl c g s)) : w_Q_map Q c (nI p) (nI q) x (cl c g s) := by
  obtain ⟨b1, b2, b3, b4, b5, b6, b7, b8, b9, b10⟩ := (hr.1 p hp).1.1
  obtain ⟨d1, d2, d3, d4, d5⟩ := b8 q hq
  unfold V_map at h
  unfold w_Q_map
  refine ⟨⟨_, cg_0⟩, (y_find hp).mpr (Or.inr ⟨_, rfl, s_Q_isIndex.mpr ?_⟩)⟩
  rw [oX hq]
  refine ⟨1, rfl, fun _ => ⟨fun e => ⟨_, _, cn_0 hp, on_0_8, ⟨_, cn_5 hp⟩, t_sta hp hq ⟨_, rfl, ?_⟩⟩, fun e => ⟨_, _, cn_0 hp, on_0_8, ⟨_, cn_5 hp⟩, t_cof hp hq ⟨_, rfl, ?_⟩⟩, fun e => ⟨_, _, cn_0 hp, on_0_9, ⟨_, cn_8 hp⟩, (y_vpr hp hq).mpr ⟨_, rfl, ?_⟩⟩, fun e => ⟨_, _, cn_0 hp, on_0_9, ⟨_, cn_8 hp⟩, (y_vac hp hq).mpr ⟨_, rfl, ?_⟩⟩, fun e => ⟨_, _, cn_0 hp, on_0_9, ⟨_, cn_8 hp⟩, (y_vco hp hq).mpr ⟨_, rfl, ?_⟩⟩, fun n0 n1 n2 n3 n4 => ?_⟩, fun z => absurd z (by decide)⟩
  · rw [if_pos e] at h
    rw [d1]
    exact h
  · subst e
    rw [if_neg (by decide), if_pos rfl] at h
    rw [d2]
    exact h
  · subst e
    rw [if_neg (by decide), if_neg (by decide), if_pos rfl] at h
    rw [d3]
    exact h
  · subst e
    rw [if_neg (by decide), if_neg (by decide), if_neg (by decide), if_pos rfl] at h
    rw [d4]
    exact h
  · subst e
    rw [if_neg (by decide), if_neg (by decide), if_neg (by decide), if_neg (by decide), if_pos rfl] at h
    rw [d5]
    exact h
  · rw [if_neg n0, if_neg n1, if_neg n2, if_neg n3, if_neg n4] at h
    exact h
theorem t_mapm (hn : ¬ (0 ≤ v ∧ v ≤ 7)) (h : Q (some (.int (-1))) (cl c g s)) : w_Q_map Q c v x y (cl c g s) := by
  unfold w_Q_map
  exact ⟨⟨_, cg_0⟩, t_findn hn (Or.inl ⟨rfl, h⟩)⟩
theorem t_mapn (hp : p < 8) (hn : ¬ (0 ≤ v ∧ v ≤ 15)) (h : Q (some (.int (-1))) (cl c g s)) : w_Q_map Q c (nI p) v x (cl c g s) := by
  unfold w_Q_map
  refine ⟨⟨_, cg_0⟩, (y_find hp).mpr (Or.inr ⟨_, rfl, s_Q_isIndex.mpr ?_⟩)⟩
  rw [o15n hn]
  exact ⟨0, rfl, fun z => absurd rfl z, fun _ => h⟩
theorem isO_eq {m n : nv} (h : m 12 1 = n 15 0) : C_isO m = F_isData n := by
  unfold C_isO F_isData
  rw [h]
theorem t_task {B : Nat} (hp : p < 8) (hr : RR s a) (hj : JV B a) (h : Q (some (.int (V_task (a.1 p) x))) (cl c g s)) : w_Q_task Q c (nI p) x (cl c g s) := by
  obtain ⟨hb, hrt⟩ := (hr.1 p hp).1
  have hn := (hj.1.2.1 p hp).1
  have b1 := hb.1
  have b9 := hb.2.2.2.2.2.2.2.2.1
  have b10 := hb.2.2.2.2.2.2.2.2.2
  unfold V_task at h
  unfold w_Q_task
  refine ⟨⟨_, cg_0⟩, (y_find hp).mpr (Or.inr ⟨_, rfl, ⟨_, cn_0 hp⟩, (y_isUp hp).mpr ⟨_, rfl, fun z => ?_, fun z => ?_⟩⟩)⟩
  · have hu : ¬ a.1 p 1 0 = 1 := by
      intro hu
      rw [b1, if_pos hu] at z
      exact absurd z (by decide)
    rw [if_neg (fun w => hu w.1)] at h
    exact h
  · have hu : a.1 p 1 0 = 1 := by
      by_cases hu : a.1 p 1 0 = 1
      · exact hu
      · rw [b1, if_neg hu] at z
        exact absurd rfl z
    refine ⟨_, _, cn_0 hp, on_0_10, _, _, cn_12 hp, on_12_0, fun z0 => ?_, fun z0 => ?_⟩
    · have h14 : ¬ a.1 p 14 0 = 0 := by
        rw [← b9]
        exact z0
      obtain ⟨⟨r1, r3, r4, r7, _⟩, ⟨q5, q6, q14, _⟩⟩ := hrt h14
      have hc : a.1 p 1 0 = 1 ∧ ¬ a.1 p 14 0 = 0 := ⟨hu, h14⟩
      have h13 := hn.2.2.2.2.2.2.2.2.2.2.2.2.1 h14
      have hO : C_isO (s.1 p) = F_isData (a.1 p) := isO_eq r1
      rw [if_pos hc] at h
      unfold V_t at h
      refine ⟨_, _, cn_0 hp, on_0_10, fun e => ⟨_, _, cn_12 hp, on_12_0, ?_⟩, fun e => ⟨_, _, cn_12 hp, on_12_1, ?_⟩, fun e => ⟨_, _, cn_12 hp, on_12_2, ?_⟩, fun e => ⟨_, _, cn_12 hp, on_12_3, ?_⟩, fun e => ⟨_, _, cn_12 hp, on_12_4, ?_⟩, fun e => ⟨_, _, cn_12 hp, on_12_5, ?_⟩, fun e => ⟨_, _, cn_12 hp, on_12_6, ?_⟩, fun e => ⟨⟨_, cn_12 hp⟩, (y_isO hp).mpr ⟨_, rfl, fun z => ?_, fun z => ?_⟩⟩, fun e => ⟨⟨_, cn_12 hp⟩, (y_isO hp).mpr ⟨_, rfl, fun z => ?_, fun z => ?_⟩⟩, fun e => ⟨_, _, cn_12 hp, on_12_7, ?_⟩, fun n0 n1 n2 n3 n4 n5 n6 n7 n8 n9 => ?_⟩
      · rw [if_pos e] at h
        rw [b9]
        exact h
      · subst e
        rw [if_neg (by decide), if_pos rfl] at h
        rw [r1]
        exact h
      · subst e
        rw [if_neg (by decide), if_neg (by decide), if_pos rfl] at h
        rw [b10]
        exact h
      · subst e
        rw [if_neg (by decide), if_neg (by decide), if_neg (by decide), if_pos rfl] at h
        rw [r3]
        exact h
      · subst e
        rw [if_neg (by decide), if_neg (by decide), if_neg (by decide), if_neg (by decide), if_pos rfl] at h
        rw [r4]
        by_cases h16 : a.1 p 16 0 = 0
        · rw [if_pos h16] at h
          exact h
        · rw [if_neg h16] at h
          rw [(NI_busy hn h16).2]
          exact h
      · subst e
        rw [if_neg (by decide), if_neg (by decide), if_neg (by decide), if_neg (by decide), if_neg (by decide), if_pos rfl] at h
        rw [q5]
        exact h
      · subst e
        rw [if_neg (by decide), if_neg (by decide), if_neg (by decide), if_neg (by decide), if_neg (by decide), if_neg (by decide), if_pos rfl] at h
        rw [q6]
        exact h
      · subst e
        rw [if_neg (by decide), if_neg (by decide), if_neg (by decide), if_neg (by decide), if_neg (by decide), if_neg (by decide), if_neg (by decide), if_pos rfl] at h
        rw [hO] at z
        rw [if_pos z] at h
        exact h
      · subst e
        rw [if_neg (by decide), if_neg (by decide), if_neg (by decide), if_neg (by decide), if_neg (by decide), if_neg (by decide), if_neg (by decide), if_pos rfl] at h
        rw [hO] at z
        rw [if_neg z] at h
        have hq := hn.1.2.2.1 z
        refine ⟨_, _, cn_12 hp, on_12_13, _, _, cn_12 hp, on_12_3, ⟨_, cn_13 hp⟩, ?_⟩
        rw [r3, hn.1.1]
        refine t_num hq (cn_13 hp) on_13_0 (cn_14 hp) ⟨_, rfl, ?_⟩
        rw [(q14 _ hq).1]
        exact h
      · subst e
        rw [if_neg (by decide), if_neg (by decide), if_neg (by decide), if_neg (by decide), if_neg (by decide), if_neg (by decide), if_neg (by decide), if_neg (by decide), if_pos rfl] at h
        rw [hO] at z
        rw [if_pos z] at h
        exact h
      · subst e
        rw [if_neg (by decide), if_neg (by decide), if_neg (by decide), if_neg (by decide), if_neg (by decide), if_neg (by decide), if_neg (by decide), if_neg (by decide), if_pos rfl] at h
        rw [hO] at z
        rw [if_neg z] at h
        have hq := hn.1.2.2.1 z
        refine ⟨_, _, cn_12 hp, on_12_13, _, _, cn_12 hp, on_12_3, ⟨_, cn_13 hp⟩, ?_⟩
        rw [r3, hn.1.1]
        refine t_wri hq (cn_13 hp) on_13_1 (cn_15 hp) ⟨_, rfl, ?_⟩
        rw [(q14 _ hq).2.1]
        exact h
      · subst e
        rw [if_neg (by decide), if_neg (by decide), if_neg (by decide), if_neg (by decide), if_neg (by decide), if_neg (by decide), if_neg (by decide), if_neg (by decide), if_neg (by decide), if_pos rfl] at h
        rw [r7]
        by_cases h3 : a.1 p 15 0 = 3
        · rw [if_pos h3] at h
          exact h
        · rw [if_neg h3] at h
          rw [h13.2 h3]
          exact h
      · rw [if_neg n0, if_neg n1, if_neg n2, if_neg n3, if_neg n4, if_neg n5, if_neg n6, if_neg n7, if_neg n8, if_neg n9] at h
        exact h
    · have h14 : a.1 p 14 0 = 0 := by
        rw [← b9]
        exact z0
      rw [if_neg (fun w => w.2 h14)] at h
      exact h
theorem t_taskm (hn : ¬ (0 ≤ v ∧ v ≤ 7)) (h : Q (some (.int (-1))) (cl c g s)) : w_Q_task Q c v x (cl c g s) := by
  unfold w_Q_task
  exact ⟨⟨_, cg_0⟩, t_findn hn (Or.inl ⟨rfl, h⟩)⟩
end VIEWS
