theorem init_No {Q : Option Value → xH → Prop} {h : xH} {v : Int32} {kc ks : Nat} (hh : h.2 h.1 = some (.inr (4, [.int 0, .int 0, .int 0, .int 0, .int 0, .int 0, .int 0, .null, .null, .null, .null]))) (hQ : ∀ h', h'.1 = h.1 + 16 → (∀ j, h'.2 j = blq h.2 h.1 (noC h.1 v) j) → Q none h') : w_No_init Q h.1 v h (kc + 16) (ks + 129) := by
  obtain ⟨N, F⟩ := h
  dsimp only at hh hQ ⊢
  unfold w_No_init
  refine ⟨[.int 0, .int 0, .int 0, .int 0, .int 0, .int 0, .int 0, .null, .null, .null, .null], hh, by simp, ?_⟩
  intro g0 eg0
  refine ⟨[.int 0, .int 0, .int 0, .int 0, .int 0, .int 0, .int 0, .null, .null, .null, .null], by rw [eg0, xu_e]; rfl, by simp, ?_⟩
  intro g1 eg1
  refine ⟨[.int 0, .int 0, .int 1, .int 0, .int 0, .int 0, .int 0, .null, .null, .null, .null], by rw [eg1, xu_e]; rfl, by simp, ?_⟩
  intro g2 eg2
  refine ⟨[.int 0, .int 0, .int 1, .int 0, .int 0, .int 0, .int 0, .null, .null, .null, .null], by rw [eg2, xu_e]; rfl, by simp, ?_⟩
  intro g3 eg3
  refine ⟨[.int 0, .int 0, .int 1, .int 0, .int 0, .int 0, .int 0, .null, .null, .null, .null], by rw [eg3, xu_e]; rfl, by simp, ?_⟩
  intro g4 eg4
  refine ⟨[.int 0, .int 0, .int 1, .int 0, .int 0, .int 0, .int 0, .null, .null, .null, .null], by rw [eg4, xu_e]; rfl, by simp, ?_⟩
  intro g5 eg5
  have d1 : g5.1 = N := by rw [eg5, xu_1, eg4, xu_1, eg3, xu_1, eg2, xu_1, eg1, xu_1, eg0, xu_1]
  have dN : g5.2 N = some (.inr (4, [.int 0, .int 0, .int 1, .int 0, .int 0, .int 0, .int 0, .null, .null, .null, .null])) := by
    rw [eg5, xu_e]
    rfl
  have dF : ∀ j, j ≠ N → g5.2 j = F j := by
    intro j hj
    rw [eg5, xu_n hj, eg4, xu_n hj, eg3, xu_n hj, eg2, xu_n hj, eg1, xu_n hj, eg0, xu_n hj]
  clear eg0 eg1 eg2 eg3 eg4 eg5
  refine ⟨kc + 15, ks + 126, by omega, by omega, ?_⟩
  intro b0 h0 eb0 eh0
  have s01 : g5.1 + 1 = N + 1 := by rw [d1]
  rw [s01] at eb0
  subst eb0
  have s02 : h0.1 = N + 1 := by rw [eh0, xn_1, s01]
  have s0e : h0.2 (N + 1) = some (.inr (1, [.null, .null, .null])) := by
    have := xn_e (h := g5) (e := .inr (1, [.null, .null, .null]))
    rw [s01] at this
    rw [eh0]
    exact this
  have s0n : ∀ j, j ≠ N + 1 → h0.2 j = g5.2 j := by
    intro j hj
    rw [eh0, xn_n]
    rw [s01]
    exact hj
  clear eh0
  refine ⟨3, kc + 12, 12, ks + 114, by omega, by omega, ?_⟩
  rw [← s02]
  refine init_Co (h := h0) (kc := 0) (ks := 0) (by rw [s02]; exact s0e) ?_
  intro k0 f01 f02
  rw [s02] at f01 f02
  refine ⟨rfl, [.int 0, .int 0, .int 1, .int 0, .int 0, .int 0, .int 0, .null, .null, .null, .null], ?_, by simp, ?_⟩
  · rw [f02, blk_out (by omega), s0n N (by omega)]
    exact dN
  intro u0 eu0
  rw [s02] at eu0
  have u01 : u0.1 = N + 4 := by rw [eu0, xu_1, f01]
  have u0N : u0.2 N = some (.inr (4, [.int 0, .int 0, .int 1, .int 0, .int 0, .int 0, .int 0, .ref (N + 1), .null, .null, .null])) := by
    rw [eu0, xu_e]
    rfl
  have u0n : ∀ j, j ≠ N → u0.2 j = blq h0.2 (N + 1) (coC (N + 1)) j := by
    intro j hj
    rw [eu0, xu_n hj, f02]
  clear eu0 f02 f01
  refine ⟨kc + 11, ks + 112, by omega, by omega, ?_⟩
  intro b1 h1 eb1 eh1
  have s11 : u0.1 + 1 = N + 5 := by rw [u01]
  rw [s11] at eb1
  subst eb1
  have s12 : h1.1 = N + 5 := by rw [eh1, xn_1, s11]
  have s1e : h1.2 (N + 5) = some (.inr (5, [.null, .null])) := by
    have := xn_e (h := u0) (e := .inr (5, [.null, .null]))
    rw [s11] at this
    rw [eh1]
    exact this
  have s1n : ∀ j, j ≠ N + 5 → h1.2 j = u0.2 j := by
    intro j hj
    rw [eh1, xn_n]
    rw [s11]
    exact hj
  clear eh1
  refine ⟨2, kc + 9, 32, ks + 80, by omega, by omega, ?_⟩
  rw [← s12]
  refine init_Se (h := h1) (kc := 0) (ks := 0) (by rw [s12]; exact s1e) ?_
  intro k1 f11 f12
  rw [s12] at f11 f12
  refine ⟨rfl, [.int 0, .int 0, .int 1, .int 0, .int 0, .int 0, .int 0, .ref (N + 1), .null, .null, .null], ?_, by simp, ?_⟩
  · rw [f12, blk_out (by omega), s1n N (by omega)]
    exact u0N
  intro u1 eu1
  rw [s12] at eu1
  have u11 : u1.1 = N + 7 := by rw [eu1, xu_1, f11]
  have u1N : u1.2 N = some (.inr (4, [.int 0, .int 0, .int 1, .int 0, .int 0, .int 0, .int 0, .ref (N + 1), .ref (N + 5), .null, .null])) := by
    rw [eu1, xu_e]
    rfl
  have u1n : ∀ j, j ≠ N → u1.2 j = blq h1.2 (N + 5) (seC (N + 5)) j := by
    intro j hj
    rw [eu1, xu_n hj, f12]
  clear eu1 f12 f11
  refine ⟨kc + 8, ks + 77, by omega, by omega, ?_⟩
  intro b2 h2 eb2 eh2
  have s21 : u1.1 + 1 = N + 8 := by rw [u11]
  rw [s21] at eb2
  subst eb2
  have s22 : h2.1 = N + 8 := by rw [eh2, xn_1, s21]
  have s2e : h2.2 (N + 8) = some (.inr (7, [.null, .null, .null])) := by
    have := xn_e (h := u1) (e := .inr (7, [.null, .null, .null]))
    rw [s21] at this
    rw [eh2]
    exact this
  have s2n : ∀ j, j ≠ N + 8 → h2.2 j = u1.2 j := by
    intro j hj
    rw [eh2, xn_n]
    rw [s21]
    exact hj
  clear eh2
  refine ⟨3, kc + 5, 48, ks + 29, by omega, by omega, ?_⟩
  rw [← s22]
  refine init_Vo (h := h2) (kc := 0) (ks := 0) (by rw [s22]; exact s2e) ?_
  intro k2 f21 f22
  rw [s22] at f21 f22
  refine ⟨rfl, [.int 0, .int 0, .int 1, .int 0, .int 0, .int 0, .int 0, .ref (N + 1), .ref (N + 5), .null, .null], ?_, by simp, ?_⟩
  · rw [f22, blk_out (by omega), s2n N (by omega)]
    exact u1N
  intro u2 eu2
  rw [s22] at eu2
  have u21 : u2.1 = N + 11 := by rw [eu2, xu_1, f21]
  have u2N : u2.2 N = some (.inr (4, [.int 0, .int 0, .int 1, .int 0, .int 0, .int 0, .int 0, .ref (N + 1), .ref (N + 5), .ref (N + 8), .null])) := by
    rw [eu2, xu_e]
    rfl
  have u2n : ∀ j, j ≠ N → u2.2 j = blq h2.2 (N + 8) (voC (N + 8)) j := by
    intro j hj
    rw [eu2, xu_n hj, f22]
  clear eu2 f22 f21
  refine ⟨kc + 4, ks + 15, by omega, by omega, ?_⟩
  intro b3 h3 eb3 eh3
  have s31 : u2.1 + 1 = N + 12 := by rw [u21]
  rw [s31] at eb3
  subst eb3
  have s32 : h3.1 = N + 12 := by rw [eh3, xn_1, s31]
  have s3e : h3.2 (N + 12) = some (.inr (6, [.int 0, .int 0, .int 0, .int 0, .int 0, .int 0, .int 0, .int 0, .int 0, .int 0, .int 0, .int 0, .int 0, .null])) := by
    have := xn_e (h := u2) (e := .inr (6, [.int 0, .int 0, .int 0, .int 0, .int 0, .int 0, .int 0, .int 0, .int 0, .int 0, .int 0, .int 0, .int 0, .null]))
    rw [s31] at this
    rw [eh3]
    exact this
  have s3n : ∀ j, j ≠ N + 12 → h3.2 j = u2.2 j := by
    intro j hj
    rw [eh3, xn_n]
    rw [s31]
    exact hj
  clear eh3
  refine ⟨4, kc, 15, ks, by omega, by omega, ?_⟩
  rw [← s32]
  refine init_Ta (h := h3) (kc := 0) (ks := 0) (by rw [s32]; exact s3e) ?_
  intro k3 f31 f32
  rw [s32] at f31 f32
  refine ⟨rfl, [.int 0, .int 0, .int 1, .int 0, .int 0, .int 0, .int 0, .ref (N + 1), .ref (N + 5), .ref (N + 8), .null], ?_, by simp, ?_⟩
  · rw [f32, blk_out (by omega), s3n N (by omega)]
    exact u2N
  intro u3 eu3
  rw [s32] at eu3
  have u31 : u3.1 = N + 16 := by rw [eu3, xu_1, f31]
  have u3N : u3.2 N = some (.inr (4, [.int 0, .int 0, .int 1, .int 0, .int 0, .int 0, .int 0, .ref (N + 1), .ref (N + 5), .ref (N + 8), .ref (N + 12)])) := by
    rw [eu3, xu_e]
    rfl
  have u3n : ∀ j, j ≠ N → u3.2 j = blq h3.2 (N + 12) (taC (N + 12)) j := by
    intro j hj
    rw [eu3, xu_n hj, f32]
  clear eu3 f32 f31
  refine ⟨[.int 0, .int 0, .int 1, .int 0, .int 0, .int 0, .int 0, .ref (N + 1), .ref (N + 5), .ref (N + 8), .ref (N + 12)], u3N, by simp, ?_⟩
  intro g6 eg6
  subst eg6
  refine hQ _ ?_ (fun j => ?_)
  · rw [xu_1, u31]
  unfold noC
  rw [blk_cons]
  by_cases c : j = N
  · rw [if_pos c, c, xu_e]
    rfl
  · rw [if_neg c, xu_n c, u3n j c, blk_app, blk_app, blk_app]
    simp only [List.length_append, coC_len, seC_len, voC_len, Nat.add_assoc, Nat.reduceAdd]
    refine blk_cg (fun w3 => ?_)
    simp only [taC, coC, List.length_cons, List.length_nil] at w3
    rw [s3n j (by omega), u2n j c]
    refine blk_cg (fun w2 => ?_)
    simp only [voC, List.length_cons, List.length_nil] at w2
    rw [s2n j (by omega), u1n j c]
    refine blk_cg (fun w1 => ?_)
    simp only [seC, List.length_cons, List.length_nil] at w1
    rw [s1n j (by omega), u0n j c]
    refine blk_cg (fun w0 => ?_)
    simp only [coC, List.length_cons, List.length_nil] at w0
    rw [s0n j (by omega), dF j c]
