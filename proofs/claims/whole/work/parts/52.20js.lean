/-! the law's loop -/
theorem clrl {g : xH} {s : cS} {t : rS} : cl 1 (rl 1125 g t) s = rl 1125 (cl 1 g s) t := by
  unfold cl rl
  refine Prod.ext rfl (funext fun b => ?_)
  dsimp only
  by_cases h1 : 1 ≤ b ∧ b < 1 + 1124
  · rw [if_pos h1, if_neg (by omega), if_pos h1]
  · rw [if_neg h1]
    by_cases h2 : 1125 ≤ b ∧ b ≤ 1125 + 31
    · rw [if_pos h2, if_pos h2]
    · rw [if_neg h2, if_neg h2, if_neg h1]
theorem len5 {n i : Nat} (hn : n ≤ 2563) (hi : i ≤ 100000) : ((Int32.ofNat n) - 5 < nI i) ↔ n < i + 5 := by
  by_cases h5 : 5 ≤ n
  · have e : (Int32.ofNat n) - 5 = nI (n - 5) := pk_sub (a := n) (b := 5) h5
    rw [e, nI_ltI (by omega) (by omega)]
    omega
  · have h0 : (Int32.ofNat n) - 5 < 0 := by
      have hh : n = 0 ∨ n = 1 ∨ n = 2 ∨ n = 3 ∨ n = 4 := by omega
      rcases hh with z | z | z | z | z <;> rw [z] <;> decide
    refine ⟨fun _ => by omega, fun _ => ?_⟩
    exact Int32.lt_of_lt_of_le h0 (nI_nn (by omega))
set_option maxRecDepth 100000 in
set_option maxHeartbeats 16000000 in
theorem law_lp {sc : List Int32} {Q : Option Value → xH → Prop} {G : xH} (hQ1 : ∀ h, Q (some (.int 1)) h) (hL : sc.length ≤ 2563) : ∀ (d i B : Nat) (s : cS) (a : rA) (kc ks : Nat), sc.length < i + 5 + 5 * d → i ≤ 3000 → B + 8 * d < 100000 → INV B s a → w_L_law_48 sc Q (d + 1) 1 1125 (nI i) (cl 1 (rl 1125 G (tt a)) s) kc ks := by
  intro d
  induction d with
  | zero =>
    intro i B s a kc ks h1 h2 h3 h4
    rw [w_L_law_48]
    exact ⟨fun _ => ⟨nb1, hQ1 _⟩, fun w => absurd ((len5 hL (by omega)).mpr (by omega)) w⟩
  | succ d ih =>
    intro i B s a kc ks h1 h2 h3 h4
    rw [w_L_law_48]
    refine ⟨fun _ => ⟨nb1, hQ1 _⟩, fun w => ?_⟩
    have hi : i + 5 ≤ sc.length := by
      refine Classical.byContradiction (fun z => w ?_)
      exact (len5 hL (by omega)).mpr (by omega)
    have hB : B < 100000 := by omega
    have e1 : nI i + 1 = nI (i + 1) := nI_1 i
    have e2 : nI i + 2 = nI (i + 2) := nI_add i 2
    have e3 : nI i + 3 = nI (i + 3) := nI_add i 3
    have e4 : nI i + 4 = nI (i + 4) := nI_add i 4
    have e5 : nI i + 5 = nI (i + 5) := nI_add i 5
    have g0 : sc[(nI i).toNatClampNeg]? = some (sc[i]'(by omega)) := by
      rw [nI_cl (by omega)]
      exact List.getElem?_eq_getElem (by omega)
    have g1 : sc[(nI i + 1 : Int32).toNatClampNeg]? = some (sc[i + 1]'(by omega)) := by
      rw [e1, nI_cl (by omega)]
      exact List.getElem?_eq_getElem (by omega)
    have p1 : 0 ≤ (nI i + 1 : Int32) := by
      rw [e1]
      exact nI_nn (by omega)
    have g2 : sc[(nI i + 2 : Int32).toNatClampNeg]? = some (sc[i + 2]'(by omega)) := by
      rw [e2, nI_cl (by omega)]
      exact List.getElem?_eq_getElem (by omega)
    have p2 : 0 ≤ (nI i + 2 : Int32) := by
      rw [e2]
      exact nI_nn (by omega)
    have g3 : sc[(nI i + 3 : Int32).toNatClampNeg]? = some (sc[i + 3]'(by omega)) := by
      rw [e3, nI_cl (by omega)]
      exact List.getElem?_eq_getElem (by omega)
    have p3 : 0 ≤ (nI i + 3 : Int32) := by
      rw [e3]
      exact nI_nn (by omega)
    have g4 : sc[(nI i + 4 : Int32).toNatClampNeg]? = some (sc[i + 4]'(by omega)) := by
      rw [e4, nI_cl (by omega)]
      exact List.getElem?_eq_getElem (by omega)
    have p4 : 0 ≤ (nI i + 4 : Int32) := by
      rw [e4]
      exact nI_nn (by omega)
    have nxt : ∀ (s' : cS) (a' : rA), INV (B + 8) s' a' → w_L_law_749 sc Q (fun y0 y1 y2 yh yc ys => w_L_law_48 sc Q (d + 1) y0 y1 y2 yh yc ys) 1 1125 (nI i) (rl 1125 (cl 1 G s') (tt a')) kc ks := by
      intro s' a' hI
      unfold w_L_law_749
      rw [e5, ← clrl]
      exact ih (i + 5) (B + 8) s' a' kc ks (by omega) (by omega) (by omega) hI
    refine ⟨_, nI_nn (by omega), g0, ?_⟩
    refine ⟨fun _ => ?_, fun _ => ?_, fun _ => ?_, fun _ => ?_, fun _ => ?_, fun _ => ?_, fun _ => ?_, fun _ => ?_, fun _ => ?_, fun _ => ?_, fun _ => ?_, fun _ => ?_, fun _ => ?_, fun _ => ?_, fun _ => ?_, fun _ => ?_, fun _ => ?_, fun _ => ?_, fun _ => ?_, fun n0 n1 n2 n3 n4 n5 n6 n7 n8 n9 n10 n11 n12 n13 n14 n15 n16 n17 n18 => ?_⟩
    · obtain ⟨s', a', n, hI, hQ, hM⟩ := duo_read (v := sc[i + 1]'(by omega)) (x := sc[i + 2]'(by omega)) hB h4
      refine ⟨_, p1, g1, _, p2, g2, ⟨_, cg_0⟩, hQ _ _ ?_⟩
      rw [clrl]
      exact ⟨n, rfl, _, p1, g1, _, p2, g2, ⟨_, rl_r⟩, hM _ _ ⟨n, rfl, fun _ => nxt s' a' hI, fun hne => absurd rfl hne⟩⟩
    · obtain ⟨s', a', n, hI, hQ, hM⟩ := duo_write (v := sc[i + 1]'(by omega)) (x := sc[i + 2]'(by omega)) (y := sc[i + 3]'(by omega)) hB h4
      refine ⟨_, p1, g1, _, p2, g2, _, p3, g3, ⟨_, cg_0⟩, hQ _ _ ?_⟩
      rw [clrl]
      exact ⟨n, rfl, _, p1, g1, _, p2, g2, _, p3, g3, ⟨_, rl_r⟩, hM _ _ ⟨n, rfl, fun _ => nxt s' a' hI, fun hne => absurd rfl hne⟩⟩
    · obtain ⟨s', a', n, hI, hQ, hM⟩ := duo_propose (v := sc[i + 1]'(by omega)) (x := sc[i + 2]'(by omega)) (y := sc[i + 3]'(by omega)) (z := sc[i + 4]'(by omega)) hB h4
      refine ⟨_, p1, g1, _, p2, g2, _, p3, g3, _, p4, g4, ⟨_, cg_0⟩, hQ _ _ ?_⟩
      rw [clrl]
      exact ⟨n, rfl, _, p1, g1, _, p2, g2, _, p3, g3, _, p4, g4, ⟨_, rl_r⟩, hM _ _ ⟨n, rfl, fun _ => nxt s' a' hI, fun hne => absurd rfl hne⟩⟩
    · obtain ⟨s', a', n, hI, hQ, hM⟩ := duo_retire (v := sc[i + 1]'(by omega)) hB h4
      refine ⟨_, p1, g1, ⟨_, cg_0⟩, hQ _ _ ?_⟩
      rw [clrl]
      exact ⟨n, rfl, _, p1, g1, ⟨_, rl_r⟩, hM _ _ ⟨n, rfl, fun _ => nxt s' a' hI, fun hne => absurd rfl hne⟩⟩
    · obtain ⟨s', a', n, hI, hQ, hM⟩ := duo_again (v := sc[i + 1]'(by omega)) hB h4
      refine ⟨_, p1, g1, ⟨_, cg_0⟩, hQ _ _ ?_⟩
      rw [clrl]
      exact ⟨n, rfl, _, p1, g1, ⟨_, rl_r⟩, hM _ _ ⟨n, rfl, fun _ => nxt s' a' hI, fun hne => absurd rfl hne⟩⟩
    · obtain ⟨s', a', n, hI, hQ, hM⟩ := duo_gossip (v := sc[i + 1]'(by omega)) (x := sc[i + 2]'(by omega)) h4
      refine ⟨_, p1, g1, _, p2, g2, ⟨_, cg_0⟩, hQ _ _ ?_⟩
      rw [clrl]
      exact ⟨n, rfl, _, p1, g1, _, p2, g2, ⟨_, rl_r⟩, hM _ _ ⟨n, rfl, fun _ => nxt s' a' hI, fun hne => absurd rfl hne⟩⟩
    · obtain ⟨s', a', n, hI, hQ, hM⟩ := duo_join (v := sc[i + 1]'(by omega)) (x := sc[i + 2]'(by omega)) h4
      refine ⟨_, p1, g1, _, p2, g2, ⟨_, cg_0⟩, hQ _ _ ?_⟩
      rw [clrl]
      exact ⟨n, rfl, _, p1, g1, _, p2, g2, ⟨_, rl_r⟩, hM _ _ ⟨n, rfl, fun _ => nxt s' a' hI, fun hne => absurd rfl hne⟩⟩
    · obtain ⟨s', a', n, hI, hQ, hM⟩ := duo_deliver (v := sc[i + 1]'(by omega)) hB h4
      refine ⟨_, p1, g1, ⟨_, cg_0⟩, hQ _ _ ?_⟩
      rw [clrl]
      exact ⟨n, rfl, _, p1, g1, ⟨_, rl_r⟩, hM _ _ ⟨n, rfl, fun _ => nxt s' a' hI, fun hne => absurd rfl hne⟩⟩
    · obtain ⟨s', a', n, hI, hQ, hM⟩ := duo_lose (v := sc[i + 1]'(by omega)) h4
      refine ⟨_, p1, g1, ⟨_, cg_0⟩, hQ _ _ ?_⟩
      rw [clrl]
      exact ⟨n, rfl, _, p1, g1, ⟨_, rl_r⟩, hM _ _ ⟨n, rfl, fun _ => nxt s' a' hI, fun hne => absurd rfl hne⟩⟩
    · obtain ⟨s', a', n, hI, hQ, hM⟩ := duo_twice (v := sc[i + 1]'(by omega)) h4
      refine ⟨_, p1, g1, ⟨_, cg_0⟩, hQ _ _ ?_⟩
      rw [clrl]
      exact ⟨n, rfl, _, p1, g1, ⟨_, rl_r⟩, hM _ _ ⟨n, rfl, fun _ => nxt s' a' hI, fun hne => absurd rfl hne⟩⟩
    · obtain ⟨s', a', n, hI, hQ, hM⟩ := duo_crash (v := sc[i + 1]'(by omega)) h4
      refine ⟨_, p1, g1, ⟨_, cg_0⟩, hQ _ _ ?_⟩
      rw [clrl]
      exact ⟨n, rfl, _, p1, g1, ⟨_, rl_r⟩, hM _ _ ⟨n, rfl, fun _ => nxt s' a' hI, fun hne => absurd rfl hne⟩⟩
    · obtain ⟨s', a', n, hI, hQ, hM⟩ := duo_restart (v := sc[i + 1]'(by omega)) hB h4
      refine ⟨_, p1, g1, ⟨_, cg_0⟩, hQ _ _ ?_⟩
      rw [clrl]
      exact ⟨n, rfl, _, p1, g1, ⟨_, rl_r⟩, hM _ _ ⟨n, rfl, fun _ => nxt s' a' hI, fun hne => absurd rfl hne⟩⟩
    · obtain ⟨s', a', n, hI, hQ, hM⟩ := duo_arm (v := sc[i + 1]'(by omega)) (x := sc[i + 2]'(by omega)) hB h4
      refine ⟨_, p1, g1, _, p2, g2, ⟨_, cg_0⟩, hQ _ _ ?_⟩
      rw [clrl]
      exact ⟨n, rfl, _, p1, g1, _, p2, g2, ⟨_, rl_r⟩, hM _ _ ⟨n, rfl, fun _ => nxt s' a' hI, fun hne => absurd rfl hne⟩⟩
    · obtain ⟨s', a', n, hI, hQ, hM⟩ := duo_node (v := sc[i + 1]'(by omega)) (x := sc[i + 2]'(by omega)) h4
      refine ⟨_, p1, g1, _, p2, g2, ⟨_, cg_0⟩, hQ _ _ ?_⟩
      rw [clrl]
      exact ⟨n, rfl, _, p1, g1, _, p2, g2, ⟨_, rl_r⟩, hM _ _ ⟨n, rfl, fun _ => nxt s' a' hI, fun hne => absurd rfl hne⟩⟩
    · obtain ⟨s', a', n, hI, hQ, hM⟩ := duo_cell (v := sc[i + 1]'(by omega)) (x := sc[i + 2]'(by omega)) (y := sc[i + 3]'(by omega)) h4
      refine ⟨_, p1, g1, _, p2, g2, _, p3, g3, ⟨_, cg_0⟩, hQ _ _ ?_⟩
      rw [clrl]
      exact ⟨n, rfl, _, p1, g1, _, p2, g2, _, p3, g3, ⟨_, rl_r⟩, hM _ _ ⟨n, rfl, fun _ => nxt s' a' hI, fun hne => absurd rfl hne⟩⟩
    · obtain ⟨s', a', n, hI, hQ, hM⟩ := duo_map (v := sc[i + 1]'(by omega)) (x := sc[i + 2]'(by omega)) (y := sc[i + 3]'(by omega)) h4
      refine ⟨_, p1, g1, _, p2, g2, _, p3, g3, ⟨_, cg_0⟩, hQ _ _ ?_⟩
      rw [clrl]
      exact ⟨n, rfl, _, p1, g1, _, p2, g2, _, p3, g3, ⟨_, rl_r⟩, hM _ _ ⟨n, rfl, fun _ => nxt s' a' hI, fun hne => absurd rfl hne⟩⟩
    · obtain ⟨s', a', n, hI, hQ, hM⟩ := duo_task (v := sc[i + 1]'(by omega)) (x := sc[i + 2]'(by omega)) h4
      refine ⟨_, p1, g1, _, p2, g2, ⟨_, cg_0⟩, hQ _ _ ?_⟩
      rw [clrl]
      exact ⟨n, rfl, _, p1, g1, _, p2, g2, ⟨_, rl_r⟩, hM _ _ ⟨n, rfl, fun _ => nxt s' a' hI, fun hne => absurd rfl hne⟩⟩
    · obtain ⟨s', a', n, hI, hQ, hM⟩ := duo_message (v := sc[i + 1]'(by omega)) (x := sc[i + 2]'(by omega)) h4
      refine ⟨_, p1, g1, _, p2, g2, ⟨_, cg_0⟩, hQ _ _ ?_⟩
      rw [clrl]
      exact ⟨n, rfl, _, p1, g1, _, p2, g2, ⟨_, rl_r⟩, hM _ _ ⟨n, rfl, fun _ => nxt s' a' hI, fun hne => absurd rfl hne⟩⟩
    · obtain ⟨s', a', n, hI, hQ, hM⟩ := duo_count (v := sc[i + 1]'(by omega)) h4
      refine ⟨_, p1, g1, ⟨_, cg_0⟩, hQ _ _ ?_⟩
      rw [clrl]
      exact ⟨n, rfl, _, p1, g1, ⟨_, rl_r⟩, hM _ _ ⟨n, rfl, fun _ => nxt s' a' hI, fun hne => absurd rfl hne⟩⟩
    · rw [clrl]
      exact nxt s a ⟨h4.1, JV_mono (by omega) h4.2.1, h4.2.2⟩
