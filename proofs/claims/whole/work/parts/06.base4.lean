/-! calls -/
theorem xPre_blind {sc : List Int32} {D : va_G} {tys : xTs} {b base : Nat} {av : List Value} {h : xH} : FrameBlind (xPre sc D tys b base av h) := by
  intro a U g mk q
  obtain ⟨q0, q1, q2, q3, q4, q5, q6⟩ := q
  exact ⟨q0, q1, va_K.moved (u := U) (U := U.calling g mk a) (Vm.Alike.refl U.vm) q2, q3, va_X.moved (u := U) (U := U.calling g mk a) (Vm.Alike.refl U.vm) q4, q5, xUo.same (s := U) (U := U.calling g mk a) rfl q6⟩
theorem xPre_at {sc : List Int32} {μ : xM} {D : va_G} {tys : xTs} {b base : Nat} {p : Program} {s : State} {m : MethodId} {args : Array Value} {meth : Method} {c : Code} {h : xH} {H : Heap} {locs : List Loc} (C : xCx sc μ D tys b base p s m args meth c) (hR : xR tys D b base h H) (hS : va_S (fun q => base < q) s.heap H locs) (av : List Value) : ∀ U : State, U.heap = H → s.WarmedH U.vm → xPre sc D tys b base av h (av.map (xv b base)).toArray U := by
  intro U hU hW
  obtain ⟨-, -, -, -, -, hK, hty, -, -, -, hbs, hX, hbb, hUo⟩ := C
  refine ⟨rfl, by rw [hU]; exact hR, va_K.moved hW.alike hK, hty, ?_, hbb, hUo.warm hW⟩
  rw [hU]
  exact va_X.moved hW.alike (hX.kept (hS.2.1 b (by omega) (by show ¬ base < b; omega)))
theorem xT_code {μ : xM} (h : xCw μ) : GoodIn xT (Cond.code μ.2.1 μ.2.2.1 μ.2.2.2.1 μ.2.2.2.2 :: xT) := by
  intro w hw
  rcases List.mem_cons.mp hw with rfl | hw
  · exact xT_good _ h.1
  · exact xT_good _ hw
theorem xrun {D : va_G} {tys : xTs} {b base : Nat} {p : Program} {l : Launch} {e : Env} {R : Room} {s : State} {m : MethodId} {args : Array Value} {below : List Frame} {meth : Method} {c : Code} {H : Heap} {locs : List Loc} {cells slots mc ms pc : Nat} {ls : Array Slot} {st0 rest : List Value} {QQ : State → Prop} {Qn : Option Value → xH → Prop} {a : Array Value}
    (hr : va_Run p l e R s m args below meth c H locs cells slots mc ms (F0 m pc ls st0) (rest.map (xv b base)) (xPost D tys b base Qn a) (fun q => base < q)) (hS : va_S (fun q => base < q) s.heap H locs)
    (k : ∀ (v : Option Value) (h' : xH) (H' : Heap) (locs' : List Loc), Qn v h' → xR tys D b base h' H' → va_S (fun q => base < q) s.heap H' locs' → W p l e R s m args below meth c H' locs' (cells + mc) (slots + ms) QQ (F0 m (pc + 3) ls ((v.toList ++ rest).map (xv b base)))) : W p l e R s m args below meth c H locs cells slots QQ (F0 m pc ls st0) := by
  intro T hT X
  obtain ⟨v, st₀, t, T', L, h0, X', hL, e1, e2, ⟨⟨w, h', hq, hv, hR'⟩, hz, hk⟩, st⟩ := hr T hT X
  have hv' : v = w.map (xv b base) := by cases hv; rfl
  subst hv'
  rw [h0] at hz hk
  have hfr : (w.map (xv b base)).toList ++ rest.map (xv b base) = (w.toList ++ rest).map (xv b base) := by cases w <;> rfl
  obtain ⟨t2, a1, b1⟩ := k w h' T'.heap (locs ++ L) hq (by rw [e1]; exact hR') ⟨Nat.le_trans hS.1 (by rw [e1]; exact hz), fun q h1 h2 => by rw [e1, hk q (Nat.lt_of_lt_of_le h1 hS.1) h2]; exact hS.2.1 q h1 h2, fun q hq => by
      rcases List.mem_append.mp hq with h | h
      · exact hS.2.2 q h
      · exact hL q h⟩ T' rfl X'
  rw [← hfr] at a1
  exact ⟨t2, st t2 a1, b1⟩
theorem xsig {y : MethodName} {n : Nat} (h : (parseMethodDescriptor y.desc).map (fun d => d.parameters.length) = some n) : ∀ sig, parseMethodDescriptor y.desc = some sig → n = sig.parameters.length := by
  intro sig hs
  rw [hs] at h
  exact (Option.some.inj h).symm
section XC
variable {sc : List Int32} {μ ν : xM} {d kc ks pc d' kc' ks' : Nat} {lv : List (Option Value)} {st stk As : List Value} {h : xH} {Q Qn : Option Value → xH → Prop} {index a ci n : Nat} {fs : List Value}
theorem xw_V (hL : xLk μ.1 index ν n) (hI : xIn ν ci) (hd : decode μ.2.2.1 pc = .ok (.invokevirtual index, 3)) (hM : xMet sc ν d' kc' ks' (.ref a :: As) h Qn) (hdd : d' + 1 ≤ d) (ha : h.2 a = some (.inr (ci, fs))) (hn : As.length = n) (hk : stk = As.reverse ++ .ref a :: st) (hst : (st.map fun v => v.category).sum ≤ 8) (k : ∀ v h', Qn v h' → xW sc μ d kc ks (pc + 3) lv (v.toList ++ st) h' Q) : xW sc μ d (kc' + kc) (ks' + ks) pc lv stk h Q := by
  intro D tys b base p l e R s m args below meth c C H locs cells slots ls QQ hl hR hS hc hs hf hlo K
  obtain ⟨hw, hlk, hsg⟩ := hL
  obtain ⟨hin, hse, q, hq, hqn⟩ := hI
  have hts := C.2.2.2.2.1
  have hlo' : 40 * d ≤ R.locals := hlo
  have hml := hw.2.2.2.2.2
  obtain ⟨a0, hat⟩ := hR.2 a _ ha
  have hrec := va_recv (D := D) C.2.2.2.2.2.1 (xP1 hat) hq (q0 := 0) rfl
  rw [← xad_pos (b := b) a0, hqn] at hrec
  refine xrun (rest := st) (va_runV (As := As.map (xv b base)) (b := xad b base a) ⟨C.1, C.2.1, C.2.2.1, C.2.2.2.1, hts⟩ (hM l D tys b base) ⟨⟨rfl, rfl, by show d' + 1 ≤ R.frames; omega, by show 8 + (ν.2.2.2.1 + 11) + 40 * d' ≤ R.locals; omega, pay_in hts (xT_code hw), List.mem_cons_self, hts _ hw.1, hts _ hw.2.1, hw.2.2.1, xsig hsg, hts _ hlk⟩, hts _ hin, hts _ hse⟩ ⟨xPre_blind, hrec, xPre_at C hR hS (.ref a :: As)⟩ rfl (by rw [List.length_map]; exact hn) (hl.1.1.1.trans (hl.2)) (by show stk.map (xv b base) = _; rw [hk, List.map_append, List.map_reverse]; rfl) (lv_room (by rw [xv_sum]; exact hst)) hd ⟨by omega, by omega⟩) hS ?_
  intro v h' H' locs' hq' hR' hS'
  exact k v h' hq' D tys b base p l e R s m args below meth c C H' locs' (cells + kc') (slots + ks') ls QQ hl hR' hS' (by omega) (by omega) hf hlo K
theorem xw_VN {host : String} (hL : xLn μ.1 index host ν n) (hI : xIn ν ci) (hd : decode μ.2.2.1 pc = .ok (.invokevirtual index, 3)) (hM : xMet sc ν d' kc' ks' (.ref a :: As) h Qn) (hdd : d' + 1 ≤ d) (ha : h.2 a = some (.inr (ci, fs))) (hn : As.length = n) (hk : stk = As.reverse ++ .ref a :: st) (hst : (st.map fun v => v.category).sum ≤ 8) (k : ∀ v h', Qn v h' → xW sc μ d kc ks (pc + 3) lv (v.toList ++ st) h' Q) : xW sc μ d (kc' + kc) (ks' + ks) pc lv stk h Q := by
  intro D tys b base p l e R s m args below meth c C H locs cells slots ls QQ hl hR hS hc hs hf hlo K
  obtain ⟨hw, hlk, hsg⟩ := hL
  obtain ⟨hin, hse, q, hq, hqn⟩ := hI
  have hts := C.2.2.2.2.1
  have hlo' : 40 * d ≤ R.locals := hlo
  have hml := hw.2.2.2.2.2
  obtain ⟨a0, hat⟩ := hR.2 a _ ha
  have hrec := va_recv (D := D) C.2.2.2.2.2.1 (xP1 hat) hq (q0 := 0) rfl
  rw [← xad_pos (b := b) a0, hqn] at hrec
  refine xrun (rest := st) (va_runVN (As := As.map (xv b base)) (b := xad b base a) ⟨C.1, C.2.1, C.2.2.1, C.2.2.2.1, hts⟩ (hM l D tys b base) ⟨⟨⟨rfl, rfl, by show d' + 1 ≤ R.frames; omega, by show 8 + (ν.2.2.2.1 + 11) + 40 * d' ≤ R.locals; omega, pay_in hts (xT_code hw), List.mem_cons_self⟩, hts _ hw.1, hts _ hw.2.1, hw.2.2.1, xsig hsg, va_Nw.use rfl (C.2.2.2.2.2.2.2.2.2.2.2.2.2 _ hlk)⟩, hts _ hin, hts _ hse⟩ ⟨xPre_blind, hrec, xPre_at C hR hS (.ref a :: As)⟩ rfl (by rw [List.length_map]; exact hn) (hl.1.1.1.trans (hl.2)) (by show stk.map (xv b base) = _; rw [hk, List.map_append, List.map_reverse]; rfl) (lv_room (by rw [xv_sum]; exact hst)) hd ⟨by omega, by omega⟩) hS ?_
  intro v h' H' locs' hq' hR' hS'
  exact k v h' hq' D tys b base p l e R s m args below meth c C H' locs' (cells + kc') (slots + ks') ls QQ hl hR' hS' (by omega) (by omega) hf hlo K
theorem xw_S (hL : xLk μ.1 index ν n) (hI : Cond.static ν.2.1 ∈ xT) (hd : decode μ.2.2.1 pc = .ok (.invokestatic index, 3)) (hM : xMet sc ν d' kc' ks' As h Qn) (hdd : d' + 1 ≤ d) (hn : As.length = n) (hk : stk = As.reverse ++ st) (hst : (st.map fun v => v.category).sum ≤ 8) (k : ∀ v h', Qn v h' → xW sc μ d kc ks (pc + 3) lv (v.toList ++ st) h' Q) : xW sc μ d (kc' + kc) (ks' + ks) pc lv stk h Q := by
  intro D tys b base p l e R s m args below meth c C H locs cells slots ls QQ hl hR hS hc hs hf hlo K
  obtain ⟨hw, hlk, hsg⟩ := hL
  have hts := C.2.2.2.2.1
  have hlo' : 40 * d ≤ R.locals := hlo
  have hml := hw.2.2.2.2.2
  refine xrun (rest := st) (va_runS (As := As.map (xv b base)) ⟨C.1, C.2.1, C.2.2.1, C.2.2.2.1, hts⟩ (hM l D tys b base) ⟨⟨rfl, rfl, by show d' + 1 ≤ R.frames; omega, by show 8 + (ν.2.2.2.1 + 11) + 40 * d' ≤ R.locals; omega, pay_in hts (xT_code hw), List.mem_cons_self, hts _ hw.1, hts _ hw.2.1, hw.2.2.1, xsig hsg, hts _ hlk⟩, hts _ hI⟩ ⟨xPre_blind, xPre_at C hR hS As⟩ rfl (by rw [List.length_map]; exact hn) (hl.1.1.1.trans (hl.2)) (by show stk.map (xv b base) = _; rw [hk, List.map_append, List.map_reverse]) (lv_room (by rw [xv_sum]; exact hst)) hd ⟨by omega, by omega⟩) hS ?_
  intro v h' H' locs' hq' hR' hS'
  exact k v h' hq' D tys b base p l e R s m args below meth c C H' locs' (cells + kc') (slots + ks') ls QQ hl hR' hS' (by omega) (by omega) hf hlo K
theorem xw_SN {host : String} (hL : xLn μ.1 index host ν n) (hI : Cond.static ν.2.1 ∈ xT) (hd : decode μ.2.2.1 pc = .ok (.invokestatic index, 3)) (hM : xMet sc ν d' kc' ks' As h Qn) (hdd : d' + 1 ≤ d) (hn : As.length = n) (hk : stk = As.reverse ++ st) (hst : (st.map fun v => v.category).sum ≤ 8) (k : ∀ v h', Qn v h' → xW sc μ d kc ks (pc + 3) lv (v.toList ++ st) h' Q) : xW sc μ d (kc' + kc) (ks' + ks) pc lv stk h Q := by
  intro D tys b base p l e R s m args below meth c C H locs cells slots ls QQ hl hR hS hc hs hf hlo K
  obtain ⟨hw, hlk, hsg⟩ := hL
  have hts := C.2.2.2.2.1
  have hlo' : 40 * d ≤ R.locals := hlo
  have hml := hw.2.2.2.2.2
  refine xrun (rest := st) (va_runSN (As := As.map (xv b base)) ⟨C.1, C.2.1, C.2.2.1, C.2.2.2.1, hts⟩ (hM l D tys b base) ⟨⟨⟨rfl, rfl, by show d' + 1 ≤ R.frames; omega, by show 8 + (ν.2.2.2.1 + 11) + 40 * d' ≤ R.locals; omega, pay_in hts (xT_code hw), List.mem_cons_self⟩, hts _ hw.1, hts _ hw.2.1, hw.2.2.1, xsig hsg, va_Nw.use rfl (C.2.2.2.2.2.2.2.2.2.2.2.2.2 _ hlk)⟩, hts _ hI, trivial⟩ ⟨xPre_blind, xPre_at C hR hS As⟩ rfl (by rw [List.length_map]; exact hn) (hl.1.1.1.trans (hl.2)) (by show stk.map (xv b base) = _; rw [hk, List.map_append, List.map_reverse]) (lv_room (by rw [xv_sum]; exact hst)) hd ⟨by omega, by omega⟩) hS ?_
  intro v h' H' locs' hq' hR' hS'
  exact k v h' hq' D tys b base p l e R s m args below meth c C H' locs' (cells + kc') (slots + ks') ls QQ hl hR' hS' (by omega) (by omega) hf hlo K
theorem xw_I (hL : xLk μ.1 index ν n) (hr : ν.2.2.2.2 = none) (hy1 : ν.2.1.name = "<init>") (hI : Cond.instanceMethod ν.2.1 ∈ xT) (hd : decode μ.2.2.1 pc = .ok (.invokespecial index, 3)) (hM : xMet sc ν d' kc' ks' (.ref a :: As) h Qn) (hdd : d' + 1 ≤ d) (hn : As.length = n) (hk : stk = As.reverse ++ .ref a :: st) (hst : (st.map fun v => v.category).sum ≤ 8) (k : ∀ v h', Qn v h' → xW sc μ d kc ks (pc + 3) lv (v.toList ++ st) h' Q) : xW sc μ d (kc' + kc) (ks' + ks) pc lv stk h Q := by
  intro D tys b base p l e R s m args below meth c C H locs cells slots ls QQ hl hR hS hc hs hf hlo K
  obtain ⟨hw, hlk, hsg⟩ := hL
  have hts := C.2.2.2.2.1
  have hlo' : 40 * d ≤ R.locals := hlo
  have hml := hw.2.2.2.2.2
  have hM' := hM l D tys b base
  have hcw := xT_code hw
  have hcd := hts _ hw.1
  rw [hr] at hM' hcw hcd
  refine xrun (rest := st) (va_runI (As := As.map (xv b base)) (b := xad b base a) ⟨C.1, C.2.1, C.2.2.1, C.2.2.2.1, hts⟩ hM' ⟨⟨rfl, rfl, by show d' + 1 ≤ R.frames; omega, by show 8 + (ν.2.2.2.1 + 11) + 40 * d' ≤ R.locals; omega, pay_in hts hcw, List.mem_cons_self, hcd, hts _ hw.2.1, hw.2.2.1, xsig hsg, hts _ hlk⟩, hy1, hts _ hI⟩ ⟨xPre_blind, xPre_at C hR hS (.ref a :: As)⟩ rfl (by rw [List.length_map]; exact hn) (hl.1.1.1.trans (hl.2)) (by show stk.map (xv b base) = _; rw [hk, List.map_append, List.map_reverse]; rfl) (lv_room (by rw [xv_sum]; exact hst)) hd ⟨by omega, by omega⟩) hS ?_
  intro v h' H' locs' hq' hR' hS'
  exact k v h' hq' D tys b base p l e R s m args below meth c C H' locs' (cells + kc') (slots + ks') ls QQ hl hR' hS' (by omega) (by omega) hf hlo K
theorem xw_IN {host : String} (hL : xLn μ.1 index host ν n) (hr : ν.2.2.2.2 = none) (hy1 : ν.2.1.name = "<init>") (hI : Cond.instanceMethod ν.2.1 ∈ xT) (hd : decode μ.2.2.1 pc = .ok (.invokespecial index, 3)) (hM : xMet sc ν d' kc' ks' (.ref a :: As) h Qn) (hdd : d' + 1 ≤ d) (hn : As.length = n) (hk : stk = As.reverse ++ .ref a :: st) (hst : (st.map fun v => v.category).sum ≤ 8) (k : ∀ v h', Qn v h' → xW sc μ d kc ks (pc + 3) lv (v.toList ++ st) h' Q) : xW sc μ d (kc' + kc) (ks' + ks) pc lv stk h Q := by
  intro D tys b base p l e R s m args below meth c C H locs cells slots ls QQ hl hR hS hc hs hf hlo K
  obtain ⟨hw, hlk, hsg⟩ := hL
  have hts := C.2.2.2.2.1
  have hlo' : 40 * d ≤ R.locals := hlo
  have hml := hw.2.2.2.2.2
  have hM' := hM l D tys b base
  have hcw := xT_code hw
  have hcd := hts _ hw.1
  rw [hr] at hM' hcw hcd
  refine xrun (rest := st) (va_runIN (As := As.map (xv b base)) (b := xad b base a) ⟨C.1, C.2.1, C.2.2.1, C.2.2.2.1, hts⟩ hM' ⟨⟨⟨rfl, rfl, by show d' + 1 ≤ R.frames; omega, by show 8 + (ν.2.2.2.1 + 11) + 40 * d' ≤ R.locals; omega, pay_in hts hcw, List.mem_cons_self⟩, hcd, hts _ hw.2.1, hw.2.2.1, xsig hsg, va_Nw.use rfl (C.2.2.2.2.2.2.2.2.2.2.2.2.2 _ hlk)⟩, hy1, hts _ hI⟩ ⟨xPre_blind, xPre_at C hR hS (.ref a :: As)⟩ rfl (by rw [List.length_map]; exact hn) (hl.1.1.1.trans (hl.2)) (by show stk.map (xv b base) = _; rw [hk, List.map_append, List.map_reverse]; rfl) (lv_room (by rw [xv_sum]; exact hst)) hd ⟨by omega, by omega⟩) hS ?_
  intro v h' H' locs' hq' hR' hS'
  exact k v h' hq' D tys b base p l e R s m args below meth c C H' locs' (cells + kc') (slots + ks') ls QQ hl hR' hS' (by omega) (by omega) hf hlo K
theorem xw_obj (hO : xOi μ.1 index) (hd : decode μ.2.2.1 pc = .ok (.invokespecial index, 3)) (hdd : 1 ≤ d) (hst : (st.map fun v => v.category).sum ≤ 8) (k : xW sc μ d kc ks (pc + 3) lv st h Q) : xW sc μ d kc ks pc lv (.ref a :: st) h Q := by
  intro D tys b base p l e R s m args below meth c C H locs cells slots ls QQ hl hR hS hc hs hf hlo K
  obtain ⟨h1, h2, h3⟩ := hO
  have hts := C.2.2.2.2.1
  have hlo' : 40 * d ≤ R.locals := hlo
  exact W.objInit C.1 C.2.1 C.2.2.2.1 (hts _ h1) (hts _ h2) (hts _ h3) rfl ((hl.1.1.1.trans hl.2).trans C.2.2.1.symm) (a := xad b base a) (rest := st.map (xv b base)) rfl hd (by omega) (by have := lv_room (m := m) (pc := pc) (ls := ls) (rest := []) (st := st.map (xv b base)) (by rw [xv_sum]; exact hst); show 2 * (F0 m pc ls []).monitorRoom + _ + 12 ≤ _; omega) (k D tys b base p l e R s m args below meth c C H locs cells slots ls QQ hl hR hS hc hs hf hlo K)
theorem xw_max {x y : Int32} (hO : xMx μ.1 index) (hd : decode μ.2.2.1 pc = .ok (.invokestatic index, 3)) (hdd : 1 ≤ d) (hst : (st.map fun v => v.category).sum ≤ 8) (k : xW sc μ d kc ks (pc + 3) lv (.int (if x < y then y else x) :: st) h Q) : xW sc μ d kc ks pc lv (.int y :: .int x :: st) h Q := by
  intro D tys b base p l e R s m args below meth c C H locs cells slots ls QQ hl hR hS hc hs hf hlo K
  obtain ⟨h1, h2, h3, h4⟩ := hO
  have hts := C.2.2.2.2.1
  have hlo' : 40 * d ≤ R.locals := hlo
  exact va_mmax C.1 C.2.1 (C.2.2.1.trans (hl.1.1.1.trans hl.2).symm) C.2.2.2.1 (hts _ h1) (hts _ h2) (hts _ h3) (hts _ h4) (by omega) (by rw [xv_sum]; omega) (by omega) (by omega) hd (k D tys b base p l e R s m args below meth c C H locs cells slots ls QQ hl hR hS hc hs hf hlo K)
theorem xw_min {x y : Int32} (hO : xMn μ.1 index) (hd : decode μ.2.2.1 pc = .ok (.invokestatic index, 3)) (hdd : 1 ≤ d) (hst : (st.map fun v => v.category).sum ≤ 8) (k : xW sc μ d kc ks (pc + 3) lv (.int (if y < x then y else x) :: st) h Q) : xW sc μ d kc ks pc lv (.int y :: .int x :: st) h Q := by
  intro D tys b base p l e R s m args below meth c C H locs cells slots ls QQ hl hR hS hc hs hf hlo K
  obtain ⟨h1, h2, h3, h4⟩ := hO
  have hts := C.2.2.2.2.1
  have hlo' : 40 * d ≤ R.locals := hlo
  exact va_mmin C.1 C.2.1 (C.2.2.1.trans (hl.1.1.1.trans hl.2).symm) C.2.2.2.1 (hts _ h1) (hts _ h2) (hts _ h3) (hts _ h4) (by omega) (by rw [xv_sum]; omega) (by omega) (by omega) hd (k D tys b base p l e R s m args below meth c C H locs cells slots ls QQ hl hR hS hc hs hf hlo K)
theorem xw_ldc {v : Int32} (hO : Cond.constant μ.1 index v ∈ xT) (hd : decode μ.2.2.1 pc = .ok (.ldc index, 2)) (k : xW sc μ d kc ks (pc + 2) lv (.int v :: st) h Q) : xW sc μ d kc ks pc lv st h Q := by
  intro D tys b base p l e R s m args below meth c C H locs cells slots ls QQ hl hR hS hc hs hf hlo K
  exact lv_ldc C.1 C.2.1 C.2.2.2.1 (C.2.2.2.2.1 _ hO) hd (k D tys b base p l e R s m args below meth c C H locs cells slots ls QQ hl hR hS hc hs hf hlo K)
end XC
/-! calls that make nothing, by the number of their arguments -/
section XC0
variable {sc : List Int32} {μ ν : xM} {d kc ks pc d' : Nat} {lv : List (Option Value)} {st : List Value} {h : xH} {Q Qn : Option Value → xH → Prop} {index a ci : Nat} {fs : List Value} {x1 x2 x3 x4 x5 : Value}
theorem xW.z (k : xW sc μ d (0 + kc) (0 + ks) pc lv st h Q) : xW sc μ d kc ks pc lv st h Q := by rw [Nat.zero_add, Nat.zero_add] at k; exact k
theorem xw_V0 (hL : xLk μ.1 index ν 0) (hI : xIn ν ci) (hd : decode μ.2.2.1 pc = .ok (.invokevirtual index, 3)) (hM : xMet sc ν d' 0 0 [.ref a] h Qn) (hdd : d' + 1 ≤ d) (ha : h.2 a = some (.inr (ci, fs))) (hst : (st.map fun v => v.category).sum ≤ 8) (k : ∀ v h', Qn v h' → xW sc μ d kc ks (pc + 3) lv (v.toList ++ st) h' Q) : xW sc μ d kc ks pc lv (.ref a :: st) h Q :=
  xW.z (xw_V (As := []) hL hI hd hM hdd ha rfl rfl hst k)
theorem xw_VN0 {host : String} (hL : xLn μ.1 index host ν 0) (hI : xIn ν ci) (hd : decode μ.2.2.1 pc = .ok (.invokevirtual index, 3)) (hM : xMet sc ν d' 0 0 [.ref a] h Qn) (hdd : d' + 1 ≤ d) (ha : h.2 a = some (.inr (ci, fs))) (hst : (st.map fun v => v.category).sum ≤ 8) (k : ∀ v h', Qn v h' → xW sc μ d kc ks (pc + 3) lv (v.toList ++ st) h' Q) : xW sc μ d kc ks pc lv (.ref a :: st) h Q :=
  xW.z (xw_VN (As := []) hL hI hd hM hdd ha rfl rfl hst k)
theorem xw_S0 (hL : xLk μ.1 index ν 0) (hI : Cond.static ν.2.1 ∈ xT) (hd : decode μ.2.2.1 pc = .ok (.invokestatic index, 3)) (hM : xMet sc ν d' 0 0 [] h Qn) (hdd : d' + 1 ≤ d) (hst : (st.map fun v => v.category).sum ≤ 8) (k : ∀ v h', Qn v h' → xW sc μ d kc ks (pc + 3) lv (v.toList ++ st) h' Q) : xW sc μ d kc ks pc lv (st) h Q :=
  xW.z (xw_S (As := []) hL hI hd hM hdd rfl rfl hst k)
theorem xw_SN0 {host : String} (hL : xLn μ.1 index host ν 0) (hI : Cond.static ν.2.1 ∈ xT) (hd : decode μ.2.2.1 pc = .ok (.invokestatic index, 3)) (hM : xMet sc ν d' 0 0 [] h Qn) (hdd : d' + 1 ≤ d) (hst : (st.map fun v => v.category).sum ≤ 8) (k : ∀ v h', Qn v h' → xW sc μ d kc ks (pc + 3) lv (v.toList ++ st) h' Q) : xW sc μ d kc ks pc lv (st) h Q :=
  xW.z (xw_SN (As := []) hL hI hd hM hdd rfl rfl hst k)
theorem xw_V1 (hL : xLk μ.1 index ν 1) (hI : xIn ν ci) (hd : decode μ.2.2.1 pc = .ok (.invokevirtual index, 3)) (hM : xMet sc ν d' 0 0 [.ref a, x1] h Qn) (hdd : d' + 1 ≤ d) (ha : h.2 a = some (.inr (ci, fs))) (hst : (st.map fun v => v.category).sum ≤ 8) (k : ∀ v h', Qn v h' → xW sc μ d kc ks (pc + 3) lv (v.toList ++ st) h' Q) : xW sc μ d kc ks pc lv (x1 :: .ref a :: st) h Q :=
  xW.z (xw_V (As := [x1]) hL hI hd hM hdd ha rfl rfl hst k)
theorem xw_VN1 {host : String} (hL : xLn μ.1 index host ν 1) (hI : xIn ν ci) (hd : decode μ.2.2.1 pc = .ok (.invokevirtual index, 3)) (hM : xMet sc ν d' 0 0 [.ref a, x1] h Qn) (hdd : d' + 1 ≤ d) (ha : h.2 a = some (.inr (ci, fs))) (hst : (st.map fun v => v.category).sum ≤ 8) (k : ∀ v h', Qn v h' → xW sc μ d kc ks (pc + 3) lv (v.toList ++ st) h' Q) : xW sc μ d kc ks pc lv (x1 :: .ref a :: st) h Q :=
  xW.z (xw_VN (As := [x1]) hL hI hd hM hdd ha rfl rfl hst k)
theorem xw_S1 (hL : xLk μ.1 index ν 1) (hI : Cond.static ν.2.1 ∈ xT) (hd : decode μ.2.2.1 pc = .ok (.invokestatic index, 3)) (hM : xMet sc ν d' 0 0 [x1] h Qn) (hdd : d' + 1 ≤ d) (hst : (st.map fun v => v.category).sum ≤ 8) (k : ∀ v h', Qn v h' → xW sc μ d kc ks (pc + 3) lv (v.toList ++ st) h' Q) : xW sc μ d kc ks pc lv (x1 :: st) h Q :=
  xW.z (xw_S (As := [x1]) hL hI hd hM hdd rfl rfl hst k)
theorem xw_SN1 {host : String} (hL : xLn μ.1 index host ν 1) (hI : Cond.static ν.2.1 ∈ xT) (hd : decode μ.2.2.1 pc = .ok (.invokestatic index, 3)) (hM : xMet sc ν d' 0 0 [x1] h Qn) (hdd : d' + 1 ≤ d) (hst : (st.map fun v => v.category).sum ≤ 8) (k : ∀ v h', Qn v h' → xW sc μ d kc ks (pc + 3) lv (v.toList ++ st) h' Q) : xW sc μ d kc ks pc lv (x1 :: st) h Q :=
  xW.z (xw_SN (As := [x1]) hL hI hd hM hdd rfl rfl hst k)
theorem xw_V2 (hL : xLk μ.1 index ν 2) (hI : xIn ν ci) (hd : decode μ.2.2.1 pc = .ok (.invokevirtual index, 3)) (hM : xMet sc ν d' 0 0 [.ref a, x1, x2] h Qn) (hdd : d' + 1 ≤ d) (ha : h.2 a = some (.inr (ci, fs))) (hst : (st.map fun v => v.category).sum ≤ 8) (k : ∀ v h', Qn v h' → xW sc μ d kc ks (pc + 3) lv (v.toList ++ st) h' Q) : xW sc μ d kc ks pc lv (x2 :: x1 :: .ref a :: st) h Q :=
  xW.z (xw_V (As := [x1, x2]) hL hI hd hM hdd ha rfl rfl hst k)
theorem xw_VN2 {host : String} (hL : xLn μ.1 index host ν 2) (hI : xIn ν ci) (hd : decode μ.2.2.1 pc = .ok (.invokevirtual index, 3)) (hM : xMet sc ν d' 0 0 [.ref a, x1, x2] h Qn) (hdd : d' + 1 ≤ d) (ha : h.2 a = some (.inr (ci, fs))) (hst : (st.map fun v => v.category).sum ≤ 8) (k : ∀ v h', Qn v h' → xW sc μ d kc ks (pc + 3) lv (v.toList ++ st) h' Q) : xW sc μ d kc ks pc lv (x2 :: x1 :: .ref a :: st) h Q :=
  xW.z (xw_VN (As := [x1, x2]) hL hI hd hM hdd ha rfl rfl hst k)
theorem xw_S2 (hL : xLk μ.1 index ν 2) (hI : Cond.static ν.2.1 ∈ xT) (hd : decode μ.2.2.1 pc = .ok (.invokestatic index, 3)) (hM : xMet sc ν d' 0 0 [x1, x2] h Qn) (hdd : d' + 1 ≤ d) (hst : (st.map fun v => v.category).sum ≤ 8) (k : ∀ v h', Qn v h' → xW sc μ d kc ks (pc + 3) lv (v.toList ++ st) h' Q) : xW sc μ d kc ks pc lv (x2 :: x1 :: st) h Q :=
  xW.z (xw_S (As := [x1, x2]) hL hI hd hM hdd rfl rfl hst k)
theorem xw_SN2 {host : String} (hL : xLn μ.1 index host ν 2) (hI : Cond.static ν.2.1 ∈ xT) (hd : decode μ.2.2.1 pc = .ok (.invokestatic index, 3)) (hM : xMet sc ν d' 0 0 [x1, x2] h Qn) (hdd : d' + 1 ≤ d) (hst : (st.map fun v => v.category).sum ≤ 8) (k : ∀ v h', Qn v h' → xW sc μ d kc ks (pc + 3) lv (v.toList ++ st) h' Q) : xW sc μ d kc ks pc lv (x2 :: x1 :: st) h Q :=
  xW.z (xw_SN (As := [x1, x2]) hL hI hd hM hdd rfl rfl hst k)
theorem xw_V3 (hL : xLk μ.1 index ν 3) (hI : xIn ν ci) (hd : decode μ.2.2.1 pc = .ok (.invokevirtual index, 3)) (hM : xMet sc ν d' 0 0 [.ref a, x1, x2, x3] h Qn) (hdd : d' + 1 ≤ d) (ha : h.2 a = some (.inr (ci, fs))) (hst : (st.map fun v => v.category).sum ≤ 8) (k : ∀ v h', Qn v h' → xW sc μ d kc ks (pc + 3) lv (v.toList ++ st) h' Q) : xW sc μ d kc ks pc lv (x3 :: x2 :: x1 :: .ref a :: st) h Q :=
  xW.z (xw_V (As := [x1, x2, x3]) hL hI hd hM hdd ha rfl rfl hst k)
theorem xw_VN3 {host : String} (hL : xLn μ.1 index host ν 3) (hI : xIn ν ci) (hd : decode μ.2.2.1 pc = .ok (.invokevirtual index, 3)) (hM : xMet sc ν d' 0 0 [.ref a, x1, x2, x3] h Qn) (hdd : d' + 1 ≤ d) (ha : h.2 a = some (.inr (ci, fs))) (hst : (st.map fun v => v.category).sum ≤ 8) (k : ∀ v h', Qn v h' → xW sc μ d kc ks (pc + 3) lv (v.toList ++ st) h' Q) : xW sc μ d kc ks pc lv (x3 :: x2 :: x1 :: .ref a :: st) h Q :=
  xW.z (xw_VN (As := [x1, x2, x3]) hL hI hd hM hdd ha rfl rfl hst k)
theorem xw_S3 (hL : xLk μ.1 index ν 3) (hI : Cond.static ν.2.1 ∈ xT) (hd : decode μ.2.2.1 pc = .ok (.invokestatic index, 3)) (hM : xMet sc ν d' 0 0 [x1, x2, x3] h Qn) (hdd : d' + 1 ≤ d) (hst : (st.map fun v => v.category).sum ≤ 8) (k : ∀ v h', Qn v h' → xW sc μ d kc ks (pc + 3) lv (v.toList ++ st) h' Q) : xW sc μ d kc ks pc lv (x3 :: x2 :: x1 :: st) h Q :=
  xW.z (xw_S (As := [x1, x2, x3]) hL hI hd hM hdd rfl rfl hst k)
theorem xw_SN3 {host : String} (hL : xLn μ.1 index host ν 3) (hI : Cond.static ν.2.1 ∈ xT) (hd : decode μ.2.2.1 pc = .ok (.invokestatic index, 3)) (hM : xMet sc ν d' 0 0 [x1, x2, x3] h Qn) (hdd : d' + 1 ≤ d) (hst : (st.map fun v => v.category).sum ≤ 8) (k : ∀ v h', Qn v h' → xW sc μ d kc ks (pc + 3) lv (v.toList ++ st) h' Q) : xW sc μ d kc ks pc lv (x3 :: x2 :: x1 :: st) h Q :=
  xW.z (xw_SN (As := [x1, x2, x3]) hL hI hd hM hdd rfl rfl hst k)
theorem xw_V4 (hL : xLk μ.1 index ν 4) (hI : xIn ν ci) (hd : decode μ.2.2.1 pc = .ok (.invokevirtual index, 3)) (hM : xMet sc ν d' 0 0 [.ref a, x1, x2, x3, x4] h Qn) (hdd : d' + 1 ≤ d) (ha : h.2 a = some (.inr (ci, fs))) (hst : (st.map fun v => v.category).sum ≤ 8) (k : ∀ v h', Qn v h' → xW sc μ d kc ks (pc + 3) lv (v.toList ++ st) h' Q) : xW sc μ d kc ks pc lv (x4 :: x3 :: x2 :: x1 :: .ref a :: st) h Q :=
  xW.z (xw_V (As := [x1, x2, x3, x4]) hL hI hd hM hdd ha rfl rfl hst k)
theorem xw_VN4 {host : String} (hL : xLn μ.1 index host ν 4) (hI : xIn ν ci) (hd : decode μ.2.2.1 pc = .ok (.invokevirtual index, 3)) (hM : xMet sc ν d' 0 0 [.ref a, x1, x2, x3, x4] h Qn) (hdd : d' + 1 ≤ d) (ha : h.2 a = some (.inr (ci, fs))) (hst : (st.map fun v => v.category).sum ≤ 8) (k : ∀ v h', Qn v h' → xW sc μ d kc ks (pc + 3) lv (v.toList ++ st) h' Q) : xW sc μ d kc ks pc lv (x4 :: x3 :: x2 :: x1 :: .ref a :: st) h Q :=
  xW.z (xw_VN (As := [x1, x2, x3, x4]) hL hI hd hM hdd ha rfl rfl hst k)
theorem xw_S4 (hL : xLk μ.1 index ν 4) (hI : Cond.static ν.2.1 ∈ xT) (hd : decode μ.2.2.1 pc = .ok (.invokestatic index, 3)) (hM : xMet sc ν d' 0 0 [x1, x2, x3, x4] h Qn) (hdd : d' + 1 ≤ d) (hst : (st.map fun v => v.category).sum ≤ 8) (k : ∀ v h', Qn v h' → xW sc μ d kc ks (pc + 3) lv (v.toList ++ st) h' Q) : xW sc μ d kc ks pc lv (x4 :: x3 :: x2 :: x1 :: st) h Q :=
  xW.z (xw_S (As := [x1, x2, x3, x4]) hL hI hd hM hdd rfl rfl hst k)
theorem xw_SN4 {host : String} (hL : xLn μ.1 index host ν 4) (hI : Cond.static ν.2.1 ∈ xT) (hd : decode μ.2.2.1 pc = .ok (.invokestatic index, 3)) (hM : xMet sc ν d' 0 0 [x1, x2, x3, x4] h Qn) (hdd : d' + 1 ≤ d) (hst : (st.map fun v => v.category).sum ≤ 8) (k : ∀ v h', Qn v h' → xW sc μ d kc ks (pc + 3) lv (v.toList ++ st) h' Q) : xW sc μ d kc ks pc lv (x4 :: x3 :: x2 :: x1 :: st) h Q :=
  xW.z (xw_SN (As := [x1, x2, x3, x4]) hL hI hd hM hdd rfl rfl hst k)
theorem xw_V5 (hL : xLk μ.1 index ν 5) (hI : xIn ν ci) (hd : decode μ.2.2.1 pc = .ok (.invokevirtual index, 3)) (hM : xMet sc ν d' 0 0 [.ref a, x1, x2, x3, x4, x5] h Qn) (hdd : d' + 1 ≤ d) (ha : h.2 a = some (.inr (ci, fs))) (hst : (st.map fun v => v.category).sum ≤ 8) (k : ∀ v h', Qn v h' → xW sc μ d kc ks (pc + 3) lv (v.toList ++ st) h' Q) : xW sc μ d kc ks pc lv (x5 :: x4 :: x3 :: x2 :: x1 :: .ref a :: st) h Q :=
  xW.z (xw_V (As := [x1, x2, x3, x4, x5]) hL hI hd hM hdd ha rfl rfl hst k)
theorem xw_VN5 {host : String} (hL : xLn μ.1 index host ν 5) (hI : xIn ν ci) (hd : decode μ.2.2.1 pc = .ok (.invokevirtual index, 3)) (hM : xMet sc ν d' 0 0 [.ref a, x1, x2, x3, x4, x5] h Qn) (hdd : d' + 1 ≤ d) (ha : h.2 a = some (.inr (ci, fs))) (hst : (st.map fun v => v.category).sum ≤ 8) (k : ∀ v h', Qn v h' → xW sc μ d kc ks (pc + 3) lv (v.toList ++ st) h' Q) : xW sc μ d kc ks pc lv (x5 :: x4 :: x3 :: x2 :: x1 :: .ref a :: st) h Q :=
  xW.z (xw_VN (As := [x1, x2, x3, x4, x5]) hL hI hd hM hdd ha rfl rfl hst k)
theorem xw_S5 (hL : xLk μ.1 index ν 5) (hI : Cond.static ν.2.1 ∈ xT) (hd : decode μ.2.2.1 pc = .ok (.invokestatic index, 3)) (hM : xMet sc ν d' 0 0 [x1, x2, x3, x4, x5] h Qn) (hdd : d' + 1 ≤ d) (hst : (st.map fun v => v.category).sum ≤ 8) (k : ∀ v h', Qn v h' → xW sc μ d kc ks (pc + 3) lv (v.toList ++ st) h' Q) : xW sc μ d kc ks pc lv (x5 :: x4 :: x3 :: x2 :: x1 :: st) h Q :=
  xW.z (xw_S (As := [x1, x2, x3, x4, x5]) hL hI hd hM hdd rfl rfl hst k)
theorem xw_SN5 {host : String} (hL : xLn μ.1 index host ν 5) (hI : Cond.static ν.2.1 ∈ xT) (hd : decode μ.2.2.1 pc = .ok (.invokestatic index, 3)) (hM : xMet sc ν d' 0 0 [x1, x2, x3, x4, x5] h Qn) (hdd : d' + 1 ≤ d) (hst : (st.map fun v => v.category).sum ≤ 8) (k : ∀ v h', Qn v h' → xW sc μ d kc ks (pc + 3) lv (v.toList ++ st) h' Q) : xW sc μ d kc ks pc lv (x5 :: x4 :: x3 :: x2 :: x1 :: st) h Q :=
  xW.z (xw_SN (As := [x1, x2, x3, x4, x5]) hL hI hd hM hdd rfl rfl hst k)
end XC0
