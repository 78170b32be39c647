-- ===== end of PART A; then your names; then what follows =====
/-! THE CLAIM OUT OF ONE WALK OF THE LAW'S BODY. Your part is whole_start (and what it stands on); all else here is the same for every law, but numbers. -/
def R_law : String := "QuorumNodesLaw"
def lw_P (b : Addr) (xs : List Int32) (args : Array Value) (s : State) : Prop := args = #[.ref b] ∧ s.IntsAt b xs ∧ xs.length ≤ 2563 ∧ (Jvm.Cond.and given_1 narrow_1).before args s = true
def lw_Q (_ : Array Value) (s : State) (o : Outcome) (t : State) : Prop := o = .returned (some (.int 1)) ∧ Framed s o t [] 600000 7302250
def lw_Z (below : List Frame) (a : Array Value) (s : State) : State → Prop := fun t => ∃ o, t.status = .running ∧ Ended t below o ∧ lw_Q a s o t
/-- the law's own end, with 1 on the stack, nothing written that was there before, its room as the claim has it -/
theorem lw_ret {p : Program} {l : Launch} {e : Env} {s : State} {m : MethodId} {below : List Frame} {meth : Method} {c : Code} {b : Nat} (hx : p.tables.exec = Jvm.exec) (hb : c.code = code) (hr : meth.sig.returnType = ret) (hlocks : meth.locks = false) {pc : Nat} {H : Heap} {ls : Array Slot} (hdg : decode code pc = .ok (.ireturn, 1)) : W p l e room_1 s m #[Value.ref b] below meth c H [] 600000 7302250 (lw_Z below #[Value.ref b] s) (F0 m pc ls [.int 1]) := by
  intro T hT X
  obtain ⟨fs, hret, hrun, hended, hW, hframe⟩ := X.leave (v := some (.int 1)) (hlocks := hlocks) (fun h => by rw [hr] at h; cases h)
  have hmeth' : T.vm.method? m = some meth := X.method'
  refine ⟨T.setFrames fs, ?_, .returned (some (.int 1)), hrun, hended, rfl, ⟨_, rfl⟩, hW, hframe⟩
  jvm_step X.here [X.here.top, hx, hb, hdg, hmeth', hr, ret, narrow_b1]
  (try refine ⟨rfl, ?_⟩); (try refine ⟨rfl, ?_⟩)
  first | (intro acts; rw [hret _ acts rfl rfl rfl]) | rw [hret _ _ rfl rfl rfl]
  exact Steps.refl _
/-- what holds at the law's entry: the machine, the code, the tables' words (any of lw_tbl by 'hts w (by decide +kernel)'), the script of L ints xs at the cell b, what the Statement gives of the start (any of its parts by flat_of_before) -/
def lw_At (p : Program) (s : State) (m : MethodId) (meth : Method) (c : Code) (b L : Nat) (xs : Nat → Int32) : Prop :=
  p.tables.exec = Jvm.exec ∧ c.code = code ∧ meth.sig.returnType = ret ∧ c.maxLocals = 4 ∧ s.vm.findClass R_law = some m.cls ∧ (∀ w ∈ lw_tbl, w.before #[Value.ref b] s = true) ∧ va_X b L xs s s.heap ∧ b < s.heap.size ∧ meth.locks = false ∧ (Jvm.Cond.and given_1 narrow_1).before #[Value.ref b] s = true
-- ===== YOUR PART BEGINS =====
set_option maxHeartbeats 4000000 in
set_option maxRecDepth 100000 in
/-- YOUR PART: from the entry, for every script of at most 2563 ints, the law comes to its end with true -/
theorem whole_start {p : Program} {e : Env} {s : State} {m : MethodId} {below : List Frame} {meth : Method} {c : Code} (l : Launch) {b L : Nat} {xs : Nat → Int32} (hL : L ≤ 2563) (C0 : lw_At p s m meth c b L xs) : W p l e room_1 s m #[Value.ref b] below meth c s.heap [] 0 0 (lw_Z below #[Value.ref b] s) (entryFrame m ([Value.ref b] : List Value).toArray 4) := by
  obtain ⟨hx, hb, hr, hml, hown, hts, hX, hbl, hlocks, hgv⟩ := id C0
  obtain ⟨c0, iS0, hKn0⟩ := u_known (C := R_Q) (T := F_Q) (N := 5) (n := 5) hts i_Q (hts (.instantiable R_Q 5) (List.mem_of_getElem? (i := 67) (by decide +kernel)))
  obtain ⟨c1, iS1, hKn1⟩ := u_known (C := R_Co) (T := F_Co) (N := 3) (n := 3) hts i_Co (hts (.instantiable R_Co 3) (List.mem_of_getElem? (i := 104) (by decide +kernel)))
  obtain ⟨c2, iS2, hKn2⟩ := u_known (C := R_Ma) (T := F_Ma) (N := 4) (n := 4) hts i_Ma (hts (.instantiable R_Ma 4) (List.mem_of_getElem? (i := 77) (by decide +kernel)))
  obtain ⟨c3, iS3, hKn3⟩ := u_known (C := R_Me) (T := F_Me) (N := 10) (n := 10) hts i_Me (hts (.instantiable R_Me 10) (List.mem_of_getElem? (i := 84) (by decide +kernel)))
  obtain ⟨c4, iS4, hKn4⟩ := u_known (C := R_No) (T := F_No) (N := 11) (n := 11) hts i_No (hts (.instantiable R_No 11) (List.mem_of_getElem? (i := 189) (by decide +kernel)))
  obtain ⟨c5, iS5, hKn5⟩ := u_known (C := R_Se) (T := F_Se) (N := 2) (n := 2) hts i_Se (hts (.instantiable R_Se 2) (List.mem_of_getElem? (i := 90) (by decide +kernel)))
  obtain ⟨c6, iS6, hKn6⟩ := u_known (C := R_Ta) (T := F_Ta) (N := 14) (n := 14) hts i_Ta (hts (.instantiable R_Ta 14) (List.mem_of_getElem? (i := 215) (by decide +kernel)))
  obtain ⟨c7, iS7, hKn7⟩ := u_known (C := R_Vo) (T := F_Vo) (N := 3) (n := 3) hts i_Vo (hts (.instantiable R_Vo 3) (List.mem_of_getElem? (i := 199) (by decide +kernel)))
  obtain ⟨c8, iS8, hKn8⟩ := u_known (C := R_M) (T := F_M) (N := 36) (n := 36) hts i_M (hts (.instantiable R_M 36) (List.mem_of_getElem? (i := 719) (by decide +kernel)))
  obtain ⟨dC, dI, hKc⟩ : ∃ (dC : Nat → ClassId) (dI : Nat → Nat → Nat), ∀ (k : Nat) (q : vw_C), vwCl[k]? = some q → u_Kn s q.1 q.2.1 q.2.2 (dC k) (dI k) := by
    refine ⟨fun k => if k = 0 then c0 else if k = 1 then c1 else if k = 2 then c2 else if k = 3 then c3 else if k = 4 then c4 else if k = 5 then c5 else if k = 6 then c6 else if k = 7 then c7 else c8, fun k => if k = 0 then iS0 else if k = 1 then iS1 else if k = 2 then iS2 else if k = 3 then iS3 else if k = 4 then iS4 else if k = 5 then iS5 else if k = 6 then iS6 else if k = 7 then iS7 else iS8, ?_⟩
    intro k q hq
    match k, hq with
    | 0, hq => cases hq; exact hKn0
    | 1, hq => cases hq; exact hKn1
    | 2, hq => cases hq; exact hKn2
    | 3, hq => cases hq; exact hKn3
    | 4, hq => cases hq; exact hKn4
    | 5, hq => cases hq; exact hKn5
    | 6, hq => cases hq; exact hKn6
    | 7, hq => cases hq; exact hKn7
    | 8, hq => cases hq; exact hKn8
    | k + 9, hq => simp [vwCl] at hq
  obtain ⟨cI, kI, compI, hI1, hI2, hI3⟩ := Cond.arrayClass_spec (hts (.arrayClass .int) (List.mem_of_getElem? (i := 102) (by decide +kernel)))
  obtain ⟨compN, cN, kN, hN1, hN2, hN3, hN4, hN5⟩ := Cond.arrayOver_spec (hts (.arrayOver (.object "QuorumNodes$Node")) (List.mem_of_getElem? (i := 75) (by decide +kernel)))
  obtain ⟨compM, cM, kM, hM1, hM2, hM3, hM4, hM5⟩ := Cond.arrayOver_spec (hts (.arrayOver (.object "QuorumNodes$Message")) (List.mem_of_getElem? (i := 83) (by decide +kernel)))
  have hK : va_K (dC, dI) vwCl [(cI, .int), (cN, .object "QuorumNodes$Node"), (cM, .object "QuorumNodes$Message")] s := by
    refine ⟨hKc, fun k q hq => ?_⟩
    match k, hq with
    | 0, hq => cases hq; exact ⟨fun n z => ⟨fun k h => (by cases h), kI, hI2, compI, hI3⟩, hI1⟩
    | 1, hq => cases hq; exact ⟨fun n z => ⟨fun k h => (by cases h), kN, hN3, compN, hN4⟩, kN, compN, hN3, hN4, hN1, hN5⟩
    | 2, hq => cases hq; exact ⟨fun n z => ⟨fun k h => (by cases h), kM, hM3, compM, hM4⟩, kM, compM, hM3, hM4, hM1, hM5⟩
    | k + 3, hq => simp at hq
  have hU : xUo s := by
    intro w hw
    have hg := (List.mem_filter.mp hw).2
    have h1 := hts w (List.mem_filter.mp hw).1
    unfold xIsU at hg
    split at hg
    · exact va_Nw.of rfl h1
    · exact va_AO.of h1
    · cases hg
  obtain ⟨sc, hscl, hsc⟩ : ∃ sc : List Int32, sc.length = L ∧ ∀ j, j < L → sc.getD j 0 = xs j := ⟨(List.range L).map xs, by simp, fun j hj => by simp [List.getD_eq_getElem?_getD, hj]⟩
  have hX' : va_X b sc.length (fun j => sc.getD j 0) s s.heap := by
    obtain ⟨scr, x1, x2, x3, x4, x5⟩ := hX
    exact ⟨scr, x1, x2, x3, by rw [hscl]; exact x4, fun j hj => by rw [hscl] at hj; rw [x5 j hj, ← hsc j hj]⟩
  obtain ⟨kc, ks, hkc, hks, hw⟩ := pure_law sc (by omega)
  obtain ⟨base, hbase⟩ : ∃ base, base + 1 = s.heap.size := ⟨s.heap.size - 1, by omega⟩
  obtain ⟨ls, e1, hl, hll⟩ := xlv_entry (b := b) (base := base) (n := 4) (av := [.ref 0]) (fun v hv => by simp at hv; subst hv; rfl) (by decide)
  have e1 : (lg_sl [Value.ref b] ++ List.replicate (4 - (lg_sl [Value.ref b]).length) Slot.unset).toArray = ls := e1
  rw [lg_entry_eq, e1]
  refine p_L_law hw (dC, dI) [(cI, .int), (cN, .object "QuorumNodes$Node"), (cM, .object "QuorumNodes$Message")] b base p l e room_1 s m #[Value.ref b] below meth c ⟨hx, hb, hml, hown, fun w h => hts w (List.mem_filter.mp h).1, hK, rfl, hr, hlocks, fun z => absurd z (by decide), by omega, hX', by omega, hU⟩ s.heap [] 0 0 ls _ ⟨hl, hll⟩ ⟨by show s.heap.size = base + 1 + 0; omega, fun k e h => by cases h⟩ va_S.rf (by show 0 + kc ≤ 600000; omega) (by show 0 + ks ≤ 7302250; omega) (by decide) (by decide) ?_
  intro v h' H' locs' cells' slots' ls' pc' st' hq hR' hS' hcl hsl hE
  refine va_forget (fun q h => by have := hS'.2.2 q h; show s.heap.size ≤ q.base; have : base < q.base := this; omega) ?_
  refine W.widen (k := 600000) (n := 7302250) hcl hsl ?_
  rcases hE with ⟨rfl, -⟩ | ⟨y, ty, rfl, rfl, -, -, hd⟩ | ⟨w, ty, rfl, hw1, -⟩
  · cases hq
  · cases hq
    exact lw_ret hx hb hr hlocks hd
  · rcases hw1 with rfl | ⟨k, rfl⟩ <;> cases hq
-- ===== YOUR PART ENDS =====
set_option maxHeartbeats 4000000 in
theorem lw_walk (l : Launch) (b : Addr) (xs : List Int32) : MetFree l x (headSpec (Jvm.Cond.code x code maxLocals ret :: tables_1) room_1) (lw_P b xs) (fun _ _ _ _ _ => True) lw_Q := by
  refine MetFree.of_bodyS (code := code) (maxLocals := maxLocals) (ret := ret) (by decide) ?_ ?_
  · intro args s m h hn
    obtain ⟨meth, c, h1, h2, h3, h4, h5, h6, -, -⟩ := Cond.code_spec hn (atoms_spec (ws := Jvm.Cond.code x code maxLocals ret :: tables_1) h _ List.mem_cons_self)
    exact ⟨meth, c, h1, h2, h3, h4, h5, h6⟩
  · intro p e s m args below meth c s₁ B hml0 hP _
    obtain ⟨rfl, hx, hbd, hgv⟩ := hP
    obtain ⟨scr, harrAt, hlist, hof, hsmall⟩ := hx
    obtain ⟨hcb, hkn, -, -⟩ := State.arrayAt?_spec harrAt
    have hown : s.vm.findClass R_law = some m.cls := findClass_of_methodNamed B.named
    have hts0 : ∀ c ∈ (Jvm.Cond.code x code maxLocals ret :: tables_1), c.before #[Value.ref b] s = true := atoms_spec (ws := Jvm.Cond.code x code maxLocals ret :: tables_1) B.pre
    have hts : ∀ w ∈ lw_tbl, w.before #[Value.ref b] s = true := k2_hts_sels lw_privs (fun w hw => hts0 w (List.mem_cons_of_mem _ hw)) lw_privs_ok
    have hml : c.maxLocals = 4 := B.maxLocals_eq (hts0 _ List.mem_cons_self)
    have X₀ : Stand p l e room_1 s m #[Value.ref b] below meth c s₁ [] 0 0 := Stand.of_body B
    have hh0 : s₁.heap = s.heap := by rw [B.state]; rfl
    have hsz : scr.slots.size = xs.length := by rw [← Array.length_toList, hlist, List.length_map]
    have hval : ∀ j : Nat, j < xs.length → scr.slots[j]? = some (.int (xs.getD j 0)) := fun j hj => by
      rw [← Array.getElem?_toList, hlist]
      simp [hj]
    have hbl : b < s.heap.size := (Array.getElem?_eq_some_iff.mp hcb).1
    have hX : va_X b xs.length (fun j => xs.getD j 0) s s.heap := ⟨scr, hcb, hof, hkn, hsz, hval⟩
    have K : W p l e room_1 s m #[Value.ref b] below meth c s₁.heap [] 0 0 (lw_Z below #[Value.ref b] s) (entryFrame m ([Value.ref b] : List Value).toArray 4) := by
      rw [hh0]
      exact whole_start l hbd ⟨B.exec, B.bytes, B.returns, hml, hown, hts, hX, hbl, B.notSynchronized, hgv⟩
    obtain ⟨t, a1, o, b1, b2, b3⟩ := K s₁ rfl X₀
    exact ⟨t, o, a1, b1, b2, b3⟩
theorem lw_pre_spec {args : Array Value} {s : State} (h : (Jvm.Cond.and given_1 narrow_1).before args s = true) (hr : rest_1_c.before args s = true) : ∃ (b : Addr) (xs : List Int32), lw_P b xs args s := by
  have hs := flat_of_before _ h
  have hq := flat_of_before _ hr
  have hc : (Cond.count 1).before args s = true := hs _ (by decide +kernel)
  have harr : (Cond.arrayOf (.arg 0) .int).before args s = true := hs _ (by decide +kernel)
  have hle : (Cond.le (.length (.arg 0)) (.int 2563)).before args s = true := hs _ (by decide +kernel)
  have hlen : (Cond.isInt (.length (.arg 0))).before args s = true := hq _ (by decide +kernel)
  have hall : (Cond.all (.arg 0) (.isInt (.elem (.arg 0) (.index 0)))).before args s = true := hq _ (by decide +kernel)
  obtain ⟨b, xs, hb, hx⟩ := State.ints_of_pre rfl harr hlen hall
  have hsm : xs.length < 2 ^ 31 := hx.choose_spec.2.2.2
  have hev : (Term.length (.arg 0)).eval args s none [] s = some (.int xs.length.toInt32) := hx.length_eval hb
  have hv := Cond.le_ints hev (show (Term.int 2563).eval args s none [] s = some (.int 2563) from rfl)
  have hd : xs.length.toInt32 ≤ 2563 := by
    simpa [Cond.before, Cond.holds, hv] using hle
  have hN : xs.length ≤ 2563 := (Int32.ofNat_le_ofNat hsm (by decide)).mp (show Int32.ofNat xs.length ≤ Int32.ofNat 2563 from hd)
  exact ⟨b, xs, Cond.one_arg hc (show args[0]? = some (.ref b) from hb), hx, hN, h⟩
theorem lw_comes (l : Launch) : Comes l x (Jvm.Cond.code x code maxLocals ret :: tables_1) room_1 (fun tb e args s => Calls_1 tb e args s ∧ rest_1 tb e args s ∧ Pre_1 tb e args s)
    (fun _ _ args s o t => lw_Q args s o t) := by
  intro p e ha hc hk s m args below hf hfit hheap happ hpre
  obtain ⟨b, xs, hP⟩ := lw_pre_spec hpre.2.2 hpre.2.1
  obtain ⟨k, o, h1, h2, h3, hQ⟩ := lw_walk l b xs p e ha hc hk s m args below hf ((Spec.applies_iff_loose hf).mp happ).1 hP trivial
  exact ⟨k, o, h1, h2, h3, hQ⟩
theorem lw_frame {s t : State} {o : Outcome} {args : Array Value} (h : Framed s o t [] 600000 7302250) :
    Framed s o t (fieldLocs frame_1_writes args s ++ arrayLocs frame_1_arrays args s ++ staticLocs frame_1_statics s) 600000 7302250 := h
theorem lw_limb (L : Cond) (hL : ∀ (args : Array Value) (s t : State), L.after args s (.returned (some (.int 1))) t = true) :
    ArmFor flags0 classFile x code maxLocals ret World_1 tables_1 room_1 Calls_1 rest_1 Pre_1
      (fun tb e a s o t => postC L tb e a s o t ∧ Framed s o t (fieldLocs frame_1_writes a s ++ arrayLocs frame_1_arrays a s ++ staticLocs frame_1_statics s) 600000 7302250) := by
  intro l _ _ _ p e ha hc hk s m args below hf hfit hheap happ hpre
  obtain ⟨k, o, h1, h2, h3, rfl, hF⟩ := lw_comes l p e ha hc hk s m args below hf hfit hheap happ hpre
  exact ⟨k, _, h1, h2, h3, hL args s _, lw_frame hF⟩
theorem i_vc : Claimed_1_1 ∧ Claimed_1_2 := ⟨lw_limb limb_1_1 (fun args s t => by simp [limb_1_1, Cond.after, Cond.holds, Cond.value]), lw_limb limb_1_2 (fun args s t => Cond.after_iff.mpr (by
  first | (rw [show limb_1_2 = Cond.eq .result (.int 1) from rfl, Cond.eq_ints (x := 1) (y := 1) rfl rfl]; simp; done) | (simp [limb_1_2, Cond.value, Term.eval]; done)))⟩
