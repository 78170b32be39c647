/-! A SMALL MACHINE OVER THE KIT'S ROWS: worlds whose cells stand at known places, frames as lists, one judgement (xW) without the machine's own context, one contract (xMet). -/
abbrev xE : Type := (Nat × (List Int32 ⊕ List (Option Nat))) ⊕ (Nat × List Value)
abbrev xH : Type := Nat × (Nat → Option xE)
abbrev xTs : Type := List (ClassId × FieldType)
def xcA (tys : xTs) (t : Nat) : ClassId := (tys.getD t (0, .int)).1
def xc (tys : xTs) (b base : Nat) (e : xE) : va_E := match e with
  | .inl (t, .inl l) => .inl (xcA tys t, l.length, .inl (fun j => l.getD j 0))
  | .inl (t, .inr l) => .inl (xcA tys t, l.length, .inr (.inr (.inr (.inr (fun j => (l.getD j none).map (xad b base))))))
  | .inr (ci, fs) => .inr (ci, fs.map (xv b base))
def xR (tys : xTs) (D : va_G) (b base : Nat) (h : xH) (H : Heap) : Prop :=
  H.size = base + 1 + h.1 ∧ ∀ (k : Nat) (e : xE), h.2 k = some e → 0 < k ∧ va_at D vwCl (base + k, xc tys b base e) H
def xu (h : xH) (k : Nat) (e : xE) : xH := (h.1, fun j => if j = k then some e else h.2 j)
def xn (h : xH) (e : xE) : xH := (h.1 + 1, fun j => if j = h.1 + 1 then some e else h.2 j)
theorem xR.set {tys : xTs} {D : va_G} {b base : Nat} {h : xH} {H H1 : Heap} {k : Nat} {e0 e : xE} (hR : xR tys D b base h H) (hk : h.2 k = some e0) (he : va_at D vwCl (base + k, xc tys b base e) H1) (z : H1.size = H.size) (oq : ∀ q : Nat, q ≠ base + k → H1[q]? = H[q]?) : xR tys D b base (xu h k e) H1 := by
  refine ⟨z.trans hR.1, fun j e' hj => ?_⟩
  by_cases hjk : j = k
  · subst hjk
    simp only [xu, if_true] at hj
    cases hj
    exact ⟨(hR.2 _ _ hk).1, he⟩
  · simp only [xu, if_neg hjk] at hj
    obtain ⟨h1, h2⟩ := hR.2 j e' hj
    exact ⟨h1, h2.kept (oq _ (by show base + j ≠ base + k; omega))⟩
theorem xR.push {tys : xTs} {D : va_G} {b base : Nat} {h : xH} {H H1 : Heap} {e : xE} (hR : xR tys D b base h H) (z : H1.size = H.size + 1) (oq : ∀ q : Nat, q < H.size → H1[q]? = H[q]?) (he : va_at D vwCl (base + (h.1 + 1), xc tys b base e) H1) : xR tys D b base (xn h e) H1 := by
  refine ⟨by rw [z, hR.1]; rfl, fun j e' hj => ?_⟩
  by_cases hjk : j = h.1 + 1
  · subst hjk
    simp only [xn, if_true] at hj
    cases hj
    exact ⟨Nat.succ_pos _, he⟩
  · simp only [xn, if_neg hjk] at hj
    obtain ⟨h1, h2⟩ := hR.2 j e' hj
    exact ⟨h1, h2.kept (oq _ h2.lt)⟩
theorem xR.new {tys : xTs} {D : va_G} {b base : Nat} {h : xH} {H : Heap} (hR : xR tys D b base h H) : base + (h.1 + 1) = H.size := by rw [hR.1]; omega
theorem xad_pos {b base k : Nat} (h : 0 < k) : xad b base k = base + k := by unfold xad; rw [if_neg (by omega)]
theorem xv_cat (b base : Nat) (v : Value) : (xv b base v).category = v.category := by cases v <;> rfl
theorem xv_sum (b base : Nat) (st : List Value) : ((st.map (xv b base)).map fun v => v.category).sum = (st.map fun v => v.category).sum := by
  rw [List.map_map]
  congr 1
  exact List.map_congr_left fun v _ => xv_cat b base v
def xa (b base : Nat) : Nat → List (Option Value) → List (Nat × Value)
  | _, [] => []
  | i, none :: r => xa b base (i + 1) r
  | i, some v :: r => (i, xv b base v) :: xa b base (i + 1) r
theorem xa_mem {b base : Nat} {q : Nat × Value} : ∀ (lv : List (Option Value)) (i : Nat), q ∈ xa b base i lv ↔ ∃ (k : Nat) (v : Value), lv[k]? = some (some v) ∧ q = (i + k, xv b base v)
  | [], i => by simp [xa]
  | none :: r, i => by
    show q ∈ xa b base (i + 1) r ↔ _
    rw [xa_mem r (i + 1)]
    constructor
    · rintro ⟨k, v, h1, h2⟩
      exact ⟨k + 1, v, by simpa using h1, by rw [h2]; congr 1; omega⟩
    · rintro ⟨k, v, h1, h2⟩
      cases k with
      | zero => simp at h1
      | succ k => exact ⟨k, v, by simpa using h1, by rw [h2]; congr 1; omega⟩
  | some w :: r, i => by
    show q ∈ (i, xv b base w) :: xa b base (i + 1) r ↔ _
    rw [List.mem_cons, xa_mem r (i + 1)]
    constructor
    · rintro (h | ⟨k, v, h1, h2⟩)
      · exact ⟨0, w, rfl, by rw [h]; rfl⟩
      · exact ⟨k + 1, v, by simpa using h1, by rw [h2]; congr 1; omega⟩
    · rintro ⟨k, v, h1, h2⟩
      cases k with
      | zero =>
        simp at h1
        exact Or.inl (by rw [h2, h1]; rfl)
      | succ k => exact Or.inr ⟨k, v, by simpa using h1, by rw [h2]; congr 1; omega⟩
def xL (b base : Nat) (ls : Array Slot) (lv : List (Option Value)) : Prop := lv_has ls lv.length (xa b base 0 lv) ∧ ∀ v : Value, some v ∈ lv → v.category = 1
theorem xL.at {b base : Nat} {ls : Array Slot} {lv : List (Option Value)} {i : Nat} {v : Value} (h : xL b base ls lv) (hi : lv[i]? = some (some v)) : ls[i]? = some (.val (xv b base v)) :=
  h.1.2.2 (i, xv b base v) ((xa_mem lv 0).mpr ⟨i, v, hi, by rw [Nat.zero_add]⟩)
theorem xL.lt {lv : List (Option Value)} {i : Nat} {v : Value} (hi : lv[i]? = some (some v)) : i < lv.length := (List.getElem?_eq_some_iff.mp hi).1
theorem xL.set {b base : Nat} {ls ls' : Array Slot} {lv : List (Option Value)} {i : Nat} {v : Value} (h : xL b base ls lv) (hi : i < lv.length) (hv : v.category = 1) (h' : lv_has ls' lv.length ((i, xv b base v) :: (xa b base 0 lv).filter (fun q => !(q.1 == i) && !(q.1 + 1 == i && q.2.category == 2)))) : xL b base ls' (lv.set i (some v)) := by
  refine ⟨⟨by rw [List.length_set]; exact h'.1, h'.2.1, fun q hq => ?_⟩, fun w hw => ?_⟩
  · obtain ⟨k, w, h1, rfl⟩ := (xa_mem _ 0).mp hq
    refine h'.2.2 _ ?_
    by_cases hk : k = i
    · subst hk
      rw [List.getElem?_set_self hi] at h1
      cases h1
      rw [Nat.zero_add]
      exact List.mem_cons_self
    · rw [List.getElem?_set_ne (Ne.symm hk)] at h1
      refine List.mem_cons_of_mem _ (List.mem_filter.mpr ⟨(xa_mem _ 0).mpr ⟨k, w, h1, rfl⟩, ?_⟩)
      have hc : w.category = 1 := h.2 w (List.mem_of_getElem? h1)
      simp [xv_cat, hc, hk]
  · rcases List.mem_or_eq_of_mem_set hw with h1 | h1
    · exact h.2 w h1
    · cases h1
      exact hv
def xUo (U : State) : Prop := ∀ w ∈ xU, va_Nw w U
theorem xUo.warm {s U : State} (hW : s.WarmedH U.vm) (h : xUo s) : xUo U := by
  intro w hw
  have hg := (List.mem_filter.mp hw).2
  have h1 := h w hw
  unfold xIsU at hg
  split at hg
  · exact va_Nw.warmM hW h1
  · exact va_AO.moved hW.alike h1
  · cases hg
theorem xUo.same {s U : State} (hv : s.vm = U.vm) (h : xUo s) : xUo U := by
  intro w hw
  have hg := (List.mem_filter.mp hw).2
  have h1 := h w hw
  unfold xIsU at hg
  split at hg
  · exact va_Nw.same rfl hv h1
  · exact va_AO.moved (by rw [hv]; exact Vm.Alike.refl _) h1
  · cases hg
/-- what a body's walk knows of its machine -/
def xCx (sc : List Int32) (μ : xM) (D : va_G) (tys : xTs) (b base : Nat) (p : Program) (s : State) (m : MethodId) (args : Array Value) (meth : Method) (c : Code) : Prop :=
  p.tables.exec = Jvm.exec ∧ c.code = μ.2.2.1 ∧ c.maxLocals = μ.2.2.2.1 ∧ s.vm.findClass μ.1 = some m.cls ∧ (∀ w ∈ xT, w.before args s = true) ∧ va_K D vwCl tys s ∧ tys.map Prod.snd = xTys ∧ meth.sig.returnType = μ.2.2.2.2 ∧ meth.locks = false ∧ (μ.2.1.name = "<init>" → meth.name = "<init>") ∧ base < s.heap.size ∧ va_X b sc.length (fun j => sc.getD j 0) s s.heap ∧ b ≤ base ∧ xUo s
/-- a method's last instruction, with its answer -/
def xEnd (μ : xM) (b base pc : Nat) (v : Option Value) (st : List Value) : Prop :=
  (v = none ∧ st = [] ∧ μ.2.2.2.2 = none ∧ decode μ.2.2.1 pc = .ok (.return_, 1)) ∨
  (∃ (x : Int32) (ty : FieldType), v = some (.int x) ∧ st = [.int x] ∧ μ.2.2.2.2 = some ty ∧ narrow ty (.int x) = .int x ∧ decode μ.2.2.1 pc = .ok (.ireturn, 1)) ∨
  (∃ (w : Value) (ty : FieldType), v = some w ∧ (w = .null ∨ ∃ k, w = .ref k) ∧ st = [xv b base w] ∧ μ.2.2.2.2 = some ty ∧ ((∃ n, ty = .object n) ∨ ∃ t, ty = .array t) ∧ decode μ.2.2.1 pc = .ok (.areturn, 1))
def xLw : Nat := 40
def xW (sc : List Int32) (μ : xM) (d kc ks pc : Nat) (lv : List (Option Value)) (st : List Value) (h : xH) (Q : Option Value → xH → Prop) : Prop :=
  ∀ (D : va_G) (tys : xTs) (b base : Nat) (p : Program) (l : Launch) (e : Env) (R : Room) (s : State) (m : MethodId) (args : Array Value) (below : List Frame) (meth : Method) (c : Code), xCx sc μ D tys b base p s m args meth c →
    ∀ (H : Heap) (locs : List Loc) (cells slots : Nat) (ls : Array Slot) (QQ : State → Prop), xL b base ls lv ∧ lv.length = μ.2.2.2.1 → xR tys D b base h H → va_S (fun q => base < q) s.heap H locs → cells + kc ≤ R.cells → slots + ks ≤ R.slots → d ≤ R.frames → xLw * d ≤ R.locals →
    (∀ (v : Option Value) (h' : xH) (H' : Heap) (locs' : List Loc) (cells' slots' : Nat) (ls' : Array Slot) (pc' : Nat) (st' : List Value), Q v h' → xR tys D b base h' H' → va_S (fun q => base < q) s.heap H' locs' → cells' ≤ R.cells → slots' ≤ R.slots → xEnd μ b base pc' v st' →
      W p l e R s m args below meth c H' locs' cells' slots' QQ (F0 m pc' ls' st')) →
    W p l e R s m args below meth c H locs cells slots QQ (F0 m pc ls (st.map (xv b base)))
def xPre (sc : List Int32) (D : va_G) (tys : xTs) (b base : Nat) (av : List Value) (h : xH) : Array Value → State → Prop :=
  va_Pc (av.map (xv b base)) (fun U => xR tys D b base h U.heap ∧ va_K D vwCl tys U ∧ tys.map Prod.snd = xTys ∧ va_X b sc.length (fun j => sc.getD j 0) U U.heap ∧ b ≤ base ∧ xUo U)
def xPost (D : va_G) (tys : xTs) (b base : Nat) (Q : Option Value → xH → Prop) : Array Value → State → Outcome → State → Prop := fun _ st oc t =>
  (∃ (v : Option Value) (h' : xH), Q v h' ∧ oc = .returned (v.map (xv b base)) ∧ xR tys D b base h' t.heap) ∧ va_F (fun q => base < q) st t
def xMet (sc : List Int32) (μ : xM) (d kc ks : Nat) (av : List Value) (h : xH) (Q : Option Value → xH → Prop) : Prop :=
  ∀ (l : Launch) (D : va_G) (tys : xTs) (b base : Nat), Met l μ.2.1 (Cond.code μ.2.1 μ.2.2.1 μ.2.2.2.1 μ.2.2.2.2 :: xT) { frames := d, cells := kc, slots := ks, locals := xLw * d } (xPre sc D tys b base av h) (xPost D tys b base Q) kc ks (fun q => base < q)
/-- a contract's frame of locals -/
def xlv (n : Nat) (av : List Value) : List (Option Value) := av.map some ++ List.replicate (n - av.length) none
theorem xlv_entry {b base n : Nat} {av : List Value} (hc : ∀ v ∈ av, v.category = 1) (hn : av.length ≤ n) : ∃ ls : Array Slot, ((lg_sl (av.map (xv b base)) ++ List.replicate (n - (lg_sl (av.map (xv b base))).length) Slot.unset).toArray) = ls ∧ xL b base ls (xlv n av) ∧ (xlv n av).length = n := by
  have hsl : ∀ (vs : List Value), (∀ v ∈ vs, v.category = 1) → (lg_sl vs).length = vs.length := by
    intro vs
    induction vs with
    | nil => intro _; rfl
    | cons v r ih =>
      intro h
      have h1 := h v List.mem_cons_self
      have h2 := ih (fun w hw => h w (List.mem_cons_of_mem _ hw))
      unfold lg_sl at h2 ⊢
      rw [List.flatMap_cons, if_neg (by omega), List.length_append, h2]
      simp
      omega
  have hcat : ∀ v ∈ av.map (xv b base), v.category = 1 := by
    intro v hv
    obtain ⟨w, hw, rfl⟩ := List.mem_map.mp hv
    rw [xv_cat]
    exact hc w hw
  have hlen : (lg_sl (av.map (xv b base))).length = av.length := by rw [hsl _ hcat, List.length_map]
  have hE := lv_entry (av.map (xv b base)) (n := n) (by omega)
  have hargs : ∀ (vs : List Value) (i : Nat), (∀ v ∈ vs, v.category = 1) → ∀ (k : Nat) (v : Value), vs[k]? = some v → (i + k, xv b base v) ∈ lv_args i (vs.map (xv b base)) := by
    intro vs
    induction vs with
    | nil => intro i _ k v h; simp at h
    | cons w r ih =>
      intro i h k v hk
      have h1 := h w List.mem_cons_self
      show _ ∈ (i, xv b base w) :: lv_args (if (xv b base w).category = 2 then i + 2 else i + 1) (r.map (xv b base))
      rw [xv_cat, if_neg (by omega)]
      cases k with
      | zero =>
        simp at hk
        subst hk
        exact List.mem_cons_self
      | succ k =>
        have h2 := ih (i + 1) (fun z hz => h z (List.mem_cons_of_mem _ hz)) k v (by simpa using hk)
        have e : i + 1 + k = i + (k + 1) := by omega
        rw [e] at h2
        exact List.mem_cons_of_mem _ h2
  have hL : (xlv n av).length = n := by simp [xlv]; omega
  refine ⟨_, rfl, ⟨⟨by rw [hL]; exact hE.1, hE.2.1, fun q hq => ?_⟩, fun v hv => ?_⟩, hL⟩
  · obtain ⟨k, v, h1, rfl⟩ := (xa_mem _ 0).mp hq
    unfold xlv at h1
    by_cases hk : k < av.length
    · rw [List.getElem?_append_left (by simpa using hk), List.getElem?_map] at h1
      have h2 : av[k]? = some v := by
        cases hz : av[k]? with
        | none => rw [hz] at h1; simp at h1
        | some z => rw [hz] at h1; simp at h1; rw [h1]
      exact hE.2.2 _ (hargs av 0 hc k v h2)
    · rw [List.getElem?_append_right (by simpa using hk)] at h1
      have h2 := List.mem_of_getElem? h1
      have h3 := List.eq_of_mem_replicate h2
      cases h3
  · unfold xlv at hv
    rcases List.mem_append.mp hv with h1 | h1
    · obtain ⟨w, hw, hz⟩ := List.mem_map.mp h1
      cases hz
      exact hc _ hw
    · have h3 := List.eq_of_mem_replicate h1
      cases h3
/-- a contract out of a walk -/
theorem xMet.of {sc : List Int32} {μ : xM} {d kc ks : Nat} {av : List Value} {h : xH} {Q : Option Value → xH → Prop} (hw : xCw μ) (hc : ∀ v ∈ av, v.category = 1) (hn : av.length ≤ μ.2.2.2.1) (k : xW sc μ d kc ks 0 (xlv μ.2.2.2.1 av) [] h Q) : xMet sc μ d kc ks av h Q := by
  intro l D tys b base
  refine Met.ofW (cc := μ.2.2.1) (maxL := μ.2.2.2.1) (ret := μ.2.2.2.2) hw.2.2.2.1 rfl ?_
  intro p e s m args below meth c s₁ B hml hv
  obtain ⟨rfl, hR, hK, hty, hX, hbb, hUo⟩ := hv
  have hts := atoms_spec (ws := Cond.code μ.2.1 μ.2.2.1 μ.2.2.2.1 μ.2.2.2.2 :: xT) B.pre
  have hown : s.vm.findClass μ.2.1.cls = some m.cls := findClass_of_methodNamed B.named
  have hnm : meth.name = μ.2.1.name := (name_of_methodNamed B.named B.method).1
  have hlk := B.notSynchronized
  have hr := B.returns
  have hS : va_S (fun q => base < q) s.heap s.heap [] := va_S.rf
  obtain ⟨ls, e1, hl, hll⟩ := xlv_entry (b := b) (base := base) (n := μ.2.2.2.1) hc hn
  rw [lg_entry_eq, e1]
  refine k D tys b base p l e _ s m _ below meth c ⟨B.exec, B.bytes, hml, by rw [hw.2.2.2.2.1]; exact hown, fun w h => hts w (List.mem_cons_of_mem _ h), hK, hty, B.returns, B.notSynchronized, fun z => hnm.trans z, by rw [hR.1]; omega, hX, hbb, hUo⟩ s.heap [] 0 0 ls _ ⟨hl, hll⟩ hR hS (by show 0 + kc ≤ kc; omega) (by show 0 + ks ≤ ks; omega) (Nat.le_refl _) (Nat.le_refl _) ?_
  intro v h' H' locs' cells' slots' ls' pc' st' hq hR' hS' hcl hsl hE
  refine W.widen (k := kc) (n := ks) hcl hsl ?_
  rcases hE with ⟨rfl, rfl, hr1, hd⟩ | ⟨x, ty, rfl, rfl, hr1, hnw, hd⟩ | ⟨w, ty, rfl, hw1, rfl, hr1, hty1, hd⟩
  · exact W.vret B.exec B.bytes (hr.trans hr1) (fun t ht _ => ⟨⟨none, h', hq, rfl, by rw [ht]; exact hR'⟩, hS'.F ht⟩) hS'.2.2 hd hlk
  · exact W.zret B.exec B.bytes (hr.trans hr1) hnw (fun t ht _ => ⟨⟨some (.int x), h', hq, rfl, by rw [ht]; exact hR'⟩, hS'.F ht⟩) hS'.2.2 hd hlk
  · exact W.aret B.exec B.bytes (hr.trans hr1) hty1 (by rcases hw1 with rfl | ⟨k, rfl⟩ <;> first | exact Or.inl rfl | exact Or.inr ⟨_, rfl⟩) (fun t ht _ => ⟨⟨some w, h', hq, rfl, by rw [ht]; exact hR'⟩, hS'.F ht⟩) hS'.2.2 hd hlk
