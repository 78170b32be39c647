/-! heap rules -/
theorem xP1 {D : va_G} {cl : List vw_C} {q : Nat × va_E} {H : Heap} (h : va_at D cl q H) : va_P D cl [q] H := by
  intro k x hx
  cases k with
  | zero => simp at hx; subst hx; exact h
  | succ k => simp at hx
theorem xty_at {tys : xTs} {t : Nat} {ty : FieldType} (h : tys.map Prod.snd = xTys) (ht : xTys[t]? = some ty) : tys[t]? = some (xcA tys t, ty) := by
  rw [← h, List.getElem?_map] at ht
  cases hq : tys[t]? with
  | none => rw [hq] at ht; cases ht
  | some q =>
    rw [hq] at ht
    have hz : q.2 = ty := Option.some.inj ht
    have e : xcA tys t = q.1 := by unfold xcA; rw [List.getD_eq_getElem?_getD, hq]; rfl
    rw [e, ← hz]
theorem xl_set {l : List Int32} {cA : ClassId} {i : Nat} {x : Int32} (hi : i < l.length) : (vp_cell cA (l.length, .inl (fun j => l.getD j 0))).setSlot i (.int x) = vp_cell cA ((l.set i x).length, .inl (fun j => (l.set i x).getD j 0)) := by
  rw [vp_cell_i, vp_cell_i, arrV_store, List.length_set]
  congr 1
  funext q
  by_cases hq : q = i
  · subst hq
    simp [updV, List.getD_eq_getElem?_getD, List.getElem?_set_self hi]
  · simp [updV, hq, List.getD_eq_getElem?_getD, List.getElem?_set_ne (Ne.symm hq)]
theorem xl_setq {l : List (Option Nat)} {cA : ClassId} {i : Nat} {r : Option Nat} {f : Nat → Nat} (hi : i < l.length) : (vp_cell cA (l.length, .inr (.inr (.inr (.inr (fun j => (l.getD j none).map f)))))).setSlot i (va_rf (r.map f)) = vp_cell cA ((l.set i r).length, .inr (.inr (.inr (.inr (fun j => ((l.set i r).getD j none).map f))))) := by
  rw [vp_cell_q, vp_cell_q, arrV_store, List.length_set]
  congr 1
  funext q
  by_cases hq : q = i
  · subst hq
    simp [updV, List.getD_eq_getElem?_getD, List.getElem?_set_self hi]
  · simp [updV, hq, List.getD_eq_getElem?_getD, List.getElem?_set_ne (Ne.symm hq)]
section XH
variable {sc : List Int32} {μ : xM} {d kc ks pc : Nat} {lv : List (Option Value)} {st : List Value} {h : xH} {Q : Option Value → xH → Prop}
theorem xw_get {index ci i a : Nat} {ty : FieldType} {fin : Bool} {fs : List Value} {v : Value} (hF : xFs μ.1 index ci i ty fin) (hd : decode μ.2.2.1 pc = .ok (.getfield index, 3)) (ha : h.2 a = some (.inr (ci, fs))) (hv : fs[i]? = some v) (k : xW sc μ d kc ks (pc + 3) lv (v :: st) h Q) : xW sc μ d kc ks pc lv (.ref a :: st) h Q := by
  intro D tys b base p l e R s m args below meth c C H locs cells slots ls QQ hl hR hS hc hs hf hlo K
  obtain ⟨C', T, N, ty0, hcl, hin, hty, hnm, hk, hlink, -⟩ := hF
  obtain ⟨a0, hat⟩ := hR.2 a _ ha
  show W p l e R s m args below meth c H locs cells slots QQ (F0 m pc ls (.ref (xad b base a) :: st.map (xv b base)))
  rw [xad_pos a0]
  refine va_get (D := D) (tys := tys) (ws := [(base + a, xc tys b base (.inr (ci, fs)))]) C.1 C.2.1 C.2.2.2.2.1 hin C.2.2.2.1 C.2.2.2.2.2.1 (xP1 hat) 0 rfl hcl i hk (C.2.2.2.2.1 _ hlink) (fun _ z => z) (v := xv b base v) ?_ hd ?_
  · rw [List.getElem?_map, hv]; rfl
  · exact k D tys b base p l e R s m args below meth c C H locs cells slots ls QQ hl hR hS hc hs hf hlo K
theorem xw_put0 {index ci i a : Nat} {ty : FieldType} {fs : List Value} {v : Value} (hF : xFs μ.1 index ci i ty false) (hd : decode μ.2.2.1 pc = .ok (.putfield index, 3)) (ha : h.2 a = some (.inr (ci, fs))) (hi : i < fs.length) (hnw : ∀ b base, narrow ty (xv b base v) = xv b base v) (hft : ∀ b base, fits ty (xv b base v) = true) (k : xW sc μ d kc ks (pc + 3) lv st (xu h a (.inr (ci, fs.set i v))) Q) : xW sc μ d kc ks pc lv (v :: .ref a :: st) h Q := by
  intro D tys b base p l e R s m args below meth c C H locs cells slots ls QQ hl hR hS hc hs hf hlo K
  obtain ⟨C', T, N, ty0, hcl, hin, hty, hnm, hk, hlink, hfty, hfin, -⟩ := hF
  obtain ⟨a0, hat⟩ := hR.2 a _ ha
  have hK := C.2.2.2.2.2.1
  have hts := C.2.2.2.2.1
  have hap := va_apart (own := μ.1) hts hin ty0 hty hnm hK hcl
  obtain ⟨r, h1, cell, q1, q2, q3, q4⟩ := hat
  have hr : r = (C', T, N) := Option.some.inj (h1.symm.trans hcl)
  subst hr
  obtain ⟨hSl, hfc, kC, hkC, hkind⟩ := hK.1 ci _ hcl
  obtain ⟨cf, kf, fi, f, hif, hsl⟩ := hSl i hk
  have hlay := hts _ (hin _ (u_in_lay hk))
  unfold u_lay at hlay
  rw [if_neg (by rw [hfin]; decide)] at hlay
  have hst := (u_facts hfc hkC (u_lays hts hin hk) hif).1
  have h6 := u_store hfc hkC hkind hlay hif (by rw [hty i hk, hfty]) (hnw b base) (hft b base)
  show W p l e R s m args below meth c H locs cells slots QQ (F0 m pc ls (xv b base v :: .ref (xad b base a) :: st.map (xv b base)))
  rw [xad_pos a0]
  refine W.putK C.1 C.2.1 (f := f) ⟨C.2.2.2.1, hts _ hlink, ⟨_, _, _, hif⟩, hst⟩ (by rw [q2]; exact h6) q1 q3 (by rw [hsl]; exact k2_hasslot (q4 i hk)) rfl rfl hd fun H' e1 e2 e3 => ?_
  rw [hsl] at e1 ⊢
  refine k D tys b base p l e R s m args below meth c C H' _ cells slots ls QQ hl (hR.set ha ?_ e2 e3) (hS.put e2 e3 (by show base < base + a; omega)) hc hs hf hlo K
  show va_at D vwCl (base + a, .inr (ci, (fs.set i v).map (xv b base))) H'
  rw [List.map_set]
  exact ⟨_, hcl, t_OB.to (V := updV (vp_V (fs.map (xv b base))) i (xv b base v)) ⟨_, e1, q2, q3, t_set q4 hap hk (xv b base v)⟩ (fun j _ => vp_updV_set (by rw [List.length_map]; exact hi) (xv b base v) j)⟩
theorem xw_putF0 {index ci i a : Nat} {ty : FieldType} {fs : List Value} {v : Value} (hF : xFs μ.1 index ci i ty true) (hini : μ.2.1.name = "<init>") (hd : decode μ.2.2.1 pc = .ok (.putfield index, 3)) (ha : h.2 a = some (.inr (ci, fs))) (hi : i < fs.length) (hnw : ∀ b base, narrow ty (xv b base v) = xv b base v) (hft : ∀ b base, fits ty (xv b base v) = true) (k : xW sc μ d kc ks (pc + 3) lv st (xu h a (.inr (ci, fs.set i v))) Q) : xW sc μ d kc ks pc lv (v :: .ref a :: st) h Q := by
  intro D tys b base p l e R s m args below meth c C H locs cells slots ls QQ hl hR hS hc hs hf hlo K
  obtain ⟨C', T, N, ty0, hcl, hin, hty, hnm, hk, hlink, hfty, hfin, hdecl⟩ := hF
  obtain ⟨a0, hat⟩ := hR.2 a _ ha
  have hK := C.2.2.2.2.2.1
  have hts := C.2.2.2.2.1
  have hap := va_apart (own := μ.1) hts hin ty0 hty hnm hK hcl
  obtain ⟨r, h1, cell, q1, q2, q3, q4⟩ := hat
  have hr : r = (C', T, N) := Option.some.inj (h1.symm.trans hcl)
  subst hr
  obtain ⟨hSl, hfc, kC, hkC, hkind⟩ := hK.1 ci _ hcl
  obtain ⟨cf, kf, fi, f, hif, hsl⟩ := hSl i hk
  have hlay := hts _ (hin _ (u_in_lay hk))
  unfold u_lay at hlay
  rw [if_pos hfin] at hlay
  have hst := (u_facts hfc hkC (u_lays hts hin hk) hif).1
  have hcf : m.cls = cf := by
    obtain ⟨_, _, c', _, _, _, -, -, hf', -, -, -, hown2, -⟩ := Cond.laysFinal_spec hlay
    have z1 : c' = cf := by have := hif.symm.trans hf'; simp at this; exact this.1.symm
    rw [hdecl rfl] at hown2
    rw [← z1]; exact Option.some.inj (C.2.2.2.1.symm.trans hown2)
  have h6 := u_fits hfc hkC hkind (Or.inr hlay) hif (by rw [hty i hk, hfty]) (hnw b base) (hft b base)
  show W p l e R s m args below meth c H locs cells slots QQ (F0 m pc ls (xv b base v :: .ref (xad b base a) :: st.map (xv b base)))
  rw [xad_pos a0]
  refine W.putFinK C.1 C.2.1 C.2.2.2.1 (hts _ hlink) hif hst hcf (C.2.2.2.2.2.2.2.2.2.1 hini) (by rw [q2]; exact h6) q1 q3 (by rw [hsl]; exact k2_hasslot (q4 i hk)) rfl rfl hd fun H' e1 e2 e3 => ?_
  rw [hsl] at e1 ⊢
  refine k D tys b base p l e R s m args below meth c C H' _ cells slots ls QQ hl (hR.set ha ?_ e2 e3) (hS.put e2 e3 (by show base < base + a; omega)) hc hs hf hlo K
  show va_at D vwCl (base + a, .inr (ci, (fs.set i v).map (xv b base))) H'
  rw [List.map_set]
  exact ⟨_, hcl, t_OB.to (V := updV (vp_V (fs.map (xv b base))) i (xv b base v)) ⟨_, e1, q2, q3, t_set q4 hap hk (xv b base v)⟩ (fun j _ => vp_updV_set (by rw [List.length_map]; exact hi) (xv b base v) j)⟩
theorem xw_puti {index ci i a : Nat} {fs : List Value} {x : Int32} (hF : xFs μ.1 index ci i .int false) (hd : decode μ.2.2.1 pc = .ok (.putfield index, 3)) (ha : h.2 a = some (.inr (ci, fs))) (hi : i < fs.length) (k : xW sc μ d kc ks (pc + 3) lv st (xu h a (.inr (ci, fs.set i (.int x)))) Q) : xW sc μ d kc ks pc lv (.int x :: .ref a :: st) h Q :=
  xw_put0 hF hd ha hi (fun _ _ => rfl) (fun _ _ => rfl) k
theorem xw_putiF {index ci i a : Nat} {fs : List Value} {x : Int32} (hF : xFs μ.1 index ci i .int true) (hini : μ.2.1.name = "<init>") (hd : decode μ.2.2.1 pc = .ok (.putfield index, 3)) (ha : h.2 a = some (.inr (ci, fs))) (hi : i < fs.length) (k : xW sc μ d kc ks (pc + 3) lv st (xu h a (.inr (ci, fs.set i (.int x)))) Q) : xW sc μ d kc ks pc lv (.int x :: .ref a :: st) h Q :=
  xw_putF0 hF hini hd ha hi (fun _ _ => rfl) (fun _ _ => rfl) k
theorem xw_putr {index ci i a r : Nat} {ty : FieldType} {fs : List Value} (hF : xFs μ.1 index ci i ty false) (hty : (∃ n, ty = .object n) ∨ ∃ t, ty = .array t) (hd : decode μ.2.2.1 pc = .ok (.putfield index, 3)) (ha : h.2 a = some (.inr (ci, fs))) (hi : i < fs.length) (k : xW sc μ d kc ks (pc + 3) lv st (xu h a (.inr (ci, fs.set i (.ref r)))) Q) : xW sc μ d kc ks pc lv (.ref r :: .ref a :: st) h Q :=
  xw_put0 hF hd ha hi (fun _ _ => by rcases hty with ⟨n, rfl⟩ | ⟨t, rfl⟩ <;> rfl) (fun _ _ => by rcases hty with ⟨n, rfl⟩ | ⟨t, rfl⟩ <;> rfl) k
theorem xw_putrF {index ci i a r : Nat} {ty : FieldType} {fs : List Value} (hF : xFs μ.1 index ci i ty true) (hini : μ.2.1.name = "<init>") (hty : (∃ n, ty = .object n) ∨ ∃ t, ty = .array t) (hd : decode μ.2.2.1 pc = .ok (.putfield index, 3)) (ha : h.2 a = some (.inr (ci, fs))) (hi : i < fs.length) (k : xW sc μ d kc ks (pc + 3) lv st (xu h a (.inr (ci, fs.set i (.ref r)))) Q) : xW sc μ d kc ks pc lv (.ref r :: .ref a :: st) h Q :=
  xw_putF0 hF hini hd ha hi (fun _ _ => by rcases hty with ⟨n, rfl⟩ | ⟨t, rfl⟩ <;> rfl) (fun _ _ => by rcases hty with ⟨n, rfl⟩ | ⟨t, rfl⟩ <;> rfl) k
theorem xw_iaload {t a : Nat} {l : List Int32} {i x : Int32} (ht : xTys[t]? = some .int) (hd : decode μ.2.2.1 pc = .ok (.iaload, 1)) (ha : h.2 a = some (.inl (t, .inl l))) (h0 : 0 ≤ i) (hx : l[i.toNatClampNeg]? = some x) (k : xW sc μ d kc ks (pc + 1) lv (.int x :: st) h Q) : xW sc μ d kc ks pc lv (.int i :: .ref a :: st) h Q := by
  intro D tys b base p l' e R s m args below meth c C H locs cells slots ls QQ hl hR hS hc hs hf hlo K
  obtain ⟨a0, hat⟩ := hR.2 a _ ha
  have hlt : i.toNatClampNeg < l.length := (List.getElem?_eq_some_iff.mp hx).1
  show W p l' e R s m args below meth c H locs cells slots QQ (F0 m pc ls (.int i :: .ref (xad b base a) :: st.map (xv b base)))
  rw [xad_pos a0]
  have hz := xty_at C.2.2.2.2.2.2.1 ht
  refine va_iald (D := D) (cl := vwCl) (tys := tys) (ws := [(base + a, xc tys b base (.inl (t, .inl l)))]) C.1 C.2.1 C.2.2.2.2.2.1 (xP1 hat) 0 t rfl hz (fun z => by rcases z with z | z <;> first | exact absurd h0 (Int32.not_le.mpr z) | omega) hd ?_
  have hx' : l.getD i.toNatClampNeg 0 = x := by rw [List.getD_eq_getElem?_getD, hx]; rfl
  rw [hx']
  exact k D tys b base p l' e R s m args below meth c C H locs cells slots ls QQ hl hR hS hc hs hf hlo K
theorem xw_iastore {t a : Nat} {l : List Int32} {i x : Int32} (ht : xTys[t]? = some .int) (hd : decode μ.2.2.1 pc = .ok (.iastore, 1)) (ha : h.2 a = some (.inl (t, .inl l))) (h0 : 0 ≤ i) (hi : i.toNatClampNeg < l.length) (k : xW sc μ d kc ks (pc + 1) lv st (xu h a (.inl (t, .inl (l.set i.toNatClampNeg x)))) Q) : xW sc μ d kc ks pc lv (.int x :: .int i :: .ref a :: st) h Q := by
  intro D tys b base p l' e R s m args below meth c C H locs cells slots ls QQ hl hR hS hc hs hf hlo K
  obtain ⟨a0, hat⟩ := hR.2 a _ ha
  have hz := xty_at C.2.2.2.2.2.2.1 ht
  show W p l' e R s m args below meth c H locs cells slots QQ (F0 m pc ls (.int x :: .int i :: .ref (xad b base a) :: st.map (xv b base)))
  rw [xad_pos a0]
  have hcell : H[base + a]? = some (vp_cell (xcA tys t) (l.length, .inl (fun j => l.getD j 0))) := hat
  refine W.iast C.1 C.2.1 hcell ((C.2.2.2.2.2.1.2 t _ hz).1 l.length (fun j => .int (l.getD j 0))) (fun q => by cases q) (by show ¬ (i < 0 ∨ (arrV _ _ _).slots.size ≤ _); rw [arrV_size]; rintro (z | z) <;> first | exact absurd h0 (Int32.not_le.mpr z) | omega) rfl rfl hd fun H1 e1 z oq => ?_
  rw [xl_set hi] at e1
  exact k D tys b base p l' e R s m args below meth c C H1 _ cells slots ls QQ hl (hR.set ha e1 z oq) (hS.put z oq (by show base < base + a; omega)) hc hs hf hlo K
theorem xw_aaload {t a : Nat} {l : List (Option Nat)} {i : Int32} {r : Option Nat} {ty : FieldType} (ht : xTys[t]? = some ty) (hty : ty.isReference = true) (hd : decode μ.2.2.1 pc = .ok (.aaload, 1)) (ha : h.2 a = some (.inl (t, .inr l))) (h0 : 0 ≤ i) (hx : l[i.toNatClampNeg]? = some r) (k : xW sc μ d kc ks (pc + 1) lv (va_rf r :: st) h Q) : xW sc μ d kc ks pc lv (.int i :: .ref a :: st) h Q := by
  intro D tys b base p l' e R s m args below meth c C H locs cells slots ls QQ hl hR hS hc hs hf hlo K
  obtain ⟨a0, hat⟩ := hR.2 a _ ha
  have hlt : i.toNatClampNeg < l.length := (List.getElem?_eq_some_iff.mp hx).1
  have hz := xty_at C.2.2.2.2.2.2.1 ht
  show W p l' e R s m args below meth c H locs cells slots QQ (F0 m pc ls (.int i :: .ref (xad b base a) :: st.map (xv b base)))
  rw [xad_pos a0]
  have hcell : H[base + a]? = some (vp_cell (xcA tys t) (l.length, .inr (.inr (.inr (.inr (fun j => (l.getD j none).map (xad b base))))))) := hat
  have hx' : l.getD i.toNatClampNeg none = r := by rw [List.getD_eq_getElem?_getD, hx]; rfl
  refine W.aald (v := xv b base (va_rf r)) (ty := ty) C.1 C.2.1 hcell ((C.2.2.2.2.2.1.2 t _ hz).1 l.length (fun j => va_rf ((l.getD j none).map (xad b base)))) hty (fun q => by cases q) (by show ¬ (i < 0 ∨ (arrV _ _ _).slots.size ≤ _); rw [arrV_size]; rintro (z | z) <;> first | exact absurd h0 (Int32.not_le.mpr z) | omega) (by show (arrV _ _ _).slots[_]? = _; rw [arrV_read _ _ hlt]; show some (va_rf (Option.map (xad b base) (l.getD i.toNatClampNeg none))) = _; rw [hx']; cases r <;> rfl) rfl rfl hd ?_
  exact k D tys b base p l' e R s m args below meth c C H locs cells slots ls QQ hl hR hS hc hs hf hlo K
theorem xw_aastore {t a v ci : Nat} {l : List (Option Nat)} {i : Int32} {q : vw_C} {vs : List Value} (ht : xTys[t]? = some (.object q.1)) (hq : vwCl[ci]? = some q) (hd : decode μ.2.2.1 pc = .ok (.aastore, 1)) (ha : h.2 a = some (.inl (t, .inr l))) (hv : h.2 v = some (.inr (ci, vs))) (h0 : 0 ≤ i) (hi : i.toNatClampNeg < l.length) (k : xW sc μ d kc ks (pc + 1) lv st (xu h a (.inl (t, .inr (l.set i.toNatClampNeg (some v))))) Q) : xW sc μ d kc ks pc lv (.ref v :: .int i :: .ref a :: st) h Q := by
  intro D tys b base p l' e R s m args below meth c C H locs cells slots ls QQ hl hR hS hc hs hf hlo K
  obtain ⟨a0, hat⟩ := hR.2 a _ ha
  obtain ⟨v0, hvt⟩ := hR.2 v _ hv
  have hz := xty_at C.2.2.2.2.2.2.1 ht
  have hK := C.2.2.2.2.2.1
  show W p l' e R s m args below meth c H locs cells slots QQ (F0 m pc ls (.ref (xad b base v) :: .int i :: .ref (xad b base a) :: st.map (xv b base)))
  have hcell : H[base + a]? = some (vp_cell (xcA tys t) (l.length, .inr (.inr (.inr (.inr (fun j => (l.getD j none).map (xad b base))))))) := hat
  obtain ⟨r', hr', cellV, g1, g2, g3, -⟩ := hvt
  have hcls := (hK.1 ci q hq).2
  obtain ⟨kA, comp, k1, k2, k3, -⟩ := (hK.2 t _ hz).2
  have hcomp : comp = D.1 ci := Option.some.inj (k3.symm.trans hcls.1)
  subst hcomp
  obtain ⟨kC, hkC, -⟩ := hcls.2
  rw [xad_pos a0, xad_pos v0]
  refine W.aast C.1 C.2.1 hcell (fun q h => by cases h) (fun h => by cases h) k1 k2 rfl hkC ⟨fun z => absurd h0 (Int32.not_le.mpr z), by show _ < (arrV _ _ _).slots.size; rw [arrV_size]; exact hi⟩ g1 (fun q h => by rw [g3] at h; cases h) (by rw [g2]; exact hkC) (by rw [g2]; exact va_assign hcls) rfl rfl hd fun H1 e1 z oq => ?_
  have e2 : (Value.ref (base + v)) = va_rf ((some v).map (xad b base)) := by show Value.ref (base + v) = Value.ref (xad b base v); rw [xad_pos v0]
  rw [e2, xl_setq hi] at e1
  exact k D tys b base p l' e R s m args below meth c C H1 _ cells slots ls QQ hl (hR.set ha e1 z oq) (hS.put z oq (by show base < base + a; omega)) hc hs hf hlo K
theorem xw_ilen {t a : Nat} {l : List Int32} {v : Int32} (ht : xTys[t]? = some .int) (hd : decode μ.2.2.1 pc = .ok (.arraylength, 1)) (ha : h.2 a = some (.inl (t, .inl l))) (hv : Int32.ofNat l.length = v) (k : xW sc μ d kc ks (pc + 1) lv (.int v :: st) h Q) : xW sc μ d kc ks pc lv (.ref a :: st) h Q := by
  intro D tys b base p l' e R s m args below meth c C H locs cells slots ls QQ hl hR hS hc hs hf hlo K
  obtain ⟨a0, hat⟩ := hR.2 a _ ha
  have hz := xty_at C.2.2.2.2.2.2.1 ht
  show W p l' e R s m args below meth c H locs cells slots QQ (F0 m pc ls (.ref (xad b base a) :: st.map (xv b base)))
  rw [xad_pos a0]
  exact va_alen (D := D) (cl := vwCl) (tys := tys) (ws := [(base + a, xc tys b base (.inl (t, .inl l)))]) C.1 C.2.1 C.2.2.2.2.2.1 (xP1 hat) 0 t rfl hz hv hd (k D tys b base p l' e R s m args below meth c C H locs cells slots ls QQ hl hR hS hc hs hf hlo K)
theorem xw_alen {t a : Nat} {l : List (Option Nat)} {v : Int32} {ty : FieldType} (ht : xTys[t]? = some ty) (hd : decode μ.2.2.1 pc = .ok (.arraylength, 1)) (ha : h.2 a = some (.inl (t, .inr l))) (hv : Int32.ofNat l.length = v) (k : xW sc μ d kc ks (pc + 1) lv (.int v :: st) h Q) : xW sc μ d kc ks pc lv (.ref a :: st) h Q := by
  intro D tys b base p l' e R s m args below meth c C H locs cells slots ls QQ hl hR hS hc hs hf hlo K
  obtain ⟨a0, hat⟩ := hR.2 a _ ha
  have hz := xty_at C.2.2.2.2.2.2.1 ht
  show W p l' e R s m args below meth c H locs cells slots QQ (F0 m pc ls (.ref (xad b base a) :: st.map (xv b base)))
  rw [xad_pos a0]
  exact va_alen (D := D) (cl := vwCl) (tys := tys) (ws := [(base + a, xc tys b base (.inl (t, .inr l)))]) C.1 C.2.1 C.2.2.2.2.2.1 (xP1 hat) 0 t rfl hz hv hd (k D tys b base p l' e R s m args below meth c C H locs cells slots ls QQ hl hR hS hc hs hf hlo K)
/-- the script -/
theorem xw_sload {i x : Int32} (hd : decode μ.2.2.1 pc = .ok (.iaload, 1)) (h0 : 0 ≤ i) (hx : sc[i.toNatClampNeg]? = some x) (k : xW sc μ d kc ks (pc + 1) lv (.int x :: st) h Q) : xW sc μ d kc ks pc lv (.int i :: .ref 0 :: st) h Q := by
  intro D tys b base p l' e R s m args below meth c C H locs cells slots ls QQ hl hR hS hc hs hf hlo K
  have hlt : i.toNatClampNeg < sc.length := (List.getElem?_eq_some_iff.mp hx).1
  have hx' : sc.getD i.toNatClampNeg 0 = x := by rw [List.getD_eq_getElem?_getD, hx]; rfl
  have hbb : b < s.heap.size := by have h1 := C.2.2.2.2.2.2.2.2.2.2.1; have h2 := C.2.2.2.2.2.2.2.2.2.2.2.2.1; omega
  refine va_sld C.1 C.2.1 C.2.2.2.2.2.2.2.2.2.2.2.1 hbb (by have h2 := C.2.2.2.2.2.2.2.2.2.2.2.2.1; show ¬ base < b; omega) hS (fun z => by rcases z with z | z <;> first | exact absurd h0 (Int32.not_le.mpr z) | omega) hd ?_
  rw [hx']
  exact k D tys b base p l' e R s m args below meth c C H locs cells slots ls QQ hl hR hS hc hs hf hlo K
theorem xw_slen {v : Int32} (hd : decode μ.2.2.1 pc = .ok (.arraylength, 1)) (hv : Int32.ofNat sc.length = v) (k : xW sc μ d kc ks (pc + 1) lv (.int v :: st) h Q) : xW sc μ d kc ks pc lv (.ref 0 :: st) h Q := by
  intro D tys b base p l' e R s m args below meth c C H locs cells slots ls QQ hl hR hS hc hs hf hlo K
  have hbb : b < s.heap.size := by have h1 := C.2.2.2.2.2.2.2.2.2.2.1; have h2 := C.2.2.2.2.2.2.2.2.2.2.2.2.1; omega
  refine va_slen C.1 C.2.1 C.2.2.2.2.2.2.2.2.2.2.2.1 hbb (by have h2 := C.2.2.2.2.2.2.2.2.2.2.2.2.1; show ¬ base < b; omega) hS hd ?_
  rw [hv]
  exact k D tys b base p l' e R s m args below meth c C H locs cells slots ls QQ hl hR hS hc hs hf hlo K
theorem xw_new {index ci N : Nat} {fs : List Value} (hN : xNs μ.1 index ci N fs) (hd : decode μ.2.2.1 pc = .ok (.new index, 3)) (k : xW sc μ d kc ks (pc + 3) lv (.ref (h.1 + 1) :: st) (xn h (.inr (ci, fs))) Q) : xW sc μ d (kc + 1) (ks + N) pc lv st h Q := by
  intro D tys b base p l e R s m args below meth c C H locs cells slots ls QQ hl hR hS hc hs hf hlo K
  obtain ⟨C', T, ty0, hcl, hin, hty, hlk, hins, hini, hfs⟩ := hN
  have hts := C.2.2.2.2.1
  have hKn := C.2.2.2.2.2.1.1 ci _ hcl
  refine W.newcK C.1 C.2.1 C.2.2.2.1 (hts _ hlk) (hts _ hins) (hts _ hini) rfl hd (by omega) (by omega) hKn.2.1 rfl fun H1 kC hkC e1 z1 o1 => ?_
  have hnew := hR.new
  have e2 : Value.ref H.size = xv b base (.ref (h.1 + 1)) := by show _ = Value.ref (xad b base (h.1 + 1)); rw [xad_pos (Nat.succ_pos _), hnew]
  have hat : va_at D vwCl (base + (h.1 + 1), xc tys b base (.inr (ci, fs))) H1 := by
    rw [hnew]
    exact ⟨_, hcl, (u_born ty0 hts hin hKn hkC e1 hty).to (fun j hj => hfs j hj b base)⟩
  show W p l e R s m args below meth c H1 locs (cells + 1) (slots + N) QQ (F0 m (pc + 3) ls (.ref H.size :: st.map (xv b base)))
  rw [e2]
  exact k D tys b base p l e R s m args below meth c C H1 locs (cells + 1) (slots + N) ls QQ hl (hR.push z1 o1 hat) ⟨Nat.le_trans hS.1 (by omega), fun x h1 h2 => (o1 x (Nat.lt_of_lt_of_le h1 hS.1)).trans (hS.2.1 x h1 h2), hS.2.2⟩ (by omega) (by omega) hf hlo K
theorem xw_newarray {t N : Nat} {n : Int32} (ht : xTys[t]? = some .int) (hw : Cond.arrayClass .int ∈ xT) (hd : decode μ.2.2.1 pc = .ok (.newarray .int, 2)) (h0 : ¬ n < 0) (hN : n.toNatClampNeg = N) (hb : N ≤ 1000000) (k : xW sc μ d kc ks (pc + 2) lv (.ref (h.1 + 1) :: st) (xn h (.inl (t, .inl (List.replicate N 0)))) Q) : xW sc μ d (kc + 1) (ks + N) pc lv (.int n :: st) h Q := by
  intro D tys b base p l e R s m args below meth c C H locs cells slots ls QQ hl hR hS hc hs hf hlo K
  have hts := C.2.2.2.2.1
  have hz := xty_at C.2.2.2.2.2.2.1 ht
  refine va_newaK (atype := .int) C.1 C.2.1 (hts _ hw) rfl hd rfl h0 hN (by show N * 4 ≤ _; omega) (by omega) (by omega) rfl fun H1 cA e1 z1 o1 hAr hNm => ?_
  have hnew := hR.new
  have hRA : s.vm.findClass ("[" ++ FieldType.int.toString) = some (xcA tys t) := (C.2.2.2.2.2.1.2 t _ hz).2
  have hcA : cA = xcA tys t := Option.some.inj (hNm.symm.trans hRA)
  have e2 : Value.ref H.size = xv b base (.ref (h.1 + 1)) := by show _ = Value.ref (xad b base (h.1 + 1)); rw [xad_pos (Nat.succ_pos _), hnew]
  have hat : va_at D vwCl (base + (h.1 + 1), xc tys b base (.inl (t, .inl (List.replicate N 0)))) H1 := by
    rw [hnew]
    show H1[H.size]? = some (vp_cell (xcA tys t) ((List.replicate N (0 : Int32)).length, .inl (fun j => (List.replicate N (0 : Int32)).getD j 0)))
    rw [e1, hcA, vp_cell_i, List.length_replicate]
    congr 2
    funext j
    have : (List.replicate N (0 : Int32)).getD j 0 = 0 := by
      rw [List.getD_eq_getElem?_getD, List.getElem?_replicate]
      split <;> rfl
    rw [this]
    rfl
  show W p l e R s m args below meth c H1 locs (cells + 1) (slots + N) QQ (F0 m (pc + 2) ls (.ref H.size :: st.map (xv b base)))
  rw [e2]
  exact k D tys b base p l e R s m args below meth c C H1 locs (cells + 1) (slots + N) ls QQ hl (hR.push z1 o1 hat) ⟨Nat.le_trans hS.1 (by omega), fun x h1 h2 => (o1 x (Nat.lt_of_lt_of_le h1 hS.1)).trans (hS.2.1 x h1 h2), hS.2.2⟩ (by omega) (by omega) hf hlo K
theorem xw_anewarray {t N index : Nat} {C' : String} {n : Int32} (ht : xTys[t]? = some (.object C')) (hw : Cond.classLink μ.1 index C' ∈ xT) (hw2 : Cond.arrayOver (.object C') ∈ xU) (hd : decode μ.2.2.1 pc = .ok (.anewarray index, 3)) (h0 : ¬ n < 0) (hN : n.toNatClampNeg = N) (hb : N ≤ 1000000) (k : xW sc μ d kc ks (pc + 3) lv (.ref (h.1 + 1) :: st) (xn h (.inl (t, .inr (List.replicate N none)))) Q) : xW sc μ d (kc + 1) (ks + N) pc lv (.int n :: st) h Q := by
  intro D tys b base p l e R s m args below meth c C H locs cells slots ls QQ hl hR hS hc hs hf hlo K
  have hts := C.2.2.2.2.1
  have hz := xty_at C.2.2.2.2.2.2.1 ht
  subst hN
  refine W.anew C.1 C.2.1 C.2.2.2.1 (hts _ hw) (va_AO.use (C.2.2.2.2.2.2.2.2.2.2.2.2.2 _ hw2)) rfl hd rfl h0 (by omega) (by omega) (by omega) fun cA kA comp f1 f2 f3 f4 => ?_
  have hnew := hR.new
  obtain ⟨-, -, -, -, -, hRA⟩ := (C.2.2.2.2.2.1.2 t _ hz).2
  have hcA : cA = xcA tys t := Option.some.inj (f1.symm.trans hRA)
  have e2 : Value.ref H.size = xv b base (.ref (h.1 + 1)) := by show _ = Value.ref (xad b base (h.1 + 1)); rw [xad_pos (Nat.succ_pos _), hnew]
  generalize hH1 : H.push ({ cls := cA, slots := Array.replicate n.toNatClampNeg .null, vm := .none } : Cell) = H1
  have z1 : H1.size = H.size + 1 := by rw [← hH1, Array.size_push]
  have e1 : H1[H.size]? = some (arrV cA n.toNatClampNeg (fun _ => .null)) := by rw [← hH1, Array.getElem?_push_size, ← arrV_new]
  have o1 : ∀ q : Nat, q < H.size → H1[q]? = H[q]? := fun q hq => by rw [← hH1, Array.getElem?_push, if_neg (Nat.ne_of_lt hq)]
  have hat : va_at D vwCl (base + (h.1 + 1), xc tys b base (.inl (t, .inr (List.replicate n.toNatClampNeg none)))) H1 := by
    rw [hnew]
    show H1[H.size]? = some (vp_cell (xcA tys t) ((List.replicate n.toNatClampNeg (none : Option Nat)).length, .inr (.inr (.inr (.inr (fun j => ((List.replicate n.toNatClampNeg (none : Option Nat)).getD j none).map (xad b base)))))))
    rw [e1, hcA, vp_cell_q, List.length_replicate]
    congr 2
    funext j
    have : (List.replicate n.toNatClampNeg (none : Option Nat)).getD j none = none := by
      rw [List.getD_eq_getElem?_getD, List.getElem?_replicate]
      split <;> rfl
    rw [this]
    rfl
  show W p l e R s m args below meth c H1 locs (cells + 1) (slots + n.toNatClampNeg) QQ (F0 m (pc + 3) ls (.ref H.size :: st.map (xv b base)))
  rw [e2]
  exact k D tys b base p l e R s m args below meth c C H1 locs (cells + 1) (slots + n.toNatClampNeg) ls QQ hl (hR.push z1 o1 hat) ⟨Nat.le_trans hS.1 (by omega), fun x h1 h2 => (o1 x (Nat.lt_of_lt_of_le h1 hS.1)).trans (hS.2.1 x h1 h2), hS.2.2⟩ (by omega) (by omega) hf hlo K
end XH
