/-! reading a field, also a final one of another class -/
theorem xw_getr {sc : List Int32} {μ : xM} {d kc ks pc : Nat} {lv : List (Option Value)} {st : List Value} {h : xH} {Q : Option Value → xH → Prop} {index ci i a : Nat} {fs : List Value} {v : Value} (hF : xFr μ.1 index ci i) (hd : decode μ.2.2.1 pc = .ok (.getfield index, 3)) (ha : h.2 a = some (.inr (ci, fs))) (hv : fs[i]? = some v) (k : xW sc μ d kc ks (pc + 3) lv (v :: st) h Q) : xW sc μ d kc ks pc lv (.ref a :: st) h Q := by
  intro D tys b base p l e R s m args below meth c C H locs cells slots ls QQ hl hR hS hc hs hf hlo K
  obtain ⟨C', T, N, ty0, hcl, hin, hty, hnm, hk, hlink⟩ := hF
  obtain ⟨a0, hat⟩ := hR.2 a _ ha
  show W p l e R s m args below meth c H locs cells slots QQ (F0 m pc ls (.ref (xad b base a) :: st.map (xv b base)))
  rw [xad_pos a0]
  refine va_get (D := D) (tys := tys) (ws := [(base + a, xc tys b base (.inr (ci, fs)))]) C.1 C.2.1 C.2.2.2.2.1 hin C.2.2.2.1 C.2.2.2.2.2.1 (xP1 hat) 0 rfl hcl i hk (C.2.2.2.2.1 _ hlink) (fun _ z => z) (v := xv b base v) ?_ hd ?_
  · rw [List.getElem?_map, hv]; rfl
  · exact k D tys b base p l e R s m args below meth c C H locs cells slots ls QQ hl hR hS hc hs hf hlo K
theorem xw_ldcw {sc : List Int32} {μ : xM} {d kc ks pc : Nat} {lv : List (Option Value)} {st : List Value} {h : xH} {Q : Option Value → xH → Prop} {index : Nat} {v : Int32} (hO : Cond.constant μ.1 index v ∈ xT) (hd : decode μ.2.2.1 pc = .ok (.ldc_w index, 3)) (k : xW sc μ d kc ks (pc + 3) lv (.int v :: st) h Q) : xW sc μ d kc ks pc lv st h Q := by
  intro D tys b base p l e R s m args below meth c C H locs cells slots ls QQ hl hR hS hc hs hf hlo K
  exact lv_ldcw C.1 C.2.1 C.2.2.2.1 (C.2.2.2.2.1 _ hO) hd (k D tys b base p l e R s m args below meth c C H locs cells slots ls QQ hl hR hS hc hs hf hlo K)
