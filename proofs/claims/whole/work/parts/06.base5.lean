/-! System.arraycopy between arrays of ints -/
theorem arrV_cg {cI : ClassId} {N : Nat} {f g : Nat → Value} (h : ∀ j, j < N → f j = g j) : arrV cI N f = arrV cI N g := by
  unfold arrV
  congr 1
  apply Array.ext
  · simp
  · intro i h1 h2
    have hi : i < N := by simpa using h1
    simp [h i hi]
def xcp (l0 l1 : List Int32) (sp dp n : Nat) : List Int32 := (List.range l1.length).map (va_cpy (fun j => l0.getD j 0) (fun j => l1.getD j 0) sp dp n)
theorem xcp_all {l0 l1 : List Int32} {n : Nat} (h0 : l0.length = n) (h1 : l1.length = n) : xcp l0 l1 0 0 n = l0 := by
  apply List.ext_getElem
  · simp [xcp, h0, h1]
  · intro i h2 h3
    have hi : i < n := by omega
    simp [xcp, va_cpy, hi, List.getD_eq_getElem?_getD, h3]
section XA
variable {sc : List Int32} {μ : xM} {d kc ks pc : Nat} {lv : List (Option Value)} {st : List Value} {h : xH} {Q : Option Value → xH → Prop}
theorem xw_copy {index t a0 a : Nat} {l0 l1 : List Int32} {sp dp n : Int32} (ht : xTys[t]? = some .int) (hO : xAc μ.1 index) (hd : decode μ.2.2.1 pc = .ok (.invokestatic index, 3)) (hdd : 1 ≤ d) (ha0 : h.2 a0 = some (.inl (t, .inl l0))) (ha : h.2 a = some (.inl (t, .inl l1))) (h1 : ¬ sp < 0) (h2 : ¬ dp < 0) (h3 : ¬ n < 0) (h4 : sp.toNatClampNeg + n.toNatClampNeg ≤ l0.length) (h5 : dp.toNatClampNeg + n.toNatClampNeg ≤ l1.length) (hst : (st.map fun v => v.category).sum ≤ 8)
    (k : xW sc μ d kc ks (pc + 3) lv st (xu h a (.inl (t, .inl (xcp l0 l1 sp.toNatClampNeg dp.toNatClampNeg n.toNatClampNeg)))) Q) : xW sc μ d kc ks pc lv (.int n :: .int dp :: .ref a :: .int sp :: .ref a0 :: st) h Q := by
  intro D tys b base p l e R s m args below meth c C H locs cells slots ls QQ hl hR hS hc hs hf hlo K
  obtain ⟨w1, w2, w3, w4⟩ := hO
  have hts := C.2.2.2.2.1
  have hlo' : 40 * d ≤ R.locals := hlo
  have hz := xty_at C.2.2.2.2.2.2.1 ht
  obtain ⟨p0, hat0⟩ := hR.2 a0 _ ha0
  obtain ⟨p1, hat1⟩ := hR.2 a _ ha
  have nn : ∀ z : Int32, ¬ z < 0 → z.toInt = (z.toNatClampNeg : Int) := by
    intro z hz
    have hz0 : (0 : Int) ≤ z.toInt := by
      have := Int32.not_lt.mp hz
      simpa using Int32.le_iff_toInt_le.mp this
    show z.toInt = ((z.toInt.toNat : Nat) : Int)
    omega
  show W p l e R s m args below meth c H locs cells slots QQ (F0 m pc ls (.int n :: .int dp :: .ref (xad b base a) :: .int sp :: .ref (xad b base a0) :: st.map (xv b base)))
  rw [xad_pos p0, xad_pos p1]
  intro T hT X
  have hc0 : H[base + a0]? = some (vp_cell (xcA tys t) (l0.length, .inl (fun j => l0.getD j 0))) := hat0
  have hc1 : H[base + a]? = some (vp_cell (xcA tys t) (l1.length, .inl (fun j => l1.getD j 0))) := hat1
  obtain ⟨-, k0, hk0, cm0, hkk0⟩ := (C.2.2.2.2.2.1.2 t _ hz).1 l0.length (fun j => .int (l0.getD j 0))
  obtain ⟨vm', X', step⟩ := X.arraycopy C.1 C.2.2.2.1 (hts _ w1) (hts _ w2) (hts _ w3) (hts _ w4) (src := base + a0) (dst := base + a) (cs := vp_cell (xcA tys t) (l0.length, .inl (fun j => l0.getD j 0))) (cd := vp_cell (xcA tys t) (l1.length, .inl (fun j => l1.getD j 0))) (srcPos := sp) (destPos := dp) (n := n) (by rw [hT]; exact hc0) (by rw [hT]; exact hc1)
    (fun _ h => by cases h) (fun _ h => by cases h) (fun h => by cases h) (fun h => by cases h) hk0 hk0 hkk0 hkk0 rfl h1 h2 h3
    (by rw [nn sp h1, nn n h3]; show ¬ _ > ((arrV (xcA tys t) l0.length (fun j => .int (l0.getD j 0))).slots.size : Int); rw [arrV_size]; omega)
    (by rw [nn dp h2, nn n h3]; show ¬ _ > ((arrV (xcA tys t) l1.length (fun j => .int (l1.getD j 0))).slots.size : Int); rw [arrV_size]; omega)
    (fun vm₁ _ i hi => by
      have e : (vp_cell (xcA tys t) (l0.length, .inl (fun j => l0.getD j 0))).slots.getD (sp.toNatClampNeg + i) .null = .int (l0.getD (sp.toNatClampNeg + i) 0) := by
        show (arrV (xcA tys t) l0.length (fun j => .int (l0.getD j 0))).slots.getD _ _ = _
        rw [Array.getD_eq_getD_getElem?, arrV_read _ _ (by omega)]
        rfl
      refine ⟨?_, ?_⟩
      · rw [e]
        rfl
      · rw [e]
        exact trivial)
    (g := F0 m pc ls (.int n :: .int dp :: .ref (base + a) :: .int sp :: .ref (base + a0) :: st.map (xv b base))) rfl ((hl.1.1.1.trans hl.2).trans C.2.2.1.symm) (rest := st.map (xv b base)) rfl (by rw [C.2.1]; exact hd) (by omega) (by rw [xv_sum]; show 2 * 0 + _ + (7 + 11) ≤ _; omega)
  have e1 : copied (vp_cell (xcA tys t) (l0.length, .inl (fun j => l0.getD j 0))) (vp_cell (xcA tys t) (l1.length, .inl (fun j => l1.getD j 0))) sp dp n = vp_cell (xcA tys t) ((xcp l0 l1 sp.toNatClampNeg dp.toNatClampNeg n.toNatClampNeg).length, .inl (fun j => (xcp l0 l1 sp.toNatClampNeg dp.toNatClampNeg n.toNatClampNeg).getD j 0)) := by
    refine (va_copied (fun z => .int z) (xcA tys t) (xcA tys t) (fun j => l0.getD j 0) (fun j => l1.getD j 0) h4).trans ?_
    have hlen : (xcp l0 l1 sp.toNatClampNeg dp.toNatClampNeg n.toNatClampNeg).length = l1.length := by simp [xcp]
    rw [vp_cell_i, hlen]
    apply arrV_cg
    intro j hj
    have : (xcp l0 l1 sp.toNatClampNeg dp.toNatClampNeg n.toNatClampNeg).getD j 0 = va_cpy (fun j => l0.getD j 0) (fun j => l1.getD j 0) sp.toNatClampNeg dp.toNatClampNeg n.toNatClampNeg j := by
      rw [List.getD_eq_getElem?_getD, xcp, List.getElem?_map, List.getElem?_range hj]
      rfl
    rw [this]
  rw [e1] at X' step
  have hlh : base + a < H.size := (Array.getElem?_eq_some_iff.mp hc1).1
  generalize hcell : vp_cell (xcA tys t) ((xcp l0 l1 sp.toNatClampNeg dp.toNatClampNeg n.toNatClampNeg).length, .inl (fun j => (xcp l0 l1 sp.toNatClampNeg dp.toNatClampNeg n.toNatClampNeg).getD j 0)) = cell at X' step
  have hheap : ((T.setVm vm').setCell (base + a) cell).heap = H.setIfInBounds (base + a) cell := by rw [← hT]; rfl
  have oq : ∀ q : Nat, q ≠ base + a → (H.setIfInBounds (base + a) cell)[q]? = H[q]? := fun q hq => by simp [Array.getElem?_setIfInBounds, Ne.symm hq]
  have hself : (H.setIfInBounds (base + a) cell)[base + a]? = some cell := by simp [Array.getElem?_setIfInBounds, hlh]
  obtain ⟨t', a1, b1⟩ := k D tys b base p l e R s m args below meth c C (H.setIfInBounds (base + a) cell) _ cells slots ls QQ hl (hR.set ha (by show (H.setIfInBounds (base + a) cell)[base + a]? = some (vp_cell _ _); rw [hself, ← hcell]) (by simp) oq) ⟨by simp; exact hS.1, fun q g1 g2 => by
      rw [oq q (fun z => g2 (by rw [z]; show base < base + a; omega))]
      exact hS.2.1 q g1 g2, fun q hq => by
      rcases List.mem_append.mp hq with h | h
      · exact hS.2.2 q h
      · obtain ⟨z, -, hz⟩ := List.mem_map.mp h
        rw [← hz]
        show base < base + a
        omega⟩ hc hs hf hlo K _ hheap X'
  exact ⟨t', step t' a1, b1⟩
end XA
