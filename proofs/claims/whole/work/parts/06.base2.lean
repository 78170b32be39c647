section XW
variable {sc : List Int32} {μ : xM} {d kc ks pc : Nat} {lv : List (Option Value)} {st : List Value} {h : xH} {Q : Option Value → xH → Prop}
theorem xw_iconst {n : Int} {v : Int32} (hd : decode μ.2.2.1 pc = .ok (.iconst n, 1)) (hv : Int32.ofInt n = v) (k : xW sc μ d kc ks (pc + 1) lv (.int v :: st) h Q) : xW sc μ d kc ks pc lv (st) h Q := by
  intro D tys b base p l e R s m args below meth c C H locs cells slots ls QQ hl hR hS hc hs hf hlo K
  exact lv_iconst C.1 C.2.1 hd hv (k D tys b base p l e R s m args below meth c C H locs cells slots ls QQ hl hR hS hc hs hf hlo K)
theorem xw_bipush {n : Int} {v : Int32} (hd : decode μ.2.2.1 pc = .ok (.bipush n, 2)) (hv : (Int8.ofInt n).toInt32 = v) (k : xW sc μ d kc ks (pc + 2) lv (.int v :: st) h Q) : xW sc μ d kc ks pc lv (st) h Q := by
  intro D tys b base p l e R s m args below meth c C H locs cells slots ls QQ hl hR hS hc hs hf hlo K
  exact lv_bipush C.1 C.2.1 hd hv (k D tys b base p l e R s m args below meth c C H locs cells slots ls QQ hl hR hS hc hs hf hlo K)
theorem xw_sipush {n : Int} {v : Int32} (hd : decode μ.2.2.1 pc = .ok (.sipush n, 3)) (hv : (Int16.ofInt n).toInt32 = v) (k : xW sc μ d kc ks (pc + 3) lv (.int v :: st) h Q) : xW sc μ d kc ks pc lv (st) h Q := by
  intro D tys b base p l e R s m args below meth c C H locs cells slots ls QQ hl hR hS hc hs hf hlo K
  exact lv_sipush C.1 C.2.1 hd hv (k D tys b base p l e R s m args below meth c C H locs cells slots ls QQ hl hR hS hc hs hf hlo K)
theorem xw_null  (hd : decode μ.2.2.1 pc = .ok (.aconst_null, 1))  (k : xW sc μ d kc ks (pc + 1) lv (.null :: st) h Q) : xW sc μ d kc ks pc lv (st) h Q := by
  intro D tys b base p l e R s m args below meth c C H locs cells slots ls QQ hl hR hS hc hs hf hlo K
  exact lv_null C.1 C.2.1 hd (k D tys b base p l e R s m args below meth c C H locs cells slots ls QQ hl hR hS hc hs hf hlo K)
theorem xw_iload_n {i : Fin 4} {j : Nat} {x : Int32} (hd : decode μ.2.2.1 pc = .ok (.iload_n i, 1)) (hi : (i : Nat) = j) (hx : lv[j]? = some (some (.int x))) (k : xW sc μ d kc ks (pc + 1) lv (.int x :: st) h Q) : xW sc μ d kc ks pc lv (st) h Q := by
  intro D tys b base p l e R s m args below meth c C H locs cells slots ls QQ hl hR hS hc hs hf hlo K
  exact lv_iload_n C.1 C.2.1 hd hi (hl.1.at hx) (k D tys b base p l e R s m args below meth c C H locs cells slots ls QQ hl hR hS hc hs hf hlo K)
theorem xw_iload {j : Nat} {x : Int32} (hd : decode μ.2.2.1 pc = .ok (.iload j, 2)) (hx : lv[j]? = some (some (.int x))) (k : xW sc μ d kc ks (pc + 2) lv (.int x :: st) h Q) : xW sc μ d kc ks pc lv (st) h Q := by
  intro D tys b base p l e R s m args below meth c C H locs cells slots ls QQ hl hR hS hc hs hf hlo K
  exact lv_iload C.1 C.2.1 hd (hl.1.at hx) (k D tys b base p l e R s m args below meth c C H locs cells slots ls QQ hl hR hS hc hs hf hlo K)
theorem xw_aload_n {i : Fin 4} {j a : Nat} (hd : decode μ.2.2.1 pc = .ok (.aload_n i, 1)) (hi : (i : Nat) = j) (hx : lv[j]? = some (some (.ref a))) (k : xW sc μ d kc ks (pc + 1) lv (.ref a :: st) h Q) : xW sc μ d kc ks pc lv (st) h Q := by
  intro D tys b base p l e R s m args below meth c C H locs cells slots ls QQ hl hR hS hc hs hf hlo K
  exact lv_aload_n C.1 C.2.1 hd hi (hl.1.at hx) (k D tys b base p l e R s m args below meth c C H locs cells slots ls QQ hl hR hS hc hs hf hlo K)
theorem xw_aload {j a : Nat} (hd : decode μ.2.2.1 pc = .ok (.aload j, 2)) (hx : lv[j]? = some (some (.ref a))) (k : xW sc μ d kc ks (pc + 2) lv (.ref a :: st) h Q) : xW sc μ d kc ks pc lv (st) h Q := by
  intro D tys b base p l e R s m args below meth c C H locs cells slots ls QQ hl hR hS hc hs hf hlo K
  exact lv_aload C.1 C.2.1 hd (hl.1.at hx) (k D tys b base p l e R s m args below meth c C H locs cells slots ls QQ hl hR hS hc hs hf hlo K)
theorem xw_aload_nN {i : Fin 4} {j : Nat} (hd : decode μ.2.2.1 pc = .ok (.aload_n i, 1)) (hi : (i : Nat) = j) (hx : lv[j]? = some (some .null)) (k : xW sc μ d kc ks (pc + 1) lv (.null :: st) h Q) : xW sc μ d kc ks pc lv (st) h Q := by
  intro D tys b base p l e R s m args below meth c C H locs cells slots ls QQ hl hR hS hc hs hf hlo K
  exact lv_aload_nN C.1 C.2.1 hd hi (hl.1.at hx) (k D tys b base p l e R s m args below meth c C H locs cells slots ls QQ hl hR hS hc hs hf hlo K)
theorem xw_aloadN {j : Nat} (hd : decode μ.2.2.1 pc = .ok (.aload j, 2)) (hx : lv[j]? = some (some .null)) (k : xW sc μ d kc ks (pc + 2) lv (.null :: st) h Q) : xW sc μ d kc ks pc lv (st) h Q := by
  intro D tys b base p l e R s m args below meth c C H locs cells slots ls QQ hl hR hS hc hs hf hlo K
  exact lv_aloadN C.1 C.2.1 hd (hl.1.at hx) (k D tys b base p l e R s m args below meth c C H locs cells slots ls QQ hl hR hS hc hs hf hlo K)
theorem xw_iadd {x y : Int32} (hd : decode μ.2.2.1 pc = .ok (.iadd, 1))  (k : xW sc μ d kc ks (pc + 1) lv (.int (x + y) :: st) h Q) : xW sc μ d kc ks pc lv (.int y :: .int x :: st) h Q := by
  intro D tys b base p l e R s m args below meth c C H locs cells slots ls QQ hl hR hS hc hs hf hlo K
  exact lv_iadd C.1 C.2.1 hd (k D tys b base p l e R s m args below meth c C H locs cells slots ls QQ hl hR hS hc hs hf hlo K)
theorem xw_isub {x y : Int32} (hd : decode μ.2.2.1 pc = .ok (.isub, 1))  (k : xW sc μ d kc ks (pc + 1) lv (.int (x - y) :: st) h Q) : xW sc μ d kc ks pc lv (.int y :: .int x :: st) h Q := by
  intro D tys b base p l e R s m args below meth c C H locs cells slots ls QQ hl hR hS hc hs hf hlo K
  exact lv_isub C.1 C.2.1 hd (k D tys b base p l e R s m args below meth c C H locs cells slots ls QQ hl hR hS hc hs hf hlo K)
theorem xw_imul {x y : Int32} (hd : decode μ.2.2.1 pc = .ok (.imul, 1))  (k : xW sc μ d kc ks (pc + 1) lv (.int (x * y) :: st) h Q) : xW sc μ d kc ks pc lv (.int y :: .int x :: st) h Q := by
  intro D tys b base p l e R s m args below meth c C H locs cells slots ls QQ hl hR hS hc hs hf hlo K
  exact lv_imul C.1 C.2.1 hd (k D tys b base p l e R s m args below meth c C H locs cells slots ls QQ hl hR hS hc hs hf hlo K)
theorem xw_iand {x y : Int32} (hd : decode μ.2.2.1 pc = .ok (.iand, 1))  (k : xW sc μ d kc ks (pc + 1) lv (.int (x &&& y) :: st) h Q) : xW sc μ d kc ks pc lv (.int y :: .int x :: st) h Q := by
  intro D tys b base p l e R s m args below meth c C H locs cells slots ls QQ hl hR hS hc hs hf hlo K
  exact lv_iand C.1 C.2.1 hd (k D tys b base p l e R s m args below meth c C H locs cells slots ls QQ hl hR hS hc hs hf hlo K)
theorem xw_ior {x y : Int32} (hd : decode μ.2.2.1 pc = .ok (.ior, 1))  (k : xW sc μ d kc ks (pc + 1) lv (.int (x ||| y) :: st) h Q) : xW sc μ d kc ks pc lv (.int y :: .int x :: st) h Q := by
  intro D tys b base p l e R s m args below meth c C H locs cells slots ls QQ hl hR hS hc hs hf hlo K
  exact lv_ior C.1 C.2.1 hd (k D tys b base p l e R s m args below meth c C H locs cells slots ls QQ hl hR hS hc hs hf hlo K)
theorem xw_ixor {x y : Int32} (hd : decode μ.2.2.1 pc = .ok (.ixor, 1))  (k : xW sc μ d kc ks (pc + 1) lv (.int (x ^^^ y) :: st) h Q) : xW sc μ d kc ks pc lv (.int y :: .int x :: st) h Q := by
  intro D tys b base p l e R s m args below meth c C H locs cells slots ls QQ hl hR hS hc hs hf hlo K
  exact lv_ixor C.1 C.2.1 hd (k D tys b base p l e R s m args below meth c C H locs cells slots ls QQ hl hR hS hc hs hf hlo K)
theorem xw_ishl {x y : Int32} (hd : decode μ.2.2.1 pc = .ok (.ishl, 1))  (k : xW sc μ d kc ks (pc + 1) lv (.int (x <<< (y &&& 31)) :: st) h Q) : xW sc μ d kc ks pc lv (.int y :: .int x :: st) h Q := by
  intro D tys b base p l e R s m args below meth c C H locs cells slots ls QQ hl hR hS hc hs hf hlo K
  exact lv_ishl C.1 C.2.1 hd (k D tys b base p l e R s m args below meth c C H locs cells slots ls QQ hl hR hS hc hs hf hlo K)
theorem xw_ishr {x y : Int32} (hd : decode μ.2.2.1 pc = .ok (.ishr, 1))  (k : xW sc μ d kc ks (pc + 1) lv (.int (x >>> (y &&& 31)) :: st) h Q) : xW sc μ d kc ks pc lv (.int y :: .int x :: st) h Q := by
  intro D tys b base p l e R s m args below meth c C H locs cells slots ls QQ hl hR hS hc hs hf hlo K
  exact lv_ishr C.1 C.2.1 hd (k D tys b base p l e R s m args below meth c C H locs cells slots ls QQ hl hR hS hc hs hf hlo K)
theorem xw_iushr {x y v : Int32} (hd : decode μ.2.2.1 pc = .ok (.iushr, 1)) (hv : (x.toUInt32 >>> (y.toUInt32 &&& Int32.toUInt32 31)).toInt32 = v) (k : xW sc μ d kc ks (pc + 1) lv (.int v :: st) h Q) : xW sc μ d kc ks pc lv (.int y :: .int x :: st) h Q := by
  intro D tys b base p l e R s m args below meth c C H locs cells slots ls QQ hl hR hS hc hs hf hlo K
  exact lv_iushr C.1 C.2.1 hd hv (k D tys b base p l e R s m args below meth c C H locs cells slots ls QQ hl hR hS hc hs hf hlo K)
theorem xw_idiv {x y : Int32} (hd : decode μ.2.2.1 pc = .ok (.idiv, 1)) (hne : ¬ y = 0) (k : xW sc μ d kc ks (pc + 1) lv (.int (x / y) :: st) h Q) : xW sc μ d kc ks pc lv (.int y :: .int x :: st) h Q := by
  intro D tys b base p l e R s m args below meth c C H locs cells slots ls QQ hl hR hS hc hs hf hlo K
  exact lv_idiv C.1 C.2.1 hd hne (k D tys b base p l e R s m args below meth c C H locs cells slots ls QQ hl hR hS hc hs hf hlo K)
theorem xw_irem {x y : Int32} (hd : decode μ.2.2.1 pc = .ok (.irem, 1)) (hne : ¬ y = 0) (k : xW sc μ d kc ks (pc + 1) lv (.int (x - x / y * y) :: st) h Q) : xW sc μ d kc ks pc lv (.int y :: .int x :: st) h Q := by
  intro D tys b base p l e R s m args below meth c C H locs cells slots ls QQ hl hR hS hc hs hf hlo K
  exact lv_irem C.1 C.2.1 hd hne (k D tys b base p l e R s m args below meth c C H locs cells slots ls QQ hl hR hS hc hs hf hlo K)
theorem xw_ineg {x : Int32} (hd : decode μ.2.2.1 pc = .ok (.ineg, 1))  (k : xW sc μ d kc ks (pc + 1) lv (.int (-x) :: st) h Q) : xW sc μ d kc ks pc lv (.int x :: st) h Q := by
  intro D tys b base p l e R s m args below meth c C H locs cells slots ls QQ hl hR hS hc hs hf hlo K
  exact lv_ineg C.1 C.2.1 hd (k D tys b base p l e R s m args below meth c C H locs cells slots ls QQ hl hR hS hc hs hf hlo K)
theorem xw_dup {v : Value} (hd : decode μ.2.2.1 pc = .ok (.dup, 1)) (hv : v.category = 1) (k : xW sc μ d kc ks (pc + 1) lv (v :: v :: st) h Q) : xW sc μ d kc ks pc lv (v :: st) h Q := by
  intro D tys b base p l e R s m args below meth c C H locs cells slots ls QQ hl hR hS hc hs hf hlo K
  exact lv_dup C.1 C.2.1 hd ((xv_cat b base v).trans hv) (k D tys b base p l e R s m args below meth c C H locs cells slots ls QQ hl hR hS hc hs hf hlo K)
theorem xw_pop {v : Value} (hd : decode μ.2.2.1 pc = .ok (.pop, 1)) (hv : v.category = 1) (k : xW sc μ d kc ks (pc + 1) lv (st) h Q) : xW sc μ d kc ks pc lv (v :: st) h Q := by
  intro D tys b base p l e R s m args below meth c C H locs cells slots ls QQ hl hR hS hc hs hf hlo K
  exact lv_pop C.1 C.2.1 hd ((xv_cat b base v).trans hv) (k D tys b base p l e R s m args below meth c C H locs cells slots ls QQ hl hR hS hc hs hf hlo K)
theorem xw_dup_x1 {v w : Value} (hd : decode μ.2.2.1 pc = .ok (.dup_x1, 1)) (hv : v.category = 1) (hw : w.category = 1) (k : xW sc μ d kc ks (pc + 1) lv (v :: w :: v :: st) h Q) : xW sc μ d kc ks pc lv (v :: w :: st) h Q := by
  intro D tys b base p l e R s m args below meth c C H locs cells slots ls QQ hl hR hS hc hs hf hlo K
  exact lv_dup_x1 C.1 C.2.1 hd ((xv_cat b base v).trans hv) ((xv_cat b base w).trans hw) (k D tys b base p l e R s m args below meth c C H locs cells slots ls QQ hl hR hS hc hs hf hlo K)
theorem xw_dup_x2 {v w z : Value} (hd : decode μ.2.2.1 pc = .ok (.dup_x2, 1)) (hv : v.category = 1) (hw : w.category = 1) (hz : z.category = 1) (k : xW sc μ d kc ks (pc + 1) lv (v :: w :: z :: v :: st) h Q) : xW sc μ d kc ks pc lv (v :: w :: z :: st) h Q := by
  intro D tys b base p l e R s m args below meth c C H locs cells slots ls QQ hl hR hS hc hs hf hlo K
  exact lv_dup_x2 C.1 C.2.1 hd ((xv_cat b base v).trans hv) ((xv_cat b base w).trans hw) ((xv_cat b base z).trans hz) (k D tys b base p l e R s m args below meth c C H locs cells slots ls QQ hl hR hS hc hs hf hlo K)
theorem xw_dup2 {v w : Value} (hd : decode μ.2.2.1 pc = .ok (.dup2, 1)) (hv : v.category = 1) (hw : w.category = 1) (k : xW sc μ d kc ks (pc + 1) lv (v :: w :: v :: w :: st) h Q) : xW sc μ d kc ks pc lv (v :: w :: st) h Q := by
  intro D tys b base p l e R s m args below meth c C H locs cells slots ls QQ hl hR hS hc hs hf hlo K
  exact lv_dup2_11 C.1 C.2.1 hd ((xv_cat b base v).trans hv) ((xv_cat b base w).trans hw) (k D tys b base p l e R s m args below meth c C H locs cells slots ls QQ hl hR hS hc hs hf hlo K)
theorem xw_istore_n {i : Fin 4} {j : Nat} {x : Int32} (hd : decode μ.2.2.1 pc = .ok (.istore_n i, 1)) (hi : (i : Nat) = j) (hlt : j < lv.length) (k : xW sc μ d kc ks (pc + 1) (lv.set j (some (.int x))) st h Q) : xW sc μ d kc ks pc lv (.int x :: st) h Q := by
  intro D tys b base p l e R s m args below meth c C H locs cells slots ls QQ hl hR hS hc hs hf hlo K
  exact lv_istore_n C.1 C.2.1 hd hi hl.1.1 hlt rfl (fun ls' hl' => k D tys b base p l e R s m args below meth c C H locs cells slots ls' QQ ⟨hl.1.set hlt rfl hl', by rw [List.length_set]; exact hl.2⟩ hR hS hc hs hf hlo K)
theorem xw_istore {j : Nat} {x : Int32} (hd : decode μ.2.2.1 pc = .ok (.istore j, 2))  (hlt : j < lv.length) (k : xW sc μ d kc ks (pc + 2) (lv.set j (some (.int x))) st h Q) : xW sc μ d kc ks pc lv (.int x :: st) h Q := by
  intro D tys b base p l e R s m args below meth c C H locs cells slots ls QQ hl hR hS hc hs hf hlo K
  exact lv_istore C.1 C.2.1 hd hl.1.1 hlt rfl (fun ls' hl' => k D tys b base p l e R s m args below meth c C H locs cells slots ls' QQ ⟨hl.1.set hlt rfl hl', by rw [List.length_set]; exact hl.2⟩ hR hS hc hs hf hlo K)
theorem xw_astore_n {i : Fin 4} {j a : Nat} (hd : decode μ.2.2.1 pc = .ok (.astore_n i, 1)) (hi : (i : Nat) = j) (hlt : j < lv.length) (k : xW sc μ d kc ks (pc + 1) (lv.set j (some (.ref a))) st h Q) : xW sc μ d kc ks pc lv (.ref a :: st) h Q := by
  intro D tys b base p l e R s m args below meth c C H locs cells slots ls QQ hl hR hS hc hs hf hlo K
  exact lv_astore_n C.1 C.2.1 hd hi hl.1.1 hlt rfl (fun ls' hl' => k D tys b base p l e R s m args below meth c C H locs cells slots ls' QQ ⟨hl.1.set hlt rfl hl', by rw [List.length_set]; exact hl.2⟩ hR hS hc hs hf hlo K)
theorem xw_astore {j a : Nat} (hd : decode μ.2.2.1 pc = .ok (.astore j, 2))  (hlt : j < lv.length) (k : xW sc μ d kc ks (pc + 2) (lv.set j (some (.ref a))) st h Q) : xW sc μ d kc ks pc lv (.ref a :: st) h Q := by
  intro D tys b base p l e R s m args below meth c C H locs cells slots ls QQ hl hR hS hc hs hf hlo K
  exact lv_astore C.1 C.2.1 hd hl.1.1 hlt rfl (fun ls' hl' => k D tys b base p l e R s m args below meth c C H locs cells slots ls' QQ ⟨hl.1.set hlt rfl hl', by rw [List.length_set]; exact hl.2⟩ hR hS hc hs hf hlo K)
theorem xw_astore_nN {i : Fin 4} {j : Nat} (hd : decode μ.2.2.1 pc = .ok (.astore_n i, 1)) (hi : (i : Nat) = j) (hlt : j < lv.length) (k : xW sc μ d kc ks (pc + 1) (lv.set j (some (.null))) st h Q) : xW sc μ d kc ks pc lv (.null :: st) h Q := by
  intro D tys b base p l e R s m args below meth c C H locs cells slots ls QQ hl hR hS hc hs hf hlo K
  exact lv_astore_nN C.1 C.2.1 hd hi hl.1.1 hlt rfl (fun ls' hl' => k D tys b base p l e R s m args below meth c C H locs cells slots ls' QQ ⟨hl.1.set hlt rfl hl', by rw [List.length_set]; exact hl.2⟩ hR hS hc hs hf hlo K)
theorem xw_astoreN {j : Nat} (hd : decode μ.2.2.1 pc = .ok (.astore j, 2))  (hlt : j < lv.length) (k : xW sc μ d kc ks (pc + 2) (lv.set j (some (.null))) st h Q) : xW sc μ d kc ks pc lv (.null :: st) h Q := by
  intro D tys b base p l e R s m args below meth c C H locs cells slots ls QQ hl hR hS hc hs hf hlo K
  exact lv_astoreN C.1 C.2.1 hd hl.1.1 hlt rfl (fun ls' hl' => k D tys b base p l e R s m args below meth c C H locs cells slots ls' QQ ⟨hl.1.set hlt rfl hl', by rw [List.length_set]; exact hl.2⟩ hR hS hc hs hf hlo K)
theorem xw_iinc {j : Nat} {n : Int} {x v : Int32} (hd : decode μ.2.2.1 pc = .ok (.iinc j n, 3)) (hx : lv[j]? = some (some (.int x))) (hv : x + Int32.ofInt n = v) (k : xW sc μ d kc ks (pc + 3) (lv.set j (some (.int v))) st h Q) : xW sc μ d kc ks pc lv st h Q := by
  intro D tys b base p l e R s m args below meth c C H locs cells slots ls QQ hl hR hS hc hs hf hlo K
  obtain ⟨q, hq⟩ := List.getElem?_of_mem ((xa_mem (b := b) (base := base) lv 0).mpr ⟨j, .int x, hx, rfl⟩)
  rw [Nat.zero_add] at hq
  exact lv_iinc C.1 C.2.1 hd hl.1.1 (k := q) (x := x) hq hv (xL.lt hx) rfl (fun ls' hl' => k D tys b base p l e R s m args below meth c C H locs cells slots ls' QQ ⟨hl.1.set (xL.lt hx) rfl hl', by rw [List.length_set]; exact hl.2⟩ hR hS hc hs hf hlo K)
theorem xw_if_eq {x : Int32} {off : Int} {tgt : Nat} (hd : decode μ.2.2.1 pc = .ok (.ifCond .eq off, 3)) (ht : (pc : Int) + off = (tgt : Int)) (kt : x = 0 → xW sc μ d kc ks tgt lv st h Q) (kf : ¬ x = 0 → xW sc μ d kc ks (pc + 3) lv st h Q) : xW sc μ d kc ks pc lv (.int x :: st) h Q := by
  intro D tys b base p l e R s m args below meth c C H locs cells slots ls QQ hl hR hS hc hs hf hlo K
  exact lv_if_eq C.1 C.2.1 hd ht (fun z => kt z D tys b base p l e R s m args below meth c C H locs cells slots ls QQ hl hR hS hc hs hf hlo K) (fun z => kf z D tys b base p l e R s m args below meth c C H locs cells slots ls QQ hl hR hS hc hs hf hlo K)
theorem xw_icmp_eq {x y : Int32} {off : Int} {tgt : Nat} (hd : decode μ.2.2.1 pc = .ok (.if_icmp .eq off, 3)) (ht : (pc : Int) + off = (tgt : Int)) (kt : x = y → xW sc μ d kc ks tgt lv st h Q) (kf : ¬ x = y → xW sc μ d kc ks (pc + 3) lv st h Q) : xW sc μ d kc ks pc lv (.int y :: .int x :: st) h Q := by
  intro D tys b base p l e R s m args below meth c C H locs cells slots ls QQ hl hR hS hc hs hf hlo K
  exact lv_icmp_eq C.1 C.2.1 hd ht (fun z => kt z D tys b base p l e R s m args below meth c C H locs cells slots ls QQ hl hR hS hc hs hf hlo K) (fun z => kf z D tys b base p l e R s m args below meth c C H locs cells slots ls QQ hl hR hS hc hs hf hlo K)
theorem xw_if_ne {x : Int32} {off : Int} {tgt : Nat} (hd : decode μ.2.2.1 pc = .ok (.ifCond .ne off, 3)) (ht : (pc : Int) + off = (tgt : Int)) (kt : ¬ x = 0 → xW sc μ d kc ks tgt lv st h Q) (kf : x = 0 → xW sc μ d kc ks (pc + 3) lv st h Q) : xW sc μ d kc ks pc lv (.int x :: st) h Q := by
  intro D tys b base p l e R s m args below meth c C H locs cells slots ls QQ hl hR hS hc hs hf hlo K
  exact lv_if_ne C.1 C.2.1 hd ht (fun z => kt z D tys b base p l e R s m args below meth c C H locs cells slots ls QQ hl hR hS hc hs hf hlo K) (fun z => kf z D tys b base p l e R s m args below meth c C H locs cells slots ls QQ hl hR hS hc hs hf hlo K)
theorem xw_icmp_ne {x y : Int32} {off : Int} {tgt : Nat} (hd : decode μ.2.2.1 pc = .ok (.if_icmp .ne off, 3)) (ht : (pc : Int) + off = (tgt : Int)) (kt : ¬ x = y → xW sc μ d kc ks tgt lv st h Q) (kf : x = y → xW sc μ d kc ks (pc + 3) lv st h Q) : xW sc μ d kc ks pc lv (.int y :: .int x :: st) h Q := by
  intro D tys b base p l e R s m args below meth c C H locs cells slots ls QQ hl hR hS hc hs hf hlo K
  exact lv_icmp_ne C.1 C.2.1 hd ht (fun z => kt z D tys b base p l e R s m args below meth c C H locs cells slots ls QQ hl hR hS hc hs hf hlo K) (fun z => kf z D tys b base p l e R s m args below meth c C H locs cells slots ls QQ hl hR hS hc hs hf hlo K)
theorem xw_if_lt {x : Int32} {off : Int} {tgt : Nat} (hd : decode μ.2.2.1 pc = .ok (.ifCond .lt off, 3)) (ht : (pc : Int) + off = (tgt : Int)) (kt : x < 0 → xW sc μ d kc ks tgt lv st h Q) (kf : ¬ x < 0 → xW sc μ d kc ks (pc + 3) lv st h Q) : xW sc μ d kc ks pc lv (.int x :: st) h Q := by
  intro D tys b base p l e R s m args below meth c C H locs cells slots ls QQ hl hR hS hc hs hf hlo K
  exact lv_if_lt C.1 C.2.1 hd ht (fun z => kt z D tys b base p l e R s m args below meth c C H locs cells slots ls QQ hl hR hS hc hs hf hlo K) (fun z => kf z D tys b base p l e R s m args below meth c C H locs cells slots ls QQ hl hR hS hc hs hf hlo K)
theorem xw_icmp_lt {x y : Int32} {off : Int} {tgt : Nat} (hd : decode μ.2.2.1 pc = .ok (.if_icmp .lt off, 3)) (ht : (pc : Int) + off = (tgt : Int)) (kt : x < y → xW sc μ d kc ks tgt lv st h Q) (kf : ¬ x < y → xW sc μ d kc ks (pc + 3) lv st h Q) : xW sc μ d kc ks pc lv (.int y :: .int x :: st) h Q := by
  intro D tys b base p l e R s m args below meth c C H locs cells slots ls QQ hl hR hS hc hs hf hlo K
  exact lv_icmp_lt C.1 C.2.1 hd ht (fun z => kt z D tys b base p l e R s m args below meth c C H locs cells slots ls QQ hl hR hS hc hs hf hlo K) (fun z => kf z D tys b base p l e R s m args below meth c C H locs cells slots ls QQ hl hR hS hc hs hf hlo K)
theorem xw_if_ge {x : Int32} {off : Int} {tgt : Nat} (hd : decode μ.2.2.1 pc = .ok (.ifCond .ge off, 3)) (ht : (pc : Int) + off = (tgt : Int)) (kt : 0 ≤ x → xW sc μ d kc ks tgt lv st h Q) (kf : ¬ 0 ≤ x → xW sc μ d kc ks (pc + 3) lv st h Q) : xW sc μ d kc ks pc lv (.int x :: st) h Q := by
  intro D tys b base p l e R s m args below meth c C H locs cells slots ls QQ hl hR hS hc hs hf hlo K
  exact lv_if_ge C.1 C.2.1 hd ht (fun z => kt z D tys b base p l e R s m args below meth c C H locs cells slots ls QQ hl hR hS hc hs hf hlo K) (fun z => kf z D tys b base p l e R s m args below meth c C H locs cells slots ls QQ hl hR hS hc hs hf hlo K)
theorem xw_icmp_ge {x y : Int32} {off : Int} {tgt : Nat} (hd : decode μ.2.2.1 pc = .ok (.if_icmp .ge off, 3)) (ht : (pc : Int) + off = (tgt : Int)) (kt : y ≤ x → xW sc μ d kc ks tgt lv st h Q) (kf : ¬ y ≤ x → xW sc μ d kc ks (pc + 3) lv st h Q) : xW sc μ d kc ks pc lv (.int y :: .int x :: st) h Q := by
  intro D tys b base p l e R s m args below meth c C H locs cells slots ls QQ hl hR hS hc hs hf hlo K
  exact lv_icmp_ge C.1 C.2.1 hd ht (fun z => kt z D tys b base p l e R s m args below meth c C H locs cells slots ls QQ hl hR hS hc hs hf hlo K) (fun z => kf z D tys b base p l e R s m args below meth c C H locs cells slots ls QQ hl hR hS hc hs hf hlo K)
theorem xw_if_gt {x : Int32} {off : Int} {tgt : Nat} (hd : decode μ.2.2.1 pc = .ok (.ifCond .gt off, 3)) (ht : (pc : Int) + off = (tgt : Int)) (kt : 0 < x → xW sc μ d kc ks tgt lv st h Q) (kf : ¬ 0 < x → xW sc μ d kc ks (pc + 3) lv st h Q) : xW sc μ d kc ks pc lv (.int x :: st) h Q := by
  intro D tys b base p l e R s m args below meth c C H locs cells slots ls QQ hl hR hS hc hs hf hlo K
  exact lv_if_gt C.1 C.2.1 hd ht (fun z => kt z D tys b base p l e R s m args below meth c C H locs cells slots ls QQ hl hR hS hc hs hf hlo K) (fun z => kf z D tys b base p l e R s m args below meth c C H locs cells slots ls QQ hl hR hS hc hs hf hlo K)
theorem xw_icmp_gt {x y : Int32} {off : Int} {tgt : Nat} (hd : decode μ.2.2.1 pc = .ok (.if_icmp .gt off, 3)) (ht : (pc : Int) + off = (tgt : Int)) (kt : y < x → xW sc μ d kc ks tgt lv st h Q) (kf : ¬ y < x → xW sc μ d kc ks (pc + 3) lv st h Q) : xW sc μ d kc ks pc lv (.int y :: .int x :: st) h Q := by
  intro D tys b base p l e R s m args below meth c C H locs cells slots ls QQ hl hR hS hc hs hf hlo K
  exact lv_icmp_gt C.1 C.2.1 hd ht (fun z => kt z D tys b base p l e R s m args below meth c C H locs cells slots ls QQ hl hR hS hc hs hf hlo K) (fun z => kf z D tys b base p l e R s m args below meth c C H locs cells slots ls QQ hl hR hS hc hs hf hlo K)
theorem xw_if_le {x : Int32} {off : Int} {tgt : Nat} (hd : decode μ.2.2.1 pc = .ok (.ifCond .le off, 3)) (ht : (pc : Int) + off = (tgt : Int)) (kt : x ≤ 0 → xW sc μ d kc ks tgt lv st h Q) (kf : ¬ x ≤ 0 → xW sc μ d kc ks (pc + 3) lv st h Q) : xW sc μ d kc ks pc lv (.int x :: st) h Q := by
  intro D tys b base p l e R s m args below meth c C H locs cells slots ls QQ hl hR hS hc hs hf hlo K
  exact lv_if_le C.1 C.2.1 hd ht (fun z => kt z D tys b base p l e R s m args below meth c C H locs cells slots ls QQ hl hR hS hc hs hf hlo K) (fun z => kf z D tys b base p l e R s m args below meth c C H locs cells slots ls QQ hl hR hS hc hs hf hlo K)
theorem xw_icmp_le {x y : Int32} {off : Int} {tgt : Nat} (hd : decode μ.2.2.1 pc = .ok (.if_icmp .le off, 3)) (ht : (pc : Int) + off = (tgt : Int)) (kt : x ≤ y → xW sc μ d kc ks tgt lv st h Q) (kf : ¬ x ≤ y → xW sc μ d kc ks (pc + 3) lv st h Q) : xW sc μ d kc ks pc lv (.int y :: .int x :: st) h Q := by
  intro D tys b base p l e R s m args below meth c C H locs cells slots ls QQ hl hR hS hc hs hf hlo K
  exact lv_icmp_le C.1 C.2.1 hd ht (fun z => kt z D tys b base p l e R s m args below meth c C H locs cells slots ls QQ hl hR hS hc hs hf hlo K) (fun z => kf z D tys b base p l e R s m args below meth c C H locs cells slots ls QQ hl hR hS hc hs hf hlo K)
theorem xw_goto {off : Int} {tgt : Nat} (hd : decode μ.2.2.1 pc = .ok (.goto off, 3)) (ht : (pc : Int) + off = (tgt : Int)) (k : xW sc μ d kc ks tgt lv st h Q) : xW sc μ d kc ks pc lv st h Q := by
  intro D tys b base p l e R s m args below meth c C H locs cells slots ls QQ hl hR hS hc hs hf hlo K
  exact lv_goto C.1 C.2.1 hd ht (k D tys b base p l e R s m args below meth c C H locs cells slots ls QQ hl hR hS hc hs hf hlo K)
theorem xw_ifnonnull {a : Nat} {off : Int} {tgt : Nat} (hd : decode μ.2.2.1 pc = .ok (.ifnonnull off, 3)) (ht : (pc : Int) + off = (tgt : Int)) (k : xW sc μ d kc ks tgt lv st h Q) : xW sc μ d kc ks pc lv (.ref a :: st) h Q := by
  intro D tys b base p l e R s m args below meth c C H locs cells slots ls QQ hl hR hS hc hs hf hlo K
  exact lv_ifnonnull C.1 C.2.1 hd ht (k D tys b base p l e R s m args below meth c C H locs cells slots ls QQ hl hR hS hc hs hf hlo K)
theorem xw_ifnull {a : Nat} {off : Int} (hd : decode μ.2.2.1 pc = .ok (.ifnull off, 3)) (k : xW sc μ d kc ks (pc + 3) lv st h Q) : xW sc μ d kc ks pc lv (.ref a :: st) h Q := by
  intro D tys b base p l e R s m args below meth c C H locs cells slots ls QQ hl hR hS hc hs hf hlo K
  exact lv_ifnull C.1 C.2.1 hd (k D tys b base p l e R s m args below meth c C H locs cells slots ls QQ hl hR hS hc hs hf hlo K)
theorem xw_ifnonnullN {off : Int} (hd : decode μ.2.2.1 pc = .ok (.ifnonnull off, 3)) (k : xW sc μ d kc ks (pc + 3) lv st h Q) : xW sc μ d kc ks pc lv (.null :: st) h Q := by
  intro D tys b base p l e R s m args below meth c C H locs cells slots ls QQ hl hR hS hc hs hf hlo K
  exact lv_ifnonnullN C.1 C.2.1 hd (k D tys b base p l e R s m args below meth c C H locs cells slots ls QQ hl hR hS hc hs hf hlo K)
theorem xw_ifnullN {off : Int} {tgt : Nat} (hd : decode μ.2.2.1 pc = .ok (.ifnull off, 3)) (ht : (pc : Int) + off = (tgt : Int)) (k : xW sc μ d kc ks tgt lv st h Q) : xW sc μ d kc ks pc lv (.null :: st) h Q := by
  intro D tys b base p l e R s m args below meth c C H locs cells slots ls QQ hl hR hS hc hs hf hlo K
  exact lv_ifnullN C.1 C.2.1 hd ht (k D tys b base p l e R s m args below meth c C H locs cells slots ls QQ hl hR hS hc hs hf hlo K)
theorem xw_lookup {dflt : Int} {ps : Array (Int × Int)} {len : Nat} {x : Int32} {off : Int} {tgt : Nat} (hd : decode μ.2.2.1 pc = .ok (.lookupswitch dflt ps, len)) (hp : (ps.toList.zip (ps.toList.drop 1)).all (fun (a, next) => a.1 < next.1) = true) (ho : Op.lookupswitch.offset ps.toList dflt x.toInt = off) (ht : (pc : Int) + off = (tgt : Int)) (k : xW sc μ d kc ks tgt lv st h Q) : xW sc μ d kc ks pc lv (.int x :: st) h Q := by
  intro D tys b base p l e R s m args below meth c C H locs cells slots ls QQ hl hR hS hc hs hf hlo K
  exact lv_lookup C.1 C.2.1 hd hp ho ht (k D tys b base p l e R s m args below meth c C H locs cells slots ls QQ hl hR hS hc hs hf hlo K)
theorem xw_tableOut {dflt lo hi : Int} {offs : Array Int} {len : Nat} {x : Int32} {tgt : Nat} (hd : decode μ.2.2.1 pc = .ok (.tableswitch dflt lo hi offs, len)) (hx : x.toInt < lo ∨ hi < x.toInt) (ht : (pc : Int) + dflt = (tgt : Int)) (k : xW sc μ d kc ks tgt lv st h Q) : xW sc μ d kc ks pc lv (.int x :: st) h Q := by
  intro D tys b base p l e R s m args below meth c C H locs cells slots ls QQ hl hR hS hc hs hf hlo K
  exact lv_tableOut C.1 C.2.1 hd hx ht (k D tys b base p l e R s m args below meth c C H locs cells slots ls QQ hl hR hS hc hs hf hlo K)
theorem xw_tableIn {dflt lo hi : Int} {offs : Array Int} {len : Nat} {x : Int32} {off : Int} {tgt : Nat} (hd : decode μ.2.2.1 pc = .ok (.tableswitch dflt lo hi offs, len)) (h1 : ¬ x.toInt < lo) (h2 : ¬ hi < x.toInt) (ho : offs[(x.toInt - lo).toNat]? = some off) (ht : (pc : Int) + off = (tgt : Int)) (k : xW sc μ d kc ks tgt lv st h Q) : xW sc μ d kc ks pc lv (.int x :: st) h Q := by
  intro D tys b base p l e R s m args below meth c C H locs cells slots ls QQ hl hR hS hc hs hf hlo K
  exact lv_tableIn C.1 C.2.1 hd h1 h2 ho ht (k D tys b base p l e R s m args below meth c C H locs cells slots ls QQ hl hR hS hc hs hf hlo K)
theorem xw_return (hr : μ.2.2.2.2 = none) (hd : decode μ.2.2.1 pc = .ok (.return_, 1)) (k : Q none h) : xW sc μ d kc ks pc lv [] h Q := by
  intro D tys b base p l e R s m args below meth c C H locs cells slots ls QQ hl hR hS hc hs hf hlo K
  exact K none h H locs cells slots ls pc [] k hR hS (by omega) (by omega) (Or.inl ⟨rfl, rfl, hr, hd⟩)
theorem xw_ireturn {x : Int32} (hr : μ.2.2.2.2 = some .int) (hd : decode μ.2.2.1 pc = .ok (.ireturn, 1)) (k : Q (some (.int x)) h) : xW sc μ d kc ks pc lv [.int x] h Q := by
  intro D tys b base p l e R s m args below meth c C H locs cells slots ls QQ hl hR hS hc hs hf hlo K
  exact K (some (.int x)) h H locs cells slots ls pc [.int x] k hR hS (by omega) (by omega) (Or.inr (Or.inl ⟨x, .int, rfl, rfl, hr, rfl, hd⟩))
theorem xw_zreturn {x : Int32} (hr : μ.2.2.2.2 = some .boolean) (hx : narrow .boolean (.int x) = .int x) (hd : decode μ.2.2.1 pc = .ok (.ireturn, 1)) (k : Q (some (.int x)) h) : xW sc μ d kc ks pc lv [.int x] h Q := by
  intro D tys b base p l e R s m args below meth c C H locs cells slots ls QQ hl hR hS hc hs hf hlo K
  exact K (some (.int x)) h H locs cells slots ls pc [.int x] k hR hS (by omega) (by omega) (Or.inr (Or.inl ⟨x, .boolean, rfl, rfl, hr, hx, hd⟩))
theorem xw_areturn {v : Value} {ty : FieldType} (hr : μ.2.2.2.2 = some ty) (hty : (∃ n, ty = .object n) ∨ ∃ t, ty = .array t) (hv : v = .null ∨ ∃ k, v = .ref k) (hd : decode μ.2.2.1 pc = .ok (.areturn, 1)) (k : Q (some v) h) : xW sc μ d kc ks pc lv [v] h Q := by
  intro D tys b base p l e R s m args below meth c C H locs cells slots ls QQ hl hR hS hc hs hf hlo K
  exact K (some v) h H locs cells slots ls pc [xv b base v] k hR hS (by omega) (by omega) (Or.inr (Or.inr ⟨v, ty, rfl, hv, rfl, hr, hty, hd⟩))
theorem xW.mono {Q' : Option Value → xH → Prop} (hq : ∀ v h', Q v h' → Q' v h') (k : xW sc μ d kc ks pc lv st h Q) : xW sc μ d kc ks pc lv st h Q' := by
  intro D tys b base p l e R s m args below meth c C H locs cells slots ls QQ hl hR hS hc hs hf hlo K
  exact k D tys b base p l e R s m args below meth c C H locs cells slots ls QQ hl hR hS hc hs hf hlo (fun v h' H' locs' cells' slots' ls' pc' st' z => K v h' H' locs' cells' slots' ls' pc' st' (hq v h' z))
end XW
