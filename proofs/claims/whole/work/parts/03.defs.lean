/-! the words, and places of the constant pools: definitions alone -/
abbrev xM : Type := String × MethodName × ByteArray × Nat × Option FieldType
def xad (b base k : Nat) : Nat := if k = 0 then b else base + k
def xv (b base : Nat) (v : Value) : Value := match v with
  | .ref k => .ref (xad b base k)
  | w => w
def xTys : List FieldType := [.int, .object "QuorumNodes$Node", .object "QuorumNodes$Message"]
/-- the words that a contract takes along -/
def xGood (w : Cond) : Bool := (w.onTables && w.keeps) || (match w with | .arrayClass _ => true | _ => false)
def xT : List Cond := lw_tbl.filter xGood
theorem xT_in {w : Cond} (h : w ∈ lw_tbl) (hg : xGood w = true) : w ∈ xT := List.mem_filter.mpr ⟨h, hg⟩
theorem xT_good : GoodIn xT xT := by
  intro w hw
  refine ⟨hw, ?_⟩
  have hg := (List.mem_filter.mp hw).2
  unfold xGood at hg
  rcases Bool.or_eq_true_iff.mp hg with h | h
  · exact Or.inl h
  · cases w <;> first | exact Or.inr ⟨_, rfl⟩ | (simp at h)
/-- words that go by the state: calls of nest mates, arrays of objects -/
def xIsU (w : Cond) : Bool := match w with
  | .methodLinkNest _ _ _ _ => true
  | .arrayOver (.object _) => true
  | _ => false
def xU : List Cond := lw_tbl.filter xIsU
theorem xU_in {w : Cond} (h : w ∈ lw_tbl) (hg : xIsU w = true) : w ∈ xU := List.mem_filter.mpr ⟨h, hg⟩
/-- a method's own side conditions -/
def xCw (μ : xM) : Prop := Cond.code μ.2.1 μ.2.2.1 μ.2.2.2.1 μ.2.2.2.2 ∈ xT ∧ Cond.initialized μ.2.1.cls ∈ xT ∧ (μ.2.1.cls ≠ "java/lang/invoke/MethodHandle" ∧ μ.2.1.cls ≠ "java/lang/invoke/VarHandle") ∧ plainName μ.2.1.cls = true ∧ μ.1 = μ.2.1.cls ∧ μ.2.2.2.1 ≤ 20
/-- an instance field, at a place of the constant pool: class ci, its k-th field, of type ty, final or not -/
def xFs (own : String) (index ci k : Nat) (ty : FieldType) (fin : Bool) : Prop := ∃ (C : String) (T : u_T) (N : Nat) (ty0 : Nat → FieldType), vwCl[ci]? = some (C, T, N) ∧ (∀ w ∈ u_ws C T N, w ∈ xT) ∧ (∀ k, k < N → parseFieldDescriptor (T k).2.2.1 = some (ty0 k)) ∧ (∀ a, a < N → ∀ b, b < N → a ≠ b → (T a).2.1 ≠ (T b).2.1) ∧ k < N ∧ Cond.fieldLink own index (T k).1 (T k).2.1 (T k).2.2.1 ∈ xT ∧ ty0 k = ty ∧ (T k).2.2.2 = fin ∧ (fin = true → (T k).1 = own)
def xFr (own : String) (index ci k : Nat) : Prop := ∃ (C : String) (T : u_T) (N : Nat) (ty0 : Nat → FieldType), vwCl[ci]? = some (C, T, N) ∧ (∀ w ∈ u_ws C T N, w ∈ xT) ∧ (∀ k, k < N → parseFieldDescriptor (T k).2.2.1 = some (ty0 k)) ∧ (∀ a, a < N → ∀ b, b < N → a ≠ b → (T a).2.1 ≠ (T b).2.1) ∧ k < N ∧ Cond.fieldLink own index (T k).1 (T k).2.1 (T k).2.2.1 ∈ xT
/-- a class that can be made, at a place of the constant pool -/
def xNs (own : String) (index ci N : Nat) (fs : List Value) : Prop := ∃ (C : String) (T : u_T) (ty0 : Nat → FieldType), vwCl[ci]? = some (C, T, N) ∧ (∀ w ∈ u_ws C T N, w ∈ xT) ∧ (∀ k, k < N → parseFieldDescriptor (T k).2.2.1 = some (ty0 k)) ∧ Cond.classLink own index C ∈ xT ∧ Cond.instantiable C N ∈ xT ∧ Cond.initialized C ∈ xT ∧ ∀ j, j < N → ∀ b base, defaultValue (ty0 j) = vp_V (fs.map (xv b base)) j
/-- a call's place in the constant pool; of a nest mate -/
def xLk (own : String) (index : Nat) (ν : xM) (n : Nat) : Prop := xCw ν ∧ Cond.methodLink own index ν.2.1 ∈ xT ∧ (parseMethodDescriptor ν.2.1.desc).map (fun d => d.parameters.length) = some n
def xLn (own : String) (index : Nat) (host : String) (ν : xM) (n : Nat) : Prop := xCw ν ∧ Cond.methodLinkNest own index ν.2.1 host ∈ xU ∧ (parseMethodDescriptor ν.2.1.desc).map (fun d => d.parameters.length) = some n
/-- an instance method, of the class that the worlds number ci -/
def xIn (ν : xM) (ci : Nat) : Prop := Cond.instanceMethod ν.2.1 ∈ xT ∧ Cond.selects ν.2.1.cls ν.2.1 ν.2.1 ∈ xT ∧ ∃ q : vw_C, vwCl[ci]? = some q ∧ q.1 = ν.2.1.cls
/-- Object() -/
def xOi (own : String) (index : Nat) : Prop := Cond.methodLink own index Lib.objectInit ∈ xT ∧ Cond.instanceMethod Lib.objectInit ∈ xT ∧ Cond.code Lib.objectInit ⟨#[0xb1]⟩ 1 none ∈ xT
/-- Math.max, Math.min -/
def xMx (own : String) (index : Nat) : Prop := Cond.methodLink own index Lib.Math.max.name ∈ xT ∧ Cond.static Lib.Math.max.name ∈ xT ∧ Cond.initialized "java/lang/Math" ∈ xT ∧ Cond.code Lib.Math.max.name Lib.Math.max.code 2 (some .int) ∈ xT
def xMn (own : String) (index : Nat) : Prop := Cond.methodLink own index Lib.Math.min.name ∈ xT ∧ Cond.static Lib.Math.min.name ∈ xT ∧ Cond.initialized "java/lang/Math" ∈ xT ∧ Cond.code Lib.Math.min.name Lib.Math.min.code 2 (some .int) ∈ xT
def xAc (own : String) (index : Nat) : Prop := Cond.methodLink own index arraycopyName ∈ xT ∧ Cond.native arraycopyName ∈ xT ∧ Cond.static arraycopyName ∈ xT ∧ Cond.initialized "java/lang/System" ∈ xT
