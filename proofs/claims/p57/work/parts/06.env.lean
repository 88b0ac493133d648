/-! WHAT STANDS AROUND A METHOD: words of the tables, statics, texts; and which tables of the small machine are true -/
abbrev ev_B : Type := List Cond × List Cond × List (String × String × String × Value) × List (String × Nat × String × Nat) × (Nat → String) × List vw_C × String × List (String × String) × (Nat → String)
abbrev ev_Tb (B : ev_B) := B.1
abbrev ev_NG (B : ev_B) := B.2.1
abbrev ev_ST (B : ev_B) := B.2.2.1
abbrev ev_SS (B : ev_B) := B.2.2.2.1
abbrev ev_cn (B : ev_B) := B.2.2.2.2.1
abbrev ev_cl (B : ev_B) := B.2.2.2.2.2.1
abbrev ev_CN (B : ev_B) := B.2.2.2.2.2.2.1
/-- exceptions that a handler doesn't take -/
abbrev ev_NC (B : ev_B) := B.2.2.2.2.2.2.2.1
/-- the exceptions' names -/
abbrev ev_xn (B : ev_B) := B.2.2.2.2.2.2.2.2
def ev_ety : Nat → FieldType
  | 0 => .int
  | 1 => .char
  | _ => .byte
def ev_sfn : Nat → String × String
  | 0 => ("value", "[B")
  | _ => ("coder", "B")
def ev_cc (κ : Nat → Nat) (a : Nat) (x : ev_AC) (A : Nat → Prop) (U : State) (H : Heap) : Prop := match x with
  | .inl (k, l) => va_T (ev_ety k) (κ a) l.length (fun j => .int (l.getD j 0)) A U H
  | .inr (_, vs) => va_O "java/lang/String" (κ a) A U H ∧ ∀ (sl : Nat) (v : Value), vs[sl]? = some v → va_OF "java/lang/String" (ev_sfn sl).1 (ev_sfn sl).2 (ev_cv κ v) (κ a) A U H
def ev_En (G : ev_G) (B : ev_B) (κ : Nat → Nat) (A : Nat → Prop) (U : State) (H : Heap) : Prop :=
  (∀ q ∈ ev_SS B, vk_R q.1 q.2.1 q.2.2.1 (κ q.2.2.2) U) ∧ (∀ q ∈ ev_ST B, va_Z q.1 q.2.1 q.2.2.1 (ev_cv κ q.2.2.2) A U H) ∧ (∀ (a : Nat) (x : ev_AC), a < 1000 → ev_cst G a = some x → ev_cc κ a x A U H) ∧
  (∀ w ∈ ev_NG B, va_Nw w U) ∧ vx_Zq Bundle.tN "UNASSIGNED_STACK" Bundle.steD A U H ∧ vx_Zq Bundle.tN "SUPPRESSED_SENTINEL" Bundle.listD A U H ∧ va_AO (ev_CN B) U ∧ ∀ q ∈ ev_NC B, va_Nc q.1 q.2 U
/-- the words that are carried from a method to its callee one by one -/
def ev_ngk : Cond → Bool
  | .fieldLinkNest .. => true
  | .methodLinkNest .. => true
  | .declares .. => true
  | .castable .. => true
  | _ => false
theorem ev_nw_warm {w : Cond} (hw : ev_ngk w = true) {s U : State} (hW : s.WarmedH U.vm) (h : va_Nw w s) : va_Nw w U := by
  unfold ev_ngk at hw
  split at hw
  · exact va_Nw.warmF hW h
  · exact va_Nw.warmM hW h
  · exact va_Nw.warmD hW h
  · exact va_Nw.warmC hW h
  · cases hw
theorem ev_cc_moved {κ : Nat → Nat} {a : Nat} {x : ev_AC} {A : Nat → Prop} {u U : State} {H : Heap} (hvm : u.vm.Alike U.vm) (h : ev_cc κ a x A u H) : ev_cc κ a x A U H := by
  rcases x with ⟨k, l⟩ | ⟨ci, vs⟩
  · exact va_T.moved hvm h
  · exact ⟨va_O.moved hvm h.1, fun sl v hv => va_OF.moved hvm (h.2 sl v hv)⟩
theorem ev_cc_kept {κ : Nat → Nat} {a : Nat} {x : ev_AC} {A : Nat → Prop} {U : State} {H H1 : Heap} (h : ev_cc κ a x A U H) (hq : ∀ a : Nat, a < H.size → ¬ A a → H1[a]? = H[a]?) : ev_cc κ a x A U H1 := by
  rcases x with ⟨k, l⟩ | ⟨ci, vs⟩
  · exact va_T.kept h hq
  · exact ⟨va_O.kept h.1 hq, fun sl v hv => va_OF.kept (h.2 sl v hv) hq⟩
theorem ev_cc_narrow {κ : Nat → Nat} {a : Nat} {x : ev_AC} {A B : Nat → Prop} {U : State} {H : Heap} (h : ev_cc κ a x A U H) (hAB : ∀ q, B q → A q) : ev_cc κ a x B U H := by
  rcases x with ⟨k, l⟩ | ⟨ci, vs⟩
  · exact va_T.narrow h hAB
  · exact ⟨va_O.narrow h.1 hAB, fun sl v hv => va_OF.narrow (h.2 sl v hv) hAB⟩
/-- from a method's start to its callee's -/
theorem ev_En_call {G : ev_G} {B : ev_B} {κ : Nat → Nat} {A A' : Nat → Prop} {s U : State} {H0 H : Heap} (hng : ∀ w ∈ ev_NG B, ev_ngk w = true) (h : ev_En G B κ A s H0) (hW : s.WarmedH U.vm) (hS : ∀ a : Nat, a < H0.size → ¬ A a → H[a]? = H0[a]?) (hA : ∀ q, A' q → A q) : ev_En G B κ A' U H := by
  obtain ⟨h1, h2, h3, h4, h5, h6, h7, h8⟩ := h
  have hvm := hW.alike
  exact ⟨fun q hq => (h1 q hq).warm hW, fun q hq => (((h2 q hq).kept hS).moved hvm).narrow hA, fun a x ha hx => ev_cc_narrow (ev_cc_moved hvm (ev_cc_kept (h3 a x ha hx) hS)) hA,
    fun w hw => ev_nw_warm (hng w hw) hW (h4 w hw), ((h5.kept hS).moved hvm).narrow hA, ((h6.kept hS).moved hvm).narrow hA, h7.moved hvm, fun q hq => (h8 q hq).moved hvm⟩
/-- what holds while a method's frame stands: p, l, c .. as in the kit's rows -/
def ev_Fx (G : ev_G) (B : ev_B) (M : ev_MD) (D : va_G) (T : Nat → ClassId) (κ : Nat → Nat) (A : Nat → Prop) (p : Program) (l : Launch) (s : State) (m : MethodId) (args : Array Value) (meth : Method) (c : Code) : Prop :=
  p.tables.exec = Jvm.exec ∧ c.code = M.2.2.1 ∧ c.maxLocals = M.2.2.2.1 ∧ meth.sig.returnType = M.2.2.2.2.1 ∧ meth.locks = false ∧ meth.name = M.2.1.name ∧ s.vm.findClass M.2.1.cls = some m.cls ∧ (∀ w ∈ ev_Tb B, w.before args s = true) ∧
  va_K D (ev_cl B) (ev_tys T (ev_CN B)) s ∧ ev_En G B κ A s s.heap ∧ (∀ q, s.heap.size ≤ q → A q) ∧ l.stackTraces = false ∧ c.exceptionTable.toList = tableOf M.2.2.2.2.2.1 ∧ (M.2.2.2.2.2.1 = [] ∨ M.1 = 11) ∧
  (∀ q ∈ M.2.2.2.2.2.2, decode M.2.2.1 q.1 = .ok q.2) ∧ ev_cn B M.1 = M.2.1.cls
