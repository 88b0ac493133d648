/-! THE SMALL MACHINE'S RUNS ARE THE REAL ONE'S -/
/-- calls, class of the code and entry: what the tables must say -/
def ev_V9b (B : ev_B) (k i kd n rc : Nat) (M : ev_MD) : Prop :=
  (kd = 10 → Cond.methodLink (ev_cn B k) i objectInit ∈ ev_Tb B ∧ Cond.instanceMethod objectInit ∈ ev_Tb B ∧ Cond.code objectInit ⟨#[0xb1]⟩ 1 none ∈ ev_Tb B) ∧
  (kd = 13 → Cond.methodLink (ev_cn B k) i arraycopyName ∈ ev_Tb B ∧ Cond.native arraycopyName ∈ ev_Tb B ∧ Cond.static arraycopyName ∈ ev_Tb B ∧ Cond.initialized "java/lang/System" ∈ ev_Tb B) ∧
  (kd ≠ 13 → kd ≠ 10 → kd ≠ 11 → kd ≠ 12 → ev_MK B M ∧ Cond.initialized M.2.1.cls ∈ ev_Tb B ∧ (M.2.1.cls ≠ "java/lang/invoke/MethodHandle" ∧ M.2.1.cls ≠ "java/lang/invoke/VarHandle") ∧ (parseMethodDescriptor M.2.1.desc).map (fun d => d.parameters.length) = some n ∧
    (kd = 8 ↔ M.2.2.2.2.2.1 ≠ []) ∧
    (kd = 0 ∨ kd = 2 ∨ kd = 4 ∨ kd = 7 ∨ kd = 8 → Cond.methodLink (ev_cn B k) i M.2.1 ∈ ev_Tb B) ∧
    (kd = 1 ∨ kd = 3 ∨ kd = 5 → ∃ host, Cond.methodLinkNest (ev_cn B k) i M.2.1 host ∈ ev_NG B) ∧
    (kd = 2 ∨ kd = 3 ∨ kd = 8 → Cond.static M.2.1 ∈ ev_Tb B) ∧
    (kd = 0 ∨ kd = 1 ∨ kd = 4 ∨ kd = 5 ∨ kd = 6 ∨ kd = 7 → Cond.instanceMethod M.2.1 ∈ ev_Tb B) ∧
    (kd = 0 ∨ kd = 1 → ∃ (C : String) (F : u_T) (N : Nat), (ev_cl B)[rc]? = some (C, F, N) ∧ Cond.selects C M.2.1 M.2.1 ∈ ev_Tb B) ∧
    (kd = 4 ∨ kd = 5 → M.2.1.name = "<init>" ∧ M.2.2.2.2.1 = none) ∧
    (kd = 7 → M.2.1.name ≠ "<init>" ∧ Cond.sameMethod M.2.1.cls M.2.1.cls M.2.1.name M.2.1.desc ∈ ev_Tb B ∧ Cond.superclass (ev_cn B k) M.2.1.cls ∈ ev_Tb B ∧ ∃ (C : String) (F : u_T) (N : Nat), (ev_cl B)[rc]? = some (C, F, N) ∧ C = ev_cn B k) ∧
    (kd = 6 → ∃ (y0 : MethodName) (b0 : ByteArray) (m0 : Nat) (r0 : Option FieldType), Cond.methodLink (ev_cn B k) i y0 ∈ ev_Tb B ∧ (y0.cls ≠ "java/lang/invoke/MethodHandle" ∧ y0.cls ≠ "java/lang/invoke/VarHandle") ∧ (parseMethodDescriptor y0.desc).map (fun d => d.parameters.length) = some n ∧ Cond.sameMethod y0.cls y0.cls y0.name y0.desc ∈ ev_Tb B ∧ Cond.instanceMethod y0 ∈ ev_Tb B ∧ Cond.code y0 b0 m0 r0 ∈ ev_Tb B ∧ ∃ (C : String) (F : u_T) (N : Nat), (ev_cl B)[rc]? = some (C, F, N) ∧ Cond.selects C y0 M.2.1 ∈ ev_Tb B)) ∧
  (kd = 11 → Cond.methodLink (ev_cn B k) i Lib.Math.min.name ∈ ev_Tb B ∧ Cond.static Lib.Math.min.name ∈ ev_Tb B ∧ Cond.initialized "java/lang/Math" ∈ ev_Tb B ∧ Cond.code Lib.Math.min.name Lib.Math.min.code 2 (some .int) ∈ ev_Tb B) ∧
  (kd = 12 → Cond.methodLink (ev_cn B k) i Lib.Math.max.name ∈ ev_Tb B ∧ Cond.static Lib.Math.max.name ∈ ev_Tb B ∧ Cond.initialized "java/lang/Math" ∈ ev_Tb B ∧ Cond.code Lib.Math.max.name Lib.Math.max.code 2 (some .int) ∈ ev_Tb B)
def ev_V9 (G : ev_G) (B : ev_B) : Prop := ∀ (k i kd n rc : Nat) (M : ev_MD), ev_ct G k i = some (kd, n, rc, M) → ev_V9b B k i kd n rc M
def ev_VV (G : ev_G) (B : ev_B) : Prop := ev_V G B ∧ ev_V9 G B ∧ ev_V10 G B ∧ ev_V11 G B ∧ ev_Vn B
/-- a run of n steps is the real machine's, up to its end: kret at a return, kthr where an exception leaves the method, kth where one is made and thrown -/
def ev_Snd (G : ev_G) (B : ev_B) (n : Nat) : Prop := ∀ (d : Nat) (M : ev_MD) (pc : Nat) (L : ev_VL) (S : List Value) (h : ev_AH) (o : ev_O) (h' : ev_AH), ev_F G n d M pc L S h = some (o, h') →
  ∀ (D : va_G) (T : Nat → ClassId) (κ ρ : Nat → Nat) (A : Nat → Prop) (p : Program) (l : Launch) (e : Env) (R : Room) (s : State) (m : MethodId) (args : Array Value) (below : List Frame) (meth : Method) (c : Code) (H : Heap) (locs : List Loc) (cells slots k0 s0 : Nat) (Q : State → Prop) (ls : Array Slot) (st : List Value),
  ev_Fx G B M D T κ A p l s m args meth c → ev_SR ρ h.1.length S st → ev_LR ρ h.1.length M.2.2.2.1 L ls → ev_HR D T (ev_cl B) A s.heap κ ρ k0 s0 h H locs cells slots → d + 20 ≤ R.frames → 60 * d + 400 ≤ R.locals → h'.2.1 ≤ k0 + R.cells → h'.2.2 ≤ s0 + R.slots →
  (∀ (v : Option Value) (i : Instr) (pc' : Nat) (S' st' : List Value) (ls' : Array Slot) (ρ' : Nat → Nat) (H' : Heap) (locs' : List Loc) (cells' slots' : Nat), o = .inl v → decode M.2.2.1 pc' = .ok (i, 1) → ev_e M S' i = some v → ev_SR ρ' h'.1.length S' st' → ev_HR D T (ev_cl B) A s.heap κ ρ' k0 s0 h' H' locs' cells' slots' → ev_ex2 ρ ρ' h.1.length → W p l e R s m args below meth c H' locs' cells' slots' Q (F0 m pc' ls' st')) →
  (∀ (E q : Nat) (ce : Cell) (pc' : Nat) (ls' : Array Slot) (rest : List Value) (ρ' : Nat → Nat) (H' : Heap) (locs' : List Loc) (cells' slots' : Nat), o = .inr E → ev_hd G M pc' E M.2.2.2.2.2.1 = some none → ev_HR D T (ev_cl B) A s.heap κ ρ' k0 s0 h' H' locs' cells' slots' → ev_ex2 ρ ρ' h.1.length → H'[q]? = some ce → ce.vm = .none → s.vm.findClass (ev_xn B E) = some ce.cls → vx_W p l e R s m args below meth c H' locs' cells' slots' Q (F0 m pc' ls' rest) q) →
  (∀ (E j pc' : Nat) (S' st' : List Value) (ls' : Array Slot) (ρ' : Nat → Nat) (h1 : ev_AH) (H' : Heap) (locs' : List Loc) (cells' slots' : Nat), o = .inr E → decode M.2.2.1 pc' = .ok (.new j, 3) → ev_th G M pc' j = some E → M.2.2.2.2.2.1 = [] → M.1 = 0 → ev_cs S' = true → ls'.size = M.2.2.2.1 → ev_SR ρ' h1.1.length S' st' → ev_HR D T (ev_cl B) A s.heap κ ρ' k0 s0 h1 H' locs' cells' slots' → h' = (h1.1, h1.2.1 + 1, h1.2.2 + 6) → ev_ex2 ρ ρ' h.1.length → W p l e R s m args below meth c H' locs' cells' slots' Q (F0 m pc' ls' st')) →
  W p l e R s m args below meth c H locs cells slots Q (F0 m pc ls st)
theorem ev_cs_ok {ρ : Nat → Nat} {S : List Value} (h : ev_cs S = true) : ((S.map (ev_cv ρ)).map fun v => v.category).sum ≤ 8 := by
  unfold ev_cs at h
  have h1 := Nat.le_of_ble_eq_true h
  rw [List.map_map]
  have : ((fun v => Value.category v) ∘ ev_cv ρ) = fun v => Value.category v := by
    funext v
    exact ev_cv_cat ρ v
  rw [this]
  exact h1
theorem ev_nret {p : Program} {l : Launch} {e : Env} {R : Room} {s : State} {m : MethodId} {args : Array Value} {below : List Frame} {meth : Method} {c : Code} {H : Heap} {locs : List Loc} {cells slots : Nat} {cc : ByteArray} {Qc : Array Value → State → Outcome → State → Prop} {free : Addr → Prop} {x v : Int32} {ty : FieldType} (hexec : p.tables.exec = Jvm.exec) (hb : c.code = cc) (hr : meth.sig.returnType = some ty) (hn : narrow ty (.int x) = .int v)
    (hq : ∀ t : State, t.heap = H → s.WarmedH t.vm → Qc args s (.returned (some (.int v))) t) (hf : ∀ q ∈ locs, free q.base)
    {pc : Nat} {ls : Array Slot} (hdg : decode cc pc = .ok (.ireturn, 1)) (hlocks : meth.locks = false) : W p l e R s m args below meth c H locs cells slots (MQ below Qc args s cells slots free) (F0 m pc ls [.int x]) := by
  intro T hT X
  obtain ⟨fs, hret, hrun, hended, hW, hframe⟩ := X.leave (v := some (.int v)) (fun h => by rw [hr] at h; cases h)
  have hmeth' : T.vm.method? m = some meth := X.method'
  refine ⟨T.setFrames fs, ?_, .returned (some (.int v)), hrun, hended, hq _ hT hW, locs, ⟨⟨_, rfl⟩, hW, hframe⟩, hf⟩
  jvm_step X.here [X.here.top, hexec, hb, hdg, hmeth', hr, hn]
  (try refine ⟨rfl, ?_⟩); (try refine ⟨rfl, ?_⟩)
  first | (intro acts; rw [hret _ acts rfl rfl rfl]) | rw [hret _ _ rfl rfl rfl]
  exact Steps.refl _
theorem ev_ret_ok {G : ev_G} {B : ev_B} {M : ev_MD} {D : va_G} {T : Nat → ClassId} {κ ρ ρ' : Nat → Nat} {p : Program} {l : Launch} {e : Env} {R : Room} {s : State} {m : MethodId} {args : Array Value} {below : List Frame} {meth : Method} {c : Code} {H' : Heap} {locs' : List Loc} {cells' slots' : Nat} {h h' : ev_AH} {v : Option Value} {i : Instr} {pc' : Nat} {S' st' : List Value} {ls' : Array Slot} {XC : String → State → State → Prop}
    (F : ev_Fx G B M D T κ (va_A (ev_wl T ρ h.1) s.heap.size) p l s m args meth c) (hd : decode M.2.2.1 pc' = .ok (i, 1)) (he : ev_e M S' i = some v) (hR : ev_SR ρ' h'.1.length S' st') (hH : ev_HR D T (ev_cl B) (va_A (ev_wl T ρ h.1) s.heap.size) s.heap κ ρ' h.2.1 h.2.2 h' H' locs' cells' slots') (hx2 : ev_ex2 ρ ρ' h.1.length) :
    W p l e R s m args below meth c H' locs' cells' slots' (vx_MQ below (ev_Qc B D T ρ s.heap.size h h' (.inl v)) XC args s (h'.2.1 - h.2.1) (h'.2.2 - h.2.2) (va_A (ev_wl T ρ h.1) s.heap.size)) (F0 m pc' ls' st') := by
  obtain ⟨hx, hb, hml, hr, hlocks, hnm, hown, hts, hK, hE, hA, htr, hex, hex2, hdec, hcn⟩ := F
  obtain ⟨hP, hD, hS, hκ, hok, hc1, hc2⟩ := hH
  obtain rfl : cells' = h'.2.1 - h.2.1 := by omega
  obtain rfl : slots' = h'.2.2 - h.2.2 := by omega
  refine vx_ret ?_
  have key : ∀ (w : Option Value), (∀ x, w = some x → ev_ok h'.1.length x) → w = v → ∀ t : State, t.heap = H' → s.WarmedH t.vm → ev_Qc B D T ρ s.heap.size h h' (.inl v) args s (.returned (w.map (ev_cv ρ'))) t := fun w hw e9 t ht hW =>
    ⟨⟨ρ', v, rfl, by rw [e9], fun x hx9 => hw x (e9.trans hx9), hx2, by rw [ht]; exact hP, hD, hok⟩, hS.F ht⟩
  obtain ⟨rfl, hoks⟩ := hR
  unfold ev_e at he
  split at he
  · split at he
    · rename_i hn
      cases he
      exact W.vret hx hb (hr.trans hn) (fun t ht hW => key none (fun _ h9 => by cases h9) rfl t ht hW) hS.2.2 hd
    · cases he
  · split at he
    · rename_i x ty hn
      split at he
      · rename_i v9 hnv
        cases he
        exact ev_nret hx hb (hr.trans hn) hnv (fun t ht hW => key (some (.int v9)) (fun _ h9 => by cases h9; trivial) rfl t ht hW) hS.2.2 hd hlocks
      · cases he
    · cases he
  · split at he
    · rename_i a n9 hn
      cases he
      exact W.aret hx hb (hr.trans hn) (Or.inl ⟨_, rfl⟩) (Or.inr ⟨_, rfl⟩) (fun t ht hW => key (some (.ref a)) (fun _ h9 => by cases h9; exact hoks _ List.mem_cons_self) rfl t ht hW) hS.2.2 hd
    · rename_i a n9 hn
      cases he
      exact W.aret hx hb (hr.trans hn) (Or.inr ⟨_, rfl⟩) (Or.inr ⟨_, rfl⟩) (fun t ht hW => key (some (.ref a)) (fun _ h9 => by cases h9; exact hoks _ List.mem_cons_self) rfl t ht hW) hS.2.2 hd
    · rename_i n9 hn
      cases he
      exact W.aret hx hb (hr.trans hn) (Or.inl ⟨_, rfl⟩) (Or.inl rfl) (fun t ht hW => key (some .null) (fun _ h9 => by cases h9; trivial) rfl t ht hW) hS.2.2 hd
    · cases he
  · split at he
    · rename_i x hn
      cases he
      exact W.dret hx hb (hr.trans hn) (fun t ht hW => key (some (.double x)) (fun _ h9 => by cases h9; trivial) rfl t ht hW) hS.2.2 hd
    · cases he
  · split at he
    · rename_i x hn
      cases he
      exact W.fret hx hb (hr.trans hn) (fun t ht hW => key (some (.float x)) (fun _ h9 => by cases h9; trivial) rfl t ht hW) hS.2.2 hd
    · cases he
  · cases he

