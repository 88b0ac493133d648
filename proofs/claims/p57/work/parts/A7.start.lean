/-! THE CLAIM OUT OF ONE WALK OF THE LAW'S BODY. Your part is whole_start (and what it stands on); all else here is the same for every law, but numbers. -/
def R_law : String := "MirrorJuryLaw"
def lw_P (b : Addr) (xs : List Int32) (args : Array Value) (s : State) : Prop := args = #[.ref b] ∧ s.IntsAt b xs ∧ xs.length ≤ 260 ∧ (Jvm.Cond.and given_1 narrow_1).before args s = true
def lw_Q (_ : Array Value) (s : State) (o : Outcome) (t : State) : Prop := o = .returned (some (.int 1)) ∧ Framed s o t [] 702231 6987650
def lw_Z (below : List Frame) (a : Array Value) (s : State) : State → Prop := fun t => ∃ o, t.status = .running ∧ Ended t below o ∧ lw_Q a s o t
/-- the law's own end, with 1 on the stack, nothing written that was there before, its room as the claim has it -/
theorem lw_ret {p : Program} {l : Launch} {e : Env} {s : State} {m : MethodId} {below : List Frame} {meth : Method} {c : Code} {b : Nat} (hx : p.tables.exec = Jvm.exec) (hb : c.code = code) (hr : meth.sig.returnType = ret) (hlocks : meth.locks = false) {pc : Nat} {H : Heap} {ls : Array Slot} (hdg : decode code pc = .ok (.ireturn, 1)) : W p l e room_1 s m #[Value.ref b] below meth c H [] 702231 6987650 (lw_Z below #[Value.ref b] s) (F0 m pc ls [.int 1]) := by
  intro T hT X
  obtain ⟨fs, hret, hrun, hended, hW, hframe⟩ := X.leave (v := some (.int 1)) (hlocks := hlocks) (fun h => by rw [hr] at h; cases h)
  have hmeth' : T.vm.method? m = some meth := X.method'
  refine ⟨T.setFrames fs, ?_, .returned (some (.int 1)), hrun, hended, rfl, ⟨_, rfl⟩, hW, hframe⟩
  jvm_step X.here [X.here.top, hx, hb, hdg, hmeth', hr, ret, narrow_b1]
  (try refine ⟨rfl, ?_⟩); (try refine ⟨rfl, ?_⟩)
  first | (intro acts; rw [hret _ acts rfl rfl rfl]) | rw [hret _ _ rfl rfl rfl]
  exact Steps.refl _
/-- what holds at the law's entry: the machine, the code, the tables' words (any of lw_tbl by 'hts w (by decide +kernel)'), the script of L ints xs at the cell b, what the Statement gives of the start (any of its parts by flat_of_before) -/
def lw_At (p : Program) (s : State) (m : MethodId) (meth : Method) (c : Code) (b L : Nat) (xs : Nat → Int32) : Prop :=
  p.tables.exec = Jvm.exec ∧ c.code = code ∧ meth.sig.returnType = ret ∧ c.maxLocals = 5 ∧ s.vm.findClass R_law = some m.cls ∧ (∀ w ∈ lw_tbl, w.before #[Value.ref b] s = true) ∧ va_X b L xs s s.heap ∧ b < s.heap.size ∧ meth.locks = false ∧ (Jvm.Cond.and given_1 narrow_1).before #[Value.ref b] s = true ∧ meth.name = "law" ∧ c.exceptionTable.toList = []
theorem lw_retx {p : Program} {l : Launch} {e : Env} {s : State} {m : MethodId} {below : List Frame} {meth : Method} {c : Code} {b : Nat} {x : Int32} (hx : p.tables.exec = Jvm.exec) (hb : c.code = code) (hr : meth.sig.returnType = ret) (hlocks : meth.locks = false) (hn : narrow .boolean (.int x) = .int 1) {pc : Nat} {H : Heap} {ls : Array Slot} (hdg : decode code pc = .ok (.ireturn, 1)) : W p l e room_1 s m #[Value.ref b] below meth c H [] 702231 6987650 (lw_Z below #[Value.ref b] s) (F0 m pc ls [.int x]) := by
  intro T hT X
  obtain ⟨fs, hret, hrun, hended, hW, hframe⟩ := X.leave (v := some (.int 1)) (hlocks := hlocks) (fun h => by rw [hr] at h; cases h)
  have hmeth' : T.vm.method? m = some meth := X.method'
  refine ⟨T.setFrames fs, ?_, .returned (some (.int 1)), hrun, hended, rfl, ⟨_, rfl⟩, hW, hframe⟩
  jvm_step X.here [X.here.top, hx, hb, hdg, hmeth', hr, ret, hn]
  (try refine ⟨rfl, ?_⟩); (try refine ⟨rfl, ?_⟩)
  first | (intro acts; rw [hret _ acts rfl rfl rfl]) | rw [hret _ _ rfl rfl rfl]
  exact Steps.refl _
theorem ev_e_int {M : ev_MD} {S : List Value} {i : Instr} {v : Int32} (h : ev_e M S i = some (some (.int v))) (hr : M.2.2.2.2.1 = some .boolean) : i = .ireturn ∧ ∃ x, S = [.int x] ∧ narrow .boolean (.int x) = .int v := by
  unfold ev_e at h
  split at h
  · split at h <;> cases h
  · split at h
    · rename_i x ty hn
      rw [hr] at hn
      cases hn
      split at h
      · rename_i w hw
        cases h
        exact ⟨rfl, x, rfl, hw⟩
      · cases h
    · cases h
  · split at h <;> cases h
  · split at h <;> cases h
  · split at h <;> cases h
  · cases h
theorem whole_flags {l : Launch} (h : l.flags = flags0) : l.stackTraces = false := by
  unfold Launch.stackTraces
  rw [h]
  decide +kernel
/-- the script, a constant cell -/
theorem whole_xs {s : State} {b L : Nat} {xs : Nat → Int32} {xl : List Int32} (hxl : xl = (List.range L).map xs) (hX : va_X b L xs s s.heap) : va_T .int (zk #[Value.ref b] s 0) xl.length (fun j => .int (xl.getD j 0)) (fun q : Nat => s.heap.size ≤ q) s s.heap := by
  obtain ⟨scr, h1, h2, h3, h4, h5⟩ := hX
  have e0 : zk #[Value.ref b] s 0 = b := zk_of (t := .arg 0) (by decide +kernel) rfl
  have hl : xl.length = L := by rw [hxl]; simp
  have hbl : b < s.heap.size := (Array.getElem?_eq_some_iff.mp h1).1
  rw [e0, hl]
  refine ⟨scr, h1, h2, h3, by omega, by rw [h4], fun j hj => ?_, Nat.not_le.mpr hbl⟩
  have e : xl.getD j 0 = xs j := by
    rw [hxl, List.getD_eq_getElem?_getD, List.getElem?_map, List.getElem?_range hj]
    rfl
  show scr.slots[j]? = some (Value.int (xl.getD j 0))
  rw [h5 j hj, e]
/-- the small machine's run of the law -/
theorem whole_run {xl : List Int32} {v9 : Value} (hl : xl.length ≤ 260) (h9 : ev_cat1 v9 = true) : ∃ (n : Nat) (h' : ev_AH), ev_F (ev_G0 xl v9) n 17 m_law 0 (ev_en m_law [.ref 0]) [] ([], 0, 0) = some (.inl (some (.int 1)), h') ∧ h'.2.1 ≤ 702231 ∧ h'.2.2 ≤ 6987650 := by
  obtain ⟨h', r, k1, k2⟩ := lw_all (g := (xl, v9)) (d := 0) h9 (show xl.length < 1000000 by omega)
  obtain ⟨⟨n, hF⟩, -⟩ := r
  exact ⟨n, h', hF, by omega, by omega⟩
set_option maxHeartbeats 4000000 in
/-- from the entry, for every script, the law comes to its end with true -/
theorem whole_start {p : Program} {e : Env} {s : State} {m : MethodId} {below : List Frame} {meth : Method} {c : Code} (l : Launch) (hflags : l.flags = flags0) {b L : Nat} {xs : Nat → Int32} (hL : L ≤ 260) (C0 : lw_At p s m meth c b L xs) : W p l e room_1 s m #[Value.ref b] below meth c s.heap [] 0 0 (lw_Z below #[Value.ref b] s) (entryFrame m ([Value.ref b] : List Value).toArray 5) := by
  obtain ⟨hx, hb, hr, hml, hown, hts, hX, hbl, hlocks, hgv, hnm, htab⟩ := id C0
  have hn : ∀ w ∈ zNW, w.before #[Value.ref b] s = true := flat_of_before _ hgv
  have hA : ∀ a : Nat, a < s.heap.size → ¬ (fun q : Nat => s.heap.size ≤ q) a := fun a h => Nat.not_le.mpr h
  obtain ⟨v9, h9a, h9b⟩ := ze_v9 hn
  obtain ⟨dC, dI, hK1⟩ := ze_cl hts
  obtain ⟨T, hK2⟩ := ze_tys hts
  obtain ⟨xl, hxl⟩ : ∃ xl : List Int32, xl = (List.range L).map xs := ⟨_, rfl⟩
  have hlen : xl.length = L := by rw [hxl]; simp
  have h9 : ev_cat1 v9 = true := by rcases h9a with rfl | rfl <;> rfl
  have h90 : ev_ok 0 v9 := by
    rcases h9a with rfl | rfl
    · trivial
    · show 902 < 1000 + 0
      decide
  obtain ⟨n, h', hF, hc, hs⟩ := whole_run (xl := xl) (by omega) h9
  have e0 : zk #[Value.ref b] s 0 = b := zk_of (t := .arg 0) (by decide +kernel) rfl
  obtain ⟨ls, hls, hLR⟩ := ev_entry (ρ := zk #[Value.ref b] s) (n := 0) (M := m_law) (A := [.ref 0]) m (by decide +kernel) (by decide +kernel) (fun v hv => by rw [List.mem_singleton.mp hv]; show 0 < 1000 + 0; decide)
  have hls : entryFrame m ([Value.ref b] : List Value).toArray 5 = F0 m 0 ls [] := by
    rw [← hls, show ([Value.ref 0] : List Value).map (ev_cv (zk #[Value.ref b] s)) = [Value.ref b] by show [Value.ref (zk #[Value.ref b] s 0)] = [Value.ref b]; rw [e0]]
    rfl
  rw [hls]
  have hFx : ev_Fx (ev_G0 xl v9) (ev_B0 v9) m_law (dC, dI) T (zk #[Value.ref b] s) (fun q : Nat => s.heap.size ≤ q) p l s m #[Value.ref b] meth c :=
    ⟨hx, hb, hml, hr, hlocks, hnm, hown, ze_Tb hts, ⟨hK1, hK2⟩, ze_En hts hn hA h9b (whole_xs hxl hX), fun q h => h, whole_flags hflags, htab, Or.inl rfl, k_law, rfl⟩
  have hHR : ev_HR (dC, dI) T (ev_cl (ev_B0 v9)) (fun q : Nat => s.heap.size ≤ q) s.heap (zk #[Value.ref b] s) (zk #[Value.ref b] s) 0 0 ([], 0, 0) s.heap [] 0 0 :=
    ⟨fun k q h => (by cases h), ⟨fun i j p q h => (by cases h), fun k q h => (by cases h)⟩, va_S.rf, fun a _ => rfl, fun c h => (by cases h), rfl, rfl⟩
  refine ev_sound (vVV xl h90) n 17 m_law 0 (ev_en m_law [.ref 0]) [] ([], 0, 0) (.inl (some (.int 1))) h' hF (dC, dI) T (zk #[Value.ref b] s) (zk #[Value.ref b] s) (fun q : Nat => s.heap.size ≤ q) p l e room_1 s m #[Value.ref b] below meth c s.heap [] 0 0 0 0 (lw_Z below #[Value.ref b] s) ls [] hFx ⟨rfl, fun v hv => (by cases hv)⟩ hLR hHR (Nat.le_of_ble_eq_true rfl) (Nat.le_of_ble_eq_true rfl) (by show h'.2.1 ≤ 0 + 702231; omega) (by show h'.2.2 ≤ 0 + 6987650; omega) ?_ ?_ ?_
  · intro v i pc' S' st' ls' ρ' H' locs' cells' slots' ho hd he hSR hHR' hx2
    cases ho
    obtain ⟨-, -, hS, -, -, hc1, hc2⟩ := hHR'
    obtain ⟨hst, -⟩ := hSR
    subst hst
    refine va_forget (fun q hq => hS.2.2 q hq) ?_
    refine W.widen (k := 702231) (n := 6987650) (by omega) (by omega) ?_
    obtain ⟨rfl, x, rfl, hw⟩ := ev_e_int he rfl
    exact lw_retx hx hb hr hlocks hw hd
  · intro E q ce pc' ls' rest ρ' H' locs' cells' slots' ho
    cases ho
  · intro E j pc' S' st' ls' ρ' h1 H' locs' cells' slots' ho
    cases ho
