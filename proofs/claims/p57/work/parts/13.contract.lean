/-! a method's contract: what the small machine says of it holds on the real one -/
def ev_rm (d mc ms : Nat) : Room := { frames := d + 20, cells := mc, slots := ms, locals := 60 * d + 400 }
theorem ev_rm_f {d mc ms : Nat} : (ev_rm d mc ms).frames = d + 20 := rfl
theorem ev_rm_l {d mc ms : Nat} : (ev_rm d mc ms).locals = 60 * d + 400 := rfl
def ev_cw (M : ev_MD) : Cond := match M.2.2.2.2.2.1 with
  | [] => .code M.2.1 M.2.2.1 M.2.2.2.1 M.2.2.2.2.1
  | q :: r => .codeWith M.2.1 M.2.2.1 M.2.2.2.1 M.2.2.2.2.1 (q :: r)
def ev_wd (B : ev_B) (M : ev_MD) : List Cond := ev_cw M :: ev_Tb B
/-- a method that stands in the tables -/
def ev_MK (B : ev_B) (M : ev_MD) : Prop := plainName M.2.1.cls = true ∧ (∀ q ∈ M.2.2.2.2.2.2, decode M.2.2.1 q.1 = .ok q.2) ∧ ev_cn B M.1 = M.2.1.cls ∧ (M.2.2.2.2.2.1 = [] ∨ M.1 = 11) ∧ ev_cw M ∈ ev_Tb B
def ev_Pc (G : ev_G) (B : ev_B) (D : va_G) (T : Nat → ClassId) (κ ρ : Nat → Nat) (sz : Nat) (h : ev_AH) (A : List Value) : Array Value → State → Prop :=
  va_Pc (A.map (ev_cv ρ)) (fun U => U.heap.size = sz ∧ va_P D (ev_cl B) (ev_wl T ρ h.1) U.heap ∧ va_K D (ev_cl B) (ev_tys T (ev_CN B)) U ∧ va_D (fun _ => True) (ev_wl T ρ h.1) ∧ ev_En G B κ (va_A (ev_wl T ρ h.1) sz) U U.heap)
def ev_aft (B : ev_B) (D : va_G) (T : Nat → ClassId) (ρ : Nat → Nat) (sz : Nat) (h : ev_AH) (ρ' : Nat → Nat) (h' : ev_AH) (Hh : Heap) : Prop :=
  ev_ex2 ρ ρ' h.1.length ∧ va_P D (ev_cl B) (ev_wl T ρ' h'.1) Hh ∧ va_D (va_A (ev_wl T ρ h.1) sz) (ev_wl T ρ' h'.1) ∧ ∀ c ∈ h'.1, ev_okc h'.1.length c
def ev_Qc (B : ev_B) (D : va_G) (T : Nat → ClassId) (ρ : Nat → Nat) (sz : Nat) (h h' : ev_AH) (o : ev_O) : Array Value → State → Outcome → State → Prop := fun _ st oc t =>
  (∃ (ρ' : Nat → Nat) (v : Option Value), o = .inl v ∧ oc = .returned (v.map (ev_cv ρ')) ∧ (∀ w, v = some w → ev_ok h'.1.length w) ∧ ev_aft B D T ρ sz h ρ' h' t.heap) ∧ va_F (va_A (ev_wl T ρ h.1) sz) st t
def ev_Xc (B : ev_B) (D : va_G) (T : Nat → ClassId) (ρ : Nat → Nat) (sz : Nat) (h h' : ev_AH) (o : ev_O) : String → State → State → Prop := fun E st t =>
  (∃ (ρ' : Nat → Nat) (x : Nat), o = .inr x ∧ E = ev_xn B x ∧ ev_aft B D T ρ sz h ρ' h' t.heap) ∧ va_F (va_A (ev_wl T ρ h.1) sz) st t
theorem ev_En_same {G : ev_G} {B : ev_B} {κ : Nat → Nat} {A : Nat → Prop} {u U : State} {H : Heap} (hng : ∀ w ∈ ev_NG B, w.onTables = true) (hv : u.vm = U.vm) (h : ev_En G B κ A u H) : ev_En G B κ A U H := by
  obtain ⟨h1, h2, h3, h4, h5, h6, h7, h8⟩ := h
  have hvm : u.vm.Alike U.vm := by rw [hv]; exact Vm.Alike.refl U.vm
  exact ⟨fun q hq => (h1 q hq).same hv.symm, fun q hq => (h2 q hq).moved hvm, fun a x ha hx => ev_cc_moved hvm (h3 a x ha hx), fun w hw => va_Nw.same (hng w hw) hv (h4 w hw), h5.moved hvm, h6.moved hvm, h7.moved hvm, fun q hq => (h8 q hq).moved hvm⟩
theorem ev_Pc_blind {G : ev_G} {B : ev_B} {D : va_G} {T : Nat → ClassId} {κ ρ : Nat → Nat} {sz : Nat} {h : ev_AH} {A : List Value} (hng : ∀ w ∈ ev_NG B, w.onTables = true) : FrameBlind (ev_Pc G B D T κ ρ sz h A) := by
  intro a U g mk q
  obtain ⟨q0, q1, qP, qK, qD, qE⟩ := q
  exact ⟨q0, q1, qP, va_K.moved (u := U) (U := U.calling g mk a) (Vm.Alike.refl U.vm) qK, qD, ev_En_same (u := U) (U := U.calling g mk a) hng rfl qE⟩
theorem ev_largs : ∀ (vs : List Value) (k i : Nat) (v : Value), (∀ w ∈ vs, w.category = 1) → vs[i]? = some v → (k + i, v) ∈ lv_args k vs
  | [], _, _, _, _, h => by simp at h
  | w :: vs, k, 0, v, hc, h => by
    simp at h
    subst h
    exact List.mem_cons_self
  | w :: vs, k, i + 1, v, hc, h => by
    simp only [lv_args]
    rw [if_neg (by rw [hc w List.mem_cons_self]; decide)]
    have := ev_largs vs (k + 1) i v (fun x hx => hc x (List.mem_cons_of_mem _ hx)) (by simpa using h)
    rw [show k + (i + 1) = k + 1 + i by omega]
    exact List.mem_cons_of_mem _ this
theorem ev_sl_len : ∀ (vs : List Value), (∀ w ∈ vs, w.category = 1) → (lg_sl vs).length = vs.length
  | [], _ => rfl
  | w :: vs, hc => by
    have := ev_sl_len vs (fun x hx => hc x (List.mem_cons_of_mem _ hx))
    simp only [lg_sl, List.flatMap_cons, List.length_append, List.length_cons] at this ⊢
    rw [if_neg (by rw [hc w List.mem_cons_self]; decide), this]
    simp
    omega
theorem ev_entry {ρ : Nat → Nat} {n : Nat} {M : ev_MD} {A : List Value} (m : MethodId) (h1 : A.all ev_cat1 = true) (h2 : A.length ≤ M.2.2.2.1) (hok : ∀ v ∈ A, ev_ok n v) : ∃ ls, entryFrame m (A.map (ev_cv ρ)).toArray M.2.2.2.1 = F0 m 0 ls [] ∧ ev_LR ρ n M.2.2.2.1 (ev_en M A) ls := by
  have hc : ∀ w ∈ A.map (ev_cv ρ), w.category = 1 := fun w hw => by
    obtain ⟨v, hv, rfl⟩ := List.mem_map.mp hw
    exact ev_cat1_ok ρ (List.all_eq_true.mp h1 v hv)
  have hlen := ev_sl_len _ hc
  rw [List.length_map] at hlen
  have hl := lv_entry (A.map (ev_cv ρ)) (n := M.2.2.2.1) (by rw [hlen]; exact h2)
  refine ⟨_, lg_entry_eq _ _ _, hl.1, by simp [ev_en]; omega, hl.2.1, fun i v hv => ?_⟩
  unfold ev_en at hv
  rcases Nat.lt_or_ge i A.length with hi | hi
  · rw [List.getElem?_append_left (by simpa using hi), List.getElem?_map] at hv
    cases hA : A[i]? with
    | none => rw [hA] at hv; cases hv
    | some w =>
      rw [hA] at hv
      cases hv
      refine ⟨hl.2.2 (i, ev_cv ρ v) ?_, hok v (List.mem_of_getElem? hA)⟩
      have := ev_largs (A.map (ev_cv ρ)) 0 i (ev_cv ρ v) hc (by rw [List.getElem?_map, hA]; rfl)
      rwa [Nat.zero_add] at this
  · rw [List.getElem?_append_right (by simpa using hi)] at hv
    rw [List.getElem?_replicate] at hv
    split at hv <;> cases hv
theorem ev_vA {A0 : Nat → Prop} {ws : va_W} {H0 H : Heap} {locs : List Loc} (hD : va_D A0 ws) (hS : va_S A0 H0 H locs) (hA : ∀ q, H0.size ≤ q → A0 q) : ∀ q, va_A ws H.size q → A0 q := by
  intro q h
  rcases h with ⟨k, e, h⟩ | h
  · exact hD.2 k (q, e) h
  · exact hA q (Nat.le_trans hS.1 h)
/-- a handler's class entry: it takes the exception (1), or doesn't (0) -/
def ev_V10 (G : ev_G) (B : ev_B) : Prop := ∀ (ct E : Nat), (ev_hc G ct E = some 1 → ct ≠ 0 ∧ ∃ nm : String, Cond.classLink (ev_cn B 11) ct nm ∈ ev_Tb B ∧ Cond.castable (ev_xn B E) nm ∈ ev_NG B) ∧ (ev_hc G ct E = some 0 → ct ≠ 0 ∧ ∃ nm : String, Cond.classLink (ev_cn B 11) ct nm ∈ ev_Tb B ∧ (ev_xn B E, nm) ∈ ev_NC B)
/-- the words of 'throw new E(text)' -/
def ev_V11 (G : ev_G) (B : ev_B) : Prop := ∀ (i is ic E : Nat), ev_ex G i is ic = some E → ∃ (names : List String) (tx : String) (a ix : Nat) (rx : ByteArray), Bundle.fit (ev_xn B E) = true ∧ (∀ n ∈ names, Bundle.fit n = true) ∧ names.length ≤ 5 ∧ Cond.classLink (ev_cn B 0) i (ev_xn B E) ∈ ev_Tb B ∧ Cond.initialized (ev_xn B E) ∈ ev_Tb B ∧ (ev_cn B 0, is, tx, a) ∈ ev_SS B ∧
  (∀ w ∈ vx_at9 (ev_cn B 0) ic (ev_xn B E) ix rx names, w ∈ ev_Tb B ∨ w ∈ ev_NG B) ∧ (∀ w ∈ Cond.classLink (ev_cn B 0) i (ev_xn B E) :: Cond.initialized (ev_xn B E) :: vx_at9 (ev_cn B 0) ic (ev_xn B E) ix rx names, vx_ot w = true) ∧
  decode rx 0 = .ok (.aload_n 0, 1) ∧ decode rx 1 = .ok (.aload_n 1, 1) ∧ decode rx 2 = .ok (.invokespecial ix, 3) ∧ decode rx 5 = .ok (.return_, 1)
def ev_Vn (B : ev_B) : Prop := (∀ w ∈ ev_NG B, w.onTables = true) ∧ (∀ w ∈ ev_NG B, ev_ngk w = true) ∧ (∀ w ∈ ev_Tb B, goodWord w = true)
theorem ev_hd_none {G : ev_G} {B : ev_B} {M : ev_MD} {s : State} {args : Array Value} {pc E : Nat} (hV : ev_V10 G B) (hts : ∀ w ∈ ev_Tb B, w.before args s = true) (hnc : ∀ q ∈ ev_NC B, va_Nc q.1 q.2 s) : ∀ (hh : List (Nat × Nat × Nat × Nat)), ev_hd G M pc E hh = some none →
    ∀ z ∈ tableOf hh, covers z pc = false ∨ (z.catchType ≠ 0 ∧ ∃ nm : String, (Cond.classLink (ev_cn B 11) z.catchType nm).before args s = true ∧ va_Nc (ev_xn B E) nm s)
  | [], _, z, hz => by cases hz
  | (lo, hi, tg, ct) :: r, h, z, hz => by
    unfold ev_hd at h
    rw [Bool.cond_eq_ite] at h
    have hz' : z = ⟨lo, hi, tg, ct⟩ ∨ z ∈ tableOf r := by simpa [tableOf] using hz
    split at h
    · split at h
      · split at h <;> cases h
      · rename_i hhc
        rcases hz' with rfl | hz'
        · obtain ⟨h0, nm, h1, h2⟩ := (hV ct E).2 hhc
          exact Or.inr ⟨h0, nm, hts _ h1, hnc _ h2⟩
        · exact ev_hd_none hV hts hnc r h z hz'
      · cases h
    · rename_i hcov
      rcases hz' with rfl | hz'
      · left
        rw [Bool.and_eq_true] at hcov
        show (decide (lo ≤ pc) && decide (pc < hi)) = false
        cases h1 : decide (lo ≤ pc) with
        | false => rfl
        | true =>
          cases h2 : decide (pc < hi) with
          | false => rfl
          | true => exact absurd ⟨Nat.ble_eq_true_of_le (of_decide_eq_true h1), Nat.ble_eq_true_of_le (of_decide_eq_true h2)⟩ hcov
      · exact ev_hd_none hV hts hnc r h z hz'
def ev_CT (B : ev_B) (M : ev_MD) (s : State) (args : Array Value) (pc E pc' j : Nat) (hh : List (Nat × Nat × Nat × Nat)) : Prop :=
  ∃ (pre : List ExceptionTableEntry) (x : ExceptionTableEntry) (suf : List ExceptionTableEntry) (nm : String), tableOf hh = pre ++ x :: suf ∧ (∀ z ∈ pre, covers z pc = false ∨ (z.catchType ≠ 0 ∧ ∃ nm : String, (Cond.classLink (ev_cn B 11) z.catchType nm).before args s = true ∧ va_Nc (ev_xn B E) nm s)) ∧ covers x pc = true ∧ x.catchType ≠ 0 ∧ Cond.classLink (ev_cn B 11) x.catchType nm ∈ ev_Tb B ∧ Cond.castable (ev_xn B E) nm ∈ ev_NG B ∧
      ((∃ k : Fin 4, ev_lk M.2.2.2.2.2.2 x.handlerPc = some (.astore_n k, 1) ∧ pc' = x.handlerPc + 1 ∧ j = k.val) ∨ (ev_lk M.2.2.2.2.2.2 x.handlerPc = some (.astore j, 2) ∧ pc' = x.handlerPc + 2))
theorem ev_hd_some {G : ev_G} {B : ev_B} {M : ev_MD} {s : State} {args : Array Value} {pc E pc' j : Nat} (hV : ev_V10 G B) (hts : ∀ w ∈ ev_Tb B, w.before args s = true) (hnc : ∀ q ∈ ev_NC B, va_Nc q.1 q.2 s) : ∀ (hh : List (Nat × Nat × Nat × Nat)), ev_hd G M pc E hh = some (some (pc', j)) →
    ev_CT B M s args pc E pc' j hh
  | [], h => by simp [ev_hd] at h
  | (lo, hi, tg, ct) :: r, h => by
    have hrest : (covers ⟨lo, hi, tg, ct⟩ pc = false ∨ (ct ≠ 0 ∧ ∃ nm : String, (Cond.classLink (ev_cn B 11) ct nm).before args s = true ∧ va_Nc (ev_xn B E) nm s)) → ev_hd G M pc E r = some (some (pc', j)) → ev_CT B M s args pc E pc' j ((lo, hi, tg, ct) :: r) := fun hp hr => by
      obtain ⟨pre, x, suf, nm, e1, e2, e3⟩ := ev_hd_some hV hts hnc r hr
      refine ⟨⟨lo, hi, tg, ct⟩ :: pre, x, suf, nm, ?_, ?_, e3⟩
      · show (⟨lo, hi, tg, ct⟩ : ExceptionTableEntry) :: tableOf r = _
        rw [e1]
        rfl
      · intro z hz
        rcases List.mem_cons.mp hz with rfl | hz
        · exact hp
        · exact e2 z hz
    unfold ev_hd at h
    rw [Bool.cond_eq_ite] at h
    split at h
    · rename_i hcov
      rw [Bool.and_eq_true] at hcov
      split at h
      · rename_i hhc
        obtain ⟨h0, nm, h1, h2⟩ := (hV ct E).1 hhc
        have hcv : covers (⟨lo, hi, tg, ct⟩ : ExceptionTableEntry) pc = true := by
          show (decide (lo ≤ pc) && decide (pc < hi)) = true
          rw [Bool.and_eq_true]
          exact ⟨decide_eq_true (Nat.le_of_ble_eq_true hcov.1), decide_eq_true (Nat.le_of_ble_eq_true hcov.2)⟩
        split at h
        · rename_i k hk
          cases h
          exact ⟨[], ⟨lo, hi, tg, ct⟩, tableOf r, nm, rfl, (fun z hz => absurd hz List.not_mem_nil), hcv, h0, h1, h2, Or.inl ⟨k, hk, rfl, rfl⟩⟩
        · rename_i k hk
          cases h
          exact ⟨[], ⟨lo, hi, tg, ct⟩, tableOf r, nm, rfl, (fun z hz => absurd hz List.not_mem_nil), hcv, h0, h1, h2, Or.inr ⟨hk, rfl⟩⟩
        · cases h
      · rename_i hhc
        obtain ⟨h0, nm, h1, h2⟩ := (hV ct E).2 hhc
        exact hrest (Or.inr ⟨h0, nm, hts _ h1, hnc _ h2⟩) h
      · cases h
    · rename_i hcov
      refine hrest (Or.inl ?_) h
      rw [Bool.and_eq_true] at hcov
      show (decide (lo ≤ pc) && decide (pc < hi)) = false
      cases h1 : decide (lo ≤ pc) with
      | false => rfl
      | true =>
        cases h2 : decide (pc < hi) with
        | false => rfl
        | true => exact absurd ⟨Nat.ble_eq_true_of_le (of_decide_eq_true h1), Nat.ble_eq_true_of_le (of_decide_eq_true h2)⟩ hcov
theorem ev_lk_mem {α : Type} {l : List (Nat × α)} {i : Nat} {v : α} (h : ev_lk l i = some v) : (i, v) ∈ l := by
  induction l with
  | nil => cases h
  | cons q r ih =>
    obtain ⟨k, w⟩ := q
    unfold ev_lk at h
    rw [Bool.cond_eq_ite] at h
    split at h
    · rename_i hk
      cases h
      rw [Nat.eq_of_beq_eq_true hk]
      exact List.mem_cons_self
    · exact List.mem_cons_of_mem _ (ih h)

