/-! writes, and cells that are made -/
def ev_V5 (G : ev_G) (B : ev_B) : Prop := ∀ (k i ci : Nat), ev_nw G k i = some ci → ∃ (C : String) (F : u_T) (N : Nat), ci < 50 ∧ (ev_cl B)[ci]? = some (C, F, N) ∧ Cond.classLink (ev_cn B k) i C ∈ ev_Tb B ∧ Cond.instantiable C N ∈ ev_Tb B ∧ Cond.initialized C ∈ ev_Tb B
/-- the clone of a byte array -/
def ev_V12 (G : ev_G) (B : ev_B) : Prop := ∀ (k i : Nat) (v : Value), ev_sk G 4 k i = some v → Cond.methodLink (ev_cn B k) i ⟨"[B", "clone", "()Ljava/lang/Object;"⟩ ∈ ev_Tb B ∧ Cond.sameMethod "[B" "java/lang/Object" "clone" "()Ljava/lang/Object;" ∈ ev_Tb B ∧ Cond.native ⟨"java/lang/Object", "clone", "()Ljava/lang/Object;"⟩ ∈ ev_Tb B ∧ Cond.instanceMethod ⟨"java/lang/Object", "clone", "()Ljava/lang/Object;"⟩ ∈ ev_Tb B ∧ Cond.selects "[B" ⟨"[B", "clone", "()Ljava/lang/Object;"⟩ ⟨"java/lang/Object", "clone", "()Ljava/lang/Object;"⟩ ∈ ev_Tb B ∧ Cond.castable "[B" "java/lang/Cloneable" ∈ ev_NG B
def ev_V6 (G : ev_G) (B : ev_B) : Prop := (∀ (k i : Nat) (v : Value), ev_sk G 2 k i = some v → Cond.classLink (ev_cn B k) i (ev_CN B) ∈ ev_Tb B) ∧ Cond.arrayClass .int ∈ ev_Tb B ∧ Cond.arrayClass .char ∈ ev_Tb B ∧ Cond.arrayClass .byte ∈ ev_Tb B ∧ ∃ (F : u_T) (N : Nat), (ev_cl B)[1]? = some (ev_CN B, F, N)
theorem ev_fupd {l : List Int32} {j : Nat} {x : Int32} (hj : j < l.length) : upd (fun k => l.getD k 0) j x = fun k => (l.set j x).getD k 0 := by
  funext k
  simp only [upd, List.getD, List.getElem?_set]
  by_cases h : k = j
  · subst h
    simp [hj]
  · simp [h, Ne.symm h]
theorem ev_fupdL {vs : List Value} {j : Nat} {x : Int64} (hj : j < vs.length) : vp_updL (fun k => ev_lg (vs.getD k .null)) j x = fun k => ev_lg ((vs.set j (.long x)).getD k .null) := by
  funext k
  simp only [vp_updL, List.getD, List.getElem?_set]
  by_cases h : k = j
  · subst h
    simp [hj, ev_lg]
  · simp [h, Ne.symm h]
theorem ev_fupdD {vs : List Value} {j : Nat} {x : UInt64} (hj : j < vs.length) : vf_upd (fun k => ev_db (vs.getD k .null)) j x = fun k => ev_db ((vs.set j (.double x)).getD k .null) := by
  funext k
  simp only [vf_upd, List.getD, List.getElem?_set]
  by_cases h : k = j
  · subst h
    simp [hj, ev_db]
  · simp [h, Ne.symm h]
theorem ev_fupdR {ρ : Nat → Nat} {vs : List Value} {j : Nat} {x : Nat} (hj : j < vs.length) : va_up (fun k => ev_rf ρ (vs.getD k .null)) j (some (ρ x)) = fun k => ev_rf ρ ((vs.set j (.ref x)).getD k .null) := by
  funext k
  simp only [va_up, List.getD, List.getElem?_set]
  by_cases h : k = j
  · subst h
    simp [hj, ev_rf]
  · simp [h, Ne.symm h]
theorem ev_in_lt {i : Int32} {n : Nat} (h : ev_in i n = true) : i.toNatClampNeg < n := by
  unfold ev_in at h
  rw [Bool.and_eq_true] at h
  exact Nat.le_of_ble_eq_true h.2
theorem ev_repl {α : Type} (n : Nat) (x d : α) (h : x = d) : (fun k => (List.replicate n x).getD k d) = fun _ => d := by
  funext k
  subst h
  simp [List.getD, List.getElem?_replicate]
  by_cases hk : k < n <;> simp [hk]
theorem ev_cA {D : va_G} {cl : List vw_C} {T : Nat → ClassId} {CN : String} {s : State} {cA : ClassId} {ty : FieldType} (k : Nat) (hk : (ev_tys T CN)[k]? = some (T k, ty)) (h : va_K D cl (ev_tys T CN ++ [(cA, ty)]) s) : cA = T k := by
  have h1 := (h.2 k (T k, ty) (by rw [List.getElem?_append_left (List.getElem?_eq_some_iff.mp hk).1]; exact hk)).2
  have h2 := (h.2 6 (cA, ty) rfl).2
  dsimp only at h1 h2
  cases ty with
  | object C =>
    obtain ⟨_, _, -, -, -, e1⟩ := h1
    obtain ⟨_, _, -, -, -, e2⟩ := h2
    exact Option.some.inj (e2.symm.trans e1)
  | _ => exact Option.some.inj (Eq.trans (Eq.symm h2) h1)
/-- the naming with one cell more -/
def ev_up (ρ : Nat → Nat) (n q : Nat) : Nat → Nat := fun a => if a = 1000 + n then q else ρ a
theorem ev_up_ext {ρ : Nat → Nat} {n q : Nat} : ev_ex2 ρ (ev_up ρ n q) n := fun a ha => by simp only [ev_up]; rw [if_neg (by omega)]
theorem ev_wr_HR {D : va_G} {T : Nat → ClassId} {cl : List vw_C} {A : Nat → Prop} {H0 : Heap} {κ ρ : Nat → Nat} {k0 s0 : Nat} {h : ev_AH} {H H1 : Heap} {locs locs1 : List Loc} {cells slots a : Nat} {x : ev_AC}
    (hH : ev_HR D T cl A H0 κ ρ k0 s0 h H locs cells slots) (ha : 1000 ≤ a) (hx : ev_okc h.1.length x) (hP : va_P D cl ((ev_wl T ρ h.1).set (a - 1000) (ρ a, ev_at T ρ x)) H1) (hD : va_D A ((ev_wl T ρ h.1).set (a - 1000) (ρ a, ev_at T ρ x))) (hS : va_S A H0 H1 locs1) : ev_HR D T cl A H0 κ ρ k0 s0 (ev_wr h a x) H1 locs1 cells slots := by
  obtain ⟨-, -, -, hκ, hok, hc1, hc2⟩ := hH
  have e : ev_wl T ρ (ev_wr h a x).1 = (ev_wl T ρ h.1).set (a - 1000) (ρ a, ev_at T ρ x) := by
    show ev_wl T ρ (h.1.set (a - 1000) x) = _
    rw [ev_wl_set, show 1000 + (a - 1000) = a by omega]
  refine ⟨by rw [e]; exact hP, by rw [e]; exact hD, hS, hκ, fun c hc => ?_, hc1, hc2⟩
  show ev_okc (h.1.set (a - 1000) x).length c
  rw [List.length_set]
  rcases List.mem_or_eq_of_mem_set hc with hc | rfl
  · exact hok c hc
  · exact hx
theorem ev_push_HR {D : va_G} {T : Nat → ClassId} {cl : List vw_C} {A : Nat → Prop} {H0 : Heap} {κ ρ : Nat → Nat} {k0 s0 : Nat} {h : ev_AH} {H H1 : Heap} {locs locs1 : List Loc} {cells slots q z : Nat} {x : ev_AC}
    (hH : ev_HR D T cl A H0 κ ρ k0 s0 h H locs cells slots) (hx : ev_okc 0 x) (hP : va_P D cl (ev_wl T ρ h.1 ++ [(q, ev_at T ρ x)]) H1) (hD : va_D A (ev_wl T ρ h.1 ++ [(q, ev_at T ρ x)])) (hS : va_S A H0 H1 locs1) :
    ev_HR D T cl A H0 κ (ev_up ρ h.1.length q) k0 s0 (h.1 ++ [x], h.2.1 + 1, h.2.2 + z) H1 locs1 (cells + 1) (slots + z) := by
  obtain ⟨-, -, -, hκ, hok, hc1, hc2⟩ := hH
  have e : ev_wl T (ev_up ρ h.1.length q) (h.1 ++ [x]) = ev_wl T ρ h.1 ++ [(q, ev_at T ρ x)] := by
    rw [ev_wl_push, ev_wl_ext ev_up_ext hok, ev_at_ext (ρ := ρ) (n := 0) (fun b hb => ev_up_ext b (by omega)) hx]
    simp [ev_up]
  refine ⟨by rw [e]; exact hP, by rw [e]; exact hD, hS, fun b hb => ?_, fun c hc => ?_, by simp only; omega, by simp only; omega⟩
  · rw [ev_up_ext b (by omega)]
    exact hκ b hb
  · rcases List.mem_append.mp hc with hc | hc
    · exact ev_okc_mono (hok c hc) (by simp)
    · rw [List.mem_singleton.mp hc]
      exact ev_okc_mono hx (Nat.zero_le _)
theorem ev_cv_default (ρ : Nat → Nat) (ty : FieldType) : ev_cv ρ (defaultValue ty) = defaultValue ty := by cases ty <;> rfl
theorem ev_ok_default (ty : FieldType) : ev_ok 0 (defaultValue ty) := by cases ty <;> trivial
theorem ev_blt_le {a b : Nat} (h : Nat.blt a b = false) : b ≤ a := by
  rcases Nat.lt_or_ge a b with h9 | h9
  · have h8 : Nat.blt a b = true := Nat.ble_eq_true_of_le h9
    rw [h] at h8
    cases h8
  · exact h9
theorem ev_replL (n : Nat) : (fun j => ev_lg ((List.replicate n (Value.long 0)).getD j .null)) = fun _ => (0 : Int64) := by
  funext k
  simp only [List.getD, List.getElem?_replicate]
  by_cases hk : k < n <;> simp [hk, ev_lg]
theorem ev_replD (n : Nat) : (fun j => ev_db ((List.replicate n (Value.double 0)).getD j .null)) = fun _ => (0 : UInt64) := by
  funext k
  simp only [List.getD, List.getElem?_replicate]
  by_cases hk : k < n <;> simp [hk, ev_db]
theorem ev_replR (ρ : Nat → Nat) (n : Nat) : (fun j => ev_rf ρ ((List.replicate n Value.null).getD j .null)) = fun _ => (none : Option Nat) := by
  funext k
  simp only [List.getD, List.getElem?_replicate]
  by_cases hk : k < n <;> simp [hk, ev_rf]
theorem ev_newSR {ρ : Nat → Nat} {h : ev_AH} (q : Nat) (r r' : List Value) (h1 : ev_SR ρ h.1.length r r') (n : Nat) (hn : n = h.1.length + 1) : ev_SR (ev_up ρ h.1.length q) n (.ref (1000 + h.1.length) :: r) (.ref q :: r') := by
  subst hn
  have h2 := ev_SR_push (v := .ref (1000 + h.1.length)) (ev_SR_ext (k := h.1.length + 1) h1 (ev_up_ext (q := q)) (Nat.le_succ _)) (show 1000 + h.1.length < 1000 + (h.1.length + 1) by omega)
  simpa [ev_cv, ev_up] using h2
section
variable {G : ev_G} {B : ev_B} {M : ev_MD} {D : va_G} {T : Nat → ClassId} {κ ρ : Nat → Nat} {A : Nat → Prop} {p : Program} {l : Launch} {e : Env} {R : Room} {s : State} {m : MethodId} {args : Array Value} {below : List Frame} {meth : Method} {c : Code} {H : Heap} {locs : List Loc} {cells slots k0 s0 : Nat} {Q : State → Prop} {pc n : Nat} {ls : Array Slot} {S S' st : List Value} {i : Instr} {h h' : ev_AH}
theorem ev_w_ok (F : ev_Fx G B M D T κ A p l s m args meth c) (hV3 : ev_V3 G B) (hV4 : ev_V4 G B) (hV5 : ev_V5 G B) (hV6 : ev_V6 G B) (hV7 : ev_V12 G B) (hRf : 20 ≤ R.frames) (hRl : 400 ≤ R.locals) (hsz : ls.size = M.2.2.2.1) (hd : decode M.2.2.1 pc = .ok (i, n)) (hl : ev_len i n = true) (hp : ev_w G M S h i = some (S', h')) (hR : ev_SR ρ h.1.length S st) (hH : ev_HR D T (ev_cl B) A s.heap κ ρ k0 s0 h H locs cells slots)
    (room : h'.2.1 ≤ k0 + R.cells ∧ h'.2.2 ≤ s0 + R.slots)
    (kk : ∀ ρ' st' H' locs' cells' slots', ev_ex2 ρ ρ' h.1.length → h.1.length ≤ h'.1.length → ev_SR ρ' h'.1.length S' st' → ev_HR D T (ev_cl B) A s.heap κ ρ' k0 s0 h' H' locs' cells' slots' → W p l e R s m args below meth c H' locs' cells' slots' Q (F0 m (pc + n) ls st')) : W p l e R s m args below meth c H locs cells slots Q (F0 m pc ls st) := by
  obtain ⟨hx, hb, hml, hr, hlocks, hnm, hown, hts, hK, hE, hA, htr, hex, hex2, hdec, hcn⟩ := F
  have hH0 := hH
  obtain ⟨hP, hD, hS, hκ, hok, hc1, hc2⟩ := hH
  cases i with
  | putfield k =>
    obtain rfl : n = 3 := Nat.eq_of_beq_eq_true hl
    simp only [ev_w] at hp
    split at hp
    · rename_i v a r
      split at hp
      · rename_i ci sl cj vs hf hcell
        split at hp
        · rename_i ty fin hft
          cases hcc : (Nat.beq ci cj && Nat.ble 1000 a && Nat.blt sl vs.length && ev_okv ty v && (!fin || (decide (M.2.1.name = "<init>") && Nat.beq ci M.1))) with
          | false => rw [hcc] at hp; cases hp
          | true =>
            rw [hcc] at hp
            rw [Bool.and_eq_true, Bool.and_eq_true, Bool.and_eq_true, Bool.and_eq_true] at hcc
            obtain ⟨⟨⟨⟨g1, g2⟩, g3⟩, g4⟩, g5⟩ := hcc
            obtain rfl := Nat.eq_of_beq_eq_true g1
            have ha := Nat.le_of_ble_eq_true g2
            have hsl := Nat.le_of_ble_eq_true g3
            unfold ev_okv at g4
            rw [Bool.and_eq_true, decide_eq_true_eq] at g4
            obtain ⟨e1, e2⟩ := Prod.mk.inj (Option.some.inj hp)
            subst e1; subst e2
            obtain ⟨r', rfl, h1, h2⟩ := ev_SR_cons hR
            obtain ⟨r', rfl, h3, h4⟩ := ev_SR_cons h1
            have hgl := ev_wl_at (T := T) (ρ := ρ) hcell ha
            obtain ⟨⟨hlt, C, F, N, hc, hslN, hw⟩, -⟩ := hV3 _ _ _ _ hf
            · rw [ev_at_obj (by omega)] at hgl
              obtain ⟨hin, hN, hft2, hnames, hcnc⟩ := hV4 _ _ _ _ hc
              obtain ⟨t1, t2, t3⟩ := hft2 _ _ hft
              have hnar : narrow ty (ev_cv ρ v) = ev_cv ρ v := by
                have := g4.1
                cases v <;> first | exact this | (simp only [ev_cv]; cases ty <;> rfl)
              have hfit : fits ty (ev_cv ρ v) = true := by
                have := g4.2
                cases v <;> first | exact this | (cases ty <;> first | rfl | exact this)
              have hty : ∀ j, j < N → parseFieldDescriptor (F j).2.2.1 = some ((ev_ft G ci).getD j (.int, false)).1 := fun j hj => by
                have hj2 : j < (ev_ft G ci).length := by omega
                have := (hft2 j _ (List.getElem?_eq_getElem hj2)).1
                rw [this, List.getD, List.getElem?_eq_getElem hj2]
                rfl
              have hxok : ev_okc h.1.length (.inr (ci, vs.set sl v)) := fun w hw => by
                rcases List.mem_or_eq_of_mem_set hw with hw | rfl
                · exact (hok _ (List.mem_of_getElem? hcell)) w hw
                · exact h2
              have hmap : (vs.map (ev_cv ρ)).set sl (ev_cv ρ v) = (vs.set sl v).map (ev_cv ρ) := List.map_set.symm
              cases hfin : fin with
              | true =>
                rw [hfin] at g5
                simp only [Bool.not_true, Bool.false_or, Bool.and_eq_true, decide_eq_true_eq] at g5
                have hkk : ci = M.1 := Nat.eq_of_beq_eq_true g5.2
                have hC : C = M.2.1.cls := by rw [← hcnc, hkk]; exact hcn
                rcases hw with hw | ⟨hnk, host, hw⟩
                · refine va_putF hx hb hts hin _ hty hnames hown hK hP hD hS (a - 1000) hgl hc sl hslN (by rw [← hcn]; exact hts _ hw) (fun _ h9 => h9) (t2.trans hfin) (hnm.trans g5.1) ((t3 hfin).trans hC) t1 hnar hfit (by rw [List.length_map]; exact hsl) hd (fun H1 locs1 hP1 hD1 hS1 => ?_)
                  rw [hmap, ← ev_at_obj (T := T) (by omega)] at hP1 hD1
                  exact kk ρ _ H1 locs1 cells slots (fun _ _ => rfl) (Nat.le_of_eq List.length_set.symm) ⟨h3.1, fun w9 hw9 => by rw [show (ev_wr h a (.inr (ci, vs.set sl v))).1.length = h.1.length from List.length_set]; exact h3.2 w9 hw9⟩ (ev_wr_HR hH0 ha hxok hP1 hD1 hS1)
                · exact absurd hkk hnk
              | false =>
                rcases hw with hw | ⟨hnk, host, hw⟩
                · refine va_put hx hb hts hin _ hty hnames hown hK hP hD hS (a - 1000) hgl hc sl hslN (by rw [← hcn]; exact hts _ hw) (fun _ h9 => h9) (t2.trans hfin) t1 hnar hfit (by rw [List.length_map]; exact hsl) hd (fun H1 locs1 hP1 hD1 hS1 => ?_)
                  rw [hmap, ← ev_at_obj (T := T) (by omega)] at hP1 hD1
                  exact kk ρ _ H1 locs1 cells slots (fun _ _ => rfl) (Nat.le_of_eq List.length_set.symm) ⟨h3.1, fun w9 hw9 => by rw [show (ev_wr h a (.inr (ci, vs.set sl v))).1.length = h.1.length from List.length_set]; exact h3.2 w9 hw9⟩ (ev_wr_HR hH0 ha hxok hP1 hD1 hS1)
                · refine va_putN hx hb hts hin _ hty hnames hown hK hP hD hS (a - 1000) hgl hc sl hslN (by rw [← hcn]; exact va_Nw.use rfl (hE.2.2.2.1 _ hw)) (fun _ h9 => h9) (t2.trans hfin) t1 hnar hfit (by rw [List.length_map]; exact hsl) hd (fun H1 locs1 hP1 hD1 hS1 => ?_)
                  rw [hmap, ← ev_at_obj (T := T) (by omega)] at hP1 hD1
                  exact kk ρ _ H1 locs1 cells slots (fun _ _ => rfl) (Nat.le_of_eq List.length_set.symm) ⟨h3.1, fun w9 hw9 => by rw [show (ev_wr h a (.inr (ci, vs.set sl v))).1.length = h.1.length from List.length_set]; exact h3.2 w9 hw9⟩ (ev_wr_HR hH0 ha hxok hP1 hD1 hS1)
        · cases hp
      · cases hp
    · cases hp
  | iastore =>
    obtain rfl : n = 1 := Nat.eq_of_beq_eq_true hl
    simp only [ev_w] at hp
    split at hp
    · rename_i x i a r
      split at hp
      · rename_i lz hcell
        cases hcc : (ev_in i lz.length && Nat.ble 1000 a) with
        | false => rw [hcc] at hp; cases hp
        | true =>
          rw [hcc] at hp
          rw [Bool.and_eq_true] at hcc
          have ha := Nat.le_of_ble_eq_true hcc.2
          obtain ⟨e1, e2⟩ := Prod.mk.inj (Option.some.inj hp)
          subst e1; subst e2
          obtain ⟨r', rfl, h1, h2⟩ := ev_SR_cons hR
          obtain ⟨r', rfl, h3, h4⟩ := ev_SR_cons h1
          obtain ⟨r', rfl, h5, h6⟩ := ev_SR_cons h3
          have hgl := ev_wl_at (T := T) (ρ := ρ) hcell ha
          refine va_iast hx hb hK hP hD hS (a - 1000) 0 hgl rfl (ev_in_vp hcc.1) hd (fun H1 locs1 hP1 hD1 hS1 => ?_)
          have hat : ev_at T ρ (.inl (0, lz.set i.toNatClampNeg x)) = .inl (T 0, lz.length, .inl (upd (fun k => lz.getD k 0) i.toNatClampNeg x)) := by
            rw [ev_fupd (ev_in_lt hcc.1)]
            simp only [ev_at, List.length_set]
          rw [← hat] at hP1 hD1
          exact kk ρ _ H1 locs1 cells slots (fun _ _ => rfl) (Nat.le_of_eq List.length_set.symm) ⟨h5.1, fun w9 hw9 => by rw [show (ev_wr h a (.inl (0, lz.set i.toNatClampNeg x))).1.length = h.1.length from List.length_set]; exact h5.2 w9 hw9⟩ (ev_wr_HR hH0 ha trivial hP1 hD1 hS1)
      · cases hp
    · cases hp
  | castore =>
    obtain rfl : n = 1 := Nat.eq_of_beq_eq_true hl
    simp only [ev_w] at hp
    split at hp
    · rename_i x i a r
      split at hp
      · rename_i lz hcell
        cases hcc : (ev_in i lz.length && Nat.ble 1000 a) with
        | false => rw [hcc] at hp; cases hp
        | true =>
          rw [hcc] at hp
          rw [Bool.and_eq_true] at hcc
          have ha := Nat.le_of_ble_eq_true hcc.2
          obtain ⟨e1, e2⟩ := Prod.mk.inj (Option.some.inj hp)
          subst e1; subst e2
          obtain ⟨r', rfl, h1, h2⟩ := ev_SR_cons hR
          obtain ⟨r', rfl, h3, h4⟩ := ev_SR_cons h1
          obtain ⟨r', rfl, h5, h6⟩ := ev_SR_cons h3
          have hgl := ev_wl_at (T := T) (ρ := ρ) hcell ha
          refine va_cast hx hb hK hP hD hS (a - 1000) 1 hgl rfl (ev_in_vp hcc.1) hd (fun H1 locs1 hP1 hD1 hS1 => ?_)
          have hat : ev_at T ρ (.inl (1, lz.set i.toNatClampNeg (vp_nar .char x))) = .inl (T 1, lz.length, .inl (upd (fun k => lz.getD k 0) i.toNatClampNeg (vp_nar .char x))) := by
            rw [ev_fupd (ev_in_lt hcc.1)]
            simp only [ev_at, List.length_set]
          rw [← hat] at hP1 hD1
          exact kk ρ _ H1 locs1 cells slots (fun _ _ => rfl) (Nat.le_of_eq List.length_set.symm) ⟨h5.1, fun w9 hw9 => by rw [show (ev_wr h a (.inl (1, lz.set i.toNatClampNeg (vp_nar .char x)))).1.length = h.1.length from List.length_set]; exact h5.2 w9 hw9⟩ (ev_wr_HR hH0 ha trivial hP1 hD1 hS1)
      · cases hp
    · cases hp
  | bastore =>
    obtain rfl : n = 1 := Nat.eq_of_beq_eq_true hl
    simp only [ev_w] at hp
    split at hp
    · rename_i x i a r
      split at hp
      · rename_i lz hcell
        cases hcc : (ev_in i lz.length && Nat.ble 1000 a) with
        | false => rw [hcc] at hp; cases hp
        | true =>
          rw [hcc] at hp
          rw [Bool.and_eq_true] at hcc
          have ha := Nat.le_of_ble_eq_true hcc.2
          obtain ⟨e1, e2⟩ := Prod.mk.inj (Option.some.inj hp)
          subst e1; subst e2
          obtain ⟨r', rfl, h1, h2⟩ := ev_SR_cons hR
          obtain ⟨r', rfl, h3, h4⟩ := ev_SR_cons h1
          obtain ⟨r', rfl, h5, h6⟩ := ev_SR_cons h3
          have hgl := ev_wl_at (T := T) (ρ := ρ) hcell ha
          refine va_bast hx hb hK hP hD hS (a - 1000) 2 hgl rfl (ev_in_vp hcc.1) hd (fun H1 locs1 hP1 hD1 hS1 => ?_)
          have hat : ev_at T ρ (.inl (2, lz.set i.toNatClampNeg (vp_nar .byte x))) = .inl (T 2, lz.length, .inl (upd (fun k => lz.getD k 0) i.toNatClampNeg (vp_nar .byte x))) := by
            rw [ev_fupd (ev_in_lt hcc.1)]
            simp only [ev_at, List.length_set]
          rw [← hat] at hP1 hD1
          exact kk ρ _ H1 locs1 cells slots (fun _ _ => rfl) (Nat.le_of_eq List.length_set.symm) ⟨h5.1, fun w9 hw9 => by rw [show (ev_wr h a (.inl (2, lz.set i.toNatClampNeg (vp_nar .byte x)))).1.length = h.1.length from List.length_set]; exact h5.2 w9 hw9⟩ (ev_wr_HR hH0 ha trivial hP1 hD1 hS1)
      · cases hp
    · cases hp
  | aastore =>
    obtain rfl : n = 1 := Nat.eq_of_beq_eq_true hl
    simp only [ev_w] at hp
    split at hp
    · rename_i x i a r
      split at hp
      · rename_i vs fs9 hcell hcx
        cases hcc : (ev_in i vs.length && Nat.ble 1000 a && Nat.ble 1000 x) with
        | false => rw [hcc] at hp; cases hp
        | true =>
          rw [hcc] at hp
          rw [Bool.and_eq_true, Bool.and_eq_true] at hcc
          have ha := Nat.le_of_ble_eq_true hcc.1.2
          have hxa := Nat.le_of_ble_eq_true hcc.2
          obtain ⟨e1, e2⟩ := Prod.mk.inj (Option.some.inj hp)
          subst e1; subst e2
          obtain ⟨r', rfl, h1, h2⟩ := ev_SR_cons hR
          obtain ⟨r', rfl, h3, h4⟩ := ev_SR_cons h1
          obtain ⟨r', rfl, h5, h6⟩ := ev_SR_cons h3
          have hgl := ev_wl_at (T := T) (ρ := ρ) hcell ha
          have hgx := ev_wl_at (T := T) (ρ := ρ) hcx hxa
          rw [ev_at_obj (by omega)] at hgx
          obtain ⟨-, -, -, -, F, N, hc1⟩ := hV6
          refine va_astq hx hb hK hP hD hS (a - 1000) 5 (x - 1000) 1 hgl rfl hgx hc1 (ev_in_vp hcc.1.1) hd (fun H1 locs1 hP1 hD1 hS1 => ?_)
          have hat : ev_at T ρ (.inr (102, vs.set i.toNatClampNeg (.ref x))) = .inl (T 5, vs.length, .inr (.inr (.inr (.inr (va_up (fun k => ev_rf ρ (vs.getD k .null)) i.toNatClampNeg (some (ρ x))))))) := by
            rw [ev_fupdR (ev_in_lt hcc.1.1)]
            simp only [ev_at, List.length_set]
          rw [← hat] at hP1 hD1
          have hxok : ev_okc h.1.length (.inr (102, vs.set i.toNatClampNeg (.ref x))) := fun w hw => by
            rcases List.mem_or_eq_of_mem_set hw with hw | rfl
            · exact (hok _ (List.mem_of_getElem? hcell)) w hw
            · exact h2
          exact kk ρ _ H1 locs1 cells slots (fun _ _ => rfl) (Nat.le_of_eq List.length_set.symm) ⟨h5.1, fun w9 hw9 => by rw [show (ev_wr h a (.inr (102, vs.set i.toNatClampNeg (.ref x)))).1.length = h.1.length from List.length_set]; exact h5.2 w9 hw9⟩ (ev_wr_HR hH0 ha hxok hP1 hD1 hS1)
      · cases hp
    · cases hp
  | newarray t =>
    obtain rfl : n = 2 := Nat.eq_of_beq_eq_true hl
    simp only [ev_w] at hp
    split at hp
    · rename_i n0 r
      cases hcc : (decide (n0 < 0) || Nat.blt 1000000 n0.toNatClampNeg) with
      | true => rw [hcc] at hp; cases hp
      | false =>
        rw [hcc] at hp
        rw [Bool.or_eq_false_iff, decide_eq_false_iff_not] at hcc
        have g1 := hcc.1
        have g2 : n0.toNatClampNeg ≤ 1000000 := ev_blt_le hcc.2
        obtain ⟨r', rfl, h1, h2⟩ := ev_SR_cons hR
        simp only [cond_false] at hp
        have hkey := fun q => ev_newSR (ρ := ρ) (h := h) q
        split at hp
        · rename_i hty
          obtain ⟨e1, e2⟩ := Prod.mk.inj (Option.some.inj hp)
          subst e1; subst e2
          have hrc : h.2.1 + 1 ≤ k0 + R.cells := room.1
          have hrs : h.2.2 + n0.toNatClampNeg ≤ s0 + R.slots := room.2
          refine va_newa hx hb (atype := t) (by rw [hty]; exact hts _ hV6.2.1) hty hK hP hD hS hA (n := n0) (N' := n0.toNatClampNeg) (a0 := (n0.toNatClampNeg, .inl (fun _ => 0))) (fun _ => rfl) g1 rfl (Nat.le_trans (Nat.mul_le_mul_right _ g2) (by decide)) (by omega) (by omega) hd (fun q cA H1 hK1 hP1 hD1 hS1 => ?_)
          obtain rfl := ev_cA 0 rfl hK1
          have hat : ev_at T ρ (.inl (0, List.replicate n0.toNatClampNeg 0)) = .inl (T 0, n0.toNatClampNeg, .inl (fun _ => 0)) := by
            simp only [ev_at, List.length_replicate]
            rw [ev_repl _ (0 : Int32) 0 rfl]
          rw [← hat] at hP1 hD1
          have hxok : ev_okc 0 (.inl (0, List.replicate n0.toNatClampNeg 0)) := trivial
          exact kk (ev_up ρ h.1.length q) _ H1 _ _ _ ev_up_ext (by simp) (hkey q r r' h1 _ (by simp)) (ev_push_HR (z := n0.toNatClampNeg) hH0 hxok hP1 hD1 hS1)
        · rename_i hty
          obtain ⟨e1, e2⟩ := Prod.mk.inj (Option.some.inj hp)
          subst e1; subst e2
          have hrc : h.2.1 + 1 ≤ k0 + R.cells := room.1
          have hrs : h.2.2 + n0.toNatClampNeg ≤ s0 + R.slots := room.2
          refine va_newa hx hb (atype := t) (by rw [hty]; exact hts _ hV6.2.2.1) hty hK hP hD hS hA (n := n0) (N' := n0.toNatClampNeg) (a0 := (n0.toNatClampNeg, .inl (fun _ => 0))) (fun _ => rfl) g1 rfl (Nat.le_trans (Nat.mul_le_mul_right _ g2) (by decide)) (by omega) (by omega) hd (fun q cA H1 hK1 hP1 hD1 hS1 => ?_)
          obtain rfl := ev_cA 1 rfl hK1
          have hat : ev_at T ρ (.inl (1, List.replicate n0.toNatClampNeg 0)) = .inl (T 1, n0.toNatClampNeg, .inl (fun _ => 0)) := by
            simp only [ev_at, List.length_replicate]
            rw [ev_repl _ (0 : Int32) 0 rfl]
          rw [← hat] at hP1 hD1
          have hxok : ev_okc 0 (.inl (1, List.replicate n0.toNatClampNeg 0)) := trivial
          exact kk (ev_up ρ h.1.length q) _ H1 _ _ _ ev_up_ext (by simp) (hkey q r r' h1 _ (by simp)) (ev_push_HR (z := n0.toNatClampNeg) hH0 hxok hP1 hD1 hS1)
        · rename_i hty
          obtain ⟨e1, e2⟩ := Prod.mk.inj (Option.some.inj hp)
          subst e1; subst e2
          have hrc : h.2.1 + 1 ≤ k0 + R.cells := room.1
          have hrs : h.2.2 + n0.toNatClampNeg ≤ s0 + R.slots := room.2
          refine va_newa hx hb (atype := t) (by rw [hty]; exact hts _ hV6.2.2.2.1) hty hK hP hD hS hA (n := n0) (N' := n0.toNatClampNeg) (a0 := (n0.toNatClampNeg, .inl (fun _ => 0))) (fun _ => rfl) g1 rfl (Nat.le_trans (Nat.mul_le_mul_right _ g2) (by decide)) (by omega) (by omega) hd (fun q cA H1 hK1 hP1 hD1 hS1 => ?_)
          obtain rfl := ev_cA 2 rfl hK1
          have hat : ev_at T ρ (.inl (2, List.replicate n0.toNatClampNeg 0)) = .inl (T 2, n0.toNatClampNeg, .inl (fun _ => 0)) := by
            simp only [ev_at, List.length_replicate]
            rw [ev_repl _ (0 : Int32) 0 rfl]
          rw [← hat] at hP1 hD1
          have hxok : ev_okc 0 (.inl (2, List.replicate n0.toNatClampNeg 0)) := trivial
          exact kk (ev_up ρ h.1.length q) _ H1 _ _ _ ev_up_ext (by simp) (hkey q r r' h1 _ (by simp)) (ev_push_HR (z := n0.toNatClampNeg) hH0 hxok hP1 hD1 hS1)
        · cases hp
    · cases hp
  | anewarray k =>
    obtain rfl : n = 3 := Nat.eq_of_beq_eq_true hl
    simp only [ev_w] at hp
    split at hp
    · rename_i n0 r
      cases hcc : (decide (n0 < 0) || Nat.blt 1000000 n0.toNatClampNeg || !(ev_sk G 2 M.1 k).isSome) with
      | true => rw [hcc] at hp; cases hp
      | false =>
        rw [hcc] at hp
        rw [Bool.or_eq_false_iff, Bool.or_eq_false_iff, decide_eq_false_iff_not] at hcc
        have g1 := hcc.1.1
        have g2 : n0.toNatClampNeg ≤ 1000000 := ev_blt_le hcc.1.2
        obtain ⟨v9, hv9⟩ : ∃ v9, ev_sk G 2 M.1 k = some v9 := Option.isSome_iff_exists.mp (by simpa using hcc.2)
        obtain ⟨r', rfl, h1, h2⟩ := ev_SR_cons hR
        simp only [cond_false] at hp
        obtain ⟨e1, e2⟩ := Prod.mk.inj (Option.some.inj hp)
        subst e1; subst e2
        have hrc : h.2.1 + 1 ≤ k0 + R.cells := room.1
        have hrs : h.2.2 + n0.toNatClampNeg ≤ s0 + R.slots := room.2
        refine va_newq hx hb (C := ev_CN B) hown (by rw [← hcn]; exact hts _ (hV6.1 _ _ _ hv9)) hE.2.2.2.2.2.2.1 hK hP hD hS hA (n := n0) (N' := n0.toNatClampNeg) g1 rfl (by omega) (by omega) (by omega) hd (fun q cA H1 hK1 hP1 hD1 hS1 => ?_)
        obtain rfl := ev_cA 5 rfl hK1
        have hat : ev_at T ρ (.inr (102, List.replicate n0.toNatClampNeg .null)) = .inl (T 5, n0.toNatClampNeg, .inr (.inr (.inr (.inr (fun _ => none))))) := by
          simp only [ev_at, List.length_replicate]
          rw [show (fun j => ev_rf ρ ((List.replicate n0.toNatClampNeg Value.null).getD j .null)) = fun _ => (none : Option Nat) from ev_replR _ _]
        rw [← hat] at hP1 hD1
        have hxok : ev_okc 0 (.inr (102, List.replicate n0.toNatClampNeg .null)) := fun w hw => by rw [(List.mem_replicate.mp hw).2]; trivial
        exact kk (ev_up ρ h.1.length q) _ H1 _ _ _ ev_up_ext (by simp) (ev_newSR q r r' h1 _ (by simp)) (ev_push_HR (z := n0.toNatClampNeg) hH0 hxok hP1 hD1 hS1)
    · cases hp
  | new k =>
    obtain rfl : n = 3 := Nat.eq_of_beq_eq_true hl
    simp only [ev_w] at hp
    split at hp
    · rename_i ci hci
      obtain ⟨e1, e2⟩ := Prod.mk.inj (Option.some.inj hp)
      subst e1; subst e2
      have hrc : h.2.1 + 1 ≤ k0 + R.cells := room.1
      have hrs : h.2.2 + (ev_ft G ci).length ≤ s0 + R.slots := room.2
      obtain ⟨C, F, N, hlt, hc, hw1, hw2, hw3⟩ := hV5 _ _ _ hci
      obtain ⟨hin, hN, hft2, hnames, hcnc⟩ := hV4 _ _ _ _ hc
      have hty : ∀ j, j < N → parseFieldDescriptor (F j).2.2.1 = some ((ev_ft G ci).getD j (.int, false)).1 := fun j hj => by
        have hj2 : j < (ev_ft G ci).length := by omega
        have := (hft2 j _ (List.getElem?_eq_getElem hj2)).1
        rw [this, List.getD, List.getElem?_eq_getElem hj2]
        rfl
      refine va_new (c0 := c) hx hb hts hin _ hty hown (by rw [← hcn]; exact hts _ hw1) (hts _ hw2) (hts _ hw3) hK hP hD hS hA hc (fs := ((ev_ft G ci).map (fun q => defaultValue q.1)).map (ev_cv ρ)) (fun j hj => ?_) (by omega) (by omega) hd (fun q H1 hP1 hD1 hS1 => ?_)
      · have hj2 : j < (ev_ft G ci).length := by omega
        simp only [vp_V, List.getD, List.getElem?_map, List.getElem?_eq_getElem hj2, Option.map, Option.getD, ev_cv_default]
      · rw [← ev_at_obj (T := T) (ρ := ρ) (show ci < 100 by omega)] at hP1 hD1
        have hxok : ev_okc 0 (.inr (ci, (ev_ft G ci).map (fun q => defaultValue q.1))) := fun w hw => by
          obtain ⟨q9, -, rfl⟩ := List.mem_map.mp hw
          exact ev_ok_default _
        rw [← hN]
        exact kk (ev_up ρ h.1.length q) _ H1 _ _ _ ev_up_ext (by simp) (ev_newSR q S st hR _ (by simp)) (ev_push_HR (z := (ev_ft G ci).length) hH0 hxok hP1 hD1 hS1)
    · cases hp
  | invokevirtual k =>
    obtain rfl : n = 3 := Nat.eq_of_beq_eq_true hl
    simp only [ev_w] at hp
    split at hp
    · rename_i v9 hv9
      split at hp
      · rename_i a r
        split at hp
        · rename_i lz hcell
          cases hcc : (Nat.ble 1000 a && ev_cs r && lz.all (fun x => fits .byte (.int x))) with
          | false => rw [hcc] at hp; cases hp
          | true =>
            rw [hcc] at hp
            rw [Bool.and_eq_true, Bool.and_eq_true] at hcc
            obtain ⟨e1, e2⟩ := Prod.mk.inj (Option.some.inj hp)
            subst e1; subst e2
            obtain ⟨w1, w2, w3, w4, w5, w6⟩ := hV7 _ _ _ hv9
            obtain ⟨r', rfl, h1, h2⟩ := ev_SR_cons hR
            have ha := Nat.le_of_ble_eq_true hcc.1.1
            have hgl := ev_wl_at (T := T) (ρ := ρ) hcell ha
            have hrc : h.2.1 + 1 ≤ k0 + R.cells := room.1
            have hrs : h.2.2 + lz.length ≤ s0 + R.slots := room.2
            have hcat : (r'.map fun v => v.category).sum ≤ 8 := by
              rw [h1.1]
              have h9 := Nat.le_of_ble_eq_true hcc.1.2
              rw [List.map_map]
              have e9 : ((fun v => Value.category v) ∘ ev_cv ρ) = fun v => Value.category v := by
                funext v
                cases v <;> rfl
              rw [e9]
              exact h9
            refine va_clone hx hb (hml.trans hsz.symm) (ad := "[B") hown (by rw [← hcn]; exact hts _ w1) (hts _ w2) (hts _ w3) (hts _ w4) (hts _ w5) (hE.2.2.2.1 _ w6) hK hP hD hS hA (a - 1000) 2 hgl rfl (hK.2 2 (T 2, .byte) rfl).2 (fun i v hv => ?_) (by omega) (by omega) (by omega) (by show slots + lz.length ≤ R.slots; omega) hd (fun q H1 hK1 hP1 hD1 hS1 => ?_)
            · obtain ⟨hlt9, hv⟩ := Array.getElem?_eq_some_iff.mp hv
              have hlt8 : i < lz.length := by
                have := hlt9
                rw [show (vp_cell (T 2) (lz.length, .inl (fun j => lz.getD j 0))).slots.size = lz.length from arrV_size _ _ _] at this
                exact this
              have hr9 : (vp_cell (T 2) (lz.length, .inl (fun j => lz.getD j 0))).slots[i]? = some (.int (lz.getD i 0)) := by
                show (arrV (T 2) lz.length (fun j => .int (lz.getD j 0))).slots[i]? = _
                exact arrV_read _ _ hlt8
              have hr8 := Array.getElem?_eq_some_iff.mpr ⟨hlt9, hv⟩
              rw [hr9] at hr8
              cases hr8
              have h9 := List.all_eq_true.mp hcc.2 (lz.getD i 0) (by
                rw [List.getD, List.getElem?_eq_getElem hlt8]
                exact List.getElem_mem hlt8)
              exact h9
            · have hxok : ev_okc 0 (.inl (2, lz)) := trivial
              exact kk (ev_up ρ h.1.length q) _ H1 _ _ _ ev_up_ext (by simp) (ev_newSR q r r' h1 _ (by simp)) (ev_push_HR (z := lz.length) hH0 hxok hP1 hD1 hS1)
        · cases hp
      · cases hp
    · cases hp
  | _ => simp [ev_w] at hp
end
