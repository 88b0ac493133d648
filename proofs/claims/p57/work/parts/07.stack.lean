/-! the steps that touch the stack alone -/
def ev_V1 (G : ev_G) (B : ev_B) : Prop := ∀ (k i : Nat) (v : Value), ev_sk G 0 k i = some v → (∃ x : Int32, v = .int x ∧ Cond.constant (ev_cn B k) i x ∈ ev_Tb B) ∨ (∃ (a : Nat) (tx : String), v = .ref a ∧ a < 1000 ∧ (ev_cn B k, i, tx, a) ∈ ev_SS B)
def ev_V2 (G : ev_G) (B : ev_B) : Prop := ∀ (k i : Nat) (v : Value), ev_sk G 1 k i = some v → ev_ok 0 v ∧ ∃ C n d : String, (C, n, d, v) ∈ ev_ST B ∧ Cond.fieldLink (ev_cn B k) i C n d ∈ ev_Tb B
theorem ev_cv_const {κ ρ : Nat → Nat} (h : ∀ a, a < 1000 → ρ a = κ a) {v : Value} (hv : ev_ok 0 v) : ev_cv ρ v = ev_cv κ v := by
  cases v <;> simp only [ev_cv]
  rw [h _ hv]
section
variable {G : ev_G} {B : ev_B} {M : ev_MD} {D : va_G} {T : Nat → ClassId} {κ ρ : Nat → Nat} {A : Nat → Prop} {p : Program} {l : Launch} {e : Env} {R : Room} {s : State} {m : MethodId} {args : Array Value} {below : List Frame} {meth : Method} {c : Code} {H : Heap} {locs : List Loc} {cells slots : Nat} {Q : State → Prop} {pc n nn : Nat} {ls : Array Slot} {S S' st : List Value} {i : Instr}
theorem ev_ldcSW {cc : ByteArray} {rest : List Value} (hexec : p.tables.exec = Jvm.exec) (hb : c.code = cc) {own tx : String} {index q : Nat} (hown : s.vm.findClass own = some m.cls) (hZ : vk_R own index tx q s) (hdg : decode cc pc = .ok (.ldc_w index, 3))
    (k : W p l e R s m args below meth c H locs cells slots Q (F0 m (pc + 3) ls (.ref q :: rest))) : W p l e R s m args below meth c H locs cells slots Q (F0 m pc ls rest) := by
  intro T hT X
  obtain ⟨t, a1, b1⟩ := k T hT X
  exact ⟨t, X.ldcStringW hexec (own := own) (text := tx) (index := index) (a := q) hown hZ.1 hZ.2 (g := F0 m pc ls rest) rfl (by rw [hb]; exact hdg) t a1, b1⟩
theorem ev_p_ok (F : ev_Fx G B M D T κ A p l s m args meth c) (hV1 : ev_V1 G B) (hV2 : ev_V2 G B) (hd : decode M.2.2.1 pc = .ok (i, n)) (hl : ev_len i n = true) (hp : ev_p G M.1 S i = some S') (hR : ev_SR ρ nn S st) (hS : va_S A s.heap H locs) (hκ : ∀ a, a < 1000 → ρ a = κ a)
    (kk : ∀ st', ev_SR ρ nn S' st' → W p l e R s m args below meth c H locs cells slots Q (F0 m (pc + n) ls st')) : W p l e R s m args below meth c H locs cells slots Q (F0 m pc ls st) := by
  obtain ⟨hx, hb, hml, hr, hlocks, hnm, hown, hts, hK, hE, hA, htr, hex, hex2, hdec, hcn⟩ := F
  cases i with
  | iconst k =>
    obtain rfl : n = 1 := Nat.eq_of_beq_eq_true hl
    obtain rfl := Option.some.inj hp
    exact lv_iconst hx hb hd rfl (kk _ (ev_SR_push (v := .int (Int32.ofInt k)) hR trivial))
  | bipush k =>
    obtain rfl : n = 2 := Nat.eq_of_beq_eq_true hl
    obtain rfl := Option.some.inj hp
    exact lv_bipush hx hb hd rfl (kk _ (ev_SR_push (v := .int (Int8.ofInt k).toInt32) hR trivial))
  | sipush k =>
    obtain rfl : n = 3 := Nat.eq_of_beq_eq_true hl
    obtain rfl := Option.some.inj hp
    exact lv_sipush hx hb hd rfl (kk _ (ev_SR_push (v := .int (Int16.ofInt k).toInt32) hR trivial))
  | lconst k =>
    obtain rfl : n = 1 := Nat.eq_of_beq_eq_true hl
    obtain rfl := Option.some.inj hp
    exact lv_lconst hx hb hd rfl (kk _ (ev_SR_push (v := .long (Int64.ofNat k.val)) hR trivial))
  | fconst k =>
    obtain rfl : n = 1 := Nat.eq_of_beq_eq_true hl
    simp only [ev_p] at hp
    cases hk : Nat.beq k.val 0 with
    | false => rw [hk] at hp; cases hp
    | true =>
      rw [hk] at hp
      obtain rfl := Option.some.inj hp
      obtain rfl : k = 0 := Fin.ext (Nat.eq_of_beq_eq_true hk)
      exact lv_fconst0 hx hb hd (kk _ (ev_SR_push (v := .float FP.fconst0) hR trivial))
  | dconst k =>
    obtain rfl : n = 1 := Nat.eq_of_beq_eq_true hl
    simp only [ev_p] at hp
    cases hk : Nat.beq k.val 0 with
    | false => rw [hk] at hp; cases hp
    | true =>
      rw [hk] at hp
      obtain rfl := Option.some.inj hp
      obtain rfl : k = 0 := Fin.ext (Nat.eq_of_beq_eq_true hk)
      exact lv_dconst0 hx hb hd (kk _ (ev_SR_push (v := .double FP.dconst0) hR trivial))
  | aconst_null =>
    obtain rfl : n = 1 := Nat.eq_of_beq_eq_true hl
    obtain rfl := Option.some.inj hp
    exact lv_null hx hb hd (kk _ (ev_SR_push (v := .null) hR trivial))
  | ldc k =>
    obtain rfl : n = 2 := Nat.eq_of_beq_eq_true hl
    simp only [ev_p] at hp
    split at hp
    · rename_i v hv
      obtain rfl := Option.some.inj hp
      rcases hV1 _ _ _ hv with ⟨x, rfl, hc⟩ | ⟨a, tx, rfl, ha, hc⟩
      · exact lv_ldc hx hb hown (by rw [← hcn]; exact hts _ hc) hd (kk _ (ev_SR_push (v := .int x) hR trivial))
      · refine va_ldcS hx hb (own := M.2.1.cls) (tx := tx) (q := κ a) hown ?_ hd ?_
        · rw [← hcn]
          exact hE.1 (ev_cn B M.1, k, tx, a) hc
        · rw [← hκ a ha]
          exact kk _ (ev_SR_push (v := .ref a) hR (Nat.lt_of_lt_of_le ha (Nat.le_add_right _ _)))
    · cases hp
  | ldc_w k =>
    obtain rfl : n = 3 := Nat.eq_of_beq_eq_true hl
    simp only [ev_p] at hp
    split at hp
    · rename_i v hv
      obtain rfl := Option.some.inj hp
      rcases hV1 _ _ _ hv with ⟨x, rfl, hc⟩ | ⟨a, tx, rfl, ha, hc⟩
      · exact lv_ldcw hx hb hown (by rw [← hcn]; exact hts _ hc) hd (kk _ (ev_SR_push (v := .int x) hR trivial))
      · refine ev_ldcSW hx hb (own := M.2.1.cls) (tx := tx) (q := κ a) hown ?_ hd ?_
        · rw [← hcn]
          exact hE.1 (ev_cn B M.1, k, tx, a) hc
        · rw [← hκ a ha]
          exact kk _ (ev_SR_push (v := .ref a) hR (Nat.lt_of_lt_of_le ha (Nat.le_add_right _ _)))
    · cases hp
  | getstatic k =>
    obtain rfl : n = 3 := Nat.eq_of_beq_eq_true hl
    simp only [ev_p] at hp
    split at hp
    · rename_i v hv
      obtain rfl := Option.some.inj hp
      obtain ⟨hok, C, nm, d, hq, hw⟩ := hV2 _ _ _ hv
      refine va_gets hx hb (C := C) (n := nm) (d := d) (v := ev_cv κ v) (own := M.2.1.cls) (ref := C) (hE.2.1 (C, nm, d, v) hq) hS hown (by rw [← hcn]; exact hts _ hw) (fun _ h9 => h9) hd ?_
      rw [← ev_cv_const hκ hok]
      exact kk _ (ev_SR_push hR (ev_ok_mono hok (Nat.zero_le _)))
    · cases hp
  | dup =>
    obtain rfl : n = 1 := Nat.eq_of_beq_eq_true hl
    simp only [ev_p] at hp
    split at hp
    · rename_i v r
      cases hc : ev_cat1 v with
      | false => rw [hc] at hp; cases hp
      | true =>
        rw [hc] at hp
        obtain rfl := Option.some.inj hp
        obtain ⟨r', rfl, h1, h2⟩ := ev_SR_cons hR
        exact lv_dup hx hb hd (ev_cat1_ok ρ hc) (kk _ (ev_SR_push (ev_SR_push h1 h2) h2))
    · cases hp
  | pop =>
    obtain rfl : n = 1 := Nat.eq_of_beq_eq_true hl
    simp only [ev_p] at hp
    split at hp
    · rename_i v r
      cases hc : ev_cat1 v with
      | false => rw [hc] at hp; cases hp
      | true =>
        rw [hc] at hp
        obtain rfl := Option.some.inj hp
        obtain ⟨r', rfl, h1, h2⟩ := ev_SR_cons hR
        exact lv_pop hx hb hd (ev_cat1_ok ρ hc) (kk _ h1)
    · cases hp
  | dup_x1 =>
    obtain rfl : n = 1 := Nat.eq_of_beq_eq_true hl
    simp only [ev_p] at hp
    split at hp
    · rename_i v w r
      cases hc : (ev_cat1 v && ev_cat1 w) with
      | false => rw [hc] at hp; cases hp
      | true =>
        rw [hc] at hp
        obtain rfl := Option.some.inj hp
        rw [Bool.and_eq_true] at hc
        obtain ⟨r', rfl, h1, h2⟩ := ev_SR_cons hR
        obtain ⟨r', rfl, h3, h4⟩ := ev_SR_cons h1
        exact lv_dup_x1 hx hb hd (ev_cat1_ok ρ hc.1) (ev_cat1_ok ρ hc.2) (kk _ (ev_SR_push (ev_SR_push (ev_SR_push h3 h2) h4) h2))
    · cases hp
  | dup2 =>
    obtain rfl : n = 1 := Nat.eq_of_beq_eq_true hl
    simp only [ev_p] at hp
    split at hp
    · rename_i v w r
      cases hc : (ev_cat1 v && ev_cat1 w) with
      | false => rw [hc] at hp; cases hp
      | true =>
        rw [hc] at hp
        obtain rfl := Option.some.inj hp
        rw [Bool.and_eq_true] at hc
        obtain ⟨r', rfl, h1, h2⟩ := ev_SR_cons hR
        obtain ⟨r', rfl, h3, h4⟩ := ev_SR_cons h1
        exact lv_dup2_11 hx hb hd (ev_cat1_ok ρ hc.1) (ev_cat1_ok ρ hc.2) (kk _ (ev_SR_push (ev_SR_push (ev_SR_push (ev_SR_push h3 h4) h2) h4) h2))
    · cases hp
  | iadd =>
    obtain rfl : n = 1 := Nat.eq_of_beq_eq_true hl
    obtain ⟨x, y, r, rfl, rfl⟩ := ev_i2_some hp
    obtain ⟨r', rfl, h1, h2⟩ := ev_SR_cons hR
    obtain ⟨r', rfl, h3, h4⟩ := ev_SR_cons h1
    exact lv_iadd hx hb hd (kk _ (ev_SR_push (v := .int _) h3 trivial))
  | isub =>
    obtain rfl : n = 1 := Nat.eq_of_beq_eq_true hl
    obtain ⟨x, y, r, rfl, rfl⟩ := ev_i2_some hp
    obtain ⟨r', rfl, h1, h2⟩ := ev_SR_cons hR
    obtain ⟨r', rfl, h3, h4⟩ := ev_SR_cons h1
    exact lv_isub hx hb hd (kk _ (ev_SR_push (v := .int _) h3 trivial))
  | imul =>
    obtain rfl : n = 1 := Nat.eq_of_beq_eq_true hl
    obtain ⟨x, y, r, rfl, rfl⟩ := ev_i2_some hp
    obtain ⟨r', rfl, h1, h2⟩ := ev_SR_cons hR
    obtain ⟨r', rfl, h3, h4⟩ := ev_SR_cons h1
    exact lv_imul hx hb hd (kk _ (ev_SR_push (v := .int _) h3 trivial))
  | iand =>
    obtain rfl : n = 1 := Nat.eq_of_beq_eq_true hl
    obtain ⟨x, y, r, rfl, rfl⟩ := ev_i2_some hp
    obtain ⟨r', rfl, h1, h2⟩ := ev_SR_cons hR
    obtain ⟨r', rfl, h3, h4⟩ := ev_SR_cons h1
    exact lv_iand hx hb hd (kk _ (ev_SR_push (v := .int _) h3 trivial))
  | ior =>
    obtain rfl : n = 1 := Nat.eq_of_beq_eq_true hl
    obtain ⟨x, y, r, rfl, rfl⟩ := ev_i2_some hp
    obtain ⟨r', rfl, h1, h2⟩ := ev_SR_cons hR
    obtain ⟨r', rfl, h3, h4⟩ := ev_SR_cons h1
    exact lv_ior hx hb hd (kk _ (ev_SR_push (v := .int _) h3 trivial))
  | ixor =>
    obtain rfl : n = 1 := Nat.eq_of_beq_eq_true hl
    obtain ⟨x, y, r, rfl, rfl⟩ := ev_i2_some hp
    obtain ⟨r', rfl, h1, h2⟩ := ev_SR_cons hR
    obtain ⟨r', rfl, h3, h4⟩ := ev_SR_cons h1
    exact lv_ixor hx hb hd (kk _ (ev_SR_push (v := .int _) h3 trivial))
  | ishl =>
    obtain rfl : n = 1 := Nat.eq_of_beq_eq_true hl
    obtain ⟨x, y, r, rfl, rfl⟩ := ev_i2_some hp
    obtain ⟨r', rfl, h1, h2⟩ := ev_SR_cons hR
    obtain ⟨r', rfl, h3, h4⟩ := ev_SR_cons h1
    exact lv_ishl hx hb hd (kk _ (ev_SR_push (v := .int _) h3 trivial))
  | ishr =>
    obtain rfl : n = 1 := Nat.eq_of_beq_eq_true hl
    obtain ⟨x, y, r, rfl, rfl⟩ := ev_i2_some hp
    obtain ⟨r', rfl, h1, h2⟩ := ev_SR_cons hR
    obtain ⟨r', rfl, h3, h4⟩ := ev_SR_cons h1
    exact lv_ishr hx hb hd (kk _ (ev_SR_push (v := .int _) h3 trivial))
  | iushr =>
    obtain rfl : n = 1 := Nat.eq_of_beq_eq_true hl
    obtain ⟨x, y, r, rfl, rfl⟩ := ev_i2_some hp
    obtain ⟨r', rfl, h1, h2⟩ := ev_SR_cons hR
    obtain ⟨r', rfl, h3, h4⟩ := ev_SR_cons h1
    exact lv_iushr hx hb hd rfl (kk _ (ev_SR_push (v := .int _) h3 trivial))
  | idiv =>
    obtain rfl : n = 1 := Nat.eq_of_beq_eq_true hl
    obtain ⟨x, y, r, rfl, rfl, hy⟩ := ev_i2n_some hp
    obtain ⟨r', rfl, h1, h2⟩ := ev_SR_cons hR
    obtain ⟨r', rfl, h3, h4⟩ := ev_SR_cons h1
    exact lv_idiv hx hb hd hy (kk _ (ev_SR_push (v := .int _) h3 trivial))
  | irem =>
    obtain rfl : n = 1 := Nat.eq_of_beq_eq_true hl
    obtain ⟨x, y, r, rfl, rfl, hy⟩ := ev_i2n_some hp
    obtain ⟨r', rfl, h1, h2⟩ := ev_SR_cons hR
    obtain ⟨r', rfl, h3, h4⟩ := ev_SR_cons h1
    exact lv_irem hx hb hd hy (kk _ (ev_SR_push (v := .int _) h3 trivial))
  | ineg =>
    obtain rfl : n = 1 := Nat.eq_of_beq_eq_true hl
    obtain ⟨x, r, rfl, rfl⟩ := ev_i1_some hp
    obtain ⟨r', rfl, h1, h2⟩ := ev_SR_cons hR
    exact lv_ineg hx hb hd (kk _ (ev_SR_push (v := _) h1 trivial))
  | i2l =>
    obtain rfl : n = 1 := Nat.eq_of_beq_eq_true hl
    obtain ⟨x, r, rfl, rfl⟩ := ev_i1_some hp
    obtain ⟨r', rfl, h1, h2⟩ := ev_SR_cons hR
    exact lv_i2l hx hb hd rfl (kk _ (ev_SR_push (v := _) h1 trivial))
  | i2b =>
    obtain rfl : n = 1 := Nat.eq_of_beq_eq_true hl
    obtain ⟨x, r, rfl, rfl⟩ := ev_i1_some hp
    obtain ⟨r', rfl, h1, h2⟩ := ev_SR_cons hR
    exact lv_i2b hx hb hd rfl (kk _ (ev_SR_push (v := _) h1 trivial))
  | i2c =>
    obtain rfl : n = 1 := Nat.eq_of_beq_eq_true hl
    obtain ⟨x, r, rfl, rfl⟩ := ev_i1_some hp
    obtain ⟨r', rfl, h1, h2⟩ := ev_SR_cons hR
    exact lv_i2c hx hb hd rfl (kk _ (ev_SR_push (v := _) h1 trivial))
  | i2f =>
    obtain rfl : n = 1 := Nat.eq_of_beq_eq_true hl
    obtain ⟨x, r, rfl, rfl⟩ := ev_i1_some hp
    obtain ⟨r', rfl, h1, h2⟩ := ev_SR_cons hR
    exact lv_i2f hx hb hd (kk _ (ev_SR_push (v := _) h1 trivial))
  | i2d =>
    obtain rfl : n = 1 := Nat.eq_of_beq_eq_true hl
    obtain ⟨x, r, rfl, rfl⟩ := ev_i1_some hp
    obtain ⟨r', rfl, h1, h2⟩ := ev_SR_cons hR
    exact lv_i2d hx hb hd (kk _ (ev_SR_push (v := _) h1 trivial))
  | fdiv =>
    obtain rfl : n = 1 := Nat.eq_of_beq_eq_true hl
    simp only [ev_p] at hp
    split at hp
    · rename_i y x r
      by_cases hc : FP.fdiv x y &&& 0x7fffffff ≤ 0x7f800000
      · simp only [hc, decide_true, cond_true] at hp
        obtain rfl := Option.some.inj hp
        obtain ⟨r', rfl, h1, h2⟩ := ev_SR_cons hR
        obtain ⟨r', rfl, h3, h4⟩ := ev_SR_cons h1
        exact lv_fdiv hx hb hd hc (kk _ (ev_SR_push (v := .float _) h3 trivial))
      · simp [hc] at hp
    · cases hp
  | ddiv =>
    obtain rfl : n = 1 := Nat.eq_of_beq_eq_true hl
    simp only [ev_p] at hp
    split at hp
    · rename_i y x r
      by_cases hc : FP.ddiv x y &&& 0x7fffffffffffffff ≤ 0x7ff0000000000000
      · simp only [hc, decide_true, cond_true] at hp
        obtain rfl := Option.some.inj hp
        obtain ⟨r', rfl, h1, h2⟩ := ev_SR_cons hR
        obtain ⟨r', rfl, h3, h4⟩ := ev_SR_cons h1
        exact lv_ddiv hx hb hd hc (kk _ (ev_SR_push (v := .double _) h3 trivial))
      · simp [hc] at hp
    · cases hp
  | f2d =>
    obtain rfl : n = 1 := Nat.eq_of_beq_eq_true hl
    simp only [ev_p] at hp
    split at hp
    · rename_i x r
      by_cases hc : FP.f2d x &&& 0x7fffffffffffffff ≤ 0x7ff0000000000000
      · simp only [hc, decide_true, cond_true] at hp
        obtain rfl := Option.some.inj hp
        obtain ⟨r', rfl, h1, h2⟩ := ev_SR_cons hR
        exact lv_f2d hx hb hd hc (kk _ (ev_SR_push (v := .double _) h1 trivial))
      · simp [hc] at hp
    · cases hp
  | lcmp =>
    obtain rfl : n = 1 := Nat.eq_of_beq_eq_true hl
    simp only [ev_p] at hp
    split at hp
    · rename_i y x r
      obtain rfl := Option.some.inj hp
      obtain ⟨r', rfl, h1, h2⟩ := ev_SR_cons hR
      obtain ⟨r', rfl, h3, h4⟩ := ev_SR_cons h1
      exact W.lcmp hx hb hd (kk _ (ev_SR_push (v := .int _) h3 trivial))
    · cases hp
  | dcmp o =>
    obtain rfl : n = 1 := Nat.eq_of_beq_eq_true hl
    simp only [ev_p] at hp
    split at hp
    · rename_i y x r
      obtain rfl := Option.some.inj hp
      obtain ⟨r', rfl, h1, h2⟩ := ev_SR_cons hR
      obtain ⟨r', rfl, h3, h4⟩ := ev_SR_cons h1
      exact lv_dcmp hx hb hd (kk _ (ev_SR_push (v := .int _) h3 trivial))
    · cases hp
  | fcmp o =>
    obtain rfl : n = 1 := Nat.eq_of_beq_eq_true hl
    simp only [ev_p] at hp
    split at hp
    · rename_i y x r
      obtain rfl := Option.some.inj hp
      obtain ⟨r', rfl, h1, h2⟩ := ev_SR_cons hR
      obtain ⟨r', rfl, h3, h4⟩ := ev_SR_cons h1
      exact lv_fcmp hx hb hd (kk _ (ev_SR_push (v := .int _) h3 trivial))
    · cases hp
  | _ => simp [ev_p] at hp
end
