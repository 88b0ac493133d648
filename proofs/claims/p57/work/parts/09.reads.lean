/-! reads of cells -/
def ev_V3b (B : ev_B) (k i ci sl : Nat) : Prop := (ci < 50 ∧ ∃ (C : String) (F : u_T) (N : Nat), (ev_cl B)[ci]? = some (C, F, N) ∧ sl < N ∧ (Cond.fieldLink (ev_cn B k) i (F sl).1 (F sl).2.1 (F sl).2.2.1 ∈ ev_Tb B ∨ (ci ≠ k ∧ ∃ host, Cond.fieldLinkNest (ev_cn B k) i (F sl).1 (F sl).2.1 (F sl).2.2.1 host ∈ ev_NG B))) ∧
  (ci = 8 → sl < 2 → Cond.fieldLink (ev_cn B k) i "java/lang/String" (ev_sfn sl).1 (ev_sfn sl).2 ∈ ev_Tb B)
def ev_V3 (G : ev_G) (B : ev_B) : Prop := ∀ (k i ci sl : Nat), ev_fld G k i = some (ci, sl) → ev_V3b B k i ci sl
def ev_V4 (G : ev_G) (B : ev_B) : Prop := ∀ (ci : Nat) (C : String) (F : u_T) (N : Nat), (ev_cl B)[ci]? = some (C, F, N) → (∀ w ∈ u_ws C F N, w ∈ ev_Tb B) ∧ (ev_ft G ci).length = N ∧ (∀ (j : Nat) (q : FieldType × Bool), (ev_ft G ci)[j]? = some q → parseFieldDescriptor (F j).2.2.1 = some q.1 ∧ (F j).2.2.2 = q.2 ∧ (q.2 = true → (F j).1 = C)) ∧
  (∀ a, a < N → ∀ b, b < N → a ≠ b → (F a).2.1 ≠ (F b).2.1) ∧ ev_cn B ci = C
/-- constant cells: only cells that nobody writes; the only objects among them are texts -/
def ev_V0 (G : ev_G) : Prop := ∀ (a : Nat) (x : ev_AC), ev_cst G a = some x → match x with
  | .inl (k, _) => k = 0 ∨ k = 2
  | .inr (ci, vs) => ci = 8 ∧ vs.length ≤ 2 ∧ ∀ v ∈ vs, ev_ok 0 v
/-- the class of byte arrays, in a checkcast -/
def ev_V13 (G : ev_G) (B : ev_B) : Prop := ∀ (k i : Nat) (v : Value), ev_sk G 3 k i = some v → Cond.classLink (ev_cn B k) i "[B" ∈ ev_Tb B
theorem ev_in_vp {i : Int32} {n : Nat} (h : ev_in i n = true) : vp_in i n := by
  unfold ev_in at h
  rw [Bool.and_eq_true] at h
  intro h2
  rcases h2 with h2 | h2
  · simp [h2] at h
  · exact absurd (Nat.le_of_ble_eq_true h.2) (by omega)
theorem ev_rd_lo {G : ev_G} {h : ev_AH} {a : Nat} {x : ev_AC} (hr : ev_rd G h a = some x) (ha : a < 1000) : ev_cst G a = some x := by
  have h1 : Nat.blt a 1000 = true := Nat.ble_eq_true_of_le ha
  unfold ev_rd at hr
  rw [h1] at hr
  exact hr
theorem ev_rd_hi {G : ev_G} {h : ev_AH} {a : Nat} {x : ev_AC} (hr : ev_rd G h a = some x) (ha : 1000 ≤ a) : h.1[a - 1000]? = some x := by
  have h1 : Nat.blt a 1000 = false := by
    cases hb : Nat.blt a 1000 with
    | false => rfl
    | true => exact absurd (Nat.le_of_ble_eq_true hb) (by omega)
  unfold ev_rd at hr
  rw [h1] at hr
  exact hr
theorem ev_wl_at {T : Nat → ClassId} {ρ : Nat → Nat} {σ : List ev_AC} {a : Nat} {x : ev_AC} (h : σ[a - 1000]? = some x) (ha : 1000 ≤ a) : (ev_wl T ρ σ)[a - 1000]? = some (ρ a, ev_at T ρ x) := by
  have h1 := ev_wl_get (T := T) (ρ := ρ) h
  rwa [show 1000 + (a - 1000) = a by omega] at h1
section
variable {G : ev_G} {B : ev_B} {M : ev_MD} {D : va_G} {T : Nat → ClassId} {κ ρ : Nat → Nat} {A : Nat → Prop} {p : Program} {l : Launch} {e : Env} {R : Room} {s : State} {m : MethodId} {args : Array Value} {below : List Frame} {meth : Method} {c : Code} {H : Heap} {locs : List Loc} {cells slots k0 s0 : Nat} {Q : State → Prop} {pc n : Nat} {ls : Array Slot} {S S' st : List Value} {i : Instr} {h : ev_AH}
theorem ev_alen_ok {cc : ByteArray} {rest : List Value} {ws : va_W} {x : ev_AC} {a : Nat} (hx : p.tables.exec = Jvm.exec) (hb : c.code = cc) (hK : va_K D (ev_cl B) (ev_tys T (ev_CN B)) s) (hP : va_P D (ev_cl B) ws H) (q0 : Nat) (ha : ws[q0]? = some (a, ev_at T ρ x)) (hx2 : (∃ cj vs, x = .inr (cj, vs) ∧ 100 ≤ cj ∧ cj ≤ 102) ∨ ∃ k lz, x = .inl (k, lz) ∧ k ≤ 2) (hd : decode cc pc = .ok (.arraylength, 1))
    (kk : W p l e R s m args below meth c H locs cells slots Q (F0 m (pc + 1) ls (.int (Int32.ofNat (match x with
      | .inl (_, lz) => lz.length
      | .inr (_, vs) => vs.length)) :: rest))) : W p l e R s m args below meth c H locs cells slots Q (F0 m pc ls (.ref a :: rest)) := by
  rcases hx2 with ⟨cj, vs, rfl, h1, h2⟩ | ⟨k, lz, rfl, h1⟩
  · rcases (show cj = 100 ∨ cj = 101 ∨ cj = 102 by omega) with rfl | rfl | rfl
    · exact va_alen hx hb hK hP q0 3 ha rfl rfl hd kk
    · exact va_alen hx hb hK hP q0 4 ha rfl rfl hd kk
    · exact va_alen hx hb hK hP q0 5 ha rfl rfl hd kk
  · rcases (show k = 0 ∨ k = 1 ∨ k = 2 by omega) with rfl | rfl | rfl
    · exact va_alen hx hb hK hP q0 0 ha rfl rfl hd kk
    · exact va_alen hx hb hK hP q0 1 ha rfl rfl hd kk
    · exact va_alen hx hb hK hP q0 2 ha rfl rfl hd kk
theorem ev_r_ok (F : ev_Fx G B M D T κ A p l s m args meth c) (hV0 : ev_V0 G) (hV3 : ev_V3 G B) (hV4 : ev_V4 G B) (hV5 : ev_V13 G B) (hd : decode M.2.2.1 pc = .ok (i, n)) (hl : ev_len i n = true) (hp : ev_r G M.1 S h i = some S') (hR : ev_SR ρ h.1.length S st) (hH : ev_HR D T (ev_cl B) A s.heap κ ρ k0 s0 h H locs cells slots)
    (kk : ∀ st', ev_SR ρ h.1.length S' st' → W p l e R s m args below meth c H locs cells slots Q (F0 m (pc + n) ls st')) : W p l e R s m args below meth c H locs cells slots Q (F0 m pc ls st) := by
  obtain ⟨hx, hb, hml, hr, hlocks, hnm, hown, hts, hK, hE, hA, htr, hex, hex2, hdec, hcn⟩ := F
  obtain ⟨hP, hD, hS, hκ, hok, hc1, hc2⟩ := hH
  cases i with
  | getfield k =>
    obtain rfl : n = 3 := Nat.eq_of_beq_eq_true hl
    simp only [ev_r] at hp
    split at hp
    · rename_i a r
      split at hp
      · rename_i ci sl cj vs hf hrd
        cases hcc : Nat.beq ci cj with
        | false => rw [hcc] at hp; cases hp
        | true =>
          rw [hcc] at hp
          obtain rfl := Nat.eq_of_beq_eq_true hcc
          simp only [cond_true] at hp
          split at hp
          · rename_i v hv
            obtain rfl := Option.some.inj hp
            obtain ⟨r', rfl, h1, h2⟩ := ev_SR_cons hR
            by_cases ha : a < 1000
            · have hcst := ev_rd_lo hrd ha
              have hcc2 : ev_cc κ a (.inr (ci, vs)) A s s.heap := hE.2.2.1 a _ ha hcst
              have h50 : ci = 8 ∧ vs.length ≤ 2 ∧ ∀ v ∈ vs, ev_ok 0 v := hV0 _ _ hcst
              obtain ⟨rfl, hvl, hoks⟩ := h50
              have hvok := hoks v (List.mem_of_getElem? hv)
              have hsl2 : sl < 2 := Nat.lt_of_lt_of_le (List.getElem?_eq_some_iff.mp hv).1 hvl
              obtain ⟨-, hw2⟩ := hV3 _ _ _ _ hf
              have hw := hw2 rfl hsl2
              · show W p l e R s m args below meth c H locs cells slots Q (F0 m pc ls (.ref (ρ a) :: r'))
                rw [hκ a ha]
                refine vk_getf hx hb (own := M.2.1.cls) (ref := "java/lang/String") (hcc2.2 sl v hv) hS hown (by rw [← hcn]; exact hts _ hw) (fun _ h9 => h9) hd ?_
                rw [← ev_cv_const hκ hvok]
                exact kk _ (ev_SR_push h1 (ev_ok_mono hvok (Nat.zero_le _)))
            · have hcell := ev_rd_hi hrd (Nat.le_of_not_lt ha)
              have hvok : ev_ok h.1.length v := (hok _ (List.mem_of_getElem? hcell)) v (List.mem_of_getElem? hv)
              obtain ⟨⟨hlt, C, F, N, hc, hsl, hw⟩, -⟩ := hV3 _ _ _ _ hf
              · have hgl := ev_wl_at (T := T) (ρ := ρ) hcell (Nat.le_of_not_lt ha)
                rw [ev_at_obj (by omega)] at hgl
                have hin := (hV4 _ _ _ _ hc).1
                rcases hw with hw | ⟨hnk, host, hw⟩
                · exact va_get hx hb hts hin hown hK hP (a - 1000) hgl hc sl hsl (by rw [← hcn]; exact hts _ hw) (fun _ h9 => h9) (by rw [List.getElem?_map, hv]; rfl) hd (kk _ (ev_SR_push h1 hvok))
                · exact va_getN hx hb hts hin hown hK hP (a - 1000) hgl hc sl hsl (by rw [← hcn]; exact va_Nw.use rfl (hE.2.2.2.1 _ hw)) (fun _ h9 => h9) (by rw [List.getElem?_map, hv]; rfl) hd (kk _ (ev_SR_push h1 hvok))
          · cases hp
      · cases hp
    · cases hp
  | arraylength =>
    obtain rfl : n = 1 := Nat.eq_of_beq_eq_true hl
    simp only [ev_r] at hp
    split at hp
    · rename_i a r
      split at hp
      · rename_i k0 lz hrd
        cases hk0 : Nat.ble k0 2 with
        | false => rw [hk0] at hp; cases hp
        | true =>
        rw [hk0] at hp
        obtain rfl := Option.some.inj hp
        obtain ⟨r', rfl, h1, h2⟩ := ev_SR_cons hR
        by_cases ha : a < 1000
        · have hcst := ev_rd_lo hrd ha
          have hcc2 : ev_cc κ a (.inl (k0, lz)) A s s.heap := hE.2.2.1 a _ ha hcst
          show W p l e R s m args below meth c H locs cells slots Q (F0 m pc ls (.ref (ρ a) :: r'))
          rw [hκ a ha]
          exact va_tlen hx hb hcc2 hS rfl hd (kk _ (ev_SR_push (v := .int _) h1 trivial))
        · have hcell := ev_rd_hi hrd (Nat.le_of_not_lt ha)
          have hgl := ev_wl_at (T := T) (ρ := ρ) hcell (Nat.le_of_not_lt ha)
          exact ev_alen_ok hx hb hK hP (a - 1000) hgl (Or.inr ⟨k0, lz, rfl, Nat.le_of_ble_eq_true hk0⟩) hd (kk _ (ev_SR_push (v := .int _) h1 trivial))
      · rename_i cj vs hrd
        cases hcc : (Nat.ble 100 cj && Nat.ble cj 102 && Nat.ble 1000 a) with
        | false => rw [hcc] at hp; cases hp
        | true =>
          rw [hcc] at hp
          rw [Bool.and_eq_true, Bool.and_eq_true] at hcc
          obtain rfl := Option.some.inj hp
          obtain ⟨r', rfl, h1, h2⟩ := ev_SR_cons hR
          have ha := Nat.le_of_ble_eq_true hcc.2
          have hcell := ev_rd_hi hrd ha
          have hgl := ev_wl_at (T := T) (ρ := ρ) hcell ha
          exact ev_alen_ok hx hb hK hP (a - 1000) hgl (Or.inl ⟨cj, vs, rfl, Nat.le_of_ble_eq_true hcc.1.1, Nat.le_of_ble_eq_true hcc.1.2⟩) hd (kk _ (ev_SR_push (v := .int _) h1 trivial))
      · cases hp
    · cases hp
  | iaload =>
    obtain rfl : n = 1 := Nat.eq_of_beq_eq_true hl
    simp only [ev_r] at hp
    split at hp
    · rename_i i a r
      split at hp
      · rename_i lz hrd
        cases hcc : ev_in i lz.length with
        | false => rw [hcc] at hp; cases hp
        | true =>
          rw [hcc] at hp
          obtain rfl := Option.some.inj hp
          obtain ⟨r', rfl, h1, h2⟩ := ev_SR_cons hR
          obtain ⟨r', rfl, h3, h4⟩ := ev_SR_cons h1
          by_cases ha : a < 1000
          · have hcst := ev_rd_lo hrd ha
            have hcc2 : ev_cc κ a (.inl (0, lz)) A s s.heap := hE.2.2.1 a _ ha hcst
            show W p l e R s m args below meth c H locs cells slots Q (F0 m pc ls (.int i :: .ref (ρ a) :: r'))
            rw [hκ a ha]
            exact va_ti hx hb hcc2 hS (ev_in_vp hcc) rfl hd (kk _ (ev_SR_push (v := .int _) h3 trivial))
          · have hcell := ev_rd_hi hrd (Nat.le_of_not_lt ha)
            have hgl := ev_wl_at (T := T) (ρ := ρ) hcell (Nat.le_of_not_lt ha)
            exact va_iald hx hb hK hP (a - 1000) 0 hgl rfl (ev_in_vp hcc) hd (kk _ (ev_SR_push (v := .int _) h3 trivial))
      · cases hp
    · cases hp
  | baload =>
    obtain rfl : n = 1 := Nat.eq_of_beq_eq_true hl
    simp only [ev_r] at hp
    split at hp
    · rename_i i a r
      split at hp
      · rename_i lz hrd
        cases hcc : ev_in i lz.length with
        | false => rw [hcc] at hp; cases hp
        | true =>
          rw [hcc] at hp
          obtain rfl := Option.some.inj hp
          obtain ⟨r', rfl, h1, h2⟩ := ev_SR_cons hR
          obtain ⟨r', rfl, h3, h4⟩ := ev_SR_cons h1
          by_cases ha : a < 1000
          · have hcst := ev_rd_lo hrd ha
            have hcc2 : ev_cc κ a (.inl (2, lz)) A s s.heap := hE.2.2.1 a _ ha hcst
            show W p l e R s m args below meth c H locs cells slots Q (F0 m pc ls (.int i :: .ref (ρ a) :: r'))
            rw [hκ a ha]
            exact va_tb hx hb hcc2 hS (ev_in_vp hcc) rfl hd (kk _ (ev_SR_push (v := .int _) h3 trivial))
          · have hcell := ev_rd_hi hrd (Nat.le_of_not_lt ha)
            have hgl := ev_wl_at (T := T) (ρ := ρ) hcell (Nat.le_of_not_lt ha)
            exact va_bald hx hb hK hP (a - 1000) 2 hgl rfl (ev_in_vp hcc) hd (kk _ (ev_SR_push (v := .int _) h3 trivial))
      · cases hp
    · cases hp
  | caload =>
    obtain rfl : n = 1 := Nat.eq_of_beq_eq_true hl
    simp only [ev_r] at hp
    split at hp
    · rename_i i a r
      split at hp
      · rename_i lz hrd
        cases hcc : (ev_in i lz.length && Nat.ble 1000 a) with
        | false => rw [hcc] at hp; cases hp
        | true =>
          rw [hcc] at hp
          rw [Bool.and_eq_true] at hcc
          obtain rfl := Option.some.inj hp
          obtain ⟨r', rfl, h1, h2⟩ := ev_SR_cons hR
          obtain ⟨r', rfl, h3, h4⟩ := ev_SR_cons h1
          have ha := Nat.le_of_ble_eq_true hcc.2
          have hcell := ev_rd_hi hrd ha
          have hgl := ev_wl_at (T := T) (ρ := ρ) hcell ha
          exact va_cald hx hb hK hP (a - 1000) 1 hgl rfl (ev_in_vp hcc.1) hd (kk _ (ev_SR_push (v := .int _) h3 trivial))
      · cases hp
    · cases hp
  | aaload =>
    obtain rfl : n = 1 := Nat.eq_of_beq_eq_true hl
    simp only [ev_r] at hp
    split at hp
    · rename_i i a r
      split at hp
      · rename_i vs hrd
        cases hcc : (ev_in i vs.length && Nat.ble 1000 a) with
        | false => rw [hcc] at hp; cases hp
        | true =>
          rw [hcc] at hp
          rw [Bool.and_eq_true] at hcc
          simp only [cond_true] at hp
          have ha := Nat.le_of_ble_eq_true hcc.2
          have hcell := ev_rd_hi hrd ha
          have hgl := ev_wl_at (T := T) (ρ := ρ) hcell ha
          split at hp
          · rename_i x hv
            obtain rfl := Option.some.inj hp
            obtain ⟨r', rfl, h1, h2⟩ := ev_SR_cons hR
            obtain ⟨r', rfl, h3, h4⟩ := ev_SR_cons h1
            refine va_aldq hx hb hK hP (a - 1000) 5 hgl rfl (ev_in_vp hcc.1) hd ?_
            have h9 : ev_rf ρ (vs.getD i.toNatClampNeg .null) = some (ρ x) := by simp only [List.getD, hv, Option.getD, ev_rf]
            rw [h9]
            exact kk _ (ev_SR_push (v := .ref x) h3 ((hok _ (List.mem_of_getElem? hcell)) _ (List.mem_of_getElem? hv)))
          · rename_i hv
            obtain rfl := Option.some.inj hp
            obtain ⟨r', rfl, h1, h2⟩ := ev_SR_cons hR
            obtain ⟨r', rfl, h3, h4⟩ := ev_SR_cons h1
            refine va_aldq hx hb hK hP (a - 1000) 5 hgl rfl (ev_in_vp hcc.1) hd ?_
            have h9 : ev_rf ρ (vs.getD i.toNatClampNeg .null) = none := by simp only [List.getD, hv, Option.getD, ev_rf]
            rw [h9]
            exact kk _ (ev_SR_push (v := .null) h3 trivial)
          · cases hp
      · cases hp
    · cases hp
  | checkcast k =>
    obtain rfl : n = 3 := Nat.eq_of_beq_eq_true hl
    simp only [ev_r] at hp
    split at hp
    · rename_i a r
      split at hp
      · rename_i lz hcell
        cases hcc : (Nat.ble 1000 a && (ev_sk G 3 M.1 k).isSome) with
        | false => rw [hcc] at hp; cases hp
        | true =>
          rw [hcc] at hp
          rw [Bool.and_eq_true] at hcc
          obtain rfl := Option.some.inj hp
          obtain ⟨r', rfl, h1, h2⟩ := ev_SR_cons hR
          have ha := Nat.le_of_ble_eq_true hcc.1
          obtain ⟨v9, hv9⟩ : ∃ v9, ev_sk G 3 M.1 k = some v9 := Option.isSome_iff_exists.mp hcc.2
          have hgl := ev_wl_at (T := T) (ρ := ρ) hcell ha
          exact va_castA hx hb (nm := "[B") hown (by rw [← hcn]; exact hts _ (hV5 _ _ _ hv9)) hP (a - 1000) hgl (hK.2 2 (T 2, .byte) rfl).2 hd (kk _ (ev_SR_push (v := .ref a) h1 h2))
      · cases hp
    · cases hp
  | _ => simp [ev_r] at hp
end
