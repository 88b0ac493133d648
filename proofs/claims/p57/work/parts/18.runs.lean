/-! all runs, by induction on the steps -/
section
variable {G : ev_G} {B : ev_B} {M M' : ev_MD} {D : va_G} {T : Nat → ClassId} {κ ρ : Nat → Nat} {A0 : Nat → Prop} {p : Program} {l : Launch} {e : Env} {R : Room} {s : State} {m : MethodId} {args : Array Value} {below : List Frame} {meth : Method} {c : Code} {H : Heap} {locs : List Loc} {cells slots k0 s0 : Nat} {Q : State → Prop} {pc : Nat} {ls : Array Slot} {S S' st : List Value} {i : Instr} {h h' : ev_AH}
theorem ev_fcpy {la lb : List Int32} {sp dp n : Nat} (h1 : sp + n ≤ la.length) (h2 : dp + n ≤ lb.length) : va_cpy (fun j => la.getD j 0) (fun j => lb.getD j 0) sp dp n = fun j => (lb.take dp ++ (la.drop sp).take n ++ lb.drop (dp + n)).getD j 0 := by
  funext j
  have l1 : (lb.take dp).length = dp := by rw [List.length_take]; omega
  have l2 : ((la.drop sp).take n).length = n := by rw [List.length_take, List.length_drop]; omega
  simp only [va_cpy, List.getD]
  split
  · rename_i hj
    rw [List.getElem?_append_left (by rw [List.length_append, l1, l2]; omega), List.getElem?_append_right (by rw [l1]; omega), l1, List.getElem?_take_of_lt (by omega), List.getElem?_drop]
  · rename_i hj
    by_cases hd : j < dp
    · rw [List.append_assoc, List.getElem?_append_left (by rw [l1]; exact hd), List.getElem?_take_of_lt hd]
    · rw [List.getElem?_append_right (by rw [List.length_append, l1, l2]; omega), List.length_append, l1, l2, List.getElem?_drop]
      congr 2
      omega
/-- as va_copyi (its proof follows that one), out of an array that nobody writes -/
theorem ev_copyT {A : Nat → Prop} {a a0 n0 : Nat} {f : Nat → Int32} {ws : va_W} {tys : List (ClassId × FieldType)} {cl : List vw_C} {H0 : Heap} {rest : List Value} {cc : ByteArray} (hexec : p.tables.exec = Jvm.exec) (hb : c.code = cc) (hml : c.maxLocals = ls.size) {own : String} {index : Nat} (hown : s.vm.findClass own = some m.cls) (hlink : (Cond.methodLink own index arraycopyName).before args s = true) (hnat : (Cond.native arraycopyName).before args s = true) (hstat : (Cond.static arraycopyName).before args s = true) (hini : (Cond.initialized "java/lang/System").before args s = true)
    (hK : va_K D cl tys s) (hP : va_P D cl ws H) (hD : va_D A ws) (hS : va_S A H0 H locs) (hT0 : va_T .byte a0 n0 (fun j => .int (f j)) A s H) (q1 t1 : Nat) {c1 : ClassId} {n1 : Nat} {g : Nat → Int32} {ty : FieldType} (ha1 : ws[q1]? = some (a, .inl (c1, n1, .inl g))) (ht1 : tys[t1]? = some (c1, ty)) (hty : ty = .byte)
    {sp dp n : Int32} (h1 : ¬ sp < 0) (h2 : ¬ dp < 0) (h3 : ¬ n < 0) (h4 : sp.toNatClampNeg + n.toNatClampNeg ≤ n0) (h5 : dp.toNatClampNeg + n.toNatClampNeg ≤ n1) (hfit : ∀ i, i < n.toNatClampNeg → fits .byte (.int (f (sp.toNatClampNeg + i))) = true)
    (hframes : 1 ≤ R.frames) (hlocals : (rest.map fun v => v.category).sum + (nativeFrameWords "java/lang/System" "arraycopy" 5 + 11) ≤ R.locals) (hdg : decode cc pc = .ok (.invokestatic index, 3))
    (kk : ∀ (H1 : Heap) (locs1 : List Loc), va_P D cl (ws.set q1 (a, .inl (c1, n1, .inl (va_cpy f g sp.toNatClampNeg dp.toNatClampNeg n.toNatClampNeg)))) H1 → va_D A (ws.set q1 (a, .inl (c1, n1, .inl (va_cpy f g sp.toNatClampNeg dp.toNatClampNeg n.toNatClampNeg)))) → va_S A H0 H1 locs1 → W p l e R s m args below meth c H1 locs1 cells slots Q (F0 m (pc + 3) ls rest)) : W p l e R s m args below meth c H locs cells slots Q (F0 m pc ls (.int n :: .int dp :: .ref a :: .int sp :: .ref a0 :: rest)) := by
  subst hty
  have nn : ∀ z : Int32, ¬ z < 0 → z.toInt = (z.toNatClampNeg : Int) := by
    intro z hz
    have hz0 : (0 : Int) ≤ z.toInt := by
      have := Int32.not_lt.mp hz
      simpa using Int32.le_iff_toInt_le.mp this
    show z.toInt = ((z.toInt.toNat : Nat) : Int)
    omega
  intro T hT X
  obtain ⟨scr, hc0, hs2, hs3, hs4, hs45, hs5, hs7⟩ := hT0
  have hc1 : H[a]? = some (vp_cell c1 (n1, .inl g)) := hP q1 _ ha1
  obtain ⟨hs6, k0, hk0, cm0, hkk0⟩ := hs2
  obtain ⟨-, k1, hk1, cm1, hkk1⟩ := (hK.2 t1 _ ht1).1 n1 (fun j => .int (g j))
  obtain ⟨vm', X', step⟩ := X.arraycopy hexec hown hlink hnat hstat hini (src := a0) (dst := a) (cs := scr) (cd := vp_cell c1 (n1, .inl g)) (srcPos := sp) (destPos := dp) (n := n) (by rw [hT]; exact hc0) (by rw [hT]; exact hc1)
    hs6 (fun _ h => by cases h) hs3 (fun h => by cases h) hk0 hk1 hkk0 hkk1 (by simp [refKind]) h1 h2 h3
    (by rw [nn sp h1, nn n h3]; omega)
    (by rw [nn dp h2, nn n h3]; show ¬ _ > ((arrV c1 n1 (fun j => .int (g j))).slots.size : Int); rw [arrV_size]; omega)
    (fun vm₁ _ i hi => by
      have e : scr.slots.getD (sp.toNatClampNeg + i) .null = .int (f (sp.toNatClampNeg + i)) := by
        rw [Array.getD_eq_getD_getElem?, hs5 _ (by omega)]
        rfl
      refine ⟨?_, ?_⟩
      · rw [e]
        exact hfit i hi
      · rw [e]
        exact trivial)
    (g := F0 m pc ls (.int n :: .int dp :: .ref a :: .int sp :: .ref a0 :: rest)) rfl (by rw [hml]) (rest := rest) rfl (by rw [hb]; exact hdg) hframes (by show 2 * 0 + _ + _ ≤ _; omega)
  have e1 : copied scr (vp_cell c1 (n1, .inl g)) sp dp n = vp_cell c1 (n1, .inl (va_cpy f g sp.toNatClampNeg dp.toNatClampNeg n.toNatClampNeg)) := va_copiedX (fun z => .int z) scr c1 f g hs5 h4
  rw [e1] at X' step
  have hl : a < H.size := (Array.getElem?_eq_some_iff.mp hc1).1
  have hheap : ((T.setVm vm').setCell a (vp_cell c1 (n1, .inl (va_cpy f g sp.toNatClampNeg dp.toNatClampNeg n.toNatClampNeg)))).heap = H.setIfInBounds a (vp_cell c1 (n1, .inl (va_cpy f g sp.toNatClampNeg dp.toNatClampNeg n.toNatClampNeg))) := by rw [← hT]; rfl
  have oq : ∀ q : Nat, q ≠ a → (H.setIfInBounds a (vp_cell c1 (n1, .inl (va_cpy f g sp.toNatClampNeg dp.toNatClampNeg n.toNatClampNeg))))[q]? = H[q]? := fun q hq => by simp [Array.getElem?_setIfInBounds, Ne.symm hq]
  obtain ⟨t, a1, b1⟩ := kk _ _ (hP.set hD ha1 (show (H.setIfInBounds a _)[a]? = some _ by simp [Array.getElem?_setIfInBounds, hl]) oq) (hD.set ha1) ⟨by simp; exact hS.1, fun q g1 g2 => by
      rw [oq q (fun e => g2 (by rw [e]; exact hD.2 q1 _ ha1))]
      exact hS.2.1 q g1 g2, fun q hq => by
      rcases List.mem_append.mp hq with h | h
      · exact hS.2.2 q h
      · obtain ⟨z, -, hz⟩ := List.mem_map.mp h
        rw [← hz]
        exact hD.2 q1 _ ha1⟩ _ hheap X'
  exact ⟨t, step t a1, b1⟩
theorem ev_na_ok (F : ev_Fx G B M D T κ A0 p l s m args meth c) (hV : ev_VV G B) {j k a rc : Nat} (hct : ev_ct G M.1 j = some (k, a, rc, M')) (hi : ev_ix i = some j) (hd : decode M.2.2.1 pc = .ok (i, 3)) (hna : ev_na G i S h k = some (S', h')) (hR : ev_SR ρ h.1.length S st) (hsz : ls.size = M.2.2.2.1) (hH : ev_HR D T (ev_cl B) A0 s.heap κ ρ k0 s0 h H locs cells slots) (hRf : 20 ≤ R.frames) (hRl : 400 ≤ R.locals) (hRc : h.2.1 ≤ k0 + R.cells) (hRs : h.2.2 ≤ s0 + R.slots)
    (kk : ∀ st' H' locs' cells' slots', ev_SR ρ h'.1.length S' st' → h'.1.length = h.1.length → ev_HR D T (ev_cl B) A0 s.heap κ ρ k0 s0 h' H' locs' cells' slots' → W p l e R s m args below meth c H' locs' cells' slots' Q (F0 m (pc + 3) ls st')) : W p l e R s m args below meth c H locs cells slots Q (F0 m pc ls st) := by
  obtain ⟨hx, hb, hml, hr, hlocks, hnm, hown, hts, hK, hE, hA, htr, hex, hex2, hdec, hcn⟩ := F
  have hH0 := hH
  obtain ⟨hP, hD, hS, hκ, hok, hc1, hc2⟩ := hH
  unfold ev_na at hna
  split at hna
  · obtain ⟨w1, w2, w3⟩ := (hV.2.1 _ _ _ _ _ _ hct).1 rfl
    split at hna
    · rename_i b r
      rw [Bool.cond_eq_ite] at hna
      split at hna
      · rename_i hc9
        rw [Bool.and_eq_true] at hc9
        obtain ⟨e1, e2⟩ := Prod.mk.inj (Option.some.inj hna)
        subst e1; subst e2
        obtain ⟨r1, rfl, u1, -⟩ := ev_SR_cons hR
        have hcat := ev_cs_ok (ρ := ρ) hc9.2
        rw [← u1.1] at hcat
        cases i with
        | invokespecial j9 =>
          cases hi
          refine W.objInit hx hb hown (by rw [← hcn]; exact hts _ w1) (hts _ w2) (hts _ w3) (g := F0 m pc ls (ev_cv ρ (.ref b) :: r1)) rfl (hsz.trans hml.symm) rfl hd (by omega) ?_ ?_
          · have h8 : 2 * (F0 m pc ls (ev_cv ρ (.ref b) :: r1)).monitorRoom + (r1.map fun v => v.category).sum ≤ 8 := lv_room (m := m) (pc := pc) (ls := ls) (rest := ev_cv ρ (.ref b) :: r1) hcat
            omega
          · exact kk _ H locs cells slots u1 rfl hH0
        | _ => simp [ev_ck] at hc9
      · cases hna
    · cases hna
  · obtain ⟨w1, w2, w3, w4⟩ := (hV.2.1 _ _ _ _ _ _ hct).2.1 rfl
    cases i with
    | invokestatic j9 =>
      cases hi
      split at hna
      · rename_i n0 dp b sp a9 r
        split at hna
        · rename_i la lb hca hcb
          rw [Bool.cond_eq_ite] at hna
          split at hna
          · rename_i hc9
            simp only [Bool.and_eq_true, Bool.not_eq_true', decide_eq_false_iff_not] at hc9
            obtain ⟨⟨⟨⟨⟨⟨⟨⟨g0, g2⟩, g3⟩, g4⟩, g5⟩, g6⟩, g7⟩, g8⟩, g9⟩ := hc9
            obtain ⟨e1, e2⟩ := Prod.mk.inj (Option.some.inj hna)
            subst e1; subst e2
            have hb9 := Nat.le_of_ble_eq_true g2
            have q6 := Nat.le_of_ble_eq_true g6
            have q7 := Nat.le_of_ble_eq_true g7
            obtain ⟨r1, rfl, u1, -⟩ := ev_SR_cons hR
            obtain ⟨r1, rfl, u2, -⟩ := ev_SR_cons u1
            obtain ⟨r1, rfl, u3, -⟩ := ev_SR_cons u2
            obtain ⟨r1, rfl, u4, -⟩ := ev_SR_cons u3
            obtain ⟨r1, rfl, u5, -⟩ := ev_SR_cons u4
            have hgb := ev_wl_at (T := T) (ρ := ρ) hcb hb9
            have hcat := ev_cs_ok (ρ := ρ) g9
            rw [← u5.1] at hcat
            have hnf : (r1.map fun v => v.category).sum + (nativeFrameWords "java/lang/System" "arraycopy" 5 + 11) ≤ R.locals := by
              have h9 : nativeFrameWords "java/lang/System" "arraycopy" 5 + 11 ≤ 300 := by decide +kernel
              generalize nativeFrameWords "java/lang/System" "arraycopy" 5 + 11 = y9 at h9 ⊢
              omega
            have hft9 : ∀ i9, i9 < n0.toNatClampNeg → fits .byte (.int (la.getD (sp.toNatClampNeg + i9) 0)) = true := fun i9 hi9 => by
              have h9 := List.all_eq_true.mp g8 (la.getD (sp.toNatClampNeg + i9) 0) (by
                refine List.mem_of_getElem? (i := i9) ?_
                rw [List.getElem?_take_of_lt hi9, List.getElem?_drop, List.getD, List.getElem?_eq_getElem (by omega)]
                rfl)
              exact h9
            have hfin : ∀ (H1 : Heap) (locs1 : List Loc), va_P D (ev_cl B) ((ev_wl T ρ h.1).set (b - 1000) (ρ b, .inl (T 2, lb.length, .inl (va_cpy (fun j => la.getD j 0) (fun j => lb.getD j 0) sp.toNatClampNeg dp.toNatClampNeg n0.toNatClampNeg)))) H1 → va_D A0 ((ev_wl T ρ h.1).set (b - 1000) (ρ b, .inl (T 2, lb.length, .inl (va_cpy (fun j => la.getD j 0) (fun j => lb.getD j 0) sp.toNatClampNeg dp.toNatClampNeg n0.toNatClampNeg)))) → va_S A0 s.heap H1 locs1 → W p l e R s m args below meth c H1 locs1 cells slots Q (F0 m (pc + 3) ls r1) := fun H1 locs1 hP1 hD1 hS1 => by
              have hat : ev_at T ρ (.inl (2, lb.take dp.toNatClampNeg ++ (la.drop sp.toNatClampNeg).take n0.toNatClampNeg ++ lb.drop (dp.toNatClampNeg + n0.toNatClampNeg))) = .inl (T 2, lb.length, .inl (va_cpy (fun j => la.getD j 0) (fun j => lb.getD j 0) sp.toNatClampNeg dp.toNatClampNeg n0.toNatClampNeg)) := by
                rw [ev_fcpy q6 q7]
                simp only [ev_at, List.length_append, List.length_take, List.length_drop]
                congr 3
                omega
              rw [← hat] at hP1 hD1
              have hlen : (ev_wr h b (.inl (2, lb.take dp.toNatClampNeg ++ (la.drop sp.toNatClampNeg).take n0.toNatClampNeg ++ lb.drop (dp.toNatClampNeg + n0.toNatClampNeg)))).1.length = h.1.length := List.length_set
              exact kk _ H1 locs1 cells slots ⟨u5.1, fun w9 hw9 => by rw [hlen]; exact u5.2 w9 hw9⟩ hlen (ev_wr_HR hH0 hb9 trivial hP1 hD1 hS1)
            by_cases ha : a9 < 1000
            · have hcst := ev_rd_lo hca ha
              have hcc2 : ev_cc κ a9 (.inl (2, la)) A0 s s.heap := hE.2.2.1 a9 _ ha hcst
              show W p l e R s m args below meth c H locs cells slots Q (F0 m pc ls (.int n0 :: .int dp :: .ref (ρ b) :: .int sp :: .ref (ρ a9) :: r1))
              rw [hκ a9 ha]
              exact ev_copyT hx hb (hml.trans hsz.symm) hown (by rw [← hcn]; exact hts _ w1) (hts _ w2) (hts _ w3) (hts _ w4) hK hP hD hS (hcc2.kept hS.2.1) (b - 1000) 2 hgb rfl rfl g5 g4 g3 q6 q7 hft9 (by omega) hnf hd hfin
            · have hga := ev_wl_at (T := T) (ρ := ρ) (ev_rd_hi hca (Nat.le_of_not_lt ha)) (Nat.le_of_not_lt ha)
              exact va_copyi hx hb (hml.trans hsz.symm) hown (by rw [← hcn]; exact hts _ w1) (hts _ w2) (hts _ w3) (hts _ w4) hK hP hD hS (a9 - 1000) (b - 1000) 2 2 hga hgb rfl rfl rfl g5 g4 g3 q6 q7 hft9 (by omega) hnf hd hfin
          · cases hna
        · cases hna
      · cases hna
    | _ =>
      split at hna
      · split at hna
        · rw [Bool.cond_eq_ite] at hna
          split at hna
          · rename_i hc9
            simp [ev_ck] at hc9
          · cases hna
        · cases hna
      · cases hna
  · obtain ⟨w1, w2, w3, w4⟩ := (hV.2.1 _ _ _ _ _ _ hct).2.2.2.1 rfl
    split at hna
    · rename_i y x r
      rw [Bool.cond_eq_ite] at hna
      split at hna
      · rename_i hc9
        rw [Bool.and_eq_true] at hc9
        obtain ⟨e1, e2⟩ := Prod.mk.inj (Option.some.inj hna)
        subst e1; subst e2
        obtain ⟨r1, rfl, u1, -⟩ := ev_SR_cons hR
        obtain ⟨r2, rfl, u2, -⟩ := ev_SR_cons u1
        have hcat := ev_cs_ok (ρ := ρ) hc9.2
        rw [← u2.1] at hcat
        cases i with
        | invokestatic j9 =>
          cases hi
          exact va_mmin (x := x) (y := y) (rest := r2) hx hb (hml.trans hsz.symm) hown (by rw [← hcn]; exact hts _ w1) (hts _ w2) (hts _ w3) (hts _ w4) (by omega) (by omega) (by omega) (by omega) hd (kk _ H locs cells slots (ev_SR_push u2 trivial) rfl hH0)
        | _ => simp [ev_ck] at hc9
      · cases hna
    · cases hna
  · obtain ⟨w1, w2, w3, w4⟩ := (hV.2.1 _ _ _ _ _ _ hct).2.2.2.2 rfl
    split at hna
    · rename_i y x r
      rw [Bool.cond_eq_ite] at hna
      split at hna
      · rename_i hc9
        rw [Bool.and_eq_true] at hc9
        obtain ⟨e1, e2⟩ := Prod.mk.inj (Option.some.inj hna)
        subst e1; subst e2
        obtain ⟨r1, rfl, u1, -⟩ := ev_SR_cons hR
        obtain ⟨r2, rfl, u2, -⟩ := ev_SR_cons u1
        have hcat := ev_cs_ok (ρ := ρ) hc9.2
        rw [← u2.1] at hcat
        cases i with
        | invokestatic j9 =>
          cases hi
          exact va_mmax (x := x) (y := y) (rest := r2) hx hb (hml.trans hsz.symm) hown (by rw [← hcn]; exact hts _ w1) (hts _ w2) (hts _ w3) (hts _ w4) (by omega) (by omega) (by omega) (by omega) hd (kk _ H locs cells slots (ev_SR_push u2 trivial) rfl hH0)
        | _ => simp [ev_ck] at hc9
      · cases hna
    · cases hna
  · cases hna
theorem ev_fmc {α β : Type} {f g : α → Option β} : ∀ {l : List α}, (∀ x ∈ l, f x = g x) → l.filterMap f = l.filterMap g
  | [], _ => rfl
  | a :: l, h => by
    rw [List.filterMap_cons, List.filterMap_cons, h a List.mem_cons_self, ev_fmc (fun x hx => h x (List.mem_cons_of_mem _ hx))]
theorem ev_lvo_ext {ρ ρ' : Nat → Nat} {n nL : Nat} {L : ev_VL} {ls : Array Slot} (h : ev_LR ρ n nL L ls) (hx : ev_ex2 ρ ρ' n) : ev_lvo ρ' L = ev_lvo ρ L := by
  unfold ev_lvo
  apply ev_fmc
  intro i _
  cases hi : L[i]? with
  | none => rfl
  | some w =>
    cases w with
    | none => rfl
    | some v => simp only [ev_cv_ext hx (h.2.2.2 i v hi).2]
theorem ev_len3 {j : Nat} (hi : ev_ix i = some j) {n : Nat} (hl : ev_len i n = true) : n = 3 := by
  cases i <;> first | (simp [ev_ix] at hi; done) | exact Nat.eq_of_beq_eq_true hl
theorem ev_e_len {v : Option Value} (he : ev_e M S i = some v) {n : Nat} (hl : ev_len i n = true) : n = 1 := by
  cases i <;> first | (simp [ev_e] at he; done) | exact Nat.eq_of_beq_eq_true hl
theorem ev_ex2_tr {ρ ρ' ρ'' : Nat → Nat} {n k : Nat} (h1 : ev_ex2 ρ ρ' n) (h2 : ev_ex2 ρ' ρ'' k) (hk : n ≤ k) : ev_ex2 ρ ρ'' n := fun a ha => (h2 a (by omega)).trans (h1 a ha)
set_option maxHeartbeats 4000000 in
/-- ALL RUNS of the small machine are the real one's -/
theorem ev_sound (hV : ev_VV G B) : ∀ n, ev_Snd G B n := by
  intro n
  induction n with
  | zero => intro d M pc L S h o h' hp; simp [ev_F] at hp
  | succ n ih =>
    intro d M pc L S h o h' hp D T κ ρ A p l e R s m args below meth c H locs cells slots k0 s0 Q ls st hF hR hL hH hRf hRl hRc hRs kret kthr kth
    have hle0 := ev_F_le _ _ _ _ _ _ _ _ _ hp
    unfold ev_F at hp
    split at hp
    · cases hp
    · rename_i i len hlk
      have hd : decode M.2.2.1 pc = .ok (i, len) := hF.2.2.2.2.2.2.2.2.2.2.2.2.2.2.1 (pc, (i, len)) (ev_lk_mem hlk)
      rw [Bool.cond_eq_ite] at hp
      split at hp
      · rename_i hlen
        split at hp
        · rename_i pc9 L9 S9 h9 hs
          have hle := ev_F_le _ _ _ _ _ _ _ _ _ hp
          refine ev_s_ok hF hV.1 hd hlen hs hR hL hH (by omega) (by omega) hL.1 ⟨Nat.le_trans hle.2.1 hRc, Nat.le_trans hle.2.2 hRs⟩ (fun ρ' ls' st' H' locs' cells' slots' g1 g2 g3 g4 g5 => ?_)
          exact ih d M pc9 L9 S9 h9 o h' hp D T κ ρ' A p l e R s m args below meth c H' locs' cells' slots' k0 s0 Q ls' st' hF g3 g4 g5 hRf hRl hRc hRs
            (fun v i2 pc2 S2 st2 ls2 ρ2 H2 locs2 cells2 slots2 a1 a2 a3 a4 a5 a6 => kret v i2 pc2 S2 st2 ls2 ρ2 H2 locs2 cells2 slots2 a1 a2 a3 a4 a5 (ev_ex2_tr g1 a6 g2))
            (fun E q ce pc2 ls2 rest ρ2 H2 locs2 cells2 slots2 a1 a2 a3 a4 => kthr E q ce pc2 ls2 rest ρ2 H2 locs2 cells2 slots2 a1 a2 a3 (ev_ex2_tr g1 a4 g2))
            (fun E j pc2 S2 st2 ls2 ρ2 h1 H2 locs2 cells2 slots2 a1 a2 a3 a4 a5 a6 a7 a8 a9 a10 a11 => kth E j pc2 S2 st2 ls2 ρ2 h1 H2 locs2 cells2 slots2 a1 a2 a3 a4 a5 a6 a7 a8 a9 a10 (ev_ex2_tr g1 a11 g2))
        · split at hp
          · rename_i v hev
            cases hp
            obtain rfl := ev_e_len hev hlen
            exact kret v i pc S st ls ρ H locs cells slots rfl hd hev hR hH (fun _ _ => rfl)
          · split at hp
            · rename_i j hs9 he9
              split at hp
              · rename_i E hth hhh
                rw [Bool.cond_eq_ite] at hp
                split at hp
                · rename_i hc9
                  rw [Bool.and_eq_true] at hc9
                  cases hp
                  obtain rfl : len = 3 := Nat.eq_of_beq_eq_true hlen
                  exact kth E j pc S st ls ρ h H locs cells slots rfl hd hth hhh (Nat.eq_of_beq_eq_true hc9.1) hc9.2 hL.1 hR hH rfl (fun _ _ => rfl)
                · cases hp
              · cases hp
            · split at hp
              · cases hp
              · rename_i j hix
                obtain rfl := ev_len3 hix hlen
                split at hp
                · cases hp
                · rename_i k a rc M' hct
                  split at hp
                  · rename_i S9 h9 hna
                    · refine ev_na_ok hF hV hct hix hd hna hR hL.1 hH (by omega) (by omega) (Nat.le_trans hle0.2.1 hRc) (Nat.le_trans hle0.2.2 hRs) (fun st' H' locs' cells' slots' g1 g2 g3 => ?_)
                      exact ih d M (pc + 3) L S9 h9 o h' hp D T κ ρ A p l e R s m args below meth c H' locs' cells' slots' k0 s0 Q ls st' hF g1 (by rw [g2]; exact hL) g3 hRf hRl hRc hRs
                        (fun v i2 pc2 S2 st2 ls2 ρ2 H2 locs2 cells2 slots2 a1 a2 a3 a4 a5 a6 => kret v i2 pc2 S2 st2 ls2 ρ2 H2 locs2 cells2 slots2 a1 a2 a3 a4 a5 (by rw [← g2]; exact a6))
                        (fun E q ce pc2 ls2 rest ρ2 H2 locs2 cells2 slots2 a1 a2 a3 a4 => kthr E q ce pc2 ls2 rest ρ2 H2 locs2 cells2 slots2 a1 a2 a3 (by rw [← g2]; exact a4))
                        (fun E j pc2 S2 st2 ls2 ρ2 h1 H2 locs2 cells2 slots2 a1 a2 a3 a4 a5 a6 a7 a8 a9 a10 a11 => kth E j pc2 S2 st2 ls2 ρ2 h1 H2 locs2 cells2 slots2 a1 a2 a3 a4 a5 a6 a7 a8 a9 a10 (by rw [← g2]; exact a11))
                  · split at hp
                    · cases hp
                    · rename_i d
                      rw [Bool.cond_eq_ite] at hp
                      split at hp
                      · rename_i hck
                        split at hp
                        · cases hp
                        · rename_i Ar r hpop
                          rw [Bool.cond_eq_ite] at hp
                          split at hp
                          · rename_i hcok
                            have hkk : k ≠ 13 := by
                              intro h9
                              subst h9
                              cases i <;> simp [ev_ck] at hck
                            have hk10 : k ≠ 10 := by
                              intro h9
                              subst h9
                              cases i <;> simp [ev_ck] at hck
                            have hk11 : k ≠ 11 := by
                              intro h9
                              subst h9
                              cases i <;> simp [ev_ck] at hck
                            have hk12 : k ≠ 12 := by
                              intro h9
                              subst h9
                              cases i <;> simp [ev_ck] at hck
                            have hMK := ((hV.2.1 _ _ _ _ _ _ hct).2.2.1 hkk hk10 hk11 hk12).1
                            have hco := hcok
                            unfold ev_cok at hco
                            rw [Bool.and_eq_true, Bool.and_eq_true, Bool.and_eq_true, Bool.and_eq_true] at hco
                            obtain ⟨⟨⟨⟨q1, q2⟩, q3⟩, q4⟩, q5⟩ := hco
                            obtain ⟨P, e1, e2, e3⟩ := ev_pop_ok _ _ _ _ _ hpop
                            have hAok : ∀ v ∈ Ar, ev_ok h.1.length v := fun v hv => hR.2 v (by
                              rw [e1]
                              rw [e3, List.append_nil] at hv
                              exact List.mem_append_left _ (List.mem_reverse.mp hv))
                            have hrok : ev_SR ρ h.1.length r (r.map (ev_cv ρ)) := ⟨rfl, fun v hv => hR.2 v (by rw [e1]; exact List.mem_append_right _ hv)⟩
                            split at hp
                            · rename_i v h1 hc
                              have hle1 := ev_F_le _ _ _ _ _ _ _ _ _ hc
                              have hle2 := ev_F_le _ _ _ _ _ _ _ _ _ hp
                              have hmet := ev_met (D := D) (T := T) (κ := κ) (ρ := ρ) ih hV hMK hc q4 (Nat.le_of_ble_eq_true q2) l hF.2.2.2.2.2.2.2.2.2.2.2.1 H.size hAok hH.2.2.2.1 hH.2.2.2.2.1
                              have hb1 := hH.2.2.2.2.2.1
                              have hb2 := hH.2.2.2.2.2.2
                              have hrun := ev_run (e := e) (below := below) hF hV hct hck hix hd hpop hcok hR hL.1 hH hmet hRf hRl (by have := hle1.2.1; have := hle2.2.1; omega) (by have := hle1.2.2; have := hle2.2.2; omega)
                              refine ev_goes hrun hH hF.2.2.2.2.2.2.2.2.2.2.1 hle1 ?_ ?_
                              · intro ρ' v' H' locs' cells' slots' ho hvok hx2 hH'
                                cases ho
                                refine ih (d + 1) M (pc + 3) L (v.toList ++ r) h1 o h' hp D T κ ρ' A p l e R s m args below meth c H' locs' cells' slots' k0 s0 Q ls _ hF ?_ (ev_LR_ext hL hx2 hle1.1) hH' hRf hRl hRc hRs ?_ ?_ ?_
                                · cases v with
                                  | none => exact ev_SR_ext hrok hx2 hle1.1
                                  | some w => exact ev_SR_push (ev_SR_ext hrok hx2 hle1.1) (hvok w rfl)
                                · exact fun v i2 pc2 S2 st2 ls2 ρ2 H2 locs2 cells2 slots2 a1 a2 a3 a4 a5 a6 => kret v i2 pc2 S2 st2 ls2 ρ2 H2 locs2 cells2 slots2 a1 a2 a3 a4 a5 (ev_ex2_tr hx2 a6 hle1.1)
                                · exact fun E q ce pc2 ls2 rest ρ2 H2 locs2 cells2 slots2 a1 a2 a3 a4 => kthr E q ce pc2 ls2 rest ρ2 H2 locs2 cells2 slots2 a1 a2 a3 (ev_ex2_tr hx2 a4 hle1.1)
                                · exact fun E j pc2 S2 st2 ls2 ρ2 h1 H2 locs2 cells2 slots2 a1 a2 a3 a4 a5 a6 a7 a8 a9 a10 a11 => kth E j pc2 S2 st2 ls2 ρ2 h1 H2 locs2 cells2 slots2 a1 a2 a3 a4 a5 a6 a7 a8 a9 a10 (ev_ex2_tr hx2 a11 hle1.1)
                              · intro ρ' x q ce H' locs' cells' slots' ho
                                cases ho
                            · rename_i E h1 hc
                              have hle1 := ev_F_le _ _ _ _ _ _ _ _ _ hc
                              have hle2 : ev_le h1 h' := by
                                split at hp
                                · cases hp
                                  exact ev_le_rf
                                · rw [Bool.cond_eq_ite] at hp
                                  split at hp
                                  · exact ev_F_le _ _ _ _ _ _ _ _ _ hp
                                  · cases hp
                                · cases hp
                              have hmet := ev_met (D := D) (T := T) (κ := κ) (ρ := ρ) ih hV hMK hc q4 (Nat.le_of_ble_eq_true q2) l hF.2.2.2.2.2.2.2.2.2.2.2.1 H.size hAok hH.2.2.2.1 hH.2.2.2.2.1
                              have hb1 := hH.2.2.2.2.2.1
                              have hb2 := hH.2.2.2.2.2.2
                              have hrun := ev_run (e := e) (below := below) hF hV hct hck hix hd hpop hcok hR hL.1 hH hmet hRf hRl (by have := hle1.2.1; have := hle2.2.1; omega) (by have := hle1.2.2; have := hle2.2.2; omega)
                              refine ev_goes hrun hH hF.2.2.2.2.2.2.2.2.2.2.1 hle1 ?_ ?_
                              · intro ρ' v' H' locs' cells' slots' ho
                                cases ho
                              · intro ρ' x q ce H' locs' cells' slots' ho hx2 hH' hce hcv hcl
                                cases ho
                                split at hp
                                · rename_i hhd
                                  cases hp
                                  exact kthr E q ce pc ls _ ρ' H' locs' cells' slots' rfl hhd hH' hx2 hce hcv hcl
                                · rename_i pc2 j2 hhd
                                  rw [Bool.cond_eq_ite] at hp
                                  split at hp
                                  · rename_i hso
                                    have hFx := hF
                                    obtain ⟨hx, hb, hml, hr, hlocks, hnm, hown, hts, hK, hE, hA, htr, hex, hex2, hdec, hcn⟩ := hFx
                                    have h11 : M.1 = 11 := by
                                      rcases hex2 with h9 | h9
                                      · rw [h9] at hhd
                                        simp [ev_hd] at hhd
                                      · exact h9
                                    obtain ⟨pre, x, suf, nm, t1, t2, t3, t4, t5, t6, t7⟩ := ev_hd_some hV.2.2.1 hts hE.2.2.2.2.2.2.2 _ hhd
                                    refine vx_catch (own := ev_cn B 11) (name := nm) (by rw [← h11, hcn]; exact hown) pre x suf (by rw [hex]; exact t1) t2 t3 t4 (hts _ t5) (va_Nw.use (hV.2.2.2.2.1 _ t6) (hE.2.2.2.1 _ t6)) hce hcv hcl ?_
                                    have hL1 := ev_LR_ext hL hx2 hle1.1
                                    have hhas := ev_LR_has hL1
                                    have hlt : j2 < M.2.2.2.1 := by rw [← hL.2.1]; exact ev_sok_lt hso
                                    have hgo : ∀ ls', lv_has ls' M.2.2.2.1 ((j2, .ref q) :: (ev_lvo ρ' L).filter (fun q => !(q.1 == j2) && !(q.1 + 1 == j2 && q.2.category == 2))) → W p l e R s m args below meth c H' locs' cells' slots' Q (F0 m pc2 ls' []) := fun ls' hls' => by
                                      have hLn : ev_LR ρ' h1.1.length M.2.2.2.1 (L.set j2 none) ls' := by
                                        have h8 := ev_LR_st1 (ρ := ev_up ρ' h1.1.length q) (n := h1.1.length + 1) (v := .ref (1000 + h1.1.length)) (ev_LR_ext hL1 (ev_up_ext (q := q)) (Nat.le_succ _)) hso (show 1000 + h1.1.length < 1000 + (h1.1.length + 1) by omega) (by
                                          have e5 : ev_lvo (ev_up ρ' h1.1.length q) L = ev_lvo ρ' L := ev_lvo_ext hL1 (ev_up_ext (q := q))
                                          rw [e5]
                                          simpa [ev_cv, ev_up] using hls')
                                        refine ⟨h8.1, by rw [List.length_set]; exact hL.2.1, h8.2.2.1, fun i9 v9 hv9 => ?_⟩
                                        rw [List.getElem?_set] at hv9
                                        by_cases hij : j2 = i9
                                        · rw [if_pos hij] at hv9
                                          split at hv9 <;> cases hv9
                                        · rw [if_neg hij] at hv9
                                          obtain ⟨b1, -⟩ := h8.2.2.2 i9 v9 (by rw [List.getElem?_set, if_neg hij]; exact hv9)
                                          have b2 := (hL1.2.2.2 _ _ hv9).2
                                          exact ⟨by rw [b1, ev_cv_ext (ev_up_ext (q := q)) b2], b2⟩
                                      exact ih (d + 1) M pc2 (L.set j2 none) [] h1 o h' hp D T κ ρ' A p l e R s m args below meth c H' locs' cells' slots' k0 s0 Q ls' [] hF ⟨rfl, fun v hv => by cases hv⟩ hLn hH' hRf hRl hRc hRs
                                        (fun v i2 pc2 S2 st2 ls2 ρ2 H2 locs2 cells2 slots2 a1 a2 a3 a4 a5 a6 => kret v i2 pc2 S2 st2 ls2 ρ2 H2 locs2 cells2 slots2 a1 a2 a3 a4 a5 (ev_ex2_tr hx2 a6 hle1.1))
                                        (fun E q ce pc2 ls2 rest ρ2 H2 locs2 cells2 slots2 a1 a2 a3 a4 => kthr E q ce pc2 ls2 rest ρ2 H2 locs2 cells2 slots2 a1 a2 a3 (ev_ex2_tr hx2 a4 hle1.1))
                                        (fun E j pc2 S2 st2 ls2 ρ2 h1 H2 locs2 cells2 slots2 a1 a2 a3 a4 a5 a6 a7 a8 a9 a10 a11 => kth E j pc2 S2 st2 ls2 ρ2 h1 H2 locs2 cells2 slots2 a1 a2 a3 a4 a5 a6 a7 a8 a9 a10 (ev_ex2_tr hx2 a11 hle1.1))
                                    rcases t7 with ⟨k9, u1, rfl, rfl⟩ | ⟨u1, rfl⟩
                                    · exact lv_astore_n hx hb (hdec (_, (.astore_n k9, 1)) (ev_lk_mem u1)) rfl hhas hlt rfl hgo
                                    · exact lv_astore hx hb (hdec (_, (.astore j2, 2)) (ev_lk_mem u1)) hhas hlt rfl hgo
                                  · cases hp
                                · cases hp
                            · cases hp
                          · cases hp
                      · cases hp
      · cases hp
end

