/-! calls, and all runs -/
theorem ev_pop_ok : ∀ (n : Nat) (acc S A r : List Value), ev_pop n acc S = some (A, r) → ∃ P : List Value, S = P ++ r ∧ P.length = n ∧ A = P.reverse ++ acc
  | 0, acc, S, A, r, h => by
    simp only [ev_pop] at h
    cases h
    exact ⟨[], rfl, rfl, rfl⟩
  | n + 1, acc, [], A, r, h => by simp [ev_pop] at h
  | n + 1, acc, v :: S, A, r, h => by
    simp only [ev_pop] at h
    obtain ⟨P, e1, e2, e3⟩ := ev_pop_ok n (v :: acc) S A r h
    exact ⟨v :: P, by rw [e1]; rfl, by rw [List.length_cons, e2], by rw [e3]; simp⟩
section
variable {G : ev_G} {B : ev_B} {M M' : ev_MD} {D : va_G} {T : Nat → ClassId} {κ ρ : Nat → Nat} {A0 : Nat → Prop} {p : Program} {l : Launch} {e : Env} {R : Room} {s : State} {m : MethodId} {args : Array Value} {below : List Frame} {meth : Method} {c : Code} {H : Heap} {locs : List Loc} {cells slots k0 s0 d mc ms : Nat} {Q : State → Prop} {pc n : Nat} {ls : Array Slot} {S st rest A r : List Value} {i : Instr} {h h' : ev_AH} {o : ev_O} {L : ev_VL}
theorem ev_goes {a9 : Array Value} (hr : vx_Run p l e R s m args below meth c H locs cells slots (h'.2.1 - h.2.1) (h'.2.2 - h.2.2) (F0 m pc ls st) rest (ev_Qc B D T ρ H.size h h' o a9) (ev_Xc B D T ρ H.size h h' o) (va_A (ev_wl T ρ h.1) H.size)) (hH : ev_HR D T (ev_cl B) A0 s.heap κ ρ k0 s0 h H locs cells slots) (hA : ∀ q, s.heap.size ≤ q → A0 q) (hle : ev_le h h')
    (k1 : ∀ (ρ' : Nat → Nat) (v : Option Value) (H' : Heap) (locs' : List Loc) (cells' slots' : Nat), o = .inl v → (∀ w, v = some w → ev_ok h'.1.length w) → ev_ex2 ρ ρ' h.1.length → ev_HR D T (ev_cl B) A0 s.heap κ ρ' k0 s0 h' H' locs' cells' slots' → W p l e R s m args below meth c H' locs' cells' slots' Q (F0 m (pc + 3) ls ((v.map (ev_cv ρ')).toList ++ rest)))
    (k2 : ∀ (ρ' : Nat → Nat) (x q : Nat) (ce : Cell) (H' : Heap) (locs' : List Loc) (cells' slots' : Nat), o = .inr x → ev_ex2 ρ ρ' h.1.length → ev_HR D T (ev_cl B) A0 s.heap κ ρ' k0 s0 h' H' locs' cells' slots' → H'[q]? = some ce → ce.vm = .none → s.vm.findClass (ev_xn B x) = some ce.cls → vx_W p l e R s m args below meth c H' locs' cells' slots' Q (F0 m pc ls rest) q) :
    W p l e R s m args below meth c H locs cells slots Q (F0 m pc ls st) := by
  obtain ⟨hP, hD, hS, hκ, hok, hc1, hc2⟩ := hH
  have hfree := ev_vA hD hS hA
  have hnew : ∀ (ρ' : Nat → Nat) (t T' : State) (Lq : List Loc), (∀ q, q ∈ Lq → va_A (ev_wl T ρ h.1) H.size q.base) → T'.heap = t.heap → ev_aft B D T ρ H.size h ρ' h' t.heap → va_S A0 s.heap T'.heap (locs ++ Lq) → ev_HR D T (ev_cl B) A0 s.heap κ ρ' k0 s0 h' T'.heap (locs ++ Lq) (cells + (h'.2.1 - h.2.1)) (slots + (h'.2.2 - h.2.2)) := fun ρ' t T' Lq hL e1 ha hS' =>
    ⟨by rw [e1]; exact ha.2.1, ha.2.2.1.weaken (fun k q _ h9 => hfree _ h9), hS', fun a ha9 => by rw [ha.1 a (by omega)]; exact hκ a ha9, ha.2.2.2, by have := hle.2.1; omega, by have := hle.2.2; omega⟩
  intro T9 hT X
  rcases hr T9 hT X with ⟨v, st₀, t, T', Lq, h0, X', hL, e1, e2, ⟨⟨ρ', v', ho, hv, hvok, ha⟩, hF⟩, goes⟩ | ⟨q, st₀, t, T', Lq, E, ce, h0, X', hL, e1, e2, ⟨⟨ρ', x, ho, hE, ha⟩, hF⟩, hce, hcv, hcl, steps⟩
  · obtain ⟨-, -, hS'⟩ := vx_keep h0 e1 hS (fun q _ h9 => hfree q h9) hfree hL hF
    cases hv
    obtain ⟨t2, a1, b1⟩ := k1 ρ' v' T'.heap (locs ++ Lq) _ _ ho hvok ha.1 (hnew ρ' t T' Lq hL e1 ha hS') T' rfl X'
    exact ⟨t2, goes t2 a1, b1⟩
  · obtain ⟨-, -, hS'⟩ := vx_keep h0 e1 hS (fun q _ h9 => hfree q h9) hfree hL hF
    subst hE
    obtain ⟨t2, a1, b1⟩ := k2 ρ' x q ce T'.heap (locs ++ Lq) _ _ ho ha.1 (hnew ρ' t T' Lq hL e1 ha hS') (by rw [e1]; exact hce) hcv hcl T' rfl X'
    exact ⟨t2, steps.trans a1, b1⟩
theorem ev_run (F : ev_Fx G B M D T κ A0 p l s m args meth c) (hV : ev_VV G B) {j k a rc : Nat} (hct : ev_ct G M.1 j = some (k, a, rc, M')) (hk : ev_ck i k = true) (hi : ev_ix i = some j) (hd : decode M.2.2.1 pc = .ok (i, 3)) (hpop : ev_pop (bif ev_st k then a else a + 1) [] S = some (A, r)) (hcok : ev_cok G h k rc M' A r = true) (hR : ev_SR ρ h.1.length S st) (hsz : ls.size = M.2.2.2.1) (hH : ev_HR D T (ev_cl B) A0 s.heap κ ρ k0 s0 h H locs cells slots)
    {Qc : Array Value → State → Outcome → State → Prop} {XC : String → State → State → Prop} {free : Addr → Prop} (hM : vx_Met l M'.2.1 (ev_wd B M') (ev_rm d mc ms) (ev_Pc G B D T κ ρ H.size h A) Qc XC mc ms free) (hRf : d + 1 + 20 ≤ R.frames) (hRl : 60 * (d + 1) + 400 ≤ R.locals) (hRc : cells + mc ≤ R.cells) (hRs : slots + ms ≤ R.slots) :
    vx_Run p l e R s m args below meth c H locs cells slots mc ms (F0 m pc ls st) (r.map (ev_cv ρ)) (Qc (A.map (ev_cv ρ)).toArray) XC free := by
  obtain ⟨hx, hb, hml, hr, hlocks, hnm, hown, hts, hK, hE, hA, htr, hex, hex2, hdec, hcn⟩ := F
  obtain ⟨hP, hD, hS, hκ, hok, hc1, hc2⟩ := hH
  obtain ⟨⟨hV0, -, -, -, hV4, -, -, -, FS, NS, hS8⟩, hV9, -, -, hVn⟩ := hV
  have hkk : k ≠ 13 := by
    intro h9
    subst h9
    cases i <;> simp [ev_ck] at hk
  have hk10 : k ≠ 10 := by
    intro h9
    subst h9
    cases i <;> simp [ev_ck] at hk
  have hk11 : k ≠ 11 := by
    intro h9
    subst h9
    cases i <;> simp [ev_ck] at hk
  have hk12 : k ≠ 12 := by
    intro h9
    subst h9
    cases i <;> simp [ev_ck] at hk
  obtain ⟨hMK, hini, hmh, hlen, h8, hlink, hnest, hstat, hinst, hsel, hinit, hsup, hoth⟩ := (hV9 _ _ _ _ _ _ hct).2.2.1 hkk hk10 hk11 hk12
  obtain ⟨-, -, -, -, hcw⟩ := hMK
  unfold ev_cok at hcok
  rw [Bool.and_eq_true, Bool.and_eq_true, Bool.and_eq_true, Bool.and_eq_true] at hcok
  obtain ⟨⟨⟨⟨q1, q2⟩, q3⟩, q4⟩, q5⟩ := hcok
  have hmax := Nat.le_of_ble_eq_true q3
  obtain ⟨P, e1, e2, e3⟩ := ev_pop_ok _ _ _ _ _ hpop
  rw [List.append_nil] at e3
  have hSA : S = A.reverse ++ r := by rw [e1, e3, List.reverse_reverse]
  have hAlen : A.length = bif ev_st k then a else a + 1 := by rw [e3, List.length_reverse, e2]
  have hst : st = (A.map (ev_cv ρ)).reverse ++ r.map (ev_cv ρ) := by rw [hR.1, hSA, List.map_append, List.map_reverse]
  have hroom : 2 * (F0 m pc ls st).monitorRoom + ((r.map (ev_cv ρ)).map fun v => v.category).sum ≤ 8 := lv_room (ev_cs_ok q1)
  have hfix : CallFix p m c M.2.2.1 M.2.2.2.1 s args (ev_Tb B) M.2.1.cls := ⟨hx, hb, hml, hown, hts⟩
  have hG : GoodIn (ev_Tb B) (ev_wd B M') := fun w hw => by
    have hm : w ∈ ev_Tb B := by
      rcases List.mem_cons.mp hw with rfl | hw
      · exact hcw
      · exact hw
    exact ⟨hm, good_of_word (hVn.2.2 w hm)⟩
  have hwd : ∀ w ∈ ev_wd B M', ∀ (a' : Array Value) (U : State), s.WarmedH U.vm → w.before a' U = true := pay_in hts hG
  have hlens : ∀ sig, parseMethodDescriptor M'.2.1.desc = some sig → a = sig.parameters.length := fun sig h9 => by
    rw [h9] at hlen
    exact (Option.some.inj hlen).symm
  have hfr : (ev_rm d mc ms).frames + 1 ≤ R.frames := by
    rw [ev_rm_f]
    omega
  have hlo : 8 + (M'.2.2.2.1 + 11) + (ev_rm d mc ms).locals ≤ R.locals := by
    have h9 : (ev_rm d mc ms).locals = 60 * d + 400 := ev_rm_l
    have h8 : M'.2.2.2.1 ≤ 40 := hmax
    generalize M'.2.2.2.1 = x9 at h8 ⊢
    generalize (ev_rm d mc ms).locals = y9 at h9 ⊢
    omega
  have hpre : ∀ U : State, U.heap = H → s.WarmedH U.vm → ev_Pc G B D T κ ρ H.size h A (A.map (ev_cv ρ)).toArray U := fun U hU hW =>
    ⟨rfl, by rw [hU], by rw [hU]; exact hP, va_K.moved hW.alike hK, hD.weaken (fun _ _ _ _ => trivial), by rw [hU]; exact ev_En_call hVn.2.1 hE hW hS.2.1 (ev_vA hD hS hA)⟩
  have hbl : FrameBlind (ev_Pc G B D T κ ρ H.size h A) := ev_Pc_blind hVn.1
  have hcode : k ≠ 8 → Cond.code M'.2.1 M'.2.2.1 M'.2.2.2.1 M'.2.2.2.2.1 = ev_cw M' := fun h9 => by
    have : M'.2.2.2.2.2.1 = [] := by
      cases hc : M'.2.2.2.2.2.1 with
      | nil => rfl
      | cons q r => exact absurd (h8.mpr (by rw [hc]; exact fun h => by cases h)) h9
    unfold ev_cw
    rw [this]
  have hCB : k ≠ 8 → k = 0 ∨ k = 2 ∨ k = 4 → CallB R s args M.2.1.cls j M'.2.1 M'.2.2.1 M'.2.2.2.1 M'.2.2.2.2.1 (ev_wd B M') (ev_rm d mc ms) mc ms a := fun g1 g2 =>
    ⟨rfl, rfl, hfr, hlo, hwd, by rw [hcode g1]; exact List.mem_cons_self, by rw [hcode g1]; exact hts _ hcw, hts _ hini, hmh, hlens, by rw [← hcn]; exact hts _ (hlink (by omega))⟩
  have hCN : k ≠ 8 → k = 1 ∨ k = 3 ∨ k = 5 → ∃ host, va_CN R s args M.2.1.cls j M'.2.1 host M'.2.2.1 M'.2.2.2.1 M'.2.2.2.2.1 (ev_wd B M') (ev_rm d mc ms) mc ms a := fun g1 g2 => by
    obtain ⟨host, hh⟩ := hnest (by omega)
    exact ⟨host, ⟨rfl, rfl, hfr, hlo, hwd, by rw [hcode g1]; exact List.mem_cons_self⟩, by rw [hcode g1]; exact hts _ hcw, hts _ hini, hmh, hlens, by rw [← hcn]; exact va_Nw.use rfl (hE.2.2.2.1 _ hh)⟩
  -- the receiver
  have hrecv : ev_st k = false → ∃ (b : Nat) (A' : List Value), A = .ref b :: A' ∧ A'.length = a ∧ (k = 0 ∨ k = 1 ∨ k = 6 → ∃ (C : String) (F : u_T) (N : Nat), (ev_cl B)[rc]? = some (C, F, N) ∧ ∃ cellB : Cell, H[ρ b]? = some cellB ∧ cellB.vm.isStatics = false ∧ s.vm.findClass C = some cellB.cls) ∧ (k = 7 → ∃ cellB : Cell, H[ρ b]? = some cellB ∧ cellB.vm.isStatics = false ∧ ∃ C F N, (ev_cl B)[rc]? = some (C, F, N) ∧ s.vm.findClass C = some cellB.cls) := fun g1 => by
    rw [g1] at q5 hAlen
    simp only [Bool.false_or] at q5
    cases hAc : A with
    | nil => rw [hAc] at q5; cases q5
    | cons v A' =>
      rw [hAc] at q5 hAlen
      simp only at q5
      cases v with
      | ref b =>
        refine ⟨b, A', rfl, by simpa using hAlen, ?_⟩
        by_cases h45 : k = 4 ∨ k = 5
        · exact ⟨fun h9 => absurd h9 (by omega), fun h9 => absurd h9 (by omega)⟩
        · have h4 : Nat.beq k 4 = false := by
            cases hb4 : Nat.beq k 4 with
            | false => rfl
            | true => exact absurd (Nat.eq_of_beq_eq_true hb4) (by omega)
          have h5 : Nat.beq k 5 = false := by
            cases hb4 : Nat.beq k 5 with
            | false => rfl
            | true => exact absurd (Nat.eq_of_beq_eq_true hb4) (by omega)
          unfold ev_rc at q5
          rw [h4, h5] at q5
          simp only [Bool.false_or] at q5
          split at q5
          · rename_i ci vs hrd
            rw [Bool.and_eq_true] at q5
            obtain rfl := Nat.eq_of_beq_eq_true q5.1
            have hlt := Nat.le_of_ble_eq_true q5.2
            by_cases hb9 : b < 1000
            · have hcst := ev_rd_lo hrd hb9
              have h50 : ci = 8 ∧ vs.length ≤ 2 ∧ ∀ v ∈ vs, ev_ok 0 v := hV0 _ _ hcst
              obtain ⟨rfl, -⟩ := h50
              have hcc2 : ev_cc κ b (.inr (8, vs)) A0 s s.heap := hE.2.2.1 b _ hb9 hcst
              obtain ⟨cell, g2, g3, g4, g5⟩ := hcc2.1.kept hS.2.1
              refine ⟨fun h9 => ?_, fun h9 => ?_⟩
              · exact ⟨_, FS, NS, hS8, cell, by rw [hκ b hb9]; exact g2, g3, g4⟩
              · exact ⟨cell, by rw [hκ b hb9]; exact g2, g3, _, FS, NS, hS8, g4⟩
            · have hcell := ev_rd_hi hrd (Nat.le_of_not_lt hb9)
              have hgl := ev_wl_at (T := T) (ρ := ρ) hcell (Nat.le_of_not_lt hb9)
              rw [ev_at_obj (by omega)] at hgl
              refine ⟨fun h9 => ?_, fun h9 => ?_⟩
              · have hC : ∃ (C : String) (F : u_T) (N : Nat), (ev_cl B)[ci]? = some (C, F, N) := by
                  rcases h9 with h9 | h9 | h9
                  · obtain ⟨C, F9, N9, hc9, -⟩ := hsel (Or.inl h9)
                    exact ⟨C, F9, N9, hc9⟩
                  · obtain ⟨C, F9, N9, hc9, -⟩ := hsel (Or.inr h9)
                    exact ⟨C, F9, N9, hc9⟩
                  · obtain ⟨_, _, _, _, _, _, _, _, _, _, C, F9, N9, hc9, -⟩ := hoth h9
                    exact ⟨C, F9, N9, hc9⟩
                obtain ⟨C, F9, N9, hc9⟩ := hC
                exact ⟨C, F9, N9, hc9, va_recv hK hP hc9 hgl⟩
              · obtain ⟨-, -, -, C, F9, N9, hc9, -⟩ := hsup h9
                obtain ⟨cell, g2, g3, g4⟩ := va_recv hK hP hc9 hgl
                exact ⟨cell, g2, g3, C, F9, N9, hc9, g4⟩
          · cases q5
      | _ => cases q5
  cases i with
  | invokevirtual j9 =>
    cases hi
    have hk2 : k = 0 ∨ k = 1 ∨ k = 6 := by
      simp only [ev_ck, Bool.or_eq_true] at hk
      rcases hk with (h9 | h9) | h9
      · exact Or.inl (Nat.eq_of_beq_eq_true h9)
      · exact Or.inr (Or.inl (Nat.eq_of_beq_eq_true h9))
      · exact Or.inr (Or.inr (Nat.eq_of_beq_eq_true h9))
    have hst0 : ev_st k = false := by rcases hk2 with rfl | rfl | rfl <;> rfl
    obtain ⟨b, A', rfl, hA', hrv, -⟩ := hrecv hst0
    obtain ⟨C, FC, NC, hcC, hcell⟩ := hrv hk2
    have hstk : (F0 m pc ls st).stack = (A'.map (ev_cv ρ)).reverse ++ .ref (ρ b) :: r.map (ev_cv ρ) := by
      show st = _
      rw [hst]
      simp [ev_cv]
    have hsC : k = 0 ∨ k = 1 → Cond.selects C M'.2.1 M'.2.1 ∈ ev_Tb B := fun h9 => by
      obtain ⟨C9, F9, N9, hc9, hs9⟩ := hsel h9
      cases hc9.symm.trans hcC
      exact hs9
    rcases hk2 with rfl | rfl | rfl
    · have hs := hsC (Or.inl rfl)
      exact vx_runV (As := A'.map (ev_cv ρ)) hfix hM ⟨hCB (by decide) (by decide), hts _ (hinst (by decide)), hts _ hs⟩ ⟨hbl, hcell, hpre⟩ rfl (by rw [List.length_map]; exact hA') hsz hstk hroom hd ⟨hRc, hRs⟩
    · have hs := hsC (Or.inr rfl)
      obtain ⟨host, hcn9⟩ := hCN (by decide) (by decide)
      exact vx_runVN (As := A'.map (ev_cv ρ)) hfix hM ⟨hcn9, hts _ (hinst (by decide)), hts _ hs⟩ ⟨hbl, hcell, hpre⟩ rfl (by rw [List.length_map]; exact hA') hsz hstk hroom hd ⟨hRc, hRs⟩
    · obtain ⟨y0, b0, m0, r0, o1, o2, o3, o4, o5, o6, C9, F9, N9, hc9, o7⟩ := hoth rfl
      cases hc9.symm.trans hcC
      have hcu : va_CU R s args M.2.1.cls C y0.cls j y0 M'.2.1 M'.2.2.1 M'.2.2.2.1 M'.2.2.2.2.1 (ev_wd B M') (ev_rm d mc ms) mc ms a :=
        ⟨⟨rfl, rfl, hfr, hlo, hwd, by rw [hcode (by decide)]; exact List.mem_cons_self⟩, by rw [hcode (by decide)]; exact hts _ hcw, hts _ hini, o2, fun sig h9 => by rw [h9] at o3; exact (Option.some.inj o3).symm, by rw [← hcn]; exact hts _ o1, hts _ o4, va_Decl.of (hts _ o5) (hts _ o6), hts _ o7, hts _ (hinst (by decide))⟩
      exact vx_runU (As := A'.map (ev_cv ρ)) hfix hM hcu ⟨hbl, hcell, hpre⟩ rfl (by rw [List.length_map]; exact hA') hsz hstk hroom hd ⟨hRc, hRs⟩
  | invokestatic j9 =>
    cases hi
    have hk2 : k = 2 ∨ k = 3 ∨ k = 8 := by
      simp only [ev_ck, Bool.or_eq_true] at hk
      rcases hk with (h9 | h9) | h9
      · exact Or.inl (Nat.eq_of_beq_eq_true h9)
      · exact Or.inr (Or.inl (Nat.eq_of_beq_eq_true h9))
      · exact Or.inr (Or.inr (Nat.eq_of_beq_eq_true h9))
    have hst0 : ev_st k = true := by rcases hk2 with rfl | rfl | rfl <;> rfl
    rw [hst0] at hAlen
    simp only [cond_true] at hAlen
    rcases hk2 with rfl | rfl | rfl
    · exact vx_runS (As := A.map (ev_cv ρ)) hfix hM ⟨hCB (by decide) (by decide), hts _ (hstat (by decide))⟩ ⟨hbl, hpre⟩ rfl (by rw [List.length_map]; exact hAlen) hsz hst hroom hd ⟨hRc, hRs⟩
    · obtain ⟨host, hcn9⟩ := hCN (by decide) (by decide)
      exact vx_runSN (As := A.map (ev_cv ρ)) hfix hM ⟨hcn9, hts _ (hstat (by decide)), trivial⟩ ⟨hbl, hpre⟩ rfl (by rw [List.length_map]; exact hAlen) hsz hst hroom hd ⟨hRc, hRs⟩
    · have hne := h8.mp rfl
      have hcw8 : Cond.codeWith M'.2.1 M'.2.2.1 M'.2.2.2.1 M'.2.2.2.2.1 M'.2.2.2.2.2.1 = ev_cw M' := by
        unfold ev_cw
        cases hc : M'.2.2.2.2.2.1 with
        | nil => exact absurd hc hne
        | cons q r => rfl
      exact vx_runSX (As := A.map (ev_cv ρ)) hfix hM ⟨⟨rfl, rfl, hfr, hlo, hwd, by rw [hcw8]; exact List.mem_cons_self⟩, by rw [hcw8]; exact hts _ hcw, hts _ hini, hmh, hlens, by rw [← hcn]; exact hts _ (hlink (by decide)), hts _ (hstat (by decide))⟩ ⟨hbl, hpre⟩ rfl (by rw [List.length_map]; exact hAlen) hsz hst hroom hd ⟨hRc, hRs⟩
  | invokespecial j9 =>
    cases hi
    have hk2 : k = 4 ∨ k = 5 ∨ k = 7 := by
      simp only [ev_ck, Bool.or_eq_true] at hk
      rcases hk with (h9 | h9) | h9
      · exact Or.inl (Nat.eq_of_beq_eq_true h9)
      · exact Or.inr (Or.inl (Nat.eq_of_beq_eq_true h9))
      · exact Or.inr (Or.inr (Nat.eq_of_beq_eq_true h9))
    have hst0 : ev_st k = false := by rcases hk2 with rfl | rfl | rfl <;> rfl
    obtain ⟨b, A', rfl, hA', -, hrv⟩ := hrecv hst0
    have hstk : (F0 m pc ls st).stack = (A'.map (ev_cv ρ)).reverse ++ .ref (ρ b) :: r.map (ev_cv ρ) := by
      show st = _
      rw [hst]
      simp [ev_cv]
    rcases hk2 with rfl | rfl | rfl
    · obtain ⟨hi1, hi2⟩ := hinit (by decide)
      have hcb := hCB (by decide) (by decide)
      rw [hi2] at hcb
      exact vx_runI (As := A'.map (ev_cv ρ)) hfix hM ⟨hcb, hi1, hts _ (hinst (by decide))⟩ ⟨hbl, hpre⟩ rfl (by rw [List.length_map]; exact hA') hsz hstk hroom hd ⟨hRc, hRs⟩
    · obtain ⟨hi1, hi2⟩ := hinit (by decide)
      obtain ⟨host, hcn9⟩ := hCN (by decide) (by decide)
      rw [hi2] at hcn9
      exact vx_runIN (As := A'.map (ev_cv ρ)) hfix hM ⟨hcn9, hi1, hts _ (hinst (by decide))⟩ ⟨hbl, hpre⟩ rfl (by rw [List.length_map]; exact hA') hsz hstk hroom hd ⟨hRc, hRs⟩
    · obtain ⟨hs1, hs2, hs3, C9, F9, N9, hc9, hC9⟩ := hsup rfl
      obtain ⟨cell, g2, g3, C, F, N, hcC, g4⟩ := hrv rfl
      cases hc9.symm.trans hcC
      have hcs : va_CS R s args M.2.1.cls j M'.2.1 M'.2.2.1 M'.2.2.2.1 M'.2.2.2.2.1 (ev_wd B M') (ev_rm d mc ms) mc ms a :=
        ⟨⟨rfl, rfl, hfr, hlo, hwd, by rw [hcode (by decide)]; exact List.mem_cons_self⟩, by rw [← hcn]; exact hts _ (hlink (by decide)), hts _ hs2, by rw [← hcn]; exact hts _ hs3, hts _ (hinst (by decide)), hts _ hini, by rw [hcode (by decide)]; exact hts _ hcw, hs1, hlens⟩
      exact vx_runSU (As := A'.map (ev_cv ρ)) (hK.1 rc _ hcC).2 hfix hM hcs ⟨hbl, ⟨cell, g2, g3, g4⟩, hpre⟩ rfl (by rw [List.length_map]; exact hA') hsz hstk hroom hd ⟨hRc, hRs⟩
  | _ => simp [ev_ix] at hi
end

