/-! a throw, a method's contract, a call, and all runs -/
theorem ev_aft_of {B : ev_B} {D : va_G} {T : Nat → ClassId} {ρ ρ' κ : Nat → Nat} {s : State} {k0 s0 : Nat} {h h' : ev_AH} {H' : Heap} {locs' : List Loc} {cells' slots' : Nat} (hH : ev_HR D T (ev_cl B) (va_A (ev_wl T ρ h.1) s.heap.size) s.heap κ ρ' k0 s0 h' H' locs' cells' slots') (hx2 : ev_ex2 ρ ρ' h.1.length) : ev_aft B D T ρ s.heap.size h ρ' h' H' :=
  ⟨hx2, hH.1, hH.2.1, hH.2.2.2.2.1⟩
set_option maxHeartbeats 8000000 in
theorem ev_thr_ok {G : ev_G} {B : ev_B} {M : ev_MD} {D : va_G} {T : Nat → ClassId} {κ ρ ρ' : Nat → Nat} {p : Program} {l : Launch} {e : Env} {R : Room} {s : State} {m : MethodId} {args : Array Value} {below : List Frame} {meth : Method} {c : Code} {H' : Heap} {locs' : List Loc} {cells' slots' : Nat} {h h1 h' : ev_AH} {E j pc' : Nat} {S' st' : List Value} {ls' : Array Slot} {Qc : Array Value → State → Outcome → State → Prop}
    (F : ev_Fx G B M D T κ (va_A (ev_wl T ρ h.1) s.heap.size) p l s m args meth c) (hV : ev_VV G B) (hd : decode M.2.2.1 pc' = .ok (.new j, 3)) (ht : ev_th G M pc' j = some E) (hh : M.2.2.2.2.2.1 = []) (h0 : M.1 = 0) (hcs : ev_cs S' = true) (hsz : ls'.size = M.2.2.2.1) (hR : ev_SR ρ' h1.1.length S' st') (hH : ev_HR D T (ev_cl B) (va_A (ev_wl T ρ h.1) s.heap.size) s.heap κ ρ' h.2.1 h.2.2 h1 H' locs' cells' slots') (he : h' = (h1.1, h1.2.1 + 1, h1.2.2 + 6)) (hx2 : ev_ex2 ρ ρ' h.1.length)
    (hRf : 20 ≤ R.frames) (hRl : 400 ≤ R.locals) (hRc : h'.2.1 ≤ h.2.1 + R.cells) (hRs : h'.2.2 ≤ h.2.2 + R.slots) :
    W p l e R s m args below meth c H' locs' cells' slots' (vx_MQ below Qc (ev_Xc B D T ρ s.heap.size h h' (.inr E)) args s (h'.2.1 - h.2.1) (h'.2.2 - h.2.2) (va_A (ev_wl T ρ h.1) s.heap.size)) (F0 m pc' ls' st') := by
  obtain ⟨hx, hb, hml, hr, hlocks, hnm, hown, hts, hK, hE, hA, htr, hex, hex2, hdec, hcn⟩ := F
  obtain ⟨hP, hD, hS, hκ, hok, hc1, hc2⟩ := hH
  obtain ⟨-, -, -, hV11, hVn⟩ := hV
  subst he
  simp only at hRc hRs
  have hcat := ev_cs_ok (ρ := ρ') hcs
  rw [← hR.1] at hcat
  have htab : c.exceptionTable.toList = [] := by rw [hex, hh]; rfl
  have hown0 : s.vm.findClass (ev_cn B 0) = some m.cls := by rw [← h0, hcn]; exact hown
  have r5 : cells' + 1 ≤ (h1.2.1 + 1) - h.2.1 := by omega
  have r6 : slots' + 6 ≤ (h1.2.2 + 6) - h.2.2 := by omega
  have hXC : ∀ t : State, s.vm.Alike t.vm → H'.size ≤ t.heap.size → (∀ q : Nat, q < H'.size → t.heap[q]? = H'[q]?) → ev_Xc B D T ρ s.heap.size h (h1.1, h1.2.1 + 1, h1.2.2 + 6) (.inr E) (ev_xn B E) s t := fun t _ hz hq =>
    ⟨⟨ρ', E, rfl, rfl, hx2, hP.kept (fun k x hx9 => hq _ ((hP k x hx9).lt)), hD, hok⟩, Nat.le_trans hS.1 hz, fun q hq1 hq2 => by
      rw [hq q (Nat.lt_of_lt_of_le hq1 hS.1)]
      exact hS.2.1 q hq1 hq2⟩
  unfold ev_th at ht
  split at ht
  · rename_i is hq3 hq4
    split at ht
    · rename_i ic hq6 hq9
      obtain ⟨names, tx, a, ix, rx, v1, v2, v3, v4, v5, v6, v7, v8, x0, x1, x2, x5⟩ := hV11 _ _ _ _ ht
      have e3 : decode M.2.2.1 (pc' + 3) = .ok (.dup, 1) := hdec (pc' + 3, (.dup, 1)) (ev_lk_mem hq3)
      have e4 : decode M.2.2.1 (pc' + 4) = .ok (.ldc is, 2) := hdec (pc' + 4, (.ldc is, 2)) (ev_lk_mem hq4)
      have e6 : decode M.2.2.1 (pc' + 6) = .ok (.invokespecial ic, 3) := hdec (pc' + 6, (.invokespecial ic, 3)) (ev_lk_mem hq6)
      have e9 : decode M.2.2.1 (pc' + 9) = .ok (.athrow, 1) := hdec (pc' + 9, (.athrow, 1)) (ev_lk_mem hq9)
      have r1 : names.length + 3 < R.frames := by omega
      have r2 : (st'.map fun v => v.category).sum + (13 * (names.length + 1) + 43) ≤ R.locals := by omega
      have r3 : cells' + 1 ≤ R.cells := by omega
      have r4 : slots' + 6 ≤ R.slots := by omega
      have r7 : ∀ w ∈ vx_at9 (ev_cn B 0) ic (ev_xn B E) ix rx names, w.before args s = true := fun w hw => by
        rcases v7 w hw with h9 | h9
        · exact hts _ h9
        · exact va_Nw.use (hVn.1 _ h9) (hE.2.2.2.1 _ h9)
      exact vx_throwX (own := ev_cn B 0) (cls := ev_xn B E) (text := tx) (names := names) (sa := κ a) (A := va_A (ev_wl T ρ h.1) s.heap.size) hx hb htr x0 x1 x2 x5 hown0 v1 v2 (hts _ v4) (hts _ v5) (hE.1 (ev_cn B 0, is, tx, a) v6) r7 v8 hE.2.2.2.2.1 hE.2.2.2.2.2.1 hS (hsz.trans hml.symm) hd e3 e4 e6 e9 (fun x hx9 => by rw [htab] at hx9; cases hx9) r1 r2 r3 r4 hlocks hXC hS.2.2 r5 r6
    · cases ht
  · rename_i is hq3 hq4
    split at ht
    · rename_i ic hq6 hq9
      obtain ⟨names, tx, a, ix, rx, v1, v2, v3, v4, v5, v6, v7, v8, x0, x1, x2, x5⟩ := hV11 _ _ _ _ ht
      have e3 : decode M.2.2.1 (pc' + 3) = .ok (.dup, 1) := hdec (pc' + 3, (.dup, 1)) (ev_lk_mem hq3)
      have e4 : decode M.2.2.1 (pc' + 4) = .ok (.ldc_w is, 3) := hdec (pc' + 4, (.ldc_w is, 3)) (ev_lk_mem hq4)
      have e6 : decode M.2.2.1 (pc' + 7) = .ok (.invokespecial ic, 3) := hdec (pc' + 7, (.invokespecial ic, 3)) (ev_lk_mem hq6)
      have e9 : decode M.2.2.1 (pc' + 10) = .ok (.athrow, 1) := hdec (pc' + 10, (.athrow, 1)) (ev_lk_mem hq9)
      have r1 : names.length + 3 < R.frames := by omega
      have r2 : (st'.map fun v => v.category).sum + (13 * (names.length + 1) + 43) ≤ R.locals := by omega
      have r3 : cells' + 1 ≤ R.cells := by omega
      have r4 : slots' + 6 ≤ R.slots := by omega
      have r7 : ∀ w ∈ vx_at9 (ev_cn B 0) ic (ev_xn B E) ix rx names, w.before args s = true := fun w hw => by
        rcases v7 w hw with h9 | h9
        · exact hts _ h9
        · exact va_Nw.use (hVn.1 _ h9) (hE.2.2.2.1 _ h9)
      exact vx_throwXW (own := ev_cn B 0) (cls := ev_xn B E) (text := tx) (names := names) (sa := κ a) (A := va_A (ev_wl T ρ h.1) s.heap.size) hx hb htr x0 x1 x2 x5 hown0 v1 v2 (hts _ v4) (hts _ v5) (hE.1 (ev_cn B 0, is, tx, a) v6) r7 v8 hE.2.2.2.2.1 hE.2.2.2.2.2.1 hS (hsz.trans hml.symm) hd e3 e4 e6 e9 (fun x hx9 => by rw [htab] at hx9; cases hx9) r1 r2 r3 r4 hlocks hXC hS.2.2 r5 r6
    · cases ht
  · cases ht

