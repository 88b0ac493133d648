/-- a method's contract out of its runs -/
theorem ev_met {G : ev_G} {B : ev_B} {n d : Nat} {M : ev_MD} {A : List Value} {h h' : ev_AH} {o : ev_O} (hn : ev_Snd G B n) (hV : ev_VV G B) (hM : ev_MK B M) (hF : ev_F G n d M 0 (ev_en M A) [] h = some (o, h')) (hA1 : A.all ev_cat1 = true) (hA2 : A.length ≤ M.2.2.2.1)
    {D : va_G} {T : Nat → ClassId} {κ ρ : Nat → Nat} (l : Launch) (htr : l.stackTraces = false) (sz : Nat) (hA3 : ∀ v ∈ A, ev_ok h.1.length v) (hκ : ∀ a, a < 1000 → ρ a = κ a) (hok : ∀ x ∈ h.1, ev_okc h.1.length x) :
    vx_Met l M.2.1 (ev_wd B M) (ev_rm d (h'.2.1 - h.2.1) (h'.2.2 - h.2.2)) (ev_Pc G B D T κ ρ sz h A) (ev_Qc B D T ρ sz h h' o) (ev_Xc B D T ρ sz h h' o) (h'.2.1 - h.2.1) (h'.2.2 - h.2.2) (va_A (ev_wl T ρ h.1) sz) := by
  obtain ⟨hpl, htab, hcn, hh11, hcw⟩ := hM
  have hle := ev_F_le _ _ _ _ _ _ _ _ _ hF
  have body : ∀ (p : Program) (e : Env) (s : State) (m : MethodId) (args : Array Value) (below : List Frame) (meth : Method) (c : Code) (s₁ : State), BodyLoose p l M.2.1 (headSpec (ev_wd B M) (ev_rm d (h'.2.1 - h.2.1) (h'.2.2 - h.2.2))) M.2.2.1 M.2.2.2.1 M.2.2.2.2.1 e s m args below meth c s₁ → c.maxLocals = M.2.2.2.1 → c.exceptionTable.toList = tableOf M.2.2.2.2.2.1 → ev_Pc G B D T κ ρ sz h A args s →
      W p l e (headSpec (ev_wd B M) (ev_rm d (h'.2.1 - h.2.1) (h'.2.2 - h.2.2))).room s m args below meth c s.heap [] 0 0 (vx_MQ below (ev_Qc B D T ρ sz h h' o) (ev_Xc B D T ρ sz h h' o) args s (h'.2.1 - h.2.1) (h'.2.2 - h.2.2) (va_A (ev_wl T ρ h.1) sz)) (entryFrame m args M.2.2.2.1) := by
    intro p e s m args below meth c s₁ Bd hml hex hv
    obtain ⟨rfl, rfl, hP, hK, hD0, hE⟩ := hv
    obtain ⟨ls, hls, hL⟩ := ev_entry (ρ := ρ) (n := h.1.length) (M := M) (A := A) m hA1 hA2 hA3
    rw [hls]
    have hAA : ∀ q, s.heap.size ≤ q → va_A (ev_wl T ρ h.1) s.heap.size q := fun q hq => Or.inr hq
    have hts : ∀ w ∈ ev_Tb B, w.before (A.map (ev_cv ρ)).toArray s = true := fun w hw => atoms_spec (ws := ev_wd B M) Bd.pre w (List.mem_cons_of_mem _ hw)
    have hFx : ev_Fx G B M D T κ (va_A (ev_wl T ρ h.1) s.heap.size) p l s m (A.map (ev_cv ρ)).toArray meth c :=
      ⟨Bd.exec, Bd.bytes, hml, Bd.returns, Bd.notSynchronized, (name_of_methodNamed Bd.named Bd.method).1, findClass_of_methodNamed Bd.named, hts, hK, hE, hAA, htr, hex, hh11, htab, hcn⟩
    have hHR : ev_HR D T (ev_cl B) (va_A (ev_wl T ρ h.1) s.heap.size) s.heap κ ρ h.2.1 h.2.2 h s.heap [] 0 0 := ⟨hP, hD0.self, va_S.rf, hκ, hok, Nat.zero_add _, Nat.zero_add _⟩
    refine hn d M 0 (ev_en M A) [] h o h' hF D T κ ρ _ p l e _ s m _ below meth c s.heap [] 0 0 h.2.1 h.2.2 _ ls [] hFx ⟨rfl, fun v hv => by cases hv⟩ hL hHR (Nat.le_refl (d + 20)) (Nat.le_refl (60 * d + 400)) ?_ ?_ ?_ ?_ ?_
    · show h'.2.1 ≤ h.2.1 + (h'.2.1 - h.2.1)
      omega
    · show h'.2.2 ≤ h.2.2 + (h'.2.2 - h.2.2)
      omega
    · intro v i pc' S' st' ls' ρ' H' locs' cells' slots' ho g1 g2 g3 g4 g5
      subst ho
      exact ev_ret_ok hFx g1 g2 g3 g4 g5
    · intro E q ce pc' ls' rest ρ' H' locs' cells' slots' ho g1 g2 g3 g4 g5 g6
      subst ho
      have g2' := g2
      obtain ⟨-, -, hS, -, -, hc1, hc2⟩ := g2'
      rcases hh11 with hh | h11
      · refine vx_out (fun x hx9 => ?_) Bd.notSynchronized g4 g5 g6 (fun t ht hvm => ⟨⟨ρ', E, rfl, rfl, by rw [ht]; exact ev_aft_of g2 g3⟩, hS.F ht⟩) hS.2.2 (by omega) (by omega)
        rw [hex, hh] at hx9
        cases hx9
      · refine vx_outP (own := ev_cn B 11) (by rw [← h11, hcn]; exact findClass_of_methodNamed Bd.named) Bd.notSynchronized ?_ g4 g5 g6 (fun t ht hvm => ⟨⟨ρ', E, rfl, rfl, by rw [ht]; exact ev_aft_of g2 g3⟩, hS.F ht⟩) hS.2.2 (by omega) (by omega)
        rw [hex]
        exact ev_hd_none hV.2.2.1 hts hE.2.2.2.2.2.2.2 _ g1
    · intro E j pc' S' st' ls' ρ' h1 H' locs' cells' slots' ho g1 g2 g3 g4 g5 g6 g7 g8 g9 g10
      subst ho
      exact ev_thr_ok hFx hV g1 g2 g3 g4 g5 g6 g7 g8 g9 g10 (show 20 ≤ d + 20 by omega) (show 400 ≤ 60 * d + 400 by omega) (show h'.2.1 ≤ h.2.1 + (h'.2.1 - h.2.1) by omega) (show h'.2.2 ≤ h.2.2 + (h'.2.2 - h.2.2) by omega)
  cases hhe : M.2.2.2.2.2.1 with
  | nil =>
    refine vx_ofW (cc := M.2.2.1) (maxL := M.2.2.2.1) (ret := M.2.2.2.2.1) (ws' := ev_Tb B) hpl (by simp only [ev_wd, ev_cw, hhe]) ?_
    intro p e s m args below meth c s₁ Bd hml hex hv
    refine body p e s m args below meth c s₁ Bd hml ?_ hv
    rw [hhe]
    cases hc : c.exceptionTable.toList with
    | nil => rfl
    | cons x r => exact (hex x (by rw [hc]; exact List.mem_cons_self)).elim
  | cons q r =>
    refine vx_ofWH (cc := M.2.2.1) (maxL := M.2.2.2.1) (ret := M.2.2.2.2.1) (hh := q :: r) (ws' := ev_Tb B) hpl (by simp only [ev_wd, ev_cw, hhe]) ?_
    intro p e s m args below meth c s₁ Bd hml hv
    refine body p e s m args below meth c s₁ Bd hml ?_ hv
    rw [hhe]
    exact vx_table (x := M.2.1) (y := M.2.1) (bytes := M.2.2.1) (maxL' := M.2.2.2.1) (ret' := M.2.2.2.2.1) Bd (atoms_spec (ws := ev_wd B M) Bd.pre _ (by rw [ev_wd, ev_cw, hhe]; exact List.mem_cons_self))

