/-! THE START: what the cells hold then; the law from its entry -/
theorem cls0_len {N : Nat} : (cls0 N).length = 99 := by simp [cls0, crt0_len, his0_len, -List.reduceReplicate]
def zc_f : Nat → Value → Bool
  | 0, .int _ => true
  | 1, _ => true
  | 2, .long _ => true
  | 3, .double _ => true
  | n + 4, .ref m => Nat.beq (n + 4) m
  | _, _ => false
theorem zc_f_ok {f : Nat} {v : Value} (h : zc_f f v = true) : hh_f f v := by
  unfold zc_f at h
  split at h
  · exact ⟨_, rfl⟩
  · trivial
  · exact ⟨_, rfl⟩
  · exact ⟨_, rfl⟩
  · rename_i n m
    have e : n + 4 = m := Nat.eq_of_beq_eq_true h
    show Value.ref m = Value.ref (n + 4)
    rw [e]
  · cases h
def zc_z : List Nat → List Value → Bool
  | [], _ => true
  | _, [] => true
  | f :: fs, v :: vs => zc_f f v && zc_z fs vs
theorem zc_z_ok : ∀ (fs : List Nat) (vs : List Value), zc_z fs vs = true → ∀ (j f : Nat) (v : Value), fs[j]? = some f → vs[j]? = some v → hh_f f v
  | [], _, _, j, f, v, h1, _ => by simp at h1
  | _ :: _, [], _, j, f, v, _, h2 => by simp at h2
  | f0 :: fs, v0 :: vs, h, j, f, v, h1, h2 => by
    have h' : (zc_f f0 v0 && zc_z fs vs) = true := h
    rw [Bool.and_eq_true] at h'
    cases j with
    | zero =>
      have e1 : f0 = f := Option.some.inj h1
      have e2 : v0 = v := Option.some.inj h2
      rw [← e1, ← e2]
      exact zc_f_ok h'.1
    | succ j => exact zc_z_ok fs vs h'.2 j f v h1 h2
def zc_c : hh_S → ev_AC → Bool
  | .inl (k, n), .inl (k', l) => Nat.beq k k' && Nat.beq l.length n
  | .inr (k, fs), .inr (k', vs) => Nat.beq k k' && (Nat.beq vs.length fs.length && zc_z fs vs)
  | _, _ => false
theorem zc_c_ok {t : hh_S} {c : ev_AC} (h : zc_c t c = true) : hh_c t c := by
  rcases t with ⟨k, n⟩ | ⟨k, fs⟩ <;> rcases c with ⟨k', l⟩ | ⟨k', vs⟩
  · have h' : (Nat.beq k k' && Nat.beq l.length n) = true := h
    rw [Bool.and_eq_true] at h'
    have e1 : k = k' := Nat.eq_of_beq_eq_true h'.1
    have e2 : l.length = n := Nat.eq_of_beq_eq_true h'.2
    subst e1
    exact ⟨l, rfl, e2⟩
  · cases h
  · cases h
  · have h' : (Nat.beq k k' && (Nat.beq vs.length fs.length && zc_z fs vs)) = true := h
    rw [Bool.and_eq_true, Bool.and_eq_true] at h'
    have e1 : k = k' := Nat.eq_of_beq_eq_true h'.1
    have e2 : vs.length = fs.length := Nat.eq_of_beq_eq_true h'.2.1
    subst e1
    exact ⟨vs, rfl, e2, zc_z_ok fs vs h'.2.2⟩
def zc_all : List hh_S → List ev_AC → Bool
  | [], _ => true
  | _ :: _, [] => false
  | t :: ts, c :: cs => zc_c t c && zc_all ts cs
theorem zc_all_ok : ∀ (ts : List hh_S) (cs : List ev_AC), zc_all ts cs = true → ∀ (k : Nat) (t : hh_S), ts[k]? = some t → ∃ c : ev_AC, cs[k]? = some c ∧ hh_c t c
  | [], _, _, k, t, h1 => by simp at h1
  | _ :: _, [], h, _, _, _ => by cases h
  | t0 :: ts, c0 :: cs, h, k, t, h1 => by
    have h' : (zc_c t0 c0 && zc_all ts cs) = true := h
    rw [Bool.and_eq_true] at h'
    cases k with
    | zero =>
      have e1 : t0 = t := Option.some.inj h1
      rw [← e1]
      exact ⟨c0, rfl, zc_c_ok h'.1⟩
    | succ k => exact zc_all_ok ts cs h'.2 k t h1
theorem hs0_L : hh_L (cls0 0, 99, 3015) := zc_all_ok hh_t (cls0 0) (by decide +kernel)
def ct0 : CT := (List.replicate 35 46, List.replicate 7 0, List.replicate 28 0, List.replicate 28 0, List.replicate 7 0, List.replicate 10 0, [0, 112, 0, 0, 0, 0, 0, 0])
theorem ct0_cC : cC (cls0 0, 99, 3015) 1 = ct0 := by
  have h1 : hh_a (cls0 0, 99, 3015) (1 + 1) = List.replicate 35 46 := by decide +kernel
  have h2 : hh_a (cls0 0, 99, 3015) (1 + 2) = List.replicate 7 0 := by decide +kernel
  have h3 : hh_a (cls0 0, 99, 3015) (1 + 3) = List.replicate 28 0 := by decide +kernel
  have h4 : hh_a (cls0 0, 99, 3015) (1 + 4) = List.replicate 28 0 := by decide +kernel
  have h5 : hh_a (cls0 0, 99, 3015) (1 + 5) = List.replicate 7 0 := by decide +kernel
  have h6 : hh_a (cls0 0, 99, 3015) (1 + 6) = List.replicate 10 0 := by decide +kernel
  have h7 : [hh_i (cls0 0, 99, 3015) 1 6, hh_i (cls0 0, 99, 3015) 1 7, hh_i (cls0 0, 99, 3015) 1 8, hh_i (cls0 0, 99, 3015) 1 9, hh_i (cls0 0, 99, 3015) 1 10, hh_i (cls0 0, 99, 3015) 1 11, hh_i (cls0 0, 99, 3015) 1 12, hh_i (cls0 0, 99, 3015) 1 13] = [0, 112, 0, 0, 0, 0, 0, 0] := by decide +kernel
  unfold cC
  rw [h1, h2, h3, h4, h5, h6, h7]
  rfl
theorem hs0_sb (k : Nat) (hk : k = 94 ∨ k = 96) : sb (cls0 0, 99, 3015) k [] := by
  have hb : ∀ x ∈ List.replicate 16 (0 : Int32), sb_c x := fun x hx => ⟨0, by decide, (List.mem_replicate.mp hx).2⟩
  rcases hk with rfl | rfl
  · exact ⟨by decide +kernel, by decide +kernel, 95, List.replicate 16 0, rfl, rfl, Or.inl ⟨rfl, rfl⟩, by decide, by decide, Or.inl rfl, rfl, hb⟩
  · exact ⟨by decide +kernel, by decide +kernel, 97, List.replicate 16 0, rfl, rfl, Or.inl ⟨rfl, rfl⟩, by decide, by decide, Or.inl rfl, rfl, hb⟩
theorem ch0 : tr_ch 0 := ⟨by decide, by decide⟩
theorem hs0_CI : CI (cls0 0, 99, 3015) ct0 [] none (0, 0, 0, -1) [] [] := by
  refine ⟨ct0_cC, ⟨0, by decide, by decide, by decide +kernel, by decide +kernel, fun i c h => by simp at h⟩, ⟨by decide +kernel, fun e h => by cases h⟩, ⟨by decide +kernel, by decide +kernel, by decide +kernel, by decide +kernel⟩, ⟨hs0_sb 96 (Or.inr rfl), rfl⟩, 0, 4, 0, 0, 0, 0, ⟨hs0_sb 94 (Or.inl rfl), by decide +kernel, by decide +kernel, by decide +kernel, by decide +kernel, by decide +kernel, by decide +kernel⟩, ch0, ch0, ch0⟩
theorem ct0_cn : cn ct0 = 0 := by decide +kernel
theorem ct0_cw : cw ct0 (cn ct0) 0 := by
  rw [ct0_cn]
  have z : ∀ k : Nat, ¬ k < 0 := Nat.not_lt_zero
  refine ⟨⟨by decide +kernel, by decide, ⟨fun y hy => ?_, fun y hy => ?_, ⟨by decide +kernel, by decide +kernel⟩, by decide +kernel, by decide +kernel⟩, fun k hk => absurd hk (z k), fun k hk => absurd hk (z k)⟩, ⟨rfl, rfl, rfl, rfl, rfl, rfl, rfl⟩, fun q hq => ?_, fun j hj => absurd hj (z j), fun k hk => absurd hk (z k), fun k hk => absurd hk (z k), ⟨0, Nat.le_refl 0, by decide +kernel⟩, ⟨0, 0, Nat.le_refl 0, Nat.le_refl 0, by decide +kernel, by decide +kernel⟩, by decide +kernel⟩
  · have e : y = 46 := (List.mem_replicate.mp hy).2
    rw [e]
    exact ⟨by decide, by decide⟩
  · have e : y = 0 := (List.mem_replicate.mp hy).2
    rw [e]
    exact ch0
  · have e : (ct_co ct0).getD q 0 = 46 := by
      show (List.replicate 35 (46 : Int32)).getD q 0 = 46
      rw [List.getD_eq_getElem?_getD, List.getElem?_replicate_of_lt hq]
      rfl
    rw [e]
    exact ⟨Or.inl rfl, fun h => absurd h (by decide), fun h => absurd h (z _)⟩
theorem ct0_cv : cv ct0 0 0 := ⟨by have := ct0_cw; rw [ct0_cn] at this; exact this, by decide +kernel⟩
theorem hs0_st : st (cls0 0, 99, 3015) ct0 [] none 0 := ⟨hs0_L, (0, 0, 0, -1), [], 0, hs0_CI, ct0_cv, fun e h => (by simp at h), fun e h => (by cases h)⟩
section
variable {g : tr_g} {d : Nat}
theorem in_begun (hg : ev_cat1 g.2 = true) (hz : g.1.length < 1000000) : ∃ h2 c2 P2 B2, tr_T (fun _ => True) g (d + 16) m_L_begun 0 [some (.ref 0), none, none, none] [] ([], 0, 0) (.inl (some (.ref 1000)), h2) ∧ hh_M 100 1000 (cls0 0, 99, 3015) h2 ∧ st h2 c2 P2 none B2 := by
  obtain ⟨h2, c2, P2, B2, r, M, s⟩ := bg_8 (g := g) (d := d) (w2 := none) (w3 := none) hg hz hs0_st
  refine ⟨h2, c2, P2, B2, ?_, M, s⟩
  have hN : ([] : List ev_AC).length = 0 := rfl
  refine wz_new (C := []) (N := 0) (W := []) (q := 16) (j := 0) (c := .inr (0, [.null, .null, .null, .null, .null, .null, .null, .null, .null, .null, .null, .int 0, .int 0, .int 0, .int 0, .int 0])) (W' := [.inr (0, [.null, .null, .null, .null, .null, .null, .null, .null, .null, .null, .null, .int 0, .int 0, .int 0, .int 0, .int 0])]) hN rfl rfl rfl (fun _ => rfl) rfl rfl ?_
  refine tr_s .dup 1 4 _ _ _ rfl rfl rfl ?_
  have c1 := in_X8_init (g := g) (d := d + 12) (C := []) (N := 0) (u := 0 + 1) (s := 0 + 16) hN
  refine tr_call (.invokespecial 121) 121 4 0 0 m_X8_init [.ref (0 + 0 + 1000)] [.ref (0 + 0 + 1000)] none (cls0 0, 99, 3015) rfl rfl rfl rfl rfl rfl rfl rfl rfl (tr_cok rfl (Or.inr ⟨_, _, rfl, tr_rcI rfl⟩)) c1 ?_
  refine tr_st (.astore_n 1) 1 1 1 (.ref 1000) rfl rfl rfl rfl rfl rfl rfl ?_
  exact ⟨r.1, trivial⟩
/-- the law, from its entry -/
theorem lw_all (hg : ev_cat1 g.2 = true) (hz : g.1.length < 1000000) : ∃ h2, tr_L g (d + 17) m_law 0 [some (.ref 0), none, none, none, none] [] ([], 0, 0) (.inl (some (.int 1)), h2) ∧ h2.2.1 ≤ 6000 ∧ h2.2.2 ≤ 70000 := by
  obtain ⟨h1, c, P, B, r1, M1, s1⟩ := in_begun (g := g) (d := d) hg hz
  obtain ⟨h2, r2, M2⟩ := lw_5 (g := g) (d := d) (w2 := none) (w3 := none) (w4 := none) hg hz s1
  have a1 : h1.2.1 ≤ 99 + 100 := M1.2.1
  have a2 : h1.2.2 ≤ 3015 + 1000 := M1.2.2.1
  have a3 := M2.2.1
  have a4 := M2.2.2.1
  refine ⟨h2, ?_, by omega, by omega⟩
  refine tr_s (.aload_n 0) 1 1 _ [.ref 0] _ rfl rfl rfl ?_
  refine tr_call (.invokestatic 275) 275 2 1 0 m_L_begun [.ref 0] [] (some (.ref 1000)) h1 rfl rfl rfl rfl rfl rfl rfl rfl rfl (tr_cok rfl (Or.inl rfl)) r1 ?_
  refine tr_st (.astore_n 1) 1 1 1 (.ref 1000) rfl rfl rfl rfl rfl rfl rfl ?_
  exact r2
end
