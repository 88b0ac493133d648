/-! jumps, and one step -/
theorem ev_tg_eq {pc : Nat} {off : Int} (h : ev_tok pc off = true) : (pc : Int) + off = ((ev_tg pc off : Nat) : Int) := by
  unfold ev_tok at h
  unfold ev_tg
  have := of_decide_eq_true h
  omega
section
variable {G : ev_G} {B : ev_B} {M : ev_MD} {D : va_G} {T : Nat → ClassId} {κ ρ : Nat → Nat} {A : Nat → Prop} {p : Program} {l : Launch} {e : Env} {R : Room} {s : State} {m : MethodId} {args : Array Value} {below : List Frame} {meth : Method} {c : Code} {H : Heap} {locs : List Loc} {cells slots k0 s0 : Nat} {Q : State → Prop} {pc pc' n nn nL : Nat} {ls : Array Slot} {S S' st : List Value} {i : Instr} {h h' : ev_AH} {L L' : ev_VL}
theorem ev_j_ok (F : ev_Fx G B M D T κ A p l s m args meth c) (hd : decode M.2.2.1 pc = .ok (i, n)) (hl : ev_len i n = true) (hp : ev_j pc S i = some (pc', S')) (hR : ev_SR ρ nn S st)
    (kk : ∀ st', ev_SR ρ nn S' st' → W p l e R s m args below meth c H locs cells slots Q (F0 m pc' ls st')) : W p l e R s m args below meth c H locs cells slots Q (F0 m pc ls st) := by
  obtain ⟨hx, hb, -⟩ := F
  cases i with
  | ifCond cd off =>
    obtain rfl : n = 3 := Nat.eq_of_beq_eq_true hl
    simp only [ev_j] at hp
    split at hp
    · rename_i x r
      cases ht : ev_tok pc off with
      | false => rw [ht] at hp; cases hp
      | true =>
        rw [ht] at hp
        simp only [cond_true] at hp
        obtain ⟨r', rfl, h1, h2⟩ := ev_SR_cons hR
        cases cd with
        | eq =>
          by_cases hc : x = 0
          · simp only [ev_cnd, hc, decide_true, decide_false, Bool.not_true, Bool.not_false, cond_true, cond_false] at hp
            exact lv_if_eq hx hb hd (ev_tg_eq ht) (fun g9 => by obtain ⟨rfl, rfl⟩ := Prod.mk.inj (Option.some.inj hp); exact kk _ h1) (fun g9 => absurd hc g9)
          · simp only [ev_cnd, hc, decide_true, decide_false, Bool.not_true, Bool.not_false, cond_true, cond_false] at hp
            exact lv_if_eq hx hb hd (ev_tg_eq ht) (fun g9 => absurd g9 hc) (fun g9 => by obtain ⟨rfl, rfl⟩ := Prod.mk.inj (Option.some.inj hp); exact kk _ h1)
        | ne =>
          by_cases hc : x = 0
          · simp only [ev_cnd, hc, decide_true, decide_false, Bool.not_true, Bool.not_false, cond_true, cond_false] at hp
            exact lv_if_ne hx hb hd (ev_tg_eq ht) (fun g9 => absurd hc g9) (fun g9 => by obtain ⟨rfl, rfl⟩ := Prod.mk.inj (Option.some.inj hp); exact kk _ h1)
          · simp only [ev_cnd, hc, decide_true, decide_false, Bool.not_true, Bool.not_false, cond_true, cond_false] at hp
            exact lv_if_ne hx hb hd (ev_tg_eq ht) (fun g9 => by obtain ⟨rfl, rfl⟩ := Prod.mk.inj (Option.some.inj hp); exact kk _ h1) (fun g9 => absurd g9 hc)
        | lt =>
          by_cases hc : x < 0
          · simp only [ev_cnd, hc, decide_true, decide_false, Bool.not_true, Bool.not_false, cond_true, cond_false] at hp
            exact lv_if_lt hx hb hd (ev_tg_eq ht) (fun g9 => by obtain ⟨rfl, rfl⟩ := Prod.mk.inj (Option.some.inj hp); exact kk _ h1) (fun g9 => absurd hc g9)
          · simp only [ev_cnd, hc, decide_true, decide_false, Bool.not_true, Bool.not_false, cond_true, cond_false] at hp
            exact lv_if_lt hx hb hd (ev_tg_eq ht) (fun g9 => absurd g9 hc) (fun g9 => by obtain ⟨rfl, rfl⟩ := Prod.mk.inj (Option.some.inj hp); exact kk _ h1)
        | ge =>
          by_cases hc : 0 ≤ x
          · simp only [ev_cnd, hc, decide_true, decide_false, Bool.not_true, Bool.not_false, cond_true, cond_false] at hp
            exact lv_if_ge hx hb hd (ev_tg_eq ht) (fun g9 => by obtain ⟨rfl, rfl⟩ := Prod.mk.inj (Option.some.inj hp); exact kk _ h1) (fun g9 => absurd hc g9)
          · simp only [ev_cnd, hc, decide_true, decide_false, Bool.not_true, Bool.not_false, cond_true, cond_false] at hp
            exact lv_if_ge hx hb hd (ev_tg_eq ht) (fun g9 => absurd g9 hc) (fun g9 => by obtain ⟨rfl, rfl⟩ := Prod.mk.inj (Option.some.inj hp); exact kk _ h1)
        | gt =>
          by_cases hc : 0 < x
          · simp only [ev_cnd, hc, decide_true, decide_false, Bool.not_true, Bool.not_false, cond_true, cond_false] at hp
            exact lv_if_gt hx hb hd (ev_tg_eq ht) (fun g9 => by obtain ⟨rfl, rfl⟩ := Prod.mk.inj (Option.some.inj hp); exact kk _ h1) (fun g9 => absurd hc g9)
          · simp only [ev_cnd, hc, decide_true, decide_false, Bool.not_true, Bool.not_false, cond_true, cond_false] at hp
            exact lv_if_gt hx hb hd (ev_tg_eq ht) (fun g9 => absurd g9 hc) (fun g9 => by obtain ⟨rfl, rfl⟩ := Prod.mk.inj (Option.some.inj hp); exact kk _ h1)
        | le =>
          by_cases hc : x ≤ 0
          · simp only [ev_cnd, hc, decide_true, decide_false, Bool.not_true, Bool.not_false, cond_true, cond_false] at hp
            exact lv_if_le hx hb hd (ev_tg_eq ht) (fun g9 => by obtain ⟨rfl, rfl⟩ := Prod.mk.inj (Option.some.inj hp); exact kk _ h1) (fun g9 => absurd hc g9)
          · simp only [ev_cnd, hc, decide_true, decide_false, Bool.not_true, Bool.not_false, cond_true, cond_false] at hp
            exact lv_if_le hx hb hd (ev_tg_eq ht) (fun g9 => absurd g9 hc) (fun g9 => by obtain ⟨rfl, rfl⟩ := Prod.mk.inj (Option.some.inj hp); exact kk _ h1)
    · cases hp
  | if_icmp cd off =>
    obtain rfl : n = 3 := Nat.eq_of_beq_eq_true hl
    simp only [ev_j] at hp
    split at hp
    · rename_i y x r
      cases ht : ev_tok pc off with
      | false => rw [ht] at hp; cases hp
      | true =>
        rw [ht] at hp
        simp only [cond_true] at hp
        obtain ⟨r', rfl, h1, h2⟩ := ev_SR_cons hR
        obtain ⟨r', rfl, h3, h4⟩ := ev_SR_cons h1
        cases cd with
        | eq =>
          by_cases hc : x = y
          · simp only [ev_cnd, hc, decide_true, decide_false, Bool.not_true, Bool.not_false, cond_true, cond_false] at hp
            exact lv_icmp_eq hx hb hd (ev_tg_eq ht) (fun g9 => by obtain ⟨rfl, rfl⟩ := Prod.mk.inj (Option.some.inj hp); exact kk _ h3) (fun g9 => absurd hc g9)
          · simp only [ev_cnd, hc, decide_true, decide_false, Bool.not_true, Bool.not_false, cond_true, cond_false] at hp
            exact lv_icmp_eq hx hb hd (ev_tg_eq ht) (fun g9 => absurd g9 hc) (fun g9 => by obtain ⟨rfl, rfl⟩ := Prod.mk.inj (Option.some.inj hp); exact kk _ h3)
        | ne =>
          by_cases hc : x = y
          · simp only [ev_cnd, hc, decide_true, decide_false, Bool.not_true, Bool.not_false, cond_true, cond_false] at hp
            exact lv_icmp_ne hx hb hd (ev_tg_eq ht) (fun g9 => absurd hc g9) (fun g9 => by obtain ⟨rfl, rfl⟩ := Prod.mk.inj (Option.some.inj hp); exact kk _ h3)
          · simp only [ev_cnd, hc, decide_true, decide_false, Bool.not_true, Bool.not_false, cond_true, cond_false] at hp
            exact lv_icmp_ne hx hb hd (ev_tg_eq ht) (fun g9 => by obtain ⟨rfl, rfl⟩ := Prod.mk.inj (Option.some.inj hp); exact kk _ h3) (fun g9 => absurd g9 hc)
        | lt =>
          by_cases hc : x < y
          · simp only [ev_cnd, hc, decide_true, decide_false, Bool.not_true, Bool.not_false, cond_true, cond_false] at hp
            exact lv_icmp_lt hx hb hd (ev_tg_eq ht) (fun g9 => by obtain ⟨rfl, rfl⟩ := Prod.mk.inj (Option.some.inj hp); exact kk _ h3) (fun g9 => absurd hc g9)
          · simp only [ev_cnd, hc, decide_true, decide_false, Bool.not_true, Bool.not_false, cond_true, cond_false] at hp
            exact lv_icmp_lt hx hb hd (ev_tg_eq ht) (fun g9 => absurd g9 hc) (fun g9 => by obtain ⟨rfl, rfl⟩ := Prod.mk.inj (Option.some.inj hp); exact kk _ h3)
        | ge =>
          by_cases hc : y ≤ x
          · simp only [ev_cnd, hc, decide_true, decide_false, Bool.not_true, Bool.not_false, cond_true, cond_false] at hp
            exact lv_icmp_ge hx hb hd (ev_tg_eq ht) (fun g9 => by obtain ⟨rfl, rfl⟩ := Prod.mk.inj (Option.some.inj hp); exact kk _ h3) (fun g9 => absurd hc g9)
          · simp only [ev_cnd, hc, decide_true, decide_false, Bool.not_true, Bool.not_false, cond_true, cond_false] at hp
            exact lv_icmp_ge hx hb hd (ev_tg_eq ht) (fun g9 => absurd g9 hc) (fun g9 => by obtain ⟨rfl, rfl⟩ := Prod.mk.inj (Option.some.inj hp); exact kk _ h3)
        | gt =>
          by_cases hc : y < x
          · simp only [ev_cnd, hc, decide_true, decide_false, Bool.not_true, Bool.not_false, cond_true, cond_false] at hp
            exact lv_icmp_gt hx hb hd (ev_tg_eq ht) (fun g9 => by obtain ⟨rfl, rfl⟩ := Prod.mk.inj (Option.some.inj hp); exact kk _ h3) (fun g9 => absurd hc g9)
          · simp only [ev_cnd, hc, decide_true, decide_false, Bool.not_true, Bool.not_false, cond_true, cond_false] at hp
            exact lv_icmp_gt hx hb hd (ev_tg_eq ht) (fun g9 => absurd g9 hc) (fun g9 => by obtain ⟨rfl, rfl⟩ := Prod.mk.inj (Option.some.inj hp); exact kk _ h3)
        | le =>
          by_cases hc : x ≤ y
          · simp only [ev_cnd, hc, decide_true, decide_false, Bool.not_true, Bool.not_false, cond_true, cond_false] at hp
            exact lv_icmp_le hx hb hd (ev_tg_eq ht) (fun g9 => by obtain ⟨rfl, rfl⟩ := Prod.mk.inj (Option.some.inj hp); exact kk _ h3) (fun g9 => absurd hc g9)
          · simp only [ev_cnd, hc, decide_true, decide_false, Bool.not_true, Bool.not_false, cond_true, cond_false] at hp
            exact lv_icmp_le hx hb hd (ev_tg_eq ht) (fun g9 => absurd g9 hc) (fun g9 => by obtain ⟨rfl, rfl⟩ := Prod.mk.inj (Option.some.inj hp); exact kk _ h3)
    · cases hp
  | goto off =>
    obtain rfl : n = 3 := Nat.eq_of_beq_eq_true hl
    simp only [ev_j] at hp
    cases ht : ev_tok pc off with
    | false => rw [ht] at hp; cases hp
    | true =>
      rw [ht] at hp
      obtain ⟨rfl, rfl⟩ := Prod.mk.inj (Option.some.inj hp)
      exact lv_goto hx hb hd (ev_tg_eq ht) (kk _ hR)
  | ifnull off =>
    obtain rfl : n = 3 := Nat.eq_of_beq_eq_true hl
    simp only [ev_j] at hp
    split at hp
    · obtain ⟨rfl, rfl⟩ := Prod.mk.inj (Option.some.inj hp)
      obtain ⟨r', rfl, h1, h2⟩ := ev_SR_cons hR
      exact lv_ifnull hx hb hd (kk _ h1)
    · cases ht : ev_tok pc off with
      | false => rw [ht] at hp; cases hp
      | true =>
        rw [ht] at hp
        obtain ⟨rfl, rfl⟩ := Prod.mk.inj (Option.some.inj hp)
        obtain ⟨r', rfl, h1, h2⟩ := ev_SR_cons hR
        exact lv_ifnullN hx hb hd (ev_tg_eq ht) (kk _ h1)
    · cases hp
  | ifnonnull off =>
    obtain rfl : n = 3 := Nat.eq_of_beq_eq_true hl
    simp only [ev_j] at hp
    split at hp
    · cases ht : ev_tok pc off with
      | false => rw [ht] at hp; cases hp
      | true =>
        rw [ht] at hp
        obtain ⟨rfl, rfl⟩ := Prod.mk.inj (Option.some.inj hp)
        obtain ⟨r', rfl, h1, h2⟩ := ev_SR_cons hR
        exact lv_ifnonnull hx hb hd (ev_tg_eq ht) (kk _ h1)
    · obtain ⟨rfl, rfl⟩ := Prod.mk.inj (Option.some.inj hp)
      obtain ⟨r', rfl, h1, h2⟩ := ev_SR_cons hR
      exact lv_ifnonnullN hx hb hd (kk _ h1)
    · cases hp
  | tableswitch d lo hi offs =>
    simp only [ev_j] at hp
    split at hp
    · rename_i x r
      obtain ⟨r', rfl, h1, h2⟩ := ev_SR_cons hR
      cases hc : (decide (x.toInt < lo) || decide (hi < x.toInt)) with
      | true =>
        rw [hc] at hp
        simp only [cond_true] at hp
        rw [Bool.or_eq_true, decide_eq_true_eq, decide_eq_true_eq] at hc
        cases ht : ev_tok pc d with
        | false => rw [ht] at hp; cases hp
        | true =>
          rw [ht] at hp
          obtain ⟨rfl, rfl⟩ := Prod.mk.inj (Option.some.inj hp)
          exact lv_tableOut hx hb hd hc (ev_tg_eq ht) (kk _ h1)
      | false =>
        rw [hc] at hp
        simp only [cond_false] at hp
        rw [Bool.or_eq_false_iff, decide_eq_false_iff_not, decide_eq_false_iff_not] at hc
        split at hp
        · rename_i off ho
          cases ht : ev_tok pc off with
          | false => rw [ht] at hp; cases hp
          | true =>
            rw [ht] at hp
            obtain ⟨rfl, rfl⟩ := Prod.mk.inj (Option.some.inj hp)
            exact lv_tableIn hx hb hd hc.1 hc.2 ho (ev_tg_eq ht) (kk _ h1)
        · cases hp
    · cases hp
  | lookupswitch d ps =>
    simp only [ev_j] at hp
    split at hp
    · rename_i x r
      obtain ⟨r', rfl, h1, h2⟩ := ev_SR_cons hR
      rw [Bool.cond_eq_ite] at hp
      split at hp
      · rename_i hc
        obtain ⟨rfl, rfl⟩ := Prod.mk.inj (Option.some.inj hp)
        rw [Bool.and_eq_true] at hc
        exact lv_lookup hx hb hd hc.1 rfl (ev_tg_eq hc.2) (kk _ h1)
      · cases hp
    · cases hp
  | _ => simp [ev_j] at hp
/-- the tables are true -/
def ev_V (G : ev_G) (B : ev_B) : Prop := ev_V0 G ∧ ev_V1 G B ∧ ev_V2 G B ∧ ev_V3 G B ∧ ev_V4 G B ∧ ev_V5 G B ∧ ev_V6 G B ∧ (ev_V12 G B ∧ ev_V13 G B) ∧ ∃ (F : u_T) (N : Nat), (ev_cl B)[8]? = some ("java/lang/String", F, N)
/-- ONE STEP of the small machine is the real one's -/
theorem ev_s_ok (F : ev_Fx G B M D T κ A p l s m args meth c) (hV : ev_V G B) (hd : decode M.2.2.1 pc = .ok (i, n)) (hl : ev_len i n = true) (hp : ev_s G M pc L S h i n = some (pc', L', S', h')) (hR : ev_SR ρ h.1.length S st) (hL : ev_LR ρ h.1.length nL L ls) (hH : ev_HR D T (ev_cl B) A s.heap κ ρ k0 s0 h H locs cells slots)
    (hRf : 20 ≤ R.frames) (hRl : 400 ≤ R.locals) (hsz : ls.size = M.2.2.2.1) (room : h'.2.1 ≤ k0 + R.cells ∧ h'.2.2 ≤ s0 + R.slots)
    (kk : ∀ ρ' ls' st' H' locs' cells' slots', ev_ex2 ρ ρ' h.1.length → h.1.length ≤ h'.1.length → ev_SR ρ' h'.1.length S' st' → ev_LR ρ' h'.1.length nL L' ls' → ev_HR D T (ev_cl B) A s.heap κ ρ' k0 s0 h' H' locs' cells' slots' → W p l e R s m args below meth c H' locs' cells' slots' Q (F0 m pc' ls' st')) : W p l e R s m args below meth c H locs cells slots Q (F0 m pc ls st) := by
  obtain ⟨hV0, hV1, hV2, hV3, hV4, hV5, hV6, ⟨hV12, hV13⟩, hV7⟩ := hV
  unfold ev_s at hp
  split at hp
  · rename_i j t hi
    split at hp
    · rename_i v hj
      cases hv : ev_srt t v with
      | false => rw [hv] at hp; cases hp
      | true =>
        rw [hv] at hp
        cases hp
        exact ev_l_ok F hd hl hi hj hv hR hL (fun st' h' => kk ρ ls st' H locs cells slots (fun _ _ => rfl) (Nat.le_refl _) h' hL hH)
    · cases hp
  · split at hp
    · rename_i j t hi
      split at hp
      · rename_i v r
        cases hv : (ev_srt t v && ev_sok L j) with
        | false => rw [hv] at hp; cases hp
        | true =>
          rw [hv] at hp
          simp only [cond_true] at hp
          rw [Bool.and_eq_true] at hv
          cases ht : Nat.beq t 3 with
          | true =>
            rw [ht] at hp
            simp only [cond_true] at hp
            cases h2 : Nat.blt (j + 1) L.length with
            | false => rw [h2] at hp; cases hp
            | true =>
              rw [h2] at hp
              cases hp
              exact ev_st_ok F hd hl hi hv.1 hv.2 (fun _ => h2) hR hL (fun ls' st' g1 g2 => kk ρ ls' st' H locs cells slots (fun _ _ => rfl) (Nat.le_refl _) g1 (by rw [ht] at g2; exact g2) hH)
          | false =>
            rw [ht] at hp
            cases hp
            exact ev_st_ok F hd hl hi hv.1 hv.2 (fun h9 => by rw [ht] at h9; cases h9) hR hL (fun ls' st' g1 g2 => kk ρ ls' st' H locs cells slots (fun _ _ => rfl) (Nat.le_refl _) g1 (by rw [ht] at g2; exact g2) hH)
      · cases hp
    · split at hp
      · rename_i j k hq1 hq2
        split at hp
        · rename_i x hg
          cases hj : ev_sok L j with
          | false => rw [hj] at hp; cases hp
          | true =>
            rw [hj] at hp
            cases hp
            exact ev_inc_ok F hd hl hg hj hL (fun ls' g => kk ρ ls' st H locs cells slots (fun _ _ => rfl) (Nat.le_refl _) hR g hH)
        · cases hp
      · split at hp
        · rename_i S9 h9
          cases hp
          exact ev_p_ok F hV1 hV2 hd hl h9 hR hH.2.2.1 hH.2.2.2.1 (fun st' g => kk ρ ls st' H locs cells slots (fun _ _ => rfl) (Nat.le_refl _) g hL hH)
        · split at hp
          · rename_i S9 h9
            cases hp
            exact ev_r_ok F hV0 hV3 hV4 hV13 hd hl h9 hR hH (fun st' g => kk ρ ls st' H locs cells slots (fun _ _ => rfl) (Nat.le_refl _) g hL hH)
          · split at hp
            · rename_i S9 h8 h9
              cases hp
              exact ev_w_ok F hV3 hV4 hV5 hV6 hV12 hRf hRl hsz hd hl h9 hR hH room (fun ρ' st' H' locs' cells' slots' g1 g2 g3 g4 => kk ρ' ls st' H' locs' cells' slots' g1 g2 g3 (ev_LR_ext hL g1 g2) g4)
            · split at hp
              · rename_i pc9 S9 h9
                cases hp
                exact ev_j_ok F hd hl h9 hR (fun st' g => kk ρ ls st' H locs cells slots (fun _ _ => rfl) (Nat.le_refl _) g hL hH)
              · cases hp
end
