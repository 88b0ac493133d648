/-! THE MODEL: the ray -/
theorem nx_I : ∀ q, q < 35 → ∀ w, w < 4 → fa_X9_next (Int32.ofNat q) (Int32.ofNat w) = if bx_nb q w = 35 then -1 - Int32.ofNat (bx_port q w) else Int32.ofNat (bx_nb q w) := by decide +kernel
theorem fc_I : ∀ p, p < 24 → fa_X9_firstCell (Int32.ofNat p) = Int32.ofNat (bx_cell p) ∧ fa_X9_firstWay (Int32.ofNat p) = Int32.ofNat (bx_dir p) := by decide +kernel
theorem po_I : ∀ q, q < 35 → ∀ w, w < 4 → (-1 - Int32.ofNat (bx_port q w) < 0) ∧ (-1) - (-1 - Int32.ofNat (bx_port q w)) = Int32.ofNat (bx_port q w) := by decide +kernel
/-- the model's numbers of the ray may change, no other -/
def mW (h h' : ev_AH) : Prop := hh_F [99] h h' ∧ ∀ sl, (sl < 15 ∨ 18 < sl) → hh_i h' 99 sl = hh_i h 99 sl
theorem mW_tr {h1 h2 h3 : ev_AH} (a : mW h1 h2) (b : mW h2 h3) : mW h1 h3 := ⟨hh_F_tr a.1 b.1, fun sl hs => (b.2 sl hs).trans (a.2 sl hs)⟩
theorem mW_rf {h : ev_AH} : mW h h := ⟨hh_F_rf, fun _ _ => rfl⟩
theorem mW_set {h : ev_AH} {sl : Nat} {x : Int32} (hL : hh_L h) (h1 : 15 ≤ sl) (h2 : sl ≤ 18) : mW h (hh_si h 99 8 sl x) := ⟨hh_F_si (by decide), fun j hj => by rw [hh_i_sis hL ht99 (by simp; omega), if_neg (by omega)]⟩
section
variable {g : tr_g} {d : Nat} {h h' : ev_AH} {c : CT} {n : Nat}
theorem sp_reflM {q0 w : Nat} (hL : hh_L h) (q : mQ h c n) (hw : co_w c n) (hq : q0 < 35) (h4 : w < 4) (h99 : (ct_co c).getD q0 0 ≠ 99) : tr_L g d m_X9_reflected 0 [some (.ref 1099), some (.int (Int32.ofNat q0)), some (.int (Int32.ofNat w))] [] h (.inl (some (.int (Int32.ofNat (bx_refl ((ct_co c).getD q0 0) w)))), h) := by
  have e0 : (19 : Int32) + Int32.ofNat q0 = Int32.ofNat (19 + q0) := by rw [show (19 : Int32) = Int32.ofNat 19 from rfl, ii_a]
  have es := q.1.2.2.2.1 q0 hq
  have w4 : w = 0 ∨ w = 1 ∨ w = 2 ∨ w = 3 := by omega
  rcases (hw q0 hq).1 with e | e | e | e
  · rw [if_pos (Or.inr e)] at es
    rw [e, show bx_refl 46 w = w from rfl]
    exact sg_X9_reflected_0 hL (j0 := 19 + q0) e0 (by omega) (fun _ => sg_X9_reflected_42 hL (j0 := 19 + q0) e0 (by omega) (fun _ => sg_X9_reflected_85 hL rfl) (fun t => by rw [es] at t; exact absurd t (by decide))) (fun t => by rw [es] at t; exact absurd t (by decide))
  · rw [e, if_neg (by decide)] at es
    rw [e]
    refine sg_X9_reflected_0 hL (j0 := 19 + q0) e0 (by omega) (fun t => absurd es t) (fun _ => ?_)
    rcases w4 with rfl | rfl | rfl | rfl
    · exact sg_X9_reflected_14 hL (fun _ => sg_X9_reflected_23 hL (fun t => absurd rfl t) (fun _ => sg_X9_reflected_27 hL rfl)) (fun t => absurd t (by decide))
    · exact sg_X9_reflected_14 hL (fun t => absurd rfl t) (fun _ => sg_X9_reflected_19 hL rfl)
    · exact sg_X9_reflected_14 hL (fun _ => sg_X9_reflected_23 hL (fun _ => sg_X9_reflected_31 hL (fun _ => sg_X9_reflected_40 hL rfl) (fun t => absurd t (by decide))) (fun t => absurd t (by decide))) (fun t => absurd t (by decide))
    · exact sg_X9_reflected_14 hL (fun _ => sg_X9_reflected_23 hL (fun _ => sg_X9_reflected_31 hL (fun t => absurd rfl t) (fun _ => sg_X9_reflected_36 hL rfl)) (fun t => absurd t (by decide))) (fun t => absurd t (by decide))
  · rw [e, if_neg (by decide)] at es
    rw [e]
    refine sg_X9_reflected_0 hL (j0 := 19 + q0) e0 (by omega) (fun _ => sg_X9_reflected_42 hL (j0 := 19 + q0) e0 (by omega) (fun t => absurd es t) (fun _ => ?_)) (fun t => by rw [es] at t; exact absurd t (by decide))
    rcases w4 with rfl | rfl | rfl | rfl
    · exact sg_X9_reflected_56 hL (fun _ => sg_X9_reflected_65 hL (fun _ => sg_X9_reflected_74 hL (fun _ => sg_X9_reflected_83 hL rfl) (fun t => absurd t (by decide))) (fun t => absurd t (by decide))) (fun t => absurd t (by decide))
    · exact sg_X9_reflected_56 hL (fun t => absurd rfl t) (fun _ => sg_X9_reflected_61 hL rfl)
    · exact sg_X9_reflected_56 hL (fun _ => sg_X9_reflected_65 hL (fun t => absurd rfl t) (fun _ => sg_X9_reflected_70 hL rfl)) (fun t => absurd t (by decide))
    · exact sg_X9_reflected_56 hL (fun _ => sg_X9_reflected_65 hL (fun _ => sg_X9_reflected_74 hL (fun t => absurd rfl t) (fun _ => sg_X9_reflected_79 hL rfl)) (fun t => absurd t (by decide))) (fun t => absurd t (by decide))
  · exact absurd e h99
theorem bx_turn {k : Int32} {w : Nat} (h4 : w < 4) (hk : k = 46 ∨ k = 47 ∨ k = 92) : (bx_refl k w = w ↔ k = 46) := by
  have w4 : w = 0 ∨ w = 1 ∨ w = 2 ∨ w = 3 := by omega
  rcases hk with rfl | rfl | rfl <;> rcases w4 with rfl | rfl | rfl | rfl <;> decide
end
