/-! small words and facts on courts -/
section
variable {c : CT} {n : Nat}
/-- contents of cells, and where cats sit -/
def co_w (c : CT) (n : Nat) : Prop := ∀ q, q < 35 → ((ct_co c).getD q 0 = 46 ∨ (ct_co c).getD q 0 = 47 ∨ (ct_co c).getD q 0 = 92 ∨ (ct_co c).getD q 0 = 99) ∧ ((ct_co c).getD q 0 = 99 ↔ ct_cat c n (Int32.ofNat q) < n)
/-- every ray ends -/
def R_end (c : CT) : Prop := ∀ p, p < 24 → (ct_ry c p).1 ≠ none
theorem bx_port_lt : ∀ q, q < 35 → ∀ w, w < 4 → bx_port q w < 24 := by decide +kernel
theorem ct_pl_le {k : Nat} {x : Int32} : ct_pl c k x ≤ 3 := mm_find_le _ _
theorem tI_set {l : List Int32} {a b p q : Nat} {x : Int32} (hl : l.length = 16) (ha : a < 4) (hb : b < 4) (hp : p < 4) (hq : q < 4) : tI (l.set (4 * p + q) x) a b = if a = p ∧ b = q then x else tI l a b := by
  unfold tI
  by_cases e : a = p ∧ b = q
  · obtain ⟨rfl, rfl⟩ := e
    rw [if_pos ⟨rfl, rfl⟩, getD_set_eq (by omega)]
  · rw [if_neg e, getD_set_ne (by omega)]
theorem ct_vl_len {c : CT} {n : Nat} : (ct_vl c n).length = 16 := by simp [ct_vl]
/-- there is a winner by strengths -/
def ex_S (c : CT) (n : Nat) : Prop := ∃ o, o < 4 ∧ ¬ st_wk (ct_st c n) o < 4
def ct_ln (c : CT) : Prop := (ct_co c).length = 35 ∧ (ct_ce c).length = 7 ∧ (ct_ra c).length = 28 ∧ (ct_fi c).length = 28 ∧ (ct_he c).length = 7 ∧ (ct_ve c).length = 10 ∧ (ct_in c).length = 8
theorem gs {l : List Int32} {j : Nat} {x : Int32} (hj : j < l.length) (z : Nat) : (l.set j x).getD z 0 = if j = z then x else l.getD z 0 := by
  by_cases e : j = z
  · subst e
    rw [if_pos rfl, getD_set_eq hj]
  · rw [if_neg e, getD_set_ne e]
theorem ci_in {c : CT} {k j : Nat} {x : Int32} (h : ct_ln c) (hk : k < 8) : ct_i (cc_in c k x) j = if k = j then x else ct_i c j := by
  have : k < (ct_in c).length := by rw [h.2.2.2.2.2.2]; exact hk
  exact gs this j
theorem ln_in {c : CT} {k : Nat} {x : Int32} (h : ct_ln c) : ct_ln (cc_in c k x) := ⟨h.1, h.2.1, h.2.2.1, h.2.2.2.1, h.2.2.2.2.1, h.2.2.2.2.2.1, by show ((ct_in c).set k x).length = 8; rw [List.length_set]; exact h.2.2.2.2.2.2⟩
end
