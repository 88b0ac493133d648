/-! THE START: constructors on any cells -/
section
variable {P : ev_AH → Prop} {g : tr_g} {d : Nat} {M : ev_MD} {pc : Nat} {L : ev_VL} {S : List Value} {r : ev_O × ev_AH} {C R : List ev_AC} {N m u s : Nat}
theorem wz_get {W : List ev_AC} {j : Nat} (hN : C.length = N) : (C ++ W)[N + j + 1000 - 1000]? = W[j]? := by
  rw [Nat.add_sub_cancel, ← hN, List.getElem?_append_right (by omega), Nat.add_sub_cancel_left]
theorem wz_wr {W : List ev_AC} {j : Nat} {c : ev_AC} (hN : C.length = N) : ev_wr (C ++ W, u, s) (N + j + 1000) c = (C ++ W.set j c, u, s) := by
  show ((C ++ W).set (N + j + 1000 - 1000) c, u, s) = _
  rw [Nat.add_sub_cancel, ← hN, List.set_append_right _ _ (by omega), Nat.add_sub_cancel_left]
theorem wz_pfF {i ci sl j pc' : Nat} {vs : List Value} {v : Value} {ty : FieldType} {fin : Bool} {W W' : List ev_AC} (hN : C.length = N) (hl : ev_lk M.2.2.2.2.2.2 pc = some (.putfield i, 3)) (hp : pc + 3 = pc') (hf : ev_fld0 M.1 i = some (ci, sl)) (hj : W[j]? = some (.inr (ci, vs))) (hft : (ev_ft0 ci)[sl]? = some (ty, fin)) (hsl : sl < vs.length) (hok : ev_okv ty v = true) (hin : M.2.1.name = "<init>") (hci : Nat.beq ci M.1 = true) (hW : W.set j (.inr (ci, vs.set sl v)) = W') (k : tr_T P g d M pc' L S (C ++ W', u, s) r) : tr_T P g d M pc L (v :: .ref (N + j + 1000) :: S) (C ++ W, u, s) r := by
  subst hp
  exact tr_pfF i _ ci sl vs v ty fin hl hf (by omega) ((wz_get hN).trans hj) hft hsl hok hin hci (by rw [wz_wr hN, hW]; exact k)
theorem wz_pf {i ci sl j pc' : Nat} {vs : List Value} {v : Value} {ty : FieldType} {W W' : List ev_AC} (hN : C.length = N) (hl : ev_lk M.2.2.2.2.2.2 pc = some (.putfield i, 3)) (hp : pc + 3 = pc') (hf : ev_fld0 M.1 i = some (ci, sl)) (hj : W[j]? = some (.inr (ci, vs))) (hft : (ev_ft0 ci)[sl]? = some (ty, false)) (hsl : sl < vs.length) (hok : ev_okv ty v = true) (hW : W.set j (.inr (ci, vs.set sl v)) = W') (k : tr_T P g d M pc' L S (C ++ W', u, s) r) : tr_T P g d M pc L (v :: .ref (N + j + 1000) :: S) (C ++ W, u, s) r := by
  subst hp
  exact tr_pf i _ ci sl vs v ty hl hf (by omega) ((wz_get hN).trans hj) hft hsl hok (by rw [wz_wr hN, hW]; exact k)
theorem wz_gf {i ci sl j pc' : Nat} {vs : List Value} {v : Value} {W : List ev_AC} (hN : C.length = N) (hl : ev_lk M.2.2.2.2.2.2 pc = some (.getfield i, 3)) (hp : pc + 3 = pc') (hf : ev_fld0 M.1 i = some (ci, sl)) (hj : W[j]? = some (.inr (ci, vs))) (hv : vs[sl]? = some v) (k : tr_T P g d M pc' L (v :: S) (C ++ W, u, s) r) : tr_T P g d M pc L (.ref (N + j + 1000) :: S) (C ++ W, u, s) r := by
  subst hp
  refine tr_gf i _ ci sl vs v hl hf ?_ hv k
  have h1 : Nat.blt (N + j + 1000) 1000 = false := by
    cases hb : Nat.blt (N + j + 1000) 1000 with
    | false => rfl
    | true => rw [Nat.blt_eq] at hb; omega
  unfold ev_rd
  rw [h1]
  exact (wz_get hN).trans hj
theorem wz_new {i : Instr} {len q j pc' : Nat} {S' : List Value} {c : ev_AC} {W W' : List ev_AC} (hN : C.length = N) (hl : ev_lk M.2.2.2.2.2.2 pc = some (i, len)) (hn : ev_len i len = true) (hp : pc + len = pc') (hs : ∀ h : ev_AH, ev_s (tr_G g) M pc L S h i len = some (pc + len, L, .ref (1000 + h.1.length) :: S', (h.1 ++ [c], h.2.1 + 1, h.2.2 + q))) (hj : W.length = j) (hW : W ++ [c] = W') (k : tr_T P g d M pc' L (.ref (N + j + 1000) :: S') (C ++ W', u + 1, s + q) r) : tr_T P g d M pc L S (C ++ W, u, s) r := by
  subst hp
  refine tr_s i len _ _ _ _ hl hn (hs _) ?_
  have e1 : 1000 + (C ++ W).length = N + j + 1000 := by rw [List.length_append, hN, hj]; omega
  show tr_T P g d M (pc + len) L (.ref (1000 + (C ++ W).length) :: S') ((C ++ W) ++ [c], u + 1, s + q) r
  rw [e1, List.append_assoc, hW]
  exact k
theorem wz_ias {jj q pc' : Nat} {l : List Int32} {x y : Int32} {W W' : List ev_AC} (hN : C.length = N) (hl : ev_lk M.2.2.2.2.2.2 pc = some (.iastore, 1)) (hp : pc + 1 = pc') (hj : W[q]? = some (.inl (0, l))) (hx : x = Int32.ofNat jj) (hjj : jj < l.length) (hs : l.length < 2147483648) (hW : W.set q (.inl (0, l.set jj y)) = W') (k : tr_T P g d M pc' L S (C ++ W', u, s) r) : tr_T P g d M pc L (.int y :: .int x :: .ref (N + q + 1000) :: S) (C ++ W, u, s) r := by
  subst hp
  exact tr_ias _ jj x y l hl (by omega) ((wz_get hN).trans hj) hx hjj hs (by rw [wz_wr hN, hW]; exact k)
theorem wz_cas {jj q pc' : Nat} {l : List Int32} {x y : Int32} {W W' : List ev_AC} (hN : C.length = N) (hl : ev_lk M.2.2.2.2.2.2 pc = some (.castore, 1)) (hp : pc + 1 = pc') (hj : W[q]? = some (.inl (1, l))) (hx : x = Int32.ofNat jj) (hjj : jj < l.length) (hs : l.length < 2147483648) (hy : vp_nar .char y = y) (hW : W.set q (.inl (1, l.set jj y)) = W') (k : tr_T P g d M pc' L S (C ++ W', u, s) r) : tr_T P g d M pc L (.int y :: .int x :: .ref (N + q + 1000) :: S) (C ++ W, u, s) r := by
  subst hp
  exact tr_cas _ jj x y l hl (by omega) ((wz_get hN).trans hj) hx hjj hs hy (by rw [wz_wr hN, hW]; exact k)
theorem wz_rd {q : Nat} {c : ev_AC} {W : List ev_AC} (hN : C.length = N) (hj : W[q]? = some c) : ev_rd (tr_G g) (C ++ W, u, s) (N + q + 1000) = some c := by
  have h1 : Nat.blt (N + q + 1000) 1000 = false := by
    cases hb : Nat.blt (N + q + 1000) 1000 with
    | false => rfl
    | true => rw [Nat.blt_eq] at hb; omega
  unfold ev_rd
  rw [h1]
  exact (wz_get hN).trans hj
end
