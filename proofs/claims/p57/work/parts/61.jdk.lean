/-! runs of the JDK's methods, from place to place; laid by a program (wip/whole/gen/gen61.py) -/
def hh_push (h : ev_AH) (c : ev_AC) (z : Nat) : ev_AH := (h.1 ++ [c], h.2.1 + 1, h.2.2 + z)
theorem hh_L_push {h : ev_AH} {c : ev_AC} {z : Nat} (hL : hh_L h) : hh_L (hh_push h c z) := fun k t hk => by
  obtain ⟨c', h1, h2⟩ := hL k t hk
  have hlt := (List.getElem?_eq_some_iff.mp h1).1
  exact ⟨c', by rw [hh_push, List.getElem?_append_left hlt]; exact h1, h2⟩
def dg_900 : List Int32 := [48, 48, 48, 48, 48, 48, 48, 48, 48, 48, 49, 49, 49, 49, 49, 49, 49, 49, 49, 49, 50, 50, 50, 50, 50, 50, 50, 50, 50, 50, 51, 51, 51, 51, 51, 51, 51, 51, 51, 51, 52, 52, 52, 52, 52, 52, 52, 52, 52, 52, 53, 53, 53, 53, 53, 53, 53, 53, 53, 53, 54, 54, 54, 54, 54, 54, 54, 54, 54, 54, 55, 55, 55, 55, 55, 55, 55, 55, 55, 55, 56, 56, 56, 56, 56, 56, 56, 56, 56, 56, 57, 57, 57, 57, 57, 57, 57, 57, 57, 57]
def dg_901 : List Int32 := [48, 49, 50, 51, 52, 53, 54, 55, 56, 57, 48, 49, 50, 51, 52, 53, 54, 55, 56, 57, 48, 49, 50, 51, 52, 53, 54, 55, 56, 57, 48, 49, 50, 51, 52, 53, 54, 55, 56, 57, 48, 49, 50, 51, 52, 53, 54, 55, 56, 57, 48, 49, 50, 51, 52, 53, 54, 55, 56, 57, 48, 49, 50, 51, 52, 53, 54, 55, 56, 57, 48, 49, 50, 51, 52, 53, 54, 55, 56, 57, 48, 49, 50, 51, 52, 53, 54, 55, 56, 57, 48, 49, 50, 51, 52, 53, 54, 55, 56, 57]
theorem tr_okr {t : FieldType} {a : Nat} : ev_okv (.array t) (.ref a) = true := by simp [ev_okv, narrow, fits]
section
variable {P : ev_AH → Prop} {g : tr_g} {d : Nat} {M : ev_MD} {pc : Nat} {L : ev_VL} {S : List Value} {h : ev_AH} {r : ev_O × ev_AH}
theorem tr_ey {x : Int32} (hM : M.2.2.2.2.1 = some .byte) (h : narrow .byte (.int x) = .int x) : ev_e M [.int x] .ireturn = some (some (.int x)) := by
  unfold ev_e
  rw [hM]
  simp only [h]
theorem tr_newb (n : Nat) (x : Int32) (hl : ev_lk M.2.2.2.2.2.2 pc = some (.newarray .byte, 2)) (hx : x = Int32.ofNat n) (hn : n ≤ 1000000) (k : tr_T P g d M (pc + 2) L (.ref (h.1.length + 1000) :: S) (hh_push h (.inl (2, List.replicate n 0)) n) r) : tr_T P g d M pc L (.int x :: S) h r := by
  subst hx
  have h1 : (Int32.ofNat n).toInt = (n : Int) := by rw [Int32.toInt_ofNat_of_lt (by omega)]
  have h2 : (Int32.ofNat n).toNatClampNeg = n := by rw [Int32.toNatClampNeg, h1]; rfl
  have h3 : ¬ (Int32.ofNat n < 0) := by
    rw [Int32.lt_iff_toInt_lt, h1]
    simp
  have h4 : Nat.blt 1000000 n = false := by
    cases hb : Nat.blt 1000000 n with
    | false => rfl
    | true => exact absurd (Nat.le_of_ble_eq_true hb) (by omega)
  refine tr_s (.newarray .byte) 2 _ _ _ _ hl rfl ?_ k
  simp only [ev_s, ev_ldi, ev_sti, ev_p, ev_r, ev_w, h2, h3, h4, decide_false, Bool.or_false, cond_false]
  show some _ = some _
  rw [Nat.add_comm 1000]
  rfl
theorem tr_acpy (j a b : Nat) (la lb : List Int32) (n : Nat) (x : Int32) (hl : ev_lk M.2.2.2.2.2.2 pc = some (.invokestatic j, 3)) (hct : ev_ct0 M.1 j = some (13, 5, 0, ev_dum)) (ha : h.1[a]? = some (.inl (2, la))) (hb : h.1[b]? = some (.inl (2, lb))) (hx : x = Int32.ofNat n) (h1 : n ≤ la.length) (h2 : n ≤ lb.length) (hn : n < 2147483648) (hf : (la.take n).all (fun x => fits .byte (.int x)) = true) (hcs : ev_cs S = true) (k : tr_T P g d M (pc + 3) L S (ev_wr h (b + 1000) (.inl (2, la.take n ++ lb.drop n))) r) : tr_T P g d M pc L (.int x :: .int 0 :: .ref (b + 1000) :: .int 0 :: .ref (a + 1000) :: S) h r := by
  subst hx
  have q1 : (Int32.ofNat n).toInt = (n : Int) := Int32.toInt_ofNat_of_lt hn
  have q2 : (Int32.ofNat n).toNatClampNeg = n := by rw [Int32.toNatClampNeg, q1]; rfl
  have q3 : ¬ (Int32.ofNat n < 0) := by
    rw [Int32.lt_iff_toInt_lt, q1]
    simp
  have c2 : Nat.ble 1000 (b + 1000) = true := Nat.ble_eq_true_of_le (by omega)
  have c3 : Nat.ble n la.length = true := Nat.ble_eq_true_of_le h1
  have c4 : Nat.ble n lb.length = true := Nat.ble_eq_true_of_le h2
  have c5 : ev_ck (.invokestatic j) 2 = true := rfl
  refine tr_na (.invokestatic j) j 13 5 0 ev_dum S _ hl rfl rfl rfl rfl hct ?_ k
  unfold ev_na
  simp only [Nat.add_sub_cancel, hh_rd (g := g) ha, hb, q2, q3, c2, c5, show Int32.toNatClampNeg 0 = 0 from rfl, show decide ((0 : Int32) < 0) = false from rfl, decide_false, Bool.not_false, Nat.zero_add, c3, c4, List.drop_zero, List.take_zero, List.nil_append, hf, hcs, Bool.and_true, Bool.and_self, cond_true]
theorem tr_acpyW (j a b : Nat) (la lb : List Int32) (n dp : Nat) (x y : Int32) (hl : ev_lk M.2.2.2.2.2.2 pc = some (.invokestatic j, 3)) (hct : ev_ct0 M.1 j = some (13, 5, 0, ev_dum)) (ha : ev_rd (tr_G g) h a = some (.inl (2, la))) (hb : h.1[b]? = some (.inl (2, lb))) (hx : x = Int32.ofNat n) (hy : y = Int32.ofNat dp) (h1 : n ≤ la.length) (h2 : dp + n ≤ lb.length) (hn : dp + n < 2147483648) (hf : (la.take n).all (fun x => fits .byte (.int x)) = true) (hcs : ev_cs S = true) (k : tr_T P g d M (pc + 3) L S (ev_wr h (b + 1000) (.inl (2, lb.take dp ++ la.take n ++ lb.drop (dp + n)))) r) : tr_T P g d M pc L (.int x :: .int y :: .ref (b + 1000) :: .int 0 :: .ref a :: S) h r := by
  subst hx
  subst hy
  have q1 : (Int32.ofNat n).toInt = (n : Int) := Int32.toInt_ofNat_of_lt (by omega)
  have q2 : (Int32.ofNat n).toNatClampNeg = n := by rw [Int32.toNatClampNeg, q1]; rfl
  have q3 : ¬ (Int32.ofNat n < 0) := by
    rw [Int32.lt_iff_toInt_lt, q1]
    simp
  have p1 : (Int32.ofNat dp).toInt = (dp : Int) := Int32.toInt_ofNat_of_lt (by omega)
  have p2 : (Int32.ofNat dp).toNatClampNeg = dp := by rw [Int32.toNatClampNeg, p1]; rfl
  have p3 : ¬ (Int32.ofNat dp < 0) := by
    rw [Int32.lt_iff_toInt_lt, p1]
    simp
  have c2 : Nat.ble 1000 (b + 1000) = true := Nat.ble_eq_true_of_le (by omega)
  have c3 : Nat.ble n la.length = true := Nat.ble_eq_true_of_le h1
  have c4 : Nat.ble (dp + n) lb.length = true := Nat.ble_eq_true_of_le h2
  have c5 : ev_ck (.invokestatic j) 2 = true := rfl
  refine tr_na (.invokestatic j) j 13 5 0 ev_dum S _ hl rfl rfl rfl rfl hct ?_ k
  unfold ev_na
  simp only [Nat.add_sub_cancel, ha, hb, q2, q3, p2, p3, c2, c5, show Int32.toNatClampNeg 0 = 0 from rfl, show decide ((0 : Int32) < 0) = false from rfl, decide_false, Bool.not_false, Nat.zero_add, c3, c4, List.drop_zero, hf, hcs, Bool.and_true, Bool.and_self, cond_true]
theorem tr_newi (n : Nat) (x : Int32) (hl : ev_lk M.2.2.2.2.2.2 pc = some (.newarray .int, 2)) (hx : x = Int32.ofNat n) (hn : n ≤ 1000000) (k : tr_T P g d M (pc + 2) L (.ref (h.1.length + 1000) :: S) (hh_push h (.inl (0, List.replicate n 0)) n) r) : tr_T P g d M pc L (.int x :: S) h r := by
  subst hx
  have h1 : (Int32.ofNat n).toInt = (n : Int) := by rw [Int32.toInt_ofNat_of_lt (by omega)]
  have h2 : (Int32.ofNat n).toNatClampNeg = n := by rw [Int32.toNatClampNeg, h1]; rfl
  have h3 : ¬ (Int32.ofNat n < 0) := by
    rw [Int32.lt_iff_toInt_lt, h1]
    simp
  have h4 : Nat.blt 1000000 n = false := by
    cases hb : Nat.blt 1000000 n with
    | false => rfl
    | true => exact absurd (Nat.le_of_ble_eq_true hb) (by omega)
  refine tr_s (.newarray .int) 2 _ _ _ _ hl rfl ?_ k
  simp only [ev_s, ev_ldi, ev_sti, ev_p, ev_r, ev_w, h2, h3, h4, decide_false, Bool.or_false, cond_false]
  show some _ = some _
  rw [Nat.add_comm 1000]
  rfl
theorem tr_newo (i ci : Nat) (vs : List Value) (z : Nat) (hl : ev_lk M.2.2.2.2.2.2 pc = some (.new i, 3)) (hn : ev_nw0 M.1 i = some ci) (hv : (ev_ft0 ci).map (fun q => defaultValue q.1) = vs) (hz : (ev_ft0 ci).length = z) (k : tr_T P g d M (pc + 3) L (.ref (h.1.length + 1000) :: S) (hh_push h (.inr (ci, vs)) z) r) : tr_T P g d M pc L S h r := by
  subst hv
  subst hz
  have hn' : ev_nw (tr_G g) M.1 i = some ci := hn
  refine tr_s (.new i) 3 _ _ _ _ hl rfl ?_ k
  simp only [ev_s, ev_ldi, ev_sti, ev_p, ev_r, ev_w, hn']
  show some _ = some _
  rw [Nat.add_comm 1000]
  rfl
theorem tr_clone (i a : Nat) (l : List Int32) (hl : ev_lk M.2.2.2.2.2.2 pc = some (.invokevirtual i, 3)) (hk : ev_skl sk_4 M.1 i = some .null) (ha : h.1[a]? = some (.inl (2, l))) (hf : l.all (fun x => fits .byte (.int x)) = true) (hcs : ev_cs S = true) (k : tr_T P g d M (pc + 3) L (.ref (h.1.length + 1000) :: S) (hh_push h (.inl (2, l)) l.length) r) : tr_T P g d M pc L (.ref (a + 1000) :: S) h r := by
  have hk' : ev_sk (tr_G g) 4 M.1 i = some .null := hk
  have c2 : Nat.ble 1000 (a + 1000) = true := Nat.ble_eq_true_of_le (by omega)
  refine tr_s (.invokevirtual i) 3 _ _ _ _ hl rfl ?_ k
  simp only [ev_s, ev_ldi, ev_sti, ev_p, ev_r, ev_w, hk', Nat.add_sub_cancel, ha, c2, hf, hcs, Bool.and_true, cond_true]
  show some _ = some _
  rw [Nat.add_comm 1000]
  rfl
theorem tr_cast (i a : Nat) (l : List Int32) (hl : ev_lk M.2.2.2.2.2.2 pc = some (.checkcast i, 3)) (hk : ev_skl sk_3 M.1 i = some .null) (ha : h.1[a]? = some (.inl (2, l))) (k : tr_T P g d M (pc + 3) L (.ref (a + 1000) :: S) h r) : tr_T P g d M pc L (.ref (a + 1000) :: S) h r := by
  have hk' : ev_sk (tr_G g) 3 M.1 i = some .null := hk
  have c2 : Nat.ble 1000 (a + 1000) = true := Nat.ble_eq_true_of_le (by omega)
  refine tr_s (.checkcast i) 3 _ _ _ _ hl rfl ?_ k
  simp only [ev_s, ev_ldi, ev_sti, ev_p, ev_r, hk', Nat.add_sub_cancel, ha, c2, Option.isSome_some, Bool.and_true, cond_true]
end
theorem sg_J5_isLatin1_aae02_t_0 {g : tr_g} {d : Nat} {h : ev_AH} {r : ev_O × ev_AH} (hL : hh_L h) (t : (1 : Int32) = 0 → tr_L g d m_J5_isLatin1_aae02 17 [some (.ref 1094)] [] h r) (f : (1 : Int32) ≠ 0 → tr_L g d m_J5_isLatin1_aae02 6 [some (.ref 1094)] [] h r) : tr_L g d m_J5_isLatin1_aae02 0 [some (.ref 1094)] [] h r := by
  refine tr_s (.getstatic 18) 3 3 [some (.ref 1094)] [.int 1] h rfl rfl rfl ?_
  exact tr_if1 .eq 14 17 1 rfl rfl rfl (fun hc => t ((tr_eq hc).1 rfl)) (fun hc => f ((tr_eq hc).2 rfl))
theorem sg_J5_isLatin1_aae02_t_6 {g : tr_g} {d : Nat} {h : ev_AH} {r : ev_O × ev_AH} (hL : hh_L h) (t : (hh_i h 94 1) ≠ 0 → tr_L g d m_J5_isLatin1_aae02 17 [some (.ref 1094)] [] h r) (f : (hh_i h 94 1) = 0 → tr_L g d m_J5_isLatin1_aae02 13 [some (.ref 1094)] [] h r) : tr_L g d m_J5_isLatin1_aae02 6 [some (.ref 1094)] [] h r := by
  refine tr_s (.aload_n 0) 1 7 [some (.ref 1094)] [.ref 1094] h rfl rfl rfl ?_
  refine tl_gi hL 22 94 9 1 [1, 0, 0, 0] rfl rfl rfl rfl ?_
  exact tr_if1 .ne 7 17 (hh_i h 94 1) rfl rfl rfl (fun hc => t ((tr_ne hc).1 rfl)) (fun hc => f ((tr_ne hc).2 rfl))
theorem sg_J5_isLatin1_aae02_t_13 {g : tr_g} {d : Nat} {h : ev_AH} {r : ev_O × ev_AH} {w0 : Option Value} (hL : hh_L h) (hr : r = (.inl (some (.int 1)), h)) : tr_L g d m_J5_isLatin1_aae02 13 [w0] [] h r := by
  refine tr_ic 1 1 (by decide) rfl ?_
  refine tr_goto 4 18 rfl rfl rfl ?_
  exact tl_ret hL .ireturn 1 (some (.int 1)) rfl rfl rfl rfl hr
theorem sg_J5_isLatin1_aae02_t_17 {g : tr_g} {d : Nat} {h : ev_AH} {r : ev_O × ev_AH} {w0 : Option Value} (hL : hh_L h) (hr : r = (.inl (some (.int 0)), h)) : tr_L g d m_J5_isLatin1_aae02 17 [w0] [] h r := by
  refine tr_ic 0 0 (by decide) rfl ?_
  exact tl_ret hL .ireturn 1 (some (.int 0)) rfl rfl rfl rfl hr
theorem sg_J5_length_8abf5_t_0 {g : tr_g} {d : Nat} {h : ev_AH} {r : ev_O × ev_AH} (hL : hh_L h) (hr : r = (.inl (some (.int (hh_i h 94 3))), h)) : tr_L g d m_J5_length_8abf5 0 [some (.ref 1094)] [] h r := by
  refine tr_s (.aload_n 0) 1 1 [some (.ref 1094)] [.ref 1094] h rfl rfl rfl ?_
  refine tl_gi hL 79 94 9 3 [1, 0, 0, 0] rfl rfl rfl rfl ?_
  exact tl_ret hL .ireturn 1 (some (.int (hh_i h 94 3))) rfl rfl rfl rfl hr
theorem sg_J4_length_8abf5_t_0 {g : tr_g} {d : Nat} {h : ev_AH} {r : ev_O × ev_AH} {h1 : ev_AH} {v0 : Int32} (hL : hh_L h) (c_0 : tr_L g d m_J5_length_8abf5 0 [some (.ref 1094)] [] h (.inl (some (.int v0)), h1)) (hr : r = (.inl (some (.int v0)), h1)) : tr_L g (d + 1) m_J4_length_8abf5 0 [some (.ref 1094)] [] h r := by
  refine tr_s (.aload_n 0) 1 1 [some (.ref 1094)] [.ref 1094] h rfl rfl rfl ?_
  refine tr_call (.invokespecial 343) 343 7 0 9 m_J5_length_8abf5 [.ref 1094] [] (some (.int v0)) h1 rfl rfl rfl rfl rfl rfl rfl rfl rfl (tr_cok rfl (Or.inr ⟨_, _, rfl, tr_rc (hh_rd (hh_obj hL (k := 94) rfl).1) (by decide)⟩)) c_0 ?_
  have hL0 := c_0.2
  exact tl_ret hL0 .ireturn 1 (some (.int v0)) rfl rfl rfl rfl hr
theorem sg_J5_charAt_5068e_t_0 {g : tr_g} {d : Nat} {h : ev_AH} {r : ev_O × ev_AH} {x1 : Int32} {c0 : Nat} {l0 : List Int32} {h1 : ev_AH} (hL : hh_L h) (p0 : (hh_v h 94)[0]? = some (.ref (c0 + 1000))) (m0 : h.1[c0]? = some (.inl (2, l0))) (z0 : l0.length < 2147483648) (c_0 : tr_L g d m_J0_checkIndex_df160 0 [some (.int x1), some (.int (if ((Int32.ofNat l0.length) >>> ((hh_i h 94 1) &&& 31)) < (hh_i h 94 3) then ((Int32.ofNat l0.length) >>> ((hh_i h 94 1) &&& 31)) else (hh_i h 94 3)))] [] h (.inl none, h1)) (t : (hh_i h 94 1) ≠ 0 → tr_L g (d + 1) m_J5_charAt_5068e 42 [some (.ref 1094), some (.int x1), some (.int (hh_i h 94 1)), some (.ref (c0 + 1000)), some (.int (if ((Int32.ofNat l0.length) >>> ((hh_i h 94 1) &&& 31)) < (hh_i h 94 3) then ((Int32.ofNat l0.length) >>> ((hh_i h 94 1) &&& 31)) else (hh_i h 94 3)))] [] h1 r) (f : (hh_i h 94 1) = 0 → tr_L g (d + 1) m_J5_charAt_5068e 33 [some (.ref 1094), some (.int x1), some (.int (hh_i h 94 1)), some (.ref (c0 + 1000)), some (.int (if ((Int32.ofNat l0.length) >>> ((hh_i h 94 1) &&& 31)) < (hh_i h 94 3) then ((Int32.ofNat l0.length) >>> ((hh_i h 94 1) &&& 31)) else (hh_i h 94 3)))] [] h1 r) : tr_L g (d + 1) m_J5_charAt_5068e 0 [some (.ref 1094), some (.int x1), none, none, none] [] h r := by
  refine tr_s (.aload_n 0) 1 1 [some (.ref 1094), some (.int x1), none, none, none] [.ref 1094] h rfl rfl rfl ?_
  refine tl_gi hL 22 94 9 1 [1, 0, 0, 0] rfl rfl rfl rfl ?_
  refine tr_st (.istore_n 2) 1 2 0 (.int (hh_i h 94 1)) rfl rfl rfl rfl rfl rfl rfl ?_
  refine tr_s (.aload_n 0) 1 6 [some (.ref 1094), some (.int x1), some (.int (hh_i h 94 1)), none, none] [.ref 1094] h rfl rfl rfl ?_
  refine tr_gf 15 1094 9 0 _ _ rfl rfl (hh_rd (hh_obj hL (k := 94) rfl).1) p0 ?_
  refine tr_st (.astore_n 3) 1 3 1 (.ref (c0 + 1000)) rfl rfl rfl rfl rfl rfl rfl ?_
  refine tr_s (.aload_n 0) 1 11 [some (.ref 1094), some (.int x1), some (.int (hh_i h 94 1)), some (.ref (c0 + 1000)), none] [.ref 1094] h rfl rfl rfl ?_
  refine tl_gi hL 79 94 9 3 [1, 0, 0, 0] rfl rfl rfl rfl ?_
  refine tr_s (.aload_n 3) 1 15 [some (.ref 1094), some (.int x1), some (.int (hh_i h 94 1)), some (.ref (c0 + 1000)), none] [.ref (c0 + 1000), .int (hh_i h 94 3)] h rfl rfl rfl ?_
  refine tr_alen _ 2 l0 rfl (hh_rd m0) (by decide) ?_
  refine tr_s (.iload_n 2) 1 17 [some (.ref 1094), some (.int x1), some (.int (hh_i h 94 1)), some (.ref (c0 + 1000)), none] [.int (hh_i h 94 1), .int (Int32.ofNat l0.length), .int (hh_i h 94 3)] h rfl rfl rfl ?_
  refine tr_s .ishr 1 18 [some (.ref 1094), some (.int x1), some (.int (hh_i h 94 1)), some (.ref (c0 + 1000)), none] [.int ((Int32.ofNat l0.length) >>> ((hh_i h 94 1) &&& 31)), .int (hh_i h 94 3)] h rfl rfl rfl ?_
  refine tr_na (.invokestatic 138) 138 11 2 0 ev_dum [.int (if ((Int32.ofNat l0.length) >>> ((hh_i h 94 1) &&& 31)) < (hh_i h 94 3) then ((Int32.ofNat l0.length) >>> ((hh_i h 94 1) &&& 31)) else (hh_i h 94 3))] h rfl rfl rfl rfl rfl rfl rfl ?_
  refine tr_st (.istore 4) 2 4 0 (.int (if ((Int32.ofNat l0.length) >>> ((hh_i h 94 1) &&& 31)) < (hh_i h 94 3) then ((Int32.ofNat l0.length) >>> ((hh_i h 94 1) &&& 31)) else (hh_i h 94 3))) rfl rfl rfl rfl rfl rfl rfl ?_
  refine tr_s (.iload_n 1) 1 24 [some (.ref 1094), some (.int x1), some (.int (hh_i h 94 1)), some (.ref (c0 + 1000)), some (.int (if ((Int32.ofNat l0.length) >>> ((hh_i h 94 1) &&& 31)) < (hh_i h 94 3) then ((Int32.ofNat l0.length) >>> ((hh_i h 94 1) &&& 31)) else (hh_i h 94 3)))] [.int x1] h rfl rfl rfl ?_
  refine tr_s (.iload 4) 2 26 [some (.ref 1094), some (.int x1), some (.int (hh_i h 94 1)), some (.ref (c0 + 1000)), some (.int (if ((Int32.ofNat l0.length) >>> ((hh_i h 94 1) &&& 31)) < (hh_i h 94 3) then ((Int32.ofNat l0.length) >>> ((hh_i h 94 1) &&& 31)) else (hh_i h 94 3)))] [.int (if ((Int32.ofNat l0.length) >>> ((hh_i h 94 1) &&& 31)) < (hh_i h 94 3) then ((Int32.ofNat l0.length) >>> ((hh_i h 94 1) &&& 31)) else (hh_i h 94 3)), .int x1] h rfl rfl rfl ?_
  refine tr_call (.invokestatic 144) 144 2 2 0 m_J0_checkIndex_df160 [.int x1, .int (if ((Int32.ofNat l0.length) >>> ((hh_i h 94 1) &&& 31)) < (hh_i h 94 3) then ((Int32.ofNat l0.length) >>> ((hh_i h 94 1) &&& 31)) else (hh_i h 94 3))] [] none h1 rfl rfl rfl rfl rfl rfl rfl rfl rfl (tr_cok rfl (Or.inl rfl)) c_0 ?_
  have hL0 := c_0.2
  refine tr_s (.iload_n 2) 1 30 [some (.ref 1094), some (.int x1), some (.int (hh_i h 94 1)), some (.ref (c0 + 1000)), some (.int (if ((Int32.ofNat l0.length) >>> ((hh_i h 94 1) &&& 31)) < (hh_i h 94 3) then ((Int32.ofNat l0.length) >>> ((hh_i h 94 1) &&& 31)) else (hh_i h 94 3)))] [.int (hh_i h 94 1)] h1 rfl rfl rfl ?_
  exact tr_if1 .ne 12 42 (hh_i h 94 1) rfl rfl rfl (fun hc => t ((tr_ne hc).1 rfl)) (fun hc => f ((tr_ne hc).2 rfl))
theorem sg_J5_charAt_5068e_t_33 {g : tr_g} {d : Nat} {h : ev_AH} {r : ev_O × ev_AH} {w0 w2 w4 : Option Value} {x1 : Int32} {a3 j0 : Nat} {l0 : List Int32} (hL : hh_L h) (e0 : x1 = Int32.ofNat j0) (m0 : h.1[a3]? = some (.inl (2, l0))) (z0 : l0.length < 2147483648) (b0 : j0 < l0.length) (hc0 : tr_ch ((((l0.getD j0 0) &&& 255).toUInt32 % 65536).toInt32)) (hr : r = (.inl (some (.int ((((l0.getD j0 0) &&& 255).toUInt32 % 65536).toInt32))), h)) : tr_L g d m_J5_charAt_5068e 33 [w0, some (.int x1), w2, some (.ref (a3 + 1000)), w4] [] h r := by
  refine tr_s (.aload_n 3) 1 34 [w0, some (.int x1), w2, some (.ref (a3 + 1000)), w4] [.ref (a3 + 1000)] h rfl rfl rfl ?_
  refine tr_s (.iload_n 1) 1 35 [w0, some (.int x1), w2, some (.ref (a3 + 1000)), w4] [.int x1, .ref (a3 + 1000)] h rfl rfl rfl ?_
  refine tr_ald .baload 2 _ j0 x1 l0 (Or.inr (Or.inr ⟨rfl, rfl⟩)) rfl (hh_rd m0) e0 b0 z0 ?_
  refine tr_si 255 255 (by decide) rfl ?_
  refine tr_s .iand 1 40 [w0, some (.int x1), w2, some (.ref (a3 + 1000)), w4] [.int ((l0.getD j0 0) &&& 255)] h rfl rfl rfl ?_
  refine tr_s .i2c 1 41 [w0, some (.int x1), w2, some (.ref (a3 + 1000)), w4] [.int ((((l0.getD j0 0) &&& 255).toUInt32 % 65536).toInt32)] h rfl rfl rfl ?_
  exact tl_ret hL .ireturn 1 (some (.int ((((l0.getD j0 0) &&& 255).toUInt32 % 65536).toInt32))) rfl rfl rfl (tr_ec rfl hc0) hr
theorem sg_J4_charAt_5068e_t_0 {g : tr_g} {d : Nat} {h : ev_AH} {r : ev_O × ev_AH} {x1 v0 : Int32} {h1 : ev_AH} (hL : hh_L h) (c_0 : tr_L g d m_J5_charAt_5068e 0 [some (.ref 1094), some (.int x1), none, none, none] [] h (.inl (some (.int v0)), h1)) (hc0 : tr_ch v0) (hr : r = (.inl (some (.int v0)), h1)) : tr_L g (d + 1) m_J4_charAt_5068e 0 [some (.ref 1094), some (.int x1)] [] h r := by
  refine tr_s (.aload_n 0) 1 1 [some (.ref 1094), some (.int x1)] [.ref 1094] h rfl rfl rfl ?_
  refine tr_s (.iload_n 1) 1 2 [some (.ref 1094), some (.int x1)] [.int x1, .ref 1094] h rfl rfl rfl ?_
  refine tr_call (.invokespecial 329) 329 7 1 9 m_J5_charAt_5068e [.ref 1094, .int x1] [] (some (.int v0)) h1 rfl rfl rfl rfl rfl rfl rfl rfl rfl (tr_cok rfl (Or.inr ⟨_, _, rfl, tr_rc (hh_rd (hh_obj hL (k := 94) rfl).1) (by decide)⟩)) c_0 ?_
  have hL0 := c_0.2
  exact tl_ret hL0 .ireturn 1 (some (.int v0)) rfl rfl rfl (tr_ec rfl hc0) hr
theorem sg_J5_ensureCapacityInternal_d00df_t_0 {g : tr_g} {d : Nat} {h : ev_AH} {r : ev_O × ev_AH} {x1 : Int32} {c0 : Nat} {l0 : List Int32} (hL : hh_L h) (p0 : (hh_v h 94)[0]? = some (.ref (c0 + 1000))) (m0 : h.1[c0]? = some (.inl (2, l0))) (z0 : l0.length < 2147483648) (t : (x1 - ((Int32.ofNat l0.length) >>> ((hh_i h 94 1) &&& 31))) ≤ 0 → tr_L g d m_J5_ensureCapacityInternal_d00df 38 [some (.ref 1094), some (.int x1), some (.int ((Int32.ofNat l0.length) >>> ((hh_i h 94 1) &&& 31)))] [] h r) (f : 0 < (x1 - ((Int32.ofNat l0.length) >>> ((hh_i h 94 1) &&& 31))) → tr_L g d m_J5_ensureCapacityInternal_d00df 17 [some (.ref 1094), some (.int x1), some (.int ((Int32.ofNat l0.length) >>> ((hh_i h 94 1) &&& 31)))] [] h r) : tr_L g d m_J5_ensureCapacityInternal_d00df 0 [some (.ref 1094), some (.int x1), none] [] h r := by
  refine tr_s (.aload_n 0) 1 1 [some (.ref 1094), some (.int x1), none] [.ref 1094] h rfl rfl rfl ?_
  refine tr_gf 15 1094 9 0 _ _ rfl rfl (hh_rd (hh_obj hL (k := 94) rfl).1) p0 ?_
  refine tr_alen _ 2 l0 rfl (hh_rd m0) (by decide) ?_
  refine tr_s (.aload_n 0) 1 6 [some (.ref 1094), some (.int x1), none] [.ref 1094, .int (Int32.ofNat l0.length)] h rfl rfl rfl ?_
  refine tl_gi hL 22 94 9 1 [1, 0, 0, 0] rfl rfl rfl rfl ?_
  refine tr_s .ishr 1 10 [some (.ref 1094), some (.int x1), none] [.int ((Int32.ofNat l0.length) >>> ((hh_i h 94 1) &&& 31))] h rfl rfl rfl ?_
  refine tr_st (.istore_n 2) 1 2 0 (.int ((Int32.ofNat l0.length) >>> ((hh_i h 94 1) &&& 31))) rfl rfl rfl rfl rfl rfl rfl ?_
  refine tr_s (.iload_n 1) 1 12 [some (.ref 1094), some (.int x1), some (.int ((Int32.ofNat l0.length) >>> ((hh_i h 94 1) &&& 31)))] [.int x1] h rfl rfl rfl ?_
  refine tr_s (.iload_n 2) 1 13 [some (.ref 1094), some (.int x1), some (.int ((Int32.ofNat l0.length) >>> ((hh_i h 94 1) &&& 31)))] [.int ((Int32.ofNat l0.length) >>> ((hh_i h 94 1) &&& 31)), .int x1] h rfl rfl rfl ?_
  refine tr_s .isub 1 14 [some (.ref 1094), some (.int x1), some (.int ((Int32.ofNat l0.length) >>> ((hh_i h 94 1) &&& 31)))] [.int (x1 - ((Int32.ofNat l0.length) >>> ((hh_i h 94 1) &&& 31)))] h rfl rfl rfl ?_
  exact tr_if1 .le 24 38 (x1 - ((Int32.ofNat l0.length) >>> ((hh_i h 94 1) &&& 31))) rfl rfl rfl (fun hc => t ((tr_le hc).1 rfl)) (fun hc => f ((tr_le hc).2 rfl))
theorem sg_J5_ensureCapacityInternal_d00df_t_17 {g : tr_g} {d : Nat} {h : ev_AH} {r : ev_O × ev_AH} {x1 v0 : Int32} {w2 : Option Value} {c0 c1 : Nat} {h1 h2 : ev_AH} (hL : hh_L h) (p0 : (hh_v h 94)[0]? = some (.ref (c0 + 1000))) (c_0 : tr_L g d m_J5_newCapacity_0f7a4 0 [some (.ref 1094), some (.int x1), none, none, none, none] [] h (.inl (some (.int v0)), h1)) (c_1 : tr_L g d m_J7_copyOf_9075b 0 [some (.ref (c0 + 1000)), some (.int (v0 <<< ((hh_i h1 94 1) &&& 31))), none] [] h1 (.inl (some (.ref (c1 + 1000))), h2)) (hr : r = (.inl (none), ev_wr h2 1094 (.inr (9, (hh_v h2 94).set 0 (.ref (c1 + 1000)))))) : tr_L g (d + 1) m_J5_ensureCapacityInternal_d00df 17 [some (.ref 1094), some (.int x1), w2] [] h r := by
  refine tr_s (.aload_n 0) 1 18 [some (.ref 1094), some (.int x1), w2] [.ref 1094] h rfl rfl rfl ?_
  refine tr_s (.aload_n 0) 1 19 [some (.ref 1094), some (.int x1), w2] [.ref 1094, .ref 1094] h rfl rfl rfl ?_
  refine tr_gf 15 1094 9 0 _ _ rfl rfl (hh_rd (hh_obj hL (k := 94) rfl).1) p0 ?_
  refine tr_s (.aload_n 0) 1 23 [some (.ref 1094), some (.int x1), w2] [.ref 1094, .ref (c0 + 1000), .ref 1094] h rfl rfl rfl ?_
  refine tr_s (.iload_n 1) 1 24 [some (.ref 1094), some (.int x1), w2] [.int x1, .ref 1094, .ref (c0 + 1000), .ref 1094] h rfl rfl rfl ?_
  refine tr_call (.invokevirtual 104) 104 0 1 9 m_J5_newCapacity_0f7a4 [.ref 1094, .int x1] [.ref (c0 + 1000), .ref 1094] (some (.int v0)) h1 rfl rfl rfl rfl rfl rfl rfl rfl rfl (tr_cok rfl (Or.inr ⟨_, _, rfl, tr_rc (hh_rd (hh_obj hL (k := 94) rfl).1) (by decide)⟩)) c_0 ?_
  have hL0 := c_0.2
  refine tr_s (.aload_n 0) 1 28 [some (.ref 1094), some (.int x1), w2] [.ref 1094, .int v0, .ref (c0 + 1000), .ref 1094] h1 rfl rfl rfl ?_
  refine tl_gi hL0 22 94 9 1 [1, 0, 0, 0] rfl rfl rfl rfl ?_
  refine tr_s .ishl 1 32 [some (.ref 1094), some (.int x1), w2] [.int (v0 <<< ((hh_i h1 94 1) &&& 31)), .ref (c0 + 1000), .ref 1094] h1 rfl rfl rfl ?_
  refine tr_call (.invokestatic 108) 108 2 2 0 m_J7_copyOf_9075b [.ref (c0 + 1000), .int (v0 <<< ((hh_i h1 94 1) &&& 31))] [.ref 1094] (some (.ref (c1 + 1000))) h2 rfl rfl rfl rfl rfl rfl rfl rfl rfl (tr_cok rfl (Or.inl rfl)) c_1 ?_
  have hL1 := c_1.2
  refine tr_pf 15 1094 9 0 _ (.ref (c1 + 1000)) _ rfl rfl (by decide) (hh_obj hL1 (k := 94) rfl).1 rfl (by rw [(hh_obj hL1 (k := 94) rfl).2]; decide) tr_okr ?_
  have hL2 : hh_L (ev_wr h2 1094 (.inr (9, (hh_v h2 94).set 0 (.ref (c1 + 1000))))) := hh_L_sv (sl := 0) (v := .ref (c1 + 1000)) hL1 (show hh_t[94]? = some (.inr (9, [1, 0, 0, 0])) from rfl) rfl trivial
  exact tl_ret hL2 .return_ 1 none rfl rfl rfl rfl hr
theorem sg_J5_ensureCapacityInternal_d00df_t_38 {g : tr_g} {d : Nat} {h : ev_AH} {r : ev_O × ev_AH} {w0 w1 w2 : Option Value} (hL : hh_L h) (hr : r = (.inl (none), h)) : tr_L g d m_J5_ensureCapacityInternal_d00df 38 [w0, w1, w2] [] h r := by
  exact tl_ret hL .return_ 1 none rfl rfl rfl rfl hr
theorem sg_J5_setLength_d00df_t_0 {g : tr_g} {d : Nat} {h : ev_AH} {r : ev_O × ev_AH} {x1 : Int32} (hL : hh_L h) (t : 0 ≤ x1 → tr_L g d m_J5_setLength_d00df 13 [some (.ref 1094), some (.int x1)] [] h r) (f : x1 < 0 → tr_L g d m_J5_setLength_d00df 4 [some (.ref 1094), some (.int x1)] [] h r) : tr_L g d m_J5_setLength_d00df 0 [some (.ref 1094), some (.int x1)] [] h r := by
  refine tr_s (.iload_n 1) 1 1 [some (.ref 1094), some (.int x1)] [.int x1] h rfl rfl rfl ?_
  exact tr_if1 .ge 12 13 x1 rfl rfl rfl (fun hc => t ((tr_ge hc).1 rfl)) (fun hc => f ((tr_ge hc).2 rfl))
theorem sg_J5_setLength_d00df_t_13 {g : tr_g} {d : Nat} {h : ev_AH} {r : ev_O × ev_AH} {x1 : Int32} {h1 : ev_AH} (hL : hh_L h) (c_0 : tr_L g d m_J5_ensureCapacityInternal_d00df 0 [some (.ref 1094), some (.int x1), none] [] h (.inl none, h1)) (t : x1 ≤ (hh_i h1 94 3) → tr_L g (d + 1) m_J5_setLength_d00df 63 [some (.ref 1094), some (.int x1)] [] h1 r) (f : (hh_i h1 94 3) < x1 → tr_L g (d + 1) m_J5_setLength_d00df 26 [some (.ref 1094), some (.int x1)] [] h1 r) : tr_L g (d + 1) m_J5_setLength_d00df 13 [some (.ref 1094), some (.int x1)] [] h r := by
  refine tr_s (.aload_n 0) 1 14 [some (.ref 1094), some (.int x1)] [.ref 1094] h rfl rfl rfl ?_
  refine tr_s (.iload_n 1) 1 15 [some (.ref 1094), some (.int x1)] [.int x1, .ref 1094] h rfl rfl rfl ?_
  refine tr_call (.invokevirtual 100) 100 0 1 9 m_J5_ensureCapacityInternal_d00df [.ref 1094, .int x1] [] none h1 rfl rfl rfl rfl rfl rfl rfl rfl rfl (tr_cok rfl (Or.inr ⟨_, _, rfl, tr_rc (hh_rd (hh_obj hL (k := 94) rfl).1) (by decide)⟩)) c_0 ?_
  have hL0 := c_0.2
  refine tr_s (.aload_n 0) 1 19 [some (.ref 1094), some (.int x1)] [.ref 1094] h1 rfl rfl rfl ?_
  refine tl_gi hL0 79 94 9 3 [1, 0, 0, 0] rfl rfl rfl rfl ?_
  refine tr_s (.iload_n 1) 1 23 [some (.ref 1094), some (.int x1)] [.int x1, .int (hh_i h1 94 3)] h1 rfl rfl rfl ?_
  exact tr_if2 .ge 40 63 (hh_i h1 94 3) x1 rfl rfl rfl (fun hc => t ((tr_ge hc).1 rfl)) (fun hc => f ((tr_ge hc).2 rfl))
theorem sg_J5_setLength_d00df_t_26 {g : tr_g} {d : Nat} {h : ev_AH} {r : ev_O × ev_AH} {x1 v0 : Int32} {h1 : ev_AH} (hL : hh_L h) (c_0 : tr_L g d m_J5_isLatin1_aae02 0 [some (.ref 1094)] [] h (.inl (some (.int v0)), h1)) (t : v0 = 0 → tr_L g (d + 1) m_J5_setLength_d00df 48 [some (.ref 1094), some (.int x1)] [] h1 r) (f : v0 ≠ 0 → tr_L g (d + 1) m_J5_setLength_d00df 33 [some (.ref 1094), some (.int x1)] [] h1 r) : tr_L g (d + 1) m_J5_setLength_d00df 26 [some (.ref 1094), some (.int x1)] [] h r := by
  refine tr_s (.aload_n 0) 1 27 [some (.ref 1094), some (.int x1)] [.ref 1094] h rfl rfl rfl ?_
  refine tr_call (.invokevirtual 83) 83 0 0 9 m_J5_isLatin1_aae02 [.ref 1094] [] (some (.int v0)) h1 rfl rfl rfl rfl rfl rfl rfl rfl rfl (tr_cok rfl (Or.inr ⟨_, _, rfl, tr_rc (hh_rd (hh_obj hL (k := 94) rfl).1) (by decide)⟩)) c_0 ?_
  have hL0 := c_0.2
  exact tr_if1 .eq 18 48 v0 rfl rfl rfl (fun hc => t ((tr_eq hc).1 rfl)) (fun hc => f ((tr_eq hc).2 rfl))
theorem sg_J5_setLength_d00df_t_33 {g : tr_g} {d : Nat} {h : ev_AH} {r : ev_O × ev_AH} {x1 : Int32} {c0 : Nat} {h1 : ev_AH} (hL : hh_L h) (p0 : (hh_v h 94)[0]? = some (.ref (c0 + 1000))) (c_0 : tr_L g d m_J1_fillNull_b72d1 0 [some (.ref (c0 + 1000)), some (.int (hh_i h 94 3)), some (.int x1)] [] h (.inl none, h1)) (k : tr_L g (d + 1) m_J5_setLength_d00df 76 [some (.ref 1094), some (.int x1)] [] h1 r) : tr_L g (d + 1) m_J5_setLength_d00df 33 [some (.ref 1094), some (.int x1)] [] h r := by
  refine tr_s (.aload_n 0) 1 34 [some (.ref 1094), some (.int x1)] [.ref 1094] h rfl rfl rfl ?_
  refine tr_gf 15 1094 9 0 _ _ rfl rfl (hh_rd (hh_obj hL (k := 94) rfl).1) p0 ?_
  refine tr_s (.aload_n 0) 1 38 [some (.ref 1094), some (.int x1)] [.ref 1094, .ref (c0 + 1000)] h rfl rfl rfl ?_
  refine tl_gi hL 79 94 9 3 [1, 0, 0, 0] rfl rfl rfl rfl ?_
  refine tr_s (.iload_n 1) 1 42 [some (.ref 1094), some (.int x1)] [.int x1, .int (hh_i h 94 3), .ref (c0 + 1000)] h rfl rfl rfl ?_
  refine tr_call (.invokestatic 133) 133 2 3 0 m_J1_fillNull_b72d1 [.ref (c0 + 1000), .int (hh_i h 94 3), .int x1] [] none h1 rfl rfl rfl rfl rfl rfl rfl rfl rfl (tr_cok rfl (Or.inl rfl)) c_0 ?_
  have hL0 := c_0.2
  refine tr_goto 31 76 rfl rfl rfl ?_
  exact k
theorem sg_J5_setLength_d00df_t_63 {g : tr_g} {d : Nat} {h : ev_AH} {r : ev_O × ev_AH} {x1 : Int32} (hL : hh_L h) (t : (hh_i h 94 3) ≤ x1 → tr_L g d m_J5_setLength_d00df 76 [some (.ref 1094), some (.int x1)] [] h r) (f : x1 < (hh_i h 94 3) → tr_L g d m_J5_setLength_d00df 71 [some (.ref 1094), some (.int x1)] [] h r) : tr_L g d m_J5_setLength_d00df 63 [some (.ref 1094), some (.int x1)] [] h r := by
  refine tr_s (.aload_n 0) 1 64 [some (.ref 1094), some (.int x1)] [.ref 1094] h rfl rfl rfl ?_
  refine tl_gi hL 79 94 9 3 [1, 0, 0, 0] rfl rfl rfl rfl ?_
  refine tr_s (.iload_n 1) 1 68 [some (.ref 1094), some (.int x1)] [.int x1, .int (hh_i h 94 3)] h rfl rfl rfl ?_
  exact tr_if2 .le 8 76 (hh_i h 94 3) x1 rfl rfl rfl (fun hc => t ((tr_le hc).1 rfl)) (fun hc => f ((tr_le hc).2 rfl))
theorem sg_J5_setLength_d00df_t_71 {g : tr_g} {d : Nat} {h : ev_AH} {r : ev_O × ev_AH} {x1 : Int32} (hL : hh_L h) (k : tr_L g d m_J5_setLength_d00df 76 [some (.ref 1094), some (.int x1)] [] (hh_si h 94 9 2 1) r) : tr_L g d m_J5_setLength_d00df 71 [some (.ref 1094), some (.int x1)] [] h r := by
  refine tr_s (.aload_n 0) 1 72 [some (.ref 1094), some (.int x1)] [.ref 1094] h rfl rfl rfl ?_
  refine tr_ic 1 1 (by decide) rfl ?_
  refine tl_pf hL 73 94 9 2 [1, 0, 0, 0] 1 .boolean rfl rfl rfl rfl rfl (by decide) ?_
  have hL0 := hh_L_si (sl := 2) (x := 1) hL (show hh_t[94]? = some (.inr (9, [1, 0, 0, 0])) from rfl) rfl
  exact k
theorem sg_J5_setLength_d00df_t_76 {g : tr_g} {d : Nat} {h : ev_AH} {r : ev_O × ev_AH} {x1 : Int32} (hL : hh_L h) (hr : r = (.inl (none), hh_si h 94 9 3 x1)) : tr_L g d m_J5_setLength_d00df 76 [some (.ref 1094), some (.int x1)] [] h r := by
  refine tr_s (.aload_n 0) 1 77 [some (.ref 1094), some (.int x1)] [.ref 1094] h rfl rfl rfl ?_
  refine tr_s (.iload_n 1) 1 78 [some (.ref 1094), some (.int x1)] [.int x1, .ref 1094] h rfl rfl rfl ?_
  refine tl_pf hL 79 94 9 3 [1, 0, 0, 0] x1 .int rfl rfl rfl rfl rfl tr_oki ?_
  have hL0 := hh_L_si (sl := 3) (x := x1) hL (show hh_t[94]? = some (.inr (9, [1, 0, 0, 0])) from rfl) rfl
  exact tl_ret hL0 .return_ 1 none rfl rfl rfl rfl hr
theorem sg_J4_setLength_d00df_t_0 {g : tr_g} {d : Nat} {h : ev_AH} {r : ev_O × ev_AH} {x1 : Int32} {h1 : ev_AH} (hL : hh_L h) (c_0 : tr_L g d m_J5_setLength_d00df 0 [some (.ref 1094), some (.int x1)] [] h (.inl none, h1)) (hr : r = (.inl (none), h1)) : tr_L g (d + 1) m_J4_setLength_d00df 0 [some (.ref 1094), some (.int x1)] [] h r := by
  refine tr_s (.aload_n 0) 1 1 [some (.ref 1094), some (.int x1)] [.ref 1094] h rfl rfl rfl ?_
  refine tr_s (.iload_n 1) 1 2 [some (.ref 1094), some (.int x1)] [.int x1, .ref 1094] h rfl rfl rfl ?_
  refine tr_call (.invokespecial 333) 333 7 1 9 m_J5_setLength_d00df [.ref 1094, .int x1] [] none h1 rfl rfl rfl rfl rfl rfl rfl rfl rfl (tr_cok rfl (Or.inr ⟨_, _, rfl, tr_rc (hh_rd (hh_obj hL (k := 94) rfl).1) (by decide)⟩)) c_0 ?_
  have hL0 := c_0.2
  exact tl_ret hL0 .return_ 1 none rfl rfl rfl rfl hr
theorem sg_J5_append_3fe6f_t_0 {g : tr_g} {d : Nat} {h : ev_AH} {r : ev_O × ev_AH} {x1 v0 : Int32} {h1 h2 : ev_AH} (hL : hh_L h) (c_0 : tr_L g d m_J5_ensureCapacityInternal_d00df 0 [some (.ref 1094), some (.int ((hh_i h 94 3) + 1)), none] [] h (.inl none, h1)) (c_1 : tr_L g d m_J5_isLatin1_aae02 0 [some (.ref 1094)] [] h1 (.inl (some (.int v0)), h2)) (t : v0 = 0 → tr_L g (d + 1) m_J5_append_3fe6f 45 [some (.ref 1094), some (.int x1)] [] h2 r) (f : v0 ≠ 0 → tr_L g (d + 1) m_J5_append_3fe6f 17 [some (.ref 1094), some (.int x1)] [] h2 r) : tr_L g (d + 1) m_J5_append_3fe6f 0 [some (.ref 1094), some (.int x1)] [] h r := by
  refine tr_s (.aload_n 0) 1 1 [some (.ref 1094), some (.int x1)] [.ref 1094] h rfl rfl rfl ?_
  refine tr_s (.aload_n 0) 1 2 [some (.ref 1094), some (.int x1)] [.ref 1094, .ref 1094] h rfl rfl rfl ?_
  refine tl_gi hL 79 94 9 3 [1, 0, 0, 0] rfl rfl rfl rfl ?_
  refine tr_ic 1 1 (by decide) rfl ?_
  refine tr_s .iadd 1 7 [some (.ref 1094), some (.int x1)] [.int ((hh_i h 94 3) + 1), .ref 1094] h rfl rfl rfl ?_
  refine tr_call (.invokevirtual 100) 100 0 1 9 m_J5_ensureCapacityInternal_d00df [.ref 1094, .int ((hh_i h 94 3) + 1)] [] none h1 rfl rfl rfl rfl rfl rfl rfl rfl rfl (tr_cok rfl (Or.inr ⟨_, _, rfl, tr_rc (hh_rd (hh_obj hL (k := 94) rfl).1) (by decide)⟩)) c_0 ?_
  have hL0 := c_0.2
  refine tr_s (.aload_n 0) 1 11 [some (.ref 1094), some (.int x1)] [.ref 1094] h1 rfl rfl rfl ?_
  refine tr_call (.invokevirtual 83) 83 0 0 9 m_J5_isLatin1_aae02 [.ref 1094] [] (some (.int v0)) h2 rfl rfl rfl rfl rfl rfl rfl rfl rfl (tr_cok rfl (Or.inr ⟨_, _, rfl, tr_rc (hh_rd (hh_obj hL0 (k := 94) rfl).1) (by decide)⟩)) c_1 ?_
  have hL1 := c_1.2
  exact tr_if1 .eq 31 45 v0 rfl rfl rfl (fun hc => t ((tr_eq hc).1 rfl)) (fun hc => f ((tr_eq hc).2 rfl))
theorem sg_J5_append_3fe6f_t_17 {g : tr_g} {d : Nat} {h : ev_AH} {r : ev_O × ev_AH} {x1 v0 : Int32} {h1 : ev_AH} (hL : hh_L h) (c_0 : tr_L g d m_J1_canEncode_fc78d 0 [some (.int x1)] [] h (.inl (some (.int v0)), h1)) (t : v0 = 0 → tr_L g (d + 1) m_J5_append_3fe6f 45 [some (.ref 1094), some (.int x1)] [] h1 r) (f : v0 ≠ 0 → tr_L g (d + 1) m_J5_append_3fe6f 24 [some (.ref 1094), some (.int x1)] [] h1 r) : tr_L g (d + 1) m_J5_append_3fe6f 17 [some (.ref 1094), some (.int x1)] [] h r := by
  refine tr_s (.iload_n 1) 1 18 [some (.ref 1094), some (.int x1)] [.int x1] h rfl rfl rfl ?_
  refine tr_call (.invokestatic 191) 191 2 1 0 m_J1_canEncode_fc78d [.int x1] [] (some (.int v0)) h1 rfl rfl rfl rfl rfl rfl rfl rfl rfl (tr_cok rfl (Or.inl rfl)) c_0 ?_
  have hL0 := c_0.2
  exact tr_if1 .eq 24 45 v0 rfl rfl rfl (fun hc => t ((tr_eq hc).1 rfl)) (fun hc => f ((tr_eq hc).2 rfl))
theorem sg_J5_append_3fe6f_t_24 {g : tr_g} {d : Nat} {h : ev_AH} {r : ev_O × ev_AH} {x1 : Int32} {c0 j0 : Nat} {l0 : List Int32} (hL : hh_L h) (p0 : (hh_v h 94)[0]? = some (.ref (c0 + 1000))) (e0 : hh_i h 94 3 = Int32.ofNat j0) (hb0 : vp_nar .byte x1.toInt8.toInt32 = x1.toInt8.toInt32) (m0 : (hh_si h 94 9 3 ((hh_i h 94 3) + 1)).1[c0]? = some (.inl (2, l0))) (z0 : l0.length < 2147483648) (b0 : j0 < l0.length) (hr : r = (.inl (some (.ref 1094)), ev_wr (hh_si h 94 9 3 ((hh_i h 94 3) + 1)) (c0 + 1000) (.inl (2, l0.set j0 x1.toInt8.toInt32)))) (hLe : hh_L (ev_wr (hh_si h 94 9 3 ((hh_i h 94 3) + 1)) (c0 + 1000) (.inl (2, l0.set j0 x1.toInt8.toInt32)))) : tr_L g d m_J5_append_3fe6f 24 [some (.ref 1094), some (.int x1)] [] h r := by
  refine tr_s (.aload_n 0) 1 25 [some (.ref 1094), some (.int x1)] [.ref 1094] h rfl rfl rfl ?_
  refine tr_gf 15 1094 9 0 _ _ rfl rfl (hh_rd (hh_obj hL (k := 94) rfl).1) p0 ?_
  refine tr_s (.aload_n 0) 1 29 [some (.ref 1094), some (.int x1)] [.ref 1094, .ref (c0 + 1000)] h rfl rfl rfl ?_
  refine tr_s .dup 1 30 [some (.ref 1094), some (.int x1)] [.ref 1094, .ref 1094, .ref (c0 + 1000)] h rfl rfl rfl ?_
  refine tl_gi hL 79 94 9 3 [1, 0, 0, 0] rfl rfl rfl rfl ?_
  refine tr_s .dup_x1 1 34 [some (.ref 1094), some (.int x1)] [.int (hh_i h 94 3), .ref 1094, .int (hh_i h 94 3), .ref (c0 + 1000)] h rfl rfl rfl ?_
  refine tr_ic 1 1 (by decide) rfl ?_
  refine tr_s .iadd 1 36 [some (.ref 1094), some (.int x1)] [.int ((hh_i h 94 3) + 1), .ref 1094, .int (hh_i h 94 3), .ref (c0 + 1000)] h rfl rfl rfl ?_
  refine tl_pf hL 79 94 9 3 [1, 0, 0, 0] ((hh_i h 94 3) + 1) .int rfl rfl rfl rfl rfl tr_oki ?_
  have hL0 := hh_L_si (sl := 3) (x := ((hh_i h 94 3) + 1)) hL (show hh_t[94]? = some (.inr (9, [1, 0, 0, 0])) from rfl) rfl
  refine tr_s (.iload_n 1) 1 40 [some (.ref 1094), some (.int x1)] [.int x1, .int (hh_i h 94 3), .ref (c0 + 1000)] (hh_si h 94 9 3 ((hh_i h 94 3) + 1)) rfl rfl rfl ?_
  refine tr_s .i2b 1 41 [some (.ref 1094), some (.int x1)] [.int x1.toInt8.toInt32, .int (hh_i h 94 3), .ref (c0 + 1000)] (hh_si h 94 9 3 ((hh_i h 94 3) + 1)) rfl rfl rfl ?_
  refine tr_bas (c0 + 1000) j0 (hh_i h 94 3) x1.toInt8.toInt32 l0 rfl (by omega) (by rw [Nat.add_sub_cancel]; exact m0) e0 b0 z0 hb0 ?_
  refine tr_goto 33 75 rfl rfl rfl ?_
  refine tr_s (.aload_n 0) 1 76 [some (.ref 1094), some (.int x1)] [.ref 1094] (ev_wr (hh_si h 94 9 3 ((hh_i h 94 3) + 1)) (c0 + 1000) (.inl (2, l0.set j0 x1.toInt8.toInt32))) rfl rfl rfl ?_
  exact tl_ret hLe .areturn 1 (some (.ref 1094)) rfl rfl rfl rfl hr
theorem sg_J5_append_3fe6f_t_45 {g : tr_g} {d : Nat} {h : ev_AH} {r : ev_O × ev_AH} {x1 v0 : Int32} {h1 : ev_AH} (hL : hh_L h) (c_0 : tr_L g d m_J5_isLatin1_aae02 0 [some (.ref 1094)] [] h (.inl (some (.int v0)), h1)) (t : v0 = 0 → tr_L g (d + 1) m_J5_append_3fe6f 56 [some (.ref 1094), some (.int x1)] [] h1 r) (f : v0 ≠ 0 → tr_L g (d + 1) m_J5_append_3fe6f 52 [some (.ref 1094), some (.int x1)] [] h1 r) : tr_L g (d + 1) m_J5_append_3fe6f 45 [some (.ref 1094), some (.int x1)] [] h r := by
  refine tr_s (.aload_n 0) 1 46 [some (.ref 1094), some (.int x1)] [.ref 1094] h rfl rfl rfl ?_
  refine tr_call (.invokevirtual 83) 83 0 0 9 m_J5_isLatin1_aae02 [.ref 1094] [] (some (.int v0)) h1 rfl rfl rfl rfl rfl rfl rfl rfl rfl (tr_cok rfl (Or.inr ⟨_, _, rfl, tr_rc (hh_rd (hh_obj hL (k := 94) rfl).1) (by decide)⟩)) c_0 ?_
  have hL0 := c_0.2
  exact tr_if1 .eq 7 56 v0 rfl rfl rfl (fun hc => t ((tr_eq hc).1 rfl)) (fun hc => f ((tr_eq hc).2 rfl))
theorem sg_J4_append_cf468_t_0 {g : tr_g} {d : Nat} {h : ev_AH} {r : ev_O × ev_AH} {x1 : Int32} {h1 : ev_AH} (hL : hh_L h) (c_0 : tr_L g d m_J5_append_3fe6f 0 [some (.ref 1094), some (.int x1)] [] h (.inl (some (.ref 1094)), h1)) (hr : r = (.inl (some (.ref 1094)), h1)) : tr_L g (d + 1) m_J4_append_cf468 0 [some (.ref 1094), some (.int x1)] [] h r := by
  refine tr_s (.aload_n 0) 1 1 [some (.ref 1094), some (.int x1)] [.ref 1094] h rfl rfl rfl ?_
  refine tr_s (.iload_n 1) 1 2 [some (.ref 1094), some (.int x1)] [.int x1, .ref 1094] h rfl rfl rfl ?_
  refine tr_call (.invokespecial 50) 50 7 1 9 m_J5_append_3fe6f [.ref 1094, .int x1] [] (some (.ref 1094)) h1 rfl rfl rfl rfl rfl rfl rfl rfl rfl (tr_cok rfl (Or.inr ⟨_, _, rfl, tr_rc (hh_rd (hh_obj hL (k := 94) rfl).1) (by decide)⟩)) c_0 ?_
  have hL0 := c_0.2
  refine tr_s .pop 1 6 [some (.ref 1094), some (.int x1)] [] h1 rfl rfl rfl ?_
  refine tr_s (.aload_n 0) 1 7 [some (.ref 1094), some (.int x1)] [.ref 1094] h1 rfl rfl rfl ?_
  exact tl_ret hL0 .areturn 1 (some (.ref 1094)) rfl rfl rfl rfl hr
theorem sg_J5_newCapacity_0f7a4_t_0 {g : tr_g} {d : Nat} {h : ev_AH} {r : ev_O × ev_AH} {x1 v0 : Int32} {c0 : Nat} {l0 : List Int32} {h1 : ev_AH} (hL : hh_L h) (p0 : (hh_v h 94)[0]? = some (.ref (c0 + 1000))) (m0 : h.1[c0]? = some (.inl (2, l0))) (z0 : l0.length < 2147483648) (c_0 : tr_L g d m_J8_newLength_cabcc 0 [some (.int (Int32.ofNat l0.length)), some (.int ((x1 <<< ((hh_i h 94 1) &&& 31)) - (Int32.ofNat l0.length))), some (.int ((Int32.ofNat l0.length) + (2 <<< ((hh_i h 94 1) &&& 31)))), none] [] h (.inl (some (.int v0)), h1)) (t : v0 ≠ 2147483647 → tr_L g (d + 1) m_J5_newCapacity_0f7a4 51 [some (.ref 1094), some (.int x1), some (.int (Int32.ofNat l0.length)), some (.int (x1 <<< ((hh_i h 94 1) &&& 31))), some (.int ((x1 <<< ((hh_i h 94 1) &&& 31)) - (Int32.ofNat l0.length))), some (.int v0)] [] h1 r) (f : v0 = 2147483647 → tr_L g (d + 1) m_J5_newCapacity_0f7a4 41 [some (.ref 1094), some (.int x1), some (.int (Int32.ofNat l0.length)), some (.int (x1 <<< ((hh_i h 94 1) &&& 31))), some (.int ((x1 <<< ((hh_i h 94 1) &&& 31)) - (Int32.ofNat l0.length))), some (.int v0)] [] h1 r) : tr_L g (d + 1) m_J5_newCapacity_0f7a4 0 [some (.ref 1094), some (.int x1), none, none, none, none] [] h r := by
  refine tr_s (.aload_n 0) 1 1 [some (.ref 1094), some (.int x1), none, none, none, none] [.ref 1094] h rfl rfl rfl ?_
  refine tr_gf 15 1094 9 0 _ _ rfl rfl (hh_rd (hh_obj hL (k := 94) rfl).1) p0 ?_
  refine tr_alen _ 2 l0 rfl (hh_rd m0) (by decide) ?_
  refine tr_st (.istore_n 2) 1 2 0 (.int (Int32.ofNat l0.length)) rfl rfl rfl rfl rfl rfl rfl ?_
  refine tr_s (.iload_n 1) 1 7 [some (.ref 1094), some (.int x1), some (.int (Int32.ofNat l0.length)), none, none, none] [.int x1] h rfl rfl rfl ?_
  refine tr_s (.aload_n 0) 1 8 [some (.ref 1094), some (.int x1), some (.int (Int32.ofNat l0.length)), none, none, none] [.ref 1094, .int x1] h rfl rfl rfl ?_
  refine tl_gi hL 22 94 9 1 [1, 0, 0, 0] rfl rfl rfl rfl ?_
  refine tr_s .ishl 1 12 [some (.ref 1094), some (.int x1), some (.int (Int32.ofNat l0.length)), none, none, none] [.int (x1 <<< ((hh_i h 94 1) &&& 31))] h rfl rfl rfl ?_
  refine tr_st (.istore_n 3) 1 3 0 (.int (x1 <<< ((hh_i h 94 1) &&& 31))) rfl rfl rfl rfl rfl rfl rfl ?_
  refine tr_s (.iload_n 3) 1 14 [some (.ref 1094), some (.int x1), some (.int (Int32.ofNat l0.length)), some (.int (x1 <<< ((hh_i h 94 1) &&& 31))), none, none] [.int (x1 <<< ((hh_i h 94 1) &&& 31))] h rfl rfl rfl ?_
  refine tr_s (.iload_n 2) 1 15 [some (.ref 1094), some (.int x1), some (.int (Int32.ofNat l0.length)), some (.int (x1 <<< ((hh_i h 94 1) &&& 31))), none, none] [.int (Int32.ofNat l0.length), .int (x1 <<< ((hh_i h 94 1) &&& 31))] h rfl rfl rfl ?_
  refine tr_s .isub 1 16 [some (.ref 1094), some (.int x1), some (.int (Int32.ofNat l0.length)), some (.int (x1 <<< ((hh_i h 94 1) &&& 31))), none, none] [.int ((x1 <<< ((hh_i h 94 1) &&& 31)) - (Int32.ofNat l0.length))] h rfl rfl rfl ?_
  refine tr_st (.istore 4) 2 4 0 (.int ((x1 <<< ((hh_i h 94 1) &&& 31)) - (Int32.ofNat l0.length))) rfl rfl rfl rfl rfl rfl rfl ?_
  refine tr_s (.iload_n 2) 1 19 [some (.ref 1094), some (.int x1), some (.int (Int32.ofNat l0.length)), some (.int (x1 <<< ((hh_i h 94 1) &&& 31))), some (.int ((x1 <<< ((hh_i h 94 1) &&& 31)) - (Int32.ofNat l0.length))), none] [.int (Int32.ofNat l0.length)] h rfl rfl rfl ?_
  refine tr_s (.iload 4) 2 21 [some (.ref 1094), some (.int x1), some (.int (Int32.ofNat l0.length)), some (.int (x1 <<< ((hh_i h 94 1) &&& 31))), some (.int ((x1 <<< ((hh_i h 94 1) &&& 31)) - (Int32.ofNat l0.length))), none] [.int ((x1 <<< ((hh_i h 94 1) &&& 31)) - (Int32.ofNat l0.length)), .int (Int32.ofNat l0.length)] h rfl rfl rfl ?_
  refine tr_s (.iload_n 2) 1 22 [some (.ref 1094), some (.int x1), some (.int (Int32.ofNat l0.length)), some (.int (x1 <<< ((hh_i h 94 1) &&& 31))), some (.int ((x1 <<< ((hh_i h 94 1) &&& 31)) - (Int32.ofNat l0.length))), none] [.int (Int32.ofNat l0.length), .int ((x1 <<< ((hh_i h 94 1) &&& 31)) - (Int32.ofNat l0.length)), .int (Int32.ofNat l0.length)] h rfl rfl rfl ?_
  refine tr_ic 2 2 (by decide) rfl ?_
  refine tr_s (.aload_n 0) 1 24 [some (.ref 1094), some (.int x1), some (.int (Int32.ofNat l0.length)), some (.int (x1 <<< ((hh_i h 94 1) &&& 31))), some (.int ((x1 <<< ((hh_i h 94 1) &&& 31)) - (Int32.ofNat l0.length))), none] [.ref 1094, .int 2, .int (Int32.ofNat l0.length), .int ((x1 <<< ((hh_i h 94 1) &&& 31)) - (Int32.ofNat l0.length)), .int (Int32.ofNat l0.length)] h rfl rfl rfl ?_
  refine tl_gi hL 22 94 9 1 [1, 0, 0, 0] rfl rfl rfl rfl ?_
  refine tr_s .ishl 1 28 [some (.ref 1094), some (.int x1), some (.int (Int32.ofNat l0.length)), some (.int (x1 <<< ((hh_i h 94 1) &&& 31))), some (.int ((x1 <<< ((hh_i h 94 1) &&& 31)) - (Int32.ofNat l0.length))), none] [.int (2 <<< ((hh_i h 94 1) &&& 31)), .int (Int32.ofNat l0.length), .int ((x1 <<< ((hh_i h 94 1) &&& 31)) - (Int32.ofNat l0.length)), .int (Int32.ofNat l0.length)] h rfl rfl rfl ?_
  refine tr_s .iadd 1 29 [some (.ref 1094), some (.int x1), some (.int (Int32.ofNat l0.length)), some (.int (x1 <<< ((hh_i h 94 1) &&& 31))), some (.int ((x1 <<< ((hh_i h 94 1) &&& 31)) - (Int32.ofNat l0.length))), none] [.int ((Int32.ofNat l0.length) + (2 <<< ((hh_i h 94 1) &&& 31))), .int ((x1 <<< ((hh_i h 94 1) &&& 31)) - (Int32.ofNat l0.length)), .int (Int32.ofNat l0.length)] h rfl rfl rfl ?_
  refine tr_call (.invokestatic 114) 114 2 3 0 m_J8_newLength_cabcc [.int (Int32.ofNat l0.length), .int ((x1 <<< ((hh_i h 94 1) &&& 31)) - (Int32.ofNat l0.length)), .int ((Int32.ofNat l0.length) + (2 <<< ((hh_i h 94 1) &&& 31)))] [] (some (.int v0)) h1 rfl rfl rfl rfl rfl rfl rfl rfl rfl (tr_cok rfl (Or.inl rfl)) c_0 ?_
  have hL0 := c_0.2
  refine tr_st (.istore 5) 2 5 0 (.int v0) rfl rfl rfl rfl rfl rfl rfl ?_
  refine tr_s (.iload 5) 2 36 [some (.ref 1094), some (.int x1), some (.int (Int32.ofNat l0.length)), some (.int (x1 <<< ((hh_i h 94 1) &&& 31))), some (.int ((x1 <<< ((hh_i h 94 1) &&& 31)) - (Int32.ofNat l0.length))), some (.int v0)] [.int v0] h1 rfl rfl rfl ?_
  refine tr_s (.ldc 39) 2 38 [some (.ref 1094), some (.int x1), some (.int (Int32.ofNat l0.length)), some (.int (x1 <<< ((hh_i h 94 1) &&& 31))), some (.int ((x1 <<< ((hh_i h 94 1) &&& 31)) - (Int32.ofNat l0.length))), some (.int v0)] [.int 2147483647, .int v0] h1 rfl rfl rfl ?_
  exact tr_if2 .ne 13 51 v0 2147483647 rfl rfl rfl (fun hc => t ((tr_ne hc).1 rfl)) (fun hc => f ((tr_ne hc).2 rfl))
theorem sg_J5_newCapacity_0f7a4_t_51 {g : tr_g} {d : Nat} {h : ev_AH} {r : ev_O × ev_AH} {w1 w2 w3 w4 : Option Value} {x5 : Int32} (hL : hh_L h) (hr : r = (.inl (some (.int (x5 >>> ((hh_i h 94 1) &&& 31)))), h)) : tr_L g d m_J5_newCapacity_0f7a4 51 [some (.ref 1094), w1, w2, w3, w4, some (.int x5)] [] h r := by
  refine tr_s (.iload 5) 2 53 [some (.ref 1094), w1, w2, w3, w4, some (.int x5)] [.int x5] h rfl rfl rfl ?_
  refine tr_s (.aload_n 0) 1 54 [some (.ref 1094), w1, w2, w3, w4, some (.int x5)] [.ref 1094, .int x5] h rfl rfl rfl ?_
  refine tl_gi hL 22 94 9 1 [1, 0, 0, 0] rfl rfl rfl rfl ?_
  refine tr_s .ishr 1 58 [some (.ref 1094), w1, w2, w3, w4, some (.int x5)] [.int (x5 >>> ((hh_i h 94 1) &&& 31))] h rfl rfl rfl ?_
  exact tl_ret hL .ireturn 1 (some (.int (x5 >>> ((hh_i h 94 1) &&& 31)))) rfl rfl rfl rfl hr
theorem sg_J5_isLatin1_aae02_o_0 {g : tr_g} {d : Nat} {h : ev_AH} {r : ev_O × ev_AH} (hL : hh_L h) (t : (1 : Int32) = 0 → tr_L g d m_J5_isLatin1_aae02 17 [some (.ref 1096)] [] h r) (f : (1 : Int32) ≠ 0 → tr_L g d m_J5_isLatin1_aae02 6 [some (.ref 1096)] [] h r) : tr_L g d m_J5_isLatin1_aae02 0 [some (.ref 1096)] [] h r := by
  refine tr_s (.getstatic 18) 3 3 [some (.ref 1096)] [.int 1] h rfl rfl rfl ?_
  exact tr_if1 .eq 14 17 1 rfl rfl rfl (fun hc => t ((tr_eq hc).1 rfl)) (fun hc => f ((tr_eq hc).2 rfl))
theorem sg_J5_isLatin1_aae02_o_6 {g : tr_g} {d : Nat} {h : ev_AH} {r : ev_O × ev_AH} (hL : hh_L h) (t : (hh_i h 96 1) ≠ 0 → tr_L g d m_J5_isLatin1_aae02 17 [some (.ref 1096)] [] h r) (f : (hh_i h 96 1) = 0 → tr_L g d m_J5_isLatin1_aae02 13 [some (.ref 1096)] [] h r) : tr_L g d m_J5_isLatin1_aae02 6 [some (.ref 1096)] [] h r := by
  refine tr_s (.aload_n 0) 1 7 [some (.ref 1096)] [.ref 1096] h rfl rfl rfl ?_
  refine tl_gi hL 22 96 9 1 [1, 0, 0, 0] rfl rfl rfl rfl ?_
  exact tr_if1 .ne 7 17 (hh_i h 96 1) rfl rfl rfl (fun hc => t ((tr_ne hc).1 rfl)) (fun hc => f ((tr_ne hc).2 rfl))
theorem sg_J5_isLatin1_aae02_o_13 {g : tr_g} {d : Nat} {h : ev_AH} {r : ev_O × ev_AH} {w0 : Option Value} (hL : hh_L h) (hr : r = (.inl (some (.int 1)), h)) : tr_L g d m_J5_isLatin1_aae02 13 [w0] [] h r := by
  refine tr_ic 1 1 (by decide) rfl ?_
  refine tr_goto 4 18 rfl rfl rfl ?_
  exact tl_ret hL .ireturn 1 (some (.int 1)) rfl rfl rfl rfl hr
theorem sg_J5_isLatin1_aae02_o_17 {g : tr_g} {d : Nat} {h : ev_AH} {r : ev_O × ev_AH} {w0 : Option Value} (hL : hh_L h) (hr : r = (.inl (some (.int 0)), h)) : tr_L g d m_J5_isLatin1_aae02 17 [w0] [] h r := by
  refine tr_ic 0 0 (by decide) rfl ?_
  exact tl_ret hL .ireturn 1 (some (.int 0)) rfl rfl rfl rfl hr
theorem sg_J5_length_8abf5_o_0 {g : tr_g} {d : Nat} {h : ev_AH} {r : ev_O × ev_AH} (hL : hh_L h) (hr : r = (.inl (some (.int (hh_i h 96 3))), h)) : tr_L g d m_J5_length_8abf5 0 [some (.ref 1096)] [] h r := by
  refine tr_s (.aload_n 0) 1 1 [some (.ref 1096)] [.ref 1096] h rfl rfl rfl ?_
  refine tl_gi hL 79 96 9 3 [1, 0, 0, 0] rfl rfl rfl rfl ?_
  exact tl_ret hL .ireturn 1 (some (.int (hh_i h 96 3))) rfl rfl rfl rfl hr
theorem sg_J4_length_8abf5_o_0 {g : tr_g} {d : Nat} {h : ev_AH} {r : ev_O × ev_AH} {h1 : ev_AH} {v0 : Int32} (hL : hh_L h) (c_0 : tr_L g d m_J5_length_8abf5 0 [some (.ref 1096)] [] h (.inl (some (.int v0)), h1)) (hr : r = (.inl (some (.int v0)), h1)) : tr_L g (d + 1) m_J4_length_8abf5 0 [some (.ref 1096)] [] h r := by
  refine tr_s (.aload_n 0) 1 1 [some (.ref 1096)] [.ref 1096] h rfl rfl rfl ?_
  refine tr_call (.invokespecial 343) 343 7 0 9 m_J5_length_8abf5 [.ref 1096] [] (some (.int v0)) h1 rfl rfl rfl rfl rfl rfl rfl rfl rfl (tr_cok rfl (Or.inr ⟨_, _, rfl, tr_rc (hh_rd (hh_obj hL (k := 96) rfl).1) (by decide)⟩)) c_0 ?_
  have hL0 := c_0.2
  exact tl_ret hL0 .ireturn 1 (some (.int v0)) rfl rfl rfl rfl hr
theorem sg_J5_charAt_5068e_o_0 {g : tr_g} {d : Nat} {h : ev_AH} {r : ev_O × ev_AH} {x1 : Int32} {c0 : Nat} {l0 : List Int32} {h1 : ev_AH} (hL : hh_L h) (p0 : (hh_v h 96)[0]? = some (.ref (c0 + 1000))) (m0 : h.1[c0]? = some (.inl (2, l0))) (z0 : l0.length < 2147483648) (c_0 : tr_L g d m_J0_checkIndex_df160 0 [some (.int x1), some (.int (if ((Int32.ofNat l0.length) >>> ((hh_i h 96 1) &&& 31)) < (hh_i h 96 3) then ((Int32.ofNat l0.length) >>> ((hh_i h 96 1) &&& 31)) else (hh_i h 96 3)))] [] h (.inl none, h1)) (t : (hh_i h 96 1) ≠ 0 → tr_L g (d + 1) m_J5_charAt_5068e 42 [some (.ref 1096), some (.int x1), some (.int (hh_i h 96 1)), some (.ref (c0 + 1000)), some (.int (if ((Int32.ofNat l0.length) >>> ((hh_i h 96 1) &&& 31)) < (hh_i h 96 3) then ((Int32.ofNat l0.length) >>> ((hh_i h 96 1) &&& 31)) else (hh_i h 96 3)))] [] h1 r) (f : (hh_i h 96 1) = 0 → tr_L g (d + 1) m_J5_charAt_5068e 33 [some (.ref 1096), some (.int x1), some (.int (hh_i h 96 1)), some (.ref (c0 + 1000)), some (.int (if ((Int32.ofNat l0.length) >>> ((hh_i h 96 1) &&& 31)) < (hh_i h 96 3) then ((Int32.ofNat l0.length) >>> ((hh_i h 96 1) &&& 31)) else (hh_i h 96 3)))] [] h1 r) : tr_L g (d + 1) m_J5_charAt_5068e 0 [some (.ref 1096), some (.int x1), none, none, none] [] h r := by
  refine tr_s (.aload_n 0) 1 1 [some (.ref 1096), some (.int x1), none, none, none] [.ref 1096] h rfl rfl rfl ?_
  refine tl_gi hL 22 96 9 1 [1, 0, 0, 0] rfl rfl rfl rfl ?_
  refine tr_st (.istore_n 2) 1 2 0 (.int (hh_i h 96 1)) rfl rfl rfl rfl rfl rfl rfl ?_
  refine tr_s (.aload_n 0) 1 6 [some (.ref 1096), some (.int x1), some (.int (hh_i h 96 1)), none, none] [.ref 1096] h rfl rfl rfl ?_
  refine tr_gf 15 1096 9 0 _ _ rfl rfl (hh_rd (hh_obj hL (k := 96) rfl).1) p0 ?_
  refine tr_st (.astore_n 3) 1 3 1 (.ref (c0 + 1000)) rfl rfl rfl rfl rfl rfl rfl ?_
  refine tr_s (.aload_n 0) 1 11 [some (.ref 1096), some (.int x1), some (.int (hh_i h 96 1)), some (.ref (c0 + 1000)), none] [.ref 1096] h rfl rfl rfl ?_
  refine tl_gi hL 79 96 9 3 [1, 0, 0, 0] rfl rfl rfl rfl ?_
  refine tr_s (.aload_n 3) 1 15 [some (.ref 1096), some (.int x1), some (.int (hh_i h 96 1)), some (.ref (c0 + 1000)), none] [.ref (c0 + 1000), .int (hh_i h 96 3)] h rfl rfl rfl ?_
  refine tr_alen _ 2 l0 rfl (hh_rd m0) (by decide) ?_
  refine tr_s (.iload_n 2) 1 17 [some (.ref 1096), some (.int x1), some (.int (hh_i h 96 1)), some (.ref (c0 + 1000)), none] [.int (hh_i h 96 1), .int (Int32.ofNat l0.length), .int (hh_i h 96 3)] h rfl rfl rfl ?_
  refine tr_s .ishr 1 18 [some (.ref 1096), some (.int x1), some (.int (hh_i h 96 1)), some (.ref (c0 + 1000)), none] [.int ((Int32.ofNat l0.length) >>> ((hh_i h 96 1) &&& 31)), .int (hh_i h 96 3)] h rfl rfl rfl ?_
  refine tr_na (.invokestatic 138) 138 11 2 0 ev_dum [.int (if ((Int32.ofNat l0.length) >>> ((hh_i h 96 1) &&& 31)) < (hh_i h 96 3) then ((Int32.ofNat l0.length) >>> ((hh_i h 96 1) &&& 31)) else (hh_i h 96 3))] h rfl rfl rfl rfl rfl rfl rfl ?_
  refine tr_st (.istore 4) 2 4 0 (.int (if ((Int32.ofNat l0.length) >>> ((hh_i h 96 1) &&& 31)) < (hh_i h 96 3) then ((Int32.ofNat l0.length) >>> ((hh_i h 96 1) &&& 31)) else (hh_i h 96 3))) rfl rfl rfl rfl rfl rfl rfl ?_
  refine tr_s (.iload_n 1) 1 24 [some (.ref 1096), some (.int x1), some (.int (hh_i h 96 1)), some (.ref (c0 + 1000)), some (.int (if ((Int32.ofNat l0.length) >>> ((hh_i h 96 1) &&& 31)) < (hh_i h 96 3) then ((Int32.ofNat l0.length) >>> ((hh_i h 96 1) &&& 31)) else (hh_i h 96 3)))] [.int x1] h rfl rfl rfl ?_
  refine tr_s (.iload 4) 2 26 [some (.ref 1096), some (.int x1), some (.int (hh_i h 96 1)), some (.ref (c0 + 1000)), some (.int (if ((Int32.ofNat l0.length) >>> ((hh_i h 96 1) &&& 31)) < (hh_i h 96 3) then ((Int32.ofNat l0.length) >>> ((hh_i h 96 1) &&& 31)) else (hh_i h 96 3)))] [.int (if ((Int32.ofNat l0.length) >>> ((hh_i h 96 1) &&& 31)) < (hh_i h 96 3) then ((Int32.ofNat l0.length) >>> ((hh_i h 96 1) &&& 31)) else (hh_i h 96 3)), .int x1] h rfl rfl rfl ?_
  refine tr_call (.invokestatic 144) 144 2 2 0 m_J0_checkIndex_df160 [.int x1, .int (if ((Int32.ofNat l0.length) >>> ((hh_i h 96 1) &&& 31)) < (hh_i h 96 3) then ((Int32.ofNat l0.length) >>> ((hh_i h 96 1) &&& 31)) else (hh_i h 96 3))] [] none h1 rfl rfl rfl rfl rfl rfl rfl rfl rfl (tr_cok rfl (Or.inl rfl)) c_0 ?_
  have hL0 := c_0.2
  refine tr_s (.iload_n 2) 1 30 [some (.ref 1096), some (.int x1), some (.int (hh_i h 96 1)), some (.ref (c0 + 1000)), some (.int (if ((Int32.ofNat l0.length) >>> ((hh_i h 96 1) &&& 31)) < (hh_i h 96 3) then ((Int32.ofNat l0.length) >>> ((hh_i h 96 1) &&& 31)) else (hh_i h 96 3)))] [.int (hh_i h 96 1)] h1 rfl rfl rfl ?_
  exact tr_if1 .ne 12 42 (hh_i h 96 1) rfl rfl rfl (fun hc => t ((tr_ne hc).1 rfl)) (fun hc => f ((tr_ne hc).2 rfl))
theorem sg_J5_charAt_5068e_o_33 {g : tr_g} {d : Nat} {h : ev_AH} {r : ev_O × ev_AH} {w0 w2 w4 : Option Value} {x1 : Int32} {a3 j0 : Nat} {l0 : List Int32} (hL : hh_L h) (e0 : x1 = Int32.ofNat j0) (m0 : h.1[a3]? = some (.inl (2, l0))) (z0 : l0.length < 2147483648) (b0 : j0 < l0.length) (hc0 : tr_ch ((((l0.getD j0 0) &&& 255).toUInt32 % 65536).toInt32)) (hr : r = (.inl (some (.int ((((l0.getD j0 0) &&& 255).toUInt32 % 65536).toInt32))), h)) : tr_L g d m_J5_charAt_5068e 33 [w0, some (.int x1), w2, some (.ref (a3 + 1000)), w4] [] h r := by
  refine tr_s (.aload_n 3) 1 34 [w0, some (.int x1), w2, some (.ref (a3 + 1000)), w4] [.ref (a3 + 1000)] h rfl rfl rfl ?_
  refine tr_s (.iload_n 1) 1 35 [w0, some (.int x1), w2, some (.ref (a3 + 1000)), w4] [.int x1, .ref (a3 + 1000)] h rfl rfl rfl ?_
  refine tr_ald .baload 2 _ j0 x1 l0 (Or.inr (Or.inr ⟨rfl, rfl⟩)) rfl (hh_rd m0) e0 b0 z0 ?_
  refine tr_si 255 255 (by decide) rfl ?_
  refine tr_s .iand 1 40 [w0, some (.int x1), w2, some (.ref (a3 + 1000)), w4] [.int ((l0.getD j0 0) &&& 255)] h rfl rfl rfl ?_
  refine tr_s .i2c 1 41 [w0, some (.int x1), w2, some (.ref (a3 + 1000)), w4] [.int ((((l0.getD j0 0) &&& 255).toUInt32 % 65536).toInt32)] h rfl rfl rfl ?_
  exact tl_ret hL .ireturn 1 (some (.int ((((l0.getD j0 0) &&& 255).toUInt32 % 65536).toInt32))) rfl rfl rfl (tr_ec rfl hc0) hr
theorem sg_J4_charAt_5068e_o_0 {g : tr_g} {d : Nat} {h : ev_AH} {r : ev_O × ev_AH} {x1 v0 : Int32} {h1 : ev_AH} (hL : hh_L h) (c_0 : tr_L g d m_J5_charAt_5068e 0 [some (.ref 1096), some (.int x1), none, none, none] [] h (.inl (some (.int v0)), h1)) (hc0 : tr_ch v0) (hr : r = (.inl (some (.int v0)), h1)) : tr_L g (d + 1) m_J4_charAt_5068e 0 [some (.ref 1096), some (.int x1)] [] h r := by
  refine tr_s (.aload_n 0) 1 1 [some (.ref 1096), some (.int x1)] [.ref 1096] h rfl rfl rfl ?_
  refine tr_s (.iload_n 1) 1 2 [some (.ref 1096), some (.int x1)] [.int x1, .ref 1096] h rfl rfl rfl ?_
  refine tr_call (.invokespecial 329) 329 7 1 9 m_J5_charAt_5068e [.ref 1096, .int x1] [] (some (.int v0)) h1 rfl rfl rfl rfl rfl rfl rfl rfl rfl (tr_cok rfl (Or.inr ⟨_, _, rfl, tr_rc (hh_rd (hh_obj hL (k := 96) rfl).1) (by decide)⟩)) c_0 ?_
  have hL0 := c_0.2
  exact tl_ret hL0 .ireturn 1 (some (.int v0)) rfl rfl rfl (tr_ec rfl hc0) hr
theorem sg_J5_ensureCapacityInternal_d00df_o_0 {g : tr_g} {d : Nat} {h : ev_AH} {r : ev_O × ev_AH} {x1 : Int32} {c0 : Nat} {l0 : List Int32} (hL : hh_L h) (p0 : (hh_v h 96)[0]? = some (.ref (c0 + 1000))) (m0 : h.1[c0]? = some (.inl (2, l0))) (z0 : l0.length < 2147483648) (t : (x1 - ((Int32.ofNat l0.length) >>> ((hh_i h 96 1) &&& 31))) ≤ 0 → tr_L g d m_J5_ensureCapacityInternal_d00df 38 [some (.ref 1096), some (.int x1), some (.int ((Int32.ofNat l0.length) >>> ((hh_i h 96 1) &&& 31)))] [] h r) (f : 0 < (x1 - ((Int32.ofNat l0.length) >>> ((hh_i h 96 1) &&& 31))) → tr_L g d m_J5_ensureCapacityInternal_d00df 17 [some (.ref 1096), some (.int x1), some (.int ((Int32.ofNat l0.length) >>> ((hh_i h 96 1) &&& 31)))] [] h r) : tr_L g d m_J5_ensureCapacityInternal_d00df 0 [some (.ref 1096), some (.int x1), none] [] h r := by
  refine tr_s (.aload_n 0) 1 1 [some (.ref 1096), some (.int x1), none] [.ref 1096] h rfl rfl rfl ?_
  refine tr_gf 15 1096 9 0 _ _ rfl rfl (hh_rd (hh_obj hL (k := 96) rfl).1) p0 ?_
  refine tr_alen _ 2 l0 rfl (hh_rd m0) (by decide) ?_
  refine tr_s (.aload_n 0) 1 6 [some (.ref 1096), some (.int x1), none] [.ref 1096, .int (Int32.ofNat l0.length)] h rfl rfl rfl ?_
  refine tl_gi hL 22 96 9 1 [1, 0, 0, 0] rfl rfl rfl rfl ?_
  refine tr_s .ishr 1 10 [some (.ref 1096), some (.int x1), none] [.int ((Int32.ofNat l0.length) >>> ((hh_i h 96 1) &&& 31))] h rfl rfl rfl ?_
  refine tr_st (.istore_n 2) 1 2 0 (.int ((Int32.ofNat l0.length) >>> ((hh_i h 96 1) &&& 31))) rfl rfl rfl rfl rfl rfl rfl ?_
  refine tr_s (.iload_n 1) 1 12 [some (.ref 1096), some (.int x1), some (.int ((Int32.ofNat l0.length) >>> ((hh_i h 96 1) &&& 31)))] [.int x1] h rfl rfl rfl ?_
  refine tr_s (.iload_n 2) 1 13 [some (.ref 1096), some (.int x1), some (.int ((Int32.ofNat l0.length) >>> ((hh_i h 96 1) &&& 31)))] [.int ((Int32.ofNat l0.length) >>> ((hh_i h 96 1) &&& 31)), .int x1] h rfl rfl rfl ?_
  refine tr_s .isub 1 14 [some (.ref 1096), some (.int x1), some (.int ((Int32.ofNat l0.length) >>> ((hh_i h 96 1) &&& 31)))] [.int (x1 - ((Int32.ofNat l0.length) >>> ((hh_i h 96 1) &&& 31)))] h rfl rfl rfl ?_
  exact tr_if1 .le 24 38 (x1 - ((Int32.ofNat l0.length) >>> ((hh_i h 96 1) &&& 31))) rfl rfl rfl (fun hc => t ((tr_le hc).1 rfl)) (fun hc => f ((tr_le hc).2 rfl))
theorem sg_J5_ensureCapacityInternal_d00df_o_17 {g : tr_g} {d : Nat} {h : ev_AH} {r : ev_O × ev_AH} {x1 v0 : Int32} {w2 : Option Value} {c0 c1 : Nat} {h1 h2 : ev_AH} (hL : hh_L h) (p0 : (hh_v h 96)[0]? = some (.ref (c0 + 1000))) (c_0 : tr_L g d m_J5_newCapacity_0f7a4 0 [some (.ref 1096), some (.int x1), none, none, none, none] [] h (.inl (some (.int v0)), h1)) (c_1 : tr_L g d m_J7_copyOf_9075b 0 [some (.ref (c0 + 1000)), some (.int (v0 <<< ((hh_i h1 96 1) &&& 31))), none] [] h1 (.inl (some (.ref (c1 + 1000))), h2)) (hr : r = (.inl (none), ev_wr h2 1096 (.inr (9, (hh_v h2 96).set 0 (.ref (c1 + 1000)))))) : tr_L g (d + 1) m_J5_ensureCapacityInternal_d00df 17 [some (.ref 1096), some (.int x1), w2] [] h r := by
  refine tr_s (.aload_n 0) 1 18 [some (.ref 1096), some (.int x1), w2] [.ref 1096] h rfl rfl rfl ?_
  refine tr_s (.aload_n 0) 1 19 [some (.ref 1096), some (.int x1), w2] [.ref 1096, .ref 1096] h rfl rfl rfl ?_
  refine tr_gf 15 1096 9 0 _ _ rfl rfl (hh_rd (hh_obj hL (k := 96) rfl).1) p0 ?_
  refine tr_s (.aload_n 0) 1 23 [some (.ref 1096), some (.int x1), w2] [.ref 1096, .ref (c0 + 1000), .ref 1096] h rfl rfl rfl ?_
  refine tr_s (.iload_n 1) 1 24 [some (.ref 1096), some (.int x1), w2] [.int x1, .ref 1096, .ref (c0 + 1000), .ref 1096] h rfl rfl rfl ?_
  refine tr_call (.invokevirtual 104) 104 0 1 9 m_J5_newCapacity_0f7a4 [.ref 1096, .int x1] [.ref (c0 + 1000), .ref 1096] (some (.int v0)) h1 rfl rfl rfl rfl rfl rfl rfl rfl rfl (tr_cok rfl (Or.inr ⟨_, _, rfl, tr_rc (hh_rd (hh_obj hL (k := 96) rfl).1) (by decide)⟩)) c_0 ?_
  have hL0 := c_0.2
  refine tr_s (.aload_n 0) 1 28 [some (.ref 1096), some (.int x1), w2] [.ref 1096, .int v0, .ref (c0 + 1000), .ref 1096] h1 rfl rfl rfl ?_
  refine tl_gi hL0 22 96 9 1 [1, 0, 0, 0] rfl rfl rfl rfl ?_
  refine tr_s .ishl 1 32 [some (.ref 1096), some (.int x1), w2] [.int (v0 <<< ((hh_i h1 96 1) &&& 31)), .ref (c0 + 1000), .ref 1096] h1 rfl rfl rfl ?_
  refine tr_call (.invokestatic 108) 108 2 2 0 m_J7_copyOf_9075b [.ref (c0 + 1000), .int (v0 <<< ((hh_i h1 96 1) &&& 31))] [.ref 1096] (some (.ref (c1 + 1000))) h2 rfl rfl rfl rfl rfl rfl rfl rfl rfl (tr_cok rfl (Or.inl rfl)) c_1 ?_
  have hL1 := c_1.2
  refine tr_pf 15 1096 9 0 _ (.ref (c1 + 1000)) _ rfl rfl (by decide) (hh_obj hL1 (k := 96) rfl).1 rfl (by rw [(hh_obj hL1 (k := 96) rfl).2]; decide) tr_okr ?_
  have hL2 : hh_L (ev_wr h2 1096 (.inr (9, (hh_v h2 96).set 0 (.ref (c1 + 1000))))) := hh_L_sv (sl := 0) (v := .ref (c1 + 1000)) hL1 (show hh_t[96]? = some (.inr (9, [1, 0, 0, 0])) from rfl) rfl trivial
  exact tl_ret hL2 .return_ 1 none rfl rfl rfl rfl hr
theorem sg_J5_ensureCapacityInternal_d00df_o_38 {g : tr_g} {d : Nat} {h : ev_AH} {r : ev_O × ev_AH} {w0 w1 w2 : Option Value} (hL : hh_L h) (hr : r = (.inl (none), h)) : tr_L g d m_J5_ensureCapacityInternal_d00df 38 [w0, w1, w2] [] h r := by
  exact tl_ret hL .return_ 1 none rfl rfl rfl rfl hr
theorem sg_J5_setLength_d00df_o_0 {g : tr_g} {d : Nat} {h : ev_AH} {r : ev_O × ev_AH} {x1 : Int32} (hL : hh_L h) (t : 0 ≤ x1 → tr_L g d m_J5_setLength_d00df 13 [some (.ref 1096), some (.int x1)] [] h r) (f : x1 < 0 → tr_L g d m_J5_setLength_d00df 4 [some (.ref 1096), some (.int x1)] [] h r) : tr_L g d m_J5_setLength_d00df 0 [some (.ref 1096), some (.int x1)] [] h r := by
  refine tr_s (.iload_n 1) 1 1 [some (.ref 1096), some (.int x1)] [.int x1] h rfl rfl rfl ?_
  exact tr_if1 .ge 12 13 x1 rfl rfl rfl (fun hc => t ((tr_ge hc).1 rfl)) (fun hc => f ((tr_ge hc).2 rfl))
theorem sg_J5_setLength_d00df_o_13 {g : tr_g} {d : Nat} {h : ev_AH} {r : ev_O × ev_AH} {x1 : Int32} {h1 : ev_AH} (hL : hh_L h) (c_0 : tr_L g d m_J5_ensureCapacityInternal_d00df 0 [some (.ref 1096), some (.int x1), none] [] h (.inl none, h1)) (t : x1 ≤ (hh_i h1 96 3) → tr_L g (d + 1) m_J5_setLength_d00df 63 [some (.ref 1096), some (.int x1)] [] h1 r) (f : (hh_i h1 96 3) < x1 → tr_L g (d + 1) m_J5_setLength_d00df 26 [some (.ref 1096), some (.int x1)] [] h1 r) : tr_L g (d + 1) m_J5_setLength_d00df 13 [some (.ref 1096), some (.int x1)] [] h r := by
  refine tr_s (.aload_n 0) 1 14 [some (.ref 1096), some (.int x1)] [.ref 1096] h rfl rfl rfl ?_
  refine tr_s (.iload_n 1) 1 15 [some (.ref 1096), some (.int x1)] [.int x1, .ref 1096] h rfl rfl rfl ?_
  refine tr_call (.invokevirtual 100) 100 0 1 9 m_J5_ensureCapacityInternal_d00df [.ref 1096, .int x1] [] none h1 rfl rfl rfl rfl rfl rfl rfl rfl rfl (tr_cok rfl (Or.inr ⟨_, _, rfl, tr_rc (hh_rd (hh_obj hL (k := 96) rfl).1) (by decide)⟩)) c_0 ?_
  have hL0 := c_0.2
  refine tr_s (.aload_n 0) 1 19 [some (.ref 1096), some (.int x1)] [.ref 1096] h1 rfl rfl rfl ?_
  refine tl_gi hL0 79 96 9 3 [1, 0, 0, 0] rfl rfl rfl rfl ?_
  refine tr_s (.iload_n 1) 1 23 [some (.ref 1096), some (.int x1)] [.int x1, .int (hh_i h1 96 3)] h1 rfl rfl rfl ?_
  exact tr_if2 .ge 40 63 (hh_i h1 96 3) x1 rfl rfl rfl (fun hc => t ((tr_ge hc).1 rfl)) (fun hc => f ((tr_ge hc).2 rfl))
theorem sg_J5_setLength_d00df_o_26 {g : tr_g} {d : Nat} {h : ev_AH} {r : ev_O × ev_AH} {x1 v0 : Int32} {h1 : ev_AH} (hL : hh_L h) (c_0 : tr_L g d m_J5_isLatin1_aae02 0 [some (.ref 1096)] [] h (.inl (some (.int v0)), h1)) (t : v0 = 0 → tr_L g (d + 1) m_J5_setLength_d00df 48 [some (.ref 1096), some (.int x1)] [] h1 r) (f : v0 ≠ 0 → tr_L g (d + 1) m_J5_setLength_d00df 33 [some (.ref 1096), some (.int x1)] [] h1 r) : tr_L g (d + 1) m_J5_setLength_d00df 26 [some (.ref 1096), some (.int x1)] [] h r := by
  refine tr_s (.aload_n 0) 1 27 [some (.ref 1096), some (.int x1)] [.ref 1096] h rfl rfl rfl ?_
  refine tr_call (.invokevirtual 83) 83 0 0 9 m_J5_isLatin1_aae02 [.ref 1096] [] (some (.int v0)) h1 rfl rfl rfl rfl rfl rfl rfl rfl rfl (tr_cok rfl (Or.inr ⟨_, _, rfl, tr_rc (hh_rd (hh_obj hL (k := 96) rfl).1) (by decide)⟩)) c_0 ?_
  have hL0 := c_0.2
  exact tr_if1 .eq 18 48 v0 rfl rfl rfl (fun hc => t ((tr_eq hc).1 rfl)) (fun hc => f ((tr_eq hc).2 rfl))
theorem sg_J5_setLength_d00df_o_33 {g : tr_g} {d : Nat} {h : ev_AH} {r : ev_O × ev_AH} {x1 : Int32} {c0 : Nat} {h1 : ev_AH} (hL : hh_L h) (p0 : (hh_v h 96)[0]? = some (.ref (c0 + 1000))) (c_0 : tr_L g d m_J1_fillNull_b72d1 0 [some (.ref (c0 + 1000)), some (.int (hh_i h 96 3)), some (.int x1)] [] h (.inl none, h1)) (k : tr_L g (d + 1) m_J5_setLength_d00df 76 [some (.ref 1096), some (.int x1)] [] h1 r) : tr_L g (d + 1) m_J5_setLength_d00df 33 [some (.ref 1096), some (.int x1)] [] h r := by
  refine tr_s (.aload_n 0) 1 34 [some (.ref 1096), some (.int x1)] [.ref 1096] h rfl rfl rfl ?_
  refine tr_gf 15 1096 9 0 _ _ rfl rfl (hh_rd (hh_obj hL (k := 96) rfl).1) p0 ?_
  refine tr_s (.aload_n 0) 1 38 [some (.ref 1096), some (.int x1)] [.ref 1096, .ref (c0 + 1000)] h rfl rfl rfl ?_
  refine tl_gi hL 79 96 9 3 [1, 0, 0, 0] rfl rfl rfl rfl ?_
  refine tr_s (.iload_n 1) 1 42 [some (.ref 1096), some (.int x1)] [.int x1, .int (hh_i h 96 3), .ref (c0 + 1000)] h rfl rfl rfl ?_
  refine tr_call (.invokestatic 133) 133 2 3 0 m_J1_fillNull_b72d1 [.ref (c0 + 1000), .int (hh_i h 96 3), .int x1] [] none h1 rfl rfl rfl rfl rfl rfl rfl rfl rfl (tr_cok rfl (Or.inl rfl)) c_0 ?_
  have hL0 := c_0.2
  refine tr_goto 31 76 rfl rfl rfl ?_
  exact k
theorem sg_J5_setLength_d00df_o_63 {g : tr_g} {d : Nat} {h : ev_AH} {r : ev_O × ev_AH} {x1 : Int32} (hL : hh_L h) (t : (hh_i h 96 3) ≤ x1 → tr_L g d m_J5_setLength_d00df 76 [some (.ref 1096), some (.int x1)] [] h r) (f : x1 < (hh_i h 96 3) → tr_L g d m_J5_setLength_d00df 71 [some (.ref 1096), some (.int x1)] [] h r) : tr_L g d m_J5_setLength_d00df 63 [some (.ref 1096), some (.int x1)] [] h r := by
  refine tr_s (.aload_n 0) 1 64 [some (.ref 1096), some (.int x1)] [.ref 1096] h rfl rfl rfl ?_
  refine tl_gi hL 79 96 9 3 [1, 0, 0, 0] rfl rfl rfl rfl ?_
  refine tr_s (.iload_n 1) 1 68 [some (.ref 1096), some (.int x1)] [.int x1, .int (hh_i h 96 3)] h rfl rfl rfl ?_
  exact tr_if2 .le 8 76 (hh_i h 96 3) x1 rfl rfl rfl (fun hc => t ((tr_le hc).1 rfl)) (fun hc => f ((tr_le hc).2 rfl))
theorem sg_J5_setLength_d00df_o_71 {g : tr_g} {d : Nat} {h : ev_AH} {r : ev_O × ev_AH} {x1 : Int32} (hL : hh_L h) (k : tr_L g d m_J5_setLength_d00df 76 [some (.ref 1096), some (.int x1)] [] (hh_si h 96 9 2 1) r) : tr_L g d m_J5_setLength_d00df 71 [some (.ref 1096), some (.int x1)] [] h r := by
  refine tr_s (.aload_n 0) 1 72 [some (.ref 1096), some (.int x1)] [.ref 1096] h rfl rfl rfl ?_
  refine tr_ic 1 1 (by decide) rfl ?_
  refine tl_pf hL 73 96 9 2 [1, 0, 0, 0] 1 .boolean rfl rfl rfl rfl rfl (by decide) ?_
  have hL0 := hh_L_si (sl := 2) (x := 1) hL (show hh_t[96]? = some (.inr (9, [1, 0, 0, 0])) from rfl) rfl
  exact k
theorem sg_J5_setLength_d00df_o_76 {g : tr_g} {d : Nat} {h : ev_AH} {r : ev_O × ev_AH} {x1 : Int32} (hL : hh_L h) (hr : r = (.inl (none), hh_si h 96 9 3 x1)) : tr_L g d m_J5_setLength_d00df 76 [some (.ref 1096), some (.int x1)] [] h r := by
  refine tr_s (.aload_n 0) 1 77 [some (.ref 1096), some (.int x1)] [.ref 1096] h rfl rfl rfl ?_
  refine tr_s (.iload_n 1) 1 78 [some (.ref 1096), some (.int x1)] [.int x1, .ref 1096] h rfl rfl rfl ?_
  refine tl_pf hL 79 96 9 3 [1, 0, 0, 0] x1 .int rfl rfl rfl rfl rfl tr_oki ?_
  have hL0 := hh_L_si (sl := 3) (x := x1) hL (show hh_t[96]? = some (.inr (9, [1, 0, 0, 0])) from rfl) rfl
  exact tl_ret hL0 .return_ 1 none rfl rfl rfl rfl hr
theorem sg_J4_setLength_d00df_o_0 {g : tr_g} {d : Nat} {h : ev_AH} {r : ev_O × ev_AH} {x1 : Int32} {h1 : ev_AH} (hL : hh_L h) (c_0 : tr_L g d m_J5_setLength_d00df 0 [some (.ref 1096), some (.int x1)] [] h (.inl none, h1)) (hr : r = (.inl (none), h1)) : tr_L g (d + 1) m_J4_setLength_d00df 0 [some (.ref 1096), some (.int x1)] [] h r := by
  refine tr_s (.aload_n 0) 1 1 [some (.ref 1096), some (.int x1)] [.ref 1096] h rfl rfl rfl ?_
  refine tr_s (.iload_n 1) 1 2 [some (.ref 1096), some (.int x1)] [.int x1, .ref 1096] h rfl rfl rfl ?_
  refine tr_call (.invokespecial 333) 333 7 1 9 m_J5_setLength_d00df [.ref 1096, .int x1] [] none h1 rfl rfl rfl rfl rfl rfl rfl rfl rfl (tr_cok rfl (Or.inr ⟨_, _, rfl, tr_rc (hh_rd (hh_obj hL (k := 96) rfl).1) (by decide)⟩)) c_0 ?_
  have hL0 := c_0.2
  exact tl_ret hL0 .return_ 1 none rfl rfl rfl rfl hr
theorem sg_J5_append_3fe6f_o_0 {g : tr_g} {d : Nat} {h : ev_AH} {r : ev_O × ev_AH} {x1 v0 : Int32} {h1 h2 : ev_AH} (hL : hh_L h) (c_0 : tr_L g d m_J5_ensureCapacityInternal_d00df 0 [some (.ref 1096), some (.int ((hh_i h 96 3) + 1)), none] [] h (.inl none, h1)) (c_1 : tr_L g d m_J5_isLatin1_aae02 0 [some (.ref 1096)] [] h1 (.inl (some (.int v0)), h2)) (t : v0 = 0 → tr_L g (d + 1) m_J5_append_3fe6f 45 [some (.ref 1096), some (.int x1)] [] h2 r) (f : v0 ≠ 0 → tr_L g (d + 1) m_J5_append_3fe6f 17 [some (.ref 1096), some (.int x1)] [] h2 r) : tr_L g (d + 1) m_J5_append_3fe6f 0 [some (.ref 1096), some (.int x1)] [] h r := by
  refine tr_s (.aload_n 0) 1 1 [some (.ref 1096), some (.int x1)] [.ref 1096] h rfl rfl rfl ?_
  refine tr_s (.aload_n 0) 1 2 [some (.ref 1096), some (.int x1)] [.ref 1096, .ref 1096] h rfl rfl rfl ?_
  refine tl_gi hL 79 96 9 3 [1, 0, 0, 0] rfl rfl rfl rfl ?_
  refine tr_ic 1 1 (by decide) rfl ?_
  refine tr_s .iadd 1 7 [some (.ref 1096), some (.int x1)] [.int ((hh_i h 96 3) + 1), .ref 1096] h rfl rfl rfl ?_
  refine tr_call (.invokevirtual 100) 100 0 1 9 m_J5_ensureCapacityInternal_d00df [.ref 1096, .int ((hh_i h 96 3) + 1)] [] none h1 rfl rfl rfl rfl rfl rfl rfl rfl rfl (tr_cok rfl (Or.inr ⟨_, _, rfl, tr_rc (hh_rd (hh_obj hL (k := 96) rfl).1) (by decide)⟩)) c_0 ?_
  have hL0 := c_0.2
  refine tr_s (.aload_n 0) 1 11 [some (.ref 1096), some (.int x1)] [.ref 1096] h1 rfl rfl rfl ?_
  refine tr_call (.invokevirtual 83) 83 0 0 9 m_J5_isLatin1_aae02 [.ref 1096] [] (some (.int v0)) h2 rfl rfl rfl rfl rfl rfl rfl rfl rfl (tr_cok rfl (Or.inr ⟨_, _, rfl, tr_rc (hh_rd (hh_obj hL0 (k := 96) rfl).1) (by decide)⟩)) c_1 ?_
  have hL1 := c_1.2
  exact tr_if1 .eq 31 45 v0 rfl rfl rfl (fun hc => t ((tr_eq hc).1 rfl)) (fun hc => f ((tr_eq hc).2 rfl))
theorem sg_J5_append_3fe6f_o_17 {g : tr_g} {d : Nat} {h : ev_AH} {r : ev_O × ev_AH} {x1 v0 : Int32} {h1 : ev_AH} (hL : hh_L h) (c_0 : tr_L g d m_J1_canEncode_fc78d 0 [some (.int x1)] [] h (.inl (some (.int v0)), h1)) (t : v0 = 0 → tr_L g (d + 1) m_J5_append_3fe6f 45 [some (.ref 1096), some (.int x1)] [] h1 r) (f : v0 ≠ 0 → tr_L g (d + 1) m_J5_append_3fe6f 24 [some (.ref 1096), some (.int x1)] [] h1 r) : tr_L g (d + 1) m_J5_append_3fe6f 17 [some (.ref 1096), some (.int x1)] [] h r := by
  refine tr_s (.iload_n 1) 1 18 [some (.ref 1096), some (.int x1)] [.int x1] h rfl rfl rfl ?_
  refine tr_call (.invokestatic 191) 191 2 1 0 m_J1_canEncode_fc78d [.int x1] [] (some (.int v0)) h1 rfl rfl rfl rfl rfl rfl rfl rfl rfl (tr_cok rfl (Or.inl rfl)) c_0 ?_
  have hL0 := c_0.2
  exact tr_if1 .eq 24 45 v0 rfl rfl rfl (fun hc => t ((tr_eq hc).1 rfl)) (fun hc => f ((tr_eq hc).2 rfl))
theorem sg_J5_append_3fe6f_o_24 {g : tr_g} {d : Nat} {h : ev_AH} {r : ev_O × ev_AH} {x1 : Int32} {c0 j0 : Nat} {l0 : List Int32} (hL : hh_L h) (p0 : (hh_v h 96)[0]? = some (.ref (c0 + 1000))) (e0 : hh_i h 96 3 = Int32.ofNat j0) (hb0 : vp_nar .byte x1.toInt8.toInt32 = x1.toInt8.toInt32) (m0 : (hh_si h 96 9 3 ((hh_i h 96 3) + 1)).1[c0]? = some (.inl (2, l0))) (z0 : l0.length < 2147483648) (b0 : j0 < l0.length) (hr : r = (.inl (some (.ref 1096)), ev_wr (hh_si h 96 9 3 ((hh_i h 96 3) + 1)) (c0 + 1000) (.inl (2, l0.set j0 x1.toInt8.toInt32)))) (hLe : hh_L (ev_wr (hh_si h 96 9 3 ((hh_i h 96 3) + 1)) (c0 + 1000) (.inl (2, l0.set j0 x1.toInt8.toInt32)))) : tr_L g d m_J5_append_3fe6f 24 [some (.ref 1096), some (.int x1)] [] h r := by
  refine tr_s (.aload_n 0) 1 25 [some (.ref 1096), some (.int x1)] [.ref 1096] h rfl rfl rfl ?_
  refine tr_gf 15 1096 9 0 _ _ rfl rfl (hh_rd (hh_obj hL (k := 96) rfl).1) p0 ?_
  refine tr_s (.aload_n 0) 1 29 [some (.ref 1096), some (.int x1)] [.ref 1096, .ref (c0 + 1000)] h rfl rfl rfl ?_
  refine tr_s .dup 1 30 [some (.ref 1096), some (.int x1)] [.ref 1096, .ref 1096, .ref (c0 + 1000)] h rfl rfl rfl ?_
  refine tl_gi hL 79 96 9 3 [1, 0, 0, 0] rfl rfl rfl rfl ?_
  refine tr_s .dup_x1 1 34 [some (.ref 1096), some (.int x1)] [.int (hh_i h 96 3), .ref 1096, .int (hh_i h 96 3), .ref (c0 + 1000)] h rfl rfl rfl ?_
  refine tr_ic 1 1 (by decide) rfl ?_
  refine tr_s .iadd 1 36 [some (.ref 1096), some (.int x1)] [.int ((hh_i h 96 3) + 1), .ref 1096, .int (hh_i h 96 3), .ref (c0 + 1000)] h rfl rfl rfl ?_
  refine tl_pf hL 79 96 9 3 [1, 0, 0, 0] ((hh_i h 96 3) + 1) .int rfl rfl rfl rfl rfl tr_oki ?_
  have hL0 := hh_L_si (sl := 3) (x := ((hh_i h 96 3) + 1)) hL (show hh_t[96]? = some (.inr (9, [1, 0, 0, 0])) from rfl) rfl
  refine tr_s (.iload_n 1) 1 40 [some (.ref 1096), some (.int x1)] [.int x1, .int (hh_i h 96 3), .ref (c0 + 1000)] (hh_si h 96 9 3 ((hh_i h 96 3) + 1)) rfl rfl rfl ?_
  refine tr_s .i2b 1 41 [some (.ref 1096), some (.int x1)] [.int x1.toInt8.toInt32, .int (hh_i h 96 3), .ref (c0 + 1000)] (hh_si h 96 9 3 ((hh_i h 96 3) + 1)) rfl rfl rfl ?_
  refine tr_bas (c0 + 1000) j0 (hh_i h 96 3) x1.toInt8.toInt32 l0 rfl (by omega) (by rw [Nat.add_sub_cancel]; exact m0) e0 b0 z0 hb0 ?_
  refine tr_goto 33 75 rfl rfl rfl ?_
  refine tr_s (.aload_n 0) 1 76 [some (.ref 1096), some (.int x1)] [.ref 1096] (ev_wr (hh_si h 96 9 3 ((hh_i h 96 3) + 1)) (c0 + 1000) (.inl (2, l0.set j0 x1.toInt8.toInt32))) rfl rfl rfl ?_
  exact tl_ret hLe .areturn 1 (some (.ref 1096)) rfl rfl rfl rfl hr
theorem sg_J5_append_3fe6f_o_45 {g : tr_g} {d : Nat} {h : ev_AH} {r : ev_O × ev_AH} {x1 v0 : Int32} {h1 : ev_AH} (hL : hh_L h) (c_0 : tr_L g d m_J5_isLatin1_aae02 0 [some (.ref 1096)] [] h (.inl (some (.int v0)), h1)) (t : v0 = 0 → tr_L g (d + 1) m_J5_append_3fe6f 56 [some (.ref 1096), some (.int x1)] [] h1 r) (f : v0 ≠ 0 → tr_L g (d + 1) m_J5_append_3fe6f 52 [some (.ref 1096), some (.int x1)] [] h1 r) : tr_L g (d + 1) m_J5_append_3fe6f 45 [some (.ref 1096), some (.int x1)] [] h r := by
  refine tr_s (.aload_n 0) 1 46 [some (.ref 1096), some (.int x1)] [.ref 1096] h rfl rfl rfl ?_
  refine tr_call (.invokevirtual 83) 83 0 0 9 m_J5_isLatin1_aae02 [.ref 1096] [] (some (.int v0)) h1 rfl rfl rfl rfl rfl rfl rfl rfl rfl (tr_cok rfl (Or.inr ⟨_, _, rfl, tr_rc (hh_rd (hh_obj hL (k := 96) rfl).1) (by decide)⟩)) c_0 ?_
  have hL0 := c_0.2
  exact tr_if1 .eq 7 56 v0 rfl rfl rfl (fun hc => t ((tr_eq hc).1 rfl)) (fun hc => f ((tr_eq hc).2 rfl))
theorem sg_J4_append_cf468_o_0 {g : tr_g} {d : Nat} {h : ev_AH} {r : ev_O × ev_AH} {x1 : Int32} {h1 : ev_AH} (hL : hh_L h) (c_0 : tr_L g d m_J5_append_3fe6f 0 [some (.ref 1096), some (.int x1)] [] h (.inl (some (.ref 1096)), h1)) (hr : r = (.inl (some (.ref 1096)), h1)) : tr_L g (d + 1) m_J4_append_cf468 0 [some (.ref 1096), some (.int x1)] [] h r := by
  refine tr_s (.aload_n 0) 1 1 [some (.ref 1096), some (.int x1)] [.ref 1096] h rfl rfl rfl ?_
  refine tr_s (.iload_n 1) 1 2 [some (.ref 1096), some (.int x1)] [.int x1, .ref 1096] h rfl rfl rfl ?_
  refine tr_call (.invokespecial 50) 50 7 1 9 m_J5_append_3fe6f [.ref 1096, .int x1] [] (some (.ref 1096)) h1 rfl rfl rfl rfl rfl rfl rfl rfl rfl (tr_cok rfl (Or.inr ⟨_, _, rfl, tr_rc (hh_rd (hh_obj hL (k := 96) rfl).1) (by decide)⟩)) c_0 ?_
  have hL0 := c_0.2
  refine tr_s .pop 1 6 [some (.ref 1096), some (.int x1)] [] h1 rfl rfl rfl ?_
  refine tr_s (.aload_n 0) 1 7 [some (.ref 1096), some (.int x1)] [.ref 1096] h1 rfl rfl rfl ?_
  exact tl_ret hL0 .areturn 1 (some (.ref 1096)) rfl rfl rfl rfl hr
theorem sg_J5_append_c97b9_o_0 {g : tr_g} {d : Nat} {h : ev_AH} {r : ev_O × ev_AH} {x1 v0 v1 : Int32} {h1 h2 h3 : ev_AH} (hL : hh_L h) (c_0 : tr_L g d m_J6_stringSize_0f7a4 0 [some (.int x1), none, none, none] [] h (.inl (some (.int v0)), h1)) (c_1 : tr_L g d m_J5_ensureCapacityInternal_d00df 0 [some (.ref 1096), some (.int ((hh_i h 96 3) + v0)), none] [] h1 (.inl none, h2)) (c_2 : tr_L g d m_J5_isLatin1_aae02 0 [some (.ref 1096)] [] h2 (.inl (some (.int v1)), h3)) (t : v1 = 0 → tr_L g (d + 1) m_J5_append_c97b9 37 [some (.ref 1096), some (.int x1), some (.int (hh_i h 96 3)), some (.int ((hh_i h 96 3) + v0))] [] h3 r) (f : v1 ≠ 0 → tr_L g (d + 1) m_J5_append_c97b9 24 [some (.ref 1096), some (.int x1), some (.int (hh_i h 96 3)), some (.int ((hh_i h 96 3) + v0))] [] h3 r) : tr_L g (d + 1) m_J5_append_c97b9 0 [some (.ref 1096), some (.int x1), none, none] [] h r := by
  refine tr_s (.aload_n 0) 1 1 [some (.ref 1096), some (.int x1), none, none] [.ref 1096] h rfl rfl rfl ?_
  refine tl_gi hL 79 96 9 3 [1, 0, 0, 0] rfl rfl rfl rfl ?_
  refine tr_st (.istore_n 2) 1 2 0 (.int (hh_i h 96 3)) rfl rfl rfl rfl rfl rfl rfl ?_
  refine tr_s (.iload_n 2) 1 6 [some (.ref 1096), some (.int x1), some (.int (hh_i h 96 3)), none] [.int (hh_i h 96 3)] h rfl rfl rfl ?_
  refine tr_s (.iload_n 1) 1 7 [some (.ref 1096), some (.int x1), some (.int (hh_i h 96 3)), none] [.int x1, .int (hh_i h 96 3)] h rfl rfl rfl ?_
  refine tr_call (.invokestatic 245) 245 2 1 0 m_J6_stringSize_0f7a4 [.int x1] [.int (hh_i h 96 3)] (some (.int v0)) h1 rfl rfl rfl rfl rfl rfl rfl rfl rfl (tr_cok rfl (Or.inl rfl)) c_0 ?_
  have hL0 := c_0.2
  refine tr_s .iadd 1 11 [some (.ref 1096), some (.int x1), some (.int (hh_i h 96 3)), none] [.int ((hh_i h 96 3) + v0)] h1 rfl rfl rfl ?_
  refine tr_st (.istore_n 3) 1 3 0 (.int ((hh_i h 96 3) + v0)) rfl rfl rfl rfl rfl rfl rfl ?_
  refine tr_s (.aload_n 0) 1 13 [some (.ref 1096), some (.int x1), some (.int (hh_i h 96 3)), some (.int ((hh_i h 96 3) + v0))] [.ref 1096] h1 rfl rfl rfl ?_
  refine tr_s (.iload_n 3) 1 14 [some (.ref 1096), some (.int x1), some (.int (hh_i h 96 3)), some (.int ((hh_i h 96 3) + v0))] [.int ((hh_i h 96 3) + v0), .ref 1096] h1 rfl rfl rfl ?_
  refine tr_call (.invokevirtual 100) 100 0 1 9 m_J5_ensureCapacityInternal_d00df [.ref 1096, .int ((hh_i h 96 3) + v0)] [] none h2 rfl rfl rfl rfl rfl rfl rfl rfl rfl (tr_cok rfl (Or.inr ⟨_, _, rfl, tr_rc (hh_rd (hh_obj hL0 (k := 96) rfl).1) (by decide)⟩)) c_1 ?_
  have hL1 := c_1.2
  refine tr_s (.aload_n 0) 1 18 [some (.ref 1096), some (.int x1), some (.int (hh_i h 96 3)), some (.int ((hh_i h 96 3) + v0))] [.ref 1096] h2 rfl rfl rfl ?_
  refine tr_call (.invokevirtual 83) 83 0 0 9 m_J5_isLatin1_aae02 [.ref 1096] [] (some (.int v1)) h3 rfl rfl rfl rfl rfl rfl rfl rfl rfl (tr_cok rfl (Or.inr ⟨_, _, rfl, tr_rc (hh_rd (hh_obj hL1 (k := 96) rfl).1) (by decide)⟩)) c_2 ?_
  have hL2 := c_2.2
  exact tr_if1 .eq 16 37 v1 rfl rfl rfl (fun hc => t ((tr_eq hc).1 rfl)) (fun hc => f ((tr_eq hc).2 rfl))
theorem sg_J5_append_c97b9_o_24 {g : tr_g} {d : Nat} {h : ev_AH} {r : ev_O × ev_AH} {x1 x3 v0 : Int32} {w2 : Option Value} {c0 : Nat} {h1 : ev_AH} (hL : hh_L h) (p0 : (hh_v h 96)[0]? = some (.ref (c0 + 1000))) (c_0 : tr_L g d m_J6_getChars_ba4f3 0 [some (.int x1), some (.int x3), some (.ref (c0 + 1000)), none, none, none, none] [] h (.inl (some (.int v0)), h1)) (hr : r = (.inl (some (.ref 1096)), hh_si h1 96 9 3 x3)) : tr_L g (d + 1) m_J5_append_c97b9 24 [some (.ref 1096), some (.int x1), w2, some (.int x3)] [] h r := by
  refine tr_s (.iload_n 1) 1 25 [some (.ref 1096), some (.int x1), w2, some (.int x3)] [.int x1] h rfl rfl rfl ?_
  refine tr_s (.iload_n 3) 1 26 [some (.ref 1096), some (.int x1), w2, some (.int x3)] [.int x3, .int x1] h rfl rfl rfl ?_
  refine tr_s (.aload_n 0) 1 27 [some (.ref 1096), some (.int x1), w2, some (.int x3)] [.ref 1096, .int x3, .int x1] h rfl rfl rfl ?_
  refine tr_gf 15 1096 9 0 _ _ rfl rfl (hh_rd (hh_obj hL (k := 96) rfl).1) p0 ?_
  refine tr_call (.invokestatic 248) 248 2 3 0 m_J6_getChars_ba4f3 [.int x1, .int x3, .ref (c0 + 1000)] [] (some (.int v0)) h1 rfl rfl rfl rfl rfl rfl rfl rfl rfl (tr_cok rfl (Or.inl rfl)) c_0 ?_
  have hL0 := c_0.2
  refine tr_s .pop 1 34 [some (.ref 1096), some (.int x1), w2, some (.int x3)] [] h1 rfl rfl rfl ?_
  refine tr_goto 14 48 rfl rfl rfl ?_
  refine tr_s (.aload_n 0) 1 49 [some (.ref 1096), some (.int x1), w2, some (.int x3)] [.ref 1096] h1 rfl rfl rfl ?_
  refine tr_s (.iload_n 3) 1 50 [some (.ref 1096), some (.int x1), w2, some (.int x3)] [.int x3, .ref 1096] h1 rfl rfl rfl ?_
  refine tl_pf hL0 79 96 9 3 [1, 0, 0, 0] x3 .int rfl rfl rfl rfl rfl tr_oki ?_
  have hL1 := hh_L_si (sl := 3) (x := x3) hL0 (show hh_t[96]? = some (.inr (9, [1, 0, 0, 0])) from rfl) rfl
  refine tr_s (.aload_n 0) 1 54 [some (.ref 1096), some (.int x1), w2, some (.int x3)] [.ref 1096] (hh_si h1 96 9 3 x3) rfl rfl rfl ?_
  exact tl_ret hL1 .areturn 1 (some (.ref 1096)) rfl rfl rfl rfl hr
theorem sg_J4_append_bf812_o_0 {g : tr_g} {d : Nat} {h : ev_AH} {r : ev_O × ev_AH} {x1 : Int32} {h1 : ev_AH} (hL : hh_L h) (c_0 : tr_L g d m_J5_append_c97b9 0 [some (.ref 1096), some (.int x1), none, none] [] h (.inl (some (.ref 1096)), h1)) (hr : r = (.inl (some (.ref 1096)), h1)) : tr_L g (d + 1) m_J4_append_bf812 0 [some (.ref 1096), some (.int x1)] [] h r := by
  refine tr_s (.aload_n 0) 1 1 [some (.ref 1096), some (.int x1)] [.ref 1096] h rfl rfl rfl ?_
  refine tr_s (.iload_n 1) 1 2 [some (.ref 1096), some (.int x1)] [.int x1, .ref 1096] h rfl rfl rfl ?_
  refine tr_call (.invokespecial 53) 53 7 1 9 m_J5_append_c97b9 [.ref 1096, .int x1] [] (some (.ref 1096)) h1 rfl rfl rfl rfl rfl rfl rfl rfl rfl (tr_cok rfl (Or.inr ⟨_, _, rfl, tr_rc (hh_rd (hh_obj hL (k := 96) rfl).1) (by decide)⟩)) c_0 ?_
  have hL0 := c_0.2
  refine tr_s .pop 1 6 [some (.ref 1096), some (.int x1)] [] h1 rfl rfl rfl ?_
  refine tr_s (.aload_n 0) 1 7 [some (.ref 1096), some (.int x1)] [.ref 1096] h1 rfl rfl rfl ?_
  exact tl_ret hL0 .areturn 1 (some (.ref 1096)) rfl rfl rfl rfl hr
theorem sg_J8_newLength_cabcc_0 {g : tr_g} {d : Nat} {h : ev_AH} {r : ev_O × ev_AH} {x0 x1 x2 : Int32} (hL : hh_L h) (t : (x0 + (if x1 < x2 then x2 else x1)) ≤ (0 : Int32) → tr_L g d m_J8_newLength_cabcc 21 [some (.int x0), some (.int x1), some (.int x2), some (.int (x0 + (if x1 < x2 then x2 else x1)))] [] h r) (f : (0 : Int32) < (x0 + (if x1 < x2 then x2 else x1)) → tr_L g d m_J8_newLength_cabcc 13 [some (.int x0), some (.int x1), some (.int x2), some (.int (x0 + (if x1 < x2 then x2 else x1)))] [] h r) : tr_L g d m_J8_newLength_cabcc 0 [some (.int x0), some (.int x1), some (.int x2), none] [] h r := by
  refine tr_s (.iload_n 0) 1 1 [some (.int x0), some (.int x1), some (.int x2), none] [.int x0] h rfl rfl rfl ?_
  refine tr_s (.iload_n 1) 1 2 [some (.int x0), some (.int x1), some (.int x2), none] [.int x1, .int x0] h rfl rfl rfl ?_
  refine tr_s (.iload_n 2) 1 3 [some (.int x0), some (.int x1), some (.int x2), none] [.int x2, .int x1, .int x0] h rfl rfl rfl ?_
  refine tr_na (.invokestatic 194) 194 12 2 0 ev_dum [.int (if x1 < x2 then x2 else x1), .int x0] h rfl rfl rfl rfl rfl rfl rfl ?_
  refine tr_s .iadd 1 7 [some (.int x0), some (.int x1), some (.int x2), none] [.int (x0 + (if x1 < x2 then x2 else x1))] h rfl rfl rfl ?_
  refine tr_st (.istore_n 3) 1 3 0 (.int (x0 + (if x1 < x2 then x2 else x1))) rfl rfl rfl rfl rfl rfl rfl ?_
  refine tr_ic 0 0 (by decide) rfl ?_
  refine tr_s (.iload_n 3) 1 10 [some (.int x0), some (.int x1), some (.int x2), some (.int (x0 + (if x1 < x2 then x2 else x1)))] [.int (x0 + (if x1 < x2 then x2 else x1)), .int 0] h rfl rfl rfl ?_
  exact tr_if2 .ge 11 21 0 (x0 + (if x1 < x2 then x2 else x1)) rfl rfl rfl (fun hc => t ((tr_ge hc).1 rfl)) (fun hc => f ((tr_ge hc).2 rfl))
theorem sg_J8_newLength_cabcc_13 {g : tr_g} {d : Nat} {h : ev_AH} {r : ev_O × ev_AH} {x0 x1 x3 : Int32} {w2 : Option Value} (hL : hh_L h) (t : 2147483639 < x3 → tr_L g d m_J8_newLength_cabcc 21 [some (.int x0), some (.int x1), w2, some (.int x3)] [] h r) (f : x3 ≤ 2147483639 → tr_L g d m_J8_newLength_cabcc 19 [some (.int x0), some (.int x1), w2, some (.int x3)] [] h r) : tr_L g d m_J8_newLength_cabcc 13 [some (.int x0), some (.int x1), w2, some (.int x3)] [] h r := by
  refine tr_s (.iload_n 3) 1 14 [some (.int x0), some (.int x1), w2, some (.int x3)] [.int x3] h rfl rfl rfl ?_
  refine tr_s (.ldc 200) 2 16 [some (.int x0), some (.int x1), w2, some (.int x3)] [.int 2147483639, .int x3] h rfl rfl rfl ?_
  exact tr_if2 .gt 5 21 x3 2147483639 rfl rfl rfl (fun hc => t ((tr_gt hc).1 rfl)) (fun hc => f ((tr_gt hc).2 rfl))
theorem sg_J8_newLength_cabcc_19 {g : tr_g} {d : Nat} {h : ev_AH} {r : ev_O × ev_AH} {w0 w1 w2 : Option Value} {x3 : Int32} (hL : hh_L h) (hr : r = (.inl (some (.int x3)), h)) : tr_L g d m_J8_newLength_cabcc 19 [w0, w1, w2, some (.int x3)] [] h r := by
  refine tr_s (.iload_n 3) 1 20 [w0, w1, w2, some (.int x3)] [.int x3] h rfl rfl rfl ?_
  exact tl_ret hL .ireturn 1 (some (.int x3)) rfl rfl rfl rfl hr
theorem sg_J8_newLength_cabcc_21 {g : tr_g} {d : Nat} {h : ev_AH} {r : ev_O × ev_AH} {x0 x1 v0 : Int32} {w2 w3 : Option Value} {h1 : ev_AH} (hL : hh_L h) (c_0 : tr_L g d m_J8_hugeLength_7cf53 0 [some (.int x0), some (.int x1), none] [] h (.inl (some (.int v0)), h1)) (hr : r = (.inl (some (.int v0)), h1)) : tr_L g (d + 1) m_J8_newLength_cabcc 21 [some (.int x0), some (.int x1), w2, w3] [] h r := by
  refine tr_s (.iload_n 0) 1 22 [some (.int x0), some (.int x1), w2, w3] [.int x0] h rfl rfl rfl ?_
  refine tr_s (.iload_n 1) 1 23 [some (.int x0), some (.int x1), w2, w3] [.int x1, .int x0] h rfl rfl rfl ?_
  refine tr_call (.invokestatic 201) 201 2 2 0 m_J8_hugeLength_7cf53 [.int x0, .int x1] [] (some (.int v0)) h1 rfl rfl rfl rfl rfl rfl rfl rfl rfl (tr_cok rfl (Or.inl rfl)) c_0 ?_
  have hL0 := c_0.2
  exact tl_ret hL0 .ireturn 1 (some (.int v0)) rfl rfl rfl rfl hr
theorem sg_J7_copyOf_9075b_0 {g : tr_g} {d : Nat} {h : ev_AH} {r : ev_O × ev_AH} {a0 : Nat} {x1 : Int32} {l0 : List Int32} (hL : hh_L h) (m0 : h.1[a0]? = some (.inl (2, l0))) (z0 : l0.length < 2147483648) (t : x1 ≠ (Int32.ofNat l0.length) → tr_L g d m_J7_copyOf_9075b 14 [some (.ref (a0 + 1000)), some (.int x1), none] [] h r) (f : x1 = (Int32.ofNat l0.length) → tr_L g d m_J7_copyOf_9075b 6 [some (.ref (a0 + 1000)), some (.int x1), none] [] h r) : tr_L g d m_J7_copyOf_9075b 0 [some (.ref (a0 + 1000)), some (.int x1), none] [] h r := by
  refine tr_s (.iload_n 1) 1 1 [some (.ref (a0 + 1000)), some (.int x1), none] [.int x1] h rfl rfl rfl ?_
  refine tr_s (.aload_n 0) 1 2 [some (.ref (a0 + 1000)), some (.int x1), none] [.ref (a0 + 1000), .int x1] h rfl rfl rfl ?_
  refine tr_alen _ 2 l0 rfl (hh_rd m0) (by decide) ?_
  exact tr_if2 .ne 11 14 x1 (Int32.ofNat l0.length) rfl rfl rfl (fun hc => t ((tr_ne hc).1 rfl)) (fun hc => f ((tr_ne hc).2 rfl))
theorem sg_J7_copyOf_9075b_6 {g : tr_g} {d : Nat} {h : ev_AH} {r : ev_O × ev_AH} {a0 c0 : Nat} {w1 w2 : Option Value} {l0 l1 : List Int32} {h1 : ev_AH} (hL : hh_L h) (m0 : h.1[a0]? = some (.inl (2, l0))) (z0 : l0.length < 2147483648) (hf0 : l0.all (fun x => fits .byte (.int x)) = true) (eh0 : h1 = hh_push h (.inl (2, l0)) l0.length) (ec0 : c0 = h.1.length) (m1 : h1.1[c0]? = some (.inl (2, l1))) (z1 : l1.length < 2147483648) (hr : r = (.inl (some (.ref (c0 + 1000))), h1)) : tr_L g d m_J7_copyOf_9075b 6 [some (.ref (a0 + 1000)), w1, w2] [] h r := by
  refine tr_s (.aload_n 0) 1 7 [some (.ref (a0 + 1000)), w1, w2] [.ref (a0 + 1000)] h rfl rfl rfl ?_
  refine tr_clone 310 a0 l0 rfl rfl m0 hf0 rfl ?_
  rw [← eh0, ← ec0]
  have hL0 : hh_L h1 := by rw [eh0]; exact hh_L_push hL
  refine tr_cast 311 c0 l1 rfl rfl m1 ?_
  exact tl_ret hL0 .areturn 1 (some (.ref (c0 + 1000))) rfl rfl rfl rfl hr
theorem sg_J7_copyOf_9075b_14 {g : tr_g} {d : Nat} {h : ev_AH} {r : ev_O × ev_AH} {a0 j0 c0 j1 : Nat} {x1 : Int32} {w2 : Option Value} {h1 : ev_AH} {l0 l1 : List Int32} (hL : hh_L h) (e0 : x1 = Int32.ofNat j0) (b0 : j0 ≤ 1000000) (eh0 : h1 = hh_push h (.inl (2, List.replicate j0 0)) j0) (ec0 : c0 = h.1.length) (m0 : h1.1[a0]? = some (.inl (2, l0))) (z0 : l0.length < 2147483648) (m1 : h1.1[c0]? = some (.inl (2, l1))) (z1 : l1.length < 2147483648) (e1 : (if x1 < (Int32.ofNat l0.length) then x1 else (Int32.ofNat l0.length)) = Int32.ofNat j1) (b1 : j1 ≤ l0.length) (b2 : j1 ≤ l1.length) (b3 : j1 < 2147483648) (hf0 : (l0.take j1).all (fun x => fits .byte (.int x)) = true) (hr : r = (.inl (some (.ref (c0 + 1000))), ev_wr h1 (c0 + 1000) (.inl (2, l0.take j1 ++ l1.drop j1)))) (hLe : hh_L (ev_wr h1 (c0 + 1000) (.inl (2, l0.take j1 ++ l1.drop j1)))) : tr_L g d m_J7_copyOf_9075b 14 [some (.ref (a0 + 1000)), some (.int x1), w2] [] h r := by
  refine tr_s (.iload_n 1) 1 15 [some (.ref (a0 + 1000)), some (.int x1), w2] [.int x1] h rfl rfl rfl ?_
  refine tr_newb j0 x1 rfl e0 b0 ?_
  rw [← eh0, ← ec0]
  have hL0 : hh_L h1 := by rw [eh0]; exact hh_L_push hL
  refine tr_st (.astore_n 2) 1 2 1 (.ref (c0 + 1000)) rfl rfl rfl rfl rfl rfl rfl ?_
  refine tr_s (.aload_n 0) 1 19 [some (.ref (a0 + 1000)), some (.int x1), some (.ref (c0 + 1000))] [.ref (a0 + 1000)] h1 rfl rfl rfl ?_
  refine tr_ic 0 0 (by decide) rfl ?_
  refine tr_s (.aload_n 2) 1 21 [some (.ref (a0 + 1000)), some (.int x1), some (.ref (c0 + 1000))] [.ref (c0 + 1000), .int 0, .ref (a0 + 1000)] h1 rfl rfl rfl ?_
  refine tr_ic 0 0 (by decide) rfl ?_
  refine tr_s (.aload_n 0) 1 23 [some (.ref (a0 + 1000)), some (.int x1), some (.ref (c0 + 1000))] [.ref (a0 + 1000), .int 0, .ref (c0 + 1000), .int 0, .ref (a0 + 1000)] h1 rfl rfl rfl ?_
  refine tr_alen _ 2 l0 rfl (hh_rd m0) (by decide) ?_
  refine tr_s (.iload_n 1) 1 25 [some (.ref (a0 + 1000)), some (.int x1), some (.ref (c0 + 1000))] [.int x1, .int (Int32.ofNat l0.length), .int 0, .ref (c0 + 1000), .int 0, .ref (a0 + 1000)] h1 rfl rfl rfl ?_
  refine tr_na (.invokestatic 304) 304 11 2 0 ev_dum [.int (if x1 < (Int32.ofNat l0.length) then x1 else (Int32.ofNat l0.length)), .int 0, .ref (c0 + 1000), .int 0, .ref (a0 + 1000)] h1 rfl rfl rfl rfl rfl rfl rfl ?_
  refine tr_acpy 150 a0 c0 l0 l1 j1 (if x1 < (Int32.ofNat l0.length) then x1 else (Int32.ofNat l0.length)) rfl rfl m0 m1 e1 b1 b2 b3 hf0 rfl ?_
  refine tr_s (.aload_n 2) 1 32 [some (.ref (a0 + 1000)), some (.int x1), some (.ref (c0 + 1000))] [.ref (c0 + 1000)] (ev_wr h1 (c0 + 1000) (.inl (2, l0.take j1 ++ l1.drop j1))) rfl rfl rfl ?_
  exact tl_ret hLe .areturn 1 (some (.ref (c0 + 1000))) rfl rfl rfl rfl hr
theorem sg_J1_canEncode_fc78d_0 {g : tr_g} {d : Nat} {h : ev_AH} {r : ev_O × ev_AH} {x0 : Int32} (hL : hh_L h) (t : 255 < x0 → tr_L g d m_J1_canEncode_fc78d 11 [some (.int x0)] [] h r) (f : x0 ≤ 255 → tr_L g d m_J1_canEncode_fc78d 7 [some (.int x0)] [] h r) : tr_L g d m_J1_canEncode_fc78d 0 [some (.int x0)] [] h r := by
  refine tr_s (.iload_n 0) 1 1 [some (.int x0)] [.int x0] h rfl rfl rfl ?_
  refine tr_si 255 255 (by decide) rfl ?_
  exact tr_if2 .gt 7 11 x0 255 rfl rfl rfl (fun hc => t ((tr_gt hc).1 rfl)) (fun hc => f ((tr_gt hc).2 rfl))
theorem sg_J1_canEncode_fc78d_7 {g : tr_g} {d : Nat} {h : ev_AH} {r : ev_O × ev_AH} {w0 : Option Value} (hL : hh_L h) (hr : r = (.inl (some (.int 1)), h)) : tr_L g d m_J1_canEncode_fc78d 7 [w0] [] h r := by
  refine tr_ic 1 1 (by decide) rfl ?_
  refine tr_goto 4 12 rfl rfl rfl ?_
  exact tl_ret hL .ireturn 1 (some (.int 1)) rfl rfl rfl rfl hr
theorem sg_J1_canEncode_fc78d_11 {g : tr_g} {d : Nat} {h : ev_AH} {r : ev_O × ev_AH} {w0 : Option Value} (hL : hh_L h) (hr : r = (.inl (some (.int 0)), h)) : tr_L g d m_J1_canEncode_fc78d 11 [w0] [] h r := by
  refine tr_ic 0 0 (by decide) rfl ?_
  exact tl_ret hL .ireturn 1 (some (.int 0)) rfl rfl rfl rfl hr
theorem sg_J6_stringSize_0f7a4_0 {g : tr_g} {d : Nat} {h : ev_AH} {r : ev_O × ev_AH} {x0 : Int32} (hL : hh_L h) (t : x0 < 0 → tr_L g d m_J6_stringSize_0f7a4 11 [some (.int x0), some (.int 1), none, none] [] h r) (f : 0 ≤ x0 → tr_L g d m_J6_stringSize_0f7a4 6 [some (.int x0), some (.int 1), none, none] [] h r) : tr_L g d m_J6_stringSize_0f7a4 0 [some (.int x0), none, none, none] [] h r := by
  refine tr_ic 1 1 (by decide) rfl ?_
  refine tr_st (.istore_n 1) 1 1 0 (.int 1) rfl rfl rfl rfl rfl rfl rfl ?_
  refine tr_s (.iload_n 0) 1 3 [some (.int x0), some (.int 1), none, none] [.int x0] h rfl rfl rfl ?_
  exact tr_if1 .lt 8 11 x0 rfl rfl rfl (fun hc => t ((tr_lt hc).1 rfl)) (fun hc => f ((tr_lt hc).2 rfl))
theorem sg_J6_stringSize_0f7a4_6 {g : tr_g} {d : Nat} {h : ev_AH} {r : ev_O × ev_AH} {x0 : Int32} {w1 w2 w3 : Option Value} (hL : hh_L h) (k : tr_L g d m_J6_stringSize_0f7a4 11 [some (.int (-x0)), some (.int 0), w2, w3] [] h r) : tr_L g d m_J6_stringSize_0f7a4 6 [some (.int x0), w1, w2, w3] [] h r := by
  refine tr_ic 0 0 (by decide) rfl ?_
  refine tr_st (.istore_n 1) 1 1 0 (.int 0) rfl rfl rfl rfl rfl rfl rfl ?_
  refine tr_s (.iload_n 0) 1 9 [some (.int x0), some (.int 0), w2, w3] [.int x0] h rfl rfl rfl ?_
  refine tr_s .ineg 1 10 [some (.int x0), some (.int 0), w2, w3] [.int (-x0)] h rfl rfl rfl ?_
  refine tr_st (.istore_n 0) 1 0 0 (.int (-x0)) rfl rfl rfl rfl rfl rfl rfl ?_
  exact k
theorem sg_J6_stringSize_0f7a4_11 {g : tr_g} {d : Nat} {h : ev_AH} {r : ev_O × ev_AH} {x0 x1 : Int32} {w2 w3 : Option Value} (hL : hh_L h) (k : tr_L g d m_J6_stringSize_0f7a4 16 [some (.int x0), some (.int x1), some (.int (-10)), some (.int 1)] [] h r) : tr_L g d m_J6_stringSize_0f7a4 11 [some (.int x0), some (.int x1), w2, w3] [] h r := by
  refine tr_bi (-10) (-10) (by decide) rfl ?_
  refine tr_st (.istore_n 2) 1 2 0 (.int (-10)) rfl rfl rfl rfl rfl rfl rfl ?_
  refine tr_ic 1 1 (by decide) rfl ?_
  refine tr_st (.istore_n 3) 1 3 0 (.int 1) rfl rfl rfl rfl rfl rfl rfl ?_
  exact k
theorem sg_J6_stringSize_0f7a4_16 {g : tr_g} {d : Nat} {h : ev_AH} {r : ev_O × ev_AH} {x0 x1 x2 x3 : Int32} (hL : hh_L h) (t : 10 ≤ x3 → tr_L g d m_J6_stringSize_0f7a4 42 [some (.int x0), some (.int x1), some (.int x2), some (.int x3)] [] h r) (f : x3 < 10 → tr_L g d m_J6_stringSize_0f7a4 22 [some (.int x0), some (.int x1), some (.int x2), some (.int x3)] [] h r) : tr_L g d m_J6_stringSize_0f7a4 16 [some (.int x0), some (.int x1), some (.int x2), some (.int x3)] [] h r := by
  refine tr_s (.iload_n 3) 1 17 [some (.int x0), some (.int x1), some (.int x2), some (.int x3)] [.int x3] h rfl rfl rfl ?_
  refine tr_bi 10 10 (by decide) rfl ?_
  exact tr_if2 .ge 23 42 x3 10 rfl rfl rfl (fun hc => t ((tr_ge hc).1 rfl)) (fun hc => f ((tr_ge hc).2 rfl))
theorem sg_J6_stringSize_0f7a4_22 {g : tr_g} {d : Nat} {h : ev_AH} {r : ev_O × ev_AH} {x0 x1 x2 x3 : Int32} (hL : hh_L h) (t : x0 ≤ x2 → tr_L g d m_J6_stringSize_0f7a4 31 [some (.int x0), some (.int x1), some (.int x2), some (.int x3)] [] h r) (f : x2 < x0 → tr_L g d m_J6_stringSize_0f7a4 27 [some (.int x0), some (.int x1), some (.int x2), some (.int x3)] [] h r) : tr_L g d m_J6_stringSize_0f7a4 22 [some (.int x0), some (.int x1), some (.int x2), some (.int x3)] [] h r := by
  refine tr_s (.iload_n 0) 1 23 [some (.int x0), some (.int x1), some (.int x2), some (.int x3)] [.int x0] h rfl rfl rfl ?_
  refine tr_s (.iload_n 2) 1 24 [some (.int x0), some (.int x1), some (.int x2), some (.int x3)] [.int x2, .int x0] h rfl rfl rfl ?_
  exact tr_if2 .le 7 31 x0 x2 rfl rfl rfl (fun hc => t ((tr_le hc).1 rfl)) (fun hc => f ((tr_le hc).2 rfl))
theorem sg_J6_stringSize_0f7a4_27 {g : tr_g} {d : Nat} {h : ev_AH} {r : ev_O × ev_AH} {w0 w2 : Option Value} {x1 x3 : Int32} (hL : hh_L h) (hr : r = (.inl (some (.int (x3 + x1))), h)) : tr_L g d m_J6_stringSize_0f7a4 27 [w0, some (.int x1), w2, some (.int x3)] [] h r := by
  refine tr_s (.iload_n 3) 1 28 [w0, some (.int x1), w2, some (.int x3)] [.int x3] h rfl rfl rfl ?_
  refine tr_s (.iload_n 1) 1 29 [w0, some (.int x1), w2, some (.int x3)] [.int x1, .int x3] h rfl rfl rfl ?_
  refine tr_s .iadd 1 30 [w0, some (.int x1), w2, some (.int x3)] [.int (x3 + x1)] h rfl rfl rfl ?_
  exact tl_ret hL .ireturn 1 (some (.int (x3 + x1))) rfl rfl rfl rfl hr
theorem sg_J6_stringSize_0f7a4_31 {g : tr_g} {d : Nat} {h : ev_AH} {r : ev_O × ev_AH} {x0 x1 x2 x3 : Int32} (hL : hh_L h) (k : tr_L g d m_J6_stringSize_0f7a4 16 [some (.int x0), some (.int x1), some (.int (10 * x2)), some (.int (x3 + 1))] [] h r) : tr_L g d m_J6_stringSize_0f7a4 31 [some (.int x0), some (.int x1), some (.int x2), some (.int x3)] [] h r := by
  refine tr_bi 10 10 (by decide) rfl ?_
  refine tr_s (.iload_n 2) 1 34 [some (.int x0), some (.int x1), some (.int x2), some (.int x3)] [.int x2, .int 10] h rfl rfl rfl ?_
  refine tr_s .imul 1 35 [some (.int x0), some (.int x1), some (.int x2), some (.int x3)] [.int (10 * x2)] h rfl rfl rfl ?_
  refine tr_st (.istore_n 2) 1 2 0 (.int (10 * x2)) rfl rfl rfl rfl rfl rfl rfl ?_
  refine tr_inc 3 1 x3 1 (by decide) rfl rfl rfl ?_
  refine tr_goto (-23) 16 rfl rfl rfl ?_
  exact k
theorem sg_J6_stringSize_0f7a4_42 {g : tr_g} {d : Nat} {h : ev_AH} {r : ev_O × ev_AH} {w0 w2 w3 : Option Value} {x1 : Int32} (hL : hh_L h) (hr : r = (.inl (some (.int (10 + x1))), h)) : tr_L g d m_J6_stringSize_0f7a4 42 [w0, some (.int x1), w2, w3] [] h r := by
  refine tr_bi 10 10 (by decide) rfl ?_
  refine tr_s (.iload_n 1) 1 45 [w0, some (.int x1), w2, w3] [.int x1, .int 10] h rfl rfl rfl ?_
  refine tr_s .iadd 1 46 [w0, some (.int x1), w2, w3] [.int (10 + x1)] h rfl rfl rfl ?_
  exact tl_ret hL .ireturn 1 (some (.int (10 + x1))) rfl rfl rfl rfl hr
theorem sg_J6_getChars_ba4f3_0 {g : tr_g} {d : Nat} {h : ev_AH} {r : ev_O × ev_AH} {x0 x1 : Int32} {a2 : Nat} (hL : hh_L h) (t : 0 ≤ x0 → tr_L g d m_J6_getChars_ba4f3 11 [some (.int x0), some (.int x1), some (.ref (a2 + 1000)), none, none, some (.int x1), none] [] h r) (f : x0 < 0 → tr_L g d m_J6_getChars_ba4f3 7 [some (.int x0), some (.int x1), some (.ref (a2 + 1000)), none, none, some (.int x1), none] [] h r) : tr_L g d m_J6_getChars_ba4f3 0 [some (.int x0), some (.int x1), some (.ref (a2 + 1000)), none, none, none, none] [] h r := by
  refine tr_s (.iload_n 1) 1 1 [some (.int x0), some (.int x1), some (.ref (a2 + 1000)), none, none, none, none] [.int x1] h rfl rfl rfl ?_
  refine tr_st (.istore 5) 2 5 0 (.int x1) rfl rfl rfl rfl rfl rfl rfl ?_
  refine tr_s (.iload_n 0) 1 4 [some (.int x0), some (.int x1), some (.ref (a2 + 1000)), none, none, some (.int x1), none] [.int x0] h rfl rfl rfl ?_
  exact tr_if1 .ge 7 11 x0 rfl rfl rfl (fun hc => t ((tr_ge hc).1 rfl)) (fun hc => f ((tr_ge hc).2 rfl))
theorem sg_J6_getChars_ba4f3_7 {g : tr_g} {d : Nat} {h : ev_AH} {r : ev_O × ev_AH} {x0 x5 : Int32} {w1 w3 w4 w6 : Option Value} {a2 : Nat} (hL : hh_L h) (t : (1 : Int32) ≠ 0 → tr_L g d m_J6_getChars_ba4f3 22 [some (.int x0), w1, some (.ref (a2 + 1000)), w3, w4, some (.int x5), some (.int 1)] [] h r) (f : (1 : Int32) = 0 → tr_L g d m_J6_getChars_ba4f3 19 [some (.int x0), w1, some (.ref (a2 + 1000)), w3, w4, some (.int x5), some (.int 1)] [] h r) : tr_L g d m_J6_getChars_ba4f3 7 [some (.int x0), w1, some (.ref (a2 + 1000)), w3, w4, some (.int x5), w6] [] h r := by
  refine tr_ic 1 1 (by decide) rfl ?_
  refine tr_goto 4 12 rfl rfl rfl ?_
  refine tr_st (.istore 6) 2 6 0 (.int 1) rfl rfl rfl rfl rfl rfl rfl ?_
  refine tr_s (.iload 6) 2 16 [some (.int x0), w1, some (.ref (a2 + 1000)), w3, w4, some (.int x5), some (.int 1)] [.int 1] h rfl rfl rfl ?_
  exact tr_if1 .ne 6 22 1 rfl rfl rfl (fun hc => t ((tr_ne hc).1 rfl)) (fun hc => f ((tr_ne hc).2 rfl))
theorem sg_J6_getChars_ba4f3_11 {g : tr_g} {d : Nat} {h : ev_AH} {r : ev_O × ev_AH} {x0 x5 : Int32} {w1 w3 w4 w6 : Option Value} {a2 : Nat} (hL : hh_L h) (t : (0 : Int32) ≠ 0 → tr_L g d m_J6_getChars_ba4f3 22 [some (.int x0), w1, some (.ref (a2 + 1000)), w3, w4, some (.int x5), some (.int 0)] [] h r) (f : (0 : Int32) = 0 → tr_L g d m_J6_getChars_ba4f3 19 [some (.int x0), w1, some (.ref (a2 + 1000)), w3, w4, some (.int x5), some (.int 0)] [] h r) : tr_L g d m_J6_getChars_ba4f3 11 [some (.int x0), w1, some (.ref (a2 + 1000)), w3, w4, some (.int x5), w6] [] h r := by
  refine tr_ic 0 0 (by decide) rfl ?_
  refine tr_st (.istore 6) 2 6 0 (.int 0) rfl rfl rfl rfl rfl rfl rfl ?_
  refine tr_s (.iload 6) 2 16 [some (.int x0), w1, some (.ref (a2 + 1000)), w3, w4, some (.int x5), some (.int 0)] [.int 0] h rfl rfl rfl ?_
  exact tr_if1 .ne 6 22 0 rfl rfl rfl (fun hc => t ((tr_ne hc).1 rfl)) (fun hc => f ((tr_ne hc).2 rfl))
theorem sg_J6_getChars_ba4f3_19 {g : tr_g} {d : Nat} {h : ev_AH} {r : ev_O × ev_AH} {x0 x5 x6 : Int32} {w1 w3 w4 : Option Value} {a2 : Nat} (hL : hh_L h) (k : tr_L g d m_J6_getChars_ba4f3 22 [some (.int (-x0)), w1, some (.ref (a2 + 1000)), w3, w4, some (.int x5), some (.int x6)] [] h r) : tr_L g d m_J6_getChars_ba4f3 19 [some (.int x0), w1, some (.ref (a2 + 1000)), w3, w4, some (.int x5), some (.int x6)] [] h r := by
  refine tr_s (.iload_n 0) 1 20 [some (.int x0), w1, some (.ref (a2 + 1000)), w3, w4, some (.int x5), some (.int x6)] [.int x0] h rfl rfl rfl ?_
  refine tr_s .ineg 1 21 [some (.int x0), w1, some (.ref (a2 + 1000)), w3, w4, some (.int x5), some (.int x6)] [.int (-x0)] h rfl rfl rfl ?_
  refine tr_st (.istore_n 0) 1 0 0 (.int (-x0)) rfl rfl rfl rfl rfl rfl rfl ?_
  exact k
theorem sg_J6_getChars_ba4f3_22 {g : tr_g} {d : Nat} {h : ev_AH} {r : ev_O × ev_AH} {x0 x5 x6 : Int32} {w1 w3 w4 : Option Value} {a2 : Nat} (hL : hh_L h) (t : (-100) < x0 → tr_L g d m_J6_getChars_ba4f3 72 [some (.int x0), w1, some (.ref (a2 + 1000)), w3, w4, some (.int x5), some (.int x6)] [] h r) (f : x0 ≤ (-100) → tr_L g d m_J6_getChars_ba4f3 28 [some (.int x0), w1, some (.ref (a2 + 1000)), w3, w4, some (.int x5), some (.int x6)] [] h r) : tr_L g d m_J6_getChars_ba4f3 22 [some (.int x0), w1, some (.ref (a2 + 1000)), w3, w4, some (.int x5), some (.int x6)] [] h r := by
  refine tr_s (.iload_n 0) 1 23 [some (.int x0), w1, some (.ref (a2 + 1000)), w3, w4, some (.int x5), some (.int x6)] [.int x0] h rfl rfl rfl ?_
  refine tr_bi (-100) (-100) (by decide) rfl ?_
  exact tr_if2 .gt 47 72 x0 (-100) rfl rfl rfl (fun hc => t ((tr_gt hc).1 rfl)) (fun hc => f ((tr_gt hc).2 rfl))
theorem sg_J6_getChars_ba4f3_28 {g : tr_g} {d : Nat} {h : ev_AH} {r : ev_O × ev_AH} {x0 x5 x6 : Int32} {w1 w3 w4 : Option Value} {a2 j0 j1 j2 j3 : Nat} {l0 l1 : List Int32} (hL : hh_L h) (e0 : ((x0 / 100) * 100) - x0 = Int32.ofNat j0) (b0 : j0 < 100) (e1 : x5 + (-1) = Int32.ofNat j1) (hb0 : vp_nar .byte (dg_901.getD j0 0) = (dg_901.getD j0 0)) (m0 : h.1[a2]? = some (.inl (2, l0))) (z0 : l0.length < 2147483648) (b1 : j1 < l0.length) (e2 : ((x0 / 100) * 100) - x0 = Int32.ofNat j2) (b2 : j2 < 100) (e3 : (x5 + (-1)) + (-1) = Int32.ofNat j3) (hb1 : vp_nar .byte (dg_900.getD j2 0) = (dg_900.getD j2 0)) (m1 : (ev_wr h (a2 + 1000) (.inl (2, l0.set j1 (dg_901.getD j0 0)))).1[a2]? = some (.inl (2, l1))) (z1 : l1.length < 2147483648) (b3 : j3 < l1.length) (k : tr_L g d m_J6_getChars_ba4f3 22 [some (.int (x0 / 100)), w1, some (.ref (a2 + 1000)), some (.int (x0 / 100)), some (.int (((x0 / 100) * 100) - x0)), some (.int ((x5 + (-1)) + (-1))), some (.int x6)] [] (ev_wr (ev_wr h (a2 + 1000) (.inl (2, l0.set j1 (dg_901.getD j0 0)))) (a2 + 1000) (.inl (2, l1.set j3 (dg_900.getD j2 0)))) r) : tr_L g d m_J6_getChars_ba4f3 28 [some (.int x0), w1, some (.ref (a2 + 1000)), w3, w4, some (.int x5), some (.int x6)] [] h r := by
  refine tr_s (.iload_n 0) 1 29 [some (.int x0), w1, some (.ref (a2 + 1000)), w3, w4, some (.int x5), some (.int x6)] [.int x0] h rfl rfl rfl ?_
  refine tr_bi 100 100 (by decide) rfl ?_
  refine tr_s .idiv 1 32 [some (.int x0), w1, some (.ref (a2 + 1000)), w3, w4, some (.int x5), some (.int x6)] [.int (x0 / 100)] h rfl rfl rfl ?_
  refine tr_st (.istore_n 3) 1 3 0 (.int (x0 / 100)) rfl rfl rfl rfl rfl rfl rfl ?_
  refine tr_s (.iload_n 3) 1 34 [some (.int x0), w1, some (.ref (a2 + 1000)), some (.int (x0 / 100)), w4, some (.int x5), some (.int x6)] [.int (x0 / 100)] h rfl rfl rfl ?_
  refine tr_bi 100 100 (by decide) rfl ?_
  refine tr_s .imul 1 37 [some (.int x0), w1, some (.ref (a2 + 1000)), some (.int (x0 / 100)), w4, some (.int x5), some (.int x6)] [.int ((x0 / 100) * 100)] h rfl rfl rfl ?_
  refine tr_s (.iload_n 0) 1 38 [some (.int x0), w1, some (.ref (a2 + 1000)), some (.int (x0 / 100)), w4, some (.int x5), some (.int x6)] [.int x0, .int ((x0 / 100) * 100)] h rfl rfl rfl ?_
  refine tr_s .isub 1 39 [some (.int x0), w1, some (.ref (a2 + 1000)), some (.int (x0 / 100)), w4, some (.int x5), some (.int x6)] [.int (((x0 / 100) * 100) - x0)] h rfl rfl rfl ?_
  refine tr_st (.istore 4) 2 4 0 (.int (((x0 / 100) * 100) - x0)) rfl rfl rfl rfl rfl rfl rfl ?_
  refine tr_s (.iload_n 3) 1 42 [some (.int x0), w1, some (.ref (a2 + 1000)), some (.int (x0 / 100)), some (.int (((x0 / 100) * 100) - x0)), some (.int x5), some (.int x6)] [.int (x0 / 100)] h rfl rfl rfl ?_
  refine tr_st (.istore_n 0) 1 0 0 (.int (x0 / 100)) rfl rfl rfl rfl rfl rfl rfl ?_
  refine tr_s (.aload_n 2) 1 44 [some (.int (x0 / 100)), w1, some (.ref (a2 + 1000)), some (.int (x0 / 100)), some (.int (((x0 / 100) * 100) - x0)), some (.int x5), some (.int x6)] [.ref (a2 + 1000)] h rfl rfl rfl ?_
  refine tr_inc 5 (-1) x5 (-1) (by decide) rfl rfl rfl ?_
  refine tr_s (.iload 5) 2 49 [some (.int (x0 / 100)), w1, some (.ref (a2 + 1000)), some (.int (x0 / 100)), some (.int (((x0 / 100) * 100) - x0)), some (.int (x5 + (-1))), some (.int x6)] [.int (x5 + (-1)), .ref (a2 + 1000)] h rfl rfl rfl ?_
  refine tr_s (.getstatic 83) 3 52 [some (.int (x0 / 100)), w1, some (.ref (a2 + 1000)), some (.int (x0 / 100)), some (.int (((x0 / 100) * 100) - x0)), some (.int (x5 + (-1))), some (.int x6)] [.ref 901, .int (x5 + (-1)), .ref (a2 + 1000)] h rfl rfl rfl ?_
  refine tr_s (.iload 4) 2 54 [some (.int (x0 / 100)), w1, some (.ref (a2 + 1000)), some (.int (x0 / 100)), some (.int (((x0 / 100) * 100) - x0)), some (.int (x5 + (-1))), some (.int x6)] [.int (((x0 / 100) * 100) - x0), .ref 901, .int (x5 + (-1)), .ref (a2 + 1000)] h rfl rfl rfl ?_
  refine tr_ald .baload 2 901 j0 (((x0 / 100) * 100) - x0) dg_901 (Or.inr (Or.inr ⟨rfl, rfl⟩)) rfl rfl e0 b0 (by decide) ?_
  refine tr_bas (a2 + 1000) j1 (x5 + (-1)) (dg_901.getD j0 0) l0 rfl (by omega) (by rw [Nat.add_sub_cancel]; exact m0) e1 b1 z0 hb0 ?_
  refine tr_s (.aload_n 2) 1 57 [some (.int (x0 / 100)), w1, some (.ref (a2 + 1000)), some (.int (x0 / 100)), some (.int (((x0 / 100) * 100) - x0)), some (.int (x5 + (-1))), some (.int x6)] [.ref (a2 + 1000)] (ev_wr h (a2 + 1000) (.inl (2, l0.set j1 (dg_901.getD j0 0)))) rfl rfl rfl ?_
  refine tr_inc 5 (-1) (x5 + (-1)) (-1) (by decide) rfl rfl rfl ?_
  refine tr_s (.iload 5) 2 62 [some (.int (x0 / 100)), w1, some (.ref (a2 + 1000)), some (.int (x0 / 100)), some (.int (((x0 / 100) * 100) - x0)), some (.int ((x5 + (-1)) + (-1))), some (.int x6)] [.int ((x5 + (-1)) + (-1)), .ref (a2 + 1000)] (ev_wr h (a2 + 1000) (.inl (2, l0.set j1 (dg_901.getD j0 0)))) rfl rfl rfl ?_
  refine tr_s (.getstatic 87) 3 65 [some (.int (x0 / 100)), w1, some (.ref (a2 + 1000)), some (.int (x0 / 100)), some (.int (((x0 / 100) * 100) - x0)), some (.int ((x5 + (-1)) + (-1))), some (.int x6)] [.ref 900, .int ((x5 + (-1)) + (-1)), .ref (a2 + 1000)] (ev_wr h (a2 + 1000) (.inl (2, l0.set j1 (dg_901.getD j0 0)))) rfl rfl rfl ?_
  refine tr_s (.iload 4) 2 67 [some (.int (x0 / 100)), w1, some (.ref (a2 + 1000)), some (.int (x0 / 100)), some (.int (((x0 / 100) * 100) - x0)), some (.int ((x5 + (-1)) + (-1))), some (.int x6)] [.int (((x0 / 100) * 100) - x0), .ref 900, .int ((x5 + (-1)) + (-1)), .ref (a2 + 1000)] (ev_wr h (a2 + 1000) (.inl (2, l0.set j1 (dg_901.getD j0 0)))) rfl rfl rfl ?_
  refine tr_ald .baload 2 900 j2 (((x0 / 100) * 100) - x0) dg_900 (Or.inr (Or.inr ⟨rfl, rfl⟩)) rfl rfl e2 b2 (by decide) ?_
  refine tr_bas (a2 + 1000) j3 ((x5 + (-1)) + (-1)) (dg_900.getD j2 0) l1 rfl (by omega) (by rw [Nat.add_sub_cancel]; exact m1) e3 b3 z1 hb1 ?_
  refine tr_goto (-47) 22 rfl rfl rfl ?_
  exact k
theorem sg_J6_getChars_ba4f3_72 {g : tr_g} {d : Nat} {h : ev_AH} {r : ev_O × ev_AH} {x0 x5 x6 : Int32} {w1 w3 w4 : Option Value} {a2 j0 j1 : Nat} {l0 : List Int32} (hL : hh_L h) (o4 : tr_ow w4 = true) (e0 : -x0 = Int32.ofNat j0) (b0 : j0 < 100) (e1 : x5 + (-1) = Int32.ofNat j1) (hb0 : vp_nar .byte (dg_901.getD j0 0) = (dg_901.getD j0 0)) (m0 : h.1[a2]? = some (.inl (2, l0))) (z0 : l0.length < 2147483648) (b1 : j1 < l0.length) (t : (-9) ≤ x0 → tr_L g d m_J6_getChars_ba4f3 104 [some (.int x0), w1, some (.ref (a2 + 1000)), w3, w4, some (.int (x5 + (-1))), some (.int x6)] [] (ev_wr h (a2 + 1000) (.inl (2, l0.set j1 (dg_901.getD j0 0)))) r) (f : x0 < (-9) → tr_L g d m_J6_getChars_ba4f3 91 [some (.int x0), w1, some (.ref (a2 + 1000)), w3, w4, some (.int (x5 + (-1))), some (.int x6)] [] (ev_wr h (a2 + 1000) (.inl (2, l0.set j1 (dg_901.getD j0 0)))) r) : tr_L g d m_J6_getChars_ba4f3 72 [some (.int x0), w1, some (.ref (a2 + 1000)), w3, w4, some (.int x5), some (.int x6)] [] h r := by
  refine tr_s (.aload_n 2) 1 73 [some (.int x0), w1, some (.ref (a2 + 1000)), w3, w4, some (.int x5), some (.int x6)] [.ref (a2 + 1000)] h rfl rfl rfl ?_
  refine tr_inc 5 (-1) x5 (-1) (by decide) rfl rfl (tr_sok (Nat.le_of_ble_eq_true rfl) rfl o4) ?_
  refine tr_s (.iload 5) 2 78 [some (.int x0), w1, some (.ref (a2 + 1000)), w3, w4, some (.int (x5 + (-1))), some (.int x6)] [.int (x5 + (-1)), .ref (a2 + 1000)] h rfl rfl rfl ?_
  refine tr_s (.getstatic 83) 3 81 [some (.int x0), w1, some (.ref (a2 + 1000)), w3, w4, some (.int (x5 + (-1))), some (.int x6)] [.ref 901, .int (x5 + (-1)), .ref (a2 + 1000)] h rfl rfl rfl ?_
  refine tr_s (.iload_n 0) 1 82 [some (.int x0), w1, some (.ref (a2 + 1000)), w3, w4, some (.int (x5 + (-1))), some (.int x6)] [.int x0, .ref 901, .int (x5 + (-1)), .ref (a2 + 1000)] h rfl rfl rfl ?_
  refine tr_s .ineg 1 83 [some (.int x0), w1, some (.ref (a2 + 1000)), w3, w4, some (.int (x5 + (-1))), some (.int x6)] [.int (-x0), .ref 901, .int (x5 + (-1)), .ref (a2 + 1000)] h rfl rfl rfl ?_
  refine tr_ald .baload 2 901 j0 (-x0) dg_901 (Or.inr (Or.inr ⟨rfl, rfl⟩)) rfl rfl e0 b0 (by decide) ?_
  refine tr_bas (a2 + 1000) j1 (x5 + (-1)) (dg_901.getD j0 0) l0 rfl (by omega) (by rw [Nat.add_sub_cancel]; exact m0) e1 b1 z0 hb0 ?_
  refine tr_s (.iload_n 0) 1 86 [some (.int x0), w1, some (.ref (a2 + 1000)), w3, w4, some (.int (x5 + (-1))), some (.int x6)] [.int x0] (ev_wr h (a2 + 1000) (.inl (2, l0.set j1 (dg_901.getD j0 0)))) rfl rfl rfl ?_
  refine tr_bi (-9) (-9) (by decide) rfl ?_
  exact tr_if2 .ge 16 104 x0 (-9) rfl rfl rfl (fun hc => t ((tr_ge hc).1 rfl)) (fun hc => f ((tr_ge hc).2 rfl))
theorem sg_J6_getChars_ba4f3_91 {g : tr_g} {d : Nat} {h : ev_AH} {r : ev_O × ev_AH} {x0 x5 x6 : Int32} {w1 w3 w4 : Option Value} {a2 j0 j1 : Nat} {l0 : List Int32} (hL : hh_L h) (o4 : tr_ow w4 = true) (e0 : -x0 = Int32.ofNat j0) (b0 : j0 < 100) (e1 : x5 + (-1) = Int32.ofNat j1) (hb0 : vp_nar .byte (dg_900.getD j0 0) = (dg_900.getD j0 0)) (m0 : h.1[a2]? = some (.inl (2, l0))) (z0 : l0.length < 2147483648) (b1 : j1 < l0.length) (k : tr_L g d m_J6_getChars_ba4f3 104 [some (.int x0), w1, some (.ref (a2 + 1000)), w3, w4, some (.int (x5 + (-1))), some (.int x6)] [] (ev_wr h (a2 + 1000) (.inl (2, l0.set j1 (dg_900.getD j0 0)))) r) : tr_L g d m_J6_getChars_ba4f3 91 [some (.int x0), w1, some (.ref (a2 + 1000)), w3, w4, some (.int x5), some (.int x6)] [] h r := by
  refine tr_s (.aload_n 2) 1 92 [some (.int x0), w1, some (.ref (a2 + 1000)), w3, w4, some (.int x5), some (.int x6)] [.ref (a2 + 1000)] h rfl rfl rfl ?_
  refine tr_inc 5 (-1) x5 (-1) (by decide) rfl rfl (tr_sok (Nat.le_of_ble_eq_true rfl) rfl o4) ?_
  refine tr_s (.iload 5) 2 97 [some (.int x0), w1, some (.ref (a2 + 1000)), w3, w4, some (.int (x5 + (-1))), some (.int x6)] [.int (x5 + (-1)), .ref (a2 + 1000)] h rfl rfl rfl ?_
  refine tr_s (.getstatic 87) 3 100 [some (.int x0), w1, some (.ref (a2 + 1000)), w3, w4, some (.int (x5 + (-1))), some (.int x6)] [.ref 900, .int (x5 + (-1)), .ref (a2 + 1000)] h rfl rfl rfl ?_
  refine tr_s (.iload_n 0) 1 101 [some (.int x0), w1, some (.ref (a2 + 1000)), w3, w4, some (.int (x5 + (-1))), some (.int x6)] [.int x0, .ref 900, .int (x5 + (-1)), .ref (a2 + 1000)] h rfl rfl rfl ?_
  refine tr_s .ineg 1 102 [some (.int x0), w1, some (.ref (a2 + 1000)), w3, w4, some (.int (x5 + (-1))), some (.int x6)] [.int (-x0), .ref 900, .int (x5 + (-1)), .ref (a2 + 1000)] h rfl rfl rfl ?_
  refine tr_ald .baload 2 900 j0 (-x0) dg_900 (Or.inr (Or.inr ⟨rfl, rfl⟩)) rfl rfl e0 b0 (by decide) ?_
  refine tr_bas (a2 + 1000) j1 (x5 + (-1)) (dg_900.getD j0 0) l0 rfl (by omega) (by rw [Nat.add_sub_cancel]; exact m0) e1 b1 z0 hb0 ?_
  exact k
theorem sg_J6_getChars_ba4f3_104 {g : tr_g} {d : Nat} {h : ev_AH} {r : ev_O × ev_AH} {w0 w1 w3 w4 : Option Value} {a2 : Nat} {x5 x6 : Int32} (hL : hh_L h) (t : x6 = 0 → tr_L g d m_J6_getChars_ba4f3 118 [w0, w1, some (.ref (a2 + 1000)), w3, w4, some (.int x5), some (.int x6)] [] h r) (f : x6 ≠ 0 → tr_L g d m_J6_getChars_ba4f3 109 [w0, w1, some (.ref (a2 + 1000)), w3, w4, some (.int x5), some (.int x6)] [] h r) : tr_L g d m_J6_getChars_ba4f3 104 [w0, w1, some (.ref (a2 + 1000)), w3, w4, some (.int x5), some (.int x6)] [] h r := by
  refine tr_s (.iload 6) 2 106 [w0, w1, some (.ref (a2 + 1000)), w3, w4, some (.int x5), some (.int x6)] [.int x6] h rfl rfl rfl ?_
  exact tr_if1 .eq 12 118 x6 rfl rfl rfl (fun hc => t ((tr_eq hc).1 rfl)) (fun hc => f ((tr_eq hc).2 rfl))
theorem sg_J6_getChars_ba4f3_109 {g : tr_g} {d : Nat} {h : ev_AH} {r : ev_O × ev_AH} {w0 w1 w3 w4 w6 : Option Value} {a2 j0 : Nat} {x5 : Int32} {l0 : List Int32} (hL : hh_L h) (o4 : tr_ow w4 = true) (e0 : x5 + (-1) = Int32.ofNat j0) (hb0 : vp_nar .byte 45 = 45) (m0 : h.1[a2]? = some (.inl (2, l0))) (z0 : l0.length < 2147483648) (b0 : j0 < l0.length) (hr : r = (.inl (some (.int (x5 + (-1)))), ev_wr h (a2 + 1000) (.inl (2, l0.set j0 45)))) (hLe : hh_L (ev_wr h (a2 + 1000) (.inl (2, l0.set j0 45)))) : tr_L g d m_J6_getChars_ba4f3 109 [w0, w1, some (.ref (a2 + 1000)), w3, w4, some (.int x5), w6] [] h r := by
  refine tr_s (.aload_n 2) 1 110 [w0, w1, some (.ref (a2 + 1000)), w3, w4, some (.int x5), w6] [.ref (a2 + 1000)] h rfl rfl rfl ?_
  refine tr_inc 5 (-1) x5 (-1) (by decide) rfl rfl (tr_sok (Nat.le_of_ble_eq_true rfl) rfl o4) ?_
  refine tr_s (.iload 5) 2 115 [w0, w1, some (.ref (a2 + 1000)), w3, w4, some (.int (x5 + (-1))), w6] [.int (x5 + (-1)), .ref (a2 + 1000)] h rfl rfl rfl ?_
  refine tr_bi 45 45 (by decide) rfl ?_
  refine tr_bas (a2 + 1000) j0 (x5 + (-1)) 45 l0 rfl (by omega) (by rw [Nat.add_sub_cancel]; exact m0) e0 b0 z0 hb0 ?_
  refine tr_s (.iload 5) 2 120 [w0, w1, some (.ref (a2 + 1000)), w3, w4, some (.int (x5 + (-1))), w6] [.int (x5 + (-1))] (ev_wr h (a2 + 1000) (.inl (2, l0.set j0 45))) rfl rfl rfl ?_
  exact tl_ret hLe .ireturn 1 (some (.int (x5 + (-1)))) rfl rfl rfl rfl hr
theorem sg_J6_getChars_ba4f3_118 {g : tr_g} {d : Nat} {h : ev_AH} {r : ev_O × ev_AH} {w0 w1 w2 w3 w4 w6 : Option Value} {x5 : Int32} (hL : hh_L h) (hr : r = (.inl (some (.int x5)), h)) : tr_L g d m_J6_getChars_ba4f3 118 [w0, w1, w2, w3, w4, some (.int x5), w6] [] h r := by
  refine tr_s (.iload 5) 2 120 [w0, w1, w2, w3, w4, some (.int x5), w6] [.int x5] h rfl rfl rfl ?_
  exact tl_ret hL .ireturn 1 (some (.int x5)) rfl rfl rfl rfl hr
theorem sg_J0_checkIndex_df160_0 {g : tr_g} {d : Nat} {h : ev_AH} {r : ev_O × ev_AH} {x0 x1 v0 : Int32} {h1 : ev_AH} (hL : hh_L h) (hg : ev_cat1 g.2 = true) (c_0 : tr_L g d m_J3_checkIndex_8e157 0 [some (.int x0), some (.int x1), some (g.2)] [] h (.inl (some (.int v0)), h1)) (hr : r = (.inl (none), h1)) : tr_L g (d + 1) m_J0_checkIndex_df160 0 [some (.int x0), some (.int x1)] [] h r := by
  refine tr_s (.iload_n 0) 1 1 [some (.int x0), some (.int x1)] [.int x0] h rfl rfl rfl ?_
  refine tr_s (.iload_n 1) 1 2 [some (.int x0), some (.int x1)] [.int x1, .int x0] h rfl rfl rfl ?_
  refine tr_s (.getstatic 1053) 3 5 [some (.int x0), some (.int x1)] [g.2, .int x1, .int x0] h rfl rfl rfl ?_
  refine tr_call (.invokestatic 1059) 1059 2 3 0 m_J3_checkIndex_8e157 [.int x0, .int x1, g.2] [] (some (.int v0)) h1 rfl rfl rfl rfl rfl rfl rfl rfl rfl (tr_cok (by rw [List.all_cons, List.all_cons, List.all_cons, hg]; rfl) (Or.inl rfl)) c_0 ?_
  have hL0 := c_0.2
  refine tr_s .pop 1 9 [some (.int x0), some (.int x1)] [] h1 rfl rfl rfl ?_
  exact tl_ret hL0 .return_ 1 none rfl rfl rfl rfl hr
theorem sg_J3_checkIndex_8e157_0 {g : tr_g} {d : Nat} {h : ev_AH} {r : ev_O × ev_AH} {x0 x1 : Int32} (hL : hh_L h) (t : x0 < 0 → tr_L g d m_J3_checkIndex_8e157 9 [some (.int x0), some (.int x1), some (g.2)] [] h r) (f : 0 ≤ x0 → tr_L g d m_J3_checkIndex_8e157 4 [some (.int x0), some (.int x1), some (g.2)] [] h r) : tr_L g d m_J3_checkIndex_8e157 0 [some (.int x0), some (.int x1), some (g.2)] [] h r := by
  refine tr_s (.iload_n 0) 1 1 [some (.int x0), some (.int x1), some (g.2)] [.int x0] h rfl rfl rfl ?_
  exact tr_if1 .lt 8 9 x0 rfl rfl rfl (fun hc => t ((tr_lt hc).1 rfl)) (fun hc => f ((tr_lt hc).2 rfl))
theorem sg_J3_checkIndex_8e157_4 {g : tr_g} {d : Nat} {h : ev_AH} {r : ev_O × ev_AH} {x0 x1 : Int32} (hL : hh_L h) (t : x0 < x1 → tr_L g d m_J3_checkIndex_8e157 16 [some (.int x0), some (.int x1), some (g.2)] [] h r) (f : x1 ≤ x0 → tr_L g d m_J3_checkIndex_8e157 9 [some (.int x0), some (.int x1), some (g.2)] [] h r) : tr_L g d m_J3_checkIndex_8e157 4 [some (.int x0), some (.int x1), some (g.2)] [] h r := by
  refine tr_s (.iload_n 0) 1 5 [some (.int x0), some (.int x1), some (g.2)] [.int x0] h rfl rfl rfl ?_
  refine tr_s (.iload_n 1) 1 6 [some (.int x0), some (.int x1), some (g.2)] [.int x1, .int x0] h rfl rfl rfl ?_
  exact tr_if2 .lt 10 16 x0 x1 rfl rfl rfl (fun hc => t ((tr_lt hc).1 rfl)) (fun hc => f ((tr_lt hc).2 rfl))
theorem sg_J3_checkIndex_8e157_16 {g : tr_g} {d : Nat} {h : ev_AH} {r : ev_O × ev_AH} {x0 : Int32} {w1 w2 : Option Value} (hL : hh_L h) (hr : r = (.inl (some (.int x0)), h)) : tr_L g d m_J3_checkIndex_8e157 16 [some (.int x0), w1, w2] [] h r := by
  refine tr_s (.iload_n 0) 1 17 [some (.int x0), w1, w2] [.int x0] h rfl rfl rfl ?_
  exact tl_ret hL .ireturn 1 (some (.int x0)) rfl rfl rfl rfl hr
theorem sg_J0_length_8abf5_0 {g : tr_g} {d : Nat} {h : ev_AH} {r : ev_O × ev_AH} {a0 c0 : Nat} {vs0 : List Value} {l0 : List Int32} {h1 : ev_AH} {v0 : Int32} (hL : hh_L h) (m0 : ev_rd (tr_G g) h a0 = some (.inr (8, vs0))) (p0 : vs0[0]? = some (.ref c0)) (m1 : ev_rd (tr_G g) h c0 = some (.inl (2, l0))) (z0 : l0.length < 2147483648) (c_0 : tr_L g d m_J0_coder_7d493 0 [some (.ref a0)] [] h (.inl (some (.int v0)), h1)) (hr : r = (.inl (some (.int ((Int32.ofNat l0.length) >>> (v0 &&& 31)))), h1)) : tr_L g (d + 1) m_J0_length_8abf5 0 [some (.ref a0)] [] h r := by
  refine tr_s (.aload_n 0) 1 1 [some (.ref a0)] [.ref a0] h rfl rfl rfl ?_
  refine tr_gf 9 _ 8 0 vs0 _ rfl rfl m0 p0 ?_
  refine tr_alen _ 2 l0 rfl m1 (by decide) ?_
  refine tr_s (.aload_n 0) 1 6 [some (.ref a0)] [.ref a0, .int (Int32.ofNat l0.length)] h rfl rfl rfl ?_
  refine tr_call (.invokevirtual 335) 335 0 0 8 m_J0_coder_7d493 [.ref a0] [.int (Int32.ofNat l0.length)] (some (.int v0)) h1 rfl rfl rfl rfl rfl rfl rfl rfl rfl (tr_cok rfl (Or.inr ⟨_, _, rfl, tr_rc m0 (by decide)⟩)) c_0 ?_
  have hL0 := c_0.2
  refine tr_s .ishr 1 10 [some (.ref a0)] [.int ((Int32.ofNat l0.length) >>> (v0 &&& 31))] h1 rfl rfl rfl ?_
  exact tl_ret hL0 .ireturn 1 (some (.int ((Int32.ofNat l0.length) >>> (v0 &&& 31)))) rfl rfl rfl rfl hr
theorem sg_J0_coder_7d493_0 {g : tr_g} {d : Nat} {h : ev_AH} {r : ev_O × ev_AH} {a0 : Nat} (hL : hh_L h) (t : (1 : Int32) = 0 → tr_L g d m_J0_coder_7d493 13 [some (.ref a0)] [] h r) (f : (1 : Int32) ≠ 0 → tr_L g d m_J0_coder_7d493 6 [some (.ref a0)] [] h r) : tr_L g d m_J0_coder_7d493 0 [some (.ref a0)] [] h r := by
  refine tr_s (.getstatic 38) 3 3 [some (.ref a0)] [.int 1] h rfl rfl rfl ?_
  exact tr_if1 .eq 10 13 1 rfl rfl rfl (fun hc => t ((tr_eq hc).1 rfl)) (fun hc => f ((tr_eq hc).2 rfl))
theorem sg_J0_coder_7d493_6 {g : tr_g} {d : Nat} {h : ev_AH} {r : ev_O × ev_AH} {a0 : Nat} {vs0 : List Value} {y0 : Int32} (hL : hh_L h) (m0 : ev_rd (tr_G g) h a0 = some (.inr (8, vs0))) (p0 : vs0[1]? = some (.int y0)) (hy0 : narrow .byte (.int y0) = .int y0) (hr : r = (.inl (some (.int y0)), h)) : tr_L g d m_J0_coder_7d493 6 [some (.ref a0)] [] h r := by
  refine tr_s (.aload_n 0) 1 7 [some (.ref a0)] [.ref a0] h rfl rfl rfl ?_
  refine tr_gf 15 _ 8 1 vs0 _ rfl rfl m0 p0 ?_
  refine tr_goto 4 14 rfl rfl rfl ?_
  exact tl_ret hL .ireturn 1 (some (.int y0)) rfl rfl rfl (tr_ey rfl hy0) hr
theorem sg_J0_coder_7d493_13 {g : tr_g} {d : Nat} {h : ev_AH} {r : ev_O × ev_AH} {w0 : Option Value} (hL : hh_L h) (hy0 : narrow .byte (.int 1) = .int 1) (hr : r = (.inl (some (.int 1)), h)) : tr_L g d m_J0_coder_7d493 13 [w0] [] h r := by
  refine tr_ic 1 1 (by decide) rfl ?_
  exact tl_ret hL .ireturn 1 (some (.int 1)) rfl rfl rfl (tr_ey rfl hy0) hr
theorem sg_J0_charAt_5068e_0 {g : tr_g} {d : Nat} {h : ev_AH} {r : ev_O × ev_AH} {a0 : Nat} {x1 v0 : Int32} {h1 : ev_AH} {vs0 : List Value} (hL : hh_L h) (m0 : ev_rd (tr_G g) h a0 = some (.inr (8, vs0))) (c_0 : tr_L g d m_J0_isLatin1_aae02 0 [some (.ref a0)] [] h (.inl (some (.int v0)), h1)) (t : v0 = 0 → tr_L g (d + 1) m_J0_charAt_5068e 16 [some (.ref a0), some (.int x1)] [] h1 r) (f : v0 ≠ 0 → tr_L g (d + 1) m_J0_charAt_5068e 7 [some (.ref a0), some (.int x1)] [] h1 r) : tr_L g (d + 1) m_J0_charAt_5068e 0 [some (.ref a0), some (.int x1)] [] h r := by
  refine tr_s (.aload_n 0) 1 1 [some (.ref a0), some (.int x1)] [.ref a0] h rfl rfl rfl ?_
  refine tr_call (.invokevirtual 492) 492 0 0 8 m_J0_isLatin1_aae02 [.ref a0] [] (some (.int v0)) h1 rfl rfl rfl rfl rfl rfl rfl rfl rfl (tr_cok rfl (Or.inr ⟨_, _, rfl, tr_rc m0 (by decide)⟩)) c_0 ?_
  have hL0 := c_0.2
  exact tr_if1 .eq 12 16 v0 rfl rfl rfl (fun hc => t ((tr_eq hc).1 rfl)) (fun hc => f ((tr_eq hc).2 rfl))
theorem sg_J0_charAt_5068e_7 {g : tr_g} {d : Nat} {h : ev_AH} {r : ev_O × ev_AH} {a0 c0 : Nat} {x1 v0 : Int32} {vs0 : List Value} {h1 : ev_AH} (hL : hh_L h) (m0 : ev_rd (tr_G g) h a0 = some (.inr (8, vs0))) (p0 : vs0[0]? = some (.ref c0)) (c_0 : tr_L g d m_J1_charAt_3b067 0 [some (.ref c0), some (.int x1)] [] h (.inl (some (.int v0)), h1)) (hc0 : tr_ch v0) (hr : r = (.inl (some (.int v0)), h1)) : tr_L g (d + 1) m_J0_charAt_5068e 7 [some (.ref a0), some (.int x1)] [] h r := by
  refine tr_s (.aload_n 0) 1 8 [some (.ref a0), some (.int x1)] [.ref a0] h rfl rfl rfl ?_
  refine tr_gf 9 _ 8 0 vs0 _ rfl rfl m0 p0 ?_
  refine tr_s (.iload_n 1) 1 12 [some (.ref a0), some (.int x1)] [.int x1, .ref c0] h rfl rfl rfl ?_
  refine tr_call (.invokestatic 495) 495 2 2 0 m_J1_charAt_3b067 [.ref c0, .int x1] [] (some (.int v0)) h1 rfl rfl rfl rfl rfl rfl rfl rfl rfl (tr_cok rfl (Or.inl rfl)) c_0 ?_
  have hL0 := c_0.2
  exact tl_ret hL0 .ireturn 1 (some (.int v0)) rfl rfl rfl (tr_ec rfl hc0) hr
theorem sg_J0_isLatin1_aae02_0 {g : tr_g} {d : Nat} {h : ev_AH} {r : ev_O × ev_AH} {a0 : Nat} (hL : hh_L h) (t : (1 : Int32) = 0 → tr_L g d m_J0_isLatin1_aae02 17 [some (.ref a0)] [] h r) (f : (1 : Int32) ≠ 0 → tr_L g d m_J0_isLatin1_aae02 6 [some (.ref a0)] [] h r) : tr_L g d m_J0_isLatin1_aae02 0 [some (.ref a0)] [] h r := by
  refine tr_s (.getstatic 38) 3 3 [some (.ref a0)] [.int 1] h rfl rfl rfl ?_
  exact tr_if1 .eq 14 17 1 rfl rfl rfl (fun hc => t ((tr_eq hc).1 rfl)) (fun hc => f ((tr_eq hc).2 rfl))
theorem sg_J0_isLatin1_aae02_6 {g : tr_g} {d : Nat} {h : ev_AH} {r : ev_O × ev_AH} {a0 : Nat} {vs0 : List Value} {y0 : Int32} (hL : hh_L h) (m0 : ev_rd (tr_G g) h a0 = some (.inr (8, vs0))) (p0 : vs0[1]? = some (.int y0)) (t : y0 ≠ 0 → tr_L g d m_J0_isLatin1_aae02 17 [some (.ref a0)] [] h r) (f : y0 = 0 → tr_L g d m_J0_isLatin1_aae02 13 [some (.ref a0)] [] h r) : tr_L g d m_J0_isLatin1_aae02 6 [some (.ref a0)] [] h r := by
  refine tr_s (.aload_n 0) 1 7 [some (.ref a0)] [.ref a0] h rfl rfl rfl ?_
  refine tr_gf 15 _ 8 1 vs0 _ rfl rfl m0 p0 ?_
  exact tr_if1 .ne 7 17 y0 rfl rfl rfl (fun hc => t ((tr_ne hc).1 rfl)) (fun hc => f ((tr_ne hc).2 rfl))
theorem sg_J0_isLatin1_aae02_13 {g : tr_g} {d : Nat} {h : ev_AH} {r : ev_O × ev_AH} {w0 : Option Value} (hL : hh_L h) (hr : r = (.inl (some (.int 1)), h)) : tr_L g d m_J0_isLatin1_aae02 13 [w0] [] h r := by
  refine tr_ic 1 1 (by decide) rfl ?_
  refine tr_goto 4 18 rfl rfl rfl ?_
  exact tl_ret hL .ireturn 1 (some (.int 1)) rfl rfl rfl rfl hr
theorem sg_J0_isLatin1_aae02_17 {g : tr_g} {d : Nat} {h : ev_AH} {r : ev_O × ev_AH} {w0 : Option Value} (hL : hh_L h) (hr : r = (.inl (some (.int 0)), h)) : tr_L g d m_J0_isLatin1_aae02 17 [w0] [] h r := by
  refine tr_ic 0 0 (by decide) rfl ?_
  exact tl_ret hL .ireturn 1 (some (.int 0)) rfl rfl rfl rfl hr
theorem sg_J1_charAt_3b067_0 {g : tr_g} {d : Nat} {h : ev_AH} {r : ev_O × ev_AH} {a0 j0 : Nat} {x1 : Int32} {l0 l1 : List Int32} {h1 : ev_AH} (hL : hh_L h) (m0 : ev_rd (tr_G g) h a0 = some (.inl (2, l0))) (z0 : l0.length < 2147483648) (c_0 : tr_L g d m_J0_checkIndex_df160 0 [some (.int x1), some (.int (Int32.ofNat l0.length))] [] h (.inl none, h1)) (e0 : x1 = Int32.ofNat j0) (m1 : ev_rd (tr_G g) h1 a0 = some (.inl (2, l1))) (z1 : l1.length < 2147483648) (b0 : j0 < l1.length) (hc0 : tr_ch ((((l1.getD j0 0) &&& 255).toUInt32 % 65536).toInt32)) (hr : r = (.inl (some (.int ((((l1.getD j0 0) &&& 255).toUInt32 % 65536).toInt32))), h1)) : tr_L g (d + 1) m_J1_charAt_3b067 0 [some (.ref a0), some (.int x1)] [] h r := by
  refine tr_s (.iload_n 1) 1 1 [some (.ref a0), some (.int x1)] [.int x1] h rfl rfl rfl ?_
  refine tr_s (.aload_n 0) 1 2 [some (.ref a0), some (.int x1)] [.ref a0, .int x1] h rfl rfl rfl ?_
  refine tr_alen _ 2 l0 rfl m0 (by decide) ?_
  refine tr_call (.invokestatic 9) 9 2 2 0 m_J0_checkIndex_df160 [.int x1, .int (Int32.ofNat l0.length)] [] none h1 rfl rfl rfl rfl rfl rfl rfl rfl rfl (tr_cok rfl (Or.inl rfl)) c_0 ?_
  have hL0 := c_0.2
  refine tr_s (.aload_n 0) 1 7 [some (.ref a0), some (.int x1)] [.ref a0] h1 rfl rfl rfl ?_
  refine tr_s (.iload_n 1) 1 8 [some (.ref a0), some (.int x1)] [.int x1, .ref a0] h1 rfl rfl rfl ?_
  refine tr_ald .baload 2 _ j0 x1 l1 (Or.inr (Or.inr ⟨rfl, rfl⟩)) rfl m1 e0 b0 z1 ?_
  refine tr_si 255 255 (by decide) rfl ?_
  refine tr_s .iand 1 13 [some (.ref a0), some (.int x1)] [.int ((l1.getD j0 0) &&& 255)] h1 rfl rfl rfl ?_
  refine tr_s .i2c 1 14 [some (.ref a0), some (.int x1)] [.int ((((l1.getD j0 0) &&& 255).toUInt32 % 65536).toInt32)] h1 rfl rfl rfl ?_
  exact tl_ret hL0 .ireturn 1 (some (.int ((((l1.getD j0 0) &&& 255).toUInt32 % 65536).toInt32))) rfl rfl rfl (tr_ec rfl hc0) hr
theorem sg_J0_indexOf_0f7a4_0 {g : tr_g} {d : Nat} {h : ev_AH} {r : ev_O × ev_AH} {a0 : Nat} {x1 v0 : Int32} {h1 : ev_AH} {vs0 : List Value} (hL : hh_L h) (m0 : ev_rd (tr_G g) h a0 = some (.inr (8, vs0))) (c_0 : tr_L g d m_J0_indexOf_7cf53 0 [some (.ref a0), some (.int x1), some (.int 0)] [] h (.inl (some (.int v0)), h1)) (hr : r = (.inl (some (.int v0)), h1)) : tr_L g (d + 1) m_J0_indexOf_0f7a4 0 [some (.ref a0), some (.int x1)] [] h r := by
  refine tr_s (.aload_n 0) 1 1 [some (.ref a0), some (.int x1)] [.ref a0] h rfl rfl rfl ?_
  refine tr_s (.iload_n 1) 1 2 [some (.ref a0), some (.int x1)] [.int x1, .ref a0] h rfl rfl rfl ?_
  refine tr_ic 0 0 (by decide) rfl ?_
  refine tr_call (.invokevirtual 633) 633 0 2 8 m_J0_indexOf_7cf53 [.ref a0, .int x1, .int 0] [] (some (.int v0)) h1 rfl rfl rfl rfl rfl rfl rfl rfl rfl (tr_cok rfl (Or.inr ⟨_, _, rfl, tr_rc m0 (by decide)⟩)) c_0 ?_
  have hL0 := c_0.2
  exact tl_ret hL0 .ireturn 1 (some (.int v0)) rfl rfl rfl rfl hr
theorem sg_J0_indexOf_7cf53_0 {g : tr_g} {d : Nat} {h : ev_AH} {r : ev_O × ev_AH} {a0 : Nat} {x1 x2 v0 : Int32} {h1 : ev_AH} {vs0 : List Value} (hL : hh_L h) (m0 : ev_rd (tr_G g) h a0 = some (.inr (8, vs0))) (c_0 : tr_L g d m_J0_isLatin1_aae02 0 [some (.ref a0)] [] h (.inl (some (.int v0)), h1)) (t : v0 = 0 → tr_L g (d + 1) m_J0_indexOf_7cf53 23 [some (.ref a0), some (.int x1), some (.int x2)] [] h1 r) (f : v0 ≠ 0 → tr_L g (d + 1) m_J0_indexOf_7cf53 7 [some (.ref a0), some (.int x1), some (.int x2)] [] h1 r) : tr_L g (d + 1) m_J0_indexOf_7cf53 0 [some (.ref a0), some (.int x1), some (.int x2)] [] h r := by
  refine tr_s (.aload_n 0) 1 1 [some (.ref a0), some (.int x1), some (.int x2)] [.ref a0] h rfl rfl rfl ?_
  refine tr_call (.invokevirtual 492) 492 0 0 8 m_J0_isLatin1_aae02 [.ref a0] [] (some (.int v0)) h1 rfl rfl rfl rfl rfl rfl rfl rfl rfl (tr_cok rfl (Or.inr ⟨_, _, rfl, tr_rc m0 (by decide)⟩)) c_0 ?_
  have hL0 := c_0.2
  exact tr_if1 .eq 19 23 v0 rfl rfl rfl (fun hc => t ((tr_eq hc).1 rfl)) (fun hc => f ((tr_eq hc).2 rfl))
theorem sg_J0_indexOf_7cf53_7 {g : tr_g} {d : Nat} {h : ev_AH} {r : ev_O × ev_AH} {a0 c0 : Nat} {x1 x2 v0 v1 : Int32} {vs0 : List Value} {h1 h2 : ev_AH} (hL : hh_L h) (m0 : ev_rd (tr_G g) h a0 = some (.inr (8, vs0))) (p0 : vs0[0]? = some (.ref c0)) (c_0 : tr_L g d m_J0_length_8abf5 0 [some (.ref a0)] [] h (.inl (some (.int v0)), h1)) (c_1 : tr_L g d m_J1_indexOf_4cfef 0 [some (.ref c0), some (.int x1), some (.int x2), some (.int v0)] [] h1 (.inl (some (.int v1)), h2)) (hr : r = (.inl (some (.int v1)), h2)) : tr_L g (d + 1) m_J0_indexOf_7cf53 7 [some (.ref a0), some (.int x1), some (.int x2)] [] h r := by
  refine tr_s (.aload_n 0) 1 8 [some (.ref a0), some (.int x1), some (.int x2)] [.ref a0] h rfl rfl rfl ?_
  refine tr_gf 9 _ 8 0 vs0 _ rfl rfl m0 p0 ?_
  refine tr_s (.iload_n 1) 1 12 [some (.ref a0), some (.int x1), some (.int x2)] [.int x1, .ref c0] h rfl rfl rfl ?_
  refine tr_s (.iload_n 2) 1 13 [some (.ref a0), some (.int x1), some (.int x2)] [.int x2, .int x1, .ref c0] h rfl rfl rfl ?_
  refine tr_s (.aload_n 0) 1 14 [some (.ref a0), some (.int x1), some (.int x2)] [.ref a0, .int x2, .int x1, .ref c0] h rfl rfl rfl ?_
  refine tr_call (.invokevirtual 505) 505 0 0 8 m_J0_length_8abf5 [.ref a0] [.int x2, .int x1, .ref c0] (some (.int v0)) h1 rfl rfl rfl rfl rfl rfl rfl rfl rfl (tr_cok rfl (Or.inr ⟨_, _, rfl, tr_rc m0 (by decide)⟩)) c_0 ?_
  have hL0 := c_0.2
  refine tr_call (.invokestatic 637) 637 2 4 0 m_J1_indexOf_4cfef [.ref c0, .int x1, .int x2, .int v0] [] (some (.int v1)) h2 rfl rfl rfl rfl rfl rfl rfl rfl rfl (tr_cok rfl (Or.inl rfl)) c_1 ?_
  have hL1 := c_1.2
  refine tr_goto 16 36 rfl rfl rfl ?_
  exact tl_ret hL1 .ireturn 1 (some (.int v1)) rfl rfl rfl rfl hr
theorem sg_J1_indexOf_4cfef_0 {g : tr_g} {d : Nat} {h : ev_AH} {r : ev_O × ev_AH} {a0 : Nat} {x1 x2 x3 v0 : Int32} {h1 : ev_AH} (hL : hh_L h) (c_0 : tr_L g d m_J1_canEncode_9a6ad 0 [some (.int x1)] [] h (.inl (some (.int v0)), h1)) (t : v0 ≠ 0 → tr_L g (d + 1) m_J1_indexOf_4cfef 9 [some (.ref a0), some (.int x1), some (.int x2), some (.int x3)] [] h1 r) (f : v0 = 0 → tr_L g (d + 1) m_J1_indexOf_4cfef 7 [some (.ref a0), some (.int x1), some (.int x2), some (.int x3)] [] h1 r) : tr_L g (d + 1) m_J1_indexOf_4cfef 0 [some (.ref a0), some (.int x1), some (.int x2), some (.int x3)] [] h r := by
  refine tr_s (.iload_n 1) 1 1 [some (.ref a0), some (.int x1), some (.int x2), some (.int x3)] [.int x1] h rfl rfl rfl ?_
  refine tr_call (.invokestatic 88) 88 2 1 0 m_J1_canEncode_9a6ad [.int x1] [] (some (.int v0)) h1 rfl rfl rfl rfl rfl rfl rfl rfl rfl (tr_cok rfl (Or.inl rfl)) c_0 ?_
  have hL0 := c_0.2
  exact tr_if1 .ne 5 9 v0 rfl rfl rfl (fun hc => t ((tr_ne hc).1 rfl)) (fun hc => f ((tr_ne hc).2 rfl))
theorem sg_J1_indexOf_4cfef_7 {g : tr_g} {d : Nat} {h : ev_AH} {r : ev_O × ev_AH} {w0 w1 w2 w3 : Option Value} (hL : hh_L h) (hr : r = (.inl (some (.int (-1))), h)) : tr_L g d m_J1_indexOf_4cfef 7 [w0, w1, w2, w3] [] h r := by
  refine tr_ic (-1) (-1) (by decide) rfl ?_
  exact tl_ret hL .ireturn 1 (some (.int (-1))) rfl rfl rfl rfl hr
theorem sg_J1_indexOf_4cfef_9 {g : tr_g} {d : Nat} {h : ev_AH} {r : ev_O × ev_AH} {a0 : Nat} {x1 x2 x3 : Int32} {l0 : List Int32} (hL : hh_L h) (m0 : ev_rd (tr_G g) h a0 = some (.inl (2, l0))) (z0 : l0.length < 2147483648) (t : (if x2 < 0 then 0 else x2) < (if (Int32.ofNat l0.length) < x3 then (Int32.ofNat l0.length) else x3) → tr_L g d m_J1_indexOf_4cfef 29 [some (.ref a0), some (.int x1), some (.int (if x2 < 0 then 0 else x2)), some (.int (if (Int32.ofNat l0.length) < x3 then (Int32.ofNat l0.length) else x3))] [] h r) (f : (if (Int32.ofNat l0.length) < x3 then (Int32.ofNat l0.length) else x3) ≤ (if x2 < 0 then 0 else x2) → tr_L g d m_J1_indexOf_4cfef 27 [some (.ref a0), some (.int x1), some (.int (if x2 < 0 then 0 else x2)), some (.int (if (Int32.ofNat l0.length) < x3 then (Int32.ofNat l0.length) else x3))] [] h r) : tr_L g d m_J1_indexOf_4cfef 9 [some (.ref a0), some (.int x1), some (.int x2), some (.int x3)] [] h r := by
  refine tr_s (.iload_n 2) 1 10 [some (.ref a0), some (.int x1), some (.int x2), some (.int x3)] [.int x2] h rfl rfl rfl ?_
  refine tr_ic 0 0 (by decide) rfl ?_
  refine tr_na (.invokestatic 92) 92 12 2 0 ev_dum [.int (if x2 < 0 then 0 else x2)] h rfl rfl rfl rfl rfl rfl rfl ?_
  refine tr_st (.istore_n 2) 1 2 0 (.int (if x2 < 0 then 0 else x2)) rfl rfl rfl rfl rfl rfl rfl ?_
  refine tr_s (.iload_n 3) 1 16 [some (.ref a0), some (.int x1), some (.int (if x2 < 0 then 0 else x2)), some (.int x3)] [.int x3] h rfl rfl rfl ?_
  refine tr_s (.aload_n 0) 1 17 [some (.ref a0), some (.int x1), some (.int (if x2 < 0 then 0 else x2)), some (.int x3)] [.ref a0, .int x3] h rfl rfl rfl ?_
  refine tr_alen _ 2 l0 rfl m0 (by decide) ?_
  refine tr_na (.invokestatic 38) 38 11 2 0 ev_dum [.int (if (Int32.ofNat l0.length) < x3 then (Int32.ofNat l0.length) else x3)] h rfl rfl rfl rfl rfl rfl rfl ?_
  refine tr_st (.istore_n 3) 1 3 0 (.int (if (Int32.ofNat l0.length) < x3 then (Int32.ofNat l0.length) else x3)) rfl rfl rfl rfl rfl rfl rfl ?_
  refine tr_s (.iload_n 2) 1 23 [some (.ref a0), some (.int x1), some (.int (if x2 < 0 then 0 else x2)), some (.int (if (Int32.ofNat l0.length) < x3 then (Int32.ofNat l0.length) else x3))] [.int (if x2 < 0 then 0 else x2)] h rfl rfl rfl ?_
  refine tr_s (.iload_n 3) 1 24 [some (.ref a0), some (.int x1), some (.int (if x2 < 0 then 0 else x2)), some (.int (if (Int32.ofNat l0.length) < x3 then (Int32.ofNat l0.length) else x3))] [.int (if (Int32.ofNat l0.length) < x3 then (Int32.ofNat l0.length) else x3), .int (if x2 < 0 then 0 else x2)] h rfl rfl rfl ?_
  exact tr_if2 .lt 5 29 (if x2 < 0 then 0 else x2) (if (Int32.ofNat l0.length) < x3 then (Int32.ofNat l0.length) else x3) rfl rfl rfl (fun hc => t ((tr_lt hc).1 rfl)) (fun hc => f ((tr_lt hc).2 rfl))
theorem sg_J1_indexOf_4cfef_27 {g : tr_g} {d : Nat} {h : ev_AH} {r : ev_O × ev_AH} {w0 w1 w2 w3 : Option Value} (hL : hh_L h) (hr : r = (.inl (some (.int (-1))), h)) : tr_L g d m_J1_indexOf_4cfef 27 [w0, w1, w2, w3] [] h r := by
  refine tr_ic (-1) (-1) (by decide) rfl ?_
  exact tl_ret hL .ireturn 1 (some (.int (-1))) rfl rfl rfl rfl hr
theorem sg_J1_indexOf_4cfef_29 {g : tr_g} {d : Nat} {h : ev_AH} {r : ev_O × ev_AH} {a0 : Nat} {x1 x2 x3 v0 : Int32} {h1 : ev_AH} (hL : hh_L h) (c_0 : tr_L g d m_J1_indexOfChar_4cfef 0 [some (.ref a0), some (.int x1), some (.int x2), some (.int x3), none, none] [] h (.inl (some (.int v0)), h1)) (hr : r = (.inl (some (.int v0)), h1)) : tr_L g (d + 1) m_J1_indexOf_4cfef 29 [some (.ref a0), some (.int x1), some (.int x2), some (.int x3)] [] h r := by
  refine tr_s (.aload_n 0) 1 30 [some (.ref a0), some (.int x1), some (.int x2), some (.int x3)] [.ref a0] h rfl rfl rfl ?_
  refine tr_s (.iload_n 1) 1 31 [some (.ref a0), some (.int x1), some (.int x2), some (.int x3)] [.int x1, .ref a0] h rfl rfl rfl ?_
  refine tr_s (.iload_n 2) 1 32 [some (.ref a0), some (.int x1), some (.int x2), some (.int x3)] [.int x2, .int x1, .ref a0] h rfl rfl rfl ?_
  refine tr_s (.iload_n 3) 1 33 [some (.ref a0), some (.int x1), some (.int x2), some (.int x3)] [.int x3, .int x2, .int x1, .ref a0] h rfl rfl rfl ?_
  refine tr_call (.invokestatic 95) 95 2 4 0 m_J1_indexOfChar_4cfef [.ref a0, .int x1, .int x2, .int x3] [] (some (.int v0)) h1 rfl rfl rfl rfl rfl rfl rfl rfl rfl (tr_cok rfl (Or.inl rfl)) c_0 ?_
  have hL0 := c_0.2
  exact tl_ret hL0 .ireturn 1 (some (.int v0)) rfl rfl rfl rfl hr
theorem sg_J1_canEncode_9a6ad_0 {g : tr_g} {d : Nat} {h : ev_AH} {r : ev_O × ev_AH} {x0 : Int32} (hL : hh_L h) (t : x0 < 0 → tr_L g d m_J1_canEncode_9a6ad 15 [some (.int x0)] [] h r) (f : 0 ≤ x0 → tr_L g d m_J1_canEncode_9a6ad 4 [some (.int x0)] [] h r) : tr_L g d m_J1_canEncode_9a6ad 0 [some (.int x0)] [] h r := by
  refine tr_s (.iload_n 0) 1 1 [some (.int x0)] [.int x0] h rfl rfl rfl ?_
  exact tr_if1 .lt 14 15 x0 rfl rfl rfl (fun hc => t ((tr_lt hc).1 rfl)) (fun hc => f ((tr_lt hc).2 rfl))
theorem sg_J1_canEncode_9a6ad_4 {g : tr_g} {d : Nat} {h : ev_AH} {r : ev_O × ev_AH} {x0 : Int32} (hL : hh_L h) (t : 255 < x0 → tr_L g d m_J1_canEncode_9a6ad 15 [some (.int x0)] [] h r) (f : x0 ≤ 255 → tr_L g d m_J1_canEncode_9a6ad 11 [some (.int x0)] [] h r) : tr_L g d m_J1_canEncode_9a6ad 4 [some (.int x0)] [] h r := by
  refine tr_s (.iload_n 0) 1 5 [some (.int x0)] [.int x0] h rfl rfl rfl ?_
  refine tr_si 255 255 (by decide) rfl ?_
  exact tr_if2 .gt 7 15 x0 255 rfl rfl rfl (fun hc => t ((tr_gt hc).1 rfl)) (fun hc => f ((tr_gt hc).2 rfl))
theorem sg_J1_canEncode_9a6ad_11 {g : tr_g} {d : Nat} {h : ev_AH} {r : ev_O × ev_AH} {w0 : Option Value} (hL : hh_L h) (hr : r = (.inl (some (.int 1)), h)) : tr_L g d m_J1_canEncode_9a6ad 11 [w0] [] h r := by
  refine tr_ic 1 1 (by decide) rfl ?_
  refine tr_goto 4 16 rfl rfl rfl ?_
  exact tl_ret hL .ireturn 1 (some (.int 1)) rfl rfl rfl rfl hr
theorem sg_J1_canEncode_9a6ad_15 {g : tr_g} {d : Nat} {h : ev_AH} {r : ev_O × ev_AH} {w0 : Option Value} (hL : hh_L h) (hr : r = (.inl (some (.int 0)), h)) : tr_L g d m_J1_canEncode_9a6ad 15 [w0] [] h r := by
  refine tr_ic 0 0 (by decide) rfl ?_
  exact tl_ret hL .ireturn 1 (some (.int 0)) rfl rfl rfl rfl hr
theorem sg_J1_indexOfChar_4cfef_0 {g : tr_g} {d : Nat} {h : ev_AH} {r : ev_O × ev_AH} {a0 : Nat} {x1 x2 x3 : Int32} (hL : hh_L h) (k : tr_L g d m_J1_indexOfChar_4cfef 7 [some (.ref a0), some (.int x1), some (.int x2), some (.int x3), some (.int x1.toInt8.toInt32), some (.int x2)] [] h r) : tr_L g d m_J1_indexOfChar_4cfef 0 [some (.ref a0), some (.int x1), some (.int x2), some (.int x3), none, none] [] h r := by
  refine tr_s (.iload_n 1) 1 1 [some (.ref a0), some (.int x1), some (.int x2), some (.int x3), none, none] [.int x1] h rfl rfl rfl ?_
  refine tr_s .i2b 1 2 [some (.ref a0), some (.int x1), some (.int x2), some (.int x3), none, none] [.int x1.toInt8.toInt32] h rfl rfl rfl ?_
  refine tr_st (.istore 4) 2 4 0 (.int x1.toInt8.toInt32) rfl rfl rfl rfl rfl rfl rfl ?_
  refine tr_s (.iload_n 2) 1 5 [some (.ref a0), some (.int x1), some (.int x2), some (.int x3), some (.int x1.toInt8.toInt32), none] [.int x2] h rfl rfl rfl ?_
  refine tr_st (.istore 5) 2 5 0 (.int x2) rfl rfl rfl rfl rfl rfl rfl ?_
  exact k
theorem sg_J1_indexOfChar_4cfef_7 {g : tr_g} {d : Nat} {h : ev_AH} {r : ev_O × ev_AH} {a0 : Nat} {w1 w2 : Option Value} {x3 x4 x5 : Int32} (hL : hh_L h) (t : x3 ≤ x5 → tr_L g d m_J1_indexOfChar_4cfef 31 [some (.ref a0), w1, w2, some (.int x3), some (.int x4), some (.int x5)] [] h r) (f : x5 < x3 → tr_L g d m_J1_indexOfChar_4cfef 13 [some (.ref a0), w1, w2, some (.int x3), some (.int x4), some (.int x5)] [] h r) : tr_L g d m_J1_indexOfChar_4cfef 7 [some (.ref a0), w1, w2, some (.int x3), some (.int x4), some (.int x5)] [] h r := by
  refine tr_s (.iload 5) 2 9 [some (.ref a0), w1, w2, some (.int x3), some (.int x4), some (.int x5)] [.int x5] h rfl rfl rfl ?_
  refine tr_s (.iload_n 3) 1 10 [some (.ref a0), w1, w2, some (.int x3), some (.int x4), some (.int x5)] [.int x3, .int x5] h rfl rfl rfl ?_
  exact tr_if2 .ge 21 31 x5 x3 rfl rfl rfl (fun hc => t ((tr_ge hc).1 rfl)) (fun hc => f ((tr_ge hc).2 rfl))
theorem sg_J1_indexOfChar_4cfef_13 {g : tr_g} {d : Nat} {h : ev_AH} {r : ev_O × ev_AH} {a0 j0 : Nat} {w1 w2 : Option Value} {x3 x4 x5 : Int32} {l0 : List Int32} (hL : hh_L h) (e0 : x5 = Int32.ofNat j0) (m0 : ev_rd (tr_G g) h a0 = some (.inl (2, l0))) (z0 : l0.length < 2147483648) (b0 : j0 < l0.length) (t : (l0.getD j0 0) ≠ x4 → tr_L g d m_J1_indexOfChar_4cfef 25 [some (.ref a0), w1, w2, some (.int x3), some (.int x4), some (.int x5)] [] h r) (f : (l0.getD j0 0) = x4 → tr_L g d m_J1_indexOfChar_4cfef 22 [some (.ref a0), w1, w2, some (.int x3), some (.int x4), some (.int x5)] [] h r) : tr_L g d m_J1_indexOfChar_4cfef 13 [some (.ref a0), w1, w2, some (.int x3), some (.int x4), some (.int x5)] [] h r := by
  refine tr_s (.aload_n 0) 1 14 [some (.ref a0), w1, w2, some (.int x3), some (.int x4), some (.int x5)] [.ref a0] h rfl rfl rfl ?_
  refine tr_s (.iload 5) 2 16 [some (.ref a0), w1, w2, some (.int x3), some (.int x4), some (.int x5)] [.int x5, .ref a0] h rfl rfl rfl ?_
  refine tr_ald .baload 2 _ j0 x5 l0 (Or.inr (Or.inr ⟨rfl, rfl⟩)) rfl m0 e0 b0 z0 ?_
  refine tr_s (.iload 4) 2 19 [some (.ref a0), w1, w2, some (.int x3), some (.int x4), some (.int x5)] [.int x4, .int (l0.getD j0 0)] h rfl rfl rfl ?_
  exact tr_if2 .ne 6 25 (l0.getD j0 0) x4 rfl rfl rfl (fun hc => t ((tr_ne hc).1 rfl)) (fun hc => f ((tr_ne hc).2 rfl))
theorem sg_J1_indexOfChar_4cfef_22 {g : tr_g} {d : Nat} {h : ev_AH} {r : ev_O × ev_AH} {w0 w1 w2 w3 w4 : Option Value} {x5 : Int32} (hL : hh_L h) (hr : r = (.inl (some (.int x5)), h)) : tr_L g d m_J1_indexOfChar_4cfef 22 [w0, w1, w2, w3, w4, some (.int x5)] [] h r := by
  refine tr_s (.iload 5) 2 24 [w0, w1, w2, w3, w4, some (.int x5)] [.int x5] h rfl rfl rfl ?_
  exact tl_ret hL .ireturn 1 (some (.int x5)) rfl rfl rfl rfl hr
theorem sg_J1_indexOfChar_4cfef_25 {g : tr_g} {d : Nat} {h : ev_AH} {r : ev_O × ev_AH} {a0 : Nat} {w1 w2 : Option Value} {x3 x4 x5 : Int32} (hL : hh_L h) (k : tr_L g d m_J1_indexOfChar_4cfef 7 [some (.ref a0), w1, w2, some (.int x3), some (.int x4), some (.int (x5 + 1))] [] h r) : tr_L g d m_J1_indexOfChar_4cfef 25 [some (.ref a0), w1, w2, some (.int x3), some (.int x4), some (.int x5)] [] h r := by
  refine tr_inc 5 1 x5 1 (by decide) rfl rfl rfl ?_
  refine tr_goto (-21) 7 rfl rfl rfl ?_
  exact k
theorem sg_J1_indexOfChar_4cfef_31 {g : tr_g} {d : Nat} {h : ev_AH} {r : ev_O × ev_AH} {w0 w1 w2 w3 w4 w5 : Option Value} (hL : hh_L h) (hr : r = (.inl (some (.int (-1))), h)) : tr_L g d m_J1_indexOfChar_4cfef 31 [w0, w1, w2, w3, w4, w5] [] h r := by
  refine tr_ic (-1) (-1) (by decide) rfl ?_
  exact tl_ret hL .ireturn 1 (some (.int (-1))) rfl rfl rfl rfl hr
