/-! WHAT STANDS AROUND THE LAW AT ITS START: all of it; laid by wip/whole/gen/gena6.py -/
theorem zs_sel {args : Array Value} {s : State} {C : String} {y z : MethodName} {n : Nat} (hy : y.cls ≠ "java/lang/invoke/MethodHandle" ∧ y.cls ≠ "java/lang/invoke/VarHandle") (hins : (Cond.instantiable C n).before args s = true) (hpriv : (Cond.privateMethod y).before args s = true) (hinst : (Cond.instanceMethod y).before args s = true) (hz : (Cond.selects C z z).before args s = true) (hc : z.cls = y.cls) : (Cond.selects C y y).before args s = true := by
  obtain ⟨c, k, hcf, -⟩ := Cond.instantiable_spec hins
  obtain ⟨mk, methM, hnamed, hmethM, -, -⟩ := Cond.instanceMethod_spec hinst
  have hfound : s.methodFound? y.cls y.name y.desc = some mk := State.methodFound?_of_named hnamed hy
  obtain ⟨c2, r2, m2, q1, q2, q3, q4, k2, q5, q6⟩ := Cond.selects_spec hz
  have e2 := findClass_of_methodNamed q3
  rw [hc] at e2
  have e3 : m2.cls = mk.cls := Option.some.inj (e2.symm.trans (findClass_of_methodNamed hnamed))
  rw [e3] at q5
  have hsel : selectMethod {} s.vm c mk = .method mk := selectMethod_private hmethM (Cond.privateMethod_at hpriv mk methM hnamed hmethM)
  simp only [Cond.before, Cond.holds, Cond.value, hcf, hfound, hnamed, hsel, q5]
  simp
  exact q6
section
variable {args : Array Value} {s : State}
theorem ze_Tb (hts : ∀ w ∈ lw_tbl, w.before args s = true) : ∀ w ∈ ev_Tb0, w.before args s = true := fun w hw => (List.mem_append.mp (show w ∈ ev_Tx ++ lw_tbl.filter goodWord from hw)).elim (fun h => (show ∀ w ∈ ev_Tx, w.before args s = true from List.forall_mem_cons.mpr ⟨zs_sel (n := 4) (z := yJ5_isLatin1_aae02) ⟨by decide +kernel, by decide +kernel⟩ (hts _ (List.mem_of_getElem? (i := 205) (by decide +kernel))) (hts _ (List.mem_of_getElem? (i := 248) (by decide +kernel))) (hts _ (List.mem_of_getElem? (i := 249) (by decide +kernel))) (hts _ (List.mem_of_getElem? (i := 285) (by decide +kernel))) rfl, List.forall_mem_cons.mpr ⟨zs_sel (n := 4) (z := yJ5_isLatin1_aae02) ⟨by decide +kernel, by decide +kernel⟩ (hts _ (List.mem_of_getElem? (i := 205) (by decide +kernel))) (hts _ (List.mem_of_getElem? (i := 252) (by decide +kernel))) (hts _ (List.mem_of_getElem? (i := 253) (by decide +kernel))) (hts _ (List.mem_of_getElem? (i := 285) (by decide +kernel))) rfl, List.forall_mem_cons.mpr ⟨zs_sel (n := 4) (z := yJ5_isLatin1_aae02) ⟨by decide +kernel, by decide +kernel⟩ (hts _ (List.mem_of_getElem? (i := 205) (by decide +kernel))) (hts _ (List.mem_of_getElem? (i := 323) (by decide +kernel))) (hts _ (List.mem_of_getElem? (i := 324) (by decide +kernel))) (hts _ (List.mem_of_getElem? (i := 285) (by decide +kernel))) rfl, List.forall_mem_cons.mpr ⟨zs_sel (n := 4) (z := yJ5_isLatin1_aae02) ⟨by decide +kernel, by decide +kernel⟩ (hts _ (List.mem_of_getElem? (i := 205) (by decide +kernel))) (hts _ (List.mem_of_getElem? (i := 327) (by decide +kernel))) (hts _ (List.mem_of_getElem? (i := 328) (by decide +kernel))) (hts _ (List.mem_of_getElem? (i := 285) (by decide +kernel))) rfl, fun _ h => absurd h List.not_mem_nil⟩⟩⟩⟩) w h) (fun h => hts w (List.mem_filter.mp h).1)
theorem ze_in : ∀ q ∈ ev_cl0, ∃ n, Cond.instantiable q.1 n ∈ lw_tbl := List.forall_mem_cons.mpr ⟨⟨16, List.mem_of_getElem? (i := 593) (by decide +kernel)⟩, List.forall_mem_cons.mpr ⟨⟨14, List.mem_of_getElem? (i := 515) (by decide +kernel)⟩, List.forall_mem_cons.mpr ⟨⟨3, List.mem_of_getElem? (i := 614) (by decide +kernel)⟩, List.forall_mem_cons.mpr ⟨⟨4, List.mem_of_getElem? (i := 748) (by decide +kernel)⟩, List.forall_mem_cons.mpr ⟨⟨1, List.mem_of_getElem? (i := 1125) (by decide +kernel)⟩, List.forall_mem_cons.mpr ⟨⟨4, List.mem_of_getElem? (i := 667) (by decide +kernel)⟩, List.forall_mem_cons.mpr ⟨⟨4, List.mem_of_getElem? (i := 881) (by decide +kernel)⟩, List.forall_mem_cons.mpr ⟨⟨7, List.mem_of_getElem? (i := 1171) (by decide +kernel)⟩, List.forall_mem_cons.mpr ⟨⟨4, List.mem_of_getElem? (i := 386) (by decide +kernel)⟩, List.forall_mem_cons.mpr ⟨⟨4, List.mem_of_getElem? (i := 205) (by decide +kernel)⟩, fun _ h => absurd h List.not_mem_nil⟩⟩⟩⟩⟩⟩⟩⟩⟩⟩
theorem ze_NG (hts : ∀ w ∈ lw_tbl, w.before args s = true) : ∀ w ∈ ev_NG0, va_Nw w s := fun w hw => by
  obtain ⟨h1, h2⟩ := List.mem_filter.mp (show w ∈ ev_NG0 from hw)
  rw [Bool.and_eq_true] at h2
  exact va_Nw.of h2.2 (hts w (List.mem_append_right _ h1))
/-- the classes -/
theorem ze_cl (hts : ∀ w ∈ lw_tbl, w.before args s = true) : ∃ (dC : Nat → ClassId) (dI : Nat → Nat → Nat), ∀ (k : Nat) (q : vw_C), ev_cl0[k]? = some q → u_Kn s q.1 q.2.1 q.2.2 (dC k) (dI k) := by
  have hTb := ze_Tb hts
  have h0 : ∀ k : Nat, ∃ p : ClassId × (Nat → Nat), ∀ q : vw_C, ev_cl0[k]? = some q → u_Kn s q.1 q.2.1 q.2.2 p.1 p.2 := by
    intro k
    cases hq : ev_cl0[k]? with
    | none => exact ⟨(0, fun _ => 0), fun q h => by cases h⟩
    | some q =>
      obtain ⟨n, hi⟩ : ∃ n, Cond.instantiable q.1 n ∈ lw_tbl := ze_in q (List.mem_of_getElem? hq)
      have h4 := (vV4 [] .null k q.1 q.2.1 q.2.2 hq).1
      obtain ⟨cC, iS, h⟩ := u_known (C := q.1) (T := q.2.1) (N := q.2.2) (n := n) hTb h4 (hts _ hi)
      exact ⟨(cC, iS), fun q' h' => by cases h'; exact h⟩
  obtain ⟨f, hf⟩ := Classical.axiomOfChoice h0
  exact ⟨fun k => (f k).1, fun k => (f k).2, hf⟩
theorem ze_arr {ty : FieldType} (h : (Cond.arrayClass ty).before args s = true) (hty : ∀ C, ty ≠ .object C) : ∃ c : ClassId, ArrOfT s c ty ∧ va_RA s c ty := by
  obtain ⟨c, k, comp, h1, h2, h3⟩ := Cond.arrayClass_spec (args := args) (first := s) (o := none) (s := s) (idx := []) h
  refine ⟨c, fun n z => ⟨fun k h => (by cases h), k, h2, comp, h3⟩, ?_⟩
  cases ty with
  | object C => exact absurd rfl (hty C)
  | _ => exact h1
theorem ze_tys (hts : ∀ w ∈ lw_tbl, w.before args s = true) : ∃ T : Nat → ClassId, ∀ (k : Nat) (q : ClassId × FieldType), (ev_tys T "MirrorJury$Court")[k]? = some q → ArrOfT s q.1 q.2 ∧ va_RA s q.1 q.2 := by
  obtain ⟨c0, h0⟩ := ze_arr (ty := .int) (hts _ (List.mem_of_getElem? (i := 1082) (by decide +kernel))) (fun C h => by cases h)
  obtain ⟨c1, h1⟩ := ze_arr (ty := .char) (hts _ (List.mem_of_getElem? (i := 1081) (by decide +kernel))) (fun C h => by cases h)
  obtain ⟨c2, h2⟩ := ze_arr (ty := .byte) (hts _ (List.mem_of_getElem? (i := 190) (by decide +kernel))) (fun C h => by cases h)
  obtain ⟨comp, c5, k5, f1, -, f2, f3, f4⟩ := Cond.arrayOver_spec (args := args) (first := s) (o := none) (s := s) (idx := []) (n := "MirrorJury$Court") (hts _ (List.mem_of_getElem? (i := 1089) (by decide +kernel)))
  refine ⟨fun k => [c0, c1, c2, c0, c0, c5].getD k 0, fun k q hq => ?_⟩
  match k, hq with
  | 0, hq => cases hq; exact h0
  | 1, hq => cases hq; exact h1
  | 2, hq => cases hq; exact h2
  | 3, hq => cases hq; exact h0
  | 4, hq => cases hq; exact h0
  | 5, hq => cases hq; exact ⟨fun n z => ⟨fun k h => (by cases h), k5, f2, comp, f3⟩, k5, comp, f2, f3, f1, f4⟩
  | n + 6, hq => simp [ev_tys] at hq
theorem ze_v9 (hn : ∀ w ∈ zNW, w.before args s = true) : ∃ v9 : Value, (v9 = .null ∨ v9 = .ref 902) ∧ (Term.static "jdk/internal/util/Preconditions" "SIOOBE_FORMATTER" "Ljava/util/function/BiFunction;").eval args s none [] s = some (ev_cv (zk args s) v9) := by
  have h : (Cond.isRef (.static "jdk/internal/util/Preconditions" "SIOOBE_FORMATTER" "Ljava/util/function/BiFunction;")).before args s = true := (hn _ (List.mem_of_getElem? (i := 7) (by decide +kernel)))
  cases hv : (Term.static "jdk/internal/util/Preconditions" "SIOOBE_FORMATTER" "Ljava/util/function/BiFunction;").eval args s none [] s with
  | none => simp [Cond.before, Cond.holds, Cond.value, hv] at h
  | some w =>
    simp only [Cond.before, Cond.holds, Cond.value, hv] at h
    cases w with
    | null => exact ⟨.null, Or.inl rfl, rfl⟩
    | ref t => exact ⟨.ref 902, Or.inr rfl, by show some (Value.ref t) = some (.ref (zk args s 902)); rw [zk_of (t := .static "jdk/internal/util/Preconditions" "SIOOBE_FORMATTER" "Ljava/util/function/BiFunction;") (by decide +kernel) hv]⟩
    | _ => simp at h
theorem ze_ST {v9 : Value} {A : Nat → Prop} (hts : ∀ w ∈ lw_tbl, w.before args s = true) (hn : ∀ w ∈ zNW, w.before args s = true) (hA : ∀ a : Nat, a < s.heap.size → ¬ A a) (h9 : (Term.static "jdk/internal/util/Preconditions" "SIOOBE_FORMATTER" "Ljava/util/function/BiFunction;").eval args s none [] s = some (ev_cv (zk args s) v9)) : ∀ q ∈ ev_ST0 v9, va_Z q.1 q.2.1 q.2.2.1 (ev_cv (zk args s) q.2.2.2) A s s.heap := List.forall_mem_cons.mpr ⟨va_Zof (C := "java/lang/String") (n := "COMPACT_STRINGS") (d := "Z") (v := .int 1) (hts _ (List.mem_of_getElem? (i := 214) (by decide +kernel))) (hts _ (List.mem_of_getElem? (i := 91) (by decide +kernel))) (va_eqt (hn _ (List.mem_of_getElem? (i := 6) (by decide +kernel)))) hA, List.forall_mem_cons.mpr ⟨va_Zof (C := "java/lang/Integer") (n := "DigitTens") (d := "[B") (v := .ref (zk args s 900)) (hts _ (List.mem_of_getElem? (i := 372) (by decide +kernel))) (hts _ (List.mem_of_getElem? (i := 109) (by decide +kernel))) (ze_c900 hn hA).1 hA, List.forall_mem_cons.mpr ⟨va_Zof (C := "java/lang/Integer") (n := "DigitOnes") (d := "[B") (v := .ref (zk args s 901)) (hts _ (List.mem_of_getElem? (i := 370) (by decide +kernel))) (hts _ (List.mem_of_getElem? (i := 109) (by decide +kernel))) (ze_c901 hn hA).1 hA, List.forall_mem_cons.mpr ⟨va_Zof (C := "jdk/internal/util/Preconditions") (n := "SIOOBE_FORMATTER") (d := "Ljava/util/function/BiFunction;") (v := ev_cv (zk args s) v9) (hts _ (List.mem_of_getElem? (i := 300) (by decide +kernel))) (hts _ (List.mem_of_getElem? (i := 102) (by decide +kernel))) h9 hA, fun _ h => absurd h List.not_mem_nil⟩⟩⟩⟩
theorem ze_En {v9 : Value} {A : Nat → Prop} {xl : List Int32} (hts : ∀ w ∈ lw_tbl, w.before args s = true) (hn : ∀ w ∈ zNW, w.before args s = true) (hA : ∀ a : Nat, a < s.heap.size → ¬ A a) (h9 : (Term.static "jdk/internal/util/Preconditions" "SIOOBE_FORMATTER" "Ljava/util/function/BiFunction;").eval args s none [] s = some (ev_cv (zk args s) v9)) (hx : va_T .int (zk args s 0) xl.length (fun j => .int (xl.getD j 0)) A s s.heap) : ev_En (ev_G0 xl v9) (ev_B0 v9) (zk args s) A s s.heap := by
  refine ⟨ze_SS hts hn, ze_ST hts hn hA h9, fun a x _ h => ?_, ze_NG hts, vx_Zqof (hts _ (List.mem_of_getElem? (i := 146) (by decide +kernel))) (hts _ (List.mem_of_getElem? (i := 93) (by decide +kernel))) (hn _ (List.mem_of_getElem? (i := 4) (by decide +kernel))) hA, vx_Zqof (hts _ (List.mem_of_getElem? (i := 148) (by decide +kernel))) (hts _ (List.mem_of_getElem? (i := 93) (by decide +kernel))) (hn _ (List.mem_of_getElem? (i := 5) (by decide +kernel))) hA, va_AO.of (C := "MirrorJury$Court") (hts _ (List.mem_of_getElem? (i := 1089) (by decide +kernel))), ze_NC hn⟩
  have h : ev_cst0 xl a = some x := h
  unfold ev_cst0 at h
  cases hb : Nat.beq a 0 with
  | true =>
    rw [hb] at h
    have e : x = .inl (0, xl) := (Option.some.inj h).symm
    subst e
    rw [Nat.eq_of_beq_eq_true hb]
    exact hx
  | false =>
    rw [hb] at h
    exact ze_cs hn hA (a, x) (ev_lk_mem h)
end
