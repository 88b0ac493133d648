/-! the answers of methods without loops; laid by a program (wip/p57/gen/gen51.py) -/
theorem tr_nt {x v : Int32} (h : ¬ x = v) : x.toInt ≠ v.toInt := fun e => h (Int32.toInt_inj.mp e)
theorem tr_chc (x : Int32) : tr_ch (x.toUInt32 % 65536).toInt32 := by
  have h : (x.toUInt32 % 65536).toNat < 65536 := by
    rw [UInt32.toNat_mod]
    exact Nat.mod_lt _ (by decide)
  obtain ⟨k, hk, e⟩ : ∃ k, k < 65536 ∧ x.toUInt32 % 65536 = UInt32.ofNat k := ⟨_, h, by rw [UInt32.ofNat_toNat]⟩
  have h2 : (UInt32.ofNat k).toInt32 = Int32.ofNat k := by simp
  rw [e]
  rw [h2]
  constructor
  · rw [Int32.le_iff_toInt_le, Int32.toInt_ofNat_of_lt (by omega)]
    have : (0 : Int32).toInt = 0 := by decide
    omega
  · rw [Int32.lt_iff_toInt_lt, Int32.toInt_ofNat_of_lt (by omega)]
    have : (65536 : Int32).toInt = 65536 := by decide
    omega
def fa_X0_cellAt (x0 : Int32) : Int32 := (if x0 < 7 then x0 else (if x0 < 12 then ((7 * (x0 - 7)) + 7) - 1 else (if x0 < 19 then 46 - x0 else 7 * (23 - x0))))
theorem sa_X0_cellAt {g : tr_g} {d : Nat} {h : ev_AH} {x0 : Int32} (hL : hh_L h) : tr_L g d m_X0_cellAt 0 [some (.int x0)] [] h (.inl (some (.int (fa_X0_cellAt x0))), h) := by
  refine tr_s (.iload_n 0) 1 1 [some (.int x0)] [.int x0] h rfl rfl rfl ?_
  refine tr_bi 7 7 (by decide) rfl ?_
  refine tr_if2 .ge 5 8 x0 7 rfl rfl rfl (fun hc => ?_) (fun hc => ?_)
  · have q0 := (tr_ge hc).1 rfl
    refine tr_s (.iload_n 0) 1 9 [some (.int x0)] [.int x0] h rfl rfl rfl ?_
    refine tr_bi 12 12 (by decide) rfl ?_
    refine tr_if2 .ge 16 27 x0 12 rfl rfl rfl (fun hc => ?_) (fun hc => ?_)
    · have q1 := (tr_ge hc).1 rfl
      refine tr_s (.iload_n 0) 1 28 [some (.int x0)] [.int x0] h rfl rfl rfl ?_
      refine tr_bi 19 19 (by decide) rfl ?_
      refine tr_if2 .ge 8 38 x0 19 rfl rfl rfl (fun hc => ?_) (fun hc => ?_)
      · have q2 := (tr_ge hc).1 rfl
        refine tr_bi 7 7 (by decide) rfl ?_
        refine tr_bi 23 23 (by decide) rfl ?_
        refine tr_s (.iload_n 0) 1 43 [some (.int x0)] [.int x0, .int 23, .int 7] h rfl rfl rfl ?_
        refine tr_s .isub 1 44 [some (.int x0)] [.int (23 - x0), .int 7] h rfl rfl rfl ?_
        refine tr_s .imul 1 45 [some (.int x0)] [.int (7 * (23 - x0))] h rfl rfl rfl ?_
        exact tl_ret hL .ireturn 1 (some (.int (7 * (23 - x0)))) rfl rfl rfl rfl (by rw [fa_X0_cellAt, if_neg (Int32.not_lt.mpr q0), if_neg (Int32.not_lt.mpr q1), if_neg (Int32.not_lt.mpr q2)])
      · have q2 := (tr_ge hc).2 rfl
        refine tr_bi 46 46 (by decide) rfl ?_
        refine tr_s (.iload_n 0) 1 36 [some (.int x0)] [.int x0, .int 46] h rfl rfl rfl ?_
        refine tr_s .isub 1 37 [some (.int x0)] [.int (46 - x0)] h rfl rfl rfl ?_
        exact tl_ret hL .ireturn 1 (some (.int (46 - x0))) rfl rfl rfl rfl (by rw [fa_X0_cellAt, if_neg (Int32.not_lt.mpr q0), if_neg (Int32.not_lt.mpr q1), if_pos q2])
    · have q1 := (tr_ge hc).2 rfl
      refine tr_bi 7 7 (by decide) rfl ?_
      refine tr_s (.iload_n 0) 1 17 [some (.int x0)] [.int x0, .int 7] h rfl rfl rfl ?_
      refine tr_bi 7 7 (by decide) rfl ?_
      refine tr_s .isub 1 20 [some (.int x0)] [.int (x0 - 7), .int 7] h rfl rfl rfl ?_
      refine tr_s .imul 1 21 [some (.int x0)] [.int (7 * (x0 - 7))] h rfl rfl rfl ?_
      refine tr_bi 7 7 (by decide) rfl ?_
      refine tr_s .iadd 1 24 [some (.int x0)] [.int ((7 * (x0 - 7)) + 7)] h rfl rfl rfl ?_
      refine tr_ic 1 1 (by decide) rfl ?_
      refine tr_s .isub 1 26 [some (.int x0)] [.int (((7 * (x0 - 7)) + 7) - 1)] h rfl rfl rfl ?_
      exact tl_ret hL .ireturn 1 (some (.int (((7 * (x0 - 7)) + 7) - 1))) rfl rfl rfl rfl (by rw [fa_X0_cellAt, if_neg (Int32.not_lt.mpr q0), if_pos q1])
  · have q0 := (tr_ge hc).2 rfl
    refine tr_s (.iload_n 0) 1 7 [some (.int x0)] [.int x0] h rfl rfl rfl ?_
    exact tl_ret hL .ireturn 1 (some (.int x0)) rfl rfl rfl rfl (by rw [fa_X0_cellAt, if_pos q0])
def fa_X0_directionAt (x0 : Int32) : Int32 := (if x0 < 7 then 2 else (if x0 < 12 then 3 else (if x0 < 19 then 0 else 1)))
theorem sa_X0_directionAt {g : tr_g} {d : Nat} {h : ev_AH} {x0 : Int32} (hL : hh_L h) : tr_L g d m_X0_directionAt 0 [some (.int x0)] [] h (.inl (some (.int (fa_X0_directionAt x0))), h) := by
  refine tr_s (.iload_n 0) 1 1 [some (.int x0)] [.int x0] h rfl rfl rfl ?_
  refine tr_bi 7 7 (by decide) rfl ?_
  refine tr_if2 .ge 5 8 x0 7 rfl rfl rfl (fun hc => ?_) (fun hc => ?_)
  · have q0 := (tr_ge hc).1 rfl
    refine tr_s (.iload_n 0) 1 9 [some (.int x0)] [.int x0] h rfl rfl rfl ?_
    refine tr_bi 12 12 (by decide) rfl ?_
    refine tr_if2 .ge 5 16 x0 12 rfl rfl rfl (fun hc => ?_) (fun hc => ?_)
    · have q1 := (tr_ge hc).1 rfl
      refine tr_s (.iload_n 0) 1 17 [some (.int x0)] [.int x0] h rfl rfl rfl ?_
      refine tr_bi 19 19 (by decide) rfl ?_
      refine tr_if2 .ge 7 26 x0 19 rfl rfl rfl (fun hc => ?_) (fun hc => ?_)
      · have q2 := (tr_ge hc).1 rfl
        refine tr_ic 1 1 (by decide) rfl ?_
        exact tl_ret hL .ireturn 1 (some (.int 1)) rfl rfl rfl rfl (by rw [fa_X0_directionAt, if_neg (Int32.not_lt.mpr q0), if_neg (Int32.not_lt.mpr q1), if_neg (Int32.not_lt.mpr q2)])
      · have q2 := (tr_ge hc).2 rfl
        refine tr_ic 0 0 (by decide) rfl ?_
        refine tr_goto 4 27 rfl rfl rfl ?_
        exact tl_ret hL .ireturn 1 (some (.int 0)) rfl rfl rfl rfl (by rw [fa_X0_directionAt, if_neg (Int32.not_lt.mpr q0), if_neg (Int32.not_lt.mpr q1), if_pos q2])
    · have q1 := (tr_ge hc).2 rfl
      refine tr_ic 3 3 (by decide) rfl ?_
      exact tl_ret hL .ireturn 1 (some (.int 3)) rfl rfl rfl rfl (by rw [fa_X0_directionAt, if_neg (Int32.not_lt.mpr q0), if_pos q1])
  · have q0 := (tr_ge hc).2 rfl
    refine tr_ic 2 2 (by decide) rfl ?_
    exact tl_ret hL .ireturn 1 (some (.int 2)) rfl rfl rfl rfl (by rw [fa_X0_directionAt, if_pos q0])
def fa_X0_portAt (x0 : Int32) (x1 : Int32) : Int32 := (if x1 = 0 then x0 - x0 / 7 * 7 else (if x1 = 1 then 7 + (x0 / 7) else (if x1 = 2 then 18 - (x0 - x0 / 7 * 7) else 23 - (x0 / 7))))
theorem sa_X0_portAt {g : tr_g} {d : Nat} {h : ev_AH} {x0 : Int32} {x1 : Int32} (hL : hh_L h) : tr_L g d m_X0_portAt 0 [some (.int x0), some (.int x1), none, none] [] h (.inl (some (.int (fa_X0_portAt x0 x1))), h) := by
  refine tr_s (.iload_n 0) 1 1 [some (.int x0), some (.int x1), none, none] [.int x0] h rfl rfl rfl ?_
  refine tr_bi 7 7 (by decide) rfl ?_
  refine tr_s .idiv 1 4 [some (.int x0), some (.int x1), none, none] [.int (x0 / 7)] h rfl rfl rfl ?_
  refine tr_st (.istore_n 2) 1 2 0 (.int (x0 / 7)) rfl rfl rfl rfl rfl rfl rfl ?_
  refine tr_s (.iload_n 0) 1 6 [some (.int x0), some (.int x1), some (.int (x0 / 7)), none] [.int x0] h rfl rfl rfl ?_
  refine tr_bi 7 7 (by decide) rfl ?_
  refine tr_s .irem 1 9 [some (.int x0), some (.int x1), some (.int (x0 / 7)), none] [.int (x0 - x0 / 7 * 7)] h rfl rfl rfl ?_
  refine tr_st (.istore_n 3) 1 3 0 (.int (x0 - x0 / 7 * 7)) rfl rfl rfl rfl rfl rfl rfl ?_
  refine tr_s (.iload_n 1) 1 11 [some (.int x0), some (.int x1), some (.int (x0 / 7)), some (.int (x0 - x0 / 7 * 7))] [.int x1] h rfl rfl rfl ?_
  by_cases q0 : x1 = 0
  · refine tr_s (.tableswitch 37 0 2 #[25, 27, 32]) 25 36 [some (.int x0), some (.int x1), some (.int (x0 / 7)), some (.int (x0 - x0 / 7 * 7))] [] h rfl rfl (by rw [q0]; rfl) ?_
    refine tr_s (.iload_n 3) 1 37 [some (.int x0), some (.int x1), some (.int (x0 / 7)), some (.int (x0 - x0 / 7 * 7))] [.int (x0 - x0 / 7 * 7)] h rfl rfl rfl ?_
    exact tl_ret hL .ireturn 1 (some (.int (x0 - x0 / 7 * 7))) rfl rfl rfl rfl (by rw [fa_X0_portAt, if_pos q0])
  by_cases q1 : x1 = 1
  · refine tr_s (.tableswitch 37 0 2 #[25, 27, 32]) 25 38 [some (.int x0), some (.int x1), some (.int (x0 / 7)), some (.int (x0 - x0 / 7 * 7))] [] h rfl rfl (by rw [q1]; rfl) ?_
    refine tr_bi 7 7 (by decide) rfl ?_
    refine tr_s (.iload_n 2) 1 41 [some (.int x0), some (.int x1), some (.int (x0 / 7)), some (.int (x0 - x0 / 7 * 7))] [.int (x0 / 7), .int 7] h rfl rfl rfl ?_
    refine tr_s .iadd 1 42 [some (.int x0), some (.int x1), some (.int (x0 / 7)), some (.int (x0 - x0 / 7 * 7))] [.int (7 + (x0 / 7))] h rfl rfl rfl ?_
    exact tl_ret hL .ireturn 1 (some (.int (7 + (x0 / 7)))) rfl rfl rfl rfl (by rw [fa_X0_portAt, if_neg q0, if_pos q1])
  by_cases q2 : x1 = 2
  · refine tr_s (.tableswitch 37 0 2 #[25, 27, 32]) 25 43 [some (.int x0), some (.int x1), some (.int (x0 / 7)), some (.int (x0 - x0 / 7 * 7))] [] h rfl rfl (by rw [q2]; rfl) ?_
    refine tr_bi 18 18 (by decide) rfl ?_
    refine tr_s (.iload_n 3) 1 46 [some (.int x0), some (.int x1), some (.int (x0 / 7)), some (.int (x0 - x0 / 7 * 7))] [.int (x0 - x0 / 7 * 7), .int 18] h rfl rfl rfl ?_
    refine tr_s .isub 1 47 [some (.int x0), some (.int x1), some (.int (x0 / 7)), some (.int (x0 - x0 / 7 * 7))] [.int (18 - (x0 - x0 / 7 * 7))] h rfl rfl rfl ?_
    exact tl_ret hL .ireturn 1 (some (.int (18 - (x0 - x0 / 7 * 7)))) rfl rfl rfl rfl (by rw [fa_X0_portAt, if_neg q0, if_neg q1, if_pos q2])
  refine tr_s (.tableswitch 37 0 2 #[25, 27, 32]) 25 48 [some (.int x0), some (.int x1), some (.int (x0 / 7)), some (.int (x0 - x0 / 7 * 7))] [] h rfl rfl (tr_tsd rfl (by have := (⟨tr_nt q0, tr_nt q1, tr_nt q2⟩ : x1.toInt ≠ 0 ∧ x1.toInt ≠ 1 ∧ x1.toInt ≠ 2); omega)) ?_
  refine tr_bi 23 23 (by decide) rfl ?_
  refine tr_s (.iload_n 2) 1 51 [some (.int x0), some (.int x1), some (.int (x0 / 7)), some (.int (x0 - x0 / 7 * 7))] [.int (x0 / 7), .int 23] h rfl rfl rfl ?_
  refine tr_s .isub 1 52 [some (.int x0), some (.int x1), some (.int (x0 / 7)), some (.int (x0 - x0 / 7 * 7))] [.int (23 - (x0 / 7))] h rfl rfl rfl ?_
  exact tl_ret hL .ireturn 1 (some (.int (23 - (x0 / 7)))) rfl rfl rfl rfl (by rw [fa_X0_portAt, if_neg q0, if_neg q1, if_neg q2])
def fa_X0_neighbour (x0 : Int32) (x1 : Int32) : Int32 := (if x1 = 0 then (if 0 < (x0 / 7) then x0 - 7 else (-1)) else (if x1 = 1 then (if (x0 - x0 / 7 * 7) < 6 then x0 + 1 else (-1)) else (if x1 = 2 then (if (x0 / 7) < 4 then x0 + 7 else (-1)) else (if 0 < (x0 - x0 / 7 * 7) then x0 - 1 else (-1)))))
theorem sa_X0_neighbour {g : tr_g} {d : Nat} {h : ev_AH} {x0 : Int32} {x1 : Int32} (hL : hh_L h) : tr_L g d m_X0_neighbour 0 [some (.int x0), some (.int x1), none, none] [] h (.inl (some (.int (fa_X0_neighbour x0 x1))), h) := by
  refine tr_s (.iload_n 0) 1 1 [some (.int x0), some (.int x1), none, none] [.int x0] h rfl rfl rfl ?_
  refine tr_bi 7 7 (by decide) rfl ?_
  refine tr_s .idiv 1 4 [some (.int x0), some (.int x1), none, none] [.int (x0 / 7)] h rfl rfl rfl ?_
  refine tr_st (.istore_n 2) 1 2 0 (.int (x0 / 7)) rfl rfl rfl rfl rfl rfl rfl ?_
  refine tr_s (.iload_n 0) 1 6 [some (.int x0), some (.int x1), some (.int (x0 / 7)), none] [.int x0] h rfl rfl rfl ?_
  refine tr_bi 7 7 (by decide) rfl ?_
  refine tr_s .irem 1 9 [some (.int x0), some (.int x1), some (.int (x0 / 7)), none] [.int (x0 - x0 / 7 * 7)] h rfl rfl rfl ?_
  refine tr_st (.istore_n 3) 1 3 0 (.int (x0 - x0 / 7 * 7)) rfl rfl rfl rfl rfl rfl rfl ?_
  refine tr_s (.iload_n 1) 1 11 [some (.int x0), some (.int x1), some (.int (x0 / 7)), some (.int (x0 - x0 / 7 * 7))] [.int x1] h rfl rfl rfl ?_
  by_cases q0 : x1 = 0
  · refine tr_s (.tableswitch 66 0 2 #[25, 38, 52]) 25 36 [some (.int x0), some (.int x1), some (.int (x0 / 7)), some (.int (x0 - x0 / 7 * 7))] [] h rfl rfl (by rw [q0]; rfl) ?_
    refine tr_s (.iload_n 2) 1 37 [some (.int x0), some (.int x1), some (.int (x0 / 7)), some (.int (x0 - x0 / 7 * 7))] [.int (x0 / 7)] h rfl rfl rfl ?_
    refine tr_if1 .le 10 47 (x0 / 7) rfl rfl rfl (fun hc => ?_) (fun hc => ?_)
    · have q1 := (tr_le hc).1 rfl
      refine tr_ic (-1) (-1) (by decide) rfl ?_
      exact tl_ret hL .ireturn 1 (some (.int (-1))) rfl rfl rfl rfl (by rw [fa_X0_neighbour, if_pos q0, if_neg (Int32.not_lt.mpr q1)])
    · have q1 := (tr_le hc).2 rfl
      refine tr_s (.iload_n 0) 1 41 [some (.int x0), some (.int x1), some (.int (x0 / 7)), some (.int (x0 - x0 / 7 * 7))] [.int x0] h rfl rfl rfl ?_
      refine tr_bi 7 7 (by decide) rfl ?_
      refine tr_s .isub 1 44 [some (.int x0), some (.int x1), some (.int (x0 / 7)), some (.int (x0 - x0 / 7 * 7))] [.int (x0 - 7)] h rfl rfl rfl ?_
      refine tr_goto 4 48 rfl rfl rfl ?_
      exact tl_ret hL .ireturn 1 (some (.int (x0 - 7))) rfl rfl rfl rfl (by rw [fa_X0_neighbour, if_pos q0, if_pos q1])
  by_cases q1 : x1 = 1
  · refine tr_s (.tableswitch 66 0 2 #[25, 38, 52]) 25 49 [some (.int x0), some (.int x1), some (.int (x0 / 7)), some (.int (x0 - x0 / 7 * 7))] [] h rfl rfl (by rw [q1]; rfl) ?_
    refine tr_s (.iload_n 3) 1 50 [some (.int x0), some (.int x1), some (.int (x0 / 7)), some (.int (x0 - x0 / 7 * 7))] [.int (x0 - x0 / 7 * 7)] h rfl rfl rfl ?_
    refine tr_bi 6 6 (by decide) rfl ?_
    refine tr_if2 .ge 9 61 (x0 - x0 / 7 * 7) 6 rfl rfl rfl (fun hc => ?_) (fun hc => ?_)
    · have q2 := (tr_ge hc).1 rfl
      refine tr_ic (-1) (-1) (by decide) rfl ?_
      exact tl_ret hL .ireturn 1 (some (.int (-1))) rfl rfl rfl rfl (by rw [fa_X0_neighbour, if_neg q0, if_pos q1, if_neg (Int32.not_lt.mpr q2)])
    · have q2 := (tr_ge hc).2 rfl
      refine tr_s (.iload_n 0) 1 56 [some (.int x0), some (.int x1), some (.int (x0 / 7)), some (.int (x0 - x0 / 7 * 7))] [.int x0] h rfl rfl rfl ?_
      refine tr_ic 1 1 (by decide) rfl ?_
      refine tr_s .iadd 1 58 [some (.int x0), some (.int x1), some (.int (x0 / 7)), some (.int (x0 - x0 / 7 * 7))] [.int (x0 + 1)] h rfl rfl rfl ?_
      refine tr_goto 4 62 rfl rfl rfl ?_
      exact tl_ret hL .ireturn 1 (some (.int (x0 + 1))) rfl rfl rfl rfl (by rw [fa_X0_neighbour, if_neg q0, if_pos q1, if_pos q2])
  by_cases q2 : x1 = 2
  · refine tr_s (.tableswitch 66 0 2 #[25, 38, 52]) 25 63 [some (.int x0), some (.int x1), some (.int (x0 / 7)), some (.int (x0 - x0 / 7 * 7))] [] h rfl rfl (by rw [q2]; rfl) ?_
    refine tr_s (.iload_n 2) 1 64 [some (.int x0), some (.int x1), some (.int (x0 / 7)), some (.int (x0 - x0 / 7 * 7))] [.int (x0 / 7)] h rfl rfl rfl ?_
    refine tr_ic 4 4 (by decide) rfl ?_
    refine tr_if2 .ge 10 75 (x0 / 7) 4 rfl rfl rfl (fun hc => ?_) (fun hc => ?_)
    · have q3 := (tr_ge hc).1 rfl
      refine tr_ic (-1) (-1) (by decide) rfl ?_
      exact tl_ret hL .ireturn 1 (some (.int (-1))) rfl rfl rfl rfl (by rw [fa_X0_neighbour, if_neg q0, if_neg q1, if_pos q2, if_neg (Int32.not_lt.mpr q3)])
    · have q3 := (tr_ge hc).2 rfl
      refine tr_s (.iload_n 0) 1 69 [some (.int x0), some (.int x1), some (.int (x0 / 7)), some (.int (x0 - x0 / 7 * 7))] [.int x0] h rfl rfl rfl ?_
      refine tr_bi 7 7 (by decide) rfl ?_
      refine tr_s .iadd 1 72 [some (.int x0), some (.int x1), some (.int (x0 / 7)), some (.int (x0 - x0 / 7 * 7))] [.int (x0 + 7)] h rfl rfl rfl ?_
      refine tr_goto 4 76 rfl rfl rfl ?_
      exact tl_ret hL .ireturn 1 (some (.int (x0 + 7))) rfl rfl rfl rfl (by rw [fa_X0_neighbour, if_neg q0, if_neg q1, if_pos q2, if_pos q3])
  refine tr_s (.tableswitch 66 0 2 #[25, 38, 52]) 25 77 [some (.int x0), some (.int x1), some (.int (x0 / 7)), some (.int (x0 - x0 / 7 * 7))] [] h rfl rfl (tr_tsd rfl (by have := (⟨tr_nt q0, tr_nt q1, tr_nt q2⟩ : x1.toInt ≠ 0 ∧ x1.toInt ≠ 1 ∧ x1.toInt ≠ 2); omega)) ?_
  refine tr_s (.iload_n 3) 1 78 [some (.int x0), some (.int x1), some (.int (x0 / 7)), some (.int (x0 - x0 / 7 * 7))] [.int (x0 - x0 / 7 * 7)] h rfl rfl rfl ?_
  refine tr_if1 .le 9 87 (x0 - x0 / 7 * 7) rfl rfl rfl (fun hc => ?_) (fun hc => ?_)
  · have q3 := (tr_le hc).1 rfl
    refine tr_ic (-1) (-1) (by decide) rfl ?_
    exact tl_ret hL .ireturn 1 (some (.int (-1))) rfl rfl rfl rfl (by rw [fa_X0_neighbour, if_neg q0, if_neg q1, if_neg q2, if_neg (Int32.not_lt.mpr q3)])
  · have q3 := (tr_le hc).2 rfl
    refine tr_s (.iload_n 0) 1 82 [some (.int x0), some (.int x1), some (.int (x0 / 7)), some (.int (x0 - x0 / 7 * 7))] [.int x0] h rfl rfl rfl ?_
    refine tr_ic 1 1 (by decide) rfl ?_
    refine tr_s .isub 1 84 [some (.int x0), some (.int x1), some (.int (x0 / 7)), some (.int (x0 - x0 / 7 * 7))] [.int (x0 - 1)] h rfl rfl rfl ?_
    refine tr_goto 4 88 rfl rfl rfl ?_
    exact tl_ret hL .ireturn 1 (some (.int (x0 - 1))) rfl rfl rfl rfl (by rw [fa_X0_neighbour, if_neg q0, if_neg q1, if_neg q2, if_pos q3])
def fa_X0_reflected (x0 : Int32) (x1 : Int32) : Int32 := (if x0 = 47 then x1 ^^^ 1 else (if x0 = 92 then 3 - x1 else x1))
theorem sa_X0_reflected {g : tr_g} {d : Nat} {h : ev_AH} {x0 : Int32} {x1 : Int32} (hL : hh_L h) : tr_L g d m_X0_reflected 0 [some (.int x0), some (.int x1)] [] h (.inl (some (.int (fa_X0_reflected x0 x1))), h) := by
  refine tr_s (.iload_n 0) 1 1 [some (.int x0), some (.int x1)] [.int x0] h rfl rfl rfl ?_
  refine tr_bi 47 47 (by decide) rfl ?_
  refine tr_if2 .ne 7 10 x0 47 rfl rfl rfl (fun hc => ?_) (fun hc => ?_)
  · have q0 := (tr_ne hc).1 rfl
    refine tr_s (.iload_n 0) 1 11 [some (.int x0), some (.int x1)] [.int x0] h rfl rfl rfl ?_
    refine tr_bi 92 92 (by decide) rfl ?_
    refine tr_if2 .ne 9 22 x0 92 rfl rfl rfl (fun hc => ?_) (fun hc => ?_)
    · have q1 := (tr_ne hc).1 rfl
      refine tr_s (.iload_n 1) 1 23 [some (.int x0), some (.int x1)] [.int x1] h rfl rfl rfl ?_
      exact tl_ret hL .ireturn 1 (some (.int x1)) rfl rfl rfl rfl (by rw [fa_X0_reflected, if_neg q0, if_neg q1])
    · have q1 := (tr_ne hc).2 rfl
      refine tr_ic 3 3 (by decide) rfl ?_
      refine tr_s (.iload_n 1) 1 18 [some (.int x0), some (.int x1)] [.int x1, .int 3] h rfl rfl rfl ?_
      refine tr_s .isub 1 19 [some (.int x0), some (.int x1)] [.int (3 - x1)] h rfl rfl rfl ?_
      refine tr_goto 4 23 rfl rfl rfl ?_
      exact tl_ret hL .ireturn 1 (some (.int (3 - x1))) rfl rfl rfl rfl (by rw [fa_X0_reflected, if_neg q0, if_pos q1])
  · have q0 := (tr_ne hc).2 rfl
    refine tr_s (.iload_n 1) 1 7 [some (.int x0), some (.int x1)] [.int x1] h rfl rfl rfl ?_
    refine tr_ic 1 1 (by decide) rfl ?_
    refine tr_s .ixor 1 9 [some (.int x0), some (.int x1)] [.int (x1 ^^^ 1)] h rfl rfl rfl ?_
    exact tl_ret hL .ireturn 1 (some (.int (x1 ^^^ 1))) rfl rfl rfl rfl (by rw [fa_X0_reflected, if_pos q0])
def fa_X0_opposite (x0 : Int32) : Int32 := x0 ^^^ 2
theorem sa_X0_opposite {g : tr_g} {d : Nat} {h : ev_AH} {x0 : Int32} (hL : hh_L h) : tr_L g d m_X0_opposite 0 [some (.int x0)] [] h (.inl (some (.int (fa_X0_opposite x0))), h) := by
  refine tr_s (.iload_n 0) 1 1 [some (.int x0)] [.int x0] h rfl rfl rfl ?_
  refine tr_ic 2 2 (by decide) rfl ?_
  refine tr_s .ixor 1 3 [some (.int x0)] [.int (x0 ^^^ 2)] h rfl rfl rfl ?_
  exact tl_ret hL .ireturn 1 (some (.int (x0 ^^^ 2))) rfl rfl rfl rfl (by rw [fa_X0_opposite])
def fa_X0_side (x0 : Int32) (x1 : Int32) : Int32 := (4 * x0) + x1
theorem sa_X0_side {g : tr_g} {d : Nat} {h : ev_AH} {x0 : Int32} {x1 : Int32} (hL : hh_L h) : tr_L g d m_X0_side 0 [some (.int x0), some (.int x1)] [] h (.inl (some (.int (fa_X0_side x0 x1))), h) := by
  refine tr_ic 4 4 (by decide) rfl ?_
  refine tr_s (.iload_n 0) 1 2 [some (.int x0), some (.int x1)] [.int x0, .int 4] h rfl rfl rfl ?_
  refine tr_s .imul 1 3 [some (.int x0), some (.int x1)] [.int (4 * x0)] h rfl rfl rfl ?_
  refine tr_s (.iload_n 1) 1 4 [some (.int x0), some (.int x1)] [.int x1, .int (4 * x0)] h rfl rfl rfl ?_
  refine tr_s .iadd 1 5 [some (.int x0), some (.int x1)] [.int ((4 * x0) + x1)] h rfl rfl rfl ?_
  exact tl_ret hL .ireturn 1 (some (.int ((4 * x0) + x1))) rfl rfl rfl rfl (by rw [fa_X0_side])
def fa_X8_isCell (x0 : Int32) : Int32 := (if x0 < 0 then 0 else (if x0 < 35 then 1 else 0))
theorem fb_X8_isCell {x0 : Int32} : fa_X8_isCell x0 = 0 ∨ fa_X8_isCell x0 = 1 := by
  unfold fa_X8_isCell
  repeat' split
  all_goals first | exact Or.inl rfl | exact Or.inr rfl
theorem sa_X8_isCell {g : tr_g} {d : Nat} {h : ev_AH} {x0 : Int32} (hL : hh_L h) : tr_L g d m_X8_isCell 0 [some (.int x0)] [] h (.inl (some (.int (fa_X8_isCell x0))), h) := by
  refine tr_s (.iload_n 0) 1 1 [some (.int x0)] [.int x0] h rfl rfl rfl ?_
  refine tr_if1 .lt 13 14 x0 rfl rfl rfl (fun hc => ?_) (fun hc => ?_)
  · have q0 := (tr_lt hc).1 rfl
    refine tr_ic 0 0 (by decide) rfl ?_
    exact tl_ret hL .ireturn 1 (some (.int 0)) rfl rfl rfl rfl (by rw [fa_X8_isCell, if_pos q0])
  · have q0 := (tr_lt hc).2 rfl
    refine tr_s (.iload_n 0) 1 5 [some (.int x0)] [.int x0] h rfl rfl rfl ?_
    refine tr_bi 35 35 (by decide) rfl ?_
    refine tr_if2 .ge 7 14 x0 35 rfl rfl rfl (fun hc => ?_) (fun hc => ?_)
    · have q1 := (tr_ge hc).1 rfl
      refine tr_ic 0 0 (by decide) rfl ?_
      exact tl_ret hL .ireturn 1 (some (.int 0)) rfl rfl rfl rfl (by rw [fa_X8_isCell, if_neg (Int32.not_lt.mpr q0), if_neg (Int32.not_lt.mpr q1)])
    · have q1 := (tr_ge hc).2 rfl
      refine tr_ic 1 1 (by decide) rfl ?_
      refine tr_goto 4 15 rfl rfl rfl ?_
      exact tl_ret hL .ireturn 1 (some (.int 1)) rfl rfl rfl rfl (by rw [fa_X8_isCell, if_neg (Int32.not_lt.mpr q0), if_pos q1])
def fa_X8_isPort (x0 : Int32) : Int32 := (if x0 < 0 then 0 else (if x0 < 24 then 1 else 0))
theorem fb_X8_isPort {x0 : Int32} : fa_X8_isPort x0 = 0 ∨ fa_X8_isPort x0 = 1 := by
  unfold fa_X8_isPort
  repeat' split
  all_goals first | exact Or.inl rfl | exact Or.inr rfl | exact fb_X8_isCell
theorem sa_X8_isPort {g : tr_g} {d : Nat} {h : ev_AH} {x0 : Int32} (hL : hh_L h) : tr_L g d m_X8_isPort 0 [some (.int x0)] [] h (.inl (some (.int (fa_X8_isPort x0))), h) := by
  refine tr_s (.iload_n 0) 1 1 [some (.int x0)] [.int x0] h rfl rfl rfl ?_
  refine tr_if1 .lt 13 14 x0 rfl rfl rfl (fun hc => ?_) (fun hc => ?_)
  · have q0 := (tr_lt hc).1 rfl
    refine tr_ic 0 0 (by decide) rfl ?_
    exact tl_ret hL .ireturn 1 (some (.int 0)) rfl rfl rfl rfl (by rw [fa_X8_isPort, if_pos q0])
  · have q0 := (tr_lt hc).2 rfl
    refine tr_s (.iload_n 0) 1 5 [some (.int x0)] [.int x0] h rfl rfl rfl ?_
    refine tr_bi 24 24 (by decide) rfl ?_
    refine tr_if2 .ge 7 14 x0 24 rfl rfl rfl (fun hc => ?_) (fun hc => ?_)
    · have q1 := (tr_ge hc).1 rfl
      refine tr_ic 0 0 (by decide) rfl ?_
      exact tl_ret hL .ireturn 1 (some (.int 0)) rfl rfl rfl rfl (by rw [fa_X8_isPort, if_neg (Int32.not_lt.mpr q0), if_neg (Int32.not_lt.mpr q1)])
    · have q1 := (tr_ge hc).2 rfl
      refine tr_ic 1 1 (by decide) rfl ?_
      refine tr_goto 4 15 rfl rfl rfl ?_
      exact tl_ret hL .ireturn 1 (some (.int 1)) rfl rfl rfl rfl (by rw [fa_X8_isPort, if_neg (Int32.not_lt.mpr q0), if_pos q1])
def fa_X8_isOption (x0 : Int32) : Int32 := (if x0 < 97 then 0 else (if 100 < x0 then 0 else 1))
theorem fb_X8_isOption {x0 : Int32} : fa_X8_isOption x0 = 0 ∨ fa_X8_isOption x0 = 1 := by
  unfold fa_X8_isOption
  repeat' split
  all_goals first | exact Or.inl rfl | exact Or.inr rfl | exact fb_X8_isCell | exact fb_X8_isPort
theorem sa_X8_isOption {g : tr_g} {d : Nat} {h : ev_AH} {x0 : Int32} (hL : hh_L h) : tr_L g d m_X8_isOption 0 [some (.int x0)] [] h (.inl (some (.int (fa_X8_isOption x0))), h) := by
  refine tr_s (.iload_n 0) 1 1 [some (.int x0)] [.int x0] h rfl rfl rfl ?_
  refine tr_bi 97 97 (by decide) rfl ?_
  refine tr_if2 .lt 13 16 x0 97 rfl rfl rfl (fun hc => ?_) (fun hc => ?_)
  · have q0 := (tr_lt hc).1 rfl
    refine tr_ic 0 0 (by decide) rfl ?_
    exact tl_ret hL .ireturn 1 (some (.int 0)) rfl rfl rfl rfl (by rw [fa_X8_isOption, if_pos q0])
  · have q0 := (tr_lt hc).2 rfl
    refine tr_s (.iload_n 0) 1 7 [some (.int x0)] [.int x0] h rfl rfl rfl ?_
    refine tr_bi 100 100 (by decide) rfl ?_
    refine tr_if2 .gt 7 16 x0 100 rfl rfl rfl (fun hc => ?_) (fun hc => ?_)
    · have q1 := (tr_gt hc).1 rfl
      refine tr_ic 0 0 (by decide) rfl ?_
      exact tl_ret hL .ireturn 1 (some (.int 0)) rfl rfl rfl rfl (by rw [fa_X8_isOption, if_neg (Int32.not_lt.mpr q0), if_pos q1])
    · have q1 := (tr_gt hc).2 rfl
      refine tr_ic 1 1 (by decide) rfl ?_
      refine tr_goto 4 17 rfl rfl rfl ?_
      exact tl_ret hL .ireturn 1 (some (.int 1)) rfl rfl rfl rfl (by rw [fa_X8_isOption, if_neg (Int32.not_lt.mpr q0), if_neg (Int32.not_lt.mpr q1)])
def fa_X8_isContent (x0 : Int32) : Int32 := (if x0 = 46 then 1 else (if x0 = 47 then 1 else (if x0 = 92 then 1 else 0)))
theorem fb_X8_isContent {x0 : Int32} : fa_X8_isContent x0 = 0 ∨ fa_X8_isContent x0 = 1 := by
  unfold fa_X8_isContent
  repeat' split
  all_goals first | exact Or.inl rfl | exact Or.inr rfl | exact fb_X8_isCell | exact fb_X8_isPort | exact fb_X8_isOption
theorem sa_X8_isContent {g : tr_g} {d : Nat} {h : ev_AH} {x0 : Int32} (hL : hh_L h) : tr_L g d m_X8_isContent 0 [some (.int x0)] [] h (.inl (some (.int (fa_X8_isContent x0))), h) := by
  refine tr_s (.iload_n 0) 1 1 [some (.int x0)] [.int x0] h rfl rfl rfl ?_
  refine tr_bi 46 46 (by decide) rfl ?_
  refine tr_if2 .eq 15 18 x0 46 rfl rfl rfl (fun hc => ?_) (fun hc => ?_)
  · have q0 := (tr_eq hc).1 rfl
    refine tr_ic 1 1 (by decide) rfl ?_
    refine tr_goto 4 23 rfl rfl rfl ?_
    exact tl_ret hL .ireturn 1 (some (.int 1)) rfl rfl rfl rfl (by rw [fa_X8_isContent, if_pos q0])
  · have q0 := (tr_eq hc).2 rfl
    refine tr_s (.iload_n 0) 1 7 [some (.int x0)] [.int x0] h rfl rfl rfl ?_
    refine tr_bi 47 47 (by decide) rfl ?_
    refine tr_if2 .eq 9 18 x0 47 rfl rfl rfl (fun hc => ?_) (fun hc => ?_)
    · have q1 := (tr_eq hc).1 rfl
      refine tr_ic 1 1 (by decide) rfl ?_
      refine tr_goto 4 23 rfl rfl rfl ?_
      exact tl_ret hL .ireturn 1 (some (.int 1)) rfl rfl rfl rfl (by rw [fa_X8_isContent, if_neg q0, if_pos q1])
    · have q1 := (tr_eq hc).2 rfl
      refine tr_s (.iload_n 0) 1 13 [some (.int x0)] [.int x0] h rfl rfl rfl ?_
      refine tr_bi 92 92 (by decide) rfl ?_
      refine tr_if2 .ne 7 22 x0 92 rfl rfl rfl (fun hc => ?_) (fun hc => ?_)
      · have q2 := (tr_ne hc).1 rfl
        refine tr_ic 0 0 (by decide) rfl ?_
        exact tl_ret hL .ireturn 1 (some (.int 0)) rfl rfl rfl rfl (by rw [fa_X8_isContent, if_neg q0, if_neg q1, if_neg q2])
      · have q2 := (tr_ne hc).2 rfl
        refine tr_ic 1 1 (by decide) rfl ?_
        refine tr_goto 4 23 rfl rfl rfl ?_
        exact tl_ret hL .ireturn 1 (some (.int 1)) rfl rfl rfl rfl (by rw [fa_X8_isContent, if_neg q0, if_neg q1, if_pos q2])
def fa_X8_isMethod (x0 : Int32) : Int32 := (if x0 = 112 then 1 else (if x0 = 114 then 1 else (if x0 = 115 then 1 else 0)))
theorem fb_X8_isMethod {x0 : Int32} : fa_X8_isMethod x0 = 0 ∨ fa_X8_isMethod x0 = 1 := by
  unfold fa_X8_isMethod
  repeat' split
  all_goals first | exact Or.inl rfl | exact Or.inr rfl | exact fb_X8_isCell | exact fb_X8_isPort | exact fb_X8_isOption | exact fb_X8_isContent
theorem sa_X8_isMethod {g : tr_g} {d : Nat} {h : ev_AH} {x0 : Int32} (hL : hh_L h) : tr_L g d m_X8_isMethod 0 [some (.int x0)] [] h (.inl (some (.int (fa_X8_isMethod x0))), h) := by
  refine tr_s (.iload_n 0) 1 1 [some (.int x0)] [.int x0] h rfl rfl rfl ?_
  refine tr_bi 112 112 (by decide) rfl ?_
  refine tr_if2 .eq 15 18 x0 112 rfl rfl rfl (fun hc => ?_) (fun hc => ?_)
  · have q0 := (tr_eq hc).1 rfl
    refine tr_ic 1 1 (by decide) rfl ?_
    refine tr_goto 4 23 rfl rfl rfl ?_
    exact tl_ret hL .ireturn 1 (some (.int 1)) rfl rfl rfl rfl (by rw [fa_X8_isMethod, if_pos q0])
  · have q0 := (tr_eq hc).2 rfl
    refine tr_s (.iload_n 0) 1 7 [some (.int x0)] [.int x0] h rfl rfl rfl ?_
    refine tr_bi 114 114 (by decide) rfl ?_
    refine tr_if2 .eq 9 18 x0 114 rfl rfl rfl (fun hc => ?_) (fun hc => ?_)
    · have q1 := (tr_eq hc).1 rfl
      refine tr_ic 1 1 (by decide) rfl ?_
      refine tr_goto 4 23 rfl rfl rfl ?_
      exact tl_ret hL .ireturn 1 (some (.int 1)) rfl rfl rfl rfl (by rw [fa_X8_isMethod, if_neg q0, if_pos q1])
    · have q1 := (tr_eq hc).2 rfl
      refine tr_s (.iload_n 0) 1 13 [some (.int x0)] [.int x0] h rfl rfl rfl ?_
      refine tr_bi 115 115 (by decide) rfl ?_
      refine tr_if2 .ne 7 22 x0 115 rfl rfl rfl (fun hc => ?_) (fun hc => ?_)
      · have q2 := (tr_ne hc).1 rfl
        refine tr_ic 0 0 (by decide) rfl ?_
        exact tl_ret hL .ireturn 1 (some (.int 0)) rfl rfl rfl rfl (by rw [fa_X8_isMethod, if_neg q0, if_neg q1, if_neg q2])
      · have q2 := (tr_ne hc).2 rfl
        refine tr_ic 1 1 (by decide) rfl ?_
        refine tr_goto 4 23 rfl rfl rfl ?_
        exact tl_ret hL .ireturn 1 (some (.int 1)) rfl rfl rfl rfl (by rw [fa_X8_isMethod, if_neg q0, if_neg q1, if_pos q2])
def fa_X8_areThreeOptions (x0 : Int32) (x1 : Int32) (x2 : Int32) : Int32 := (if (fa_X8_isOption x0) = 0 then 0 else (if (fa_X8_isOption x1) = 0 then 0 else (if (fa_X8_isOption x2) = 0 then 0 else (if x0 = x1 then 0 else (if x0 = x2 then 0 else (if x1 = x2 then 0 else 1))))))
theorem fb_X8_areThreeOptions {x0 : Int32} {x1 : Int32} {x2 : Int32} : fa_X8_areThreeOptions x0 x1 x2 = 0 ∨ fa_X8_areThreeOptions x0 x1 x2 = 1 := by
  unfold fa_X8_areThreeOptions
  repeat' split
  all_goals first | exact Or.inl rfl | exact Or.inr rfl | exact fb_X8_isCell | exact fb_X8_isPort | exact fb_X8_isOption | exact fb_X8_isContent | exact fb_X8_isMethod
theorem sa_X8_areThreeOptions {g : tr_g} {d : Nat} {h : ev_AH} {x0 : Int32} {x1 : Int32} {x2 : Int32} (hL : hh_L h) : tr_L g (d + 1) m_X8_areThreeOptions 0 [some (.int x0), some (.int x1), some (.int x2)] [] h (.inl (some (.int (fa_X8_areThreeOptions x0 x1 x2))), h) := by
  refine tr_s (.iload_n 0) 1 1 [some (.int x0), some (.int x1), some (.int x2)] [.int x0] h rfl rfl rfl ?_
  refine tr_call (.invokestatic 437) 437 2 1 0 m_X8_isOption [.int x0] [] (some (.int (fa_X8_isOption x0))) h rfl rfl rfl rfl rfl rfl rfl rfl rfl (tr_cok rfl (Or.inl rfl)) (sa_X8_isOption hL) ?_
  refine tr_if1 .eq 36 40 (fa_X8_isOption x0) rfl rfl rfl (fun hc => ?_) (fun hc => ?_)
  · have q0 := (tr_eq hc).1 rfl
    refine tr_ic 0 0 (by decide) rfl ?_
    exact tl_ret hL .ireturn 1 (some (.int 0)) rfl rfl rfl rfl (by rw [fa_X8_areThreeOptions, if_pos q0])
  · have q0 := (tr_eq hc).2 rfl
    refine tr_s (.iload_n 1) 1 8 [some (.int x0), some (.int x1), some (.int x2)] [.int x1] h rfl rfl rfl ?_
    refine tr_call (.invokestatic 437) 437 2 1 0 m_X8_isOption [.int x1] [] (some (.int (fa_X8_isOption x1))) h rfl rfl rfl rfl rfl rfl rfl rfl rfl (tr_cok rfl (Or.inl rfl)) (sa_X8_isOption hL) ?_
    refine tr_if1 .eq 29 40 (fa_X8_isOption x1) rfl rfl rfl (fun hc => ?_) (fun hc => ?_)
    · have q1 := (tr_eq hc).1 rfl
      refine tr_ic 0 0 (by decide) rfl ?_
      exact tl_ret hL .ireturn 1 (some (.int 0)) rfl rfl rfl rfl (by rw [fa_X8_areThreeOptions, if_neg q0, if_pos q1])
    · have q1 := (tr_eq hc).2 rfl
      refine tr_s (.iload_n 2) 1 15 [some (.int x0), some (.int x1), some (.int x2)] [.int x2] h rfl rfl rfl ?_
      refine tr_call (.invokestatic 437) 437 2 1 0 m_X8_isOption [.int x2] [] (some (.int (fa_X8_isOption x2))) h rfl rfl rfl rfl rfl rfl rfl rfl rfl (tr_cok rfl (Or.inl rfl)) (sa_X8_isOption hL) ?_
      refine tr_if1 .eq 22 40 (fa_X8_isOption x2) rfl rfl rfl (fun hc => ?_) (fun hc => ?_)
      · have q2 := (tr_eq hc).1 rfl
        refine tr_ic 0 0 (by decide) rfl ?_
        exact tl_ret hL .ireturn 1 (some (.int 0)) rfl rfl rfl rfl (by rw [fa_X8_areThreeOptions, if_neg q0, if_neg q1, if_pos q2])
      · have q2 := (tr_eq hc).2 rfl
        refine tr_s (.iload_n 0) 1 22 [some (.int x0), some (.int x1), some (.int x2)] [.int x0] h rfl rfl rfl ?_
        refine tr_s (.iload_n 1) 1 23 [some (.int x0), some (.int x1), some (.int x2)] [.int x1, .int x0] h rfl rfl rfl ?_
        refine tr_if2 .eq 17 40 x0 x1 rfl rfl rfl (fun hc => ?_) (fun hc => ?_)
        · have q3 := (tr_eq hc).1 rfl
          refine tr_ic 0 0 (by decide) rfl ?_
          exact tl_ret hL .ireturn 1 (some (.int 0)) rfl rfl rfl rfl (by rw [fa_X8_areThreeOptions, if_neg q0, if_neg q1, if_neg q2, if_pos q3])
        · have q3 := (tr_eq hc).2 rfl
          refine tr_s (.iload_n 0) 1 27 [some (.int x0), some (.int x1), some (.int x2)] [.int x0] h rfl rfl rfl ?_
          refine tr_s (.iload_n 2) 1 28 [some (.int x0), some (.int x1), some (.int x2)] [.int x2, .int x0] h rfl rfl rfl ?_
          refine tr_if2 .eq 12 40 x0 x2 rfl rfl rfl (fun hc => ?_) (fun hc => ?_)
          · have q4 := (tr_eq hc).1 rfl
            refine tr_ic 0 0 (by decide) rfl ?_
            exact tl_ret hL .ireturn 1 (some (.int 0)) rfl rfl rfl rfl (by rw [fa_X8_areThreeOptions, if_neg q0, if_neg q1, if_neg q2, if_neg q3, if_pos q4])
          · have q4 := (tr_eq hc).2 rfl
            refine tr_s (.iload_n 1) 1 32 [some (.int x0), some (.int x1), some (.int x2)] [.int x1] h rfl rfl rfl ?_
            refine tr_s (.iload_n 2) 1 33 [some (.int x0), some (.int x1), some (.int x2)] [.int x2, .int x1] h rfl rfl rfl ?_
            refine tr_if2 .eq 7 40 x1 x2 rfl rfl rfl (fun hc => ?_) (fun hc => ?_)
            · have q5 := (tr_eq hc).1 rfl
              refine tr_ic 0 0 (by decide) rfl ?_
              exact tl_ret hL .ireturn 1 (some (.int 0)) rfl rfl rfl rfl (by rw [fa_X8_areThreeOptions, if_neg q0, if_neg q1, if_neg q2, if_neg q3, if_neg q4, if_pos q5])
            · have q5 := (tr_eq hc).2 rfl
              refine tr_ic 1 1 (by decide) rfl ?_
              refine tr_goto 4 41 rfl rfl rfl ?_
              exact tl_ret hL .ireturn 1 (some (.int 1)) rfl rfl rfl rfl (by rw [fa_X8_areThreeOptions, if_neg q0, if_neg q1, if_neg q2, if_neg q3, if_neg q4, if_neg q5])
def fa_X8_indexOf (x0 : Int32) : Int32 := x0 - 97
theorem sa_X8_indexOf {g : tr_g} {d : Nat} {h : ev_AH} {x0 : Int32} (hL : hh_L h) : tr_L g d m_X8_indexOf 0 [some (.int x0)] [] h (.inl (some (.int (fa_X8_indexOf x0))), h) := by
  refine tr_s (.iload_n 0) 1 1 [some (.int x0)] [.int x0] h rfl rfl rfl ?_
  refine tr_bi 97 97 (by decide) rfl ?_
  refine tr_s .isub 1 4 [some (.int x0)] [.int (x0 - 97)] h rfl rfl rfl ?_
  exact tl_ret hL .ireturn 1 (some (.int (x0 - 97))) rfl rfl rfl rfl (by rw [fa_X8_indexOf])
def fa_X8_letterOf (x0 : Int32) : Int32 := ((97 + x0).toUInt32 % 65536).toInt32
theorem sa_X8_letterOf {g : tr_g} {d : Nat} {h : ev_AH} {x0 : Int32} (hL : hh_L h) : tr_L g d m_X8_letterOf 0 [some (.int x0)] [] h (.inl (some (.int (fa_X8_letterOf x0))), h) := by
  refine tr_bi 97 97 (by decide) rfl ?_
  refine tr_s (.iload_n 0) 1 3 [some (.int x0)] [.int x0, .int 97] h rfl rfl rfl ?_
  refine tr_s .iadd 1 4 [some (.int x0)] [.int (97 + x0)] h rfl rfl rfl ?_
  refine tr_s .i2c 1 5 [some (.int x0)] [.int (((97 + x0).toUInt32 % 65536).toInt32)] h rfl rfl rfl ?_
  exact tl_ret hL .ireturn 1 (some (.int (((97 + x0).toUInt32 % 65536).toInt32))) rfl rfl rfl (tr_ec rfl (tr_chc _)) (by rw [fa_X8_letterOf])
def fa_X8_digitOf (x0 : Int32) : Int32 := ((48 + x0).toUInt32 % 65536).toInt32
theorem sa_X8_digitOf {g : tr_g} {d : Nat} {h : ev_AH} {x0 : Int32} (hL : hh_L h) : tr_L g d m_X8_digitOf 0 [some (.int x0)] [] h (.inl (some (.int (fa_X8_digitOf x0))), h) := by
  refine tr_bi 48 48 (by decide) rfl ?_
  refine tr_s (.iload_n 0) 1 3 [some (.int x0)] [.int x0, .int 48] h rfl rfl rfl ?_
  refine tr_s .iadd 1 4 [some (.int x0)] [.int (48 + x0)] h rfl rfl rfl ?_
  refine tr_s .i2c 1 5 [some (.int x0)] [.int (((48 + x0).toUInt32 % 65536).toInt32)] h rfl rfl rfl ?_
  exact tl_ret hL .ireturn 1 (some (.int (((48 + x0).toUInt32 % 65536).toInt32))) rfl rfl rfl (tr_ec rfl (tr_chc _)) (by rw [fa_X8_digitOf])
def fa_X7_isIn (x0 : Int32) (x1 : Int32) : Int32 := (if ((x0 >>> (x1 &&& 31)) &&& 1) = 1 then 1 else 0)
theorem fb_X7_isIn {x0 : Int32} {x1 : Int32} : fa_X7_isIn x0 x1 = 0 ∨ fa_X7_isIn x0 x1 = 1 := by
  unfold fa_X7_isIn
  repeat' split
  all_goals first | exact Or.inl rfl | exact Or.inr rfl | exact fb_X8_isCell | exact fb_X8_isPort | exact fb_X8_isOption | exact fb_X8_isContent | exact fb_X8_isMethod | exact fb_X8_areThreeOptions
theorem sa_X7_isIn {g : tr_g} {d : Nat} {h : ev_AH} {x0 : Int32} {x1 : Int32} (hL : hh_L h) : tr_L g d m_X7_isIn 0 [some (.int x0), some (.int x1)] [] h (.inl (some (.int (fa_X7_isIn x0 x1))), h) := by
  refine tr_s (.iload_n 0) 1 1 [some (.int x0), some (.int x1)] [.int x0] h rfl rfl rfl ?_
  refine tr_s (.iload_n 1) 1 2 [some (.int x0), some (.int x1)] [.int x1, .int x0] h rfl rfl rfl ?_
  refine tr_s .ishr 1 3 [some (.int x0), some (.int x1)] [.int (x0 >>> (x1 &&& 31))] h rfl rfl rfl ?_
  refine tr_ic 1 1 (by decide) rfl ?_
  refine tr_s .iand 1 5 [some (.int x0), some (.int x1)] [.int ((x0 >>> (x1 &&& 31)) &&& 1)] h rfl rfl rfl ?_
  refine tr_ic 1 1 (by decide) rfl ?_
  refine tr_if2 .ne 7 13 ((x0 >>> (x1 &&& 31)) &&& 1) 1 rfl rfl rfl (fun hc => ?_) (fun hc => ?_)
  · have q0 := (tr_ne hc).1 rfl
    refine tr_ic 0 0 (by decide) rfl ?_
    exact tl_ret hL .ireturn 1 (some (.int 0)) rfl rfl rfl rfl (by rw [fa_X7_isIn, if_neg q0])
  · have q0 := (tr_ne hc).2 rfl
    refine tr_ic 1 1 (by decide) rfl ?_
    refine tr_goto 4 14 rfl rfl rfl ?_
    exact tl_ret hL .ireturn 1 (some (.int 1)) rfl rfl rfl rfl (by rw [fa_X7_isIn, if_pos q0])
def fa_X7_pair (x0 : Int32) (x1 : Int32) : Int32 := (4 * x0) + x1
theorem sa_X7_pair {g : tr_g} {d : Nat} {h : ev_AH} {x0 : Int32} {x1 : Int32} (hL : hh_L h) : tr_L g d m_X7_pair 0 [some (.int x0), some (.int x1)] [] h (.inl (some (.int (fa_X7_pair x0 x1))), h) := by
  refine tr_ic 4 4 (by decide) rfl ?_
  refine tr_s (.iload_n 0) 1 2 [some (.int x0), some (.int x1)] [.int x0, .int 4] h rfl rfl rfl ?_
  refine tr_s .imul 1 3 [some (.int x0), some (.int x1)] [.int (4 * x0)] h rfl rfl rfl ?_
  refine tr_s (.iload_n 1) 1 4 [some (.int x0), some (.int x1)] [.int x1, .int (4 * x0)] h rfl rfl rfl ?_
  refine tr_s .iadd 1 5 [some (.int x0), some (.int x1)] [.int ((4 * x0) + x1)] h rfl rfl rfl ?_
  exact tl_ret hL .ireturn 1 (some (.int ((4 * x0) + x1))) rfl rfl rfl rfl (by rw [fa_X7_pair])
def fa_X6_isDigit (x0 : Int32) : Int32 := (if x0 < 48 then 0 else (if 57 < x0 then 0 else 1))
theorem fb_X6_isDigit {x0 : Int32} : fa_X6_isDigit x0 = 0 ∨ fa_X6_isDigit x0 = 1 := by
  unfold fa_X6_isDigit
  repeat' split
  all_goals first | exact Or.inl rfl | exact Or.inr rfl | exact fb_X8_isCell | exact fb_X8_isPort | exact fb_X8_isOption | exact fb_X8_isContent | exact fb_X8_isMethod | exact fb_X8_areThreeOptions | exact fb_X7_isIn
theorem sa_X6_isDigit {g : tr_g} {d : Nat} {h : ev_AH} {x0 : Int32} (hL : hh_L h) : tr_L g d m_X6_isDigit 0 [some (.int x0)] [] h (.inl (some (.int (fa_X6_isDigit x0))), h) := by
  refine tr_s (.iload_n 0) 1 1 [some (.int x0)] [.int x0] h rfl rfl rfl ?_
  refine tr_bi 48 48 (by decide) rfl ?_
  refine tr_if2 .lt 13 16 x0 48 rfl rfl rfl (fun hc => ?_) (fun hc => ?_)
  · have q0 := (tr_lt hc).1 rfl
    refine tr_ic 0 0 (by decide) rfl ?_
    exact tl_ret hL .ireturn 1 (some (.int 0)) rfl rfl rfl rfl (by rw [fa_X6_isDigit, if_pos q0])
  · have q0 := (tr_lt hc).2 rfl
    refine tr_s (.iload_n 0) 1 7 [some (.int x0)] [.int x0] h rfl rfl rfl ?_
    refine tr_bi 57 57 (by decide) rfl ?_
    refine tr_if2 .gt 7 16 x0 57 rfl rfl rfl (fun hc => ?_) (fun hc => ?_)
    · have q1 := (tr_gt hc).1 rfl
      refine tr_ic 0 0 (by decide) rfl ?_
      exact tl_ret hL .ireturn 1 (some (.int 0)) rfl rfl rfl rfl (by rw [fa_X6_isDigit, if_neg (Int32.not_lt.mpr q0), if_pos q1])
    · have q1 := (tr_gt hc).2 rfl
      refine tr_ic 1 1 (by decide) rfl ?_
      refine tr_goto 4 17 rfl rfl rfl ?_
      exact tl_ret hL .ireturn 1 (some (.int 1)) rfl rfl rfl rfl (by rw [fa_X6_isDigit, if_neg (Int32.not_lt.mpr q0), if_neg (Int32.not_lt.mpr q1)])
