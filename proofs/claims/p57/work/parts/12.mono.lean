/-! the used room never falls -/
def ev_le (h h' : ev_AH) : Prop := h.1.length ≤ h'.1.length ∧ h.2.1 ≤ h'.2.1 ∧ h.2.2 ≤ h'.2.2
theorem ev_le_rf {h : ev_AH} : ev_le h h := ⟨Nat.le_refl _, Nat.le_refl _, Nat.le_refl _⟩
theorem ev_le_tr {a b c : ev_AH} (h1 : ev_le a b) (h2 : ev_le b c) : ev_le a c := ⟨Nat.le_trans h1.1 h2.1, Nat.le_trans h1.2.1 h2.2.1, Nat.le_trans h1.2.2 h2.2.2⟩
theorem ev_le_wr {h : ev_AH} {a : Nat} {x : ev_AC} : ev_le h (ev_wr h a x) := ⟨Nat.le_of_eq List.length_set.symm, Nat.le_refl _, Nat.le_refl _⟩
theorem ev_le_push {h : ev_AH} {x : ev_AC} {z : Nat} : ev_le h (h.1 ++ [x], h.2.1 + 1, h.2.2 + z) := ⟨by simp, Nat.le_succ _, Nat.le_add_right _ _⟩
theorem ev_w_le {G : ev_G} {M : ev_MD} {S S' : List Value} {h h' : ev_AH} {i : Instr} (hp : ev_w G M S h i = some (S', h')) : ev_le h h' := by
  unfold ev_w at hp
  repeat' split at hp
  all_goals first
    | (cases hp; done)
    | (cases hp; exact ev_le_wr)
    | (cases hp; exact ev_le_push)
    | (rw [Bool.cond_eq_ite] at hp; split at hp <;> first | (cases hp; done) | (cases hp; exact ev_le_wr) | (cases hp; exact ev_le_push) | (split at hp <;> first | (cases hp; done) | (cases hp; exact ev_le_push)))
theorem ev_s_le {G : ev_G} {M : ev_MD} {pc pc' n : Nat} {L L' : ev_VL} {S S' : List Value} {h h' : ev_AH} {i : Instr} (hp : ev_s G M pc L S h i n = some (pc', L', S', h')) : ev_le h h' := by
  unfold ev_s at hp
  split at hp
  · split at hp
    · rw [Bool.cond_eq_ite] at hp
      split at hp <;> cases hp
      exact ev_le_rf
    · cases hp
  · split at hp
    · split at hp
      · rw [Bool.cond_eq_ite, Bool.cond_eq_ite, Bool.cond_eq_ite] at hp
        split at hp
        · split at hp
          · split at hp <;> cases hp
            exact ev_le_rf
          · cases hp
            exact ev_le_rf
        · cases hp
      · cases hp
    · split at hp
      · split at hp
        · rw [Bool.cond_eq_ite] at hp
          split at hp <;> cases hp
          exact ev_le_rf
        · cases hp
      · split at hp
        · cases hp
          exact ev_le_rf
        · split at hp
          · cases hp
            exact ev_le_rf
          · split at hp
            · rename_i S9 h8 h9
              cases hp
              exact ev_w_le h9
            · split at hp <;> cases hp
              exact ev_le_rf
theorem ev_na_le {G : ev_G} {S S' : List Value} {h h' : ev_AH} {k : Nat} {i : Instr} (hp : ev_na G i S h k = some (S', h')) : ev_le h h' := by
  unfold ev_na at hp
  repeat' split at hp
  all_goals first
    | (cases hp; done)
    | (rw [Bool.cond_eq_ite] at hp; split at hp <;> cases hp; first | exact ev_le_wr | exact ev_le_rf)
theorem ev_F_le {G : ev_G} : ∀ (n d : Nat) (M : ev_MD) (pc : Nat) (L : ev_VL) (S : List Value) (h h' : ev_AH) (o : ev_O), ev_F G n d M pc L S h = some (o, h') → ev_le h h' := by
  intro n
  induction n with
  | zero => intro d M pc L S h h' o hp; simp [ev_F] at hp
  | succ n ih =>
    intro d M pc L S h h' o hp
    unfold ev_F at hp
    split at hp
    · cases hp
    · rename_i i len hlk
      rw [Bool.cond_eq_ite] at hp
      split at hp
      · split at hp
        · rename_i pc9 L9 S9 h9 hs
          exact ev_le_tr (ev_s_le hs) (ih _ _ _ _ _ _ _ _ hp)
        · split at hp
          · cases hp
            exact ev_le_rf
          · split at hp
            · split at hp
              · rw [Bool.cond_eq_ite] at hp
                split at hp <;> cases hp
                exact ⟨Nat.le_refl _, Nat.le_succ _, Nat.le_add_right _ _⟩
              · cases hp
            · split at hp
              · cases hp
              · split at hp
                · cases hp
                · split at hp
                  · rename_i S9 h9 hna
                    exact ev_le_tr (ev_na_le hna) (ih _ _ _ _ _ _ _ _ hp)
                  · split at hp
                    · cases hp
                    · rw [Bool.cond_eq_ite] at hp
                      split at hp
                      · split at hp
                        · cases hp
                        · rw [Bool.cond_eq_ite] at hp
                          split at hp
                          · split at hp
                            · rename_i v h9 hc
                              exact ev_le_tr (ih _ _ _ _ _ _ _ _ hc) (ih _ _ _ _ _ _ _ _ hp)
                            · rename_i E h9 hc
                              split at hp
                              · cases hp
                                exact ih _ _ _ _ _ _ _ _ hc
                              · rw [Bool.cond_eq_ite] at hp
                                split at hp
                                · exact ev_le_tr (ih _ _ _ _ _ _ _ _ hc) (ih _ _ _ _ _ _ _ _ hp)
                                · cases hp
                              · cases hp
                            · cases hp
                          · cases hp
                      · cases hp
      · cases hp

