/-! the law's numbers: the class -/
theorem q_numD {v : z_Wd} (ht : t_ok v) {q : Int} (eq : v 37 2 = q) (hq : 0 ≤ q ∧ q ≤ 240) (hl : 0 ≤ v 38 2 ∧ v 38 2 < 240) {d : Nat} (ed : F_T_digitsFrom v q 5 = (d : Int)) (hd : d ≤ 5) : P_LR_readNumber v ∧ F_LR_readNumber v = if d = 0 then (0, v) else if d ≤ 4 then (1, z_up (F_W_add v 0 (A_T_number_5 v q 5 d)) 37 2 (F_T_behindBlanks v (q + (d : Int)))) else (0, z_up v 37 2 (q + 4)) := by
  have pd := t_pdig ht (q := q) (n := 5) (by omega) (by omega)
  have nn : F_T_number v q (d : Int) = A_T_number_5 v q 5 d := by
    unfold F_T_number
    rw [Int.toNat_natCast, q_numm d]
  obtain ⟨a1, a2, a3, a4⟩ := q_add (w := v) (v := v) (s := 0) (x := A_T_number_5 v q 5 d) hl
  have f := a1.2.1
  have e28 : F_W_add v 0 (A_T_number_5 v q 5 d) 28 = v 28 := fr_c f 28 rfl rfl
  have e29 : F_W_add v 0 (A_T_number_5 v q 5 d) 29 = v 29 := fr_c f 29 rfl rfl
  unfold P_LR_readNumber F_LR_readNumber
  rw [eq, ed, nn, a4, eq]
  generalize F_W_add v 0 (A_T_number_5 v q 5 d) = u at *
  have st : 1 ≤ d → F_LR_step (z_up u 37 2 (q + ((d : Int) - 1))) = z_up u 37 2 (F_T_behindBlanks v (q + (d : Int))) := fun h => by
    unfold F_LR_step
    rw [z_up_at, z_twice, show q + ((d : Int) - 1) + 1 = q + (d : Int) by omega, x_bb (v := v) (by rw [z_up_other (by decide), e28]) (by rw [z_up_other (by decide), e29]) (by omega)]
  have pst : 1 ≤ d → P_LR_step (z_up u 37 2 (q + ((d : Int) - 1))) := fun h => by
    unfold P_LR_step
    rw [z_up_at]
    exact t_pbb (x_tok ht (by rw [z_up_other (by decide), e28]) (by rw [z_up_other (by decide), e29])) (by omega)
  refine ⟨⟨pd.1, by omega, fun _ => trivial, fun z => ⟨fun _ => ⟨(t_pdig ht (by omega) (by omega)).2, ⟨by omega, fun _ => trivial, fun _ => hl⟩, pst (by omega)⟩, fun _ => trivial⟩⟩, ?_⟩
  by_cases c : d = 0
  · rw [if_pos c, if_pos (by omega)]
  · rw [if_neg c, if_neg (by omega)]
    by_cases c4 : d ≤ 4
    · rw [if_pos c4, if_pos (by omega), st (by omega)]
    · rw [if_neg c4, if_neg (by omega)]
