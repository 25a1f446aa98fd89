/-! the law's numbers: the class -/
theorem q_numD {v : z_Wd} (ht : t_ok v) {q : Int} (eq : v 37 2 = q) (hq : 0 ≤ q ∧ q ≤ 240) (hl : 0 ≤ v 38 2 ∧ v 38 2 < 240) {d : Nat} (ed : F_T_digitsFrom v q 5 = (d : Int)) (hd : d ≤ 5) : P_LR_readNumber v ∧ F_LR_readNumber v = if d = 0 then (0, v) else if d ≤ 4 then (1, z_up (F_W_add v 0 (A_T_number_5 v q 5 d)) 37 2 (F_T_behindBlanks v (q + (d : Int)))) else (0, z_up v 37 2 (q + 4)) := by
  have pd := t_pdig ht (q := q) (n := 5) (by omega) (by omega)
  have nn : F_T_number v q (d : Int) = A_T_number_5 v q 5 d := by
    unfold F_T_number
    rw [Int.toNat_natCast, q_numm d]
  obtain ⟨a1, a2, a3, a4⟩ := q_add (w := v) (v := v) (s := 0) (x := A_T_number_5 v q 5 d) hl
  have f := a1.2.1
  have e28 : F_W_add v 0 (A_T_number_5 v q 5 d) 28 = v 28 := fr_c f 28 rfl rfl
  have e29 : F_W_add v 0 (A_T_number_5 v q 5 d) 29 = v 29 := fr_c f 29 rfl rfl
  unfold P_LR_readNumber F_LR_readNumber
  rw [eq, ed, nn, a4, eq]
  generalize F_W_add v 0 (A_T_number_5 v q 5 d) = u at *
  have st : F_T_behindBlanks u (q + (d : Int)) = F_T_behindBlanks v (q + (d : Int)) := x_bb (v := v) (by rw [e28]) e29 (by omega)
  have pst : P_T_behindBlanks u (q + (d : Int)) := t_pbb (x_tok ht (by rw [e28]) e29) (by omega)
  have fit := t_dfit (v := v) (q := q) (n := 5) hq.1
  rw [ed] at fit
  refine ⟨⟨pd, by omega, fun _ => trivial, fun z => ⟨fun _ => ⟨⟨ht.1, by omega, by omega, by omega⟩, ⟨by omega, fun _ => trivial, fun _ => hl⟩, pst⟩, fun _ => trivial⟩⟩, ?_⟩
  by_cases c : d = 0
  · rw [if_pos c, if_pos (by omega)]
  · rw [if_neg c, if_neg (by omega)]
    by_cases c4 : d ≤ 4
    · rw [if_pos c4, if_pos (by omega), st]
    · rw [if_neg c4, if_neg (by omega)]
