/-! reading: one clause -/
def t_out (l1 : Int) (w v : z_Wd) (C r : Int × z_Wd) : Prop := (r.1 = 1 ∧ C.2 0 4 = -1 ∧ r_ta C.2 r.2 ∧ C.2 0 3 = r.2 33 2 ∧ (0 ≤ r.2 33 2 ∧ r.2 33 2 ≤ r.2 28 1) ∧ ¬ F_T_at r.2 (r.2 33 2) = 32 ∧ t_D C.1 C.2 r.2 ∧ r.2 36 0 + r.2 36 1 + r.2 36 2 + r.2 36 3 = v 36 0 + v 36 1 + v 36 2 + v 36 3 + 1) ∨ (r.1 = 0 ∧ r_ta C.2 r.2 ∧ r_rd C.2 r.2 ∧ ((C.2 0 4 = r.2 33 2 ∧ 0 ≤ r.2 33 2 ∧ r.2 33 2 ≤ 1000) ∨ (C.2 0 4 = -1 ∧ C.2 0 3 = r.2 33 2 ∧ (0 ≤ r.2 33 2 ∧ r.2 33 2 ≤ r.2 28 1) ∧ F_T_at r.2 (r.2 33 2) ≠ 59 ∧ F_T_at r.2 (r.2 33 2) ≠ 0 ∧ F_T_at r.2 (r.2 33 2) ≠ 32 ∧ P_M_isWhole C.2 ∧ (F_M_isWhole C.2 = 0 ∨ F_M_isWhole C.2 = 1))))
/-- where the class's clause begins no kind, or one too many -/
theorem t_clN {v : z_Wd} (ht : t_ok v) (hq : 0 ≤ v 33 2 ∧ v 33 2 ≤ 240) (h : F_YR_kindOf v (F_T_at v (v 33 2)) = -1) : P_YR_readClause v ∧ F_YR_readClause v = (0, v) := by
  have ha := (t_atr ht hq.1).1
  unfold P_YR_readClause F_YR_readClause
  rw [if_pos h]
  exact ⟨⟨t_pat ht (by omega), (t_ko ha).1, by omega, fun _ => trivial, fun z => absurd h z⟩, rfl⟩
theorem t_clF {v : z_Wd} (ht : t_ok v) (hq : 0 ≤ v 33 2 ∧ v 33 2 ≤ 240) {k m : Nat} (hk : k < 4) (h : F_YR_kindOf v (F_T_at v (v 33 2)) = (k : Int)) (em : v 36 k = (m : Int)) (hm9 : m ≤ 9) (hm : ¬ (m : Int) < z_sc 0 k) : P_YR_readClause v ∧ F_YR_readClause v = (0, v) := by
  have ha := (t_atr ht hq.1).1
  obtain ⟨o1, o2⟩ := (t_opV hk em hm9).1 hm
  unfold P_YR_readClause F_YR_readClause
  rw [h, if_neg (by omega), o2, if_pos rfl]
  exact ⟨⟨t_pat ht (by omega), (t_ko ha).1, by omega, fun _ => trivial, fun _ => ⟨o1, rg0, fun _ => trivial, fun z => absurd rfl z⟩⟩, rfl⟩
/-- and one that opens -/
theorem t_clO {v : z_Wd} (ht : t_ok v) (hq : 0 ≤ v 33 2 ∧ v 33 2 ≤ 240) {k m : Nat} (hk : k < 4) (h : F_YR_kindOf v (F_T_at v (v 33 2)) = (k : Int)) (em : v 36 k = (m : Int)) (hm9 : m ≤ 9) (hm : (m : Int) < z_sc 0 k) (hP : t_clP (k : Int) 3 0 (F_YR_step (F_Y_open_34 v (k : Int)).2)) : P_YR_readClause v ∧ F_YR_readClause v = t_cl (k : Int) 3 0 (F_YR_step (F_Y_open_34 v (k : Int)).2) := by
  have ha := (t_atr ht hq.1).1
  obtain ⟨o1, o2, o3, -⟩ := (t_opV hk em hm9).2 hm
  have s0 : A_YR_readClause_41 v 0 = (0, F_YR_step (F_Y_open_34 v (k : Int)).2) := by
    simp only [A_YR_readClause_41]
    rw [h]
  have R := t_clR h 3 (by decide) rfl
  rw [show 3 - 3 = 0 from rfl, s0] at R
  have Q := t_clQ h (by rw [s0]; exact hP)
  have e28 : (F_Y_open_34 v (k : Int)).2 28 = v 28 := fr_c o3 28 rfl rfl
  have e29 : (F_Y_open_34 v (k : Int)).2 29 = v 29 := fr_c o3 29 rfl rfl
  have e33 : (F_Y_open_34 v (k : Int)).2 33 = v 33 := fr_c o3 33 rfl rfl
  constructor
  · unfold P_YR_readClause
    rw [h, o2]
    refine ⟨t_pat ht (by omega), (t_ko ha).1, by omega, fun _ => trivial, fun _ => ⟨o1, rg1, fun z => absurd z n10, fun _ => ⟨?_, fun i hi hz => ?_, trivial⟩⟩⟩
    · unfold P_YR_step
      rw [e33]
      exact t_pbb (x_tok ht (by rw [e28]) e29) (by omega)
    · have q := Q i (by omega) hz
      obtain ⟨j, hj⟩ : ∃ j, 3 - i = j + 1 := ⟨3 - i - 1, by omega⟩
      rw [hj] at q
      simp only [t_clP] at q
      obtain ⟨q1, q2, q3, q4⟩ := q
      refine ⟨by omega, q1, q2, q3, fun _ => trivial, fun z => ⟨(q4 z).1, fun _ => trivial, fun z2 => ?_⟩⟩
      obtain ⟨p1, p2, p3, p4⟩ := (q4 z).2 z2
      exact ⟨p1, p2, p3⟩
  · unfold F_YR_readClause
    rw [h, if_neg (by omega), o2, if_neg n10]
    exact R
