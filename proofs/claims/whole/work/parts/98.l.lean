/-! the law's letters, and the class's numbers -/
theorem q_let {w v : z_Wd} {x : Int} (hx : 0 ≤ x ∧ x ≤ 255) : F_M_letterOf w (t_mc x) = F_LR_letterOf v x ∧ P_LR_letterOf v x ∧ P_M_letterOf w (t_mc x) ∧ (F_LR_letterOf v x = -1 ∨ ((0 ≤ F_LR_letterOf v x ∧ F_LR_letterOf v x ≤ 5) ∧ x ≠ 91 ∧ t_dg x = false ∧ x ≠ 0)) := by
  have r := t_mcr hx
  have e0 : z_sc 7 0 = 115 := by decide
  have e1 : z_sc 7 1 = 107 := by decide
  have e2 : z_sc 7 2 = 97 := by decide
  have e3 : z_sc 7 3 = 111 := by decide
  have e4 : z_sc 7 4 = 119 := by decide
  have e5 : z_sc 7 5 = 121 := by decide
  have z : ∀ j, j < 6 → -2147483648 ≤ z_sc 7 j ∧ z_sc 7 j < 2147483648 := by decide
  have eL : F_LR_letterOf v x = if x = 115 then 0 else if x = 107 then 1 else if x = 97 then 2 else if x = 111 then 3 else if x = 119 then 4 else if x = 121 then 5 else -1 := by
    unfold F_LR_letterOf
    simp only [zfind]
    unfold E_LR_letterOf_2 R_LR_letterOf_2
    simp only [Int.toNat_natCast, e0, e1, e2, e3, e4, e5]
    by_cases c0 : x = 115
    · simp [c0, e0]
    · by_cases c1 : x = 107
      · simp [c1, e1]
      · by_cases c2 : x = 97
        · simp [c2, e2]
        · by_cases c3 : x = 111
          · simp [c3, e3]
          · by_cases c4 : x = 119
            · simp [c4, e4]
            · by_cases c5 : x = 121
              · simp [c5, e5]
              · simp [c0, c1, c2, c3, c4, c5]
  refine ⟨?_, ⟨fun i hi _ => ⟨by omega, by omega, by omega, z _ (by omega)⟩, trivial⟩, ?_, ?_⟩
  · rw [eL]
    unfold F_M_letterOf t_mc
    by_cases c : x = 0
    · rw [if_pos c, c]
      decide
    · rw [if_neg c]
  · unfold P_M_letterOf
    omega
  · rw [eL]
    by_cases c : x = 115 ∨ x = 107 ∨ x = 97 ∨ x = 111 ∨ x = 119 ∨ x = 121
    · refine Or.inr ⟨?_, by omega, ?_, by omega⟩
      · rcases c with rfl | rfl | rfl | rfl | rfl | rfl <;> decide
      · rcases c with rfl | rfl | rfl | rfl | rfl | rfl <;> decide
    · left
      rw [if_neg (by omega), if_neg (by omega), if_neg (by omega), if_neg (by omega), if_neg (by omega), if_neg (by omega)]
theorem q_numr {v : z_Wd} {q : Int} {d : Nat} (g1 : ∀ i : Nat, i < d → t_dg (F_T_at v (q + (i : Int))) = true) {m : Int} : ∀ i : Nat, i ≤ d → i ≤ 4 → 0 ≤ A_T_number_5 v q m i ∧ A_T_number_5 v q m i < 10 ^ i
  | 0, _, _ => by simp [A_T_number_5]
  | i + 1, h, h4 => by
    have q1 := q_numr g1 (m := m) i (by omega) (by omega)
    have q2 := t_dgy.mp (g1 i (by omega))
    simp only [A_T_number_5]
    rw [Int.pow_succ]
    omega
theorem q_numm {v : z_Wd} {q m m' : Int} : ∀ i : Nat, A_T_number_5 v q m i = A_T_number_5 v q m' i
  | 0 => rfl
  | i + 1 => by
    simp only [A_T_number_5]
    rw [q_numm i]
