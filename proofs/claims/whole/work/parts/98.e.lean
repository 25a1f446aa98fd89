/-! reading a ministry: both sides -/
theorem t_start {w v : z_Wd} (h1 : r_ta w v) (h10 : r_rd w v) : P_Y_clear_34 v ∧ P_T_behindBlanks (F_Y_clear_34 v) 0 ∧ t_S 0 (z_rm0 w) (z_up (F_Y_clear_34 v) 33 2 (F_T_behindBlanks (F_Y_clear_34 v) 0)) ∧ z_up (F_Y_clear_34 v) 33 2 (F_T_behindBlanks (F_Y_clear_34 v) 0) 36 0 = 0 ∧ z_up (F_Y_clear_34 v) 33 2 (F_T_behindBlanks (F_Y_clear_34 v) 0) 36 1 = 0 ∧ z_up (F_Y_clear_34 v) 33 2 (F_T_behindBlanks (F_Y_clear_34 v) 0) 36 2 = 0 ∧ z_up (F_Y_clear_34 v) 33 2 (F_T_behindBlanks (F_Y_clear_34 v) 0) 36 3 = 0 := by
  have ht := t_ta h1
  have hl := ht.1
  obtain ⟨su1, su2, su3⟩ := t_suV (v := A_Y_clear_34_2 v 4) (k := 0) (m := 0) (by decide) (by decide)
  have fA : z_fr [36] [] v (A_Y_clear_34_2 v 4) := fr_A_Y_clear_34_2
  have eC : F_Y_clear_34 v = F_Y_setUsual_34 (A_Y_clear_34_2 v 4) ((0 : Nat) : Int) ((0 : Nat) : Int) := rfl
  have c36 : ∀ j, j < 4 → F_Y_clear_34 v 36 j = 0 := fun j hj => by
    rw [eC, fr_c su2 36 rfl rfl]
    simp only [A_Y_clear_34_2, Int.toNat_natCast]
    rcases (show j = 0 ∨ j = 1 ∨ j = 2 ∨ j = 3 by omega) with rfl | rfl | rfl | rfl
    · rw [z_up_ne (by decide), z_up_ne (by decide), z_up_ne (by decide), z_up_at]
    · rw [z_up_ne (by decide), z_up_ne (by decide), z_up_at]
    · rw [z_up_ne (by decide), z_up_at]
    · rw [z_up_at]
  have c35 : ∀ j, F_Y_clear_34 v 35 j = if j < 3 then z_sc 2 j else v 35 j := fun j => by
    rw [eC, su3, fr_c fA 35 rfl rfl, show ((z_sc 1 0).toNat + 0) * 3 = 0 by decide]
    by_cases c : j < 3
    · rw [if_pos (by omega), if_pos c, Nat.sub_zero, Nat.zero_mul, Nat.zero_add]
    · rw [if_neg (by omega), if_neg c]
  have c28 : F_Y_clear_34 v 28 = v 28 := by rw [eC, fr_c su2 28 rfl rfl, fr_c fA 28 rfl rfl]
  have c29 : F_Y_clear_34 v 29 = v 29 := by rw [eC, fr_c su2 29 rfl rfl, fr_c fA 29 rfl rfl]
  have pc : P_Y_clear_34 v := by
    refine ⟨fun i hi => ?_, ?_⟩
    · omega
    · exact su1
  have e36 : z_up (F_Y_clear_34 v) 33 2 (F_T_behindBlanks (F_Y_clear_34 v) 0) 36 = F_Y_clear_34 v 36 := z_up_other (by decide)
  have e35 : z_up (F_Y_clear_34 v) 33 2 (F_T_behindBlanks (F_Y_clear_34 v) 0) 35 = F_Y_clear_34 v 35 := z_up_other (by decide)
  have e28 : z_up (F_Y_clear_34 v) 33 2 (F_T_behindBlanks (F_Y_clear_34 v) 0) 28 = v 28 := by rw [z_up_other (by decide), c28]
  have e29 : z_up (F_Y_clear_34 v) 33 2 (F_T_behindBlanks (F_Y_clear_34 v) 0) 29 = v 29 := by rw [z_up_other (by decide), c29]
  have m3 : z_rm0 w 0 3 = 0 := rfl
  have z2 : ∀ j, j < 12 → 0 ≤ z_sc 2 j ∧ z_sc 2 j ≤ 99 := by decide
  refine ⟨pc, t_pbb (x_tok ht (by rw [c28]) c29) (by omega), ⟨t_tac h1 rfl rfl (by rw [e28]) e29, rfl, by rw [m3, e28]; omega, ?_, Or.inl rfl, fun k hk => ?_, fun k m i hk hm hi => ?_, ?_⟩, ?_⟩
  · rw [z_up_at, m3]
    exact (x_bb (by rw [z_up_other (by decide)]) (by rw [z_up_other (by decide)]) (by omega)).symm
  · rw [e36, c36 k hk]
    unfold t_cn
    rcases (show k = 0 ∨ k = 1 ∨ k = 2 ∨ k = 3 by omega) with rfl | rfl | rfl | rfl
    · exact ⟨rfl, by decide⟩
    · exact ⟨rfl, by decide⟩
    · exact ⟨rfl, by decide⟩
    · exact ⟨rfl, by decide⟩
  · rw [e36, c36 k hk] at hm
    have k0 : k = 0 ∧ m = 0 := by omega
    obtain ⟨rfl, rfl⟩ := k0
    rw [e35, c35, show ((z_sc 1 0).toNat + 0) * 3 = 0 by decide]
    have hi2 : i < 2 := hi
    rw [if_pos (show 0 + i < 3 by omega)]
    rcases (show i = 0 ∨ i = 1 by omega) with rfl | rfl
    · exact ⟨rfl, by decide⟩
    · exact ⟨rfl, by decide⟩
  · constructor
    · intro i hi
      exact h10.1 i hi
    · intro i hi
      rw [e35, c35]
      split
      · exact z2 i (by omega)
      · exact h10.2 i hi
  · rw [e36]
    exact ⟨c36 0 (by decide), c36 1 (by decide), c36 2 (by decide), c36 3 (by decide)⟩
theorem sim_rm {w v : z_Wd} (h : r_all w v) : P_YR_read v ∧ P_M_readMinistry w ∧ t_res (F_YR_read v) (F_M_readMinistry w) ∧ r_all (F_M_readMinistry w).2 (F_YR_read v).2 := by
  obtain ⟨h1, h2, h3, h4, h5, h6, h7, h8, h9, h10⟩ := id h
  obtain ⟨s1, s2, s3, s4, s5, s6, s7⟩ := t_start h1 h10
  obtain ⟨l1, l2, l3⟩ := t_loop (u0 := v) 18 300 300 0 0 _ _ s3 (by rw [s4, s5, s6, s7]; rfl) (by decide) (by decide) (by omega)
  have fM : z_fr [11, 12, 13, 14] [(0, 3), (0, 4), (0, 21), (0, 22), (0, 23)] w (F_M_readMinistry w).2 := fr_F_M_readMinistry
  have fD : z_fr [35, 36] [(33, 2)] v (F_YR_read v).2 := fr_F_YR_read
  have l3' : t_res (F_YR_read v) (F_M_readMinistry w) := l3
  exact ⟨⟨s1, s2, l1⟩, l2, l3', y_ta h1 fM fD rfl, y_mi h2 fM fD rfl, y_no h3 fM fD rfl, y_ac h4 fM fD rfl, y_im h5 fM fD rfl, y_la h6 fM fD rfl, y_cl h7 fM fD rfl, y_re h8 fM fD rfl, y_fl h9 fM fD rfl, l3'.2.2.1⟩
