set_option maxRecDepth 4000 in
theorem v_LR_take {d : Nat} {w : z_Wd} {a0 : Int} {Q : Option z_V → z_Wd → Prop} (h : (P_T_at w (w 37 2)) ∧ (-2147483648 ≤ F_T_at w (w 37 2) ∧ F_T_at w (w 37 2) < 2147483648) ∧ (-2147483648 ≤ a0 ∧ a0 < 2147483648) ∧ ((F_T_at w (w 37 2) = a0 → (P_T_behindBlanks w ((w 37 2) + 1)) ∧ (Q (some (zI 1)) (z_up w 37 2 (F_T_behindBlanks w ((w 37 2) + 1))))) ∧ (¬ (F_T_at w (w 37 2) = a0) → Q (some (zI 0)) w))) : z_Wc (d + 2) m_X5_take [zR 37, zI a0] w Q := by
  refine z_enter rfl (Nat.le_of_ble_eq_true rfl) ?_
  show z_Wp m_X5_take _ 0 [(0, zR 37), (1, zI a0)] [] w _
  refine z_aload_n (pc' := 1) 0 rfl rfl dX5_take_0 rfl ?_
  refine z_getR (t := 28) (pc' := 4) g_X5_18 (by decide) rfl rfl dX5_take_1 rfl ?_
  refine z_aload_n (pc' := 5) 0 rfl rfl dX5_take_4 rfl ?_
  refine z_getI2 (v := w 37 2) (pc' := 8) g_X5_31 (by decide) rfl rfl rfl dX5_take_5 rfl ?_
  refine z_invV (as := [zI (w 37 2)]) (st := []) (C := m_X10_at) (fs := [31, 0]) (pc' := 11) dX5_take_8 rfl t_2_206 k_X10_at rfl (by decide) rfl rfl rfl rfl (Nat.le_of_ble_eq_true rfl) ?_
  obtain ⟨r1, h⟩ := h
  refine c_T_at r1 ?_
  show z_Wp m_X5_take _ 11 [(0, zR 37), (1, zI a0)] [zI (F_T_at w (w 37 2))] w _
  refine z_iload_n (pc' := 12) 1 rfl rfl dX5_take_11 rfl ?_
  obtain ⟨r2, h⟩ := h
  obtain ⟨r3, h⟩ := h
  refine z_icmp_eq 17 dX5_take_12 (by decide) (pc' := 15) rfl r2 r3 (fun c => ?_) (fun c => ?_)
  · have h := h.1 c
    refine z_aload_n (pc' := 18) 0 rfl rfl dX5_take_17 rfl ?_
    refine z_aload_n (pc' := 19) 0 rfl rfl dX5_take_18 rfl ?_
    refine z_getR (t := 28) (pc' := 22) g_X5_18 (by decide) rfl rfl dX5_take_19 rfl ?_
    refine z_aload_n (pc' := 23) 0 rfl rfl dX5_take_22 rfl ?_
    refine z_getI2 (v := w 37 2) (pc' := 26) g_X5_31 (by decide) rfl rfl rfl dX5_take_23 rfl ?_
    refine z_iconst (pc' := 27) dX5_take_26 rfl ?_
    refine z_iadd (pc' := 28) dX5_take_27 rfl ?_
    refine z_invV (as := [zI ((w 37 2) + 1)]) (st := [zR 37]) (C := m_X10_behindBlanks) (fs := [31, 0]) (pc' := 31) dX5_take_28 rfl t_2_197 k_X10_behindBlanks rfl (by decide) rfl rfl rfl rfl (Nat.le_of_ble_eq_true rfl) ?_
    obtain ⟨r4, h⟩ := h
    refine c_T_behindBlanks r4 ?_
    show z_Wp m_X5_take _ 31 [(0, zR 37), (1, zI a0)] [zI (F_T_behindBlanks w ((w 37 2) + 1)), zR 37] w _
    refine z_putI (pc' := 34) p_X5_31 (by decide) rfl rfl rfl rfl dX5_take_31 rfl ?_
    refine z_iconst (pc' := 35) dX5_take_34 rfl ?_
    refine z_zret rfl (by decide) dX5_take_35 ?_
    exact h
  · have h := h.2 c
    refine z_iconst (pc' := 16) dX5_take_15 rfl ?_
    refine z_zret rfl (by decide) dX5_take_16 ?_
    exact h
set_option maxRecDepth 4000 in
theorem v_LR_readNumber {d : Nat} {w : z_Wd} {Q : Option z_V → z_Wd → Prop} (h : (P_T_digitsFrom w (w 37 2) 5) ∧ (-2147483648 ≤ F_T_digitsFrom w (w 37 2) 5 ∧ F_T_digitsFrom w (w 37 2) 5 < 2147483648) ∧ ((F_T_digitsFrom w (w 37 2) 5 = 0 → Q (some (zI 0)) w) ∧ (¬ (F_T_digitsFrom w (w 37 2) 5 = 0) → (F_T_digitsFrom w (w 37 2) 5 ≤ 4 → (P_T_number w (w 37 2) (F_T_digitsFrom w (w 37 2) 5)) ∧ (P_W_add w 0 (F_T_number w (w 37 2) (F_T_digitsFrom w (w 37 2) 5))) ∧ (P_T_behindBlanks (F_W_add w 0 (F_T_number w (w 37 2) (F_T_digitsFrom w (w 37 2) 5))) (((F_W_add w 0 (F_T_number w (w 37 2) (F_T_digitsFrom w (w 37 2) 5))) 37 2) + (F_T_digitsFrom w (w 37 2) 5))) ∧ (Q (some (zI 1)) (z_up (F_W_add w 0 (F_T_number w (w 37 2) (F_T_digitsFrom w (w 37 2) 5))) 37 2 (F_T_behindBlanks (F_W_add w 0 (F_T_number w (w 37 2) (F_T_digitsFrom w (w 37 2) 5))) (((F_W_add w 0 (F_T_number w (w 37 2) (F_T_digitsFrom w (w 37 2) 5))) 37 2) + (F_T_digitsFrom w (w 37 2) 5)))))) ∧ (¬ (F_T_digitsFrom w (w 37 2) 5 ≤ 4) → Q (some (zI 0)) (z_up w 37 2 ((w 37 2) + 4)))))) : z_Wc (d + 2) m_X5_readNumber [zR 37] w Q := by
  refine z_enter rfl (Nat.le_of_ble_eq_true rfl) ?_
  show z_Wp m_X5_readNumber _ 0 [(0, zR 37)] [] w _
  refine z_aload_n (pc' := 1) 0 rfl rfl dX5_readNumber_0 rfl ?_
  refine z_getR (t := 28) (pc' := 4) g_X5_18 (by decide) rfl rfl dX5_readNumber_1 rfl ?_
  refine z_aload_n (pc' := 5) 0 rfl rfl dX5_readNumber_4 rfl ?_
  refine z_getI2 (v := w 37 2) (pc' := 8) g_X5_31 (by decide) rfl rfl rfl dX5_readNumber_5 rfl ?_
  refine z_iconst (pc' := 9) dX5_readNumber_8 rfl ?_
  refine z_invV (as := [zI (w 37 2), zI 5]) (st := []) (C := m_X10_digitsFrom) (fs := [31, 0]) (pc' := 12) dX5_readNumber_9 rfl t_2_232 k_X10_digitsFrom rfl (by decide) rfl rfl rfl rfl (Nat.le_of_ble_eq_true rfl) ?_
  obtain ⟨r1, h⟩ := h
  refine c_T_digitsFrom r1 ?_
  show z_Wp m_X5_readNumber _ 12 [(0, zR 37)] [zI (F_T_digitsFrom w (w 37 2) 5)] w _
  refine z_istore_n (pc' := 13) (ls' := [(0, zR 37), (1, zI (F_T_digitsFrom w (w 37 2) 5))]) rfl (by decide) rfl rfl dX5_readNumber_12 rfl ?_
  refine z_iload_n (pc' := 14) 1 rfl rfl dX5_readNumber_13 rfl ?_
  obtain ⟨r2, h⟩ := h
  refine z_if_ne 19 dX5_readNumber_14 (by decide) (pc' := 17) rfl r2 (fun c => ?_) (fun c => ?_)
  · have h := h.2 c
    refine z_iload_n (pc' := 20) 1 rfl rfl dX5_readNumber_19 rfl ?_
    refine z_iconst (pc' := 21) dX5_readNumber_20 rfl ?_
    refine z_icmp_le 36 dX5_readNumber_21 (by decide) (pc' := 24) rfl r2 (by decide) (fun c => ?_) (fun c => ?_)
    · have h := h.1 c
      refine z_aload_n (pc' := 37) 0 rfl rfl dX5_readNumber_36 rfl ?_
      refine z_getR (t := 38) (pc' := 40) g_X5_12 (by decide) rfl rfl dX5_readNumber_37 rfl ?_
      refine z_iconst (pc' := 41) dX5_readNumber_40 rfl ?_
      refine z_aload_n (pc' := 42) 0 rfl rfl dX5_readNumber_41 rfl ?_
      refine z_getR (t := 28) (pc' := 45) g_X5_18 (by decide) rfl rfl dX5_readNumber_42 rfl ?_
      refine z_aload_n (pc' := 46) 0 rfl rfl dX5_readNumber_45 rfl ?_
      refine z_getI2 (v := w 37 2) (pc' := 49) g_X5_31 (by decide) rfl rfl rfl dX5_readNumber_46 rfl ?_
      refine z_iload_n (pc' := 50) 1 rfl rfl dX5_readNumber_49 rfl ?_
      refine z_invV (as := [zI (w 37 2), zI (F_T_digitsFrom w (w 37 2) 5)]) (st := [zI 0, zR 38]) (C := m_X10_number) (fs := [31, 0]) (pc' := 53) dX5_readNumber_50 rfl t_2_233 k_X10_number rfl (by decide) rfl rfl rfl rfl (Nat.le_of_ble_eq_true rfl) ?_
      obtain ⟨r3, h⟩ := h
      refine c_T_number r3 ?_
      show z_Wp m_X5_readNumber _ 53 [(0, zR 37), (1, zI (F_T_digitsFrom w (w 37 2) 5))] [zI (F_T_number w (w 37 2) (F_T_digitsFrom w (w 37 2) 5)), zI 0, zR 38] w _
      refine z_invV (as := [zI 0, zI (F_T_number w (w 37 2) (F_T_digitsFrom w (w 37 2) 5))]) (st := []) (C := m_X4_add) (fs := [41, 42, 0, 0]) (pc' := 56) dX5_readNumber_53 rfl t_2_234 k_X4_add rfl (by decide) rfl rfl rfl rfl (Nat.le_of_ble_eq_true rfl) ?_
      obtain ⟨r4, h⟩ := h
      refine c_W_add r4 ?_
      show z_Wp m_X5_readNumber _ 56 [(0, zR 37), (1, zI (F_T_digitsFrom w (w 37 2) 5))] [] (F_W_add w 0 (F_T_number w (w 37 2) (F_T_digitsFrom w (w 37 2) 5))) _
      refine z_aload_n (pc' := 57) 0 rfl rfl dX5_readNumber_56 rfl ?_
      refine z_aload_n (pc' := 58) 0 rfl rfl dX5_readNumber_57 rfl ?_
      refine z_getR (t := 28) (pc' := 61) g_X5_18 (by decide) rfl rfl dX5_readNumber_58 rfl ?_
      refine z_aload_n (pc' := 62) 0 rfl rfl dX5_readNumber_61 rfl ?_
      refine z_getI2 (v := (F_W_add w 0 (F_T_number w (w 37 2) (F_T_digitsFrom w (w 37 2) 5))) 37 2) (pc' := 65) g_X5_31 (by decide) rfl rfl rfl dX5_readNumber_62 rfl ?_
      refine z_iload_n (pc' := 66) 1 rfl rfl dX5_readNumber_65 rfl ?_
      refine z_iadd (pc' := 67) dX5_readNumber_66 rfl ?_
      refine z_invV (as := [zI (((F_W_add w 0 (F_T_number w (w 37 2) (F_T_digitsFrom w (w 37 2) 5))) 37 2) + (F_T_digitsFrom w (w 37 2) 5))]) (st := [zR 37]) (C := m_X10_behindBlanks) (fs := [31, 0]) (pc' := 70) dX5_readNumber_67 rfl t_2_197 k_X10_behindBlanks rfl (by decide) rfl rfl rfl rfl (Nat.le_of_ble_eq_true rfl) ?_
      obtain ⟨r5, h⟩ := h
      refine c_T_behindBlanks r5 ?_
      show z_Wp m_X5_readNumber _ 70 [(0, zR 37), (1, zI (F_T_digitsFrom w (w 37 2) 5))] [zI (F_T_behindBlanks (F_W_add w 0 (F_T_number w (w 37 2) (F_T_digitsFrom w (w 37 2) 5))) (((F_W_add w 0 (F_T_number w (w 37 2) (F_T_digitsFrom w (w 37 2) 5))) 37 2) + (F_T_digitsFrom w (w 37 2) 5))), zR 37] (F_W_add w 0 (F_T_number w (w 37 2) (F_T_digitsFrom w (w 37 2) 5))) _
      refine z_putI (pc' := 73) p_X5_31 (by decide) rfl rfl rfl rfl dX5_readNumber_70 rfl ?_
      refine z_iconst (pc' := 74) dX5_readNumber_73 rfl ?_
      refine z_zret rfl (by decide) dX5_readNumber_74 ?_
      exact h
    · have h := h.2 c
      refine z_aload_n (pc' := 25) 0 rfl rfl dX5_readNumber_24 rfl ?_
      refine z_dup (pc' := 26) rfl dX5_readNumber_25 rfl ?_
      refine z_getI2 (v := w 37 2) (pc' := 29) g_X5_31 (by decide) rfl rfl rfl dX5_readNumber_26 rfl ?_
      refine z_iconst (pc' := 30) dX5_readNumber_29 rfl ?_
      refine z_iadd (pc' := 31) dX5_readNumber_30 rfl ?_
      refine z_putI (pc' := 34) p_X5_31 (by decide) rfl rfl rfl rfl dX5_readNumber_31 rfl ?_
      refine z_iconst (pc' := 35) dX5_readNumber_34 rfl ?_
      refine z_zret rfl (by decide) dX5_readNumber_35 ?_
      exact h
  · have h := h.1 c
    refine z_iconst (pc' := 18) dX5_readNumber_17 rfl ?_
    refine z_zret rfl (by decide) dX5_readNumber_18 ?_
    exact h
