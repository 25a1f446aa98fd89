def P_D_feed (w : z_Wd) (a0 : Int) (a1 : Int) (a2 : Int) (a3 : Int) (a4 : Int) : Prop := (P_T_bytesIn w a0) ∧ (P_T_bytesIn w a1) ∧ (P_T_bytesIn w a2) ∧ (P_T_bytesIn w a3) ∧ (P_T_bytesIn w a4) ∧ (-2147483648 ≤ (w 28 1) + (((((F_T_bytesIn w a0) + (F_T_bytesIn w a1)) + (F_T_bytesIn w a2)) + (F_T_bytesIn w a3)) + (F_T_bytesIn w a4)) ∧ (w 28 1) + (((((F_T_bytesIn w a0) + (F_T_bytesIn w a1)) + (F_T_bytesIn w a2)) + (F_T_bytesIn w a3)) + (F_T_bytesIn w a4)) < 2147483648) ∧ (((w 28 1) + (((((F_T_bytesIn w a0) + (F_T_bytesIn w a1)) + (F_T_bytesIn w a2)) + (F_T_bytesIn w a3)) + (F_T_bytesIn w a4)) ≤ 240 → (P_T_append w a0) ∧ (P_T_append (F_T_append w a0) a1) ∧ (P_T_append (F_T_append (F_T_append w a0) a1) a2) ∧ (P_T_append (F_T_append (F_T_append (F_T_append w a0) a1) a2) a3) ∧ (P_T_append (F_T_append (F_T_append (F_T_append (F_T_append w a0) a1) a2) a3) a4)) ∧ (¬ ((w 28 1) + (((((F_T_bytesIn w a0) + (F_T_bytesIn w a1)) + (F_T_bytesIn w a2)) + (F_T_bytesIn w a3)) + (F_T_bytesIn w a4)) ≤ 240) → True))
def F_D_feed (w : z_Wd) (a0 : Int) (a1 : Int) (a2 : Int) (a3 : Int) (a4 : Int) : Int × z_Wd := if (w 28 1) + (((((F_T_bytesIn w a0) + (F_T_bytesIn w a1)) + (F_T_bytesIn w a2)) + (F_T_bytesIn w a3)) + (F_T_bytesIn w a4)) ≤ 240 then ((F_T_append (F_T_append (F_T_append (F_T_append (F_T_append w a0) a1) a2) a3) a4) 28 1, F_T_append (F_T_append (F_T_append (F_T_append (F_T_append w a0) a1) a2) a3) a4) else ((-1), w)
set_option maxRecDepth 4000 in
theorem c_D_feed {d : Nat} {w : z_Wd} {a0 a1 a2 a3 a4 : Int} {Q : Option z_V → z_Wd → Prop} (h : P_D_feed w a0 a1 a2 a3 a4) (k : Q (some (zI (F_D_feed w a0 a1 a2 a3 a4).1)) (F_D_feed w a0 a1 a2 a3 a4).2) : z_Wc (d + 1) m_X11_feed [zR 27, zI a0, zI a1, zI a2, zI a3, zI a4] w Q := by
  unfold P_D_feed at h
  unfold F_D_feed at k
  refine z_enter rfl (Nat.le_of_ble_eq_true rfl) ?_
  show z_Wp m_X11_feed _ 0 [(0, zR 27), (1, zI a0), (2, zI a1), (3, zI a2), (4, zI a3), (5, zI a4)] [] w _
  refine z_iload_n (pc' := 1) 1 rfl rfl dX11_feed_0 rfl ?_
  refine z_invS (as := [zI a0]) (st := []) (C := m_X10_bytesIn) (pc' := 4) dX11_feed_1 rfl t_2_57 k_X10_bytesIn rfl rfl (Nat.le_of_ble_eq_true rfl) ?_
  obtain ⟨r1, h⟩ := h
  refine c_T_bytesIn r1 ?_
  show z_Wp m_X11_feed _ 4 [(0, zR 27), (1, zI a0), (2, zI a1), (3, zI a2), (4, zI a3), (5, zI a4)] [zI (F_T_bytesIn w a0)] w _
  refine z_iload_n (pc' := 5) 2 rfl rfl dX11_feed_4 rfl ?_
  refine z_invS (as := [zI a1]) (st := [zI (F_T_bytesIn w a0)]) (C := m_X10_bytesIn) (pc' := 8) dX11_feed_5 rfl t_2_57 k_X10_bytesIn rfl rfl (Nat.le_of_ble_eq_true rfl) ?_
  obtain ⟨r2, h⟩ := h
  refine c_T_bytesIn r2 ?_
  show z_Wp m_X11_feed _ 8 [(0, zR 27), (1, zI a0), (2, zI a1), (3, zI a2), (4, zI a3), (5, zI a4)] [zI (F_T_bytesIn w a1), zI (F_T_bytesIn w a0)] w _
  refine z_iadd (pc' := 9) dX11_feed_8 rfl ?_
  refine z_iload_n (pc' := 10) 3 rfl rfl dX11_feed_9 rfl ?_
  refine z_invS (as := [zI a2]) (st := [zI ((F_T_bytesIn w a0) + (F_T_bytesIn w a1))]) (C := m_X10_bytesIn) (pc' := 13) dX11_feed_10 rfl t_2_57 k_X10_bytesIn rfl rfl (Nat.le_of_ble_eq_true rfl) ?_
  obtain ⟨r3, h⟩ := h
  refine c_T_bytesIn r3 ?_
  show z_Wp m_X11_feed _ 13 [(0, zR 27), (1, zI a0), (2, zI a1), (3, zI a2), (4, zI a3), (5, zI a4)] [zI (F_T_bytesIn w a2), zI ((F_T_bytesIn w a0) + (F_T_bytesIn w a1))] w _
  refine z_iadd (pc' := 14) dX11_feed_13 rfl ?_
  refine z_iload (pc' := 16) 4 rfl dX11_feed_14 rfl ?_
  refine z_invS (as := [zI a3]) (st := [zI (((F_T_bytesIn w a0) + (F_T_bytesIn w a1)) + (F_T_bytesIn w a2))]) (C := m_X10_bytesIn) (pc' := 19) dX11_feed_16 rfl t_2_57 k_X10_bytesIn rfl rfl (Nat.le_of_ble_eq_true rfl) ?_
  obtain ⟨r4, h⟩ := h
  refine c_T_bytesIn r4 ?_
  show z_Wp m_X11_feed _ 19 [(0, zR 27), (1, zI a0), (2, zI a1), (3, zI a2), (4, zI a3), (5, zI a4)] [zI (F_T_bytesIn w a3), zI (((F_T_bytesIn w a0) + (F_T_bytesIn w a1)) + (F_T_bytesIn w a2))] w _
  refine z_iadd (pc' := 20) dX11_feed_19 rfl ?_
  refine z_iload (pc' := 22) 5 rfl dX11_feed_20 rfl ?_
  refine z_invS (as := [zI a4]) (st := [zI ((((F_T_bytesIn w a0) + (F_T_bytesIn w a1)) + (F_T_bytesIn w a2)) + (F_T_bytesIn w a3))]) (C := m_X10_bytesIn) (pc' := 25) dX11_feed_22 rfl t_2_57 k_X10_bytesIn rfl rfl (Nat.le_of_ble_eq_true rfl) ?_
  obtain ⟨r5, h⟩ := h
  refine c_T_bytesIn r5 ?_
  show z_Wp m_X11_feed _ 25 [(0, zR 27), (1, zI a0), (2, zI a1), (3, zI a2), (4, zI a3), (5, zI a4)] [zI (F_T_bytesIn w a4), zI ((((F_T_bytesIn w a0) + (F_T_bytesIn w a1)) + (F_T_bytesIn w a2)) + (F_T_bytesIn w a3))] w _
  refine z_iadd (pc' := 26) dX11_feed_25 rfl ?_
  refine z_istore (pc' := 28) (ls' := [(0, zR 27), (1, zI a0), (2, zI a1), (3, zI a2), (4, zI a3), (5, zI a4), (6, zI (((((F_T_bytesIn w a0) + (F_T_bytesIn w a1)) + (F_T_bytesIn w a2)) + (F_T_bytesIn w a3)) + (F_T_bytesIn w a4)))]) (by decide) rfl rfl dX11_feed_26 rfl ?_
  refine z_aload_n (pc' := 29) 0 rfl rfl dX11_feed_28 rfl ?_
  refine z_getR (t := 28) (pc' := 32) g_X11_10 (by decide) rfl rfl dX11_feed_29 rfl ?_
  refine z_invV (as := []) (st := []) (C := m_X10_size) (fs := [31, 0]) (pc' := 35) dX11_feed_32 rfl t_2_60 k_X10_size rfl (by decide) rfl rfl rfl rfl (Nat.le_of_ble_eq_true rfl) ?_
  refine c_T_size ?_
  show z_Wp m_X11_feed _ 35 [(0, zR 27), (1, zI a0), (2, zI a1), (3, zI a2), (4, zI a3), (5, zI a4), (6, zI (((((F_T_bytesIn w a0) + (F_T_bytesIn w a1)) + (F_T_bytesIn w a2)) + (F_T_bytesIn w a3)) + (F_T_bytesIn w a4)))] [zI (w 28 1)] w _
  refine z_iload (pc' := 37) 6 rfl dX11_feed_35 rfl ?_
  refine z_iadd (pc' := 38) dX11_feed_37 rfl ?_
  refine z_sipush (pc' := 41) (by decide) dX11_feed_38 rfl ?_
  obtain ⟨r6, h⟩ := h
  refine z_icmp_le 46 dX11_feed_41 (by decide) (pc' := 44) rfl r6 (by decide) (fun c => ?_) (fun c => ?_)
  · have h := h.1 c
    rw [if_pos c] at k
    refine z_aload_n (pc' := 47) 0 rfl rfl dX11_feed_46 rfl ?_
    refine z_getR (t := 28) (pc' := 50) g_X11_10 (by decide) rfl rfl dX11_feed_47 rfl ?_
    refine z_iload_n (pc' := 51) 1 rfl rfl dX11_feed_50 rfl ?_
    refine z_invV (as := [zI a0]) (st := []) (C := m_X10_append) (fs := [31, 0]) (pc' := 54) dX11_feed_51 rfl t_2_64 k_X10_append rfl (by decide) rfl rfl rfl rfl (Nat.le_of_ble_eq_true rfl) ?_
    obtain ⟨r7, h⟩ := h
    refine c_T_append r7 ?_
    show z_Wp m_X11_feed _ 54 [(0, zR 27), (1, zI a0), (2, zI a1), (3, zI a2), (4, zI a3), (5, zI a4), (6, zI (((((F_T_bytesIn w a0) + (F_T_bytesIn w a1)) + (F_T_bytesIn w a2)) + (F_T_bytesIn w a3)) + (F_T_bytesIn w a4)))] [] (F_T_append w a0) _
    refine z_aload_n (pc' := 55) 0 rfl rfl dX11_feed_54 rfl ?_
    refine z_getR (t := 28) (pc' := 58) g_X11_10 (by decide) rfl rfl dX11_feed_55 rfl ?_
    refine z_iload_n (pc' := 59) 2 rfl rfl dX11_feed_58 rfl ?_
    refine z_invV (as := [zI a1]) (st := []) (C := m_X10_append) (fs := [31, 0]) (pc' := 62) dX11_feed_59 rfl t_2_64 k_X10_append rfl (by decide) rfl rfl rfl rfl (Nat.le_of_ble_eq_true rfl) ?_
    obtain ⟨r8, h⟩ := h
    refine c_T_append r8 ?_
    show z_Wp m_X11_feed _ 62 [(0, zR 27), (1, zI a0), (2, zI a1), (3, zI a2), (4, zI a3), (5, zI a4), (6, zI (((((F_T_bytesIn w a0) + (F_T_bytesIn w a1)) + (F_T_bytesIn w a2)) + (F_T_bytesIn w a3)) + (F_T_bytesIn w a4)))] [] (F_T_append (F_T_append w a0) a1) _
    refine z_aload_n (pc' := 63) 0 rfl rfl dX11_feed_62 rfl ?_
    refine z_getR (t := 28) (pc' := 66) g_X11_10 (by decide) rfl rfl dX11_feed_63 rfl ?_
    refine z_iload_n (pc' := 67) 3 rfl rfl dX11_feed_66 rfl ?_
    refine z_invV (as := [zI a2]) (st := []) (C := m_X10_append) (fs := [31, 0]) (pc' := 70) dX11_feed_67 rfl t_2_64 k_X10_append rfl (by decide) rfl rfl rfl rfl (Nat.le_of_ble_eq_true rfl) ?_
    obtain ⟨r9, h⟩ := h
    refine c_T_append r9 ?_
    show z_Wp m_X11_feed _ 70 [(0, zR 27), (1, zI a0), (2, zI a1), (3, zI a2), (4, zI a3), (5, zI a4), (6, zI (((((F_T_bytesIn w a0) + (F_T_bytesIn w a1)) + (F_T_bytesIn w a2)) + (F_T_bytesIn w a3)) + (F_T_bytesIn w a4)))] [] (F_T_append (F_T_append (F_T_append w a0) a1) a2) _
    refine z_aload_n (pc' := 71) 0 rfl rfl dX11_feed_70 rfl ?_
    refine z_getR (t := 28) (pc' := 74) g_X11_10 (by decide) rfl rfl dX11_feed_71 rfl ?_
    refine z_iload (pc' := 76) 4 rfl dX11_feed_74 rfl ?_
    refine z_invV (as := [zI a3]) (st := []) (C := m_X10_append) (fs := [31, 0]) (pc' := 79) dX11_feed_76 rfl t_2_64 k_X10_append rfl (by decide) rfl rfl rfl rfl (Nat.le_of_ble_eq_true rfl) ?_
    obtain ⟨r10, h⟩ := h
    refine c_T_append r10 ?_
    show z_Wp m_X11_feed _ 79 [(0, zR 27), (1, zI a0), (2, zI a1), (3, zI a2), (4, zI a3), (5, zI a4), (6, zI (((((F_T_bytesIn w a0) + (F_T_bytesIn w a1)) + (F_T_bytesIn w a2)) + (F_T_bytesIn w a3)) + (F_T_bytesIn w a4)))] [] (F_T_append (F_T_append (F_T_append (F_T_append w a0) a1) a2) a3) _
    refine z_aload_n (pc' := 80) 0 rfl rfl dX11_feed_79 rfl ?_
    refine z_getR (t := 28) (pc' := 83) g_X11_10 (by decide) rfl rfl dX11_feed_80 rfl ?_
    refine z_iload (pc' := 85) 5 rfl dX11_feed_83 rfl ?_
    refine z_invV (as := [zI a4]) (st := []) (C := m_X10_append) (fs := [31, 0]) (pc' := 88) dX11_feed_85 rfl t_2_64 k_X10_append rfl (by decide) rfl rfl rfl rfl (Nat.le_of_ble_eq_true rfl) ?_
    have r11 := h
    refine c_T_append r11 ?_
    show z_Wp m_X11_feed _ 88 [(0, zR 27), (1, zI a0), (2, zI a1), (3, zI a2), (4, zI a3), (5, zI a4), (6, zI (((((F_T_bytesIn w a0) + (F_T_bytesIn w a1)) + (F_T_bytesIn w a2)) + (F_T_bytesIn w a3)) + (F_T_bytesIn w a4)))] [] (F_T_append (F_T_append (F_T_append (F_T_append (F_T_append w a0) a1) a2) a3) a4) _
    refine z_aload_n (pc' := 89) 0 rfl rfl dX11_feed_88 rfl ?_
    refine z_getR (t := 28) (pc' := 92) g_X11_10 (by decide) rfl rfl dX11_feed_89 rfl ?_
    refine z_invV (as := []) (st := []) (C := m_X10_size) (fs := [31, 0]) (pc' := 95) dX11_feed_92 rfl t_2_60 k_X10_size rfl (by decide) rfl rfl rfl rfl (Nat.le_of_ble_eq_true rfl) ?_
    refine c_T_size ?_
    show z_Wp m_X11_feed _ 95 [(0, zR 27), (1, zI a0), (2, zI a1), (3, zI a2), (4, zI a3), (5, zI a4), (6, zI (((((F_T_bytesIn w a0) + (F_T_bytesIn w a1)) + (F_T_bytesIn w a2)) + (F_T_bytesIn w a3)) + (F_T_bytesIn w a4)))] [zI ((F_T_append (F_T_append (F_T_append (F_T_append (F_T_append w a0) a1) a2) a3) a4) 28 1)] (F_T_append (F_T_append (F_T_append (F_T_append (F_T_append w a0) a1) a2) a3) a4) _
    refine z_iret rfl dX11_feed_95 ?_
    exact k
  · have h := h.2 c
    rw [if_neg c] at k
    refine z_iconst (pc' := 45) dX11_feed_44 rfl ?_
    refine z_iret rfl dX11_feed_45 ?_
    exact k
def F_N_partsUp : Nat → z_Wd → Int → Int → Int → Int → Int
  | 0, w, _, _, _, _ => 0
  | n9 + 1, w, a0, a1, a2, a3 => if a1 > 0 then if F_K_comesUp w (F_K_wellOf w a0) 3 a2 = a0 then if F_K_comesUp w (F_K_wellOf w a0) 5 a2 = a0 then if F_K_comesUp w (F_K_wellOf w a0) 7 a2 = a0 then ((Int.tdiv a3 3) + (Int.tdiv a3 3)) + (a3 - (2 * (Int.tdiv a3 3))) else if F_K_comesUp w (F_K_wellOf w a0) 7 a2 = (-1) then ((Int.tdiv a3 3) + (Int.tdiv a3 3)) + (F_N_partsUp n9 w a0 (a1 - 1) a2 (a3 - (2 * (Int.tdiv a3 3)))) else ((Int.tdiv a3 3) + (Int.tdiv a3 3)) + (F_N_partsUp n9 w a0 (a1 - 1) (zz_and a2 (zz_xor (zz_shl 1 (F_K_comesUp w (F_K_wellOf w a0) 7 a2)) (-1))) (a3 - (2 * (Int.tdiv a3 3)))) else if F_K_comesUp w (F_K_wellOf w a0) 5 a2 = (-1) then if F_K_comesUp w (F_K_wellOf w a0) 7 a2 = a0 then ((Int.tdiv a3 3) + (F_N_partsUp n9 w a0 (a1 - 1) a2 (Int.tdiv a3 3))) + (a3 - (2 * (Int.tdiv a3 3))) else if F_K_comesUp w (F_K_wellOf w a0) 7 a2 = (-1) then ((Int.tdiv a3 3) + (F_N_partsUp n9 w a0 (a1 - 1) a2 (Int.tdiv a3 3))) + (F_N_partsUp n9 w a0 (a1 - 1) a2 (a3 - (2 * (Int.tdiv a3 3)))) else ((Int.tdiv a3 3) + (F_N_partsUp n9 w a0 (a1 - 1) a2 (Int.tdiv a3 3))) + (F_N_partsUp n9 w a0 (a1 - 1) (zz_and a2 (zz_xor (zz_shl 1 (F_K_comesUp w (F_K_wellOf w a0) 7 a2)) (-1))) (a3 - (2 * (Int.tdiv a3 3)))) else if F_K_comesUp w (F_K_wellOf w a0) 7 a2 = a0 then ((Int.tdiv a3 3) + (F_N_partsUp n9 w a0 (a1 - 1) (zz_and a2 (zz_xor (zz_shl 1 (F_K_comesUp w (F_K_wellOf w a0) 5 a2)) (-1))) (Int.tdiv a3 3))) + (a3 - (2 * (Int.tdiv a3 3))) else if F_K_comesUp w (F_K_wellOf w a0) 7 a2 = (-1) then ((Int.tdiv a3 3) + (F_N_partsUp n9 w a0 (a1 - 1) (zz_and a2 (zz_xor (zz_shl 1 (F_K_comesUp w (F_K_wellOf w a0) 5 a2)) (-1))) (Int.tdiv a3 3))) + (F_N_partsUp n9 w a0 (a1 - 1) a2 (a3 - (2 * (Int.tdiv a3 3)))) else ((Int.tdiv a3 3) + (F_N_partsUp n9 w a0 (a1 - 1) (zz_and a2 (zz_xor (zz_shl 1 (F_K_comesUp w (F_K_wellOf w a0) 5 a2)) (-1))) (Int.tdiv a3 3))) + (F_N_partsUp n9 w a0 (a1 - 1) (zz_and a2 (zz_xor (zz_shl 1 (F_K_comesUp w (F_K_wellOf w a0) 7 a2)) (-1))) (a3 - (2 * (Int.tdiv a3 3)))) else if F_K_comesUp w (F_K_wellOf w a0) 3 a2 = (-1) then if F_K_comesUp w (F_K_wellOf w a0) 5 a2 = a0 then if F_K_comesUp w (F_K_wellOf w a0) 7 a2 = a0 then ((F_N_partsUp n9 w a0 (a1 - 1) a2 (Int.tdiv a3 3)) + (Int.tdiv a3 3)) + (a3 - (2 * (Int.tdiv a3 3))) else if F_K_comesUp w (F_K_wellOf w a0) 7 a2 = (-1) then ((F_N_partsUp n9 w a0 (a1 - 1) a2 (Int.tdiv a3 3)) + (Int.tdiv a3 3)) + (F_N_partsUp n9 w a0 (a1 - 1) a2 (a3 - (2 * (Int.tdiv a3 3)))) else ((F_N_partsUp n9 w a0 (a1 - 1) a2 (Int.tdiv a3 3)) + (Int.tdiv a3 3)) + (F_N_partsUp n9 w a0 (a1 - 1) (zz_and a2 (zz_xor (zz_shl 1 (F_K_comesUp w (F_K_wellOf w a0) 7 a2)) (-1))) (a3 - (2 * (Int.tdiv a3 3)))) else if F_K_comesUp w (F_K_wellOf w a0) 5 a2 = (-1) then if F_K_comesUp w (F_K_wellOf w a0) 7 a2 = a0 then ((F_N_partsUp n9 w a0 (a1 - 1) a2 (Int.tdiv a3 3)) + (F_N_partsUp n9 w a0 (a1 - 1) a2 (Int.tdiv a3 3))) + (a3 - (2 * (Int.tdiv a3 3))) else if F_K_comesUp w (F_K_wellOf w a0) 7 a2 = (-1) then ((F_N_partsUp n9 w a0 (a1 - 1) a2 (Int.tdiv a3 3)) + (F_N_partsUp n9 w a0 (a1 - 1) a2 (Int.tdiv a3 3))) + (F_N_partsUp n9 w a0 (a1 - 1) a2 (a3 - (2 * (Int.tdiv a3 3)))) else ((F_N_partsUp n9 w a0 (a1 - 1) a2 (Int.tdiv a3 3)) + (F_N_partsUp n9 w a0 (a1 - 1) a2 (Int.tdiv a3 3))) + (F_N_partsUp n9 w a0 (a1 - 1) (zz_and a2 (zz_xor (zz_shl 1 (F_K_comesUp w (F_K_wellOf w a0) 7 a2)) (-1))) (a3 - (2 * (Int.tdiv a3 3)))) else if F_K_comesUp w (F_K_wellOf w a0) 7 a2 = a0 then ((F_N_partsUp n9 w a0 (a1 - 1) a2 (Int.tdiv a3 3)) + (F_N_partsUp n9 w a0 (a1 - 1) (zz_and a2 (zz_xor (zz_shl 1 (F_K_comesUp w (F_K_wellOf w a0) 5 a2)) (-1))) (Int.tdiv a3 3))) + (a3 - (2 * (Int.tdiv a3 3))) else if F_K_comesUp w (F_K_wellOf w a0) 7 a2 = (-1) then ((F_N_partsUp n9 w a0 (a1 - 1) a2 (Int.tdiv a3 3)) + (F_N_partsUp n9 w a0 (a1 - 1) (zz_and a2 (zz_xor (zz_shl 1 (F_K_comesUp w (F_K_wellOf w a0) 5 a2)) (-1))) (Int.tdiv a3 3))) + (F_N_partsUp n9 w a0 (a1 - 1) a2 (a3 - (2 * (Int.tdiv a3 3)))) else ((F_N_partsUp n9 w a0 (a1 - 1) a2 (Int.tdiv a3 3)) + (F_N_partsUp n9 w a0 (a1 - 1) (zz_and a2 (zz_xor (zz_shl 1 (F_K_comesUp w (F_K_wellOf w a0) 5 a2)) (-1))) (Int.tdiv a3 3))) + (F_N_partsUp n9 w a0 (a1 - 1) (zz_and a2 (zz_xor (zz_shl 1 (F_K_comesUp w (F_K_wellOf w a0) 7 a2)) (-1))) (a3 - (2 * (Int.tdiv a3 3)))) else if F_K_comesUp w (F_K_wellOf w a0) 5 a2 = a0 then if F_K_comesUp w (F_K_wellOf w a0) 7 a2 = a0 then ((F_N_partsUp n9 w a0 (a1 - 1) (zz_and a2 (zz_xor (zz_shl 1 (F_K_comesUp w (F_K_wellOf w a0) 3 a2)) (-1))) (Int.tdiv a3 3)) + (Int.tdiv a3 3)) + (a3 - (2 * (Int.tdiv a3 3))) else if F_K_comesUp w (F_K_wellOf w a0) 7 a2 = (-1) then ((F_N_partsUp n9 w a0 (a1 - 1) (zz_and a2 (zz_xor (zz_shl 1 (F_K_comesUp w (F_K_wellOf w a0) 3 a2)) (-1))) (Int.tdiv a3 3)) + (Int.tdiv a3 3)) + (F_N_partsUp n9 w a0 (a1 - 1) a2 (a3 - (2 * (Int.tdiv a3 3)))) else ((F_N_partsUp n9 w a0 (a1 - 1) (zz_and a2 (zz_xor (zz_shl 1 (F_K_comesUp w (F_K_wellOf w a0) 3 a2)) (-1))) (Int.tdiv a3 3)) + (Int.tdiv a3 3)) + (F_N_partsUp n9 w a0 (a1 - 1) (zz_and a2 (zz_xor (zz_shl 1 (F_K_comesUp w (F_K_wellOf w a0) 7 a2)) (-1))) (a3 - (2 * (Int.tdiv a3 3)))) else if F_K_comesUp w (F_K_wellOf w a0) 5 a2 = (-1) then if F_K_comesUp w (F_K_wellOf w a0) 7 a2 = a0 then ((F_N_partsUp n9 w a0 (a1 - 1) (zz_and a2 (zz_xor (zz_shl 1 (F_K_comesUp w (F_K_wellOf w a0) 3 a2)) (-1))) (Int.tdiv a3 3)) + (F_N_partsUp n9 w a0 (a1 - 1) a2 (Int.tdiv a3 3))) + (a3 - (2 * (Int.tdiv a3 3))) else if F_K_comesUp w (F_K_wellOf w a0) 7 a2 = (-1) then ((F_N_partsUp n9 w a0 (a1 - 1) (zz_and a2 (zz_xor (zz_shl 1 (F_K_comesUp w (F_K_wellOf w a0) 3 a2)) (-1))) (Int.tdiv a3 3)) + (F_N_partsUp n9 w a0 (a1 - 1) a2 (Int.tdiv a3 3))) + (F_N_partsUp n9 w a0 (a1 - 1) a2 (a3 - (2 * (Int.tdiv a3 3)))) else ((F_N_partsUp n9 w a0 (a1 - 1) (zz_and a2 (zz_xor (zz_shl 1 (F_K_comesUp w (F_K_wellOf w a0) 3 a2)) (-1))) (Int.tdiv a3 3)) + (F_N_partsUp n9 w a0 (a1 - 1) a2 (Int.tdiv a3 3))) + (F_N_partsUp n9 w a0 (a1 - 1) (zz_and a2 (zz_xor (zz_shl 1 (F_K_comesUp w (F_K_wellOf w a0) 7 a2)) (-1))) (a3 - (2 * (Int.tdiv a3 3)))) else if F_K_comesUp w (F_K_wellOf w a0) 7 a2 = a0 then ((F_N_partsUp n9 w a0 (a1 - 1) (zz_and a2 (zz_xor (zz_shl 1 (F_K_comesUp w (F_K_wellOf w a0) 3 a2)) (-1))) (Int.tdiv a3 3)) + (F_N_partsUp n9 w a0 (a1 - 1) (zz_and a2 (zz_xor (zz_shl 1 (F_K_comesUp w (F_K_wellOf w a0) 5 a2)) (-1))) (Int.tdiv a3 3))) + (a3 - (2 * (Int.tdiv a3 3))) else if F_K_comesUp w (F_K_wellOf w a0) 7 a2 = (-1) then ((F_N_partsUp n9 w a0 (a1 - 1) (zz_and a2 (zz_xor (zz_shl 1 (F_K_comesUp w (F_K_wellOf w a0) 3 a2)) (-1))) (Int.tdiv a3 3)) + (F_N_partsUp n9 w a0 (a1 - 1) (zz_and a2 (zz_xor (zz_shl 1 (F_K_comesUp w (F_K_wellOf w a0) 5 a2)) (-1))) (Int.tdiv a3 3))) + (F_N_partsUp n9 w a0 (a1 - 1) a2 (a3 - (2 * (Int.tdiv a3 3)))) else ((F_N_partsUp n9 w a0 (a1 - 1) (zz_and a2 (zz_xor (zz_shl 1 (F_K_comesUp w (F_K_wellOf w a0) 3 a2)) (-1))) (Int.tdiv a3 3)) + (F_N_partsUp n9 w a0 (a1 - 1) (zz_and a2 (zz_xor (zz_shl 1 (F_K_comesUp w (F_K_wellOf w a0) 5 a2)) (-1))) (Int.tdiv a3 3))) + (F_N_partsUp n9 w a0 (a1 - 1) (zz_and a2 (zz_xor (zz_shl 1 (F_K_comesUp w (F_K_wellOf w a0) 7 a2)) (-1))) (a3 - (2 * (Int.tdiv a3 3)))) else 0
def P_N_partsUp : Nat → z_Wd → Int → Int → Int → Int → Prop
  | 0, w, _, _, _, _ => False
  | n9 + 1, w, a0, a1, a2, a3 => (-2147483648 ≤ a1 ∧ a1 < 2147483648) ∧ ((a1 > 0 → (-2147483648 ≤ a3 ∧ a3 < 2147483648) ∧ (P_K_wellOf w a0) ∧ (P_K_comesUp w (F_K_wellOf w a0) 3 a2) ∧ (-2147483648 ≤ F_K_comesUp w (F_K_wellOf w a0) 3 a2 ∧ F_K_comesUp w (F_K_wellOf w a0) 3 a2 < 2147483648) ∧ (-2147483648 ≤ a0 ∧ a0 < 2147483648) ∧ ((F_K_comesUp w (F_K_wellOf w a0) 3 a2 = a0 → (P_K_comesUp w (F_K_wellOf w a0) 5 a2) ∧ (-2147483648 ≤ F_K_comesUp w (F_K_wellOf w a0) 5 a2 ∧ F_K_comesUp w (F_K_wellOf w a0) 5 a2 < 2147483648) ∧ ((F_K_comesUp w (F_K_wellOf w a0) 5 a2 = a0 → (P_K_comesUp w (F_K_wellOf w a0) 7 a2) ∧ (-2147483648 ≤ F_K_comesUp w (F_K_wellOf w a0) 7 a2 ∧ F_K_comesUp w (F_K_wellOf w a0) 7 a2 < 2147483648) ∧ ((F_K_comesUp w (F_K_wellOf w a0) 7 a2 = a0 → True) ∧ (¬ (F_K_comesUp w (F_K_wellOf w a0) 7 a2 = a0) → (F_K_comesUp w (F_K_wellOf w a0) 7 a2 = (-1) → P_N_partsUp n9 w a0 (a1 - 1) a2 (a3 - (2 * (Int.tdiv a3 3)))) ∧ (¬ (F_K_comesUp w (F_K_wellOf w a0) 7 a2 = (-1)) → P_N_partsUp n9 w a0 (a1 - 1) (zz_and a2 (zz_xor (zz_shl 1 (F_K_comesUp w (F_K_wellOf w a0) 7 a2)) (-1))) (a3 - (2 * (Int.tdiv a3 3))))))) ∧ (¬ (F_K_comesUp w (F_K_wellOf w a0) 5 a2 = a0) → (F_K_comesUp w (F_K_wellOf w a0) 5 a2 = (-1) → (P_N_partsUp n9 w a0 (a1 - 1) a2 (Int.tdiv a3 3)) ∧ (P_K_comesUp w (F_K_wellOf w a0) 7 a2) ∧ (-2147483648 ≤ F_K_comesUp w (F_K_wellOf w a0) 7 a2 ∧ F_K_comesUp w (F_K_wellOf w a0) 7 a2 < 2147483648) ∧ ((F_K_comesUp w (F_K_wellOf w a0) 7 a2 = a0 → True) ∧ (¬ (F_K_comesUp w (F_K_wellOf w a0) 7 a2 = a0) → (F_K_comesUp w (F_K_wellOf w a0) 7 a2 = (-1) → P_N_partsUp n9 w a0 (a1 - 1) a2 (a3 - (2 * (Int.tdiv a3 3)))) ∧ (¬ (F_K_comesUp w (F_K_wellOf w a0) 7 a2 = (-1)) → P_N_partsUp n9 w a0 (a1 - 1) (zz_and a2 (zz_xor (zz_shl 1 (F_K_comesUp w (F_K_wellOf w a0) 7 a2)) (-1))) (a3 - (2 * (Int.tdiv a3 3))))))) ∧ (¬ (F_K_comesUp w (F_K_wellOf w a0) 5 a2 = (-1)) → (P_N_partsUp n9 w a0 (a1 - 1) (zz_and a2 (zz_xor (zz_shl 1 (F_K_comesUp w (F_K_wellOf w a0) 5 a2)) (-1))) (Int.tdiv a3 3)) ∧ (P_K_comesUp w (F_K_wellOf w a0) 7 a2) ∧ (-2147483648 ≤ F_K_comesUp w (F_K_wellOf w a0) 7 a2 ∧ F_K_comesUp w (F_K_wellOf w a0) 7 a2 < 2147483648) ∧ ((F_K_comesUp w (F_K_wellOf w a0) 7 a2 = a0 → True) ∧ (¬ (F_K_comesUp w (F_K_wellOf w a0) 7 a2 = a0) → (F_K_comesUp w (F_K_wellOf w a0) 7 a2 = (-1) → P_N_partsUp n9 w a0 (a1 - 1) a2 (a3 - (2 * (Int.tdiv a3 3)))) ∧ (¬ (F_K_comesUp w (F_K_wellOf w a0) 7 a2 = (-1)) → P_N_partsUp n9 w a0 (a1 - 1) (zz_and a2 (zz_xor (zz_shl 1 (F_K_comesUp w (F_K_wellOf w a0) 7 a2)) (-1))) (a3 - (2 * (Int.tdiv a3 3)))))))))) ∧ (¬ (F_K_comesUp w (F_K_wellOf w a0) 3 a2 = a0) → (F_K_comesUp w (F_K_wellOf w a0) 3 a2 = (-1) → (P_N_partsUp n9 w a0 (a1 - 1) a2 (Int.tdiv a3 3)) ∧ (P_K_comesUp w (F_K_wellOf w a0) 5 a2) ∧ (-2147483648 ≤ F_K_comesUp w (F_K_wellOf w a0) 5 a2 ∧ F_K_comesUp w (F_K_wellOf w a0) 5 a2 < 2147483648) ∧ ((F_K_comesUp w (F_K_wellOf w a0) 5 a2 = a0 → (P_K_comesUp w (F_K_wellOf w a0) 7 a2) ∧ (-2147483648 ≤ F_K_comesUp w (F_K_wellOf w a0) 7 a2 ∧ F_K_comesUp w (F_K_wellOf w a0) 7 a2 < 2147483648) ∧ ((F_K_comesUp w (F_K_wellOf w a0) 7 a2 = a0 → True) ∧ (¬ (F_K_comesUp w (F_K_wellOf w a0) 7 a2 = a0) → (F_K_comesUp w (F_K_wellOf w a0) 7 a2 = (-1) → P_N_partsUp n9 w a0 (a1 - 1) a2 (a3 - (2 * (Int.tdiv a3 3)))) ∧ (¬ (F_K_comesUp w (F_K_wellOf w a0) 7 a2 = (-1)) → P_N_partsUp n9 w a0 (a1 - 1) (zz_and a2 (zz_xor (zz_shl 1 (F_K_comesUp w (F_K_wellOf w a0) 7 a2)) (-1))) (a3 - (2 * (Int.tdiv a3 3))))))) ∧ (¬ (F_K_comesUp w (F_K_wellOf w a0) 5 a2 = a0) → (F_K_comesUp w (F_K_wellOf w a0) 5 a2 = (-1) → (P_K_comesUp w (F_K_wellOf w a0) 7 a2) ∧ (-2147483648 ≤ F_K_comesUp w (F_K_wellOf w a0) 7 a2 ∧ F_K_comesUp w (F_K_wellOf w a0) 7 a2 < 2147483648) ∧ ((F_K_comesUp w (F_K_wellOf w a0) 7 a2 = a0 → True) ∧ (¬ (F_K_comesUp w (F_K_wellOf w a0) 7 a2 = a0) → (F_K_comesUp w (F_K_wellOf w a0) 7 a2 = (-1) → P_N_partsUp n9 w a0 (a1 - 1) a2 (a3 - (2 * (Int.tdiv a3 3)))) ∧ (¬ (F_K_comesUp w (F_K_wellOf w a0) 7 a2 = (-1)) → P_N_partsUp n9 w a0 (a1 - 1) (zz_and a2 (zz_xor (zz_shl 1 (F_K_comesUp w (F_K_wellOf w a0) 7 a2)) (-1))) (a3 - (2 * (Int.tdiv a3 3))))))) ∧ (¬ (F_K_comesUp w (F_K_wellOf w a0) 5 a2 = (-1)) → (P_N_partsUp n9 w a0 (a1 - 1) (zz_and a2 (zz_xor (zz_shl 1 (F_K_comesUp w (F_K_wellOf w a0) 5 a2)) (-1))) (Int.tdiv a3 3)) ∧ (P_K_comesUp w (F_K_wellOf w a0) 7 a2) ∧ (-2147483648 ≤ F_K_comesUp w (F_K_wellOf w a0) 7 a2 ∧ F_K_comesUp w (F_K_wellOf w a0) 7 a2 < 2147483648) ∧ ((F_K_comesUp w (F_K_wellOf w a0) 7 a2 = a0 → True) ∧ (¬ (F_K_comesUp w (F_K_wellOf w a0) 7 a2 = a0) → (F_K_comesUp w (F_K_wellOf w a0) 7 a2 = (-1) → P_N_partsUp n9 w a0 (a1 - 1) a2 (a3 - (2 * (Int.tdiv a3 3)))) ∧ (¬ (F_K_comesUp w (F_K_wellOf w a0) 7 a2 = (-1)) → P_N_partsUp n9 w a0 (a1 - 1) (zz_and a2 (zz_xor (zz_shl 1 (F_K_comesUp w (F_K_wellOf w a0) 7 a2)) (-1))) (a3 - (2 * (Int.tdiv a3 3)))))))))) ∧ (¬ (F_K_comesUp w (F_K_wellOf w a0) 3 a2 = (-1)) → (P_N_partsUp n9 w a0 (a1 - 1) (zz_and a2 (zz_xor (zz_shl 1 (F_K_comesUp w (F_K_wellOf w a0) 3 a2)) (-1))) (Int.tdiv a3 3)) ∧ (P_K_comesUp w (F_K_wellOf w a0) 5 a2) ∧ (-2147483648 ≤ F_K_comesUp w (F_K_wellOf w a0) 5 a2 ∧ F_K_comesUp w (F_K_wellOf w a0) 5 a2 < 2147483648) ∧ ((F_K_comesUp w (F_K_wellOf w a0) 5 a2 = a0 → (P_K_comesUp w (F_K_wellOf w a0) 7 a2) ∧ (-2147483648 ≤ F_K_comesUp w (F_K_wellOf w a0) 7 a2 ∧ F_K_comesUp w (F_K_wellOf w a0) 7 a2 < 2147483648) ∧ ((F_K_comesUp w (F_K_wellOf w a0) 7 a2 = a0 → True) ∧ (¬ (F_K_comesUp w (F_K_wellOf w a0) 7 a2 = a0) → (F_K_comesUp w (F_K_wellOf w a0) 7 a2 = (-1) → P_N_partsUp n9 w a0 (a1 - 1) a2 (a3 - (2 * (Int.tdiv a3 3)))) ∧ (¬ (F_K_comesUp w (F_K_wellOf w a0) 7 a2 = (-1)) → P_N_partsUp n9 w a0 (a1 - 1) (zz_and a2 (zz_xor (zz_shl 1 (F_K_comesUp w (F_K_wellOf w a0) 7 a2)) (-1))) (a3 - (2 * (Int.tdiv a3 3))))))) ∧ (¬ (F_K_comesUp w (F_K_wellOf w a0) 5 a2 = a0) → (F_K_comesUp w (F_K_wellOf w a0) 5 a2 = (-1) → (P_N_partsUp n9 w a0 (a1 - 1) a2 (Int.tdiv a3 3)) ∧ (P_K_comesUp w (F_K_wellOf w a0) 7 a2) ∧ (-2147483648 ≤ F_K_comesUp w (F_K_wellOf w a0) 7 a2 ∧ F_K_comesUp w (F_K_wellOf w a0) 7 a2 < 2147483648) ∧ ((F_K_comesUp w (F_K_wellOf w a0) 7 a2 = a0 → True) ∧ (¬ (F_K_comesUp w (F_K_wellOf w a0) 7 a2 = a0) → (F_K_comesUp w (F_K_wellOf w a0) 7 a2 = (-1) → P_N_partsUp n9 w a0 (a1 - 1) a2 (a3 - (2 * (Int.tdiv a3 3)))) ∧ (¬ (F_K_comesUp w (F_K_wellOf w a0) 7 a2 = (-1)) → P_N_partsUp n9 w a0 (a1 - 1) (zz_and a2 (zz_xor (zz_shl 1 (F_K_comesUp w (F_K_wellOf w a0) 7 a2)) (-1))) (a3 - (2 * (Int.tdiv a3 3))))))) ∧ (¬ (F_K_comesUp w (F_K_wellOf w a0) 5 a2 = (-1)) → (P_N_partsUp n9 w a0 (a1 - 1) (zz_and a2 (zz_xor (zz_shl 1 (F_K_comesUp w (F_K_wellOf w a0) 5 a2)) (-1))) (Int.tdiv a3 3)) ∧ (P_K_comesUp w (F_K_wellOf w a0) 7 a2) ∧ (-2147483648 ≤ F_K_comesUp w (F_K_wellOf w a0) 7 a2 ∧ F_K_comesUp w (F_K_wellOf w a0) 7 a2 < 2147483648) ∧ ((F_K_comesUp w (F_K_wellOf w a0) 7 a2 = a0 → True) ∧ (¬ (F_K_comesUp w (F_K_wellOf w a0) 7 a2 = a0) → (F_K_comesUp w (F_K_wellOf w a0) 7 a2 = (-1) → P_N_partsUp n9 w a0 (a1 - 1) a2 (a3 - (2 * (Int.tdiv a3 3)))) ∧ (¬ (F_K_comesUp w (F_K_wellOf w a0) 7 a2 = (-1)) → P_N_partsUp n9 w a0 (a1 - 1) (zz_and a2 (zz_xor (zz_shl 1 (F_K_comesUp w (F_K_wellOf w a0) 7 a2)) (-1))) (a3 - (2 * (Int.tdiv a3 3))))))))))))) ∧ (¬ (a1 > 0) → True))
set_option maxHeartbeats 2000000 in
set_option maxRecDepth 4000 in
theorem c_N_partsUp {d : Nat} : ∀ {n9 : Nat} {w : z_Wd} {a0 a1 a2 a3 : Int} {Q : Option z_V → z_Wd → Prop} (h : P_N_partsUp n9 w a0 a1 a2 a3) (k : Q (some (zI (F_N_partsUp n9 w a0 a1 a2 a3))) w), z_Wc (d + 2 * n9 + 5) m_X8_partsUp [zR 76, zI a0, zI a1, zI a2, zI a3] w Q := by
  intro n9
  induction n9 with
  | zero => intro w a0 a1 a2 a3 Q h k; exact False.elim h
  | succ n9 ihr =>
    intro w a0 a1 a2 a3 Q h k
    have h : (-2147483648 ≤ a1 ∧ a1 < 2147483648) ∧ ((a1 > 0 → (-2147483648 ≤ a3 ∧ a3 < 2147483648) ∧ (P_K_wellOf w a0) ∧ (P_K_comesUp w (F_K_wellOf w a0) 3 a2) ∧ (-2147483648 ≤ F_K_comesUp w (F_K_wellOf w a0) 3 a2 ∧ F_K_comesUp w (F_K_wellOf w a0) 3 a2 < 2147483648) ∧ (-2147483648 ≤ a0 ∧ a0 < 2147483648) ∧ ((F_K_comesUp w (F_K_wellOf w a0) 3 a2 = a0 → (P_K_comesUp w (F_K_wellOf w a0) 5 a2) ∧ (-2147483648 ≤ F_K_comesUp w (F_K_wellOf w a0) 5 a2 ∧ F_K_comesUp w (F_K_wellOf w a0) 5 a2 < 2147483648) ∧ ((F_K_comesUp w (F_K_wellOf w a0) 5 a2 = a0 → (P_K_comesUp w (F_K_wellOf w a0) 7 a2) ∧ (-2147483648 ≤ F_K_comesUp w (F_K_wellOf w a0) 7 a2 ∧ F_K_comesUp w (F_K_wellOf w a0) 7 a2 < 2147483648) ∧ ((F_K_comesUp w (F_K_wellOf w a0) 7 a2 = a0 → True) ∧ (¬ (F_K_comesUp w (F_K_wellOf w a0) 7 a2 = a0) → (F_K_comesUp w (F_K_wellOf w a0) 7 a2 = (-1) → P_N_partsUp n9 w a0 (a1 - 1) a2 (a3 - (2 * (Int.tdiv a3 3)))) ∧ (¬ (F_K_comesUp w (F_K_wellOf w a0) 7 a2 = (-1)) → P_N_partsUp n9 w a0 (a1 - 1) (zz_and a2 (zz_xor (zz_shl 1 (F_K_comesUp w (F_K_wellOf w a0) 7 a2)) (-1))) (a3 - (2 * (Int.tdiv a3 3))))))) ∧ (¬ (F_K_comesUp w (F_K_wellOf w a0) 5 a2 = a0) → (F_K_comesUp w (F_K_wellOf w a0) 5 a2 = (-1) → (P_N_partsUp n9 w a0 (a1 - 1) a2 (Int.tdiv a3 3)) ∧ (P_K_comesUp w (F_K_wellOf w a0) 7 a2) ∧ (-2147483648 ≤ F_K_comesUp w (F_K_wellOf w a0) 7 a2 ∧ F_K_comesUp w (F_K_wellOf w a0) 7 a2 < 2147483648) ∧ ((F_K_comesUp w (F_K_wellOf w a0) 7 a2 = a0 → True) ∧ (¬ (F_K_comesUp w (F_K_wellOf w a0) 7 a2 = a0) → (F_K_comesUp w (F_K_wellOf w a0) 7 a2 = (-1) → P_N_partsUp n9 w a0 (a1 - 1) a2 (a3 - (2 * (Int.tdiv a3 3)))) ∧ (¬ (F_K_comesUp w (F_K_wellOf w a0) 7 a2 = (-1)) → P_N_partsUp n9 w a0 (a1 - 1) (zz_and a2 (zz_xor (zz_shl 1 (F_K_comesUp w (F_K_wellOf w a0) 7 a2)) (-1))) (a3 - (2 * (Int.tdiv a3 3))))))) ∧ (¬ (F_K_comesUp w (F_K_wellOf w a0) 5 a2 = (-1)) → (P_N_partsUp n9 w a0 (a1 - 1) (zz_and a2 (zz_xor (zz_shl 1 (F_K_comesUp w (F_K_wellOf w a0) 5 a2)) (-1))) (Int.tdiv a3 3)) ∧ (P_K_comesUp w (F_K_wellOf w a0) 7 a2) ∧ (-2147483648 ≤ F_K_comesUp w (F_K_wellOf w a0) 7 a2 ∧ F_K_comesUp w (F_K_wellOf w a0) 7 a2 < 2147483648) ∧ ((F_K_comesUp w (F_K_wellOf w a0) 7 a2 = a0 → True) ∧ (¬ (F_K_comesUp w (F_K_wellOf w a0) 7 a2 = a0) → (F_K_comesUp w (F_K_wellOf w a0) 7 a2 = (-1) → P_N_partsUp n9 w a0 (a1 - 1) a2 (a3 - (2 * (Int.tdiv a3 3)))) ∧ (¬ (F_K_comesUp w (F_K_wellOf w a0) 7 a2 = (-1)) → P_N_partsUp n9 w a0 (a1 - 1) (zz_and a2 (zz_xor (zz_shl 1 (F_K_comesUp w (F_K_wellOf w a0) 7 a2)) (-1))) (a3 - (2 * (Int.tdiv a3 3)))))))))) ∧ (¬ (F_K_comesUp w (F_K_wellOf w a0) 3 a2 = a0) → (F_K_comesUp w (F_K_wellOf w a0) 3 a2 = (-1) → (P_N_partsUp n9 w a0 (a1 - 1) a2 (Int.tdiv a3 3)) ∧ (P_K_comesUp w (F_K_wellOf w a0) 5 a2) ∧ (-2147483648 ≤ F_K_comesUp w (F_K_wellOf w a0) 5 a2 ∧ F_K_comesUp w (F_K_wellOf w a0) 5 a2 < 2147483648) ∧ ((F_K_comesUp w (F_K_wellOf w a0) 5 a2 = a0 → (P_K_comesUp w (F_K_wellOf w a0) 7 a2) ∧ (-2147483648 ≤ F_K_comesUp w (F_K_wellOf w a0) 7 a2 ∧ F_K_comesUp w (F_K_wellOf w a0) 7 a2 < 2147483648) ∧ ((F_K_comesUp w (F_K_wellOf w a0) 7 a2 = a0 → True) ∧ (¬ (F_K_comesUp w (F_K_wellOf w a0) 7 a2 = a0) → (F_K_comesUp w (F_K_wellOf w a0) 7 a2 = (-1) → P_N_partsUp n9 w a0 (a1 - 1) a2 (a3 - (2 * (Int.tdiv a3 3)))) ∧ (¬ (F_K_comesUp w (F_K_wellOf w a0) 7 a2 = (-1)) → P_N_partsUp n9 w a0 (a1 - 1) (zz_and a2 (zz_xor (zz_shl 1 (F_K_comesUp w (F_K_wellOf w a0) 7 a2)) (-1))) (a3 - (2 * (Int.tdiv a3 3))))))) ∧ (¬ (F_K_comesUp w (F_K_wellOf w a0) 5 a2 = a0) → (F_K_comesUp w (F_K_wellOf w a0) 5 a2 = (-1) → (P_K_comesUp w (F_K_wellOf w a0) 7 a2) ∧ (-2147483648 ≤ F_K_comesUp w (F_K_wellOf w a0) 7 a2 ∧ F_K_comesUp w (F_K_wellOf w a0) 7 a2 < 2147483648) ∧ ((F_K_comesUp w (F_K_wellOf w a0) 7 a2 = a0 → True) ∧ (¬ (F_K_comesUp w (F_K_wellOf w a0) 7 a2 = a0) → (F_K_comesUp w (F_K_wellOf w a0) 7 a2 = (-1) → P_N_partsUp n9 w a0 (a1 - 1) a2 (a3 - (2 * (Int.tdiv a3 3)))) ∧ (¬ (F_K_comesUp w (F_K_wellOf w a0) 7 a2 = (-1)) → P_N_partsUp n9 w a0 (a1 - 1) (zz_and a2 (zz_xor (zz_shl 1 (F_K_comesUp w (F_K_wellOf w a0) 7 a2)) (-1))) (a3 - (2 * (Int.tdiv a3 3))))))) ∧ (¬ (F_K_comesUp w (F_K_wellOf w a0) 5 a2 = (-1)) → (P_N_partsUp n9 w a0 (a1 - 1) (zz_and a2 (zz_xor (zz_shl 1 (F_K_comesUp w (F_K_wellOf w a0) 5 a2)) (-1))) (Int.tdiv a3 3)) ∧ (P_K_comesUp w (F_K_wellOf w a0) 7 a2) ∧ (-2147483648 ≤ F_K_comesUp w (F_K_wellOf w a0) 7 a2 ∧ F_K_comesUp w (F_K_wellOf w a0) 7 a2 < 2147483648) ∧ ((F_K_comesUp w (F_K_wellOf w a0) 7 a2 = a0 → True) ∧ (¬ (F_K_comesUp w (F_K_wellOf w a0) 7 a2 = a0) → (F_K_comesUp w (F_K_wellOf w a0) 7 a2 = (-1) → P_N_partsUp n9 w a0 (a1 - 1) a2 (a3 - (2 * (Int.tdiv a3 3)))) ∧ (¬ (F_K_comesUp w (F_K_wellOf w a0) 7 a2 = (-1)) → P_N_partsUp n9 w a0 (a1 - 1) (zz_and a2 (zz_xor (zz_shl 1 (F_K_comesUp w (F_K_wellOf w a0) 7 a2)) (-1))) (a3 - (2 * (Int.tdiv a3 3)))))))))) ∧ (¬ (F_K_comesUp w (F_K_wellOf w a0) 3 a2 = (-1)) → (P_N_partsUp n9 w a0 (a1 - 1) (zz_and a2 (zz_xor (zz_shl 1 (F_K_comesUp w (F_K_wellOf w a0) 3 a2)) (-1))) (Int.tdiv a3 3)) ∧ (P_K_comesUp w (F_K_wellOf w a0) 5 a2) ∧ (-2147483648 ≤ F_K_comesUp w (F_K_wellOf w a0) 5 a2 ∧ F_K_comesUp w (F_K_wellOf w a0) 5 a2 < 2147483648) ∧ ((F_K_comesUp w (F_K_wellOf w a0) 5 a2 = a0 → (P_K_comesUp w (F_K_wellOf w a0) 7 a2) ∧ (-2147483648 ≤ F_K_comesUp w (F_K_wellOf w a0) 7 a2 ∧ F_K_comesUp w (F_K_wellOf w a0) 7 a2 < 2147483648) ∧ ((F_K_comesUp w (F_K_wellOf w a0) 7 a2 = a0 → True) ∧ (¬ (F_K_comesUp w (F_K_wellOf w a0) 7 a2 = a0) → (F_K_comesUp w (F_K_wellOf w a0) 7 a2 = (-1) → P_N_partsUp n9 w a0 (a1 - 1) a2 (a3 - (2 * (Int.tdiv a3 3)))) ∧ (¬ (F_K_comesUp w (F_K_wellOf w a0) 7 a2 = (-1)) → P_N_partsUp n9 w a0 (a1 - 1) (zz_and a2 (zz_xor (zz_shl 1 (F_K_comesUp w (F_K_wellOf w a0) 7 a2)) (-1))) (a3 - (2 * (Int.tdiv a3 3))))))) ∧ (¬ (F_K_comesUp w (F_K_wellOf w a0) 5 a2 = a0) → (F_K_comesUp w (F_K_wellOf w a0) 5 a2 = (-1) → (P_N_partsUp n9 w a0 (a1 - 1) a2 (Int.tdiv a3 3)) ∧ (P_K_comesUp w (F_K_wellOf w a0) 7 a2) ∧ (-2147483648 ≤ F_K_comesUp w (F_K_wellOf w a0) 7 a2 ∧ F_K_comesUp w (F_K_wellOf w a0) 7 a2 < 2147483648) ∧ ((F_K_comesUp w (F_K_wellOf w a0) 7 a2 = a0 → True) ∧ (¬ (F_K_comesUp w (F_K_wellOf w a0) 7 a2 = a0) → (F_K_comesUp w (F_K_wellOf w a0) 7 a2 = (-1) → P_N_partsUp n9 w a0 (a1 - 1) a2 (a3 - (2 * (Int.tdiv a3 3)))) ∧ (¬ (F_K_comesUp w (F_K_wellOf w a0) 7 a2 = (-1)) → P_N_partsUp n9 w a0 (a1 - 1) (zz_and a2 (zz_xor (zz_shl 1 (F_K_comesUp w (F_K_wellOf w a0) 7 a2)) (-1))) (a3 - (2 * (Int.tdiv a3 3))))))) ∧ (¬ (F_K_comesUp w (F_K_wellOf w a0) 5 a2 = (-1)) → (P_N_partsUp n9 w a0 (a1 - 1) (zz_and a2 (zz_xor (zz_shl 1 (F_K_comesUp w (F_K_wellOf w a0) 5 a2)) (-1))) (Int.tdiv a3 3)) ∧ (P_K_comesUp w (F_K_wellOf w a0) 7 a2) ∧ (-2147483648 ≤ F_K_comesUp w (F_K_wellOf w a0) 7 a2 ∧ F_K_comesUp w (F_K_wellOf w a0) 7 a2 < 2147483648) ∧ ((F_K_comesUp w (F_K_wellOf w a0) 7 a2 = a0 → True) ∧ (¬ (F_K_comesUp w (F_K_wellOf w a0) 7 a2 = a0) → (F_K_comesUp w (F_K_wellOf w a0) 7 a2 = (-1) → P_N_partsUp n9 w a0 (a1 - 1) a2 (a3 - (2 * (Int.tdiv a3 3)))) ∧ (¬ (F_K_comesUp w (F_K_wellOf w a0) 7 a2 = (-1)) → P_N_partsUp n9 w a0 (a1 - 1) (zz_and a2 (zz_xor (zz_shl 1 (F_K_comesUp w (F_K_wellOf w a0) 7 a2)) (-1))) (a3 - (2 * (Int.tdiv a3 3))))))))))))) ∧ (¬ (a1 > 0) → True)) := h
    have k : Q (some (zI (if a1 > 0 then if F_K_comesUp w (F_K_wellOf w a0) 3 a2 = a0 then if F_K_comesUp w (F_K_wellOf w a0) 5 a2 = a0 then if F_K_comesUp w (F_K_wellOf w a0) 7 a2 = a0 then ((Int.tdiv a3 3) + (Int.tdiv a3 3)) + (a3 - (2 * (Int.tdiv a3 3))) else if F_K_comesUp w (F_K_wellOf w a0) 7 a2 = (-1) then ((Int.tdiv a3 3) + (Int.tdiv a3 3)) + (F_N_partsUp n9 w a0 (a1 - 1) a2 (a3 - (2 * (Int.tdiv a3 3)))) else ((Int.tdiv a3 3) + (Int.tdiv a3 3)) + (F_N_partsUp n9 w a0 (a1 - 1) (zz_and a2 (zz_xor (zz_shl 1 (F_K_comesUp w (F_K_wellOf w a0) 7 a2)) (-1))) (a3 - (2 * (Int.tdiv a3 3)))) else if F_K_comesUp w (F_K_wellOf w a0) 5 a2 = (-1) then if F_K_comesUp w (F_K_wellOf w a0) 7 a2 = a0 then ((Int.tdiv a3 3) + (F_N_partsUp n9 w a0 (a1 - 1) a2 (Int.tdiv a3 3))) + (a3 - (2 * (Int.tdiv a3 3))) else if F_K_comesUp w (F_K_wellOf w a0) 7 a2 = (-1) then ((Int.tdiv a3 3) + (F_N_partsUp n9 w a0 (a1 - 1) a2 (Int.tdiv a3 3))) + (F_N_partsUp n9 w a0 (a1 - 1) a2 (a3 - (2 * (Int.tdiv a3 3)))) else ((Int.tdiv a3 3) + (F_N_partsUp n9 w a0 (a1 - 1) a2 (Int.tdiv a3 3))) + (F_N_partsUp n9 w a0 (a1 - 1) (zz_and a2 (zz_xor (zz_shl 1 (F_K_comesUp w (F_K_wellOf w a0) 7 a2)) (-1))) (a3 - (2 * (Int.tdiv a3 3)))) else if F_K_comesUp w (F_K_wellOf w a0) 7 a2 = a0 then ((Int.tdiv a3 3) + (F_N_partsUp n9 w a0 (a1 - 1) (zz_and a2 (zz_xor (zz_shl 1 (F_K_comesUp w (F_K_wellOf w a0) 5 a2)) (-1))) (Int.tdiv a3 3))) + (a3 - (2 * (Int.tdiv a3 3))) else if F_K_comesUp w (F_K_wellOf w a0) 7 a2 = (-1) then ((Int.tdiv a3 3) + (F_N_partsUp n9 w a0 (a1 - 1) (zz_and a2 (zz_xor (zz_shl 1 (F_K_comesUp w (F_K_wellOf w a0) 5 a2)) (-1))) (Int.tdiv a3 3))) + (F_N_partsUp n9 w a0 (a1 - 1) a2 (a3 - (2 * (Int.tdiv a3 3)))) else ((Int.tdiv a3 3) + (F_N_partsUp n9 w a0 (a1 - 1) (zz_and a2 (zz_xor (zz_shl 1 (F_K_comesUp w (F_K_wellOf w a0) 5 a2)) (-1))) (Int.tdiv a3 3))) + (F_N_partsUp n9 w a0 (a1 - 1) (zz_and a2 (zz_xor (zz_shl 1 (F_K_comesUp w (F_K_wellOf w a0) 7 a2)) (-1))) (a3 - (2 * (Int.tdiv a3 3)))) else if F_K_comesUp w (F_K_wellOf w a0) 3 a2 = (-1) then if F_K_comesUp w (F_K_wellOf w a0) 5 a2 = a0 then if F_K_comesUp w (F_K_wellOf w a0) 7 a2 = a0 then ((F_N_partsUp n9 w a0 (a1 - 1) a2 (Int.tdiv a3 3)) + (Int.tdiv a3 3)) + (a3 - (2 * (Int.tdiv a3 3))) else if F_K_comesUp w (F_K_wellOf w a0) 7 a2 = (-1) then ((F_N_partsUp n9 w a0 (a1 - 1) a2 (Int.tdiv a3 3)) + (Int.tdiv a3 3)) + (F_N_partsUp n9 w a0 (a1 - 1) a2 (a3 - (2 * (Int.tdiv a3 3)))) else ((F_N_partsUp n9 w a0 (a1 - 1) a2 (Int.tdiv a3 3)) + (Int.tdiv a3 3)) + (F_N_partsUp n9 w a0 (a1 - 1) (zz_and a2 (zz_xor (zz_shl 1 (F_K_comesUp w (F_K_wellOf w a0) 7 a2)) (-1))) (a3 - (2 * (Int.tdiv a3 3)))) else if F_K_comesUp w (F_K_wellOf w a0) 5 a2 = (-1) then if F_K_comesUp w (F_K_wellOf w a0) 7 a2 = a0 then ((F_N_partsUp n9 w a0 (a1 - 1) a2 (Int.tdiv a3 3)) + (F_N_partsUp n9 w a0 (a1 - 1) a2 (Int.tdiv a3 3))) + (a3 - (2 * (Int.tdiv a3 3))) else if F_K_comesUp w (F_K_wellOf w a0) 7 a2 = (-1) then ((F_N_partsUp n9 w a0 (a1 - 1) a2 (Int.tdiv a3 3)) + (F_N_partsUp n9 w a0 (a1 - 1) a2 (Int.tdiv a3 3))) + (F_N_partsUp n9 w a0 (a1 - 1) a2 (a3 - (2 * (Int.tdiv a3 3)))) else ((F_N_partsUp n9 w a0 (a1 - 1) a2 (Int.tdiv a3 3)) + (F_N_partsUp n9 w a0 (a1 - 1) a2 (Int.tdiv a3 3))) + (F_N_partsUp n9 w a0 (a1 - 1) (zz_and a2 (zz_xor (zz_shl 1 (F_K_comesUp w (F_K_wellOf w a0) 7 a2)) (-1))) (a3 - (2 * (Int.tdiv a3 3)))) else if F_K_comesUp w (F_K_wellOf w a0) 7 a2 = a0 then ((F_N_partsUp n9 w a0 (a1 - 1) a2 (Int.tdiv a3 3)) + (F_N_partsUp n9 w a0 (a1 - 1) (zz_and a2 (zz_xor (zz_shl 1 (F_K_comesUp w (F_K_wellOf w a0) 5 a2)) (-1))) (Int.tdiv a3 3))) + (a3 - (2 * (Int.tdiv a3 3))) else if F_K_comesUp w (F_K_wellOf w a0) 7 a2 = (-1) then ((F_N_partsUp n9 w a0 (a1 - 1) a2 (Int.tdiv a3 3)) + (F_N_partsUp n9 w a0 (a1 - 1) (zz_and a2 (zz_xor (zz_shl 1 (F_K_comesUp w (F_K_wellOf w a0) 5 a2)) (-1))) (Int.tdiv a3 3))) + (F_N_partsUp n9 w a0 (a1 - 1) a2 (a3 - (2 * (Int.tdiv a3 3)))) else ((F_N_partsUp n9 w a0 (a1 - 1) a2 (Int.tdiv a3 3)) + (F_N_partsUp n9 w a0 (a1 - 1) (zz_and a2 (zz_xor (zz_shl 1 (F_K_comesUp w (F_K_wellOf w a0) 5 a2)) (-1))) (Int.tdiv a3 3))) + (F_N_partsUp n9 w a0 (a1 - 1) (zz_and a2 (zz_xor (zz_shl 1 (F_K_comesUp w (F_K_wellOf w a0) 7 a2)) (-1))) (a3 - (2 * (Int.tdiv a3 3)))) else if F_K_comesUp w (F_K_wellOf w a0) 5 a2 = a0 then if F_K_comesUp w (F_K_wellOf w a0) 7 a2 = a0 then ((F_N_partsUp n9 w a0 (a1 - 1) (zz_and a2 (zz_xor (zz_shl 1 (F_K_comesUp w (F_K_wellOf w a0) 3 a2)) (-1))) (Int.tdiv a3 3)) + (Int.tdiv a3 3)) + (a3 - (2 * (Int.tdiv a3 3))) else if F_K_comesUp w (F_K_wellOf w a0) 7 a2 = (-1) then ((F_N_partsUp n9 w a0 (a1 - 1) (zz_and a2 (zz_xor (zz_shl 1 (F_K_comesUp w (F_K_wellOf w a0) 3 a2)) (-1))) (Int.tdiv a3 3)) + (Int.tdiv a3 3)) + (F_N_partsUp n9 w a0 (a1 - 1) a2 (a3 - (2 * (Int.tdiv a3 3)))) else ((F_N_partsUp n9 w a0 (a1 - 1) (zz_and a2 (zz_xor (zz_shl 1 (F_K_comesUp w (F_K_wellOf w a0) 3 a2)) (-1))) (Int.tdiv a3 3)) + (Int.tdiv a3 3)) + (F_N_partsUp n9 w a0 (a1 - 1) (zz_and a2 (zz_xor (zz_shl 1 (F_K_comesUp w (F_K_wellOf w a0) 7 a2)) (-1))) (a3 - (2 * (Int.tdiv a3 3)))) else if F_K_comesUp w (F_K_wellOf w a0) 5 a2 = (-1) then if F_K_comesUp w (F_K_wellOf w a0) 7 a2 = a0 then ((F_N_partsUp n9 w a0 (a1 - 1) (zz_and a2 (zz_xor (zz_shl 1 (F_K_comesUp w (F_K_wellOf w a0) 3 a2)) (-1))) (Int.tdiv a3 3)) + (F_N_partsUp n9 w a0 (a1 - 1) a2 (Int.tdiv a3 3))) + (a3 - (2 * (Int.tdiv a3 3))) else if F_K_comesUp w (F_K_wellOf w a0) 7 a2 = (-1) then ((F_N_partsUp n9 w a0 (a1 - 1) (zz_and a2 (zz_xor (zz_shl 1 (F_K_comesUp w (F_K_wellOf w a0) 3 a2)) (-1))) (Int.tdiv a3 3)) + (F_N_partsUp n9 w a0 (a1 - 1) a2 (Int.tdiv a3 3))) + (F_N_partsUp n9 w a0 (a1 - 1) a2 (a3 - (2 * (Int.tdiv a3 3)))) else ((F_N_partsUp n9 w a0 (a1 - 1) (zz_and a2 (zz_xor (zz_shl 1 (F_K_comesUp w (F_K_wellOf w a0) 3 a2)) (-1))) (Int.tdiv a3 3)) + (F_N_partsUp n9 w a0 (a1 - 1) a2 (Int.tdiv a3 3))) + (F_N_partsUp n9 w a0 (a1 - 1) (zz_and a2 (zz_xor (zz_shl 1 (F_K_comesUp w (F_K_wellOf w a0) 7 a2)) (-1))) (a3 - (2 * (Int.tdiv a3 3)))) else if F_K_comesUp w (F_K_wellOf w a0) 7 a2 = a0 then ((F_N_partsUp n9 w a0 (a1 - 1) (zz_and a2 (zz_xor (zz_shl 1 (F_K_comesUp w (F_K_wellOf w a0) 3 a2)) (-1))) (Int.tdiv a3 3)) + (F_N_partsUp n9 w a0 (a1 - 1) (zz_and a2 (zz_xor (zz_shl 1 (F_K_comesUp w (F_K_wellOf w a0) 5 a2)) (-1))) (Int.tdiv a3 3))) + (a3 - (2 * (Int.tdiv a3 3))) else if F_K_comesUp w (F_K_wellOf w a0) 7 a2 = (-1) then ((F_N_partsUp n9 w a0 (a1 - 1) (zz_and a2 (zz_xor (zz_shl 1 (F_K_comesUp w (F_K_wellOf w a0) 3 a2)) (-1))) (Int.tdiv a3 3)) + (F_N_partsUp n9 w a0 (a1 - 1) (zz_and a2 (zz_xor (zz_shl 1 (F_K_comesUp w (F_K_wellOf w a0) 5 a2)) (-1))) (Int.tdiv a3 3))) + (F_N_partsUp n9 w a0 (a1 - 1) a2 (a3 - (2 * (Int.tdiv a3 3)))) else ((F_N_partsUp n9 w a0 (a1 - 1) (zz_and a2 (zz_xor (zz_shl 1 (F_K_comesUp w (F_K_wellOf w a0) 3 a2)) (-1))) (Int.tdiv a3 3)) + (F_N_partsUp n9 w a0 (a1 - 1) (zz_and a2 (zz_xor (zz_shl 1 (F_K_comesUp w (F_K_wellOf w a0) 5 a2)) (-1))) (Int.tdiv a3 3))) + (F_N_partsUp n9 w a0 (a1 - 1) (zz_and a2 (zz_xor (zz_shl 1 (F_K_comesUp w (F_K_wellOf w a0) 7 a2)) (-1))) (a3 - (2 * (Int.tdiv a3 3)))) else 0))) w := k
    refine z_enter rfl (Nat.le_of_ble_eq_true rfl) ?_
    show z_Wp m_X8_partsUp _ 0 [(0, zR 76), (1, zI a0), (2, zI a1), (3, zI a2), (4, zI a3)] [] w _
    refine z_iload_n (pc' := 1) 2 rfl rfl dX8_partsUp_0 rfl ?_
    obtain ⟨r1, h⟩ := h
    refine z_if_gt 6 dX8_partsUp_1 (by decide) (pc' := 4) rfl r1 (fun c => ?_) (fun c => ?_)
    · have h := h.1 c
      rw [if_pos c] at k
      refine z_iload (pc' := 8) 4 rfl dX8_partsUp_6 rfl ?_
      refine z_iconst (pc' := 9) dX8_partsUp_8 rfl ?_
      obtain ⟨r2, h⟩ := h
      refine z_idiv (pc' := 10) r2 (by decide) (by decide) dX8_partsUp_9 rfl ?_
      refine z_istore (pc' := 12) (ls' := [(0, zR 76), (1, zI a0), (2, zI a1), (3, zI a2), (4, zI a3), (5, zI (Int.tdiv a3 3))]) (by decide) rfl rfl dX8_partsUp_10 rfl ?_
      refine z_aload_n (pc' := 13) 0 rfl rfl dX8_partsUp_12 rfl ?_
      refine z_iconst (pc' := 14) dX8_partsUp_13 rfl ?_
      refine z_iload_n (pc' := 15) 1 rfl rfl dX8_partsUp_14 rfl ?_
      refine z_iload_n (pc' := 16) 2 rfl rfl dX8_partsUp_15 rfl ?_
      refine z_iload_n (pc' := 17) 3 rfl rfl dX8_partsUp_16 rfl ?_
      refine z_iload (pc' := 19) 5 rfl dX8_partsUp_17 rfl ?_
      refine z_invV (as := [zI 3, zI a0, zI a1, zI a2, zI (Int.tdiv a3 3)]) (st := []) (C := m_X8_partsUpBy) (fs := [32, 43, 79]) (pc' := 22) dX8_partsUp_19 rfl t_5_105 k_X8_partsUpBy rfl (by decide) rfl rfl rfl rfl (Nat.le_of_ble_eq_true rfl) ?_
      refine z_enter rfl (Nat.le_of_ble_eq_true rfl) ?_
      show z_Wp m_X8_partsUpBy _ 0 [(0, zR 76), (1, zI 3), (2, zI a0), (3, zI a1), (4, zI a2), (5, zI (Int.tdiv a3 3))] [] w _
      refine z_aload_n (pc' := 1) 0 rfl rfl dX8_partsUpBy_0 rfl ?_
      refine z_getR (t := 41) (pc' := 4) g_X8_19 (by decide) rfl rfl dX8_partsUpBy_1 rfl ?_
      refine z_aload_n (pc' := 5) 0 rfl rfl dX8_partsUpBy_4 rfl ?_
      refine z_getR (t := 41) (pc' := 8) g_X8_19 (by decide) rfl rfl dX8_partsUpBy_5 rfl ?_
      refine z_iload_n (pc' := 9) 2 rfl rfl dX8_partsUpBy_8 rfl ?_
      refine z_invV (as := [zI a0]) (st := [zR 41]) (C := m_X3_wellOf) (fs := [32, 44, 45, 46, 47, 48, 0, 0, 0]) (pc' := 12) dX8_partsUpBy_9 rfl t_5_109 k_X3_wellOf rfl (by decide) rfl rfl rfl rfl (Nat.le_of_ble_eq_true rfl) ?_
      obtain ⟨r1003, h⟩ := h
      refine c_K_wellOf r1003 ?_
      show z_Wp m_X8_partsUpBy _ 12 [(0, zR 76), (1, zI 3), (2, zI a0), (3, zI a1), (4, zI a2), (5, zI (Int.tdiv a3 3))] [zI (F_K_wellOf w a0), zR 41] w _
      refine z_iload_n (pc' := 13) 1 rfl rfl dX8_partsUpBy_12 rfl ?_
      refine z_iload (pc' := 15) 4 rfl dX8_partsUpBy_13 rfl ?_
      refine z_invV (as := [zI (F_K_wellOf w a0), zI 3, zI a2]) (st := []) (C := m_X3_comesUp) (fs := [32, 44, 45, 46, 47, 48, 0, 0, 0]) (pc' := 18) dX8_partsUpBy_15 rfl t_5_71 k_X3_comesUp rfl (by decide) rfl rfl rfl rfl (Nat.le_of_ble_eq_true rfl) ?_
      obtain ⟨r1004, h⟩ := h
      refine c_K_comesUp r1004 ?_
      show z_Wp m_X8_partsUpBy _ 18 [(0, zR 76), (1, zI 3), (2, zI a0), (3, zI a1), (4, zI a2), (5, zI (Int.tdiv a3 3))] [zI (F_K_comesUp w (F_K_wellOf w a0) 3 a2)] w _
      refine z_istore (pc' := 20) (ls' := [(0, zR 76), (1, zI 3), (2, zI a0), (3, zI a1), (4, zI a2), (5, zI (Int.tdiv a3 3)), (6, zI (F_K_comesUp w (F_K_wellOf w a0) 3 a2))]) (by decide) rfl rfl dX8_partsUpBy_18 rfl ?_
      refine z_iload (pc' := 22) 6 rfl dX8_partsUpBy_20 rfl ?_
      refine z_iload_n (pc' := 23) 2 rfl rfl dX8_partsUpBy_22 rfl ?_
      obtain ⟨r1005, h⟩ := h
      obtain ⟨r1006, h⟩ := h
      refine z_icmp_ne 29 dX8_partsUpBy_23 (by decide) (pc' := 26) rfl r1005 r1006 (fun c => ?_) (fun c => ?_)
      · have h := h.2 c
        rw [if_neg c] at k
        refine z_iload (pc' := 31) 6 rfl dX8_partsUpBy_29 rfl ?_
        refine z_iconst (pc' := 32) dX8_partsUpBy_31 rfl ?_
        refine z_icmp_ne 40 dX8_partsUpBy_32 (by decide) (pc' := 35) rfl r1005 (by decide) (fun c => ?_) (fun c => ?_)
        · have h := h.2 c
          rw [if_neg c] at k
          refine z_iload (pc' := 42) 4 rfl dX8_partsUpBy_40 rfl ?_
          refine z_iconst (pc' := 43) dX8_partsUpBy_42 rfl ?_
          refine z_iload (pc' := 45) 6 rfl dX8_partsUpBy_43 rfl ?_
          refine z_ishl (pc' := 46) dX8_partsUpBy_45 rfl ?_
          refine z_iconst (pc' := 47) dX8_partsUpBy_46 rfl ?_
          refine z_ixor (pc' := 48) dX8_partsUpBy_47 rfl ?_
          refine z_iand (pc' := 49) dX8_partsUpBy_48 rfl ?_
          refine z_istore (pc' := 51) (ls' := [(0, zR 76), (1, zI 3), (2, zI a0), (3, zI a1), (4, zI a2), (5, zI (Int.tdiv a3 3)), (6, zI (F_K_comesUp w (F_K_wellOf w a0) 3 a2)), (7, zI (zz_and a2 (zz_xor (zz_shl 1 (F_K_comesUp w (F_K_wellOf w a0) 3 a2)) (-1))))]) (by decide) rfl rfl dX8_partsUpBy_49 rfl ?_
          refine z_aload_n (pc' := 52) 0 rfl rfl dX8_partsUpBy_51 rfl ?_
          refine z_iload_n (pc' := 53) 2 rfl rfl dX8_partsUpBy_52 rfl ?_
          refine z_iload_n (pc' := 54) 3 rfl rfl dX8_partsUpBy_53 rfl ?_
          refine z_iconst (pc' := 55) dX8_partsUpBy_54 rfl ?_
          refine z_isub (pc' := 56) dX8_partsUpBy_55 rfl ?_
          refine z_iload (pc' := 58) 7 rfl dX8_partsUpBy_56 rfl ?_
          refine z_iload (pc' := 60) 5 rfl dX8_partsUpBy_58 rfl ?_
          refine z_invV (as := [zI a0, zI (a1 - 1), zI (zz_and a2 (zz_xor (zz_shl 1 (F_K_comesUp w (F_K_wellOf w a0) 3 a2)) (-1))), zI (Int.tdiv a3 3)]) (st := []) (C := m_X8_partsUp) (fs := [32, 43, 79]) (pc' := 63) dX8_partsUpBy_60 rfl t_5_110 k_X8_partsUp rfl (by decide) rfl rfl rfl rfl (Nat.le_of_ble_eq_true rfl) ?_
          obtain ⟨r1007, h⟩ := h
          refine z_dcast (d' := d + 2 * n9 + 5) (by omega) (ihr r1007 ?_)
          show z_Wp m_X8_partsUpBy _ 63 [(0, zR 76), (1, zI 3), (2, zI a0), (3, zI a1), (4, zI a2), (5, zI (Int.tdiv a3 3)), (6, zI (F_K_comesUp w (F_K_wellOf w a0) 3 a2)), (7, zI (zz_and a2 (zz_xor (zz_shl 1 (F_K_comesUp w (F_K_wellOf w a0) 3 a2)) (-1))))] [zI (F_N_partsUp n9 w a0 (a1 - 1) (zz_and a2 (zz_xor (zz_shl 1 (F_K_comesUp w (F_K_wellOf w a0) 3 a2)) (-1))) (Int.tdiv a3 3))] w _
          refine z_iret rfl dX8_partsUpBy_63 ?_
          show z_Wp m_X8_partsUp _ 22 [(0, zR 76), (1, zI a0), (2, zI a1), (3, zI a2), (4, zI a3), (5, zI (Int.tdiv a3 3))] [zI (F_N_partsUp n9 w a0 (a1 - 1) (zz_and a2 (zz_xor (zz_shl 1 (F_K_comesUp w (F_K_wellOf w a0) 3 a2)) (-1))) (Int.tdiv a3 3))] w _
          refine z_aload_n (pc' := 23) 0 rfl rfl dX8_partsUp_22 rfl ?_
          refine z_iconst (pc' := 24) dX8_partsUp_23 rfl ?_
          refine z_iload_n (pc' := 25) 1 rfl rfl dX8_partsUp_24 rfl ?_
          refine z_iload_n (pc' := 26) 2 rfl rfl dX8_partsUp_25 rfl ?_
          refine z_iload_n (pc' := 27) 3 rfl rfl dX8_partsUp_26 rfl ?_
          refine z_iload (pc' := 29) 5 rfl dX8_partsUp_27 rfl ?_
          refine z_invV (as := [zI 5, zI a0, zI a1, zI a2, zI (Int.tdiv a3 3)]) (st := [zI (F_N_partsUp n9 w a0 (a1 - 1) (zz_and a2 (zz_xor (zz_shl 1 (F_K_comesUp w (F_K_wellOf w a0) 3 a2)) (-1))) (Int.tdiv a3 3))]) (C := m_X8_partsUpBy) (fs := [32, 43, 79]) (pc' := 32) dX8_partsUp_29 rfl t_5_105 k_X8_partsUpBy rfl (by decide) rfl rfl rfl rfl (Nat.le_of_ble_eq_true rfl) ?_
          refine z_enter rfl (Nat.le_of_ble_eq_true rfl) ?_
          show z_Wp m_X8_partsUpBy _ 0 [(0, zR 76), (1, zI 5), (2, zI a0), (3, zI a1), (4, zI a2), (5, zI (Int.tdiv a3 3))] [] w _
          refine z_aload_n (pc' := 1) 0 rfl rfl dX8_partsUpBy_0 rfl ?_
          refine z_getR (t := 41) (pc' := 4) g_X8_19 (by decide) rfl rfl dX8_partsUpBy_1 rfl ?_
          refine z_aload_n (pc' := 5) 0 rfl rfl dX8_partsUpBy_4 rfl ?_
          refine z_getR (t := 41) (pc' := 8) g_X8_19 (by decide) rfl rfl dX8_partsUpBy_5 rfl ?_
          refine z_iload_n (pc' := 9) 2 rfl rfl dX8_partsUpBy_8 rfl ?_
          refine z_invV (as := [zI a0]) (st := [zR 41]) (C := m_X3_wellOf) (fs := [32, 44, 45, 46, 47, 48, 0, 0, 0]) (pc' := 12) dX8_partsUpBy_9 rfl t_5_109 k_X3_wellOf rfl (by decide) rfl rfl rfl rfl (Nat.le_of_ble_eq_true rfl) ?_
          refine c_K_wellOf r1003 ?_
          show z_Wp m_X8_partsUpBy _ 12 [(0, zR 76), (1, zI 5), (2, zI a0), (3, zI a1), (4, zI a2), (5, zI (Int.tdiv a3 3))] [zI (F_K_wellOf w a0), zR 41] w _
          refine z_iload_n (pc' := 13) 1 rfl rfl dX8_partsUpBy_12 rfl ?_
          refine z_iload (pc' := 15) 4 rfl dX8_partsUpBy_13 rfl ?_
          refine z_invV (as := [zI (F_K_wellOf w a0), zI 5, zI a2]) (st := []) (C := m_X3_comesUp) (fs := [32, 44, 45, 46, 47, 48, 0, 0, 0]) (pc' := 18) dX8_partsUpBy_15 rfl t_5_71 k_X3_comesUp rfl (by decide) rfl rfl rfl rfl (Nat.le_of_ble_eq_true rfl) ?_
          obtain ⟨r2010, h⟩ := h
          refine c_K_comesUp r2010 ?_
          show z_Wp m_X8_partsUpBy _ 18 [(0, zR 76), (1, zI 5), (2, zI a0), (3, zI a1), (4, zI a2), (5, zI (Int.tdiv a3 3))] [zI (F_K_comesUp w (F_K_wellOf w a0) 5 a2)] w _
          refine z_istore (pc' := 20) (ls' := [(0, zR 76), (1, zI 5), (2, zI a0), (3, zI a1), (4, zI a2), (5, zI (Int.tdiv a3 3)), (6, zI (F_K_comesUp w (F_K_wellOf w a0) 5 a2))]) (by decide) rfl rfl dX8_partsUpBy_18 rfl ?_
          refine z_iload (pc' := 22) 6 rfl dX8_partsUpBy_20 rfl ?_
          refine z_iload_n (pc' := 23) 2 rfl rfl dX8_partsUpBy_22 rfl ?_
          obtain ⟨r2011, h⟩ := h
          refine z_icmp_ne 29 dX8_partsUpBy_23 (by decide) (pc' := 26) rfl r2011 r1006 (fun c => ?_) (fun c => ?_)
          · have h := h.2 c
            rw [if_neg c] at k
            refine z_iload (pc' := 31) 6 rfl dX8_partsUpBy_29 rfl ?_
            refine z_iconst (pc' := 32) dX8_partsUpBy_31 rfl ?_
            refine z_icmp_ne 40 dX8_partsUpBy_32 (by decide) (pc' := 35) rfl r2011 (by decide) (fun c => ?_) (fun c => ?_)
            · have h := h.2 c
              rw [if_neg c] at k
              refine z_iload (pc' := 42) 4 rfl dX8_partsUpBy_40 rfl ?_
              refine z_iconst (pc' := 43) dX8_partsUpBy_42 rfl ?_
              refine z_iload (pc' := 45) 6 rfl dX8_partsUpBy_43 rfl ?_
              refine z_ishl (pc' := 46) dX8_partsUpBy_45 rfl ?_
              refine z_iconst (pc' := 47) dX8_partsUpBy_46 rfl ?_
              refine z_ixor (pc' := 48) dX8_partsUpBy_47 rfl ?_
              refine z_iand (pc' := 49) dX8_partsUpBy_48 rfl ?_
              refine z_istore (pc' := 51) (ls' := [(0, zR 76), (1, zI 5), (2, zI a0), (3, zI a1), (4, zI a2), (5, zI (Int.tdiv a3 3)), (6, zI (F_K_comesUp w (F_K_wellOf w a0) 5 a2)), (7, zI (zz_and a2 (zz_xor (zz_shl 1 (F_K_comesUp w (F_K_wellOf w a0) 5 a2)) (-1))))]) (by decide) rfl rfl dX8_partsUpBy_49 rfl ?_
              refine z_aload_n (pc' := 52) 0 rfl rfl dX8_partsUpBy_51 rfl ?_
              refine z_iload_n (pc' := 53) 2 rfl rfl dX8_partsUpBy_52 rfl ?_
              refine z_iload_n (pc' := 54) 3 rfl rfl dX8_partsUpBy_53 rfl ?_
              refine z_iconst (pc' := 55) dX8_partsUpBy_54 rfl ?_
              refine z_isub (pc' := 56) dX8_partsUpBy_55 rfl ?_
              refine z_iload (pc' := 58) 7 rfl dX8_partsUpBy_56 rfl ?_
              refine z_iload (pc' := 60) 5 rfl dX8_partsUpBy_58 rfl ?_
              refine z_invV (as := [zI a0, zI (a1 - 1), zI (zz_and a2 (zz_xor (zz_shl 1 (F_K_comesUp w (F_K_wellOf w a0) 5 a2)) (-1))), zI (Int.tdiv a3 3)]) (st := []) (C := m_X8_partsUp) (fs := [32, 43, 79]) (pc' := 63) dX8_partsUpBy_60 rfl t_5_110 k_X8_partsUp rfl (by decide) rfl rfl rfl rfl (Nat.le_of_ble_eq_true rfl) ?_
              obtain ⟨r2012, h⟩ := h
              refine z_dcast (d' := d + 2 * n9 + 5) (by omega) (ihr r2012 ?_)
              show z_Wp m_X8_partsUpBy _ 63 [(0, zR 76), (1, zI 5), (2, zI a0), (3, zI a1), (4, zI a2), (5, zI (Int.tdiv a3 3)), (6, zI (F_K_comesUp w (F_K_wellOf w a0) 5 a2)), (7, zI (zz_and a2 (zz_xor (zz_shl 1 (F_K_comesUp w (F_K_wellOf w a0) 5 a2)) (-1))))] [zI (F_N_partsUp n9 w a0 (a1 - 1) (zz_and a2 (zz_xor (zz_shl 1 (F_K_comesUp w (F_K_wellOf w a0) 5 a2)) (-1))) (Int.tdiv a3 3))] w _
              refine z_iret rfl dX8_partsUpBy_63 ?_
              show z_Wp m_X8_partsUp _ 32 [(0, zR 76), (1, zI a0), (2, zI a1), (3, zI a2), (4, zI a3), (5, zI (Int.tdiv a3 3))] [zI (F_N_partsUp n9 w a0 (a1 - 1) (zz_and a2 (zz_xor (zz_shl 1 (F_K_comesUp w (F_K_wellOf w a0) 5 a2)) (-1))) (Int.tdiv a3 3)), zI (F_N_partsUp n9 w a0 (a1 - 1) (zz_and a2 (zz_xor (zz_shl 1 (F_K_comesUp w (F_K_wellOf w a0) 3 a2)) (-1))) (Int.tdiv a3 3))] w _
              refine z_iadd (pc' := 33) dX8_partsUp_32 rfl ?_
              refine z_aload_n (pc' := 34) 0 rfl rfl dX8_partsUp_33 rfl ?_
              refine z_bipush (pc' := 36) (by decide) dX8_partsUp_34 rfl ?_
              refine z_iload_n (pc' := 37) 1 rfl rfl dX8_partsUp_36 rfl ?_
              refine z_iload_n (pc' := 38) 2 rfl rfl dX8_partsUp_37 rfl ?_
              refine z_iload_n (pc' := 39) 3 rfl rfl dX8_partsUp_38 rfl ?_
              refine z_iload (pc' := 41) 4 rfl dX8_partsUp_39 rfl ?_
              refine z_iconst (pc' := 42) dX8_partsUp_41 rfl ?_
              refine z_iload (pc' := 44) 5 rfl dX8_partsUp_42 rfl ?_
              refine z_imul (pc' := 45) dX8_partsUp_44 rfl ?_
              refine z_isub (pc' := 46) dX8_partsUp_45 rfl ?_
              refine z_invV (as := [zI 7, zI a0, zI a1, zI a2, zI (a3 - (2 * (Int.tdiv a3 3)))]) (st := [zI ((F_N_partsUp n9 w a0 (a1 - 1) (zz_and a2 (zz_xor (zz_shl 1 (F_K_comesUp w (F_K_wellOf w a0) 3 a2)) (-1))) (Int.tdiv a3 3)) + (F_N_partsUp n9 w a0 (a1 - 1) (zz_and a2 (zz_xor (zz_shl 1 (F_K_comesUp w (F_K_wellOf w a0) 5 a2)) (-1))) (Int.tdiv a3 3)))]) (C := m_X8_partsUpBy) (fs := [32, 43, 79]) (pc' := 49) dX8_partsUp_46 rfl t_5_105 k_X8_partsUpBy rfl (by decide) rfl rfl rfl rfl (Nat.le_of_ble_eq_true rfl) ?_
              refine z_enter rfl (Nat.le_of_ble_eq_true rfl) ?_
              show z_Wp m_X8_partsUpBy _ 0 [(0, zR 76), (1, zI 7), (2, zI a0), (3, zI a1), (4, zI a2), (5, zI (a3 - (2 * (Int.tdiv a3 3))))] [] w _
              refine z_aload_n (pc' := 1) 0 rfl rfl dX8_partsUpBy_0 rfl ?_
              refine z_getR (t := 41) (pc' := 4) g_X8_19 (by decide) rfl rfl dX8_partsUpBy_1 rfl ?_
              refine z_aload_n (pc' := 5) 0 rfl rfl dX8_partsUpBy_4 rfl ?_
              refine z_getR (t := 41) (pc' := 8) g_X8_19 (by decide) rfl rfl dX8_partsUpBy_5 rfl ?_
              refine z_iload_n (pc' := 9) 2 rfl rfl dX8_partsUpBy_8 rfl ?_
              refine z_invV (as := [zI a0]) (st := [zR 41]) (C := m_X3_wellOf) (fs := [32, 44, 45, 46, 47, 48, 0, 0, 0]) (pc' := 12) dX8_partsUpBy_9 rfl t_5_109 k_X3_wellOf rfl (by decide) rfl rfl rfl rfl (Nat.le_of_ble_eq_true rfl) ?_
              refine c_K_wellOf r1003 ?_
              show z_Wp m_X8_partsUpBy _ 12 [(0, zR 76), (1, zI 7), (2, zI a0), (3, zI a1), (4, zI a2), (5, zI (a3 - (2 * (Int.tdiv a3 3))))] [zI (F_K_wellOf w a0), zR 41] w _
              refine z_iload_n (pc' := 13) 1 rfl rfl dX8_partsUpBy_12 rfl ?_
              refine z_iload (pc' := 15) 4 rfl dX8_partsUpBy_13 rfl ?_
              refine z_invV (as := [zI (F_K_wellOf w a0), zI 7, zI a2]) (st := []) (C := m_X3_comesUp) (fs := [32, 44, 45, 46, 47, 48, 0, 0, 0]) (pc' := 18) dX8_partsUpBy_15 rfl t_5_71 k_X3_comesUp rfl (by decide) rfl rfl rfl rfl (Nat.le_of_ble_eq_true rfl) ?_
              obtain ⟨r3015, h⟩ := h
              refine c_K_comesUp r3015 ?_
              show z_Wp m_X8_partsUpBy _ 18 [(0, zR 76), (1, zI 7), (2, zI a0), (3, zI a1), (4, zI a2), (5, zI (a3 - (2 * (Int.tdiv a3 3))))] [zI (F_K_comesUp w (F_K_wellOf w a0) 7 a2)] w _
              refine z_istore (pc' := 20) (ls' := [(0, zR 76), (1, zI 7), (2, zI a0), (3, zI a1), (4, zI a2), (5, zI (a3 - (2 * (Int.tdiv a3 3)))), (6, zI (F_K_comesUp w (F_K_wellOf w a0) 7 a2))]) (by decide) rfl rfl dX8_partsUpBy_18 rfl ?_
              refine z_iload (pc' := 22) 6 rfl dX8_partsUpBy_20 rfl ?_
              refine z_iload_n (pc' := 23) 2 rfl rfl dX8_partsUpBy_22 rfl ?_
              obtain ⟨r3016, h⟩ := h
              refine z_icmp_ne 29 dX8_partsUpBy_23 (by decide) (pc' := 26) rfl r3016 r1006 (fun c => ?_) (fun c => ?_)
              · have h := h.2 c
                rw [if_neg c] at k
                refine z_iload (pc' := 31) 6 rfl dX8_partsUpBy_29 rfl ?_
                refine z_iconst (pc' := 32) dX8_partsUpBy_31 rfl ?_
                refine z_icmp_ne 40 dX8_partsUpBy_32 (by decide) (pc' := 35) rfl r3016 (by decide) (fun c => ?_) (fun c => ?_)
                · have h := h.2 c
                  rw [if_neg c] at k
                  refine z_iload (pc' := 42) 4 rfl dX8_partsUpBy_40 rfl ?_
                  refine z_iconst (pc' := 43) dX8_partsUpBy_42 rfl ?_
                  refine z_iload (pc' := 45) 6 rfl dX8_partsUpBy_43 rfl ?_
                  refine z_ishl (pc' := 46) dX8_partsUpBy_45 rfl ?_
                  refine z_iconst (pc' := 47) dX8_partsUpBy_46 rfl ?_
                  refine z_ixor (pc' := 48) dX8_partsUpBy_47 rfl ?_
                  refine z_iand (pc' := 49) dX8_partsUpBy_48 rfl ?_
                  refine z_istore (pc' := 51) (ls' := [(0, zR 76), (1, zI 7), (2, zI a0), (3, zI a1), (4, zI a2), (5, zI (a3 - (2 * (Int.tdiv a3 3)))), (6, zI (F_K_comesUp w (F_K_wellOf w a0) 7 a2)), (7, zI (zz_and a2 (zz_xor (zz_shl 1 (F_K_comesUp w (F_K_wellOf w a0) 7 a2)) (-1))))]) (by decide) rfl rfl dX8_partsUpBy_49 rfl ?_
                  refine z_aload_n (pc' := 52) 0 rfl rfl dX8_partsUpBy_51 rfl ?_
                  refine z_iload_n (pc' := 53) 2 rfl rfl dX8_partsUpBy_52 rfl ?_
                  refine z_iload_n (pc' := 54) 3 rfl rfl dX8_partsUpBy_53 rfl ?_
                  refine z_iconst (pc' := 55) dX8_partsUpBy_54 rfl ?_
                  refine z_isub (pc' := 56) dX8_partsUpBy_55 rfl ?_
                  refine z_iload (pc' := 58) 7 rfl dX8_partsUpBy_56 rfl ?_
                  refine z_iload (pc' := 60) 5 rfl dX8_partsUpBy_58 rfl ?_
                  refine z_invV (as := [zI a0, zI (a1 - 1), zI (zz_and a2 (zz_xor (zz_shl 1 (F_K_comesUp w (F_K_wellOf w a0) 7 a2)) (-1))), zI (a3 - (2 * (Int.tdiv a3 3)))]) (st := []) (C := m_X8_partsUp) (fs := [32, 43, 79]) (pc' := 63) dX8_partsUpBy_60 rfl t_5_110 k_X8_partsUp rfl (by decide) rfl rfl rfl rfl (Nat.le_of_ble_eq_true rfl) ?_
                  have r3017 := h
                  refine z_dcast (d' := d + 2 * n9 + 5) (by omega) (ihr r3017 ?_)
                  show z_Wp m_X8_partsUpBy _ 63 [(0, zR 76), (1, zI 7), (2, zI a0), (3, zI a1), (4, zI a2), (5, zI (a3 - (2 * (Int.tdiv a3 3)))), (6, zI (F_K_comesUp w (F_K_wellOf w a0) 7 a2)), (7, zI (zz_and a2 (zz_xor (zz_shl 1 (F_K_comesUp w (F_K_wellOf w a0) 7 a2)) (-1))))] [zI (F_N_partsUp n9 w a0 (a1 - 1) (zz_and a2 (zz_xor (zz_shl 1 (F_K_comesUp w (F_K_wellOf w a0) 7 a2)) (-1))) (a3 - (2 * (Int.tdiv a3 3))))] w _
                  refine z_iret rfl dX8_partsUpBy_63 ?_
                  show z_Wp m_X8_partsUp _ 49 [(0, zR 76), (1, zI a0), (2, zI a1), (3, zI a2), (4, zI a3), (5, zI (Int.tdiv a3 3))] [zI (F_N_partsUp n9 w a0 (a1 - 1) (zz_and a2 (zz_xor (zz_shl 1 (F_K_comesUp w (F_K_wellOf w a0) 7 a2)) (-1))) (a3 - (2 * (Int.tdiv a3 3)))), zI ((F_N_partsUp n9 w a0 (a1 - 1) (zz_and a2 (zz_xor (zz_shl 1 (F_K_comesUp w (F_K_wellOf w a0) 3 a2)) (-1))) (Int.tdiv a3 3)) + (F_N_partsUp n9 w a0 (a1 - 1) (zz_and a2 (zz_xor (zz_shl 1 (F_K_comesUp w (F_K_wellOf w a0) 5 a2)) (-1))) (Int.tdiv a3 3)))] w _
                  refine z_iadd (pc' := 50) dX8_partsUp_49 rfl ?_
                  refine z_iret rfl dX8_partsUp_50 ?_
                  exact k
                · have h := h.1 c
                  rw [if_pos c] at k
                  refine z_iload (pc' := 37) 4 rfl dX8_partsUpBy_35 rfl ?_
                  refine z_goto 49 dX8_partsUpBy_37 (by decide) ?_
                  refine z_istore (pc' := 51) (ls' := [(0, zR 76), (1, zI 7), (2, zI a0), (3, zI a1), (4, zI a2), (5, zI (a3 - (2 * (Int.tdiv a3 3)))), (6, zI (F_K_comesUp w (F_K_wellOf w a0) 7 a2)), (7, zI a2)]) (by decide) rfl rfl dX8_partsUpBy_49 rfl ?_
                  refine z_aload_n (pc' := 52) 0 rfl rfl dX8_partsUpBy_51 rfl ?_
                  refine z_iload_n (pc' := 53) 2 rfl rfl dX8_partsUpBy_52 rfl ?_
                  refine z_iload_n (pc' := 54) 3 rfl rfl dX8_partsUpBy_53 rfl ?_
                  refine z_iconst (pc' := 55) dX8_partsUpBy_54 rfl ?_
                  refine z_isub (pc' := 56) dX8_partsUpBy_55 rfl ?_
                  refine z_iload (pc' := 58) 7 rfl dX8_partsUpBy_56 rfl ?_
                  refine z_iload (pc' := 60) 5 rfl dX8_partsUpBy_58 rfl ?_
                  refine z_invV (as := [zI a0, zI (a1 - 1), zI a2, zI (a3 - (2 * (Int.tdiv a3 3)))]) (st := []) (C := m_X8_partsUp) (fs := [32, 43, 79]) (pc' := 63) dX8_partsUpBy_60 rfl t_5_110 k_X8_partsUp rfl (by decide) rfl rfl rfl rfl (Nat.le_of_ble_eq_true rfl) ?_
                  have r3018 := h
                  refine z_dcast (d' := d + 2 * n9 + 5) (by omega) (ihr r3018 ?_)
                  show z_Wp m_X8_partsUpBy _ 63 [(0, zR 76), (1, zI 7), (2, zI a0), (3, zI a1), (4, zI a2), (5, zI (a3 - (2 * (Int.tdiv a3 3)))), (6, zI (F_K_comesUp w (F_K_wellOf w a0) 7 a2)), (7, zI a2)] [zI (F_N_partsUp n9 w a0 (a1 - 1) a2 (a3 - (2 * (Int.tdiv a3 3))))] w _
                  refine z_iret rfl dX8_partsUpBy_63 ?_
                  show z_Wp m_X8_partsUp _ 49 [(0, zR 76), (1, zI a0), (2, zI a1), (3, zI a2), (4, zI a3), (5, zI (Int.tdiv a3 3))] [zI (F_N_partsUp n9 w a0 (a1 - 1) a2 (a3 - (2 * (Int.tdiv a3 3)))), zI ((F_N_partsUp n9 w a0 (a1 - 1) (zz_and a2 (zz_xor (zz_shl 1 (F_K_comesUp w (F_K_wellOf w a0) 3 a2)) (-1))) (Int.tdiv a3 3)) + (F_N_partsUp n9 w a0 (a1 - 1) (zz_and a2 (zz_xor (zz_shl 1 (F_K_comesUp w (F_K_wellOf w a0) 5 a2)) (-1))) (Int.tdiv a3 3)))] w _
                  refine z_iadd (pc' := 50) dX8_partsUp_49 rfl ?_
                  refine z_iret rfl dX8_partsUp_50 ?_
                  exact k
              · have h := h.1 c
                rw [if_pos c] at k
                refine z_iload (pc' := 28) 5 rfl dX8_partsUpBy_26 rfl ?_
                refine z_iret rfl dX8_partsUpBy_28 ?_
                show z_Wp m_X8_partsUp _ 49 [(0, zR 76), (1, zI a0), (2, zI a1), (3, zI a2), (4, zI a3), (5, zI (Int.tdiv a3 3))] [zI (a3 - (2 * (Int.tdiv a3 3))), zI ((F_N_partsUp n9 w a0 (a1 - 1) (zz_and a2 (zz_xor (zz_shl 1 (F_K_comesUp w (F_K_wellOf w a0) 3 a2)) (-1))) (Int.tdiv a3 3)) + (F_N_partsUp n9 w a0 (a1 - 1) (zz_and a2 (zz_xor (zz_shl 1 (F_K_comesUp w (F_K_wellOf w a0) 5 a2)) (-1))) (Int.tdiv a3 3)))] w _
                refine z_iadd (pc' := 50) dX8_partsUp_49 rfl ?_
                refine z_iret rfl dX8_partsUp_50 ?_
                exact k
            · have h := h.1 c
              rw [if_pos c] at k
              refine z_iload (pc' := 37) 4 rfl dX8_partsUpBy_35 rfl ?_
              refine z_goto 49 dX8_partsUpBy_37 (by decide) ?_
              refine z_istore (pc' := 51) (ls' := [(0, zR 76), (1, zI 5), (2, zI a0), (3, zI a1), (4, zI a2), (5, zI (Int.tdiv a3 3)), (6, zI (F_K_comesUp w (F_K_wellOf w a0) 5 a2)), (7, zI a2)]) (by decide) rfl rfl dX8_partsUpBy_49 rfl ?_
              refine z_aload_n (pc' := 52) 0 rfl rfl dX8_partsUpBy_51 rfl ?_
              refine z_iload_n (pc' := 53) 2 rfl rfl dX8_partsUpBy_52 rfl ?_
              refine z_iload_n (pc' := 54) 3 rfl rfl dX8_partsUpBy_53 rfl ?_
              refine z_iconst (pc' := 55) dX8_partsUpBy_54 rfl ?_
              refine z_isub (pc' := 56) dX8_partsUpBy_55 rfl ?_
              refine z_iload (pc' := 58) 7 rfl dX8_partsUpBy_56 rfl ?_
              refine z_iload (pc' := 60) 5 rfl dX8_partsUpBy_58 rfl ?_
              refine z_invV (as := [zI a0, zI (a1 - 1), zI a2, zI (Int.tdiv a3 3)]) (st := []) (C := m_X8_partsUp) (fs := [32, 43, 79]) (pc' := 63) dX8_partsUpBy_60 rfl t_5_110 k_X8_partsUp rfl (by decide) rfl rfl rfl rfl (Nat.le_of_ble_eq_true rfl) ?_
              obtain ⟨r2013, h⟩ := h
              refine z_dcast (d' := d + 2 * n9 + 5) (by omega) (ihr r2013 ?_)
              show z_Wp m_X8_partsUpBy _ 63 [(0, zR 76), (1, zI 5), (2, zI a0), (3, zI a1), (4, zI a2), (5, zI (Int.tdiv a3 3)), (6, zI (F_K_comesUp w (F_K_wellOf w a0) 5 a2)), (7, zI a2)] [zI (F_N_partsUp n9 w a0 (a1 - 1) a2 (Int.tdiv a3 3))] w _
              refine z_iret rfl dX8_partsUpBy_63 ?_
              show z_Wp m_X8_partsUp _ 32 [(0, zR 76), (1, zI a0), (2, zI a1), (3, zI a2), (4, zI a3), (5, zI (Int.tdiv a3 3))] [zI (F_N_partsUp n9 w a0 (a1 - 1) a2 (Int.tdiv a3 3)), zI (F_N_partsUp n9 w a0 (a1 - 1) (zz_and a2 (zz_xor (zz_shl 1 (F_K_comesUp w (F_K_wellOf w a0) 3 a2)) (-1))) (Int.tdiv a3 3))] w _
              refine z_iadd (pc' := 33) dX8_partsUp_32 rfl ?_
              refine z_aload_n (pc' := 34) 0 rfl rfl dX8_partsUp_33 rfl ?_
              refine z_bipush (pc' := 36) (by decide) dX8_partsUp_34 rfl ?_
              refine z_iload_n (pc' := 37) 1 rfl rfl dX8_partsUp_36 rfl ?_
              refine z_iload_n (pc' := 38) 2 rfl rfl dX8_partsUp_37 rfl ?_
              refine z_iload_n (pc' := 39) 3 rfl rfl dX8_partsUp_38 rfl ?_
              refine z_iload (pc' := 41) 4 rfl dX8_partsUp_39 rfl ?_
              refine z_iconst (pc' := 42) dX8_partsUp_41 rfl ?_
              refine z_iload (pc' := 44) 5 rfl dX8_partsUp_42 rfl ?_
              refine z_imul (pc' := 45) dX8_partsUp_44 rfl ?_
              refine z_isub (pc' := 46) dX8_partsUp_45 rfl ?_
              refine z_invV (as := [zI 7, zI a0, zI a1, zI a2, zI (a3 - (2 * (Int.tdiv a3 3)))]) (st := [zI ((F_N_partsUp n9 w a0 (a1 - 1) (zz_and a2 (zz_xor (zz_shl 1 (F_K_comesUp w (F_K_wellOf w a0) 3 a2)) (-1))) (Int.tdiv a3 3)) + (F_N_partsUp n9 w a0 (a1 - 1) a2 (Int.tdiv a3 3)))]) (C := m_X8_partsUpBy) (fs := [32, 43, 79]) (pc' := 49) dX8_partsUp_46 rfl t_5_105 k_X8_partsUpBy rfl (by decide) rfl rfl rfl rfl (Nat.le_of_ble_eq_true rfl) ?_
              refine z_enter rfl (Nat.le_of_ble_eq_true rfl) ?_
              show z_Wp m_X8_partsUpBy _ 0 [(0, zR 76), (1, zI 7), (2, zI a0), (3, zI a1), (4, zI a2), (5, zI (a3 - (2 * (Int.tdiv a3 3))))] [] w _
              refine z_aload_n (pc' := 1) 0 rfl rfl dX8_partsUpBy_0 rfl ?_
              refine z_getR (t := 41) (pc' := 4) g_X8_19 (by decide) rfl rfl dX8_partsUpBy_1 rfl ?_
              refine z_aload_n (pc' := 5) 0 rfl rfl dX8_partsUpBy_4 rfl ?_
              refine z_getR (t := 41) (pc' := 8) g_X8_19 (by decide) rfl rfl dX8_partsUpBy_5 rfl ?_
              refine z_iload_n (pc' := 9) 2 rfl rfl dX8_partsUpBy_8 rfl ?_
              refine z_invV (as := [zI a0]) (st := [zR 41]) (C := m_X3_wellOf) (fs := [32, 44, 45, 46, 47, 48, 0, 0, 0]) (pc' := 12) dX8_partsUpBy_9 rfl t_5_109 k_X3_wellOf rfl (by decide) rfl rfl rfl rfl (Nat.le_of_ble_eq_true rfl) ?_
              refine c_K_wellOf r1003 ?_
              show z_Wp m_X8_partsUpBy _ 12 [(0, zR 76), (1, zI 7), (2, zI a0), (3, zI a1), (4, zI a2), (5, zI (a3 - (2 * (Int.tdiv a3 3))))] [zI (F_K_wellOf w a0), zR 41] w _
              refine z_iload_n (pc' := 13) 1 rfl rfl dX8_partsUpBy_12 rfl ?_
              refine z_iload (pc' := 15) 4 rfl dX8_partsUpBy_13 rfl ?_
              refine z_invV (as := [zI (F_K_wellOf w a0), zI 7, zI a2]) (st := []) (C := m_X3_comesUp) (fs := [32, 44, 45, 46, 47, 48, 0, 0, 0]) (pc' := 18) dX8_partsUpBy_15 rfl t_5_71 k_X3_comesUp rfl (by decide) rfl rfl rfl rfl (Nat.le_of_ble_eq_true rfl) ?_
              obtain ⟨r4020, h⟩ := h
              refine c_K_comesUp r4020 ?_
              show z_Wp m_X8_partsUpBy _ 18 [(0, zR 76), (1, zI 7), (2, zI a0), (3, zI a1), (4, zI a2), (5, zI (a3 - (2 * (Int.tdiv a3 3))))] [zI (F_K_comesUp w (F_K_wellOf w a0) 7 a2)] w _
              refine z_istore (pc' := 20) (ls' := [(0, zR 76), (1, zI 7), (2, zI a0), (3, zI a1), (4, zI a2), (5, zI (a3 - (2 * (Int.tdiv a3 3)))), (6, zI (F_K_comesUp w (F_K_wellOf w a0) 7 a2))]) (by decide) rfl rfl dX8_partsUpBy_18 rfl ?_
              refine z_iload (pc' := 22) 6 rfl dX8_partsUpBy_20 rfl ?_
              refine z_iload_n (pc' := 23) 2 rfl rfl dX8_partsUpBy_22 rfl ?_
              obtain ⟨r4021, h⟩ := h
              refine z_icmp_ne 29 dX8_partsUpBy_23 (by decide) (pc' := 26) rfl r4021 r1006 (fun c => ?_) (fun c => ?_)
              · have h := h.2 c
                rw [if_neg c] at k
                refine z_iload (pc' := 31) 6 rfl dX8_partsUpBy_29 rfl ?_
                refine z_iconst (pc' := 32) dX8_partsUpBy_31 rfl ?_
                refine z_icmp_ne 40 dX8_partsUpBy_32 (by decide) (pc' := 35) rfl r4021 (by decide) (fun c => ?_) (fun c => ?_)
                · have h := h.2 c
                  rw [if_neg c] at k
                  refine z_iload (pc' := 42) 4 rfl dX8_partsUpBy_40 rfl ?_
                  refine z_iconst (pc' := 43) dX8_partsUpBy_42 rfl ?_
                  refine z_iload (pc' := 45) 6 rfl dX8_partsUpBy_43 rfl ?_
                  refine z_ishl (pc' := 46) dX8_partsUpBy_45 rfl ?_
                  refine z_iconst (pc' := 47) dX8_partsUpBy_46 rfl ?_
                  refine z_ixor (pc' := 48) dX8_partsUpBy_47 rfl ?_
                  refine z_iand (pc' := 49) dX8_partsUpBy_48 rfl ?_
                  refine z_istore (pc' := 51) (ls' := [(0, zR 76), (1, zI 7), (2, zI a0), (3, zI a1), (4, zI a2), (5, zI (a3 - (2 * (Int.tdiv a3 3)))), (6, zI (F_K_comesUp w (F_K_wellOf w a0) 7 a2)), (7, zI (zz_and a2 (zz_xor (zz_shl 1 (F_K_comesUp w (F_K_wellOf w a0) 7 a2)) (-1))))]) (by decide) rfl rfl dX8_partsUpBy_49 rfl ?_
                  refine z_aload_n (pc' := 52) 0 rfl rfl dX8_partsUpBy_51 rfl ?_
                  refine z_iload_n (pc' := 53) 2 rfl rfl dX8_partsUpBy_52 rfl ?_
                  refine z_iload_n (pc' := 54) 3 rfl rfl dX8_partsUpBy_53 rfl ?_
                  refine z_iconst (pc' := 55) dX8_partsUpBy_54 rfl ?_
                  refine z_isub (pc' := 56) dX8_partsUpBy_55 rfl ?_
                  refine z_iload (pc' := 58) 7 rfl dX8_partsUpBy_56 rfl ?_
                  refine z_iload (pc' := 60) 5 rfl dX8_partsUpBy_58 rfl ?_
                  refine z_invV (as := [zI a0, zI (a1 - 1), zI (zz_and a2 (zz_xor (zz_shl 1 (F_K_comesUp w (F_K_wellOf w a0) 7 a2)) (-1))), zI (a3 - (2 * (Int.tdiv a3 3)))]) (st := []) (C := m_X8_partsUp) (fs := [32, 43, 79]) (pc' := 63) dX8_partsUpBy_60 rfl t_5_110 k_X8_partsUp rfl (by decide) rfl rfl rfl rfl (Nat.le_of_ble_eq_true rfl) ?_
                  have r4022 := h
                  refine z_dcast (d' := d + 2 * n9 + 5) (by omega) (ihr r4022 ?_)
                  show z_Wp m_X8_partsUpBy _ 63 [(0, zR 76), (1, zI 7), (2, zI a0), (3, zI a1), (4, zI a2), (5, zI (a3 - (2 * (Int.tdiv a3 3)))), (6, zI (F_K_comesUp w (F_K_wellOf w a0) 7 a2)), (7, zI (zz_and a2 (zz_xor (zz_shl 1 (F_K_comesUp w (F_K_wellOf w a0) 7 a2)) (-1))))] [zI (F_N_partsUp n9 w a0 (a1 - 1) (zz_and a2 (zz_xor (zz_shl 1 (F_K_comesUp w (F_K_wellOf w a0) 7 a2)) (-1))) (a3 - (2 * (Int.tdiv a3 3))))] w _
                  refine z_iret rfl dX8_partsUpBy_63 ?_
                  show z_Wp m_X8_partsUp _ 49 [(0, zR 76), (1, zI a0), (2, zI a1), (3, zI a2), (4, zI a3), (5, zI (Int.tdiv a3 3))] [zI (F_N_partsUp n9 w a0 (a1 - 1) (zz_and a2 (zz_xor (zz_shl 1 (F_K_comesUp w (F_K_wellOf w a0) 7 a2)) (-1))) (a3 - (2 * (Int.tdiv a3 3)))), zI ((F_N_partsUp n9 w a0 (a1 - 1) (zz_and a2 (zz_xor (zz_shl 1 (F_K_comesUp w (F_K_wellOf w a0) 3 a2)) (-1))) (Int.tdiv a3 3)) + (F_N_partsUp n9 w a0 (a1 - 1) a2 (Int.tdiv a3 3)))] w _
                  refine z_iadd (pc' := 50) dX8_partsUp_49 rfl ?_
                  refine z_iret rfl dX8_partsUp_50 ?_
                  exact k
                · have h := h.1 c
                  rw [if_pos c] at k
                  refine z_iload (pc' := 37) 4 rfl dX8_partsUpBy_35 rfl ?_
                  refine z_goto 49 dX8_partsUpBy_37 (by decide) ?_
                  refine z_istore (pc' := 51) (ls' := [(0, zR 76), (1, zI 7), (2, zI a0), (3, zI a1), (4, zI a2), (5, zI (a3 - (2 * (Int.tdiv a3 3)))), (6, zI (F_K_comesUp w (F_K_wellOf w a0) 7 a2)), (7, zI a2)]) (by decide) rfl rfl dX8_partsUpBy_49 rfl ?_
                  refine z_aload_n (pc' := 52) 0 rfl rfl dX8_partsUpBy_51 rfl ?_
                  refine z_iload_n (pc' := 53) 2 rfl rfl dX8_partsUpBy_52 rfl ?_
                  refine z_iload_n (pc' := 54) 3 rfl rfl dX8_partsUpBy_53 rfl ?_
                  refine z_iconst (pc' := 55) dX8_partsUpBy_54 rfl ?_
                  refine z_isub (pc' := 56) dX8_partsUpBy_55 rfl ?_
                  refine z_iload (pc' := 58) 7 rfl dX8_partsUpBy_56 rfl ?_
                  refine z_iload (pc' := 60) 5 rfl dX8_partsUpBy_58 rfl ?_
                  refine z_invV (as := [zI a0, zI (a1 - 1), zI a2, zI (a3 - (2 * (Int.tdiv a3 3)))]) (st := []) (C := m_X8_partsUp) (fs := [32, 43, 79]) (pc' := 63) dX8_partsUpBy_60 rfl t_5_110 k_X8_partsUp rfl (by decide) rfl rfl rfl rfl (Nat.le_of_ble_eq_true rfl) ?_
                  have r4023 := h
                  refine z_dcast (d' := d + 2 * n9 + 5) (by omega) (ihr r4023 ?_)
                  show z_Wp m_X8_partsUpBy _ 63 [(0, zR 76), (1, zI 7), (2, zI a0), (3, zI a1), (4, zI a2), (5, zI (a3 - (2 * (Int.tdiv a3 3)))), (6, zI (F_K_comesUp w (F_K_wellOf w a0) 7 a2)), (7, zI a2)] [zI (F_N_partsUp n9 w a0 (a1 - 1) a2 (a3 - (2 * (Int.tdiv a3 3))))] w _
                  refine z_iret rfl dX8_partsUpBy_63 ?_
                  show z_Wp m_X8_partsUp _ 49 [(0, zR 76), (1, zI a0), (2, zI a1), (3, zI a2), (4, zI a3), (5, zI (Int.tdiv a3 3))] [zI (F_N_partsUp n9 w a0 (a1 - 1) a2 (a3 - (2 * (Int.tdiv a3 3)))), zI ((F_N_partsUp n9 w a0 (a1 - 1) (zz_and a2 (zz_xor (zz_shl 1 (F_K_comesUp w (F_K_wellOf w a0) 3 a2)) (-1))) (Int.tdiv a3 3)) + (F_N_partsUp n9 w a0 (a1 - 1) a2 (Int.tdiv a3 3)))] w _
                  refine z_iadd (pc' := 50) dX8_partsUp_49 rfl ?_
                  refine z_iret rfl dX8_partsUp_50 ?_
                  exact k
              · have h := h.1 c
                rw [if_pos c] at k
                refine z_iload (pc' := 28) 5 rfl dX8_partsUpBy_26 rfl ?_
                refine z_iret rfl dX8_partsUpBy_28 ?_
                show z_Wp m_X8_partsUp _ 49 [(0, zR 76), (1, zI a0), (2, zI a1), (3, zI a2), (4, zI a3), (5, zI (Int.tdiv a3 3))] [zI (a3 - (2 * (Int.tdiv a3 3))), zI ((F_N_partsUp n9 w a0 (a1 - 1) (zz_and a2 (zz_xor (zz_shl 1 (F_K_comesUp w (F_K_wellOf w a0) 3 a2)) (-1))) (Int.tdiv a3 3)) + (F_N_partsUp n9 w a0 (a1 - 1) a2 (Int.tdiv a3 3)))] w _
                refine z_iadd (pc' := 50) dX8_partsUp_49 rfl ?_
                refine z_iret rfl dX8_partsUp_50 ?_
                exact k
          · have h := h.1 c
            rw [if_pos c] at k
            refine z_iload (pc' := 28) 5 rfl dX8_partsUpBy_26 rfl ?_
            refine z_iret rfl dX8_partsUpBy_28 ?_
            show z_Wp m_X8_partsUp _ 32 [(0, zR 76), (1, zI a0), (2, zI a1), (3, zI a2), (4, zI a3), (5, zI (Int.tdiv a3 3))] [zI (Int.tdiv a3 3), zI (F_N_partsUp n9 w a0 (a1 - 1) (zz_and a2 (zz_xor (zz_shl 1 (F_K_comesUp w (F_K_wellOf w a0) 3 a2)) (-1))) (Int.tdiv a3 3))] w _
            refine z_iadd (pc' := 33) dX8_partsUp_32 rfl ?_
            refine z_aload_n (pc' := 34) 0 rfl rfl dX8_partsUp_33 rfl ?_
            refine z_bipush (pc' := 36) (by decide) dX8_partsUp_34 rfl ?_
            refine z_iload_n (pc' := 37) 1 rfl rfl dX8_partsUp_36 rfl ?_
            refine z_iload_n (pc' := 38) 2 rfl rfl dX8_partsUp_37 rfl ?_
            refine z_iload_n (pc' := 39) 3 rfl rfl dX8_partsUp_38 rfl ?_
            refine z_iload (pc' := 41) 4 rfl dX8_partsUp_39 rfl ?_
            refine z_iconst (pc' := 42) dX8_partsUp_41 rfl ?_
            refine z_iload (pc' := 44) 5 rfl dX8_partsUp_42 rfl ?_
            refine z_imul (pc' := 45) dX8_partsUp_44 rfl ?_
            refine z_isub (pc' := 46) dX8_partsUp_45 rfl ?_
            refine z_invV (as := [zI 7, zI a0, zI a1, zI a2, zI (a3 - (2 * (Int.tdiv a3 3)))]) (st := [zI ((F_N_partsUp n9 w a0 (a1 - 1) (zz_and a2 (zz_xor (zz_shl 1 (F_K_comesUp w (F_K_wellOf w a0) 3 a2)) (-1))) (Int.tdiv a3 3)) + (Int.tdiv a3 3))]) (C := m_X8_partsUpBy) (fs := [32, 43, 79]) (pc' := 49) dX8_partsUp_46 rfl t_5_105 k_X8_partsUpBy rfl (by decide) rfl rfl rfl rfl (Nat.le_of_ble_eq_true rfl) ?_
            refine z_enter rfl (Nat.le_of_ble_eq_true rfl) ?_
            show z_Wp m_X8_partsUpBy _ 0 [(0, zR 76), (1, zI 7), (2, zI a0), (3, zI a1), (4, zI a2), (5, zI (a3 - (2 * (Int.tdiv a3 3))))] [] w _
            refine z_aload_n (pc' := 1) 0 rfl rfl dX8_partsUpBy_0 rfl ?_
            refine z_getR (t := 41) (pc' := 4) g_X8_19 (by decide) rfl rfl dX8_partsUpBy_1 rfl ?_
            refine z_aload_n (pc' := 5) 0 rfl rfl dX8_partsUpBy_4 rfl ?_
            refine z_getR (t := 41) (pc' := 8) g_X8_19 (by decide) rfl rfl dX8_partsUpBy_5 rfl ?_
            refine z_iload_n (pc' := 9) 2 rfl rfl dX8_partsUpBy_8 rfl ?_
            refine z_invV (as := [zI a0]) (st := [zR 41]) (C := m_X3_wellOf) (fs := [32, 44, 45, 46, 47, 48, 0, 0, 0]) (pc' := 12) dX8_partsUpBy_9 rfl t_5_109 k_X3_wellOf rfl (by decide) rfl rfl rfl rfl (Nat.le_of_ble_eq_true rfl) ?_
            refine c_K_wellOf r1003 ?_
            show z_Wp m_X8_partsUpBy _ 12 [(0, zR 76), (1, zI 7), (2, zI a0), (3, zI a1), (4, zI a2), (5, zI (a3 - (2 * (Int.tdiv a3 3))))] [zI (F_K_wellOf w a0), zR 41] w _
            refine z_iload_n (pc' := 13) 1 rfl rfl dX8_partsUpBy_12 rfl ?_
            refine z_iload (pc' := 15) 4 rfl dX8_partsUpBy_13 rfl ?_
            refine z_invV (as := [zI (F_K_wellOf w a0), zI 7, zI a2]) (st := []) (C := m_X3_comesUp) (fs := [32, 44, 45, 46, 47, 48, 0, 0, 0]) (pc' := 18) dX8_partsUpBy_15 rfl t_5_71 k_X3_comesUp rfl (by decide) rfl rfl rfl rfl (Nat.le_of_ble_eq_true rfl) ?_
            obtain ⟨r5025, h⟩ := h
            refine c_K_comesUp r5025 ?_
            show z_Wp m_X8_partsUpBy _ 18 [(0, zR 76), (1, zI 7), (2, zI a0), (3, zI a1), (4, zI a2), (5, zI (a3 - (2 * (Int.tdiv a3 3))))] [zI (F_K_comesUp w (F_K_wellOf w a0) 7 a2)] w _
            refine z_istore (pc' := 20) (ls' := [(0, zR 76), (1, zI 7), (2, zI a0), (3, zI a1), (4, zI a2), (5, zI (a3 - (2 * (Int.tdiv a3 3)))), (6, zI (F_K_comesUp w (F_K_wellOf w a0) 7 a2))]) (by decide) rfl rfl dX8_partsUpBy_18 rfl ?_
            refine z_iload (pc' := 22) 6 rfl dX8_partsUpBy_20 rfl ?_
            refine z_iload_n (pc' := 23) 2 rfl rfl dX8_partsUpBy_22 rfl ?_
            obtain ⟨r5026, h⟩ := h
            refine z_icmp_ne 29 dX8_partsUpBy_23 (by decide) (pc' := 26) rfl r5026 r1006 (fun c => ?_) (fun c => ?_)
            · have h := h.2 c
              rw [if_neg c] at k
              refine z_iload (pc' := 31) 6 rfl dX8_partsUpBy_29 rfl ?_
              refine z_iconst (pc' := 32) dX8_partsUpBy_31 rfl ?_
              refine z_icmp_ne 40 dX8_partsUpBy_32 (by decide) (pc' := 35) rfl r5026 (by decide) (fun c => ?_) (fun c => ?_)
              · have h := h.2 c
                rw [if_neg c] at k
                refine z_iload (pc' := 42) 4 rfl dX8_partsUpBy_40 rfl ?_
                refine z_iconst (pc' := 43) dX8_partsUpBy_42 rfl ?_
                refine z_iload (pc' := 45) 6 rfl dX8_partsUpBy_43 rfl ?_
                refine z_ishl (pc' := 46) dX8_partsUpBy_45 rfl ?_
                refine z_iconst (pc' := 47) dX8_partsUpBy_46 rfl ?_
                refine z_ixor (pc' := 48) dX8_partsUpBy_47 rfl ?_
                refine z_iand (pc' := 49) dX8_partsUpBy_48 rfl ?_
                refine z_istore (pc' := 51) (ls' := [(0, zR 76), (1, zI 7), (2, zI a0), (3, zI a1), (4, zI a2), (5, zI (a3 - (2 * (Int.tdiv a3 3)))), (6, zI (F_K_comesUp w (F_K_wellOf w a0) 7 a2)), (7, zI (zz_and a2 (zz_xor (zz_shl 1 (F_K_comesUp w (F_K_wellOf w a0) 7 a2)) (-1))))]) (by decide) rfl rfl dX8_partsUpBy_49 rfl ?_
                refine z_aload_n (pc' := 52) 0 rfl rfl dX8_partsUpBy_51 rfl ?_
                refine z_iload_n (pc' := 53) 2 rfl rfl dX8_partsUpBy_52 rfl ?_
                refine z_iload_n (pc' := 54) 3 rfl rfl dX8_partsUpBy_53 rfl ?_
                refine z_iconst (pc' := 55) dX8_partsUpBy_54 rfl ?_
                refine z_isub (pc' := 56) dX8_partsUpBy_55 rfl ?_
                refine z_iload (pc' := 58) 7 rfl dX8_partsUpBy_56 rfl ?_
                refine z_iload (pc' := 60) 5 rfl dX8_partsUpBy_58 rfl ?_
                refine z_invV (as := [zI a0, zI (a1 - 1), zI (zz_and a2 (zz_xor (zz_shl 1 (F_K_comesUp w (F_K_wellOf w a0) 7 a2)) (-1))), zI (a3 - (2 * (Int.tdiv a3 3)))]) (st := []) (C := m_X8_partsUp) (fs := [32, 43, 79]) (pc' := 63) dX8_partsUpBy_60 rfl t_5_110 k_X8_partsUp rfl (by decide) rfl rfl rfl rfl (Nat.le_of_ble_eq_true rfl) ?_
                have r5027 := h
                refine z_dcast (d' := d + 2 * n9 + 5) (by omega) (ihr r5027 ?_)
                show z_Wp m_X8_partsUpBy _ 63 [(0, zR 76), (1, zI 7), (2, zI a0), (3, zI a1), (4, zI a2), (5, zI (a3 - (2 * (Int.tdiv a3 3)))), (6, zI (F_K_comesUp w (F_K_wellOf w a0) 7 a2)), (7, zI (zz_and a2 (zz_xor (zz_shl 1 (F_K_comesUp w (F_K_wellOf w a0) 7 a2)) (-1))))] [zI (F_N_partsUp n9 w a0 (a1 - 1) (zz_and a2 (zz_xor (zz_shl 1 (F_K_comesUp w (F_K_wellOf w a0) 7 a2)) (-1))) (a3 - (2 * (Int.tdiv a3 3))))] w _
                refine z_iret rfl dX8_partsUpBy_63 ?_
                show z_Wp m_X8_partsUp _ 49 [(0, zR 76), (1, zI a0), (2, zI a1), (3, zI a2), (4, zI a3), (5, zI (Int.tdiv a3 3))] [zI (F_N_partsUp n9 w a0 (a1 - 1) (zz_and a2 (zz_xor (zz_shl 1 (F_K_comesUp w (F_K_wellOf w a0) 7 a2)) (-1))) (a3 - (2 * (Int.tdiv a3 3)))), zI ((F_N_partsUp n9 w a0 (a1 - 1) (zz_and a2 (zz_xor (zz_shl 1 (F_K_comesUp w (F_K_wellOf w a0) 3 a2)) (-1))) (Int.tdiv a3 3)) + (Int.tdiv a3 3))] w _
                refine z_iadd (pc' := 50) dX8_partsUp_49 rfl ?_
                refine z_iret rfl dX8_partsUp_50 ?_
                exact k
              · have h := h.1 c
                rw [if_pos c] at k
                refine z_iload (pc' := 37) 4 rfl dX8_partsUpBy_35 rfl ?_
                refine z_goto 49 dX8_partsUpBy_37 (by decide) ?_
                refine z_istore (pc' := 51) (ls' := [(0, zR 76), (1, zI 7), (2, zI a0), (3, zI a1), (4, zI a2), (5, zI (a3 - (2 * (Int.tdiv a3 3)))), (6, zI (F_K_comesUp w (F_K_wellOf w a0) 7 a2)), (7, zI a2)]) (by decide) rfl rfl dX8_partsUpBy_49 rfl ?_
                refine z_aload_n (pc' := 52) 0 rfl rfl dX8_partsUpBy_51 rfl ?_
                refine z_iload_n (pc' := 53) 2 rfl rfl dX8_partsUpBy_52 rfl ?_
                refine z_iload_n (pc' := 54) 3 rfl rfl dX8_partsUpBy_53 rfl ?_
                refine z_iconst (pc' := 55) dX8_partsUpBy_54 rfl ?_
                refine z_isub (pc' := 56) dX8_partsUpBy_55 rfl ?_
                refine z_iload (pc' := 58) 7 rfl dX8_partsUpBy_56 rfl ?_
                refine z_iload (pc' := 60) 5 rfl dX8_partsUpBy_58 rfl ?_
                refine z_invV (as := [zI a0, zI (a1 - 1), zI a2, zI (a3 - (2 * (Int.tdiv a3 3)))]) (st := []) (C := m_X8_partsUp) (fs := [32, 43, 79]) (pc' := 63) dX8_partsUpBy_60 rfl t_5_110 k_X8_partsUp rfl (by decide) rfl rfl rfl rfl (Nat.le_of_ble_eq_true rfl) ?_
                have r5028 := h
                refine z_dcast (d' := d + 2 * n9 + 5) (by omega) (ihr r5028 ?_)
                show z_Wp m_X8_partsUpBy _ 63 [(0, zR 76), (1, zI 7), (2, zI a0), (3, zI a1), (4, zI a2), (5, zI (a3 - (2 * (Int.tdiv a3 3)))), (6, zI (F_K_comesUp w (F_K_wellOf w a0) 7 a2)), (7, zI a2)] [zI (F_N_partsUp n9 w a0 (a1 - 1) a2 (a3 - (2 * (Int.tdiv a3 3))))] w _
                refine z_iret rfl dX8_partsUpBy_63 ?_
                show z_Wp m_X8_partsUp _ 49 [(0, zR 76), (1, zI a0), (2, zI a1), (3, zI a2), (4, zI a3), (5, zI (Int.tdiv a3 3))] [zI (F_N_partsUp n9 w a0 (a1 - 1) a2 (a3 - (2 * (Int.tdiv a3 3)))), zI ((F_N_partsUp n9 w a0 (a1 - 1) (zz_and a2 (zz_xor (zz_shl 1 (F_K_comesUp w (F_K_wellOf w a0) 3 a2)) (-1))) (Int.tdiv a3 3)) + (Int.tdiv a3 3))] w _
                refine z_iadd (pc' := 50) dX8_partsUp_49 rfl ?_
                refine z_iret rfl dX8_partsUp_50 ?_
                exact k
            · have h := h.1 c
              rw [if_pos c] at k
              refine z_iload (pc' := 28) 5 rfl dX8_partsUpBy_26 rfl ?_
              refine z_iret rfl dX8_partsUpBy_28 ?_
              show z_Wp m_X8_partsUp _ 49 [(0, zR 76), (1, zI a0), (2, zI a1), (3, zI a2), (4, zI a3), (5, zI (Int.tdiv a3 3))] [zI (a3 - (2 * (Int.tdiv a3 3))), zI ((F_N_partsUp n9 w a0 (a1 - 1) (zz_and a2 (zz_xor (zz_shl 1 (F_K_comesUp w (F_K_wellOf w a0) 3 a2)) (-1))) (Int.tdiv a3 3)) + (Int.tdiv a3 3))] w _
              refine z_iadd (pc' := 50) dX8_partsUp_49 rfl ?_
              refine z_iret rfl dX8_partsUp_50 ?_
              exact k
        · have h := h.1 c
          rw [if_pos c] at k
          refine z_iload (pc' := 37) 4 rfl dX8_partsUpBy_35 rfl ?_
          refine z_goto 49 dX8_partsUpBy_37 (by decide) ?_
          refine z_istore (pc' := 51) (ls' := [(0, zR 76), (1, zI 3), (2, zI a0), (3, zI a1), (4, zI a2), (5, zI (Int.tdiv a3 3)), (6, zI (F_K_comesUp w (F_K_wellOf w a0) 3 a2)), (7, zI a2)]) (by decide) rfl rfl dX8_partsUpBy_49 rfl ?_
          refine z_aload_n (pc' := 52) 0 rfl rfl dX8_partsUpBy_51 rfl ?_
          refine z_iload_n (pc' := 53) 2 rfl rfl dX8_partsUpBy_52 rfl ?_
          refine z_iload_n (pc' := 54) 3 rfl rfl dX8_partsUpBy_53 rfl ?_
          refine z_iconst (pc' := 55) dX8_partsUpBy_54 rfl ?_
          refine z_isub (pc' := 56) dX8_partsUpBy_55 rfl ?_
          refine z_iload (pc' := 58) 7 rfl dX8_partsUpBy_56 rfl ?_
          refine z_iload (pc' := 60) 5 rfl dX8_partsUpBy_58 rfl ?_
          refine z_invV (as := [zI a0, zI (a1 - 1), zI a2, zI (Int.tdiv a3 3)]) (st := []) (C := m_X8_partsUp) (fs := [32, 43, 79]) (pc' := 63) dX8_partsUpBy_60 rfl t_5_110 k_X8_partsUp rfl (by decide) rfl rfl rfl rfl (Nat.le_of_ble_eq_true rfl) ?_
          obtain ⟨r1008, h⟩ := h
          refine z_dcast (d' := d + 2 * n9 + 5) (by omega) (ihr r1008 ?_)
          show z_Wp m_X8_partsUpBy _ 63 [(0, zR 76), (1, zI 3), (2, zI a0), (3, zI a1), (4, zI a2), (5, zI (Int.tdiv a3 3)), (6, zI (F_K_comesUp w (F_K_wellOf w a0) 3 a2)), (7, zI a2)] [zI (F_N_partsUp n9 w a0 (a1 - 1) a2 (Int.tdiv a3 3))] w _
          refine z_iret rfl dX8_partsUpBy_63 ?_
          show z_Wp m_X8_partsUp _ 22 [(0, zR 76), (1, zI a0), (2, zI a1), (3, zI a2), (4, zI a3), (5, zI (Int.tdiv a3 3))] [zI (F_N_partsUp n9 w a0 (a1 - 1) a2 (Int.tdiv a3 3))] w _
          refine z_aload_n (pc' := 23) 0 rfl rfl dX8_partsUp_22 rfl ?_
          refine z_iconst (pc' := 24) dX8_partsUp_23 rfl ?_
          refine z_iload_n (pc' := 25) 1 rfl rfl dX8_partsUp_24 rfl ?_
          refine z_iload_n (pc' := 26) 2 rfl rfl dX8_partsUp_25 rfl ?_
          refine z_iload_n (pc' := 27) 3 rfl rfl dX8_partsUp_26 rfl ?_
          refine z_iload (pc' := 29) 5 rfl dX8_partsUp_27 rfl ?_
          refine z_invV (as := [zI 5, zI a0, zI a1, zI a2, zI (Int.tdiv a3 3)]) (st := [zI (F_N_partsUp n9 w a0 (a1 - 1) a2 (Int.tdiv a3 3))]) (C := m_X8_partsUpBy) (fs := [32, 43, 79]) (pc' := 32) dX8_partsUp_29 rfl t_5_105 k_X8_partsUpBy rfl (by decide) rfl rfl rfl rfl (Nat.le_of_ble_eq_true rfl) ?_
          refine z_enter rfl (Nat.le_of_ble_eq_true rfl) ?_
          show z_Wp m_X8_partsUpBy _ 0 [(0, zR 76), (1, zI 5), (2, zI a0), (3, zI a1), (4, zI a2), (5, zI (Int.tdiv a3 3))] [] w _
          refine z_aload_n (pc' := 1) 0 rfl rfl dX8_partsUpBy_0 rfl ?_
          refine z_getR (t := 41) (pc' := 4) g_X8_19 (by decide) rfl rfl dX8_partsUpBy_1 rfl ?_
          refine z_aload_n (pc' := 5) 0 rfl rfl dX8_partsUpBy_4 rfl ?_
          refine z_getR (t := 41) (pc' := 8) g_X8_19 (by decide) rfl rfl dX8_partsUpBy_5 rfl ?_
          refine z_iload_n (pc' := 9) 2 rfl rfl dX8_partsUpBy_8 rfl ?_
          refine z_invV (as := [zI a0]) (st := [zR 41]) (C := m_X3_wellOf) (fs := [32, 44, 45, 46, 47, 48, 0, 0, 0]) (pc' := 12) dX8_partsUpBy_9 rfl t_5_109 k_X3_wellOf rfl (by decide) rfl rfl rfl rfl (Nat.le_of_ble_eq_true rfl) ?_
          refine c_K_wellOf r1003 ?_
          show z_Wp m_X8_partsUpBy _ 12 [(0, zR 76), (1, zI 5), (2, zI a0), (3, zI a1), (4, zI a2), (5, zI (Int.tdiv a3 3))] [zI (F_K_wellOf w a0), zR 41] w _
          refine z_iload_n (pc' := 13) 1 rfl rfl dX8_partsUpBy_12 rfl ?_
          refine z_iload (pc' := 15) 4 rfl dX8_partsUpBy_13 rfl ?_
          refine z_invV (as := [zI (F_K_wellOf w a0), zI 5, zI a2]) (st := []) (C := m_X3_comesUp) (fs := [32, 44, 45, 46, 47, 48, 0, 0, 0]) (pc' := 18) dX8_partsUpBy_15 rfl t_5_71 k_X3_comesUp rfl (by decide) rfl rfl rfl rfl (Nat.le_of_ble_eq_true rfl) ?_
          obtain ⟨r6030, h⟩ := h
          refine c_K_comesUp r6030 ?_
          show z_Wp m_X8_partsUpBy _ 18 [(0, zR 76), (1, zI 5), (2, zI a0), (3, zI a1), (4, zI a2), (5, zI (Int.tdiv a3 3))] [zI (F_K_comesUp w (F_K_wellOf w a0) 5 a2)] w _
          refine z_istore (pc' := 20) (ls' := [(0, zR 76), (1, zI 5), (2, zI a0), (3, zI a1), (4, zI a2), (5, zI (Int.tdiv a3 3)), (6, zI (F_K_comesUp w (F_K_wellOf w a0) 5 a2))]) (by decide) rfl rfl dX8_partsUpBy_18 rfl ?_
          refine z_iload (pc' := 22) 6 rfl dX8_partsUpBy_20 rfl ?_
          refine z_iload_n (pc' := 23) 2 rfl rfl dX8_partsUpBy_22 rfl ?_
          obtain ⟨r6031, h⟩ := h
          refine z_icmp_ne 29 dX8_partsUpBy_23 (by decide) (pc' := 26) rfl r6031 r1006 (fun c => ?_) (fun c => ?_)
          · have h := h.2 c
            rw [if_neg c] at k
            refine z_iload (pc' := 31) 6 rfl dX8_partsUpBy_29 rfl ?_
            refine z_iconst (pc' := 32) dX8_partsUpBy_31 rfl ?_
            refine z_icmp_ne 40 dX8_partsUpBy_32 (by decide) (pc' := 35) rfl r6031 (by decide) (fun c => ?_) (fun c => ?_)
            · have h := h.2 c
              rw [if_neg c] at k
              refine z_iload (pc' := 42) 4 rfl dX8_partsUpBy_40 rfl ?_
              refine z_iconst (pc' := 43) dX8_partsUpBy_42 rfl ?_
              refine z_iload (pc' := 45) 6 rfl dX8_partsUpBy_43 rfl ?_
              refine z_ishl (pc' := 46) dX8_partsUpBy_45 rfl ?_
              refine z_iconst (pc' := 47) dX8_partsUpBy_46 rfl ?_
              refine z_ixor (pc' := 48) dX8_partsUpBy_47 rfl ?_
              refine z_iand (pc' := 49) dX8_partsUpBy_48 rfl ?_
              refine z_istore (pc' := 51) (ls' := [(0, zR 76), (1, zI 5), (2, zI a0), (3, zI a1), (4, zI a2), (5, zI (Int.tdiv a3 3)), (6, zI (F_K_comesUp w (F_K_wellOf w a0) 5 a2)), (7, zI (zz_and a2 (zz_xor (zz_shl 1 (F_K_comesUp w (F_K_wellOf w a0) 5 a2)) (-1))))]) (by decide) rfl rfl dX8_partsUpBy_49 rfl ?_
              refine z_aload_n (pc' := 52) 0 rfl rfl dX8_partsUpBy_51 rfl ?_
              refine z_iload_n (pc' := 53) 2 rfl rfl dX8_partsUpBy_52 rfl ?_
              refine z_iload_n (pc' := 54) 3 rfl rfl dX8_partsUpBy_53 rfl ?_
              refine z_iconst (pc' := 55) dX8_partsUpBy_54 rfl ?_
              refine z_isub (pc' := 56) dX8_partsUpBy_55 rfl ?_
              refine z_iload (pc' := 58) 7 rfl dX8_partsUpBy_56 rfl ?_
              refine z_iload (pc' := 60) 5 rfl dX8_partsUpBy_58 rfl ?_
              refine z_invV (as := [zI a0, zI (a1 - 1), zI (zz_and a2 (zz_xor (zz_shl 1 (F_K_comesUp w (F_K_wellOf w a0) 5 a2)) (-1))), zI (Int.tdiv a3 3)]) (st := []) (C := m_X8_partsUp) (fs := [32, 43, 79]) (pc' := 63) dX8_partsUpBy_60 rfl t_5_110 k_X8_partsUp rfl (by decide) rfl rfl rfl rfl (Nat.le_of_ble_eq_true rfl) ?_
              obtain ⟨r6032, h⟩ := h
              refine z_dcast (d' := d + 2 * n9 + 5) (by omega) (ihr r6032 ?_)
              show z_Wp m_X8_partsUpBy _ 63 [(0, zR 76), (1, zI 5), (2, zI a0), (3, zI a1), (4, zI a2), (5, zI (Int.tdiv a3 3)), (6, zI (F_K_comesUp w (F_K_wellOf w a0) 5 a2)), (7, zI (zz_and a2 (zz_xor (zz_shl 1 (F_K_comesUp w (F_K_wellOf w a0) 5 a2)) (-1))))] [zI (F_N_partsUp n9 w a0 (a1 - 1) (zz_and a2 (zz_xor (zz_shl 1 (F_K_comesUp w (F_K_wellOf w a0) 5 a2)) (-1))) (Int.tdiv a3 3))] w _
              refine z_iret rfl dX8_partsUpBy_63 ?_
              show z_Wp m_X8_partsUp _ 32 [(0, zR 76), (1, zI a0), (2, zI a1), (3, zI a2), (4, zI a3), (5, zI (Int.tdiv a3 3))] [zI (F_N_partsUp n9 w a0 (a1 - 1) (zz_and a2 (zz_xor (zz_shl 1 (F_K_comesUp w (F_K_wellOf w a0) 5 a2)) (-1))) (Int.tdiv a3 3)), zI (F_N_partsUp n9 w a0 (a1 - 1) a2 (Int.tdiv a3 3))] w _
              refine z_iadd (pc' := 33) dX8_partsUp_32 rfl ?_
              refine z_aload_n (pc' := 34) 0 rfl rfl dX8_partsUp_33 rfl ?_
              refine z_bipush (pc' := 36) (by decide) dX8_partsUp_34 rfl ?_
              refine z_iload_n (pc' := 37) 1 rfl rfl dX8_partsUp_36 rfl ?_
              refine z_iload_n (pc' := 38) 2 rfl rfl dX8_partsUp_37 rfl ?_
              refine z_iload_n (pc' := 39) 3 rfl rfl dX8_partsUp_38 rfl ?_
              refine z_iload (pc' := 41) 4 rfl dX8_partsUp_39 rfl ?_
              refine z_iconst (pc' := 42) dX8_partsUp_41 rfl ?_
              refine z_iload (pc' := 44) 5 rfl dX8_partsUp_42 rfl ?_
              refine z_imul (pc' := 45) dX8_partsUp_44 rfl ?_
              refine z_isub (pc' := 46) dX8_partsUp_45 rfl ?_
              refine z_invV (as := [zI 7, zI a0, zI a1, zI a2, zI (a3 - (2 * (Int.tdiv a3 3)))]) (st := [zI ((F_N_partsUp n9 w a0 (a1 - 1) a2 (Int.tdiv a3 3)) + (F_N_partsUp n9 w a0 (a1 - 1) (zz_and a2 (zz_xor (zz_shl 1 (F_K_comesUp w (F_K_wellOf w a0) 5 a2)) (-1))) (Int.tdiv a3 3)))]) (C := m_X8_partsUpBy) (fs := [32, 43, 79]) (pc' := 49) dX8_partsUp_46 rfl t_5_105 k_X8_partsUpBy rfl (by decide) rfl rfl rfl rfl (Nat.le_of_ble_eq_true rfl) ?_
              refine z_enter rfl (Nat.le_of_ble_eq_true rfl) ?_
              show z_Wp m_X8_partsUpBy _ 0 [(0, zR 76), (1, zI 7), (2, zI a0), (3, zI a1), (4, zI a2), (5, zI (a3 - (2 * (Int.tdiv a3 3))))] [] w _
              refine z_aload_n (pc' := 1) 0 rfl rfl dX8_partsUpBy_0 rfl ?_
              refine z_getR (t := 41) (pc' := 4) g_X8_19 (by decide) rfl rfl dX8_partsUpBy_1 rfl ?_
              refine z_aload_n (pc' := 5) 0 rfl rfl dX8_partsUpBy_4 rfl ?_
              refine z_getR (t := 41) (pc' := 8) g_X8_19 (by decide) rfl rfl dX8_partsUpBy_5 rfl ?_
              refine z_iload_n (pc' := 9) 2 rfl rfl dX8_partsUpBy_8 rfl ?_
              refine z_invV (as := [zI a0]) (st := [zR 41]) (C := m_X3_wellOf) (fs := [32, 44, 45, 46, 47, 48, 0, 0, 0]) (pc' := 12) dX8_partsUpBy_9 rfl t_5_109 k_X3_wellOf rfl (by decide) rfl rfl rfl rfl (Nat.le_of_ble_eq_true rfl) ?_
              refine c_K_wellOf r1003 ?_
              show z_Wp m_X8_partsUpBy _ 12 [(0, zR 76), (1, zI 7), (2, zI a0), (3, zI a1), (4, zI a2), (5, zI (a3 - (2 * (Int.tdiv a3 3))))] [zI (F_K_wellOf w a0), zR 41] w _
              refine z_iload_n (pc' := 13) 1 rfl rfl dX8_partsUpBy_12 rfl ?_
              refine z_iload (pc' := 15) 4 rfl dX8_partsUpBy_13 rfl ?_
              refine z_invV (as := [zI (F_K_wellOf w a0), zI 7, zI a2]) (st := []) (C := m_X3_comesUp) (fs := [32, 44, 45, 46, 47, 48, 0, 0, 0]) (pc' := 18) dX8_partsUpBy_15 rfl t_5_71 k_X3_comesUp rfl (by decide) rfl rfl rfl rfl (Nat.le_of_ble_eq_true rfl) ?_
              obtain ⟨r7034, h⟩ := h
              refine c_K_comesUp r7034 ?_
              show z_Wp m_X8_partsUpBy _ 18 [(0, zR 76), (1, zI 7), (2, zI a0), (3, zI a1), (4, zI a2), (5, zI (a3 - (2 * (Int.tdiv a3 3))))] [zI (F_K_comesUp w (F_K_wellOf w a0) 7 a2)] w _
              refine z_istore (pc' := 20) (ls' := [(0, zR 76), (1, zI 7), (2, zI a0), (3, zI a1), (4, zI a2), (5, zI (a3 - (2 * (Int.tdiv a3 3)))), (6, zI (F_K_comesUp w (F_K_wellOf w a0) 7 a2))]) (by decide) rfl rfl dX8_partsUpBy_18 rfl ?_
              refine z_iload (pc' := 22) 6 rfl dX8_partsUpBy_20 rfl ?_
              refine z_iload_n (pc' := 23) 2 rfl rfl dX8_partsUpBy_22 rfl ?_
              obtain ⟨r7035, h⟩ := h
              refine z_icmp_ne 29 dX8_partsUpBy_23 (by decide) (pc' := 26) rfl r7035 r1006 (fun c => ?_) (fun c => ?_)
              · have h := h.2 c
                rw [if_neg c] at k
                refine z_iload (pc' := 31) 6 rfl dX8_partsUpBy_29 rfl ?_
                refine z_iconst (pc' := 32) dX8_partsUpBy_31 rfl ?_
                refine z_icmp_ne 40 dX8_partsUpBy_32 (by decide) (pc' := 35) rfl r7035 (by decide) (fun c => ?_) (fun c => ?_)
                · have h := h.2 c
                  rw [if_neg c] at k
                  refine z_iload (pc' := 42) 4 rfl dX8_partsUpBy_40 rfl ?_
                  refine z_iconst (pc' := 43) dX8_partsUpBy_42 rfl ?_
                  refine z_iload (pc' := 45) 6 rfl dX8_partsUpBy_43 rfl ?_
                  refine z_ishl (pc' := 46) dX8_partsUpBy_45 rfl ?_
                  refine z_iconst (pc' := 47) dX8_partsUpBy_46 rfl ?_
                  refine z_ixor (pc' := 48) dX8_partsUpBy_47 rfl ?_
                  refine z_iand (pc' := 49) dX8_partsUpBy_48 rfl ?_
                  refine z_istore (pc' := 51) (ls' := [(0, zR 76), (1, zI 7), (2, zI a0), (3, zI a1), (4, zI a2), (5, zI (a3 - (2 * (Int.tdiv a3 3)))), (6, zI (F_K_comesUp w (F_K_wellOf w a0) 7 a2)), (7, zI (zz_and a2 (zz_xor (zz_shl 1 (F_K_comesUp w (F_K_wellOf w a0) 7 a2)) (-1))))]) (by decide) rfl rfl dX8_partsUpBy_49 rfl ?_
                  refine z_aload_n (pc' := 52) 0 rfl rfl dX8_partsUpBy_51 rfl ?_
                  refine z_iload_n (pc' := 53) 2 rfl rfl dX8_partsUpBy_52 rfl ?_
                  refine z_iload_n (pc' := 54) 3 rfl rfl dX8_partsUpBy_53 rfl ?_
                  refine z_iconst (pc' := 55) dX8_partsUpBy_54 rfl ?_
                  refine z_isub (pc' := 56) dX8_partsUpBy_55 rfl ?_
                  refine z_iload (pc' := 58) 7 rfl dX8_partsUpBy_56 rfl ?_
                  refine z_iload (pc' := 60) 5 rfl dX8_partsUpBy_58 rfl ?_
                  refine z_invV (as := [zI a0, zI (a1 - 1), zI (zz_and a2 (zz_xor (zz_shl 1 (F_K_comesUp w (F_K_wellOf w a0) 7 a2)) (-1))), zI (a3 - (2 * (Int.tdiv a3 3)))]) (st := []) (C := m_X8_partsUp) (fs := [32, 43, 79]) (pc' := 63) dX8_partsUpBy_60 rfl t_5_110 k_X8_partsUp rfl (by decide) rfl rfl rfl rfl (Nat.le_of_ble_eq_true rfl) ?_
                  have r7036 := h
                  refine z_dcast (d' := d + 2 * n9 + 5) (by omega) (ihr r7036 ?_)
                  show z_Wp m_X8_partsUpBy _ 63 [(0, zR 76), (1, zI 7), (2, zI a0), (3, zI a1), (4, zI a2), (5, zI (a3 - (2 * (Int.tdiv a3 3)))), (6, zI (F_K_comesUp w (F_K_wellOf w a0) 7 a2)), (7, zI (zz_and a2 (zz_xor (zz_shl 1 (F_K_comesUp w (F_K_wellOf w a0) 7 a2)) (-1))))] [zI (F_N_partsUp n9 w a0 (a1 - 1) (zz_and a2 (zz_xor (zz_shl 1 (F_K_comesUp w (F_K_wellOf w a0) 7 a2)) (-1))) (a3 - (2 * (Int.tdiv a3 3))))] w _
                  refine z_iret rfl dX8_partsUpBy_63 ?_
                  show z_Wp m_X8_partsUp _ 49 [(0, zR 76), (1, zI a0), (2, zI a1), (3, zI a2), (4, zI a3), (5, zI (Int.tdiv a3 3))] [zI (F_N_partsUp n9 w a0 (a1 - 1) (zz_and a2 (zz_xor (zz_shl 1 (F_K_comesUp w (F_K_wellOf w a0) 7 a2)) (-1))) (a3 - (2 * (Int.tdiv a3 3)))), zI ((F_N_partsUp n9 w a0 (a1 - 1) a2 (Int.tdiv a3 3)) + (F_N_partsUp n9 w a0 (a1 - 1) (zz_and a2 (zz_xor (zz_shl 1 (F_K_comesUp w (F_K_wellOf w a0) 5 a2)) (-1))) (Int.tdiv a3 3)))] w _
                  refine z_iadd (pc' := 50) dX8_partsUp_49 rfl ?_
                  refine z_iret rfl dX8_partsUp_50 ?_
                  exact k
                · have h := h.1 c
                  rw [if_pos c] at k
                  refine z_iload (pc' := 37) 4 rfl dX8_partsUpBy_35 rfl ?_
                  refine z_goto 49 dX8_partsUpBy_37 (by decide) ?_
                  refine z_istore (pc' := 51) (ls' := [(0, zR 76), (1, zI 7), (2, zI a0), (3, zI a1), (4, zI a2), (5, zI (a3 - (2 * (Int.tdiv a3 3)))), (6, zI (F_K_comesUp w (F_K_wellOf w a0) 7 a2)), (7, zI a2)]) (by decide) rfl rfl dX8_partsUpBy_49 rfl ?_
                  refine z_aload_n (pc' := 52) 0 rfl rfl dX8_partsUpBy_51 rfl ?_
                  refine z_iload_n (pc' := 53) 2 rfl rfl dX8_partsUpBy_52 rfl ?_
                  refine z_iload_n (pc' := 54) 3 rfl rfl dX8_partsUpBy_53 rfl ?_
                  refine z_iconst (pc' := 55) dX8_partsUpBy_54 rfl ?_
                  refine z_isub (pc' := 56) dX8_partsUpBy_55 rfl ?_
                  refine z_iload (pc' := 58) 7 rfl dX8_partsUpBy_56 rfl ?_
                  refine z_iload (pc' := 60) 5 rfl dX8_partsUpBy_58 rfl ?_
                  refine z_invV (as := [zI a0, zI (a1 - 1), zI a2, zI (a3 - (2 * (Int.tdiv a3 3)))]) (st := []) (C := m_X8_partsUp) (fs := [32, 43, 79]) (pc' := 63) dX8_partsUpBy_60 rfl t_5_110 k_X8_partsUp rfl (by decide) rfl rfl rfl rfl (Nat.le_of_ble_eq_true rfl) ?_
                  have r7037 := h
                  refine z_dcast (d' := d + 2 * n9 + 5) (by omega) (ihr r7037 ?_)
                  show z_Wp m_X8_partsUpBy _ 63 [(0, zR 76), (1, zI 7), (2, zI a0), (3, zI a1), (4, zI a2), (5, zI (a3 - (2 * (Int.tdiv a3 3)))), (6, zI (F_K_comesUp w (F_K_wellOf w a0) 7 a2)), (7, zI a2)] [zI (F_N_partsUp n9 w a0 (a1 - 1) a2 (a3 - (2 * (Int.tdiv a3 3))))] w _
                  refine z_iret rfl dX8_partsUpBy_63 ?_
                  show z_Wp m_X8_partsUp _ 49 [(0, zR 76), (1, zI a0), (2, zI a1), (3, zI a2), (4, zI a3), (5, zI (Int.tdiv a3 3))] [zI (F_N_partsUp n9 w a0 (a1 - 1) a2 (a3 - (2 * (Int.tdiv a3 3)))), zI ((F_N_partsUp n9 w a0 (a1 - 1) a2 (Int.tdiv a3 3)) + (F_N_partsUp n9 w a0 (a1 - 1) (zz_and a2 (zz_xor (zz_shl 1 (F_K_comesUp w (F_K_wellOf w a0) 5 a2)) (-1))) (Int.tdiv a3 3)))] w _
                  refine z_iadd (pc' := 50) dX8_partsUp_49 rfl ?_
                  refine z_iret rfl dX8_partsUp_50 ?_
                  exact k
              · have h := h.1 c
                rw [if_pos c] at k
                refine z_iload (pc' := 28) 5 rfl dX8_partsUpBy_26 rfl ?_
                refine z_iret rfl dX8_partsUpBy_28 ?_
                show z_Wp m_X8_partsUp _ 49 [(0, zR 76), (1, zI a0), (2, zI a1), (3, zI a2), (4, zI a3), (5, zI (Int.tdiv a3 3))] [zI (a3 - (2 * (Int.tdiv a3 3))), zI ((F_N_partsUp n9 w a0 (a1 - 1) a2 (Int.tdiv a3 3)) + (F_N_partsUp n9 w a0 (a1 - 1) (zz_and a2 (zz_xor (zz_shl 1 (F_K_comesUp w (F_K_wellOf w a0) 5 a2)) (-1))) (Int.tdiv a3 3)))] w _
                refine z_iadd (pc' := 50) dX8_partsUp_49 rfl ?_
                refine z_iret rfl dX8_partsUp_50 ?_
                exact k
            · have h := h.1 c
              rw [if_pos c] at k
              refine z_iload (pc' := 37) 4 rfl dX8_partsUpBy_35 rfl ?_
              refine z_goto 49 dX8_partsUpBy_37 (by decide) ?_
              refine z_istore (pc' := 51) (ls' := [(0, zR 76), (1, zI 5), (2, zI a0), (3, zI a1), (4, zI a2), (5, zI (Int.tdiv a3 3)), (6, zI (F_K_comesUp w (F_K_wellOf w a0) 5 a2)), (7, zI a2)]) (by decide) rfl rfl dX8_partsUpBy_49 rfl ?_
              refine z_aload_n (pc' := 52) 0 rfl rfl dX8_partsUpBy_51 rfl ?_
              refine z_iload_n (pc' := 53) 2 rfl rfl dX8_partsUpBy_52 rfl ?_
              refine z_iload_n (pc' := 54) 3 rfl rfl dX8_partsUpBy_53 rfl ?_
              refine z_iconst (pc' := 55) dX8_partsUpBy_54 rfl ?_
              refine z_isub (pc' := 56) dX8_partsUpBy_55 rfl ?_
              refine z_iload (pc' := 58) 7 rfl dX8_partsUpBy_56 rfl ?_
              refine z_iload (pc' := 60) 5 rfl dX8_partsUpBy_58 rfl ?_
              refine z_invV (as := [zI a0, zI (a1 - 1), zI a2, zI (Int.tdiv a3 3)]) (st := []) (C := m_X8_partsUp) (fs := [32, 43, 79]) (pc' := 63) dX8_partsUpBy_60 rfl t_5_110 k_X8_partsUp rfl (by decide) rfl rfl rfl rfl (Nat.le_of_ble_eq_true rfl) ?_
              refine z_dcast (d' := d + 2 * n9 + 5) (by omega) (ihr r1008 ?_)
              show z_Wp m_X8_partsUpBy _ 63 [(0, zR 76), (1, zI 5), (2, zI a0), (3, zI a1), (4, zI a2), (5, zI (Int.tdiv a3 3)), (6, zI (F_K_comesUp w (F_K_wellOf w a0) 5 a2)), (7, zI a2)] [zI (F_N_partsUp n9 w a0 (a1 - 1) a2 (Int.tdiv a3 3))] w _
              refine z_iret rfl dX8_partsUpBy_63 ?_
              show z_Wp m_X8_partsUp _ 32 [(0, zR 76), (1, zI a0), (2, zI a1), (3, zI a2), (4, zI a3), (5, zI (Int.tdiv a3 3))] [zI (F_N_partsUp n9 w a0 (a1 - 1) a2 (Int.tdiv a3 3)), zI (F_N_partsUp n9 w a0 (a1 - 1) a2 (Int.tdiv a3 3))] w _
              refine z_iadd (pc' := 33) dX8_partsUp_32 rfl ?_
              refine z_aload_n (pc' := 34) 0 rfl rfl dX8_partsUp_33 rfl ?_
              refine z_bipush (pc' := 36) (by decide) dX8_partsUp_34 rfl ?_
              refine z_iload_n (pc' := 37) 1 rfl rfl dX8_partsUp_36 rfl ?_
              refine z_iload_n (pc' := 38) 2 rfl rfl dX8_partsUp_37 rfl ?_
              refine z_iload_n (pc' := 39) 3 rfl rfl dX8_partsUp_38 rfl ?_
              refine z_iload (pc' := 41) 4 rfl dX8_partsUp_39 rfl ?_
              refine z_iconst (pc' := 42) dX8_partsUp_41 rfl ?_
              refine z_iload (pc' := 44) 5 rfl dX8_partsUp_42 rfl ?_
              refine z_imul (pc' := 45) dX8_partsUp_44 rfl ?_
              refine z_isub (pc' := 46) dX8_partsUp_45 rfl ?_
              refine z_invV (as := [zI 7, zI a0, zI a1, zI a2, zI (a3 - (2 * (Int.tdiv a3 3)))]) (st := [zI ((F_N_partsUp n9 w a0 (a1 - 1) a2 (Int.tdiv a3 3)) + (F_N_partsUp n9 w a0 (a1 - 1) a2 (Int.tdiv a3 3)))]) (C := m_X8_partsUpBy) (fs := [32, 43, 79]) (pc' := 49) dX8_partsUp_46 rfl t_5_105 k_X8_partsUpBy rfl (by decide) rfl rfl rfl rfl (Nat.le_of_ble_eq_true rfl) ?_
              refine z_enter rfl (Nat.le_of_ble_eq_true rfl) ?_
              show z_Wp m_X8_partsUpBy _ 0 [(0, zR 76), (1, zI 7), (2, zI a0), (3, zI a1), (4, zI a2), (5, zI (a3 - (2 * (Int.tdiv a3 3))))] [] w _
              refine z_aload_n (pc' := 1) 0 rfl rfl dX8_partsUpBy_0 rfl ?_
              refine z_getR (t := 41) (pc' := 4) g_X8_19 (by decide) rfl rfl dX8_partsUpBy_1 rfl ?_
              refine z_aload_n (pc' := 5) 0 rfl rfl dX8_partsUpBy_4 rfl ?_
              refine z_getR (t := 41) (pc' := 8) g_X8_19 (by decide) rfl rfl dX8_partsUpBy_5 rfl ?_
              refine z_iload_n (pc' := 9) 2 rfl rfl dX8_partsUpBy_8 rfl ?_
              refine z_invV (as := [zI a0]) (st := [zR 41]) (C := m_X3_wellOf) (fs := [32, 44, 45, 46, 47, 48, 0, 0, 0]) (pc' := 12) dX8_partsUpBy_9 rfl t_5_109 k_X3_wellOf rfl (by decide) rfl rfl rfl rfl (Nat.le_of_ble_eq_true rfl) ?_
              refine c_K_wellOf r1003 ?_
              show z_Wp m_X8_partsUpBy _ 12 [(0, zR 76), (1, zI 7), (2, zI a0), (3, zI a1), (4, zI a2), (5, zI (a3 - (2 * (Int.tdiv a3 3))))] [zI (F_K_wellOf w a0), zR 41] w _
              refine z_iload_n (pc' := 13) 1 rfl rfl dX8_partsUpBy_12 rfl ?_
              refine z_iload (pc' := 15) 4 rfl dX8_partsUpBy_13 rfl ?_
              refine z_invV (as := [zI (F_K_wellOf w a0), zI 7, zI a2]) (st := []) (C := m_X3_comesUp) (fs := [32, 44, 45, 46, 47, 48, 0, 0, 0]) (pc' := 18) dX8_partsUpBy_15 rfl t_5_71 k_X3_comesUp rfl (by decide) rfl rfl rfl rfl (Nat.le_of_ble_eq_true rfl) ?_
              obtain ⟨r8039, h⟩ := h
              refine c_K_comesUp r8039 ?_
              show z_Wp m_X8_partsUpBy _ 18 [(0, zR 76), (1, zI 7), (2, zI a0), (3, zI a1), (4, zI a2), (5, zI (a3 - (2 * (Int.tdiv a3 3))))] [zI (F_K_comesUp w (F_K_wellOf w a0) 7 a2)] w _
              refine z_istore (pc' := 20) (ls' := [(0, zR 76), (1, zI 7), (2, zI a0), (3, zI a1), (4, zI a2), (5, zI (a3 - (2 * (Int.tdiv a3 3)))), (6, zI (F_K_comesUp w (F_K_wellOf w a0) 7 a2))]) (by decide) rfl rfl dX8_partsUpBy_18 rfl ?_
              refine z_iload (pc' := 22) 6 rfl dX8_partsUpBy_20 rfl ?_
              refine z_iload_n (pc' := 23) 2 rfl rfl dX8_partsUpBy_22 rfl ?_
              obtain ⟨r8040, h⟩ := h
              refine z_icmp_ne 29 dX8_partsUpBy_23 (by decide) (pc' := 26) rfl r8040 r1006 (fun c => ?_) (fun c => ?_)
              · have h := h.2 c
                rw [if_neg c] at k
                refine z_iload (pc' := 31) 6 rfl dX8_partsUpBy_29 rfl ?_
                refine z_iconst (pc' := 32) dX8_partsUpBy_31 rfl ?_
                refine z_icmp_ne 40 dX8_partsUpBy_32 (by decide) (pc' := 35) rfl r8040 (by decide) (fun c => ?_) (fun c => ?_)
                · have h := h.2 c
                  rw [if_neg c] at k
                  refine z_iload (pc' := 42) 4 rfl dX8_partsUpBy_40 rfl ?_
                  refine z_iconst (pc' := 43) dX8_partsUpBy_42 rfl ?_
                  refine z_iload (pc' := 45) 6 rfl dX8_partsUpBy_43 rfl ?_
                  refine z_ishl (pc' := 46) dX8_partsUpBy_45 rfl ?_
                  refine z_iconst (pc' := 47) dX8_partsUpBy_46 rfl ?_
                  refine z_ixor (pc' := 48) dX8_partsUpBy_47 rfl ?_
                  refine z_iand (pc' := 49) dX8_partsUpBy_48 rfl ?_
                  refine z_istore (pc' := 51) (ls' := [(0, zR 76), (1, zI 7), (2, zI a0), (3, zI a1), (4, zI a2), (5, zI (a3 - (2 * (Int.tdiv a3 3)))), (6, zI (F_K_comesUp w (F_K_wellOf w a0) 7 a2)), (7, zI (zz_and a2 (zz_xor (zz_shl 1 (F_K_comesUp w (F_K_wellOf w a0) 7 a2)) (-1))))]) (by decide) rfl rfl dX8_partsUpBy_49 rfl ?_
                  refine z_aload_n (pc' := 52) 0 rfl rfl dX8_partsUpBy_51 rfl ?_
                  refine z_iload_n (pc' := 53) 2 rfl rfl dX8_partsUpBy_52 rfl ?_
                  refine z_iload_n (pc' := 54) 3 rfl rfl dX8_partsUpBy_53 rfl ?_
                  refine z_iconst (pc' := 55) dX8_partsUpBy_54 rfl ?_
                  refine z_isub (pc' := 56) dX8_partsUpBy_55 rfl ?_
                  refine z_iload (pc' := 58) 7 rfl dX8_partsUpBy_56 rfl ?_
                  refine z_iload (pc' := 60) 5 rfl dX8_partsUpBy_58 rfl ?_
                  refine z_invV (as := [zI a0, zI (a1 - 1), zI (zz_and a2 (zz_xor (zz_shl 1 (F_K_comesUp w (F_K_wellOf w a0) 7 a2)) (-1))), zI (a3 - (2 * (Int.tdiv a3 3)))]) (st := []) (C := m_X8_partsUp) (fs := [32, 43, 79]) (pc' := 63) dX8_partsUpBy_60 rfl t_5_110 k_X8_partsUp rfl (by decide) rfl rfl rfl rfl (Nat.le_of_ble_eq_true rfl) ?_
                  have r8041 := h
                  refine z_dcast (d' := d + 2 * n9 + 5) (by omega) (ihr r8041 ?_)
                  show z_Wp m_X8_partsUpBy _ 63 [(0, zR 76), (1, zI 7), (2, zI a0), (3, zI a1), (4, zI a2), (5, zI (a3 - (2 * (Int.tdiv a3 3)))), (6, zI (F_K_comesUp w (F_K_wellOf w a0) 7 a2)), (7, zI (zz_and a2 (zz_xor (zz_shl 1 (F_K_comesUp w (F_K_wellOf w a0) 7 a2)) (-1))))] [zI (F_N_partsUp n9 w a0 (a1 - 1) (zz_and a2 (zz_xor (zz_shl 1 (F_K_comesUp w (F_K_wellOf w a0) 7 a2)) (-1))) (a3 - (2 * (Int.tdiv a3 3))))] w _
                  refine z_iret rfl dX8_partsUpBy_63 ?_
                  show z_Wp m_X8_partsUp _ 49 [(0, zR 76), (1, zI a0), (2, zI a1), (3, zI a2), (4, zI a3), (5, zI (Int.tdiv a3 3))] [zI (F_N_partsUp n9 w a0 (a1 - 1) (zz_and a2 (zz_xor (zz_shl 1 (F_K_comesUp w (F_K_wellOf w a0) 7 a2)) (-1))) (a3 - (2 * (Int.tdiv a3 3)))), zI ((F_N_partsUp n9 w a0 (a1 - 1) a2 (Int.tdiv a3 3)) + (F_N_partsUp n9 w a0 (a1 - 1) a2 (Int.tdiv a3 3)))] w _
                  refine z_iadd (pc' := 50) dX8_partsUp_49 rfl ?_
                  refine z_iret rfl dX8_partsUp_50 ?_
                  exact k
                · have h := h.1 c
                  rw [if_pos c] at k
                  refine z_iload (pc' := 37) 4 rfl dX8_partsUpBy_35 rfl ?_
                  refine z_goto 49 dX8_partsUpBy_37 (by decide) ?_
                  refine z_istore (pc' := 51) (ls' := [(0, zR 76), (1, zI 7), (2, zI a0), (3, zI a1), (4, zI a2), (5, zI (a3 - (2 * (Int.tdiv a3 3)))), (6, zI (F_K_comesUp w (F_K_wellOf w a0) 7 a2)), (7, zI a2)]) (by decide) rfl rfl dX8_partsUpBy_49 rfl ?_
                  refine z_aload_n (pc' := 52) 0 rfl rfl dX8_partsUpBy_51 rfl ?_
                  refine z_iload_n (pc' := 53) 2 rfl rfl dX8_partsUpBy_52 rfl ?_
                  refine z_iload_n (pc' := 54) 3 rfl rfl dX8_partsUpBy_53 rfl ?_
                  refine z_iconst (pc' := 55) dX8_partsUpBy_54 rfl ?_
                  refine z_isub (pc' := 56) dX8_partsUpBy_55 rfl ?_
                  refine z_iload (pc' := 58) 7 rfl dX8_partsUpBy_56 rfl ?_
                  refine z_iload (pc' := 60) 5 rfl dX8_partsUpBy_58 rfl ?_
                  refine z_invV (as := [zI a0, zI (a1 - 1), zI a2, zI (a3 - (2 * (Int.tdiv a3 3)))]) (st := []) (C := m_X8_partsUp) (fs := [32, 43, 79]) (pc' := 63) dX8_partsUpBy_60 rfl t_5_110 k_X8_partsUp rfl (by decide) rfl rfl rfl rfl (Nat.le_of_ble_eq_true rfl) ?_
                  have r8042 := h
                  refine z_dcast (d' := d + 2 * n9 + 5) (by omega) (ihr r8042 ?_)
                  show z_Wp m_X8_partsUpBy _ 63 [(0, zR 76), (1, zI 7), (2, zI a0), (3, zI a1), (4, zI a2), (5, zI (a3 - (2 * (Int.tdiv a3 3)))), (6, zI (F_K_comesUp w (F_K_wellOf w a0) 7 a2)), (7, zI a2)] [zI (F_N_partsUp n9 w a0 (a1 - 1) a2 (a3 - (2 * (Int.tdiv a3 3))))] w _
                  refine z_iret rfl dX8_partsUpBy_63 ?_
                  show z_Wp m_X8_partsUp _ 49 [(0, zR 76), (1, zI a0), (2, zI a1), (3, zI a2), (4, zI a3), (5, zI (Int.tdiv a3 3))] [zI (F_N_partsUp n9 w a0 (a1 - 1) a2 (a3 - (2 * (Int.tdiv a3 3)))), zI ((F_N_partsUp n9 w a0 (a1 - 1) a2 (Int.tdiv a3 3)) + (F_N_partsUp n9 w a0 (a1 - 1) a2 (Int.tdiv a3 3)))] w _
                  refine z_iadd (pc' := 50) dX8_partsUp_49 rfl ?_
                  refine z_iret rfl dX8_partsUp_50 ?_
                  exact k
              · have h := h.1 c
                rw [if_pos c] at k
                refine z_iload (pc' := 28) 5 rfl dX8_partsUpBy_26 rfl ?_
                refine z_iret rfl dX8_partsUpBy_28 ?_
                show z_Wp m_X8_partsUp _ 49 [(0, zR 76), (1, zI a0), (2, zI a1), (3, zI a2), (4, zI a3), (5, zI (Int.tdiv a3 3))] [zI (a3 - (2 * (Int.tdiv a3 3))), zI ((F_N_partsUp n9 w a0 (a1 - 1) a2 (Int.tdiv a3 3)) + (F_N_partsUp n9 w a0 (a1 - 1) a2 (Int.tdiv a3 3)))] w _
                refine z_iadd (pc' := 50) dX8_partsUp_49 rfl ?_
                refine z_iret rfl dX8_partsUp_50 ?_
                exact k
          · have h := h.1 c
            rw [if_pos c] at k
            refine z_iload (pc' := 28) 5 rfl dX8_partsUpBy_26 rfl ?_
            refine z_iret rfl dX8_partsUpBy_28 ?_
            show z_Wp m_X8_partsUp _ 32 [(0, zR 76), (1, zI a0), (2, zI a1), (3, zI a2), (4, zI a3), (5, zI (Int.tdiv a3 3))] [zI (Int.tdiv a3 3), zI (F_N_partsUp n9 w a0 (a1 - 1) a2 (Int.tdiv a3 3))] w _
            refine z_iadd (pc' := 33) dX8_partsUp_32 rfl ?_
            refine z_aload_n (pc' := 34) 0 rfl rfl dX8_partsUp_33 rfl ?_
            refine z_bipush (pc' := 36) (by decide) dX8_partsUp_34 rfl ?_
            refine z_iload_n (pc' := 37) 1 rfl rfl dX8_partsUp_36 rfl ?_
            refine z_iload_n (pc' := 38) 2 rfl rfl dX8_partsUp_37 rfl ?_
            refine z_iload_n (pc' := 39) 3 rfl rfl dX8_partsUp_38 rfl ?_
            refine z_iload (pc' := 41) 4 rfl dX8_partsUp_39 rfl ?_
            refine z_iconst (pc' := 42) dX8_partsUp_41 rfl ?_
            refine z_iload (pc' := 44) 5 rfl dX8_partsUp_42 rfl ?_
            refine z_imul (pc' := 45) dX8_partsUp_44 rfl ?_
            refine z_isub (pc' := 46) dX8_partsUp_45 rfl ?_
            refine z_invV (as := [zI 7, zI a0, zI a1, zI a2, zI (a3 - (2 * (Int.tdiv a3 3)))]) (st := [zI ((F_N_partsUp n9 w a0 (a1 - 1) a2 (Int.tdiv a3 3)) + (Int.tdiv a3 3))]) (C := m_X8_partsUpBy) (fs := [32, 43, 79]) (pc' := 49) dX8_partsUp_46 rfl t_5_105 k_X8_partsUpBy rfl (by decide) rfl rfl rfl rfl (Nat.le_of_ble_eq_true rfl) ?_
            refine z_enter rfl (Nat.le_of_ble_eq_true rfl) ?_
            show z_Wp m_X8_partsUpBy _ 0 [(0, zR 76), (1, zI 7), (2, zI a0), (3, zI a1), (4, zI a2), (5, zI (a3 - (2 * (Int.tdiv a3 3))))] [] w _
            refine z_aload_n (pc' := 1) 0 rfl rfl dX8_partsUpBy_0 rfl ?_
            refine z_getR (t := 41) (pc' := 4) g_X8_19 (by decide) rfl rfl dX8_partsUpBy_1 rfl ?_
            refine z_aload_n (pc' := 5) 0 rfl rfl dX8_partsUpBy_4 rfl ?_
            refine z_getR (t := 41) (pc' := 8) g_X8_19 (by decide) rfl rfl dX8_partsUpBy_5 rfl ?_
            refine z_iload_n (pc' := 9) 2 rfl rfl dX8_partsUpBy_8 rfl ?_
            refine z_invV (as := [zI a0]) (st := [zR 41]) (C := m_X3_wellOf) (fs := [32, 44, 45, 46, 47, 48, 0, 0, 0]) (pc' := 12) dX8_partsUpBy_9 rfl t_5_109 k_X3_wellOf rfl (by decide) rfl rfl rfl rfl (Nat.le_of_ble_eq_true rfl) ?_
            refine c_K_wellOf r1003 ?_
            show z_Wp m_X8_partsUpBy _ 12 [(0, zR 76), (1, zI 7), (2, zI a0), (3, zI a1), (4, zI a2), (5, zI (a3 - (2 * (Int.tdiv a3 3))))] [zI (F_K_wellOf w a0), zR 41] w _
            refine z_iload_n (pc' := 13) 1 rfl rfl dX8_partsUpBy_12 rfl ?_
            refine z_iload (pc' := 15) 4 rfl dX8_partsUpBy_13 rfl ?_
            refine z_invV (as := [zI (F_K_wellOf w a0), zI 7, zI a2]) (st := []) (C := m_X3_comesUp) (fs := [32, 44, 45, 46, 47, 48, 0, 0, 0]) (pc' := 18) dX8_partsUpBy_15 rfl t_5_71 k_X3_comesUp rfl (by decide) rfl rfl rfl rfl (Nat.le_of_ble_eq_true rfl) ?_
            obtain ⟨r9044, h⟩ := h
            refine c_K_comesUp r9044 ?_
            show z_Wp m_X8_partsUpBy _ 18 [(0, zR 76), (1, zI 7), (2, zI a0), (3, zI a1), (4, zI a2), (5, zI (a3 - (2 * (Int.tdiv a3 3))))] [zI (F_K_comesUp w (F_K_wellOf w a0) 7 a2)] w _
            refine z_istore (pc' := 20) (ls' := [(0, zR 76), (1, zI 7), (2, zI a0), (3, zI a1), (4, zI a2), (5, zI (a3 - (2 * (Int.tdiv a3 3)))), (6, zI (F_K_comesUp w (F_K_wellOf w a0) 7 a2))]) (by decide) rfl rfl dX8_partsUpBy_18 rfl ?_
            refine z_iload (pc' := 22) 6 rfl dX8_partsUpBy_20 rfl ?_
            refine z_iload_n (pc' := 23) 2 rfl rfl dX8_partsUpBy_22 rfl ?_
            obtain ⟨r9045, h⟩ := h
            refine z_icmp_ne 29 dX8_partsUpBy_23 (by decide) (pc' := 26) rfl r9045 r1006 (fun c => ?_) (fun c => ?_)
            · have h := h.2 c
              rw [if_neg c] at k
              refine z_iload (pc' := 31) 6 rfl dX8_partsUpBy_29 rfl ?_
              refine z_iconst (pc' := 32) dX8_partsUpBy_31 rfl ?_
              refine z_icmp_ne 40 dX8_partsUpBy_32 (by decide) (pc' := 35) rfl r9045 (by decide) (fun c => ?_) (fun c => ?_)
              · have h := h.2 c
                rw [if_neg c] at k
                refine z_iload (pc' := 42) 4 rfl dX8_partsUpBy_40 rfl ?_
                refine z_iconst (pc' := 43) dX8_partsUpBy_42 rfl ?_
                refine z_iload (pc' := 45) 6 rfl dX8_partsUpBy_43 rfl ?_
                refine z_ishl (pc' := 46) dX8_partsUpBy_45 rfl ?_
                refine z_iconst (pc' := 47) dX8_partsUpBy_46 rfl ?_
                refine z_ixor (pc' := 48) dX8_partsUpBy_47 rfl ?_
                refine z_iand (pc' := 49) dX8_partsUpBy_48 rfl ?_
                refine z_istore (pc' := 51) (ls' := [(0, zR 76), (1, zI 7), (2, zI a0), (3, zI a1), (4, zI a2), (5, zI (a3 - (2 * (Int.tdiv a3 3)))), (6, zI (F_K_comesUp w (F_K_wellOf w a0) 7 a2)), (7, zI (zz_and a2 (zz_xor (zz_shl 1 (F_K_comesUp w (F_K_wellOf w a0) 7 a2)) (-1))))]) (by decide) rfl rfl dX8_partsUpBy_49 rfl ?_
                refine z_aload_n (pc' := 52) 0 rfl rfl dX8_partsUpBy_51 rfl ?_
                refine z_iload_n (pc' := 53) 2 rfl rfl dX8_partsUpBy_52 rfl ?_
                refine z_iload_n (pc' := 54) 3 rfl rfl dX8_partsUpBy_53 rfl ?_
                refine z_iconst (pc' := 55) dX8_partsUpBy_54 rfl ?_
                refine z_isub (pc' := 56) dX8_partsUpBy_55 rfl ?_
                refine z_iload (pc' := 58) 7 rfl dX8_partsUpBy_56 rfl ?_
                refine z_iload (pc' := 60) 5 rfl dX8_partsUpBy_58 rfl ?_
                refine z_invV (as := [zI a0, zI (a1 - 1), zI (zz_and a2 (zz_xor (zz_shl 1 (F_K_comesUp w (F_K_wellOf w a0) 7 a2)) (-1))), zI (a3 - (2 * (Int.tdiv a3 3)))]) (st := []) (C := m_X8_partsUp) (fs := [32, 43, 79]) (pc' := 63) dX8_partsUpBy_60 rfl t_5_110 k_X8_partsUp rfl (by decide) rfl rfl rfl rfl (Nat.le_of_ble_eq_true rfl) ?_
                have r9046 := h
                refine z_dcast (d' := d + 2 * n9 + 5) (by omega) (ihr r9046 ?_)
                show z_Wp m_X8_partsUpBy _ 63 [(0, zR 76), (1, zI 7), (2, zI a0), (3, zI a1), (4, zI a2), (5, zI (a3 - (2 * (Int.tdiv a3 3)))), (6, zI (F_K_comesUp w (F_K_wellOf w a0) 7 a2)), (7, zI (zz_and a2 (zz_xor (zz_shl 1 (F_K_comesUp w (F_K_wellOf w a0) 7 a2)) (-1))))] [zI (F_N_partsUp n9 w a0 (a1 - 1) (zz_and a2 (zz_xor (zz_shl 1 (F_K_comesUp w (F_K_wellOf w a0) 7 a2)) (-1))) (a3 - (2 * (Int.tdiv a3 3))))] w _
                refine z_iret rfl dX8_partsUpBy_63 ?_
                show z_Wp m_X8_partsUp _ 49 [(0, zR 76), (1, zI a0), (2, zI a1), (3, zI a2), (4, zI a3), (5, zI (Int.tdiv a3 3))] [zI (F_N_partsUp n9 w a0 (a1 - 1) (zz_and a2 (zz_xor (zz_shl 1 (F_K_comesUp w (F_K_wellOf w a0) 7 a2)) (-1))) (a3 - (2 * (Int.tdiv a3 3)))), zI ((F_N_partsUp n9 w a0 (a1 - 1) a2 (Int.tdiv a3 3)) + (Int.tdiv a3 3))] w _
                refine z_iadd (pc' := 50) dX8_partsUp_49 rfl ?_
                refine z_iret rfl dX8_partsUp_50 ?_
                exact k
              · have h := h.1 c
                rw [if_pos c] at k
                refine z_iload (pc' := 37) 4 rfl dX8_partsUpBy_35 rfl ?_
                refine z_goto 49 dX8_partsUpBy_37 (by decide) ?_
                refine z_istore (pc' := 51) (ls' := [(0, zR 76), (1, zI 7), (2, zI a0), (3, zI a1), (4, zI a2), (5, zI (a3 - (2 * (Int.tdiv a3 3)))), (6, zI (F_K_comesUp w (F_K_wellOf w a0) 7 a2)), (7, zI a2)]) (by decide) rfl rfl dX8_partsUpBy_49 rfl ?_
                refine z_aload_n (pc' := 52) 0 rfl rfl dX8_partsUpBy_51 rfl ?_
                refine z_iload_n (pc' := 53) 2 rfl rfl dX8_partsUpBy_52 rfl ?_
                refine z_iload_n (pc' := 54) 3 rfl rfl dX8_partsUpBy_53 rfl ?_
                refine z_iconst (pc' := 55) dX8_partsUpBy_54 rfl ?_
                refine z_isub (pc' := 56) dX8_partsUpBy_55 rfl ?_
                refine z_iload (pc' := 58) 7 rfl dX8_partsUpBy_56 rfl ?_
                refine z_iload (pc' := 60) 5 rfl dX8_partsUpBy_58 rfl ?_
                refine z_invV (as := [zI a0, zI (a1 - 1), zI a2, zI (a3 - (2 * (Int.tdiv a3 3)))]) (st := []) (C := m_X8_partsUp) (fs := [32, 43, 79]) (pc' := 63) dX8_partsUpBy_60 rfl t_5_110 k_X8_partsUp rfl (by decide) rfl rfl rfl rfl (Nat.le_of_ble_eq_true rfl) ?_
                have r9047 := h
                refine z_dcast (d' := d + 2 * n9 + 5) (by omega) (ihr r9047 ?_)
                show z_Wp m_X8_partsUpBy _ 63 [(0, zR 76), (1, zI 7), (2, zI a0), (3, zI a1), (4, zI a2), (5, zI (a3 - (2 * (Int.tdiv a3 3)))), (6, zI (F_K_comesUp w (F_K_wellOf w a0) 7 a2)), (7, zI a2)] [zI (F_N_partsUp n9 w a0 (a1 - 1) a2 (a3 - (2 * (Int.tdiv a3 3))))] w _
                refine z_iret rfl dX8_partsUpBy_63 ?_
                show z_Wp m_X8_partsUp _ 49 [(0, zR 76), (1, zI a0), (2, zI a1), (3, zI a2), (4, zI a3), (5, zI (Int.tdiv a3 3))] [zI (F_N_partsUp n9 w a0 (a1 - 1) a2 (a3 - (2 * (Int.tdiv a3 3)))), zI ((F_N_partsUp n9 w a0 (a1 - 1) a2 (Int.tdiv a3 3)) + (Int.tdiv a3 3))] w _
                refine z_iadd (pc' := 50) dX8_partsUp_49 rfl ?_
                refine z_iret rfl dX8_partsUp_50 ?_
                exact k
            · have h := h.1 c
              rw [if_pos c] at k
              refine z_iload (pc' := 28) 5 rfl dX8_partsUpBy_26 rfl ?_
              refine z_iret rfl dX8_partsUpBy_28 ?_
              show z_Wp m_X8_partsUp _ 49 [(0, zR 76), (1, zI a0), (2, zI a1), (3, zI a2), (4, zI a3), (5, zI (Int.tdiv a3 3))] [zI (a3 - (2 * (Int.tdiv a3 3))), zI ((F_N_partsUp n9 w a0 (a1 - 1) a2 (Int.tdiv a3 3)) + (Int.tdiv a3 3))] w _
              refine z_iadd (pc' := 50) dX8_partsUp_49 rfl ?_
              refine z_iret rfl dX8_partsUp_50 ?_
              exact k
      · have h := h.1 c
        rw [if_pos c] at k
        refine z_iload (pc' := 28) 5 rfl dX8_partsUpBy_26 rfl ?_
        refine z_iret rfl dX8_partsUpBy_28 ?_
        show z_Wp m_X8_partsUp _ 22 [(0, zR 76), (1, zI a0), (2, zI a1), (3, zI a2), (4, zI a3), (5, zI (Int.tdiv a3 3))] [zI (Int.tdiv a3 3)] w _
        refine z_aload_n (pc' := 23) 0 rfl rfl dX8_partsUp_22 rfl ?_
        refine z_iconst (pc' := 24) dX8_partsUp_23 rfl ?_
        refine z_iload_n (pc' := 25) 1 rfl rfl dX8_partsUp_24 rfl ?_
        refine z_iload_n (pc' := 26) 2 rfl rfl dX8_partsUp_25 rfl ?_
        refine z_iload_n (pc' := 27) 3 rfl rfl dX8_partsUp_26 rfl ?_
        refine z_iload (pc' := 29) 5 rfl dX8_partsUp_27 rfl ?_
        refine z_invV (as := [zI 5, zI a0, zI a1, zI a2, zI (Int.tdiv a3 3)]) (st := [zI (Int.tdiv a3 3)]) (C := m_X8_partsUpBy) (fs := [32, 43, 79]) (pc' := 32) dX8_partsUp_29 rfl t_5_105 k_X8_partsUpBy rfl (by decide) rfl rfl rfl rfl (Nat.le_of_ble_eq_true rfl) ?_
        refine z_enter rfl (Nat.le_of_ble_eq_true rfl) ?_
        show z_Wp m_X8_partsUpBy _ 0 [(0, zR 76), (1, zI 5), (2, zI a0), (3, zI a1), (4, zI a2), (5, zI (Int.tdiv a3 3))] [] w _
        refine z_aload_n (pc' := 1) 0 rfl rfl dX8_partsUpBy_0 rfl ?_
        refine z_getR (t := 41) (pc' := 4) g_X8_19 (by decide) rfl rfl dX8_partsUpBy_1 rfl ?_
        refine z_aload_n (pc' := 5) 0 rfl rfl dX8_partsUpBy_4 rfl ?_
        refine z_getR (t := 41) (pc' := 8) g_X8_19 (by decide) rfl rfl dX8_partsUpBy_5 rfl ?_
        refine z_iload_n (pc' := 9) 2 rfl rfl dX8_partsUpBy_8 rfl ?_
        refine z_invV (as := [zI a0]) (st := [zR 41]) (C := m_X3_wellOf) (fs := [32, 44, 45, 46, 47, 48, 0, 0, 0]) (pc' := 12) dX8_partsUpBy_9 rfl t_5_109 k_X3_wellOf rfl (by decide) rfl rfl rfl rfl (Nat.le_of_ble_eq_true rfl) ?_
        refine c_K_wellOf r1003 ?_
        show z_Wp m_X8_partsUpBy _ 12 [(0, zR 76), (1, zI 5), (2, zI a0), (3, zI a1), (4, zI a2), (5, zI (Int.tdiv a3 3))] [zI (F_K_wellOf w a0), zR 41] w _
        refine z_iload_n (pc' := 13) 1 rfl rfl dX8_partsUpBy_12 rfl ?_
        refine z_iload (pc' := 15) 4 rfl dX8_partsUpBy_13 rfl ?_
        refine z_invV (as := [zI (F_K_wellOf w a0), zI 5, zI a2]) (st := []) (C := m_X3_comesUp) (fs := [32, 44, 45, 46, 47, 48, 0, 0, 0]) (pc' := 18) dX8_partsUpBy_15 rfl t_5_71 k_X3_comesUp rfl (by decide) rfl rfl rfl rfl (Nat.le_of_ble_eq_true rfl) ?_
        obtain ⟨r10049, h⟩ := h
        refine c_K_comesUp r10049 ?_
        show z_Wp m_X8_partsUpBy _ 18 [(0, zR 76), (1, zI 5), (2, zI a0), (3, zI a1), (4, zI a2), (5, zI (Int.tdiv a3 3))] [zI (F_K_comesUp w (F_K_wellOf w a0) 5 a2)] w _
        refine z_istore (pc' := 20) (ls' := [(0, zR 76), (1, zI 5), (2, zI a0), (3, zI a1), (4, zI a2), (5, zI (Int.tdiv a3 3)), (6, zI (F_K_comesUp w (F_K_wellOf w a0) 5 a2))]) (by decide) rfl rfl dX8_partsUpBy_18 rfl ?_
        refine z_iload (pc' := 22) 6 rfl dX8_partsUpBy_20 rfl ?_
        refine z_iload_n (pc' := 23) 2 rfl rfl dX8_partsUpBy_22 rfl ?_
        obtain ⟨r10050, h⟩ := h
        refine z_icmp_ne 29 dX8_partsUpBy_23 (by decide) (pc' := 26) rfl r10050 r1006 (fun c => ?_) (fun c => ?_)
        · have h := h.2 c
          rw [if_neg c] at k
          refine z_iload (pc' := 31) 6 rfl dX8_partsUpBy_29 rfl ?_
          refine z_iconst (pc' := 32) dX8_partsUpBy_31 rfl ?_
          refine z_icmp_ne 40 dX8_partsUpBy_32 (by decide) (pc' := 35) rfl r10050 (by decide) (fun c => ?_) (fun c => ?_)
          · have h := h.2 c
            rw [if_neg c] at k
            refine z_iload (pc' := 42) 4 rfl dX8_partsUpBy_40 rfl ?_
            refine z_iconst (pc' := 43) dX8_partsUpBy_42 rfl ?_
            refine z_iload (pc' := 45) 6 rfl dX8_partsUpBy_43 rfl ?_
            refine z_ishl (pc' := 46) dX8_partsUpBy_45 rfl ?_
            refine z_iconst (pc' := 47) dX8_partsUpBy_46 rfl ?_
            refine z_ixor (pc' := 48) dX8_partsUpBy_47 rfl ?_
            refine z_iand (pc' := 49) dX8_partsUpBy_48 rfl ?_
            refine z_istore (pc' := 51) (ls' := [(0, zR 76), (1, zI 5), (2, zI a0), (3, zI a1), (4, zI a2), (5, zI (Int.tdiv a3 3)), (6, zI (F_K_comesUp w (F_K_wellOf w a0) 5 a2)), (7, zI (zz_and a2 (zz_xor (zz_shl 1 (F_K_comesUp w (F_K_wellOf w a0) 5 a2)) (-1))))]) (by decide) rfl rfl dX8_partsUpBy_49 rfl ?_
            refine z_aload_n (pc' := 52) 0 rfl rfl dX8_partsUpBy_51 rfl ?_
            refine z_iload_n (pc' := 53) 2 rfl rfl dX8_partsUpBy_52 rfl ?_
            refine z_iload_n (pc' := 54) 3 rfl rfl dX8_partsUpBy_53 rfl ?_
            refine z_iconst (pc' := 55) dX8_partsUpBy_54 rfl ?_
            refine z_isub (pc' := 56) dX8_partsUpBy_55 rfl ?_
            refine z_iload (pc' := 58) 7 rfl dX8_partsUpBy_56 rfl ?_
            refine z_iload (pc' := 60) 5 rfl dX8_partsUpBy_58 rfl ?_
            refine z_invV (as := [zI a0, zI (a1 - 1), zI (zz_and a2 (zz_xor (zz_shl 1 (F_K_comesUp w (F_K_wellOf w a0) 5 a2)) (-1))), zI (Int.tdiv a3 3)]) (st := []) (C := m_X8_partsUp) (fs := [32, 43, 79]) (pc' := 63) dX8_partsUpBy_60 rfl t_5_110 k_X8_partsUp rfl (by decide) rfl rfl rfl rfl (Nat.le_of_ble_eq_true rfl) ?_
            obtain ⟨r10051, h⟩ := h
            refine z_dcast (d' := d + 2 * n9 + 5) (by omega) (ihr r10051 ?_)
            show z_Wp m_X8_partsUpBy _ 63 [(0, zR 76), (1, zI 5), (2, zI a0), (3, zI a1), (4, zI a2), (5, zI (Int.tdiv a3 3)), (6, zI (F_K_comesUp w (F_K_wellOf w a0) 5 a2)), (7, zI (zz_and a2 (zz_xor (zz_shl 1 (F_K_comesUp w (F_K_wellOf w a0) 5 a2)) (-1))))] [zI (F_N_partsUp n9 w a0 (a1 - 1) (zz_and a2 (zz_xor (zz_shl 1 (F_K_comesUp w (F_K_wellOf w a0) 5 a2)) (-1))) (Int.tdiv a3 3))] w _
            refine z_iret rfl dX8_partsUpBy_63 ?_
            show z_Wp m_X8_partsUp _ 32 [(0, zR 76), (1, zI a0), (2, zI a1), (3, zI a2), (4, zI a3), (5, zI (Int.tdiv a3 3))] [zI (F_N_partsUp n9 w a0 (a1 - 1) (zz_and a2 (zz_xor (zz_shl 1 (F_K_comesUp w (F_K_wellOf w a0) 5 a2)) (-1))) (Int.tdiv a3 3)), zI (Int.tdiv a3 3)] w _
            refine z_iadd (pc' := 33) dX8_partsUp_32 rfl ?_
            refine z_aload_n (pc' := 34) 0 rfl rfl dX8_partsUp_33 rfl ?_
            refine z_bipush (pc' := 36) (by decide) dX8_partsUp_34 rfl ?_
            refine z_iload_n (pc' := 37) 1 rfl rfl dX8_partsUp_36 rfl ?_
            refine z_iload_n (pc' := 38) 2 rfl rfl dX8_partsUp_37 rfl ?_
            refine z_iload_n (pc' := 39) 3 rfl rfl dX8_partsUp_38 rfl ?_
            refine z_iload (pc' := 41) 4 rfl dX8_partsUp_39 rfl ?_
            refine z_iconst (pc' := 42) dX8_partsUp_41 rfl ?_
            refine z_iload (pc' := 44) 5 rfl dX8_partsUp_42 rfl ?_
            refine z_imul (pc' := 45) dX8_partsUp_44 rfl ?_
            refine z_isub (pc' := 46) dX8_partsUp_45 rfl ?_
            refine z_invV (as := [zI 7, zI a0, zI a1, zI a2, zI (a3 - (2 * (Int.tdiv a3 3)))]) (st := [zI ((Int.tdiv a3 3) + (F_N_partsUp n9 w a0 (a1 - 1) (zz_and a2 (zz_xor (zz_shl 1 (F_K_comesUp w (F_K_wellOf w a0) 5 a2)) (-1))) (Int.tdiv a3 3)))]) (C := m_X8_partsUpBy) (fs := [32, 43, 79]) (pc' := 49) dX8_partsUp_46 rfl t_5_105 k_X8_partsUpBy rfl (by decide) rfl rfl rfl rfl (Nat.le_of_ble_eq_true rfl) ?_
            refine z_enter rfl (Nat.le_of_ble_eq_true rfl) ?_
            show z_Wp m_X8_partsUpBy _ 0 [(0, zR 76), (1, zI 7), (2, zI a0), (3, zI a1), (4, zI a2), (5, zI (a3 - (2 * (Int.tdiv a3 3))))] [] w _
            refine z_aload_n (pc' := 1) 0 rfl rfl dX8_partsUpBy_0 rfl ?_
            refine z_getR (t := 41) (pc' := 4) g_X8_19 (by decide) rfl rfl dX8_partsUpBy_1 rfl ?_
            refine z_aload_n (pc' := 5) 0 rfl rfl dX8_partsUpBy_4 rfl ?_
            refine z_getR (t := 41) (pc' := 8) g_X8_19 (by decide) rfl rfl dX8_partsUpBy_5 rfl ?_
            refine z_iload_n (pc' := 9) 2 rfl rfl dX8_partsUpBy_8 rfl ?_
            refine z_invV (as := [zI a0]) (st := [zR 41]) (C := m_X3_wellOf) (fs := [32, 44, 45, 46, 47, 48, 0, 0, 0]) (pc' := 12) dX8_partsUpBy_9 rfl t_5_109 k_X3_wellOf rfl (by decide) rfl rfl rfl rfl (Nat.le_of_ble_eq_true rfl) ?_
            refine c_K_wellOf r1003 ?_
            show z_Wp m_X8_partsUpBy _ 12 [(0, zR 76), (1, zI 7), (2, zI a0), (3, zI a1), (4, zI a2), (5, zI (a3 - (2 * (Int.tdiv a3 3))))] [zI (F_K_wellOf w a0), zR 41] w _
            refine z_iload_n (pc' := 13) 1 rfl rfl dX8_partsUpBy_12 rfl ?_
            refine z_iload (pc' := 15) 4 rfl dX8_partsUpBy_13 rfl ?_
            refine z_invV (as := [zI (F_K_wellOf w a0), zI 7, zI a2]) (st := []) (C := m_X3_comesUp) (fs := [32, 44, 45, 46, 47, 48, 0, 0, 0]) (pc' := 18) dX8_partsUpBy_15 rfl t_5_71 k_X3_comesUp rfl (by decide) rfl rfl rfl rfl (Nat.le_of_ble_eq_true rfl) ?_
            obtain ⟨r11054, h⟩ := h
            refine c_K_comesUp r11054 ?_
            show z_Wp m_X8_partsUpBy _ 18 [(0, zR 76), (1, zI 7), (2, zI a0), (3, zI a1), (4, zI a2), (5, zI (a3 - (2 * (Int.tdiv a3 3))))] [zI (F_K_comesUp w (F_K_wellOf w a0) 7 a2)] w _
            refine z_istore (pc' := 20) (ls' := [(0, zR 76), (1, zI 7), (2, zI a0), (3, zI a1), (4, zI a2), (5, zI (a3 - (2 * (Int.tdiv a3 3)))), (6, zI (F_K_comesUp w (F_K_wellOf w a0) 7 a2))]) (by decide) rfl rfl dX8_partsUpBy_18 rfl ?_
            refine z_iload (pc' := 22) 6 rfl dX8_partsUpBy_20 rfl ?_
            refine z_iload_n (pc' := 23) 2 rfl rfl dX8_partsUpBy_22 rfl ?_
            obtain ⟨r11055, h⟩ := h
            refine z_icmp_ne 29 dX8_partsUpBy_23 (by decide) (pc' := 26) rfl r11055 r1006 (fun c => ?_) (fun c => ?_)
            · have h := h.2 c
              rw [if_neg c] at k
              refine z_iload (pc' := 31) 6 rfl dX8_partsUpBy_29 rfl ?_
              refine z_iconst (pc' := 32) dX8_partsUpBy_31 rfl ?_
              refine z_icmp_ne 40 dX8_partsUpBy_32 (by decide) (pc' := 35) rfl r11055 (by decide) (fun c => ?_) (fun c => ?_)
              · have h := h.2 c
                rw [if_neg c] at k
                refine z_iload (pc' := 42) 4 rfl dX8_partsUpBy_40 rfl ?_
                refine z_iconst (pc' := 43) dX8_partsUpBy_42 rfl ?_
                refine z_iload (pc' := 45) 6 rfl dX8_partsUpBy_43 rfl ?_
                refine z_ishl (pc' := 46) dX8_partsUpBy_45 rfl ?_
                refine z_iconst (pc' := 47) dX8_partsUpBy_46 rfl ?_
                refine z_ixor (pc' := 48) dX8_partsUpBy_47 rfl ?_
                refine z_iand (pc' := 49) dX8_partsUpBy_48 rfl ?_
                refine z_istore (pc' := 51) (ls' := [(0, zR 76), (1, zI 7), (2, zI a0), (3, zI a1), (4, zI a2), (5, zI (a3 - (2 * (Int.tdiv a3 3)))), (6, zI (F_K_comesUp w (F_K_wellOf w a0) 7 a2)), (7, zI (zz_and a2 (zz_xor (zz_shl 1 (F_K_comesUp w (F_K_wellOf w a0) 7 a2)) (-1))))]) (by decide) rfl rfl dX8_partsUpBy_49 rfl ?_
                refine z_aload_n (pc' := 52) 0 rfl rfl dX8_partsUpBy_51 rfl ?_
                refine z_iload_n (pc' := 53) 2 rfl rfl dX8_partsUpBy_52 rfl ?_
                refine z_iload_n (pc' := 54) 3 rfl rfl dX8_partsUpBy_53 rfl ?_
                refine z_iconst (pc' := 55) dX8_partsUpBy_54 rfl ?_
                refine z_isub (pc' := 56) dX8_partsUpBy_55 rfl ?_
                refine z_iload (pc' := 58) 7 rfl dX8_partsUpBy_56 rfl ?_
                refine z_iload (pc' := 60) 5 rfl dX8_partsUpBy_58 rfl ?_
                refine z_invV (as := [zI a0, zI (a1 - 1), zI (zz_and a2 (zz_xor (zz_shl 1 (F_K_comesUp w (F_K_wellOf w a0) 7 a2)) (-1))), zI (a3 - (2 * (Int.tdiv a3 3)))]) (st := []) (C := m_X8_partsUp) (fs := [32, 43, 79]) (pc' := 63) dX8_partsUpBy_60 rfl t_5_110 k_X8_partsUp rfl (by decide) rfl rfl rfl rfl (Nat.le_of_ble_eq_true rfl) ?_
                have r11056 := h
                refine z_dcast (d' := d + 2 * n9 + 5) (by omega) (ihr r11056 ?_)
                show z_Wp m_X8_partsUpBy _ 63 [(0, zR 76), (1, zI 7), (2, zI a0), (3, zI a1), (4, zI a2), (5, zI (a3 - (2 * (Int.tdiv a3 3)))), (6, zI (F_K_comesUp w (F_K_wellOf w a0) 7 a2)), (7, zI (zz_and a2 (zz_xor (zz_shl 1 (F_K_comesUp w (F_K_wellOf w a0) 7 a2)) (-1))))] [zI (F_N_partsUp n9 w a0 (a1 - 1) (zz_and a2 (zz_xor (zz_shl 1 (F_K_comesUp w (F_K_wellOf w a0) 7 a2)) (-1))) (a3 - (2 * (Int.tdiv a3 3))))] w _
                refine z_iret rfl dX8_partsUpBy_63 ?_
                show z_Wp m_X8_partsUp _ 49 [(0, zR 76), (1, zI a0), (2, zI a1), (3, zI a2), (4, zI a3), (5, zI (Int.tdiv a3 3))] [zI (F_N_partsUp n9 w a0 (a1 - 1) (zz_and a2 (zz_xor (zz_shl 1 (F_K_comesUp w (F_K_wellOf w a0) 7 a2)) (-1))) (a3 - (2 * (Int.tdiv a3 3)))), zI ((Int.tdiv a3 3) + (F_N_partsUp n9 w a0 (a1 - 1) (zz_and a2 (zz_xor (zz_shl 1 (F_K_comesUp w (F_K_wellOf w a0) 5 a2)) (-1))) (Int.tdiv a3 3)))] w _
                refine z_iadd (pc' := 50) dX8_partsUp_49 rfl ?_
                refine z_iret rfl dX8_partsUp_50 ?_
                exact k
              · have h := h.1 c
                rw [if_pos c] at k
                refine z_iload (pc' := 37) 4 rfl dX8_partsUpBy_35 rfl ?_
                refine z_goto 49 dX8_partsUpBy_37 (by decide) ?_
                refine z_istore (pc' := 51) (ls' := [(0, zR 76), (1, zI 7), (2, zI a0), (3, zI a1), (4, zI a2), (5, zI (a3 - (2 * (Int.tdiv a3 3)))), (6, zI (F_K_comesUp w (F_K_wellOf w a0) 7 a2)), (7, zI a2)]) (by decide) rfl rfl dX8_partsUpBy_49 rfl ?_
                refine z_aload_n (pc' := 52) 0 rfl rfl dX8_partsUpBy_51 rfl ?_
                refine z_iload_n (pc' := 53) 2 rfl rfl dX8_partsUpBy_52 rfl ?_
                refine z_iload_n (pc' := 54) 3 rfl rfl dX8_partsUpBy_53 rfl ?_
                refine z_iconst (pc' := 55) dX8_partsUpBy_54 rfl ?_
                refine z_isub (pc' := 56) dX8_partsUpBy_55 rfl ?_
                refine z_iload (pc' := 58) 7 rfl dX8_partsUpBy_56 rfl ?_
                refine z_iload (pc' := 60) 5 rfl dX8_partsUpBy_58 rfl ?_
                refine z_invV (as := [zI a0, zI (a1 - 1), zI a2, zI (a3 - (2 * (Int.tdiv a3 3)))]) (st := []) (C := m_X8_partsUp) (fs := [32, 43, 79]) (pc' := 63) dX8_partsUpBy_60 rfl t_5_110 k_X8_partsUp rfl (by decide) rfl rfl rfl rfl (Nat.le_of_ble_eq_true rfl) ?_
                have r11057 := h
                refine z_dcast (d' := d + 2 * n9 + 5) (by omega) (ihr r11057 ?_)
                show z_Wp m_X8_partsUpBy _ 63 [(0, zR 76), (1, zI 7), (2, zI a0), (3, zI a1), (4, zI a2), (5, zI (a3 - (2 * (Int.tdiv a3 3)))), (6, zI (F_K_comesUp w (F_K_wellOf w a0) 7 a2)), (7, zI a2)] [zI (F_N_partsUp n9 w a0 (a1 - 1) a2 (a3 - (2 * (Int.tdiv a3 3))))] w _
                refine z_iret rfl dX8_partsUpBy_63 ?_
                show z_Wp m_X8_partsUp _ 49 [(0, zR 76), (1, zI a0), (2, zI a1), (3, zI a2), (4, zI a3), (5, zI (Int.tdiv a3 3))] [zI (F_N_partsUp n9 w a0 (a1 - 1) a2 (a3 - (2 * (Int.tdiv a3 3)))), zI ((Int.tdiv a3 3) + (F_N_partsUp n9 w a0 (a1 - 1) (zz_and a2 (zz_xor (zz_shl 1 (F_K_comesUp w (F_K_wellOf w a0) 5 a2)) (-1))) (Int.tdiv a3 3)))] w _
                refine z_iadd (pc' := 50) dX8_partsUp_49 rfl ?_
                refine z_iret rfl dX8_partsUp_50 ?_
                exact k
            · have h := h.1 c
              rw [if_pos c] at k
              refine z_iload (pc' := 28) 5 rfl dX8_partsUpBy_26 rfl ?_
              refine z_iret rfl dX8_partsUpBy_28 ?_
              show z_Wp m_X8_partsUp _ 49 [(0, zR 76), (1, zI a0), (2, zI a1), (3, zI a2), (4, zI a3), (5, zI (Int.tdiv a3 3))] [zI (a3 - (2 * (Int.tdiv a3 3))), zI ((Int.tdiv a3 3) + (F_N_partsUp n9 w a0 (a1 - 1) (zz_and a2 (zz_xor (zz_shl 1 (F_K_comesUp w (F_K_wellOf w a0) 5 a2)) (-1))) (Int.tdiv a3 3)))] w _
              refine z_iadd (pc' := 50) dX8_partsUp_49 rfl ?_
              refine z_iret rfl dX8_partsUp_50 ?_
              exact k
          · have h := h.1 c
            rw [if_pos c] at k
            refine z_iload (pc' := 37) 4 rfl dX8_partsUpBy_35 rfl ?_
            refine z_goto 49 dX8_partsUpBy_37 (by decide) ?_
            refine z_istore (pc' := 51) (ls' := [(0, zR 76), (1, zI 5), (2, zI a0), (3, zI a1), (4, zI a2), (5, zI (Int.tdiv a3 3)), (6, zI (F_K_comesUp w (F_K_wellOf w a0) 5 a2)), (7, zI a2)]) (by decide) rfl rfl dX8_partsUpBy_49 rfl ?_
            refine z_aload_n (pc' := 52) 0 rfl rfl dX8_partsUpBy_51 rfl ?_
            refine z_iload_n (pc' := 53) 2 rfl rfl dX8_partsUpBy_52 rfl ?_
            refine z_iload_n (pc' := 54) 3 rfl rfl dX8_partsUpBy_53 rfl ?_
            refine z_iconst (pc' := 55) dX8_partsUpBy_54 rfl ?_
            refine z_isub (pc' := 56) dX8_partsUpBy_55 rfl ?_
            refine z_iload (pc' := 58) 7 rfl dX8_partsUpBy_56 rfl ?_
            refine z_iload (pc' := 60) 5 rfl dX8_partsUpBy_58 rfl ?_
            refine z_invV (as := [zI a0, zI (a1 - 1), zI a2, zI (Int.tdiv a3 3)]) (st := []) (C := m_X8_partsUp) (fs := [32, 43, 79]) (pc' := 63) dX8_partsUpBy_60 rfl t_5_110 k_X8_partsUp rfl (by decide) rfl rfl rfl rfl (Nat.le_of_ble_eq_true rfl) ?_
            obtain ⟨r10052, h⟩ := h
            refine z_dcast (d' := d + 2 * n9 + 5) (by omega) (ihr r10052 ?_)
            show z_Wp m_X8_partsUpBy _ 63 [(0, zR 76), (1, zI 5), (2, zI a0), (3, zI a1), (4, zI a2), (5, zI (Int.tdiv a3 3)), (6, zI (F_K_comesUp w (F_K_wellOf w a0) 5 a2)), (7, zI a2)] [zI (F_N_partsUp n9 w a0 (a1 - 1) a2 (Int.tdiv a3 3))] w _
            refine z_iret rfl dX8_partsUpBy_63 ?_
            show z_Wp m_X8_partsUp _ 32 [(0, zR 76), (1, zI a0), (2, zI a1), (3, zI a2), (4, zI a3), (5, zI (Int.tdiv a3 3))] [zI (F_N_partsUp n9 w a0 (a1 - 1) a2 (Int.tdiv a3 3)), zI (Int.tdiv a3 3)] w _
            refine z_iadd (pc' := 33) dX8_partsUp_32 rfl ?_
            refine z_aload_n (pc' := 34) 0 rfl rfl dX8_partsUp_33 rfl ?_
            refine z_bipush (pc' := 36) (by decide) dX8_partsUp_34 rfl ?_
            refine z_iload_n (pc' := 37) 1 rfl rfl dX8_partsUp_36 rfl ?_
            refine z_iload_n (pc' := 38) 2 rfl rfl dX8_partsUp_37 rfl ?_
            refine z_iload_n (pc' := 39) 3 rfl rfl dX8_partsUp_38 rfl ?_
            refine z_iload (pc' := 41) 4 rfl dX8_partsUp_39 rfl ?_
            refine z_iconst (pc' := 42) dX8_partsUp_41 rfl ?_
            refine z_iload (pc' := 44) 5 rfl dX8_partsUp_42 rfl ?_
            refine z_imul (pc' := 45) dX8_partsUp_44 rfl ?_
            refine z_isub (pc' := 46) dX8_partsUp_45 rfl ?_
            refine z_invV (as := [zI 7, zI a0, zI a1, zI a2, zI (a3 - (2 * (Int.tdiv a3 3)))]) (st := [zI ((Int.tdiv a3 3) + (F_N_partsUp n9 w a0 (a1 - 1) a2 (Int.tdiv a3 3)))]) (C := m_X8_partsUpBy) (fs := [32, 43, 79]) (pc' := 49) dX8_partsUp_46 rfl t_5_105 k_X8_partsUpBy rfl (by decide) rfl rfl rfl rfl (Nat.le_of_ble_eq_true rfl) ?_
            refine z_enter rfl (Nat.le_of_ble_eq_true rfl) ?_
            show z_Wp m_X8_partsUpBy _ 0 [(0, zR 76), (1, zI 7), (2, zI a0), (3, zI a1), (4, zI a2), (5, zI (a3 - (2 * (Int.tdiv a3 3))))] [] w _
            refine z_aload_n (pc' := 1) 0 rfl rfl dX8_partsUpBy_0 rfl ?_
            refine z_getR (t := 41) (pc' := 4) g_X8_19 (by decide) rfl rfl dX8_partsUpBy_1 rfl ?_
            refine z_aload_n (pc' := 5) 0 rfl rfl dX8_partsUpBy_4 rfl ?_
            refine z_getR (t := 41) (pc' := 8) g_X8_19 (by decide) rfl rfl dX8_partsUpBy_5 rfl ?_
            refine z_iload_n (pc' := 9) 2 rfl rfl dX8_partsUpBy_8 rfl ?_
            refine z_invV (as := [zI a0]) (st := [zR 41]) (C := m_X3_wellOf) (fs := [32, 44, 45, 46, 47, 48, 0, 0, 0]) (pc' := 12) dX8_partsUpBy_9 rfl t_5_109 k_X3_wellOf rfl (by decide) rfl rfl rfl rfl (Nat.le_of_ble_eq_true rfl) ?_
            refine c_K_wellOf r1003 ?_
            show z_Wp m_X8_partsUpBy _ 12 [(0, zR 76), (1, zI 7), (2, zI a0), (3, zI a1), (4, zI a2), (5, zI (a3 - (2 * (Int.tdiv a3 3))))] [zI (F_K_wellOf w a0), zR 41] w _
            refine z_iload_n (pc' := 13) 1 rfl rfl dX8_partsUpBy_12 rfl ?_
            refine z_iload (pc' := 15) 4 rfl dX8_partsUpBy_13 rfl ?_
            refine z_invV (as := [zI (F_K_wellOf w a0), zI 7, zI a2]) (st := []) (C := m_X3_comesUp) (fs := [32, 44, 45, 46, 47, 48, 0, 0, 0]) (pc' := 18) dX8_partsUpBy_15 rfl t_5_71 k_X3_comesUp rfl (by decide) rfl rfl rfl rfl (Nat.le_of_ble_eq_true rfl) ?_
            obtain ⟨r12059, h⟩ := h
            refine c_K_comesUp r12059 ?_
            show z_Wp m_X8_partsUpBy _ 18 [(0, zR 76), (1, zI 7), (2, zI a0), (3, zI a1), (4, zI a2), (5, zI (a3 - (2 * (Int.tdiv a3 3))))] [zI (F_K_comesUp w (F_K_wellOf w a0) 7 a2)] w _
            refine z_istore (pc' := 20) (ls' := [(0, zR 76), (1, zI 7), (2, zI a0), (3, zI a1), (4, zI a2), (5, zI (a3 - (2 * (Int.tdiv a3 3)))), (6, zI (F_K_comesUp w (F_K_wellOf w a0) 7 a2))]) (by decide) rfl rfl dX8_partsUpBy_18 rfl ?_
            refine z_iload (pc' := 22) 6 rfl dX8_partsUpBy_20 rfl ?_
            refine z_iload_n (pc' := 23) 2 rfl rfl dX8_partsUpBy_22 rfl ?_
            obtain ⟨r12060, h⟩ := h
            refine z_icmp_ne 29 dX8_partsUpBy_23 (by decide) (pc' := 26) rfl r12060 r1006 (fun c => ?_) (fun c => ?_)
            · have h := h.2 c
              rw [if_neg c] at k
              refine z_iload (pc' := 31) 6 rfl dX8_partsUpBy_29 rfl ?_
              refine z_iconst (pc' := 32) dX8_partsUpBy_31 rfl ?_
              refine z_icmp_ne 40 dX8_partsUpBy_32 (by decide) (pc' := 35) rfl r12060 (by decide) (fun c => ?_) (fun c => ?_)
              · have h := h.2 c
                rw [if_neg c] at k
                refine z_iload (pc' := 42) 4 rfl dX8_partsUpBy_40 rfl ?_
                refine z_iconst (pc' := 43) dX8_partsUpBy_42 rfl ?_
                refine z_iload (pc' := 45) 6 rfl dX8_partsUpBy_43 rfl ?_
                refine z_ishl (pc' := 46) dX8_partsUpBy_45 rfl ?_
                refine z_iconst (pc' := 47) dX8_partsUpBy_46 rfl ?_
                refine z_ixor (pc' := 48) dX8_partsUpBy_47 rfl ?_
                refine z_iand (pc' := 49) dX8_partsUpBy_48 rfl ?_
                refine z_istore (pc' := 51) (ls' := [(0, zR 76), (1, zI 7), (2, zI a0), (3, zI a1), (4, zI a2), (5, zI (a3 - (2 * (Int.tdiv a3 3)))), (6, zI (F_K_comesUp w (F_K_wellOf w a0) 7 a2)), (7, zI (zz_and a2 (zz_xor (zz_shl 1 (F_K_comesUp w (F_K_wellOf w a0) 7 a2)) (-1))))]) (by decide) rfl rfl dX8_partsUpBy_49 rfl ?_
                refine z_aload_n (pc' := 52) 0 rfl rfl dX8_partsUpBy_51 rfl ?_
                refine z_iload_n (pc' := 53) 2 rfl rfl dX8_partsUpBy_52 rfl ?_
                refine z_iload_n (pc' := 54) 3 rfl rfl dX8_partsUpBy_53 rfl ?_
                refine z_iconst (pc' := 55) dX8_partsUpBy_54 rfl ?_
                refine z_isub (pc' := 56) dX8_partsUpBy_55 rfl ?_
                refine z_iload (pc' := 58) 7 rfl dX8_partsUpBy_56 rfl ?_
                refine z_iload (pc' := 60) 5 rfl dX8_partsUpBy_58 rfl ?_
                refine z_invV (as := [zI a0, zI (a1 - 1), zI (zz_and a2 (zz_xor (zz_shl 1 (F_K_comesUp w (F_K_wellOf w a0) 7 a2)) (-1))), zI (a3 - (2 * (Int.tdiv a3 3)))]) (st := []) (C := m_X8_partsUp) (fs := [32, 43, 79]) (pc' := 63) dX8_partsUpBy_60 rfl t_5_110 k_X8_partsUp rfl (by decide) rfl rfl rfl rfl (Nat.le_of_ble_eq_true rfl) ?_
                have r12061 := h
                refine z_dcast (d' := d + 2 * n9 + 5) (by omega) (ihr r12061 ?_)
                show z_Wp m_X8_partsUpBy _ 63 [(0, zR 76), (1, zI 7), (2, zI a0), (3, zI a1), (4, zI a2), (5, zI (a3 - (2 * (Int.tdiv a3 3)))), (6, zI (F_K_comesUp w (F_K_wellOf w a0) 7 a2)), (7, zI (zz_and a2 (zz_xor (zz_shl 1 (F_K_comesUp w (F_K_wellOf w a0) 7 a2)) (-1))))] [zI (F_N_partsUp n9 w a0 (a1 - 1) (zz_and a2 (zz_xor (zz_shl 1 (F_K_comesUp w (F_K_wellOf w a0) 7 a2)) (-1))) (a3 - (2 * (Int.tdiv a3 3))))] w _
                refine z_iret rfl dX8_partsUpBy_63 ?_
                show z_Wp m_X8_partsUp _ 49 [(0, zR 76), (1, zI a0), (2, zI a1), (3, zI a2), (4, zI a3), (5, zI (Int.tdiv a3 3))] [zI (F_N_partsUp n9 w a0 (a1 - 1) (zz_and a2 (zz_xor (zz_shl 1 (F_K_comesUp w (F_K_wellOf w a0) 7 a2)) (-1))) (a3 - (2 * (Int.tdiv a3 3)))), zI ((Int.tdiv a3 3) + (F_N_partsUp n9 w a0 (a1 - 1) a2 (Int.tdiv a3 3)))] w _
                refine z_iadd (pc' := 50) dX8_partsUp_49 rfl ?_
                refine z_iret rfl dX8_partsUp_50 ?_
                exact k
              · have h := h.1 c
                rw [if_pos c] at k
                refine z_iload (pc' := 37) 4 rfl dX8_partsUpBy_35 rfl ?_
                refine z_goto 49 dX8_partsUpBy_37 (by decide) ?_
                refine z_istore (pc' := 51) (ls' := [(0, zR 76), (1, zI 7), (2, zI a0), (3, zI a1), (4, zI a2), (5, zI (a3 - (2 * (Int.tdiv a3 3)))), (6, zI (F_K_comesUp w (F_K_wellOf w a0) 7 a2)), (7, zI a2)]) (by decide) rfl rfl dX8_partsUpBy_49 rfl ?_
                refine z_aload_n (pc' := 52) 0 rfl rfl dX8_partsUpBy_51 rfl ?_
                refine z_iload_n (pc' := 53) 2 rfl rfl dX8_partsUpBy_52 rfl ?_
                refine z_iload_n (pc' := 54) 3 rfl rfl dX8_partsUpBy_53 rfl ?_
                refine z_iconst (pc' := 55) dX8_partsUpBy_54 rfl ?_
                refine z_isub (pc' := 56) dX8_partsUpBy_55 rfl ?_
                refine z_iload (pc' := 58) 7 rfl dX8_partsUpBy_56 rfl ?_
                refine z_iload (pc' := 60) 5 rfl dX8_partsUpBy_58 rfl ?_
                refine z_invV (as := [zI a0, zI (a1 - 1), zI a2, zI (a3 - (2 * (Int.tdiv a3 3)))]) (st := []) (C := m_X8_partsUp) (fs := [32, 43, 79]) (pc' := 63) dX8_partsUpBy_60 rfl t_5_110 k_X8_partsUp rfl (by decide) rfl rfl rfl rfl (Nat.le_of_ble_eq_true rfl) ?_
                have r12062 := h
                refine z_dcast (d' := d + 2 * n9 + 5) (by omega) (ihr r12062 ?_)
                show z_Wp m_X8_partsUpBy _ 63 [(0, zR 76), (1, zI 7), (2, zI a0), (3, zI a1), (4, zI a2), (5, zI (a3 - (2 * (Int.tdiv a3 3)))), (6, zI (F_K_comesUp w (F_K_wellOf w a0) 7 a2)), (7, zI a2)] [zI (F_N_partsUp n9 w a0 (a1 - 1) a2 (a3 - (2 * (Int.tdiv a3 3))))] w _
                refine z_iret rfl dX8_partsUpBy_63 ?_
                show z_Wp m_X8_partsUp _ 49 [(0, zR 76), (1, zI a0), (2, zI a1), (3, zI a2), (4, zI a3), (5, zI (Int.tdiv a3 3))] [zI (F_N_partsUp n9 w a0 (a1 - 1) a2 (a3 - (2 * (Int.tdiv a3 3)))), zI ((Int.tdiv a3 3) + (F_N_partsUp n9 w a0 (a1 - 1) a2 (Int.tdiv a3 3)))] w _
                refine z_iadd (pc' := 50) dX8_partsUp_49 rfl ?_
                refine z_iret rfl dX8_partsUp_50 ?_
                exact k
            · have h := h.1 c
              rw [if_pos c] at k
              refine z_iload (pc' := 28) 5 rfl dX8_partsUpBy_26 rfl ?_
              refine z_iret rfl dX8_partsUpBy_28 ?_
              show z_Wp m_X8_partsUp _ 49 [(0, zR 76), (1, zI a0), (2, zI a1), (3, zI a2), (4, zI a3), (5, zI (Int.tdiv a3 3))] [zI (a3 - (2 * (Int.tdiv a3 3))), zI ((Int.tdiv a3 3) + (F_N_partsUp n9 w a0 (a1 - 1) a2 (Int.tdiv a3 3)))] w _
              refine z_iadd (pc' := 50) dX8_partsUp_49 rfl ?_
              refine z_iret rfl dX8_partsUp_50 ?_
              exact k
        · have h := h.1 c
          rw [if_pos c] at k
          refine z_iload (pc' := 28) 5 rfl dX8_partsUpBy_26 rfl ?_
          refine z_iret rfl dX8_partsUpBy_28 ?_
          show z_Wp m_X8_partsUp _ 32 [(0, zR 76), (1, zI a0), (2, zI a1), (3, zI a2), (4, zI a3), (5, zI (Int.tdiv a3 3))] [zI (Int.tdiv a3 3), zI (Int.tdiv a3 3)] w _
          refine z_iadd (pc' := 33) dX8_partsUp_32 rfl ?_
          refine z_aload_n (pc' := 34) 0 rfl rfl dX8_partsUp_33 rfl ?_
          refine z_bipush (pc' := 36) (by decide) dX8_partsUp_34 rfl ?_
          refine z_iload_n (pc' := 37) 1 rfl rfl dX8_partsUp_36 rfl ?_
          refine z_iload_n (pc' := 38) 2 rfl rfl dX8_partsUp_37 rfl ?_
          refine z_iload_n (pc' := 39) 3 rfl rfl dX8_partsUp_38 rfl ?_
          refine z_iload (pc' := 41) 4 rfl dX8_partsUp_39 rfl ?_
          refine z_iconst (pc' := 42) dX8_partsUp_41 rfl ?_
          refine z_iload (pc' := 44) 5 rfl dX8_partsUp_42 rfl ?_
          refine z_imul (pc' := 45) dX8_partsUp_44 rfl ?_
          refine z_isub (pc' := 46) dX8_partsUp_45 rfl ?_
          refine z_invV (as := [zI 7, zI a0, zI a1, zI a2, zI (a3 - (2 * (Int.tdiv a3 3)))]) (st := [zI ((Int.tdiv a3 3) + (Int.tdiv a3 3))]) (C := m_X8_partsUpBy) (fs := [32, 43, 79]) (pc' := 49) dX8_partsUp_46 rfl t_5_105 k_X8_partsUpBy rfl (by decide) rfl rfl rfl rfl (Nat.le_of_ble_eq_true rfl) ?_
          refine z_enter rfl (Nat.le_of_ble_eq_true rfl) ?_
          show z_Wp m_X8_partsUpBy _ 0 [(0, zR 76), (1, zI 7), (2, zI a0), (3, zI a1), (4, zI a2), (5, zI (a3 - (2 * (Int.tdiv a3 3))))] [] w _
          refine z_aload_n (pc' := 1) 0 rfl rfl dX8_partsUpBy_0 rfl ?_
          refine z_getR (t := 41) (pc' := 4) g_X8_19 (by decide) rfl rfl dX8_partsUpBy_1 rfl ?_
          refine z_aload_n (pc' := 5) 0 rfl rfl dX8_partsUpBy_4 rfl ?_
          refine z_getR (t := 41) (pc' := 8) g_X8_19 (by decide) rfl rfl dX8_partsUpBy_5 rfl ?_
          refine z_iload_n (pc' := 9) 2 rfl rfl dX8_partsUpBy_8 rfl ?_
          refine z_invV (as := [zI a0]) (st := [zR 41]) (C := m_X3_wellOf) (fs := [32, 44, 45, 46, 47, 48, 0, 0, 0]) (pc' := 12) dX8_partsUpBy_9 rfl t_5_109 k_X3_wellOf rfl (by decide) rfl rfl rfl rfl (Nat.le_of_ble_eq_true rfl) ?_
          refine c_K_wellOf r1003 ?_
          show z_Wp m_X8_partsUpBy _ 12 [(0, zR 76), (1, zI 7), (2, zI a0), (3, zI a1), (4, zI a2), (5, zI (a3 - (2 * (Int.tdiv a3 3))))] [zI (F_K_wellOf w a0), zR 41] w _
          refine z_iload_n (pc' := 13) 1 rfl rfl dX8_partsUpBy_12 rfl ?_
          refine z_iload (pc' := 15) 4 rfl dX8_partsUpBy_13 rfl ?_
          refine z_invV (as := [zI (F_K_wellOf w a0), zI 7, zI a2]) (st := []) (C := m_X3_comesUp) (fs := [32, 44, 45, 46, 47, 48, 0, 0, 0]) (pc' := 18) dX8_partsUpBy_15 rfl t_5_71 k_X3_comesUp rfl (by decide) rfl rfl rfl rfl (Nat.le_of_ble_eq_true rfl) ?_
          obtain ⟨r13064, h⟩ := h
          refine c_K_comesUp r13064 ?_
          show z_Wp m_X8_partsUpBy _ 18 [(0, zR 76), (1, zI 7), (2, zI a0), (3, zI a1), (4, zI a2), (5, zI (a3 - (2 * (Int.tdiv a3 3))))] [zI (F_K_comesUp w (F_K_wellOf w a0) 7 a2)] w _
          refine z_istore (pc' := 20) (ls' := [(0, zR 76), (1, zI 7), (2, zI a0), (3, zI a1), (4, zI a2), (5, zI (a3 - (2 * (Int.tdiv a3 3)))), (6, zI (F_K_comesUp w (F_K_wellOf w a0) 7 a2))]) (by decide) rfl rfl dX8_partsUpBy_18 rfl ?_
          refine z_iload (pc' := 22) 6 rfl dX8_partsUpBy_20 rfl ?_
          refine z_iload_n (pc' := 23) 2 rfl rfl dX8_partsUpBy_22 rfl ?_
          obtain ⟨r13065, h⟩ := h
          refine z_icmp_ne 29 dX8_partsUpBy_23 (by decide) (pc' := 26) rfl r13065 r1006 (fun c => ?_) (fun c => ?_)
          · have h := h.2 c
            rw [if_neg c] at k
            refine z_iload (pc' := 31) 6 rfl dX8_partsUpBy_29 rfl ?_
            refine z_iconst (pc' := 32) dX8_partsUpBy_31 rfl ?_
            refine z_icmp_ne 40 dX8_partsUpBy_32 (by decide) (pc' := 35) rfl r13065 (by decide) (fun c => ?_) (fun c => ?_)
            · have h := h.2 c
              rw [if_neg c] at k
              refine z_iload (pc' := 42) 4 rfl dX8_partsUpBy_40 rfl ?_
              refine z_iconst (pc' := 43) dX8_partsUpBy_42 rfl ?_
              refine z_iload (pc' := 45) 6 rfl dX8_partsUpBy_43 rfl ?_
              refine z_ishl (pc' := 46) dX8_partsUpBy_45 rfl ?_
              refine z_iconst (pc' := 47) dX8_partsUpBy_46 rfl ?_
              refine z_ixor (pc' := 48) dX8_partsUpBy_47 rfl ?_
              refine z_iand (pc' := 49) dX8_partsUpBy_48 rfl ?_
              refine z_istore (pc' := 51) (ls' := [(0, zR 76), (1, zI 7), (2, zI a0), (3, zI a1), (4, zI a2), (5, zI (a3 - (2 * (Int.tdiv a3 3)))), (6, zI (F_K_comesUp w (F_K_wellOf w a0) 7 a2)), (7, zI (zz_and a2 (zz_xor (zz_shl 1 (F_K_comesUp w (F_K_wellOf w a0) 7 a2)) (-1))))]) (by decide) rfl rfl dX8_partsUpBy_49 rfl ?_
              refine z_aload_n (pc' := 52) 0 rfl rfl dX8_partsUpBy_51 rfl ?_
              refine z_iload_n (pc' := 53) 2 rfl rfl dX8_partsUpBy_52 rfl ?_
              refine z_iload_n (pc' := 54) 3 rfl rfl dX8_partsUpBy_53 rfl ?_
              refine z_iconst (pc' := 55) dX8_partsUpBy_54 rfl ?_
              refine z_isub (pc' := 56) dX8_partsUpBy_55 rfl ?_
              refine z_iload (pc' := 58) 7 rfl dX8_partsUpBy_56 rfl ?_
              refine z_iload (pc' := 60) 5 rfl dX8_partsUpBy_58 rfl ?_
              refine z_invV (as := [zI a0, zI (a1 - 1), zI (zz_and a2 (zz_xor (zz_shl 1 (F_K_comesUp w (F_K_wellOf w a0) 7 a2)) (-1))), zI (a3 - (2 * (Int.tdiv a3 3)))]) (st := []) (C := m_X8_partsUp) (fs := [32, 43, 79]) (pc' := 63) dX8_partsUpBy_60 rfl t_5_110 k_X8_partsUp rfl (by decide) rfl rfl rfl rfl (Nat.le_of_ble_eq_true rfl) ?_
              have r13066 := h
              refine z_dcast (d' := d + 2 * n9 + 5) (by omega) (ihr r13066 ?_)
              show z_Wp m_X8_partsUpBy _ 63 [(0, zR 76), (1, zI 7), (2, zI a0), (3, zI a1), (4, zI a2), (5, zI (a3 - (2 * (Int.tdiv a3 3)))), (6, zI (F_K_comesUp w (F_K_wellOf w a0) 7 a2)), (7, zI (zz_and a2 (zz_xor (zz_shl 1 (F_K_comesUp w (F_K_wellOf w a0) 7 a2)) (-1))))] [zI (F_N_partsUp n9 w a0 (a1 - 1) (zz_and a2 (zz_xor (zz_shl 1 (F_K_comesUp w (F_K_wellOf w a0) 7 a2)) (-1))) (a3 - (2 * (Int.tdiv a3 3))))] w _
              refine z_iret rfl dX8_partsUpBy_63 ?_
              show z_Wp m_X8_partsUp _ 49 [(0, zR 76), (1, zI a0), (2, zI a1), (3, zI a2), (4, zI a3), (5, zI (Int.tdiv a3 3))] [zI (F_N_partsUp n9 w a0 (a1 - 1) (zz_and a2 (zz_xor (zz_shl 1 (F_K_comesUp w (F_K_wellOf w a0) 7 a2)) (-1))) (a3 - (2 * (Int.tdiv a3 3)))), zI ((Int.tdiv a3 3) + (Int.tdiv a3 3))] w _
              refine z_iadd (pc' := 50) dX8_partsUp_49 rfl ?_
              refine z_iret rfl dX8_partsUp_50 ?_
              exact k
            · have h := h.1 c
              rw [if_pos c] at k
              refine z_iload (pc' := 37) 4 rfl dX8_partsUpBy_35 rfl ?_
              refine z_goto 49 dX8_partsUpBy_37 (by decide) ?_
              refine z_istore (pc' := 51) (ls' := [(0, zR 76), (1, zI 7), (2, zI a0), (3, zI a1), (4, zI a2), (5, zI (a3 - (2 * (Int.tdiv a3 3)))), (6, zI (F_K_comesUp w (F_K_wellOf w a0) 7 a2)), (7, zI a2)]) (by decide) rfl rfl dX8_partsUpBy_49 rfl ?_
              refine z_aload_n (pc' := 52) 0 rfl rfl dX8_partsUpBy_51 rfl ?_
              refine z_iload_n (pc' := 53) 2 rfl rfl dX8_partsUpBy_52 rfl ?_
              refine z_iload_n (pc' := 54) 3 rfl rfl dX8_partsUpBy_53 rfl ?_
              refine z_iconst (pc' := 55) dX8_partsUpBy_54 rfl ?_
              refine z_isub (pc' := 56) dX8_partsUpBy_55 rfl ?_
              refine z_iload (pc' := 58) 7 rfl dX8_partsUpBy_56 rfl ?_
              refine z_iload (pc' := 60) 5 rfl dX8_partsUpBy_58 rfl ?_
              refine z_invV (as := [zI a0, zI (a1 - 1), zI a2, zI (a3 - (2 * (Int.tdiv a3 3)))]) (st := []) (C := m_X8_partsUp) (fs := [32, 43, 79]) (pc' := 63) dX8_partsUpBy_60 rfl t_5_110 k_X8_partsUp rfl (by decide) rfl rfl rfl rfl (Nat.le_of_ble_eq_true rfl) ?_
              have r13067 := h
              refine z_dcast (d' := d + 2 * n9 + 5) (by omega) (ihr r13067 ?_)
              show z_Wp m_X8_partsUpBy _ 63 [(0, zR 76), (1, zI 7), (2, zI a0), (3, zI a1), (4, zI a2), (5, zI (a3 - (2 * (Int.tdiv a3 3)))), (6, zI (F_K_comesUp w (F_K_wellOf w a0) 7 a2)), (7, zI a2)] [zI (F_N_partsUp n9 w a0 (a1 - 1) a2 (a3 - (2 * (Int.tdiv a3 3))))] w _
              refine z_iret rfl dX8_partsUpBy_63 ?_
              show z_Wp m_X8_partsUp _ 49 [(0, zR 76), (1, zI a0), (2, zI a1), (3, zI a2), (4, zI a3), (5, zI (Int.tdiv a3 3))] [zI (F_N_partsUp n9 w a0 (a1 - 1) a2 (a3 - (2 * (Int.tdiv a3 3)))), zI ((Int.tdiv a3 3) + (Int.tdiv a3 3))] w _
              refine z_iadd (pc' := 50) dX8_partsUp_49 rfl ?_
              refine z_iret rfl dX8_partsUp_50 ?_
              exact k
          · have h := h.1 c
            rw [if_pos c] at k
            refine z_iload (pc' := 28) 5 rfl dX8_partsUpBy_26 rfl ?_
            refine z_iret rfl dX8_partsUpBy_28 ?_
            show z_Wp m_X8_partsUp _ 49 [(0, zR 76), (1, zI a0), (2, zI a1), (3, zI a2), (4, zI a3), (5, zI (Int.tdiv a3 3))] [zI (a3 - (2 * (Int.tdiv a3 3))), zI ((Int.tdiv a3 3) + (Int.tdiv a3 3))] w _
            refine z_iadd (pc' := 50) dX8_partsUp_49 rfl ?_
            refine z_iret rfl dX8_partsUp_50 ?_
            exact k
    · have h := h.2 c
      rw [if_neg c] at k
      refine z_iconst (pc' := 5) dX8_partsUp_4 rfl ?_
      refine z_iret rfl dX8_partsUp_5 ?_
      exact k
def A_P_placeFrom_72 (w : z_Wd) (a0 : Int) (a1 : Int) (a2 : Int) (a3 : Int) (fr : z_Wd → Int → Int → Int → Int → z_Wd): Nat → z_Wd
  | 0 => w
  | i14 + 1 => if (i14 : Int) ≥ 4 then A_P_placeFrom_72 w a0 a1 a2 a3 fr i14 else if F_Y_isHisColour (A_P_placeFrom_72 w a0 a1 a2 a3 fr i14) a0 (i14 : Int) = 0 then A_P_placeFrom_72 w a0 a1 a2 a3 fr i14 else if (F_Y_value w 2 a0 0) * (F_Y_value w 0 0 0) > (A_P_placeFrom_72 w a0 a1 a2 a3 fr i14) 71 ((i14 : Int).toNat) then A_P_placeFrom_72 w a0 a1 a2 a3 fr i14 else z_up (fr (z_up (A_P_placeFrom_72 w a0 a1 a2 a3 fr i14) 71 ((i14 : Int).toNat) (((A_P_placeFrom_72 w a0 a1 a2 a3 fr i14) 71 ((i14 : Int).toNat)) - ((F_Y_value w 2 a0 0) * (F_Y_value w 0 0 0)))) (a0 + 1) a1 ((a2 * 10) + (i14 : Int)) (zz_or a3 (zz_shl 1 (i14 : Int)))) 71 ((i14 : Int).toNat) (((fr (z_up (A_P_placeFrom_72 w a0 a1 a2 a3 fr i14) 71 ((i14 : Int).toNat) (((A_P_placeFrom_72 w a0 a1 a2 a3 fr i14) 71 ((i14 : Int).toNat)) - ((F_Y_value w 2 a0 0) * (F_Y_value w 0 0 0)))) (a0 + 1) a1 ((a2 * 10) + (i14 : Int)) (zz_or a3 (zz_shl 1 (i14 : Int)))) 71 ((i14 : Int).toNat)) + ((F_Y_value w 2 a0 0) * (F_Y_value w 0 0 0)))
def E_P_placeFrom_72 (w : z_Wd) (a0 : Int) (a1 : Int) (a2 : Int) (a3 : Int) (fr : z_Wd → Int → Int → Int → Int → z_Wd)(i14 : Nat) : Bool := if (i14 : Int) ≥ 4 then true else if F_Y_isHisColour (A_P_placeFrom_72 w a0 a1 a2 a3 fr i14) a0 (i14 : Int) = 0 then false else if (F_Y_value w 2 a0 0) * (F_Y_value w 0 0 0) > (A_P_placeFrom_72 w a0 a1 a2 a3 fr i14) 71 ((i14 : Int).toNat) then false else false
def R_P_placeFrom_72 (w : z_Wd) (a0 : Int) (a1 : Int) (a2 : Int) (a3 : Int) (fr : z_Wd → Int → Int → Int → Int → z_Wd)(i14 : Nat) : z_Wd := if (i14 : Int) ≥ 4 then A_P_placeFrom_72 w a0 a1 a2 a3 fr i14 else if F_Y_isHisColour (A_P_placeFrom_72 w a0 a1 a2 a3 fr i14) a0 (i14 : Int) = 0 then w else if (F_Y_value w 2 a0 0) * (F_Y_value w 0 0 0) > (A_P_placeFrom_72 w a0 a1 a2 a3 fr i14) 71 ((i14 : Int).toNat) then w else w
def F_P_placeFrom : Nat → z_Wd → Int → Int → Int → Int → z_Wd
  | 0, w, _, _, _, _ => w
  | n9 + 1, w, a0, a1, a2, a3 => if F_J_bitCount_0f7a4 w a3 < w 70 3 then if a0 < w 32 2 then if zz_and (zz_shr a1 a0) 1 = 0 then F_P_placeFrom n9 w (a0 + 1) a1 a2 a3 else if zfind (E_P_placeFrom_72 w a0 a1 a2 a3 (F_P_placeFrom n9)) ((w 32 1).toNat) = -1 then A_P_placeFrom_72 w a0 a1 a2 a3 (F_P_placeFrom n9) (w 32 1).toNat else R_P_placeFrom_72 w a0 a1 a2 a3 (F_P_placeFrom n9) (zfind (E_P_placeFrom_72 w a0 a1 a2 a3 (F_P_placeFrom n9)) ((w 32 1).toNat)).toNat else z_up (z_up w 70 3 (F_J_bitCount_0f7a4 w a3)) 70 4 a2 else w
def P_P_placeFrom : Nat → z_Wd → Int → Int → Int → Int → Prop
  | 0, w, _, _, _, _ => False
  | n9 + 1, w, a0, a1, a2, a3 => (-2147483648 ≤ F_J_bitCount_0f7a4 w a3 ∧ F_J_bitCount_0f7a4 w a3 < 2147483648) ∧ (-2147483648 ≤ w 70 3 ∧ w 70 3 < 2147483648) ∧ ((F_J_bitCount_0f7a4 w a3 < w 70 3 → (-2147483648 ≤ a0 ∧ a0 < 2147483648) ∧ (-2147483648 ≤ w 32 2 ∧ w 32 2 < 2147483648) ∧ ((a0 < w 32 2 → (-2147483648 ≤ zz_and (zz_shr a1 a0) 1 ∧ zz_and (zz_shr a1 a0) 1 < 2147483648) ∧ ((zz_and (zz_shr a1 a0) 1 = 0 → P_P_placeFrom n9 w (a0 + 1) a1 a2 a3) ∧ (¬ (zz_and (zz_shr a1 a0) 1 = 0) → ((P_Y_value w 2 a0 0) ∧ (P_Y_value w 0 0 0)) ∧ ((∀ i14 : Nat, i14 < ((w 32 1).toNat) → zfind (E_P_placeFrom_72 w a0 a1 a2 a3 (F_P_placeFrom n9)) i14 = -1 → (-2147483648 ≤ (i14 : Int) ∧ (i14 : Int) < 2147483648) ∧ (-2147483648 ≤ (A_P_placeFrom_72 w a0 a1 a2 a3 (F_P_placeFrom n9) i14) 32 1 ∧ (A_P_placeFrom_72 w a0 a1 a2 a3 (F_P_placeFrom n9) i14) 32 1 < 2147483648) ∧ ((A_P_placeFrom_72 w a0 a1 a2 a3 (F_P_placeFrom n9) i14) 32 1 = w 32 1) ∧ (((i14 : Int) ≥ 4 → True) ∧ (¬ ((i14 : Int) ≥ 4) → (P_Y_isHisColour (A_P_placeFrom_72 w a0 a1 a2 a3 (F_P_placeFrom n9) i14) a0 (i14 : Int)) ∧ ((F_Y_isHisColour (A_P_placeFrom_72 w a0 a1 a2 a3 (F_P_placeFrom n9) i14) a0 (i14 : Int) = 0 → True) ∧ (¬ (F_Y_isHisColour (A_P_placeFrom_72 w a0 a1 a2 a3 (F_P_placeFrom n9) i14) a0 (i14 : Int) = 0) → (0 ≤ (i14 : Int) ∧ (i14 : Int) < 4) ∧ (-2147483648 ≤ (F_Y_value w 2 a0 0) * (F_Y_value w 0 0 0) ∧ (F_Y_value w 2 a0 0) * (F_Y_value w 0 0 0) < 2147483648) ∧ (-2147483648 ≤ (A_P_placeFrom_72 w a0 a1 a2 a3 (F_P_placeFrom n9) i14) 71 ((i14 : Int).toNat) ∧ (A_P_placeFrom_72 w a0 a1 a2 a3 (F_P_placeFrom n9) i14) 71 ((i14 : Int).toNat) < 2147483648) ∧ (((F_Y_value w 2 a0 0) * (F_Y_value w 0 0 0) > (A_P_placeFrom_72 w a0 a1 a2 a3 (F_P_placeFrom n9) i14) 71 ((i14 : Int).toNat) → True) ∧ (¬ ((F_Y_value w 2 a0 0) * (F_Y_value w 0 0 0) > (A_P_placeFrom_72 w a0 a1 a2 a3 (F_P_placeFrom n9) i14) 71 ((i14 : Int).toNat)) → P_P_placeFrom n9 (z_up (A_P_placeFrom_72 w a0 a1 a2 a3 (F_P_placeFrom n9) i14) 71 ((i14 : Int).toNat) (((A_P_placeFrom_72 w a0 a1 a2 a3 (F_P_placeFrom n9) i14) 71 ((i14 : Int).toNat)) - ((F_Y_value w 2 a0 0) * (F_Y_value w 0 0 0)))) (a0 + 1) a1 ((a2 * 10) + (i14 : Int)) (zz_or a3 (zz_shl 1 (i14 : Int)))))))))) ∧ ((-2147483648 ≤ (((w 32 1).toNat : Nat) : Int) ∧ (((w 32 1).toNat : Nat) : Int) < 2147483648) ∧ (-2147483648 ≤ (A_P_placeFrom_72 w a0 a1 a2 a3 (F_P_placeFrom n9) (w 32 1).toNat) 32 1 ∧ (A_P_placeFrom_72 w a0 a1 a2 a3 (F_P_placeFrom n9) (w 32 1).toNat) 32 1 < 2147483648) ∧ ((A_P_placeFrom_72 w a0 a1 a2 a3 (F_P_placeFrom n9) (w 32 1).toNat) 32 1 = w 32 1)))))) ∧ (¬ (a0 < w 32 2) → True))) ∧ (¬ (F_J_bitCount_0f7a4 w a3 < w 70 3) → True))
set_option maxHeartbeats 2000000 in
set_option maxRecDepth 4000 in
theorem c_P_placeFrom {d : Nat} : ∀ {n9 : Nat} {w : z_Wd} {a0 a1 a2 a3 : Int} {Q : Option z_V → z_Wd → Prop} (h : P_P_placeFrom n9 w a0 a1 a2 a3) (k : Q none (F_P_placeFrom n9 w a0 a1 a2 a3)), z_Wc (d + n9 + 3) m_X9_placeFrom [zR 70, zI a0, zI a1, zI a2, zI a3] w Q := by
  intro n9
  induction n9 with
  | zero => intro w a0 a1 a2 a3 Q h k; exact False.elim h
  | succ n9 ihr =>
    intro w a0 a1 a2 a3 Q h k
    have h : (-2147483648 ≤ F_J_bitCount_0f7a4 w a3 ∧ F_J_bitCount_0f7a4 w a3 < 2147483648) ∧ (-2147483648 ≤ w 70 3 ∧ w 70 3 < 2147483648) ∧ ((F_J_bitCount_0f7a4 w a3 < w 70 3 → (-2147483648 ≤ a0 ∧ a0 < 2147483648) ∧ (-2147483648 ≤ w 32 2 ∧ w 32 2 < 2147483648) ∧ ((a0 < w 32 2 → (-2147483648 ≤ zz_and (zz_shr a1 a0) 1 ∧ zz_and (zz_shr a1 a0) 1 < 2147483648) ∧ ((zz_and (zz_shr a1 a0) 1 = 0 → P_P_placeFrom n9 w (a0 + 1) a1 a2 a3) ∧ (¬ (zz_and (zz_shr a1 a0) 1 = 0) → ((P_Y_value w 2 a0 0) ∧ (P_Y_value w 0 0 0)) ∧ ((∀ i14 : Nat, i14 < ((w 32 1).toNat) → zfind (E_P_placeFrom_72 w a0 a1 a2 a3 (F_P_placeFrom n9)) i14 = -1 → (-2147483648 ≤ (i14 : Int) ∧ (i14 : Int) < 2147483648) ∧ (-2147483648 ≤ (A_P_placeFrom_72 w a0 a1 a2 a3 (F_P_placeFrom n9) i14) 32 1 ∧ (A_P_placeFrom_72 w a0 a1 a2 a3 (F_P_placeFrom n9) i14) 32 1 < 2147483648) ∧ ((A_P_placeFrom_72 w a0 a1 a2 a3 (F_P_placeFrom n9) i14) 32 1 = w 32 1) ∧ (((i14 : Int) ≥ 4 → True) ∧ (¬ ((i14 : Int) ≥ 4) → (P_Y_isHisColour (A_P_placeFrom_72 w a0 a1 a2 a3 (F_P_placeFrom n9) i14) a0 (i14 : Int)) ∧ ((F_Y_isHisColour (A_P_placeFrom_72 w a0 a1 a2 a3 (F_P_placeFrom n9) i14) a0 (i14 : Int) = 0 → True) ∧ (¬ (F_Y_isHisColour (A_P_placeFrom_72 w a0 a1 a2 a3 (F_P_placeFrom n9) i14) a0 (i14 : Int) = 0) → (0 ≤ (i14 : Int) ∧ (i14 : Int) < 4) ∧ (-2147483648 ≤ (F_Y_value w 2 a0 0) * (F_Y_value w 0 0 0) ∧ (F_Y_value w 2 a0 0) * (F_Y_value w 0 0 0) < 2147483648) ∧ (-2147483648 ≤ (A_P_placeFrom_72 w a0 a1 a2 a3 (F_P_placeFrom n9) i14) 71 ((i14 : Int).toNat) ∧ (A_P_placeFrom_72 w a0 a1 a2 a3 (F_P_placeFrom n9) i14) 71 ((i14 : Int).toNat) < 2147483648) ∧ (((F_Y_value w 2 a0 0) * (F_Y_value w 0 0 0) > (A_P_placeFrom_72 w a0 a1 a2 a3 (F_P_placeFrom n9) i14) 71 ((i14 : Int).toNat) → True) ∧ (¬ ((F_Y_value w 2 a0 0) * (F_Y_value w 0 0 0) > (A_P_placeFrom_72 w a0 a1 a2 a3 (F_P_placeFrom n9) i14) 71 ((i14 : Int).toNat)) → P_P_placeFrom n9 (z_up (A_P_placeFrom_72 w a0 a1 a2 a3 (F_P_placeFrom n9) i14) 71 ((i14 : Int).toNat) (((A_P_placeFrom_72 w a0 a1 a2 a3 (F_P_placeFrom n9) i14) 71 ((i14 : Int).toNat)) - ((F_Y_value w 2 a0 0) * (F_Y_value w 0 0 0)))) (a0 + 1) a1 ((a2 * 10) + (i14 : Int)) (zz_or a3 (zz_shl 1 (i14 : Int)))))))))) ∧ ((-2147483648 ≤ (((w 32 1).toNat : Nat) : Int) ∧ (((w 32 1).toNat : Nat) : Int) < 2147483648) ∧ (-2147483648 ≤ (A_P_placeFrom_72 w a0 a1 a2 a3 (F_P_placeFrom n9) (w 32 1).toNat) 32 1 ∧ (A_P_placeFrom_72 w a0 a1 a2 a3 (F_P_placeFrom n9) (w 32 1).toNat) 32 1 < 2147483648) ∧ ((A_P_placeFrom_72 w a0 a1 a2 a3 (F_P_placeFrom n9) (w 32 1).toNat) 32 1 = w 32 1)))))) ∧ (¬ (a0 < w 32 2) → True))) ∧ (¬ (F_J_bitCount_0f7a4 w a3 < w 70 3) → True)) := h
    have k : Q none (if F_J_bitCount_0f7a4 w a3 < w 70 3 then if a0 < w 32 2 then if zz_and (zz_shr a1 a0) 1 = 0 then F_P_placeFrom n9 w (a0 + 1) a1 a2 a3 else if zfind (E_P_placeFrom_72 w a0 a1 a2 a3 (F_P_placeFrom n9)) ((w 32 1).toNat) = -1 then A_P_placeFrom_72 w a0 a1 a2 a3 (F_P_placeFrom n9) (w 32 1).toNat else R_P_placeFrom_72 w a0 a1 a2 a3 (F_P_placeFrom n9) (zfind (E_P_placeFrom_72 w a0 a1 a2 a3 (F_P_placeFrom n9)) ((w 32 1).toNat)).toNat else z_up (z_up w 70 3 (F_J_bitCount_0f7a4 w a3)) 70 4 a2 else w) := k
    refine z_enter rfl (Nat.le_of_ble_eq_true rfl) ?_
    show z_Wp m_X9_placeFrom _ 0 [(0, zR 70), (1, zI a0), (2, zI a1), (3, zI a2), (4, zI a3)] [] w _
    refine z_iload (pc' := 2) 4 rfl dX9_placeFrom_0 rfl ?_
    refine z_invS (as := [zI a3]) (st := []) (C := m_J6_bitCount_0f7a4) (pc' := 5) dX9_placeFrom_2 rfl t_4_222 k_J6_bitCount_0f7a4 rfl rfl (Nat.le_of_ble_eq_true rfl) ?_
    refine c_J_bitCount_0f7a4 ?_
    show z_Wp m_X9_placeFrom _ 5 [(0, zR 70), (1, zI a0), (2, zI a1), (3, zI a2), (4, zI a3)] [zI (F_J_bitCount_0f7a4 w a3)] w _
    refine z_aload_n (pc' := 6) 0 rfl rfl dX9_placeFrom_5 rfl ?_
    refine z_getI2 (v := w 70 3) (pc' := 9) g_X9_29 (by decide) rfl rfl rfl dX9_placeFrom_6 rfl ?_
    obtain ⟨r1, h⟩ := h
    obtain ⟨r2, h⟩ := h
    refine z_icmp_lt 13 dX9_placeFrom_9 (by decide) (pc' := 12) rfl r1 r2 (fun c => ?_) (fun c => ?_)
    · have h := h.1 c
      rw [if_pos c] at k
      refine z_iload_n (pc' := 14) 1 rfl rfl dX9_placeFrom_13 rfl ?_
      refine z_aload_n (pc' := 15) 0 rfl rfl dX9_placeFrom_14 rfl ?_
      refine z_getR (t := 30) (pc' := 18) g_X9_17 (by decide) rfl rfl dX9_placeFrom_15 rfl ?_
      refine z_invV (as := []) (st := [zI a0]) (C := m_X6_names) (fs := [33, 34]) (pc' := 21) dX9_placeFrom_18 rfl t_4_223 k_X6_names rfl (by decide) rfl rfl rfl rfl (Nat.le_of_ble_eq_true rfl) ?_
      refine c_Y_names ?_
      show z_Wp m_X9_placeFrom _ 21 [(0, zR 70), (1, zI a0), (2, zI a1), (3, zI a2), (4, zI a3)] [zI (w 32 2), zI a0] w _
      obtain ⟨r3, h⟩ := h
      obtain ⟨r4, h⟩ := h
      refine z_icmp_lt 39 dX9_placeFrom_21 (by decide) (pc' := 24) rfl r3 r4 (fun c => ?_) (fun c => ?_)
      · have h := h.1 c
        rw [if_pos c] at k
        refine z_iload_n (pc' := 40) 2 rfl rfl dX9_placeFrom_39 rfl ?_
        refine z_iload_n (pc' := 41) 1 rfl rfl dX9_placeFrom_40 rfl ?_
        refine z_ishr (pc' := 42) dX9_placeFrom_41 rfl ?_
        refine z_iconst (pc' := 43) dX9_placeFrom_42 rfl ?_
        refine z_iand (pc' := 44) dX9_placeFrom_43 rfl ?_
        obtain ⟨r5, h⟩ := h
        refine z_if_ne 59 dX9_placeFrom_44 (by decide) (pc' := 47) rfl r5 (fun c => ?_) (fun c => ?_)
        · have h := h.2 c
          rw [if_neg c] at k
          refine z_aload_n (pc' := 60) 0 rfl rfl dX9_placeFrom_59 rfl ?_
          refine z_getR (t := 30) (pc' := 63) g_X9_17 (by decide) rfl rfl dX9_placeFrom_60 rfl ?_
          refine z_iload_n (pc' := 64) 1 rfl rfl dX9_placeFrom_63 rfl ?_
          refine z_invV (as := [zI a0]) (st := []) (C := m_X6_drops) (fs := [33, 34]) (pc' := 67) dX9_placeFrom_64 rfl t_4_224 k_X6_drops rfl (by decide) rfl rfl rfl rfl (Nat.le_of_ble_eq_true rfl) ?_
          obtain ⟨r6, h⟩ := h
          refine c_Y_drops r6 ?_
          show z_Wp m_X9_placeFrom _ 67 [(0, zR 70), (1, zI a0), (2, zI a1), (3, zI a2), (4, zI a3)] [zI ((F_Y_value w 2 a0 0) * (F_Y_value w 0 0 0))] w _
          refine z_istore (pc' := 69) (ls' := [(0, zR 70), (1, zI a0), (2, zI a1), (3, zI a2), (4, zI a3), (5, zI ((F_Y_value w 2 a0 0) * (F_Y_value w 0 0 0)))]) (by decide) rfl rfl dX9_placeFrom_67 rfl ?_
          refine z_iconst (pc' := 70) dX9_placeFrom_69 rfl ?_
          refine z_istore (pc' := 72) (ls' := [(0, zR 70), (1, zI a0), (2, zI a1), (3, zI a2), (4, zI a3), (5, zI ((F_Y_value w 2 a0 0) * (F_Y_value w 0 0 0))), (6, zI 0)]) (by decide) rfl rfl dX9_placeFrom_70 rfl ?_
          refine z_upto ((w 32 1).toNat) (fun i14 => zfind (E_P_placeFrom_72 w a0 a1 a2 a3 (F_P_placeFrom n9)) i14 = -1 → z_Wp m_X9_placeFrom (d + (n9 + 1) + 3) 72 [(0, zR 70), (1, zI a0), (2, zI a1), (3, zI a2), (4, zI a3), (5, zI ((F_Y_value w 2 a0 0) * (F_Y_value w 0 0 0))), (6, zI (i14 : Int))] [] (A_P_placeFrom_72 w a0 a1 a2 a3 (F_P_placeFrom n9) i14) Q) ?_ ?_ rfl
          · intro hf
            rw [if_pos hf] at k
            have h := h.2
            refine z_iload (pc' := 74) 6 rfl dX9_placeFrom_72 rfl ?_
            refine z_aload_n (pc' := 75) 0 rfl rfl dX9_placeFrom_74 rfl ?_
            refine z_getR (t := 30) (pc' := 78) g_X9_17 (by decide) rfl rfl dX9_placeFrom_75 rfl ?_
            refine z_invV (as := []) (st := [zI (((w 32 1).toNat : Nat) : Int)]) (C := m_X6_wells) (fs := [33, 34]) (pc' := 81) dX9_placeFrom_78 rfl t_4_216 k_X6_wells rfl (by decide) rfl rfl rfl rfl (Nat.le_of_ble_eq_true rfl) ?_
            refine c_Y_wells ?_
            show z_Wp m_X9_placeFrom _ 81 [(0, zR 70), (1, zI a0), (2, zI a1), (3, zI a2), (4, zI a3), (5, zI ((F_Y_value w 2 a0 0) * (F_Y_value w 0 0 0))), (6, zI (((w 32 1).toNat : Nat) : Int))] [zI ((A_P_placeFrom_72 w a0 a1 a2 a3 (F_P_placeFrom n9) (w 32 1).toNat) 32 1), zI (((w 32 1).toNat : Nat) : Int)] (A_P_placeFrom_72 w a0 a1 a2 a3 (F_P_placeFrom n9) (w 32 1).toNat) _
            obtain ⟨r23, h⟩ := h
            obtain ⟨r24, h⟩ := h
            have r25 := h
            refine z_icmp_ge 171 dX9_placeFrom_81 (by decide) (pc' := 84) rfl r23 r24 (fun _ => ?_) (fun c => absurd c (by first | omega | (rw [r25]; first | exact z_exitgt | exact z_exitge | omega)))
            refine z_vret rfl dX9_placeFrom_171 ?_
            exact k
          · intro i14 hi ih hf
            have h := h.1 i14 hi hf
            have ih : zfind (E_P_placeFrom_72 w a0 a1 a2 a3 (F_P_placeFrom n9)) (i14 + 1) = -1 → z_Wp m_X9_placeFrom (d + (n9 + 1) + 3) 72 [(0, zR 70), (1, zI a0), (2, zI a1), (3, zI a2), (4, zI a3), (5, zI ((F_Y_value w 2 a0 0) * (F_Y_value w 0 0 0))), (6, zI ((i14 + 1 : Nat) : Int))] [] (if (i14 : Int) ≥ 4 then A_P_placeFrom_72 w a0 a1 a2 a3 (F_P_placeFrom n9) i14 else if F_Y_isHisColour (A_P_placeFrom_72 w a0 a1 a2 a3 (F_P_placeFrom n9) i14) a0 (i14 : Int) = 0 then A_P_placeFrom_72 w a0 a1 a2 a3 (F_P_placeFrom n9) i14 else if (F_Y_value w 2 a0 0) * (F_Y_value w 0 0 0) > (A_P_placeFrom_72 w a0 a1 a2 a3 (F_P_placeFrom n9) i14) 71 ((i14 : Int).toNat) then A_P_placeFrom_72 w a0 a1 a2 a3 (F_P_placeFrom n9) i14 else z_up (F_P_placeFrom n9 (z_up (A_P_placeFrom_72 w a0 a1 a2 a3 (F_P_placeFrom n9) i14) 71 ((i14 : Int).toNat) (((A_P_placeFrom_72 w a0 a1 a2 a3 (F_P_placeFrom n9) i14) 71 ((i14 : Int).toNat)) - ((F_Y_value w 2 a0 0) * (F_Y_value w 0 0 0)))) (a0 + 1) a1 ((a2 * 10) + (i14 : Int)) (zz_or a3 (zz_shl 1 (i14 : Int)))) 71 ((i14 : Int).toNat) (((F_P_placeFrom n9 (z_up (A_P_placeFrom_72 w a0 a1 a2 a3 (F_P_placeFrom n9) i14) 71 ((i14 : Int).toNat) (((A_P_placeFrom_72 w a0 a1 a2 a3 (F_P_placeFrom n9) i14) 71 ((i14 : Int).toNat)) - ((F_Y_value w 2 a0 0) * (F_Y_value w 0 0 0)))) (a0 + 1) a1 ((a2 * 10) + (i14 : Int)) (zz_or a3 (zz_shl 1 (i14 : Int)))) 71 ((i14 : Int).toNat)) + ((F_Y_value w 2 a0 0) * (F_Y_value w 0 0 0)))) Q := ih
            have hE : E_P_placeFrom_72 w a0 a1 a2 a3 (F_P_placeFrom n9) i14 = (if (i14 : Int) ≥ 4 then true else if F_Y_isHisColour (A_P_placeFrom_72 w a0 a1 a2 a3 (F_P_placeFrom n9) i14) a0 (i14 : Int) = 0 then false else if (F_Y_value w 2 a0 0) * (F_Y_value w 0 0 0) > (A_P_placeFrom_72 w a0 a1 a2 a3 (F_P_placeFrom n9) i14) 71 ((i14 : Int).toNat) then false else false) := rfl
            refine z_iload (pc' := 74) 6 rfl dX9_placeFrom_72 rfl ?_
            refine z_aload_n (pc' := 75) 0 rfl rfl dX9_placeFrom_74 rfl ?_
            refine z_getR (t := 30) (pc' := 78) g_X9_17 (by decide) rfl rfl dX9_placeFrom_75 rfl ?_
            refine z_invV (as := []) (st := [zI (i14 : Int)]) (C := m_X6_wells) (fs := [33, 34]) (pc' := 81) dX9_placeFrom_78 rfl t_4_216 k_X6_wells rfl (by decide) rfl rfl rfl rfl (Nat.le_of_ble_eq_true rfl) ?_
            refine c_Y_wells ?_
            show z_Wp m_X9_placeFrom _ 81 [(0, zR 70), (1, zI a0), (2, zI a1), (3, zI a2), (4, zI a3), (5, zI ((F_Y_value w 2 a0 0) * (F_Y_value w 0 0 0))), (6, zI (i14 : Int))] [zI ((A_P_placeFrom_72 w a0 a1 a2 a3 (F_P_placeFrom n9) i14) 32 1), zI (i14 : Int)] (A_P_placeFrom_72 w a0 a1 a2 a3 (F_P_placeFrom n9) i14) _
            obtain ⟨r15, h⟩ := h
            obtain ⟨r16, h⟩ := h
            obtain ⟨r17, h⟩ := h
            refine z_icmp_ge 171 dX9_placeFrom_81 (by decide) (pc' := 84) rfl r15 r16 (fun c => absurd c (by first | omega | (rw [r17]; first | exact z_exitgt | exact z_exitge | omega))) (fun _ => ?_)
            refine z_iload (pc' := 86) 6 rfl dX9_placeFrom_84 rfl ?_
            refine z_aload_n (pc' := 87) 0 rfl rfl dX9_placeFrom_86 rfl ?_
            refine z_getR (t := 71) (pc' := 90) g_X9_11 (by decide) rfl rfl dX9_placeFrom_87 rfl ?_
            refine z_alen2 (v := 4) (pc' := 91) (by decide) rfl rfl dX9_placeFrom_90 rfl ?_
            refine z_icmp_ge 171 dX9_placeFrom_91 (by decide) (pc' := 94) rfl r15 (by decide) (fun c130 => ?_) (fun c130 => ?_)
            · have h := h.1 c130
              rw [if_pos c130] at ih
              rw [if_pos c130] at hE
              refine z_vret rfl dX9_placeFrom_171 ?_
              have hz := zfind_hit hf hE _ hi
              rw [hz, if_neg (by omega), Int.toNat_natCast] at k
              unfold R_P_placeFrom_72 at k
              rw [if_pos c130] at k
              exact k
            · have h := h.2 c130
              rw [if_neg c130] at ih
              rw [if_neg c130] at hE
              refine z_aload_n (pc' := 95) 0 rfl rfl dX9_placeFrom_94 rfl ?_
              refine z_getR (t := 30) (pc' := 98) g_X9_17 (by decide) rfl rfl dX9_placeFrom_95 rfl ?_
              refine z_iload_n (pc' := 99) 1 rfl rfl dX9_placeFrom_98 rfl ?_
              refine z_iload (pc' := 101) 6 rfl dX9_placeFrom_99 rfl ?_
              refine z_invV (as := [zI a0, zI (i14 : Int)]) (st := []) (C := m_X6_isHisColour) (fs := [33, 34]) (pc' := 104) dX9_placeFrom_101 rfl t_4_225 k_X6_isHisColour rfl (by decide) rfl rfl rfl rfl (Nat.le_of_ble_eq_true rfl) ?_
              obtain ⟨r18, h⟩ := h
              refine c_Y_isHisColour r18 ?_
              show z_Wp m_X9_placeFrom _ 104 [(0, zR 70), (1, zI a0), (2, zI a1), (3, zI a2), (4, zI a3), (5, zI ((F_Y_value w 2 a0 0) * (F_Y_value w 0 0 0))), (6, zI (i14 : Int))] [zI (F_Y_isHisColour (A_P_placeFrom_72 w a0 a1 a2 a3 (F_P_placeFrom n9) i14) a0 (i14 : Int))] (A_P_placeFrom_72 w a0 a1 a2 a3 (F_P_placeFrom n9) i14) _
              refine z_if_eq 165 dX9_placeFrom_104 (by decide) (pc' := 107) rfl (z_rb b_Y_isHisColour) (fun c131 => ?_) (fun c131 => ?_)
              · have h := h.1 c131
                rw [if_pos c131] at ih
                rw [if_pos c131] at hE
                refine z_iinc (pc' := 168) (ls' := [(0, zR 70), (1, zI a0), (2, zI a1), (3, zI a2), (4, zI a3), (5, zI ((F_Y_value w 2 a0 0) * (F_Y_value w 0 0 0))), (6, zI ((i14 : Int) + 1))]) 6 rfl (by decide) rfl rfl dX9_placeFrom_165 rfl ?_
                refine z_goto 72 dX9_placeFrom_168 (by decide) ?_
                exact (ih (zfind_miss hf (by rw [hE]; decide)))
              · have h := h.2 c131
                rw [if_neg c131] at ih
                rw [if_neg c131] at hE
                refine z_iload (pc' := 109) 5 rfl dX9_placeFrom_107 rfl ?_
                refine z_aload_n (pc' := 110) 0 rfl rfl dX9_placeFrom_109 rfl ?_
                refine z_getR (t := 71) (pc' := 113) g_X9_11 (by decide) rfl rfl dX9_placeFrom_110 rfl ?_
                refine z_iload (pc' := 115) 6 rfl dX9_placeFrom_113 rfl ?_
                obtain ⟨r19, h⟩ := h
                refine z_iald2 (v := (A_P_placeFrom_72 w a0 a1 a2 a3 (F_P_placeFrom n9) i14) 71 ((i14 : Int).toNat)) (pc' := 116) (by decide) rfl r19 (by decide) rfl dX9_placeFrom_115 rfl ?_
                obtain ⟨r20, h⟩ := h
                obtain ⟨r21, h⟩ := h
                refine z_icmp_gt 165 dX9_placeFrom_116 (by decide) (pc' := 119) rfl r20 r21 (fun c132 => ?_) (fun c132 => ?_)
                · have h := h.1 c132
                  rw [if_pos c132] at ih
                  rw [if_pos c132] at hE
                  refine z_iinc (pc' := 168) (ls' := [(0, zR 70), (1, zI a0), (2, zI a1), (3, zI a2), (4, zI a3), (5, zI ((F_Y_value w 2 a0 0) * (F_Y_value w 0 0 0))), (6, zI ((i14 : Int) + 1))]) 6 rfl (by decide) rfl rfl dX9_placeFrom_165 rfl ?_
                  refine z_goto 72 dX9_placeFrom_168 (by decide) ?_
                  exact (ih (zfind_miss hf (by rw [hE]; decide)))
                · have h := h.2 c132
                  rw [if_neg c132] at ih
                  rw [if_neg c132] at hE
                  refine z_aload_n (pc' := 120) 0 rfl rfl dX9_placeFrom_119 rfl ?_
                  refine z_getR (t := 71) (pc' := 123) g_X9_11 (by decide) rfl rfl dX9_placeFrom_120 rfl ?_
                  refine z_iload (pc' := 125) 6 rfl dX9_placeFrom_123 rfl ?_
                  refine z_dup2 (pc' := 126) rfl rfl dX9_placeFrom_125 rfl ?_
                  refine z_iald2 (v := (A_P_placeFrom_72 w a0 a1 a2 a3 (F_P_placeFrom n9) i14) 71 ((i14 : Int).toNat)) (pc' := 127) (by decide) rfl r19 (by decide) rfl dX9_placeFrom_126 rfl ?_
                  refine z_iload (pc' := 129) 5 rfl dX9_placeFrom_127 rfl ?_
                  refine z_isub (pc' := 130) dX9_placeFrom_129 rfl ?_
                  refine z_iast2 (w' := z_up (A_P_placeFrom_72 w a0 a1 a2 a3 (F_P_placeFrom n9) i14) 71 ((i14 : Int).toNat) (((A_P_placeFrom_72 w a0 a1 a2 a3 (F_P_placeFrom n9) i14) 71 ((i14 : Int).toNat)) - ((F_Y_value w 2 a0 0) * (F_Y_value w 0 0 0)))) (pc' := 131) (by decide) rfl r19 (by decide) rfl dX9_placeFrom_130 rfl ?_
                  refine z_aload_n (pc' := 132) 0 rfl rfl dX9_placeFrom_131 rfl ?_
                  refine z_iload_n (pc' := 133) 1 rfl rfl dX9_placeFrom_132 rfl ?_
                  refine z_iconst (pc' := 134) dX9_placeFrom_133 rfl ?_
                  refine z_iadd (pc' := 135) dX9_placeFrom_134 rfl ?_
                  refine z_iload_n (pc' := 136) 2 rfl rfl dX9_placeFrom_135 rfl ?_
                  refine z_iload_n (pc' := 137) 3 rfl rfl dX9_placeFrom_136 rfl ?_
                  refine z_bipush (pc' := 139) (by decide) dX9_placeFrom_137 rfl ?_
                  refine z_imul (pc' := 140) dX9_placeFrom_139 rfl ?_
                  refine z_iload (pc' := 142) 6 rfl dX9_placeFrom_140 rfl ?_
                  refine z_iadd (pc' := 143) dX9_placeFrom_142 rfl ?_
                  refine z_iload (pc' := 145) 4 rfl dX9_placeFrom_143 rfl ?_
                  refine z_iconst (pc' := 146) dX9_placeFrom_145 rfl ?_
                  refine z_iload (pc' := 148) 6 rfl dX9_placeFrom_146 rfl ?_
                  refine z_ishl (pc' := 149) dX9_placeFrom_148 rfl ?_
                  refine z_ior (pc' := 150) dX9_placeFrom_149 rfl ?_
                  refine z_invV (as := [zI (a0 + 1), zI a1, zI ((a2 * 10) + (i14 : Int)), zI (zz_or a3 (zz_shl 1 (i14 : Int)))]) (st := []) (C := m_X9_placeFrom) (fs := [32, 43, 73, 0, 0]) (pc' := 153) dX9_placeFrom_150 rfl t_4_218 k_X9_placeFrom rfl (by decide) rfl rfl rfl rfl (Nat.le_of_ble_eq_true rfl) ?_
                  have r22 := h
                  refine z_dcast (d' := d + n9 + 3) (by omega) (ihr r22 ?_)
                  show z_Wp m_X9_placeFrom _ 153 [(0, zR 70), (1, zI a0), (2, zI a1), (3, zI a2), (4, zI a3), (5, zI ((F_Y_value w 2 a0 0) * (F_Y_value w 0 0 0))), (6, zI (i14 : Int))] [] (F_P_placeFrom n9 (z_up (A_P_placeFrom_72 w a0 a1 a2 a3 (F_P_placeFrom n9) i14) 71 ((i14 : Int).toNat) (((A_P_placeFrom_72 w a0 a1 a2 a3 (F_P_placeFrom n9) i14) 71 ((i14 : Int).toNat)) - ((F_Y_value w 2 a0 0) * (F_Y_value w 0 0 0)))) (a0 + 1) a1 ((a2 * 10) + (i14 : Int)) (zz_or a3 (zz_shl 1 (i14 : Int)))) _
                  refine z_aload_n (pc' := 154) 0 rfl rfl dX9_placeFrom_153 rfl ?_
                  refine z_getR (t := 71) (pc' := 157) g_X9_11 (by decide) rfl rfl dX9_placeFrom_154 rfl ?_
                  refine z_iload (pc' := 159) 6 rfl dX9_placeFrom_157 rfl ?_
                  refine z_dup2 (pc' := 160) rfl rfl dX9_placeFrom_159 rfl ?_
                  refine z_iald2 (v := (F_P_placeFrom n9 (z_up (A_P_placeFrom_72 w a0 a1 a2 a3 (F_P_placeFrom n9) i14) 71 ((i14 : Int).toNat) (((A_P_placeFrom_72 w a0 a1 a2 a3 (F_P_placeFrom n9) i14) 71 ((i14 : Int).toNat)) - ((F_Y_value w 2 a0 0) * (F_Y_value w 0 0 0)))) (a0 + 1) a1 ((a2 * 10) + (i14 : Int)) (zz_or a3 (zz_shl 1 (i14 : Int)))) 71 ((i14 : Int).toNat)) (pc' := 161) (by decide) rfl r19 (by decide) rfl dX9_placeFrom_160 rfl ?_
                  refine z_iload (pc' := 163) 5 rfl dX9_placeFrom_161 rfl ?_
                  refine z_iadd (pc' := 164) dX9_placeFrom_163 rfl ?_
                  refine z_iast2 (w' := z_up (F_P_placeFrom n9 (z_up (A_P_placeFrom_72 w a0 a1 a2 a3 (F_P_placeFrom n9) i14) 71 ((i14 : Int).toNat) (((A_P_placeFrom_72 w a0 a1 a2 a3 (F_P_placeFrom n9) i14) 71 ((i14 : Int).toNat)) - ((F_Y_value w 2 a0 0) * (F_Y_value w 0 0 0)))) (a0 + 1) a1 ((a2 * 10) + (i14 : Int)) (zz_or a3 (zz_shl 1 (i14 : Int)))) 71 ((i14 : Int).toNat) (((F_P_placeFrom n9 (z_up (A_P_placeFrom_72 w a0 a1 a2 a3 (F_P_placeFrom n9) i14) 71 ((i14 : Int).toNat) (((A_P_placeFrom_72 w a0 a1 a2 a3 (F_P_placeFrom n9) i14) 71 ((i14 : Int).toNat)) - ((F_Y_value w 2 a0 0) * (F_Y_value w 0 0 0)))) (a0 + 1) a1 ((a2 * 10) + (i14 : Int)) (zz_or a3 (zz_shl 1 (i14 : Int)))) 71 ((i14 : Int).toNat)) + ((F_Y_value w 2 a0 0) * (F_Y_value w 0 0 0)))) (pc' := 165) (by decide) rfl r19 (by decide) rfl dX9_placeFrom_164 rfl ?_
                  refine z_iinc (pc' := 168) (ls' := [(0, zR 70), (1, zI a0), (2, zI a1), (3, zI a2), (4, zI a3), (5, zI ((F_Y_value w 2 a0 0) * (F_Y_value w 0 0 0))), (6, zI ((i14 : Int) + 1))]) 6 rfl (by decide) rfl rfl dX9_placeFrom_165 rfl ?_
                  refine z_goto 72 dX9_placeFrom_168 (by decide) ?_
                  exact (ih (zfind_miss hf (by rw [hE]; decide)))
        · have h := h.1 c
          rw [if_pos c] at k
          refine z_aload_n (pc' := 48) 0 rfl rfl dX9_placeFrom_47 rfl ?_
          refine z_iload_n (pc' := 49) 1 rfl rfl dX9_placeFrom_48 rfl ?_
          refine z_iconst (pc' := 50) dX9_placeFrom_49 rfl ?_
          refine z_iadd (pc' := 51) dX9_placeFrom_50 rfl ?_
          refine z_iload_n (pc' := 52) 2 rfl rfl dX9_placeFrom_51 rfl ?_
          refine z_iload_n (pc' := 53) 3 rfl rfl dX9_placeFrom_52 rfl ?_
          refine z_iload (pc' := 55) 4 rfl dX9_placeFrom_53 rfl ?_
          refine z_invV (as := [zI (a0 + 1), zI a1, zI a2, zI a3]) (st := []) (C := m_X9_placeFrom) (fs := [32, 43, 73, 0, 0]) (pc' := 58) dX9_placeFrom_55 rfl t_4_218 k_X9_placeFrom rfl (by decide) rfl rfl rfl rfl (Nat.le_of_ble_eq_true rfl) ?_
          have r26 := h
          refine z_dcast (d' := d + n9 + 3) (by omega) (ihr r26 ?_)
          show z_Wp m_X9_placeFrom _ 58 [(0, zR 70), (1, zI a0), (2, zI a1), (3, zI a2), (4, zI a3)] [] (F_P_placeFrom n9 w (a0 + 1) a1 a2 a3) _
          refine z_vret rfl dX9_placeFrom_58 ?_
          exact k
      · have h := h.2 c
        rw [if_neg c] at k
        refine z_aload_n (pc' := 25) 0 rfl rfl dX9_placeFrom_24 rfl ?_
        refine z_iload (pc' := 27) 4 rfl dX9_placeFrom_25 rfl ?_
        refine z_invS (as := [zI a3]) (st := [zR 70]) (C := m_J6_bitCount_0f7a4) (pc' := 30) dX9_placeFrom_27 rfl t_4_222 k_J6_bitCount_0f7a4 rfl rfl (Nat.le_of_ble_eq_true rfl) ?_
        refine c_J_bitCount_0f7a4 ?_
        show z_Wp m_X9_placeFrom _ 30 [(0, zR 70), (1, zI a0), (2, zI a1), (3, zI a2), (4, zI a3)] [zI (F_J_bitCount_0f7a4 w a3), zR 70] w _
        refine z_putI (pc' := 33) p_X9_29 (by decide) rfl rfl rfl rfl dX9_placeFrom_30 rfl ?_
        refine z_aload_n (pc' := 34) 0 rfl rfl dX9_placeFrom_33 rfl ?_
        refine z_iload_n (pc' := 35) 3 rfl rfl dX9_placeFrom_34 rfl ?_
        refine z_putI (pc' := 38) p_X9_25 (by decide) rfl rfl rfl rfl dX9_placeFrom_35 rfl ?_
        refine z_vret rfl dX9_placeFrom_38 ?_
        exact k
    · have h := h.2 c
      rw [if_neg c] at k
      refine z_vret rfl dX9_placeFrom_12 ?_
      exact k
