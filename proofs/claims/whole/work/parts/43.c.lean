def P_D_feed (w : z_Wd) (a0 : Int) (a1 : Int) (a2 : Int) (a3 : Int) (a4 : Int) : Prop := (P_T_bytesIn w a0) ∧ (P_T_bytesIn w a1) ∧ (P_T_bytesIn w a2) ∧ (P_T_bytesIn w a3) ∧ (P_T_bytesIn w a4) ∧ (-2147483648 ≤ (w 28 1) + (((((F_T_bytesIn w a0) + (F_T_bytesIn w a1)) + (F_T_bytesIn w a2)) + (F_T_bytesIn w a3)) + (F_T_bytesIn w a4)) ∧ (w 28 1) + (((((F_T_bytesIn w a0) + (F_T_bytesIn w a1)) + (F_T_bytesIn w a2)) + (F_T_bytesIn w a3)) + (F_T_bytesIn w a4)) < 2147483648) ∧ (((w 28 1) + (((((F_T_bytesIn w a0) + (F_T_bytesIn w a1)) + (F_T_bytesIn w a2)) + (F_T_bytesIn w a3)) + (F_T_bytesIn w a4)) ≤ 240 → (P_T_append w a0) ∧ (P_T_append (F_T_append w a0) a1) ∧ (P_T_append (F_T_append (F_T_append w a0) a1) a2) ∧ (P_T_append (F_T_append (F_T_append (F_T_append w a0) a1) a2) a3) ∧ (P_T_append (F_T_append (F_T_append (F_T_append (F_T_append w a0) a1) a2) a3) a4)) ∧ (¬ ((w 28 1) + (((((F_T_bytesIn w a0) + (F_T_bytesIn w a1)) + (F_T_bytesIn w a2)) + (F_T_bytesIn w a3)) + (F_T_bytesIn w a4)) ≤ 240) → True))
def F_D_feed (w : z_Wd) (a0 : Int) (a1 : Int) (a2 : Int) (a3 : Int) (a4 : Int) : Int × z_Wd := if (w 28 1) + (((((F_T_bytesIn w a0) + (F_T_bytesIn w a1)) + (F_T_bytesIn w a2)) + (F_T_bytesIn w a3)) + (F_T_bytesIn w a4)) ≤ 240 then ((F_T_append (F_T_append (F_T_append (F_T_append (F_T_append w a0) a1) a2) a3) a4) 28 1, F_T_append (F_T_append (F_T_append (F_T_append (F_T_append w a0) a1) a2) a3) a4) else ((-1), w)
set_option maxRecDepth 4000 in
theorem c_D_feed {d : Nat} {w : z_Wd} {a0 a1 a2 a3 a4 : Int} {Q : Option z_V → z_Wd → Prop} (h : P_D_feed w a0 a1 a2 a3 a4) (k : Q (some (zI (F_D_feed w a0 a1 a2 a3 a4).1)) (F_D_feed w a0 a1 a2 a3 a4).2) : z_Wc (d + 1) m_X11_feed [zR 27, zI a0, zI a1, zI a2, zI a3, zI a4] w Q := by
  unfold P_D_feed at h
  unfold F_D_feed at k
  refine z_enter rfl (Nat.le_of_ble_eq_true rfl) ?_
  show z_Wp m_X11_feed _ 0 [(0, zR 27), (1, zI a0), (2, zI a1), (3, zI a2), (4, zI a3), (5, zI a4)] [] w _
  refine z_iload_n (pc' := 1) 1 rfl rfl dX11_feed_0 rfl ?_
  refine z_invS (as := [zI a0]) (st := []) (C := m_X10_bytesIn) (pc' := 4) dX11_feed_1 rfl t_2_57 k_X10_bytesIn rfl rfl (Nat.le_of_ble_eq_true rfl) ?_
  obtain ⟨r1, h⟩ := h
  refine c_T_bytesIn r1 ?_
  show z_Wp m_X11_feed _ 4 [(0, zR 27), (1, zI a0), (2, zI a1), (3, zI a2), (4, zI a3), (5, zI a4)] [zI (F_T_bytesIn w a0)] w _
  refine z_iload_n (pc' := 5) 2 rfl rfl dX11_feed_4 rfl ?_
  refine z_invS (as := [zI a1]) (st := [zI (F_T_bytesIn w a0)]) (C := m_X10_bytesIn) (pc' := 8) dX11_feed_5 rfl t_2_57 k_X10_bytesIn rfl rfl (Nat.le_of_ble_eq_true rfl) ?_
  obtain ⟨r2, h⟩ := h
  refine c_T_bytesIn r2 ?_
  show z_Wp m_X11_feed _ 8 [(0, zR 27), (1, zI a0), (2, zI a1), (3, zI a2), (4, zI a3), (5, zI a4)] [zI (F_T_bytesIn w a1), zI (F_T_bytesIn w a0)] w _
  refine z_iadd (pc' := 9) dX11_feed_8 rfl ?_
  refine z_iload_n (pc' := 10) 3 rfl rfl dX11_feed_9 rfl ?_
  refine z_invS (as := [zI a2]) (st := [zI ((F_T_bytesIn w a0) + (F_T_bytesIn w a1))]) (C := m_X10_bytesIn) (pc' := 13) dX11_feed_10 rfl t_2_57 k_X10_bytesIn rfl rfl (Nat.le_of_ble_eq_true rfl) ?_
  obtain ⟨r3, h⟩ := h
  refine c_T_bytesIn r3 ?_
  show z_Wp m_X11_feed _ 13 [(0, zR 27), (1, zI a0), (2, zI a1), (3, zI a2), (4, zI a3), (5, zI a4)] [zI (F_T_bytesIn w a2), zI ((F_T_bytesIn w a0) + (F_T_bytesIn w a1))] w _
  refine z_iadd (pc' := 14) dX11_feed_13 rfl ?_
  refine z_iload (pc' := 16) 4 rfl dX11_feed_14 rfl ?_
  refine z_invS (as := [zI a3]) (st := [zI (((F_T_bytesIn w a0) + (F_T_bytesIn w a1)) + (F_T_bytesIn w a2))]) (C := m_X10_bytesIn) (pc' := 19) dX11_feed_16 rfl t_2_57 k_X10_bytesIn rfl rfl (Nat.le_of_ble_eq_true rfl) ?_
  obtain ⟨r4, h⟩ := h
  refine c_T_bytesIn r4 ?_
  show z_Wp m_X11_feed _ 19 [(0, zR 27), (1, zI a0), (2, zI a1), (3, zI a2), (4, zI a3), (5, zI a4)] [zI (F_T_bytesIn w a3), zI (((F_T_bytesIn w a0) + (F_T_bytesIn w a1)) + (F_T_bytesIn w a2))] w _
  refine z_iadd (pc' := 20) dX11_feed_19 rfl ?_
  refine z_iload (pc' := 22) 5 rfl dX11_feed_20 rfl ?_
  refine z_invS (as := [zI a4]) (st := [zI ((((F_T_bytesIn w a0) + (F_T_bytesIn w a1)) + (F_T_bytesIn w a2)) + (F_T_bytesIn w a3))]) (C := m_X10_bytesIn) (pc' := 25) dX11_feed_22 rfl t_2_57 k_X10_bytesIn rfl rfl (Nat.le_of_ble_eq_true rfl) ?_
  obtain ⟨r5, h⟩ := h
  refine c_T_bytesIn r5 ?_
  show z_Wp m_X11_feed _ 25 [(0, zR 27), (1, zI a0), (2, zI a1), (3, zI a2), (4, zI a3), (5, zI a4)] [zI (F_T_bytesIn w a4), zI ((((F_T_bytesIn w a0) + (F_T_bytesIn w a1)) + (F_T_bytesIn w a2)) + (F_T_bytesIn w a3))] w _
  refine z_iadd (pc' := 26) dX11_feed_25 rfl ?_
  refine z_istore (pc' := 28) (ls' := [(0, zR 27), (1, zI a0), (2, zI a1), (3, zI a2), (4, zI a3), (5, zI a4), (6, zI (((((F_T_bytesIn w a0) + (F_T_bytesIn w a1)) + (F_T_bytesIn w a2)) + (F_T_bytesIn w a3)) + (F_T_bytesIn w a4)))]) (by decide) rfl rfl dX11_feed_26 rfl ?_
  refine z_aload_n (pc' := 29) 0 rfl rfl dX11_feed_28 rfl ?_
  refine z_getR (t := 28) (pc' := 32) g_X11_10 (by decide) rfl rfl dX11_feed_29 rfl ?_
  refine z_invV (as := []) (st := []) (C := m_X10_size) (fs := [31, 0]) (pc' := 35) dX11_feed_32 rfl t_2_60 k_X10_size rfl (by decide) rfl rfl rfl rfl (Nat.le_of_ble_eq_true rfl) ?_
  refine c_T_size ?_
  show z_Wp m_X11_feed _ 35 [(0, zR 27), (1, zI a0), (2, zI a1), (3, zI a2), (4, zI a3), (5, zI a4), (6, zI (((((F_T_bytesIn w a0) + (F_T_bytesIn w a1)) + (F_T_bytesIn w a2)) + (F_T_bytesIn w a3)) + (F_T_bytesIn w a4)))] [zI (w 28 1)] w _
  refine z_iload (pc' := 37) 6 rfl dX11_feed_35 rfl ?_
  refine z_iadd (pc' := 38) dX11_feed_37 rfl ?_
  refine z_sipush (pc' := 41) (by decide) dX11_feed_38 rfl ?_
  obtain ⟨r6, h⟩ := h
  refine z_icmp_le 46 dX11_feed_41 (by decide) (pc' := 44) rfl r6 (by decide) (fun c => ?_) (fun c => ?_)
  · have h := h.1 c
    rw [if_pos c] at k
    refine z_aload_n (pc' := 47) 0 rfl rfl dX11_feed_46 rfl ?_
    refine z_getR (t := 28) (pc' := 50) g_X11_10 (by decide) rfl rfl dX11_feed_47 rfl ?_
    refine z_iload_n (pc' := 51) 1 rfl rfl dX11_feed_50 rfl ?_
    refine z_invV (as := [zI a0]) (st := []) (C := m_X10_append) (fs := [31, 0]) (pc' := 54) dX11_feed_51 rfl t_2_64 k_X10_append rfl (by decide) rfl rfl rfl rfl (Nat.le_of_ble_eq_true rfl) ?_
    obtain ⟨r7, h⟩ := h
    refine c_T_append r7 ?_
    show z_Wp m_X11_feed _ 54 [(0, zR 27), (1, zI a0), (2, zI a1), (3, zI a2), (4, zI a3), (5, zI a4), (6, zI (((((F_T_bytesIn w a0) + (F_T_bytesIn w a1)) + (F_T_bytesIn w a2)) + (F_T_bytesIn w a3)) + (F_T_bytesIn w a4)))] [] (F_T_append w a0) _
    refine z_aload_n (pc' := 55) 0 rfl rfl dX11_feed_54 rfl ?_
    refine z_getR (t := 28) (pc' := 58) g_X11_10 (by decide) rfl rfl dX11_feed_55 rfl ?_
    refine z_iload_n (pc' := 59) 2 rfl rfl dX11_feed_58 rfl ?_
    refine z_invV (as := [zI a1]) (st := []) (C := m_X10_append) (fs := [31, 0]) (pc' := 62) dX11_feed_59 rfl t_2_64 k_X10_append rfl (by decide) rfl rfl rfl rfl (Nat.le_of_ble_eq_true rfl) ?_
    obtain ⟨r8, h⟩ := h
    refine c_T_append r8 ?_
    show z_Wp m_X11_feed _ 62 [(0, zR 27), (1, zI a0), (2, zI a1), (3, zI a2), (4, zI a3), (5, zI a4), (6, zI (((((F_T_bytesIn w a0) + (F_T_bytesIn w a1)) + (F_T_bytesIn w a2)) + (F_T_bytesIn w a3)) + (F_T_bytesIn w a4)))] [] (F_T_append (F_T_append w a0) a1) _
    refine z_aload_n (pc' := 63) 0 rfl rfl dX11_feed_62 rfl ?_
    refine z_getR (t := 28) (pc' := 66) g_X11_10 (by decide) rfl rfl dX11_feed_63 rfl ?_
    refine z_iload_n (pc' := 67) 3 rfl rfl dX11_feed_66 rfl ?_
    refine z_invV (as := [zI a2]) (st := []) (C := m_X10_append) (fs := [31, 0]) (pc' := 70) dX11_feed_67 rfl t_2_64 k_X10_append rfl (by decide) rfl rfl rfl rfl (Nat.le_of_ble_eq_true rfl) ?_
    obtain ⟨r9, h⟩ := h
    refine c_T_append r9 ?_
    show z_Wp m_X11_feed _ 70 [(0, zR 27), (1, zI a0), (2, zI a1), (3, zI a2), (4, zI a3), (5, zI a4), (6, zI (((((F_T_bytesIn w a0) + (F_T_bytesIn w a1)) + (F_T_bytesIn w a2)) + (F_T_bytesIn w a3)) + (F_T_bytesIn w a4)))] [] (F_T_append (F_T_append (F_T_append w a0) a1) a2) _
    refine z_aload_n (pc' := 71) 0 rfl rfl dX11_feed_70 rfl ?_
    refine z_getR (t := 28) (pc' := 74) g_X11_10 (by decide) rfl rfl dX11_feed_71 rfl ?_
    refine z_iload (pc' := 76) 4 rfl dX11_feed_74 rfl ?_
    refine z_invV (as := [zI a3]) (st := []) (C := m_X10_append) (fs := [31, 0]) (pc' := 79) dX11_feed_76 rfl t_2_64 k_X10_append rfl (by decide) rfl rfl rfl rfl (Nat.le_of_ble_eq_true rfl) ?_
    obtain ⟨r10, h⟩ := h
    refine c_T_append r10 ?_
    show z_Wp m_X11_feed _ 79 [(0, zR 27), (1, zI a0), (2, zI a1), (3, zI a2), (4, zI a3), (5, zI a4), (6, zI (((((F_T_bytesIn w a0) + (F_T_bytesIn w a1)) + (F_T_bytesIn w a2)) + (F_T_bytesIn w a3)) + (F_T_bytesIn w a4)))] [] (F_T_append (F_T_append (F_T_append (F_T_append w a0) a1) a2) a3) _
    refine z_aload_n (pc' := 80) 0 rfl rfl dX11_feed_79 rfl ?_
    refine z_getR (t := 28) (pc' := 83) g_X11_10 (by decide) rfl rfl dX11_feed_80 rfl ?_
    refine z_iload (pc' := 85) 5 rfl dX11_feed_83 rfl ?_
    refine z_invV (as := [zI a4]) (st := []) (C := m_X10_append) (fs := [31, 0]) (pc' := 88) dX11_feed_85 rfl t_2_64 k_X10_append rfl (by decide) rfl rfl rfl rfl (Nat.le_of_ble_eq_true rfl) ?_
    have r11 := h
    refine c_T_append r11 ?_
    show z_Wp m_X11_feed _ 88 [(0, zR 27), (1, zI a0), (2, zI a1), (3, zI a2), (4, zI a3), (5, zI a4), (6, zI (((((F_T_bytesIn w a0) + (F_T_bytesIn w a1)) + (F_T_bytesIn w a2)) + (F_T_bytesIn w a3)) + (F_T_bytesIn w a4)))] [] (F_T_append (F_T_append (F_T_append (F_T_append (F_T_append w a0) a1) a2) a3) a4) _
    refine z_aload_n (pc' := 89) 0 rfl rfl dX11_feed_88 rfl ?_
    refine z_getR (t := 28) (pc' := 92) g_X11_10 (by decide) rfl rfl dX11_feed_89 rfl ?_
    refine z_invV (as := []) (st := []) (C := m_X10_size) (fs := [31, 0]) (pc' := 95) dX11_feed_92 rfl t_2_60 k_X10_size rfl (by decide) rfl rfl rfl rfl (Nat.le_of_ble_eq_true rfl) ?_
    refine c_T_size ?_
    show z_Wp m_X11_feed _ 95 [(0, zR 27), (1, zI a0), (2, zI a1), (3, zI a2), (4, zI a3), (5, zI a4), (6, zI (((((F_T_bytesIn w a0) + (F_T_bytesIn w a1)) + (F_T_bytesIn w a2)) + (F_T_bytesIn w a3)) + (F_T_bytesIn w a4)))] [zI ((F_T_append (F_T_append (F_T_append (F_T_append (F_T_append w a0) a1) a2) a3) a4) 28 1)] (F_T_append (F_T_append (F_T_append (F_T_append (F_T_append w a0) a1) a2) a3) a4) _
    refine z_iret rfl dX11_feed_95 ?_
    exact k
  · have h := h.2 c
    rw [if_neg c] at k
    refine z_iconst (pc' := 45) dX11_feed_44 rfl ?_
    refine z_iret rfl dX11_feed_45 ?_
    exact k
