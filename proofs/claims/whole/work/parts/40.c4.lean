def P_D_image (w : z_Wd)  : Prop := P_Y_stands w
def F_D_image (w : z_Wd)  : Int × z_Wd := if F_Y_stands w = 0 then ((-1), w) else ((F_K_copyFrom_47_41 w) 41 8, z_up (F_K_copyFrom_47_41 w) 27 13 1)
set_option maxRecDepth 4000 in
theorem c_D_image {d : Nat} {w : z_Wd} {Q : Option z_V → z_Wd → Prop} (h : P_D_image w ) (k : Q (some (zI (F_D_image w ).1)) (F_D_image w ).2) : z_Wc (d + 2) m_X11_image [zR 27] w Q := by
  unfold P_D_image at h
  unfold F_D_image at k
  refine z_enter rfl (Nat.le_of_ble_eq_true rfl) ?_
  show z_Wp m_X11_image _ 0 [(0, zR 27)] [] w _
  refine z_aload_n (pc' := 1) 0 rfl rfl dX11_image_0 rfl ?_
  refine z_getR (t := 30) (pc' := 4) g_X11_19 (by decide) rfl rfl dX11_image_1 rfl ?_
  refine z_invV (as := []) (st := []) (C := m_X6_stands) (fs := [33, 34]) (pc' := 7) dX11_image_4 rfl t_3_95 k_X6_stands rfl (by decide) rfl rfl rfl rfl (Nat.le_of_ble_eq_true rfl) ?_
  have r1 := h
  refine c_Y_stands r1 ?_
  show z_Wp m_X11_image _ 7 [(0, zR 27)] [zI (F_Y_stands w)] w _
  refine z_if_ne 12 dX11_image_7 (by decide) (pc' := 10) rfl (z_rb b_Y_stands) (fun c => ?_) (fun c => ?_)
  · skip
    rw [if_neg c] at k
    refine z_aload_n (pc' := 13) 0 rfl rfl dX11_image_12 rfl ?_
    refine z_getR (t := 47) (pc' := 16) g_X11_48 (by decide) rfl rfl dX11_image_13 rfl ?_
    refine z_aload_n (pc' := 17) 0 rfl rfl dX11_image_16 rfl ?_
    refine z_getR (t := 41) (pc' := 20) g_X11_44 (by decide) rfl rfl dX11_image_17 rfl ?_
    refine z_invV (as := [zR 41]) (st := []) (C := m_X3_copyFrom) (fs := [32, 50, 51, 52, 53, 54, 0, 0, 0]) (pc' := 23) dX11_image_20 rfl t_5_181 k_X3_copyFrom rfl (by decide) rfl rfl rfl rfl (Nat.le_of_ble_eq_true rfl) ?_
    refine c_K_copyFrom_47_41 ?_
    show z_Wp m_X11_image _ 23 [(0, zR 27)] [] (F_K_copyFrom_47_41 w) _
    refine z_aload_n (pc' := 24) 0 rfl rfl dX11_image_23 rfl ?_
    refine z_iconst (pc' := 25) dX11_image_24 rfl ?_
    refine z_putI (pc' := 28) p_X11_135 (by decide) rfl rfl (by decide) (by decide) dX11_image_25 rfl ?_
    refine z_aload_n (pc' := 29) 0 rfl rfl dX11_image_28 rfl ?_
    refine z_getR (t := 41) (pc' := 32) g_X11_44 (by decide) rfl rfl dX11_image_29 rfl ?_
    refine z_invV (as := []) (st := []) (C := m_X3_year) (fs := [32, 44, 45, 46, 47, 48, 0, 0, 0]) (pc' := 35) dX11_image_32 rfl t_4_58 k_X3_year rfl (by decide) rfl rfl rfl rfl (Nat.le_of_ble_eq_true rfl) ?_
    refine c_K_year ?_
    show z_Wp m_X11_image _ 35 [(0, zR 27)] [zI ((F_K_copyFrom_47_41 w) 41 8)] (z_up (F_K_copyFrom_47_41 w) 27 13 1) _
    refine z_iret rfl dX11_image_35 ?_
    exact k
  · skip
    rw [if_pos c] at k
    refine z_iconst (pc' := 11) dX11_image_10 rfl ?_
    refine z_iret rfl dX11_image_11 ?_
    exact k
def P_D_back (w : z_Wd)  : Prop := -2147483648 ≤ w 27 13 ∧ w 27 13 < 2147483648
def F_D_back (w : z_Wd)  : Int × z_Wd := if w 27 13 = 0 then ((-1), w) else ((F_H_forget (F_K_copyFrom_47 w)) 41 8, F_H_forget (F_K_copyFrom_47 w))
set_option maxRecDepth 4000 in
theorem c_D_back {d : Nat} {w : z_Wd} {Q : Option z_V → z_Wd → Prop} (h : P_D_back w ) (k : Q (some (zI (F_D_back w ).1)) (F_D_back w ).2) : z_Wc (d + 1) m_X11_back [zR 27] w Q := by
  unfold P_D_back at h
  unfold F_D_back at k
  refine z_enter rfl (Nat.le_of_ble_eq_true rfl) ?_
  show z_Wp m_X11_back _ 0 [(0, zR 27)] [] w _
  refine z_aload_n (pc' := 1) 0 rfl rfl dX11_back_0 rfl ?_
  refine z_getI2 (v := w 27 13) (pc' := 4) g_X11_135 (by decide) rfl rfl rfl dX11_back_1 rfl ?_
  have r1 := h
  refine z_if_ne 9 dX11_back_4 (by decide) (pc' := 7) rfl r1 (fun c => ?_) (fun c => ?_)
  · skip
    rw [if_neg c] at k
    refine z_aload_n (pc' := 10) 0 rfl rfl dX11_back_9 rfl ?_
    refine z_getR (t := 41) (pc' := 13) g_X11_44 (by decide) rfl rfl dX11_back_10 rfl ?_
    refine z_aload_n (pc' := 14) 0 rfl rfl dX11_back_13 rfl ?_
    refine z_getR (t := 47) (pc' := 17) g_X11_48 (by decide) rfl rfl dX11_back_14 rfl ?_
    refine z_invV (as := [zR 47]) (st := []) (C := m_X3_copyFrom) (fs := [32, 44, 45, 46, 47, 48, 0, 0, 0]) (pc' := 20) dX11_back_17 rfl t_5_181 k_X3_copyFrom rfl (by decide) rfl rfl rfl rfl (Nat.le_of_ble_eq_true rfl) ?_
    refine c_K_copyFrom_47 ?_
    show z_Wp m_X11_back _ 20 [(0, zR 27)] [] (F_K_copyFrom_47 w) _
    refine z_aload_n (pc' := 21) 0 rfl rfl dX11_back_20 rfl ?_
    refine z_getR (t := 53) (pc' := 24) g_X11_54 (by decide) rfl rfl dX11_back_21 rfl ?_
    refine z_invV (as := []) (st := []) (C := m_X2_forget) (fs := [56, 0, 0]) (pc' := 27) dX11_back_24 rfl t_3_61 k_X2_forget rfl (by decide) rfl rfl rfl rfl (Nat.le_of_ble_eq_true rfl) ?_
    refine c_H_forget ?_
    show z_Wp m_X11_back _ 27 [(0, zR 27)] [] (F_H_forget (F_K_copyFrom_47 w)) _
    refine z_aload_n (pc' := 28) 0 rfl rfl dX11_back_27 rfl ?_
    refine z_getR (t := 41) (pc' := 31) g_X11_44 (by decide) rfl rfl dX11_back_28 rfl ?_
    refine z_invV (as := []) (st := []) (C := m_X3_year) (fs := [32, 44, 45, 46, 47, 48, 0, 0, 0]) (pc' := 34) dX11_back_31 rfl t_4_58 k_X3_year rfl (by decide) rfl rfl rfl rfl (Nat.le_of_ble_eq_true rfl) ?_
    refine c_K_year ?_
    show z_Wp m_X11_back _ 34 [(0, zR 27)] [zI ((F_H_forget (F_K_copyFrom_47 w)) 41 8)] (F_H_forget (F_K_copyFrom_47 w)) _
    refine z_iret rfl dX11_back_34 ?_
    exact k
  · skip
    rw [if_pos c] at k
    refine z_iconst (pc' := 8) dX11_back_7 rfl ?_
    refine z_iret rfl dX11_back_8 ?_
    exact k
def P_D_count (w : z_Wd) (a0 : Int) : Prop := (-2147483648 ≤ a0 ∧ a0 < 2147483648) ∧ ((a0 = 0 → True) ∧ (¬ a0 = 0 → (a0 = 1 → True) ∧ (¬ a0 = 1 → (a0 = 2 → True) ∧ (¬ a0 = 2 → (a0 = 3 → True) ∧ (¬ a0 = 3 → (a0 = 4 → True) ∧ (¬ a0 = 4 → (a0 = 5 → True) ∧ (¬ a0 = 5 → (a0 = 6 → True) ∧ (¬ a0 = 6 → (a0 = 7 → True) ∧ (¬ a0 = 7 → (a0 = 8 → P_K_inside w (-1)) ∧ (¬ a0 = 8 → (a0 = 9 → True) ∧ (¬ a0 = 9 → (a0 = 10 → True) ∧ (¬ a0 = 10 → (a0 = 11 → P_J_min_7cf53 w (w 41 8) 60) ∧ (¬ a0 = 11 → (a0 = 12 → True) ∧ (¬ a0 = 12 → True))))))))))))))
def F_D_count (w : z_Wd) (a0 : Int) : Int := if a0 = 0 then w 32 2 else if a0 = 1 then w 32 1 else if a0 = 2 then w 32 3 else if a0 = 3 then w 55 4 else if a0 = 4 then w 28 1 else if a0 = 5 then w 55 5 else if a0 = 6 then w 41 8 else if a0 = 7 then w 41 7 else if a0 = 8 then zz_and ((zz_shl 1 (w 32 2)) - 1) (zz_xor (F_K_inside w (-1)) (-1)) else if a0 = 9 then w 27 12 else if a0 = 10 then w 72 4 else if a0 = 11 then F_J_min_7cf53 w (w 41 8) 60 else if a0 = 12 then w 53 2 else (-1000000)
set_option maxRecDepth 4000 in
theorem c_D_count {d : Nat} {w : z_Wd} {a0 : Int} {Q : Option z_V → z_Wd → Prop} (h : P_D_count w a0) (k : Q (some (zI (F_D_count w a0))) w) : z_Wc (d + 3) m_X11_count [zR 27, zI a0] w Q := by
  unfold P_D_count at h
  unfold F_D_count at k
  refine z_enter rfl (Nat.le_of_ble_eq_true rfl) ?_
  show z_Wp m_X11_count _ 0 [(0, zR 27), (1, zI a0)] [] w _
  refine z_iload_n (pc' := 1) 1 rfl rfl dX11_count_0 rfl ?_
  obtain ⟨r1, h⟩ := h
  refine z_table dX11_count_1 (by decide) r1 ⟨fun c0 => ⟨68, by decide, ?_⟩, fun c0 => ⟨fun c1 => ⟨76, by decide, ?_⟩, fun c1 => ⟨fun c2 => ⟨84, by decide, ?_⟩, fun c2 => ⟨fun c3 => ⟨92, by decide, ?_⟩, fun c3 => ⟨fun c4 => ⟨100, by decide, ?_⟩, fun c4 => ⟨fun c5 => ⟨108, by decide, ?_⟩, fun c5 => ⟨fun c6 => ⟨116, by decide, ?_⟩, fun c6 => ⟨fun c7 => ⟨124, by decide, ?_⟩, fun c7 => ⟨fun c8 => ⟨132, by decide, ?_⟩, fun c8 => ⟨fun c9 => ⟨140, by decide, ?_⟩, fun c9 => ⟨fun c10 => ⟨145, by decide, ?_⟩, fun c10 => ⟨fun c11 => ⟨153, by decide, ?_⟩, fun c11 => ⟨fun c12 => ⟨161, by decide, ?_⟩, fun c12 => ⟨169, by decide, ?_⟩⟩⟩⟩⟩⟩⟩⟩⟩⟩⟩⟩⟩⟩
  · skip
    have c0 : a0 = 0 := c0
    have h := h.1 c0
    rw [if_pos c0] at k
    refine z_aload_n (pc' := 69) 0 rfl rfl dX11_count_68 rfl ?_
    refine z_getR (t := 30) (pc' := 72) g_X11_19 (by decide) rfl rfl dX11_count_69 rfl ?_
    refine z_invV (as := []) (st := []) (C := m_X6_names) (fs := [33, 34]) (pc' := 75) dX11_count_72 rfl t_3_69 k_X6_names rfl (by decide) rfl rfl rfl rfl (Nat.le_of_ble_eq_true rfl) ?_
    refine c_Y_names ?_
    show z_Wp m_X11_count _ 75 [(0, zR 27), (1, zI a0)] [zI (w 32 2)] w _
    refine z_iret rfl dX11_count_75 ?_
    exact k
  · skip
    have c0 : ¬ a0 = 0 := c0
    have h := h.2 c0
    rw [if_neg c0] at k
    have c1 : a0 = 1 := c1
    have h := h.1 c1
    rw [if_pos c1] at k
    refine z_aload_n (pc' := 77) 0 rfl rfl dX11_count_76 rfl ?_
    refine z_getR (t := 30) (pc' := 80) g_X11_19 (by decide) rfl rfl dX11_count_77 rfl ?_
    refine z_invV (as := []) (st := []) (C := m_X6_wells) (fs := [33, 34]) (pc' := 83) dX11_count_80 rfl t_4_149 k_X6_wells rfl (by decide) rfl rfl rfl rfl (Nat.le_of_ble_eq_true rfl) ?_
    refine c_Y_wells ?_
    show z_Wp m_X11_count _ 83 [(0, zR 27), (1, zI a0)] [zI (w 32 1)] w _
    refine z_iret rfl dX11_count_83 ?_
    exact k
  · skip
    have c0 : ¬ a0 = 0 := c0
    have h := h.2 c0
    rw [if_neg c0] at k
    have c1 : ¬ a0 = 1 := c1
    have h := h.2 c1
    rw [if_neg c1] at k
    have c2 : a0 = 2 := c2
    have h := h.1 c2
    rw [if_pos c2] at k
    refine z_aload_n (pc' := 85) 0 rfl rfl dX11_count_84 rfl ?_
    refine z_getR (t := 30) (pc' := 88) g_X11_19 (by decide) rfl rfl dX11_count_85 rfl ?_
    refine z_invV (as := []) (st := []) (C := m_X6_files) (fs := [33, 34]) (pc' := 91) dX11_count_88 rfl t_5_193 k_X6_files rfl (by decide) rfl rfl rfl rfl (Nat.le_of_ble_eq_true rfl) ?_
    refine c_Y_files ?_
    show z_Wp m_X11_count _ 91 [(0, zR 27), (1, zI a0)] [zI (w 32 3)] w _
    refine z_iret rfl dX11_count_91 ?_
    exact k
  · skip
    have c0 : ¬ a0 = 0 := c0
    have h := h.2 c0
    rw [if_neg c0] at k
    have c1 : ¬ a0 = 1 := c1
    have h := h.2 c1
    rw [if_neg c1] at k
    have c2 : ¬ a0 = 2 := c2
    have h := h.2 c2
    rw [if_neg c2] at k
    have c3 : a0 = 3 := c3
    have h := h.1 c3
    rw [if_pos c3] at k
    refine z_aload_n (pc' := 93) 0 rfl rfl dX11_count_92 rfl ?_
    refine z_getR (t := 55) (pc' := 96) g_X11_63 (by decide) rfl rfl dX11_count_93 rfl ?_
    refine z_invV (as := []) (st := []) (C := m_X1_laws) (fs := [32, 43, 58, 59, 0, 0]) (pc' := 99) dX11_count_96 rfl t_3_74 k_X1_laws rfl (by decide) rfl rfl rfl rfl (Nat.le_of_ble_eq_true rfl) ?_
    refine c_G_laws ?_
    show z_Wp m_X11_count _ 99 [(0, zR 27), (1, zI a0)] [zI (w 55 4)] w _
    refine z_iret rfl dX11_count_99 ?_
    exact k
  · skip
    have c0 : ¬ a0 = 0 := c0
    have h := h.2 c0
    rw [if_neg c0] at k
    have c1 : ¬ a0 = 1 := c1
    have h := h.2 c1
    rw [if_neg c1] at k
    have c2 : ¬ a0 = 2 := c2
    have h := h.2 c2
    rw [if_neg c2] at k
    have c3 : ¬ a0 = 3 := c3
    have h := h.2 c3
    rw [if_neg c3] at k
    have c4 : a0 = 4 := c4
    have h := h.1 c4
    rw [if_pos c4] at k
    refine z_aload_n (pc' := 101) 0 rfl rfl dX11_count_100 rfl ?_
    refine z_getR (t := 28) (pc' := 104) g_X11_10 (by decide) rfl rfl dX11_count_101 rfl ?_
    refine z_invV (as := []) (st := []) (C := m_X10_size) (fs := [31, 0]) (pc' := 107) dX11_count_104 rfl t_2_60 k_X10_size rfl (by decide) rfl rfl rfl rfl (Nat.le_of_ble_eq_true rfl) ?_
    refine c_T_size ?_
    show z_Wp m_X11_count _ 107 [(0, zR 27), (1, zI a0)] [zI (w 28 1)] w _
    refine z_iret rfl dX11_count_107 ?_
    exact k
  · skip
    have c0 : ¬ a0 = 0 := c0
    have h := h.2 c0
    rw [if_neg c0] at k
    have c1 : ¬ a0 = 1 := c1
    have h := h.2 c1
    rw [if_neg c1] at k
    have c2 : ¬ a0 = 2 := c2
    have h := h.2 c2
    rw [if_neg c2] at k
    have c3 : ¬ a0 = 3 := c3
    have h := h.2 c3
    rw [if_neg c3] at k
    have c4 : ¬ a0 = 4 := c4
    have h := h.2 c4
    rw [if_neg c4] at k
    have c5 : a0 = 5 := c5
    have h := h.1 c5
    rw [if_pos c5] at k
    refine z_aload_n (pc' := 109) 0 rfl rfl dX11_count_108 rfl ?_
    refine z_getR (t := 55) (pc' := 112) g_X11_63 (by decide) rfl rfl dX11_count_109 rfl ?_
    refine z_invV (as := []) (st := []) (C := m_X1_holding) (fs := [32, 43, 58, 59, 0, 0]) (pc' := 115) dX11_count_112 rfl t_5_194 k_X1_holding rfl (by decide) rfl rfl rfl rfl (Nat.le_of_ble_eq_true rfl) ?_
    refine c_G_holding ?_
    show z_Wp m_X11_count _ 115 [(0, zR 27), (1, zI a0)] [zI (w 55 5)] w _
    refine z_iret rfl dX11_count_115 ?_
    exact k
  · skip
    have c0 : ¬ a0 = 0 := c0
    have h := h.2 c0
    rw [if_neg c0] at k
    have c1 : ¬ a0 = 1 := c1
    have h := h.2 c1
    rw [if_neg c1] at k
    have c2 : ¬ a0 = 2 := c2
    have h := h.2 c2
    rw [if_neg c2] at k
    have c3 : ¬ a0 = 3 := c3
    have h := h.2 c3
    rw [if_neg c3] at k
    have c4 : ¬ a0 = 4 := c4
    have h := h.2 c4
    rw [if_neg c4] at k
    have c5 : ¬ a0 = 5 := c5
    have h := h.2 c5
    rw [if_neg c5] at k
    have c6 : a0 = 6 := c6
    have h := h.1 c6
    rw [if_pos c6] at k
    refine z_aload_n (pc' := 117) 0 rfl rfl dX11_count_116 rfl ?_
    refine z_getR (t := 41) (pc' := 120) g_X11_44 (by decide) rfl rfl dX11_count_117 rfl ?_
    refine z_invV (as := []) (st := []) (C := m_X3_year) (fs := [32, 44, 45, 46, 47, 48, 0, 0, 0]) (pc' := 123) dX11_count_120 rfl t_4_58 k_X3_year rfl (by decide) rfl rfl rfl rfl (Nat.le_of_ble_eq_true rfl) ?_
    refine c_K_year ?_
    show z_Wp m_X11_count _ 123 [(0, zR 27), (1, zI a0)] [zI (w 41 8)] w _
    refine z_iret rfl dX11_count_123 ?_
    exact k
  · skip
    have c0 : ¬ a0 = 0 := c0
    have h := h.2 c0
    rw [if_neg c0] at k
    have c1 : ¬ a0 = 1 := c1
    have h := h.2 c1
    rw [if_neg c1] at k
    have c2 : ¬ a0 = 2 := c2
    have h := h.2 c2
    rw [if_neg c2] at k
    have c3 : ¬ a0 = 3 := c3
    have h := h.2 c3
    rw [if_neg c3] at k
    have c4 : ¬ a0 = 4 := c4
    have h := h.2 c4
    rw [if_neg c4] at k
    have c5 : ¬ a0 = 5 := c5
    have h := h.2 c5
    rw [if_neg c5] at k
    have c6 : ¬ a0 = 6 := c6
    have h := h.2 c6
    rw [if_neg c6] at k
    have c7 : a0 = 7 := c7
    have h := h.1 c7
    rw [if_pos c7] at k
    refine z_aload_n (pc' := 125) 0 rfl rfl dX11_count_124 rfl ?_
    refine z_getR (t := 41) (pc' := 128) g_X11_44 (by decide) rfl rfl dX11_count_125 rfl ?_
    refine z_invV (as := []) (st := []) (C := m_X3_unrest) (fs := [32, 44, 45, 46, 47, 48, 0, 0, 0]) (pc' := 131) dX11_count_128 rfl t_5_198 k_X3_unrest rfl (by decide) rfl rfl rfl rfl (Nat.le_of_ble_eq_true rfl) ?_
    refine c_K_unrest ?_
    show z_Wp m_X11_count _ 131 [(0, zR 27), (1, zI a0)] [zI (w 41 7)] w _
    refine z_iret rfl dX11_count_131 ?_
    exact k
  · skip
    have c0 : ¬ a0 = 0 := c0
    have h := h.2 c0
    rw [if_neg c0] at k
    have c1 : ¬ a0 = 1 := c1
    have h := h.2 c1
    rw [if_neg c1] at k
    have c2 : ¬ a0 = 2 := c2
    have h := h.2 c2
    rw [if_neg c2] at k
    have c3 : ¬ a0 = 3 := c3
    have h := h.2 c3
    rw [if_neg c3] at k
    have c4 : ¬ a0 = 4 := c4
    have h := h.2 c4
    rw [if_neg c4] at k
    have c5 : ¬ a0 = 5 := c5
    have h := h.2 c5
    rw [if_neg c5] at k
    have c6 : ¬ a0 = 6 := c6
    have h := h.2 c6
    rw [if_neg c6] at k
    have c7 : ¬ a0 = 7 := c7
    have h := h.2 c7
    rw [if_neg c7] at k
    have c8 : a0 = 8 := c8
    have h := h.1 c8
    rw [if_pos c8] at k
    refine z_aload_n (pc' := 133) 0 rfl rfl dX11_count_132 rfl ?_
    refine z_getR (t := 41) (pc' := 136) g_X11_44 (by decide) rfl rfl dX11_count_133 rfl ?_
    refine z_invV (as := []) (st := []) (C := m_X3_drowned) (fs := [32, 44, 45, 46, 47, 48, 0, 0, 0]) (pc' := 139) dX11_count_136 rfl t_3_154 k_X3_drowned rfl (by decide) rfl rfl rfl rfl (Nat.le_of_ble_eq_true rfl) ?_
    have r2 := h
    refine c_K_drowned r2 ?_
    show z_Wp m_X11_count _ 139 [(0, zR 27), (1, zI a0)] [zI (zz_and ((zz_shl 1 (w 32 2)) - 1) (zz_xor (F_K_inside w (-1)) (-1)))] w _
    refine z_iret rfl dX11_count_139 ?_
    exact k
  · skip
    have c0 : ¬ a0 = 0 := c0
    have h := h.2 c0
    rw [if_neg c0] at k
    have c1 : ¬ a0 = 1 := c1
    have h := h.2 c1
    rw [if_neg c1] at k
    have c2 : ¬ a0 = 2 := c2
    have h := h.2 c2
    rw [if_neg c2] at k
    have c3 : ¬ a0 = 3 := c3
    have h := h.2 c3
    rw [if_neg c3] at k
    have c4 : ¬ a0 = 4 := c4
    have h := h.2 c4
    rw [if_neg c4] at k
    have c5 : ¬ a0 = 5 := c5
    have h := h.2 c5
    rw [if_neg c5] at k
    have c6 : ¬ a0 = 6 := c6
    have h := h.2 c6
    rw [if_neg c6] at k
    have c7 : ¬ a0 = 7 := c7
    have h := h.2 c7
    rw [if_neg c7] at k
    have c8 : ¬ a0 = 8 := c8
    have h := h.2 c8
    rw [if_neg c8] at k
    have c9 : a0 = 9 := c9
    have h := h.1 c9
    rw [if_pos c9] at k
    refine z_aload_n (pc' := 141) 0 rfl rfl dX11_count_140 rfl ?_
    refine z_getI2 (v := w 27 12) (pc' := 144) g_X11_92 (by decide) rfl rfl rfl dX11_count_141 rfl ?_
    refine z_iret rfl dX11_count_144 ?_
    exact k
  · skip
    have c0 : ¬ a0 = 0 := c0
    have h := h.2 c0
    rw [if_neg c0] at k
    have c1 : ¬ a0 = 1 := c1
    have h := h.2 c1
    rw [if_neg c1] at k
    have c2 : ¬ a0 = 2 := c2
    have h := h.2 c2
    rw [if_neg c2] at k
    have c3 : ¬ a0 = 3 := c3
    have h := h.2 c3
    rw [if_neg c3] at k
    have c4 : ¬ a0 = 4 := c4
    have h := h.2 c4
    rw [if_neg c4] at k
    have c5 : ¬ a0 = 5 := c5
    have h := h.2 c5
    rw [if_neg c5] at k
    have c6 : ¬ a0 = 6 := c6
    have h := h.2 c6
    rw [if_neg c6] at k
    have c7 : ¬ a0 = 7 := c7
    have h := h.2 c7
    rw [if_neg c7] at k
    have c8 : ¬ a0 = 8 := c8
    have h := h.2 c8
    rw [if_neg c8] at k
    have c9 : ¬ a0 = 9 := c9
    have h := h.2 c9
    rw [if_neg c9] at k
    have c10 : a0 = 10 := c10
    have h := h.1 c10
    rw [if_pos c10] at k
    refine z_aload_n (pc' := 146) 0 rfl rfl dX11_count_145 rfl ?_
    refine z_getR (t := 72) (pc' := 149) g_X11_77 (by decide) rfl rfl dX11_count_146 rfl ?_
    refine z_invV (as := []) (st := []) (C := m_X0_noted) (fs := [32, 75, 76, 77, 0]) (pc' := 152) dX11_count_149 rfl t_5_199 k_X0_noted rfl (by decide) rfl rfl rfl rfl (Nat.le_of_ble_eq_true rfl) ?_
    refine c_C_noted ?_
    show z_Wp m_X11_count _ 152 [(0, zR 27), (1, zI a0)] [zI (w 72 4)] w _
    refine z_iret rfl dX11_count_152 ?_
    exact k
  · skip
    have c0 : ¬ a0 = 0 := c0
    have h := h.2 c0
    rw [if_neg c0] at k
    have c1 : ¬ a0 = 1 := c1
    have h := h.2 c1
    rw [if_neg c1] at k
    have c2 : ¬ a0 = 2 := c2
    have h := h.2 c2
    rw [if_neg c2] at k
    have c3 : ¬ a0 = 3 := c3
    have h := h.2 c3
    rw [if_neg c3] at k
    have c4 : ¬ a0 = 4 := c4
    have h := h.2 c4
    rw [if_neg c4] at k
    have c5 : ¬ a0 = 5 := c5
    have h := h.2 c5
    rw [if_neg c5] at k
    have c6 : ¬ a0 = 6 := c6
    have h := h.2 c6
    rw [if_neg c6] at k
    have c7 : ¬ a0 = 7 := c7
    have h := h.2 c7
    rw [if_neg c7] at k
    have c8 : ¬ a0 = 8 := c8
    have h := h.2 c8
    rw [if_neg c8] at k
    have c9 : ¬ a0 = 9 := c9
    have h := h.2 c9
    rw [if_neg c9] at k
    have c10 : ¬ a0 = 10 := c10
    have h := h.2 c10
    rw [if_neg c10] at k
    have c11 : a0 = 11 := c11
    have h := h.1 c11
    rw [if_pos c11] at k
    refine z_aload_n (pc' := 154) 0 rfl rfl dX11_count_153 rfl ?_
    refine z_getR (t := 41) (pc' := 157) g_X11_44 (by decide) rfl rfl dX11_count_154 rfl ?_
    refine z_invV (as := []) (st := []) (C := m_X3_logged) (fs := [32, 44, 45, 46, 47, 48, 0, 0, 0]) (pc' := 160) dX11_count_157 rfl t_4_178 k_X3_logged rfl (by decide) rfl rfl rfl rfl (Nat.le_of_ble_eq_true rfl) ?_
    have r3 := h
    refine c_K_logged r3 ?_
    show z_Wp m_X11_count _ 160 [(0, zR 27), (1, zI a0)] [zI (F_J_min_7cf53 w (w 41 8) 60)] w _
    refine z_iret rfl dX11_count_160 ?_
    exact k
  · skip
    have c0 : ¬ a0 = 0 := c0
    have h := h.2 c0
    rw [if_neg c0] at k
    have c1 : ¬ a0 = 1 := c1
    have h := h.2 c1
    rw [if_neg c1] at k
    have c2 : ¬ a0 = 2 := c2
    have h := h.2 c2
    rw [if_neg c2] at k
    have c3 : ¬ a0 = 3 := c3
    have h := h.2 c3
    rw [if_neg c3] at k
    have c4 : ¬ a0 = 4 := c4
    have h := h.2 c4
    rw [if_neg c4] at k
    have c5 : ¬ a0 = 5 := c5
    have h := h.2 c5
    rw [if_neg c5] at k
    have c6 : ¬ a0 = 6 := c6
    have h := h.2 c6
    rw [if_neg c6] at k
    have c7 : ¬ a0 = 7 := c7
    have h := h.2 c7
    rw [if_neg c7] at k
    have c8 : ¬ a0 = 8 := c8
    have h := h.2 c8
    rw [if_neg c8] at k
    have c9 : ¬ a0 = 9 := c9
    have h := h.2 c9
    rw [if_neg c9] at k
    have c10 : ¬ a0 = 10 := c10
    have h := h.2 c10
    rw [if_neg c10] at k
    have c11 : ¬ a0 = 11 := c11
    have h := h.2 c11
    rw [if_neg c11] at k
    have c12 : a0 = 12 := c12
    have h := h.1 c12
    rw [if_pos c12] at k
    refine z_aload_n (pc' := 162) 0 rfl rfl dX11_count_161 rfl ?_
    refine z_getR (t := 53) (pc' := 165) g_X11_54 (by decide) rfl rfl dX11_count_162 rfl ?_
    refine z_invV (as := []) (st := []) (C := m_X2_acts) (fs := [56, 0, 0]) (pc' := 168) dX11_count_165 rfl t_4_170 k_X2_acts rfl (by decide) rfl rfl rfl rfl (Nat.le_of_ble_eq_true rfl) ?_
    refine c_H_acts ?_
    show z_Wp m_X11_count _ 168 [(0, zR 27), (1, zI a0)] [zI (w 53 2)] w _
    refine z_iret rfl dX11_count_168 ?_
    exact k
  · skip
    have c0 : ¬ a0 = 0 := c0
    have h := h.2 c0
    rw [if_neg c0] at k
    have c1 : ¬ a0 = 1 := c1
    have h := h.2 c1
    rw [if_neg c1] at k
    have c2 : ¬ a0 = 2 := c2
    have h := h.2 c2
    rw [if_neg c2] at k
    have c3 : ¬ a0 = 3 := c3
    have h := h.2 c3
    rw [if_neg c3] at k
    have c4 : ¬ a0 = 4 := c4
    have h := h.2 c4
    rw [if_neg c4] at k
    have c5 : ¬ a0 = 5 := c5
    have h := h.2 c5
    rw [if_neg c5] at k
    have c6 : ¬ a0 = 6 := c6
    have h := h.2 c6
    rw [if_neg c6] at k
    have c7 : ¬ a0 = 7 := c7
    have h := h.2 c7
    rw [if_neg c7] at k
    have c8 : ¬ a0 = 8 := c8
    have h := h.2 c8
    rw [if_neg c8] at k
    have c9 : ¬ a0 = 9 := c9
    have h := h.2 c9
    rw [if_neg c9] at k
    have c10 : ¬ a0 = 10 := c10
    have h := h.2 c10
    rw [if_neg c10] at k
    have c11 : ¬ a0 = 11 := c11
    have h := h.2 c11
    rw [if_neg c11] at k
    have c12 : ¬ a0 = 12 := c12
    have h := h.2 c12
    rw [if_neg c12] at k
    refine z_ldcw (n := (-1000000)) (pc' := 172) t_5_66 (by decide) dX11_count_169 rfl ?_
    refine z_iret rfl dX11_count_172 ?_
    exact k
def A_Y_clear_34_2 (w : z_Wd)  : Nat → z_Wd
  | 0 => w
  | i4 + 1 => z_up (A_Y_clear_34_2 w i4) 36 ((i4 : Int).toNat) 0
def P_Y_clear_34 (w : z_Wd)  : Prop := (∀ i4 : Nat, i4 < 4 → (-2147483648 ≤ (i4 : Int) ∧ (i4 : Int) < 2147483648) ∧ (0 ≤ (i4 : Int) ∧ (i4 : Int) < 4)) ∧ (P_Y_setUsual_34 (A_Y_clear_34_2 w 4) 0 0)
def F_Y_clear_34 (w : z_Wd)  : z_Wd := F_Y_setUsual_34 (A_Y_clear_34_2 w 4) 0 0
set_option maxRecDepth 4000 in
theorem c_Y_clear_34 {d : Nat} {w : z_Wd} {Q : Option z_V → z_Wd → Prop} (h : P_Y_clear_34 w ) (k : Q none (F_Y_clear_34 w )) : z_Wc (d + 1) m_X6_clear [zR 34] w Q := by
  unfold P_Y_clear_34 at h
  unfold F_Y_clear_34 at k
  refine z_enter rfl (Nat.le_of_ble_eq_true rfl) ?_
  show z_Wp m_X6_clear _ 0 [(0, zR 34)] [] w _
  refine z_iconst (pc' := 1) dX6_clear_0 rfl ?_
  refine z_istore_n (pc' := 2) (ls' := [(0, zR 34), (1, zI 0)]) rfl (by decide) rfl rfl dX6_clear_1 rfl ?_
  refine z_upto 4 (fun i4 => z_Wp m_X6_clear (d + 1) 2 [(0, zR 34), (1, zI (i4 : Int))] [] (A_Y_clear_34_2 w i4) Q) ?_ ?_
  · skip
    have h := h.2
    refine z_iload_n (pc' := 3) 1 rfl rfl dX6_clear_2 rfl ?_
    refine z_iconst (pc' := 4) dX6_clear_3 rfl ?_
    refine z_icmp_ge 20 dX6_clear_4 (by decide) (pc' := 7) rfl (by decide) (by decide) (fun _ => ?_) (fun c => absurd c (by decide))
    refine z_aload_n (pc' := 21) 0 rfl rfl dX6_clear_20 rfl ?_
    refine z_iconst (pc' := 22) dX6_clear_21 rfl ?_
    refine z_iconst (pc' := 23) dX6_clear_22 rfl ?_
    refine z_invV (as := [zI 0, zI 0]) (st := []) (C := m_X6_setUsual) (fs := [37, 38]) (pc' := 26) dX6_clear_23 rfl t_2_88 k_X6_setUsual rfl (by decide) rfl rfl rfl rfl (Nat.le_of_ble_eq_true rfl) ?_
    have r7 := h
    refine c_Y_setUsual_34 r7 ?_
    show z_Wp m_X6_clear _ 26 [(0, zR 34), (1, zI 4)] [] (F_Y_setUsual_34 (A_Y_clear_34_2 w 4) 0 0) _
    refine z_vret rfl dX6_clear_26 ?_
    exact k
  · intro i4 hi ih
    have h := h.1 i4 hi
    have ih : z_Wp m_X6_clear (d + 1) 2 [(0, zR 34), (1, zI ((i4 + 1 : Nat) : Int))] [] (z_up (A_Y_clear_34_2 w i4) 36 ((i4 : Int).toNat) 0) Q := ih
    refine z_iload_n (pc' := 3) 1 rfl rfl dX6_clear_2 rfl ?_
    refine z_iconst (pc' := 4) dX6_clear_3 rfl ?_
    obtain ⟨r5, h⟩ := h
    refine z_icmp_ge 20 dX6_clear_4 (by decide) (pc' := 7) rfl r5 (by decide) (fun c => absurd c (by omega)) (fun _ => ?_)
    refine z_aload_n (pc' := 8) 0 rfl rfl dX6_clear_7 rfl ?_
    refine z_getR (t := 36) (pc' := 11) g_X6_13 (by decide) rfl rfl dX6_clear_8 rfl ?_
    refine z_iload_n (pc' := 12) 1 rfl rfl dX6_clear_11 rfl ?_
    refine z_iconst (pc' := 13) dX6_clear_12 rfl ?_
    have r6 := h
    refine z_iast2 (w' := z_up (A_Y_clear_34_2 w i4) 36 ((i4 : Int).toNat) 0) (pc' := 14) (by decide) rfl r6 (by decide) rfl dX6_clear_13 rfl ?_
    refine z_iinc (pc' := 17) (ls' := [(0, zR 34), (1, zI ((i4 : Int) + 1))]) 1 rfl (by decide) rfl rfl dX6_clear_14 rfl ?_
    refine z_goto 2 dX6_clear_17 (by decide) ?_
    exact ih
def P_Y_open_34 (w : z_Wd) (a0 : Int) : Prop := (0 ≤ a0 ∧ a0 < 4) ∧ (-2147483648 ≤ w 36 a0.toNat ∧ w 36 a0.toNat < 2147483648) ∧ (-2147483648 ≤ z_sc 0 a0.toNat ∧ z_sc 0 a0.toNat < 2147483648) ∧ ((w 36 a0.toNat < z_sc 0 a0.toNat → P_Y_setUsual_34 w a0 (w 36 a0.toNat)) ∧ (¬ (w 36 a0.toNat < z_sc 0 a0.toNat) → True))
def F_Y_open_34 (w : z_Wd) (a0 : Int) : Int × z_Wd := if w 36 a0.toNat < z_sc 0 a0.toNat then (1, z_up (F_Y_setUsual_34 w a0 (w 36 a0.toNat)) 36 a0.toNat (((F_Y_setUsual_34 w a0 (w 36 a0.toNat)) 36 a0.toNat) + 1)) else (0, w)
set_option maxRecDepth 4000 in
theorem c_Y_open_34 {d : Nat} {w : z_Wd} {a0 : Int} {Q : Option z_V → z_Wd → Prop} (h : P_Y_open_34 w a0) (k : Q (some (zI (F_Y_open_34 w a0).1)) (F_Y_open_34 w a0).2) : z_Wc (d + 1) m_X6_open [zR 34, zI a0] w Q := by
  unfold P_Y_open_34 at h
  unfold F_Y_open_34 at k
  refine z_enter rfl (Nat.le_of_ble_eq_true rfl) ?_
  show z_Wp m_X6_open _ 0 [(0, zR 34), (1, zI a0)] [] w _
  refine z_aload_n (pc' := 1) 0 rfl rfl dX6_open_0 rfl ?_
  refine z_getR (t := 36) (pc' := 4) g_X6_13 (by decide) rfl rfl dX6_open_1 rfl ?_
  refine z_iload_n (pc' := 5) 1 rfl rfl dX6_open_4 rfl ?_
  obtain ⟨r1, h⟩ := h
  refine z_iald2 (v := w 36 a0.toNat) (pc' := 6) (by decide) rfl r1 (by decide) rfl dX6_open_5 rfl ?_
  refine z_gets (i := 0) (pc' := 9) rfl t_2_117 dX6_open_6 rfl ?_
  refine z_iload_n (pc' := 10) 1 rfl rfl dX6_open_9 rfl ?_
  refine z_ials2 (i := 0) (v := z_sc 0 a0.toNat) (pc' := 11) rfl rfl r1 (by decide) rfl dX6_open_10 rfl ?_
  obtain ⟨r2, h⟩ := h
  obtain ⟨r3, h⟩ := h
  refine z_icmp_lt 16 dX6_open_11 (by decide) (pc' := 14) rfl r2 r3 (fun c => ?_) (fun c => ?_)
  · have h := h.1 c
    rw [if_pos c] at k
    refine z_aload_n (pc' := 17) 0 rfl rfl dX6_open_16 rfl ?_
    refine z_iload_n (pc' := 18) 1 rfl rfl dX6_open_17 rfl ?_
    refine z_aload_n (pc' := 19) 0 rfl rfl dX6_open_18 rfl ?_
    refine z_getR (t := 36) (pc' := 22) g_X6_13 (by decide) rfl rfl dX6_open_19 rfl ?_
    refine z_iload_n (pc' := 23) 1 rfl rfl dX6_open_22 rfl ?_
    refine z_iald2 (v := w 36 a0.toNat) (pc' := 24) (by decide) rfl r1 (by decide) rfl dX6_open_23 rfl ?_
    refine z_invV (as := [zI a0, zI (w 36 a0.toNat)]) (st := []) (C := m_X6_setUsual) (fs := [37, 38]) (pc' := 27) dX6_open_24 rfl t_2_88 k_X6_setUsual rfl (by decide) rfl rfl rfl rfl (Nat.le_of_ble_eq_true rfl) ?_
    have r4 := h
    refine c_Y_setUsual_34 r4 ?_
    show z_Wp m_X6_open _ 27 [(0, zR 34), (1, zI a0)] [] (F_Y_setUsual_34 w a0 (w 36 a0.toNat)) _
    refine z_aload_n (pc' := 28) 0 rfl rfl dX6_open_27 rfl ?_
    refine z_getR (t := 36) (pc' := 31) g_X6_13 (by decide) rfl rfl dX6_open_28 rfl ?_
    refine z_iload_n (pc' := 32) 1 rfl rfl dX6_open_31 rfl ?_
    refine z_dup2 (pc' := 33) rfl rfl dX6_open_32 rfl ?_
    refine z_iald2 (v := (F_Y_setUsual_34 w a0 (w 36 a0.toNat)) 36 a0.toNat) (pc' := 34) (by decide) rfl r1 (by decide) rfl dX6_open_33 rfl ?_
    refine z_iconst (pc' := 35) dX6_open_34 rfl ?_
    refine z_iadd (pc' := 36) dX6_open_35 rfl ?_
    refine z_iast2 (w' := z_up (F_Y_setUsual_34 w a0 (w 36 a0.toNat)) 36 a0.toNat (((F_Y_setUsual_34 w a0 (w 36 a0.toNat)) 36 a0.toNat) + 1)) (pc' := 37) (by decide) rfl r1 (by decide) rfl dX6_open_36 rfl ?_
    refine z_iconst (pc' := 38) dX6_open_37 rfl ?_
    refine z_zret rfl (by decide) dX6_open_38 ?_
    exact k
  · have h := h.2 c
    rw [if_neg c] at k
    refine z_iconst (pc' := 15) dX6_open_14 rfl ?_
    refine z_zret rfl (by decide) dX6_open_15 ?_
    exact k
def E_Y_knowOthers_34_2 (w : z_Wd)  (i6 : Nat) : Bool := if F_Y_hasName_34 w (F_Y_value_34 w 2 (i6 : Int) 1) = 0 then true else if F_Y_value_34 w 2 (i6 : Int) 1 = (i6 : Int) then true else false
def R_Y_knowOthers_34_2 (w : z_Wd)  (i6 : Nat) : Int := if F_Y_hasName_34 w (F_Y_value_34 w 2 (i6 : Int) 1) = 0 then 0 else if F_Y_value_34 w 2 (i6 : Int) 1 = (i6 : Int) then 0 else 0
def P_Y_knowOthers_34 (w : z_Wd)  : Prop := (∀ i6 : Nat, i6 < ((w 36 2).toNat) → zfind (E_Y_knowOthers_34_2 w) i6 = -1 → (-2147483648 ≤ (i6 : Int) ∧ (i6 : Int) < 2147483648) ∧ (-2147483648 ≤ w 36 2 ∧ w 36 2 < 2147483648) ∧ (P_Y_value_34 w 2 (i6 : Int) 1) ∧ (P_Y_hasName_34 w (F_Y_value_34 w 2 (i6 : Int) 1)) ∧ ((F_Y_hasName_34 w (F_Y_value_34 w 2 (i6 : Int) 1) = 0 → True) ∧ (¬ (F_Y_hasName_34 w (F_Y_value_34 w 2 (i6 : Int) 1) = 0) → -2147483648 ≤ F_Y_value_34 w 2 (i6 : Int) 1 ∧ F_Y_value_34 w 2 (i6 : Int) 1 < 2147483648))) ∧ ((-2147483648 ≤ (((w 36 2).toNat : Nat) : Int) ∧ (((w 36 2).toNat : Nat) : Int) < 2147483648) ∧ (-2147483648 ≤ w 36 2 ∧ w 36 2 < 2147483648))
def F_Y_knowOthers_34 (w : z_Wd)  : Int := if zfind (E_Y_knowOthers_34_2 w) ((w 36 2).toNat) = -1 then 1 else R_Y_knowOthers_34_2 w (zfind (E_Y_knowOthers_34_2 w) ((w 36 2).toNat)).toNat
set_option maxRecDepth 4000 in
theorem c_Y_knowOthers_34 {d : Nat} {w : z_Wd} {Q : Option z_V → z_Wd → Prop} (h : P_Y_knowOthers_34 w ) (k : Q (some (zI (F_Y_knowOthers_34 w ))) w) : z_Wc (d + 2) m_X6_knowOthers [zR 34] w Q := by
  unfold P_Y_knowOthers_34 at h
  unfold F_Y_knowOthers_34 at k
  refine z_enter rfl (Nat.le_of_ble_eq_true rfl) ?_
  show z_Wp m_X6_knowOthers _ 0 [(0, zR 34)] [] w _
  refine z_iconst (pc' := 1) dX6_knowOthers_0 rfl ?_
  refine z_istore_n (pc' := 2) (ls' := [(0, zR 34), (1, zI 0)]) rfl (by decide) rfl rfl dX6_knowOthers_1 rfl ?_
  refine z_upto ((w 36 2).toNat) (fun i6 => zfind (E_Y_knowOthers_34_2 w) i6 = -1 → z_Wp m_X6_knowOthers (d + 2) 2 [(0, zR 34), (1, zI (i6 : Int))] [] w Q) ?_ ?_ rfl
  · intro hf
    rw [if_pos hf] at k
    have h := h.2
    refine z_iload_n (pc' := 3) 1 rfl rfl dX6_knowOthers_2 rfl ?_
    refine z_aload_n (pc' := 4) 0 rfl rfl dX6_knowOthers_3 rfl ?_
    refine z_invV (as := []) (st := [zI (((w 36 2).toNat : Nat) : Int)]) (C := m_X6_names) (fs := [37, 38]) (pc' := 7) dX6_knowOthers_4 rfl t_2_157 k_X6_names rfl (by decide) rfl rfl rfl rfl (Nat.le_of_ble_eq_true rfl) ?_
    refine c_Y_names_34 ?_
    show z_Wp m_X6_knowOthers _ 7 [(0, zR 34), (1, zI (((w 36 2).toNat : Nat) : Int))] [zI (w 36 2), zI (((w 36 2).toNat : Nat) : Int)] w _
    obtain ⟨r12, h⟩ := h
    have r13 := h
    refine z_icmp_ge 39 dX6_knowOthers_7 (by decide) (pc' := 10) rfl r12 r13 (fun _ => ?_) (fun c => absurd c (by omega))
    refine z_iconst (pc' := 40) dX6_knowOthers_39 rfl ?_
    refine z_zret rfl (by decide) dX6_knowOthers_40 ?_
    exact k
  · intro i6 hi ih hf
    have h := h.1 i6 hi hf
    have hE : E_Y_knowOthers_34_2 w i6 = (if F_Y_hasName_34 w (F_Y_value_34 w 2 (i6 : Int) 1) = 0 then true else if F_Y_value_34 w 2 (i6 : Int) 1 = (i6 : Int) then true else false) := rfl
    refine z_iload_n (pc' := 3) 1 rfl rfl dX6_knowOthers_2 rfl ?_
    refine z_aload_n (pc' := 4) 0 rfl rfl dX6_knowOthers_3 rfl ?_
    refine z_invV (as := []) (st := [zI (i6 : Int)]) (C := m_X6_names) (fs := [37, 38]) (pc' := 7) dX6_knowOthers_4 rfl t_2_157 k_X6_names rfl (by decide) rfl rfl rfl rfl (Nat.le_of_ble_eq_true rfl) ?_
    refine c_Y_names_34 ?_
    show z_Wp m_X6_knowOthers _ 7 [(0, zR 34), (1, zI (i6 : Int))] [zI (w 36 2), zI (i6 : Int)] w _
    obtain ⟨r7, h⟩ := h
    obtain ⟨r8, h⟩ := h
    refine z_icmp_ge 39 dX6_knowOthers_7 (by decide) (pc' := 10) rfl r7 r8 (fun c => absurd c (by omega)) (fun _ => ?_)
    refine z_aload_n (pc' := 11) 0 rfl rfl dX6_knowOthers_10 rfl ?_
    refine z_aload_n (pc' := 12) 0 rfl rfl dX6_knowOthers_11 rfl ?_
    refine z_iload_n (pc' := 13) 1 rfl rfl dX6_knowOthers_12 rfl ?_
    refine z_invV (as := [zI (i6 : Int)]) (st := [zR 34]) (C := m_X6_knows) (fs := [37, 38]) (pc' := 16) dX6_knowOthers_13 rfl t_2_165 k_X6_knows rfl (by decide) rfl rfl rfl rfl (Nat.le_of_ble_eq_true rfl) ?_
    obtain ⟨r9, h⟩ := h
    refine c_Y_knows_34 r9 ?_
    show z_Wp m_X6_knowOthers _ 16 [(0, zR 34), (1, zI (i6 : Int))] [zI (F_Y_value_34 w 2 (i6 : Int) 1), zR 34] w _
    refine z_invV (as := [zI (F_Y_value_34 w 2 (i6 : Int) 1)]) (st := []) (C := m_X6_hasName) (fs := [37, 38]) (pc' := 19) dX6_knowOthers_16 rfl t_2_173 k_X6_hasName rfl (by decide) rfl rfl rfl rfl (Nat.le_of_ble_eq_true rfl) ?_
    obtain ⟨r10, h⟩ := h
    refine c_Y_hasName_34 r10 ?_
    show z_Wp m_X6_knowOthers _ 19 [(0, zR 34), (1, zI (i6 : Int))] [zI (F_Y_hasName_34 w (F_Y_value_34 w 2 (i6 : Int) 1))] w _
    refine z_if_eq 31 dX6_knowOthers_19 (by decide) (pc' := 22) rfl (z_rb b_Y_hasName_34) (fun c108 => ?_) (fun c108 => ?_)
    · have h := h.1 c108
      rw [if_pos c108] at hE
      refine z_iconst (pc' := 32) dX6_knowOthers_31 rfl ?_
      refine z_zret rfl (by decide) dX6_knowOthers_32 ?_
      have hz := zfind_hit hf hE _ hi
      rw [hz, if_neg (by omega), Int.toNat_natCast] at k
      unfold R_Y_knowOthers_34_2 at k
      rw [if_pos c108] at k
      exact k
    · have h := h.2 c108
      rw [if_neg c108] at hE
      refine z_aload_n (pc' := 23) 0 rfl rfl dX6_knowOthers_22 rfl ?_
      refine z_iload_n (pc' := 24) 1 rfl rfl dX6_knowOthers_23 rfl ?_
      refine z_invV (as := [zI (i6 : Int)]) (st := []) (C := m_X6_knows) (fs := [37, 38]) (pc' := 27) dX6_knowOthers_24 rfl t_2_165 k_X6_knows rfl (by decide) rfl rfl rfl rfl (Nat.le_of_ble_eq_true rfl) ?_
      refine c_Y_knows_34 r9 ?_
      show z_Wp m_X6_knowOthers _ 27 [(0, zR 34), (1, zI (i6 : Int))] [zI (F_Y_value_34 w 2 (i6 : Int) 1)] w _
      refine z_iload_n (pc' := 28) 1 rfl rfl dX6_knowOthers_27 rfl ?_
      have r11 := h
      refine z_icmp_ne 33 dX6_knowOthers_28 (by decide) (pc' := 31) rfl r11 r7 (fun c109 => ?_) (fun c109 => ?_)
      · skip
        rw [if_neg c109] at hE
        refine z_iinc (pc' := 36) (ls' := [(0, zR 34), (1, zI ((i6 : Int) + 1))]) 1 rfl (by decide) rfl rfl dX6_knowOthers_33 rfl ?_
        refine z_goto 2 dX6_knowOthers_36 (by decide) ?_
        exact (ih (zfind_miss hf (by rw [hE]; decide)))
      · skip
        rw [if_pos c109] at hE
        refine z_iconst (pc' := 32) dX6_knowOthers_31 rfl ?_
        refine z_zret rfl (by decide) dX6_knowOthers_32 ?_
        have hz := zfind_hit hf hE _ hi
        rw [hz, if_neg (by omega), Int.toNat_natCast] at k
        unfold R_Y_knowOthers_34_2 at k
        rw [if_neg c108] at k
        rw [if_pos c109] at k
        exact k
theorem b_Y_knowOthers_34 {w : z_Wd} : F_Y_knowOthers_34 w = 0 ∨ F_Y_knowOthers_34 w = 1 := by
  unfold F_Y_knowOthers_34
  (repeat' split) <;> first | exact Or.inl rfl | exact Or.inr rfl | (unfold R_Y_knowOthers_34_2; (repeat' split) <;> first | exact Or.inl rfl | exact Or.inr rfl)
def E_Y_filesHoldTwo_34_2 (w : z_Wd)  (i9 : Nat) : Bool := if F_Y_hasName_34 w (F_Y_inFile_34 w (i9 : Int) 0) = 0 then true else if F_Y_hasName_34 w (F_Y_inFile_34 w (i9 : Int) 1) = 0 then true else if F_Y_inFile_34 w (i9 : Int) 0 = F_Y_inFile_34 w (i9 : Int) 1 then true else false
def R_Y_filesHoldTwo_34_2 (w : z_Wd)  (i9 : Nat) : Int := if F_Y_hasName_34 w (F_Y_inFile_34 w (i9 : Int) 0) = 0 then 0 else if F_Y_hasName_34 w (F_Y_inFile_34 w (i9 : Int) 1) = 0 then 0 else if F_Y_inFile_34 w (i9 : Int) 0 = F_Y_inFile_34 w (i9 : Int) 1 then 0 else 0
def P_Y_filesHoldTwo_34 (w : z_Wd)  : Prop := (∀ i9 : Nat, i9 < ((w 36 3).toNat) → zfind (E_Y_filesHoldTwo_34_2 w) i9 = -1 → (-2147483648 ≤ (i9 : Int) ∧ (i9 : Int) < 2147483648) ∧ (-2147483648 ≤ w 36 3 ∧ w 36 3 < 2147483648) ∧ (P_Y_inFile_34 w (i9 : Int) 0) ∧ (P_Y_inFile_34 w (i9 : Int) 1) ∧ (P_Y_hasName_34 w (F_Y_inFile_34 w (i9 : Int) 0)) ∧ ((F_Y_hasName_34 w (F_Y_inFile_34 w (i9 : Int) 0) = 0 → True) ∧ (¬ (F_Y_hasName_34 w (F_Y_inFile_34 w (i9 : Int) 0) = 0) → (P_Y_hasName_34 w (F_Y_inFile_34 w (i9 : Int) 1)) ∧ ((F_Y_hasName_34 w (F_Y_inFile_34 w (i9 : Int) 1) = 0 → True) ∧ (¬ (F_Y_hasName_34 w (F_Y_inFile_34 w (i9 : Int) 1) = 0) → (-2147483648 ≤ F_Y_inFile_34 w (i9 : Int) 0 ∧ F_Y_inFile_34 w (i9 : Int) 0 < 2147483648) ∧ (-2147483648 ≤ F_Y_inFile_34 w (i9 : Int) 1 ∧ F_Y_inFile_34 w (i9 : Int) 1 < 2147483648)))))) ∧ ((-2147483648 ≤ (((w 36 3).toNat : Nat) : Int) ∧ (((w 36 3).toNat : Nat) : Int) < 2147483648) ∧ (-2147483648 ≤ w 36 3 ∧ w 36 3 < 2147483648))
def F_Y_filesHoldTwo_34 (w : z_Wd)  : Int := if zfind (E_Y_filesHoldTwo_34_2 w) ((w 36 3).toNat) = -1 then 1 else R_Y_filesHoldTwo_34_2 w (zfind (E_Y_filesHoldTwo_34_2 w) ((w 36 3).toNat)).toNat
set_option maxRecDepth 4000 in
theorem c_Y_filesHoldTwo_34 {d : Nat} {w : z_Wd} {Q : Option z_V → z_Wd → Prop} (h : P_Y_filesHoldTwo_34 w ) (k : Q (some (zI (F_Y_filesHoldTwo_34 w ))) w) : z_Wc (d + 2) m_X6_filesHoldTwo [zR 34] w Q := by
  unfold P_Y_filesHoldTwo_34 at h
  unfold F_Y_filesHoldTwo_34 at k
  refine z_enter rfl (Nat.le_of_ble_eq_true rfl) ?_
  show z_Wp m_X6_filesHoldTwo _ 0 [(0, zR 34)] [] w _
  refine z_iconst (pc' := 1) dX6_filesHoldTwo_0 rfl ?_
  refine z_istore_n (pc' := 2) (ls' := [(0, zR 34), (1, zI 0)]) rfl (by decide) rfl rfl dX6_filesHoldTwo_1 rfl ?_
  refine z_upto ((w 36 3).toNat) (fun i9 => zfind (E_Y_filesHoldTwo_34_2 w) i9 = -1 → z_Wp m_X6_filesHoldTwo (d + 2) 2 [(0, zR 34), (1, zI (i9 : Int))] [] w Q) ?_ ?_ rfl
  · intro hf
    rw [if_pos hf] at k
    have h := h.2
    refine z_iload_n (pc' := 3) 1 rfl rfl dX6_filesHoldTwo_2 rfl ?_
    refine z_aload_n (pc' := 4) 0 rfl rfl dX6_filesHoldTwo_3 rfl ?_
    refine z_invV (as := []) (st := [zI (((w 36 3).toNat : Nat) : Int)]) (C := m_X6_files) (fs := [37, 38]) (pc' := 7) dX6_filesHoldTwo_4 rfl t_2_181 k_X6_files rfl (by decide) rfl rfl rfl rfl (Nat.le_of_ble_eq_true rfl) ?_
    refine c_Y_files_34 ?_
    show z_Wp m_X6_filesHoldTwo _ 7 [(0, zR 34), (1, zI (((w 36 3).toNat : Nat) : Int))] [zI (w 36 3), zI (((w 36 3).toNat : Nat) : Int)] w _
    obtain ⟨r18, h⟩ := h
    have r19 := h
    refine z_icmp_ge 53 dX6_filesHoldTwo_7 (by decide) (pc' := 10) rfl r18 r19 (fun _ => ?_) (fun c => absurd c (by omega))
    refine z_iconst (pc' := 54) dX6_filesHoldTwo_53 rfl ?_
    refine z_zret rfl (by decide) dX6_filesHoldTwo_54 ?_
    exact k
  · intro i9 hi ih hf
    have h := h.1 i9 hi hf
    have hE : E_Y_filesHoldTwo_34_2 w i9 = (if F_Y_hasName_34 w (F_Y_inFile_34 w (i9 : Int) 0) = 0 then true else if F_Y_hasName_34 w (F_Y_inFile_34 w (i9 : Int) 1) = 0 then true else if F_Y_inFile_34 w (i9 : Int) 0 = F_Y_inFile_34 w (i9 : Int) 1 then true else false) := rfl
    refine z_iload_n (pc' := 3) 1 rfl rfl dX6_filesHoldTwo_2 rfl ?_
    refine z_aload_n (pc' := 4) 0 rfl rfl dX6_filesHoldTwo_3 rfl ?_
    refine z_invV (as := []) (st := [zI (i9 : Int)]) (C := m_X6_files) (fs := [37, 38]) (pc' := 7) dX6_filesHoldTwo_4 rfl t_2_181 k_X6_files rfl (by decide) rfl rfl rfl rfl (Nat.le_of_ble_eq_true rfl) ?_
    refine c_Y_files_34 ?_
    show z_Wp m_X6_filesHoldTwo _ 7 [(0, zR 34), (1, zI (i9 : Int))] [zI (w 36 3), zI (i9 : Int)] w _
    obtain ⟨r10, h⟩ := h
    obtain ⟨r11, h⟩ := h
    refine z_icmp_ge 53 dX6_filesHoldTwo_7 (by decide) (pc' := 10) rfl r10 r11 (fun c => absurd c (by omega)) (fun _ => ?_)
    refine z_aload_n (pc' := 11) 0 rfl rfl dX6_filesHoldTwo_10 rfl ?_
    refine z_iload_n (pc' := 12) 1 rfl rfl dX6_filesHoldTwo_11 rfl ?_
    refine z_iconst (pc' := 13) dX6_filesHoldTwo_12 rfl ?_
    refine z_invV (as := [zI (i9 : Int), zI 0]) (st := []) (C := m_X6_inFile) (fs := [37, 38]) (pc' := 16) dX6_filesHoldTwo_13 rfl t_2_185 k_X6_inFile rfl (by decide) rfl rfl rfl rfl (Nat.le_of_ble_eq_true rfl) ?_
    obtain ⟨r12, h⟩ := h
    refine c_Y_inFile_34 r12 ?_
    show z_Wp m_X6_filesHoldTwo _ 16 [(0, zR 34), (1, zI (i9 : Int))] [zI (F_Y_inFile_34 w (i9 : Int) 0)] w _
    refine z_istore_n (pc' := 17) (ls' := [(0, zR 34), (1, zI (i9 : Int)), (2, zI (F_Y_inFile_34 w (i9 : Int) 0))]) rfl (by decide) rfl rfl dX6_filesHoldTwo_16 rfl ?_
    refine z_aload_n (pc' := 18) 0 rfl rfl dX6_filesHoldTwo_17 rfl ?_
    refine z_iload_n (pc' := 19) 1 rfl rfl dX6_filesHoldTwo_18 rfl ?_
    refine z_iconst (pc' := 20) dX6_filesHoldTwo_19 rfl ?_
    refine z_invV (as := [zI (i9 : Int), zI 1]) (st := []) (C := m_X6_inFile) (fs := [37, 38]) (pc' := 23) dX6_filesHoldTwo_20 rfl t_2_185 k_X6_inFile rfl (by decide) rfl rfl rfl rfl (Nat.le_of_ble_eq_true rfl) ?_
    obtain ⟨r13, h⟩ := h
    refine c_Y_inFile_34 r13 ?_
    show z_Wp m_X6_filesHoldTwo _ 23 [(0, zR 34), (1, zI (i9 : Int)), (2, zI (F_Y_inFile_34 w (i9 : Int) 0))] [zI (F_Y_inFile_34 w (i9 : Int) 1)] w _
    refine z_istore_n (pc' := 24) (ls' := [(0, zR 34), (1, zI (i9 : Int)), (2, zI (F_Y_inFile_34 w (i9 : Int) 0)), (3, zI (F_Y_inFile_34 w (i9 : Int) 1))]) rfl (by decide) rfl rfl dX6_filesHoldTwo_23 rfl ?_
    refine z_aload_n (pc' := 25) 0 rfl rfl dX6_filesHoldTwo_24 rfl ?_
    refine z_iload_n (pc' := 26) 2 rfl rfl dX6_filesHoldTwo_25 rfl ?_
    refine z_invV (as := [zI (F_Y_inFile_34 w (i9 : Int) 0)]) (st := []) (C := m_X6_hasName) (fs := [37, 38]) (pc' := 29) dX6_filesHoldTwo_26 rfl t_2_173 k_X6_hasName rfl (by decide) rfl rfl rfl rfl (Nat.le_of_ble_eq_true rfl) ?_
    obtain ⟨r14, h⟩ := h
    refine c_Y_hasName_34 r14 ?_
    show z_Wp m_X6_filesHoldTwo _ 29 [(0, zR 34), (1, zI (i9 : Int)), (2, zI (F_Y_inFile_34 w (i9 : Int) 0)), (3, zI (F_Y_inFile_34 w (i9 : Int) 1))] [zI (F_Y_hasName_34 w (F_Y_inFile_34 w (i9 : Int) 0))] w _
    refine z_if_eq 45 dX6_filesHoldTwo_29 (by decide) (pc' := 32) rfl (z_rb b_Y_hasName_34) (fun c110 => ?_) (fun c110 => ?_)
    · have h := h.1 c110
      rw [if_pos c110] at hE
      refine z_iconst (pc' := 46) dX6_filesHoldTwo_45 rfl ?_
      refine z_zret rfl (by decide) dX6_filesHoldTwo_46 ?_
      have hz := zfind_hit hf hE _ hi
      rw [hz, if_neg (by omega), Int.toNat_natCast] at k
      unfold R_Y_filesHoldTwo_34_2 at k
      rw [if_pos c110] at k
      exact k
    · have h := h.2 c110
      rw [if_neg c110] at hE
      refine z_aload_n (pc' := 33) 0 rfl rfl dX6_filesHoldTwo_32 rfl ?_
      refine z_iload_n (pc' := 34) 3 rfl rfl dX6_filesHoldTwo_33 rfl ?_
      refine z_invV (as := [zI (F_Y_inFile_34 w (i9 : Int) 1)]) (st := []) (C := m_X6_hasName) (fs := [37, 38]) (pc' := 37) dX6_filesHoldTwo_34 rfl t_2_173 k_X6_hasName rfl (by decide) rfl rfl rfl rfl (Nat.le_of_ble_eq_true rfl) ?_
      obtain ⟨r15, h⟩ := h
      refine c_Y_hasName_34 r15 ?_
      show z_Wp m_X6_filesHoldTwo _ 37 [(0, zR 34), (1, zI (i9 : Int)), (2, zI (F_Y_inFile_34 w (i9 : Int) 0)), (3, zI (F_Y_inFile_34 w (i9 : Int) 1))] [zI (F_Y_hasName_34 w (F_Y_inFile_34 w (i9 : Int) 1))] w _
      refine z_if_eq 45 dX6_filesHoldTwo_37 (by decide) (pc' := 40) rfl (z_rb b_Y_hasName_34) (fun c111 => ?_) (fun c111 => ?_)
      · have h := h.1 c111
        rw [if_pos c111] at hE
        refine z_iconst (pc' := 46) dX6_filesHoldTwo_45 rfl ?_
        refine z_zret rfl (by decide) dX6_filesHoldTwo_46 ?_
        have hz := zfind_hit hf hE _ hi
        rw [hz, if_neg (by omega), Int.toNat_natCast] at k
        unfold R_Y_filesHoldTwo_34_2 at k
        rw [if_neg c110] at k
        rw [if_pos c111] at k
        exact k
      · have h := h.2 c111
        rw [if_neg c111] at hE
        refine z_iload_n (pc' := 41) 2 rfl rfl dX6_filesHoldTwo_40 rfl ?_
        refine z_iload_n (pc' := 42) 3 rfl rfl dX6_filesHoldTwo_41 rfl ?_
        obtain ⟨r16, h⟩ := h
        have r17 := h
        refine z_icmp_ne 47 dX6_filesHoldTwo_42 (by decide) (pc' := 45) rfl r16 r17 (fun c112 => ?_) (fun c112 => ?_)
        · skip
          rw [if_neg c112] at hE
          refine z_iinc (pc' := 50) (ls' := [(0, zR 34), (1, zI ((i9 : Int) + 1)), (2, zI (F_Y_inFile_34 w (i9 : Int) 0)), (3, zI (F_Y_inFile_34 w (i9 : Int) 1))]) 1 rfl (by decide) rfl rfl dX6_filesHoldTwo_47 rfl ?_
          refine z_goto 2 dX6_filesHoldTwo_50 (by decide) ?_
          exact z_Wp.sub (ls' := [(0, zR 34), (1, zI ((i9 : Int) + 1))]) (z_lcast (by rw [z_c0 i9]) (ih (zfind_miss hf (by rw [hE]; decide)))) (z_sub_of [0, 1] rfl)
        · skip
          rw [if_pos c112] at hE
          refine z_iconst (pc' := 46) dX6_filesHoldTwo_45 rfl ?_
          refine z_zret rfl (by decide) dX6_filesHoldTwo_46 ?_
          have hz := zfind_hit hf hE _ hi
          rw [hz, if_neg (by omega), Int.toNat_natCast] at k
          unfold R_Y_filesHoldTwo_34_2 at k
          rw [if_neg c110] at k
          rw [if_neg c111] at k
          rw [if_pos c112] at k
          exact k
theorem b_Y_filesHoldTwo_34 {w : z_Wd} : F_Y_filesHoldTwo_34 w = 0 ∨ F_Y_filesHoldTwo_34 w = 1 := by
  unfold F_Y_filesHoldTwo_34
  (repeat' split) <;> first | exact Or.inl rfl | exact Or.inr rfl | (unfold R_Y_filesHoldTwo_34_2; (repeat' split) <;> first | exact Or.inl rfl | exact Or.inr rfl)
def P_G_pass_38 (w : z_Wd)  : Prop := (-2147483648 ≤ w 55 4 ∧ w 55 4 < 2147483648) ∧ ((w 55 4 < 4 → 0 ≤ w 55 4 ∧ w 55 4 < 4) ∧ (¬ (w 55 4 < 4) → True))
def F_G_pass_38 (w : z_Wd)  : Int × z_Wd := if w 55 4 < 4 then if w 55 4 = 0 then ((((F_W_copyFrom_58_38 w) 55 4) + 1) - 1, z_up (F_W_copyFrom_58_38 w) 55 4 (((F_W_copyFrom_58_38 w) 55 4) + 1)) else if w 55 4 = 1 then ((((F_W_copyFrom_61_38 w) 55 4) + 1) - 1, z_up (F_W_copyFrom_61_38 w) 55 4 (((F_W_copyFrom_61_38 w) 55 4) + 1)) else if w 55 4 = 2 then ((((F_W_copyFrom_64_38 w) 55 4) + 1) - 1, z_up (F_W_copyFrom_64_38 w) 55 4 (((F_W_copyFrom_64_38 w) 55 4) + 1)) else ((((F_W_copyFrom_67_38 w) 55 4) + 1) - 1, z_up (F_W_copyFrom_67_38 w) 55 4 (((F_W_copyFrom_67_38 w) 55 4) + 1)) else ((-1), w)
set_option maxRecDepth 4000 in
theorem c_G_pass_38 {d : Nat} {w : z_Wd} {Q : Option z_V → z_Wd → Prop} (h : P_G_pass_38 w ) (k : Q (some (zI (F_G_pass_38 w ).1)) (F_G_pass_38 w ).2) : z_Wc (d + 1) m_X1_pass [zR 55, zR 38] w Q := by
  unfold P_G_pass_38 at h
  unfold F_G_pass_38 at k
  refine z_enter rfl (Nat.le_of_ble_eq_true rfl) ?_
  show z_Wp m_X1_pass _ 0 [(0, zR 55), (1, zR 38)] [] w _
  refine z_aload_n (pc' := 1) 0 rfl rfl dX1_pass_0 rfl ?_
  refine z_getI2 (v := w 55 4) (pc' := 4) g_X1_34 (by decide) rfl rfl rfl dX1_pass_1 rfl ?_
  refine z_iconst (pc' := 5) dX1_pass_4 rfl ?_
  obtain ⟨r1, h⟩ := h
  refine z_icmp_lt 10 dX1_pass_5 (by decide) (pc' := 8) rfl r1 (by decide) (fun c => ?_) (fun c => ?_)
  · have h := h.1 c
    rw [if_pos c] at k
    refine z_aload_n (pc' := 11) 0 rfl rfl dX1_pass_10 rfl ?_
    refine z_getR (t := 56) (pc' := 14) g_X1_13 (by decide) rfl rfl dX1_pass_11 rfl ?_
    refine z_aload_n (pc' := 15) 0 rfl rfl dX1_pass_14 rfl ?_
    refine z_getI2 (v := w 55 4) (pc' := 18) g_X1_34 (by decide) rfl rfl rfl dX1_pass_15 rfl ?_
    have r2 := h
    by_cases c : w 55 4 = 0
    · skip
      rw [if_pos c] at k
      refine z_aald (t := 58) (pc' := 19) (by decide) rfl r2 (by decide) (by rw [c]; rfl) dX1_pass_18 rfl ?_
      refine z_aload_n (pc' := 20) 1 rfl rfl dX1_pass_19 rfl ?_
      refine z_invV (as := [zR 38]) (st := []) (C := m_X4_copyFrom) (fs := [61, 62, 0, 0]) (pc' := 23) dX1_pass_20 rfl t_3_86 k_X4_copyFrom rfl (by decide) rfl rfl rfl rfl (Nat.le_of_ble_eq_true rfl) ?_
      refine c_W_copyFrom_58_38 ?_
      show z_Wp m_X1_pass _ 23 [(0, zR 55), (1, zR 38)] [] (F_W_copyFrom_58_38 w) _
      refine z_aload_n (pc' := 24) 0 rfl rfl dX1_pass_23 rfl ?_
      refine z_dup (pc' := 25) rfl dX1_pass_24 rfl ?_
      refine z_getI2 (v := (F_W_copyFrom_58_38 w) 55 4) (pc' := 28) g_X1_34 (by decide) rfl rfl rfl dX1_pass_25 rfl ?_
      refine z_iconst (pc' := 29) dX1_pass_28 rfl ?_
      refine z_iadd (pc' := 30) dX1_pass_29 rfl ?_
      refine z_putI (pc' := 33) p_X1_34 (by decide) rfl rfl rfl rfl dX1_pass_30 rfl ?_
      refine z_aload_n (pc' := 34) 0 rfl rfl dX1_pass_33 rfl ?_
      refine z_getI2 (v := ((F_W_copyFrom_58_38 w) 55 4) + 1) (pc' := 37) g_X1_34 (by decide) rfl rfl rfl dX1_pass_34 rfl ?_
      refine z_iconst (pc' := 38) dX1_pass_37 rfl ?_
      refine z_isub (pc' := 39) dX1_pass_38 rfl ?_
      refine z_iret rfl dX1_pass_39 ?_
      exact k
    · skip
      rw [if_neg c] at k
      by_cases c : w 55 4 = 1
      · skip
        rw [if_pos c] at k
        refine z_aald (t := 61) (pc' := 19) (by decide) rfl r2 (by decide) (by rw [c]; rfl) dX1_pass_18 rfl ?_
        refine z_aload_n (pc' := 20) 1 rfl rfl dX1_pass_19 rfl ?_
        refine z_invV (as := [zR 38]) (st := []) (C := m_X4_copyFrom) (fs := [64, 65, 0, 0]) (pc' := 23) dX1_pass_20 rfl t_3_86 k_X4_copyFrom rfl (by decide) rfl rfl rfl rfl (Nat.le_of_ble_eq_true rfl) ?_
        refine c_W_copyFrom_61_38 ?_
        show z_Wp m_X1_pass _ 23 [(0, zR 55), (1, zR 38)] [] (F_W_copyFrom_61_38 w) _
        refine z_aload_n (pc' := 24) 0 rfl rfl dX1_pass_23 rfl ?_
        refine z_dup (pc' := 25) rfl dX1_pass_24 rfl ?_
        refine z_getI2 (v := (F_W_copyFrom_61_38 w) 55 4) (pc' := 28) g_X1_34 (by decide) rfl rfl rfl dX1_pass_25 rfl ?_
        refine z_iconst (pc' := 29) dX1_pass_28 rfl ?_
        refine z_iadd (pc' := 30) dX1_pass_29 rfl ?_
        refine z_putI (pc' := 33) p_X1_34 (by decide) rfl rfl rfl rfl dX1_pass_30 rfl ?_
        refine z_aload_n (pc' := 34) 0 rfl rfl dX1_pass_33 rfl ?_
        refine z_getI2 (v := ((F_W_copyFrom_61_38 w) 55 4) + 1) (pc' := 37) g_X1_34 (by decide) rfl rfl rfl dX1_pass_34 rfl ?_
        refine z_iconst (pc' := 38) dX1_pass_37 rfl ?_
        refine z_isub (pc' := 39) dX1_pass_38 rfl ?_
        refine z_iret rfl dX1_pass_39 ?_
        exact k
      · skip
        rw [if_neg c] at k
        by_cases c : w 55 4 = 2
        · skip
          rw [if_pos c] at k
          refine z_aald (t := 64) (pc' := 19) (by decide) rfl r2 (by decide) (by rw [c]; rfl) dX1_pass_18 rfl ?_
          refine z_aload_n (pc' := 20) 1 rfl rfl dX1_pass_19 rfl ?_
          refine z_invV (as := [zR 38]) (st := []) (C := m_X4_copyFrom) (fs := [67, 68, 0, 0]) (pc' := 23) dX1_pass_20 rfl t_3_86 k_X4_copyFrom rfl (by decide) rfl rfl rfl rfl (Nat.le_of_ble_eq_true rfl) ?_
          refine c_W_copyFrom_64_38 ?_
          show z_Wp m_X1_pass _ 23 [(0, zR 55), (1, zR 38)] [] (F_W_copyFrom_64_38 w) _
          refine z_aload_n (pc' := 24) 0 rfl rfl dX1_pass_23 rfl ?_
          refine z_dup (pc' := 25) rfl dX1_pass_24 rfl ?_
          refine z_getI2 (v := (F_W_copyFrom_64_38 w) 55 4) (pc' := 28) g_X1_34 (by decide) rfl rfl rfl dX1_pass_25 rfl ?_
          refine z_iconst (pc' := 29) dX1_pass_28 rfl ?_
          refine z_iadd (pc' := 30) dX1_pass_29 rfl ?_
          refine z_putI (pc' := 33) p_X1_34 (by decide) rfl rfl rfl rfl dX1_pass_30 rfl ?_
          refine z_aload_n (pc' := 34) 0 rfl rfl dX1_pass_33 rfl ?_
          refine z_getI2 (v := ((F_W_copyFrom_64_38 w) 55 4) + 1) (pc' := 37) g_X1_34 (by decide) rfl rfl rfl dX1_pass_34 rfl ?_
          refine z_iconst (pc' := 38) dX1_pass_37 rfl ?_
          refine z_isub (pc' := 39) dX1_pass_38 rfl ?_
          refine z_iret rfl dX1_pass_39 ?_
          exact k
        · skip
          rw [if_neg c] at k
          refine z_aald (t := 67) (pc' := 19) (by decide) rfl r2 (by decide) (by rw [show w 55 4 = 3 by omega]; rfl) dX1_pass_18 rfl ?_
          refine z_aload_n (pc' := 20) 1 rfl rfl dX1_pass_19 rfl ?_
          refine z_invV (as := [zR 38]) (st := []) (C := m_X4_copyFrom) (fs := [70, 71, 0, 0]) (pc' := 23) dX1_pass_20 rfl t_3_86 k_X4_copyFrom rfl (by decide) rfl rfl rfl rfl (Nat.le_of_ble_eq_true rfl) ?_
          refine c_W_copyFrom_67_38 ?_
          show z_Wp m_X1_pass _ 23 [(0, zR 55), (1, zR 38)] [] (F_W_copyFrom_67_38 w) _
          refine z_aload_n (pc' := 24) 0 rfl rfl dX1_pass_23 rfl ?_
          refine z_dup (pc' := 25) rfl dX1_pass_24 rfl ?_
          refine z_getI2 (v := (F_W_copyFrom_67_38 w) 55 4) (pc' := 28) g_X1_34 (by decide) rfl rfl rfl dX1_pass_25 rfl ?_
          refine z_iconst (pc' := 29) dX1_pass_28 rfl ?_
          refine z_iadd (pc' := 30) dX1_pass_29 rfl ?_
          refine z_putI (pc' := 33) p_X1_34 (by decide) rfl rfl rfl rfl dX1_pass_30 rfl ?_
          refine z_aload_n (pc' := 34) 0 rfl rfl dX1_pass_33 rfl ?_
          refine z_getI2 (v := ((F_W_copyFrom_67_38 w) 55 4) + 1) (pc' := 37) g_X1_34 (by decide) rfl rfl rfl dX1_pass_34 rfl ?_
          refine z_iconst (pc' := 38) dX1_pass_37 rfl ?_
          refine z_isub (pc' := 39) dX1_pass_38 rfl ?_
          refine z_iret rfl dX1_pass_39 ?_
          exact k
  · have h := h.2 c
    rw [if_neg c] at k
    refine z_iconst (pc' := 9) dX1_pass_8 rfl ?_
    refine z_iret rfl dX1_pass_9 ?_
    exact k
def L_W_weigh_58_57_7 (w : z_Wd)   : Nat → Int → z_Wd → Int × z_Wd
  | 0, _, _ => (0, w)
  | m9 + 1, u2, wu => if u2 ≥ wu 58 2 then (0, wu) else if Int.tdiv (wu 59 u2.toNat) 10000 = 0 then L_W_weigh_58_57_7 w m9 (u2 + 1) (F_W_push_58 wu (Int.tmod (wu 59 u2.toNat) 10000)) else if Int.tdiv (wu 59 u2.toNat) 10000 = 1 then if Int.tmod (wu 59 u2.toNat) 10000 ≥ 6 then L_W_weigh_58_57_7 w m9 (u2 + 1) (F_W_push_58 wu 0) else L_W_weigh_58_57_7 w m9 (u2 + 1) (F_W_push_58 wu (wu 57 ((Int.tmod (wu 59 u2.toNat) 10000).toNat))) else if Int.tdiv (wu 59 u2.toNat) 10000 = 2 then ((F_W_pop_58 wu).1, (F_W_pop_58 wu).2) else if Int.tdiv (wu 59 u2.toNat) 10000 = 3 then if (F_W_pop_58 wu).1 = 0 then L_W_weigh_58_57_7 w m9 ((F_J_max_7cf53 ((F_W_pop_58 wu).2) u2 ((Int.tmod (wu 59 u2.toNat) 10000) - 1)) + 1) ((F_W_pop_58 wu).2) else L_W_weigh_58_57_7 w m9 (u2 + 1) ((F_W_pop_58 wu).2) else if Int.tdiv (wu 59 u2.toNat) 10000 = 33 then if (F_W_pop_58 wu).1 = 0 then L_W_weigh_58_57_7 w m9 (u2 + 1) (F_W_push_58 ((F_W_pop_58 wu).2) 1) else L_W_weigh_58_57_7 w m9 (u2 + 1) (F_W_push_58 ((F_W_pop_58 wu).2) 0) else L_W_weigh_58_57_7 w m9 (u2 + 1) (F_W_push_58 ((F_W_pop_58 ((F_W_pop_58 wu).2)).2) (F_W_join ((F_W_pop_58 ((F_W_pop_58 wu).2)).2) (Int.tdiv (wu 59 u2.toNat) 10000) ((F_W_pop_58 ((F_W_pop_58 wu).2)).1) ((F_W_pop_58 wu).1)))
def PL_W_weigh_58_57_7 (w : z_Wd)   : Nat → Int → z_Wd → Prop
  | 0, _, _ => False
  | m9 + 1, u2, wu => (-2147483648 ≤ u2 ∧ u2 < 2147483648) ∧ (-2147483648 ≤ wu 58 2 ∧ wu 58 2 < 2147483648) ∧ ((u2 ≥ wu 58 2 → True) ∧ (¬ (u2 ≥ wu 58 2) → (0 ≤ u2 ∧ u2 < 240) ∧ (-2147483648 ≤ wu 59 u2.toNat ∧ wu 59 u2.toNat < 2147483648) ∧ (-2147483648 ≤ Int.tdiv (wu 59 u2.toNat) 10000 ∧ Int.tdiv (wu 59 u2.toNat) 10000 < 2147483648) ∧ ((Int.tdiv (wu 59 u2.toNat) 10000 = 0 → (P_W_push_58 wu (Int.tmod (wu 59 u2.toNat) 10000)) ∧ (PL_W_weigh_58_57_7 w m9 (u2 + 1) (F_W_push_58 wu (Int.tmod (wu 59 u2.toNat) 10000)))) ∧ (¬ (Int.tdiv (wu 59 u2.toNat) 10000) = 0 → (Int.tdiv (wu 59 u2.toNat) 10000 = 1 → (-2147483648 ≤ Int.tmod (wu 59 u2.toNat) 10000 ∧ Int.tmod (wu 59 u2.toNat) 10000 < 2147483648) ∧ ((Int.tmod (wu 59 u2.toNat) 10000 ≥ 6 → (P_W_push_58 wu 0) ∧ (PL_W_weigh_58_57_7 w m9 (u2 + 1) (F_W_push_58 wu 0))) ∧ (¬ (Int.tmod (wu 59 u2.toNat) 10000 ≥ 6) → (0 ≤ Int.tmod (wu 59 u2.toNat) 10000 ∧ Int.tmod (wu 59 u2.toNat) 10000 < 6) ∧ (P_W_push_58 wu (wu 57 ((Int.tmod (wu 59 u2.toNat) 10000).toNat))) ∧ (PL_W_weigh_58_57_7 w m9 (u2 + 1) (F_W_push_58 wu (wu 57 ((Int.tmod (wu 59 u2.toNat) 10000).toNat))))))) ∧ (¬ (Int.tdiv (wu 59 u2.toNat) 10000) = 1 → (Int.tdiv (wu 59 u2.toNat) 10000 = 2 → P_W_pop_58 wu) ∧ (¬ (Int.tdiv (wu 59 u2.toNat) 10000) = 2 → (Int.tdiv (wu 59 u2.toNat) 10000 = 3 → (P_W_pop_58 wu) ∧ (-2147483648 ≤ (F_W_pop_58 wu).1 ∧ (F_W_pop_58 wu).1 < 2147483648) ∧ (((F_W_pop_58 wu).1 = 0 → (P_J_max_7cf53 ((F_W_pop_58 wu).2) u2 ((Int.tmod (wu 59 u2.toNat) 10000) - 1)) ∧ (PL_W_weigh_58_57_7 w m9 ((F_J_max_7cf53 ((F_W_pop_58 wu).2) u2 ((Int.tmod (wu 59 u2.toNat) 10000) - 1)) + 1) ((F_W_pop_58 wu).2))) ∧ (¬ ((F_W_pop_58 wu).1 = 0) → PL_W_weigh_58_57_7 w m9 (u2 + 1) ((F_W_pop_58 wu).2)))) ∧ (¬ (Int.tdiv (wu 59 u2.toNat) 10000) = 3 → (Int.tdiv (wu 59 u2.toNat) 10000 = 33 → (P_W_pop_58 wu) ∧ (-2147483648 ≤ (F_W_pop_58 wu).1 ∧ (F_W_pop_58 wu).1 < 2147483648) ∧ (((F_W_pop_58 wu).1 = 0 → (P_W_push_58 ((F_W_pop_58 wu).2) 1) ∧ (PL_W_weigh_58_57_7 w m9 (u2 + 1) (F_W_push_58 ((F_W_pop_58 wu).2) 1))) ∧ (¬ ((F_W_pop_58 wu).1 = 0) → (P_W_push_58 ((F_W_pop_58 wu).2) 0) ∧ (PL_W_weigh_58_57_7 w m9 (u2 + 1) (F_W_push_58 ((F_W_pop_58 wu).2) 0))))) ∧ (¬ (Int.tdiv (wu 59 u2.toNat) 10000) = 33 → (P_W_pop_58 wu) ∧ (P_W_pop_58 ((F_W_pop_58 wu).2)) ∧ (P_W_join ((F_W_pop_58 ((F_W_pop_58 wu).2)).2) (Int.tdiv (wu 59 u2.toNat) 10000) ((F_W_pop_58 ((F_W_pop_58 wu).2)).1) ((F_W_pop_58 wu).1)) ∧ (P_W_push_58 ((F_W_pop_58 ((F_W_pop_58 wu).2)).2) (F_W_join ((F_W_pop_58 ((F_W_pop_58 wu).2)).2) (Int.tdiv (wu 59 u2.toNat) 10000) ((F_W_pop_58 ((F_W_pop_58 wu).2)).1) ((F_W_pop_58 wu).1))) ∧ (PL_W_weigh_58_57_7 w m9 (u2 + 1) (F_W_push_58 ((F_W_pop_58 ((F_W_pop_58 wu).2)).2) (F_W_join ((F_W_pop_58 ((F_W_pop_58 wu).2)).2) (Int.tdiv (wu 59 u2.toNat) 10000) ((F_W_pop_58 ((F_W_pop_58 wu).2)).1) ((F_W_pop_58 wu).1))))))))))))
def P_W_weigh_58_57 (w : z_Wd)  : Prop := PL_W_weigh_58_57_7 w 300 0 (z_up w 58 3 0)
def F_W_weigh_58_57 (w : z_Wd)  : Int × z_Wd := L_W_weigh_58_57_7 w 300 0 (z_up w 58 3 0)
set_option maxRecDepth 4000 in
theorem c_W_weigh_58_57 {d : Nat} {w : z_Wd} {Q : Option z_V → z_Wd → Prop} (h : P_W_weigh_58_57 w ) (k : Q (some (zI (F_W_weigh_58_57 w ).1)) (F_W_weigh_58_57 w ).2) : z_Wc (d + 3) m_X4_weigh [zR 58, zR 57] w Q := by
  unfold P_W_weigh_58_57 at h
  unfold F_W_weigh_58_57 at k
  refine z_enter rfl (Nat.le_of_ble_eq_true rfl) ?_
  show z_Wp m_X4_weigh _ 0 [(0, zR 58), (1, zR 57)] [] w _
  refine z_aload_n (pc' := 1) 0 rfl rfl dX4_weigh_0 rfl ?_
  refine z_iconst (pc' := 2) dX4_weigh_1 rfl ?_
  refine z_putI (pc' := 5) p_X4_28 (by decide) rfl rfl rfl rfl dX4_weigh_2 rfl ?_
  refine z_iconst (pc' := 6) dX4_weigh_5 rfl ?_
  refine z_istore_n (pc' := 7) (ls' := [(0, zR 58), (1, zR 57), (2, zI 0)]) rfl (by decide) rfl rfl dX4_weigh_6 rfl ?_
  have hl : ∀ (m9 : Nat) (u2 : Int) (wu : z_Wd), PL_W_weigh_58_57_7 w m9 u2 wu → Q (some (zI (L_W_weigh_58_57_7 w m9 u2 wu).1)) (L_W_weigh_58_57_7 w m9 u2 wu).2 → z_Wp m_X4_weigh (d + 3) 7 [(0, zR 58), (1, zR 57), (2, zI u2)] [] wu Q := by
    clear h k
    intro m9
    induction m9 with
    | zero => intro u2 wu h k; exact False.elim h
    | succ m9 ih =>
      intro u2 wu h k
      have h : (-2147483648 ≤ u2 ∧ u2 < 2147483648) ∧ (-2147483648 ≤ wu 58 2 ∧ wu 58 2 < 2147483648) ∧ ((u2 ≥ wu 58 2 → True) ∧ (¬ (u2 ≥ wu 58 2) → (0 ≤ u2 ∧ u2 < 240) ∧ (-2147483648 ≤ wu 59 u2.toNat ∧ wu 59 u2.toNat < 2147483648) ∧ (-2147483648 ≤ Int.tdiv (wu 59 u2.toNat) 10000 ∧ Int.tdiv (wu 59 u2.toNat) 10000 < 2147483648) ∧ ((Int.tdiv (wu 59 u2.toNat) 10000 = 0 → (P_W_push_58 wu (Int.tmod (wu 59 u2.toNat) 10000)) ∧ (PL_W_weigh_58_57_7 w m9 (u2 + 1) (F_W_push_58 wu (Int.tmod (wu 59 u2.toNat) 10000)))) ∧ (¬ (Int.tdiv (wu 59 u2.toNat) 10000) = 0 → (Int.tdiv (wu 59 u2.toNat) 10000 = 1 → (-2147483648 ≤ Int.tmod (wu 59 u2.toNat) 10000 ∧ Int.tmod (wu 59 u2.toNat) 10000 < 2147483648) ∧ ((Int.tmod (wu 59 u2.toNat) 10000 ≥ 6 → (P_W_push_58 wu 0) ∧ (PL_W_weigh_58_57_7 w m9 (u2 + 1) (F_W_push_58 wu 0))) ∧ (¬ (Int.tmod (wu 59 u2.toNat) 10000 ≥ 6) → (0 ≤ Int.tmod (wu 59 u2.toNat) 10000 ∧ Int.tmod (wu 59 u2.toNat) 10000 < 6) ∧ (P_W_push_58 wu (wu 57 ((Int.tmod (wu 59 u2.toNat) 10000).toNat))) ∧ (PL_W_weigh_58_57_7 w m9 (u2 + 1) (F_W_push_58 wu (wu 57 ((Int.tmod (wu 59 u2.toNat) 10000).toNat))))))) ∧ (¬ (Int.tdiv (wu 59 u2.toNat) 10000) = 1 → (Int.tdiv (wu 59 u2.toNat) 10000 = 2 → P_W_pop_58 wu) ∧ (¬ (Int.tdiv (wu 59 u2.toNat) 10000) = 2 → (Int.tdiv (wu 59 u2.toNat) 10000 = 3 → (P_W_pop_58 wu) ∧ (-2147483648 ≤ (F_W_pop_58 wu).1 ∧ (F_W_pop_58 wu).1 < 2147483648) ∧ (((F_W_pop_58 wu).1 = 0 → (P_J_max_7cf53 ((F_W_pop_58 wu).2) u2 ((Int.tmod (wu 59 u2.toNat) 10000) - 1)) ∧ (PL_W_weigh_58_57_7 w m9 ((F_J_max_7cf53 ((F_W_pop_58 wu).2) u2 ((Int.tmod (wu 59 u2.toNat) 10000) - 1)) + 1) ((F_W_pop_58 wu).2))) ∧ (¬ ((F_W_pop_58 wu).1 = 0) → PL_W_weigh_58_57_7 w m9 (u2 + 1) ((F_W_pop_58 wu).2)))) ∧ (¬ (Int.tdiv (wu 59 u2.toNat) 10000) = 3 → (Int.tdiv (wu 59 u2.toNat) 10000 = 33 → (P_W_pop_58 wu) ∧ (-2147483648 ≤ (F_W_pop_58 wu).1 ∧ (F_W_pop_58 wu).1 < 2147483648) ∧ (((F_W_pop_58 wu).1 = 0 → (P_W_push_58 ((F_W_pop_58 wu).2) 1) ∧ (PL_W_weigh_58_57_7 w m9 (u2 + 1) (F_W_push_58 ((F_W_pop_58 wu).2) 1))) ∧ (¬ ((F_W_pop_58 wu).1 = 0) → (P_W_push_58 ((F_W_pop_58 wu).2) 0) ∧ (PL_W_weigh_58_57_7 w m9 (u2 + 1) (F_W_push_58 ((F_W_pop_58 wu).2) 0))))) ∧ (¬ (Int.tdiv (wu 59 u2.toNat) 10000) = 33 → (P_W_pop_58 wu) ∧ (P_W_pop_58 ((F_W_pop_58 wu).2)) ∧ (P_W_join ((F_W_pop_58 ((F_W_pop_58 wu).2)).2) (Int.tdiv (wu 59 u2.toNat) 10000) ((F_W_pop_58 ((F_W_pop_58 wu).2)).1) ((F_W_pop_58 wu).1)) ∧ (P_W_push_58 ((F_W_pop_58 ((F_W_pop_58 wu).2)).2) (F_W_join ((F_W_pop_58 ((F_W_pop_58 wu).2)).2) (Int.tdiv (wu 59 u2.toNat) 10000) ((F_W_pop_58 ((F_W_pop_58 wu).2)).1) ((F_W_pop_58 wu).1))) ∧ (PL_W_weigh_58_57_7 w m9 (u2 + 1) (F_W_push_58 ((F_W_pop_58 ((F_W_pop_58 wu).2)).2) (F_W_join ((F_W_pop_58 ((F_W_pop_58 wu).2)).2) (Int.tdiv (wu 59 u2.toNat) 10000) ((F_W_pop_58 ((F_W_pop_58 wu).2)).1) ((F_W_pop_58 wu).1)))))))))))) := h
      have k : Q (some (zI (if u2 ≥ wu 58 2 then (0, wu) else if Int.tdiv (wu 59 u2.toNat) 10000 = 0 then L_W_weigh_58_57_7 w m9 (u2 + 1) (F_W_push_58 wu (Int.tmod (wu 59 u2.toNat) 10000)) else if Int.tdiv (wu 59 u2.toNat) 10000 = 1 then if Int.tmod (wu 59 u2.toNat) 10000 ≥ 6 then L_W_weigh_58_57_7 w m9 (u2 + 1) (F_W_push_58 wu 0) else L_W_weigh_58_57_7 w m9 (u2 + 1) (F_W_push_58 wu (wu 57 ((Int.tmod (wu 59 u2.toNat) 10000).toNat))) else if Int.tdiv (wu 59 u2.toNat) 10000 = 2 then ((F_W_pop_58 wu).1, (F_W_pop_58 wu).2) else if Int.tdiv (wu 59 u2.toNat) 10000 = 3 then if (F_W_pop_58 wu).1 = 0 then L_W_weigh_58_57_7 w m9 ((F_J_max_7cf53 ((F_W_pop_58 wu).2) u2 ((Int.tmod (wu 59 u2.toNat) 10000) - 1)) + 1) ((F_W_pop_58 wu).2) else L_W_weigh_58_57_7 w m9 (u2 + 1) ((F_W_pop_58 wu).2) else if Int.tdiv (wu 59 u2.toNat) 10000 = 33 then if (F_W_pop_58 wu).1 = 0 then L_W_weigh_58_57_7 w m9 (u2 + 1) (F_W_push_58 ((F_W_pop_58 wu).2) 1) else L_W_weigh_58_57_7 w m9 (u2 + 1) (F_W_push_58 ((F_W_pop_58 wu).2) 0) else L_W_weigh_58_57_7 w m9 (u2 + 1) (F_W_push_58 ((F_W_pop_58 ((F_W_pop_58 wu).2)).2) (F_W_join ((F_W_pop_58 ((F_W_pop_58 wu).2)).2) (Int.tdiv (wu 59 u2.toNat) 10000) ((F_W_pop_58 ((F_W_pop_58 wu).2)).1) ((F_W_pop_58 wu).1)))).1)) (if u2 ≥ wu 58 2 then (0, wu) else if Int.tdiv (wu 59 u2.toNat) 10000 = 0 then L_W_weigh_58_57_7 w m9 (u2 + 1) (F_W_push_58 wu (Int.tmod (wu 59 u2.toNat) 10000)) else if Int.tdiv (wu 59 u2.toNat) 10000 = 1 then if Int.tmod (wu 59 u2.toNat) 10000 ≥ 6 then L_W_weigh_58_57_7 w m9 (u2 + 1) (F_W_push_58 wu 0) else L_W_weigh_58_57_7 w m9 (u2 + 1) (F_W_push_58 wu (wu 57 ((Int.tmod (wu 59 u2.toNat) 10000).toNat))) else if Int.tdiv (wu 59 u2.toNat) 10000 = 2 then ((F_W_pop_58 wu).1, (F_W_pop_58 wu).2) else if Int.tdiv (wu 59 u2.toNat) 10000 = 3 then if (F_W_pop_58 wu).1 = 0 then L_W_weigh_58_57_7 w m9 ((F_J_max_7cf53 ((F_W_pop_58 wu).2) u2 ((Int.tmod (wu 59 u2.toNat) 10000) - 1)) + 1) ((F_W_pop_58 wu).2) else L_W_weigh_58_57_7 w m9 (u2 + 1) ((F_W_pop_58 wu).2) else if Int.tdiv (wu 59 u2.toNat) 10000 = 33 then if (F_W_pop_58 wu).1 = 0 then L_W_weigh_58_57_7 w m9 (u2 + 1) (F_W_push_58 ((F_W_pop_58 wu).2) 1) else L_W_weigh_58_57_7 w m9 (u2 + 1) (F_W_push_58 ((F_W_pop_58 wu).2) 0) else L_W_weigh_58_57_7 w m9 (u2 + 1) (F_W_push_58 ((F_W_pop_58 ((F_W_pop_58 wu).2)).2) (F_W_join ((F_W_pop_58 ((F_W_pop_58 wu).2)).2) (Int.tdiv (wu 59 u2.toNat) 10000) ((F_W_pop_58 ((F_W_pop_58 wu).2)).1) ((F_W_pop_58 wu).1)))).2 := k
      refine z_iload_n (pc' := 8) 2 rfl rfl dX4_weigh_7 rfl ?_
      refine z_aload_n (pc' := 9) 0 rfl rfl dX4_weigh_8 rfl ?_
      refine z_getI2 (v := wu 58 2) (pc' := 12) g_X4_18 (by decide) rfl rfl rfl dX4_weigh_9 rfl ?_
      obtain ⟨r23, h⟩ := h
      obtain ⟨r24, h⟩ := h
      refine z_icmp_ge 188 dX4_weigh_12 (by decide) (pc' := 15) rfl r23 r24 (fun c => ?_) (fun c => ?_)
      · have h := h.1 c
        rw [if_pos c] at k
        refine z_iconst (pc' := 189) dX4_weigh_188 rfl ?_
        refine z_iret rfl dX4_weigh_189 ?_
        exact k
      · have h := h.2 c
        rw [if_neg c] at k
        refine z_aload_n (pc' := 16) 0 rfl rfl dX4_weigh_15 rfl ?_
        refine z_getR (t := 59) (pc' := 19) g_X4_11 (by decide) rfl rfl dX4_weigh_16 rfl ?_
        refine z_iload_n (pc' := 20) 2 rfl rfl dX4_weigh_19 rfl ?_
        obtain ⟨r25, h⟩ := h
        refine z_iald2 (v := wu 59 u2.toNat) (pc' := 21) (by decide) rfl r25 (by decide) rfl dX4_weigh_20 rfl ?_
        refine z_sipush (pc' := 24) (by decide) dX4_weigh_21 rfl ?_
        obtain ⟨r26, h⟩ := h
        refine z_idiv (pc' := 25) r26 (by decide) (by decide) dX4_weigh_24 rfl ?_
        refine z_istore_n (pc' := 26) (ls' := [(0, zR 58), (1, zR 57), (2, zI u2), (3, zI (Int.tdiv (wu 59 u2.toNat) 10000))]) rfl (by decide) rfl rfl dX4_weigh_25 rfl ?_
        refine z_aload_n (pc' := 27) 0 rfl rfl dX4_weigh_26 rfl ?_
        refine z_getR (t := 59) (pc' := 30) g_X4_11 (by decide) rfl rfl dX4_weigh_27 rfl ?_
        refine z_iload_n (pc' := 31) 2 rfl rfl dX4_weigh_30 rfl ?_
        refine z_iald2 (v := wu 59 u2.toNat) (pc' := 32) (by decide) rfl r25 (by decide) rfl dX4_weigh_31 rfl ?_
        refine z_sipush (pc' := 35) (by decide) dX4_weigh_32 rfl ?_
        refine z_irem (pc' := 36) r26 (by decide) (by decide) dX4_weigh_35 rfl ?_
        refine z_istore (pc' := 38) (ls' := [(0, zR 58), (1, zR 57), (2, zI u2), (3, zI (Int.tdiv (wu 59 u2.toNat) 10000)), (4, zI (Int.tmod (wu 59 u2.toNat) 10000))]) (by decide) rfl rfl dX4_weigh_36 rfl ?_
        refine z_iload_n (pc' := 39) 3 rfl rfl dX4_weigh_38 rfl ?_
        obtain ⟨r27, h⟩ := h
        refine z_lookup dX4_weigh_39 (by decide) r27 ⟨fun c0 => ⟨88, by decide, ?_⟩, fun c0 => ⟨fun c1 => ⟨97, by decide, ?_⟩, fun c1 => ⟨fun c2 => ⟨119, by decide, ?_⟩, fun c2 => ⟨fun c3 => ⟨124, by decide, ?_⟩, fun c3 => ⟨fun c4 => ⟨143, by decide, ?_⟩, fun c4 => ⟨162, by decide, ?_⟩⟩⟩⟩⟩⟩
        · skip
          have c0 : Int.tdiv (wu 59 u2.toNat) 10000 = 0 := c0
          have h := h.1 c0
          rw [if_pos c0] at k
          refine z_aload_n (pc' := 89) 0 rfl rfl dX4_weigh_88 rfl ?_
          refine z_iload (pc' := 91) 4 rfl dX4_weigh_89 rfl ?_
          refine z_invV (as := [zI (Int.tmod (wu 59 u2.toNat) 10000)]) (st := []) (C := m_X4_push) (fs := [61, 62, 0, 0]) (pc' := 94) dX4_weigh_91 rfl t_4_97 k_X4_push rfl (by decide) rfl rfl rfl rfl (Nat.le_of_ble_eq_true rfl) ?_
          obtain ⟨r28, h⟩ := h
          refine c_W_push_58 r28 ?_
          show z_Wp m_X4_weigh _ 94 [(0, zR 58), (1, zR 57), (2, zI u2), (3, zI (Int.tdiv (wu 59 u2.toNat) 10000)), (4, zI (Int.tmod (wu 59 u2.toNat) 10000))] [] (F_W_push_58 wu (Int.tmod (wu 59 u2.toNat) 10000)) _
          refine z_goto 182 dX4_weigh_94 (by decide) ?_
          refine z_iinc (pc' := 185) (ls' := [(0, zR 58), (1, zR 57), (2, zI (u2 + 1)), (3, zI (Int.tdiv (wu 59 u2.toNat) 10000)), (4, zI (Int.tmod (wu 59 u2.toNat) 10000))]) 2 rfl (by decide) rfl rfl dX4_weigh_182 rfl ?_
          refine z_goto 7 dX4_weigh_185 (by decide) ?_
          exact z_Wp.sub (ls' := [(0, zR 58), (1, zR 57), (2, zI (u2 + 1))]) (ih _ _ h k) (z_sub_of [0, 1, 2] rfl)
        · skip
          have c0 : ¬ (Int.tdiv (wu 59 u2.toNat) 10000) = 0 := c0
          have h := h.2 c0
          rw [if_neg c0] at k
          have c1 : Int.tdiv (wu 59 u2.toNat) 10000 = 1 := c1
          have h := h.1 c1
          rw [if_pos c1] at k
          refine z_aload_n (pc' := 98) 0 rfl rfl dX4_weigh_97 rfl ?_
          refine z_iload (pc' := 100) 4 rfl dX4_weigh_98 rfl ?_
          refine z_aload_n (pc' := 101) 1 rfl rfl dX4_weigh_100 rfl ?_
          refine z_alen2 (v := 6) (pc' := 102) (by decide) rfl rfl dX4_weigh_101 rfl ?_
          obtain ⟨r29, h⟩ := h
          refine z_icmp_ge 112 dX4_weigh_102 (by decide) (pc' := 105) rfl r29 (by decide) (fun c => ?_) (fun c => ?_)
          · have h := h.1 c
            rw [if_pos c] at k
            refine z_iconst (pc' := 113) dX4_weigh_112 rfl ?_
            refine z_invV (as := [zI 0]) (st := []) (C := m_X4_push) (fs := [61, 62, 0, 0]) (pc' := 116) dX4_weigh_113 rfl t_4_97 k_X4_push rfl (by decide) rfl rfl rfl rfl (Nat.le_of_ble_eq_true rfl) ?_
            obtain ⟨r30, h⟩ := h
            refine c_W_push_58 r30 ?_
            show z_Wp m_X4_weigh _ 116 [(0, zR 58), (1, zR 57), (2, zI u2), (3, zI (Int.tdiv (wu 59 u2.toNat) 10000)), (4, zI (Int.tmod (wu 59 u2.toNat) 10000))] [] (F_W_push_58 wu 0) _
            refine z_goto 182 dX4_weigh_116 (by decide) ?_
            refine z_iinc (pc' := 185) (ls' := [(0, zR 58), (1, zR 57), (2, zI (u2 + 1)), (3, zI (Int.tdiv (wu 59 u2.toNat) 10000)), (4, zI (Int.tmod (wu 59 u2.toNat) 10000))]) 2 rfl (by decide) rfl rfl dX4_weigh_182 rfl ?_
            refine z_goto 7 dX4_weigh_185 (by decide) ?_
            exact z_Wp.sub (ls' := [(0, zR 58), (1, zR 57), (2, zI (u2 + 1))]) (ih _ _ h k) (z_sub_of [0, 1, 2] rfl)
          · have h := h.2 c
            rw [if_neg c] at k
            refine z_aload_n (pc' := 106) 1 rfl rfl dX4_weigh_105 rfl ?_
            refine z_iload (pc' := 108) 4 rfl dX4_weigh_106 rfl ?_
            obtain ⟨r31, h⟩ := h
            refine z_iald2 (v := wu 57 ((Int.tmod (wu 59 u2.toNat) 10000).toNat)) (pc' := 109) (by decide) rfl r31 (by decide) rfl dX4_weigh_108 rfl ?_
            refine z_goto 113 dX4_weigh_109 (by decide) ?_
            refine z_invV (as := [zI (wu 57 ((Int.tmod (wu 59 u2.toNat) 10000).toNat))]) (st := []) (C := m_X4_push) (fs := [61, 62, 0, 0]) (pc' := 116) dX4_weigh_113 rfl t_4_97 k_X4_push rfl (by decide) rfl rfl rfl rfl (Nat.le_of_ble_eq_true rfl) ?_
            obtain ⟨r32, h⟩ := h
            refine c_W_push_58 r32 ?_
            show z_Wp m_X4_weigh _ 116 [(0, zR 58), (1, zR 57), (2, zI u2), (3, zI (Int.tdiv (wu 59 u2.toNat) 10000)), (4, zI (Int.tmod (wu 59 u2.toNat) 10000))] [] (F_W_push_58 wu (wu 57 ((Int.tmod (wu 59 u2.toNat) 10000).toNat))) _
            refine z_goto 182 dX4_weigh_116 (by decide) ?_
            refine z_iinc (pc' := 185) (ls' := [(0, zR 58), (1, zR 57), (2, zI (u2 + 1)), (3, zI (Int.tdiv (wu 59 u2.toNat) 10000)), (4, zI (Int.tmod (wu 59 u2.toNat) 10000))]) 2 rfl (by decide) rfl rfl dX4_weigh_182 rfl ?_
            refine z_goto 7 dX4_weigh_185 (by decide) ?_
            exact z_Wp.sub (ls' := [(0, zR 58), (1, zR 57), (2, zI (u2 + 1))]) (ih _ _ h k) (z_sub_of [0, 1, 2] rfl)
        · skip
          have c0 : ¬ (Int.tdiv (wu 59 u2.toNat) 10000) = 0 := c0
          have h := h.2 c0
          rw [if_neg c0] at k
          have c1 : ¬ (Int.tdiv (wu 59 u2.toNat) 10000) = 1 := c1
          have h := h.2 c1
          rw [if_neg c1] at k
          have c2 : Int.tdiv (wu 59 u2.toNat) 10000 = 2 := c2
          have h := h.1 c2
          rw [if_pos c2] at k
          refine z_aload_n (pc' := 120) 0 rfl rfl dX4_weigh_119 rfl ?_
          refine z_invV (as := []) (st := []) (C := m_X4_pop) (fs := [61, 62, 0, 0]) (pc' := 123) dX4_weigh_120 rfl t_4_101 k_X4_pop rfl (by decide) rfl rfl rfl rfl (Nat.le_of_ble_eq_true rfl) ?_
          have r33 := h
          refine c_W_pop_58 r33 ?_
          show z_Wp m_X4_weigh _ 123 [(0, zR 58), (1, zR 57), (2, zI u2), (3, zI (Int.tdiv (wu 59 u2.toNat) 10000)), (4, zI (Int.tmod (wu 59 u2.toNat) 10000))] [zI ((F_W_pop_58 wu).1)] ((F_W_pop_58 wu).2) _
          refine z_iret rfl dX4_weigh_123 ?_
          exact k
        · skip
          have c0 : ¬ (Int.tdiv (wu 59 u2.toNat) 10000) = 0 := c0
          have h := h.2 c0
          rw [if_neg c0] at k
          have c1 : ¬ (Int.tdiv (wu 59 u2.toNat) 10000) = 1 := c1
          have h := h.2 c1
          rw [if_neg c1] at k
          have c2 : ¬ (Int.tdiv (wu 59 u2.toNat) 10000) = 2 := c2
          have h := h.2 c2
          rw [if_neg c2] at k
          have c3 : Int.tdiv (wu 59 u2.toNat) 10000 = 3 := c3
          have h := h.1 c3
          rw [if_pos c3] at k
          refine z_aload_n (pc' := 125) 0 rfl rfl dX4_weigh_124 rfl ?_
          refine z_invV (as := []) (st := []) (C := m_X4_pop) (fs := [61, 62, 0, 0]) (pc' := 128) dX4_weigh_125 rfl t_4_101 k_X4_pop rfl (by decide) rfl rfl rfl rfl (Nat.le_of_ble_eq_true rfl) ?_
          obtain ⟨r34, h⟩ := h
          refine c_W_pop_58 r34 ?_
          show z_Wp m_X4_weigh _ 128 [(0, zR 58), (1, zR 57), (2, zI u2), (3, zI (Int.tdiv (wu 59 u2.toNat) 10000)), (4, zI (Int.tmod (wu 59 u2.toNat) 10000))] [zI ((F_W_pop_58 wu).1)] ((F_W_pop_58 wu).2) _
          obtain ⟨r35, h⟩ := h
          refine z_if_ne 182 dX4_weigh_128 (by decide) (pc' := 131) rfl r35 (fun c => ?_) (fun c => ?_)
          · have h := h.2 c
            rw [if_neg c] at k
            refine z_iinc (pc' := 185) (ls' := [(0, zR 58), (1, zR 57), (2, zI (u2 + 1)), (3, zI (Int.tdiv (wu 59 u2.toNat) 10000)), (4, zI (Int.tmod (wu 59 u2.toNat) 10000))]) 2 rfl (by decide) rfl rfl dX4_weigh_182 rfl ?_
            refine z_goto 7 dX4_weigh_185 (by decide) ?_
            exact z_Wp.sub (ls' := [(0, zR 58), (1, zR 57), (2, zI (u2 + 1))]) (ih _ _ h k) (z_sub_of [0, 1, 2] rfl)
          · have h := h.1 c
            rw [if_pos c] at k
            refine z_iload_n (pc' := 132) 2 rfl rfl dX4_weigh_131 rfl ?_
            refine z_iload (pc' := 134) 4 rfl dX4_weigh_132 rfl ?_
            refine z_iconst (pc' := 135) dX4_weigh_134 rfl ?_
            refine z_isub (pc' := 136) dX4_weigh_135 rfl ?_
            refine z_invS (as := [zI u2, zI ((Int.tmod (wu 59 u2.toNat) 10000) - 1)]) (st := []) (C := m_J9_max_7cf53) (pc' := 139) dX4_weigh_136 rfl t_4_105 k_J9_max_7cf53 rfl rfl (Nat.le_of_ble_eq_true rfl) ?_
            obtain ⟨r36, h⟩ := h
            refine c_J_max_7cf53 r36 ?_
            show z_Wp m_X4_weigh _ 139 [(0, zR 58), (1, zR 57), (2, zI u2), (3, zI (Int.tdiv (wu 59 u2.toNat) 10000)), (4, zI (Int.tmod (wu 59 u2.toNat) 10000))] [zI (F_J_max_7cf53 ((F_W_pop_58 wu).2) u2 ((Int.tmod (wu 59 u2.toNat) 10000) - 1))] ((F_W_pop_58 wu).2) _
            refine z_istore_n (pc' := 140) (ls' := [(0, zR 58), (1, zR 57), (2, zI (F_J_max_7cf53 ((F_W_pop_58 wu).2) u2 ((Int.tmod (wu 59 u2.toNat) 10000) - 1))), (3, zI (Int.tdiv (wu 59 u2.toNat) 10000)), (4, zI (Int.tmod (wu 59 u2.toNat) 10000))]) rfl (by decide) rfl rfl dX4_weigh_139 rfl ?_
            refine z_goto 182 dX4_weigh_140 (by decide) ?_
            refine z_iinc (pc' := 185) (ls' := [(0, zR 58), (1, zR 57), (2, zI ((F_J_max_7cf53 ((F_W_pop_58 wu).2) u2 ((Int.tmod (wu 59 u2.toNat) 10000) - 1)) + 1)), (3, zI (Int.tdiv (wu 59 u2.toNat) 10000)), (4, zI (Int.tmod (wu 59 u2.toNat) 10000))]) 2 rfl (by decide) rfl rfl dX4_weigh_182 rfl ?_
            refine z_goto 7 dX4_weigh_185 (by decide) ?_
            exact z_Wp.sub (ls' := [(0, zR 58), (1, zR 57), (2, zI ((F_J_max_7cf53 ((F_W_pop_58 wu).2) u2 ((Int.tmod (wu 59 u2.toNat) 10000) - 1)) + 1))]) (ih _ _ h k) (z_sub_of [0, 1, 2] rfl)
        · skip
          have c0 : ¬ (Int.tdiv (wu 59 u2.toNat) 10000) = 0 := c0
          have h := h.2 c0
          rw [if_neg c0] at k
          have c1 : ¬ (Int.tdiv (wu 59 u2.toNat) 10000) = 1 := c1
          have h := h.2 c1
          rw [if_neg c1] at k
          have c2 : ¬ (Int.tdiv (wu 59 u2.toNat) 10000) = 2 := c2
          have h := h.2 c2
          rw [if_neg c2] at k
          have c3 : ¬ (Int.tdiv (wu 59 u2.toNat) 10000) = 3 := c3
          have h := h.2 c3
          rw [if_neg c3] at k
          have c4 : Int.tdiv (wu 59 u2.toNat) 10000 = 33 := c4
          have h := h.1 c4
          rw [if_pos c4] at k
          refine z_aload_n (pc' := 144) 0 rfl rfl dX4_weigh_143 rfl ?_
          refine z_aload_n (pc' := 145) 0 rfl rfl dX4_weigh_144 rfl ?_
          refine z_invV (as := []) (st := [zR 58]) (C := m_X4_pop) (fs := [61, 62, 0, 0]) (pc' := 148) dX4_weigh_145 rfl t_4_101 k_X4_pop rfl (by decide) rfl rfl rfl rfl (Nat.le_of_ble_eq_true rfl) ?_
          obtain ⟨r37, h⟩ := h
          refine c_W_pop_58 r37 ?_
          show z_Wp m_X4_weigh _ 148 [(0, zR 58), (1, zR 57), (2, zI u2), (3, zI (Int.tdiv (wu 59 u2.toNat) 10000)), (4, zI (Int.tmod (wu 59 u2.toNat) 10000))] [zI ((F_W_pop_58 wu).1), zR 58] ((F_W_pop_58 wu).2) _
          obtain ⟨r38, h⟩ := h
          refine z_if_ne 155 dX4_weigh_148 (by decide) (pc' := 151) rfl r38 (fun c => ?_) (fun c => ?_)
          · have h := h.2 c
            rw [if_neg c] at k
            refine z_iconst (pc' := 156) dX4_weigh_155 rfl ?_
            refine z_invV (as := [zI 0]) (st := []) (C := m_X4_push) (fs := [61, 62, 0, 0]) (pc' := 159) dX4_weigh_156 rfl t_4_97 k_X4_push rfl (by decide) rfl rfl rfl rfl (Nat.le_of_ble_eq_true rfl) ?_
            obtain ⟨r39, h⟩ := h
            refine c_W_push_58 r39 ?_
            show z_Wp m_X4_weigh _ 159 [(0, zR 58), (1, zR 57), (2, zI u2), (3, zI (Int.tdiv (wu 59 u2.toNat) 10000)), (4, zI (Int.tmod (wu 59 u2.toNat) 10000))] [] (F_W_push_58 ((F_W_pop_58 wu).2) 0) _
            refine z_goto 182 dX4_weigh_159 (by decide) ?_
            refine z_iinc (pc' := 185) (ls' := [(0, zR 58), (1, zR 57), (2, zI (u2 + 1)), (3, zI (Int.tdiv (wu 59 u2.toNat) 10000)), (4, zI (Int.tmod (wu 59 u2.toNat) 10000))]) 2 rfl (by decide) rfl rfl dX4_weigh_182 rfl ?_
            refine z_goto 7 dX4_weigh_185 (by decide) ?_
            exact z_Wp.sub (ls' := [(0, zR 58), (1, zR 57), (2, zI (u2 + 1))]) (ih _ _ h k) (z_sub_of [0, 1, 2] rfl)
          · have h := h.1 c
            rw [if_pos c] at k
            refine z_iconst (pc' := 152) dX4_weigh_151 rfl ?_
            refine z_goto 156 dX4_weigh_152 (by decide) ?_
            refine z_invV (as := [zI 1]) (st := []) (C := m_X4_push) (fs := [61, 62, 0, 0]) (pc' := 159) dX4_weigh_156 rfl t_4_97 k_X4_push rfl (by decide) rfl rfl rfl rfl (Nat.le_of_ble_eq_true rfl) ?_
            obtain ⟨r40, h⟩ := h
            refine c_W_push_58 r40 ?_
            show z_Wp m_X4_weigh _ 159 [(0, zR 58), (1, zR 57), (2, zI u2), (3, zI (Int.tdiv (wu 59 u2.toNat) 10000)), (4, zI (Int.tmod (wu 59 u2.toNat) 10000))] [] (F_W_push_58 ((F_W_pop_58 wu).2) 1) _
            refine z_goto 182 dX4_weigh_159 (by decide) ?_
            refine z_iinc (pc' := 185) (ls' := [(0, zR 58), (1, zR 57), (2, zI (u2 + 1)), (3, zI (Int.tdiv (wu 59 u2.toNat) 10000)), (4, zI (Int.tmod (wu 59 u2.toNat) 10000))]) 2 rfl (by decide) rfl rfl dX4_weigh_182 rfl ?_
            refine z_goto 7 dX4_weigh_185 (by decide) ?_
            exact z_Wp.sub (ls' := [(0, zR 58), (1, zR 57), (2, zI (u2 + 1))]) (ih _ _ h k) (z_sub_of [0, 1, 2] rfl)
        · skip
          have c0 : ¬ (Int.tdiv (wu 59 u2.toNat) 10000) = 0 := c0
          have h := h.2 c0
          rw [if_neg c0] at k
          have c1 : ¬ (Int.tdiv (wu 59 u2.toNat) 10000) = 1 := c1
          have h := h.2 c1
          rw [if_neg c1] at k
          have c2 : ¬ (Int.tdiv (wu 59 u2.toNat) 10000) = 2 := c2
          have h := h.2 c2
          rw [if_neg c2] at k
          have c3 : ¬ (Int.tdiv (wu 59 u2.toNat) 10000) = 3 := c3
          have h := h.2 c3
          rw [if_neg c3] at k
          have c4 : ¬ (Int.tdiv (wu 59 u2.toNat) 10000) = 33 := c4
          have h := h.2 c4
          rw [if_neg c4] at k
          refine z_aload_n (pc' := 163) 0 rfl rfl dX4_weigh_162 rfl ?_
          refine z_invV (as := []) (st := []) (C := m_X4_pop) (fs := [61, 62, 0, 0]) (pc' := 166) dX4_weigh_163 rfl t_4_101 k_X4_pop rfl (by decide) rfl rfl rfl rfl (Nat.le_of_ble_eq_true rfl) ?_
          obtain ⟨r41, h⟩ := h
          refine c_W_pop_58 r41 ?_
          show z_Wp m_X4_weigh _ 166 [(0, zR 58), (1, zR 57), (2, zI u2), (3, zI (Int.tdiv (wu 59 u2.toNat) 10000)), (4, zI (Int.tmod (wu 59 u2.toNat) 10000))] [zI ((F_W_pop_58 wu).1)] ((F_W_pop_58 wu).2) _
          refine z_istore (pc' := 168) (ls' := [(0, zR 58), (1, zR 57), (2, zI u2), (3, zI (Int.tdiv (wu 59 u2.toNat) 10000)), (4, zI (Int.tmod (wu 59 u2.toNat) 10000)), (5, zI ((F_W_pop_58 wu).1))]) (by decide) rfl rfl dX4_weigh_166 rfl ?_
          refine z_aload_n (pc' := 169) 0 rfl rfl dX4_weigh_168 rfl ?_
          refine z_iload_n (pc' := 170) 3 rfl rfl dX4_weigh_169 rfl ?_
          refine z_aload_n (pc' := 171) 0 rfl rfl dX4_weigh_170 rfl ?_
          refine z_invV (as := []) (st := [zI (Int.tdiv (wu 59 u2.toNat) 10000), zR 58]) (C := m_X4_pop) (fs := [61, 62, 0, 0]) (pc' := 174) dX4_weigh_171 rfl t_4_101 k_X4_pop rfl (by decide) rfl rfl rfl rfl (Nat.le_of_ble_eq_true rfl) ?_
          obtain ⟨r42, h⟩ := h
          refine c_W_pop_58 r42 ?_
          show z_Wp m_X4_weigh _ 174 [(0, zR 58), (1, zR 57), (2, zI u2), (3, zI (Int.tdiv (wu 59 u2.toNat) 10000)), (4, zI (Int.tmod (wu 59 u2.toNat) 10000)), (5, zI ((F_W_pop_58 wu).1))] [zI ((F_W_pop_58 ((F_W_pop_58 wu).2)).1), zI (Int.tdiv (wu 59 u2.toNat) 10000), zR 58] ((F_W_pop_58 ((F_W_pop_58 wu).2)).2) _
          refine z_iload (pc' := 176) 5 rfl dX4_weigh_174 rfl ?_
          refine z_invS (as := [zI (Int.tdiv (wu 59 u2.toNat) 10000), zI ((F_W_pop_58 ((F_W_pop_58 wu).2)).1), zI ((F_W_pop_58 wu).1)]) (st := [zR 58]) (C := m_X4_join) (pc' := 179) dX4_weigh_176 rfl t_4_108 k_X4_join rfl rfl (Nat.le_of_ble_eq_true rfl) ?_
          obtain ⟨r43, h⟩ := h
          refine c_W_join r43 ?_
          show z_Wp m_X4_weigh _ 179 [(0, zR 58), (1, zR 57), (2, zI u2), (3, zI (Int.tdiv (wu 59 u2.toNat) 10000)), (4, zI (Int.tmod (wu 59 u2.toNat) 10000)), (5, zI ((F_W_pop_58 wu).1))] [zI (F_W_join ((F_W_pop_58 ((F_W_pop_58 wu).2)).2) (Int.tdiv (wu 59 u2.toNat) 10000) ((F_W_pop_58 ((F_W_pop_58 wu).2)).1) ((F_W_pop_58 wu).1)), zR 58] ((F_W_pop_58 ((F_W_pop_58 wu).2)).2) _
          refine z_invV (as := [zI (F_W_join ((F_W_pop_58 ((F_W_pop_58 wu).2)).2) (Int.tdiv (wu 59 u2.toNat) 10000) ((F_W_pop_58 ((F_W_pop_58 wu).2)).1) ((F_W_pop_58 wu).1))]) (st := []) (C := m_X4_push) (fs := [61, 62, 0, 0]) (pc' := 182) dX4_weigh_179 rfl t_4_97 k_X4_push rfl (by decide) rfl rfl rfl rfl (Nat.le_of_ble_eq_true rfl) ?_
          obtain ⟨r44, h⟩ := h
          refine c_W_push_58 r44 ?_
          show z_Wp m_X4_weigh _ 182 [(0, zR 58), (1, zR 57), (2, zI u2), (3, zI (Int.tdiv (wu 59 u2.toNat) 10000)), (4, zI (Int.tmod (wu 59 u2.toNat) 10000)), (5, zI ((F_W_pop_58 wu).1))] [] (F_W_push_58 ((F_W_pop_58 ((F_W_pop_58 wu).2)).2) (F_W_join ((F_W_pop_58 ((F_W_pop_58 wu).2)).2) (Int.tdiv (wu 59 u2.toNat) 10000) ((F_W_pop_58 ((F_W_pop_58 wu).2)).1) ((F_W_pop_58 wu).1))) _
          refine z_iinc (pc' := 185) (ls' := [(0, zR 58), (1, zR 57), (2, zI (u2 + 1)), (3, zI (Int.tdiv (wu 59 u2.toNat) 10000)), (4, zI (Int.tmod (wu 59 u2.toNat) 10000)), (5, zI ((F_W_pop_58 wu).1))]) 2 rfl (by decide) rfl rfl dX4_weigh_182 rfl ?_
          refine z_goto 7 dX4_weigh_185 (by decide) ?_
          exact z_Wp.sub (ls' := [(0, zR 58), (1, zR 57), (2, zI (u2 + 1))]) (ih _ _ h k) (z_sub_of [0, 1, 2] rfl)
  exact hl 300 _ _ h k
def L_W_weigh_61_57_7 (w : z_Wd)   : Nat → Int → z_Wd → Int × z_Wd
  | 0, _, _ => (0, w)
  | m9 + 1, u2, wu => if u2 ≥ wu 61 2 then (0, wu) else if Int.tdiv (wu 62 u2.toNat) 10000 = 0 then L_W_weigh_61_57_7 w m9 (u2 + 1) (F_W_push_61 wu (Int.tmod (wu 62 u2.toNat) 10000)) else if Int.tdiv (wu 62 u2.toNat) 10000 = 1 then if Int.tmod (wu 62 u2.toNat) 10000 ≥ 6 then L_W_weigh_61_57_7 w m9 (u2 + 1) (F_W_push_61 wu 0) else L_W_weigh_61_57_7 w m9 (u2 + 1) (F_W_push_61 wu (wu 57 ((Int.tmod (wu 62 u2.toNat) 10000).toNat))) else if Int.tdiv (wu 62 u2.toNat) 10000 = 2 then ((F_W_pop_61 wu).1, (F_W_pop_61 wu).2) else if Int.tdiv (wu 62 u2.toNat) 10000 = 3 then if (F_W_pop_61 wu).1 = 0 then L_W_weigh_61_57_7 w m9 ((F_J_max_7cf53 ((F_W_pop_61 wu).2) u2 ((Int.tmod (wu 62 u2.toNat) 10000) - 1)) + 1) ((F_W_pop_61 wu).2) else L_W_weigh_61_57_7 w m9 (u2 + 1) ((F_W_pop_61 wu).2) else if Int.tdiv (wu 62 u2.toNat) 10000 = 33 then if (F_W_pop_61 wu).1 = 0 then L_W_weigh_61_57_7 w m9 (u2 + 1) (F_W_push_61 ((F_W_pop_61 wu).2) 1) else L_W_weigh_61_57_7 w m9 (u2 + 1) (F_W_push_61 ((F_W_pop_61 wu).2) 0) else L_W_weigh_61_57_7 w m9 (u2 + 1) (F_W_push_61 ((F_W_pop_61 ((F_W_pop_61 wu).2)).2) (F_W_join ((F_W_pop_61 ((F_W_pop_61 wu).2)).2) (Int.tdiv (wu 62 u2.toNat) 10000) ((F_W_pop_61 ((F_W_pop_61 wu).2)).1) ((F_W_pop_61 wu).1)))
def PL_W_weigh_61_57_7 (w : z_Wd)   : Nat → Int → z_Wd → Prop
  | 0, _, _ => False
  | m9 + 1, u2, wu => (-2147483648 ≤ u2 ∧ u2 < 2147483648) ∧ (-2147483648 ≤ wu 61 2 ∧ wu 61 2 < 2147483648) ∧ ((u2 ≥ wu 61 2 → True) ∧ (¬ (u2 ≥ wu 61 2) → (0 ≤ u2 ∧ u2 < 240) ∧ (-2147483648 ≤ wu 62 u2.toNat ∧ wu 62 u2.toNat < 2147483648) ∧ (-2147483648 ≤ Int.tdiv (wu 62 u2.toNat) 10000 ∧ Int.tdiv (wu 62 u2.toNat) 10000 < 2147483648) ∧ ((Int.tdiv (wu 62 u2.toNat) 10000 = 0 → (P_W_push_61 wu (Int.tmod (wu 62 u2.toNat) 10000)) ∧ (PL_W_weigh_61_57_7 w m9 (u2 + 1) (F_W_push_61 wu (Int.tmod (wu 62 u2.toNat) 10000)))) ∧ (¬ (Int.tdiv (wu 62 u2.toNat) 10000) = 0 → (Int.tdiv (wu 62 u2.toNat) 10000 = 1 → (-2147483648 ≤ Int.tmod (wu 62 u2.toNat) 10000 ∧ Int.tmod (wu 62 u2.toNat) 10000 < 2147483648) ∧ ((Int.tmod (wu 62 u2.toNat) 10000 ≥ 6 → (P_W_push_61 wu 0) ∧ (PL_W_weigh_61_57_7 w m9 (u2 + 1) (F_W_push_61 wu 0))) ∧ (¬ (Int.tmod (wu 62 u2.toNat) 10000 ≥ 6) → (0 ≤ Int.tmod (wu 62 u2.toNat) 10000 ∧ Int.tmod (wu 62 u2.toNat) 10000 < 6) ∧ (P_W_push_61 wu (wu 57 ((Int.tmod (wu 62 u2.toNat) 10000).toNat))) ∧ (PL_W_weigh_61_57_7 w m9 (u2 + 1) (F_W_push_61 wu (wu 57 ((Int.tmod (wu 62 u2.toNat) 10000).toNat))))))) ∧ (¬ (Int.tdiv (wu 62 u2.toNat) 10000) = 1 → (Int.tdiv (wu 62 u2.toNat) 10000 = 2 → P_W_pop_61 wu) ∧ (¬ (Int.tdiv (wu 62 u2.toNat) 10000) = 2 → (Int.tdiv (wu 62 u2.toNat) 10000 = 3 → (P_W_pop_61 wu) ∧ (-2147483648 ≤ (F_W_pop_61 wu).1 ∧ (F_W_pop_61 wu).1 < 2147483648) ∧ (((F_W_pop_61 wu).1 = 0 → (P_J_max_7cf53 ((F_W_pop_61 wu).2) u2 ((Int.tmod (wu 62 u2.toNat) 10000) - 1)) ∧ (PL_W_weigh_61_57_7 w m9 ((F_J_max_7cf53 ((F_W_pop_61 wu).2) u2 ((Int.tmod (wu 62 u2.toNat) 10000) - 1)) + 1) ((F_W_pop_61 wu).2))) ∧ (¬ ((F_W_pop_61 wu).1 = 0) → PL_W_weigh_61_57_7 w m9 (u2 + 1) ((F_W_pop_61 wu).2)))) ∧ (¬ (Int.tdiv (wu 62 u2.toNat) 10000) = 3 → (Int.tdiv (wu 62 u2.toNat) 10000 = 33 → (P_W_pop_61 wu) ∧ (-2147483648 ≤ (F_W_pop_61 wu).1 ∧ (F_W_pop_61 wu).1 < 2147483648) ∧ (((F_W_pop_61 wu).1 = 0 → (P_W_push_61 ((F_W_pop_61 wu).2) 1) ∧ (PL_W_weigh_61_57_7 w m9 (u2 + 1) (F_W_push_61 ((F_W_pop_61 wu).2) 1))) ∧ (¬ ((F_W_pop_61 wu).1 = 0) → (P_W_push_61 ((F_W_pop_61 wu).2) 0) ∧ (PL_W_weigh_61_57_7 w m9 (u2 + 1) (F_W_push_61 ((F_W_pop_61 wu).2) 0))))) ∧ (¬ (Int.tdiv (wu 62 u2.toNat) 10000) = 33 → (P_W_pop_61 wu) ∧ (P_W_pop_61 ((F_W_pop_61 wu).2)) ∧ (P_W_join ((F_W_pop_61 ((F_W_pop_61 wu).2)).2) (Int.tdiv (wu 62 u2.toNat) 10000) ((F_W_pop_61 ((F_W_pop_61 wu).2)).1) ((F_W_pop_61 wu).1)) ∧ (P_W_push_61 ((F_W_pop_61 ((F_W_pop_61 wu).2)).2) (F_W_join ((F_W_pop_61 ((F_W_pop_61 wu).2)).2) (Int.tdiv (wu 62 u2.toNat) 10000) ((F_W_pop_61 ((F_W_pop_61 wu).2)).1) ((F_W_pop_61 wu).1))) ∧ (PL_W_weigh_61_57_7 w m9 (u2 + 1) (F_W_push_61 ((F_W_pop_61 ((F_W_pop_61 wu).2)).2) (F_W_join ((F_W_pop_61 ((F_W_pop_61 wu).2)).2) (Int.tdiv (wu 62 u2.toNat) 10000) ((F_W_pop_61 ((F_W_pop_61 wu).2)).1) ((F_W_pop_61 wu).1))))))))))))
def P_W_weigh_61_57 (w : z_Wd)  : Prop := PL_W_weigh_61_57_7 w 300 0 (z_up w 61 3 0)
def F_W_weigh_61_57 (w : z_Wd)  : Int × z_Wd := L_W_weigh_61_57_7 w 300 0 (z_up w 61 3 0)
set_option maxRecDepth 4000 in
theorem c_W_weigh_61_57 {d : Nat} {w : z_Wd} {Q : Option z_V → z_Wd → Prop} (h : P_W_weigh_61_57 w ) (k : Q (some (zI (F_W_weigh_61_57 w ).1)) (F_W_weigh_61_57 w ).2) : z_Wc (d + 3) m_X4_weigh [zR 61, zR 57] w Q := by
  unfold P_W_weigh_61_57 at h
  unfold F_W_weigh_61_57 at k
  refine z_enter rfl (Nat.le_of_ble_eq_true rfl) ?_
  show z_Wp m_X4_weigh _ 0 [(0, zR 61), (1, zR 57)] [] w _
  refine z_aload_n (pc' := 1) 0 rfl rfl dX4_weigh_0 rfl ?_
  refine z_iconst (pc' := 2) dX4_weigh_1 rfl ?_
  refine z_putI (pc' := 5) p_X4_28 (by decide) rfl rfl rfl rfl dX4_weigh_2 rfl ?_
  refine z_iconst (pc' := 6) dX4_weigh_5 rfl ?_
  refine z_istore_n (pc' := 7) (ls' := [(0, zR 61), (1, zR 57), (2, zI 0)]) rfl (by decide) rfl rfl dX4_weigh_6 rfl ?_
  have hl : ∀ (m9 : Nat) (u2 : Int) (wu : z_Wd), PL_W_weigh_61_57_7 w m9 u2 wu → Q (some (zI (L_W_weigh_61_57_7 w m9 u2 wu).1)) (L_W_weigh_61_57_7 w m9 u2 wu).2 → z_Wp m_X4_weigh (d + 3) 7 [(0, zR 61), (1, zR 57), (2, zI u2)] [] wu Q := by
    clear h k
    intro m9
    induction m9 with
    | zero => intro u2 wu h k; exact False.elim h
    | succ m9 ih =>
      intro u2 wu h k
      have h : (-2147483648 ≤ u2 ∧ u2 < 2147483648) ∧ (-2147483648 ≤ wu 61 2 ∧ wu 61 2 < 2147483648) ∧ ((u2 ≥ wu 61 2 → True) ∧ (¬ (u2 ≥ wu 61 2) → (0 ≤ u2 ∧ u2 < 240) ∧ (-2147483648 ≤ wu 62 u2.toNat ∧ wu 62 u2.toNat < 2147483648) ∧ (-2147483648 ≤ Int.tdiv (wu 62 u2.toNat) 10000 ∧ Int.tdiv (wu 62 u2.toNat) 10000 < 2147483648) ∧ ((Int.tdiv (wu 62 u2.toNat) 10000 = 0 → (P_W_push_61 wu (Int.tmod (wu 62 u2.toNat) 10000)) ∧ (PL_W_weigh_61_57_7 w m9 (u2 + 1) (F_W_push_61 wu (Int.tmod (wu 62 u2.toNat) 10000)))) ∧ (¬ (Int.tdiv (wu 62 u2.toNat) 10000) = 0 → (Int.tdiv (wu 62 u2.toNat) 10000 = 1 → (-2147483648 ≤ Int.tmod (wu 62 u2.toNat) 10000 ∧ Int.tmod (wu 62 u2.toNat) 10000 < 2147483648) ∧ ((Int.tmod (wu 62 u2.toNat) 10000 ≥ 6 → (P_W_push_61 wu 0) ∧ (PL_W_weigh_61_57_7 w m9 (u2 + 1) (F_W_push_61 wu 0))) ∧ (¬ (Int.tmod (wu 62 u2.toNat) 10000 ≥ 6) → (0 ≤ Int.tmod (wu 62 u2.toNat) 10000 ∧ Int.tmod (wu 62 u2.toNat) 10000 < 6) ∧ (P_W_push_61 wu (wu 57 ((Int.tmod (wu 62 u2.toNat) 10000).toNat))) ∧ (PL_W_weigh_61_57_7 w m9 (u2 + 1) (F_W_push_61 wu (wu 57 ((Int.tmod (wu 62 u2.toNat) 10000).toNat))))))) ∧ (¬ (Int.tdiv (wu 62 u2.toNat) 10000) = 1 → (Int.tdiv (wu 62 u2.toNat) 10000 = 2 → P_W_pop_61 wu) ∧ (¬ (Int.tdiv (wu 62 u2.toNat) 10000) = 2 → (Int.tdiv (wu 62 u2.toNat) 10000 = 3 → (P_W_pop_61 wu) ∧ (-2147483648 ≤ (F_W_pop_61 wu).1 ∧ (F_W_pop_61 wu).1 < 2147483648) ∧ (((F_W_pop_61 wu).1 = 0 → (P_J_max_7cf53 ((F_W_pop_61 wu).2) u2 ((Int.tmod (wu 62 u2.toNat) 10000) - 1)) ∧ (PL_W_weigh_61_57_7 w m9 ((F_J_max_7cf53 ((F_W_pop_61 wu).2) u2 ((Int.tmod (wu 62 u2.toNat) 10000) - 1)) + 1) ((F_W_pop_61 wu).2))) ∧ (¬ ((F_W_pop_61 wu).1 = 0) → PL_W_weigh_61_57_7 w m9 (u2 + 1) ((F_W_pop_61 wu).2)))) ∧ (¬ (Int.tdiv (wu 62 u2.toNat) 10000) = 3 → (Int.tdiv (wu 62 u2.toNat) 10000 = 33 → (P_W_pop_61 wu) ∧ (-2147483648 ≤ (F_W_pop_61 wu).1 ∧ (F_W_pop_61 wu).1 < 2147483648) ∧ (((F_W_pop_61 wu).1 = 0 → (P_W_push_61 ((F_W_pop_61 wu).2) 1) ∧ (PL_W_weigh_61_57_7 w m9 (u2 + 1) (F_W_push_61 ((F_W_pop_61 wu).2) 1))) ∧ (¬ ((F_W_pop_61 wu).1 = 0) → (P_W_push_61 ((F_W_pop_61 wu).2) 0) ∧ (PL_W_weigh_61_57_7 w m9 (u2 + 1) (F_W_push_61 ((F_W_pop_61 wu).2) 0))))) ∧ (¬ (Int.tdiv (wu 62 u2.toNat) 10000) = 33 → (P_W_pop_61 wu) ∧ (P_W_pop_61 ((F_W_pop_61 wu).2)) ∧ (P_W_join ((F_W_pop_61 ((F_W_pop_61 wu).2)).2) (Int.tdiv (wu 62 u2.toNat) 10000) ((F_W_pop_61 ((F_W_pop_61 wu).2)).1) ((F_W_pop_61 wu).1)) ∧ (P_W_push_61 ((F_W_pop_61 ((F_W_pop_61 wu).2)).2) (F_W_join ((F_W_pop_61 ((F_W_pop_61 wu).2)).2) (Int.tdiv (wu 62 u2.toNat) 10000) ((F_W_pop_61 ((F_W_pop_61 wu).2)).1) ((F_W_pop_61 wu).1))) ∧ (PL_W_weigh_61_57_7 w m9 (u2 + 1) (F_W_push_61 ((F_W_pop_61 ((F_W_pop_61 wu).2)).2) (F_W_join ((F_W_pop_61 ((F_W_pop_61 wu).2)).2) (Int.tdiv (wu 62 u2.toNat) 10000) ((F_W_pop_61 ((F_W_pop_61 wu).2)).1) ((F_W_pop_61 wu).1)))))))))))) := h
      have k : Q (some (zI (if u2 ≥ wu 61 2 then (0, wu) else if Int.tdiv (wu 62 u2.toNat) 10000 = 0 then L_W_weigh_61_57_7 w m9 (u2 + 1) (F_W_push_61 wu (Int.tmod (wu 62 u2.toNat) 10000)) else if Int.tdiv (wu 62 u2.toNat) 10000 = 1 then if Int.tmod (wu 62 u2.toNat) 10000 ≥ 6 then L_W_weigh_61_57_7 w m9 (u2 + 1) (F_W_push_61 wu 0) else L_W_weigh_61_57_7 w m9 (u2 + 1) (F_W_push_61 wu (wu 57 ((Int.tmod (wu 62 u2.toNat) 10000).toNat))) else if Int.tdiv (wu 62 u2.toNat) 10000 = 2 then ((F_W_pop_61 wu).1, (F_W_pop_61 wu).2) else if Int.tdiv (wu 62 u2.toNat) 10000 = 3 then if (F_W_pop_61 wu).1 = 0 then L_W_weigh_61_57_7 w m9 ((F_J_max_7cf53 ((F_W_pop_61 wu).2) u2 ((Int.tmod (wu 62 u2.toNat) 10000) - 1)) + 1) ((F_W_pop_61 wu).2) else L_W_weigh_61_57_7 w m9 (u2 + 1) ((F_W_pop_61 wu).2) else if Int.tdiv (wu 62 u2.toNat) 10000 = 33 then if (F_W_pop_61 wu).1 = 0 then L_W_weigh_61_57_7 w m9 (u2 + 1) (F_W_push_61 ((F_W_pop_61 wu).2) 1) else L_W_weigh_61_57_7 w m9 (u2 + 1) (F_W_push_61 ((F_W_pop_61 wu).2) 0) else L_W_weigh_61_57_7 w m9 (u2 + 1) (F_W_push_61 ((F_W_pop_61 ((F_W_pop_61 wu).2)).2) (F_W_join ((F_W_pop_61 ((F_W_pop_61 wu).2)).2) (Int.tdiv (wu 62 u2.toNat) 10000) ((F_W_pop_61 ((F_W_pop_61 wu).2)).1) ((F_W_pop_61 wu).1)))).1)) (if u2 ≥ wu 61 2 then (0, wu) else if Int.tdiv (wu 62 u2.toNat) 10000 = 0 then L_W_weigh_61_57_7 w m9 (u2 + 1) (F_W_push_61 wu (Int.tmod (wu 62 u2.toNat) 10000)) else if Int.tdiv (wu 62 u2.toNat) 10000 = 1 then if Int.tmod (wu 62 u2.toNat) 10000 ≥ 6 then L_W_weigh_61_57_7 w m9 (u2 + 1) (F_W_push_61 wu 0) else L_W_weigh_61_57_7 w m9 (u2 + 1) (F_W_push_61 wu (wu 57 ((Int.tmod (wu 62 u2.toNat) 10000).toNat))) else if Int.tdiv (wu 62 u2.toNat) 10000 = 2 then ((F_W_pop_61 wu).1, (F_W_pop_61 wu).2) else if Int.tdiv (wu 62 u2.toNat) 10000 = 3 then if (F_W_pop_61 wu).1 = 0 then L_W_weigh_61_57_7 w m9 ((F_J_max_7cf53 ((F_W_pop_61 wu).2) u2 ((Int.tmod (wu 62 u2.toNat) 10000) - 1)) + 1) ((F_W_pop_61 wu).2) else L_W_weigh_61_57_7 w m9 (u2 + 1) ((F_W_pop_61 wu).2) else if Int.tdiv (wu 62 u2.toNat) 10000 = 33 then if (F_W_pop_61 wu).1 = 0 then L_W_weigh_61_57_7 w m9 (u2 + 1) (F_W_push_61 ((F_W_pop_61 wu).2) 1) else L_W_weigh_61_57_7 w m9 (u2 + 1) (F_W_push_61 ((F_W_pop_61 wu).2) 0) else L_W_weigh_61_57_7 w m9 (u2 + 1) (F_W_push_61 ((F_W_pop_61 ((F_W_pop_61 wu).2)).2) (F_W_join ((F_W_pop_61 ((F_W_pop_61 wu).2)).2) (Int.tdiv (wu 62 u2.toNat) 10000) ((F_W_pop_61 ((F_W_pop_61 wu).2)).1) ((F_W_pop_61 wu).1)))).2 := k
      refine z_iload_n (pc' := 8) 2 rfl rfl dX4_weigh_7 rfl ?_
      refine z_aload_n (pc' := 9) 0 rfl rfl dX4_weigh_8 rfl ?_
      refine z_getI2 (v := wu 61 2) (pc' := 12) g_X4_18 (by decide) rfl rfl rfl dX4_weigh_9 rfl ?_
      obtain ⟨r23, h⟩ := h
      obtain ⟨r24, h⟩ := h
      refine z_icmp_ge 188 dX4_weigh_12 (by decide) (pc' := 15) rfl r23 r24 (fun c => ?_) (fun c => ?_)
      · have h := h.1 c
        rw [if_pos c] at k
        refine z_iconst (pc' := 189) dX4_weigh_188 rfl ?_
        refine z_iret rfl dX4_weigh_189 ?_
        exact k
      · have h := h.2 c
        rw [if_neg c] at k
        refine z_aload_n (pc' := 16) 0 rfl rfl dX4_weigh_15 rfl ?_
        refine z_getR (t := 62) (pc' := 19) g_X4_11 (by decide) rfl rfl dX4_weigh_16 rfl ?_
        refine z_iload_n (pc' := 20) 2 rfl rfl dX4_weigh_19 rfl ?_
        obtain ⟨r25, h⟩ := h
        refine z_iald2 (v := wu 62 u2.toNat) (pc' := 21) (by decide) rfl r25 (by decide) rfl dX4_weigh_20 rfl ?_
        refine z_sipush (pc' := 24) (by decide) dX4_weigh_21 rfl ?_
        obtain ⟨r26, h⟩ := h
        refine z_idiv (pc' := 25) r26 (by decide) (by decide) dX4_weigh_24 rfl ?_
        refine z_istore_n (pc' := 26) (ls' := [(0, zR 61), (1, zR 57), (2, zI u2), (3, zI (Int.tdiv (wu 62 u2.toNat) 10000))]) rfl (by decide) rfl rfl dX4_weigh_25 rfl ?_
        refine z_aload_n (pc' := 27) 0 rfl rfl dX4_weigh_26 rfl ?_
        refine z_getR (t := 62) (pc' := 30) g_X4_11 (by decide) rfl rfl dX4_weigh_27 rfl ?_
        refine z_iload_n (pc' := 31) 2 rfl rfl dX4_weigh_30 rfl ?_
        refine z_iald2 (v := wu 62 u2.toNat) (pc' := 32) (by decide) rfl r25 (by decide) rfl dX4_weigh_31 rfl ?_
        refine z_sipush (pc' := 35) (by decide) dX4_weigh_32 rfl ?_
        refine z_irem (pc' := 36) r26 (by decide) (by decide) dX4_weigh_35 rfl ?_
        refine z_istore (pc' := 38) (ls' := [(0, zR 61), (1, zR 57), (2, zI u2), (3, zI (Int.tdiv (wu 62 u2.toNat) 10000)), (4, zI (Int.tmod (wu 62 u2.toNat) 10000))]) (by decide) rfl rfl dX4_weigh_36 rfl ?_
        refine z_iload_n (pc' := 39) 3 rfl rfl dX4_weigh_38 rfl ?_
        obtain ⟨r27, h⟩ := h
        refine z_lookup dX4_weigh_39 (by decide) r27 ⟨fun c0 => ⟨88, by decide, ?_⟩, fun c0 => ⟨fun c1 => ⟨97, by decide, ?_⟩, fun c1 => ⟨fun c2 => ⟨119, by decide, ?_⟩, fun c2 => ⟨fun c3 => ⟨124, by decide, ?_⟩, fun c3 => ⟨fun c4 => ⟨143, by decide, ?_⟩, fun c4 => ⟨162, by decide, ?_⟩⟩⟩⟩⟩⟩
        · skip
          have c0 : Int.tdiv (wu 62 u2.toNat) 10000 = 0 := c0
          have h := h.1 c0
          rw [if_pos c0] at k
          refine z_aload_n (pc' := 89) 0 rfl rfl dX4_weigh_88 rfl ?_
          refine z_iload (pc' := 91) 4 rfl dX4_weigh_89 rfl ?_
          refine z_invV (as := [zI (Int.tmod (wu 62 u2.toNat) 10000)]) (st := []) (C := m_X4_push) (fs := [64, 65, 0, 0]) (pc' := 94) dX4_weigh_91 rfl t_4_97 k_X4_push rfl (by decide) rfl rfl rfl rfl (Nat.le_of_ble_eq_true rfl) ?_
          obtain ⟨r28, h⟩ := h
          refine c_W_push_61 r28 ?_
          show z_Wp m_X4_weigh _ 94 [(0, zR 61), (1, zR 57), (2, zI u2), (3, zI (Int.tdiv (wu 62 u2.toNat) 10000)), (4, zI (Int.tmod (wu 62 u2.toNat) 10000))] [] (F_W_push_61 wu (Int.tmod (wu 62 u2.toNat) 10000)) _
          refine z_goto 182 dX4_weigh_94 (by decide) ?_
          refine z_iinc (pc' := 185) (ls' := [(0, zR 61), (1, zR 57), (2, zI (u2 + 1)), (3, zI (Int.tdiv (wu 62 u2.toNat) 10000)), (4, zI (Int.tmod (wu 62 u2.toNat) 10000))]) 2 rfl (by decide) rfl rfl dX4_weigh_182 rfl ?_
          refine z_goto 7 dX4_weigh_185 (by decide) ?_
          exact z_Wp.sub (ls' := [(0, zR 61), (1, zR 57), (2, zI (u2 + 1))]) (ih _ _ h k) (z_sub_of [0, 1, 2] rfl)
        · skip
          have c0 : ¬ (Int.tdiv (wu 62 u2.toNat) 10000) = 0 := c0
          have h := h.2 c0
          rw [if_neg c0] at k
          have c1 : Int.tdiv (wu 62 u2.toNat) 10000 = 1 := c1
          have h := h.1 c1
          rw [if_pos c1] at k
          refine z_aload_n (pc' := 98) 0 rfl rfl dX4_weigh_97 rfl ?_
          refine z_iload (pc' := 100) 4 rfl dX4_weigh_98 rfl ?_
          refine z_aload_n (pc' := 101) 1 rfl rfl dX4_weigh_100 rfl ?_
          refine z_alen2 (v := 6) (pc' := 102) (by decide) rfl rfl dX4_weigh_101 rfl ?_
          obtain ⟨r29, h⟩ := h
          refine z_icmp_ge 112 dX4_weigh_102 (by decide) (pc' := 105) rfl r29 (by decide) (fun c => ?_) (fun c => ?_)
          · have h := h.1 c
            rw [if_pos c] at k
            refine z_iconst (pc' := 113) dX4_weigh_112 rfl ?_
            refine z_invV (as := [zI 0]) (st := []) (C := m_X4_push) (fs := [64, 65, 0, 0]) (pc' := 116) dX4_weigh_113 rfl t_4_97 k_X4_push rfl (by decide) rfl rfl rfl rfl (Nat.le_of_ble_eq_true rfl) ?_
            obtain ⟨r30, h⟩ := h
            refine c_W_push_61 r30 ?_
            show z_Wp m_X4_weigh _ 116 [(0, zR 61), (1, zR 57), (2, zI u2), (3, zI (Int.tdiv (wu 62 u2.toNat) 10000)), (4, zI (Int.tmod (wu 62 u2.toNat) 10000))] [] (F_W_push_61 wu 0) _
            refine z_goto 182 dX4_weigh_116 (by decide) ?_
            refine z_iinc (pc' := 185) (ls' := [(0, zR 61), (1, zR 57), (2, zI (u2 + 1)), (3, zI (Int.tdiv (wu 62 u2.toNat) 10000)), (4, zI (Int.tmod (wu 62 u2.toNat) 10000))]) 2 rfl (by decide) rfl rfl dX4_weigh_182 rfl ?_
            refine z_goto 7 dX4_weigh_185 (by decide) ?_
            exact z_Wp.sub (ls' := [(0, zR 61), (1, zR 57), (2, zI (u2 + 1))]) (ih _ _ h k) (z_sub_of [0, 1, 2] rfl)
          · have h := h.2 c
            rw [if_neg c] at k
            refine z_aload_n (pc' := 106) 1 rfl rfl dX4_weigh_105 rfl ?_
            refine z_iload (pc' := 108) 4 rfl dX4_weigh_106 rfl ?_
            obtain ⟨r31, h⟩ := h
            refine z_iald2 (v := wu 57 ((Int.tmod (wu 62 u2.toNat) 10000).toNat)) (pc' := 109) (by decide) rfl r31 (by decide) rfl dX4_weigh_108 rfl ?_
            refine z_goto 113 dX4_weigh_109 (by decide) ?_
            refine z_invV (as := [zI (wu 57 ((Int.tmod (wu 62 u2.toNat) 10000).toNat))]) (st := []) (C := m_X4_push) (fs := [64, 65, 0, 0]) (pc' := 116) dX4_weigh_113 rfl t_4_97 k_X4_push rfl (by decide) rfl rfl rfl rfl (Nat.le_of_ble_eq_true rfl) ?_
            obtain ⟨r32, h⟩ := h
            refine c_W_push_61 r32 ?_
            show z_Wp m_X4_weigh _ 116 [(0, zR 61), (1, zR 57), (2, zI u2), (3, zI (Int.tdiv (wu 62 u2.toNat) 10000)), (4, zI (Int.tmod (wu 62 u2.toNat) 10000))] [] (F_W_push_61 wu (wu 57 ((Int.tmod (wu 62 u2.toNat) 10000).toNat))) _
            refine z_goto 182 dX4_weigh_116 (by decide) ?_
            refine z_iinc (pc' := 185) (ls' := [(0, zR 61), (1, zR 57), (2, zI (u2 + 1)), (3, zI (Int.tdiv (wu 62 u2.toNat) 10000)), (4, zI (Int.tmod (wu 62 u2.toNat) 10000))]) 2 rfl (by decide) rfl rfl dX4_weigh_182 rfl ?_
            refine z_goto 7 dX4_weigh_185 (by decide) ?_
            exact z_Wp.sub (ls' := [(0, zR 61), (1, zR 57), (2, zI (u2 + 1))]) (ih _ _ h k) (z_sub_of [0, 1, 2] rfl)
        · skip
          have c0 : ¬ (Int.tdiv (wu 62 u2.toNat) 10000) = 0 := c0
          have h := h.2 c0
          rw [if_neg c0] at k
          have c1 : ¬ (Int.tdiv (wu 62 u2.toNat) 10000) = 1 := c1
          have h := h.2 c1
          rw [if_neg c1] at k
          have c2 : Int.tdiv (wu 62 u2.toNat) 10000 = 2 := c2
          have h := h.1 c2
          rw [if_pos c2] at k
          refine z_aload_n (pc' := 120) 0 rfl rfl dX4_weigh_119 rfl ?_
          refine z_invV (as := []) (st := []) (C := m_X4_pop) (fs := [64, 65, 0, 0]) (pc' := 123) dX4_weigh_120 rfl t_4_101 k_X4_pop rfl (by decide) rfl rfl rfl rfl (Nat.le_of_ble_eq_true rfl) ?_
          have r33 := h
          refine c_W_pop_61 r33 ?_
          show z_Wp m_X4_weigh _ 123 [(0, zR 61), (1, zR 57), (2, zI u2), (3, zI (Int.tdiv (wu 62 u2.toNat) 10000)), (4, zI (Int.tmod (wu 62 u2.toNat) 10000))] [zI ((F_W_pop_61 wu).1)] ((F_W_pop_61 wu).2) _
          refine z_iret rfl dX4_weigh_123 ?_
          exact k
        · skip
          have c0 : ¬ (Int.tdiv (wu 62 u2.toNat) 10000) = 0 := c0
          have h := h.2 c0
          rw [if_neg c0] at k
          have c1 : ¬ (Int.tdiv (wu 62 u2.toNat) 10000) = 1 := c1
          have h := h.2 c1
          rw [if_neg c1] at k
          have c2 : ¬ (Int.tdiv (wu 62 u2.toNat) 10000) = 2 := c2
          have h := h.2 c2
          rw [if_neg c2] at k
          have c3 : Int.tdiv (wu 62 u2.toNat) 10000 = 3 := c3
          have h := h.1 c3
          rw [if_pos c3] at k
          refine z_aload_n (pc' := 125) 0 rfl rfl dX4_weigh_124 rfl ?_
          refine z_invV (as := []) (st := []) (C := m_X4_pop) (fs := [64, 65, 0, 0]) (pc' := 128) dX4_weigh_125 rfl t_4_101 k_X4_pop rfl (by decide) rfl rfl rfl rfl (Nat.le_of_ble_eq_true rfl) ?_
          obtain ⟨r34, h⟩ := h
          refine c_W_pop_61 r34 ?_
          show z_Wp m_X4_weigh _ 128 [(0, zR 61), (1, zR 57), (2, zI u2), (3, zI (Int.tdiv (wu 62 u2.toNat) 10000)), (4, zI (Int.tmod (wu 62 u2.toNat) 10000))] [zI ((F_W_pop_61 wu).1)] ((F_W_pop_61 wu).2) _
          obtain ⟨r35, h⟩ := h
          refine z_if_ne 182 dX4_weigh_128 (by decide) (pc' := 131) rfl r35 (fun c => ?_) (fun c => ?_)
          · have h := h.2 c
            rw [if_neg c] at k
            refine z_iinc (pc' := 185) (ls' := [(0, zR 61), (1, zR 57), (2, zI (u2 + 1)), (3, zI (Int.tdiv (wu 62 u2.toNat) 10000)), (4, zI (Int.tmod (wu 62 u2.toNat) 10000))]) 2 rfl (by decide) rfl rfl dX4_weigh_182 rfl ?_
            refine z_goto 7 dX4_weigh_185 (by decide) ?_
            exact z_Wp.sub (ls' := [(0, zR 61), (1, zR 57), (2, zI (u2 + 1))]) (ih _ _ h k) (z_sub_of [0, 1, 2] rfl)
          · have h := h.1 c
            rw [if_pos c] at k
            refine z_iload_n (pc' := 132) 2 rfl rfl dX4_weigh_131 rfl ?_
            refine z_iload (pc' := 134) 4 rfl dX4_weigh_132 rfl ?_
            refine z_iconst (pc' := 135) dX4_weigh_134 rfl ?_
            refine z_isub (pc' := 136) dX4_weigh_135 rfl ?_
            refine z_invS (as := [zI u2, zI ((Int.tmod (wu 62 u2.toNat) 10000) - 1)]) (st := []) (C := m_J9_max_7cf53) (pc' := 139) dX4_weigh_136 rfl t_4_105 k_J9_max_7cf53 rfl rfl (Nat.le_of_ble_eq_true rfl) ?_
            obtain ⟨r36, h⟩ := h
            refine c_J_max_7cf53 r36 ?_
            show z_Wp m_X4_weigh _ 139 [(0, zR 61), (1, zR 57), (2, zI u2), (3, zI (Int.tdiv (wu 62 u2.toNat) 10000)), (4, zI (Int.tmod (wu 62 u2.toNat) 10000))] [zI (F_J_max_7cf53 ((F_W_pop_61 wu).2) u2 ((Int.tmod (wu 62 u2.toNat) 10000) - 1))] ((F_W_pop_61 wu).2) _
            refine z_istore_n (pc' := 140) (ls' := [(0, zR 61), (1, zR 57), (2, zI (F_J_max_7cf53 ((F_W_pop_61 wu).2) u2 ((Int.tmod (wu 62 u2.toNat) 10000) - 1))), (3, zI (Int.tdiv (wu 62 u2.toNat) 10000)), (4, zI (Int.tmod (wu 62 u2.toNat) 10000))]) rfl (by decide) rfl rfl dX4_weigh_139 rfl ?_
            refine z_goto 182 dX4_weigh_140 (by decide) ?_
            refine z_iinc (pc' := 185) (ls' := [(0, zR 61), (1, zR 57), (2, zI ((F_J_max_7cf53 ((F_W_pop_61 wu).2) u2 ((Int.tmod (wu 62 u2.toNat) 10000) - 1)) + 1)), (3, zI (Int.tdiv (wu 62 u2.toNat) 10000)), (4, zI (Int.tmod (wu 62 u2.toNat) 10000))]) 2 rfl (by decide) rfl rfl dX4_weigh_182 rfl ?_
            refine z_goto 7 dX4_weigh_185 (by decide) ?_
            exact z_Wp.sub (ls' := [(0, zR 61), (1, zR 57), (2, zI ((F_J_max_7cf53 ((F_W_pop_61 wu).2) u2 ((Int.tmod (wu 62 u2.toNat) 10000) - 1)) + 1))]) (ih _ _ h k) (z_sub_of [0, 1, 2] rfl)
        · skip
          have c0 : ¬ (Int.tdiv (wu 62 u2.toNat) 10000) = 0 := c0
          have h := h.2 c0
          rw [if_neg c0] at k
          have c1 : ¬ (Int.tdiv (wu 62 u2.toNat) 10000) = 1 := c1
          have h := h.2 c1
          rw [if_neg c1] at k
          have c2 : ¬ (Int.tdiv (wu 62 u2.toNat) 10000) = 2 := c2
          have h := h.2 c2
          rw [if_neg c2] at k
          have c3 : ¬ (Int.tdiv (wu 62 u2.toNat) 10000) = 3 := c3
          have h := h.2 c3
          rw [if_neg c3] at k
          have c4 : Int.tdiv (wu 62 u2.toNat) 10000 = 33 := c4
          have h := h.1 c4
          rw [if_pos c4] at k
          refine z_aload_n (pc' := 144) 0 rfl rfl dX4_weigh_143 rfl ?_
          refine z_aload_n (pc' := 145) 0 rfl rfl dX4_weigh_144 rfl ?_
          refine z_invV (as := []) (st := [zR 61]) (C := m_X4_pop) (fs := [64, 65, 0, 0]) (pc' := 148) dX4_weigh_145 rfl t_4_101 k_X4_pop rfl (by decide) rfl rfl rfl rfl (Nat.le_of_ble_eq_true rfl) ?_
          obtain ⟨r37, h⟩ := h
          refine c_W_pop_61 r37 ?_
          show z_Wp m_X4_weigh _ 148 [(0, zR 61), (1, zR 57), (2, zI u2), (3, zI (Int.tdiv (wu 62 u2.toNat) 10000)), (4, zI (Int.tmod (wu 62 u2.toNat) 10000))] [zI ((F_W_pop_61 wu).1), zR 61] ((F_W_pop_61 wu).2) _
          obtain ⟨r38, h⟩ := h
          refine z_if_ne 155 dX4_weigh_148 (by decide) (pc' := 151) rfl r38 (fun c => ?_) (fun c => ?_)
          · have h := h.2 c
            rw [if_neg c] at k
            refine z_iconst (pc' := 156) dX4_weigh_155 rfl ?_
            refine z_invV (as := [zI 0]) (st := []) (C := m_X4_push) (fs := [64, 65, 0, 0]) (pc' := 159) dX4_weigh_156 rfl t_4_97 k_X4_push rfl (by decide) rfl rfl rfl rfl (Nat.le_of_ble_eq_true rfl) ?_
            obtain ⟨r39, h⟩ := h
            refine c_W_push_61 r39 ?_
            show z_Wp m_X4_weigh _ 159 [(0, zR 61), (1, zR 57), (2, zI u2), (3, zI (Int.tdiv (wu 62 u2.toNat) 10000)), (4, zI (Int.tmod (wu 62 u2.toNat) 10000))] [] (F_W_push_61 ((F_W_pop_61 wu).2) 0) _
            refine z_goto 182 dX4_weigh_159 (by decide) ?_
            refine z_iinc (pc' := 185) (ls' := [(0, zR 61), (1, zR 57), (2, zI (u2 + 1)), (3, zI (Int.tdiv (wu 62 u2.toNat) 10000)), (4, zI (Int.tmod (wu 62 u2.toNat) 10000))]) 2 rfl (by decide) rfl rfl dX4_weigh_182 rfl ?_
            refine z_goto 7 dX4_weigh_185 (by decide) ?_
            exact z_Wp.sub (ls' := [(0, zR 61), (1, zR 57), (2, zI (u2 + 1))]) (ih _ _ h k) (z_sub_of [0, 1, 2] rfl)
          · have h := h.1 c
            rw [if_pos c] at k
            refine z_iconst (pc' := 152) dX4_weigh_151 rfl ?_
            refine z_goto 156 dX4_weigh_152 (by decide) ?_
            refine z_invV (as := [zI 1]) (st := []) (C := m_X4_push) (fs := [64, 65, 0, 0]) (pc' := 159) dX4_weigh_156 rfl t_4_97 k_X4_push rfl (by decide) rfl rfl rfl rfl (Nat.le_of_ble_eq_true rfl) ?_
            obtain ⟨r40, h⟩ := h
            refine c_W_push_61 r40 ?_
            show z_Wp m_X4_weigh _ 159 [(0, zR 61), (1, zR 57), (2, zI u2), (3, zI (Int.tdiv (wu 62 u2.toNat) 10000)), (4, zI (Int.tmod (wu 62 u2.toNat) 10000))] [] (F_W_push_61 ((F_W_pop_61 wu).2) 1) _
            refine z_goto 182 dX4_weigh_159 (by decide) ?_
            refine z_iinc (pc' := 185) (ls' := [(0, zR 61), (1, zR 57), (2, zI (u2 + 1)), (3, zI (Int.tdiv (wu 62 u2.toNat) 10000)), (4, zI (Int.tmod (wu 62 u2.toNat) 10000))]) 2 rfl (by decide) rfl rfl dX4_weigh_182 rfl ?_
            refine z_goto 7 dX4_weigh_185 (by decide) ?_
            exact z_Wp.sub (ls' := [(0, zR 61), (1, zR 57), (2, zI (u2 + 1))]) (ih _ _ h k) (z_sub_of [0, 1, 2] rfl)
        · skip
          have c0 : ¬ (Int.tdiv (wu 62 u2.toNat) 10000) = 0 := c0
          have h := h.2 c0
          rw [if_neg c0] at k
          have c1 : ¬ (Int.tdiv (wu 62 u2.toNat) 10000) = 1 := c1
          have h := h.2 c1
          rw [if_neg c1] at k
          have c2 : ¬ (Int.tdiv (wu 62 u2.toNat) 10000) = 2 := c2
          have h := h.2 c2
          rw [if_neg c2] at k
          have c3 : ¬ (Int.tdiv (wu 62 u2.toNat) 10000) = 3 := c3
          have h := h.2 c3
          rw [if_neg c3] at k
          have c4 : ¬ (Int.tdiv (wu 62 u2.toNat) 10000) = 33 := c4
          have h := h.2 c4
          rw [if_neg c4] at k
          refine z_aload_n (pc' := 163) 0 rfl rfl dX4_weigh_162 rfl ?_
          refine z_invV (as := []) (st := []) (C := m_X4_pop) (fs := [64, 65, 0, 0]) (pc' := 166) dX4_weigh_163 rfl t_4_101 k_X4_pop rfl (by decide) rfl rfl rfl rfl (Nat.le_of_ble_eq_true rfl) ?_
          obtain ⟨r41, h⟩ := h
          refine c_W_pop_61 r41 ?_
          show z_Wp m_X4_weigh _ 166 [(0, zR 61), (1, zR 57), (2, zI u2), (3, zI (Int.tdiv (wu 62 u2.toNat) 10000)), (4, zI (Int.tmod (wu 62 u2.toNat) 10000))] [zI ((F_W_pop_61 wu).1)] ((F_W_pop_61 wu).2) _
          refine z_istore (pc' := 168) (ls' := [(0, zR 61), (1, zR 57), (2, zI u2), (3, zI (Int.tdiv (wu 62 u2.toNat) 10000)), (4, zI (Int.tmod (wu 62 u2.toNat) 10000)), (5, zI ((F_W_pop_61 wu).1))]) (by decide) rfl rfl dX4_weigh_166 rfl ?_
          refine z_aload_n (pc' := 169) 0 rfl rfl dX4_weigh_168 rfl ?_
          refine z_iload_n (pc' := 170) 3 rfl rfl dX4_weigh_169 rfl ?_
          refine z_aload_n (pc' := 171) 0 rfl rfl dX4_weigh_170 rfl ?_
          refine z_invV (as := []) (st := [zI (Int.tdiv (wu 62 u2.toNat) 10000), zR 61]) (C := m_X4_pop) (fs := [64, 65, 0, 0]) (pc' := 174) dX4_weigh_171 rfl t_4_101 k_X4_pop rfl (by decide) rfl rfl rfl rfl (Nat.le_of_ble_eq_true rfl) ?_
          obtain ⟨r42, h⟩ := h
          refine c_W_pop_61 r42 ?_
          show z_Wp m_X4_weigh _ 174 [(0, zR 61), (1, zR 57), (2, zI u2), (3, zI (Int.tdiv (wu 62 u2.toNat) 10000)), (4, zI (Int.tmod (wu 62 u2.toNat) 10000)), (5, zI ((F_W_pop_61 wu).1))] [zI ((F_W_pop_61 ((F_W_pop_61 wu).2)).1), zI (Int.tdiv (wu 62 u2.toNat) 10000), zR 61] ((F_W_pop_61 ((F_W_pop_61 wu).2)).2) _
          refine z_iload (pc' := 176) 5 rfl dX4_weigh_174 rfl ?_
          refine z_invS (as := [zI (Int.tdiv (wu 62 u2.toNat) 10000), zI ((F_W_pop_61 ((F_W_pop_61 wu).2)).1), zI ((F_W_pop_61 wu).1)]) (st := [zR 61]) (C := m_X4_join) (pc' := 179) dX4_weigh_176 rfl t_4_108 k_X4_join rfl rfl (Nat.le_of_ble_eq_true rfl) ?_
          obtain ⟨r43, h⟩ := h
          refine c_W_join r43 ?_
          show z_Wp m_X4_weigh _ 179 [(0, zR 61), (1, zR 57), (2, zI u2), (3, zI (Int.tdiv (wu 62 u2.toNat) 10000)), (4, zI (Int.tmod (wu 62 u2.toNat) 10000)), (5, zI ((F_W_pop_61 wu).1))] [zI (F_W_join ((F_W_pop_61 ((F_W_pop_61 wu).2)).2) (Int.tdiv (wu 62 u2.toNat) 10000) ((F_W_pop_61 ((F_W_pop_61 wu).2)).1) ((F_W_pop_61 wu).1)), zR 61] ((F_W_pop_61 ((F_W_pop_61 wu).2)).2) _
          refine z_invV (as := [zI (F_W_join ((F_W_pop_61 ((F_W_pop_61 wu).2)).2) (Int.tdiv (wu 62 u2.toNat) 10000) ((F_W_pop_61 ((F_W_pop_61 wu).2)).1) ((F_W_pop_61 wu).1))]) (st := []) (C := m_X4_push) (fs := [64, 65, 0, 0]) (pc' := 182) dX4_weigh_179 rfl t_4_97 k_X4_push rfl (by decide) rfl rfl rfl rfl (Nat.le_of_ble_eq_true rfl) ?_
          obtain ⟨r44, h⟩ := h
          refine c_W_push_61 r44 ?_
          show z_Wp m_X4_weigh _ 182 [(0, zR 61), (1, zR 57), (2, zI u2), (3, zI (Int.tdiv (wu 62 u2.toNat) 10000)), (4, zI (Int.tmod (wu 62 u2.toNat) 10000)), (5, zI ((F_W_pop_61 wu).1))] [] (F_W_push_61 ((F_W_pop_61 ((F_W_pop_61 wu).2)).2) (F_W_join ((F_W_pop_61 ((F_W_pop_61 wu).2)).2) (Int.tdiv (wu 62 u2.toNat) 10000) ((F_W_pop_61 ((F_W_pop_61 wu).2)).1) ((F_W_pop_61 wu).1))) _
          refine z_iinc (pc' := 185) (ls' := [(0, zR 61), (1, zR 57), (2, zI (u2 + 1)), (3, zI (Int.tdiv (wu 62 u2.toNat) 10000)), (4, zI (Int.tmod (wu 62 u2.toNat) 10000)), (5, zI ((F_W_pop_61 wu).1))]) 2 rfl (by decide) rfl rfl dX4_weigh_182 rfl ?_
          refine z_goto 7 dX4_weigh_185 (by decide) ?_
          exact z_Wp.sub (ls' := [(0, zR 61), (1, zR 57), (2, zI (u2 + 1))]) (ih _ _ h k) (z_sub_of [0, 1, 2] rfl)
  exact hl 300 _ _ h k
def L_W_weigh_64_57_7 (w : z_Wd)   : Nat → Int → z_Wd → Int × z_Wd
  | 0, _, _ => (0, w)
  | m9 + 1, u2, wu => if u2 ≥ wu 64 2 then (0, wu) else if Int.tdiv (wu 65 u2.toNat) 10000 = 0 then L_W_weigh_64_57_7 w m9 (u2 + 1) (F_W_push_64 wu (Int.tmod (wu 65 u2.toNat) 10000)) else if Int.tdiv (wu 65 u2.toNat) 10000 = 1 then if Int.tmod (wu 65 u2.toNat) 10000 ≥ 6 then L_W_weigh_64_57_7 w m9 (u2 + 1) (F_W_push_64 wu 0) else L_W_weigh_64_57_7 w m9 (u2 + 1) (F_W_push_64 wu (wu 57 ((Int.tmod (wu 65 u2.toNat) 10000).toNat))) else if Int.tdiv (wu 65 u2.toNat) 10000 = 2 then ((F_W_pop_64 wu).1, (F_W_pop_64 wu).2) else if Int.tdiv (wu 65 u2.toNat) 10000 = 3 then if (F_W_pop_64 wu).1 = 0 then L_W_weigh_64_57_7 w m9 ((F_J_max_7cf53 ((F_W_pop_64 wu).2) u2 ((Int.tmod (wu 65 u2.toNat) 10000) - 1)) + 1) ((F_W_pop_64 wu).2) else L_W_weigh_64_57_7 w m9 (u2 + 1) ((F_W_pop_64 wu).2) else if Int.tdiv (wu 65 u2.toNat) 10000 = 33 then if (F_W_pop_64 wu).1 = 0 then L_W_weigh_64_57_7 w m9 (u2 + 1) (F_W_push_64 ((F_W_pop_64 wu).2) 1) else L_W_weigh_64_57_7 w m9 (u2 + 1) (F_W_push_64 ((F_W_pop_64 wu).2) 0) else L_W_weigh_64_57_7 w m9 (u2 + 1) (F_W_push_64 ((F_W_pop_64 ((F_W_pop_64 wu).2)).2) (F_W_join ((F_W_pop_64 ((F_W_pop_64 wu).2)).2) (Int.tdiv (wu 65 u2.toNat) 10000) ((F_W_pop_64 ((F_W_pop_64 wu).2)).1) ((F_W_pop_64 wu).1)))
def PL_W_weigh_64_57_7 (w : z_Wd)   : Nat → Int → z_Wd → Prop
  | 0, _, _ => False
  | m9 + 1, u2, wu => (-2147483648 ≤ u2 ∧ u2 < 2147483648) ∧ (-2147483648 ≤ wu 64 2 ∧ wu 64 2 < 2147483648) ∧ ((u2 ≥ wu 64 2 → True) ∧ (¬ (u2 ≥ wu 64 2) → (0 ≤ u2 ∧ u2 < 240) ∧ (-2147483648 ≤ wu 65 u2.toNat ∧ wu 65 u2.toNat < 2147483648) ∧ (-2147483648 ≤ Int.tdiv (wu 65 u2.toNat) 10000 ∧ Int.tdiv (wu 65 u2.toNat) 10000 < 2147483648) ∧ ((Int.tdiv (wu 65 u2.toNat) 10000 = 0 → (P_W_push_64 wu (Int.tmod (wu 65 u2.toNat) 10000)) ∧ (PL_W_weigh_64_57_7 w m9 (u2 + 1) (F_W_push_64 wu (Int.tmod (wu 65 u2.toNat) 10000)))) ∧ (¬ (Int.tdiv (wu 65 u2.toNat) 10000) = 0 → (Int.tdiv (wu 65 u2.toNat) 10000 = 1 → (-2147483648 ≤ Int.tmod (wu 65 u2.toNat) 10000 ∧ Int.tmod (wu 65 u2.toNat) 10000 < 2147483648) ∧ ((Int.tmod (wu 65 u2.toNat) 10000 ≥ 6 → (P_W_push_64 wu 0) ∧ (PL_W_weigh_64_57_7 w m9 (u2 + 1) (F_W_push_64 wu 0))) ∧ (¬ (Int.tmod (wu 65 u2.toNat) 10000 ≥ 6) → (0 ≤ Int.tmod (wu 65 u2.toNat) 10000 ∧ Int.tmod (wu 65 u2.toNat) 10000 < 6) ∧ (P_W_push_64 wu (wu 57 ((Int.tmod (wu 65 u2.toNat) 10000).toNat))) ∧ (PL_W_weigh_64_57_7 w m9 (u2 + 1) (F_W_push_64 wu (wu 57 ((Int.tmod (wu 65 u2.toNat) 10000).toNat))))))) ∧ (¬ (Int.tdiv (wu 65 u2.toNat) 10000) = 1 → (Int.tdiv (wu 65 u2.toNat) 10000 = 2 → P_W_pop_64 wu) ∧ (¬ (Int.tdiv (wu 65 u2.toNat) 10000) = 2 → (Int.tdiv (wu 65 u2.toNat) 10000 = 3 → (P_W_pop_64 wu) ∧ (-2147483648 ≤ (F_W_pop_64 wu).1 ∧ (F_W_pop_64 wu).1 < 2147483648) ∧ (((F_W_pop_64 wu).1 = 0 → (P_J_max_7cf53 ((F_W_pop_64 wu).2) u2 ((Int.tmod (wu 65 u2.toNat) 10000) - 1)) ∧ (PL_W_weigh_64_57_7 w m9 ((F_J_max_7cf53 ((F_W_pop_64 wu).2) u2 ((Int.tmod (wu 65 u2.toNat) 10000) - 1)) + 1) ((F_W_pop_64 wu).2))) ∧ (¬ ((F_W_pop_64 wu).1 = 0) → PL_W_weigh_64_57_7 w m9 (u2 + 1) ((F_W_pop_64 wu).2)))) ∧ (¬ (Int.tdiv (wu 65 u2.toNat) 10000) = 3 → (Int.tdiv (wu 65 u2.toNat) 10000 = 33 → (P_W_pop_64 wu) ∧ (-2147483648 ≤ (F_W_pop_64 wu).1 ∧ (F_W_pop_64 wu).1 < 2147483648) ∧ (((F_W_pop_64 wu).1 = 0 → (P_W_push_64 ((F_W_pop_64 wu).2) 1) ∧ (PL_W_weigh_64_57_7 w m9 (u2 + 1) (F_W_push_64 ((F_W_pop_64 wu).2) 1))) ∧ (¬ ((F_W_pop_64 wu).1 = 0) → (P_W_push_64 ((F_W_pop_64 wu).2) 0) ∧ (PL_W_weigh_64_57_7 w m9 (u2 + 1) (F_W_push_64 ((F_W_pop_64 wu).2) 0))))) ∧ (¬ (Int.tdiv (wu 65 u2.toNat) 10000) = 33 → (P_W_pop_64 wu) ∧ (P_W_pop_64 ((F_W_pop_64 wu).2)) ∧ (P_W_join ((F_W_pop_64 ((F_W_pop_64 wu).2)).2) (Int.tdiv (wu 65 u2.toNat) 10000) ((F_W_pop_64 ((F_W_pop_64 wu).2)).1) ((F_W_pop_64 wu).1)) ∧ (P_W_push_64 ((F_W_pop_64 ((F_W_pop_64 wu).2)).2) (F_W_join ((F_W_pop_64 ((F_W_pop_64 wu).2)).2) (Int.tdiv (wu 65 u2.toNat) 10000) ((F_W_pop_64 ((F_W_pop_64 wu).2)).1) ((F_W_pop_64 wu).1))) ∧ (PL_W_weigh_64_57_7 w m9 (u2 + 1) (F_W_push_64 ((F_W_pop_64 ((F_W_pop_64 wu).2)).2) (F_W_join ((F_W_pop_64 ((F_W_pop_64 wu).2)).2) (Int.tdiv (wu 65 u2.toNat) 10000) ((F_W_pop_64 ((F_W_pop_64 wu).2)).1) ((F_W_pop_64 wu).1))))))))))))
def P_W_weigh_64_57 (w : z_Wd)  : Prop := PL_W_weigh_64_57_7 w 300 0 (z_up w 64 3 0)
def F_W_weigh_64_57 (w : z_Wd)  : Int × z_Wd := L_W_weigh_64_57_7 w 300 0 (z_up w 64 3 0)
set_option maxRecDepth 4000 in
theorem c_W_weigh_64_57 {d : Nat} {w : z_Wd} {Q : Option z_V → z_Wd → Prop} (h : P_W_weigh_64_57 w ) (k : Q (some (zI (F_W_weigh_64_57 w ).1)) (F_W_weigh_64_57 w ).2) : z_Wc (d + 3) m_X4_weigh [zR 64, zR 57] w Q := by
  unfold P_W_weigh_64_57 at h
  unfold F_W_weigh_64_57 at k
  refine z_enter rfl (Nat.le_of_ble_eq_true rfl) ?_
  show z_Wp m_X4_weigh _ 0 [(0, zR 64), (1, zR 57)] [] w _
  refine z_aload_n (pc' := 1) 0 rfl rfl dX4_weigh_0 rfl ?_
  refine z_iconst (pc' := 2) dX4_weigh_1 rfl ?_
  refine z_putI (pc' := 5) p_X4_28 (by decide) rfl rfl rfl rfl dX4_weigh_2 rfl ?_
  refine z_iconst (pc' := 6) dX4_weigh_5 rfl ?_
  refine z_istore_n (pc' := 7) (ls' := [(0, zR 64), (1, zR 57), (2, zI 0)]) rfl (by decide) rfl rfl dX4_weigh_6 rfl ?_
  have hl : ∀ (m9 : Nat) (u2 : Int) (wu : z_Wd), PL_W_weigh_64_57_7 w m9 u2 wu → Q (some (zI (L_W_weigh_64_57_7 w m9 u2 wu).1)) (L_W_weigh_64_57_7 w m9 u2 wu).2 → z_Wp m_X4_weigh (d + 3) 7 [(0, zR 64), (1, zR 57), (2, zI u2)] [] wu Q := by
    clear h k
    intro m9
    induction m9 with
    | zero => intro u2 wu h k; exact False.elim h
    | succ m9 ih =>
      intro u2 wu h k
      have h : (-2147483648 ≤ u2 ∧ u2 < 2147483648) ∧ (-2147483648 ≤ wu 64 2 ∧ wu 64 2 < 2147483648) ∧ ((u2 ≥ wu 64 2 → True) ∧ (¬ (u2 ≥ wu 64 2) → (0 ≤ u2 ∧ u2 < 240) ∧ (-2147483648 ≤ wu 65 u2.toNat ∧ wu 65 u2.toNat < 2147483648) ∧ (-2147483648 ≤ Int.tdiv (wu 65 u2.toNat) 10000 ∧ Int.tdiv (wu 65 u2.toNat) 10000 < 2147483648) ∧ ((Int.tdiv (wu 65 u2.toNat) 10000 = 0 → (P_W_push_64 wu (Int.tmod (wu 65 u2.toNat) 10000)) ∧ (PL_W_weigh_64_57_7 w m9 (u2 + 1) (F_W_push_64 wu (Int.tmod (wu 65 u2.toNat) 10000)))) ∧ (¬ (Int.tdiv (wu 65 u2.toNat) 10000) = 0 → (Int.tdiv (wu 65 u2.toNat) 10000 = 1 → (-2147483648 ≤ Int.tmod (wu 65 u2.toNat) 10000 ∧ Int.tmod (wu 65 u2.toNat) 10000 < 2147483648) ∧ ((Int.tmod (wu 65 u2.toNat) 10000 ≥ 6 → (P_W_push_64 wu 0) ∧ (PL_W_weigh_64_57_7 w m9 (u2 + 1) (F_W_push_64 wu 0))) ∧ (¬ (Int.tmod (wu 65 u2.toNat) 10000 ≥ 6) → (0 ≤ Int.tmod (wu 65 u2.toNat) 10000 ∧ Int.tmod (wu 65 u2.toNat) 10000 < 6) ∧ (P_W_push_64 wu (wu 57 ((Int.tmod (wu 65 u2.toNat) 10000).toNat))) ∧ (PL_W_weigh_64_57_7 w m9 (u2 + 1) (F_W_push_64 wu (wu 57 ((Int.tmod (wu 65 u2.toNat) 10000).toNat))))))) ∧ (¬ (Int.tdiv (wu 65 u2.toNat) 10000) = 1 → (Int.tdiv (wu 65 u2.toNat) 10000 = 2 → P_W_pop_64 wu) ∧ (¬ (Int.tdiv (wu 65 u2.toNat) 10000) = 2 → (Int.tdiv (wu 65 u2.toNat) 10000 = 3 → (P_W_pop_64 wu) ∧ (-2147483648 ≤ (F_W_pop_64 wu).1 ∧ (F_W_pop_64 wu).1 < 2147483648) ∧ (((F_W_pop_64 wu).1 = 0 → (P_J_max_7cf53 ((F_W_pop_64 wu).2) u2 ((Int.tmod (wu 65 u2.toNat) 10000) - 1)) ∧ (PL_W_weigh_64_57_7 w m9 ((F_J_max_7cf53 ((F_W_pop_64 wu).2) u2 ((Int.tmod (wu 65 u2.toNat) 10000) - 1)) + 1) ((F_W_pop_64 wu).2))) ∧ (¬ ((F_W_pop_64 wu).1 = 0) → PL_W_weigh_64_57_7 w m9 (u2 + 1) ((F_W_pop_64 wu).2)))) ∧ (¬ (Int.tdiv (wu 65 u2.toNat) 10000) = 3 → (Int.tdiv (wu 65 u2.toNat) 10000 = 33 → (P_W_pop_64 wu) ∧ (-2147483648 ≤ (F_W_pop_64 wu).1 ∧ (F_W_pop_64 wu).1 < 2147483648) ∧ (((F_W_pop_64 wu).1 = 0 → (P_W_push_64 ((F_W_pop_64 wu).2) 1) ∧ (PL_W_weigh_64_57_7 w m9 (u2 + 1) (F_W_push_64 ((F_W_pop_64 wu).2) 1))) ∧ (¬ ((F_W_pop_64 wu).1 = 0) → (P_W_push_64 ((F_W_pop_64 wu).2) 0) ∧ (PL_W_weigh_64_57_7 w m9 (u2 + 1) (F_W_push_64 ((F_W_pop_64 wu).2) 0))))) ∧ (¬ (Int.tdiv (wu 65 u2.toNat) 10000) = 33 → (P_W_pop_64 wu) ∧ (P_W_pop_64 ((F_W_pop_64 wu).2)) ∧ (P_W_join ((F_W_pop_64 ((F_W_pop_64 wu).2)).2) (Int.tdiv (wu 65 u2.toNat) 10000) ((F_W_pop_64 ((F_W_pop_64 wu).2)).1) ((F_W_pop_64 wu).1)) ∧ (P_W_push_64 ((F_W_pop_64 ((F_W_pop_64 wu).2)).2) (F_W_join ((F_W_pop_64 ((F_W_pop_64 wu).2)).2) (Int.tdiv (wu 65 u2.toNat) 10000) ((F_W_pop_64 ((F_W_pop_64 wu).2)).1) ((F_W_pop_64 wu).1))) ∧ (PL_W_weigh_64_57_7 w m9 (u2 + 1) (F_W_push_64 ((F_W_pop_64 ((F_W_pop_64 wu).2)).2) (F_W_join ((F_W_pop_64 ((F_W_pop_64 wu).2)).2) (Int.tdiv (wu 65 u2.toNat) 10000) ((F_W_pop_64 ((F_W_pop_64 wu).2)).1) ((F_W_pop_64 wu).1)))))))))))) := h
      have k : Q (some (zI (if u2 ≥ wu 64 2 then (0, wu) else if Int.tdiv (wu 65 u2.toNat) 10000 = 0 then L_W_weigh_64_57_7 w m9 (u2 + 1) (F_W_push_64 wu (Int.tmod (wu 65 u2.toNat) 10000)) else if Int.tdiv (wu 65 u2.toNat) 10000 = 1 then if Int.tmod (wu 65 u2.toNat) 10000 ≥ 6 then L_W_weigh_64_57_7 w m9 (u2 + 1) (F_W_push_64 wu 0) else L_W_weigh_64_57_7 w m9 (u2 + 1) (F_W_push_64 wu (wu 57 ((Int.tmod (wu 65 u2.toNat) 10000).toNat))) else if Int.tdiv (wu 65 u2.toNat) 10000 = 2 then ((F_W_pop_64 wu).1, (F_W_pop_64 wu).2) else if Int.tdiv (wu 65 u2.toNat) 10000 = 3 then if (F_W_pop_64 wu).1 = 0 then L_W_weigh_64_57_7 w m9 ((F_J_max_7cf53 ((F_W_pop_64 wu).2) u2 ((Int.tmod (wu 65 u2.toNat) 10000) - 1)) + 1) ((F_W_pop_64 wu).2) else L_W_weigh_64_57_7 w m9 (u2 + 1) ((F_W_pop_64 wu).2) else if Int.tdiv (wu 65 u2.toNat) 10000 = 33 then if (F_W_pop_64 wu).1 = 0 then L_W_weigh_64_57_7 w m9 (u2 + 1) (F_W_push_64 ((F_W_pop_64 wu).2) 1) else L_W_weigh_64_57_7 w m9 (u2 + 1) (F_W_push_64 ((F_W_pop_64 wu).2) 0) else L_W_weigh_64_57_7 w m9 (u2 + 1) (F_W_push_64 ((F_W_pop_64 ((F_W_pop_64 wu).2)).2) (F_W_join ((F_W_pop_64 ((F_W_pop_64 wu).2)).2) (Int.tdiv (wu 65 u2.toNat) 10000) ((F_W_pop_64 ((F_W_pop_64 wu).2)).1) ((F_W_pop_64 wu).1)))).1)) (if u2 ≥ wu 64 2 then (0, wu) else if Int.tdiv (wu 65 u2.toNat) 10000 = 0 then L_W_weigh_64_57_7 w m9 (u2 + 1) (F_W_push_64 wu (Int.tmod (wu 65 u2.toNat) 10000)) else if Int.tdiv (wu 65 u2.toNat) 10000 = 1 then if Int.tmod (wu 65 u2.toNat) 10000 ≥ 6 then L_W_weigh_64_57_7 w m9 (u2 + 1) (F_W_push_64 wu 0) else L_W_weigh_64_57_7 w m9 (u2 + 1) (F_W_push_64 wu (wu 57 ((Int.tmod (wu 65 u2.toNat) 10000).toNat))) else if Int.tdiv (wu 65 u2.toNat) 10000 = 2 then ((F_W_pop_64 wu).1, (F_W_pop_64 wu).2) else if Int.tdiv (wu 65 u2.toNat) 10000 = 3 then if (F_W_pop_64 wu).1 = 0 then L_W_weigh_64_57_7 w m9 ((F_J_max_7cf53 ((F_W_pop_64 wu).2) u2 ((Int.tmod (wu 65 u2.toNat) 10000) - 1)) + 1) ((F_W_pop_64 wu).2) else L_W_weigh_64_57_7 w m9 (u2 + 1) ((F_W_pop_64 wu).2) else if Int.tdiv (wu 65 u2.toNat) 10000 = 33 then if (F_W_pop_64 wu).1 = 0 then L_W_weigh_64_57_7 w m9 (u2 + 1) (F_W_push_64 ((F_W_pop_64 wu).2) 1) else L_W_weigh_64_57_7 w m9 (u2 + 1) (F_W_push_64 ((F_W_pop_64 wu).2) 0) else L_W_weigh_64_57_7 w m9 (u2 + 1) (F_W_push_64 ((F_W_pop_64 ((F_W_pop_64 wu).2)).2) (F_W_join ((F_W_pop_64 ((F_W_pop_64 wu).2)).2) (Int.tdiv (wu 65 u2.toNat) 10000) ((F_W_pop_64 ((F_W_pop_64 wu).2)).1) ((F_W_pop_64 wu).1)))).2 := k
      refine z_iload_n (pc' := 8) 2 rfl rfl dX4_weigh_7 rfl ?_
      refine z_aload_n (pc' := 9) 0 rfl rfl dX4_weigh_8 rfl ?_
      refine z_getI2 (v := wu 64 2) (pc' := 12) g_X4_18 (by decide) rfl rfl rfl dX4_weigh_9 rfl ?_
      obtain ⟨r23, h⟩ := h
      obtain ⟨r24, h⟩ := h
      refine z_icmp_ge 188 dX4_weigh_12 (by decide) (pc' := 15) rfl r23 r24 (fun c => ?_) (fun c => ?_)
      · have h := h.1 c
        rw [if_pos c] at k
        refine z_iconst (pc' := 189) dX4_weigh_188 rfl ?_
        refine z_iret rfl dX4_weigh_189 ?_
        exact k
      · have h := h.2 c
        rw [if_neg c] at k
        refine z_aload_n (pc' := 16) 0 rfl rfl dX4_weigh_15 rfl ?_
        refine z_getR (t := 65) (pc' := 19) g_X4_11 (by decide) rfl rfl dX4_weigh_16 rfl ?_
        refine z_iload_n (pc' := 20) 2 rfl rfl dX4_weigh_19 rfl ?_
        obtain ⟨r25, h⟩ := h
        refine z_iald2 (v := wu 65 u2.toNat) (pc' := 21) (by decide) rfl r25 (by decide) rfl dX4_weigh_20 rfl ?_
        refine z_sipush (pc' := 24) (by decide) dX4_weigh_21 rfl ?_
        obtain ⟨r26, h⟩ := h
        refine z_idiv (pc' := 25) r26 (by decide) (by decide) dX4_weigh_24 rfl ?_
        refine z_istore_n (pc' := 26) (ls' := [(0, zR 64), (1, zR 57), (2, zI u2), (3, zI (Int.tdiv (wu 65 u2.toNat) 10000))]) rfl (by decide) rfl rfl dX4_weigh_25 rfl ?_
        refine z_aload_n (pc' := 27) 0 rfl rfl dX4_weigh_26 rfl ?_
        refine z_getR (t := 65) (pc' := 30) g_X4_11 (by decide) rfl rfl dX4_weigh_27 rfl ?_
        refine z_iload_n (pc' := 31) 2 rfl rfl dX4_weigh_30 rfl ?_
        refine z_iald2 (v := wu 65 u2.toNat) (pc' := 32) (by decide) rfl r25 (by decide) rfl dX4_weigh_31 rfl ?_
        refine z_sipush (pc' := 35) (by decide) dX4_weigh_32 rfl ?_
        refine z_irem (pc' := 36) r26 (by decide) (by decide) dX4_weigh_35 rfl ?_
        refine z_istore (pc' := 38) (ls' := [(0, zR 64), (1, zR 57), (2, zI u2), (3, zI (Int.tdiv (wu 65 u2.toNat) 10000)), (4, zI (Int.tmod (wu 65 u2.toNat) 10000))]) (by decide) rfl rfl dX4_weigh_36 rfl ?_
        refine z_iload_n (pc' := 39) 3 rfl rfl dX4_weigh_38 rfl ?_
        obtain ⟨r27, h⟩ := h
        refine z_lookup dX4_weigh_39 (by decide) r27 ⟨fun c0 => ⟨88, by decide, ?_⟩, fun c0 => ⟨fun c1 => ⟨97, by decide, ?_⟩, fun c1 => ⟨fun c2 => ⟨119, by decide, ?_⟩, fun c2 => ⟨fun c3 => ⟨124, by decide, ?_⟩, fun c3 => ⟨fun c4 => ⟨143, by decide, ?_⟩, fun c4 => ⟨162, by decide, ?_⟩⟩⟩⟩⟩⟩
        · skip
          have c0 : Int.tdiv (wu 65 u2.toNat) 10000 = 0 := c0
          have h := h.1 c0
          rw [if_pos c0] at k
          refine z_aload_n (pc' := 89) 0 rfl rfl dX4_weigh_88 rfl ?_
          refine z_iload (pc' := 91) 4 rfl dX4_weigh_89 rfl ?_
          refine z_invV (as := [zI (Int.tmod (wu 65 u2.toNat) 10000)]) (st := []) (C := m_X4_push) (fs := [67, 68, 0, 0]) (pc' := 94) dX4_weigh_91 rfl t_4_97 k_X4_push rfl (by decide) rfl rfl rfl rfl (Nat.le_of_ble_eq_true rfl) ?_
          obtain ⟨r28, h⟩ := h
          refine c_W_push_64 r28 ?_
          show z_Wp m_X4_weigh _ 94 [(0, zR 64), (1, zR 57), (2, zI u2), (3, zI (Int.tdiv (wu 65 u2.toNat) 10000)), (4, zI (Int.tmod (wu 65 u2.toNat) 10000))] [] (F_W_push_64 wu (Int.tmod (wu 65 u2.toNat) 10000)) _
          refine z_goto 182 dX4_weigh_94 (by decide) ?_
          refine z_iinc (pc' := 185) (ls' := [(0, zR 64), (1, zR 57), (2, zI (u2 + 1)), (3, zI (Int.tdiv (wu 65 u2.toNat) 10000)), (4, zI (Int.tmod (wu 65 u2.toNat) 10000))]) 2 rfl (by decide) rfl rfl dX4_weigh_182 rfl ?_
          refine z_goto 7 dX4_weigh_185 (by decide) ?_
          exact z_Wp.sub (ls' := [(0, zR 64), (1, zR 57), (2, zI (u2 + 1))]) (ih _ _ h k) (z_sub_of [0, 1, 2] rfl)
        · skip
          have c0 : ¬ (Int.tdiv (wu 65 u2.toNat) 10000) = 0 := c0
          have h := h.2 c0
          rw [if_neg c0] at k
          have c1 : Int.tdiv (wu 65 u2.toNat) 10000 = 1 := c1
          have h := h.1 c1
          rw [if_pos c1] at k
          refine z_aload_n (pc' := 98) 0 rfl rfl dX4_weigh_97 rfl ?_
          refine z_iload (pc' := 100) 4 rfl dX4_weigh_98 rfl ?_
          refine z_aload_n (pc' := 101) 1 rfl rfl dX4_weigh_100 rfl ?_
          refine z_alen2 (v := 6) (pc' := 102) (by decide) rfl rfl dX4_weigh_101 rfl ?_
          obtain ⟨r29, h⟩ := h
          refine z_icmp_ge 112 dX4_weigh_102 (by decide) (pc' := 105) rfl r29 (by decide) (fun c => ?_) (fun c => ?_)
          · have h := h.1 c
            rw [if_pos c] at k
            refine z_iconst (pc' := 113) dX4_weigh_112 rfl ?_
            refine z_invV (as := [zI 0]) (st := []) (C := m_X4_push) (fs := [67, 68, 0, 0]) (pc' := 116) dX4_weigh_113 rfl t_4_97 k_X4_push rfl (by decide) rfl rfl rfl rfl (Nat.le_of_ble_eq_true rfl) ?_
            obtain ⟨r30, h⟩ := h
            refine c_W_push_64 r30 ?_
            show z_Wp m_X4_weigh _ 116 [(0, zR 64), (1, zR 57), (2, zI u2), (3, zI (Int.tdiv (wu 65 u2.toNat) 10000)), (4, zI (Int.tmod (wu 65 u2.toNat) 10000))] [] (F_W_push_64 wu 0) _
            refine z_goto 182 dX4_weigh_116 (by decide) ?_
            refine z_iinc (pc' := 185) (ls' := [(0, zR 64), (1, zR 57), (2, zI (u2 + 1)), (3, zI (Int.tdiv (wu 65 u2.toNat) 10000)), (4, zI (Int.tmod (wu 65 u2.toNat) 10000))]) 2 rfl (by decide) rfl rfl dX4_weigh_182 rfl ?_
            refine z_goto 7 dX4_weigh_185 (by decide) ?_
            exact z_Wp.sub (ls' := [(0, zR 64), (1, zR 57), (2, zI (u2 + 1))]) (ih _ _ h k) (z_sub_of [0, 1, 2] rfl)
          · have h := h.2 c
            rw [if_neg c] at k
            refine z_aload_n (pc' := 106) 1 rfl rfl dX4_weigh_105 rfl ?_
            refine z_iload (pc' := 108) 4 rfl dX4_weigh_106 rfl ?_
            obtain ⟨r31, h⟩ := h
            refine z_iald2 (v := wu 57 ((Int.tmod (wu 65 u2.toNat) 10000).toNat)) (pc' := 109) (by decide) rfl r31 (by decide) rfl dX4_weigh_108 rfl ?_
            refine z_goto 113 dX4_weigh_109 (by decide) ?_
            refine z_invV (as := [zI (wu 57 ((Int.tmod (wu 65 u2.toNat) 10000).toNat))]) (st := []) (C := m_X4_push) (fs := [67, 68, 0, 0]) (pc' := 116) dX4_weigh_113 rfl t_4_97 k_X4_push rfl (by decide) rfl rfl rfl rfl (Nat.le_of_ble_eq_true rfl) ?_
            obtain ⟨r32, h⟩ := h
            refine c_W_push_64 r32 ?_
            show z_Wp m_X4_weigh _ 116 [(0, zR 64), (1, zR 57), (2, zI u2), (3, zI (Int.tdiv (wu 65 u2.toNat) 10000)), (4, zI (Int.tmod (wu 65 u2.toNat) 10000))] [] (F_W_push_64 wu (wu 57 ((Int.tmod (wu 65 u2.toNat) 10000).toNat))) _
            refine z_goto 182 dX4_weigh_116 (by decide) ?_
            refine z_iinc (pc' := 185) (ls' := [(0, zR 64), (1, zR 57), (2, zI (u2 + 1)), (3, zI (Int.tdiv (wu 65 u2.toNat) 10000)), (4, zI (Int.tmod (wu 65 u2.toNat) 10000))]) 2 rfl (by decide) rfl rfl dX4_weigh_182 rfl ?_
            refine z_goto 7 dX4_weigh_185 (by decide) ?_
            exact z_Wp.sub (ls' := [(0, zR 64), (1, zR 57), (2, zI (u2 + 1))]) (ih _ _ h k) (z_sub_of [0, 1, 2] rfl)
        · skip
          have c0 : ¬ (Int.tdiv (wu 65 u2.toNat) 10000) = 0 := c0
          have h := h.2 c0
          rw [if_neg c0] at k
          have c1 : ¬ (Int.tdiv (wu 65 u2.toNat) 10000) = 1 := c1
          have h := h.2 c1
          rw [if_neg c1] at k
          have c2 : Int.tdiv (wu 65 u2.toNat) 10000 = 2 := c2
          have h := h.1 c2
          rw [if_pos c2] at k
          refine z_aload_n (pc' := 120) 0 rfl rfl dX4_weigh_119 rfl ?_
          refine z_invV (as := []) (st := []) (C := m_X4_pop) (fs := [67, 68, 0, 0]) (pc' := 123) dX4_weigh_120 rfl t_4_101 k_X4_pop rfl (by decide) rfl rfl rfl rfl (Nat.le_of_ble_eq_true rfl) ?_
          have r33 := h
          refine c_W_pop_64 r33 ?_
          show z_Wp m_X4_weigh _ 123 [(0, zR 64), (1, zR 57), (2, zI u2), (3, zI (Int.tdiv (wu 65 u2.toNat) 10000)), (4, zI (Int.tmod (wu 65 u2.toNat) 10000))] [zI ((F_W_pop_64 wu).1)] ((F_W_pop_64 wu).2) _
          refine z_iret rfl dX4_weigh_123 ?_
          exact k
        · skip
          have c0 : ¬ (Int.tdiv (wu 65 u2.toNat) 10000) = 0 := c0
          have h := h.2 c0
          rw [if_neg c0] at k
          have c1 : ¬ (Int.tdiv (wu 65 u2.toNat) 10000) = 1 := c1
          have h := h.2 c1
          rw [if_neg c1] at k
          have c2 : ¬ (Int.tdiv (wu 65 u2.toNat) 10000) = 2 := c2
          have h := h.2 c2
          rw [if_neg c2] at k
          have c3 : Int.tdiv (wu 65 u2.toNat) 10000 = 3 := c3
          have h := h.1 c3
          rw [if_pos c3] at k
          refine z_aload_n (pc' := 125) 0 rfl rfl dX4_weigh_124 rfl ?_
          refine z_invV (as := []) (st := []) (C := m_X4_pop) (fs := [67, 68, 0, 0]) (pc' := 128) dX4_weigh_125 rfl t_4_101 k_X4_pop rfl (by decide) rfl rfl rfl rfl (Nat.le_of_ble_eq_true rfl) ?_
          obtain ⟨r34, h⟩ := h
          refine c_W_pop_64 r34 ?_
          show z_Wp m_X4_weigh _ 128 [(0, zR 64), (1, zR 57), (2, zI u2), (3, zI (Int.tdiv (wu 65 u2.toNat) 10000)), (4, zI (Int.tmod (wu 65 u2.toNat) 10000))] [zI ((F_W_pop_64 wu).1)] ((F_W_pop_64 wu).2) _
          obtain ⟨r35, h⟩ := h
          refine z_if_ne 182 dX4_weigh_128 (by decide) (pc' := 131) rfl r35 (fun c => ?_) (fun c => ?_)
          · have h := h.2 c
            rw [if_neg c] at k
            refine z_iinc (pc' := 185) (ls' := [(0, zR 64), (1, zR 57), (2, zI (u2 + 1)), (3, zI (Int.tdiv (wu 65 u2.toNat) 10000)), (4, zI (Int.tmod (wu 65 u2.toNat) 10000))]) 2 rfl (by decide) rfl rfl dX4_weigh_182 rfl ?_
            refine z_goto 7 dX4_weigh_185 (by decide) ?_
            exact z_Wp.sub (ls' := [(0, zR 64), (1, zR 57), (2, zI (u2 + 1))]) (ih _ _ h k) (z_sub_of [0, 1, 2] rfl)
          · have h := h.1 c
            rw [if_pos c] at k
            refine z_iload_n (pc' := 132) 2 rfl rfl dX4_weigh_131 rfl ?_
            refine z_iload (pc' := 134) 4 rfl dX4_weigh_132 rfl ?_
            refine z_iconst (pc' := 135) dX4_weigh_134 rfl ?_
            refine z_isub (pc' := 136) dX4_weigh_135 rfl ?_
            refine z_invS (as := [zI u2, zI ((Int.tmod (wu 65 u2.toNat) 10000) - 1)]) (st := []) (C := m_J9_max_7cf53) (pc' := 139) dX4_weigh_136 rfl t_4_105 k_J9_max_7cf53 rfl rfl (Nat.le_of_ble_eq_true rfl) ?_
            obtain ⟨r36, h⟩ := h
            refine c_J_max_7cf53 r36 ?_
            show z_Wp m_X4_weigh _ 139 [(0, zR 64), (1, zR 57), (2, zI u2), (3, zI (Int.tdiv (wu 65 u2.toNat) 10000)), (4, zI (Int.tmod (wu 65 u2.toNat) 10000))] [zI (F_J_max_7cf53 ((F_W_pop_64 wu).2) u2 ((Int.tmod (wu 65 u2.toNat) 10000) - 1))] ((F_W_pop_64 wu).2) _
            refine z_istore_n (pc' := 140) (ls' := [(0, zR 64), (1, zR 57), (2, zI (F_J_max_7cf53 ((F_W_pop_64 wu).2) u2 ((Int.tmod (wu 65 u2.toNat) 10000) - 1))), (3, zI (Int.tdiv (wu 65 u2.toNat) 10000)), (4, zI (Int.tmod (wu 65 u2.toNat) 10000))]) rfl (by decide) rfl rfl dX4_weigh_139 rfl ?_
            refine z_goto 182 dX4_weigh_140 (by decide) ?_
            refine z_iinc (pc' := 185) (ls' := [(0, zR 64), (1, zR 57), (2, zI ((F_J_max_7cf53 ((F_W_pop_64 wu).2) u2 ((Int.tmod (wu 65 u2.toNat) 10000) - 1)) + 1)), (3, zI (Int.tdiv (wu 65 u2.toNat) 10000)), (4, zI (Int.tmod (wu 65 u2.toNat) 10000))]) 2 rfl (by decide) rfl rfl dX4_weigh_182 rfl ?_
            refine z_goto 7 dX4_weigh_185 (by decide) ?_
            exact z_Wp.sub (ls' := [(0, zR 64), (1, zR 57), (2, zI ((F_J_max_7cf53 ((F_W_pop_64 wu).2) u2 ((Int.tmod (wu 65 u2.toNat) 10000) - 1)) + 1))]) (ih _ _ h k) (z_sub_of [0, 1, 2] rfl)
        · skip
          have c0 : ¬ (Int.tdiv (wu 65 u2.toNat) 10000) = 0 := c0
          have h := h.2 c0
          rw [if_neg c0] at k
          have c1 : ¬ (Int.tdiv (wu 65 u2.toNat) 10000) = 1 := c1
          have h := h.2 c1
          rw [if_neg c1] at k
          have c2 : ¬ (Int.tdiv (wu 65 u2.toNat) 10000) = 2 := c2
          have h := h.2 c2
          rw [if_neg c2] at k
          have c3 : ¬ (Int.tdiv (wu 65 u2.toNat) 10000) = 3 := c3
          have h := h.2 c3
          rw [if_neg c3] at k
          have c4 : Int.tdiv (wu 65 u2.toNat) 10000 = 33 := c4
          have h := h.1 c4
          rw [if_pos c4] at k
          refine z_aload_n (pc' := 144) 0 rfl rfl dX4_weigh_143 rfl ?_
          refine z_aload_n (pc' := 145) 0 rfl rfl dX4_weigh_144 rfl ?_
          refine z_invV (as := []) (st := [zR 64]) (C := m_X4_pop) (fs := [67, 68, 0, 0]) (pc' := 148) dX4_weigh_145 rfl t_4_101 k_X4_pop rfl (by decide) rfl rfl rfl rfl (Nat.le_of_ble_eq_true rfl) ?_
          obtain ⟨r37, h⟩ := h
          refine c_W_pop_64 r37 ?_
          show z_Wp m_X4_weigh _ 148 [(0, zR 64), (1, zR 57), (2, zI u2), (3, zI (Int.tdiv (wu 65 u2.toNat) 10000)), (4, zI (Int.tmod (wu 65 u2.toNat) 10000))] [zI ((F_W_pop_64 wu).1), zR 64] ((F_W_pop_64 wu).2) _
          obtain ⟨r38, h⟩ := h
          refine z_if_ne 155 dX4_weigh_148 (by decide) (pc' := 151) rfl r38 (fun c => ?_) (fun c => ?_)
          · have h := h.2 c
            rw [if_neg c] at k
            refine z_iconst (pc' := 156) dX4_weigh_155 rfl ?_
            refine z_invV (as := [zI 0]) (st := []) (C := m_X4_push) (fs := [67, 68, 0, 0]) (pc' := 159) dX4_weigh_156 rfl t_4_97 k_X4_push rfl (by decide) rfl rfl rfl rfl (Nat.le_of_ble_eq_true rfl) ?_
            obtain ⟨r39, h⟩ := h
            refine c_W_push_64 r39 ?_
            show z_Wp m_X4_weigh _ 159 [(0, zR 64), (1, zR 57), (2, zI u2), (3, zI (Int.tdiv (wu 65 u2.toNat) 10000)), (4, zI (Int.tmod (wu 65 u2.toNat) 10000))] [] (F_W_push_64 ((F_W_pop_64 wu).2) 0) _
            refine z_goto 182 dX4_weigh_159 (by decide) ?_
            refine z_iinc (pc' := 185) (ls' := [(0, zR 64), (1, zR 57), (2, zI (u2 + 1)), (3, zI (Int.tdiv (wu 65 u2.toNat) 10000)), (4, zI (Int.tmod (wu 65 u2.toNat) 10000))]) 2 rfl (by decide) rfl rfl dX4_weigh_182 rfl ?_
            refine z_goto 7 dX4_weigh_185 (by decide) ?_
            exact z_Wp.sub (ls' := [(0, zR 64), (1, zR 57), (2, zI (u2 + 1))]) (ih _ _ h k) (z_sub_of [0, 1, 2] rfl)
          · have h := h.1 c
            rw [if_pos c] at k
            refine z_iconst (pc' := 152) dX4_weigh_151 rfl ?_
            refine z_goto 156 dX4_weigh_152 (by decide) ?_
            refine z_invV (as := [zI 1]) (st := []) (C := m_X4_push) (fs := [67, 68, 0, 0]) (pc' := 159) dX4_weigh_156 rfl t_4_97 k_X4_push rfl (by decide) rfl rfl rfl rfl (Nat.le_of_ble_eq_true rfl) ?_
            obtain ⟨r40, h⟩ := h
            refine c_W_push_64 r40 ?_
            show z_Wp m_X4_weigh _ 159 [(0, zR 64), (1, zR 57), (2, zI u2), (3, zI (Int.tdiv (wu 65 u2.toNat) 10000)), (4, zI (Int.tmod (wu 65 u2.toNat) 10000))] [] (F_W_push_64 ((F_W_pop_64 wu).2) 1) _
            refine z_goto 182 dX4_weigh_159 (by decide) ?_
            refine z_iinc (pc' := 185) (ls' := [(0, zR 64), (1, zR 57), (2, zI (u2 + 1)), (3, zI (Int.tdiv (wu 65 u2.toNat) 10000)), (4, zI (Int.tmod (wu 65 u2.toNat) 10000))]) 2 rfl (by decide) rfl rfl dX4_weigh_182 rfl ?_
            refine z_goto 7 dX4_weigh_185 (by decide) ?_
            exact z_Wp.sub (ls' := [(0, zR 64), (1, zR 57), (2, zI (u2 + 1))]) (ih _ _ h k) (z_sub_of [0, 1, 2] rfl)
        · skip
          have c0 : ¬ (Int.tdiv (wu 65 u2.toNat) 10000) = 0 := c0
          have h := h.2 c0
          rw [if_neg c0] at k
          have c1 : ¬ (Int.tdiv (wu 65 u2.toNat) 10000) = 1 := c1
          have h := h.2 c1
          rw [if_neg c1] at k
          have c2 : ¬ (Int.tdiv (wu 65 u2.toNat) 10000) = 2 := c2
          have h := h.2 c2
          rw [if_neg c2] at k
          have c3 : ¬ (Int.tdiv (wu 65 u2.toNat) 10000) = 3 := c3
          have h := h.2 c3
          rw [if_neg c3] at k
          have c4 : ¬ (Int.tdiv (wu 65 u2.toNat) 10000) = 33 := c4
          have h := h.2 c4
          rw [if_neg c4] at k
          refine z_aload_n (pc' := 163) 0 rfl rfl dX4_weigh_162 rfl ?_
          refine z_invV (as := []) (st := []) (C := m_X4_pop) (fs := [67, 68, 0, 0]) (pc' := 166) dX4_weigh_163 rfl t_4_101 k_X4_pop rfl (by decide) rfl rfl rfl rfl (Nat.le_of_ble_eq_true rfl) ?_
          obtain ⟨r41, h⟩ := h
          refine c_W_pop_64 r41 ?_
          show z_Wp m_X4_weigh _ 166 [(0, zR 64), (1, zR 57), (2, zI u2), (3, zI (Int.tdiv (wu 65 u2.toNat) 10000)), (4, zI (Int.tmod (wu 65 u2.toNat) 10000))] [zI ((F_W_pop_64 wu).1)] ((F_W_pop_64 wu).2) _
          refine z_istore (pc' := 168) (ls' := [(0, zR 64), (1, zR 57), (2, zI u2), (3, zI (Int.tdiv (wu 65 u2.toNat) 10000)), (4, zI (Int.tmod (wu 65 u2.toNat) 10000)), (5, zI ((F_W_pop_64 wu).1))]) (by decide) rfl rfl dX4_weigh_166 rfl ?_
          refine z_aload_n (pc' := 169) 0 rfl rfl dX4_weigh_168 rfl ?_
          refine z_iload_n (pc' := 170) 3 rfl rfl dX4_weigh_169 rfl ?_
          refine z_aload_n (pc' := 171) 0 rfl rfl dX4_weigh_170 rfl ?_
          refine z_invV (as := []) (st := [zI (Int.tdiv (wu 65 u2.toNat) 10000), zR 64]) (C := m_X4_pop) (fs := [67, 68, 0, 0]) (pc' := 174) dX4_weigh_171 rfl t_4_101 k_X4_pop rfl (by decide) rfl rfl rfl rfl (Nat.le_of_ble_eq_true rfl) ?_
          obtain ⟨r42, h⟩ := h
          refine c_W_pop_64 r42 ?_
          show z_Wp m_X4_weigh _ 174 [(0, zR 64), (1, zR 57), (2, zI u2), (3, zI (Int.tdiv (wu 65 u2.toNat) 10000)), (4, zI (Int.tmod (wu 65 u2.toNat) 10000)), (5, zI ((F_W_pop_64 wu).1))] [zI ((F_W_pop_64 ((F_W_pop_64 wu).2)).1), zI (Int.tdiv (wu 65 u2.toNat) 10000), zR 64] ((F_W_pop_64 ((F_W_pop_64 wu).2)).2) _
          refine z_iload (pc' := 176) 5 rfl dX4_weigh_174 rfl ?_
          refine z_invS (as := [zI (Int.tdiv (wu 65 u2.toNat) 10000), zI ((F_W_pop_64 ((F_W_pop_64 wu).2)).1), zI ((F_W_pop_64 wu).1)]) (st := [zR 64]) (C := m_X4_join) (pc' := 179) dX4_weigh_176 rfl t_4_108 k_X4_join rfl rfl (Nat.le_of_ble_eq_true rfl) ?_
          obtain ⟨r43, h⟩ := h
          refine c_W_join r43 ?_
          show z_Wp m_X4_weigh _ 179 [(0, zR 64), (1, zR 57), (2, zI u2), (3, zI (Int.tdiv (wu 65 u2.toNat) 10000)), (4, zI (Int.tmod (wu 65 u2.toNat) 10000)), (5, zI ((F_W_pop_64 wu).1))] [zI (F_W_join ((F_W_pop_64 ((F_W_pop_64 wu).2)).2) (Int.tdiv (wu 65 u2.toNat) 10000) ((F_W_pop_64 ((F_W_pop_64 wu).2)).1) ((F_W_pop_64 wu).1)), zR 64] ((F_W_pop_64 ((F_W_pop_64 wu).2)).2) _
          refine z_invV (as := [zI (F_W_join ((F_W_pop_64 ((F_W_pop_64 wu).2)).2) (Int.tdiv (wu 65 u2.toNat) 10000) ((F_W_pop_64 ((F_W_pop_64 wu).2)).1) ((F_W_pop_64 wu).1))]) (st := []) (C := m_X4_push) (fs := [67, 68, 0, 0]) (pc' := 182) dX4_weigh_179 rfl t_4_97 k_X4_push rfl (by decide) rfl rfl rfl rfl (Nat.le_of_ble_eq_true rfl) ?_
          obtain ⟨r44, h⟩ := h
          refine c_W_push_64 r44 ?_
          show z_Wp m_X4_weigh _ 182 [(0, zR 64), (1, zR 57), (2, zI u2), (3, zI (Int.tdiv (wu 65 u2.toNat) 10000)), (4, zI (Int.tmod (wu 65 u2.toNat) 10000)), (5, zI ((F_W_pop_64 wu).1))] [] (F_W_push_64 ((F_W_pop_64 ((F_W_pop_64 wu).2)).2) (F_W_join ((F_W_pop_64 ((F_W_pop_64 wu).2)).2) (Int.tdiv (wu 65 u2.toNat) 10000) ((F_W_pop_64 ((F_W_pop_64 wu).2)).1) ((F_W_pop_64 wu).1))) _
          refine z_iinc (pc' := 185) (ls' := [(0, zR 64), (1, zR 57), (2, zI (u2 + 1)), (3, zI (Int.tdiv (wu 65 u2.toNat) 10000)), (4, zI (Int.tmod (wu 65 u2.toNat) 10000)), (5, zI ((F_W_pop_64 wu).1))]) 2 rfl (by decide) rfl rfl dX4_weigh_182 rfl ?_
          refine z_goto 7 dX4_weigh_185 (by decide) ?_
          exact z_Wp.sub (ls' := [(0, zR 64), (1, zR 57), (2, zI (u2 + 1))]) (ih _ _ h k) (z_sub_of [0, 1, 2] rfl)
  exact hl 300 _ _ h k
def L_W_weigh_67_57_7 (w : z_Wd)   : Nat → Int → z_Wd → Int × z_Wd
  | 0, _, _ => (0, w)
  | m9 + 1, u2, wu => if u2 ≥ wu 67 2 then (0, wu) else if Int.tdiv (wu 68 u2.toNat) 10000 = 0 then L_W_weigh_67_57_7 w m9 (u2 + 1) (F_W_push_67 wu (Int.tmod (wu 68 u2.toNat) 10000)) else if Int.tdiv (wu 68 u2.toNat) 10000 = 1 then if Int.tmod (wu 68 u2.toNat) 10000 ≥ 6 then L_W_weigh_67_57_7 w m9 (u2 + 1) (F_W_push_67 wu 0) else L_W_weigh_67_57_7 w m9 (u2 + 1) (F_W_push_67 wu (wu 57 ((Int.tmod (wu 68 u2.toNat) 10000).toNat))) else if Int.tdiv (wu 68 u2.toNat) 10000 = 2 then ((F_W_pop_67 wu).1, (F_W_pop_67 wu).2) else if Int.tdiv (wu 68 u2.toNat) 10000 = 3 then if (F_W_pop_67 wu).1 = 0 then L_W_weigh_67_57_7 w m9 ((F_J_max_7cf53 ((F_W_pop_67 wu).2) u2 ((Int.tmod (wu 68 u2.toNat) 10000) - 1)) + 1) ((F_W_pop_67 wu).2) else L_W_weigh_67_57_7 w m9 (u2 + 1) ((F_W_pop_67 wu).2) else if Int.tdiv (wu 68 u2.toNat) 10000 = 33 then if (F_W_pop_67 wu).1 = 0 then L_W_weigh_67_57_7 w m9 (u2 + 1) (F_W_push_67 ((F_W_pop_67 wu).2) 1) else L_W_weigh_67_57_7 w m9 (u2 + 1) (F_W_push_67 ((F_W_pop_67 wu).2) 0) else L_W_weigh_67_57_7 w m9 (u2 + 1) (F_W_push_67 ((F_W_pop_67 ((F_W_pop_67 wu).2)).2) (F_W_join ((F_W_pop_67 ((F_W_pop_67 wu).2)).2) (Int.tdiv (wu 68 u2.toNat) 10000) ((F_W_pop_67 ((F_W_pop_67 wu).2)).1) ((F_W_pop_67 wu).1)))
def PL_W_weigh_67_57_7 (w : z_Wd)   : Nat → Int → z_Wd → Prop
  | 0, _, _ => False
  | m9 + 1, u2, wu => (-2147483648 ≤ u2 ∧ u2 < 2147483648) ∧ (-2147483648 ≤ wu 67 2 ∧ wu 67 2 < 2147483648) ∧ ((u2 ≥ wu 67 2 → True) ∧ (¬ (u2 ≥ wu 67 2) → (0 ≤ u2 ∧ u2 < 240) ∧ (-2147483648 ≤ wu 68 u2.toNat ∧ wu 68 u2.toNat < 2147483648) ∧ (-2147483648 ≤ Int.tdiv (wu 68 u2.toNat) 10000 ∧ Int.tdiv (wu 68 u2.toNat) 10000 < 2147483648) ∧ ((Int.tdiv (wu 68 u2.toNat) 10000 = 0 → (P_W_push_67 wu (Int.tmod (wu 68 u2.toNat) 10000)) ∧ (PL_W_weigh_67_57_7 w m9 (u2 + 1) (F_W_push_67 wu (Int.tmod (wu 68 u2.toNat) 10000)))) ∧ (¬ (Int.tdiv (wu 68 u2.toNat) 10000) = 0 → (Int.tdiv (wu 68 u2.toNat) 10000 = 1 → (-2147483648 ≤ Int.tmod (wu 68 u2.toNat) 10000 ∧ Int.tmod (wu 68 u2.toNat) 10000 < 2147483648) ∧ ((Int.tmod (wu 68 u2.toNat) 10000 ≥ 6 → (P_W_push_67 wu 0) ∧ (PL_W_weigh_67_57_7 w m9 (u2 + 1) (F_W_push_67 wu 0))) ∧ (¬ (Int.tmod (wu 68 u2.toNat) 10000 ≥ 6) → (0 ≤ Int.tmod (wu 68 u2.toNat) 10000 ∧ Int.tmod (wu 68 u2.toNat) 10000 < 6) ∧ (P_W_push_67 wu (wu 57 ((Int.tmod (wu 68 u2.toNat) 10000).toNat))) ∧ (PL_W_weigh_67_57_7 w m9 (u2 + 1) (F_W_push_67 wu (wu 57 ((Int.tmod (wu 68 u2.toNat) 10000).toNat))))))) ∧ (¬ (Int.tdiv (wu 68 u2.toNat) 10000) = 1 → (Int.tdiv (wu 68 u2.toNat) 10000 = 2 → P_W_pop_67 wu) ∧ (¬ (Int.tdiv (wu 68 u2.toNat) 10000) = 2 → (Int.tdiv (wu 68 u2.toNat) 10000 = 3 → (P_W_pop_67 wu) ∧ (-2147483648 ≤ (F_W_pop_67 wu).1 ∧ (F_W_pop_67 wu).1 < 2147483648) ∧ (((F_W_pop_67 wu).1 = 0 → (P_J_max_7cf53 ((F_W_pop_67 wu).2) u2 ((Int.tmod (wu 68 u2.toNat) 10000) - 1)) ∧ (PL_W_weigh_67_57_7 w m9 ((F_J_max_7cf53 ((F_W_pop_67 wu).2) u2 ((Int.tmod (wu 68 u2.toNat) 10000) - 1)) + 1) ((F_W_pop_67 wu).2))) ∧ (¬ ((F_W_pop_67 wu).1 = 0) → PL_W_weigh_67_57_7 w m9 (u2 + 1) ((F_W_pop_67 wu).2)))) ∧ (¬ (Int.tdiv (wu 68 u2.toNat) 10000) = 3 → (Int.tdiv (wu 68 u2.toNat) 10000 = 33 → (P_W_pop_67 wu) ∧ (-2147483648 ≤ (F_W_pop_67 wu).1 ∧ (F_W_pop_67 wu).1 < 2147483648) ∧ (((F_W_pop_67 wu).1 = 0 → (P_W_push_67 ((F_W_pop_67 wu).2) 1) ∧ (PL_W_weigh_67_57_7 w m9 (u2 + 1) (F_W_push_67 ((F_W_pop_67 wu).2) 1))) ∧ (¬ ((F_W_pop_67 wu).1 = 0) → (P_W_push_67 ((F_W_pop_67 wu).2) 0) ∧ (PL_W_weigh_67_57_7 w m9 (u2 + 1) (F_W_push_67 ((F_W_pop_67 wu).2) 0))))) ∧ (¬ (Int.tdiv (wu 68 u2.toNat) 10000) = 33 → (P_W_pop_67 wu) ∧ (P_W_pop_67 ((F_W_pop_67 wu).2)) ∧ (P_W_join ((F_W_pop_67 ((F_W_pop_67 wu).2)).2) (Int.tdiv (wu 68 u2.toNat) 10000) ((F_W_pop_67 ((F_W_pop_67 wu).2)).1) ((F_W_pop_67 wu).1)) ∧ (P_W_push_67 ((F_W_pop_67 ((F_W_pop_67 wu).2)).2) (F_W_join ((F_W_pop_67 ((F_W_pop_67 wu).2)).2) (Int.tdiv (wu 68 u2.toNat) 10000) ((F_W_pop_67 ((F_W_pop_67 wu).2)).1) ((F_W_pop_67 wu).1))) ∧ (PL_W_weigh_67_57_7 w m9 (u2 + 1) (F_W_push_67 ((F_W_pop_67 ((F_W_pop_67 wu).2)).2) (F_W_join ((F_W_pop_67 ((F_W_pop_67 wu).2)).2) (Int.tdiv (wu 68 u2.toNat) 10000) ((F_W_pop_67 ((F_W_pop_67 wu).2)).1) ((F_W_pop_67 wu).1))))))))))))
def P_W_weigh_67_57 (w : z_Wd)  : Prop := PL_W_weigh_67_57_7 w 300 0 (z_up w 67 3 0)
def F_W_weigh_67_57 (w : z_Wd)  : Int × z_Wd := L_W_weigh_67_57_7 w 300 0 (z_up w 67 3 0)
set_option maxRecDepth 4000 in
theorem c_W_weigh_67_57 {d : Nat} {w : z_Wd} {Q : Option z_V → z_Wd → Prop} (h : P_W_weigh_67_57 w ) (k : Q (some (zI (F_W_weigh_67_57 w ).1)) (F_W_weigh_67_57 w ).2) : z_Wc (d + 3) m_X4_weigh [zR 67, zR 57] w Q := by
  unfold P_W_weigh_67_57 at h
  unfold F_W_weigh_67_57 at k
  refine z_enter rfl (Nat.le_of_ble_eq_true rfl) ?_
  show z_Wp m_X4_weigh _ 0 [(0, zR 67), (1, zR 57)] [] w _
  refine z_aload_n (pc' := 1) 0 rfl rfl dX4_weigh_0 rfl ?_
  refine z_iconst (pc' := 2) dX4_weigh_1 rfl ?_
  refine z_putI (pc' := 5) p_X4_28 (by decide) rfl rfl rfl rfl dX4_weigh_2 rfl ?_
  refine z_iconst (pc' := 6) dX4_weigh_5 rfl ?_
  refine z_istore_n (pc' := 7) (ls' := [(0, zR 67), (1, zR 57), (2, zI 0)]) rfl (by decide) rfl rfl dX4_weigh_6 rfl ?_
  have hl : ∀ (m9 : Nat) (u2 : Int) (wu : z_Wd), PL_W_weigh_67_57_7 w m9 u2 wu → Q (some (zI (L_W_weigh_67_57_7 w m9 u2 wu).1)) (L_W_weigh_67_57_7 w m9 u2 wu).2 → z_Wp m_X4_weigh (d + 3) 7 [(0, zR 67), (1, zR 57), (2, zI u2)] [] wu Q := by
    clear h k
    intro m9
    induction m9 with
    | zero => intro u2 wu h k; exact False.elim h
    | succ m9 ih =>
      intro u2 wu h k
      have h : (-2147483648 ≤ u2 ∧ u2 < 2147483648) ∧ (-2147483648 ≤ wu 67 2 ∧ wu 67 2 < 2147483648) ∧ ((u2 ≥ wu 67 2 → True) ∧ (¬ (u2 ≥ wu 67 2) → (0 ≤ u2 ∧ u2 < 240) ∧ (-2147483648 ≤ wu 68 u2.toNat ∧ wu 68 u2.toNat < 2147483648) ∧ (-2147483648 ≤ Int.tdiv (wu 68 u2.toNat) 10000 ∧ Int.tdiv (wu 68 u2.toNat) 10000 < 2147483648) ∧ ((Int.tdiv (wu 68 u2.toNat) 10000 = 0 → (P_W_push_67 wu (Int.tmod (wu 68 u2.toNat) 10000)) ∧ (PL_W_weigh_67_57_7 w m9 (u2 + 1) (F_W_push_67 wu (Int.tmod (wu 68 u2.toNat) 10000)))) ∧ (¬ (Int.tdiv (wu 68 u2.toNat) 10000) = 0 → (Int.tdiv (wu 68 u2.toNat) 10000 = 1 → (-2147483648 ≤ Int.tmod (wu 68 u2.toNat) 10000 ∧ Int.tmod (wu 68 u2.toNat) 10000 < 2147483648) ∧ ((Int.tmod (wu 68 u2.toNat) 10000 ≥ 6 → (P_W_push_67 wu 0) ∧ (PL_W_weigh_67_57_7 w m9 (u2 + 1) (F_W_push_67 wu 0))) ∧ (¬ (Int.tmod (wu 68 u2.toNat) 10000 ≥ 6) → (0 ≤ Int.tmod (wu 68 u2.toNat) 10000 ∧ Int.tmod (wu 68 u2.toNat) 10000 < 6) ∧ (P_W_push_67 wu (wu 57 ((Int.tmod (wu 68 u2.toNat) 10000).toNat))) ∧ (PL_W_weigh_67_57_7 w m9 (u2 + 1) (F_W_push_67 wu (wu 57 ((Int.tmod (wu 68 u2.toNat) 10000).toNat))))))) ∧ (¬ (Int.tdiv (wu 68 u2.toNat) 10000) = 1 → (Int.tdiv (wu 68 u2.toNat) 10000 = 2 → P_W_pop_67 wu) ∧ (¬ (Int.tdiv (wu 68 u2.toNat) 10000) = 2 → (Int.tdiv (wu 68 u2.toNat) 10000 = 3 → (P_W_pop_67 wu) ∧ (-2147483648 ≤ (F_W_pop_67 wu).1 ∧ (F_W_pop_67 wu).1 < 2147483648) ∧ (((F_W_pop_67 wu).1 = 0 → (P_J_max_7cf53 ((F_W_pop_67 wu).2) u2 ((Int.tmod (wu 68 u2.toNat) 10000) - 1)) ∧ (PL_W_weigh_67_57_7 w m9 ((F_J_max_7cf53 ((F_W_pop_67 wu).2) u2 ((Int.tmod (wu 68 u2.toNat) 10000) - 1)) + 1) ((F_W_pop_67 wu).2))) ∧ (¬ ((F_W_pop_67 wu).1 = 0) → PL_W_weigh_67_57_7 w m9 (u2 + 1) ((F_W_pop_67 wu).2)))) ∧ (¬ (Int.tdiv (wu 68 u2.toNat) 10000) = 3 → (Int.tdiv (wu 68 u2.toNat) 10000 = 33 → (P_W_pop_67 wu) ∧ (-2147483648 ≤ (F_W_pop_67 wu).1 ∧ (F_W_pop_67 wu).1 < 2147483648) ∧ (((F_W_pop_67 wu).1 = 0 → (P_W_push_67 ((F_W_pop_67 wu).2) 1) ∧ (PL_W_weigh_67_57_7 w m9 (u2 + 1) (F_W_push_67 ((F_W_pop_67 wu).2) 1))) ∧ (¬ ((F_W_pop_67 wu).1 = 0) → (P_W_push_67 ((F_W_pop_67 wu).2) 0) ∧ (PL_W_weigh_67_57_7 w m9 (u2 + 1) (F_W_push_67 ((F_W_pop_67 wu).2) 0))))) ∧ (¬ (Int.tdiv (wu 68 u2.toNat) 10000) = 33 → (P_W_pop_67 wu) ∧ (P_W_pop_67 ((F_W_pop_67 wu).2)) ∧ (P_W_join ((F_W_pop_67 ((F_W_pop_67 wu).2)).2) (Int.tdiv (wu 68 u2.toNat) 10000) ((F_W_pop_67 ((F_W_pop_67 wu).2)).1) ((F_W_pop_67 wu).1)) ∧ (P_W_push_67 ((F_W_pop_67 ((F_W_pop_67 wu).2)).2) (F_W_join ((F_W_pop_67 ((F_W_pop_67 wu).2)).2) (Int.tdiv (wu 68 u2.toNat) 10000) ((F_W_pop_67 ((F_W_pop_67 wu).2)).1) ((F_W_pop_67 wu).1))) ∧ (PL_W_weigh_67_57_7 w m9 (u2 + 1) (F_W_push_67 ((F_W_pop_67 ((F_W_pop_67 wu).2)).2) (F_W_join ((F_W_pop_67 ((F_W_pop_67 wu).2)).2) (Int.tdiv (wu 68 u2.toNat) 10000) ((F_W_pop_67 ((F_W_pop_67 wu).2)).1) ((F_W_pop_67 wu).1)))))))))))) := h
      have k : Q (some (zI (if u2 ≥ wu 67 2 then (0, wu) else if Int.tdiv (wu 68 u2.toNat) 10000 = 0 then L_W_weigh_67_57_7 w m9 (u2 + 1) (F_W_push_67 wu (Int.tmod (wu 68 u2.toNat) 10000)) else if Int.tdiv (wu 68 u2.toNat) 10000 = 1 then if Int.tmod (wu 68 u2.toNat) 10000 ≥ 6 then L_W_weigh_67_57_7 w m9 (u2 + 1) (F_W_push_67 wu 0) else L_W_weigh_67_57_7 w m9 (u2 + 1) (F_W_push_67 wu (wu 57 ((Int.tmod (wu 68 u2.toNat) 10000).toNat))) else if Int.tdiv (wu 68 u2.toNat) 10000 = 2 then ((F_W_pop_67 wu).1, (F_W_pop_67 wu).2) else if Int.tdiv (wu 68 u2.toNat) 10000 = 3 then if (F_W_pop_67 wu).1 = 0 then L_W_weigh_67_57_7 w m9 ((F_J_max_7cf53 ((F_W_pop_67 wu).2) u2 ((Int.tmod (wu 68 u2.toNat) 10000) - 1)) + 1) ((F_W_pop_67 wu).2) else L_W_weigh_67_57_7 w m9 (u2 + 1) ((F_W_pop_67 wu).2) else if Int.tdiv (wu 68 u2.toNat) 10000 = 33 then if (F_W_pop_67 wu).1 = 0 then L_W_weigh_67_57_7 w m9 (u2 + 1) (F_W_push_67 ((F_W_pop_67 wu).2) 1) else L_W_weigh_67_57_7 w m9 (u2 + 1) (F_W_push_67 ((F_W_pop_67 wu).2) 0) else L_W_weigh_67_57_7 w m9 (u2 + 1) (F_W_push_67 ((F_W_pop_67 ((F_W_pop_67 wu).2)).2) (F_W_join ((F_W_pop_67 ((F_W_pop_67 wu).2)).2) (Int.tdiv (wu 68 u2.toNat) 10000) ((F_W_pop_67 ((F_W_pop_67 wu).2)).1) ((F_W_pop_67 wu).1)))).1)) (if u2 ≥ wu 67 2 then (0, wu) else if Int.tdiv (wu 68 u2.toNat) 10000 = 0 then L_W_weigh_67_57_7 w m9 (u2 + 1) (F_W_push_67 wu (Int.tmod (wu 68 u2.toNat) 10000)) else if Int.tdiv (wu 68 u2.toNat) 10000 = 1 then if Int.tmod (wu 68 u2.toNat) 10000 ≥ 6 then L_W_weigh_67_57_7 w m9 (u2 + 1) (F_W_push_67 wu 0) else L_W_weigh_67_57_7 w m9 (u2 + 1) (F_W_push_67 wu (wu 57 ((Int.tmod (wu 68 u2.toNat) 10000).toNat))) else if Int.tdiv (wu 68 u2.toNat) 10000 = 2 then ((F_W_pop_67 wu).1, (F_W_pop_67 wu).2) else if Int.tdiv (wu 68 u2.toNat) 10000 = 3 then if (F_W_pop_67 wu).1 = 0 then L_W_weigh_67_57_7 w m9 ((F_J_max_7cf53 ((F_W_pop_67 wu).2) u2 ((Int.tmod (wu 68 u2.toNat) 10000) - 1)) + 1) ((F_W_pop_67 wu).2) else L_W_weigh_67_57_7 w m9 (u2 + 1) ((F_W_pop_67 wu).2) else if Int.tdiv (wu 68 u2.toNat) 10000 = 33 then if (F_W_pop_67 wu).1 = 0 then L_W_weigh_67_57_7 w m9 (u2 + 1) (F_W_push_67 ((F_W_pop_67 wu).2) 1) else L_W_weigh_67_57_7 w m9 (u2 + 1) (F_W_push_67 ((F_W_pop_67 wu).2) 0) else L_W_weigh_67_57_7 w m9 (u2 + 1) (F_W_push_67 ((F_W_pop_67 ((F_W_pop_67 wu).2)).2) (F_W_join ((F_W_pop_67 ((F_W_pop_67 wu).2)).2) (Int.tdiv (wu 68 u2.toNat) 10000) ((F_W_pop_67 ((F_W_pop_67 wu).2)).1) ((F_W_pop_67 wu).1)))).2 := k
      refine z_iload_n (pc' := 8) 2 rfl rfl dX4_weigh_7 rfl ?_
      refine z_aload_n (pc' := 9) 0 rfl rfl dX4_weigh_8 rfl ?_
      refine z_getI2 (v := wu 67 2) (pc' := 12) g_X4_18 (by decide) rfl rfl rfl dX4_weigh_9 rfl ?_
      obtain ⟨r23, h⟩ := h
      obtain ⟨r24, h⟩ := h
      refine z_icmp_ge 188 dX4_weigh_12 (by decide) (pc' := 15) rfl r23 r24 (fun c => ?_) (fun c => ?_)
      · have h := h.1 c
        rw [if_pos c] at k
        refine z_iconst (pc' := 189) dX4_weigh_188 rfl ?_
        refine z_iret rfl dX4_weigh_189 ?_
        exact k
      · have h := h.2 c
        rw [if_neg c] at k
        refine z_aload_n (pc' := 16) 0 rfl rfl dX4_weigh_15 rfl ?_
        refine z_getR (t := 68) (pc' := 19) g_X4_11 (by decide) rfl rfl dX4_weigh_16 rfl ?_
        refine z_iload_n (pc' := 20) 2 rfl rfl dX4_weigh_19 rfl ?_
        obtain ⟨r25, h⟩ := h
        refine z_iald2 (v := wu 68 u2.toNat) (pc' := 21) (by decide) rfl r25 (by decide) rfl dX4_weigh_20 rfl ?_
        refine z_sipush (pc' := 24) (by decide) dX4_weigh_21 rfl ?_
        obtain ⟨r26, h⟩ := h
        refine z_idiv (pc' := 25) r26 (by decide) (by decide) dX4_weigh_24 rfl ?_
        refine z_istore_n (pc' := 26) (ls' := [(0, zR 67), (1, zR 57), (2, zI u2), (3, zI (Int.tdiv (wu 68 u2.toNat) 10000))]) rfl (by decide) rfl rfl dX4_weigh_25 rfl ?_
        refine z_aload_n (pc' := 27) 0 rfl rfl dX4_weigh_26 rfl ?_
        refine z_getR (t := 68) (pc' := 30) g_X4_11 (by decide) rfl rfl dX4_weigh_27 rfl ?_
        refine z_iload_n (pc' := 31) 2 rfl rfl dX4_weigh_30 rfl ?_
        refine z_iald2 (v := wu 68 u2.toNat) (pc' := 32) (by decide) rfl r25 (by decide) rfl dX4_weigh_31 rfl ?_
        refine z_sipush (pc' := 35) (by decide) dX4_weigh_32 rfl ?_
        refine z_irem (pc' := 36) r26 (by decide) (by decide) dX4_weigh_35 rfl ?_
        refine z_istore (pc' := 38) (ls' := [(0, zR 67), (1, zR 57), (2, zI u2), (3, zI (Int.tdiv (wu 68 u2.toNat) 10000)), (4, zI (Int.tmod (wu 68 u2.toNat) 10000))]) (by decide) rfl rfl dX4_weigh_36 rfl ?_
        refine z_iload_n (pc' := 39) 3 rfl rfl dX4_weigh_38 rfl ?_
        obtain ⟨r27, h⟩ := h
        refine z_lookup dX4_weigh_39 (by decide) r27 ⟨fun c0 => ⟨88, by decide, ?_⟩, fun c0 => ⟨fun c1 => ⟨97, by decide, ?_⟩, fun c1 => ⟨fun c2 => ⟨119, by decide, ?_⟩, fun c2 => ⟨fun c3 => ⟨124, by decide, ?_⟩, fun c3 => ⟨fun c4 => ⟨143, by decide, ?_⟩, fun c4 => ⟨162, by decide, ?_⟩⟩⟩⟩⟩⟩
        · skip
          have c0 : Int.tdiv (wu 68 u2.toNat) 10000 = 0 := c0
          have h := h.1 c0
          rw [if_pos c0] at k
          refine z_aload_n (pc' := 89) 0 rfl rfl dX4_weigh_88 rfl ?_
          refine z_iload (pc' := 91) 4 rfl dX4_weigh_89 rfl ?_
          refine z_invV (as := [zI (Int.tmod (wu 68 u2.toNat) 10000)]) (st := []) (C := m_X4_push) (fs := [70, 71, 0, 0]) (pc' := 94) dX4_weigh_91 rfl t_4_97 k_X4_push rfl (by decide) rfl rfl rfl rfl (Nat.le_of_ble_eq_true rfl) ?_
          obtain ⟨r28, h⟩ := h
          refine c_W_push_67 r28 ?_
          show z_Wp m_X4_weigh _ 94 [(0, zR 67), (1, zR 57), (2, zI u2), (3, zI (Int.tdiv (wu 68 u2.toNat) 10000)), (4, zI (Int.tmod (wu 68 u2.toNat) 10000))] [] (F_W_push_67 wu (Int.tmod (wu 68 u2.toNat) 10000)) _
          refine z_goto 182 dX4_weigh_94 (by decide) ?_
          refine z_iinc (pc' := 185) (ls' := [(0, zR 67), (1, zR 57), (2, zI (u2 + 1)), (3, zI (Int.tdiv (wu 68 u2.toNat) 10000)), (4, zI (Int.tmod (wu 68 u2.toNat) 10000))]) 2 rfl (by decide) rfl rfl dX4_weigh_182 rfl ?_
          refine z_goto 7 dX4_weigh_185 (by decide) ?_
          exact z_Wp.sub (ls' := [(0, zR 67), (1, zR 57), (2, zI (u2 + 1))]) (ih _ _ h k) (z_sub_of [0, 1, 2] rfl)
        · skip
          have c0 : ¬ (Int.tdiv (wu 68 u2.toNat) 10000) = 0 := c0
          have h := h.2 c0
          rw [if_neg c0] at k
          have c1 : Int.tdiv (wu 68 u2.toNat) 10000 = 1 := c1
          have h := h.1 c1
          rw [if_pos c1] at k
          refine z_aload_n (pc' := 98) 0 rfl rfl dX4_weigh_97 rfl ?_
          refine z_iload (pc' := 100) 4 rfl dX4_weigh_98 rfl ?_
          refine z_aload_n (pc' := 101) 1 rfl rfl dX4_weigh_100 rfl ?_
          refine z_alen2 (v := 6) (pc' := 102) (by decide) rfl rfl dX4_weigh_101 rfl ?_
          obtain ⟨r29, h⟩ := h
          refine z_icmp_ge 112 dX4_weigh_102 (by decide) (pc' := 105) rfl r29 (by decide) (fun c => ?_) (fun c => ?_)
          · have h := h.1 c
            rw [if_pos c] at k
            refine z_iconst (pc' := 113) dX4_weigh_112 rfl ?_
            refine z_invV (as := [zI 0]) (st := []) (C := m_X4_push) (fs := [70, 71, 0, 0]) (pc' := 116) dX4_weigh_113 rfl t_4_97 k_X4_push rfl (by decide) rfl rfl rfl rfl (Nat.le_of_ble_eq_true rfl) ?_
            obtain ⟨r30, h⟩ := h
            refine c_W_push_67 r30 ?_
            show z_Wp m_X4_weigh _ 116 [(0, zR 67), (1, zR 57), (2, zI u2), (3, zI (Int.tdiv (wu 68 u2.toNat) 10000)), (4, zI (Int.tmod (wu 68 u2.toNat) 10000))] [] (F_W_push_67 wu 0) _
            refine z_goto 182 dX4_weigh_116 (by decide) ?_
            refine z_iinc (pc' := 185) (ls' := [(0, zR 67), (1, zR 57), (2, zI (u2 + 1)), (3, zI (Int.tdiv (wu 68 u2.toNat) 10000)), (4, zI (Int.tmod (wu 68 u2.toNat) 10000))]) 2 rfl (by decide) rfl rfl dX4_weigh_182 rfl ?_
            refine z_goto 7 dX4_weigh_185 (by decide) ?_
            exact z_Wp.sub (ls' := [(0, zR 67), (1, zR 57), (2, zI (u2 + 1))]) (ih _ _ h k) (z_sub_of [0, 1, 2] rfl)
          · have h := h.2 c
            rw [if_neg c] at k
            refine z_aload_n (pc' := 106) 1 rfl rfl dX4_weigh_105 rfl ?_
            refine z_iload (pc' := 108) 4 rfl dX4_weigh_106 rfl ?_
            obtain ⟨r31, h⟩ := h
            refine z_iald2 (v := wu 57 ((Int.tmod (wu 68 u2.toNat) 10000).toNat)) (pc' := 109) (by decide) rfl r31 (by decide) rfl dX4_weigh_108 rfl ?_
            refine z_goto 113 dX4_weigh_109 (by decide) ?_
            refine z_invV (as := [zI (wu 57 ((Int.tmod (wu 68 u2.toNat) 10000).toNat))]) (st := []) (C := m_X4_push) (fs := [70, 71, 0, 0]) (pc' := 116) dX4_weigh_113 rfl t_4_97 k_X4_push rfl (by decide) rfl rfl rfl rfl (Nat.le_of_ble_eq_true rfl) ?_
            obtain ⟨r32, h⟩ := h
            refine c_W_push_67 r32 ?_
            show z_Wp m_X4_weigh _ 116 [(0, zR 67), (1, zR 57), (2, zI u2), (3, zI (Int.tdiv (wu 68 u2.toNat) 10000)), (4, zI (Int.tmod (wu 68 u2.toNat) 10000))] [] (F_W_push_67 wu (wu 57 ((Int.tmod (wu 68 u2.toNat) 10000).toNat))) _
            refine z_goto 182 dX4_weigh_116 (by decide) ?_
            refine z_iinc (pc' := 185) (ls' := [(0, zR 67), (1, zR 57), (2, zI (u2 + 1)), (3, zI (Int.tdiv (wu 68 u2.toNat) 10000)), (4, zI (Int.tmod (wu 68 u2.toNat) 10000))]) 2 rfl (by decide) rfl rfl dX4_weigh_182 rfl ?_
            refine z_goto 7 dX4_weigh_185 (by decide) ?_
            exact z_Wp.sub (ls' := [(0, zR 67), (1, zR 57), (2, zI (u2 + 1))]) (ih _ _ h k) (z_sub_of [0, 1, 2] rfl)
        · skip
          have c0 : ¬ (Int.tdiv (wu 68 u2.toNat) 10000) = 0 := c0
          have h := h.2 c0
          rw [if_neg c0] at k
          have c1 : ¬ (Int.tdiv (wu 68 u2.toNat) 10000) = 1 := c1
          have h := h.2 c1
          rw [if_neg c1] at k
          have c2 : Int.tdiv (wu 68 u2.toNat) 10000 = 2 := c2
          have h := h.1 c2
          rw [if_pos c2] at k
          refine z_aload_n (pc' := 120) 0 rfl rfl dX4_weigh_119 rfl ?_
          refine z_invV (as := []) (st := []) (C := m_X4_pop) (fs := [70, 71, 0, 0]) (pc' := 123) dX4_weigh_120 rfl t_4_101 k_X4_pop rfl (by decide) rfl rfl rfl rfl (Nat.le_of_ble_eq_true rfl) ?_
          have r33 := h
          refine c_W_pop_67 r33 ?_
          show z_Wp m_X4_weigh _ 123 [(0, zR 67), (1, zR 57), (2, zI u2), (3, zI (Int.tdiv (wu 68 u2.toNat) 10000)), (4, zI (Int.tmod (wu 68 u2.toNat) 10000))] [zI ((F_W_pop_67 wu).1)] ((F_W_pop_67 wu).2) _
          refine z_iret rfl dX4_weigh_123 ?_
          exact k
        · skip
          have c0 : ¬ (Int.tdiv (wu 68 u2.toNat) 10000) = 0 := c0
          have h := h.2 c0
          rw [if_neg c0] at k
          have c1 : ¬ (Int.tdiv (wu 68 u2.toNat) 10000) = 1 := c1
          have h := h.2 c1
          rw [if_neg c1] at k
          have c2 : ¬ (Int.tdiv (wu 68 u2.toNat) 10000) = 2 := c2
          have h := h.2 c2
          rw [if_neg c2] at k
          have c3 : Int.tdiv (wu 68 u2.toNat) 10000 = 3 := c3
          have h := h.1 c3
          rw [if_pos c3] at k
          refine z_aload_n (pc' := 125) 0 rfl rfl dX4_weigh_124 rfl ?_
          refine z_invV (as := []) (st := []) (C := m_X4_pop) (fs := [70, 71, 0, 0]) (pc' := 128) dX4_weigh_125 rfl t_4_101 k_X4_pop rfl (by decide) rfl rfl rfl rfl (Nat.le_of_ble_eq_true rfl) ?_
          obtain ⟨r34, h⟩ := h
          refine c_W_pop_67 r34 ?_
          show z_Wp m_X4_weigh _ 128 [(0, zR 67), (1, zR 57), (2, zI u2), (3, zI (Int.tdiv (wu 68 u2.toNat) 10000)), (4, zI (Int.tmod (wu 68 u2.toNat) 10000))] [zI ((F_W_pop_67 wu).1)] ((F_W_pop_67 wu).2) _
          obtain ⟨r35, h⟩ := h
          refine z_if_ne 182 dX4_weigh_128 (by decide) (pc' := 131) rfl r35 (fun c => ?_) (fun c => ?_)
          · have h := h.2 c
            rw [if_neg c] at k
            refine z_iinc (pc' := 185) (ls' := [(0, zR 67), (1, zR 57), (2, zI (u2 + 1)), (3, zI (Int.tdiv (wu 68 u2.toNat) 10000)), (4, zI (Int.tmod (wu 68 u2.toNat) 10000))]) 2 rfl (by decide) rfl rfl dX4_weigh_182 rfl ?_
            refine z_goto 7 dX4_weigh_185 (by decide) ?_
            exact z_Wp.sub (ls' := [(0, zR 67), (1, zR 57), (2, zI (u2 + 1))]) (ih _ _ h k) (z_sub_of [0, 1, 2] rfl)
          · have h := h.1 c
            rw [if_pos c] at k
            refine z_iload_n (pc' := 132) 2 rfl rfl dX4_weigh_131 rfl ?_
            refine z_iload (pc' := 134) 4 rfl dX4_weigh_132 rfl ?_
            refine z_iconst (pc' := 135) dX4_weigh_134 rfl ?_
            refine z_isub (pc' := 136) dX4_weigh_135 rfl ?_
            refine z_invS (as := [zI u2, zI ((Int.tmod (wu 68 u2.toNat) 10000) - 1)]) (st := []) (C := m_J9_max_7cf53) (pc' := 139) dX4_weigh_136 rfl t_4_105 k_J9_max_7cf53 rfl rfl (Nat.le_of_ble_eq_true rfl) ?_
            obtain ⟨r36, h⟩ := h
            refine c_J_max_7cf53 r36 ?_
            show z_Wp m_X4_weigh _ 139 [(0, zR 67), (1, zR 57), (2, zI u2), (3, zI (Int.tdiv (wu 68 u2.toNat) 10000)), (4, zI (Int.tmod (wu 68 u2.toNat) 10000))] [zI (F_J_max_7cf53 ((F_W_pop_67 wu).2) u2 ((Int.tmod (wu 68 u2.toNat) 10000) - 1))] ((F_W_pop_67 wu).2) _
            refine z_istore_n (pc' := 140) (ls' := [(0, zR 67), (1, zR 57), (2, zI (F_J_max_7cf53 ((F_W_pop_67 wu).2) u2 ((Int.tmod (wu 68 u2.toNat) 10000) - 1))), (3, zI (Int.tdiv (wu 68 u2.toNat) 10000)), (4, zI (Int.tmod (wu 68 u2.toNat) 10000))]) rfl (by decide) rfl rfl dX4_weigh_139 rfl ?_
            refine z_goto 182 dX4_weigh_140 (by decide) ?_
            refine z_iinc (pc' := 185) (ls' := [(0, zR 67), (1, zR 57), (2, zI ((F_J_max_7cf53 ((F_W_pop_67 wu).2) u2 ((Int.tmod (wu 68 u2.toNat) 10000) - 1)) + 1)), (3, zI (Int.tdiv (wu 68 u2.toNat) 10000)), (4, zI (Int.tmod (wu 68 u2.toNat) 10000))]) 2 rfl (by decide) rfl rfl dX4_weigh_182 rfl ?_
            refine z_goto 7 dX4_weigh_185 (by decide) ?_
            exact z_Wp.sub (ls' := [(0, zR 67), (1, zR 57), (2, zI ((F_J_max_7cf53 ((F_W_pop_67 wu).2) u2 ((Int.tmod (wu 68 u2.toNat) 10000) - 1)) + 1))]) (ih _ _ h k) (z_sub_of [0, 1, 2] rfl)
        · skip
          have c0 : ¬ (Int.tdiv (wu 68 u2.toNat) 10000) = 0 := c0
          have h := h.2 c0
          rw [if_neg c0] at k
          have c1 : ¬ (Int.tdiv (wu 68 u2.toNat) 10000) = 1 := c1
          have h := h.2 c1
          rw [if_neg c1] at k
          have c2 : ¬ (Int.tdiv (wu 68 u2.toNat) 10000) = 2 := c2
          have h := h.2 c2
          rw [if_neg c2] at k
          have c3 : ¬ (Int.tdiv (wu 68 u2.toNat) 10000) = 3 := c3
          have h := h.2 c3
          rw [if_neg c3] at k
          have c4 : Int.tdiv (wu 68 u2.toNat) 10000 = 33 := c4
          have h := h.1 c4
          rw [if_pos c4] at k
          refine z_aload_n (pc' := 144) 0 rfl rfl dX4_weigh_143 rfl ?_
          refine z_aload_n (pc' := 145) 0 rfl rfl dX4_weigh_144 rfl ?_
          refine z_invV (as := []) (st := [zR 67]) (C := m_X4_pop) (fs := [70, 71, 0, 0]) (pc' := 148) dX4_weigh_145 rfl t_4_101 k_X4_pop rfl (by decide) rfl rfl rfl rfl (Nat.le_of_ble_eq_true rfl) ?_
          obtain ⟨r37, h⟩ := h
          refine c_W_pop_67 r37 ?_
          show z_Wp m_X4_weigh _ 148 [(0, zR 67), (1, zR 57), (2, zI u2), (3, zI (Int.tdiv (wu 68 u2.toNat) 10000)), (4, zI (Int.tmod (wu 68 u2.toNat) 10000))] [zI ((F_W_pop_67 wu).1), zR 67] ((F_W_pop_67 wu).2) _
          obtain ⟨r38, h⟩ := h
          refine z_if_ne 155 dX4_weigh_148 (by decide) (pc' := 151) rfl r38 (fun c => ?_) (fun c => ?_)
          · have h := h.2 c
            rw [if_neg c] at k
            refine z_iconst (pc' := 156) dX4_weigh_155 rfl ?_
            refine z_invV (as := [zI 0]) (st := []) (C := m_X4_push) (fs := [70, 71, 0, 0]) (pc' := 159) dX4_weigh_156 rfl t_4_97 k_X4_push rfl (by decide) rfl rfl rfl rfl (Nat.le_of_ble_eq_true rfl) ?_
            obtain ⟨r39, h⟩ := h
            refine c_W_push_67 r39 ?_
            show z_Wp m_X4_weigh _ 159 [(0, zR 67), (1, zR 57), (2, zI u2), (3, zI (Int.tdiv (wu 68 u2.toNat) 10000)), (4, zI (Int.tmod (wu 68 u2.toNat) 10000))] [] (F_W_push_67 ((F_W_pop_67 wu).2) 0) _
            refine z_goto 182 dX4_weigh_159 (by decide) ?_
            refine z_iinc (pc' := 185) (ls' := [(0, zR 67), (1, zR 57), (2, zI (u2 + 1)), (3, zI (Int.tdiv (wu 68 u2.toNat) 10000)), (4, zI (Int.tmod (wu 68 u2.toNat) 10000))]) 2 rfl (by decide) rfl rfl dX4_weigh_182 rfl ?_
            refine z_goto 7 dX4_weigh_185 (by decide) ?_
            exact z_Wp.sub (ls' := [(0, zR 67), (1, zR 57), (2, zI (u2 + 1))]) (ih _ _ h k) (z_sub_of [0, 1, 2] rfl)
          · have h := h.1 c
            rw [if_pos c] at k
            refine z_iconst (pc' := 152) dX4_weigh_151 rfl ?_
            refine z_goto 156 dX4_weigh_152 (by decide) ?_
            refine z_invV (as := [zI 1]) (st := []) (C := m_X4_push) (fs := [70, 71, 0, 0]) (pc' := 159) dX4_weigh_156 rfl t_4_97 k_X4_push rfl (by decide) rfl rfl rfl rfl (Nat.le_of_ble_eq_true rfl) ?_
            obtain ⟨r40, h⟩ := h
            refine c_W_push_67 r40 ?_
            show z_Wp m_X4_weigh _ 159 [(0, zR 67), (1, zR 57), (2, zI u2), (3, zI (Int.tdiv (wu 68 u2.toNat) 10000)), (4, zI (Int.tmod (wu 68 u2.toNat) 10000))] [] (F_W_push_67 ((F_W_pop_67 wu).2) 1) _
            refine z_goto 182 dX4_weigh_159 (by decide) ?_
            refine z_iinc (pc' := 185) (ls' := [(0, zR 67), (1, zR 57), (2, zI (u2 + 1)), (3, zI (Int.tdiv (wu 68 u2.toNat) 10000)), (4, zI (Int.tmod (wu 68 u2.toNat) 10000))]) 2 rfl (by decide) rfl rfl dX4_weigh_182 rfl ?_
            refine z_goto 7 dX4_weigh_185 (by decide) ?_
            exact z_Wp.sub (ls' := [(0, zR 67), (1, zR 57), (2, zI (u2 + 1))]) (ih _ _ h k) (z_sub_of [0, 1, 2] rfl)
        · skip
          have c0 : ¬ (Int.tdiv (wu 68 u2.toNat) 10000) = 0 := c0
          have h := h.2 c0
          rw [if_neg c0] at k
          have c1 : ¬ (Int.tdiv (wu 68 u2.toNat) 10000) = 1 := c1
          have h := h.2 c1
          rw [if_neg c1] at k
          have c2 : ¬ (Int.tdiv (wu 68 u2.toNat) 10000) = 2 := c2
          have h := h.2 c2
          rw [if_neg c2] at k
          have c3 : ¬ (Int.tdiv (wu 68 u2.toNat) 10000) = 3 := c3
          have h := h.2 c3
          rw [if_neg c3] at k
          have c4 : ¬ (Int.tdiv (wu 68 u2.toNat) 10000) = 33 := c4
          have h := h.2 c4
          rw [if_neg c4] at k
          refine z_aload_n (pc' := 163) 0 rfl rfl dX4_weigh_162 rfl ?_
          refine z_invV (as := []) (st := []) (C := m_X4_pop) (fs := [70, 71, 0, 0]) (pc' := 166) dX4_weigh_163 rfl t_4_101 k_X4_pop rfl (by decide) rfl rfl rfl rfl (Nat.le_of_ble_eq_true rfl) ?_
          obtain ⟨r41, h⟩ := h
          refine c_W_pop_67 r41 ?_
          show z_Wp m_X4_weigh _ 166 [(0, zR 67), (1, zR 57), (2, zI u2), (3, zI (Int.tdiv (wu 68 u2.toNat) 10000)), (4, zI (Int.tmod (wu 68 u2.toNat) 10000))] [zI ((F_W_pop_67 wu).1)] ((F_W_pop_67 wu).2) _
          refine z_istore (pc' := 168) (ls' := [(0, zR 67), (1, zR 57), (2, zI u2), (3, zI (Int.tdiv (wu 68 u2.toNat) 10000)), (4, zI (Int.tmod (wu 68 u2.toNat) 10000)), (5, zI ((F_W_pop_67 wu).1))]) (by decide) rfl rfl dX4_weigh_166 rfl ?_
          refine z_aload_n (pc' := 169) 0 rfl rfl dX4_weigh_168 rfl ?_
          refine z_iload_n (pc' := 170) 3 rfl rfl dX4_weigh_169 rfl ?_
          refine z_aload_n (pc' := 171) 0 rfl rfl dX4_weigh_170 rfl ?_
          refine z_invV (as := []) (st := [zI (Int.tdiv (wu 68 u2.toNat) 10000), zR 67]) (C := m_X4_pop) (fs := [70, 71, 0, 0]) (pc' := 174) dX4_weigh_171 rfl t_4_101 k_X4_pop rfl (by decide) rfl rfl rfl rfl (Nat.le_of_ble_eq_true rfl) ?_
          obtain ⟨r42, h⟩ := h
          refine c_W_pop_67 r42 ?_
          show z_Wp m_X4_weigh _ 174 [(0, zR 67), (1, zR 57), (2, zI u2), (3, zI (Int.tdiv (wu 68 u2.toNat) 10000)), (4, zI (Int.tmod (wu 68 u2.toNat) 10000)), (5, zI ((F_W_pop_67 wu).1))] [zI ((F_W_pop_67 ((F_W_pop_67 wu).2)).1), zI (Int.tdiv (wu 68 u2.toNat) 10000), zR 67] ((F_W_pop_67 ((F_W_pop_67 wu).2)).2) _
          refine z_iload (pc' := 176) 5 rfl dX4_weigh_174 rfl ?_
          refine z_invS (as := [zI (Int.tdiv (wu 68 u2.toNat) 10000), zI ((F_W_pop_67 ((F_W_pop_67 wu).2)).1), zI ((F_W_pop_67 wu).1)]) (st := [zR 67]) (C := m_X4_join) (pc' := 179) dX4_weigh_176 rfl t_4_108 k_X4_join rfl rfl (Nat.le_of_ble_eq_true rfl) ?_
          obtain ⟨r43, h⟩ := h
          refine c_W_join r43 ?_
          show z_Wp m_X4_weigh _ 179 [(0, zR 67), (1, zR 57), (2, zI u2), (3, zI (Int.tdiv (wu 68 u2.toNat) 10000)), (4, zI (Int.tmod (wu 68 u2.toNat) 10000)), (5, zI ((F_W_pop_67 wu).1))] [zI (F_W_join ((F_W_pop_67 ((F_W_pop_67 wu).2)).2) (Int.tdiv (wu 68 u2.toNat) 10000) ((F_W_pop_67 ((F_W_pop_67 wu).2)).1) ((F_W_pop_67 wu).1)), zR 67] ((F_W_pop_67 ((F_W_pop_67 wu).2)).2) _
          refine z_invV (as := [zI (F_W_join ((F_W_pop_67 ((F_W_pop_67 wu).2)).2) (Int.tdiv (wu 68 u2.toNat) 10000) ((F_W_pop_67 ((F_W_pop_67 wu).2)).1) ((F_W_pop_67 wu).1))]) (st := []) (C := m_X4_push) (fs := [70, 71, 0, 0]) (pc' := 182) dX4_weigh_179 rfl t_4_97 k_X4_push rfl (by decide) rfl rfl rfl rfl (Nat.le_of_ble_eq_true rfl) ?_
          obtain ⟨r44, h⟩ := h
          refine c_W_push_67 r44 ?_
          show z_Wp m_X4_weigh _ 182 [(0, zR 67), (1, zR 57), (2, zI u2), (3, zI (Int.tdiv (wu 68 u2.toNat) 10000)), (4, zI (Int.tmod (wu 68 u2.toNat) 10000)), (5, zI ((F_W_pop_67 wu).1))] [] (F_W_push_67 ((F_W_pop_67 ((F_W_pop_67 wu).2)).2) (F_W_join ((F_W_pop_67 ((F_W_pop_67 wu).2)).2) (Int.tdiv (wu 68 u2.toNat) 10000) ((F_W_pop_67 ((F_W_pop_67 wu).2)).1) ((F_W_pop_67 wu).1))) _
          refine z_iinc (pc' := 185) (ls' := [(0, zR 67), (1, zR 57), (2, zI (u2 + 1)), (3, zI (Int.tdiv (wu 68 u2.toNat) 10000)), (4, zI (Int.tmod (wu 68 u2.toNat) 10000)), (5, zI ((F_W_pop_67 wu).1))]) 2 rfl (by decide) rfl rfl dX4_weigh_182 rfl ?_
          refine z_goto 7 dX4_weigh_185 (by decide) ?_
          exact z_Wp.sub (ls' := [(0, zR 67), (1, zR 57), (2, zI (u2 + 1))]) (ih _ _ h k) (z_sub_of [0, 1, 2] rfl)
  exact hl 300 _ _ h k
def P_C_canAsk (w : z_Wd) (a0 : Int) : Prop := (P_Y_stands w) ∧ ((F_Y_stands w = 0 → True) ∧ (¬ (F_Y_stands w = 0) → -2147483648 ≤ a0 ∧ a0 < 2147483648))
def F_C_canAsk (w : z_Wd) (a0 : Int) : Int := if F_Y_stands w = 0 then 0 else if a0 < 0 then 0 else if a0 > 7 then 0 else 1
set_option maxRecDepth 4000 in
theorem c_C_canAsk {d : Nat} {w : z_Wd} {a0 : Int} {Q : Option z_V → z_Wd → Prop} (h : P_C_canAsk w a0) (k : Q (some (zI (F_C_canAsk w a0))) w) : z_Wc (d + 2) m_X0_canAsk [zR 72, zI a0] w Q := by
  unfold P_C_canAsk at h
  unfold F_C_canAsk at k
  refine z_enter rfl (Nat.le_of_ble_eq_true rfl) ?_
  show z_Wp m_X0_canAsk _ 0 [(0, zR 72), (1, zI a0)] [] w _
  refine z_aload_n (pc' := 1) 0 rfl rfl dX0_canAsk_0 rfl ?_
  refine z_getR (t := 30) (pc' := 4) g_X0_21 (by decide) rfl rfl dX0_canAsk_1 rfl ?_
  refine z_invV (as := []) (st := []) (C := m_X6_stands) (fs := [33, 34]) (pc' := 7) dX0_canAsk_4 rfl t_5_20 k_X6_stands rfl (by decide) rfl rfl rfl rfl (Nat.le_of_ble_eq_true rfl) ?_
  obtain ⟨r1, h⟩ := h
  refine c_Y_stands r1 ?_
  show z_Wp m_X0_canAsk _ 7 [(0, zR 72), (1, zI a0)] [zI (F_Y_stands w)] w _
  refine z_if_eq 24 dX0_canAsk_7 (by decide) (pc' := 10) rfl (z_rb b_Y_stands) (fun c => ?_) (fun c => ?_)
  · have h := h.1 c
    rw [if_pos c] at k
    refine z_iconst (pc' := 25) dX0_canAsk_24 rfl ?_
    refine z_zret rfl (by decide) dX0_canAsk_25 ?_
    exact k
  · have h := h.2 c
    rw [if_neg c] at k
    refine z_iload_n (pc' := 11) 1 rfl rfl dX0_canAsk_10 rfl ?_
    have r2 := h
    refine z_if_lt 24 dX0_canAsk_11 (by decide) (pc' := 14) rfl r2 (fun c => ?_) (fun c => ?_)
    · skip
      rw [if_pos c] at k
      refine z_iconst (pc' := 25) dX0_canAsk_24 rfl ?_
      refine z_zret rfl (by decide) dX0_canAsk_25 ?_
      exact k
    · skip
      rw [if_neg c] at k
      refine z_iload_n (pc' := 15) 1 rfl rfl dX0_canAsk_14 rfl ?_
      refine z_bipush (pc' := 17) (by decide) dX0_canAsk_15 rfl ?_
      refine z_icmp_gt 24 dX0_canAsk_17 (by decide) (pc' := 20) rfl r2 (by decide) (fun c => ?_) (fun c => ?_)
      · skip
        rw [if_pos c] at k
        refine z_iconst (pc' := 25) dX0_canAsk_24 rfl ?_
        refine z_zret rfl (by decide) dX0_canAsk_25 ?_
        exact k
      · skip
        rw [if_neg c] at k
        refine z_iconst (pc' := 21) dX0_canAsk_20 rfl ?_
        refine z_goto 25 dX0_canAsk_21 (by decide) ?_
        refine z_zret rfl (by decide) dX0_canAsk_25 ?_
        exact k
theorem b_C_canAsk {w : z_Wd} {a0 : Int} : F_C_canAsk w a0 = 0 ∨ F_C_canAsk w a0 = 1 := by
  unfold F_C_canAsk
  (repeat' split) <;> first | exact Or.inl rfl | exact Or.inr rfl
def A_C_bestFile_7 (w : z_Wd) (a0 : Int) : Nat → Int × Int × z_Wd
  | 0 => ((-1), 0, w)
  | i7 + 1 => if (A_C_bestFile_7 w a0 i7).1 = (-1) then ((i7 : Int), (F_C_mostOfASort ((A_C_bestFile_7 w a0 i7).2.2) (i7 : Int) a0).1, (F_C_mostOfASort ((A_C_bestFile_7 w a0 i7).2.2) (i7 : Int) a0).2) else if (F_C_mostOfASort ((A_C_bestFile_7 w a0 i7).2.2) (i7 : Int) a0).1 ≥ (A_C_bestFile_7 w a0 i7).2.1 then ((A_C_bestFile_7 w a0 i7).1, (A_C_bestFile_7 w a0 i7).2.1, (F_C_mostOfASort ((A_C_bestFile_7 w a0 i7).2.2) (i7 : Int) a0).2) else ((i7 : Int), (F_C_mostOfASort ((A_C_bestFile_7 w a0 i7).2.2) (i7 : Int) a0).1, (F_C_mostOfASort ((A_C_bestFile_7 w a0 i7).2.2) (i7 : Int) a0).2)
def P_C_bestFile (w : z_Wd) (a0 : Int) : Prop := (∀ i7 : Nat, i7 < ((w 32 3).toNat) → (-2147483648 ≤ (i7 : Int) ∧ (i7 : Int) < 2147483648) ∧ (-2147483648 ≤ ((A_C_bestFile_7 w a0 i7).2.2) 32 3 ∧ ((A_C_bestFile_7 w a0 i7).2.2) 32 3 < 2147483648) ∧ (((A_C_bestFile_7 w a0 i7).2.2) 32 3 = w 32 3) ∧ (P_C_mostOfASort ((A_C_bestFile_7 w a0 i7).2.2) (i7 : Int) a0) ∧ (-2147483648 ≤ (A_C_bestFile_7 w a0 i7).1 ∧ (A_C_bestFile_7 w a0 i7).1 < 2147483648) ∧ (((A_C_bestFile_7 w a0 i7).1 = (-1) → True) ∧ (¬ ((A_C_bestFile_7 w a0 i7).1 = (-1)) → (-2147483648 ≤ (F_C_mostOfASort ((A_C_bestFile_7 w a0 i7).2.2) (i7 : Int) a0).1 ∧ (F_C_mostOfASort ((A_C_bestFile_7 w a0 i7).2.2) (i7 : Int) a0).1 < 2147483648) ∧ (-2147483648 ≤ (A_C_bestFile_7 w a0 i7).2.1 ∧ (A_C_bestFile_7 w a0 i7).2.1 < 2147483648)))) ∧ ((-2147483648 ≤ (((w 32 3).toNat : Nat) : Int) ∧ (((w 32 3).toNat : Nat) : Int) < 2147483648) ∧ (-2147483648 ≤ ((A_C_bestFile_7 w a0 (w 32 3).toNat).2.2) 32 3 ∧ ((A_C_bestFile_7 w a0 (w 32 3).toNat).2.2) 32 3 < 2147483648) ∧ (((A_C_bestFile_7 w a0 (w 32 3).toNat).2.2) 32 3 = w 32 3))
def F_C_bestFile (w : z_Wd) (a0 : Int) : Int × z_Wd := ((A_C_bestFile_7 w a0 (w 32 3).toNat).1, (A_C_bestFile_7 w a0 (w 32 3).toNat).2.2)
set_option maxRecDepth 4000 in
theorem c_C_bestFile {d : Nat} {w : z_Wd} {a0 : Int} {Q : Option z_V → z_Wd → Prop} (h : P_C_bestFile w a0) (k : Q (some (zI (F_C_bestFile w a0).1)) (F_C_bestFile w a0).2) : z_Wc (d + 5) m_X0_bestFile [zR 72, zI a0] w Q := by
  unfold P_C_bestFile at h
  unfold F_C_bestFile at k
  refine z_enter rfl (Nat.le_of_ble_eq_true rfl) ?_
  show z_Wp m_X0_bestFile _ 0 [(0, zR 72), (1, zI a0)] [] w _
  refine z_iconst (pc' := 1) dX0_bestFile_0 rfl ?_
  refine z_istore_n (pc' := 2) (ls' := [(0, zR 72), (1, zI a0), (2, zI (-1))]) rfl (by decide) rfl rfl dX0_bestFile_1 rfl ?_
  refine z_iconst (pc' := 3) dX0_bestFile_2 rfl ?_
  refine z_istore_n (pc' := 4) (ls' := [(0, zR 72), (1, zI a0), (2, zI (-1)), (3, zI 0)]) rfl (by decide) rfl rfl dX0_bestFile_3 rfl ?_
  refine z_iconst (pc' := 5) dX0_bestFile_4 rfl ?_
  refine z_istore (pc' := 7) (ls' := [(0, zR 72), (1, zI a0), (2, zI (-1)), (3, zI 0), (4, zI 0)]) (by decide) rfl rfl dX0_bestFile_5 rfl ?_
  refine z_upto ((w 32 3).toNat) (fun i7 => z_Wp m_X0_bestFile (d + 5) 7 [(0, zR 72), (1, zI a0), (2, zI ((A_C_bestFile_7 w a0 i7).1)), (3, zI ((A_C_bestFile_7 w a0 i7).2.1)), (4, zI (i7 : Int))] [] ((A_C_bestFile_7 w a0 i7).2.2) Q) ?_ ?_
  · skip
    have h := h.2
    refine z_iload (pc' := 9) 4 rfl dX0_bestFile_7 rfl ?_
    refine z_aload_n (pc' := 10) 0 rfl rfl dX0_bestFile_9 rfl ?_
    refine z_getR (t := 30) (pc' := 13) g_X0_21 (by decide) rfl rfl dX0_bestFile_10 rfl ?_
    refine z_invV (as := []) (st := [zI (((w 32 3).toNat : Nat) : Int)]) (C := m_X6_files) (fs := [33, 34]) (pc' := 16) dX0_bestFile_13 rfl t_5_52 k_X6_files rfl (by decide) rfl rfl rfl rfl (Nat.le_of_ble_eq_true rfl) ?_
    refine c_Y_files ?_
    show z_Wp m_X0_bestFile _ 16 [(0, zR 72), (1, zI a0), (2, zI ((A_C_bestFile_7 w a0 (w 32 3).toNat).1)), (3, zI ((A_C_bestFile_7 w a0 (w 32 3).toNat).2.1)), (4, zI (((w 32 3).toNat : Nat) : Int))] [zI (((A_C_bestFile_7 w a0 (w 32 3).toNat).2.2) 32 3), zI (((w 32 3).toNat : Nat) : Int)] ((A_C_bestFile_7 w a0 (w 32 3).toNat).2.2) _
    obtain ⟨r15, h⟩ := h
    obtain ⟨r16, h⟩ := h
    have r17 := h
    refine z_icmp_ge 51 dX0_bestFile_16 (by decide) (pc' := 19) rfl r15 r16 (fun _ => ?_) (fun c => absurd c (by first | omega | (rw [r17]; first | exact z_exitgt | exact z_exitge | omega)))
    refine z_iload_n (pc' := 52) 2 rfl rfl dX0_bestFile_51 rfl ?_
    refine z_iret rfl dX0_bestFile_52 ?_
    exact k
  · intro i7 hi ih
    have h := h.1 i7 hi
    have ih : z_Wp m_X0_bestFile (d + 5) 7 [(0, zR 72), (1, zI a0), (2, zI ((if (A_C_bestFile_7 w a0 i7).1 = (-1) then ((i7 : Int), (F_C_mostOfASort ((A_C_bestFile_7 w a0 i7).2.2) (i7 : Int) a0).1, (F_C_mostOfASort ((A_C_bestFile_7 w a0 i7).2.2) (i7 : Int) a0).2) else if (F_C_mostOfASort ((A_C_bestFile_7 w a0 i7).2.2) (i7 : Int) a0).1 ≥ (A_C_bestFile_7 w a0 i7).2.1 then ((A_C_bestFile_7 w a0 i7).1, (A_C_bestFile_7 w a0 i7).2.1, (F_C_mostOfASort ((A_C_bestFile_7 w a0 i7).2.2) (i7 : Int) a0).2) else ((i7 : Int), (F_C_mostOfASort ((A_C_bestFile_7 w a0 i7).2.2) (i7 : Int) a0).1, (F_C_mostOfASort ((A_C_bestFile_7 w a0 i7).2.2) (i7 : Int) a0).2)).1)), (3, zI ((if (A_C_bestFile_7 w a0 i7).1 = (-1) then ((i7 : Int), (F_C_mostOfASort ((A_C_bestFile_7 w a0 i7).2.2) (i7 : Int) a0).1, (F_C_mostOfASort ((A_C_bestFile_7 w a0 i7).2.2) (i7 : Int) a0).2) else if (F_C_mostOfASort ((A_C_bestFile_7 w a0 i7).2.2) (i7 : Int) a0).1 ≥ (A_C_bestFile_7 w a0 i7).2.1 then ((A_C_bestFile_7 w a0 i7).1, (A_C_bestFile_7 w a0 i7).2.1, (F_C_mostOfASort ((A_C_bestFile_7 w a0 i7).2.2) (i7 : Int) a0).2) else ((i7 : Int), (F_C_mostOfASort ((A_C_bestFile_7 w a0 i7).2.2) (i7 : Int) a0).1, (F_C_mostOfASort ((A_C_bestFile_7 w a0 i7).2.2) (i7 : Int) a0).2)).2.1)), (4, zI ((i7 + 1 : Nat) : Int))] [] ((if (A_C_bestFile_7 w a0 i7).1 = (-1) then ((i7 : Int), (F_C_mostOfASort ((A_C_bestFile_7 w a0 i7).2.2) (i7 : Int) a0).1, (F_C_mostOfASort ((A_C_bestFile_7 w a0 i7).2.2) (i7 : Int) a0).2) else if (F_C_mostOfASort ((A_C_bestFile_7 w a0 i7).2.2) (i7 : Int) a0).1 ≥ (A_C_bestFile_7 w a0 i7).2.1 then ((A_C_bestFile_7 w a0 i7).1, (A_C_bestFile_7 w a0 i7).2.1, (F_C_mostOfASort ((A_C_bestFile_7 w a0 i7).2.2) (i7 : Int) a0).2) else ((i7 : Int), (F_C_mostOfASort ((A_C_bestFile_7 w a0 i7).2.2) (i7 : Int) a0).1, (F_C_mostOfASort ((A_C_bestFile_7 w a0 i7).2.2) (i7 : Int) a0).2)).2.2) Q := ih
    refine z_iload (pc' := 9) 4 rfl dX0_bestFile_7 rfl ?_
    refine z_aload_n (pc' := 10) 0 rfl rfl dX0_bestFile_9 rfl ?_
    refine z_getR (t := 30) (pc' := 13) g_X0_21 (by decide) rfl rfl dX0_bestFile_10 rfl ?_
    refine z_invV (as := []) (st := [zI (i7 : Int)]) (C := m_X6_files) (fs := [33, 34]) (pc' := 16) dX0_bestFile_13 rfl t_5_52 k_X6_files rfl (by decide) rfl rfl rfl rfl (Nat.le_of_ble_eq_true rfl) ?_
    refine c_Y_files ?_
    show z_Wp m_X0_bestFile _ 16 [(0, zR 72), (1, zI a0), (2, zI ((A_C_bestFile_7 w a0 i7).1)), (3, zI ((A_C_bestFile_7 w a0 i7).2.1)), (4, zI (i7 : Int))] [zI (((A_C_bestFile_7 w a0 i7).2.2) 32 3), zI (i7 : Int)] ((A_C_bestFile_7 w a0 i7).2.2) _
    obtain ⟨r8, h⟩ := h
    obtain ⟨r9, h⟩ := h
    obtain ⟨r10, h⟩ := h
    refine z_icmp_ge 51 dX0_bestFile_16 (by decide) (pc' := 19) rfl r8 r9 (fun c => absurd c (by first | omega | (rw [r10]; first | exact z_exitgt | exact z_exitge | omega))) (fun _ => ?_)
    refine z_aload_n (pc' := 20) 0 rfl rfl dX0_bestFile_19 rfl ?_
    refine z_iload (pc' := 22) 4 rfl dX0_bestFile_20 rfl ?_
    refine z_iload_n (pc' := 23) 1 rfl rfl dX0_bestFile_22 rfl ?_
    refine z_invV (as := [zI (i7 : Int), zI a0]) (st := []) (C := m_X0_mostOfASort) (fs := [32, 75, 76, 77, 0]) (pc' := 26) dX0_bestFile_23 rfl t_5_53 k_X0_mostOfASort rfl (by decide) rfl rfl rfl rfl (Nat.le_of_ble_eq_true rfl) ?_
    obtain ⟨r11, h⟩ := h
    refine c_C_mostOfASort r11 ?_
    show z_Wp m_X0_bestFile _ 26 [(0, zR 72), (1, zI a0), (2, zI ((A_C_bestFile_7 w a0 i7).1)), (3, zI ((A_C_bestFile_7 w a0 i7).2.1)), (4, zI (i7 : Int))] [zI ((F_C_mostOfASort ((A_C_bestFile_7 w a0 i7).2.2) (i7 : Int) a0).1)] ((F_C_mostOfASort ((A_C_bestFile_7 w a0 i7).2.2) (i7 : Int) a0).2) _
    refine z_istore (pc' := 28) (ls' := [(0, zR 72), (1, zI a0), (2, zI ((A_C_bestFile_7 w a0 i7).1)), (3, zI ((A_C_bestFile_7 w a0 i7).2.1)), (4, zI (i7 : Int)), (5, zI ((F_C_mostOfASort ((A_C_bestFile_7 w a0 i7).2.2) (i7 : Int) a0).1))]) (by decide) rfl rfl dX0_bestFile_26 rfl ?_
    refine z_iload_n (pc' := 29) 2 rfl rfl dX0_bestFile_28 rfl ?_
    refine z_iconst (pc' := 30) dX0_bestFile_29 rfl ?_
    obtain ⟨r12, h⟩ := h
    refine z_icmp_eq 39 dX0_bestFile_30 (by decide) (pc' := 33) rfl r12 (by decide) (fun c113 => ?_) (fun c113 => ?_)
    · have h := h.1 c113
      rw [if_pos c113] at ih
      refine z_iload (pc' := 41) 4 rfl dX0_bestFile_39 rfl ?_
      refine z_istore_n (pc' := 42) (ls' := [(0, zR 72), (1, zI a0), (2, zI (i7 : Int)), (3, zI ((A_C_bestFile_7 w a0 i7).2.1)), (4, zI (i7 : Int)), (5, zI ((F_C_mostOfASort ((A_C_bestFile_7 w a0 i7).2.2) (i7 : Int) a0).1))]) rfl (by decide) rfl rfl dX0_bestFile_41 rfl ?_
      refine z_iload (pc' := 44) 5 rfl dX0_bestFile_42 rfl ?_
      refine z_istore_n (pc' := 45) (ls' := [(0, zR 72), (1, zI a0), (2, zI (i7 : Int)), (3, zI ((F_C_mostOfASort ((A_C_bestFile_7 w a0 i7).2.2) (i7 : Int) a0).1)), (4, zI (i7 : Int)), (5, zI ((F_C_mostOfASort ((A_C_bestFile_7 w a0 i7).2.2) (i7 : Int) a0).1))]) rfl (by decide) rfl rfl dX0_bestFile_44 rfl ?_
      refine z_iinc (pc' := 48) (ls' := [(0, zR 72), (1, zI a0), (2, zI (i7 : Int)), (3, zI ((F_C_mostOfASort ((A_C_bestFile_7 w a0 i7).2.2) (i7 : Int) a0).1)), (4, zI ((i7 : Int) + 1)), (5, zI ((F_C_mostOfASort ((A_C_bestFile_7 w a0 i7).2.2) (i7 : Int) a0).1))]) 4 rfl (by decide) rfl rfl dX0_bestFile_45 rfl ?_
      refine z_goto 7 dX0_bestFile_48 (by decide) ?_
      exact z_Wp.sub (ls' := [(0, zR 72), (1, zI a0), (2, zI (i7 : Int)), (3, zI ((F_C_mostOfASort ((A_C_bestFile_7 w a0 i7).2.2) (i7 : Int) a0).1)), (4, zI ((i7 : Int) + 1))]) (z_lcast (by rw [z_c0 i7]) ih) (z_sub_of [0, 1, 2, 3, 4] rfl)
    · have h := h.2 c113
      rw [if_neg c113] at ih
      refine z_iload (pc' := 35) 5 rfl dX0_bestFile_33 rfl ?_
      refine z_iload_n (pc' := 36) 3 rfl rfl dX0_bestFile_35 rfl ?_
      obtain ⟨r13, h⟩ := h
      have r14 := h
      refine z_icmp_ge 45 dX0_bestFile_36 (by decide) (pc' := 39) rfl r13 r14 (fun c114 => ?_) (fun c114 => ?_)
      · skip
        rw [if_pos c114] at ih
        refine z_iinc (pc' := 48) (ls' := [(0, zR 72), (1, zI a0), (2, zI ((A_C_bestFile_7 w a0 i7).1)), (3, zI ((A_C_bestFile_7 w a0 i7).2.1)), (4, zI ((i7 : Int) + 1)), (5, zI ((F_C_mostOfASort ((A_C_bestFile_7 w a0 i7).2.2) (i7 : Int) a0).1))]) 4 rfl (by decide) rfl rfl dX0_bestFile_45 rfl ?_
        refine z_goto 7 dX0_bestFile_48 (by decide) ?_
        exact z_Wp.sub (ls' := [(0, zR 72), (1, zI a0), (2, zI ((A_C_bestFile_7 w a0 i7).1)), (3, zI ((A_C_bestFile_7 w a0 i7).2.1)), (4, zI ((i7 : Int) + 1))]) (z_lcast (by rw [z_c0 i7]) ih) (z_sub_of [0, 1, 2, 3, 4] rfl)
      · skip
        rw [if_neg c114] at ih
        refine z_iload (pc' := 41) 4 rfl dX0_bestFile_39 rfl ?_
        refine z_istore_n (pc' := 42) (ls' := [(0, zR 72), (1, zI a0), (2, zI (i7 : Int)), (3, zI ((A_C_bestFile_7 w a0 i7).2.1)), (4, zI (i7 : Int)), (5, zI ((F_C_mostOfASort ((A_C_bestFile_7 w a0 i7).2.2) (i7 : Int) a0).1))]) rfl (by decide) rfl rfl dX0_bestFile_41 rfl ?_
        refine z_iload (pc' := 44) 5 rfl dX0_bestFile_42 rfl ?_
        refine z_istore_n (pc' := 45) (ls' := [(0, zR 72), (1, zI a0), (2, zI (i7 : Int)), (3, zI ((F_C_mostOfASort ((A_C_bestFile_7 w a0 i7).2.2) (i7 : Int) a0).1)), (4, zI (i7 : Int)), (5, zI ((F_C_mostOfASort ((A_C_bestFile_7 w a0 i7).2.2) (i7 : Int) a0).1))]) rfl (by decide) rfl rfl dX0_bestFile_44 rfl ?_
        refine z_iinc (pc' := 48) (ls' := [(0, zR 72), (1, zI a0), (2, zI (i7 : Int)), (3, zI ((F_C_mostOfASort ((A_C_bestFile_7 w a0 i7).2.2) (i7 : Int) a0).1)), (4, zI ((i7 : Int) + 1)), (5, zI ((F_C_mostOfASort ((A_C_bestFile_7 w a0 i7).2.2) (i7 : Int) a0).1))]) 4 rfl (by decide) rfl rfl dX0_bestFile_45 rfl ?_
        refine z_goto 7 dX0_bestFile_48 (by decide) ?_
        exact z_Wp.sub (ls' := [(0, zR 72), (1, zI a0), (2, zI (i7 : Int)), (3, zI ((F_C_mostOfASort ((A_C_bestFile_7 w a0 i7).2.2) (i7 : Int) a0).1)), (4, zI ((i7 : Int) + 1))]) (z_lcast (by rw [z_c0 i7]) ih) (z_sub_of [0, 1, 2, 3, 4] rfl)
