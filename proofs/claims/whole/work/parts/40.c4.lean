def P_D_undo (w : z_Wd)  : Prop := (P_H_takeBack_41 w) ∧ (-2147483648 ≤ (F_H_takeBack_41 w).1 ∧ (F_H_takeBack_41 w).1 < 2147483648)
def F_D_undo (w : z_Wd)  : Int × z_Wd := if (F_H_takeBack_41 w).1 = 0 then ((-1), (F_H_takeBack_41 w).2) else (((F_H_takeBack_41 w).2) 53 2, (F_H_takeBack_41 w).2)
set_option maxRecDepth 4000 in
theorem c_D_undo {d : Nat} {w : z_Wd} {Q : Option z_V → z_Wd → Prop} (h : P_D_undo w ) (k : Q (some (zI (F_D_undo w ).1)) (F_D_undo w ).2) : z_Wc (d + 2) m_X11_undo [zR 27] w Q := by
  unfold P_D_undo at h
  unfold F_D_undo at k
  refine z_enter rfl (Nat.le_of_ble_eq_true rfl) ?_
  show z_Wp m_X11_undo _ 0 [(0, zR 27)] [] w _
  refine z_aload_n (pc' := 1) 0 rfl rfl dX11_undo_0 rfl ?_
  refine z_getR (t := 53) (pc' := 4) g_X11_54 (by decide) rfl rfl dX11_undo_1 rfl ?_
  refine z_aload_n (pc' := 5) 0 rfl rfl dX11_undo_4 rfl ?_
  refine z_getR (t := 41) (pc' := 8) g_X11_44 (by decide) rfl rfl dX11_undo_5 rfl ?_
  refine z_invV (as := [zR 41]) (st := []) (C := m_X2_takeBack) (fs := [56, 0, 0]) (pc' := 11) dX11_undo_8 rfl t_4_170 k_X2_takeBack rfl (by decide) rfl rfl rfl rfl (Nat.le_of_ble_eq_true rfl) ?_
  obtain ⟨r1, h⟩ := h
  refine c_H_takeBack_41 r1 ?_
  show z_Wp m_X11_undo _ 11 [(0, zR 27)] [zI ((F_H_takeBack_41 w).1)] ((F_H_takeBack_41 w).2) _
  have r2 := h
  refine z_if_eq 24 dX11_undo_11 (by decide) (pc' := 14) rfl r2 (fun c => ?_) (fun c => ?_)
  · skip
    rw [if_pos c] at k
    refine z_iconst (pc' := 25) dX11_undo_24 rfl ?_
    refine z_iret rfl dX11_undo_25 ?_
    exact k
  · skip
    rw [if_neg c] at k
    refine z_aload_n (pc' := 15) 0 rfl rfl dX11_undo_14 rfl ?_
    refine z_getR (t := 53) (pc' := 18) g_X11_54 (by decide) rfl rfl dX11_undo_15 rfl ?_
    refine z_invV (as := []) (st := []) (C := m_X2_acts) (fs := [56, 0, 0]) (pc' := 21) dX11_undo_18 rfl t_4_178 k_X2_acts rfl (by decide) rfl rfl rfl rfl (Nat.le_of_ble_eq_true rfl) ?_
    refine c_H_acts ?_
    show z_Wp m_X11_undo _ 21 [(0, zR 27)] [zI (((F_H_takeBack_41 w).2) 53 2)] ((F_H_takeBack_41 w).2) _
    refine z_goto 25 dX11_undo_21 (by decide) ?_
    refine z_iret rfl dX11_undo_25 ?_
    exact k
def P_D_layer (w : z_Wd) (a0 : Int) (a1 : Int) : Prop := (P_Y_hasWell w a0) ∧ ((F_Y_hasWell w a0 = 0 → True) ∧ (¬ (F_Y_hasWell w a0 = 0) → P_K_lyingAt w a0 a1))
def F_D_layer (w : z_Wd) (a0 : Int) (a1 : Int) : Int := if F_Y_hasWell w a0 = 0 then (-1) else F_K_lyingAt w a0 a1
set_option maxRecDepth 4000 in
theorem c_D_layer {d : Nat} {w : z_Wd} {a0 a1 : Int} {Q : Option z_V → z_Wd → Prop} (h : P_D_layer w a0 a1) (k : Q (some (zI (F_D_layer w a0 a1))) w) : z_Wc (d + 2) m_X11_layer [zR 27, zI a0, zI a1] w Q := by
  unfold P_D_layer at h
  unfold F_D_layer at k
  refine z_enter rfl (Nat.le_of_ble_eq_true rfl) ?_
  show z_Wp m_X11_layer _ 0 [(0, zR 27), (1, zI a0), (2, zI a1)] [] w _
  refine z_aload_n (pc' := 1) 0 rfl rfl dX11_layer_0 rfl ?_
  refine z_getR (t := 30) (pc' := 4) g_X11_19 (by decide) rfl rfl dX11_layer_1 rfl ?_
  refine z_iload_n (pc' := 5) 1 rfl rfl dX11_layer_4 rfl ?_
  refine z_invV (as := [zI a0]) (st := []) (C := m_X6_hasWell) (fs := [33, 34]) (pc' := 8) dX11_layer_5 rfl t_3_115 k_X6_hasWell rfl (by decide) rfl rfl rfl rfl (Nat.le_of_ble_eq_true rfl) ?_
  obtain ⟨r1, h⟩ := h
  refine c_Y_hasWell r1 ?_
  show z_Wp m_X11_layer _ 8 [(0, zR 27), (1, zI a0), (2, zI a1)] [zI (F_Y_hasWell w a0)] w _
  refine z_if_eq 23 dX11_layer_8 (by decide) (pc' := 11) rfl (z_rb b_Y_hasWell) (fun c => ?_) (fun c => ?_)
  · have h := h.1 c
    rw [if_pos c] at k
    refine z_iconst (pc' := 24) dX11_layer_23 rfl ?_
    refine z_iret rfl dX11_layer_24 ?_
    exact k
  · have h := h.2 c
    rw [if_neg c] at k
    refine z_aload_n (pc' := 12) 0 rfl rfl dX11_layer_11 rfl ?_
    refine z_getR (t := 41) (pc' := 15) g_X11_44 (by decide) rfl rfl dX11_layer_12 rfl ?_
    refine z_iload_n (pc' := 16) 1 rfl rfl dX11_layer_15 rfl ?_
    refine z_iload_n (pc' := 17) 2 rfl rfl dX11_layer_16 rfl ?_
    refine z_invV (as := [zI a0, zI a1]) (st := []) (C := m_X3_lyingAt) (fs := [32, 44, 45, 46, 47, 48, 0, 0, 0]) (pc' := 20) dX11_layer_17 rfl t_4_202 k_X3_lyingAt rfl (by decide) rfl rfl rfl rfl (Nat.le_of_ble_eq_true rfl) ?_
    have r2 := h
    refine c_K_lyingAt r2 ?_
    show z_Wp m_X11_layer _ 20 [(0, zR 27), (1, zI a0), (2, zI a1)] [zI (F_K_lyingAt w a0 a1)] w _
    refine z_goto 24 dX11_layer_20 (by decide) ?_
    refine z_iret rfl dX11_layer_24 ?_
    exact k
def P_D_reach (w : z_Wd) (a0 : Int) : Prop := (P_Y_hasName w a0) ∧ ((F_Y_hasName w a0 = 0 → True) ∧ (¬ (F_Y_hasName w a0 = 0) → P_N_fewestDrops w a0))
def F_D_reach (w : z_Wd) (a0 : Int) : Int := if F_Y_hasName w a0 = 0 then (-1) else F_N_fewestDrops w a0
set_option maxRecDepth 4000 in
theorem c_D_reach {d : Nat} {w : z_Wd} {a0 : Int} {Q : Option z_V → z_Wd → Prop} (h : P_D_reach w a0) (k : Q (some (zI (F_D_reach w a0))) w) : z_Wc (d + 4) m_X11_reach [zR 27, zI a0] w Q := by
  unfold P_D_reach at h
  unfold F_D_reach at k
  refine z_enter rfl (Nat.le_of_ble_eq_true rfl) ?_
  show z_Wp m_X11_reach _ 0 [(0, zR 27), (1, zI a0)] [] w _
  refine z_aload_n (pc' := 1) 0 rfl rfl dX11_reach_0 rfl ?_
  refine z_getR (t := 30) (pc' := 4) g_X11_19 (by decide) rfl rfl dX11_reach_1 rfl ?_
  refine z_iload_n (pc' := 5) 1 rfl rfl dX11_reach_4 rfl ?_
  refine z_invV (as := [zI a0]) (st := []) (C := m_X6_hasName) (fs := [33, 34]) (pc' := 8) dX11_reach_5 rfl t_3_182 k_X6_hasName rfl (by decide) rfl rfl rfl rfl (Nat.le_of_ble_eq_true rfl) ?_
  obtain ⟨r1, h⟩ := h
  refine c_Y_hasName r1 ?_
  show z_Wp m_X11_reach _ 8 [(0, zR 27), (1, zI a0)] [zI (F_Y_hasName w a0)] w _
  refine z_if_eq 22 dX11_reach_8 (by decide) (pc' := 11) rfl (z_rb b_Y_hasName) (fun c => ?_) (fun c => ?_)
  · have h := h.1 c
    rw [if_pos c] at k
    refine z_iconst (pc' := 23) dX11_reach_22 rfl ?_
    refine z_iret rfl dX11_reach_23 ?_
    exact k
  · have h := h.2 c
    rw [if_neg c] at k
    refine z_aload_n (pc' := 12) 0 rfl rfl dX11_reach_11 rfl ?_
    refine z_getR (t := 76) (pc' := 15) g_X11_84 (by decide) rfl rfl dX11_reach_12 rfl ?_
    refine z_iload_n (pc' := 16) 1 rfl rfl dX11_reach_15 rfl ?_
    refine z_invV (as := [zI a0]) (st := []) (C := m_X8_fewestDrops) (fs := [32, 43, 79]) (pc' := 19) dX11_reach_16 rfl t_4_207 k_X8_fewestDrops rfl (by decide) rfl rfl rfl rfl (Nat.le_of_ble_eq_true rfl) ?_
    have r2 := h
    refine c_N_fewestDrops r2 ?_
    show z_Wp m_X11_reach _ 19 [(0, zR 27), (1, zI a0)] [zI (F_N_fewestDrops w a0)] w _
    refine z_goto 23 dX11_reach_19 (by decide) ?_
    refine z_iret rfl dX11_reach_23 ?_
    exact k
def P_D_silence (w : z_Wd) (a0 : Int) : Prop := (P_Y_stands w) ∧ ((F_Y_stands w = 0 → True) ∧ (¬ (F_Y_stands w = 0) → (-2147483648 ≤ a0 ∧ a0 < 2147483648) ∧ ((a0 < 0 → True) ∧ (¬ (a0 < 0) → (-2147483648 ≤ (zz_shl 1 (w 32 2)) - 1 ∧ (zz_shl 1 (w 32 2)) - 1 < 2147483648) ∧ ((a0 ≤ (zz_shl 1 (w 32 2)) - 1 → (P_K_inside w (-1)) ∧ (P_P_silenced w (zz_or a0 (zz_and ((zz_shl 1 (w 32 2)) - 1) (zz_xor (F_K_inside w (-1)) (-1)))))) ∧ (¬ (a0 ≤ (zz_shl 1 (w 32 2)) - 1) → True))))))
def F_D_silence (w : z_Wd) (a0 : Int) : Int := if F_Y_stands w = 0 then (-1) else if a0 < 0 then (-1) else if a0 ≤ (zz_shl 1 (w 32 2)) - 1 then F_P_silenced w (zz_or a0 (zz_and ((zz_shl 1 (w 32 2)) - 1) (zz_xor (F_K_inside w (-1)) (-1)))) else (-1)
set_option maxRecDepth 4000 in
theorem c_D_silence {d : Nat} {w : z_Wd} {a0 : Int} {Q : Option z_V → z_Wd → Prop} (h : P_D_silence w a0) (k : Q (some (zI (F_D_silence w a0))) w) : z_Wc (d + 3) m_X11_silence [zR 27, zI a0] w Q := by
  unfold P_D_silence at h
  unfold F_D_silence at k
  refine z_enter rfl (Nat.le_of_ble_eq_true rfl) ?_
  show z_Wp m_X11_silence _ 0 [(0, zR 27), (1, zI a0)] [] w _
  refine z_aload_n (pc' := 1) 0 rfl rfl dX11_silence_0 rfl ?_
  refine z_getR (t := 30) (pc' := 4) g_X11_19 (by decide) rfl rfl dX11_silence_1 rfl ?_
  refine z_invV (as := []) (st := []) (C := m_X6_stands) (fs := [33, 34]) (pc' := 7) dX11_silence_4 rfl t_3_99 k_X6_stands rfl (by decide) rfl rfl rfl rfl (Nat.le_of_ble_eq_true rfl) ?_
  obtain ⟨r1, h⟩ := h
  refine c_Y_stands r1 ?_
  show z_Wp m_X11_silence _ 7 [(0, zR 27), (1, zI a0)] [zI (F_Y_stands w)] w _
  refine z_if_eq 25 dX11_silence_7 (by decide) (pc' := 10) rfl (z_rb b_Y_stands) (fun c => ?_) (fun c => ?_)
  · have h := h.1 c
    rw [if_pos c] at k
    refine z_iconst (pc' := 26) dX11_silence_25 rfl ?_
    refine z_iret rfl dX11_silence_26 ?_
    exact k
  · have h := h.2 c
    rw [if_neg c] at k
    refine z_iload_n (pc' := 11) 1 rfl rfl dX11_silence_10 rfl ?_
    obtain ⟨r2, h⟩ := h
    refine z_if_lt 25 dX11_silence_11 (by decide) (pc' := 14) rfl r2 (fun c => ?_) (fun c => ?_)
    · have h := h.1 c
      rw [if_pos c] at k
      refine z_iconst (pc' := 26) dX11_silence_25 rfl ?_
      refine z_iret rfl dX11_silence_26 ?_
      exact k
    · have h := h.2 c
      rw [if_neg c] at k
      refine z_iload_n (pc' := 15) 1 rfl rfl dX11_silence_14 rfl ?_
      refine z_aload_n (pc' := 16) 0 rfl rfl dX11_silence_15 rfl ?_
      refine z_getR (t := 30) (pc' := 19) g_X11_19 (by decide) rfl rfl dX11_silence_16 rfl ?_
      refine z_invV (as := []) (st := [zI a0]) (C := m_X6_all) (fs := [33, 34]) (pc' := 22) dX11_silence_19 rfl t_4_219 k_X6_all rfl (by decide) rfl rfl rfl rfl (Nat.le_of_ble_eq_true rfl) ?_
      refine c_Y_all ?_
      show z_Wp m_X11_silence _ 22 [(0, zR 27), (1, zI a0)] [zI ((zz_shl 1 (w 32 2)) - 1), zI a0] w _
      obtain ⟨r3, h⟩ := h
      refine z_icmp_le 27 dX11_silence_22 (by decide) (pc' := 25) rfl r2 r3 (fun c => ?_) (fun c => ?_)
      · have h := h.1 c
        rw [if_pos c] at k
        refine z_aload_n (pc' := 28) 0 rfl rfl dX11_silence_27 rfl ?_
        refine z_getR (t := 70) (pc' := 31) g_X11_70 (by decide) rfl rfl dX11_silence_28 rfl ?_
        refine z_iload_n (pc' := 32) 1 rfl rfl dX11_silence_31 rfl ?_
        refine z_aload_n (pc' := 33) 0 rfl rfl dX11_silence_32 rfl ?_
        refine z_getR (t := 41) (pc' := 36) g_X11_44 (by decide) rfl rfl dX11_silence_33 rfl ?_
        refine z_invV (as := []) (st := [zI a0, zR 70]) (C := m_X3_drowned) (fs := [32, 44, 45, 46, 47, 48, 0, 0, 0]) (pc' := 39) dX11_silence_36 rfl t_3_158 k_X3_drowned rfl (by decide) rfl rfl rfl rfl (Nat.le_of_ble_eq_true rfl) ?_
        obtain ⟨r4, h⟩ := h
        refine c_K_drowned r4 ?_
        show z_Wp m_X11_silence _ 39 [(0, zR 27), (1, zI a0)] [zI (zz_and ((zz_shl 1 (w 32 2)) - 1) (zz_xor (F_K_inside w (-1)) (-1))), zI a0, zR 70] w _
        refine z_ior (pc' := 40) dX11_silence_39 rfl ?_
        refine z_invV (as := [zI (zz_or a0 (zz_and ((zz_shl 1 (w 32 2)) - 1) (zz_xor (F_K_inside w (-1)) (-1))))]) (st := []) (C := m_X9_silenced) (fs := [32, 43, 73, 0, 0]) (pc' := 43) dX11_silence_40 rfl t_5_6 k_X9_silenced rfl (by decide) rfl rfl rfl rfl (Nat.le_of_ble_eq_true rfl) ?_
        have r5 := h
        refine c_P_silenced r5 ?_
        show z_Wp m_X11_silence _ 43 [(0, zR 27), (1, zI a0)] [zI (F_P_silenced w (zz_or a0 (zz_and ((zz_shl 1 (w 32 2)) - 1) (zz_xor (F_K_inside w (-1)) (-1)))))] w _
        refine z_iret rfl dX11_silence_43 ?_
        exact k
      · have h := h.2 c
        rw [if_neg c] at k
        refine z_iconst (pc' := 26) dX11_silence_25 rfl ?_
        refine z_iret rfl dX11_silence_26 ?_
        exact k
def P_D_seen (w : z_Wd) (a0 : Int) (a1 : Int) : Prop := P_C_note w a0 a1
def F_D_seen (w : z_Wd) (a0 : Int) (a1 : Int) : Int × z_Wd := ((F_C_note w a0 a1).1, (F_C_note w a0 a1).2)
set_option maxRecDepth 4000 in
theorem c_D_seen {d : Nat} {w : z_Wd} {a0 a1 : Int} {Q : Option z_V → z_Wd → Prop} (h : P_D_seen w a0 a1) (k : Q (some (zI (F_D_seen w a0 a1).1)) (F_D_seen w a0 a1).2) : z_Wc (d + 2) m_X11_seen [zR 27, zI a0, zI a1] w Q := by
  unfold P_D_seen at h
  unfold F_D_seen at k
  refine z_enter rfl (Nat.le_of_ble_eq_true rfl) ?_
  show z_Wp m_X11_seen _ 0 [(0, zR 27), (1, zI a0), (2, zI a1)] [] w _
  refine z_aload_n (pc' := 1) 0 rfl rfl dX11_seen_0 rfl ?_
  refine z_getR (t := 72) (pc' := 4) g_X11_77 (by decide) rfl rfl dX11_seen_1 rfl ?_
  refine z_iload_n (pc' := 5) 1 rfl rfl dX11_seen_4 rfl ?_
  refine z_iload_n (pc' := 6) 2 rfl rfl dX11_seen_5 rfl ?_
  refine z_invV (as := [zI a0, zI a1]) (st := []) (C := m_X0_note) (fs := [32, 75, 76, 77, 0]) (pc' := 9) dX11_seen_6 rfl t_5_15 k_X0_note rfl (by decide) rfl rfl rfl rfl (Nat.le_of_ble_eq_true rfl) ?_
  have r1 := h
  refine c_C_note r1 ?_
  show z_Wp m_X11_seen _ 9 [(0, zR 27), (1, zI a0), (2, zI a1)] [zI ((F_C_note w a0 a1).1)] ((F_C_note w a0 a1).2) _
  refine z_iret rfl dX11_seen_9 ?_
  exact k
def P_D_game (w : z_Wd) (a0 : Int) (a1 : Int) (a2 : Int) (a3 : Int) (a4 : Int) (a5 : Int) : Prop := (P_D_canPlay w a0 a1 a2) ∧ ((F_D_canPlay w a0 a1 a2 = 0 → True) ∧ (¬ (F_D_canPlay w a0 a1 a2 = 0) → (-2147483648 ≤ a3 ∧ a3 < 2147483648) ∧ ((a3 < 0 → True) ∧ (¬ (a3 < 0) → (a3 > 9 → True) ∧ (¬ (a3 > 9) → (-2147483648 ≤ a4 ∧ a4 < 2147483648) ∧ ((a4 < 0 → True) ∧ (¬ (a4 < 0) → (a4 ≤ 9 → (P_N_setUp w a2) ∧ (-2147483648 ≤ a5 ∧ a5 < 2147483648) ∧ ((a5 = 0 → P_N_gain (F_N_setUp w a2) a0 a3 a4) ∧ (¬ a5 = 0 → (a5 = 1 → P_N_gain (F_N_setUp w a2) a1 a4 a3) ∧ (¬ a5 = 1 → True)))) ∧ (¬ (a4 ≤ 9) → True))))))))
def F_D_game (w : z_Wd) (a0 : Int) (a1 : Int) (a2 : Int) (a3 : Int) (a4 : Int) (a5 : Int) : Int × z_Wd := if F_D_canPlay w a0 a1 a2 = 0 then ((-1000000), w) else if a3 < 0 then ((-1000000), w) else if a3 > 9 then ((-1000000), w) else if a4 < 0 then ((-1000000), w) else if a4 ≤ 9 then if a5 = 0 then (F_N_gain (F_N_setUp w a2) a0 a3 a4, F_N_setUp w a2) else if a5 = 1 then (F_N_gain (F_N_setUp w a2) a1 a4 a3, F_N_setUp w a2) else ((-1000000), F_N_setUp w a2) else ((-1000000), w)
set_option maxRecDepth 4000 in
theorem c_D_game {d : Nat} {w : z_Wd} {a0 a1 a2 a3 a4 a5 : Int} {Q : Option z_V → z_Wd → Prop} (h : P_D_game w a0 a1 a2 a3 a4 a5) (k : Q (some (zI (F_D_game w a0 a1 a2 a3 a4 a5).1)) (F_D_game w a0 a1 a2 a3 a4 a5).2) : z_Wc (d + 5) m_X11_game [zR 27, zI a0, zI a1, zI a2, zI a3, zI a4, zI a5] w Q := by
  unfold P_D_game at h
  unfold F_D_game at k
  refine z_enter rfl (Nat.le_of_ble_eq_true rfl) ?_
  show z_Wp m_X11_game _ 0 [(0, zR 27), (1, zI a0), (2, zI a1), (3, zI a2), (4, zI a3), (5, zI a4), (6, zI a5)] [] w _
  refine z_aload_n (pc' := 1) 0 rfl rfl dX11_game_0 rfl ?_
  refine z_iload_n (pc' := 2) 1 rfl rfl dX11_game_1 rfl ?_
  refine z_iload_n (pc' := 3) 2 rfl rfl dX11_game_2 rfl ?_
  refine z_iload_n (pc' := 4) 3 rfl rfl dX11_game_3 rfl ?_
  refine z_invV (as := [zI a0, zI a1, zI a2]) (st := []) (C := m_X11_canPlay) (fs := [30, 32, 35, 39, 43, 49, 55, 57, 72, 74, 78, 80, 0, 0, 1]) (pc' := 7) dX11_game_4 rfl t_5_70 k_X11_canPlay rfl (by decide) rfl rfl rfl rfl (Nat.le_of_ble_eq_true rfl) ?_
  obtain ⟨r1, h⟩ := h
  refine c_D_canPlay r1 ?_
  show z_Wp m_X11_game _ 7 [(0, zR 27), (1, zI a0), (2, zI a1), (3, zI a2), (4, zI a3), (5, zI a4), (6, zI a5)] [zI (F_D_canPlay w a0 a1 a2)] w _
  refine z_if_eq 34 dX11_game_7 (by decide) (pc' := 10) rfl (z_rb b_D_canPlay) (fun c => ?_) (fun c => ?_)
  · have h := h.1 c
    rw [if_pos c] at k
    refine z_ldcw (n := (-1000000)) (pc' := 37) t_5_74 (by decide) dX11_game_34 rfl ?_
    refine z_iret rfl dX11_game_37 ?_
    exact k
  · have h := h.2 c
    rw [if_neg c] at k
    refine z_iload (pc' := 12) 4 rfl dX11_game_10 rfl ?_
    obtain ⟨r2, h⟩ := h
    refine z_if_lt 34 dX11_game_12 (by decide) (pc' := 15) rfl r2 (fun c => ?_) (fun c => ?_)
    · have h := h.1 c
      rw [if_pos c] at k
      refine z_ldcw (n := (-1000000)) (pc' := 37) t_5_74 (by decide) dX11_game_34 rfl ?_
      refine z_iret rfl dX11_game_37 ?_
      exact k
    · have h := h.2 c
      rw [if_neg c] at k
      refine z_iload (pc' := 17) 4 rfl dX11_game_15 rfl ?_
      refine z_bipush (pc' := 19) (by decide) dX11_game_17 rfl ?_
      refine z_icmp_gt 34 dX11_game_19 (by decide) (pc' := 22) rfl r2 (by decide) (fun c => ?_) (fun c => ?_)
      · have h := h.1 c
        rw [if_pos c] at k
        refine z_ldcw (n := (-1000000)) (pc' := 37) t_5_74 (by decide) dX11_game_34 rfl ?_
        refine z_iret rfl dX11_game_37 ?_
        exact k
      · have h := h.2 c
        rw [if_neg c] at k
        refine z_iload (pc' := 24) 5 rfl dX11_game_22 rfl ?_
        obtain ⟨r3, h⟩ := h
        refine z_if_lt 34 dX11_game_24 (by decide) (pc' := 27) rfl r3 (fun c => ?_) (fun c => ?_)
        · have h := h.1 c
          rw [if_pos c] at k
          refine z_ldcw (n := (-1000000)) (pc' := 37) t_5_74 (by decide) dX11_game_34 rfl ?_
          refine z_iret rfl dX11_game_37 ?_
          exact k
        · have h := h.2 c
          rw [if_neg c] at k
          refine z_iload (pc' := 29) 5 rfl dX11_game_27 rfl ?_
          refine z_bipush (pc' := 31) (by decide) dX11_game_29 rfl ?_
          refine z_icmp_le 38 dX11_game_31 (by decide) (pc' := 34) rfl r3 (by decide) (fun c => ?_) (fun c => ?_)
          · have h := h.1 c
            rw [if_pos c] at k
            refine z_aload_n (pc' := 39) 0 rfl rfl dX11_game_38 rfl ?_
            refine z_getR (t := 76) (pc' := 42) g_X11_84 (by decide) rfl rfl dX11_game_39 rfl ?_
            refine z_iload_n (pc' := 43) 3 rfl rfl dX11_game_42 rfl ?_
            refine z_invV (as := [zI a2]) (st := []) (C := m_X8_setUp) (fs := [32, 43, 79]) (pc' := 46) dX11_game_43 rfl t_5_75 k_X8_setUp rfl (by decide) rfl rfl rfl rfl (Nat.le_of_ble_eq_true rfl) ?_
            obtain ⟨r4, h⟩ := h
            refine c_N_setUp r4 ?_
            show z_Wp m_X11_game _ 46 [(0, zR 27), (1, zI a0), (2, zI a1), (3, zI a2), (4, zI a3), (5, zI a4), (6, zI a5)] [] (F_N_setUp w a2) _
            refine z_iload (pc' := 48) 6 rfl dX11_game_46 rfl ?_
            obtain ⟨r5, h⟩ := h
            refine z_lookup dX11_game_48 (by decide) r5 ⟨fun c0 => ⟨76, by decide, ?_⟩, fun c0 => ⟨fun c1 => ⟨89, by decide, ?_⟩, fun c1 => ⟨102, by decide, ?_⟩⟩⟩
            · skip
              have c0 : a5 = 0 := c0
              have h := h.1 c0
              rw [if_pos c0] at k
              refine z_aload_n (pc' := 77) 0 rfl rfl dX11_game_76 rfl ?_
              refine z_getR (t := 76) (pc' := 80) g_X11_84 (by decide) rfl rfl dX11_game_77 rfl ?_
              refine z_iload_n (pc' := 81) 1 rfl rfl dX11_game_80 rfl ?_
              refine z_iload (pc' := 83) 4 rfl dX11_game_81 rfl ?_
              refine z_iload (pc' := 85) 5 rfl dX11_game_83 rfl ?_
              refine z_invV (as := [zI a0, zI a3, zI a4]) (st := []) (C := m_X8_gain) (fs := [32, 43, 79]) (pc' := 88) dX11_game_85 rfl t_5_80 k_X8_gain rfl (by decide) rfl rfl rfl rfl (Nat.le_of_ble_eq_true rfl) ?_
              have r6 := h
              refine c_N_gain r6 ?_
              show z_Wp m_X11_game _ 88 [(0, zR 27), (1, zI a0), (2, zI a1), (3, zI a2), (4, zI a3), (5, zI a4), (6, zI a5)] [zI (F_N_gain (F_N_setUp w a2) a0 a3 a4)] (F_N_setUp w a2) _
              refine z_iret rfl dX11_game_88 ?_
              exact k
            · skip
              have c0 : ¬ a5 = 0 := c0
              have h := h.2 c0
              rw [if_neg c0] at k
              have c1 : a5 = 1 := c1
              have h := h.1 c1
              rw [if_pos c1] at k
              refine z_aload_n (pc' := 90) 0 rfl rfl dX11_game_89 rfl ?_
              refine z_getR (t := 76) (pc' := 93) g_X11_84 (by decide) rfl rfl dX11_game_90 rfl ?_
              refine z_iload_n (pc' := 94) 2 rfl rfl dX11_game_93 rfl ?_
              refine z_iload (pc' := 96) 5 rfl dX11_game_94 rfl ?_
              refine z_iload (pc' := 98) 4 rfl dX11_game_96 rfl ?_
              refine z_invV (as := [zI a1, zI a4, zI a3]) (st := []) (C := m_X8_gain) (fs := [32, 43, 79]) (pc' := 101) dX11_game_98 rfl t_5_80 k_X8_gain rfl (by decide) rfl rfl rfl rfl (Nat.le_of_ble_eq_true rfl) ?_
              have r7 := h
              refine c_N_gain r7 ?_
              show z_Wp m_X11_game _ 101 [(0, zR 27), (1, zI a0), (2, zI a1), (3, zI a2), (4, zI a3), (5, zI a4), (6, zI a5)] [zI (F_N_gain (F_N_setUp w a2) a1 a4 a3)] (F_N_setUp w a2) _
              refine z_iret rfl dX11_game_101 ?_
              exact k
            · skip
              have c0 : ¬ a5 = 0 := c0
              have h := h.2 c0
              rw [if_neg c0] at k
              have c1 : ¬ a5 = 1 := c1
              have h := h.2 c1
              rw [if_neg c1] at k
              refine z_ldcw (n := (-1000000)) (pc' := 105) t_5_74 (by decide) dX11_game_102 rfl ?_
              refine z_iret rfl dX11_game_105 ?_
              exact k
          · have h := h.2 c
            rw [if_neg c] at k
            refine z_ldcw (n := (-1000000)) (pc' := 37) t_5_74 (by decide) dX11_game_34 rfl ?_
            refine z_iret rfl dX11_game_37 ?_
            exact k
def P_D_shares (w : z_Wd) (a0 : Int) (a1 : Int) : Prop := (P_Y_hasWell w a0) ∧ ((F_Y_hasWell w a0 = 0 → True) ∧ (¬ (F_Y_hasWell w a0 = 0) → (-2147483648 ≤ a1 ∧ a1 < 2147483648) ∧ ((a1 < 0 → True) ∧ (¬ (a1 < 0) → (a1 ≤ 999 → (P_K_inside w (-1)) ∧ (P_Y_dropsOf w (zz_and ((zz_shl 1 (w 32 2)) - 1) (zz_xor (F_K_inside w (-1)) (-1)))) ∧ (-2147483648 ≤ F_Y_dropsOf w (zz_and ((zz_shl 1 (w 32 2)) - 1) (zz_xor (F_K_inside w (-1)) (-1))) ∧ F_Y_dropsOf w (zz_and ((zz_shl 1 (w 32 2)) - 1) (zz_xor (F_K_inside w (-1)) (-1))) < 2147483648) ∧ ((F_Y_dropsOf w (zz_and ((zz_shl 1 (w 32 2)) - 1) (zz_xor (F_K_inside w (-1)) (-1))) ≤ 0 → True) ∧ (¬ (F_Y_dropsOf w (zz_and ((zz_shl 1 (w 32 2)) - 1) (zz_xor (F_K_inside w (-1)) (-1))) ≤ 0) → (P_K_inside w a0) ∧ (P_Y_dropsOf w (F_K_inside w a0)) ∧ ((F_Y_dropsOf w (zz_and ((zz_shl 1 (w 32 2)) - 1) (zz_xor (F_K_inside w (-1)) (-1)))) ≠ 0) ∧ (-2147483648 ≤ a1 * (F_Y_dropsOf w (F_K_inside w a0)) ∧ a1 * (F_Y_dropsOf w (F_K_inside w a0)) < 2147483648)))) ∧ (¬ (a1 ≤ 999) → True)))))
def F_D_shares (w : z_Wd) (a0 : Int) (a1 : Int) : Int := if F_Y_hasWell w a0 = 0 then (-1) else if a1 < 0 then (-1) else if a1 ≤ 999 then if F_Y_dropsOf w (zz_and ((zz_shl 1 (w 32 2)) - 1) (zz_xor (F_K_inside w (-1)) (-1))) ≤ 0 then 0 else Int.tdiv (a1 * (F_Y_dropsOf w (F_K_inside w a0))) (F_Y_dropsOf w (zz_and ((zz_shl 1 (w 32 2)) - 1) (zz_xor (F_K_inside w (-1)) (-1)))) else (-1)
set_option maxRecDepth 4000 in
theorem c_D_shares {d : Nat} {w : z_Wd} {a0 a1 : Int} {Q : Option z_V → z_Wd → Prop} (h : P_D_shares w a0 a1) (k : Q (some (zI (F_D_shares w a0 a1))) w) : z_Wc (d + 3) m_X11_shares [zR 27, zI a0, zI a1] w Q := by
  unfold P_D_shares at h
  unfold F_D_shares at k
  refine z_enter rfl (Nat.le_of_ble_eq_true rfl) ?_
  show z_Wp m_X11_shares _ 0 [(0, zR 27), (1, zI a0), (2, zI a1)] [] w _
  refine z_aload_n (pc' := 1) 0 rfl rfl dX11_shares_0 rfl ?_
  refine z_getR (t := 30) (pc' := 4) g_X11_19 (by decide) rfl rfl dX11_shares_1 rfl ?_
  refine z_iload_n (pc' := 5) 1 rfl rfl dX11_shares_4 rfl ?_
  refine z_invV (as := [zI a0]) (st := []) (C := m_X6_hasWell) (fs := [33, 34]) (pc' := 8) dX11_shares_5 rfl t_3_115 k_X6_hasWell rfl (by decide) rfl rfl rfl rfl (Nat.le_of_ble_eq_true rfl) ?_
  obtain ⟨r1, h⟩ := h
  refine c_Y_hasWell r1 ?_
  show z_Wp m_X11_shares _ 8 [(0, zR 27), (1, zI a0), (2, zI a1)] [zI (F_Y_hasWell w a0)] w _
  refine z_if_eq 22 dX11_shares_8 (by decide) (pc' := 11) rfl (z_rb b_Y_hasWell) (fun c => ?_) (fun c => ?_)
  · have h := h.1 c
    rw [if_pos c] at k
    refine z_iconst (pc' := 23) dX11_shares_22 rfl ?_
    refine z_iret rfl dX11_shares_23 ?_
    exact k
  · have h := h.2 c
    rw [if_neg c] at k
    refine z_iload_n (pc' := 12) 2 rfl rfl dX11_shares_11 rfl ?_
    obtain ⟨r2, h⟩ := h
    refine z_if_lt 22 dX11_shares_12 (by decide) (pc' := 15) rfl r2 (fun c => ?_) (fun c => ?_)
    · have h := h.1 c
      rw [if_pos c] at k
      refine z_iconst (pc' := 23) dX11_shares_22 rfl ?_
      refine z_iret rfl dX11_shares_23 ?_
      exact k
    · have h := h.2 c
      rw [if_neg c] at k
      refine z_iload_n (pc' := 16) 2 rfl rfl dX11_shares_15 rfl ?_
      refine z_sipush (pc' := 19) (by decide) dX11_shares_16 rfl ?_
      refine z_icmp_le 24 dX11_shares_19 (by decide) (pc' := 22) rfl r2 (by decide) (fun c => ?_) (fun c => ?_)
      · have h := h.1 c
        rw [if_pos c] at k
        refine z_aload_n (pc' := 25) 0 rfl rfl dX11_shares_24 rfl ?_
        refine z_getR (t := 30) (pc' := 28) g_X11_19 (by decide) rfl rfl dX11_shares_25 rfl ?_
        refine z_aload_n (pc' := 29) 0 rfl rfl dX11_shares_28 rfl ?_
        refine z_getR (t := 41) (pc' := 32) g_X11_44 (by decide) rfl rfl dX11_shares_29 rfl ?_
        refine z_invV (as := []) (st := [zR 30]) (C := m_X3_drowned) (fs := [32, 44, 45, 46, 47, 48, 0, 0, 0]) (pc' := 35) dX11_shares_32 rfl t_3_158 k_X3_drowned rfl (by decide) rfl rfl rfl rfl (Nat.le_of_ble_eq_true rfl) ?_
        obtain ⟨r3, h⟩ := h
        refine c_K_drowned r3 ?_
        show z_Wp m_X11_shares _ 35 [(0, zR 27), (1, zI a0), (2, zI a1)] [zI (zz_and ((zz_shl 1 (w 32 2)) - 1) (zz_xor (F_K_inside w (-1)) (-1))), zR 30] w _
        refine z_invV (as := [zI (zz_and ((zz_shl 1 (w 32 2)) - 1) (zz_xor (F_K_inside w (-1)) (-1)))]) (st := []) (C := m_X6_dropsOf) (fs := [33, 34]) (pc' := 38) dX11_shares_35 rfl t_5_123 k_X6_dropsOf rfl (by decide) rfl rfl rfl rfl (Nat.le_of_ble_eq_true rfl) ?_
        obtain ⟨r4, h⟩ := h
        refine c_Y_dropsOf r4 ?_
        show z_Wp m_X11_shares _ 38 [(0, zR 27), (1, zI a0), (2, zI a1)] [zI (F_Y_dropsOf w (zz_and ((zz_shl 1 (w 32 2)) - 1) (zz_xor (F_K_inside w (-1)) (-1))))] w _
        refine z_istore_n (pc' := 39) (ls' := [(0, zR 27), (1, zI a0), (2, zI a1), (3, zI (F_Y_dropsOf w (zz_and ((zz_shl 1 (w 32 2)) - 1) (zz_xor (F_K_inside w (-1)) (-1)))))]) rfl (by decide) rfl rfl dX11_shares_38 rfl ?_
        refine z_iload_n (pc' := 40) 3 rfl rfl dX11_shares_39 rfl ?_
        obtain ⟨r5, h⟩ := h
        refine z_if_le 65 dX11_shares_40 (by decide) (pc' := 43) rfl r5 (fun c => ?_) (fun c => ?_)
        · have h := h.1 c
          rw [if_pos c] at k
          refine z_iconst (pc' := 66) dX11_shares_65 rfl ?_
          refine z_iret rfl dX11_shares_66 ?_
          exact k
        · have h := h.2 c
          rw [if_neg c] at k
          refine z_iload_n (pc' := 44) 2 rfl rfl dX11_shares_43 rfl ?_
          refine z_aload_n (pc' := 45) 0 rfl rfl dX11_shares_44 rfl ?_
          refine z_getR (t := 30) (pc' := 48) g_X11_19 (by decide) rfl rfl dX11_shares_45 rfl ?_
          refine z_aload_n (pc' := 49) 0 rfl rfl dX11_shares_48 rfl ?_
          refine z_getR (t := 41) (pc' := 52) g_X11_44 (by decide) rfl rfl dX11_shares_49 rfl ?_
          refine z_iload_n (pc' := 53) 1 rfl rfl dX11_shares_52 rfl ?_
          refine z_invV (as := [zI a0]) (st := [zR 30, zI a1]) (C := m_X3_inside) (fs := [32, 44, 45, 46, 47, 48, 0, 0, 0]) (pc' := 56) dX11_shares_53 rfl t_3_142 k_X3_inside rfl (by decide) rfl rfl rfl rfl (Nat.le_of_ble_eq_true rfl) ?_
          obtain ⟨r6, h⟩ := h
          refine c_K_inside r6 ?_
          show z_Wp m_X11_shares _ 56 [(0, zR 27), (1, zI a0), (2, zI a1), (3, zI (F_Y_dropsOf w (zz_and ((zz_shl 1 (w 32 2)) - 1) (zz_xor (F_K_inside w (-1)) (-1)))))] [zI (F_K_inside w a0), zR 30, zI a1] w _
          refine z_invV (as := [zI (F_K_inside w a0)]) (st := [zI a1]) (C := m_X6_dropsOf) (fs := [33, 34]) (pc' := 59) dX11_shares_56 rfl t_5_123 k_X6_dropsOf rfl (by decide) rfl rfl rfl rfl (Nat.le_of_ble_eq_true rfl) ?_
          obtain ⟨r7, h⟩ := h
          refine c_Y_dropsOf r7 ?_
          show z_Wp m_X11_shares _ 59 [(0, zR 27), (1, zI a0), (2, zI a1), (3, zI (F_Y_dropsOf w (zz_and ((zz_shl 1 (w 32 2)) - 1) (zz_xor (F_K_inside w (-1)) (-1)))))] [zI (F_Y_dropsOf w (F_K_inside w a0)), zI a1] w _
          refine z_imul (pc' := 60) dX11_shares_59 rfl ?_
          refine z_iload_n (pc' := 61) 3 rfl rfl dX11_shares_60 rfl ?_
          obtain ⟨r8, h⟩ := h
          have r9 := h
          refine z_idiv (pc' := 62) r9 r5 r8 dX11_shares_61 rfl ?_
          refine z_goto 66 dX11_shares_62 (by decide) ?_
          refine z_iret rfl dX11_shares_66 ?_
          exact k
      · have h := h.2 c
        rw [if_neg c] at k
        refine z_iconst (pc' := 23) dX11_shares_22 rfl ?_
        refine z_iret rfl dX11_shares_23 ?_
        exact k
def P_D_image (w : z_Wd)  : Prop := P_Y_stands w
def F_D_image (w : z_Wd)  : Int × z_Wd := if F_Y_stands w = 0 then ((-1), w) else ((F_K_copyFrom_47_41 w) 41 8, z_up (F_K_copyFrom_47_41 w) 27 13 1)
set_option maxRecDepth 4000 in
theorem c_D_image {d : Nat} {w : z_Wd} {Q : Option z_V → z_Wd → Prop} (h : P_D_image w ) (k : Q (some (zI (F_D_image w ).1)) (F_D_image w ).2) : z_Wc (d + 2) m_X11_image [zR 27] w Q := by
  unfold P_D_image at h
  unfold F_D_image at k
  refine z_enter rfl (Nat.le_of_ble_eq_true rfl) ?_
  show z_Wp m_X11_image _ 0 [(0, zR 27)] [] w _
  refine z_aload_n (pc' := 1) 0 rfl rfl dX11_image_0 rfl ?_
  refine z_getR (t := 30) (pc' := 4) g_X11_19 (by decide) rfl rfl dX11_image_1 rfl ?_
  refine z_invV (as := []) (st := []) (C := m_X6_stands) (fs := [33, 34]) (pc' := 7) dX11_image_4 rfl t_3_99 k_X6_stands rfl (by decide) rfl rfl rfl rfl (Nat.le_of_ble_eq_true rfl) ?_
  have r1 := h
  refine c_Y_stands r1 ?_
  show z_Wp m_X11_image _ 7 [(0, zR 27)] [zI (F_Y_stands w)] w _
  refine z_if_ne 12 dX11_image_7 (by decide) (pc' := 10) rfl (z_rb b_Y_stands) (fun c => ?_) (fun c => ?_)
  · skip
    rw [if_neg c] at k
    refine z_aload_n (pc' := 13) 0 rfl rfl dX11_image_12 rfl ?_
    refine z_getR (t := 47) (pc' := 16) g_X11_48 (by decide) rfl rfl dX11_image_13 rfl ?_
    refine z_aload_n (pc' := 17) 0 rfl rfl dX11_image_16 rfl ?_
    refine z_getR (t := 41) (pc' := 20) g_X11_44 (by decide) rfl rfl dX11_image_17 rfl ?_
    refine z_invV (as := [zR 41]) (st := []) (C := m_X3_copyFrom) (fs := [32, 50, 51, 52, 53, 54, 0, 0, 0]) (pc' := 23) dX11_image_20 rfl t_5_189 k_X3_copyFrom rfl (by decide) rfl rfl rfl rfl (Nat.le_of_ble_eq_true rfl) ?_
    refine c_K_copyFrom_47_41 ?_
    show z_Wp m_X11_image _ 23 [(0, zR 27)] [] (F_K_copyFrom_47_41 w) _
    refine z_aload_n (pc' := 24) 0 rfl rfl dX11_image_23 rfl ?_
    refine z_iconst (pc' := 25) dX11_image_24 rfl ?_
    refine z_putI (pc' := 28) p_X11_135 (by decide) rfl rfl (by decide) (by decide) dX11_image_25 rfl ?_
    refine z_aload_n (pc' := 29) 0 rfl rfl dX11_image_28 rfl ?_
    refine z_getR (t := 41) (pc' := 32) g_X11_44 (by decide) rfl rfl dX11_image_29 rfl ?_
    refine z_invV (as := []) (st := []) (C := m_X3_year) (fs := [32, 44, 45, 46, 47, 48, 0, 0, 0]) (pc' := 35) dX11_image_32 rfl t_4_62 k_X3_year rfl (by decide) rfl rfl rfl rfl (Nat.le_of_ble_eq_true rfl) ?_
    refine c_K_year ?_
    show z_Wp m_X11_image _ 35 [(0, zR 27)] [zI ((F_K_copyFrom_47_41 w) 41 8)] (z_up (F_K_copyFrom_47_41 w) 27 13 1) _
    refine z_iret rfl dX11_image_35 ?_
    exact k
  · skip
    rw [if_pos c] at k
    refine z_iconst (pc' := 11) dX11_image_10 rfl ?_
    refine z_iret rfl dX11_image_11 ?_
    exact k
def P_D_back (w : z_Wd)  : Prop := -2147483648 ≤ w 27 13 ∧ w 27 13 < 2147483648
def F_D_back (w : z_Wd)  : Int × z_Wd := if w 27 13 = 0 then ((-1), w) else ((F_H_forget (F_K_copyFrom_47 w)) 41 8, F_H_forget (F_K_copyFrom_47 w))
set_option maxRecDepth 4000 in
theorem c_D_back {d : Nat} {w : z_Wd} {Q : Option z_V → z_Wd → Prop} (h : P_D_back w ) (k : Q (some (zI (F_D_back w ).1)) (F_D_back w ).2) : z_Wc (d + 1) m_X11_back [zR 27] w Q := by
  unfold P_D_back at h
  unfold F_D_back at k
  refine z_enter rfl (Nat.le_of_ble_eq_true rfl) ?_
  show z_Wp m_X11_back _ 0 [(0, zR 27)] [] w _
  refine z_aload_n (pc' := 1) 0 rfl rfl dX11_back_0 rfl ?_
  refine z_getI2 (v := w 27 13) (pc' := 4) g_X11_135 (by decide) rfl rfl rfl dX11_back_1 rfl ?_
  have r1 := h
  refine z_if_ne 9 dX11_back_4 (by decide) (pc' := 7) rfl r1 (fun c => ?_) (fun c => ?_)
  · skip
    rw [if_neg c] at k
    refine z_aload_n (pc' := 10) 0 rfl rfl dX11_back_9 rfl ?_
    refine z_getR (t := 41) (pc' := 13) g_X11_44 (by decide) rfl rfl dX11_back_10 rfl ?_
    refine z_aload_n (pc' := 14) 0 rfl rfl dX11_back_13 rfl ?_
    refine z_getR (t := 47) (pc' := 17) g_X11_48 (by decide) rfl rfl dX11_back_14 rfl ?_
    refine z_invV (as := [zR 47]) (st := []) (C := m_X3_copyFrom) (fs := [32, 44, 45, 46, 47, 48, 0, 0, 0]) (pc' := 20) dX11_back_17 rfl t_5_189 k_X3_copyFrom rfl (by decide) rfl rfl rfl rfl (Nat.le_of_ble_eq_true rfl) ?_
    refine c_K_copyFrom_47 ?_
    show z_Wp m_X11_back _ 20 [(0, zR 27)] [] (F_K_copyFrom_47 w) _
    refine z_aload_n (pc' := 21) 0 rfl rfl dX11_back_20 rfl ?_
    refine z_getR (t := 53) (pc' := 24) g_X11_54 (by decide) rfl rfl dX11_back_21 rfl ?_
    refine z_invV (as := []) (st := []) (C := m_X2_forget) (fs := [56, 0, 0]) (pc' := 27) dX11_back_24 rfl t_3_65 k_X2_forget rfl (by decide) rfl rfl rfl rfl (Nat.le_of_ble_eq_true rfl) ?_
    refine c_H_forget ?_
    show z_Wp m_X11_back _ 27 [(0, zR 27)] [] (F_H_forget (F_K_copyFrom_47 w)) _
    refine z_aload_n (pc' := 28) 0 rfl rfl dX11_back_27 rfl ?_
    refine z_getR (t := 41) (pc' := 31) g_X11_44 (by decide) rfl rfl dX11_back_28 rfl ?_
    refine z_invV (as := []) (st := []) (C := m_X3_year) (fs := [32, 44, 45, 46, 47, 48, 0, 0, 0]) (pc' := 34) dX11_back_31 rfl t_4_62 k_X3_year rfl (by decide) rfl rfl rfl rfl (Nat.le_of_ble_eq_true rfl) ?_
    refine c_K_year ?_
    show z_Wp m_X11_back _ 34 [(0, zR 27)] [zI ((F_H_forget (F_K_copyFrom_47 w)) 41 8)] (F_H_forget (F_K_copyFrom_47 w)) _
    refine z_iret rfl dX11_back_34 ?_
    exact k
  · skip
    rw [if_pos c] at k
    refine z_iconst (pc' := 8) dX11_back_7 rfl ?_
    refine z_iret rfl dX11_back_8 ?_
    exact k
def P_D_count (w : z_Wd) (a0 : Int) : Prop := (-2147483648 ≤ a0 ∧ a0 < 2147483648) ∧ ((a0 = 0 → True) ∧ (¬ a0 = 0 → (a0 = 1 → True) ∧ (¬ a0 = 1 → (a0 = 2 → True) ∧ (¬ a0 = 2 → (a0 = 3 → True) ∧ (¬ a0 = 3 → (a0 = 4 → True) ∧ (¬ a0 = 4 → (a0 = 5 → True) ∧ (¬ a0 = 5 → (a0 = 6 → True) ∧ (¬ a0 = 6 → (a0 = 7 → True) ∧ (¬ a0 = 7 → (a0 = 8 → P_K_inside w (-1)) ∧ (¬ a0 = 8 → (a0 = 9 → True) ∧ (¬ a0 = 9 → (a0 = 10 → True) ∧ (¬ a0 = 10 → (a0 = 11 → P_J_min_7cf53 w (w 41 8) 60) ∧ (¬ a0 = 11 → (a0 = 12 → True) ∧ (¬ a0 = 12 → True))))))))))))))
def F_D_count (w : z_Wd) (a0 : Int) : Int := if a0 = 0 then w 32 2 else if a0 = 1 then w 32 1 else if a0 = 2 then w 32 3 else if a0 = 3 then w 55 4 else if a0 = 4 then w 28 1 else if a0 = 5 then w 55 5 else if a0 = 6 then w 41 8 else if a0 = 7 then w 41 7 else if a0 = 8 then zz_and ((zz_shl 1 (w 32 2)) - 1) (zz_xor (F_K_inside w (-1)) (-1)) else if a0 = 9 then w 27 12 else if a0 = 10 then w 72 4 else if a0 = 11 then F_J_min_7cf53 w (w 41 8) 60 else if a0 = 12 then w 53 2 else (-1000000)
set_option maxRecDepth 4000 in
theorem c_D_count {d : Nat} {w : z_Wd} {a0 : Int} {Q : Option z_V → z_Wd → Prop} (h : P_D_count w a0) (k : Q (some (zI (F_D_count w a0))) w) : z_Wc (d + 3) m_X11_count [zR 27, zI a0] w Q := by
  unfold P_D_count at h
  unfold F_D_count at k
  refine z_enter rfl (Nat.le_of_ble_eq_true rfl) ?_
  show z_Wp m_X11_count _ 0 [(0, zR 27), (1, zI a0)] [] w _
  refine z_iload_n (pc' := 1) 1 rfl rfl dX11_count_0 rfl ?_
  obtain ⟨r1, h⟩ := h
  refine z_table dX11_count_1 (by decide) r1 ⟨fun c0 => ⟨68, by decide, ?_⟩, fun c0 => ⟨fun c1 => ⟨76, by decide, ?_⟩, fun c1 => ⟨fun c2 => ⟨84, by decide, ?_⟩, fun c2 => ⟨fun c3 => ⟨92, by decide, ?_⟩, fun c3 => ⟨fun c4 => ⟨100, by decide, ?_⟩, fun c4 => ⟨fun c5 => ⟨108, by decide, ?_⟩, fun c5 => ⟨fun c6 => ⟨116, by decide, ?_⟩, fun c6 => ⟨fun c7 => ⟨124, by decide, ?_⟩, fun c7 => ⟨fun c8 => ⟨132, by decide, ?_⟩, fun c8 => ⟨fun c9 => ⟨140, by decide, ?_⟩, fun c9 => ⟨fun c10 => ⟨145, by decide, ?_⟩, fun c10 => ⟨fun c11 => ⟨153, by decide, ?_⟩, fun c11 => ⟨fun c12 => ⟨161, by decide, ?_⟩, fun c12 => ⟨169, by decide, ?_⟩⟩⟩⟩⟩⟩⟩⟩⟩⟩⟩⟩⟩⟩
  · skip
    have c0 : a0 = 0 := c0
    have h := h.1 c0
    rw [if_pos c0] at k
    refine z_aload_n (pc' := 69) 0 rfl rfl dX11_count_68 rfl ?_
    refine z_getR (t := 30) (pc' := 72) g_X11_19 (by decide) rfl rfl dX11_count_69 rfl ?_
    refine z_invV (as := []) (st := []) (C := m_X6_names) (fs := [33, 34]) (pc' := 75) dX11_count_72 rfl t_3_73 k_X6_names rfl (by decide) rfl rfl rfl rfl (Nat.le_of_ble_eq_true rfl) ?_
    refine c_Y_names ?_
    show z_Wp m_X11_count _ 75 [(0, zR 27), (1, zI a0)] [zI (w 32 2)] w _
    refine z_iret rfl dX11_count_75 ?_
    exact k
  · skip
    have c0 : ¬ a0 = 0 := c0
    have h := h.2 c0
    rw [if_neg c0] at k
    have c1 : a0 = 1 := c1
    have h := h.1 c1
    rw [if_pos c1] at k
    refine z_aload_n (pc' := 77) 0 rfl rfl dX11_count_76 rfl ?_
    refine z_getR (t := 30) (pc' := 80) g_X11_19 (by decide) rfl rfl dX11_count_77 rfl ?_
    refine z_invV (as := []) (st := []) (C := m_X6_wells) (fs := [33, 34]) (pc' := 83) dX11_count_80 rfl t_4_157 k_X6_wells rfl (by decide) rfl rfl rfl rfl (Nat.le_of_ble_eq_true rfl) ?_
    refine c_Y_wells ?_
    show z_Wp m_X11_count _ 83 [(0, zR 27), (1, zI a0)] [zI (w 32 1)] w _
    refine z_iret rfl dX11_count_83 ?_
    exact k
  · skip
    have c0 : ¬ a0 = 0 := c0
    have h := h.2 c0
    rw [if_neg c0] at k
    have c1 : ¬ a0 = 1 := c1
    have h := h.2 c1
    rw [if_neg c1] at k
    have c2 : a0 = 2 := c2
    have h := h.1 c2
    rw [if_pos c2] at k
    refine z_aload_n (pc' := 85) 0 rfl rfl dX11_count_84 rfl ?_
    refine z_getR (t := 30) (pc' := 88) g_X11_19 (by decide) rfl rfl dX11_count_85 rfl ?_
    refine z_invV (as := []) (st := []) (C := m_X6_files) (fs := [33, 34]) (pc' := 91) dX11_count_88 rfl t_5_201 k_X6_files rfl (by decide) rfl rfl rfl rfl (Nat.le_of_ble_eq_true rfl) ?_
    refine c_Y_files ?_
    show z_Wp m_X11_count _ 91 [(0, zR 27), (1, zI a0)] [zI (w 32 3)] w _
    refine z_iret rfl dX11_count_91 ?_
    exact k
  · skip
    have c0 : ¬ a0 = 0 := c0
    have h := h.2 c0
    rw [if_neg c0] at k
    have c1 : ¬ a0 = 1 := c1
    have h := h.2 c1
    rw [if_neg c1] at k
    have c2 : ¬ a0 = 2 := c2
    have h := h.2 c2
    rw [if_neg c2] at k
    have c3 : a0 = 3 := c3
    have h := h.1 c3
    rw [if_pos c3] at k
    refine z_aload_n (pc' := 93) 0 rfl rfl dX11_count_92 rfl ?_
    refine z_getR (t := 55) (pc' := 96) g_X11_63 (by decide) rfl rfl dX11_count_93 rfl ?_
    refine z_invV (as := []) (st := []) (C := m_X1_laws) (fs := [32, 43, 58, 59, 0, 0]) (pc' := 99) dX11_count_96 rfl t_3_78 k_X1_laws rfl (by decide) rfl rfl rfl rfl (Nat.le_of_ble_eq_true rfl) ?_
    refine c_G_laws ?_
    show z_Wp m_X11_count _ 99 [(0, zR 27), (1, zI a0)] [zI (w 55 4)] w _
    refine z_iret rfl dX11_count_99 ?_
    exact k
  · skip
    have c0 : ¬ a0 = 0 := c0
    have h := h.2 c0
    rw [if_neg c0] at k
    have c1 : ¬ a0 = 1 := c1
    have h := h.2 c1
    rw [if_neg c1] at k
    have c2 : ¬ a0 = 2 := c2
    have h := h.2 c2
    rw [if_neg c2] at k
    have c3 : ¬ a0 = 3 := c3
    have h := h.2 c3
    rw [if_neg c3] at k
    have c4 : a0 = 4 := c4
    have h := h.1 c4
    rw [if_pos c4] at k
    refine z_aload_n (pc' := 101) 0 rfl rfl dX11_count_100 rfl ?_
    refine z_getR (t := 28) (pc' := 104) g_X11_10 (by decide) rfl rfl dX11_count_101 rfl ?_
    refine z_invV (as := []) (st := []) (C := m_X10_size) (fs := [31, 0]) (pc' := 107) dX11_count_104 rfl t_2_60 k_X10_size rfl (by decide) rfl rfl rfl rfl (Nat.le_of_ble_eq_true rfl) ?_
    refine c_T_size ?_
    show z_Wp m_X11_count _ 107 [(0, zR 27), (1, zI a0)] [zI (w 28 1)] w _
    refine z_iret rfl dX11_count_107 ?_
    exact k
  · skip
    have c0 : ¬ a0 = 0 := c0
    have h := h.2 c0
    rw [if_neg c0] at k
    have c1 : ¬ a0 = 1 := c1
    have h := h.2 c1
    rw [if_neg c1] at k
    have c2 : ¬ a0 = 2 := c2
    have h := h.2 c2
    rw [if_neg c2] at k
    have c3 : ¬ a0 = 3 := c3
    have h := h.2 c3
    rw [if_neg c3] at k
    have c4 : ¬ a0 = 4 := c4
    have h := h.2 c4
    rw [if_neg c4] at k
    have c5 : a0 = 5 := c5
    have h := h.1 c5
    rw [if_pos c5] at k
    refine z_aload_n (pc' := 109) 0 rfl rfl dX11_count_108 rfl ?_
    refine z_getR (t := 55) (pc' := 112) g_X11_63 (by decide) rfl rfl dX11_count_109 rfl ?_
    refine z_invV (as := []) (st := []) (C := m_X1_holding) (fs := [32, 43, 58, 59, 0, 0]) (pc' := 115) dX11_count_112 rfl t_5_202 k_X1_holding rfl (by decide) rfl rfl rfl rfl (Nat.le_of_ble_eq_true rfl) ?_
    refine c_G_holding ?_
    show z_Wp m_X11_count _ 115 [(0, zR 27), (1, zI a0)] [zI (w 55 5)] w _
    refine z_iret rfl dX11_count_115 ?_
    exact k
  · skip
    have c0 : ¬ a0 = 0 := c0
    have h := h.2 c0
    rw [if_neg c0] at k
    have c1 : ¬ a0 = 1 := c1
    have h := h.2 c1
    rw [if_neg c1] at k
    have c2 : ¬ a0 = 2 := c2
    have h := h.2 c2
    rw [if_neg c2] at k
    have c3 : ¬ a0 = 3 := c3
    have h := h.2 c3
    rw [if_neg c3] at k
    have c4 : ¬ a0 = 4 := c4
    have h := h.2 c4
    rw [if_neg c4] at k
    have c5 : ¬ a0 = 5 := c5
    have h := h.2 c5
    rw [if_neg c5] at k
    have c6 : a0 = 6 := c6
    have h := h.1 c6
    rw [if_pos c6] at k
    refine z_aload_n (pc' := 117) 0 rfl rfl dX11_count_116 rfl ?_
    refine z_getR (t := 41) (pc' := 120) g_X11_44 (by decide) rfl rfl dX11_count_117 rfl ?_
    refine z_invV (as := []) (st := []) (C := m_X3_year) (fs := [32, 44, 45, 46, 47, 48, 0, 0, 0]) (pc' := 123) dX11_count_120 rfl t_4_62 k_X3_year rfl (by decide) rfl rfl rfl rfl (Nat.le_of_ble_eq_true rfl) ?_
    refine c_K_year ?_
    show z_Wp m_X11_count _ 123 [(0, zR 27), (1, zI a0)] [zI (w 41 8)] w _
    refine z_iret rfl dX11_count_123 ?_
    exact k
  · skip
    have c0 : ¬ a0 = 0 := c0
    have h := h.2 c0
    rw [if_neg c0] at k
    have c1 : ¬ a0 = 1 := c1
    have h := h.2 c1
    rw [if_neg c1] at k
    have c2 : ¬ a0 = 2 := c2
    have h := h.2 c2
    rw [if_neg c2] at k
    have c3 : ¬ a0 = 3 := c3
    have h := h.2 c3
    rw [if_neg c3] at k
    have c4 : ¬ a0 = 4 := c4
    have h := h.2 c4
    rw [if_neg c4] at k
    have c5 : ¬ a0 = 5 := c5
    have h := h.2 c5
    rw [if_neg c5] at k
    have c6 : ¬ a0 = 6 := c6
    have h := h.2 c6
    rw [if_neg c6] at k
    have c7 : a0 = 7 := c7
    have h := h.1 c7
    rw [if_pos c7] at k
    refine z_aload_n (pc' := 125) 0 rfl rfl dX11_count_124 rfl ?_
    refine z_getR (t := 41) (pc' := 128) g_X11_44 (by decide) rfl rfl dX11_count_125 rfl ?_
    refine z_invV (as := []) (st := []) (C := m_X3_unrest) (fs := [32, 44, 45, 46, 47, 48, 0, 0, 0]) (pc' := 131) dX11_count_128 rfl t_5_206 k_X3_unrest rfl (by decide) rfl rfl rfl rfl (Nat.le_of_ble_eq_true rfl) ?_
    refine c_K_unrest ?_
    show z_Wp m_X11_count _ 131 [(0, zR 27), (1, zI a0)] [zI (w 41 7)] w _
    refine z_iret rfl dX11_count_131 ?_
    exact k
  · skip
    have c0 : ¬ a0 = 0 := c0
    have h := h.2 c0
    rw [if_neg c0] at k
    have c1 : ¬ a0 = 1 := c1
    have h := h.2 c1
    rw [if_neg c1] at k
    have c2 : ¬ a0 = 2 := c2
    have h := h.2 c2
    rw [if_neg c2] at k
    have c3 : ¬ a0 = 3 := c3
    have h := h.2 c3
    rw [if_neg c3] at k
    have c4 : ¬ a0 = 4 := c4
    have h := h.2 c4
    rw [if_neg c4] at k
    have c5 : ¬ a0 = 5 := c5
    have h := h.2 c5
    rw [if_neg c5] at k
    have c6 : ¬ a0 = 6 := c6
    have h := h.2 c6
    rw [if_neg c6] at k
    have c7 : ¬ a0 = 7 := c7
    have h := h.2 c7
    rw [if_neg c7] at k
    have c8 : a0 = 8 := c8
    have h := h.1 c8
    rw [if_pos c8] at k
    refine z_aload_n (pc' := 133) 0 rfl rfl dX11_count_132 rfl ?_
    refine z_getR (t := 41) (pc' := 136) g_X11_44 (by decide) rfl rfl dX11_count_133 rfl ?_
    refine z_invV (as := []) (st := []) (C := m_X3_drowned) (fs := [32, 44, 45, 46, 47, 48, 0, 0, 0]) (pc' := 139) dX11_count_136 rfl t_3_158 k_X3_drowned rfl (by decide) rfl rfl rfl rfl (Nat.le_of_ble_eq_true rfl) ?_
    have r2 := h
    refine c_K_drowned r2 ?_
    show z_Wp m_X11_count _ 139 [(0, zR 27), (1, zI a0)] [zI (zz_and ((zz_shl 1 (w 32 2)) - 1) (zz_xor (F_K_inside w (-1)) (-1)))] w _
    refine z_iret rfl dX11_count_139 ?_
    exact k
  · skip
    have c0 : ¬ a0 = 0 := c0
    have h := h.2 c0
    rw [if_neg c0] at k
    have c1 : ¬ a0 = 1 := c1
    have h := h.2 c1
    rw [if_neg c1] at k
    have c2 : ¬ a0 = 2 := c2
    have h := h.2 c2
    rw [if_neg c2] at k
    have c3 : ¬ a0 = 3 := c3
    have h := h.2 c3
    rw [if_neg c3] at k
    have c4 : ¬ a0 = 4 := c4
    have h := h.2 c4
    rw [if_neg c4] at k
    have c5 : ¬ a0 = 5 := c5
    have h := h.2 c5
    rw [if_neg c5] at k
    have c6 : ¬ a0 = 6 := c6
    have h := h.2 c6
    rw [if_neg c6] at k
    have c7 : ¬ a0 = 7 := c7
    have h := h.2 c7
    rw [if_neg c7] at k
    have c8 : ¬ a0 = 8 := c8
    have h := h.2 c8
    rw [if_neg c8] at k
    have c9 : a0 = 9 := c9
    have h := h.1 c9
    rw [if_pos c9] at k
    refine z_aload_n (pc' := 141) 0 rfl rfl dX11_count_140 rfl ?_
    refine z_getI2 (v := w 27 12) (pc' := 144) g_X11_92 (by decide) rfl rfl rfl dX11_count_141 rfl ?_
    refine z_iret rfl dX11_count_144 ?_
    exact k
  · skip
    have c0 : ¬ a0 = 0 := c0
    have h := h.2 c0
    rw [if_neg c0] at k
    have c1 : ¬ a0 = 1 := c1
    have h := h.2 c1
    rw [if_neg c1] at k
    have c2 : ¬ a0 = 2 := c2
    have h := h.2 c2
    rw [if_neg c2] at k
    have c3 : ¬ a0 = 3 := c3
    have h := h.2 c3
    rw [if_neg c3] at k
    have c4 : ¬ a0 = 4 := c4
    have h := h.2 c4
    rw [if_neg c4] at k
    have c5 : ¬ a0 = 5 := c5
    have h := h.2 c5
    rw [if_neg c5] at k
    have c6 : ¬ a0 = 6 := c6
    have h := h.2 c6
    rw [if_neg c6] at k
    have c7 : ¬ a0 = 7 := c7
    have h := h.2 c7
    rw [if_neg c7] at k
    have c8 : ¬ a0 = 8 := c8
    have h := h.2 c8
    rw [if_neg c8] at k
    have c9 : ¬ a0 = 9 := c9
    have h := h.2 c9
    rw [if_neg c9] at k
    have c10 : a0 = 10 := c10
    have h := h.1 c10
    rw [if_pos c10] at k
    refine z_aload_n (pc' := 146) 0 rfl rfl dX11_count_145 rfl ?_
    refine z_getR (t := 72) (pc' := 149) g_X11_77 (by decide) rfl rfl dX11_count_146 rfl ?_
    refine z_invV (as := []) (st := []) (C := m_X0_noted) (fs := [32, 75, 76, 77, 0]) (pc' := 152) dX11_count_149 rfl t_5_207 k_X0_noted rfl (by decide) rfl rfl rfl rfl (Nat.le_of_ble_eq_true rfl) ?_
    refine c_C_noted ?_
    show z_Wp m_X11_count _ 152 [(0, zR 27), (1, zI a0)] [zI (w 72 4)] w _
    refine z_iret rfl dX11_count_152 ?_
    exact k
  · skip
    have c0 : ¬ a0 = 0 := c0
    have h := h.2 c0
    rw [if_neg c0] at k
    have c1 : ¬ a0 = 1 := c1
    have h := h.2 c1
    rw [if_neg c1] at k
    have c2 : ¬ a0 = 2 := c2
    have h := h.2 c2
    rw [if_neg c2] at k
    have c3 : ¬ a0 = 3 := c3
    have h := h.2 c3
    rw [if_neg c3] at k
    have c4 : ¬ a0 = 4 := c4
    have h := h.2 c4
    rw [if_neg c4] at k
    have c5 : ¬ a0 = 5 := c5
    have h := h.2 c5
    rw [if_neg c5] at k
    have c6 : ¬ a0 = 6 := c6
    have h := h.2 c6
    rw [if_neg c6] at k
    have c7 : ¬ a0 = 7 := c7
    have h := h.2 c7
    rw [if_neg c7] at k
    have c8 : ¬ a0 = 8 := c8
    have h := h.2 c8
    rw [if_neg c8] at k
    have c9 : ¬ a0 = 9 := c9
    have h := h.2 c9
    rw [if_neg c9] at k
    have c10 : ¬ a0 = 10 := c10
    have h := h.2 c10
    rw [if_neg c10] at k
    have c11 : a0 = 11 := c11
    have h := h.1 c11
    rw [if_pos c11] at k
    refine z_aload_n (pc' := 154) 0 rfl rfl dX11_count_153 rfl ?_
    refine z_getR (t := 41) (pc' := 157) g_X11_44 (by decide) rfl rfl dX11_count_154 rfl ?_
    refine z_invV (as := []) (st := []) (C := m_X3_logged) (fs := [32, 44, 45, 46, 47, 48, 0, 0, 0]) (pc' := 160) dX11_count_157 rfl t_4_186 k_X3_logged rfl (by decide) rfl rfl rfl rfl (Nat.le_of_ble_eq_true rfl) ?_
    have r3 := h
    refine c_K_logged r3 ?_
    show z_Wp m_X11_count _ 160 [(0, zR 27), (1, zI a0)] [zI (F_J_min_7cf53 w (w 41 8) 60)] w _
    refine z_iret rfl dX11_count_160 ?_
    exact k
  · skip
    have c0 : ¬ a0 = 0 := c0
    have h := h.2 c0
    rw [if_neg c0] at k
    have c1 : ¬ a0 = 1 := c1
    have h := h.2 c1
    rw [if_neg c1] at k
    have c2 : ¬ a0 = 2 := c2
    have h := h.2 c2
    rw [if_neg c2] at k
    have c3 : ¬ a0 = 3 := c3
    have h := h.2 c3
    rw [if_neg c3] at k
    have c4 : ¬ a0 = 4 := c4
    have h := h.2 c4
    rw [if_neg c4] at k
    have c5 : ¬ a0 = 5 := c5
    have h := h.2 c5
    rw [if_neg c5] at k
    have c6 : ¬ a0 = 6 := c6
    have h := h.2 c6
    rw [if_neg c6] at k
    have c7 : ¬ a0 = 7 := c7
    have h := h.2 c7
    rw [if_neg c7] at k
    have c8 : ¬ a0 = 8 := c8
    have h := h.2 c8
    rw [if_neg c8] at k
    have c9 : ¬ a0 = 9 := c9
    have h := h.2 c9
    rw [if_neg c9] at k
    have c10 : ¬ a0 = 10 := c10
    have h := h.2 c10
    rw [if_neg c10] at k
    have c11 : ¬ a0 = 11 := c11
    have h := h.2 c11
    rw [if_neg c11] at k
    have c12 : a0 = 12 := c12
    have h := h.1 c12
    rw [if_pos c12] at k
    refine z_aload_n (pc' := 162) 0 rfl rfl dX11_count_161 rfl ?_
    refine z_getR (t := 53) (pc' := 165) g_X11_54 (by decide) rfl rfl dX11_count_162 rfl ?_
    refine z_invV (as := []) (st := []) (C := m_X2_acts) (fs := [56, 0, 0]) (pc' := 168) dX11_count_165 rfl t_4_178 k_X2_acts rfl (by decide) rfl rfl rfl rfl (Nat.le_of_ble_eq_true rfl) ?_
    refine c_H_acts ?_
    show z_Wp m_X11_count _ 168 [(0, zR 27), (1, zI a0)] [zI (w 53 2)] w _
    refine z_iret rfl dX11_count_168 ?_
    exact k
  · skip
    have c0 : ¬ a0 = 0 := c0
    have h := h.2 c0
    rw [if_neg c0] at k
    have c1 : ¬ a0 = 1 := c1
    have h := h.2 c1
    rw [if_neg c1] at k
    have c2 : ¬ a0 = 2 := c2
    have h := h.2 c2
    rw [if_neg c2] at k
    have c3 : ¬ a0 = 3 := c3
    have h := h.2 c3
    rw [if_neg c3] at k
    have c4 : ¬ a0 = 4 := c4
    have h := h.2 c4
    rw [if_neg c4] at k
    have c5 : ¬ a0 = 5 := c5
    have h := h.2 c5
    rw [if_neg c5] at k
    have c6 : ¬ a0 = 6 := c6
    have h := h.2 c6
    rw [if_neg c6] at k
    have c7 : ¬ a0 = 7 := c7
    have h := h.2 c7
    rw [if_neg c7] at k
    have c8 : ¬ a0 = 8 := c8
    have h := h.2 c8
    rw [if_neg c8] at k
    have c9 : ¬ a0 = 9 := c9
    have h := h.2 c9
    rw [if_neg c9] at k
    have c10 : ¬ a0 = 10 := c10
    have h := h.2 c10
    rw [if_neg c10] at k
    have c11 : ¬ a0 = 11 := c11
    have h := h.2 c11
    rw [if_neg c11] at k
    have c12 : ¬ a0 = 12 := c12
    have h := h.2 c12
    rw [if_neg c12] at k
    refine z_ldcw (n := (-1000000)) (pc' := 172) t_5_74 (by decide) dX11_count_169 rfl ?_
    refine z_iret rfl dX11_count_172 ?_
    exact k
def A_Y_clear_34_2 (w : z_Wd)  : Nat → z_Wd
  | 0 => w
  | i4 + 1 => z_up (A_Y_clear_34_2 w i4) 36 ((i4 : Int).toNat) 0
def P_Y_clear_34 (w : z_Wd)  : Prop := (∀ i4 : Nat, i4 < 4 → (-2147483648 ≤ (i4 : Int) ∧ (i4 : Int) < 2147483648) ∧ (0 ≤ (i4 : Int) ∧ (i4 : Int) < 4)) ∧ (P_Y_setUsual_34 (A_Y_clear_34_2 w 4) 0 0)
def F_Y_clear_34 (w : z_Wd)  : z_Wd := F_Y_setUsual_34 (A_Y_clear_34_2 w 4) 0 0
set_option maxRecDepth 4000 in
theorem c_Y_clear_34 {d : Nat} {w : z_Wd} {Q : Option z_V → z_Wd → Prop} (h : P_Y_clear_34 w ) (k : Q none (F_Y_clear_34 w )) : z_Wc (d + 1) m_X6_clear [zR 34] w Q := by
  unfold P_Y_clear_34 at h
  unfold F_Y_clear_34 at k
  refine z_enter rfl (Nat.le_of_ble_eq_true rfl) ?_
  show z_Wp m_X6_clear _ 0 [(0, zR 34)] [] w _
  refine z_iconst (pc' := 1) dX6_clear_0 rfl ?_
  refine z_istore_n (pc' := 2) (ls' := [(0, zR 34), (1, zI 0)]) rfl (by decide) rfl rfl dX6_clear_1 rfl ?_
  refine z_upto 4 (fun i4 => z_Wp m_X6_clear (d + 1) 2 [(0, zR 34), (1, zI (i4 : Int))] [] (A_Y_clear_34_2 w i4) Q) ?_ ?_
  · skip
    have h := h.2
    refine z_iload_n (pc' := 3) 1 rfl rfl dX6_clear_2 rfl ?_
    refine z_iconst (pc' := 4) dX6_clear_3 rfl ?_
    refine z_icmp_ge 20 dX6_clear_4 (by decide) (pc' := 7) rfl (by decide) (by decide) (fun _ => ?_) (fun c => absurd c (by decide))
    refine z_aload_n (pc' := 21) 0 rfl rfl dX6_clear_20 rfl ?_
    refine z_iconst (pc' := 22) dX6_clear_21 rfl ?_
    refine z_iconst (pc' := 23) dX6_clear_22 rfl ?_
    refine z_invV (as := [zI 0, zI 0]) (st := []) (C := m_X6_setUsual) (fs := [37, 38]) (pc' := 26) dX6_clear_23 rfl t_2_88 k_X6_setUsual rfl (by decide) rfl rfl rfl rfl (Nat.le_of_ble_eq_true rfl) ?_
    have r7 := h
    refine c_Y_setUsual_34 r7 ?_
    show z_Wp m_X6_clear _ 26 [(0, zR 34), (1, zI 4)] [] (F_Y_setUsual_34 (A_Y_clear_34_2 w 4) 0 0) _
    refine z_vret rfl dX6_clear_26 ?_
    exact k
  · intro i4 hi ih
    have h := h.1 i4 hi
    have ih : z_Wp m_X6_clear (d + 1) 2 [(0, zR 34), (1, zI ((i4 + 1 : Nat) : Int))] [] (z_up (A_Y_clear_34_2 w i4) 36 ((i4 : Int).toNat) 0) Q := ih
    refine z_iload_n (pc' := 3) 1 rfl rfl dX6_clear_2 rfl ?_
    refine z_iconst (pc' := 4) dX6_clear_3 rfl ?_
    obtain ⟨r5, h⟩ := h
    refine z_icmp_ge 20 dX6_clear_4 (by decide) (pc' := 7) rfl r5 (by decide) (fun c => absurd c (by omega)) (fun _ => ?_)
    refine z_aload_n (pc' := 8) 0 rfl rfl dX6_clear_7 rfl ?_
    refine z_getR (t := 36) (pc' := 11) g_X6_13 (by decide) rfl rfl dX6_clear_8 rfl ?_
    refine z_iload_n (pc' := 12) 1 rfl rfl dX6_clear_11 rfl ?_
    refine z_iconst (pc' := 13) dX6_clear_12 rfl ?_
    have r6 := h
    refine z_iast2 (w' := z_up (A_Y_clear_34_2 w i4) 36 ((i4 : Int).toNat) 0) (pc' := 14) (by decide) rfl r6 (by decide) rfl dX6_clear_13 rfl ?_
    refine z_iinc (pc' := 17) (ls' := [(0, zR 34), (1, zI ((i4 : Int) + 1))]) 1 rfl (by decide) rfl rfl dX6_clear_14 rfl ?_
    refine z_goto 2 dX6_clear_17 (by decide) ?_
    exact ih
def P_Y_open_34 (w : z_Wd) (a0 : Int) : Prop := (0 ≤ a0 ∧ a0 < 4) ∧ (-2147483648 ≤ w 36 a0.toNat ∧ w 36 a0.toNat < 2147483648) ∧ (-2147483648 ≤ z_sc 0 a0.toNat ∧ z_sc 0 a0.toNat < 2147483648) ∧ ((w 36 a0.toNat < z_sc 0 a0.toNat → P_Y_setUsual_34 w a0 (w 36 a0.toNat)) ∧ (¬ (w 36 a0.toNat < z_sc 0 a0.toNat) → True))
def F_Y_open_34 (w : z_Wd) (a0 : Int) : Int × z_Wd := if w 36 a0.toNat < z_sc 0 a0.toNat then (1, z_up (F_Y_setUsual_34 w a0 (w 36 a0.toNat)) 36 a0.toNat (((F_Y_setUsual_34 w a0 (w 36 a0.toNat)) 36 a0.toNat) + 1)) else (0, w)
set_option maxRecDepth 4000 in
theorem c_Y_open_34 {d : Nat} {w : z_Wd} {a0 : Int} {Q : Option z_V → z_Wd → Prop} (h : P_Y_open_34 w a0) (k : Q (some (zI (F_Y_open_34 w a0).1)) (F_Y_open_34 w a0).2) : z_Wc (d + 1) m_X6_open [zR 34, zI a0] w Q := by
  unfold P_Y_open_34 at h
  unfold F_Y_open_34 at k
  refine z_enter rfl (Nat.le_of_ble_eq_true rfl) ?_
  show z_Wp m_X6_open _ 0 [(0, zR 34), (1, zI a0)] [] w _
  refine z_aload_n (pc' := 1) 0 rfl rfl dX6_open_0 rfl ?_
  refine z_getR (t := 36) (pc' := 4) g_X6_13 (by decide) rfl rfl dX6_open_1 rfl ?_
  refine z_iload_n (pc' := 5) 1 rfl rfl dX6_open_4 rfl ?_
  obtain ⟨r1, h⟩ := h
  refine z_iald2 (v := w 36 a0.toNat) (pc' := 6) (by decide) rfl r1 (by decide) rfl dX6_open_5 rfl ?_
  refine z_gets (i := 0) (pc' := 9) rfl t_2_120 dX6_open_6 rfl ?_
  refine z_iload_n (pc' := 10) 1 rfl rfl dX6_open_9 rfl ?_
  refine z_ials2 (i := 0) (v := z_sc 0 a0.toNat) (pc' := 11) rfl rfl r1 (by decide) rfl dX6_open_10 rfl ?_
  obtain ⟨r2, h⟩ := h
  obtain ⟨r3, h⟩ := h
  refine z_icmp_lt 16 dX6_open_11 (by decide) (pc' := 14) rfl r2 r3 (fun c => ?_) (fun c => ?_)
  · have h := h.1 c
    rw [if_pos c] at k
    refine z_aload_n (pc' := 17) 0 rfl rfl dX6_open_16 rfl ?_
    refine z_iload_n (pc' := 18) 1 rfl rfl dX6_open_17 rfl ?_
    refine z_aload_n (pc' := 19) 0 rfl rfl dX6_open_18 rfl ?_
    refine z_getR (t := 36) (pc' := 22) g_X6_13 (by decide) rfl rfl dX6_open_19 rfl ?_
    refine z_iload_n (pc' := 23) 1 rfl rfl dX6_open_22 rfl ?_
    refine z_iald2 (v := w 36 a0.toNat) (pc' := 24) (by decide) rfl r1 (by decide) rfl dX6_open_23 rfl ?_
    refine z_invV (as := [zI a0, zI (w 36 a0.toNat)]) (st := []) (C := m_X6_setUsual) (fs := [37, 38]) (pc' := 27) dX6_open_24 rfl t_2_88 k_X6_setUsual rfl (by decide) rfl rfl rfl rfl (Nat.le_of_ble_eq_true rfl) ?_
    have r4 := h
    refine c_Y_setUsual_34 r4 ?_
    show z_Wp m_X6_open _ 27 [(0, zR 34), (1, zI a0)] [] (F_Y_setUsual_34 w a0 (w 36 a0.toNat)) _
    refine z_aload_n (pc' := 28) 0 rfl rfl dX6_open_27 rfl ?_
    refine z_getR (t := 36) (pc' := 31) g_X6_13 (by decide) rfl rfl dX6_open_28 rfl ?_
    refine z_iload_n (pc' := 32) 1 rfl rfl dX6_open_31 rfl ?_
    refine z_dup2 (pc' := 33) rfl rfl dX6_open_32 rfl ?_
    refine z_iald2 (v := (F_Y_setUsual_34 w a0 (w 36 a0.toNat)) 36 a0.toNat) (pc' := 34) (by decide) rfl r1 (by decide) rfl dX6_open_33 rfl ?_
    refine z_iconst (pc' := 35) dX6_open_34 rfl ?_
    refine z_iadd (pc' := 36) dX6_open_35 rfl ?_
    refine z_iast2 (w' := z_up (F_Y_setUsual_34 w a0 (w 36 a0.toNat)) 36 a0.toNat (((F_Y_setUsual_34 w a0 (w 36 a0.toNat)) 36 a0.toNat) + 1)) (pc' := 37) (by decide) rfl r1 (by decide) rfl dX6_open_36 rfl ?_
    refine z_iconst (pc' := 38) dX6_open_37 rfl ?_
    refine z_zret rfl (by decide) dX6_open_38 ?_
    exact k
  · have h := h.2 c
    rw [if_neg c] at k
    refine z_iconst (pc' := 15) dX6_open_14 rfl ?_
    refine z_zret rfl (by decide) dX6_open_15 ?_
    exact k
def E_Y_knowOthers_34_2 (w : z_Wd)  (i6 : Nat) : Bool := if F_Y_hasName_34 w (F_Y_value_34 w 2 (i6 : Int) 1) = 0 then true else if F_Y_value_34 w 2 (i6 : Int) 1 = (i6 : Int) then true else false
def R_Y_knowOthers_34_2 (w : z_Wd)  (i6 : Nat) : Int := if F_Y_hasName_34 w (F_Y_value_34 w 2 (i6 : Int) 1) = 0 then 0 else if F_Y_value_34 w 2 (i6 : Int) 1 = (i6 : Int) then 0 else 0
def P_Y_knowOthers_34 (w : z_Wd)  : Prop := (∀ i6 : Nat, i6 < ((w 36 2).toNat) → zfind (E_Y_knowOthers_34_2 w) i6 = -1 → (-2147483648 ≤ (i6 : Int) ∧ (i6 : Int) < 2147483648) ∧ (-2147483648 ≤ w 36 2 ∧ w 36 2 < 2147483648) ∧ (P_Y_value_34 w 2 (i6 : Int) 1) ∧ (P_Y_hasName_34 w (F_Y_value_34 w 2 (i6 : Int) 1)) ∧ ((F_Y_hasName_34 w (F_Y_value_34 w 2 (i6 : Int) 1) = 0 → True) ∧ (¬ (F_Y_hasName_34 w (F_Y_value_34 w 2 (i6 : Int) 1) = 0) → -2147483648 ≤ F_Y_value_34 w 2 (i6 : Int) 1 ∧ F_Y_value_34 w 2 (i6 : Int) 1 < 2147483648))) ∧ ((-2147483648 ≤ (((w 36 2).toNat : Nat) : Int) ∧ (((w 36 2).toNat : Nat) : Int) < 2147483648) ∧ (-2147483648 ≤ w 36 2 ∧ w 36 2 < 2147483648))
def F_Y_knowOthers_34 (w : z_Wd)  : Int := if zfind (E_Y_knowOthers_34_2 w) ((w 36 2).toNat) = -1 then 1 else R_Y_knowOthers_34_2 w (zfind (E_Y_knowOthers_34_2 w) ((w 36 2).toNat)).toNat
set_option maxRecDepth 4000 in
theorem c_Y_knowOthers_34 {d : Nat} {w : z_Wd} {Q : Option z_V → z_Wd → Prop} (h : P_Y_knowOthers_34 w ) (k : Q (some (zI (F_Y_knowOthers_34 w ))) w) : z_Wc (d + 2) m_X6_knowOthers [zR 34] w Q := by
  unfold P_Y_knowOthers_34 at h
  unfold F_Y_knowOthers_34 at k
  refine z_enter rfl (Nat.le_of_ble_eq_true rfl) ?_
  show z_Wp m_X6_knowOthers _ 0 [(0, zR 34)] [] w _
  refine z_iconst (pc' := 1) dX6_knowOthers_0 rfl ?_
  refine z_istore_n (pc' := 2) (ls' := [(0, zR 34), (1, zI 0)]) rfl (by decide) rfl rfl dX6_knowOthers_1 rfl ?_
  refine z_upto ((w 36 2).toNat) (fun i6 => zfind (E_Y_knowOthers_34_2 w) i6 = -1 → z_Wp m_X6_knowOthers (d + 2) 2 [(0, zR 34), (1, zI (i6 : Int))] [] w Q) ?_ ?_ rfl
  · intro hf
    rw [if_pos hf] at k
    have h := h.2
    refine z_iload_n (pc' := 3) 1 rfl rfl dX6_knowOthers_2 rfl ?_
    refine z_aload_n (pc' := 4) 0 rfl rfl dX6_knowOthers_3 rfl ?_
    refine z_invV (as := []) (st := [zI (((w 36 2).toNat : Nat) : Int)]) (C := m_X6_names) (fs := [37, 38]) (pc' := 7) dX6_knowOthers_4 rfl t_2_161 k_X6_names rfl (by decide) rfl rfl rfl rfl (Nat.le_of_ble_eq_true rfl) ?_
    refine c_Y_names_34 ?_
    show z_Wp m_X6_knowOthers _ 7 [(0, zR 34), (1, zI (((w 36 2).toNat : Nat) : Int))] [zI (w 36 2), zI (((w 36 2).toNat : Nat) : Int)] w _
    obtain ⟨r12, h⟩ := h
    have r13 := h
    refine z_icmp_ge 39 dX6_knowOthers_7 (by decide) (pc' := 10) rfl r12 r13 (fun _ => ?_) (fun c => absurd c (by omega))
    refine z_iconst (pc' := 40) dX6_knowOthers_39 rfl ?_
    refine z_zret rfl (by decide) dX6_knowOthers_40 ?_
    exact k
  · intro i6 hi ih hf
    have h := h.1 i6 hi hf
    have hE : E_Y_knowOthers_34_2 w i6 = (if F_Y_hasName_34 w (F_Y_value_34 w 2 (i6 : Int) 1) = 0 then true else if F_Y_value_34 w 2 (i6 : Int) 1 = (i6 : Int) then true else false) := rfl
    refine z_iload_n (pc' := 3) 1 rfl rfl dX6_knowOthers_2 rfl ?_
    refine z_aload_n (pc' := 4) 0 rfl rfl dX6_knowOthers_3 rfl ?_
    refine z_invV (as := []) (st := [zI (i6 : Int)]) (C := m_X6_names) (fs := [37, 38]) (pc' := 7) dX6_knowOthers_4 rfl t_2_161 k_X6_names rfl (by decide) rfl rfl rfl rfl (Nat.le_of_ble_eq_true rfl) ?_
    refine c_Y_names_34 ?_
    show z_Wp m_X6_knowOthers _ 7 [(0, zR 34), (1, zI (i6 : Int))] [zI (w 36 2), zI (i6 : Int)] w _
    obtain ⟨r7, h⟩ := h
    obtain ⟨r8, h⟩ := h
    refine z_icmp_ge 39 dX6_knowOthers_7 (by decide) (pc' := 10) rfl r7 r8 (fun c => absurd c (by omega)) (fun _ => ?_)
    refine z_aload_n (pc' := 11) 0 rfl rfl dX6_knowOthers_10 rfl ?_
    refine z_aload_n (pc' := 12) 0 rfl rfl dX6_knowOthers_11 rfl ?_
    refine z_iload_n (pc' := 13) 1 rfl rfl dX6_knowOthers_12 rfl ?_
    refine z_invV (as := [zI (i6 : Int)]) (st := [zR 34]) (C := m_X6_knows) (fs := [37, 38]) (pc' := 16) dX6_knowOthers_13 rfl t_2_169 k_X6_knows rfl (by decide) rfl rfl rfl rfl (Nat.le_of_ble_eq_true rfl) ?_
    obtain ⟨r9, h⟩ := h
    refine c_Y_knows_34 r9 ?_
    show z_Wp m_X6_knowOthers _ 16 [(0, zR 34), (1, zI (i6 : Int))] [zI (F_Y_value_34 w 2 (i6 : Int) 1), zR 34] w _
    refine z_invV (as := [zI (F_Y_value_34 w 2 (i6 : Int) 1)]) (st := []) (C := m_X6_hasName) (fs := [37, 38]) (pc' := 19) dX6_knowOthers_16 rfl t_2_177 k_X6_hasName rfl (by decide) rfl rfl rfl rfl (Nat.le_of_ble_eq_true rfl) ?_
    obtain ⟨r10, h⟩ := h
    refine c_Y_hasName_34 r10 ?_
    show z_Wp m_X6_knowOthers _ 19 [(0, zR 34), (1, zI (i6 : Int))] [zI (F_Y_hasName_34 w (F_Y_value_34 w 2 (i6 : Int) 1))] w _
    refine z_if_eq 31 dX6_knowOthers_19 (by decide) (pc' := 22) rfl (z_rb b_Y_hasName_34) (fun c111 => ?_) (fun c111 => ?_)
    · have h := h.1 c111
      rw [if_pos c111] at hE
      refine z_iconst (pc' := 32) dX6_knowOthers_31 rfl ?_
      refine z_zret rfl (by decide) dX6_knowOthers_32 ?_
      have hz := zfind_hit hf hE _ hi
      rw [hz, if_neg (by omega), Int.toNat_natCast] at k
      unfold R_Y_knowOthers_34_2 at k
      rw [if_pos c111] at k
      exact k
    · have h := h.2 c111
      rw [if_neg c111] at hE
      refine z_aload_n (pc' := 23) 0 rfl rfl dX6_knowOthers_22 rfl ?_
      refine z_iload_n (pc' := 24) 1 rfl rfl dX6_knowOthers_23 rfl ?_
      refine z_invV (as := [zI (i6 : Int)]) (st := []) (C := m_X6_knows) (fs := [37, 38]) (pc' := 27) dX6_knowOthers_24 rfl t_2_169 k_X6_knows rfl (by decide) rfl rfl rfl rfl (Nat.le_of_ble_eq_true rfl) ?_
      refine c_Y_knows_34 r9 ?_
      show z_Wp m_X6_knowOthers _ 27 [(0, zR 34), (1, zI (i6 : Int))] [zI (F_Y_value_34 w 2 (i6 : Int) 1)] w _
      refine z_iload_n (pc' := 28) 1 rfl rfl dX6_knowOthers_27 rfl ?_
      have r11 := h
      refine z_icmp_ne 33 dX6_knowOthers_28 (by decide) (pc' := 31) rfl r11 r7 (fun c112 => ?_) (fun c112 => ?_)
      · skip
        rw [if_neg c112] at hE
        refine z_iinc (pc' := 36) (ls' := [(0, zR 34), (1, zI ((i6 : Int) + 1))]) 1 rfl (by decide) rfl rfl dX6_knowOthers_33 rfl ?_
        refine z_goto 2 dX6_knowOthers_36 (by decide) ?_
        exact (ih (zfind_miss hf (by rw [hE]; decide)))
      · skip
        rw [if_pos c112] at hE
        refine z_iconst (pc' := 32) dX6_knowOthers_31 rfl ?_
        refine z_zret rfl (by decide) dX6_knowOthers_32 ?_
        have hz := zfind_hit hf hE _ hi
        rw [hz, if_neg (by omega), Int.toNat_natCast] at k
        unfold R_Y_knowOthers_34_2 at k
        rw [if_neg c111] at k
        rw [if_pos c112] at k
        exact k
theorem b_Y_knowOthers_34 {w : z_Wd} : F_Y_knowOthers_34 w = 0 ∨ F_Y_knowOthers_34 w = 1 := by
  unfold F_Y_knowOthers_34
  (repeat' split) <;> first | exact Or.inl rfl | exact Or.inr rfl | (unfold R_Y_knowOthers_34_2; (repeat' split) <;> first | exact Or.inl rfl | exact Or.inr rfl)
def E_Y_filesHoldTwo_34_2 (w : z_Wd)  (i9 : Nat) : Bool := if F_Y_hasName_34 w (F_Y_inFile_34 w (i9 : Int) 0) = 0 then true else if F_Y_hasName_34 w (F_Y_inFile_34 w (i9 : Int) 1) = 0 then true else if F_Y_inFile_34 w (i9 : Int) 0 = F_Y_inFile_34 w (i9 : Int) 1 then true else false
def R_Y_filesHoldTwo_34_2 (w : z_Wd)  (i9 : Nat) : Int := if F_Y_hasName_34 w (F_Y_inFile_34 w (i9 : Int) 0) = 0 then 0 else if F_Y_hasName_34 w (F_Y_inFile_34 w (i9 : Int) 1) = 0 then 0 else if F_Y_inFile_34 w (i9 : Int) 0 = F_Y_inFile_34 w (i9 : Int) 1 then 0 else 0
def P_Y_filesHoldTwo_34 (w : z_Wd)  : Prop := (∀ i9 : Nat, i9 < ((w 36 3).toNat) → zfind (E_Y_filesHoldTwo_34_2 w) i9 = -1 → (-2147483648 ≤ (i9 : Int) ∧ (i9 : Int) < 2147483648) ∧ (-2147483648 ≤ w 36 3 ∧ w 36 3 < 2147483648) ∧ (P_Y_inFile_34 w (i9 : Int) 0) ∧ (P_Y_inFile_34 w (i9 : Int) 1) ∧ (P_Y_hasName_34 w (F_Y_inFile_34 w (i9 : Int) 0)) ∧ ((F_Y_hasName_34 w (F_Y_inFile_34 w (i9 : Int) 0) = 0 → True) ∧ (¬ (F_Y_hasName_34 w (F_Y_inFile_34 w (i9 : Int) 0) = 0) → (P_Y_hasName_34 w (F_Y_inFile_34 w (i9 : Int) 1)) ∧ ((F_Y_hasName_34 w (F_Y_inFile_34 w (i9 : Int) 1) = 0 → True) ∧ (¬ (F_Y_hasName_34 w (F_Y_inFile_34 w (i9 : Int) 1) = 0) → (-2147483648 ≤ F_Y_inFile_34 w (i9 : Int) 0 ∧ F_Y_inFile_34 w (i9 : Int) 0 < 2147483648) ∧ (-2147483648 ≤ F_Y_inFile_34 w (i9 : Int) 1 ∧ F_Y_inFile_34 w (i9 : Int) 1 < 2147483648)))))) ∧ ((-2147483648 ≤ (((w 36 3).toNat : Nat) : Int) ∧ (((w 36 3).toNat : Nat) : Int) < 2147483648) ∧ (-2147483648 ≤ w 36 3 ∧ w 36 3 < 2147483648))
def F_Y_filesHoldTwo_34 (w : z_Wd)  : Int := if zfind (E_Y_filesHoldTwo_34_2 w) ((w 36 3).toNat) = -1 then 1 else R_Y_filesHoldTwo_34_2 w (zfind (E_Y_filesHoldTwo_34_2 w) ((w 36 3).toNat)).toNat
set_option maxRecDepth 4000 in
theorem c_Y_filesHoldTwo_34 {d : Nat} {w : z_Wd} {Q : Option z_V → z_Wd → Prop} (h : P_Y_filesHoldTwo_34 w ) (k : Q (some (zI (F_Y_filesHoldTwo_34 w ))) w) : z_Wc (d + 2) m_X6_filesHoldTwo [zR 34] w Q := by
  unfold P_Y_filesHoldTwo_34 at h
  unfold F_Y_filesHoldTwo_34 at k
  refine z_enter rfl (Nat.le_of_ble_eq_true rfl) ?_
  show z_Wp m_X6_filesHoldTwo _ 0 [(0, zR 34)] [] w _
  refine z_iconst (pc' := 1) dX6_filesHoldTwo_0 rfl ?_
  refine z_istore_n (pc' := 2) (ls' := [(0, zR 34), (1, zI 0)]) rfl (by decide) rfl rfl dX6_filesHoldTwo_1 rfl ?_
  refine z_upto ((w 36 3).toNat) (fun i9 => zfind (E_Y_filesHoldTwo_34_2 w) i9 = -1 → z_Wp m_X6_filesHoldTwo (d + 2) 2 [(0, zR 34), (1, zI (i9 : Int))] [] w Q) ?_ ?_ rfl
  · intro hf
    rw [if_pos hf] at k
    have h := h.2
    refine z_iload_n (pc' := 3) 1 rfl rfl dX6_filesHoldTwo_2 rfl ?_
    refine z_aload_n (pc' := 4) 0 rfl rfl dX6_filesHoldTwo_3 rfl ?_
    refine z_invV (as := []) (st := [zI (((w 36 3).toNat : Nat) : Int)]) (C := m_X6_files) (fs := [37, 38]) (pc' := 7) dX6_filesHoldTwo_4 rfl t_2_185 k_X6_files rfl (by decide) rfl rfl rfl rfl (Nat.le_of_ble_eq_true rfl) ?_
    refine c_Y_files_34 ?_
    show z_Wp m_X6_filesHoldTwo _ 7 [(0, zR 34), (1, zI (((w 36 3).toNat : Nat) : Int))] [zI (w 36 3), zI (((w 36 3).toNat : Nat) : Int)] w _
    obtain ⟨r18, h⟩ := h
    have r19 := h
    refine z_icmp_ge 53 dX6_filesHoldTwo_7 (by decide) (pc' := 10) rfl r18 r19 (fun _ => ?_) (fun c => absurd c (by omega))
    refine z_iconst (pc' := 54) dX6_filesHoldTwo_53 rfl ?_
    refine z_zret rfl (by decide) dX6_filesHoldTwo_54 ?_
    exact k
  · intro i9 hi ih hf
    have h := h.1 i9 hi hf
    have hE : E_Y_filesHoldTwo_34_2 w i9 = (if F_Y_hasName_34 w (F_Y_inFile_34 w (i9 : Int) 0) = 0 then true else if F_Y_hasName_34 w (F_Y_inFile_34 w (i9 : Int) 1) = 0 then true else if F_Y_inFile_34 w (i9 : Int) 0 = F_Y_inFile_34 w (i9 : Int) 1 then true else false) := rfl
    refine z_iload_n (pc' := 3) 1 rfl rfl dX6_filesHoldTwo_2 rfl ?_
    refine z_aload_n (pc' := 4) 0 rfl rfl dX6_filesHoldTwo_3 rfl ?_
    refine z_invV (as := []) (st := [zI (i9 : Int)]) (C := m_X6_files) (fs := [37, 38]) (pc' := 7) dX6_filesHoldTwo_4 rfl t_2_185 k_X6_files rfl (by decide) rfl rfl rfl rfl (Nat.le_of_ble_eq_true rfl) ?_
    refine c_Y_files_34 ?_
    show z_Wp m_X6_filesHoldTwo _ 7 [(0, zR 34), (1, zI (i9 : Int))] [zI (w 36 3), zI (i9 : Int)] w _
    obtain ⟨r10, h⟩ := h
    obtain ⟨r11, h⟩ := h
    refine z_icmp_ge 53 dX6_filesHoldTwo_7 (by decide) (pc' := 10) rfl r10 r11 (fun c => absurd c (by omega)) (fun _ => ?_)
    refine z_aload_n (pc' := 11) 0 rfl rfl dX6_filesHoldTwo_10 rfl ?_
    refine z_iload_n (pc' := 12) 1 rfl rfl dX6_filesHoldTwo_11 rfl ?_
    refine z_iconst (pc' := 13) dX6_filesHoldTwo_12 rfl ?_
    refine z_invV (as := [zI (i9 : Int), zI 0]) (st := []) (C := m_X6_inFile) (fs := [37, 38]) (pc' := 16) dX6_filesHoldTwo_13 rfl t_2_189 k_X6_inFile rfl (by decide) rfl rfl rfl rfl (Nat.le_of_ble_eq_true rfl) ?_
    obtain ⟨r12, h⟩ := h
    refine c_Y_inFile_34 r12 ?_
    show z_Wp m_X6_filesHoldTwo _ 16 [(0, zR 34), (1, zI (i9 : Int))] [zI (F_Y_inFile_34 w (i9 : Int) 0)] w _
    refine z_istore_n (pc' := 17) (ls' := [(0, zR 34), (1, zI (i9 : Int)), (2, zI (F_Y_inFile_34 w (i9 : Int) 0))]) rfl (by decide) rfl rfl dX6_filesHoldTwo_16 rfl ?_
    refine z_aload_n (pc' := 18) 0 rfl rfl dX6_filesHoldTwo_17 rfl ?_
    refine z_iload_n (pc' := 19) 1 rfl rfl dX6_filesHoldTwo_18 rfl ?_
    refine z_iconst (pc' := 20) dX6_filesHoldTwo_19 rfl ?_
    refine z_invV (as := [zI (i9 : Int), zI 1]) (st := []) (C := m_X6_inFile) (fs := [37, 38]) (pc' := 23) dX6_filesHoldTwo_20 rfl t_2_189 k_X6_inFile rfl (by decide) rfl rfl rfl rfl (Nat.le_of_ble_eq_true rfl) ?_
    obtain ⟨r13, h⟩ := h
    refine c_Y_inFile_34 r13 ?_
    show z_Wp m_X6_filesHoldTwo _ 23 [(0, zR 34), (1, zI (i9 : Int)), (2, zI (F_Y_inFile_34 w (i9 : Int) 0))] [zI (F_Y_inFile_34 w (i9 : Int) 1)] w _
    refine z_istore_n (pc' := 24) (ls' := [(0, zR 34), (1, zI (i9 : Int)), (2, zI (F_Y_inFile_34 w (i9 : Int) 0)), (3, zI (F_Y_inFile_34 w (i9 : Int) 1))]) rfl (by decide) rfl rfl dX6_filesHoldTwo_23 rfl ?_
    refine z_aload_n (pc' := 25) 0 rfl rfl dX6_filesHoldTwo_24 rfl ?_
    refine z_iload_n (pc' := 26) 2 rfl rfl dX6_filesHoldTwo_25 rfl ?_
    refine z_invV (as := [zI (F_Y_inFile_34 w (i9 : Int) 0)]) (st := []) (C := m_X6_hasName) (fs := [37, 38]) (pc' := 29) dX6_filesHoldTwo_26 rfl t_2_177 k_X6_hasName rfl (by decide) rfl rfl rfl rfl (Nat.le_of_ble_eq_true rfl) ?_
    obtain ⟨r14, h⟩ := h
    refine c_Y_hasName_34 r14 ?_
    show z_Wp m_X6_filesHoldTwo _ 29 [(0, zR 34), (1, zI (i9 : Int)), (2, zI (F_Y_inFile_34 w (i9 : Int) 0)), (3, zI (F_Y_inFile_34 w (i9 : Int) 1))] [zI (F_Y_hasName_34 w (F_Y_inFile_34 w (i9 : Int) 0))] w _
    refine z_if_eq 45 dX6_filesHoldTwo_29 (by decide) (pc' := 32) rfl (z_rb b_Y_hasName_34) (fun c113 => ?_) (fun c113 => ?_)
    · have h := h.1 c113
      rw [if_pos c113] at hE
      refine z_iconst (pc' := 46) dX6_filesHoldTwo_45 rfl ?_
      refine z_zret rfl (by decide) dX6_filesHoldTwo_46 ?_
      have hz := zfind_hit hf hE _ hi
      rw [hz, if_neg (by omega), Int.toNat_natCast] at k
      unfold R_Y_filesHoldTwo_34_2 at k
      rw [if_pos c113] at k
      exact k
    · have h := h.2 c113
      rw [if_neg c113] at hE
      refine z_aload_n (pc' := 33) 0 rfl rfl dX6_filesHoldTwo_32 rfl ?_
      refine z_iload_n (pc' := 34) 3 rfl rfl dX6_filesHoldTwo_33 rfl ?_
      refine z_invV (as := [zI (F_Y_inFile_34 w (i9 : Int) 1)]) (st := []) (C := m_X6_hasName) (fs := [37, 38]) (pc' := 37) dX6_filesHoldTwo_34 rfl t_2_177 k_X6_hasName rfl (by decide) rfl rfl rfl rfl (Nat.le_of_ble_eq_true rfl) ?_
      obtain ⟨r15, h⟩ := h
      refine c_Y_hasName_34 r15 ?_
      show z_Wp m_X6_filesHoldTwo _ 37 [(0, zR 34), (1, zI (i9 : Int)), (2, zI (F_Y_inFile_34 w (i9 : Int) 0)), (3, zI (F_Y_inFile_34 w (i9 : Int) 1))] [zI (F_Y_hasName_34 w (F_Y_inFile_34 w (i9 : Int) 1))] w _
      refine z_if_eq 45 dX6_filesHoldTwo_37 (by decide) (pc' := 40) rfl (z_rb b_Y_hasName_34) (fun c114 => ?_) (fun c114 => ?_)
      · have h := h.1 c114
        rw [if_pos c114] at hE
        refine z_iconst (pc' := 46) dX6_filesHoldTwo_45 rfl ?_
        refine z_zret rfl (by decide) dX6_filesHoldTwo_46 ?_
        have hz := zfind_hit hf hE _ hi
        rw [hz, if_neg (by omega), Int.toNat_natCast] at k
        unfold R_Y_filesHoldTwo_34_2 at k
        rw [if_neg c113] at k
        rw [if_pos c114] at k
        exact k
      · have h := h.2 c114
        rw [if_neg c114] at hE
        refine z_iload_n (pc' := 41) 2 rfl rfl dX6_filesHoldTwo_40 rfl ?_
        refine z_iload_n (pc' := 42) 3 rfl rfl dX6_filesHoldTwo_41 rfl ?_
        obtain ⟨r16, h⟩ := h
        have r17 := h
        refine z_icmp_ne 47 dX6_filesHoldTwo_42 (by decide) (pc' := 45) rfl r16 r17 (fun c115 => ?_) (fun c115 => ?_)
        · skip
          rw [if_neg c115] at hE
          refine z_iinc (pc' := 50) (ls' := [(0, zR 34), (1, zI ((i9 : Int) + 1)), (2, zI (F_Y_inFile_34 w (i9 : Int) 0)), (3, zI (F_Y_inFile_34 w (i9 : Int) 1))]) 1 rfl (by decide) rfl rfl dX6_filesHoldTwo_47 rfl ?_
          refine z_goto 2 dX6_filesHoldTwo_50 (by decide) ?_
          exact z_Wp.sub (ls' := [(0, zR 34), (1, zI ((i9 : Int) + 1))]) (z_lcast (by rw [z_c0 i9]) (ih (zfind_miss hf (by rw [hE]; decide)))) (z_sub_of [0, 1] rfl)
        · skip
          rw [if_pos c115] at hE
          refine z_iconst (pc' := 46) dX6_filesHoldTwo_45 rfl ?_
          refine z_zret rfl (by decide) dX6_filesHoldTwo_46 ?_
          have hz := zfind_hit hf hE _ hi
          rw [hz, if_neg (by omega), Int.toNat_natCast] at k
          unfold R_Y_filesHoldTwo_34_2 at k
          rw [if_neg c113] at k
          rw [if_neg c114] at k
          rw [if_pos c115] at k
          exact k
theorem b_Y_filesHoldTwo_34 {w : z_Wd} : F_Y_filesHoldTwo_34 w = 0 ∨ F_Y_filesHoldTwo_34 w = 1 := by
  unfold F_Y_filesHoldTwo_34
  (repeat' split) <;> first | exact Or.inl rfl | exact Or.inr rfl | (unfold R_Y_filesHoldTwo_34_2; (repeat' split) <;> first | exact Or.inl rfl | exact Or.inr rfl)
def P_G_pass_38 (w : z_Wd)  : Prop := (-2147483648 ≤ w 55 4 ∧ w 55 4 < 2147483648) ∧ ((w 55 4 < 4 → 0 ≤ w 55 4 ∧ w 55 4 < 4) ∧ (¬ (w 55 4 < 4) → True))
def F_G_pass_38 (w : z_Wd)  : Int × z_Wd := if w 55 4 < 4 then if w 55 4 = 0 then ((((F_W_copyFrom_58_38 w) 55 4) + 1) - 1, z_up (F_W_copyFrom_58_38 w) 55 4 (((F_W_copyFrom_58_38 w) 55 4) + 1)) else if w 55 4 = 1 then ((((F_W_copyFrom_61_38 w) 55 4) + 1) - 1, z_up (F_W_copyFrom_61_38 w) 55 4 (((F_W_copyFrom_61_38 w) 55 4) + 1)) else if w 55 4 = 2 then ((((F_W_copyFrom_64_38 w) 55 4) + 1) - 1, z_up (F_W_copyFrom_64_38 w) 55 4 (((F_W_copyFrom_64_38 w) 55 4) + 1)) else ((((F_W_copyFrom_67_38 w) 55 4) + 1) - 1, z_up (F_W_copyFrom_67_38 w) 55 4 (((F_W_copyFrom_67_38 w) 55 4) + 1)) else ((-1), w)
set_option maxRecDepth 4000 in
theorem c_G_pass_38 {d : Nat} {w : z_Wd} {Q : Option z_V → z_Wd → Prop} (h : P_G_pass_38 w ) (k : Q (some (zI (F_G_pass_38 w ).1)) (F_G_pass_38 w ).2) : z_Wc (d + 1) m_X1_pass [zR 55, zR 38] w Q := by
  unfold P_G_pass_38 at h
  unfold F_G_pass_38 at k
  refine z_enter rfl (Nat.le_of_ble_eq_true rfl) ?_
  show z_Wp m_X1_pass _ 0 [(0, zR 55), (1, zR 38)] [] w _
  refine z_aload_n (pc' := 1) 0 rfl rfl dX1_pass_0 rfl ?_
  refine z_getI2 (v := w 55 4) (pc' := 4) g_X1_34 (by decide) rfl rfl rfl dX1_pass_1 rfl ?_
  refine z_iconst (pc' := 5) dX1_pass_4 rfl ?_
  obtain ⟨r1, h⟩ := h
  refine z_icmp_lt 10 dX1_pass_5 (by decide) (pc' := 8) rfl r1 (by decide) (fun c => ?_) (fun c => ?_)
  · have h := h.1 c
    rw [if_pos c] at k
    refine z_aload_n (pc' := 11) 0 rfl rfl dX1_pass_10 rfl ?_
    refine z_getR (t := 56) (pc' := 14) g_X1_13 (by decide) rfl rfl dX1_pass_11 rfl ?_
    refine z_aload_n (pc' := 15) 0 rfl rfl dX1_pass_14 rfl ?_
    refine z_getI2 (v := w 55 4) (pc' := 18) g_X1_34 (by decide) rfl rfl rfl dX1_pass_15 rfl ?_
    have r2 := h
    by_cases c : w 55 4 = 0
    · skip
      rw [if_pos c] at k
      refine z_aald (t := 58) (pc' := 19) (by decide) rfl r2 (by decide) (by rw [c]; rfl) dX1_pass_18 rfl ?_
      refine z_aload_n (pc' := 20) 1 rfl rfl dX1_pass_19 rfl ?_
      refine z_invV (as := [zR 38]) (st := []) (C := m_X4_copyFrom) (fs := [61, 62, 0, 0]) (pc' := 23) dX1_pass_20 rfl t_3_90 k_X4_copyFrom rfl (by decide) rfl rfl rfl rfl (Nat.le_of_ble_eq_true rfl) ?_
      refine c_W_copyFrom_58_38 ?_
      show z_Wp m_X1_pass _ 23 [(0, zR 55), (1, zR 38)] [] (F_W_copyFrom_58_38 w) _
      refine z_aload_n (pc' := 24) 0 rfl rfl dX1_pass_23 rfl ?_
      refine z_dup (pc' := 25) rfl dX1_pass_24 rfl ?_
      refine z_getI2 (v := (F_W_copyFrom_58_38 w) 55 4) (pc' := 28) g_X1_34 (by decide) rfl rfl rfl dX1_pass_25 rfl ?_
      refine z_iconst (pc' := 29) dX1_pass_28 rfl ?_
      refine z_iadd (pc' := 30) dX1_pass_29 rfl ?_
      refine z_putI (pc' := 33) p_X1_34 (by decide) rfl rfl rfl rfl dX1_pass_30 rfl ?_
      refine z_aload_n (pc' := 34) 0 rfl rfl dX1_pass_33 rfl ?_
      refine z_getI2 (v := ((F_W_copyFrom_58_38 w) 55 4) + 1) (pc' := 37) g_X1_34 (by decide) rfl rfl rfl dX1_pass_34 rfl ?_
      refine z_iconst (pc' := 38) dX1_pass_37 rfl ?_
      refine z_isub (pc' := 39) dX1_pass_38 rfl ?_
      refine z_iret rfl dX1_pass_39 ?_
      exact k
    · skip
      rw [if_neg c] at k
      by_cases c : w 55 4 = 1
      · skip
        rw [if_pos c] at k
        refine z_aald (t := 61) (pc' := 19) (by decide) rfl r2 (by decide) (by rw [c]; rfl) dX1_pass_18 rfl ?_
        refine z_aload_n (pc' := 20) 1 rfl rfl dX1_pass_19 rfl ?_
        refine z_invV (as := [zR 38]) (st := []) (C := m_X4_copyFrom) (fs := [64, 65, 0, 0]) (pc' := 23) dX1_pass_20 rfl t_3_90 k_X4_copyFrom rfl (by decide) rfl rfl rfl rfl (Nat.le_of_ble_eq_true rfl) ?_
        refine c_W_copyFrom_61_38 ?_
        show z_Wp m_X1_pass _ 23 [(0, zR 55), (1, zR 38)] [] (F_W_copyFrom_61_38 w) _
        refine z_aload_n (pc' := 24) 0 rfl rfl dX1_pass_23 rfl ?_
        refine z_dup (pc' := 25) rfl dX1_pass_24 rfl ?_
        refine z_getI2 (v := (F_W_copyFrom_61_38 w) 55 4) (pc' := 28) g_X1_34 (by decide) rfl rfl rfl dX1_pass_25 rfl ?_
        refine z_iconst (pc' := 29) dX1_pass_28 rfl ?_
        refine z_iadd (pc' := 30) dX1_pass_29 rfl ?_
        refine z_putI (pc' := 33) p_X1_34 (by decide) rfl rfl rfl rfl dX1_pass_30 rfl ?_
        refine z_aload_n (pc' := 34) 0 rfl rfl dX1_pass_33 rfl ?_
        refine z_getI2 (v := ((F_W_copyFrom_61_38 w) 55 4) + 1) (pc' := 37) g_X1_34 (by decide) rfl rfl rfl dX1_pass_34 rfl ?_
        refine z_iconst (pc' := 38) dX1_pass_37 rfl ?_
        refine z_isub (pc' := 39) dX1_pass_38 rfl ?_
        refine z_iret rfl dX1_pass_39 ?_
        exact k
      · skip
        rw [if_neg c] at k
        by_cases c : w 55 4 = 2
        · skip
          rw [if_pos c] at k
          refine z_aald (t := 64) (pc' := 19) (by decide) rfl r2 (by decide) (by rw [c]; rfl) dX1_pass_18 rfl ?_
          refine z_aload_n (pc' := 20) 1 rfl rfl dX1_pass_19 rfl ?_
          refine z_invV (as := [zR 38]) (st := []) (C := m_X4_copyFrom) (fs := [67, 68, 0, 0]) (pc' := 23) dX1_pass_20 rfl t_3_90 k_X4_copyFrom rfl (by decide) rfl rfl rfl rfl (Nat.le_of_ble_eq_true rfl) ?_
          refine c_W_copyFrom_64_38 ?_
          show z_Wp m_X1_pass _ 23 [(0, zR 55), (1, zR 38)] [] (F_W_copyFrom_64_38 w) _
          refine z_aload_n (pc' := 24) 0 rfl rfl dX1_pass_23 rfl ?_
          refine z_dup (pc' := 25) rfl dX1_pass_24 rfl ?_
          refine z_getI2 (v := (F_W_copyFrom_64_38 w) 55 4) (pc' := 28) g_X1_34 (by decide) rfl rfl rfl dX1_pass_25 rfl ?_
          refine z_iconst (pc' := 29) dX1_pass_28 rfl ?_
          refine z_iadd (pc' := 30) dX1_pass_29 rfl ?_
          refine z_putI (pc' := 33) p_X1_34 (by decide) rfl rfl rfl rfl dX1_pass_30 rfl ?_
          refine z_aload_n (pc' := 34) 0 rfl rfl dX1_pass_33 rfl ?_
          refine z_getI2 (v := ((F_W_copyFrom_64_38 w) 55 4) + 1) (pc' := 37) g_X1_34 (by decide) rfl rfl rfl dX1_pass_34 rfl ?_
          refine z_iconst (pc' := 38) dX1_pass_37 rfl ?_
          refine z_isub (pc' := 39) dX1_pass_38 rfl ?_
          refine z_iret rfl dX1_pass_39 ?_
          exact k
        · skip
          rw [if_neg c] at k
          refine z_aald (t := 67) (pc' := 19) (by decide) rfl r2 (by decide) (by rw [show w 55 4 = 3 by omega]; rfl) dX1_pass_18 rfl ?_
          refine z_aload_n (pc' := 20) 1 rfl rfl dX1_pass_19 rfl ?_
          refine z_invV (as := [zR 38]) (st := []) (C := m_X4_copyFrom) (fs := [70, 71, 0, 0]) (pc' := 23) dX1_pass_20 rfl t_3_90 k_X4_copyFrom rfl (by decide) rfl rfl rfl rfl (Nat.le_of_ble_eq_true rfl) ?_
          refine c_W_copyFrom_67_38 ?_
          show z_Wp m_X1_pass _ 23 [(0, zR 55), (1, zR 38)] [] (F_W_copyFrom_67_38 w) _
          refine z_aload_n (pc' := 24) 0 rfl rfl dX1_pass_23 rfl ?_
          refine z_dup (pc' := 25) rfl dX1_pass_24 rfl ?_
          refine z_getI2 (v := (F_W_copyFrom_67_38 w) 55 4) (pc' := 28) g_X1_34 (by decide) rfl rfl rfl dX1_pass_25 rfl ?_
          refine z_iconst (pc' := 29) dX1_pass_28 rfl ?_
          refine z_iadd (pc' := 30) dX1_pass_29 rfl ?_
          refine z_putI (pc' := 33) p_X1_34 (by decide) rfl rfl rfl rfl dX1_pass_30 rfl ?_
          refine z_aload_n (pc' := 34) 0 rfl rfl dX1_pass_33 rfl ?_
          refine z_getI2 (v := ((F_W_copyFrom_67_38 w) 55 4) + 1) (pc' := 37) g_X1_34 (by decide) rfl rfl rfl dX1_pass_34 rfl ?_
          refine z_iconst (pc' := 38) dX1_pass_37 rfl ?_
          refine z_isub (pc' := 39) dX1_pass_38 rfl ?_
          refine z_iret rfl dX1_pass_39 ?_
          exact k
  · have h := h.2 c
    rw [if_neg c] at k
    refine z_iconst (pc' := 9) dX1_pass_8 rfl ?_
    refine z_iret rfl dX1_pass_9 ?_
    exact k
def L_W_weigh_58_57_7 (w : z_Wd)   : Nat → Int → z_Wd → Int × z_Wd
  | 0, _, _ => (0, w)
  | m9 + 1, u2, wu => if u2 ≥ wu 58 2 then (0, wu) else if Int.tdiv (wu 59 u2.toNat) 10000 = 0 then L_W_weigh_58_57_7 w m9 (u2 + 1) (F_W_push_58 wu (Int.tmod (wu 59 u2.toNat) 10000)) else if Int.tdiv (wu 59 u2.toNat) 10000 = 1 then if Int.tmod (wu 59 u2.toNat) 10000 ≥ 6 then L_W_weigh_58_57_7 w m9 (u2 + 1) (F_W_push_58 wu 0) else L_W_weigh_58_57_7 w m9 (u2 + 1) (F_W_push_58 wu (wu 57 ((Int.tmod (wu 59 u2.toNat) 10000).toNat))) else if Int.tdiv (wu 59 u2.toNat) 10000 = 2 then ((F_W_pop_58 wu).1, (F_W_pop_58 wu).2) else if Int.tdiv (wu 59 u2.toNat) 10000 = 3 then if (F_W_pop_58 wu).1 = 0 then L_W_weigh_58_57_7 w m9 ((F_J_max_7cf53 ((F_W_pop_58 wu).2) u2 ((Int.tmod (wu 59 u2.toNat) 10000) - 1)) + 1) ((F_W_pop_58 wu).2) else L_W_weigh_58_57_7 w m9 (u2 + 1) ((F_W_pop_58 wu).2) else if Int.tdiv (wu 59 u2.toNat) 10000 = 33 then if (F_W_pop_58 wu).1 = 0 then L_W_weigh_58_57_7 w m9 (u2 + 1) (F_W_push_58 ((F_W_pop_58 wu).2) 1) else L_W_weigh_58_57_7 w m9 (u2 + 1) (F_W_push_58 ((F_W_pop_58 wu).2) 0) else L_W_weigh_58_57_7 w m9 (u2 + 1) (F_W_push_58 ((F_W_pop_58 ((F_W_pop_58 wu).2)).2) (F_W_join ((F_W_pop_58 ((F_W_pop_58 wu).2)).2) (Int.tdiv (wu 59 u2.toNat) 10000) ((F_W_pop_58 ((F_W_pop_58 wu).2)).1) ((F_W_pop_58 wu).1)))
def PL_W_weigh_58_57_7 (w : z_Wd)   : Nat → Int → z_Wd → Prop
  | 0, _, _ => False
  | m9 + 1, u2, wu => (-2147483648 ≤ u2 ∧ u2 < 2147483648) ∧ (-2147483648 ≤ wu 58 2 ∧ wu 58 2 < 2147483648) ∧ ((u2 ≥ wu 58 2 → True) ∧ (¬ (u2 ≥ wu 58 2) → (0 ≤ u2 ∧ u2 < 240) ∧ (-2147483648 ≤ wu 59 u2.toNat ∧ wu 59 u2.toNat < 2147483648) ∧ (-2147483648 ≤ Int.tdiv (wu 59 u2.toNat) 10000 ∧ Int.tdiv (wu 59 u2.toNat) 10000 < 2147483648) ∧ ((Int.tdiv (wu 59 u2.toNat) 10000 = 0 → (P_W_push_58 wu (Int.tmod (wu 59 u2.toNat) 10000)) ∧ (PL_W_weigh_58_57_7 w m9 (u2 + 1) (F_W_push_58 wu (Int.tmod (wu 59 u2.toNat) 10000)))) ∧ (¬ (Int.tdiv (wu 59 u2.toNat) 10000) = 0 → (Int.tdiv (wu 59 u2.toNat) 10000 = 1 → (-2147483648 ≤ Int.tmod (wu 59 u2.toNat) 10000 ∧ Int.tmod (wu 59 u2.toNat) 10000 < 2147483648) ∧ ((Int.tmod (wu 59 u2.toNat) 10000 ≥ 6 → (P_W_push_58 wu 0) ∧ (PL_W_weigh_58_57_7 w m9 (u2 + 1) (F_W_push_58 wu 0))) ∧ (¬ (Int.tmod (wu 59 u2.toNat) 10000 ≥ 6) → (0 ≤ Int.tmod (wu 59 u2.toNat) 10000 ∧ Int.tmod (wu 59 u2.toNat) 10000 < 6) ∧ (P_W_push_58 wu (wu 57 ((Int.tmod (wu 59 u2.toNat) 10000).toNat))) ∧ (PL_W_weigh_58_57_7 w m9 (u2 + 1) (F_W_push_58 wu (wu 57 ((Int.tmod (wu 59 u2.toNat) 10000).toNat))))))) ∧ (¬ (Int.tdiv (wu 59 u2.toNat) 10000) = 1 → (Int.tdiv (wu 59 u2.toNat) 10000 = 2 → P_W_pop_58 wu) ∧ (¬ (Int.tdiv (wu 59 u2.toNat) 10000) = 2 → (Int.tdiv (wu 59 u2.toNat) 10000 = 3 → (P_W_pop_58 wu) ∧ (-2147483648 ≤ (F_W_pop_58 wu).1 ∧ (F_W_pop_58 wu).1 < 2147483648) ∧ (((F_W_pop_58 wu).1 = 0 → (P_J_max_7cf53 ((F_W_pop_58 wu).2) u2 ((Int.tmod (wu 59 u2.toNat) 10000) - 1)) ∧ (PL_W_weigh_58_57_7 w m9 ((F_J_max_7cf53 ((F_W_pop_58 wu).2) u2 ((Int.tmod (wu 59 u2.toNat) 10000) - 1)) + 1) ((F_W_pop_58 wu).2))) ∧ (¬ ((F_W_pop_58 wu).1 = 0) → PL_W_weigh_58_57_7 w m9 (u2 + 1) ((F_W_pop_58 wu).2)))) ∧ (¬ (Int.tdiv (wu 59 u2.toNat) 10000) = 3 → (Int.tdiv (wu 59 u2.toNat) 10000 = 33 → (P_W_pop_58 wu) ∧ (-2147483648 ≤ (F_W_pop_58 wu).1 ∧ (F_W_pop_58 wu).1 < 2147483648) ∧ (((F_W_pop_58 wu).1 = 0 → (P_W_push_58 ((F_W_pop_58 wu).2) 1) ∧ (PL_W_weigh_58_57_7 w m9 (u2 + 1) (F_W_push_58 ((F_W_pop_58 wu).2) 1))) ∧ (¬ ((F_W_pop_58 wu).1 = 0) → (P_W_push_58 ((F_W_pop_58 wu).2) 0) ∧ (PL_W_weigh_58_57_7 w m9 (u2 + 1) (F_W_push_58 ((F_W_pop_58 wu).2) 0))))) ∧ (¬ (Int.tdiv (wu 59 u2.toNat) 10000) = 33 → (P_W_pop_58 wu) ∧ (P_W_pop_58 ((F_W_pop_58 wu).2)) ∧ (P_W_join ((F_W_pop_58 ((F_W_pop_58 wu).2)).2) (Int.tdiv (wu 59 u2.toNat) 10000) ((F_W_pop_58 ((F_W_pop_58 wu).2)).1) ((F_W_pop_58 wu).1)) ∧ (P_W_push_58 ((F_W_pop_58 ((F_W_pop_58 wu).2)).2) (F_W_join ((F_W_pop_58 ((F_W_pop_58 wu).2)).2) (Int.tdiv (wu 59 u2.toNat) 10000) ((F_W_pop_58 ((F_W_pop_58 wu).2)).1) ((F_W_pop_58 wu).1))) ∧ (PL_W_weigh_58_57_7 w m9 (u2 + 1) (F_W_push_58 ((F_W_pop_58 ((F_W_pop_58 wu).2)).2) (F_W_join ((F_W_pop_58 ((F_W_pop_58 wu).2)).2) (Int.tdiv (wu 59 u2.toNat) 10000) ((F_W_pop_58 ((F_W_pop_58 wu).2)).1) ((F_W_pop_58 wu).1))))))))))))
def P_W_weigh_58_57 (w : z_Wd)  : Prop := PL_W_weigh_58_57_7 w 300 0 (z_up w 58 3 0)
def F_W_weigh_58_57 (w : z_Wd)  : Int × z_Wd := L_W_weigh_58_57_7 w 300 0 (z_up w 58 3 0)
set_option maxRecDepth 4000 in
theorem c_W_weigh_58_57 {d : Nat} {w : z_Wd} {Q : Option z_V → z_Wd → Prop} (h : P_W_weigh_58_57 w ) (k : Q (some (zI (F_W_weigh_58_57 w ).1)) (F_W_weigh_58_57 w ).2) : z_Wc (d + 3) m_X4_weigh [zR 58, zR 57] w Q := by
  unfold P_W_weigh_58_57 at h
  unfold F_W_weigh_58_57 at k
  refine z_enter rfl (Nat.le_of_ble_eq_true rfl) ?_
  show z_Wp m_X4_weigh _ 0 [(0, zR 58), (1, zR 57)] [] w _
  refine z_aload_n (pc' := 1) 0 rfl rfl dX4_weigh_0 rfl ?_
  refine z_iconst (pc' := 2) dX4_weigh_1 rfl ?_
  refine z_putI (pc' := 5) p_X4_28 (by decide) rfl rfl rfl rfl dX4_weigh_2 rfl ?_
  refine z_iconst (pc' := 6) dX4_weigh_5 rfl ?_
  refine z_istore_n (pc' := 7) (ls' := [(0, zR 58), (1, zR 57), (2, zI 0)]) rfl (by decide) rfl rfl dX4_weigh_6 rfl ?_
  have hl : ∀ (m9 : Nat) (u2 : Int) (wu : z_Wd), PL_W_weigh_58_57_7 w m9 u2 wu → Q (some (zI (L_W_weigh_58_57_7 w m9 u2 wu).1)) (L_W_weigh_58_57_7 w m9 u2 wu).2 → z_Wp m_X4_weigh (d + 3) 7 [(0, zR 58), (1, zR 57), (2, zI u2)] [] wu Q := by
    clear h k
    intro m9
    induction m9 with
    | zero => intro u2 wu h k; exact False.elim h
    | succ m9 ih =>
      intro u2 wu h k
      have h : (-2147483648 ≤ u2 ∧ u2 < 2147483648) ∧ (-2147483648 ≤ wu 58 2 ∧ wu 58 2 < 2147483648) ∧ ((u2 ≥ wu 58 2 → True) ∧ (¬ (u2 ≥ wu 58 2) → (0 ≤ u2 ∧ u2 < 240) ∧ (-2147483648 ≤ wu 59 u2.toNat ∧ wu 59 u2.toNat < 2147483648) ∧ (-2147483648 ≤ Int.tdiv (wu 59 u2.toNat) 10000 ∧ Int.tdiv (wu 59 u2.toNat) 10000 < 2147483648) ∧ ((Int.tdiv (wu 59 u2.toNat) 10000 = 0 → (P_W_push_58 wu (Int.tmod (wu 59 u2.toNat) 10000)) ∧ (PL_W_weigh_58_57_7 w m9 (u2 + 1) (F_W_push_58 wu (Int.tmod (wu 59 u2.toNat) 10000)))) ∧ (¬ (Int.tdiv (wu 59 u2.toNat) 10000) = 0 → (Int.tdiv (wu 59 u2.toNat) 10000 = 1 → (-2147483648 ≤ Int.tmod (wu 59 u2.toNat) 10000 ∧ Int.tmod (wu 59 u2.toNat) 10000 < 2147483648) ∧ ((Int.tmod (wu 59 u2.toNat) 10000 ≥ 6 → (P_W_push_58 wu 0) ∧ (PL_W_weigh_58_57_7 w m9 (u2 + 1) (F_W_push_58 wu 0))) ∧ (¬ (Int.tmod (wu 59 u2.toNat) 10000 ≥ 6) → (0 ≤ Int.tmod (wu 59 u2.toNat) 10000 ∧ Int.tmod (wu 59 u2.toNat) 10000 < 6) ∧ (P_W_push_58 wu (wu 57 ((Int.tmod (wu 59 u2.toNat) 10000).toNat))) ∧ (PL_W_weigh_58_57_7 w m9 (u2 + 1) (F_W_push_58 wu (wu 57 ((Int.tmod (wu 59 u2.toNat) 10000).toNat))))))) ∧ (¬ (Int.tdiv (wu 59 u2.toNat) 10000) = 1 → (Int.tdiv (wu 59 u2.toNat) 10000 = 2 → P_W_pop_58 wu) ∧ (¬ (Int.tdiv (wu 59 u2.toNat) 10000) = 2 → (Int.tdiv (wu 59 u2.toNat) 10000 = 3 → (P_W_pop_58 wu) ∧ (-2147483648 ≤ (F_W_pop_58 wu).1 ∧ (F_W_pop_58 wu).1 < 2147483648) ∧ (((F_W_pop_58 wu).1 = 0 → (P_J_max_7cf53 ((F_W_pop_58 wu).2) u2 ((Int.tmod (wu 59 u2.toNat) 10000) - 1)) ∧ (PL_W_weigh_58_57_7 w m9 ((F_J_max_7cf53 ((F_W_pop_58 wu).2) u2 ((Int.tmod (wu 59 u2.toNat) 10000) - 1)) + 1) ((F_W_pop_58 wu).2))) ∧ (¬ ((F_W_pop_58 wu).1 = 0) → PL_W_weigh_58_57_7 w m9 (u2 + 1) ((F_W_pop_58 wu).2)))) ∧ (¬ (Int.tdiv (wu 59 u2.toNat) 10000) = 3 → (Int.tdiv (wu 59 u2.toNat) 10000 = 33 → (P_W_pop_58 wu) ∧ (-2147483648 ≤ (F_W_pop_58 wu).1 ∧ (F_W_pop_58 wu).1 < 2147483648) ∧ (((F_W_pop_58 wu).1 = 0 → (P_W_push_58 ((F_W_pop_58 wu).2) 1) ∧ (PL_W_weigh_58_57_7 w m9 (u2 + 1) (F_W_push_58 ((F_W_pop_58 wu).2) 1))) ∧ (¬ ((F_W_pop_58 wu).1 = 0) → (P_W_push_58 ((F_W_pop_58 wu).2) 0) ∧ (PL_W_weigh_58_57_7 w m9 (u2 + 1) (F_W_push_58 ((F_W_pop_58 wu).2) 0))))) ∧ (¬ (Int.tdiv (wu 59 u2.toNat) 10000) = 33 → (P_W_pop_58 wu) ∧ (P_W_pop_58 ((F_W_pop_58 wu).2)) ∧ (P_W_join ((F_W_pop_58 ((F_W_pop_58 wu).2)).2) (Int.tdiv (wu 59 u2.toNat) 10000) ((F_W_pop_58 ((F_W_pop_58 wu).2)).1) ((F_W_pop_58 wu).1)) ∧ (P_W_push_58 ((F_W_pop_58 ((F_W_pop_58 wu).2)).2) (F_W_join ((F_W_pop_58 ((F_W_pop_58 wu).2)).2) (Int.tdiv (wu 59 u2.toNat) 10000) ((F_W_pop_58 ((F_W_pop_58 wu).2)).1) ((F_W_pop_58 wu).1))) ∧ (PL_W_weigh_58_57_7 w m9 (u2 + 1) (F_W_push_58 ((F_W_pop_58 ((F_W_pop_58 wu).2)).2) (F_W_join ((F_W_pop_58 ((F_W_pop_58 wu).2)).2) (Int.tdiv (wu 59 u2.toNat) 10000) ((F_W_pop_58 ((F_W_pop_58 wu).2)).1) ((F_W_pop_58 wu).1)))))))))))) := h
      have k : Q (some (zI (if u2 ≥ wu 58 2 then (0, wu) else if Int.tdiv (wu 59 u2.toNat) 10000 = 0 then L_W_weigh_58_57_7 w m9 (u2 + 1) (F_W_push_58 wu (Int.tmod (wu 59 u2.toNat) 10000)) else if Int.tdiv (wu 59 u2.toNat) 10000 = 1 then if Int.tmod (wu 59 u2.toNat) 10000 ≥ 6 then L_W_weigh_58_57_7 w m9 (u2 + 1) (F_W_push_58 wu 0) else L_W_weigh_58_57_7 w m9 (u2 + 1) (F_W_push_58 wu (wu 57 ((Int.tmod (wu 59 u2.toNat) 10000).toNat))) else if Int.tdiv (wu 59 u2.toNat) 10000 = 2 then ((F_W_pop_58 wu).1, (F_W_pop_58 wu).2) else if Int.tdiv (wu 59 u2.toNat) 10000 = 3 then if (F_W_pop_58 wu).1 = 0 then L_W_weigh_58_57_7 w m9 ((F_J_max_7cf53 ((F_W_pop_58 wu).2) u2 ((Int.tmod (wu 59 u2.toNat) 10000) - 1)) + 1) ((F_W_pop_58 wu).2) else L_W_weigh_58_57_7 w m9 (u2 + 1) ((F_W_pop_58 wu).2) else if Int.tdiv (wu 59 u2.toNat) 10000 = 33 then if (F_W_pop_58 wu).1 = 0 then L_W_weigh_58_57_7 w m9 (u2 + 1) (F_W_push_58 ((F_W_pop_58 wu).2) 1) else L_W_weigh_58_57_7 w m9 (u2 + 1) (F_W_push_58 ((F_W_pop_58 wu).2) 0) else L_W_weigh_58_57_7 w m9 (u2 + 1) (F_W_push_58 ((F_W_pop_58 ((F_W_pop_58 wu).2)).2) (F_W_join ((F_W_pop_58 ((F_W_pop_58 wu).2)).2) (Int.tdiv (wu 59 u2.toNat) 10000) ((F_W_pop_58 ((F_W_pop_58 wu).2)).1) ((F_W_pop_58 wu).1)))).1)) (if u2 ≥ wu 58 2 then (0, wu) else if Int.tdiv (wu 59 u2.toNat) 10000 = 0 then L_W_weigh_58_57_7 w m9 (u2 + 1) (F_W_push_58 wu (Int.tmod (wu 59 u2.toNat) 10000)) else if Int.tdiv (wu 59 u2.toNat) 10000 = 1 then if Int.tmod (wu 59 u2.toNat) 10000 ≥ 6 then L_W_weigh_58_57_7 w m9 (u2 + 1) (F_W_push_58 wu 0) else L_W_weigh_58_57_7 w m9 (u2 + 1) (F_W_push_58 wu (wu 57 ((Int.tmod (wu 59 u2.toNat) 10000).toNat))) else if Int.tdiv (wu 59 u2.toNat) 10000 = 2 then ((F_W_pop_58 wu).1, (F_W_pop_58 wu).2) else if Int.tdiv (wu 59 u2.toNat) 10000 = 3 then if (F_W_pop_58 wu).1 = 0 then L_W_weigh_58_57_7 w m9 ((F_J_max_7cf53 ((F_W_pop_58 wu).2) u2 ((Int.tmod (wu 59 u2.toNat) 10000) - 1)) + 1) ((F_W_pop_58 wu).2) else L_W_weigh_58_57_7 w m9 (u2 + 1) ((F_W_pop_58 wu).2) else if Int.tdiv (wu 59 u2.toNat) 10000 = 33 then if (F_W_pop_58 wu).1 = 0 then L_W_weigh_58_57_7 w m9 (u2 + 1) (F_W_push_58 ((F_W_pop_58 wu).2) 1) else L_W_weigh_58_57_7 w m9 (u2 + 1) (F_W_push_58 ((F_W_pop_58 wu).2) 0) else L_W_weigh_58_57_7 w m9 (u2 + 1) (F_W_push_58 ((F_W_pop_58 ((F_W_pop_58 wu).2)).2) (F_W_join ((F_W_pop_58 ((F_W_pop_58 wu).2)).2) (Int.tdiv (wu 59 u2.toNat) 10000) ((F_W_pop_58 ((F_W_pop_58 wu).2)).1) ((F_W_pop_58 wu).1)))).2 := k
      refine z_iload_n (pc' := 8) 2 rfl rfl dX4_weigh_7 rfl ?_
      refine z_aload_n (pc' := 9) 0 rfl rfl dX4_weigh_8 rfl ?_
      refine z_getI2 (v := wu 58 2) (pc' := 12) g_X4_18 (by decide) rfl rfl rfl dX4_weigh_9 rfl ?_
      obtain ⟨r23, h⟩ := h
      obtain ⟨r24, h⟩ := h
      refine z_icmp_ge 188 dX4_weigh_12 (by decide) (pc' := 15) rfl r23 r24 (fun c => ?_) (fun c => ?_)
      · have h := h.1 c
        rw [if_pos c] at k
        refine z_iconst (pc' := 189) dX4_weigh_188 rfl ?_
        refine z_iret rfl dX4_weigh_189 ?_
        exact k
      · have h := h.2 c
        rw [if_neg c] at k
        refine z_aload_n (pc' := 16) 0 rfl rfl dX4_weigh_15 rfl ?_
        refine z_getR (t := 59) (pc' := 19) g_X4_11 (by decide) rfl rfl dX4_weigh_16 rfl ?_
        refine z_iload_n (pc' := 20) 2 rfl rfl dX4_weigh_19 rfl ?_
        obtain ⟨r25, h⟩ := h
        refine z_iald2 (v := wu 59 u2.toNat) (pc' := 21) (by decide) rfl r25 (by decide) rfl dX4_weigh_20 rfl ?_
        refine z_sipush (pc' := 24) (by decide) dX4_weigh_21 rfl ?_
        obtain ⟨r26, h⟩ := h
        refine z_idiv (pc' := 25) r26 (by decide) (by decide) dX4_weigh_24 rfl ?_
        refine z_istore_n (pc' := 26) (ls' := [(0, zR 58), (1, zR 57), (2, zI u2), (3, zI (Int.tdiv (wu 59 u2.toNat) 10000))]) rfl (by decide) rfl rfl dX4_weigh_25 rfl ?_
        refine z_aload_n (pc' := 27) 0 rfl rfl dX4_weigh_26 rfl ?_
        refine z_getR (t := 59) (pc' := 30) g_X4_11 (by decide) rfl rfl dX4_weigh_27 rfl ?_
        refine z_iload_n (pc' := 31) 2 rfl rfl dX4_weigh_30 rfl ?_
        refine z_iald2 (v := wu 59 u2.toNat) (pc' := 32) (by decide) rfl r25 (by decide) rfl dX4_weigh_31 rfl ?_
        refine z_sipush (pc' := 35) (by decide) dX4_weigh_32 rfl ?_
        refine z_irem (pc' := 36) r26 (by decide) (by decide) dX4_weigh_35 rfl ?_
        refine z_istore (pc' := 38) (ls' := [(0, zR 58), (1, zR 57), (2, zI u2), (3, zI (Int.tdiv (wu 59 u2.toNat) 10000)), (4, zI (Int.tmod (wu 59 u2.toNat) 10000))]) (by decide) rfl rfl dX4_weigh_36 rfl ?_
        refine z_iload_n (pc' := 39) 3 rfl rfl dX4_weigh_38 rfl ?_
        obtain ⟨r27, h⟩ := h
        refine z_lookup dX4_weigh_39 (by decide) r27 ⟨fun c0 => ⟨88, by decide, ?_⟩, fun c0 => ⟨fun c1 => ⟨97, by decide, ?_⟩, fun c1 => ⟨fun c2 => ⟨119, by decide, ?_⟩, fun c2 => ⟨fun c3 => ⟨124, by decide, ?_⟩, fun c3 => ⟨fun c4 => ⟨143, by decide, ?_⟩, fun c4 => ⟨162, by decide, ?_⟩⟩⟩⟩⟩⟩
        · skip
          have c0 : Int.tdiv (wu 59 u2.toNat) 10000 = 0 := c0
          have h := h.1 c0
          rw [if_pos c0] at k
          refine z_aload_n (pc' := 89) 0 rfl rfl dX4_weigh_88 rfl ?_
          refine z_iload (pc' := 91) 4 rfl dX4_weigh_89 rfl ?_
          refine z_invV (as := [zI (Int.tmod (wu 59 u2.toNat) 10000)]) (st := []) (C := m_X4_push) (fs := [61, 62, 0, 0]) (pc' := 94) dX4_weigh_91 rfl t_4_101 k_X4_push rfl (by decide) rfl rfl rfl rfl (Nat.le_of_ble_eq_true rfl) ?_
          obtain ⟨r28, h⟩ := h
          refine c_W_push_58 r28 ?_
          show z_Wp m_X4_weigh _ 94 [(0, zR 58), (1, zR 57), (2, zI u2), (3, zI (Int.tdiv (wu 59 u2.toNat) 10000)), (4, zI (Int.tmod (wu 59 u2.toNat) 10000))] [] (F_W_push_58 wu (Int.tmod (wu 59 u2.toNat) 10000)) _
          refine z_goto 182 dX4_weigh_94 (by decide) ?_
          refine z_iinc (pc' := 185) (ls' := [(0, zR 58), (1, zR 57), (2, zI (u2 + 1)), (3, zI (Int.tdiv (wu 59 u2.toNat) 10000)), (4, zI (Int.tmod (wu 59 u2.toNat) 10000))]) 2 rfl (by decide) rfl rfl dX4_weigh_182 rfl ?_
          refine z_goto 7 dX4_weigh_185 (by decide) ?_
          exact z_Wp.sub (ls' := [(0, zR 58), (1, zR 57), (2, zI (u2 + 1))]) (ih _ _ h k) (z_sub_of [0, 1, 2] rfl)
        · skip
          have c0 : ¬ (Int.tdiv (wu 59 u2.toNat) 10000) = 0 := c0
          have h := h.2 c0
          rw [if_neg c0] at k
          have c1 : Int.tdiv (wu 59 u2.toNat) 10000 = 1 := c1
          have h := h.1 c1
          rw [if_pos c1] at k
          refine z_aload_n (pc' := 98) 0 rfl rfl dX4_weigh_97 rfl ?_
          refine z_iload (pc' := 100) 4 rfl dX4_weigh_98 rfl ?_
          refine z_aload_n (pc' := 101) 1 rfl rfl dX4_weigh_100 rfl ?_
          refine z_alen2 (v := 6) (pc' := 102) (by decide) rfl rfl dX4_weigh_101 rfl ?_
          obtain ⟨r29, h⟩ := h
          refine z_icmp_ge 112 dX4_weigh_102 (by decide) (pc' := 105) rfl r29 (by decide) (fun c => ?_) (fun c => ?_)
          · have h := h.1 c
            rw [if_pos c] at k
            refine z_iconst (pc' := 113) dX4_weigh_112 rfl ?_
            refine z_invV (as := [zI 0]) (st := []) (C := m_X4_push) (fs := [61, 62, 0, 0]) (pc' := 116) dX4_weigh_113 rfl t_4_101 k_X4_push rfl (by decide) rfl rfl rfl rfl (Nat.le_of_ble_eq_true rfl) ?_
            obtain ⟨r30, h⟩ := h
            refine c_W_push_58 r30 ?_
            show z_Wp m_X4_weigh _ 116 [(0, zR 58), (1, zR 57), (2, zI u2), (3, zI (Int.tdiv (wu 59 u2.toNat) 10000)), (4, zI (Int.tmod (wu 59 u2.toNat) 10000))] [] (F_W_push_58 wu 0) _
            refine z_goto 182 dX4_weigh_116 (by decide) ?_
            refine z_iinc (pc' := 185) (ls' := [(0, zR 58), (1, zR 57), (2, zI (u2 + 1)), (3, zI (Int.tdiv (wu 59 u2.toNat) 10000)), (4, zI (Int.tmod (wu 59 u2.toNat) 10000))]) 2 rfl (by decide) rfl rfl dX4_weigh_182 rfl ?_
            refine z_goto 7 dX4_weigh_185 (by decide) ?_
            exact z_Wp.sub (ls' := [(0, zR 58), (1, zR 57), (2, zI (u2 + 1))]) (ih _ _ h k) (z_sub_of [0, 1, 2] rfl)
          · have h := h.2 c
            rw [if_neg c] at k
            refine z_aload_n (pc' := 106) 1 rfl rfl dX4_weigh_105 rfl ?_
            refine z_iload (pc' := 108) 4 rfl dX4_weigh_106 rfl ?_
            obtain ⟨r31, h⟩ := h
            refine z_iald2 (v := wu 57 ((Int.tmod (wu 59 u2.toNat) 10000).toNat)) (pc' := 109) (by decide) rfl r31 (by decide) rfl dX4_weigh_108 rfl ?_
            refine z_goto 113 dX4_weigh_109 (by decide) ?_
            refine z_invV (as := [zI (wu 57 ((Int.tmod (wu 59 u2.toNat) 10000).toNat))]) (st := []) (C := m_X4_push) (fs := [61, 62, 0, 0]) (pc' := 116) dX4_weigh_113 rfl t_4_101 k_X4_push rfl (by decide) rfl rfl rfl rfl (Nat.le_of_ble_eq_true rfl) ?_
            obtain ⟨r32, h⟩ := h
            refine c_W_push_58 r32 ?_
            show z_Wp m_X4_weigh _ 116 [(0, zR 58), (1, zR 57), (2, zI u2), (3, zI (Int.tdiv (wu 59 u2.toNat) 10000)), (4, zI (Int.tmod (wu 59 u2.toNat) 10000))] [] (F_W_push_58 wu (wu 57 ((Int.tmod (wu 59 u2.toNat) 10000).toNat))) _
            refine z_goto 182 dX4_weigh_116 (by decide) ?_
            refine z_iinc (pc' := 185) (ls' := [(0, zR 58), (1, zR 57), (2, zI (u2 + 1)), (3, zI (Int.tdiv (wu 59 u2.toNat) 10000)), (4, zI (Int.tmod (wu 59 u2.toNat) 10000))]) 2 rfl (by decide) rfl rfl dX4_weigh_182 rfl ?_
            refine z_goto 7 dX4_weigh_185 (by decide) ?_
            exact z_Wp.sub (ls' := [(0, zR 58), (1, zR 57), (2, zI (u2 + 1))]) (ih _ _ h k) (z_sub_of [0, 1, 2] rfl)
        · skip
          have c0 : ¬ (Int.tdiv (wu 59 u2.toNat) 10000) = 0 := c0
          have h := h.2 c0
          rw [if_neg c0] at k
          have c1 : ¬ (Int.tdiv (wu 59 u2.toNat) 10000) = 1 := c1
          have h := h.2 c1
          rw [if_neg c1] at k
          have c2 : Int.tdiv (wu 59 u2.toNat) 10000 = 2 := c2
          have h := h.1 c2
          rw [if_pos c2] at k
          refine z_aload_n (pc' := 120) 0 rfl rfl dX4_weigh_119 rfl ?_
          refine z_invV (as := []) (st := []) (C := m_X4_pop) (fs := [61, 62, 0, 0]) (pc' := 123) dX4_weigh_120 rfl t_4_105 k_X4_pop rfl (by decide) rfl rfl rfl rfl (Nat.le_of_ble_eq_true rfl) ?_
          have r33 := h
          refine c_W_pop_58 r33 ?_
          show z_Wp m_X4_weigh _ 123 [(0, zR 58), (1, zR 57), (2, zI u2), (3, zI (Int.tdiv (wu 59 u2.toNat) 10000)), (4, zI (Int.tmod (wu 59 u2.toNat) 10000))] [zI ((F_W_pop_58 wu).1)] ((F_W_pop_58 wu).2) _
          refine z_iret rfl dX4_weigh_123 ?_
          exact k
        · skip
          have c0 : ¬ (Int.tdiv (wu 59 u2.toNat) 10000) = 0 := c0
          have h := h.2 c0
          rw [if_neg c0] at k
          have c1 : ¬ (Int.tdiv (wu 59 u2.toNat) 10000) = 1 := c1
          have h := h.2 c1
          rw [if_neg c1] at k
          have c2 : ¬ (Int.tdiv (wu 59 u2.toNat) 10000) = 2 := c2
          have h := h.2 c2
          rw [if_neg c2] at k
          have c3 : Int.tdiv (wu 59 u2.toNat) 10000 = 3 := c3
          have h := h.1 c3
          rw [if_pos c3] at k
          refine z_aload_n (pc' := 125) 0 rfl rfl dX4_weigh_124 rfl ?_
          refine z_invV (as := []) (st := []) (C := m_X4_pop) (fs := [61, 62, 0, 0]) (pc' := 128) dX4_weigh_125 rfl t_4_105 k_X4_pop rfl (by decide) rfl rfl rfl rfl (Nat.le_of_ble_eq_true rfl) ?_
          obtain ⟨r34, h⟩ := h
          refine c_W_pop_58 r34 ?_
          show z_Wp m_X4_weigh _ 128 [(0, zR 58), (1, zR 57), (2, zI u2), (3, zI (Int.tdiv (wu 59 u2.toNat) 10000)), (4, zI (Int.tmod (wu 59 u2.toNat) 10000))] [zI ((F_W_pop_58 wu).1)] ((F_W_pop_58 wu).2) _
          obtain ⟨r35, h⟩ := h
          refine z_if_ne 182 dX4_weigh_128 (by decide) (pc' := 131) rfl r35 (fun c => ?_) (fun c => ?_)
          · have h := h.2 c
            rw [if_neg c] at k
            refine z_iinc (pc' := 185) (ls' := [(0, zR 58), (1, zR 57), (2, zI (u2 + 1)), (3, zI (Int.tdiv (wu 59 u2.toNat) 10000)), (4, zI (Int.tmod (wu 59 u2.toNat) 10000))]) 2 rfl (by decide) rfl rfl dX4_weigh_182 rfl ?_
            refine z_goto 7 dX4_weigh_185 (by decide) ?_
            exact z_Wp.sub (ls' := [(0, zR 58), (1, zR 57), (2, zI (u2 + 1))]) (ih _ _ h k) (z_sub_of [0, 1, 2] rfl)
          · have h := h.1 c
            rw [if_pos c] at k
            refine z_iload_n (pc' := 132) 2 rfl rfl dX4_weigh_131 rfl ?_
            refine z_iload (pc' := 134) 4 rfl dX4_weigh_132 rfl ?_
            refine z_iconst (pc' := 135) dX4_weigh_134 rfl ?_
            refine z_isub (pc' := 136) dX4_weigh_135 rfl ?_
            refine z_invS (as := [zI u2, zI ((Int.tmod (wu 59 u2.toNat) 10000) - 1)]) (st := []) (C := m_J9_max_7cf53) (pc' := 139) dX4_weigh_136 rfl t_4_109 k_J9_max_7cf53 rfl rfl (Nat.le_of_ble_eq_true rfl) ?_
            obtain ⟨r36, h⟩ := h
            refine c_J_max_7cf53 r36 ?_
            show z_Wp m_X4_weigh _ 139 [(0, zR 58), (1, zR 57), (2, zI u2), (3, zI (Int.tdiv (wu 59 u2.toNat) 10000)), (4, zI (Int.tmod (wu 59 u2.toNat) 10000))] [zI (F_J_max_7cf53 ((F_W_pop_58 wu).2) u2 ((Int.tmod (wu 59 u2.toNat) 10000) - 1))] ((F_W_pop_58 wu).2) _
            refine z_istore_n (pc' := 140) (ls' := [(0, zR 58), (1, zR 57), (2, zI (F_J_max_7cf53 ((F_W_pop_58 wu).2) u2 ((Int.tmod (wu 59 u2.toNat) 10000) - 1))), (3, zI (Int.tdiv (wu 59 u2.toNat) 10000)), (4, zI (Int.tmod (wu 59 u2.toNat) 10000))]) rfl (by decide) rfl rfl dX4_weigh_139 rfl ?_
            refine z_goto 182 dX4_weigh_140 (by decide) ?_
            refine z_iinc (pc' := 185) (ls' := [(0, zR 58), (1, zR 57), (2, zI ((F_J_max_7cf53 ((F_W_pop_58 wu).2) u2 ((Int.tmod (wu 59 u2.toNat) 10000) - 1)) + 1)), (3, zI (Int.tdiv (wu 59 u2.toNat) 10000)), (4, zI (Int.tmod (wu 59 u2.toNat) 10000))]) 2 rfl (by decide) rfl rfl dX4_weigh_182 rfl ?_
            refine z_goto 7 dX4_weigh_185 (by decide) ?_
            exact z_Wp.sub (ls' := [(0, zR 58), (1, zR 57), (2, zI ((F_J_max_7cf53 ((F_W_pop_58 wu).2) u2 ((Int.tmod (wu 59 u2.toNat) 10000) - 1)) + 1))]) (ih _ _ h k) (z_sub_of [0, 1, 2] rfl)
        · skip
          have c0 : ¬ (Int.tdiv (wu 59 u2.toNat) 10000) = 0 := c0
          have h := h.2 c0
          rw [if_neg c0] at k
          have c1 : ¬ (Int.tdiv (wu 59 u2.toNat) 10000) = 1 := c1
          have h := h.2 c1
          rw [if_neg c1] at k
          have c2 : ¬ (Int.tdiv (wu 59 u2.toNat) 10000) = 2 := c2
          have h := h.2 c2
          rw [if_neg c2] at k
          have c3 : ¬ (Int.tdiv (wu 59 u2.toNat) 10000) = 3 := c3
          have h := h.2 c3
          rw [if_neg c3] at k
          have c4 : Int.tdiv (wu 59 u2.toNat) 10000 = 33 := c4
          have h := h.1 c4
          rw [if_pos c4] at k
          refine z_aload_n (pc' := 144) 0 rfl rfl dX4_weigh_143 rfl ?_
          refine z_aload_n (pc' := 145) 0 rfl rfl dX4_weigh_144 rfl ?_
          refine z_invV (as := []) (st := [zR 58]) (C := m_X4_pop) (fs := [61, 62, 0, 0]) (pc' := 148) dX4_weigh_145 rfl t_4_105 k_X4_pop rfl (by decide) rfl rfl rfl rfl (Nat.le_of_ble_eq_true rfl) ?_
          obtain ⟨r37, h⟩ := h
          refine c_W_pop_58 r37 ?_
          show z_Wp m_X4_weigh _ 148 [(0, zR 58), (1, zR 57), (2, zI u2), (3, zI (Int.tdiv (wu 59 u2.toNat) 10000)), (4, zI (Int.tmod (wu 59 u2.toNat) 10000))] [zI ((F_W_pop_58 wu).1), zR 58] ((F_W_pop_58 wu).2) _
          obtain ⟨r38, h⟩ := h
          refine z_if_ne 155 dX4_weigh_148 (by decide) (pc' := 151) rfl r38 (fun c => ?_) (fun c => ?_)
          · have h := h.2 c
            rw [if_neg c] at k
            refine z_iconst (pc' := 156) dX4_weigh_155 rfl ?_
            refine z_invV (as := [zI 0]) (st := []) (C := m_X4_push) (fs := [61, 62, 0, 0]) (pc' := 159) dX4_weigh_156 rfl t_4_101 k_X4_push rfl (by decide) rfl rfl rfl rfl (Nat.le_of_ble_eq_true rfl) ?_
            obtain ⟨r39, h⟩ := h
            refine c_W_push_58 r39 ?_
            show z_Wp m_X4_weigh _ 159 [(0, zR 58), (1, zR 57), (2, zI u2), (3, zI (Int.tdiv (wu 59 u2.toNat) 10000)), (4, zI (Int.tmod (wu 59 u2.toNat) 10000))] [] (F_W_push_58 ((F_W_pop_58 wu).2) 0) _
            refine z_goto 182 dX4_weigh_159 (by decide) ?_
            refine z_iinc (pc' := 185) (ls' := [(0, zR 58), (1, zR 57), (2, zI (u2 + 1)), (3, zI (Int.tdiv (wu 59 u2.toNat) 10000)), (4, zI (Int.tmod (wu 59 u2.toNat) 10000))]) 2 rfl (by decide) rfl rfl dX4_weigh_182 rfl ?_
            refine z_goto 7 dX4_weigh_185 (by decide) ?_
            exact z_Wp.sub (ls' := [(0, zR 58), (1, zR 57), (2, zI (u2 + 1))]) (ih _ _ h k) (z_sub_of [0, 1, 2] rfl)
          · have h := h.1 c
            rw [if_pos c] at k
            refine z_iconst (pc' := 152) dX4_weigh_151 rfl ?_
            refine z_goto 156 dX4_weigh_152 (by decide) ?_
            refine z_invV (as := [zI 1]) (st := []) (C := m_X4_push) (fs := [61, 62, 0, 0]) (pc' := 159) dX4_weigh_156 rfl t_4_101 k_X4_push rfl (by decide) rfl rfl rfl rfl (Nat.le_of_ble_eq_true rfl) ?_
            obtain ⟨r40, h⟩ := h
            refine c_W_push_58 r40 ?_
            show z_Wp m_X4_weigh _ 159 [(0, zR 58), (1, zR 57), (2, zI u2), (3, zI (Int.tdiv (wu 59 u2.toNat) 10000)), (4, zI (Int.tmod (wu 59 u2.toNat) 10000))] [] (F_W_push_58 ((F_W_pop_58 wu).2) 1) _
            refine z_goto 182 dX4_weigh_159 (by decide) ?_
            refine z_iinc (pc' := 185) (ls' := [(0, zR 58), (1, zR 57), (2, zI (u2 + 1)), (3, zI (Int.tdiv (wu 59 u2.toNat) 10000)), (4, zI (Int.tmod (wu 59 u2.toNat) 10000))]) 2 rfl (by decide) rfl rfl dX4_weigh_182 rfl ?_
            refine z_goto 7 dX4_weigh_185 (by decide) ?_
            exact z_Wp.sub (ls' := [(0, zR 58), (1, zR 57), (2, zI (u2 + 1))]) (ih _ _ h k) (z_sub_of [0, 1, 2] rfl)
        · skip
          have c0 : ¬ (Int.tdiv (wu 59 u2.toNat) 10000) = 0 := c0
          have h := h.2 c0
          rw [if_neg c0] at k
          have c1 : ¬ (Int.tdiv (wu 59 u2.toNat) 10000) = 1 := c1
          have h := h.2 c1
          rw [if_neg c1] at k
          have c2 : ¬ (Int.tdiv (wu 59 u2.toNat) 10000) = 2 := c2
          have h := h.2 c2
          rw [if_neg c2] at k
          have c3 : ¬ (Int.tdiv (wu 59 u2.toNat) 10000) = 3 := c3
          have h := h.2 c3
          rw [if_neg c3] at k
          have c4 : ¬ (Int.tdiv (wu 59 u2.toNat) 10000) = 33 := c4
          have h := h.2 c4
          rw [if_neg c4] at k
          refine z_aload_n (pc' := 163) 0 rfl rfl dX4_weigh_162 rfl ?_
          refine z_invV (as := []) (st := []) (C := m_X4_pop) (fs := [61, 62, 0, 0]) (pc' := 166) dX4_weigh_163 rfl t_4_105 k_X4_pop rfl (by decide) rfl rfl rfl rfl (Nat.le_of_ble_eq_true rfl) ?_
          obtain ⟨r41, h⟩ := h
          refine c_W_pop_58 r41 ?_
          show z_Wp m_X4_weigh _ 166 [(0, zR 58), (1, zR 57), (2, zI u2), (3, zI (Int.tdiv (wu 59 u2.toNat) 10000)), (4, zI (Int.tmod (wu 59 u2.toNat) 10000))] [zI ((F_W_pop_58 wu).1)] ((F_W_pop_58 wu).2) _
          refine z_istore (pc' := 168) (ls' := [(0, zR 58), (1, zR 57), (2, zI u2), (3, zI (Int.tdiv (wu 59 u2.toNat) 10000)), (4, zI (Int.tmod (wu 59 u2.toNat) 10000)), (5, zI ((F_W_pop_58 wu).1))]) (by decide) rfl rfl dX4_weigh_166 rfl ?_
          refine z_aload_n (pc' := 169) 0 rfl rfl dX4_weigh_168 rfl ?_
          refine z_iload_n (pc' := 170) 3 rfl rfl dX4_weigh_169 rfl ?_
          refine z_aload_n (pc' := 171) 0 rfl rfl dX4_weigh_170 rfl ?_
          refine z_invV (as := []) (st := [zI (Int.tdiv (wu 59 u2.toNat) 10000), zR 58]) (C := m_X4_pop) (fs := [61, 62, 0, 0]) (pc' := 174) dX4_weigh_171 rfl t_4_105 k_X4_pop rfl (by decide) rfl rfl rfl rfl (Nat.le_of_ble_eq_true rfl) ?_
          obtain ⟨r42, h⟩ := h
          refine c_W_pop_58 r42 ?_
          show z_Wp m_X4_weigh _ 174 [(0, zR 58), (1, zR 57), (2, zI u2), (3, zI (Int.tdiv (wu 59 u2.toNat) 10000)), (4, zI (Int.tmod (wu 59 u2.toNat) 10000)), (5, zI ((F_W_pop_58 wu).1))] [zI ((F_W_pop_58 ((F_W_pop_58 wu).2)).1), zI (Int.tdiv (wu 59 u2.toNat) 10000), zR 58] ((F_W_pop_58 ((F_W_pop_58 wu).2)).2) _
          refine z_iload (pc' := 176) 5 rfl dX4_weigh_174 rfl ?_
          refine z_invS (as := [zI (Int.tdiv (wu 59 u2.toNat) 10000), zI ((F_W_pop_58 ((F_W_pop_58 wu).2)).1), zI ((F_W_pop_58 wu).1)]) (st := [zR 58]) (C := m_X4_join) (pc' := 179) dX4_weigh_176 rfl t_4_110 k_X4_join rfl rfl (Nat.le_of_ble_eq_true rfl) ?_
          obtain ⟨r43, h⟩ := h
          refine c_W_join r43 ?_
          show z_Wp m_X4_weigh _ 179 [(0, zR 58), (1, zR 57), (2, zI u2), (3, zI (Int.tdiv (wu 59 u2.toNat) 10000)), (4, zI (Int.tmod (wu 59 u2.toNat) 10000)), (5, zI ((F_W_pop_58 wu).1))] [zI (F_W_join ((F_W_pop_58 ((F_W_pop_58 wu).2)).2) (Int.tdiv (wu 59 u2.toNat) 10000) ((F_W_pop_58 ((F_W_pop_58 wu).2)).1) ((F_W_pop_58 wu).1)), zR 58] ((F_W_pop_58 ((F_W_pop_58 wu).2)).2) _
          refine z_invV (as := [zI (F_W_join ((F_W_pop_58 ((F_W_pop_58 wu).2)).2) (Int.tdiv (wu 59 u2.toNat) 10000) ((F_W_pop_58 ((F_W_pop_58 wu).2)).1) ((F_W_pop_58 wu).1))]) (st := []) (C := m_X4_push) (fs := [61, 62, 0, 0]) (pc' := 182) dX4_weigh_179 rfl t_4_101 k_X4_push rfl (by decide) rfl rfl rfl rfl (Nat.le_of_ble_eq_true rfl) ?_
          obtain ⟨r44, h⟩ := h
          refine c_W_push_58 r44 ?_
          show z_Wp m_X4_weigh _ 182 [(0, zR 58), (1, zR 57), (2, zI u2), (3, zI (Int.tdiv (wu 59 u2.toNat) 10000)), (4, zI (Int.tmod (wu 59 u2.toNat) 10000)), (5, zI ((F_W_pop_58 wu).1))] [] (F_W_push_58 ((F_W_pop_58 ((F_W_pop_58 wu).2)).2) (F_W_join ((F_W_pop_58 ((F_W_pop_58 wu).2)).2) (Int.tdiv (wu 59 u2.toNat) 10000) ((F_W_pop_58 ((F_W_pop_58 wu).2)).1) ((F_W_pop_58 wu).1))) _
          refine z_iinc (pc' := 185) (ls' := [(0, zR 58), (1, zR 57), (2, zI (u2 + 1)), (3, zI (Int.tdiv (wu 59 u2.toNat) 10000)), (4, zI (Int.tmod (wu 59 u2.toNat) 10000)), (5, zI ((F_W_pop_58 wu).1))]) 2 rfl (by decide) rfl rfl dX4_weigh_182 rfl ?_
          refine z_goto 7 dX4_weigh_185 (by decide) ?_
          exact z_Wp.sub (ls' := [(0, zR 58), (1, zR 57), (2, zI (u2 + 1))]) (ih _ _ h k) (z_sub_of [0, 1, 2] rfl)
  exact hl 300 _ _ h k
def L_W_weigh_61_57_7 (w : z_Wd)   : Nat → Int → z_Wd → Int × z_Wd
  | 0, _, _ => (0, w)
  | m9 + 1, u2, wu => if u2 ≥ wu 61 2 then (0, wu) else if Int.tdiv (wu 62 u2.toNat) 10000 = 0 then L_W_weigh_61_57_7 w m9 (u2 + 1) (F_W_push_61 wu (Int.tmod (wu 62 u2.toNat) 10000)) else if Int.tdiv (wu 62 u2.toNat) 10000 = 1 then if Int.tmod (wu 62 u2.toNat) 10000 ≥ 6 then L_W_weigh_61_57_7 w m9 (u2 + 1) (F_W_push_61 wu 0) else L_W_weigh_61_57_7 w m9 (u2 + 1) (F_W_push_61 wu (wu 57 ((Int.tmod (wu 62 u2.toNat) 10000).toNat))) else if Int.tdiv (wu 62 u2.toNat) 10000 = 2 then ((F_W_pop_61 wu).1, (F_W_pop_61 wu).2) else if Int.tdiv (wu 62 u2.toNat) 10000 = 3 then if (F_W_pop_61 wu).1 = 0 then L_W_weigh_61_57_7 w m9 ((F_J_max_7cf53 ((F_W_pop_61 wu).2) u2 ((Int.tmod (wu 62 u2.toNat) 10000) - 1)) + 1) ((F_W_pop_61 wu).2) else L_W_weigh_61_57_7 w m9 (u2 + 1) ((F_W_pop_61 wu).2) else if Int.tdiv (wu 62 u2.toNat) 10000 = 33 then if (F_W_pop_61 wu).1 = 0 then L_W_weigh_61_57_7 w m9 (u2 + 1) (F_W_push_61 ((F_W_pop_61 wu).2) 1) else L_W_weigh_61_57_7 w m9 (u2 + 1) (F_W_push_61 ((F_W_pop_61 wu).2) 0) else L_W_weigh_61_57_7 w m9 (u2 + 1) (F_W_push_61 ((F_W_pop_61 ((F_W_pop_61 wu).2)).2) (F_W_join ((F_W_pop_61 ((F_W_pop_61 wu).2)).2) (Int.tdiv (wu 62 u2.toNat) 10000) ((F_W_pop_61 ((F_W_pop_61 wu).2)).1) ((F_W_pop_61 wu).1)))
def PL_W_weigh_61_57_7 (w : z_Wd)   : Nat → Int → z_Wd → Prop
  | 0, _, _ => False
  | m9 + 1, u2, wu => (-2147483648 ≤ u2 ∧ u2 < 2147483648) ∧ (-2147483648 ≤ wu 61 2 ∧ wu 61 2 < 2147483648) ∧ ((u2 ≥ wu 61 2 → True) ∧ (¬ (u2 ≥ wu 61 2) → (0 ≤ u2 ∧ u2 < 240) ∧ (-2147483648 ≤ wu 62 u2.toNat ∧ wu 62 u2.toNat < 2147483648) ∧ (-2147483648 ≤ Int.tdiv (wu 62 u2.toNat) 10000 ∧ Int.tdiv (wu 62 u2.toNat) 10000 < 2147483648) ∧ ((Int.tdiv (wu 62 u2.toNat) 10000 = 0 → (P_W_push_61 wu (Int.tmod (wu 62 u2.toNat) 10000)) ∧ (PL_W_weigh_61_57_7 w m9 (u2 + 1) (F_W_push_61 wu (Int.tmod (wu 62 u2.toNat) 10000)))) ∧ (¬ (Int.tdiv (wu 62 u2.toNat) 10000) = 0 → (Int.tdiv (wu 62 u2.toNat) 10000 = 1 → (-2147483648 ≤ Int.tmod (wu 62 u2.toNat) 10000 ∧ Int.tmod (wu 62 u2.toNat) 10000 < 2147483648) ∧ ((Int.tmod (wu 62 u2.toNat) 10000 ≥ 6 → (P_W_push_61 wu 0) ∧ (PL_W_weigh_61_57_7 w m9 (u2 + 1) (F_W_push_61 wu 0))) ∧ (¬ (Int.tmod (wu 62 u2.toNat) 10000 ≥ 6) → (0 ≤ Int.tmod (wu 62 u2.toNat) 10000 ∧ Int.tmod (wu 62 u2.toNat) 10000 < 6) ∧ (P_W_push_61 wu (wu 57 ((Int.tmod (wu 62 u2.toNat) 10000).toNat))) ∧ (PL_W_weigh_61_57_7 w m9 (u2 + 1) (F_W_push_61 wu (wu 57 ((Int.tmod (wu 62 u2.toNat) 10000).toNat))))))) ∧ (¬ (Int.tdiv (wu 62 u2.toNat) 10000) = 1 → (Int.tdiv (wu 62 u2.toNat) 10000 = 2 → P_W_pop_61 wu) ∧ (¬ (Int.tdiv (wu 62 u2.toNat) 10000) = 2 → (Int.tdiv (wu 62 u2.toNat) 10000 = 3 → (P_W_pop_61 wu) ∧ (-2147483648 ≤ (F_W_pop_61 wu).1 ∧ (F_W_pop_61 wu).1 < 2147483648) ∧ (((F_W_pop_61 wu).1 = 0 → (P_J_max_7cf53 ((F_W_pop_61 wu).2) u2 ((Int.tmod (wu 62 u2.toNat) 10000) - 1)) ∧ (PL_W_weigh_61_57_7 w m9 ((F_J_max_7cf53 ((F_W_pop_61 wu).2) u2 ((Int.tmod (wu 62 u2.toNat) 10000) - 1)) + 1) ((F_W_pop_61 wu).2))) ∧ (¬ ((F_W_pop_61 wu).1 = 0) → PL_W_weigh_61_57_7 w m9 (u2 + 1) ((F_W_pop_61 wu).2)))) ∧ (¬ (Int.tdiv (wu 62 u2.toNat) 10000) = 3 → (Int.tdiv (wu 62 u2.toNat) 10000 = 33 → (P_W_pop_61 wu) ∧ (-2147483648 ≤ (F_W_pop_61 wu).1 ∧ (F_W_pop_61 wu).1 < 2147483648) ∧ (((F_W_pop_61 wu).1 = 0 → (P_W_push_61 ((F_W_pop_61 wu).2) 1) ∧ (PL_W_weigh_61_57_7 w m9 (u2 + 1) (F_W_push_61 ((F_W_pop_61 wu).2) 1))) ∧ (¬ ((F_W_pop_61 wu).1 = 0) → (P_W_push_61 ((F_W_pop_61 wu).2) 0) ∧ (PL_W_weigh_61_57_7 w m9 (u2 + 1) (F_W_push_61 ((F_W_pop_61 wu).2) 0))))) ∧ (¬ (Int.tdiv (wu 62 u2.toNat) 10000) = 33 → (P_W_pop_61 wu) ∧ (P_W_pop_61 ((F_W_pop_61 wu).2)) ∧ (P_W_join ((F_W_pop_61 ((F_W_pop_61 wu).2)).2) (Int.tdiv (wu 62 u2.toNat) 10000) ((F_W_pop_61 ((F_W_pop_61 wu).2)).1) ((F_W_pop_61 wu).1)) ∧ (P_W_push_61 ((F_W_pop_61 ((F_W_pop_61 wu).2)).2) (F_W_join ((F_W_pop_61 ((F_W_pop_61 wu).2)).2) (Int.tdiv (wu 62 u2.toNat) 10000) ((F_W_pop_61 ((F_W_pop_61 wu).2)).1) ((F_W_pop_61 wu).1))) ∧ (PL_W_weigh_61_57_7 w m9 (u2 + 1) (F_W_push_61 ((F_W_pop_61 ((F_W_pop_61 wu).2)).2) (F_W_join ((F_W_pop_61 ((F_W_pop_61 wu).2)).2) (Int.tdiv (wu 62 u2.toNat) 10000) ((F_W_pop_61 ((F_W_pop_61 wu).2)).1) ((F_W_pop_61 wu).1))))))))))))
def P_W_weigh_61_57 (w : z_Wd)  : Prop := PL_W_weigh_61_57_7 w 300 0 (z_up w 61 3 0)
def F_W_weigh_61_57 (w : z_Wd)  : Int × z_Wd := L_W_weigh_61_57_7 w 300 0 (z_up w 61 3 0)
set_option maxRecDepth 4000 in
theorem c_W_weigh_61_57 {d : Nat} {w : z_Wd} {Q : Option z_V → z_Wd → Prop} (h : P_W_weigh_61_57 w ) (k : Q (some (zI (F_W_weigh_61_57 w ).1)) (F_W_weigh_61_57 w ).2) : z_Wc (d + 3) m_X4_weigh [zR 61, zR 57] w Q := by
  unfold P_W_weigh_61_57 at h
  unfold F_W_weigh_61_57 at k
  refine z_enter rfl (Nat.le_of_ble_eq_true rfl) ?_
  show z_Wp m_X4_weigh _ 0 [(0, zR 61), (1, zR 57)] [] w _
  refine z_aload_n (pc' := 1) 0 rfl rfl dX4_weigh_0 rfl ?_
  refine z_iconst (pc' := 2) dX4_weigh_1 rfl ?_
  refine z_putI (pc' := 5) p_X4_28 (by decide) rfl rfl rfl rfl dX4_weigh_2 rfl ?_
  refine z_iconst (pc' := 6) dX4_weigh_5 rfl ?_
  refine z_istore_n (pc' := 7) (ls' := [(0, zR 61), (1, zR 57), (2, zI 0)]) rfl (by decide) rfl rfl dX4_weigh_6 rfl ?_
  have hl : ∀ (m9 : Nat) (u2 : Int) (wu : z_Wd), PL_W_weigh_61_57_7 w m9 u2 wu → Q (some (zI (L_W_weigh_61_57_7 w m9 u2 wu).1)) (L_W_weigh_61_57_7 w m9 u2 wu).2 → z_Wp m_X4_weigh (d + 3) 7 [(0, zR 61), (1, zR 57), (2, zI u2)] [] wu Q := by
    clear h k
    intro m9
    induction m9 with
    | zero => intro u2 wu h k; exact False.elim h
    | succ m9 ih =>
      intro u2 wu h k
      have h : (-2147483648 ≤ u2 ∧ u2 < 2147483648) ∧ (-2147483648 ≤ wu 61 2 ∧ wu 61 2 < 2147483648) ∧ ((u2 ≥ wu 61 2 → True) ∧ (¬ (u2 ≥ wu 61 2) → (0 ≤ u2 ∧ u2 < 240) ∧ (-2147483648 ≤ wu 62 u2.toNat ∧ wu 62 u2.toNat < 2147483648) ∧ (-2147483648 ≤ Int.tdiv (wu 62 u2.toNat) 10000 ∧ Int.tdiv (wu 62 u2.toNat) 10000 < 2147483648) ∧ ((Int.tdiv (wu 62 u2.toNat) 10000 = 0 → (P_W_push_61 wu (Int.tmod (wu 62 u2.toNat) 10000)) ∧ (PL_W_weigh_61_57_7 w m9 (u2 + 1) (F_W_push_61 wu (Int.tmod (wu 62 u2.toNat) 10000)))) ∧ (¬ (Int.tdiv (wu 62 u2.toNat) 10000) = 0 → (Int.tdiv (wu 62 u2.toNat) 10000 = 1 → (-2147483648 ≤ Int.tmod (wu 62 u2.toNat) 10000 ∧ Int.tmod (wu 62 u2.toNat) 10000 < 2147483648) ∧ ((Int.tmod (wu 62 u2.toNat) 10000 ≥ 6 → (P_W_push_61 wu 0) ∧ (PL_W_weigh_61_57_7 w m9 (u2 + 1) (F_W_push_61 wu 0))) ∧ (¬ (Int.tmod (wu 62 u2.toNat) 10000 ≥ 6) → (0 ≤ Int.tmod (wu 62 u2.toNat) 10000 ∧ Int.tmod (wu 62 u2.toNat) 10000 < 6) ∧ (P_W_push_61 wu (wu 57 ((Int.tmod (wu 62 u2.toNat) 10000).toNat))) ∧ (PL_W_weigh_61_57_7 w m9 (u2 + 1) (F_W_push_61 wu (wu 57 ((Int.tmod (wu 62 u2.toNat) 10000).toNat))))))) ∧ (¬ (Int.tdiv (wu 62 u2.toNat) 10000) = 1 → (Int.tdiv (wu 62 u2.toNat) 10000 = 2 → P_W_pop_61 wu) ∧ (¬ (Int.tdiv (wu 62 u2.toNat) 10000) = 2 → (Int.tdiv (wu 62 u2.toNat) 10000 = 3 → (P_W_pop_61 wu) ∧ (-2147483648 ≤ (F_W_pop_61 wu).1 ∧ (F_W_pop_61 wu).1 < 2147483648) ∧ (((F_W_pop_61 wu).1 = 0 → (P_J_max_7cf53 ((F_W_pop_61 wu).2) u2 ((Int.tmod (wu 62 u2.toNat) 10000) - 1)) ∧ (PL_W_weigh_61_57_7 w m9 ((F_J_max_7cf53 ((F_W_pop_61 wu).2) u2 ((Int.tmod (wu 62 u2.toNat) 10000) - 1)) + 1) ((F_W_pop_61 wu).2))) ∧ (¬ ((F_W_pop_61 wu).1 = 0) → PL_W_weigh_61_57_7 w m9 (u2 + 1) ((F_W_pop_61 wu).2)))) ∧ (¬ (Int.tdiv (wu 62 u2.toNat) 10000) = 3 → (Int.tdiv (wu 62 u2.toNat) 10000 = 33 → (P_W_pop_61 wu) ∧ (-2147483648 ≤ (F_W_pop_61 wu).1 ∧ (F_W_pop_61 wu).1 < 2147483648) ∧ (((F_W_pop_61 wu).1 = 0 → (P_W_push_61 ((F_W_pop_61 wu).2) 1) ∧ (PL_W_weigh_61_57_7 w m9 (u2 + 1) (F_W_push_61 ((F_W_pop_61 wu).2) 1))) ∧ (¬ ((F_W_pop_61 wu).1 = 0) → (P_W_push_61 ((F_W_pop_61 wu).2) 0) ∧ (PL_W_weigh_61_57_7 w m9 (u2 + 1) (F_W_push_61 ((F_W_pop_61 wu).2) 0))))) ∧ (¬ (Int.tdiv (wu 62 u2.toNat) 10000) = 33 → (P_W_pop_61 wu) ∧ (P_W_pop_61 ((F_W_pop_61 wu).2)) ∧ (P_W_join ((F_W_pop_61 ((F_W_pop_61 wu).2)).2) (Int.tdiv (wu 62 u2.toNat) 10000) ((F_W_pop_61 ((F_W_pop_61 wu).2)).1) ((F_W_pop_61 wu).1)) ∧ (P_W_push_61 ((F_W_pop_61 ((F_W_pop_61 wu).2)).2) (F_W_join ((F_W_pop_61 ((F_W_pop_61 wu).2)).2) (Int.tdiv (wu 62 u2.toNat) 10000) ((F_W_pop_61 ((F_W_pop_61 wu).2)).1) ((F_W_pop_61 wu).1))) ∧ (PL_W_weigh_61_57_7 w m9 (u2 + 1) (F_W_push_61 ((F_W_pop_61 ((F_W_pop_61 wu).2)).2) (F_W_join ((F_W_pop_61 ((F_W_pop_61 wu).2)).2) (Int.tdiv (wu 62 u2.toNat) 10000) ((F_W_pop_61 ((F_W_pop_61 wu).2)).1) ((F_W_pop_61 wu).1)))))))))))) := h
      have k : Q (some (zI (if u2 ≥ wu 61 2 then (0, wu) else if Int.tdiv (wu 62 u2.toNat) 10000 = 0 then L_W_weigh_61_57_7 w m9 (u2 + 1) (F_W_push_61 wu (Int.tmod (wu 62 u2.toNat) 10000)) else if Int.tdiv (wu 62 u2.toNat) 10000 = 1 then if Int.tmod (wu 62 u2.toNat) 10000 ≥ 6 then L_W_weigh_61_57_7 w m9 (u2 + 1) (F_W_push_61 wu 0) else L_W_weigh_61_57_7 w m9 (u2 + 1) (F_W_push_61 wu (wu 57 ((Int.tmod (wu 62 u2.toNat) 10000).toNat))) else if Int.tdiv (wu 62 u2.toNat) 10000 = 2 then ((F_W_pop_61 wu).1, (F_W_pop_61 wu).2) else if Int.tdiv (wu 62 u2.toNat) 10000 = 3 then if (F_W_pop_61 wu).1 = 0 then L_W_weigh_61_57_7 w m9 ((F_J_max_7cf53 ((F_W_pop_61 wu).2) u2 ((Int.tmod (wu 62 u2.toNat) 10000) - 1)) + 1) ((F_W_pop_61 wu).2) else L_W_weigh_61_57_7 w m9 (u2 + 1) ((F_W_pop_61 wu).2) else if Int.tdiv (wu 62 u2.toNat) 10000 = 33 then if (F_W_pop_61 wu).1 = 0 then L_W_weigh_61_57_7 w m9 (u2 + 1) (F_W_push_61 ((F_W_pop_61 wu).2) 1) else L_W_weigh_61_57_7 w m9 (u2 + 1) (F_W_push_61 ((F_W_pop_61 wu).2) 0) else L_W_weigh_61_57_7 w m9 (u2 + 1) (F_W_push_61 ((F_W_pop_61 ((F_W_pop_61 wu).2)).2) (F_W_join ((F_W_pop_61 ((F_W_pop_61 wu).2)).2) (Int.tdiv (wu 62 u2.toNat) 10000) ((F_W_pop_61 ((F_W_pop_61 wu).2)).1) ((F_W_pop_61 wu).1)))).1)) (if u2 ≥ wu 61 2 then (0, wu) else if Int.tdiv (wu 62 u2.toNat) 10000 = 0 then L_W_weigh_61_57_7 w m9 (u2 + 1) (F_W_push_61 wu (Int.tmod (wu 62 u2.toNat) 10000)) else if Int.tdiv (wu 62 u2.toNat) 10000 = 1 then if Int.tmod (wu 62 u2.toNat) 10000 ≥ 6 then L_W_weigh_61_57_7 w m9 (u2 + 1) (F_W_push_61 wu 0) else L_W_weigh_61_57_7 w m9 (u2 + 1) (F_W_push_61 wu (wu 57 ((Int.tmod (wu 62 u2.toNat) 10000).toNat))) else if Int.tdiv (wu 62 u2.toNat) 10000 = 2 then ((F_W_pop_61 wu).1, (F_W_pop_61 wu).2) else if Int.tdiv (wu 62 u2.toNat) 10000 = 3 then if (F_W_pop_61 wu).1 = 0 then L_W_weigh_61_57_7 w m9 ((F_J_max_7cf53 ((F_W_pop_61 wu).2) u2 ((Int.tmod (wu 62 u2.toNat) 10000) - 1)) + 1) ((F_W_pop_61 wu).2) else L_W_weigh_61_57_7 w m9 (u2 + 1) ((F_W_pop_61 wu).2) else if Int.tdiv (wu 62 u2.toNat) 10000 = 33 then if (F_W_pop_61 wu).1 = 0 then L_W_weigh_61_57_7 w m9 (u2 + 1) (F_W_push_61 ((F_W_pop_61 wu).2) 1) else L_W_weigh_61_57_7 w m9 (u2 + 1) (F_W_push_61 ((F_W_pop_61 wu).2) 0) else L_W_weigh_61_57_7 w m9 (u2 + 1) (F_W_push_61 ((F_W_pop_61 ((F_W_pop_61 wu).2)).2) (F_W_join ((F_W_pop_61 ((F_W_pop_61 wu).2)).2) (Int.tdiv (wu 62 u2.toNat) 10000) ((F_W_pop_61 ((F_W_pop_61 wu).2)).1) ((F_W_pop_61 wu).1)))).2 := k
      refine z_iload_n (pc' := 8) 2 rfl rfl dX4_weigh_7 rfl ?_
      refine z_aload_n (pc' := 9) 0 rfl rfl dX4_weigh_8 rfl ?_
      refine z_getI2 (v := wu 61 2) (pc' := 12) g_X4_18 (by decide) rfl rfl rfl dX4_weigh_9 rfl ?_
      obtain ⟨r23, h⟩ := h
      obtain ⟨r24, h⟩ := h
      refine z_icmp_ge 188 dX4_weigh_12 (by decide) (pc' := 15) rfl r23 r24 (fun c => ?_) (fun c => ?_)
      · have h := h.1 c
        rw [if_pos c] at k
        refine z_iconst (pc' := 189) dX4_weigh_188 rfl ?_
        refine z_iret rfl dX4_weigh_189 ?_
        exact k
      · have h := h.2 c
        rw [if_neg c] at k
        refine z_aload_n (pc' := 16) 0 rfl rfl dX4_weigh_15 rfl ?_
        refine z_getR (t := 62) (pc' := 19) g_X4_11 (by decide) rfl rfl dX4_weigh_16 rfl ?_
        refine z_iload_n (pc' := 20) 2 rfl rfl dX4_weigh_19 rfl ?_
        obtain ⟨r25, h⟩ := h
        refine z_iald2 (v := wu 62 u2.toNat) (pc' := 21) (by decide) rfl r25 (by decide) rfl dX4_weigh_20 rfl ?_
        refine z_sipush (pc' := 24) (by decide) dX4_weigh_21 rfl ?_
        obtain ⟨r26, h⟩ := h
        refine z_idiv (pc' := 25) r26 (by decide) (by decide) dX4_weigh_24 rfl ?_
        refine z_istore_n (pc' := 26) (ls' := [(0, zR 61), (1, zR 57), (2, zI u2), (3, zI (Int.tdiv (wu 62 u2.toNat) 10000))]) rfl (by decide) rfl rfl dX4_weigh_25 rfl ?_
        refine z_aload_n (pc' := 27) 0 rfl rfl dX4_weigh_26 rfl ?_
        refine z_getR (t := 62) (pc' := 30) g_X4_11 (by decide) rfl rfl dX4_weigh_27 rfl ?_
        refine z_iload_n (pc' := 31) 2 rfl rfl dX4_weigh_30 rfl ?_
        refine z_iald2 (v := wu 62 u2.toNat) (pc' := 32) (by decide) rfl r25 (by decide) rfl dX4_weigh_31 rfl ?_
        refine z_sipush (pc' := 35) (by decide) dX4_weigh_32 rfl ?_
        refine z_irem (pc' := 36) r26 (by decide) (by decide) dX4_weigh_35 rfl ?_
        refine z_istore (pc' := 38) (ls' := [(0, zR 61), (1, zR 57), (2, zI u2), (3, zI (Int.tdiv (wu 62 u2.toNat) 10000)), (4, zI (Int.tmod (wu 62 u2.toNat) 10000))]) (by decide) rfl rfl dX4_weigh_36 rfl ?_
        refine z_iload_n (pc' := 39) 3 rfl rfl dX4_weigh_38 rfl ?_
        obtain ⟨r27, h⟩ := h
        refine z_lookup dX4_weigh_39 (by decide) r27 ⟨fun c0 => ⟨88, by decide, ?_⟩, fun c0 => ⟨fun c1 => ⟨97, by decide, ?_⟩, fun c1 => ⟨fun c2 => ⟨119, by decide, ?_⟩, fun c2 => ⟨fun c3 => ⟨124, by decide, ?_⟩, fun c3 => ⟨fun c4 => ⟨143, by decide, ?_⟩, fun c4 => ⟨162, by decide, ?_⟩⟩⟩⟩⟩⟩
        · skip
          have c0 : Int.tdiv (wu 62 u2.toNat) 10000 = 0 := c0
          have h := h.1 c0
          rw [if_pos c0] at k
          refine z_aload_n (pc' := 89) 0 rfl rfl dX4_weigh_88 rfl ?_
          refine z_iload (pc' := 91) 4 rfl dX4_weigh_89 rfl ?_
          refine z_invV (as := [zI (Int.tmod (wu 62 u2.toNat) 10000)]) (st := []) (C := m_X4_push) (fs := [64, 65, 0, 0]) (pc' := 94) dX4_weigh_91 rfl t_4_101 k_X4_push rfl (by decide) rfl rfl rfl rfl (Nat.le_of_ble_eq_true rfl) ?_
          obtain ⟨r28, h⟩ := h
          refine c_W_push_61 r28 ?_
          show z_Wp m_X4_weigh _ 94 [(0, zR 61), (1, zR 57), (2, zI u2), (3, zI (Int.tdiv (wu 62 u2.toNat) 10000)), (4, zI (Int.tmod (wu 62 u2.toNat) 10000))] [] (F_W_push_61 wu (Int.tmod (wu 62 u2.toNat) 10000)) _
          refine z_goto 182 dX4_weigh_94 (by decide) ?_
          refine z_iinc (pc' := 185) (ls' := [(0, zR 61), (1, zR 57), (2, zI (u2 + 1)), (3, zI (Int.tdiv (wu 62 u2.toNat) 10000)), (4, zI (Int.tmod (wu 62 u2.toNat) 10000))]) 2 rfl (by decide) rfl rfl dX4_weigh_182 rfl ?_
          refine z_goto 7 dX4_weigh_185 (by decide) ?_
          exact z_Wp.sub (ls' := [(0, zR 61), (1, zR 57), (2, zI (u2 + 1))]) (ih _ _ h k) (z_sub_of [0, 1, 2] rfl)
        · skip
          have c0 : ¬ (Int.tdiv (wu 62 u2.toNat) 10000) = 0 := c0
          have h := h.2 c0
          rw [if_neg c0] at k
          have c1 : Int.tdiv (wu 62 u2.toNat) 10000 = 1 := c1
          have h := h.1 c1
          rw [if_pos c1] at k
          refine z_aload_n (pc' := 98) 0 rfl rfl dX4_weigh_97 rfl ?_
          refine z_iload (pc' := 100) 4 rfl dX4_weigh_98 rfl ?_
          refine z_aload_n (pc' := 101) 1 rfl rfl dX4_weigh_100 rfl ?_
          refine z_alen2 (v := 6) (pc' := 102) (by decide) rfl rfl dX4_weigh_101 rfl ?_
          obtain ⟨r29, h⟩ := h
          refine z_icmp_ge 112 dX4_weigh_102 (by decide) (pc' := 105) rfl r29 (by decide) (fun c => ?_) (fun c => ?_)
          · have h := h.1 c
            rw [if_pos c] at k
            refine z_iconst (pc' := 113) dX4_weigh_112 rfl ?_
            refine z_invV (as := [zI 0]) (st := []) (C := m_X4_push) (fs := [64, 65, 0, 0]) (pc' := 116) dX4_weigh_113 rfl t_4_101 k_X4_push rfl (by decide) rfl rfl rfl rfl (Nat.le_of_ble_eq_true rfl) ?_
            obtain ⟨r30, h⟩ := h
            refine c_W_push_61 r30 ?_
            show z_Wp m_X4_weigh _ 116 [(0, zR 61), (1, zR 57), (2, zI u2), (3, zI (Int.tdiv (wu 62 u2.toNat) 10000)), (4, zI (Int.tmod (wu 62 u2.toNat) 10000))] [] (F_W_push_61 wu 0) _
            refine z_goto 182 dX4_weigh_116 (by decide) ?_
            refine z_iinc (pc' := 185) (ls' := [(0, zR 61), (1, zR 57), (2, zI (u2 + 1)), (3, zI (Int.tdiv (wu 62 u2.toNat) 10000)), (4, zI (Int.tmod (wu 62 u2.toNat) 10000))]) 2 rfl (by decide) rfl rfl dX4_weigh_182 rfl ?_
            refine z_goto 7 dX4_weigh_185 (by decide) ?_
            exact z_Wp.sub (ls' := [(0, zR 61), (1, zR 57), (2, zI (u2 + 1))]) (ih _ _ h k) (z_sub_of [0, 1, 2] rfl)
          · have h := h.2 c
            rw [if_neg c] at k
            refine z_aload_n (pc' := 106) 1 rfl rfl dX4_weigh_105 rfl ?_
            refine z_iload (pc' := 108) 4 rfl dX4_weigh_106 rfl ?_
            obtain ⟨r31, h⟩ := h
            refine z_iald2 (v := wu 57 ((Int.tmod (wu 62 u2.toNat) 10000).toNat)) (pc' := 109) (by decide) rfl r31 (by decide) rfl dX4_weigh_108 rfl ?_
            refine z_goto 113 dX4_weigh_109 (by decide) ?_
            refine z_invV (as := [zI (wu 57 ((Int.tmod (wu 62 u2.toNat) 10000).toNat))]) (st := []) (C := m_X4_push) (fs := [64, 65, 0, 0]) (pc' := 116) dX4_weigh_113 rfl t_4_101 k_X4_push rfl (by decide) rfl rfl rfl rfl (Nat.le_of_ble_eq_true rfl) ?_
            obtain ⟨r32, h⟩ := h
            refine c_W_push_61 r32 ?_
            show z_Wp m_X4_weigh _ 116 [(0, zR 61), (1, zR 57), (2, zI u2), (3, zI (Int.tdiv (wu 62 u2.toNat) 10000)), (4, zI (Int.tmod (wu 62 u2.toNat) 10000))] [] (F_W_push_61 wu (wu 57 ((Int.tmod (wu 62 u2.toNat) 10000).toNat))) _
            refine z_goto 182 dX4_weigh_116 (by decide) ?_
            refine z_iinc (pc' := 185) (ls' := [(0, zR 61), (1, zR 57), (2, zI (u2 + 1)), (3, zI (Int.tdiv (wu 62 u2.toNat) 10000)), (4, zI (Int.tmod (wu 62 u2.toNat) 10000))]) 2 rfl (by decide) rfl rfl dX4_weigh_182 rfl ?_
            refine z_goto 7 dX4_weigh_185 (by decide) ?_
            exact z_Wp.sub (ls' := [(0, zR 61), (1, zR 57), (2, zI (u2 + 1))]) (ih _ _ h k) (z_sub_of [0, 1, 2] rfl)
        · skip
          have c0 : ¬ (Int.tdiv (wu 62 u2.toNat) 10000) = 0 := c0
          have h := h.2 c0
          rw [if_neg c0] at k
          have c1 : ¬ (Int.tdiv (wu 62 u2.toNat) 10000) = 1 := c1
          have h := h.2 c1
          rw [if_neg c1] at k
          have c2 : Int.tdiv (wu 62 u2.toNat) 10000 = 2 := c2
          have h := h.1 c2
          rw [if_pos c2] at k
          refine z_aload_n (pc' := 120) 0 rfl rfl dX4_weigh_119 rfl ?_
          refine z_invV (as := []) (st := []) (C := m_X4_pop) (fs := [64, 65, 0, 0]) (pc' := 123) dX4_weigh_120 rfl t_4_105 k_X4_pop rfl (by decide) rfl rfl rfl rfl (Nat.le_of_ble_eq_true rfl) ?_
          have r33 := h
          refine c_W_pop_61 r33 ?_
          show z_Wp m_X4_weigh _ 123 [(0, zR 61), (1, zR 57), (2, zI u2), (3, zI (Int.tdiv (wu 62 u2.toNat) 10000)), (4, zI (Int.tmod (wu 62 u2.toNat) 10000))] [zI ((F_W_pop_61 wu).1)] ((F_W_pop_61 wu).2) _
          refine z_iret rfl dX4_weigh_123 ?_
          exact k
        · skip
          have c0 : ¬ (Int.tdiv (wu 62 u2.toNat) 10000) = 0 := c0
          have h := h.2 c0
          rw [if_neg c0] at k
          have c1 : ¬ (Int.tdiv (wu 62 u2.toNat) 10000) = 1 := c1
          have h := h.2 c1
          rw [if_neg c1] at k
          have c2 : ¬ (Int.tdiv (wu 62 u2.toNat) 10000) = 2 := c2
          have h := h.2 c2
          rw [if_neg c2] at k
          have c3 : Int.tdiv (wu 62 u2.toNat) 10000 = 3 := c3
          have h := h.1 c3
          rw [if_pos c3] at k
          refine z_aload_n (pc' := 125) 0 rfl rfl dX4_weigh_124 rfl ?_
          refine z_invV (as := []) (st := []) (C := m_X4_pop) (fs := [64, 65, 0, 0]) (pc' := 128) dX4_weigh_125 rfl t_4_105 k_X4_pop rfl (by decide) rfl rfl rfl rfl (Nat.le_of_ble_eq_true rfl) ?_
          obtain ⟨r34, h⟩ := h
          refine c_W_pop_61 r34 ?_
          show z_Wp m_X4_weigh _ 128 [(0, zR 61), (1, zR 57), (2, zI u2), (3, zI (Int.tdiv (wu 62 u2.toNat) 10000)), (4, zI (Int.tmod (wu 62 u2.toNat) 10000))] [zI ((F_W_pop_61 wu).1)] ((F_W_pop_61 wu).2) _
          obtain ⟨r35, h⟩ := h
          refine z_if_ne 182 dX4_weigh_128 (by decide) (pc' := 131) rfl r35 (fun c => ?_) (fun c => ?_)
          · have h := h.2 c
            rw [if_neg c] at k
            refine z_iinc (pc' := 185) (ls' := [(0, zR 61), (1, zR 57), (2, zI (u2 + 1)), (3, zI (Int.tdiv (wu 62 u2.toNat) 10000)), (4, zI (Int.tmod (wu 62 u2.toNat) 10000))]) 2 rfl (by decide) rfl rfl dX4_weigh_182 rfl ?_
            refine z_goto 7 dX4_weigh_185 (by decide) ?_
            exact z_Wp.sub (ls' := [(0, zR 61), (1, zR 57), (2, zI (u2 + 1))]) (ih _ _ h k) (z_sub_of [0, 1, 2] rfl)
          · have h := h.1 c
            rw [if_pos c] at k
            refine z_iload_n (pc' := 132) 2 rfl rfl dX4_weigh_131 rfl ?_
            refine z_iload (pc' := 134) 4 rfl dX4_weigh_132 rfl ?_
            refine z_iconst (pc' := 135) dX4_weigh_134 rfl ?_
            refine z_isub (pc' := 136) dX4_weigh_135 rfl ?_
            refine z_invS (as := [zI u2, zI ((Int.tmod (wu 62 u2.toNat) 10000) - 1)]) (st := []) (C := m_J9_max_7cf53) (pc' := 139) dX4_weigh_136 rfl t_4_109 k_J9_max_7cf53 rfl rfl (Nat.le_of_ble_eq_true rfl) ?_
            obtain ⟨r36, h⟩ := h
            refine c_J_max_7cf53 r36 ?_
            show z_Wp m_X4_weigh _ 139 [(0, zR 61), (1, zR 57), (2, zI u2), (3, zI (Int.tdiv (wu 62 u2.toNat) 10000)), (4, zI (Int.tmod (wu 62 u2.toNat) 10000))] [zI (F_J_max_7cf53 ((F_W_pop_61 wu).2) u2 ((Int.tmod (wu 62 u2.toNat) 10000) - 1))] ((F_W_pop_61 wu).2) _
            refine z_istore_n (pc' := 140) (ls' := [(0, zR 61), (1, zR 57), (2, zI (F_J_max_7cf53 ((F_W_pop_61 wu).2) u2 ((Int.tmod (wu 62 u2.toNat) 10000) - 1))), (3, zI (Int.tdiv (wu 62 u2.toNat) 10000)), (4, zI (Int.tmod (wu 62 u2.toNat) 10000))]) rfl (by decide) rfl rfl dX4_weigh_139 rfl ?_
            refine z_goto 182 dX4_weigh_140 (by decide) ?_
            refine z_iinc (pc' := 185) (ls' := [(0, zR 61), (1, zR 57), (2, zI ((F_J_max_7cf53 ((F_W_pop_61 wu).2) u2 ((Int.tmod (wu 62 u2.toNat) 10000) - 1)) + 1)), (3, zI (Int.tdiv (wu 62 u2.toNat) 10000)), (4, zI (Int.tmod (wu 62 u2.toNat) 10000))]) 2 rfl (by decide) rfl rfl dX4_weigh_182 rfl ?_
            refine z_goto 7 dX4_weigh_185 (by decide) ?_
            exact z_Wp.sub (ls' := [(0, zR 61), (1, zR 57), (2, zI ((F_J_max_7cf53 ((F_W_pop_61 wu).2) u2 ((Int.tmod (wu 62 u2.toNat) 10000) - 1)) + 1))]) (ih _ _ h k) (z_sub_of [0, 1, 2] rfl)
        · skip
          have c0 : ¬ (Int.tdiv (wu 62 u2.toNat) 10000) = 0 := c0
          have h := h.2 c0
          rw [if_neg c0] at k
          have c1 : ¬ (Int.tdiv (wu 62 u2.toNat) 10000) = 1 := c1
          have h := h.2 c1
          rw [if_neg c1] at k
          have c2 : ¬ (Int.tdiv (wu 62 u2.toNat) 10000) = 2 := c2
          have h := h.2 c2
          rw [if_neg c2] at k
          have c3 : ¬ (Int.tdiv (wu 62 u2.toNat) 10000) = 3 := c3
          have h := h.2 c3
          rw [if_neg c3] at k
          have c4 : Int.tdiv (wu 62 u2.toNat) 10000 = 33 := c4
          have h := h.1 c4
          rw [if_pos c4] at k
          refine z_aload_n (pc' := 144) 0 rfl rfl dX4_weigh_143 rfl ?_
          refine z_aload_n (pc' := 145) 0 rfl rfl dX4_weigh_144 rfl ?_
          refine z_invV (as := []) (st := [zR 61]) (C := m_X4_pop) (fs := [64, 65, 0, 0]) (pc' := 148) dX4_weigh_145 rfl t_4_105 k_X4_pop rfl (by decide) rfl rfl rfl rfl (Nat.le_of_ble_eq_true rfl) ?_
          obtain ⟨r37, h⟩ := h
          refine c_W_pop_61 r37 ?_
          show z_Wp m_X4_weigh _ 148 [(0, zR 61), (1, zR 57), (2, zI u2), (3, zI (Int.tdiv (wu 62 u2.toNat) 10000)), (4, zI (Int.tmod (wu 62 u2.toNat) 10000))] [zI ((F_W_pop_61 wu).1), zR 61] ((F_W_pop_61 wu).2) _
          obtain ⟨r38, h⟩ := h
          refine z_if_ne 155 dX4_weigh_148 (by decide) (pc' := 151) rfl r38 (fun c => ?_) (fun c => ?_)
          · have h := h.2 c
            rw [if_neg c] at k
            refine z_iconst (pc' := 156) dX4_weigh_155 rfl ?_
            refine z_invV (as := [zI 0]) (st := []) (C := m_X4_push) (fs := [64, 65, 0, 0]) (pc' := 159) dX4_weigh_156 rfl t_4_101 k_X4_push rfl (by decide) rfl rfl rfl rfl (Nat.le_of_ble_eq_true rfl) ?_
            obtain ⟨r39, h⟩ := h
            refine c_W_push_61 r39 ?_
            show z_Wp m_X4_weigh _ 159 [(0, zR 61), (1, zR 57), (2, zI u2), (3, zI (Int.tdiv (wu 62 u2.toNat) 10000)), (4, zI (Int.tmod (wu 62 u2.toNat) 10000))] [] (F_W_push_61 ((F_W_pop_61 wu).2) 0) _
            refine z_goto 182 dX4_weigh_159 (by decide) ?_
            refine z_iinc (pc' := 185) (ls' := [(0, zR 61), (1, zR 57), (2, zI (u2 + 1)), (3, zI (Int.tdiv (wu 62 u2.toNat) 10000)), (4, zI (Int.tmod (wu 62 u2.toNat) 10000))]) 2 rfl (by decide) rfl rfl dX4_weigh_182 rfl ?_
            refine z_goto 7 dX4_weigh_185 (by decide) ?_
            exact z_Wp.sub (ls' := [(0, zR 61), (1, zR 57), (2, zI (u2 + 1))]) (ih _ _ h k) (z_sub_of [0, 1, 2] rfl)
          · have h := h.1 c
            rw [if_pos c] at k
            refine z_iconst (pc' := 152) dX4_weigh_151 rfl ?_
            refine z_goto 156 dX4_weigh_152 (by decide) ?_
            refine z_invV (as := [zI 1]) (st := []) (C := m_X4_push) (fs := [64, 65, 0, 0]) (pc' := 159) dX4_weigh_156 rfl t_4_101 k_X4_push rfl (by decide) rfl rfl rfl rfl (Nat.le_of_ble_eq_true rfl) ?_
            obtain ⟨r40, h⟩ := h
            refine c_W_push_61 r40 ?_
            show z_Wp m_X4_weigh _ 159 [(0, zR 61), (1, zR 57), (2, zI u2), (3, zI (Int.tdiv (wu 62 u2.toNat) 10000)), (4, zI (Int.tmod (wu 62 u2.toNat) 10000))] [] (F_W_push_61 ((F_W_pop_61 wu).2) 1) _
            refine z_goto 182 dX4_weigh_159 (by decide) ?_
            refine z_iinc (pc' := 185) (ls' := [(0, zR 61), (1, zR 57), (2, zI (u2 + 1)), (3, zI (Int.tdiv (wu 62 u2.toNat) 10000)), (4, zI (Int.tmod (wu 62 u2.toNat) 10000))]) 2 rfl (by decide) rfl rfl dX4_weigh_182 rfl ?_
            refine z_goto 7 dX4_weigh_185 (by decide) ?_
            exact z_Wp.sub (ls' := [(0, zR 61), (1, zR 57), (2, zI (u2 + 1))]) (ih _ _ h k) (z_sub_of [0, 1, 2] rfl)
        · skip
          have c0 : ¬ (Int.tdiv (wu 62 u2.toNat) 10000) = 0 := c0
          have h := h.2 c0
          rw [if_neg c0] at k
          have c1 : ¬ (Int.tdiv (wu 62 u2.toNat) 10000) = 1 := c1
          have h := h.2 c1
          rw [if_neg c1] at k
          have c2 : ¬ (Int.tdiv (wu 62 u2.toNat) 10000) = 2 := c2
          have h := h.2 c2
          rw [if_neg c2] at k
          have c3 : ¬ (Int.tdiv (wu 62 u2.toNat) 10000) = 3 := c3
          have h := h.2 c3
          rw [if_neg c3] at k
          have c4 : ¬ (Int.tdiv (wu 62 u2.toNat) 10000) = 33 := c4
          have h := h.2 c4
          rw [if_neg c4] at k
          refine z_aload_n (pc' := 163) 0 rfl rfl dX4_weigh_162 rfl ?_
          refine z_invV (as := []) (st := []) (C := m_X4_pop) (fs := [64, 65, 0, 0]) (pc' := 166) dX4_weigh_163 rfl t_4_105 k_X4_pop rfl (by decide) rfl rfl rfl rfl (Nat.le_of_ble_eq_true rfl) ?_
          obtain ⟨r41, h⟩ := h
          refine c_W_pop_61 r41 ?_
          show z_Wp m_X4_weigh _ 166 [(0, zR 61), (1, zR 57), (2, zI u2), (3, zI (Int.tdiv (wu 62 u2.toNat) 10000)), (4, zI (Int.tmod (wu 62 u2.toNat) 10000))] [zI ((F_W_pop_61 wu).1)] ((F_W_pop_61 wu).2) _
          refine z_istore (pc' := 168) (ls' := [(0, zR 61), (1, zR 57), (2, zI u2), (3, zI (Int.tdiv (wu 62 u2.toNat) 10000)), (4, zI (Int.tmod (wu 62 u2.toNat) 10000)), (5, zI ((F_W_pop_61 wu).1))]) (by decide) rfl rfl dX4_weigh_166 rfl ?_
          refine z_aload_n (pc' := 169) 0 rfl rfl dX4_weigh_168 rfl ?_
          refine z_iload_n (pc' := 170) 3 rfl rfl dX4_weigh_169 rfl ?_
          refine z_aload_n (pc' := 171) 0 rfl rfl dX4_weigh_170 rfl ?_
          refine z_invV (as := []) (st := [zI (Int.tdiv (wu 62 u2.toNat) 10000), zR 61]) (C := m_X4_pop) (fs := [64, 65, 0, 0]) (pc' := 174) dX4_weigh_171 rfl t_4_105 k_X4_pop rfl (by decide) rfl rfl rfl rfl (Nat.le_of_ble_eq_true rfl) ?_
          obtain ⟨r42, h⟩ := h
          refine c_W_pop_61 r42 ?_
          show z_Wp m_X4_weigh _ 174 [(0, zR 61), (1, zR 57), (2, zI u2), (3, zI (Int.tdiv (wu 62 u2.toNat) 10000)), (4, zI (Int.tmod (wu 62 u2.toNat) 10000)), (5, zI ((F_W_pop_61 wu).1))] [zI ((F_W_pop_61 ((F_W_pop_61 wu).2)).1), zI (Int.tdiv (wu 62 u2.toNat) 10000), zR 61] ((F_W_pop_61 ((F_W_pop_61 wu).2)).2) _
          refine z_iload (pc' := 176) 5 rfl dX4_weigh_174 rfl ?_
          refine z_invS (as := [zI (Int.tdiv (wu 62 u2.toNat) 10000), zI ((F_W_pop_61 ((F_W_pop_61 wu).2)).1), zI ((F_W_pop_61 wu).1)]) (st := [zR 61]) (C := m_X4_join) (pc' := 179) dX4_weigh_176 rfl t_4_110 k_X4_join rfl rfl (Nat.le_of_ble_eq_true rfl) ?_
          obtain ⟨r43, h⟩ := h
          refine c_W_join r43 ?_
          show z_Wp m_X4_weigh _ 179 [(0, zR 61), (1, zR 57), (2, zI u2), (3, zI (Int.tdiv (wu 62 u2.toNat) 10000)), (4, zI (Int.tmod (wu 62 u2.toNat) 10000)), (5, zI ((F_W_pop_61 wu).1))] [zI (F_W_join ((F_W_pop_61 ((F_W_pop_61 wu).2)).2) (Int.tdiv (wu 62 u2.toNat) 10000) ((F_W_pop_61 ((F_W_pop_61 wu).2)).1) ((F_W_pop_61 wu).1)), zR 61] ((F_W_pop_61 ((F_W_pop_61 wu).2)).2) _
          refine z_invV (as := [zI (F_W_join ((F_W_pop_61 ((F_W_pop_61 wu).2)).2) (Int.tdiv (wu 62 u2.toNat) 10000) ((F_W_pop_61 ((F_W_pop_61 wu).2)).1) ((F_W_pop_61 wu).1))]) (st := []) (C := m_X4_push) (fs := [64, 65, 0, 0]) (pc' := 182) dX4_weigh_179 rfl t_4_101 k_X4_push rfl (by decide) rfl rfl rfl rfl (Nat.le_of_ble_eq_true rfl) ?_
          obtain ⟨r44, h⟩ := h
          refine c_W_push_61 r44 ?_
          show z_Wp m_X4_weigh _ 182 [(0, zR 61), (1, zR 57), (2, zI u2), (3, zI (Int.tdiv (wu 62 u2.toNat) 10000)), (4, zI (Int.tmod (wu 62 u2.toNat) 10000)), (5, zI ((F_W_pop_61 wu).1))] [] (F_W_push_61 ((F_W_pop_61 ((F_W_pop_61 wu).2)).2) (F_W_join ((F_W_pop_61 ((F_W_pop_61 wu).2)).2) (Int.tdiv (wu 62 u2.toNat) 10000) ((F_W_pop_61 ((F_W_pop_61 wu).2)).1) ((F_W_pop_61 wu).1))) _
          refine z_iinc (pc' := 185) (ls' := [(0, zR 61), (1, zR 57), (2, zI (u2 + 1)), (3, zI (Int.tdiv (wu 62 u2.toNat) 10000)), (4, zI (Int.tmod (wu 62 u2.toNat) 10000)), (5, zI ((F_W_pop_61 wu).1))]) 2 rfl (by decide) rfl rfl dX4_weigh_182 rfl ?_
          refine z_goto 7 dX4_weigh_185 (by decide) ?_
          exact z_Wp.sub (ls' := [(0, zR 61), (1, zR 57), (2, zI (u2 + 1))]) (ih _ _ h k) (z_sub_of [0, 1, 2] rfl)
  exact hl 300 _ _ h k
def L_W_weigh_64_57_7 (w : z_Wd)   : Nat → Int → z_Wd → Int × z_Wd
  | 0, _, _ => (0, w)
  | m9 + 1, u2, wu => if u2 ≥ wu 64 2 then (0, wu) else if Int.tdiv (wu 65 u2.toNat) 10000 = 0 then L_W_weigh_64_57_7 w m9 (u2 + 1) (F_W_push_64 wu (Int.tmod (wu 65 u2.toNat) 10000)) else if Int.tdiv (wu 65 u2.toNat) 10000 = 1 then if Int.tmod (wu 65 u2.toNat) 10000 ≥ 6 then L_W_weigh_64_57_7 w m9 (u2 + 1) (F_W_push_64 wu 0) else L_W_weigh_64_57_7 w m9 (u2 + 1) (F_W_push_64 wu (wu 57 ((Int.tmod (wu 65 u2.toNat) 10000).toNat))) else if Int.tdiv (wu 65 u2.toNat) 10000 = 2 then ((F_W_pop_64 wu).1, (F_W_pop_64 wu).2) else if Int.tdiv (wu 65 u2.toNat) 10000 = 3 then if (F_W_pop_64 wu).1 = 0 then L_W_weigh_64_57_7 w m9 ((F_J_max_7cf53 ((F_W_pop_64 wu).2) u2 ((Int.tmod (wu 65 u2.toNat) 10000) - 1)) + 1) ((F_W_pop_64 wu).2) else L_W_weigh_64_57_7 w m9 (u2 + 1) ((F_W_pop_64 wu).2) else if Int.tdiv (wu 65 u2.toNat) 10000 = 33 then if (F_W_pop_64 wu).1 = 0 then L_W_weigh_64_57_7 w m9 (u2 + 1) (F_W_push_64 ((F_W_pop_64 wu).2) 1) else L_W_weigh_64_57_7 w m9 (u2 + 1) (F_W_push_64 ((F_W_pop_64 wu).2) 0) else L_W_weigh_64_57_7 w m9 (u2 + 1) (F_W_push_64 ((F_W_pop_64 ((F_W_pop_64 wu).2)).2) (F_W_join ((F_W_pop_64 ((F_W_pop_64 wu).2)).2) (Int.tdiv (wu 65 u2.toNat) 10000) ((F_W_pop_64 ((F_W_pop_64 wu).2)).1) ((F_W_pop_64 wu).1)))
def PL_W_weigh_64_57_7 (w : z_Wd)   : Nat → Int → z_Wd → Prop
  | 0, _, _ => False
  | m9 + 1, u2, wu => (-2147483648 ≤ u2 ∧ u2 < 2147483648) ∧ (-2147483648 ≤ wu 64 2 ∧ wu 64 2 < 2147483648) ∧ ((u2 ≥ wu 64 2 → True) ∧ (¬ (u2 ≥ wu 64 2) → (0 ≤ u2 ∧ u2 < 240) ∧ (-2147483648 ≤ wu 65 u2.toNat ∧ wu 65 u2.toNat < 2147483648) ∧ (-2147483648 ≤ Int.tdiv (wu 65 u2.toNat) 10000 ∧ Int.tdiv (wu 65 u2.toNat) 10000 < 2147483648) ∧ ((Int.tdiv (wu 65 u2.toNat) 10000 = 0 → (P_W_push_64 wu (Int.tmod (wu 65 u2.toNat) 10000)) ∧ (PL_W_weigh_64_57_7 w m9 (u2 + 1) (F_W_push_64 wu (Int.tmod (wu 65 u2.toNat) 10000)))) ∧ (¬ (Int.tdiv (wu 65 u2.toNat) 10000) = 0 → (Int.tdiv (wu 65 u2.toNat) 10000 = 1 → (-2147483648 ≤ Int.tmod (wu 65 u2.toNat) 10000 ∧ Int.tmod (wu 65 u2.toNat) 10000 < 2147483648) ∧ ((Int.tmod (wu 65 u2.toNat) 10000 ≥ 6 → (P_W_push_64 wu 0) ∧ (PL_W_weigh_64_57_7 w m9 (u2 + 1) (F_W_push_64 wu 0))) ∧ (¬ (Int.tmod (wu 65 u2.toNat) 10000 ≥ 6) → (0 ≤ Int.tmod (wu 65 u2.toNat) 10000 ∧ Int.tmod (wu 65 u2.toNat) 10000 < 6) ∧ (P_W_push_64 wu (wu 57 ((Int.tmod (wu 65 u2.toNat) 10000).toNat))) ∧ (PL_W_weigh_64_57_7 w m9 (u2 + 1) (F_W_push_64 wu (wu 57 ((Int.tmod (wu 65 u2.toNat) 10000).toNat))))))) ∧ (¬ (Int.tdiv (wu 65 u2.toNat) 10000) = 1 → (Int.tdiv (wu 65 u2.toNat) 10000 = 2 → P_W_pop_64 wu) ∧ (¬ (Int.tdiv (wu 65 u2.toNat) 10000) = 2 → (Int.tdiv (wu 65 u2.toNat) 10000 = 3 → (P_W_pop_64 wu) ∧ (-2147483648 ≤ (F_W_pop_64 wu).1 ∧ (F_W_pop_64 wu).1 < 2147483648) ∧ (((F_W_pop_64 wu).1 = 0 → (P_J_max_7cf53 ((F_W_pop_64 wu).2) u2 ((Int.tmod (wu 65 u2.toNat) 10000) - 1)) ∧ (PL_W_weigh_64_57_7 w m9 ((F_J_max_7cf53 ((F_W_pop_64 wu).2) u2 ((Int.tmod (wu 65 u2.toNat) 10000) - 1)) + 1) ((F_W_pop_64 wu).2))) ∧ (¬ ((F_W_pop_64 wu).1 = 0) → PL_W_weigh_64_57_7 w m9 (u2 + 1) ((F_W_pop_64 wu).2)))) ∧ (¬ (Int.tdiv (wu 65 u2.toNat) 10000) = 3 → (Int.tdiv (wu 65 u2.toNat) 10000 = 33 → (P_W_pop_64 wu) ∧ (-2147483648 ≤ (F_W_pop_64 wu).1 ∧ (F_W_pop_64 wu).1 < 2147483648) ∧ (((F_W_pop_64 wu).1 = 0 → (P_W_push_64 ((F_W_pop_64 wu).2) 1) ∧ (PL_W_weigh_64_57_7 w m9 (u2 + 1) (F_W_push_64 ((F_W_pop_64 wu).2) 1))) ∧ (¬ ((F_W_pop_64 wu).1 = 0) → (P_W_push_64 ((F_W_pop_64 wu).2) 0) ∧ (PL_W_weigh_64_57_7 w m9 (u2 + 1) (F_W_push_64 ((F_W_pop_64 wu).2) 0))))) ∧ (¬ (Int.tdiv (wu 65 u2.toNat) 10000) = 33 → (P_W_pop_64 wu) ∧ (P_W_pop_64 ((F_W_pop_64 wu).2)) ∧ (P_W_join ((F_W_pop_64 ((F_W_pop_64 wu).2)).2) (Int.tdiv (wu 65 u2.toNat) 10000) ((F_W_pop_64 ((F_W_pop_64 wu).2)).1) ((F_W_pop_64 wu).1)) ∧ (P_W_push_64 ((F_W_pop_64 ((F_W_pop_64 wu).2)).2) (F_W_join ((F_W_pop_64 ((F_W_pop_64 wu).2)).2) (Int.tdiv (wu 65 u2.toNat) 10000) ((F_W_pop_64 ((F_W_pop_64 wu).2)).1) ((F_W_pop_64 wu).1))) ∧ (PL_W_weigh_64_57_7 w m9 (u2 + 1) (F_W_push_64 ((F_W_pop_64 ((F_W_pop_64 wu).2)).2) (F_W_join ((F_W_pop_64 ((F_W_pop_64 wu).2)).2) (Int.tdiv (wu 65 u2.toNat) 10000) ((F_W_pop_64 ((F_W_pop_64 wu).2)).1) ((F_W_pop_64 wu).1))))))))))))
def P_W_weigh_64_57 (w : z_Wd)  : Prop := PL_W_weigh_64_57_7 w 300 0 (z_up w 64 3 0)
def F_W_weigh_64_57 (w : z_Wd)  : Int × z_Wd := L_W_weigh_64_57_7 w 300 0 (z_up w 64 3 0)
set_option maxRecDepth 4000 in
theorem c_W_weigh_64_57 {d : Nat} {w : z_Wd} {Q : Option z_V → z_Wd → Prop} (h : P_W_weigh_64_57 w ) (k : Q (some (zI (F_W_weigh_64_57 w ).1)) (F_W_weigh_64_57 w ).2) : z_Wc (d + 3) m_X4_weigh [zR 64, zR 57] w Q := by
  unfold P_W_weigh_64_57 at h
  unfold F_W_weigh_64_57 at k
  refine z_enter rfl (Nat.le_of_ble_eq_true rfl) ?_
  show z_Wp m_X4_weigh _ 0 [(0, zR 64), (1, zR 57)] [] w _
  refine z_aload_n (pc' := 1) 0 rfl rfl dX4_weigh_0 rfl ?_
  refine z_iconst (pc' := 2) dX4_weigh_1 rfl ?_
  refine z_putI (pc' := 5) p_X4_28 (by decide) rfl rfl rfl rfl dX4_weigh_2 rfl ?_
  refine z_iconst (pc' := 6) dX4_weigh_5 rfl ?_
  refine z_istore_n (pc' := 7) (ls' := [(0, zR 64), (1, zR 57), (2, zI 0)]) rfl (by decide) rfl rfl dX4_weigh_6 rfl ?_
  have hl : ∀ (m9 : Nat) (u2 : Int) (wu : z_Wd), PL_W_weigh_64_57_7 w m9 u2 wu → Q (some (zI (L_W_weigh_64_57_7 w m9 u2 wu).1)) (L_W_weigh_64_57_7 w m9 u2 wu).2 → z_Wp m_X4_weigh (d + 3) 7 [(0, zR 64), (1, zR 57), (2, zI u2)] [] wu Q := by
    clear h k
    intro m9
    induction m9 with
    | zero => intro u2 wu h k; exact False.elim h
    | succ m9 ih =>
      intro u2 wu h k
      have h : (-2147483648 ≤ u2 ∧ u2 < 2147483648) ∧ (-2147483648 ≤ wu 64 2 ∧ wu 64 2 < 2147483648) ∧ ((u2 ≥ wu 64 2 → True) ∧ (¬ (u2 ≥ wu 64 2) → (0 ≤ u2 ∧ u2 < 240) ∧ (-2147483648 ≤ wu 65 u2.toNat ∧ wu 65 u2.toNat < 2147483648) ∧ (-2147483648 ≤ Int.tdiv (wu 65 u2.toNat) 10000 ∧ Int.tdiv (wu 65 u2.toNat) 10000 < 2147483648) ∧ ((Int.tdiv (wu 65 u2.toNat) 10000 = 0 → (P_W_push_64 wu (Int.tmod (wu 65 u2.toNat) 10000)) ∧ (PL_W_weigh_64_57_7 w m9 (u2 + 1) (F_W_push_64 wu (Int.tmod (wu 65 u2.toNat) 10000)))) ∧ (¬ (Int.tdiv (wu 65 u2.toNat) 10000) = 0 → (Int.tdiv (wu 65 u2.toNat) 10000 = 1 → (-2147483648 ≤ Int.tmod (wu 65 u2.toNat) 10000 ∧ Int.tmod (wu 65 u2.toNat) 10000 < 2147483648) ∧ ((Int.tmod (wu 65 u2.toNat) 10000 ≥ 6 → (P_W_push_64 wu 0) ∧ (PL_W_weigh_64_57_7 w m9 (u2 + 1) (F_W_push_64 wu 0))) ∧ (¬ (Int.tmod (wu 65 u2.toNat) 10000 ≥ 6) → (0 ≤ Int.tmod (wu 65 u2.toNat) 10000 ∧ Int.tmod (wu 65 u2.toNat) 10000 < 6) ∧ (P_W_push_64 wu (wu 57 ((Int.tmod (wu 65 u2.toNat) 10000).toNat))) ∧ (PL_W_weigh_64_57_7 w m9 (u2 + 1) (F_W_push_64 wu (wu 57 ((Int.tmod (wu 65 u2.toNat) 10000).toNat))))))) ∧ (¬ (Int.tdiv (wu 65 u2.toNat) 10000) = 1 → (Int.tdiv (wu 65 u2.toNat) 10000 = 2 → P_W_pop_64 wu) ∧ (¬ (Int.tdiv (wu 65 u2.toNat) 10000) = 2 → (Int.tdiv (wu 65 u2.toNat) 10000 = 3 → (P_W_pop_64 wu) ∧ (-2147483648 ≤ (F_W_pop_64 wu).1 ∧ (F_W_pop_64 wu).1 < 2147483648) ∧ (((F_W_pop_64 wu).1 = 0 → (P_J_max_7cf53 ((F_W_pop_64 wu).2) u2 ((Int.tmod (wu 65 u2.toNat) 10000) - 1)) ∧ (PL_W_weigh_64_57_7 w m9 ((F_J_max_7cf53 ((F_W_pop_64 wu).2) u2 ((Int.tmod (wu 65 u2.toNat) 10000) - 1)) + 1) ((F_W_pop_64 wu).2))) ∧ (¬ ((F_W_pop_64 wu).1 = 0) → PL_W_weigh_64_57_7 w m9 (u2 + 1) ((F_W_pop_64 wu).2)))) ∧ (¬ (Int.tdiv (wu 65 u2.toNat) 10000) = 3 → (Int.tdiv (wu 65 u2.toNat) 10000 = 33 → (P_W_pop_64 wu) ∧ (-2147483648 ≤ (F_W_pop_64 wu).1 ∧ (F_W_pop_64 wu).1 < 2147483648) ∧ (((F_W_pop_64 wu).1 = 0 → (P_W_push_64 ((F_W_pop_64 wu).2) 1) ∧ (PL_W_weigh_64_57_7 w m9 (u2 + 1) (F_W_push_64 ((F_W_pop_64 wu).2) 1))) ∧ (¬ ((F_W_pop_64 wu).1 = 0) → (P_W_push_64 ((F_W_pop_64 wu).2) 0) ∧ (PL_W_weigh_64_57_7 w m9 (u2 + 1) (F_W_push_64 ((F_W_pop_64 wu).2) 0))))) ∧ (¬ (Int.tdiv (wu 65 u2.toNat) 10000) = 33 → (P_W_pop_64 wu) ∧ (P_W_pop_64 ((F_W_pop_64 wu).2)) ∧ (P_W_join ((F_W_pop_64 ((F_W_pop_64 wu).2)).2) (Int.tdiv (wu 65 u2.toNat) 10000) ((F_W_pop_64 ((F_W_pop_64 wu).2)).1) ((F_W_pop_64 wu).1)) ∧ (P_W_push_64 ((F_W_pop_64 ((F_W_pop_64 wu).2)).2) (F_W_join ((F_W_pop_64 ((F_W_pop_64 wu).2)).2) (Int.tdiv (wu 65 u2.toNat) 10000) ((F_W_pop_64 ((F_W_pop_64 wu).2)).1) ((F_W_pop_64 wu).1))) ∧ (PL_W_weigh_64_57_7 w m9 (u2 + 1) (F_W_push_64 ((F_W_pop_64 ((F_W_pop_64 wu).2)).2) (F_W_join ((F_W_pop_64 ((F_W_pop_64 wu).2)).2) (Int.tdiv (wu 65 u2.toNat) 10000) ((F_W_pop_64 ((F_W_pop_64 wu).2)).1) ((F_W_pop_64 wu).1)))))))))))) := h
      have k : Q (some (zI (if u2 ≥ wu 64 2 then (0, wu) else if Int.tdiv (wu 65 u2.toNat) 10000 = 0 then L_W_weigh_64_57_7 w m9 (u2 + 1) (F_W_push_64 wu (Int.tmod (wu 65 u2.toNat) 10000)) else if Int.tdiv (wu 65 u2.toNat) 10000 = 1 then if Int.tmod (wu 65 u2.toNat) 10000 ≥ 6 then L_W_weigh_64_57_7 w m9 (u2 + 1) (F_W_push_64 wu 0) else L_W_weigh_64_57_7 w m9 (u2 + 1) (F_W_push_64 wu (wu 57 ((Int.tmod (wu 65 u2.toNat) 10000).toNat))) else if Int.tdiv (wu 65 u2.toNat) 10000 = 2 then ((F_W_pop_64 wu).1, (F_W_pop_64 wu).2) else if Int.tdiv (wu 65 u2.toNat) 10000 = 3 then if (F_W_pop_64 wu).1 = 0 then L_W_weigh_64_57_7 w m9 ((F_J_max_7cf53 ((F_W_pop_64 wu).2) u2 ((Int.tmod (wu 65 u2.toNat) 10000) - 1)) + 1) ((F_W_pop_64 wu).2) else L_W_weigh_64_57_7 w m9 (u2 + 1) ((F_W_pop_64 wu).2) else if Int.tdiv (wu 65 u2.toNat) 10000 = 33 then if (F_W_pop_64 wu).1 = 0 then L_W_weigh_64_57_7 w m9 (u2 + 1) (F_W_push_64 ((F_W_pop_64 wu).2) 1) else L_W_weigh_64_57_7 w m9 (u2 + 1) (F_W_push_64 ((F_W_pop_64 wu).2) 0) else L_W_weigh_64_57_7 w m9 (u2 + 1) (F_W_push_64 ((F_W_pop_64 ((F_W_pop_64 wu).2)).2) (F_W_join ((F_W_pop_64 ((F_W_pop_64 wu).2)).2) (Int.tdiv (wu 65 u2.toNat) 10000) ((F_W_pop_64 ((F_W_pop_64 wu).2)).1) ((F_W_pop_64 wu).1)))).1)) (if u2 ≥ wu 64 2 then (0, wu) else if Int.tdiv (wu 65 u2.toNat) 10000 = 0 then L_W_weigh_64_57_7 w m9 (u2 + 1) (F_W_push_64 wu (Int.tmod (wu 65 u2.toNat) 10000)) else if Int.tdiv (wu 65 u2.toNat) 10000 = 1 then if Int.tmod (wu 65 u2.toNat) 10000 ≥ 6 then L_W_weigh_64_57_7 w m9 (u2 + 1) (F_W_push_64 wu 0) else L_W_weigh_64_57_7 w m9 (u2 + 1) (F_W_push_64 wu (wu 57 ((Int.tmod (wu 65 u2.toNat) 10000).toNat))) else if Int.tdiv (wu 65 u2.toNat) 10000 = 2 then ((F_W_pop_64 wu).1, (F_W_pop_64 wu).2) else if Int.tdiv (wu 65 u2.toNat) 10000 = 3 then if (F_W_pop_64 wu).1 = 0 then L_W_weigh_64_57_7 w m9 ((F_J_max_7cf53 ((F_W_pop_64 wu).2) u2 ((Int.tmod (wu 65 u2.toNat) 10000) - 1)) + 1) ((F_W_pop_64 wu).2) else L_W_weigh_64_57_7 w m9 (u2 + 1) ((F_W_pop_64 wu).2) else if Int.tdiv (wu 65 u2.toNat) 10000 = 33 then if (F_W_pop_64 wu).1 = 0 then L_W_weigh_64_57_7 w m9 (u2 + 1) (F_W_push_64 ((F_W_pop_64 wu).2) 1) else L_W_weigh_64_57_7 w m9 (u2 + 1) (F_W_push_64 ((F_W_pop_64 wu).2) 0) else L_W_weigh_64_57_7 w m9 (u2 + 1) (F_W_push_64 ((F_W_pop_64 ((F_W_pop_64 wu).2)).2) (F_W_join ((F_W_pop_64 ((F_W_pop_64 wu).2)).2) (Int.tdiv (wu 65 u2.toNat) 10000) ((F_W_pop_64 ((F_W_pop_64 wu).2)).1) ((F_W_pop_64 wu).1)))).2 := k
      refine z_iload_n (pc' := 8) 2 rfl rfl dX4_weigh_7 rfl ?_
      refine z_aload_n (pc' := 9) 0 rfl rfl dX4_weigh_8 rfl ?_
      refine z_getI2 (v := wu 64 2) (pc' := 12) g_X4_18 (by decide) rfl rfl rfl dX4_weigh_9 rfl ?_
      obtain ⟨r23, h⟩ := h
      obtain ⟨r24, h⟩ := h
      refine z_icmp_ge 188 dX4_weigh_12 (by decide) (pc' := 15) rfl r23 r24 (fun c => ?_) (fun c => ?_)
      · have h := h.1 c
        rw [if_pos c] at k
        refine z_iconst (pc' := 189) dX4_weigh_188 rfl ?_
        refine z_iret rfl dX4_weigh_189 ?_
        exact k
      · have h := h.2 c
        rw [if_neg c] at k
        refine z_aload_n (pc' := 16) 0 rfl rfl dX4_weigh_15 rfl ?_
        refine z_getR (t := 65) (pc' := 19) g_X4_11 (by decide) rfl rfl dX4_weigh_16 rfl ?_
        refine z_iload_n (pc' := 20) 2 rfl rfl dX4_weigh_19 rfl ?_
        obtain ⟨r25, h⟩ := h
        refine z_iald2 (v := wu 65 u2.toNat) (pc' := 21) (by decide) rfl r25 (by decide) rfl dX4_weigh_20 rfl ?_
        refine z_sipush (pc' := 24) (by decide) dX4_weigh_21 rfl ?_
        obtain ⟨r26, h⟩ := h
        refine z_idiv (pc' := 25) r26 (by decide) (by decide) dX4_weigh_24 rfl ?_
        refine z_istore_n (pc' := 26) (ls' := [(0, zR 64), (1, zR 57), (2, zI u2), (3, zI (Int.tdiv (wu 65 u2.toNat) 10000))]) rfl (by decide) rfl rfl dX4_weigh_25 rfl ?_
        refine z_aload_n (pc' := 27) 0 rfl rfl dX4_weigh_26 rfl ?_
        refine z_getR (t := 65) (pc' := 30) g_X4_11 (by decide) rfl rfl dX4_weigh_27 rfl ?_
        refine z_iload_n (pc' := 31) 2 rfl rfl dX4_weigh_30 rfl ?_
        refine z_iald2 (v := wu 65 u2.toNat) (pc' := 32) (by decide) rfl r25 (by decide) rfl dX4_weigh_31 rfl ?_
        refine z_sipush (pc' := 35) (by decide) dX4_weigh_32 rfl ?_
        refine z_irem (pc' := 36) r26 (by decide) (by decide) dX4_weigh_35 rfl ?_
        refine z_istore (pc' := 38) (ls' := [(0, zR 64), (1, zR 57), (2, zI u2), (3, zI (Int.tdiv (wu 65 u2.toNat) 10000)), (4, zI (Int.tmod (wu 65 u2.toNat) 10000))]) (by decide) rfl rfl dX4_weigh_36 rfl ?_
        refine z_iload_n (pc' := 39) 3 rfl rfl dX4_weigh_38 rfl ?_
        obtain ⟨r27, h⟩ := h
        refine z_lookup dX4_weigh_39 (by decide) r27 ⟨fun c0 => ⟨88, by decide, ?_⟩, fun c0 => ⟨fun c1 => ⟨97, by decide, ?_⟩, fun c1 => ⟨fun c2 => ⟨119, by decide, ?_⟩, fun c2 => ⟨fun c3 => ⟨124, by decide, ?_⟩, fun c3 => ⟨fun c4 => ⟨143, by decide, ?_⟩, fun c4 => ⟨162, by decide, ?_⟩⟩⟩⟩⟩⟩
        · skip
          have c0 : Int.tdiv (wu 65 u2.toNat) 10000 = 0 := c0
          have h := h.1 c0
          rw [if_pos c0] at k
          refine z_aload_n (pc' := 89) 0 rfl rfl dX4_weigh_88 rfl ?_
          refine z_iload (pc' := 91) 4 rfl dX4_weigh_89 rfl ?_
          refine z_invV (as := [zI (Int.tmod (wu 65 u2.toNat) 10000)]) (st := []) (C := m_X4_push) (fs := [67, 68, 0, 0]) (pc' := 94) dX4_weigh_91 rfl t_4_101 k_X4_push rfl (by decide) rfl rfl rfl rfl (Nat.le_of_ble_eq_true rfl) ?_
          obtain ⟨r28, h⟩ := h
          refine c_W_push_64 r28 ?_
          show z_Wp m_X4_weigh _ 94 [(0, zR 64), (1, zR 57), (2, zI u2), (3, zI (Int.tdiv (wu 65 u2.toNat) 10000)), (4, zI (Int.tmod (wu 65 u2.toNat) 10000))] [] (F_W_push_64 wu (Int.tmod (wu 65 u2.toNat) 10000)) _
          refine z_goto 182 dX4_weigh_94 (by decide) ?_
          refine z_iinc (pc' := 185) (ls' := [(0, zR 64), (1, zR 57), (2, zI (u2 + 1)), (3, zI (Int.tdiv (wu 65 u2.toNat) 10000)), (4, zI (Int.tmod (wu 65 u2.toNat) 10000))]) 2 rfl (by decide) rfl rfl dX4_weigh_182 rfl ?_
          refine z_goto 7 dX4_weigh_185 (by decide) ?_
          exact z_Wp.sub (ls' := [(0, zR 64), (1, zR 57), (2, zI (u2 + 1))]) (ih _ _ h k) (z_sub_of [0, 1, 2] rfl)
        · skip
          have c0 : ¬ (Int.tdiv (wu 65 u2.toNat) 10000) = 0 := c0
          have h := h.2 c0
          rw [if_neg c0] at k
          have c1 : Int.tdiv (wu 65 u2.toNat) 10000 = 1 := c1
          have h := h.1 c1
          rw [if_pos c1] at k
          refine z_aload_n (pc' := 98) 0 rfl rfl dX4_weigh_97 rfl ?_
          refine z_iload (pc' := 100) 4 rfl dX4_weigh_98 rfl ?_
          refine z_aload_n (pc' := 101) 1 rfl rfl dX4_weigh_100 rfl ?_
          refine z_alen2 (v := 6) (pc' := 102) (by decide) rfl rfl dX4_weigh_101 rfl ?_
          obtain ⟨r29, h⟩ := h
          refine z_icmp_ge 112 dX4_weigh_102 (by decide) (pc' := 105) rfl r29 (by decide) (fun c => ?_) (fun c => ?_)
          · have h := h.1 c
            rw [if_pos c] at k
            refine z_iconst (pc' := 113) dX4_weigh_112 rfl ?_
            refine z_invV (as := [zI 0]) (st := []) (C := m_X4_push) (fs := [67, 68, 0, 0]) (pc' := 116) dX4_weigh_113 rfl t_4_101 k_X4_push rfl (by decide) rfl rfl rfl rfl (Nat.le_of_ble_eq_true rfl) ?_
            obtain ⟨r30, h⟩ := h
            refine c_W_push_64 r30 ?_
            show z_Wp m_X4_weigh _ 116 [(0, zR 64), (1, zR 57), (2, zI u2), (3, zI (Int.tdiv (wu 65 u2.toNat) 10000)), (4, zI (Int.tmod (wu 65 u2.toNat) 10000))] [] (F_W_push_64 wu 0) _
            refine z_goto 182 dX4_weigh_116 (by decide) ?_
            refine z_iinc (pc' := 185) (ls' := [(0, zR 64), (1, zR 57), (2, zI (u2 + 1)), (3, zI (Int.tdiv (wu 65 u2.toNat) 10000)), (4, zI (Int.tmod (wu 65 u2.toNat) 10000))]) 2 rfl (by decide) rfl rfl dX4_weigh_182 rfl ?_
            refine z_goto 7 dX4_weigh_185 (by decide) ?_
            exact z_Wp.sub (ls' := [(0, zR 64), (1, zR 57), (2, zI (u2 + 1))]) (ih _ _ h k) (z_sub_of [0, 1, 2] rfl)
          · have h := h.2 c
            rw [if_neg c] at k
            refine z_aload_n (pc' := 106) 1 rfl rfl dX4_weigh_105 rfl ?_
            refine z_iload (pc' := 108) 4 rfl dX4_weigh_106 rfl ?_
            obtain ⟨r31, h⟩ := h
            refine z_iald2 (v := wu 57 ((Int.tmod (wu 65 u2.toNat) 10000).toNat)) (pc' := 109) (by decide) rfl r31 (by decide) rfl dX4_weigh_108 rfl ?_
            refine z_goto 113 dX4_weigh_109 (by decide) ?_
            refine z_invV (as := [zI (wu 57 ((Int.tmod (wu 65 u2.toNat) 10000).toNat))]) (st := []) (C := m_X4_push) (fs := [67, 68, 0, 0]) (pc' := 116) dX4_weigh_113 rfl t_4_101 k_X4_push rfl (by decide) rfl rfl rfl rfl (Nat.le_of_ble_eq_true rfl) ?_
            obtain ⟨r32, h⟩ := h
            refine c_W_push_64 r32 ?_
            show z_Wp m_X4_weigh _ 116 [(0, zR 64), (1, zR 57), (2, zI u2), (3, zI (Int.tdiv (wu 65 u2.toNat) 10000)), (4, zI (Int.tmod (wu 65 u2.toNat) 10000))] [] (F_W_push_64 wu (wu 57 ((Int.tmod (wu 65 u2.toNat) 10000).toNat))) _
            refine z_goto 182 dX4_weigh_116 (by decide) ?_
            refine z_iinc (pc' := 185) (ls' := [(0, zR 64), (1, zR 57), (2, zI (u2 + 1)), (3, zI (Int.tdiv (wu 65 u2.toNat) 10000)), (4, zI (Int.tmod (wu 65 u2.toNat) 10000))]) 2 rfl (by decide) rfl rfl dX4_weigh_182 rfl ?_
            refine z_goto 7 dX4_weigh_185 (by decide) ?_
            exact z_Wp.sub (ls' := [(0, zR 64), (1, zR 57), (2, zI (u2 + 1))]) (ih _ _ h k) (z_sub_of [0, 1, 2] rfl)
        · skip
          have c0 : ¬ (Int.tdiv (wu 65 u2.toNat) 10000) = 0 := c0
          have h := h.2 c0
          rw [if_neg c0] at k
          have c1 : ¬ (Int.tdiv (wu 65 u2.toNat) 10000) = 1 := c1
          have h := h.2 c1
          rw [if_neg c1] at k
          have c2 : Int.tdiv (wu 65 u2.toNat) 10000 = 2 := c2
          have h := h.1 c2
          rw [if_pos c2] at k
          refine z_aload_n (pc' := 120) 0 rfl rfl dX4_weigh_119 rfl ?_
          refine z_invV (as := []) (st := []) (C := m_X4_pop) (fs := [67, 68, 0, 0]) (pc' := 123) dX4_weigh_120 rfl t_4_105 k_X4_pop rfl (by decide) rfl rfl rfl rfl (Nat.le_of_ble_eq_true rfl) ?_
          have r33 := h
          refine c_W_pop_64 r33 ?_
          show z_Wp m_X4_weigh _ 123 [(0, zR 64), (1, zR 57), (2, zI u2), (3, zI (Int.tdiv (wu 65 u2.toNat) 10000)), (4, zI (Int.tmod (wu 65 u2.toNat) 10000))] [zI ((F_W_pop_64 wu).1)] ((F_W_pop_64 wu).2) _
          refine z_iret rfl dX4_weigh_123 ?_
          exact k
        · skip
          have c0 : ¬ (Int.tdiv (wu 65 u2.toNat) 10000) = 0 := c0
          have h := h.2 c0
          rw [if_neg c0] at k
          have c1 : ¬ (Int.tdiv (wu 65 u2.toNat) 10000) = 1 := c1
          have h := h.2 c1
          rw [if_neg c1] at k
          have c2 : ¬ (Int.tdiv (wu 65 u2.toNat) 10000) = 2 := c2
          have h := h.2 c2
          rw [if_neg c2] at k
          have c3 : Int.tdiv (wu 65 u2.toNat) 10000 = 3 := c3
          have h := h.1 c3
          rw [if_pos c3] at k
          refine z_aload_n (pc' := 125) 0 rfl rfl dX4_weigh_124 rfl ?_
          refine z_invV (as := []) (st := []) (C := m_X4_pop) (fs := [67, 68, 0, 0]) (pc' := 128) dX4_weigh_125 rfl t_4_105 k_X4_pop rfl (by decide) rfl rfl rfl rfl (Nat.le_of_ble_eq_true rfl) ?_
          obtain ⟨r34, h⟩ := h
          refine c_W_pop_64 r34 ?_
          show z_Wp m_X4_weigh _ 128 [(0, zR 64), (1, zR 57), (2, zI u2), (3, zI (Int.tdiv (wu 65 u2.toNat) 10000)), (4, zI (Int.tmod (wu 65 u2.toNat) 10000))] [zI ((F_W_pop_64 wu).1)] ((F_W_pop_64 wu).2) _
          obtain ⟨r35, h⟩ := h
          refine z_if_ne 182 dX4_weigh_128 (by decide) (pc' := 131) rfl r35 (fun c => ?_) (fun c => ?_)
          · have h := h.2 c
            rw [if_neg c] at k
            refine z_iinc (pc' := 185) (ls' := [(0, zR 64), (1, zR 57), (2, zI (u2 + 1)), (3, zI (Int.tdiv (wu 65 u2.toNat) 10000)), (4, zI (Int.tmod (wu 65 u2.toNat) 10000))]) 2 rfl (by decide) rfl rfl dX4_weigh_182 rfl ?_
            refine z_goto 7 dX4_weigh_185 (by decide) ?_
            exact z_Wp.sub (ls' := [(0, zR 64), (1, zR 57), (2, zI (u2 + 1))]) (ih _ _ h k) (z_sub_of [0, 1, 2] rfl)
          · have h := h.1 c
            rw [if_pos c] at k
            refine z_iload_n (pc' := 132) 2 rfl rfl dX4_weigh_131 rfl ?_
            refine z_iload (pc' := 134) 4 rfl dX4_weigh_132 rfl ?_
            refine z_iconst (pc' := 135) dX4_weigh_134 rfl ?_
            refine z_isub (pc' := 136) dX4_weigh_135 rfl ?_
            refine z_invS (as := [zI u2, zI ((Int.tmod (wu 65 u2.toNat) 10000) - 1)]) (st := []) (C := m_J9_max_7cf53) (pc' := 139) dX4_weigh_136 rfl t_4_109 k_J9_max_7cf53 rfl rfl (Nat.le_of_ble_eq_true rfl) ?_
            obtain ⟨r36, h⟩ := h
            refine c_J_max_7cf53 r36 ?_
            show z_Wp m_X4_weigh _ 139 [(0, zR 64), (1, zR 57), (2, zI u2), (3, zI (Int.tdiv (wu 65 u2.toNat) 10000)), (4, zI (Int.tmod (wu 65 u2.toNat) 10000))] [zI (F_J_max_7cf53 ((F_W_pop_64 wu).2) u2 ((Int.tmod (wu 65 u2.toNat) 10000) - 1))] ((F_W_pop_64 wu).2) _
            refine z_istore_n (pc' := 140) (ls' := [(0, zR 64), (1, zR 57), (2, zI (F_J_max_7cf53 ((F_W_pop_64 wu).2) u2 ((Int.tmod (wu 65 u2.toNat) 10000) - 1))), (3, zI (Int.tdiv (wu 65 u2.toNat) 10000)), (4, zI (Int.tmod (wu 65 u2.toNat) 10000))]) rfl (by decide) rfl rfl dX4_weigh_139 rfl ?_
            refine z_goto 182 dX4_weigh_140 (by decide) ?_
            refine z_iinc (pc' := 185) (ls' := [(0, zR 64), (1, zR 57), (2, zI ((F_J_max_7cf53 ((F_W_pop_64 wu).2) u2 ((Int.tmod (wu 65 u2.toNat) 10000) - 1)) + 1)), (3, zI (Int.tdiv (wu 65 u2.toNat) 10000)), (4, zI (Int.tmod (wu 65 u2.toNat) 10000))]) 2 rfl (by decide) rfl rfl dX4_weigh_182 rfl ?_
            refine z_goto 7 dX4_weigh_185 (by decide) ?_
            exact z_Wp.sub (ls' := [(0, zR 64), (1, zR 57), (2, zI ((F_J_max_7cf53 ((F_W_pop_64 wu).2) u2 ((Int.tmod (wu 65 u2.toNat) 10000) - 1)) + 1))]) (ih _ _ h k) (z_sub_of [0, 1, 2] rfl)
        · skip
          have c0 : ¬ (Int.tdiv (wu 65 u2.toNat) 10000) = 0 := c0
          have h := h.2 c0
          rw [if_neg c0] at k
          have c1 : ¬ (Int.tdiv (wu 65 u2.toNat) 10000) = 1 := c1
          have h := h.2 c1
          rw [if_neg c1] at k
          have c2 : ¬ (Int.tdiv (wu 65 u2.toNat) 10000) = 2 := c2
          have h := h.2 c2
          rw [if_neg c2] at k
          have c3 : ¬ (Int.tdiv (wu 65 u2.toNat) 10000) = 3 := c3
          have h := h.2 c3
          rw [if_neg c3] at k
          have c4 : Int.tdiv (wu 65 u2.toNat) 10000 = 33 := c4
          have h := h.1 c4
          rw [if_pos c4] at k
          refine z_aload_n (pc' := 144) 0 rfl rfl dX4_weigh_143 rfl ?_
          refine z_aload_n (pc' := 145) 0 rfl rfl dX4_weigh_144 rfl ?_
          refine z_invV (as := []) (st := [zR 64]) (C := m_X4_pop) (fs := [67, 68, 0, 0]) (pc' := 148) dX4_weigh_145 rfl t_4_105 k_X4_pop rfl (by decide) rfl rfl rfl rfl (Nat.le_of_ble_eq_true rfl) ?_
          obtain ⟨r37, h⟩ := h
          refine c_W_pop_64 r37 ?_
          show z_Wp m_X4_weigh _ 148 [(0, zR 64), (1, zR 57), (2, zI u2), (3, zI (Int.tdiv (wu 65 u2.toNat) 10000)), (4, zI (Int.tmod (wu 65 u2.toNat) 10000))] [zI ((F_W_pop_64 wu).1), zR 64] ((F_W_pop_64 wu).2) _
          obtain ⟨r38, h⟩ := h
          refine z_if_ne 155 dX4_weigh_148 (by decide) (pc' := 151) rfl r38 (fun c => ?_) (fun c => ?_)
          · have h := h.2 c
            rw [if_neg c] at k
            refine z_iconst (pc' := 156) dX4_weigh_155 rfl ?_
            refine z_invV (as := [zI 0]) (st := []) (C := m_X4_push) (fs := [67, 68, 0, 0]) (pc' := 159) dX4_weigh_156 rfl t_4_101 k_X4_push rfl (by decide) rfl rfl rfl rfl (Nat.le_of_ble_eq_true rfl) ?_
            obtain ⟨r39, h⟩ := h
            refine c_W_push_64 r39 ?_
            show z_Wp m_X4_weigh _ 159 [(0, zR 64), (1, zR 57), (2, zI u2), (3, zI (Int.tdiv (wu 65 u2.toNat) 10000)), (4, zI (Int.tmod (wu 65 u2.toNat) 10000))] [] (F_W_push_64 ((F_W_pop_64 wu).2) 0) _
            refine z_goto 182 dX4_weigh_159 (by decide) ?_
            refine z_iinc (pc' := 185) (ls' := [(0, zR 64), (1, zR 57), (2, zI (u2 + 1)), (3, zI (Int.tdiv (wu 65 u2.toNat) 10000)), (4, zI (Int.tmod (wu 65 u2.toNat) 10000))]) 2 rfl (by decide) rfl rfl dX4_weigh_182 rfl ?_
            refine z_goto 7 dX4_weigh_185 (by decide) ?_
            exact z_Wp.sub (ls' := [(0, zR 64), (1, zR 57), (2, zI (u2 + 1))]) (ih _ _ h k) (z_sub_of [0, 1, 2] rfl)
          · have h := h.1 c
            rw [if_pos c] at k
            refine z_iconst (pc' := 152) dX4_weigh_151 rfl ?_
            refine z_goto 156 dX4_weigh_152 (by decide) ?_
            refine z_invV (as := [zI 1]) (st := []) (C := m_X4_push) (fs := [67, 68, 0, 0]) (pc' := 159) dX4_weigh_156 rfl t_4_101 k_X4_push rfl (by decide) rfl rfl rfl rfl (Nat.le_of_ble_eq_true rfl) ?_
            obtain ⟨r40, h⟩ := h
            refine c_W_push_64 r40 ?_
            show z_Wp m_X4_weigh _ 159 [(0, zR 64), (1, zR 57), (2, zI u2), (3, zI (Int.tdiv (wu 65 u2.toNat) 10000)), (4, zI (Int.tmod (wu 65 u2.toNat) 10000))] [] (F_W_push_64 ((F_W_pop_64 wu).2) 1) _
            refine z_goto 182 dX4_weigh_159 (by decide) ?_
            refine z_iinc (pc' := 185) (ls' := [(0, zR 64), (1, zR 57), (2, zI (u2 + 1)), (3, zI (Int.tdiv (wu 65 u2.toNat) 10000)), (4, zI (Int.tmod (wu 65 u2.toNat) 10000))]) 2 rfl (by decide) rfl rfl dX4_weigh_182 rfl ?_
            refine z_goto 7 dX4_weigh_185 (by decide) ?_
            exact z_Wp.sub (ls' := [(0, zR 64), (1, zR 57), (2, zI (u2 + 1))]) (ih _ _ h k) (z_sub_of [0, 1, 2] rfl)
        · skip
          have c0 : ¬ (Int.tdiv (wu 65 u2.toNat) 10000) = 0 := c0
          have h := h.2 c0
          rw [if_neg c0] at k
          have c1 : ¬ (Int.tdiv (wu 65 u2.toNat) 10000) = 1 := c1
          have h := h.2 c1
          rw [if_neg c1] at k
          have c2 : ¬ (Int.tdiv (wu 65 u2.toNat) 10000) = 2 := c2
          have h := h.2 c2
          rw [if_neg c2] at k
          have c3 : ¬ (Int.tdiv (wu 65 u2.toNat) 10000) = 3 := c3
          have h := h.2 c3
          rw [if_neg c3] at k
          have c4 : ¬ (Int.tdiv (wu 65 u2.toNat) 10000) = 33 := c4
          have h := h.2 c4
          rw [if_neg c4] at k
          refine z_aload_n (pc' := 163) 0 rfl rfl dX4_weigh_162 rfl ?_
          refine z_invV (as := []) (st := []) (C := m_X4_pop) (fs := [67, 68, 0, 0]) (pc' := 166) dX4_weigh_163 rfl t_4_105 k_X4_pop rfl (by decide) rfl rfl rfl rfl (Nat.le_of_ble_eq_true rfl) ?_
          obtain ⟨r41, h⟩ := h
          refine c_W_pop_64 r41 ?_
          show z_Wp m_X4_weigh _ 166 [(0, zR 64), (1, zR 57), (2, zI u2), (3, zI (Int.tdiv (wu 65 u2.toNat) 10000)), (4, zI (Int.tmod (wu 65 u2.toNat) 10000))] [zI ((F_W_pop_64 wu).1)] ((F_W_pop_64 wu).2) _
          refine z_istore (pc' := 168) (ls' := [(0, zR 64), (1, zR 57), (2, zI u2), (3, zI (Int.tdiv (wu 65 u2.toNat) 10000)), (4, zI (Int.tmod (wu 65 u2.toNat) 10000)), (5, zI ((F_W_pop_64 wu).1))]) (by decide) rfl rfl dX4_weigh_166 rfl ?_
          refine z_aload_n (pc' := 169) 0 rfl rfl dX4_weigh_168 rfl ?_
          refine z_iload_n (pc' := 170) 3 rfl rfl dX4_weigh_169 rfl ?_
          refine z_aload_n (pc' := 171) 0 rfl rfl dX4_weigh_170 rfl ?_
          refine z_invV (as := []) (st := [zI (Int.tdiv (wu 65 u2.toNat) 10000), zR 64]) (C := m_X4_pop) (fs := [67, 68, 0, 0]) (pc' := 174) dX4_weigh_171 rfl t_4_105 k_X4_pop rfl (by decide) rfl rfl rfl rfl (Nat.le_of_ble_eq_true rfl) ?_
          obtain ⟨r42, h⟩ := h
          refine c_W_pop_64 r42 ?_
          show z_Wp m_X4_weigh _ 174 [(0, zR 64), (1, zR 57), (2, zI u2), (3, zI (Int.tdiv (wu 65 u2.toNat) 10000)), (4, zI (Int.tmod (wu 65 u2.toNat) 10000)), (5, zI ((F_W_pop_64 wu).1))] [zI ((F_W_pop_64 ((F_W_pop_64 wu).2)).1), zI (Int.tdiv (wu 65 u2.toNat) 10000), zR 64] ((F_W_pop_64 ((F_W_pop_64 wu).2)).2) _
          refine z_iload (pc' := 176) 5 rfl dX4_weigh_174 rfl ?_
          refine z_invS (as := [zI (Int.tdiv (wu 65 u2.toNat) 10000), zI ((F_W_pop_64 ((F_W_pop_64 wu).2)).1), zI ((F_W_pop_64 wu).1)]) (st := [zR 64]) (C := m_X4_join) (pc' := 179) dX4_weigh_176 rfl t_4_110 k_X4_join rfl rfl (Nat.le_of_ble_eq_true rfl) ?_
          obtain ⟨r43, h⟩ := h
          refine c_W_join r43 ?_
          show z_Wp m_X4_weigh _ 179 [(0, zR 64), (1, zR 57), (2, zI u2), (3, zI (Int.tdiv (wu 65 u2.toNat) 10000)), (4, zI (Int.tmod (wu 65 u2.toNat) 10000)), (5, zI ((F_W_pop_64 wu).1))] [zI (F_W_join ((F_W_pop_64 ((F_W_pop_64 wu).2)).2) (Int.tdiv (wu 65 u2.toNat) 10000) ((F_W_pop_64 ((F_W_pop_64 wu).2)).1) ((F_W_pop_64 wu).1)), zR 64] ((F_W_pop_64 ((F_W_pop_64 wu).2)).2) _
          refine z_invV (as := [zI (F_W_join ((F_W_pop_64 ((F_W_pop_64 wu).2)).2) (Int.tdiv (wu 65 u2.toNat) 10000) ((F_W_pop_64 ((F_W_pop_64 wu).2)).1) ((F_W_pop_64 wu).1))]) (st := []) (C := m_X4_push) (fs := [67, 68, 0, 0]) (pc' := 182) dX4_weigh_179 rfl t_4_101 k_X4_push rfl (by decide) rfl rfl rfl rfl (Nat.le_of_ble_eq_true rfl) ?_
          obtain ⟨r44, h⟩ := h
          refine c_W_push_64 r44 ?_
          show z_Wp m_X4_weigh _ 182 [(0, zR 64), (1, zR 57), (2, zI u2), (3, zI (Int.tdiv (wu 65 u2.toNat) 10000)), (4, zI (Int.tmod (wu 65 u2.toNat) 10000)), (5, zI ((F_W_pop_64 wu).1))] [] (F_W_push_64 ((F_W_pop_64 ((F_W_pop_64 wu).2)).2) (F_W_join ((F_W_pop_64 ((F_W_pop_64 wu).2)).2) (Int.tdiv (wu 65 u2.toNat) 10000) ((F_W_pop_64 ((F_W_pop_64 wu).2)).1) ((F_W_pop_64 wu).1))) _
          refine z_iinc (pc' := 185) (ls' := [(0, zR 64), (1, zR 57), (2, zI (u2 + 1)), (3, zI (Int.tdiv (wu 65 u2.toNat) 10000)), (4, zI (Int.tmod (wu 65 u2.toNat) 10000)), (5, zI ((F_W_pop_64 wu).1))]) 2 rfl (by decide) rfl rfl dX4_weigh_182 rfl ?_
          refine z_goto 7 dX4_weigh_185 (by decide) ?_
          exact z_Wp.sub (ls' := [(0, zR 64), (1, zR 57), (2, zI (u2 + 1))]) (ih _ _ h k) (z_sub_of [0, 1, 2] rfl)
  exact hl 300 _ _ h k
def L_W_weigh_67_57_7 (w : z_Wd)   : Nat → Int → z_Wd → Int × z_Wd
  | 0, _, _ => (0, w)
  | m9 + 1, u2, wu => if u2 ≥ wu 67 2 then (0, wu) else if Int.tdiv (wu 68 u2.toNat) 10000 = 0 then L_W_weigh_67_57_7 w m9 (u2 + 1) (F_W_push_67 wu (Int.tmod (wu 68 u2.toNat) 10000)) else if Int.tdiv (wu 68 u2.toNat) 10000 = 1 then if Int.tmod (wu 68 u2.toNat) 10000 ≥ 6 then L_W_weigh_67_57_7 w m9 (u2 + 1) (F_W_push_67 wu 0) else L_W_weigh_67_57_7 w m9 (u2 + 1) (F_W_push_67 wu (wu 57 ((Int.tmod (wu 68 u2.toNat) 10000).toNat))) else if Int.tdiv (wu 68 u2.toNat) 10000 = 2 then ((F_W_pop_67 wu).1, (F_W_pop_67 wu).2) else if Int.tdiv (wu 68 u2.toNat) 10000 = 3 then if (F_W_pop_67 wu).1 = 0 then L_W_weigh_67_57_7 w m9 ((F_J_max_7cf53 ((F_W_pop_67 wu).2) u2 ((Int.tmod (wu 68 u2.toNat) 10000) - 1)) + 1) ((F_W_pop_67 wu).2) else L_W_weigh_67_57_7 w m9 (u2 + 1) ((F_W_pop_67 wu).2) else if Int.tdiv (wu 68 u2.toNat) 10000 = 33 then if (F_W_pop_67 wu).1 = 0 then L_W_weigh_67_57_7 w m9 (u2 + 1) (F_W_push_67 ((F_W_pop_67 wu).2) 1) else L_W_weigh_67_57_7 w m9 (u2 + 1) (F_W_push_67 ((F_W_pop_67 wu).2) 0) else L_W_weigh_67_57_7 w m9 (u2 + 1) (F_W_push_67 ((F_W_pop_67 ((F_W_pop_67 wu).2)).2) (F_W_join ((F_W_pop_67 ((F_W_pop_67 wu).2)).2) (Int.tdiv (wu 68 u2.toNat) 10000) ((F_W_pop_67 ((F_W_pop_67 wu).2)).1) ((F_W_pop_67 wu).1)))
def PL_W_weigh_67_57_7 (w : z_Wd)   : Nat → Int → z_Wd → Prop
  | 0, _, _ => False
  | m9 + 1, u2, wu => (-2147483648 ≤ u2 ∧ u2 < 2147483648) ∧ (-2147483648 ≤ wu 67 2 ∧ wu 67 2 < 2147483648) ∧ ((u2 ≥ wu 67 2 → True) ∧ (¬ (u2 ≥ wu 67 2) → (0 ≤ u2 ∧ u2 < 240) ∧ (-2147483648 ≤ wu 68 u2.toNat ∧ wu 68 u2.toNat < 2147483648) ∧ (-2147483648 ≤ Int.tdiv (wu 68 u2.toNat) 10000 ∧ Int.tdiv (wu 68 u2.toNat) 10000 < 2147483648) ∧ ((Int.tdiv (wu 68 u2.toNat) 10000 = 0 → (P_W_push_67 wu (Int.tmod (wu 68 u2.toNat) 10000)) ∧ (PL_W_weigh_67_57_7 w m9 (u2 + 1) (F_W_push_67 wu (Int.tmod (wu 68 u2.toNat) 10000)))) ∧ (¬ (Int.tdiv (wu 68 u2.toNat) 10000) = 0 → (Int.tdiv (wu 68 u2.toNat) 10000 = 1 → (-2147483648 ≤ Int.tmod (wu 68 u2.toNat) 10000 ∧ Int.tmod (wu 68 u2.toNat) 10000 < 2147483648) ∧ ((Int.tmod (wu 68 u2.toNat) 10000 ≥ 6 → (P_W_push_67 wu 0) ∧ (PL_W_weigh_67_57_7 w m9 (u2 + 1) (F_W_push_67 wu 0))) ∧ (¬ (Int.tmod (wu 68 u2.toNat) 10000 ≥ 6) → (0 ≤ Int.tmod (wu 68 u2.toNat) 10000 ∧ Int.tmod (wu 68 u2.toNat) 10000 < 6) ∧ (P_W_push_67 wu (wu 57 ((Int.tmod (wu 68 u2.toNat) 10000).toNat))) ∧ (PL_W_weigh_67_57_7 w m9 (u2 + 1) (F_W_push_67 wu (wu 57 ((Int.tmod (wu 68 u2.toNat) 10000).toNat))))))) ∧ (¬ (Int.tdiv (wu 68 u2.toNat) 10000) = 1 → (Int.tdiv (wu 68 u2.toNat) 10000 = 2 → P_W_pop_67 wu) ∧ (¬ (Int.tdiv (wu 68 u2.toNat) 10000) = 2 → (Int.tdiv (wu 68 u2.toNat) 10000 = 3 → (P_W_pop_67 wu) ∧ (-2147483648 ≤ (F_W_pop_67 wu).1 ∧ (F_W_pop_67 wu).1 < 2147483648) ∧ (((F_W_pop_67 wu).1 = 0 → (P_J_max_7cf53 ((F_W_pop_67 wu).2) u2 ((Int.tmod (wu 68 u2.toNat) 10000) - 1)) ∧ (PL_W_weigh_67_57_7 w m9 ((F_J_max_7cf53 ((F_W_pop_67 wu).2) u2 ((Int.tmod (wu 68 u2.toNat) 10000) - 1)) + 1) ((F_W_pop_67 wu).2))) ∧ (¬ ((F_W_pop_67 wu).1 = 0) → PL_W_weigh_67_57_7 w m9 (u2 + 1) ((F_W_pop_67 wu).2)))) ∧ (¬ (Int.tdiv (wu 68 u2.toNat) 10000) = 3 → (Int.tdiv (wu 68 u2.toNat) 10000 = 33 → (P_W_pop_67 wu) ∧ (-2147483648 ≤ (F_W_pop_67 wu).1 ∧ (F_W_pop_67 wu).1 < 2147483648) ∧ (((F_W_pop_67 wu).1 = 0 → (P_W_push_67 ((F_W_pop_67 wu).2) 1) ∧ (PL_W_weigh_67_57_7 w m9 (u2 + 1) (F_W_push_67 ((F_W_pop_67 wu).2) 1))) ∧ (¬ ((F_W_pop_67 wu).1 = 0) → (P_W_push_67 ((F_W_pop_67 wu).2) 0) ∧ (PL_W_weigh_67_57_7 w m9 (u2 + 1) (F_W_push_67 ((F_W_pop_67 wu).2) 0))))) ∧ (¬ (Int.tdiv (wu 68 u2.toNat) 10000) = 33 → (P_W_pop_67 wu) ∧ (P_W_pop_67 ((F_W_pop_67 wu).2)) ∧ (P_W_join ((F_W_pop_67 ((F_W_pop_67 wu).2)).2) (Int.tdiv (wu 68 u2.toNat) 10000) ((F_W_pop_67 ((F_W_pop_67 wu).2)).1) ((F_W_pop_67 wu).1)) ∧ (P_W_push_67 ((F_W_pop_67 ((F_W_pop_67 wu).2)).2) (F_W_join ((F_W_pop_67 ((F_W_pop_67 wu).2)).2) (Int.tdiv (wu 68 u2.toNat) 10000) ((F_W_pop_67 ((F_W_pop_67 wu).2)).1) ((F_W_pop_67 wu).1))) ∧ (PL_W_weigh_67_57_7 w m9 (u2 + 1) (F_W_push_67 ((F_W_pop_67 ((F_W_pop_67 wu).2)).2) (F_W_join ((F_W_pop_67 ((F_W_pop_67 wu).2)).2) (Int.tdiv (wu 68 u2.toNat) 10000) ((F_W_pop_67 ((F_W_pop_67 wu).2)).1) ((F_W_pop_67 wu).1))))))))))))
def P_W_weigh_67_57 (w : z_Wd)  : Prop := PL_W_weigh_67_57_7 w 300 0 (z_up w 67 3 0)
def F_W_weigh_67_57 (w : z_Wd)  : Int × z_Wd := L_W_weigh_67_57_7 w 300 0 (z_up w 67 3 0)
set_option maxRecDepth 4000 in
theorem c_W_weigh_67_57 {d : Nat} {w : z_Wd} {Q : Option z_V → z_Wd → Prop} (h : P_W_weigh_67_57 w ) (k : Q (some (zI (F_W_weigh_67_57 w ).1)) (F_W_weigh_67_57 w ).2) : z_Wc (d + 3) m_X4_weigh [zR 67, zR 57] w Q := by
  unfold P_W_weigh_67_57 at h
  unfold F_W_weigh_67_57 at k
  refine z_enter rfl (Nat.le_of_ble_eq_true rfl) ?_
  show z_Wp m_X4_weigh _ 0 [(0, zR 67), (1, zR 57)] [] w _
  refine z_aload_n (pc' := 1) 0 rfl rfl dX4_weigh_0 rfl ?_
  refine z_iconst (pc' := 2) dX4_weigh_1 rfl ?_
  refine z_putI (pc' := 5) p_X4_28 (by decide) rfl rfl rfl rfl dX4_weigh_2 rfl ?_
  refine z_iconst (pc' := 6) dX4_weigh_5 rfl ?_
  refine z_istore_n (pc' := 7) (ls' := [(0, zR 67), (1, zR 57), (2, zI 0)]) rfl (by decide) rfl rfl dX4_weigh_6 rfl ?_
  have hl : ∀ (m9 : Nat) (u2 : Int) (wu : z_Wd), PL_W_weigh_67_57_7 w m9 u2 wu → Q (some (zI (L_W_weigh_67_57_7 w m9 u2 wu).1)) (L_W_weigh_67_57_7 w m9 u2 wu).2 → z_Wp m_X4_weigh (d + 3) 7 [(0, zR 67), (1, zR 57), (2, zI u2)] [] wu Q := by
    clear h k
    intro m9
    induction m9 with
    | zero => intro u2 wu h k; exact False.elim h
    | succ m9 ih =>
      intro u2 wu h k
      have h : (-2147483648 ≤ u2 ∧ u2 < 2147483648) ∧ (-2147483648 ≤ wu 67 2 ∧ wu 67 2 < 2147483648) ∧ ((u2 ≥ wu 67 2 → True) ∧ (¬ (u2 ≥ wu 67 2) → (0 ≤ u2 ∧ u2 < 240) ∧ (-2147483648 ≤ wu 68 u2.toNat ∧ wu 68 u2.toNat < 2147483648) ∧ (-2147483648 ≤ Int.tdiv (wu 68 u2.toNat) 10000 ∧ Int.tdiv (wu 68 u2.toNat) 10000 < 2147483648) ∧ ((Int.tdiv (wu 68 u2.toNat) 10000 = 0 → (P_W_push_67 wu (Int.tmod (wu 68 u2.toNat) 10000)) ∧ (PL_W_weigh_67_57_7 w m9 (u2 + 1) (F_W_push_67 wu (Int.tmod (wu 68 u2.toNat) 10000)))) ∧ (¬ (Int.tdiv (wu 68 u2.toNat) 10000) = 0 → (Int.tdiv (wu 68 u2.toNat) 10000 = 1 → (-2147483648 ≤ Int.tmod (wu 68 u2.toNat) 10000 ∧ Int.tmod (wu 68 u2.toNat) 10000 < 2147483648) ∧ ((Int.tmod (wu 68 u2.toNat) 10000 ≥ 6 → (P_W_push_67 wu 0) ∧ (PL_W_weigh_67_57_7 w m9 (u2 + 1) (F_W_push_67 wu 0))) ∧ (¬ (Int.tmod (wu 68 u2.toNat) 10000 ≥ 6) → (0 ≤ Int.tmod (wu 68 u2.toNat) 10000 ∧ Int.tmod (wu 68 u2.toNat) 10000 < 6) ∧ (P_W_push_67 wu (wu 57 ((Int.tmod (wu 68 u2.toNat) 10000).toNat))) ∧ (PL_W_weigh_67_57_7 w m9 (u2 + 1) (F_W_push_67 wu (wu 57 ((Int.tmod (wu 68 u2.toNat) 10000).toNat))))))) ∧ (¬ (Int.tdiv (wu 68 u2.toNat) 10000) = 1 → (Int.tdiv (wu 68 u2.toNat) 10000 = 2 → P_W_pop_67 wu) ∧ (¬ (Int.tdiv (wu 68 u2.toNat) 10000) = 2 → (Int.tdiv (wu 68 u2.toNat) 10000 = 3 → (P_W_pop_67 wu) ∧ (-2147483648 ≤ (F_W_pop_67 wu).1 ∧ (F_W_pop_67 wu).1 < 2147483648) ∧ (((F_W_pop_67 wu).1 = 0 → (P_J_max_7cf53 ((F_W_pop_67 wu).2) u2 ((Int.tmod (wu 68 u2.toNat) 10000) - 1)) ∧ (PL_W_weigh_67_57_7 w m9 ((F_J_max_7cf53 ((F_W_pop_67 wu).2) u2 ((Int.tmod (wu 68 u2.toNat) 10000) - 1)) + 1) ((F_W_pop_67 wu).2))) ∧ (¬ ((F_W_pop_67 wu).1 = 0) → PL_W_weigh_67_57_7 w m9 (u2 + 1) ((F_W_pop_67 wu).2)))) ∧ (¬ (Int.tdiv (wu 68 u2.toNat) 10000) = 3 → (Int.tdiv (wu 68 u2.toNat) 10000 = 33 → (P_W_pop_67 wu) ∧ (-2147483648 ≤ (F_W_pop_67 wu).1 ∧ (F_W_pop_67 wu).1 < 2147483648) ∧ (((F_W_pop_67 wu).1 = 0 → (P_W_push_67 ((F_W_pop_67 wu).2) 1) ∧ (PL_W_weigh_67_57_7 w m9 (u2 + 1) (F_W_push_67 ((F_W_pop_67 wu).2) 1))) ∧ (¬ ((F_W_pop_67 wu).1 = 0) → (P_W_push_67 ((F_W_pop_67 wu).2) 0) ∧ (PL_W_weigh_67_57_7 w m9 (u2 + 1) (F_W_push_67 ((F_W_pop_67 wu).2) 0))))) ∧ (¬ (Int.tdiv (wu 68 u2.toNat) 10000) = 33 → (P_W_pop_67 wu) ∧ (P_W_pop_67 ((F_W_pop_67 wu).2)) ∧ (P_W_join ((F_W_pop_67 ((F_W_pop_67 wu).2)).2) (Int.tdiv (wu 68 u2.toNat) 10000) ((F_W_pop_67 ((F_W_pop_67 wu).2)).1) ((F_W_pop_67 wu).1)) ∧ (P_W_push_67 ((F_W_pop_67 ((F_W_pop_67 wu).2)).2) (F_W_join ((F_W_pop_67 ((F_W_pop_67 wu).2)).2) (Int.tdiv (wu 68 u2.toNat) 10000) ((F_W_pop_67 ((F_W_pop_67 wu).2)).1) ((F_W_pop_67 wu).1))) ∧ (PL_W_weigh_67_57_7 w m9 (u2 + 1) (F_W_push_67 ((F_W_pop_67 ((F_W_pop_67 wu).2)).2) (F_W_join ((F_W_pop_67 ((F_W_pop_67 wu).2)).2) (Int.tdiv (wu 68 u2.toNat) 10000) ((F_W_pop_67 ((F_W_pop_67 wu).2)).1) ((F_W_pop_67 wu).1)))))))))))) := h
      have k : Q (some (zI (if u2 ≥ wu 67 2 then (0, wu) else if Int.tdiv (wu 68 u2.toNat) 10000 = 0 then L_W_weigh_67_57_7 w m9 (u2 + 1) (F_W_push_67 wu (Int.tmod (wu 68 u2.toNat) 10000)) else if Int.tdiv (wu 68 u2.toNat) 10000 = 1 then if Int.tmod (wu 68 u2.toNat) 10000 ≥ 6 then L_W_weigh_67_57_7 w m9 (u2 + 1) (F_W_push_67 wu 0) else L_W_weigh_67_57_7 w m9 (u2 + 1) (F_W_push_67 wu (wu 57 ((Int.tmod (wu 68 u2.toNat) 10000).toNat))) else if Int.tdiv (wu 68 u2.toNat) 10000 = 2 then ((F_W_pop_67 wu).1, (F_W_pop_67 wu).2) else if Int.tdiv (wu 68 u2.toNat) 10000 = 3 then if (F_W_pop_67 wu).1 = 0 then L_W_weigh_67_57_7 w m9 ((F_J_max_7cf53 ((F_W_pop_67 wu).2) u2 ((Int.tmod (wu 68 u2.toNat) 10000) - 1)) + 1) ((F_W_pop_67 wu).2) else L_W_weigh_67_57_7 w m9 (u2 + 1) ((F_W_pop_67 wu).2) else if Int.tdiv (wu 68 u2.toNat) 10000 = 33 then if (F_W_pop_67 wu).1 = 0 then L_W_weigh_67_57_7 w m9 (u2 + 1) (F_W_push_67 ((F_W_pop_67 wu).2) 1) else L_W_weigh_67_57_7 w m9 (u2 + 1) (F_W_push_67 ((F_W_pop_67 wu).2) 0) else L_W_weigh_67_57_7 w m9 (u2 + 1) (F_W_push_67 ((F_W_pop_67 ((F_W_pop_67 wu).2)).2) (F_W_join ((F_W_pop_67 ((F_W_pop_67 wu).2)).2) (Int.tdiv (wu 68 u2.toNat) 10000) ((F_W_pop_67 ((F_W_pop_67 wu).2)).1) ((F_W_pop_67 wu).1)))).1)) (if u2 ≥ wu 67 2 then (0, wu) else if Int.tdiv (wu 68 u2.toNat) 10000 = 0 then L_W_weigh_67_57_7 w m9 (u2 + 1) (F_W_push_67 wu (Int.tmod (wu 68 u2.toNat) 10000)) else if Int.tdiv (wu 68 u2.toNat) 10000 = 1 then if Int.tmod (wu 68 u2.toNat) 10000 ≥ 6 then L_W_weigh_67_57_7 w m9 (u2 + 1) (F_W_push_67 wu 0) else L_W_weigh_67_57_7 w m9 (u2 + 1) (F_W_push_67 wu (wu 57 ((Int.tmod (wu 68 u2.toNat) 10000).toNat))) else if Int.tdiv (wu 68 u2.toNat) 10000 = 2 then ((F_W_pop_67 wu).1, (F_W_pop_67 wu).2) else if Int.tdiv (wu 68 u2.toNat) 10000 = 3 then if (F_W_pop_67 wu).1 = 0 then L_W_weigh_67_57_7 w m9 ((F_J_max_7cf53 ((F_W_pop_67 wu).2) u2 ((Int.tmod (wu 68 u2.toNat) 10000) - 1)) + 1) ((F_W_pop_67 wu).2) else L_W_weigh_67_57_7 w m9 (u2 + 1) ((F_W_pop_67 wu).2) else if Int.tdiv (wu 68 u2.toNat) 10000 = 33 then if (F_W_pop_67 wu).1 = 0 then L_W_weigh_67_57_7 w m9 (u2 + 1) (F_W_push_67 ((F_W_pop_67 wu).2) 1) else L_W_weigh_67_57_7 w m9 (u2 + 1) (F_W_push_67 ((F_W_pop_67 wu).2) 0) else L_W_weigh_67_57_7 w m9 (u2 + 1) (F_W_push_67 ((F_W_pop_67 ((F_W_pop_67 wu).2)).2) (F_W_join ((F_W_pop_67 ((F_W_pop_67 wu).2)).2) (Int.tdiv (wu 68 u2.toNat) 10000) ((F_W_pop_67 ((F_W_pop_67 wu).2)).1) ((F_W_pop_67 wu).1)))).2 := k
      refine z_iload_n (pc' := 8) 2 rfl rfl dX4_weigh_7 rfl ?_
      refine z_aload_n (pc' := 9) 0 rfl rfl dX4_weigh_8 rfl ?_
      refine z_getI2 (v := wu 67 2) (pc' := 12) g_X4_18 (by decide) rfl rfl rfl dX4_weigh_9 rfl ?_
      obtain ⟨r23, h⟩ := h
      obtain ⟨r24, h⟩ := h
      refine z_icmp_ge 188 dX4_weigh_12 (by decide) (pc' := 15) rfl r23 r24 (fun c => ?_) (fun c => ?_)
      · have h := h.1 c
        rw [if_pos c] at k
        refine z_iconst (pc' := 189) dX4_weigh_188 rfl ?_
        refine z_iret rfl dX4_weigh_189 ?_
        exact k
      · have h := h.2 c
        rw [if_neg c] at k
        refine z_aload_n (pc' := 16) 0 rfl rfl dX4_weigh_15 rfl ?_
        refine z_getR (t := 68) (pc' := 19) g_X4_11 (by decide) rfl rfl dX4_weigh_16 rfl ?_
        refine z_iload_n (pc' := 20) 2 rfl rfl dX4_weigh_19 rfl ?_
        obtain ⟨r25, h⟩ := h
        refine z_iald2 (v := wu 68 u2.toNat) (pc' := 21) (by decide) rfl r25 (by decide) rfl dX4_weigh_20 rfl ?_
        refine z_sipush (pc' := 24) (by decide) dX4_weigh_21 rfl ?_
        obtain ⟨r26, h⟩ := h
        refine z_idiv (pc' := 25) r26 (by decide) (by decide) dX4_weigh_24 rfl ?_
        refine z_istore_n (pc' := 26) (ls' := [(0, zR 67), (1, zR 57), (2, zI u2), (3, zI (Int.tdiv (wu 68 u2.toNat) 10000))]) rfl (by decide) rfl rfl dX4_weigh_25 rfl ?_
        refine z_aload_n (pc' := 27) 0 rfl rfl dX4_weigh_26 rfl ?_
        refine z_getR (t := 68) (pc' := 30) g_X4_11 (by decide) rfl rfl dX4_weigh_27 rfl ?_
        refine z_iload_n (pc' := 31) 2 rfl rfl dX4_weigh_30 rfl ?_
        refine z_iald2 (v := wu 68 u2.toNat) (pc' := 32) (by decide) rfl r25 (by decide) rfl dX4_weigh_31 rfl ?_
        refine z_sipush (pc' := 35) (by decide) dX4_weigh_32 rfl ?_
        refine z_irem (pc' := 36) r26 (by decide) (by decide) dX4_weigh_35 rfl ?_
        refine z_istore (pc' := 38) (ls' := [(0, zR 67), (1, zR 57), (2, zI u2), (3, zI (Int.tdiv (wu 68 u2.toNat) 10000)), (4, zI (Int.tmod (wu 68 u2.toNat) 10000))]) (by decide) rfl rfl dX4_weigh_36 rfl ?_
        refine z_iload_n (pc' := 39) 3 rfl rfl dX4_weigh_38 rfl ?_
        obtain ⟨r27, h⟩ := h
        refine z_lookup dX4_weigh_39 (by decide) r27 ⟨fun c0 => ⟨88, by decide, ?_⟩, fun c0 => ⟨fun c1 => ⟨97, by decide, ?_⟩, fun c1 => ⟨fun c2 => ⟨119, by decide, ?_⟩, fun c2 => ⟨fun c3 => ⟨124, by decide, ?_⟩, fun c3 => ⟨fun c4 => ⟨143, by decide, ?_⟩, fun c4 => ⟨162, by decide, ?_⟩⟩⟩⟩⟩⟩
        · skip
          have c0 : Int.tdiv (wu 68 u2.toNat) 10000 = 0 := c0
          have h := h.1 c0
          rw [if_pos c0] at k
          refine z_aload_n (pc' := 89) 0 rfl rfl dX4_weigh_88 rfl ?_
          refine z_iload (pc' := 91) 4 rfl dX4_weigh_89 rfl ?_
          refine z_invV (as := [zI (Int.tmod (wu 68 u2.toNat) 10000)]) (st := []) (C := m_X4_push) (fs := [70, 71, 0, 0]) (pc' := 94) dX4_weigh_91 rfl t_4_101 k_X4_push rfl (by decide) rfl rfl rfl rfl (Nat.le_of_ble_eq_true rfl) ?_
          obtain ⟨r28, h⟩ := h
          refine c_W_push_67 r28 ?_
          show z_Wp m_X4_weigh _ 94 [(0, zR 67), (1, zR 57), (2, zI u2), (3, zI (Int.tdiv (wu 68 u2.toNat) 10000)), (4, zI (Int.tmod (wu 68 u2.toNat) 10000))] [] (F_W_push_67 wu (Int.tmod (wu 68 u2.toNat) 10000)) _
          refine z_goto 182 dX4_weigh_94 (by decide) ?_
          refine z_iinc (pc' := 185) (ls' := [(0, zR 67), (1, zR 57), (2, zI (u2 + 1)), (3, zI (Int.tdiv (wu 68 u2.toNat) 10000)), (4, zI (Int.tmod (wu 68 u2.toNat) 10000))]) 2 rfl (by decide) rfl rfl dX4_weigh_182 rfl ?_
          refine z_goto 7 dX4_weigh_185 (by decide) ?_
          exact z_Wp.sub (ls' := [(0, zR 67), (1, zR 57), (2, zI (u2 + 1))]) (ih _ _ h k) (z_sub_of [0, 1, 2] rfl)
        · skip
          have c0 : ¬ (Int.tdiv (wu 68 u2.toNat) 10000) = 0 := c0
          have h := h.2 c0
          rw [if_neg c0] at k
          have c1 : Int.tdiv (wu 68 u2.toNat) 10000 = 1 := c1
          have h := h.1 c1
          rw [if_pos c1] at k
          refine z_aload_n (pc' := 98) 0 rfl rfl dX4_weigh_97 rfl ?_
          refine z_iload (pc' := 100) 4 rfl dX4_weigh_98 rfl ?_
          refine z_aload_n (pc' := 101) 1 rfl rfl dX4_weigh_100 rfl ?_
          refine z_alen2 (v := 6) (pc' := 102) (by decide) rfl rfl dX4_weigh_101 rfl ?_
          obtain ⟨r29, h⟩ := h
          refine z_icmp_ge 112 dX4_weigh_102 (by decide) (pc' := 105) rfl r29 (by decide) (fun c => ?_) (fun c => ?_)
          · have h := h.1 c
            rw [if_pos c] at k
            refine z_iconst (pc' := 113) dX4_weigh_112 rfl ?_
            refine z_invV (as := [zI 0]) (st := []) (C := m_X4_push) (fs := [70, 71, 0, 0]) (pc' := 116) dX4_weigh_113 rfl t_4_101 k_X4_push rfl (by decide) rfl rfl rfl rfl (Nat.le_of_ble_eq_true rfl) ?_
            obtain ⟨r30, h⟩ := h
            refine c_W_push_67 r30 ?_
            show z_Wp m_X4_weigh _ 116 [(0, zR 67), (1, zR 57), (2, zI u2), (3, zI (Int.tdiv (wu 68 u2.toNat) 10000)), (4, zI (Int.tmod (wu 68 u2.toNat) 10000))] [] (F_W_push_67 wu 0) _
            refine z_goto 182 dX4_weigh_116 (by decide) ?_
            refine z_iinc (pc' := 185) (ls' := [(0, zR 67), (1, zR 57), (2, zI (u2 + 1)), (3, zI (Int.tdiv (wu 68 u2.toNat) 10000)), (4, zI (Int.tmod (wu 68 u2.toNat) 10000))]) 2 rfl (by decide) rfl rfl dX4_weigh_182 rfl ?_
            refine z_goto 7 dX4_weigh_185 (by decide) ?_
            exact z_Wp.sub (ls' := [(0, zR 67), (1, zR 57), (2, zI (u2 + 1))]) (ih _ _ h k) (z_sub_of [0, 1, 2] rfl)
          · have h := h.2 c
            rw [if_neg c] at k
            refine z_aload_n (pc' := 106) 1 rfl rfl dX4_weigh_105 rfl ?_
            refine z_iload (pc' := 108) 4 rfl dX4_weigh_106 rfl ?_
            obtain ⟨r31, h⟩ := h
            refine z_iald2 (v := wu 57 ((Int.tmod (wu 68 u2.toNat) 10000).toNat)) (pc' := 109) (by decide) rfl r31 (by decide) rfl dX4_weigh_108 rfl ?_
            refine z_goto 113 dX4_weigh_109 (by decide) ?_
            refine z_invV (as := [zI (wu 57 ((Int.tmod (wu 68 u2.toNat) 10000).toNat))]) (st := []) (C := m_X4_push) (fs := [70, 71, 0, 0]) (pc' := 116) dX4_weigh_113 rfl t_4_101 k_X4_push rfl (by decide) rfl rfl rfl rfl (Nat.le_of_ble_eq_true rfl) ?_
            obtain ⟨r32, h⟩ := h
            refine c_W_push_67 r32 ?_
            show z_Wp m_X4_weigh _ 116 [(0, zR 67), (1, zR 57), (2, zI u2), (3, zI (Int.tdiv (wu 68 u2.toNat) 10000)), (4, zI (Int.tmod (wu 68 u2.toNat) 10000))] [] (F_W_push_67 wu (wu 57 ((Int.tmod (wu 68 u2.toNat) 10000).toNat))) _
            refine z_goto 182 dX4_weigh_116 (by decide) ?_
            refine z_iinc (pc' := 185) (ls' := [(0, zR 67), (1, zR 57), (2, zI (u2 + 1)), (3, zI (Int.tdiv (wu 68 u2.toNat) 10000)), (4, zI (Int.tmod (wu 68 u2.toNat) 10000))]) 2 rfl (by decide) rfl rfl dX4_weigh_182 rfl ?_
            refine z_goto 7 dX4_weigh_185 (by decide) ?_
            exact z_Wp.sub (ls' := [(0, zR 67), (1, zR 57), (2, zI (u2 + 1))]) (ih _ _ h k) (z_sub_of [0, 1, 2] rfl)
        · skip
          have c0 : ¬ (Int.tdiv (wu 68 u2.toNat) 10000) = 0 := c0
          have h := h.2 c0
          rw [if_neg c0] at k
          have c1 : ¬ (Int.tdiv (wu 68 u2.toNat) 10000) = 1 := c1
          have h := h.2 c1
          rw [if_neg c1] at k
          have c2 : Int.tdiv (wu 68 u2.toNat) 10000 = 2 := c2
          have h := h.1 c2
          rw [if_pos c2] at k
          refine z_aload_n (pc' := 120) 0 rfl rfl dX4_weigh_119 rfl ?_
          refine z_invV (as := []) (st := []) (C := m_X4_pop) (fs := [70, 71, 0, 0]) (pc' := 123) dX4_weigh_120 rfl t_4_105 k_X4_pop rfl (by decide) rfl rfl rfl rfl (Nat.le_of_ble_eq_true rfl) ?_
          have r33 := h
          refine c_W_pop_67 r33 ?_
          show z_Wp m_X4_weigh _ 123 [(0, zR 67), (1, zR 57), (2, zI u2), (3, zI (Int.tdiv (wu 68 u2.toNat) 10000)), (4, zI (Int.tmod (wu 68 u2.toNat) 10000))] [zI ((F_W_pop_67 wu).1)] ((F_W_pop_67 wu).2) _
          refine z_iret rfl dX4_weigh_123 ?_
          exact k
        · skip
          have c0 : ¬ (Int.tdiv (wu 68 u2.toNat) 10000) = 0 := c0
          have h := h.2 c0
          rw [if_neg c0] at k
          have c1 : ¬ (Int.tdiv (wu 68 u2.toNat) 10000) = 1 := c1
          have h := h.2 c1
          rw [if_neg c1] at k
          have c2 : ¬ (Int.tdiv (wu 68 u2.toNat) 10000) = 2 := c2
          have h := h.2 c2
          rw [if_neg c2] at k
          have c3 : Int.tdiv (wu 68 u2.toNat) 10000 = 3 := c3
          have h := h.1 c3
          rw [if_pos c3] at k
          refine z_aload_n (pc' := 125) 0 rfl rfl dX4_weigh_124 rfl ?_
          refine z_invV (as := []) (st := []) (C := m_X4_pop) (fs := [70, 71, 0, 0]) (pc' := 128) dX4_weigh_125 rfl t_4_105 k_X4_pop rfl (by decide) rfl rfl rfl rfl (Nat.le_of_ble_eq_true rfl) ?_
          obtain ⟨r34, h⟩ := h
          refine c_W_pop_67 r34 ?_
          show z_Wp m_X4_weigh _ 128 [(0, zR 67), (1, zR 57), (2, zI u2), (3, zI (Int.tdiv (wu 68 u2.toNat) 10000)), (4, zI (Int.tmod (wu 68 u2.toNat) 10000))] [zI ((F_W_pop_67 wu).1)] ((F_W_pop_67 wu).2) _
          obtain ⟨r35, h⟩ := h
          refine z_if_ne 182 dX4_weigh_128 (by decide) (pc' := 131) rfl r35 (fun c => ?_) (fun c => ?_)
          · have h := h.2 c
            rw [if_neg c] at k
            refine z_iinc (pc' := 185) (ls' := [(0, zR 67), (1, zR 57), (2, zI (u2 + 1)), (3, zI (Int.tdiv (wu 68 u2.toNat) 10000)), (4, zI (Int.tmod (wu 68 u2.toNat) 10000))]) 2 rfl (by decide) rfl rfl dX4_weigh_182 rfl ?_
            refine z_goto 7 dX4_weigh_185 (by decide) ?_
            exact z_Wp.sub (ls' := [(0, zR 67), (1, zR 57), (2, zI (u2 + 1))]) (ih _ _ h k) (z_sub_of [0, 1, 2] rfl)
          · have h := h.1 c
            rw [if_pos c] at k
            refine z_iload_n (pc' := 132) 2 rfl rfl dX4_weigh_131 rfl ?_
            refine z_iload (pc' := 134) 4 rfl dX4_weigh_132 rfl ?_
            refine z_iconst (pc' := 135) dX4_weigh_134 rfl ?_
            refine z_isub (pc' := 136) dX4_weigh_135 rfl ?_
            refine z_invS (as := [zI u2, zI ((Int.tmod (wu 68 u2.toNat) 10000) - 1)]) (st := []) (C := m_J9_max_7cf53) (pc' := 139) dX4_weigh_136 rfl t_4_109 k_J9_max_7cf53 rfl rfl (Nat.le_of_ble_eq_true rfl) ?_
            obtain ⟨r36, h⟩ := h
            refine c_J_max_7cf53 r36 ?_
            show z_Wp m_X4_weigh _ 139 [(0, zR 67), (1, zR 57), (2, zI u2), (3, zI (Int.tdiv (wu 68 u2.toNat) 10000)), (4, zI (Int.tmod (wu 68 u2.toNat) 10000))] [zI (F_J_max_7cf53 ((F_W_pop_67 wu).2) u2 ((Int.tmod (wu 68 u2.toNat) 10000) - 1))] ((F_W_pop_67 wu).2) _
            refine z_istore_n (pc' := 140) (ls' := [(0, zR 67), (1, zR 57), (2, zI (F_J_max_7cf53 ((F_W_pop_67 wu).2) u2 ((Int.tmod (wu 68 u2.toNat) 10000) - 1))), (3, zI (Int.tdiv (wu 68 u2.toNat) 10000)), (4, zI (Int.tmod (wu 68 u2.toNat) 10000))]) rfl (by decide) rfl rfl dX4_weigh_139 rfl ?_
            refine z_goto 182 dX4_weigh_140 (by decide) ?_
            refine z_iinc (pc' := 185) (ls' := [(0, zR 67), (1, zR 57), (2, zI ((F_J_max_7cf53 ((F_W_pop_67 wu).2) u2 ((Int.tmod (wu 68 u2.toNat) 10000) - 1)) + 1)), (3, zI (Int.tdiv (wu 68 u2.toNat) 10000)), (4, zI (Int.tmod (wu 68 u2.toNat) 10000))]) 2 rfl (by decide) rfl rfl dX4_weigh_182 rfl ?_
            refine z_goto 7 dX4_weigh_185 (by decide) ?_
            exact z_Wp.sub (ls' := [(0, zR 67), (1, zR 57), (2, zI ((F_J_max_7cf53 ((F_W_pop_67 wu).2) u2 ((Int.tmod (wu 68 u2.toNat) 10000) - 1)) + 1))]) (ih _ _ h k) (z_sub_of [0, 1, 2] rfl)
        · skip
          have c0 : ¬ (Int.tdiv (wu 68 u2.toNat) 10000) = 0 := c0
          have h := h.2 c0
          rw [if_neg c0] at k
          have c1 : ¬ (Int.tdiv (wu 68 u2.toNat) 10000) = 1 := c1
          have h := h.2 c1
          rw [if_neg c1] at k
          have c2 : ¬ (Int.tdiv (wu 68 u2.toNat) 10000) = 2 := c2
          have h := h.2 c2
          rw [if_neg c2] at k
          have c3 : ¬ (Int.tdiv (wu 68 u2.toNat) 10000) = 3 := c3
          have h := h.2 c3
          rw [if_neg c3] at k
          have c4 : Int.tdiv (wu 68 u2.toNat) 10000 = 33 := c4
          have h := h.1 c4
          rw [if_pos c4] at k
          refine z_aload_n (pc' := 144) 0 rfl rfl dX4_weigh_143 rfl ?_
          refine z_aload_n (pc' := 145) 0 rfl rfl dX4_weigh_144 rfl ?_
          refine z_invV (as := []) (st := [zR 67]) (C := m_X4_pop) (fs := [70, 71, 0, 0]) (pc' := 148) dX4_weigh_145 rfl t_4_105 k_X4_pop rfl (by decide) rfl rfl rfl rfl (Nat.le_of_ble_eq_true rfl) ?_
          obtain ⟨r37, h⟩ := h
          refine c_W_pop_67 r37 ?_
          show z_Wp m_X4_weigh _ 148 [(0, zR 67), (1, zR 57), (2, zI u2), (3, zI (Int.tdiv (wu 68 u2.toNat) 10000)), (4, zI (Int.tmod (wu 68 u2.toNat) 10000))] [zI ((F_W_pop_67 wu).1), zR 67] ((F_W_pop_67 wu).2) _
          obtain ⟨r38, h⟩ := h
          refine z_if_ne 155 dX4_weigh_148 (by decide) (pc' := 151) rfl r38 (fun c => ?_) (fun c => ?_)
          · have h := h.2 c
            rw [if_neg c] at k
            refine z_iconst (pc' := 156) dX4_weigh_155 rfl ?_
            refine z_invV (as := [zI 0]) (st := []) (C := m_X4_push) (fs := [70, 71, 0, 0]) (pc' := 159) dX4_weigh_156 rfl t_4_101 k_X4_push rfl (by decide) rfl rfl rfl rfl (Nat.le_of_ble_eq_true rfl) ?_
            obtain ⟨r39, h⟩ := h
            refine c_W_push_67 r39 ?_
            show z_Wp m_X4_weigh _ 159 [(0, zR 67), (1, zR 57), (2, zI u2), (3, zI (Int.tdiv (wu 68 u2.toNat) 10000)), (4, zI (Int.tmod (wu 68 u2.toNat) 10000))] [] (F_W_push_67 ((F_W_pop_67 wu).2) 0) _
            refine z_goto 182 dX4_weigh_159 (by decide) ?_
            refine z_iinc (pc' := 185) (ls' := [(0, zR 67), (1, zR 57), (2, zI (u2 + 1)), (3, zI (Int.tdiv (wu 68 u2.toNat) 10000)), (4, zI (Int.tmod (wu 68 u2.toNat) 10000))]) 2 rfl (by decide) rfl rfl dX4_weigh_182 rfl ?_
            refine z_goto 7 dX4_weigh_185 (by decide) ?_
            exact z_Wp.sub (ls' := [(0, zR 67), (1, zR 57), (2, zI (u2 + 1))]) (ih _ _ h k) (z_sub_of [0, 1, 2] rfl)
          · have h := h.1 c
            rw [if_pos c] at k
            refine z_iconst (pc' := 152) dX4_weigh_151 rfl ?_
            refine z_goto 156 dX4_weigh_152 (by decide) ?_
            refine z_invV (as := [zI 1]) (st := []) (C := m_X4_push) (fs := [70, 71, 0, 0]) (pc' := 159) dX4_weigh_156 rfl t_4_101 k_X4_push rfl (by decide) rfl rfl rfl rfl (Nat.le_of_ble_eq_true rfl) ?_
            obtain ⟨r40, h⟩ := h
            refine c_W_push_67 r40 ?_
            show z_Wp m_X4_weigh _ 159 [(0, zR 67), (1, zR 57), (2, zI u2), (3, zI (Int.tdiv (wu 68 u2.toNat) 10000)), (4, zI (Int.tmod (wu 68 u2.toNat) 10000))] [] (F_W_push_67 ((F_W_pop_67 wu).2) 1) _
            refine z_goto 182 dX4_weigh_159 (by decide) ?_
            refine z_iinc (pc' := 185) (ls' := [(0, zR 67), (1, zR 57), (2, zI (u2 + 1)), (3, zI (Int.tdiv (wu 68 u2.toNat) 10000)), (4, zI (Int.tmod (wu 68 u2.toNat) 10000))]) 2 rfl (by decide) rfl rfl dX4_weigh_182 rfl ?_
            refine z_goto 7 dX4_weigh_185 (by decide) ?_
            exact z_Wp.sub (ls' := [(0, zR 67), (1, zR 57), (2, zI (u2 + 1))]) (ih _ _ h k) (z_sub_of [0, 1, 2] rfl)
        · skip
          have c0 : ¬ (Int.tdiv (wu 68 u2.toNat) 10000) = 0 := c0
          have h := h.2 c0
          rw [if_neg c0] at k
          have c1 : ¬ (Int.tdiv (wu 68 u2.toNat) 10000) = 1 := c1
          have h := h.2 c1
          rw [if_neg c1] at k
          have c2 : ¬ (Int.tdiv (wu 68 u2.toNat) 10000) = 2 := c2
          have h := h.2 c2
          rw [if_neg c2] at k
          have c3 : ¬ (Int.tdiv (wu 68 u2.toNat) 10000) = 3 := c3
          have h := h.2 c3
          rw [if_neg c3] at k
          have c4 : ¬ (Int.tdiv (wu 68 u2.toNat) 10000) = 33 := c4
          have h := h.2 c4
          rw [if_neg c4] at k
          refine z_aload_n (pc' := 163) 0 rfl rfl dX4_weigh_162 rfl ?_
          refine z_invV (as := []) (st := []) (C := m_X4_pop) (fs := [70, 71, 0, 0]) (pc' := 166) dX4_weigh_163 rfl t_4_105 k_X4_pop rfl (by decide) rfl rfl rfl rfl (Nat.le_of_ble_eq_true rfl) ?_
          obtain ⟨r41, h⟩ := h
          refine c_W_pop_67 r41 ?_
          show z_Wp m_X4_weigh _ 166 [(0, zR 67), (1, zR 57), (2, zI u2), (3, zI (Int.tdiv (wu 68 u2.toNat) 10000)), (4, zI (Int.tmod (wu 68 u2.toNat) 10000))] [zI ((F_W_pop_67 wu).1)] ((F_W_pop_67 wu).2) _
          refine z_istore (pc' := 168) (ls' := [(0, zR 67), (1, zR 57), (2, zI u2), (3, zI (Int.tdiv (wu 68 u2.toNat) 10000)), (4, zI (Int.tmod (wu 68 u2.toNat) 10000)), (5, zI ((F_W_pop_67 wu).1))]) (by decide) rfl rfl dX4_weigh_166 rfl ?_
          refine z_aload_n (pc' := 169) 0 rfl rfl dX4_weigh_168 rfl ?_
          refine z_iload_n (pc' := 170) 3 rfl rfl dX4_weigh_169 rfl ?_
          refine z_aload_n (pc' := 171) 0 rfl rfl dX4_weigh_170 rfl ?_
          refine z_invV (as := []) (st := [zI (Int.tdiv (wu 68 u2.toNat) 10000), zR 67]) (C := m_X4_pop) (fs := [70, 71, 0, 0]) (pc' := 174) dX4_weigh_171 rfl t_4_105 k_X4_pop rfl (by decide) rfl rfl rfl rfl (Nat.le_of_ble_eq_true rfl) ?_
          obtain ⟨r42, h⟩ := h
          refine c_W_pop_67 r42 ?_
          show z_Wp m_X4_weigh _ 174 [(0, zR 67), (1, zR 57), (2, zI u2), (3, zI (Int.tdiv (wu 68 u2.toNat) 10000)), (4, zI (Int.tmod (wu 68 u2.toNat) 10000)), (5, zI ((F_W_pop_67 wu).1))] [zI ((F_W_pop_67 ((F_W_pop_67 wu).2)).1), zI (Int.tdiv (wu 68 u2.toNat) 10000), zR 67] ((F_W_pop_67 ((F_W_pop_67 wu).2)).2) _
          refine z_iload (pc' := 176) 5 rfl dX4_weigh_174 rfl ?_
          refine z_invS (as := [zI (Int.tdiv (wu 68 u2.toNat) 10000), zI ((F_W_pop_67 ((F_W_pop_67 wu).2)).1), zI ((F_W_pop_67 wu).1)]) (st := [zR 67]) (C := m_X4_join) (pc' := 179) dX4_weigh_176 rfl t_4_110 k_X4_join rfl rfl (Nat.le_of_ble_eq_true rfl) ?_
          obtain ⟨r43, h⟩ := h
          refine c_W_join r43 ?_
          show z_Wp m_X4_weigh _ 179 [(0, zR 67), (1, zR 57), (2, zI u2), (3, zI (Int.tdiv (wu 68 u2.toNat) 10000)), (4, zI (Int.tmod (wu 68 u2.toNat) 10000)), (5, zI ((F_W_pop_67 wu).1))] [zI (F_W_join ((F_W_pop_67 ((F_W_pop_67 wu).2)).2) (Int.tdiv (wu 68 u2.toNat) 10000) ((F_W_pop_67 ((F_W_pop_67 wu).2)).1) ((F_W_pop_67 wu).1)), zR 67] ((F_W_pop_67 ((F_W_pop_67 wu).2)).2) _
          refine z_invV (as := [zI (F_W_join ((F_W_pop_67 ((F_W_pop_67 wu).2)).2) (Int.tdiv (wu 68 u2.toNat) 10000) ((F_W_pop_67 ((F_W_pop_67 wu).2)).1) ((F_W_pop_67 wu).1))]) (st := []) (C := m_X4_push) (fs := [70, 71, 0, 0]) (pc' := 182) dX4_weigh_179 rfl t_4_101 k_X4_push rfl (by decide) rfl rfl rfl rfl (Nat.le_of_ble_eq_true rfl) ?_
          obtain ⟨r44, h⟩ := h
          refine c_W_push_67 r44 ?_
          show z_Wp m_X4_weigh _ 182 [(0, zR 67), (1, zR 57), (2, zI u2), (3, zI (Int.tdiv (wu 68 u2.toNat) 10000)), (4, zI (Int.tmod (wu 68 u2.toNat) 10000)), (5, zI ((F_W_pop_67 wu).1))] [] (F_W_push_67 ((F_W_pop_67 ((F_W_pop_67 wu).2)).2) (F_W_join ((F_W_pop_67 ((F_W_pop_67 wu).2)).2) (Int.tdiv (wu 68 u2.toNat) 10000) ((F_W_pop_67 ((F_W_pop_67 wu).2)).1) ((F_W_pop_67 wu).1))) _
          refine z_iinc (pc' := 185) (ls' := [(0, zR 67), (1, zR 57), (2, zI (u2 + 1)), (3, zI (Int.tdiv (wu 68 u2.toNat) 10000)), (4, zI (Int.tmod (wu 68 u2.toNat) 10000)), (5, zI ((F_W_pop_67 wu).1))]) 2 rfl (by decide) rfl rfl dX4_weigh_182 rfl ?_
          refine z_goto 7 dX4_weigh_185 (by decide) ?_
          exact z_Wp.sub (ls' := [(0, zR 67), (1, zR 57), (2, zI (u2 + 1))]) (ih _ _ h k) (z_sub_of [0, 1, 2] rfl)
  exact hl 300 _ _ h k
