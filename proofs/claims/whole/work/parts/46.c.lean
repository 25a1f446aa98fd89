def P_D_rests (w : z_Wd) (a0 : Int) (a1 : Int) (a2 : Int) (a3 : Int) : Prop := (P_D_canPlay w a0 a1 a2) ∧ ((F_D_canPlay w a0 a1 a2 = 0 → True) ∧ (¬ (F_D_canPlay w a0 a1 a2 = 0) → (P_N_setUp w a2) ∧ (-2147483648 ≤ a3 ∧ a3 < 2147483648) ∧ ((a3 = (-1) → P_N_restCount (F_N_setUp w a2) a0 a1) ∧ (¬ (a3 = (-1)) → P_N_restAt (F_N_setUp w a2) a0 a1 a3))))
def F_D_rests (w : z_Wd) (a0 : Int) (a1 : Int) (a2 : Int) (a3 : Int) : Int × z_Wd := if F_D_canPlay w a0 a1 a2 = 0 then ((-1), w) else if a3 = (-1) then (F_N_restCount (F_N_setUp w a2) a0 a1, F_N_setUp w a2) else (F_N_restAt (F_N_setUp w a2) a0 a1 a3, F_N_setUp w a2)
set_option maxRecDepth 4000 in
theorem c_D_rests {d : Nat} {w : z_Wd} {a0 a1 a2 a3 : Int} {Q : Option z_V → z_Wd → Prop} (h : P_D_rests w a0 a1 a2 a3) (k : Q (some (zI (F_D_rests w a0 a1 a2 a3).1)) (F_D_rests w a0 a1 a2 a3).2) : z_Wc (d + 5) m_X11_rests [zR 27, zI a0, zI a1, zI a2, zI a3] w Q := by
  unfold P_D_rests at h
  unfold F_D_rests at k
  refine z_enter rfl (Nat.le_of_ble_eq_true rfl) ?_
  show z_Wp m_X11_rests _ 0 [(0, zR 27), (1, zI a0), (2, zI a1), (3, zI a2), (4, zI a3)] [] w _
  refine z_aload_n (pc' := 1) 0 rfl rfl dX11_rests_0 rfl ?_
  refine z_iload_n (pc' := 2) 1 rfl rfl dX11_rests_1 rfl ?_
  refine z_iload_n (pc' := 3) 2 rfl rfl dX11_rests_2 rfl ?_
  refine z_iload_n (pc' := 4) 3 rfl rfl dX11_rests_3 rfl ?_
  refine z_invV (as := [zI a0, zI a1, zI a2]) (st := []) (C := m_X11_canPlay) (fs := [30, 32, 35, 39, 43, 49, 55, 57, 72, 74, 78, 80, 0, 0, 1]) (pc' := 7) dX11_rests_4 rfl t_5_62 k_X11_canPlay rfl (by decide) rfl rfl rfl rfl (Nat.le_of_ble_eq_true rfl) ?_
  obtain ⟨r1, h⟩ := h
  refine c_D_canPlay r1 ?_
  show z_Wp m_X11_rests _ 7 [(0, zR 27), (1, zI a0), (2, zI a1), (3, zI a2), (4, zI a3)] [zI (F_D_canPlay w a0 a1 a2)] w _
  refine z_if_ne 12 dX11_rests_7 (by decide) (pc' := 10) rfl (z_rb b_D_canPlay) (fun c => ?_) (fun c => ?_)
  · have h := h.2 c
    rw [if_neg c] at k
    refine z_aload_n (pc' := 13) 0 rfl rfl dX11_rests_12 rfl ?_
    refine z_getR (t := 76) (pc' := 16) g_X11_84 (by decide) rfl rfl dX11_rests_13 rfl ?_
    refine z_iload_n (pc' := 17) 3 rfl rfl dX11_rests_16 rfl ?_
    refine z_invV (as := [zI a2]) (st := []) (C := m_X8_setUp) (fs := [32, 43, 79]) (pc' := 20) dX11_rests_17 rfl t_5_67 k_X8_setUp rfl (by decide) rfl rfl rfl rfl (Nat.le_of_ble_eq_true rfl) ?_
    obtain ⟨r2, h⟩ := h
    refine c_N_setUp r2 ?_
    show z_Wp m_X11_rests _ 20 [(0, zR 27), (1, zI a0), (2, zI a1), (3, zI a2), (4, zI a3)] [] (F_N_setUp w a2) _
    refine z_iload (pc' := 22) 4 rfl dX11_rests_20 rfl ?_
    refine z_iconst (pc' := 23) dX11_rests_22 rfl ?_
    obtain ⟨r3, h⟩ := h
    refine z_icmp_ne 38 dX11_rests_23 (by decide) (pc' := 26) rfl r3 (by decide) (fun c => ?_) (fun c => ?_)
    · have h := h.2 c
      rw [if_neg c] at k
      refine z_aload_n (pc' := 39) 0 rfl rfl dX11_rests_38 rfl ?_
      refine z_getR (t := 76) (pc' := 42) g_X11_84 (by decide) rfl rfl dX11_rests_39 rfl ?_
      refine z_iload_n (pc' := 43) 1 rfl rfl dX11_rests_42 rfl ?_
      refine z_iload_n (pc' := 44) 2 rfl rfl dX11_rests_43 rfl ?_
      refine z_iload (pc' := 46) 4 rfl dX11_rests_44 rfl ?_
      refine z_invV (as := [zI a0, zI a1, zI a3]) (st := []) (C := m_X8_restAt) (fs := [32, 43, 79]) (pc' := 49) dX11_rests_46 rfl t_5_92 k_X8_restAt rfl (by decide) rfl rfl rfl rfl (Nat.le_of_ble_eq_true rfl) ?_
      have r4 := h
      refine c_N_restAt r4 ?_
      show z_Wp m_X11_rests _ 49 [(0, zR 27), (1, zI a0), (2, zI a1), (3, zI a2), (4, zI a3)] [zI (F_N_restAt (F_N_setUp w a2) a0 a1 a3)] (F_N_setUp w a2) _
      refine z_iret rfl dX11_rests_49 ?_
      exact k
    · have h := h.1 c
      rw [if_pos c] at k
      refine z_aload_n (pc' := 27) 0 rfl rfl dX11_rests_26 rfl ?_
      refine z_getR (t := 76) (pc' := 30) g_X11_84 (by decide) rfl rfl dX11_rests_27 rfl ?_
      refine z_iload_n (pc' := 31) 1 rfl rfl dX11_rests_30 rfl ?_
      refine z_iload_n (pc' := 32) 2 rfl rfl dX11_rests_31 rfl ?_
      refine z_invV (as := [zI a0, zI a1]) (st := []) (C := m_X8_restCount) (fs := [32, 43, 79]) (pc' := 35) dX11_rests_32 rfl t_5_83 k_X8_restCount rfl (by decide) rfl rfl rfl rfl (Nat.le_of_ble_eq_true rfl) ?_
      have r5 := h
      refine c_N_restCount r5 ?_
      show z_Wp m_X11_rests _ 35 [(0, zR 27), (1, zI a0), (2, zI a1), (3, zI a2), (4, zI a3)] [zI (F_N_restCount (F_N_setUp w a2) a0 a1)] (F_N_setUp w a2) _
      refine z_goto 49 dX11_rests_35 (by decide) ?_
      refine z_iret rfl dX11_rests_49 ?_
      exact k
  · have h := h.1 c
    rw [if_pos c] at k
    refine z_iconst (pc' := 11) dX11_rests_10 rfl ?_
    refine z_iret rfl dX11_rests_11 ?_
    exact k
