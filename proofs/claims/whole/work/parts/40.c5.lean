def P_D_scratchByDraws (w : z_Wd)  : Prop := (P_D_draw w 10) ∧ (-2147483648 ≤ (F_D_draw w 10).1 ∧ (F_D_draw w 10).1 < 2147483648) ∧ (-2147483648 ≤ ((F_D_draw w 10).2) 27 12 ∧ ((F_D_draw w 10).2) 27 12 < 2147483648) ∧ (((F_D_draw w 10).1 ≥ ((F_D_draw w 10).2) 27 12 → True) ∧ (¬ ((F_D_draw w 10).1 ≥ ((F_D_draw w 10).2) 27 12) → (P_D_draw ((F_D_draw w 10).2) (((F_D_draw w 10).2) 32 1)) ∧ (P_D_draw ((F_D_draw ((F_D_draw w 10).2) (((F_D_draw w 10).2) 32 1)).2) 9) ∧ (P_K_scratchUp ((F_D_draw ((F_D_draw ((F_D_draw w 10).2) (((F_D_draw w 10).2) 32 1)).2) 9).2) ((F_D_draw ((F_D_draw w 10).2) (((F_D_draw w 10).2) 32 1)).1) (((F_D_draw ((F_D_draw ((F_D_draw w 10).2) (((F_D_draw w 10).2) 32 1)).2) 9).1) + 1))))
def F_D_scratchByDraws (w : z_Wd)  : z_Wd := if (F_D_draw w 10).1 ≥ ((F_D_draw w 10).2) 27 12 then (F_D_draw w 10).2 else (F_K_scratchUp ((F_D_draw ((F_D_draw ((F_D_draw w 10).2) (((F_D_draw w 10).2) 32 1)).2) 9).2) ((F_D_draw ((F_D_draw w 10).2) (((F_D_draw w 10).2) 32 1)).1) (((F_D_draw ((F_D_draw ((F_D_draw w 10).2) (((F_D_draw w 10).2) 32 1)).2) 9).1) + 1)).2
set_option maxRecDepth 4000 in
theorem c_D_scratchByDraws {d : Nat} {w : z_Wd} {Q : Option z_V → z_Wd → Prop} (h : P_D_scratchByDraws w ) (k : Q none (F_D_scratchByDraws w )) : z_Wc (d + 5) m_X11_scratchByDraws [zR 27] w Q := by
  unfold P_D_scratchByDraws at h
  unfold F_D_scratchByDraws at k
  refine z_enter rfl (Nat.le_of_ble_eq_true rfl) ?_
  show z_Wp m_X11_scratchByDraws _ 0 [(0, zR 27)] [] w _
  refine z_aload_n (pc' := 1) 0 rfl rfl dX11_scratchByDraws_0 rfl ?_
  refine z_bipush (pc' := 3) (by decide) dX11_scratchByDraws_1 rfl ?_
  refine z_invV (as := [zI 10]) (st := []) (C := m_X11_draw) (fs := [30, 32, 35, 39, 43, 49, 55, 57, 72, 74, 78, 80, 0, 0, 1]) (pc' := 6) dX11_scratchByDraws_3 rfl t_4_151 k_X11_draw rfl (by decide) rfl rfl rfl rfl (Nat.le_of_ble_eq_true rfl) ?_
  obtain ⟨r1, h⟩ := h
  refine c_D_draw r1 ?_
  show z_Wp m_X11_scratchByDraws _ 6 [(0, zR 27)] [zI ((F_D_draw w 10).1)] ((F_D_draw w 10).2) _
  refine z_aload_n (pc' := 7) 0 rfl rfl dX11_scratchByDraws_6 rfl ?_
  refine z_getI2 (v := ((F_D_draw w 10).2) 27 12) (pc' := 10) g_X11_92 (by decide) rfl rfl rfl dX11_scratchByDraws_7 rfl ?_
  obtain ⟨r2, h⟩ := h
  obtain ⟨r3, h⟩ := h
  refine z_icmp_ge 44 dX11_scratchByDraws_10 (by decide) (pc' := 13) rfl r2 r3 (fun c => ?_) (fun c => ?_)
  · have h := h.1 c
    rw [if_pos c] at k
    refine z_vret rfl dX11_scratchByDraws_44 ?_
    exact k
  · have h := h.2 c
    rw [if_neg c] at k
    refine z_aload_n (pc' := 14) 0 rfl rfl dX11_scratchByDraws_13 rfl ?_
    refine z_aload_n (pc' := 15) 0 rfl rfl dX11_scratchByDraws_14 rfl ?_
    refine z_getR (t := 30) (pc' := 18) g_X11_19 (by decide) rfl rfl dX11_scratchByDraws_15 rfl ?_
    refine z_invV (as := []) (st := [zR 27]) (C := m_X6_wells) (fs := [33, 34]) (pc' := 21) dX11_scratchByDraws_18 rfl t_4_157 k_X6_wells rfl (by decide) rfl rfl rfl rfl (Nat.le_of_ble_eq_true rfl) ?_
    refine c_Y_wells ?_
    show z_Wp m_X11_scratchByDraws _ 21 [(0, zR 27)] [zI (((F_D_draw w 10).2) 32 1), zR 27] ((F_D_draw w 10).2) _
    refine z_invV (as := [zI (((F_D_draw w 10).2) 32 1)]) (st := []) (C := m_X11_draw) (fs := [30, 32, 35, 39, 43, 49, 55, 57, 72, 74, 78, 80, 0, 0, 1]) (pc' := 24) dX11_scratchByDraws_21 rfl t_4_151 k_X11_draw rfl (by decide) rfl rfl rfl rfl (Nat.le_of_ble_eq_true rfl) ?_
    obtain ⟨r4, h⟩ := h
    refine c_D_draw r4 ?_
    show z_Wp m_X11_scratchByDraws _ 24 [(0, zR 27)] [zI ((F_D_draw ((F_D_draw w 10).2) (((F_D_draw w 10).2) 32 1)).1)] ((F_D_draw ((F_D_draw w 10).2) (((F_D_draw w 10).2) 32 1)).2) _
    refine z_istore_n (pc' := 25) (ls' := [(0, zR 27), (1, zI ((F_D_draw ((F_D_draw w 10).2) (((F_D_draw w 10).2) 32 1)).1))]) rfl (by decide) rfl rfl dX11_scratchByDraws_24 rfl ?_
    refine z_aload_n (pc' := 26) 0 rfl rfl dX11_scratchByDraws_25 rfl ?_
    refine z_bipush (pc' := 28) (by decide) dX11_scratchByDraws_26 rfl ?_
    refine z_invV (as := [zI 9]) (st := []) (C := m_X11_draw) (fs := [30, 32, 35, 39, 43, 49, 55, 57, 72, 74, 78, 80, 0, 0, 1]) (pc' := 31) dX11_scratchByDraws_28 rfl t_4_151 k_X11_draw rfl (by decide) rfl rfl rfl rfl (Nat.le_of_ble_eq_true rfl) ?_
    obtain ⟨r5, h⟩ := h
    refine c_D_draw r5 ?_
    show z_Wp m_X11_scratchByDraws _ 31 [(0, zR 27), (1, zI ((F_D_draw ((F_D_draw w 10).2) (((F_D_draw w 10).2) 32 1)).1))] [zI ((F_D_draw ((F_D_draw ((F_D_draw w 10).2) (((F_D_draw w 10).2) 32 1)).2) 9).1)] ((F_D_draw ((F_D_draw ((F_D_draw w 10).2) (((F_D_draw w 10).2) 32 1)).2) 9).2) _
    refine z_iconst (pc' := 32) dX11_scratchByDraws_31 rfl ?_
    refine z_iadd (pc' := 33) dX11_scratchByDraws_32 rfl ?_
    refine z_istore_n (pc' := 34) (ls' := [(0, zR 27), (1, zI ((F_D_draw ((F_D_draw w 10).2) (((F_D_draw w 10).2) 32 1)).1)), (2, zI (((F_D_draw ((F_D_draw ((F_D_draw w 10).2) (((F_D_draw w 10).2) 32 1)).2) 9).1) + 1))]) rfl (by decide) rfl rfl dX11_scratchByDraws_33 rfl ?_
    refine z_aload_n (pc' := 35) 0 rfl rfl dX11_scratchByDraws_34 rfl ?_
    refine z_getR (t := 41) (pc' := 38) g_X11_44 (by decide) rfl rfl dX11_scratchByDraws_35 rfl ?_
    refine z_iload_n (pc' := 39) 1 rfl rfl dX11_scratchByDraws_38 rfl ?_
    refine z_iload_n (pc' := 40) 2 rfl rfl dX11_scratchByDraws_39 rfl ?_
    refine z_invV (as := [zI ((F_D_draw ((F_D_draw w 10).2) (((F_D_draw w 10).2) 32 1)).1), zI (((F_D_draw ((F_D_draw ((F_D_draw w 10).2) (((F_D_draw w 10).2) 32 1)).2) 9).1) + 1)]) (st := []) (C := m_X3_scratchUp) (fs := [32, 44, 45, 46, 47, 48, 0, 0, 0]) (pc' := 43) dX11_scratchByDraws_40 rfl t_3_235 k_X3_scratchUp rfl (by decide) rfl rfl rfl rfl (Nat.le_of_ble_eq_true rfl) ?_
    have r6 := h
    refine c_K_scratchUp r6 ?_
    show z_Wp m_X11_scratchByDraws _ 43 [(0, zR 27), (1, zI ((F_D_draw ((F_D_draw w 10).2) (((F_D_draw w 10).2) 32 1)).1)), (2, zI (((F_D_draw ((F_D_draw ((F_D_draw w 10).2) (((F_D_draw w 10).2) 32 1)).2) 9).1) + 1))] [zI ((F_K_scratchUp ((F_D_draw ((F_D_draw ((F_D_draw w 10).2) (((F_D_draw w 10).2) 32 1)).2) 9).2) ((F_D_draw ((F_D_draw w 10).2) (((F_D_draw w 10).2) 32 1)).1) (((F_D_draw ((F_D_draw ((F_D_draw w 10).2) (((F_D_draw w 10).2) 32 1)).2) 9).1) + 1)).1)] ((F_K_scratchUp ((F_D_draw ((F_D_draw ((F_D_draw w 10).2) (((F_D_draw w 10).2) 32 1)).2) 9).2) ((F_D_draw ((F_D_draw w 10).2) (((F_D_draw w 10).2) 32 1)).1) (((F_D_draw ((F_D_draw ((F_D_draw w 10).2) (((F_D_draw w 10).2) 32 1)).2) 9).1) + 1)).2) _
    refine z_pop (pc' := 44) rfl dX11_scratchByDraws_43 rfl ?_
    refine z_vret rfl dX11_scratchByDraws_44 ?_
    exact k
def P_D_gone (w : z_Wd) (a0 : Int) (a1 : Int) : Prop := (P_C_canAsk w a0) ∧ ((F_C_canAsk w a0 = 0 → True) ∧ (¬ (F_C_canAsk w a0 = 0) → (-2147483648 ≤ a1 ∧ a1 < 2147483648) ∧ ((a1 = (-1) → P_C_sets w a0) ∧ (¬ (a1 = (-1)) → P_C_setAt w a0 a1))))
def F_D_gone (w : z_Wd) (a0 : Int) (a1 : Int) : Int := if F_C_canAsk w a0 = 0 then (-1) else if a1 = (-1) then F_C_sets w a0 else F_C_setAt w a0 a1
set_option maxRecDepth 4000 in
theorem c_D_gone {d : Nat} {w : z_Wd} {a0 a1 : Int} {Q : Option z_V → z_Wd → Prop} (h : P_D_gone w a0 a1) (k : Q (some (zI (F_D_gone w a0 a1))) w) : z_Wc (d + 5) m_X11_gone [zR 27, zI a0, zI a1] w Q := by
  unfold P_D_gone at h
  unfold F_D_gone at k
  refine z_enter rfl (Nat.le_of_ble_eq_true rfl) ?_
  show z_Wp m_X11_gone _ 0 [(0, zR 27), (1, zI a0), (2, zI a1)] [] w _
  refine z_aload_n (pc' := 1) 0 rfl rfl dX11_gone_0 rfl ?_
  refine z_getR (t := 72) (pc' := 4) g_X11_77 (by decide) rfl rfl dX11_gone_1 rfl ?_
  refine z_iload_n (pc' := 5) 1 rfl rfl dX11_gone_4 rfl ?_
  refine z_invV (as := [zI a0]) (st := []) (C := m_X0_canAsk) (fs := [32, 75, 76, 77, 0]) (pc' := 8) dX11_gone_5 rfl t_5_24 k_X0_canAsk rfl (by decide) rfl rfl rfl rfl (Nat.le_of_ble_eq_true rfl) ?_
  obtain ⟨r1, h⟩ := h
  refine c_C_canAsk r1 ?_
  show z_Wp m_X11_gone _ 8 [(0, zR 27), (1, zI a0), (2, zI a1)] [zI (F_C_canAsk w a0)] w _
  refine z_if_ne 13 dX11_gone_8 (by decide) (pc' := 11) rfl (z_rb b_C_canAsk) (fun c => ?_) (fun c => ?_)
  · have h := h.2 c
    rw [if_neg c] at k
    refine z_iload_n (pc' := 14) 2 rfl rfl dX11_gone_13 rfl ?_
    refine z_iconst (pc' := 15) dX11_gone_14 rfl ?_
    obtain ⟨r2, h⟩ := h
    refine z_icmp_ne 29 dX11_gone_15 (by decide) (pc' := 18) rfl r2 (by decide) (fun c => ?_) (fun c => ?_)
    · have h := h.2 c
      rw [if_neg c] at k
      refine z_aload_n (pc' := 30) 0 rfl rfl dX11_gone_29 rfl ?_
      refine z_getR (t := 72) (pc' := 33) g_X11_77 (by decide) rfl rfl dX11_gone_30 rfl ?_
      refine z_iload_n (pc' := 34) 1 rfl rfl dX11_gone_33 rfl ?_
      refine z_iload_n (pc' := 35) 2 rfl rfl dX11_gone_34 rfl ?_
      refine z_invV (as := [zI a0, zI a1]) (st := []) (C := m_X0_setAt) (fs := [32, 75, 76, 77, 0]) (pc' := 38) dX11_gone_35 rfl t_5_40 k_X0_setAt rfl (by decide) rfl rfl rfl rfl (Nat.le_of_ble_eq_true rfl) ?_
      have r3 := h
      refine c_C_setAt r3 ?_
      show z_Wp m_X11_gone _ 38 [(0, zR 27), (1, zI a0), (2, zI a1)] [zI (F_C_setAt w a0 a1)] w _
      refine z_iret rfl dX11_gone_38 ?_
      exact k
    · have h := h.1 c
      rw [if_pos c] at k
      refine z_aload_n (pc' := 19) 0 rfl rfl dX11_gone_18 rfl ?_
      refine z_getR (t := 72) (pc' := 22) g_X11_77 (by decide) rfl rfl dX11_gone_19 rfl ?_
      refine z_iload_n (pc' := 23) 1 rfl rfl dX11_gone_22 rfl ?_
      refine z_invV (as := [zI a0]) (st := []) (C := m_X0_sets) (fs := [32, 75, 76, 77, 0]) (pc' := 26) dX11_gone_23 rfl t_5_29 k_X0_sets rfl (by decide) rfl rfl rfl rfl (Nat.le_of_ble_eq_true rfl) ?_
      have r4 := h
      refine c_C_sets r4 ?_
      show z_Wp m_X11_gone _ 26 [(0, zR 27), (1, zI a0), (2, zI a1)] [zI (F_C_sets w a0)] w _
      refine z_goto 38 dX11_gone_26 (by decide) ?_
      refine z_iret rfl dX11_gone_38 ?_
      exact k
  · have h := h.1 c
    rw [if_pos c] at k
    refine z_iconst (pc' := 12) dX11_gone_11 rfl ?_
    refine z_iret rfl dX11_gone_12 ?_
    exact k
def P_D_sure (w : z_Wd) (a0 : Int) : Prop := (P_C_canAsk w a0) ∧ ((F_C_canAsk w a0 = 0 → True) ∧ (¬ (F_C_canAsk w a0 = 0) → P_C_inAll w a0))
def F_D_sure (w : z_Wd) (a0 : Int) : Int := if F_C_canAsk w a0 = 0 then (-1) else F_C_inAll w a0
set_option maxRecDepth 4000 in
theorem c_D_sure {d : Nat} {w : z_Wd} {a0 : Int} {Q : Option z_V → z_Wd → Prop} (h : P_D_sure w a0) (k : Q (some (zI (F_D_sure w a0))) w) : z_Wc (d + 5) m_X11_sure [zR 27, zI a0] w Q := by
  unfold P_D_sure at h
  unfold F_D_sure at k
  refine z_enter rfl (Nat.le_of_ble_eq_true rfl) ?_
  show z_Wp m_X11_sure _ 0 [(0, zR 27), (1, zI a0)] [] w _
  refine z_aload_n (pc' := 1) 0 rfl rfl dX11_sure_0 rfl ?_
  refine z_getR (t := 72) (pc' := 4) g_X11_77 (by decide) rfl rfl dX11_sure_1 rfl ?_
  refine z_iload_n (pc' := 5) 1 rfl rfl dX11_sure_4 rfl ?_
  refine z_invV (as := [zI a0]) (st := []) (C := m_X0_canAsk) (fs := [32, 75, 76, 77, 0]) (pc' := 8) dX11_sure_5 rfl t_5_24 k_X0_canAsk rfl (by decide) rfl rfl rfl rfl (Nat.le_of_ble_eq_true rfl) ?_
  obtain ⟨r1, h⟩ := h
  refine c_C_canAsk r1 ?_
  show z_Wp m_X11_sure _ 8 [(0, zR 27), (1, zI a0)] [zI (F_C_canAsk w a0)] w _
  refine z_if_eq 22 dX11_sure_8 (by decide) (pc' := 11) rfl (z_rb b_C_canAsk) (fun c => ?_) (fun c => ?_)
  · have h := h.1 c
    rw [if_pos c] at k
    refine z_iconst (pc' := 23) dX11_sure_22 rfl ?_
    refine z_iret rfl dX11_sure_23 ?_
    exact k
  · have h := h.2 c
    rw [if_neg c] at k
    refine z_aload_n (pc' := 12) 0 rfl rfl dX11_sure_11 rfl ?_
    refine z_getR (t := 72) (pc' := 15) g_X11_77 (by decide) rfl rfl dX11_sure_12 rfl ?_
    refine z_iload_n (pc' := 16) 1 rfl rfl dX11_sure_15 rfl ?_
    refine z_invV (as := [zI a0]) (st := []) (C := m_X0_inAll) (fs := [32, 75, 76, 77, 0]) (pc' := 19) dX11_sure_16 rfl t_5_48 k_X0_inAll rfl (by decide) rfl rfl rfl rfl (Nat.le_of_ble_eq_true rfl) ?_
    have r2 := h
    refine c_C_inAll r2 ?_
    show z_Wp m_X11_sure _ 19 [(0, zR 27), (1, zI a0)] [zI (F_C_inAll w a0)] w _
    refine z_goto 23 dX11_sure_19 (by decide) ?_
    refine z_iret rfl dX11_sure_23 ?_
    exact k
def P_D_ask (w : z_Wd) (a0 : Int) : Prop := (P_C_canAsk w a0) ∧ ((F_C_canAsk w a0 = 0 → True) ∧ (¬ (F_C_canAsk w a0 = 0) → (P_C_sets w a0) ∧ (-2147483648 ≤ F_C_sets w a0 ∧ F_C_sets w a0 < 2147483648) ∧ ((F_C_sets w a0 ≤ 0 → True) ∧ (¬ (F_C_sets w a0 ≤ 0) → P_C_bestFile w a0))))
def F_D_ask (w : z_Wd) (a0 : Int) : Int × z_Wd := if F_C_canAsk w a0 = 0 then ((-1), w) else if F_C_sets w a0 ≤ 0 then ((-1), w) else ((F_C_bestFile w a0).1, (F_C_bestFile w a0).2)
set_option maxRecDepth 4000 in
theorem c_D_ask {d : Nat} {w : z_Wd} {a0 : Int} {Q : Option z_V → z_Wd → Prop} (h : P_D_ask w a0) (k : Q (some (zI (F_D_ask w a0).1)) (F_D_ask w a0).2) : z_Wc (d + 6) m_X11_ask [zR 27, zI a0] w Q := by
  unfold P_D_ask at h
  unfold F_D_ask at k
  refine z_enter rfl (Nat.le_of_ble_eq_true rfl) ?_
  show z_Wp m_X11_ask _ 0 [(0, zR 27), (1, zI a0)] [] w _
  refine z_aload_n (pc' := 1) 0 rfl rfl dX11_ask_0 rfl ?_
  refine z_getR (t := 72) (pc' := 4) g_X11_77 (by decide) rfl rfl dX11_ask_1 rfl ?_
  refine z_iload_n (pc' := 5) 1 rfl rfl dX11_ask_4 rfl ?_
  refine z_invV (as := [zI a0]) (st := []) (C := m_X0_canAsk) (fs := [32, 75, 76, 77, 0]) (pc' := 8) dX11_ask_5 rfl t_5_24 k_X0_canAsk rfl (by decide) rfl rfl rfl rfl (Nat.le_of_ble_eq_true rfl) ?_
  obtain ⟨r1, h⟩ := h
  refine c_C_canAsk r1 ?_
  show z_Wp m_X11_ask _ 8 [(0, zR 27), (1, zI a0)] [zI (F_C_canAsk w a0)] w _
  refine z_if_eq 33 dX11_ask_8 (by decide) (pc' := 11) rfl (z_rb b_C_canAsk) (fun c => ?_) (fun c => ?_)
  · have h := h.1 c
    rw [if_pos c] at k
    refine z_iconst (pc' := 34) dX11_ask_33 rfl ?_
    refine z_iret rfl dX11_ask_34 ?_
    exact k
  · have h := h.2 c
    rw [if_neg c] at k
    refine z_aload_n (pc' := 12) 0 rfl rfl dX11_ask_11 rfl ?_
    refine z_getR (t := 72) (pc' := 15) g_X11_77 (by decide) rfl rfl dX11_ask_12 rfl ?_
    refine z_iload_n (pc' := 16) 1 rfl rfl dX11_ask_15 rfl ?_
    refine z_invV (as := [zI a0]) (st := []) (C := m_X0_sets) (fs := [32, 75, 76, 77, 0]) (pc' := 19) dX11_ask_16 rfl t_5_29 k_X0_sets rfl (by decide) rfl rfl rfl rfl (Nat.le_of_ble_eq_true rfl) ?_
    obtain ⟨r2, h⟩ := h
    refine c_C_sets r2 ?_
    show z_Wp m_X11_ask _ 19 [(0, zR 27), (1, zI a0)] [zI (F_C_sets w a0)] w _
    obtain ⟨r3, h⟩ := h
    refine z_if_le 33 dX11_ask_19 (by decide) (pc' := 22) rfl r3 (fun c => ?_) (fun c => ?_)
    · have h := h.1 c
      rw [if_pos c] at k
      refine z_iconst (pc' := 34) dX11_ask_33 rfl ?_
      refine z_iret rfl dX11_ask_34 ?_
      exact k
    · have h := h.2 c
      rw [if_neg c] at k
      refine z_aload_n (pc' := 23) 0 rfl rfl dX11_ask_22 rfl ?_
      refine z_getR (t := 72) (pc' := 26) g_X11_77 (by decide) rfl rfl dX11_ask_23 rfl ?_
      refine z_iload_n (pc' := 27) 1 rfl rfl dX11_ask_26 rfl ?_
      refine z_invV (as := [zI a0]) (st := []) (C := m_X0_bestFile) (fs := [32, 75, 76, 77, 0]) (pc' := 30) dX11_ask_27 rfl t_5_56 k_X0_bestFile rfl (by decide) rfl rfl rfl rfl (Nat.le_of_ble_eq_true rfl) ?_
      have r4 := h
      refine c_C_bestFile r4 ?_
      show z_Wp m_X11_ask _ 30 [(0, zR 27), (1, zI a0)] [zI ((F_C_bestFile w a0).1)] ((F_C_bestFile w a0).2) _
      refine z_goto 34 dX11_ask_30 (by decide) ?_
      refine z_iret rfl dX11_ask_34 ?_
      exact k
def P_Y_isWhole_34 (w : z_Wd)  : Prop := (-2147483648 ≤ w 36 1 ∧ w 36 1 < 2147483648) ∧ ((w 36 1 ≤ 0 → True) ∧ (¬ (w 36 1 ≤ 0) → (-2147483648 ≤ w 36 2 ∧ w 36 2 < 2147483648) ∧ ((w 36 2 < 2 → True) ∧ (¬ (w 36 2 < 2) → (P_Y_knowOthers_34 w) ∧ ((F_Y_knowOthers_34 w = 0 → True) ∧ (¬ (F_Y_knowOthers_34 w = 0) → P_Y_filesHoldTwo_34 w))))))
def F_Y_isWhole_34 (w : z_Wd)  : Int := if w 36 1 ≤ 0 then 0 else if w 36 2 < 2 then 0 else if F_Y_knowOthers_34 w = 0 then 0 else if F_Y_filesHoldTwo_34 w = 0 then 0 else 1
set_option maxRecDepth 4000 in
theorem c_Y_isWhole_34 {d : Nat} {w : z_Wd} {Q : Option z_V → z_Wd → Prop} (h : P_Y_isWhole_34 w ) (k : Q (some (zI (F_Y_isWhole_34 w ))) w) : z_Wc (d + 3) m_X6_isWhole [zR 34] w Q := by
  unfold P_Y_isWhole_34 at h
  unfold F_Y_isWhole_34 at k
  refine z_enter rfl (Nat.le_of_ble_eq_true rfl) ?_
  show z_Wp m_X6_isWhole _ 0 [(0, zR 34)] [] w _
  refine z_aload_n (pc' := 1) 0 rfl rfl dX6_isWhole_0 rfl ?_
  refine z_invV (as := []) (st := []) (C := m_X6_wells) (fs := [37, 38]) (pc' := 4) dX6_isWhole_1 rfl t_2_157 k_X6_wells rfl (by decide) rfl rfl rfl rfl (Nat.le_of_ble_eq_true rfl) ?_
  refine c_Y_wells_34 ?_
  show z_Wp m_X6_isWhole _ 4 [(0, zR 34)] [zI (w 36 1)] w _
  obtain ⟨r1, h⟩ := h
  refine z_if_le 33 dX6_isWhole_4 (by decide) (pc' := 7) rfl r1 (fun c => ?_) (fun c => ?_)
  · have h := h.1 c
    rw [if_pos c] at k
    refine z_iconst (pc' := 34) dX6_isWhole_33 rfl ?_
    refine z_zret rfl (by decide) dX6_isWhole_34 ?_
    exact k
  · have h := h.2 c
    rw [if_neg c] at k
    refine z_aload_n (pc' := 8) 0 rfl rfl dX6_isWhole_7 rfl ?_
    refine z_invV (as := []) (st := []) (C := m_X6_names) (fs := [37, 38]) (pc' := 11) dX6_isWhole_8 rfl t_2_161 k_X6_names rfl (by decide) rfl rfl rfl rfl (Nat.le_of_ble_eq_true rfl) ?_
    refine c_Y_names_34 ?_
    show z_Wp m_X6_isWhole _ 11 [(0, zR 34)] [zI (w 36 2)] w _
    refine z_iconst (pc' := 12) dX6_isWhole_11 rfl ?_
    obtain ⟨r2, h⟩ := h
    refine z_icmp_lt 33 dX6_isWhole_12 (by decide) (pc' := 15) rfl r2 (by decide) (fun c => ?_) (fun c => ?_)
    · have h := h.1 c
      rw [if_pos c] at k
      refine z_iconst (pc' := 34) dX6_isWhole_33 rfl ?_
      refine z_zret rfl (by decide) dX6_isWhole_34 ?_
      exact k
    · have h := h.2 c
      rw [if_neg c] at k
      refine z_aload_n (pc' := 16) 0 rfl rfl dX6_isWhole_15 rfl ?_
      refine z_invV (as := []) (st := []) (C := m_X6_knowOthers) (fs := [37, 38]) (pc' := 19) dX6_isWhole_16 rfl t_2_165 k_X6_knowOthers rfl (by decide) rfl rfl rfl rfl (Nat.le_of_ble_eq_true rfl) ?_
      obtain ⟨r3, h⟩ := h
      refine c_Y_knowOthers_34 r3 ?_
      show z_Wp m_X6_isWhole _ 19 [(0, zR 34)] [zI (F_Y_knowOthers_34 w)] w _
      refine z_if_eq 33 dX6_isWhole_19 (by decide) (pc' := 22) rfl (z_rb b_Y_knowOthers_34) (fun c => ?_) (fun c => ?_)
      · have h := h.1 c
        rw [if_pos c] at k
        refine z_iconst (pc' := 34) dX6_isWhole_33 rfl ?_
        refine z_zret rfl (by decide) dX6_isWhole_34 ?_
        exact k
      · have h := h.2 c
        rw [if_neg c] at k
        refine z_aload_n (pc' := 23) 0 rfl rfl dX6_isWhole_22 rfl ?_
        refine z_invV (as := []) (st := []) (C := m_X6_filesHoldTwo) (fs := [37, 38]) (pc' := 26) dX6_isWhole_23 rfl t_2_181 k_X6_filesHoldTwo rfl (by decide) rfl rfl rfl rfl (Nat.le_of_ble_eq_true rfl) ?_
        have r4 := h
        refine c_Y_filesHoldTwo_34 r4 ?_
        show z_Wp m_X6_isWhole _ 26 [(0, zR 34)] [zI (F_Y_filesHoldTwo_34 w)] w _
        refine z_if_eq 33 dX6_isWhole_26 (by decide) (pc' := 29) rfl (z_rb b_Y_filesHoldTwo_34) (fun c => ?_) (fun c => ?_)
        · skip
          rw [if_pos c] at k
          refine z_iconst (pc' := 34) dX6_isWhole_33 rfl ?_
          refine z_zret rfl (by decide) dX6_isWhole_34 ?_
          exact k
        · skip
          rw [if_neg c] at k
          refine z_iconst (pc' := 30) dX6_isWhole_29 rfl ?_
          refine z_goto 34 dX6_isWhole_30 (by decide) ?_
          refine z_zret rfl (by decide) dX6_isWhole_34 ?_
          exact k
theorem b_Y_isWhole_34 {w : z_Wd} : F_Y_isWhole_34 w = 0 ∨ F_Y_isWhole_34 w = 1 := by
  unfold F_Y_isWhole_34
  (repeat' split) <;> first | exact Or.inl rfl | exact Or.inr rfl
