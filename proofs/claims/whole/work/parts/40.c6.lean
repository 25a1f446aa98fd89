def P_D_scratchByDraws (w : z_Wd)  : Prop := (P_D_draw w 10) ∧ (-2147483648 ≤ (F_D_draw w 10).1 ∧ (F_D_draw w 10).1 < 2147483648) ∧ (-2147483648 ≤ ((F_D_draw w 10).2) 27 12 ∧ ((F_D_draw w 10).2) 27 12 < 2147483648) ∧ (((F_D_draw w 10).1 ≥ ((F_D_draw w 10).2) 27 12 → True) ∧ (¬ ((F_D_draw w 10).1 ≥ ((F_D_draw w 10).2) 27 12) → (P_D_draw ((F_D_draw w 10).2) (((F_D_draw w 10).2) 32 1)) ∧ (P_D_draw ((F_D_draw ((F_D_draw w 10).2) (((F_D_draw w 10).2) 32 1)).2) 9) ∧ (P_K_scratchUp ((F_D_draw ((F_D_draw ((F_D_draw w 10).2) (((F_D_draw w 10).2) 32 1)).2) 9).2) ((F_D_draw ((F_D_draw w 10).2) (((F_D_draw w 10).2) 32 1)).1) (((F_D_draw ((F_D_draw ((F_D_draw w 10).2) (((F_D_draw w 10).2) 32 1)).2) 9).1) + 1))))
def F_D_scratchByDraws (w : z_Wd)  : z_Wd := if (F_D_draw w 10).1 ≥ ((F_D_draw w 10).2) 27 12 then (F_D_draw w 10).2 else (F_K_scratchUp ((F_D_draw ((F_D_draw ((F_D_draw w 10).2) (((F_D_draw w 10).2) 32 1)).2) 9).2) ((F_D_draw ((F_D_draw w 10).2) (((F_D_draw w 10).2) 32 1)).1) (((F_D_draw ((F_D_draw ((F_D_draw w 10).2) (((F_D_draw w 10).2) 32 1)).2) 9).1) + 1)).2
set_option maxRecDepth 4000 in
theorem c_D_scratchByDraws {d : Nat} {w : z_Wd} {Q : Option z_V → z_Wd → Prop} (h : P_D_scratchByDraws w ) (k : Q none (F_D_scratchByDraws w )) : z_Wc (d + 5) m_X11_scratchByDraws [zR 27] w Q := by
  unfold P_D_scratchByDraws at h
  unfold F_D_scratchByDraws at k
  refine z_enter rfl (Nat.le_of_ble_eq_true rfl) ?_
  show z_Wp m_X11_scratchByDraws _ 0 [(0, zR 27)] [] w _
  refine z_aload_n (pc' := 1) 0 rfl rfl dX11_scratchByDraws_0 rfl ?_
  refine z_bipush (pc' := 3) (by decide) dX11_scratchByDraws_1 rfl ?_
  refine z_invV (as := [zI 10]) (st := []) (C := m_X11_draw) (fs := [30, 32, 35, 39, 43, 49, 55, 57, 72, 74, 78, 80, 0, 0, 1]) (pc' := 6) dX11_scratchByDraws_3 rfl t_4_143 k_X11_draw rfl (by decide) rfl rfl rfl rfl (Nat.le_of_ble_eq_true rfl) ?_
  obtain ⟨r1, h⟩ := h
  refine c_D_draw r1 ?_
  show z_Wp m_X11_scratchByDraws _ 6 [(0, zR 27)] [zI ((F_D_draw w 10).1)] ((F_D_draw w 10).2) _
  refine z_aload_n (pc' := 7) 0 rfl rfl dX11_scratchByDraws_6 rfl ?_
  refine z_getI2 (v := ((F_D_draw w 10).2) 27 12) (pc' := 10) g_X11_92 (by decide) rfl rfl rfl dX11_scratchByDraws_7 rfl ?_
  obtain ⟨r2, h⟩ := h
  obtain ⟨r3, h⟩ := h
  refine z_icmp_ge 44 dX11_scratchByDraws_10 (by decide) (pc' := 13) rfl r2 r3 (fun c => ?_) (fun c => ?_)
  · have h := h.1 c
    rw [if_pos c] at k
    refine z_vret rfl dX11_scratchByDraws_44 ?_
    exact k
  · have h := h.2 c
    rw [if_neg c] at k
    refine z_aload_n (pc' := 14) 0 rfl rfl dX11_scratchByDraws_13 rfl ?_
    refine z_aload_n (pc' := 15) 0 rfl rfl dX11_scratchByDraws_14 rfl ?_
    refine z_getR (t := 30) (pc' := 18) g_X11_19 (by decide) rfl rfl dX11_scratchByDraws_15 rfl ?_
    refine z_invV (as := []) (st := [zR 27]) (C := m_X6_wells) (fs := [33, 34]) (pc' := 21) dX11_scratchByDraws_18 rfl t_4_149 k_X6_wells rfl (by decide) rfl rfl rfl rfl (Nat.le_of_ble_eq_true rfl) ?_
    refine c_Y_wells ?_
    show z_Wp m_X11_scratchByDraws _ 21 [(0, zR 27)] [zI (((F_D_draw w 10).2) 32 1), zR 27] ((F_D_draw w 10).2) _
    refine z_invV (as := [zI (((F_D_draw w 10).2) 32 1)]) (st := []) (C := m_X11_draw) (fs := [30, 32, 35, 39, 43, 49, 55, 57, 72, 74, 78, 80, 0, 0, 1]) (pc' := 24) dX11_scratchByDraws_21 rfl t_4_143 k_X11_draw rfl (by decide) rfl rfl rfl rfl (Nat.le_of_ble_eq_true rfl) ?_
    obtain ⟨r4, h⟩ := h
    refine c_D_draw r4 ?_
    show z_Wp m_X11_scratchByDraws _ 24 [(0, zR 27)] [zI ((F_D_draw ((F_D_draw w 10).2) (((F_D_draw w 10).2) 32 1)).1)] ((F_D_draw ((F_D_draw w 10).2) (((F_D_draw w 10).2) 32 1)).2) _
    refine z_istore_n (pc' := 25) (ls' := [(0, zR 27), (1, zI ((F_D_draw ((F_D_draw w 10).2) (((F_D_draw w 10).2) 32 1)).1))]) rfl (by decide) rfl rfl dX11_scratchByDraws_24 rfl ?_
    refine z_aload_n (pc' := 26) 0 rfl rfl dX11_scratchByDraws_25 rfl ?_
    refine z_bipush (pc' := 28) (by decide) dX11_scratchByDraws_26 rfl ?_
    refine z_invV (as := [zI 9]) (st := []) (C := m_X11_draw) (fs := [30, 32, 35, 39, 43, 49, 55, 57, 72, 74, 78, 80, 0, 0, 1]) (pc' := 31) dX11_scratchByDraws_28 rfl t_4_143 k_X11_draw rfl (by decide) rfl rfl rfl rfl (Nat.le_of_ble_eq_true rfl) ?_
    obtain ⟨r5, h⟩ := h
    refine c_D_draw r5 ?_
    show z_Wp m_X11_scratchByDraws _ 31 [(0, zR 27), (1, zI ((F_D_draw ((F_D_draw w 10).2) (((F_D_draw w 10).2) 32 1)).1))] [zI ((F_D_draw ((F_D_draw ((F_D_draw w 10).2) (((F_D_draw w 10).2) 32 1)).2) 9).1)] ((F_D_draw ((F_D_draw ((F_D_draw w 10).2) (((F_D_draw w 10).2) 32 1)).2) 9).2) _
    refine z_iconst (pc' := 32) dX11_scratchByDraws_31 rfl ?_
    refine z_iadd (pc' := 33) dX11_scratchByDraws_32 rfl ?_
    refine z_istore_n (pc' := 34) (ls' := [(0, zR 27), (1, zI ((F_D_draw ((F_D_draw w 10).2) (((F_D_draw w 10).2) 32 1)).1)), (2, zI (((F_D_draw ((F_D_draw ((F_D_draw w 10).2) (((F_D_draw w 10).2) 32 1)).2) 9).1) + 1))]) rfl (by decide) rfl rfl dX11_scratchByDraws_33 rfl ?_
    refine z_aload_n (pc' := 35) 0 rfl rfl dX11_scratchByDraws_34 rfl ?_
    refine z_getR (t := 41) (pc' := 38) g_X11_44 (by decide) rfl rfl dX11_scratchByDraws_35 rfl ?_
    refine z_iload_n (pc' := 39) 1 rfl rfl dX11_scratchByDraws_38 rfl ?_
    refine z_iload_n (pc' := 40) 2 rfl rfl dX11_scratchByDraws_39 rfl ?_
    refine z_invV (as := [zI ((F_D_draw ((F_D_draw w 10).2) (((F_D_draw w 10).2) 32 1)).1), zI (((F_D_draw ((F_D_draw ((F_D_draw w 10).2) (((F_D_draw w 10).2) 32 1)).2) 9).1) + 1)]) (st := []) (C := m_X3_scratchUp) (fs := [32, 44, 45, 46, 47, 48, 0, 0, 0]) (pc' := 43) dX11_scratchByDraws_40 rfl t_3_231 k_X3_scratchUp rfl (by decide) rfl rfl rfl rfl (Nat.le_of_ble_eq_true rfl) ?_
    have r6 := h
    refine c_K_scratchUp r6 ?_
    show z_Wp m_X11_scratchByDraws _ 43 [(0, zR 27), (1, zI ((F_D_draw ((F_D_draw w 10).2) (((F_D_draw w 10).2) 32 1)).1)), (2, zI (((F_D_draw ((F_D_draw ((F_D_draw w 10).2) (((F_D_draw w 10).2) 32 1)).2) 9).1) + 1))] [zI ((F_K_scratchUp ((F_D_draw ((F_D_draw ((F_D_draw w 10).2) (((F_D_draw w 10).2) 32 1)).2) 9).2) ((F_D_draw ((F_D_draw w 10).2) (((F_D_draw w 10).2) 32 1)).1) (((F_D_draw ((F_D_draw ((F_D_draw w 10).2) (((F_D_draw w 10).2) 32 1)).2) 9).1) + 1)).1)] ((F_K_scratchUp ((F_D_draw ((F_D_draw ((F_D_draw w 10).2) (((F_D_draw w 10).2) 32 1)).2) 9).2) ((F_D_draw ((F_D_draw w 10).2) (((F_D_draw w 10).2) 32 1)).1) (((F_D_draw ((F_D_draw ((F_D_draw w 10).2) (((F_D_draw w 10).2) 32 1)).2) 9).1) + 1)).2) _
    refine z_pop (pc' := 44) rfl dX11_scratchByDraws_43 rfl ?_
    refine z_vret rfl dX11_scratchByDraws_44 ?_
    exact k
def P_D_gone (w : z_Wd) (a0 : Int) (a1 : Int) : Prop := (P_C_canAsk w a0) ∧ ((F_C_canAsk w a0 = 0 → True) ∧ (¬ (F_C_canAsk w a0 = 0) → (-2147483648 ≤ a1 ∧ a1 < 2147483648) ∧ ((a1 = (-1) → P_C_sets w a0) ∧ (¬ (a1 = (-1)) → P_C_setAt w a0 a1))))
def F_D_gone (w : z_Wd) (a0 : Int) (a1 : Int) : Int := if F_C_canAsk w a0 = 0 then (-1) else if a1 = (-1) then F_C_sets w a0 else F_C_setAt w a0 a1
set_option maxRecDepth 4000 in
theorem c_D_gone {d : Nat} {w : z_Wd} {a0 a1 : Int} {Q : Option z_V → z_Wd → Prop} (h : P_D_gone w a0 a1) (k : Q (some (zI (F_D_gone w a0 a1))) w) : z_Wc (d + 5) m_X11_gone [zR 27, zI a0, zI a1] w Q := by
  unfold P_D_gone at h
  unfold F_D_gone at k
  refine z_enter rfl (Nat.le_of_ble_eq_true rfl) ?_
  show z_Wp m_X11_gone _ 0 [(0, zR 27), (1, zI a0), (2, zI a1)] [] w _
  refine z_aload_n (pc' := 1) 0 rfl rfl dX11_gone_0 rfl ?_
  refine z_getR (t := 72) (pc' := 4) g_X11_77 (by decide) rfl rfl dX11_gone_1 rfl ?_
  refine z_iload_n (pc' := 5) 1 rfl rfl dX11_gone_4 rfl ?_
  refine z_invV (as := [zI a0]) (st := []) (C := m_X0_canAsk) (fs := [32, 75, 76, 77, 0]) (pc' := 8) dX11_gone_5 rfl t_5_16 k_X0_canAsk rfl (by decide) rfl rfl rfl rfl (Nat.le_of_ble_eq_true rfl) ?_
  obtain ⟨r1, h⟩ := h
  refine c_C_canAsk r1 ?_
  show z_Wp m_X11_gone _ 8 [(0, zR 27), (1, zI a0), (2, zI a1)] [zI (F_C_canAsk w a0)] w _
  refine z_if_ne 13 dX11_gone_8 (by decide) (pc' := 11) rfl (z_rb b_C_canAsk) (fun c => ?_) (fun c => ?_)
  · have h := h.2 c
    rw [if_neg c] at k
    refine z_iload_n (pc' := 14) 2 rfl rfl dX11_gone_13 rfl ?_
    refine z_iconst (pc' := 15) dX11_gone_14 rfl ?_
    obtain ⟨r2, h⟩ := h
    refine z_icmp_ne 29 dX11_gone_15 (by decide) (pc' := 18) rfl r2 (by decide) (fun c => ?_) (fun c => ?_)
    · have h := h.2 c
      rw [if_neg c] at k
      refine z_aload_n (pc' := 30) 0 rfl rfl dX11_gone_29 rfl ?_
      refine z_getR (t := 72) (pc' := 33) g_X11_77 (by decide) rfl rfl dX11_gone_30 rfl ?_
      refine z_iload_n (pc' := 34) 1 rfl rfl dX11_gone_33 rfl ?_
      refine z_iload_n (pc' := 35) 2 rfl rfl dX11_gone_34 rfl ?_
      refine z_invV (as := [zI a0, zI a1]) (st := []) (C := m_X0_setAt) (fs := [32, 75, 76, 77, 0]) (pc' := 38) dX11_gone_35 rfl t_5_32 k_X0_setAt rfl (by decide) rfl rfl rfl rfl (Nat.le_of_ble_eq_true rfl) ?_
      have r3 := h
      refine c_C_setAt r3 ?_
      show z_Wp m_X11_gone _ 38 [(0, zR 27), (1, zI a0), (2, zI a1)] [zI (F_C_setAt w a0 a1)] w _
      refine z_iret rfl dX11_gone_38 ?_
      exact k
    · have h := h.1 c
      rw [if_pos c] at k
      refine z_aload_n (pc' := 19) 0 rfl rfl dX11_gone_18 rfl ?_
      refine z_getR (t := 72) (pc' := 22) g_X11_77 (by decide) rfl rfl dX11_gone_19 rfl ?_
      refine z_iload_n (pc' := 23) 1 rfl rfl dX11_gone_22 rfl ?_
      refine z_invV (as := [zI a0]) (st := []) (C := m_X0_sets) (fs := [32, 75, 76, 77, 0]) (pc' := 26) dX11_gone_23 rfl t_5_21 k_X0_sets rfl (by decide) rfl rfl rfl rfl (Nat.le_of_ble_eq_true rfl) ?_
      have r4 := h
      refine c_C_sets r4 ?_
      show z_Wp m_X11_gone _ 26 [(0, zR 27), (1, zI a0), (2, zI a1)] [zI (F_C_sets w a0)] w _
      refine z_goto 38 dX11_gone_26 (by decide) ?_
      refine z_iret rfl dX11_gone_38 ?_
      exact k
  · have h := h.1 c
    rw [if_pos c] at k
    refine z_iconst (pc' := 12) dX11_gone_11 rfl ?_
    refine z_iret rfl dX11_gone_12 ?_
    exact k
def P_D_sure (w : z_Wd) (a0 : Int) : Prop := (P_C_canAsk w a0) ∧ ((F_C_canAsk w a0 = 0 → True) ∧ (¬ (F_C_canAsk w a0 = 0) → P_C_inAll w a0))
def F_D_sure (w : z_Wd) (a0 : Int) : Int := if F_C_canAsk w a0 = 0 then (-1) else F_C_inAll w a0
set_option maxRecDepth 4000 in
theorem c_D_sure {d : Nat} {w : z_Wd} {a0 : Int} {Q : Option z_V → z_Wd → Prop} (h : P_D_sure w a0) (k : Q (some (zI (F_D_sure w a0))) w) : z_Wc (d + 5) m_X11_sure [zR 27, zI a0] w Q := by
  unfold P_D_sure at h
  unfold F_D_sure at k
  refine z_enter rfl (Nat.le_of_ble_eq_true rfl) ?_
  show z_Wp m_X11_sure _ 0 [(0, zR 27), (1, zI a0)] [] w _
  refine z_aload_n (pc' := 1) 0 rfl rfl dX11_sure_0 rfl ?_
  refine z_getR (t := 72) (pc' := 4) g_X11_77 (by decide) rfl rfl dX11_sure_1 rfl ?_
  refine z_iload_n (pc' := 5) 1 rfl rfl dX11_sure_4 rfl ?_
  refine z_invV (as := [zI a0]) (st := []) (C := m_X0_canAsk) (fs := [32, 75, 76, 77, 0]) (pc' := 8) dX11_sure_5 rfl t_5_16 k_X0_canAsk rfl (by decide) rfl rfl rfl rfl (Nat.le_of_ble_eq_true rfl) ?_
  obtain ⟨r1, h⟩ := h
  refine c_C_canAsk r1 ?_
  show z_Wp m_X11_sure _ 8 [(0, zR 27), (1, zI a0)] [zI (F_C_canAsk w a0)] w _
  refine z_if_eq 22 dX11_sure_8 (by decide) (pc' := 11) rfl (z_rb b_C_canAsk) (fun c => ?_) (fun c => ?_)
  · have h := h.1 c
    rw [if_pos c] at k
    refine z_iconst (pc' := 23) dX11_sure_22 rfl ?_
    refine z_iret rfl dX11_sure_23 ?_
    exact k
  · have h := h.2 c
    rw [if_neg c] at k
    refine z_aload_n (pc' := 12) 0 rfl rfl dX11_sure_11 rfl ?_
    refine z_getR (t := 72) (pc' := 15) g_X11_77 (by decide) rfl rfl dX11_sure_12 rfl ?_
    refine z_iload_n (pc' := 16) 1 rfl rfl dX11_sure_15 rfl ?_
    refine z_invV (as := [zI a0]) (st := []) (C := m_X0_inAll) (fs := [32, 75, 76, 77, 0]) (pc' := 19) dX11_sure_16 rfl t_5_40 k_X0_inAll rfl (by decide) rfl rfl rfl rfl (Nat.le_of_ble_eq_true rfl) ?_
    have r2 := h
    refine c_C_inAll r2 ?_
    show z_Wp m_X11_sure _ 19 [(0, zR 27), (1, zI a0)] [zI (F_C_inAll w a0)] w _
    refine z_goto 23 dX11_sure_19 (by decide) ?_
    refine z_iret rfl dX11_sure_23 ?_
    exact k
def P_D_ask (w : z_Wd) (a0 : Int) : Prop := (P_C_canAsk w a0) ∧ ((F_C_canAsk w a0 = 0 → True) ∧ (¬ (F_C_canAsk w a0 = 0) → (P_C_sets w a0) ∧ (-2147483648 ≤ F_C_sets w a0 ∧ F_C_sets w a0 < 2147483648) ∧ ((F_C_sets w a0 ≤ 0 → True) ∧ (¬ (F_C_sets w a0 ≤ 0) → P_C_bestFile w a0))))
def F_D_ask (w : z_Wd) (a0 : Int) : Int × z_Wd := if F_C_canAsk w a0 = 0 then ((-1), w) else if F_C_sets w a0 ≤ 0 then ((-1), w) else ((F_C_bestFile w a0).1, (F_C_bestFile w a0).2)
set_option maxRecDepth 4000 in
theorem c_D_ask {d : Nat} {w : z_Wd} {a0 : Int} {Q : Option z_V → z_Wd → Prop} (h : P_D_ask w a0) (k : Q (some (zI (F_D_ask w a0).1)) (F_D_ask w a0).2) : z_Wc (d + 6) m_X11_ask [zR 27, zI a0] w Q := by
  unfold P_D_ask at h
  unfold F_D_ask at k
  refine z_enter rfl (Nat.le_of_ble_eq_true rfl) ?_
  show z_Wp m_X11_ask _ 0 [(0, zR 27), (1, zI a0)] [] w _
  refine z_aload_n (pc' := 1) 0 rfl rfl dX11_ask_0 rfl ?_
  refine z_getR (t := 72) (pc' := 4) g_X11_77 (by decide) rfl rfl dX11_ask_1 rfl ?_
  refine z_iload_n (pc' := 5) 1 rfl rfl dX11_ask_4 rfl ?_
  refine z_invV (as := [zI a0]) (st := []) (C := m_X0_canAsk) (fs := [32, 75, 76, 77, 0]) (pc' := 8) dX11_ask_5 rfl t_5_16 k_X0_canAsk rfl (by decide) rfl rfl rfl rfl (Nat.le_of_ble_eq_true rfl) ?_
  obtain ⟨r1, h⟩ := h
  refine c_C_canAsk r1 ?_
  show z_Wp m_X11_ask _ 8 [(0, zR 27), (1, zI a0)] [zI (F_C_canAsk w a0)] w _
  refine z_if_eq 33 dX11_ask_8 (by decide) (pc' := 11) rfl (z_rb b_C_canAsk) (fun c => ?_) (fun c => ?_)
  · have h := h.1 c
    rw [if_pos c] at k
    refine z_iconst (pc' := 34) dX11_ask_33 rfl ?_
    refine z_iret rfl dX11_ask_34 ?_
    exact k
  · have h := h.2 c
    rw [if_neg c] at k
    refine z_aload_n (pc' := 12) 0 rfl rfl dX11_ask_11 rfl ?_
    refine z_getR (t := 72) (pc' := 15) g_X11_77 (by decide) rfl rfl dX11_ask_12 rfl ?_
    refine z_iload_n (pc' := 16) 1 rfl rfl dX11_ask_15 rfl ?_
    refine z_invV (as := [zI a0]) (st := []) (C := m_X0_sets) (fs := [32, 75, 76, 77, 0]) (pc' := 19) dX11_ask_16 rfl t_5_21 k_X0_sets rfl (by decide) rfl rfl rfl rfl (Nat.le_of_ble_eq_true rfl) ?_
    obtain ⟨r2, h⟩ := h
    refine c_C_sets r2 ?_
    show z_Wp m_X11_ask _ 19 [(0, zR 27), (1, zI a0)] [zI (F_C_sets w a0)] w _
    obtain ⟨r3, h⟩ := h
    refine z_if_le 33 dX11_ask_19 (by decide) (pc' := 22) rfl r3 (fun c => ?_) (fun c => ?_)
    · have h := h.1 c
      rw [if_pos c] at k
      refine z_iconst (pc' := 34) dX11_ask_33 rfl ?_
      refine z_iret rfl dX11_ask_34 ?_
      exact k
    · have h := h.2 c
      rw [if_neg c] at k
      refine z_aload_n (pc' := 23) 0 rfl rfl dX11_ask_22 rfl ?_
      refine z_getR (t := 72) (pc' := 26) g_X11_77 (by decide) rfl rfl dX11_ask_23 rfl ?_
      refine z_iload_n (pc' := 27) 1 rfl rfl dX11_ask_26 rfl ?_
      refine z_invV (as := [zI a0]) (st := []) (C := m_X0_bestFile) (fs := [32, 75, 76, 77, 0]) (pc' := 30) dX11_ask_27 rfl t_5_48 k_X0_bestFile rfl (by decide) rfl rfl rfl rfl (Nat.le_of_ble_eq_true rfl) ?_
      have r4 := h
      refine c_C_bestFile r4 ?_
      show z_Wp m_X11_ask _ 30 [(0, zR 27), (1, zI a0)] [zI ((F_C_bestFile w a0).1)] ((F_C_bestFile w a0).2) _
      refine z_goto 34 dX11_ask_30 (by decide) ?_
      refine z_iret rfl dX11_ask_34 ?_
      exact k
def P_Y_isWhole_34 (w : z_Wd)  : Prop := (-2147483648 ≤ w 36 1 ∧ w 36 1 < 2147483648) ∧ ((w 36 1 ≤ 0 → True) ∧ (¬ (w 36 1 ≤ 0) → (-2147483648 ≤ w 36 2 ∧ w 36 2 < 2147483648) ∧ ((w 36 2 < 2 → True) ∧ (¬ (w 36 2 < 2) → (P_Y_knowOthers_34 w) ∧ ((F_Y_knowOthers_34 w = 0 → True) ∧ (¬ (F_Y_knowOthers_34 w = 0) → P_Y_filesHoldTwo_34 w))))))
def F_Y_isWhole_34 (w : z_Wd)  : Int := if w 36 1 ≤ 0 then 0 else if w 36 2 < 2 then 0 else if F_Y_knowOthers_34 w = 0 then 0 else if F_Y_filesHoldTwo_34 w = 0 then 0 else 1
set_option maxRecDepth 4000 in
theorem c_Y_isWhole_34 {d : Nat} {w : z_Wd} {Q : Option z_V → z_Wd → Prop} (h : P_Y_isWhole_34 w ) (k : Q (some (zI (F_Y_isWhole_34 w ))) w) : z_Wc (d + 3) m_X6_isWhole [zR 34] w Q := by
  unfold P_Y_isWhole_34 at h
  unfold F_Y_isWhole_34 at k
  refine z_enter rfl (Nat.le_of_ble_eq_true rfl) ?_
  show z_Wp m_X6_isWhole _ 0 [(0, zR 34)] [] w _
  refine z_aload_n (pc' := 1) 0 rfl rfl dX6_isWhole_0 rfl ?_
  refine z_invV (as := []) (st := []) (C := m_X6_wells) (fs := [37, 38]) (pc' := 4) dX6_isWhole_1 rfl t_2_153 k_X6_wells rfl (by decide) rfl rfl rfl rfl (Nat.le_of_ble_eq_true rfl) ?_
  refine c_Y_wells_34 ?_
  show z_Wp m_X6_isWhole _ 4 [(0, zR 34)] [zI (w 36 1)] w _
  obtain ⟨r1, h⟩ := h
  refine z_if_le 33 dX6_isWhole_4 (by decide) (pc' := 7) rfl r1 (fun c => ?_) (fun c => ?_)
  · have h := h.1 c
    rw [if_pos c] at k
    refine z_iconst (pc' := 34) dX6_isWhole_33 rfl ?_
    refine z_zret rfl (by decide) dX6_isWhole_34 ?_
    exact k
  · have h := h.2 c
    rw [if_neg c] at k
    refine z_aload_n (pc' := 8) 0 rfl rfl dX6_isWhole_7 rfl ?_
    refine z_invV (as := []) (st := []) (C := m_X6_names) (fs := [37, 38]) (pc' := 11) dX6_isWhole_8 rfl t_2_157 k_X6_names rfl (by decide) rfl rfl rfl rfl (Nat.le_of_ble_eq_true rfl) ?_
    refine c_Y_names_34 ?_
    show z_Wp m_X6_isWhole _ 11 [(0, zR 34)] [zI (w 36 2)] w _
    refine z_iconst (pc' := 12) dX6_isWhole_11 rfl ?_
    obtain ⟨r2, h⟩ := h
    refine z_icmp_lt 33 dX6_isWhole_12 (by decide) (pc' := 15) rfl r2 (by decide) (fun c => ?_) (fun c => ?_)
    · have h := h.1 c
      rw [if_pos c] at k
      refine z_iconst (pc' := 34) dX6_isWhole_33 rfl ?_
      refine z_zret rfl (by decide) dX6_isWhole_34 ?_
      exact k
    · have h := h.2 c
      rw [if_neg c] at k
      refine z_aload_n (pc' := 16) 0 rfl rfl dX6_isWhole_15 rfl ?_
      refine z_invV (as := []) (st := []) (C := m_X6_knowOthers) (fs := [37, 38]) (pc' := 19) dX6_isWhole_16 rfl t_2_161 k_X6_knowOthers rfl (by decide) rfl rfl rfl rfl (Nat.le_of_ble_eq_true rfl) ?_
      obtain ⟨r3, h⟩ := h
      refine c_Y_knowOthers_34 r3 ?_
      show z_Wp m_X6_isWhole _ 19 [(0, zR 34)] [zI (F_Y_knowOthers_34 w)] w _
      refine z_if_eq 33 dX6_isWhole_19 (by decide) (pc' := 22) rfl (z_rb b_Y_knowOthers_34) (fun c => ?_) (fun c => ?_)
      · have h := h.1 c
        rw [if_pos c] at k
        refine z_iconst (pc' := 34) dX6_isWhole_33 rfl ?_
        refine z_zret rfl (by decide) dX6_isWhole_34 ?_
        exact k
      · have h := h.2 c
        rw [if_neg c] at k
        refine z_aload_n (pc' := 23) 0 rfl rfl dX6_isWhole_22 rfl ?_
        refine z_invV (as := []) (st := []) (C := m_X6_filesHoldTwo) (fs := [37, 38]) (pc' := 26) dX6_isWhole_23 rfl t_2_177 k_X6_filesHoldTwo rfl (by decide) rfl rfl rfl rfl (Nat.le_of_ble_eq_true rfl) ?_
        have r4 := h
        refine c_Y_filesHoldTwo_34 r4 ?_
        show z_Wp m_X6_isWhole _ 26 [(0, zR 34)] [zI (F_Y_filesHoldTwo_34 w)] w _
        refine z_if_eq 33 dX6_isWhole_26 (by decide) (pc' := 29) rfl (z_rb b_Y_filesHoldTwo_34) (fun c => ?_) (fun c => ?_)
        · skip
          rw [if_pos c] at k
          refine z_iconst (pc' := 34) dX6_isWhole_33 rfl ?_
          refine z_zret rfl (by decide) dX6_isWhole_34 ?_
          exact k
        · skip
          rw [if_neg c] at k
          refine z_iconst (pc' := 30) dX6_isWhole_29 rfl ?_
          refine z_goto 34 dX6_isWhole_30 (by decide) ?_
          refine z_zret rfl (by decide) dX6_isWhole_34 ?_
          exact k
theorem b_Y_isWhole_34 {w : z_Wd} : F_Y_isWhole_34 w = 0 ∨ F_Y_isWhole_34 w = 1 := by
  unfold F_Y_isWhole_34
  (repeat' split) <;> first | exact Or.inl rfl | exact Or.inr rfl
def P_G_missed (w : z_Wd) (a0 : Int) : Prop := (P_K_isFree w a0) ∧ ((F_K_isFree w a0 = 0 → (P_K_wellOf w a0) ∧ (P_K_inside w (-1)) ∧ (P_K_above w a0 (zz_and ((zz_shl 1 (w 32 2)) - 1) (zz_xor (F_K_inside w (-1)) (-1)))) ∧ (P_G_missedIn w (F_K_wellOf w a0) a0 (F_K_above w a0 (zz_and ((zz_shl 1 (w 32 2)) - 1) (zz_xor (F_K_inside w (-1)) (-1)))) (F_K_inside w (-1)))) ∧ (¬ (F_K_isFree w a0 = 0) → (P_K_inside w (-1)) ∧ (P_K_above w a0 (zz_and ((zz_shl 1 (w 32 2)) - 1) (zz_xor (F_K_inside w (-1)) (-1)))) ∧ (P_G_missedIn w (w 32 1) a0 (F_K_above w a0 (zz_and ((zz_shl 1 (w 32 2)) - 1) (zz_xor (F_K_inside w (-1)) (-1)))) (F_K_inside w (-1)))))
def F_G_missed (w : z_Wd) (a0 : Int) : Int × z_Wd := if F_K_isFree w a0 = 0 then ((F_G_missedIn w (F_K_wellOf w a0) a0 (F_K_above w a0 (zz_and ((zz_shl 1 (w 32 2)) - 1) (zz_xor (F_K_inside w (-1)) (-1)))) (F_K_inside w (-1))).1, (F_G_missedIn w (F_K_wellOf w a0) a0 (F_K_above w a0 (zz_and ((zz_shl 1 (w 32 2)) - 1) (zz_xor (F_K_inside w (-1)) (-1)))) (F_K_inside w (-1))).2) else ((F_G_missedIn w (w 32 1) a0 (F_K_above w a0 (zz_and ((zz_shl 1 (w 32 2)) - 1) (zz_xor (F_K_inside w (-1)) (-1)))) (F_K_inside w (-1))).1, (F_G_missedIn w (w 32 1) a0 (F_K_above w a0 (zz_and ((zz_shl 1 (w 32 2)) - 1) (zz_xor (F_K_inside w (-1)) (-1)))) (F_K_inside w (-1))).2)
set_option maxRecDepth 4000 in
theorem c_G_missed {d : Nat} {w : z_Wd} {a0 : Int} {Q : Option z_V → z_Wd → Prop} (h : P_G_missed w a0) (k : Q (some (zI (F_G_missed w a0).1)) (F_G_missed w a0).2) : z_Wc (d + 5) m_X1_missed [zR 55, zI a0] w Q := by
  unfold P_G_missed at h
  unfold F_G_missed at k
  refine z_enter rfl (Nat.le_of_ble_eq_true rfl) ?_
  show z_Wp m_X1_missed _ 0 [(0, zR 55), (1, zI a0)] [] w _
  refine z_aload_n (pc' := 1) 0 rfl rfl dX1_missed_0 rfl ?_
  refine z_getR (t := 41) (pc' := 4) g_X1_29 (by decide) rfl rfl dX1_missed_1 rfl ?_
  refine z_iload_n (pc' := 5) 1 rfl rfl dX1_missed_4 rfl ?_
  refine z_invV (as := [zI a0]) (st := []) (C := m_X3_isFree) (fs := [32, 44, 45, 46, 47, 48, 0, 0, 0]) (pc' := 8) dX1_missed_5 rfl t_5_124 k_X3_isFree rfl (by decide) rfl rfl rfl rfl (Nat.le_of_ble_eq_true rfl) ?_
  obtain ⟨r1, h⟩ := h
  refine c_K_isFree r1 ?_
  show z_Wp m_X1_missed _ 8 [(0, zR 55), (1, zI a0)] [zI (F_K_isFree w a0)] w _
  refine z_if_eq 21 dX1_missed_8 (by decide) (pc' := 11) rfl (z_rb b_K_isFree) (fun c => ?_) (fun c => ?_)
  · have h := h.1 c
    rw [if_pos c] at k
    refine z_aload_n (pc' := 22) 0 rfl rfl dX1_missed_21 rfl ?_
    refine z_getR (t := 41) (pc' := 25) g_X1_29 (by decide) rfl rfl dX1_missed_22 rfl ?_
    refine z_iload_n (pc' := 26) 1 rfl rfl dX1_missed_25 rfl ?_
    refine z_invV (as := [zI a0]) (st := []) (C := m_X3_wellOf) (fs := [32, 44, 45, 46, 47, 48, 0, 0, 0]) (pc' := 29) dX1_missed_26 rfl t_4_76 k_X3_wellOf rfl (by decide) rfl rfl rfl rfl (Nat.le_of_ble_eq_true rfl) ?_
    obtain ⟨r2, h⟩ := h
    refine c_K_wellOf r2 ?_
    show z_Wp m_X1_missed _ 29 [(0, zR 55), (1, zI a0)] [zI (F_K_wellOf w a0)] w _
    refine z_istore_n (pc' := 30) (ls' := [(0, zR 55), (1, zI a0), (2, zI (F_K_wellOf w a0))]) rfl (by decide) rfl rfl dX1_missed_29 rfl ?_
    refine z_aload_n (pc' := 31) 0 rfl rfl dX1_missed_30 rfl ?_
    refine z_iload_n (pc' := 32) 2 rfl rfl dX1_missed_31 rfl ?_
    refine z_iload_n (pc' := 33) 1 rfl rfl dX1_missed_32 rfl ?_
    refine z_aload_n (pc' := 34) 0 rfl rfl dX1_missed_33 rfl ?_
    refine z_getR (t := 41) (pc' := 37) g_X1_29 (by decide) rfl rfl dX1_missed_34 rfl ?_
    refine z_iload_n (pc' := 38) 1 rfl rfl dX1_missed_37 rfl ?_
    refine z_aload_n (pc' := 39) 0 rfl rfl dX1_missed_38 rfl ?_
    refine z_getR (t := 41) (pc' := 42) g_X1_29 (by decide) rfl rfl dX1_missed_39 rfl ?_
    refine z_invV (as := []) (st := [zI a0, zR 41, zI a0, zI (F_K_wellOf w a0), zR 55]) (C := m_X3_drowned) (fs := [32, 44, 45, 46, 47, 48, 0, 0, 0]) (pc' := 45) dX1_missed_42 rfl t_4_70 k_X3_drowned rfl (by decide) rfl rfl rfl rfl (Nat.le_of_ble_eq_true rfl) ?_
    obtain ⟨r3, h⟩ := h
    refine c_K_drowned r3 ?_
    show z_Wp m_X1_missed _ 45 [(0, zR 55), (1, zI a0), (2, zI (F_K_wellOf w a0))] [zI (zz_and ((zz_shl 1 (w 32 2)) - 1) (zz_xor (F_K_inside w (-1)) (-1))), zI a0, zR 41, zI a0, zI (F_K_wellOf w a0), zR 55] w _
    refine z_invV (as := [zI a0, zI (zz_and ((zz_shl 1 (w 32 2)) - 1) (zz_xor (F_K_inside w (-1)) (-1)))]) (st := [zI a0, zI (F_K_wellOf w a0), zR 55]) (C := m_X3_above) (fs := [32, 44, 45, 46, 47, 48, 0, 0, 0]) (pc' := 48) dX1_missed_45 rfl t_4_77 k_X3_above rfl (by decide) rfl rfl rfl rfl (Nat.le_of_ble_eq_true rfl) ?_
    obtain ⟨r4, h⟩ := h
    refine c_K_above r4 ?_
    show z_Wp m_X1_missed _ 48 [(0, zR 55), (1, zI a0), (2, zI (F_K_wellOf w a0))] [zI (F_K_above w a0 (zz_and ((zz_shl 1 (w 32 2)) - 1) (zz_xor (F_K_inside w (-1)) (-1)))), zI a0, zI (F_K_wellOf w a0), zR 55] w _
    refine z_aload_n (pc' := 49) 0 rfl rfl dX1_missed_48 rfl ?_
    refine z_getR (t := 41) (pc' := 52) g_X1_29 (by decide) rfl rfl dX1_missed_49 rfl ?_
    refine z_invV (as := []) (st := [zI (F_K_above w a0 (zz_and ((zz_shl 1 (w 32 2)) - 1) (zz_xor (F_K_inside w (-1)) (-1)))), zI a0, zI (F_K_wellOf w a0), zR 55]) (C := m_X3_free) (fs := [32, 44, 45, 46, 47, 48, 0, 0, 0]) (pc' := 55) dX1_missed_52 rfl t_4_71 k_X3_free rfl (by decide) rfl rfl rfl rfl (Nat.le_of_ble_eq_true rfl) ?_
    refine c_K_free r3 ?_
    show z_Wp m_X1_missed _ 55 [(0, zR 55), (1, zI a0), (2, zI (F_K_wellOf w a0))] [zI (F_K_inside w (-1)), zI (F_K_above w a0 (zz_and ((zz_shl 1 (w 32 2)) - 1) (zz_xor (F_K_inside w (-1)) (-1)))), zI a0, zI (F_K_wellOf w a0), zR 55] w _
    refine z_invV (as := [zI (F_K_wellOf w a0), zI a0, zI (F_K_above w a0 (zz_and ((zz_shl 1 (w 32 2)) - 1) (zz_xor (F_K_inside w (-1)) (-1)))), zI (F_K_inside w (-1))]) (st := []) (C := m_X1_missedIn) (fs := [32, 43, 58, 59, 0, 0]) (pc' := 58) dX1_missed_55 rfl t_4_78 k_X1_missedIn rfl (by decide) rfl rfl rfl rfl (Nat.le_of_ble_eq_true rfl) ?_
    have r5 := h
    refine c_G_missedIn r5 ?_
    show z_Wp m_X1_missed _ 58 [(0, zR 55), (1, zI a0), (2, zI (F_K_wellOf w a0))] [zI ((F_G_missedIn w (F_K_wellOf w a0) a0 (F_K_above w a0 (zz_and ((zz_shl 1 (w 32 2)) - 1) (zz_xor (F_K_inside w (-1)) (-1)))) (F_K_inside w (-1))).1)] ((F_G_missedIn w (F_K_wellOf w a0) a0 (F_K_above w a0 (zz_and ((zz_shl 1 (w 32 2)) - 1) (zz_xor (F_K_inside w (-1)) (-1)))) (F_K_inside w (-1))).2) _
    refine z_iret rfl dX1_missed_58 ?_
    exact k
  · have h := h.2 c
    rw [if_neg c] at k
    refine z_aload_n (pc' := 12) 0 rfl rfl dX1_missed_11 rfl ?_
    refine z_getR (t := 30) (pc' := 15) g_X1_25 (by decide) rfl rfl dX1_missed_12 rfl ?_
    refine z_invV (as := []) (st := []) (C := m_X6_wells) (fs := [33, 34]) (pc' := 18) dX1_missed_15 rfl t_5_129 k_X6_wells rfl (by decide) rfl rfl rfl rfl (Nat.le_of_ble_eq_true rfl) ?_
    refine c_Y_wells ?_
    show z_Wp m_X1_missed _ 18 [(0, zR 55), (1, zI a0)] [zI (w 32 1)] w _
    refine z_goto 29 dX1_missed_18 (by decide) ?_
    refine z_istore_n (pc' := 30) (ls' := [(0, zR 55), (1, zI a0), (2, zI (w 32 1))]) rfl (by decide) rfl rfl dX1_missed_29 rfl ?_
    refine z_aload_n (pc' := 31) 0 rfl rfl dX1_missed_30 rfl ?_
    refine z_iload_n (pc' := 32) 2 rfl rfl dX1_missed_31 rfl ?_
    refine z_iload_n (pc' := 33) 1 rfl rfl dX1_missed_32 rfl ?_
    refine z_aload_n (pc' := 34) 0 rfl rfl dX1_missed_33 rfl ?_
    refine z_getR (t := 41) (pc' := 37) g_X1_29 (by decide) rfl rfl dX1_missed_34 rfl ?_
    refine z_iload_n (pc' := 38) 1 rfl rfl dX1_missed_37 rfl ?_
    refine z_aload_n (pc' := 39) 0 rfl rfl dX1_missed_38 rfl ?_
    refine z_getR (t := 41) (pc' := 42) g_X1_29 (by decide) rfl rfl dX1_missed_39 rfl ?_
    refine z_invV (as := []) (st := [zI a0, zR 41, zI a0, zI (w 32 1), zR 55]) (C := m_X3_drowned) (fs := [32, 44, 45, 46, 47, 48, 0, 0, 0]) (pc' := 45) dX1_missed_42 rfl t_4_70 k_X3_drowned rfl (by decide) rfl rfl rfl rfl (Nat.le_of_ble_eq_true rfl) ?_
    obtain ⟨r6, h⟩ := h
    refine c_K_drowned r6 ?_
    show z_Wp m_X1_missed _ 45 [(0, zR 55), (1, zI a0), (2, zI (w 32 1))] [zI (zz_and ((zz_shl 1 (w 32 2)) - 1) (zz_xor (F_K_inside w (-1)) (-1))), zI a0, zR 41, zI a0, zI (w 32 1), zR 55] w _
    refine z_invV (as := [zI a0, zI (zz_and ((zz_shl 1 (w 32 2)) - 1) (zz_xor (F_K_inside w (-1)) (-1)))]) (st := [zI a0, zI (w 32 1), zR 55]) (C := m_X3_above) (fs := [32, 44, 45, 46, 47, 48, 0, 0, 0]) (pc' := 48) dX1_missed_45 rfl t_4_77 k_X3_above rfl (by decide) rfl rfl rfl rfl (Nat.le_of_ble_eq_true rfl) ?_
    obtain ⟨r7, h⟩ := h
    refine c_K_above r7 ?_
    show z_Wp m_X1_missed _ 48 [(0, zR 55), (1, zI a0), (2, zI (w 32 1))] [zI (F_K_above w a0 (zz_and ((zz_shl 1 (w 32 2)) - 1) (zz_xor (F_K_inside w (-1)) (-1)))), zI a0, zI (w 32 1), zR 55] w _
    refine z_aload_n (pc' := 49) 0 rfl rfl dX1_missed_48 rfl ?_
    refine z_getR (t := 41) (pc' := 52) g_X1_29 (by decide) rfl rfl dX1_missed_49 rfl ?_
    refine z_invV (as := []) (st := [zI (F_K_above w a0 (zz_and ((zz_shl 1 (w 32 2)) - 1) (zz_xor (F_K_inside w (-1)) (-1)))), zI a0, zI (w 32 1), zR 55]) (C := m_X3_free) (fs := [32, 44, 45, 46, 47, 48, 0, 0, 0]) (pc' := 55) dX1_missed_52 rfl t_4_71 k_X3_free rfl (by decide) rfl rfl rfl rfl (Nat.le_of_ble_eq_true rfl) ?_
    refine c_K_free r6 ?_
    show z_Wp m_X1_missed _ 55 [(0, zR 55), (1, zI a0), (2, zI (w 32 1))] [zI (F_K_inside w (-1)), zI (F_K_above w a0 (zz_and ((zz_shl 1 (w 32 2)) - 1) (zz_xor (F_K_inside w (-1)) (-1)))), zI a0, zI (w 32 1), zR 55] w _
    refine z_invV (as := [zI (w 32 1), zI a0, zI (F_K_above w a0 (zz_and ((zz_shl 1 (w 32 2)) - 1) (zz_xor (F_K_inside w (-1)) (-1)))), zI (F_K_inside w (-1))]) (st := []) (C := m_X1_missedIn) (fs := [32, 43, 58, 59, 0, 0]) (pc' := 58) dX1_missed_55 rfl t_4_78 k_X1_missedIn rfl (by decide) rfl rfl rfl rfl (Nat.le_of_ble_eq_true rfl) ?_
    have r8 := h
    refine c_G_missedIn r8 ?_
    show z_Wp m_X1_missed _ 58 [(0, zR 55), (1, zI a0), (2, zI (w 32 1))] [zI ((F_G_missedIn w (w 32 1) a0 (F_K_above w a0 (zz_and ((zz_shl 1 (w 32 2)) - 1) (zz_xor (F_K_inside w (-1)) (-1)))) (F_K_inside w (-1))).1)] ((F_G_missedIn w (w 32 1) a0 (F_K_above w a0 (zz_and ((zz_shl 1 (w 32 2)) - 1) (zz_xor (F_K_inside w (-1)) (-1)))) (F_K_inside w (-1))).2) _
    refine z_iret rfl dX1_missed_58 ?_
    exact k
def P_G_ofDrowned (w : z_Wd)  : Prop := P_G_withoutThese w 0
def F_G_ofDrowned (w : z_Wd)  : Int × z_Wd := ((F_G_withoutThese w 0).1, (F_G_withoutThese w 0).2)
set_option maxRecDepth 4000 in
theorem c_G_ofDrowned {d : Nat} {w : z_Wd} {Q : Option z_V → z_Wd → Prop} (h : P_G_ofDrowned w ) (k : Q (some (zI (F_G_ofDrowned w ).1)) (F_G_ofDrowned w ).2) : z_Wc (d + 6) m_X1_ofDrowned [zR 55] w Q := by
  unfold P_G_ofDrowned at h
  unfold F_G_ofDrowned at k
  refine z_enter rfl (Nat.le_of_ble_eq_true rfl) ?_
  show z_Wp m_X1_ofDrowned _ 0 [(0, zR 55)] [] w _
  refine z_aload_n (pc' := 1) 0 rfl rfl dX1_ofDrowned_0 rfl ?_
  refine z_iconst (pc' := 2) dX1_ofDrowned_1 rfl ?_
  refine z_invV (as := [zI 0]) (st := []) (C := m_X1_withoutThese) (fs := [32, 43, 58, 59, 0, 0]) (pc' := 5) dX1_ofDrowned_2 rfl t_4_66 k_X1_withoutThese rfl (by decide) rfl rfl rfl rfl (Nat.le_of_ble_eq_true rfl) ?_
  have r1 := h
  refine c_G_withoutThese r1 ?_
  show z_Wp m_X1_ofDrowned _ 5 [(0, zR 55)] [zI ((F_G_withoutThese w 0).1)] ((F_G_withoutThese w 0).2) _
  refine z_iret rfl dX1_ofDrowned_5 ?_
  exact k
def A_G_leastMissed_6 (w : z_Wd)  : Nat → Int × Int × z_Wd
  | 0 => ((-1), 0, w)
  | i11 + 1 => if F_K_isFree ((A_G_leastMissed_6 w i11).2.2) (i11 : Int) = 0 then ((A_G_leastMissed_6 w i11).1, (A_G_leastMissed_6 w i11).2.1, (A_G_leastMissed_6 w i11).2.2) else if F_G_lowestTaking ((A_G_leastMissed_6 w i11).2.2) (i11 : Int) = (-1) then ((A_G_leastMissed_6 w i11).1, (A_G_leastMissed_6 w i11).2.1, (A_G_leastMissed_6 w i11).2.2) else if (A_G_leastMissed_6 w i11).1 = (-1) then ((i11 : Int), (F_G_missedIn ((A_G_leastMissed_6 w i11).2.2) (F_G_lowestTaking ((A_G_leastMissed_6 w i11).2.2) (i11 : Int)) (i11 : Int) 0 (zz_and (F_K_inside ((A_G_leastMissed_6 w i11).2.2) (-1)) (zz_xor (zz_shl 1 (i11 : Int)) (-1)))).1, (F_G_missedIn ((A_G_leastMissed_6 w i11).2.2) (F_G_lowestTaking ((A_G_leastMissed_6 w i11).2.2) (i11 : Int)) (i11 : Int) 0 (zz_and (F_K_inside ((A_G_leastMissed_6 w i11).2.2) (-1)) (zz_xor (zz_shl 1 (i11 : Int)) (-1)))).2) else if (F_G_missedIn ((A_G_leastMissed_6 w i11).2.2) (F_G_lowestTaking ((A_G_leastMissed_6 w i11).2.2) (i11 : Int)) (i11 : Int) 0 (zz_and (F_K_inside ((A_G_leastMissed_6 w i11).2.2) (-1)) (zz_xor (zz_shl 1 (i11 : Int)) (-1)))).1 ≥ (A_G_leastMissed_6 w i11).2.1 then ((A_G_leastMissed_6 w i11).1, (A_G_leastMissed_6 w i11).2.1, (F_G_missedIn ((A_G_leastMissed_6 w i11).2.2) (F_G_lowestTaking ((A_G_leastMissed_6 w i11).2.2) (i11 : Int)) (i11 : Int) 0 (zz_and (F_K_inside ((A_G_leastMissed_6 w i11).2.2) (-1)) (zz_xor (zz_shl 1 (i11 : Int)) (-1)))).2) else ((i11 : Int), (F_G_missedIn ((A_G_leastMissed_6 w i11).2.2) (F_G_lowestTaking ((A_G_leastMissed_6 w i11).2.2) (i11 : Int)) (i11 : Int) 0 (zz_and (F_K_inside ((A_G_leastMissed_6 w i11).2.2) (-1)) (zz_xor (zz_shl 1 (i11 : Int)) (-1)))).1, (F_G_missedIn ((A_G_leastMissed_6 w i11).2.2) (F_G_lowestTaking ((A_G_leastMissed_6 w i11).2.2) (i11 : Int)) (i11 : Int) 0 (zz_and (F_K_inside ((A_G_leastMissed_6 w i11).2.2) (-1)) (zz_xor (zz_shl 1 (i11 : Int)) (-1)))).2)
def P_G_leastMissed (w : z_Wd)  : Prop := (∀ i11 : Nat, i11 < ((w 32 2).toNat) → (-2147483648 ≤ (i11 : Int) ∧ (i11 : Int) < 2147483648) ∧ (-2147483648 ≤ ((A_G_leastMissed_6 w i11).2.2) 32 2 ∧ ((A_G_leastMissed_6 w i11).2.2) 32 2 < 2147483648) ∧ (((A_G_leastMissed_6 w i11).2.2) 32 2 = w 32 2) ∧ (P_K_isFree ((A_G_leastMissed_6 w i11).2.2) (i11 : Int)) ∧ ((F_K_isFree ((A_G_leastMissed_6 w i11).2.2) (i11 : Int) = 0 → True) ∧ (¬ (F_K_isFree ((A_G_leastMissed_6 w i11).2.2) (i11 : Int) = 0) → (P_G_lowestTaking ((A_G_leastMissed_6 w i11).2.2) (i11 : Int)) ∧ (-2147483648 ≤ F_G_lowestTaking ((A_G_leastMissed_6 w i11).2.2) (i11 : Int) ∧ F_G_lowestTaking ((A_G_leastMissed_6 w i11).2.2) (i11 : Int) < 2147483648) ∧ ((F_G_lowestTaking ((A_G_leastMissed_6 w i11).2.2) (i11 : Int) = (-1) → True) ∧ (¬ (F_G_lowestTaking ((A_G_leastMissed_6 w i11).2.2) (i11 : Int) = (-1)) → (P_K_inside ((A_G_leastMissed_6 w i11).2.2) (-1)) ∧ (P_G_missedIn ((A_G_leastMissed_6 w i11).2.2) (F_G_lowestTaking ((A_G_leastMissed_6 w i11).2.2) (i11 : Int)) (i11 : Int) 0 (zz_and (F_K_inside ((A_G_leastMissed_6 w i11).2.2) (-1)) (zz_xor (zz_shl 1 (i11 : Int)) (-1)))) ∧ (-2147483648 ≤ (A_G_leastMissed_6 w i11).1 ∧ (A_G_leastMissed_6 w i11).1 < 2147483648) ∧ (((A_G_leastMissed_6 w i11).1 = (-1) → True) ∧ (¬ ((A_G_leastMissed_6 w i11).1 = (-1)) → (-2147483648 ≤ (F_G_missedIn ((A_G_leastMissed_6 w i11).2.2) (F_G_lowestTaking ((A_G_leastMissed_6 w i11).2.2) (i11 : Int)) (i11 : Int) 0 (zz_and (F_K_inside ((A_G_leastMissed_6 w i11).2.2) (-1)) (zz_xor (zz_shl 1 (i11 : Int)) (-1)))).1 ∧ (F_G_missedIn ((A_G_leastMissed_6 w i11).2.2) (F_G_lowestTaking ((A_G_leastMissed_6 w i11).2.2) (i11 : Int)) (i11 : Int) 0 (zz_and (F_K_inside ((A_G_leastMissed_6 w i11).2.2) (-1)) (zz_xor (zz_shl 1 (i11 : Int)) (-1)))).1 < 2147483648) ∧ (-2147483648 ≤ (A_G_leastMissed_6 w i11).2.1 ∧ (A_G_leastMissed_6 w i11).2.1 < 2147483648)))))))) ∧ ((-2147483648 ≤ (((w 32 2).toNat : Nat) : Int) ∧ (((w 32 2).toNat : Nat) : Int) < 2147483648) ∧ (-2147483648 ≤ ((A_G_leastMissed_6 w (w 32 2).toNat).2.2) 32 2 ∧ ((A_G_leastMissed_6 w (w 32 2).toNat).2.2) 32 2 < 2147483648) ∧ (((A_G_leastMissed_6 w (w 32 2).toNat).2.2) 32 2 = w 32 2))
def F_G_leastMissed (w : z_Wd)  : Int × z_Wd := ((A_G_leastMissed_6 w (w 32 2).toNat).1, (A_G_leastMissed_6 w (w 32 2).toNat).2.2)
set_option maxRecDepth 4000 in
theorem c_G_leastMissed {d : Nat} {w : z_Wd} {Q : Option z_V → z_Wd → Prop} (h : P_G_leastMissed w ) (k : Q (some (zI (F_G_leastMissed w ).1)) (F_G_leastMissed w ).2) : z_Wc (d + 5) m_X1_leastMissed [zR 55] w Q := by
  unfold P_G_leastMissed at h
  unfold F_G_leastMissed at k
  refine z_enter rfl (Nat.le_of_ble_eq_true rfl) ?_
  show z_Wp m_X1_leastMissed _ 0 [(0, zR 55)] [] w _
  refine z_iconst (pc' := 1) dX1_leastMissed_0 rfl ?_
  refine z_istore_n (pc' := 2) (ls' := [(0, zR 55), (1, zI (-1))]) rfl (by decide) rfl rfl dX1_leastMissed_1 rfl ?_
  refine z_iconst (pc' := 3) dX1_leastMissed_2 rfl ?_
  refine z_istore_n (pc' := 4) (ls' := [(0, zR 55), (1, zI (-1)), (2, zI 0)]) rfl (by decide) rfl rfl dX1_leastMissed_3 rfl ?_
  refine z_iconst (pc' := 5) dX1_leastMissed_4 rfl ?_
  refine z_istore_n (pc' := 6) (ls' := [(0, zR 55), (1, zI (-1)), (2, zI 0), (3, zI 0)]) rfl (by decide) rfl rfl dX1_leastMissed_5 rfl ?_
  refine z_upto ((w 32 2).toNat) (fun i11 => z_Wp m_X1_leastMissed (d + 5) 6 [(0, zR 55), (1, zI ((A_G_leastMissed_6 w i11).1)), (2, zI ((A_G_leastMissed_6 w i11).2.1)), (3, zI (i11 : Int))] [] ((A_G_leastMissed_6 w i11).2.2) Q) ?_ ?_
  · skip
    have h := h.2
    refine z_iload_n (pc' := 7) 3 rfl rfl dX1_leastMissed_6 rfl ?_
    refine z_aload_n (pc' := 8) 0 rfl rfl dX1_leastMissed_7 rfl ?_
    refine z_getR (t := 30) (pc' := 11) g_X1_25 (by decide) rfl rfl dX1_leastMissed_8 rfl ?_
    refine z_invV (as := []) (st := [zI (((w 32 2).toNat : Nat) : Int)]) (C := m_X6_names) (fs := [33, 34]) (pc' := 14) dX1_leastMissed_11 rfl t_4_75 k_X6_names rfl (by decide) rfl rfl rfl rfl (Nat.le_of_ble_eq_true rfl) ?_
    refine c_Y_names ?_
    show z_Wp m_X1_leastMissed _ 14 [(0, zR 55), (1, zI ((A_G_leastMissed_6 w (w 32 2).toNat).1)), (2, zI ((A_G_leastMissed_6 w (w 32 2).toNat).2.1)), (3, zI (((w 32 2).toNat : Nat) : Int))] [zI (((A_G_leastMissed_6 w (w 32 2).toNat).2.2) 32 2), zI (((w 32 2).toNat : Nat) : Int)] ((A_G_leastMissed_6 w (w 32 2).toNat).2.2) _
    obtain ⟨r23, h⟩ := h
    obtain ⟨r24, h⟩ := h
    have r25 := h
    refine z_icmp_ge 90 dX1_leastMissed_14 (by decide) (pc' := 17) rfl r23 r24 (fun _ => ?_) (fun c => absurd c (by first | omega | (rw [r25]; first | exact z_exitgt | exact z_exitge | omega)))
    refine z_iload_n (pc' := 91) 1 rfl rfl dX1_leastMissed_90 rfl ?_
    refine z_iret rfl dX1_leastMissed_91 ?_
    exact k
  · intro i11 hi ih
    have h := h.1 i11 hi
    have ih : z_Wp m_X1_leastMissed (d + 5) 6 [(0, zR 55), (1, zI ((if F_K_isFree ((A_G_leastMissed_6 w i11).2.2) (i11 : Int) = 0 then ((A_G_leastMissed_6 w i11).1, (A_G_leastMissed_6 w i11).2.1, (A_G_leastMissed_6 w i11).2.2) else if F_G_lowestTaking ((A_G_leastMissed_6 w i11).2.2) (i11 : Int) = (-1) then ((A_G_leastMissed_6 w i11).1, (A_G_leastMissed_6 w i11).2.1, (A_G_leastMissed_6 w i11).2.2) else if (A_G_leastMissed_6 w i11).1 = (-1) then ((i11 : Int), (F_G_missedIn ((A_G_leastMissed_6 w i11).2.2) (F_G_lowestTaking ((A_G_leastMissed_6 w i11).2.2) (i11 : Int)) (i11 : Int) 0 (zz_and (F_K_inside ((A_G_leastMissed_6 w i11).2.2) (-1)) (zz_xor (zz_shl 1 (i11 : Int)) (-1)))).1, (F_G_missedIn ((A_G_leastMissed_6 w i11).2.2) (F_G_lowestTaking ((A_G_leastMissed_6 w i11).2.2) (i11 : Int)) (i11 : Int) 0 (zz_and (F_K_inside ((A_G_leastMissed_6 w i11).2.2) (-1)) (zz_xor (zz_shl 1 (i11 : Int)) (-1)))).2) else if (F_G_missedIn ((A_G_leastMissed_6 w i11).2.2) (F_G_lowestTaking ((A_G_leastMissed_6 w i11).2.2) (i11 : Int)) (i11 : Int) 0 (zz_and (F_K_inside ((A_G_leastMissed_6 w i11).2.2) (-1)) (zz_xor (zz_shl 1 (i11 : Int)) (-1)))).1 ≥ (A_G_leastMissed_6 w i11).2.1 then ((A_G_leastMissed_6 w i11).1, (A_G_leastMissed_6 w i11).2.1, (F_G_missedIn ((A_G_leastMissed_6 w i11).2.2) (F_G_lowestTaking ((A_G_leastMissed_6 w i11).2.2) (i11 : Int)) (i11 : Int) 0 (zz_and (F_K_inside ((A_G_leastMissed_6 w i11).2.2) (-1)) (zz_xor (zz_shl 1 (i11 : Int)) (-1)))).2) else ((i11 : Int), (F_G_missedIn ((A_G_leastMissed_6 w i11).2.2) (F_G_lowestTaking ((A_G_leastMissed_6 w i11).2.2) (i11 : Int)) (i11 : Int) 0 (zz_and (F_K_inside ((A_G_leastMissed_6 w i11).2.2) (-1)) (zz_xor (zz_shl 1 (i11 : Int)) (-1)))).1, (F_G_missedIn ((A_G_leastMissed_6 w i11).2.2) (F_G_lowestTaking ((A_G_leastMissed_6 w i11).2.2) (i11 : Int)) (i11 : Int) 0 (zz_and (F_K_inside ((A_G_leastMissed_6 w i11).2.2) (-1)) (zz_xor (zz_shl 1 (i11 : Int)) (-1)))).2)).1)), (2, zI ((if F_K_isFree ((A_G_leastMissed_6 w i11).2.2) (i11 : Int) = 0 then ((A_G_leastMissed_6 w i11).1, (A_G_leastMissed_6 w i11).2.1, (A_G_leastMissed_6 w i11).2.2) else if F_G_lowestTaking ((A_G_leastMissed_6 w i11).2.2) (i11 : Int) = (-1) then ((A_G_leastMissed_6 w i11).1, (A_G_leastMissed_6 w i11).2.1, (A_G_leastMissed_6 w i11).2.2) else if (A_G_leastMissed_6 w i11).1 = (-1) then ((i11 : Int), (F_G_missedIn ((A_G_leastMissed_6 w i11).2.2) (F_G_lowestTaking ((A_G_leastMissed_6 w i11).2.2) (i11 : Int)) (i11 : Int) 0 (zz_and (F_K_inside ((A_G_leastMissed_6 w i11).2.2) (-1)) (zz_xor (zz_shl 1 (i11 : Int)) (-1)))).1, (F_G_missedIn ((A_G_leastMissed_6 w i11).2.2) (F_G_lowestTaking ((A_G_leastMissed_6 w i11).2.2) (i11 : Int)) (i11 : Int) 0 (zz_and (F_K_inside ((A_G_leastMissed_6 w i11).2.2) (-1)) (zz_xor (zz_shl 1 (i11 : Int)) (-1)))).2) else if (F_G_missedIn ((A_G_leastMissed_6 w i11).2.2) (F_G_lowestTaking ((A_G_leastMissed_6 w i11).2.2) (i11 : Int)) (i11 : Int) 0 (zz_and (F_K_inside ((A_G_leastMissed_6 w i11).2.2) (-1)) (zz_xor (zz_shl 1 (i11 : Int)) (-1)))).1 ≥ (A_G_leastMissed_6 w i11).2.1 then ((A_G_leastMissed_6 w i11).1, (A_G_leastMissed_6 w i11).2.1, (F_G_missedIn ((A_G_leastMissed_6 w i11).2.2) (F_G_lowestTaking ((A_G_leastMissed_6 w i11).2.2) (i11 : Int)) (i11 : Int) 0 (zz_and (F_K_inside ((A_G_leastMissed_6 w i11).2.2) (-1)) (zz_xor (zz_shl 1 (i11 : Int)) (-1)))).2) else ((i11 : Int), (F_G_missedIn ((A_G_leastMissed_6 w i11).2.2) (F_G_lowestTaking ((A_G_leastMissed_6 w i11).2.2) (i11 : Int)) (i11 : Int) 0 (zz_and (F_K_inside ((A_G_leastMissed_6 w i11).2.2) (-1)) (zz_xor (zz_shl 1 (i11 : Int)) (-1)))).1, (F_G_missedIn ((A_G_leastMissed_6 w i11).2.2) (F_G_lowestTaking ((A_G_leastMissed_6 w i11).2.2) (i11 : Int)) (i11 : Int) 0 (zz_and (F_K_inside ((A_G_leastMissed_6 w i11).2.2) (-1)) (zz_xor (zz_shl 1 (i11 : Int)) (-1)))).2)).2.1)), (3, zI ((i11 + 1 : Nat) : Int))] [] ((if F_K_isFree ((A_G_leastMissed_6 w i11).2.2) (i11 : Int) = 0 then ((A_G_leastMissed_6 w i11).1, (A_G_leastMissed_6 w i11).2.1, (A_G_leastMissed_6 w i11).2.2) else if F_G_lowestTaking ((A_G_leastMissed_6 w i11).2.2) (i11 : Int) = (-1) then ((A_G_leastMissed_6 w i11).1, (A_G_leastMissed_6 w i11).2.1, (A_G_leastMissed_6 w i11).2.2) else if (A_G_leastMissed_6 w i11).1 = (-1) then ((i11 : Int), (F_G_missedIn ((A_G_leastMissed_6 w i11).2.2) (F_G_lowestTaking ((A_G_leastMissed_6 w i11).2.2) (i11 : Int)) (i11 : Int) 0 (zz_and (F_K_inside ((A_G_leastMissed_6 w i11).2.2) (-1)) (zz_xor (zz_shl 1 (i11 : Int)) (-1)))).1, (F_G_missedIn ((A_G_leastMissed_6 w i11).2.2) (F_G_lowestTaking ((A_G_leastMissed_6 w i11).2.2) (i11 : Int)) (i11 : Int) 0 (zz_and (F_K_inside ((A_G_leastMissed_6 w i11).2.2) (-1)) (zz_xor (zz_shl 1 (i11 : Int)) (-1)))).2) else if (F_G_missedIn ((A_G_leastMissed_6 w i11).2.2) (F_G_lowestTaking ((A_G_leastMissed_6 w i11).2.2) (i11 : Int)) (i11 : Int) 0 (zz_and (F_K_inside ((A_G_leastMissed_6 w i11).2.2) (-1)) (zz_xor (zz_shl 1 (i11 : Int)) (-1)))).1 ≥ (A_G_leastMissed_6 w i11).2.1 then ((A_G_leastMissed_6 w i11).1, (A_G_leastMissed_6 w i11).2.1, (F_G_missedIn ((A_G_leastMissed_6 w i11).2.2) (F_G_lowestTaking ((A_G_leastMissed_6 w i11).2.2) (i11 : Int)) (i11 : Int) 0 (zz_and (F_K_inside ((A_G_leastMissed_6 w i11).2.2) (-1)) (zz_xor (zz_shl 1 (i11 : Int)) (-1)))).2) else ((i11 : Int), (F_G_missedIn ((A_G_leastMissed_6 w i11).2.2) (F_G_lowestTaking ((A_G_leastMissed_6 w i11).2.2) (i11 : Int)) (i11 : Int) 0 (zz_and (F_K_inside ((A_G_leastMissed_6 w i11).2.2) (-1)) (zz_xor (zz_shl 1 (i11 : Int)) (-1)))).1, (F_G_missedIn ((A_G_leastMissed_6 w i11).2.2) (F_G_lowestTaking ((A_G_leastMissed_6 w i11).2.2) (i11 : Int)) (i11 : Int) 0 (zz_and (F_K_inside ((A_G_leastMissed_6 w i11).2.2) (-1)) (zz_xor (zz_shl 1 (i11 : Int)) (-1)))).2)).2.2) Q := ih
    refine z_iload_n (pc' := 7) 3 rfl rfl dX1_leastMissed_6 rfl ?_
    refine z_aload_n (pc' := 8) 0 rfl rfl dX1_leastMissed_7 rfl ?_
    refine z_getR (t := 30) (pc' := 11) g_X1_25 (by decide) rfl rfl dX1_leastMissed_8 rfl ?_
    refine z_invV (as := []) (st := [zI (i11 : Int)]) (C := m_X6_names) (fs := [33, 34]) (pc' := 14) dX1_leastMissed_11 rfl t_4_75 k_X6_names rfl (by decide) rfl rfl rfl rfl (Nat.le_of_ble_eq_true rfl) ?_
    refine c_Y_names ?_
    show z_Wp m_X1_leastMissed _ 14 [(0, zR 55), (1, zI ((A_G_leastMissed_6 w i11).1)), (2, zI ((A_G_leastMissed_6 w i11).2.1)), (3, zI (i11 : Int))] [zI (((A_G_leastMissed_6 w i11).2.2) 32 2), zI (i11 : Int)] ((A_G_leastMissed_6 w i11).2.2) _
    obtain ⟨r12, h⟩ := h
    obtain ⟨r13, h⟩ := h
    obtain ⟨r14, h⟩ := h
    refine z_icmp_ge 90 dX1_leastMissed_14 (by decide) (pc' := 17) rfl r12 r13 (fun c => absurd c (by first | omega | (rw [r14]; first | exact z_exitgt | exact z_exitge | omega))) (fun _ => ?_)
    refine z_aload_n (pc' := 18) 0 rfl rfl dX1_leastMissed_17 rfl ?_
    refine z_getR (t := 41) (pc' := 21) g_X1_29 (by decide) rfl rfl dX1_leastMissed_18 rfl ?_
    refine z_iload_n (pc' := 22) 3 rfl rfl dX1_leastMissed_21 rfl ?_
    refine z_invV (as := [zI (i11 : Int)]) (st := []) (C := m_X3_isFree) (fs := [32, 44, 45, 46, 47, 48, 0, 0, 0]) (pc' := 25) dX1_leastMissed_22 rfl t_5_124 k_X3_isFree rfl (by decide) rfl rfl rfl rfl (Nat.le_of_ble_eq_true rfl) ?_
    obtain ⟨r15, h⟩ := h
    refine c_K_isFree r15 ?_
    show z_Wp m_X1_leastMissed _ 25 [(0, zR 55), (1, zI ((A_G_leastMissed_6 w i11).1)), (2, zI ((A_G_leastMissed_6 w i11).2.1)), (3, zI (i11 : Int))] [zI (F_K_isFree ((A_G_leastMissed_6 w i11).2.2) (i11 : Int))] ((A_G_leastMissed_6 w i11).2.2) _
    refine z_if_eq 36 dX1_leastMissed_25 (by decide) (pc' := 28) rfl (z_rb b_K_isFree) (fun c126 => ?_) (fun c126 => ?_)
    · have h := h.1 c126
      rw [if_pos c126] at ih
      refine z_iconst (pc' := 37) dX1_leastMissed_36 rfl ?_
      refine z_istore (pc' := 39) (ls' := [(0, zR 55), (1, zI ((A_G_leastMissed_6 w i11).1)), (2, zI ((A_G_leastMissed_6 w i11).2.1)), (3, zI (i11 : Int)), (4, zI (-1))]) (by decide) rfl rfl dX1_leastMissed_37 rfl ?_
      refine z_iload (pc' := 41) 4 rfl dX1_leastMissed_39 rfl ?_
      refine z_iconst (pc' := 42) dX1_leastMissed_41 rfl ?_
      refine z_icmp_eq 84 dX1_leastMissed_42 (by decide) (pc' := 45) rfl (by decide) (by decide) (fun _ => ?_) (fun c => absurd c (by decide))
      refine z_iinc (pc' := 87) (ls' := [(0, zR 55), (1, zI ((A_G_leastMissed_6 w i11).1)), (2, zI ((A_G_leastMissed_6 w i11).2.1)), (3, zI ((i11 : Int) + 1)), (4, zI (-1))]) 3 rfl (by decide) rfl rfl dX1_leastMissed_84 rfl ?_
      refine z_goto 6 dX1_leastMissed_87 (by decide) ?_
      exact z_Wp.sub (ls' := [(0, zR 55), (1, zI ((A_G_leastMissed_6 w i11).1)), (2, zI ((A_G_leastMissed_6 w i11).2.1)), (3, zI ((i11 : Int) + 1))]) (z_lcast (by rw [z_c0 i11]) ih) (z_sub_of [0, 1, 2, 3] rfl)
    · have h := h.2 c126
      rw [if_neg c126] at ih
      refine z_aload_n (pc' := 29) 0 rfl rfl dX1_leastMissed_28 rfl ?_
      refine z_iload_n (pc' := 30) 3 rfl rfl dX1_leastMissed_29 rfl ?_
      refine z_invV (as := [zI (i11 : Int)]) (st := []) (C := m_X1_lowestTaking) (fs := [32, 43, 58, 59, 0, 0]) (pc' := 33) dX1_leastMissed_30 rfl t_5_125 k_X1_lowestTaking rfl (by decide) rfl rfl rfl rfl (Nat.le_of_ble_eq_true rfl) ?_
      obtain ⟨r16, h⟩ := h
      refine c_G_lowestTaking r16 ?_
      show z_Wp m_X1_leastMissed _ 33 [(0, zR 55), (1, zI ((A_G_leastMissed_6 w i11).1)), (2, zI ((A_G_leastMissed_6 w i11).2.1)), (3, zI (i11 : Int))] [zI (F_G_lowestTaking ((A_G_leastMissed_6 w i11).2.2) (i11 : Int))] ((A_G_leastMissed_6 w i11).2.2) _
      refine z_goto 37 dX1_leastMissed_33 (by decide) ?_
      refine z_istore (pc' := 39) (ls' := [(0, zR 55), (1, zI ((A_G_leastMissed_6 w i11).1)), (2, zI ((A_G_leastMissed_6 w i11).2.1)), (3, zI (i11 : Int)), (4, zI (F_G_lowestTaking ((A_G_leastMissed_6 w i11).2.2) (i11 : Int)))]) (by decide) rfl rfl dX1_leastMissed_37 rfl ?_
      refine z_iload (pc' := 41) 4 rfl dX1_leastMissed_39 rfl ?_
      refine z_iconst (pc' := 42) dX1_leastMissed_41 rfl ?_
      obtain ⟨r17, h⟩ := h
      refine z_icmp_eq 84 dX1_leastMissed_42 (by decide) (pc' := 45) rfl r17 (by decide) (fun c127 => ?_) (fun c127 => ?_)
      · have h := h.1 c127
        rw [if_pos c127] at ih
        refine z_iinc (pc' := 87) (ls' := [(0, zR 55), (1, zI ((A_G_leastMissed_6 w i11).1)), (2, zI ((A_G_leastMissed_6 w i11).2.1)), (3, zI ((i11 : Int) + 1)), (4, zI (F_G_lowestTaking ((A_G_leastMissed_6 w i11).2.2) (i11 : Int)))]) 3 rfl (by decide) rfl rfl dX1_leastMissed_84 rfl ?_
        refine z_goto 6 dX1_leastMissed_87 (by decide) ?_
        exact z_Wp.sub (ls' := [(0, zR 55), (1, zI ((A_G_leastMissed_6 w i11).1)), (2, zI ((A_G_leastMissed_6 w i11).2.1)), (3, zI ((i11 : Int) + 1))]) (z_lcast (by rw [z_c0 i11]) ih) (z_sub_of [0, 1, 2, 3] rfl)
      · have h := h.2 c127
        rw [if_neg c127] at ih
        refine z_aload_n (pc' := 46) 0 rfl rfl dX1_leastMissed_45 rfl ?_
        refine z_iload (pc' := 48) 4 rfl dX1_leastMissed_46 rfl ?_
        refine z_iload_n (pc' := 49) 3 rfl rfl dX1_leastMissed_48 rfl ?_
        refine z_iconst (pc' := 50) dX1_leastMissed_49 rfl ?_
        refine z_aload_n (pc' := 51) 0 rfl rfl dX1_leastMissed_50 rfl ?_
        refine z_getR (t := 41) (pc' := 54) g_X1_29 (by decide) rfl rfl dX1_leastMissed_51 rfl ?_
        refine z_invV (as := []) (st := [zI 0, zI (i11 : Int), zI (F_G_lowestTaking ((A_G_leastMissed_6 w i11).2.2) (i11 : Int)), zR 55]) (C := m_X3_free) (fs := [32, 44, 45, 46, 47, 48, 0, 0, 0]) (pc' := 57) dX1_leastMissed_54 rfl t_4_71 k_X3_free rfl (by decide) rfl rfl rfl rfl (Nat.le_of_ble_eq_true rfl) ?_
        obtain ⟨r18, h⟩ := h
        refine c_K_free r18 ?_
        show z_Wp m_X1_leastMissed _ 57 [(0, zR 55), (1, zI ((A_G_leastMissed_6 w i11).1)), (2, zI ((A_G_leastMissed_6 w i11).2.1)), (3, zI (i11 : Int)), (4, zI (F_G_lowestTaking ((A_G_leastMissed_6 w i11).2.2) (i11 : Int)))] [zI (F_K_inside ((A_G_leastMissed_6 w i11).2.2) (-1)), zI 0, zI (i11 : Int), zI (F_G_lowestTaking ((A_G_leastMissed_6 w i11).2.2) (i11 : Int)), zR 55] ((A_G_leastMissed_6 w i11).2.2) _
        refine z_iconst (pc' := 58) dX1_leastMissed_57 rfl ?_
        refine z_iload_n (pc' := 59) 3 rfl rfl dX1_leastMissed_58 rfl ?_
        refine z_ishl (pc' := 60) dX1_leastMissed_59 rfl ?_
        refine z_iconst (pc' := 61) dX1_leastMissed_60 rfl ?_
        refine z_ixor (pc' := 62) dX1_leastMissed_61 rfl ?_
        refine z_iand (pc' := 63) dX1_leastMissed_62 rfl ?_
        refine z_invV (as := [zI (F_G_lowestTaking ((A_G_leastMissed_6 w i11).2.2) (i11 : Int)), zI (i11 : Int), zI 0, zI (zz_and (F_K_inside ((A_G_leastMissed_6 w i11).2.2) (-1)) (zz_xor (zz_shl 1 (i11 : Int)) (-1)))]) (st := []) (C := m_X1_missedIn) (fs := [32, 43, 58, 59, 0, 0]) (pc' := 66) dX1_leastMissed_63 rfl t_4_78 k_X1_missedIn rfl (by decide) rfl rfl rfl rfl (Nat.le_of_ble_eq_true rfl) ?_
        obtain ⟨r19, h⟩ := h
        refine c_G_missedIn r19 ?_
        show z_Wp m_X1_leastMissed _ 66 [(0, zR 55), (1, zI ((A_G_leastMissed_6 w i11).1)), (2, zI ((A_G_leastMissed_6 w i11).2.1)), (3, zI (i11 : Int)), (4, zI (F_G_lowestTaking ((A_G_leastMissed_6 w i11).2.2) (i11 : Int)))] [zI ((F_G_missedIn ((A_G_leastMissed_6 w i11).2.2) (F_G_lowestTaking ((A_G_leastMissed_6 w i11).2.2) (i11 : Int)) (i11 : Int) 0 (zz_and (F_K_inside ((A_G_leastMissed_6 w i11).2.2) (-1)) (zz_xor (zz_shl 1 (i11 : Int)) (-1)))).1)] ((F_G_missedIn ((A_G_leastMissed_6 w i11).2.2) (F_G_lowestTaking ((A_G_leastMissed_6 w i11).2.2) (i11 : Int)) (i11 : Int) 0 (zz_and (F_K_inside ((A_G_leastMissed_6 w i11).2.2) (-1)) (zz_xor (zz_shl 1 (i11 : Int)) (-1)))).2) _
        refine z_istore (pc' := 68) (ls' := [(0, zR 55), (1, zI ((A_G_leastMissed_6 w i11).1)), (2, zI ((A_G_leastMissed_6 w i11).2.1)), (3, zI (i11 : Int)), (4, zI (F_G_lowestTaking ((A_G_leastMissed_6 w i11).2.2) (i11 : Int))), (5, zI ((F_G_missedIn ((A_G_leastMissed_6 w i11).2.2) (F_G_lowestTaking ((A_G_leastMissed_6 w i11).2.2) (i11 : Int)) (i11 : Int) 0 (zz_and (F_K_inside ((A_G_leastMissed_6 w i11).2.2) (-1)) (zz_xor (zz_shl 1 (i11 : Int)) (-1)))).1))]) (by decide) rfl rfl dX1_leastMissed_66 rfl ?_
        refine z_iload_n (pc' := 69) 1 rfl rfl dX1_leastMissed_68 rfl ?_
        refine z_iconst (pc' := 70) dX1_leastMissed_69 rfl ?_
        obtain ⟨r20, h⟩ := h
        refine z_icmp_eq 79 dX1_leastMissed_70 (by decide) (pc' := 73) rfl r20 (by decide) (fun c128 => ?_) (fun c128 => ?_)
        · have h := h.1 c128
          rw [if_pos c128] at ih
          refine z_iload_n (pc' := 80) 3 rfl rfl dX1_leastMissed_79 rfl ?_
          refine z_istore_n (pc' := 81) (ls' := [(0, zR 55), (1, zI (i11 : Int)), (2, zI ((A_G_leastMissed_6 w i11).2.1)), (3, zI (i11 : Int)), (4, zI (F_G_lowestTaking ((A_G_leastMissed_6 w i11).2.2) (i11 : Int))), (5, zI ((F_G_missedIn ((A_G_leastMissed_6 w i11).2.2) (F_G_lowestTaking ((A_G_leastMissed_6 w i11).2.2) (i11 : Int)) (i11 : Int) 0 (zz_and (F_K_inside ((A_G_leastMissed_6 w i11).2.2) (-1)) (zz_xor (zz_shl 1 (i11 : Int)) (-1)))).1))]) rfl (by decide) rfl rfl dX1_leastMissed_80 rfl ?_
          refine z_iload (pc' := 83) 5 rfl dX1_leastMissed_81 rfl ?_
          refine z_istore_n (pc' := 84) (ls' := [(0, zR 55), (1, zI (i11 : Int)), (2, zI ((F_G_missedIn ((A_G_leastMissed_6 w i11).2.2) (F_G_lowestTaking ((A_G_leastMissed_6 w i11).2.2) (i11 : Int)) (i11 : Int) 0 (zz_and (F_K_inside ((A_G_leastMissed_6 w i11).2.2) (-1)) (zz_xor (zz_shl 1 (i11 : Int)) (-1)))).1)), (3, zI (i11 : Int)), (4, zI (F_G_lowestTaking ((A_G_leastMissed_6 w i11).2.2) (i11 : Int))), (5, zI ((F_G_missedIn ((A_G_leastMissed_6 w i11).2.2) (F_G_lowestTaking ((A_G_leastMissed_6 w i11).2.2) (i11 : Int)) (i11 : Int) 0 (zz_and (F_K_inside ((A_G_leastMissed_6 w i11).2.2) (-1)) (zz_xor (zz_shl 1 (i11 : Int)) (-1)))).1))]) rfl (by decide) rfl rfl dX1_leastMissed_83 rfl ?_
          refine z_iinc (pc' := 87) (ls' := [(0, zR 55), (1, zI (i11 : Int)), (2, zI ((F_G_missedIn ((A_G_leastMissed_6 w i11).2.2) (F_G_lowestTaking ((A_G_leastMissed_6 w i11).2.2) (i11 : Int)) (i11 : Int) 0 (zz_and (F_K_inside ((A_G_leastMissed_6 w i11).2.2) (-1)) (zz_xor (zz_shl 1 (i11 : Int)) (-1)))).1)), (3, zI ((i11 : Int) + 1)), (4, zI (F_G_lowestTaking ((A_G_leastMissed_6 w i11).2.2) (i11 : Int))), (5, zI ((F_G_missedIn ((A_G_leastMissed_6 w i11).2.2) (F_G_lowestTaking ((A_G_leastMissed_6 w i11).2.2) (i11 : Int)) (i11 : Int) 0 (zz_and (F_K_inside ((A_G_leastMissed_6 w i11).2.2) (-1)) (zz_xor (zz_shl 1 (i11 : Int)) (-1)))).1))]) 3 rfl (by decide) rfl rfl dX1_leastMissed_84 rfl ?_
          refine z_goto 6 dX1_leastMissed_87 (by decide) ?_
          exact z_Wp.sub (ls' := [(0, zR 55), (1, zI (i11 : Int)), (2, zI ((F_G_missedIn ((A_G_leastMissed_6 w i11).2.2) (F_G_lowestTaking ((A_G_leastMissed_6 w i11).2.2) (i11 : Int)) (i11 : Int) 0 (zz_and (F_K_inside ((A_G_leastMissed_6 w i11).2.2) (-1)) (zz_xor (zz_shl 1 (i11 : Int)) (-1)))).1)), (3, zI ((i11 : Int) + 1))]) (z_lcast (by rw [z_c0 i11]) ih) (z_sub_of [0, 1, 2, 3] rfl)
        · have h := h.2 c128
          rw [if_neg c128] at ih
          refine z_iload (pc' := 75) 5 rfl dX1_leastMissed_73 rfl ?_
          refine z_iload_n (pc' := 76) 2 rfl rfl dX1_leastMissed_75 rfl ?_
          obtain ⟨r21, h⟩ := h
          have r22 := h
          refine z_icmp_ge 84 dX1_leastMissed_76 (by decide) (pc' := 79) rfl r21 r22 (fun c129 => ?_) (fun c129 => ?_)
          · skip
            rw [if_pos c129] at ih
            refine z_iinc (pc' := 87) (ls' := [(0, zR 55), (1, zI ((A_G_leastMissed_6 w i11).1)), (2, zI ((A_G_leastMissed_6 w i11).2.1)), (3, zI ((i11 : Int) + 1)), (4, zI (F_G_lowestTaking ((A_G_leastMissed_6 w i11).2.2) (i11 : Int))), (5, zI ((F_G_missedIn ((A_G_leastMissed_6 w i11).2.2) (F_G_lowestTaking ((A_G_leastMissed_6 w i11).2.2) (i11 : Int)) (i11 : Int) 0 (zz_and (F_K_inside ((A_G_leastMissed_6 w i11).2.2) (-1)) (zz_xor (zz_shl 1 (i11 : Int)) (-1)))).1))]) 3 rfl (by decide) rfl rfl dX1_leastMissed_84 rfl ?_
            refine z_goto 6 dX1_leastMissed_87 (by decide) ?_
            exact z_Wp.sub (ls' := [(0, zR 55), (1, zI ((A_G_leastMissed_6 w i11).1)), (2, zI ((A_G_leastMissed_6 w i11).2.1)), (3, zI ((i11 : Int) + 1))]) (z_lcast (by rw [z_c0 i11]) ih) (z_sub_of [0, 1, 2, 3] rfl)
          · skip
            rw [if_neg c129] at ih
            refine z_iload_n (pc' := 80) 3 rfl rfl dX1_leastMissed_79 rfl ?_
            refine z_istore_n (pc' := 81) (ls' := [(0, zR 55), (1, zI (i11 : Int)), (2, zI ((A_G_leastMissed_6 w i11).2.1)), (3, zI (i11 : Int)), (4, zI (F_G_lowestTaking ((A_G_leastMissed_6 w i11).2.2) (i11 : Int))), (5, zI ((F_G_missedIn ((A_G_leastMissed_6 w i11).2.2) (F_G_lowestTaking ((A_G_leastMissed_6 w i11).2.2) (i11 : Int)) (i11 : Int) 0 (zz_and (F_K_inside ((A_G_leastMissed_6 w i11).2.2) (-1)) (zz_xor (zz_shl 1 (i11 : Int)) (-1)))).1))]) rfl (by decide) rfl rfl dX1_leastMissed_80 rfl ?_
            refine z_iload (pc' := 83) 5 rfl dX1_leastMissed_81 rfl ?_
            refine z_istore_n (pc' := 84) (ls' := [(0, zR 55), (1, zI (i11 : Int)), (2, zI ((F_G_missedIn ((A_G_leastMissed_6 w i11).2.2) (F_G_lowestTaking ((A_G_leastMissed_6 w i11).2.2) (i11 : Int)) (i11 : Int) 0 (zz_and (F_K_inside ((A_G_leastMissed_6 w i11).2.2) (-1)) (zz_xor (zz_shl 1 (i11 : Int)) (-1)))).1)), (3, zI (i11 : Int)), (4, zI (F_G_lowestTaking ((A_G_leastMissed_6 w i11).2.2) (i11 : Int))), (5, zI ((F_G_missedIn ((A_G_leastMissed_6 w i11).2.2) (F_G_lowestTaking ((A_G_leastMissed_6 w i11).2.2) (i11 : Int)) (i11 : Int) 0 (zz_and (F_K_inside ((A_G_leastMissed_6 w i11).2.2) (-1)) (zz_xor (zz_shl 1 (i11 : Int)) (-1)))).1))]) rfl (by decide) rfl rfl dX1_leastMissed_83 rfl ?_
            refine z_iinc (pc' := 87) (ls' := [(0, zR 55), (1, zI (i11 : Int)), (2, zI ((F_G_missedIn ((A_G_leastMissed_6 w i11).2.2) (F_G_lowestTaking ((A_G_leastMissed_6 w i11).2.2) (i11 : Int)) (i11 : Int) 0 (zz_and (F_K_inside ((A_G_leastMissed_6 w i11).2.2) (-1)) (zz_xor (zz_shl 1 (i11 : Int)) (-1)))).1)), (3, zI ((i11 : Int) + 1)), (4, zI (F_G_lowestTaking ((A_G_leastMissed_6 w i11).2.2) (i11 : Int))), (5, zI ((F_G_missedIn ((A_G_leastMissed_6 w i11).2.2) (F_G_lowestTaking ((A_G_leastMissed_6 w i11).2.2) (i11 : Int)) (i11 : Int) 0 (zz_and (F_K_inside ((A_G_leastMissed_6 w i11).2.2) (-1)) (zz_xor (zz_shl 1 (i11 : Int)) (-1)))).1))]) 3 rfl (by decide) rfl rfl dX1_leastMissed_84 rfl ?_
            refine z_goto 6 dX1_leastMissed_87 (by decide) ?_
            exact z_Wp.sub (ls' := [(0, zR 55), (1, zI (i11 : Int)), (2, zI ((F_G_missedIn ((A_G_leastMissed_6 w i11).2.2) (F_G_lowestTaking ((A_G_leastMissed_6 w i11).2.2) (i11 : Int)) (i11 : Int) 0 (zz_and (F_K_inside ((A_G_leastMissed_6 w i11).2.2) (-1)) (zz_xor (zz_shl 1 (i11 : Int)) (-1)))).1)), (3, zI ((i11 : Int) + 1))]) (z_lcast (by rw [z_c0 i11]) ih) (z_sub_of [0, 1, 2, 3] rfl)
def P_G_yearsUntil (w : z_Wd) (a0 : Int) : Prop := (P_G_ofDrowned w) ∧ (-2147483648 ≤ a0 - (w 41 7) ∧ a0 - (w 41 7) < 2147483648) ∧ ((a0 - (w 41 7) > 0 → (-2147483648 ≤ (F_G_ofDrowned w).1 ∧ (F_G_ofDrowned w).1 < 2147483648) ∧ (((F_G_ofDrowned w).1 > 0 → (((F_G_ofDrowned w).1) ≠ 0) ∧ (-2147483648 ≤ ((a0 - (w 41 7)) + ((F_G_ofDrowned w).1)) - 1 ∧ ((a0 - (w 41 7)) + ((F_G_ofDrowned w).1)) - 1 < 2147483648) ∧ (-2147483648 ≤ Int.tdiv (((a0 - (w 41 7)) + ((F_G_ofDrowned w).1)) - 1) ((F_G_ofDrowned w).1) ∧ Int.tdiv (((a0 - (w 41 7)) + ((F_G_ofDrowned w).1)) - 1) ((F_G_ofDrowned w).1) < 2147483648)) ∧ (¬ ((F_G_ofDrowned w).1 > 0) → True))) ∧ (¬ (a0 - (w 41 7) > 0) → True))
def F_G_yearsUntil (w : z_Wd) (a0 : Int) : Int × z_Wd := if a0 - (w 41 7) > 0 then if (F_G_ofDrowned w).1 > 0 then if Int.tdiv (((a0 - (w 41 7)) + ((F_G_ofDrowned w).1)) - 1) ((F_G_ofDrowned w).1) > 999 then ((-1), (F_G_ofDrowned w).2) else (Int.tdiv (((a0 - (w 41 7)) + ((F_G_ofDrowned w).1)) - 1) ((F_G_ofDrowned w).1), (F_G_ofDrowned w).2) else ((-1), (F_G_ofDrowned w).2) else (0, (F_G_ofDrowned w).2)
set_option maxRecDepth 4000 in
theorem c_G_yearsUntil {d : Nat} {w : z_Wd} {a0 : Int} {Q : Option z_V → z_Wd → Prop} (h : P_G_yearsUntil w a0) (k : Q (some (zI (F_G_yearsUntil w a0).1)) (F_G_yearsUntil w a0).2) : z_Wc (d + 7) m_X1_yearsUntil [zR 55, zI a0] w Q := by
  unfold P_G_yearsUntil at h
  unfold F_G_yearsUntil at k
  refine z_enter rfl (Nat.le_of_ble_eq_true rfl) ?_
  show z_Wp m_X1_yearsUntil _ 0 [(0, zR 55), (1, zI a0)] [] w _
  refine z_iload_n (pc' := 1) 1 rfl rfl dX1_yearsUntil_0 rfl ?_
  refine z_aload_n (pc' := 2) 0 rfl rfl dX1_yearsUntil_1 rfl ?_
  refine z_getR (t := 41) (pc' := 5) g_X1_29 (by decide) rfl rfl dX1_yearsUntil_2 rfl ?_
  refine z_invV (as := []) (st := [zI a0]) (C := m_X3_unrest) (fs := [32, 44, 45, 46, 47, 48, 0, 0, 0]) (pc' := 8) dX1_yearsUntil_5 rfl t_5_172 k_X3_unrest rfl (by decide) rfl rfl rfl rfl (Nat.le_of_ble_eq_true rfl) ?_
  refine c_K_unrest ?_
  show z_Wp m_X1_yearsUntil _ 8 [(0, zR 55), (1, zI a0)] [zI (w 41 7), zI a0] w _
  refine z_isub (pc' := 9) dX1_yearsUntil_8 rfl ?_
  refine z_istore_n (pc' := 10) (ls' := [(0, zR 55), (1, zI a0), (2, zI (a0 - (w 41 7)))]) rfl (by decide) rfl rfl dX1_yearsUntil_9 rfl ?_
  refine z_aload_n (pc' := 11) 0 rfl rfl dX1_yearsUntil_10 rfl ?_
  refine z_invV (as := []) (st := []) (C := m_X1_ofDrowned) (fs := [32, 43, 58, 59, 0, 0]) (pc' := 14) dX1_yearsUntil_11 rfl t_5_176 k_X1_ofDrowned rfl (by decide) rfl rfl rfl rfl (Nat.le_of_ble_eq_true rfl) ?_
  obtain ⟨r1, h⟩ := h
  refine c_G_ofDrowned r1 ?_
  show z_Wp m_X1_yearsUntil _ 14 [(0, zR 55), (1, zI a0), (2, zI (a0 - (w 41 7)))] [zI ((F_G_ofDrowned w).1)] ((F_G_ofDrowned w).2) _
  refine z_istore_n (pc' := 15) (ls' := [(0, zR 55), (1, zI a0), (2, zI (a0 - (w 41 7))), (3, zI ((F_G_ofDrowned w).1))]) rfl (by decide) rfl rfl dX1_yearsUntil_14 rfl ?_
  refine z_iload_n (pc' := 16) 2 rfl rfl dX1_yearsUntil_15 rfl ?_
  obtain ⟨r2, h⟩ := h
  refine z_if_gt 21 dX1_yearsUntil_16 (by decide) (pc' := 19) rfl r2 (fun c => ?_) (fun c => ?_)
  · have h := h.1 c
    rw [if_pos c] at k
    refine z_iload_n (pc' := 22) 3 rfl rfl dX1_yearsUntil_21 rfl ?_
    obtain ⟨r3, h⟩ := h
    refine z_if_gt 27 dX1_yearsUntil_22 (by decide) (pc' := 25) rfl r3 (fun c => ?_) (fun c => ?_)
    · have h := h.1 c
      rw [if_pos c] at k
      refine z_iload_n (pc' := 28) 2 rfl rfl dX1_yearsUntil_27 rfl ?_
      refine z_iload_n (pc' := 29) 3 rfl rfl dX1_yearsUntil_28 rfl ?_
      refine z_iadd (pc' := 30) dX1_yearsUntil_29 rfl ?_
      refine z_iconst (pc' := 31) dX1_yearsUntil_30 rfl ?_
      refine z_isub (pc' := 32) dX1_yearsUntil_31 rfl ?_
      refine z_iload_n (pc' := 33) 3 rfl rfl dX1_yearsUntil_32 rfl ?_
      obtain ⟨r4, h⟩ := h
      obtain ⟨r5, h⟩ := h
      refine z_idiv (pc' := 34) r5 r3 r4 dX1_yearsUntil_33 rfl ?_
      refine z_istore (pc' := 36) (ls' := [(0, zR 55), (1, zI a0), (2, zI (a0 - (w 41 7))), (3, zI ((F_G_ofDrowned w).1)), (4, zI (Int.tdiv (((a0 - (w 41 7)) + ((F_G_ofDrowned w).1)) - 1) ((F_G_ofDrowned w).1)))]) (by decide) rfl rfl dX1_yearsUntil_34 rfl ?_
      refine z_iload (pc' := 38) 4 rfl dX1_yearsUntil_36 rfl ?_
      refine z_sipush (pc' := 41) (by decide) dX1_yearsUntil_38 rfl ?_
      have r6 := h
      refine z_icmp_gt 49 dX1_yearsUntil_41 (by decide) (pc' := 44) rfl r6 (by decide) (fun c => ?_) (fun c => ?_)
      · skip
        rw [if_pos c] at k
        refine z_iconst (pc' := 50) dX1_yearsUntil_49 rfl ?_
        refine z_iret rfl dX1_yearsUntil_50 ?_
        exact k
      · skip
        rw [if_neg c] at k
        refine z_iload (pc' := 46) 4 rfl dX1_yearsUntil_44 rfl ?_
        refine z_goto 50 dX1_yearsUntil_46 (by decide) ?_
        refine z_iret rfl dX1_yearsUntil_50 ?_
        exact k
    · have h := h.2 c
      rw [if_neg c] at k
      refine z_iconst (pc' := 26) dX1_yearsUntil_25 rfl ?_
      refine z_iret rfl dX1_yearsUntil_26 ?_
      exact k
  · have h := h.2 c
    rw [if_neg c] at k
    refine z_iconst (pc' := 20) dX1_yearsUntil_19 rfl ?_
    refine z_iret rfl dX1_yearsUntil_20 ?_
    exact k
def L_YR_read_23 (w : z_Wd)   : Nat → Int → Int → z_Wd → Int × z_Wd
  | 0, _, _, _ => (0, w)
  | m9 + 1, u1, u2, wu => if u1 = 0 then if wu 33 2 = wu 28 1 then if F_Y_isWhole_34 wu = 0 then (wu 33 2, wu) else ((-1), wu) else (wu 33 2, wu) else if u2 ≥ 240 then if wu 33 2 = wu 28 1 then if F_Y_isWhole_34 wu = 0 then (wu 33 2, wu) else ((-1), wu) else (wu 33 2, wu) else if (F_YR_readClause wu).1 = 0 then (((F_YR_readClause wu).2) 33 2, (F_YR_readClause wu).2) else if F_T_at ((F_YR_readClause wu).2) (((F_YR_readClause wu).2) 33 2) = 59 then L_YR_read_23 w m9 1 (u2 + 1) (F_YR_step ((F_YR_readClause wu).2)) else L_YR_read_23 w m9 0 (u2 + 1) ((F_YR_readClause wu).2)
def PL_YR_read_23 (w : z_Wd)   : Nat → Int → Int → z_Wd → Prop
  | 0, _, _, _ => False
  | m9 + 1, u1, u2, wu => (-2147483648 ≤ u1 ∧ u1 < 2147483648) ∧ ((u1 = 0 → (-2147483648 ≤ wu 33 2 ∧ wu 33 2 < 2147483648) ∧ (-2147483648 ≤ wu 28 1 ∧ wu 28 1 < 2147483648) ∧ ((wu 33 2 = wu 28 1 → P_Y_isWhole_34 wu) ∧ (¬ (wu 33 2 = wu 28 1) → True))) ∧ (¬ (u1 = 0) → (-2147483648 ≤ u2 ∧ u2 < 2147483648) ∧ ((u2 ≥ 240 → (-2147483648 ≤ wu 33 2 ∧ wu 33 2 < 2147483648) ∧ (-2147483648 ≤ wu 28 1 ∧ wu 28 1 < 2147483648) ∧ ((wu 33 2 = wu 28 1 → P_Y_isWhole_34 wu) ∧ (¬ (wu 33 2 = wu 28 1) → True))) ∧ (¬ (u2 ≥ 240) → (P_YR_readClause wu) ∧ (-2147483648 ≤ (F_YR_readClause wu).1 ∧ (F_YR_readClause wu).1 < 2147483648) ∧ (((F_YR_readClause wu).1 = 0 → True) ∧ (¬ ((F_YR_readClause wu).1 = 0) → (P_T_at ((F_YR_readClause wu).2) (((F_YR_readClause wu).2) 33 2)) ∧ (-2147483648 ≤ F_T_at ((F_YR_readClause wu).2) (((F_YR_readClause wu).2) 33 2) ∧ F_T_at ((F_YR_readClause wu).2) (((F_YR_readClause wu).2) 33 2) < 2147483648) ∧ ((F_T_at ((F_YR_readClause wu).2) (((F_YR_readClause wu).2) 33 2) = 59 → (P_YR_step ((F_YR_readClause wu).2)) ∧ (PL_YR_read_23 w m9 1 (u2 + 1) (F_YR_step ((F_YR_readClause wu).2)))) ∧ (¬ (F_T_at ((F_YR_readClause wu).2) (((F_YR_readClause wu).2) 33 2) = 59) → PL_YR_read_23 w m9 0 (u2 + 1) ((F_YR_readClause wu).2)))))))))
def P_YR_read (w : z_Wd)  : Prop := (P_Y_clear_34 w) ∧ (P_T_behindBlanks (F_Y_clear_34 w) 0) ∧ (PL_YR_read_23 w 300 1 0 (z_up (F_Y_clear_34 w) 33 2 (F_T_behindBlanks (F_Y_clear_34 w) 0)))
def F_YR_read (w : z_Wd)  : Int × z_Wd := L_YR_read_23 w 300 1 0 (z_up (F_Y_clear_34 w) 33 2 (F_T_behindBlanks (F_Y_clear_34 w) 0))
set_option maxRecDepth 4000 in
theorem c_YR_read {d : Nat} {w : z_Wd} {Q : Option z_V → z_Wd → Prop} (h : P_YR_read w ) (k : Q (some (zI (F_YR_read w ).1)) (F_YR_read w ).2) : z_Wc (d + 5) m_X7_read [zR 33] w Q := by
  unfold P_YR_read at h
  unfold F_YR_read at k
  refine z_enter rfl (Nat.le_of_ble_eq_true rfl) ?_
  show z_Wp m_X7_read _ 0 [(0, zR 33)] [] w _
  refine z_aload_n (pc' := 1) 0 rfl rfl dX7_read_0 rfl ?_
  refine z_getR (t := 34) (pc' := 4) g_X7_12 (by decide) rfl rfl dX7_read_1 rfl ?_
  refine z_invV (as := []) (st := []) (C := m_X6_clear) (fs := [37, 38]) (pc' := 7) dX7_read_4 rfl t_2_84 k_X6_clear rfl (by decide) rfl rfl rfl rfl (Nat.le_of_ble_eq_true rfl) ?_
  obtain ⟨r1, h⟩ := h
  refine c_Y_clear_34 r1 ?_
  show z_Wp m_X7_read _ 7 [(0, zR 33)] [] (F_Y_clear_34 w) _
  refine z_aload_n (pc' := 8) 0 rfl rfl dX7_read_7 rfl ?_
  refine z_aload_n (pc' := 9) 0 rfl rfl dX7_read_8 rfl ?_
  refine z_getR (t := 28) (pc' := 12) g_X7_18 (by decide) rfl rfl dX7_read_9 rfl ?_
  refine z_iconst (pc' := 13) dX7_read_12 rfl ?_
  refine z_invV (as := [zI 0]) (st := [zR 33]) (C := m_X10_behindBlanks) (fs := [31, 0]) (pc' := 16) dX7_read_13 rfl t_2_96 k_X10_behindBlanks rfl (by decide) rfl rfl rfl rfl (Nat.le_of_ble_eq_true rfl) ?_
  obtain ⟨r2, h⟩ := h
  refine c_T_behindBlanks r2 ?_
  show z_Wp m_X7_read _ 16 [(0, zR 33)] [zI (F_T_behindBlanks (F_Y_clear_34 w) 0), zR 33] (F_Y_clear_34 w) _
  refine z_putI (pc' := 19) p_X7_31 (by decide) rfl rfl rfl rfl dX7_read_16 rfl ?_
  refine z_iconst (pc' := 20) dX7_read_19 rfl ?_
  refine z_istore_n (pc' := 21) (ls' := [(0, zR 33), (1, zI 1)]) rfl (by decide) rfl rfl dX7_read_20 rfl ?_
  refine z_iconst (pc' := 22) dX7_read_21 rfl ?_
  refine z_istore_n (pc' := 23) (ls' := [(0, zR 33), (1, zI 1), (2, zI 0)]) rfl (by decide) rfl rfl dX7_read_22 rfl ?_
  have hl : ∀ (m9 : Nat) (u1 : Int) (u2 : Int) (wu : z_Wd), PL_YR_read_23 w m9 u1 u2 wu → Q (some (zI (L_YR_read_23 w m9 u1 u2 wu).1)) (L_YR_read_23 w m9 u1 u2 wu).2 → z_Wp m_X7_read (d + 5) 23 [(0, zR 33), (1, zI u1), (2, zI u2)] [] wu Q := by
    clear h k
    intro m9
    induction m9 with
    | zero => intro u1 u2 wu h k; exact False.elim h
    | succ m9 ih =>
      intro u1 u2 wu h k
      have h : (-2147483648 ≤ u1 ∧ u1 < 2147483648) ∧ ((u1 = 0 → (-2147483648 ≤ wu 33 2 ∧ wu 33 2 < 2147483648) ∧ (-2147483648 ≤ wu 28 1 ∧ wu 28 1 < 2147483648) ∧ ((wu 33 2 = wu 28 1 → P_Y_isWhole_34 wu) ∧ (¬ (wu 33 2 = wu 28 1) → True))) ∧ (¬ (u1 = 0) → (-2147483648 ≤ u2 ∧ u2 < 2147483648) ∧ ((u2 ≥ 240 → (-2147483648 ≤ wu 33 2 ∧ wu 33 2 < 2147483648) ∧ (-2147483648 ≤ wu 28 1 ∧ wu 28 1 < 2147483648) ∧ ((wu 33 2 = wu 28 1 → P_Y_isWhole_34 wu) ∧ (¬ (wu 33 2 = wu 28 1) → True))) ∧ (¬ (u2 ≥ 240) → (P_YR_readClause wu) ∧ (-2147483648 ≤ (F_YR_readClause wu).1 ∧ (F_YR_readClause wu).1 < 2147483648) ∧ (((F_YR_readClause wu).1 = 0 → True) ∧ (¬ ((F_YR_readClause wu).1 = 0) → (P_T_at ((F_YR_readClause wu).2) (((F_YR_readClause wu).2) 33 2)) ∧ (-2147483648 ≤ F_T_at ((F_YR_readClause wu).2) (((F_YR_readClause wu).2) 33 2) ∧ F_T_at ((F_YR_readClause wu).2) (((F_YR_readClause wu).2) 33 2) < 2147483648) ∧ ((F_T_at ((F_YR_readClause wu).2) (((F_YR_readClause wu).2) 33 2) = 59 → (P_YR_step ((F_YR_readClause wu).2)) ∧ (PL_YR_read_23 w m9 1 (u2 + 1) (F_YR_step ((F_YR_readClause wu).2)))) ∧ (¬ (F_T_at ((F_YR_readClause wu).2) (((F_YR_readClause wu).2) 33 2) = 59) → PL_YR_read_23 w m9 0 (u2 + 1) ((F_YR_readClause wu).2))))))))) := h
      have k : Q (some (zI (if u1 = 0 then if wu 33 2 = wu 28 1 then if F_Y_isWhole_34 wu = 0 then (wu 33 2, wu) else ((-1), wu) else (wu 33 2, wu) else if u2 ≥ 240 then if wu 33 2 = wu 28 1 then if F_Y_isWhole_34 wu = 0 then (wu 33 2, wu) else ((-1), wu) else (wu 33 2, wu) else if (F_YR_readClause wu).1 = 0 then (((F_YR_readClause wu).2) 33 2, (F_YR_readClause wu).2) else if F_T_at ((F_YR_readClause wu).2) (((F_YR_readClause wu).2) 33 2) = 59 then L_YR_read_23 w m9 1 (u2 + 1) (F_YR_step ((F_YR_readClause wu).2)) else L_YR_read_23 w m9 0 (u2 + 1) ((F_YR_readClause wu).2)).1)) (if u1 = 0 then if wu 33 2 = wu 28 1 then if F_Y_isWhole_34 wu = 0 then (wu 33 2, wu) else ((-1), wu) else (wu 33 2, wu) else if u2 ≥ 240 then if wu 33 2 = wu 28 1 then if F_Y_isWhole_34 wu = 0 then (wu 33 2, wu) else ((-1), wu) else (wu 33 2, wu) else if (F_YR_readClause wu).1 = 0 then (((F_YR_readClause wu).2) 33 2, (F_YR_readClause wu).2) else if F_T_at ((F_YR_readClause wu).2) (((F_YR_readClause wu).2) 33 2) = 59 then L_YR_read_23 w m9 1 (u2 + 1) (F_YR_step ((F_YR_readClause wu).2)) else L_YR_read_23 w m9 0 (u2 + 1) ((F_YR_readClause wu).2)).2 := k
      refine z_iload_n (pc' := 24) 1 rfl rfl dX7_read_23 rfl ?_
      obtain ⟨r16, h⟩ := h
      refine z_if_eq 82 dX7_read_24 (by decide) (pc' := 27) rfl r16 (fun c => ?_) (fun c => ?_)
      · have h := h.1 c
        rw [if_pos c] at k
        refine z_aload_n (pc' := 83) 0 rfl rfl dX7_read_82 rfl ?_
        refine z_getI2 (v := wu 33 2) (pc' := 86) g_X7_31 (by decide) rfl rfl rfl dX7_read_83 rfl ?_
        refine z_aload_n (pc' := 87) 0 rfl rfl dX7_read_86 rfl ?_
        refine z_getR (t := 28) (pc' := 90) g_X7_18 (by decide) rfl rfl dX7_read_87 rfl ?_
        refine z_invV (as := []) (st := [zI (wu 33 2)]) (C := m_X10_size) (fs := [31, 0]) (pc' := 93) dX7_read_90 rfl t_2_148 k_X10_size rfl (by decide) rfl rfl rfl rfl (Nat.le_of_ble_eq_true rfl) ?_
        refine c_T_size ?_
        show z_Wp m_X7_read _ 93 [(0, zR 33), (1, zI u1), (2, zI u2)] [zI (wu 28 1), zI (wu 33 2)] wu _
        obtain ⟨r17, h⟩ := h
        obtain ⟨r18, h⟩ := h
        refine z_icmp_ne 110 dX7_read_93 (by decide) (pc' := 96) rfl r17 r18 (fun c => ?_) (fun c => ?_)
        · have h := h.2 c
          rw [if_neg c] at k
          refine z_aload_n (pc' := 111) 0 rfl rfl dX7_read_110 rfl ?_
          refine z_getI2 (v := wu 33 2) (pc' := 114) g_X7_31 (by decide) rfl rfl rfl dX7_read_111 rfl ?_
          refine z_iret rfl dX7_read_114 ?_
          exact k
        · have h := h.1 c
          rw [if_pos c] at k
          refine z_aload_n (pc' := 97) 0 rfl rfl dX7_read_96 rfl ?_
          refine z_getR (t := 34) (pc' := 100) g_X7_12 (by decide) rfl rfl dX7_read_97 rfl ?_
          refine z_invV (as := []) (st := []) (C := m_X6_isWhole) (fs := [37, 38]) (pc' := 103) dX7_read_100 rfl t_2_149 k_X6_isWhole rfl (by decide) rfl rfl rfl rfl (Nat.le_of_ble_eq_true rfl) ?_
          have r19 := h
          refine c_Y_isWhole_34 r19 ?_
          show z_Wp m_X7_read _ 103 [(0, zR 33), (1, zI u1), (2, zI u2)] [zI (F_Y_isWhole_34 wu)] wu _
          refine z_if_eq 110 dX7_read_103 (by decide) (pc' := 106) rfl (z_rb b_Y_isWhole_34) (fun c => ?_) (fun c => ?_)
          · skip
            rw [if_pos c] at k
            refine z_aload_n (pc' := 111) 0 rfl rfl dX7_read_110 rfl ?_
            refine z_getI2 (v := wu 33 2) (pc' := 114) g_X7_31 (by decide) rfl rfl rfl dX7_read_111 rfl ?_
            refine z_iret rfl dX7_read_114 ?_
            exact k
          · skip
            rw [if_neg c] at k
            refine z_iconst (pc' := 107) dX7_read_106 rfl ?_
            refine z_goto 114 dX7_read_107 (by decide) ?_
            refine z_iret rfl dX7_read_114 ?_
            exact k
      · have h := h.2 c
        rw [if_neg c] at k
        refine z_iload_n (pc' := 28) 2 rfl rfl dX7_read_27 rfl ?_
        refine z_sipush (pc' := 31) (by decide) dX7_read_28 rfl ?_
        obtain ⟨r20, h⟩ := h
        refine z_icmp_ge 82 dX7_read_31 (by decide) (pc' := 34) rfl r20 (by decide) (fun c => ?_) (fun c => ?_)
        · have h := h.1 c
          rw [if_pos c] at k
          refine z_aload_n (pc' := 83) 0 rfl rfl dX7_read_82 rfl ?_
          refine z_getI2 (v := wu 33 2) (pc' := 86) g_X7_31 (by decide) rfl rfl rfl dX7_read_83 rfl ?_
          refine z_aload_n (pc' := 87) 0 rfl rfl dX7_read_86 rfl ?_
          refine z_getR (t := 28) (pc' := 90) g_X7_18 (by decide) rfl rfl dX7_read_87 rfl ?_
          refine z_invV (as := []) (st := [zI (wu 33 2)]) (C := m_X10_size) (fs := [31, 0]) (pc' := 93) dX7_read_90 rfl t_2_148 k_X10_size rfl (by decide) rfl rfl rfl rfl (Nat.le_of_ble_eq_true rfl) ?_
          refine c_T_size ?_
          show z_Wp m_X7_read _ 93 [(0, zR 33), (1, zI u1), (2, zI u2)] [zI (wu 28 1), zI (wu 33 2)] wu _
          obtain ⟨r21, h⟩ := h
          obtain ⟨r22, h⟩ := h
          refine z_icmp_ne 110 dX7_read_93 (by decide) (pc' := 96) rfl r21 r22 (fun c => ?_) (fun c => ?_)
          · have h := h.2 c
            rw [if_neg c] at k
            refine z_aload_n (pc' := 111) 0 rfl rfl dX7_read_110 rfl ?_
            refine z_getI2 (v := wu 33 2) (pc' := 114) g_X7_31 (by decide) rfl rfl rfl dX7_read_111 rfl ?_
            refine z_iret rfl dX7_read_114 ?_
            exact k
          · have h := h.1 c
            rw [if_pos c] at k
            refine z_aload_n (pc' := 97) 0 rfl rfl dX7_read_96 rfl ?_
            refine z_getR (t := 34) (pc' := 100) g_X7_12 (by decide) rfl rfl dX7_read_97 rfl ?_
            refine z_invV (as := []) (st := []) (C := m_X6_isWhole) (fs := [37, 38]) (pc' := 103) dX7_read_100 rfl t_2_149 k_X6_isWhole rfl (by decide) rfl rfl rfl rfl (Nat.le_of_ble_eq_true rfl) ?_
            have r23 := h
            refine c_Y_isWhole_34 r23 ?_
            show z_Wp m_X7_read _ 103 [(0, zR 33), (1, zI u1), (2, zI u2)] [zI (F_Y_isWhole_34 wu)] wu _
            refine z_if_eq 110 dX7_read_103 (by decide) (pc' := 106) rfl (z_rb b_Y_isWhole_34) (fun c => ?_) (fun c => ?_)
            · skip
              rw [if_pos c] at k
              refine z_aload_n (pc' := 111) 0 rfl rfl dX7_read_110 rfl ?_
              refine z_getI2 (v := wu 33 2) (pc' := 114) g_X7_31 (by decide) rfl rfl rfl dX7_read_111 rfl ?_
              refine z_iret rfl dX7_read_114 ?_
              exact k
            · skip
              rw [if_neg c] at k
              refine z_iconst (pc' := 107) dX7_read_106 rfl ?_
              refine z_goto 114 dX7_read_107 (by decide) ?_
              refine z_iret rfl dX7_read_114 ?_
              exact k
        · have h := h.2 c
          rw [if_neg c] at k
          refine z_aload_n (pc' := 35) 0 rfl rfl dX7_read_34 rfl ?_
          refine z_invV (as := []) (st := []) (C := m_X7_readClause) (fs := [30, 36, 0]) (pc' := 38) dX7_read_35 rfl t_2_100 k_X7_readClause rfl (by decide) rfl rfl rfl rfl (Nat.le_of_ble_eq_true rfl) ?_
          obtain ⟨r24, h⟩ := h
          refine c_YR_readClause r24 ?_
          show z_Wp m_X7_read _ 38 [(0, zR 33), (1, zI u1), (2, zI u2)] [zI ((F_YR_readClause wu).1)] ((F_YR_readClause wu).2) _
          obtain ⟨r25, h⟩ := h
          refine z_if_ne 46 dX7_read_38 (by decide) (pc' := 41) rfl r25 (fun c => ?_) (fun c => ?_)
          · have h := h.2 c
            rw [if_neg c] at k
            refine z_aload_n (pc' := 47) 0 rfl rfl dX7_read_46 rfl ?_
            refine z_getR (t := 28) (pc' := 50) g_X7_18 (by decide) rfl rfl dX7_read_47 rfl ?_
            refine z_aload_n (pc' := 51) 0 rfl rfl dX7_read_50 rfl ?_
            refine z_getI2 (v := ((F_YR_readClause wu).2) 33 2) (pc' := 54) g_X7_31 (by decide) rfl rfl rfl dX7_read_51 rfl ?_
            refine z_invV (as := [zI (((F_YR_readClause wu).2) 33 2)]) (st := []) (C := m_X10_at) (fs := [31, 0]) (pc' := 57) dX7_read_54 rfl t_2_104 k_X10_at rfl (by decide) rfl rfl rfl rfl (Nat.le_of_ble_eq_true rfl) ?_
            obtain ⟨r26, h⟩ := h
            refine c_T_at r26 ?_
            show z_Wp m_X7_read _ 57 [(0, zR 33), (1, zI u1), (2, zI u2)] [zI (F_T_at ((F_YR_readClause wu).2) (((F_YR_readClause wu).2) 33 2))] ((F_YR_readClause wu).2) _
            refine z_bipush (pc' := 59) (by decide) dX7_read_57 rfl ?_
            obtain ⟨r27, h⟩ := h
            refine z_icmp_ne 66 dX7_read_59 (by decide) (pc' := 62) rfl r27 (by decide) (fun c => ?_) (fun c => ?_)
            · have h := h.2 c
              rw [if_neg c] at k
              refine z_iconst (pc' := 67) dX7_read_66 rfl ?_
              refine z_istore_n (pc' := 68) (ls' := [(0, zR 33), (1, zI 0), (2, zI u2)]) rfl (by decide) rfl rfl dX7_read_67 rfl ?_
              refine z_iload_n (pc' := 69) 1 rfl rfl dX7_read_68 rfl ?_
              refine z_if_eq 76 dX7_read_69 (by decide) (pc' := 72) rfl (by decide) (fun _ => ?_) (fun c => absurd c (by decide))
              refine z_iinc (pc' := 79) (ls' := [(0, zR 33), (1, zI 0), (2, zI (u2 + 1))]) 2 rfl (by decide) rfl rfl dX7_read_76 rfl ?_
              refine z_goto 23 dX7_read_79 (by decide) ?_
              exact ih _ _ _ h k
            · have h := h.1 c
              rw [if_pos c] at k
              refine z_iconst (pc' := 63) dX7_read_62 rfl ?_
              refine z_goto 67 dX7_read_63 (by decide) ?_
              refine z_istore_n (pc' := 68) (ls' := [(0, zR 33), (1, zI 1), (2, zI u2)]) rfl (by decide) rfl rfl dX7_read_67 rfl ?_
              refine z_iload_n (pc' := 69) 1 rfl rfl dX7_read_68 rfl ?_
              refine z_if_eq 76 dX7_read_69 (by decide) (pc' := 72) rfl (by decide) (fun c => absurd c (by decide)) (fun _ => ?_)
              refine z_aload_n (pc' := 73) 0 rfl rfl dX7_read_72 rfl ?_
              refine z_invV (as := []) (st := []) (C := m_X7_step) (fs := [30, 36, 0]) (pc' := 76) dX7_read_73 rfl t_2_119 k_X7_step rfl (by decide) rfl rfl rfl rfl (Nat.le_of_ble_eq_true rfl) ?_
              obtain ⟨r28, h⟩ := h
              refine c_YR_step r28 ?_
              show z_Wp m_X7_read _ 76 [(0, zR 33), (1, zI 1), (2, zI u2)] [] (F_YR_step ((F_YR_readClause wu).2)) _
              refine z_iinc (pc' := 79) (ls' := [(0, zR 33), (1, zI 1), (2, zI (u2 + 1))]) 2 rfl (by decide) rfl rfl dX7_read_76 rfl ?_
              refine z_goto 23 dX7_read_79 (by decide) ?_
              exact ih _ _ _ h k
          · have h := h.1 c
            rw [if_pos c] at k
            refine z_aload_n (pc' := 42) 0 rfl rfl dX7_read_41 rfl ?_
            refine z_getI2 (v := ((F_YR_readClause wu).2) 33 2) (pc' := 45) g_X7_31 (by decide) rfl rfl rfl dX7_read_42 rfl ?_
            refine z_iret rfl dX7_read_45 ?_
            exact k
  exact hl 300 _ _ _ h k
def P_D_foundMinistry (w : z_Wd)  : Prop := (P_YR_read w) ∧ (-2147483648 ≤ (F_YR_read w).1 ∧ (F_YR_read w).1 < 2147483648) ∧ (((F_YR_read w).1 = (-1) → (P_K_start (F_Y_copyFrom_34 ((F_YR_read w).2))) ∧ (P_T_cut (z_up (F_C_forget (F_H_forget (F_K_start (F_Y_copyFrom_34 ((F_YR_read w).2))))) 27 13 0) 0)) ∧ (¬ ((F_YR_read w).1 = (-1)) → True))
def F_D_foundMinistry (w : z_Wd)  : Int × z_Wd := if (F_YR_read w).1 = (-1) then ((F_T_cut (z_up (F_C_forget (F_H_forget (F_K_start (F_Y_copyFrom_34 ((F_YR_read w).2))))) 27 13 0) 0) 32 2, F_T_cut (z_up (F_C_forget (F_H_forget (F_K_start (F_Y_copyFrom_34 ((F_YR_read w).2))))) 27 13 0) 0) else ((-1), (F_YR_read w).2)
set_option maxRecDepth 4000 in
theorem c_D_foundMinistry {d : Nat} {w : z_Wd} {Q : Option z_V → z_Wd → Prop} (h : P_D_foundMinistry w ) (k : Q (some (zI (F_D_foundMinistry w ).1)) (F_D_foundMinistry w ).2) : z_Wc (d + 6) m_X11_foundMinistry [zR 27] w Q := by
  unfold P_D_foundMinistry at h
  unfold F_D_foundMinistry at k
  refine z_enter rfl (Nat.le_of_ble_eq_true rfl) ?_
  show z_Wp m_X11_foundMinistry _ 0 [(0, zR 27)] [] w _
  refine z_aload_n (pc' := 1) 0 rfl rfl dX11_foundMinistry_0 rfl ?_
  refine z_getR (t := 33) (pc' := 4) g_X11_28 (by decide) rfl rfl dX11_foundMinistry_1 rfl ?_
  refine z_invV (as := []) (st := []) (C := m_X7_read) (fs := [30, 36, 0]) (pc' := 7) dX11_foundMinistry_4 rfl t_2_80 k_X7_read rfl (by decide) rfl rfl rfl rfl (Nat.le_of_ble_eq_true rfl) ?_
  obtain ⟨r1, h⟩ := h
  refine c_YR_read r1 ?_
  show z_Wp m_X11_foundMinistry _ 7 [(0, zR 27)] [zI ((F_YR_read w).1)] ((F_YR_read w).2) _
  refine z_iconst (pc' := 8) dX11_foundMinistry_7 rfl ?_
  obtain ⟨r2, h⟩ := h
  refine z_icmp_eq 13 dX11_foundMinistry_8 (by decide) (pc' := 11) rfl r2 (by decide) (fun c => ?_) (fun c => ?_)
  · have h := h.1 c
    rw [if_pos c] at k
    refine z_aload_n (pc' := 14) 0 rfl rfl dX11_foundMinistry_13 rfl ?_
    refine z_getR (t := 30) (pc' := 17) g_X11_19 (by decide) rfl rfl dX11_foundMinistry_14 rfl ?_
    refine z_aload_n (pc' := 18) 0 rfl rfl dX11_foundMinistry_17 rfl ?_
    refine z_getR (t := 33) (pc' := 21) g_X11_28 (by decide) rfl rfl dX11_foundMinistry_18 rfl ?_
    refine z_invV (as := []) (st := [zR 30]) (C := m_X7_draft) (fs := [30, 36, 0]) (pc' := 24) dX11_foundMinistry_21 rfl t_3_38 k_X7_draft rfl (by decide) rfl rfl rfl rfl (Nat.le_of_ble_eq_true rfl) ?_
    refine c_YR_draft ?_
    show z_Wp m_X11_foundMinistry _ 24 [(0, zR 27)] [zR 34, zR 30] ((F_YR_read w).2) _
    refine z_invV (as := [zR 34]) (st := []) (C := m_X6_copyFrom) (fs := [33, 34]) (pc' := 27) dX11_foundMinistry_24 rfl t_3_42 k_X6_copyFrom rfl (by decide) rfl rfl rfl rfl (Nat.le_of_ble_eq_true rfl) ?_
    refine c_Y_copyFrom_34 ?_
    show z_Wp m_X11_foundMinistry _ 27 [(0, zR 27)] [] (F_Y_copyFrom_34 ((F_YR_read w).2)) _
    refine z_aload_n (pc' := 28) 0 rfl rfl dX11_foundMinistry_27 rfl ?_
    refine z_getR (t := 41) (pc' := 31) g_X11_44 (by decide) rfl rfl dX11_foundMinistry_28 rfl ?_
    refine z_invV (as := []) (st := []) (C := m_X3_start) (fs := [32, 44, 45, 46, 47, 48, 0, 0, 0]) (pc' := 34) dX11_foundMinistry_31 rfl t_3_49 k_X3_start rfl (by decide) rfl rfl rfl rfl (Nat.le_of_ble_eq_true rfl) ?_
    obtain ⟨r3, h⟩ := h
    refine c_K_start r3 ?_
    show z_Wp m_X11_foundMinistry _ 34 [(0, zR 27)] [] (F_K_start (F_Y_copyFrom_34 ((F_YR_read w).2))) _
    refine z_aload_n (pc' := 35) 0 rfl rfl dX11_foundMinistry_34 rfl ?_
    refine z_getR (t := 53) (pc' := 38) g_X11_54 (by decide) rfl rfl dX11_foundMinistry_35 rfl ?_
    refine z_invV (as := []) (st := []) (C := m_X2_forget) (fs := [56, 0, 0]) (pc' := 41) dX11_foundMinistry_38 rfl t_3_61 k_X2_forget rfl (by decide) rfl rfl rfl rfl (Nat.le_of_ble_eq_true rfl) ?_
    refine c_H_forget ?_
    show z_Wp m_X11_foundMinistry _ 41 [(0, zR 27)] [] (F_H_forget (F_K_start (F_Y_copyFrom_34 ((F_YR_read w).2)))) _
    refine z_aload_n (pc' := 42) 0 rfl rfl dX11_foundMinistry_41 rfl ?_
    refine z_getR (t := 72) (pc' := 45) g_X11_77 (by decide) rfl rfl dX11_foundMinistry_42 rfl ?_
    refine z_invV (as := []) (st := []) (C := m_X0_forget) (fs := [32, 75, 76, 77, 0]) (pc' := 48) dX11_foundMinistry_45 rfl t_3_65 k_X0_forget rfl (by decide) rfl rfl rfl rfl (Nat.le_of_ble_eq_true rfl) ?_
    refine c_C_forget ?_
    show z_Wp m_X11_foundMinistry _ 48 [(0, zR 27)] [] (F_C_forget (F_H_forget (F_K_start (F_Y_copyFrom_34 ((F_YR_read w).2))))) _
    refine z_aload_n (pc' := 49) 0 rfl rfl dX11_foundMinistry_48 rfl ?_
    refine z_iconst (pc' := 50) dX11_foundMinistry_49 rfl ?_
    refine z_putI (pc' := 53) p_X11_135 (by decide) rfl rfl (by decide) (by decide) dX11_foundMinistry_50 rfl ?_
    refine z_aload_n (pc' := 54) 0 rfl rfl dX11_foundMinistry_53 rfl ?_
    refine z_getR (t := 28) (pc' := 57) g_X11_10 (by decide) rfl rfl dX11_foundMinistry_54 rfl ?_
    refine z_iconst (pc' := 58) dX11_foundMinistry_57 rfl ?_
    refine z_invV (as := [zI 0]) (st := []) (C := m_X10_cut) (fs := [31, 0]) (pc' := 61) dX11_foundMinistry_58 rfl t_2_72 k_X10_cut rfl (by decide) rfl rfl rfl rfl (Nat.le_of_ble_eq_true rfl) ?_
    have r4 := h
    refine c_T_cut r4 ?_
    show z_Wp m_X11_foundMinistry _ 61 [(0, zR 27)] [] (F_T_cut (z_up (F_C_forget (F_H_forget (F_K_start (F_Y_copyFrom_34 ((F_YR_read w).2))))) 27 13 0) 0) _
    refine z_aload_n (pc' := 62) 0 rfl rfl dX11_foundMinistry_61 rfl ?_
    refine z_getR (t := 30) (pc' := 65) g_X11_19 (by decide) rfl rfl dX11_foundMinistry_62 rfl ?_
    refine z_invV (as := []) (st := []) (C := m_X6_names) (fs := [33, 34]) (pc' := 68) dX11_foundMinistry_65 rfl t_3_69 k_X6_names rfl (by decide) rfl rfl rfl rfl (Nat.le_of_ble_eq_true rfl) ?_
    refine c_Y_names ?_
    show z_Wp m_X11_foundMinistry _ 68 [(0, zR 27)] [zI ((F_T_cut (z_up (F_C_forget (F_H_forget (F_K_start (F_Y_copyFrom_34 ((F_YR_read w).2))))) 27 13 0) 0) 32 2)] (F_T_cut (z_up (F_C_forget (F_H_forget (F_K_start (F_Y_copyFrom_34 ((F_YR_read w).2))))) 27 13 0) 0) _
    refine z_iret rfl dX11_foundMinistry_68 ?_
    exact k
  · have h := h.2 c
    rw [if_neg c] at k
    refine z_iconst (pc' := 12) dX11_foundMinistry_11 rfl ?_
    refine z_iret rfl dX11_foundMinistry_12 ?_
    exact k
def A_D_years_59 (w : z_Wd) (a0 : Int) : Nat → z_Wd
  | 0 => w
  | i10 + 1 => F_K_passYear ((F_G_ofDrowned (F_H_keep_41 (A_D_years_59 w a0 i10))).2) ((F_G_ofDrowned (F_H_keep_41 (A_D_years_59 w a0 i10))).1)
def P_D_years (w : z_Wd) (a0 : Int) : Prop := (P_Y_stands w) ∧ ((F_Y_stands w = 0 → P_D_refuse w 0 (-1)) ∧ (¬ (F_Y_stands w = 0) → (-2147483648 ≤ a0 ∧ a0 < 2147483648) ∧ ((a0 < 1 → P_D_refuse w 1 (-1)) ∧ (¬ (a0 < 1) → (a0 ≤ 60 → (-2147483648 ≤ (w 41 8) + a0 ∧ (w 41 8) + a0 < 2147483648) ∧ (((w 41 8) + a0 ≤ 999 → (∀ i10 : Nat, i10 < ((a0).toNat) → (-2147483648 ≤ (i10 : Int) ∧ (i10 : Int) < 2147483648) ∧ (P_H_keep_41 (A_D_years_59 w a0 i10)) ∧ (P_G_ofDrowned (F_H_keep_41 (A_D_years_59 w a0 i10))) ∧ (P_K_passYear ((F_G_ofDrowned (F_H_keep_41 (A_D_years_59 w a0 i10))).2) ((F_G_ofDrowned (F_H_keep_41 (A_D_years_59 w a0 i10))).1))) ∧ (-2147483648 ≤ (((a0).toNat : Nat) : Int) ∧ (((a0).toNat : Nat) : Int) < 2147483648)) ∧ (¬ ((w 41 8) + a0 ≤ 999) → P_D_refuse w 4 (-1)))) ∧ (¬ (a0 ≤ 60) → P_D_refuse w 1 (-1))))))
def F_D_years (w : z_Wd) (a0 : Int) : Int × z_Wd := if F_Y_stands w = 0 then ((F_D_refuse w 0 (-1)).1, (F_D_refuse w 0 (-1)).2) else if a0 < 1 then ((F_D_refuse w 1 (-1)).1, (F_D_refuse w 1 (-1)).2) else if a0 ≤ 60 then if (w 41 8) + a0 ≤ 999 then ((A_D_years_59 w a0 (a0).toNat) 41 8, A_D_years_59 w a0 (a0).toNat) else ((F_D_refuse w 4 (-1)).1, (F_D_refuse w 4 (-1)).2) else ((F_D_refuse w 1 (-1)).1, (F_D_refuse w 1 (-1)).2)
set_option maxRecDepth 4000 in
theorem c_D_years {d : Nat} {w : z_Wd} {a0 : Int} {Q : Option z_V → z_Wd → Prop} (h : P_D_years w a0) (k : Q (some (zI (F_D_years w a0).1)) (F_D_years w a0).2) : z_Wc (d + 7) m_X11_years [zR 27, zI a0] w Q := by
  unfold P_D_years at h
  unfold F_D_years at k
  refine z_enter rfl (Nat.le_of_ble_eq_true rfl) ?_
  show z_Wp m_X11_years _ 0 [(0, zR 27), (1, zI a0)] [] w _
  refine z_aload_n (pc' := 1) 0 rfl rfl dX11_years_0 rfl ?_
  refine z_getR (t := 30) (pc' := 4) g_X11_19 (by decide) rfl rfl dX11_years_1 rfl ?_
  refine z_invV (as := []) (st := []) (C := m_X6_stands) (fs := [33, 34]) (pc' := 7) dX11_years_4 rfl t_3_95 k_X6_stands rfl (by decide) rfl rfl rfl rfl (Nat.le_of_ble_eq_true rfl) ?_
  obtain ⟨r1, h⟩ := h
  refine c_Y_stands r1 ?_
  show z_Wp m_X11_years _ 7 [(0, zR 27), (1, zI a0)] [zI (F_Y_stands w)] w _
  refine z_if_ne 17 dX11_years_7 (by decide) (pc' := 10) rfl (z_rb b_Y_stands) (fun c => ?_) (fun c => ?_)
  · have h := h.2 c
    rw [if_neg c] at k
    refine z_iload_n (pc' := 18) 1 rfl rfl dX11_years_17 rfl ?_
    refine z_iconst (pc' := 19) dX11_years_18 rfl ?_
    obtain ⟨r2, h⟩ := h
    refine z_icmp_lt 28 dX11_years_19 (by decide) (pc' := 22) rfl r2 (by decide) (fun c => ?_) (fun c => ?_)
    · have h := h.1 c
      rw [if_pos c] at k
      refine z_aload_n (pc' := 29) 0 rfl rfl dX11_years_28 rfl ?_
      refine z_iconst (pc' := 30) dX11_years_29 rfl ?_
      refine z_iconst (pc' := 31) dX11_years_30 rfl ?_
      refine z_invV (as := [zI 1, zI (-1)]) (st := []) (C := m_X11_refuse) (fs := [30, 32, 35, 39, 43, 49, 55, 57, 72, 74, 78, 80, 0, 0, 1]) (pc' := 34) dX11_years_31 rfl t_3_179 k_X11_refuse rfl (by decide) rfl rfl rfl rfl (Nat.le_of_ble_eq_true rfl) ?_
      have r3 := h
      refine c_D_refuse r3 ?_
      show z_Wp m_X11_years _ 34 [(0, zR 27), (1, zI a0)] [zI ((F_D_refuse w 1 (-1)).1)] ((F_D_refuse w 1 (-1)).2) _
      refine z_iret rfl dX11_years_34 ?_
      exact k
    · have h := h.2 c
      rw [if_neg c] at k
      refine z_iload_n (pc' := 23) 1 rfl rfl dX11_years_22 rfl ?_
      refine z_bipush (pc' := 25) (by decide) dX11_years_23 rfl ?_
      refine z_icmp_le 35 dX11_years_25 (by decide) (pc' := 28) rfl r2 (by decide) (fun c => ?_) (fun c => ?_)
      · have h := h.1 c
        rw [if_pos c] at k
        refine z_aload_n (pc' := 36) 0 rfl rfl dX11_years_35 rfl ?_
        refine z_getR (t := 41) (pc' := 39) g_X11_44 (by decide) rfl rfl dX11_years_36 rfl ?_
        refine z_invV (as := []) (st := []) (C := m_X3_year) (fs := [32, 44, 45, 46, 47, 48, 0, 0, 0]) (pc' := 42) dX11_years_39 rfl t_4_58 k_X3_year rfl (by decide) rfl rfl rfl rfl (Nat.le_of_ble_eq_true rfl) ?_
        refine c_K_year ?_
        show z_Wp m_X11_years _ 42 [(0, zR 27), (1, zI a0)] [zI (w 41 8)] w _
        refine z_iload_n (pc' := 43) 1 rfl rfl dX11_years_42 rfl ?_
        refine z_iadd (pc' := 44) dX11_years_43 rfl ?_
        refine z_sipush (pc' := 47) (by decide) dX11_years_44 rfl ?_
        obtain ⟨r4, h⟩ := h
        refine z_icmp_le 57 dX11_years_47 (by decide) (pc' := 50) rfl r4 (by decide) (fun c => ?_) (fun c => ?_)
        · have h := h.1 c
          rw [if_pos c] at k
          refine z_iconst (pc' := 58) dX11_years_57 rfl ?_
          refine z_istore_n (pc' := 59) (ls' := [(0, zR 27), (1, zI a0), (2, zI 0)]) rfl (by decide) rfl rfl dX11_years_58 rfl ?_
          refine z_upto ((a0).toNat) (fun i10 => z_Wp m_X11_years (d + 7) 59 [(0, zR 27), (1, zI a0), (2, zI (i10 : Int))] [] (A_D_years_59 w a0 i10) Q) ?_ ?_
          · skip
            have h := h.2
            refine z_iload_n (pc' := 60) 2 rfl rfl dX11_years_59 rfl ?_
            refine z_iload_n (pc' := 61) 1 rfl rfl dX11_years_60 rfl ?_
            have r15 := h
            refine z_icmp_ge 95 dX11_years_61 (by decide) (pc' := 64) rfl r15 r2 (fun _ => ?_) (fun c => absurd c (by omega))
            refine z_aload_n (pc' := 96) 0 rfl rfl dX11_years_95 rfl ?_
            refine z_getR (t := 41) (pc' := 99) g_X11_44 (by decide) rfl rfl dX11_years_96 rfl ?_
            refine z_invV (as := []) (st := []) (C := m_X3_year) (fs := [32, 44, 45, 46, 47, 48, 0, 0, 0]) (pc' := 102) dX11_years_99 rfl t_4_58 k_X3_year rfl (by decide) rfl rfl rfl rfl (Nat.le_of_ble_eq_true rfl) ?_
            refine c_K_year ?_
            show z_Wp m_X11_years _ 102 [(0, zR 27), (1, zI a0), (2, zI (((a0).toNat : Nat) : Int))] [zI ((A_D_years_59 w a0 (a0).toNat) 41 8)] (A_D_years_59 w a0 (a0).toNat) _
            refine z_iret rfl dX11_years_102 ?_
            exact k
          · intro i10 hi ih
            have h := h.1 i10 hi
            have ih : z_Wp m_X11_years (d + 7) 59 [(0, zR 27), (1, zI a0), (2, zI ((i10 + 1 : Nat) : Int))] [] (F_K_passYear ((F_G_ofDrowned (F_H_keep_41 (A_D_years_59 w a0 i10))).2) ((F_G_ofDrowned (F_H_keep_41 (A_D_years_59 w a0 i10))).1)) Q := ih
            refine z_iload_n (pc' := 60) 2 rfl rfl dX11_years_59 rfl ?_
            refine z_iload_n (pc' := 61) 1 rfl rfl dX11_years_60 rfl ?_
            obtain ⟨r11, h⟩ := h
            refine z_icmp_ge 95 dX11_years_61 (by decide) (pc' := 64) rfl r11 r2 (fun c => absurd c (by omega)) (fun _ => ?_)
            refine z_aload_n (pc' := 65) 0 rfl rfl dX11_years_64 rfl ?_
            refine z_getR (t := 53) (pc' := 68) g_X11_54 (by decide) rfl rfl dX11_years_65 rfl ?_
            refine z_aload_n (pc' := 69) 0 rfl rfl dX11_years_68 rfl ?_
            refine z_getR (t := 41) (pc' := 72) g_X11_44 (by decide) rfl rfl dX11_years_69 rfl ?_
            refine z_invV (as := [zR 41]) (st := []) (C := m_X2_keep) (fs := [56, 0, 0]) (pc' := 75) dX11_years_72 rfl t_3_210 k_X2_keep rfl (by decide) rfl rfl rfl rfl (Nat.le_of_ble_eq_true rfl) ?_
            obtain ⟨r12, h⟩ := h
            refine c_H_keep_41 r12 ?_
            show z_Wp m_X11_years _ 75 [(0, zR 27), (1, zI a0), (2, zI (i10 : Int))] [] (F_H_keep_41 (A_D_years_59 w a0 i10)) _
            refine z_aload_n (pc' := 76) 0 rfl rfl dX11_years_75 rfl ?_
            refine z_getR (t := 41) (pc' := 79) g_X11_44 (by decide) rfl rfl dX11_years_76 rfl ?_
            refine z_aload_n (pc' := 80) 0 rfl rfl dX11_years_79 rfl ?_
            refine z_getR (t := 55) (pc' := 83) g_X11_63 (by decide) rfl rfl dX11_years_80 rfl ?_
            refine z_invV (as := []) (st := [zR 41]) (C := m_X1_ofDrowned) (fs := [32, 43, 58, 59, 0, 0]) (pc' := 86) dX11_years_83 rfl t_4_62 k_X1_ofDrowned rfl (by decide) rfl rfl rfl rfl (Nat.le_of_ble_eq_true rfl) ?_
            obtain ⟨r13, h⟩ := h
            refine c_G_ofDrowned r13 ?_
            show z_Wp m_X11_years _ 86 [(0, zR 27), (1, zI a0), (2, zI (i10 : Int))] [zI ((F_G_ofDrowned (F_H_keep_41 (A_D_years_59 w a0 i10))).1), zR 41] ((F_G_ofDrowned (F_H_keep_41 (A_D_years_59 w a0 i10))).2) _
            refine z_invV (as := [zI ((F_G_ofDrowned (F_H_keep_41 (A_D_years_59 w a0 i10))).1)]) (st := []) (C := m_X3_passYear) (fs := [32, 44, 45, 46, 47, 48, 0, 0, 0]) (pc' := 89) dX11_years_86 rfl t_4_118 k_X3_passYear rfl (by decide) rfl rfl rfl rfl (Nat.le_of_ble_eq_true rfl) ?_
            have r14 := h
            refine c_K_passYear r14 ?_
            show z_Wp m_X11_years _ 89 [(0, zR 27), (1, zI a0), (2, zI (i10 : Int))] [] (F_K_passYear ((F_G_ofDrowned (F_H_keep_41 (A_D_years_59 w a0 i10))).2) ((F_G_ofDrowned (F_H_keep_41 (A_D_years_59 w a0 i10))).1)) _
            refine z_iinc (pc' := 92) (ls' := [(0, zR 27), (1, zI a0), (2, zI ((i10 : Int) + 1))]) 2 rfl (by decide) rfl rfl dX11_years_89 rfl ?_
            refine z_goto 59 dX11_years_92 (by decide) ?_
            exact ih
        · have h := h.2 c
          rw [if_neg c] at k
          refine z_aload_n (pc' := 51) 0 rfl rfl dX11_years_50 rfl ?_
          refine z_iconst (pc' := 52) dX11_years_51 rfl ?_
          refine z_iconst (pc' := 53) dX11_years_52 rfl ?_
          refine z_invV (as := [zI 4, zI (-1)]) (st := []) (C := m_X11_refuse) (fs := [30, 32, 35, 39, 43, 49, 55, 57, 72, 74, 78, 80, 0, 0, 1]) (pc' := 56) dX11_years_53 rfl t_3_179 k_X11_refuse rfl (by decide) rfl rfl rfl rfl (Nat.le_of_ble_eq_true rfl) ?_
          have r16 := h
          refine c_D_refuse r16 ?_
          show z_Wp m_X11_years _ 56 [(0, zR 27), (1, zI a0)] [zI ((F_D_refuse w 4 (-1)).1)] ((F_D_refuse w 4 (-1)).2) _
          refine z_iret rfl dX11_years_56 ?_
          exact k
      · have h := h.2 c
        rw [if_neg c] at k
        refine z_aload_n (pc' := 29) 0 rfl rfl dX11_years_28 rfl ?_
        refine z_iconst (pc' := 30) dX11_years_29 rfl ?_
        refine z_iconst (pc' := 31) dX11_years_30 rfl ?_
        refine z_invV (as := [zI 1, zI (-1)]) (st := []) (C := m_X11_refuse) (fs := [30, 32, 35, 39, 43, 49, 55, 57, 72, 74, 78, 80, 0, 0, 1]) (pc' := 34) dX11_years_31 rfl t_3_179 k_X11_refuse rfl (by decide) rfl rfl rfl rfl (Nat.le_of_ble_eq_true rfl) ?_
        have r17 := h
        refine c_D_refuse r17 ?_
        show z_Wp m_X11_years _ 34 [(0, zR 27), (1, zI a0)] [zI ((F_D_refuse w 1 (-1)).1)] ((F_D_refuse w 1 (-1)).2) _
        refine z_iret rfl dX11_years_34 ?_
        exact k
  · have h := h.1 c
    rw [if_pos c] at k
    refine z_aload_n (pc' := 11) 0 rfl rfl dX11_years_10 rfl ?_
    refine z_iconst (pc' := 12) dX11_years_11 rfl ?_
    refine z_iconst (pc' := 13) dX11_years_12 rfl ?_
    refine z_invV (as := [zI 0, zI (-1)]) (st := []) (C := m_X11_refuse) (fs := [30, 32, 35, 39, 43, 49, 55, 57, 72, 74, 78, 80, 0, 0, 1]) (pc' := 16) dX11_years_13 rfl t_3_179 k_X11_refuse rfl (by decide) rfl rfl rfl rfl (Nat.le_of_ble_eq_true rfl) ?_
    have r18 := h
    refine c_D_refuse r18 ?_
    show z_Wp m_X11_years _ 16 [(0, zR 27), (1, zI a0)] [zI ((F_D_refuse w 0 (-1)).1)] ((F_D_refuse w 0 (-1)).2) _
    refine z_iret rfl dX11_years_16 ?_
    exact k
def A_D_decades_46 (w : z_Wd) (a0 : Int) (a1 : Int) : Nat → z_Wd
  | 0 => z_up w 27 14 a1
  | i11 + 1 => F_K_passYear ((F_G_ofDrowned (F_D_scratchByDraws (F_D_dipByDraws (F_H_keep_41 (A_D_decades_46 w a0 a1 i11))))).2) ((F_G_ofDrowned (F_D_scratchByDraws (F_D_dipByDraws (F_H_keep_41 (A_D_decades_46 w a0 a1 i11))))).1)
def P_D_decades (w : z_Wd) (a0 : Int) (a1 : Int) : Prop := (P_Y_stands w) ∧ ((F_Y_stands w = 0 → True) ∧ (¬ (F_Y_stands w = 0) → (-2147483648 ≤ a0 ∧ a0 < 2147483648) ∧ ((a0 < 1 → True) ∧ (¬ (a0 < 1) → (a0 > 60 → True) ∧ (¬ (a0 > 60) → (-2147483648 ≤ (w 41 8) + a0 ∧ (w 41 8) + a0 < 2147483648) ∧ (((w 41 8) + a0 ≤ 999 → (∀ i11 : Nat, i11 < ((a0).toNat) → (-2147483648 ≤ (i11 : Int) ∧ (i11 : Int) < 2147483648) ∧ (P_H_keep_41 (A_D_decades_46 w a0 a1 i11)) ∧ (P_D_dipByDraws (F_H_keep_41 (A_D_decades_46 w a0 a1 i11))) ∧ (P_D_scratchByDraws (F_D_dipByDraws (F_H_keep_41 (A_D_decades_46 w a0 a1 i11)))) ∧ (P_G_ofDrowned (F_D_scratchByDraws (F_D_dipByDraws (F_H_keep_41 (A_D_decades_46 w a0 a1 i11))))) ∧ (P_K_passYear ((F_G_ofDrowned (F_D_scratchByDraws (F_D_dipByDraws (F_H_keep_41 (A_D_decades_46 w a0 a1 i11))))).2) ((F_G_ofDrowned (F_D_scratchByDraws (F_D_dipByDraws (F_H_keep_41 (A_D_decades_46 w a0 a1 i11))))).1))) ∧ (-2147483648 ≤ (((a0).toNat : Nat) : Int) ∧ (((a0).toNat : Nat) : Int) < 2147483648)) ∧ (¬ ((w 41 8) + a0 ≤ 999) → True)))))))
def F_D_decades (w : z_Wd) (a0 : Int) (a1 : Int) : Int × z_Wd := if F_Y_stands w = 0 then ((-1), w) else if a0 < 1 then ((-1), w) else if a0 > 60 then ((-1), w) else if (w 41 8) + a0 ≤ 999 then ((A_D_decades_46 w a0 a1 (a0).toNat) 41 8, A_D_decades_46 w a0 a1 (a0).toNat) else ((-1), w)
set_option maxRecDepth 4000 in
theorem c_D_decades {d : Nat} {w : z_Wd} {a0 a1 : Int} {Q : Option z_V → z_Wd → Prop} (h : P_D_decades w a0 a1) (k : Q (some (zI (F_D_decades w a0 a1).1)) (F_D_decades w a0 a1).2) : z_Wc (d + 7) m_X11_decades [zR 27, zI a0, zJ a1] w Q := by
  unfold P_D_decades at h
  unfold F_D_decades at k
  refine z_enter rfl (Nat.le_of_ble_eq_true rfl) ?_
  show z_Wp m_X11_decades _ 0 [(0, zR 27), (1, zI a0), (2, zJ a1)] [] w _
  refine z_aload_n (pc' := 1) 0 rfl rfl dX11_decades_0 rfl ?_
  refine z_getR (t := 30) (pc' := 4) g_X11_19 (by decide) rfl rfl dX11_decades_1 rfl ?_
  refine z_invV (as := []) (st := []) (C := m_X6_stands) (fs := [33, 34]) (pc' := 7) dX11_decades_4 rfl t_3_95 k_X6_stands rfl (by decide) rfl rfl rfl rfl (Nat.le_of_ble_eq_true rfl) ?_
  obtain ⟨r1, h⟩ := h
  refine c_Y_stands r1 ?_
  show z_Wp m_X11_decades _ 7 [(0, zR 27), (1, zI a0), (2, zJ a1)] [zI (F_Y_stands w)] w _
  refine z_if_eq 36 dX11_decades_7 (by decide) (pc' := 10) rfl (z_rb b_Y_stands) (fun c => ?_) (fun c => ?_)
  · have h := h.1 c
    rw [if_pos c] at k
    refine z_iconst (pc' := 37) dX11_decades_36 rfl ?_
    refine z_iret rfl dX11_decades_37 ?_
    exact k
  · have h := h.2 c
    rw [if_neg c] at k
    refine z_iload_n (pc' := 11) 1 rfl rfl dX11_decades_10 rfl ?_
    refine z_iconst (pc' := 12) dX11_decades_11 rfl ?_
    obtain ⟨r2, h⟩ := h
    refine z_icmp_lt 36 dX11_decades_12 (by decide) (pc' := 15) rfl r2 (by decide) (fun c => ?_) (fun c => ?_)
    · have h := h.1 c
      rw [if_pos c] at k
      refine z_iconst (pc' := 37) dX11_decades_36 rfl ?_
      refine z_iret rfl dX11_decades_37 ?_
      exact k
    · have h := h.2 c
      rw [if_neg c] at k
      refine z_iload_n (pc' := 16) 1 rfl rfl dX11_decades_15 rfl ?_
      refine z_bipush (pc' := 18) (by decide) dX11_decades_16 rfl ?_
      refine z_icmp_gt 36 dX11_decades_18 (by decide) (pc' := 21) rfl r2 (by decide) (fun c => ?_) (fun c => ?_)
      · have h := h.1 c
        rw [if_pos c] at k
        refine z_iconst (pc' := 37) dX11_decades_36 rfl ?_
        refine z_iret rfl dX11_decades_37 ?_
        exact k
      · have h := h.2 c
        rw [if_neg c] at k
        refine z_aload_n (pc' := 22) 0 rfl rfl dX11_decades_21 rfl ?_
        refine z_getR (t := 41) (pc' := 25) g_X11_44 (by decide) rfl rfl dX11_decades_22 rfl ?_
        refine z_invV (as := []) (st := []) (C := m_X3_year) (fs := [32, 44, 45, 46, 47, 48, 0, 0, 0]) (pc' := 28) dX11_decades_25 rfl t_4_58 k_X3_year rfl (by decide) rfl rfl rfl rfl (Nat.le_of_ble_eq_true rfl) ?_
        refine c_K_year ?_
        show z_Wp m_X11_decades _ 28 [(0, zR 27), (1, zI a0), (2, zJ a1)] [zI (w 41 8)] w _
        refine z_iload_n (pc' := 29) 1 rfl rfl dX11_decades_28 rfl ?_
        refine z_iadd (pc' := 30) dX11_decades_29 rfl ?_
        refine z_sipush (pc' := 33) (by decide) dX11_decades_30 rfl ?_
        obtain ⟨r3, h⟩ := h
        refine z_icmp_le 38 dX11_decades_33 (by decide) (pc' := 36) rfl r3 (by decide) (fun c => ?_) (fun c => ?_)
        · have h := h.1 c
          rw [if_pos c] at k
          refine z_aload_n (pc' := 39) 0 rfl rfl dX11_decades_38 rfl ?_
          refine z_lload_n (pc' := 40) 2 rfl rfl dX11_decades_39 rfl ?_
          refine z_putJ (pc' := 43) p_X11_274 (by decide) rfl rfl dX11_decades_40 rfl ?_
          refine z_iconst (pc' := 44) dX11_decades_43 rfl ?_
          refine z_istore (pc' := 46) (ls' := [(0, zR 27), (1, zI a0), (2, zJ a1), (4, zI 0)]) (by decide) rfl rfl dX11_decades_44 rfl ?_
          refine z_Wp.sub (ls' := [(0, zR 27), (1, zI a0), (4, zI 0)]) ?_ (z_sub_of [0, 1, 3] rfl)
          refine z_upto ((a0).toNat) (fun i11 => z_Wp m_X11_decades (d + 7) 46 [(0, zR 27), (1, zI a0), (4, zI (i11 : Int))] [] (A_D_decades_46 w a0 a1 i11) Q) ?_ ?_
          · skip
            have h := h.2
            refine z_iload (pc' := 48) 2 rfl dX11_decades_46 rfl ?_
            refine z_iload_n (pc' := 49) 1 rfl rfl dX11_decades_48 rfl ?_
            have r18 := h
            refine z_icmp_ge 91 dX11_decades_49 (by decide) (pc' := 52) rfl r18 r2 (fun _ => ?_) (fun c => absurd c (by omega))
            refine z_aload_n (pc' := 92) 0 rfl rfl dX11_decades_91 rfl ?_
            refine z_getR (t := 41) (pc' := 95) g_X11_44 (by decide) rfl rfl dX11_decades_92 rfl ?_
            refine z_invV (as := []) (st := []) (C := m_X3_year) (fs := [32, 44, 45, 46, 47, 48, 0, 0, 0]) (pc' := 98) dX11_decades_95 rfl t_4_58 k_X3_year rfl (by decide) rfl rfl rfl rfl (Nat.le_of_ble_eq_true rfl) ?_
            refine c_K_year ?_
            show z_Wp m_X11_decades _ 98 [(0, zR 27), (1, zI a0), (4, zI (((a0).toNat : Nat) : Int))] [zI ((A_D_decades_46 w a0 a1 (a0).toNat) 41 8)] (A_D_decades_46 w a0 a1 (a0).toNat) _
            refine z_iret rfl dX11_decades_98 ?_
            exact k
          · intro i11 hi ih
            have h := h.1 i11 hi
            have ih : z_Wp m_X11_decades (d + 7) 46 [(0, zR 27), (1, zI a0), (4, zI ((i11 + 1 : Nat) : Int))] [] (F_K_passYear ((F_G_ofDrowned (F_D_scratchByDraws (F_D_dipByDraws (F_H_keep_41 (A_D_decades_46 w a0 a1 i11))))).2) ((F_G_ofDrowned (F_D_scratchByDraws (F_D_dipByDraws (F_H_keep_41 (A_D_decades_46 w a0 a1 i11))))).1)) Q := ih
            refine z_iload (pc' := 48) 2 rfl dX11_decades_46 rfl ?_
            refine z_iload_n (pc' := 49) 1 rfl rfl dX11_decades_48 rfl ?_
            obtain ⟨r12, h⟩ := h
            refine z_icmp_ge 91 dX11_decades_49 (by decide) (pc' := 52) rfl r12 r2 (fun c => absurd c (by omega)) (fun _ => ?_)
            refine z_aload_n (pc' := 53) 0 rfl rfl dX11_decades_52 rfl ?_
            refine z_getR (t := 53) (pc' := 56) g_X11_54 (by decide) rfl rfl dX11_decades_53 rfl ?_
            refine z_aload_n (pc' := 57) 0 rfl rfl dX11_decades_56 rfl ?_
            refine z_getR (t := 41) (pc' := 60) g_X11_44 (by decide) rfl rfl dX11_decades_57 rfl ?_
            refine z_invV (as := [zR 41]) (st := []) (C := m_X2_keep) (fs := [56, 0, 0]) (pc' := 63) dX11_decades_60 rfl t_3_210 k_X2_keep rfl (by decide) rfl rfl rfl rfl (Nat.le_of_ble_eq_true rfl) ?_
            obtain ⟨r13, h⟩ := h
            refine c_H_keep_41 r13 ?_
            show z_Wp m_X11_decades _ 63 [(0, zR 27), (1, zI a0), (4, zI (i11 : Int))] [] (F_H_keep_41 (A_D_decades_46 w a0 a1 i11)) _
            refine z_aload_n (pc' := 64) 0 rfl rfl dX11_decades_63 rfl ?_
            refine z_invV (as := []) (st := []) (C := m_X11_dipByDraws) (fs := [30, 32, 35, 39, 43, 49, 55, 57, 72, 74, 78, 80, 0, 0, 1]) (pc' := 67) dX11_decades_64 rfl t_4_139 k_X11_dipByDraws rfl (by decide) rfl rfl rfl rfl (Nat.le_of_ble_eq_true rfl) ?_
            obtain ⟨r14, h⟩ := h
            refine c_D_dipByDraws r14 ?_
            show z_Wp m_X11_decades _ 67 [(0, zR 27), (1, zI a0), (4, zI (i11 : Int))] [] (F_D_dipByDraws (F_H_keep_41 (A_D_decades_46 w a0 a1 i11))) _
            refine z_aload_n (pc' := 68) 0 rfl rfl dX11_decades_67 rfl ?_
            refine z_invV (as := []) (st := []) (C := m_X11_scratchByDraws) (fs := [30, 32, 35, 39, 43, 49, 55, 57, 72, 74, 78, 80, 0, 0, 1]) (pc' := 71) dX11_decades_68 rfl t_4_150 k_X11_scratchByDraws rfl (by decide) rfl rfl rfl rfl (Nat.le_of_ble_eq_true rfl) ?_
            obtain ⟨r15, h⟩ := h
            refine c_D_scratchByDraws r15 ?_
            show z_Wp m_X11_decades _ 71 [(0, zR 27), (1, zI a0), (4, zI (i11 : Int))] [] (F_D_scratchByDraws (F_D_dipByDraws (F_H_keep_41 (A_D_decades_46 w a0 a1 i11)))) _
            refine z_aload_n (pc' := 72) 0 rfl rfl dX11_decades_71 rfl ?_
            refine z_getR (t := 41) (pc' := 75) g_X11_44 (by decide) rfl rfl dX11_decades_72 rfl ?_
            refine z_aload_n (pc' := 76) 0 rfl rfl dX11_decades_75 rfl ?_
            refine z_getR (t := 55) (pc' := 79) g_X11_63 (by decide) rfl rfl dX11_decades_76 rfl ?_
            refine z_invV (as := []) (st := [zR 41]) (C := m_X1_ofDrowned) (fs := [32, 43, 58, 59, 0, 0]) (pc' := 82) dX11_decades_79 rfl t_4_62 k_X1_ofDrowned rfl (by decide) rfl rfl rfl rfl (Nat.le_of_ble_eq_true rfl) ?_
            obtain ⟨r16, h⟩ := h
            refine c_G_ofDrowned r16 ?_
            show z_Wp m_X11_decades _ 82 [(0, zR 27), (1, zI a0), (4, zI (i11 : Int))] [zI ((F_G_ofDrowned (F_D_scratchByDraws (F_D_dipByDraws (F_H_keep_41 (A_D_decades_46 w a0 a1 i11))))).1), zR 41] ((F_G_ofDrowned (F_D_scratchByDraws (F_D_dipByDraws (F_H_keep_41 (A_D_decades_46 w a0 a1 i11))))).2) _
            refine z_invV (as := [zI ((F_G_ofDrowned (F_D_scratchByDraws (F_D_dipByDraws (F_H_keep_41 (A_D_decades_46 w a0 a1 i11))))).1)]) (st := []) (C := m_X3_passYear) (fs := [32, 44, 45, 46, 47, 48, 0, 0, 0]) (pc' := 85) dX11_decades_82 rfl t_4_118 k_X3_passYear rfl (by decide) rfl rfl rfl rfl (Nat.le_of_ble_eq_true rfl) ?_
            have r17 := h
            refine c_K_passYear r17 ?_
            show z_Wp m_X11_decades _ 85 [(0, zR 27), (1, zI a0), (4, zI (i11 : Int))] [] (F_K_passYear ((F_G_ofDrowned (F_D_scratchByDraws (F_D_dipByDraws (F_H_keep_41 (A_D_decades_46 w a0 a1 i11))))).2) ((F_G_ofDrowned (F_D_scratchByDraws (F_D_dipByDraws (F_H_keep_41 (A_D_decades_46 w a0 a1 i11))))).1)) _
            refine z_iinc (pc' := 88) (ls' := [(0, zR 27), (1, zI a0), (4, zI ((i11 : Int) + 1))]) 2 rfl (by decide) rfl rfl dX11_decades_85 rfl ?_
            refine z_goto 46 dX11_decades_88 (by decide) ?_
            exact ih
        · have h := h.2 c
          rw [if_neg c] at k
          refine z_iconst (pc' := 37) dX11_decades_36 rfl ?_
          refine z_iret rfl dX11_decades_37 ?_
          exact k
def P_D_most (w : z_Wd) (a0 : Int) : Prop := (P_Y_stands w) ∧ ((F_Y_stands w = 0 → True) ∧ (¬ (F_Y_stands w = 0) → (-2147483648 ≤ a0 ∧ a0 < 2147483648) ∧ ((a0 = 0 → P_G_leastMissed w) ∧ (¬ a0 = 0 → (a0 = 1 → P_G_net w) ∧ (¬ a0 = 1 → (a0 = 2 → P_G_amnesty w) ∧ (¬ a0 = 2 → (a0 = 3 → P_K_deepest w) ∧ (¬ a0 = 3 → (a0 = 4 → P_K_fullest w) ∧ (¬ a0 = 4 → (a0 = 5 → P_Y_longest w) ∧ (¬ a0 = 5 → (a0 = 6 → P_G_dearest w) ∧ (¬ a0 = 6 → (a0 = 7 → P_K_inside w (-1)) ∧ (¬ a0 = 7 → True)))))))))))
def F_D_most (w : z_Wd) (a0 : Int) : Int × z_Wd := if F_Y_stands w = 0 then ((-1), w) else if a0 = 0 then ((F_G_leastMissed w).1, (F_G_leastMissed w).2) else if a0 = 1 then (F_G_net w, w) else if a0 = 2 then ((F_G_amnesty w).1, (F_G_amnesty w).2) else if a0 = 3 then (F_K_deepest w, w) else if a0 = 4 then (F_K_fullest w, w) else if a0 = 5 then (F_Y_longest w, w) else if a0 = 6 then (F_G_dearest w, w) else if a0 = 7 then (F_J_bitCount_0f7a4 w (zz_and ((zz_shl 1 (w 32 2)) - 1) (zz_xor (F_K_inside w (-1)) (-1))), w) else ((-1), w)
set_option maxRecDepth 4000 in
theorem c_D_most {d : Nat} {w : z_Wd} {a0 : Int} {Q : Option z_V → z_Wd → Prop} (h : P_D_most w a0) (k : Q (some (zI (F_D_most w a0).1)) (F_D_most w a0).2) : z_Wc (d + 7) m_X11_most [zR 27, zI a0] w Q := by
  unfold P_D_most at h
  unfold F_D_most at k
  refine z_enter rfl (Nat.le_of_ble_eq_true rfl) ?_
  show z_Wp m_X11_most _ 0 [(0, zR 27), (1, zI a0)] [] w _
  refine z_aload_n (pc' := 1) 0 rfl rfl dX11_most_0 rfl ?_
  refine z_getR (t := 30) (pc' := 4) g_X11_19 (by decide) rfl rfl dX11_most_1 rfl ?_
  refine z_invV (as := []) (st := []) (C := m_X6_stands) (fs := [33, 34]) (pc' := 7) dX11_most_4 rfl t_3_95 k_X6_stands rfl (by decide) rfl rfl rfl rfl (Nat.le_of_ble_eq_true rfl) ?_
  obtain ⟨r1, h⟩ := h
  refine c_Y_stands r1 ?_
  show z_Wp m_X11_most _ 7 [(0, zR 27), (1, zI a0)] [zI (F_Y_stands w)] w _
  refine z_if_ne 12 dX11_most_7 (by decide) (pc' := 10) rfl (z_rb b_Y_stands) (fun c => ?_) (fun c => ?_)
  · have h := h.2 c
    rw [if_neg c] at k
    refine z_iload_n (pc' := 13) 1 rfl rfl dX11_most_12 rfl ?_
    obtain ⟨r2, h⟩ := h
    refine z_table dX11_most_13 (by decide) r2 ⟨fun c0 => ⟨60, by decide, ?_⟩, fun c0 => ⟨fun c1 => ⟨68, by decide, ?_⟩, fun c1 => ⟨fun c2 => ⟨76, by decide, ?_⟩, fun c2 => ⟨fun c3 => ⟨84, by decide, ?_⟩, fun c3 => ⟨fun c4 => ⟨92, by decide, ?_⟩, fun c4 => ⟨fun c5 => ⟨100, by decide, ?_⟩, fun c5 => ⟨fun c6 => ⟨108, by decide, ?_⟩, fun c6 => ⟨fun c7 => ⟨116, by decide, ?_⟩, fun c7 => ⟨127, by decide, ?_⟩⟩⟩⟩⟩⟩⟩⟩⟩
    · skip
      have c0 : a0 = 0 := c0
      have h := h.1 c0
      rw [if_pos c0] at k
      refine z_aload_n (pc' := 61) 0 rfl rfl dX11_most_60 rfl ?_
      refine z_getR (t := 55) (pc' := 64) g_X11_63 (by decide) rfl rfl dX11_most_61 rfl ?_
      refine z_invV (as := []) (st := []) (C := m_X1_leastMissed) (fs := [32, 43, 58, 59, 0, 0]) (pc' := 67) dX11_most_64 rfl t_5_120 k_X1_leastMissed rfl (by decide) rfl rfl rfl rfl (Nat.le_of_ble_eq_true rfl) ?_
      have r3 := h
      refine c_G_leastMissed r3 ?_
      show z_Wp m_X11_most _ 67 [(0, zR 27), (1, zI a0)] [zI ((F_G_leastMissed w).1)] ((F_G_leastMissed w).2) _
      refine z_iret rfl dX11_most_67 ?_
      exact k
    · skip
      have c0 : ¬ a0 = 0 := c0
      have h := h.2 c0
      rw [if_neg c0] at k
      have c1 : a0 = 1 := c1
      have h := h.1 c1
      rw [if_pos c1] at k
      refine z_aload_n (pc' := 69) 0 rfl rfl dX11_most_68 rfl ?_
      refine z_getR (t := 55) (pc' := 72) g_X11_63 (by decide) rfl rfl dX11_most_69 rfl ?_
      refine z_invV (as := []) (st := []) (C := m_X1_net) (fs := [32, 43, 58, 59, 0, 0]) (pc' := 75) dX11_most_72 rfl t_5_131 k_X1_net rfl (by decide) rfl rfl rfl rfl (Nat.le_of_ble_eq_true rfl) ?_
      have r4 := h
      refine c_G_net r4 ?_
      show z_Wp m_X11_most _ 75 [(0, zR 27), (1, zI a0)] [zI (F_G_net w)] w _
      refine z_iret rfl dX11_most_75 ?_
      exact k
    · skip
      have c0 : ¬ a0 = 0 := c0
      have h := h.2 c0
      rw [if_neg c0] at k
      have c1 : ¬ a0 = 1 := c1
      have h := h.2 c1
      rw [if_neg c1] at k
      have c2 : a0 = 2 := c2
      have h := h.1 c2
      rw [if_pos c2] at k
      refine z_aload_n (pc' := 77) 0 rfl rfl dX11_most_76 rfl ?_
      refine z_getR (t := 55) (pc' := 80) g_X11_63 (by decide) rfl rfl dX11_most_77 rfl ?_
      refine z_invV (as := []) (st := []) (C := m_X1_amnesty) (fs := [32, 43, 58, 59, 0, 0]) (pc' := 83) dX11_most_80 rfl t_5_136 k_X1_amnesty rfl (by decide) rfl rfl rfl rfl (Nat.le_of_ble_eq_true rfl) ?_
      have r5 := h
      refine c_G_amnesty r5 ?_
      show z_Wp m_X11_most _ 83 [(0, zR 27), (1, zI a0)] [zI ((F_G_amnesty w).1)] ((F_G_amnesty w).2) _
      refine z_iret rfl dX11_most_83 ?_
      exact k
    · skip
      have c0 : ¬ a0 = 0 := c0
      have h := h.2 c0
      rw [if_neg c0] at k
      have c1 : ¬ a0 = 1 := c1
      have h := h.2 c1
      rw [if_neg c1] at k
      have c2 : ¬ a0 = 2 := c2
      have h := h.2 c2
      rw [if_neg c2] at k
      have c3 : a0 = 3 := c3
      have h := h.1 c3
      rw [if_pos c3] at k
      refine z_aload_n (pc' := 85) 0 rfl rfl dX11_most_84 rfl ?_
      refine z_getR (t := 41) (pc' := 88) g_X11_44 (by decide) rfl rfl dX11_most_85 rfl ?_
      refine z_invV (as := []) (st := []) (C := m_X3_deepest) (fs := [32, 44, 45, 46, 47, 48, 0, 0, 0]) (pc' := 91) dX11_most_88 rfl t_5_141 k_X3_deepest rfl (by decide) rfl rfl rfl rfl (Nat.le_of_ble_eq_true rfl) ?_
      have r6 := h
      refine c_K_deepest r6 ?_
      show z_Wp m_X11_most _ 91 [(0, zR 27), (1, zI a0)] [zI (F_K_deepest w)] w _
      refine z_iret rfl dX11_most_91 ?_
      exact k
    · skip
      have c0 : ¬ a0 = 0 := c0
      have h := h.2 c0
      rw [if_neg c0] at k
      have c1 : ¬ a0 = 1 := c1
      have h := h.2 c1
      rw [if_neg c1] at k
      have c2 : ¬ a0 = 2 := c2
      have h := h.2 c2
      rw [if_neg c2] at k
      have c3 : ¬ a0 = 3 := c3
      have h := h.2 c3
      rw [if_neg c3] at k
      have c4 : a0 = 4 := c4
      have h := h.1 c4
      rw [if_pos c4] at k
      refine z_aload_n (pc' := 93) 0 rfl rfl dX11_most_92 rfl ?_
      refine z_getR (t := 41) (pc' := 96) g_X11_44 (by decide) rfl rfl dX11_most_93 rfl ?_
      refine z_invV (as := []) (st := []) (C := m_X3_fullest) (fs := [32, 44, 45, 46, 47, 48, 0, 0, 0]) (pc' := 99) dX11_most_96 rfl t_5_146 k_X3_fullest rfl (by decide) rfl rfl rfl rfl (Nat.le_of_ble_eq_true rfl) ?_
      have r7 := h
      refine c_K_fullest r7 ?_
      show z_Wp m_X11_most _ 99 [(0, zR 27), (1, zI a0)] [zI (F_K_fullest w)] w _
      refine z_iret rfl dX11_most_99 ?_
      exact k
    · skip
      have c0 : ¬ a0 = 0 := c0
      have h := h.2 c0
      rw [if_neg c0] at k
      have c1 : ¬ a0 = 1 := c1
      have h := h.2 c1
      rw [if_neg c1] at k
      have c2 : ¬ a0 = 2 := c2
      have h := h.2 c2
      rw [if_neg c2] at k
      have c3 : ¬ a0 = 3 := c3
      have h := h.2 c3
      rw [if_neg c3] at k
      have c4 : ¬ a0 = 4 := c4
      have h := h.2 c4
      rw [if_neg c4] at k
      have c5 : a0 = 5 := c5
      have h := h.1 c5
      rw [if_pos c5] at k
      refine z_aload_n (pc' := 101) 0 rfl rfl dX11_most_100 rfl ?_
      refine z_getR (t := 30) (pc' := 104) g_X11_19 (by decide) rfl rfl dX11_most_101 rfl ?_
      refine z_invV (as := []) (st := []) (C := m_X6_longest) (fs := [33, 34]) (pc' := 107) dX11_most_104 rfl t_5_150 k_X6_longest rfl (by decide) rfl rfl rfl rfl (Nat.le_of_ble_eq_true rfl) ?_
      have r8 := h
      refine c_Y_longest r8 ?_
      show z_Wp m_X11_most _ 107 [(0, zR 27), (1, zI a0)] [zI (F_Y_longest w)] w _
      refine z_iret rfl dX11_most_107 ?_
      exact k
    · skip
      have c0 : ¬ a0 = 0 := c0
      have h := h.2 c0
      rw [if_neg c0] at k
      have c1 : ¬ a0 = 1 := c1
      have h := h.2 c1
      rw [if_neg c1] at k
      have c2 : ¬ a0 = 2 := c2
      have h := h.2 c2
      rw [if_neg c2] at k
      have c3 : ¬ a0 = 3 := c3
      have h := h.2 c3
      rw [if_neg c3] at k
      have c4 : ¬ a0 = 4 := c4
      have h := h.2 c4
      rw [if_neg c4] at k
      have c5 : ¬ a0 = 5 := c5
      have h := h.2 c5
      rw [if_neg c5] at k
      have c6 : a0 = 6 := c6
      have h := h.1 c6
      rw [if_pos c6] at k
      refine z_aload_n (pc' := 109) 0 rfl rfl dX11_most_108 rfl ?_
      refine z_getR (t := 55) (pc' := 112) g_X11_63 (by decide) rfl rfl dX11_most_109 rfl ?_
      refine z_invV (as := []) (st := []) (C := m_X1_dearest) (fs := [32, 43, 58, 59, 0, 0]) (pc' := 115) dX11_most_112 rfl t_5_155 k_X1_dearest rfl (by decide) rfl rfl rfl rfl (Nat.le_of_ble_eq_true rfl) ?_
      have r9 := h
      refine c_G_dearest r9 ?_
      show z_Wp m_X11_most _ 115 [(0, zR 27), (1, zI a0)] [zI (F_G_dearest w)] w _
      refine z_iret rfl dX11_most_115 ?_
      exact k
    · skip
      have c0 : ¬ a0 = 0 := c0
      have h := h.2 c0
      rw [if_neg c0] at k
      have c1 : ¬ a0 = 1 := c1
      have h := h.2 c1
      rw [if_neg c1] at k
      have c2 : ¬ a0 = 2 := c2
      have h := h.2 c2
      rw [if_neg c2] at k
      have c3 : ¬ a0 = 3 := c3
      have h := h.2 c3
      rw [if_neg c3] at k
      have c4 : ¬ a0 = 4 := c4
      have h := h.2 c4
      rw [if_neg c4] at k
      have c5 : ¬ a0 = 5 := c5
      have h := h.2 c5
      rw [if_neg c5] at k
      have c6 : ¬ a0 = 6 := c6
      have h := h.2 c6
      rw [if_neg c6] at k
      have c7 : a0 = 7 := c7
      have h := h.1 c7
      rw [if_pos c7] at k
      refine z_aload_n (pc' := 117) 0 rfl rfl dX11_most_116 rfl ?_
      refine z_getR (t := 41) (pc' := 120) g_X11_44 (by decide) rfl rfl dX11_most_117 rfl ?_
      refine z_invV (as := []) (st := []) (C := m_X3_drowned) (fs := [32, 44, 45, 46, 47, 48, 0, 0, 0]) (pc' := 123) dX11_most_120 rfl t_3_154 k_X3_drowned rfl (by decide) rfl rfl rfl rfl (Nat.le_of_ble_eq_true rfl) ?_
      have r10 := h
      refine c_K_drowned r10 ?_
      show z_Wp m_X11_most _ 123 [(0, zR 27), (1, zI a0)] [zI (zz_and ((zz_shl 1 (w 32 2)) - 1) (zz_xor (F_K_inside w (-1)) (-1)))] w _
      refine z_invS (as := [zI (zz_and ((zz_shl 1 (w 32 2)) - 1) (zz_xor (F_K_inside w (-1)) (-1)))]) (st := []) (C := m_J6_bitCount_0f7a4) (pc' := 126) dX11_most_123 rfl t_3_139 k_J6_bitCount_0f7a4 rfl rfl (Nat.le_of_ble_eq_true rfl) ?_
      refine c_J_bitCount_0f7a4 ?_
      show z_Wp m_X11_most _ 126 [(0, zR 27), (1, zI a0)] [zI (F_J_bitCount_0f7a4 w (zz_and ((zz_shl 1 (w 32 2)) - 1) (zz_xor (F_K_inside w (-1)) (-1))))] w _
      refine z_iret rfl dX11_most_126 ?_
      exact k
    · skip
      have c0 : ¬ a0 = 0 := c0
      have h := h.2 c0
      rw [if_neg c0] at k
      have c1 : ¬ a0 = 1 := c1
      have h := h.2 c1
      rw [if_neg c1] at k
      have c2 : ¬ a0 = 2 := c2
      have h := h.2 c2
      rw [if_neg c2] at k
      have c3 : ¬ a0 = 3 := c3
      have h := h.2 c3
      rw [if_neg c3] at k
      have c4 : ¬ a0 = 4 := c4
      have h := h.2 c4
      rw [if_neg c4] at k
      have c5 : ¬ a0 = 5 := c5
      have h := h.2 c5
      rw [if_neg c5] at k
      have c6 : ¬ a0 = 6 := c6
      have h := h.2 c6
      rw [if_neg c6] at k
      have c7 : ¬ a0 = 7 := c7
      have h := h.2 c7
      rw [if_neg c7] at k
      refine z_iconst (pc' := 128) dX11_most_127 rfl ?_
      refine z_iret rfl dX11_most_128 ?_
      exact k
  · have h := h.1 c
    rw [if_pos c] at k
    refine z_iconst (pc' := 11) dX11_most_10 rfl ?_
    refine z_iret rfl dX11_most_11 ?_
    exact k
def P_D_quiet (w : z_Wd) (a0 : Int) : Prop := (P_Y_stands w) ∧ ((F_Y_stands w = 0 → True) ∧ (¬ (F_Y_stands w = 0) → (-2147483648 ≤ a0 ∧ a0 < 2147483648) ∧ ((a0 < 1 → True) ∧ (¬ (a0 < 1) → (a0 ≤ 9999 → P_G_yearsUntil w a0) ∧ (¬ (a0 ≤ 9999) → True)))))
def F_D_quiet (w : z_Wd) (a0 : Int) : Int × z_Wd := if F_Y_stands w = 0 then ((-1), w) else if a0 < 1 then ((-1), w) else if a0 ≤ 9999 then ((F_G_yearsUntil w a0).1, (F_G_yearsUntil w a0).2) else ((-1), w)
set_option maxRecDepth 4000 in
theorem c_D_quiet {d : Nat} {w : z_Wd} {a0 : Int} {Q : Option z_V → z_Wd → Prop} (h : P_D_quiet w a0) (k : Q (some (zI (F_D_quiet w a0).1)) (F_D_quiet w a0).2) : z_Wc (d + 8) m_X11_quiet [zR 27, zI a0] w Q := by
  unfold P_D_quiet at h
  unfold F_D_quiet at k
  refine z_enter rfl (Nat.le_of_ble_eq_true rfl) ?_
  show z_Wp m_X11_quiet _ 0 [(0, zR 27), (1, zI a0)] [] w _
  refine z_aload_n (pc' := 1) 0 rfl rfl dX11_quiet_0 rfl ?_
  refine z_getR (t := 30) (pc' := 4) g_X11_19 (by decide) rfl rfl dX11_quiet_1 rfl ?_
  refine z_invV (as := []) (st := []) (C := m_X6_stands) (fs := [33, 34]) (pc' := 7) dX11_quiet_4 rfl t_3_95 k_X6_stands rfl (by decide) rfl rfl rfl rfl (Nat.le_of_ble_eq_true rfl) ?_
  obtain ⟨r1, h⟩ := h
  refine c_Y_stands r1 ?_
  show z_Wp m_X11_quiet _ 7 [(0, zR 27), (1, zI a0)] [zI (F_Y_stands w)] w _
  refine z_if_eq 22 dX11_quiet_7 (by decide) (pc' := 10) rfl (z_rb b_Y_stands) (fun c => ?_) (fun c => ?_)
  · have h := h.1 c
    rw [if_pos c] at k
    refine z_iconst (pc' := 23) dX11_quiet_22 rfl ?_
    refine z_iret rfl dX11_quiet_23 ?_
    exact k
  · have h := h.2 c
    rw [if_neg c] at k
    refine z_iload_n (pc' := 11) 1 rfl rfl dX11_quiet_10 rfl ?_
    refine z_iconst (pc' := 12) dX11_quiet_11 rfl ?_
    obtain ⟨r2, h⟩ := h
    refine z_icmp_lt 22 dX11_quiet_12 (by decide) (pc' := 15) rfl r2 (by decide) (fun c => ?_) (fun c => ?_)
    · have h := h.1 c
      rw [if_pos c] at k
      refine z_iconst (pc' := 23) dX11_quiet_22 rfl ?_
      refine z_iret rfl dX11_quiet_23 ?_
      exact k
    · have h := h.2 c
      rw [if_neg c] at k
      refine z_iload_n (pc' := 16) 1 rfl rfl dX11_quiet_15 rfl ?_
      refine z_sipush (pc' := 19) (by decide) dX11_quiet_16 rfl ?_
      refine z_icmp_le 24 dX11_quiet_19 (by decide) (pc' := 22) rfl r2 (by decide) (fun c => ?_) (fun c => ?_)
      · have h := h.1 c
        rw [if_pos c] at k
        refine z_aload_n (pc' := 25) 0 rfl rfl dX11_quiet_24 rfl ?_
        refine z_getR (t := 55) (pc' := 28) g_X11_63 (by decide) rfl rfl dX11_quiet_25 rfl ?_
        refine z_iload_n (pc' := 29) 1 rfl rfl dX11_quiet_28 rfl ?_
        refine z_invV (as := [zI a0]) (st := []) (C := m_X1_yearsUntil) (fs := [32, 43, 58, 59, 0, 0]) (pc' := 32) dX11_quiet_29 rfl t_5_168 k_X1_yearsUntil rfl (by decide) rfl rfl rfl rfl (Nat.le_of_ble_eq_true rfl) ?_
        have r3 := h
        refine c_G_yearsUntil r3 ?_
        show z_Wp m_X11_quiet _ 32 [(0, zR 27), (1, zI a0)] [zI ((F_G_yearsUntil w a0).1)] ((F_G_yearsUntil w a0).2) _
        refine z_iret rfl dX11_quiet_32 ?_
        exact k
      · have h := h.2 c
        rw [if_neg c] at k
        refine z_iconst (pc' := 23) dX11_quiet_22 rfl ?_
        refine z_iret rfl dX11_quiet_23 ?_
        exact k
