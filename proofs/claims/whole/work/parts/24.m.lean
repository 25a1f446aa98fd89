def P_M_roomOf (w : z_Wd) (a0 : Int) : Prop := (0 ≤ 32 + a0 ∧ 32 + a0 < 160) ∧ (P_M_dropsIn w a0)
def F_M_roomOf (w : z_Wd) (a0 : Int) : Int := (w 19 ((32 + a0).toNat)) - (F_M_dropsIn w a0)
set_option maxRecDepth 4000 in
theorem c_M_roomOf {d : Nat} {w : z_Wd} {a0 : Int} {Q : Option z_V → z_Wd → Prop} (h : P_M_roomOf w a0) (k : Q (some (zI (F_M_roomOf w a0))) w) : z_Wc (d + 3) m_X12_roomOf [zR 0, zI a0] w Q := by
  unfold P_M_roomOf at h
  unfold F_M_roomOf at k
  refine z_enter rfl (Nat.le_of_ble_eq_true rfl) ?_
  show z_Wp m_X12_roomOf _ 0 [(0, zR 0), (1, zI a0)] [] w _
  refine z_aload_n (pc' := 1) 0 rfl rfl dX12_roomOf_0 rfl ?_
  refine z_getR (t := 19) (pc' := 4) g_X12_64 (by decide) rfl rfl dX12_roomOf_1 rfl ?_
  refine z_bipush (pc' := 6) (by decide) dX12_roomOf_4 rfl ?_
  refine z_iload_n (pc' := 7) 1 rfl rfl dX12_roomOf_6 rfl ?_
  refine z_iadd (pc' := 8) dX12_roomOf_7 rfl ?_
  obtain ⟨r1, h⟩ := h
  refine z_iald2 (v := w 19 ((32 + a0).toNat)) (pc' := 9) (by decide) rfl r1 (by decide) rfl dX12_roomOf_8 rfl ?_
  refine z_aload_n (pc' := 10) 0 rfl rfl dX12_roomOf_9 rfl ?_
  refine z_iload_n (pc' := 11) 1 rfl rfl dX12_roomOf_10 rfl ?_
  refine z_invV (as := [zI a0]) (st := [zI (w 19 ((32 + a0).toNat))]) (C := m_X12_dropsIn) (fs := [0, 3, 0, 0, 0, 0, 4, 5, 6, 7, 8, 9, 10, 0, 0, 11, 12, 13, 14, 15, 16, 0, 0, 0, 17, 18, 19, 20, 0, 0, 0, 21, 22, 0, 0, 23, 0, 1, 24, 0, 0, 25, 26, 0, 27, 0]) (pc' := 14) dX12_roomOf_11 rfl t_7_199 k_X12_dropsIn rfl (by decide) rfl rfl rfl rfl (Nat.le_of_ble_eq_true rfl) ?_
  have r2 := h
  refine c_M_dropsIn r2 ?_
  show z_Wp m_X12_roomOf _ 14 [(0, zR 0), (1, zI a0)] [zI (F_M_dropsIn w a0), zI (w 19 ((32 + a0).toNat))] w _
  refine z_isub (pc' := 15) dX12_roomOf_14 rfl ?_
  refine z_iret rfl dX12_roomOf_15 ?_
  exact k
set_option maxRecDepth 4000 in
theorem v_M_wellOf {d : Nat} {w : z_Wd} {a0 : Int} {Q : Option z_V → z_Wd → Prop} (h : z_Wp m_X12_wellOf (d + 2) 2 [(0, zR 0), (1, zI a0), (2, zI 0)] [] w Q) : z_Wc (d + 2) m_X12_wellOf [zR 0, zI a0] w Q := by
  refine z_enter rfl (Nat.le_of_ble_eq_true rfl) ?_
  show z_Wp m_X12_wellOf _ 0 [(0, zR 0), (1, zI a0)] [] w _
  refine z_iconst (pc' := 1) dX12_wellOf_0 rfl ?_
  refine z_istore_n (pc' := 2) (ls' := [(0, zR 0), (1, zI a0), (2, zI 0)]) rfl (by decide) rfl rfl dX12_wellOf_1 rfl ?_
  exact h
set_option maxRecDepth 4000 in
theorem v_M_wellOf_2 {d : Nat} {w : z_Wd} {l1 l2 : Int} {Q : Option z_V → z_Wd → Prop} (h : (-2147483648 ≤ l2 ∧ l2 < 2147483648) ∧ (-2147483648 ≤ w 0 28 ∧ w 0 28 < 2147483648) ∧ ((l2 ≥ w 0 28 → Q (some (zI (-1))) w) ∧ (¬ (l2 ≥ w 0 28) → (P_M_layerOf w l2 l1) ∧ (-2147483648 ≤ F_M_layerOf w l2 l1 ∧ F_M_layerOf w l2 l1 < 2147483648) ∧ ((F_M_layerOf w l2 l1 = (-1) → z_Wp m_X12_wellOf (d + 2) 2 [(0, zR 0), (1, zI l1), (2, zI (l2 + 1))] [] w Q) ∧ (¬ (F_M_layerOf w l2 l1 = (-1)) → Q (some (zI l2)) w))))) : z_Wp m_X12_wellOf (d + 2) 2 [(0, zR 0), (1, zI l1), (2, zI l2)] [] w Q := by
  refine z_iload_n (pc' := 3) 2 rfl rfl dX12_wellOf_2 rfl ?_
  refine z_aload_n (pc' := 4) 0 rfl rfl dX12_wellOf_3 rfl ?_
  refine z_getI2 (v := w 0 28) (pc' := 7) g_X12_257 (by decide) rfl rfl rfl dX12_wellOf_4 rfl ?_
  obtain ⟨r1, h⟩ := h
  obtain ⟨r2, h⟩ := h
  refine z_icmp_ge 28 dX12_wellOf_7 (by decide) (pc' := 10) rfl r1 r2 (fun c => ?_) (fun c => ?_)
  · have h := h.1 c
    refine z_iconst (pc' := 29) dX12_wellOf_28 rfl ?_
    refine z_iret rfl dX12_wellOf_29 ?_
    exact h
  · have h := h.2 c
    refine z_aload_n (pc' := 11) 0 rfl rfl dX12_wellOf_10 rfl ?_
    refine z_iload_n (pc' := 12) 2 rfl rfl dX12_wellOf_11 rfl ?_
    refine z_iload_n (pc' := 13) 1 rfl rfl dX12_wellOf_12 rfl ?_
    refine z_invV (as := [zI l2, zI l1]) (st := []) (C := m_X12_layerOf) (fs := [0, 3, 0, 0, 0, 0, 4, 5, 6, 7, 8, 9, 10, 0, 0, 11, 12, 13, 14, 15, 16, 0, 0, 0, 17, 18, 19, 20, 0, 0, 0, 21, 22, 0, 0, 23, 0, 1, 24, 0, 0, 25, 26, 0, 27, 0]) (pc' := 16) dX12_wellOf_13 rfl t_7_118 k_X12_layerOf rfl (by decide) rfl rfl rfl rfl (Nat.le_of_ble_eq_true rfl) ?_
    obtain ⟨r3, h⟩ := h
    refine c_M_layerOf r3 ?_
    show z_Wp m_X12_wellOf _ 16 [(0, zR 0), (1, zI l1), (2, zI l2)] [zI (F_M_layerOf w l2 l1)] w _
    refine z_iconst (pc' := 17) dX12_wellOf_16 rfl ?_
    obtain ⟨r4, h⟩ := h
    refine z_icmp_eq 22 dX12_wellOf_17 (by decide) (pc' := 20) rfl r4 (by decide) (fun c => ?_) (fun c => ?_)
    · have h := h.1 c
      refine z_iinc (pc' := 25) (ls' := [(0, zR 0), (1, zI l1), (2, zI (l2 + 1))]) 2 rfl (by decide) rfl rfl dX12_wellOf_22 rfl ?_
      refine z_goto 2 dX12_wellOf_25 (by decide) ?_
      exact h
    · have h := h.2 c
      refine z_iload_n (pc' := 21) 2 rfl rfl dX12_wellOf_20 rfl ?_
      refine z_iret rfl dX12_wellOf_21 ?_
      exact h
set_option maxRecDepth 4000 in
theorem v_M_reachedBy {d : Nat} {w : z_Wd} {a0 a1 : Int} {Q : Option z_V → z_Wd → Prop} (h : z_Wp m_X12_reachedBy (d + 3) 2 [(0, zR 0), (1, zI a0), (2, zI a1), (3, zI 0)] [] w Q) : z_Wc (d + 3) m_X12_reachedBy [zR 0, zI a0, zI a1] w Q := by
  refine z_enter rfl (Nat.le_of_ble_eq_true rfl) ?_
  show z_Wp m_X12_reachedBy _ 0 [(0, zR 0), (1, zI a0), (2, zI a1)] [] w _
  refine z_iconst (pc' := 1) dX12_reachedBy_0 rfl ?_
  refine z_istore_n (pc' := 2) (ls' := [(0, zR 0), (1, zI a0), (2, zI a1), (3, zI 0)]) rfl (by decide) rfl rfl dX12_reachedBy_1 rfl ?_
  exact h
set_option maxRecDepth 4000 in
theorem v_M_reachedBy_2 {d : Nat} {w : z_Wd} {l1 l2 l3 : Int} {Q : Option z_V → z_Wd → Prop} (h : (0 ≤ l1 ∧ l1 < 160) ∧ (-2147483648 ≤ l3 ∧ l3 < 2147483648) ∧ (-2147483648 ≤ w 19 l1.toNat ∧ w 19 l1.toNat < 2147483648) ∧ ((l3 ≥ w 19 l1.toNat → Q (some (zI (-1))) w) ∧ (¬ (l3 ≥ w 19 l1.toNat) → (0 ≤ (4 + (7 * l1)) + l3 ∧ (4 + (7 * l1)) + l3 < 160) ∧ (0 ≤ (3 * (w 19 (((4 + (7 * l1)) + l3).toNat))) + 0 ∧ (3 * (w 19 (((4 + (7 * l1)) + l3).toNat))) + 0 < 21) ∧ (P_M_aboveAt w l1 l3) ∧ (-2147483648 ≤ ((w 17 ((3 * (w 19 (((4 + (7 * l1)) + l3).toNat))).toNat)) * (w 15 0)) + (F_M_aboveAt w l1 l3) ∧ ((w 17 ((3 * (w 19 (((4 + (7 * l1)) + l3).toNat))).toNat)) * (w 15 0)) + (F_M_aboveAt w l1 l3) < 2147483648) ∧ (-2147483648 ≤ l2 ∧ l2 < 2147483648) ∧ ((((w 17 ((3 * (w 19 (((4 + (7 * l1)) + l3).toNat))).toNat)) * (w 15 0)) + (F_M_aboveAt w l1 l3) > l2 → z_Wp m_X12_reachedBy (d + 3) 2 [(0, zR 0), (1, zI l1), (2, zI l2), (3, zI (l3 + 1))] [] w Q) ∧ (¬ (((w 17 ((3 * (w 19 (((4 + (7 * l1)) + l3).toNat))).toNat)) * (w 15 0)) + (F_M_aboveAt w l1 l3) > l2) → Q (some (zI l3)) w))))) : z_Wp m_X12_reachedBy (d + 3) 2 [(0, zR 0), (1, zI l1), (2, zI l2), (3, zI l3)] [] w Q := by
  refine z_iload_n (pc' := 3) 3 rfl rfl dX12_reachedBy_2 rfl ?_
  refine z_aload_n (pc' := 4) 0 rfl rfl dX12_reachedBy_3 rfl ?_
  refine z_getR (t := 19) (pc' := 7) g_X12_64 (by decide) rfl rfl dX12_reachedBy_4 rfl ?_
  refine z_iconst (pc' := 8) dX12_reachedBy_7 rfl ?_
  refine z_iload_n (pc' := 9) 1 rfl rfl dX12_reachedBy_8 rfl ?_
  refine z_iadd (pc' := 10) dX12_reachedBy_9 rfl ?_
  refine z_eqI (y := l1) (by omega) ?_
  obtain ⟨r1, h⟩ := h
  refine z_iald2 (v := w 19 l1.toNat) (pc' := 11) (by decide) rfl r1 (by decide) rfl dX12_reachedBy_10 rfl ?_
  obtain ⟨r2, h⟩ := h
  obtain ⟨r3, h⟩ := h
  refine z_icmp_ge 43 dX12_reachedBy_11 (by decide) (pc' := 14) rfl r2 r3 (fun c => ?_) (fun c => ?_)
  · have h := h.1 c
    refine z_iconst (pc' := 44) dX12_reachedBy_43 rfl ?_
    refine z_iret rfl dX12_reachedBy_44 ?_
    exact h
  · have h := h.2 c
    refine z_aload_n (pc' := 15) 0 rfl rfl dX12_reachedBy_14 rfl ?_
    refine z_aload_n (pc' := 16) 0 rfl rfl dX12_reachedBy_15 rfl ?_
    refine z_iload_n (pc' := 17) 1 rfl rfl dX12_reachedBy_16 rfl ?_
    refine z_iload_n (pc' := 18) 3 rfl rfl dX12_reachedBy_17 rfl ?_
    refine z_invV (as := [zI l1, zI l3]) (st := [zR 0]) (C := m_X12_lies) (fs := [0, 3, 0, 0, 0, 0, 4, 5, 6, 7, 8, 9, 10, 0, 0, 11, 12, 13, 14, 15, 16, 0, 0, 0, 17, 18, 19, 20, 0, 0, 0, 21, 22, 0, 0, 23, 0, 1, 24, 0, 0, 25, 26, 0, 27, 0]) (pc' := 21) dX12_reachedBy_18 rfl t_7_122 k_X12_lies rfl (by decide) rfl rfl rfl rfl (Nat.le_of_ble_eq_true rfl) ?_
    obtain ⟨r4, h⟩ := h
    refine c_M_lies r4 ?_
    show z_Wp m_X12_reachedBy _ 21 [(0, zR 0), (1, zI l1), (2, zI l2), (3, zI l3)] [zI (w 19 (((4 + (7 * l1)) + l3).toNat)), zR 0] w _
    refine z_invV (as := [zI (w 19 (((4 + (7 * l1)) + l3).toNat))]) (st := []) (C := m_X12_dropsOf) (fs := [0, 3, 0, 0, 0, 0, 4, 5, 6, 7, 8, 9, 10, 0, 0, 11, 12, 13, 14, 15, 16, 0, 0, 0, 17, 18, 19, 20, 0, 0, 0, 21, 22, 0, 0, 23, 0, 1, 24, 0, 0, 25, 26, 0, 27, 0]) (pc' := 24) dX12_reachedBy_21 rfl t_7_134 k_X12_dropsOf rfl (by decide) rfl rfl rfl rfl (Nat.le_of_ble_eq_true rfl) ?_
    obtain ⟨r5, h⟩ := h
    refine c_M_dropsOf r5 ?_
    show z_Wp m_X12_reachedBy _ 24 [(0, zR 0), (1, zI l1), (2, zI l2), (3, zI l3)] [zI ((w 17 ((3 * (w 19 (((4 + (7 * l1)) + l3).toNat))).toNat)) * (w 15 0))] w _
    refine z_aload_n (pc' := 25) 0 rfl rfl dX12_reachedBy_24 rfl ?_
    refine z_iload_n (pc' := 26) 1 rfl rfl dX12_reachedBy_25 rfl ?_
    refine z_iload_n (pc' := 27) 3 rfl rfl dX12_reachedBy_26 rfl ?_
    refine z_invV (as := [zI l1, zI l3]) (st := [zI ((w 17 ((3 * (w 19 (((4 + (7 * l1)) + l3).toNat))).toNat)) * (w 15 0))]) (C := m_X12_aboveAt) (fs := [0, 3, 0, 0, 0, 0, 4, 5, 6, 7, 8, 9, 10, 0, 0, 11, 12, 13, 14, 15, 16, 0, 0, 0, 17, 18, 19, 20, 0, 0, 0, 21, 22, 0, 0, 23, 0, 1, 24, 0, 0, 25, 26, 0, 27, 0]) (pc' := 30) dX12_reachedBy_27 rfl t_7_130 k_X12_aboveAt rfl (by decide) rfl rfl rfl rfl (Nat.le_of_ble_eq_true rfl) ?_
    obtain ⟨r6, h⟩ := h
    refine c_M_aboveAt r6 ?_
    show z_Wp m_X12_reachedBy _ 30 [(0, zR 0), (1, zI l1), (2, zI l2), (3, zI l3)] [zI (F_M_aboveAt w l1 l3), zI ((w 17 ((3 * (w 19 (((4 + (7 * l1)) + l3).toNat))).toNat)) * (w 15 0))] w _
    refine z_iadd (pc' := 31) dX12_reachedBy_30 rfl ?_
    refine z_iload_n (pc' := 32) 2 rfl rfl dX12_reachedBy_31 rfl ?_
    obtain ⟨r7, h⟩ := h
    obtain ⟨r8, h⟩ := h
    refine z_icmp_gt 37 dX12_reachedBy_32 (by decide) (pc' := 35) rfl r7 r8 (fun c => ?_) (fun c => ?_)
    · have h := h.1 c
      refine z_iinc (pc' := 40) (ls' := [(0, zR 0), (1, zI l1), (2, zI l2), (3, zI (l3 + 1))]) 3 rfl (by decide) rfl rfl dX12_reachedBy_37 rfl ?_
      refine z_goto 2 dX12_reachedBy_40 (by decide) ?_
      exact h
    · have h := h.2 c
      refine z_iload_n (pc' := 36) 3 rfl rfl dX12_reachedBy_35 rfl ?_
      refine z_iret rfl dX12_reachedBy_36 ?_
      exact h
