set_option maxRecDepth 4000 in
theorem v_M_dropsIn {d : Nat} {w : z_Wd} {a0 : Int} {Q : Option z_V → z_Wd → Prop} (h : z_Wp m_X12_dropsIn (d + 2) 4 [(0, zR 0), (1, zI a0), (2, zI 0), (3, zI 0)] [] w Q) : z_Wc (d + 2) m_X12_dropsIn [zR 0, zI a0] w Q := by
  refine z_enter rfl (Nat.le_of_ble_eq_true rfl) ?_
  show z_Wp m_X12_dropsIn _ 0 [(0, zR 0), (1, zI a0)] [] w _
  refine z_iconst (pc' := 1) dX12_dropsIn_0 rfl ?_
  refine z_istore_n (pc' := 2) (ls' := [(0, zR 0), (1, zI a0), (2, zI 0)]) rfl (by decide) rfl rfl dX12_dropsIn_1 rfl ?_
  refine z_iconst (pc' := 3) dX12_dropsIn_2 rfl ?_
  refine z_istore_n (pc' := 4) (ls' := [(0, zR 0), (1, zI a0), (2, zI 0), (3, zI 0)]) rfl (by decide) rfl rfl dX12_dropsIn_3 rfl ?_
  exact h
set_option maxRecDepth 4000 in
theorem v_M_dropsIn_4 {d : Nat} {w : z_Wd} {l1 l2 l3 : Int} {Q : Option z_V → z_Wd → Prop} (h : (0 ≤ l1 ∧ l1 < 160) ∧ (-2147483648 ≤ l3 ∧ l3 < 2147483648) ∧ (-2147483648 ≤ w 19 l1.toNat ∧ w 19 l1.toNat < 2147483648) ∧ ((l3 ≥ w 19 l1.toNat → Q (some (zI l2)) w) ∧ (¬ (l3 ≥ w 19 l1.toNat) → (0 ≤ (4 + (7 * l1)) + l3 ∧ (4 + (7 * l1)) + l3 < 160) ∧ (0 ≤ (3 * (w 19 (((4 + (7 * l1)) + l3).toNat))) + 0 ∧ (3 * (w 19 (((4 + (7 * l1)) + l3).toNat))) + 0 < 21) ∧ (z_Wp m_X12_dropsIn (d + 2) 4 [(0, zR 0), (1, zI l1), (2, zI (l2 + ((w 17 ((3 * (w 19 (((4 + (7 * l1)) + l3).toNat))).toNat)) * (w 15 0)))), (3, zI (l3 + 1))] [] w Q)))) : z_Wp m_X12_dropsIn (d + 2) 4 [(0, zR 0), (1, zI l1), (2, zI l2), (3, zI l3)] [] w Q := by
  refine z_iload_n (pc' := 5) 3 rfl rfl dX12_dropsIn_4 rfl ?_
  refine z_aload_n (pc' := 6) 0 rfl rfl dX12_dropsIn_5 rfl ?_
  refine z_getR (t := 19) (pc' := 9) g_X12_64 (by decide) rfl rfl dX12_dropsIn_6 rfl ?_
  refine z_iconst (pc' := 10) dX12_dropsIn_9 rfl ?_
  refine z_iload_n (pc' := 11) 1 rfl rfl dX12_dropsIn_10 rfl ?_
  refine z_iadd (pc' := 12) dX12_dropsIn_11 rfl ?_
  refine z_eqI (y := l1) (by omega) ?_
  obtain ⟨r1, h⟩ := h
  refine z_iald2 (v := w 19 l1.toNat) (pc' := 13) (by decide) rfl r1 (by decide) rfl dX12_dropsIn_12 rfl ?_
  obtain ⟨r2, h⟩ := h
  obtain ⟨r3, h⟩ := h
  refine z_icmp_ge 35 dX12_dropsIn_13 (by decide) (pc' := 16) rfl r2 r3 (fun c => ?_) (fun c => ?_)
  · have h := h.1 c
    refine z_iload_n (pc' := 36) 2 rfl rfl dX12_dropsIn_35 rfl ?_
    refine z_iret rfl dX12_dropsIn_36 ?_
    exact h
  · have h := h.2 c
    refine z_iload_n (pc' := 17) 2 rfl rfl dX12_dropsIn_16 rfl ?_
    refine z_aload_n (pc' := 18) 0 rfl rfl dX12_dropsIn_17 rfl ?_
    refine z_aload_n (pc' := 19) 0 rfl rfl dX12_dropsIn_18 rfl ?_
    refine z_iload_n (pc' := 20) 1 rfl rfl dX12_dropsIn_19 rfl ?_
    refine z_iload_n (pc' := 21) 3 rfl rfl dX12_dropsIn_20 rfl ?_
    refine z_invV (as := [zI l1, zI l3]) (st := [zR 0, zI l2]) (C := m_X12_lies) (fs := [0, 3, 0, 0, 0, 0, 4, 5, 6, 7, 8, 9, 10, 0, 0, 11, 12, 13, 14, 15, 16, 0, 0, 0, 17, 18, 19, 20, 0, 0, 0, 21, 22, 0, 0, 23, 0, 1, 24, 0, 0, 25, 26, 0, 27, 0]) (pc' := 24) dX12_dropsIn_21 rfl t_7_122 k_X12_lies rfl (by decide) rfl rfl rfl rfl (Nat.le_of_ble_eq_true rfl) ?_
    obtain ⟨r4, h⟩ := h
    refine c_M_lies r4 ?_
    show z_Wp m_X12_dropsIn _ 24 [(0, zR 0), (1, zI l1), (2, zI l2), (3, zI l3)] [zI (w 19 (((4 + (7 * l1)) + l3).toNat)), zR 0, zI l2] w _
    refine z_invV (as := [zI (w 19 (((4 + (7 * l1)) + l3).toNat))]) (st := [zI l2]) (C := m_X12_dropsOf) (fs := [0, 3, 0, 0, 0, 0, 4, 5, 6, 7, 8, 9, 10, 0, 0, 11, 12, 13, 14, 15, 16, 0, 0, 0, 17, 18, 19, 20, 0, 0, 0, 21, 22, 0, 0, 23, 0, 1, 24, 0, 0, 25, 26, 0, 27, 0]) (pc' := 27) dX12_dropsIn_24 rfl t_7_134 k_X12_dropsOf rfl (by decide) rfl rfl rfl rfl (Nat.le_of_ble_eq_true rfl) ?_
    obtain ⟨r5, h⟩ := h
    refine c_M_dropsOf r5 ?_
    show z_Wp m_X12_dropsIn _ 27 [(0, zR 0), (1, zI l1), (2, zI l2), (3, zI l3)] [zI ((w 17 ((3 * (w 19 (((4 + (7 * l1)) + l3).toNat))).toNat)) * (w 15 0)), zI l2] w _
    refine z_iadd (pc' := 28) dX12_dropsIn_27 rfl ?_
    refine z_istore_n (pc' := 29) (ls' := [(0, zR 0), (1, zI l1), (2, zI (l2 + ((w 17 ((3 * (w 19 (((4 + (7 * l1)) + l3).toNat))).toNat)) * (w 15 0)))), (3, zI l3)]) rfl (by decide) rfl rfl dX12_dropsIn_28 rfl ?_
    refine z_iinc (pc' := 32) (ls' := [(0, zR 0), (1, zI l1), (2, zI (l2 + ((w 17 ((3 * (w 19 (((4 + (7 * l1)) + l3).toNat))).toNat)) * (w 15 0)))), (3, zI (l3 + 1))]) 3 rfl (by decide) rfl rfl dX12_dropsIn_29 rfl ?_
    refine z_goto 4 dX12_dropsIn_32 (by decide) ?_
    exact h
set_option maxRecDepth 4000 in
theorem v_M_layerOf {d : Nat} {w : z_Wd} {a0 a1 : Int} {Q : Option z_V → z_Wd → Prop} (h : z_Wp m_X12_layerOf (d + 1) 2 [(0, zR 0), (1, zI a0), (2, zI a1), (3, zI 0)] [] w Q) : z_Wc (d + 1) m_X12_layerOf [zR 0, zI a0, zI a1] w Q := by
  refine z_enter rfl (Nat.le_of_ble_eq_true rfl) ?_
  show z_Wp m_X12_layerOf _ 0 [(0, zR 0), (1, zI a0), (2, zI a1)] [] w _
  refine z_iconst (pc' := 1) dX12_layerOf_0 rfl ?_
  refine z_istore_n (pc' := 2) (ls' := [(0, zR 0), (1, zI a0), (2, zI a1), (3, zI 0)]) rfl (by decide) rfl rfl dX12_layerOf_1 rfl ?_
  exact h
set_option maxRecDepth 4000 in
theorem v_M_layerOf_2 {d : Nat} {w : z_Wd} {l1 l2 l3 : Int} {Q : Option z_V → z_Wd → Prop} (h : (0 ≤ l1 ∧ l1 < 160) ∧ (-2147483648 ≤ l3 ∧ l3 < 2147483648) ∧ (-2147483648 ≤ w 19 l1.toNat ∧ w 19 l1.toNat < 2147483648) ∧ ((l3 ≥ w 19 l1.toNat → Q (some (zI (-1))) w) ∧ (¬ (l3 ≥ w 19 l1.toNat) → (0 ≤ (4 + (7 * l1)) + l3 ∧ (4 + (7 * l1)) + l3 < 160) ∧ (-2147483648 ≤ w 19 (((4 + (7 * l1)) + l3).toNat) ∧ w 19 (((4 + (7 * l1)) + l3).toNat) < 2147483648) ∧ (-2147483648 ≤ l2 ∧ l2 < 2147483648) ∧ ((w 19 (((4 + (7 * l1)) + l3).toNat) = l2 → Q (some (zI l3)) w) ∧ (¬ (w 19 (((4 + (7 * l1)) + l3).toNat) = l2) → z_Wp m_X12_layerOf (d + 1) 2 [(0, zR 0), (1, zI l1), (2, zI l2), (3, zI (l3 + 1))] [] w Q))))) : z_Wp m_X12_layerOf (d + 1) 2 [(0, zR 0), (1, zI l1), (2, zI l2), (3, zI l3)] [] w Q := by
  refine z_iload_n (pc' := 3) 3 rfl rfl dX12_layerOf_2 rfl ?_
  refine z_aload_n (pc' := 4) 0 rfl rfl dX12_layerOf_3 rfl ?_
  refine z_getR (t := 19) (pc' := 7) g_X12_64 (by decide) rfl rfl dX12_layerOf_4 rfl ?_
  refine z_iconst (pc' := 8) dX12_layerOf_7 rfl ?_
  refine z_iload_n (pc' := 9) 1 rfl rfl dX12_layerOf_8 rfl ?_
  refine z_iadd (pc' := 10) dX12_layerOf_9 rfl ?_
  refine z_eqI (y := l1) (by omega) ?_
  obtain ⟨r1, h⟩ := h
  refine z_iald2 (v := w 19 l1.toNat) (pc' := 11) (by decide) rfl r1 (by decide) rfl dX12_layerOf_10 rfl ?_
  obtain ⟨r2, h⟩ := h
  obtain ⟨r3, h⟩ := h
  refine z_icmp_ge 32 dX12_layerOf_11 (by decide) (pc' := 14) rfl r2 r3 (fun c => ?_) (fun c => ?_)
  · have h := h.1 c
    refine z_iconst (pc' := 33) dX12_layerOf_32 rfl ?_
    refine z_iret rfl dX12_layerOf_33 ?_
    exact h
  · have h := h.2 c
    refine z_aload_n (pc' := 15) 0 rfl rfl dX12_layerOf_14 rfl ?_
    refine z_iload_n (pc' := 16) 1 rfl rfl dX12_layerOf_15 rfl ?_
    refine z_iload_n (pc' := 17) 3 rfl rfl dX12_layerOf_16 rfl ?_
    refine z_invV (as := [zI l1, zI l3]) (st := []) (C := m_X12_lies) (fs := [0, 3, 0, 0, 0, 0, 4, 5, 6, 7, 8, 9, 10, 0, 0, 11, 12, 13, 14, 15, 16, 0, 0, 0, 17, 18, 19, 20, 0, 0, 0, 21, 22, 0, 0, 23, 0, 1, 24, 0, 0, 25, 26, 0, 27, 0]) (pc' := 20) dX12_layerOf_17 rfl t_7_122 k_X12_lies rfl (by decide) rfl rfl rfl rfl (Nat.le_of_ble_eq_true rfl) ?_
    obtain ⟨r4, h⟩ := h
    refine c_M_lies r4 ?_
    show z_Wp m_X12_layerOf _ 20 [(0, zR 0), (1, zI l1), (2, zI l2), (3, zI l3)] [zI (w 19 (((4 + (7 * l1)) + l3).toNat))] w _
    refine z_iload_n (pc' := 21) 2 rfl rfl dX12_layerOf_20 rfl ?_
    obtain ⟨r5, h⟩ := h
    obtain ⟨r6, h⟩ := h
    refine z_icmp_ne 26 dX12_layerOf_21 (by decide) (pc' := 24) rfl r5 r6 (fun c => ?_) (fun c => ?_)
    · have h := h.2 c
      refine z_iinc (pc' := 29) (ls' := [(0, zR 0), (1, zI l1), (2, zI l2), (3, zI (l3 + 1))]) 3 rfl (by decide) rfl rfl dX12_layerOf_26 rfl ?_
      refine z_goto 2 dX12_layerOf_29 (by decide) ?_
      exact h
    · have h := h.1 c
      refine z_iload_n (pc' := 25) 3 rfl rfl dX12_layerOf_24 rfl ?_
      refine z_iret rfl dX12_layerOf_25 ?_
      exact h
set_option maxRecDepth 4000 in
theorem v_M_aboveAt {d : Nat} {w : z_Wd} {a0 a1 : Int} {Q : Option z_V → z_Wd → Prop} (h : z_Wp m_X12_aboveAt (d + 2) 7 [(0, zR 0), (1, zI a0), (3, zI 0), (4, zI (a1 + 1))] [] w Q) : z_Wc (d + 2) m_X12_aboveAt [zR 0, zI a0, zI a1] w Q := by
  refine z_enter rfl (Nat.le_of_ble_eq_true rfl) ?_
  show z_Wp m_X12_aboveAt _ 0 [(0, zR 0), (1, zI a0), (2, zI a1)] [] w _
  refine z_iconst (pc' := 1) dX12_aboveAt_0 rfl ?_
  refine z_istore_n (pc' := 2) (ls' := [(0, zR 0), (1, zI a0), (2, zI a1), (3, zI 0)]) rfl (by decide) rfl rfl dX12_aboveAt_1 rfl ?_
  refine z_iload_n (pc' := 3) 2 rfl rfl dX12_aboveAt_2 rfl ?_
  refine z_iconst (pc' := 4) dX12_aboveAt_3 rfl ?_
  refine z_iadd (pc' := 5) dX12_aboveAt_4 rfl ?_
  refine z_istore (pc' := 7) (ls' := [(0, zR 0), (1, zI a0), (2, zI a1), (3, zI 0), (4, zI (a1 + 1))]) (by decide) rfl rfl dX12_aboveAt_5 rfl ?_
  exact z_Wp.sub h (z_sub_of [0, 1, 3, 4] rfl)
set_option maxRecDepth 4000 in
theorem v_M_aboveAt_7 {d : Nat} {w : z_Wd} {l1 l3 l4 : Int} {Q : Option z_V → z_Wd → Prop} (h : (0 ≤ l1 ∧ l1 < 160) ∧ (-2147483648 ≤ l4 ∧ l4 < 2147483648) ∧ (-2147483648 ≤ w 19 l1.toNat ∧ w 19 l1.toNat < 2147483648) ∧ ((l4 ≥ w 19 l1.toNat → Q (some (zI l3)) w) ∧ (¬ (l4 ≥ w 19 l1.toNat) → (0 ≤ (4 + (7 * l1)) + l4 ∧ (4 + (7 * l1)) + l4 < 160) ∧ (0 ≤ (3 * (w 19 (((4 + (7 * l1)) + l4).toNat))) + 0 ∧ (3 * (w 19 (((4 + (7 * l1)) + l4).toNat))) + 0 < 21) ∧ (z_Wp m_X12_aboveAt (d + 2) 7 [(0, zR 0), (1, zI l1), (3, zI (l3 + ((w 17 ((3 * (w 19 (((4 + (7 * l1)) + l4).toNat))).toNat)) * (w 15 0)))), (4, zI (l4 + 1))] [] w Q)))) : z_Wp m_X12_aboveAt (d + 2) 7 [(0, zR 0), (1, zI l1), (3, zI l3), (4, zI l4)] [] w Q := by
  refine z_iload (pc' := 9) 3 rfl dX12_aboveAt_7 rfl ?_
  refine z_aload_n (pc' := 10) 0 rfl rfl dX12_aboveAt_9 rfl ?_
  refine z_getR (t := 19) (pc' := 13) g_X12_64 (by decide) rfl rfl dX12_aboveAt_10 rfl ?_
  refine z_iconst (pc' := 14) dX12_aboveAt_13 rfl ?_
  refine z_iload_n (pc' := 15) 1 rfl rfl dX12_aboveAt_14 rfl ?_
  refine z_iadd (pc' := 16) dX12_aboveAt_15 rfl ?_
  refine z_eqI (y := l1) (by omega) ?_
  obtain ⟨r1, h⟩ := h
  refine z_iald2 (v := w 19 l1.toNat) (pc' := 17) (by decide) rfl r1 (by decide) rfl dX12_aboveAt_16 rfl ?_
  obtain ⟨r2, h⟩ := h
  obtain ⟨r3, h⟩ := h
  refine z_icmp_ge 40 dX12_aboveAt_17 (by decide) (pc' := 20) rfl r2 r3 (fun c => ?_) (fun c => ?_)
  · have h := h.1 c
    refine z_iload_n (pc' := 41) 2 rfl rfl dX12_aboveAt_40 rfl ?_
    refine z_iret rfl dX12_aboveAt_41 ?_
    exact h
  · have h := h.2 c
    refine z_iload_n (pc' := 21) 2 rfl rfl dX12_aboveAt_20 rfl ?_
    refine z_aload_n (pc' := 22) 0 rfl rfl dX12_aboveAt_21 rfl ?_
    refine z_aload_n (pc' := 23) 0 rfl rfl dX12_aboveAt_22 rfl ?_
    refine z_iload_n (pc' := 24) 1 rfl rfl dX12_aboveAt_23 rfl ?_
    refine z_iload (pc' := 26) 3 rfl dX12_aboveAt_24 rfl ?_
    refine z_invV (as := [zI l1, zI l4]) (st := [zR 0, zI l3]) (C := m_X12_lies) (fs := [0, 3, 0, 0, 0, 0, 4, 5, 6, 7, 8, 9, 10, 0, 0, 11, 12, 13, 14, 15, 16, 0, 0, 0, 17, 18, 19, 20, 0, 0, 0, 21, 22, 0, 0, 23, 0, 1, 24, 0, 0, 25, 26, 0, 27, 0]) (pc' := 29) dX12_aboveAt_26 rfl t_7_122 k_X12_lies rfl (by decide) rfl rfl rfl rfl (Nat.le_of_ble_eq_true rfl) ?_
    obtain ⟨r4, h⟩ := h
    refine c_M_lies r4 ?_
    show z_Wp m_X12_aboveAt _ 29 [(0, zR 0), (1, zI l1), (3, zI l3), (4, zI l4)] [zI (w 19 (((4 + (7 * l1)) + l4).toNat)), zR 0, zI l3] w _
    refine z_invV (as := [zI (w 19 (((4 + (7 * l1)) + l4).toNat))]) (st := [zI l3]) (C := m_X12_dropsOf) (fs := [0, 3, 0, 0, 0, 0, 4, 5, 6, 7, 8, 9, 10, 0, 0, 11, 12, 13, 14, 15, 16, 0, 0, 0, 17, 18, 19, 20, 0, 0, 0, 21, 22, 0, 0, 23, 0, 1, 24, 0, 0, 25, 26, 0, 27, 0]) (pc' := 32) dX12_aboveAt_29 rfl t_7_134 k_X12_dropsOf rfl (by decide) rfl rfl rfl rfl (Nat.le_of_ble_eq_true rfl) ?_
    obtain ⟨r5, h⟩ := h
    refine c_M_dropsOf r5 ?_
    show z_Wp m_X12_aboveAt _ 32 [(0, zR 0), (1, zI l1), (3, zI l3), (4, zI l4)] [zI ((w 17 ((3 * (w 19 (((4 + (7 * l1)) + l4).toNat))).toNat)) * (w 15 0)), zI l3] w _
    refine z_iadd (pc' := 33) dX12_aboveAt_32 rfl ?_
    refine z_istore_n (pc' := 34) (ls' := [(0, zR 0), (1, zI l1), (3, zI (l3 + ((w 17 ((3 * (w 19 (((4 + (7 * l1)) + l4).toNat))).toNat)) * (w 15 0)))), (4, zI l4)]) rfl (by decide) rfl rfl dX12_aboveAt_33 rfl ?_
    refine z_iinc (pc' := 37) (ls' := [(0, zR 0), (1, zI l1), (3, zI (l3 + ((w 17 ((3 * (w 19 (((4 + (7 * l1)) + l4).toNat))).toNat)) * (w 15 0)))), (4, zI (l4 + 1))]) 3 rfl (by decide) rfl rfl dX12_aboveAt_34 rfl ?_
    refine z_goto 7 dX12_aboveAt_37 (by decide) ?_
    exact h
set_option maxRecDepth 4000 in
theorem v_M_knownBy {d : Nat} {w : z_Wd} {a0 : Int} {Q : Option z_V → z_Wd → Prop} (h : z_Wp m_X12_knownBy (d + 1) 4 [(0, zR 0), (1, zI a0), (2, zI 0), (3, zI 0)] [] w Q) : z_Wc (d + 1) m_X12_knownBy [zR 0, zI a0] w Q := by
  refine z_enter rfl (Nat.le_of_ble_eq_true rfl) ?_
  show z_Wp m_X12_knownBy _ 0 [(0, zR 0), (1, zI a0)] [] w _
  refine z_iconst (pc' := 1) dX12_knownBy_0 rfl ?_
  refine z_istore_n (pc' := 2) (ls' := [(0, zR 0), (1, zI a0), (2, zI 0)]) rfl (by decide) rfl rfl dX12_knownBy_1 rfl ?_
  refine z_iconst (pc' := 3) dX12_knownBy_2 rfl ?_
  refine z_istore_n (pc' := 4) (ls' := [(0, zR 0), (1, zI a0), (2, zI 0), (3, zI 0)]) rfl (by decide) rfl rfl dX12_knownBy_3 rfl ?_
  exact h
set_option maxRecDepth 4000 in
theorem v_M_knownBy_4 {d : Nat} {w : z_Wd} {l1 l2 l3 : Int} {Q : Option z_V → z_Wd → Prop} (h : (-2147483648 ≤ l3 ∧ l3 < 2147483648) ∧ (-2147483648 ≤ w 0 29 ∧ w 0 29 < 2147483648) ∧ ((l3 ≥ w 0 29 → Q (some (zI l2)) w) ∧ (¬ (l3 ≥ w 0 29) → (0 ≤ (3 * l3) + 1 ∧ (3 * l3) + 1 < 21) ∧ (-2147483648 ≤ w 17 (((3 * l3) + 1).toNat) ∧ w 17 (((3 * l3) + 1).toNat) < 2147483648) ∧ (-2147483648 ≤ l1 ∧ l1 < 2147483648) ∧ ((w 17 (((3 * l3) + 1).toNat) = l1 → z_Wp m_X12_knownBy (d + 1) 4 [(0, zR 0), (1, zI l1), (2, zI (zz_or l2 (zz_shl 1 l3))), (3, zI (l3 + 1))] [] w Q) ∧ (¬ (w 17 (((3 * l3) + 1).toNat) = l1) → z_Wp m_X12_knownBy (d + 1) 4 [(0, zR 0), (1, zI l1), (2, zI (zz_or l2 0)), (3, zI (l3 + 1))] [] w Q))))) : z_Wp m_X12_knownBy (d + 1) 4 [(0, zR 0), (1, zI l1), (2, zI l2), (3, zI l3)] [] w Q := by
  refine z_iload_n (pc' := 5) 3 rfl rfl dX12_knownBy_4 rfl ?_
  refine z_aload_n (pc' := 6) 0 rfl rfl dX12_knownBy_5 rfl ?_
  refine z_getI2 (v := w 0 29) (pc' := 9) g_X12_260 (by decide) rfl rfl rfl dX12_knownBy_6 rfl ?_
  obtain ⟨r1, h⟩ := h
  obtain ⟨r2, h⟩ := h
  refine z_icmp_ge 38 dX12_knownBy_9 (by decide) (pc' := 12) rfl r1 r2 (fun c => ?_) (fun c => ?_)
  · have h := h.1 c
    refine z_iload_n (pc' := 39) 2 rfl rfl dX12_knownBy_38 rfl ?_
    refine z_iret rfl dX12_knownBy_39 ?_
    exact h
  · have h := h.2 c
    refine z_iload_n (pc' := 13) 2 rfl rfl dX12_knownBy_12 rfl ?_
    refine z_aload_n (pc' := 14) 0 rfl rfl dX12_knownBy_13 rfl ?_
    refine z_iload_n (pc' := 15) 3 rfl rfl dX12_knownBy_14 rfl ?_
    refine z_iconst (pc' := 16) dX12_knownBy_15 rfl ?_
    refine z_invV (as := [zI l3, zI 1]) (st := [zI l2]) (C := m_X12_of) (fs := [0, 3, 0, 0, 0, 0, 4, 5, 6, 7, 8, 9, 10, 0, 0, 11, 12, 13, 14, 15, 16, 0, 0, 0, 17, 18, 19, 20, 0, 0, 0, 21, 22, 0, 0, 23, 0, 1, 24, 0, 0, 25, 26, 0, 27, 0]) (pc' := 19) dX12_knownBy_16 rfl t_7_138 k_X12_of rfl (by decide) rfl rfl rfl rfl (Nat.le_of_ble_eq_true rfl) ?_
    obtain ⟨r3, h⟩ := h
    refine c_M_of r3 ?_
    show z_Wp m_X12_knownBy _ 19 [(0, zR 0), (1, zI l1), (2, zI l2), (3, zI l3)] [zI (w 17 (((3 * l3) + 1).toNat)), zI l2] w _
    refine z_iload_n (pc' := 20) 1 rfl rfl dX12_knownBy_19 rfl ?_
    obtain ⟨r4, h⟩ := h
    obtain ⟨r5, h⟩ := h
    refine z_icmp_ne 29 dX12_knownBy_20 (by decide) (pc' := 23) rfl r4 r5 (fun c => ?_) (fun c => ?_)
    · have h := h.2 c
      refine z_iconst (pc' := 30) dX12_knownBy_29 rfl ?_
      refine z_ior (pc' := 31) dX12_knownBy_30 rfl ?_
      refine z_istore_n (pc' := 32) (ls' := [(0, zR 0), (1, zI l1), (2, zI (zz_or l2 0)), (3, zI l3)]) rfl (by decide) rfl rfl dX12_knownBy_31 rfl ?_
      refine z_iinc (pc' := 35) (ls' := [(0, zR 0), (1, zI l1), (2, zI (zz_or l2 0)), (3, zI (l3 + 1))]) 3 rfl (by decide) rfl rfl dX12_knownBy_32 rfl ?_
      refine z_goto 4 dX12_knownBy_35 (by decide) ?_
      exact h
    · have h := h.1 c
      refine z_iconst (pc' := 24) dX12_knownBy_23 rfl ?_
      refine z_iload_n (pc' := 25) 3 rfl rfl dX12_knownBy_24 rfl ?_
      refine z_ishl (pc' := 26) dX12_knownBy_25 rfl ?_
      refine z_goto 30 dX12_knownBy_26 (by decide) ?_
      refine z_ior (pc' := 31) dX12_knownBy_30 rfl ?_
      refine z_istore_n (pc' := 32) (ls' := [(0, zR 0), (1, zI l1), (2, zI (zz_or l2 (zz_shl 1 l3))), (3, zI l3)]) rfl (by decide) rfl rfl dX12_knownBy_31 rfl ?_
      refine z_iinc (pc' := 35) (ls' := [(0, zR 0), (1, zI l1), (2, zI (zz_or l2 (zz_shl 1 l3))), (3, zI (l3 + 1))]) 3 rfl (by decide) rfl rfl dX12_knownBy_32 rfl ?_
      refine z_goto 4 dX12_knownBy_35 (by decide) ?_
      exact h
set_option maxRecDepth 4000 in
theorem v_M_riseNow {d : Nat} {w : z_Wd} {a0 a1 : Int} {Q : Option z_V → z_Wd → Prop} (h : (0 ≤ (4 + (7 * a0)) + a1 ∧ (4 + (7 * a0)) + a1 < 160) ∧ (z_Wp m_X12_riseNow (d + 1) 12 [(0, zR 0), (1, zI a0), (3, zI (w 19 (((4 + (7 * a0)) + a1).toNat))), (4, zI (a1 + 1))] [] w Q)) : z_Wc (d + 1) m_X12_riseNow [zR 0, zI a0, zI a1] w Q := by
  refine z_enter rfl (Nat.le_of_ble_eq_true rfl) ?_
  show z_Wp m_X12_riseNow _ 0 [(0, zR 0), (1, zI a0), (2, zI a1)] [] w _
  refine z_aload_n (pc' := 1) 0 rfl rfl dX12_riseNow_0 rfl ?_
  refine z_iload_n (pc' := 2) 1 rfl rfl dX12_riseNow_1 rfl ?_
  refine z_iload_n (pc' := 3) 2 rfl rfl dX12_riseNow_2 rfl ?_
  refine z_invV (as := [zI a0, zI a1]) (st := []) (C := m_X12_lies) (fs := [0, 3, 0, 0, 0, 0, 4, 5, 6, 7, 8, 9, 10, 0, 0, 11, 12, 13, 14, 15, 16, 0, 0, 0, 17, 18, 19, 20, 0, 0, 0, 21, 22, 0, 0, 23, 0, 1, 24, 0, 0, 25, 26, 0, 27, 0]) (pc' := 6) dX12_riseNow_3 rfl t_7_122 k_X12_lies rfl (by decide) rfl rfl rfl rfl (Nat.le_of_ble_eq_true rfl) ?_
  obtain ⟨r1, h⟩ := h
  refine c_M_lies r1 ?_
  show z_Wp m_X12_riseNow _ 6 [(0, zR 0), (1, zI a0), (2, zI a1)] [zI (w 19 (((4 + (7 * a0)) + a1).toNat))] w _
  refine z_istore_n (pc' := 7) (ls' := [(0, zR 0), (1, zI a0), (2, zI a1), (3, zI (w 19 (((4 + (7 * a0)) + a1).toNat)))]) rfl (by decide) rfl rfl dX12_riseNow_6 rfl ?_
  refine z_iload_n (pc' := 8) 2 rfl rfl dX12_riseNow_7 rfl ?_
  refine z_iconst (pc' := 9) dX12_riseNow_8 rfl ?_
  refine z_iadd (pc' := 10) dX12_riseNow_9 rfl ?_
  refine z_istore (pc' := 12) (ls' := [(0, zR 0), (1, zI a0), (2, zI a1), (3, zI (w 19 (((4 + (7 * a0)) + a1).toNat))), (4, zI (a1 + 1))]) (by decide) rfl rfl dX12_riseNow_10 rfl ?_
  exact z_Wp.sub h (z_sub_of [0, 1, 3, 4] rfl)
set_option maxRecDepth 4000 in
theorem v_M_riseNow_12 {d : Nat} {w : z_Wd} {l1 l3 l4 : Int} {Q : Option z_V → z_Wd → Prop} (h : (0 ≤ l1 ∧ l1 < 160) ∧ (-2147483648 ≤ l4 ∧ l4 < 2147483648) ∧ (-2147483648 ≤ w 19 l1.toNat ∧ w 19 l1.toNat < 2147483648) ∧ ((l4 ≥ w 19 l1.toNat → Q (some (zI l3)) (z_up w 19 l1.toNat ((w 19 l1.toNat) - 1))) ∧ (¬ (l4 ≥ w 19 l1.toNat) → (0 ≤ (4 + (7 * l1)) + l4 ∧ (4 + (7 * l1)) + l4 < 160) ∧ (0 ≤ ((4 + (7 * l1)) + l4) - 1 ∧ ((4 + (7 * l1)) + l4) - 1 < 160) ∧ (z_Wp m_X12_riseNow (d + 1) 12 [(0, zR 0), (1, zI l1), (3, zI l3), (4, zI (l4 + 1))] [] (z_up w 19 ((((4 + (7 * l1)) + l4) - 1).toNat) (w 19 (((4 + (7 * l1)) + l4).toNat))) Q)))) : z_Wp m_X12_riseNow (d + 1) 12 [(0, zR 0), (1, zI l1), (3, zI l3), (4, zI l4)] [] w Q := by
  refine z_iload (pc' := 14) 3 rfl dX12_riseNow_12 rfl ?_
  refine z_aload_n (pc' := 15) 0 rfl rfl dX12_riseNow_14 rfl ?_
  refine z_getR (t := 19) (pc' := 18) g_X12_64 (by decide) rfl rfl dX12_riseNow_15 rfl ?_
  refine z_iconst (pc' := 19) dX12_riseNow_18 rfl ?_
  refine z_iload_n (pc' := 20) 1 rfl rfl dX12_riseNow_19 rfl ?_
  refine z_iadd (pc' := 21) dX12_riseNow_20 rfl ?_
  refine z_eqI (y := l1) (by omega) ?_
  obtain ⟨r1, h⟩ := h
  refine z_iald2 (v := w 19 l1.toNat) (pc' := 22) (by decide) rfl r1 (by decide) rfl dX12_riseNow_21 rfl ?_
  obtain ⟨r2, h⟩ := h
  obtain ⟨r3, h⟩ := h
  refine z_icmp_ge 54 dX12_riseNow_22 (by decide) (pc' := 25) rfl r2 r3 (fun c => ?_) (fun c => ?_)
  · have h := h.1 c
    refine z_aload_n (pc' := 55) 0 rfl rfl dX12_riseNow_54 rfl ?_
    refine z_getR (t := 19) (pc' := 58) g_X12_64 (by decide) rfl rfl dX12_riseNow_55 rfl ?_
    refine z_iconst (pc' := 59) dX12_riseNow_58 rfl ?_
    refine z_iload_n (pc' := 60) 1 rfl rfl dX12_riseNow_59 rfl ?_
    refine z_iadd (pc' := 61) dX12_riseNow_60 rfl ?_
    refine z_eqI (y := l1) (by omega) ?_
    refine z_dup2 (pc' := 62) rfl rfl dX12_riseNow_61 rfl ?_
    refine z_iald2 (v := w 19 l1.toNat) (pc' := 63) (by decide) rfl r1 (by decide) rfl dX12_riseNow_62 rfl ?_
    refine z_iconst (pc' := 64) dX12_riseNow_63 rfl ?_
    refine z_isub (pc' := 65) dX12_riseNow_64 rfl ?_
    refine z_iast2 (w' := z_up w 19 l1.toNat ((w 19 l1.toNat) - 1)) (pc' := 66) (by decide) rfl r1 (by decide) rfl dX12_riseNow_65 rfl ?_
    refine z_iload_n (pc' := 67) 2 rfl rfl dX12_riseNow_66 rfl ?_
    refine z_iret rfl dX12_riseNow_67 ?_
    exact h
  · have h := h.2 c
    refine z_aload_n (pc' := 26) 0 rfl rfl dX12_riseNow_25 rfl ?_
    refine z_getR (t := 19) (pc' := 29) g_X12_64 (by decide) rfl rfl dX12_riseNow_26 rfl ?_
    refine z_iconst (pc' := 30) dX12_riseNow_29 rfl ?_
    refine z_bipush (pc' := 32) (by decide) dX12_riseNow_30 rfl ?_
    refine z_iload_n (pc' := 33) 1 rfl rfl dX12_riseNow_32 rfl ?_
    refine z_imul (pc' := 34) dX12_riseNow_33 rfl ?_
    refine z_iadd (pc' := 35) dX12_riseNow_34 rfl ?_
    refine z_iload (pc' := 37) 3 rfl dX12_riseNow_35 rfl ?_
    refine z_iadd (pc' := 38) dX12_riseNow_37 rfl ?_
    refine z_iconst (pc' := 39) dX12_riseNow_38 rfl ?_
    refine z_isub (pc' := 40) dX12_riseNow_39 rfl ?_
    refine z_aload_n (pc' := 41) 0 rfl rfl dX12_riseNow_40 rfl ?_
    refine z_iload_n (pc' := 42) 1 rfl rfl dX12_riseNow_41 rfl ?_
    refine z_iload (pc' := 44) 3 rfl dX12_riseNow_42 rfl ?_
    refine z_invV (as := [zI l1, zI l4]) (st := [zI (((4 + (7 * l1)) + l4) - 1), zR 19]) (C := m_X12_lies) (fs := [0, 3, 0, 0, 0, 0, 4, 5, 6, 7, 8, 9, 10, 0, 0, 11, 12, 13, 14, 15, 16, 0, 0, 0, 17, 18, 19, 20, 0, 0, 0, 21, 22, 0, 0, 23, 0, 1, 24, 0, 0, 25, 26, 0, 27, 0]) (pc' := 47) dX12_riseNow_44 rfl t_7_122 k_X12_lies rfl (by decide) rfl rfl rfl rfl (Nat.le_of_ble_eq_true rfl) ?_
    obtain ⟨r4, h⟩ := h
    refine c_M_lies r4 ?_
    show z_Wp m_X12_riseNow _ 47 [(0, zR 0), (1, zI l1), (3, zI l3), (4, zI l4)] [zI (w 19 (((4 + (7 * l1)) + l4).toNat)), zI (((4 + (7 * l1)) + l4) - 1), zR 19] w _
    obtain ⟨r5, h⟩ := h
    refine z_iast2 (w' := z_up w 19 ((((4 + (7 * l1)) + l4) - 1).toNat) (w 19 (((4 + (7 * l1)) + l4).toNat))) (pc' := 48) (by decide) rfl r5 (by decide) rfl dX12_riseNow_47 rfl ?_
    refine z_iinc (pc' := 51) (ls' := [(0, zR 0), (1, zI l1), (3, zI l3), (4, zI (l4 + 1))]) 3 rfl (by decide) rfl rfl dX12_riseNow_48 rfl ?_
    refine z_goto 12 dX12_riseNow_51 (by decide) ?_
    exact h
set_option maxRecDepth 4000 in
theorem v_M_putAside {d : Nat} {w : z_Wd} {a0 : Int} {Q : Option z_V → z_Wd → Prop} (h : z_Wp m_X12_putAside d 2 [(0, zR 0), (1, zI a0), (2, zI 0)] [] w Q) : z_Wc d m_X12_putAside [zR 0, zI a0] w Q := by
  refine z_enter rfl (Nat.le_of_ble_eq_true rfl) ?_
  show z_Wp m_X12_putAside _ 0 [(0, zR 0), (1, zI a0)] [] w _
  refine z_iconst (pc' := 1) dX12_putAside_0 rfl ?_
  refine z_istore_n (pc' := 2) (ls' := [(0, zR 0), (1, zI a0), (2, zI 0)]) rfl (by decide) rfl rfl dX12_putAside_1 rfl ?_
  exact h
set_option maxRecDepth 4000 in
theorem v_M_putAside_2 {d : Nat} {w : z_Wd} {l1 l2 : Int} {Q : Option z_V → z_Wd → Prop} (h : (-2147483648 ≤ l2 ∧ l2 < 2147483648) ∧ ((l2 ≥ 39 → Q (none) w) ∧ (¬ (l2 ≥ 39) → (0 ≤ l2 ∧ l2 < 160) ∧ (0 ≤ (39 * l1) + l2 ∧ (39 * l1) + l2 < 351) ∧ (z_Wp m_X12_putAside d 2 [(0, zR 0), (1, zI l1), (2, zI (l2 + 1))] [] (z_up w 22 (((39 * l1) + l2).toNat) (w 19 l2.toNat)) Q)))) : z_Wp m_X12_putAside d 2 [(0, zR 0), (1, zI l1), (2, zI l2)] [] w Q := by
  refine z_iload_n (pc' := 3) 2 rfl rfl dX12_putAside_2 rfl ?_
  refine z_bipush (pc' := 5) (by decide) dX12_putAside_3 rfl ?_
  obtain ⟨r1, h⟩ := h
  refine z_icmp_ge 31 dX12_putAside_5 (by decide) (pc' := 8) rfl r1 (by decide) (fun c => ?_) (fun c => ?_)
  · have h := h.1 c
    refine z_vret rfl dX12_putAside_31 ?_
    exact h
  · have h := h.2 c
    refine z_aload_n (pc' := 9) 0 rfl rfl dX12_putAside_8 rfl ?_
    refine z_getR (t := 22) (pc' := 12) g_X12_80 (by decide) rfl rfl dX12_putAside_9 rfl ?_
    refine z_bipush (pc' := 14) (by decide) dX12_putAside_12 rfl ?_
    refine z_iload_n (pc' := 15) 1 rfl rfl dX12_putAside_14 rfl ?_
    refine z_imul (pc' := 16) dX12_putAside_15 rfl ?_
    refine z_iload_n (pc' := 17) 2 rfl rfl dX12_putAside_16 rfl ?_
    refine z_iadd (pc' := 18) dX12_putAside_17 rfl ?_
    refine z_aload_n (pc' := 19) 0 rfl rfl dX12_putAside_18 rfl ?_
    refine z_getR (t := 19) (pc' := 22) g_X12_64 (by decide) rfl rfl dX12_putAside_19 rfl ?_
    refine z_iload_n (pc' := 23) 2 rfl rfl dX12_putAside_22 rfl ?_
    obtain ⟨r2, h⟩ := h
    refine z_iald2 (v := w 19 l2.toNat) (pc' := 24) (by decide) rfl r2 (by decide) rfl dX12_putAside_23 rfl ?_
    obtain ⟨r3, h⟩ := h
    refine z_iast2 (w' := z_up w 22 (((39 * l1) + l2).toNat) (w 19 l2.toNat)) (pc' := 25) (by decide) rfl r3 (by decide) rfl dX12_putAside_24 rfl ?_
    refine z_iinc (pc' := 28) (ls' := [(0, zR 0), (1, zI l1), (2, zI (l2 + 1))]) 2 rfl (by decide) rfl rfl dX12_putAside_25 rfl ?_
    refine z_goto 2 dX12_putAside_28 (by decide) ?_
    exact h
set_option maxRecDepth 4000 in
theorem v_M_takeBack {d : Nat} {w : z_Wd} {a0 : Int} {Q : Option z_V → z_Wd → Prop} (h : z_Wp m_X12_takeBack d 2 [(0, zR 0), (1, zI a0), (2, zI 0)] [] w Q) : z_Wc d m_X12_takeBack [zR 0, zI a0] w Q := by
  refine z_enter rfl (Nat.le_of_ble_eq_true rfl) ?_
  show z_Wp m_X12_takeBack _ 0 [(0, zR 0), (1, zI a0)] [] w _
  refine z_iconst (pc' := 1) dX12_takeBack_0 rfl ?_
  refine z_istore_n (pc' := 2) (ls' := [(0, zR 0), (1, zI a0), (2, zI 0)]) rfl (by decide) rfl rfl dX12_takeBack_1 rfl ?_
  exact h
set_option maxRecDepth 4000 in
theorem v_M_takeBack_2 {d : Nat} {w : z_Wd} {l1 l2 : Int} {Q : Option z_V → z_Wd → Prop} (h : (-2147483648 ≤ l2 ∧ l2 < 2147483648) ∧ ((l2 ≥ 39 → Q (none) w) ∧ (¬ (l2 ≥ 39) → (0 ≤ (39 * l1) + l2 ∧ (39 * l1) + l2 < 351) ∧ (0 ≤ l2 ∧ l2 < 160) ∧ (z_Wp m_X12_takeBack d 2 [(0, zR 0), (1, zI l1), (2, zI (l2 + 1))] [] (z_up w 19 l2.toNat (w 22 (((39 * l1) + l2).toNat))) Q)))) : z_Wp m_X12_takeBack d 2 [(0, zR 0), (1, zI l1), (2, zI l2)] [] w Q := by
  refine z_iload_n (pc' := 3) 2 rfl rfl dX12_takeBack_2 rfl ?_
  refine z_bipush (pc' := 5) (by decide) dX12_takeBack_3 rfl ?_
  obtain ⟨r1, h⟩ := h
  refine z_icmp_ge 31 dX12_takeBack_5 (by decide) (pc' := 8) rfl r1 (by decide) (fun c => ?_) (fun c => ?_)
  · have h := h.1 c
    refine z_vret rfl dX12_takeBack_31 ?_
    exact h
  · have h := h.2 c
    refine z_aload_n (pc' := 9) 0 rfl rfl dX12_takeBack_8 rfl ?_
    refine z_getR (t := 19) (pc' := 12) g_X12_64 (by decide) rfl rfl dX12_takeBack_9 rfl ?_
    refine z_iload_n (pc' := 13) 2 rfl rfl dX12_takeBack_12 rfl ?_
    refine z_aload_n (pc' := 14) 0 rfl rfl dX12_takeBack_13 rfl ?_
    refine z_getR (t := 22) (pc' := 17) g_X12_80 (by decide) rfl rfl dX12_takeBack_14 rfl ?_
    refine z_bipush (pc' := 19) (by decide) dX12_takeBack_17 rfl ?_
    refine z_iload_n (pc' := 20) 1 rfl rfl dX12_takeBack_19 rfl ?_
    refine z_imul (pc' := 21) dX12_takeBack_20 rfl ?_
    refine z_iload_n (pc' := 22) 2 rfl rfl dX12_takeBack_21 rfl ?_
    refine z_iadd (pc' := 23) dX12_takeBack_22 rfl ?_
    obtain ⟨r2, h⟩ := h
    refine z_iald2 (v := w 22 (((39 * l1) + l2).toNat)) (pc' := 24) (by decide) rfl r2 (by decide) rfl dX12_takeBack_23 rfl ?_
    obtain ⟨r3, h⟩ := h
    refine z_iast2 (w' := z_up w 19 l2.toNat (w 22 (((39 * l1) + l2).toNat))) (pc' := 25) (by decide) rfl r3 (by decide) rfl dX12_takeBack_24 rfl ?_
    refine z_iinc (pc' := 28) (ls' := [(0, zR 0), (1, zI l1), (2, zI (l2 + 1))]) 2 rfl (by decide) rfl rfl dX12_takeBack_25 rfl ?_
    refine z_goto 2 dX12_takeBack_28 (by decide) ?_
    exact h
set_option maxRecDepth 4000 in
theorem v_M_keep {d : Nat} {w : z_Wd} {Q : Option z_V → z_Wd → Prop} (h : (-2147483648 ≤ w 0 36 ∧ w 0 36 < 2147483648) ∧ ((w 0 36 = 40 → z_Wp m_X12_keep d 13 [(0, zR 0), (1, zI 160)] [] w Q) ∧ (¬ (w 0 36 = 40) → z_Wp m_X12_keep d 54 [(0, zR 0), (1, zI 0)] [] w Q))) : z_Wc d m_X12_keep [zR 0] w Q := by
  refine z_enter rfl (Nat.le_of_ble_eq_true rfl) ?_
  show z_Wp m_X12_keep _ 0 [(0, zR 0)] [] w _
  refine z_aload_n (pc' := 1) 0 rfl rfl dX12_keep_0 rfl ?_
  refine z_getI2 (v := w 0 36) (pc' := 4) g_X12_269 (by decide) rfl rfl rfl dX12_keep_1 rfl ?_
  refine z_bipush (pc' := 6) (by decide) dX12_keep_4 rfl ?_
  obtain ⟨r1, h⟩ := h
  refine z_icmp_ne 52 dX12_keep_6 (by decide) (pc' := 9) rfl r1 (by decide) (fun c => ?_) (fun c => ?_)
  · have h := h.2 c
    refine z_iconst (pc' := 53) dX12_keep_52 rfl ?_
    refine z_istore_n (pc' := 54) (ls' := [(0, zR 0), (1, zI 0)]) rfl (by decide) rfl rfl dX12_keep_53 rfl ?_
    exact h
  · have h := h.1 c
    refine z_sipush (pc' := 12) (by decide) dX12_keep_9 rfl ?_
    refine z_istore_n (pc' := 13) (ls' := [(0, zR 0), (1, zI 160)]) rfl (by decide) rfl rfl dX12_keep_12 rfl ?_
    exact h
set_option maxRecDepth 4000 in
theorem v_M_keep_13 {d : Nat} {w : z_Wd} {l1 : Int} {Q : Option z_V → z_Wd → Prop} (h : (-2147483648 ≤ l1 ∧ l1 < 2147483648) ∧ ((l1 ≥ 6400 → z_Wp m_X12_keep d 54 [(0, zR 0), (1, zI 0)] [] (z_up w 0 36 ((w 0 36) - 1)) Q) ∧ (¬ (l1 ≥ 6400) → (0 ≤ l1 ∧ l1 < 6400) ∧ (0 ≤ l1 - 160 ∧ l1 - 160 < 6400) ∧ (z_Wp m_X12_keep d 13 [(0, zR 0), (1, zI (l1 + 1))] [] (z_up w 21 ((l1 - 160).toNat) (w 21 l1.toNat)) Q)))) : z_Wp m_X12_keep d 13 [(0, zR 0), (1, zI l1)] [] w Q := by
  refine z_iload_n (pc' := 14) 1 rfl rfl dX12_keep_13 rfl ?_
  refine z_sipush (pc' := 17) (by decide) dX12_keep_14 rfl ?_
  obtain ⟨r1, h⟩ := h
  refine z_icmp_ge 42 dX12_keep_17 (by decide) (pc' := 20) rfl r1 (by decide) (fun c => ?_) (fun c => ?_)
  · have h := h.1 c
    refine z_aload_n (pc' := 43) 0 rfl rfl dX12_keep_42 rfl ?_
    refine z_dup (pc' := 44) rfl dX12_keep_43 rfl ?_
    refine z_getI2 (v := w 0 36) (pc' := 47) g_X12_269 (by decide) rfl rfl rfl dX12_keep_44 rfl ?_
    refine z_iconst (pc' := 48) dX12_keep_47 rfl ?_
    refine z_isub (pc' := 49) dX12_keep_48 rfl ?_
    refine z_putI (pc' := 52) p_X12_269 (by decide) rfl rfl rfl rfl dX12_keep_49 rfl ?_
    refine z_iconst (pc' := 53) dX12_keep_52 rfl ?_
    refine z_istore_n (pc' := 54) (ls' := [(0, zR 0), (1, zI 0)]) rfl (by decide) rfl rfl dX12_keep_53 rfl ?_
    exact h
  · have h := h.2 c
    refine z_aload_n (pc' := 21) 0 rfl rfl dX12_keep_20 rfl ?_
    refine z_getR (t := 21) (pc' := 24) g_X12_77 (by decide) rfl rfl dX12_keep_21 rfl ?_
    refine z_iload_n (pc' := 25) 1 rfl rfl dX12_keep_24 rfl ?_
    refine z_sipush (pc' := 28) (by decide) dX12_keep_25 rfl ?_
    refine z_isub (pc' := 29) dX12_keep_28 rfl ?_
    refine z_aload_n (pc' := 30) 0 rfl rfl dX12_keep_29 rfl ?_
    refine z_getR (t := 21) (pc' := 33) g_X12_77 (by decide) rfl rfl dX12_keep_30 rfl ?_
    refine z_iload_n (pc' := 34) 1 rfl rfl dX12_keep_33 rfl ?_
    obtain ⟨r2, h⟩ := h
    refine z_iald2 (v := w 21 l1.toNat) (pc' := 35) (by decide) rfl r2 (by decide) rfl dX12_keep_34 rfl ?_
    obtain ⟨r3, h⟩ := h
    refine z_iast2 (w' := z_up w 21 ((l1 - 160).toNat) (w 21 l1.toNat)) (pc' := 36) (by decide) rfl r3 (by decide) rfl dX12_keep_35 rfl ?_
    refine z_iinc (pc' := 39) (ls' := [(0, zR 0), (1, zI (l1 + 1))]) 1 rfl (by decide) rfl rfl dX12_keep_36 rfl ?_
    refine z_goto 13 dX12_keep_39 (by decide) ?_
    exact h
set_option maxRecDepth 4000 in
theorem v_M_keep_54 {d : Nat} {w : z_Wd} {l1 : Int} {Q : Option z_V → z_Wd → Prop} (h : (-2147483648 ≤ l1 ∧ l1 < 2147483648) ∧ ((l1 ≥ 160 → Q (none) (z_up w 0 36 ((w 0 36) + 1))) ∧ (¬ (l1 ≥ 160) → (0 ≤ l1 ∧ l1 < 160) ∧ (0 ≤ (160 * (w 0 36)) + l1 ∧ (160 * (w 0 36)) + l1 < 6400) ∧ (z_Wp m_X12_keep d 54 [(0, zR 0), (1, zI (l1 + 1))] [] (z_up w 21 (((160 * (w 0 36)) + l1).toNat) (w 19 l1.toNat)) Q)))) : z_Wp m_X12_keep d 54 [(0, zR 0), (1, zI l1)] [] w Q := by
  refine z_iload_n (pc' := 55) 1 rfl rfl dX12_keep_54 rfl ?_
  refine z_sipush (pc' := 58) (by decide) dX12_keep_55 rfl ?_
  obtain ⟨r1, h⟩ := h
  refine z_icmp_ge 88 dX12_keep_58 (by decide) (pc' := 61) rfl r1 (by decide) (fun c => ?_) (fun c => ?_)
  · have h := h.1 c
    refine z_aload_n (pc' := 89) 0 rfl rfl dX12_keep_88 rfl ?_
    refine z_dup (pc' := 90) rfl dX12_keep_89 rfl ?_
    refine z_getI2 (v := w 0 36) (pc' := 93) g_X12_269 (by decide) rfl rfl rfl dX12_keep_90 rfl ?_
    refine z_iconst (pc' := 94) dX12_keep_93 rfl ?_
    refine z_iadd (pc' := 95) dX12_keep_94 rfl ?_
    refine z_putI (pc' := 98) p_X12_269 (by decide) rfl rfl rfl rfl dX12_keep_95 rfl ?_
    refine z_vret rfl dX12_keep_98 ?_
    exact h
  · have h := h.2 c
    refine z_aload_n (pc' := 62) 0 rfl rfl dX12_keep_61 rfl ?_
    refine z_getR (t := 21) (pc' := 65) g_X12_77 (by decide) rfl rfl dX12_keep_62 rfl ?_
    refine z_sipush (pc' := 68) (by decide) dX12_keep_65 rfl ?_
    refine z_aload_n (pc' := 69) 0 rfl rfl dX12_keep_68 rfl ?_
    refine z_getI2 (v := w 0 36) (pc' := 72) g_X12_269 (by decide) rfl rfl rfl dX12_keep_69 rfl ?_
    refine z_imul (pc' := 73) dX12_keep_72 rfl ?_
    refine z_iload_n (pc' := 74) 1 rfl rfl dX12_keep_73 rfl ?_
    refine z_iadd (pc' := 75) dX12_keep_74 rfl ?_
    refine z_aload_n (pc' := 76) 0 rfl rfl dX12_keep_75 rfl ?_
    refine z_getR (t := 19) (pc' := 79) g_X12_64 (by decide) rfl rfl dX12_keep_76 rfl ?_
    refine z_iload_n (pc' := 80) 1 rfl rfl dX12_keep_79 rfl ?_
    obtain ⟨r2, h⟩ := h
    refine z_iald2 (v := w 19 l1.toNat) (pc' := 81) (by decide) rfl r2 (by decide) rfl dX12_keep_80 rfl ?_
    obtain ⟨r3, h⟩ := h
    refine z_iast2 (w' := z_up w 21 (((160 * (w 0 36)) + l1).toNat) (w 19 l1.toNat)) (pc' := 82) (by decide) rfl r3 (by decide) rfl dX12_keep_81 rfl ?_
    refine z_iinc (pc' := 85) (ls' := [(0, zR 0), (1, zI (l1 + 1))]) 1 rfl (by decide) rfl rfl dX12_keep_82 rfl ?_
    refine z_goto 54 dX12_keep_85 (by decide) ?_
    exact h
set_option maxRecDepth 4000 in
theorem v_M_undo {d : Nat} {w : z_Wd} {Q : Option z_V → z_Wd → Prop} (h : (-2147483648 ≤ w 0 36 ∧ w 0 36 < 2147483648) ∧ ((w 0 36 = 0 → Q (some (zI (-1))) w) ∧ (¬ (w 0 36 = 0) → z_Wp m_X12_undo d 21 [(0, zR 0), (1, zI 0)] [] (z_up w 0 36 ((w 0 36) - 1)) Q))) : z_Wc d m_X12_undo [zR 0] w Q := by
  refine z_enter rfl (Nat.le_of_ble_eq_true rfl) ?_
  show z_Wp m_X12_undo _ 0 [(0, zR 0)] [] w _
  refine z_aload_n (pc' := 1) 0 rfl rfl dX12_undo_0 rfl ?_
  refine z_getI2 (v := w 0 36) (pc' := 4) g_X12_269 (by decide) rfl rfl rfl dX12_undo_1 rfl ?_
  obtain ⟨r1, h⟩ := h
  refine z_if_ne 9 dX12_undo_4 (by decide) (pc' := 7) rfl r1 (fun c => ?_) (fun c => ?_)
  · have h := h.2 c
    refine z_aload_n (pc' := 10) 0 rfl rfl dX12_undo_9 rfl ?_
    refine z_dup (pc' := 11) rfl dX12_undo_10 rfl ?_
    refine z_getI2 (v := w 0 36) (pc' := 14) g_X12_269 (by decide) rfl rfl rfl dX12_undo_11 rfl ?_
    refine z_iconst (pc' := 15) dX12_undo_14 rfl ?_
    refine z_isub (pc' := 16) dX12_undo_15 rfl ?_
    refine z_putI (pc' := 19) p_X12_269 (by decide) rfl rfl rfl rfl dX12_undo_16 rfl ?_
    refine z_iconst (pc' := 20) dX12_undo_19 rfl ?_
    refine z_istore_n (pc' := 21) (ls' := [(0, zR 0), (1, zI 0)]) rfl (by decide) rfl rfl dX12_undo_20 rfl ?_
    exact h
  · have h := h.1 c
    refine z_iconst (pc' := 8) dX12_undo_7 rfl ?_
    refine z_iret rfl dX12_undo_8 ?_
    exact h
set_option maxRecDepth 4000 in
theorem v_M_undo_21 {d : Nat} {w : z_Wd} {l1 : Int} {Q : Option z_V → z_Wd → Prop} (h : (-2147483648 ≤ l1 ∧ l1 < 2147483648) ∧ ((l1 ≥ 160 → Q (some (zI (w 0 36))) w) ∧ (¬ (l1 ≥ 160) → (0 ≤ (160 * (w 0 36)) + l1 ∧ (160 * (w 0 36)) + l1 < 6400) ∧ (0 ≤ l1 ∧ l1 < 160) ∧ (z_Wp m_X12_undo d 21 [(0, zR 0), (1, zI (l1 + 1))] [] (z_up w 19 l1.toNat (w 21 (((160 * (w 0 36)) + l1).toNat))) Q)))) : z_Wp m_X12_undo d 21 [(0, zR 0), (1, zI l1)] [] w Q := by
  refine z_iload_n (pc' := 22) 1 rfl rfl dX12_undo_21 rfl ?_
  refine z_sipush (pc' := 25) (by decide) dX12_undo_22 rfl ?_
  obtain ⟨r1, h⟩ := h
  refine z_icmp_ge 55 dX12_undo_25 (by decide) (pc' := 28) rfl r1 (by decide) (fun c => ?_) (fun c => ?_)
  · have h := h.1 c
    refine z_aload_n (pc' := 56) 0 rfl rfl dX12_undo_55 rfl ?_
    refine z_getI2 (v := w 0 36) (pc' := 59) g_X12_269 (by decide) rfl rfl rfl dX12_undo_56 rfl ?_
    refine z_iret rfl dX12_undo_59 ?_
    exact h
  · have h := h.2 c
    refine z_aload_n (pc' := 29) 0 rfl rfl dX12_undo_28 rfl ?_
    refine z_getR (t := 19) (pc' := 32) g_X12_64 (by decide) rfl rfl dX12_undo_29 rfl ?_
    refine z_iload_n (pc' := 33) 1 rfl rfl dX12_undo_32 rfl ?_
    refine z_aload_n (pc' := 34) 0 rfl rfl dX12_undo_33 rfl ?_
    refine z_getR (t := 21) (pc' := 37) g_X12_77 (by decide) rfl rfl dX12_undo_34 rfl ?_
    refine z_sipush (pc' := 40) (by decide) dX12_undo_37 rfl ?_
    refine z_aload_n (pc' := 41) 0 rfl rfl dX12_undo_40 rfl ?_
    refine z_getI2 (v := w 0 36) (pc' := 44) g_X12_269 (by decide) rfl rfl rfl dX12_undo_41 rfl ?_
    refine z_imul (pc' := 45) dX12_undo_44 rfl ?_
    refine z_iload_n (pc' := 46) 1 rfl rfl dX12_undo_45 rfl ?_
    refine z_iadd (pc' := 47) dX12_undo_46 rfl ?_
    obtain ⟨r2, h⟩ := h
    refine z_iald2 (v := w 21 (((160 * (w 0 36)) + l1).toNat)) (pc' := 48) (by decide) rfl r2 (by decide) rfl dX12_undo_47 rfl ?_
    obtain ⟨r3, h⟩ := h
    refine z_iast2 (w' := z_up w 19 l1.toNat (w 21 (((160 * (w 0 36)) + l1).toNat))) (pc' := 49) (by decide) rfl r3 (by decide) rfl dX12_undo_48 rfl ?_
    refine z_iinc (pc' := 52) (ls' := [(0, zR 0), (1, zI (l1 + 1))]) 1 rfl (by decide) rfl rfl dX12_undo_49 rfl ?_
    refine z_goto 21 dX12_undo_52 (by decide) ?_
    exact h
set_option maxRecDepth 4000 in
theorem v_M_image {d : Nat} {w : z_Wd} {Q : Option z_V → z_Wd → Prop} (h : (-2147483648 ≤ w 0 29 ∧ w 0 29 < 2147483648) ∧ ((w 0 29 = 0 → Q (some (zI (-1))) w) ∧ (¬ (w 0 29 = 0) → z_Wp m_X12_image d 11 [(0, zR 0), (1, zI 0)] [] w Q))) : z_Wc d m_X12_image [zR 0] w Q := by
  refine z_enter rfl (Nat.le_of_ble_eq_true rfl) ?_
  show z_Wp m_X12_image _ 0 [(0, zR 0)] [] w _
  refine z_aload_n (pc' := 1) 0 rfl rfl dX12_image_0 rfl ?_
  refine z_getI2 (v := w 0 29) (pc' := 4) g_X12_260 (by decide) rfl rfl rfl dX12_image_1 rfl ?_
  obtain ⟨r1, h⟩ := h
  refine z_if_ne 9 dX12_image_4 (by decide) (pc' := 7) rfl r1 (fun c => ?_) (fun c => ?_)
  · have h := h.2 c
    refine z_iconst (pc' := 10) dX12_image_9 rfl ?_
    refine z_istore_n (pc' := 11) (ls' := [(0, zR 0), (1, zI 0)]) rfl (by decide) rfl rfl dX12_image_10 rfl ?_
    exact h
  · have h := h.1 c
    refine z_iconst (pc' := 8) dX12_image_7 rfl ?_
    refine z_iret rfl dX12_image_8 ?_
    exact h
set_option maxRecDepth 4000 in
theorem v_M_image_11 {d : Nat} {w : z_Wd} {l1 : Int} {Q : Option z_V → z_Wd → Prop} (h : (-2147483648 ≤ l1 ∧ l1 < 2147483648) ∧ ((l1 ≥ 160 → Q (some (zI (w 19 38))) (z_up w 0 45 1)) ∧ (¬ (l1 ≥ 160) → (0 ≤ l1 ∧ l1 < 160) ∧ (z_Wp m_X12_image d 11 [(0, zR 0), (1, zI (l1 + 1))] [] (z_up w 25 l1.toNat (w 19 l1.toNat)) Q)))) : z_Wp m_X12_image d 11 [(0, zR 0), (1, zI l1)] [] w Q := by
  refine z_iload_n (pc' := 12) 1 rfl rfl dX12_image_11 rfl ?_
  refine z_sipush (pc' := 15) (by decide) dX12_image_12 rfl ?_
  obtain ⟨r1, h⟩ := h
  refine z_icmp_ge 36 dX12_image_15 (by decide) (pc' := 18) rfl r1 (by decide) (fun c => ?_) (fun c => ?_)
  · have h := h.1 c
    refine z_aload_n (pc' := 37) 0 rfl rfl dX12_image_36 rfl ?_
    refine z_iconst (pc' := 38) dX12_image_37 rfl ?_
    refine z_putI (pc' := 41) p_X12_272 (by decide) rfl rfl (by decide) (by decide) dX12_image_38 rfl ?_
    refine z_aload_n (pc' := 42) 0 rfl rfl dX12_image_41 rfl ?_
    refine z_getR (t := 19) (pc' := 45) g_X12_64 (by decide) rfl rfl dX12_image_42 rfl ?_
    refine z_bipush (pc' := 47) (by decide) dX12_image_45 rfl ?_
    refine z_iald2 (v := w 19 38) (pc' := 48) (by decide) rfl (by decide) (by decide) rfl dX12_image_47 rfl ?_
    refine z_iret rfl dX12_image_48 ?_
    exact h
  · have h := h.2 c
    refine z_aload_n (pc' := 19) 0 rfl rfl dX12_image_18 rfl ?_
    refine z_getR (t := 25) (pc' := 22) g_X12_89 (by decide) rfl rfl dX12_image_19 rfl ?_
    refine z_iload_n (pc' := 23) 1 rfl rfl dX12_image_22 rfl ?_
    refine z_aload_n (pc' := 24) 0 rfl rfl dX12_image_23 rfl ?_
    refine z_getR (t := 19) (pc' := 27) g_X12_64 (by decide) rfl rfl dX12_image_24 rfl ?_
    refine z_iload_n (pc' := 28) 1 rfl rfl dX12_image_27 rfl ?_
    obtain ⟨r2, h⟩ := h
    refine z_iald2 (v := w 19 l1.toNat) (pc' := 29) (by decide) rfl r2 (by decide) rfl dX12_image_28 rfl ?_
    refine z_iast2 (w' := z_up w 25 l1.toNat (w 19 l1.toNat)) (pc' := 30) (by decide) rfl r2 (by decide) rfl dX12_image_29 rfl ?_
    refine z_iinc (pc' := 33) (ls' := [(0, zR 0), (1, zI (l1 + 1))]) 1 rfl (by decide) rfl rfl dX12_image_30 rfl ?_
    refine z_goto 11 dX12_image_33 (by decide) ?_
    exact h
set_option maxRecDepth 4000 in
theorem v_M_back {d : Nat} {w : z_Wd} {Q : Option z_V → z_Wd → Prop} (h : (-2147483648 ≤ w 0 45 ∧ w 0 45 < 2147483648) ∧ ((w 0 45 = 0 → Q (some (zI (-1))) w) ∧ (¬ (w 0 45 = 0) → z_Wp m_X12_back d 11 [(0, zR 0), (1, zI 0)] [] w Q))) : z_Wc d m_X12_back [zR 0] w Q := by
  refine z_enter rfl (Nat.le_of_ble_eq_true rfl) ?_
  show z_Wp m_X12_back _ 0 [(0, zR 0)] [] w _
  refine z_aload_n (pc' := 1) 0 rfl rfl dX12_back_0 rfl ?_
  refine z_getI2 (v := w 0 45) (pc' := 4) g_X12_272 (by decide) rfl rfl rfl dX12_back_1 rfl ?_
  obtain ⟨r1, h⟩ := h
  refine z_if_ne 9 dX12_back_4 (by decide) (pc' := 7) rfl r1 (fun c => ?_) (fun c => ?_)
  · have h := h.2 c
    refine z_iconst (pc' := 10) dX12_back_9 rfl ?_
    refine z_istore_n (pc' := 11) (ls' := [(0, zR 0), (1, zI 0)]) rfl (by decide) rfl rfl dX12_back_10 rfl ?_
    exact h
  · have h := h.1 c
    refine z_iconst (pc' := 8) dX12_back_7 rfl ?_
    refine z_iret rfl dX12_back_8 ?_
    exact h
set_option maxRecDepth 4000 in
theorem v_M_back_11 {d : Nat} {w : z_Wd} {l1 : Int} {Q : Option z_V → z_Wd → Prop} (h : (-2147483648 ≤ l1 ∧ l1 < 2147483648) ∧ ((l1 ≥ 160 → Q (some (zI (w 19 38))) (z_up w 0 36 0)) ∧ (¬ (l1 ≥ 160) → (0 ≤ l1 ∧ l1 < 160) ∧ (z_Wp m_X12_back d 11 [(0, zR 0), (1, zI (l1 + 1))] [] (z_up w 19 l1.toNat (w 25 l1.toNat)) Q)))) : z_Wp m_X12_back d 11 [(0, zR 0), (1, zI l1)] [] w Q := by
  refine z_iload_n (pc' := 12) 1 rfl rfl dX12_back_11 rfl ?_
  refine z_sipush (pc' := 15) (by decide) dX12_back_12 rfl ?_
  obtain ⟨r1, h⟩ := h
  refine z_icmp_ge 36 dX12_back_15 (by decide) (pc' := 18) rfl r1 (by decide) (fun c => ?_) (fun c => ?_)
  · have h := h.1 c
    refine z_aload_n (pc' := 37) 0 rfl rfl dX12_back_36 rfl ?_
    refine z_iconst (pc' := 38) dX12_back_37 rfl ?_
    refine z_putI (pc' := 41) p_X12_269 (by decide) rfl rfl rfl rfl dX12_back_38 rfl ?_
    refine z_aload_n (pc' := 42) 0 rfl rfl dX12_back_41 rfl ?_
    refine z_getR (t := 19) (pc' := 45) g_X12_64 (by decide) rfl rfl dX12_back_42 rfl ?_
    refine z_bipush (pc' := 47) (by decide) dX12_back_45 rfl ?_
    refine z_iald2 (v := w 19 38) (pc' := 48) (by decide) rfl (by decide) (by decide) rfl dX12_back_47 rfl ?_
    refine z_iret rfl dX12_back_48 ?_
    exact h
  · have h := h.2 c
    refine z_aload_n (pc' := 19) 0 rfl rfl dX12_back_18 rfl ?_
    refine z_getR (t := 19) (pc' := 22) g_X12_64 (by decide) rfl rfl dX12_back_19 rfl ?_
    refine z_iload_n (pc' := 23) 1 rfl rfl dX12_back_22 rfl ?_
    refine z_aload_n (pc' := 24) 0 rfl rfl dX12_back_23 rfl ?_
    refine z_getR (t := 25) (pc' := 27) g_X12_89 (by decide) rfl rfl dX12_back_24 rfl ?_
    refine z_iload_n (pc' := 28) 1 rfl rfl dX12_back_27 rfl ?_
    obtain ⟨r2, h⟩ := h
    refine z_iald2 (v := w 25 l1.toNat) (pc' := 29) (by decide) rfl r2 (by decide) rfl dX12_back_28 rfl ?_
    refine z_iast2 (w' := z_up w 19 l1.toNat (w 25 l1.toNat)) (pc' := 30) (by decide) rfl r2 (by decide) rfl dX12_back_29 rfl ?_
    refine z_iinc (pc' := 33) (ls' := [(0, zR 0), (1, zI (l1 + 1))]) 1 rfl (by decide) rfl rfl dX12_back_30 rfl ?_
    refine z_goto 11 dX12_back_33 (by decide) ?_
    exact h
set_option maxRecDepth 4000 in
theorem v_M_longest {d : Nat} {w : z_Wd} {Q : Option z_V → z_Wd → Prop} (h : z_Wp m_X12_longest (d + 1) 4 [(0, zR 0), (1, zI 0), (2, zI 1)] [] w Q) : z_Wc (d + 1) m_X12_longest [zR 0] w Q := by
  refine z_enter rfl (Nat.le_of_ble_eq_true rfl) ?_
  show z_Wp m_X12_longest _ 0 [(0, zR 0)] [] w _
  refine z_iconst (pc' := 1) dX12_longest_0 rfl ?_
  refine z_istore_n (pc' := 2) (ls' := [(0, zR 0), (1, zI 0)]) rfl (by decide) rfl rfl dX12_longest_1 rfl ?_
  refine z_iconst (pc' := 3) dX12_longest_2 rfl ?_
  refine z_istore_n (pc' := 4) (ls' := [(0, zR 0), (1, zI 0), (2, zI 1)]) rfl (by decide) rfl rfl dX12_longest_3 rfl ?_
  exact h
set_option maxRecDepth 4000 in
theorem v_M_longest_4 {d : Nat} {w : z_Wd} {l1 l2 : Int} {Q : Option z_V → z_Wd → Prop} (h : (-2147483648 ≤ l2 ∧ l2 < 2147483648) ∧ (-2147483648 ≤ w 0 29 ∧ w 0 29 < 2147483648) ∧ ((l2 ≥ w 0 29 → Q (some (zI l1)) w) ∧ (¬ (l2 ≥ w 0 29) → (0 ≤ (3 * l2) + 0 ∧ (3 * l2) + 0 < 21) ∧ (0 ≤ (3 * l1) + 0 ∧ (3 * l1) + 0 < 21) ∧ (-2147483648 ≤ w 17 ((3 * l2).toNat) ∧ w 17 ((3 * l2).toNat) < 2147483648) ∧ (-2147483648 ≤ w 17 ((3 * l1).toNat) ∧ w 17 ((3 * l1).toNat) < 2147483648) ∧ ((w 17 ((3 * l2).toNat) ≤ w 17 ((3 * l1).toNat) → z_Wp m_X12_longest (d + 1) 4 [(0, zR 0), (1, zI l1), (2, zI (l2 + 1))] [] w Q) ∧ (¬ (w 17 ((3 * l2).toNat) ≤ w 17 ((3 * l1).toNat)) → z_Wp m_X12_longest (d + 1) 4 [(0, zR 0), (1, zI l2), (2, zI (l2 + 1))] [] w Q))))) : z_Wp m_X12_longest (d + 1) 4 [(0, zR 0), (1, zI l1), (2, zI l2)] [] w Q := by
  refine z_iload_n (pc' := 5) 2 rfl rfl dX12_longest_4 rfl ?_
  refine z_aload_n (pc' := 6) 0 rfl rfl dX12_longest_5 rfl ?_
  refine z_getI2 (v := w 0 29) (pc' := 9) g_X12_260 (by decide) rfl rfl rfl dX12_longest_6 rfl ?_
  obtain ⟨r1, h⟩ := h
  obtain ⟨r2, h⟩ := h
  refine z_icmp_ge 39 dX12_longest_9 (by decide) (pc' := 12) rfl r1 r2 (fun c => ?_) (fun c => ?_)
  · have h := h.1 c
    refine z_iload_n (pc' := 40) 1 rfl rfl dX12_longest_39 rfl ?_
    refine z_iret rfl dX12_longest_40 ?_
    exact h
  · have h := h.2 c
    refine z_aload_n (pc' := 13) 0 rfl rfl dX12_longest_12 rfl ?_
    refine z_iload_n (pc' := 14) 2 rfl rfl dX12_longest_13 rfl ?_
    refine z_iconst (pc' := 15) dX12_longest_14 rfl ?_
    refine z_invV (as := [zI l2, zI 0]) (st := []) (C := m_X12_of) (fs := [0, 3, 0, 0, 0, 0, 4, 5, 6, 7, 8, 9, 10, 0, 0, 11, 12, 13, 14, 15, 16, 0, 0, 0, 17, 18, 19, 20, 0, 0, 0, 21, 22, 0, 0, 23, 0, 1, 24, 0, 0, 25, 26, 0, 27, 0]) (pc' := 18) dX12_longest_15 rfl t_7_138 k_X12_of rfl (by decide) rfl rfl rfl rfl (Nat.le_of_ble_eq_true rfl) ?_
    obtain ⟨r3, h⟩ := h
    refine c_M_of r3 ?_
    show z_Wp m_X12_longest _ 18 [(0, zR 0), (1, zI l1), (2, zI l2)] [zI (w 17 (((3 * l2) + 0).toNat))] w _
    refine z_eqI (y := w 17 ((3 * l2).toNat)) (by simp) ?_
    refine z_aload_n (pc' := 19) 0 rfl rfl dX12_longest_18 rfl ?_
    refine z_iload_n (pc' := 20) 1 rfl rfl dX12_longest_19 rfl ?_
    refine z_iconst (pc' := 21) dX12_longest_20 rfl ?_
    refine z_invV (as := [zI l1, zI 0]) (st := [zI (w 17 ((3 * l2).toNat))]) (C := m_X12_of) (fs := [0, 3, 0, 0, 0, 0, 4, 5, 6, 7, 8, 9, 10, 0, 0, 11, 12, 13, 14, 15, 16, 0, 0, 0, 17, 18, 19, 20, 0, 0, 0, 21, 22, 0, 0, 23, 0, 1, 24, 0, 0, 25, 26, 0, 27, 0]) (pc' := 24) dX12_longest_21 rfl t_7_138 k_X12_of rfl (by decide) rfl rfl rfl rfl (Nat.le_of_ble_eq_true rfl) ?_
    obtain ⟨r4, h⟩ := h
    refine c_M_of r4 ?_
    show z_Wp m_X12_longest _ 24 [(0, zR 0), (1, zI l1), (2, zI l2)] [zI (w 17 (((3 * l1) + 0).toNat)), zI (w 17 ((3 * l2).toNat))] w _
    refine z_eqI (y := w 17 ((3 * l1).toNat)) (by simp) ?_
    obtain ⟨r5, h⟩ := h
    obtain ⟨r6, h⟩ := h
    refine z_icmp_le 31 dX12_longest_24 (by decide) (pc' := 27) rfl r5 r6 (fun c => ?_) (fun c => ?_)
    · have h := h.1 c
      refine z_iload_n (pc' := 32) 1 rfl rfl dX12_longest_31 rfl ?_
      refine z_istore_n (pc' := 33) (ls' := [(0, zR 0), (1, zI l1), (2, zI l2)]) rfl (by decide) rfl rfl dX12_longest_32 rfl ?_
      refine z_iinc (pc' := 36) (ls' := [(0, zR 0), (1, zI l1), (2, zI (l2 + 1))]) 2 rfl (by decide) rfl rfl dX12_longest_33 rfl ?_
      refine z_goto 4 dX12_longest_36 (by decide) ?_
      exact h
    · have h := h.2 c
      refine z_iload_n (pc' := 28) 2 rfl rfl dX12_longest_27 rfl ?_
      refine z_goto 32 dX12_longest_28 (by decide) ?_
      refine z_istore_n (pc' := 33) (ls' := [(0, zR 0), (1, zI l2), (2, zI l2)]) rfl (by decide) rfl rfl dX12_longest_32 rfl ?_
      refine z_iinc (pc' := 36) (ls' := [(0, zR 0), (1, zI l2), (2, zI (l2 + 1))]) 2 rfl (by decide) rfl rfl dX12_longest_33 rfl ?_
      refine z_goto 4 dX12_longest_36 (by decide) ?_
      exact h
set_option maxRecDepth 4000 in
theorem v_M_areGone {d : Nat} {w : z_Wd} {a0 a1 : Int} {Q : Option z_V → z_Wd → Prop} (h : (-2147483648 ≤ F_J_bitCount_0f7a4 w a0 ∧ F_J_bitCount_0f7a4 w a0 < 2147483648) ∧ (-2147483648 ≤ a1 ∧ a1 < 2147483648) ∧ ((F_J_bitCount_0f7a4 w a0 = a1 → z_Wp m_X12_areGone (d + 1) 17 [(0, zR 0), (1, zI a0), (3, zI 1), (4, zI 0)] [] w Q) ∧ (¬ (F_J_bitCount_0f7a4 w a0 = a1) → z_Wp m_X12_areGone (d + 1) 17 [(0, zR 0), (1, zI a0), (3, zI 0), (4, zI 0)] [] w Q))) : z_Wc (d + 1) m_X12_areGone [zR 0, zI a0, zI a1] w Q := by
  refine z_enter rfl (Nat.le_of_ble_eq_true rfl) ?_
  show z_Wp m_X12_areGone _ 0 [(0, zR 0), (1, zI a0), (2, zI a1)] [] w _
  refine z_iload_n (pc' := 1) 1 rfl rfl dX12_areGone_0 rfl ?_
  refine z_invS (as := [zI a0]) (st := []) (C := m_J6_bitCount_0f7a4) (pc' := 4) dX12_areGone_1 rfl t_7_162 k_J6_bitCount_0f7a4 rfl rfl (Nat.le_of_ble_eq_true rfl) ?_
  refine c_J_bitCount_0f7a4 ?_
  show z_Wp m_X12_areGone _ 4 [(0, zR 0), (1, zI a0), (2, zI a1)] [zI (F_J_bitCount_0f7a4 w a0)] w _
  refine z_iload_n (pc' := 5) 2 rfl rfl dX12_areGone_4 rfl ?_
  obtain ⟨r1, h⟩ := h
  obtain ⟨r2, h⟩ := h
  refine z_icmp_ne 12 dX12_areGone_5 (by decide) (pc' := 8) rfl r1 r2 (fun c => ?_) (fun c => ?_)
  · have h := h.2 c
    refine z_iconst (pc' := 13) dX12_areGone_12 rfl ?_
    refine z_istore_n (pc' := 14) (ls' := [(0, zR 0), (1, zI a0), (2, zI a1), (3, zI 0)]) rfl (by decide) rfl rfl dX12_areGone_13 rfl ?_
    refine z_iconst (pc' := 15) dX12_areGone_14 rfl ?_
    refine z_istore (pc' := 17) (ls' := [(0, zR 0), (1, zI a0), (2, zI a1), (3, zI 0), (4, zI 0)]) (by decide) rfl rfl dX12_areGone_15 rfl ?_
    exact z_Wp.sub h (z_sub_of [0, 1, 3, 4] rfl)
  · have h := h.1 c
    refine z_iconst (pc' := 9) dX12_areGone_8 rfl ?_
    refine z_goto 13 dX12_areGone_9 (by decide) ?_
    refine z_istore_n (pc' := 14) (ls' := [(0, zR 0), (1, zI a0), (2, zI a1), (3, zI 1)]) rfl (by decide) rfl rfl dX12_areGone_13 rfl ?_
    refine z_iconst (pc' := 15) dX12_areGone_14 rfl ?_
    refine z_istore (pc' := 17) (ls' := [(0, zR 0), (1, zI a0), (2, zI a1), (3, zI 1), (4, zI 0)]) (by decide) rfl rfl dX12_areGone_15 rfl ?_
    exact z_Wp.sub h (z_sub_of [0, 1, 3, 4] rfl)
set_option maxRecDepth 4000 in
theorem v_M_areGone_17 {d : Nat} {w : z_Wd} {l1 l3 l4 : Int} {Q : Option z_V → z_Wd → Prop} (h : (-2147483648 ≤ l4 ∧ l4 < 2147483648) ∧ (-2147483648 ≤ w 0 43 ∧ w 0 43 < 2147483648) ∧ ((l4 ≥ w 0 43 → (l3 = 0 ∨ l3 = 1) ∧ (Q (some (zI l3)) w)) ∧ (¬ (l4 ≥ w 0 43) → (-2147483648 ≤ l3 ∧ l3 < 2147483648) ∧ ((l3 = 0 → (l3 = 0 ∨ l3 = 1) ∧ (Q (some (zI l3)) w)) ∧ (¬ (l3 = 0) → (0 ≤ l4 ∧ l4 < 10) ∧ (P_M_gapsBy w (w 23 l4.toNat) l1) ∧ (-2147483648 ≤ F_M_gapsBy w (w 23 l4.toNat) l1 ∧ F_M_gapsBy w (w 23 l4.toNat) l1 < 2147483648) ∧ (-2147483648 ≤ w 24 l4.toNat ∧ w 24 l4.toNat < 2147483648) ∧ ((F_M_gapsBy w (w 23 l4.toNat) l1 = w 24 l4.toNat → z_Wp m_X12_areGone (d + 1) 17 [(0, zR 0), (1, zI l1), (3, zI 1), (4, zI (l4 + 1))] [] w Q) ∧ (¬ (F_M_gapsBy w (w 23 l4.toNat) l1 = w 24 l4.toNat) → z_Wp m_X12_areGone (d + 1) 17 [(0, zR 0), (1, zI l1), (3, zI 0), (4, zI (l4 + 1))] [] w Q))))))) : z_Wp m_X12_areGone (d + 1) 17 [(0, zR 0), (1, zI l1), (3, zI l3), (4, zI l4)] [] w Q := by
  refine z_iload (pc' := 19) 3 rfl dX12_areGone_17 rfl ?_
  refine z_aload_n (pc' := 20) 0 rfl rfl dX12_areGone_19 rfl ?_
  refine z_getI2 (v := w 0 43) (pc' := 23) g_X12_266 (by decide) rfl rfl rfl dX12_areGone_20 rfl ?_
  obtain ⟨r1, h⟩ := h
  obtain ⟨r2, h⟩ := h
  refine z_icmp_ge 64 dX12_areGone_23 (by decide) (pc' := 26) rfl r1 r2 (fun c => ?_) (fun c => ?_)
  · have h := h.1 c
    refine z_iload_n (pc' := 65) 2 rfl rfl dX12_areGone_64 rfl ?_
    obtain ⟨r3, h⟩ := h
    refine z_zret rfl r3 dX12_areGone_65 ?_
    exact h
  · have h := h.2 c
    refine z_iload_n (pc' := 27) 2 rfl rfl dX12_areGone_26 rfl ?_
    obtain ⟨r4, h⟩ := h
    refine z_if_eq 64 dX12_areGone_27 (by decide) (pc' := 30) rfl r4 (fun c => ?_) (fun c => ?_)
    · have h := h.1 c
      refine z_iload_n (pc' := 65) 2 rfl rfl dX12_areGone_64 rfl ?_
      obtain ⟨r5, h⟩ := h
      refine z_zret rfl r5 dX12_areGone_65 ?_
      exact h
    · have h := h.2 c
      refine z_aload_n (pc' := 31) 0 rfl rfl dX12_areGone_30 rfl ?_
      refine z_aload_n (pc' := 32) 0 rfl rfl dX12_areGone_31 rfl ?_
      refine z_getR (t := 23) (pc' := 35) g_X12_83 (by decide) rfl rfl dX12_areGone_32 rfl ?_
      refine z_iload (pc' := 37) 3 rfl dX12_areGone_35 rfl ?_
      obtain ⟨r6, h⟩ := h
      refine z_iald2 (v := w 23 l4.toNat) (pc' := 38) (by decide) rfl r6 (by decide) rfl dX12_areGone_37 rfl ?_
      refine z_iload_n (pc' := 39) 1 rfl rfl dX12_areGone_38 rfl ?_
      refine z_invV (as := [zI (w 23 l4.toNat), zI l1]) (st := []) (C := m_X12_gapsBy) (fs := [0, 3, 0, 0, 0, 0, 4, 5, 6, 7, 8, 9, 10, 0, 0, 11, 12, 13, 14, 15, 16, 0, 0, 0, 17, 18, 19, 20, 0, 0, 0, 21, 22, 0, 0, 23, 0, 1, 24, 0, 0, 25, 26, 0, 27, 0]) (pc' := 42) dX12_areGone_39 rfl t_7_211 k_X12_gapsBy rfl (by decide) rfl rfl rfl rfl (Nat.le_of_ble_eq_true rfl) ?_
      obtain ⟨r7, h⟩ := h
      refine c_M_gapsBy r7 ?_
      show z_Wp m_X12_areGone _ 42 [(0, zR 0), (1, zI l1), (3, zI l3), (4, zI l4)] [zI (F_M_gapsBy w (w 23 l4.toNat) l1)] w _
      refine z_aload_n (pc' := 43) 0 rfl rfl dX12_areGone_42 rfl ?_
      refine z_getR (t := 24) (pc' := 46) g_X12_86 (by decide) rfl rfl dX12_areGone_43 rfl ?_
      refine z_iload (pc' := 48) 3 rfl dX12_areGone_46 rfl ?_
      refine z_iald2 (v := w 24 l4.toNat) (pc' := 49) (by decide) rfl r6 (by decide) rfl dX12_areGone_48 rfl ?_
      obtain ⟨r8, h⟩ := h
      obtain ⟨r9, h⟩ := h
      refine z_icmp_ne 56 dX12_areGone_49 (by decide) (pc' := 52) rfl r8 r9 (fun c => ?_) (fun c => ?_)
      · have h := h.2 c
        refine z_iconst (pc' := 57) dX12_areGone_56 rfl ?_
        refine z_istore_n (pc' := 58) (ls' := [(0, zR 0), (1, zI l1), (3, zI 0), (4, zI l4)]) rfl (by decide) rfl rfl dX12_areGone_57 rfl ?_
        refine z_iinc (pc' := 61) (ls' := [(0, zR 0), (1, zI l1), (3, zI 0), (4, zI (l4 + 1))]) 3 rfl (by decide) rfl rfl dX12_areGone_58 rfl ?_
        refine z_goto 17 dX12_areGone_61 (by decide) ?_
        exact h
      · have h := h.1 c
        refine z_iconst (pc' := 53) dX12_areGone_52 rfl ?_
        refine z_goto 57 dX12_areGone_53 (by decide) ?_
        refine z_istore_n (pc' := 58) (ls' := [(0, zR 0), (1, zI l1), (3, zI 1), (4, zI l4)]) rfl (by decide) rfl rfl dX12_areGone_57 rfl ?_
        refine z_iinc (pc' := 61) (ls' := [(0, zR 0), (1, zI l1), (3, zI 1), (4, zI (l4 + 1))]) 3 rfl (by decide) rfl rfl dX12_areGone_58 rfl ?_
        refine z_goto 17 dX12_areGone_61 (by decide) ?_
        exact h
set_option maxRecDepth 4000 in
theorem v_M_look {d : Nat} {w : z_Wd} {Q : Option z_V → z_Wd → Prop} (h : z_Wp m_X12_look (d + 1) 0 [(0, zR 0)] [] w Q) : z_Wc (d + 1) m_X12_look [zR 0] w Q := by
  refine z_enter rfl (Nat.le_of_ble_eq_true rfl) ?_
  show z_Wp m_X12_look _ 0 [(0, zR 0)] [] w _
  exact h
set_option maxRecDepth 4000 in
theorem v_M_look_0 {d : Nat} {w : z_Wd} {Q : Option z_V → z_Wd → Prop} (h : (P_M_here w) ∧ (-2147483648 ≤ F_M_here w ∧ F_M_here w < 2147483648) ∧ ((F_M_here w = 32 → z_Wp m_X12_look (d + 1) 0 [(0, zR 0)] [] (z_up w 0 3 ((w 0 3) + 1)) Q) ∧ (¬ (F_M_here w = 32) → Q (some (zI (F_M_here w))) w))) : z_Wp m_X12_look (d + 1) 0 [(0, zR 0)] [] w Q := by
  refine z_aload_n (pc' := 1) 0 rfl rfl dX12_look_0 rfl ?_
  refine z_invV (as := []) (st := []) (C := m_X12_here) (fs := [0, 3, 0, 0, 0, 0, 4, 5, 6, 7, 8, 9, 10, 0, 0, 11, 12, 13, 14, 15, 16, 0, 0, 0, 17, 18, 19, 20, 0, 0, 0, 21, 22, 0, 0, 23, 0, 1, 24, 0, 0, 25, 26, 0, 27, 0]) (pc' := 4) dX12_look_1 rfl t_6_222 k_X12_here rfl (by decide) rfl rfl rfl rfl (Nat.le_of_ble_eq_true rfl) ?_
  obtain ⟨r1, h⟩ := h
  refine c_M_here r1 ?_
  show z_Wp m_X12_look _ 4 [(0, zR 0)] [zI (F_M_here w)] w _
  refine z_bipush (pc' := 6) (by decide) dX12_look_4 rfl ?_
  obtain ⟨r2, h⟩ := h
  refine z_icmp_ne 22 dX12_look_6 (by decide) (pc' := 9) rfl r2 (by decide) (fun c => ?_) (fun c => ?_)
  · have h := h.2 c
    refine z_aload_n (pc' := 23) 0 rfl rfl dX12_look_22 rfl ?_
    refine z_invV (as := []) (st := []) (C := m_X12_here) (fs := [0, 3, 0, 0, 0, 0, 4, 5, 6, 7, 8, 9, 10, 0, 0, 11, 12, 13, 14, 15, 16, 0, 0, 0, 17, 18, 19, 20, 0, 0, 0, 21, 22, 0, 0, 23, 0, 1, 24, 0, 0, 25, 26, 0, 27, 0]) (pc' := 26) dX12_look_23 rfl t_6_222 k_X12_here rfl (by decide) rfl rfl rfl rfl (Nat.le_of_ble_eq_true rfl) ?_
    refine c_M_here r1 ?_
    show z_Wp m_X12_look _ 26 [(0, zR 0)] [zI (F_M_here w)] w _
    refine z_iret rfl dX12_look_26 ?_
    exact h
  · have h := h.1 c
    refine z_aload_n (pc' := 10) 0 rfl rfl dX12_look_9 rfl ?_
    refine z_dup (pc' := 11) rfl dX12_look_10 rfl ?_
    refine z_getI2 (v := w 0 3) (pc' := 14) g_X12_102 (by decide) rfl rfl rfl dX12_look_11 rfl ?_
    refine z_iconst (pc' := 15) dX12_look_14 rfl ?_
    refine z_iadd (pc' := 16) dX12_look_15 rfl ?_
    refine z_putI (pc' := 19) p_X12_102 (by decide) rfl rfl rfl rfl dX12_look_16 rfl ?_
    refine z_goto 0 dX12_look_19 (by decide) ?_
    exact h
set_option maxRecDepth 4000 in
theorem v_M_plainNumber {d : Nat} {w : z_Wd} {Q : Option z_V → z_Wd → Prop} (h : z_Wp m_X12_plainNumber (d + 1) 4 [(0, zR 0), (1, zI 0), (2, zI 0)] [] w Q) : z_Wc (d + 1) m_X12_plainNumber [zR 0] w Q := by
  refine z_enter rfl (Nat.le_of_ble_eq_true rfl) ?_
  show z_Wp m_X12_plainNumber _ 0 [(0, zR 0)] [] w _
  refine z_iconst (pc' := 1) dX12_plainNumber_0 rfl ?_
  refine z_istore_n (pc' := 2) (ls' := [(0, zR 0), (1, zI 0)]) rfl (by decide) rfl rfl dX12_plainNumber_1 rfl ?_
  refine z_iconst (pc' := 3) dX12_plainNumber_2 rfl ?_
  refine z_istore_n (pc' := 4) (ls' := [(0, zR 0), (1, zI 0), (2, zI 0)]) rfl (by decide) rfl rfl dX12_plainNumber_3 rfl ?_
  exact h
set_option maxRecDepth 4000 in
theorem v_M_plainNumber_4 {d : Nat} {w : z_Wd} {l1 l2 : Int} {Q : Option z_V → z_Wd → Prop} (h : (-2147483648 ≤ l2 ∧ l2 < 2147483648) ∧ ((l2 ≥ 4 → (P_M_here w) ∧ (P_M_isDigit w (F_M_here w)) ∧ ((F_M_isDigit w (F_M_here w) = 0 → Q (some (zI l1)) w) ∧ (¬ (F_M_isDigit w (F_M_here w) = 0) → (P_M_bad w) ∧ (Q (some (zI l1)) (F_M_bad w))))) ∧ (¬ (l2 ≥ 4) → (P_M_here w) ∧ (P_M_isDigit w (F_M_here w)) ∧ ((F_M_isDigit w (F_M_here w) = 0 → (F_M_isDigit w (F_M_here w) = 0 → Q (some (zI l1)) w) ∧ (¬ (F_M_isDigit w (F_M_here w) = 0) → (P_M_bad w) ∧ (Q (some (zI l1)) (F_M_bad w)))) ∧ (¬ (F_M_isDigit w (F_M_here w) = 0) → z_Wp m_X12_plainNumber (d + 1) 4 [(0, zR 0), (1, zI (((10 * l1) + (F_M_here w)) - 48)), (2, zI (l2 + 1))] [] (z_up w 0 3 ((w 0 3) + 1)) Q))))) : z_Wp m_X12_plainNumber (d + 1) 4 [(0, zR 0), (1, zI l1), (2, zI l2)] [] w Q := by
  refine z_iload_n (pc' := 5) 2 rfl rfl dX12_plainNumber_4 rfl ?_
  refine z_iconst (pc' := 6) dX12_plainNumber_5 rfl ?_
  obtain ⟨r1, h⟩ := h
  refine z_icmp_ge 48 dX12_plainNumber_6 (by decide) (pc' := 9) rfl r1 (by decide) (fun c => ?_) (fun c => ?_)
  · have h := h.1 c
    refine z_aload_n (pc' := 49) 0 rfl rfl dX12_plainNumber_48 rfl ?_
    refine z_invV (as := []) (st := []) (C := m_X12_here) (fs := [0, 3, 0, 0, 0, 0, 4, 5, 6, 7, 8, 9, 10, 0, 0, 11, 12, 13, 14, 15, 16, 0, 0, 0, 17, 18, 19, 20, 0, 0, 0, 21, 22, 0, 0, 23, 0, 1, 24, 0, 0, 25, 26, 0, 27, 0]) (pc' := 52) dX12_plainNumber_49 rfl t_6_222 k_X12_here rfl (by decide) rfl rfl rfl rfl (Nat.le_of_ble_eq_true rfl) ?_
    obtain ⟨r2, h⟩ := h
    refine c_M_here r2 ?_
    show z_Wp m_X12_plainNumber _ 52 [(0, zR 0), (1, zI l1), (2, zI l2)] [zI (F_M_here w)] w _
    refine z_invS (as := [zI (F_M_here w)]) (st := []) (C := m_X12_isDigit) (pc' := 55) dX12_plainNumber_52 rfl t_7_10 k_X12_isDigit rfl rfl (Nat.le_of_ble_eq_true rfl) ?_
    obtain ⟨r3, h⟩ := h
    refine c_M_isDigit r3 ?_
    show z_Wp m_X12_plainNumber _ 55 [(0, zR 0), (1, zI l1), (2, zI l2)] [zI (F_M_isDigit w (F_M_here w))] w _
    refine z_if_eq 62 dX12_plainNumber_55 (by decide) (pc' := 58) rfl (z_rb b_M_isDigit) (fun c => ?_) (fun c => ?_)
    · have h := h.1 c
      refine z_iload_n (pc' := 63) 1 rfl rfl dX12_plainNumber_62 rfl ?_
      refine z_iret rfl dX12_plainNumber_63 ?_
      exact h
    · have h := h.2 c
      refine z_aload_n (pc' := 59) 0 rfl rfl dX12_plainNumber_58 rfl ?_
      refine z_invV (as := []) (st := []) (C := m_X12_bad) (fs := [0, 3, 0, 0, 0, 0, 4, 5, 6, 7, 8, 9, 10, 0, 0, 11, 12, 13, 14, 15, 16, 0, 0, 0, 17, 18, 19, 20, 0, 0, 0, 21, 22, 0, 0, 23, 0, 1, 24, 0, 0, 25, 26, 0, 27, 0]) (pc' := 62) dX12_plainNumber_59 rfl t_7_13 k_X12_bad rfl (by decide) rfl rfl rfl rfl (Nat.le_of_ble_eq_true rfl) ?_
      obtain ⟨r4, h⟩ := h
      refine c_M_bad r4 ?_
      show z_Wp m_X12_plainNumber _ 62 [(0, zR 0), (1, zI l1), (2, zI l2)] [] (F_M_bad w) _
      refine z_iload_n (pc' := 63) 1 rfl rfl dX12_plainNumber_62 rfl ?_
      refine z_iret rfl dX12_plainNumber_63 ?_
      exact h
  · have h := h.2 c
    refine z_aload_n (pc' := 10) 0 rfl rfl dX12_plainNumber_9 rfl ?_
    refine z_invV (as := []) (st := []) (C := m_X12_here) (fs := [0, 3, 0, 0, 0, 0, 4, 5, 6, 7, 8, 9, 10, 0, 0, 11, 12, 13, 14, 15, 16, 0, 0, 0, 17, 18, 19, 20, 0, 0, 0, 21, 22, 0, 0, 23, 0, 1, 24, 0, 0, 25, 26, 0, 27, 0]) (pc' := 13) dX12_plainNumber_10 rfl t_6_222 k_X12_here rfl (by decide) rfl rfl rfl rfl (Nat.le_of_ble_eq_true rfl) ?_
    obtain ⟨r5, h⟩ := h
    refine c_M_here r5 ?_
    show z_Wp m_X12_plainNumber _ 13 [(0, zR 0), (1, zI l1), (2, zI l2)] [zI (F_M_here w)] w _
    refine z_invS (as := [zI (F_M_here w)]) (st := []) (C := m_X12_isDigit) (pc' := 16) dX12_plainNumber_13 rfl t_7_10 k_X12_isDigit rfl rfl (Nat.le_of_ble_eq_true rfl) ?_
    obtain ⟨r6, h⟩ := h
    refine c_M_isDigit r6 ?_
    show z_Wp m_X12_plainNumber _ 16 [(0, zR 0), (1, zI l1), (2, zI l2)] [zI (F_M_isDigit w (F_M_here w))] w _
    refine z_if_eq 48 dX12_plainNumber_16 (by decide) (pc' := 19) rfl (z_rb b_M_isDigit) (fun c => ?_) (fun c => ?_)
    · have h := h.1 c
      refine z_aload_n (pc' := 49) 0 rfl rfl dX12_plainNumber_48 rfl ?_
      refine z_invV (as := []) (st := []) (C := m_X12_here) (fs := [0, 3, 0, 0, 0, 0, 4, 5, 6, 7, 8, 9, 10, 0, 0, 11, 12, 13, 14, 15, 16, 0, 0, 0, 17, 18, 19, 20, 0, 0, 0, 21, 22, 0, 0, 23, 0, 1, 24, 0, 0, 25, 26, 0, 27, 0]) (pc' := 52) dX12_plainNumber_49 rfl t_6_222 k_X12_here rfl (by decide) rfl rfl rfl rfl (Nat.le_of_ble_eq_true rfl) ?_
      refine c_M_here r5 ?_
      show z_Wp m_X12_plainNumber _ 52 [(0, zR 0), (1, zI l1), (2, zI l2)] [zI (F_M_here w)] w _
      refine z_invS (as := [zI (F_M_here w)]) (st := []) (C := m_X12_isDigit) (pc' := 55) dX12_plainNumber_52 rfl t_7_10 k_X12_isDigit rfl rfl (Nat.le_of_ble_eq_true rfl) ?_
      refine c_M_isDigit r6 ?_
      show z_Wp m_X12_plainNumber _ 55 [(0, zR 0), (1, zI l1), (2, zI l2)] [zI (F_M_isDigit w (F_M_here w))] w _
      refine z_if_eq 62 dX12_plainNumber_55 (by decide) (pc' := 58) rfl (z_rb b_M_isDigit) (fun c => ?_) (fun c => ?_)
      · have h := h.1 c
        refine z_iload_n (pc' := 63) 1 rfl rfl dX12_plainNumber_62 rfl ?_
        refine z_iret rfl dX12_plainNumber_63 ?_
        exact h
      · have h := h.2 c
        refine z_aload_n (pc' := 59) 0 rfl rfl dX12_plainNumber_58 rfl ?_
        refine z_invV (as := []) (st := []) (C := m_X12_bad) (fs := [0, 3, 0, 0, 0, 0, 4, 5, 6, 7, 8, 9, 10, 0, 0, 11, 12, 13, 14, 15, 16, 0, 0, 0, 17, 18, 19, 20, 0, 0, 0, 21, 22, 0, 0, 23, 0, 1, 24, 0, 0, 25, 26, 0, 27, 0]) (pc' := 62) dX12_plainNumber_59 rfl t_7_13 k_X12_bad rfl (by decide) rfl rfl rfl rfl (Nat.le_of_ble_eq_true rfl) ?_
        obtain ⟨r7, h⟩ := h
        refine c_M_bad r7 ?_
        show z_Wp m_X12_plainNumber _ 62 [(0, zR 0), (1, zI l1), (2, zI l2)] [] (F_M_bad w) _
        refine z_iload_n (pc' := 63) 1 rfl rfl dX12_plainNumber_62 rfl ?_
        refine z_iret rfl dX12_plainNumber_63 ?_
        exact h
    · have h := h.2 c
      refine z_bipush (pc' := 21) (by decide) dX12_plainNumber_19 rfl ?_
      refine z_iload_n (pc' := 22) 1 rfl rfl dX12_plainNumber_21 rfl ?_
      refine z_imul (pc' := 23) dX12_plainNumber_22 rfl ?_
      refine z_aload_n (pc' := 24) 0 rfl rfl dX12_plainNumber_23 rfl ?_
      refine z_invV (as := []) (st := [zI (10 * l1)]) (C := m_X12_here) (fs := [0, 3, 0, 0, 0, 0, 4, 5, 6, 7, 8, 9, 10, 0, 0, 11, 12, 13, 14, 15, 16, 0, 0, 0, 17, 18, 19, 20, 0, 0, 0, 21, 22, 0, 0, 23, 0, 1, 24, 0, 0, 25, 26, 0, 27, 0]) (pc' := 27) dX12_plainNumber_24 rfl t_6_222 k_X12_here rfl (by decide) rfl rfl rfl rfl (Nat.le_of_ble_eq_true rfl) ?_
      refine c_M_here r5 ?_
      show z_Wp m_X12_plainNumber _ 27 [(0, zR 0), (1, zI l1), (2, zI l2)] [zI (F_M_here w), zI (10 * l1)] w _
      refine z_iadd (pc' := 28) dX12_plainNumber_27 rfl ?_
      refine z_bipush (pc' := 30) (by decide) dX12_plainNumber_28 rfl ?_
      refine z_isub (pc' := 31) dX12_plainNumber_30 rfl ?_
      refine z_istore_n (pc' := 32) (ls' := [(0, zR 0), (1, zI (((10 * l1) + (F_M_here w)) - 48)), (2, zI l2)]) rfl (by decide) rfl rfl dX12_plainNumber_31 rfl ?_
      refine z_aload_n (pc' := 33) 0 rfl rfl dX12_plainNumber_32 rfl ?_
      refine z_dup (pc' := 34) rfl dX12_plainNumber_33 rfl ?_
      refine z_getI2 (v := w 0 3) (pc' := 37) g_X12_102 (by decide) rfl rfl rfl dX12_plainNumber_34 rfl ?_
      refine z_iconst (pc' := 38) dX12_plainNumber_37 rfl ?_
      refine z_iadd (pc' := 39) dX12_plainNumber_38 rfl ?_
      refine z_putI (pc' := 42) p_X12_102 (by decide) rfl rfl rfl rfl dX12_plainNumber_39 rfl ?_
      refine z_iinc (pc' := 45) (ls' := [(0, zR 0), (1, zI (((10 * l1) + (F_M_here w)) - 48)), (2, zI (l2 + 1))]) 2 rfl (by decide) rfl rfl dX12_plainNumber_42 rfl ?_
      refine z_goto 4 dX12_plainNumber_45 (by decide) ?_
      exact h
set_option maxRecDepth 4000 in
theorem v_M_feed {d : Nat} {w : z_Wd} {a0 a1 a2 a3 a4 : Int} {Q : Option z_V → z_Wd → Prop} (h : z_Wp m_X12_feed (d + 1) 6 [(0, zR 0), (1, zI a0), (2, zI a1), (3, zI a2), (4, zI a3), (5, zI a4), (6, zI 0), (7, zI 0)] [] w Q) : z_Wc (d + 1) m_X12_feed [zR 0, zI a0, zI a1, zI a2, zI a3, zI a4] w Q := by
  refine z_enter rfl (Nat.le_of_ble_eq_true rfl) ?_
  show z_Wp m_X12_feed _ 0 [(0, zR 0), (1, zI a0), (2, zI a1), (3, zI a2), (4, zI a3), (5, zI a4)] [] w _
  refine z_iconst (pc' := 1) dX12_feed_0 rfl ?_
  refine z_istore (pc' := 3) (ls' := [(0, zR 0), (1, zI a0), (2, zI a1), (3, zI a2), (4, zI a3), (5, zI a4), (6, zI 0)]) (by decide) rfl rfl dX12_feed_1 rfl ?_
  refine z_iconst (pc' := 4) dX12_feed_3 rfl ?_
  refine z_istore (pc' := 6) (ls' := [(0, zR 0), (1, zI a0), (2, zI a1), (3, zI a2), (4, zI a3), (5, zI a4), (6, zI 0), (7, zI 0)]) (by decide) rfl rfl dX12_feed_4 rfl ?_
  exact h
set_option maxRecDepth 4000 in
theorem v_M_feed_6 {d : Nat} {w : z_Wd} {l1 l2 l3 l4 l5 l6 l7 : Int} {Q : Option z_V → z_Wd → Prop} (h : (-2147483648 ≤ l7 ∧ l7 < 2147483648) ∧ ((l7 ≥ 20 → (-2147483648 ≤ (w 0 2) + l6 ∧ (w 0 2) + l6 < 2147483648) ∧ (((w 0 2) + l6 ≤ 240 → z_Wp m_X12_feed (d + 1) 62 [(0, zR 0), (1, zI l1), (2, zI l2), (3, zI l3), (4, zI l4), (5, zI l5), (7, zI 0)] [] w Q) ∧ (¬ ((w 0 2) + l6 ≤ 240) → Q (some (zI (-1))) w))) ∧ (¬ (l7 ≥ 20) → (P_M_byteOf w l1 l2 l3 l4 l5 l7) ∧ (-2147483648 ≤ F_M_byteOf w l1 l2 l3 l4 l5 l7 ∧ F_M_byteOf w l1 l2 l3 l4 l5 l7 < 2147483648) ∧ ((F_M_byteOf w l1 l2 l3 l4 l5 l7 = 0 → z_Wp m_X12_feed (d + 1) 6 [(0, zR 0), (1, zI l1), (2, zI l2), (3, zI l3), (4, zI l4), (5, zI l5), (6, zI l6), (7, zI (l7 + 1))] [] w Q) ∧ (¬ (F_M_byteOf w l1 l2 l3 l4 l5 l7 = 0) → z_Wp m_X12_feed (d + 1) 6 [(0, zR 0), (1, zI l1), (2, zI l2), (3, zI l3), (4, zI l4), (5, zI l5), (6, zI (l6 + 1)), (7, zI (l7 + 1))] [] w Q))))) : z_Wp m_X12_feed (d + 1) 6 [(0, zR 0), (1, zI l1), (2, zI l2), (3, zI l3), (4, zI l4), (5, zI l5), (6, zI l6), (7, zI l7)] [] w Q := by
  refine z_iload (pc' := 8) 7 rfl dX12_feed_6 rfl ?_
  refine z_bipush (pc' := 10) (by decide) dX12_feed_8 rfl ?_
  obtain ⟨r1, h⟩ := h
  refine z_icmp_ge 44 dX12_feed_10 (by decide) (pc' := 13) rfl r1 (by decide) (fun c => ?_) (fun c => ?_)
  · have h := h.1 c
    refine z_aload_n (pc' := 45) 0 rfl rfl dX12_feed_44 rfl ?_
    refine z_getI2 (v := w 0 2) (pc' := 48) g_X12_99 (by decide) rfl rfl rfl dX12_feed_45 rfl ?_
    refine z_iload (pc' := 50) 6 rfl dX12_feed_48 rfl ?_
    refine z_iadd (pc' := 51) dX12_feed_50 rfl ?_
    refine z_sipush (pc' := 54) (by decide) dX12_feed_51 rfl ?_
    obtain ⟨r2, h⟩ := h
    refine z_icmp_le 59 dX12_feed_54 (by decide) (pc' := 57) rfl r2 (by decide) (fun c => ?_) (fun c => ?_)
    · have h := h.1 c
      refine z_iconst (pc' := 60) dX12_feed_59 rfl ?_
      refine z_istore (pc' := 62) (ls' := [(0, zR 0), (1, zI l1), (2, zI l2), (3, zI l3), (4, zI l4), (5, zI l5), (6, zI l6), (7, zI 0)]) (by decide) rfl rfl dX12_feed_60 rfl ?_
      exact z_Wp.sub h (z_sub_of [0, 1, 2, 3, 4, 5, 7] rfl)
    · have h := h.2 c
      refine z_iconst (pc' := 58) dX12_feed_57 rfl ?_
      refine z_iret rfl dX12_feed_58 ?_
      exact h
  · have h := h.2 c
    refine z_iload (pc' := 15) 6 rfl dX12_feed_13 rfl ?_
    refine z_iload_n (pc' := 16) 1 rfl rfl dX12_feed_15 rfl ?_
    refine z_iload_n (pc' := 17) 2 rfl rfl dX12_feed_16 rfl ?_
    refine z_iload_n (pc' := 18) 3 rfl rfl dX12_feed_17 rfl ?_
    refine z_iload (pc' := 20) 4 rfl dX12_feed_18 rfl ?_
    refine z_iload (pc' := 22) 5 rfl dX12_feed_20 rfl ?_
    refine z_iload (pc' := 24) 7 rfl dX12_feed_22 rfl ?_
    refine z_invS (as := [zI l1, zI l2, zI l3, zI l4, zI l5, zI l7]) (st := [zI l6]) (C := m_X12_byteOf) (pc' := 27) dX12_feed_24 rfl t_6_200 k_X12_byteOf rfl rfl (Nat.le_of_ble_eq_true rfl) ?_
    obtain ⟨r3, h⟩ := h
    refine c_M_byteOf r3 ?_
    show z_Wp m_X12_feed _ 27 [(0, zR 0), (1, zI l1), (2, zI l2), (3, zI l3), (4, zI l4), (5, zI l5), (6, zI l6), (7, zI l7)] [zI (F_M_byteOf w l1 l2 l3 l4 l5 l7), zI l6] w _
    obtain ⟨r4, h⟩ := h
    refine z_if_eq 34 dX12_feed_27 (by decide) (pc' := 30) rfl r4 (fun c => ?_) (fun c => ?_)
    · have h := h.1 c
      refine z_iconst (pc' := 35) dX12_feed_34 rfl ?_
      refine z_iadd (pc' := 36) dX12_feed_35 rfl ?_
      refine z_eqI (y := l6) (by omega) ?_
      refine z_istore (pc' := 38) (ls' := [(0, zR 0), (1, zI l1), (2, zI l2), (3, zI l3), (4, zI l4), (5, zI l5), (6, zI l6), (7, zI l7)]) (by decide) rfl rfl dX12_feed_36 rfl ?_
      refine z_iinc (pc' := 41) (ls' := [(0, zR 0), (1, zI l1), (2, zI l2), (3, zI l3), (4, zI l4), (5, zI l5), (6, zI l6), (7, zI (l7 + 1))]) 7 rfl (by decide) rfl rfl dX12_feed_38 rfl ?_
      refine z_goto 6 dX12_feed_41 (by decide) ?_
      exact h
    · have h := h.2 c
      refine z_iconst (pc' := 31) dX12_feed_30 rfl ?_
      refine z_goto 35 dX12_feed_31 (by decide) ?_
      refine z_iadd (pc' := 36) dX12_feed_35 rfl ?_
      refine z_istore (pc' := 38) (ls' := [(0, zR 0), (1, zI l1), (2, zI l2), (3, zI l3), (4, zI l4), (5, zI l5), (6, zI (l6 + 1)), (7, zI l7)]) (by decide) rfl rfl dX12_feed_36 rfl ?_
      refine z_iinc (pc' := 41) (ls' := [(0, zR 0), (1, zI l1), (2, zI l2), (3, zI l3), (4, zI l4), (5, zI l5), (6, zI (l6 + 1)), (7, zI (l7 + 1))]) 7 rfl (by decide) rfl rfl dX12_feed_38 rfl ?_
      refine z_goto 6 dX12_feed_41 (by decide) ?_
      exact h
set_option maxRecDepth 4000 in
theorem v_M_feed_62 {d : Nat} {w : z_Wd} {l1 l2 l3 l4 l5 l7 : Int} {Q : Option z_V → z_Wd → Prop} (h : (-2147483648 ≤ l7 ∧ l7 < 2147483648) ∧ ((l7 ≥ 20 → Q (some (zI (w 0 2))) w) ∧ (¬ (l7 ≥ 20) → (P_M_byteOf w l1 l2 l3 l4 l5 l7) ∧ (-2147483648 ≤ F_M_byteOf w l1 l2 l3 l4 l5 l7 ∧ F_M_byteOf w l1 l2 l3 l4 l5 l7 < 2147483648) ∧ ((F_M_byteOf w l1 l2 l3 l4 l5 l7 = 0 → z_Wp m_X12_feed (d + 1) 62 [(0, zR 0), (1, zI l1), (2, zI l2), (3, zI l3), (4, zI l4), (5, zI l5), (7, zI (l7 + 1))] [] w Q) ∧ (¬ (F_M_byteOf w l1 l2 l3 l4 l5 l7 = 0) → (0 ≤ w 0 2 ∧ w 0 2 < 240) ∧ (z_Wp m_X12_feed (d + 1) 62 [(0, zR 0), (1, zI l1), (2, zI l2), (3, zI l3), (4, zI l4), (5, zI l5), (7, zI (l7 + 1))] [] (z_up (z_up w 1 ((w 0 2).toNat) (F_M_byteOf w l1 l2 l3 l4 l5 l7)) 0 2 ((w 0 2) + 1)) Q)))))) : z_Wp m_X12_feed (d + 1) 62 [(0, zR 0), (1, zI l1), (2, zI l2), (3, zI l3), (4, zI l4), (5, zI l5), (7, zI l7)] [] w Q := by
  refine z_iload (pc' := 64) 6 rfl dX12_feed_62 rfl ?_
  refine z_bipush (pc' := 66) (by decide) dX12_feed_64 rfl ?_
  obtain ⟨r1, h⟩ := h
  refine z_icmp_ge 115 dX12_feed_66 (by decide) (pc' := 69) rfl r1 (by decide) (fun c => ?_) (fun c => ?_)
  · have h := h.1 c
    refine z_aload_n (pc' := 116) 0 rfl rfl dX12_feed_115 rfl ?_
    refine z_getI2 (v := w 0 2) (pc' := 119) g_X12_99 (by decide) rfl rfl rfl dX12_feed_116 rfl ?_
    refine z_iret rfl dX12_feed_119 ?_
    exact h
  · have h := h.2 c
    refine z_iload_n (pc' := 70) 1 rfl rfl dX12_feed_69 rfl ?_
    refine z_iload_n (pc' := 71) 2 rfl rfl dX12_feed_70 rfl ?_
    refine z_iload_n (pc' := 72) 3 rfl rfl dX12_feed_71 rfl ?_
    refine z_iload (pc' := 74) 4 rfl dX12_feed_72 rfl ?_
    refine z_iload (pc' := 76) 5 rfl dX12_feed_74 rfl ?_
    refine z_iload (pc' := 78) 6 rfl dX12_feed_76 rfl ?_
    refine z_invS (as := [zI l1, zI l2, zI l3, zI l4, zI l5, zI l7]) (st := []) (C := m_X12_byteOf) (pc' := 81) dX12_feed_78 rfl t_6_200 k_X12_byteOf rfl rfl (Nat.le_of_ble_eq_true rfl) ?_
    obtain ⟨r2, h⟩ := h
    refine c_M_byteOf r2 ?_
    show z_Wp m_X12_feed _ 81 [(0, zR 0), (1, zI l1), (2, zI l2), (3, zI l3), (4, zI l4), (5, zI l5), (7, zI l7)] [zI (F_M_byteOf w l1 l2 l3 l4 l5 l7)] w _
    refine z_istore (pc' := 83) (ls' := [(0, zR 0), (1, zI l1), (2, zI l2), (3, zI l3), (4, zI l4), (5, zI l5), (7, zI l7), (8, zI (F_M_byteOf w l1 l2 l3 l4 l5 l7))]) (by decide) rfl rfl dX12_feed_81 rfl ?_
    refine z_iload (pc' := 85) 7 rfl dX12_feed_83 rfl ?_
    obtain ⟨r3, h⟩ := h
    refine z_if_eq 109 dX12_feed_85 (by decide) (pc' := 88) rfl r3 (fun c => ?_) (fun c => ?_)
    · have h := h.1 c
      refine z_iinc (pc' := 112) (ls' := [(0, zR 0), (1, zI l1), (2, zI l2), (3, zI l3), (4, zI l4), (5, zI l5), (7, zI (l7 + 1)), (8, zI (F_M_byteOf w l1 l2 l3 l4 l5 l7))]) 6 rfl (by decide) rfl rfl dX12_feed_109 rfl ?_
      refine z_goto 62 dX12_feed_112 (by decide) ?_
      exact z_Wp.sub h (z_sub_of [0, 1, 2, 3, 4, 5, 6] rfl)
    · have h := h.2 c
      refine z_aload_n (pc' := 89) 0 rfl rfl dX12_feed_88 rfl ?_
      refine z_getR (t := 1) (pc' := 92) g_X12_9 (by decide) rfl rfl dX12_feed_89 rfl ?_
      refine z_aload_n (pc' := 93) 0 rfl rfl dX12_feed_92 rfl ?_
      refine z_getI2 (v := w 0 2) (pc' := 96) g_X12_99 (by decide) rfl rfl rfl dX12_feed_93 rfl ?_
      refine z_iload (pc' := 98) 7 rfl dX12_feed_96 rfl ?_
      obtain ⟨r4, h⟩ := h
      refine z_iast2 (w' := z_up w 1 ((w 0 2).toNat) (F_M_byteOf w l1 l2 l3 l4 l5 l7)) (pc' := 99) (by decide) rfl r4 (by decide) rfl dX12_feed_98 rfl ?_
      refine z_aload_n (pc' := 100) 0 rfl rfl dX12_feed_99 rfl ?_
      refine z_dup (pc' := 101) rfl dX12_feed_100 rfl ?_
      refine z_getI2 (v := w 0 2) (pc' := 104) g_X12_99 (by decide) rfl rfl rfl dX12_feed_101 rfl ?_
      refine z_iconst (pc' := 105) dX12_feed_104 rfl ?_
      refine z_iadd (pc' := 106) dX12_feed_105 rfl ?_
      refine z_putI (pc' := 109) p_X12_99 (by decide) rfl rfl rfl rfl dX12_feed_106 rfl ?_
      refine z_iinc (pc' := 112) (ls' := [(0, zR 0), (1, zI l1), (2, zI l2), (3, zI l3), (4, zI l4), (5, zI l5), (7, zI (l7 + 1)), (8, zI (F_M_byteOf w l1 l2 l3 l4 l5 l7))]) 6 rfl (by decide) rfl rfl dX12_feed_109 rfl ?_
      refine z_goto 62 dX12_feed_112 (by decide) ?_
      exact z_Wp.sub h (z_sub_of [0, 1, 2, 3, 4, 5, 6] rfl)
set_option maxRecDepth 4000 in
theorem v_M_isWhole {d : Nat} {w : z_Wd} {Q : Option z_V → z_Wd → Prop} (h : (-2147483648 ≤ w 0 21 ∧ w 0 21 < 2147483648) ∧ ((w 0 21 ≤ 0 → z_Wp m_X12_isWhole d 23 [(0, zR 0), (1, zI 0), (2, zI 0)] [] w Q) ∧ (¬ (w 0 21 ≤ 0) → (-2147483648 ≤ w 0 22 ∧ w 0 22 < 2147483648) ∧ ((w 0 22 ≤ 1 → z_Wp m_X12_isWhole d 23 [(0, zR 0), (1, zI 0), (2, zI 0)] [] w Q) ∧ (¬ (w 0 22 ≤ 1) → z_Wp m_X12_isWhole d 23 [(0, zR 0), (1, zI 1), (2, zI 0)] [] w Q))))) : z_Wc d m_X12_isWhole [zR 0] w Q := by
  refine z_enter rfl (Nat.le_of_ble_eq_true rfl) ?_
  show z_Wp m_X12_isWhole _ 0 [(0, zR 0)] [] w _
  refine z_aload_n (pc' := 1) 0 rfl rfl dX12_isWhole_0 rfl ?_
  refine z_getI2 (v := w 0 21) (pc' := 4) g_X12_235 (by decide) rfl rfl rfl dX12_isWhole_1 rfl ?_
  obtain ⟨r1, h⟩ := h
  refine z_if_le 19 dX12_isWhole_4 (by decide) (pc' := 7) rfl r1 (fun c => ?_) (fun c => ?_)
  · have h := h.1 c
    refine z_iconst (pc' := 20) dX12_isWhole_19 rfl ?_
    refine z_istore_n (pc' := 21) (ls' := [(0, zR 0), (1, zI 0)]) rfl (by decide) rfl rfl dX12_isWhole_20 rfl ?_
    refine z_iconst (pc' := 22) dX12_isWhole_21 rfl ?_
    refine z_istore_n (pc' := 23) (ls' := [(0, zR 0), (1, zI 0), (2, zI 0)]) rfl (by decide) rfl rfl dX12_isWhole_22 rfl ?_
    exact h
  · have h := h.2 c
    refine z_aload_n (pc' := 8) 0 rfl rfl dX12_isWhole_7 rfl ?_
    refine z_getI2 (v := w 0 22) (pc' := 11) g_X12_238 (by decide) rfl rfl rfl dX12_isWhole_8 rfl ?_
    refine z_iconst (pc' := 12) dX12_isWhole_11 rfl ?_
    obtain ⟨r2, h⟩ := h
    refine z_icmp_le 19 dX12_isWhole_12 (by decide) (pc' := 15) rfl r2 (by decide) (fun c => ?_) (fun c => ?_)
    · have h := h.1 c
      refine z_iconst (pc' := 20) dX12_isWhole_19 rfl ?_
      refine z_istore_n (pc' := 21) (ls' := [(0, zR 0), (1, zI 0)]) rfl (by decide) rfl rfl dX12_isWhole_20 rfl ?_
      refine z_iconst (pc' := 22) dX12_isWhole_21 rfl ?_
      refine z_istore_n (pc' := 23) (ls' := [(0, zR 0), (1, zI 0), (2, zI 0)]) rfl (by decide) rfl rfl dX12_isWhole_22 rfl ?_
      exact h
    · have h := h.2 c
      refine z_iconst (pc' := 16) dX12_isWhole_15 rfl ?_
      refine z_goto 20 dX12_isWhole_16 (by decide) ?_
      refine z_istore_n (pc' := 21) (ls' := [(0, zR 0), (1, zI 1)]) rfl (by decide) rfl rfl dX12_isWhole_20 rfl ?_
      refine z_iconst (pc' := 22) dX12_isWhole_21 rfl ?_
      refine z_istore_n (pc' := 23) (ls' := [(0, zR 0), (1, zI 1), (2, zI 0)]) rfl (by decide) rfl rfl dX12_isWhole_22 rfl ?_
      exact h
set_option maxRecDepth 4000 in
theorem v_M_isWhole_23 {d : Nat} {w : z_Wd} {l1 l2 : Int} {Q : Option z_V → z_Wd → Prop} (h : (-2147483648 ≤ l2 ∧ l2 < 2147483648) ∧ (-2147483648 ≤ w 0 22 ∧ w 0 22 < 2147483648) ∧ ((l2 ≥ w 0 22 → z_Wp m_X12_isWhole d 73 [(0, zR 0), (1, zI l1), (2, zI 0)] [] w Q) ∧ (¬ (l2 ≥ w 0 22) → (0 ≤ (3 * l2) + 1 ∧ (3 * l2) + 1 < 21) ∧ (-2147483648 ≤ l1 ∧ l1 < 2147483648) ∧ ((l1 = 0 → z_Wp m_X12_isWhole d 23 [(0, zR 0), (1, zI 0), (2, zI (l2 + 1))] [] w Q) ∧ (¬ (l1 = 0) → (-2147483648 ≤ w 13 (((3 * l2) + 1).toNat) ∧ w 13 (((3 * l2) + 1).toNat) < 2147483648) ∧ ((w 13 (((3 * l2) + 1).toNat) ≥ w 0 22 → z_Wp m_X12_isWhole d 23 [(0, zR 0), (1, zI 0), (2, zI (l2 + 1))] [] w Q) ∧ (¬ (w 13 (((3 * l2) + 1).toNat) ≥ w 0 22) → (w 13 (((3 * l2) + 1).toNat) = l2 → z_Wp m_X12_isWhole d 23 [(0, zR 0), (1, zI 0), (2, zI (l2 + 1))] [] w Q) ∧ (¬ (w 13 (((3 * l2) + 1).toNat) = l2) → z_Wp m_X12_isWhole d 23 [(0, zR 0), (1, zI 1), (2, zI (l2 + 1))] [] w Q)))))))) : z_Wp m_X12_isWhole d 23 [(0, zR 0), (1, zI l1), (2, zI l2)] [] w Q := by
  refine z_iload_n (pc' := 24) 2 rfl rfl dX12_isWhole_23 rfl ?_
  refine z_aload_n (pc' := 25) 0 rfl rfl dX12_isWhole_24 rfl ?_
  refine z_getI2 (v := w 0 22) (pc' := 28) g_X12_238 (by decide) rfl rfl rfl dX12_isWhole_25 rfl ?_
  obtain ⟨r1, h⟩ := h
  obtain ⟨r2, h⟩ := h
  refine z_icmp_ge 71 dX12_isWhole_28 (by decide) (pc' := 31) rfl r1 r2 (fun c => ?_) (fun c => ?_)
  · have h := h.1 c
    refine z_iconst (pc' := 72) dX12_isWhole_71 rfl ?_
    refine z_istore_n (pc' := 73) (ls' := [(0, zR 0), (1, zI l1), (2, zI 0)]) rfl (by decide) rfl rfl dX12_isWhole_72 rfl ?_
    exact h
  · have h := h.2 c
    refine z_aload_n (pc' := 32) 0 rfl rfl dX12_isWhole_31 rfl ?_
    refine z_getR (t := 13) (pc' := 35) g_X12_46 (by decide) rfl rfl dX12_isWhole_32 rfl ?_
    refine z_iconst (pc' := 36) dX12_isWhole_35 rfl ?_
    refine z_iload_n (pc' := 37) 2 rfl rfl dX12_isWhole_36 rfl ?_
    refine z_imul (pc' := 38) dX12_isWhole_37 rfl ?_
    refine z_iconst (pc' := 39) dX12_isWhole_38 rfl ?_
    refine z_iadd (pc' := 40) dX12_isWhole_39 rfl ?_
    obtain ⟨r3, h⟩ := h
    refine z_iald2 (v := w 13 (((3 * l2) + 1).toNat)) (pc' := 41) (by decide) rfl r3 (by decide) rfl dX12_isWhole_40 rfl ?_
    refine z_istore_n (pc' := 42) (ls' := [(0, zR 0), (1, zI l1), (2, zI l2), (3, zI (w 13 (((3 * l2) + 1).toNat)))]) rfl (by decide) rfl rfl dX12_isWhole_41 rfl ?_
    refine z_iload_n (pc' := 43) 1 rfl rfl dX12_isWhole_42 rfl ?_
    obtain ⟨r4, h⟩ := h
    refine z_if_eq 63 dX12_isWhole_43 (by decide) (pc' := 46) rfl r4 (fun c => ?_) (fun c => ?_)
    · have h := h.1 c
      refine z_iconst (pc' := 64) dX12_isWhole_63 rfl ?_
      refine z_istore_n (pc' := 65) (ls' := [(0, zR 0), (1, zI 0), (2, zI l2), (3, zI (w 13 (((3 * l2) + 1).toNat)))]) rfl (by decide) rfl rfl dX12_isWhole_64 rfl ?_
      refine z_iinc (pc' := 68) (ls' := [(0, zR 0), (1, zI 0), (2, zI (l2 + 1)), (3, zI (w 13 (((3 * l2) + 1).toNat)))]) 2 rfl (by decide) rfl rfl dX12_isWhole_65 rfl ?_
      refine z_goto 23 dX12_isWhole_68 (by decide) ?_
      exact z_Wp.sub h (z_sub_of [0, 1, 2] rfl)
    · have h := h.2 c
      refine z_iload_n (pc' := 47) 3 rfl rfl dX12_isWhole_46 rfl ?_
      refine z_aload_n (pc' := 48) 0 rfl rfl dX12_isWhole_47 rfl ?_
      refine z_getI2 (v := w 0 22) (pc' := 51) g_X12_238 (by decide) rfl rfl rfl dX12_isWhole_48 rfl ?_
      obtain ⟨r5, h⟩ := h
      refine z_icmp_ge 63 dX12_isWhole_51 (by decide) (pc' := 54) rfl r5 r2 (fun c => ?_) (fun c => ?_)
      · have h := h.1 c
        refine z_iconst (pc' := 64) dX12_isWhole_63 rfl ?_
        refine z_istore_n (pc' := 65) (ls' := [(0, zR 0), (1, zI 0), (2, zI l2), (3, zI (w 13 (((3 * l2) + 1).toNat)))]) rfl (by decide) rfl rfl dX12_isWhole_64 rfl ?_
        refine z_iinc (pc' := 68) (ls' := [(0, zR 0), (1, zI 0), (2, zI (l2 + 1)), (3, zI (w 13 (((3 * l2) + 1).toNat)))]) 2 rfl (by decide) rfl rfl dX12_isWhole_65 rfl ?_
        refine z_goto 23 dX12_isWhole_68 (by decide) ?_
        exact z_Wp.sub h (z_sub_of [0, 1, 2] rfl)
      · have h := h.2 c
        refine z_iload_n (pc' := 55) 3 rfl rfl dX12_isWhole_54 rfl ?_
        refine z_iload_n (pc' := 56) 2 rfl rfl dX12_isWhole_55 rfl ?_
        refine z_icmp_eq 63 dX12_isWhole_56 (by decide) (pc' := 59) rfl r5 r1 (fun c => ?_) (fun c => ?_)
        · have h := h.1 c
          refine z_iconst (pc' := 64) dX12_isWhole_63 rfl ?_
          refine z_istore_n (pc' := 65) (ls' := [(0, zR 0), (1, zI 0), (2, zI l2), (3, zI (w 13 (((3 * l2) + 1).toNat)))]) rfl (by decide) rfl rfl dX12_isWhole_64 rfl ?_
          refine z_iinc (pc' := 68) (ls' := [(0, zR 0), (1, zI 0), (2, zI (l2 + 1)), (3, zI (w 13 (((3 * l2) + 1).toNat)))]) 2 rfl (by decide) rfl rfl dX12_isWhole_65 rfl ?_
          refine z_goto 23 dX12_isWhole_68 (by decide) ?_
          exact z_Wp.sub h (z_sub_of [0, 1, 2] rfl)
        · have h := h.2 c
          refine z_iconst (pc' := 60) dX12_isWhole_59 rfl ?_
          refine z_goto 64 dX12_isWhole_60 (by decide) ?_
          refine z_istore_n (pc' := 65) (ls' := [(0, zR 0), (1, zI 1), (2, zI l2), (3, zI (w 13 (((3 * l2) + 1).toNat)))]) rfl (by decide) rfl rfl dX12_isWhole_64 rfl ?_
          refine z_iinc (pc' := 68) (ls' := [(0, zR 0), (1, zI 1), (2, zI (l2 + 1)), (3, zI (w 13 (((3 * l2) + 1).toNat)))]) 2 rfl (by decide) rfl rfl dX12_isWhole_65 rfl ?_
          refine z_goto 23 dX12_isWhole_68 (by decide) ?_
          exact z_Wp.sub h (z_sub_of [0, 1, 2] rfl)
set_option maxRecDepth 4000 in
theorem v_M_isWhole_73 {d : Nat} {w : z_Wd} {l1 l2 : Int} {Q : Option z_V → z_Wd → Prop} (h : (-2147483648 ≤ l2 ∧ l2 < 2147483648) ∧ (-2147483648 ≤ w 0 23 ∧ w 0 23 < 2147483648) ∧ ((l2 ≥ w 0 23 → (l1 = 0 ∨ l1 = 1) ∧ (Q (some (zI l1)) w)) ∧ (¬ (l2 ≥ w 0 23) → (-2147483648 ≤ l1 ∧ l1 < 2147483648) ∧ ((l1 = 0 → z_Wp m_X12_isWhole d 73 [(0, zR 0), (1, zI 0), (2, zI (l2 + 1))] [] w Q) ∧ (¬ (l1 = 0) → (0 ≤ 2 * l2 ∧ 2 * l2 < 12) ∧ (-2147483648 ≤ w 14 ((2 * l2).toNat) ∧ w 14 ((2 * l2).toNat) < 2147483648) ∧ (-2147483648 ≤ w 0 22 ∧ w 0 22 < 2147483648) ∧ ((w 14 ((2 * l2).toNat) ≥ w 0 22 → z_Wp m_X12_isWhole d 73 [(0, zR 0), (1, zI 0), (2, zI (l2 + 1))] [] w Q) ∧ (¬ (w 14 ((2 * l2).toNat) ≥ w 0 22) → (0 ≤ (2 * l2) + 1 ∧ (2 * l2) + 1 < 12) ∧ (-2147483648 ≤ w 14 (((2 * l2) + 1).toNat) ∧ w 14 (((2 * l2) + 1).toNat) < 2147483648) ∧ ((w 14 (((2 * l2) + 1).toNat) ≥ w 0 22 → z_Wp m_X12_isWhole d 73 [(0, zR 0), (1, zI 0), (2, zI (l2 + 1))] [] w Q) ∧ (¬ (w 14 (((2 * l2) + 1).toNat) ≥ w 0 22) → (w 14 ((2 * l2).toNat) = w 14 (((2 * l2) + 1).toNat) → z_Wp m_X12_isWhole d 73 [(0, zR 0), (1, zI 0), (2, zI (l2 + 1))] [] w Q) ∧ (¬ (w 14 ((2 * l2).toNat) = w 14 (((2 * l2) + 1).toNat)) → z_Wp m_X12_isWhole d 73 [(0, zR 0), (1, zI 1), (2, zI (l2 + 1))] [] w Q)))))))))) : z_Wp m_X12_isWhole d 73 [(0, zR 0), (1, zI l1), (2, zI l2)] [] w Q := by
  refine z_iload_n (pc' := 74) 2 rfl rfl dX12_isWhole_73 rfl ?_
  refine z_aload_n (pc' := 75) 0 rfl rfl dX12_isWhole_74 rfl ?_
  refine z_getI2 (v := w 0 23) (pc' := 78) g_X12_241 (by decide) rfl rfl rfl dX12_isWhole_75 rfl ?_
  obtain ⟨r1, h⟩ := h
  obtain ⟨r2, h⟩ := h
  refine z_icmp_ge 150 dX12_isWhole_78 (by decide) (pc' := 81) rfl r1 r2 (fun c => ?_) (fun c => ?_)
  · have h := h.1 c
    refine z_iload_n (pc' := 151) 1 rfl rfl dX12_isWhole_150 rfl ?_
    obtain ⟨r3, h⟩ := h
    refine z_zret rfl r3 dX12_isWhole_151 ?_
    exact h
  · have h := h.2 c
    refine z_iload_n (pc' := 82) 1 rfl rfl dX12_isWhole_81 rfl ?_
    obtain ⟨r4, h⟩ := h
    refine z_if_eq 142 dX12_isWhole_82 (by decide) (pc' := 85) rfl r4 (fun c => ?_) (fun c => ?_)
    · have h := h.1 c
      refine z_iconst (pc' := 143) dX12_isWhole_142 rfl ?_
      refine z_istore_n (pc' := 144) (ls' := [(0, zR 0), (1, zI 0), (2, zI l2)]) rfl (by decide) rfl rfl dX12_isWhole_143 rfl ?_
      refine z_iinc (pc' := 147) (ls' := [(0, zR 0), (1, zI 0), (2, zI (l2 + 1))]) 2 rfl (by decide) rfl rfl dX12_isWhole_144 rfl ?_
      refine z_goto 73 dX12_isWhole_147 (by decide) ?_
      exact h
    · have h := h.2 c
      refine z_aload_n (pc' := 86) 0 rfl rfl dX12_isWhole_85 rfl ?_
      refine z_getR (t := 14) (pc' := 89) g_X12_49 (by decide) rfl rfl dX12_isWhole_86 rfl ?_
      refine z_iconst (pc' := 90) dX12_isWhole_89 rfl ?_
      refine z_iload_n (pc' := 91) 2 rfl rfl dX12_isWhole_90 rfl ?_
      refine z_imul (pc' := 92) dX12_isWhole_91 rfl ?_
      obtain ⟨r5, h⟩ := h
      refine z_iald2 (v := w 14 ((2 * l2).toNat)) (pc' := 93) (by decide) rfl r5 (by decide) rfl dX12_isWhole_92 rfl ?_
      refine z_aload_n (pc' := 94) 0 rfl rfl dX12_isWhole_93 rfl ?_
      refine z_getI2 (v := w 0 22) (pc' := 97) g_X12_238 (by decide) rfl rfl rfl dX12_isWhole_94 rfl ?_
      obtain ⟨r6, h⟩ := h
      obtain ⟨r7, h⟩ := h
      refine z_icmp_ge 142 dX12_isWhole_97 (by decide) (pc' := 100) rfl r6 r7 (fun c => ?_) (fun c => ?_)
      · have h := h.1 c
        refine z_iconst (pc' := 143) dX12_isWhole_142 rfl ?_
        refine z_istore_n (pc' := 144) (ls' := [(0, zR 0), (1, zI 0), (2, zI l2)]) rfl (by decide) rfl rfl dX12_isWhole_143 rfl ?_
        refine z_iinc (pc' := 147) (ls' := [(0, zR 0), (1, zI 0), (2, zI (l2 + 1))]) 2 rfl (by decide) rfl rfl dX12_isWhole_144 rfl ?_
        refine z_goto 73 dX12_isWhole_147 (by decide) ?_
        exact h
      · have h := h.2 c
        refine z_aload_n (pc' := 101) 0 rfl rfl dX12_isWhole_100 rfl ?_
        refine z_getR (t := 14) (pc' := 104) g_X12_49 (by decide) rfl rfl dX12_isWhole_101 rfl ?_
        refine z_iconst (pc' := 105) dX12_isWhole_104 rfl ?_
        refine z_iload_n (pc' := 106) 2 rfl rfl dX12_isWhole_105 rfl ?_
        refine z_imul (pc' := 107) dX12_isWhole_106 rfl ?_
        refine z_iconst (pc' := 108) dX12_isWhole_107 rfl ?_
        refine z_iadd (pc' := 109) dX12_isWhole_108 rfl ?_
        obtain ⟨r8, h⟩ := h
        refine z_iald2 (v := w 14 (((2 * l2) + 1).toNat)) (pc' := 110) (by decide) rfl r8 (by decide) rfl dX12_isWhole_109 rfl ?_
        refine z_aload_n (pc' := 111) 0 rfl rfl dX12_isWhole_110 rfl ?_
        refine z_getI2 (v := w 0 22) (pc' := 114) g_X12_238 (by decide) rfl rfl rfl dX12_isWhole_111 rfl ?_
        obtain ⟨r9, h⟩ := h
        refine z_icmp_ge 142 dX12_isWhole_114 (by decide) (pc' := 117) rfl r9 r7 (fun c => ?_) (fun c => ?_)
        · have h := h.1 c
          refine z_iconst (pc' := 143) dX12_isWhole_142 rfl ?_
          refine z_istore_n (pc' := 144) (ls' := [(0, zR 0), (1, zI 0), (2, zI l2)]) rfl (by decide) rfl rfl dX12_isWhole_143 rfl ?_
          refine z_iinc (pc' := 147) (ls' := [(0, zR 0), (1, zI 0), (2, zI (l2 + 1))]) 2 rfl (by decide) rfl rfl dX12_isWhole_144 rfl ?_
          refine z_goto 73 dX12_isWhole_147 (by decide) ?_
          exact h
        · have h := h.2 c
          refine z_aload_n (pc' := 118) 0 rfl rfl dX12_isWhole_117 rfl ?_
          refine z_getR (t := 14) (pc' := 121) g_X12_49 (by decide) rfl rfl dX12_isWhole_118 rfl ?_
          refine z_iconst (pc' := 122) dX12_isWhole_121 rfl ?_
          refine z_iload_n (pc' := 123) 2 rfl rfl dX12_isWhole_122 rfl ?_
          refine z_imul (pc' := 124) dX12_isWhole_123 rfl ?_
          refine z_iald2 (v := w 14 ((2 * l2).toNat)) (pc' := 125) (by decide) rfl r5 (by decide) rfl dX12_isWhole_124 rfl ?_
          refine z_aload_n (pc' := 126) 0 rfl rfl dX12_isWhole_125 rfl ?_
          refine z_getR (t := 14) (pc' := 129) g_X12_49 (by decide) rfl rfl dX12_isWhole_126 rfl ?_
          refine z_iconst (pc' := 130) dX12_isWhole_129 rfl ?_
          refine z_iload_n (pc' := 131) 2 rfl rfl dX12_isWhole_130 rfl ?_
          refine z_imul (pc' := 132) dX12_isWhole_131 rfl ?_
          refine z_iconst (pc' := 133) dX12_isWhole_132 rfl ?_
          refine z_iadd (pc' := 134) dX12_isWhole_133 rfl ?_
          refine z_iald2 (v := w 14 (((2 * l2) + 1).toNat)) (pc' := 135) (by decide) rfl r8 (by decide) rfl dX12_isWhole_134 rfl ?_
          refine z_icmp_eq 142 dX12_isWhole_135 (by decide) (pc' := 138) rfl r6 r9 (fun c => ?_) (fun c => ?_)
          · have h := h.1 c
            refine z_iconst (pc' := 143) dX12_isWhole_142 rfl ?_
            refine z_istore_n (pc' := 144) (ls' := [(0, zR 0), (1, zI 0), (2, zI l2)]) rfl (by decide) rfl rfl dX12_isWhole_143 rfl ?_
            refine z_iinc (pc' := 147) (ls' := [(0, zR 0), (1, zI 0), (2, zI (l2 + 1))]) 2 rfl (by decide) rfl rfl dX12_isWhole_144 rfl ?_
            refine z_goto 73 dX12_isWhole_147 (by decide) ?_
            exact h
          · have h := h.2 c
            refine z_iconst (pc' := 139) dX12_isWhole_138 rfl ?_
            refine z_goto 143 dX12_isWhole_139 (by decide) ?_
            refine z_istore_n (pc' := 144) (ls' := [(0, zR 0), (1, zI 1), (2, zI l2)]) rfl (by decide) rfl rfl dX12_isWhole_143 rfl ?_
            refine z_iinc (pc' := 147) (ls' := [(0, zR 0), (1, zI 1), (2, zI (l2 + 1))]) 2 rfl (by decide) rfl rfl dX12_isWhole_144 rfl ?_
            refine z_goto 73 dX12_isWhole_147 (by decide) ?_
            exact h
set_option maxRecDepth 4000 in
theorem v_M_takeMinistry {d : Nat} {w : z_Wd} {Q : Option z_V → z_Wd → Prop} (h : z_Wp m_X12_takeMinistry d 26 [(0, zR 0), (1, zI 0)] [] (z_up (z_up (z_up w 0 28 (w 0 21)) 0 29 (w 0 22)) 0 30 (w 0 23)) Q) : z_Wc d m_X12_takeMinistry [zR 0] w Q := by
  refine z_enter rfl (Nat.le_of_ble_eq_true rfl) ?_
  show z_Wp m_X12_takeMinistry _ 0 [(0, zR 0)] [] w _
  refine z_aload_n (pc' := 1) 0 rfl rfl dX12_takeMinistry_0 rfl ?_
  refine z_aload_n (pc' := 2) 0 rfl rfl dX12_takeMinistry_1 rfl ?_
  refine z_getI2 (v := w 0 21) (pc' := 5) g_X12_235 (by decide) rfl rfl rfl dX12_takeMinistry_2 rfl ?_
  refine z_putI (pc' := 8) p_X12_257 (by decide) rfl rfl rfl rfl dX12_takeMinistry_5 rfl ?_
  refine z_aload_n (pc' := 9) 0 rfl rfl dX12_takeMinistry_8 rfl ?_
  refine z_aload_n (pc' := 10) 0 rfl rfl dX12_takeMinistry_9 rfl ?_
  refine z_getI2 (v := w 0 22) (pc' := 13) g_X12_238 (by decide) rfl rfl rfl dX12_takeMinistry_10 rfl ?_
  refine z_putI (pc' := 16) p_X12_260 (by decide) rfl rfl rfl rfl dX12_takeMinistry_13 rfl ?_
  refine z_aload_n (pc' := 17) 0 rfl rfl dX12_takeMinistry_16 rfl ?_
  refine z_aload_n (pc' := 18) 0 rfl rfl dX12_takeMinistry_17 rfl ?_
  refine z_getI2 (v := w 0 23) (pc' := 21) g_X12_241 (by decide) rfl rfl rfl dX12_takeMinistry_18 rfl ?_
  refine z_putI (pc' := 24) p_X12_263 (by decide) rfl rfl rfl rfl dX12_takeMinistry_21 rfl ?_
  refine z_iconst (pc' := 25) dX12_takeMinistry_24 rfl ?_
  refine z_istore_n (pc' := 26) (ls' := [(0, zR 0), (1, zI 0)]) rfl (by decide) rfl rfl dX12_takeMinistry_25 rfl ?_
  exact h
set_option maxRecDepth 4000 in
theorem v_M_takeMinistry_26 {d : Nat} {w : z_Wd} {l1 : Int} {Q : Option z_V → z_Wd → Prop} (h : (-2147483648 ≤ l1 ∧ l1 < 2147483648) ∧ ((l1 ≥ 2 → z_Wp m_X12_takeMinistry d 51 [(0, zR 0), (1, zI 0)] [] w Q) ∧ (¬ (l1 ≥ 2) → (0 ≤ l1 ∧ l1 < 2) ∧ (z_Wp m_X12_takeMinistry d 26 [(0, zR 0), (1, zI (l1 + 1))] [] (z_up w 15 l1.toNat (w 11 l1.toNat)) Q)))) : z_Wp m_X12_takeMinistry d 26 [(0, zR 0), (1, zI l1)] [] w Q := by
  refine z_iload_n (pc' := 27) 1 rfl rfl dX12_takeMinistry_26 rfl ?_
  refine z_iconst (pc' := 28) dX12_takeMinistry_27 rfl ?_
  obtain ⟨r1, h⟩ := h
  refine z_icmp_ge 49 dX12_takeMinistry_28 (by decide) (pc' := 31) rfl r1 (by decide) (fun c => ?_) (fun c => ?_)
  · have h := h.1 c
    refine z_iconst (pc' := 50) dX12_takeMinistry_49 rfl ?_
    refine z_istore_n (pc' := 51) (ls' := [(0, zR 0), (1, zI 0)]) rfl (by decide) rfl rfl dX12_takeMinistry_50 rfl ?_
    exact h
  · have h := h.2 c
    refine z_aload_n (pc' := 32) 0 rfl rfl dX12_takeMinistry_31 rfl ?_
    refine z_getR (t := 15) (pc' := 35) g_X12_52 (by decide) rfl rfl dX12_takeMinistry_32 rfl ?_
    refine z_iload_n (pc' := 36) 1 rfl rfl dX12_takeMinistry_35 rfl ?_
    refine z_aload_n (pc' := 37) 0 rfl rfl dX12_takeMinistry_36 rfl ?_
    refine z_getR (t := 11) (pc' := 40) g_X12_40 (by decide) rfl rfl dX12_takeMinistry_37 rfl ?_
    refine z_iload_n (pc' := 41) 1 rfl rfl dX12_takeMinistry_40 rfl ?_
    obtain ⟨r2, h⟩ := h
    refine z_iald2 (v := w 11 l1.toNat) (pc' := 42) (by decide) rfl r2 (by decide) rfl dX12_takeMinistry_41 rfl ?_
    refine z_iast2 (w' := z_up w 15 l1.toNat (w 11 l1.toNat)) (pc' := 43) (by decide) rfl r2 (by decide) rfl dX12_takeMinistry_42 rfl ?_
    refine z_iinc (pc' := 46) (ls' := [(0, zR 0), (1, zI (l1 + 1))]) 1 rfl (by decide) rfl rfl dX12_takeMinistry_43 rfl ?_
    refine z_goto 26 dX12_takeMinistry_46 (by decide) ?_
    exact h
set_option maxRecDepth 4000 in
theorem v_M_takeMinistry_51 {d : Nat} {w : z_Wd} {l1 : Int} {Q : Option z_V → z_Wd → Prop} (h : (-2147483648 ≤ l1 ∧ l1 < 2147483648) ∧ ((l1 ≥ 8 → z_Wp m_X12_takeMinistry d 77 [(0, zR 0), (1, zI 0)] [] w Q) ∧ (¬ (l1 ≥ 8) → (0 ≤ l1 ∧ l1 < 8) ∧ (z_Wp m_X12_takeMinistry d 51 [(0, zR 0), (1, zI (l1 + 1))] [] (z_up w 16 l1.toNat (w 12 l1.toNat)) Q)))) : z_Wp m_X12_takeMinistry d 51 [(0, zR 0), (1, zI l1)] [] w Q := by
  refine z_iload_n (pc' := 52) 1 rfl rfl dX12_takeMinistry_51 rfl ?_
  refine z_bipush (pc' := 54) (by decide) dX12_takeMinistry_52 rfl ?_
  obtain ⟨r1, h⟩ := h
  refine z_icmp_ge 75 dX12_takeMinistry_54 (by decide) (pc' := 57) rfl r1 (by decide) (fun c => ?_) (fun c => ?_)
  · have h := h.1 c
    refine z_iconst (pc' := 76) dX12_takeMinistry_75 rfl ?_
    refine z_istore_n (pc' := 77) (ls' := [(0, zR 0), (1, zI 0)]) rfl (by decide) rfl rfl dX12_takeMinistry_76 rfl ?_
    exact h
  · have h := h.2 c
    refine z_aload_n (pc' := 58) 0 rfl rfl dX12_takeMinistry_57 rfl ?_
    refine z_getR (t := 16) (pc' := 61) g_X12_55 (by decide) rfl rfl dX12_takeMinistry_58 rfl ?_
    refine z_iload_n (pc' := 62) 1 rfl rfl dX12_takeMinistry_61 rfl ?_
    refine z_aload_n (pc' := 63) 0 rfl rfl dX12_takeMinistry_62 rfl ?_
    refine z_getR (t := 12) (pc' := 66) g_X12_43 (by decide) rfl rfl dX12_takeMinistry_63 rfl ?_
    refine z_iload_n (pc' := 67) 1 rfl rfl dX12_takeMinistry_66 rfl ?_
    obtain ⟨r2, h⟩ := h
    refine z_iald2 (v := w 12 l1.toNat) (pc' := 68) (by decide) rfl r2 (by decide) rfl dX12_takeMinistry_67 rfl ?_
    refine z_iast2 (w' := z_up w 16 l1.toNat (w 12 l1.toNat)) (pc' := 69) (by decide) rfl r2 (by decide) rfl dX12_takeMinistry_68 rfl ?_
    refine z_iinc (pc' := 72) (ls' := [(0, zR 0), (1, zI (l1 + 1))]) 1 rfl (by decide) rfl rfl dX12_takeMinistry_69 rfl ?_
    refine z_goto 51 dX12_takeMinistry_72 (by decide) ?_
    exact h
set_option maxRecDepth 4000 in
theorem v_M_takeMinistry_77 {d : Nat} {w : z_Wd} {l1 : Int} {Q : Option z_V → z_Wd → Prop} (h : (-2147483648 ≤ l1 ∧ l1 < 2147483648) ∧ ((l1 ≥ 21 → z_Wp m_X12_takeMinistry d 103 [(0, zR 0), (1, zI 0)] [] w Q) ∧ (¬ (l1 ≥ 21) → (0 ≤ l1 ∧ l1 < 21) ∧ (z_Wp m_X12_takeMinistry d 77 [(0, zR 0), (1, zI (l1 + 1))] [] (z_up w 17 l1.toNat (w 13 l1.toNat)) Q)))) : z_Wp m_X12_takeMinistry d 77 [(0, zR 0), (1, zI l1)] [] w Q := by
  refine z_iload_n (pc' := 78) 1 rfl rfl dX12_takeMinistry_77 rfl ?_
  refine z_bipush (pc' := 80) (by decide) dX12_takeMinistry_78 rfl ?_
  obtain ⟨r1, h⟩ := h
  refine z_icmp_ge 101 dX12_takeMinistry_80 (by decide) (pc' := 83) rfl r1 (by decide) (fun c => ?_) (fun c => ?_)
  · have h := h.1 c
    refine z_iconst (pc' := 102) dX12_takeMinistry_101 rfl ?_
    refine z_istore_n (pc' := 103) (ls' := [(0, zR 0), (1, zI 0)]) rfl (by decide) rfl rfl dX12_takeMinistry_102 rfl ?_
    exact h
  · have h := h.2 c
    refine z_aload_n (pc' := 84) 0 rfl rfl dX12_takeMinistry_83 rfl ?_
    refine z_getR (t := 17) (pc' := 87) g_X12_58 (by decide) rfl rfl dX12_takeMinistry_84 rfl ?_
    refine z_iload_n (pc' := 88) 1 rfl rfl dX12_takeMinistry_87 rfl ?_
    refine z_aload_n (pc' := 89) 0 rfl rfl dX12_takeMinistry_88 rfl ?_
    refine z_getR (t := 13) (pc' := 92) g_X12_46 (by decide) rfl rfl dX12_takeMinistry_89 rfl ?_
    refine z_iload_n (pc' := 93) 1 rfl rfl dX12_takeMinistry_92 rfl ?_
    obtain ⟨r2, h⟩ := h
    refine z_iald2 (v := w 13 l1.toNat) (pc' := 94) (by decide) rfl r2 (by decide) rfl dX12_takeMinistry_93 rfl ?_
    refine z_iast2 (w' := z_up w 17 l1.toNat (w 13 l1.toNat)) (pc' := 95) (by decide) rfl r2 (by decide) rfl dX12_takeMinistry_94 rfl ?_
    refine z_iinc (pc' := 98) (ls' := [(0, zR 0), (1, zI (l1 + 1))]) 1 rfl (by decide) rfl rfl dX12_takeMinistry_95 rfl ?_
    refine z_goto 77 dX12_takeMinistry_98 (by decide) ?_
    exact h
set_option maxRecDepth 4000 in
theorem v_M_takeMinistry_103 {d : Nat} {w : z_Wd} {l1 : Int} {Q : Option z_V → z_Wd → Prop} (h : (-2147483648 ≤ l1 ∧ l1 < 2147483648) ∧ ((l1 ≥ 12 → z_Wp m_X12_takeMinistry d 129 [(0, zR 0), (1, zI 0)] [] w Q) ∧ (¬ (l1 ≥ 12) → (0 ≤ l1 ∧ l1 < 12) ∧ (z_Wp m_X12_takeMinistry d 103 [(0, zR 0), (1, zI (l1 + 1))] [] (z_up w 18 l1.toNat (w 14 l1.toNat)) Q)))) : z_Wp m_X12_takeMinistry d 103 [(0, zR 0), (1, zI l1)] [] w Q := by
  refine z_iload_n (pc' := 104) 1 rfl rfl dX12_takeMinistry_103 rfl ?_
  refine z_bipush (pc' := 106) (by decide) dX12_takeMinistry_104 rfl ?_
  obtain ⟨r1, h⟩ := h
  refine z_icmp_ge 127 dX12_takeMinistry_106 (by decide) (pc' := 109) rfl r1 (by decide) (fun c => ?_) (fun c => ?_)
  · have h := h.1 c
    refine z_iconst (pc' := 128) dX12_takeMinistry_127 rfl ?_
    refine z_istore_n (pc' := 129) (ls' := [(0, zR 0), (1, zI 0)]) rfl (by decide) rfl rfl dX12_takeMinistry_128 rfl ?_
    exact h
  · have h := h.2 c
    refine z_aload_n (pc' := 110) 0 rfl rfl dX12_takeMinistry_109 rfl ?_
    refine z_getR (t := 18) (pc' := 113) g_X12_61 (by decide) rfl rfl dX12_takeMinistry_110 rfl ?_
    refine z_iload_n (pc' := 114) 1 rfl rfl dX12_takeMinistry_113 rfl ?_
    refine z_aload_n (pc' := 115) 0 rfl rfl dX12_takeMinistry_114 rfl ?_
    refine z_getR (t := 14) (pc' := 118) g_X12_49 (by decide) rfl rfl dX12_takeMinistry_115 rfl ?_
    refine z_iload_n (pc' := 119) 1 rfl rfl dX12_takeMinistry_118 rfl ?_
    obtain ⟨r2, h⟩ := h
    refine z_iald2 (v := w 14 l1.toNat) (pc' := 120) (by decide) rfl r2 (by decide) rfl dX12_takeMinistry_119 rfl ?_
    refine z_iast2 (w' := z_up w 18 l1.toNat (w 14 l1.toNat)) (pc' := 121) (by decide) rfl r2 (by decide) rfl dX12_takeMinistry_120 rfl ?_
    refine z_iinc (pc' := 124) (ls' := [(0, zR 0), (1, zI (l1 + 1))]) 1 rfl (by decide) rfl rfl dX12_takeMinistry_121 rfl ?_
    refine z_goto 103 dX12_takeMinistry_124 (by decide) ?_
    exact h
set_option maxRecDepth 4000 in
theorem v_M_takeMinistry_129 {d : Nat} {w : z_Wd} {l1 : Int} {Q : Option z_V → z_Wd → Prop} (h : (-2147483648 ≤ l1 ∧ l1 < 2147483648) ∧ ((l1 ≥ 160 → z_Wp m_X12_takeMinistry d 151 [(0, zR 0), (1, zI 0)] [] w Q) ∧ (¬ (l1 ≥ 160) → (0 ≤ l1 ∧ l1 < 160) ∧ (z_Wp m_X12_takeMinistry d 129 [(0, zR 0), (1, zI (l1 + 1))] [] (z_up w 19 l1.toNat 0) Q)))) : z_Wp m_X12_takeMinistry d 129 [(0, zR 0), (1, zI l1)] [] w Q := by
  refine z_iload_n (pc' := 130) 1 rfl rfl dX12_takeMinistry_129 rfl ?_
  refine z_sipush (pc' := 133) (by decide) dX12_takeMinistry_130 rfl ?_
  obtain ⟨r1, h⟩ := h
  refine z_icmp_ge 149 dX12_takeMinistry_133 (by decide) (pc' := 136) rfl r1 (by decide) (fun c => ?_) (fun c => ?_)
  · have h := h.1 c
    refine z_iconst (pc' := 150) dX12_takeMinistry_149 rfl ?_
    refine z_istore_n (pc' := 151) (ls' := [(0, zR 0), (1, zI 0)]) rfl (by decide) rfl rfl dX12_takeMinistry_150 rfl ?_
    exact h
  · have h := h.2 c
    refine z_aload_n (pc' := 137) 0 rfl rfl dX12_takeMinistry_136 rfl ?_
    refine z_getR (t := 19) (pc' := 140) g_X12_64 (by decide) rfl rfl dX12_takeMinistry_137 rfl ?_
    refine z_iload_n (pc' := 141) 1 rfl rfl dX12_takeMinistry_140 rfl ?_
    refine z_iconst (pc' := 142) dX12_takeMinistry_141 rfl ?_
    obtain ⟨r2, h⟩ := h
    refine z_iast2 (w' := z_up w 19 l1.toNat 0) (pc' := 143) (by decide) rfl r2 (by decide) rfl dX12_takeMinistry_142 rfl ?_
    refine z_iinc (pc' := 146) (ls' := [(0, zR 0), (1, zI (l1 + 1))]) 1 rfl (by decide) rfl rfl dX12_takeMinistry_143 rfl ?_
    refine z_goto 129 dX12_takeMinistry_146 (by decide) ?_
    exact h
set_option maxRecDepth 4000 in
theorem v_M_takeMinistry_151 {d : Nat} {w : z_Wd} {l1 : Int} {Q : Option z_V → z_Wd → Prop} (h : (-2147483648 ≤ l1 ∧ l1 < 2147483648) ∧ (-2147483648 ≤ w 0 28 ∧ w 0 28 < 2147483648) ∧ ((l1 ≥ w 0 28 → Q (some (zI (w 0 29))) (z_up (z_up (z_up (z_up w 19 36 (w 15 1)) 0 43 0) 0 36 0) 0 45 0)) ∧ (¬ (l1 ≥ w 0 28) → (0 ≤ 2 * l1 ∧ 2 * l1 < 8) ∧ (0 ≤ 32 + l1 ∧ 32 + l1 < 160) ∧ (z_Wp m_X12_takeMinistry d 151 [(0, zR 0), (1, zI (l1 + 1))] [] (z_up w 19 ((32 + l1).toNat) (w 16 ((2 * l1).toNat))) Q)))) : z_Wp m_X12_takeMinistry d 151 [(0, zR 0), (1, zI l1)] [] w Q := by
  refine z_iload_n (pc' := 152) 1 rfl rfl dX12_takeMinistry_151 rfl ?_
  refine z_aload_n (pc' := 153) 0 rfl rfl dX12_takeMinistry_152 rfl ?_
  refine z_getI2 (v := w 0 28) (pc' := 156) g_X12_257 (by decide) rfl rfl rfl dX12_takeMinistry_153 rfl ?_
  obtain ⟨r1, h⟩ := h
  obtain ⟨r2, h⟩ := h
  refine z_icmp_ge 184 dX12_takeMinistry_156 (by decide) (pc' := 159) rfl r1 r2 (fun c => ?_) (fun c => ?_)
  · have h := h.1 c
    refine z_aload_n (pc' := 185) 0 rfl rfl dX12_takeMinistry_184 rfl ?_
    refine z_getR (t := 19) (pc' := 188) g_X12_64 (by decide) rfl rfl dX12_takeMinistry_185 rfl ?_
    refine z_bipush (pc' := 190) (by decide) dX12_takeMinistry_188 rfl ?_
    refine z_aload_n (pc' := 191) 0 rfl rfl dX12_takeMinistry_190 rfl ?_
    refine z_getR (t := 15) (pc' := 194) g_X12_52 (by decide) rfl rfl dX12_takeMinistry_191 rfl ?_
    refine z_iconst (pc' := 195) dX12_takeMinistry_194 rfl ?_
    refine z_iald2 (v := w 15 1) (pc' := 196) (by decide) rfl (by decide) (by decide) rfl dX12_takeMinistry_195 rfl ?_
    refine z_iast2 (w' := z_up w 19 36 (w 15 1)) (pc' := 197) (by decide) rfl (by decide) (by decide) rfl dX12_takeMinistry_196 rfl ?_
    refine z_aload_n (pc' := 198) 0 rfl rfl dX12_takeMinistry_197 rfl ?_
    refine z_iconst (pc' := 199) dX12_takeMinistry_198 rfl ?_
    refine z_putI (pc' := 202) p_X12_266 (by decide) rfl rfl rfl rfl dX12_takeMinistry_199 rfl ?_
    refine z_aload_n (pc' := 203) 0 rfl rfl dX12_takeMinistry_202 rfl ?_
    refine z_iconst (pc' := 204) dX12_takeMinistry_203 rfl ?_
    refine z_putI (pc' := 207) p_X12_269 (by decide) rfl rfl rfl rfl dX12_takeMinistry_204 rfl ?_
    refine z_aload_n (pc' := 208) 0 rfl rfl dX12_takeMinistry_207 rfl ?_
    refine z_iconst (pc' := 209) dX12_takeMinistry_208 rfl ?_
    refine z_putI (pc' := 212) p_X12_272 (by decide) rfl rfl (by decide) (by decide) dX12_takeMinistry_209 rfl ?_
    refine z_aload_n (pc' := 213) 0 rfl rfl dX12_takeMinistry_212 rfl ?_
    refine z_getI2 (v := w 0 29) (pc' := 216) g_X12_260 (by decide) rfl rfl rfl dX12_takeMinistry_213 rfl ?_
    refine z_iret rfl dX12_takeMinistry_216 ?_
    exact h
  · have h := h.2 c
    refine z_aload_n (pc' := 160) 0 rfl rfl dX12_takeMinistry_159 rfl ?_
    refine z_getR (t := 19) (pc' := 163) g_X12_64 (by decide) rfl rfl dX12_takeMinistry_160 rfl ?_
    refine z_bipush (pc' := 165) (by decide) dX12_takeMinistry_163 rfl ?_
    refine z_iload_n (pc' := 166) 1 rfl rfl dX12_takeMinistry_165 rfl ?_
    refine z_iadd (pc' := 167) dX12_takeMinistry_166 rfl ?_
    refine z_aload_n (pc' := 168) 0 rfl rfl dX12_takeMinistry_167 rfl ?_
    refine z_getR (t := 16) (pc' := 171) g_X12_55 (by decide) rfl rfl dX12_takeMinistry_168 rfl ?_
    refine z_iconst (pc' := 172) dX12_takeMinistry_171 rfl ?_
    refine z_iload_n (pc' := 173) 1 rfl rfl dX12_takeMinistry_172 rfl ?_
    refine z_imul (pc' := 174) dX12_takeMinistry_173 rfl ?_
    refine z_iconst (pc' := 175) dX12_takeMinistry_174 rfl ?_
    refine z_iadd (pc' := 176) dX12_takeMinistry_175 rfl ?_
    refine z_eqI (y := 2 * l1) (by omega) ?_
    obtain ⟨r3, h⟩ := h
    refine z_iald2 (v := w 16 ((2 * l1).toNat)) (pc' := 177) (by decide) rfl r3 (by decide) rfl dX12_takeMinistry_176 rfl ?_
    obtain ⟨r4, h⟩ := h
    refine z_iast2 (w' := z_up w 19 ((32 + l1).toNat) (w 16 ((2 * l1).toNat))) (pc' := 178) (by decide) rfl r4 (by decide) rfl dX12_takeMinistry_177 rfl ?_
    refine z_iinc (pc' := 181) (ls' := [(0, zR 0), (1, zI (l1 + 1))]) 1 rfl (by decide) rfl rfl dX12_takeMinistry_178 rfl ?_
    refine z_goto 151 dX12_takeMinistry_181 (by decide) ?_
    exact h
set_option maxRecDepth 4000 in
theorem v_M_workOut {d : Nat} {w : z_Wd} {a0 a1 a2 : Int} {Q : Option z_V → z_Wd → Prop} (h : z_Wp m_X12_workOut (d + 3) 12 [(0, zR 0), (1, zI a0), (3, zI a2), (4, zI 0), (5, zI ((520 * a0) + a1))] [] w Q) : z_Wc (d + 3) m_X12_workOut [zR 0, zI a0, zI a1, zI a2] w Q := by
  refine z_enter rfl (Nat.le_of_ble_eq_true rfl) ?_
  show z_Wp m_X12_workOut _ 0 [(0, zR 0), (1, zI a0), (2, zI a1), (3, zI a2)] [] w _
  refine z_iconst (pc' := 1) dX12_workOut_0 rfl ?_
  refine z_istore (pc' := 3) (ls' := [(0, zR 0), (1, zI a0), (2, zI a1), (3, zI a2), (4, zI 0)]) (by decide) rfl rfl dX12_workOut_1 rfl ?_
  refine z_sipush (pc' := 6) (by decide) dX12_workOut_3 rfl ?_
  refine z_iload_n (pc' := 7) 1 rfl rfl dX12_workOut_6 rfl ?_
  refine z_imul (pc' := 8) dX12_workOut_7 rfl ?_
  refine z_iload_n (pc' := 9) 2 rfl rfl dX12_workOut_8 rfl ?_
  refine z_iadd (pc' := 10) dX12_workOut_9 rfl ?_
  refine z_istore (pc' := 12) (ls' := [(0, zR 0), (1, zI a0), (2, zI a1), (3, zI a2), (4, zI 0), (5, zI ((520 * a0) + a1))]) (by decide) rfl rfl dX12_workOut_10 rfl ?_
  exact z_Wp.sub h (z_sub_of [0, 1, 3, 4, 5] rfl)
set_option maxRecDepth 4000 in
theorem v_M_workOut_12 {d : Nat} {w : z_Wd} {l1 l3 l4 l5 : Int} {Q : Option z_V → z_Wd → Prop} (h : (-2147483648 ≤ l5 ∧ l5 < 2147483648) ∧ (-2147483648 ≤ (520 * l1) + l3 ∧ (520 * l1) + l3 < 2147483648) ∧ ((l5 ≥ (520 * l1) + l3 → Q (some (zI (w 10 0))) w) ∧ (¬ (l5 ≥ (520 * l1) + l3) → (0 ≤ l5 ∧ l5 < 2600) ∧ (-2147483648 ≤ w 2 l5.toNat ∧ w 2 l5.toNat < 2147483648) ∧ ((w 2 l5.toNat = 0 → (w 2 l5.toNat = 0 → (0 ≤ l4 ∧ l4 < 80) ∧ (z_Wp m_X12_workOut (d + 3) 12 [(0, zR 0), (1, zI l1), (3, zI l3), (4, zI (l4 + 1)), (5, zI (l5 + 1))] [] (z_up w 10 l4.toNat (w 3 l5.toNat)) Q)) ∧ (¬ (w 2 l5.toNat = 0) → (0 ≤ w 3 l5.toNat ∧ w 3 l5.toNat < 6) ∧ (0 ≤ l4 ∧ l4 < 80) ∧ (z_Wp m_X12_workOut (d + 3) 12 [(0, zR 0), (1, zI l1), (3, zI l3), (4, zI (l4 + 1)), (5, zI (l5 + 1))] [] (z_up w 10 l4.toNat (w 9 ((w 3 l5.toNat).toNat))) Q))) ∧ (¬ (w 2 l5.toNat = 0) → (w 2 l5.toNat = 1 → (w 2 l5.toNat = 0 → (0 ≤ l4 ∧ l4 < 80) ∧ (z_Wp m_X12_workOut (d + 3) 12 [(0, zR 0), (1, zI l1), (3, zI l3), (4, zI (l4 + 1)), (5, zI (l5 + 1))] [] (z_up w 10 l4.toNat (w 3 l5.toNat)) Q)) ∧ (¬ (w 2 l5.toNat = 0) → (0 ≤ w 3 l5.toNat ∧ w 3 l5.toNat < 6) ∧ (0 ≤ l4 ∧ l4 < 80) ∧ (z_Wp m_X12_workOut (d + 3) 12 [(0, zR 0), (1, zI l1), (3, zI l3), (4, zI (l4 + 1)), (5, zI (l5 + 1))] [] (z_up w 10 l4.toNat (w 9 ((w 3 l5.toNat).toNat))) Q))) ∧ (¬ (w 2 l5.toNat = 1) → (w 2 l5.toNat = 9 → (0 ≤ l4 - 1 ∧ l4 - 1 < 80) ∧ (z_Wp m_X12_workOut (d + 3) 12 [(0, zR 0), (1, zI l1), (3, zI l3), (4, zI l4), (5, zI (l5 + 1))] [] (z_up w 10 ((l4 - 1).toNat) (1 - (w 10 ((l4 - 1).toNat)))) Q)) ∧ (¬ (w 2 l5.toNat = 9) → (0 ≤ (l4 + (-1)) - 1 ∧ (l4 + (-1)) - 1 < 80) ∧ (-2147483648 ≤ w 10 (((l4 + (-1)) - 1).toNat) ∧ w 10 (((l4 + (-1)) - 1).toNat) < 2147483648) ∧ (0 ≤ l4 + (-1) ∧ l4 + (-1) < 80) ∧ (-2147483648 ≤ w 10 ((l4 + (-1)).toNat) ∧ w 10 ((l4 + (-1)).toNat) < 2147483648) ∧ (P_M_worked w (w 2 l5.toNat) (w 10 (((l4 + (-1)) - 1).toNat)) (w 10 ((l4 + (-1)).toNat))) ∧ (z_Wp m_X12_workOut (d + 3) 12 [(0, zR 0), (1, zI l1), (3, zI l3), (4, zI (l4 + (-1))), (5, zI (l5 + 1))] [] (z_up w 10 (((l4 + (-1)) - 1).toNat) (F_M_worked w (w 2 l5.toNat) (w 10 (((l4 + (-1)) - 1).toNat)) (w 10 ((l4 + (-1)).toNat)))) Q)))))))) : z_Wp m_X12_workOut (d + 3) 12 [(0, zR 0), (1, zI l1), (3, zI l3), (4, zI l4), (5, zI l5)] [] w Q := by
  refine z_iload (pc' := 14) 4 rfl dX12_workOut_12 rfl ?_
  refine z_sipush (pc' := 17) (by decide) dX12_workOut_14 rfl ?_
  refine z_iload_n (pc' := 18) 1 rfl rfl dX12_workOut_17 rfl ?_
  refine z_imul (pc' := 19) dX12_workOut_18 rfl ?_
  refine z_iload_n (pc' := 20) 2 rfl rfl dX12_workOut_19 rfl ?_
  refine z_iadd (pc' := 21) dX12_workOut_20 rfl ?_
  obtain ⟨r1, h⟩ := h
  obtain ⟨r2, h⟩ := h
  refine z_icmp_ge 171 dX12_workOut_21 (by decide) (pc' := 24) rfl r1 r2 (fun c => ?_) (fun c => ?_)
  · have h := h.1 c
    refine z_aload_n (pc' := 172) 0 rfl rfl dX12_workOut_171 rfl ?_
    refine z_getR (t := 10) (pc' := 175) g_X12_37 (by decide) rfl rfl dX12_workOut_172 rfl ?_
    refine z_iconst (pc' := 176) dX12_workOut_175 rfl ?_
    refine z_iald2 (v := w 10 0) (pc' := 177) (by decide) rfl (by decide) (by decide) rfl dX12_workOut_176 rfl ?_
    refine z_iret rfl dX12_workOut_177 ?_
    exact h
  · have h := h.2 c
    refine z_aload_n (pc' := 25) 0 rfl rfl dX12_workOut_24 rfl ?_
    refine z_getR (t := 2) (pc' := 28) g_X12_13 (by decide) rfl rfl dX12_workOut_25 rfl ?_
    refine z_iload (pc' := 30) 4 rfl dX12_workOut_28 rfl ?_
    obtain ⟨r3, h⟩ := h
    refine z_iald2 (v := w 2 l5.toNat) (pc' := 31) (by decide) rfl r3 (by decide) rfl dX12_workOut_30 rfl ?_
    obtain ⟨r4, h⟩ := h
    refine z_if_eq 45 dX12_workOut_31 (by decide) (pc' := 34) rfl r4 (fun c => ?_) (fun c => ?_)
    · have h := h.1 c
      refine z_aload_n (pc' := 46) 0 rfl rfl dX12_workOut_45 rfl ?_
      refine z_getR (t := 10) (pc' := 49) g_X12_37 (by decide) rfl rfl dX12_workOut_46 rfl ?_
      refine z_iload (pc' := 51) 3 rfl dX12_workOut_49 rfl ?_
      refine z_aload_n (pc' := 52) 0 rfl rfl dX12_workOut_51 rfl ?_
      refine z_getR (t := 2) (pc' := 55) g_X12_13 (by decide) rfl rfl dX12_workOut_52 rfl ?_
      refine z_iload (pc' := 57) 4 rfl dX12_workOut_55 rfl ?_
      refine z_iald2 (v := w 2 l5.toNat) (pc' := 58) (by decide) rfl r3 (by decide) rfl dX12_workOut_57 rfl ?_
      refine z_if_ne 71 dX12_workOut_58 (by decide) (pc' := 61) rfl r4 (fun c => ?_) (fun c => ?_)
      · have h := h.2 c
        refine z_aload_n (pc' := 72) 0 rfl rfl dX12_workOut_71 rfl ?_
        refine z_getR (t := 9) (pc' := 75) g_X12_34 (by decide) rfl rfl dX12_workOut_72 rfl ?_
        refine z_aload_n (pc' := 76) 0 rfl rfl dX12_workOut_75 rfl ?_
        refine z_getR (t := 3) (pc' := 79) g_X12_16 (by decide) rfl rfl dX12_workOut_76 rfl ?_
        refine z_iload (pc' := 81) 4 rfl dX12_workOut_79 rfl ?_
        refine z_iald2 (v := w 3 l5.toNat) (pc' := 82) (by decide) rfl r3 (by decide) rfl dX12_workOut_81 rfl ?_
        obtain ⟨r5, h⟩ := h
        refine z_iald2 (v := w 9 ((w 3 l5.toNat).toNat)) (pc' := 83) (by decide) rfl r5 (by decide) rfl dX12_workOut_82 rfl ?_
        obtain ⟨r6, h⟩ := h
        refine z_iast2 (w' := z_up w 10 l4.toNat (w 9 ((w 3 l5.toNat).toNat))) (pc' := 84) (by decide) rfl r6 (by decide) rfl dX12_workOut_83 rfl ?_
        refine z_iinc (pc' := 87) (ls' := [(0, zR 0), (1, zI l1), (3, zI l3), (4, zI (l4 + 1)), (5, zI l5)]) 3 rfl (by decide) rfl rfl dX12_workOut_84 rfl ?_
        refine z_goto 165 dX12_workOut_87 (by decide) ?_
        refine z_iinc (pc' := 168) (ls' := [(0, zR 0), (1, zI l1), (3, zI l3), (4, zI (l4 + 1)), (5, zI (l5 + 1))]) 4 rfl (by decide) rfl rfl dX12_workOut_165 rfl ?_
        refine z_goto 12 dX12_workOut_168 (by decide) ?_
        exact h
      · have h := h.1 c
        refine z_aload_n (pc' := 62) 0 rfl rfl dX12_workOut_61 rfl ?_
        refine z_getR (t := 3) (pc' := 65) g_X12_16 (by decide) rfl rfl dX12_workOut_62 rfl ?_
        refine z_iload (pc' := 67) 4 rfl dX12_workOut_65 rfl ?_
        refine z_iald2 (v := w 3 l5.toNat) (pc' := 68) (by decide) rfl r3 (by decide) rfl dX12_workOut_67 rfl ?_
        refine z_goto 83 dX12_workOut_68 (by decide) ?_
        obtain ⟨r7, h⟩ := h
        refine z_iast2 (w' := z_up w 10 l4.toNat (w 3 l5.toNat)) (pc' := 84) (by decide) rfl r7 (by decide) rfl dX12_workOut_83 rfl ?_
        refine z_iinc (pc' := 87) (ls' := [(0, zR 0), (1, zI l1), (3, zI l3), (4, zI (l4 + 1)), (5, zI l5)]) 3 rfl (by decide) rfl rfl dX12_workOut_84 rfl ?_
        refine z_goto 165 dX12_workOut_87 (by decide) ?_
        refine z_iinc (pc' := 168) (ls' := [(0, zR 0), (1, zI l1), (3, zI l3), (4, zI (l4 + 1)), (5, zI (l5 + 1))]) 4 rfl (by decide) rfl rfl dX12_workOut_165 rfl ?_
        refine z_goto 12 dX12_workOut_168 (by decide) ?_
        exact h
    · have h := h.2 c
      refine z_aload_n (pc' := 35) 0 rfl rfl dX12_workOut_34 rfl ?_
      refine z_getR (t := 2) (pc' := 38) g_X12_13 (by decide) rfl rfl dX12_workOut_35 rfl ?_
      refine z_iload (pc' := 40) 4 rfl dX12_workOut_38 rfl ?_
      refine z_iald2 (v := w 2 l5.toNat) (pc' := 41) (by decide) rfl r3 (by decide) rfl dX12_workOut_40 rfl ?_
      refine z_iconst (pc' := 42) dX12_workOut_41 rfl ?_
      refine z_icmp_ne 90 dX12_workOut_42 (by decide) (pc' := 45) rfl r4 (by decide) (fun c => ?_) (fun c => ?_)
      · have h := h.2 c
        refine z_aload_n (pc' := 91) 0 rfl rfl dX12_workOut_90 rfl ?_
        refine z_getR (t := 2) (pc' := 94) g_X12_13 (by decide) rfl rfl dX12_workOut_91 rfl ?_
        refine z_iload (pc' := 96) 4 rfl dX12_workOut_94 rfl ?_
        refine z_iald2 (v := w 2 l5.toNat) (pc' := 97) (by decide) rfl r3 (by decide) rfl dX12_workOut_96 rfl ?_
        refine z_bipush (pc' := 99) (by decide) dX12_workOut_97 rfl ?_
        refine z_icmp_ne 125 dX12_workOut_99 (by decide) (pc' := 102) rfl r4 (by decide) (fun c => ?_) (fun c => ?_)
        · have h := h.2 c
          refine z_iinc (pc' := 128) (ls' := [(0, zR 0), (1, zI l1), (3, zI l3), (4, zI (l4 + (-1))), (5, zI l5)]) 3 rfl (by decide) rfl rfl dX12_workOut_125 rfl ?_
          refine z_aload_n (pc' := 129) 0 rfl rfl dX12_workOut_128 rfl ?_
          refine z_getR (t := 10) (pc' := 132) g_X12_37 (by decide) rfl rfl dX12_workOut_129 rfl ?_
          refine z_iload (pc' := 134) 3 rfl dX12_workOut_132 rfl ?_
          refine z_iconst (pc' := 135) dX12_workOut_134 rfl ?_
          refine z_isub (pc' := 136) dX12_workOut_135 rfl ?_
          refine z_aload_n (pc' := 137) 0 rfl rfl dX12_workOut_136 rfl ?_
          refine z_getR (t := 2) (pc' := 140) g_X12_13 (by decide) rfl rfl dX12_workOut_137 rfl ?_
          refine z_iload (pc' := 142) 4 rfl dX12_workOut_140 rfl ?_
          refine z_iald2 (v := w 2 l5.toNat) (pc' := 143) (by decide) rfl r3 (by decide) rfl dX12_workOut_142 rfl ?_
          refine z_aload_n (pc' := 144) 0 rfl rfl dX12_workOut_143 rfl ?_
          refine z_getR (t := 10) (pc' := 147) g_X12_37 (by decide) rfl rfl dX12_workOut_144 rfl ?_
          refine z_iload (pc' := 149) 3 rfl dX12_workOut_147 rfl ?_
          refine z_iconst (pc' := 150) dX12_workOut_149 rfl ?_
          refine z_isub (pc' := 151) dX12_workOut_150 rfl ?_
          obtain ⟨r8, h⟩ := h
          refine z_iald2 (v := w 10 (((l4 + (-1)) - 1).toNat)) (pc' := 152) (by decide) rfl r8 (by decide) rfl dX12_workOut_151 rfl ?_
          obtain ⟨r9, h⟩ := h
          refine z_i2l (pc' := 153) r9 dX12_workOut_152 rfl ?_
          refine z_aload_n (pc' := 154) 0 rfl rfl dX12_workOut_153 rfl ?_
          refine z_getR (t := 10) (pc' := 157) g_X12_37 (by decide) rfl rfl dX12_workOut_154 rfl ?_
          refine z_iload (pc' := 159) 3 rfl dX12_workOut_157 rfl ?_
          obtain ⟨r10, h⟩ := h
          refine z_iald2 (v := w 10 ((l4 + (-1)).toNat)) (pc' := 160) (by decide) rfl r10 (by decide) rfl dX12_workOut_159 rfl ?_
          obtain ⟨r11, h⟩ := h
          refine z_i2l (pc' := 161) r11 dX12_workOut_160 rfl ?_
          refine z_invS (as := [zI (w 2 l5.toNat), zJ (w 10 (((l4 + (-1)) - 1).toNat)), zJ (w 10 ((l4 + (-1)).toNat))]) (st := [zI ((l4 + (-1)) - 1), zR 10]) (C := m_X12_worked) (pc' := 164) dX12_workOut_161 rfl t_7_171 k_X12_worked rfl rfl (Nat.le_of_ble_eq_true rfl) ?_
          obtain ⟨r12, h⟩ := h
          refine c_M_worked r12 ?_
          show z_Wp m_X12_workOut _ 164 [(0, zR 0), (1, zI l1), (3, zI l3), (4, zI (l4 + (-1))), (5, zI l5)] [zI (F_M_worked w (w 2 l5.toNat) (w 10 (((l4 + (-1)) - 1).toNat)) (w 10 ((l4 + (-1)).toNat))), zI ((l4 + (-1)) - 1), zR 10] w _
          refine z_iast2 (w' := z_up w 10 (((l4 + (-1)) - 1).toNat) (F_M_worked w (w 2 l5.toNat) (w 10 (((l4 + (-1)) - 1).toNat)) (w 10 ((l4 + (-1)).toNat)))) (pc' := 165) (by decide) rfl r8 (by decide) rfl dX12_workOut_164 rfl ?_
          refine z_iinc (pc' := 168) (ls' := [(0, zR 0), (1, zI l1), (3, zI l3), (4, zI (l4 + (-1))), (5, zI (l5 + 1))]) 4 rfl (by decide) rfl rfl dX12_workOut_165 rfl ?_
          refine z_goto 12 dX12_workOut_168 (by decide) ?_
          exact h
        · have h := h.1 c
          refine z_aload_n (pc' := 103) 0 rfl rfl dX12_workOut_102 rfl ?_
          refine z_getR (t := 10) (pc' := 106) g_X12_37 (by decide) rfl rfl dX12_workOut_103 rfl ?_
          refine z_iload (pc' := 108) 3 rfl dX12_workOut_106 rfl ?_
          refine z_iconst (pc' := 109) dX12_workOut_108 rfl ?_
          refine z_isub (pc' := 110) dX12_workOut_109 rfl ?_
          refine z_iconst (pc' := 111) dX12_workOut_110 rfl ?_
          refine z_aload_n (pc' := 112) 0 rfl rfl dX12_workOut_111 rfl ?_
          refine z_getR (t := 10) (pc' := 115) g_X12_37 (by decide) rfl rfl dX12_workOut_112 rfl ?_
          refine z_iload (pc' := 117) 3 rfl dX12_workOut_115 rfl ?_
          refine z_iconst (pc' := 118) dX12_workOut_117 rfl ?_
          refine z_isub (pc' := 119) dX12_workOut_118 rfl ?_
          obtain ⟨r13, h⟩ := h
          refine z_iald2 (v := w 10 ((l4 - 1).toNat)) (pc' := 120) (by decide) rfl r13 (by decide) rfl dX12_workOut_119 rfl ?_
          refine z_isub (pc' := 121) dX12_workOut_120 rfl ?_
          refine z_iast2 (w' := z_up w 10 ((l4 - 1).toNat) (1 - (w 10 ((l4 - 1).toNat)))) (pc' := 122) (by decide) rfl r13 (by decide) rfl dX12_workOut_121 rfl ?_
          refine z_goto 165 dX12_workOut_122 (by decide) ?_
          refine z_iinc (pc' := 168) (ls' := [(0, zR 0), (1, zI l1), (3, zI l3), (4, zI l4), (5, zI (l5 + 1))]) 4 rfl (by decide) rfl rfl dX12_workOut_165 rfl ?_
          refine z_goto 12 dX12_workOut_168 (by decide) ?_
          exact h
      · have h := h.1 c
        refine z_aload_n (pc' := 46) 0 rfl rfl dX12_workOut_45 rfl ?_
        refine z_getR (t := 10) (pc' := 49) g_X12_37 (by decide) rfl rfl dX12_workOut_46 rfl ?_
        refine z_iload (pc' := 51) 3 rfl dX12_workOut_49 rfl ?_
        refine z_aload_n (pc' := 52) 0 rfl rfl dX12_workOut_51 rfl ?_
        refine z_getR (t := 2) (pc' := 55) g_X12_13 (by decide) rfl rfl dX12_workOut_52 rfl ?_
        refine z_iload (pc' := 57) 4 rfl dX12_workOut_55 rfl ?_
        refine z_iald2 (v := w 2 l5.toNat) (pc' := 58) (by decide) rfl r3 (by decide) rfl dX12_workOut_57 rfl ?_
        refine z_if_ne 71 dX12_workOut_58 (by decide) (pc' := 61) rfl r4 (fun c => ?_) (fun c => ?_)
        · have h := h.2 c
          refine z_aload_n (pc' := 72) 0 rfl rfl dX12_workOut_71 rfl ?_
          refine z_getR (t := 9) (pc' := 75) g_X12_34 (by decide) rfl rfl dX12_workOut_72 rfl ?_
          refine z_aload_n (pc' := 76) 0 rfl rfl dX12_workOut_75 rfl ?_
          refine z_getR (t := 3) (pc' := 79) g_X12_16 (by decide) rfl rfl dX12_workOut_76 rfl ?_
          refine z_iload (pc' := 81) 4 rfl dX12_workOut_79 rfl ?_
          refine z_iald2 (v := w 3 l5.toNat) (pc' := 82) (by decide) rfl r3 (by decide) rfl dX12_workOut_81 rfl ?_
          obtain ⟨r14, h⟩ := h
          refine z_iald2 (v := w 9 ((w 3 l5.toNat).toNat)) (pc' := 83) (by decide) rfl r14 (by decide) rfl dX12_workOut_82 rfl ?_
          obtain ⟨r15, h⟩ := h
          refine z_iast2 (w' := z_up w 10 l4.toNat (w 9 ((w 3 l5.toNat).toNat))) (pc' := 84) (by decide) rfl r15 (by decide) rfl dX12_workOut_83 rfl ?_
          refine z_iinc (pc' := 87) (ls' := [(0, zR 0), (1, zI l1), (3, zI l3), (4, zI (l4 + 1)), (5, zI l5)]) 3 rfl (by decide) rfl rfl dX12_workOut_84 rfl ?_
          refine z_goto 165 dX12_workOut_87 (by decide) ?_
          refine z_iinc (pc' := 168) (ls' := [(0, zR 0), (1, zI l1), (3, zI l3), (4, zI (l4 + 1)), (5, zI (l5 + 1))]) 4 rfl (by decide) rfl rfl dX12_workOut_165 rfl ?_
          refine z_goto 12 dX12_workOut_168 (by decide) ?_
          exact h
        · have h := h.1 c
          refine z_aload_n (pc' := 62) 0 rfl rfl dX12_workOut_61 rfl ?_
          refine z_getR (t := 3) (pc' := 65) g_X12_16 (by decide) rfl rfl dX12_workOut_62 rfl ?_
          refine z_iload (pc' := 67) 4 rfl dX12_workOut_65 rfl ?_
          refine z_iald2 (v := w 3 l5.toNat) (pc' := 68) (by decide) rfl r3 (by decide) rfl dX12_workOut_67 rfl ?_
          refine z_goto 83 dX12_workOut_68 (by decide) ?_
          obtain ⟨r16, h⟩ := h
          refine z_iast2 (w' := z_up w 10 l4.toNat (w 3 l5.toNat)) (pc' := 84) (by decide) rfl r16 (by decide) rfl dX12_workOut_83 rfl ?_
          refine z_iinc (pc' := 87) (ls' := [(0, zR 0), (1, zI l1), (3, zI l3), (4, zI (l4 + 1)), (5, zI l5)]) 3 rfl (by decide) rfl rfl dX12_workOut_84 rfl ?_
          refine z_goto 165 dX12_workOut_87 (by decide) ?_
          refine z_iinc (pc' := 168) (ls' := [(0, zR 0), (1, zI l1), (3, zI l3), (4, zI (l4 + 1)), (5, zI (l5 + 1))]) 4 rfl (by decide) rfl rfl dX12_workOut_165 rfl ?_
          refine z_goto 12 dX12_workOut_168 (by decide) ?_
          exact h
