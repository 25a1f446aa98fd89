set_option maxRecDepth 4000 in
theorem v_M_readMinistry {d : Nat} {w : z_Wd} {Q : Option z_V → z_Wd → Prop} (h : z_Wp m_X12_readMinistry (d + 5) 29 [(0, zR 0), (1, zI 0), (2, zI 0)] [] (z_up (z_up (z_up (z_up (z_up w 0 3 0) 0 4 (-1)) 0 21 0) 0 22 0) 0 23 0) Q) : z_Wc (d + 5) m_X12_readMinistry [zR 0] w Q := by
  refine z_enter rfl (Nat.le_of_ble_eq_true rfl) ?_
  show z_Wp m_X12_readMinistry _ 0 [(0, zR 0)] [] w _
  refine z_aload_n (pc' := 1) 0 rfl rfl dX12_readMinistry_0 rfl ?_
  refine z_iconst (pc' := 2) dX12_readMinistry_1 rfl ?_
  refine z_putI (pc' := 5) p_X12_102 (by decide) rfl rfl rfl rfl dX12_readMinistry_2 rfl ?_
  refine z_aload_n (pc' := 6) 0 rfl rfl dX12_readMinistry_5 rfl ?_
  refine z_iconst (pc' := 7) dX12_readMinistry_6 rfl ?_
  refine z_putI (pc' := 10) p_X12_109 (by decide) rfl rfl rfl rfl dX12_readMinistry_7 rfl ?_
  refine z_aload_n (pc' := 11) 0 rfl rfl dX12_readMinistry_10 rfl ?_
  refine z_iconst (pc' := 12) dX12_readMinistry_11 rfl ?_
  refine z_putI (pc' := 15) p_X12_235 (by decide) rfl rfl rfl rfl dX12_readMinistry_12 rfl ?_
  refine z_aload_n (pc' := 16) 0 rfl rfl dX12_readMinistry_15 rfl ?_
  refine z_iconst (pc' := 17) dX12_readMinistry_16 rfl ?_
  refine z_putI (pc' := 20) p_X12_238 (by decide) rfl rfl rfl rfl dX12_readMinistry_17 rfl ?_
  refine z_aload_n (pc' := 21) 0 rfl rfl dX12_readMinistry_20 rfl ?_
  refine z_iconst (pc' := 22) dX12_readMinistry_21 rfl ?_
  refine z_putI (pc' := 25) p_X12_241 (by decide) rfl rfl rfl rfl dX12_readMinistry_22 rfl ?_
  refine z_iconst (pc' := 26) dX12_readMinistry_25 rfl ?_
  refine z_istore_n (pc' := 27) (ls' := [(0, zR 0), (1, zI 0)]) rfl (by decide) rfl rfl dX12_readMinistry_26 rfl ?_
  refine z_iconst (pc' := 28) dX12_readMinistry_27 rfl ?_
  refine z_istore_n (pc' := 29) (ls' := [(0, zR 0), (1, zI 0), (2, zI 0)]) rfl (by decide) rfl rfl dX12_readMinistry_28 rfl ?_
  exact h
set_option maxRecDepth 4000 in
theorem v_M_readMinistry_29 {d : Nat} {w : z_Wd} {l1 l2 : Int} {Q : Option z_V → z_Wd → Prop} (h : (-2147483648 ≤ l2 ∧ l2 < 2147483648) ∧ ((l2 ≥ 2 → z_Wp m_X12_readMinistry (d + 5) 54 [(0, zR 0), (1, zI l1), (2, zI 1)] [] w Q) ∧ (¬ (l2 ≥ 2) → (P_M_usual w 115 l2) ∧ (0 ≤ l2 ∧ l2 < 2) ∧ (z_Wp m_X12_readMinistry (d + 5) 29 [(0, zR 0), (1, zI l1), (2, zI (l2 + 1))] [] (z_up w 11 l2.toNat (F_M_usual w 115 l2)) Q)))) : z_Wp m_X12_readMinistry (d + 5) 29 [(0, zR 0), (1, zI l1), (2, zI l2)] [] w Q := by
  refine z_iload_n (pc' := 30) 2 rfl rfl dX12_readMinistry_29 rfl ?_
  refine z_iconst (pc' := 31) dX12_readMinistry_30 rfl ?_
  obtain ⟨r1, h⟩ := h
  refine z_icmp_ge 52 dX12_readMinistry_31 (by decide) (pc' := 34) rfl r1 (by decide) (fun c => ?_) (fun c => ?_)
  · have h := h.1 c
    refine z_iconst (pc' := 53) dX12_readMinistry_52 rfl ?_
    refine z_istore_n (pc' := 54) (ls' := [(0, zR 0), (1, zI l1), (2, zI 1)]) rfl (by decide) rfl rfl dX12_readMinistry_53 rfl ?_
    exact h
  · have h := h.2 c
    refine z_aload_n (pc' := 35) 0 rfl rfl dX12_readMinistry_34 rfl ?_
    refine z_getR (t := 11) (pc' := 38) g_X12_40 (by decide) rfl rfl dX12_readMinistry_35 rfl ?_
    refine z_iload_n (pc' := 39) 2 rfl rfl dX12_readMinistry_38 rfl ?_
    refine z_bipush (pc' := 41) (by decide) dX12_readMinistry_39 rfl ?_
    refine z_iload_n (pc' := 42) 2 rfl rfl dX12_readMinistry_41 rfl ?_
    refine z_invS (as := [zI 115, zI l2]) (st := [zI l2, zR 11]) (C := m_X12_usual) (pc' := 45) dX12_readMinistry_42 rfl t_6_215 k_X12_usual rfl rfl (Nat.le_of_ble_eq_true rfl) ?_
    obtain ⟨r2, h⟩ := h
    refine c_M_usual r2 ?_
    show z_Wp m_X12_readMinistry _ 45 [(0, zR 0), (1, zI l1), (2, zI l2)] [zI (F_M_usual w 115 l2), zI l2, zR 11] w _
    obtain ⟨r3, h⟩ := h
    refine z_iast2 (w' := z_up w 11 l2.toNat (F_M_usual w 115 l2)) (pc' := 46) (by decide) rfl r3 (by decide) rfl dX12_readMinistry_45 rfl ?_
    refine z_iinc (pc' := 49) (ls' := [(0, zR 0), (1, zI l1), (2, zI (l2 + 1))]) 2 rfl (by decide) rfl rfl dX12_readMinistry_46 rfl ?_
    refine z_goto 29 dX12_readMinistry_49 (by decide) ?_
    exact h
set_option maxRecDepth 4000 in
theorem v_M_readMinistry_54 {d : Nat} {w : z_Wd} {l1 l2 : Int} {Q : Option z_V → z_Wd → Prop} (h : (-2147483648 ≤ l2 ∧ l2 < 2147483648) ∧ ((l2 = 0 → z_Wp m_X12_readMinistry (d + 5) 209 [(0, zR 0)] [] w Q) ∧ (¬ (l2 = 0) → (-2147483648 ≤ w 0 4 ∧ w 0 4 < 2147483648) ∧ ((w 0 4 = (-1) → (P_M_look w) ∧ (-2147483648 ≤ (F_M_look w).1 ∧ (F_M_look w).1 < 2147483648) ∧ (((F_M_look w).1 = 115 → (-2147483648 ≤ l1 ∧ l1 < 2147483648) ∧ ((l1 = 0 → z_Wp m_X12_readMinistry (d + 5) 132 [(0, zR 0), (1, zI l1), (3, zI ((F_M_look w).1)), (4, zI 1)] [] ((F_M_look w).2) Q) ∧ (¬ (l1 = 0) → ((F_M_look w).1 = 119 → (-2147483648 ≤ ((F_M_look w).2) 0 21 ∧ ((F_M_look w).2) 0 21 < 2147483648) ∧ ((((F_M_look w).2) 0 21 < 4 → z_Wp m_X12_readMinistry (d + 5) 132 [(0, zR 0), (1, zI l1), (3, zI ((F_M_look w).1)), (4, zI 1)] [] ((F_M_look w).2) Q) ∧ (¬ (((F_M_look w).2) 0 21 < 4) → ((F_M_look w).1 = 110 → (-2147483648 ≤ ((F_M_look w).2) 0 22 ∧ ((F_M_look w).2) 0 22 < 2147483648) ∧ ((((F_M_look w).2) 0 22 < 7 → z_Wp m_X12_readMinistry (d + 5) 132 [(0, zR 0), (1, zI l1), (3, zI ((F_M_look w).1)), (4, zI 1)] [] ((F_M_look w).2) Q) ∧ (¬ (((F_M_look w).2) 0 22 < 7) → ((F_M_look w).1 = 102 → (-2147483648 ≤ ((F_M_look w).2) 0 23 ∧ ((F_M_look w).2) 0 23 < 2147483648) ∧ ((((F_M_look w).2) 0 23 ≥ 6 → z_Wp m_X12_readMinistry (d + 5) 132 [(0, zR 0), (1, zI l1), (3, zI ((F_M_look w).1)), (4, zI 0)] [] ((F_M_look w).2) Q) ∧ (¬ (((F_M_look w).2) 0 23 ≥ 6) → z_Wp m_X12_readMinistry (d + 5) 132 [(0, zR 0), (1, zI l1), (3, zI ((F_M_look w).1)), (4, zI 1)] [] ((F_M_look w).2) Q))) ∧ (¬ ((F_M_look w).1 = 102) → z_Wp m_X12_readMinistry (d + 5) 132 [(0, zR 0), (1, zI l1), (3, zI ((F_M_look w).1)), (4, zI 0)] [] ((F_M_look w).2) Q)))) ∧ (¬ ((F_M_look w).1 = 110) → ((F_M_look w).1 = 102 → (-2147483648 ≤ ((F_M_look w).2) 0 23 ∧ ((F_M_look w).2) 0 23 < 2147483648) ∧ ((((F_M_look w).2) 0 23 ≥ 6 → z_Wp m_X12_readMinistry (d + 5) 132 [(0, zR 0), (1, zI l1), (3, zI ((F_M_look w).1)), (4, zI 0)] [] ((F_M_look w).2) Q) ∧ (¬ (((F_M_look w).2) 0 23 ≥ 6) → z_Wp m_X12_readMinistry (d + 5) 132 [(0, zR 0), (1, zI l1), (3, zI ((F_M_look w).1)), (4, zI 1)] [] ((F_M_look w).2) Q))) ∧ (¬ ((F_M_look w).1 = 102) → z_Wp m_X12_readMinistry (d + 5) 132 [(0, zR 0), (1, zI l1), (3, zI ((F_M_look w).1)), (4, zI 0)] [] ((F_M_look w).2) Q))))) ∧ (¬ ((F_M_look w).1 = 119) → ((F_M_look w).1 = 110 → (-2147483648 ≤ ((F_M_look w).2) 0 22 ∧ ((F_M_look w).2) 0 22 < 2147483648) ∧ ((((F_M_look w).2) 0 22 < 7 → z_Wp m_X12_readMinistry (d + 5) 132 [(0, zR 0), (1, zI l1), (3, zI ((F_M_look w).1)), (4, zI 1)] [] ((F_M_look w).2) Q) ∧ (¬ (((F_M_look w).2) 0 22 < 7) → ((F_M_look w).1 = 102 → (-2147483648 ≤ ((F_M_look w).2) 0 23 ∧ ((F_M_look w).2) 0 23 < 2147483648) ∧ ((((F_M_look w).2) 0 23 ≥ 6 → z_Wp m_X12_readMinistry (d + 5) 132 [(0, zR 0), (1, zI l1), (3, zI ((F_M_look w).1)), (4, zI 0)] [] ((F_M_look w).2) Q) ∧ (¬ (((F_M_look w).2) 0 23 ≥ 6) → z_Wp m_X12_readMinistry (d + 5) 132 [(0, zR 0), (1, zI l1), (3, zI ((F_M_look w).1)), (4, zI 1)] [] ((F_M_look w).2) Q))) ∧ (¬ ((F_M_look w).1 = 102) → z_Wp m_X12_readMinistry (d + 5) 132 [(0, zR 0), (1, zI l1), (3, zI ((F_M_look w).1)), (4, zI 0)] [] ((F_M_look w).2) Q)))) ∧ (¬ ((F_M_look w).1 = 110) → ((F_M_look w).1 = 102 → (-2147483648 ≤ ((F_M_look w).2) 0 23 ∧ ((F_M_look w).2) 0 23 < 2147483648) ∧ ((((F_M_look w).2) 0 23 ≥ 6 → z_Wp m_X12_readMinistry (d + 5) 132 [(0, zR 0), (1, zI l1), (3, zI ((F_M_look w).1)), (4, zI 0)] [] ((F_M_look w).2) Q) ∧ (¬ (((F_M_look w).2) 0 23 ≥ 6) → z_Wp m_X12_readMinistry (d + 5) 132 [(0, zR 0), (1, zI l1), (3, zI ((F_M_look w).1)), (4, zI 1)] [] ((F_M_look w).2) Q))) ∧ (¬ ((F_M_look w).1 = 102) → z_Wp m_X12_readMinistry (d + 5) 132 [(0, zR 0), (1, zI l1), (3, zI ((F_M_look w).1)), (4, zI 0)] [] ((F_M_look w).2) Q)))))) ∧ (¬ ((F_M_look w).1 = 115) → ((F_M_look w).1 = 119 → (-2147483648 ≤ ((F_M_look w).2) 0 21 ∧ ((F_M_look w).2) 0 21 < 2147483648) ∧ ((((F_M_look w).2) 0 21 < 4 → z_Wp m_X12_readMinistry (d + 5) 132 [(0, zR 0), (1, zI l1), (3, zI ((F_M_look w).1)), (4, zI 1)] [] ((F_M_look w).2) Q) ∧ (¬ (((F_M_look w).2) 0 21 < 4) → ((F_M_look w).1 = 110 → (-2147483648 ≤ ((F_M_look w).2) 0 22 ∧ ((F_M_look w).2) 0 22 < 2147483648) ∧ ((((F_M_look w).2) 0 22 < 7 → z_Wp m_X12_readMinistry (d + 5) 132 [(0, zR 0), (1, zI l1), (3, zI ((F_M_look w).1)), (4, zI 1)] [] ((F_M_look w).2) Q) ∧ (¬ (((F_M_look w).2) 0 22 < 7) → ((F_M_look w).1 = 102 → (-2147483648 ≤ ((F_M_look w).2) 0 23 ∧ ((F_M_look w).2) 0 23 < 2147483648) ∧ ((((F_M_look w).2) 0 23 ≥ 6 → z_Wp m_X12_readMinistry (d + 5) 132 [(0, zR 0), (1, zI l1), (3, zI ((F_M_look w).1)), (4, zI 0)] [] ((F_M_look w).2) Q) ∧ (¬ (((F_M_look w).2) 0 23 ≥ 6) → z_Wp m_X12_readMinistry (d + 5) 132 [(0, zR 0), (1, zI l1), (3, zI ((F_M_look w).1)), (4, zI 1)] [] ((F_M_look w).2) Q))) ∧ (¬ ((F_M_look w).1 = 102) → z_Wp m_X12_readMinistry (d + 5) 132 [(0, zR 0), (1, zI l1), (3, zI ((F_M_look w).1)), (4, zI 0)] [] ((F_M_look w).2) Q)))) ∧ (¬ ((F_M_look w).1 = 110) → ((F_M_look w).1 = 102 → (-2147483648 ≤ ((F_M_look w).2) 0 23 ∧ ((F_M_look w).2) 0 23 < 2147483648) ∧ ((((F_M_look w).2) 0 23 ≥ 6 → z_Wp m_X12_readMinistry (d + 5) 132 [(0, zR 0), (1, zI l1), (3, zI ((F_M_look w).1)), (4, zI 0)] [] ((F_M_look w).2) Q) ∧ (¬ (((F_M_look w).2) 0 23 ≥ 6) → z_Wp m_X12_readMinistry (d + 5) 132 [(0, zR 0), (1, zI l1), (3, zI ((F_M_look w).1)), (4, zI 1)] [] ((F_M_look w).2) Q))) ∧ (¬ ((F_M_look w).1 = 102) → z_Wp m_X12_readMinistry (d + 5) 132 [(0, zR 0), (1, zI l1), (3, zI ((F_M_look w).1)), (4, zI 0)] [] ((F_M_look w).2) Q))))) ∧ (¬ ((F_M_look w).1 = 119) → ((F_M_look w).1 = 110 → (-2147483648 ≤ ((F_M_look w).2) 0 22 ∧ ((F_M_look w).2) 0 22 < 2147483648) ∧ ((((F_M_look w).2) 0 22 < 7 → z_Wp m_X12_readMinistry (d + 5) 132 [(0, zR 0), (1, zI l1), (3, zI ((F_M_look w).1)), (4, zI 1)] [] ((F_M_look w).2) Q) ∧ (¬ (((F_M_look w).2) 0 22 < 7) → ((F_M_look w).1 = 102 → (-2147483648 ≤ ((F_M_look w).2) 0 23 ∧ ((F_M_look w).2) 0 23 < 2147483648) ∧ ((((F_M_look w).2) 0 23 ≥ 6 → z_Wp m_X12_readMinistry (d + 5) 132 [(0, zR 0), (1, zI l1), (3, zI ((F_M_look w).1)), (4, zI 0)] [] ((F_M_look w).2) Q) ∧ (¬ (((F_M_look w).2) 0 23 ≥ 6) → z_Wp m_X12_readMinistry (d + 5) 132 [(0, zR 0), (1, zI l1), (3, zI ((F_M_look w).1)), (4, zI 1)] [] ((F_M_look w).2) Q))) ∧ (¬ ((F_M_look w).1 = 102) → z_Wp m_X12_readMinistry (d + 5) 132 [(0, zR 0), (1, zI l1), (3, zI ((F_M_look w).1)), (4, zI 0)] [] ((F_M_look w).2) Q)))) ∧ (¬ ((F_M_look w).1 = 110) → ((F_M_look w).1 = 102 → (-2147483648 ≤ ((F_M_look w).2) 0 23 ∧ ((F_M_look w).2) 0 23 < 2147483648) ∧ ((((F_M_look w).2) 0 23 ≥ 6 → z_Wp m_X12_readMinistry (d + 5) 132 [(0, zR 0), (1, zI l1), (3, zI ((F_M_look w).1)), (4, zI 0)] [] ((F_M_look w).2) Q) ∧ (¬ (((F_M_look w).2) 0 23 ≥ 6) → z_Wp m_X12_readMinistry (d + 5) 132 [(0, zR 0), (1, zI l1), (3, zI ((F_M_look w).1)), (4, zI 1)] [] ((F_M_look w).2) Q))) ∧ (¬ ((F_M_look w).1 = 102) → z_Wp m_X12_readMinistry (d + 5) 132 [(0, zR 0), (1, zI l1), (3, zI ((F_M_look w).1)), (4, zI 0)] [] ((F_M_look w).2) Q)))))) ∧ (¬ (w 0 4 = (-1)) → z_Wp m_X12_readMinistry (d + 5) 209 [(0, zR 0)] [] w Q))))) : z_Wp m_X12_readMinistry (d + 5) 54 [(0, zR 0), (1, zI l1), (2, zI l2)] [] w Q := by
  refine z_iload_n (pc' := 55) 2 rfl rfl dX12_readMinistry_54 rfl ?_
  obtain ⟨r1, h⟩ := h
  refine z_if_eq 209 dX12_readMinistry_55 (by decide) (pc' := 58) rfl r1 (fun c => ?_) (fun c => ?_)
  · have h := h.1 c
    exact z_Wp.sub h (z_sub_of [0] rfl)
  · have h := h.2 c
    refine z_aload_n (pc' := 59) 0 rfl rfl dX12_readMinistry_58 rfl ?_
    refine z_getI2 (v := w 0 4) (pc' := 62) g_X12_109 (by decide) rfl rfl rfl dX12_readMinistry_59 rfl ?_
    refine z_iconst (pc' := 63) dX12_readMinistry_62 rfl ?_
    obtain ⟨r2, h⟩ := h
    refine z_icmp_ne 209 dX12_readMinistry_63 (by decide) (pc' := 66) rfl r2 (by decide) (fun c => ?_) (fun c => ?_)
    · have h := h.2 c
      exact z_Wp.sub h (z_sub_of [0] rfl)
    · have h := h.1 c
      refine z_aload_n (pc' := 67) 0 rfl rfl dX12_readMinistry_66 rfl ?_
      refine z_invV (as := []) (st := []) (C := m_X12_look) (fs := [0, 3, 0, 0, 0, 0, 4, 5, 6, 7, 8, 9, 10, 0, 0, 11, 12, 13, 14, 15, 16, 0, 0, 0, 17, 18, 19, 20, 0, 0, 0, 21, 22, 0, 0, 23, 0, 1, 24, 0, 0, 25, 26, 0, 27, 0]) (pc' := 70) dX12_readMinistry_67 rfl t_6_218 k_X12_look rfl (by decide) rfl rfl rfl rfl (Nat.le_of_ble_eq_true rfl) ?_
      obtain ⟨r3, h⟩ := h
      refine c_M_look r3 ?_
      show z_Wp m_X12_readMinistry _ 70 [(0, zR 0), (1, zI l1), (2, zI l2)] [zI ((F_M_look w).1)] ((F_M_look w).2) _
      refine z_istore_n (pc' := 71) (ls' := [(0, zR 0), (1, zI l1), (2, zI l2), (3, zI ((F_M_look w).1))]) rfl (by decide) rfl rfl dX12_readMinistry_70 rfl ?_
      refine z_iload_n (pc' := 72) 3 rfl rfl dX12_readMinistry_71 rfl ?_
      refine z_bipush (pc' := 74) (by decide) dX12_readMinistry_72 rfl ?_
      obtain ⟨r4, h⟩ := h
      refine z_icmp_ne 81 dX12_readMinistry_74 (by decide) (pc' := 77) rfl r4 (by decide) (fun c => ?_) (fun c => ?_)
      · have h := h.2 c
        refine z_iload_n (pc' := 82) 3 rfl rfl dX12_readMinistry_81 rfl ?_
        refine z_bipush (pc' := 84) (by decide) dX12_readMinistry_82 rfl ?_
        refine z_icmp_ne 95 dX12_readMinistry_84 (by decide) (pc' := 87) rfl r4 (by decide) (fun c => ?_) (fun c => ?_)
        · have h := h.2 c
          refine z_iload_n (pc' := 96) 3 rfl rfl dX12_readMinistry_95 rfl ?_
          refine z_bipush (pc' := 98) (by decide) dX12_readMinistry_96 rfl ?_
          refine z_icmp_ne 110 dX12_readMinistry_98 (by decide) (pc' := 101) rfl r4 (by decide) (fun c => ?_) (fun c => ?_)
          · have h := h.2 c
            refine z_iload_n (pc' := 111) 3 rfl rfl dX12_readMinistry_110 rfl ?_
            refine z_bipush (pc' := 113) (by decide) dX12_readMinistry_111 rfl ?_
            refine z_icmp_ne 129 dX12_readMinistry_113 (by decide) (pc' := 116) rfl r4 (by decide) (fun c => ?_) (fun c => ?_)
            · have h := h.2 c
              refine z_iconst (pc' := 130) dX12_readMinistry_129 rfl ?_
              refine z_istore (pc' := 132) (ls' := [(0, zR 0), (1, zI l1), (2, zI l2), (3, zI ((F_M_look w).1)), (4, zI 0)]) (by decide) rfl rfl dX12_readMinistry_130 rfl ?_
              exact z_Wp.sub h (z_sub_of [0, 1, 3, 4] rfl)
            · have h := h.1 c
              refine z_aload_n (pc' := 117) 0 rfl rfl dX12_readMinistry_116 rfl ?_
              refine z_getI2 (v := ((F_M_look w).2) 0 23) (pc' := 120) g_X12_241 (by decide) rfl rfl rfl dX12_readMinistry_117 rfl ?_
              refine z_bipush (pc' := 122) (by decide) dX12_readMinistry_120 rfl ?_
              obtain ⟨r5, h⟩ := h
              refine z_icmp_ge 129 dX12_readMinistry_122 (by decide) (pc' := 125) rfl r5 (by decide) (fun c => ?_) (fun c => ?_)
              · have h := h.1 c
                refine z_iconst (pc' := 130) dX12_readMinistry_129 rfl ?_
                refine z_istore (pc' := 132) (ls' := [(0, zR 0), (1, zI l1), (2, zI l2), (3, zI ((F_M_look w).1)), (4, zI 0)]) (by decide) rfl rfl dX12_readMinistry_130 rfl ?_
                exact z_Wp.sub h (z_sub_of [0, 1, 3, 4] rfl)
              · have h := h.2 c
                refine z_iconst (pc' := 126) dX12_readMinistry_125 rfl ?_
                refine z_goto 130 dX12_readMinistry_126 (by decide) ?_
                refine z_istore (pc' := 132) (ls' := [(0, zR 0), (1, zI l1), (2, zI l2), (3, zI ((F_M_look w).1)), (4, zI 1)]) (by decide) rfl rfl dX12_readMinistry_130 rfl ?_
                exact z_Wp.sub h (z_sub_of [0, 1, 3, 4] rfl)
          · have h := h.1 c
            refine z_aload_n (pc' := 102) 0 rfl rfl dX12_readMinistry_101 rfl ?_
            refine z_getI2 (v := ((F_M_look w).2) 0 22) (pc' := 105) g_X12_238 (by decide) rfl rfl rfl dX12_readMinistry_102 rfl ?_
            refine z_bipush (pc' := 107) (by decide) dX12_readMinistry_105 rfl ?_
            obtain ⟨r6, h⟩ := h
            refine z_icmp_lt 125 dX12_readMinistry_107 (by decide) (pc' := 110) rfl r6 (by decide) (fun c => ?_) (fun c => ?_)
            · have h := h.1 c
              refine z_iconst (pc' := 126) dX12_readMinistry_125 rfl ?_
              refine z_goto 130 dX12_readMinistry_126 (by decide) ?_
              refine z_istore (pc' := 132) (ls' := [(0, zR 0), (1, zI l1), (2, zI l2), (3, zI ((F_M_look w).1)), (4, zI 1)]) (by decide) rfl rfl dX12_readMinistry_130 rfl ?_
              exact z_Wp.sub h (z_sub_of [0, 1, 3, 4] rfl)
            · have h := h.2 c
              refine z_iload_n (pc' := 111) 3 rfl rfl dX12_readMinistry_110 rfl ?_
              refine z_bipush (pc' := 113) (by decide) dX12_readMinistry_111 rfl ?_
              refine z_icmp_ne 129 dX12_readMinistry_113 (by decide) (pc' := 116) rfl r4 (by decide) (fun c => ?_) (fun c => ?_)
              · have h := h.2 c
                refine z_iconst (pc' := 130) dX12_readMinistry_129 rfl ?_
                refine z_istore (pc' := 132) (ls' := [(0, zR 0), (1, zI l1), (2, zI l2), (3, zI ((F_M_look w).1)), (4, zI 0)]) (by decide) rfl rfl dX12_readMinistry_130 rfl ?_
                exact z_Wp.sub h (z_sub_of [0, 1, 3, 4] rfl)
              · have h := h.1 c
                refine z_aload_n (pc' := 117) 0 rfl rfl dX12_readMinistry_116 rfl ?_
                refine z_getI2 (v := ((F_M_look w).2) 0 23) (pc' := 120) g_X12_241 (by decide) rfl rfl rfl dX12_readMinistry_117 rfl ?_
                refine z_bipush (pc' := 122) (by decide) dX12_readMinistry_120 rfl ?_
                obtain ⟨r7, h⟩ := h
                refine z_icmp_ge 129 dX12_readMinistry_122 (by decide) (pc' := 125) rfl r7 (by decide) (fun c => ?_) (fun c => ?_)
                · have h := h.1 c
                  refine z_iconst (pc' := 130) dX12_readMinistry_129 rfl ?_
                  refine z_istore (pc' := 132) (ls' := [(0, zR 0), (1, zI l1), (2, zI l2), (3, zI ((F_M_look w).1)), (4, zI 0)]) (by decide) rfl rfl dX12_readMinistry_130 rfl ?_
                  exact z_Wp.sub h (z_sub_of [0, 1, 3, 4] rfl)
                · have h := h.2 c
                  refine z_iconst (pc' := 126) dX12_readMinistry_125 rfl ?_
                  refine z_goto 130 dX12_readMinistry_126 (by decide) ?_
                  refine z_istore (pc' := 132) (ls' := [(0, zR 0), (1, zI l1), (2, zI l2), (3, zI ((F_M_look w).1)), (4, zI 1)]) (by decide) rfl rfl dX12_readMinistry_130 rfl ?_
                  exact z_Wp.sub h (z_sub_of [0, 1, 3, 4] rfl)
        · have h := h.1 c
          refine z_aload_n (pc' := 88) 0 rfl rfl dX12_readMinistry_87 rfl ?_
          refine z_getI2 (v := ((F_M_look w).2) 0 21) (pc' := 91) g_X12_235 (by decide) rfl rfl rfl dX12_readMinistry_88 rfl ?_
          refine z_iconst (pc' := 92) dX12_readMinistry_91 rfl ?_
          obtain ⟨r8, h⟩ := h
          refine z_icmp_lt 125 dX12_readMinistry_92 (by decide) (pc' := 95) rfl r8 (by decide) (fun c => ?_) (fun c => ?_)
          · have h := h.1 c
            refine z_iconst (pc' := 126) dX12_readMinistry_125 rfl ?_
            refine z_goto 130 dX12_readMinistry_126 (by decide) ?_
            refine z_istore (pc' := 132) (ls' := [(0, zR 0), (1, zI l1), (2, zI l2), (3, zI ((F_M_look w).1)), (4, zI 1)]) (by decide) rfl rfl dX12_readMinistry_130 rfl ?_
            exact z_Wp.sub h (z_sub_of [0, 1, 3, 4] rfl)
          · have h := h.2 c
            refine z_iload_n (pc' := 96) 3 rfl rfl dX12_readMinistry_95 rfl ?_
            refine z_bipush (pc' := 98) (by decide) dX12_readMinistry_96 rfl ?_
            refine z_icmp_ne 110 dX12_readMinistry_98 (by decide) (pc' := 101) rfl r4 (by decide) (fun c => ?_) (fun c => ?_)
            · have h := h.2 c
              refine z_iload_n (pc' := 111) 3 rfl rfl dX12_readMinistry_110 rfl ?_
              refine z_bipush (pc' := 113) (by decide) dX12_readMinistry_111 rfl ?_
              refine z_icmp_ne 129 dX12_readMinistry_113 (by decide) (pc' := 116) rfl r4 (by decide) (fun c => ?_) (fun c => ?_)
              · have h := h.2 c
                refine z_iconst (pc' := 130) dX12_readMinistry_129 rfl ?_
                refine z_istore (pc' := 132) (ls' := [(0, zR 0), (1, zI l1), (2, zI l2), (3, zI ((F_M_look w).1)), (4, zI 0)]) (by decide) rfl rfl dX12_readMinistry_130 rfl ?_
                exact z_Wp.sub h (z_sub_of [0, 1, 3, 4] rfl)
              · have h := h.1 c
                refine z_aload_n (pc' := 117) 0 rfl rfl dX12_readMinistry_116 rfl ?_
                refine z_getI2 (v := ((F_M_look w).2) 0 23) (pc' := 120) g_X12_241 (by decide) rfl rfl rfl dX12_readMinistry_117 rfl ?_
                refine z_bipush (pc' := 122) (by decide) dX12_readMinistry_120 rfl ?_
                obtain ⟨r9, h⟩ := h
                refine z_icmp_ge 129 dX12_readMinistry_122 (by decide) (pc' := 125) rfl r9 (by decide) (fun c => ?_) (fun c => ?_)
                · have h := h.1 c
                  refine z_iconst (pc' := 130) dX12_readMinistry_129 rfl ?_
                  refine z_istore (pc' := 132) (ls' := [(0, zR 0), (1, zI l1), (2, zI l2), (3, zI ((F_M_look w).1)), (4, zI 0)]) (by decide) rfl rfl dX12_readMinistry_130 rfl ?_
                  exact z_Wp.sub h (z_sub_of [0, 1, 3, 4] rfl)
                · have h := h.2 c
                  refine z_iconst (pc' := 126) dX12_readMinistry_125 rfl ?_
                  refine z_goto 130 dX12_readMinistry_126 (by decide) ?_
                  refine z_istore (pc' := 132) (ls' := [(0, zR 0), (1, zI l1), (2, zI l2), (3, zI ((F_M_look w).1)), (4, zI 1)]) (by decide) rfl rfl dX12_readMinistry_130 rfl ?_
                  exact z_Wp.sub h (z_sub_of [0, 1, 3, 4] rfl)
            · have h := h.1 c
              refine z_aload_n (pc' := 102) 0 rfl rfl dX12_readMinistry_101 rfl ?_
              refine z_getI2 (v := ((F_M_look w).2) 0 22) (pc' := 105) g_X12_238 (by decide) rfl rfl rfl dX12_readMinistry_102 rfl ?_
              refine z_bipush (pc' := 107) (by decide) dX12_readMinistry_105 rfl ?_
              obtain ⟨r10, h⟩ := h
              refine z_icmp_lt 125 dX12_readMinistry_107 (by decide) (pc' := 110) rfl r10 (by decide) (fun c => ?_) (fun c => ?_)
              · have h := h.1 c
                refine z_iconst (pc' := 126) dX12_readMinistry_125 rfl ?_
                refine z_goto 130 dX12_readMinistry_126 (by decide) ?_
                refine z_istore (pc' := 132) (ls' := [(0, zR 0), (1, zI l1), (2, zI l2), (3, zI ((F_M_look w).1)), (4, zI 1)]) (by decide) rfl rfl dX12_readMinistry_130 rfl ?_
                exact z_Wp.sub h (z_sub_of [0, 1, 3, 4] rfl)
              · have h := h.2 c
                refine z_iload_n (pc' := 111) 3 rfl rfl dX12_readMinistry_110 rfl ?_
                refine z_bipush (pc' := 113) (by decide) dX12_readMinistry_111 rfl ?_
                refine z_icmp_ne 129 dX12_readMinistry_113 (by decide) (pc' := 116) rfl r4 (by decide) (fun c => ?_) (fun c => ?_)
                · have h := h.2 c
                  refine z_iconst (pc' := 130) dX12_readMinistry_129 rfl ?_
                  refine z_istore (pc' := 132) (ls' := [(0, zR 0), (1, zI l1), (2, zI l2), (3, zI ((F_M_look w).1)), (4, zI 0)]) (by decide) rfl rfl dX12_readMinistry_130 rfl ?_
                  exact z_Wp.sub h (z_sub_of [0, 1, 3, 4] rfl)
                · have h := h.1 c
                  refine z_aload_n (pc' := 117) 0 rfl rfl dX12_readMinistry_116 rfl ?_
                  refine z_getI2 (v := ((F_M_look w).2) 0 23) (pc' := 120) g_X12_241 (by decide) rfl rfl rfl dX12_readMinistry_117 rfl ?_
                  refine z_bipush (pc' := 122) (by decide) dX12_readMinistry_120 rfl ?_
                  obtain ⟨r11, h⟩ := h
                  refine z_icmp_ge 129 dX12_readMinistry_122 (by decide) (pc' := 125) rfl r11 (by decide) (fun c => ?_) (fun c => ?_)
                  · have h := h.1 c
                    refine z_iconst (pc' := 130) dX12_readMinistry_129 rfl ?_
                    refine z_istore (pc' := 132) (ls' := [(0, zR 0), (1, zI l1), (2, zI l2), (3, zI ((F_M_look w).1)), (4, zI 0)]) (by decide) rfl rfl dX12_readMinistry_130 rfl ?_
                    exact z_Wp.sub h (z_sub_of [0, 1, 3, 4] rfl)
                  · have h := h.2 c
                    refine z_iconst (pc' := 126) dX12_readMinistry_125 rfl ?_
                    refine z_goto 130 dX12_readMinistry_126 (by decide) ?_
                    refine z_istore (pc' := 132) (ls' := [(0, zR 0), (1, zI l1), (2, zI l2), (3, zI ((F_M_look w).1)), (4, zI 1)]) (by decide) rfl rfl dX12_readMinistry_130 rfl ?_
                    exact z_Wp.sub h (z_sub_of [0, 1, 3, 4] rfl)
      · have h := h.1 c
        refine z_iload_n (pc' := 78) 1 rfl rfl dX12_readMinistry_77 rfl ?_
        obtain ⟨r12, h⟩ := h
        refine z_if_eq 125 dX12_readMinistry_78 (by decide) (pc' := 81) rfl r12 (fun c => ?_) (fun c => ?_)
        · have h := h.1 c
          refine z_iconst (pc' := 126) dX12_readMinistry_125 rfl ?_
          refine z_goto 130 dX12_readMinistry_126 (by decide) ?_
          refine z_istore (pc' := 132) (ls' := [(0, zR 0), (1, zI l1), (2, zI l2), (3, zI ((F_M_look w).1)), (4, zI 1)]) (by decide) rfl rfl dX12_readMinistry_130 rfl ?_
          exact z_Wp.sub h (z_sub_of [0, 1, 3, 4] rfl)
        · have h := h.2 c
          refine z_iload_n (pc' := 82) 3 rfl rfl dX12_readMinistry_81 rfl ?_
          refine z_bipush (pc' := 84) (by decide) dX12_readMinistry_82 rfl ?_
          refine z_icmp_ne 95 dX12_readMinistry_84 (by decide) (pc' := 87) rfl r4 (by decide) (fun c => ?_) (fun c => ?_)
          · have h := h.2 c
            refine z_iload_n (pc' := 96) 3 rfl rfl dX12_readMinistry_95 rfl ?_
            refine z_bipush (pc' := 98) (by decide) dX12_readMinistry_96 rfl ?_
            refine z_icmp_ne 110 dX12_readMinistry_98 (by decide) (pc' := 101) rfl r4 (by decide) (fun c => ?_) (fun c => ?_)
            · have h := h.2 c
              refine z_iload_n (pc' := 111) 3 rfl rfl dX12_readMinistry_110 rfl ?_
              refine z_bipush (pc' := 113) (by decide) dX12_readMinistry_111 rfl ?_
              refine z_icmp_ne 129 dX12_readMinistry_113 (by decide) (pc' := 116) rfl r4 (by decide) (fun c => ?_) (fun c => ?_)
              · have h := h.2 c
                refine z_iconst (pc' := 130) dX12_readMinistry_129 rfl ?_
                refine z_istore (pc' := 132) (ls' := [(0, zR 0), (1, zI l1), (2, zI l2), (3, zI ((F_M_look w).1)), (4, zI 0)]) (by decide) rfl rfl dX12_readMinistry_130 rfl ?_
                exact z_Wp.sub h (z_sub_of [0, 1, 3, 4] rfl)
              · have h := h.1 c
                refine z_aload_n (pc' := 117) 0 rfl rfl dX12_readMinistry_116 rfl ?_
                refine z_getI2 (v := ((F_M_look w).2) 0 23) (pc' := 120) g_X12_241 (by decide) rfl rfl rfl dX12_readMinistry_117 rfl ?_
                refine z_bipush (pc' := 122) (by decide) dX12_readMinistry_120 rfl ?_
                obtain ⟨r13, h⟩ := h
                refine z_icmp_ge 129 dX12_readMinistry_122 (by decide) (pc' := 125) rfl r13 (by decide) (fun c => ?_) (fun c => ?_)
                · have h := h.1 c
                  refine z_iconst (pc' := 130) dX12_readMinistry_129 rfl ?_
                  refine z_istore (pc' := 132) (ls' := [(0, zR 0), (1, zI l1), (2, zI l2), (3, zI ((F_M_look w).1)), (4, zI 0)]) (by decide) rfl rfl dX12_readMinistry_130 rfl ?_
                  exact z_Wp.sub h (z_sub_of [0, 1, 3, 4] rfl)
                · have h := h.2 c
                  refine z_iconst (pc' := 126) dX12_readMinistry_125 rfl ?_
                  refine z_goto 130 dX12_readMinistry_126 (by decide) ?_
                  refine z_istore (pc' := 132) (ls' := [(0, zR 0), (1, zI l1), (2, zI l2), (3, zI ((F_M_look w).1)), (4, zI 1)]) (by decide) rfl rfl dX12_readMinistry_130 rfl ?_
                  exact z_Wp.sub h (z_sub_of [0, 1, 3, 4] rfl)
            · have h := h.1 c
              refine z_aload_n (pc' := 102) 0 rfl rfl dX12_readMinistry_101 rfl ?_
              refine z_getI2 (v := ((F_M_look w).2) 0 22) (pc' := 105) g_X12_238 (by decide) rfl rfl rfl dX12_readMinistry_102 rfl ?_
              refine z_bipush (pc' := 107) (by decide) dX12_readMinistry_105 rfl ?_
              obtain ⟨r14, h⟩ := h
              refine z_icmp_lt 125 dX12_readMinistry_107 (by decide) (pc' := 110) rfl r14 (by decide) (fun c => ?_) (fun c => ?_)
              · have h := h.1 c
                refine z_iconst (pc' := 126) dX12_readMinistry_125 rfl ?_
                refine z_goto 130 dX12_readMinistry_126 (by decide) ?_
                refine z_istore (pc' := 132) (ls' := [(0, zR 0), (1, zI l1), (2, zI l2), (3, zI ((F_M_look w).1)), (4, zI 1)]) (by decide) rfl rfl dX12_readMinistry_130 rfl ?_
                exact z_Wp.sub h (z_sub_of [0, 1, 3, 4] rfl)
              · have h := h.2 c
                refine z_iload_n (pc' := 111) 3 rfl rfl dX12_readMinistry_110 rfl ?_
                refine z_bipush (pc' := 113) (by decide) dX12_readMinistry_111 rfl ?_
                refine z_icmp_ne 129 dX12_readMinistry_113 (by decide) (pc' := 116) rfl r4 (by decide) (fun c => ?_) (fun c => ?_)
                · have h := h.2 c
                  refine z_iconst (pc' := 130) dX12_readMinistry_129 rfl ?_
                  refine z_istore (pc' := 132) (ls' := [(0, zR 0), (1, zI l1), (2, zI l2), (3, zI ((F_M_look w).1)), (4, zI 0)]) (by decide) rfl rfl dX12_readMinistry_130 rfl ?_
                  exact z_Wp.sub h (z_sub_of [0, 1, 3, 4] rfl)
                · have h := h.1 c
                  refine z_aload_n (pc' := 117) 0 rfl rfl dX12_readMinistry_116 rfl ?_
                  refine z_getI2 (v := ((F_M_look w).2) 0 23) (pc' := 120) g_X12_241 (by decide) rfl rfl rfl dX12_readMinistry_117 rfl ?_
                  refine z_bipush (pc' := 122) (by decide) dX12_readMinistry_120 rfl ?_
                  obtain ⟨r15, h⟩ := h
                  refine z_icmp_ge 129 dX12_readMinistry_122 (by decide) (pc' := 125) rfl r15 (by decide) (fun c => ?_) (fun c => ?_)
                  · have h := h.1 c
                    refine z_iconst (pc' := 130) dX12_readMinistry_129 rfl ?_
                    refine z_istore (pc' := 132) (ls' := [(0, zR 0), (1, zI l1), (2, zI l2), (3, zI ((F_M_look w).1)), (4, zI 0)]) (by decide) rfl rfl dX12_readMinistry_130 rfl ?_
                    exact z_Wp.sub h (z_sub_of [0, 1, 3, 4] rfl)
                  · have h := h.2 c
                    refine z_iconst (pc' := 126) dX12_readMinistry_125 rfl ?_
                    refine z_goto 130 dX12_readMinistry_126 (by decide) ?_
                    refine z_istore (pc' := 132) (ls' := [(0, zR 0), (1, zI l1), (2, zI l2), (3, zI ((F_M_look w).1)), (4, zI 1)]) (by decide) rfl rfl dX12_readMinistry_130 rfl ?_
                    exact z_Wp.sub h (z_sub_of [0, 1, 3, 4] rfl)
          · have h := h.1 c
            refine z_aload_n (pc' := 88) 0 rfl rfl dX12_readMinistry_87 rfl ?_
            refine z_getI2 (v := ((F_M_look w).2) 0 21) (pc' := 91) g_X12_235 (by decide) rfl rfl rfl dX12_readMinistry_88 rfl ?_
            refine z_iconst (pc' := 92) dX12_readMinistry_91 rfl ?_
            obtain ⟨r16, h⟩ := h
            refine z_icmp_lt 125 dX12_readMinistry_92 (by decide) (pc' := 95) rfl r16 (by decide) (fun c => ?_) (fun c => ?_)
            · have h := h.1 c
              refine z_iconst (pc' := 126) dX12_readMinistry_125 rfl ?_
              refine z_goto 130 dX12_readMinistry_126 (by decide) ?_
              refine z_istore (pc' := 132) (ls' := [(0, zR 0), (1, zI l1), (2, zI l2), (3, zI ((F_M_look w).1)), (4, zI 1)]) (by decide) rfl rfl dX12_readMinistry_130 rfl ?_
              exact z_Wp.sub h (z_sub_of [0, 1, 3, 4] rfl)
            · have h := h.2 c
              refine z_iload_n (pc' := 96) 3 rfl rfl dX12_readMinistry_95 rfl ?_
              refine z_bipush (pc' := 98) (by decide) dX12_readMinistry_96 rfl ?_
              refine z_icmp_ne 110 dX12_readMinistry_98 (by decide) (pc' := 101) rfl r4 (by decide) (fun c => ?_) (fun c => ?_)
              · have h := h.2 c
                refine z_iload_n (pc' := 111) 3 rfl rfl dX12_readMinistry_110 rfl ?_
                refine z_bipush (pc' := 113) (by decide) dX12_readMinistry_111 rfl ?_
                refine z_icmp_ne 129 dX12_readMinistry_113 (by decide) (pc' := 116) rfl r4 (by decide) (fun c => ?_) (fun c => ?_)
                · have h := h.2 c
                  refine z_iconst (pc' := 130) dX12_readMinistry_129 rfl ?_
                  refine z_istore (pc' := 132) (ls' := [(0, zR 0), (1, zI l1), (2, zI l2), (3, zI ((F_M_look w).1)), (4, zI 0)]) (by decide) rfl rfl dX12_readMinistry_130 rfl ?_
                  exact z_Wp.sub h (z_sub_of [0, 1, 3, 4] rfl)
                · have h := h.1 c
                  refine z_aload_n (pc' := 117) 0 rfl rfl dX12_readMinistry_116 rfl ?_
                  refine z_getI2 (v := ((F_M_look w).2) 0 23) (pc' := 120) g_X12_241 (by decide) rfl rfl rfl dX12_readMinistry_117 rfl ?_
                  refine z_bipush (pc' := 122) (by decide) dX12_readMinistry_120 rfl ?_
                  obtain ⟨r17, h⟩ := h
                  refine z_icmp_ge 129 dX12_readMinistry_122 (by decide) (pc' := 125) rfl r17 (by decide) (fun c => ?_) (fun c => ?_)
                  · have h := h.1 c
                    refine z_iconst (pc' := 130) dX12_readMinistry_129 rfl ?_
                    refine z_istore (pc' := 132) (ls' := [(0, zR 0), (1, zI l1), (2, zI l2), (3, zI ((F_M_look w).1)), (4, zI 0)]) (by decide) rfl rfl dX12_readMinistry_130 rfl ?_
                    exact z_Wp.sub h (z_sub_of [0, 1, 3, 4] rfl)
                  · have h := h.2 c
                    refine z_iconst (pc' := 126) dX12_readMinistry_125 rfl ?_
                    refine z_goto 130 dX12_readMinistry_126 (by decide) ?_
                    refine z_istore (pc' := 132) (ls' := [(0, zR 0), (1, zI l1), (2, zI l2), (3, zI ((F_M_look w).1)), (4, zI 1)]) (by decide) rfl rfl dX12_readMinistry_130 rfl ?_
                    exact z_Wp.sub h (z_sub_of [0, 1, 3, 4] rfl)
              · have h := h.1 c
                refine z_aload_n (pc' := 102) 0 rfl rfl dX12_readMinistry_101 rfl ?_
                refine z_getI2 (v := ((F_M_look w).2) 0 22) (pc' := 105) g_X12_238 (by decide) rfl rfl rfl dX12_readMinistry_102 rfl ?_
                refine z_bipush (pc' := 107) (by decide) dX12_readMinistry_105 rfl ?_
                obtain ⟨r18, h⟩ := h
                refine z_icmp_lt 125 dX12_readMinistry_107 (by decide) (pc' := 110) rfl r18 (by decide) (fun c => ?_) (fun c => ?_)
                · have h := h.1 c
                  refine z_iconst (pc' := 126) dX12_readMinistry_125 rfl ?_
                  refine z_goto 130 dX12_readMinistry_126 (by decide) ?_
                  refine z_istore (pc' := 132) (ls' := [(0, zR 0), (1, zI l1), (2, zI l2), (3, zI ((F_M_look w).1)), (4, zI 1)]) (by decide) rfl rfl dX12_readMinistry_130 rfl ?_
                  exact z_Wp.sub h (z_sub_of [0, 1, 3, 4] rfl)
                · have h := h.2 c
                  refine z_iload_n (pc' := 111) 3 rfl rfl dX12_readMinistry_110 rfl ?_
                  refine z_bipush (pc' := 113) (by decide) dX12_readMinistry_111 rfl ?_
                  refine z_icmp_ne 129 dX12_readMinistry_113 (by decide) (pc' := 116) rfl r4 (by decide) (fun c => ?_) (fun c => ?_)
                  · have h := h.2 c
                    refine z_iconst (pc' := 130) dX12_readMinistry_129 rfl ?_
                    refine z_istore (pc' := 132) (ls' := [(0, zR 0), (1, zI l1), (2, zI l2), (3, zI ((F_M_look w).1)), (4, zI 0)]) (by decide) rfl rfl dX12_readMinistry_130 rfl ?_
                    exact z_Wp.sub h (z_sub_of [0, 1, 3, 4] rfl)
                  · have h := h.1 c
                    refine z_aload_n (pc' := 117) 0 rfl rfl dX12_readMinistry_116 rfl ?_
                    refine z_getI2 (v := ((F_M_look w).2) 0 23) (pc' := 120) g_X12_241 (by decide) rfl rfl rfl dX12_readMinistry_117 rfl ?_
                    refine z_bipush (pc' := 122) (by decide) dX12_readMinistry_120 rfl ?_
                    obtain ⟨r19, h⟩ := h
                    refine z_icmp_ge 129 dX12_readMinistry_122 (by decide) (pc' := 125) rfl r19 (by decide) (fun c => ?_) (fun c => ?_)
                    · have h := h.1 c
                      refine z_iconst (pc' := 130) dX12_readMinistry_129 rfl ?_
                      refine z_istore (pc' := 132) (ls' := [(0, zR 0), (1, zI l1), (2, zI l2), (3, zI ((F_M_look w).1)), (4, zI 0)]) (by decide) rfl rfl dX12_readMinistry_130 rfl ?_
                      exact z_Wp.sub h (z_sub_of [0, 1, 3, 4] rfl)
                    · have h := h.2 c
                      refine z_iconst (pc' := 126) dX12_readMinistry_125 rfl ?_
                      refine z_goto 130 dX12_readMinistry_126 (by decide) ?_
                      refine z_istore (pc' := 132) (ls' := [(0, zR 0), (1, zI l1), (2, zI l2), (3, zI ((F_M_look w).1)), (4, zI 1)]) (by decide) rfl rfl dX12_readMinistry_130 rfl ?_
                      exact z_Wp.sub h (z_sub_of [0, 1, 3, 4] rfl)
set_option maxRecDepth 4000 in
theorem v_M_readMinistry_132 {d : Nat} {w : z_Wd} {l1 l3 l4 : Int} {Q : Option z_V → z_Wd → Prop} (h : (-2147483648 ≤ l4 ∧ l4 < 2147483648) ∧ ((l4 = 0 → (P_M_bad w) ∧ (z_Wp m_X12_readMinistry (d + 5) 165 [(0, zR 0), (1, zI l1)] [] (F_M_bad w) Q)) ∧ (¬ (l4 = 0) → (-2147483648 ≤ l1 ∧ l1 < 2147483648) ∧ ((l1 = 0 → (-2147483648 ≤ l3 ∧ l3 < 2147483648) ∧ ((l3 = 115 → z_Wp m_X12_readMinistry (d + 5) 153 [(0, zR 0), (1, zI 1), (3, zI l3)] [] w Q) ∧ (¬ (l3 = 115) → z_Wp m_X12_readMinistry (d + 5) 153 [(0, zR 0), (1, zI 0), (3, zI l3)] [] w Q))) ∧ (¬ (l1 = 0) → z_Wp m_X12_readMinistry (d + 5) 153 [(0, zR 0), (1, zI 1), (3, zI l3)] [] w Q))))) : z_Wp m_X12_readMinistry (d + 5) 132 [(0, zR 0), (1, zI l1), (3, zI l3), (4, zI l4)] [] w Q := by
  refine z_iload (pc' := 134) 3 rfl dX12_readMinistry_132 rfl ?_
  obtain ⟨r1, h⟩ := h
  refine z_if_eq 161 dX12_readMinistry_134 (by decide) (pc' := 137) rfl r1 (fun c => ?_) (fun c => ?_)
  · have h := h.1 c
    refine z_aload_n (pc' := 162) 0 rfl rfl dX12_readMinistry_161 rfl ?_
    refine z_invV (as := []) (st := []) (C := m_X12_bad) (fs := [0, 3, 0, 0, 0, 0, 4, 5, 6, 7, 8, 9, 10, 0, 0, 11, 12, 13, 14, 15, 16, 0, 0, 0, 17, 18, 19, 20, 0, 0, 0, 21, 22, 0, 0, 23, 0, 1, 24, 0, 0, 25, 26, 0, 27, 0]) (pc' := 165) dX12_readMinistry_162 rfl t_7_13 k_X12_bad rfl (by decide) rfl rfl rfl rfl (Nat.le_of_ble_eq_true rfl) ?_
    obtain ⟨r2, h⟩ := h
    refine c_M_bad r2 ?_
    show z_Wp m_X12_readMinistry _ 165 [(0, zR 0), (1, zI l1), (3, zI l3), (4, zI l4)] [] (F_M_bad w) _
    exact z_Wp.sub h (z_sub_of [0, 1] rfl)
  · have h := h.2 c
    refine z_iload_n (pc' := 138) 1 rfl rfl dX12_readMinistry_137 rfl ?_
    obtain ⟨r3, h⟩ := h
    refine z_if_ne 147 dX12_readMinistry_138 (by decide) (pc' := 141) rfl r3 (fun c => ?_) (fun c => ?_)
    · have h := h.2 c
      refine z_iconst (pc' := 148) dX12_readMinistry_147 rfl ?_
      refine z_goto 152 dX12_readMinistry_148 (by decide) ?_
      refine z_istore_n (pc' := 153) (ls' := [(0, zR 0), (1, zI 1), (3, zI l3), (4, zI l4)]) rfl (by decide) rfl rfl dX12_readMinistry_152 rfl ?_
      exact z_Wp.sub h (z_sub_of [0, 1, 2] rfl)
    · have h := h.1 c
      refine z_iload_n (pc' := 142) 2 rfl rfl dX12_readMinistry_141 rfl ?_
      refine z_bipush (pc' := 144) (by decide) dX12_readMinistry_142 rfl ?_
      obtain ⟨r4, h⟩ := h
      refine z_icmp_ne 151 dX12_readMinistry_144 (by decide) (pc' := 147) rfl r4 (by decide) (fun c => ?_) (fun c => ?_)
      · have h := h.2 c
        refine z_iconst (pc' := 152) dX12_readMinistry_151 rfl ?_
        refine z_istore_n (pc' := 153) (ls' := [(0, zR 0), (1, zI 0), (3, zI l3), (4, zI l4)]) rfl (by decide) rfl rfl dX12_readMinistry_152 rfl ?_
        exact z_Wp.sub h (z_sub_of [0, 1, 2] rfl)
      · have h := h.1 c
        refine z_iconst (pc' := 148) dX12_readMinistry_147 rfl ?_
        refine z_goto 152 dX12_readMinistry_148 (by decide) ?_
        refine z_istore_n (pc' := 153) (ls' := [(0, zR 0), (1, zI 1), (3, zI l3), (4, zI l4)]) rfl (by decide) rfl rfl dX12_readMinistry_152 rfl ?_
        exact z_Wp.sub h (z_sub_of [0, 1, 2] rfl)
set_option maxRecDepth 4000 in
theorem v_M_readMinistry_153 {d : Nat} {w : z_Wd} {l1 l3 : Int} {Q : Option z_V → z_Wd → Prop} (h : (P_M_clauseText w l3) ∧ (z_Wp m_X12_readMinistry (d + 5) 165 [(0, zR 0), (1, zI l1)] [] (F_M_clauseText w l3) Q)) : z_Wp m_X12_readMinistry (d + 5) 153 [(0, zR 0), (1, zI l1), (3, zI l3)] [] w Q := by
  refine z_aload_n (pc' := 154) 0 rfl rfl dX12_readMinistry_153 rfl ?_
  refine z_iload_n (pc' := 155) 2 rfl rfl dX12_readMinistry_154 rfl ?_
  refine z_invV (as := [zI l3]) (st := []) (C := m_X12_clauseText) (fs := [0, 3, 0, 0, 0, 0, 4, 5, 6, 7, 8, 9, 10, 0, 0, 11, 12, 13, 14, 15, 16, 0, 0, 0, 17, 18, 19, 20, 0, 0, 0, 21, 22, 0, 0, 23, 0, 1, 24, 0, 0, 25, 26, 0, 27, 0]) (pc' := 158) dX12_readMinistry_155 rfl t_6_226 k_X12_clauseText rfl (by decide) rfl rfl rfl rfl (Nat.le_of_ble_eq_true rfl) ?_
  obtain ⟨r1, h⟩ := h
  refine c_M_clauseText r1 ?_
  show z_Wp m_X12_readMinistry _ 158 [(0, zR 0), (1, zI l1), (3, zI l3)] [] (F_M_clauseText w l3) _
  refine z_goto 165 dX12_readMinistry_158 (by decide) ?_
  exact z_Wp.sub h (z_sub_of [0, 1] rfl)
set_option maxRecDepth 4000 in
theorem v_M_readMinistry_165 {d : Nat} {w : z_Wd} {l1 : Int} {Q : Option z_V → z_Wd → Prop} (h : (-2147483648 ≤ w 0 4 ∧ w 0 4 < 2147483648) ∧ ((w 0 4 = (-1) → (P_M_look w) ∧ (-2147483648 ≤ (F_M_look w).1 ∧ (F_M_look w).1 < 2147483648) ∧ (((F_M_look w).1 = 59 → z_Wp m_X12_readMinistry (d + 5) 54 [(0, zR 0), (1, zI l1), (2, zI 1)] [] (z_up ((F_M_look w).2) 0 3 ((((F_M_look w).2) 0 3) + 1)) Q) ∧ (¬ ((F_M_look w).1 = 59) → z_Wp m_X12_readMinistry (d + 5) 54 [(0, zR 0), (1, zI l1), (2, zI 0)] [] (z_up ((F_M_look w).2) 0 3 (((F_M_look w).2) 0 3)) Q))) ∧ (¬ (w 0 4 = (-1)) → z_Wp m_X12_readMinistry (d + 5) 54 [(0, zR 0), (1, zI l1), (2, zI 0)] [] (z_up w 0 3 (w 0 3)) Q))) : z_Wp m_X12_readMinistry (d + 5) 165 [(0, zR 0), (1, zI l1)] [] w Q := by
  refine z_aload_n (pc' := 166) 0 rfl rfl dX12_readMinistry_165 rfl ?_
  refine z_getI2 (v := w 0 4) (pc' := 169) g_X12_109 (by decide) rfl rfl rfl dX12_readMinistry_166 rfl ?_
  refine z_iconst (pc' := 170) dX12_readMinistry_169 rfl ?_
  obtain ⟨r1, h⟩ := h
  refine z_icmp_ne 186 dX12_readMinistry_170 (by decide) (pc' := 173) rfl r1 (by decide) (fun c => ?_) (fun c => ?_)
  · have h := h.2 c
    refine z_iconst (pc' := 187) dX12_readMinistry_186 rfl ?_
    refine z_istore_n (pc' := 188) (ls' := [(0, zR 0), (1, zI l1), (2, zI 0)]) rfl (by decide) rfl rfl dX12_readMinistry_187 rfl ?_
    refine z_aload_n (pc' := 189) 0 rfl rfl dX12_readMinistry_188 rfl ?_
    refine z_dup (pc' := 190) rfl dX12_readMinistry_189 rfl ?_
    refine z_getI2 (v := w 0 3) (pc' := 193) g_X12_102 (by decide) rfl rfl rfl dX12_readMinistry_190 rfl ?_
    refine z_iload_n (pc' := 194) 2 rfl rfl dX12_readMinistry_193 rfl ?_
    refine z_if_eq 201 dX12_readMinistry_194 (by decide) (pc' := 197) rfl (by decide) (fun _ => ?_) (fun c => absurd c (by decide))
    refine z_iconst (pc' := 202) dX12_readMinistry_201 rfl ?_
    refine z_iadd (pc' := 203) dX12_readMinistry_202 rfl ?_
    refine z_eqI (y := w 0 3) (by omega) ?_
    refine z_putI (pc' := 206) p_X12_102 (by decide) rfl rfl rfl rfl dX12_readMinistry_203 rfl ?_
    refine z_goto 54 dX12_readMinistry_206 (by decide) ?_
    exact h
  · have h := h.1 c
    refine z_aload_n (pc' := 174) 0 rfl rfl dX12_readMinistry_173 rfl ?_
    refine z_invV (as := []) (st := []) (C := m_X12_look) (fs := [0, 3, 0, 0, 0, 0, 4, 5, 6, 7, 8, 9, 10, 0, 0, 11, 12, 13, 14, 15, 16, 0, 0, 0, 17, 18, 19, 20, 0, 0, 0, 21, 22, 0, 0, 23, 0, 1, 24, 0, 0, 25, 26, 0, 27, 0]) (pc' := 177) dX12_readMinistry_174 rfl t_6_218 k_X12_look rfl (by decide) rfl rfl rfl rfl (Nat.le_of_ble_eq_true rfl) ?_
    obtain ⟨r2, h⟩ := h
    refine c_M_look r2 ?_
    show z_Wp m_X12_readMinistry _ 177 [(0, zR 0), (1, zI l1)] [zI ((F_M_look w).1)] ((F_M_look w).2) _
    refine z_bipush (pc' := 179) (by decide) dX12_readMinistry_177 rfl ?_
    obtain ⟨r3, h⟩ := h
    refine z_icmp_ne 186 dX12_readMinistry_179 (by decide) (pc' := 182) rfl r3 (by decide) (fun c => ?_) (fun c => ?_)
    · have h := h.2 c
      refine z_iconst (pc' := 187) dX12_readMinistry_186 rfl ?_
      refine z_istore_n (pc' := 188) (ls' := [(0, zR 0), (1, zI l1), (2, zI 0)]) rfl (by decide) rfl rfl dX12_readMinistry_187 rfl ?_
      refine z_aload_n (pc' := 189) 0 rfl rfl dX12_readMinistry_188 rfl ?_
      refine z_dup (pc' := 190) rfl dX12_readMinistry_189 rfl ?_
      refine z_getI2 (v := ((F_M_look w).2) 0 3) (pc' := 193) g_X12_102 (by decide) rfl rfl rfl dX12_readMinistry_190 rfl ?_
      refine z_iload_n (pc' := 194) 2 rfl rfl dX12_readMinistry_193 rfl ?_
      refine z_if_eq 201 dX12_readMinistry_194 (by decide) (pc' := 197) rfl (by decide) (fun _ => ?_) (fun c => absurd c (by decide))
      refine z_iconst (pc' := 202) dX12_readMinistry_201 rfl ?_
      refine z_iadd (pc' := 203) dX12_readMinistry_202 rfl ?_
      refine z_eqI (y := ((F_M_look w).2) 0 3) (by omega) ?_
      refine z_putI (pc' := 206) p_X12_102 (by decide) rfl rfl rfl rfl dX12_readMinistry_203 rfl ?_
      refine z_goto 54 dX12_readMinistry_206 (by decide) ?_
      exact h
    · have h := h.1 c
      refine z_iconst (pc' := 183) dX12_readMinistry_182 rfl ?_
      refine z_goto 187 dX12_readMinistry_183 (by decide) ?_
      refine z_istore_n (pc' := 188) (ls' := [(0, zR 0), (1, zI l1), (2, zI 1)]) rfl (by decide) rfl rfl dX12_readMinistry_187 rfl ?_
      refine z_aload_n (pc' := 189) 0 rfl rfl dX12_readMinistry_188 rfl ?_
      refine z_dup (pc' := 190) rfl dX12_readMinistry_189 rfl ?_
      refine z_getI2 (v := ((F_M_look w).2) 0 3) (pc' := 193) g_X12_102 (by decide) rfl rfl rfl dX12_readMinistry_190 rfl ?_
      refine z_iload_n (pc' := 194) 2 rfl rfl dX12_readMinistry_193 rfl ?_
      refine z_if_eq 201 dX12_readMinistry_194 (by decide) (pc' := 197) rfl (by decide) (fun c => absurd c (by decide)) (fun _ => ?_)
      refine z_iconst (pc' := 198) dX12_readMinistry_197 rfl ?_
      refine z_goto 202 dX12_readMinistry_198 (by decide) ?_
      refine z_iadd (pc' := 203) dX12_readMinistry_202 rfl ?_
      refine z_putI (pc' := 206) p_X12_102 (by decide) rfl rfl rfl rfl dX12_readMinistry_203 rfl ?_
      refine z_goto 54 dX12_readMinistry_206 (by decide) ?_
      exact h
set_option maxRecDepth 4000 in
theorem v_M_readMinistry_209 {d : Nat} {w : z_Wd} {Q : Option z_V → z_Wd → Prop} (h : (-2147483648 ≤ w 0 4 ∧ w 0 4 < 2147483648) ∧ ((w 0 4 = (-1) → (P_M_look w) ∧ (-2147483648 ≤ (F_M_look w).1 ∧ (F_M_look w).1 < 2147483648) ∧ (((F_M_look w).1 = (-1) → (P_M_isWhole ((F_M_look w).2)) ∧ (-2147483648 ≤ F_M_isWhole ((F_M_look w).2) ∧ F_M_isWhole ((F_M_look w).2) < 2147483648) ∧ ((F_M_isWhole ((F_M_look w).2) = 0 → (P_M_bad ((F_M_look w).2)) ∧ (Q (some (zI ((F_M_bad ((F_M_look w).2)) 0 4))) (F_M_bad ((F_M_look w).2)))) ∧ (¬ (F_M_isWhole ((F_M_look w).2) = 0) → Q (some (zI (((F_M_look w).2) 0 4))) ((F_M_look w).2)))) ∧ (¬ ((F_M_look w).1 = (-1)) → (P_M_bad ((F_M_look w).2)) ∧ (Q (some (zI ((F_M_bad ((F_M_look w).2)) 0 4))) (F_M_bad ((F_M_look w).2)))))) ∧ (¬ (w 0 4 = (-1)) → Q (some (zI (w 0 4))) w))) : z_Wp m_X12_readMinistry (d + 5) 209 [(0, zR 0)] [] w Q := by
  refine z_aload_n (pc' := 210) 0 rfl rfl dX12_readMinistry_209 rfl ?_
  refine z_getI2 (v := w 0 4) (pc' := 213) g_X12_109 (by decide) rfl rfl rfl dX12_readMinistry_210 rfl ?_
  refine z_iconst (pc' := 214) dX12_readMinistry_213 rfl ?_
  obtain ⟨r1, h⟩ := h
  refine z_icmp_ne 236 dX12_readMinistry_214 (by decide) (pc' := 217) rfl r1 (by decide) (fun c => ?_) (fun c => ?_)
  · have h := h.2 c
    refine z_aload_n (pc' := 237) 0 rfl rfl dX12_readMinistry_236 rfl ?_
    refine z_getI2 (v := w 0 4) (pc' := 240) g_X12_109 (by decide) rfl rfl rfl dX12_readMinistry_237 rfl ?_
    refine z_iret rfl dX12_readMinistry_240 ?_
    exact h
  · have h := h.1 c
    refine z_aload_n (pc' := 218) 0 rfl rfl dX12_readMinistry_217 rfl ?_
    refine z_invV (as := []) (st := []) (C := m_X12_look) (fs := [0, 3, 0, 0, 0, 0, 4, 5, 6, 7, 8, 9, 10, 0, 0, 11, 12, 13, 14, 15, 16, 0, 0, 0, 17, 18, 19, 20, 0, 0, 0, 21, 22, 0, 0, 23, 0, 1, 24, 0, 0, 25, 26, 0, 27, 0]) (pc' := 221) dX12_readMinistry_218 rfl t_6_218 k_X12_look rfl (by decide) rfl rfl rfl rfl (Nat.le_of_ble_eq_true rfl) ?_
    obtain ⟨r2, h⟩ := h
    refine c_M_look r2 ?_
    show z_Wp m_X12_readMinistry _ 221 [(0, zR 0)] [zI ((F_M_look w).1)] ((F_M_look w).2) _
    refine z_iconst (pc' := 222) dX12_readMinistry_221 rfl ?_
    obtain ⟨r3, h⟩ := h
    refine z_icmp_ne 232 dX12_readMinistry_222 (by decide) (pc' := 225) rfl r3 (by decide) (fun c => ?_) (fun c => ?_)
    · have h := h.2 c
      refine z_aload_n (pc' := 233) 0 rfl rfl dX12_readMinistry_232 rfl ?_
      refine z_invV (as := []) (st := []) (C := m_X12_bad) (fs := [0, 3, 0, 0, 0, 0, 4, 5, 6, 7, 8, 9, 10, 0, 0, 11, 12, 13, 14, 15, 16, 0, 0, 0, 17, 18, 19, 20, 0, 0, 0, 21, 22, 0, 0, 23, 0, 1, 24, 0, 0, 25, 26, 0, 27, 0]) (pc' := 236) dX12_readMinistry_233 rfl t_7_13 k_X12_bad rfl (by decide) rfl rfl rfl rfl (Nat.le_of_ble_eq_true rfl) ?_
      obtain ⟨r4, h⟩ := h
      refine c_M_bad r4 ?_
      show z_Wp m_X12_readMinistry _ 236 [(0, zR 0)] [] (F_M_bad ((F_M_look w).2)) _
      refine z_aload_n (pc' := 237) 0 rfl rfl dX12_readMinistry_236 rfl ?_
      refine z_getI2 (v := (F_M_bad ((F_M_look w).2)) 0 4) (pc' := 240) g_X12_109 (by decide) rfl rfl rfl dX12_readMinistry_237 rfl ?_
      refine z_iret rfl dX12_readMinistry_240 ?_
      exact h
    · have h := h.1 c
      refine z_aload_n (pc' := 226) 0 rfl rfl dX12_readMinistry_225 rfl ?_
      refine z_invV (as := []) (st := []) (C := m_X12_isWhole) (fs := [0, 3, 0, 0, 0, 0, 4, 5, 6, 7, 8, 9, 10, 0, 0, 11, 12, 13, 14, 15, 16, 0, 0, 0, 17, 18, 19, 20, 0, 0, 0, 21, 22, 0, 0, 23, 0, 1, 24, 0, 0, 25, 26, 0, 27, 0]) (pc' := 229) dX12_readMinistry_226 rfl t_7_20 k_X12_isWhole rfl (by decide) rfl rfl rfl rfl (Nat.le_of_ble_eq_true rfl) ?_
      obtain ⟨r5, h⟩ := h
      refine c_M_isWhole r5 ?_
      show z_Wp m_X12_readMinistry _ 229 [(0, zR 0)] [zI (F_M_isWhole ((F_M_look w).2))] ((F_M_look w).2) _
      obtain ⟨r6, h⟩ := h
      refine z_if_ne 236 dX12_readMinistry_229 (by decide) (pc' := 232) rfl r6 (fun c => ?_) (fun c => ?_)
      · have h := h.2 c
        refine z_aload_n (pc' := 237) 0 rfl rfl dX12_readMinistry_236 rfl ?_
        refine z_getI2 (v := ((F_M_look w).2) 0 4) (pc' := 240) g_X12_109 (by decide) rfl rfl rfl dX12_readMinistry_237 rfl ?_
        refine z_iret rfl dX12_readMinistry_240 ?_
        exact h
      · have h := h.1 c
        refine z_aload_n (pc' := 233) 0 rfl rfl dX12_readMinistry_232 rfl ?_
        refine z_invV (as := []) (st := []) (C := m_X12_bad) (fs := [0, 3, 0, 0, 0, 0, 4, 5, 6, 7, 8, 9, 10, 0, 0, 11, 12, 13, 14, 15, 16, 0, 0, 0, 17, 18, 19, 20, 0, 0, 0, 21, 22, 0, 0, 23, 0, 1, 24, 0, 0, 25, 26, 0, 27, 0]) (pc' := 236) dX12_readMinistry_233 rfl t_7_13 k_X12_bad rfl (by decide) rfl rfl rfl rfl (Nat.le_of_ble_eq_true rfl) ?_
        obtain ⟨r7, h⟩ := h
        refine c_M_bad r7 ?_
        show z_Wp m_X12_readMinistry _ 236 [(0, zR 0)] [] (F_M_bad ((F_M_look w).2)) _
        refine z_aload_n (pc' := 237) 0 rfl rfl dX12_readMinistry_236 rfl ?_
        refine z_getI2 (v := (F_M_bad ((F_M_look w).2)) 0 4) (pc' := 240) g_X12_109 (by decide) rfl rfl rfl dX12_readMinistry_237 rfl ?_
        refine z_iret rfl dX12_readMinistry_240 ?_
        exact h
