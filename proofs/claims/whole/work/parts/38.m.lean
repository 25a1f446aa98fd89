def P_M_fault (w : z_Wd) (a0 : Int) : Prop := (-2147483648 ≤ a0 ∧ a0 < 2147483648) ∧ ((a0 = 0 → P_M_readMinistry w) ∧ (¬ (a0 = 0) → (a0 = 1 → P_M_readLaw w 4) ∧ (¬ (a0 = 1) → True)))
def F_M_fault (w : z_Wd) (a0 : Int) : Int × z_Wd := if a0 = 0 then ((F_M_readMinistry w).1, (F_M_readMinistry w).2) else if a0 = 1 then ((F_M_readLaw w 4).1, (F_M_readLaw w 4).2) else ((-2), w)
set_option maxRecDepth 4000 in
theorem c_M_fault {d : Nat} {w : z_Wd} {a0 : Int} {Q : Option z_V → z_Wd → Prop} (h : P_M_fault w a0) (k : Q (some (zI (F_M_fault w a0).1)) (F_M_fault w a0).2) : z_Wc (d + 66) m_X12_fault [zR 0, zI a0] w Q := by
  unfold P_M_fault at h
  unfold F_M_fault at k
  refine z_enter rfl (Nat.le_of_ble_eq_true rfl) ?_
  show z_Wp m_X12_fault _ 0 [(0, zR 0), (1, zI a0)] [] w _
  refine z_iload_n (pc' := 1) 1 rfl rfl dX12_fault_0 rfl ?_
  obtain ⟨r1, h⟩ := h
  refine z_if_ne 11 dX12_fault_1 (by decide) (pc' := 4) rfl r1 (fun c => ?_) (fun c => ?_)
  · have h := h.2 c
    rw [if_neg c] at k
    refine z_iload_n (pc' := 12) 1 rfl rfl dX12_fault_11 rfl ?_
    refine z_iconst (pc' := 13) dX12_fault_12 rfl ?_
    refine z_icmp_ne 24 dX12_fault_13 (by decide) (pc' := 16) rfl r1 (by decide) (fun c => ?_) (fun c => ?_)
    · have h := h.2 c
      rw [if_neg c] at k
      refine z_bipush (pc' := 26) (by decide) dX12_fault_24 rfl ?_
      refine z_iret rfl dX12_fault_26 ?_
      exact k
    · have h := h.1 c
      rw [if_pos c] at k
      refine z_aload_n (pc' := 17) 0 rfl rfl dX12_fault_16 rfl ?_
      refine z_iconst (pc' := 18) dX12_fault_17 rfl ?_
      refine z_invV (as := [zI 4]) (st := []) (C := m_X12_readLaw) (fs := [0, 3, 0, 0, 0, 0, 4, 5, 6, 7, 8, 9, 10, 0, 0, 11, 12, 13, 14, 15, 16, 0, 0, 0, 17, 18, 19, 20, 0, 0, 0, 21, 22, 0, 0, 23, 0, 1, 24, 0, 0, 25, 26, 0, 27, 0]) (pc' := 21) dX12_fault_18 rfl t_7_24 k_X12_readLaw rfl (by decide) rfl rfl rfl rfl (Nat.le_of_ble_eq_true rfl) ?_
      have r2 := h
      refine c_M_readLaw r2 ?_
      show z_Wp m_X12_fault _ 21 [(0, zR 0), (1, zI a0)] [zI ((F_M_readLaw w 4).1)] ((F_M_readLaw w 4).2) _
      refine z_goto 26 dX12_fault_21 (by decide) ?_
      refine z_iret rfl dX12_fault_26 ?_
      exact k
  · have h := h.1 c
    rw [if_pos c] at k
    refine z_aload_n (pc' := 5) 0 rfl rfl dX12_fault_4 rfl ?_
    refine z_invV (as := []) (st := []) (C := m_X12_readMinistry) (fs := [0, 3, 0, 0, 0, 0, 4, 5, 6, 7, 8, 9, 10, 0, 0, 11, 12, 13, 14, 15, 16, 0, 0, 0, 17, 18, 19, 20, 0, 0, 0, 21, 22, 0, 0, 23, 0, 1, 24, 0, 0, 25, 26, 0, 27, 0]) (pc' := 8) dX12_fault_5 rfl t_6_211 k_X12_readMinistry rfl (by decide) rfl rfl rfl rfl (Nat.le_of_ble_eq_true rfl) ?_
    have r3 := h
    refine c_M_readMinistry r3 ?_
    show z_Wp m_X12_fault _ 8 [(0, zR 0), (1, zI a0)] [zI ((F_M_readMinistry w).1)] ((F_M_readMinistry w).2) _
    refine z_goto 26 dX12_fault_8 (by decide) ?_
    refine z_iret rfl dX12_fault_26 ?_
    exact k
def P_M_text (w : z_Wd) (a0 : Int) : Prop := (-2147483648 ≤ a0 ∧ a0 < 2147483648) ∧ ((a0 = 0 → (P_M_readMinistry w) ∧ (-2147483648 ≤ (F_M_readMinistry w).1 ∧ (F_M_readMinistry w).1 < 2147483648) ∧ (((F_M_readMinistry w).1 = (-1) → P_M_takeMinistry (z_up ((F_M_readMinistry w).2) 0 2 0)) ∧ (¬ ((F_M_readMinistry w).1 = (-1)) → (a0 = 1 → (-2147483648 ≤ ((F_M_readMinistry w).2) 0 13 ∧ ((F_M_readMinistry w).2) 0 13 < 2147483648) ∧ ((((F_M_readMinistry w).2) 0 13 ≥ 4 → True) ∧ (¬ (((F_M_readMinistry w).2) 0 13 ≥ 4) → (P_M_readLaw ((F_M_readMinistry w).2) (((F_M_readMinistry w).2) 0 13)) ∧ (-2147483648 ≤ (F_M_readLaw ((F_M_readMinistry w).2) (((F_M_readMinistry w).2) 0 13)).1 ∧ (F_M_readLaw ((F_M_readMinistry w).2) (((F_M_readMinistry w).2) 0 13)).1 < 2147483648)))) ∧ (¬ (a0 = 1) → True)))) ∧ (¬ (a0 = 0) → (a0 = 1 → (-2147483648 ≤ w 0 13 ∧ w 0 13 < 2147483648) ∧ ((w 0 13 ≥ 4 → True) ∧ (¬ (w 0 13 ≥ 4) → (P_M_readLaw w (w 0 13)) ∧ (-2147483648 ≤ (F_M_readLaw w (w 0 13)).1 ∧ (F_M_readLaw w (w 0 13)).1 < 2147483648)))) ∧ (¬ (a0 = 1) → True)))
def F_M_text (w : z_Wd) (a0 : Int) : Int × z_Wd := if a0 = 0 then if (F_M_readMinistry w).1 = (-1) then ((F_M_takeMinistry (z_up ((F_M_readMinistry w).2) 0 2 0)).1, (F_M_takeMinistry (z_up ((F_M_readMinistry w).2) 0 2 0)).2) else if a0 = 1 then if ((F_M_readMinistry w).2) 0 13 ≥ 4 then ((-1), (F_M_readMinistry w).2) else if (F_M_readLaw ((F_M_readMinistry w).2) (((F_M_readMinistry w).2) 0 13)).1 = (-1) then (((((F_M_readLaw ((F_M_readMinistry w).2) (((F_M_readMinistry w).2) 0 13)).2) 0 13) + 1) - 1, z_up (z_up ((F_M_readLaw ((F_M_readMinistry w).2) (((F_M_readMinistry w).2) 0 13)).2) 0 2 0) 0 13 ((((F_M_readLaw ((F_M_readMinistry w).2) (((F_M_readMinistry w).2) 0 13)).2) 0 13) + 1)) else ((-1), (F_M_readLaw ((F_M_readMinistry w).2) (((F_M_readMinistry w).2) 0 13)).2) else ((-1), (F_M_readMinistry w).2) else if a0 = 1 then if w 0 13 ≥ 4 then ((-1), w) else if (F_M_readLaw w (w 0 13)).1 = (-1) then (((((F_M_readLaw w (w 0 13)).2) 0 13) + 1) - 1, z_up (z_up ((F_M_readLaw w (w 0 13)).2) 0 2 0) 0 13 ((((F_M_readLaw w (w 0 13)).2) 0 13) + 1)) else ((-1), (F_M_readLaw w (w 0 13)).2) else ((-1), w)
set_option maxRecDepth 4000 in
theorem c_M_text {d : Nat} {w : z_Wd} {a0 : Int} {Q : Option z_V → z_Wd → Prop} (h : P_M_text w a0) (k : Q (some (zI (F_M_text w a0).1)) (F_M_text w a0).2) : z_Wc (d + 66) m_X12_text [zR 0, zI a0] w Q := by
  unfold P_M_text at h
  unfold F_M_text at k
  refine z_enter rfl (Nat.le_of_ble_eq_true rfl) ?_
  show z_Wp m_X12_text _ 0 [(0, zR 0), (1, zI a0)] [] w _
  refine z_iload_n (pc' := 1) 1 rfl rfl dX12_text_0 rfl ?_
  obtain ⟨r1, h⟩ := h
  refine z_if_ne 22 dX12_text_1 (by decide) (pc' := 4) rfl r1 (fun c => ?_) (fun c => ?_)
  · have h := h.2 c
    rw [if_neg c] at k
    refine z_iload_n (pc' := 23) 1 rfl rfl dX12_text_22 rfl ?_
    refine z_iconst (pc' := 24) dX12_text_23 rfl ?_
    refine z_icmp_ne 69 dX12_text_24 (by decide) (pc' := 27) rfl r1 (by decide) (fun c => ?_) (fun c => ?_)
    · have h := h.2 c
      rw [if_neg c] at k
      refine z_iconst (pc' := 70) dX12_text_69 rfl ?_
      refine z_iret rfl dX12_text_70 ?_
      exact k
    · have h := h.1 c
      rw [if_pos c] at k
      refine z_aload_n (pc' := 28) 0 rfl rfl dX12_text_27 rfl ?_
      refine z_getI2 (v := w 0 13) (pc' := 31) g_X12_279 (by decide) rfl rfl rfl dX12_text_28 rfl ?_
      refine z_iconst (pc' := 32) dX12_text_31 rfl ?_
      obtain ⟨r2, h⟩ := h
      refine z_icmp_ge 69 dX12_text_32 (by decide) (pc' := 35) rfl r2 (by decide) (fun c => ?_) (fun c => ?_)
      · have h := h.1 c
        rw [if_pos c] at k
        refine z_iconst (pc' := 70) dX12_text_69 rfl ?_
        refine z_iret rfl dX12_text_70 ?_
        exact k
      · have h := h.2 c
        rw [if_neg c] at k
        refine z_aload_n (pc' := 36) 0 rfl rfl dX12_text_35 rfl ?_
        refine z_aload_n (pc' := 37) 0 rfl rfl dX12_text_36 rfl ?_
        refine z_getI2 (v := w 0 13) (pc' := 40) g_X12_279 (by decide) rfl rfl rfl dX12_text_37 rfl ?_
        refine z_invV (as := [zI (w 0 13)]) (st := []) (C := m_X12_readLaw) (fs := [0, 3, 0, 0, 0, 0, 4, 5, 6, 7, 8, 9, 10, 0, 0, 11, 12, 13, 14, 15, 16, 0, 0, 0, 17, 18, 19, 20, 0, 0, 0, 21, 22, 0, 0, 23, 0, 1, 24, 0, 0, 25, 26, 0, 27, 0]) (pc' := 43) dX12_text_40 rfl t_7_24 k_X12_readLaw rfl (by decide) rfl rfl rfl rfl (Nat.le_of_ble_eq_true rfl) ?_
        obtain ⟨r3, h⟩ := h
        refine c_M_readLaw r3 ?_
        show z_Wp m_X12_text _ 43 [(0, zR 0), (1, zI a0)] [zI ((F_M_readLaw w (w 0 13)).1)] ((F_M_readLaw w (w 0 13)).2) _
        refine z_iconst (pc' := 44) dX12_text_43 rfl ?_
        have r4 := h
        refine z_icmp_ne 69 dX12_text_44 (by decide) (pc' := 47) rfl r4 (by decide) (fun c => ?_) (fun c => ?_)
        · skip
          rw [if_neg c] at k
          refine z_iconst (pc' := 70) dX12_text_69 rfl ?_
          refine z_iret rfl dX12_text_70 ?_
          exact k
        · skip
          rw [if_pos c] at k
          refine z_aload_n (pc' := 48) 0 rfl rfl dX12_text_47 rfl ?_
          refine z_iconst (pc' := 49) dX12_text_48 rfl ?_
          refine z_putI (pc' := 52) p_X12_99 (by decide) rfl rfl rfl rfl dX12_text_49 rfl ?_
          refine z_aload_n (pc' := 53) 0 rfl rfl dX12_text_52 rfl ?_
          refine z_dup (pc' := 54) rfl dX12_text_53 rfl ?_
          refine z_getI2 (v := ((F_M_readLaw w (w 0 13)).2) 0 13) (pc' := 57) g_X12_279 (by decide) rfl rfl rfl dX12_text_54 rfl ?_
          refine z_iconst (pc' := 58) dX12_text_57 rfl ?_
          refine z_iadd (pc' := 59) dX12_text_58 rfl ?_
          refine z_putI (pc' := 62) p_X12_279 (by decide) rfl rfl rfl rfl dX12_text_59 rfl ?_
          refine z_aload_n (pc' := 63) 0 rfl rfl dX12_text_62 rfl ?_
          refine z_getI2 (v := (((F_M_readLaw w (w 0 13)).2) 0 13) + 1) (pc' := 66) g_X12_279 (by decide) rfl rfl rfl dX12_text_63 rfl ?_
          refine z_iconst (pc' := 67) dX12_text_66 rfl ?_
          refine z_isub (pc' := 68) dX12_text_67 rfl ?_
          refine z_iret rfl dX12_text_68 ?_
          exact k
  · have h := h.1 c
    rw [if_pos c] at k
    refine z_aload_n (pc' := 5) 0 rfl rfl dX12_text_4 rfl ?_
    refine z_invV (as := []) (st := []) (C := m_X12_readMinistry) (fs := [0, 3, 0, 0, 0, 0, 4, 5, 6, 7, 8, 9, 10, 0, 0, 11, 12, 13, 14, 15, 16, 0, 0, 0, 17, 18, 19, 20, 0, 0, 0, 21, 22, 0, 0, 23, 0, 1, 24, 0, 0, 25, 26, 0, 27, 0]) (pc' := 8) dX12_text_5 rfl t_6_211 k_X12_readMinistry rfl (by decide) rfl rfl rfl rfl (Nat.le_of_ble_eq_true rfl) ?_
    obtain ⟨r5, h⟩ := h
    refine c_M_readMinistry r5 ?_
    show z_Wp m_X12_text _ 8 [(0, zR 0), (1, zI a0)] [zI ((F_M_readMinistry w).1)] ((F_M_readMinistry w).2) _
    refine z_iconst (pc' := 9) dX12_text_8 rfl ?_
    obtain ⟨r6, h⟩ := h
    refine z_icmp_ne 22 dX12_text_9 (by decide) (pc' := 12) rfl r6 (by decide) (fun c => ?_) (fun c => ?_)
    · have h := h.2 c
      rw [if_neg c] at k
      refine z_iload_n (pc' := 23) 1 rfl rfl dX12_text_22 rfl ?_
      refine z_iconst (pc' := 24) dX12_text_23 rfl ?_
      refine z_icmp_ne 69 dX12_text_24 (by decide) (pc' := 27) rfl r1 (by decide) (fun c => ?_) (fun c => ?_)
      · have h := h.2 c
        rw [if_neg c] at k
        refine z_iconst (pc' := 70) dX12_text_69 rfl ?_
        refine z_iret rfl dX12_text_70 ?_
        exact k
      · have h := h.1 c
        rw [if_pos c] at k
        refine z_aload_n (pc' := 28) 0 rfl rfl dX12_text_27 rfl ?_
        refine z_getI2 (v := ((F_M_readMinistry w).2) 0 13) (pc' := 31) g_X12_279 (by decide) rfl rfl rfl dX12_text_28 rfl ?_
        refine z_iconst (pc' := 32) dX12_text_31 rfl ?_
        obtain ⟨r7, h⟩ := h
        refine z_icmp_ge 69 dX12_text_32 (by decide) (pc' := 35) rfl r7 (by decide) (fun c => ?_) (fun c => ?_)
        · have h := h.1 c
          rw [if_pos c] at k
          refine z_iconst (pc' := 70) dX12_text_69 rfl ?_
          refine z_iret rfl dX12_text_70 ?_
          exact k
        · have h := h.2 c
          rw [if_neg c] at k
          refine z_aload_n (pc' := 36) 0 rfl rfl dX12_text_35 rfl ?_
          refine z_aload_n (pc' := 37) 0 rfl rfl dX12_text_36 rfl ?_
          refine z_getI2 (v := ((F_M_readMinistry w).2) 0 13) (pc' := 40) g_X12_279 (by decide) rfl rfl rfl dX12_text_37 rfl ?_
          refine z_invV (as := [zI (((F_M_readMinistry w).2) 0 13)]) (st := []) (C := m_X12_readLaw) (fs := [0, 3, 0, 0, 0, 0, 4, 5, 6, 7, 8, 9, 10, 0, 0, 11, 12, 13, 14, 15, 16, 0, 0, 0, 17, 18, 19, 20, 0, 0, 0, 21, 22, 0, 0, 23, 0, 1, 24, 0, 0, 25, 26, 0, 27, 0]) (pc' := 43) dX12_text_40 rfl t_7_24 k_X12_readLaw rfl (by decide) rfl rfl rfl rfl (Nat.le_of_ble_eq_true rfl) ?_
          obtain ⟨r8, h⟩ := h
          refine c_M_readLaw r8 ?_
          show z_Wp m_X12_text _ 43 [(0, zR 0), (1, zI a0)] [zI ((F_M_readLaw ((F_M_readMinistry w).2) (((F_M_readMinistry w).2) 0 13)).1)] ((F_M_readLaw ((F_M_readMinistry w).2) (((F_M_readMinistry w).2) 0 13)).2) _
          refine z_iconst (pc' := 44) dX12_text_43 rfl ?_
          have r9 := h
          refine z_icmp_ne 69 dX12_text_44 (by decide) (pc' := 47) rfl r9 (by decide) (fun c => ?_) (fun c => ?_)
          · skip
            rw [if_neg c] at k
            refine z_iconst (pc' := 70) dX12_text_69 rfl ?_
            refine z_iret rfl dX12_text_70 ?_
            exact k
          · skip
            rw [if_pos c] at k
            refine z_aload_n (pc' := 48) 0 rfl rfl dX12_text_47 rfl ?_
            refine z_iconst (pc' := 49) dX12_text_48 rfl ?_
            refine z_putI (pc' := 52) p_X12_99 (by decide) rfl rfl rfl rfl dX12_text_49 rfl ?_
            refine z_aload_n (pc' := 53) 0 rfl rfl dX12_text_52 rfl ?_
            refine z_dup (pc' := 54) rfl dX12_text_53 rfl ?_
            refine z_getI2 (v := ((F_M_readLaw ((F_M_readMinistry w).2) (((F_M_readMinistry w).2) 0 13)).2) 0 13) (pc' := 57) g_X12_279 (by decide) rfl rfl rfl dX12_text_54 rfl ?_
            refine z_iconst (pc' := 58) dX12_text_57 rfl ?_
            refine z_iadd (pc' := 59) dX12_text_58 rfl ?_
            refine z_putI (pc' := 62) p_X12_279 (by decide) rfl rfl rfl rfl dX12_text_59 rfl ?_
            refine z_aload_n (pc' := 63) 0 rfl rfl dX12_text_62 rfl ?_
            refine z_getI2 (v := (((F_M_readLaw ((F_M_readMinistry w).2) (((F_M_readMinistry w).2) 0 13)).2) 0 13) + 1) (pc' := 66) g_X12_279 (by decide) rfl rfl rfl dX12_text_63 rfl ?_
            refine z_iconst (pc' := 67) dX12_text_66 rfl ?_
            refine z_isub (pc' := 68) dX12_text_67 rfl ?_
            refine z_iret rfl dX12_text_68 ?_
            exact k
    · have h := h.1 c
      rw [if_pos c] at k
      refine z_aload_n (pc' := 13) 0 rfl rfl dX12_text_12 rfl ?_
      refine z_iconst (pc' := 14) dX12_text_13 rfl ?_
      refine z_putI (pc' := 17) p_X12_99 (by decide) rfl rfl rfl rfl dX12_text_14 rfl ?_
      refine z_aload_n (pc' := 18) 0 rfl rfl dX12_text_17 rfl ?_
      refine z_invV (as := []) (st := []) (C := m_X12_takeMinistry) (fs := [0, 3, 0, 0, 0, 0, 4, 5, 6, 7, 8, 9, 10, 0, 0, 11, 12, 13, 14, 15, 16, 0, 0, 0, 17, 18, 19, 20, 0, 0, 0, 21, 22, 0, 0, 23, 0, 1, 24, 0, 0, 25, 26, 0, 27, 0]) (pc' := 21) dX12_text_18 rfl t_7_98 k_X12_takeMinistry rfl (by decide) rfl rfl rfl rfl (Nat.le_of_ble_eq_true rfl) ?_
      have r10 := h
      refine c_M_takeMinistry r10 ?_
      show z_Wp m_X12_text _ 21 [(0, zR 0), (1, zI a0)] [zI ((F_M_takeMinistry (z_up ((F_M_readMinistry w).2) 0 2 0)).1)] ((F_M_takeMinistry (z_up ((F_M_readMinistry w).2) 0 2 0)).2) _
      refine z_iret rfl dX12_text_21 ?_
      exact k
