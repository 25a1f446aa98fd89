def P_M_isFree (w : z_Wd) (a0 : Int) : Prop := (P_M_wellOf w a0) ∧ (-2147483648 ≤ F_M_wellOf w a0 ∧ F_M_wellOf w a0 < 2147483648)
def F_M_isFree (w : z_Wd) (a0 : Int) : Int := if F_M_wellOf w a0 = (-1) then 1 else 0
set_option maxRecDepth 4000 in
theorem c_M_isFree {d : Nat} {w : z_Wd} {a0 : Int} {Q : Option z_V → z_Wd → Prop} (h : P_M_isFree w a0) (k : Q (some (zI (F_M_isFree w a0))) w) : z_Wc (d + 3) m_X12_isFree [zR 0, zI a0] w Q := by
  unfold P_M_isFree at h
  unfold F_M_isFree at k
  refine z_enter rfl (Nat.le_of_ble_eq_true rfl) ?_
  show z_Wp m_X12_isFree _ 0 [(0, zR 0), (1, zI a0)] [] w _
  refine z_aload_n (pc' := 1) 0 rfl rfl dX12_isFree_0 rfl ?_
  refine z_iload_n (pc' := 2) 1 rfl rfl dX12_isFree_1 rfl ?_
  refine z_invV (as := [zI a0]) (st := []) (C := m_X12_wellOf) (fs := [0, 3, 0, 0, 0, 0, 4, 5, 6, 7, 8, 9, 10, 0, 0, 11, 12, 13, 14, 15, 16, 0, 0, 0, 17, 18, 19, 20, 0, 0, 0, 21, 22, 0, 0, 23, 0, 1, 24, 0, 0, 25, 26, 0, 27, 0]) (pc' := 5) dX12_isFree_2 rfl t_7_114 k_X12_wellOf rfl (by decide) rfl rfl rfl rfl (Nat.le_of_ble_eq_true rfl) ?_
  obtain ⟨r1, h⟩ := h
  refine c_M_wellOf r1 ?_
  show z_Wp m_X12_isFree _ 5 [(0, zR 0), (1, zI a0)] [zI (F_M_wellOf w a0)] w _
  refine z_iconst (pc' := 6) dX12_isFree_5 rfl ?_
  have r2 := h
  refine z_icmp_ne 13 dX12_isFree_6 (by decide) (pc' := 9) rfl r2 (by decide) (fun c => ?_) (fun c => ?_)
  · skip
    rw [if_neg c] at k
    refine z_iconst (pc' := 14) dX12_isFree_13 rfl ?_
    refine z_zret rfl (by decide) dX12_isFree_14 ?_
    exact k
  · skip
    rw [if_pos c] at k
    refine z_iconst (pc' := 10) dX12_isFree_9 rfl ?_
    refine z_goto 14 dX12_isFree_10 (by decide) ?_
    refine z_zret rfl (by decide) dX12_isFree_14 ?_
    exact k
theorem b_M_isFree {w : z_Wd} {a0 : Int} : F_M_isFree w a0 = 0 ∨ F_M_isFree w a0 = 1 := by
  unfold F_M_isFree
  (repeat' split) <;> first | exact Or.inl rfl | exact Or.inr rfl
def P_M_aboveOf (w : z_Wd) (a0 : Int) : Prop := (P_M_wellOf w a0) ∧ (-2147483648 ≤ F_M_wellOf w a0 ∧ F_M_wellOf w a0 < 2147483648) ∧ ((F_M_wellOf w a0 = (-1) → True) ∧ (¬ (F_M_wellOf w a0 = (-1)) → (P_M_layerOf w (F_M_wellOf w a0) a0) ∧ (P_M_aboveAt w (F_M_wellOf w a0) (F_M_layerOf w (F_M_wellOf w a0) a0))))
def F_M_aboveOf (w : z_Wd) (a0 : Int) : Int := if F_M_wellOf w a0 = (-1) then 0 else F_M_aboveAt w (F_M_wellOf w a0) (F_M_layerOf w (F_M_wellOf w a0) a0)
set_option maxRecDepth 4000 in
theorem c_M_aboveOf {d : Nat} {w : z_Wd} {a0 : Int} {Q : Option z_V → z_Wd → Prop} (h : P_M_aboveOf w a0) (k : Q (some (zI (F_M_aboveOf w a0))) w) : z_Wc (d + 3) m_X12_aboveOf [zR 0, zI a0] w Q := by
  unfold P_M_aboveOf at h
  unfold F_M_aboveOf at k
  refine z_enter rfl (Nat.le_of_ble_eq_true rfl) ?_
  show z_Wp m_X12_aboveOf _ 0 [(0, zR 0), (1, zI a0)] [] w _
  refine z_aload_n (pc' := 1) 0 rfl rfl dX12_aboveOf_0 rfl ?_
  refine z_iload_n (pc' := 2) 1 rfl rfl dX12_aboveOf_1 rfl ?_
  refine z_invV (as := [zI a0]) (st := []) (C := m_X12_wellOf) (fs := [0, 3, 0, 0, 0, 0, 4, 5, 6, 7, 8, 9, 10, 0, 0, 11, 12, 13, 14, 15, 16, 0, 0, 0, 17, 18, 19, 20, 0, 0, 0, 21, 22, 0, 0, 23, 0, 1, 24, 0, 0, 25, 26, 0, 27, 0]) (pc' := 5) dX12_aboveOf_2 rfl t_7_114 k_X12_wellOf rfl (by decide) rfl rfl rfl rfl (Nat.le_of_ble_eq_true rfl) ?_
  obtain ⟨r1, h⟩ := h
  refine c_M_wellOf r1 ?_
  show z_Wp m_X12_aboveOf _ 5 [(0, zR 0), (1, zI a0)] [zI (F_M_wellOf w a0)] w _
  refine z_istore_n (pc' := 6) (ls' := [(0, zR 0), (1, zI a0), (2, zI (F_M_wellOf w a0))]) rfl (by decide) rfl rfl dX12_aboveOf_5 rfl ?_
  refine z_iload_n (pc' := 7) 2 rfl rfl dX12_aboveOf_6 rfl ?_
  refine z_iconst (pc' := 8) dX12_aboveOf_7 rfl ?_
  obtain ⟨r2, h⟩ := h
  refine z_icmp_ne 15 dX12_aboveOf_8 (by decide) (pc' := 11) rfl r2 (by decide) (fun c => ?_) (fun c => ?_)
  · have h := h.2 c
    rw [if_neg c] at k
    refine z_aload_n (pc' := 16) 0 rfl rfl dX12_aboveOf_15 rfl ?_
    refine z_iload_n (pc' := 17) 2 rfl rfl dX12_aboveOf_16 rfl ?_
    refine z_aload_n (pc' := 18) 0 rfl rfl dX12_aboveOf_17 rfl ?_
    refine z_iload_n (pc' := 19) 2 rfl rfl dX12_aboveOf_18 rfl ?_
    refine z_iload_n (pc' := 20) 1 rfl rfl dX12_aboveOf_19 rfl ?_
    refine z_invV (as := [zI (F_M_wellOf w a0), zI a0]) (st := [zI (F_M_wellOf w a0), zR 0]) (C := m_X12_layerOf) (fs := [0, 3, 0, 0, 0, 0, 4, 5, 6, 7, 8, 9, 10, 0, 0, 11, 12, 13, 14, 15, 16, 0, 0, 0, 17, 18, 19, 20, 0, 0, 0, 21, 22, 0, 0, 23, 0, 1, 24, 0, 0, 25, 26, 0, 27, 0]) (pc' := 23) dX12_aboveOf_20 rfl t_7_118 k_X12_layerOf rfl (by decide) rfl rfl rfl rfl (Nat.le_of_ble_eq_true rfl) ?_
    obtain ⟨r3, h⟩ := h
    refine c_M_layerOf r3 ?_
    show z_Wp m_X12_aboveOf _ 23 [(0, zR 0), (1, zI a0), (2, zI (F_M_wellOf w a0))] [zI (F_M_layerOf w (F_M_wellOf w a0) a0), zI (F_M_wellOf w a0), zR 0] w _
    refine z_invV (as := [zI (F_M_wellOf w a0), zI (F_M_layerOf w (F_M_wellOf w a0) a0)]) (st := []) (C := m_X12_aboveAt) (fs := [0, 3, 0, 0, 0, 0, 4, 5, 6, 7, 8, 9, 10, 0, 0, 11, 12, 13, 14, 15, 16, 0, 0, 0, 17, 18, 19, 20, 0, 0, 0, 21, 22, 0, 0, 23, 0, 1, 24, 0, 0, 25, 26, 0, 27, 0]) (pc' := 26) dX12_aboveOf_23 rfl t_7_130 k_X12_aboveAt rfl (by decide) rfl rfl rfl rfl (Nat.le_of_ble_eq_true rfl) ?_
    have r4 := h
    refine c_M_aboveAt r4 ?_
    show z_Wp m_X12_aboveOf _ 26 [(0, zR 0), (1, zI a0), (2, zI (F_M_wellOf w a0))] [zI (F_M_aboveAt w (F_M_wellOf w a0) (F_M_layerOf w (F_M_wellOf w a0) a0))] w _
    refine z_iret rfl dX12_aboveOf_26 ?_
    exact k
  · have h := h.1 c
    rw [if_pos c] at k
    refine z_iconst (pc' := 12) dX12_aboveOf_11 rfl ?_
    refine z_goto 26 dX12_aboveOf_12 (by decide) ?_
    refine z_iret rfl dX12_aboveOf_26 ?_
    exact k
def P_M_well (w : z_Wd) (a0 : Int) (a1 : Int) : Prop := (P_M_in w a0 0 ((w 0 28) - 1)) ∧ ((F_M_in w a0 0 ((w 0 28) - 1) = 0 → True) ∧ (¬ (F_M_in w a0 0 ((w 0 28) - 1) = 0) → (P_M_in w a1 0 3) ∧ ((F_M_in w a1 0 3 = 0 → True) ∧ (¬ (F_M_in w a1 0 3 = 0) → (-2147483648 ≤ a1 ∧ a1 < 2147483648) ∧ ((a1 = 0 → 0 ≤ 32 + a0 ∧ 32 + a0 < 160) ∧ (¬ a1 = 0 → (a1 = 1 → 0 ≤ (2 * a0) + 1 ∧ (2 * a0) + 1 < 8) ∧ (¬ a1 = 1 → (a1 = 2 → (0 ≤ 32 + a0 ∧ 32 + a0 < 160) ∧ (P_M_dropsIn w a0)) ∧ (¬ a1 = 2 → 0 ≤ a0 ∧ a0 < 160))))))))
def F_M_well (w : z_Wd) (a0 : Int) (a1 : Int) : Int := if F_M_in w a0 0 ((w 0 28) - 1) = 0 then (-1) else if F_M_in w a1 0 3 = 0 then (-1) else if a1 = 0 then w 19 ((32 + a0).toNat) else if a1 = 1 then w 16 (((2 * a0) + 1).toNat) else if a1 = 2 then (w 19 ((32 + a0).toNat)) - (F_M_dropsIn w a0) else w 19 a0.toNat
set_option maxRecDepth 4000 in
theorem c_M_well {d : Nat} {w : z_Wd} {a0 a1 : Int} {Q : Option z_V → z_Wd → Prop} (h : P_M_well w a0 a1) (k : Q (some (zI (F_M_well w a0 a1))) w) : z_Wc (d + 4) m_X12_well [zR 0, zI a0, zI a1] w Q := by
  unfold P_M_well at h
  unfold F_M_well at k
  refine z_enter rfl (Nat.le_of_ble_eq_true rfl) ?_
  show z_Wp m_X12_well _ 0 [(0, zR 0), (1, zI a0), (2, zI a1)] [] w _
  refine z_aload_n (pc' := 1) 0 rfl rfl dX12_well_0 rfl ?_
  refine z_iload_n (pc' := 2) 1 rfl rfl dX12_well_1 rfl ?_
  refine z_invV (as := [zI a0]) (st := []) (C := m_X12_isWell) (fs := [0, 3, 0, 0, 0, 0, 4, 5, 6, 7, 8, 9, 10, 0, 0, 11, 12, 13, 14, 15, 16, 0, 0, 0, 17, 18, 19, 20, 0, 0, 0, 21, 22, 0, 0, 23, 0, 1, 24, 0, 0, 25, 26, 0, 27, 0]) (pc' := 5) dX12_well_2 rfl t_7_191 k_X12_isWell rfl (by decide) rfl rfl rfl rfl (Nat.le_of_ble_eq_true rfl) ?_
  obtain ⟨r1, h⟩ := h
  refine c_M_isWell r1 ?_
  show z_Wp m_X12_well _ 5 [(0, zR 0), (1, zI a0), (2, zI a1)] [zI (F_M_in w a0 0 ((w 0 28) - 1))] w _
  refine z_if_eq 17 dX12_well_5 (by decide) (pc' := 8) rfl (z_rb b_M_in) (fun c => ?_) (fun c => ?_)
  · have h := h.1 c
    rw [if_pos c] at k
    refine z_iconst (pc' := 18) dX12_well_17 rfl ?_
    refine z_iret rfl dX12_well_18 ?_
    exact k
  · have h := h.2 c
    rw [if_neg c] at k
    refine z_iload_n (pc' := 9) 2 rfl rfl dX12_well_8 rfl ?_
    refine z_iconst (pc' := 10) dX12_well_9 rfl ?_
    refine z_iconst (pc' := 11) dX12_well_10 rfl ?_
    refine z_invS (as := [zI a1, zI 0, zI 3]) (st := []) (C := m_X12_in) (pc' := 14) dX12_well_11 rfl t_7_17 k_X12_in rfl rfl (Nat.le_of_ble_eq_true rfl) ?_
    obtain ⟨r2, h⟩ := h
    refine c_M_in r2 ?_
    show z_Wp m_X12_well _ 14 [(0, zR 0), (1, zI a0), (2, zI a1)] [zI (F_M_in w a1 0 3)] w _
    refine z_if_ne 19 dX12_well_14 (by decide) (pc' := 17) rfl (z_rb b_M_in) (fun c => ?_) (fun c => ?_)
    · have h := h.2 c
      rw [if_neg c] at k
      refine z_iload_n (pc' := 20) 2 rfl rfl dX12_well_19 rfl ?_
      obtain ⟨r3, h⟩ := h
      refine z_table dX12_well_20 (by decide) r3 ⟨fun c0 => ⟨48, by decide, ?_⟩, fun c0 => ⟨fun c1 => ⟨58, by decide, ?_⟩, fun c1 => ⟨fun c2 => ⟨69, by decide, ?_⟩, fun c2 => ⟨75, by decide, ?_⟩⟩⟩⟩
      · skip
        have c0 : a1 = 0 := c0
        have h := h.1 c0
        rw [if_pos c0] at k
        refine z_aload_n (pc' := 49) 0 rfl rfl dX12_well_48 rfl ?_
        refine z_getR (t := 19) (pc' := 52) g_X12_64 (by decide) rfl rfl dX12_well_49 rfl ?_
        refine z_bipush (pc' := 54) (by decide) dX12_well_52 rfl ?_
        refine z_iload_n (pc' := 55) 1 rfl rfl dX12_well_54 rfl ?_
        refine z_iadd (pc' := 56) dX12_well_55 rfl ?_
        have r4 := h
        refine z_iald2 (v := w 19 ((32 + a0).toNat)) (pc' := 57) (by decide) rfl r4 (by decide) rfl dX12_well_56 rfl ?_
        refine z_iret rfl dX12_well_57 ?_
        exact k
      · skip
        have c0 : ¬ a1 = 0 := c0
        have h := h.2 c0
        rw [if_neg c0] at k
        have c1 : a1 = 1 := c1
        have h := h.1 c1
        rw [if_pos c1] at k
        refine z_aload_n (pc' := 59) 0 rfl rfl dX12_well_58 rfl ?_
        refine z_getR (t := 16) (pc' := 62) g_X12_55 (by decide) rfl rfl dX12_well_59 rfl ?_
        refine z_iconst (pc' := 63) dX12_well_62 rfl ?_
        refine z_iload_n (pc' := 64) 1 rfl rfl dX12_well_63 rfl ?_
        refine z_imul (pc' := 65) dX12_well_64 rfl ?_
        refine z_iconst (pc' := 66) dX12_well_65 rfl ?_
        refine z_iadd (pc' := 67) dX12_well_66 rfl ?_
        have r5 := h
        refine z_iald2 (v := w 16 (((2 * a0) + 1).toNat)) (pc' := 68) (by decide) rfl r5 (by decide) rfl dX12_well_67 rfl ?_
        refine z_iret rfl dX12_well_68 ?_
        exact k
      · skip
        have c0 : ¬ a1 = 0 := c0
        have h := h.2 c0
        rw [if_neg c0] at k
        have c1 : ¬ a1 = 1 := c1
        have h := h.2 c1
        rw [if_neg c1] at k
        have c2 : a1 = 2 := c2
        have h := h.1 c2
        rw [if_pos c2] at k
        refine z_aload_n (pc' := 70) 0 rfl rfl dX12_well_69 rfl ?_
        refine z_iload_n (pc' := 71) 1 rfl rfl dX12_well_70 rfl ?_
        refine z_invV (as := [zI a0]) (st := []) (C := m_X12_roomOf) (fs := [0, 3, 0, 0, 0, 0, 4, 5, 6, 7, 8, 9, 10, 0, 0, 11, 12, 13, 14, 15, 16, 0, 0, 0, 17, 18, 19, 20, 0, 0, 0, 21, 22, 0, 0, 23, 0, 1, 24, 0, 0, 25, 26, 0, 27, 0]) (pc' := 74) dX12_well_71 rfl t_7_195 k_X12_roomOf rfl (by decide) rfl rfl rfl rfl (Nat.le_of_ble_eq_true rfl) ?_
        have r6 := h
        refine c_M_roomOf r6 ?_
        show z_Wp m_X12_well _ 74 [(0, zR 0), (1, zI a0), (2, zI a1)] [zI ((w 19 ((32 + a0).toNat)) - (F_M_dropsIn w a0))] w _
        refine z_iret rfl dX12_well_74 ?_
        exact k
      · skip
        have c0 : ¬ a1 = 0 := c0
        have h := h.2 c0
        rw [if_neg c0] at k
        have c1 : ¬ a1 = 1 := c1
        have h := h.2 c1
        rw [if_neg c1] at k
        have c2 : ¬ a1 = 2 := c2
        have h := h.2 c2
        rw [if_neg c2] at k
        refine z_aload_n (pc' := 76) 0 rfl rfl dX12_well_75 rfl ?_
        refine z_getR (t := 19) (pc' := 79) g_X12_64 (by decide) rfl rfl dX12_well_76 rfl ?_
        refine z_iconst (pc' := 80) dX12_well_79 rfl ?_
        refine z_iload_n (pc' := 81) 1 rfl rfl dX12_well_80 rfl ?_
        refine z_iadd (pc' := 82) dX12_well_81 rfl ?_
        refine z_eqI (y := a0) (by omega) ?_
        have r7 := h
        refine z_iald2 (v := w 19 a0.toNat) (pc' := 83) (by decide) rfl r7 (by decide) rfl dX12_well_82 rfl ?_
        refine z_iret rfl dX12_well_83 ?_
        exact k
    · have h := h.1 c
      rw [if_pos c] at k
      refine z_iconst (pc' := 18) dX12_well_17 rfl ?_
      refine z_iret rfl dX12_well_18 ?_
      exact k
def P_M_fits (w : z_Wd) (a0 : Int) (a1 : Int) : Prop := ((0 ≤ 32 + a1 ∧ 32 + a1 < 160) ∧ (P_M_dropsIn w a1)) ∧ (0 ≤ (3 * a0) + 0 ∧ (3 * a0) + 0 < 21) ∧ (-2147483648 ≤ (w 19 ((32 + a1).toNat)) - (F_M_dropsIn w a1) ∧ (w 19 ((32 + a1).toNat)) - (F_M_dropsIn w a1) < 2147483648) ∧ (-2147483648 ≤ (w 17 ((3 * a0).toNat)) * (w 15 0) ∧ (w 17 ((3 * a0).toNat)) * (w 15 0) < 2147483648) ∧ (((w 19 ((32 + a1).toNat)) - (F_M_dropsIn w a1) < (w 17 ((3 * a0).toNat)) * (w 15 0) → True) ∧ (¬ ((w 19 ((32 + a1).toNat)) - (F_M_dropsIn w a1) < (w 17 ((3 * a0).toNat)) * (w 15 0)) → (0 ≤ (2 * a1) + 1 ∧ (2 * a1) + 1 < 8) ∧ (0 ≤ (3 * a0) + 2 ∧ (3 * a0) + 2 < 21) ∧ (-2147483648 ≤ w 16 (((2 * a1) + 1).toNat) ∧ w 16 (((2 * a1) + 1).toNat) < 2147483648) ∧ (-2147483648 ≤ w 17 (((3 * a0) + 2).toNat) ∧ w 17 (((3 * a0) + 2).toNat) < 2147483648)))
def F_M_fits (w : z_Wd) (a0 : Int) (a1 : Int) : Int := if (w 19 ((32 + a1).toNat)) - (F_M_dropsIn w a1) < (w 17 ((3 * a0).toNat)) * (w 15 0) then 0 else if w 16 (((2 * a1) + 1).toNat) = w 17 (((3 * a0) + 2).toNat) then 1 else 0
set_option maxRecDepth 4000 in
theorem c_M_fits {d : Nat} {w : z_Wd} {a0 a1 : Int} {Q : Option z_V → z_Wd → Prop} (h : P_M_fits w a0 a1) (k : Q (some (zI (F_M_fits w a0 a1))) w) : z_Wc (d + 4) m_X12_fits [zR 0, zI a0, zI a1] w Q := by
  unfold P_M_fits at h
  unfold F_M_fits at k
  refine z_enter rfl (Nat.le_of_ble_eq_true rfl) ?_
  show z_Wp m_X12_fits _ 0 [(0, zR 0), (1, zI a0), (2, zI a1)] [] w _
  refine z_aload_n (pc' := 1) 0 rfl rfl dX12_fits_0 rfl ?_
  refine z_iload_n (pc' := 2) 2 rfl rfl dX12_fits_1 rfl ?_
  refine z_invV (as := [zI a1]) (st := []) (C := m_X12_roomOf) (fs := [0, 3, 0, 0, 0, 0, 4, 5, 6, 7, 8, 9, 10, 0, 0, 11, 12, 13, 14, 15, 16, 0, 0, 0, 17, 18, 19, 20, 0, 0, 0, 21, 22, 0, 0, 23, 0, 1, 24, 0, 0, 25, 26, 0, 27, 0]) (pc' := 5) dX12_fits_2 rfl t_7_195 k_X12_roomOf rfl (by decide) rfl rfl rfl rfl (Nat.le_of_ble_eq_true rfl) ?_
  obtain ⟨r1, h⟩ := h
  refine c_M_roomOf r1 ?_
  show z_Wp m_X12_fits _ 5 [(0, zR 0), (1, zI a0), (2, zI a1)] [zI ((w 19 ((32 + a1).toNat)) - (F_M_dropsIn w a1))] w _
  refine z_aload_n (pc' := 6) 0 rfl rfl dX12_fits_5 rfl ?_
  refine z_iload_n (pc' := 7) 1 rfl rfl dX12_fits_6 rfl ?_
  refine z_invV (as := [zI a0]) (st := [zI ((w 19 ((32 + a1).toNat)) - (F_M_dropsIn w a1))]) (C := m_X12_dropsOf) (fs := [0, 3, 0, 0, 0, 0, 4, 5, 6, 7, 8, 9, 10, 0, 0, 11, 12, 13, 14, 15, 16, 0, 0, 0, 17, 18, 19, 20, 0, 0, 0, 21, 22, 0, 0, 23, 0, 1, 24, 0, 0, 25, 26, 0, 27, 0]) (pc' := 10) dX12_fits_7 rfl t_7_134 k_X12_dropsOf rfl (by decide) rfl rfl rfl rfl (Nat.le_of_ble_eq_true rfl) ?_
  obtain ⟨r2, h⟩ := h
  refine c_M_dropsOf r2 ?_
  show z_Wp m_X12_fits _ 10 [(0, zR 0), (1, zI a0), (2, zI a1)] [zI ((w 17 ((3 * a0).toNat)) * (w 15 0)), zI ((w 19 ((32 + a1).toNat)) - (F_M_dropsIn w a1))] w _
  obtain ⟨r3, h⟩ := h
  obtain ⟨r4, h⟩ := h
  refine z_icmp_lt 36 dX12_fits_10 (by decide) (pc' := 13) rfl r3 r4 (fun c => ?_) (fun c => ?_)
  · have h := h.1 c
    rw [if_pos c] at k
    refine z_iconst (pc' := 37) dX12_fits_36 rfl ?_
    refine z_zret rfl (by decide) dX12_fits_37 ?_
    exact k
  · have h := h.2 c
    rw [if_neg c] at k
    refine z_aload_n (pc' := 14) 0 rfl rfl dX12_fits_13 rfl ?_
    refine z_getR (t := 16) (pc' := 17) g_X12_55 (by decide) rfl rfl dX12_fits_14 rfl ?_
    refine z_iconst (pc' := 18) dX12_fits_17 rfl ?_
    refine z_iload_n (pc' := 19) 2 rfl rfl dX12_fits_18 rfl ?_
    refine z_imul (pc' := 20) dX12_fits_19 rfl ?_
    refine z_iconst (pc' := 21) dX12_fits_20 rfl ?_
    refine z_iadd (pc' := 22) dX12_fits_21 rfl ?_
    obtain ⟨r5, h⟩ := h
    refine z_iald2 (v := w 16 (((2 * a1) + 1).toNat)) (pc' := 23) (by decide) rfl r5 (by decide) rfl dX12_fits_22 rfl ?_
    refine z_aload_n (pc' := 24) 0 rfl rfl dX12_fits_23 rfl ?_
    refine z_iload_n (pc' := 25) 1 rfl rfl dX12_fits_24 rfl ?_
    refine z_iconst (pc' := 26) dX12_fits_25 rfl ?_
    refine z_invV (as := [zI a0, zI 2]) (st := [zI (w 16 (((2 * a1) + 1).toNat))]) (C := m_X12_of) (fs := [0, 3, 0, 0, 0, 0, 4, 5, 6, 7, 8, 9, 10, 0, 0, 11, 12, 13, 14, 15, 16, 0, 0, 0, 17, 18, 19, 20, 0, 0, 0, 21, 22, 0, 0, 23, 0, 1, 24, 0, 0, 25, 26, 0, 27, 0]) (pc' := 29) dX12_fits_26 rfl t_7_138 k_X12_of rfl (by decide) rfl rfl rfl rfl (Nat.le_of_ble_eq_true rfl) ?_
    obtain ⟨r6, h⟩ := h
    refine c_M_of r6 ?_
    show z_Wp m_X12_fits _ 29 [(0, zR 0), (1, zI a0), (2, zI a1)] [zI (w 17 (((3 * a0) + 2).toNat)), zI (w 16 (((2 * a1) + 1).toNat))] w _
    obtain ⟨r7, h⟩ := h
    have r8 := h
    refine z_icmp_ne 36 dX12_fits_29 (by decide) (pc' := 32) rfl r7 r8 (fun c => ?_) (fun c => ?_)
    · skip
      rw [if_neg c] at k
      refine z_iconst (pc' := 37) dX12_fits_36 rfl ?_
      refine z_zret rfl (by decide) dX12_fits_37 ?_
      exact k
    · skip
      rw [if_pos c] at k
      refine z_iconst (pc' := 33) dX12_fits_32 rfl ?_
      refine z_goto 37 dX12_fits_33 (by decide) ?_
      refine z_zret rfl (by decide) dX12_fits_37 ?_
      exact k
theorem b_M_fits {w : z_Wd} {a0 a1 : Int} : F_M_fits w a0 a1 = 0 ∨ F_M_fits w a0 a1 = 1 := by
  unfold F_M_fits
  (repeat' split) <;> first | exact Or.inl rfl | exact Or.inr rfl
def P_M_scratchNow (w : z_Wd) (a0 : Int) (a1 : Int) : Prop := (P_M_reachedBy w a0 a1) ∧ (-2147483648 ≤ F_M_reachedBy w a0 a1 ∧ F_M_reachedBy w a0 a1 < 2147483648) ∧ ((F_M_reachedBy w a0 a1 = (-1) → True) ∧ (¬ (F_M_reachedBy w a0 a1 = (-1)) → P_M_riseNow w a0 (F_M_reachedBy w a0 a1)))
def F_M_scratchNow (w : z_Wd) (a0 : Int) (a1 : Int) : Int × z_Wd := if F_M_reachedBy w a0 a1 = (-1) then ((-1), w) else ((F_M_riseNow w a0 (F_M_reachedBy w a0 a1)).1, (F_M_riseNow w a0 (F_M_reachedBy w a0 a1)).2)
set_option maxRecDepth 4000 in
theorem c_M_scratchNow {d : Nat} {w : z_Wd} {a0 a1 : Int} {Q : Option z_V → z_Wd → Prop} (h : P_M_scratchNow w a0 a1) (k : Q (some (zI (F_M_scratchNow w a0 a1).1)) (F_M_scratchNow w a0 a1).2) : z_Wc (d + 4) m_X12_scratchNow [zR 0, zI a0, zI a1] w Q := by
  unfold P_M_scratchNow at h
  unfold F_M_scratchNow at k
  refine z_enter rfl (Nat.le_of_ble_eq_true rfl) ?_
  show z_Wp m_X12_scratchNow _ 0 [(0, zR 0), (1, zI a0), (2, zI a1)] [] w _
  refine z_aload_n (pc' := 1) 0 rfl rfl dX12_scratchNow_0 rfl ?_
  refine z_iload_n (pc' := 2) 1 rfl rfl dX12_scratchNow_1 rfl ?_
  refine z_iload_n (pc' := 3) 2 rfl rfl dX12_scratchNow_2 rfl ?_
  refine z_invV (as := [zI a0, zI a1]) (st := []) (C := m_X12_reachedBy) (fs := [0, 3, 0, 0, 0, 0, 4, 5, 6, 7, 8, 9, 10, 0, 0, 11, 12, 13, 14, 15, 16, 0, 0, 0, 17, 18, 19, 20, 0, 0, 0, 21, 22, 0, 0, 23, 0, 1, 24, 0, 0, 25, 26, 0, 27, 0]) (pc' := 6) dX12_scratchNow_3 rfl t_8_7 k_X12_reachedBy rfl (by decide) rfl rfl rfl rfl (Nat.le_of_ble_eq_true rfl) ?_
  obtain ⟨r1, h⟩ := h
  refine c_M_reachedBy r1 ?_
  show z_Wp m_X12_scratchNow _ 6 [(0, zR 0), (1, zI a0), (2, zI a1)] [zI (F_M_reachedBy w a0 a1)] w _
  refine z_istore_n (pc' := 7) (ls' := [(0, zR 0), (1, zI a0), (2, zI a1), (3, zI (F_M_reachedBy w a0 a1))]) rfl (by decide) rfl rfl dX12_scratchNow_6 rfl ?_
  refine z_iload_n (pc' := 8) 3 rfl rfl dX12_scratchNow_7 rfl ?_
  refine z_iconst (pc' := 9) dX12_scratchNow_8 rfl ?_
  obtain ⟨r2, h⟩ := h
  refine z_icmp_ne 16 dX12_scratchNow_9 (by decide) (pc' := 12) rfl r2 (by decide) (fun c => ?_) (fun c => ?_)
  · have h := h.2 c
    rw [if_neg c] at k
    refine z_aload_n (pc' := 17) 0 rfl rfl dX12_scratchNow_16 rfl ?_
    refine z_iload_n (pc' := 18) 1 rfl rfl dX12_scratchNow_17 rfl ?_
    refine z_iload_n (pc' := 19) 3 rfl rfl dX12_scratchNow_18 rfl ?_
    refine z_invV (as := [zI a0, zI (F_M_reachedBy w a0 a1)]) (st := []) (C := m_X12_riseNow) (fs := [0, 3, 0, 0, 0, 0, 4, 5, 6, 7, 8, 9, 10, 0, 0, 11, 12, 13, 14, 15, 16, 0, 0, 0, 17, 18, 19, 20, 0, 0, 0, 21, 22, 0, 0, 23, 0, 1, 24, 0, 0, 25, 26, 0, 27, 0]) (pc' := 22) dX12_scratchNow_19 rfl t_8_11 k_X12_riseNow rfl (by decide) rfl rfl rfl rfl (Nat.le_of_ble_eq_true rfl) ?_
    have r3 := h
    refine c_M_riseNow r3 ?_
    show z_Wp m_X12_scratchNow _ 22 [(0, zR 0), (1, zI a0), (2, zI a1), (3, zI (F_M_reachedBy w a0 a1))] [zI ((F_M_riseNow w a0 (F_M_reachedBy w a0 a1)).1)] ((F_M_riseNow w a0 (F_M_reachedBy w a0 a1)).2) _
    refine z_iret rfl dX12_scratchNow_22 ?_
    exact k
  · have h := h.1 c
    rw [if_pos c] at k
    refine z_iconst (pc' := 13) dX12_scratchNow_12 rfl ?_
    refine z_goto 22 dX12_scratchNow_13 (by decide) ?_
    refine z_iret rfl dX12_scratchNow_22 ?_
    exact k
def P_M_gameOf (w : z_Wd) (a0 : Int) (a1 : Int) (a2 : Int) (a3 : Int) : Prop := (P_J_max_7cf53 w a2 a3) ∧ (P_M_reachedBy w a1 (F_J_max_7cf53 w a2 a3)) ∧ (-2147483648 ≤ F_M_reachedBy w a1 (F_J_max_7cf53 w a2 a3) ∧ F_M_reachedBy w a1 (F_J_max_7cf53 w a2 a3) < 2147483648) ∧ ((F_M_reachedBy w a1 (F_J_max_7cf53 w a2 a3) = (-1) → True) ∧ (¬ (F_M_reachedBy w a1 (F_J_max_7cf53 w a2 a3) = (-1)) → (0 ≤ (4 + (7 * a1)) + (F_M_reachedBy w a1 (F_J_max_7cf53 w a2 a3)) ∧ (4 + (7 * a1)) + (F_M_reachedBy w a1 (F_J_max_7cf53 w a2 a3)) < 160) ∧ (0 ≤ (3 * a0) + 1 ∧ (3 * a0) + 1 < 21) ∧ (-2147483648 ≤ w 19 (((4 + (7 * a1)) + (F_M_reachedBy w a1 (F_J_max_7cf53 w a2 a3))).toNat) ∧ w 19 (((4 + (7 * a1)) + (F_M_reachedBy w a1 (F_J_max_7cf53 w a2 a3))).toNat) < 2147483648) ∧ (-2147483648 ≤ w 17 (((3 * a0) + 1).toNat) ∧ w 17 (((3 * a0) + 1).toNat) < 2147483648)))
def F_M_gameOf (w : z_Wd) (a0 : Int) (a1 : Int) (a2 : Int) (a3 : Int) : Int := if F_M_reachedBy w a1 (F_J_max_7cf53 w a2 a3) = (-1) then 0 - a2 else if w 19 (((4 + (7 * a1)) + (F_M_reachedBy w a1 (F_J_max_7cf53 w a2 a3))).toNat) = w 17 (((3 * a0) + 1).toNat) then 5 - a2 else 0 - a2
set_option maxRecDepth 4000 in
theorem c_M_gameOf {d : Nat} {w : z_Wd} {a0 a1 a2 a3 : Int} {Q : Option z_V → z_Wd → Prop} (h : P_M_gameOf w a0 a1 a2 a3) (k : Q (some (zI (F_M_gameOf w a0 a1 a2 a3))) w) : z_Wc (d + 4) m_X12_gameOf [zR 0, zI a0, zI a1, zI a2, zI a3] w Q := by
  unfold P_M_gameOf at h
  unfold F_M_gameOf at k
  refine z_enter rfl (Nat.le_of_ble_eq_true rfl) ?_
  show z_Wp m_X12_gameOf _ 0 [(0, zR 0), (1, zI a0), (2, zI a1), (3, zI a2), (4, zI a3)] [] w _
  refine z_aload_n (pc' := 1) 0 rfl rfl dX12_gameOf_0 rfl ?_
  refine z_iload_n (pc' := 2) 2 rfl rfl dX12_gameOf_1 rfl ?_
  refine z_iload_n (pc' := 3) 3 rfl rfl dX12_gameOf_2 rfl ?_
  refine z_iload (pc' := 5) 4 rfl dX12_gameOf_3 rfl ?_
  refine z_invS (as := [zI a2, zI a3]) (st := [zI a1, zR 0]) (C := m_J9_max_7cf53) (pc' := 8) dX12_gameOf_5 rfl t_7_186 k_J9_max_7cf53 rfl rfl (Nat.le_of_ble_eq_true rfl) ?_
  obtain ⟨r1, h⟩ := h
  refine c_J_max_7cf53 r1 ?_
  show z_Wp m_X12_gameOf _ 8 [(0, zR 0), (1, zI a0), (2, zI a1), (3, zI a2), (4, zI a3)] [zI (F_J_max_7cf53 w a2 a3), zI a1, zR 0] w _
  refine z_invV (as := [zI a1, zI (F_J_max_7cf53 w a2 a3)]) (st := []) (C := m_X12_reachedBy) (fs := [0, 3, 0, 0, 0, 0, 4, 5, 6, 7, 8, 9, 10, 0, 0, 11, 12, 13, 14, 15, 16, 0, 0, 0, 17, 18, 19, 20, 0, 0, 0, 21, 22, 0, 0, 23, 0, 1, 24, 0, 0, 25, 26, 0, 27, 0]) (pc' := 11) dX12_gameOf_8 rfl t_8_7 k_X12_reachedBy rfl (by decide) rfl rfl rfl rfl (Nat.le_of_ble_eq_true rfl) ?_
  obtain ⟨r2, h⟩ := h
  refine c_M_reachedBy r2 ?_
  show z_Wp m_X12_gameOf _ 11 [(0, zR 0), (1, zI a0), (2, zI a1), (3, zI a2), (4, zI a3)] [zI (F_M_reachedBy w a1 (F_J_max_7cf53 w a2 a3))] w _
  refine z_istore (pc' := 13) (ls' := [(0, zR 0), (1, zI a0), (2, zI a1), (3, zI a2), (4, zI a3), (5, zI (F_M_reachedBy w a1 (F_J_max_7cf53 w a2 a3)))]) (by decide) rfl rfl dX12_gameOf_11 rfl ?_
  refine z_iload (pc' := 15) 5 rfl dX12_gameOf_13 rfl ?_
  refine z_iconst (pc' := 16) dX12_gameOf_15 rfl ?_
  obtain ⟨r3, h⟩ := h
  refine z_icmp_eq 39 dX12_gameOf_16 (by decide) (pc' := 19) rfl r3 (by decide) (fun c => ?_) (fun c => ?_)
  · have h := h.1 c
    rw [if_pos c] at k
    refine z_iconst (pc' := 40) dX12_gameOf_39 rfl ?_
    refine z_istore (pc' := 42) (ls' := [(0, zR 0), (1, zI a0), (2, zI a1), (3, zI a2), (4, zI a3), (5, zI (F_M_reachedBy w a1 (F_J_max_7cf53 w a2 a3))), (6, zI 0)]) (by decide) rfl rfl dX12_gameOf_40 rfl ?_
    refine z_iload (pc' := 44) 6 rfl dX12_gameOf_42 rfl ?_
    refine z_if_eq 51 dX12_gameOf_44 (by decide) (pc' := 47) rfl (by decide) (fun _ => ?_) (fun c => absurd c (by decide))
    refine z_iconst (pc' := 52) dX12_gameOf_51 rfl ?_
    refine z_iload_n (pc' := 53) 3 rfl rfl dX12_gameOf_52 rfl ?_
    refine z_isub (pc' := 54) dX12_gameOf_53 rfl ?_
    refine z_iret rfl dX12_gameOf_54 ?_
    exact k
  · have h := h.2 c
    rw [if_neg c] at k
    refine z_aload_n (pc' := 20) 0 rfl rfl dX12_gameOf_19 rfl ?_
    refine z_iload_n (pc' := 21) 2 rfl rfl dX12_gameOf_20 rfl ?_
    refine z_iload (pc' := 23) 5 rfl dX12_gameOf_21 rfl ?_
    refine z_invV (as := [zI a1, zI (F_M_reachedBy w a1 (F_J_max_7cf53 w a2 a3))]) (st := []) (C := m_X12_lies) (fs := [0, 3, 0, 0, 0, 0, 4, 5, 6, 7, 8, 9, 10, 0, 0, 11, 12, 13, 14, 15, 16, 0, 0, 0, 17, 18, 19, 20, 0, 0, 0, 21, 22, 0, 0, 23, 0, 1, 24, 0, 0, 25, 26, 0, 27, 0]) (pc' := 26) dX12_gameOf_23 rfl t_7_122 k_X12_lies rfl (by decide) rfl rfl rfl rfl (Nat.le_of_ble_eq_true rfl) ?_
    obtain ⟨r4, h⟩ := h
    refine c_M_lies r4 ?_
    show z_Wp m_X12_gameOf _ 26 [(0, zR 0), (1, zI a0), (2, zI a1), (3, zI a2), (4, zI a3), (5, zI (F_M_reachedBy w a1 (F_J_max_7cf53 w a2 a3)))] [zI (w 19 (((4 + (7 * a1)) + (F_M_reachedBy w a1 (F_J_max_7cf53 w a2 a3))).toNat))] w _
    refine z_aload_n (pc' := 27) 0 rfl rfl dX12_gameOf_26 rfl ?_
    refine z_iload_n (pc' := 28) 1 rfl rfl dX12_gameOf_27 rfl ?_
    refine z_iconst (pc' := 29) dX12_gameOf_28 rfl ?_
    refine z_invV (as := [zI a0, zI 1]) (st := [zI (w 19 (((4 + (7 * a1)) + (F_M_reachedBy w a1 (F_J_max_7cf53 w a2 a3))).toNat))]) (C := m_X12_of) (fs := [0, 3, 0, 0, 0, 0, 4, 5, 6, 7, 8, 9, 10, 0, 0, 11, 12, 13, 14, 15, 16, 0, 0, 0, 17, 18, 19, 20, 0, 0, 0, 21, 22, 0, 0, 23, 0, 1, 24, 0, 0, 25, 26, 0, 27, 0]) (pc' := 32) dX12_gameOf_29 rfl t_7_138 k_X12_of rfl (by decide) rfl rfl rfl rfl (Nat.le_of_ble_eq_true rfl) ?_
    obtain ⟨r5, h⟩ := h
    refine c_M_of r5 ?_
    show z_Wp m_X12_gameOf _ 32 [(0, zR 0), (1, zI a0), (2, zI a1), (3, zI a2), (4, zI a3), (5, zI (F_M_reachedBy w a1 (F_J_max_7cf53 w a2 a3)))] [zI (w 17 (((3 * a0) + 1).toNat)), zI (w 19 (((4 + (7 * a1)) + (F_M_reachedBy w a1 (F_J_max_7cf53 w a2 a3))).toNat))] w _
    obtain ⟨r6, h⟩ := h
    have r7 := h
    refine z_icmp_ne 39 dX12_gameOf_32 (by decide) (pc' := 35) rfl r6 r7 (fun c => ?_) (fun c => ?_)
    · skip
      rw [if_neg c] at k
      refine z_iconst (pc' := 40) dX12_gameOf_39 rfl ?_
      refine z_istore (pc' := 42) (ls' := [(0, zR 0), (1, zI a0), (2, zI a1), (3, zI a2), (4, zI a3), (5, zI (F_M_reachedBy w a1 (F_J_max_7cf53 w a2 a3))), (6, zI 0)]) (by decide) rfl rfl dX12_gameOf_40 rfl ?_
      refine z_iload (pc' := 44) 6 rfl dX12_gameOf_42 rfl ?_
      refine z_if_eq 51 dX12_gameOf_44 (by decide) (pc' := 47) rfl (by decide) (fun _ => ?_) (fun c => absurd c (by decide))
      refine z_iconst (pc' := 52) dX12_gameOf_51 rfl ?_
      refine z_iload_n (pc' := 53) 3 rfl rfl dX12_gameOf_52 rfl ?_
      refine z_isub (pc' := 54) dX12_gameOf_53 rfl ?_
      refine z_iret rfl dX12_gameOf_54 ?_
      exact k
    · skip
      rw [if_pos c] at k
      refine z_iconst (pc' := 36) dX12_gameOf_35 rfl ?_
      refine z_goto 40 dX12_gameOf_36 (by decide) ?_
      refine z_istore (pc' := 42) (ls' := [(0, zR 0), (1, zI a0), (2, zI a1), (3, zI a2), (4, zI a3), (5, zI (F_M_reachedBy w a1 (F_J_max_7cf53 w a2 a3))), (6, zI 1)]) (by decide) rfl rfl dX12_gameOf_40 rfl ?_
      refine z_iload (pc' := 44) 6 rfl dX12_gameOf_42 rfl ?_
      refine z_if_eq 51 dX12_gameOf_44 (by decide) (pc' := 47) rfl (by decide) (fun c => absurd c (by decide)) (fun _ => ?_)
      refine z_iconst (pc' := 48) dX12_gameOf_47 rfl ?_
      refine z_goto 52 dX12_gameOf_48 (by decide) ?_
      refine z_iload_n (pc' := 53) 3 rfl rfl dX12_gameOf_52 rfl ?_
      refine z_isub (pc' := 54) dX12_gameOf_53 rfl ?_
      refine z_iret rfl dX12_gameOf_54 ?_
      exact k
def P_M_game (w : z_Wd) (a0 : Int) (a1 : Int) (a2 : Int) (a3 : Int) (a4 : Int) (a5 : Int) : Prop := (P_M_areTwo w a0 a1 a2) ∧ ((F_M_areTwo w a0 a1 a2 = 0 → True) ∧ (¬ (F_M_areTwo w a0 a1 a2 = 0) → (P_M_in w a3 0 9) ∧ ((F_M_in w a3 0 9 = 0 → True) ∧ (¬ (F_M_in w a3 0 9 = 0) → (P_M_in w a4 0 9) ∧ ((F_M_in w a4 0 9 = 0 → True) ∧ (¬ (F_M_in w a4 0 9 = 0) → (P_M_in w a5 0 1) ∧ ((F_M_in w a5 0 1 = 0 → True) ∧ (¬ (F_M_in w a5 0 1 = 0) → (-2147483648 ≤ a5 ∧ a5 < 2147483648) ∧ ((a5 = 0 → P_M_gameOf w a0 a2 a3 a4) ∧ (¬ (a5 = 0) → P_M_gameOf w a1 a2 a4 a3))))))))))
def F_M_game (w : z_Wd) (a0 : Int) (a1 : Int) (a2 : Int) (a3 : Int) (a4 : Int) (a5 : Int) : Int := if F_M_areTwo w a0 a1 a2 = 0 then (-1000000) else if F_M_in w a3 0 9 = 0 then (-1000000) else if F_M_in w a4 0 9 = 0 then (-1000000) else if F_M_in w a5 0 1 = 0 then (-1000000) else if a5 = 0 then F_M_gameOf w a0 a2 a3 a4 else F_M_gameOf w a1 a2 a4 a3
set_option maxRecDepth 4000 in
theorem c_M_game {d : Nat} {w : z_Wd} {a0 a1 a2 a3 a4 a5 : Int} {Q : Option z_V → z_Wd → Prop} (h : P_M_game w a0 a1 a2 a3 a4 a5) (k : Q (some (zI (F_M_game w a0 a1 a2 a3 a4 a5))) w) : z_Wc (d + 5) m_X12_game [zR 0, zI a0, zI a1, zI a2, zI a3, zI a4, zI a5] w Q := by
  unfold P_M_game at h
  unfold F_M_game at k
  refine z_enter rfl (Nat.le_of_ble_eq_true rfl) ?_
  show z_Wp m_X12_game _ 0 [(0, zR 0), (1, zI a0), (2, zI a1), (3, zI a2), (4, zI a3), (5, zI a4), (6, zI a5)] [] w _
  refine z_aload_n (pc' := 1) 0 rfl rfl dX12_game_0 rfl ?_
  refine z_iload_n (pc' := 2) 1 rfl rfl dX12_game_1 rfl ?_
  refine z_iload_n (pc' := 3) 2 rfl rfl dX12_game_2 rfl ?_
  refine z_iload_n (pc' := 4) 3 rfl rfl dX12_game_3 rfl ?_
  refine z_invV (as := [zI a0, zI a1, zI a2]) (st := []) (C := m_X12_areTwo) (fs := [0, 3, 0, 0, 0, 0, 4, 5, 6, 7, 8, 9, 10, 0, 0, 11, 12, 13, 14, 15, 16, 0, 0, 0, 17, 18, 19, 20, 0, 0, 0, 21, 22, 0, 0, 23, 0, 1, 24, 0, 0, 25, 26, 0, 27, 0]) (pc' := 7) dX12_game_4 rfl t_8_142 k_X12_areTwo rfl (by decide) rfl rfl rfl rfl (Nat.le_of_ble_eq_true rfl) ?_
  obtain ⟨r1, h⟩ := h
  refine c_M_areTwo r1 ?_
  show z_Wp m_X12_game _ 7 [(0, zR 0), (1, zI a0), (2, zI a1), (3, zI a2), (4, zI a3), (5, zI a4), (6, zI a5)] [zI (F_M_areTwo w a0 a1 a2)] w _
  refine z_if_eq 42 dX12_game_7 (by decide) (pc' := 10) rfl (z_rb b_M_areTwo) (fun c => ?_) (fun c => ?_)
  · have h := h.1 c
    rw [if_pos c] at k
    refine z_ldcw (n := (-1000000)) (pc' := 45) t_8_146 (by decide) dX12_game_42 rfl ?_
    refine z_iret rfl dX12_game_45 ?_
    exact k
  · have h := h.2 c
    rw [if_neg c] at k
    refine z_iload (pc' := 12) 4 rfl dX12_game_10 rfl ?_
    refine z_iconst (pc' := 13) dX12_game_12 rfl ?_
    refine z_bipush (pc' := 15) (by decide) dX12_game_13 rfl ?_
    refine z_invS (as := [zI a3, zI 0, zI 9]) (st := []) (C := m_X12_in) (pc' := 18) dX12_game_15 rfl t_7_17 k_X12_in rfl rfl (Nat.le_of_ble_eq_true rfl) ?_
    obtain ⟨r2, h⟩ := h
    refine c_M_in r2 ?_
    show z_Wp m_X12_game _ 18 [(0, zR 0), (1, zI a0), (2, zI a1), (3, zI a2), (4, zI a3), (5, zI a4), (6, zI a5)] [zI (F_M_in w a3 0 9)] w _
    refine z_if_eq 42 dX12_game_18 (by decide) (pc' := 21) rfl (z_rb b_M_in) (fun c => ?_) (fun c => ?_)
    · have h := h.1 c
      rw [if_pos c] at k
      refine z_ldcw (n := (-1000000)) (pc' := 45) t_8_146 (by decide) dX12_game_42 rfl ?_
      refine z_iret rfl dX12_game_45 ?_
      exact k
    · have h := h.2 c
      rw [if_neg c] at k
      refine z_iload (pc' := 23) 5 rfl dX12_game_21 rfl ?_
      refine z_iconst (pc' := 24) dX12_game_23 rfl ?_
      refine z_bipush (pc' := 26) (by decide) dX12_game_24 rfl ?_
      refine z_invS (as := [zI a4, zI 0, zI 9]) (st := []) (C := m_X12_in) (pc' := 29) dX12_game_26 rfl t_7_17 k_X12_in rfl rfl (Nat.le_of_ble_eq_true rfl) ?_
      obtain ⟨r3, h⟩ := h
      refine c_M_in r3 ?_
      show z_Wp m_X12_game _ 29 [(0, zR 0), (1, zI a0), (2, zI a1), (3, zI a2), (4, zI a3), (5, zI a4), (6, zI a5)] [zI (F_M_in w a4 0 9)] w _
      refine z_if_eq 42 dX12_game_29 (by decide) (pc' := 32) rfl (z_rb b_M_in) (fun c => ?_) (fun c => ?_)
      · have h := h.1 c
        rw [if_pos c] at k
        refine z_ldcw (n := (-1000000)) (pc' := 45) t_8_146 (by decide) dX12_game_42 rfl ?_
        refine z_iret rfl dX12_game_45 ?_
        exact k
      · have h := h.2 c
        rw [if_neg c] at k
        refine z_iload (pc' := 34) 6 rfl dX12_game_32 rfl ?_
        refine z_iconst (pc' := 35) dX12_game_34 rfl ?_
        refine z_iconst (pc' := 36) dX12_game_35 rfl ?_
        refine z_invS (as := [zI a5, zI 0, zI 1]) (st := []) (C := m_X12_in) (pc' := 39) dX12_game_36 rfl t_7_17 k_X12_in rfl rfl (Nat.le_of_ble_eq_true rfl) ?_
        obtain ⟨r4, h⟩ := h
        refine c_M_in r4 ?_
        show z_Wp m_X12_game _ 39 [(0, zR 0), (1, zI a0), (2, zI a1), (3, zI a2), (4, zI a3), (5, zI a4), (6, zI a5)] [zI (F_M_in w a5 0 1)] w _
        refine z_if_ne 46 dX12_game_39 (by decide) (pc' := 42) rfl (z_rb b_M_in) (fun c => ?_) (fun c => ?_)
        · have h := h.2 c
          rw [if_neg c] at k
          refine z_iload (pc' := 48) 6 rfl dX12_game_46 rfl ?_
          obtain ⟨r5, h⟩ := h
          refine z_if_ne 64 dX12_game_48 (by decide) (pc' := 51) rfl r5 (fun c => ?_) (fun c => ?_)
          · have h := h.2 c
            rw [if_neg c] at k
            refine z_aload_n (pc' := 65) 0 rfl rfl dX12_game_64 rfl ?_
            refine z_iload_n (pc' := 66) 2 rfl rfl dX12_game_65 rfl ?_
            refine z_iload_n (pc' := 67) 3 rfl rfl dX12_game_66 rfl ?_
            refine z_iload (pc' := 69) 5 rfl dX12_game_67 rfl ?_
            refine z_iload (pc' := 71) 4 rfl dX12_game_69 rfl ?_
            refine z_invV (as := [zI a1, zI a2, zI a4, zI a3]) (st := []) (C := m_X12_gameOf) (fs := [0, 3, 0, 0, 0, 0, 4, 5, 6, 7, 8, 9, 10, 0, 0, 11, 12, 13, 14, 15, 16, 0, 0, 0, 17, 18, 19, 20, 0, 0, 0, 21, 22, 0, 0, 23, 0, 1, 24, 0, 0, 25, 26, 0, 27, 0]) (pc' := 74) dX12_game_71 rfl t_8_147 k_X12_gameOf rfl (by decide) rfl rfl rfl rfl (Nat.le_of_ble_eq_true rfl) ?_
            have r6 := h
            refine c_M_gameOf r6 ?_
            show z_Wp m_X12_game _ 74 [(0, zR 0), (1, zI a0), (2, zI a1), (3, zI a2), (4, zI a3), (5, zI a4), (6, zI a5)] [zI (F_M_gameOf w a1 a2 a4 a3)] w _
            refine z_iret rfl dX12_game_74 ?_
            exact k
          · have h := h.1 c
            rw [if_pos c] at k
            refine z_aload_n (pc' := 52) 0 rfl rfl dX12_game_51 rfl ?_
            refine z_iload_n (pc' := 53) 1 rfl rfl dX12_game_52 rfl ?_
            refine z_iload_n (pc' := 54) 3 rfl rfl dX12_game_53 rfl ?_
            refine z_iload (pc' := 56) 4 rfl dX12_game_54 rfl ?_
            refine z_iload (pc' := 58) 5 rfl dX12_game_56 rfl ?_
            refine z_invV (as := [zI a0, zI a2, zI a3, zI a4]) (st := []) (C := m_X12_gameOf) (fs := [0, 3, 0, 0, 0, 0, 4, 5, 6, 7, 8, 9, 10, 0, 0, 11, 12, 13, 14, 15, 16, 0, 0, 0, 17, 18, 19, 20, 0, 0, 0, 21, 22, 0, 0, 23, 0, 1, 24, 0, 0, 25, 26, 0, 27, 0]) (pc' := 61) dX12_game_58 rfl t_8_147 k_X12_gameOf rfl (by decide) rfl rfl rfl rfl (Nat.le_of_ble_eq_true rfl) ?_
            have r7 := h
            refine c_M_gameOf r7 ?_
            show z_Wp m_X12_game _ 61 [(0, zR 0), (1, zI a0), (2, zI a1), (3, zI a2), (4, zI a3), (5, zI a4), (6, zI a5)] [zI (F_M_gameOf w a0 a2 a3 a4)] w _
            refine z_goto 74 dX12_game_61 (by decide) ?_
            refine z_iret rfl dX12_game_74 ?_
            exact k
        · have h := h.1 c
          rw [if_pos c] at k
          refine z_ldcw (n := (-1000000)) (pc' := 45) t_8_146 (by decide) dX12_game_42 rfl ?_
          refine z_iret rfl dX12_game_45 ?_
          exact k
def P_M_known (w : z_Wd) (a0 : Int) : Prop := (P_M_in w a0 0 ((w 0 29) - 1)) ∧ ((F_M_in w a0 0 ((w 0 29) - 1) = 0 → True) ∧ (¬ (F_M_in w a0 0 ((w 0 29) - 1) = 0) → P_M_knownBy w a0))
def F_M_known (w : z_Wd) (a0 : Int) : Int := if F_M_in w a0 0 ((w 0 29) - 1) = 0 then (-1) else F_M_knownBy w a0
set_option maxRecDepth 4000 in
theorem c_M_known {d : Nat} {w : z_Wd} {a0 : Int} {Q : Option z_V → z_Wd → Prop} (h : P_M_known w a0) (k : Q (some (zI (F_M_known w a0))) w) : z_Wc (d + 2) m_X12_known [zR 0, zI a0] w Q := by
  unfold P_M_known at h
  unfold F_M_known at k
  refine z_enter rfl (Nat.le_of_ble_eq_true rfl) ?_
  show z_Wp m_X12_known _ 0 [(0, zR 0), (1, zI a0)] [] w _
  refine z_aload_n (pc' := 1) 0 rfl rfl dX12_known_0 rfl ?_
  refine z_iload_n (pc' := 2) 1 rfl rfl dX12_known_1 rfl ?_
  refine z_invV (as := [zI a0]) (st := []) (C := m_X12_isName) (fs := [0, 3, 0, 0, 0, 0, 4, 5, 6, 7, 8, 9, 10, 0, 0, 11, 12, 13, 14, 15, 16, 0, 0, 0, 17, 18, 19, 20, 0, 0, 0, 21, 22, 0, 0, 23, 0, 1, 24, 0, 0, 25, 26, 0, 27, 0]) (pc' := 5) dX12_known_2 rfl t_7_110 k_X12_isName rfl (by decide) rfl rfl rfl rfl (Nat.le_of_ble_eq_true rfl) ?_
  obtain ⟨r1, h⟩ := h
  refine c_M_isName r1 ?_
  show z_Wp m_X12_known _ 5 [(0, zR 0), (1, zI a0)] [zI (F_M_in w a0 0 ((w 0 29) - 1))] w _
  refine z_if_eq 16 dX12_known_5 (by decide) (pc' := 8) rfl (z_rb b_M_in) (fun c => ?_) (fun c => ?_)
  · have h := h.1 c
    rw [if_pos c] at k
    refine z_iconst (pc' := 17) dX12_known_16 rfl ?_
    refine z_iret rfl dX12_known_17 ?_
    exact k
  · have h := h.2 c
    rw [if_neg c] at k
    refine z_aload_n (pc' := 9) 0 rfl rfl dX12_known_8 rfl ?_
    refine z_iload_n (pc' := 10) 1 rfl rfl dX12_known_9 rfl ?_
    refine z_invV (as := [zI a0]) (st := []) (C := m_X12_knownBy) (fs := [0, 3, 0, 0, 0, 0, 4, 5, 6, 7, 8, 9, 10, 0, 0, 11, 12, 13, 14, 15, 16, 0, 0, 0, 17, 18, 19, 20, 0, 0, 0, 21, 22, 0, 0, 23, 0, 1, 24, 0, 0, 25, 26, 0, 27, 0]) (pc' := 13) dX12_known_10 rfl t_7_150 k_X12_knownBy rfl (by decide) rfl rfl rfl rfl (Nat.le_of_ble_eq_true rfl) ?_
    have r2 := h
    refine c_M_knownBy r2 ?_
    show z_Wp m_X12_known _ 13 [(0, zR 0), (1, zI a0)] [zI (F_M_knownBy w a0)] w _
    refine z_goto 17 dX12_known_13 (by decide) ?_
    refine z_iret rfl dX12_known_17 ?_
    exact k
def P_M_blot (w : z_Wd) (a0 : Int) : Prop := (P_M_whyNot w a0 2) ∧ (P_M_isRefused w (F_M_whyNot w a0 2)) ∧ (-2147483648 ≤ (F_M_isRefused w (F_M_whyNot w a0 2)).1 ∧ (F_M_isRefused w (F_M_whyNot w a0 2)).1 < 2147483648) ∧ (((F_M_isRefused w (F_M_whyNot w a0 2)).1 = 0 → (P_M_keep ((F_M_isRefused w (F_M_whyNot w a0 2)).2)) ∧ (0 ≤ a0 ∧ a0 < 160) ∧ (P_M_riseNow (z_up (F_M_keep ((F_M_isRefused w (F_M_whyNot w a0 2)).2)) 19 36 (((F_M_keep ((F_M_isRefused w (F_M_whyNot w a0 2)).2)) 19 36) - 2)) a0 (((z_up (F_M_keep ((F_M_isRefused w (F_M_whyNot w a0 2)).2)) 19 36 (((F_M_keep ((F_M_isRefused w (F_M_whyNot w a0 2)).2)) 19 36) - 2)) 19 a0.toNat) - 1))) ∧ (¬ ((F_M_isRefused w (F_M_whyNot w a0 2)).1 = 0) → True))
def F_M_blot (w : z_Wd) (a0 : Int) : Int × z_Wd := if (F_M_isRefused w (F_M_whyNot w a0 2)).1 = 0 then ((F_M_riseNow (z_up (F_M_keep ((F_M_isRefused w (F_M_whyNot w a0 2)).2)) 19 36 (((F_M_keep ((F_M_isRefused w (F_M_whyNot w a0 2)).2)) 19 36) - 2)) a0 (((z_up (F_M_keep ((F_M_isRefused w (F_M_whyNot w a0 2)).2)) 19 36 (((F_M_keep ((F_M_isRefused w (F_M_whyNot w a0 2)).2)) 19 36) - 2)) 19 a0.toNat) - 1)).1, (F_M_riseNow (z_up (F_M_keep ((F_M_isRefused w (F_M_whyNot w a0 2)).2)) 19 36 (((F_M_keep ((F_M_isRefused w (F_M_whyNot w a0 2)).2)) 19 36) - 2)) a0 (((z_up (F_M_keep ((F_M_isRefused w (F_M_whyNot w a0 2)).2)) 19 36 (((F_M_keep ((F_M_isRefused w (F_M_whyNot w a0 2)).2)) 19 36) - 2)) 19 a0.toNat) - 1)).2) else ((-2), (F_M_isRefused w (F_M_whyNot w a0 2)).2)
set_option maxRecDepth 4000 in
theorem c_M_blot {d : Nat} {w : z_Wd} {a0 : Int} {Q : Option z_V → z_Wd → Prop} (h : P_M_blot w a0) (k : Q (some (zI (F_M_blot w a0).1)) (F_M_blot w a0).2) : z_Wc (d + 3) m_X12_blot [zR 0, zI a0] w Q := by
  unfold P_M_blot at h
  unfold F_M_blot at k
  refine z_enter rfl (Nat.le_of_ble_eq_true rfl) ?_
  show z_Wp m_X12_blot _ 0 [(0, zR 0), (1, zI a0)] [] w _
  refine z_aload_n (pc' := 1) 0 rfl rfl dX12_blot_0 rfl ?_
  refine z_aload_n (pc' := 2) 0 rfl rfl dX12_blot_1 rfl ?_
  refine z_iload_n (pc' := 3) 1 rfl rfl dX12_blot_2 rfl ?_
  refine z_iconst (pc' := 4) dX12_blot_3 rfl ?_
  refine z_invV (as := [zI a0, zI 2]) (st := [zR 0]) (C := m_X12_whyNot) (fs := [0, 3, 0, 0, 0, 0, 4, 5, 6, 7, 8, 9, 10, 0, 0, 11, 12, 13, 14, 15, 16, 0, 0, 0, 17, 18, 19, 20, 0, 0, 0, 21, 22, 0, 0, 23, 0, 1, 24, 0, 0, 25, 26, 0, 27, 0]) (pc' := 7) dX12_blot_4 rfl t_8_19 k_X12_whyNot rfl (by decide) rfl rfl rfl rfl (Nat.le_of_ble_eq_true rfl) ?_
  obtain ⟨r1, h⟩ := h
  refine c_M_whyNot r1 ?_
  show z_Wp m_X12_blot _ 7 [(0, zR 0), (1, zI a0)] [zI (F_M_whyNot w a0 2), zR 0] w _
  refine z_invV (as := [zI (F_M_whyNot w a0 2)]) (st := []) (C := m_X12_isRefused) (fs := [0, 3, 0, 0, 0, 0, 4, 5, 6, 7, 8, 9, 10, 0, 0, 11, 12, 13, 14, 15, 16, 0, 0, 0, 17, 18, 19, 20, 0, 0, 0, 21, 22, 0, 0, 23, 0, 1, 24, 0, 0, 25, 26, 0, 27, 0]) (pc' := 10) dX12_blot_7 rfl t_7_227 k_X12_isRefused rfl (by decide) rfl rfl rfl rfl (Nat.le_of_ble_eq_true rfl) ?_
  obtain ⟨r2, h⟩ := h
  refine c_M_isRefused r2 ?_
  show z_Wp m_X12_blot _ 10 [(0, zR 0), (1, zI a0)] [zI ((F_M_isRefused w (F_M_whyNot w a0 2)).1)] ((F_M_isRefused w (F_M_whyNot w a0 2)).2) _
  obtain ⟨r3, h⟩ := h
  refine z_if_eq 16 dX12_blot_10 (by decide) (pc' := 13) rfl r3 (fun c => ?_) (fun c => ?_)
  · have h := h.1 c
    rw [if_pos c] at k
    refine z_aload_n (pc' := 17) 0 rfl rfl dX12_blot_16 rfl ?_
    refine z_invV (as := []) (st := []) (C := m_X12_keep) (fs := [0, 3, 0, 0, 0, 0, 4, 5, 6, 7, 8, 9, 10, 0, 0, 11, 12, 13, 14, 15, 16, 0, 0, 0, 17, 18, 19, 20, 0, 0, 0, 21, 22, 0, 0, 23, 0, 1, 24, 0, 0, 25, 26, 0, 27, 0]) (pc' := 20) dX12_blot_17 rfl t_7_231 k_X12_keep rfl (by decide) rfl rfl rfl rfl (Nat.le_of_ble_eq_true rfl) ?_
    obtain ⟨r4, h⟩ := h
    refine c_M_keep r4 ?_
    show z_Wp m_X12_blot _ 20 [(0, zR 0), (1, zI a0)] [] (F_M_keep ((F_M_isRefused w (F_M_whyNot w a0 2)).2)) _
    refine z_aload_n (pc' := 21) 0 rfl rfl dX12_blot_20 rfl ?_
    refine z_getR (t := 19) (pc' := 24) g_X12_64 (by decide) rfl rfl dX12_blot_21 rfl ?_
    refine z_bipush (pc' := 26) (by decide) dX12_blot_24 rfl ?_
    refine z_dup2 (pc' := 27) rfl rfl dX12_blot_26 rfl ?_
    refine z_iald2 (v := (F_M_keep ((F_M_isRefused w (F_M_whyNot w a0 2)).2)) 19 36) (pc' := 28) (by decide) rfl (by decide) (by decide) rfl dX12_blot_27 rfl ?_
    refine z_iconst (pc' := 29) dX12_blot_28 rfl ?_
    refine z_isub (pc' := 30) dX12_blot_29 rfl ?_
    refine z_iast2 (w' := z_up (F_M_keep ((F_M_isRefused w (F_M_whyNot w a0 2)).2)) 19 36 (((F_M_keep ((F_M_isRefused w (F_M_whyNot w a0 2)).2)) 19 36) - 2)) (pc' := 31) (by decide) rfl (by decide) (by decide) rfl dX12_blot_30 rfl ?_
    refine z_aload_n (pc' := 32) 0 rfl rfl dX12_blot_31 rfl ?_
    refine z_iload_n (pc' := 33) 1 rfl rfl dX12_blot_32 rfl ?_
    refine z_aload_n (pc' := 34) 0 rfl rfl dX12_blot_33 rfl ?_
    refine z_getR (t := 19) (pc' := 37) g_X12_64 (by decide) rfl rfl dX12_blot_34 rfl ?_
    refine z_iconst (pc' := 38) dX12_blot_37 rfl ?_
    refine z_iload_n (pc' := 39) 1 rfl rfl dX12_blot_38 rfl ?_
    refine z_iadd (pc' := 40) dX12_blot_39 rfl ?_
    refine z_eqI (y := a0) (by omega) ?_
    obtain ⟨r5, h⟩ := h
    refine z_iald2 (v := (z_up (F_M_keep ((F_M_isRefused w (F_M_whyNot w a0 2)).2)) 19 36 (((F_M_keep ((F_M_isRefused w (F_M_whyNot w a0 2)).2)) 19 36) - 2)) 19 a0.toNat) (pc' := 41) (by decide) rfl r5 (by decide) rfl dX12_blot_40 rfl ?_
    refine z_iconst (pc' := 42) dX12_blot_41 rfl ?_
    refine z_isub (pc' := 43) dX12_blot_42 rfl ?_
    refine z_invV (as := [zI a0, zI (((z_up (F_M_keep ((F_M_isRefused w (F_M_whyNot w a0 2)).2)) 19 36 (((F_M_keep ((F_M_isRefused w (F_M_whyNot w a0 2)).2)) 19 36) - 2)) 19 a0.toNat) - 1)]) (st := []) (C := m_X12_riseNow) (fs := [0, 3, 0, 0, 0, 0, 4, 5, 6, 7, 8, 9, 10, 0, 0, 11, 12, 13, 14, 15, 16, 0, 0, 0, 17, 18, 19, 20, 0, 0, 0, 21, 22, 0, 0, 23, 0, 1, 24, 0, 0, 25, 26, 0, 27, 0]) (pc' := 46) dX12_blot_43 rfl t_8_11 k_X12_riseNow rfl (by decide) rfl rfl rfl rfl (Nat.le_of_ble_eq_true rfl) ?_
    have r6 := h
    refine c_M_riseNow r6 ?_
    show z_Wp m_X12_blot _ 46 [(0, zR 0), (1, zI a0)] [zI ((F_M_riseNow (z_up (F_M_keep ((F_M_isRefused w (F_M_whyNot w a0 2)).2)) 19 36 (((F_M_keep ((F_M_isRefused w (F_M_whyNot w a0 2)).2)) 19 36) - 2)) a0 (((z_up (F_M_keep ((F_M_isRefused w (F_M_whyNot w a0 2)).2)) 19 36 (((F_M_keep ((F_M_isRefused w (F_M_whyNot w a0 2)).2)) 19 36) - 2)) 19 a0.toNat) - 1)).1)] ((F_M_riseNow (z_up (F_M_keep ((F_M_isRefused w (F_M_whyNot w a0 2)).2)) 19 36 (((F_M_keep ((F_M_isRefused w (F_M_whyNot w a0 2)).2)) 19 36) - 2)) a0 (((z_up (F_M_keep ((F_M_isRefused w (F_M_whyNot w a0 2)).2)) 19 36 (((F_M_keep ((F_M_isRefused w (F_M_whyNot w a0 2)).2)) 19 36) - 2)) 19 a0.toNat) - 1)).2) _
    refine z_iret rfl dX12_blot_46 ?_
    exact k
  · have h := h.2 c
    rw [if_neg c] at k
    refine z_bipush (pc' := 15) (by decide) dX12_blot_13 rfl ?_
    refine z_iret rfl dX12_blot_15 ?_
    exact k
def P_M_water (w : z_Wd) (a0 : Int) : Prop := (P_M_whyNot w a0 5) ∧ (P_M_isRefused w (F_M_whyNot w a0 5)) ∧ (-2147483648 ≤ (F_M_isRefused w (F_M_whyNot w a0 5)).1 ∧ (F_M_isRefused w (F_M_whyNot w a0 5)).1 < 2147483648) ∧ (((F_M_isRefused w (F_M_whyNot w a0 5)).1 = 0 → (P_M_keep ((F_M_isRefused w (F_M_whyNot w a0 5)).2)) ∧ (0 ≤ a0 ∧ a0 < 160)) ∧ (¬ ((F_M_isRefused w (F_M_whyNot w a0 5)).1 = 0) → True))
def F_M_water (w : z_Wd) (a0 : Int) : Int × z_Wd := if (F_M_isRefused w (F_M_whyNot w a0 5)).1 = 0 then ((F_M_keep ((F_M_isRefused w (F_M_whyNot w a0 5)).2)) 19 a0.toNat, z_up (z_up (F_M_keep ((F_M_isRefused w (F_M_whyNot w a0 5)).2)) 19 36 (((F_M_keep ((F_M_isRefused w (F_M_whyNot w a0 5)).2)) 19 36) - 5)) 19 a0.toNat 0) else ((-1), (F_M_isRefused w (F_M_whyNot w a0 5)).2)
set_option maxRecDepth 4000 in
theorem c_M_water {d : Nat} {w : z_Wd} {a0 : Int} {Q : Option z_V → z_Wd → Prop} (h : P_M_water w a0) (k : Q (some (zI (F_M_water w a0).1)) (F_M_water w a0).2) : z_Wc (d + 3) m_X12_water [zR 0, zI a0] w Q := by
  unfold P_M_water at h
  unfold F_M_water at k
  refine z_enter rfl (Nat.le_of_ble_eq_true rfl) ?_
  show z_Wp m_X12_water _ 0 [(0, zR 0), (1, zI a0)] [] w _
  refine z_aload_n (pc' := 1) 0 rfl rfl dX12_water_0 rfl ?_
  refine z_aload_n (pc' := 2) 0 rfl rfl dX12_water_1 rfl ?_
  refine z_iload_n (pc' := 3) 1 rfl rfl dX12_water_2 rfl ?_
  refine z_iconst (pc' := 4) dX12_water_3 rfl ?_
  refine z_invV (as := [zI a0, zI 5]) (st := [zR 0]) (C := m_X12_whyNot) (fs := [0, 3, 0, 0, 0, 0, 4, 5, 6, 7, 8, 9, 10, 0, 0, 11, 12, 13, 14, 15, 16, 0, 0, 0, 17, 18, 19, 20, 0, 0, 0, 21, 22, 0, 0, 23, 0, 1, 24, 0, 0, 25, 26, 0, 27, 0]) (pc' := 7) dX12_water_4 rfl t_8_19 k_X12_whyNot rfl (by decide) rfl rfl rfl rfl (Nat.le_of_ble_eq_true rfl) ?_
  obtain ⟨r1, h⟩ := h
  refine c_M_whyNot r1 ?_
  show z_Wp m_X12_water _ 7 [(0, zR 0), (1, zI a0)] [zI (F_M_whyNot w a0 5), zR 0] w _
  refine z_invV (as := [zI (F_M_whyNot w a0 5)]) (st := []) (C := m_X12_isRefused) (fs := [0, 3, 0, 0, 0, 0, 4, 5, 6, 7, 8, 9, 10, 0, 0, 11, 12, 13, 14, 15, 16, 0, 0, 0, 17, 18, 19, 20, 0, 0, 0, 21, 22, 0, 0, 23, 0, 1, 24, 0, 0, 25, 26, 0, 27, 0]) (pc' := 10) dX12_water_7 rfl t_7_227 k_X12_isRefused rfl (by decide) rfl rfl rfl rfl (Nat.le_of_ble_eq_true rfl) ?_
  obtain ⟨r2, h⟩ := h
  refine c_M_isRefused r2 ?_
  show z_Wp m_X12_water _ 10 [(0, zR 0), (1, zI a0)] [zI ((F_M_isRefused w (F_M_whyNot w a0 5)).1)] ((F_M_isRefused w (F_M_whyNot w a0 5)).2) _
  obtain ⟨r3, h⟩ := h
  refine z_if_eq 15 dX12_water_10 (by decide) (pc' := 13) rfl r3 (fun c => ?_) (fun c => ?_)
  · have h := h.1 c
    rw [if_pos c] at k
    refine z_aload_n (pc' := 16) 0 rfl rfl dX12_water_15 rfl ?_
    refine z_invV (as := []) (st := []) (C := m_X12_keep) (fs := [0, 3, 0, 0, 0, 0, 4, 5, 6, 7, 8, 9, 10, 0, 0, 11, 12, 13, 14, 15, 16, 0, 0, 0, 17, 18, 19, 20, 0, 0, 0, 21, 22, 0, 0, 23, 0, 1, 24, 0, 0, 25, 26, 0, 27, 0]) (pc' := 19) dX12_water_16 rfl t_7_231 k_X12_keep rfl (by decide) rfl rfl rfl rfl (Nat.le_of_ble_eq_true rfl) ?_
    obtain ⟨r4, h⟩ := h
    refine c_M_keep r4 ?_
    show z_Wp m_X12_water _ 19 [(0, zR 0), (1, zI a0)] [] (F_M_keep ((F_M_isRefused w (F_M_whyNot w a0 5)).2)) _
    refine z_aload_n (pc' := 20) 0 rfl rfl dX12_water_19 rfl ?_
    refine z_getR (t := 19) (pc' := 23) g_X12_64 (by decide) rfl rfl dX12_water_20 rfl ?_
    refine z_iconst (pc' := 24) dX12_water_23 rfl ?_
    refine z_iload_n (pc' := 25) 1 rfl rfl dX12_water_24 rfl ?_
    refine z_iadd (pc' := 26) dX12_water_25 rfl ?_
    refine z_eqI (y := a0) (by omega) ?_
    have r5 := h
    refine z_iald2 (v := (F_M_keep ((F_M_isRefused w (F_M_whyNot w a0 5)).2)) 19 a0.toNat) (pc' := 27) (by decide) rfl r5 (by decide) rfl dX12_water_26 rfl ?_
    refine z_istore_n (pc' := 28) (ls' := [(0, zR 0), (1, zI a0), (2, zI ((F_M_keep ((F_M_isRefused w (F_M_whyNot w a0 5)).2)) 19 a0.toNat))]) rfl (by decide) rfl rfl dX12_water_27 rfl ?_
    refine z_aload_n (pc' := 29) 0 rfl rfl dX12_water_28 rfl ?_
    refine z_getR (t := 19) (pc' := 32) g_X12_64 (by decide) rfl rfl dX12_water_29 rfl ?_
    refine z_bipush (pc' := 34) (by decide) dX12_water_32 rfl ?_
    refine z_dup2 (pc' := 35) rfl rfl dX12_water_34 rfl ?_
    refine z_iald2 (v := (F_M_keep ((F_M_isRefused w (F_M_whyNot w a0 5)).2)) 19 36) (pc' := 36) (by decide) rfl (by decide) (by decide) rfl dX12_water_35 rfl ?_
    refine z_iconst (pc' := 37) dX12_water_36 rfl ?_
    refine z_isub (pc' := 38) dX12_water_37 rfl ?_
    refine z_iast2 (w' := z_up (F_M_keep ((F_M_isRefused w (F_M_whyNot w a0 5)).2)) 19 36 (((F_M_keep ((F_M_isRefused w (F_M_whyNot w a0 5)).2)) 19 36) - 5)) (pc' := 39) (by decide) rfl (by decide) (by decide) rfl dX12_water_38 rfl ?_
    refine z_aload_n (pc' := 40) 0 rfl rfl dX12_water_39 rfl ?_
    refine z_getR (t := 19) (pc' := 43) g_X12_64 (by decide) rfl rfl dX12_water_40 rfl ?_
    refine z_iconst (pc' := 44) dX12_water_43 rfl ?_
    refine z_iload_n (pc' := 45) 1 rfl rfl dX12_water_44 rfl ?_
    refine z_iadd (pc' := 46) dX12_water_45 rfl ?_
    refine z_eqI (y := a0) (by omega) ?_
    refine z_iconst (pc' := 47) dX12_water_46 rfl ?_
    refine z_iast2 (w' := z_up (z_up (F_M_keep ((F_M_isRefused w (F_M_whyNot w a0 5)).2)) 19 36 (((F_M_keep ((F_M_isRefused w (F_M_whyNot w a0 5)).2)) 19 36) - 5)) 19 a0.toNat 0) (pc' := 48) (by decide) rfl r5 (by decide) rfl dX12_water_47 rfl ?_
    refine z_iload_n (pc' := 49) 2 rfl rfl dX12_water_48 rfl ?_
    refine z_iret rfl dX12_water_49 ?_
    exact k
  · have h := h.2 c
    rw [if_neg c] at k
    refine z_iconst (pc' := 14) dX12_water_13 rfl ?_
    refine z_iret rfl dX12_water_14 ?_
    exact k
def P_M_fill (w : z_Wd) (a0 : Int) : Prop := (P_M_in w a0 0 ((w 0 28) - 1)) ∧ ((F_M_in w a0 0 ((w 0 28) - 1) = 0 → (P_M_isRefused w 0) ∧ (-2147483648 ≤ (F_M_isRefused w 0).1 ∧ (F_M_isRefused w 0).1 < 2147483648) ∧ (((F_M_isRefused w 0).1 = 0 → (P_M_keep ((F_M_isRefused w 0).2)) ∧ (0 ≤ 32 + a0 ∧ 32 + a0 < 160)) ∧ (¬ ((F_M_isRefused w 0).1 = 0) → True))) ∧ (¬ (F_M_in w a0 0 ((w 0 28) - 1) = 0) → (0 ≤ 32 + a0 ∧ 32 + a0 < 160) ∧ (-2147483648 ≤ w 19 ((32 + a0).toNat) ∧ w 19 ((32 + a0).toNat) < 2147483648) ∧ ((w 19 ((32 + a0).toNat) = 30 → (P_M_isRefused w 2) ∧ (-2147483648 ≤ (F_M_isRefused w 2).1 ∧ (F_M_isRefused w 2).1 < 2147483648) ∧ (((F_M_isRefused w 2).1 = 0 → P_M_keep ((F_M_isRefused w 2).2)) ∧ (¬ ((F_M_isRefused w 2).1 = 0) → True))) ∧ (¬ (w 19 ((32 + a0).toNat) = 30) → (-2147483648 ≤ w 19 36 ∧ w 19 36 < 2147483648) ∧ ((w 19 36 ≥ 1 → (P_M_isRefused w (-1)) ∧ (-2147483648 ≤ (F_M_isRefused w (-1)).1 ∧ (F_M_isRefused w (-1)).1 < 2147483648) ∧ (((F_M_isRefused w (-1)).1 = 0 → P_M_keep ((F_M_isRefused w (-1)).2)) ∧ (¬ ((F_M_isRefused w (-1)).1 = 0) → True))) ∧ (¬ (w 19 36 ≥ 1) → (P_M_isRefused w 4) ∧ (-2147483648 ≤ (F_M_isRefused w 4).1 ∧ (F_M_isRefused w 4).1 < 2147483648) ∧ (((F_M_isRefused w 4).1 = 0 → P_M_keep ((F_M_isRefused w 4).2)) ∧ (¬ ((F_M_isRefused w 4).1 = 0) → True))))))))
def F_M_fill (w : z_Wd) (a0 : Int) : Int × z_Wd := if F_M_in w a0 0 ((w 0 28) - 1) = 0 then if (F_M_isRefused w 0).1 = 0 then ((z_up (z_up (F_M_keep ((F_M_isRefused w 0).2)) 19 ((32 + a0).toNat) (((F_M_keep ((F_M_isRefused w 0).2)) 19 ((32 + a0).toNat)) + 1)) 19 36 (((z_up (F_M_keep ((F_M_isRefused w 0).2)) 19 ((32 + a0).toNat) (((F_M_keep ((F_M_isRefused w 0).2)) 19 ((32 + a0).toNat)) + 1)) 19 36) - 1)) 19 ((32 + a0).toNat), z_up (z_up (F_M_keep ((F_M_isRefused w 0).2)) 19 ((32 + a0).toNat) (((F_M_keep ((F_M_isRefused w 0).2)) 19 ((32 + a0).toNat)) + 1)) 19 36 (((z_up (F_M_keep ((F_M_isRefused w 0).2)) 19 ((32 + a0).toNat) (((F_M_keep ((F_M_isRefused w 0).2)) 19 ((32 + a0).toNat)) + 1)) 19 36) - 1)) else ((-1), (F_M_isRefused w 0).2) else if w 19 ((32 + a0).toNat) = 30 then if (F_M_isRefused w 2).1 = 0 then ((z_up (z_up (F_M_keep ((F_M_isRefused w 2).2)) 19 ((32 + a0).toNat) (((F_M_keep ((F_M_isRefused w 2).2)) 19 ((32 + a0).toNat)) + 1)) 19 36 (((z_up (F_M_keep ((F_M_isRefused w 2).2)) 19 ((32 + a0).toNat) (((F_M_keep ((F_M_isRefused w 2).2)) 19 ((32 + a0).toNat)) + 1)) 19 36) - 1)) 19 ((32 + a0).toNat), z_up (z_up (F_M_keep ((F_M_isRefused w 2).2)) 19 ((32 + a0).toNat) (((F_M_keep ((F_M_isRefused w 2).2)) 19 ((32 + a0).toNat)) + 1)) 19 36 (((z_up (F_M_keep ((F_M_isRefused w 2).2)) 19 ((32 + a0).toNat) (((F_M_keep ((F_M_isRefused w 2).2)) 19 ((32 + a0).toNat)) + 1)) 19 36) - 1)) else ((-1), (F_M_isRefused w 2).2) else if w 19 36 ≥ 1 then if (F_M_isRefused w (-1)).1 = 0 then ((z_up (z_up (F_M_keep ((F_M_isRefused w (-1)).2)) 19 ((32 + a0).toNat) (((F_M_keep ((F_M_isRefused w (-1)).2)) 19 ((32 + a0).toNat)) + 1)) 19 36 (((z_up (F_M_keep ((F_M_isRefused w (-1)).2)) 19 ((32 + a0).toNat) (((F_M_keep ((F_M_isRefused w (-1)).2)) 19 ((32 + a0).toNat)) + 1)) 19 36) - 1)) 19 ((32 + a0).toNat), z_up (z_up (F_M_keep ((F_M_isRefused w (-1)).2)) 19 ((32 + a0).toNat) (((F_M_keep ((F_M_isRefused w (-1)).2)) 19 ((32 + a0).toNat)) + 1)) 19 36 (((z_up (F_M_keep ((F_M_isRefused w (-1)).2)) 19 ((32 + a0).toNat) (((F_M_keep ((F_M_isRefused w (-1)).2)) 19 ((32 + a0).toNat)) + 1)) 19 36) - 1)) else ((-1), (F_M_isRefused w (-1)).2) else if (F_M_isRefused w 4).1 = 0 then ((z_up (z_up (F_M_keep ((F_M_isRefused w 4).2)) 19 ((32 + a0).toNat) (((F_M_keep ((F_M_isRefused w 4).2)) 19 ((32 + a0).toNat)) + 1)) 19 36 (((z_up (F_M_keep ((F_M_isRefused w 4).2)) 19 ((32 + a0).toNat) (((F_M_keep ((F_M_isRefused w 4).2)) 19 ((32 + a0).toNat)) + 1)) 19 36) - 1)) 19 ((32 + a0).toNat), z_up (z_up (F_M_keep ((F_M_isRefused w 4).2)) 19 ((32 + a0).toNat) (((F_M_keep ((F_M_isRefused w 4).2)) 19 ((32 + a0).toNat)) + 1)) 19 36 (((z_up (F_M_keep ((F_M_isRefused w 4).2)) 19 ((32 + a0).toNat) (((F_M_keep ((F_M_isRefused w 4).2)) 19 ((32 + a0).toNat)) + 1)) 19 36) - 1)) else ((-1), (F_M_isRefused w 4).2)
set_option maxRecDepth 4000 in
theorem c_M_fill {d : Nat} {w : z_Wd} {a0 : Int} {Q : Option z_V → z_Wd → Prop} (h : P_M_fill w a0) (k : Q (some (zI (F_M_fill w a0).1)) (F_M_fill w a0).2) : z_Wc (d + 2) m_X12_fill [zR 0, zI a0] w Q := by
  unfold P_M_fill at h
  unfold F_M_fill at k
  refine z_enter rfl (Nat.le_of_ble_eq_true rfl) ?_
  show z_Wp m_X12_fill _ 0 [(0, zR 0), (1, zI a0)] [] w _
  refine z_aload_n (pc' := 1) 0 rfl rfl dX12_fill_0 rfl ?_
  refine z_aload_n (pc' := 2) 0 rfl rfl dX12_fill_1 rfl ?_
  refine z_iload_n (pc' := 3) 1 rfl rfl dX12_fill_2 rfl ?_
  refine z_invV (as := [zI a0]) (st := [zR 0]) (C := m_X12_isWell) (fs := [0, 3, 0, 0, 0, 0, 4, 5, 6, 7, 8, 9, 10, 0, 0, 11, 12, 13, 14, 15, 16, 0, 0, 0, 17, 18, 19, 20, 0, 0, 0, 21, 22, 0, 0, 23, 0, 1, 24, 0, 0, 25, 26, 0, 27, 0]) (pc' := 6) dX12_fill_3 rfl t_7_191 k_X12_isWell rfl (by decide) rfl rfl rfl rfl (Nat.le_of_ble_eq_true rfl) ?_
  obtain ⟨r1, h⟩ := h
  refine c_M_isWell r1 ?_
  show z_Wp m_X12_fill _ 6 [(0, zR 0), (1, zI a0)] [zI (F_M_in w a0 0 ((w 0 28) - 1)), zR 0] w _
  refine z_if_ne 13 dX12_fill_6 (by decide) (pc' := 9) rfl (z_rb b_M_in) (fun c => ?_) (fun c => ?_)
  · have h := h.2 c
    rw [if_neg c] at k
    refine z_aload_n (pc' := 14) 0 rfl rfl dX12_fill_13 rfl ?_
    refine z_getR (t := 19) (pc' := 17) g_X12_64 (by decide) rfl rfl dX12_fill_14 rfl ?_
    refine z_bipush (pc' := 19) (by decide) dX12_fill_17 rfl ?_
    refine z_iload_n (pc' := 20) 1 rfl rfl dX12_fill_19 rfl ?_
    refine z_iadd (pc' := 21) dX12_fill_20 rfl ?_
    obtain ⟨r2, h⟩ := h
    refine z_iald2 (v := w 19 ((32 + a0).toNat)) (pc' := 22) (by decide) rfl r2 (by decide) rfl dX12_fill_21 rfl ?_
    refine z_bipush (pc' := 24) (by decide) dX12_fill_22 rfl ?_
    obtain ⟨r3, h⟩ := h
    refine z_icmp_ne 31 dX12_fill_24 (by decide) (pc' := 27) rfl r3 (by decide) (fun c => ?_) (fun c => ?_)
    · have h := h.2 c
      rw [if_neg c] at k
      refine z_aload_n (pc' := 32) 0 rfl rfl dX12_fill_31 rfl ?_
      refine z_getR (t := 19) (pc' := 35) g_X12_64 (by decide) rfl rfl dX12_fill_32 rfl ?_
      refine z_bipush (pc' := 37) (by decide) dX12_fill_35 rfl ?_
      refine z_iald2 (v := w 19 36) (pc' := 38) (by decide) rfl (by decide) (by decide) rfl dX12_fill_37 rfl ?_
      refine z_iconst (pc' := 39) dX12_fill_38 rfl ?_
      obtain ⟨r4, h⟩ := h
      refine z_icmp_ge 46 dX12_fill_39 (by decide) (pc' := 42) rfl r4 (by decide) (fun c => ?_) (fun c => ?_)
      · have h := h.1 c
        rw [if_pos c] at k
        refine z_iconst (pc' := 47) dX12_fill_46 rfl ?_
        refine z_invV (as := [zI (-1)]) (st := []) (C := m_X12_isRefused) (fs := [0, 3, 0, 0, 0, 0, 4, 5, 6, 7, 8, 9, 10, 0, 0, 11, 12, 13, 14, 15, 16, 0, 0, 0, 17, 18, 19, 20, 0, 0, 0, 21, 22, 0, 0, 23, 0, 1, 24, 0, 0, 25, 26, 0, 27, 0]) (pc' := 50) dX12_fill_47 rfl t_7_227 k_X12_isRefused rfl (by decide) rfl rfl rfl rfl (Nat.le_of_ble_eq_true rfl) ?_
        obtain ⟨r5, h⟩ := h
        refine c_M_isRefused r5 ?_
        show z_Wp m_X12_fill _ 50 [(0, zR 0), (1, zI a0)] [zI ((F_M_isRefused w (-1)).1)] ((F_M_isRefused w (-1)).2) _
        obtain ⟨r6, h⟩ := h
        refine z_if_eq 55 dX12_fill_50 (by decide) (pc' := 53) rfl r6 (fun c => ?_) (fun c => ?_)
        · have h := h.1 c
          rw [if_pos c] at k
          refine z_aload_n (pc' := 56) 0 rfl rfl dX12_fill_55 rfl ?_
          refine z_invV (as := []) (st := []) (C := m_X12_keep) (fs := [0, 3, 0, 0, 0, 0, 4, 5, 6, 7, 8, 9, 10, 0, 0, 11, 12, 13, 14, 15, 16, 0, 0, 0, 17, 18, 19, 20, 0, 0, 0, 21, 22, 0, 0, 23, 0, 1, 24, 0, 0, 25, 26, 0, 27, 0]) (pc' := 59) dX12_fill_56 rfl t_7_231 k_X12_keep rfl (by decide) rfl rfl rfl rfl (Nat.le_of_ble_eq_true rfl) ?_
          have r7 := h
          refine c_M_keep r7 ?_
          show z_Wp m_X12_fill _ 59 [(0, zR 0), (1, zI a0)] [] (F_M_keep ((F_M_isRefused w (-1)).2)) _
          refine z_aload_n (pc' := 60) 0 rfl rfl dX12_fill_59 rfl ?_
          refine z_getR (t := 19) (pc' := 63) g_X12_64 (by decide) rfl rfl dX12_fill_60 rfl ?_
          refine z_bipush (pc' := 65) (by decide) dX12_fill_63 rfl ?_
          refine z_iload_n (pc' := 66) 1 rfl rfl dX12_fill_65 rfl ?_
          refine z_iadd (pc' := 67) dX12_fill_66 rfl ?_
          refine z_dup2 (pc' := 68) rfl rfl dX12_fill_67 rfl ?_
          refine z_iald2 (v := (F_M_keep ((F_M_isRefused w (-1)).2)) 19 ((32 + a0).toNat)) (pc' := 69) (by decide) rfl r2 (by decide) rfl dX12_fill_68 rfl ?_
          refine z_iconst (pc' := 70) dX12_fill_69 rfl ?_
          refine z_iadd (pc' := 71) dX12_fill_70 rfl ?_
          refine z_iast2 (w' := z_up (F_M_keep ((F_M_isRefused w (-1)).2)) 19 ((32 + a0).toNat) (((F_M_keep ((F_M_isRefused w (-1)).2)) 19 ((32 + a0).toNat)) + 1)) (pc' := 72) (by decide) rfl r2 (by decide) rfl dX12_fill_71 rfl ?_
          refine z_aload_n (pc' := 73) 0 rfl rfl dX12_fill_72 rfl ?_
          refine z_getR (t := 19) (pc' := 76) g_X12_64 (by decide) rfl rfl dX12_fill_73 rfl ?_
          refine z_bipush (pc' := 78) (by decide) dX12_fill_76 rfl ?_
          refine z_dup2 (pc' := 79) rfl rfl dX12_fill_78 rfl ?_
          refine z_iald2 (v := (z_up (F_M_keep ((F_M_isRefused w (-1)).2)) 19 ((32 + a0).toNat) (((F_M_keep ((F_M_isRefused w (-1)).2)) 19 ((32 + a0).toNat)) + 1)) 19 36) (pc' := 80) (by decide) rfl (by decide) (by decide) rfl dX12_fill_79 rfl ?_
          refine z_iconst (pc' := 81) dX12_fill_80 rfl ?_
          refine z_isub (pc' := 82) dX12_fill_81 rfl ?_
          refine z_iast2 (w' := z_up (z_up (F_M_keep ((F_M_isRefused w (-1)).2)) 19 ((32 + a0).toNat) (((F_M_keep ((F_M_isRefused w (-1)).2)) 19 ((32 + a0).toNat)) + 1)) 19 36 (((z_up (F_M_keep ((F_M_isRefused w (-1)).2)) 19 ((32 + a0).toNat) (((F_M_keep ((F_M_isRefused w (-1)).2)) 19 ((32 + a0).toNat)) + 1)) 19 36) - 1)) (pc' := 83) (by decide) rfl (by decide) (by decide) rfl dX12_fill_82 rfl ?_
          refine z_aload_n (pc' := 84) 0 rfl rfl dX12_fill_83 rfl ?_
          refine z_getR (t := 19) (pc' := 87) g_X12_64 (by decide) rfl rfl dX12_fill_84 rfl ?_
          refine z_bipush (pc' := 89) (by decide) dX12_fill_87 rfl ?_
          refine z_iload_n (pc' := 90) 1 rfl rfl dX12_fill_89 rfl ?_
          refine z_iadd (pc' := 91) dX12_fill_90 rfl ?_
          refine z_iald2 (v := (z_up (z_up (F_M_keep ((F_M_isRefused w (-1)).2)) 19 ((32 + a0).toNat) (((F_M_keep ((F_M_isRefused w (-1)).2)) 19 ((32 + a0).toNat)) + 1)) 19 36 (((z_up (F_M_keep ((F_M_isRefused w (-1)).2)) 19 ((32 + a0).toNat) (((F_M_keep ((F_M_isRefused w (-1)).2)) 19 ((32 + a0).toNat)) + 1)) 19 36) - 1)) 19 ((32 + a0).toNat)) (pc' := 92) (by decide) rfl r2 (by decide) rfl dX12_fill_91 rfl ?_
          refine z_iret rfl dX12_fill_92 ?_
          exact k
        · have h := h.2 c
          rw [if_neg c] at k
          refine z_iconst (pc' := 54) dX12_fill_53 rfl ?_
          refine z_iret rfl dX12_fill_54 ?_
          exact k
      · have h := h.2 c
        rw [if_neg c] at k
        refine z_iconst (pc' := 43) dX12_fill_42 rfl ?_
        refine z_goto 47 dX12_fill_43 (by decide) ?_
        refine z_invV (as := [zI 4]) (st := []) (C := m_X12_isRefused) (fs := [0, 3, 0, 0, 0, 0, 4, 5, 6, 7, 8, 9, 10, 0, 0, 11, 12, 13, 14, 15, 16, 0, 0, 0, 17, 18, 19, 20, 0, 0, 0, 21, 22, 0, 0, 23, 0, 1, 24, 0, 0, 25, 26, 0, 27, 0]) (pc' := 50) dX12_fill_47 rfl t_7_227 k_X12_isRefused rfl (by decide) rfl rfl rfl rfl (Nat.le_of_ble_eq_true rfl) ?_
        obtain ⟨r8, h⟩ := h
        refine c_M_isRefused r8 ?_
        show z_Wp m_X12_fill _ 50 [(0, zR 0), (1, zI a0)] [zI ((F_M_isRefused w 4).1)] ((F_M_isRefused w 4).2) _
        obtain ⟨r9, h⟩ := h
        refine z_if_eq 55 dX12_fill_50 (by decide) (pc' := 53) rfl r9 (fun c => ?_) (fun c => ?_)
        · have h := h.1 c
          rw [if_pos c] at k
          refine z_aload_n (pc' := 56) 0 rfl rfl dX12_fill_55 rfl ?_
          refine z_invV (as := []) (st := []) (C := m_X12_keep) (fs := [0, 3, 0, 0, 0, 0, 4, 5, 6, 7, 8, 9, 10, 0, 0, 11, 12, 13, 14, 15, 16, 0, 0, 0, 17, 18, 19, 20, 0, 0, 0, 21, 22, 0, 0, 23, 0, 1, 24, 0, 0, 25, 26, 0, 27, 0]) (pc' := 59) dX12_fill_56 rfl t_7_231 k_X12_keep rfl (by decide) rfl rfl rfl rfl (Nat.le_of_ble_eq_true rfl) ?_
          have r10 := h
          refine c_M_keep r10 ?_
          show z_Wp m_X12_fill _ 59 [(0, zR 0), (1, zI a0)] [] (F_M_keep ((F_M_isRefused w 4).2)) _
          refine z_aload_n (pc' := 60) 0 rfl rfl dX12_fill_59 rfl ?_
          refine z_getR (t := 19) (pc' := 63) g_X12_64 (by decide) rfl rfl dX12_fill_60 rfl ?_
          refine z_bipush (pc' := 65) (by decide) dX12_fill_63 rfl ?_
          refine z_iload_n (pc' := 66) 1 rfl rfl dX12_fill_65 rfl ?_
          refine z_iadd (pc' := 67) dX12_fill_66 rfl ?_
          refine z_dup2 (pc' := 68) rfl rfl dX12_fill_67 rfl ?_
          refine z_iald2 (v := (F_M_keep ((F_M_isRefused w 4).2)) 19 ((32 + a0).toNat)) (pc' := 69) (by decide) rfl r2 (by decide) rfl dX12_fill_68 rfl ?_
          refine z_iconst (pc' := 70) dX12_fill_69 rfl ?_
          refine z_iadd (pc' := 71) dX12_fill_70 rfl ?_
          refine z_iast2 (w' := z_up (F_M_keep ((F_M_isRefused w 4).2)) 19 ((32 + a0).toNat) (((F_M_keep ((F_M_isRefused w 4).2)) 19 ((32 + a0).toNat)) + 1)) (pc' := 72) (by decide) rfl r2 (by decide) rfl dX12_fill_71 rfl ?_
          refine z_aload_n (pc' := 73) 0 rfl rfl dX12_fill_72 rfl ?_
          refine z_getR (t := 19) (pc' := 76) g_X12_64 (by decide) rfl rfl dX12_fill_73 rfl ?_
          refine z_bipush (pc' := 78) (by decide) dX12_fill_76 rfl ?_
          refine z_dup2 (pc' := 79) rfl rfl dX12_fill_78 rfl ?_
          refine z_iald2 (v := (z_up (F_M_keep ((F_M_isRefused w 4).2)) 19 ((32 + a0).toNat) (((F_M_keep ((F_M_isRefused w 4).2)) 19 ((32 + a0).toNat)) + 1)) 19 36) (pc' := 80) (by decide) rfl (by decide) (by decide) rfl dX12_fill_79 rfl ?_
          refine z_iconst (pc' := 81) dX12_fill_80 rfl ?_
          refine z_isub (pc' := 82) dX12_fill_81 rfl ?_
          refine z_iast2 (w' := z_up (z_up (F_M_keep ((F_M_isRefused w 4).2)) 19 ((32 + a0).toNat) (((F_M_keep ((F_M_isRefused w 4).2)) 19 ((32 + a0).toNat)) + 1)) 19 36 (((z_up (F_M_keep ((F_M_isRefused w 4).2)) 19 ((32 + a0).toNat) (((F_M_keep ((F_M_isRefused w 4).2)) 19 ((32 + a0).toNat)) + 1)) 19 36) - 1)) (pc' := 83) (by decide) rfl (by decide) (by decide) rfl dX12_fill_82 rfl ?_
          refine z_aload_n (pc' := 84) 0 rfl rfl dX12_fill_83 rfl ?_
          refine z_getR (t := 19) (pc' := 87) g_X12_64 (by decide) rfl rfl dX12_fill_84 rfl ?_
          refine z_bipush (pc' := 89) (by decide) dX12_fill_87 rfl ?_
          refine z_iload_n (pc' := 90) 1 rfl rfl dX12_fill_89 rfl ?_
          refine z_iadd (pc' := 91) dX12_fill_90 rfl ?_
          refine z_iald2 (v := (z_up (z_up (F_M_keep ((F_M_isRefused w 4).2)) 19 ((32 + a0).toNat) (((F_M_keep ((F_M_isRefused w 4).2)) 19 ((32 + a0).toNat)) + 1)) 19 36 (((z_up (F_M_keep ((F_M_isRefused w 4).2)) 19 ((32 + a0).toNat) (((F_M_keep ((F_M_isRefused w 4).2)) 19 ((32 + a0).toNat)) + 1)) 19 36) - 1)) 19 ((32 + a0).toNat)) (pc' := 92) (by decide) rfl r2 (by decide) rfl dX12_fill_91 rfl ?_
          refine z_iret rfl dX12_fill_92 ?_
          exact k
        · have h := h.2 c
          rw [if_neg c] at k
          refine z_iconst (pc' := 54) dX12_fill_53 rfl ?_
          refine z_iret rfl dX12_fill_54 ?_
          exact k
    · have h := h.1 c
      rw [if_pos c] at k
      refine z_iconst (pc' := 28) dX12_fill_27 rfl ?_
      refine z_goto 47 dX12_fill_28 (by decide) ?_
      refine z_invV (as := [zI 2]) (st := []) (C := m_X12_isRefused) (fs := [0, 3, 0, 0, 0, 0, 4, 5, 6, 7, 8, 9, 10, 0, 0, 11, 12, 13, 14, 15, 16, 0, 0, 0, 17, 18, 19, 20, 0, 0, 0, 21, 22, 0, 0, 23, 0, 1, 24, 0, 0, 25, 26, 0, 27, 0]) (pc' := 50) dX12_fill_47 rfl t_7_227 k_X12_isRefused rfl (by decide) rfl rfl rfl rfl (Nat.le_of_ble_eq_true rfl) ?_
      obtain ⟨r11, h⟩ := h
      refine c_M_isRefused r11 ?_
      show z_Wp m_X12_fill _ 50 [(0, zR 0), (1, zI a0)] [zI ((F_M_isRefused w 2).1)] ((F_M_isRefused w 2).2) _
      obtain ⟨r12, h⟩ := h
      refine z_if_eq 55 dX12_fill_50 (by decide) (pc' := 53) rfl r12 (fun c => ?_) (fun c => ?_)
      · have h := h.1 c
        rw [if_pos c] at k
        refine z_aload_n (pc' := 56) 0 rfl rfl dX12_fill_55 rfl ?_
        refine z_invV (as := []) (st := []) (C := m_X12_keep) (fs := [0, 3, 0, 0, 0, 0, 4, 5, 6, 7, 8, 9, 10, 0, 0, 11, 12, 13, 14, 15, 16, 0, 0, 0, 17, 18, 19, 20, 0, 0, 0, 21, 22, 0, 0, 23, 0, 1, 24, 0, 0, 25, 26, 0, 27, 0]) (pc' := 59) dX12_fill_56 rfl t_7_231 k_X12_keep rfl (by decide) rfl rfl rfl rfl (Nat.le_of_ble_eq_true rfl) ?_
        have r13 := h
        refine c_M_keep r13 ?_
        show z_Wp m_X12_fill _ 59 [(0, zR 0), (1, zI a0)] [] (F_M_keep ((F_M_isRefused w 2).2)) _
        refine z_aload_n (pc' := 60) 0 rfl rfl dX12_fill_59 rfl ?_
        refine z_getR (t := 19) (pc' := 63) g_X12_64 (by decide) rfl rfl dX12_fill_60 rfl ?_
        refine z_bipush (pc' := 65) (by decide) dX12_fill_63 rfl ?_
        refine z_iload_n (pc' := 66) 1 rfl rfl dX12_fill_65 rfl ?_
        refine z_iadd (pc' := 67) dX12_fill_66 rfl ?_
        refine z_dup2 (pc' := 68) rfl rfl dX12_fill_67 rfl ?_
        refine z_iald2 (v := (F_M_keep ((F_M_isRefused w 2).2)) 19 ((32 + a0).toNat)) (pc' := 69) (by decide) rfl r2 (by decide) rfl dX12_fill_68 rfl ?_
        refine z_iconst (pc' := 70) dX12_fill_69 rfl ?_
        refine z_iadd (pc' := 71) dX12_fill_70 rfl ?_
        refine z_iast2 (w' := z_up (F_M_keep ((F_M_isRefused w 2).2)) 19 ((32 + a0).toNat) (((F_M_keep ((F_M_isRefused w 2).2)) 19 ((32 + a0).toNat)) + 1)) (pc' := 72) (by decide) rfl r2 (by decide) rfl dX12_fill_71 rfl ?_
        refine z_aload_n (pc' := 73) 0 rfl rfl dX12_fill_72 rfl ?_
        refine z_getR (t := 19) (pc' := 76) g_X12_64 (by decide) rfl rfl dX12_fill_73 rfl ?_
        refine z_bipush (pc' := 78) (by decide) dX12_fill_76 rfl ?_
        refine z_dup2 (pc' := 79) rfl rfl dX12_fill_78 rfl ?_
        refine z_iald2 (v := (z_up (F_M_keep ((F_M_isRefused w 2).2)) 19 ((32 + a0).toNat) (((F_M_keep ((F_M_isRefused w 2).2)) 19 ((32 + a0).toNat)) + 1)) 19 36) (pc' := 80) (by decide) rfl (by decide) (by decide) rfl dX12_fill_79 rfl ?_
        refine z_iconst (pc' := 81) dX12_fill_80 rfl ?_
        refine z_isub (pc' := 82) dX12_fill_81 rfl ?_
        refine z_iast2 (w' := z_up (z_up (F_M_keep ((F_M_isRefused w 2).2)) 19 ((32 + a0).toNat) (((F_M_keep ((F_M_isRefused w 2).2)) 19 ((32 + a0).toNat)) + 1)) 19 36 (((z_up (F_M_keep ((F_M_isRefused w 2).2)) 19 ((32 + a0).toNat) (((F_M_keep ((F_M_isRefused w 2).2)) 19 ((32 + a0).toNat)) + 1)) 19 36) - 1)) (pc' := 83) (by decide) rfl (by decide) (by decide) rfl dX12_fill_82 rfl ?_
        refine z_aload_n (pc' := 84) 0 rfl rfl dX12_fill_83 rfl ?_
        refine z_getR (t := 19) (pc' := 87) g_X12_64 (by decide) rfl rfl dX12_fill_84 rfl ?_
        refine z_bipush (pc' := 89) (by decide) dX12_fill_87 rfl ?_
        refine z_iload_n (pc' := 90) 1 rfl rfl dX12_fill_89 rfl ?_
        refine z_iadd (pc' := 91) dX12_fill_90 rfl ?_
        refine z_iald2 (v := (z_up (z_up (F_M_keep ((F_M_isRefused w 2).2)) 19 ((32 + a0).toNat) (((F_M_keep ((F_M_isRefused w 2).2)) 19 ((32 + a0).toNat)) + 1)) 19 36 (((z_up (F_M_keep ((F_M_isRefused w 2).2)) 19 ((32 + a0).toNat) (((F_M_keep ((F_M_isRefused w 2).2)) 19 ((32 + a0).toNat)) + 1)) 19 36) - 1)) 19 ((32 + a0).toNat)) (pc' := 92) (by decide) rfl r2 (by decide) rfl dX12_fill_91 rfl ?_
        refine z_iret rfl dX12_fill_92 ?_
        exact k
      · have h := h.2 c
        rw [if_neg c] at k
        refine z_iconst (pc' := 54) dX12_fill_53 rfl ?_
        refine z_iret rfl dX12_fill_54 ?_
        exact k
  · have h := h.1 c
    rw [if_pos c] at k
    refine z_iconst (pc' := 10) dX12_fill_9 rfl ?_
    refine z_goto 47 dX12_fill_10 (by decide) ?_
    refine z_invV (as := [zI 0]) (st := []) (C := m_X12_isRefused) (fs := [0, 3, 0, 0, 0, 0, 4, 5, 6, 7, 8, 9, 10, 0, 0, 11, 12, 13, 14, 15, 16, 0, 0, 0, 17, 18, 19, 20, 0, 0, 0, 21, 22, 0, 0, 23, 0, 1, 24, 0, 0, 25, 26, 0, 27, 0]) (pc' := 50) dX12_fill_47 rfl t_7_227 k_X12_isRefused rfl (by decide) rfl rfl rfl rfl (Nat.le_of_ble_eq_true rfl) ?_
    obtain ⟨r14, h⟩ := h
    refine c_M_isRefused r14 ?_
    show z_Wp m_X12_fill _ 50 [(0, zR 0), (1, zI a0)] [zI ((F_M_isRefused w 0).1)] ((F_M_isRefused w 0).2) _
    obtain ⟨r15, h⟩ := h
    refine z_if_eq 55 dX12_fill_50 (by decide) (pc' := 53) rfl r15 (fun c => ?_) (fun c => ?_)
    · have h := h.1 c
      rw [if_pos c] at k
      refine z_aload_n (pc' := 56) 0 rfl rfl dX12_fill_55 rfl ?_
      refine z_invV (as := []) (st := []) (C := m_X12_keep) (fs := [0, 3, 0, 0, 0, 0, 4, 5, 6, 7, 8, 9, 10, 0, 0, 11, 12, 13, 14, 15, 16, 0, 0, 0, 17, 18, 19, 20, 0, 0, 0, 21, 22, 0, 0, 23, 0, 1, 24, 0, 0, 25, 26, 0, 27, 0]) (pc' := 59) dX12_fill_56 rfl t_7_231 k_X12_keep rfl (by decide) rfl rfl rfl rfl (Nat.le_of_ble_eq_true rfl) ?_
      obtain ⟨r16, h⟩ := h
      refine c_M_keep r16 ?_
      show z_Wp m_X12_fill _ 59 [(0, zR 0), (1, zI a0)] [] (F_M_keep ((F_M_isRefused w 0).2)) _
      refine z_aload_n (pc' := 60) 0 rfl rfl dX12_fill_59 rfl ?_
      refine z_getR (t := 19) (pc' := 63) g_X12_64 (by decide) rfl rfl dX12_fill_60 rfl ?_
      refine z_bipush (pc' := 65) (by decide) dX12_fill_63 rfl ?_
      refine z_iload_n (pc' := 66) 1 rfl rfl dX12_fill_65 rfl ?_
      refine z_iadd (pc' := 67) dX12_fill_66 rfl ?_
      refine z_dup2 (pc' := 68) rfl rfl dX12_fill_67 rfl ?_
      have r17 := h
      refine z_iald2 (v := (F_M_keep ((F_M_isRefused w 0).2)) 19 ((32 + a0).toNat)) (pc' := 69) (by decide) rfl r17 (by decide) rfl dX12_fill_68 rfl ?_
      refine z_iconst (pc' := 70) dX12_fill_69 rfl ?_
      refine z_iadd (pc' := 71) dX12_fill_70 rfl ?_
      refine z_iast2 (w' := z_up (F_M_keep ((F_M_isRefused w 0).2)) 19 ((32 + a0).toNat) (((F_M_keep ((F_M_isRefused w 0).2)) 19 ((32 + a0).toNat)) + 1)) (pc' := 72) (by decide) rfl r17 (by decide) rfl dX12_fill_71 rfl ?_
      refine z_aload_n (pc' := 73) 0 rfl rfl dX12_fill_72 rfl ?_
      refine z_getR (t := 19) (pc' := 76) g_X12_64 (by decide) rfl rfl dX12_fill_73 rfl ?_
      refine z_bipush (pc' := 78) (by decide) dX12_fill_76 rfl ?_
      refine z_dup2 (pc' := 79) rfl rfl dX12_fill_78 rfl ?_
      refine z_iald2 (v := (z_up (F_M_keep ((F_M_isRefused w 0).2)) 19 ((32 + a0).toNat) (((F_M_keep ((F_M_isRefused w 0).2)) 19 ((32 + a0).toNat)) + 1)) 19 36) (pc' := 80) (by decide) rfl (by decide) (by decide) rfl dX12_fill_79 rfl ?_
      refine z_iconst (pc' := 81) dX12_fill_80 rfl ?_
      refine z_isub (pc' := 82) dX12_fill_81 rfl ?_
      refine z_iast2 (w' := z_up (z_up (F_M_keep ((F_M_isRefused w 0).2)) 19 ((32 + a0).toNat) (((F_M_keep ((F_M_isRefused w 0).2)) 19 ((32 + a0).toNat)) + 1)) 19 36 (((z_up (F_M_keep ((F_M_isRefused w 0).2)) 19 ((32 + a0).toNat) (((F_M_keep ((F_M_isRefused w 0).2)) 19 ((32 + a0).toNat)) + 1)) 19 36) - 1)) (pc' := 83) (by decide) rfl (by decide) (by decide) rfl dX12_fill_82 rfl ?_
      refine z_aload_n (pc' := 84) 0 rfl rfl dX12_fill_83 rfl ?_
      refine z_getR (t := 19) (pc' := 87) g_X12_64 (by decide) rfl rfl dX12_fill_84 rfl ?_
      refine z_bipush (pc' := 89) (by decide) dX12_fill_87 rfl ?_
      refine z_iload_n (pc' := 90) 1 rfl rfl dX12_fill_89 rfl ?_
      refine z_iadd (pc' := 91) dX12_fill_90 rfl ?_
      refine z_iald2 (v := (z_up (z_up (F_M_keep ((F_M_isRefused w 0).2)) 19 ((32 + a0).toNat) (((F_M_keep ((F_M_isRefused w 0).2)) 19 ((32 + a0).toNat)) + 1)) 19 36 (((z_up (F_M_keep ((F_M_isRefused w 0).2)) 19 ((32 + a0).toNat) (((F_M_keep ((F_M_isRefused w 0).2)) 19 ((32 + a0).toNat)) + 1)) 19 36) - 1)) 19 ((32 + a0).toNat)) (pc' := 92) (by decide) rfl r17 (by decide) rfl dX12_fill_91 rfl ?_
      refine z_iret rfl dX12_fill_92 ?_
      exact k
    · have h := h.2 c
      rw [if_neg c] at k
      refine z_iconst (pc' := 54) dX12_fill_53 rfl ?_
      refine z_iret rfl dX12_fill_54 ?_
      exact k
def P_M_give (w : z_Wd) (a0 : Int) : Prop := (-2147483648 ≤ w 0 29 ∧ w 0 29 < 2147483648) ∧ ((w 0 29 = 0 → (P_M_isRefused w 0) ∧ (-2147483648 ≤ (F_M_isRefused w 0).1 ∧ (F_M_isRefused w 0).1 < 2147483648) ∧ (((F_M_isRefused w 0).1 = 0 → P_M_keep ((F_M_isRefused w 0).2)) ∧ (¬ ((F_M_isRefused w 0).1 = 0) → True))) ∧ (¬ (w 0 29 = 0) → (P_M_in w a0 1 50) ∧ ((F_M_in w a0 1 50 = 0 → (P_M_isRefused w 1) ∧ (-2147483648 ≤ (F_M_isRefused w 1).1 ∧ (F_M_isRefused w 1).1 < 2147483648) ∧ (((F_M_isRefused w 1).1 = 0 → P_M_keep ((F_M_isRefused w 1).2)) ∧ (¬ ((F_M_isRefused w 1).1 = 0) → True))) ∧ (¬ (F_M_in w a0 1 50 = 0) → (-2147483648 ≤ (w 19 36) + a0 ∧ (w 19 36) + a0 < 2147483648) ∧ (((w 19 36) + a0 ≤ 999 → (P_M_isRefused w (-1)) ∧ (-2147483648 ≤ (F_M_isRefused w (-1)).1 ∧ (F_M_isRefused w (-1)).1 < 2147483648) ∧ (((F_M_isRefused w (-1)).1 = 0 → P_M_keep ((F_M_isRefused w (-1)).2)) ∧ (¬ ((F_M_isRefused w (-1)).1 = 0) → True))) ∧ (¬ ((w 19 36) + a0 ≤ 999) → (P_M_isRefused w 1) ∧ (-2147483648 ≤ (F_M_isRefused w 1).1 ∧ (F_M_isRefused w 1).1 < 2147483648) ∧ (((F_M_isRefused w 1).1 = 0 → P_M_keep ((F_M_isRefused w 1).2)) ∧ (¬ ((F_M_isRefused w 1).1 = 0) → True))))))))
def F_M_give (w : z_Wd) (a0 : Int) : Int × z_Wd := if w 0 29 = 0 then if (F_M_isRefused w 0).1 = 0 then (((F_M_keep ((F_M_isRefused w 0).2)) 19 36) + a0, z_up (F_M_keep ((F_M_isRefused w 0).2)) 19 36 (((F_M_keep ((F_M_isRefused w 0).2)) 19 36) + a0)) else ((-1), (F_M_isRefused w 0).2) else if F_M_in w a0 1 50 = 0 then if (F_M_isRefused w 1).1 = 0 then (((F_M_keep ((F_M_isRefused w 1).2)) 19 36) + a0, z_up (F_M_keep ((F_M_isRefused w 1).2)) 19 36 (((F_M_keep ((F_M_isRefused w 1).2)) 19 36) + a0)) else ((-1), (F_M_isRefused w 1).2) else if (w 19 36) + a0 ≤ 999 then if (F_M_isRefused w (-1)).1 = 0 then (((F_M_keep ((F_M_isRefused w (-1)).2)) 19 36) + a0, z_up (F_M_keep ((F_M_isRefused w (-1)).2)) 19 36 (((F_M_keep ((F_M_isRefused w (-1)).2)) 19 36) + a0)) else ((-1), (F_M_isRefused w (-1)).2) else if (F_M_isRefused w 1).1 = 0 then (((F_M_keep ((F_M_isRefused w 1).2)) 19 36) + a0, z_up (F_M_keep ((F_M_isRefused w 1).2)) 19 36 (((F_M_keep ((F_M_isRefused w 1).2)) 19 36) + a0)) else ((-1), (F_M_isRefused w 1).2)
set_option maxRecDepth 4000 in
theorem c_M_give {d : Nat} {w : z_Wd} {a0 : Int} {Q : Option z_V → z_Wd → Prop} (h : P_M_give w a0) (k : Q (some (zI (F_M_give w a0).1)) (F_M_give w a0).2) : z_Wc (d + 1) m_X12_give [zR 0, zI a0] w Q := by
  unfold P_M_give at h
  unfold F_M_give at k
  refine z_enter rfl (Nat.le_of_ble_eq_true rfl) ?_
  show z_Wp m_X12_give _ 0 [(0, zR 0), (1, zI a0)] [] w _
  refine z_aload_n (pc' := 1) 0 rfl rfl dX12_give_0 rfl ?_
  refine z_aload_n (pc' := 2) 0 rfl rfl dX12_give_1 rfl ?_
  refine z_getI2 (v := w 0 29) (pc' := 5) g_X12_260 (by decide) rfl rfl rfl dX12_give_2 rfl ?_
  obtain ⟨r1, h⟩ := h
  refine z_if_ne 12 dX12_give_5 (by decide) (pc' := 8) rfl r1 (fun c => ?_) (fun c => ?_)
  · have h := h.2 c
    rw [if_neg c] at k
    refine z_iload_n (pc' := 13) 1 rfl rfl dX12_give_12 rfl ?_
    refine z_iconst (pc' := 14) dX12_give_13 rfl ?_
    refine z_bipush (pc' := 16) (by decide) dX12_give_14 rfl ?_
    refine z_invS (as := [zI a0, zI 1, zI 50]) (st := [zR 0]) (C := m_X12_in) (pc' := 19) dX12_give_16 rfl t_7_17 k_X12_in rfl rfl (Nat.le_of_ble_eq_true rfl) ?_
    obtain ⟨r2, h⟩ := h
    refine c_M_in r2 ?_
    show z_Wp m_X12_give _ 19 [(0, zR 0), (1, zI a0)] [zI (F_M_in w a0 1 50), zR 0] w _
    refine z_if_eq 37 dX12_give_19 (by decide) (pc' := 22) rfl (z_rb b_M_in) (fun c => ?_) (fun c => ?_)
    · have h := h.1 c
      rw [if_pos c] at k
      refine z_iconst (pc' := 38) dX12_give_37 rfl ?_
      refine z_goto 42 dX12_give_38 (by decide) ?_
      refine z_invV (as := [zI 1]) (st := []) (C := m_X12_isRefused) (fs := [0, 3, 0, 0, 0, 0, 4, 5, 6, 7, 8, 9, 10, 0, 0, 11, 12, 13, 14, 15, 16, 0, 0, 0, 17, 18, 19, 20, 0, 0, 0, 21, 22, 0, 0, 23, 0, 1, 24, 0, 0, 25, 26, 0, 27, 0]) (pc' := 45) dX12_give_42 rfl t_7_227 k_X12_isRefused rfl (by decide) rfl rfl rfl rfl (Nat.le_of_ble_eq_true rfl) ?_
      obtain ⟨r3, h⟩ := h
      refine c_M_isRefused r3 ?_
      show z_Wp m_X12_give _ 45 [(0, zR 0), (1, zI a0)] [zI ((F_M_isRefused w 1).1)] ((F_M_isRefused w 1).2) _
      obtain ⟨r4, h⟩ := h
      refine z_if_eq 50 dX12_give_45 (by decide) (pc' := 48) rfl r4 (fun c => ?_) (fun c => ?_)
      · have h := h.1 c
        rw [if_pos c] at k
        refine z_aload_n (pc' := 51) 0 rfl rfl dX12_give_50 rfl ?_
        refine z_invV (as := []) (st := []) (C := m_X12_keep) (fs := [0, 3, 0, 0, 0, 0, 4, 5, 6, 7, 8, 9, 10, 0, 0, 11, 12, 13, 14, 15, 16, 0, 0, 0, 17, 18, 19, 20, 0, 0, 0, 21, 22, 0, 0, 23, 0, 1, 24, 0, 0, 25, 26, 0, 27, 0]) (pc' := 54) dX12_give_51 rfl t_7_231 k_X12_keep rfl (by decide) rfl rfl rfl rfl (Nat.le_of_ble_eq_true rfl) ?_
        have r5 := h
        refine c_M_keep r5 ?_
        show z_Wp m_X12_give _ 54 [(0, zR 0), (1, zI a0)] [] (F_M_keep ((F_M_isRefused w 1).2)) _
        refine z_aload_n (pc' := 55) 0 rfl rfl dX12_give_54 rfl ?_
        refine z_getR (t := 19) (pc' := 58) g_X12_64 (by decide) rfl rfl dX12_give_55 rfl ?_
        refine z_bipush (pc' := 60) (by decide) dX12_give_58 rfl ?_
        refine z_dup2 (pc' := 61) rfl rfl dX12_give_60 rfl ?_
        refine z_iald2 (v := (F_M_keep ((F_M_isRefused w 1).2)) 19 36) (pc' := 62) (by decide) rfl (by decide) (by decide) rfl dX12_give_61 rfl ?_
        refine z_iload_n (pc' := 63) 1 rfl rfl dX12_give_62 rfl ?_
        refine z_iadd (pc' := 64) dX12_give_63 rfl ?_
        refine z_iast2 (w' := z_up (F_M_keep ((F_M_isRefused w 1).2)) 19 36 (((F_M_keep ((F_M_isRefused w 1).2)) 19 36) + a0)) (pc' := 65) (by decide) rfl (by decide) (by decide) rfl dX12_give_64 rfl ?_
        refine z_aload_n (pc' := 66) 0 rfl rfl dX12_give_65 rfl ?_
        refine z_getR (t := 19) (pc' := 69) g_X12_64 (by decide) rfl rfl dX12_give_66 rfl ?_
        refine z_bipush (pc' := 71) (by decide) dX12_give_69 rfl ?_
        refine z_iald2 (v := ((F_M_keep ((F_M_isRefused w 1).2)) 19 36) + a0) (pc' := 72) (by decide) rfl (by decide) (by decide) rfl dX12_give_71 rfl ?_
        refine z_iret rfl dX12_give_72 ?_
        exact k
      · have h := h.2 c
        rw [if_neg c] at k
        refine z_iconst (pc' := 49) dX12_give_48 rfl ?_
        refine z_iret rfl dX12_give_49 ?_
        exact k
    · have h := h.2 c
      rw [if_neg c] at k
      refine z_aload_n (pc' := 23) 0 rfl rfl dX12_give_22 rfl ?_
      refine z_getR (t := 19) (pc' := 26) g_X12_64 (by decide) rfl rfl dX12_give_23 rfl ?_
      refine z_bipush (pc' := 28) (by decide) dX12_give_26 rfl ?_
      refine z_iald2 (v := w 19 36) (pc' := 29) (by decide) rfl (by decide) (by decide) rfl dX12_give_28 rfl ?_
      refine z_iload_n (pc' := 30) 1 rfl rfl dX12_give_29 rfl ?_
      refine z_iadd (pc' := 31) dX12_give_30 rfl ?_
      refine z_sipush (pc' := 34) (by decide) dX12_give_31 rfl ?_
      obtain ⟨r6, h⟩ := h
      refine z_icmp_le 41 dX12_give_34 (by decide) (pc' := 37) rfl r6 (by decide) (fun c => ?_) (fun c => ?_)
      · have h := h.1 c
        rw [if_pos c] at k
        refine z_iconst (pc' := 42) dX12_give_41 rfl ?_
        refine z_invV (as := [zI (-1)]) (st := []) (C := m_X12_isRefused) (fs := [0, 3, 0, 0, 0, 0, 4, 5, 6, 7, 8, 9, 10, 0, 0, 11, 12, 13, 14, 15, 16, 0, 0, 0, 17, 18, 19, 20, 0, 0, 0, 21, 22, 0, 0, 23, 0, 1, 24, 0, 0, 25, 26, 0, 27, 0]) (pc' := 45) dX12_give_42 rfl t_7_227 k_X12_isRefused rfl (by decide) rfl rfl rfl rfl (Nat.le_of_ble_eq_true rfl) ?_
        obtain ⟨r7, h⟩ := h
        refine c_M_isRefused r7 ?_
        show z_Wp m_X12_give _ 45 [(0, zR 0), (1, zI a0)] [zI ((F_M_isRefused w (-1)).1)] ((F_M_isRefused w (-1)).2) _
        obtain ⟨r8, h⟩ := h
        refine z_if_eq 50 dX12_give_45 (by decide) (pc' := 48) rfl r8 (fun c => ?_) (fun c => ?_)
        · have h := h.1 c
          rw [if_pos c] at k
          refine z_aload_n (pc' := 51) 0 rfl rfl dX12_give_50 rfl ?_
          refine z_invV (as := []) (st := []) (C := m_X12_keep) (fs := [0, 3, 0, 0, 0, 0, 4, 5, 6, 7, 8, 9, 10, 0, 0, 11, 12, 13, 14, 15, 16, 0, 0, 0, 17, 18, 19, 20, 0, 0, 0, 21, 22, 0, 0, 23, 0, 1, 24, 0, 0, 25, 26, 0, 27, 0]) (pc' := 54) dX12_give_51 rfl t_7_231 k_X12_keep rfl (by decide) rfl rfl rfl rfl (Nat.le_of_ble_eq_true rfl) ?_
          have r9 := h
          refine c_M_keep r9 ?_
          show z_Wp m_X12_give _ 54 [(0, zR 0), (1, zI a0)] [] (F_M_keep ((F_M_isRefused w (-1)).2)) _
          refine z_aload_n (pc' := 55) 0 rfl rfl dX12_give_54 rfl ?_
          refine z_getR (t := 19) (pc' := 58) g_X12_64 (by decide) rfl rfl dX12_give_55 rfl ?_
          refine z_bipush (pc' := 60) (by decide) dX12_give_58 rfl ?_
          refine z_dup2 (pc' := 61) rfl rfl dX12_give_60 rfl ?_
          refine z_iald2 (v := (F_M_keep ((F_M_isRefused w (-1)).2)) 19 36) (pc' := 62) (by decide) rfl (by decide) (by decide) rfl dX12_give_61 rfl ?_
          refine z_iload_n (pc' := 63) 1 rfl rfl dX12_give_62 rfl ?_
          refine z_iadd (pc' := 64) dX12_give_63 rfl ?_
          refine z_iast2 (w' := z_up (F_M_keep ((F_M_isRefused w (-1)).2)) 19 36 (((F_M_keep ((F_M_isRefused w (-1)).2)) 19 36) + a0)) (pc' := 65) (by decide) rfl (by decide) (by decide) rfl dX12_give_64 rfl ?_
          refine z_aload_n (pc' := 66) 0 rfl rfl dX12_give_65 rfl ?_
          refine z_getR (t := 19) (pc' := 69) g_X12_64 (by decide) rfl rfl dX12_give_66 rfl ?_
          refine z_bipush (pc' := 71) (by decide) dX12_give_69 rfl ?_
          refine z_iald2 (v := ((F_M_keep ((F_M_isRefused w (-1)).2)) 19 36) + a0) (pc' := 72) (by decide) rfl (by decide) (by decide) rfl dX12_give_71 rfl ?_
          refine z_iret rfl dX12_give_72 ?_
          exact k
        · have h := h.2 c
          rw [if_neg c] at k
          refine z_iconst (pc' := 49) dX12_give_48 rfl ?_
          refine z_iret rfl dX12_give_49 ?_
          exact k
      · have h := h.2 c
        rw [if_neg c] at k
        refine z_iconst (pc' := 38) dX12_give_37 rfl ?_
        refine z_goto 42 dX12_give_38 (by decide) ?_
        refine z_invV (as := [zI 1]) (st := []) (C := m_X12_isRefused) (fs := [0, 3, 0, 0, 0, 0, 4, 5, 6, 7, 8, 9, 10, 0, 0, 11, 12, 13, 14, 15, 16, 0, 0, 0, 17, 18, 19, 20, 0, 0, 0, 21, 22, 0, 0, 23, 0, 1, 24, 0, 0, 25, 26, 0, 27, 0]) (pc' := 45) dX12_give_42 rfl t_7_227 k_X12_isRefused rfl (by decide) rfl rfl rfl rfl (Nat.le_of_ble_eq_true rfl) ?_
        obtain ⟨r10, h⟩ := h
        refine c_M_isRefused r10 ?_
        show z_Wp m_X12_give _ 45 [(0, zR 0), (1, zI a0)] [zI ((F_M_isRefused w 1).1)] ((F_M_isRefused w 1).2) _
        obtain ⟨r11, h⟩ := h
        refine z_if_eq 50 dX12_give_45 (by decide) (pc' := 48) rfl r11 (fun c => ?_) (fun c => ?_)
        · have h := h.1 c
          rw [if_pos c] at k
          refine z_aload_n (pc' := 51) 0 rfl rfl dX12_give_50 rfl ?_
          refine z_invV (as := []) (st := []) (C := m_X12_keep) (fs := [0, 3, 0, 0, 0, 0, 4, 5, 6, 7, 8, 9, 10, 0, 0, 11, 12, 13, 14, 15, 16, 0, 0, 0, 17, 18, 19, 20, 0, 0, 0, 21, 22, 0, 0, 23, 0, 1, 24, 0, 0, 25, 26, 0, 27, 0]) (pc' := 54) dX12_give_51 rfl t_7_231 k_X12_keep rfl (by decide) rfl rfl rfl rfl (Nat.le_of_ble_eq_true rfl) ?_
          have r12 := h
          refine c_M_keep r12 ?_
          show z_Wp m_X12_give _ 54 [(0, zR 0), (1, zI a0)] [] (F_M_keep ((F_M_isRefused w 1).2)) _
          refine z_aload_n (pc' := 55) 0 rfl rfl dX12_give_54 rfl ?_
          refine z_getR (t := 19) (pc' := 58) g_X12_64 (by decide) rfl rfl dX12_give_55 rfl ?_
          refine z_bipush (pc' := 60) (by decide) dX12_give_58 rfl ?_
          refine z_dup2 (pc' := 61) rfl rfl dX12_give_60 rfl ?_
          refine z_iald2 (v := (F_M_keep ((F_M_isRefused w 1).2)) 19 36) (pc' := 62) (by decide) rfl (by decide) (by decide) rfl dX12_give_61 rfl ?_
          refine z_iload_n (pc' := 63) 1 rfl rfl dX12_give_62 rfl ?_
          refine z_iadd (pc' := 64) dX12_give_63 rfl ?_
          refine z_iast2 (w' := z_up (F_M_keep ((F_M_isRefused w 1).2)) 19 36 (((F_M_keep ((F_M_isRefused w 1).2)) 19 36) + a0)) (pc' := 65) (by decide) rfl (by decide) (by decide) rfl dX12_give_64 rfl ?_
          refine z_aload_n (pc' := 66) 0 rfl rfl dX12_give_65 rfl ?_
          refine z_getR (t := 19) (pc' := 69) g_X12_64 (by decide) rfl rfl dX12_give_66 rfl ?_
          refine z_bipush (pc' := 71) (by decide) dX12_give_69 rfl ?_
          refine z_iald2 (v := ((F_M_keep ((F_M_isRefused w 1).2)) 19 36) + a0) (pc' := 72) (by decide) rfl (by decide) (by decide) rfl dX12_give_71 rfl ?_
          refine z_iret rfl dX12_give_72 ?_
          exact k
        · have h := h.2 c
          rw [if_neg c] at k
          refine z_iconst (pc' := 49) dX12_give_48 rfl ?_
          refine z_iret rfl dX12_give_49 ?_
          exact k
  · have h := h.1 c
    rw [if_pos c] at k
    refine z_iconst (pc' := 9) dX12_give_8 rfl ?_
    refine z_goto 42 dX12_give_9 (by decide) ?_
    refine z_invV (as := [zI 0]) (st := []) (C := m_X12_isRefused) (fs := [0, 3, 0, 0, 0, 0, 4, 5, 6, 7, 8, 9, 10, 0, 0, 11, 12, 13, 14, 15, 16, 0, 0, 0, 17, 18, 19, 20, 0, 0, 0, 21, 22, 0, 0, 23, 0, 1, 24, 0, 0, 25, 26, 0, 27, 0]) (pc' := 45) dX12_give_42 rfl t_7_227 k_X12_isRefused rfl (by decide) rfl rfl rfl rfl (Nat.le_of_ble_eq_true rfl) ?_
    obtain ⟨r13, h⟩ := h
    refine c_M_isRefused r13 ?_
    show z_Wp m_X12_give _ 45 [(0, zR 0), (1, zI a0)] [zI ((F_M_isRefused w 0).1)] ((F_M_isRefused w 0).2) _
    obtain ⟨r14, h⟩ := h
    refine z_if_eq 50 dX12_give_45 (by decide) (pc' := 48) rfl r14 (fun c => ?_) (fun c => ?_)
    · have h := h.1 c
      rw [if_pos c] at k
      refine z_aload_n (pc' := 51) 0 rfl rfl dX12_give_50 rfl ?_
      refine z_invV (as := []) (st := []) (C := m_X12_keep) (fs := [0, 3, 0, 0, 0, 0, 4, 5, 6, 7, 8, 9, 10, 0, 0, 11, 12, 13, 14, 15, 16, 0, 0, 0, 17, 18, 19, 20, 0, 0, 0, 21, 22, 0, 0, 23, 0, 1, 24, 0, 0, 25, 26, 0, 27, 0]) (pc' := 54) dX12_give_51 rfl t_7_231 k_X12_keep rfl (by decide) rfl rfl rfl rfl (Nat.le_of_ble_eq_true rfl) ?_
      have r15 := h
      refine c_M_keep r15 ?_
      show z_Wp m_X12_give _ 54 [(0, zR 0), (1, zI a0)] [] (F_M_keep ((F_M_isRefused w 0).2)) _
      refine z_aload_n (pc' := 55) 0 rfl rfl dX12_give_54 rfl ?_
      refine z_getR (t := 19) (pc' := 58) g_X12_64 (by decide) rfl rfl dX12_give_55 rfl ?_
      refine z_bipush (pc' := 60) (by decide) dX12_give_58 rfl ?_
      refine z_dup2 (pc' := 61) rfl rfl dX12_give_60 rfl ?_
      refine z_iald2 (v := (F_M_keep ((F_M_isRefused w 0).2)) 19 36) (pc' := 62) (by decide) rfl (by decide) (by decide) rfl dX12_give_61 rfl ?_
      refine z_iload_n (pc' := 63) 1 rfl rfl dX12_give_62 rfl ?_
      refine z_iadd (pc' := 64) dX12_give_63 rfl ?_
      refine z_iast2 (w' := z_up (F_M_keep ((F_M_isRefused w 0).2)) 19 36 (((F_M_keep ((F_M_isRefused w 0).2)) 19 36) + a0)) (pc' := 65) (by decide) rfl (by decide) (by decide) rfl dX12_give_64 rfl ?_
      refine z_aload_n (pc' := 66) 0 rfl rfl dX12_give_65 rfl ?_
      refine z_getR (t := 19) (pc' := 69) g_X12_64 (by decide) rfl rfl dX12_give_66 rfl ?_
      refine z_bipush (pc' := 71) (by decide) dX12_give_69 rfl ?_
      refine z_iald2 (v := ((F_M_keep ((F_M_isRefused w 0).2)) 19 36) + a0) (pc' := 72) (by decide) rfl (by decide) (by decide) rfl dX12_give_71 rfl ?_
      refine z_iret rfl dX12_give_72 ?_
      exact k
    · have h := h.2 c
      rw [if_neg c] at k
      refine z_iconst (pc' := 49) dX12_give_48 rfl ?_
      refine z_iret rfl dX12_give_49 ?_
      exact k
def P_M_scratch (w : z_Wd) (a0 : Int) (a1 : Int) : Prop := (P_M_in w a0 0 ((w 0 28) - 1)) ∧ ((F_M_in w a0 0 ((w 0 28) - 1) = 0 → (P_M_isRefused w 0) ∧ (-2147483648 ≤ (F_M_isRefused w 0).1 ∧ (F_M_isRefused w 0).1 < 2147483648) ∧ (((F_M_isRefused w 0).1 = 0 → (P_M_keep ((F_M_isRefused w 0).2)) ∧ (P_M_scratchNow (F_M_keep ((F_M_isRefused w 0).2)) a0 a1)) ∧ (¬ ((F_M_isRefused w 0).1 = 0) → True))) ∧ (¬ (F_M_in w a0 0 ((w 0 28) - 1) = 0) → (P_M_in w a1 1 9) ∧ ((F_M_in w a1 1 9 = 0 → (P_M_isRefused w 1) ∧ (-2147483648 ≤ (F_M_isRefused w 1).1 ∧ (F_M_isRefused w 1).1 < 2147483648) ∧ (((F_M_isRefused w 1).1 = 0 → (P_M_keep ((F_M_isRefused w 1).2)) ∧ (P_M_scratchNow (F_M_keep ((F_M_isRefused w 1).2)) a0 a1)) ∧ (¬ ((F_M_isRefused w 1).1 = 0) → True))) ∧ (¬ (F_M_in w a1 1 9 = 0) → (0 ≤ a0 ∧ a0 < 160) ∧ (-2147483648 ≤ w 19 a0.toNat ∧ w 19 a0.toNat < 2147483648) ∧ ((w 19 a0.toNat = 0 → (P_M_isRefused w 2) ∧ (-2147483648 ≤ (F_M_isRefused w 2).1 ∧ (F_M_isRefused w 2).1 < 2147483648) ∧ (((F_M_isRefused w 2).1 = 0 → (P_M_keep ((F_M_isRefused w 2).2)) ∧ (P_M_scratchNow (F_M_keep ((F_M_isRefused w 2).2)) a0 a1)) ∧ (¬ ((F_M_isRefused w 2).1 = 0) → True))) ∧ (¬ (w 19 a0.toNat = 0) → (P_M_isRefused w (-1)) ∧ (-2147483648 ≤ (F_M_isRefused w (-1)).1 ∧ (F_M_isRefused w (-1)).1 < 2147483648) ∧ (((F_M_isRefused w (-1)).1 = 0 → (P_M_keep ((F_M_isRefused w (-1)).2)) ∧ (P_M_scratchNow (F_M_keep ((F_M_isRefused w (-1)).2)) a0 a1)) ∧ (¬ ((F_M_isRefused w (-1)).1 = 0) → True))))))))
def F_M_scratch (w : z_Wd) (a0 : Int) (a1 : Int) : Int × z_Wd := if F_M_in w a0 0 ((w 0 28) - 1) = 0 then if (F_M_isRefused w 0).1 = 0 then ((F_M_scratchNow (F_M_keep ((F_M_isRefused w 0).2)) a0 a1).1, (F_M_scratchNow (F_M_keep ((F_M_isRefused w 0).2)) a0 a1).2) else ((-2), (F_M_isRefused w 0).2) else if F_M_in w a1 1 9 = 0 then if (F_M_isRefused w 1).1 = 0 then ((F_M_scratchNow (F_M_keep ((F_M_isRefused w 1).2)) a0 a1).1, (F_M_scratchNow (F_M_keep ((F_M_isRefused w 1).2)) a0 a1).2) else ((-2), (F_M_isRefused w 1).2) else if w 19 a0.toNat = 0 then if (F_M_isRefused w 2).1 = 0 then ((F_M_scratchNow (F_M_keep ((F_M_isRefused w 2).2)) a0 a1).1, (F_M_scratchNow (F_M_keep ((F_M_isRefused w 2).2)) a0 a1).2) else ((-2), (F_M_isRefused w 2).2) else if (F_M_isRefused w (-1)).1 = 0 then ((F_M_scratchNow (F_M_keep ((F_M_isRefused w (-1)).2)) a0 a1).1, (F_M_scratchNow (F_M_keep ((F_M_isRefused w (-1)).2)) a0 a1).2) else ((-2), (F_M_isRefused w (-1)).2)
set_option maxRecDepth 4000 in
theorem c_M_scratch {d : Nat} {w : z_Wd} {a0 a1 : Int} {Q : Option z_V → z_Wd → Prop} (h : P_M_scratch w a0 a1) (k : Q (some (zI (F_M_scratch w a0 a1).1)) (F_M_scratch w a0 a1).2) : z_Wc (d + 5) m_X12_scratch [zR 0, zI a0, zI a1] w Q := by
  unfold P_M_scratch at h
  unfold F_M_scratch at k
  refine z_enter rfl (Nat.le_of_ble_eq_true rfl) ?_
  show z_Wp m_X12_scratch _ 0 [(0, zR 0), (1, zI a0), (2, zI a1)] [] w _
  refine z_aload_n (pc' := 1) 0 rfl rfl dX12_scratch_0 rfl ?_
  refine z_aload_n (pc' := 2) 0 rfl rfl dX12_scratch_1 rfl ?_
  refine z_iload_n (pc' := 3) 1 rfl rfl dX12_scratch_2 rfl ?_
  refine z_invV (as := [zI a0]) (st := [zR 0]) (C := m_X12_isWell) (fs := [0, 3, 0, 0, 0, 0, 4, 5, 6, 7, 8, 9, 10, 0, 0, 11, 12, 13, 14, 15, 16, 0, 0, 0, 17, 18, 19, 20, 0, 0, 0, 21, 22, 0, 0, 23, 0, 1, 24, 0, 0, 25, 26, 0, 27, 0]) (pc' := 6) dX12_scratch_3 rfl t_7_191 k_X12_isWell rfl (by decide) rfl rfl rfl rfl (Nat.le_of_ble_eq_true rfl) ?_
  obtain ⟨r1, h⟩ := h
  refine c_M_isWell r1 ?_
  show z_Wp m_X12_scratch _ 6 [(0, zR 0), (1, zI a0), (2, zI a1)] [zI (F_M_in w a0 0 ((w 0 28) - 1)), zR 0] w _
  refine z_if_ne 13 dX12_scratch_6 (by decide) (pc' := 9) rfl (z_rb b_M_in) (fun c => ?_) (fun c => ?_)
  · have h := h.2 c
    rw [if_neg c] at k
    refine z_iload_n (pc' := 14) 2 rfl rfl dX12_scratch_13 rfl ?_
    refine z_iconst (pc' := 15) dX12_scratch_14 rfl ?_
    refine z_bipush (pc' := 17) (by decide) dX12_scratch_15 rfl ?_
    refine z_invS (as := [zI a1, zI 1, zI 9]) (st := [zR 0]) (C := m_X12_in) (pc' := 20) dX12_scratch_17 rfl t_7_17 k_X12_in rfl rfl (Nat.le_of_ble_eq_true rfl) ?_
    obtain ⟨r2, h⟩ := h
    refine c_M_in r2 ?_
    show z_Wp m_X12_scratch _ 20 [(0, zR 0), (1, zI a0), (2, zI a1)] [zI (F_M_in w a1 1 9), zR 0] w _
    refine z_if_ne 27 dX12_scratch_20 (by decide) (pc' := 23) rfl (z_rb b_M_in) (fun c => ?_) (fun c => ?_)
    · have h := h.2 c
      rw [if_neg c] at k
      refine z_aload_n (pc' := 28) 0 rfl rfl dX12_scratch_27 rfl ?_
      refine z_getR (t := 19) (pc' := 31) g_X12_64 (by decide) rfl rfl dX12_scratch_28 rfl ?_
      refine z_iconst (pc' := 32) dX12_scratch_31 rfl ?_
      refine z_iload_n (pc' := 33) 1 rfl rfl dX12_scratch_32 rfl ?_
      refine z_iadd (pc' := 34) dX12_scratch_33 rfl ?_
      refine z_eqI (y := a0) (by omega) ?_
      obtain ⟨r3, h⟩ := h
      refine z_iald2 (v := w 19 a0.toNat) (pc' := 35) (by decide) rfl r3 (by decide) rfl dX12_scratch_34 rfl ?_
      obtain ⟨r4, h⟩ := h
      refine z_if_ne 42 dX12_scratch_35 (by decide) (pc' := 38) rfl r4 (fun c => ?_) (fun c => ?_)
      · have h := h.2 c
        rw [if_neg c] at k
        refine z_iconst (pc' := 43) dX12_scratch_42 rfl ?_
        refine z_invV (as := [zI (-1)]) (st := []) (C := m_X12_isRefused) (fs := [0, 3, 0, 0, 0, 0, 4, 5, 6, 7, 8, 9, 10, 0, 0, 11, 12, 13, 14, 15, 16, 0, 0, 0, 17, 18, 19, 20, 0, 0, 0, 21, 22, 0, 0, 23, 0, 1, 24, 0, 0, 25, 26, 0, 27, 0]) (pc' := 46) dX12_scratch_43 rfl t_7_227 k_X12_isRefused rfl (by decide) rfl rfl rfl rfl (Nat.le_of_ble_eq_true rfl) ?_
        obtain ⟨r5, h⟩ := h
        refine c_M_isRefused r5 ?_
        show z_Wp m_X12_scratch _ 46 [(0, zR 0), (1, zI a0), (2, zI a1)] [zI ((F_M_isRefused w (-1)).1)] ((F_M_isRefused w (-1)).2) _
        obtain ⟨r6, h⟩ := h
        refine z_if_eq 52 dX12_scratch_46 (by decide) (pc' := 49) rfl r6 (fun c => ?_) (fun c => ?_)
        · have h := h.1 c
          rw [if_pos c] at k
          refine z_aload_n (pc' := 53) 0 rfl rfl dX12_scratch_52 rfl ?_
          refine z_invV (as := []) (st := []) (C := m_X12_keep) (fs := [0, 3, 0, 0, 0, 0, 4, 5, 6, 7, 8, 9, 10, 0, 0, 11, 12, 13, 14, 15, 16, 0, 0, 0, 17, 18, 19, 20, 0, 0, 0, 21, 22, 0, 0, 23, 0, 1, 24, 0, 0, 25, 26, 0, 27, 0]) (pc' := 56) dX12_scratch_53 rfl t_7_231 k_X12_keep rfl (by decide) rfl rfl rfl rfl (Nat.le_of_ble_eq_true rfl) ?_
          obtain ⟨r7, h⟩ := h
          refine c_M_keep r7 ?_
          show z_Wp m_X12_scratch _ 56 [(0, zR 0), (1, zI a0), (2, zI a1)] [] (F_M_keep ((F_M_isRefused w (-1)).2)) _
          refine z_aload_n (pc' := 57) 0 rfl rfl dX12_scratch_56 rfl ?_
          refine z_iload_n (pc' := 58) 1 rfl rfl dX12_scratch_57 rfl ?_
          refine z_iload_n (pc' := 59) 2 rfl rfl dX12_scratch_58 rfl ?_
          refine z_invV (as := [zI a0, zI a1]) (st := []) (C := m_X12_scratchNow) (fs := [0, 3, 0, 0, 0, 0, 4, 5, 6, 7, 8, 9, 10, 0, 0, 11, 12, 13, 14, 15, 16, 0, 0, 0, 17, 18, 19, 20, 0, 0, 0, 21, 22, 0, 0, 23, 0, 1, 24, 0, 0, 25, 26, 0, 27, 0]) (pc' := 62) dX12_scratch_59 rfl t_8_3 k_X12_scratchNow rfl (by decide) rfl rfl rfl rfl (Nat.le_of_ble_eq_true rfl) ?_
          have r8 := h
          refine c_M_scratchNow r8 ?_
          show z_Wp m_X12_scratch _ 62 [(0, zR 0), (1, zI a0), (2, zI a1)] [zI ((F_M_scratchNow (F_M_keep ((F_M_isRefused w (-1)).2)) a0 a1).1)] ((F_M_scratchNow (F_M_keep ((F_M_isRefused w (-1)).2)) a0 a1).2) _
          refine z_iret rfl dX12_scratch_62 ?_
          exact k
        · have h := h.2 c
          rw [if_neg c] at k
          refine z_bipush (pc' := 51) (by decide) dX12_scratch_49 rfl ?_
          refine z_iret rfl dX12_scratch_51 ?_
          exact k
      · have h := h.1 c
        rw [if_pos c] at k
        refine z_iconst (pc' := 39) dX12_scratch_38 rfl ?_
        refine z_goto 43 dX12_scratch_39 (by decide) ?_
        refine z_invV (as := [zI 2]) (st := []) (C := m_X12_isRefused) (fs := [0, 3, 0, 0, 0, 0, 4, 5, 6, 7, 8, 9, 10, 0, 0, 11, 12, 13, 14, 15, 16, 0, 0, 0, 17, 18, 19, 20, 0, 0, 0, 21, 22, 0, 0, 23, 0, 1, 24, 0, 0, 25, 26, 0, 27, 0]) (pc' := 46) dX12_scratch_43 rfl t_7_227 k_X12_isRefused rfl (by decide) rfl rfl rfl rfl (Nat.le_of_ble_eq_true rfl) ?_
        obtain ⟨r9, h⟩ := h
        refine c_M_isRefused r9 ?_
        show z_Wp m_X12_scratch _ 46 [(0, zR 0), (1, zI a0), (2, zI a1)] [zI ((F_M_isRefused w 2).1)] ((F_M_isRefused w 2).2) _
        obtain ⟨r10, h⟩ := h
        refine z_if_eq 52 dX12_scratch_46 (by decide) (pc' := 49) rfl r10 (fun c => ?_) (fun c => ?_)
        · have h := h.1 c
          rw [if_pos c] at k
          refine z_aload_n (pc' := 53) 0 rfl rfl dX12_scratch_52 rfl ?_
          refine z_invV (as := []) (st := []) (C := m_X12_keep) (fs := [0, 3, 0, 0, 0, 0, 4, 5, 6, 7, 8, 9, 10, 0, 0, 11, 12, 13, 14, 15, 16, 0, 0, 0, 17, 18, 19, 20, 0, 0, 0, 21, 22, 0, 0, 23, 0, 1, 24, 0, 0, 25, 26, 0, 27, 0]) (pc' := 56) dX12_scratch_53 rfl t_7_231 k_X12_keep rfl (by decide) rfl rfl rfl rfl (Nat.le_of_ble_eq_true rfl) ?_
          obtain ⟨r11, h⟩ := h
          refine c_M_keep r11 ?_
          show z_Wp m_X12_scratch _ 56 [(0, zR 0), (1, zI a0), (2, zI a1)] [] (F_M_keep ((F_M_isRefused w 2).2)) _
          refine z_aload_n (pc' := 57) 0 rfl rfl dX12_scratch_56 rfl ?_
          refine z_iload_n (pc' := 58) 1 rfl rfl dX12_scratch_57 rfl ?_
          refine z_iload_n (pc' := 59) 2 rfl rfl dX12_scratch_58 rfl ?_
          refine z_invV (as := [zI a0, zI a1]) (st := []) (C := m_X12_scratchNow) (fs := [0, 3, 0, 0, 0, 0, 4, 5, 6, 7, 8, 9, 10, 0, 0, 11, 12, 13, 14, 15, 16, 0, 0, 0, 17, 18, 19, 20, 0, 0, 0, 21, 22, 0, 0, 23, 0, 1, 24, 0, 0, 25, 26, 0, 27, 0]) (pc' := 62) dX12_scratch_59 rfl t_8_3 k_X12_scratchNow rfl (by decide) rfl rfl rfl rfl (Nat.le_of_ble_eq_true rfl) ?_
          have r12 := h
          refine c_M_scratchNow r12 ?_
          show z_Wp m_X12_scratch _ 62 [(0, zR 0), (1, zI a0), (2, zI a1)] [zI ((F_M_scratchNow (F_M_keep ((F_M_isRefused w 2).2)) a0 a1).1)] ((F_M_scratchNow (F_M_keep ((F_M_isRefused w 2).2)) a0 a1).2) _
          refine z_iret rfl dX12_scratch_62 ?_
          exact k
        · have h := h.2 c
          rw [if_neg c] at k
          refine z_bipush (pc' := 51) (by decide) dX12_scratch_49 rfl ?_
          refine z_iret rfl dX12_scratch_51 ?_
          exact k
    · have h := h.1 c
      rw [if_pos c] at k
      refine z_iconst (pc' := 24) dX12_scratch_23 rfl ?_
      refine z_goto 43 dX12_scratch_24 (by decide) ?_
      refine z_invV (as := [zI 1]) (st := []) (C := m_X12_isRefused) (fs := [0, 3, 0, 0, 0, 0, 4, 5, 6, 7, 8, 9, 10, 0, 0, 11, 12, 13, 14, 15, 16, 0, 0, 0, 17, 18, 19, 20, 0, 0, 0, 21, 22, 0, 0, 23, 0, 1, 24, 0, 0, 25, 26, 0, 27, 0]) (pc' := 46) dX12_scratch_43 rfl t_7_227 k_X12_isRefused rfl (by decide) rfl rfl rfl rfl (Nat.le_of_ble_eq_true rfl) ?_
      obtain ⟨r13, h⟩ := h
      refine c_M_isRefused r13 ?_
      show z_Wp m_X12_scratch _ 46 [(0, zR 0), (1, zI a0), (2, zI a1)] [zI ((F_M_isRefused w 1).1)] ((F_M_isRefused w 1).2) _
      obtain ⟨r14, h⟩ := h
      refine z_if_eq 52 dX12_scratch_46 (by decide) (pc' := 49) rfl r14 (fun c => ?_) (fun c => ?_)
      · have h := h.1 c
        rw [if_pos c] at k
        refine z_aload_n (pc' := 53) 0 rfl rfl dX12_scratch_52 rfl ?_
        refine z_invV (as := []) (st := []) (C := m_X12_keep) (fs := [0, 3, 0, 0, 0, 0, 4, 5, 6, 7, 8, 9, 10, 0, 0, 11, 12, 13, 14, 15, 16, 0, 0, 0, 17, 18, 19, 20, 0, 0, 0, 21, 22, 0, 0, 23, 0, 1, 24, 0, 0, 25, 26, 0, 27, 0]) (pc' := 56) dX12_scratch_53 rfl t_7_231 k_X12_keep rfl (by decide) rfl rfl rfl rfl (Nat.le_of_ble_eq_true rfl) ?_
        obtain ⟨r15, h⟩ := h
        refine c_M_keep r15 ?_
        show z_Wp m_X12_scratch _ 56 [(0, zR 0), (1, zI a0), (2, zI a1)] [] (F_M_keep ((F_M_isRefused w 1).2)) _
        refine z_aload_n (pc' := 57) 0 rfl rfl dX12_scratch_56 rfl ?_
        refine z_iload_n (pc' := 58) 1 rfl rfl dX12_scratch_57 rfl ?_
        refine z_iload_n (pc' := 59) 2 rfl rfl dX12_scratch_58 rfl ?_
        refine z_invV (as := [zI a0, zI a1]) (st := []) (C := m_X12_scratchNow) (fs := [0, 3, 0, 0, 0, 0, 4, 5, 6, 7, 8, 9, 10, 0, 0, 11, 12, 13, 14, 15, 16, 0, 0, 0, 17, 18, 19, 20, 0, 0, 0, 21, 22, 0, 0, 23, 0, 1, 24, 0, 0, 25, 26, 0, 27, 0]) (pc' := 62) dX12_scratch_59 rfl t_8_3 k_X12_scratchNow rfl (by decide) rfl rfl rfl rfl (Nat.le_of_ble_eq_true rfl) ?_
        have r16 := h
        refine c_M_scratchNow r16 ?_
        show z_Wp m_X12_scratch _ 62 [(0, zR 0), (1, zI a0), (2, zI a1)] [zI ((F_M_scratchNow (F_M_keep ((F_M_isRefused w 1).2)) a0 a1).1)] ((F_M_scratchNow (F_M_keep ((F_M_isRefused w 1).2)) a0 a1).2) _
        refine z_iret rfl dX12_scratch_62 ?_
        exact k
      · have h := h.2 c
        rw [if_neg c] at k
        refine z_bipush (pc' := 51) (by decide) dX12_scratch_49 rfl ?_
        refine z_iret rfl dX12_scratch_51 ?_
        exact k
  · have h := h.1 c
    rw [if_pos c] at k
    refine z_iconst (pc' := 10) dX12_scratch_9 rfl ?_
    refine z_goto 43 dX12_scratch_10 (by decide) ?_
    refine z_invV (as := [zI 0]) (st := []) (C := m_X12_isRefused) (fs := [0, 3, 0, 0, 0, 0, 4, 5, 6, 7, 8, 9, 10, 0, 0, 11, 12, 13, 14, 15, 16, 0, 0, 0, 17, 18, 19, 20, 0, 0, 0, 21, 22, 0, 0, 23, 0, 1, 24, 0, 0, 25, 26, 0, 27, 0]) (pc' := 46) dX12_scratch_43 rfl t_7_227 k_X12_isRefused rfl (by decide) rfl rfl rfl rfl (Nat.le_of_ble_eq_true rfl) ?_
    obtain ⟨r17, h⟩ := h
    refine c_M_isRefused r17 ?_
    show z_Wp m_X12_scratch _ 46 [(0, zR 0), (1, zI a0), (2, zI a1)] [zI ((F_M_isRefused w 0).1)] ((F_M_isRefused w 0).2) _
    obtain ⟨r18, h⟩ := h
    refine z_if_eq 52 dX12_scratch_46 (by decide) (pc' := 49) rfl r18 (fun c => ?_) (fun c => ?_)
    · have h := h.1 c
      rw [if_pos c] at k
      refine z_aload_n (pc' := 53) 0 rfl rfl dX12_scratch_52 rfl ?_
      refine z_invV (as := []) (st := []) (C := m_X12_keep) (fs := [0, 3, 0, 0, 0, 0, 4, 5, 6, 7, 8, 9, 10, 0, 0, 11, 12, 13, 14, 15, 16, 0, 0, 0, 17, 18, 19, 20, 0, 0, 0, 21, 22, 0, 0, 23, 0, 1, 24, 0, 0, 25, 26, 0, 27, 0]) (pc' := 56) dX12_scratch_53 rfl t_7_231 k_X12_keep rfl (by decide) rfl rfl rfl rfl (Nat.le_of_ble_eq_true rfl) ?_
      obtain ⟨r19, h⟩ := h
      refine c_M_keep r19 ?_
      show z_Wp m_X12_scratch _ 56 [(0, zR 0), (1, zI a0), (2, zI a1)] [] (F_M_keep ((F_M_isRefused w 0).2)) _
      refine z_aload_n (pc' := 57) 0 rfl rfl dX12_scratch_56 rfl ?_
      refine z_iload_n (pc' := 58) 1 rfl rfl dX12_scratch_57 rfl ?_
      refine z_iload_n (pc' := 59) 2 rfl rfl dX12_scratch_58 rfl ?_
      refine z_invV (as := [zI a0, zI a1]) (st := []) (C := m_X12_scratchNow) (fs := [0, 3, 0, 0, 0, 0, 4, 5, 6, 7, 8, 9, 10, 0, 0, 11, 12, 13, 14, 15, 16, 0, 0, 0, 17, 18, 19, 20, 0, 0, 0, 21, 22, 0, 0, 23, 0, 1, 24, 0, 0, 25, 26, 0, 27, 0]) (pc' := 62) dX12_scratch_59 rfl t_8_3 k_X12_scratchNow rfl (by decide) rfl rfl rfl rfl (Nat.le_of_ble_eq_true rfl) ?_
      have r20 := h
      refine c_M_scratchNow r20 ?_
      show z_Wp m_X12_scratch _ 62 [(0, zR 0), (1, zI a0), (2, zI a1)] [zI ((F_M_scratchNow (F_M_keep ((F_M_isRefused w 0).2)) a0 a1).1)] ((F_M_scratchNow (F_M_keep ((F_M_isRefused w 0).2)) a0 a1).2) _
      refine z_iret rfl dX12_scratch_62 ?_
      exact k
    · have h := h.2 c
      rw [if_neg c] at k
      refine z_bipush (pc' := 51) (by decide) dX12_scratch_49 rfl ?_
      refine z_iret rfl dX12_scratch_51 ?_
      exact k
def P_M_dip (w : z_Wd) (a0 : Int) (a1 : Int) : Prop := (P_M_in w a0 0 ((w 0 29) - 1)) ∧ ((F_M_in w a0 0 ((w 0 29) - 1) = 0 → (P_M_isRefused w 0) ∧ (-2147483648 ≤ (F_M_isRefused w 0).1 ∧ (F_M_isRefused w 0).1 < 2147483648) ∧ (((F_M_isRefused w 0).1 = 0 → (P_M_keep ((F_M_isRefused w 0).2)) ∧ (P_M_dipNow (F_M_keep ((F_M_isRefused w 0).2)) a0 a1) ∧ ((0 ≤ 32 + a1 ∧ 32 + a1 < 160) ∧ (P_M_dropsIn (F_M_dipNow (F_M_keep ((F_M_isRefused w 0).2)) a0 a1) a1))) ∧ (¬ ((F_M_isRefused w 0).1 = 0) → True))) ∧ (¬ (F_M_in w a0 0 ((w 0 29) - 1) = 0) → (P_M_in w a1 0 ((w 0 28) - 1)) ∧ ((F_M_in w a1 0 ((w 0 28) - 1) = 0 → (P_M_isRefused w 0) ∧ (-2147483648 ≤ (F_M_isRefused w 0).1 ∧ (F_M_isRefused w 0).1 < 2147483648) ∧ (((F_M_isRefused w 0).1 = 0 → (P_M_keep ((F_M_isRefused w 0).2)) ∧ (P_M_dipNow (F_M_keep ((F_M_isRefused w 0).2)) a0 a1) ∧ ((0 ≤ 32 + a1 ∧ 32 + a1 < 160) ∧ (P_M_dropsIn (F_M_dipNow (F_M_keep ((F_M_isRefused w 0).2)) a0 a1) a1))) ∧ (¬ ((F_M_isRefused w 0).1 = 0) → True))) ∧ (¬ (F_M_in w a1 0 ((w 0 28) - 1) = 0) → (P_M_isFree w a0) ∧ ((F_M_isFree w a0 = 0 → (P_M_isRefused w 2) ∧ (-2147483648 ≤ (F_M_isRefused w 2).1 ∧ (F_M_isRefused w 2).1 < 2147483648) ∧ (((F_M_isRefused w 2).1 = 0 → (P_M_keep ((F_M_isRefused w 2).2)) ∧ (P_M_dipNow (F_M_keep ((F_M_isRefused w 2).2)) a0 a1) ∧ ((0 ≤ 32 + a1 ∧ 32 + a1 < 160) ∧ (P_M_dropsIn (F_M_dipNow (F_M_keep ((F_M_isRefused w 2).2)) a0 a1) a1))) ∧ (¬ ((F_M_isRefused w 2).1 = 0) → True))) ∧ (¬ (F_M_isFree w a0 = 0) → (P_M_fits w a0 a1) ∧ ((F_M_fits w a0 a1 = 0 → (P_M_isRefused w 3) ∧ (-2147483648 ≤ (F_M_isRefused w 3).1 ∧ (F_M_isRefused w 3).1 < 2147483648) ∧ (((F_M_isRefused w 3).1 = 0 → (P_M_keep ((F_M_isRefused w 3).2)) ∧ (P_M_dipNow (F_M_keep ((F_M_isRefused w 3).2)) a0 a1) ∧ ((0 ≤ 32 + a1 ∧ 32 + a1 < 160) ∧ (P_M_dropsIn (F_M_dipNow (F_M_keep ((F_M_isRefused w 3).2)) a0 a1) a1))) ∧ (¬ ((F_M_isRefused w 3).1 = 0) → True))) ∧ (¬ (F_M_fits w a0 a1 = 0) → (P_M_isRefused w (-1)) ∧ (-2147483648 ≤ (F_M_isRefused w (-1)).1 ∧ (F_M_isRefused w (-1)).1 < 2147483648) ∧ (((F_M_isRefused w (-1)).1 = 0 → (P_M_keep ((F_M_isRefused w (-1)).2)) ∧ (P_M_dipNow (F_M_keep ((F_M_isRefused w (-1)).2)) a0 a1) ∧ ((0 ≤ 32 + a1 ∧ 32 + a1 < 160) ∧ (P_M_dropsIn (F_M_dipNow (F_M_keep ((F_M_isRefused w (-1)).2)) a0 a1) a1))) ∧ (¬ ((F_M_isRefused w (-1)).1 = 0) → True))))))))))
def F_M_dip (w : z_Wd) (a0 : Int) (a1 : Int) : Int × z_Wd := if F_M_in w a0 0 ((w 0 29) - 1) = 0 then if (F_M_isRefused w 0).1 = 0 then (((F_M_dipNow (F_M_keep ((F_M_isRefused w 0).2)) a0 a1) 19 ((32 + a1).toNat)) - (F_M_dropsIn (F_M_dipNow (F_M_keep ((F_M_isRefused w 0).2)) a0 a1) a1), F_M_dipNow (F_M_keep ((F_M_isRefused w 0).2)) a0 a1) else ((-1), (F_M_isRefused w 0).2) else if F_M_in w a1 0 ((w 0 28) - 1) = 0 then if (F_M_isRefused w 0).1 = 0 then (((F_M_dipNow (F_M_keep ((F_M_isRefused w 0).2)) a0 a1) 19 ((32 + a1).toNat)) - (F_M_dropsIn (F_M_dipNow (F_M_keep ((F_M_isRefused w 0).2)) a0 a1) a1), F_M_dipNow (F_M_keep ((F_M_isRefused w 0).2)) a0 a1) else ((-1), (F_M_isRefused w 0).2) else if F_M_isFree w a0 = 0 then if (F_M_isRefused w 2).1 = 0 then (((F_M_dipNow (F_M_keep ((F_M_isRefused w 2).2)) a0 a1) 19 ((32 + a1).toNat)) - (F_M_dropsIn (F_M_dipNow (F_M_keep ((F_M_isRefused w 2).2)) a0 a1) a1), F_M_dipNow (F_M_keep ((F_M_isRefused w 2).2)) a0 a1) else ((-1), (F_M_isRefused w 2).2) else if F_M_fits w a0 a1 = 0 then if (F_M_isRefused w 3).1 = 0 then (((F_M_dipNow (F_M_keep ((F_M_isRefused w 3).2)) a0 a1) 19 ((32 + a1).toNat)) - (F_M_dropsIn (F_M_dipNow (F_M_keep ((F_M_isRefused w 3).2)) a0 a1) a1), F_M_dipNow (F_M_keep ((F_M_isRefused w 3).2)) a0 a1) else ((-1), (F_M_isRefused w 3).2) else if (F_M_isRefused w (-1)).1 = 0 then (((F_M_dipNow (F_M_keep ((F_M_isRefused w (-1)).2)) a0 a1) 19 ((32 + a1).toNat)) - (F_M_dropsIn (F_M_dipNow (F_M_keep ((F_M_isRefused w (-1)).2)) a0 a1) a1), F_M_dipNow (F_M_keep ((F_M_isRefused w (-1)).2)) a0 a1) else ((-1), (F_M_isRefused w (-1)).2)
set_option maxRecDepth 4000 in
theorem c_M_dip {d : Nat} {w : z_Wd} {a0 a1 : Int} {Q : Option z_V → z_Wd → Prop} (h : P_M_dip w a0 a1) (k : Q (some (zI (F_M_dip w a0 a1).1)) (F_M_dip w a0 a1).2) : z_Wc (d + 5) m_X12_dip [zR 0, zI a0, zI a1] w Q := by
  unfold P_M_dip at h
  unfold F_M_dip at k
  refine z_enter rfl (Nat.le_of_ble_eq_true rfl) ?_
  show z_Wp m_X12_dip _ 0 [(0, zR 0), (1, zI a0), (2, zI a1)] [] w _
  refine z_aload_n (pc' := 1) 0 rfl rfl dX12_dip_0 rfl ?_
  refine z_aload_n (pc' := 2) 0 rfl rfl dX12_dip_1 rfl ?_
  refine z_iload_n (pc' := 3) 1 rfl rfl dX12_dip_2 rfl ?_
  refine z_invV (as := [zI a0]) (st := [zR 0]) (C := m_X12_isName) (fs := [0, 3, 0, 0, 0, 0, 4, 5, 6, 7, 8, 9, 10, 0, 0, 11, 12, 13, 14, 15, 16, 0, 0, 0, 17, 18, 19, 20, 0, 0, 0, 21, 22, 0, 0, 23, 0, 1, 24, 0, 0, 25, 26, 0, 27, 0]) (pc' := 6) dX12_dip_3 rfl t_7_110 k_X12_isName rfl (by decide) rfl rfl rfl rfl (Nat.le_of_ble_eq_true rfl) ?_
  obtain ⟨r1, h⟩ := h
  refine c_M_isName r1 ?_
  show z_Wp m_X12_dip _ 6 [(0, zR 0), (1, zI a0), (2, zI a1)] [zI (F_M_in w a0 0 ((w 0 29) - 1)), zR 0] w _
  refine z_if_eq 17 dX12_dip_6 (by decide) (pc' := 9) rfl (z_rb b_M_in) (fun c => ?_) (fun c => ?_)
  · have h := h.1 c
    rw [if_pos c] at k
    refine z_iconst (pc' := 18) dX12_dip_17 rfl ?_
    refine z_goto 47 dX12_dip_18 (by decide) ?_
    refine z_invV (as := [zI 0]) (st := []) (C := m_X12_isRefused) (fs := [0, 3, 0, 0, 0, 0, 4, 5, 6, 7, 8, 9, 10, 0, 0, 11, 12, 13, 14, 15, 16, 0, 0, 0, 17, 18, 19, 20, 0, 0, 0, 21, 22, 0, 0, 23, 0, 1, 24, 0, 0, 25, 26, 0, 27, 0]) (pc' := 50) dX12_dip_47 rfl t_7_227 k_X12_isRefused rfl (by decide) rfl rfl rfl rfl (Nat.le_of_ble_eq_true rfl) ?_
    obtain ⟨r2, h⟩ := h
    refine c_M_isRefused r2 ?_
    show z_Wp m_X12_dip _ 50 [(0, zR 0), (1, zI a0), (2, zI a1)] [zI ((F_M_isRefused w 0).1)] ((F_M_isRefused w 0).2) _
    obtain ⟨r3, h⟩ := h
    refine z_if_eq 55 dX12_dip_50 (by decide) (pc' := 53) rfl r3 (fun c => ?_) (fun c => ?_)
    · have h := h.1 c
      rw [if_pos c] at k
      refine z_aload_n (pc' := 56) 0 rfl rfl dX12_dip_55 rfl ?_
      refine z_invV (as := []) (st := []) (C := m_X12_keep) (fs := [0, 3, 0, 0, 0, 0, 4, 5, 6, 7, 8, 9, 10, 0, 0, 11, 12, 13, 14, 15, 16, 0, 0, 0, 17, 18, 19, 20, 0, 0, 0, 21, 22, 0, 0, 23, 0, 1, 24, 0, 0, 25, 26, 0, 27, 0]) (pc' := 59) dX12_dip_56 rfl t_7_231 k_X12_keep rfl (by decide) rfl rfl rfl rfl (Nat.le_of_ble_eq_true rfl) ?_
      obtain ⟨r4, h⟩ := h
      refine c_M_keep r4 ?_
      show z_Wp m_X12_dip _ 59 [(0, zR 0), (1, zI a0), (2, zI a1)] [] (F_M_keep ((F_M_isRefused w 0).2)) _
      refine z_aload_n (pc' := 60) 0 rfl rfl dX12_dip_59 rfl ?_
      refine z_iload_n (pc' := 61) 1 rfl rfl dX12_dip_60 rfl ?_
      refine z_iload_n (pc' := 62) 2 rfl rfl dX12_dip_61 rfl ?_
      refine z_invV (as := [zI a0, zI a1]) (st := []) (C := m_X12_dipNow) (fs := [0, 3, 0, 0, 0, 0, 4, 5, 6, 7, 8, 9, 10, 0, 0, 11, 12, 13, 14, 15, 16, 0, 0, 0, 17, 18, 19, 20, 0, 0, 0, 21, 22, 0, 0, 23, 0, 1, 24, 0, 0, 25, 26, 0, 27, 0]) (pc' := 65) dX12_dip_62 rfl t_7_235 k_X12_dipNow rfl (by decide) rfl rfl rfl rfl (Nat.le_of_ble_eq_true rfl) ?_
      obtain ⟨r5, h⟩ := h
      refine c_M_dipNow r5 ?_
      show z_Wp m_X12_dip _ 65 [(0, zR 0), (1, zI a0), (2, zI a1)] [] (F_M_dipNow (F_M_keep ((F_M_isRefused w 0).2)) a0 a1) _
      refine z_aload_n (pc' := 66) 0 rfl rfl dX12_dip_65 rfl ?_
      refine z_iload_n (pc' := 67) 2 rfl rfl dX12_dip_66 rfl ?_
      refine z_invV (as := [zI a1]) (st := []) (C := m_X12_roomOf) (fs := [0, 3, 0, 0, 0, 0, 4, 5, 6, 7, 8, 9, 10, 0, 0, 11, 12, 13, 14, 15, 16, 0, 0, 0, 17, 18, 19, 20, 0, 0, 0, 21, 22, 0, 0, 23, 0, 1, 24, 0, 0, 25, 26, 0, 27, 0]) (pc' := 70) dX12_dip_67 rfl t_7_195 k_X12_roomOf rfl (by decide) rfl rfl rfl rfl (Nat.le_of_ble_eq_true rfl) ?_
      have r6 := h
      refine c_M_roomOf r6 ?_
      show z_Wp m_X12_dip _ 70 [(0, zR 0), (1, zI a0), (2, zI a1)] [zI (((F_M_dipNow (F_M_keep ((F_M_isRefused w 0).2)) a0 a1) 19 ((32 + a1).toNat)) - (F_M_dropsIn (F_M_dipNow (F_M_keep ((F_M_isRefused w 0).2)) a0 a1) a1))] (F_M_dipNow (F_M_keep ((F_M_isRefused w 0).2)) a0 a1) _
      refine z_iret rfl dX12_dip_70 ?_
      exact k
    · have h := h.2 c
      rw [if_neg c] at k
      refine z_iconst (pc' := 54) dX12_dip_53 rfl ?_
      refine z_iret rfl dX12_dip_54 ?_
      exact k
  · have h := h.2 c
    rw [if_neg c] at k
    refine z_aload_n (pc' := 10) 0 rfl rfl dX12_dip_9 rfl ?_
    refine z_iload_n (pc' := 11) 2 rfl rfl dX12_dip_10 rfl ?_
    refine z_invV (as := [zI a1]) (st := [zR 0]) (C := m_X12_isWell) (fs := [0, 3, 0, 0, 0, 0, 4, 5, 6, 7, 8, 9, 10, 0, 0, 11, 12, 13, 14, 15, 16, 0, 0, 0, 17, 18, 19, 20, 0, 0, 0, 21, 22, 0, 0, 23, 0, 1, 24, 0, 0, 25, 26, 0, 27, 0]) (pc' := 14) dX12_dip_11 rfl t_7_191 k_X12_isWell rfl (by decide) rfl rfl rfl rfl (Nat.le_of_ble_eq_true rfl) ?_
    obtain ⟨r7, h⟩ := h
    refine c_M_isWell r7 ?_
    show z_Wp m_X12_dip _ 14 [(0, zR 0), (1, zI a0), (2, zI a1)] [zI (F_M_in w a1 0 ((w 0 28) - 1)), zR 0] w _
    refine z_if_ne 21 dX12_dip_14 (by decide) (pc' := 17) rfl (z_rb b_M_in) (fun c => ?_) (fun c => ?_)
    · have h := h.2 c
      rw [if_neg c] at k
      refine z_aload_n (pc' := 22) 0 rfl rfl dX12_dip_21 rfl ?_
      refine z_iload_n (pc' := 23) 1 rfl rfl dX12_dip_22 rfl ?_
      refine z_invV (as := [zI a0]) (st := [zR 0]) (C := m_X12_isFree) (fs := [0, 3, 0, 0, 0, 0, 4, 5, 6, 7, 8, 9, 10, 0, 0, 11, 12, 13, 14, 15, 16, 0, 0, 0, 17, 18, 19, 20, 0, 0, 0, 21, 22, 0, 0, 23, 0, 1, 24, 0, 0, 25, 26, 0, 27, 0]) (pc' := 26) dX12_dip_23 rfl t_7_158 k_X12_isFree rfl (by decide) rfl rfl rfl rfl (Nat.le_of_ble_eq_true rfl) ?_
      obtain ⟨r8, h⟩ := h
      refine c_M_isFree r8 ?_
      show z_Wp m_X12_dip _ 26 [(0, zR 0), (1, zI a0), (2, zI a1)] [zI (F_M_isFree w a0), zR 0] w _
      refine z_if_ne 33 dX12_dip_26 (by decide) (pc' := 29) rfl (z_rb b_M_isFree) (fun c => ?_) (fun c => ?_)
      · have h := h.2 c
        rw [if_neg c] at k
        refine z_aload_n (pc' := 34) 0 rfl rfl dX12_dip_33 rfl ?_
        refine z_iload_n (pc' := 35) 1 rfl rfl dX12_dip_34 rfl ?_
        refine z_iload_n (pc' := 36) 2 rfl rfl dX12_dip_35 rfl ?_
        refine z_invV (as := [zI a0, zI a1]) (st := [zR 0]) (C := m_X12_fits) (fs := [0, 3, 0, 0, 0, 0, 4, 5, 6, 7, 8, 9, 10, 0, 0, 11, 12, 13, 14, 15, 16, 0, 0, 0, 17, 18, 19, 20, 0, 0, 0, 21, 22, 0, 0, 23, 0, 1, 24, 0, 0, 25, 26, 0, 27, 0]) (pc' := 39) dX12_dip_36 rfl t_7_223 k_X12_fits rfl (by decide) rfl rfl rfl rfl (Nat.le_of_ble_eq_true rfl) ?_
        obtain ⟨r9, h⟩ := h
        refine c_M_fits r9 ?_
        show z_Wp m_X12_dip _ 39 [(0, zR 0), (1, zI a0), (2, zI a1)] [zI (F_M_fits w a0 a1), zR 0] w _
        refine z_if_ne 46 dX12_dip_39 (by decide) (pc' := 42) rfl (z_rb b_M_fits) (fun c => ?_) (fun c => ?_)
        · have h := h.2 c
          rw [if_neg c] at k
          refine z_iconst (pc' := 47) dX12_dip_46 rfl ?_
          refine z_invV (as := [zI (-1)]) (st := []) (C := m_X12_isRefused) (fs := [0, 3, 0, 0, 0, 0, 4, 5, 6, 7, 8, 9, 10, 0, 0, 11, 12, 13, 14, 15, 16, 0, 0, 0, 17, 18, 19, 20, 0, 0, 0, 21, 22, 0, 0, 23, 0, 1, 24, 0, 0, 25, 26, 0, 27, 0]) (pc' := 50) dX12_dip_47 rfl t_7_227 k_X12_isRefused rfl (by decide) rfl rfl rfl rfl (Nat.le_of_ble_eq_true rfl) ?_
          obtain ⟨r10, h⟩ := h
          refine c_M_isRefused r10 ?_
          show z_Wp m_X12_dip _ 50 [(0, zR 0), (1, zI a0), (2, zI a1)] [zI ((F_M_isRefused w (-1)).1)] ((F_M_isRefused w (-1)).2) _
          obtain ⟨r11, h⟩ := h
          refine z_if_eq 55 dX12_dip_50 (by decide) (pc' := 53) rfl r11 (fun c => ?_) (fun c => ?_)
          · have h := h.1 c
            rw [if_pos c] at k
            refine z_aload_n (pc' := 56) 0 rfl rfl dX12_dip_55 rfl ?_
            refine z_invV (as := []) (st := []) (C := m_X12_keep) (fs := [0, 3, 0, 0, 0, 0, 4, 5, 6, 7, 8, 9, 10, 0, 0, 11, 12, 13, 14, 15, 16, 0, 0, 0, 17, 18, 19, 20, 0, 0, 0, 21, 22, 0, 0, 23, 0, 1, 24, 0, 0, 25, 26, 0, 27, 0]) (pc' := 59) dX12_dip_56 rfl t_7_231 k_X12_keep rfl (by decide) rfl rfl rfl rfl (Nat.le_of_ble_eq_true rfl) ?_
            obtain ⟨r12, h⟩ := h
            refine c_M_keep r12 ?_
            show z_Wp m_X12_dip _ 59 [(0, zR 0), (1, zI a0), (2, zI a1)] [] (F_M_keep ((F_M_isRefused w (-1)).2)) _
            refine z_aload_n (pc' := 60) 0 rfl rfl dX12_dip_59 rfl ?_
            refine z_iload_n (pc' := 61) 1 rfl rfl dX12_dip_60 rfl ?_
            refine z_iload_n (pc' := 62) 2 rfl rfl dX12_dip_61 rfl ?_
            refine z_invV (as := [zI a0, zI a1]) (st := []) (C := m_X12_dipNow) (fs := [0, 3, 0, 0, 0, 0, 4, 5, 6, 7, 8, 9, 10, 0, 0, 11, 12, 13, 14, 15, 16, 0, 0, 0, 17, 18, 19, 20, 0, 0, 0, 21, 22, 0, 0, 23, 0, 1, 24, 0, 0, 25, 26, 0, 27, 0]) (pc' := 65) dX12_dip_62 rfl t_7_235 k_X12_dipNow rfl (by decide) rfl rfl rfl rfl (Nat.le_of_ble_eq_true rfl) ?_
            obtain ⟨r13, h⟩ := h
            refine c_M_dipNow r13 ?_
            show z_Wp m_X12_dip _ 65 [(0, zR 0), (1, zI a0), (2, zI a1)] [] (F_M_dipNow (F_M_keep ((F_M_isRefused w (-1)).2)) a0 a1) _
            refine z_aload_n (pc' := 66) 0 rfl rfl dX12_dip_65 rfl ?_
            refine z_iload_n (pc' := 67) 2 rfl rfl dX12_dip_66 rfl ?_
            refine z_invV (as := [zI a1]) (st := []) (C := m_X12_roomOf) (fs := [0, 3, 0, 0, 0, 0, 4, 5, 6, 7, 8, 9, 10, 0, 0, 11, 12, 13, 14, 15, 16, 0, 0, 0, 17, 18, 19, 20, 0, 0, 0, 21, 22, 0, 0, 23, 0, 1, 24, 0, 0, 25, 26, 0, 27, 0]) (pc' := 70) dX12_dip_67 rfl t_7_195 k_X12_roomOf rfl (by decide) rfl rfl rfl rfl (Nat.le_of_ble_eq_true rfl) ?_
            have r14 := h
            refine c_M_roomOf r14 ?_
            show z_Wp m_X12_dip _ 70 [(0, zR 0), (1, zI a0), (2, zI a1)] [zI (((F_M_dipNow (F_M_keep ((F_M_isRefused w (-1)).2)) a0 a1) 19 ((32 + a1).toNat)) - (F_M_dropsIn (F_M_dipNow (F_M_keep ((F_M_isRefused w (-1)).2)) a0 a1) a1))] (F_M_dipNow (F_M_keep ((F_M_isRefused w (-1)).2)) a0 a1) _
            refine z_iret rfl dX12_dip_70 ?_
            exact k
          · have h := h.2 c
            rw [if_neg c] at k
            refine z_iconst (pc' := 54) dX12_dip_53 rfl ?_
            refine z_iret rfl dX12_dip_54 ?_
            exact k
        · have h := h.1 c
          rw [if_pos c] at k
          refine z_iconst (pc' := 43) dX12_dip_42 rfl ?_
          refine z_goto 47 dX12_dip_43 (by decide) ?_
          refine z_invV (as := [zI 3]) (st := []) (C := m_X12_isRefused) (fs := [0, 3, 0, 0, 0, 0, 4, 5, 6, 7, 8, 9, 10, 0, 0, 11, 12, 13, 14, 15, 16, 0, 0, 0, 17, 18, 19, 20, 0, 0, 0, 21, 22, 0, 0, 23, 0, 1, 24, 0, 0, 25, 26, 0, 27, 0]) (pc' := 50) dX12_dip_47 rfl t_7_227 k_X12_isRefused rfl (by decide) rfl rfl rfl rfl (Nat.le_of_ble_eq_true rfl) ?_
          obtain ⟨r15, h⟩ := h
          refine c_M_isRefused r15 ?_
          show z_Wp m_X12_dip _ 50 [(0, zR 0), (1, zI a0), (2, zI a1)] [zI ((F_M_isRefused w 3).1)] ((F_M_isRefused w 3).2) _
          obtain ⟨r16, h⟩ := h
          refine z_if_eq 55 dX12_dip_50 (by decide) (pc' := 53) rfl r16 (fun c => ?_) (fun c => ?_)
          · have h := h.1 c
            rw [if_pos c] at k
            refine z_aload_n (pc' := 56) 0 rfl rfl dX12_dip_55 rfl ?_
            refine z_invV (as := []) (st := []) (C := m_X12_keep) (fs := [0, 3, 0, 0, 0, 0, 4, 5, 6, 7, 8, 9, 10, 0, 0, 11, 12, 13, 14, 15, 16, 0, 0, 0, 17, 18, 19, 20, 0, 0, 0, 21, 22, 0, 0, 23, 0, 1, 24, 0, 0, 25, 26, 0, 27, 0]) (pc' := 59) dX12_dip_56 rfl t_7_231 k_X12_keep rfl (by decide) rfl rfl rfl rfl (Nat.le_of_ble_eq_true rfl) ?_
            obtain ⟨r17, h⟩ := h
            refine c_M_keep r17 ?_
            show z_Wp m_X12_dip _ 59 [(0, zR 0), (1, zI a0), (2, zI a1)] [] (F_M_keep ((F_M_isRefused w 3).2)) _
            refine z_aload_n (pc' := 60) 0 rfl rfl dX12_dip_59 rfl ?_
            refine z_iload_n (pc' := 61) 1 rfl rfl dX12_dip_60 rfl ?_
            refine z_iload_n (pc' := 62) 2 rfl rfl dX12_dip_61 rfl ?_
            refine z_invV (as := [zI a0, zI a1]) (st := []) (C := m_X12_dipNow) (fs := [0, 3, 0, 0, 0, 0, 4, 5, 6, 7, 8, 9, 10, 0, 0, 11, 12, 13, 14, 15, 16, 0, 0, 0, 17, 18, 19, 20, 0, 0, 0, 21, 22, 0, 0, 23, 0, 1, 24, 0, 0, 25, 26, 0, 27, 0]) (pc' := 65) dX12_dip_62 rfl t_7_235 k_X12_dipNow rfl (by decide) rfl rfl rfl rfl (Nat.le_of_ble_eq_true rfl) ?_
            obtain ⟨r18, h⟩ := h
            refine c_M_dipNow r18 ?_
            show z_Wp m_X12_dip _ 65 [(0, zR 0), (1, zI a0), (2, zI a1)] [] (F_M_dipNow (F_M_keep ((F_M_isRefused w 3).2)) a0 a1) _
            refine z_aload_n (pc' := 66) 0 rfl rfl dX12_dip_65 rfl ?_
            refine z_iload_n (pc' := 67) 2 rfl rfl dX12_dip_66 rfl ?_
            refine z_invV (as := [zI a1]) (st := []) (C := m_X12_roomOf) (fs := [0, 3, 0, 0, 0, 0, 4, 5, 6, 7, 8, 9, 10, 0, 0, 11, 12, 13, 14, 15, 16, 0, 0, 0, 17, 18, 19, 20, 0, 0, 0, 21, 22, 0, 0, 23, 0, 1, 24, 0, 0, 25, 26, 0, 27, 0]) (pc' := 70) dX12_dip_67 rfl t_7_195 k_X12_roomOf rfl (by decide) rfl rfl rfl rfl (Nat.le_of_ble_eq_true rfl) ?_
            have r19 := h
            refine c_M_roomOf r19 ?_
            show z_Wp m_X12_dip _ 70 [(0, zR 0), (1, zI a0), (2, zI a1)] [zI (((F_M_dipNow (F_M_keep ((F_M_isRefused w 3).2)) a0 a1) 19 ((32 + a1).toNat)) - (F_M_dropsIn (F_M_dipNow (F_M_keep ((F_M_isRefused w 3).2)) a0 a1) a1))] (F_M_dipNow (F_M_keep ((F_M_isRefused w 3).2)) a0 a1) _
            refine z_iret rfl dX12_dip_70 ?_
            exact k
          · have h := h.2 c
            rw [if_neg c] at k
            refine z_iconst (pc' := 54) dX12_dip_53 rfl ?_
            refine z_iret rfl dX12_dip_54 ?_
            exact k
      · have h := h.1 c
        rw [if_pos c] at k
        refine z_iconst (pc' := 30) dX12_dip_29 rfl ?_
        refine z_goto 47 dX12_dip_30 (by decide) ?_
        refine z_invV (as := [zI 2]) (st := []) (C := m_X12_isRefused) (fs := [0, 3, 0, 0, 0, 0, 4, 5, 6, 7, 8, 9, 10, 0, 0, 11, 12, 13, 14, 15, 16, 0, 0, 0, 17, 18, 19, 20, 0, 0, 0, 21, 22, 0, 0, 23, 0, 1, 24, 0, 0, 25, 26, 0, 27, 0]) (pc' := 50) dX12_dip_47 rfl t_7_227 k_X12_isRefused rfl (by decide) rfl rfl rfl rfl (Nat.le_of_ble_eq_true rfl) ?_
        obtain ⟨r20, h⟩ := h
        refine c_M_isRefused r20 ?_
        show z_Wp m_X12_dip _ 50 [(0, zR 0), (1, zI a0), (2, zI a1)] [zI ((F_M_isRefused w 2).1)] ((F_M_isRefused w 2).2) _
        obtain ⟨r21, h⟩ := h
        refine z_if_eq 55 dX12_dip_50 (by decide) (pc' := 53) rfl r21 (fun c => ?_) (fun c => ?_)
        · have h := h.1 c
          rw [if_pos c] at k
          refine z_aload_n (pc' := 56) 0 rfl rfl dX12_dip_55 rfl ?_
          refine z_invV (as := []) (st := []) (C := m_X12_keep) (fs := [0, 3, 0, 0, 0, 0, 4, 5, 6, 7, 8, 9, 10, 0, 0, 11, 12, 13, 14, 15, 16, 0, 0, 0, 17, 18, 19, 20, 0, 0, 0, 21, 22, 0, 0, 23, 0, 1, 24, 0, 0, 25, 26, 0, 27, 0]) (pc' := 59) dX12_dip_56 rfl t_7_231 k_X12_keep rfl (by decide) rfl rfl rfl rfl (Nat.le_of_ble_eq_true rfl) ?_
          obtain ⟨r22, h⟩ := h
          refine c_M_keep r22 ?_
          show z_Wp m_X12_dip _ 59 [(0, zR 0), (1, zI a0), (2, zI a1)] [] (F_M_keep ((F_M_isRefused w 2).2)) _
          refine z_aload_n (pc' := 60) 0 rfl rfl dX12_dip_59 rfl ?_
          refine z_iload_n (pc' := 61) 1 rfl rfl dX12_dip_60 rfl ?_
          refine z_iload_n (pc' := 62) 2 rfl rfl dX12_dip_61 rfl ?_
          refine z_invV (as := [zI a0, zI a1]) (st := []) (C := m_X12_dipNow) (fs := [0, 3, 0, 0, 0, 0, 4, 5, 6, 7, 8, 9, 10, 0, 0, 11, 12, 13, 14, 15, 16, 0, 0, 0, 17, 18, 19, 20, 0, 0, 0, 21, 22, 0, 0, 23, 0, 1, 24, 0, 0, 25, 26, 0, 27, 0]) (pc' := 65) dX12_dip_62 rfl t_7_235 k_X12_dipNow rfl (by decide) rfl rfl rfl rfl (Nat.le_of_ble_eq_true rfl) ?_
          obtain ⟨r23, h⟩ := h
          refine c_M_dipNow r23 ?_
          show z_Wp m_X12_dip _ 65 [(0, zR 0), (1, zI a0), (2, zI a1)] [] (F_M_dipNow (F_M_keep ((F_M_isRefused w 2).2)) a0 a1) _
          refine z_aload_n (pc' := 66) 0 rfl rfl dX12_dip_65 rfl ?_
          refine z_iload_n (pc' := 67) 2 rfl rfl dX12_dip_66 rfl ?_
          refine z_invV (as := [zI a1]) (st := []) (C := m_X12_roomOf) (fs := [0, 3, 0, 0, 0, 0, 4, 5, 6, 7, 8, 9, 10, 0, 0, 11, 12, 13, 14, 15, 16, 0, 0, 0, 17, 18, 19, 20, 0, 0, 0, 21, 22, 0, 0, 23, 0, 1, 24, 0, 0, 25, 26, 0, 27, 0]) (pc' := 70) dX12_dip_67 rfl t_7_195 k_X12_roomOf rfl (by decide) rfl rfl rfl rfl (Nat.le_of_ble_eq_true rfl) ?_
          have r24 := h
          refine c_M_roomOf r24 ?_
          show z_Wp m_X12_dip _ 70 [(0, zR 0), (1, zI a0), (2, zI a1)] [zI (((F_M_dipNow (F_M_keep ((F_M_isRefused w 2).2)) a0 a1) 19 ((32 + a1).toNat)) - (F_M_dropsIn (F_M_dipNow (F_M_keep ((F_M_isRefused w 2).2)) a0 a1) a1))] (F_M_dipNow (F_M_keep ((F_M_isRefused w 2).2)) a0 a1) _
          refine z_iret rfl dX12_dip_70 ?_
          exact k
        · have h := h.2 c
          rw [if_neg c] at k
          refine z_iconst (pc' := 54) dX12_dip_53 rfl ?_
          refine z_iret rfl dX12_dip_54 ?_
          exact k
    · have h := h.1 c
      rw [if_pos c] at k
      refine z_iconst (pc' := 18) dX12_dip_17 rfl ?_
      refine z_goto 47 dX12_dip_18 (by decide) ?_
      refine z_invV (as := [zI 0]) (st := []) (C := m_X12_isRefused) (fs := [0, 3, 0, 0, 0, 0, 4, 5, 6, 7, 8, 9, 10, 0, 0, 11, 12, 13, 14, 15, 16, 0, 0, 0, 17, 18, 19, 20, 0, 0, 0, 21, 22, 0, 0, 23, 0, 1, 24, 0, 0, 25, 26, 0, 27, 0]) (pc' := 50) dX12_dip_47 rfl t_7_227 k_X12_isRefused rfl (by decide) rfl rfl rfl rfl (Nat.le_of_ble_eq_true rfl) ?_
      obtain ⟨r25, h⟩ := h
      refine c_M_isRefused r25 ?_
      show z_Wp m_X12_dip _ 50 [(0, zR 0), (1, zI a0), (2, zI a1)] [zI ((F_M_isRefused w 0).1)] ((F_M_isRefused w 0).2) _
      obtain ⟨r26, h⟩ := h
      refine z_if_eq 55 dX12_dip_50 (by decide) (pc' := 53) rfl r26 (fun c => ?_) (fun c => ?_)
      · have h := h.1 c
        rw [if_pos c] at k
        refine z_aload_n (pc' := 56) 0 rfl rfl dX12_dip_55 rfl ?_
        refine z_invV (as := []) (st := []) (C := m_X12_keep) (fs := [0, 3, 0, 0, 0, 0, 4, 5, 6, 7, 8, 9, 10, 0, 0, 11, 12, 13, 14, 15, 16, 0, 0, 0, 17, 18, 19, 20, 0, 0, 0, 21, 22, 0, 0, 23, 0, 1, 24, 0, 0, 25, 26, 0, 27, 0]) (pc' := 59) dX12_dip_56 rfl t_7_231 k_X12_keep rfl (by decide) rfl rfl rfl rfl (Nat.le_of_ble_eq_true rfl) ?_
        obtain ⟨r27, h⟩ := h
        refine c_M_keep r27 ?_
        show z_Wp m_X12_dip _ 59 [(0, zR 0), (1, zI a0), (2, zI a1)] [] (F_M_keep ((F_M_isRefused w 0).2)) _
        refine z_aload_n (pc' := 60) 0 rfl rfl dX12_dip_59 rfl ?_
        refine z_iload_n (pc' := 61) 1 rfl rfl dX12_dip_60 rfl ?_
        refine z_iload_n (pc' := 62) 2 rfl rfl dX12_dip_61 rfl ?_
        refine z_invV (as := [zI a0, zI a1]) (st := []) (C := m_X12_dipNow) (fs := [0, 3, 0, 0, 0, 0, 4, 5, 6, 7, 8, 9, 10, 0, 0, 11, 12, 13, 14, 15, 16, 0, 0, 0, 17, 18, 19, 20, 0, 0, 0, 21, 22, 0, 0, 23, 0, 1, 24, 0, 0, 25, 26, 0, 27, 0]) (pc' := 65) dX12_dip_62 rfl t_7_235 k_X12_dipNow rfl (by decide) rfl rfl rfl rfl (Nat.le_of_ble_eq_true rfl) ?_
        obtain ⟨r28, h⟩ := h
        refine c_M_dipNow r28 ?_
        show z_Wp m_X12_dip _ 65 [(0, zR 0), (1, zI a0), (2, zI a1)] [] (F_M_dipNow (F_M_keep ((F_M_isRefused w 0).2)) a0 a1) _
        refine z_aload_n (pc' := 66) 0 rfl rfl dX12_dip_65 rfl ?_
        refine z_iload_n (pc' := 67) 2 rfl rfl dX12_dip_66 rfl ?_
        refine z_invV (as := [zI a1]) (st := []) (C := m_X12_roomOf) (fs := [0, 3, 0, 0, 0, 0, 4, 5, 6, 7, 8, 9, 10, 0, 0, 11, 12, 13, 14, 15, 16, 0, 0, 0, 17, 18, 19, 20, 0, 0, 0, 21, 22, 0, 0, 23, 0, 1, 24, 0, 0, 25, 26, 0, 27, 0]) (pc' := 70) dX12_dip_67 rfl t_7_195 k_X12_roomOf rfl (by decide) rfl rfl rfl rfl (Nat.le_of_ble_eq_true rfl) ?_
        have r29 := h
        refine c_M_roomOf r29 ?_
        show z_Wp m_X12_dip _ 70 [(0, zR 0), (1, zI a0), (2, zI a1)] [zI (((F_M_dipNow (F_M_keep ((F_M_isRefused w 0).2)) a0 a1) 19 ((32 + a1).toNat)) - (F_M_dropsIn (F_M_dipNow (F_M_keep ((F_M_isRefused w 0).2)) a0 a1) a1))] (F_M_dipNow (F_M_keep ((F_M_isRefused w 0).2)) a0 a1) _
        refine z_iret rfl dX12_dip_70 ?_
        exact k
      · have h := h.2 c
        rw [if_neg c] at k
        refine z_iconst (pc' := 54) dX12_dip_53 rfl ?_
        refine z_iret rfl dX12_dip_54 ?_
        exact k
def P_M_drawYear (w : z_Wd)  : Prop := (P_M_draw w (w 0 29)) ∧ (P_M_draw ((F_M_draw w (w 0 29)).2) (((F_M_draw w (w 0 29)).2) 0 28)) ∧ (P_M_isFree ((F_M_draw ((F_M_draw w (w 0 29)).2) (((F_M_draw w (w 0 29)).2) 0 28)).2) ((F_M_draw w (w 0 29)).1)) ∧ ((F_M_isFree ((F_M_draw ((F_M_draw w (w 0 29)).2) (((F_M_draw w (w 0 29)).2) 0 28)).2) ((F_M_draw w (w 0 29)).1) = 0 → (P_M_draw ((F_M_draw ((F_M_draw w (w 0 29)).2) (((F_M_draw w (w 0 29)).2) 0 28)).2) 10) ∧ (-2147483648 ≤ (F_M_draw ((F_M_draw ((F_M_draw w (w 0 29)).2) (((F_M_draw w (w 0 29)).2) 0 28)).2) 10).1 ∧ (F_M_draw ((F_M_draw ((F_M_draw w (w 0 29)).2) (((F_M_draw w (w 0 29)).2) 0 28)).2) 10).1 < 2147483648) ∧ (-2147483648 ≤ ((F_M_draw ((F_M_draw ((F_M_draw w (w 0 29)).2) (((F_M_draw w (w 0 29)).2) 0 28)).2) 10).2) 0 34 ∧ ((F_M_draw ((F_M_draw ((F_M_draw w (w 0 29)).2) (((F_M_draw w (w 0 29)).2) 0 28)).2) 10).2) 0 34 < 2147483648) ∧ (((F_M_draw ((F_M_draw ((F_M_draw w (w 0 29)).2) (((F_M_draw w (w 0 29)).2) 0 28)).2) 10).1 ≥ ((F_M_draw ((F_M_draw ((F_M_draw w (w 0 29)).2) (((F_M_draw w (w 0 29)).2) 0 28)).2) 10).2) 0 34 → True) ∧ (¬ ((F_M_draw ((F_M_draw ((F_M_draw w (w 0 29)).2) (((F_M_draw w (w 0 29)).2) 0 28)).2) 10).1 ≥ ((F_M_draw ((F_M_draw ((F_M_draw w (w 0 29)).2) (((F_M_draw w (w 0 29)).2) 0 28)).2) 10).2) 0 34) → (P_M_draw ((F_M_draw ((F_M_draw ((F_M_draw w (w 0 29)).2) (((F_M_draw w (w 0 29)).2) 0 28)).2) 10).2) (((F_M_draw ((F_M_draw ((F_M_draw w (w 0 29)).2) (((F_M_draw w (w 0 29)).2) 0 28)).2) 10).2) 0 28)) ∧ (P_M_draw ((F_M_draw ((F_M_draw ((F_M_draw ((F_M_draw w (w 0 29)).2) (((F_M_draw w (w 0 29)).2) 0 28)).2) 10).2) (((F_M_draw ((F_M_draw ((F_M_draw w (w 0 29)).2) (((F_M_draw w (w 0 29)).2) 0 28)).2) 10).2) 0 28)).2) 9) ∧ (P_M_scratchNow ((F_M_draw ((F_M_draw ((F_M_draw ((F_M_draw ((F_M_draw w (w 0 29)).2) (((F_M_draw w (w 0 29)).2) 0 28)).2) 10).2) (((F_M_draw ((F_M_draw ((F_M_draw w (w 0 29)).2) (((F_M_draw w (w 0 29)).2) 0 28)).2) 10).2) 0 28)).2) 9).2) ((F_M_draw ((F_M_draw ((F_M_draw ((F_M_draw w (w 0 29)).2) (((F_M_draw w (w 0 29)).2) 0 28)).2) 10).2) (((F_M_draw ((F_M_draw ((F_M_draw w (w 0 29)).2) (((F_M_draw w (w 0 29)).2) 0 28)).2) 10).2) 0 28)).1) (((F_M_draw ((F_M_draw ((F_M_draw ((F_M_draw ((F_M_draw w (w 0 29)).2) (((F_M_draw w (w 0 29)).2) 0 28)).2) 10).2) (((F_M_draw ((F_M_draw ((F_M_draw w (w 0 29)).2) (((F_M_draw w (w 0 29)).2) 0 28)).2) 10).2) 0 28)).2) 9).1) + 1))))) ∧ (¬ (F_M_isFree ((F_M_draw ((F_M_draw w (w 0 29)).2) (((F_M_draw w (w 0 29)).2) 0 28)).2) ((F_M_draw w (w 0 29)).1) = 0) → (P_M_fits ((F_M_draw ((F_M_draw w (w 0 29)).2) (((F_M_draw w (w 0 29)).2) 0 28)).2) ((F_M_draw w (w 0 29)).1) ((F_M_draw ((F_M_draw w (w 0 29)).2) (((F_M_draw w (w 0 29)).2) 0 28)).1)) ∧ ((F_M_fits ((F_M_draw ((F_M_draw w (w 0 29)).2) (((F_M_draw w (w 0 29)).2) 0 28)).2) ((F_M_draw w (w 0 29)).1) ((F_M_draw ((F_M_draw w (w 0 29)).2) (((F_M_draw w (w 0 29)).2) 0 28)).1) = 0 → (P_M_draw ((F_M_draw ((F_M_draw w (w 0 29)).2) (((F_M_draw w (w 0 29)).2) 0 28)).2) 10) ∧ (-2147483648 ≤ (F_M_draw ((F_M_draw ((F_M_draw w (w 0 29)).2) (((F_M_draw w (w 0 29)).2) 0 28)).2) 10).1 ∧ (F_M_draw ((F_M_draw ((F_M_draw w (w 0 29)).2) (((F_M_draw w (w 0 29)).2) 0 28)).2) 10).1 < 2147483648) ∧ (-2147483648 ≤ ((F_M_draw ((F_M_draw ((F_M_draw w (w 0 29)).2) (((F_M_draw w (w 0 29)).2) 0 28)).2) 10).2) 0 34 ∧ ((F_M_draw ((F_M_draw ((F_M_draw w (w 0 29)).2) (((F_M_draw w (w 0 29)).2) 0 28)).2) 10).2) 0 34 < 2147483648) ∧ (((F_M_draw ((F_M_draw ((F_M_draw w (w 0 29)).2) (((F_M_draw w (w 0 29)).2) 0 28)).2) 10).1 ≥ ((F_M_draw ((F_M_draw ((F_M_draw w (w 0 29)).2) (((F_M_draw w (w 0 29)).2) 0 28)).2) 10).2) 0 34 → True) ∧ (¬ ((F_M_draw ((F_M_draw ((F_M_draw w (w 0 29)).2) (((F_M_draw w (w 0 29)).2) 0 28)).2) 10).1 ≥ ((F_M_draw ((F_M_draw ((F_M_draw w (w 0 29)).2) (((F_M_draw w (w 0 29)).2) 0 28)).2) 10).2) 0 34) → (P_M_draw ((F_M_draw ((F_M_draw ((F_M_draw w (w 0 29)).2) (((F_M_draw w (w 0 29)).2) 0 28)).2) 10).2) (((F_M_draw ((F_M_draw ((F_M_draw w (w 0 29)).2) (((F_M_draw w (w 0 29)).2) 0 28)).2) 10).2) 0 28)) ∧ (P_M_draw ((F_M_draw ((F_M_draw ((F_M_draw ((F_M_draw w (w 0 29)).2) (((F_M_draw w (w 0 29)).2) 0 28)).2) 10).2) (((F_M_draw ((F_M_draw ((F_M_draw w (w 0 29)).2) (((F_M_draw w (w 0 29)).2) 0 28)).2) 10).2) 0 28)).2) 9) ∧ (P_M_scratchNow ((F_M_draw ((F_M_draw ((F_M_draw ((F_M_draw ((F_M_draw w (w 0 29)).2) (((F_M_draw w (w 0 29)).2) 0 28)).2) 10).2) (((F_M_draw ((F_M_draw ((F_M_draw w (w 0 29)).2) (((F_M_draw w (w 0 29)).2) 0 28)).2) 10).2) 0 28)).2) 9).2) ((F_M_draw ((F_M_draw ((F_M_draw ((F_M_draw w (w 0 29)).2) (((F_M_draw w (w 0 29)).2) 0 28)).2) 10).2) (((F_M_draw ((F_M_draw ((F_M_draw w (w 0 29)).2) (((F_M_draw w (w 0 29)).2) 0 28)).2) 10).2) 0 28)).1) (((F_M_draw ((F_M_draw ((F_M_draw ((F_M_draw ((F_M_draw w (w 0 29)).2) (((F_M_draw w (w 0 29)).2) 0 28)).2) 10).2) (((F_M_draw ((F_M_draw ((F_M_draw w (w 0 29)).2) (((F_M_draw w (w 0 29)).2) 0 28)).2) 10).2) 0 28)).2) 9).1) + 1))))) ∧ (¬ (F_M_fits ((F_M_draw ((F_M_draw w (w 0 29)).2) (((F_M_draw w (w 0 29)).2) 0 28)).2) ((F_M_draw w (w 0 29)).1) ((F_M_draw ((F_M_draw w (w 0 29)).2) (((F_M_draw w (w 0 29)).2) 0 28)).1) = 0) → (P_M_dipNow ((F_M_draw ((F_M_draw w (w 0 29)).2) (((F_M_draw w (w 0 29)).2) 0 28)).2) ((F_M_draw w (w 0 29)).1) ((F_M_draw ((F_M_draw w (w 0 29)).2) (((F_M_draw w (w 0 29)).2) 0 28)).1)) ∧ (P_M_draw (F_M_dipNow ((F_M_draw ((F_M_draw w (w 0 29)).2) (((F_M_draw w (w 0 29)).2) 0 28)).2) ((F_M_draw w (w 0 29)).1) ((F_M_draw ((F_M_draw w (w 0 29)).2) (((F_M_draw w (w 0 29)).2) 0 28)).1)) 10) ∧ (-2147483648 ≤ (F_M_draw (F_M_dipNow ((F_M_draw ((F_M_draw w (w 0 29)).2) (((F_M_draw w (w 0 29)).2) 0 28)).2) ((F_M_draw w (w 0 29)).1) ((F_M_draw ((F_M_draw w (w 0 29)).2) (((F_M_draw w (w 0 29)).2) 0 28)).1)) 10).1 ∧ (F_M_draw (F_M_dipNow ((F_M_draw ((F_M_draw w (w 0 29)).2) (((F_M_draw w (w 0 29)).2) 0 28)).2) ((F_M_draw w (w 0 29)).1) ((F_M_draw ((F_M_draw w (w 0 29)).2) (((F_M_draw w (w 0 29)).2) 0 28)).1)) 10).1 < 2147483648) ∧ (-2147483648 ≤ ((F_M_draw (F_M_dipNow ((F_M_draw ((F_M_draw w (w 0 29)).2) (((F_M_draw w (w 0 29)).2) 0 28)).2) ((F_M_draw w (w 0 29)).1) ((F_M_draw ((F_M_draw w (w 0 29)).2) (((F_M_draw w (w 0 29)).2) 0 28)).1)) 10).2) 0 34 ∧ ((F_M_draw (F_M_dipNow ((F_M_draw ((F_M_draw w (w 0 29)).2) (((F_M_draw w (w 0 29)).2) 0 28)).2) ((F_M_draw w (w 0 29)).1) ((F_M_draw ((F_M_draw w (w 0 29)).2) (((F_M_draw w (w 0 29)).2) 0 28)).1)) 10).2) 0 34 < 2147483648) ∧ (((F_M_draw (F_M_dipNow ((F_M_draw ((F_M_draw w (w 0 29)).2) (((F_M_draw w (w 0 29)).2) 0 28)).2) ((F_M_draw w (w 0 29)).1) ((F_M_draw ((F_M_draw w (w 0 29)).2) (((F_M_draw w (w 0 29)).2) 0 28)).1)) 10).1 ≥ ((F_M_draw (F_M_dipNow ((F_M_draw ((F_M_draw w (w 0 29)).2) (((F_M_draw w (w 0 29)).2) 0 28)).2) ((F_M_draw w (w 0 29)).1) ((F_M_draw ((F_M_draw w (w 0 29)).2) (((F_M_draw w (w 0 29)).2) 0 28)).1)) 10).2) 0 34 → True) ∧ (¬ ((F_M_draw (F_M_dipNow ((F_M_draw ((F_M_draw w (w 0 29)).2) (((F_M_draw w (w 0 29)).2) 0 28)).2) ((F_M_draw w (w 0 29)).1) ((F_M_draw ((F_M_draw w (w 0 29)).2) (((F_M_draw w (w 0 29)).2) 0 28)).1)) 10).1 ≥ ((F_M_draw (F_M_dipNow ((F_M_draw ((F_M_draw w (w 0 29)).2) (((F_M_draw w (w 0 29)).2) 0 28)).2) ((F_M_draw w (w 0 29)).1) ((F_M_draw ((F_M_draw w (w 0 29)).2) (((F_M_draw w (w 0 29)).2) 0 28)).1)) 10).2) 0 34) → (P_M_draw ((F_M_draw (F_M_dipNow ((F_M_draw ((F_M_draw w (w 0 29)).2) (((F_M_draw w (w 0 29)).2) 0 28)).2) ((F_M_draw w (w 0 29)).1) ((F_M_draw ((F_M_draw w (w 0 29)).2) (((F_M_draw w (w 0 29)).2) 0 28)).1)) 10).2) (((F_M_draw (F_M_dipNow ((F_M_draw ((F_M_draw w (w 0 29)).2) (((F_M_draw w (w 0 29)).2) 0 28)).2) ((F_M_draw w (w 0 29)).1) ((F_M_draw ((F_M_draw w (w 0 29)).2) (((F_M_draw w (w 0 29)).2) 0 28)).1)) 10).2) 0 28)) ∧ (P_M_draw ((F_M_draw ((F_M_draw (F_M_dipNow ((F_M_draw ((F_M_draw w (w 0 29)).2) (((F_M_draw w (w 0 29)).2) 0 28)).2) ((F_M_draw w (w 0 29)).1) ((F_M_draw ((F_M_draw w (w 0 29)).2) (((F_M_draw w (w 0 29)).2) 0 28)).1)) 10).2) (((F_M_draw (F_M_dipNow ((F_M_draw ((F_M_draw w (w 0 29)).2) (((F_M_draw w (w 0 29)).2) 0 28)).2) ((F_M_draw w (w 0 29)).1) ((F_M_draw ((F_M_draw w (w 0 29)).2) (((F_M_draw w (w 0 29)).2) 0 28)).1)) 10).2) 0 28)).2) 9) ∧ (P_M_scratchNow ((F_M_draw ((F_M_draw ((F_M_draw (F_M_dipNow ((F_M_draw ((F_M_draw w (w 0 29)).2) (((F_M_draw w (w 0 29)).2) 0 28)).2) ((F_M_draw w (w 0 29)).1) ((F_M_draw ((F_M_draw w (w 0 29)).2) (((F_M_draw w (w 0 29)).2) 0 28)).1)) 10).2) (((F_M_draw (F_M_dipNow ((F_M_draw ((F_M_draw w (w 0 29)).2) (((F_M_draw w (w 0 29)).2) 0 28)).2) ((F_M_draw w (w 0 29)).1) ((F_M_draw ((F_M_draw w (w 0 29)).2) (((F_M_draw w (w 0 29)).2) 0 28)).1)) 10).2) 0 28)).2) 9).2) ((F_M_draw ((F_M_draw (F_M_dipNow ((F_M_draw ((F_M_draw w (w 0 29)).2) (((F_M_draw w (w 0 29)).2) 0 28)).2) ((F_M_draw w (w 0 29)).1) ((F_M_draw ((F_M_draw w (w 0 29)).2) (((F_M_draw w (w 0 29)).2) 0 28)).1)) 10).2) (((F_M_draw (F_M_dipNow ((F_M_draw ((F_M_draw w (w 0 29)).2) (((F_M_draw w (w 0 29)).2) 0 28)).2) ((F_M_draw w (w 0 29)).1) ((F_M_draw ((F_M_draw w (w 0 29)).2) (((F_M_draw w (w 0 29)).2) 0 28)).1)) 10).2) 0 28)).1) (((F_M_draw ((F_M_draw ((F_M_draw (F_M_dipNow ((F_M_draw ((F_M_draw w (w 0 29)).2) (((F_M_draw w (w 0 29)).2) 0 28)).2) ((F_M_draw w (w 0 29)).1) ((F_M_draw ((F_M_draw w (w 0 29)).2) (((F_M_draw w (w 0 29)).2) 0 28)).1)) 10).2) (((F_M_draw (F_M_dipNow ((F_M_draw ((F_M_draw w (w 0 29)).2) (((F_M_draw w (w 0 29)).2) 0 28)).2) ((F_M_draw w (w 0 29)).1) ((F_M_draw ((F_M_draw w (w 0 29)).2) (((F_M_draw w (w 0 29)).2) 0 28)).1)) 10).2) 0 28)).2) 9).1) + 1))))))))
def F_M_drawYear (w : z_Wd)  : z_Wd := if F_M_isFree ((F_M_draw ((F_M_draw w (w 0 29)).2) (((F_M_draw w (w 0 29)).2) 0 28)).2) ((F_M_draw w (w 0 29)).1) = 0 then if (F_M_draw ((F_M_draw ((F_M_draw w (w 0 29)).2) (((F_M_draw w (w 0 29)).2) 0 28)).2) 10).1 ≥ ((F_M_draw ((F_M_draw ((F_M_draw w (w 0 29)).2) (((F_M_draw w (w 0 29)).2) 0 28)).2) 10).2) 0 34 then (F_M_draw ((F_M_draw ((F_M_draw w (w 0 29)).2) (((F_M_draw w (w 0 29)).2) 0 28)).2) 10).2 else (F_M_scratchNow ((F_M_draw ((F_M_draw ((F_M_draw ((F_M_draw ((F_M_draw w (w 0 29)).2) (((F_M_draw w (w 0 29)).2) 0 28)).2) 10).2) (((F_M_draw ((F_M_draw ((F_M_draw w (w 0 29)).2) (((F_M_draw w (w 0 29)).2) 0 28)).2) 10).2) 0 28)).2) 9).2) ((F_M_draw ((F_M_draw ((F_M_draw ((F_M_draw w (w 0 29)).2) (((F_M_draw w (w 0 29)).2) 0 28)).2) 10).2) (((F_M_draw ((F_M_draw ((F_M_draw w (w 0 29)).2) (((F_M_draw w (w 0 29)).2) 0 28)).2) 10).2) 0 28)).1) (((F_M_draw ((F_M_draw ((F_M_draw ((F_M_draw ((F_M_draw w (w 0 29)).2) (((F_M_draw w (w 0 29)).2) 0 28)).2) 10).2) (((F_M_draw ((F_M_draw ((F_M_draw w (w 0 29)).2) (((F_M_draw w (w 0 29)).2) 0 28)).2) 10).2) 0 28)).2) 9).1) + 1)).2 else if F_M_fits ((F_M_draw ((F_M_draw w (w 0 29)).2) (((F_M_draw w (w 0 29)).2) 0 28)).2) ((F_M_draw w (w 0 29)).1) ((F_M_draw ((F_M_draw w (w 0 29)).2) (((F_M_draw w (w 0 29)).2) 0 28)).1) = 0 then if (F_M_draw ((F_M_draw ((F_M_draw w (w 0 29)).2) (((F_M_draw w (w 0 29)).2) 0 28)).2) 10).1 ≥ ((F_M_draw ((F_M_draw ((F_M_draw w (w 0 29)).2) (((F_M_draw w (w 0 29)).2) 0 28)).2) 10).2) 0 34 then (F_M_draw ((F_M_draw ((F_M_draw w (w 0 29)).2) (((F_M_draw w (w 0 29)).2) 0 28)).2) 10).2 else (F_M_scratchNow ((F_M_draw ((F_M_draw ((F_M_draw ((F_M_draw ((F_M_draw w (w 0 29)).2) (((F_M_draw w (w 0 29)).2) 0 28)).2) 10).2) (((F_M_draw ((F_M_draw ((F_M_draw w (w 0 29)).2) (((F_M_draw w (w 0 29)).2) 0 28)).2) 10).2) 0 28)).2) 9).2) ((F_M_draw ((F_M_draw ((F_M_draw ((F_M_draw w (w 0 29)).2) (((F_M_draw w (w 0 29)).2) 0 28)).2) 10).2) (((F_M_draw ((F_M_draw ((F_M_draw w (w 0 29)).2) (((F_M_draw w (w 0 29)).2) 0 28)).2) 10).2) 0 28)).1) (((F_M_draw ((F_M_draw ((F_M_draw ((F_M_draw ((F_M_draw w (w 0 29)).2) (((F_M_draw w (w 0 29)).2) 0 28)).2) 10).2) (((F_M_draw ((F_M_draw ((F_M_draw w (w 0 29)).2) (((F_M_draw w (w 0 29)).2) 0 28)).2) 10).2) 0 28)).2) 9).1) + 1)).2 else if (F_M_draw (F_M_dipNow ((F_M_draw ((F_M_draw w (w 0 29)).2) (((F_M_draw w (w 0 29)).2) 0 28)).2) ((F_M_draw w (w 0 29)).1) ((F_M_draw ((F_M_draw w (w 0 29)).2) (((F_M_draw w (w 0 29)).2) 0 28)).1)) 10).1 ≥ ((F_M_draw (F_M_dipNow ((F_M_draw ((F_M_draw w (w 0 29)).2) (((F_M_draw w (w 0 29)).2) 0 28)).2) ((F_M_draw w (w 0 29)).1) ((F_M_draw ((F_M_draw w (w 0 29)).2) (((F_M_draw w (w 0 29)).2) 0 28)).1)) 10).2) 0 34 then (F_M_draw (F_M_dipNow ((F_M_draw ((F_M_draw w (w 0 29)).2) (((F_M_draw w (w 0 29)).2) 0 28)).2) ((F_M_draw w (w 0 29)).1) ((F_M_draw ((F_M_draw w (w 0 29)).2) (((F_M_draw w (w 0 29)).2) 0 28)).1)) 10).2 else (F_M_scratchNow ((F_M_draw ((F_M_draw ((F_M_draw (F_M_dipNow ((F_M_draw ((F_M_draw w (w 0 29)).2) (((F_M_draw w (w 0 29)).2) 0 28)).2) ((F_M_draw w (w 0 29)).1) ((F_M_draw ((F_M_draw w (w 0 29)).2) (((F_M_draw w (w 0 29)).2) 0 28)).1)) 10).2) (((F_M_draw (F_M_dipNow ((F_M_draw ((F_M_draw w (w 0 29)).2) (((F_M_draw w (w 0 29)).2) 0 28)).2) ((F_M_draw w (w 0 29)).1) ((F_M_draw ((F_M_draw w (w 0 29)).2) (((F_M_draw w (w 0 29)).2) 0 28)).1)) 10).2) 0 28)).2) 9).2) ((F_M_draw ((F_M_draw (F_M_dipNow ((F_M_draw ((F_M_draw w (w 0 29)).2) (((F_M_draw w (w 0 29)).2) 0 28)).2) ((F_M_draw w (w 0 29)).1) ((F_M_draw ((F_M_draw w (w 0 29)).2) (((F_M_draw w (w 0 29)).2) 0 28)).1)) 10).2) (((F_M_draw (F_M_dipNow ((F_M_draw ((F_M_draw w (w 0 29)).2) (((F_M_draw w (w 0 29)).2) 0 28)).2) ((F_M_draw w (w 0 29)).1) ((F_M_draw ((F_M_draw w (w 0 29)).2) (((F_M_draw w (w 0 29)).2) 0 28)).1)) 10).2) 0 28)).1) (((F_M_draw ((F_M_draw ((F_M_draw (F_M_dipNow ((F_M_draw ((F_M_draw w (w 0 29)).2) (((F_M_draw w (w 0 29)).2) 0 28)).2) ((F_M_draw w (w 0 29)).1) ((F_M_draw ((F_M_draw w (w 0 29)).2) (((F_M_draw w (w 0 29)).2) 0 28)).1)) 10).2) (((F_M_draw (F_M_dipNow ((F_M_draw ((F_M_draw w (w 0 29)).2) (((F_M_draw w (w 0 29)).2) 0 28)).2) ((F_M_draw w (w 0 29)).1) ((F_M_draw ((F_M_draw w (w 0 29)).2) (((F_M_draw w (w 0 29)).2) 0 28)).1)) 10).2) 0 28)).2) 9).1) + 1)).2
set_option maxRecDepth 4000 in
theorem c_M_drawYear {d : Nat} {w : z_Wd} {Q : Option z_V → z_Wd → Prop} (h : P_M_drawYear w ) (k : Q none (F_M_drawYear w )) : z_Wc (d + 5) m_X12_drawYear [zR 0] w Q := by
  unfold P_M_drawYear at h
  unfold F_M_drawYear at k
  refine z_enter rfl (Nat.le_of_ble_eq_true rfl) ?_
  show z_Wp m_X12_drawYear _ 0 [(0, zR 0)] [] w _
  refine z_aload_n (pc' := 1) 0 rfl rfl dX12_drawYear_0 rfl ?_
  refine z_aload_n (pc' := 2) 0 rfl rfl dX12_drawYear_1 rfl ?_
  refine z_getI2 (v := w 0 29) (pc' := 5) g_X12_260 (by decide) rfl rfl rfl dX12_drawYear_2 rfl ?_
  refine z_invV (as := [zI (w 0 29)]) (st := []) (C := m_X12_draw) (fs := [0, 3, 0, 0, 0, 0, 4, 5, 6, 7, 8, 9, 10, 0, 0, 11, 12, 13, 14, 15, 16, 0, 0, 0, 17, 18, 19, 20, 0, 0, 0, 21, 22, 0, 0, 23, 0, 1, 24, 0, 0, 25, 26, 0, 27, 0]) (pc' := 8) dX12_drawYear_5 rfl t_8_63 k_X12_draw rfl (by decide) rfl rfl rfl rfl (Nat.le_of_ble_eq_true rfl) ?_
  obtain ⟨r1, h⟩ := h
  refine c_M_draw r1 ?_
  show z_Wp m_X12_drawYear _ 8 [(0, zR 0)] [zI ((F_M_draw w (w 0 29)).1)] ((F_M_draw w (w 0 29)).2) _
  refine z_istore_n (pc' := 9) (ls' := [(0, zR 0), (1, zI ((F_M_draw w (w 0 29)).1))]) rfl (by decide) rfl rfl dX12_drawYear_8 rfl ?_
  refine z_aload_n (pc' := 10) 0 rfl rfl dX12_drawYear_9 rfl ?_
  refine z_aload_n (pc' := 11) 0 rfl rfl dX12_drawYear_10 rfl ?_
  refine z_getI2 (v := ((F_M_draw w (w 0 29)).2) 0 28) (pc' := 14) g_X12_257 (by decide) rfl rfl rfl dX12_drawYear_11 rfl ?_
  refine z_invV (as := [zI (((F_M_draw w (w 0 29)).2) 0 28)]) (st := []) (C := m_X12_draw) (fs := [0, 3, 0, 0, 0, 0, 4, 5, 6, 7, 8, 9, 10, 0, 0, 11, 12, 13, 14, 15, 16, 0, 0, 0, 17, 18, 19, 20, 0, 0, 0, 21, 22, 0, 0, 23, 0, 1, 24, 0, 0, 25, 26, 0, 27, 0]) (pc' := 17) dX12_drawYear_14 rfl t_8_63 k_X12_draw rfl (by decide) rfl rfl rfl rfl (Nat.le_of_ble_eq_true rfl) ?_
  obtain ⟨r2, h⟩ := h
  refine c_M_draw r2 ?_
  show z_Wp m_X12_drawYear _ 17 [(0, zR 0), (1, zI ((F_M_draw w (w 0 29)).1))] [zI ((F_M_draw ((F_M_draw w (w 0 29)).2) (((F_M_draw w (w 0 29)).2) 0 28)).1)] ((F_M_draw ((F_M_draw w (w 0 29)).2) (((F_M_draw w (w 0 29)).2) 0 28)).2) _
  refine z_istore_n (pc' := 18) (ls' := [(0, zR 0), (1, zI ((F_M_draw w (w 0 29)).1)), (2, zI ((F_M_draw ((F_M_draw w (w 0 29)).2) (((F_M_draw w (w 0 29)).2) 0 28)).1))]) rfl (by decide) rfl rfl dX12_drawYear_17 rfl ?_
  refine z_aload_n (pc' := 19) 0 rfl rfl dX12_drawYear_18 rfl ?_
  refine z_iload_n (pc' := 20) 1 rfl rfl dX12_drawYear_19 rfl ?_
  refine z_invV (as := [zI ((F_M_draw w (w 0 29)).1)]) (st := []) (C := m_X12_isFree) (fs := [0, 3, 0, 0, 0, 0, 4, 5, 6, 7, 8, 9, 10, 0, 0, 11, 12, 13, 14, 15, 16, 0, 0, 0, 17, 18, 19, 20, 0, 0, 0, 21, 22, 0, 0, 23, 0, 1, 24, 0, 0, 25, 26, 0, 27, 0]) (pc' := 23) dX12_drawYear_20 rfl t_7_158 k_X12_isFree rfl (by decide) rfl rfl rfl rfl (Nat.le_of_ble_eq_true rfl) ?_
  obtain ⟨r3, h⟩ := h
  refine c_M_isFree r3 ?_
  show z_Wp m_X12_drawYear _ 23 [(0, zR 0), (1, zI ((F_M_draw w (w 0 29)).1)), (2, zI ((F_M_draw ((F_M_draw w (w 0 29)).2) (((F_M_draw w (w 0 29)).2) 0 28)).1))] [zI (F_M_isFree ((F_M_draw ((F_M_draw w (w 0 29)).2) (((F_M_draw w (w 0 29)).2) 0 28)).2) ((F_M_draw w (w 0 29)).1))] ((F_M_draw ((F_M_draw w (w 0 29)).2) (((F_M_draw w (w 0 29)).2) 0 28)).2) _
  refine z_if_eq 41 dX12_drawYear_23 (by decide) (pc' := 26) rfl (z_rb b_M_isFree) (fun c => ?_) (fun c => ?_)
  · have h := h.1 c
    rw [if_pos c] at k
    refine z_aload_n (pc' := 42) 0 rfl rfl dX12_drawYear_41 rfl ?_
    refine z_bipush (pc' := 44) (by decide) dX12_drawYear_42 rfl ?_
    refine z_invV (as := [zI 10]) (st := []) (C := m_X12_draw) (fs := [0, 3, 0, 0, 0, 0, 4, 5, 6, 7, 8, 9, 10, 0, 0, 11, 12, 13, 14, 15, 16, 0, 0, 0, 17, 18, 19, 20, 0, 0, 0, 21, 22, 0, 0, 23, 0, 1, 24, 0, 0, 25, 26, 0, 27, 0]) (pc' := 47) dX12_drawYear_44 rfl t_8_63 k_X12_draw rfl (by decide) rfl rfl rfl rfl (Nat.le_of_ble_eq_true rfl) ?_
    obtain ⟨r4, h⟩ := h
    refine c_M_draw r4 ?_
    show z_Wp m_X12_drawYear _ 47 [(0, zR 0), (1, zI ((F_M_draw w (w 0 29)).1)), (2, zI ((F_M_draw ((F_M_draw w (w 0 29)).2) (((F_M_draw w (w 0 29)).2) 0 28)).1))] [zI ((F_M_draw ((F_M_draw ((F_M_draw w (w 0 29)).2) (((F_M_draw w (w 0 29)).2) 0 28)).2) 10).1)] ((F_M_draw ((F_M_draw ((F_M_draw w (w 0 29)).2) (((F_M_draw w (w 0 29)).2) 0 28)).2) 10).2) _
    refine z_aload_n (pc' := 48) 0 rfl rfl dX12_drawYear_47 rfl ?_
    refine z_getI2 (v := ((F_M_draw ((F_M_draw ((F_M_draw w (w 0 29)).2) (((F_M_draw w (w 0 29)).2) 0 28)).2) 10).2) 0 34) (pc' := 51) g_X12_74 (by decide) rfl rfl rfl dX12_drawYear_48 rfl ?_
    obtain ⟨r5, h⟩ := h
    obtain ⟨r6, h⟩ := h
    refine z_icmp_ge 77 dX12_drawYear_51 (by decide) (pc' := 54) rfl r5 r6 (fun c => ?_) (fun c => ?_)
    · have h := h.1 c
      rw [if_pos c] at k
      refine z_vret rfl dX12_drawYear_77 ?_
      exact k
    · have h := h.2 c
      rw [if_neg c] at k
      refine z_aload_n (pc' := 55) 0 rfl rfl dX12_drawYear_54 rfl ?_
      refine z_aload_n (pc' := 56) 0 rfl rfl dX12_drawYear_55 rfl ?_
      refine z_getI2 (v := ((F_M_draw ((F_M_draw ((F_M_draw w (w 0 29)).2) (((F_M_draw w (w 0 29)).2) 0 28)).2) 10).2) 0 28) (pc' := 59) g_X12_257 (by decide) rfl rfl rfl dX12_drawYear_56 rfl ?_
      refine z_invV (as := [zI (((F_M_draw ((F_M_draw ((F_M_draw w (w 0 29)).2) (((F_M_draw w (w 0 29)).2) 0 28)).2) 10).2) 0 28)]) (st := []) (C := m_X12_draw) (fs := [0, 3, 0, 0, 0, 0, 4, 5, 6, 7, 8, 9, 10, 0, 0, 11, 12, 13, 14, 15, 16, 0, 0, 0, 17, 18, 19, 20, 0, 0, 0, 21, 22, 0, 0, 23, 0, 1, 24, 0, 0, 25, 26, 0, 27, 0]) (pc' := 62) dX12_drawYear_59 rfl t_8_63 k_X12_draw rfl (by decide) rfl rfl rfl rfl (Nat.le_of_ble_eq_true rfl) ?_
      obtain ⟨r7, h⟩ := h
      refine c_M_draw r7 ?_
      show z_Wp m_X12_drawYear _ 62 [(0, zR 0), (1, zI ((F_M_draw w (w 0 29)).1)), (2, zI ((F_M_draw ((F_M_draw w (w 0 29)).2) (((F_M_draw w (w 0 29)).2) 0 28)).1))] [zI ((F_M_draw ((F_M_draw ((F_M_draw ((F_M_draw w (w 0 29)).2) (((F_M_draw w (w 0 29)).2) 0 28)).2) 10).2) (((F_M_draw ((F_M_draw ((F_M_draw w (w 0 29)).2) (((F_M_draw w (w 0 29)).2) 0 28)).2) 10).2) 0 28)).1)] ((F_M_draw ((F_M_draw ((F_M_draw ((F_M_draw w (w 0 29)).2) (((F_M_draw w (w 0 29)).2) 0 28)).2) 10).2) (((F_M_draw ((F_M_draw ((F_M_draw w (w 0 29)).2) (((F_M_draw w (w 0 29)).2) 0 28)).2) 10).2) 0 28)).2) _
      refine z_istore_n (pc' := 63) (ls' := [(0, zR 0), (1, zI ((F_M_draw w (w 0 29)).1)), (2, zI ((F_M_draw ((F_M_draw w (w 0 29)).2) (((F_M_draw w (w 0 29)).2) 0 28)).1)), (3, zI ((F_M_draw ((F_M_draw ((F_M_draw ((F_M_draw w (w 0 29)).2) (((F_M_draw w (w 0 29)).2) 0 28)).2) 10).2) (((F_M_draw ((F_M_draw ((F_M_draw w (w 0 29)).2) (((F_M_draw w (w 0 29)).2) 0 28)).2) 10).2) 0 28)).1))]) rfl (by decide) rfl rfl dX12_drawYear_62 rfl ?_
      refine z_aload_n (pc' := 64) 0 rfl rfl dX12_drawYear_63 rfl ?_
      refine z_iload_n (pc' := 65) 3 rfl rfl dX12_drawYear_64 rfl ?_
      refine z_aload_n (pc' := 66) 0 rfl rfl dX12_drawYear_65 rfl ?_
      refine z_bipush (pc' := 68) (by decide) dX12_drawYear_66 rfl ?_
      refine z_invV (as := [zI 9]) (st := [zI ((F_M_draw ((F_M_draw ((F_M_draw ((F_M_draw w (w 0 29)).2) (((F_M_draw w (w 0 29)).2) 0 28)).2) 10).2) (((F_M_draw ((F_M_draw ((F_M_draw w (w 0 29)).2) (((F_M_draw w (w 0 29)).2) 0 28)).2) 10).2) 0 28)).1), zR 0]) (C := m_X12_draw) (fs := [0, 3, 0, 0, 0, 0, 4, 5, 6, 7, 8, 9, 10, 0, 0, 11, 12, 13, 14, 15, 16, 0, 0, 0, 17, 18, 19, 20, 0, 0, 0, 21, 22, 0, 0, 23, 0, 1, 24, 0, 0, 25, 26, 0, 27, 0]) (pc' := 71) dX12_drawYear_68 rfl t_8_63 k_X12_draw rfl (by decide) rfl rfl rfl rfl (Nat.le_of_ble_eq_true rfl) ?_
      obtain ⟨r8, h⟩ := h
      refine c_M_draw r8 ?_
      show z_Wp m_X12_drawYear _ 71 [(0, zR 0), (1, zI ((F_M_draw w (w 0 29)).1)), (2, zI ((F_M_draw ((F_M_draw w (w 0 29)).2) (((F_M_draw w (w 0 29)).2) 0 28)).1)), (3, zI ((F_M_draw ((F_M_draw ((F_M_draw ((F_M_draw w (w 0 29)).2) (((F_M_draw w (w 0 29)).2) 0 28)).2) 10).2) (((F_M_draw ((F_M_draw ((F_M_draw w (w 0 29)).2) (((F_M_draw w (w 0 29)).2) 0 28)).2) 10).2) 0 28)).1))] [zI ((F_M_draw ((F_M_draw ((F_M_draw ((F_M_draw ((F_M_draw w (w 0 29)).2) (((F_M_draw w (w 0 29)).2) 0 28)).2) 10).2) (((F_M_draw ((F_M_draw ((F_M_draw w (w 0 29)).2) (((F_M_draw w (w 0 29)).2) 0 28)).2) 10).2) 0 28)).2) 9).1), zI ((F_M_draw ((F_M_draw ((F_M_draw ((F_M_draw w (w 0 29)).2) (((F_M_draw w (w 0 29)).2) 0 28)).2) 10).2) (((F_M_draw ((F_M_draw ((F_M_draw w (w 0 29)).2) (((F_M_draw w (w 0 29)).2) 0 28)).2) 10).2) 0 28)).1), zR 0] ((F_M_draw ((F_M_draw ((F_M_draw ((F_M_draw ((F_M_draw w (w 0 29)).2) (((F_M_draw w (w 0 29)).2) 0 28)).2) 10).2) (((F_M_draw ((F_M_draw ((F_M_draw w (w 0 29)).2) (((F_M_draw w (w 0 29)).2) 0 28)).2) 10).2) 0 28)).2) 9).2) _
      refine z_iconst (pc' := 72) dX12_drawYear_71 rfl ?_
      refine z_iadd (pc' := 73) dX12_drawYear_72 rfl ?_
      refine z_invV (as := [zI ((F_M_draw ((F_M_draw ((F_M_draw ((F_M_draw w (w 0 29)).2) (((F_M_draw w (w 0 29)).2) 0 28)).2) 10).2) (((F_M_draw ((F_M_draw ((F_M_draw w (w 0 29)).2) (((F_M_draw w (w 0 29)).2) 0 28)).2) 10).2) 0 28)).1), zI (((F_M_draw ((F_M_draw ((F_M_draw ((F_M_draw ((F_M_draw w (w 0 29)).2) (((F_M_draw w (w 0 29)).2) 0 28)).2) 10).2) (((F_M_draw ((F_M_draw ((F_M_draw w (w 0 29)).2) (((F_M_draw w (w 0 29)).2) 0 28)).2) 10).2) 0 28)).2) 9).1) + 1)]) (st := []) (C := m_X12_scratchNow) (fs := [0, 3, 0, 0, 0, 0, 4, 5, 6, 7, 8, 9, 10, 0, 0, 11, 12, 13, 14, 15, 16, 0, 0, 0, 17, 18, 19, 20, 0, 0, 0, 21, 22, 0, 0, 23, 0, 1, 24, 0, 0, 25, 26, 0, 27, 0]) (pc' := 76) dX12_drawYear_73 rfl t_8_3 k_X12_scratchNow rfl (by decide) rfl rfl rfl rfl (Nat.le_of_ble_eq_true rfl) ?_
      have r9 := h
      refine c_M_scratchNow r9 ?_
      show z_Wp m_X12_drawYear _ 76 [(0, zR 0), (1, zI ((F_M_draw w (w 0 29)).1)), (2, zI ((F_M_draw ((F_M_draw w (w 0 29)).2) (((F_M_draw w (w 0 29)).2) 0 28)).1)), (3, zI ((F_M_draw ((F_M_draw ((F_M_draw ((F_M_draw w (w 0 29)).2) (((F_M_draw w (w 0 29)).2) 0 28)).2) 10).2) (((F_M_draw ((F_M_draw ((F_M_draw w (w 0 29)).2) (((F_M_draw w (w 0 29)).2) 0 28)).2) 10).2) 0 28)).1))] [zI ((F_M_scratchNow ((F_M_draw ((F_M_draw ((F_M_draw ((F_M_draw ((F_M_draw w (w 0 29)).2) (((F_M_draw w (w 0 29)).2) 0 28)).2) 10).2) (((F_M_draw ((F_M_draw ((F_M_draw w (w 0 29)).2) (((F_M_draw w (w 0 29)).2) 0 28)).2) 10).2) 0 28)).2) 9).2) ((F_M_draw ((F_M_draw ((F_M_draw ((F_M_draw w (w 0 29)).2) (((F_M_draw w (w 0 29)).2) 0 28)).2) 10).2) (((F_M_draw ((F_M_draw ((F_M_draw w (w 0 29)).2) (((F_M_draw w (w 0 29)).2) 0 28)).2) 10).2) 0 28)).1) (((F_M_draw ((F_M_draw ((F_M_draw ((F_M_draw ((F_M_draw w (w 0 29)).2) (((F_M_draw w (w 0 29)).2) 0 28)).2) 10).2) (((F_M_draw ((F_M_draw ((F_M_draw w (w 0 29)).2) (((F_M_draw w (w 0 29)).2) 0 28)).2) 10).2) 0 28)).2) 9).1) + 1)).1)] ((F_M_scratchNow ((F_M_draw ((F_M_draw ((F_M_draw ((F_M_draw ((F_M_draw w (w 0 29)).2) (((F_M_draw w (w 0 29)).2) 0 28)).2) 10).2) (((F_M_draw ((F_M_draw ((F_M_draw w (w 0 29)).2) (((F_M_draw w (w 0 29)).2) 0 28)).2) 10).2) 0 28)).2) 9).2) ((F_M_draw ((F_M_draw ((F_M_draw ((F_M_draw w (w 0 29)).2) (((F_M_draw w (w 0 29)).2) 0 28)).2) 10).2) (((F_M_draw ((F_M_draw ((F_M_draw w (w 0 29)).2) (((F_M_draw w (w 0 29)).2) 0 28)).2) 10).2) 0 28)).1) (((F_M_draw ((F_M_draw ((F_M_draw ((F_M_draw ((F_M_draw w (w 0 29)).2) (((F_M_draw w (w 0 29)).2) 0 28)).2) 10).2) (((F_M_draw ((F_M_draw ((F_M_draw w (w 0 29)).2) (((F_M_draw w (w 0 29)).2) 0 28)).2) 10).2) 0 28)).2) 9).1) + 1)).2) _
      refine z_pop (pc' := 77) rfl dX12_drawYear_76 rfl ?_
      refine z_vret rfl dX12_drawYear_77 ?_
      exact k
  · have h := h.2 c
    rw [if_neg c] at k
    refine z_aload_n (pc' := 27) 0 rfl rfl dX12_drawYear_26 rfl ?_
    refine z_iload_n (pc' := 28) 1 rfl rfl dX12_drawYear_27 rfl ?_
    refine z_iload_n (pc' := 29) 2 rfl rfl dX12_drawYear_28 rfl ?_
    refine z_invV (as := [zI ((F_M_draw w (w 0 29)).1), zI ((F_M_draw ((F_M_draw w (w 0 29)).2) (((F_M_draw w (w 0 29)).2) 0 28)).1)]) (st := []) (C := m_X12_fits) (fs := [0, 3, 0, 0, 0, 0, 4, 5, 6, 7, 8, 9, 10, 0, 0, 11, 12, 13, 14, 15, 16, 0, 0, 0, 17, 18, 19, 20, 0, 0, 0, 21, 22, 0, 0, 23, 0, 1, 24, 0, 0, 25, 26, 0, 27, 0]) (pc' := 32) dX12_drawYear_29 rfl t_7_223 k_X12_fits rfl (by decide) rfl rfl rfl rfl (Nat.le_of_ble_eq_true rfl) ?_
    obtain ⟨r10, h⟩ := h
    refine c_M_fits r10 ?_
    show z_Wp m_X12_drawYear _ 32 [(0, zR 0), (1, zI ((F_M_draw w (w 0 29)).1)), (2, zI ((F_M_draw ((F_M_draw w (w 0 29)).2) (((F_M_draw w (w 0 29)).2) 0 28)).1))] [zI (F_M_fits ((F_M_draw ((F_M_draw w (w 0 29)).2) (((F_M_draw w (w 0 29)).2) 0 28)).2) ((F_M_draw w (w 0 29)).1) ((F_M_draw ((F_M_draw w (w 0 29)).2) (((F_M_draw w (w 0 29)).2) 0 28)).1))] ((F_M_draw ((F_M_draw w (w 0 29)).2) (((F_M_draw w (w 0 29)).2) 0 28)).2) _
    refine z_if_eq 41 dX12_drawYear_32 (by decide) (pc' := 35) rfl (z_rb b_M_fits) (fun c => ?_) (fun c => ?_)
    · have h := h.1 c
      rw [if_pos c] at k
      refine z_aload_n (pc' := 42) 0 rfl rfl dX12_drawYear_41 rfl ?_
      refine z_bipush (pc' := 44) (by decide) dX12_drawYear_42 rfl ?_
      refine z_invV (as := [zI 10]) (st := []) (C := m_X12_draw) (fs := [0, 3, 0, 0, 0, 0, 4, 5, 6, 7, 8, 9, 10, 0, 0, 11, 12, 13, 14, 15, 16, 0, 0, 0, 17, 18, 19, 20, 0, 0, 0, 21, 22, 0, 0, 23, 0, 1, 24, 0, 0, 25, 26, 0, 27, 0]) (pc' := 47) dX12_drawYear_44 rfl t_8_63 k_X12_draw rfl (by decide) rfl rfl rfl rfl (Nat.le_of_ble_eq_true rfl) ?_
      obtain ⟨r11, h⟩ := h
      refine c_M_draw r11 ?_
      show z_Wp m_X12_drawYear _ 47 [(0, zR 0), (1, zI ((F_M_draw w (w 0 29)).1)), (2, zI ((F_M_draw ((F_M_draw w (w 0 29)).2) (((F_M_draw w (w 0 29)).2) 0 28)).1))] [zI ((F_M_draw ((F_M_draw ((F_M_draw w (w 0 29)).2) (((F_M_draw w (w 0 29)).2) 0 28)).2) 10).1)] ((F_M_draw ((F_M_draw ((F_M_draw w (w 0 29)).2) (((F_M_draw w (w 0 29)).2) 0 28)).2) 10).2) _
      refine z_aload_n (pc' := 48) 0 rfl rfl dX12_drawYear_47 rfl ?_
      refine z_getI2 (v := ((F_M_draw ((F_M_draw ((F_M_draw w (w 0 29)).2) (((F_M_draw w (w 0 29)).2) 0 28)).2) 10).2) 0 34) (pc' := 51) g_X12_74 (by decide) rfl rfl rfl dX12_drawYear_48 rfl ?_
      obtain ⟨r12, h⟩ := h
      obtain ⟨r13, h⟩ := h
      refine z_icmp_ge 77 dX12_drawYear_51 (by decide) (pc' := 54) rfl r12 r13 (fun c => ?_) (fun c => ?_)
      · have h := h.1 c
        rw [if_pos c] at k
        refine z_vret rfl dX12_drawYear_77 ?_
        exact k
      · have h := h.2 c
        rw [if_neg c] at k
        refine z_aload_n (pc' := 55) 0 rfl rfl dX12_drawYear_54 rfl ?_
        refine z_aload_n (pc' := 56) 0 rfl rfl dX12_drawYear_55 rfl ?_
        refine z_getI2 (v := ((F_M_draw ((F_M_draw ((F_M_draw w (w 0 29)).2) (((F_M_draw w (w 0 29)).2) 0 28)).2) 10).2) 0 28) (pc' := 59) g_X12_257 (by decide) rfl rfl rfl dX12_drawYear_56 rfl ?_
        refine z_invV (as := [zI (((F_M_draw ((F_M_draw ((F_M_draw w (w 0 29)).2) (((F_M_draw w (w 0 29)).2) 0 28)).2) 10).2) 0 28)]) (st := []) (C := m_X12_draw) (fs := [0, 3, 0, 0, 0, 0, 4, 5, 6, 7, 8, 9, 10, 0, 0, 11, 12, 13, 14, 15, 16, 0, 0, 0, 17, 18, 19, 20, 0, 0, 0, 21, 22, 0, 0, 23, 0, 1, 24, 0, 0, 25, 26, 0, 27, 0]) (pc' := 62) dX12_drawYear_59 rfl t_8_63 k_X12_draw rfl (by decide) rfl rfl rfl rfl (Nat.le_of_ble_eq_true rfl) ?_
        obtain ⟨r14, h⟩ := h
        refine c_M_draw r14 ?_
        show z_Wp m_X12_drawYear _ 62 [(0, zR 0), (1, zI ((F_M_draw w (w 0 29)).1)), (2, zI ((F_M_draw ((F_M_draw w (w 0 29)).2) (((F_M_draw w (w 0 29)).2) 0 28)).1))] [zI ((F_M_draw ((F_M_draw ((F_M_draw ((F_M_draw w (w 0 29)).2) (((F_M_draw w (w 0 29)).2) 0 28)).2) 10).2) (((F_M_draw ((F_M_draw ((F_M_draw w (w 0 29)).2) (((F_M_draw w (w 0 29)).2) 0 28)).2) 10).2) 0 28)).1)] ((F_M_draw ((F_M_draw ((F_M_draw ((F_M_draw w (w 0 29)).2) (((F_M_draw w (w 0 29)).2) 0 28)).2) 10).2) (((F_M_draw ((F_M_draw ((F_M_draw w (w 0 29)).2) (((F_M_draw w (w 0 29)).2) 0 28)).2) 10).2) 0 28)).2) _
        refine z_istore_n (pc' := 63) (ls' := [(0, zR 0), (1, zI ((F_M_draw w (w 0 29)).1)), (2, zI ((F_M_draw ((F_M_draw w (w 0 29)).2) (((F_M_draw w (w 0 29)).2) 0 28)).1)), (3, zI ((F_M_draw ((F_M_draw ((F_M_draw ((F_M_draw w (w 0 29)).2) (((F_M_draw w (w 0 29)).2) 0 28)).2) 10).2) (((F_M_draw ((F_M_draw ((F_M_draw w (w 0 29)).2) (((F_M_draw w (w 0 29)).2) 0 28)).2) 10).2) 0 28)).1))]) rfl (by decide) rfl rfl dX12_drawYear_62 rfl ?_
        refine z_aload_n (pc' := 64) 0 rfl rfl dX12_drawYear_63 rfl ?_
        refine z_iload_n (pc' := 65) 3 rfl rfl dX12_drawYear_64 rfl ?_
        refine z_aload_n (pc' := 66) 0 rfl rfl dX12_drawYear_65 rfl ?_
        refine z_bipush (pc' := 68) (by decide) dX12_drawYear_66 rfl ?_
        refine z_invV (as := [zI 9]) (st := [zI ((F_M_draw ((F_M_draw ((F_M_draw ((F_M_draw w (w 0 29)).2) (((F_M_draw w (w 0 29)).2) 0 28)).2) 10).2) (((F_M_draw ((F_M_draw ((F_M_draw w (w 0 29)).2) (((F_M_draw w (w 0 29)).2) 0 28)).2) 10).2) 0 28)).1), zR 0]) (C := m_X12_draw) (fs := [0, 3, 0, 0, 0, 0, 4, 5, 6, 7, 8, 9, 10, 0, 0, 11, 12, 13, 14, 15, 16, 0, 0, 0, 17, 18, 19, 20, 0, 0, 0, 21, 22, 0, 0, 23, 0, 1, 24, 0, 0, 25, 26, 0, 27, 0]) (pc' := 71) dX12_drawYear_68 rfl t_8_63 k_X12_draw rfl (by decide) rfl rfl rfl rfl (Nat.le_of_ble_eq_true rfl) ?_
        obtain ⟨r15, h⟩ := h
        refine c_M_draw r15 ?_
        show z_Wp m_X12_drawYear _ 71 [(0, zR 0), (1, zI ((F_M_draw w (w 0 29)).1)), (2, zI ((F_M_draw ((F_M_draw w (w 0 29)).2) (((F_M_draw w (w 0 29)).2) 0 28)).1)), (3, zI ((F_M_draw ((F_M_draw ((F_M_draw ((F_M_draw w (w 0 29)).2) (((F_M_draw w (w 0 29)).2) 0 28)).2) 10).2) (((F_M_draw ((F_M_draw ((F_M_draw w (w 0 29)).2) (((F_M_draw w (w 0 29)).2) 0 28)).2) 10).2) 0 28)).1))] [zI ((F_M_draw ((F_M_draw ((F_M_draw ((F_M_draw ((F_M_draw w (w 0 29)).2) (((F_M_draw w (w 0 29)).2) 0 28)).2) 10).2) (((F_M_draw ((F_M_draw ((F_M_draw w (w 0 29)).2) (((F_M_draw w (w 0 29)).2) 0 28)).2) 10).2) 0 28)).2) 9).1), zI ((F_M_draw ((F_M_draw ((F_M_draw ((F_M_draw w (w 0 29)).2) (((F_M_draw w (w 0 29)).2) 0 28)).2) 10).2) (((F_M_draw ((F_M_draw ((F_M_draw w (w 0 29)).2) (((F_M_draw w (w 0 29)).2) 0 28)).2) 10).2) 0 28)).1), zR 0] ((F_M_draw ((F_M_draw ((F_M_draw ((F_M_draw ((F_M_draw w (w 0 29)).2) (((F_M_draw w (w 0 29)).2) 0 28)).2) 10).2) (((F_M_draw ((F_M_draw ((F_M_draw w (w 0 29)).2) (((F_M_draw w (w 0 29)).2) 0 28)).2) 10).2) 0 28)).2) 9).2) _
        refine z_iconst (pc' := 72) dX12_drawYear_71 rfl ?_
        refine z_iadd (pc' := 73) dX12_drawYear_72 rfl ?_
        refine z_invV (as := [zI ((F_M_draw ((F_M_draw ((F_M_draw ((F_M_draw w (w 0 29)).2) (((F_M_draw w (w 0 29)).2) 0 28)).2) 10).2) (((F_M_draw ((F_M_draw ((F_M_draw w (w 0 29)).2) (((F_M_draw w (w 0 29)).2) 0 28)).2) 10).2) 0 28)).1), zI (((F_M_draw ((F_M_draw ((F_M_draw ((F_M_draw ((F_M_draw w (w 0 29)).2) (((F_M_draw w (w 0 29)).2) 0 28)).2) 10).2) (((F_M_draw ((F_M_draw ((F_M_draw w (w 0 29)).2) (((F_M_draw w (w 0 29)).2) 0 28)).2) 10).2) 0 28)).2) 9).1) + 1)]) (st := []) (C := m_X12_scratchNow) (fs := [0, 3, 0, 0, 0, 0, 4, 5, 6, 7, 8, 9, 10, 0, 0, 11, 12, 13, 14, 15, 16, 0, 0, 0, 17, 18, 19, 20, 0, 0, 0, 21, 22, 0, 0, 23, 0, 1, 24, 0, 0, 25, 26, 0, 27, 0]) (pc' := 76) dX12_drawYear_73 rfl t_8_3 k_X12_scratchNow rfl (by decide) rfl rfl rfl rfl (Nat.le_of_ble_eq_true rfl) ?_
        have r16 := h
        refine c_M_scratchNow r16 ?_
        show z_Wp m_X12_drawYear _ 76 [(0, zR 0), (1, zI ((F_M_draw w (w 0 29)).1)), (2, zI ((F_M_draw ((F_M_draw w (w 0 29)).2) (((F_M_draw w (w 0 29)).2) 0 28)).1)), (3, zI ((F_M_draw ((F_M_draw ((F_M_draw ((F_M_draw w (w 0 29)).2) (((F_M_draw w (w 0 29)).2) 0 28)).2) 10).2) (((F_M_draw ((F_M_draw ((F_M_draw w (w 0 29)).2) (((F_M_draw w (w 0 29)).2) 0 28)).2) 10).2) 0 28)).1))] [zI ((F_M_scratchNow ((F_M_draw ((F_M_draw ((F_M_draw ((F_M_draw ((F_M_draw w (w 0 29)).2) (((F_M_draw w (w 0 29)).2) 0 28)).2) 10).2) (((F_M_draw ((F_M_draw ((F_M_draw w (w 0 29)).2) (((F_M_draw w (w 0 29)).2) 0 28)).2) 10).2) 0 28)).2) 9).2) ((F_M_draw ((F_M_draw ((F_M_draw ((F_M_draw w (w 0 29)).2) (((F_M_draw w (w 0 29)).2) 0 28)).2) 10).2) (((F_M_draw ((F_M_draw ((F_M_draw w (w 0 29)).2) (((F_M_draw w (w 0 29)).2) 0 28)).2) 10).2) 0 28)).1) (((F_M_draw ((F_M_draw ((F_M_draw ((F_M_draw ((F_M_draw w (w 0 29)).2) (((F_M_draw w (w 0 29)).2) 0 28)).2) 10).2) (((F_M_draw ((F_M_draw ((F_M_draw w (w 0 29)).2) (((F_M_draw w (w 0 29)).2) 0 28)).2) 10).2) 0 28)).2) 9).1) + 1)).1)] ((F_M_scratchNow ((F_M_draw ((F_M_draw ((F_M_draw ((F_M_draw ((F_M_draw w (w 0 29)).2) (((F_M_draw w (w 0 29)).2) 0 28)).2) 10).2) (((F_M_draw ((F_M_draw ((F_M_draw w (w 0 29)).2) (((F_M_draw w (w 0 29)).2) 0 28)).2) 10).2) 0 28)).2) 9).2) ((F_M_draw ((F_M_draw ((F_M_draw ((F_M_draw w (w 0 29)).2) (((F_M_draw w (w 0 29)).2) 0 28)).2) 10).2) (((F_M_draw ((F_M_draw ((F_M_draw w (w 0 29)).2) (((F_M_draw w (w 0 29)).2) 0 28)).2) 10).2) 0 28)).1) (((F_M_draw ((F_M_draw ((F_M_draw ((F_M_draw ((F_M_draw w (w 0 29)).2) (((F_M_draw w (w 0 29)).2) 0 28)).2) 10).2) (((F_M_draw ((F_M_draw ((F_M_draw w (w 0 29)).2) (((F_M_draw w (w 0 29)).2) 0 28)).2) 10).2) 0 28)).2) 9).1) + 1)).2) _
        refine z_pop (pc' := 77) rfl dX12_drawYear_76 rfl ?_
        refine z_vret rfl dX12_drawYear_77 ?_
        exact k
    · have h := h.2 c
      rw [if_neg c] at k
      refine z_aload_n (pc' := 36) 0 rfl rfl dX12_drawYear_35 rfl ?_
      refine z_iload_n (pc' := 37) 1 rfl rfl dX12_drawYear_36 rfl ?_
      refine z_iload_n (pc' := 38) 2 rfl rfl dX12_drawYear_37 rfl ?_
      refine z_invV (as := [zI ((F_M_draw w (w 0 29)).1), zI ((F_M_draw ((F_M_draw w (w 0 29)).2) (((F_M_draw w (w 0 29)).2) 0 28)).1)]) (st := []) (C := m_X12_dipNow) (fs := [0, 3, 0, 0, 0, 0, 4, 5, 6, 7, 8, 9, 10, 0, 0, 11, 12, 13, 14, 15, 16, 0, 0, 0, 17, 18, 19, 20, 0, 0, 0, 21, 22, 0, 0, 23, 0, 1, 24, 0, 0, 25, 26, 0, 27, 0]) (pc' := 41) dX12_drawYear_38 rfl t_7_235 k_X12_dipNow rfl (by decide) rfl rfl rfl rfl (Nat.le_of_ble_eq_true rfl) ?_
      obtain ⟨r17, h⟩ := h
      refine c_M_dipNow r17 ?_
      show z_Wp m_X12_drawYear _ 41 [(0, zR 0), (1, zI ((F_M_draw w (w 0 29)).1)), (2, zI ((F_M_draw ((F_M_draw w (w 0 29)).2) (((F_M_draw w (w 0 29)).2) 0 28)).1))] [] (F_M_dipNow ((F_M_draw ((F_M_draw w (w 0 29)).2) (((F_M_draw w (w 0 29)).2) 0 28)).2) ((F_M_draw w (w 0 29)).1) ((F_M_draw ((F_M_draw w (w 0 29)).2) (((F_M_draw w (w 0 29)).2) 0 28)).1)) _
      refine z_aload_n (pc' := 42) 0 rfl rfl dX12_drawYear_41 rfl ?_
      refine z_bipush (pc' := 44) (by decide) dX12_drawYear_42 rfl ?_
      refine z_invV (as := [zI 10]) (st := []) (C := m_X12_draw) (fs := [0, 3, 0, 0, 0, 0, 4, 5, 6, 7, 8, 9, 10, 0, 0, 11, 12, 13, 14, 15, 16, 0, 0, 0, 17, 18, 19, 20, 0, 0, 0, 21, 22, 0, 0, 23, 0, 1, 24, 0, 0, 25, 26, 0, 27, 0]) (pc' := 47) dX12_drawYear_44 rfl t_8_63 k_X12_draw rfl (by decide) rfl rfl rfl rfl (Nat.le_of_ble_eq_true rfl) ?_
      obtain ⟨r18, h⟩ := h
      refine c_M_draw r18 ?_
      show z_Wp m_X12_drawYear _ 47 [(0, zR 0), (1, zI ((F_M_draw w (w 0 29)).1)), (2, zI ((F_M_draw ((F_M_draw w (w 0 29)).2) (((F_M_draw w (w 0 29)).2) 0 28)).1))] [zI ((F_M_draw (F_M_dipNow ((F_M_draw ((F_M_draw w (w 0 29)).2) (((F_M_draw w (w 0 29)).2) 0 28)).2) ((F_M_draw w (w 0 29)).1) ((F_M_draw ((F_M_draw w (w 0 29)).2) (((F_M_draw w (w 0 29)).2) 0 28)).1)) 10).1)] ((F_M_draw (F_M_dipNow ((F_M_draw ((F_M_draw w (w 0 29)).2) (((F_M_draw w (w 0 29)).2) 0 28)).2) ((F_M_draw w (w 0 29)).1) ((F_M_draw ((F_M_draw w (w 0 29)).2) (((F_M_draw w (w 0 29)).2) 0 28)).1)) 10).2) _
      refine z_aload_n (pc' := 48) 0 rfl rfl dX12_drawYear_47 rfl ?_
      refine z_getI2 (v := ((F_M_draw (F_M_dipNow ((F_M_draw ((F_M_draw w (w 0 29)).2) (((F_M_draw w (w 0 29)).2) 0 28)).2) ((F_M_draw w (w 0 29)).1) ((F_M_draw ((F_M_draw w (w 0 29)).2) (((F_M_draw w (w 0 29)).2) 0 28)).1)) 10).2) 0 34) (pc' := 51) g_X12_74 (by decide) rfl rfl rfl dX12_drawYear_48 rfl ?_
      obtain ⟨r19, h⟩ := h
      obtain ⟨r20, h⟩ := h
      refine z_icmp_ge 77 dX12_drawYear_51 (by decide) (pc' := 54) rfl r19 r20 (fun c => ?_) (fun c => ?_)
      · have h := h.1 c
        rw [if_pos c] at k
        refine z_vret rfl dX12_drawYear_77 ?_
        exact k
      · have h := h.2 c
        rw [if_neg c] at k
        refine z_aload_n (pc' := 55) 0 rfl rfl dX12_drawYear_54 rfl ?_
        refine z_aload_n (pc' := 56) 0 rfl rfl dX12_drawYear_55 rfl ?_
        refine z_getI2 (v := ((F_M_draw (F_M_dipNow ((F_M_draw ((F_M_draw w (w 0 29)).2) (((F_M_draw w (w 0 29)).2) 0 28)).2) ((F_M_draw w (w 0 29)).1) ((F_M_draw ((F_M_draw w (w 0 29)).2) (((F_M_draw w (w 0 29)).2) 0 28)).1)) 10).2) 0 28) (pc' := 59) g_X12_257 (by decide) rfl rfl rfl dX12_drawYear_56 rfl ?_
        refine z_invV (as := [zI (((F_M_draw (F_M_dipNow ((F_M_draw ((F_M_draw w (w 0 29)).2) (((F_M_draw w (w 0 29)).2) 0 28)).2) ((F_M_draw w (w 0 29)).1) ((F_M_draw ((F_M_draw w (w 0 29)).2) (((F_M_draw w (w 0 29)).2) 0 28)).1)) 10).2) 0 28)]) (st := []) (C := m_X12_draw) (fs := [0, 3, 0, 0, 0, 0, 4, 5, 6, 7, 8, 9, 10, 0, 0, 11, 12, 13, 14, 15, 16, 0, 0, 0, 17, 18, 19, 20, 0, 0, 0, 21, 22, 0, 0, 23, 0, 1, 24, 0, 0, 25, 26, 0, 27, 0]) (pc' := 62) dX12_drawYear_59 rfl t_8_63 k_X12_draw rfl (by decide) rfl rfl rfl rfl (Nat.le_of_ble_eq_true rfl) ?_
        obtain ⟨r21, h⟩ := h
        refine c_M_draw r21 ?_
        show z_Wp m_X12_drawYear _ 62 [(0, zR 0), (1, zI ((F_M_draw w (w 0 29)).1)), (2, zI ((F_M_draw ((F_M_draw w (w 0 29)).2) (((F_M_draw w (w 0 29)).2) 0 28)).1))] [zI ((F_M_draw ((F_M_draw (F_M_dipNow ((F_M_draw ((F_M_draw w (w 0 29)).2) (((F_M_draw w (w 0 29)).2) 0 28)).2) ((F_M_draw w (w 0 29)).1) ((F_M_draw ((F_M_draw w (w 0 29)).2) (((F_M_draw w (w 0 29)).2) 0 28)).1)) 10).2) (((F_M_draw (F_M_dipNow ((F_M_draw ((F_M_draw w (w 0 29)).2) (((F_M_draw w (w 0 29)).2) 0 28)).2) ((F_M_draw w (w 0 29)).1) ((F_M_draw ((F_M_draw w (w 0 29)).2) (((F_M_draw w (w 0 29)).2) 0 28)).1)) 10).2) 0 28)).1)] ((F_M_draw ((F_M_draw (F_M_dipNow ((F_M_draw ((F_M_draw w (w 0 29)).2) (((F_M_draw w (w 0 29)).2) 0 28)).2) ((F_M_draw w (w 0 29)).1) ((F_M_draw ((F_M_draw w (w 0 29)).2) (((F_M_draw w (w 0 29)).2) 0 28)).1)) 10).2) (((F_M_draw (F_M_dipNow ((F_M_draw ((F_M_draw w (w 0 29)).2) (((F_M_draw w (w 0 29)).2) 0 28)).2) ((F_M_draw w (w 0 29)).1) ((F_M_draw ((F_M_draw w (w 0 29)).2) (((F_M_draw w (w 0 29)).2) 0 28)).1)) 10).2) 0 28)).2) _
        refine z_istore_n (pc' := 63) (ls' := [(0, zR 0), (1, zI ((F_M_draw w (w 0 29)).1)), (2, zI ((F_M_draw ((F_M_draw w (w 0 29)).2) (((F_M_draw w (w 0 29)).2) 0 28)).1)), (3, zI ((F_M_draw ((F_M_draw (F_M_dipNow ((F_M_draw ((F_M_draw w (w 0 29)).2) (((F_M_draw w (w 0 29)).2) 0 28)).2) ((F_M_draw w (w 0 29)).1) ((F_M_draw ((F_M_draw w (w 0 29)).2) (((F_M_draw w (w 0 29)).2) 0 28)).1)) 10).2) (((F_M_draw (F_M_dipNow ((F_M_draw ((F_M_draw w (w 0 29)).2) (((F_M_draw w (w 0 29)).2) 0 28)).2) ((F_M_draw w (w 0 29)).1) ((F_M_draw ((F_M_draw w (w 0 29)).2) (((F_M_draw w (w 0 29)).2) 0 28)).1)) 10).2) 0 28)).1))]) rfl (by decide) rfl rfl dX12_drawYear_62 rfl ?_
        refine z_aload_n (pc' := 64) 0 rfl rfl dX12_drawYear_63 rfl ?_
        refine z_iload_n (pc' := 65) 3 rfl rfl dX12_drawYear_64 rfl ?_
        refine z_aload_n (pc' := 66) 0 rfl rfl dX12_drawYear_65 rfl ?_
        refine z_bipush (pc' := 68) (by decide) dX12_drawYear_66 rfl ?_
        refine z_invV (as := [zI 9]) (st := [zI ((F_M_draw ((F_M_draw (F_M_dipNow ((F_M_draw ((F_M_draw w (w 0 29)).2) (((F_M_draw w (w 0 29)).2) 0 28)).2) ((F_M_draw w (w 0 29)).1) ((F_M_draw ((F_M_draw w (w 0 29)).2) (((F_M_draw w (w 0 29)).2) 0 28)).1)) 10).2) (((F_M_draw (F_M_dipNow ((F_M_draw ((F_M_draw w (w 0 29)).2) (((F_M_draw w (w 0 29)).2) 0 28)).2) ((F_M_draw w (w 0 29)).1) ((F_M_draw ((F_M_draw w (w 0 29)).2) (((F_M_draw w (w 0 29)).2) 0 28)).1)) 10).2) 0 28)).1), zR 0]) (C := m_X12_draw) (fs := [0, 3, 0, 0, 0, 0, 4, 5, 6, 7, 8, 9, 10, 0, 0, 11, 12, 13, 14, 15, 16, 0, 0, 0, 17, 18, 19, 20, 0, 0, 0, 21, 22, 0, 0, 23, 0, 1, 24, 0, 0, 25, 26, 0, 27, 0]) (pc' := 71) dX12_drawYear_68 rfl t_8_63 k_X12_draw rfl (by decide) rfl rfl rfl rfl (Nat.le_of_ble_eq_true rfl) ?_
        obtain ⟨r22, h⟩ := h
        refine c_M_draw r22 ?_
        show z_Wp m_X12_drawYear _ 71 [(0, zR 0), (1, zI ((F_M_draw w (w 0 29)).1)), (2, zI ((F_M_draw ((F_M_draw w (w 0 29)).2) (((F_M_draw w (w 0 29)).2) 0 28)).1)), (3, zI ((F_M_draw ((F_M_draw (F_M_dipNow ((F_M_draw ((F_M_draw w (w 0 29)).2) (((F_M_draw w (w 0 29)).2) 0 28)).2) ((F_M_draw w (w 0 29)).1) ((F_M_draw ((F_M_draw w (w 0 29)).2) (((F_M_draw w (w 0 29)).2) 0 28)).1)) 10).2) (((F_M_draw (F_M_dipNow ((F_M_draw ((F_M_draw w (w 0 29)).2) (((F_M_draw w (w 0 29)).2) 0 28)).2) ((F_M_draw w (w 0 29)).1) ((F_M_draw ((F_M_draw w (w 0 29)).2) (((F_M_draw w (w 0 29)).2) 0 28)).1)) 10).2) 0 28)).1))] [zI ((F_M_draw ((F_M_draw ((F_M_draw (F_M_dipNow ((F_M_draw ((F_M_draw w (w 0 29)).2) (((F_M_draw w (w 0 29)).2) 0 28)).2) ((F_M_draw w (w 0 29)).1) ((F_M_draw ((F_M_draw w (w 0 29)).2) (((F_M_draw w (w 0 29)).2) 0 28)).1)) 10).2) (((F_M_draw (F_M_dipNow ((F_M_draw ((F_M_draw w (w 0 29)).2) (((F_M_draw w (w 0 29)).2) 0 28)).2) ((F_M_draw w (w 0 29)).1) ((F_M_draw ((F_M_draw w (w 0 29)).2) (((F_M_draw w (w 0 29)).2) 0 28)).1)) 10).2) 0 28)).2) 9).1), zI ((F_M_draw ((F_M_draw (F_M_dipNow ((F_M_draw ((F_M_draw w (w 0 29)).2) (((F_M_draw w (w 0 29)).2) 0 28)).2) ((F_M_draw w (w 0 29)).1) ((F_M_draw ((F_M_draw w (w 0 29)).2) (((F_M_draw w (w 0 29)).2) 0 28)).1)) 10).2) (((F_M_draw (F_M_dipNow ((F_M_draw ((F_M_draw w (w 0 29)).2) (((F_M_draw w (w 0 29)).2) 0 28)).2) ((F_M_draw w (w 0 29)).1) ((F_M_draw ((F_M_draw w (w 0 29)).2) (((F_M_draw w (w 0 29)).2) 0 28)).1)) 10).2) 0 28)).1), zR 0] ((F_M_draw ((F_M_draw ((F_M_draw (F_M_dipNow ((F_M_draw ((F_M_draw w (w 0 29)).2) (((F_M_draw w (w 0 29)).2) 0 28)).2) ((F_M_draw w (w 0 29)).1) ((F_M_draw ((F_M_draw w (w 0 29)).2) (((F_M_draw w (w 0 29)).2) 0 28)).1)) 10).2) (((F_M_draw (F_M_dipNow ((F_M_draw ((F_M_draw w (w 0 29)).2) (((F_M_draw w (w 0 29)).2) 0 28)).2) ((F_M_draw w (w 0 29)).1) ((F_M_draw ((F_M_draw w (w 0 29)).2) (((F_M_draw w (w 0 29)).2) 0 28)).1)) 10).2) 0 28)).2) 9).2) _
        refine z_iconst (pc' := 72) dX12_drawYear_71 rfl ?_
        refine z_iadd (pc' := 73) dX12_drawYear_72 rfl ?_
        refine z_invV (as := [zI ((F_M_draw ((F_M_draw (F_M_dipNow ((F_M_draw ((F_M_draw w (w 0 29)).2) (((F_M_draw w (w 0 29)).2) 0 28)).2) ((F_M_draw w (w 0 29)).1) ((F_M_draw ((F_M_draw w (w 0 29)).2) (((F_M_draw w (w 0 29)).2) 0 28)).1)) 10).2) (((F_M_draw (F_M_dipNow ((F_M_draw ((F_M_draw w (w 0 29)).2) (((F_M_draw w (w 0 29)).2) 0 28)).2) ((F_M_draw w (w 0 29)).1) ((F_M_draw ((F_M_draw w (w 0 29)).2) (((F_M_draw w (w 0 29)).2) 0 28)).1)) 10).2) 0 28)).1), zI (((F_M_draw ((F_M_draw ((F_M_draw (F_M_dipNow ((F_M_draw ((F_M_draw w (w 0 29)).2) (((F_M_draw w (w 0 29)).2) 0 28)).2) ((F_M_draw w (w 0 29)).1) ((F_M_draw ((F_M_draw w (w 0 29)).2) (((F_M_draw w (w 0 29)).2) 0 28)).1)) 10).2) (((F_M_draw (F_M_dipNow ((F_M_draw ((F_M_draw w (w 0 29)).2) (((F_M_draw w (w 0 29)).2) 0 28)).2) ((F_M_draw w (w 0 29)).1) ((F_M_draw ((F_M_draw w (w 0 29)).2) (((F_M_draw w (w 0 29)).2) 0 28)).1)) 10).2) 0 28)).2) 9).1) + 1)]) (st := []) (C := m_X12_scratchNow) (fs := [0, 3, 0, 0, 0, 0, 4, 5, 6, 7, 8, 9, 10, 0, 0, 11, 12, 13, 14, 15, 16, 0, 0, 0, 17, 18, 19, 20, 0, 0, 0, 21, 22, 0, 0, 23, 0, 1, 24, 0, 0, 25, 26, 0, 27, 0]) (pc' := 76) dX12_drawYear_73 rfl t_8_3 k_X12_scratchNow rfl (by decide) rfl rfl rfl rfl (Nat.le_of_ble_eq_true rfl) ?_
        have r23 := h
        refine c_M_scratchNow r23 ?_
        show z_Wp m_X12_drawYear _ 76 [(0, zR 0), (1, zI ((F_M_draw w (w 0 29)).1)), (2, zI ((F_M_draw ((F_M_draw w (w 0 29)).2) (((F_M_draw w (w 0 29)).2) 0 28)).1)), (3, zI ((F_M_draw ((F_M_draw (F_M_dipNow ((F_M_draw ((F_M_draw w (w 0 29)).2) (((F_M_draw w (w 0 29)).2) 0 28)).2) ((F_M_draw w (w 0 29)).1) ((F_M_draw ((F_M_draw w (w 0 29)).2) (((F_M_draw w (w 0 29)).2) 0 28)).1)) 10).2) (((F_M_draw (F_M_dipNow ((F_M_draw ((F_M_draw w (w 0 29)).2) (((F_M_draw w (w 0 29)).2) 0 28)).2) ((F_M_draw w (w 0 29)).1) ((F_M_draw ((F_M_draw w (w 0 29)).2) (((F_M_draw w (w 0 29)).2) 0 28)).1)) 10).2) 0 28)).1))] [zI ((F_M_scratchNow ((F_M_draw ((F_M_draw ((F_M_draw (F_M_dipNow ((F_M_draw ((F_M_draw w (w 0 29)).2) (((F_M_draw w (w 0 29)).2) 0 28)).2) ((F_M_draw w (w 0 29)).1) ((F_M_draw ((F_M_draw w (w 0 29)).2) (((F_M_draw w (w 0 29)).2) 0 28)).1)) 10).2) (((F_M_draw (F_M_dipNow ((F_M_draw ((F_M_draw w (w 0 29)).2) (((F_M_draw w (w 0 29)).2) 0 28)).2) ((F_M_draw w (w 0 29)).1) ((F_M_draw ((F_M_draw w (w 0 29)).2) (((F_M_draw w (w 0 29)).2) 0 28)).1)) 10).2) 0 28)).2) 9).2) ((F_M_draw ((F_M_draw (F_M_dipNow ((F_M_draw ((F_M_draw w (w 0 29)).2) (((F_M_draw w (w 0 29)).2) 0 28)).2) ((F_M_draw w (w 0 29)).1) ((F_M_draw ((F_M_draw w (w 0 29)).2) (((F_M_draw w (w 0 29)).2) 0 28)).1)) 10).2) (((F_M_draw (F_M_dipNow ((F_M_draw ((F_M_draw w (w 0 29)).2) (((F_M_draw w (w 0 29)).2) 0 28)).2) ((F_M_draw w (w 0 29)).1) ((F_M_draw ((F_M_draw w (w 0 29)).2) (((F_M_draw w (w 0 29)).2) 0 28)).1)) 10).2) 0 28)).1) (((F_M_draw ((F_M_draw ((F_M_draw (F_M_dipNow ((F_M_draw ((F_M_draw w (w 0 29)).2) (((F_M_draw w (w 0 29)).2) 0 28)).2) ((F_M_draw w (w 0 29)).1) ((F_M_draw ((F_M_draw w (w 0 29)).2) (((F_M_draw w (w 0 29)).2) 0 28)).1)) 10).2) (((F_M_draw (F_M_dipNow ((F_M_draw ((F_M_draw w (w 0 29)).2) (((F_M_draw w (w 0 29)).2) 0 28)).2) ((F_M_draw w (w 0 29)).1) ((F_M_draw ((F_M_draw w (w 0 29)).2) (((F_M_draw w (w 0 29)).2) 0 28)).1)) 10).2) 0 28)).2) 9).1) + 1)).1)] ((F_M_scratchNow ((F_M_draw ((F_M_draw ((F_M_draw (F_M_dipNow ((F_M_draw ((F_M_draw w (w 0 29)).2) (((F_M_draw w (w 0 29)).2) 0 28)).2) ((F_M_draw w (w 0 29)).1) ((F_M_draw ((F_M_draw w (w 0 29)).2) (((F_M_draw w (w 0 29)).2) 0 28)).1)) 10).2) (((F_M_draw (F_M_dipNow ((F_M_draw ((F_M_draw w (w 0 29)).2) (((F_M_draw w (w 0 29)).2) 0 28)).2) ((F_M_draw w (w 0 29)).1) ((F_M_draw ((F_M_draw w (w 0 29)).2) (((F_M_draw w (w 0 29)).2) 0 28)).1)) 10).2) 0 28)).2) 9).2) ((F_M_draw ((F_M_draw (F_M_dipNow ((F_M_draw ((F_M_draw w (w 0 29)).2) (((F_M_draw w (w 0 29)).2) 0 28)).2) ((F_M_draw w (w 0 29)).1) ((F_M_draw ((F_M_draw w (w 0 29)).2) (((F_M_draw w (w 0 29)).2) 0 28)).1)) 10).2) (((F_M_draw (F_M_dipNow ((F_M_draw ((F_M_draw w (w 0 29)).2) (((F_M_draw w (w 0 29)).2) 0 28)).2) ((F_M_draw w (w 0 29)).1) ((F_M_draw ((F_M_draw w (w 0 29)).2) (((F_M_draw w (w 0 29)).2) 0 28)).1)) 10).2) 0 28)).1) (((F_M_draw ((F_M_draw ((F_M_draw (F_M_dipNow ((F_M_draw ((F_M_draw w (w 0 29)).2) (((F_M_draw w (w 0 29)).2) 0 28)).2) ((F_M_draw w (w 0 29)).1) ((F_M_draw ((F_M_draw w (w 0 29)).2) (((F_M_draw w (w 0 29)).2) 0 28)).1)) 10).2) (((F_M_draw (F_M_dipNow ((F_M_draw ((F_M_draw w (w 0 29)).2) (((F_M_draw w (w 0 29)).2) 0 28)).2) ((F_M_draw w (w 0 29)).1) ((F_M_draw ((F_M_draw w (w 0 29)).2) (((F_M_draw w (w 0 29)).2) 0 28)).1)) 10).2) 0 28)).2) 9).1) + 1)).2) _
        refine z_pop (pc' := 77) rfl dX12_drawYear_76 rfl ?_
        refine z_vret rfl dX12_drawYear_77 ?_
        exact k
