def F_C_noted (w : z_Wd)  : Int := w 72 4
set_option maxRecDepth 4000 in
theorem c_C_noted {d : Nat} {w : z_Wd} {Q : Option z_V → z_Wd → Prop} (k : Q (some (zI (F_C_noted w ))) w) : z_Wc d m_X0_noted [zR 72] w Q := by
  unfold F_C_noted at k
  refine z_enter rfl (Nat.le_of_ble_eq_true rfl) ?_
  show z_Wp m_X0_noted _ 0 [(0, zR 72)] [] w _
  refine z_aload_n (pc' := 1) 0 rfl rfl dX0_noted_0 rfl ?_
  refine z_getI2 (v := w 72 4) (pc' := 4) g_X0_25 (by decide) rfl rfl rfl dX0_noted_1 rfl ?_
  refine z_iret rfl dX0_noted_4 ?_
  exact k
def F_C_forget (w : z_Wd)  : z_Wd := z_up w 72 4 0
set_option maxRecDepth 4000 in
theorem c_C_forget {d : Nat} {w : z_Wd} {Q : Option z_V → z_Wd → Prop} (k : Q none (F_C_forget w )) : z_Wc d m_X0_forget [zR 72] w Q := by
  unfold F_C_forget at k
  refine z_enter rfl (Nat.le_of_ble_eq_true rfl) ?_
  show z_Wp m_X0_forget _ 0 [(0, zR 72)] [] w _
  refine z_aload_n (pc' := 1) 0 rfl rfl dX0_forget_0 rfl ?_
  refine z_iconst (pc' := 2) dX0_forget_1 rfl ?_
  refine z_putI (pc' := 5) p_X0_25 (by decide) rfl rfl rfl rfl dX0_forget_2 rfl ?_
  refine z_vret rfl dX0_forget_5 ?_
  exact k
def F_G_laws (w : z_Wd)  : Int := w 55 4
set_option maxRecDepth 4000 in
theorem c_G_laws {d : Nat} {w : z_Wd} {Q : Option z_V → z_Wd → Prop} (k : Q (some (zI (F_G_laws w ))) w) : z_Wc d m_X1_laws [zR 55] w Q := by
  unfold F_G_laws at k
  refine z_enter rfl (Nat.le_of_ble_eq_true rfl) ?_
  show z_Wp m_X1_laws _ 0 [(0, zR 55)] [] w _
  refine z_aload_n (pc' := 1) 0 rfl rfl dX1_laws_0 rfl ?_
  refine z_getI2 (v := w 55 4) (pc' := 4) g_X1_34 (by decide) rfl rfl rfl dX1_laws_1 rfl ?_
  refine z_iret rfl dX1_laws_4 ?_
  exact k
def F_G_holding (w : z_Wd)  : Int := w 55 5
set_option maxRecDepth 4000 in
theorem c_G_holding {d : Nat} {w : z_Wd} {Q : Option z_V → z_Wd → Prop} (k : Q (some (zI (F_G_holding w ))) w) : z_Wc d m_X1_holding [zR 55] w Q := by
  unfold F_G_holding at k
  refine z_enter rfl (Nat.le_of_ble_eq_true rfl) ?_
  show z_Wp m_X1_holding _ 0 [(0, zR 55)] [] w _
  refine z_aload_n (pc' := 1) 0 rfl rfl dX1_holding_0 rfl ?_
  refine z_getI2 (v := w 55 5) (pc' := 4) g_X1_21 (by decide) rfl rfl rfl dX1_holding_1 rfl ?_
  refine z_iret rfl dX1_holding_4 ?_
  exact k
def P_G_hold (w : z_Wd) (a0 : Int) : Prop := (-2147483648 ≤ a0 ∧ a0 < 2147483648) ∧ ((a0 < (-1) → True) ∧ (¬ (a0 < (-1)) → -2147483648 ≤ w 55 4 ∧ w 55 4 < 2147483648))
def F_G_hold (w : z_Wd) (a0 : Int) : Int × z_Wd := if a0 < (-1) then (0, w) else if a0 < w 55 4 then (1, z_up w 55 5 a0) else (0, w)
set_option maxRecDepth 4000 in
theorem c_G_hold {d : Nat} {w : z_Wd} {a0 : Int} {Q : Option z_V → z_Wd → Prop} (h : P_G_hold w a0) (k : Q (some (zI (F_G_hold w a0).1)) (F_G_hold w a0).2) : z_Wc d m_X1_hold [zR 55, zI a0] w Q := by
  unfold P_G_hold at h
  unfold F_G_hold at k
  refine z_enter rfl (Nat.le_of_ble_eq_true rfl) ?_
  show z_Wp m_X1_hold _ 0 [(0, zR 55), (1, zI a0)] [] w _
  refine z_iload_n (pc' := 1) 1 rfl rfl dX1_hold_0 rfl ?_
  refine z_iconst (pc' := 2) dX1_hold_1 rfl ?_
  obtain ⟨r1, h⟩ := h
  refine z_icmp_lt 13 dX1_hold_2 (by decide) (pc' := 5) rfl r1 (by decide) (fun c => ?_) (fun c => ?_)
  · have h := h.1 c
    rw [if_pos c] at k
    refine z_iconst (pc' := 14) dX1_hold_13 rfl ?_
    refine z_zret rfl (by decide) dX1_hold_14 ?_
    exact k
  · have h := h.2 c
    rw [if_neg c] at k
    refine z_iload_n (pc' := 6) 1 rfl rfl dX1_hold_5 rfl ?_
    refine z_aload_n (pc' := 7) 0 rfl rfl dX1_hold_6 rfl ?_
    refine z_getI2 (v := w 55 4) (pc' := 10) g_X1_34 (by decide) rfl rfl rfl dX1_hold_7 rfl ?_
    have r2 := h
    refine z_icmp_lt 15 dX1_hold_10 (by decide) (pc' := 13) rfl r1 r2 (fun c => ?_) (fun c => ?_)
    · skip
      rw [if_pos c] at k
      refine z_aload_n (pc' := 16) 0 rfl rfl dX1_hold_15 rfl ?_
      refine z_iload_n (pc' := 17) 1 rfl rfl dX1_hold_16 rfl ?_
      refine z_putI (pc' := 20) p_X1_21 (by decide) rfl rfl rfl rfl dX1_hold_17 rfl ?_
      refine z_iconst (pc' := 21) dX1_hold_20 rfl ?_
      refine z_zret rfl (by decide) dX1_hold_21 ?_
      exact k
    · skip
      rw [if_neg c] at k
      refine z_iconst (pc' := 14) dX1_hold_13 rfl ?_
      refine z_zret rfl (by decide) dX1_hold_14 ?_
      exact k
def F_H_acts (w : z_Wd)  : Int := w 53 2
set_option maxRecDepth 4000 in
theorem c_H_acts {d : Nat} {w : z_Wd} {Q : Option z_V → z_Wd → Prop} (k : Q (some (zI (F_H_acts w ))) w) : z_Wc d m_X2_acts [zR 53] w Q := by
  unfold F_H_acts at k
  refine z_enter rfl (Nat.le_of_ble_eq_true rfl) ?_
  show z_Wp m_X2_acts _ 0 [(0, zR 53)] [] w _
  refine z_aload_n (pc' := 1) 0 rfl rfl dX2_acts_0 rfl ?_
  refine z_getI2 (v := w 53 2) (pc' := 4) g_X2_15 (by decide) rfl rfl rfl dX2_acts_1 rfl ?_
  refine z_iret rfl dX2_acts_4 ?_
  exact k
def F_H_forget (w : z_Wd)  : z_Wd := z_up w 53 2 0
set_option maxRecDepth 4000 in
theorem c_H_forget {d : Nat} {w : z_Wd} {Q : Option z_V → z_Wd → Prop} (k : Q none (F_H_forget w )) : z_Wc d m_X2_forget [zR 53] w Q := by
  unfold F_H_forget at k
  refine z_enter rfl (Nat.le_of_ble_eq_true rfl) ?_
  show z_Wp m_X2_forget _ 0 [(0, zR 53)] [] w _
  refine z_aload_n (pc' := 1) 0 rfl rfl dX2_forget_0 rfl ?_
  refine z_iconst (pc' := 2) dX2_forget_1 rfl ?_
  refine z_putI (pc' := 5) p_X2_15 (by decide) rfl rfl rfl rfl dX2_forget_2 rfl ?_
  refine z_vret rfl dX2_forget_5 ?_
  exact k
def F_K_coins (w : z_Wd)  : Int := w 41 6
set_option maxRecDepth 4000 in
theorem c_K_coins {d : Nat} {w : z_Wd} {Q : Option z_V → z_Wd → Prop} (k : Q (some (zI (F_K_coins w ))) w) : z_Wc d m_X3_coins [zR 41] w Q := by
  unfold F_K_coins at k
  refine z_enter rfl (Nat.le_of_ble_eq_true rfl) ?_
  show z_Wp m_X3_coins _ 0 [(0, zR 41)] [] w _
  refine z_aload_n (pc' := 1) 0 rfl rfl dX3_coins_0 rfl ?_
  refine z_getI2 (v := w 41 6) (pc' := 4) g_X3_43 (by decide) rfl rfl rfl dX3_coins_1 rfl ?_
  refine z_iret rfl dX3_coins_4 ?_
  exact k
def F_K_unrest (w : z_Wd)  : Int := w 41 7
set_option maxRecDepth 4000 in
theorem c_K_unrest {d : Nat} {w : z_Wd} {Q : Option z_V → z_Wd → Prop} (k : Q (some (zI (F_K_unrest w ))) w) : z_Wc d m_X3_unrest [zR 41] w Q := by
  unfold F_K_unrest at k
  refine z_enter rfl (Nat.le_of_ble_eq_true rfl) ?_
  show z_Wp m_X3_unrest _ 0 [(0, zR 41)] [] w _
  refine z_aload_n (pc' := 1) 0 rfl rfl dX3_unrest_0 rfl ?_
  refine z_getI2 (v := w 41 7) (pc' := 4) g_X3_47 (by decide) rfl rfl rfl dX3_unrest_1 rfl ?_
  refine z_iret rfl dX3_unrest_4 ?_
  exact k
def F_K_year (w : z_Wd)  : Int := w 41 8
set_option maxRecDepth 4000 in
theorem c_K_year {d : Nat} {w : z_Wd} {Q : Option z_V → z_Wd → Prop} (k : Q (some (zI (F_K_year w ))) w) : z_Wc d m_X3_year [zR 41] w Q := by
  unfold F_K_year at k
  refine z_enter rfl (Nat.le_of_ble_eq_true rfl) ?_
  show z_Wp m_X3_year _ 0 [(0, zR 41)] [] w _
  refine z_aload_n (pc' := 1) 0 rfl rfl dX3_year_0 rfl ?_
  refine z_getI2 (v := w 41 8) (pc' := 4) g_X3_50 (by decide) rfl rfl rfl dX3_year_1 rfl ?_
  refine z_iret rfl dX3_year_4 ?_
  exact k
def P_K_liesOver (w : z_Wd) (a0 : Int) (a1 : Int) : Prop := (0 ≤ a0 ∧ a0 < 7) ∧ (-2147483648 ≤ w 42 a0.toNat ∧ w 42 a0.toNat < 2147483648) ∧ ((w 42 a0.toNat = (-1) → True) ∧ (¬ (w 42 a0.toNat = (-1)) → (0 ≤ a1 ∧ a1 < 7) ∧ (-2147483648 ≤ w 42 a1.toNat ∧ w 42 a1.toNat < 2147483648) ∧ ((w 42 a0.toNat = w 42 a1.toNat → (-2147483648 ≤ w 43 a0.toNat ∧ w 43 a0.toNat < 2147483648) ∧ (-2147483648 ≤ w 43 a1.toNat ∧ w 43 a1.toNat < 2147483648)) ∧ (¬ (w 42 a0.toNat = w 42 a1.toNat) → True))))
def F_K_liesOver (w : z_Wd) (a0 : Int) (a1 : Int) : Int := if w 42 a0.toNat = (-1) then 0 else if w 42 a0.toNat = w 42 a1.toNat then if w 43 a0.toNat ≤ w 43 a1.toNat then 0 else 1 else 0
set_option maxRecDepth 4000 in
theorem c_K_liesOver {d : Nat} {w : z_Wd} {a0 a1 : Int} {Q : Option z_V → z_Wd → Prop} (h : P_K_liesOver w a0 a1) (k : Q (some (zI (F_K_liesOver w a0 a1))) w) : z_Wc d m_X3_liesOver [zR 41, zI a0, zI a1] w Q := by
  unfold P_K_liesOver at h
  unfold F_K_liesOver at k
  refine z_enter rfl (Nat.le_of_ble_eq_true rfl) ?_
  show z_Wp m_X3_liesOver _ 0 [(0, zR 41), (1, zI a0), (2, zI a1)] [] w _
  refine z_aload_n (pc' := 1) 0 rfl rfl dX3_liesOver_0 rfl ?_
  refine z_getR (t := 42) (pc' := 4) g_X3_15 (by decide) rfl rfl dX3_liesOver_1 rfl ?_
  refine z_iload_n (pc' := 5) 1 rfl rfl dX3_liesOver_4 rfl ?_
  obtain ⟨r1, h⟩ := h
  refine z_iald2 (v := w 42 a0.toNat) (pc' := 6) (by decide) rfl r1 (by decide) rfl dX3_liesOver_5 rfl ?_
  refine z_iconst (pc' := 7) dX3_liesOver_6 rfl ?_
  obtain ⟨r2, h⟩ := h
  refine z_icmp_eq 44 dX3_liesOver_7 (by decide) (pc' := 10) rfl r2 (by decide) (fun c => ?_) (fun c => ?_)
  · have h := h.1 c
    rw [if_pos c] at k
    refine z_iconst (pc' := 45) dX3_liesOver_44 rfl ?_
    refine z_zret rfl (by decide) dX3_liesOver_45 ?_
    exact k
  · have h := h.2 c
    rw [if_neg c] at k
    refine z_aload_n (pc' := 11) 0 rfl rfl dX3_liesOver_10 rfl ?_
    refine z_getR (t := 42) (pc' := 14) g_X3_15 (by decide) rfl rfl dX3_liesOver_11 rfl ?_
    refine z_iload_n (pc' := 15) 1 rfl rfl dX3_liesOver_14 rfl ?_
    refine z_iald2 (v := w 42 a0.toNat) (pc' := 16) (by decide) rfl r1 (by decide) rfl dX3_liesOver_15 rfl ?_
    refine z_aload_n (pc' := 17) 0 rfl rfl dX3_liesOver_16 rfl ?_
    refine z_getR (t := 42) (pc' := 20) g_X3_15 (by decide) rfl rfl dX3_liesOver_17 rfl ?_
    refine z_iload_n (pc' := 21) 2 rfl rfl dX3_liesOver_20 rfl ?_
    obtain ⟨r3, h⟩ := h
    refine z_iald2 (v := w 42 a1.toNat) (pc' := 22) (by decide) rfl r3 (by decide) rfl dX3_liesOver_21 rfl ?_
    obtain ⟨r4, h⟩ := h
    refine z_icmp_ne 44 dX3_liesOver_22 (by decide) (pc' := 25) rfl r2 r4 (fun c => ?_) (fun c => ?_)
    · have h := h.2 c
      rw [if_neg c] at k
      refine z_iconst (pc' := 45) dX3_liesOver_44 rfl ?_
      refine z_zret rfl (by decide) dX3_liesOver_45 ?_
      exact k
    · have h := h.1 c
      rw [if_pos c] at k
      refine z_aload_n (pc' := 26) 0 rfl rfl dX3_liesOver_25 rfl ?_
      refine z_getR (t := 43) (pc' := 29) g_X3_19 (by decide) rfl rfl dX3_liesOver_26 rfl ?_
      refine z_iload_n (pc' := 30) 1 rfl rfl dX3_liesOver_29 rfl ?_
      refine z_iald2 (v := w 43 a0.toNat) (pc' := 31) (by decide) rfl r1 (by decide) rfl dX3_liesOver_30 rfl ?_
      refine z_aload_n (pc' := 32) 0 rfl rfl dX3_liesOver_31 rfl ?_
      refine z_getR (t := 43) (pc' := 35) g_X3_19 (by decide) rfl rfl dX3_liesOver_32 rfl ?_
      refine z_iload_n (pc' := 36) 2 rfl rfl dX3_liesOver_35 rfl ?_
      refine z_iald2 (v := w 43 a1.toNat) (pc' := 37) (by decide) rfl r3 (by decide) rfl dX3_liesOver_36 rfl ?_
      obtain ⟨r5, h⟩ := h
      have r6 := h
      refine z_icmp_le 44 dX3_liesOver_37 (by decide) (pc' := 40) rfl r5 r6 (fun c => ?_) (fun c => ?_)
      · skip
        rw [if_pos c] at k
        refine z_iconst (pc' := 45) dX3_liesOver_44 rfl ?_
        refine z_zret rfl (by decide) dX3_liesOver_45 ?_
        exact k
      · skip
        rw [if_neg c] at k
        refine z_iconst (pc' := 41) dX3_liesOver_40 rfl ?_
        refine z_goto 45 dX3_liesOver_41 (by decide) ?_
        refine z_zret rfl (by decide) dX3_liesOver_45 ?_
        exact k
theorem b_K_liesOver {w : z_Wd} {a0 a1 : Int} : F_K_liesOver w a0 a1 = 0 ∨ F_K_liesOver w a0 a1 = 1 := by
  unfold F_K_liesOver
  (repeat' split) <;> first | exact Or.inl rfl | exact Or.inr rfl
def F_K_pay (w : z_Wd) (a0 : Int) : z_Wd := z_up w 41 6 ((w 41 6) - a0)
set_option maxRecDepth 4000 in
theorem c_K_pay {d : Nat} {w : z_Wd} {a0 : Int} {Q : Option z_V → z_Wd → Prop} (k : Q none (F_K_pay w a0)) : z_Wc d m_X3_pay [zR 41, zI a0] w Q := by
  unfold F_K_pay at k
  refine z_enter rfl (Nat.le_of_ble_eq_true rfl) ?_
  show z_Wp m_X3_pay _ 0 [(0, zR 41), (1, zI a0)] [] w _
  refine z_aload_n (pc' := 1) 0 rfl rfl dX3_pay_0 rfl ?_
  refine z_dup (pc' := 2) rfl dX3_pay_1 rfl ?_
  refine z_getI2 (v := w 41 6) (pc' := 5) g_X3_43 (by decide) rfl rfl rfl dX3_pay_2 rfl ?_
  refine z_iload_n (pc' := 6) 1 rfl rfl dX3_pay_5 rfl ?_
  refine z_isub (pc' := 7) dX3_pay_6 rfl ?_
  refine z_putI (pc' := 10) p_X3_43 (by decide) rfl rfl rfl rfl dX3_pay_7 rfl ?_
  refine z_vret rfl dX3_pay_10 ?_
  exact k
def P_K_earn (w : z_Wd) (a0 : Int) : Prop := P_J_min_7cf53 w 999 ((w 41 6) + a0)
def F_K_earn (w : z_Wd) (a0 : Int) : z_Wd := z_up w 41 6 (F_J_min_7cf53 w 999 ((w 41 6) + a0))
set_option maxRecDepth 4000 in
theorem c_K_earn {d : Nat} {w : z_Wd} {a0 : Int} {Q : Option z_V → z_Wd → Prop} (h : P_K_earn w a0) (k : Q none (F_K_earn w a0)) : z_Wc (d + 1) m_X3_earn [zR 41, zI a0] w Q := by
  unfold P_K_earn at h
  unfold F_K_earn at k
  refine z_enter rfl (Nat.le_of_ble_eq_true rfl) ?_
  show z_Wp m_X3_earn _ 0 [(0, zR 41), (1, zI a0)] [] w _
  refine z_aload_n (pc' := 1) 0 rfl rfl dX3_earn_0 rfl ?_
  refine z_sipush (pc' := 4) (by decide) dX3_earn_1 rfl ?_
  refine z_aload_n (pc' := 5) 0 rfl rfl dX3_earn_4 rfl ?_
  refine z_getI2 (v := w 41 6) (pc' := 8) g_X3_43 (by decide) rfl rfl rfl dX3_earn_5 rfl ?_
  refine z_iload_n (pc' := 9) 1 rfl rfl dX3_earn_8 rfl ?_
  refine z_iadd (pc' := 10) dX3_earn_9 rfl ?_
  refine z_invS (as := [zI 999, zI ((w 41 6) + a0)]) (st := [zR 41]) (C := m_J9_min_7cf53) (pc' := 13) dX3_earn_10 rfl t_4_53 k_J9_min_7cf53 rfl rfl (Nat.le_of_ble_eq_true rfl) ?_
  have r1 := h
  refine c_J_min_7cf53 r1 ?_
  show z_Wp m_X3_earn _ 13 [(0, zR 41), (1, zI a0)] [zI (F_J_min_7cf53 w 999 ((w 41 6) + a0)), zR 41] w _
  refine z_putI (pc' := 16) p_X3_43 (by decide) rfl rfl rfl rfl dX3_earn_13 rfl ?_
  refine z_vret rfl dX3_earn_16 ?_
  exact k
def P_K_logCell (w : z_Wd) (a0 : Int) : Prop := P_J_floorMod_7cf53 w ((w 41 8) - a0) 100
def F_K_logCell (w : z_Wd) (a0 : Int) : Int := F_J_floorMod_7cf53 w ((w 41 8) - a0) 100
set_option maxRecDepth 4000 in
theorem c_K_logCell {d : Nat} {w : z_Wd} {a0 : Int} {Q : Option z_V → z_Wd → Prop} (h : P_K_logCell w a0) (k : Q (some (zI (F_K_logCell w a0))) w) : z_Wc (d + 1) m_X3_logCell [zR 41, zI a0] w Q := by
  unfold P_K_logCell at h
  unfold F_K_logCell at k
  refine z_enter rfl (Nat.le_of_ble_eq_true rfl) ?_
  show z_Wp m_X3_logCell _ 0 [(0, zR 41), (1, zI a0)] [] w _
  refine z_aload_n (pc' := 1) 0 rfl rfl dX3_logCell_0 rfl ?_
  refine z_getI2 (v := w 41 8) (pc' := 4) g_X3_50 (by decide) rfl rfl rfl dX3_logCell_1 rfl ?_
  refine z_iload_n (pc' := 5) 1 rfl rfl dX3_logCell_4 rfl ?_
  refine z_isub (pc' := 6) dX3_logCell_5 rfl ?_
  refine z_bipush (pc' := 8) (by decide) dX3_logCell_6 rfl ?_
  refine z_invS (as := [zI ((w 41 8) - a0), zI 100]) (st := []) (C := m_J9_floorMod_7cf53) (pc' := 11) dX3_logCell_8 rfl t_4_128 k_J9_floorMod_7cf53 rfl rfl (Nat.le_of_ble_eq_true rfl) ?_
  have r1 := h
  refine c_J_floorMod_7cf53 r1 ?_
  show z_Wp m_X3_logCell _ 11 [(0, zR 41), (1, zI a0)] [zI (F_J_floorMod_7cf53 w ((w 41 8) - a0) 100)] w _
  refine z_iret rfl dX3_logCell_11 ?_
  exact k
def P_K_logged (w : z_Wd)  : Prop := P_J_min_7cf53 w (w 41 8) 60
def F_K_logged (w : z_Wd)  : Int := F_J_min_7cf53 w (w 41 8) 60
set_option maxRecDepth 4000 in
theorem c_K_logged {d : Nat} {w : z_Wd} {Q : Option z_V → z_Wd → Prop} (h : P_K_logged w ) (k : Q (some (zI (F_K_logged w ))) w) : z_Wc (d + 1) m_X3_logged [zR 41] w Q := by
  unfold P_K_logged at h
  unfold F_K_logged at k
  refine z_enter rfl (Nat.le_of_ble_eq_true rfl) ?_
  show z_Wp m_X3_logged _ 0 [(0, zR 41)] [] w _
  refine z_aload_n (pc' := 1) 0 rfl rfl dX3_logged_0 rfl ?_
  refine z_getI2 (v := w 41 8) (pc' := 4) g_X3_50 (by decide) rfl rfl rfl dX3_logged_1 rfl ?_
  refine z_bipush (pc' := 6) (by decide) dX3_logged_4 rfl ?_
  refine z_invS (as := [zI (w 41 8), zI 60]) (st := []) (C := m_J9_min_7cf53) (pc' := 9) dX3_logged_6 rfl t_4_53 k_J9_min_7cf53 rfl rfl (Nat.le_of_ble_eq_true rfl) ?_
  have r1 := h
  refine c_J_min_7cf53 r1 ?_
  show z_Wp m_X3_logged _ 9 [(0, zR 41)] [zI (F_J_min_7cf53 w (w 41 8) 60)] w _
  refine z_iret rfl dX3_logged_9 ?_
  exact k
def P_K_loggedWho (w : z_Wd) (a0 : Int) : Prop := (P_J_floorMod_7cf53 w ((w 41 8) - (a0 + 1)) 100) ∧ (0 ≤ F_J_floorMod_7cf53 w ((w 41 8) - (a0 + 1)) 100 ∧ F_J_floorMod_7cf53 w ((w 41 8) - (a0 + 1)) 100 < 100)
def F_K_loggedWho (w : z_Wd) (a0 : Int) : Int := w 45 ((F_J_floorMod_7cf53 w ((w 41 8) - (a0 + 1)) 100).toNat)
set_option maxRecDepth 4000 in
theorem c_K_loggedWho {d : Nat} {w : z_Wd} {a0 : Int} {Q : Option z_V → z_Wd → Prop} (h : P_K_loggedWho w a0) (k : Q (some (zI (F_K_loggedWho w a0))) w) : z_Wc (d + 2) m_X3_loggedWho [zR 41, zI a0] w Q := by
  unfold P_K_loggedWho at h
  unfold F_K_loggedWho at k
  refine z_enter rfl (Nat.le_of_ble_eq_true rfl) ?_
  show z_Wp m_X3_loggedWho _ 0 [(0, zR 41), (1, zI a0)] [] w _
  refine z_aload_n (pc' := 1) 0 rfl rfl dX3_loggedWho_0 rfl ?_
  refine z_getR (t := 45) (pc' := 4) g_X3_25 (by decide) rfl rfl dX3_loggedWho_1 rfl ?_
  refine z_aload_n (pc' := 5) 0 rfl rfl dX3_loggedWho_4 rfl ?_
  refine z_iload_n (pc' := 6) 1 rfl rfl dX3_loggedWho_5 rfl ?_
  refine z_iconst (pc' := 7) dX3_loggedWho_6 rfl ?_
  refine z_iadd (pc' := 8) dX3_loggedWho_7 rfl ?_
  refine z_invV (as := [zI (a0 + 1)]) (st := [zR 45]) (C := m_X3_logCell) (fs := [32, 44, 45, 46, 47, 48, 0, 0, 0]) (pc' := 11) dX3_loggedWho_8 rfl t_4_124 k_X3_logCell rfl (by decide) rfl rfl rfl rfl (Nat.le_of_ble_eq_true rfl) ?_
  obtain ⟨r1, h⟩ := h
  refine c_K_logCell r1 ?_
  show z_Wp m_X3_loggedWho _ 11 [(0, zR 41), (1, zI a0)] [zI (F_J_floorMod_7cf53 w ((w 41 8) - (a0 + 1)) 100), zR 45] w _
  have r2 := h
  refine z_iald2 (v := w 45 ((F_J_floorMod_7cf53 w ((w 41 8) - (a0 + 1)) 100).toNat)) (pc' := 12) (by decide) rfl r2 (by decide) rfl dX3_loggedWho_11 rfl ?_
  refine z_iret rfl dX3_loggedWho_12 ?_
  exact k
def P_K_loggedMissed (w : z_Wd) (a0 : Int) : Prop := (P_J_floorMod_7cf53 w ((w 41 8) - (a0 + 1)) 100) ∧ (0 ≤ F_J_floorMod_7cf53 w ((w 41 8) - (a0 + 1)) 100 ∧ F_J_floorMod_7cf53 w ((w 41 8) - (a0 + 1)) 100 < 100)
def F_K_loggedMissed (w : z_Wd) (a0 : Int) : Int := w 46 ((F_J_floorMod_7cf53 w ((w 41 8) - (a0 + 1)) 100).toNat)
set_option maxRecDepth 4000 in
theorem c_K_loggedMissed {d : Nat} {w : z_Wd} {a0 : Int} {Q : Option z_V → z_Wd → Prop} (h : P_K_loggedMissed w a0) (k : Q (some (zI (F_K_loggedMissed w a0))) w) : z_Wc (d + 2) m_X3_loggedMissed [zR 41, zI a0] w Q := by
  unfold P_K_loggedMissed at h
  unfold F_K_loggedMissed at k
  refine z_enter rfl (Nat.le_of_ble_eq_true rfl) ?_
  show z_Wp m_X3_loggedMissed _ 0 [(0, zR 41), (1, zI a0)] [] w _
  refine z_aload_n (pc' := 1) 0 rfl rfl dX3_loggedMissed_0 rfl ?_
  refine z_getR (t := 46) (pc' := 4) g_X3_28 (by decide) rfl rfl dX3_loggedMissed_1 rfl ?_
  refine z_aload_n (pc' := 5) 0 rfl rfl dX3_loggedMissed_4 rfl ?_
  refine z_iload_n (pc' := 6) 1 rfl rfl dX3_loggedMissed_5 rfl ?_
  refine z_iconst (pc' := 7) dX3_loggedMissed_6 rfl ?_
  refine z_iadd (pc' := 8) dX3_loggedMissed_7 rfl ?_
  refine z_invV (as := [zI (a0 + 1)]) (st := [zR 46]) (C := m_X3_logCell) (fs := [32, 44, 45, 46, 47, 48, 0, 0, 0]) (pc' := 11) dX3_loggedMissed_8 rfl t_4_124 k_X3_logCell rfl (by decide) rfl rfl rfl rfl (Nat.le_of_ble_eq_true rfl) ?_
  obtain ⟨r1, h⟩ := h
  refine c_K_logCell r1 ?_
  show z_Wp m_X3_loggedMissed _ 11 [(0, zR 41), (1, zI a0)] [zI (F_J_floorMod_7cf53 w ((w 41 8) - (a0 + 1)) 100), zR 46] w _
  have r2 := h
  refine z_iald2 (v := w 46 ((F_J_floorMod_7cf53 w ((w 41 8) - (a0 + 1)) 100).toNat)) (pc' := 12) (by decide) rfl r2 (by decide) rfl dX3_loggedMissed_11 rfl ?_
  refine z_iret rfl dX3_loggedMissed_12 ?_
  exact k
def F_W_clear (w : z_Wd)  : z_Wd := z_up w 38 2 0
set_option maxRecDepth 4000 in
theorem c_W_clear {d : Nat} {w : z_Wd} {Q : Option z_V → z_Wd → Prop} (k : Q none (F_W_clear w )) : z_Wc d m_X4_clear [zR 38] w Q := by
  unfold F_W_clear at k
  refine z_enter rfl (Nat.le_of_ble_eq_true rfl) ?_
  show z_Wp m_X4_clear _ 0 [(0, zR 38)] [] w _
  refine z_aload_n (pc' := 1) 0 rfl rfl dX4_clear_0 rfl ?_
  refine z_iconst (pc' := 2) dX4_clear_1 rfl ?_
  refine z_putI (pc' := 5) p_X4_18 (by decide) rfl rfl rfl rfl dX4_clear_2 rfl ?_
  refine z_vret rfl dX4_clear_5 ?_
  exact k
def F_W_length (w : z_Wd)  : Int := w 38 2
set_option maxRecDepth 4000 in
theorem c_W_length {d : Nat} {w : z_Wd} {Q : Option z_V → z_Wd → Prop} (k : Q (some (zI (F_W_length w ))) w) : z_Wc d m_X4_length [zR 38] w Q := by
  unfold F_W_length at k
  refine z_enter rfl (Nat.le_of_ble_eq_true rfl) ?_
  show z_Wp m_X4_length _ 0 [(0, zR 38)] [] w _
  refine z_aload_n (pc' := 1) 0 rfl rfl dX4_length_0 rfl ?_
  refine z_getI2 (v := w 38 2) (pc' := 4) g_X4_18 (by decide) rfl rfl rfl dX4_length_1 rfl ?_
  refine z_iret rfl dX4_length_4 ?_
  exact k
def P_W_add (w : z_Wd) (a0 : Int) (a1 : Int) : Prop := (-2147483648 ≤ w 38 2 ∧ w 38 2 < 2147483648) ∧ ((w 38 2 ≥ 240 → True) ∧ (¬ (w 38 2 ≥ 240) → 0 ≤ w 38 2 ∧ w 38 2 < 240))
def F_W_add (w : z_Wd) (a0 : Int) (a1 : Int) : z_Wd := if w 38 2 ≥ 240 then w else z_up (z_up w 39 ((w 38 2).toNat) ((a0 * 10000) + a1)) 38 2 ((w 38 2) + 1)
set_option maxRecDepth 4000 in
theorem c_W_add {d : Nat} {w : z_Wd} {a0 a1 : Int} {Q : Option z_V → z_Wd → Prop} (h : P_W_add w a0 a1) (k : Q none (F_W_add w a0 a1)) : z_Wc d m_X4_add [zR 38, zI a0, zI a1] w Q := by
  unfold P_W_add at h
  unfold F_W_add at k
  refine z_enter rfl (Nat.le_of_ble_eq_true rfl) ?_
  show z_Wp m_X4_add _ 0 [(0, zR 38), (1, zI a0), (2, zI a1)] [] w _
  refine z_aload_n (pc' := 1) 0 rfl rfl dX4_add_0 rfl ?_
  refine z_getI2 (v := w 38 2) (pc' := 4) g_X4_18 (by decide) rfl rfl rfl dX4_add_1 rfl ?_
  refine z_sipush (pc' := 7) (by decide) dX4_add_4 rfl ?_
  obtain ⟨r1, h⟩ := h
  refine z_icmp_ge 36 dX4_add_7 (by decide) (pc' := 10) rfl r1 (by decide) (fun c => ?_) (fun c => ?_)
  · have h := h.1 c
    rw [if_pos c] at k
    refine z_vret rfl dX4_add_36 ?_
    exact k
  · have h := h.2 c
    rw [if_neg c] at k
    refine z_aload_n (pc' := 11) 0 rfl rfl dX4_add_10 rfl ?_
    refine z_getR (t := 39) (pc' := 14) g_X4_11 (by decide) rfl rfl dX4_add_11 rfl ?_
    refine z_aload_n (pc' := 15) 0 rfl rfl dX4_add_14 rfl ?_
    refine z_getI2 (v := w 38 2) (pc' := 18) g_X4_18 (by decide) rfl rfl rfl dX4_add_15 rfl ?_
    refine z_iload_n (pc' := 19) 1 rfl rfl dX4_add_18 rfl ?_
    refine z_sipush (pc' := 22) (by decide) dX4_add_19 rfl ?_
    refine z_imul (pc' := 23) dX4_add_22 rfl ?_
    refine z_iload_n (pc' := 24) 2 rfl rfl dX4_add_23 rfl ?_
    refine z_iadd (pc' := 25) dX4_add_24 rfl ?_
    have r2 := h
    refine z_iast2 (w' := z_up w 39 ((w 38 2).toNat) ((a0 * 10000) + a1)) (pc' := 26) (by decide) rfl r2 (by decide) rfl dX4_add_25 rfl ?_
    refine z_aload_n (pc' := 27) 0 rfl rfl dX4_add_26 rfl ?_
    refine z_dup (pc' := 28) rfl dX4_add_27 rfl ?_
    refine z_getI2 (v := w 38 2) (pc' := 31) g_X4_18 (by decide) rfl rfl rfl dX4_add_28 rfl ?_
    refine z_iconst (pc' := 32) dX4_add_31 rfl ?_
    refine z_iadd (pc' := 33) dX4_add_32 rfl ?_
    refine z_putI (pc' := 36) p_X4_18 (by decide) rfl rfl rfl rfl dX4_add_33 rfl ?_
    refine z_vret rfl dX4_add_36 ?_
    exact k
def P_W_goOnHere (w : z_Wd) (a0 : Int) : Prop := (-2147483648 ≤ a0 ∧ a0 < 2147483648) ∧ ((a0 < 0 → True) ∧ (¬ (a0 < 0) → (-2147483648 ≤ w 38 2 ∧ w 38 2 < 2147483648) ∧ ((a0 ≥ w 38 2 → True) ∧ (¬ (a0 ≥ w 38 2) → 0 ≤ a0 ∧ a0 < 240))))
def F_W_goOnHere (w : z_Wd) (a0 : Int) : z_Wd := if a0 < 0 then w else if a0 ≥ w 38 2 then w else z_up w 39 a0.toNat (30000 + (w 38 2))
set_option maxRecDepth 4000 in
theorem c_W_goOnHere {d : Nat} {w : z_Wd} {a0 : Int} {Q : Option z_V → z_Wd → Prop} (h : P_W_goOnHere w a0) (k : Q none (F_W_goOnHere w a0)) : z_Wc d m_X4_goOnHere [zR 38, zI a0] w Q := by
  unfold P_W_goOnHere at h
  unfold F_W_goOnHere at k
  refine z_enter rfl (Nat.le_of_ble_eq_true rfl) ?_
  show z_Wp m_X4_goOnHere _ 0 [(0, zR 38), (1, zI a0)] [] w _
  refine z_iload_n (pc' := 1) 1 rfl rfl dX4_goOnHere_0 rfl ?_
  obtain ⟨r1, h⟩ := h
  refine z_if_lt 26 dX4_goOnHere_1 (by decide) (pc' := 4) rfl r1 (fun c => ?_) (fun c => ?_)
  · have h := h.1 c
    rw [if_pos c] at k
    refine z_vret rfl dX4_goOnHere_26 ?_
    exact k
  · have h := h.2 c
    rw [if_neg c] at k
    refine z_iload_n (pc' := 5) 1 rfl rfl dX4_goOnHere_4 rfl ?_
    refine z_aload_n (pc' := 6) 0 rfl rfl dX4_goOnHere_5 rfl ?_
    refine z_getI2 (v := w 38 2) (pc' := 9) g_X4_18 (by decide) rfl rfl rfl dX4_goOnHere_6 rfl ?_
    obtain ⟨r2, h⟩ := h
    refine z_icmp_ge 26 dX4_goOnHere_9 (by decide) (pc' := 12) rfl r1 r2 (fun c => ?_) (fun c => ?_)
    · have h := h.1 c
      rw [if_pos c] at k
      refine z_vret rfl dX4_goOnHere_26 ?_
      exact k
    · have h := h.2 c
      rw [if_neg c] at k
      refine z_aload_n (pc' := 13) 0 rfl rfl dX4_goOnHere_12 rfl ?_
      refine z_getR (t := 39) (pc' := 16) g_X4_11 (by decide) rfl rfl dX4_goOnHere_13 rfl ?_
      refine z_iload_n (pc' := 17) 1 rfl rfl dX4_goOnHere_16 rfl ?_
      refine z_sipush (pc' := 20) (by decide) dX4_goOnHere_17 rfl ?_
      refine z_aload_n (pc' := 21) 0 rfl rfl dX4_goOnHere_20 rfl ?_
      refine z_getI2 (v := w 38 2) (pc' := 24) g_X4_18 (by decide) rfl rfl rfl dX4_goOnHere_21 rfl ?_
      refine z_iadd (pc' := 25) dX4_goOnHere_24 rfl ?_
      have r3 := h
      refine z_iast2 (w' := z_up w 39 a0.toNat (30000 + (w 38 2))) (pc' := 26) (by decide) rfl r3 (by decide) rfl dX4_goOnHere_25 rfl ?_
      refine z_vret rfl dX4_goOnHere_26 ?_
      exact k
def P_W_push (w : z_Wd) (a0 : Int) : Prop := (-2147483648 ≤ w 38 3 ∧ w 38 3 < 2147483648) ∧ ((w 38 3 ≥ 64 → True) ∧ (¬ (w 38 3 ≥ 64) → 0 ≤ w 38 3 ∧ w 38 3 < 64))
def F_W_push (w : z_Wd) (a0 : Int) : z_Wd := if w 38 3 ≥ 64 then w else z_up (z_up w 40 ((w 38 3).toNat) a0) 38 3 ((w 38 3) + 1)
set_option maxRecDepth 4000 in
theorem c_W_push {d : Nat} {w : z_Wd} {a0 : Int} {Q : Option z_V → z_Wd → Prop} (h : P_W_push w a0) (k : Q none (F_W_push w a0)) : z_Wc d m_X4_push [zR 38, zI a0] w Q := by
  unfold P_W_push at h
  unfold F_W_push at k
  refine z_enter rfl (Nat.le_of_ble_eq_true rfl) ?_
  show z_Wp m_X4_push _ 0 [(0, zR 38), (1, zI a0)] [] w _
  refine z_aload_n (pc' := 1) 0 rfl rfl dX4_push_0 rfl ?_
  refine z_getI2 (v := w 38 3) (pc' := 4) g_X4_28 (by decide) rfl rfl rfl dX4_push_1 rfl ?_
  refine z_bipush (pc' := 6) (by decide) dX4_push_4 rfl ?_
  obtain ⟨r1, h⟩ := h
  refine z_icmp_ge 29 dX4_push_6 (by decide) (pc' := 9) rfl r1 (by decide) (fun c => ?_) (fun c => ?_)
  · have h := h.1 c
    rw [if_pos c] at k
    refine z_vret rfl dX4_push_29 ?_
    exact k
  · have h := h.2 c
    rw [if_neg c] at k
    refine z_aload_n (pc' := 10) 0 rfl rfl dX4_push_9 rfl ?_
    refine z_getR (t := 40) (pc' := 13) g_X4_15 (by decide) rfl rfl dX4_push_10 rfl ?_
    refine z_aload_n (pc' := 14) 0 rfl rfl dX4_push_13 rfl ?_
    refine z_getI2 (v := w 38 3) (pc' := 17) g_X4_28 (by decide) rfl rfl rfl dX4_push_14 rfl ?_
    refine z_iload_n (pc' := 18) 1 rfl rfl dX4_push_17 rfl ?_
    have r2 := h
    refine z_iast2 (w' := z_up w 40 ((w 38 3).toNat) a0) (pc' := 19) (by decide) rfl r2 (by decide) rfl dX4_push_18 rfl ?_
    refine z_aload_n (pc' := 20) 0 rfl rfl dX4_push_19 rfl ?_
    refine z_dup (pc' := 21) rfl dX4_push_20 rfl ?_
    refine z_getI2 (v := w 38 3) (pc' := 24) g_X4_28 (by decide) rfl rfl rfl dX4_push_21 rfl ?_
    refine z_iconst (pc' := 25) dX4_push_24 rfl ?_
    refine z_iadd (pc' := 26) dX4_push_25 rfl ?_
    refine z_putI (pc' := 29) p_X4_28 (by decide) rfl rfl rfl rfl dX4_push_26 rfl ?_
    refine z_vret rfl dX4_push_29 ?_
    exact k
def P_W_pop (w : z_Wd)  : Prop := (-2147483648 ≤ w 38 3 ∧ w 38 3 < 2147483648) ∧ ((w 38 3 > 0 → 0 ≤ (w 38 3) - 1 ∧ (w 38 3) - 1 < 64) ∧ (¬ (w 38 3 > 0) → True))
def F_W_pop (w : z_Wd)  : Int × z_Wd := if w 38 3 > 0 then (w 40 (((w 38 3) - 1).toNat), z_up w 38 3 ((w 38 3) - 1)) else (0, w)
set_option maxRecDepth 4000 in
theorem c_W_pop {d : Nat} {w : z_Wd} {Q : Option z_V → z_Wd → Prop} (h : P_W_pop w ) (k : Q (some (zI (F_W_pop w ).1)) (F_W_pop w ).2) : z_Wc d m_X4_pop [zR 38] w Q := by
  unfold P_W_pop at h
  unfold F_W_pop at k
  refine z_enter rfl (Nat.le_of_ble_eq_true rfl) ?_
  show z_Wp m_X4_pop _ 0 [(0, zR 38)] [] w _
  refine z_aload_n (pc' := 1) 0 rfl rfl dX4_pop_0 rfl ?_
  refine z_getI2 (v := w 38 3) (pc' := 4) g_X4_28 (by decide) rfl rfl rfl dX4_pop_1 rfl ?_
  obtain ⟨r1, h⟩ := h
  refine z_if_gt 9 dX4_pop_4 (by decide) (pc' := 7) rfl r1 (fun c => ?_) (fun c => ?_)
  · have h := h.1 c
    rw [if_pos c] at k
    refine z_aload_n (pc' := 10) 0 rfl rfl dX4_pop_9 rfl ?_
    refine z_dup (pc' := 11) rfl dX4_pop_10 rfl ?_
    refine z_getI2 (v := w 38 3) (pc' := 14) g_X4_28 (by decide) rfl rfl rfl dX4_pop_11 rfl ?_
    refine z_iconst (pc' := 15) dX4_pop_14 rfl ?_
    refine z_isub (pc' := 16) dX4_pop_15 rfl ?_
    refine z_putI (pc' := 19) p_X4_28 (by decide) rfl rfl rfl rfl dX4_pop_16 rfl ?_
    refine z_aload_n (pc' := 20) 0 rfl rfl dX4_pop_19 rfl ?_
    refine z_getR (t := 40) (pc' := 23) g_X4_15 (by decide) rfl rfl dX4_pop_20 rfl ?_
    refine z_aload_n (pc' := 24) 0 rfl rfl dX4_pop_23 rfl ?_
    refine z_getI2 (v := (w 38 3) - 1) (pc' := 27) g_X4_28 (by decide) rfl rfl rfl dX4_pop_24 rfl ?_
    have r2 := h
    refine z_iald2 (v := w 40 (((w 38 3) - 1).toNat)) (pc' := 28) (by decide) rfl r2 (by decide) rfl dX4_pop_27 rfl ?_
    refine z_iret rfl dX4_pop_28 ?_
    exact k
  · have h := h.2 c
    rw [if_neg c] at k
    refine z_iconst (pc' := 8) dX4_pop_7 rfl ?_
    refine z_iret rfl dX4_pop_8 ?_
    exact k
def P_W_join (w : z_Wd) (a0 : Int) (a1 : Int) (a2 : Int) : Prop := (-2147483648 ≤ a0 ∧ a0 < 2147483648) ∧ ((a0 = 38 → True) ∧ (¬ a0 = 38 → (a0 = 42 → (-2147483648 ≤ a1 ∧ a1 < 2147483648) ∧ (-2147483648 ≤ a2 ∧ a2 < 2147483648) ∧ ((P_J_min_f86c9 w 1000000 (a1 * a2)) ∧ (P_J_max_f86c9 w (-1000000) (F_J_min_f86c9 w 1000000 (a1 * a2))))) ∧ (¬ a0 = 42 → (a0 = 43 → (-2147483648 ≤ a1 + a2 ∧ a1 + a2 < 2147483648) ∧ ((P_J_min_f86c9 w 1000000 (a1 + a2)) ∧ (P_J_max_f86c9 w (-1000000) (F_J_min_f86c9 w 1000000 (a1 + a2))))) ∧ (¬ a0 = 43 → (a0 = 45 → (-2147483648 ≤ a1 - a2 ∧ a1 - a2 < 2147483648) ∧ ((P_J_min_f86c9 w 1000000 (a1 - a2)) ∧ (P_J_max_f86c9 w (-1000000) (F_J_min_f86c9 w 1000000 (a1 - a2))))) ∧ (¬ a0 = 45 → (a0 = 47 → (-2147483648 ≤ a2 ∧ a2 < 2147483648) ∧ ((a2 = 0 → True) ∧ (¬ (a2 = 0) → (a2 ≠ 0) ∧ (-2147483648 ≤ a1 ∧ a1 < 2147483648)))) ∧ (¬ a0 = 47 → (a0 = 60 → (-2147483648 ≤ a1 ∧ a1 < 2147483648) ∧ (-2147483648 ≤ a2 ∧ a2 < 2147483648)) ∧ (¬ a0 = 60 → (a0 = 61 → (-2147483648 ≤ a1 ∧ a1 < 2147483648) ∧ (-2147483648 ≤ a2 ∧ a2 < 2147483648)) ∧ (¬ a0 = 61 → (a0 = 62 → (-2147483648 ≤ a1 ∧ a1 < 2147483648) ∧ (-2147483648 ≤ a2 ∧ a2 < 2147483648)) ∧ (¬ a0 = 62 → (a0 = 124 → True) ∧ (¬ a0 = 124 → True))))))))))
def F_W_join (w : z_Wd) (a0 : Int) (a1 : Int) (a2 : Int) : Int := if a0 = 38 then zz_and a1 a2 else if a0 = 42 then F_J_max_f86c9 w (-1000000) (F_J_min_f86c9 w 1000000 (a1 * a2)) else if a0 = 43 then F_J_max_f86c9 w (-1000000) (F_J_min_f86c9 w 1000000 (a1 + a2)) else if a0 = 45 then F_J_max_f86c9 w (-1000000) (F_J_min_f86c9 w 1000000 (a1 - a2)) else if a0 = 47 then if a2 = 0 then 0 else Int.tdiv a1 a2 else if a0 = 60 then if a1 ≥ a2 then 0 else 1 else if a0 = 61 then if a1 = a2 then 1 else 0 else if a0 = 62 then if a1 ≤ a2 then 0 else 1 else if a0 = 124 then zz_or a1 a2 else 0
set_option maxRecDepth 4000 in
theorem c_W_join {d : Nat} {w : z_Wd} {a0 a1 a2 : Int} {Q : Option z_V → z_Wd → Prop} (h : P_W_join w a0 a1 a2) (k : Q (some (zI (F_W_join w a0 a1 a2))) w) : z_Wc (d + 2) m_X4_join [zI a0, zI a1, zI a2] w Q := by
  unfold P_W_join at h
  unfold F_W_join at k
  refine z_enter rfl (Nat.le_of_ble_eq_true rfl) ?_
  show z_Wp m_X4_join _ 0 [(0, zI a0), (1, zI a1), (2, zI a2)] [] w _
  refine z_iload_n (pc' := 1) 0 rfl rfl dX4_join_0 rfl ?_
  obtain ⟨r1, h⟩ := h
  refine z_lookup dX4_join_1 (by decide) r1 ⟨fun c0 => ⟨154, by decide, ?_⟩, fun c0 => ⟨fun c1 => ⟨100, by decide, ?_⟩, fun c1 => ⟨fun c2 => ⟨84, by decide, ?_⟩, fun c2 => ⟨fun c3 => ⟨92, by decide, ?_⟩, fun c3 => ⟨fun c4 => ⟨109, by decide, ?_⟩, fun c4 => ⟨fun c5 => ⟨132, by decide, ?_⟩, fun c5 => ⟨fun c6 => ⟨121, by decide, ?_⟩, fun c6 => ⟨fun c7 => ⟨143, by decide, ?_⟩, fun c7 => ⟨fun c8 => ⟨158, by decide, ?_⟩, fun c8 => ⟨162, by decide, ?_⟩⟩⟩⟩⟩⟩⟩⟩⟩⟩
  · skip
    have c0 : a0 = 38 := c0
    have h := h.1 c0
    rw [if_pos c0] at k
    refine z_iload_n (pc' := 155) 1 rfl rfl dX4_join_154 rfl ?_
    refine z_iload_n (pc' := 156) 2 rfl rfl dX4_join_155 rfl ?_
    refine z_iand (pc' := 157) dX4_join_156 rfl ?_
    refine z_iret rfl dX4_join_157 ?_
    exact k
  · skip
    have c0 : ¬ a0 = 38 := c0
    have h := h.2 c0
    rw [if_neg c0] at k
    have c1 : a0 = 42 := c1
    have h := h.1 c1
    rw [if_pos c1] at k
    refine z_iload_n (pc' := 101) 1 rfl rfl dX4_join_100 rfl ?_
    obtain ⟨r2, h⟩ := h
    refine z_i2l (pc' := 102) r2 dX4_join_101 rfl ?_
    refine z_iload_n (pc' := 103) 2 rfl rfl dX4_join_102 rfl ?_
    obtain ⟨r3, h⟩ := h
    refine z_i2l (pc' := 104) r3 dX4_join_103 rfl ?_
    refine z_lmul (pc' := 105) dX4_join_104 rfl ?_
    refine z_invS (as := [zJ (a1 * a2)]) (st := []) (C := m_X4_bounded) (pc' := 108) dX4_join_105 rfl t_4_111 k_X4_bounded rfl rfl (Nat.le_of_ble_eq_true rfl) ?_
    have r4 := h
    refine c_W_bounded r4 ?_
    show z_Wp m_X4_join _ 108 [(0, zI a0), (1, zI a1), (2, zI a2)] [zI (F_J_max_f86c9 w (-1000000) (F_J_min_f86c9 w 1000000 (a1 * a2)))] w _
    refine z_iret rfl dX4_join_108 ?_
    exact k
  · skip
    have c0 : ¬ a0 = 38 := c0
    have h := h.2 c0
    rw [if_neg c0] at k
    have c1 : ¬ a0 = 42 := c1
    have h := h.2 c1
    rw [if_neg c1] at k
    have c2 : a0 = 43 := c2
    have h := h.1 c2
    rw [if_pos c2] at k
    refine z_iload_n (pc' := 85) 1 rfl rfl dX4_join_84 rfl ?_
    refine z_iload_n (pc' := 86) 2 rfl rfl dX4_join_85 rfl ?_
    refine z_iadd (pc' := 87) dX4_join_86 rfl ?_
    obtain ⟨r5, h⟩ := h
    refine z_i2l (pc' := 88) r5 dX4_join_87 rfl ?_
    refine z_invS (as := [zJ (a1 + a2)]) (st := []) (C := m_X4_bounded) (pc' := 91) dX4_join_88 rfl t_4_111 k_X4_bounded rfl rfl (Nat.le_of_ble_eq_true rfl) ?_
    have r6 := h
    refine c_W_bounded r6 ?_
    show z_Wp m_X4_join _ 91 [(0, zI a0), (1, zI a1), (2, zI a2)] [zI (F_J_max_f86c9 w (-1000000) (F_J_min_f86c9 w 1000000 (a1 + a2)))] w _
    refine z_iret rfl dX4_join_91 ?_
    exact k
  · skip
    have c0 : ¬ a0 = 38 := c0
    have h := h.2 c0
    rw [if_neg c0] at k
    have c1 : ¬ a0 = 42 := c1
    have h := h.2 c1
    rw [if_neg c1] at k
    have c2 : ¬ a0 = 43 := c2
    have h := h.2 c2
    rw [if_neg c2] at k
    have c3 : a0 = 45 := c3
    have h := h.1 c3
    rw [if_pos c3] at k
    refine z_iload_n (pc' := 93) 1 rfl rfl dX4_join_92 rfl ?_
    refine z_iload_n (pc' := 94) 2 rfl rfl dX4_join_93 rfl ?_
    refine z_isub (pc' := 95) dX4_join_94 rfl ?_
    obtain ⟨r7, h⟩ := h
    refine z_i2l (pc' := 96) r7 dX4_join_95 rfl ?_
    refine z_invS (as := [zJ (a1 - a2)]) (st := []) (C := m_X4_bounded) (pc' := 99) dX4_join_96 rfl t_4_111 k_X4_bounded rfl rfl (Nat.le_of_ble_eq_true rfl) ?_
    have r8 := h
    refine c_W_bounded r8 ?_
    show z_Wp m_X4_join _ 99 [(0, zI a0), (1, zI a1), (2, zI a2)] [zI (F_J_max_f86c9 w (-1000000) (F_J_min_f86c9 w 1000000 (a1 - a2)))] w _
    refine z_iret rfl dX4_join_99 ?_
    exact k
  · skip
    have c0 : ¬ a0 = 38 := c0
    have h := h.2 c0
    rw [if_neg c0] at k
    have c1 : ¬ a0 = 42 := c1
    have h := h.2 c1
    rw [if_neg c1] at k
    have c2 : ¬ a0 = 43 := c2
    have h := h.2 c2
    rw [if_neg c2] at k
    have c3 : ¬ a0 = 45 := c3
    have h := h.2 c3
    rw [if_neg c3] at k
    have c4 : a0 = 47 := c4
    have h := h.1 c4
    rw [if_pos c4] at k
    refine z_iload_n (pc' := 110) 2 rfl rfl dX4_join_109 rfl ?_
    obtain ⟨r9, h⟩ := h
    refine z_if_ne 117 dX4_join_110 (by decide) (pc' := 113) rfl r9 (fun c => ?_) (fun c => ?_)
    · have h := h.2 c
      rw [if_neg c] at k
      refine z_iload_n (pc' := 118) 1 rfl rfl dX4_join_117 rfl ?_
      refine z_iload_n (pc' := 119) 2 rfl rfl dX4_join_118 rfl ?_
      obtain ⟨r10, h⟩ := h
      have r11 := h
      refine z_idiv (pc' := 120) r11 r9 r10 dX4_join_119 rfl ?_
      refine z_iret rfl dX4_join_120 ?_
      exact k
    · have h := h.1 c
      rw [if_pos c] at k
      refine z_iconst (pc' := 114) dX4_join_113 rfl ?_
      refine z_goto 120 dX4_join_114 (by decide) ?_
      refine z_iret rfl dX4_join_120 ?_
      exact k
  · skip
    have c0 : ¬ a0 = 38 := c0
    have h := h.2 c0
    rw [if_neg c0] at k
    have c1 : ¬ a0 = 42 := c1
    have h := h.2 c1
    rw [if_neg c1] at k
    have c2 : ¬ a0 = 43 := c2
    have h := h.2 c2
    rw [if_neg c2] at k
    have c3 : ¬ a0 = 45 := c3
    have h := h.2 c3
    rw [if_neg c3] at k
    have c4 : ¬ a0 = 47 := c4
    have h := h.2 c4
    rw [if_neg c4] at k
    have c5 : a0 = 60 := c5
    have h := h.1 c5
    rw [if_pos c5] at k
    refine z_iload_n (pc' := 133) 1 rfl rfl dX4_join_132 rfl ?_
    refine z_iload_n (pc' := 134) 2 rfl rfl dX4_join_133 rfl ?_
    obtain ⟨r12, h⟩ := h
    have r13 := h
    refine z_icmp_ge 141 dX4_join_134 (by decide) (pc' := 137) rfl r12 r13 (fun c => ?_) (fun c => ?_)
    · skip
      rw [if_pos c] at k
      refine z_iconst (pc' := 142) dX4_join_141 rfl ?_
      refine z_iret rfl dX4_join_142 ?_
      exact k
    · skip
      rw [if_neg c] at k
      refine z_iconst (pc' := 138) dX4_join_137 rfl ?_
      refine z_goto 142 dX4_join_138 (by decide) ?_
      refine z_iret rfl dX4_join_142 ?_
      exact k
  · skip
    have c0 : ¬ a0 = 38 := c0
    have h := h.2 c0
    rw [if_neg c0] at k
    have c1 : ¬ a0 = 42 := c1
    have h := h.2 c1
    rw [if_neg c1] at k
    have c2 : ¬ a0 = 43 := c2
    have h := h.2 c2
    rw [if_neg c2] at k
    have c3 : ¬ a0 = 45 := c3
    have h := h.2 c3
    rw [if_neg c3] at k
    have c4 : ¬ a0 = 47 := c4
    have h := h.2 c4
    rw [if_neg c4] at k
    have c5 : ¬ a0 = 60 := c5
    have h := h.2 c5
    rw [if_neg c5] at k
    have c6 : a0 = 61 := c6
    have h := h.1 c6
    rw [if_pos c6] at k
    refine z_iload_n (pc' := 122) 1 rfl rfl dX4_join_121 rfl ?_
    refine z_iload_n (pc' := 123) 2 rfl rfl dX4_join_122 rfl ?_
    obtain ⟨r14, h⟩ := h
    have r15 := h
    refine z_icmp_ne 130 dX4_join_123 (by decide) (pc' := 126) rfl r14 r15 (fun c => ?_) (fun c => ?_)
    · skip
      rw [if_neg c] at k
      refine z_iconst (pc' := 131) dX4_join_130 rfl ?_
      refine z_iret rfl dX4_join_131 ?_
      exact k
    · skip
      rw [if_pos c] at k
      refine z_iconst (pc' := 127) dX4_join_126 rfl ?_
      refine z_goto 131 dX4_join_127 (by decide) ?_
      refine z_iret rfl dX4_join_131 ?_
      exact k
  · skip
    have c0 : ¬ a0 = 38 := c0
    have h := h.2 c0
    rw [if_neg c0] at k
    have c1 : ¬ a0 = 42 := c1
    have h := h.2 c1
    rw [if_neg c1] at k
    have c2 : ¬ a0 = 43 := c2
    have h := h.2 c2
    rw [if_neg c2] at k
    have c3 : ¬ a0 = 45 := c3
    have h := h.2 c3
    rw [if_neg c3] at k
    have c4 : ¬ a0 = 47 := c4
    have h := h.2 c4
    rw [if_neg c4] at k
    have c5 : ¬ a0 = 60 := c5
    have h := h.2 c5
    rw [if_neg c5] at k
    have c6 : ¬ a0 = 61 := c6
    have h := h.2 c6
    rw [if_neg c6] at k
    have c7 : a0 = 62 := c7
    have h := h.1 c7
    rw [if_pos c7] at k
    refine z_iload_n (pc' := 144) 1 rfl rfl dX4_join_143 rfl ?_
    refine z_iload_n (pc' := 145) 2 rfl rfl dX4_join_144 rfl ?_
    obtain ⟨r16, h⟩ := h
    have r17 := h
    refine z_icmp_le 152 dX4_join_145 (by decide) (pc' := 148) rfl r16 r17 (fun c => ?_) (fun c => ?_)
    · skip
      rw [if_pos c] at k
      refine z_iconst (pc' := 153) dX4_join_152 rfl ?_
      refine z_iret rfl dX4_join_153 ?_
      exact k
    · skip
      rw [if_neg c] at k
      refine z_iconst (pc' := 149) dX4_join_148 rfl ?_
      refine z_goto 153 dX4_join_149 (by decide) ?_
      refine z_iret rfl dX4_join_153 ?_
      exact k
  · skip
    have c0 : ¬ a0 = 38 := c0
    have h := h.2 c0
    rw [if_neg c0] at k
    have c1 : ¬ a0 = 42 := c1
    have h := h.2 c1
    rw [if_neg c1] at k
    have c2 : ¬ a0 = 43 := c2
    have h := h.2 c2
    rw [if_neg c2] at k
    have c3 : ¬ a0 = 45 := c3
    have h := h.2 c3
    rw [if_neg c3] at k
    have c4 : ¬ a0 = 47 := c4
    have h := h.2 c4
    rw [if_neg c4] at k
    have c5 : ¬ a0 = 60 := c5
    have h := h.2 c5
    rw [if_neg c5] at k
    have c6 : ¬ a0 = 61 := c6
    have h := h.2 c6
    rw [if_neg c6] at k
    have c7 : ¬ a0 = 62 := c7
    have h := h.2 c7
    rw [if_neg c7] at k
    have c8 : a0 = 124 := c8
    have h := h.1 c8
    rw [if_pos c8] at k
    refine z_iload_n (pc' := 159) 1 rfl rfl dX4_join_158 rfl ?_
    refine z_iload_n (pc' := 160) 2 rfl rfl dX4_join_159 rfl ?_
    refine z_ior (pc' := 161) dX4_join_160 rfl ?_
    refine z_iret rfl dX4_join_161 ?_
    exact k
  · skip
    have c0 : ¬ a0 = 38 := c0
    have h := h.2 c0
    rw [if_neg c0] at k
    have c1 : ¬ a0 = 42 := c1
    have h := h.2 c1
    rw [if_neg c1] at k
    have c2 : ¬ a0 = 43 := c2
    have h := h.2 c2
    rw [if_neg c2] at k
    have c3 : ¬ a0 = 45 := c3
    have h := h.2 c3
    rw [if_neg c3] at k
    have c4 : ¬ a0 = 47 := c4
    have h := h.2 c4
    rw [if_neg c4] at k
    have c5 : ¬ a0 = 60 := c5
    have h := h.2 c5
    rw [if_neg c5] at k
    have c6 : ¬ a0 = 61 := c6
    have h := h.2 c6
    rw [if_neg c6] at k
    have c7 : ¬ a0 = 62 := c7
    have h := h.2 c7
    rw [if_neg c7] at k
    have c8 : ¬ a0 = 124 := c8
    have h := h.2 c8
    rw [if_neg c8] at k
    refine z_iconst (pc' := 163) dX4_join_162 rfl ?_
    refine z_iret rfl dX4_join_163 ?_
    exact k
set_option maxRecDepth 4000 in
theorem c_LR_draft {d : Nat} {w : z_Wd} {Q : Option z_V → z_Wd → Prop} (k : Q (some (zR 38)) w) : z_Wc d m_X5_draft [zR 37] w Q := by
  refine z_enter rfl (Nat.le_of_ble_eq_true rfl) ?_
  show z_Wp m_X5_draft _ 0 [(0, zR 37)] [] w _
  refine z_aload_n (pc' := 1) 0 rfl rfl dX5_draft_0 rfl ?_
  refine z_getR (t := 38) (pc' := 4) g_X5_12 (by decide) rfl rfl dX5_draft_1 rfl ?_
  refine z_aret rfl dX5_draft_4 ?_
  exact k
def P_LR_step (w : z_Wd)  : Prop := P_T_behindBlanks w ((w 37 2) + 1)
def F_LR_step (w : z_Wd)  : z_Wd := z_up w 37 2 (F_T_behindBlanks w ((w 37 2) + 1))
set_option maxRecDepth 4000 in
theorem c_LR_step {d : Nat} {w : z_Wd} {Q : Option z_V → z_Wd → Prop} (h : P_LR_step w ) (k : Q none (F_LR_step w )) : z_Wc (d + 2) m_X5_step [zR 37] w Q := by
  unfold P_LR_step at h
  unfold F_LR_step at k
  refine z_enter rfl (Nat.le_of_ble_eq_true rfl) ?_
  show z_Wp m_X5_step _ 0 [(0, zR 37)] [] w _
  refine z_aload_n (pc' := 1) 0 rfl rfl dX5_step_0 rfl ?_
  refine z_aload_n (pc' := 2) 0 rfl rfl dX5_step_1 rfl ?_
  refine z_getR (t := 28) (pc' := 5) g_X5_18 (by decide) rfl rfl dX5_step_2 rfl ?_
  refine z_aload_n (pc' := 6) 0 rfl rfl dX5_step_5 rfl ?_
  refine z_getI2 (v := w 37 2) (pc' := 9) g_X5_31 (by decide) rfl rfl rfl dX5_step_6 rfl ?_
  refine z_iconst (pc' := 10) dX5_step_9 rfl ?_
  refine z_iadd (pc' := 11) dX5_step_10 rfl ?_
  refine z_invV (as := [zI ((w 37 2) + 1)]) (st := [zR 37]) (C := m_X10_behindBlanks) (fs := [31, 0]) (pc' := 14) dX5_step_11 rfl t_2_197 k_X10_behindBlanks rfl (by decide) rfl rfl rfl rfl (Nat.le_of_ble_eq_true rfl) ?_
  have r1 := h
  refine c_T_behindBlanks r1 ?_
  show z_Wp m_X5_step _ 14 [(0, zR 37)] [zI (F_T_behindBlanks w ((w 37 2) + 1)), zR 37] w _
  refine z_putI (pc' := 17) p_X5_31 (by decide) rfl rfl rfl rfl dX5_step_14 rfl ?_
  refine z_vret rfl dX5_step_17 ?_
  exact k
def P_LR_isEither (w : z_Wd) (a0 : Int) (a1 : Int) : Prop := (P_T_at w (w 37 2)) ∧ (-2147483648 ≤ F_T_at w (w 37 2) ∧ F_T_at w (w 37 2) < 2147483648) ∧ (-2147483648 ≤ a0 ∧ a0 < 2147483648) ∧ ((F_T_at w (w 37 2) = a0 → True) ∧ (¬ (F_T_at w (w 37 2) = a0) → -2147483648 ≤ a1 ∧ a1 < 2147483648))
def F_LR_isEither (w : z_Wd) (a0 : Int) (a1 : Int) : Int := if F_T_at w (w 37 2) = a0 then 1 else if F_T_at w (w 37 2) = a1 then 1 else 0
set_option maxRecDepth 4000 in
theorem c_LR_isEither {d : Nat} {w : z_Wd} {a0 a1 : Int} {Q : Option z_V → z_Wd → Prop} (h : P_LR_isEither w a0 a1) (k : Q (some (zI (F_LR_isEither w a0 a1))) w) : z_Wc (d + 1) m_X5_isEither [zR 37, zI a0, zI a1] w Q := by
  unfold P_LR_isEither at h
  unfold F_LR_isEither at k
  refine z_enter rfl (Nat.le_of_ble_eq_true rfl) ?_
  show z_Wp m_X5_isEither _ 0 [(0, zR 37), (1, zI a0), (2, zI a1)] [] w _
  refine z_aload_n (pc' := 1) 0 rfl rfl dX5_isEither_0 rfl ?_
  refine z_getR (t := 28) (pc' := 4) g_X5_18 (by decide) rfl rfl dX5_isEither_1 rfl ?_
  refine z_aload_n (pc' := 5) 0 rfl rfl dX5_isEither_4 rfl ?_
  refine z_getI2 (v := w 37 2) (pc' := 8) g_X5_31 (by decide) rfl rfl rfl dX5_isEither_5 rfl ?_
  refine z_invV (as := [zI (w 37 2)]) (st := []) (C := m_X10_at) (fs := [31, 0]) (pc' := 11) dX5_isEither_8 rfl t_2_206 k_X10_at rfl (by decide) rfl rfl rfl rfl (Nat.le_of_ble_eq_true rfl) ?_
  obtain ⟨r1, h⟩ := h
  refine c_T_at r1 ?_
  show z_Wp m_X5_isEither _ 11 [(0, zR 37), (1, zI a0), (2, zI a1)] [zI (F_T_at w (w 37 2))] w _
  refine z_iload_n (pc' := 12) 1 rfl rfl dX5_isEither_11 rfl ?_
  obtain ⟨r2, h⟩ := h
  obtain ⟨r3, h⟩ := h
  refine z_icmp_eq 30 dX5_isEither_12 (by decide) (pc' := 15) rfl r2 r3 (fun c => ?_) (fun c => ?_)
  · have h := h.1 c
    rw [if_pos c] at k
    refine z_iconst (pc' := 31) dX5_isEither_30 rfl ?_
    refine z_goto 35 dX5_isEither_31 (by decide) ?_
    refine z_zret rfl (by decide) dX5_isEither_35 ?_
    exact k
  · have h := h.2 c
    rw [if_neg c] at k
    refine z_aload_n (pc' := 16) 0 rfl rfl dX5_isEither_15 rfl ?_
    refine z_getR (t := 28) (pc' := 19) g_X5_18 (by decide) rfl rfl dX5_isEither_16 rfl ?_
    refine z_aload_n (pc' := 20) 0 rfl rfl dX5_isEither_19 rfl ?_
    refine z_getI2 (v := w 37 2) (pc' := 23) g_X5_31 (by decide) rfl rfl rfl dX5_isEither_20 rfl ?_
    refine z_invV (as := [zI (w 37 2)]) (st := []) (C := m_X10_at) (fs := [31, 0]) (pc' := 26) dX5_isEither_23 rfl t_2_206 k_X10_at rfl (by decide) rfl rfl rfl rfl (Nat.le_of_ble_eq_true rfl) ?_
    refine c_T_at r1 ?_
    show z_Wp m_X5_isEither _ 26 [(0, zR 37), (1, zI a0), (2, zI a1)] [zI (F_T_at w (w 37 2))] w _
    refine z_iload_n (pc' := 27) 2 rfl rfl dX5_isEither_26 rfl ?_
    have r4 := h
    refine z_icmp_ne 34 dX5_isEither_27 (by decide) (pc' := 30) rfl r2 r4 (fun c => ?_) (fun c => ?_)
    · skip
      rw [if_neg c] at k
      refine z_iconst (pc' := 35) dX5_isEither_34 rfl ?_
      refine z_zret rfl (by decide) dX5_isEither_35 ?_
      exact k
    · skip
      rw [if_pos c] at k
      refine z_iconst (pc' := 31) dX5_isEither_30 rfl ?_
      refine z_goto 35 dX5_isEither_31 (by decide) ?_
      refine z_zret rfl (by decide) dX5_isEither_35 ?_
      exact k
theorem b_LR_isEither {w : z_Wd} {a0 a1 : Int} : F_LR_isEither w a0 a1 = 0 ∨ F_LR_isEither w a0 a1 = 1 := by
  unfold F_LR_isEither
  (repeat' split) <;> first | exact Or.inl rfl | exact Or.inr rfl
def P_LR_isComparison (w : z_Wd) (a0 : Int) : Prop := -2147483648 ≤ a0 ∧ a0 < 2147483648
def F_LR_isComparison (w : z_Wd) (a0 : Int) : Int := if a0 = 61 then 1 else if a0 = 60 then 1 else if a0 = 62 then 1 else 0
set_option maxRecDepth 4000 in
theorem c_LR_isComparison {d : Nat} {w : z_Wd} {a0 : Int} {Q : Option z_V → z_Wd → Prop} (h : P_LR_isComparison w a0) (k : Q (some (zI (F_LR_isComparison w a0))) w) : z_Wc d m_X5_isComparison [zI a0] w Q := by
  unfold P_LR_isComparison at h
  unfold F_LR_isComparison at k
  refine z_enter rfl (Nat.le_of_ble_eq_true rfl) ?_
  show z_Wp m_X5_isComparison _ 0 [(0, zI a0)] [] w _
  refine z_iload_n (pc' := 1) 0 rfl rfl dX5_isComparison_0 rfl ?_
  refine z_bipush (pc' := 3) (by decide) dX5_isComparison_1 rfl ?_
  have r1 := h
  refine z_icmp_eq 18 dX5_isComparison_3 (by decide) (pc' := 6) rfl r1 (by decide) (fun c => ?_) (fun c => ?_)
  · skip
    rw [if_pos c] at k
    refine z_iconst (pc' := 19) dX5_isComparison_18 rfl ?_
    refine z_goto 23 dX5_isComparison_19 (by decide) ?_
    refine z_zret rfl (by decide) dX5_isComparison_23 ?_
    exact k
  · skip
    rw [if_neg c] at k
    refine z_iload_n (pc' := 7) 0 rfl rfl dX5_isComparison_6 rfl ?_
    refine z_bipush (pc' := 9) (by decide) dX5_isComparison_7 rfl ?_
    refine z_icmp_eq 18 dX5_isComparison_9 (by decide) (pc' := 12) rfl r1 (by decide) (fun c => ?_) (fun c => ?_)
    · skip
      rw [if_pos c] at k
      refine z_iconst (pc' := 19) dX5_isComparison_18 rfl ?_
      refine z_goto 23 dX5_isComparison_19 (by decide) ?_
      refine z_zret rfl (by decide) dX5_isComparison_23 ?_
      exact k
    · skip
      rw [if_neg c] at k
      refine z_iload_n (pc' := 13) 0 rfl rfl dX5_isComparison_12 rfl ?_
      refine z_bipush (pc' := 15) (by decide) dX5_isComparison_13 rfl ?_
      refine z_icmp_ne 22 dX5_isComparison_15 (by decide) (pc' := 18) rfl r1 (by decide) (fun c => ?_) (fun c => ?_)
      · skip
        rw [if_neg c] at k
        refine z_iconst (pc' := 23) dX5_isComparison_22 rfl ?_
        refine z_zret rfl (by decide) dX5_isComparison_23 ?_
        exact k
      · skip
        rw [if_pos c] at k
        refine z_iconst (pc' := 19) dX5_isComparison_18 rfl ?_
        refine z_goto 23 dX5_isComparison_19 (by decide) ?_
        refine z_zret rfl (by decide) dX5_isComparison_23 ?_
        exact k
theorem b_LR_isComparison {w : z_Wd} {a0 : Int} : F_LR_isComparison w a0 = 0 ∨ F_LR_isComparison w a0 = 1 := by
  unfold F_LR_isComparison
  (repeat' split) <;> first | exact Or.inl rfl | exact Or.inr rfl
def E_LR_letterOf_2 (w : z_Wd) (a0 : Int) (i5 : Nat) : Bool := if a0 = z_sc 7 ((i5 : Int).toNat) then true else false
def R_LR_letterOf_2 (w : z_Wd) (a0 : Int) (i5 : Nat) : Int := if a0 = z_sc 7 ((i5 : Int).toNat) then (i5 : Int) else 0
def P_LR_letterOf (w : z_Wd) (a0 : Int) : Prop := (∀ i5 : Nat, i5 < 6 → zfind (E_LR_letterOf_2 w a0) i5 = -1 → (-2147483648 ≤ (i5 : Int) ∧ (i5 : Int) < 2147483648) ∧ (0 ≤ (i5 : Int) ∧ (i5 : Int) < 6) ∧ (-2147483648 ≤ a0 ∧ a0 < 2147483648) ∧ (-2147483648 ≤ z_sc 7 ((i5 : Int).toNat) ∧ z_sc 7 ((i5 : Int).toNat) < 2147483648)) ∧ (True)
def F_LR_letterOf (w : z_Wd) (a0 : Int) : Int := if zfind (E_LR_letterOf_2 w a0) 6 = -1 then (-1) else R_LR_letterOf_2 w a0 (zfind (E_LR_letterOf_2 w a0) 6).toNat
set_option maxRecDepth 4000 in
theorem c_LR_letterOf {d : Nat} {w : z_Wd} {a0 : Int} {Q : Option z_V → z_Wd → Prop} (h : P_LR_letterOf w a0) (k : Q (some (zI (F_LR_letterOf w a0))) w) : z_Wc d m_X5_letterOf [zI a0] w Q := by
  unfold P_LR_letterOf at h
  unfold F_LR_letterOf at k
  refine z_enter rfl (Nat.le_of_ble_eq_true rfl) ?_
  show z_Wp m_X5_letterOf _ 0 [(0, zI a0)] [] w _
  refine z_iconst (pc' := 1) dX5_letterOf_0 rfl ?_
  refine z_istore_n (pc' := 2) (ls' := [(0, zI a0), (1, zI 0)]) rfl (by decide) rfl rfl dX5_letterOf_1 rfl ?_
  refine z_upto 6 (fun i5 => zfind (E_LR_letterOf_2 w a0) i5 = -1 → z_Wp m_X5_letterOf d 2 [(0, zI a0), (1, zI (i5 : Int))] [] w Q) ?_ ?_ rfl
  · intro hf
    rw [if_pos hf] at k
    have h := h.2
    refine z_iload_n (pc' := 3) 1 rfl rfl dX5_letterOf_2 rfl ?_
    refine z_gets (i := 7) (pc' := 6) rfl t_2_226 dX5_letterOf_3 rfl ?_
    refine z_alens (i := 7) (v := 6) (pc' := 7) rfl rfl dX5_letterOf_6 rfl ?_
    refine z_icmp_ge 27 dX5_letterOf_7 (by decide) (pc' := 10) rfl (by decide) (by decide) (fun _ => ?_) (fun c => absurd c (by decide))
    refine z_iconst (pc' := 28) dX5_letterOf_27 rfl ?_
    refine z_iret rfl dX5_letterOf_28 ?_
    exact k
  · intro i5 hi ih hf
    have h := h.1 i5 hi hf
    have hE : E_LR_letterOf_2 w a0 i5 = (if a0 = z_sc 7 ((i5 : Int).toNat) then true else false) := rfl
    refine z_iload_n (pc' := 3) 1 rfl rfl dX5_letterOf_2 rfl ?_
    refine z_gets (i := 7) (pc' := 6) rfl t_2_226 dX5_letterOf_3 rfl ?_
    refine z_alens (i := 7) (v := 6) (pc' := 7) rfl rfl dX5_letterOf_6 rfl ?_
    obtain ⟨r6, h⟩ := h
    refine z_icmp_ge 27 dX5_letterOf_7 (by decide) (pc' := 10) rfl r6 (by decide) (fun c => absurd c (by omega)) (fun _ => ?_)
    refine z_iload_n (pc' := 11) 0 rfl rfl dX5_letterOf_10 rfl ?_
    refine z_gets (i := 7) (pc' := 14) rfl t_2_226 dX5_letterOf_11 rfl ?_
    refine z_iload_n (pc' := 15) 1 rfl rfl dX5_letterOf_14 rfl ?_
    obtain ⟨r7, h⟩ := h
    refine z_cals2 (i := 7) (v := z_sc 7 ((i5 : Int).toNat)) (pc' := 16) rfl rfl r7 (by decide) rfl dX5_letterOf_15 rfl ?_
    obtain ⟨r8, h⟩ := h
    have r9 := h
    refine z_icmp_ne 21 dX5_letterOf_16 (by decide) (pc' := 19) rfl r8 r9 (fun c70 => ?_) (fun c70 => ?_)
    · skip
      rw [if_neg c70] at hE
      refine z_iinc (pc' := 24) (ls' := [(0, zI a0), (1, zI ((i5 : Int) + 1))]) 1 rfl (by decide) rfl rfl dX5_letterOf_21 rfl ?_
      refine z_goto 2 dX5_letterOf_24 (by decide) ?_
      exact (ih (zfind_miss hf (by rw [hE]; decide)))
    · skip
      rw [if_pos c70] at hE
      refine z_iload_n (pc' := 20) 1 rfl rfl dX5_letterOf_19 rfl ?_
      refine z_iret rfl dX5_letterOf_20 ?_
      have hz := zfind_hit hf hE _ hi
      rw [hz, if_neg (by omega), Int.toNat_natCast] at k
      unfold R_LR_letterOf_2 at k
      rw [if_pos c70] at k
      exact k
def A_Y_setUsual_2 (w : z_Wd) (a0 : Int) (a1 : Int) : Nat → z_Wd
  | 0 => w
  | i5 + 1 => z_up (A_Y_setUsual_2 w a0 a1 i5) 31 (((((z_sc 1 a0.toNat) + a1) * 3) + (i5 : Int)).toNat) (z_sc 2 (((a0 * 3) + (i5 : Int)).toNat))
def P_Y_setUsual (w : z_Wd) (a0 : Int) (a1 : Int) : Prop := (∀ i5 : Nat, i5 < 3 → (-2147483648 ≤ (i5 : Int) ∧ (i5 : Int) < 2147483648) ∧ (0 ≤ a0 ∧ a0 < 4) ∧ (0 ≤ (a0 * 3) + (i5 : Int) ∧ (a0 * 3) + (i5 : Int) < 12) ∧ (0 ≤ (((z_sc 1 a0.toNat) + a1) * 3) + (i5 : Int) ∧ (((z_sc 1 a0.toNat) + a1) * 3) + (i5 : Int) < 54)) ∧ (True)
def F_Y_setUsual (w : z_Wd) (a0 : Int) (a1 : Int) : z_Wd := A_Y_setUsual_2 w a0 a1 3
set_option maxRecDepth 4000 in
theorem c_Y_setUsual {d : Nat} {w : z_Wd} {a0 a1 : Int} {Q : Option z_V → z_Wd → Prop} (h : P_Y_setUsual w a0 a1) (k : Q none (F_Y_setUsual w a0 a1)) : z_Wc d m_X6_setUsual [zR 30, zI a0, zI a1] w Q := by
  unfold P_Y_setUsual at h
  unfold F_Y_setUsual at k
  refine z_enter rfl (Nat.le_of_ble_eq_true rfl) ?_
  show z_Wp m_X6_setUsual _ 0 [(0, zR 30), (1, zI a0), (2, zI a1)] [] w _
  refine z_iconst (pc' := 1) dX6_setUsual_0 rfl ?_
  refine z_istore_n (pc' := 2) (ls' := [(0, zR 30), (1, zI a0), (2, zI a1), (3, zI 0)]) rfl (by decide) rfl rfl dX6_setUsual_1 rfl ?_
  refine z_upto 3 (fun i5 => z_Wp m_X6_setUsual d 2 [(0, zR 30), (1, zI a0), (2, zI a1), (3, zI (i5 : Int))] [] (A_Y_setUsual_2 w a0 a1 i5) Q) ?_ ?_
  · skip
    have h := h.2
    refine z_iload_n (pc' := 3) 3 rfl rfl dX6_setUsual_2 rfl ?_
    refine z_iconst (pc' := 4) dX6_setUsual_3 rfl ?_
    refine z_icmp_ge 38 dX6_setUsual_4 (by decide) (pc' := 7) rfl (by decide) (by decide) (fun _ => ?_) (fun c => absurd c (by decide))
    refine z_vret rfl dX6_setUsual_38 ?_
    exact k
  · intro i5 hi ih
    have h := h.1 i5 hi
    have ih : z_Wp m_X6_setUsual d 2 [(0, zR 30), (1, zI a0), (2, zI a1), (3, zI ((i5 + 1 : Nat) : Int))] [] (z_up (A_Y_setUsual_2 w a0 a1 i5) 31 (((((z_sc 1 a0.toNat) + a1) * 3) + (i5 : Int)).toNat) (z_sc 2 (((a0 * 3) + (i5 : Int)).toNat))) Q := ih
    refine z_iload_n (pc' := 3) 3 rfl rfl dX6_setUsual_2 rfl ?_
    refine z_iconst (pc' := 4) dX6_setUsual_3 rfl ?_
    obtain ⟨r6, h⟩ := h
    refine z_icmp_ge 38 dX6_setUsual_4 (by decide) (pc' := 7) rfl r6 (by decide) (fun c => absurd c (by omega)) (fun _ => ?_)
    refine z_aload_n (pc' := 8) 0 rfl rfl dX6_setUsual_7 rfl ?_
    refine z_getR (t := 31) (pc' := 11) g_X6_9 (by decide) rfl rfl dX6_setUsual_8 rfl ?_
    refine z_gets (i := 1) (pc' := 14) rfl t_2_92 dX6_setUsual_11 rfl ?_
    refine z_iload_n (pc' := 15) 1 rfl rfl dX6_setUsual_14 rfl ?_
    obtain ⟨r7, h⟩ := h
    refine z_ials2 (i := 1) (v := z_sc 1 a0.toNat) (pc' := 16) rfl rfl r7 (by decide) rfl dX6_setUsual_15 rfl ?_
    refine z_iload_n (pc' := 17) 2 rfl rfl dX6_setUsual_16 rfl ?_
    refine z_iadd (pc' := 18) dX6_setUsual_17 rfl ?_
    refine z_iconst (pc' := 19) dX6_setUsual_18 rfl ?_
    refine z_imul (pc' := 20) dX6_setUsual_19 rfl ?_
    refine z_iload_n (pc' := 21) 3 rfl rfl dX6_setUsual_20 rfl ?_
    refine z_iadd (pc' := 22) dX6_setUsual_21 rfl ?_
    refine z_gets (i := 2) (pc' := 25) rfl t_2_94 dX6_setUsual_22 rfl ?_
    refine z_iload_n (pc' := 26) 1 rfl rfl dX6_setUsual_25 rfl ?_
    refine z_iconst (pc' := 27) dX6_setUsual_26 rfl ?_
    refine z_imul (pc' := 28) dX6_setUsual_27 rfl ?_
    refine z_iload_n (pc' := 29) 3 rfl rfl dX6_setUsual_28 rfl ?_
    refine z_iadd (pc' := 30) dX6_setUsual_29 rfl ?_
    obtain ⟨r8, h⟩ := h
    refine z_ials2 (i := 2) (v := z_sc 2 (((a0 * 3) + (i5 : Int)).toNat)) (pc' := 31) rfl rfl r8 (by decide) rfl dX6_setUsual_30 rfl ?_
    have r9 := h
    refine z_iast2 (w' := z_up (A_Y_setUsual_2 w a0 a1 i5) 31 (((((z_sc 1 a0.toNat) + a1) * 3) + (i5 : Int)).toNat) (z_sc 2 (((a0 * 3) + (i5 : Int)).toNat))) (pc' := 32) (by decide) rfl r9 (by decide) rfl dX6_setUsual_31 rfl ?_
    refine z_iinc (pc' := 35) (ls' := [(0, zR 30), (1, zI a0), (2, zI a1), (3, zI ((i5 : Int) + 1))]) 3 rfl (by decide) rfl rfl dX6_setUsual_32 rfl ?_
    refine z_goto 2 dX6_setUsual_35 (by decide) ?_
    exact ih
def P_Y_tellLatest (w : z_Wd) (a0 : Int) (a1 : Int) (a2 : Int) : Prop := (0 ≤ a0 ∧ a0 < 4) ∧ (-2147483648 ≤ w 32 a0.toNat ∧ w 32 a0.toNat < 2147483648) ∧ ((w 32 a0.toNat ≤ 0 → True) ∧ (¬ (w 32 a0.toNat ≤ 0) → 0 ≤ ((((z_sc 1 a0.toNat) + (w 32 a0.toNat)) - 1) * 3) + a1 ∧ ((((z_sc 1 a0.toNat) + (w 32 a0.toNat)) - 1) * 3) + a1 < 54))
def F_Y_tellLatest (w : z_Wd) (a0 : Int) (a1 : Int) (a2 : Int) : z_Wd := if w 32 a0.toNat ≤ 0 then w else z_up w 31 ((((((z_sc 1 a0.toNat) + (w 32 a0.toNat)) - 1) * 3) + a1).toNat) a2
set_option maxRecDepth 4000 in
theorem c_Y_tellLatest {d : Nat} {w : z_Wd} {a0 a1 a2 : Int} {Q : Option z_V → z_Wd → Prop} (h : P_Y_tellLatest w a0 a1 a2) (k : Q none (F_Y_tellLatest w a0 a1 a2)) : z_Wc d m_X6_tellLatest [zR 30, zI a0, zI a1, zI a2] w Q := by
  unfold P_Y_tellLatest at h
  unfold F_Y_tellLatest at k
  refine z_enter rfl (Nat.le_of_ble_eq_true rfl) ?_
  show z_Wp m_X6_tellLatest _ 0 [(0, zR 30), (1, zI a0), (2, zI a1), (3, zI a2)] [] w _
  refine z_aload_n (pc' := 1) 0 rfl rfl dX6_tellLatest_0 rfl ?_
  refine z_getR (t := 32) (pc' := 4) g_X6_13 (by decide) rfl rfl dX6_tellLatest_1 rfl ?_
  refine z_iload_n (pc' := 5) 1 rfl rfl dX6_tellLatest_4 rfl ?_
  obtain ⟨r1, h⟩ := h
  refine z_iald2 (v := w 32 a0.toNat) (pc' := 6) (by decide) rfl r1 (by decide) rfl dX6_tellLatest_5 rfl ?_
  obtain ⟨r2, h⟩ := h
  refine z_if_le 33 dX6_tellLatest_6 (by decide) (pc' := 9) rfl r2 (fun c => ?_) (fun c => ?_)
  · have h := h.1 c
    rw [if_pos c] at k
    refine z_vret rfl dX6_tellLatest_33 ?_
    exact k
  · have h := h.2 c
    rw [if_neg c] at k
    refine z_aload_n (pc' := 10) 0 rfl rfl dX6_tellLatest_9 rfl ?_
    refine z_getR (t := 31) (pc' := 13) g_X6_9 (by decide) rfl rfl dX6_tellLatest_10 rfl ?_
    refine z_gets (i := 1) (pc' := 16) rfl t_2_92 dX6_tellLatest_13 rfl ?_
    refine z_iload_n (pc' := 17) 1 rfl rfl dX6_tellLatest_16 rfl ?_
    refine z_ials2 (i := 1) (v := z_sc 1 a0.toNat) (pc' := 18) rfl rfl r1 (by decide) rfl dX6_tellLatest_17 rfl ?_
    refine z_aload_n (pc' := 19) 0 rfl rfl dX6_tellLatest_18 rfl ?_
    refine z_getR (t := 32) (pc' := 22) g_X6_13 (by decide) rfl rfl dX6_tellLatest_19 rfl ?_
    refine z_iload_n (pc' := 23) 1 rfl rfl dX6_tellLatest_22 rfl ?_
    refine z_iald2 (v := w 32 a0.toNat) (pc' := 24) (by decide) rfl r1 (by decide) rfl dX6_tellLatest_23 rfl ?_
    refine z_iadd (pc' := 25) dX6_tellLatest_24 rfl ?_
    refine z_iconst (pc' := 26) dX6_tellLatest_25 rfl ?_
    refine z_isub (pc' := 27) dX6_tellLatest_26 rfl ?_
    refine z_iconst (pc' := 28) dX6_tellLatest_27 rfl ?_
    refine z_imul (pc' := 29) dX6_tellLatest_28 rfl ?_
    refine z_iload_n (pc' := 30) 2 rfl rfl dX6_tellLatest_29 rfl ?_
    refine z_iadd (pc' := 31) dX6_tellLatest_30 rfl ?_
    refine z_iload_n (pc' := 32) 3 rfl rfl dX6_tellLatest_31 rfl ?_
    have r3 := h
    refine z_iast2 (w' := z_up w 31 ((((((z_sc 1 a0.toNat) + (w 32 a0.toNat)) - 1) * 3) + a1).toNat) a2) (pc' := 33) (by decide) rfl r3 (by decide) rfl dX6_tellLatest_32 rfl ?_
    refine z_vret rfl dX6_tellLatest_33 ?_
    exact k
def P_Y_value (w : z_Wd) (a0 : Int) (a1 : Int) (a2 : Int) : Prop := (-2147483648 ≤ a1 ∧ a1 < 2147483648) ∧ ((a1 < 0 → True) ∧ (¬ (a1 < 0) → (0 ≤ a0 ∧ a0 < 4) ∧ (-2147483648 ≤ z_sc 0 a0.toNat ∧ z_sc 0 a0.toNat < 2147483648) ∧ ((a1 ≥ z_sc 0 a0.toNat → True) ∧ (¬ (a1 ≥ z_sc 0 a0.toNat) → 0 ≤ (((z_sc 1 a0.toNat) + a1) * 3) + a2 ∧ (((z_sc 1 a0.toNat) + a1) * 3) + a2 < 54))))
def F_Y_value (w : z_Wd) (a0 : Int) (a1 : Int) (a2 : Int) : Int := if a1 < 0 then 0 else if a1 ≥ z_sc 0 a0.toNat then 0 else w 31 (((((z_sc 1 a0.toNat) + a1) * 3) + a2).toNat)
set_option maxRecDepth 4000 in
theorem c_Y_value {d : Nat} {w : z_Wd} {a0 a1 a2 : Int} {Q : Option z_V → z_Wd → Prop} (h : P_Y_value w a0 a1 a2) (k : Q (some (zI (F_Y_value w a0 a1 a2))) w) : z_Wc d m_X6_value [zR 30, zI a0, zI a1, zI a2] w Q := by
  unfold P_Y_value at h
  unfold F_Y_value at k
  refine z_enter rfl (Nat.le_of_ble_eq_true rfl) ?_
  show z_Wp m_X6_value _ 0 [(0, zR 30), (1, zI a0), (2, zI a1), (3, zI a2)] [] w _
  refine z_iload_n (pc' := 1) 2 rfl rfl dX6_value_0 rfl ?_
  obtain ⟨r1, h⟩ := h
  refine z_if_lt 17 dX6_value_1 (by decide) (pc' := 4) rfl r1 (fun c => ?_) (fun c => ?_)
  · have h := h.1 c
    rw [if_pos c] at k
    refine z_iconst (pc' := 18) dX6_value_17 rfl ?_
    refine z_istore (pc' := 20) (ls' := [(0, zR 30), (1, zI a0), (2, zI a1), (3, zI a2), (4, zI 0)]) (by decide) rfl rfl dX6_value_18 rfl ?_
    refine z_iload (pc' := 22) 4 rfl dX6_value_20 rfl ?_
    refine z_if_eq 44 dX6_value_22 (by decide) (pc' := 25) rfl (by decide) (fun _ => ?_) (fun c => absurd c (by decide))
    refine z_iconst (pc' := 45) dX6_value_44 rfl ?_
    refine z_iret rfl dX6_value_45 ?_
    exact k
  · have h := h.2 c
    rw [if_neg c] at k
    refine z_iload_n (pc' := 5) 2 rfl rfl dX6_value_4 rfl ?_
    refine z_gets (i := 0) (pc' := 8) rfl t_2_117 dX6_value_5 rfl ?_
    refine z_iload_n (pc' := 9) 1 rfl rfl dX6_value_8 rfl ?_
    obtain ⟨r2, h⟩ := h
    refine z_ials2 (i := 0) (v := z_sc 0 a0.toNat) (pc' := 10) rfl rfl r2 (by decide) rfl dX6_value_9 rfl ?_
    obtain ⟨r3, h⟩ := h
    refine z_icmp_ge 17 dX6_value_10 (by decide) (pc' := 13) rfl r1 r3 (fun c => ?_) (fun c => ?_)
    · have h := h.1 c
      rw [if_pos c] at k
      refine z_iconst (pc' := 18) dX6_value_17 rfl ?_
      refine z_istore (pc' := 20) (ls' := [(0, zR 30), (1, zI a0), (2, zI a1), (3, zI a2), (4, zI 0)]) (by decide) rfl rfl dX6_value_18 rfl ?_
      refine z_iload (pc' := 22) 4 rfl dX6_value_20 rfl ?_
      refine z_if_eq 44 dX6_value_22 (by decide) (pc' := 25) rfl (by decide) (fun _ => ?_) (fun c => absurd c (by decide))
      refine z_iconst (pc' := 45) dX6_value_44 rfl ?_
      refine z_iret rfl dX6_value_45 ?_
      exact k
    · have h := h.2 c
      rw [if_neg c] at k
      refine z_iconst (pc' := 14) dX6_value_13 rfl ?_
      refine z_goto 18 dX6_value_14 (by decide) ?_
      refine z_istore (pc' := 20) (ls' := [(0, zR 30), (1, zI a0), (2, zI a1), (3, zI a2), (4, zI 1)]) (by decide) rfl rfl dX6_value_18 rfl ?_
      refine z_iload (pc' := 22) 4 rfl dX6_value_20 rfl ?_
      refine z_if_eq 44 dX6_value_22 (by decide) (pc' := 25) rfl (by decide) (fun c => absurd c (by decide)) (fun _ => ?_)
      refine z_aload_n (pc' := 26) 0 rfl rfl dX6_value_25 rfl ?_
      refine z_getR (t := 31) (pc' := 29) g_X6_9 (by decide) rfl rfl dX6_value_26 rfl ?_
      refine z_gets (i := 1) (pc' := 32) rfl t_2_92 dX6_value_29 rfl ?_
      refine z_iload_n (pc' := 33) 1 rfl rfl dX6_value_32 rfl ?_
      refine z_ials2 (i := 1) (v := z_sc 1 a0.toNat) (pc' := 34) rfl rfl r2 (by decide) rfl dX6_value_33 rfl ?_
      refine z_iload_n (pc' := 35) 2 rfl rfl dX6_value_34 rfl ?_
      refine z_iadd (pc' := 36) dX6_value_35 rfl ?_
      refine z_iconst (pc' := 37) dX6_value_36 rfl ?_
      refine z_imul (pc' := 38) dX6_value_37 rfl ?_
      refine z_iload_n (pc' := 39) 3 rfl rfl dX6_value_38 rfl ?_
      refine z_iadd (pc' := 40) dX6_value_39 rfl ?_
      have r4 := h
      refine z_iald2 (v := w 31 (((((z_sc 1 a0.toNat) + a1) * 3) + a2).toNat)) (pc' := 41) (by decide) rfl r4 (by decide) rfl dX6_value_40 rfl ?_
      refine z_goto 45 dX6_value_41 (by decide) ?_
      refine z_iret rfl dX6_value_45 ?_
      exact k
def F_Y_wells (w : z_Wd)  : Int := w 32 1
set_option maxRecDepth 4000 in
theorem c_Y_wells {d : Nat} {w : z_Wd} {Q : Option z_V → z_Wd → Prop} (k : Q (some (zI (F_Y_wells w ))) w) : z_Wc d m_X6_wells [zR 30] w Q := by
  unfold F_Y_wells at k
  refine z_enter rfl (Nat.le_of_ble_eq_true rfl) ?_
  show z_Wp m_X6_wells _ 0 [(0, zR 30)] [] w _
  refine z_aload_n (pc' := 1) 0 rfl rfl dX6_wells_0 rfl ?_
  refine z_getR (t := 32) (pc' := 4) g_X6_13 (by decide) rfl rfl dX6_wells_1 rfl ?_
  refine z_iconst (pc' := 5) dX6_wells_4 rfl ?_
  refine z_iald2 (v := w 32 1) (pc' := 6) (by decide) rfl (by decide) (by decide) rfl dX6_wells_5 rfl ?_
  refine z_iret rfl dX6_wells_6 ?_
  exact k
def F_Y_names (w : z_Wd)  : Int := w 32 2
set_option maxRecDepth 4000 in
theorem c_Y_names {d : Nat} {w : z_Wd} {Q : Option z_V → z_Wd → Prop} (k : Q (some (zI (F_Y_names w ))) w) : z_Wc d m_X6_names [zR 30] w Q := by
  unfold F_Y_names at k
  refine z_enter rfl (Nat.le_of_ble_eq_true rfl) ?_
  show z_Wp m_X6_names _ 0 [(0, zR 30)] [] w _
  refine z_aload_n (pc' := 1) 0 rfl rfl dX6_names_0 rfl ?_
  refine z_getR (t := 32) (pc' := 4) g_X6_13 (by decide) rfl rfl dX6_names_1 rfl ?_
  refine z_iconst (pc' := 5) dX6_names_4 rfl ?_
  refine z_iald2 (v := w 32 2) (pc' := 6) (by decide) rfl (by decide) (by decide) rfl dX6_names_5 rfl ?_
  refine z_iret rfl dX6_names_6 ?_
  exact k
def F_Y_files (w : z_Wd)  : Int := w 32 3
set_option maxRecDepth 4000 in
theorem c_Y_files {d : Nat} {w : z_Wd} {Q : Option z_V → z_Wd → Prop} (k : Q (some (zI (F_Y_files w ))) w) : z_Wc d m_X6_files [zR 30] w Q := by
  unfold F_Y_files at k
  refine z_enter rfl (Nat.le_of_ble_eq_true rfl) ?_
  show z_Wp m_X6_files _ 0 [(0, zR 30)] [] w _
  refine z_aload_n (pc' := 1) 0 rfl rfl dX6_files_0 rfl ?_
  refine z_getR (t := 32) (pc' := 4) g_X6_13 (by decide) rfl rfl dX6_files_1 rfl ?_
  refine z_iconst (pc' := 5) dX6_files_4 rfl ?_
  refine z_iald2 (v := w 32 3) (pc' := 6) (by decide) rfl (by decide) (by decide) rfl dX6_files_5 rfl ?_
  refine z_iret rfl dX6_files_6 ?_
  exact k
def P_Y_hasWell (w : z_Wd) (a0 : Int) : Prop := (-2147483648 ≤ a0 ∧ a0 < 2147483648) ∧ ((a0 < 0 → True) ∧ (¬ (a0 < 0) → -2147483648 ≤ w 32 1 ∧ w 32 1 < 2147483648))
def F_Y_hasWell (w : z_Wd) (a0 : Int) : Int := if a0 < 0 then 0 else if a0 ≥ w 32 1 then 0 else 1
set_option maxRecDepth 4000 in
theorem c_Y_hasWell {d : Nat} {w : z_Wd} {a0 : Int} {Q : Option z_V → z_Wd → Prop} (h : P_Y_hasWell w a0) (k : Q (some (zI (F_Y_hasWell w a0))) w) : z_Wc d m_X6_hasWell [zR 30, zI a0] w Q := by
  unfold P_Y_hasWell at h
  unfold F_Y_hasWell at k
  refine z_enter rfl (Nat.le_of_ble_eq_true rfl) ?_
  show z_Wp m_X6_hasWell _ 0 [(0, zR 30), (1, zI a0)] [] w _
  refine z_iload_n (pc' := 1) 1 rfl rfl dX6_hasWell_0 rfl ?_
  obtain ⟨r1, h⟩ := h
  refine z_if_lt 18 dX6_hasWell_1 (by decide) (pc' := 4) rfl r1 (fun c => ?_) (fun c => ?_)
  · have h := h.1 c
    rw [if_pos c] at k
    refine z_iconst (pc' := 19) dX6_hasWell_18 rfl ?_
    refine z_zret rfl (by decide) dX6_hasWell_19 ?_
    exact k
  · have h := h.2 c
    rw [if_neg c] at k
    refine z_iload_n (pc' := 5) 1 rfl rfl dX6_hasWell_4 rfl ?_
    refine z_aload_n (pc' := 6) 0 rfl rfl dX6_hasWell_5 rfl ?_
    refine z_getR (t := 32) (pc' := 9) g_X6_13 (by decide) rfl rfl dX6_hasWell_6 rfl ?_
    refine z_iconst (pc' := 10) dX6_hasWell_9 rfl ?_
    refine z_iald2 (v := w 32 1) (pc' := 11) (by decide) rfl (by decide) (by decide) rfl dX6_hasWell_10 rfl ?_
    have r2 := h
    refine z_icmp_ge 18 dX6_hasWell_11 (by decide) (pc' := 14) rfl r1 r2 (fun c => ?_) (fun c => ?_)
    · skip
      rw [if_pos c] at k
      refine z_iconst (pc' := 19) dX6_hasWell_18 rfl ?_
      refine z_zret rfl (by decide) dX6_hasWell_19 ?_
      exact k
    · skip
      rw [if_neg c] at k
      refine z_iconst (pc' := 15) dX6_hasWell_14 rfl ?_
      refine z_goto 19 dX6_hasWell_15 (by decide) ?_
      refine z_zret rfl (by decide) dX6_hasWell_19 ?_
      exact k
theorem b_Y_hasWell {w : z_Wd} {a0 : Int} : F_Y_hasWell w a0 = 0 ∨ F_Y_hasWell w a0 = 1 := by
  unfold F_Y_hasWell
  (repeat' split) <;> first | exact Or.inl rfl | exact Or.inr rfl
def P_Y_hasName (w : z_Wd) (a0 : Int) : Prop := (-2147483648 ≤ a0 ∧ a0 < 2147483648) ∧ ((a0 < 0 → True) ∧ (¬ (a0 < 0) → -2147483648 ≤ w 32 2 ∧ w 32 2 < 2147483648))
def F_Y_hasName (w : z_Wd) (a0 : Int) : Int := if a0 < 0 then 0 else if a0 ≥ w 32 2 then 0 else 1
set_option maxRecDepth 4000 in
theorem c_Y_hasName {d : Nat} {w : z_Wd} {a0 : Int} {Q : Option z_V → z_Wd → Prop} (h : P_Y_hasName w a0) (k : Q (some (zI (F_Y_hasName w a0))) w) : z_Wc d m_X6_hasName [zR 30, zI a0] w Q := by
  unfold P_Y_hasName at h
  unfold F_Y_hasName at k
  refine z_enter rfl (Nat.le_of_ble_eq_true rfl) ?_
  show z_Wp m_X6_hasName _ 0 [(0, zR 30), (1, zI a0)] [] w _
  refine z_iload_n (pc' := 1) 1 rfl rfl dX6_hasName_0 rfl ?_
  obtain ⟨r1, h⟩ := h
  refine z_if_lt 18 dX6_hasName_1 (by decide) (pc' := 4) rfl r1 (fun c => ?_) (fun c => ?_)
  · have h := h.1 c
    rw [if_pos c] at k
    refine z_iconst (pc' := 19) dX6_hasName_18 rfl ?_
    refine z_zret rfl (by decide) dX6_hasName_19 ?_
    exact k
  · have h := h.2 c
    rw [if_neg c] at k
    refine z_iload_n (pc' := 5) 1 rfl rfl dX6_hasName_4 rfl ?_
    refine z_aload_n (pc' := 6) 0 rfl rfl dX6_hasName_5 rfl ?_
    refine z_getR (t := 32) (pc' := 9) g_X6_13 (by decide) rfl rfl dX6_hasName_6 rfl ?_
    refine z_iconst (pc' := 10) dX6_hasName_9 rfl ?_
    refine z_iald2 (v := w 32 2) (pc' := 11) (by decide) rfl (by decide) (by decide) rfl dX6_hasName_10 rfl ?_
    have r2 := h
    refine z_icmp_ge 18 dX6_hasName_11 (by decide) (pc' := 14) rfl r1 r2 (fun c => ?_) (fun c => ?_)
    · skip
      rw [if_pos c] at k
      refine z_iconst (pc' := 19) dX6_hasName_18 rfl ?_
      refine z_zret rfl (by decide) dX6_hasName_19 ?_
      exact k
    · skip
      rw [if_neg c] at k
      refine z_iconst (pc' := 15) dX6_hasName_14 rfl ?_
      refine z_goto 19 dX6_hasName_15 (by decide) ?_
      refine z_zret rfl (by decide) dX6_hasName_19 ?_
      exact k
theorem b_Y_hasName {w : z_Wd} {a0 : Int} : F_Y_hasName w a0 = 0 ∨ F_Y_hasName w a0 = 1 := by
  unfold F_Y_hasName
  (repeat' split) <;> first | exact Or.inl rfl | exact Or.inr rfl
def P_Y_hasFile (w : z_Wd) (a0 : Int) : Prop := (-2147483648 ≤ a0 ∧ a0 < 2147483648) ∧ ((a0 < 0 → True) ∧ (¬ (a0 < 0) → -2147483648 ≤ w 32 3 ∧ w 32 3 < 2147483648))
def F_Y_hasFile (w : z_Wd) (a0 : Int) : Int := if a0 < 0 then 0 else if a0 ≥ w 32 3 then 0 else 1
set_option maxRecDepth 4000 in
theorem c_Y_hasFile {d : Nat} {w : z_Wd} {a0 : Int} {Q : Option z_V → z_Wd → Prop} (h : P_Y_hasFile w a0) (k : Q (some (zI (F_Y_hasFile w a0))) w) : z_Wc d m_X6_hasFile [zR 30, zI a0] w Q := by
  unfold P_Y_hasFile at h
  unfold F_Y_hasFile at k
  refine z_enter rfl (Nat.le_of_ble_eq_true rfl) ?_
  show z_Wp m_X6_hasFile _ 0 [(0, zR 30), (1, zI a0)] [] w _
  refine z_iload_n (pc' := 1) 1 rfl rfl dX6_hasFile_0 rfl ?_
  obtain ⟨r1, h⟩ := h
  refine z_if_lt 18 dX6_hasFile_1 (by decide) (pc' := 4) rfl r1 (fun c => ?_) (fun c => ?_)
  · have h := h.1 c
    rw [if_pos c] at k
    refine z_iconst (pc' := 19) dX6_hasFile_18 rfl ?_
    refine z_zret rfl (by decide) dX6_hasFile_19 ?_
    exact k
  · have h := h.2 c
    rw [if_neg c] at k
    refine z_iload_n (pc' := 5) 1 rfl rfl dX6_hasFile_4 rfl ?_
    refine z_aload_n (pc' := 6) 0 rfl rfl dX6_hasFile_5 rfl ?_
    refine z_getR (t := 32) (pc' := 9) g_X6_13 (by decide) rfl rfl dX6_hasFile_6 rfl ?_
    refine z_iconst (pc' := 10) dX6_hasFile_9 rfl ?_
    refine z_iald2 (v := w 32 3) (pc' := 11) (by decide) rfl (by decide) (by decide) rfl dX6_hasFile_10 rfl ?_
    have r2 := h
    refine z_icmp_ge 18 dX6_hasFile_11 (by decide) (pc' := 14) rfl r1 r2 (fun c => ?_) (fun c => ?_)
    · skip
      rw [if_pos c] at k
      refine z_iconst (pc' := 19) dX6_hasFile_18 rfl ?_
      refine z_zret rfl (by decide) dX6_hasFile_19 ?_
      exact k
    · skip
      rw [if_neg c] at k
      refine z_iconst (pc' := 15) dX6_hasFile_14 rfl ?_
      refine z_goto 19 dX6_hasFile_15 (by decide) ?_
      refine z_zret rfl (by decide) dX6_hasFile_19 ?_
      exact k
theorem b_Y_hasFile {w : z_Wd} {a0 : Int} : F_Y_hasFile w a0 = 0 ∨ F_Y_hasFile w a0 = 1 := by
  unfold F_Y_hasFile
  (repeat' split) <;> first | exact Or.inl rfl | exact Or.inr rfl
def F_Y_all (w : z_Wd)  : Int := (zz_shl 1 (w 32 2)) - 1
set_option maxRecDepth 4000 in
theorem c_Y_all {d : Nat} {w : z_Wd} {Q : Option z_V → z_Wd → Prop} (k : Q (some (zI (F_Y_all w ))) w) : z_Wc d m_X6_all [zR 30] w Q := by
  unfold F_Y_all at k
  refine z_enter rfl (Nat.le_of_ble_eq_true rfl) ?_
  show z_Wp m_X6_all _ 0 [(0, zR 30)] [] w _
  refine z_iconst (pc' := 1) dX6_all_0 rfl ?_
  refine z_aload_n (pc' := 2) 0 rfl rfl dX6_all_1 rfl ?_
  refine z_getR (t := 32) (pc' := 5) g_X6_13 (by decide) rfl rfl dX6_all_2 rfl ?_
  refine z_iconst (pc' := 6) dX6_all_5 rfl ?_
  refine z_iald2 (v := w 32 2) (pc' := 7) (by decide) rfl (by decide) (by decide) rfl dX6_all_6 rfl ?_
  refine z_ishl (pc' := 8) dX6_all_7 rfl ?_
  refine z_iconst (pc' := 9) dX6_all_8 rfl ?_
  refine z_isub (pc' := 10) dX6_all_9 rfl ?_
  refine z_iret rfl dX6_all_10 ?_
  exact k
def P_Y_dropsOfSyllable (w : z_Wd)  : Prop := P_Y_value w 0 0 0
def F_Y_dropsOfSyllable (w : z_Wd)  : Int := F_Y_value w 0 0 0
set_option maxRecDepth 4000 in
theorem c_Y_dropsOfSyllable {d : Nat} {w : z_Wd} {Q : Option z_V → z_Wd → Prop} (h : P_Y_dropsOfSyllable w ) (k : Q (some (zI (F_Y_dropsOfSyllable w ))) w) : z_Wc (d + 1) m_X6_dropsOfSyllable [zR 30] w Q := by
  unfold P_Y_dropsOfSyllable at h
  unfold F_Y_dropsOfSyllable at k
  refine z_enter rfl (Nat.le_of_ble_eq_true rfl) ?_
  show z_Wp m_X6_dropsOfSyllable _ 0 [(0, zR 30)] [] w _
  refine z_aload_n (pc' := 1) 0 rfl rfl dX6_dropsOfSyllable_0 rfl ?_
  refine z_iconst (pc' := 2) dX6_dropsOfSyllable_1 rfl ?_
  refine z_iconst (pc' := 3) dX6_dropsOfSyllable_2 rfl ?_
  refine z_iconst (pc' := 4) dX6_dropsOfSyllable_3 rfl ?_
  refine z_invV (as := [zI 0, zI 0, zI 0]) (st := []) (C := m_X6_value) (fs := [33, 34]) (pc' := 7) dX6_dropsOfSyllable_4 rfl t_2_169 k_X6_value rfl (by decide) rfl rfl rfl rfl (Nat.le_of_ble_eq_true rfl) ?_
  have r1 := h
  refine c_Y_value r1 ?_
  show z_Wp m_X6_dropsOfSyllable _ 7 [(0, zR 30)] [zI (F_Y_value w 0 0 0)] w _
  refine z_iret rfl dX6_dropsOfSyllable_7 ?_
  exact k
def P_Y_firstCoins (w : z_Wd)  : Prop := P_Y_value w 0 0 1
def F_Y_firstCoins (w : z_Wd)  : Int := F_Y_value w 0 0 1
set_option maxRecDepth 4000 in
theorem c_Y_firstCoins {d : Nat} {w : z_Wd} {Q : Option z_V → z_Wd → Prop} (h : P_Y_firstCoins w ) (k : Q (some (zI (F_Y_firstCoins w ))) w) : z_Wc (d + 1) m_X6_firstCoins [zR 30] w Q := by
  unfold P_Y_firstCoins at h
  unfold F_Y_firstCoins at k
  refine z_enter rfl (Nat.le_of_ble_eq_true rfl) ?_
  show z_Wp m_X6_firstCoins _ 0 [(0, zR 30)] [] w _
  refine z_aload_n (pc' := 1) 0 rfl rfl dX6_firstCoins_0 rfl ?_
  refine z_iconst (pc' := 2) dX6_firstCoins_1 rfl ?_
  refine z_iconst (pc' := 3) dX6_firstCoins_2 rfl ?_
  refine z_iconst (pc' := 4) dX6_firstCoins_3 rfl ?_
  refine z_invV (as := [zI 0, zI 0, zI 1]) (st := []) (C := m_X6_value) (fs := [33, 34]) (pc' := 7) dX6_firstCoins_4 rfl t_2_169 k_X6_value rfl (by decide) rfl rfl rfl rfl (Nat.le_of_ble_eq_true rfl) ?_
  have r1 := h
  refine c_Y_value r1 ?_
  show z_Wp m_X6_firstCoins _ 7 [(0, zR 30)] [zI (F_Y_value w 0 0 1)] w _
  refine z_iret rfl dX6_firstCoins_7 ?_
  exact k
def P_Y_firstDepth (w : z_Wd) (a0 : Int) : Prop := P_Y_value w 1 a0 0
def F_Y_firstDepth (w : z_Wd) (a0 : Int) : Int := F_Y_value w 1 a0 0
set_option maxRecDepth 4000 in
theorem c_Y_firstDepth {d : Nat} {w : z_Wd} {a0 : Int} {Q : Option z_V → z_Wd → Prop} (h : P_Y_firstDepth w a0) (k : Q (some (zI (F_Y_firstDepth w a0))) w) : z_Wc (d + 1) m_X6_firstDepth [zR 30, zI a0] w Q := by
  unfold P_Y_firstDepth at h
  unfold F_Y_firstDepth at k
  refine z_enter rfl (Nat.le_of_ble_eq_true rfl) ?_
  show z_Wp m_X6_firstDepth _ 0 [(0, zR 30), (1, zI a0)] [] w _
  refine z_aload_n (pc' := 1) 0 rfl rfl dX6_firstDepth_0 rfl ?_
  refine z_iconst (pc' := 2) dX6_firstDepth_1 rfl ?_
  refine z_iload_n (pc' := 3) 1 rfl rfl dX6_firstDepth_2 rfl ?_
  refine z_iconst (pc' := 4) dX6_firstDepth_3 rfl ?_
  refine z_invV (as := [zI 1, zI a0, zI 0]) (st := []) (C := m_X6_value) (fs := [33, 34]) (pc' := 7) dX6_firstDepth_4 rfl t_2_169 k_X6_value rfl (by decide) rfl rfl rfl rfl (Nat.le_of_ble_eq_true rfl) ?_
  have r1 := h
  refine c_Y_value r1 ?_
  show z_Wp m_X6_firstDepth _ 7 [(0, zR 30), (1, zI a0)] [zI (F_Y_value w 1 a0 0)] w _
  refine z_iret rfl dX6_firstDepth_7 ?_
  exact k
def P_Y_isRed (w : z_Wd) (a0 : Int) : Prop := (P_Y_value w 1 a0 1) ∧ (-2147483648 ≤ F_Y_value w 1 a0 1 ∧ F_Y_value w 1 a0 1 < 2147483648)
def F_Y_isRed (w : z_Wd) (a0 : Int) : Int := if F_Y_value w 1 a0 1 = 1 then 1 else 0
set_option maxRecDepth 4000 in
theorem c_Y_isRed {d : Nat} {w : z_Wd} {a0 : Int} {Q : Option z_V → z_Wd → Prop} (h : P_Y_isRed w a0) (k : Q (some (zI (F_Y_isRed w a0))) w) : z_Wc (d + 1) m_X6_isRed [zR 30, zI a0] w Q := by
  unfold P_Y_isRed at h
  unfold F_Y_isRed at k
  refine z_enter rfl (Nat.le_of_ble_eq_true rfl) ?_
  show z_Wp m_X6_isRed _ 0 [(0, zR 30), (1, zI a0)] [] w _
  refine z_aload_n (pc' := 1) 0 rfl rfl dX6_isRed_0 rfl ?_
  refine z_iconst (pc' := 2) dX6_isRed_1 rfl ?_
  refine z_iload_n (pc' := 3) 1 rfl rfl dX6_isRed_2 rfl ?_
  refine z_iconst (pc' := 4) dX6_isRed_3 rfl ?_
  refine z_invV (as := [zI 1, zI a0, zI 1]) (st := []) (C := m_X6_value) (fs := [33, 34]) (pc' := 7) dX6_isRed_4 rfl t_2_169 k_X6_value rfl (by decide) rfl rfl rfl rfl (Nat.le_of_ble_eq_true rfl) ?_
  obtain ⟨r1, h⟩ := h
  refine c_Y_value r1 ?_
  show z_Wp m_X6_isRed _ 7 [(0, zR 30), (1, zI a0)] [zI (F_Y_value w 1 a0 1)] w _
  refine z_iconst (pc' := 8) dX6_isRed_7 rfl ?_
  have r2 := h
  refine z_icmp_ne 15 dX6_isRed_8 (by decide) (pc' := 11) rfl r2 (by decide) (fun c => ?_) (fun c => ?_)
  · skip
    rw [if_neg c] at k
    refine z_iconst (pc' := 16) dX6_isRed_15 rfl ?_
    refine z_zret rfl (by decide) dX6_isRed_16 ?_
    exact k
  · skip
    rw [if_pos c] at k
    refine z_iconst (pc' := 12) dX6_isRed_11 rfl ?_
    refine z_goto 16 dX6_isRed_12 (by decide) ?_
    refine z_zret rfl (by decide) dX6_isRed_16 ?_
    exact k
theorem b_Y_isRed {w : z_Wd} {a0 : Int} : F_Y_isRed w a0 = 0 ∨ F_Y_isRed w a0 = 1 := by
  unfold F_Y_isRed
  (repeat' split) <;> first | exact Or.inl rfl | exact Or.inr rfl
def P_Y_syllables (w : z_Wd) (a0 : Int) : Prop := P_Y_value w 2 a0 0
def F_Y_syllables (w : z_Wd) (a0 : Int) : Int := F_Y_value w 2 a0 0
set_option maxRecDepth 4000 in
theorem c_Y_syllables {d : Nat} {w : z_Wd} {a0 : Int} {Q : Option z_V → z_Wd → Prop} (h : P_Y_syllables w a0) (k : Q (some (zI (F_Y_syllables w a0))) w) : z_Wc (d + 1) m_X6_syllables [zR 30, zI a0] w Q := by
  unfold P_Y_syllables at h
  unfold F_Y_syllables at k
  refine z_enter rfl (Nat.le_of_ble_eq_true rfl) ?_
  show z_Wp m_X6_syllables _ 0 [(0, zR 30), (1, zI a0)] [] w _
  refine z_aload_n (pc' := 1) 0 rfl rfl dX6_syllables_0 rfl ?_
  refine z_iconst (pc' := 2) dX6_syllables_1 rfl ?_
  refine z_iload_n (pc' := 3) 1 rfl rfl dX6_syllables_2 rfl ?_
  refine z_iconst (pc' := 4) dX6_syllables_3 rfl ?_
  refine z_invV (as := [zI 2, zI a0, zI 0]) (st := []) (C := m_X6_value) (fs := [33, 34]) (pc' := 7) dX6_syllables_4 rfl t_2_169 k_X6_value rfl (by decide) rfl rfl rfl rfl (Nat.le_of_ble_eq_true rfl) ?_
  have r1 := h
  refine c_Y_value r1 ?_
  show z_Wp m_X6_syllables _ 7 [(0, zR 30), (1, zI a0)] [zI (F_Y_value w 2 a0 0)] w _
  refine z_iret rfl dX6_syllables_7 ?_
  exact k
def P_Y_knows (w : z_Wd) (a0 : Int) : Prop := P_Y_value w 2 a0 1
def F_Y_knows (w : z_Wd) (a0 : Int) : Int := F_Y_value w 2 a0 1
set_option maxRecDepth 4000 in
theorem c_Y_knows {d : Nat} {w : z_Wd} {a0 : Int} {Q : Option z_V → z_Wd → Prop} (h : P_Y_knows w a0) (k : Q (some (zI (F_Y_knows w a0))) w) : z_Wc (d + 1) m_X6_knows [zR 30, zI a0] w Q := by
  unfold P_Y_knows at h
  unfold F_Y_knows at k
  refine z_enter rfl (Nat.le_of_ble_eq_true rfl) ?_
  show z_Wp m_X6_knows _ 0 [(0, zR 30), (1, zI a0)] [] w _
  refine z_aload_n (pc' := 1) 0 rfl rfl dX6_knows_0 rfl ?_
  refine z_iconst (pc' := 2) dX6_knows_1 rfl ?_
  refine z_iload_n (pc' := 3) 1 rfl rfl dX6_knows_2 rfl ?_
  refine z_iconst (pc' := 4) dX6_knows_3 rfl ?_
  refine z_invV (as := [zI 2, zI a0, zI 1]) (st := []) (C := m_X6_value) (fs := [33, 34]) (pc' := 7) dX6_knows_4 rfl t_2_169 k_X6_value rfl (by decide) rfl rfl rfl rfl (Nat.le_of_ble_eq_true rfl) ?_
  have r1 := h
  refine c_Y_value r1 ?_
  show z_Wp m_X6_knows _ 7 [(0, zR 30), (1, zI a0)] [zI (F_Y_value w 2 a0 1)] w _
  refine z_iret rfl dX6_knows_7 ?_
  exact k
def P_Y_isForeign (w : z_Wd) (a0 : Int) : Prop := (P_Y_value w 2 a0 2) ∧ (-2147483648 ≤ F_Y_value w 2 a0 2 ∧ F_Y_value w 2 a0 2 < 2147483648)
def F_Y_isForeign (w : z_Wd) (a0 : Int) : Int := if F_Y_value w 2 a0 2 = 1 then 1 else 0
set_option maxRecDepth 4000 in
theorem c_Y_isForeign {d : Nat} {w : z_Wd} {a0 : Int} {Q : Option z_V → z_Wd → Prop} (h : P_Y_isForeign w a0) (k : Q (some (zI (F_Y_isForeign w a0))) w) : z_Wc (d + 1) m_X6_isForeign [zR 30, zI a0] w Q := by
  unfold P_Y_isForeign at h
  unfold F_Y_isForeign at k
  refine z_enter rfl (Nat.le_of_ble_eq_true rfl) ?_
  show z_Wp m_X6_isForeign _ 0 [(0, zR 30), (1, zI a0)] [] w _
  refine z_aload_n (pc' := 1) 0 rfl rfl dX6_isForeign_0 rfl ?_
  refine z_iconst (pc' := 2) dX6_isForeign_1 rfl ?_
  refine z_iload_n (pc' := 3) 1 rfl rfl dX6_isForeign_2 rfl ?_
  refine z_iconst (pc' := 4) dX6_isForeign_3 rfl ?_
  refine z_invV (as := [zI 2, zI a0, zI 2]) (st := []) (C := m_X6_value) (fs := [33, 34]) (pc' := 7) dX6_isForeign_4 rfl t_2_169 k_X6_value rfl (by decide) rfl rfl rfl rfl (Nat.le_of_ble_eq_true rfl) ?_
  obtain ⟨r1, h⟩ := h
  refine c_Y_value r1 ?_
  show z_Wp m_X6_isForeign _ 7 [(0, zR 30), (1, zI a0)] [zI (F_Y_value w 2 a0 2)] w _
  refine z_iconst (pc' := 8) dX6_isForeign_7 rfl ?_
  have r2 := h
  refine z_icmp_ne 15 dX6_isForeign_8 (by decide) (pc' := 11) rfl r2 (by decide) (fun c => ?_) (fun c => ?_)
  · skip
    rw [if_neg c] at k
    refine z_iconst (pc' := 16) dX6_isForeign_15 rfl ?_
    refine z_zret rfl (by decide) dX6_isForeign_16 ?_
    exact k
  · skip
    rw [if_pos c] at k
    refine z_iconst (pc' := 12) dX6_isForeign_11 rfl ?_
    refine z_goto 16 dX6_isForeign_12 (by decide) ?_
    refine z_zret rfl (by decide) dX6_isForeign_16 ?_
    exact k
theorem b_Y_isForeign {w : z_Wd} {a0 : Int} : F_Y_isForeign w a0 = 0 ∨ F_Y_isForeign w a0 = 1 := by
  unfold F_Y_isForeign
  (repeat' split) <;> first | exact Or.inl rfl | exact Or.inr rfl
def P_Y_isHisColour (w : z_Wd) (a0 : Int) (a1 : Int) : Prop := (P_Y_isForeign w a0) ∧ (P_Y_isRed w a1)
def F_Y_isHisColour (w : z_Wd) (a0 : Int) (a1 : Int) : Int := if F_Y_isForeign w a0 = F_Y_isRed w a1 then 1 else 0
set_option maxRecDepth 4000 in
theorem c_Y_isHisColour {d : Nat} {w : z_Wd} {a0 a1 : Int} {Q : Option z_V → z_Wd → Prop} (h : P_Y_isHisColour w a0 a1) (k : Q (some (zI (F_Y_isHisColour w a0 a1))) w) : z_Wc (d + 2) m_X6_isHisColour [zR 30, zI a0, zI a1] w Q := by
  unfold P_Y_isHisColour at h
  unfold F_Y_isHisColour at k
  refine z_enter rfl (Nat.le_of_ble_eq_true rfl) ?_
  show z_Wp m_X6_isHisColour _ 0 [(0, zR 30), (1, zI a0), (2, zI a1)] [] w _
  refine z_aload_n (pc' := 1) 0 rfl rfl dX6_isHisColour_0 rfl ?_
  refine z_iload_n (pc' := 2) 1 rfl rfl dX6_isHisColour_1 rfl ?_
  refine z_invV (as := [zI a0]) (st := []) (C := m_X6_isForeign) (fs := [33, 34]) (pc' := 5) dX6_isHisColour_2 rfl t_3_200 k_X6_isForeign rfl (by decide) rfl rfl rfl rfl (Nat.le_of_ble_eq_true rfl) ?_
  obtain ⟨r1, h⟩ := h
  refine c_Y_isForeign r1 ?_
  show z_Wp m_X6_isHisColour _ 5 [(0, zR 30), (1, zI a0), (2, zI a1)] [zI (F_Y_isForeign w a0)] w _
  refine z_aload_n (pc' := 6) 0 rfl rfl dX6_isHisColour_5 rfl ?_
  refine z_iload_n (pc' := 7) 2 rfl rfl dX6_isHisColour_6 rfl ?_
  refine z_invV (as := [zI a1]) (st := [zI (F_Y_isForeign w a0)]) (C := m_X6_isRed) (fs := [33, 34]) (pc' := 10) dX6_isHisColour_7 rfl t_3_204 k_X6_isRed rfl (by decide) rfl rfl rfl rfl (Nat.le_of_ble_eq_true rfl) ?_
  have r2 := h
  refine c_Y_isRed r2 ?_
  show z_Wp m_X6_isHisColour _ 10 [(0, zR 30), (1, zI a0), (2, zI a1)] [zI (F_Y_isRed w a1), zI (F_Y_isForeign w a0)] w _
  refine z_icmp_ne 17 dX6_isHisColour_10 (by decide) (pc' := 13) rfl (z_rb b_Y_isForeign) (z_rb b_Y_isRed) (fun c => ?_) (fun c => ?_)
  · skip
    rw [if_neg c] at k
    refine z_iconst (pc' := 18) dX6_isHisColour_17 rfl ?_
    refine z_zret rfl (by decide) dX6_isHisColour_18 ?_
    exact k
  · skip
    rw [if_pos c] at k
    refine z_iconst (pc' := 14) dX6_isHisColour_13 rfl ?_
    refine z_goto 18 dX6_isHisColour_14 (by decide) ?_
    refine z_zret rfl (by decide) dX6_isHisColour_18 ?_
    exact k
theorem b_Y_isHisColour {w : z_Wd} {a0 a1 : Int} : F_Y_isHisColour w a0 a1 = 0 ∨ F_Y_isHisColour w a0 a1 = 1 := by
  unfold F_Y_isHisColour
  (repeat' split) <;> first | exact Or.inl rfl | exact Or.inr rfl
def P_Y_inFile (w : z_Wd) (a0 : Int) (a1 : Int) : Prop := (-2147483648 ≤ a1 ∧ a1 < 2147483648) ∧ ((a1 = 0 → P_Y_value w 3 a0 0) ∧ (¬ (a1 = 0) → P_Y_value w 3 a0 1))
def F_Y_inFile (w : z_Wd) (a0 : Int) (a1 : Int) : Int := if a1 = 0 then F_Y_value w 3 a0 0 else F_Y_value w 3 a0 1
set_option maxRecDepth 4000 in
theorem c_Y_inFile {d : Nat} {w : z_Wd} {a0 a1 : Int} {Q : Option z_V → z_Wd → Prop} (h : P_Y_inFile w a0 a1) (k : Q (some (zI (F_Y_inFile w a0 a1))) w) : z_Wc (d + 1) m_X6_inFile [zR 30, zI a0, zI a1] w Q := by
  unfold P_Y_inFile at h
  unfold F_Y_inFile at k
  refine z_enter rfl (Nat.le_of_ble_eq_true rfl) ?_
  show z_Wp m_X6_inFile _ 0 [(0, zR 30), (1, zI a0), (2, zI a1)] [] w _
  refine z_aload_n (pc' := 1) 0 rfl rfl dX6_inFile_0 rfl ?_
  refine z_iconst (pc' := 2) dX6_inFile_1 rfl ?_
  refine z_iload_n (pc' := 3) 1 rfl rfl dX6_inFile_2 rfl ?_
  refine z_iload_n (pc' := 4) 2 rfl rfl dX6_inFile_3 rfl ?_
  obtain ⟨r1, h⟩ := h
  refine z_if_ne 11 dX6_inFile_4 (by decide) (pc' := 7) rfl r1 (fun c => ?_) (fun c => ?_)
  · have h := h.2 c
    rw [if_neg c] at k
    refine z_iconst (pc' := 12) dX6_inFile_11 rfl ?_
    refine z_invV (as := [zI 3, zI a0, zI 1]) (st := []) (C := m_X6_value) (fs := [33, 34]) (pc' := 15) dX6_inFile_12 rfl t_2_169 k_X6_value rfl (by decide) rfl rfl rfl rfl (Nat.le_of_ble_eq_true rfl) ?_
    have r2 := h
    refine c_Y_value r2 ?_
    show z_Wp m_X6_inFile _ 15 [(0, zR 30), (1, zI a0), (2, zI a1)] [zI (F_Y_value w 3 a0 1)] w _
    refine z_iret rfl dX6_inFile_15 ?_
    exact k
  · have h := h.1 c
    rw [if_pos c] at k
    refine z_iconst (pc' := 8) dX6_inFile_7 rfl ?_
    refine z_goto 12 dX6_inFile_8 (by decide) ?_
    refine z_invV (as := [zI 3, zI a0, zI 0]) (st := []) (C := m_X6_value) (fs := [33, 34]) (pc' := 15) dX6_inFile_12 rfl t_2_169 k_X6_value rfl (by decide) rfl rfl rfl rfl (Nat.le_of_ble_eq_true rfl) ?_
    have r3 := h
    refine c_Y_value r3 ?_
    show z_Wp m_X6_inFile _ 15 [(0, zR 30), (1, zI a0), (2, zI a1)] [zI (F_Y_value w 3 a0 0)] w _
    refine z_iret rfl dX6_inFile_15 ?_
    exact k
def P_Y_gaps (w : z_Wd) (a0 : Int) (a1 : Int) : Prop := (P_Y_inFile w a0 0) ∧ (P_Y_inFile w a0 1)
def F_Y_gaps (w : z_Wd) (a0 : Int) (a1 : Int) : Int := (zz_and (zz_shr a1 (F_Y_inFile w a0 0)) 1) + (zz_and (zz_shr a1 (F_Y_inFile w a0 1)) 1)
set_option maxRecDepth 4000 in
theorem c_Y_gaps {d : Nat} {w : z_Wd} {a0 a1 : Int} {Q : Option z_V → z_Wd → Prop} (h : P_Y_gaps w a0 a1) (k : Q (some (zI (F_Y_gaps w a0 a1))) w) : z_Wc (d + 2) m_X6_gaps [zR 30, zI a0, zI a1] w Q := by
  unfold P_Y_gaps at h
  unfold F_Y_gaps at k
  refine z_enter rfl (Nat.le_of_ble_eq_true rfl) ?_
  show z_Wp m_X6_gaps _ 0 [(0, zR 30), (1, zI a0), (2, zI a1)] [] w _
  refine z_iload_n (pc' := 1) 2 rfl rfl dX6_gaps_0 rfl ?_
  refine z_aload_n (pc' := 2) 0 rfl rfl dX6_gaps_1 rfl ?_
  refine z_iload_n (pc' := 3) 1 rfl rfl dX6_gaps_2 rfl ?_
  refine z_iconst (pc' := 4) dX6_gaps_3 rfl ?_
  refine z_invV (as := [zI a0, zI 0]) (st := [zI a1]) (C := m_X6_inFile) (fs := [33, 34]) (pc' := 7) dX6_gaps_4 rfl t_2_185 k_X6_inFile rfl (by decide) rfl rfl rfl rfl (Nat.le_of_ble_eq_true rfl) ?_
  obtain ⟨r1, h⟩ := h
  refine c_Y_inFile r1 ?_
  show z_Wp m_X6_gaps _ 7 [(0, zR 30), (1, zI a0), (2, zI a1)] [zI (F_Y_inFile w a0 0), zI a1] w _
  refine z_ishr (pc' := 8) dX6_gaps_7 rfl ?_
  refine z_iconst (pc' := 9) dX6_gaps_8 rfl ?_
  refine z_iand (pc' := 10) dX6_gaps_9 rfl ?_
  refine z_iload_n (pc' := 11) 2 rfl rfl dX6_gaps_10 rfl ?_
  refine z_aload_n (pc' := 12) 0 rfl rfl dX6_gaps_11 rfl ?_
  refine z_iload_n (pc' := 13) 1 rfl rfl dX6_gaps_12 rfl ?_
  refine z_iconst (pc' := 14) dX6_gaps_13 rfl ?_
  refine z_invV (as := [zI a0, zI 1]) (st := [zI a1, zI (zz_and (zz_shr a1 (F_Y_inFile w a0 0)) 1)]) (C := m_X6_inFile) (fs := [33, 34]) (pc' := 17) dX6_gaps_14 rfl t_2_185 k_X6_inFile rfl (by decide) rfl rfl rfl rfl (Nat.le_of_ble_eq_true rfl) ?_
  have r2 := h
  refine c_Y_inFile r2 ?_
  show z_Wp m_X6_gaps _ 17 [(0, zR 30), (1, zI a0), (2, zI a1)] [zI (F_Y_inFile w a0 1), zI a1, zI (zz_and (zz_shr a1 (F_Y_inFile w a0 0)) 1)] w _
  refine z_ishr (pc' := 18) dX6_gaps_17 rfl ?_
  refine z_iconst (pc' := 19) dX6_gaps_18 rfl ?_
  refine z_iand (pc' := 20) dX6_gaps_19 rfl ?_
  refine z_iadd (pc' := 21) dX6_gaps_20 rfl ?_
  refine z_iret rfl dX6_gaps_21 ?_
  exact k
def P_Y_drops (w : z_Wd) (a0 : Int) : Prop := (P_Y_value w 2 a0 0) ∧ (P_Y_value w 0 0 0)
def F_Y_drops (w : z_Wd) (a0 : Int) : Int := (F_Y_value w 2 a0 0) * (F_Y_value w 0 0 0)
set_option maxRecDepth 4000 in
theorem c_Y_drops {d : Nat} {w : z_Wd} {a0 : Int} {Q : Option z_V → z_Wd → Prop} (h : P_Y_drops w a0) (k : Q (some (zI (F_Y_drops w a0))) w) : z_Wc (d + 1) m_X6_drops [zR 30, zI a0] w Q := by
  unfold P_Y_drops at h
  unfold F_Y_drops at k
  refine z_enter rfl (Nat.le_of_ble_eq_true rfl) ?_
  show z_Wp m_X6_drops _ 0 [(0, zR 30), (1, zI a0)] [] w _
  refine z_aload_n (pc' := 1) 0 rfl rfl dX6_drops_0 rfl ?_
  refine z_iconst (pc' := 2) dX6_drops_1 rfl ?_
  refine z_iload_n (pc' := 3) 1 rfl rfl dX6_drops_2 rfl ?_
  refine z_iconst (pc' := 4) dX6_drops_3 rfl ?_
  refine z_invV (as := [zI 2, zI a0, zI 0]) (st := []) (C := m_X6_value) (fs := [33, 34]) (pc' := 7) dX6_drops_4 rfl t_2_169 k_X6_value rfl (by decide) rfl rfl rfl rfl (Nat.le_of_ble_eq_true rfl) ?_
  obtain ⟨r1, h⟩ := h
  refine c_Y_value r1 ?_
  show z_Wp m_X6_drops _ 7 [(0, zR 30), (1, zI a0)] [zI (F_Y_value w 2 a0 0)] w _
  refine z_aload_n (pc' := 8) 0 rfl rfl dX6_drops_7 rfl ?_
  refine z_iconst (pc' := 9) dX6_drops_8 rfl ?_
  refine z_iconst (pc' := 10) dX6_drops_9 rfl ?_
  refine z_iconst (pc' := 11) dX6_drops_10 rfl ?_
  refine z_invV (as := [zI 0, zI 0, zI 0]) (st := [zI (F_Y_value w 2 a0 0)]) (C := m_X6_value) (fs := [33, 34]) (pc' := 14) dX6_drops_11 rfl t_2_169 k_X6_value rfl (by decide) rfl rfl rfl rfl (Nat.le_of_ble_eq_true rfl) ?_
  have r2 := h
  refine c_Y_value r2 ?_
  show z_Wp m_X6_drops _ 14 [(0, zR 30), (1, zI a0)] [zI (F_Y_value w 0 0 0), zI (F_Y_value w 2 a0 0)] w _
  refine z_imul (pc' := 15) dX6_drops_14 rfl ?_
  refine z_iret rfl dX6_drops_15 ?_
  exact k
def A_Y_dropsOf_4 (w : z_Wd) (a0 : Int) : Nat → Int
  | 0 => 0
  | i6 + 1 => if zz_and (zz_shr a0 (i6 : Int)) 1 = 1 then (A_Y_dropsOf_4 w a0 i6) + (F_Y_value w 2 (i6 : Int) 0) else A_Y_dropsOf_4 w a0 i6
def P_Y_dropsOf (w : z_Wd) (a0 : Int) : Prop := (∀ i6 : Nat, i6 < ((w 32 2).toNat) → (-2147483648 ≤ (i6 : Int) ∧ (i6 : Int) < 2147483648) ∧ (-2147483648 ≤ w 32 2 ∧ w 32 2 < 2147483648) ∧ (-2147483648 ≤ zz_and (zz_shr a0 (i6 : Int)) 1 ∧ zz_and (zz_shr a0 (i6 : Int)) 1 < 2147483648) ∧ ((zz_and (zz_shr a0 (i6 : Int)) 1 = 1 → P_Y_value w 2 (i6 : Int) 0) ∧ (¬ (zz_and (zz_shr a0 (i6 : Int)) 1 = 1) → True))) ∧ ((-2147483648 ≤ (((w 32 2).toNat : Nat) : Int) ∧ (((w 32 2).toNat : Nat) : Int) < 2147483648) ∧ (-2147483648 ≤ w 32 2 ∧ w 32 2 < 2147483648) ∧ (P_Y_value w 0 0 0))
def F_Y_dropsOf (w : z_Wd) (a0 : Int) : Int := (A_Y_dropsOf_4 w a0 (w 32 2).toNat) * (F_Y_value w 0 0 0)
set_option maxRecDepth 4000 in
theorem c_Y_dropsOf {d : Nat} {w : z_Wd} {a0 : Int} {Q : Option z_V → z_Wd → Prop} (h : P_Y_dropsOf w a0) (k : Q (some (zI (F_Y_dropsOf w a0))) w) : z_Wc (d + 1) m_X6_dropsOf [zR 30, zI a0] w Q := by
  unfold P_Y_dropsOf at h
  unfold F_Y_dropsOf at k
  refine z_enter rfl (Nat.le_of_ble_eq_true rfl) ?_
  show z_Wp m_X6_dropsOf _ 0 [(0, zR 30), (1, zI a0)] [] w _
  refine z_iconst (pc' := 1) dX6_dropsOf_0 rfl ?_
  refine z_istore_n (pc' := 2) (ls' := [(0, zR 30), (1, zI a0), (2, zI 0)]) rfl (by decide) rfl rfl dX6_dropsOf_1 rfl ?_
  refine z_iconst (pc' := 3) dX6_dropsOf_2 rfl ?_
  refine z_istore_n (pc' := 4) (ls' := [(0, zR 30), (1, zI a0), (2, zI 0), (3, zI 0)]) rfl (by decide) rfl rfl dX6_dropsOf_3 rfl ?_
  refine z_upto ((w 32 2).toNat) (fun i6 => z_Wp m_X6_dropsOf (d + 1) 4 [(0, zR 30), (1, zI a0), (2, zI (A_Y_dropsOf_4 w a0 i6)), (3, zI (i6 : Int))] [] w Q) ?_ ?_
  · skip
    have h := h.2
    refine z_iload_n (pc' := 5) 3 rfl rfl dX6_dropsOf_4 rfl ?_
    refine z_aload_n (pc' := 6) 0 rfl rfl dX6_dropsOf_5 rfl ?_
    refine z_getR (t := 32) (pc' := 9) g_X6_13 (by decide) rfl rfl dX6_dropsOf_6 rfl ?_
    refine z_iconst (pc' := 10) dX6_dropsOf_9 rfl ?_
    refine z_iald2 (v := w 32 2) (pc' := 11) (by decide) rfl (by decide) (by decide) rfl dX6_dropsOf_10 rfl ?_
    obtain ⟨r11, h⟩ := h
    obtain ⟨r12, h⟩ := h
    refine z_icmp_ge 39 dX6_dropsOf_11 (by decide) (pc' := 14) rfl r11 r12 (fun _ => ?_) (fun c => absurd c (by omega))
    refine z_iload_n (pc' := 40) 2 rfl rfl dX6_dropsOf_39 rfl ?_
    refine z_aload_n (pc' := 41) 0 rfl rfl dX6_dropsOf_40 rfl ?_
    refine z_iconst (pc' := 42) dX6_dropsOf_41 rfl ?_
    refine z_iconst (pc' := 43) dX6_dropsOf_42 rfl ?_
    refine z_iconst (pc' := 44) dX6_dropsOf_43 rfl ?_
    refine z_invV (as := [zI 0, zI 0, zI 0]) (st := [zI (A_Y_dropsOf_4 w a0 (w 32 2).toNat)]) (C := m_X6_value) (fs := [33, 34]) (pc' := 47) dX6_dropsOf_44 rfl t_2_169 k_X6_value rfl (by decide) rfl rfl rfl rfl (Nat.le_of_ble_eq_true rfl) ?_
    have r13 := h
    refine c_Y_value r13 ?_
    show z_Wp m_X6_dropsOf _ 47 [(0, zR 30), (1, zI a0), (2, zI (A_Y_dropsOf_4 w a0 (w 32 2).toNat)), (3, zI (((w 32 2).toNat : Nat) : Int))] [zI (F_Y_value w 0 0 0), zI (A_Y_dropsOf_4 w a0 (w 32 2).toNat)] w _
    refine z_imul (pc' := 48) dX6_dropsOf_47 rfl ?_
    refine z_iret rfl dX6_dropsOf_48 ?_
    exact k
  · intro i6 hi ih
    have h := h.1 i6 hi
    have ih : z_Wp m_X6_dropsOf (d + 1) 4 [(0, zR 30), (1, zI a0), (2, zI (if zz_and (zz_shr a0 (i6 : Int)) 1 = 1 then (A_Y_dropsOf_4 w a0 i6) + (F_Y_value w 2 (i6 : Int) 0) else A_Y_dropsOf_4 w a0 i6)), (3, zI ((i6 + 1 : Nat) : Int))] [] w Q := ih
    refine z_iload_n (pc' := 5) 3 rfl rfl dX6_dropsOf_4 rfl ?_
    refine z_aload_n (pc' := 6) 0 rfl rfl dX6_dropsOf_5 rfl ?_
    refine z_getR (t := 32) (pc' := 9) g_X6_13 (by decide) rfl rfl dX6_dropsOf_6 rfl ?_
    refine z_iconst (pc' := 10) dX6_dropsOf_9 rfl ?_
    refine z_iald2 (v := w 32 2) (pc' := 11) (by decide) rfl (by decide) (by decide) rfl dX6_dropsOf_10 rfl ?_
    obtain ⟨r7, h⟩ := h
    obtain ⟨r8, h⟩ := h
    refine z_icmp_ge 39 dX6_dropsOf_11 (by decide) (pc' := 14) rfl r7 r8 (fun c => absurd c (by omega)) (fun _ => ?_)
    refine z_iload_n (pc' := 15) 1 rfl rfl dX6_dropsOf_14 rfl ?_
    refine z_iload_n (pc' := 16) 3 rfl rfl dX6_dropsOf_15 rfl ?_
    refine z_ishr (pc' := 17) dX6_dropsOf_16 rfl ?_
    refine z_iconst (pc' := 18) dX6_dropsOf_17 rfl ?_
    refine z_iand (pc' := 19) dX6_dropsOf_18 rfl ?_
    refine z_iconst (pc' := 20) dX6_dropsOf_19 rfl ?_
    obtain ⟨r9, h⟩ := h
    refine z_icmp_ne 33 dX6_dropsOf_20 (by decide) (pc' := 23) rfl r9 (by decide) (fun c71 => ?_) (fun c71 => ?_)
    · have h := h.2 c71
      rw [if_neg c71] at ih
      refine z_iinc (pc' := 36) (ls' := [(0, zR 30), (1, zI a0), (2, zI (A_Y_dropsOf_4 w a0 i6)), (3, zI ((i6 : Int) + 1))]) 3 rfl (by decide) rfl rfl dX6_dropsOf_33 rfl ?_
      refine z_goto 4 dX6_dropsOf_36 (by decide) ?_
      exact ih
    · have h := h.1 c71
      rw [if_pos c71] at ih
      refine z_iload_n (pc' := 24) 2 rfl rfl dX6_dropsOf_23 rfl ?_
      refine z_aload_n (pc' := 25) 0 rfl rfl dX6_dropsOf_24 rfl ?_
      refine z_iconst (pc' := 26) dX6_dropsOf_25 rfl ?_
      refine z_iload_n (pc' := 27) 3 rfl rfl dX6_dropsOf_26 rfl ?_
      refine z_iconst (pc' := 28) dX6_dropsOf_27 rfl ?_
      refine z_invV (as := [zI 2, zI (i6 : Int), zI 0]) (st := [zI (A_Y_dropsOf_4 w a0 i6)]) (C := m_X6_value) (fs := [33, 34]) (pc' := 31) dX6_dropsOf_28 rfl t_2_169 k_X6_value rfl (by decide) rfl rfl rfl rfl (Nat.le_of_ble_eq_true rfl) ?_
      have r10 := h
      refine c_Y_value r10 ?_
      show z_Wp m_X6_dropsOf _ 31 [(0, zR 30), (1, zI a0), (2, zI (A_Y_dropsOf_4 w a0 i6)), (3, zI (i6 : Int))] [zI (F_Y_value w 2 (i6 : Int) 0), zI (A_Y_dropsOf_4 w a0 i6)] w _
      refine z_iadd (pc' := 32) dX6_dropsOf_31 rfl ?_
      refine z_istore_n (pc' := 33) (ls' := [(0, zR 30), (1, zI a0), (2, zI ((A_Y_dropsOf_4 w a0 i6) + (F_Y_value w 2 (i6 : Int) 0))), (3, zI (i6 : Int))]) rfl (by decide) rfl rfl dX6_dropsOf_32 rfl ?_
      refine z_iinc (pc' := 36) (ls' := [(0, zR 30), (1, zI a0), (2, zI ((A_Y_dropsOf_4 w a0 i6) + (F_Y_value w 2 (i6 : Int) 0))), (3, zI ((i6 : Int) + 1))]) 3 rfl (by decide) rfl rfl dX6_dropsOf_33 rfl ?_
      refine z_goto 4 dX6_dropsOf_36 (by decide) ?_
      exact ih
def A_Y_knownBy_4 (w : z_Wd) (a0 : Int) : Nat → Int
  | 0 => 0
  | i6 + 1 => if F_Y_value w 2 (i6 : Int) 1 = a0 then zz_or (A_Y_knownBy_4 w a0 i6) (zz_shl 1 (i6 : Int)) else A_Y_knownBy_4 w a0 i6
def P_Y_knownBy (w : z_Wd) (a0 : Int) : Prop := (∀ i6 : Nat, i6 < ((w 32 2).toNat) → (-2147483648 ≤ (i6 : Int) ∧ (i6 : Int) < 2147483648) ∧ (-2147483648 ≤ w 32 2 ∧ w 32 2 < 2147483648) ∧ (P_Y_value w 2 (i6 : Int) 1) ∧ (-2147483648 ≤ F_Y_value w 2 (i6 : Int) 1 ∧ F_Y_value w 2 (i6 : Int) 1 < 2147483648) ∧ (-2147483648 ≤ a0 ∧ a0 < 2147483648)) ∧ ((-2147483648 ≤ (((w 32 2).toNat : Nat) : Int) ∧ (((w 32 2).toNat : Nat) : Int) < 2147483648) ∧ (-2147483648 ≤ w 32 2 ∧ w 32 2 < 2147483648))
def F_Y_knownBy (w : z_Wd) (a0 : Int) : Int := A_Y_knownBy_4 w a0 (w 32 2).toNat
set_option maxRecDepth 4000 in
theorem c_Y_knownBy {d : Nat} {w : z_Wd} {a0 : Int} {Q : Option z_V → z_Wd → Prop} (h : P_Y_knownBy w a0) (k : Q (some (zI (F_Y_knownBy w a0))) w) : z_Wc (d + 1) m_X6_knownBy [zR 30, zI a0] w Q := by
  unfold P_Y_knownBy at h
  unfold F_Y_knownBy at k
  refine z_enter rfl (Nat.le_of_ble_eq_true rfl) ?_
  show z_Wp m_X6_knownBy _ 0 [(0, zR 30), (1, zI a0)] [] w _
  refine z_iconst (pc' := 1) dX6_knownBy_0 rfl ?_
  refine z_istore_n (pc' := 2) (ls' := [(0, zR 30), (1, zI a0), (2, zI 0)]) rfl (by decide) rfl rfl dX6_knownBy_1 rfl ?_
  refine z_iconst (pc' := 3) dX6_knownBy_2 rfl ?_
  refine z_istore_n (pc' := 4) (ls' := [(0, zR 30), (1, zI a0), (2, zI 0), (3, zI 0)]) rfl (by decide) rfl rfl dX6_knownBy_3 rfl ?_
  refine z_upto ((w 32 2).toNat) (fun i6 => z_Wp m_X6_knownBy (d + 1) 4 [(0, zR 30), (1, zI a0), (2, zI (A_Y_knownBy_4 w a0 i6)), (3, zI (i6 : Int))] [] w Q) ?_ ?_
  · skip
    have h := h.2
    refine z_iload_n (pc' := 5) 3 rfl rfl dX6_knownBy_4 rfl ?_
    refine z_aload_n (pc' := 6) 0 rfl rfl dX6_knownBy_5 rfl ?_
    refine z_getR (t := 32) (pc' := 9) g_X6_13 (by decide) rfl rfl dX6_knownBy_6 rfl ?_
    refine z_iconst (pc' := 10) dX6_knownBy_9 rfl ?_
    refine z_iald2 (v := w 32 2) (pc' := 11) (by decide) rfl (by decide) (by decide) rfl dX6_knownBy_10 rfl ?_
    obtain ⟨r12, h⟩ := h
    have r13 := h
    refine z_icmp_ge 37 dX6_knownBy_11 (by decide) (pc' := 14) rfl r12 r13 (fun _ => ?_) (fun c => absurd c (by omega))
    refine z_iload_n (pc' := 38) 2 rfl rfl dX6_knownBy_37 rfl ?_
    refine z_iret rfl dX6_knownBy_38 ?_
    exact k
  · intro i6 hi ih
    have h := h.1 i6 hi
    have ih : z_Wp m_X6_knownBy (d + 1) 4 [(0, zR 30), (1, zI a0), (2, zI (if F_Y_value w 2 (i6 : Int) 1 = a0 then zz_or (A_Y_knownBy_4 w a0 i6) (zz_shl 1 (i6 : Int)) else A_Y_knownBy_4 w a0 i6)), (3, zI ((i6 + 1 : Nat) : Int))] [] w Q := ih
    refine z_iload_n (pc' := 5) 3 rfl rfl dX6_knownBy_4 rfl ?_
    refine z_aload_n (pc' := 6) 0 rfl rfl dX6_knownBy_5 rfl ?_
    refine z_getR (t := 32) (pc' := 9) g_X6_13 (by decide) rfl rfl dX6_knownBy_6 rfl ?_
    refine z_iconst (pc' := 10) dX6_knownBy_9 rfl ?_
    refine z_iald2 (v := w 32 2) (pc' := 11) (by decide) rfl (by decide) (by decide) rfl dX6_knownBy_10 rfl ?_
    obtain ⟨r7, h⟩ := h
    obtain ⟨r8, h⟩ := h
    refine z_icmp_ge 37 dX6_knownBy_11 (by decide) (pc' := 14) rfl r7 r8 (fun c => absurd c (by omega)) (fun _ => ?_)
    refine z_aload_n (pc' := 15) 0 rfl rfl dX6_knownBy_14 rfl ?_
    refine z_iconst (pc' := 16) dX6_knownBy_15 rfl ?_
    refine z_iload_n (pc' := 17) 3 rfl rfl dX6_knownBy_16 rfl ?_
    refine z_iconst (pc' := 18) dX6_knownBy_17 rfl ?_
    refine z_invV (as := [zI 2, zI (i6 : Int), zI 1]) (st := []) (C := m_X6_value) (fs := [33, 34]) (pc' := 21) dX6_knownBy_18 rfl t_2_169 k_X6_value rfl (by decide) rfl rfl rfl rfl (Nat.le_of_ble_eq_true rfl) ?_
    obtain ⟨r9, h⟩ := h
    refine c_Y_value r9 ?_
    show z_Wp m_X6_knownBy _ 21 [(0, zR 30), (1, zI a0), (2, zI (A_Y_knownBy_4 w a0 i6)), (3, zI (i6 : Int))] [zI (F_Y_value w 2 (i6 : Int) 1)] w _
    refine z_iload_n (pc' := 22) 1 rfl rfl dX6_knownBy_21 rfl ?_
    obtain ⟨r10, h⟩ := h
    have r11 := h
    refine z_icmp_ne 31 dX6_knownBy_22 (by decide) (pc' := 25) rfl r10 r11 (fun c72 => ?_) (fun c72 => ?_)
    · skip
      rw [if_neg c72] at ih
      refine z_iinc (pc' := 34) (ls' := [(0, zR 30), (1, zI a0), (2, zI (A_Y_knownBy_4 w a0 i6)), (3, zI ((i6 : Int) + 1))]) 3 rfl (by decide) rfl rfl dX6_knownBy_31 rfl ?_
      refine z_goto 4 dX6_knownBy_34 (by decide) ?_
      exact ih
    · skip
      rw [if_pos c72] at ih
      refine z_iload_n (pc' := 26) 2 rfl rfl dX6_knownBy_25 rfl ?_
      refine z_iconst (pc' := 27) dX6_knownBy_26 rfl ?_
      refine z_iload_n (pc' := 28) 3 rfl rfl dX6_knownBy_27 rfl ?_
      refine z_ishl (pc' := 29) dX6_knownBy_28 rfl ?_
      refine z_ior (pc' := 30) dX6_knownBy_29 rfl ?_
      refine z_istore_n (pc' := 31) (ls' := [(0, zR 30), (1, zI a0), (2, zI (zz_or (A_Y_knownBy_4 w a0 i6) (zz_shl 1 (i6 : Int)))), (3, zI (i6 : Int))]) rfl (by decide) rfl rfl dX6_knownBy_30 rfl ?_
      refine z_iinc (pc' := 34) (ls' := [(0, zR 30), (1, zI a0), (2, zI (zz_or (A_Y_knownBy_4 w a0 i6) (zz_shl 1 (i6 : Int)))), (3, zI ((i6 : Int) + 1))]) 3 rfl (by decide) rfl rfl dX6_knownBy_31 rfl ?_
      refine z_goto 4 dX6_knownBy_34 (by decide) ?_
      exact ih
def A_Y_longest_4 (w : z_Wd)  : Nat → Int
  | 0 => 0
  | i7 + 1 => if F_Y_value w 2 (1 + (i7 : Int)) 0 ≤ F_Y_value w 2 (A_Y_longest_4 w i7) 0 then A_Y_longest_4 w i7 else 1 + (i7 : Int)
def P_Y_longest (w : z_Wd)  : Prop := (∀ i7 : Nat, i7 < (((w 32 2) - 1).toNat) → (-2147483648 ≤ 1 + (i7 : Int) ∧ 1 + (i7 : Int) < 2147483648) ∧ (-2147483648 ≤ w 32 2 ∧ w 32 2 < 2147483648) ∧ (P_Y_value w 2 (1 + (i7 : Int)) 0) ∧ (P_Y_value w 2 (A_Y_longest_4 w i7) 0) ∧ (-2147483648 ≤ F_Y_value w 2 (1 + (i7 : Int)) 0 ∧ F_Y_value w 2 (1 + (i7 : Int)) 0 < 2147483648) ∧ (-2147483648 ≤ F_Y_value w 2 (A_Y_longest_4 w i7) 0 ∧ F_Y_value w 2 (A_Y_longest_4 w i7) 0 < 2147483648)) ∧ ((-2147483648 ≤ 1 + ((((w 32 2) - 1).toNat : Nat) : Int) ∧ 1 + ((((w 32 2) - 1).toNat : Nat) : Int) < 2147483648) ∧ (-2147483648 ≤ w 32 2 ∧ w 32 2 < 2147483648))
def F_Y_longest (w : z_Wd)  : Int := A_Y_longest_4 w ((w 32 2) - 1).toNat
set_option maxRecDepth 4000 in
theorem c_Y_longest {d : Nat} {w : z_Wd} {Q : Option z_V → z_Wd → Prop} (h : P_Y_longest w ) (k : Q (some (zI (F_Y_longest w ))) w) : z_Wc (d + 2) m_X6_longest [zR 30] w Q := by
  unfold P_Y_longest at h
  unfold F_Y_longest at k
  refine z_enter rfl (Nat.le_of_ble_eq_true rfl) ?_
  show z_Wp m_X6_longest _ 0 [(0, zR 30)] [] w _
  refine z_iconst (pc' := 1) dX6_longest_0 rfl ?_
  refine z_istore_n (pc' := 2) (ls' := [(0, zR 30), (1, zI 0)]) rfl (by decide) rfl rfl dX6_longest_1 rfl ?_
  refine z_iconst (pc' := 3) dX6_longest_2 rfl ?_
  refine z_istore_n (pc' := 4) (ls' := [(0, zR 30), (1, zI 0), (2, zI 1)]) rfl (by decide) rfl rfl dX6_longest_3 rfl ?_
  refine z_upto (((w 32 2) - 1).toNat) (fun i7 => z_Wp m_X6_longest (d + 2) 4 [(0, zR 30), (1, zI (A_Y_longest_4 w i7)), (2, zI (1 + (i7 : Int)))] [] w Q) ?_ ?_
  · skip
    have h := h.2
    refine z_iload_n (pc' := 5) 2 rfl rfl dX6_longest_4 rfl ?_
    refine z_aload_n (pc' := 6) 0 rfl rfl dX6_longest_5 rfl ?_
    refine z_invV (as := []) (st := [zI (1 + ((((w 32 2) - 1).toNat : Nat) : Int))]) (C := m_X6_names) (fs := [33, 34]) (pc' := 9) dX6_longest_6 rfl t_2_157 k_X6_names rfl (by decide) rfl rfl rfl rfl (Nat.le_of_ble_eq_true rfl) ?_
    refine c_Y_names ?_
    show z_Wp m_X6_longest _ 9 [(0, zR 30), (1, zI (A_Y_longest_4 w ((w 32 2) - 1).toNat)), (2, zI (1 + ((((w 32 2) - 1).toNat : Nat) : Int)))] [zI (w 32 2), zI (1 + ((((w 32 2) - 1).toNat : Nat) : Int))] w _
    obtain ⟨r14, h⟩ := h
    have r15 := h
    refine z_icmp_ge 33 dX6_longest_9 (by decide) (pc' := 12) rfl r14 r15 (fun _ => ?_) (fun c => absurd c (by omega))
    refine z_iload_n (pc' := 34) 1 rfl rfl dX6_longest_33 rfl ?_
    refine z_iret rfl dX6_longest_34 ?_
    exact k
  · intro i7 hi ih
    have h := h.1 i7 hi
    have ih : z_Wp m_X6_longest (d + 2) 4 [(0, zR 30), (1, zI (if F_Y_value w 2 (1 + (i7 : Int)) 0 ≤ F_Y_value w 2 (A_Y_longest_4 w i7) 0 then A_Y_longest_4 w i7 else 1 + (i7 : Int))), (2, zI (1 + ((i7 + 1 : Nat) : Int)))] [] w Q := ih
    refine z_iload_n (pc' := 5) 2 rfl rfl dX6_longest_4 rfl ?_
    refine z_aload_n (pc' := 6) 0 rfl rfl dX6_longest_5 rfl ?_
    refine z_invV (as := []) (st := [zI (1 + (i7 : Int))]) (C := m_X6_names) (fs := [33, 34]) (pc' := 9) dX6_longest_6 rfl t_2_157 k_X6_names rfl (by decide) rfl rfl rfl rfl (Nat.le_of_ble_eq_true rfl) ?_
    refine c_Y_names ?_
    show z_Wp m_X6_longest _ 9 [(0, zR 30), (1, zI (A_Y_longest_4 w i7)), (2, zI (1 + (i7 : Int)))] [zI (w 32 2), zI (1 + (i7 : Int))] w _
    obtain ⟨r8, h⟩ := h
    obtain ⟨r9, h⟩ := h
    refine z_icmp_ge 33 dX6_longest_9 (by decide) (pc' := 12) rfl r8 r9 (fun c => absurd c (by omega)) (fun _ => ?_)
    refine z_aload_n (pc' := 13) 0 rfl rfl dX6_longest_12 rfl ?_
    refine z_iload_n (pc' := 14) 2 rfl rfl dX6_longest_13 rfl ?_
    refine z_invV (as := [zI (1 + (i7 : Int))]) (st := []) (C := m_X6_syllables) (fs := [33, 34]) (pc' := 17) dX6_longest_14 rfl t_5_154 k_X6_syllables rfl (by decide) rfl rfl rfl rfl (Nat.le_of_ble_eq_true rfl) ?_
    obtain ⟨r10, h⟩ := h
    refine c_Y_syllables r10 ?_
    show z_Wp m_X6_longest _ 17 [(0, zR 30), (1, zI (A_Y_longest_4 w i7)), (2, zI (1 + (i7 : Int)))] [zI (F_Y_value w 2 (1 + (i7 : Int)) 0)] w _
    refine z_aload_n (pc' := 18) 0 rfl rfl dX6_longest_17 rfl ?_
    refine z_iload_n (pc' := 19) 1 rfl rfl dX6_longest_18 rfl ?_
    refine z_invV (as := [zI (A_Y_longest_4 w i7)]) (st := [zI (F_Y_value w 2 (1 + (i7 : Int)) 0)]) (C := m_X6_syllables) (fs := [33, 34]) (pc' := 22) dX6_longest_19 rfl t_5_154 k_X6_syllables rfl (by decide) rfl rfl rfl rfl (Nat.le_of_ble_eq_true rfl) ?_
    obtain ⟨r11, h⟩ := h
    refine c_Y_syllables r11 ?_
    show z_Wp m_X6_longest _ 22 [(0, zR 30), (1, zI (A_Y_longest_4 w i7)), (2, zI (1 + (i7 : Int)))] [zI (F_Y_value w 2 (A_Y_longest_4 w i7) 0), zI (F_Y_value w 2 (1 + (i7 : Int)) 0)] w _
    obtain ⟨r12, h⟩ := h
    have r13 := h
    refine z_icmp_le 27 dX6_longest_22 (by decide) (pc' := 25) rfl r12 r13 (fun c73 => ?_) (fun c73 => ?_)
    · skip
      rw [if_pos c73] at ih
      refine z_iinc (pc' := 30) (ls' := [(0, zR 30), (1, zI (A_Y_longest_4 w i7)), (2, zI ((1 + (i7 : Int)) + 1))]) 2 rfl (by decide) rfl rfl dX6_longest_27 rfl ?_
      refine z_goto 4 dX6_longest_30 (by decide) ?_
      exact (z_lcast (by rw [z_ci]) ih)
    · skip
      rw [if_neg c73] at ih
      refine z_iload_n (pc' := 26) 2 rfl rfl dX6_longest_25 rfl ?_
      refine z_istore_n (pc' := 27) (ls' := [(0, zR 30), (1, zI (1 + (i7 : Int))), (2, zI (1 + (i7 : Int)))]) rfl (by decide) rfl rfl dX6_longest_26 rfl ?_
      refine z_iinc (pc' := 30) (ls' := [(0, zR 30), (1, zI (1 + (i7 : Int))), (2, zI ((1 + (i7 : Int)) + 1))]) 2 rfl (by decide) rfl rfl dX6_longest_27 rfl ?_
      refine z_goto 4 dX6_longest_30 (by decide) ?_
      exact (z_lcast (by rw [z_ci]) ih)
set_option maxRecDepth 4000 in
theorem c_YR_draft {d : Nat} {w : z_Wd} {Q : Option z_V → z_Wd → Prop} (k : Q (some (zR 34)) w) : z_Wc d m_X7_draft [zR 33] w Q := by
  refine z_enter rfl (Nat.le_of_ble_eq_true rfl) ?_
  show z_Wp m_X7_draft _ 0 [(0, zR 33)] [] w _
  refine z_aload_n (pc' := 1) 0 rfl rfl dX7_draft_0 rfl ?_
  refine z_getR (t := 34) (pc' := 4) g_X7_12 (by decide) rfl rfl dX7_draft_1 rfl ?_
  refine z_aret rfl dX7_draft_4 ?_
  exact k
def P_YR_step (w : z_Wd)  : Prop := P_T_behindBlanks w ((w 33 2) + 1)
def F_YR_step (w : z_Wd)  : z_Wd := z_up w 33 2 (F_T_behindBlanks w ((w 33 2) + 1))
set_option maxRecDepth 4000 in
theorem c_YR_step {d : Nat} {w : z_Wd} {Q : Option z_V → z_Wd → Prop} (h : P_YR_step w ) (k : Q none (F_YR_step w )) : z_Wc (d + 2) m_X7_step [zR 33] w Q := by
  unfold P_YR_step at h
  unfold F_YR_step at k
  refine z_enter rfl (Nat.le_of_ble_eq_true rfl) ?_
  show z_Wp m_X7_step _ 0 [(0, zR 33)] [] w _
  refine z_aload_n (pc' := 1) 0 rfl rfl dX7_step_0 rfl ?_
  refine z_aload_n (pc' := 2) 0 rfl rfl dX7_step_1 rfl ?_
  refine z_getR (t := 28) (pc' := 5) g_X7_18 (by decide) rfl rfl dX7_step_2 rfl ?_
  refine z_aload_n (pc' := 6) 0 rfl rfl dX7_step_5 rfl ?_
  refine z_getI2 (v := w 33 2) (pc' := 9) g_X7_31 (by decide) rfl rfl rfl dX7_step_6 rfl ?_
  refine z_iconst (pc' := 10) dX7_step_9 rfl ?_
  refine z_iadd (pc' := 11) dX7_step_10 rfl ?_
  refine z_invV (as := [zI ((w 33 2) + 1)]) (st := [zR 33]) (C := m_X10_behindBlanks) (fs := [31, 0]) (pc' := 14) dX7_step_11 rfl t_2_96 k_X10_behindBlanks rfl (by decide) rfl rfl rfl rfl (Nat.le_of_ble_eq_true rfl) ?_
  have r1 := h
  refine c_T_behindBlanks r1 ?_
  show z_Wp m_X7_step _ 14 [(0, zR 33)] [zI (F_T_behindBlanks w ((w 33 2) + 1)), zR 33] w _
  refine z_putI (pc' := 17) p_X7_31 (by decide) rfl rfl rfl rfl dX7_step_14 rfl ?_
  refine z_vret rfl dX7_step_17 ?_
  exact k
def E_YR_kindOf_2 (w : z_Wd) (a0 : Int) (i5 : Nat) : Bool := if a0 = z_sc 3 ((i5 : Int).toNat) then true else false
def R_YR_kindOf_2 (w : z_Wd) (a0 : Int) (i5 : Nat) : Int := if a0 = z_sc 3 ((i5 : Int).toNat) then (i5 : Int) else 0
def P_YR_kindOf (w : z_Wd) (a0 : Int) : Prop := (∀ i5 : Nat, i5 < 4 → zfind (E_YR_kindOf_2 w a0) i5 = -1 → (-2147483648 ≤ (i5 : Int) ∧ (i5 : Int) < 2147483648) ∧ (0 ≤ (i5 : Int) ∧ (i5 : Int) < 4) ∧ (-2147483648 ≤ a0 ∧ a0 < 2147483648) ∧ (-2147483648 ≤ z_sc 3 ((i5 : Int).toNat) ∧ z_sc 3 ((i5 : Int).toNat) < 2147483648)) ∧ (True)
def F_YR_kindOf (w : z_Wd) (a0 : Int) : Int := if zfind (E_YR_kindOf_2 w a0) 4 = -1 then (-1) else R_YR_kindOf_2 w a0 (zfind (E_YR_kindOf_2 w a0) 4).toNat
set_option maxRecDepth 4000 in
theorem c_YR_kindOf {d : Nat} {w : z_Wd} {a0 : Int} {Q : Option z_V → z_Wd → Prop} (h : P_YR_kindOf w a0) (k : Q (some (zI (F_YR_kindOf w a0))) w) : z_Wc d m_X7_kindOf [zI a0] w Q := by
  unfold P_YR_kindOf at h
  unfold F_YR_kindOf at k
  refine z_enter rfl (Nat.le_of_ble_eq_true rfl) ?_
  show z_Wp m_X7_kindOf _ 0 [(0, zI a0)] [] w _
  refine z_iconst (pc' := 1) dX7_kindOf_0 rfl ?_
  refine z_istore_n (pc' := 2) (ls' := [(0, zI a0), (1, zI 0)]) rfl (by decide) rfl rfl dX7_kindOf_1 rfl ?_
  refine z_upto 4 (fun i5 => zfind (E_YR_kindOf_2 w a0) i5 = -1 → z_Wp m_X7_kindOf d 2 [(0, zI a0), (1, zI (i5 : Int))] [] w Q) ?_ ?_ rfl
  · intro hf
    rw [if_pos hf] at k
    have h := h.2
    refine z_iload_n (pc' := 3) 1 rfl rfl dX7_kindOf_2 rfl ?_
    refine z_gets (i := 3) (pc' := 6) rfl t_2_111 dX7_kindOf_3 rfl ?_
    refine z_alens (i := 3) (v := 4) (pc' := 7) rfl rfl dX7_kindOf_6 rfl ?_
    refine z_icmp_ge 27 dX7_kindOf_7 (by decide) (pc' := 10) rfl (by decide) (by decide) (fun _ => ?_) (fun c => absurd c (by decide))
    refine z_iconst (pc' := 28) dX7_kindOf_27 rfl ?_
    refine z_iret rfl dX7_kindOf_28 ?_
    exact k
  · intro i5 hi ih hf
    have h := h.1 i5 hi hf
    have hE : E_YR_kindOf_2 w a0 i5 = (if a0 = z_sc 3 ((i5 : Int).toNat) then true else false) := rfl
    refine z_iload_n (pc' := 3) 1 rfl rfl dX7_kindOf_2 rfl ?_
    refine z_gets (i := 3) (pc' := 6) rfl t_2_111 dX7_kindOf_3 rfl ?_
    refine z_alens (i := 3) (v := 4) (pc' := 7) rfl rfl dX7_kindOf_6 rfl ?_
    obtain ⟨r6, h⟩ := h
    refine z_icmp_ge 27 dX7_kindOf_7 (by decide) (pc' := 10) rfl r6 (by decide) (fun c => absurd c (by omega)) (fun _ => ?_)
    refine z_iload_n (pc' := 11) 0 rfl rfl dX7_kindOf_10 rfl ?_
    refine z_gets (i := 3) (pc' := 14) rfl t_2_111 dX7_kindOf_11 rfl ?_
    refine z_iload_n (pc' := 15) 1 rfl rfl dX7_kindOf_14 rfl ?_
    obtain ⟨r7, h⟩ := h
    refine z_cals2 (i := 3) (v := z_sc 3 ((i5 : Int).toNat)) (pc' := 16) rfl rfl r7 (by decide) rfl dX7_kindOf_15 rfl ?_
    obtain ⟨r8, h⟩ := h
    have r9 := h
    refine z_icmp_ne 21 dX7_kindOf_16 (by decide) (pc' := 19) rfl r8 r9 (fun c74 => ?_) (fun c74 => ?_)
    · skip
      rw [if_neg c74] at hE
      refine z_iinc (pc' := 24) (ls' := [(0, zI a0), (1, zI ((i5 : Int) + 1))]) 1 rfl (by decide) rfl rfl dX7_kindOf_21 rfl ?_
      refine z_goto 2 dX7_kindOf_24 (by decide) ?_
      exact (ih (zfind_miss hf (by rw [hE]; decide)))
    · skip
      rw [if_pos c74] at hE
      refine z_iload_n (pc' := 20) 1 rfl rfl dX7_kindOf_19 rfl ?_
      refine z_iret rfl dX7_kindOf_20 ?_
      have hz := zfind_hit hf hE _ hi
      rw [hz, if_neg (by omega), Int.toNat_natCast] at k
      unfold R_YR_kindOf_2 at k
      rw [if_pos c74] at k
      exact k
def E_YR_itemOf_2 (w : z_Wd) (a0 : Int) (a1 : Int) (i5 : Nat) : Bool := if a1 = 0 then false else if a1 = z_sc 4 (((a0 * 3) + (i5 : Int)).toNat) then true else false
def R_YR_itemOf_2 (w : z_Wd) (a0 : Int) (a1 : Int) (i5 : Nat) : Int := if a1 = 0 then 0 else if a1 = z_sc 4 (((a0 * 3) + (i5 : Int)).toNat) then (i5 : Int) else 0
def P_YR_itemOf (w : z_Wd) (a0 : Int) (a1 : Int) : Prop := (∀ i5 : Nat, i5 < 3 → zfind (E_YR_itemOf_2 w a0 a1) i5 = -1 → (-2147483648 ≤ (i5 : Int) ∧ (i5 : Int) < 2147483648) ∧ (-2147483648 ≤ a1 ∧ a1 < 2147483648) ∧ ((a1 = 0 → True) ∧ (¬ (a1 = 0) → (0 ≤ (a0 * 3) + (i5 : Int) ∧ (a0 * 3) + (i5 : Int) < 12) ∧ (-2147483648 ≤ z_sc 4 (((a0 * 3) + (i5 : Int)).toNat) ∧ z_sc 4 (((a0 * 3) + (i5 : Int)).toNat) < 2147483648)))) ∧ (True)
def F_YR_itemOf (w : z_Wd) (a0 : Int) (a1 : Int) : Int := if zfind (E_YR_itemOf_2 w a0 a1) 3 = -1 then (-1) else R_YR_itemOf_2 w a0 a1 (zfind (E_YR_itemOf_2 w a0 a1) 3).toNat
set_option maxRecDepth 4000 in
theorem c_YR_itemOf {d : Nat} {w : z_Wd} {a0 a1 : Int} {Q : Option z_V → z_Wd → Prop} (h : P_YR_itemOf w a0 a1) (k : Q (some (zI (F_YR_itemOf w a0 a1))) w) : z_Wc d m_X7_itemOf [zI a0, zI a1] w Q := by
  unfold P_YR_itemOf at h
  unfold F_YR_itemOf at k
  refine z_enter rfl (Nat.le_of_ble_eq_true rfl) ?_
  show z_Wp m_X7_itemOf _ 0 [(0, zI a0), (1, zI a1)] [] w _
  refine z_iconst (pc' := 1) dX7_itemOf_0 rfl ?_
  refine z_istore_n (pc' := 2) (ls' := [(0, zI a0), (1, zI a1), (2, zI 0)]) rfl (by decide) rfl rfl dX7_itemOf_1 rfl ?_
  refine z_upto 3 (fun i5 => zfind (E_YR_itemOf_2 w a0 a1) i5 = -1 → z_Wp m_X7_itemOf d 2 [(0, zI a0), (1, zI a1), (2, zI (i5 : Int))] [] w Q) ?_ ?_ rfl
  · intro hf
    rw [if_pos hf] at k
    have h := h.2
    refine z_iload_n (pc' := 3) 2 rfl rfl dX7_itemOf_2 rfl ?_
    refine z_iconst (pc' := 4) dX7_itemOf_3 rfl ?_
    refine z_icmp_ge 32 dX7_itemOf_4 (by decide) (pc' := 7) rfl (by decide) (by decide) (fun _ => ?_) (fun c => absurd c (by decide))
    refine z_iconst (pc' := 33) dX7_itemOf_32 rfl ?_
    refine z_iret rfl dX7_itemOf_33 ?_
    exact k
  · intro i5 hi ih hf
    have h := h.1 i5 hi hf
    have hE : E_YR_itemOf_2 w a0 a1 i5 = (if a1 = 0 then false else if a1 = z_sc 4 (((a0 * 3) + (i5 : Int)).toNat) then true else false) := rfl
    refine z_iload_n (pc' := 3) 2 rfl rfl dX7_itemOf_2 rfl ?_
    refine z_iconst (pc' := 4) dX7_itemOf_3 rfl ?_
    obtain ⟨r6, h⟩ := h
    refine z_icmp_ge 32 dX7_itemOf_4 (by decide) (pc' := 7) rfl r6 (by decide) (fun c => absurd c (by omega)) (fun _ => ?_)
    refine z_iload_n (pc' := 8) 1 rfl rfl dX7_itemOf_7 rfl ?_
    obtain ⟨r7, h⟩ := h
    refine z_if_eq 26 dX7_itemOf_8 (by decide) (pc' := 11) rfl r7 (fun c75 => ?_) (fun c75 => ?_)
    · have h := h.1 c75
      rw [if_pos c75] at hE
      refine z_iinc (pc' := 29) (ls' := [(0, zI a0), (1, zI a1), (2, zI ((i5 : Int) + 1))]) 2 rfl (by decide) rfl rfl dX7_itemOf_26 rfl ?_
      refine z_goto 2 dX7_itemOf_29 (by decide) ?_
      exact (ih (zfind_miss hf (by rw [hE]; decide)))
    · have h := h.2 c75
      rw [if_neg c75] at hE
      refine z_iload_n (pc' := 12) 1 rfl rfl dX7_itemOf_11 rfl ?_
      refine z_gets (i := 4) (pc' := 15) rfl t_2_126 dX7_itemOf_12 rfl ?_
      refine z_iload_n (pc' := 16) 0 rfl rfl dX7_itemOf_15 rfl ?_
      refine z_iconst (pc' := 17) dX7_itemOf_16 rfl ?_
      refine z_imul (pc' := 18) dX7_itemOf_17 rfl ?_
      refine z_iload_n (pc' := 19) 2 rfl rfl dX7_itemOf_18 rfl ?_
      refine z_iadd (pc' := 20) dX7_itemOf_19 rfl ?_
      obtain ⟨r8, h⟩ := h
      refine z_cals2 (i := 4) (v := z_sc 4 (((a0 * 3) + (i5 : Int)).toNat)) (pc' := 21) rfl rfl r8 (by decide) rfl dX7_itemOf_20 rfl ?_
      have r9 := h
      refine z_icmp_ne 26 dX7_itemOf_21 (by decide) (pc' := 24) rfl r7 r9 (fun c76 => ?_) (fun c76 => ?_)
      · skip
        rw [if_neg c76] at hE
        refine z_iinc (pc' := 29) (ls' := [(0, zI a0), (1, zI a1), (2, zI ((i5 : Int) + 1))]) 2 rfl (by decide) rfl rfl dX7_itemOf_26 rfl ?_
        refine z_goto 2 dX7_itemOf_29 (by decide) ?_
        exact (ih (zfind_miss hf (by rw [hE]; decide)))
      · skip
        rw [if_pos c76] at hE
        refine z_iload_n (pc' := 25) 2 rfl rfl dX7_itemOf_24 rfl ?_
        refine z_iret rfl dX7_itemOf_25 ?_
        have hz := zfind_hit hf hE _ hi
        rw [hz, if_neg (by omega), Int.toNat_natCast] at k
        unfold R_YR_itemOf_2 at k
        rw [if_neg c75] at k
        rw [if_pos c76] at k
        exact k
def P_N_gain (w : z_Wd) (a0 : Int) (a1 : Int) (a2 : Int) : Prop := (P_J_max_7cf53 w a1 a2) ∧ (P_J_min_7cf53 w 9 (F_J_max_7cf53 w a1 a2)) ∧ (P_J_max_7cf53 w 0 (F_J_min_7cf53 w 9 (F_J_max_7cf53 w a1 a2))) ∧ (0 ≤ F_J_max_7cf53 w 0 (F_J_min_7cf53 w 9 (F_J_max_7cf53 w a1 a2)) ∧ F_J_max_7cf53 w 0 (F_J_min_7cf53 w 9 (F_J_max_7cf53 w a1 a2)) < 10) ∧ (P_Y_value w 2 a0 1) ∧ (-2147483648 ≤ w 77 ((F_J_max_7cf53 w 0 (F_J_min_7cf53 w 9 (F_J_max_7cf53 w a1 a2))).toNat) ∧ w 77 ((F_J_max_7cf53 w 0 (F_J_min_7cf53 w 9 (F_J_max_7cf53 w a1 a2))).toNat) < 2147483648) ∧ (-2147483648 ≤ F_Y_value w 2 a0 1 ∧ F_Y_value w 2 a0 1 < 2147483648)
def F_N_gain (w : z_Wd) (a0 : Int) (a1 : Int) (a2 : Int) : Int := if w 77 ((F_J_max_7cf53 w 0 (F_J_min_7cf53 w 9 (F_J_max_7cf53 w a1 a2))).toNat) = F_Y_value w 2 a0 1 then 5 - a1 else 0 - a1
set_option maxRecDepth 4000 in
theorem c_N_gain {d : Nat} {w : z_Wd} {a0 a1 a2 : Int} {Q : Option z_V → z_Wd → Prop} (h : P_N_gain w a0 a1 a2) (k : Q (some (zI (F_N_gain w a0 a1 a2))) w) : z_Wc (d + 2) m_X8_gain [zR 76, zI a0, zI a1, zI a2] w Q := by
  unfold P_N_gain at h
  unfold F_N_gain at k
  refine z_enter rfl (Nat.le_of_ble_eq_true rfl) ?_
  show z_Wp m_X8_gain _ 0 [(0, zR 76), (1, zI a0), (2, zI a1), (3, zI a2)] [] w _
  refine z_iconst (pc' := 1) dX8_gain_0 rfl ?_
  refine z_bipush (pc' := 3) (by decide) dX8_gain_1 rfl ?_
  refine z_iload_n (pc' := 4) 2 rfl rfl dX8_gain_3 rfl ?_
  refine z_iload_n (pc' := 5) 3 rfl rfl dX8_gain_4 rfl ?_
  refine z_invS (as := [zI a1, zI a2]) (st := [zI 9, zI 0]) (C := m_J9_max_7cf53) (pc' := 8) dX8_gain_5 rfl t_5_76 k_J9_max_7cf53 rfl rfl (Nat.le_of_ble_eq_true rfl) ?_
  obtain ⟨r1, h⟩ := h
  refine c_J_max_7cf53 r1 ?_
  show z_Wp m_X8_gain _ 8 [(0, zR 76), (1, zI a0), (2, zI a1), (3, zI a2)] [zI (F_J_max_7cf53 w a1 a2), zI 9, zI 0] w _
  refine z_invS (as := [zI 9, zI (F_J_max_7cf53 w a1 a2)]) (st := [zI 0]) (C := m_J9_min_7cf53) (pc' := 11) dX8_gain_8 rfl t_5_77 k_J9_min_7cf53 rfl rfl (Nat.le_of_ble_eq_true rfl) ?_
  obtain ⟨r2, h⟩ := h
  refine c_J_min_7cf53 r2 ?_
  show z_Wp m_X8_gain _ 11 [(0, zR 76), (1, zI a0), (2, zI a1), (3, zI a2)] [zI (F_J_min_7cf53 w 9 (F_J_max_7cf53 w a1 a2)), zI 0] w _
  refine z_invS (as := [zI 0, zI (F_J_min_7cf53 w 9 (F_J_max_7cf53 w a1 a2))]) (st := []) (C := m_J9_max_7cf53) (pc' := 14) dX8_gain_11 rfl t_5_76 k_J9_max_7cf53 rfl rfl (Nat.le_of_ble_eq_true rfl) ?_
  obtain ⟨r3, h⟩ := h
  refine c_J_max_7cf53 r3 ?_
  show z_Wp m_X8_gain _ 14 [(0, zR 76), (1, zI a0), (2, zI a1), (3, zI a2)] [zI (F_J_max_7cf53 w 0 (F_J_min_7cf53 w 9 (F_J_max_7cf53 w a1 a2)))] w _
  refine z_istore (pc' := 16) (ls' := [(0, zR 76), (1, zI a0), (2, zI a1), (3, zI a2), (4, zI (F_J_max_7cf53 w 0 (F_J_min_7cf53 w 9 (F_J_max_7cf53 w a1 a2))))]) (by decide) rfl rfl dX8_gain_14 rfl ?_
  refine z_aload_n (pc' := 17) 0 rfl rfl dX8_gain_16 rfl ?_
  refine z_getR (t := 77) (pc' := 20) g_X8_11 (by decide) rfl rfl dX8_gain_17 rfl ?_
  refine z_iload (pc' := 22) 4 rfl dX8_gain_20 rfl ?_
  obtain ⟨r4, h⟩ := h
  refine z_iald2 (v := w 77 ((F_J_max_7cf53 w 0 (F_J_min_7cf53 w 9 (F_J_max_7cf53 w a1 a2))).toNat)) (pc' := 23) (by decide) rfl r4 (by decide) rfl dX8_gain_22 rfl ?_
  refine z_aload_n (pc' := 24) 0 rfl rfl dX8_gain_23 rfl ?_
  refine z_getR (t := 30) (pc' := 27) g_X8_15 (by decide) rfl rfl dX8_gain_24 rfl ?_
  refine z_iload_n (pc' := 28) 1 rfl rfl dX8_gain_27 rfl ?_
  refine z_invV (as := [zI a0]) (st := [zI (w 77 ((F_J_max_7cf53 w 0 (F_J_min_7cf53 w 9 (F_J_max_7cf53 w a1 a2))).toNat))]) (C := m_X6_knows) (fs := [33, 34]) (pc' := 31) dX8_gain_28 rfl t_5_78 k_X6_knows rfl (by decide) rfl rfl rfl rfl (Nat.le_of_ble_eq_true rfl) ?_
  obtain ⟨r5, h⟩ := h
  refine c_Y_knows r5 ?_
  show z_Wp m_X8_gain _ 31 [(0, zR 76), (1, zI a0), (2, zI a1), (3, zI a2), (4, zI (F_J_max_7cf53 w 0 (F_J_min_7cf53 w 9 (F_J_max_7cf53 w a1 a2))))] [zI (F_Y_value w 2 a0 1), zI (w 77 ((F_J_max_7cf53 w 0 (F_J_min_7cf53 w 9 (F_J_max_7cf53 w a1 a2))).toNat))] w _
  obtain ⟨r6, h⟩ := h
  have r7 := h
  refine z_icmp_ne 38 dX8_gain_31 (by decide) (pc' := 34) rfl r6 r7 (fun c => ?_) (fun c => ?_)
  · skip
    rw [if_neg c] at k
    refine z_iconst (pc' := 39) dX8_gain_38 rfl ?_
    refine z_iload_n (pc' := 40) 2 rfl rfl dX8_gain_39 rfl ?_
    refine z_isub (pc' := 41) dX8_gain_40 rfl ?_
    refine z_iret rfl dX8_gain_41 ?_
    exact k
  · skip
    rw [if_pos c] at k
    refine z_iconst (pc' := 35) dX8_gain_34 rfl ?_
    refine z_goto 39 dX8_gain_35 (by decide) ?_
    refine z_iload_n (pc' := 40) 2 rfl rfl dX8_gain_39 rfl ?_
    refine z_isub (pc' := 41) dX8_gain_40 rfl ?_
    refine z_iret rfl dX8_gain_41 ?_
    exact k
def E_N_hasNoBetter_3 (w : z_Wd) (a0 : Int) (a1 : Int) (a2 : Int) (i6 : Nat) : Bool := if F_N_gain w a0 (i6 : Int) a2 ≤ F_N_gain w a0 a1 a2 then false else true
def R_N_hasNoBetter_3 (w : z_Wd) (a0 : Int) (a1 : Int) (a2 : Int) (i6 : Nat) : Int := if F_N_gain w a0 (i6 : Int) a2 ≤ F_N_gain w a0 a1 a2 then 0 else 0
def P_N_hasNoBetter (w : z_Wd) (a0 : Int) (a1 : Int) (a2 : Int) : Prop := (∀ i6 : Nat, i6 < 10 → zfind (E_N_hasNoBetter_3 w a0 a1 a2) i6 = -1 → (-2147483648 ≤ (i6 : Int) ∧ (i6 : Int) < 2147483648) ∧ (P_N_gain w a0 (i6 : Int) a2) ∧ (P_N_gain w a0 a1 a2) ∧ (-2147483648 ≤ F_N_gain w a0 (i6 : Int) a2 ∧ F_N_gain w a0 (i6 : Int) a2 < 2147483648) ∧ (-2147483648 ≤ F_N_gain w a0 a1 a2 ∧ F_N_gain w a0 a1 a2 < 2147483648)) ∧ (True)
def F_N_hasNoBetter (w : z_Wd) (a0 : Int) (a1 : Int) (a2 : Int) : Int := if zfind (E_N_hasNoBetter_3 w a0 a1 a2) 10 = -1 then 1 else R_N_hasNoBetter_3 w a0 a1 a2 (zfind (E_N_hasNoBetter_3 w a0 a1 a2) 10).toNat
set_option maxRecDepth 4000 in
theorem c_N_hasNoBetter {d : Nat} {w : z_Wd} {a0 a1 a2 : Int} {Q : Option z_V → z_Wd → Prop} (h : P_N_hasNoBetter w a0 a1 a2) (k : Q (some (zI (F_N_hasNoBetter w a0 a1 a2))) w) : z_Wc (d + 3) m_X8_hasNoBetter [zR 76, zI a0, zI a1, zI a2] w Q := by
  unfold P_N_hasNoBetter at h
  unfold F_N_hasNoBetter at k
  refine z_enter rfl (Nat.le_of_ble_eq_true rfl) ?_
  show z_Wp m_X8_hasNoBetter _ 0 [(0, zR 76), (1, zI a0), (2, zI a1), (3, zI a2)] [] w _
  refine z_iconst (pc' := 1) dX8_hasNoBetter_0 rfl ?_
  refine z_istore (pc' := 3) (ls' := [(0, zR 76), (1, zI a0), (2, zI a1), (3, zI a2), (4, zI 0)]) (by decide) rfl rfl dX8_hasNoBetter_1 rfl ?_
  refine z_upto 10 (fun i6 => zfind (E_N_hasNoBetter_3 w a0 a1 a2) i6 = -1 → z_Wp m_X8_hasNoBetter (d + 3) 3 [(0, zR 76), (1, zI a0), (2, zI a1), (3, zI a2), (4, zI (i6 : Int))] [] w Q) ?_ ?_ rfl
  · intro hf
    rw [if_pos hf] at k
    have h := h.2
    refine z_iload (pc' := 5) 4 rfl dX8_hasNoBetter_3 rfl ?_
    refine z_bipush (pc' := 7) (by decide) dX8_hasNoBetter_5 rfl ?_
    refine z_icmp_gt 36 dX8_hasNoBetter_7 (by decide) (pc' := 10) rfl (by decide) (by decide) (fun _ => ?_) (fun c => absurd c (by decide))
    refine z_iconst (pc' := 37) dX8_hasNoBetter_36 rfl ?_
    refine z_zret rfl (by decide) dX8_hasNoBetter_37 ?_
    exact k
  · intro i6 hi ih hf
    have h := h.1 i6 hi hf
    have hE : E_N_hasNoBetter_3 w a0 a1 a2 i6 = (if F_N_gain w a0 (i6 : Int) a2 ≤ F_N_gain w a0 a1 a2 then false else true) := rfl
    refine z_iload (pc' := 5) 4 rfl dX8_hasNoBetter_3 rfl ?_
    refine z_bipush (pc' := 7) (by decide) dX8_hasNoBetter_5 rfl ?_
    obtain ⟨r7, h⟩ := h
    refine z_icmp_gt 36 dX8_hasNoBetter_7 (by decide) (pc' := 10) rfl r7 (by decide) (fun c => absurd c (by omega)) (fun _ => ?_)
    refine z_aload_n (pc' := 11) 0 rfl rfl dX8_hasNoBetter_10 rfl ?_
    refine z_iload_n (pc' := 12) 1 rfl rfl dX8_hasNoBetter_11 rfl ?_
    refine z_iload (pc' := 14) 4 rfl dX8_hasNoBetter_12 rfl ?_
    refine z_iload_n (pc' := 15) 3 rfl rfl dX8_hasNoBetter_14 rfl ?_
    refine z_invV (as := [zI a0, zI (i6 : Int), zI a2]) (st := []) (C := m_X8_gain) (fs := [32, 43, 79]) (pc' := 18) dX8_hasNoBetter_15 rfl t_5_91 k_X8_gain rfl (by decide) rfl rfl rfl rfl (Nat.le_of_ble_eq_true rfl) ?_
    obtain ⟨r8, h⟩ := h
    refine c_N_gain r8 ?_
    show z_Wp m_X8_hasNoBetter _ 18 [(0, zR 76), (1, zI a0), (2, zI a1), (3, zI a2), (4, zI (i6 : Int))] [zI (F_N_gain w a0 (i6 : Int) a2)] w _
    refine z_aload_n (pc' := 19) 0 rfl rfl dX8_hasNoBetter_18 rfl ?_
    refine z_iload_n (pc' := 20) 1 rfl rfl dX8_hasNoBetter_19 rfl ?_
    refine z_iload_n (pc' := 21) 2 rfl rfl dX8_hasNoBetter_20 rfl ?_
    refine z_iload_n (pc' := 22) 3 rfl rfl dX8_hasNoBetter_21 rfl ?_
    refine z_invV (as := [zI a0, zI a1, zI a2]) (st := [zI (F_N_gain w a0 (i6 : Int) a2)]) (C := m_X8_gain) (fs := [32, 43, 79]) (pc' := 25) dX8_hasNoBetter_22 rfl t_5_91 k_X8_gain rfl (by decide) rfl rfl rfl rfl (Nat.le_of_ble_eq_true rfl) ?_
    obtain ⟨r9, h⟩ := h
    refine c_N_gain r9 ?_
    show z_Wp m_X8_hasNoBetter _ 25 [(0, zR 76), (1, zI a0), (2, zI a1), (3, zI a2), (4, zI (i6 : Int))] [zI (F_N_gain w a0 a1 a2), zI (F_N_gain w a0 (i6 : Int) a2)] w _
    obtain ⟨r10, h⟩ := h
    have r11 := h
    refine z_icmp_le 30 dX8_hasNoBetter_25 (by decide) (pc' := 28) rfl r10 r11 (fun c77 => ?_) (fun c77 => ?_)
    · skip
      rw [if_pos c77] at hE
      refine z_iinc (pc' := 33) (ls' := [(0, zR 76), (1, zI a0), (2, zI a1), (3, zI a2), (4, zI ((i6 : Int) + 1))]) 4 rfl (by decide) rfl rfl dX8_hasNoBetter_30 rfl ?_
      refine z_goto 3 dX8_hasNoBetter_33 (by decide) ?_
      exact (ih (zfind_miss hf (by rw [hE]; decide)))
    · skip
      rw [if_neg c77] at hE
      refine z_iconst (pc' := 29) dX8_hasNoBetter_28 rfl ?_
      refine z_zret rfl (by decide) dX8_hasNoBetter_29 ?_
      have hz := zfind_hit hf hE _ hi
      rw [hz, if_neg (by omega), Int.toNat_natCast] at k
      unfold R_N_hasNoBetter_3 at k
      rw [if_neg c77] at k
      exact k
theorem b_N_hasNoBetter {w : z_Wd} {a0 a1 a2 : Int} : F_N_hasNoBetter w a0 a1 a2 = 0 ∨ F_N_hasNoBetter w a0 a1 a2 = 1 := by
  unfold F_N_hasNoBetter
  (repeat' split) <;> first | exact Or.inl rfl | exact Or.inr rfl | (unfold R_N_hasNoBetter_3; (repeat' split) <;> first | exact Or.inl rfl | exact Or.inr rfl)
def F_P_row (w : z_Wd)  : Int := w 70 4
set_option maxRecDepth 4000 in
theorem c_P_row {d : Nat} {w : z_Wd} {Q : Option z_V → z_Wd → Prop} (k : Q (some (zI (F_P_row w ))) w) : z_Wc d m_X9_row [zR 70] w Q := by
  unfold F_P_row at k
  refine z_enter rfl (Nat.le_of_ble_eq_true rfl) ?_
  show z_Wp m_X9_row _ 0 [(0, zR 70)] [] w _
  refine z_aload_n (pc' := 1) 0 rfl rfl dX9_row_0 rfl ?_
  refine z_getI2 (v := w 70 4) (pc' := 4) g_X9_25 (by decide) rfl rfl rfl dX9_row_1 rfl ?_
  refine z_iret rfl dX9_row_4 ?_
  exact k
def F_P_fewest (w : z_Wd)  : Int := w 70 3
set_option maxRecDepth 4000 in
theorem c_P_fewest {d : Nat} {w : z_Wd} {Q : Option z_V → z_Wd → Prop} (k : Q (some (zI (F_P_fewest w ))) w) : z_Wc d m_X9_fewest [zR 70] w Q := by
  unfold F_P_fewest at k
  refine z_enter rfl (Nat.le_of_ble_eq_true rfl) ?_
  show z_Wp m_X9_fewest _ 0 [(0, zR 70)] [] w _
  refine z_aload_n (pc' := 1) 0 rfl rfl dX9_fewest_0 rfl ?_
  refine z_getI2 (v := w 70 3) (pc' := 4) g_X9_29 (by decide) rfl rfl rfl dX9_fewest_1 rfl ?_
  refine z_iret rfl dX9_fewest_4 ?_
  exact k
def A_P_silenced_18 (w : z_Wd) (i12 : Nat) (s0 : Int): Nat → Int
  | 0 => s0
  | i19 + 1 => if zz_and (zz_shr (A_P_silenced_18 w i12 s0 i19) (F_Y_value w 2 (i19 : Int) 1)) 1 = 1 then zz_or (A_P_silenced_18 w i12 s0 i19) (zz_shl 1 (i19 : Int)) else A_P_silenced_18 w i12 s0 i19
def A_P_silenced_4 (w : z_Wd) (a0 : Int) : Nat → Int
  | 0 => a0
  | i12 + 1 => A_P_silenced_18 w i12 (A_P_silenced_4 w a0 i12) (w 32 2).toNat
def P_P_silenced (w : z_Wd) (a0 : Int) : Prop := (∀ i12 : Nat, i12 < ((w 32 2).toNat) → (-2147483648 ≤ (i12 : Int) ∧ (i12 : Int) < 2147483648) ∧ (-2147483648 ≤ w 32 2 ∧ w 32 2 < 2147483648) ∧ ((∀ i19 : Nat, i19 < ((w 32 2).toNat) → (-2147483648 ≤ (i19 : Int) ∧ (i19 : Int) < 2147483648) ∧ (P_Y_value w 2 (i19 : Int) 1) ∧ (-2147483648 ≤ zz_and (zz_shr (A_P_silenced_18 w i12 (A_P_silenced_4 w a0 i12) i19) (F_Y_value w 2 (i19 : Int) 1)) 1 ∧ zz_and (zz_shr (A_P_silenced_18 w i12 (A_P_silenced_4 w a0 i12) i19) (F_Y_value w 2 (i19 : Int) 1)) 1 < 2147483648)) ∧ (-2147483648 ≤ (((w 32 2).toNat : Nat) : Int) ∧ (((w 32 2).toNat : Nat) : Int) < 2147483648))) ∧ ((-2147483648 ≤ (((w 32 2).toNat : Nat) : Int) ∧ (((w 32 2).toNat : Nat) : Int) < 2147483648) ∧ (-2147483648 ≤ w 32 2 ∧ w 32 2 < 2147483648))
def F_P_silenced (w : z_Wd) (a0 : Int) : Int := A_P_silenced_4 w a0 (w 32 2).toNat
set_option maxRecDepth 4000 in
theorem c_P_silenced {d : Nat} {w : z_Wd} {a0 : Int} {Q : Option z_V → z_Wd → Prop} (h : P_P_silenced w a0) (k : Q (some (zI (F_P_silenced w a0))) w) : z_Wc (d + 2) m_X9_silenced [zR 70, zI a0] w Q := by
  unfold P_P_silenced at h
  unfold F_P_silenced at k
  refine z_enter rfl (Nat.le_of_ble_eq_true rfl) ?_
  show z_Wp m_X9_silenced _ 0 [(0, zR 70), (1, zI a0)] [] w _
  refine z_iload_n (pc' := 1) 1 rfl rfl dX9_silenced_0 rfl ?_
  refine z_istore_n (pc' := 2) (ls' := [(0, zR 70), (1, zI a0), (2, zI a0)]) rfl (by decide) rfl rfl dX9_silenced_1 rfl ?_
  refine z_iconst (pc' := 3) dX9_silenced_2 rfl ?_
  refine z_istore_n (pc' := 4) (ls' := [(0, zR 70), (1, zI a0), (2, zI a0), (3, zI 0)]) rfl (by decide) rfl rfl dX9_silenced_3 rfl ?_
  refine z_Wp.sub (ls' := [(0, zR 70), (2, zI a0), (3, zI 0)]) ?_ (z_sub_of [0, 2, 3] rfl)
  refine z_upto ((w 32 2).toNat) (fun i12 => z_Wp m_X9_silenced (d + 2) 4 [(0, zR 70), (2, zI (A_P_silenced_4 w a0 i12)), (3, zI (i12 : Int))] [] w Q) ?_ ?_
  · skip
    have h := h.2
    refine z_iload_n (pc' := 5) 2 rfl rfl dX9_silenced_4 rfl ?_
    refine z_aload_n (pc' := 6) 0 rfl rfl dX9_silenced_5 rfl ?_
    refine z_getR (t := 30) (pc' := 9) g_X9_17 (by decide) rfl rfl dX9_silenced_6 rfl ?_
    refine z_invV (as := []) (st := [zI (((w 32 2).toNat : Nat) : Int)]) (C := m_X6_names) (fs := [33, 34]) (pc' := 12) dX9_silenced_9 rfl t_4_223 k_X6_names rfl (by decide) rfl rfl rfl rfl (Nat.le_of_ble_eq_true rfl) ?_
    refine c_Y_names ?_
    show z_Wp m_X9_silenced _ 12 [(0, zR 70), (2, zI (A_P_silenced_4 w a0 (w 32 2).toNat)), (3, zI (((w 32 2).toNat : Nat) : Int))] [zI (w 32 2), zI (((w 32 2).toNat : Nat) : Int)] w _
    obtain ⟨r24, h⟩ := h
    have r25 := h
    refine z_icmp_ge 66 dX9_silenced_12 (by decide) (pc' := 15) rfl r24 r25 (fun _ => ?_) (fun c => absurd c (by omega))
    refine z_iload_n (pc' := 67) 1 rfl rfl dX9_silenced_66 rfl ?_
    refine z_iret rfl dX9_silenced_67 ?_
    exact k
  · intro i12 hi ih
    have h := h.1 i12 hi
    have ih : z_Wp m_X9_silenced (d + 2) 4 [(0, zR 70), (2, zI (A_P_silenced_18 w i12 (A_P_silenced_4 w a0 i12) (w 32 2).toNat)), (3, zI ((i12 + 1 : Nat) : Int))] [] w Q := ih
    refine z_iload_n (pc' := 5) 2 rfl rfl dX9_silenced_4 rfl ?_
    refine z_aload_n (pc' := 6) 0 rfl rfl dX9_silenced_5 rfl ?_
    refine z_getR (t := 30) (pc' := 9) g_X9_17 (by decide) rfl rfl dX9_silenced_6 rfl ?_
    refine z_invV (as := []) (st := [zI (i12 : Int)]) (C := m_X6_names) (fs := [33, 34]) (pc' := 12) dX9_silenced_9 rfl t_4_223 k_X6_names rfl (by decide) rfl rfl rfl rfl (Nat.le_of_ble_eq_true rfl) ?_
    refine c_Y_names ?_
    show z_Wp m_X9_silenced _ 12 [(0, zR 70), (2, zI (A_P_silenced_4 w a0 i12)), (3, zI (i12 : Int))] [zI (w 32 2), zI (i12 : Int)] w _
    obtain ⟨r13, h⟩ := h
    obtain ⟨r14, h⟩ := h
    refine z_icmp_ge 66 dX9_silenced_12 (by decide) (pc' := 15) rfl r13 r14 (fun c => absurd c (by omega)) (fun _ => ?_)
    refine z_iconst (pc' := 16) dX9_silenced_15 rfl ?_
    refine z_istore (pc' := 18) (ls' := [(0, zR 70), (2, zI (A_P_silenced_4 w a0 i12)), (3, zI (i12 : Int)), (4, zI 0)]) (by decide) rfl rfl dX9_silenced_16 rfl ?_
    refine z_upto ((w 32 2).toNat) (fun i19 => z_Wp m_X9_silenced (d + 2) 18 [(0, zR 70), (2, zI (A_P_silenced_18 w i12 (A_P_silenced_4 w a0 i12) i19)), (3, zI (i12 : Int)), (4, zI (i19 : Int))] [] w Q) ?_ ?_
    · skip
      have h := h.2
      refine z_iload (pc' := 20) 3 rfl dX9_silenced_18 rfl ?_
      refine z_aload_n (pc' := 21) 0 rfl rfl dX9_silenced_20 rfl ?_
      refine z_getR (t := 30) (pc' := 24) g_X9_17 (by decide) rfl rfl dX9_silenced_21 rfl ?_
      refine z_invV (as := []) (st := [zI (((w 32 2).toNat : Nat) : Int)]) (C := m_X6_names) (fs := [33, 34]) (pc' := 27) dX9_silenced_24 rfl t_4_223 k_X6_names rfl (by decide) rfl rfl rfl rfl (Nat.le_of_ble_eq_true rfl) ?_
      refine c_Y_names ?_
      show z_Wp m_X9_silenced _ 27 [(0, zR 70), (2, zI (A_P_silenced_18 w i12 (A_P_silenced_4 w a0 i12) (w 32 2).toNat)), (3, zI (i12 : Int)), (4, zI (((w 32 2).toNat : Nat) : Int))] [zI (w 32 2), zI (((w 32 2).toNat : Nat) : Int)] w _
      have r23 := h
      refine z_icmp_ge 60 dX9_silenced_27 (by decide) (pc' := 30) rfl r23 r14 (fun _ => ?_) (fun c => absurd c (by omega))
      refine z_iinc (pc' := 63) (ls' := [(0, zR 70), (2, zI (A_P_silenced_18 w i12 (A_P_silenced_4 w a0 i12) (w 32 2).toNat)), (3, zI ((i12 : Int) + 1)), (4, zI (((w 32 2).toNat : Nat) : Int))]) 2 rfl (by decide) rfl rfl dX9_silenced_60 rfl ?_
      refine z_goto 4 dX9_silenced_63 (by decide) ?_
      exact z_Wp.sub (ls' := [(0, zR 70), (2, zI (A_P_silenced_18 w i12 (A_P_silenced_4 w a0 i12) (w 32 2).toNat)), (3, zI ((i12 : Int) + 1))]) (z_lcast (by rw [z_c0 i12]) ih) (z_sub_of [0, 1, 2] rfl)
    · intro i19 hi ih
      have h := h.1 i19 hi
      have ih : z_Wp m_X9_silenced (d + 2) 18 [(0, zR 70), (2, zI (if zz_and (zz_shr (A_P_silenced_18 w i12 (A_P_silenced_4 w a0 i12) i19) (F_Y_value w 2 (i19 : Int) 1)) 1 = 1 then zz_or (A_P_silenced_18 w i12 (A_P_silenced_4 w a0 i12) i19) (zz_shl 1 (i19 : Int)) else A_P_silenced_18 w i12 (A_P_silenced_4 w a0 i12) i19)), (3, zI (i12 : Int)), (4, zI ((i19 + 1 : Nat) : Int))] [] w Q := ih
      refine z_iload (pc' := 20) 3 rfl dX9_silenced_18 rfl ?_
      refine z_aload_n (pc' := 21) 0 rfl rfl dX9_silenced_20 rfl ?_
      refine z_getR (t := 30) (pc' := 24) g_X9_17 (by decide) rfl rfl dX9_silenced_21 rfl ?_
      refine z_invV (as := []) (st := [zI (i19 : Int)]) (C := m_X6_names) (fs := [33, 34]) (pc' := 27) dX9_silenced_24 rfl t_4_223 k_X6_names rfl (by decide) rfl rfl rfl rfl (Nat.le_of_ble_eq_true rfl) ?_
      refine c_Y_names ?_
      show z_Wp m_X9_silenced _ 27 [(0, zR 70), (2, zI (A_P_silenced_18 w i12 (A_P_silenced_4 w a0 i12) i19)), (3, zI (i12 : Int)), (4, zI (i19 : Int))] [zI (w 32 2), zI (i19 : Int)] w _
      obtain ⟨r20, h⟩ := h
      refine z_icmp_ge 60 dX9_silenced_27 (by decide) (pc' := 30) rfl r20 r14 (fun c => absurd c (by omega)) (fun _ => ?_)
      refine z_iload_n (pc' := 31) 1 rfl rfl dX9_silenced_30 rfl ?_
      refine z_aload_n (pc' := 32) 0 rfl rfl dX9_silenced_31 rfl ?_
      refine z_getR (t := 30) (pc' := 35) g_X9_17 (by decide) rfl rfl dX9_silenced_32 rfl ?_
      refine z_iload (pc' := 37) 3 rfl dX9_silenced_35 rfl ?_
      refine z_invV (as := [zI (i19 : Int)]) (st := [zI (A_P_silenced_18 w i12 (A_P_silenced_4 w a0 i12) i19)]) (C := m_X6_knows) (fs := [33, 34]) (pc' := 40) dX9_silenced_37 rfl t_5_2 k_X6_knows rfl (by decide) rfl rfl rfl rfl (Nat.le_of_ble_eq_true rfl) ?_
      obtain ⟨r21, h⟩ := h
      refine c_Y_knows r21 ?_
      show z_Wp m_X9_silenced _ 40 [(0, zR 70), (2, zI (A_P_silenced_18 w i12 (A_P_silenced_4 w a0 i12) i19)), (3, zI (i12 : Int)), (4, zI (i19 : Int))] [zI (F_Y_value w 2 (i19 : Int) 1), zI (A_P_silenced_18 w i12 (A_P_silenced_4 w a0 i12) i19)] w _
      refine z_ishr (pc' := 41) dX9_silenced_40 rfl ?_
      refine z_iconst (pc' := 42) dX9_silenced_41 rfl ?_
      refine z_iand (pc' := 43) dX9_silenced_42 rfl ?_
      refine z_iconst (pc' := 44) dX9_silenced_43 rfl ?_
      have r22 := h
      refine z_icmp_ne 54 dX9_silenced_44 (by decide) (pc' := 47) rfl r22 (by decide) (fun c78 => ?_) (fun c78 => ?_)
      · skip
        rw [if_neg c78] at ih
        refine z_iinc (pc' := 57) (ls' := [(0, zR 70), (2, zI (A_P_silenced_18 w i12 (A_P_silenced_4 w a0 i12) i19)), (3, zI (i12 : Int)), (4, zI ((i19 : Int) + 1))]) 3 rfl (by decide) rfl rfl dX9_silenced_54 rfl ?_
        refine z_goto 18 dX9_silenced_57 (by decide) ?_
        exact ih
      · skip
        rw [if_pos c78] at ih
        refine z_iload_n (pc' := 48) 1 rfl rfl dX9_silenced_47 rfl ?_
        refine z_iconst (pc' := 49) dX9_silenced_48 rfl ?_
        refine z_iload (pc' := 51) 3 rfl dX9_silenced_49 rfl ?_
        refine z_ishl (pc' := 52) dX9_silenced_51 rfl ?_
        refine z_ior (pc' := 53) dX9_silenced_52 rfl ?_
        refine z_istore_n (pc' := 54) (ls' := [(0, zR 70), (2, zI (zz_or (A_P_silenced_18 w i12 (A_P_silenced_4 w a0 i12) i19) (zz_shl 1 (i19 : Int)))), (3, zI (i12 : Int)), (4, zI (i19 : Int))]) rfl (by decide) rfl rfl dX9_silenced_53 rfl ?_
        refine z_iinc (pc' := 57) (ls' := [(0, zR 70), (2, zI (zz_or (A_P_silenced_18 w i12 (A_P_silenced_4 w a0 i12) i19) (zz_shl 1 (i19 : Int)))), (3, zI (i12 : Int)), (4, zI ((i19 : Int) + 1))]) 3 rfl (by decide) rfl rfl dX9_silenced_54 rfl ?_
        refine z_goto 18 dX9_silenced_57 (by decide) ?_
        exact ih
def P_T_bytesIn (w : z_Wd) (a0 : Int) : Prop := (-2147483648 ≤ zz_and (zz_ushr a0 24) 255 ∧ zz_and (zz_ushr a0 24) 255 < 2147483648) ∧ ((zz_and (zz_ushr a0 24) 255 = 0 → (-2147483648 ≤ zz_and (zz_ushr a0 16) 255 ∧ zz_and (zz_ushr a0 16) 255 < 2147483648) ∧ ((zz_and (zz_ushr a0 16) 255 = 0 → (-2147483648 ≤ zz_and (zz_ushr a0 8) 255 ∧ zz_and (zz_ushr a0 8) 255 < 2147483648) ∧ ((zz_and (zz_ushr a0 8) 255 = 0 → -2147483648 ≤ zz_and (zz_ushr a0 0) 255 ∧ zz_and (zz_ushr a0 0) 255 < 2147483648) ∧ (¬ (zz_and (zz_ushr a0 8) 255 = 0) → -2147483648 ≤ zz_and (zz_ushr a0 0) 255 ∧ zz_and (zz_ushr a0 0) 255 < 2147483648))) ∧ (¬ (zz_and (zz_ushr a0 16) 255 = 0) → (-2147483648 ≤ zz_and (zz_ushr a0 8) 255 ∧ zz_and (zz_ushr a0 8) 255 < 2147483648) ∧ ((zz_and (zz_ushr a0 8) 255 = 0 → -2147483648 ≤ zz_and (zz_ushr a0 0) 255 ∧ zz_and (zz_ushr a0 0) 255 < 2147483648) ∧ (¬ (zz_and (zz_ushr a0 8) 255 = 0) → -2147483648 ≤ zz_and (zz_ushr a0 0) 255 ∧ zz_and (zz_ushr a0 0) 255 < 2147483648))))) ∧ (¬ (zz_and (zz_ushr a0 24) 255 = 0) → (-2147483648 ≤ zz_and (zz_ushr a0 16) 255 ∧ zz_and (zz_ushr a0 16) 255 < 2147483648) ∧ ((zz_and (zz_ushr a0 16) 255 = 0 → (-2147483648 ≤ zz_and (zz_ushr a0 8) 255 ∧ zz_and (zz_ushr a0 8) 255 < 2147483648) ∧ ((zz_and (zz_ushr a0 8) 255 = 0 → -2147483648 ≤ zz_and (zz_ushr a0 0) 255 ∧ zz_and (zz_ushr a0 0) 255 < 2147483648) ∧ (¬ (zz_and (zz_ushr a0 8) 255 = 0) → -2147483648 ≤ zz_and (zz_ushr a0 0) 255 ∧ zz_and (zz_ushr a0 0) 255 < 2147483648))) ∧ (¬ (zz_and (zz_ushr a0 16) 255 = 0) → (-2147483648 ≤ zz_and (zz_ushr a0 8) 255 ∧ zz_and (zz_ushr a0 8) 255 < 2147483648) ∧ ((zz_and (zz_ushr a0 8) 255 = 0 → -2147483648 ≤ zz_and (zz_ushr a0 0) 255 ∧ zz_and (zz_ushr a0 0) 255 < 2147483648) ∧ (¬ (zz_and (zz_ushr a0 8) 255 = 0) → -2147483648 ≤ zz_and (zz_ushr a0 0) 255 ∧ zz_and (zz_ushr a0 0) 255 < 2147483648))))))
def F_T_bytesIn (w : z_Wd) (a0 : Int) : Int := if zz_and (zz_ushr a0 24) 255 = 0 then if zz_and (zz_ushr a0 16) 255 = 0 then if zz_and (zz_ushr a0 8) 255 = 0 then if zz_and (zz_ushr a0 0) 255 = 0 then 0 else 1 else if zz_and (zz_ushr a0 0) 255 = 0 then 1 else 2 else if zz_and (zz_ushr a0 8) 255 = 0 then if zz_and (zz_ushr a0 0) 255 = 0 then 1 else 2 else if zz_and (zz_ushr a0 0) 255 = 0 then 2 else 3 else if zz_and (zz_ushr a0 16) 255 = 0 then if zz_and (zz_ushr a0 8) 255 = 0 then if zz_and (zz_ushr a0 0) 255 = 0 then 1 else 2 else if zz_and (zz_ushr a0 0) 255 = 0 then 2 else 3 else if zz_and (zz_ushr a0 8) 255 = 0 then if zz_and (zz_ushr a0 0) 255 = 0 then 2 else 3 else if zz_and (zz_ushr a0 0) 255 = 0 then 3 else 4
set_option maxRecDepth 4000 in
theorem c_T_bytesIn {d : Nat} {w : z_Wd} {a0 : Int} {Q : Option z_V → z_Wd → Prop} (h : P_T_bytesIn w a0) (k : Q (some (zI (F_T_bytesIn w a0))) w) : z_Wc d m_X10_bytesIn [zI a0] w Q := by
  unfold P_T_bytesIn at h
  unfold F_T_bytesIn at k
  refine z_enter rfl (Nat.le_of_ble_eq_true rfl) ?_
  show z_Wp m_X10_bytesIn _ 0 [(0, zI a0)] [] w _
  refine z_iconst (pc' := 1) dX10_bytesIn_0 rfl ?_
  refine z_istore_n (pc' := 2) (ls' := [(0, zI a0), (1, zI 0)]) rfl (by decide) rfl rfl dX10_bytesIn_1 rfl ?_
  refine z_bipush (pc' := 4) (by decide) dX10_bytesIn_2 rfl ?_
  refine z_istore_n (pc' := 5) (ls' := [(0, zI a0), (1, zI 0), (2, zI 24)]) rfl (by decide) rfl rfl dX10_bytesIn_4 rfl ?_
  refine z_iload_n (pc' := 6) 2 rfl rfl dX10_bytesIn_5 rfl ?_
  refine z_if_lt 28 dX10_bytesIn_6 (by decide) (pc' := 9) rfl (by decide) (fun c => absurd c (by decide)) (fun _ => ?_)
  refine z_iload_n (pc' := 10) 0 rfl rfl dX10_bytesIn_9 rfl ?_
  refine z_iload_n (pc' := 11) 2 rfl rfl dX10_bytesIn_10 rfl ?_
  refine z_iushr (pc' := 12) dX10_bytesIn_11 rfl ?_
  refine z_sipush (pc' := 15) (by decide) dX10_bytesIn_12 rfl ?_
  refine z_iand (pc' := 16) dX10_bytesIn_15 rfl ?_
  obtain ⟨r1, h⟩ := h
  refine z_if_eq 22 dX10_bytesIn_16 (by decide) (pc' := 19) rfl r1 (fun c => ?_) (fun c => ?_)
  · have h := h.1 c
    rw [if_pos c] at k
    refine z_iinc (pc' := 25) (ls' := [(0, zI a0), (1, zI 0), (2, zI 16)]) 2 rfl (by decide) rfl rfl dX10_bytesIn_22 rfl ?_
    refine z_goto 5 dX10_bytesIn_25 (by decide) ?_
    refine z_iload_n (pc' := 6) 2 rfl rfl dX10_bytesIn_5 rfl ?_
    refine z_if_lt 28 dX10_bytesIn_6 (by decide) (pc' := 9) rfl (by decide) (fun c => absurd c (by decide)) (fun _ => ?_)
    refine z_iload_n (pc' := 10) 0 rfl rfl dX10_bytesIn_9 rfl ?_
    refine z_iload_n (pc' := 11) 2 rfl rfl dX10_bytesIn_10 rfl ?_
    refine z_iushr (pc' := 12) dX10_bytesIn_11 rfl ?_
    refine z_sipush (pc' := 15) (by decide) dX10_bytesIn_12 rfl ?_
    refine z_iand (pc' := 16) dX10_bytesIn_15 rfl ?_
    obtain ⟨r2, h⟩ := h
    refine z_if_eq 22 dX10_bytesIn_16 (by decide) (pc' := 19) rfl r2 (fun c => ?_) (fun c => ?_)
    · have h := h.1 c
      rw [if_pos c] at k
      refine z_iinc (pc' := 25) (ls' := [(0, zI a0), (1, zI 0), (2, zI 8)]) 2 rfl (by decide) rfl rfl dX10_bytesIn_22 rfl ?_
      refine z_goto 5 dX10_bytesIn_25 (by decide) ?_
      refine z_iload_n (pc' := 6) 2 rfl rfl dX10_bytesIn_5 rfl ?_
      refine z_if_lt 28 dX10_bytesIn_6 (by decide) (pc' := 9) rfl (by decide) (fun c => absurd c (by decide)) (fun _ => ?_)
      refine z_iload_n (pc' := 10) 0 rfl rfl dX10_bytesIn_9 rfl ?_
      refine z_iload_n (pc' := 11) 2 rfl rfl dX10_bytesIn_10 rfl ?_
      refine z_iushr (pc' := 12) dX10_bytesIn_11 rfl ?_
      refine z_sipush (pc' := 15) (by decide) dX10_bytesIn_12 rfl ?_
      refine z_iand (pc' := 16) dX10_bytesIn_15 rfl ?_
      obtain ⟨r3, h⟩ := h
      refine z_if_eq 22 dX10_bytesIn_16 (by decide) (pc' := 19) rfl r3 (fun c => ?_) (fun c => ?_)
      · have h := h.1 c
        rw [if_pos c] at k
        refine z_iinc (pc' := 25) (ls' := [(0, zI a0), (1, zI 0), (2, zI 0)]) 2 rfl (by decide) rfl rfl dX10_bytesIn_22 rfl ?_
        refine z_goto 5 dX10_bytesIn_25 (by decide) ?_
        refine z_iload_n (pc' := 6) 2 rfl rfl dX10_bytesIn_5 rfl ?_
        refine z_if_lt 28 dX10_bytesIn_6 (by decide) (pc' := 9) rfl (by decide) (fun c => absurd c (by decide)) (fun _ => ?_)
        refine z_iload_n (pc' := 10) 0 rfl rfl dX10_bytesIn_9 rfl ?_
        refine z_iload_n (pc' := 11) 2 rfl rfl dX10_bytesIn_10 rfl ?_
        refine z_iushr (pc' := 12) dX10_bytesIn_11 rfl ?_
        refine z_sipush (pc' := 15) (by decide) dX10_bytesIn_12 rfl ?_
        refine z_iand (pc' := 16) dX10_bytesIn_15 rfl ?_
        have r4 := h
        refine z_if_eq 22 dX10_bytesIn_16 (by decide) (pc' := 19) rfl r4 (fun c => ?_) (fun c => ?_)
        · skip
          rw [if_pos c] at k
          refine z_iinc (pc' := 25) (ls' := [(0, zI a0), (1, zI 0), (2, zI (-8))]) 2 rfl (by decide) rfl rfl dX10_bytesIn_22 rfl ?_
          refine z_goto 5 dX10_bytesIn_25 (by decide) ?_
          refine z_iload_n (pc' := 6) 2 rfl rfl dX10_bytesIn_5 rfl ?_
          refine z_if_lt 28 dX10_bytesIn_6 (by decide) (pc' := 9) rfl (by decide) (fun _ => ?_) (fun c => absurd c (by decide))
          refine z_iload_n (pc' := 29) 1 rfl rfl dX10_bytesIn_28 rfl ?_
          refine z_iret rfl dX10_bytesIn_29 ?_
          exact k
        · skip
          rw [if_neg c] at k
          refine z_iinc (pc' := 22) (ls' := [(0, zI a0), (1, zI 1), (2, zI 0)]) 1 rfl (by decide) rfl rfl dX10_bytesIn_19 rfl ?_
          refine z_iinc (pc' := 25) (ls' := [(0, zI a0), (1, zI 1), (2, zI (-8))]) 2 rfl (by decide) rfl rfl dX10_bytesIn_22 rfl ?_
          refine z_goto 5 dX10_bytesIn_25 (by decide) ?_
          refine z_iload_n (pc' := 6) 2 rfl rfl dX10_bytesIn_5 rfl ?_
          refine z_if_lt 28 dX10_bytesIn_6 (by decide) (pc' := 9) rfl (by decide) (fun _ => ?_) (fun c => absurd c (by decide))
          refine z_iload_n (pc' := 29) 1 rfl rfl dX10_bytesIn_28 rfl ?_
          refine z_iret rfl dX10_bytesIn_29 ?_
          exact k
      · have h := h.2 c
        rw [if_neg c] at k
        refine z_iinc (pc' := 22) (ls' := [(0, zI a0), (1, zI 1), (2, zI 8)]) 1 rfl (by decide) rfl rfl dX10_bytesIn_19 rfl ?_
        refine z_iinc (pc' := 25) (ls' := [(0, zI a0), (1, zI 1), (2, zI 0)]) 2 rfl (by decide) rfl rfl dX10_bytesIn_22 rfl ?_
        refine z_goto 5 dX10_bytesIn_25 (by decide) ?_
        refine z_iload_n (pc' := 6) 2 rfl rfl dX10_bytesIn_5 rfl ?_
        refine z_if_lt 28 dX10_bytesIn_6 (by decide) (pc' := 9) rfl (by decide) (fun c => absurd c (by decide)) (fun _ => ?_)
        refine z_iload_n (pc' := 10) 0 rfl rfl dX10_bytesIn_9 rfl ?_
        refine z_iload_n (pc' := 11) 2 rfl rfl dX10_bytesIn_10 rfl ?_
        refine z_iushr (pc' := 12) dX10_bytesIn_11 rfl ?_
        refine z_sipush (pc' := 15) (by decide) dX10_bytesIn_12 rfl ?_
        refine z_iand (pc' := 16) dX10_bytesIn_15 rfl ?_
        have r5 := h
        refine z_if_eq 22 dX10_bytesIn_16 (by decide) (pc' := 19) rfl r5 (fun c => ?_) (fun c => ?_)
        · skip
          rw [if_pos c] at k
          refine z_iinc (pc' := 25) (ls' := [(0, zI a0), (1, zI 1), (2, zI (-8))]) 2 rfl (by decide) rfl rfl dX10_bytesIn_22 rfl ?_
          refine z_goto 5 dX10_bytesIn_25 (by decide) ?_
          refine z_iload_n (pc' := 6) 2 rfl rfl dX10_bytesIn_5 rfl ?_
          refine z_if_lt 28 dX10_bytesIn_6 (by decide) (pc' := 9) rfl (by decide) (fun _ => ?_) (fun c => absurd c (by decide))
          refine z_iload_n (pc' := 29) 1 rfl rfl dX10_bytesIn_28 rfl ?_
          refine z_iret rfl dX10_bytesIn_29 ?_
          exact k
        · skip
          rw [if_neg c] at k
          refine z_iinc (pc' := 22) (ls' := [(0, zI a0), (1, zI 2), (2, zI 0)]) 1 rfl (by decide) rfl rfl dX10_bytesIn_19 rfl ?_
          refine z_iinc (pc' := 25) (ls' := [(0, zI a0), (1, zI 2), (2, zI (-8))]) 2 rfl (by decide) rfl rfl dX10_bytesIn_22 rfl ?_
          refine z_goto 5 dX10_bytesIn_25 (by decide) ?_
          refine z_iload_n (pc' := 6) 2 rfl rfl dX10_bytesIn_5 rfl ?_
          refine z_if_lt 28 dX10_bytesIn_6 (by decide) (pc' := 9) rfl (by decide) (fun _ => ?_) (fun c => absurd c (by decide))
          refine z_iload_n (pc' := 29) 1 rfl rfl dX10_bytesIn_28 rfl ?_
          refine z_iret rfl dX10_bytesIn_29 ?_
          exact k
    · have h := h.2 c
      rw [if_neg c] at k
      refine z_iinc (pc' := 22) (ls' := [(0, zI a0), (1, zI 1), (2, zI 16)]) 1 rfl (by decide) rfl rfl dX10_bytesIn_19 rfl ?_
      refine z_iinc (pc' := 25) (ls' := [(0, zI a0), (1, zI 1), (2, zI 8)]) 2 rfl (by decide) rfl rfl dX10_bytesIn_22 rfl ?_
      refine z_goto 5 dX10_bytesIn_25 (by decide) ?_
      refine z_iload_n (pc' := 6) 2 rfl rfl dX10_bytesIn_5 rfl ?_
      refine z_if_lt 28 dX10_bytesIn_6 (by decide) (pc' := 9) rfl (by decide) (fun c => absurd c (by decide)) (fun _ => ?_)
      refine z_iload_n (pc' := 10) 0 rfl rfl dX10_bytesIn_9 rfl ?_
      refine z_iload_n (pc' := 11) 2 rfl rfl dX10_bytesIn_10 rfl ?_
      refine z_iushr (pc' := 12) dX10_bytesIn_11 rfl ?_
      refine z_sipush (pc' := 15) (by decide) dX10_bytesIn_12 rfl ?_
      refine z_iand (pc' := 16) dX10_bytesIn_15 rfl ?_
      obtain ⟨r6, h⟩ := h
      refine z_if_eq 22 dX10_bytesIn_16 (by decide) (pc' := 19) rfl r6 (fun c => ?_) (fun c => ?_)
      · have h := h.1 c
        rw [if_pos c] at k
        refine z_iinc (pc' := 25) (ls' := [(0, zI a0), (1, zI 1), (2, zI 0)]) 2 rfl (by decide) rfl rfl dX10_bytesIn_22 rfl ?_
        refine z_goto 5 dX10_bytesIn_25 (by decide) ?_
        refine z_iload_n (pc' := 6) 2 rfl rfl dX10_bytesIn_5 rfl ?_
        refine z_if_lt 28 dX10_bytesIn_6 (by decide) (pc' := 9) rfl (by decide) (fun c => absurd c (by decide)) (fun _ => ?_)
        refine z_iload_n (pc' := 10) 0 rfl rfl dX10_bytesIn_9 rfl ?_
        refine z_iload_n (pc' := 11) 2 rfl rfl dX10_bytesIn_10 rfl ?_
        refine z_iushr (pc' := 12) dX10_bytesIn_11 rfl ?_
        refine z_sipush (pc' := 15) (by decide) dX10_bytesIn_12 rfl ?_
        refine z_iand (pc' := 16) dX10_bytesIn_15 rfl ?_
        have r7 := h
        refine z_if_eq 22 dX10_bytesIn_16 (by decide) (pc' := 19) rfl r7 (fun c => ?_) (fun c => ?_)
        · skip
          rw [if_pos c] at k
          refine z_iinc (pc' := 25) (ls' := [(0, zI a0), (1, zI 1), (2, zI (-8))]) 2 rfl (by decide) rfl rfl dX10_bytesIn_22 rfl ?_
          refine z_goto 5 dX10_bytesIn_25 (by decide) ?_
          refine z_iload_n (pc' := 6) 2 rfl rfl dX10_bytesIn_5 rfl ?_
          refine z_if_lt 28 dX10_bytesIn_6 (by decide) (pc' := 9) rfl (by decide) (fun _ => ?_) (fun c => absurd c (by decide))
          refine z_iload_n (pc' := 29) 1 rfl rfl dX10_bytesIn_28 rfl ?_
          refine z_iret rfl dX10_bytesIn_29 ?_
          exact k
        · skip
          rw [if_neg c] at k
          refine z_iinc (pc' := 22) (ls' := [(0, zI a0), (1, zI 2), (2, zI 0)]) 1 rfl (by decide) rfl rfl dX10_bytesIn_19 rfl ?_
          refine z_iinc (pc' := 25) (ls' := [(0, zI a0), (1, zI 2), (2, zI (-8))]) 2 rfl (by decide) rfl rfl dX10_bytesIn_22 rfl ?_
          refine z_goto 5 dX10_bytesIn_25 (by decide) ?_
          refine z_iload_n (pc' := 6) 2 rfl rfl dX10_bytesIn_5 rfl ?_
          refine z_if_lt 28 dX10_bytesIn_6 (by decide) (pc' := 9) rfl (by decide) (fun _ => ?_) (fun c => absurd c (by decide))
          refine z_iload_n (pc' := 29) 1 rfl rfl dX10_bytesIn_28 rfl ?_
          refine z_iret rfl dX10_bytesIn_29 ?_
          exact k
      · have h := h.2 c
        rw [if_neg c] at k
        refine z_iinc (pc' := 22) (ls' := [(0, zI a0), (1, zI 2), (2, zI 8)]) 1 rfl (by decide) rfl rfl dX10_bytesIn_19 rfl ?_
        refine z_iinc (pc' := 25) (ls' := [(0, zI a0), (1, zI 2), (2, zI 0)]) 2 rfl (by decide) rfl rfl dX10_bytesIn_22 rfl ?_
        refine z_goto 5 dX10_bytesIn_25 (by decide) ?_
        refine z_iload_n (pc' := 6) 2 rfl rfl dX10_bytesIn_5 rfl ?_
        refine z_if_lt 28 dX10_bytesIn_6 (by decide) (pc' := 9) rfl (by decide) (fun c => absurd c (by decide)) (fun _ => ?_)
        refine z_iload_n (pc' := 10) 0 rfl rfl dX10_bytesIn_9 rfl ?_
        refine z_iload_n (pc' := 11) 2 rfl rfl dX10_bytesIn_10 rfl ?_
        refine z_iushr (pc' := 12) dX10_bytesIn_11 rfl ?_
        refine z_sipush (pc' := 15) (by decide) dX10_bytesIn_12 rfl ?_
        refine z_iand (pc' := 16) dX10_bytesIn_15 rfl ?_
        have r8 := h
        refine z_if_eq 22 dX10_bytesIn_16 (by decide) (pc' := 19) rfl r8 (fun c => ?_) (fun c => ?_)
        · skip
          rw [if_pos c] at k
          refine z_iinc (pc' := 25) (ls' := [(0, zI a0), (1, zI 2), (2, zI (-8))]) 2 rfl (by decide) rfl rfl dX10_bytesIn_22 rfl ?_
          refine z_goto 5 dX10_bytesIn_25 (by decide) ?_
          refine z_iload_n (pc' := 6) 2 rfl rfl dX10_bytesIn_5 rfl ?_
          refine z_if_lt 28 dX10_bytesIn_6 (by decide) (pc' := 9) rfl (by decide) (fun _ => ?_) (fun c => absurd c (by decide))
          refine z_iload_n (pc' := 29) 1 rfl rfl dX10_bytesIn_28 rfl ?_
          refine z_iret rfl dX10_bytesIn_29 ?_
          exact k
        · skip
          rw [if_neg c] at k
          refine z_iinc (pc' := 22) (ls' := [(0, zI a0), (1, zI 3), (2, zI 0)]) 1 rfl (by decide) rfl rfl dX10_bytesIn_19 rfl ?_
          refine z_iinc (pc' := 25) (ls' := [(0, zI a0), (1, zI 3), (2, zI (-8))]) 2 rfl (by decide) rfl rfl dX10_bytesIn_22 rfl ?_
          refine z_goto 5 dX10_bytesIn_25 (by decide) ?_
          refine z_iload_n (pc' := 6) 2 rfl rfl dX10_bytesIn_5 rfl ?_
          refine z_if_lt 28 dX10_bytesIn_6 (by decide) (pc' := 9) rfl (by decide) (fun _ => ?_) (fun c => absurd c (by decide))
          refine z_iload_n (pc' := 29) 1 rfl rfl dX10_bytesIn_28 rfl ?_
          refine z_iret rfl dX10_bytesIn_29 ?_
          exact k
  · have h := h.2 c
    rw [if_neg c] at k
    refine z_iinc (pc' := 22) (ls' := [(0, zI a0), (1, zI 1), (2, zI 24)]) 1 rfl (by decide) rfl rfl dX10_bytesIn_19 rfl ?_
    refine z_iinc (pc' := 25) (ls' := [(0, zI a0), (1, zI 1), (2, zI 16)]) 2 rfl (by decide) rfl rfl dX10_bytesIn_22 rfl ?_
    refine z_goto 5 dX10_bytesIn_25 (by decide) ?_
    refine z_iload_n (pc' := 6) 2 rfl rfl dX10_bytesIn_5 rfl ?_
    refine z_if_lt 28 dX10_bytesIn_6 (by decide) (pc' := 9) rfl (by decide) (fun c => absurd c (by decide)) (fun _ => ?_)
    refine z_iload_n (pc' := 10) 0 rfl rfl dX10_bytesIn_9 rfl ?_
    refine z_iload_n (pc' := 11) 2 rfl rfl dX10_bytesIn_10 rfl ?_
    refine z_iushr (pc' := 12) dX10_bytesIn_11 rfl ?_
    refine z_sipush (pc' := 15) (by decide) dX10_bytesIn_12 rfl ?_
    refine z_iand (pc' := 16) dX10_bytesIn_15 rfl ?_
    obtain ⟨r9, h⟩ := h
    refine z_if_eq 22 dX10_bytesIn_16 (by decide) (pc' := 19) rfl r9 (fun c => ?_) (fun c => ?_)
    · have h := h.1 c
      rw [if_pos c] at k
      refine z_iinc (pc' := 25) (ls' := [(0, zI a0), (1, zI 1), (2, zI 8)]) 2 rfl (by decide) rfl rfl dX10_bytesIn_22 rfl ?_
      refine z_goto 5 dX10_bytesIn_25 (by decide) ?_
      refine z_iload_n (pc' := 6) 2 rfl rfl dX10_bytesIn_5 rfl ?_
      refine z_if_lt 28 dX10_bytesIn_6 (by decide) (pc' := 9) rfl (by decide) (fun c => absurd c (by decide)) (fun _ => ?_)
      refine z_iload_n (pc' := 10) 0 rfl rfl dX10_bytesIn_9 rfl ?_
      refine z_iload_n (pc' := 11) 2 rfl rfl dX10_bytesIn_10 rfl ?_
      refine z_iushr (pc' := 12) dX10_bytesIn_11 rfl ?_
      refine z_sipush (pc' := 15) (by decide) dX10_bytesIn_12 rfl ?_
      refine z_iand (pc' := 16) dX10_bytesIn_15 rfl ?_
      obtain ⟨r10, h⟩ := h
      refine z_if_eq 22 dX10_bytesIn_16 (by decide) (pc' := 19) rfl r10 (fun c => ?_) (fun c => ?_)
      · have h := h.1 c
        rw [if_pos c] at k
        refine z_iinc (pc' := 25) (ls' := [(0, zI a0), (1, zI 1), (2, zI 0)]) 2 rfl (by decide) rfl rfl dX10_bytesIn_22 rfl ?_
        refine z_goto 5 dX10_bytesIn_25 (by decide) ?_
        refine z_iload_n (pc' := 6) 2 rfl rfl dX10_bytesIn_5 rfl ?_
        refine z_if_lt 28 dX10_bytesIn_6 (by decide) (pc' := 9) rfl (by decide) (fun c => absurd c (by decide)) (fun _ => ?_)
        refine z_iload_n (pc' := 10) 0 rfl rfl dX10_bytesIn_9 rfl ?_
        refine z_iload_n (pc' := 11) 2 rfl rfl dX10_bytesIn_10 rfl ?_
        refine z_iushr (pc' := 12) dX10_bytesIn_11 rfl ?_
        refine z_sipush (pc' := 15) (by decide) dX10_bytesIn_12 rfl ?_
        refine z_iand (pc' := 16) dX10_bytesIn_15 rfl ?_
        have r11 := h
        refine z_if_eq 22 dX10_bytesIn_16 (by decide) (pc' := 19) rfl r11 (fun c => ?_) (fun c => ?_)
        · skip
          rw [if_pos c] at k
          refine z_iinc (pc' := 25) (ls' := [(0, zI a0), (1, zI 1), (2, zI (-8))]) 2 rfl (by decide) rfl rfl dX10_bytesIn_22 rfl ?_
          refine z_goto 5 dX10_bytesIn_25 (by decide) ?_
          refine z_iload_n (pc' := 6) 2 rfl rfl dX10_bytesIn_5 rfl ?_
          refine z_if_lt 28 dX10_bytesIn_6 (by decide) (pc' := 9) rfl (by decide) (fun _ => ?_) (fun c => absurd c (by decide))
          refine z_iload_n (pc' := 29) 1 rfl rfl dX10_bytesIn_28 rfl ?_
          refine z_iret rfl dX10_bytesIn_29 ?_
          exact k
        · skip
          rw [if_neg c] at k
          refine z_iinc (pc' := 22) (ls' := [(0, zI a0), (1, zI 2), (2, zI 0)]) 1 rfl (by decide) rfl rfl dX10_bytesIn_19 rfl ?_
          refine z_iinc (pc' := 25) (ls' := [(0, zI a0), (1, zI 2), (2, zI (-8))]) 2 rfl (by decide) rfl rfl dX10_bytesIn_22 rfl ?_
          refine z_goto 5 dX10_bytesIn_25 (by decide) ?_
          refine z_iload_n (pc' := 6) 2 rfl rfl dX10_bytesIn_5 rfl ?_
          refine z_if_lt 28 dX10_bytesIn_6 (by decide) (pc' := 9) rfl (by decide) (fun _ => ?_) (fun c => absurd c (by decide))
          refine z_iload_n (pc' := 29) 1 rfl rfl dX10_bytesIn_28 rfl ?_
          refine z_iret rfl dX10_bytesIn_29 ?_
          exact k
      · have h := h.2 c
        rw [if_neg c] at k
        refine z_iinc (pc' := 22) (ls' := [(0, zI a0), (1, zI 2), (2, zI 8)]) 1 rfl (by decide) rfl rfl dX10_bytesIn_19 rfl ?_
        refine z_iinc (pc' := 25) (ls' := [(0, zI a0), (1, zI 2), (2, zI 0)]) 2 rfl (by decide) rfl rfl dX10_bytesIn_22 rfl ?_
        refine z_goto 5 dX10_bytesIn_25 (by decide) ?_
        refine z_iload_n (pc' := 6) 2 rfl rfl dX10_bytesIn_5 rfl ?_
        refine z_if_lt 28 dX10_bytesIn_6 (by decide) (pc' := 9) rfl (by decide) (fun c => absurd c (by decide)) (fun _ => ?_)
        refine z_iload_n (pc' := 10) 0 rfl rfl dX10_bytesIn_9 rfl ?_
        refine z_iload_n (pc' := 11) 2 rfl rfl dX10_bytesIn_10 rfl ?_
        refine z_iushr (pc' := 12) dX10_bytesIn_11 rfl ?_
        refine z_sipush (pc' := 15) (by decide) dX10_bytesIn_12 rfl ?_
        refine z_iand (pc' := 16) dX10_bytesIn_15 rfl ?_
        have r12 := h
        refine z_if_eq 22 dX10_bytesIn_16 (by decide) (pc' := 19) rfl r12 (fun c => ?_) (fun c => ?_)
        · skip
          rw [if_pos c] at k
          refine z_iinc (pc' := 25) (ls' := [(0, zI a0), (1, zI 2), (2, zI (-8))]) 2 rfl (by decide) rfl rfl dX10_bytesIn_22 rfl ?_
          refine z_goto 5 dX10_bytesIn_25 (by decide) ?_
          refine z_iload_n (pc' := 6) 2 rfl rfl dX10_bytesIn_5 rfl ?_
          refine z_if_lt 28 dX10_bytesIn_6 (by decide) (pc' := 9) rfl (by decide) (fun _ => ?_) (fun c => absurd c (by decide))
          refine z_iload_n (pc' := 29) 1 rfl rfl dX10_bytesIn_28 rfl ?_
          refine z_iret rfl dX10_bytesIn_29 ?_
          exact k
        · skip
          rw [if_neg c] at k
          refine z_iinc (pc' := 22) (ls' := [(0, zI a0), (1, zI 3), (2, zI 0)]) 1 rfl (by decide) rfl rfl dX10_bytesIn_19 rfl ?_
          refine z_iinc (pc' := 25) (ls' := [(0, zI a0), (1, zI 3), (2, zI (-8))]) 2 rfl (by decide) rfl rfl dX10_bytesIn_22 rfl ?_
          refine z_goto 5 dX10_bytesIn_25 (by decide) ?_
          refine z_iload_n (pc' := 6) 2 rfl rfl dX10_bytesIn_5 rfl ?_
          refine z_if_lt 28 dX10_bytesIn_6 (by decide) (pc' := 9) rfl (by decide) (fun _ => ?_) (fun c => absurd c (by decide))
          refine z_iload_n (pc' := 29) 1 rfl rfl dX10_bytesIn_28 rfl ?_
          refine z_iret rfl dX10_bytesIn_29 ?_
          exact k
    · have h := h.2 c
      rw [if_neg c] at k
      refine z_iinc (pc' := 22) (ls' := [(0, zI a0), (1, zI 2), (2, zI 16)]) 1 rfl (by decide) rfl rfl dX10_bytesIn_19 rfl ?_
      refine z_iinc (pc' := 25) (ls' := [(0, zI a0), (1, zI 2), (2, zI 8)]) 2 rfl (by decide) rfl rfl dX10_bytesIn_22 rfl ?_
      refine z_goto 5 dX10_bytesIn_25 (by decide) ?_
      refine z_iload_n (pc' := 6) 2 rfl rfl dX10_bytesIn_5 rfl ?_
      refine z_if_lt 28 dX10_bytesIn_6 (by decide) (pc' := 9) rfl (by decide) (fun c => absurd c (by decide)) (fun _ => ?_)
      refine z_iload_n (pc' := 10) 0 rfl rfl dX10_bytesIn_9 rfl ?_
      refine z_iload_n (pc' := 11) 2 rfl rfl dX10_bytesIn_10 rfl ?_
      refine z_iushr (pc' := 12) dX10_bytesIn_11 rfl ?_
      refine z_sipush (pc' := 15) (by decide) dX10_bytesIn_12 rfl ?_
      refine z_iand (pc' := 16) dX10_bytesIn_15 rfl ?_
      obtain ⟨r13, h⟩ := h
      refine z_if_eq 22 dX10_bytesIn_16 (by decide) (pc' := 19) rfl r13 (fun c => ?_) (fun c => ?_)
      · have h := h.1 c
        rw [if_pos c] at k
        refine z_iinc (pc' := 25) (ls' := [(0, zI a0), (1, zI 2), (2, zI 0)]) 2 rfl (by decide) rfl rfl dX10_bytesIn_22 rfl ?_
        refine z_goto 5 dX10_bytesIn_25 (by decide) ?_
        refine z_iload_n (pc' := 6) 2 rfl rfl dX10_bytesIn_5 rfl ?_
        refine z_if_lt 28 dX10_bytesIn_6 (by decide) (pc' := 9) rfl (by decide) (fun c => absurd c (by decide)) (fun _ => ?_)
        refine z_iload_n (pc' := 10) 0 rfl rfl dX10_bytesIn_9 rfl ?_
        refine z_iload_n (pc' := 11) 2 rfl rfl dX10_bytesIn_10 rfl ?_
        refine z_iushr (pc' := 12) dX10_bytesIn_11 rfl ?_
        refine z_sipush (pc' := 15) (by decide) dX10_bytesIn_12 rfl ?_
        refine z_iand (pc' := 16) dX10_bytesIn_15 rfl ?_
        have r14 := h
        refine z_if_eq 22 dX10_bytesIn_16 (by decide) (pc' := 19) rfl r14 (fun c => ?_) (fun c => ?_)
        · skip
          rw [if_pos c] at k
          refine z_iinc (pc' := 25) (ls' := [(0, zI a0), (1, zI 2), (2, zI (-8))]) 2 rfl (by decide) rfl rfl dX10_bytesIn_22 rfl ?_
          refine z_goto 5 dX10_bytesIn_25 (by decide) ?_
          refine z_iload_n (pc' := 6) 2 rfl rfl dX10_bytesIn_5 rfl ?_
          refine z_if_lt 28 dX10_bytesIn_6 (by decide) (pc' := 9) rfl (by decide) (fun _ => ?_) (fun c => absurd c (by decide))
          refine z_iload_n (pc' := 29) 1 rfl rfl dX10_bytesIn_28 rfl ?_
          refine z_iret rfl dX10_bytesIn_29 ?_
          exact k
        · skip
          rw [if_neg c] at k
          refine z_iinc (pc' := 22) (ls' := [(0, zI a0), (1, zI 3), (2, zI 0)]) 1 rfl (by decide) rfl rfl dX10_bytesIn_19 rfl ?_
          refine z_iinc (pc' := 25) (ls' := [(0, zI a0), (1, zI 3), (2, zI (-8))]) 2 rfl (by decide) rfl rfl dX10_bytesIn_22 rfl ?_
          refine z_goto 5 dX10_bytesIn_25 (by decide) ?_
          refine z_iload_n (pc' := 6) 2 rfl rfl dX10_bytesIn_5 rfl ?_
          refine z_if_lt 28 dX10_bytesIn_6 (by decide) (pc' := 9) rfl (by decide) (fun _ => ?_) (fun c => absurd c (by decide))
          refine z_iload_n (pc' := 29) 1 rfl rfl dX10_bytesIn_28 rfl ?_
          refine z_iret rfl dX10_bytesIn_29 ?_
          exact k
      · have h := h.2 c
        rw [if_neg c] at k
        refine z_iinc (pc' := 22) (ls' := [(0, zI a0), (1, zI 3), (2, zI 8)]) 1 rfl (by decide) rfl rfl dX10_bytesIn_19 rfl ?_
        refine z_iinc (pc' := 25) (ls' := [(0, zI a0), (1, zI 3), (2, zI 0)]) 2 rfl (by decide) rfl rfl dX10_bytesIn_22 rfl ?_
        refine z_goto 5 dX10_bytesIn_25 (by decide) ?_
        refine z_iload_n (pc' := 6) 2 rfl rfl dX10_bytesIn_5 rfl ?_
        refine z_if_lt 28 dX10_bytesIn_6 (by decide) (pc' := 9) rfl (by decide) (fun c => absurd c (by decide)) (fun _ => ?_)
        refine z_iload_n (pc' := 10) 0 rfl rfl dX10_bytesIn_9 rfl ?_
        refine z_iload_n (pc' := 11) 2 rfl rfl dX10_bytesIn_10 rfl ?_
        refine z_iushr (pc' := 12) dX10_bytesIn_11 rfl ?_
        refine z_sipush (pc' := 15) (by decide) dX10_bytesIn_12 rfl ?_
        refine z_iand (pc' := 16) dX10_bytesIn_15 rfl ?_
        have r15 := h
        refine z_if_eq 22 dX10_bytesIn_16 (by decide) (pc' := 19) rfl r15 (fun c => ?_) (fun c => ?_)
        · skip
          rw [if_pos c] at k
          refine z_iinc (pc' := 25) (ls' := [(0, zI a0), (1, zI 3), (2, zI (-8))]) 2 rfl (by decide) rfl rfl dX10_bytesIn_22 rfl ?_
          refine z_goto 5 dX10_bytesIn_25 (by decide) ?_
          refine z_iload_n (pc' := 6) 2 rfl rfl dX10_bytesIn_5 rfl ?_
          refine z_if_lt 28 dX10_bytesIn_6 (by decide) (pc' := 9) rfl (by decide) (fun _ => ?_) (fun c => absurd c (by decide))
          refine z_iload_n (pc' := 29) 1 rfl rfl dX10_bytesIn_28 rfl ?_
          refine z_iret rfl dX10_bytesIn_29 ?_
          exact k
        · skip
          rw [if_neg c] at k
          refine z_iinc (pc' := 22) (ls' := [(0, zI a0), (1, zI 4), (2, zI 0)]) 1 rfl (by decide) rfl rfl dX10_bytesIn_19 rfl ?_
          refine z_iinc (pc' := 25) (ls' := [(0, zI a0), (1, zI 4), (2, zI (-8))]) 2 rfl (by decide) rfl rfl dX10_bytesIn_22 rfl ?_
          refine z_goto 5 dX10_bytesIn_25 (by decide) ?_
          refine z_iload_n (pc' := 6) 2 rfl rfl dX10_bytesIn_5 rfl ?_
          refine z_if_lt 28 dX10_bytesIn_6 (by decide) (pc' := 9) rfl (by decide) (fun _ => ?_) (fun c => absurd c (by decide))
          refine z_iload_n (pc' := 29) 1 rfl rfl dX10_bytesIn_28 rfl ?_
          refine z_iret rfl dX10_bytesIn_29 ?_
          exact k
def F_T_size (w : z_Wd)  : Int := w 28 1
set_option maxRecDepth 4000 in
theorem c_T_size {d : Nat} {w : z_Wd} {Q : Option z_V → z_Wd → Prop} (k : Q (some (zI (F_T_size w ))) w) : z_Wc d m_X10_size [zR 28] w Q := by
  unfold F_T_size at k
  refine z_enter rfl (Nat.le_of_ble_eq_true rfl) ?_
  show z_Wp m_X10_size _ 0 [(0, zR 28)] [] w _
  refine z_aload_n (pc' := 1) 0 rfl rfl dX10_size_0 rfl ?_
  refine z_getI2 (v := w 28 1) (pc' := 4) g_X10_13 (by decide) rfl rfl rfl dX10_size_1 rfl ?_
  refine z_iret rfl dX10_size_4 ?_
  exact k
def P_T_cut (w : z_Wd) (a0 : Int) : Prop := (-2147483648 ≤ a0 ∧ a0 < 2147483648) ∧ ((a0 < 0 → True) ∧ (¬ (a0 < 0) → -2147483648 ≤ w 28 1 ∧ w 28 1 < 2147483648))
def F_T_cut (w : z_Wd) (a0 : Int) : z_Wd := if a0 < 0 then w else if a0 ≥ w 28 1 then w else z_up w 28 1 a0
set_option maxRecDepth 4000 in
theorem c_T_cut {d : Nat} {w : z_Wd} {a0 : Int} {Q : Option z_V → z_Wd → Prop} (h : P_T_cut w a0) (k : Q none (F_T_cut w a0)) : z_Wc d m_X10_cut [zR 28, zI a0] w Q := by
  unfold P_T_cut at h
  unfold F_T_cut at k
  refine z_enter rfl (Nat.le_of_ble_eq_true rfl) ?_
  show z_Wp m_X10_cut _ 0 [(0, zR 28), (1, zI a0)] [] w _
  refine z_iload_n (pc' := 1) 1 rfl rfl dX10_cut_0 rfl ?_
  obtain ⟨r1, h⟩ := h
  refine z_if_lt 17 dX10_cut_1 (by decide) (pc' := 4) rfl r1 (fun c => ?_) (fun c => ?_)
  · have h := h.1 c
    rw [if_pos c] at k
    refine z_vret rfl dX10_cut_17 ?_
    exact k
  · have h := h.2 c
    rw [if_neg c] at k
    refine z_iload_n (pc' := 5) 1 rfl rfl dX10_cut_4 rfl ?_
    refine z_aload_n (pc' := 6) 0 rfl rfl dX10_cut_5 rfl ?_
    refine z_getI2 (v := w 28 1) (pc' := 9) g_X10_13 (by decide) rfl rfl rfl dX10_cut_6 rfl ?_
    have r2 := h
    refine z_icmp_ge 17 dX10_cut_9 (by decide) (pc' := 12) rfl r1 r2 (fun c => ?_) (fun c => ?_)
    · skip
      rw [if_pos c] at k
      refine z_vret rfl dX10_cut_17 ?_
      exact k
    · skip
      rw [if_neg c] at k
      refine z_aload_n (pc' := 13) 0 rfl rfl dX10_cut_12 rfl ?_
      refine z_iload_n (pc' := 14) 1 rfl rfl dX10_cut_13 rfl ?_
      refine z_putI (pc' := 17) p_X10_13 (by decide) rfl rfl rfl rfl dX10_cut_14 rfl ?_
      refine z_vret rfl dX10_cut_17 ?_
      exact k
def P_D_end (w : z_Wd) (a0 : Int) : Prop := (-2147483648 ≤ a0 ∧ a0 < 2147483648) ∧ ((a0 < 0 → True) ∧ (¬ (a0 < 0) → (-2147483648 ≤ w 28 1 ∧ w 28 1 < 2147483648) ∧ ((a0 ≤ w 28 1 → P_T_cut w a0) ∧ (¬ (a0 ≤ w 28 1) → True))))
def F_D_end (w : z_Wd) (a0 : Int) : Int × z_Wd := if a0 < 0 then (0, w) else if a0 ≤ w 28 1 then (1, F_T_cut w a0) else (0, w)
set_option maxRecDepth 4000 in
theorem c_D_end {d : Nat} {w : z_Wd} {a0 : Int} {Q : Option z_V → z_Wd → Prop} (h : P_D_end w a0) (k : Q (some (zI (F_D_end w a0).1)) (F_D_end w a0).2) : z_Wc (d + 1) m_X11_end [zR 27, zI a0] w Q := by
  unfold P_D_end at h
  unfold F_D_end at k
  refine z_enter rfl (Nat.le_of_ble_eq_true rfl) ?_
  show z_Wp m_X11_end _ 0 [(0, zR 27), (1, zI a0)] [] w _
  refine z_iload_n (pc' := 1) 1 rfl rfl dX11_end_0 rfl ?_
  obtain ⟨r1, h⟩ := h
  refine z_if_lt 15 dX11_end_1 (by decide) (pc' := 4) rfl r1 (fun c => ?_) (fun c => ?_)
  · have h := h.1 c
    rw [if_pos c] at k
    refine z_iconst (pc' := 16) dX11_end_15 rfl ?_
    refine z_zret rfl (by decide) dX11_end_16 ?_
    exact k
  · have h := h.2 c
    rw [if_neg c] at k
    refine z_iload_n (pc' := 5) 1 rfl rfl dX11_end_4 rfl ?_
    refine z_aload_n (pc' := 6) 0 rfl rfl dX11_end_5 rfl ?_
    refine z_getR (t := 28) (pc' := 9) g_X11_10 (by decide) rfl rfl dX11_end_6 rfl ?_
    refine z_invV (as := []) (st := [zI a0]) (C := m_X10_size) (fs := [31, 0]) (pc' := 12) dX11_end_9 rfl t_2_60 k_X10_size rfl (by decide) rfl rfl rfl rfl (Nat.le_of_ble_eq_true rfl) ?_
    refine c_T_size ?_
    show z_Wp m_X11_end _ 12 [(0, zR 27), (1, zI a0)] [zI (w 28 1), zI a0] w _
    obtain ⟨r2, h⟩ := h
    refine z_icmp_le 17 dX11_end_12 (by decide) (pc' := 15) rfl r1 r2 (fun c => ?_) (fun c => ?_)
    · have h := h.1 c
      rw [if_pos c] at k
      refine z_aload_n (pc' := 18) 0 rfl rfl dX11_end_17 rfl ?_
      refine z_getR (t := 28) (pc' := 21) g_X11_10 (by decide) rfl rfl dX11_end_18 rfl ?_
      refine z_iload_n (pc' := 22) 1 rfl rfl dX11_end_21 rfl ?_
      refine z_invV (as := [zI a0]) (st := []) (C := m_X10_cut) (fs := [31, 0]) (pc' := 25) dX11_end_22 rfl t_2_72 k_X10_cut rfl (by decide) rfl rfl rfl rfl (Nat.le_of_ble_eq_true rfl) ?_
      have r3 := h
      refine c_T_cut r3 ?_
      show z_Wp m_X11_end _ 25 [(0, zR 27), (1, zI a0)] [] (F_T_cut w a0) _
      refine z_iconst (pc' := 26) dX11_end_25 rfl ?_
      refine z_zret rfl (by decide) dX11_end_26 ?_
      exact k
    · have h := h.2 c
      rw [if_neg c] at k
      refine z_iconst (pc' := 16) dX11_end_15 rfl ?_
      refine z_zret rfl (by decide) dX11_end_16 ?_
      exact k
def P_D_law (w : z_Wd) (a0 : Int) : Prop := (P_G_hold w a0) ∧ ((F_G_hold w a0).1 = 0 ∨ (F_G_hold w a0).1 = 1)
def F_D_law (w : z_Wd) (a0 : Int) : Int × z_Wd := ((F_G_hold w a0).1, (F_G_hold w a0).2)
set_option maxRecDepth 4000 in
theorem c_D_law {d : Nat} {w : z_Wd} {a0 : Int} {Q : Option z_V → z_Wd → Prop} (h : P_D_law w a0) (k : Q (some (zI (F_D_law w a0).1)) (F_D_law w a0).2) : z_Wc (d + 1) m_X11_law [zR 27, zI a0] w Q := by
  unfold P_D_law at h
  unfold F_D_law at k
  refine z_enter rfl (Nat.le_of_ble_eq_true rfl) ?_
  show z_Wp m_X11_law _ 0 [(0, zR 27), (1, zI a0)] [] w _
  refine z_aload_n (pc' := 1) 0 rfl rfl dX11_law_0 rfl ?_
  refine z_getR (t := 55) (pc' := 4) g_X11_63 (by decide) rfl rfl dX11_law_1 rfl ?_
  refine z_iload_n (pc' := 5) 1 rfl rfl dX11_law_4 rfl ?_
  refine z_invV (as := [zI a0]) (st := []) (C := m_X1_hold) (fs := [32, 43, 58, 59, 0, 0]) (pc' := 8) dX11_law_5 rfl t_3_170 k_X1_hold rfl (by decide) rfl rfl rfl rfl (Nat.le_of_ble_eq_true rfl) ?_
  obtain ⟨r1, h⟩ := h
  refine c_G_hold r1 ?_
  show z_Wp m_X11_law _ 8 [(0, zR 27), (1, zI a0)] [zI ((F_G_hold w a0).1)] ((F_G_hold w a0).2) _
  have r2 := h
  refine z_zret rfl r2 dX11_law_8 ?_
  exact k
def P_D_flies (w : z_Wd) (a0 : Int) : Prop := (-2147483648 ≤ a0 ∧ a0 < 2147483648) ∧ ((a0 < 0 → True) ∧ (¬ (a0 < 0) → (a0 > 9 → True) ∧ (¬ (a0 > 9) → -2147483648 ≤ w 27 12 ∧ w 27 12 < 2147483648)))
def F_D_flies (w : z_Wd) (a0 : Int) : Int × z_Wd := if a0 < 0 then (0, w) else if a0 > 9 then (0, w) else if a0 = w 27 12 then (0, w) else (1, z_up w 27 12 a0)
set_option maxRecDepth 4000 in
theorem c_D_flies {d : Nat} {w : z_Wd} {a0 : Int} {Q : Option z_V → z_Wd → Prop} (h : P_D_flies w a0) (k : Q (some (zI (F_D_flies w a0).1)) (F_D_flies w a0).2) : z_Wc d m_X11_flies [zR 27, zI a0] w Q := by
  unfold P_D_flies at h
  unfold F_D_flies at k
  refine z_enter rfl (Nat.le_of_ble_eq_true rfl) ?_
  show z_Wp m_X11_flies _ 0 [(0, zR 27), (1, zI a0)] [] w _
  refine z_iload_n (pc' := 1) 1 rfl rfl dX11_flies_0 rfl ?_
  obtain ⟨r1, h⟩ := h
  refine z_if_lt 18 dX11_flies_1 (by decide) (pc' := 4) rfl r1 (fun c => ?_) (fun c => ?_)
  · have h := h.1 c
    rw [if_pos c] at k
    refine z_iconst (pc' := 19) dX11_flies_18 rfl ?_
    refine z_zret rfl (by decide) dX11_flies_19 ?_
    exact k
  · have h := h.2 c
    rw [if_neg c] at k
    refine z_iload_n (pc' := 5) 1 rfl rfl dX11_flies_4 rfl ?_
    refine z_bipush (pc' := 7) (by decide) dX11_flies_5 rfl ?_
    refine z_icmp_gt 18 dX11_flies_7 (by decide) (pc' := 10) rfl r1 (by decide) (fun c => ?_) (fun c => ?_)
    · have h := h.1 c
      rw [if_pos c] at k
      refine z_iconst (pc' := 19) dX11_flies_18 rfl ?_
      refine z_zret rfl (by decide) dX11_flies_19 ?_
      exact k
    · have h := h.2 c
      rw [if_neg c] at k
      refine z_iload_n (pc' := 11) 1 rfl rfl dX11_flies_10 rfl ?_
      refine z_aload_n (pc' := 12) 0 rfl rfl dX11_flies_11 rfl ?_
      refine z_getI2 (v := w 27 12) (pc' := 15) g_X11_92 (by decide) rfl rfl rfl dX11_flies_12 rfl ?_
      have r2 := h
      refine z_icmp_ne 20 dX11_flies_15 (by decide) (pc' := 18) rfl r1 r2 (fun c => ?_) (fun c => ?_)
      · skip
        rw [if_neg c] at k
        refine z_aload_n (pc' := 21) 0 rfl rfl dX11_flies_20 rfl ?_
        refine z_iload_n (pc' := 22) 1 rfl rfl dX11_flies_21 rfl ?_
        refine z_putI (pc' := 25) p_X11_92 (by decide) rfl rfl rfl rfl dX11_flies_22 rfl ?_
        refine z_iconst (pc' := 26) dX11_flies_25 rfl ?_
        refine z_zret rfl (by decide) dX11_flies_26 ?_
        exact k
      · skip
        rw [if_pos c] at k
        refine z_iconst (pc' := 19) dX11_flies_18 rfl ?_
        refine z_zret rfl (by decide) dX11_flies_19 ?_
        exact k
def P_D_draw (w : z_Wd) (a0 : Int) : Prop := (-2147483648 ≤ a0 ∧ a0 < 2147483648) ∧ ((a0 ≤ 0 → True) ∧ (¬ (a0 ≤ 0) → (a0 ≠ 0) ∧ (-9223372036854775808 ≤ zz_lushr (((w 27 14) * 6364136223846793005) + 1442695040888963407) 33 ∧ zz_lushr (((w 27 14) * 6364136223846793005) + 1442695040888963407) 33 < 9223372036854775808) ∧ (-9223372036854775808 ≤ a0 ∧ a0 < 9223372036854775808)))
def F_D_draw (w : z_Wd) (a0 : Int) : Int × z_Wd := if a0 ≤ 0 then (0, z_up w 27 14 (((w 27 14) * 6364136223846793005) + 1442695040888963407)) else (Int.tmod (zz_lushr (((w 27 14) * 6364136223846793005) + 1442695040888963407) 33) a0, z_up w 27 14 (((w 27 14) * 6364136223846793005) + 1442695040888963407))
set_option maxRecDepth 4000 in
theorem c_D_draw {d : Nat} {w : z_Wd} {a0 : Int} {Q : Option z_V → z_Wd → Prop} (h : P_D_draw w a0) (k : Q (some (zI (F_D_draw w a0).1)) (F_D_draw w a0).2) : z_Wc d m_X11_draw [zR 27, zI a0] w Q := by
  unfold P_D_draw at h
  unfold F_D_draw at k
  refine z_enter rfl (Nat.le_of_ble_eq_true rfl) ?_
  show z_Wp m_X11_draw _ 0 [(0, zR 27), (1, zI a0)] [] w _
  refine z_aload_n (pc' := 1) 0 rfl rfl dX11_draw_0 rfl ?_
  refine z_aload_n (pc' := 2) 0 rfl rfl dX11_draw_1 rfl ?_
  refine z_getJ2 (v := w 27 14) (pc' := 5) g_X11_274 (by decide) rfl rfl rfl dX11_draw_2 rfl ?_
  refine z_ldc2 (n := 6364136223846793005) (pc' := 8) t_4_147 (by decide) dX11_draw_5 rfl ?_
  refine z_lmul (pc' := 9) dX11_draw_8 rfl ?_
  refine z_ldc2 (n := 1442695040888963407) (pc' := 12) t_4_148 (by decide) dX11_draw_9 rfl ?_
  refine z_ladd (pc' := 13) dX11_draw_12 rfl ?_
  refine z_putJ (pc' := 16) p_X11_274 (by decide) rfl rfl dX11_draw_13 rfl ?_
  refine z_iload_n (pc' := 17) 1 rfl rfl dX11_draw_16 rfl ?_
  obtain ⟨r1, h⟩ := h
  refine z_if_le 34 dX11_draw_17 (by decide) (pc' := 20) rfl r1 (fun c => ?_) (fun c => ?_)
  · have h := h.1 c
    rw [if_pos c] at k
    refine z_iconst (pc' := 35) dX11_draw_34 rfl ?_
    refine z_iret rfl dX11_draw_35 ?_
    exact k
  · have h := h.2 c
    rw [if_neg c] at k
    refine z_aload_n (pc' := 21) 0 rfl rfl dX11_draw_20 rfl ?_
    refine z_getJ2 (v := ((w 27 14) * 6364136223846793005) + 1442695040888963407) (pc' := 24) g_X11_274 (by decide) rfl rfl rfl dX11_draw_21 rfl ?_
    refine z_bipush (pc' := 26) (by decide) dX11_draw_24 rfl ?_
    refine z_lushr (pc' := 27) dX11_draw_26 rfl ?_
    refine z_iload_n (pc' := 28) 1 rfl rfl dX11_draw_27 rfl ?_
    refine z_i2l (pc' := 29) r1 dX11_draw_28 rfl ?_
    obtain ⟨r2, h⟩ := h
    obtain ⟨r3, h⟩ := h
    have r4 := h
    refine z_lrem (pc' := 30) r3 r4 r2 dX11_draw_29 rfl ?_
    refine z_l2i (pc' := 31) dX11_draw_30 rfl ?_
    refine z_goto 35 dX11_draw_31 (by decide) ?_
    refine z_iret rfl dX11_draw_35 ?_
    exact k
def P_D_status (w : z_Wd) (a0 : Int) : Prop := (-2147483648 ≤ a0 ∧ a0 < 2147483648) ∧ ((a0 < 0 → True) ∧ (¬ (a0 < 0) → (a0 < 5 → 0 ≤ a0 ∧ a0 < 5) ∧ (¬ (a0 < 5) → True)))
def F_D_status (w : z_Wd) (a0 : Int) : Int := if a0 < 0 then (-1) else if a0 < 5 then w 78 a0.toNat else (-1)
set_option maxRecDepth 4000 in
theorem c_D_status {d : Nat} {w : z_Wd} {a0 : Int} {Q : Option z_V → z_Wd → Prop} (h : P_D_status w a0) (k : Q (some (zI (F_D_status w a0))) w) : z_Wc d m_X11_status [zR 27, zI a0] w Q := by
  unfold P_D_status at h
  unfold F_D_status at k
  refine z_enter rfl (Nat.le_of_ble_eq_true rfl) ?_
  show z_Wp m_X11_status _ 0 [(0, zR 27), (1, zI a0)] [] w _
  refine z_iload_n (pc' := 1) 1 rfl rfl dX11_status_0 rfl ?_
  obtain ⟨r1, h⟩ := h
  refine z_if_lt 13 dX11_status_1 (by decide) (pc' := 4) rfl r1 (fun c => ?_) (fun c => ?_)
  · have h := h.1 c
    rw [if_pos c] at k
    refine z_iconst (pc' := 14) dX11_status_13 rfl ?_
    refine z_goto 23 dX11_status_14 (by decide) ?_
    refine z_iret rfl dX11_status_23 ?_
    exact k
  · have h := h.2 c
    rw [if_neg c] at k
    refine z_iload_n (pc' := 5) 1 rfl rfl dX11_status_4 rfl ?_
    refine z_aload_n (pc' := 6) 0 rfl rfl dX11_status_5 rfl ?_
    refine z_getR (t := 78) (pc' := 9) g_X11_88 (by decide) rfl rfl dX11_status_6 rfl ?_
    refine z_alen2 (v := 5) (pc' := 10) (by decide) rfl rfl dX11_status_9 rfl ?_
    refine z_icmp_lt 17 dX11_status_10 (by decide) (pc' := 13) rfl r1 (by decide) (fun c => ?_) (fun c => ?_)
    · have h := h.1 c
      rw [if_pos c] at k
      refine z_aload_n (pc' := 18) 0 rfl rfl dX11_status_17 rfl ?_
      refine z_getR (t := 78) (pc' := 21) g_X11_88 (by decide) rfl rfl dX11_status_18 rfl ?_
      refine z_iload_n (pc' := 22) 1 rfl rfl dX11_status_21 rfl ?_
      have r2 := h
      refine z_iald2 (v := w 78 a0.toNat) (pc' := 23) (by decide) rfl r2 (by decide) rfl dX11_status_22 rfl ?_
      refine z_iret rfl dX11_status_23 ?_
      exact k
    · have h := h.2 c
      rw [if_neg c] at k
      refine z_iconst (pc' := 14) dX11_status_13 rfl ?_
      refine z_goto 23 dX11_status_14 (by decide) ?_
      refine z_iret rfl dX11_status_23 ?_
      exact k
def P_D_refuse (w : z_Wd) (a0 : Int) (a1 : Int) : Prop := (-2147483648 ≤ a0 ∧ a0 < 2147483648) ∧ ((a0 < 0 → True) ∧ (¬ (a0 < 0) → (a0 ≥ 5 → True) ∧ (¬ (a0 ≥ 5) → 0 ≤ a0 ∧ a0 < 5)))
def F_D_refuse (w : z_Wd) (a0 : Int) (a1 : Int) : Int × z_Wd := if a0 < 0 then (a1, w) else if a0 ≥ 5 then (a1, w) else (a1, z_up w 78 a0.toNat ((w 78 a0.toNat) + 1))
set_option maxRecDepth 4000 in
theorem c_D_refuse {d : Nat} {w : z_Wd} {a0 a1 : Int} {Q : Option z_V → z_Wd → Prop} (h : P_D_refuse w a0 a1) (k : Q (some (zI (F_D_refuse w a0 a1).1)) (F_D_refuse w a0 a1).2) : z_Wc d m_X11_refuse [zR 27, zI a0, zI a1] w Q := by
  unfold P_D_refuse at h
  unfold F_D_refuse at k
  refine z_enter rfl (Nat.le_of_ble_eq_true rfl) ?_
  show z_Wp m_X11_refuse _ 0 [(0, zR 27), (1, zI a0), (2, zI a1)] [] w _
  refine z_iload_n (pc' := 1) 1 rfl rfl dX11_refuse_0 rfl ?_
  obtain ⟨r1, h⟩ := h
  refine z_if_lt 23 dX11_refuse_1 (by decide) (pc' := 4) rfl r1 (fun c => ?_) (fun c => ?_)
  · have h := h.1 c
    rw [if_pos c] at k
    refine z_iload_n (pc' := 24) 2 rfl rfl dX11_refuse_23 rfl ?_
    refine z_iret rfl dX11_refuse_24 ?_
    exact k
  · have h := h.2 c
    rw [if_neg c] at k
    refine z_iload_n (pc' := 5) 1 rfl rfl dX11_refuse_4 rfl ?_
    refine z_aload_n (pc' := 6) 0 rfl rfl dX11_refuse_5 rfl ?_
    refine z_getR (t := 78) (pc' := 9) g_X11_88 (by decide) rfl rfl dX11_refuse_6 rfl ?_
    refine z_alen2 (v := 5) (pc' := 10) (by decide) rfl rfl dX11_refuse_9 rfl ?_
    refine z_icmp_ge 23 dX11_refuse_10 (by decide) (pc' := 13) rfl r1 (by decide) (fun c => ?_) (fun c => ?_)
    · have h := h.1 c
      rw [if_pos c] at k
      refine z_iload_n (pc' := 24) 2 rfl rfl dX11_refuse_23 rfl ?_
      refine z_iret rfl dX11_refuse_24 ?_
      exact k
    · have h := h.2 c
      rw [if_neg c] at k
      refine z_aload_n (pc' := 14) 0 rfl rfl dX11_refuse_13 rfl ?_
      refine z_getR (t := 78) (pc' := 17) g_X11_88 (by decide) rfl rfl dX11_refuse_14 rfl ?_
      refine z_iload_n (pc' := 18) 1 rfl rfl dX11_refuse_17 rfl ?_
      refine z_dup2 (pc' := 19) rfl rfl dX11_refuse_18 rfl ?_
      have r2 := h
      refine z_iald2 (v := w 78 a0.toNat) (pc' := 20) (by decide) rfl r2 (by decide) rfl dX11_refuse_19 rfl ?_
      refine z_iconst (pc' := 21) dX11_refuse_20 rfl ?_
      refine z_iadd (pc' := 22) dX11_refuse_21 rfl ?_
      refine z_iast2 (w' := z_up w 78 a0.toNat ((w 78 a0.toNat) + 1)) (pc' := 23) (by decide) rfl r2 (by decide) rfl dX11_refuse_22 rfl ?_
      refine z_iload_n (pc' := 24) 2 rfl rfl dX11_refuse_23 rfl ?_
      refine z_iret rfl dX11_refuse_24 ?_
      exact k
def P_D_log (w : z_Wd) (a0 : Int) (a1 : Int) : Prop := (-2147483648 ≤ a0 ∧ a0 < 2147483648) ∧ ((a0 < 0 → True) ∧ (¬ (a0 < 0) → (P_J_min_7cf53 w (w 41 8) 60) ∧ (-2147483648 ≤ F_J_min_7cf53 w (w 41 8) 60 ∧ F_J_min_7cf53 w (w 41 8) 60 < 2147483648) ∧ ((a0 < F_J_min_7cf53 w (w 41 8) 60 → (-2147483648 ≤ a1 ∧ a1 < 2147483648) ∧ ((a1 = 0 → (P_J_floorMod_7cf53 w ((w 41 8) - (a0 + 1)) 100) ∧ (0 ≤ F_J_floorMod_7cf53 w ((w 41 8) - (a0 + 1)) 100 ∧ F_J_floorMod_7cf53 w ((w 41 8) - (a0 + 1)) 100 < 100)) ∧ (¬ a1 = 0 → (a1 = 1 → (P_J_floorMod_7cf53 w ((w 41 8) - (a0 + 1)) 100) ∧ (0 ≤ F_J_floorMod_7cf53 w ((w 41 8) - (a0 + 1)) 100 ∧ F_J_floorMod_7cf53 w ((w 41 8) - (a0 + 1)) 100 < 100)) ∧ (¬ a1 = 1 → True)))) ∧ (¬ (a0 < F_J_min_7cf53 w (w 41 8) 60) → True))))
def F_D_log (w : z_Wd) (a0 : Int) (a1 : Int) : Int := if a0 < 0 then (-1) else if a0 < F_J_min_7cf53 w (w 41 8) 60 then if a1 = 0 then w 45 ((F_J_floorMod_7cf53 w ((w 41 8) - (a0 + 1)) 100).toNat) else if a1 = 1 then w 46 ((F_J_floorMod_7cf53 w ((w 41 8) - (a0 + 1)) 100).toNat) else (-1) else (-1)
set_option maxRecDepth 4000 in
theorem c_D_log {d : Nat} {w : z_Wd} {a0 a1 : Int} {Q : Option z_V → z_Wd → Prop} (h : P_D_log w a0 a1) (k : Q (some (zI (F_D_log w a0 a1))) w) : z_Wc (d + 3) m_X11_log [zR 27, zI a0, zI a1] w Q := by
  unfold P_D_log at h
  unfold F_D_log at k
  refine z_enter rfl (Nat.le_of_ble_eq_true rfl) ?_
  show z_Wp m_X11_log _ 0 [(0, zR 27), (1, zI a0), (2, zI a1)] [] w _
  refine z_iload_n (pc' := 1) 1 rfl rfl dX11_log_0 rfl ?_
  obtain ⟨r1, h⟩ := h
  refine z_if_lt 15 dX11_log_1 (by decide) (pc' := 4) rfl r1 (fun c => ?_) (fun c => ?_)
  · have h := h.1 c
    rw [if_pos c] at k
    refine z_iconst (pc' := 16) dX11_log_15 rfl ?_
    refine z_iret rfl dX11_log_16 ?_
    exact k
  · have h := h.2 c
    rw [if_neg c] at k
    refine z_iload_n (pc' := 5) 1 rfl rfl dX11_log_4 rfl ?_
    refine z_aload_n (pc' := 6) 0 rfl rfl dX11_log_5 rfl ?_
    refine z_getR (t := 41) (pc' := 9) g_X11_44 (by decide) rfl rfl dX11_log_6 rfl ?_
    refine z_invV (as := []) (st := [zI a0]) (C := m_X3_logged) (fs := [32, 44, 45, 46, 47, 48, 0, 0, 0]) (pc' := 12) dX11_log_9 rfl t_4_178 k_X3_logged rfl (by decide) rfl rfl rfl rfl (Nat.le_of_ble_eq_true rfl) ?_
    obtain ⟨r2, h⟩ := h
    refine c_K_logged r2 ?_
    show z_Wp m_X11_log _ 12 [(0, zR 27), (1, zI a0), (2, zI a1)] [zI (F_J_min_7cf53 w (w 41 8) 60), zI a0] w _
    obtain ⟨r3, h⟩ := h
    refine z_icmp_lt 17 dX11_log_12 (by decide) (pc' := 15) rfl r1 r3 (fun c => ?_) (fun c => ?_)
    · have h := h.1 c
      rw [if_pos c] at k
      refine z_iload_n (pc' := 18) 2 rfl rfl dX11_log_17 rfl ?_
      obtain ⟨r4, h⟩ := h
      refine z_lookup dX11_log_18 (by decide) r4 ⟨fun c0 => ⟨44, by decide, ?_⟩, fun c0 => ⟨fun c1 => ⟨53, by decide, ?_⟩, fun c1 => ⟨62, by decide, ?_⟩⟩⟩
      · skip
        have c0 : a1 = 0 := c0
        have h := h.1 c0
        rw [if_pos c0] at k
        refine z_aload_n (pc' := 45) 0 rfl rfl dX11_log_44 rfl ?_
        refine z_getR (t := 41) (pc' := 48) g_X11_44 (by decide) rfl rfl dX11_log_45 rfl ?_
        refine z_iload_n (pc' := 49) 1 rfl rfl dX11_log_48 rfl ?_
        refine z_invV (as := [zI a0]) (st := []) (C := m_X3_loggedWho) (fs := [32, 44, 45, 46, 47, 48, 0, 0, 0]) (pc' := 52) dX11_log_49 rfl t_4_182 k_X3_loggedWho rfl (by decide) rfl rfl rfl rfl (Nat.le_of_ble_eq_true rfl) ?_
        have r5 := h
        refine c_K_loggedWho r5 ?_
        show z_Wp m_X11_log _ 52 [(0, zR 27), (1, zI a0), (2, zI a1)] [zI (w 45 ((F_J_floorMod_7cf53 w ((w 41 8) - (a0 + 1)) 100).toNat))] w _
        refine z_iret rfl dX11_log_52 ?_
        exact k
      · skip
        have c0 : ¬ a1 = 0 := c0
        have h := h.2 c0
        rw [if_neg c0] at k
        have c1 : a1 = 1 := c1
        have h := h.1 c1
        rw [if_pos c1] at k
        refine z_aload_n (pc' := 54) 0 rfl rfl dX11_log_53 rfl ?_
        refine z_getR (t := 41) (pc' := 57) g_X11_44 (by decide) rfl rfl dX11_log_54 rfl ?_
        refine z_iload_n (pc' := 58) 1 rfl rfl dX11_log_57 rfl ?_
        refine z_invV (as := [zI a0]) (st := []) (C := m_X3_loggedMissed) (fs := [32, 44, 45, 46, 47, 48, 0, 0, 0]) (pc' := 61) dX11_log_58 rfl t_4_186 k_X3_loggedMissed rfl (by decide) rfl rfl rfl rfl (Nat.le_of_ble_eq_true rfl) ?_
        have r6 := h
        refine c_K_loggedMissed r6 ?_
        show z_Wp m_X11_log _ 61 [(0, zR 27), (1, zI a0), (2, zI a1)] [zI (w 46 ((F_J_floorMod_7cf53 w ((w 41 8) - (a0 + 1)) 100).toNat))] w _
        refine z_iret rfl dX11_log_61 ?_
        exact k
      · skip
        have c0 : ¬ a1 = 0 := c0
        have h := h.2 c0
        rw [if_neg c0] at k
        have c1 : ¬ a1 = 1 := c1
        have h := h.2 c1
        rw [if_neg c1] at k
        refine z_iconst (pc' := 63) dX11_log_62 rfl ?_
        refine z_iret rfl dX11_log_63 ?_
        exact k
    · have h := h.2 c
      rw [if_neg c] at k
      refine z_iconst (pc' := 16) dX11_log_15 rfl ?_
      refine z_iret rfl dX11_log_16 ?_
      exact k
