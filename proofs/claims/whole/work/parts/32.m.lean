def L_M_look_0 (w : z_Wd)   : Nat → z_Wd → Int × z_Wd
  | 0, _ => (0, w)
  | m9 + 1, wu => if F_M_here wu = 32 then L_M_look_0 w m9 (z_up wu 0 3 ((wu 0 3) + 1)) else (F_M_here wu, wu)
def PL_M_look_0 (w : z_Wd)   : Nat → z_Wd → Prop
  | 0, _ => False
  | m9 + 1, wu => (P_M_here wu) ∧ (-2147483648 ≤ F_M_here wu ∧ F_M_here wu < 2147483648) ∧ ((F_M_here wu = 32 → PL_M_look_0 w m9 (z_up wu 0 3 ((wu 0 3) + 1))) ∧ (¬ (F_M_here wu = 32) → True))
def P_M_look (w : z_Wd)  : Prop := PL_M_look_0 w 300 w
def F_M_look (w : z_Wd)  : Int × z_Wd := L_M_look_0 w 300 w
set_option maxRecDepth 4000 in
theorem c_M_look {d : Nat} {w : z_Wd} {Q : Option z_V → z_Wd → Prop} (h : P_M_look w ) (k : Q (some (zI (F_M_look w ).1)) (F_M_look w ).2) : z_Wc (d + 1) m_X12_look [zR 0] w Q := by
  unfold P_M_look at h
  unfold F_M_look at k
  refine z_enter rfl (Nat.le_of_ble_eq_true rfl) ?_
  show z_Wp m_X12_look _ 0 [(0, zR 0)] [] w _
  have hl : ∀ (m9 : Nat) (wu : z_Wd), PL_M_look_0 w m9 wu → Q (some (zI (L_M_look_0 w m9 wu).1)) (L_M_look_0 w m9 wu).2 → z_Wp m_X12_look (d + 1) 0 [(0, zR 0)] [] wu Q := by
    clear h k
    intro m9
    induction m9 with
    | zero => intro wu h k; exact False.elim h
    | succ m9 ih =>
      intro wu h k
      have h : (P_M_here wu) ∧ (-2147483648 ≤ F_M_here wu ∧ F_M_here wu < 2147483648) ∧ ((F_M_here wu = 32 → PL_M_look_0 w m9 (z_up wu 0 3 ((wu 0 3) + 1))) ∧ (¬ (F_M_here wu = 32) → True)) := h
      have k : Q (some (zI (if F_M_here wu = 32 then L_M_look_0 w m9 (z_up wu 0 3 ((wu 0 3) + 1)) else (F_M_here wu, wu)).1)) (if F_M_here wu = 32 then L_M_look_0 w m9 (z_up wu 0 3 ((wu 0 3) + 1)) else (F_M_here wu, wu)).2 := k
      refine z_aload_n (pc' := 1) 0 rfl rfl dX12_look_0 rfl ?_
      refine z_invV (as := []) (st := []) (C := m_X12_here) (fs := [0, 3, 0, 0, 0, 0, 4, 5, 6, 7, 8, 9, 10, 0, 0, 11, 12, 13, 14, 15, 16, 0, 0, 0, 17, 18, 19, 20, 0, 0, 0, 21, 22, 0, 0, 23, 0, 1, 24, 0, 0, 25, 26, 0, 27, 0]) (pc' := 4) dX12_look_1 rfl t_6_222 k_X12_here rfl (by decide) rfl rfl rfl rfl (Nat.le_of_ble_eq_true rfl) ?_
      obtain ⟨r3, h⟩ := h
      refine c_M_here r3 ?_
      show z_Wp m_X12_look _ 4 [(0, zR 0)] [zI (F_M_here wu)] wu _
      refine z_bipush (pc' := 6) (by decide) dX12_look_4 rfl ?_
      obtain ⟨r4, h⟩ := h
      refine z_icmp_ne 22 dX12_look_6 (by decide) (pc' := 9) rfl r4 (by decide) (fun c => ?_) (fun c => ?_)
      · have h := h.2 c
        rw [if_neg c] at k
        refine z_aload_n (pc' := 23) 0 rfl rfl dX12_look_22 rfl ?_
        refine z_invV (as := []) (st := []) (C := m_X12_here) (fs := [0, 3, 0, 0, 0, 0, 4, 5, 6, 7, 8, 9, 10, 0, 0, 11, 12, 13, 14, 15, 16, 0, 0, 0, 17, 18, 19, 20, 0, 0, 0, 21, 22, 0, 0, 23, 0, 1, 24, 0, 0, 25, 26, 0, 27, 0]) (pc' := 26) dX12_look_23 rfl t_6_222 k_X12_here rfl (by decide) rfl rfl rfl rfl (Nat.le_of_ble_eq_true rfl) ?_
        refine c_M_here r3 ?_
        show z_Wp m_X12_look _ 26 [(0, zR 0)] [zI (F_M_here wu)] wu _
        refine z_iret rfl dX12_look_26 ?_
        exact k
      · have h := h.1 c
        rw [if_pos c] at k
        refine z_aload_n (pc' := 10) 0 rfl rfl dX12_look_9 rfl ?_
        refine z_dup (pc' := 11) rfl dX12_look_10 rfl ?_
        refine z_getI2 (v := wu 0 3) (pc' := 14) g_X12_102 (by decide) rfl rfl rfl dX12_look_11 rfl ?_
        refine z_iconst (pc' := 15) dX12_look_14 rfl ?_
        refine z_iadd (pc' := 16) dX12_look_15 rfl ?_
        refine z_putI (pc' := 19) p_X12_102 (by decide) rfl rfl rfl rfl dX12_look_16 rfl ?_
        refine z_goto 0 dX12_look_19 (by decide) ?_
        exact ih _ h k
  exact hl 300 _ h k
def L_M_plainNumber_4 (w : z_Wd)   : Nat → Int → Int → z_Wd → Int × z_Wd
  | 0, _, _, _ => (0, w)
  | m9 + 1, u1, u2, wu => if u2 ≥ 4 then if F_M_isDigit wu (F_M_here wu) = 0 then (u1, wu) else (u1, F_M_bad wu) else if F_M_isDigit wu (F_M_here wu) = 0 then if F_M_isDigit wu (F_M_here wu) = 0 then (u1, wu) else (u1, F_M_bad wu) else L_M_plainNumber_4 w m9 (((10 * u1) + (F_M_here wu)) - 48) (u2 + 1) (z_up wu 0 3 ((wu 0 3) + 1))
def PL_M_plainNumber_4 (w : z_Wd)   : Nat → Int → Int → z_Wd → Prop
  | 0, _, _, _ => False
  | m9 + 1, u1, u2, wu => (-2147483648 ≤ u2 ∧ u2 < 2147483648) ∧ ((u2 ≥ 4 → (P_M_here wu) ∧ (P_M_isDigit wu (F_M_here wu)) ∧ ((F_M_isDigit wu (F_M_here wu) = 0 → True) ∧ (¬ (F_M_isDigit wu (F_M_here wu) = 0) → P_M_bad wu))) ∧ (¬ (u2 ≥ 4) → (P_M_here wu) ∧ (P_M_isDigit wu (F_M_here wu)) ∧ ((F_M_isDigit wu (F_M_here wu) = 0 → (F_M_isDigit wu (F_M_here wu) = 0 → True) ∧ (¬ (F_M_isDigit wu (F_M_here wu) = 0) → P_M_bad wu)) ∧ (¬ (F_M_isDigit wu (F_M_here wu) = 0) → PL_M_plainNumber_4 w m9 (((10 * u1) + (F_M_here wu)) - 48) (u2 + 1) (z_up wu 0 3 ((wu 0 3) + 1))))))
def P_M_plainNumber (w : z_Wd)  : Prop := PL_M_plainNumber_4 w 6 0 0 w
def F_M_plainNumber (w : z_Wd)  : Int × z_Wd := L_M_plainNumber_4 w 6 0 0 w
set_option maxRecDepth 4000 in
theorem c_M_plainNumber {d : Nat} {w : z_Wd} {Q : Option z_V → z_Wd → Prop} (h : P_M_plainNumber w ) (k : Q (some (zI (F_M_plainNumber w ).1)) (F_M_plainNumber w ).2) : z_Wc (d + 1) m_X12_plainNumber [zR 0] w Q := by
  unfold P_M_plainNumber at h
  unfold F_M_plainNumber at k
  refine z_enter rfl (Nat.le_of_ble_eq_true rfl) ?_
  show z_Wp m_X12_plainNumber _ 0 [(0, zR 0)] [] w _
  refine z_iconst (pc' := 1) dX12_plainNumber_0 rfl ?_
  refine z_istore_n (pc' := 2) (ls' := [(0, zR 0), (1, zI 0)]) rfl (by decide) rfl rfl dX12_plainNumber_1 rfl ?_
  refine z_iconst (pc' := 3) dX12_plainNumber_2 rfl ?_
  refine z_istore_n (pc' := 4) (ls' := [(0, zR 0), (1, zI 0), (2, zI 0)]) rfl (by decide) rfl rfl dX12_plainNumber_3 rfl ?_
  have hl : ∀ (m9 : Nat) (u1 : Int) (u2 : Int) (wu : z_Wd), PL_M_plainNumber_4 w m9 u1 u2 wu → Q (some (zI (L_M_plainNumber_4 w m9 u1 u2 wu).1)) (L_M_plainNumber_4 w m9 u1 u2 wu).2 → z_Wp m_X12_plainNumber (d + 1) 4 [(0, zR 0), (1, zI u1), (2, zI u2)] [] wu Q := by
    clear h k
    intro m9
    induction m9 with
    | zero => intro u1 u2 wu h k; exact False.elim h
    | succ m9 ih =>
      intro u1 u2 wu h k
      have h : (-2147483648 ≤ u2 ∧ u2 < 2147483648) ∧ ((u2 ≥ 4 → (P_M_here wu) ∧ (P_M_isDigit wu (F_M_here wu)) ∧ ((F_M_isDigit wu (F_M_here wu) = 0 → True) ∧ (¬ (F_M_isDigit wu (F_M_here wu) = 0) → P_M_bad wu))) ∧ (¬ (u2 ≥ 4) → (P_M_here wu) ∧ (P_M_isDigit wu (F_M_here wu)) ∧ ((F_M_isDigit wu (F_M_here wu) = 0 → (F_M_isDigit wu (F_M_here wu) = 0 → True) ∧ (¬ (F_M_isDigit wu (F_M_here wu) = 0) → P_M_bad wu)) ∧ (¬ (F_M_isDigit wu (F_M_here wu) = 0) → PL_M_plainNumber_4 w m9 (((10 * u1) + (F_M_here wu)) - 48) (u2 + 1) (z_up wu 0 3 ((wu 0 3) + 1)))))) := h
      have k : Q (some (zI (if u2 ≥ 4 then if F_M_isDigit wu (F_M_here wu) = 0 then (u1, wu) else (u1, F_M_bad wu) else if F_M_isDigit wu (F_M_here wu) = 0 then if F_M_isDigit wu (F_M_here wu) = 0 then (u1, wu) else (u1, F_M_bad wu) else L_M_plainNumber_4 w m9 (((10 * u1) + (F_M_here wu)) - 48) (u2 + 1) (z_up wu 0 3 ((wu 0 3) + 1))).1)) (if u2 ≥ 4 then if F_M_isDigit wu (F_M_here wu) = 0 then (u1, wu) else (u1, F_M_bad wu) else if F_M_isDigit wu (F_M_here wu) = 0 then if F_M_isDigit wu (F_M_here wu) = 0 then (u1, wu) else (u1, F_M_bad wu) else L_M_plainNumber_4 w m9 (((10 * u1) + (F_M_here wu)) - 48) (u2 + 1) (z_up wu 0 3 ((wu 0 3) + 1))).2 := k
      refine z_iload_n (pc' := 5) 2 rfl rfl dX12_plainNumber_4 rfl ?_
      refine z_iconst (pc' := 6) dX12_plainNumber_5 rfl ?_
      obtain ⟨r8, h⟩ := h
      refine z_icmp_ge 48 dX12_plainNumber_6 (by decide) (pc' := 9) rfl r8 (by decide) (fun c => ?_) (fun c => ?_)
      · have h := h.1 c
        rw [if_pos c] at k
        refine z_aload_n (pc' := 49) 0 rfl rfl dX12_plainNumber_48 rfl ?_
        refine z_invV (as := []) (st := []) (C := m_X12_here) (fs := [0, 3, 0, 0, 0, 0, 4, 5, 6, 7, 8, 9, 10, 0, 0, 11, 12, 13, 14, 15, 16, 0, 0, 0, 17, 18, 19, 20, 0, 0, 0, 21, 22, 0, 0, 23, 0, 1, 24, 0, 0, 25, 26, 0, 27, 0]) (pc' := 52) dX12_plainNumber_49 rfl t_6_222 k_X12_here rfl (by decide) rfl rfl rfl rfl (Nat.le_of_ble_eq_true rfl) ?_
        obtain ⟨r9, h⟩ := h
        refine c_M_here r9 ?_
        show z_Wp m_X12_plainNumber _ 52 [(0, zR 0), (1, zI u1), (2, zI u2)] [zI (F_M_here wu)] wu _
        refine z_invS (as := [zI (F_M_here wu)]) (st := []) (C := m_X12_isDigit) (pc' := 55) dX12_plainNumber_52 rfl t_7_10 k_X12_isDigit rfl rfl (Nat.le_of_ble_eq_true rfl) ?_
        obtain ⟨r10, h⟩ := h
        refine c_M_isDigit r10 ?_
        show z_Wp m_X12_plainNumber _ 55 [(0, zR 0), (1, zI u1), (2, zI u2)] [zI (F_M_isDigit wu (F_M_here wu))] wu _
        refine z_if_eq 62 dX12_plainNumber_55 (by decide) (pc' := 58) rfl (z_rb b_M_isDigit) (fun c => ?_) (fun c => ?_)
        · have h := h.1 c
          rw [if_pos c] at k
          refine z_iload_n (pc' := 63) 1 rfl rfl dX12_plainNumber_62 rfl ?_
          refine z_iret rfl dX12_plainNumber_63 ?_
          exact k
        · have h := h.2 c
          rw [if_neg c] at k
          refine z_aload_n (pc' := 59) 0 rfl rfl dX12_plainNumber_58 rfl ?_
          refine z_invV (as := []) (st := []) (C := m_X12_bad) (fs := [0, 3, 0, 0, 0, 0, 4, 5, 6, 7, 8, 9, 10, 0, 0, 11, 12, 13, 14, 15, 16, 0, 0, 0, 17, 18, 19, 20, 0, 0, 0, 21, 22, 0, 0, 23, 0, 1, 24, 0, 0, 25, 26, 0, 27, 0]) (pc' := 62) dX12_plainNumber_59 rfl t_7_13 k_X12_bad rfl (by decide) rfl rfl rfl rfl (Nat.le_of_ble_eq_true rfl) ?_
          have r11 := h
          refine c_M_bad r11 ?_
          show z_Wp m_X12_plainNumber _ 62 [(0, zR 0), (1, zI u1), (2, zI u2)] [] (F_M_bad wu) _
          refine z_iload_n (pc' := 63) 1 rfl rfl dX12_plainNumber_62 rfl ?_
          refine z_iret rfl dX12_plainNumber_63 ?_
          exact k
      · have h := h.2 c
        rw [if_neg c] at k
        refine z_aload_n (pc' := 10) 0 rfl rfl dX12_plainNumber_9 rfl ?_
        refine z_invV (as := []) (st := []) (C := m_X12_here) (fs := [0, 3, 0, 0, 0, 0, 4, 5, 6, 7, 8, 9, 10, 0, 0, 11, 12, 13, 14, 15, 16, 0, 0, 0, 17, 18, 19, 20, 0, 0, 0, 21, 22, 0, 0, 23, 0, 1, 24, 0, 0, 25, 26, 0, 27, 0]) (pc' := 13) dX12_plainNumber_10 rfl t_6_222 k_X12_here rfl (by decide) rfl rfl rfl rfl (Nat.le_of_ble_eq_true rfl) ?_
        obtain ⟨r12, h⟩ := h
        refine c_M_here r12 ?_
        show z_Wp m_X12_plainNumber _ 13 [(0, zR 0), (1, zI u1), (2, zI u2)] [zI (F_M_here wu)] wu _
        refine z_invS (as := [zI (F_M_here wu)]) (st := []) (C := m_X12_isDigit) (pc' := 16) dX12_plainNumber_13 rfl t_7_10 k_X12_isDigit rfl rfl (Nat.le_of_ble_eq_true rfl) ?_
        obtain ⟨r13, h⟩ := h
        refine c_M_isDigit r13 ?_
        show z_Wp m_X12_plainNumber _ 16 [(0, zR 0), (1, zI u1), (2, zI u2)] [zI (F_M_isDigit wu (F_M_here wu))] wu _
        refine z_if_eq 48 dX12_plainNumber_16 (by decide) (pc' := 19) rfl (z_rb b_M_isDigit) (fun c => ?_) (fun c => ?_)
        · have h := h.1 c
          rw [if_pos c] at k
          refine z_aload_n (pc' := 49) 0 rfl rfl dX12_plainNumber_48 rfl ?_
          refine z_invV (as := []) (st := []) (C := m_X12_here) (fs := [0, 3, 0, 0, 0, 0, 4, 5, 6, 7, 8, 9, 10, 0, 0, 11, 12, 13, 14, 15, 16, 0, 0, 0, 17, 18, 19, 20, 0, 0, 0, 21, 22, 0, 0, 23, 0, 1, 24, 0, 0, 25, 26, 0, 27, 0]) (pc' := 52) dX12_plainNumber_49 rfl t_6_222 k_X12_here rfl (by decide) rfl rfl rfl rfl (Nat.le_of_ble_eq_true rfl) ?_
          refine c_M_here r12 ?_
          show z_Wp m_X12_plainNumber _ 52 [(0, zR 0), (1, zI u1), (2, zI u2)] [zI (F_M_here wu)] wu _
          refine z_invS (as := [zI (F_M_here wu)]) (st := []) (C := m_X12_isDigit) (pc' := 55) dX12_plainNumber_52 rfl t_7_10 k_X12_isDigit rfl rfl (Nat.le_of_ble_eq_true rfl) ?_
          refine c_M_isDigit r13 ?_
          show z_Wp m_X12_plainNumber _ 55 [(0, zR 0), (1, zI u1), (2, zI u2)] [zI (F_M_isDigit wu (F_M_here wu))] wu _
          refine z_if_eq 62 dX12_plainNumber_55 (by decide) (pc' := 58) rfl (z_rb b_M_isDigit) (fun c => ?_) (fun c => ?_)
          · have h := h.1 c
            rw [if_pos c] at k
            refine z_iload_n (pc' := 63) 1 rfl rfl dX12_plainNumber_62 rfl ?_
            refine z_iret rfl dX12_plainNumber_63 ?_
            exact k
          · have h := h.2 c
            rw [if_neg c] at k
            refine z_aload_n (pc' := 59) 0 rfl rfl dX12_plainNumber_58 rfl ?_
            refine z_invV (as := []) (st := []) (C := m_X12_bad) (fs := [0, 3, 0, 0, 0, 0, 4, 5, 6, 7, 8, 9, 10, 0, 0, 11, 12, 13, 14, 15, 16, 0, 0, 0, 17, 18, 19, 20, 0, 0, 0, 21, 22, 0, 0, 23, 0, 1, 24, 0, 0, 25, 26, 0, 27, 0]) (pc' := 62) dX12_plainNumber_59 rfl t_7_13 k_X12_bad rfl (by decide) rfl rfl rfl rfl (Nat.le_of_ble_eq_true rfl) ?_
            have r14 := h
            refine c_M_bad r14 ?_
            show z_Wp m_X12_plainNumber _ 62 [(0, zR 0), (1, zI u1), (2, zI u2)] [] (F_M_bad wu) _
            refine z_iload_n (pc' := 63) 1 rfl rfl dX12_plainNumber_62 rfl ?_
            refine z_iret rfl dX12_plainNumber_63 ?_
            exact k
        · have h := h.2 c
          rw [if_neg c] at k
          refine z_bipush (pc' := 21) (by decide) dX12_plainNumber_19 rfl ?_
          refine z_iload_n (pc' := 22) 1 rfl rfl dX12_plainNumber_21 rfl ?_
          refine z_imul (pc' := 23) dX12_plainNumber_22 rfl ?_
          refine z_aload_n (pc' := 24) 0 rfl rfl dX12_plainNumber_23 rfl ?_
          refine z_invV (as := []) (st := [zI (10 * u1)]) (C := m_X12_here) (fs := [0, 3, 0, 0, 0, 0, 4, 5, 6, 7, 8, 9, 10, 0, 0, 11, 12, 13, 14, 15, 16, 0, 0, 0, 17, 18, 19, 20, 0, 0, 0, 21, 22, 0, 0, 23, 0, 1, 24, 0, 0, 25, 26, 0, 27, 0]) (pc' := 27) dX12_plainNumber_24 rfl t_6_222 k_X12_here rfl (by decide) rfl rfl rfl rfl (Nat.le_of_ble_eq_true rfl) ?_
          refine c_M_here r12 ?_
          show z_Wp m_X12_plainNumber _ 27 [(0, zR 0), (1, zI u1), (2, zI u2)] [zI (F_M_here wu), zI (10 * u1)] wu _
          refine z_iadd (pc' := 28) dX12_plainNumber_27 rfl ?_
          refine z_bipush (pc' := 30) (by decide) dX12_plainNumber_28 rfl ?_
          refine z_isub (pc' := 31) dX12_plainNumber_30 rfl ?_
          refine z_istore_n (pc' := 32) (ls' := [(0, zR 0), (1, zI (((10 * u1) + (F_M_here wu)) - 48)), (2, zI u2)]) rfl (by decide) rfl rfl dX12_plainNumber_31 rfl ?_
          refine z_aload_n (pc' := 33) 0 rfl rfl dX12_plainNumber_32 rfl ?_
          refine z_dup (pc' := 34) rfl dX12_plainNumber_33 rfl ?_
          refine z_getI2 (v := wu 0 3) (pc' := 37) g_X12_102 (by decide) rfl rfl rfl dX12_plainNumber_34 rfl ?_
          refine z_iconst (pc' := 38) dX12_plainNumber_37 rfl ?_
          refine z_iadd (pc' := 39) dX12_plainNumber_38 rfl ?_
          refine z_putI (pc' := 42) p_X12_102 (by decide) rfl rfl rfl rfl dX12_plainNumber_39 rfl ?_
          refine z_iinc (pc' := 45) (ls' := [(0, zR 0), (1, zI (((10 * u1) + (F_M_here wu)) - 48)), (2, zI (u2 + 1))]) 2 rfl (by decide) rfl rfl dX12_plainNumber_42 rfl ?_
          refine z_goto 4 dX12_plainNumber_45 (by decide) ?_
          exact ih _ _ _ h k
  exact hl 6 _ _ _ h k
def P_M_closes (w : z_Wd) (a0 : Int) : Prop := (-2147483648 ≤ w 0 4 ∧ w 0 4 < 2147483648) ∧ ((w 0 4 = (-1) → (P_M_look w) ∧ (-2147483648 ≤ (F_M_look w).1 ∧ (F_M_look w).1 < 2147483648) ∧ (-2147483648 ≤ a0 ∧ a0 < 2147483648) ∧ (((F_M_look w).1 = a0 → True) ∧ (¬ ((F_M_look w).1 = a0) → P_M_bad ((F_M_look w).2)))) ∧ (¬ (w 0 4 = (-1)) → True))
def F_M_closes (w : z_Wd) (a0 : Int) : z_Wd := if w 0 4 = (-1) then if (F_M_look w).1 = a0 then z_up (z_up ((F_M_look w).2) 0 3 ((((F_M_look w).2) 0 3) + 1)) 0 5 ((((F_M_look w).2) 0 5) - 1) else z_up (z_up (F_M_bad ((F_M_look w).2)) 0 3 (((F_M_bad ((F_M_look w).2)) 0 3) + 1)) 0 5 (((F_M_bad ((F_M_look w).2)) 0 5) - 1) else z_up (z_up w 0 3 ((w 0 3) + 1)) 0 5 ((w 0 5) - 1)
set_option maxRecDepth 4000 in
theorem c_M_closes {d : Nat} {w : z_Wd} {a0 : Int} {Q : Option z_V → z_Wd → Prop} (h : P_M_closes w a0) (k : Q none (F_M_closes w a0)) : z_Wc (d + 2) m_X12_closes [zR 0, zI a0] w Q := by
  unfold P_M_closes at h
  unfold F_M_closes at k
  refine z_enter rfl (Nat.le_of_ble_eq_true rfl) ?_
  show z_Wp m_X12_closes _ 0 [(0, zR 0), (1, zI a0)] [] w _
  refine z_aload_n (pc' := 1) 0 rfl rfl dX12_closes_0 rfl ?_
  refine z_getI2 (v := w 0 4) (pc' := 4) g_X12_109 (by decide) rfl rfl rfl dX12_closes_1 rfl ?_
  refine z_iconst (pc' := 5) dX12_closes_4 rfl ?_
  obtain ⟨r1, h⟩ := h
  refine z_icmp_ne 20 dX12_closes_5 (by decide) (pc' := 8) rfl r1 (by decide) (fun c => ?_) (fun c => ?_)
  · have h := h.2 c
    rw [if_neg c] at k
    refine z_aload_n (pc' := 21) 0 rfl rfl dX12_closes_20 rfl ?_
    refine z_dup (pc' := 22) rfl dX12_closes_21 rfl ?_
    refine z_getI2 (v := w 0 3) (pc' := 25) g_X12_102 (by decide) rfl rfl rfl dX12_closes_22 rfl ?_
    refine z_iconst (pc' := 26) dX12_closes_25 rfl ?_
    refine z_iadd (pc' := 27) dX12_closes_26 rfl ?_
    refine z_putI (pc' := 30) p_X12_102 (by decide) rfl rfl rfl rfl dX12_closes_27 rfl ?_
    refine z_aload_n (pc' := 31) 0 rfl rfl dX12_closes_30 rfl ?_
    refine z_dup (pc' := 32) rfl dX12_closes_31 rfl ?_
    refine z_getI2 (v := w 0 5) (pc' := 35) g_X12_115 (by decide) rfl rfl rfl dX12_closes_32 rfl ?_
    refine z_iconst (pc' := 36) dX12_closes_35 rfl ?_
    refine z_isub (pc' := 37) dX12_closes_36 rfl ?_
    refine z_putI (pc' := 40) p_X12_115 (by decide) rfl rfl rfl rfl dX12_closes_37 rfl ?_
    refine z_vret rfl dX12_closes_40 ?_
    exact k
  · have h := h.1 c
    rw [if_pos c] at k
    refine z_aload_n (pc' := 9) 0 rfl rfl dX12_closes_8 rfl ?_
    refine z_invV (as := []) (st := []) (C := m_X12_look) (fs := [0, 3, 0, 0, 0, 0, 4, 5, 6, 7, 8, 9, 10, 0, 0, 11, 12, 13, 14, 15, 16, 0, 0, 0, 17, 18, 19, 20, 0, 0, 0, 21, 22, 0, 0, 23, 0, 1, 24, 0, 0, 25, 26, 0, 27, 0]) (pc' := 12) dX12_closes_9 rfl t_6_218 k_X12_look rfl (by decide) rfl rfl rfl rfl (Nat.le_of_ble_eq_true rfl) ?_
    obtain ⟨r2, h⟩ := h
    refine c_M_look r2 ?_
    show z_Wp m_X12_closes _ 12 [(0, zR 0), (1, zI a0)] [zI ((F_M_look w).1)] ((F_M_look w).2) _
    refine z_iload_n (pc' := 13) 1 rfl rfl dX12_closes_12 rfl ?_
    obtain ⟨r3, h⟩ := h
    obtain ⟨r4, h⟩ := h
    refine z_icmp_eq 20 dX12_closes_13 (by decide) (pc' := 16) rfl r3 r4 (fun c => ?_) (fun c => ?_)
    · have h := h.1 c
      rw [if_pos c] at k
      refine z_aload_n (pc' := 21) 0 rfl rfl dX12_closes_20 rfl ?_
      refine z_dup (pc' := 22) rfl dX12_closes_21 rfl ?_
      refine z_getI2 (v := ((F_M_look w).2) 0 3) (pc' := 25) g_X12_102 (by decide) rfl rfl rfl dX12_closes_22 rfl ?_
      refine z_iconst (pc' := 26) dX12_closes_25 rfl ?_
      refine z_iadd (pc' := 27) dX12_closes_26 rfl ?_
      refine z_putI (pc' := 30) p_X12_102 (by decide) rfl rfl rfl rfl dX12_closes_27 rfl ?_
      refine z_aload_n (pc' := 31) 0 rfl rfl dX12_closes_30 rfl ?_
      refine z_dup (pc' := 32) rfl dX12_closes_31 rfl ?_
      refine z_getI2 (v := ((F_M_look w).2) 0 5) (pc' := 35) g_X12_115 (by decide) rfl rfl rfl dX12_closes_32 rfl ?_
      refine z_iconst (pc' := 36) dX12_closes_35 rfl ?_
      refine z_isub (pc' := 37) dX12_closes_36 rfl ?_
      refine z_putI (pc' := 40) p_X12_115 (by decide) rfl rfl rfl rfl dX12_closes_37 rfl ?_
      refine z_vret rfl dX12_closes_40 ?_
      exact k
    · have h := h.2 c
      rw [if_neg c] at k
      refine z_aload_n (pc' := 17) 0 rfl rfl dX12_closes_16 rfl ?_
      refine z_invV (as := []) (st := []) (C := m_X12_bad) (fs := [0, 3, 0, 0, 0, 0, 4, 5, 6, 7, 8, 9, 10, 0, 0, 11, 12, 13, 14, 15, 16, 0, 0, 0, 17, 18, 19, 20, 0, 0, 0, 21, 22, 0, 0, 23, 0, 1, 24, 0, 0, 25, 26, 0, 27, 0]) (pc' := 20) dX12_closes_17 rfl t_7_13 k_X12_bad rfl (by decide) rfl rfl rfl rfl (Nat.le_of_ble_eq_true rfl) ?_
      have r5 := h
      refine c_M_bad r5 ?_
      show z_Wp m_X12_closes _ 20 [(0, zR 0), (1, zI a0)] [] (F_M_bad ((F_M_look w).2)) _
      refine z_aload_n (pc' := 21) 0 rfl rfl dX12_closes_20 rfl ?_
      refine z_dup (pc' := 22) rfl dX12_closes_21 rfl ?_
      refine z_getI2 (v := (F_M_bad ((F_M_look w).2)) 0 3) (pc' := 25) g_X12_102 (by decide) rfl rfl rfl dX12_closes_22 rfl ?_
      refine z_iconst (pc' := 26) dX12_closes_25 rfl ?_
      refine z_iadd (pc' := 27) dX12_closes_26 rfl ?_
      refine z_putI (pc' := 30) p_X12_102 (by decide) rfl rfl rfl rfl dX12_closes_27 rfl ?_
      refine z_aload_n (pc' := 31) 0 rfl rfl dX12_closes_30 rfl ?_
      refine z_dup (pc' := 32) rfl dX12_closes_31 rfl ?_
      refine z_getI2 (v := (F_M_bad ((F_M_look w).2)) 0 5) (pc' := 35) g_X12_115 (by decide) rfl rfl rfl dX12_closes_32 rfl ?_
      refine z_iconst (pc' := 36) dX12_closes_35 rfl ?_
      refine z_isub (pc' := 37) dX12_closes_36 rfl ?_
      refine z_putI (pc' := 40) p_X12_115 (by decide) rfl rfl rfl rfl dX12_closes_37 rfl ?_
      refine z_vret rfl dX12_closes_40 ?_
      exact k
def P_M_number (w : z_Wd) (a0 : Int) (a1 : Int) : Prop := (P_M_look w) ∧ (P_M_isDigit ((F_M_look w).2) ((F_M_look w).1)) ∧ ((F_M_isDigit ((F_M_look w).2) ((F_M_look w).1) = 0 → P_M_bad ((F_M_look w).2)) ∧ (¬ (F_M_isDigit ((F_M_look w).2) ((F_M_look w).1) = 0) → (P_M_here ((F_M_look w).2)) ∧ (P_M_here (z_up ((F_M_look w).2) 0 3 ((((F_M_look w).2) 0 3) + 1))) ∧ (P_M_isDigit (z_up ((F_M_look w).2) 0 3 ((((F_M_look w).2) 0 3) + 1)) (F_M_here (z_up ((F_M_look w).2) 0 3 ((((F_M_look w).2) 0 3) + 1)))) ∧ ((F_M_isDigit (z_up ((F_M_look w).2) 0 3 ((((F_M_look w).2) 0 3) + 1)) (F_M_here (z_up ((F_M_look w).2) 0 3 ((((F_M_look w).2) 0 3) + 1))) = 0 → (F_M_isDigit (z_up ((F_M_look w).2) 0 3 ((((F_M_look w).2) 0 3) + 1)) (F_M_here (z_up ((F_M_look w).2) 0 3 ((((F_M_look w).2) 0 3) + 1))) = 0 → (P_M_in (z_up ((F_M_look w).2) 0 3 ((((F_M_look w).2) 0 3) + 1)) ((F_M_here ((F_M_look w).2)) - 48) a0 a1) ∧ ((F_M_in (z_up ((F_M_look w).2) 0 3 ((((F_M_look w).2) 0 3) + 1)) ((F_M_here ((F_M_look w).2)) - 48) a0 a1 = 0 → P_M_bad (z_up (z_up ((F_M_look w).2) 0 3 ((((F_M_look w).2) 0 3) + 1)) 0 3 (((((F_M_look w).2) 0 3) + 1) - 1))) ∧ (¬ (F_M_in (z_up ((F_M_look w).2) 0 3 ((((F_M_look w).2) 0 3) + 1)) ((F_M_here ((F_M_look w).2)) - 48) a0 a1 = 0) → True))) ∧ (¬ (F_M_isDigit (z_up ((F_M_look w).2) 0 3 ((((F_M_look w).2) 0 3) + 1)) (F_M_here (z_up ((F_M_look w).2) 0 3 ((((F_M_look w).2) 0 3) + 1))) = 0) → P_M_bad (z_up ((F_M_look w).2) 0 3 ((((F_M_look w).2) 0 3) + 1)))) ∧ (¬ (F_M_isDigit (z_up ((F_M_look w).2) 0 3 ((((F_M_look w).2) 0 3) + 1)) (F_M_here (z_up ((F_M_look w).2) 0 3 ((((F_M_look w).2) 0 3) + 1))) = 0) → (P_M_here (z_up (z_up ((F_M_look w).2) 0 3 ((((F_M_look w).2) 0 3) + 1)) 0 3 (((((F_M_look w).2) 0 3) + 1) + 1))) ∧ (P_M_isDigit (z_up (z_up ((F_M_look w).2) 0 3 ((((F_M_look w).2) 0 3) + 1)) 0 3 (((((F_M_look w).2) 0 3) + 1) + 1)) (F_M_here (z_up (z_up ((F_M_look w).2) 0 3 ((((F_M_look w).2) 0 3) + 1)) 0 3 (((((F_M_look w).2) 0 3) + 1) + 1)))) ∧ ((F_M_isDigit (z_up (z_up ((F_M_look w).2) 0 3 ((((F_M_look w).2) 0 3) + 1)) 0 3 (((((F_M_look w).2) 0 3) + 1) + 1)) (F_M_here (z_up (z_up ((F_M_look w).2) 0 3 ((((F_M_look w).2) 0 3) + 1)) 0 3 (((((F_M_look w).2) 0 3) + 1) + 1))) = 0 → (P_M_in (z_up (z_up ((F_M_look w).2) 0 3 ((((F_M_look w).2) 0 3) + 1)) 0 3 (((((F_M_look w).2) 0 3) + 1) + 1)) (((10 * ((F_M_here ((F_M_look w).2)) - 48)) + (F_M_here (z_up ((F_M_look w).2) 0 3 ((((F_M_look w).2) 0 3) + 1)))) - 48) a0 a1) ∧ ((F_M_in (z_up (z_up ((F_M_look w).2) 0 3 ((((F_M_look w).2) 0 3) + 1)) 0 3 (((((F_M_look w).2) 0 3) + 1) + 1)) (((10 * ((F_M_here ((F_M_look w).2)) - 48)) + (F_M_here (z_up ((F_M_look w).2) 0 3 ((((F_M_look w).2) 0 3) + 1)))) - 48) a0 a1 = 0 → P_M_bad (z_up (z_up (z_up ((F_M_look w).2) 0 3 ((((F_M_look w).2) 0 3) + 1)) 0 3 (((((F_M_look w).2) 0 3) + 1) + 1)) 0 3 ((((((F_M_look w).2) 0 3) + 1) + 1) - 1))) ∧ (¬ (F_M_in (z_up (z_up ((F_M_look w).2) 0 3 ((((F_M_look w).2) 0 3) + 1)) 0 3 (((((F_M_look w).2) 0 3) + 1) + 1)) (((10 * ((F_M_here ((F_M_look w).2)) - 48)) + (F_M_here (z_up ((F_M_look w).2) 0 3 ((((F_M_look w).2) 0 3) + 1)))) - 48) a0 a1 = 0) → True))) ∧ (¬ (F_M_isDigit (z_up (z_up ((F_M_look w).2) 0 3 ((((F_M_look w).2) 0 3) + 1)) 0 3 (((((F_M_look w).2) 0 3) + 1) + 1)) (F_M_here (z_up (z_up ((F_M_look w).2) 0 3 ((((F_M_look w).2) 0 3) + 1)) 0 3 (((((F_M_look w).2) 0 3) + 1) + 1))) = 0) → P_M_bad (z_up (z_up ((F_M_look w).2) 0 3 ((((F_M_look w).2) 0 3) + 1)) 0 3 (((((F_M_look w).2) 0 3) + 1) + 1))))))))
def F_M_number (w : z_Wd) (a0 : Int) (a1 : Int) : Int × z_Wd := if F_M_isDigit ((F_M_look w).2) ((F_M_look w).1) = 0 then (a0, F_M_bad ((F_M_look w).2)) else if F_M_isDigit (z_up ((F_M_look w).2) 0 3 ((((F_M_look w).2) 0 3) + 1)) (F_M_here (z_up ((F_M_look w).2) 0 3 ((((F_M_look w).2) 0 3) + 1))) = 0 then if F_M_isDigit (z_up ((F_M_look w).2) 0 3 ((((F_M_look w).2) 0 3) + 1)) (F_M_here (z_up ((F_M_look w).2) 0 3 ((((F_M_look w).2) 0 3) + 1))) = 0 then if F_M_in (z_up ((F_M_look w).2) 0 3 ((((F_M_look w).2) 0 3) + 1)) ((F_M_here ((F_M_look w).2)) - 48) a0 a1 = 0 then ((F_M_here ((F_M_look w).2)) - 48, F_M_bad (z_up (z_up ((F_M_look w).2) 0 3 ((((F_M_look w).2) 0 3) + 1)) 0 3 (((((F_M_look w).2) 0 3) + 1) - 1))) else ((F_M_here ((F_M_look w).2)) - 48, z_up ((F_M_look w).2) 0 3 ((((F_M_look w).2) 0 3) + 1)) else ((F_M_here ((F_M_look w).2)) - 48, F_M_bad (z_up ((F_M_look w).2) 0 3 ((((F_M_look w).2) 0 3) + 1))) else if F_M_isDigit (z_up (z_up ((F_M_look w).2) 0 3 ((((F_M_look w).2) 0 3) + 1)) 0 3 (((((F_M_look w).2) 0 3) + 1) + 1)) (F_M_here (z_up (z_up ((F_M_look w).2) 0 3 ((((F_M_look w).2) 0 3) + 1)) 0 3 (((((F_M_look w).2) 0 3) + 1) + 1))) = 0 then if F_M_in (z_up (z_up ((F_M_look w).2) 0 3 ((((F_M_look w).2) 0 3) + 1)) 0 3 (((((F_M_look w).2) 0 3) + 1) + 1)) (((10 * ((F_M_here ((F_M_look w).2)) - 48)) + (F_M_here (z_up ((F_M_look w).2) 0 3 ((((F_M_look w).2) 0 3) + 1)))) - 48) a0 a1 = 0 then (((10 * ((F_M_here ((F_M_look w).2)) - 48)) + (F_M_here (z_up ((F_M_look w).2) 0 3 ((((F_M_look w).2) 0 3) + 1)))) - 48, F_M_bad (z_up (z_up (z_up ((F_M_look w).2) 0 3 ((((F_M_look w).2) 0 3) + 1)) 0 3 (((((F_M_look w).2) 0 3) + 1) + 1)) 0 3 ((((((F_M_look w).2) 0 3) + 1) + 1) - 1))) else (((10 * ((F_M_here ((F_M_look w).2)) - 48)) + (F_M_here (z_up ((F_M_look w).2) 0 3 ((((F_M_look w).2) 0 3) + 1)))) - 48, z_up (z_up ((F_M_look w).2) 0 3 ((((F_M_look w).2) 0 3) + 1)) 0 3 (((((F_M_look w).2) 0 3) + 1) + 1)) else (((10 * ((F_M_here ((F_M_look w).2)) - 48)) + (F_M_here (z_up ((F_M_look w).2) 0 3 ((((F_M_look w).2) 0 3) + 1)))) - 48, F_M_bad (z_up (z_up ((F_M_look w).2) 0 3 ((((F_M_look w).2) 0 3) + 1)) 0 3 (((((F_M_look w).2) 0 3) + 1) + 1)))
set_option maxRecDepth 4000 in
theorem c_M_number {d : Nat} {w : z_Wd} {a0 a1 : Int} {Q : Option z_V → z_Wd → Prop} (h : P_M_number w a0 a1) (k : Q (some (zI (F_M_number w a0 a1).1)) (F_M_number w a0 a1).2) : z_Wc (d + 2) m_X12_number [zR 0, zI a0, zI a1] w Q := by
  unfold P_M_number at h
  unfold F_M_number at k
  refine z_enter rfl (Nat.le_of_ble_eq_true rfl) ?_
  show z_Wp m_X12_number _ 0 [(0, zR 0), (1, zI a0), (2, zI a1)] [] w _
  refine z_aload_n (pc' := 1) 0 rfl rfl dX12_number_0 rfl ?_
  refine z_invV (as := []) (st := []) (C := m_X12_look) (fs := [0, 3, 0, 0, 0, 0, 4, 5, 6, 7, 8, 9, 10, 0, 0, 11, 12, 13, 14, 15, 16, 0, 0, 0, 17, 18, 19, 20, 0, 0, 0, 21, 22, 0, 0, 23, 0, 1, 24, 0, 0, 25, 26, 0, 27, 0]) (pc' := 4) dX12_number_1 rfl t_6_218 k_X12_look rfl (by decide) rfl rfl rfl rfl (Nat.le_of_ble_eq_true rfl) ?_
  obtain ⟨r1, h⟩ := h
  refine c_M_look r1 ?_
  show z_Wp m_X12_number _ 4 [(0, zR 0), (1, zI a0), (2, zI a1)] [zI ((F_M_look w).1)] ((F_M_look w).2) _
  refine z_invS (as := [zI ((F_M_look w).1)]) (st := []) (C := m_X12_isDigit) (pc' := 7) dX12_number_4 rfl t_7_10 k_X12_isDigit rfl rfl (Nat.le_of_ble_eq_true rfl) ?_
  obtain ⟨r2, h⟩ := h
  refine c_M_isDigit r2 ?_
  show z_Wp m_X12_number _ 7 [(0, zR 0), (1, zI a0), (2, zI a1)] [zI (F_M_isDigit ((F_M_look w).2) ((F_M_look w).1))] ((F_M_look w).2) _
  refine z_if_ne 16 dX12_number_7 (by decide) (pc' := 10) rfl (z_rb b_M_isDigit) (fun c => ?_) (fun c => ?_)
  · have h := h.2 c
    rw [if_neg c] at k
    refine z_aload_n (pc' := 17) 0 rfl rfl dX12_number_16 rfl ?_
    refine z_invV (as := []) (st := []) (C := m_X12_here) (fs := [0, 3, 0, 0, 0, 0, 4, 5, 6, 7, 8, 9, 10, 0, 0, 11, 12, 13, 14, 15, 16, 0, 0, 0, 17, 18, 19, 20, 0, 0, 0, 21, 22, 0, 0, 23, 0, 1, 24, 0, 0, 25, 26, 0, 27, 0]) (pc' := 20) dX12_number_17 rfl t_6_222 k_X12_here rfl (by decide) rfl rfl rfl rfl (Nat.le_of_ble_eq_true rfl) ?_
    obtain ⟨r3, h⟩ := h
    refine c_M_here r3 ?_
    show z_Wp m_X12_number _ 20 [(0, zR 0), (1, zI a0), (2, zI a1)] [zI (F_M_here ((F_M_look w).2))] ((F_M_look w).2) _
    refine z_bipush (pc' := 22) (by decide) dX12_number_20 rfl ?_
    refine z_isub (pc' := 23) dX12_number_22 rfl ?_
    refine z_istore_n (pc' := 24) (ls' := [(0, zR 0), (1, zI a0), (2, zI a1), (3, zI ((F_M_here ((F_M_look w).2)) - 48))]) rfl (by decide) rfl rfl dX12_number_23 rfl ?_
    refine z_aload_n (pc' := 25) 0 rfl rfl dX12_number_24 rfl ?_
    refine z_dup (pc' := 26) rfl dX12_number_25 rfl ?_
    refine z_getI2 (v := ((F_M_look w).2) 0 3) (pc' := 29) g_X12_102 (by decide) rfl rfl rfl dX12_number_26 rfl ?_
    refine z_iconst (pc' := 30) dX12_number_29 rfl ?_
    refine z_iadd (pc' := 31) dX12_number_30 rfl ?_
    refine z_putI (pc' := 34) p_X12_102 (by decide) rfl rfl rfl rfl dX12_number_31 rfl ?_
    refine z_aload_n (pc' := 35) 0 rfl rfl dX12_number_34 rfl ?_
    refine z_invV (as := []) (st := []) (C := m_X12_here) (fs := [0, 3, 0, 0, 0, 0, 4, 5, 6, 7, 8, 9, 10, 0, 0, 11, 12, 13, 14, 15, 16, 0, 0, 0, 17, 18, 19, 20, 0, 0, 0, 21, 22, 0, 0, 23, 0, 1, 24, 0, 0, 25, 26, 0, 27, 0]) (pc' := 38) dX12_number_35 rfl t_6_222 k_X12_here rfl (by decide) rfl rfl rfl rfl (Nat.le_of_ble_eq_true rfl) ?_
    obtain ⟨r4, h⟩ := h
    refine c_M_here r4 ?_
    show z_Wp m_X12_number _ 38 [(0, zR 0), (1, zI a0), (2, zI a1), (3, zI ((F_M_here ((F_M_look w).2)) - 48))] [zI (F_M_here (z_up ((F_M_look w).2) 0 3 ((((F_M_look w).2) 0 3) + 1)))] (z_up ((F_M_look w).2) 0 3 ((((F_M_look w).2) 0 3) + 1)) _
    refine z_invS (as := [zI (F_M_here (z_up ((F_M_look w).2) 0 3 ((((F_M_look w).2) 0 3) + 1)))]) (st := []) (C := m_X12_isDigit) (pc' := 41) dX12_number_38 rfl t_7_10 k_X12_isDigit rfl rfl (Nat.le_of_ble_eq_true rfl) ?_
    obtain ⟨r5, h⟩ := h
    refine c_M_isDigit r5 ?_
    show z_Wp m_X12_number _ 41 [(0, zR 0), (1, zI a0), (2, zI a1), (3, zI ((F_M_here ((F_M_look w).2)) - 48))] [zI (F_M_isDigit (z_up ((F_M_look w).2) 0 3 ((((F_M_look w).2) 0 3) + 1)) (F_M_here (z_up ((F_M_look w).2) 0 3 ((((F_M_look w).2) 0 3) + 1))))] (z_up ((F_M_look w).2) 0 3 ((((F_M_look w).2) 0 3) + 1)) _
    refine z_if_eq 67 dX12_number_41 (by decide) (pc' := 44) rfl (z_rb b_M_isDigit) (fun c => ?_) (fun c => ?_)
    · have h := h.1 c
      rw [if_pos c] at k
      refine z_aload_n (pc' := 68) 0 rfl rfl dX12_number_67 rfl ?_
      refine z_invV (as := []) (st := []) (C := m_X12_here) (fs := [0, 3, 0, 0, 0, 0, 4, 5, 6, 7, 8, 9, 10, 0, 0, 11, 12, 13, 14, 15, 16, 0, 0, 0, 17, 18, 19, 20, 0, 0, 0, 21, 22, 0, 0, 23, 0, 1, 24, 0, 0, 25, 26, 0, 27, 0]) (pc' := 71) dX12_number_68 rfl t_6_222 k_X12_here rfl (by decide) rfl rfl rfl rfl (Nat.le_of_ble_eq_true rfl) ?_
      refine c_M_here r4 ?_
      show z_Wp m_X12_number _ 71 [(0, zR 0), (1, zI a0), (2, zI a1), (3, zI ((F_M_here ((F_M_look w).2)) - 48))] [zI (F_M_here (z_up ((F_M_look w).2) 0 3 ((((F_M_look w).2) 0 3) + 1)))] (z_up ((F_M_look w).2) 0 3 ((((F_M_look w).2) 0 3) + 1)) _
      refine z_invS (as := [zI (F_M_here (z_up ((F_M_look w).2) 0 3 ((((F_M_look w).2) 0 3) + 1)))]) (st := []) (C := m_X12_isDigit) (pc' := 74) dX12_number_71 rfl t_7_10 k_X12_isDigit rfl rfl (Nat.le_of_ble_eq_true rfl) ?_
      refine c_M_isDigit r5 ?_
      show z_Wp m_X12_number _ 74 [(0, zR 0), (1, zI a0), (2, zI a1), (3, zI ((F_M_here ((F_M_look w).2)) - 48))] [zI (F_M_isDigit (z_up ((F_M_look w).2) 0 3 ((((F_M_look w).2) 0 3) + 1)) (F_M_here (z_up ((F_M_look w).2) 0 3 ((((F_M_look w).2) 0 3) + 1))))] (z_up ((F_M_look w).2) 0 3 ((((F_M_look w).2) 0 3) + 1)) _
      refine z_if_eq 84 dX12_number_74 (by decide) (pc' := 77) rfl (z_rb b_M_isDigit) (fun c => ?_) (fun c => ?_)
      · have h := h.1 c
        rw [if_pos c] at k
        refine z_iload_n (pc' := 85) 3 rfl rfl dX12_number_84 rfl ?_
        refine z_iload_n (pc' := 86) 1 rfl rfl dX12_number_85 rfl ?_
        refine z_iload_n (pc' := 87) 2 rfl rfl dX12_number_86 rfl ?_
        refine z_invS (as := [zI ((F_M_here ((F_M_look w).2)) - 48), zI a0, zI a1]) (st := []) (C := m_X12_in) (pc' := 90) dX12_number_87 rfl t_7_17 k_X12_in rfl rfl (Nat.le_of_ble_eq_true rfl) ?_
        obtain ⟨r6, h⟩ := h
        refine c_M_in r6 ?_
        show z_Wp m_X12_number _ 90 [(0, zR 0), (1, zI a0), (2, zI a1), (3, zI ((F_M_here ((F_M_look w).2)) - 48))] [zI (F_M_in (z_up ((F_M_look w).2) 0 3 ((((F_M_look w).2) 0 3) + 1)) ((F_M_here ((F_M_look w).2)) - 48) a0 a1)] (z_up ((F_M_look w).2) 0 3 ((((F_M_look w).2) 0 3) + 1)) _
        refine z_if_ne 107 dX12_number_90 (by decide) (pc' := 93) rfl (z_rb b_M_in) (fun c => ?_) (fun c => ?_)
        · have h := h.2 c
          rw [if_neg c] at k
          refine z_iload_n (pc' := 108) 3 rfl rfl dX12_number_107 rfl ?_
          refine z_iret rfl dX12_number_108 ?_
          exact k
        · have h := h.1 c
          rw [if_pos c] at k
          refine z_aload_n (pc' := 94) 0 rfl rfl dX12_number_93 rfl ?_
          refine z_dup (pc' := 95) rfl dX12_number_94 rfl ?_
          refine z_getI2 (v := (((F_M_look w).2) 0 3) + 1) (pc' := 98) g_X12_102 (by decide) rfl rfl rfl dX12_number_95 rfl ?_
          refine z_iconst (pc' := 99) dX12_number_98 rfl ?_
          refine z_isub (pc' := 100) dX12_number_99 rfl ?_
          refine z_putI (pc' := 103) p_X12_102 (by decide) rfl rfl rfl rfl dX12_number_100 rfl ?_
          refine z_aload_n (pc' := 104) 0 rfl rfl dX12_number_103 rfl ?_
          refine z_invV (as := []) (st := []) (C := m_X12_bad) (fs := [0, 3, 0, 0, 0, 0, 4, 5, 6, 7, 8, 9, 10, 0, 0, 11, 12, 13, 14, 15, 16, 0, 0, 0, 17, 18, 19, 20, 0, 0, 0, 21, 22, 0, 0, 23, 0, 1, 24, 0, 0, 25, 26, 0, 27, 0]) (pc' := 107) dX12_number_104 rfl t_7_13 k_X12_bad rfl (by decide) rfl rfl rfl rfl (Nat.le_of_ble_eq_true rfl) ?_
          have r7 := h
          refine c_M_bad r7 ?_
          show z_Wp m_X12_number _ 107 [(0, zR 0), (1, zI a0), (2, zI a1), (3, zI ((F_M_here ((F_M_look w).2)) - 48))] [] (F_M_bad (z_up (z_up ((F_M_look w).2) 0 3 ((((F_M_look w).2) 0 3) + 1)) 0 3 (((((F_M_look w).2) 0 3) + 1) - 1))) _
          refine z_iload_n (pc' := 108) 3 rfl rfl dX12_number_107 rfl ?_
          refine z_iret rfl dX12_number_108 ?_
          exact k
      · have h := h.2 c
        rw [if_neg c] at k
        refine z_aload_n (pc' := 78) 0 rfl rfl dX12_number_77 rfl ?_
        refine z_invV (as := []) (st := []) (C := m_X12_bad) (fs := [0, 3, 0, 0, 0, 0, 4, 5, 6, 7, 8, 9, 10, 0, 0, 11, 12, 13, 14, 15, 16, 0, 0, 0, 17, 18, 19, 20, 0, 0, 0, 21, 22, 0, 0, 23, 0, 1, 24, 0, 0, 25, 26, 0, 27, 0]) (pc' := 81) dX12_number_78 rfl t_7_13 k_X12_bad rfl (by decide) rfl rfl rfl rfl (Nat.le_of_ble_eq_true rfl) ?_
        have r8 := h
        refine c_M_bad r8 ?_
        show z_Wp m_X12_number _ 81 [(0, zR 0), (1, zI a0), (2, zI a1), (3, zI ((F_M_here ((F_M_look w).2)) - 48))] [] (F_M_bad (z_up ((F_M_look w).2) 0 3 ((((F_M_look w).2) 0 3) + 1))) _
        refine z_goto 107 dX12_number_81 (by decide) ?_
        refine z_iload_n (pc' := 108) 3 rfl rfl dX12_number_107 rfl ?_
        refine z_iret rfl dX12_number_108 ?_
        exact k
    · have h := h.2 c
      rw [if_neg c] at k
      refine z_bipush (pc' := 46) (by decide) dX12_number_44 rfl ?_
      refine z_iload_n (pc' := 47) 3 rfl rfl dX12_number_46 rfl ?_
      refine z_imul (pc' := 48) dX12_number_47 rfl ?_
      refine z_aload_n (pc' := 49) 0 rfl rfl dX12_number_48 rfl ?_
      refine z_invV (as := []) (st := [zI (10 * ((F_M_here ((F_M_look w).2)) - 48))]) (C := m_X12_here) (fs := [0, 3, 0, 0, 0, 0, 4, 5, 6, 7, 8, 9, 10, 0, 0, 11, 12, 13, 14, 15, 16, 0, 0, 0, 17, 18, 19, 20, 0, 0, 0, 21, 22, 0, 0, 23, 0, 1, 24, 0, 0, 25, 26, 0, 27, 0]) (pc' := 52) dX12_number_49 rfl t_6_222 k_X12_here rfl (by decide) rfl rfl rfl rfl (Nat.le_of_ble_eq_true rfl) ?_
      refine c_M_here r4 ?_
      show z_Wp m_X12_number _ 52 [(0, zR 0), (1, zI a0), (2, zI a1), (3, zI ((F_M_here ((F_M_look w).2)) - 48))] [zI (F_M_here (z_up ((F_M_look w).2) 0 3 ((((F_M_look w).2) 0 3) + 1))), zI (10 * ((F_M_here ((F_M_look w).2)) - 48))] (z_up ((F_M_look w).2) 0 3 ((((F_M_look w).2) 0 3) + 1)) _
      refine z_iadd (pc' := 53) dX12_number_52 rfl ?_
      refine z_bipush (pc' := 55) (by decide) dX12_number_53 rfl ?_
      refine z_isub (pc' := 56) dX12_number_55 rfl ?_
      refine z_istore_n (pc' := 57) (ls' := [(0, zR 0), (1, zI a0), (2, zI a1), (3, zI (((10 * ((F_M_here ((F_M_look w).2)) - 48)) + (F_M_here (z_up ((F_M_look w).2) 0 3 ((((F_M_look w).2) 0 3) + 1)))) - 48))]) rfl (by decide) rfl rfl dX12_number_56 rfl ?_
      refine z_aload_n (pc' := 58) 0 rfl rfl dX12_number_57 rfl ?_
      refine z_dup (pc' := 59) rfl dX12_number_58 rfl ?_
      refine z_getI2 (v := (((F_M_look w).2) 0 3) + 1) (pc' := 62) g_X12_102 (by decide) rfl rfl rfl dX12_number_59 rfl ?_
      refine z_iconst (pc' := 63) dX12_number_62 rfl ?_
      refine z_iadd (pc' := 64) dX12_number_63 rfl ?_
      refine z_putI (pc' := 67) p_X12_102 (by decide) rfl rfl rfl rfl dX12_number_64 rfl ?_
      refine z_aload_n (pc' := 68) 0 rfl rfl dX12_number_67 rfl ?_
      refine z_invV (as := []) (st := []) (C := m_X12_here) (fs := [0, 3, 0, 0, 0, 0, 4, 5, 6, 7, 8, 9, 10, 0, 0, 11, 12, 13, 14, 15, 16, 0, 0, 0, 17, 18, 19, 20, 0, 0, 0, 21, 22, 0, 0, 23, 0, 1, 24, 0, 0, 25, 26, 0, 27, 0]) (pc' := 71) dX12_number_68 rfl t_6_222 k_X12_here rfl (by decide) rfl rfl rfl rfl (Nat.le_of_ble_eq_true rfl) ?_
      obtain ⟨r9, h⟩ := h
      refine c_M_here r9 ?_
      show z_Wp m_X12_number _ 71 [(0, zR 0), (1, zI a0), (2, zI a1), (3, zI (((10 * ((F_M_here ((F_M_look w).2)) - 48)) + (F_M_here (z_up ((F_M_look w).2) 0 3 ((((F_M_look w).2) 0 3) + 1)))) - 48))] [zI (F_M_here (z_up (z_up ((F_M_look w).2) 0 3 ((((F_M_look w).2) 0 3) + 1)) 0 3 (((((F_M_look w).2) 0 3) + 1) + 1)))] (z_up (z_up ((F_M_look w).2) 0 3 ((((F_M_look w).2) 0 3) + 1)) 0 3 (((((F_M_look w).2) 0 3) + 1) + 1)) _
      refine z_invS (as := [zI (F_M_here (z_up (z_up ((F_M_look w).2) 0 3 ((((F_M_look w).2) 0 3) + 1)) 0 3 (((((F_M_look w).2) 0 3) + 1) + 1)))]) (st := []) (C := m_X12_isDigit) (pc' := 74) dX12_number_71 rfl t_7_10 k_X12_isDigit rfl rfl (Nat.le_of_ble_eq_true rfl) ?_
      obtain ⟨r10, h⟩ := h
      refine c_M_isDigit r10 ?_
      show z_Wp m_X12_number _ 74 [(0, zR 0), (1, zI a0), (2, zI a1), (3, zI (((10 * ((F_M_here ((F_M_look w).2)) - 48)) + (F_M_here (z_up ((F_M_look w).2) 0 3 ((((F_M_look w).2) 0 3) + 1)))) - 48))] [zI (F_M_isDigit (z_up (z_up ((F_M_look w).2) 0 3 ((((F_M_look w).2) 0 3) + 1)) 0 3 (((((F_M_look w).2) 0 3) + 1) + 1)) (F_M_here (z_up (z_up ((F_M_look w).2) 0 3 ((((F_M_look w).2) 0 3) + 1)) 0 3 (((((F_M_look w).2) 0 3) + 1) + 1))))] (z_up (z_up ((F_M_look w).2) 0 3 ((((F_M_look w).2) 0 3) + 1)) 0 3 (((((F_M_look w).2) 0 3) + 1) + 1)) _
      refine z_if_eq 84 dX12_number_74 (by decide) (pc' := 77) rfl (z_rb b_M_isDigit) (fun c => ?_) (fun c => ?_)
      · have h := h.1 c
        rw [if_pos c] at k
        refine z_iload_n (pc' := 85) 3 rfl rfl dX12_number_84 rfl ?_
        refine z_iload_n (pc' := 86) 1 rfl rfl dX12_number_85 rfl ?_
        refine z_iload_n (pc' := 87) 2 rfl rfl dX12_number_86 rfl ?_
        refine z_invS (as := [zI (((10 * ((F_M_here ((F_M_look w).2)) - 48)) + (F_M_here (z_up ((F_M_look w).2) 0 3 ((((F_M_look w).2) 0 3) + 1)))) - 48), zI a0, zI a1]) (st := []) (C := m_X12_in) (pc' := 90) dX12_number_87 rfl t_7_17 k_X12_in rfl rfl (Nat.le_of_ble_eq_true rfl) ?_
        obtain ⟨r11, h⟩ := h
        refine c_M_in r11 ?_
        show z_Wp m_X12_number _ 90 [(0, zR 0), (1, zI a0), (2, zI a1), (3, zI (((10 * ((F_M_here ((F_M_look w).2)) - 48)) + (F_M_here (z_up ((F_M_look w).2) 0 3 ((((F_M_look w).2) 0 3) + 1)))) - 48))] [zI (F_M_in (z_up (z_up ((F_M_look w).2) 0 3 ((((F_M_look w).2) 0 3) + 1)) 0 3 (((((F_M_look w).2) 0 3) + 1) + 1)) (((10 * ((F_M_here ((F_M_look w).2)) - 48)) + (F_M_here (z_up ((F_M_look w).2) 0 3 ((((F_M_look w).2) 0 3) + 1)))) - 48) a0 a1)] (z_up (z_up ((F_M_look w).2) 0 3 ((((F_M_look w).2) 0 3) + 1)) 0 3 (((((F_M_look w).2) 0 3) + 1) + 1)) _
        refine z_if_ne 107 dX12_number_90 (by decide) (pc' := 93) rfl (z_rb b_M_in) (fun c => ?_) (fun c => ?_)
        · have h := h.2 c
          rw [if_neg c] at k
          refine z_iload_n (pc' := 108) 3 rfl rfl dX12_number_107 rfl ?_
          refine z_iret rfl dX12_number_108 ?_
          exact k
        · have h := h.1 c
          rw [if_pos c] at k
          refine z_aload_n (pc' := 94) 0 rfl rfl dX12_number_93 rfl ?_
          refine z_dup (pc' := 95) rfl dX12_number_94 rfl ?_
          refine z_getI2 (v := ((((F_M_look w).2) 0 3) + 1) + 1) (pc' := 98) g_X12_102 (by decide) rfl rfl rfl dX12_number_95 rfl ?_
          refine z_iconst (pc' := 99) dX12_number_98 rfl ?_
          refine z_isub (pc' := 100) dX12_number_99 rfl ?_
          refine z_putI (pc' := 103) p_X12_102 (by decide) rfl rfl rfl rfl dX12_number_100 rfl ?_
          refine z_aload_n (pc' := 104) 0 rfl rfl dX12_number_103 rfl ?_
          refine z_invV (as := []) (st := []) (C := m_X12_bad) (fs := [0, 3, 0, 0, 0, 0, 4, 5, 6, 7, 8, 9, 10, 0, 0, 11, 12, 13, 14, 15, 16, 0, 0, 0, 17, 18, 19, 20, 0, 0, 0, 21, 22, 0, 0, 23, 0, 1, 24, 0, 0, 25, 26, 0, 27, 0]) (pc' := 107) dX12_number_104 rfl t_7_13 k_X12_bad rfl (by decide) rfl rfl rfl rfl (Nat.le_of_ble_eq_true rfl) ?_
          have r12 := h
          refine c_M_bad r12 ?_
          show z_Wp m_X12_number _ 107 [(0, zR 0), (1, zI a0), (2, zI a1), (3, zI (((10 * ((F_M_here ((F_M_look w).2)) - 48)) + (F_M_here (z_up ((F_M_look w).2) 0 3 ((((F_M_look w).2) 0 3) + 1)))) - 48))] [] (F_M_bad (z_up (z_up (z_up ((F_M_look w).2) 0 3 ((((F_M_look w).2) 0 3) + 1)) 0 3 (((((F_M_look w).2) 0 3) + 1) + 1)) 0 3 ((((((F_M_look w).2) 0 3) + 1) + 1) - 1))) _
          refine z_iload_n (pc' := 108) 3 rfl rfl dX12_number_107 rfl ?_
          refine z_iret rfl dX12_number_108 ?_
          exact k
      · have h := h.2 c
        rw [if_neg c] at k
        refine z_aload_n (pc' := 78) 0 rfl rfl dX12_number_77 rfl ?_
        refine z_invV (as := []) (st := []) (C := m_X12_bad) (fs := [0, 3, 0, 0, 0, 0, 4, 5, 6, 7, 8, 9, 10, 0, 0, 11, 12, 13, 14, 15, 16, 0, 0, 0, 17, 18, 19, 20, 0, 0, 0, 21, 22, 0, 0, 23, 0, 1, 24, 0, 0, 25, 26, 0, 27, 0]) (pc' := 81) dX12_number_78 rfl t_7_13 k_X12_bad rfl (by decide) rfl rfl rfl rfl (Nat.le_of_ble_eq_true rfl) ?_
        have r13 := h
        refine c_M_bad r13 ?_
        show z_Wp m_X12_number _ 81 [(0, zR 0), (1, zI a0), (2, zI a1), (3, zI (((10 * ((F_M_here ((F_M_look w).2)) - 48)) + (F_M_here (z_up ((F_M_look w).2) 0 3 ((((F_M_look w).2) 0 3) + 1)))) - 48))] [] (F_M_bad (z_up (z_up ((F_M_look w).2) 0 3 ((((F_M_look w).2) 0 3) + 1)) 0 3 (((((F_M_look w).2) 0 3) + 1) + 1))) _
        refine z_goto 107 dX12_number_81 (by decide) ?_
        refine z_iload_n (pc' := 108) 3 rfl rfl dX12_number_107 rfl ?_
        refine z_iret rfl dX12_number_108 ?_
        exact k
  · have h := h.1 c
    rw [if_pos c] at k
    refine z_aload_n (pc' := 11) 0 rfl rfl dX12_number_10 rfl ?_
    refine z_invV (as := []) (st := []) (C := m_X12_bad) (fs := [0, 3, 0, 0, 0, 0, 4, 5, 6, 7, 8, 9, 10, 0, 0, 11, 12, 13, 14, 15, 16, 0, 0, 0, 17, 18, 19, 20, 0, 0, 0, 21, 22, 0, 0, 23, 0, 1, 24, 0, 0, 25, 26, 0, 27, 0]) (pc' := 14) dX12_number_11 rfl t_7_13 k_X12_bad rfl (by decide) rfl rfl rfl rfl (Nat.le_of_ble_eq_true rfl) ?_
    have r14 := h
    refine c_M_bad r14 ?_
    show z_Wp m_X12_number _ 14 [(0, zR 0), (1, zI a0), (2, zI a1)] [] (F_M_bad ((F_M_look w).2)) _
    refine z_iload_n (pc' := 15) 1 rfl rfl dX12_number_14 rfl ?_
    refine z_iret rfl dX12_number_15 ?_
    exact k
def P_M_atEnd (w : z_Wd)  : Prop := (-2147483648 ≤ w 0 4 ∧ w 0 4 < 2147483648) ∧ ((w 0 4 = (-1) → (P_M_look w) ∧ (-2147483648 ≤ (F_M_look w).1 ∧ (F_M_look w).1 < 2147483648) ∧ (((F_M_look w).1 = (-1) → True) ∧ (¬ ((F_M_look w).1 = (-1)) → P_M_bad ((F_M_look w).2)))) ∧ (¬ (w 0 4 = (-1)) → True))
def F_M_atEnd (w : z_Wd)  : Int × z_Wd := if w 0 4 = (-1) then if (F_M_look w).1 = (-1) then (((F_M_look w).2) 0 4, (F_M_look w).2) else ((F_M_bad ((F_M_look w).2)) 0 4, F_M_bad ((F_M_look w).2)) else (w 0 4, w)
set_option maxRecDepth 4000 in
theorem c_M_atEnd {d : Nat} {w : z_Wd} {Q : Option z_V → z_Wd → Prop} (h : P_M_atEnd w ) (k : Q (some (zI (F_M_atEnd w ).1)) (F_M_atEnd w ).2) : z_Wc (d + 2) m_X12_atEnd [zR 0] w Q := by
  unfold P_M_atEnd at h
  unfold F_M_atEnd at k
  refine z_enter rfl (Nat.le_of_ble_eq_true rfl) ?_
  show z_Wp m_X12_atEnd _ 0 [(0, zR 0)] [] w _
  refine z_aload_n (pc' := 1) 0 rfl rfl dX12_atEnd_0 rfl ?_
  refine z_getI2 (v := w 0 4) (pc' := 4) g_X12_109 (by decide) rfl rfl rfl dX12_atEnd_1 rfl ?_
  refine z_iconst (pc' := 5) dX12_atEnd_4 rfl ?_
  obtain ⟨r1, h⟩ := h
  refine z_icmp_ne 20 dX12_atEnd_5 (by decide) (pc' := 8) rfl r1 (by decide) (fun c => ?_) (fun c => ?_)
  · have h := h.2 c
    rw [if_neg c] at k
    refine z_aload_n (pc' := 21) 0 rfl rfl dX12_atEnd_20 rfl ?_
    refine z_getI2 (v := w 0 4) (pc' := 24) g_X12_109 (by decide) rfl rfl rfl dX12_atEnd_21 rfl ?_
    refine z_iret rfl dX12_atEnd_24 ?_
    exact k
  · have h := h.1 c
    rw [if_pos c] at k
    refine z_aload_n (pc' := 9) 0 rfl rfl dX12_atEnd_8 rfl ?_
    refine z_invV (as := []) (st := []) (C := m_X12_look) (fs := [0, 3, 0, 0, 0, 0, 4, 5, 6, 7, 8, 9, 10, 0, 0, 11, 12, 13, 14, 15, 16, 0, 0, 0, 17, 18, 19, 20, 0, 0, 0, 21, 22, 0, 0, 23, 0, 1, 24, 0, 0, 25, 26, 0, 27, 0]) (pc' := 12) dX12_atEnd_9 rfl t_6_218 k_X12_look rfl (by decide) rfl rfl rfl rfl (Nat.le_of_ble_eq_true rfl) ?_
    obtain ⟨r2, h⟩ := h
    refine c_M_look r2 ?_
    show z_Wp m_X12_atEnd _ 12 [(0, zR 0)] [zI ((F_M_look w).1)] ((F_M_look w).2) _
    refine z_iconst (pc' := 13) dX12_atEnd_12 rfl ?_
    obtain ⟨r3, h⟩ := h
    refine z_icmp_eq 20 dX12_atEnd_13 (by decide) (pc' := 16) rfl r3 (by decide) (fun c => ?_) (fun c => ?_)
    · have h := h.1 c
      rw [if_pos c] at k
      refine z_aload_n (pc' := 21) 0 rfl rfl dX12_atEnd_20 rfl ?_
      refine z_getI2 (v := ((F_M_look w).2) 0 4) (pc' := 24) g_X12_109 (by decide) rfl rfl rfl dX12_atEnd_21 rfl ?_
      refine z_iret rfl dX12_atEnd_24 ?_
      exact k
    · have h := h.2 c
      rw [if_neg c] at k
      refine z_aload_n (pc' := 17) 0 rfl rfl dX12_atEnd_16 rfl ?_
      refine z_invV (as := []) (st := []) (C := m_X12_bad) (fs := [0, 3, 0, 0, 0, 0, 4, 5, 6, 7, 8, 9, 10, 0, 0, 11, 12, 13, 14, 15, 16, 0, 0, 0, 17, 18, 19, 20, 0, 0, 0, 21, 22, 0, 0, 23, 0, 1, 24, 0, 0, 25, 26, 0, 27, 0]) (pc' := 20) dX12_atEnd_17 rfl t_7_13 k_X12_bad rfl (by decide) rfl rfl rfl rfl (Nat.le_of_ble_eq_true rfl) ?_
      have r4 := h
      refine c_M_bad r4 ?_
      show z_Wp m_X12_atEnd _ 20 [(0, zR 0)] [] (F_M_bad ((F_M_look w).2)) _
      refine z_aload_n (pc' := 21) 0 rfl rfl dX12_atEnd_20 rfl ?_
      refine z_getI2 (v := (F_M_bad ((F_M_look w).2)) 0 4) (pc' := 24) g_X12_109 (by decide) rfl rfl rfl dX12_atEnd_21 rfl ?_
      refine z_iret rfl dX12_atEnd_24 ?_
      exact k
def L_M_items_11_41 (w : z_Wd) (a0 : Int) (a2 : Int)  : Nat → Int → Int → z_Wd → z_Wd
  | 0, _, _, _ => w
  | m9 + 1, u5, u6, wu => if wu 0 4 = (-1) then if u6 = (-1) then wu else if F_M_has wu u5 u6 = 0 then if ((F_M_number (z_up wu 0 3 ((wu 0 3) + 1)) (F_M_lowest (z_up wu 0 3 ((wu 0 3) + 1)) a0 u6) (F_M_highest (z_up wu 0 3 ((wu 0 3) + 1)) a0 u6)).2) 0 4 = (-1) then L_M_items_11_41 w a0 a2 m9 (zz_or u5 (zz_shl 1 u6)) (F_M_itemOf ((F_M_look (z_up ((F_M_number (z_up wu 0 3 ((wu 0 3) + 1)) (F_M_lowest (z_up wu 0 3 ((wu 0 3) + 1)) a0 u6) (F_M_highest (z_up wu 0 3 ((wu 0 3) + 1)) a0 u6)).2) 11 ((a2 + u6).toNat) ((F_M_number (z_up wu 0 3 ((wu 0 3) + 1)) (F_M_lowest (z_up wu 0 3 ((wu 0 3) + 1)) a0 u6) (F_M_highest (z_up wu 0 3 ((wu 0 3) + 1)) a0 u6)).1))).2) a0 ((F_M_look (z_up ((F_M_number (z_up wu 0 3 ((wu 0 3) + 1)) (F_M_lowest (z_up wu 0 3 ((wu 0 3) + 1)) a0 u6) (F_M_highest (z_up wu 0 3 ((wu 0 3) + 1)) a0 u6)).2) 11 ((a2 + u6).toNat) ((F_M_number (z_up wu 0 3 ((wu 0 3) + 1)) (F_M_lowest (z_up wu 0 3 ((wu 0 3) + 1)) a0 u6) (F_M_highest (z_up wu 0 3 ((wu 0 3) + 1)) a0 u6)).1))).1)) ((F_M_look (z_up ((F_M_number (z_up wu 0 3 ((wu 0 3) + 1)) (F_M_lowest (z_up wu 0 3 ((wu 0 3) + 1)) a0 u6) (F_M_highest (z_up wu 0 3 ((wu 0 3) + 1)) a0 u6)).2) 11 ((a2 + u6).toNat) ((F_M_number (z_up wu 0 3 ((wu 0 3) + 1)) (F_M_lowest (z_up wu 0 3 ((wu 0 3) + 1)) a0 u6) (F_M_highest (z_up wu 0 3 ((wu 0 3) + 1)) a0 u6)).1))).2) else L_M_items_11_41 w a0 a2 m9 (zz_or u5 (zz_shl 1 u6)) (-1) (z_up ((F_M_number (z_up wu 0 3 ((wu 0 3) + 1)) (F_M_lowest (z_up wu 0 3 ((wu 0 3) + 1)) a0 u6) (F_M_highest (z_up wu 0 3 ((wu 0 3) + 1)) a0 u6)).2) 11 ((a2 + u6).toNat) ((F_M_number (z_up wu 0 3 ((wu 0 3) + 1)) (F_M_lowest (z_up wu 0 3 ((wu 0 3) + 1)) a0 u6) (F_M_highest (z_up wu 0 3 ((wu 0 3) + 1)) a0 u6)).1)) else wu else wu
def PL_M_items_11_41 (w : z_Wd) (a0 : Int) (a2 : Int)  : Nat → Int → Int → z_Wd → Prop
  | 0, _, _, _ => False
  | m9 + 1, u5, u6, wu => (-2147483648 ≤ wu 0 4 ∧ wu 0 4 < 2147483648) ∧ ((wu 0 4 = (-1) → (-2147483648 ≤ u6 ∧ u6 < 2147483648) ∧ ((u6 = (-1) → True) ∧ (¬ (u6 = (-1)) → (P_M_has wu u5 u6) ∧ ((F_M_has wu u5 u6 = 0 → (P_M_lowest (z_up wu 0 3 ((wu 0 3) + 1)) a0 u6) ∧ (P_M_highest (z_up wu 0 3 ((wu 0 3) + 1)) a0 u6) ∧ (P_M_number (z_up wu 0 3 ((wu 0 3) + 1)) (F_M_lowest (z_up wu 0 3 ((wu 0 3) + 1)) a0 u6) (F_M_highest (z_up wu 0 3 ((wu 0 3) + 1)) a0 u6)) ∧ (0 ≤ a2 + u6 ∧ a2 + u6 < 2) ∧ (-2147483648 ≤ ((F_M_number (z_up wu 0 3 ((wu 0 3) + 1)) (F_M_lowest (z_up wu 0 3 ((wu 0 3) + 1)) a0 u6) (F_M_highest (z_up wu 0 3 ((wu 0 3) + 1)) a0 u6)).2) 0 4 ∧ ((F_M_number (z_up wu 0 3 ((wu 0 3) + 1)) (F_M_lowest (z_up wu 0 3 ((wu 0 3) + 1)) a0 u6) (F_M_highest (z_up wu 0 3 ((wu 0 3) + 1)) a0 u6)).2) 0 4 < 2147483648) ∧ ((((F_M_number (z_up wu 0 3 ((wu 0 3) + 1)) (F_M_lowest (z_up wu 0 3 ((wu 0 3) + 1)) a0 u6) (F_M_highest (z_up wu 0 3 ((wu 0 3) + 1)) a0 u6)).2) 0 4 = (-1) → (P_M_look (z_up ((F_M_number (z_up wu 0 3 ((wu 0 3) + 1)) (F_M_lowest (z_up wu 0 3 ((wu 0 3) + 1)) a0 u6) (F_M_highest (z_up wu 0 3 ((wu 0 3) + 1)) a0 u6)).2) 11 ((a2 + u6).toNat) ((F_M_number (z_up wu 0 3 ((wu 0 3) + 1)) (F_M_lowest (z_up wu 0 3 ((wu 0 3) + 1)) a0 u6) (F_M_highest (z_up wu 0 3 ((wu 0 3) + 1)) a0 u6)).1))) ∧ (P_M_itemOf ((F_M_look (z_up ((F_M_number (z_up wu 0 3 ((wu 0 3) + 1)) (F_M_lowest (z_up wu 0 3 ((wu 0 3) + 1)) a0 u6) (F_M_highest (z_up wu 0 3 ((wu 0 3) + 1)) a0 u6)).2) 11 ((a2 + u6).toNat) ((F_M_number (z_up wu 0 3 ((wu 0 3) + 1)) (F_M_lowest (z_up wu 0 3 ((wu 0 3) + 1)) a0 u6) (F_M_highest (z_up wu 0 3 ((wu 0 3) + 1)) a0 u6)).1))).2) a0 ((F_M_look (z_up ((F_M_number (z_up wu 0 3 ((wu 0 3) + 1)) (F_M_lowest (z_up wu 0 3 ((wu 0 3) + 1)) a0 u6) (F_M_highest (z_up wu 0 3 ((wu 0 3) + 1)) a0 u6)).2) 11 ((a2 + u6).toNat) ((F_M_number (z_up wu 0 3 ((wu 0 3) + 1)) (F_M_lowest (z_up wu 0 3 ((wu 0 3) + 1)) a0 u6) (F_M_highest (z_up wu 0 3 ((wu 0 3) + 1)) a0 u6)).1))).1)) ∧ (PL_M_items_11_41 w a0 a2 m9 (zz_or u5 (zz_shl 1 u6)) (F_M_itemOf ((F_M_look (z_up ((F_M_number (z_up wu 0 3 ((wu 0 3) + 1)) (F_M_lowest (z_up wu 0 3 ((wu 0 3) + 1)) a0 u6) (F_M_highest (z_up wu 0 3 ((wu 0 3) + 1)) a0 u6)).2) 11 ((a2 + u6).toNat) ((F_M_number (z_up wu 0 3 ((wu 0 3) + 1)) (F_M_lowest (z_up wu 0 3 ((wu 0 3) + 1)) a0 u6) (F_M_highest (z_up wu 0 3 ((wu 0 3) + 1)) a0 u6)).1))).2) a0 ((F_M_look (z_up ((F_M_number (z_up wu 0 3 ((wu 0 3) + 1)) (F_M_lowest (z_up wu 0 3 ((wu 0 3) + 1)) a0 u6) (F_M_highest (z_up wu 0 3 ((wu 0 3) + 1)) a0 u6)).2) 11 ((a2 + u6).toNat) ((F_M_number (z_up wu 0 3 ((wu 0 3) + 1)) (F_M_lowest (z_up wu 0 3 ((wu 0 3) + 1)) a0 u6) (F_M_highest (z_up wu 0 3 ((wu 0 3) + 1)) a0 u6)).1))).1)) ((F_M_look (z_up ((F_M_number (z_up wu 0 3 ((wu 0 3) + 1)) (F_M_lowest (z_up wu 0 3 ((wu 0 3) + 1)) a0 u6) (F_M_highest (z_up wu 0 3 ((wu 0 3) + 1)) a0 u6)).2) 11 ((a2 + u6).toNat) ((F_M_number (z_up wu 0 3 ((wu 0 3) + 1)) (F_M_lowest (z_up wu 0 3 ((wu 0 3) + 1)) a0 u6) (F_M_highest (z_up wu 0 3 ((wu 0 3) + 1)) a0 u6)).1))).2))) ∧ (¬ (((F_M_number (z_up wu 0 3 ((wu 0 3) + 1)) (F_M_lowest (z_up wu 0 3 ((wu 0 3) + 1)) a0 u6) (F_M_highest (z_up wu 0 3 ((wu 0 3) + 1)) a0 u6)).2) 0 4 = (-1)) → PL_M_items_11_41 w a0 a2 m9 (zz_or u5 (zz_shl 1 u6)) (-1) (z_up ((F_M_number (z_up wu 0 3 ((wu 0 3) + 1)) (F_M_lowest (z_up wu 0 3 ((wu 0 3) + 1)) a0 u6) (F_M_highest (z_up wu 0 3 ((wu 0 3) + 1)) a0 u6)).2) 11 ((a2 + u6).toNat) ((F_M_number (z_up wu 0 3 ((wu 0 3) + 1)) (F_M_lowest (z_up wu 0 3 ((wu 0 3) + 1)) a0 u6) (F_M_highest (z_up wu 0 3 ((wu 0 3) + 1)) a0 u6)).1))))) ∧ (¬ (F_M_has wu u5 u6 = 0) → True))))) ∧ (¬ (wu 0 4 = (-1)) → True))
def A_M_items_11_3 (w : z_Wd) (a0 : Int) (a2 : Int) (a3 : Int) : Nat → z_Wd
  | 0 => w
  | i27 + 1 => z_up (A_M_items_11_3 w a0 a2 a3 i27) 11 ((a2 + (i27 : Int)).toNat) (F_M_usual (A_M_items_11_3 w a0 a2 a3 i27) a0 (i27 : Int))
def P_M_items_11 (w : z_Wd) (a0 : Int) (a2 : Int) (a3 : Int) : Prop := (∀ i27 : Nat, i27 < ((a3).toNat) → (-2147483648 ≤ (i27 : Int) ∧ (i27 : Int) < 2147483648) ∧ (-2147483648 ≤ a3 ∧ a3 < 2147483648) ∧ (P_M_usual (A_M_items_11_3 w a0 a2 a3 i27) a0 (i27 : Int)) ∧ (0 ≤ a2 + (i27 : Int) ∧ a2 + (i27 : Int) < 2)) ∧ ((-2147483648 ≤ (((a3).toNat : Nat) : Int) ∧ (((a3).toNat : Nat) : Int) < 2147483648) ∧ (-2147483648 ≤ a3 ∧ a3 < 2147483648) ∧ (P_M_look (A_M_items_11_3 w a0 a2 a3 (a3).toNat)) ∧ (P_M_itemOf ((F_M_look (A_M_items_11_3 w a0 a2 a3 (a3).toNat)).2) a0 ((F_M_look (A_M_items_11_3 w a0 a2 a3 (a3).toNat)).1)) ∧ (PL_M_items_11_41 w a0 a2 10 0 (F_M_itemOf ((F_M_look (A_M_items_11_3 w a0 a2 a3 (a3).toNat)).2) a0 ((F_M_look (A_M_items_11_3 w a0 a2 a3 (a3).toNat)).1)) ((F_M_look (A_M_items_11_3 w a0 a2 a3 (a3).toNat)).2)))
def F_M_items_11 (w : z_Wd) (a0 : Int) (a2 : Int) (a3 : Int) : z_Wd := L_M_items_11_41 w a0 a2 10 0 (F_M_itemOf ((F_M_look (A_M_items_11_3 w a0 a2 a3 (a3).toNat)).2) a0 ((F_M_look (A_M_items_11_3 w a0 a2 a3 (a3).toNat)).1)) ((F_M_look (A_M_items_11_3 w a0 a2 a3 (a3).toNat)).2)
set_option maxRecDepth 4000 in
theorem c_M_items_11 {d : Nat} {w : z_Wd} {a0 a2 a3 : Int} {Q : Option z_V → z_Wd → Prop} (h : P_M_items_11 w a0 a2 a3) (k : Q none (F_M_items_11 w a0 a2 a3)) : z_Wc (d + 3) m_X12_items [zR 0, zI a0, zR 11, zI a2, zI a3] w Q := by
  unfold P_M_items_11 at h
  unfold F_M_items_11 at k
  refine z_enter rfl (Nat.le_of_ble_eq_true rfl) ?_
  show z_Wp m_X12_items _ 0 [(0, zR 0), (1, zI a0), (2, zR 11), (3, zI a2), (4, zI a3)] [] w _
  refine z_iconst (pc' := 1) dX12_items_0 rfl ?_
  refine z_istore (pc' := 3) (ls' := [(0, zR 0), (1, zI a0), (2, zR 11), (3, zI a2), (4, zI a3), (5, zI 0)]) (by decide) rfl rfl dX12_items_1 rfl ?_
  refine z_upto ((a3).toNat) (fun i27 => z_Wp m_X12_items (d + 3) 3 [(0, zR 0), (1, zI a0), (2, zR 11), (3, zI a2), (4, zI a3), (5, zI (i27 : Int))] [] (A_M_items_11_3 w a0 a2 a3 i27) Q) ?_ ?_
  · skip
    have h := h.2
    refine z_iload (pc' := 5) 5 rfl dX12_items_3 rfl ?_
    refine z_iload (pc' := 7) 4 rfl dX12_items_5 rfl ?_
    obtain ⟨r32, h⟩ := h
    obtain ⟨r33, h⟩ := h
    refine z_icmp_ge 28 dX12_items_7 (by decide) (pc' := 10) rfl r32 r33 (fun _ => ?_) (fun c => absurd c (by omega))
    refine z_iconst (pc' := 29) dX12_items_28 rfl ?_
    refine z_istore (pc' := 31) (ls' := [(0, zR 0), (1, zI a0), (2, zR 11), (3, zI a2), (4, zI a3), (5, zI 0)]) (by decide) rfl rfl dX12_items_29 rfl ?_
    refine z_iload_n (pc' := 32) 1 rfl rfl dX12_items_31 rfl ?_
    refine z_aload_n (pc' := 33) 0 rfl rfl dX12_items_32 rfl ?_
    refine z_invV (as := []) (st := [zI a0]) (C := m_X12_look) (fs := [0, 3, 0, 0, 0, 0, 4, 5, 6, 7, 8, 9, 10, 0, 0, 11, 12, 13, 14, 15, 16, 0, 0, 0, 17, 18, 19, 20, 0, 0, 0, 21, 22, 0, 0, 23, 0, 1, 24, 0, 0, 25, 26, 0, 27, 0]) (pc' := 36) dX12_items_33 rfl t_6_218 k_X12_look rfl (by decide) rfl rfl rfl rfl (Nat.le_of_ble_eq_true rfl) ?_
    obtain ⟨r34, h⟩ := h
    refine c_M_look r34 ?_
    show z_Wp m_X12_items _ 36 [(0, zR 0), (1, zI a0), (2, zR 11), (3, zI a2), (4, zI a3), (5, zI 0)] [zI ((F_M_look (A_M_items_11_3 w a0 a2 a3 (a3).toNat)).1), zI a0] ((F_M_look (A_M_items_11_3 w a0 a2 a3 (a3).toNat)).2) _
    refine z_invS (as := [zI a0, zI ((F_M_look (A_M_items_11_3 w a0 a2 a3 (a3).toNat)).1)]) (st := []) (C := m_X12_itemOf) (pc' := 39) dX12_items_36 rfl t_6_234 k_X12_itemOf rfl rfl (Nat.le_of_ble_eq_true rfl) ?_
    obtain ⟨r35, h⟩ := h
    refine c_M_itemOf r35 ?_
    show z_Wp m_X12_items _ 39 [(0, zR 0), (1, zI a0), (2, zR 11), (3, zI a2), (4, zI a3), (5, zI 0)] [zI (F_M_itemOf ((F_M_look (A_M_items_11_3 w a0 a2 a3 (a3).toNat)).2) a0 ((F_M_look (A_M_items_11_3 w a0 a2 a3 (a3).toNat)).1))] ((F_M_look (A_M_items_11_3 w a0 a2 a3 (a3).toNat)).2) _
    refine z_istore (pc' := 41) (ls' := [(0, zR 0), (1, zI a0), (2, zR 11), (3, zI a2), (4, zI a3), (5, zI 0), (6, zI (F_M_itemOf ((F_M_look (A_M_items_11_3 w a0 a2 a3 (a3).toNat)).2) a0 ((F_M_look (A_M_items_11_3 w a0 a2 a3 (a3).toNat)).1)))]) (by decide) rfl rfl dX12_items_39 rfl ?_
    refine z_Wp.sub (ls' := [(0, zR 0), (1, zI a0), (2, zR 11), (3, zI a2), (5, zI 0), (6, zI (F_M_itemOf ((F_M_look (A_M_items_11_3 w a0 a2 a3 (a3).toNat)).2) a0 ((F_M_look (A_M_items_11_3 w a0 a2 a3 (a3).toNat)).1)))]) ?_ (z_sub_of [0, 1, 2, 3, 5, 6] rfl)
    have hl : ∀ (m9 : Nat) (u5 : Int) (u6 : Int) (wu : z_Wd), PL_M_items_11_41 w a0 a2 m9 u5 u6 wu → Q none (L_M_items_11_41 w a0 a2 m9 u5 u6 wu) → z_Wp m_X12_items (d + 3) 41 [(0, zR 0), (1, zI a0), (2, zR 11), (3, zI a2), (5, zI u5), (6, zI u6)] [] wu Q := by
      clear h k
      intro m9
      induction m9 with
      | zero => intro u5 u6 wu h k; exact False.elim h
      | succ m9 ih =>
        intro u5 u6 wu h k
        have h : (-2147483648 ≤ wu 0 4 ∧ wu 0 4 < 2147483648) ∧ ((wu 0 4 = (-1) → (-2147483648 ≤ u6 ∧ u6 < 2147483648) ∧ ((u6 = (-1) → True) ∧ (¬ (u6 = (-1)) → (P_M_has wu u5 u6) ∧ ((F_M_has wu u5 u6 = 0 → (P_M_lowest (z_up wu 0 3 ((wu 0 3) + 1)) a0 u6) ∧ (P_M_highest (z_up wu 0 3 ((wu 0 3) + 1)) a0 u6) ∧ (P_M_number (z_up wu 0 3 ((wu 0 3) + 1)) (F_M_lowest (z_up wu 0 3 ((wu 0 3) + 1)) a0 u6) (F_M_highest (z_up wu 0 3 ((wu 0 3) + 1)) a0 u6)) ∧ (0 ≤ a2 + u6 ∧ a2 + u6 < 2) ∧ (-2147483648 ≤ ((F_M_number (z_up wu 0 3 ((wu 0 3) + 1)) (F_M_lowest (z_up wu 0 3 ((wu 0 3) + 1)) a0 u6) (F_M_highest (z_up wu 0 3 ((wu 0 3) + 1)) a0 u6)).2) 0 4 ∧ ((F_M_number (z_up wu 0 3 ((wu 0 3) + 1)) (F_M_lowest (z_up wu 0 3 ((wu 0 3) + 1)) a0 u6) (F_M_highest (z_up wu 0 3 ((wu 0 3) + 1)) a0 u6)).2) 0 4 < 2147483648) ∧ ((((F_M_number (z_up wu 0 3 ((wu 0 3) + 1)) (F_M_lowest (z_up wu 0 3 ((wu 0 3) + 1)) a0 u6) (F_M_highest (z_up wu 0 3 ((wu 0 3) + 1)) a0 u6)).2) 0 4 = (-1) → (P_M_look (z_up ((F_M_number (z_up wu 0 3 ((wu 0 3) + 1)) (F_M_lowest (z_up wu 0 3 ((wu 0 3) + 1)) a0 u6) (F_M_highest (z_up wu 0 3 ((wu 0 3) + 1)) a0 u6)).2) 11 ((a2 + u6).toNat) ((F_M_number (z_up wu 0 3 ((wu 0 3) + 1)) (F_M_lowest (z_up wu 0 3 ((wu 0 3) + 1)) a0 u6) (F_M_highest (z_up wu 0 3 ((wu 0 3) + 1)) a0 u6)).1))) ∧ (P_M_itemOf ((F_M_look (z_up ((F_M_number (z_up wu 0 3 ((wu 0 3) + 1)) (F_M_lowest (z_up wu 0 3 ((wu 0 3) + 1)) a0 u6) (F_M_highest (z_up wu 0 3 ((wu 0 3) + 1)) a0 u6)).2) 11 ((a2 + u6).toNat) ((F_M_number (z_up wu 0 3 ((wu 0 3) + 1)) (F_M_lowest (z_up wu 0 3 ((wu 0 3) + 1)) a0 u6) (F_M_highest (z_up wu 0 3 ((wu 0 3) + 1)) a0 u6)).1))).2) a0 ((F_M_look (z_up ((F_M_number (z_up wu 0 3 ((wu 0 3) + 1)) (F_M_lowest (z_up wu 0 3 ((wu 0 3) + 1)) a0 u6) (F_M_highest (z_up wu 0 3 ((wu 0 3) + 1)) a0 u6)).2) 11 ((a2 + u6).toNat) ((F_M_number (z_up wu 0 3 ((wu 0 3) + 1)) (F_M_lowest (z_up wu 0 3 ((wu 0 3) + 1)) a0 u6) (F_M_highest (z_up wu 0 3 ((wu 0 3) + 1)) a0 u6)).1))).1)) ∧ (PL_M_items_11_41 w a0 a2 m9 (zz_or u5 (zz_shl 1 u6)) (F_M_itemOf ((F_M_look (z_up ((F_M_number (z_up wu 0 3 ((wu 0 3) + 1)) (F_M_lowest (z_up wu 0 3 ((wu 0 3) + 1)) a0 u6) (F_M_highest (z_up wu 0 3 ((wu 0 3) + 1)) a0 u6)).2) 11 ((a2 + u6).toNat) ((F_M_number (z_up wu 0 3 ((wu 0 3) + 1)) (F_M_lowest (z_up wu 0 3 ((wu 0 3) + 1)) a0 u6) (F_M_highest (z_up wu 0 3 ((wu 0 3) + 1)) a0 u6)).1))).2) a0 ((F_M_look (z_up ((F_M_number (z_up wu 0 3 ((wu 0 3) + 1)) (F_M_lowest (z_up wu 0 3 ((wu 0 3) + 1)) a0 u6) (F_M_highest (z_up wu 0 3 ((wu 0 3) + 1)) a0 u6)).2) 11 ((a2 + u6).toNat) ((F_M_number (z_up wu 0 3 ((wu 0 3) + 1)) (F_M_lowest (z_up wu 0 3 ((wu 0 3) + 1)) a0 u6) (F_M_highest (z_up wu 0 3 ((wu 0 3) + 1)) a0 u6)).1))).1)) ((F_M_look (z_up ((F_M_number (z_up wu 0 3 ((wu 0 3) + 1)) (F_M_lowest (z_up wu 0 3 ((wu 0 3) + 1)) a0 u6) (F_M_highest (z_up wu 0 3 ((wu 0 3) + 1)) a0 u6)).2) 11 ((a2 + u6).toNat) ((F_M_number (z_up wu 0 3 ((wu 0 3) + 1)) (F_M_lowest (z_up wu 0 3 ((wu 0 3) + 1)) a0 u6) (F_M_highest (z_up wu 0 3 ((wu 0 3) + 1)) a0 u6)).1))).2))) ∧ (¬ (((F_M_number (z_up wu 0 3 ((wu 0 3) + 1)) (F_M_lowest (z_up wu 0 3 ((wu 0 3) + 1)) a0 u6) (F_M_highest (z_up wu 0 3 ((wu 0 3) + 1)) a0 u6)).2) 0 4 = (-1)) → PL_M_items_11_41 w a0 a2 m9 (zz_or u5 (zz_shl 1 u6)) (-1) (z_up ((F_M_number (z_up wu 0 3 ((wu 0 3) + 1)) (F_M_lowest (z_up wu 0 3 ((wu 0 3) + 1)) a0 u6) (F_M_highest (z_up wu 0 3 ((wu 0 3) + 1)) a0 u6)).2) 11 ((a2 + u6).toNat) ((F_M_number (z_up wu 0 3 ((wu 0 3) + 1)) (F_M_lowest (z_up wu 0 3 ((wu 0 3) + 1)) a0 u6) (F_M_highest (z_up wu 0 3 ((wu 0 3) + 1)) a0 u6)).1))))) ∧ (¬ (F_M_has wu u5 u6 = 0) → True))))) ∧ (¬ (wu 0 4 = (-1)) → True)) := h
        have k : Q none (if wu 0 4 = (-1) then if u6 = (-1) then wu else if F_M_has wu u5 u6 = 0 then if ((F_M_number (z_up wu 0 3 ((wu 0 3) + 1)) (F_M_lowest (z_up wu 0 3 ((wu 0 3) + 1)) a0 u6) (F_M_highest (z_up wu 0 3 ((wu 0 3) + 1)) a0 u6)).2) 0 4 = (-1) then L_M_items_11_41 w a0 a2 m9 (zz_or u5 (zz_shl 1 u6)) (F_M_itemOf ((F_M_look (z_up ((F_M_number (z_up wu 0 3 ((wu 0 3) + 1)) (F_M_lowest (z_up wu 0 3 ((wu 0 3) + 1)) a0 u6) (F_M_highest (z_up wu 0 3 ((wu 0 3) + 1)) a0 u6)).2) 11 ((a2 + u6).toNat) ((F_M_number (z_up wu 0 3 ((wu 0 3) + 1)) (F_M_lowest (z_up wu 0 3 ((wu 0 3) + 1)) a0 u6) (F_M_highest (z_up wu 0 3 ((wu 0 3) + 1)) a0 u6)).1))).2) a0 ((F_M_look (z_up ((F_M_number (z_up wu 0 3 ((wu 0 3) + 1)) (F_M_lowest (z_up wu 0 3 ((wu 0 3) + 1)) a0 u6) (F_M_highest (z_up wu 0 3 ((wu 0 3) + 1)) a0 u6)).2) 11 ((a2 + u6).toNat) ((F_M_number (z_up wu 0 3 ((wu 0 3) + 1)) (F_M_lowest (z_up wu 0 3 ((wu 0 3) + 1)) a0 u6) (F_M_highest (z_up wu 0 3 ((wu 0 3) + 1)) a0 u6)).1))).1)) ((F_M_look (z_up ((F_M_number (z_up wu 0 3 ((wu 0 3) + 1)) (F_M_lowest (z_up wu 0 3 ((wu 0 3) + 1)) a0 u6) (F_M_highest (z_up wu 0 3 ((wu 0 3) + 1)) a0 u6)).2) 11 ((a2 + u6).toNat) ((F_M_number (z_up wu 0 3 ((wu 0 3) + 1)) (F_M_lowest (z_up wu 0 3 ((wu 0 3) + 1)) a0 u6) (F_M_highest (z_up wu 0 3 ((wu 0 3) + 1)) a0 u6)).1))).2) else L_M_items_11_41 w a0 a2 m9 (zz_or u5 (zz_shl 1 u6)) (-1) (z_up ((F_M_number (z_up wu 0 3 ((wu 0 3) + 1)) (F_M_lowest (z_up wu 0 3 ((wu 0 3) + 1)) a0 u6) (F_M_highest (z_up wu 0 3 ((wu 0 3) + 1)) a0 u6)).2) 11 ((a2 + u6).toNat) ((F_M_number (z_up wu 0 3 ((wu 0 3) + 1)) (F_M_lowest (z_up wu 0 3 ((wu 0 3) + 1)) a0 u6) (F_M_highest (z_up wu 0 3 ((wu 0 3) + 1)) a0 u6)).1)) else wu else wu) := k
        refine z_aload_n (pc' := 42) 0 rfl rfl dX12_items_41 rfl ?_
        refine z_getI2 (v := wu 0 4) (pc' := 45) g_X12_109 (by decide) rfl rfl rfl dX12_items_42 rfl ?_
        refine z_iconst (pc' := 46) dX12_items_45 rfl ?_
        obtain ⟨r46, h⟩ := h
        refine z_icmp_ne 131 dX12_items_46 (by decide) (pc' := 49) rfl r46 (by decide) (fun c => ?_) (fun c => ?_)
        · have h := h.2 c
          rw [if_neg c] at k
          refine z_vret rfl dX12_items_131 ?_
          exact k
        · have h := h.1 c
          rw [if_pos c] at k
          refine z_iload (pc' := 51) 5 rfl dX12_items_49 rfl ?_
          refine z_iconst (pc' := 52) dX12_items_51 rfl ?_
          obtain ⟨r47, h⟩ := h
          refine z_icmp_eq 131 dX12_items_52 (by decide) (pc' := 55) rfl r47 (by decide) (fun c => ?_) (fun c => ?_)
          · have h := h.1 c
            rw [if_pos c] at k
            refine z_vret rfl dX12_items_131 ?_
            exact k
          · have h := h.2 c
            rw [if_neg c] at k
            refine z_iload (pc' := 57) 4 rfl dX12_items_55 rfl ?_
            refine z_iload (pc' := 59) 5 rfl dX12_items_57 rfl ?_
            refine z_invS (as := [zI u5, zI u6]) (st := []) (C := m_X12_has) (pc' := 62) dX12_items_59 rfl t_6_237 k_X12_has rfl rfl (Nat.le_of_ble_eq_true rfl) ?_
            obtain ⟨r48, h⟩ := h
            refine c_M_has r48 ?_
            show z_Wp m_X12_items _ 62 [(0, zR 0), (1, zI a0), (2, zR 11), (3, zI a2), (5, zI u5), (6, zI u6)] [zI (F_M_has wu u5 u6)] wu _
            refine z_if_ne 131 dX12_items_62 (by decide) (pc' := 65) rfl (z_rb b_M_has) (fun c => ?_) (fun c => ?_)
            · have h := h.2 c
              rw [if_neg c] at k
              refine z_vret rfl dX12_items_131 ?_
              exact k
            · have h := h.1 c
              rw [if_pos c] at k
              refine z_iload (pc' := 67) 4 rfl dX12_items_65 rfl ?_
              refine z_iconst (pc' := 68) dX12_items_67 rfl ?_
              refine z_iload (pc' := 70) 5 rfl dX12_items_68 rfl ?_
              refine z_ishl (pc' := 71) dX12_items_70 rfl ?_
              refine z_ior (pc' := 72) dX12_items_71 rfl ?_
              refine z_istore (pc' := 74) (ls' := [(0, zR 0), (1, zI a0), (2, zR 11), (3, zI a2), (5, zI (zz_or u5 (zz_shl 1 u6))), (6, zI u6)]) (by decide) rfl rfl dX12_items_72 rfl ?_
              refine z_aload_n (pc' := 75) 0 rfl rfl dX12_items_74 rfl ?_
              refine z_dup (pc' := 76) rfl dX12_items_75 rfl ?_
              refine z_getI2 (v := wu 0 3) (pc' := 79) g_X12_102 (by decide) rfl rfl rfl dX12_items_76 rfl ?_
              refine z_iconst (pc' := 80) dX12_items_79 rfl ?_
              refine z_iadd (pc' := 81) dX12_items_80 rfl ?_
              refine z_putI (pc' := 84) p_X12_102 (by decide) rfl rfl rfl rfl dX12_items_81 rfl ?_
              refine z_aload_n (pc' := 85) 2 rfl rfl dX12_items_84 rfl ?_
              refine z_iload_n (pc' := 86) 3 rfl rfl dX12_items_85 rfl ?_
              refine z_iload (pc' := 88) 5 rfl dX12_items_86 rfl ?_
              refine z_iadd (pc' := 89) dX12_items_88 rfl ?_
              refine z_aload_n (pc' := 90) 0 rfl rfl dX12_items_89 rfl ?_
              refine z_iload_n (pc' := 91) 1 rfl rfl dX12_items_90 rfl ?_
              refine z_iload (pc' := 93) 5 rfl dX12_items_91 rfl ?_
              refine z_invS (as := [zI a0, zI u6]) (st := [zR 0, zI (a2 + u6), zR 11]) (C := m_X12_lowest) (pc' := 96) dX12_items_93 rfl t_7_0 k_X12_lowest rfl rfl (Nat.le_of_ble_eq_true rfl) ?_
              obtain ⟨r49, h⟩ := h
              refine c_M_lowest r49 ?_
              show z_Wp m_X12_items _ 96 [(0, zR 0), (1, zI a0), (2, zR 11), (3, zI a2), (5, zI (zz_or u5 (zz_shl 1 u6))), (6, zI u6)] [zI (F_M_lowest (z_up wu 0 3 ((wu 0 3) + 1)) a0 u6), zR 0, zI (a2 + u6), zR 11] (z_up wu 0 3 ((wu 0 3) + 1)) _
              refine z_iload_n (pc' := 97) 1 rfl rfl dX12_items_96 rfl ?_
              refine z_iload (pc' := 99) 5 rfl dX12_items_97 rfl ?_
              refine z_invS (as := [zI a0, zI u6]) (st := [zI (F_M_lowest (z_up wu 0 3 ((wu 0 3) + 1)) a0 u6), zR 0, zI (a2 + u6), zR 11]) (C := m_X12_highest) (pc' := 102) dX12_items_99 rfl t_7_3 k_X12_highest rfl rfl (Nat.le_of_ble_eq_true rfl) ?_
              obtain ⟨r50, h⟩ := h
              refine c_M_highest r50 ?_
              show z_Wp m_X12_items _ 102 [(0, zR 0), (1, zI a0), (2, zR 11), (3, zI a2), (5, zI (zz_or u5 (zz_shl 1 u6))), (6, zI u6)] [zI (F_M_highest (z_up wu 0 3 ((wu 0 3) + 1)) a0 u6), zI (F_M_lowest (z_up wu 0 3 ((wu 0 3) + 1)) a0 u6), zR 0, zI (a2 + u6), zR 11] (z_up wu 0 3 ((wu 0 3) + 1)) _
              refine z_invV (as := [zI (F_M_lowest (z_up wu 0 3 ((wu 0 3) + 1)) a0 u6), zI (F_M_highest (z_up wu 0 3 ((wu 0 3) + 1)) a0 u6)]) (st := [zI (a2 + u6), zR 11]) (C := m_X12_number) (fs := [0, 3, 0, 0, 0, 0, 4, 5, 6, 7, 8, 9, 10, 0, 0, 11, 12, 13, 14, 15, 16, 0, 0, 0, 17, 18, 19, 20, 0, 0, 0, 21, 22, 0, 0, 23, 0, 1, 24, 0, 0, 25, 26, 0, 27, 0]) (pc' := 105) dX12_items_102 rfl t_7_6 k_X12_number rfl (by decide) rfl rfl rfl rfl (Nat.le_of_ble_eq_true rfl) ?_
              obtain ⟨r51, h⟩ := h
              refine c_M_number r51 ?_
              show z_Wp m_X12_items _ 105 [(0, zR 0), (1, zI a0), (2, zR 11), (3, zI a2), (5, zI (zz_or u5 (zz_shl 1 u6))), (6, zI u6)] [zI ((F_M_number (z_up wu 0 3 ((wu 0 3) + 1)) (F_M_lowest (z_up wu 0 3 ((wu 0 3) + 1)) a0 u6) (F_M_highest (z_up wu 0 3 ((wu 0 3) + 1)) a0 u6)).1), zI (a2 + u6), zR 11] ((F_M_number (z_up wu 0 3 ((wu 0 3) + 1)) (F_M_lowest (z_up wu 0 3 ((wu 0 3) + 1)) a0 u6) (F_M_highest (z_up wu 0 3 ((wu 0 3) + 1)) a0 u6)).2) _
              obtain ⟨r52, h⟩ := h
              refine z_iast2 (w' := z_up ((F_M_number (z_up wu 0 3 ((wu 0 3) + 1)) (F_M_lowest (z_up wu 0 3 ((wu 0 3) + 1)) a0 u6) (F_M_highest (z_up wu 0 3 ((wu 0 3) + 1)) a0 u6)).2) 11 ((a2 + u6).toNat) ((F_M_number (z_up wu 0 3 ((wu 0 3) + 1)) (F_M_lowest (z_up wu 0 3 ((wu 0 3) + 1)) a0 u6) (F_M_highest (z_up wu 0 3 ((wu 0 3) + 1)) a0 u6)).1)) (pc' := 106) (by decide) rfl r52 (by decide) rfl dX12_items_105 rfl ?_
              refine z_aload_n (pc' := 107) 0 rfl rfl dX12_items_106 rfl ?_
              refine z_getI2 (v := ((F_M_number (z_up wu 0 3 ((wu 0 3) + 1)) (F_M_lowest (z_up wu 0 3 ((wu 0 3) + 1)) a0 u6) (F_M_highest (z_up wu 0 3 ((wu 0 3) + 1)) a0 u6)).2) 0 4) (pc' := 110) g_X12_109 (by decide) rfl rfl rfl dX12_items_107 rfl ?_
              refine z_iconst (pc' := 111) dX12_items_110 rfl ?_
              obtain ⟨r53, h⟩ := h
              refine z_icmp_ne 125 dX12_items_111 (by decide) (pc' := 114) rfl r53 (by decide) (fun c => ?_) (fun c => ?_)
              · have h := h.2 c
                rw [if_neg c] at k
                refine z_iconst (pc' := 126) dX12_items_125 rfl ?_
                refine z_istore (pc' := 128) (ls' := [(0, zR 0), (1, zI a0), (2, zR 11), (3, zI a2), (5, zI (zz_or u5 (zz_shl 1 u6))), (6, zI (-1))]) (by decide) rfl rfl dX12_items_126 rfl ?_
                refine z_goto 41 dX12_items_128 (by decide) ?_
                exact ih _ _ _ h k
              · have h := h.1 c
                rw [if_pos c] at k
                refine z_iload_n (pc' := 115) 1 rfl rfl dX12_items_114 rfl ?_
                refine z_aload_n (pc' := 116) 0 rfl rfl dX12_items_115 rfl ?_
                refine z_invV (as := []) (st := [zI a0]) (C := m_X12_look) (fs := [0, 3, 0, 0, 0, 0, 4, 5, 6, 7, 8, 9, 10, 0, 0, 11, 12, 13, 14, 15, 16, 0, 0, 0, 17, 18, 19, 20, 0, 0, 0, 21, 22, 0, 0, 23, 0, 1, 24, 0, 0, 25, 26, 0, 27, 0]) (pc' := 119) dX12_items_116 rfl t_6_218 k_X12_look rfl (by decide) rfl rfl rfl rfl (Nat.le_of_ble_eq_true rfl) ?_
                obtain ⟨r54, h⟩ := h
                refine c_M_look r54 ?_
                show z_Wp m_X12_items _ 119 [(0, zR 0), (1, zI a0), (2, zR 11), (3, zI a2), (5, zI (zz_or u5 (zz_shl 1 u6))), (6, zI u6)] [zI ((F_M_look (z_up ((F_M_number (z_up wu 0 3 ((wu 0 3) + 1)) (F_M_lowest (z_up wu 0 3 ((wu 0 3) + 1)) a0 u6) (F_M_highest (z_up wu 0 3 ((wu 0 3) + 1)) a0 u6)).2) 11 ((a2 + u6).toNat) ((F_M_number (z_up wu 0 3 ((wu 0 3) + 1)) (F_M_lowest (z_up wu 0 3 ((wu 0 3) + 1)) a0 u6) (F_M_highest (z_up wu 0 3 ((wu 0 3) + 1)) a0 u6)).1))).1), zI a0] ((F_M_look (z_up ((F_M_number (z_up wu 0 3 ((wu 0 3) + 1)) (F_M_lowest (z_up wu 0 3 ((wu 0 3) + 1)) a0 u6) (F_M_highest (z_up wu 0 3 ((wu 0 3) + 1)) a0 u6)).2) 11 ((a2 + u6).toNat) ((F_M_number (z_up wu 0 3 ((wu 0 3) + 1)) (F_M_lowest (z_up wu 0 3 ((wu 0 3) + 1)) a0 u6) (F_M_highest (z_up wu 0 3 ((wu 0 3) + 1)) a0 u6)).1))).2) _
                refine z_invS (as := [zI a0, zI ((F_M_look (z_up ((F_M_number (z_up wu 0 3 ((wu 0 3) + 1)) (F_M_lowest (z_up wu 0 3 ((wu 0 3) + 1)) a0 u6) (F_M_highest (z_up wu 0 3 ((wu 0 3) + 1)) a0 u6)).2) 11 ((a2 + u6).toNat) ((F_M_number (z_up wu 0 3 ((wu 0 3) + 1)) (F_M_lowest (z_up wu 0 3 ((wu 0 3) + 1)) a0 u6) (F_M_highest (z_up wu 0 3 ((wu 0 3) + 1)) a0 u6)).1))).1)]) (st := []) (C := m_X12_itemOf) (pc' := 122) dX12_items_119 rfl t_6_234 k_X12_itemOf rfl rfl (Nat.le_of_ble_eq_true rfl) ?_
                obtain ⟨r55, h⟩ := h
                refine c_M_itemOf r55 ?_
                show z_Wp m_X12_items _ 122 [(0, zR 0), (1, zI a0), (2, zR 11), (3, zI a2), (5, zI (zz_or u5 (zz_shl 1 u6))), (6, zI u6)] [zI (F_M_itemOf ((F_M_look (z_up ((F_M_number (z_up wu 0 3 ((wu 0 3) + 1)) (F_M_lowest (z_up wu 0 3 ((wu 0 3) + 1)) a0 u6) (F_M_highest (z_up wu 0 3 ((wu 0 3) + 1)) a0 u6)).2) 11 ((a2 + u6).toNat) ((F_M_number (z_up wu 0 3 ((wu 0 3) + 1)) (F_M_lowest (z_up wu 0 3 ((wu 0 3) + 1)) a0 u6) (F_M_highest (z_up wu 0 3 ((wu 0 3) + 1)) a0 u6)).1))).2) a0 ((F_M_look (z_up ((F_M_number (z_up wu 0 3 ((wu 0 3) + 1)) (F_M_lowest (z_up wu 0 3 ((wu 0 3) + 1)) a0 u6) (F_M_highest (z_up wu 0 3 ((wu 0 3) + 1)) a0 u6)).2) 11 ((a2 + u6).toNat) ((F_M_number (z_up wu 0 3 ((wu 0 3) + 1)) (F_M_lowest (z_up wu 0 3 ((wu 0 3) + 1)) a0 u6) (F_M_highest (z_up wu 0 3 ((wu 0 3) + 1)) a0 u6)).1))).1))] ((F_M_look (z_up ((F_M_number (z_up wu 0 3 ((wu 0 3) + 1)) (F_M_lowest (z_up wu 0 3 ((wu 0 3) + 1)) a0 u6) (F_M_highest (z_up wu 0 3 ((wu 0 3) + 1)) a0 u6)).2) 11 ((a2 + u6).toNat) ((F_M_number (z_up wu 0 3 ((wu 0 3) + 1)) (F_M_lowest (z_up wu 0 3 ((wu 0 3) + 1)) a0 u6) (F_M_highest (z_up wu 0 3 ((wu 0 3) + 1)) a0 u6)).1))).2) _
                refine z_goto 126 dX12_items_122 (by decide) ?_
                refine z_istore (pc' := 128) (ls' := [(0, zR 0), (1, zI a0), (2, zR 11), (3, zI a2), (5, zI (zz_or u5 (zz_shl 1 u6))), (6, zI (F_M_itemOf ((F_M_look (z_up ((F_M_number (z_up wu 0 3 ((wu 0 3) + 1)) (F_M_lowest (z_up wu 0 3 ((wu 0 3) + 1)) a0 u6) (F_M_highest (z_up wu 0 3 ((wu 0 3) + 1)) a0 u6)).2) 11 ((a2 + u6).toNat) ((F_M_number (z_up wu 0 3 ((wu 0 3) + 1)) (F_M_lowest (z_up wu 0 3 ((wu 0 3) + 1)) a0 u6) (F_M_highest (z_up wu 0 3 ((wu 0 3) + 1)) a0 u6)).1))).2) a0 ((F_M_look (z_up ((F_M_number (z_up wu 0 3 ((wu 0 3) + 1)) (F_M_lowest (z_up wu 0 3 ((wu 0 3) + 1)) a0 u6) (F_M_highest (z_up wu 0 3 ((wu 0 3) + 1)) a0 u6)).2) 11 ((a2 + u6).toNat) ((F_M_number (z_up wu 0 3 ((wu 0 3) + 1)) (F_M_lowest (z_up wu 0 3 ((wu 0 3) + 1)) a0 u6) (F_M_highest (z_up wu 0 3 ((wu 0 3) + 1)) a0 u6)).1))).1)))]) (by decide) rfl rfl dX12_items_126 rfl ?_
                refine z_goto 41 dX12_items_128 (by decide) ?_
                exact ih _ _ _ h k
    exact hl 10 _ _ _ h k
  · intro i27 hi ih
    have h := h.1 i27 hi
    have ih : z_Wp m_X12_items (d + 3) 3 [(0, zR 0), (1, zI a0), (2, zR 11), (3, zI a2), (4, zI a3), (5, zI ((i27 + 1 : Nat) : Int))] [] (z_up (A_M_items_11_3 w a0 a2 a3 i27) 11 ((a2 + (i27 : Int)).toNat) (F_M_usual (A_M_items_11_3 w a0 a2 a3 i27) a0 (i27 : Int))) Q := ih
    refine z_iload (pc' := 5) 5 rfl dX12_items_3 rfl ?_
    refine z_iload (pc' := 7) 4 rfl dX12_items_5 rfl ?_
    obtain ⟨r28, h⟩ := h
    obtain ⟨r29, h⟩ := h
    refine z_icmp_ge 28 dX12_items_7 (by decide) (pc' := 10) rfl r28 r29 (fun c => absurd c (by omega)) (fun _ => ?_)
    refine z_aload_n (pc' := 11) 2 rfl rfl dX12_items_10 rfl ?_
    refine z_iload_n (pc' := 12) 3 rfl rfl dX12_items_11 rfl ?_
    refine z_iload (pc' := 14) 5 rfl dX12_items_12 rfl ?_
    refine z_iadd (pc' := 15) dX12_items_14 rfl ?_
    refine z_iload_n (pc' := 16) 1 rfl rfl dX12_items_15 rfl ?_
    refine z_iload (pc' := 18) 5 rfl dX12_items_16 rfl ?_
    refine z_invS (as := [zI a0, zI (i27 : Int)]) (st := [zI (a2 + (i27 : Int)), zR 11]) (C := m_X12_usual) (pc' := 21) dX12_items_18 rfl t_6_215 k_X12_usual rfl rfl (Nat.le_of_ble_eq_true rfl) ?_
    obtain ⟨r30, h⟩ := h
    refine c_M_usual r30 ?_
    show z_Wp m_X12_items _ 21 [(0, zR 0), (1, zI a0), (2, zR 11), (3, zI a2), (4, zI a3), (5, zI (i27 : Int))] [zI (F_M_usual (A_M_items_11_3 w a0 a2 a3 i27) a0 (i27 : Int)), zI (a2 + (i27 : Int)), zR 11] (A_M_items_11_3 w a0 a2 a3 i27) _
    have r31 := h
    refine z_iast2 (w' := z_up (A_M_items_11_3 w a0 a2 a3 i27) 11 ((a2 + (i27 : Int)).toNat) (F_M_usual (A_M_items_11_3 w a0 a2 a3 i27) a0 (i27 : Int))) (pc' := 22) (by decide) rfl r31 (by decide) rfl dX12_items_21 rfl ?_
    refine z_iinc (pc' := 25) (ls' := [(0, zR 0), (1, zI a0), (2, zR 11), (3, zI a2), (4, zI a3), (5, zI ((i27 : Int) + 1))]) 5 rfl (by decide) rfl rfl dX12_items_22 rfl ?_
    refine z_goto 3 dX12_items_25 (by decide) ?_
    exact ih
def L_M_items_12_41 (w : z_Wd) (a0 : Int) (a2 : Int)  : Nat → Int → Int → z_Wd → z_Wd
  | 0, _, _, _ => w
  | m9 + 1, u5, u6, wu => if wu 0 4 = (-1) then if u6 = (-1) then wu else if F_M_has wu u5 u6 = 0 then if ((F_M_number (z_up wu 0 3 ((wu 0 3) + 1)) (F_M_lowest (z_up wu 0 3 ((wu 0 3) + 1)) a0 u6) (F_M_highest (z_up wu 0 3 ((wu 0 3) + 1)) a0 u6)).2) 0 4 = (-1) then L_M_items_12_41 w a0 a2 m9 (zz_or u5 (zz_shl 1 u6)) (F_M_itemOf ((F_M_look (z_up ((F_M_number (z_up wu 0 3 ((wu 0 3) + 1)) (F_M_lowest (z_up wu 0 3 ((wu 0 3) + 1)) a0 u6) (F_M_highest (z_up wu 0 3 ((wu 0 3) + 1)) a0 u6)).2) 12 ((a2 + u6).toNat) ((F_M_number (z_up wu 0 3 ((wu 0 3) + 1)) (F_M_lowest (z_up wu 0 3 ((wu 0 3) + 1)) a0 u6) (F_M_highest (z_up wu 0 3 ((wu 0 3) + 1)) a0 u6)).1))).2) a0 ((F_M_look (z_up ((F_M_number (z_up wu 0 3 ((wu 0 3) + 1)) (F_M_lowest (z_up wu 0 3 ((wu 0 3) + 1)) a0 u6) (F_M_highest (z_up wu 0 3 ((wu 0 3) + 1)) a0 u6)).2) 12 ((a2 + u6).toNat) ((F_M_number (z_up wu 0 3 ((wu 0 3) + 1)) (F_M_lowest (z_up wu 0 3 ((wu 0 3) + 1)) a0 u6) (F_M_highest (z_up wu 0 3 ((wu 0 3) + 1)) a0 u6)).1))).1)) ((F_M_look (z_up ((F_M_number (z_up wu 0 3 ((wu 0 3) + 1)) (F_M_lowest (z_up wu 0 3 ((wu 0 3) + 1)) a0 u6) (F_M_highest (z_up wu 0 3 ((wu 0 3) + 1)) a0 u6)).2) 12 ((a2 + u6).toNat) ((F_M_number (z_up wu 0 3 ((wu 0 3) + 1)) (F_M_lowest (z_up wu 0 3 ((wu 0 3) + 1)) a0 u6) (F_M_highest (z_up wu 0 3 ((wu 0 3) + 1)) a0 u6)).1))).2) else L_M_items_12_41 w a0 a2 m9 (zz_or u5 (zz_shl 1 u6)) (-1) (z_up ((F_M_number (z_up wu 0 3 ((wu 0 3) + 1)) (F_M_lowest (z_up wu 0 3 ((wu 0 3) + 1)) a0 u6) (F_M_highest (z_up wu 0 3 ((wu 0 3) + 1)) a0 u6)).2) 12 ((a2 + u6).toNat) ((F_M_number (z_up wu 0 3 ((wu 0 3) + 1)) (F_M_lowest (z_up wu 0 3 ((wu 0 3) + 1)) a0 u6) (F_M_highest (z_up wu 0 3 ((wu 0 3) + 1)) a0 u6)).1)) else wu else wu
def PL_M_items_12_41 (w : z_Wd) (a0 : Int) (a2 : Int)  : Nat → Int → Int → z_Wd → Prop
  | 0, _, _, _ => False
  | m9 + 1, u5, u6, wu => (-2147483648 ≤ wu 0 4 ∧ wu 0 4 < 2147483648) ∧ ((wu 0 4 = (-1) → (-2147483648 ≤ u6 ∧ u6 < 2147483648) ∧ ((u6 = (-1) → True) ∧ (¬ (u6 = (-1)) → (P_M_has wu u5 u6) ∧ ((F_M_has wu u5 u6 = 0 → (P_M_lowest (z_up wu 0 3 ((wu 0 3) + 1)) a0 u6) ∧ (P_M_highest (z_up wu 0 3 ((wu 0 3) + 1)) a0 u6) ∧ (P_M_number (z_up wu 0 3 ((wu 0 3) + 1)) (F_M_lowest (z_up wu 0 3 ((wu 0 3) + 1)) a0 u6) (F_M_highest (z_up wu 0 3 ((wu 0 3) + 1)) a0 u6)) ∧ (0 ≤ a2 + u6 ∧ a2 + u6 < 8) ∧ (-2147483648 ≤ ((F_M_number (z_up wu 0 3 ((wu 0 3) + 1)) (F_M_lowest (z_up wu 0 3 ((wu 0 3) + 1)) a0 u6) (F_M_highest (z_up wu 0 3 ((wu 0 3) + 1)) a0 u6)).2) 0 4 ∧ ((F_M_number (z_up wu 0 3 ((wu 0 3) + 1)) (F_M_lowest (z_up wu 0 3 ((wu 0 3) + 1)) a0 u6) (F_M_highest (z_up wu 0 3 ((wu 0 3) + 1)) a0 u6)).2) 0 4 < 2147483648) ∧ ((((F_M_number (z_up wu 0 3 ((wu 0 3) + 1)) (F_M_lowest (z_up wu 0 3 ((wu 0 3) + 1)) a0 u6) (F_M_highest (z_up wu 0 3 ((wu 0 3) + 1)) a0 u6)).2) 0 4 = (-1) → (P_M_look (z_up ((F_M_number (z_up wu 0 3 ((wu 0 3) + 1)) (F_M_lowest (z_up wu 0 3 ((wu 0 3) + 1)) a0 u6) (F_M_highest (z_up wu 0 3 ((wu 0 3) + 1)) a0 u6)).2) 12 ((a2 + u6).toNat) ((F_M_number (z_up wu 0 3 ((wu 0 3) + 1)) (F_M_lowest (z_up wu 0 3 ((wu 0 3) + 1)) a0 u6) (F_M_highest (z_up wu 0 3 ((wu 0 3) + 1)) a0 u6)).1))) ∧ (P_M_itemOf ((F_M_look (z_up ((F_M_number (z_up wu 0 3 ((wu 0 3) + 1)) (F_M_lowest (z_up wu 0 3 ((wu 0 3) + 1)) a0 u6) (F_M_highest (z_up wu 0 3 ((wu 0 3) + 1)) a0 u6)).2) 12 ((a2 + u6).toNat) ((F_M_number (z_up wu 0 3 ((wu 0 3) + 1)) (F_M_lowest (z_up wu 0 3 ((wu 0 3) + 1)) a0 u6) (F_M_highest (z_up wu 0 3 ((wu 0 3) + 1)) a0 u6)).1))).2) a0 ((F_M_look (z_up ((F_M_number (z_up wu 0 3 ((wu 0 3) + 1)) (F_M_lowest (z_up wu 0 3 ((wu 0 3) + 1)) a0 u6) (F_M_highest (z_up wu 0 3 ((wu 0 3) + 1)) a0 u6)).2) 12 ((a2 + u6).toNat) ((F_M_number (z_up wu 0 3 ((wu 0 3) + 1)) (F_M_lowest (z_up wu 0 3 ((wu 0 3) + 1)) a0 u6) (F_M_highest (z_up wu 0 3 ((wu 0 3) + 1)) a0 u6)).1))).1)) ∧ (PL_M_items_12_41 w a0 a2 m9 (zz_or u5 (zz_shl 1 u6)) (F_M_itemOf ((F_M_look (z_up ((F_M_number (z_up wu 0 3 ((wu 0 3) + 1)) (F_M_lowest (z_up wu 0 3 ((wu 0 3) + 1)) a0 u6) (F_M_highest (z_up wu 0 3 ((wu 0 3) + 1)) a0 u6)).2) 12 ((a2 + u6).toNat) ((F_M_number (z_up wu 0 3 ((wu 0 3) + 1)) (F_M_lowest (z_up wu 0 3 ((wu 0 3) + 1)) a0 u6) (F_M_highest (z_up wu 0 3 ((wu 0 3) + 1)) a0 u6)).1))).2) a0 ((F_M_look (z_up ((F_M_number (z_up wu 0 3 ((wu 0 3) + 1)) (F_M_lowest (z_up wu 0 3 ((wu 0 3) + 1)) a0 u6) (F_M_highest (z_up wu 0 3 ((wu 0 3) + 1)) a0 u6)).2) 12 ((a2 + u6).toNat) ((F_M_number (z_up wu 0 3 ((wu 0 3) + 1)) (F_M_lowest (z_up wu 0 3 ((wu 0 3) + 1)) a0 u6) (F_M_highest (z_up wu 0 3 ((wu 0 3) + 1)) a0 u6)).1))).1)) ((F_M_look (z_up ((F_M_number (z_up wu 0 3 ((wu 0 3) + 1)) (F_M_lowest (z_up wu 0 3 ((wu 0 3) + 1)) a0 u6) (F_M_highest (z_up wu 0 3 ((wu 0 3) + 1)) a0 u6)).2) 12 ((a2 + u6).toNat) ((F_M_number (z_up wu 0 3 ((wu 0 3) + 1)) (F_M_lowest (z_up wu 0 3 ((wu 0 3) + 1)) a0 u6) (F_M_highest (z_up wu 0 3 ((wu 0 3) + 1)) a0 u6)).1))).2))) ∧ (¬ (((F_M_number (z_up wu 0 3 ((wu 0 3) + 1)) (F_M_lowest (z_up wu 0 3 ((wu 0 3) + 1)) a0 u6) (F_M_highest (z_up wu 0 3 ((wu 0 3) + 1)) a0 u6)).2) 0 4 = (-1)) → PL_M_items_12_41 w a0 a2 m9 (zz_or u5 (zz_shl 1 u6)) (-1) (z_up ((F_M_number (z_up wu 0 3 ((wu 0 3) + 1)) (F_M_lowest (z_up wu 0 3 ((wu 0 3) + 1)) a0 u6) (F_M_highest (z_up wu 0 3 ((wu 0 3) + 1)) a0 u6)).2) 12 ((a2 + u6).toNat) ((F_M_number (z_up wu 0 3 ((wu 0 3) + 1)) (F_M_lowest (z_up wu 0 3 ((wu 0 3) + 1)) a0 u6) (F_M_highest (z_up wu 0 3 ((wu 0 3) + 1)) a0 u6)).1))))) ∧ (¬ (F_M_has wu u5 u6 = 0) → True))))) ∧ (¬ (wu 0 4 = (-1)) → True))
def A_M_items_12_3 (w : z_Wd) (a0 : Int) (a2 : Int) (a3 : Int) : Nat → z_Wd
  | 0 => w
  | i27 + 1 => z_up (A_M_items_12_3 w a0 a2 a3 i27) 12 ((a2 + (i27 : Int)).toNat) (F_M_usual (A_M_items_12_3 w a0 a2 a3 i27) a0 (i27 : Int))
def P_M_items_12 (w : z_Wd) (a0 : Int) (a2 : Int) (a3 : Int) : Prop := (∀ i27 : Nat, i27 < ((a3).toNat) → (-2147483648 ≤ (i27 : Int) ∧ (i27 : Int) < 2147483648) ∧ (-2147483648 ≤ a3 ∧ a3 < 2147483648) ∧ (P_M_usual (A_M_items_12_3 w a0 a2 a3 i27) a0 (i27 : Int)) ∧ (0 ≤ a2 + (i27 : Int) ∧ a2 + (i27 : Int) < 8)) ∧ ((-2147483648 ≤ (((a3).toNat : Nat) : Int) ∧ (((a3).toNat : Nat) : Int) < 2147483648) ∧ (-2147483648 ≤ a3 ∧ a3 < 2147483648) ∧ (P_M_look (A_M_items_12_3 w a0 a2 a3 (a3).toNat)) ∧ (P_M_itemOf ((F_M_look (A_M_items_12_3 w a0 a2 a3 (a3).toNat)).2) a0 ((F_M_look (A_M_items_12_3 w a0 a2 a3 (a3).toNat)).1)) ∧ (PL_M_items_12_41 w a0 a2 10 0 (F_M_itemOf ((F_M_look (A_M_items_12_3 w a0 a2 a3 (a3).toNat)).2) a0 ((F_M_look (A_M_items_12_3 w a0 a2 a3 (a3).toNat)).1)) ((F_M_look (A_M_items_12_3 w a0 a2 a3 (a3).toNat)).2)))
def F_M_items_12 (w : z_Wd) (a0 : Int) (a2 : Int) (a3 : Int) : z_Wd := L_M_items_12_41 w a0 a2 10 0 (F_M_itemOf ((F_M_look (A_M_items_12_3 w a0 a2 a3 (a3).toNat)).2) a0 ((F_M_look (A_M_items_12_3 w a0 a2 a3 (a3).toNat)).1)) ((F_M_look (A_M_items_12_3 w a0 a2 a3 (a3).toNat)).2)
set_option maxRecDepth 4000 in
theorem c_M_items_12 {d : Nat} {w : z_Wd} {a0 a2 a3 : Int} {Q : Option z_V → z_Wd → Prop} (h : P_M_items_12 w a0 a2 a3) (k : Q none (F_M_items_12 w a0 a2 a3)) : z_Wc (d + 3) m_X12_items [zR 0, zI a0, zR 12, zI a2, zI a3] w Q := by
  unfold P_M_items_12 at h
  unfold F_M_items_12 at k
  refine z_enter rfl (Nat.le_of_ble_eq_true rfl) ?_
  show z_Wp m_X12_items _ 0 [(0, zR 0), (1, zI a0), (2, zR 12), (3, zI a2), (4, zI a3)] [] w _
  refine z_iconst (pc' := 1) dX12_items_0 rfl ?_
  refine z_istore (pc' := 3) (ls' := [(0, zR 0), (1, zI a0), (2, zR 12), (3, zI a2), (4, zI a3), (5, zI 0)]) (by decide) rfl rfl dX12_items_1 rfl ?_
  refine z_upto ((a3).toNat) (fun i27 => z_Wp m_X12_items (d + 3) 3 [(0, zR 0), (1, zI a0), (2, zR 12), (3, zI a2), (4, zI a3), (5, zI (i27 : Int))] [] (A_M_items_12_3 w a0 a2 a3 i27) Q) ?_ ?_
  · skip
    have h := h.2
    refine z_iload (pc' := 5) 5 rfl dX12_items_3 rfl ?_
    refine z_iload (pc' := 7) 4 rfl dX12_items_5 rfl ?_
    obtain ⟨r32, h⟩ := h
    obtain ⟨r33, h⟩ := h
    refine z_icmp_ge 28 dX12_items_7 (by decide) (pc' := 10) rfl r32 r33 (fun _ => ?_) (fun c => absurd c (by omega))
    refine z_iconst (pc' := 29) dX12_items_28 rfl ?_
    refine z_istore (pc' := 31) (ls' := [(0, zR 0), (1, zI a0), (2, zR 12), (3, zI a2), (4, zI a3), (5, zI 0)]) (by decide) rfl rfl dX12_items_29 rfl ?_
    refine z_iload_n (pc' := 32) 1 rfl rfl dX12_items_31 rfl ?_
    refine z_aload_n (pc' := 33) 0 rfl rfl dX12_items_32 rfl ?_
    refine z_invV (as := []) (st := [zI a0]) (C := m_X12_look) (fs := [0, 3, 0, 0, 0, 0, 4, 5, 6, 7, 8, 9, 10, 0, 0, 11, 12, 13, 14, 15, 16, 0, 0, 0, 17, 18, 19, 20, 0, 0, 0, 21, 22, 0, 0, 23, 0, 1, 24, 0, 0, 25, 26, 0, 27, 0]) (pc' := 36) dX12_items_33 rfl t_6_218 k_X12_look rfl (by decide) rfl rfl rfl rfl (Nat.le_of_ble_eq_true rfl) ?_
    obtain ⟨r34, h⟩ := h
    refine c_M_look r34 ?_
    show z_Wp m_X12_items _ 36 [(0, zR 0), (1, zI a0), (2, zR 12), (3, zI a2), (4, zI a3), (5, zI 0)] [zI ((F_M_look (A_M_items_12_3 w a0 a2 a3 (a3).toNat)).1), zI a0] ((F_M_look (A_M_items_12_3 w a0 a2 a3 (a3).toNat)).2) _
    refine z_invS (as := [zI a0, zI ((F_M_look (A_M_items_12_3 w a0 a2 a3 (a3).toNat)).1)]) (st := []) (C := m_X12_itemOf) (pc' := 39) dX12_items_36 rfl t_6_234 k_X12_itemOf rfl rfl (Nat.le_of_ble_eq_true rfl) ?_
    obtain ⟨r35, h⟩ := h
    refine c_M_itemOf r35 ?_
    show z_Wp m_X12_items _ 39 [(0, zR 0), (1, zI a0), (2, zR 12), (3, zI a2), (4, zI a3), (5, zI 0)] [zI (F_M_itemOf ((F_M_look (A_M_items_12_3 w a0 a2 a3 (a3).toNat)).2) a0 ((F_M_look (A_M_items_12_3 w a0 a2 a3 (a3).toNat)).1))] ((F_M_look (A_M_items_12_3 w a0 a2 a3 (a3).toNat)).2) _
    refine z_istore (pc' := 41) (ls' := [(0, zR 0), (1, zI a0), (2, zR 12), (3, zI a2), (4, zI a3), (5, zI 0), (6, zI (F_M_itemOf ((F_M_look (A_M_items_12_3 w a0 a2 a3 (a3).toNat)).2) a0 ((F_M_look (A_M_items_12_3 w a0 a2 a3 (a3).toNat)).1)))]) (by decide) rfl rfl dX12_items_39 rfl ?_
    refine z_Wp.sub (ls' := [(0, zR 0), (1, zI a0), (2, zR 12), (3, zI a2), (5, zI 0), (6, zI (F_M_itemOf ((F_M_look (A_M_items_12_3 w a0 a2 a3 (a3).toNat)).2) a0 ((F_M_look (A_M_items_12_3 w a0 a2 a3 (a3).toNat)).1)))]) ?_ (z_sub_of [0, 1, 2, 3, 5, 6] rfl)
    have hl : ∀ (m9 : Nat) (u5 : Int) (u6 : Int) (wu : z_Wd), PL_M_items_12_41 w a0 a2 m9 u5 u6 wu → Q none (L_M_items_12_41 w a0 a2 m9 u5 u6 wu) → z_Wp m_X12_items (d + 3) 41 [(0, zR 0), (1, zI a0), (2, zR 12), (3, zI a2), (5, zI u5), (6, zI u6)] [] wu Q := by
      clear h k
      intro m9
      induction m9 with
      | zero => intro u5 u6 wu h k; exact False.elim h
      | succ m9 ih =>
        intro u5 u6 wu h k
        have h : (-2147483648 ≤ wu 0 4 ∧ wu 0 4 < 2147483648) ∧ ((wu 0 4 = (-1) → (-2147483648 ≤ u6 ∧ u6 < 2147483648) ∧ ((u6 = (-1) → True) ∧ (¬ (u6 = (-1)) → (P_M_has wu u5 u6) ∧ ((F_M_has wu u5 u6 = 0 → (P_M_lowest (z_up wu 0 3 ((wu 0 3) + 1)) a0 u6) ∧ (P_M_highest (z_up wu 0 3 ((wu 0 3) + 1)) a0 u6) ∧ (P_M_number (z_up wu 0 3 ((wu 0 3) + 1)) (F_M_lowest (z_up wu 0 3 ((wu 0 3) + 1)) a0 u6) (F_M_highest (z_up wu 0 3 ((wu 0 3) + 1)) a0 u6)) ∧ (0 ≤ a2 + u6 ∧ a2 + u6 < 8) ∧ (-2147483648 ≤ ((F_M_number (z_up wu 0 3 ((wu 0 3) + 1)) (F_M_lowest (z_up wu 0 3 ((wu 0 3) + 1)) a0 u6) (F_M_highest (z_up wu 0 3 ((wu 0 3) + 1)) a0 u6)).2) 0 4 ∧ ((F_M_number (z_up wu 0 3 ((wu 0 3) + 1)) (F_M_lowest (z_up wu 0 3 ((wu 0 3) + 1)) a0 u6) (F_M_highest (z_up wu 0 3 ((wu 0 3) + 1)) a0 u6)).2) 0 4 < 2147483648) ∧ ((((F_M_number (z_up wu 0 3 ((wu 0 3) + 1)) (F_M_lowest (z_up wu 0 3 ((wu 0 3) + 1)) a0 u6) (F_M_highest (z_up wu 0 3 ((wu 0 3) + 1)) a0 u6)).2) 0 4 = (-1) → (P_M_look (z_up ((F_M_number (z_up wu 0 3 ((wu 0 3) + 1)) (F_M_lowest (z_up wu 0 3 ((wu 0 3) + 1)) a0 u6) (F_M_highest (z_up wu 0 3 ((wu 0 3) + 1)) a0 u6)).2) 12 ((a2 + u6).toNat) ((F_M_number (z_up wu 0 3 ((wu 0 3) + 1)) (F_M_lowest (z_up wu 0 3 ((wu 0 3) + 1)) a0 u6) (F_M_highest (z_up wu 0 3 ((wu 0 3) + 1)) a0 u6)).1))) ∧ (P_M_itemOf ((F_M_look (z_up ((F_M_number (z_up wu 0 3 ((wu 0 3) + 1)) (F_M_lowest (z_up wu 0 3 ((wu 0 3) + 1)) a0 u6) (F_M_highest (z_up wu 0 3 ((wu 0 3) + 1)) a0 u6)).2) 12 ((a2 + u6).toNat) ((F_M_number (z_up wu 0 3 ((wu 0 3) + 1)) (F_M_lowest (z_up wu 0 3 ((wu 0 3) + 1)) a0 u6) (F_M_highest (z_up wu 0 3 ((wu 0 3) + 1)) a0 u6)).1))).2) a0 ((F_M_look (z_up ((F_M_number (z_up wu 0 3 ((wu 0 3) + 1)) (F_M_lowest (z_up wu 0 3 ((wu 0 3) + 1)) a0 u6) (F_M_highest (z_up wu 0 3 ((wu 0 3) + 1)) a0 u6)).2) 12 ((a2 + u6).toNat) ((F_M_number (z_up wu 0 3 ((wu 0 3) + 1)) (F_M_lowest (z_up wu 0 3 ((wu 0 3) + 1)) a0 u6) (F_M_highest (z_up wu 0 3 ((wu 0 3) + 1)) a0 u6)).1))).1)) ∧ (PL_M_items_12_41 w a0 a2 m9 (zz_or u5 (zz_shl 1 u6)) (F_M_itemOf ((F_M_look (z_up ((F_M_number (z_up wu 0 3 ((wu 0 3) + 1)) (F_M_lowest (z_up wu 0 3 ((wu 0 3) + 1)) a0 u6) (F_M_highest (z_up wu 0 3 ((wu 0 3) + 1)) a0 u6)).2) 12 ((a2 + u6).toNat) ((F_M_number (z_up wu 0 3 ((wu 0 3) + 1)) (F_M_lowest (z_up wu 0 3 ((wu 0 3) + 1)) a0 u6) (F_M_highest (z_up wu 0 3 ((wu 0 3) + 1)) a0 u6)).1))).2) a0 ((F_M_look (z_up ((F_M_number (z_up wu 0 3 ((wu 0 3) + 1)) (F_M_lowest (z_up wu 0 3 ((wu 0 3) + 1)) a0 u6) (F_M_highest (z_up wu 0 3 ((wu 0 3) + 1)) a0 u6)).2) 12 ((a2 + u6).toNat) ((F_M_number (z_up wu 0 3 ((wu 0 3) + 1)) (F_M_lowest (z_up wu 0 3 ((wu 0 3) + 1)) a0 u6) (F_M_highest (z_up wu 0 3 ((wu 0 3) + 1)) a0 u6)).1))).1)) ((F_M_look (z_up ((F_M_number (z_up wu 0 3 ((wu 0 3) + 1)) (F_M_lowest (z_up wu 0 3 ((wu 0 3) + 1)) a0 u6) (F_M_highest (z_up wu 0 3 ((wu 0 3) + 1)) a0 u6)).2) 12 ((a2 + u6).toNat) ((F_M_number (z_up wu 0 3 ((wu 0 3) + 1)) (F_M_lowest (z_up wu 0 3 ((wu 0 3) + 1)) a0 u6) (F_M_highest (z_up wu 0 3 ((wu 0 3) + 1)) a0 u6)).1))).2))) ∧ (¬ (((F_M_number (z_up wu 0 3 ((wu 0 3) + 1)) (F_M_lowest (z_up wu 0 3 ((wu 0 3) + 1)) a0 u6) (F_M_highest (z_up wu 0 3 ((wu 0 3) + 1)) a0 u6)).2) 0 4 = (-1)) → PL_M_items_12_41 w a0 a2 m9 (zz_or u5 (zz_shl 1 u6)) (-1) (z_up ((F_M_number (z_up wu 0 3 ((wu 0 3) + 1)) (F_M_lowest (z_up wu 0 3 ((wu 0 3) + 1)) a0 u6) (F_M_highest (z_up wu 0 3 ((wu 0 3) + 1)) a0 u6)).2) 12 ((a2 + u6).toNat) ((F_M_number (z_up wu 0 3 ((wu 0 3) + 1)) (F_M_lowest (z_up wu 0 3 ((wu 0 3) + 1)) a0 u6) (F_M_highest (z_up wu 0 3 ((wu 0 3) + 1)) a0 u6)).1))))) ∧ (¬ (F_M_has wu u5 u6 = 0) → True))))) ∧ (¬ (wu 0 4 = (-1)) → True)) := h
        have k : Q none (if wu 0 4 = (-1) then if u6 = (-1) then wu else if F_M_has wu u5 u6 = 0 then if ((F_M_number (z_up wu 0 3 ((wu 0 3) + 1)) (F_M_lowest (z_up wu 0 3 ((wu 0 3) + 1)) a0 u6) (F_M_highest (z_up wu 0 3 ((wu 0 3) + 1)) a0 u6)).2) 0 4 = (-1) then L_M_items_12_41 w a0 a2 m9 (zz_or u5 (zz_shl 1 u6)) (F_M_itemOf ((F_M_look (z_up ((F_M_number (z_up wu 0 3 ((wu 0 3) + 1)) (F_M_lowest (z_up wu 0 3 ((wu 0 3) + 1)) a0 u6) (F_M_highest (z_up wu 0 3 ((wu 0 3) + 1)) a0 u6)).2) 12 ((a2 + u6).toNat) ((F_M_number (z_up wu 0 3 ((wu 0 3) + 1)) (F_M_lowest (z_up wu 0 3 ((wu 0 3) + 1)) a0 u6) (F_M_highest (z_up wu 0 3 ((wu 0 3) + 1)) a0 u6)).1))).2) a0 ((F_M_look (z_up ((F_M_number (z_up wu 0 3 ((wu 0 3) + 1)) (F_M_lowest (z_up wu 0 3 ((wu 0 3) + 1)) a0 u6) (F_M_highest (z_up wu 0 3 ((wu 0 3) + 1)) a0 u6)).2) 12 ((a2 + u6).toNat) ((F_M_number (z_up wu 0 3 ((wu 0 3) + 1)) (F_M_lowest (z_up wu 0 3 ((wu 0 3) + 1)) a0 u6) (F_M_highest (z_up wu 0 3 ((wu 0 3) + 1)) a0 u6)).1))).1)) ((F_M_look (z_up ((F_M_number (z_up wu 0 3 ((wu 0 3) + 1)) (F_M_lowest (z_up wu 0 3 ((wu 0 3) + 1)) a0 u6) (F_M_highest (z_up wu 0 3 ((wu 0 3) + 1)) a0 u6)).2) 12 ((a2 + u6).toNat) ((F_M_number (z_up wu 0 3 ((wu 0 3) + 1)) (F_M_lowest (z_up wu 0 3 ((wu 0 3) + 1)) a0 u6) (F_M_highest (z_up wu 0 3 ((wu 0 3) + 1)) a0 u6)).1))).2) else L_M_items_12_41 w a0 a2 m9 (zz_or u5 (zz_shl 1 u6)) (-1) (z_up ((F_M_number (z_up wu 0 3 ((wu 0 3) + 1)) (F_M_lowest (z_up wu 0 3 ((wu 0 3) + 1)) a0 u6) (F_M_highest (z_up wu 0 3 ((wu 0 3) + 1)) a0 u6)).2) 12 ((a2 + u6).toNat) ((F_M_number (z_up wu 0 3 ((wu 0 3) + 1)) (F_M_lowest (z_up wu 0 3 ((wu 0 3) + 1)) a0 u6) (F_M_highest (z_up wu 0 3 ((wu 0 3) + 1)) a0 u6)).1)) else wu else wu) := k
        refine z_aload_n (pc' := 42) 0 rfl rfl dX12_items_41 rfl ?_
        refine z_getI2 (v := wu 0 4) (pc' := 45) g_X12_109 (by decide) rfl rfl rfl dX12_items_42 rfl ?_
        refine z_iconst (pc' := 46) dX12_items_45 rfl ?_
        obtain ⟨r46, h⟩ := h
        refine z_icmp_ne 131 dX12_items_46 (by decide) (pc' := 49) rfl r46 (by decide) (fun c => ?_) (fun c => ?_)
        · have h := h.2 c
          rw [if_neg c] at k
          refine z_vret rfl dX12_items_131 ?_
          exact k
        · have h := h.1 c
          rw [if_pos c] at k
          refine z_iload (pc' := 51) 5 rfl dX12_items_49 rfl ?_
          refine z_iconst (pc' := 52) dX12_items_51 rfl ?_
          obtain ⟨r47, h⟩ := h
          refine z_icmp_eq 131 dX12_items_52 (by decide) (pc' := 55) rfl r47 (by decide) (fun c => ?_) (fun c => ?_)
          · have h := h.1 c
            rw [if_pos c] at k
            refine z_vret rfl dX12_items_131 ?_
            exact k
          · have h := h.2 c
            rw [if_neg c] at k
            refine z_iload (pc' := 57) 4 rfl dX12_items_55 rfl ?_
            refine z_iload (pc' := 59) 5 rfl dX12_items_57 rfl ?_
            refine z_invS (as := [zI u5, zI u6]) (st := []) (C := m_X12_has) (pc' := 62) dX12_items_59 rfl t_6_237 k_X12_has rfl rfl (Nat.le_of_ble_eq_true rfl) ?_
            obtain ⟨r48, h⟩ := h
            refine c_M_has r48 ?_
            show z_Wp m_X12_items _ 62 [(0, zR 0), (1, zI a0), (2, zR 12), (3, zI a2), (5, zI u5), (6, zI u6)] [zI (F_M_has wu u5 u6)] wu _
            refine z_if_ne 131 dX12_items_62 (by decide) (pc' := 65) rfl (z_rb b_M_has) (fun c => ?_) (fun c => ?_)
            · have h := h.2 c
              rw [if_neg c] at k
              refine z_vret rfl dX12_items_131 ?_
              exact k
            · have h := h.1 c
              rw [if_pos c] at k
              refine z_iload (pc' := 67) 4 rfl dX12_items_65 rfl ?_
              refine z_iconst (pc' := 68) dX12_items_67 rfl ?_
              refine z_iload (pc' := 70) 5 rfl dX12_items_68 rfl ?_
              refine z_ishl (pc' := 71) dX12_items_70 rfl ?_
              refine z_ior (pc' := 72) dX12_items_71 rfl ?_
              refine z_istore (pc' := 74) (ls' := [(0, zR 0), (1, zI a0), (2, zR 12), (3, zI a2), (5, zI (zz_or u5 (zz_shl 1 u6))), (6, zI u6)]) (by decide) rfl rfl dX12_items_72 rfl ?_
              refine z_aload_n (pc' := 75) 0 rfl rfl dX12_items_74 rfl ?_
              refine z_dup (pc' := 76) rfl dX12_items_75 rfl ?_
              refine z_getI2 (v := wu 0 3) (pc' := 79) g_X12_102 (by decide) rfl rfl rfl dX12_items_76 rfl ?_
              refine z_iconst (pc' := 80) dX12_items_79 rfl ?_
              refine z_iadd (pc' := 81) dX12_items_80 rfl ?_
              refine z_putI (pc' := 84) p_X12_102 (by decide) rfl rfl rfl rfl dX12_items_81 rfl ?_
              refine z_aload_n (pc' := 85) 2 rfl rfl dX12_items_84 rfl ?_
              refine z_iload_n (pc' := 86) 3 rfl rfl dX12_items_85 rfl ?_
              refine z_iload (pc' := 88) 5 rfl dX12_items_86 rfl ?_
              refine z_iadd (pc' := 89) dX12_items_88 rfl ?_
              refine z_aload_n (pc' := 90) 0 rfl rfl dX12_items_89 rfl ?_
              refine z_iload_n (pc' := 91) 1 rfl rfl dX12_items_90 rfl ?_
              refine z_iload (pc' := 93) 5 rfl dX12_items_91 rfl ?_
              refine z_invS (as := [zI a0, zI u6]) (st := [zR 0, zI (a2 + u6), zR 12]) (C := m_X12_lowest) (pc' := 96) dX12_items_93 rfl t_7_0 k_X12_lowest rfl rfl (Nat.le_of_ble_eq_true rfl) ?_
              obtain ⟨r49, h⟩ := h
              refine c_M_lowest r49 ?_
              show z_Wp m_X12_items _ 96 [(0, zR 0), (1, zI a0), (2, zR 12), (3, zI a2), (5, zI (zz_or u5 (zz_shl 1 u6))), (6, zI u6)] [zI (F_M_lowest (z_up wu 0 3 ((wu 0 3) + 1)) a0 u6), zR 0, zI (a2 + u6), zR 12] (z_up wu 0 3 ((wu 0 3) + 1)) _
              refine z_iload_n (pc' := 97) 1 rfl rfl dX12_items_96 rfl ?_
              refine z_iload (pc' := 99) 5 rfl dX12_items_97 rfl ?_
              refine z_invS (as := [zI a0, zI u6]) (st := [zI (F_M_lowest (z_up wu 0 3 ((wu 0 3) + 1)) a0 u6), zR 0, zI (a2 + u6), zR 12]) (C := m_X12_highest) (pc' := 102) dX12_items_99 rfl t_7_3 k_X12_highest rfl rfl (Nat.le_of_ble_eq_true rfl) ?_
              obtain ⟨r50, h⟩ := h
              refine c_M_highest r50 ?_
              show z_Wp m_X12_items _ 102 [(0, zR 0), (1, zI a0), (2, zR 12), (3, zI a2), (5, zI (zz_or u5 (zz_shl 1 u6))), (6, zI u6)] [zI (F_M_highest (z_up wu 0 3 ((wu 0 3) + 1)) a0 u6), zI (F_M_lowest (z_up wu 0 3 ((wu 0 3) + 1)) a0 u6), zR 0, zI (a2 + u6), zR 12] (z_up wu 0 3 ((wu 0 3) + 1)) _
              refine z_invV (as := [zI (F_M_lowest (z_up wu 0 3 ((wu 0 3) + 1)) a0 u6), zI (F_M_highest (z_up wu 0 3 ((wu 0 3) + 1)) a0 u6)]) (st := [zI (a2 + u6), zR 12]) (C := m_X12_number) (fs := [0, 3, 0, 0, 0, 0, 4, 5, 6, 7, 8, 9, 10, 0, 0, 11, 12, 13, 14, 15, 16, 0, 0, 0, 17, 18, 19, 20, 0, 0, 0, 21, 22, 0, 0, 23, 0, 1, 24, 0, 0, 25, 26, 0, 27, 0]) (pc' := 105) dX12_items_102 rfl t_7_6 k_X12_number rfl (by decide) rfl rfl rfl rfl (Nat.le_of_ble_eq_true rfl) ?_
              obtain ⟨r51, h⟩ := h
              refine c_M_number r51 ?_
              show z_Wp m_X12_items _ 105 [(0, zR 0), (1, zI a0), (2, zR 12), (3, zI a2), (5, zI (zz_or u5 (zz_shl 1 u6))), (6, zI u6)] [zI ((F_M_number (z_up wu 0 3 ((wu 0 3) + 1)) (F_M_lowest (z_up wu 0 3 ((wu 0 3) + 1)) a0 u6) (F_M_highest (z_up wu 0 3 ((wu 0 3) + 1)) a0 u6)).1), zI (a2 + u6), zR 12] ((F_M_number (z_up wu 0 3 ((wu 0 3) + 1)) (F_M_lowest (z_up wu 0 3 ((wu 0 3) + 1)) a0 u6) (F_M_highest (z_up wu 0 3 ((wu 0 3) + 1)) a0 u6)).2) _
              obtain ⟨r52, h⟩ := h
              refine z_iast2 (w' := z_up ((F_M_number (z_up wu 0 3 ((wu 0 3) + 1)) (F_M_lowest (z_up wu 0 3 ((wu 0 3) + 1)) a0 u6) (F_M_highest (z_up wu 0 3 ((wu 0 3) + 1)) a0 u6)).2) 12 ((a2 + u6).toNat) ((F_M_number (z_up wu 0 3 ((wu 0 3) + 1)) (F_M_lowest (z_up wu 0 3 ((wu 0 3) + 1)) a0 u6) (F_M_highest (z_up wu 0 3 ((wu 0 3) + 1)) a0 u6)).1)) (pc' := 106) (by decide) rfl r52 (by decide) rfl dX12_items_105 rfl ?_
              refine z_aload_n (pc' := 107) 0 rfl rfl dX12_items_106 rfl ?_
              refine z_getI2 (v := ((F_M_number (z_up wu 0 3 ((wu 0 3) + 1)) (F_M_lowest (z_up wu 0 3 ((wu 0 3) + 1)) a0 u6) (F_M_highest (z_up wu 0 3 ((wu 0 3) + 1)) a0 u6)).2) 0 4) (pc' := 110) g_X12_109 (by decide) rfl rfl rfl dX12_items_107 rfl ?_
              refine z_iconst (pc' := 111) dX12_items_110 rfl ?_
              obtain ⟨r53, h⟩ := h
              refine z_icmp_ne 125 dX12_items_111 (by decide) (pc' := 114) rfl r53 (by decide) (fun c => ?_) (fun c => ?_)
              · have h := h.2 c
                rw [if_neg c] at k
                refine z_iconst (pc' := 126) dX12_items_125 rfl ?_
                refine z_istore (pc' := 128) (ls' := [(0, zR 0), (1, zI a0), (2, zR 12), (3, zI a2), (5, zI (zz_or u5 (zz_shl 1 u6))), (6, zI (-1))]) (by decide) rfl rfl dX12_items_126 rfl ?_
                refine z_goto 41 dX12_items_128 (by decide) ?_
                exact ih _ _ _ h k
              · have h := h.1 c
                rw [if_pos c] at k
                refine z_iload_n (pc' := 115) 1 rfl rfl dX12_items_114 rfl ?_
                refine z_aload_n (pc' := 116) 0 rfl rfl dX12_items_115 rfl ?_
                refine z_invV (as := []) (st := [zI a0]) (C := m_X12_look) (fs := [0, 3, 0, 0, 0, 0, 4, 5, 6, 7, 8, 9, 10, 0, 0, 11, 12, 13, 14, 15, 16, 0, 0, 0, 17, 18, 19, 20, 0, 0, 0, 21, 22, 0, 0, 23, 0, 1, 24, 0, 0, 25, 26, 0, 27, 0]) (pc' := 119) dX12_items_116 rfl t_6_218 k_X12_look rfl (by decide) rfl rfl rfl rfl (Nat.le_of_ble_eq_true rfl) ?_
                obtain ⟨r54, h⟩ := h
                refine c_M_look r54 ?_
                show z_Wp m_X12_items _ 119 [(0, zR 0), (1, zI a0), (2, zR 12), (3, zI a2), (5, zI (zz_or u5 (zz_shl 1 u6))), (6, zI u6)] [zI ((F_M_look (z_up ((F_M_number (z_up wu 0 3 ((wu 0 3) + 1)) (F_M_lowest (z_up wu 0 3 ((wu 0 3) + 1)) a0 u6) (F_M_highest (z_up wu 0 3 ((wu 0 3) + 1)) a0 u6)).2) 12 ((a2 + u6).toNat) ((F_M_number (z_up wu 0 3 ((wu 0 3) + 1)) (F_M_lowest (z_up wu 0 3 ((wu 0 3) + 1)) a0 u6) (F_M_highest (z_up wu 0 3 ((wu 0 3) + 1)) a0 u6)).1))).1), zI a0] ((F_M_look (z_up ((F_M_number (z_up wu 0 3 ((wu 0 3) + 1)) (F_M_lowest (z_up wu 0 3 ((wu 0 3) + 1)) a0 u6) (F_M_highest (z_up wu 0 3 ((wu 0 3) + 1)) a0 u6)).2) 12 ((a2 + u6).toNat) ((F_M_number (z_up wu 0 3 ((wu 0 3) + 1)) (F_M_lowest (z_up wu 0 3 ((wu 0 3) + 1)) a0 u6) (F_M_highest (z_up wu 0 3 ((wu 0 3) + 1)) a0 u6)).1))).2) _
                refine z_invS (as := [zI a0, zI ((F_M_look (z_up ((F_M_number (z_up wu 0 3 ((wu 0 3) + 1)) (F_M_lowest (z_up wu 0 3 ((wu 0 3) + 1)) a0 u6) (F_M_highest (z_up wu 0 3 ((wu 0 3) + 1)) a0 u6)).2) 12 ((a2 + u6).toNat) ((F_M_number (z_up wu 0 3 ((wu 0 3) + 1)) (F_M_lowest (z_up wu 0 3 ((wu 0 3) + 1)) a0 u6) (F_M_highest (z_up wu 0 3 ((wu 0 3) + 1)) a0 u6)).1))).1)]) (st := []) (C := m_X12_itemOf) (pc' := 122) dX12_items_119 rfl t_6_234 k_X12_itemOf rfl rfl (Nat.le_of_ble_eq_true rfl) ?_
                obtain ⟨r55, h⟩ := h
                refine c_M_itemOf r55 ?_
                show z_Wp m_X12_items _ 122 [(0, zR 0), (1, zI a0), (2, zR 12), (3, zI a2), (5, zI (zz_or u5 (zz_shl 1 u6))), (6, zI u6)] [zI (F_M_itemOf ((F_M_look (z_up ((F_M_number (z_up wu 0 3 ((wu 0 3) + 1)) (F_M_lowest (z_up wu 0 3 ((wu 0 3) + 1)) a0 u6) (F_M_highest (z_up wu 0 3 ((wu 0 3) + 1)) a0 u6)).2) 12 ((a2 + u6).toNat) ((F_M_number (z_up wu 0 3 ((wu 0 3) + 1)) (F_M_lowest (z_up wu 0 3 ((wu 0 3) + 1)) a0 u6) (F_M_highest (z_up wu 0 3 ((wu 0 3) + 1)) a0 u6)).1))).2) a0 ((F_M_look (z_up ((F_M_number (z_up wu 0 3 ((wu 0 3) + 1)) (F_M_lowest (z_up wu 0 3 ((wu 0 3) + 1)) a0 u6) (F_M_highest (z_up wu 0 3 ((wu 0 3) + 1)) a0 u6)).2) 12 ((a2 + u6).toNat) ((F_M_number (z_up wu 0 3 ((wu 0 3) + 1)) (F_M_lowest (z_up wu 0 3 ((wu 0 3) + 1)) a0 u6) (F_M_highest (z_up wu 0 3 ((wu 0 3) + 1)) a0 u6)).1))).1))] ((F_M_look (z_up ((F_M_number (z_up wu 0 3 ((wu 0 3) + 1)) (F_M_lowest (z_up wu 0 3 ((wu 0 3) + 1)) a0 u6) (F_M_highest (z_up wu 0 3 ((wu 0 3) + 1)) a0 u6)).2) 12 ((a2 + u6).toNat) ((F_M_number (z_up wu 0 3 ((wu 0 3) + 1)) (F_M_lowest (z_up wu 0 3 ((wu 0 3) + 1)) a0 u6) (F_M_highest (z_up wu 0 3 ((wu 0 3) + 1)) a0 u6)).1))).2) _
                refine z_goto 126 dX12_items_122 (by decide) ?_
                refine z_istore (pc' := 128) (ls' := [(0, zR 0), (1, zI a0), (2, zR 12), (3, zI a2), (5, zI (zz_or u5 (zz_shl 1 u6))), (6, zI (F_M_itemOf ((F_M_look (z_up ((F_M_number (z_up wu 0 3 ((wu 0 3) + 1)) (F_M_lowest (z_up wu 0 3 ((wu 0 3) + 1)) a0 u6) (F_M_highest (z_up wu 0 3 ((wu 0 3) + 1)) a0 u6)).2) 12 ((a2 + u6).toNat) ((F_M_number (z_up wu 0 3 ((wu 0 3) + 1)) (F_M_lowest (z_up wu 0 3 ((wu 0 3) + 1)) a0 u6) (F_M_highest (z_up wu 0 3 ((wu 0 3) + 1)) a0 u6)).1))).2) a0 ((F_M_look (z_up ((F_M_number (z_up wu 0 3 ((wu 0 3) + 1)) (F_M_lowest (z_up wu 0 3 ((wu 0 3) + 1)) a0 u6) (F_M_highest (z_up wu 0 3 ((wu 0 3) + 1)) a0 u6)).2) 12 ((a2 + u6).toNat) ((F_M_number (z_up wu 0 3 ((wu 0 3) + 1)) (F_M_lowest (z_up wu 0 3 ((wu 0 3) + 1)) a0 u6) (F_M_highest (z_up wu 0 3 ((wu 0 3) + 1)) a0 u6)).1))).1)))]) (by decide) rfl rfl dX12_items_126 rfl ?_
                refine z_goto 41 dX12_items_128 (by decide) ?_
                exact ih _ _ _ h k
    exact hl 10 _ _ _ h k
  · intro i27 hi ih
    have h := h.1 i27 hi
    have ih : z_Wp m_X12_items (d + 3) 3 [(0, zR 0), (1, zI a0), (2, zR 12), (3, zI a2), (4, zI a3), (5, zI ((i27 + 1 : Nat) : Int))] [] (z_up (A_M_items_12_3 w a0 a2 a3 i27) 12 ((a2 + (i27 : Int)).toNat) (F_M_usual (A_M_items_12_3 w a0 a2 a3 i27) a0 (i27 : Int))) Q := ih
    refine z_iload (pc' := 5) 5 rfl dX12_items_3 rfl ?_
    refine z_iload (pc' := 7) 4 rfl dX12_items_5 rfl ?_
    obtain ⟨r28, h⟩ := h
    obtain ⟨r29, h⟩ := h
    refine z_icmp_ge 28 dX12_items_7 (by decide) (pc' := 10) rfl r28 r29 (fun c => absurd c (by omega)) (fun _ => ?_)
    refine z_aload_n (pc' := 11) 2 rfl rfl dX12_items_10 rfl ?_
    refine z_iload_n (pc' := 12) 3 rfl rfl dX12_items_11 rfl ?_
    refine z_iload (pc' := 14) 5 rfl dX12_items_12 rfl ?_
    refine z_iadd (pc' := 15) dX12_items_14 rfl ?_
    refine z_iload_n (pc' := 16) 1 rfl rfl dX12_items_15 rfl ?_
    refine z_iload (pc' := 18) 5 rfl dX12_items_16 rfl ?_
    refine z_invS (as := [zI a0, zI (i27 : Int)]) (st := [zI (a2 + (i27 : Int)), zR 12]) (C := m_X12_usual) (pc' := 21) dX12_items_18 rfl t_6_215 k_X12_usual rfl rfl (Nat.le_of_ble_eq_true rfl) ?_
    obtain ⟨r30, h⟩ := h
    refine c_M_usual r30 ?_
    show z_Wp m_X12_items _ 21 [(0, zR 0), (1, zI a0), (2, zR 12), (3, zI a2), (4, zI a3), (5, zI (i27 : Int))] [zI (F_M_usual (A_M_items_12_3 w a0 a2 a3 i27) a0 (i27 : Int)), zI (a2 + (i27 : Int)), zR 12] (A_M_items_12_3 w a0 a2 a3 i27) _
    have r31 := h
    refine z_iast2 (w' := z_up (A_M_items_12_3 w a0 a2 a3 i27) 12 ((a2 + (i27 : Int)).toNat) (F_M_usual (A_M_items_12_3 w a0 a2 a3 i27) a0 (i27 : Int))) (pc' := 22) (by decide) rfl r31 (by decide) rfl dX12_items_21 rfl ?_
    refine z_iinc (pc' := 25) (ls' := [(0, zR 0), (1, zI a0), (2, zR 12), (3, zI a2), (4, zI a3), (5, zI ((i27 : Int) + 1))]) 5 rfl (by decide) rfl rfl dX12_items_22 rfl ?_
    refine z_goto 3 dX12_items_25 (by decide) ?_
    exact ih
def L_M_items_13_41 (w : z_Wd) (a0 : Int) (a2 : Int)  : Nat → Int → Int → z_Wd → z_Wd
  | 0, _, _, _ => w
  | m9 + 1, u5, u6, wu => if wu 0 4 = (-1) then if u6 = (-1) then wu else if F_M_has wu u5 u6 = 0 then if ((F_M_number (z_up wu 0 3 ((wu 0 3) + 1)) (F_M_lowest (z_up wu 0 3 ((wu 0 3) + 1)) a0 u6) (F_M_highest (z_up wu 0 3 ((wu 0 3) + 1)) a0 u6)).2) 0 4 = (-1) then L_M_items_13_41 w a0 a2 m9 (zz_or u5 (zz_shl 1 u6)) (F_M_itemOf ((F_M_look (z_up ((F_M_number (z_up wu 0 3 ((wu 0 3) + 1)) (F_M_lowest (z_up wu 0 3 ((wu 0 3) + 1)) a0 u6) (F_M_highest (z_up wu 0 3 ((wu 0 3) + 1)) a0 u6)).2) 13 ((a2 + u6).toNat) ((F_M_number (z_up wu 0 3 ((wu 0 3) + 1)) (F_M_lowest (z_up wu 0 3 ((wu 0 3) + 1)) a0 u6) (F_M_highest (z_up wu 0 3 ((wu 0 3) + 1)) a0 u6)).1))).2) a0 ((F_M_look (z_up ((F_M_number (z_up wu 0 3 ((wu 0 3) + 1)) (F_M_lowest (z_up wu 0 3 ((wu 0 3) + 1)) a0 u6) (F_M_highest (z_up wu 0 3 ((wu 0 3) + 1)) a0 u6)).2) 13 ((a2 + u6).toNat) ((F_M_number (z_up wu 0 3 ((wu 0 3) + 1)) (F_M_lowest (z_up wu 0 3 ((wu 0 3) + 1)) a0 u6) (F_M_highest (z_up wu 0 3 ((wu 0 3) + 1)) a0 u6)).1))).1)) ((F_M_look (z_up ((F_M_number (z_up wu 0 3 ((wu 0 3) + 1)) (F_M_lowest (z_up wu 0 3 ((wu 0 3) + 1)) a0 u6) (F_M_highest (z_up wu 0 3 ((wu 0 3) + 1)) a0 u6)).2) 13 ((a2 + u6).toNat) ((F_M_number (z_up wu 0 3 ((wu 0 3) + 1)) (F_M_lowest (z_up wu 0 3 ((wu 0 3) + 1)) a0 u6) (F_M_highest (z_up wu 0 3 ((wu 0 3) + 1)) a0 u6)).1))).2) else L_M_items_13_41 w a0 a2 m9 (zz_or u5 (zz_shl 1 u6)) (-1) (z_up ((F_M_number (z_up wu 0 3 ((wu 0 3) + 1)) (F_M_lowest (z_up wu 0 3 ((wu 0 3) + 1)) a0 u6) (F_M_highest (z_up wu 0 3 ((wu 0 3) + 1)) a0 u6)).2) 13 ((a2 + u6).toNat) ((F_M_number (z_up wu 0 3 ((wu 0 3) + 1)) (F_M_lowest (z_up wu 0 3 ((wu 0 3) + 1)) a0 u6) (F_M_highest (z_up wu 0 3 ((wu 0 3) + 1)) a0 u6)).1)) else wu else wu
def PL_M_items_13_41 (w : z_Wd) (a0 : Int) (a2 : Int)  : Nat → Int → Int → z_Wd → Prop
  | 0, _, _, _ => False
  | m9 + 1, u5, u6, wu => (-2147483648 ≤ wu 0 4 ∧ wu 0 4 < 2147483648) ∧ ((wu 0 4 = (-1) → (-2147483648 ≤ u6 ∧ u6 < 2147483648) ∧ ((u6 = (-1) → True) ∧ (¬ (u6 = (-1)) → (P_M_has wu u5 u6) ∧ ((F_M_has wu u5 u6 = 0 → (P_M_lowest (z_up wu 0 3 ((wu 0 3) + 1)) a0 u6) ∧ (P_M_highest (z_up wu 0 3 ((wu 0 3) + 1)) a0 u6) ∧ (P_M_number (z_up wu 0 3 ((wu 0 3) + 1)) (F_M_lowest (z_up wu 0 3 ((wu 0 3) + 1)) a0 u6) (F_M_highest (z_up wu 0 3 ((wu 0 3) + 1)) a0 u6)) ∧ (0 ≤ a2 + u6 ∧ a2 + u6 < 21) ∧ (-2147483648 ≤ ((F_M_number (z_up wu 0 3 ((wu 0 3) + 1)) (F_M_lowest (z_up wu 0 3 ((wu 0 3) + 1)) a0 u6) (F_M_highest (z_up wu 0 3 ((wu 0 3) + 1)) a0 u6)).2) 0 4 ∧ ((F_M_number (z_up wu 0 3 ((wu 0 3) + 1)) (F_M_lowest (z_up wu 0 3 ((wu 0 3) + 1)) a0 u6) (F_M_highest (z_up wu 0 3 ((wu 0 3) + 1)) a0 u6)).2) 0 4 < 2147483648) ∧ ((((F_M_number (z_up wu 0 3 ((wu 0 3) + 1)) (F_M_lowest (z_up wu 0 3 ((wu 0 3) + 1)) a0 u6) (F_M_highest (z_up wu 0 3 ((wu 0 3) + 1)) a0 u6)).2) 0 4 = (-1) → (P_M_look (z_up ((F_M_number (z_up wu 0 3 ((wu 0 3) + 1)) (F_M_lowest (z_up wu 0 3 ((wu 0 3) + 1)) a0 u6) (F_M_highest (z_up wu 0 3 ((wu 0 3) + 1)) a0 u6)).2) 13 ((a2 + u6).toNat) ((F_M_number (z_up wu 0 3 ((wu 0 3) + 1)) (F_M_lowest (z_up wu 0 3 ((wu 0 3) + 1)) a0 u6) (F_M_highest (z_up wu 0 3 ((wu 0 3) + 1)) a0 u6)).1))) ∧ (P_M_itemOf ((F_M_look (z_up ((F_M_number (z_up wu 0 3 ((wu 0 3) + 1)) (F_M_lowest (z_up wu 0 3 ((wu 0 3) + 1)) a0 u6) (F_M_highest (z_up wu 0 3 ((wu 0 3) + 1)) a0 u6)).2) 13 ((a2 + u6).toNat) ((F_M_number (z_up wu 0 3 ((wu 0 3) + 1)) (F_M_lowest (z_up wu 0 3 ((wu 0 3) + 1)) a0 u6) (F_M_highest (z_up wu 0 3 ((wu 0 3) + 1)) a0 u6)).1))).2) a0 ((F_M_look (z_up ((F_M_number (z_up wu 0 3 ((wu 0 3) + 1)) (F_M_lowest (z_up wu 0 3 ((wu 0 3) + 1)) a0 u6) (F_M_highest (z_up wu 0 3 ((wu 0 3) + 1)) a0 u6)).2) 13 ((a2 + u6).toNat) ((F_M_number (z_up wu 0 3 ((wu 0 3) + 1)) (F_M_lowest (z_up wu 0 3 ((wu 0 3) + 1)) a0 u6) (F_M_highest (z_up wu 0 3 ((wu 0 3) + 1)) a0 u6)).1))).1)) ∧ (PL_M_items_13_41 w a0 a2 m9 (zz_or u5 (zz_shl 1 u6)) (F_M_itemOf ((F_M_look (z_up ((F_M_number (z_up wu 0 3 ((wu 0 3) + 1)) (F_M_lowest (z_up wu 0 3 ((wu 0 3) + 1)) a0 u6) (F_M_highest (z_up wu 0 3 ((wu 0 3) + 1)) a0 u6)).2) 13 ((a2 + u6).toNat) ((F_M_number (z_up wu 0 3 ((wu 0 3) + 1)) (F_M_lowest (z_up wu 0 3 ((wu 0 3) + 1)) a0 u6) (F_M_highest (z_up wu 0 3 ((wu 0 3) + 1)) a0 u6)).1))).2) a0 ((F_M_look (z_up ((F_M_number (z_up wu 0 3 ((wu 0 3) + 1)) (F_M_lowest (z_up wu 0 3 ((wu 0 3) + 1)) a0 u6) (F_M_highest (z_up wu 0 3 ((wu 0 3) + 1)) a0 u6)).2) 13 ((a2 + u6).toNat) ((F_M_number (z_up wu 0 3 ((wu 0 3) + 1)) (F_M_lowest (z_up wu 0 3 ((wu 0 3) + 1)) a0 u6) (F_M_highest (z_up wu 0 3 ((wu 0 3) + 1)) a0 u6)).1))).1)) ((F_M_look (z_up ((F_M_number (z_up wu 0 3 ((wu 0 3) + 1)) (F_M_lowest (z_up wu 0 3 ((wu 0 3) + 1)) a0 u6) (F_M_highest (z_up wu 0 3 ((wu 0 3) + 1)) a0 u6)).2) 13 ((a2 + u6).toNat) ((F_M_number (z_up wu 0 3 ((wu 0 3) + 1)) (F_M_lowest (z_up wu 0 3 ((wu 0 3) + 1)) a0 u6) (F_M_highest (z_up wu 0 3 ((wu 0 3) + 1)) a0 u6)).1))).2))) ∧ (¬ (((F_M_number (z_up wu 0 3 ((wu 0 3) + 1)) (F_M_lowest (z_up wu 0 3 ((wu 0 3) + 1)) a0 u6) (F_M_highest (z_up wu 0 3 ((wu 0 3) + 1)) a0 u6)).2) 0 4 = (-1)) → PL_M_items_13_41 w a0 a2 m9 (zz_or u5 (zz_shl 1 u6)) (-1) (z_up ((F_M_number (z_up wu 0 3 ((wu 0 3) + 1)) (F_M_lowest (z_up wu 0 3 ((wu 0 3) + 1)) a0 u6) (F_M_highest (z_up wu 0 3 ((wu 0 3) + 1)) a0 u6)).2) 13 ((a2 + u6).toNat) ((F_M_number (z_up wu 0 3 ((wu 0 3) + 1)) (F_M_lowest (z_up wu 0 3 ((wu 0 3) + 1)) a0 u6) (F_M_highest (z_up wu 0 3 ((wu 0 3) + 1)) a0 u6)).1))))) ∧ (¬ (F_M_has wu u5 u6 = 0) → True))))) ∧ (¬ (wu 0 4 = (-1)) → True))
def A_M_items_13_3 (w : z_Wd) (a0 : Int) (a2 : Int) (a3 : Int) : Nat → z_Wd
  | 0 => w
  | i27 + 1 => z_up (A_M_items_13_3 w a0 a2 a3 i27) 13 ((a2 + (i27 : Int)).toNat) (F_M_usual (A_M_items_13_3 w a0 a2 a3 i27) a0 (i27 : Int))
def P_M_items_13 (w : z_Wd) (a0 : Int) (a2 : Int) (a3 : Int) : Prop := (∀ i27 : Nat, i27 < ((a3).toNat) → (-2147483648 ≤ (i27 : Int) ∧ (i27 : Int) < 2147483648) ∧ (-2147483648 ≤ a3 ∧ a3 < 2147483648) ∧ (P_M_usual (A_M_items_13_3 w a0 a2 a3 i27) a0 (i27 : Int)) ∧ (0 ≤ a2 + (i27 : Int) ∧ a2 + (i27 : Int) < 21)) ∧ ((-2147483648 ≤ (((a3).toNat : Nat) : Int) ∧ (((a3).toNat : Nat) : Int) < 2147483648) ∧ (-2147483648 ≤ a3 ∧ a3 < 2147483648) ∧ (P_M_look (A_M_items_13_3 w a0 a2 a3 (a3).toNat)) ∧ (P_M_itemOf ((F_M_look (A_M_items_13_3 w a0 a2 a3 (a3).toNat)).2) a0 ((F_M_look (A_M_items_13_3 w a0 a2 a3 (a3).toNat)).1)) ∧ (PL_M_items_13_41 w a0 a2 10 0 (F_M_itemOf ((F_M_look (A_M_items_13_3 w a0 a2 a3 (a3).toNat)).2) a0 ((F_M_look (A_M_items_13_3 w a0 a2 a3 (a3).toNat)).1)) ((F_M_look (A_M_items_13_3 w a0 a2 a3 (a3).toNat)).2)))
def F_M_items_13 (w : z_Wd) (a0 : Int) (a2 : Int) (a3 : Int) : z_Wd := L_M_items_13_41 w a0 a2 10 0 (F_M_itemOf ((F_M_look (A_M_items_13_3 w a0 a2 a3 (a3).toNat)).2) a0 ((F_M_look (A_M_items_13_3 w a0 a2 a3 (a3).toNat)).1)) ((F_M_look (A_M_items_13_3 w a0 a2 a3 (a3).toNat)).2)
set_option maxRecDepth 4000 in
theorem c_M_items_13 {d : Nat} {w : z_Wd} {a0 a2 a3 : Int} {Q : Option z_V → z_Wd → Prop} (h : P_M_items_13 w a0 a2 a3) (k : Q none (F_M_items_13 w a0 a2 a3)) : z_Wc (d + 3) m_X12_items [zR 0, zI a0, zR 13, zI a2, zI a3] w Q := by
  unfold P_M_items_13 at h
  unfold F_M_items_13 at k
  refine z_enter rfl (Nat.le_of_ble_eq_true rfl) ?_
  show z_Wp m_X12_items _ 0 [(0, zR 0), (1, zI a0), (2, zR 13), (3, zI a2), (4, zI a3)] [] w _
  refine z_iconst (pc' := 1) dX12_items_0 rfl ?_
  refine z_istore (pc' := 3) (ls' := [(0, zR 0), (1, zI a0), (2, zR 13), (3, zI a2), (4, zI a3), (5, zI 0)]) (by decide) rfl rfl dX12_items_1 rfl ?_
  refine z_upto ((a3).toNat) (fun i27 => z_Wp m_X12_items (d + 3) 3 [(0, zR 0), (1, zI a0), (2, zR 13), (3, zI a2), (4, zI a3), (5, zI (i27 : Int))] [] (A_M_items_13_3 w a0 a2 a3 i27) Q) ?_ ?_
  · skip
    have h := h.2
    refine z_iload (pc' := 5) 5 rfl dX12_items_3 rfl ?_
    refine z_iload (pc' := 7) 4 rfl dX12_items_5 rfl ?_
    obtain ⟨r32, h⟩ := h
    obtain ⟨r33, h⟩ := h
    refine z_icmp_ge 28 dX12_items_7 (by decide) (pc' := 10) rfl r32 r33 (fun _ => ?_) (fun c => absurd c (by omega))
    refine z_iconst (pc' := 29) dX12_items_28 rfl ?_
    refine z_istore (pc' := 31) (ls' := [(0, zR 0), (1, zI a0), (2, zR 13), (3, zI a2), (4, zI a3), (5, zI 0)]) (by decide) rfl rfl dX12_items_29 rfl ?_
    refine z_iload_n (pc' := 32) 1 rfl rfl dX12_items_31 rfl ?_
    refine z_aload_n (pc' := 33) 0 rfl rfl dX12_items_32 rfl ?_
    refine z_invV (as := []) (st := [zI a0]) (C := m_X12_look) (fs := [0, 3, 0, 0, 0, 0, 4, 5, 6, 7, 8, 9, 10, 0, 0, 11, 12, 13, 14, 15, 16, 0, 0, 0, 17, 18, 19, 20, 0, 0, 0, 21, 22, 0, 0, 23, 0, 1, 24, 0, 0, 25, 26, 0, 27, 0]) (pc' := 36) dX12_items_33 rfl t_6_218 k_X12_look rfl (by decide) rfl rfl rfl rfl (Nat.le_of_ble_eq_true rfl) ?_
    obtain ⟨r34, h⟩ := h
    refine c_M_look r34 ?_
    show z_Wp m_X12_items _ 36 [(0, zR 0), (1, zI a0), (2, zR 13), (3, zI a2), (4, zI a3), (5, zI 0)] [zI ((F_M_look (A_M_items_13_3 w a0 a2 a3 (a3).toNat)).1), zI a0] ((F_M_look (A_M_items_13_3 w a0 a2 a3 (a3).toNat)).2) _
    refine z_invS (as := [zI a0, zI ((F_M_look (A_M_items_13_3 w a0 a2 a3 (a3).toNat)).1)]) (st := []) (C := m_X12_itemOf) (pc' := 39) dX12_items_36 rfl t_6_234 k_X12_itemOf rfl rfl (Nat.le_of_ble_eq_true rfl) ?_
    obtain ⟨r35, h⟩ := h
    refine c_M_itemOf r35 ?_
    show z_Wp m_X12_items _ 39 [(0, zR 0), (1, zI a0), (2, zR 13), (3, zI a2), (4, zI a3), (5, zI 0)] [zI (F_M_itemOf ((F_M_look (A_M_items_13_3 w a0 a2 a3 (a3).toNat)).2) a0 ((F_M_look (A_M_items_13_3 w a0 a2 a3 (a3).toNat)).1))] ((F_M_look (A_M_items_13_3 w a0 a2 a3 (a3).toNat)).2) _
    refine z_istore (pc' := 41) (ls' := [(0, zR 0), (1, zI a0), (2, zR 13), (3, zI a2), (4, zI a3), (5, zI 0), (6, zI (F_M_itemOf ((F_M_look (A_M_items_13_3 w a0 a2 a3 (a3).toNat)).2) a0 ((F_M_look (A_M_items_13_3 w a0 a2 a3 (a3).toNat)).1)))]) (by decide) rfl rfl dX12_items_39 rfl ?_
    refine z_Wp.sub (ls' := [(0, zR 0), (1, zI a0), (2, zR 13), (3, zI a2), (5, zI 0), (6, zI (F_M_itemOf ((F_M_look (A_M_items_13_3 w a0 a2 a3 (a3).toNat)).2) a0 ((F_M_look (A_M_items_13_3 w a0 a2 a3 (a3).toNat)).1)))]) ?_ (z_sub_of [0, 1, 2, 3, 5, 6] rfl)
    have hl : ∀ (m9 : Nat) (u5 : Int) (u6 : Int) (wu : z_Wd), PL_M_items_13_41 w a0 a2 m9 u5 u6 wu → Q none (L_M_items_13_41 w a0 a2 m9 u5 u6 wu) → z_Wp m_X12_items (d + 3) 41 [(0, zR 0), (1, zI a0), (2, zR 13), (3, zI a2), (5, zI u5), (6, zI u6)] [] wu Q := by
      clear h k
      intro m9
      induction m9 with
      | zero => intro u5 u6 wu h k; exact False.elim h
      | succ m9 ih =>
        intro u5 u6 wu h k
        have h : (-2147483648 ≤ wu 0 4 ∧ wu 0 4 < 2147483648) ∧ ((wu 0 4 = (-1) → (-2147483648 ≤ u6 ∧ u6 < 2147483648) ∧ ((u6 = (-1) → True) ∧ (¬ (u6 = (-1)) → (P_M_has wu u5 u6) ∧ ((F_M_has wu u5 u6 = 0 → (P_M_lowest (z_up wu 0 3 ((wu 0 3) + 1)) a0 u6) ∧ (P_M_highest (z_up wu 0 3 ((wu 0 3) + 1)) a0 u6) ∧ (P_M_number (z_up wu 0 3 ((wu 0 3) + 1)) (F_M_lowest (z_up wu 0 3 ((wu 0 3) + 1)) a0 u6) (F_M_highest (z_up wu 0 3 ((wu 0 3) + 1)) a0 u6)) ∧ (0 ≤ a2 + u6 ∧ a2 + u6 < 21) ∧ (-2147483648 ≤ ((F_M_number (z_up wu 0 3 ((wu 0 3) + 1)) (F_M_lowest (z_up wu 0 3 ((wu 0 3) + 1)) a0 u6) (F_M_highest (z_up wu 0 3 ((wu 0 3) + 1)) a0 u6)).2) 0 4 ∧ ((F_M_number (z_up wu 0 3 ((wu 0 3) + 1)) (F_M_lowest (z_up wu 0 3 ((wu 0 3) + 1)) a0 u6) (F_M_highest (z_up wu 0 3 ((wu 0 3) + 1)) a0 u6)).2) 0 4 < 2147483648) ∧ ((((F_M_number (z_up wu 0 3 ((wu 0 3) + 1)) (F_M_lowest (z_up wu 0 3 ((wu 0 3) + 1)) a0 u6) (F_M_highest (z_up wu 0 3 ((wu 0 3) + 1)) a0 u6)).2) 0 4 = (-1) → (P_M_look (z_up ((F_M_number (z_up wu 0 3 ((wu 0 3) + 1)) (F_M_lowest (z_up wu 0 3 ((wu 0 3) + 1)) a0 u6) (F_M_highest (z_up wu 0 3 ((wu 0 3) + 1)) a0 u6)).2) 13 ((a2 + u6).toNat) ((F_M_number (z_up wu 0 3 ((wu 0 3) + 1)) (F_M_lowest (z_up wu 0 3 ((wu 0 3) + 1)) a0 u6) (F_M_highest (z_up wu 0 3 ((wu 0 3) + 1)) a0 u6)).1))) ∧ (P_M_itemOf ((F_M_look (z_up ((F_M_number (z_up wu 0 3 ((wu 0 3) + 1)) (F_M_lowest (z_up wu 0 3 ((wu 0 3) + 1)) a0 u6) (F_M_highest (z_up wu 0 3 ((wu 0 3) + 1)) a0 u6)).2) 13 ((a2 + u6).toNat) ((F_M_number (z_up wu 0 3 ((wu 0 3) + 1)) (F_M_lowest (z_up wu 0 3 ((wu 0 3) + 1)) a0 u6) (F_M_highest (z_up wu 0 3 ((wu 0 3) + 1)) a0 u6)).1))).2) a0 ((F_M_look (z_up ((F_M_number (z_up wu 0 3 ((wu 0 3) + 1)) (F_M_lowest (z_up wu 0 3 ((wu 0 3) + 1)) a0 u6) (F_M_highest (z_up wu 0 3 ((wu 0 3) + 1)) a0 u6)).2) 13 ((a2 + u6).toNat) ((F_M_number (z_up wu 0 3 ((wu 0 3) + 1)) (F_M_lowest (z_up wu 0 3 ((wu 0 3) + 1)) a0 u6) (F_M_highest (z_up wu 0 3 ((wu 0 3) + 1)) a0 u6)).1))).1)) ∧ (PL_M_items_13_41 w a0 a2 m9 (zz_or u5 (zz_shl 1 u6)) (F_M_itemOf ((F_M_look (z_up ((F_M_number (z_up wu 0 3 ((wu 0 3) + 1)) (F_M_lowest (z_up wu 0 3 ((wu 0 3) + 1)) a0 u6) (F_M_highest (z_up wu 0 3 ((wu 0 3) + 1)) a0 u6)).2) 13 ((a2 + u6).toNat) ((F_M_number (z_up wu 0 3 ((wu 0 3) + 1)) (F_M_lowest (z_up wu 0 3 ((wu 0 3) + 1)) a0 u6) (F_M_highest (z_up wu 0 3 ((wu 0 3) + 1)) a0 u6)).1))).2) a0 ((F_M_look (z_up ((F_M_number (z_up wu 0 3 ((wu 0 3) + 1)) (F_M_lowest (z_up wu 0 3 ((wu 0 3) + 1)) a0 u6) (F_M_highest (z_up wu 0 3 ((wu 0 3) + 1)) a0 u6)).2) 13 ((a2 + u6).toNat) ((F_M_number (z_up wu 0 3 ((wu 0 3) + 1)) (F_M_lowest (z_up wu 0 3 ((wu 0 3) + 1)) a0 u6) (F_M_highest (z_up wu 0 3 ((wu 0 3) + 1)) a0 u6)).1))).1)) ((F_M_look (z_up ((F_M_number (z_up wu 0 3 ((wu 0 3) + 1)) (F_M_lowest (z_up wu 0 3 ((wu 0 3) + 1)) a0 u6) (F_M_highest (z_up wu 0 3 ((wu 0 3) + 1)) a0 u6)).2) 13 ((a2 + u6).toNat) ((F_M_number (z_up wu 0 3 ((wu 0 3) + 1)) (F_M_lowest (z_up wu 0 3 ((wu 0 3) + 1)) a0 u6) (F_M_highest (z_up wu 0 3 ((wu 0 3) + 1)) a0 u6)).1))).2))) ∧ (¬ (((F_M_number (z_up wu 0 3 ((wu 0 3) + 1)) (F_M_lowest (z_up wu 0 3 ((wu 0 3) + 1)) a0 u6) (F_M_highest (z_up wu 0 3 ((wu 0 3) + 1)) a0 u6)).2) 0 4 = (-1)) → PL_M_items_13_41 w a0 a2 m9 (zz_or u5 (zz_shl 1 u6)) (-1) (z_up ((F_M_number (z_up wu 0 3 ((wu 0 3) + 1)) (F_M_lowest (z_up wu 0 3 ((wu 0 3) + 1)) a0 u6) (F_M_highest (z_up wu 0 3 ((wu 0 3) + 1)) a0 u6)).2) 13 ((a2 + u6).toNat) ((F_M_number (z_up wu 0 3 ((wu 0 3) + 1)) (F_M_lowest (z_up wu 0 3 ((wu 0 3) + 1)) a0 u6) (F_M_highest (z_up wu 0 3 ((wu 0 3) + 1)) a0 u6)).1))))) ∧ (¬ (F_M_has wu u5 u6 = 0) → True))))) ∧ (¬ (wu 0 4 = (-1)) → True)) := h
        have k : Q none (if wu 0 4 = (-1) then if u6 = (-1) then wu else if F_M_has wu u5 u6 = 0 then if ((F_M_number (z_up wu 0 3 ((wu 0 3) + 1)) (F_M_lowest (z_up wu 0 3 ((wu 0 3) + 1)) a0 u6) (F_M_highest (z_up wu 0 3 ((wu 0 3) + 1)) a0 u6)).2) 0 4 = (-1) then L_M_items_13_41 w a0 a2 m9 (zz_or u5 (zz_shl 1 u6)) (F_M_itemOf ((F_M_look (z_up ((F_M_number (z_up wu 0 3 ((wu 0 3) + 1)) (F_M_lowest (z_up wu 0 3 ((wu 0 3) + 1)) a0 u6) (F_M_highest (z_up wu 0 3 ((wu 0 3) + 1)) a0 u6)).2) 13 ((a2 + u6).toNat) ((F_M_number (z_up wu 0 3 ((wu 0 3) + 1)) (F_M_lowest (z_up wu 0 3 ((wu 0 3) + 1)) a0 u6) (F_M_highest (z_up wu 0 3 ((wu 0 3) + 1)) a0 u6)).1))).2) a0 ((F_M_look (z_up ((F_M_number (z_up wu 0 3 ((wu 0 3) + 1)) (F_M_lowest (z_up wu 0 3 ((wu 0 3) + 1)) a0 u6) (F_M_highest (z_up wu 0 3 ((wu 0 3) + 1)) a0 u6)).2) 13 ((a2 + u6).toNat) ((F_M_number (z_up wu 0 3 ((wu 0 3) + 1)) (F_M_lowest (z_up wu 0 3 ((wu 0 3) + 1)) a0 u6) (F_M_highest (z_up wu 0 3 ((wu 0 3) + 1)) a0 u6)).1))).1)) ((F_M_look (z_up ((F_M_number (z_up wu 0 3 ((wu 0 3) + 1)) (F_M_lowest (z_up wu 0 3 ((wu 0 3) + 1)) a0 u6) (F_M_highest (z_up wu 0 3 ((wu 0 3) + 1)) a0 u6)).2) 13 ((a2 + u6).toNat) ((F_M_number (z_up wu 0 3 ((wu 0 3) + 1)) (F_M_lowest (z_up wu 0 3 ((wu 0 3) + 1)) a0 u6) (F_M_highest (z_up wu 0 3 ((wu 0 3) + 1)) a0 u6)).1))).2) else L_M_items_13_41 w a0 a2 m9 (zz_or u5 (zz_shl 1 u6)) (-1) (z_up ((F_M_number (z_up wu 0 3 ((wu 0 3) + 1)) (F_M_lowest (z_up wu 0 3 ((wu 0 3) + 1)) a0 u6) (F_M_highest (z_up wu 0 3 ((wu 0 3) + 1)) a0 u6)).2) 13 ((a2 + u6).toNat) ((F_M_number (z_up wu 0 3 ((wu 0 3) + 1)) (F_M_lowest (z_up wu 0 3 ((wu 0 3) + 1)) a0 u6) (F_M_highest (z_up wu 0 3 ((wu 0 3) + 1)) a0 u6)).1)) else wu else wu) := k
        refine z_aload_n (pc' := 42) 0 rfl rfl dX12_items_41 rfl ?_
        refine z_getI2 (v := wu 0 4) (pc' := 45) g_X12_109 (by decide) rfl rfl rfl dX12_items_42 rfl ?_
        refine z_iconst (pc' := 46) dX12_items_45 rfl ?_
        obtain ⟨r46, h⟩ := h
        refine z_icmp_ne 131 dX12_items_46 (by decide) (pc' := 49) rfl r46 (by decide) (fun c => ?_) (fun c => ?_)
        · have h := h.2 c
          rw [if_neg c] at k
          refine z_vret rfl dX12_items_131 ?_
          exact k
        · have h := h.1 c
          rw [if_pos c] at k
          refine z_iload (pc' := 51) 5 rfl dX12_items_49 rfl ?_
          refine z_iconst (pc' := 52) dX12_items_51 rfl ?_
          obtain ⟨r47, h⟩ := h
          refine z_icmp_eq 131 dX12_items_52 (by decide) (pc' := 55) rfl r47 (by decide) (fun c => ?_) (fun c => ?_)
          · have h := h.1 c
            rw [if_pos c] at k
            refine z_vret rfl dX12_items_131 ?_
            exact k
          · have h := h.2 c
            rw [if_neg c] at k
            refine z_iload (pc' := 57) 4 rfl dX12_items_55 rfl ?_
            refine z_iload (pc' := 59) 5 rfl dX12_items_57 rfl ?_
            refine z_invS (as := [zI u5, zI u6]) (st := []) (C := m_X12_has) (pc' := 62) dX12_items_59 rfl t_6_237 k_X12_has rfl rfl (Nat.le_of_ble_eq_true rfl) ?_
            obtain ⟨r48, h⟩ := h
            refine c_M_has r48 ?_
            show z_Wp m_X12_items _ 62 [(0, zR 0), (1, zI a0), (2, zR 13), (3, zI a2), (5, zI u5), (6, zI u6)] [zI (F_M_has wu u5 u6)] wu _
            refine z_if_ne 131 dX12_items_62 (by decide) (pc' := 65) rfl (z_rb b_M_has) (fun c => ?_) (fun c => ?_)
            · have h := h.2 c
              rw [if_neg c] at k
              refine z_vret rfl dX12_items_131 ?_
              exact k
            · have h := h.1 c
              rw [if_pos c] at k
              refine z_iload (pc' := 67) 4 rfl dX12_items_65 rfl ?_
              refine z_iconst (pc' := 68) dX12_items_67 rfl ?_
              refine z_iload (pc' := 70) 5 rfl dX12_items_68 rfl ?_
              refine z_ishl (pc' := 71) dX12_items_70 rfl ?_
              refine z_ior (pc' := 72) dX12_items_71 rfl ?_
              refine z_istore (pc' := 74) (ls' := [(0, zR 0), (1, zI a0), (2, zR 13), (3, zI a2), (5, zI (zz_or u5 (zz_shl 1 u6))), (6, zI u6)]) (by decide) rfl rfl dX12_items_72 rfl ?_
              refine z_aload_n (pc' := 75) 0 rfl rfl dX12_items_74 rfl ?_
              refine z_dup (pc' := 76) rfl dX12_items_75 rfl ?_
              refine z_getI2 (v := wu 0 3) (pc' := 79) g_X12_102 (by decide) rfl rfl rfl dX12_items_76 rfl ?_
              refine z_iconst (pc' := 80) dX12_items_79 rfl ?_
              refine z_iadd (pc' := 81) dX12_items_80 rfl ?_
              refine z_putI (pc' := 84) p_X12_102 (by decide) rfl rfl rfl rfl dX12_items_81 rfl ?_
              refine z_aload_n (pc' := 85) 2 rfl rfl dX12_items_84 rfl ?_
              refine z_iload_n (pc' := 86) 3 rfl rfl dX12_items_85 rfl ?_
              refine z_iload (pc' := 88) 5 rfl dX12_items_86 rfl ?_
              refine z_iadd (pc' := 89) dX12_items_88 rfl ?_
              refine z_aload_n (pc' := 90) 0 rfl rfl dX12_items_89 rfl ?_
              refine z_iload_n (pc' := 91) 1 rfl rfl dX12_items_90 rfl ?_
              refine z_iload (pc' := 93) 5 rfl dX12_items_91 rfl ?_
              refine z_invS (as := [zI a0, zI u6]) (st := [zR 0, zI (a2 + u6), zR 13]) (C := m_X12_lowest) (pc' := 96) dX12_items_93 rfl t_7_0 k_X12_lowest rfl rfl (Nat.le_of_ble_eq_true rfl) ?_
              obtain ⟨r49, h⟩ := h
              refine c_M_lowest r49 ?_
              show z_Wp m_X12_items _ 96 [(0, zR 0), (1, zI a0), (2, zR 13), (3, zI a2), (5, zI (zz_or u5 (zz_shl 1 u6))), (6, zI u6)] [zI (F_M_lowest (z_up wu 0 3 ((wu 0 3) + 1)) a0 u6), zR 0, zI (a2 + u6), zR 13] (z_up wu 0 3 ((wu 0 3) + 1)) _
              refine z_iload_n (pc' := 97) 1 rfl rfl dX12_items_96 rfl ?_
              refine z_iload (pc' := 99) 5 rfl dX12_items_97 rfl ?_
              refine z_invS (as := [zI a0, zI u6]) (st := [zI (F_M_lowest (z_up wu 0 3 ((wu 0 3) + 1)) a0 u6), zR 0, zI (a2 + u6), zR 13]) (C := m_X12_highest) (pc' := 102) dX12_items_99 rfl t_7_3 k_X12_highest rfl rfl (Nat.le_of_ble_eq_true rfl) ?_
              obtain ⟨r50, h⟩ := h
              refine c_M_highest r50 ?_
              show z_Wp m_X12_items _ 102 [(0, zR 0), (1, zI a0), (2, zR 13), (3, zI a2), (5, zI (zz_or u5 (zz_shl 1 u6))), (6, zI u6)] [zI (F_M_highest (z_up wu 0 3 ((wu 0 3) + 1)) a0 u6), zI (F_M_lowest (z_up wu 0 3 ((wu 0 3) + 1)) a0 u6), zR 0, zI (a2 + u6), zR 13] (z_up wu 0 3 ((wu 0 3) + 1)) _
              refine z_invV (as := [zI (F_M_lowest (z_up wu 0 3 ((wu 0 3) + 1)) a0 u6), zI (F_M_highest (z_up wu 0 3 ((wu 0 3) + 1)) a0 u6)]) (st := [zI (a2 + u6), zR 13]) (C := m_X12_number) (fs := [0, 3, 0, 0, 0, 0, 4, 5, 6, 7, 8, 9, 10, 0, 0, 11, 12, 13, 14, 15, 16, 0, 0, 0, 17, 18, 19, 20, 0, 0, 0, 21, 22, 0, 0, 23, 0, 1, 24, 0, 0, 25, 26, 0, 27, 0]) (pc' := 105) dX12_items_102 rfl t_7_6 k_X12_number rfl (by decide) rfl rfl rfl rfl (Nat.le_of_ble_eq_true rfl) ?_
              obtain ⟨r51, h⟩ := h
              refine c_M_number r51 ?_
              show z_Wp m_X12_items _ 105 [(0, zR 0), (1, zI a0), (2, zR 13), (3, zI a2), (5, zI (zz_or u5 (zz_shl 1 u6))), (6, zI u6)] [zI ((F_M_number (z_up wu 0 3 ((wu 0 3) + 1)) (F_M_lowest (z_up wu 0 3 ((wu 0 3) + 1)) a0 u6) (F_M_highest (z_up wu 0 3 ((wu 0 3) + 1)) a0 u6)).1), zI (a2 + u6), zR 13] ((F_M_number (z_up wu 0 3 ((wu 0 3) + 1)) (F_M_lowest (z_up wu 0 3 ((wu 0 3) + 1)) a0 u6) (F_M_highest (z_up wu 0 3 ((wu 0 3) + 1)) a0 u6)).2) _
              obtain ⟨r52, h⟩ := h
              refine z_iast2 (w' := z_up ((F_M_number (z_up wu 0 3 ((wu 0 3) + 1)) (F_M_lowest (z_up wu 0 3 ((wu 0 3) + 1)) a0 u6) (F_M_highest (z_up wu 0 3 ((wu 0 3) + 1)) a0 u6)).2) 13 ((a2 + u6).toNat) ((F_M_number (z_up wu 0 3 ((wu 0 3) + 1)) (F_M_lowest (z_up wu 0 3 ((wu 0 3) + 1)) a0 u6) (F_M_highest (z_up wu 0 3 ((wu 0 3) + 1)) a0 u6)).1)) (pc' := 106) (by decide) rfl r52 (by decide) rfl dX12_items_105 rfl ?_
              refine z_aload_n (pc' := 107) 0 rfl rfl dX12_items_106 rfl ?_
              refine z_getI2 (v := ((F_M_number (z_up wu 0 3 ((wu 0 3) + 1)) (F_M_lowest (z_up wu 0 3 ((wu 0 3) + 1)) a0 u6) (F_M_highest (z_up wu 0 3 ((wu 0 3) + 1)) a0 u6)).2) 0 4) (pc' := 110) g_X12_109 (by decide) rfl rfl rfl dX12_items_107 rfl ?_
              refine z_iconst (pc' := 111) dX12_items_110 rfl ?_
              obtain ⟨r53, h⟩ := h
              refine z_icmp_ne 125 dX12_items_111 (by decide) (pc' := 114) rfl r53 (by decide) (fun c => ?_) (fun c => ?_)
              · have h := h.2 c
                rw [if_neg c] at k
                refine z_iconst (pc' := 126) dX12_items_125 rfl ?_
                refine z_istore (pc' := 128) (ls' := [(0, zR 0), (1, zI a0), (2, zR 13), (3, zI a2), (5, zI (zz_or u5 (zz_shl 1 u6))), (6, zI (-1))]) (by decide) rfl rfl dX12_items_126 rfl ?_
                refine z_goto 41 dX12_items_128 (by decide) ?_
                exact ih _ _ _ h k
              · have h := h.1 c
                rw [if_pos c] at k
                refine z_iload_n (pc' := 115) 1 rfl rfl dX12_items_114 rfl ?_
                refine z_aload_n (pc' := 116) 0 rfl rfl dX12_items_115 rfl ?_
                refine z_invV (as := []) (st := [zI a0]) (C := m_X12_look) (fs := [0, 3, 0, 0, 0, 0, 4, 5, 6, 7, 8, 9, 10, 0, 0, 11, 12, 13, 14, 15, 16, 0, 0, 0, 17, 18, 19, 20, 0, 0, 0, 21, 22, 0, 0, 23, 0, 1, 24, 0, 0, 25, 26, 0, 27, 0]) (pc' := 119) dX12_items_116 rfl t_6_218 k_X12_look rfl (by decide) rfl rfl rfl rfl (Nat.le_of_ble_eq_true rfl) ?_
                obtain ⟨r54, h⟩ := h
                refine c_M_look r54 ?_
                show z_Wp m_X12_items _ 119 [(0, zR 0), (1, zI a0), (2, zR 13), (3, zI a2), (5, zI (zz_or u5 (zz_shl 1 u6))), (6, zI u6)] [zI ((F_M_look (z_up ((F_M_number (z_up wu 0 3 ((wu 0 3) + 1)) (F_M_lowest (z_up wu 0 3 ((wu 0 3) + 1)) a0 u6) (F_M_highest (z_up wu 0 3 ((wu 0 3) + 1)) a0 u6)).2) 13 ((a2 + u6).toNat) ((F_M_number (z_up wu 0 3 ((wu 0 3) + 1)) (F_M_lowest (z_up wu 0 3 ((wu 0 3) + 1)) a0 u6) (F_M_highest (z_up wu 0 3 ((wu 0 3) + 1)) a0 u6)).1))).1), zI a0] ((F_M_look (z_up ((F_M_number (z_up wu 0 3 ((wu 0 3) + 1)) (F_M_lowest (z_up wu 0 3 ((wu 0 3) + 1)) a0 u6) (F_M_highest (z_up wu 0 3 ((wu 0 3) + 1)) a0 u6)).2) 13 ((a2 + u6).toNat) ((F_M_number (z_up wu 0 3 ((wu 0 3) + 1)) (F_M_lowest (z_up wu 0 3 ((wu 0 3) + 1)) a0 u6) (F_M_highest (z_up wu 0 3 ((wu 0 3) + 1)) a0 u6)).1))).2) _
                refine z_invS (as := [zI a0, zI ((F_M_look (z_up ((F_M_number (z_up wu 0 3 ((wu 0 3) + 1)) (F_M_lowest (z_up wu 0 3 ((wu 0 3) + 1)) a0 u6) (F_M_highest (z_up wu 0 3 ((wu 0 3) + 1)) a0 u6)).2) 13 ((a2 + u6).toNat) ((F_M_number (z_up wu 0 3 ((wu 0 3) + 1)) (F_M_lowest (z_up wu 0 3 ((wu 0 3) + 1)) a0 u6) (F_M_highest (z_up wu 0 3 ((wu 0 3) + 1)) a0 u6)).1))).1)]) (st := []) (C := m_X12_itemOf) (pc' := 122) dX12_items_119 rfl t_6_234 k_X12_itemOf rfl rfl (Nat.le_of_ble_eq_true rfl) ?_
                obtain ⟨r55, h⟩ := h
                refine c_M_itemOf r55 ?_
                show z_Wp m_X12_items _ 122 [(0, zR 0), (1, zI a0), (2, zR 13), (3, zI a2), (5, zI (zz_or u5 (zz_shl 1 u6))), (6, zI u6)] [zI (F_M_itemOf ((F_M_look (z_up ((F_M_number (z_up wu 0 3 ((wu 0 3) + 1)) (F_M_lowest (z_up wu 0 3 ((wu 0 3) + 1)) a0 u6) (F_M_highest (z_up wu 0 3 ((wu 0 3) + 1)) a0 u6)).2) 13 ((a2 + u6).toNat) ((F_M_number (z_up wu 0 3 ((wu 0 3) + 1)) (F_M_lowest (z_up wu 0 3 ((wu 0 3) + 1)) a0 u6) (F_M_highest (z_up wu 0 3 ((wu 0 3) + 1)) a0 u6)).1))).2) a0 ((F_M_look (z_up ((F_M_number (z_up wu 0 3 ((wu 0 3) + 1)) (F_M_lowest (z_up wu 0 3 ((wu 0 3) + 1)) a0 u6) (F_M_highest (z_up wu 0 3 ((wu 0 3) + 1)) a0 u6)).2) 13 ((a2 + u6).toNat) ((F_M_number (z_up wu 0 3 ((wu 0 3) + 1)) (F_M_lowest (z_up wu 0 3 ((wu 0 3) + 1)) a0 u6) (F_M_highest (z_up wu 0 3 ((wu 0 3) + 1)) a0 u6)).1))).1))] ((F_M_look (z_up ((F_M_number (z_up wu 0 3 ((wu 0 3) + 1)) (F_M_lowest (z_up wu 0 3 ((wu 0 3) + 1)) a0 u6) (F_M_highest (z_up wu 0 3 ((wu 0 3) + 1)) a0 u6)).2) 13 ((a2 + u6).toNat) ((F_M_number (z_up wu 0 3 ((wu 0 3) + 1)) (F_M_lowest (z_up wu 0 3 ((wu 0 3) + 1)) a0 u6) (F_M_highest (z_up wu 0 3 ((wu 0 3) + 1)) a0 u6)).1))).2) _
                refine z_goto 126 dX12_items_122 (by decide) ?_
                refine z_istore (pc' := 128) (ls' := [(0, zR 0), (1, zI a0), (2, zR 13), (3, zI a2), (5, zI (zz_or u5 (zz_shl 1 u6))), (6, zI (F_M_itemOf ((F_M_look (z_up ((F_M_number (z_up wu 0 3 ((wu 0 3) + 1)) (F_M_lowest (z_up wu 0 3 ((wu 0 3) + 1)) a0 u6) (F_M_highest (z_up wu 0 3 ((wu 0 3) + 1)) a0 u6)).2) 13 ((a2 + u6).toNat) ((F_M_number (z_up wu 0 3 ((wu 0 3) + 1)) (F_M_lowest (z_up wu 0 3 ((wu 0 3) + 1)) a0 u6) (F_M_highest (z_up wu 0 3 ((wu 0 3) + 1)) a0 u6)).1))).2) a0 ((F_M_look (z_up ((F_M_number (z_up wu 0 3 ((wu 0 3) + 1)) (F_M_lowest (z_up wu 0 3 ((wu 0 3) + 1)) a0 u6) (F_M_highest (z_up wu 0 3 ((wu 0 3) + 1)) a0 u6)).2) 13 ((a2 + u6).toNat) ((F_M_number (z_up wu 0 3 ((wu 0 3) + 1)) (F_M_lowest (z_up wu 0 3 ((wu 0 3) + 1)) a0 u6) (F_M_highest (z_up wu 0 3 ((wu 0 3) + 1)) a0 u6)).1))).1)))]) (by decide) rfl rfl dX12_items_126 rfl ?_
                refine z_goto 41 dX12_items_128 (by decide) ?_
                exact ih _ _ _ h k
    exact hl 10 _ _ _ h k
  · intro i27 hi ih
    have h := h.1 i27 hi
    have ih : z_Wp m_X12_items (d + 3) 3 [(0, zR 0), (1, zI a0), (2, zR 13), (3, zI a2), (4, zI a3), (5, zI ((i27 + 1 : Nat) : Int))] [] (z_up (A_M_items_13_3 w a0 a2 a3 i27) 13 ((a2 + (i27 : Int)).toNat) (F_M_usual (A_M_items_13_3 w a0 a2 a3 i27) a0 (i27 : Int))) Q := ih
    refine z_iload (pc' := 5) 5 rfl dX12_items_3 rfl ?_
    refine z_iload (pc' := 7) 4 rfl dX12_items_5 rfl ?_
    obtain ⟨r28, h⟩ := h
    obtain ⟨r29, h⟩ := h
    refine z_icmp_ge 28 dX12_items_7 (by decide) (pc' := 10) rfl r28 r29 (fun c => absurd c (by omega)) (fun _ => ?_)
    refine z_aload_n (pc' := 11) 2 rfl rfl dX12_items_10 rfl ?_
    refine z_iload_n (pc' := 12) 3 rfl rfl dX12_items_11 rfl ?_
    refine z_iload (pc' := 14) 5 rfl dX12_items_12 rfl ?_
    refine z_iadd (pc' := 15) dX12_items_14 rfl ?_
    refine z_iload_n (pc' := 16) 1 rfl rfl dX12_items_15 rfl ?_
    refine z_iload (pc' := 18) 5 rfl dX12_items_16 rfl ?_
    refine z_invS (as := [zI a0, zI (i27 : Int)]) (st := [zI (a2 + (i27 : Int)), zR 13]) (C := m_X12_usual) (pc' := 21) dX12_items_18 rfl t_6_215 k_X12_usual rfl rfl (Nat.le_of_ble_eq_true rfl) ?_
    obtain ⟨r30, h⟩ := h
    refine c_M_usual r30 ?_
    show z_Wp m_X12_items _ 21 [(0, zR 0), (1, zI a0), (2, zR 13), (3, zI a2), (4, zI a3), (5, zI (i27 : Int))] [zI (F_M_usual (A_M_items_13_3 w a0 a2 a3 i27) a0 (i27 : Int)), zI (a2 + (i27 : Int)), zR 13] (A_M_items_13_3 w a0 a2 a3 i27) _
    have r31 := h
    refine z_iast2 (w' := z_up (A_M_items_13_3 w a0 a2 a3 i27) 13 ((a2 + (i27 : Int)).toNat) (F_M_usual (A_M_items_13_3 w a0 a2 a3 i27) a0 (i27 : Int))) (pc' := 22) (by decide) rfl r31 (by decide) rfl dX12_items_21 rfl ?_
    refine z_iinc (pc' := 25) (ls' := [(0, zR 0), (1, zI a0), (2, zR 13), (3, zI a2), (4, zI a3), (5, zI ((i27 : Int) + 1))]) 5 rfl (by decide) rfl rfl dX12_items_22 rfl ?_
    refine z_goto 3 dX12_items_25 (by decide) ?_
    exact ih
def L_M_items_14_41 (w : z_Wd) (a0 : Int) (a2 : Int)  : Nat → Int → Int → z_Wd → z_Wd
  | 0, _, _, _ => w
  | m9 + 1, u5, u6, wu => if wu 0 4 = (-1) then if u6 = (-1) then wu else if F_M_has wu u5 u6 = 0 then if ((F_M_number (z_up wu 0 3 ((wu 0 3) + 1)) (F_M_lowest (z_up wu 0 3 ((wu 0 3) + 1)) a0 u6) (F_M_highest (z_up wu 0 3 ((wu 0 3) + 1)) a0 u6)).2) 0 4 = (-1) then L_M_items_14_41 w a0 a2 m9 (zz_or u5 (zz_shl 1 u6)) (F_M_itemOf ((F_M_look (z_up ((F_M_number (z_up wu 0 3 ((wu 0 3) + 1)) (F_M_lowest (z_up wu 0 3 ((wu 0 3) + 1)) a0 u6) (F_M_highest (z_up wu 0 3 ((wu 0 3) + 1)) a0 u6)).2) 14 ((a2 + u6).toNat) ((F_M_number (z_up wu 0 3 ((wu 0 3) + 1)) (F_M_lowest (z_up wu 0 3 ((wu 0 3) + 1)) a0 u6) (F_M_highest (z_up wu 0 3 ((wu 0 3) + 1)) a0 u6)).1))).2) a0 ((F_M_look (z_up ((F_M_number (z_up wu 0 3 ((wu 0 3) + 1)) (F_M_lowest (z_up wu 0 3 ((wu 0 3) + 1)) a0 u6) (F_M_highest (z_up wu 0 3 ((wu 0 3) + 1)) a0 u6)).2) 14 ((a2 + u6).toNat) ((F_M_number (z_up wu 0 3 ((wu 0 3) + 1)) (F_M_lowest (z_up wu 0 3 ((wu 0 3) + 1)) a0 u6) (F_M_highest (z_up wu 0 3 ((wu 0 3) + 1)) a0 u6)).1))).1)) ((F_M_look (z_up ((F_M_number (z_up wu 0 3 ((wu 0 3) + 1)) (F_M_lowest (z_up wu 0 3 ((wu 0 3) + 1)) a0 u6) (F_M_highest (z_up wu 0 3 ((wu 0 3) + 1)) a0 u6)).2) 14 ((a2 + u6).toNat) ((F_M_number (z_up wu 0 3 ((wu 0 3) + 1)) (F_M_lowest (z_up wu 0 3 ((wu 0 3) + 1)) a0 u6) (F_M_highest (z_up wu 0 3 ((wu 0 3) + 1)) a0 u6)).1))).2) else L_M_items_14_41 w a0 a2 m9 (zz_or u5 (zz_shl 1 u6)) (-1) (z_up ((F_M_number (z_up wu 0 3 ((wu 0 3) + 1)) (F_M_lowest (z_up wu 0 3 ((wu 0 3) + 1)) a0 u6) (F_M_highest (z_up wu 0 3 ((wu 0 3) + 1)) a0 u6)).2) 14 ((a2 + u6).toNat) ((F_M_number (z_up wu 0 3 ((wu 0 3) + 1)) (F_M_lowest (z_up wu 0 3 ((wu 0 3) + 1)) a0 u6) (F_M_highest (z_up wu 0 3 ((wu 0 3) + 1)) a0 u6)).1)) else wu else wu
def PL_M_items_14_41 (w : z_Wd) (a0 : Int) (a2 : Int)  : Nat → Int → Int → z_Wd → Prop
  | 0, _, _, _ => False
  | m9 + 1, u5, u6, wu => (-2147483648 ≤ wu 0 4 ∧ wu 0 4 < 2147483648) ∧ ((wu 0 4 = (-1) → (-2147483648 ≤ u6 ∧ u6 < 2147483648) ∧ ((u6 = (-1) → True) ∧ (¬ (u6 = (-1)) → (P_M_has wu u5 u6) ∧ ((F_M_has wu u5 u6 = 0 → (P_M_lowest (z_up wu 0 3 ((wu 0 3) + 1)) a0 u6) ∧ (P_M_highest (z_up wu 0 3 ((wu 0 3) + 1)) a0 u6) ∧ (P_M_number (z_up wu 0 3 ((wu 0 3) + 1)) (F_M_lowest (z_up wu 0 3 ((wu 0 3) + 1)) a0 u6) (F_M_highest (z_up wu 0 3 ((wu 0 3) + 1)) a0 u6)) ∧ (0 ≤ a2 + u6 ∧ a2 + u6 < 12) ∧ (-2147483648 ≤ ((F_M_number (z_up wu 0 3 ((wu 0 3) + 1)) (F_M_lowest (z_up wu 0 3 ((wu 0 3) + 1)) a0 u6) (F_M_highest (z_up wu 0 3 ((wu 0 3) + 1)) a0 u6)).2) 0 4 ∧ ((F_M_number (z_up wu 0 3 ((wu 0 3) + 1)) (F_M_lowest (z_up wu 0 3 ((wu 0 3) + 1)) a0 u6) (F_M_highest (z_up wu 0 3 ((wu 0 3) + 1)) a0 u6)).2) 0 4 < 2147483648) ∧ ((((F_M_number (z_up wu 0 3 ((wu 0 3) + 1)) (F_M_lowest (z_up wu 0 3 ((wu 0 3) + 1)) a0 u6) (F_M_highest (z_up wu 0 3 ((wu 0 3) + 1)) a0 u6)).2) 0 4 = (-1) → (P_M_look (z_up ((F_M_number (z_up wu 0 3 ((wu 0 3) + 1)) (F_M_lowest (z_up wu 0 3 ((wu 0 3) + 1)) a0 u6) (F_M_highest (z_up wu 0 3 ((wu 0 3) + 1)) a0 u6)).2) 14 ((a2 + u6).toNat) ((F_M_number (z_up wu 0 3 ((wu 0 3) + 1)) (F_M_lowest (z_up wu 0 3 ((wu 0 3) + 1)) a0 u6) (F_M_highest (z_up wu 0 3 ((wu 0 3) + 1)) a0 u6)).1))) ∧ (P_M_itemOf ((F_M_look (z_up ((F_M_number (z_up wu 0 3 ((wu 0 3) + 1)) (F_M_lowest (z_up wu 0 3 ((wu 0 3) + 1)) a0 u6) (F_M_highest (z_up wu 0 3 ((wu 0 3) + 1)) a0 u6)).2) 14 ((a2 + u6).toNat) ((F_M_number (z_up wu 0 3 ((wu 0 3) + 1)) (F_M_lowest (z_up wu 0 3 ((wu 0 3) + 1)) a0 u6) (F_M_highest (z_up wu 0 3 ((wu 0 3) + 1)) a0 u6)).1))).2) a0 ((F_M_look (z_up ((F_M_number (z_up wu 0 3 ((wu 0 3) + 1)) (F_M_lowest (z_up wu 0 3 ((wu 0 3) + 1)) a0 u6) (F_M_highest (z_up wu 0 3 ((wu 0 3) + 1)) a0 u6)).2) 14 ((a2 + u6).toNat) ((F_M_number (z_up wu 0 3 ((wu 0 3) + 1)) (F_M_lowest (z_up wu 0 3 ((wu 0 3) + 1)) a0 u6) (F_M_highest (z_up wu 0 3 ((wu 0 3) + 1)) a0 u6)).1))).1)) ∧ (PL_M_items_14_41 w a0 a2 m9 (zz_or u5 (zz_shl 1 u6)) (F_M_itemOf ((F_M_look (z_up ((F_M_number (z_up wu 0 3 ((wu 0 3) + 1)) (F_M_lowest (z_up wu 0 3 ((wu 0 3) + 1)) a0 u6) (F_M_highest (z_up wu 0 3 ((wu 0 3) + 1)) a0 u6)).2) 14 ((a2 + u6).toNat) ((F_M_number (z_up wu 0 3 ((wu 0 3) + 1)) (F_M_lowest (z_up wu 0 3 ((wu 0 3) + 1)) a0 u6) (F_M_highest (z_up wu 0 3 ((wu 0 3) + 1)) a0 u6)).1))).2) a0 ((F_M_look (z_up ((F_M_number (z_up wu 0 3 ((wu 0 3) + 1)) (F_M_lowest (z_up wu 0 3 ((wu 0 3) + 1)) a0 u6) (F_M_highest (z_up wu 0 3 ((wu 0 3) + 1)) a0 u6)).2) 14 ((a2 + u6).toNat) ((F_M_number (z_up wu 0 3 ((wu 0 3) + 1)) (F_M_lowest (z_up wu 0 3 ((wu 0 3) + 1)) a0 u6) (F_M_highest (z_up wu 0 3 ((wu 0 3) + 1)) a0 u6)).1))).1)) ((F_M_look (z_up ((F_M_number (z_up wu 0 3 ((wu 0 3) + 1)) (F_M_lowest (z_up wu 0 3 ((wu 0 3) + 1)) a0 u6) (F_M_highest (z_up wu 0 3 ((wu 0 3) + 1)) a0 u6)).2) 14 ((a2 + u6).toNat) ((F_M_number (z_up wu 0 3 ((wu 0 3) + 1)) (F_M_lowest (z_up wu 0 3 ((wu 0 3) + 1)) a0 u6) (F_M_highest (z_up wu 0 3 ((wu 0 3) + 1)) a0 u6)).1))).2))) ∧ (¬ (((F_M_number (z_up wu 0 3 ((wu 0 3) + 1)) (F_M_lowest (z_up wu 0 3 ((wu 0 3) + 1)) a0 u6) (F_M_highest (z_up wu 0 3 ((wu 0 3) + 1)) a0 u6)).2) 0 4 = (-1)) → PL_M_items_14_41 w a0 a2 m9 (zz_or u5 (zz_shl 1 u6)) (-1) (z_up ((F_M_number (z_up wu 0 3 ((wu 0 3) + 1)) (F_M_lowest (z_up wu 0 3 ((wu 0 3) + 1)) a0 u6) (F_M_highest (z_up wu 0 3 ((wu 0 3) + 1)) a0 u6)).2) 14 ((a2 + u6).toNat) ((F_M_number (z_up wu 0 3 ((wu 0 3) + 1)) (F_M_lowest (z_up wu 0 3 ((wu 0 3) + 1)) a0 u6) (F_M_highest (z_up wu 0 3 ((wu 0 3) + 1)) a0 u6)).1))))) ∧ (¬ (F_M_has wu u5 u6 = 0) → True))))) ∧ (¬ (wu 0 4 = (-1)) → True))
def A_M_items_14_3 (w : z_Wd) (a0 : Int) (a2 : Int) (a3 : Int) : Nat → z_Wd
  | 0 => w
  | i27 + 1 => z_up (A_M_items_14_3 w a0 a2 a3 i27) 14 ((a2 + (i27 : Int)).toNat) (F_M_usual (A_M_items_14_3 w a0 a2 a3 i27) a0 (i27 : Int))
def P_M_items_14 (w : z_Wd) (a0 : Int) (a2 : Int) (a3 : Int) : Prop := (∀ i27 : Nat, i27 < ((a3).toNat) → (-2147483648 ≤ (i27 : Int) ∧ (i27 : Int) < 2147483648) ∧ (-2147483648 ≤ a3 ∧ a3 < 2147483648) ∧ (P_M_usual (A_M_items_14_3 w a0 a2 a3 i27) a0 (i27 : Int)) ∧ (0 ≤ a2 + (i27 : Int) ∧ a2 + (i27 : Int) < 12)) ∧ ((-2147483648 ≤ (((a3).toNat : Nat) : Int) ∧ (((a3).toNat : Nat) : Int) < 2147483648) ∧ (-2147483648 ≤ a3 ∧ a3 < 2147483648) ∧ (P_M_look (A_M_items_14_3 w a0 a2 a3 (a3).toNat)) ∧ (P_M_itemOf ((F_M_look (A_M_items_14_3 w a0 a2 a3 (a3).toNat)).2) a0 ((F_M_look (A_M_items_14_3 w a0 a2 a3 (a3).toNat)).1)) ∧ (PL_M_items_14_41 w a0 a2 10 0 (F_M_itemOf ((F_M_look (A_M_items_14_3 w a0 a2 a3 (a3).toNat)).2) a0 ((F_M_look (A_M_items_14_3 w a0 a2 a3 (a3).toNat)).1)) ((F_M_look (A_M_items_14_3 w a0 a2 a3 (a3).toNat)).2)))
def F_M_items_14 (w : z_Wd) (a0 : Int) (a2 : Int) (a3 : Int) : z_Wd := L_M_items_14_41 w a0 a2 10 0 (F_M_itemOf ((F_M_look (A_M_items_14_3 w a0 a2 a3 (a3).toNat)).2) a0 ((F_M_look (A_M_items_14_3 w a0 a2 a3 (a3).toNat)).1)) ((F_M_look (A_M_items_14_3 w a0 a2 a3 (a3).toNat)).2)
set_option maxRecDepth 4000 in
theorem c_M_items_14 {d : Nat} {w : z_Wd} {a0 a2 a3 : Int} {Q : Option z_V → z_Wd → Prop} (h : P_M_items_14 w a0 a2 a3) (k : Q none (F_M_items_14 w a0 a2 a3)) : z_Wc (d + 3) m_X12_items [zR 0, zI a0, zR 14, zI a2, zI a3] w Q := by
  unfold P_M_items_14 at h
  unfold F_M_items_14 at k
  refine z_enter rfl (Nat.le_of_ble_eq_true rfl) ?_
  show z_Wp m_X12_items _ 0 [(0, zR 0), (1, zI a0), (2, zR 14), (3, zI a2), (4, zI a3)] [] w _
  refine z_iconst (pc' := 1) dX12_items_0 rfl ?_
  refine z_istore (pc' := 3) (ls' := [(0, zR 0), (1, zI a0), (2, zR 14), (3, zI a2), (4, zI a3), (5, zI 0)]) (by decide) rfl rfl dX12_items_1 rfl ?_
  refine z_upto ((a3).toNat) (fun i27 => z_Wp m_X12_items (d + 3) 3 [(0, zR 0), (1, zI a0), (2, zR 14), (3, zI a2), (4, zI a3), (5, zI (i27 : Int))] [] (A_M_items_14_3 w a0 a2 a3 i27) Q) ?_ ?_
  · skip
    have h := h.2
    refine z_iload (pc' := 5) 5 rfl dX12_items_3 rfl ?_
    refine z_iload (pc' := 7) 4 rfl dX12_items_5 rfl ?_
    obtain ⟨r32, h⟩ := h
    obtain ⟨r33, h⟩ := h
    refine z_icmp_ge 28 dX12_items_7 (by decide) (pc' := 10) rfl r32 r33 (fun _ => ?_) (fun c => absurd c (by omega))
    refine z_iconst (pc' := 29) dX12_items_28 rfl ?_
    refine z_istore (pc' := 31) (ls' := [(0, zR 0), (1, zI a0), (2, zR 14), (3, zI a2), (4, zI a3), (5, zI 0)]) (by decide) rfl rfl dX12_items_29 rfl ?_
    refine z_iload_n (pc' := 32) 1 rfl rfl dX12_items_31 rfl ?_
    refine z_aload_n (pc' := 33) 0 rfl rfl dX12_items_32 rfl ?_
    refine z_invV (as := []) (st := [zI a0]) (C := m_X12_look) (fs := [0, 3, 0, 0, 0, 0, 4, 5, 6, 7, 8, 9, 10, 0, 0, 11, 12, 13, 14, 15, 16, 0, 0, 0, 17, 18, 19, 20, 0, 0, 0, 21, 22, 0, 0, 23, 0, 1, 24, 0, 0, 25, 26, 0, 27, 0]) (pc' := 36) dX12_items_33 rfl t_6_218 k_X12_look rfl (by decide) rfl rfl rfl rfl (Nat.le_of_ble_eq_true rfl) ?_
    obtain ⟨r34, h⟩ := h
    refine c_M_look r34 ?_
    show z_Wp m_X12_items _ 36 [(0, zR 0), (1, zI a0), (2, zR 14), (3, zI a2), (4, zI a3), (5, zI 0)] [zI ((F_M_look (A_M_items_14_3 w a0 a2 a3 (a3).toNat)).1), zI a0] ((F_M_look (A_M_items_14_3 w a0 a2 a3 (a3).toNat)).2) _
    refine z_invS (as := [zI a0, zI ((F_M_look (A_M_items_14_3 w a0 a2 a3 (a3).toNat)).1)]) (st := []) (C := m_X12_itemOf) (pc' := 39) dX12_items_36 rfl t_6_234 k_X12_itemOf rfl rfl (Nat.le_of_ble_eq_true rfl) ?_
    obtain ⟨r35, h⟩ := h
    refine c_M_itemOf r35 ?_
    show z_Wp m_X12_items _ 39 [(0, zR 0), (1, zI a0), (2, zR 14), (3, zI a2), (4, zI a3), (5, zI 0)] [zI (F_M_itemOf ((F_M_look (A_M_items_14_3 w a0 a2 a3 (a3).toNat)).2) a0 ((F_M_look (A_M_items_14_3 w a0 a2 a3 (a3).toNat)).1))] ((F_M_look (A_M_items_14_3 w a0 a2 a3 (a3).toNat)).2) _
    refine z_istore (pc' := 41) (ls' := [(0, zR 0), (1, zI a0), (2, zR 14), (3, zI a2), (4, zI a3), (5, zI 0), (6, zI (F_M_itemOf ((F_M_look (A_M_items_14_3 w a0 a2 a3 (a3).toNat)).2) a0 ((F_M_look (A_M_items_14_3 w a0 a2 a3 (a3).toNat)).1)))]) (by decide) rfl rfl dX12_items_39 rfl ?_
    refine z_Wp.sub (ls' := [(0, zR 0), (1, zI a0), (2, zR 14), (3, zI a2), (5, zI 0), (6, zI (F_M_itemOf ((F_M_look (A_M_items_14_3 w a0 a2 a3 (a3).toNat)).2) a0 ((F_M_look (A_M_items_14_3 w a0 a2 a3 (a3).toNat)).1)))]) ?_ (z_sub_of [0, 1, 2, 3, 5, 6] rfl)
    have hl : ∀ (m9 : Nat) (u5 : Int) (u6 : Int) (wu : z_Wd), PL_M_items_14_41 w a0 a2 m9 u5 u6 wu → Q none (L_M_items_14_41 w a0 a2 m9 u5 u6 wu) → z_Wp m_X12_items (d + 3) 41 [(0, zR 0), (1, zI a0), (2, zR 14), (3, zI a2), (5, zI u5), (6, zI u6)] [] wu Q := by
      clear h k
      intro m9
      induction m9 with
      | zero => intro u5 u6 wu h k; exact False.elim h
      | succ m9 ih =>
        intro u5 u6 wu h k
        have h : (-2147483648 ≤ wu 0 4 ∧ wu 0 4 < 2147483648) ∧ ((wu 0 4 = (-1) → (-2147483648 ≤ u6 ∧ u6 < 2147483648) ∧ ((u6 = (-1) → True) ∧ (¬ (u6 = (-1)) → (P_M_has wu u5 u6) ∧ ((F_M_has wu u5 u6 = 0 → (P_M_lowest (z_up wu 0 3 ((wu 0 3) + 1)) a0 u6) ∧ (P_M_highest (z_up wu 0 3 ((wu 0 3) + 1)) a0 u6) ∧ (P_M_number (z_up wu 0 3 ((wu 0 3) + 1)) (F_M_lowest (z_up wu 0 3 ((wu 0 3) + 1)) a0 u6) (F_M_highest (z_up wu 0 3 ((wu 0 3) + 1)) a0 u6)) ∧ (0 ≤ a2 + u6 ∧ a2 + u6 < 12) ∧ (-2147483648 ≤ ((F_M_number (z_up wu 0 3 ((wu 0 3) + 1)) (F_M_lowest (z_up wu 0 3 ((wu 0 3) + 1)) a0 u6) (F_M_highest (z_up wu 0 3 ((wu 0 3) + 1)) a0 u6)).2) 0 4 ∧ ((F_M_number (z_up wu 0 3 ((wu 0 3) + 1)) (F_M_lowest (z_up wu 0 3 ((wu 0 3) + 1)) a0 u6) (F_M_highest (z_up wu 0 3 ((wu 0 3) + 1)) a0 u6)).2) 0 4 < 2147483648) ∧ ((((F_M_number (z_up wu 0 3 ((wu 0 3) + 1)) (F_M_lowest (z_up wu 0 3 ((wu 0 3) + 1)) a0 u6) (F_M_highest (z_up wu 0 3 ((wu 0 3) + 1)) a0 u6)).2) 0 4 = (-1) → (P_M_look (z_up ((F_M_number (z_up wu 0 3 ((wu 0 3) + 1)) (F_M_lowest (z_up wu 0 3 ((wu 0 3) + 1)) a0 u6) (F_M_highest (z_up wu 0 3 ((wu 0 3) + 1)) a0 u6)).2) 14 ((a2 + u6).toNat) ((F_M_number (z_up wu 0 3 ((wu 0 3) + 1)) (F_M_lowest (z_up wu 0 3 ((wu 0 3) + 1)) a0 u6) (F_M_highest (z_up wu 0 3 ((wu 0 3) + 1)) a0 u6)).1))) ∧ (P_M_itemOf ((F_M_look (z_up ((F_M_number (z_up wu 0 3 ((wu 0 3) + 1)) (F_M_lowest (z_up wu 0 3 ((wu 0 3) + 1)) a0 u6) (F_M_highest (z_up wu 0 3 ((wu 0 3) + 1)) a0 u6)).2) 14 ((a2 + u6).toNat) ((F_M_number (z_up wu 0 3 ((wu 0 3) + 1)) (F_M_lowest (z_up wu 0 3 ((wu 0 3) + 1)) a0 u6) (F_M_highest (z_up wu 0 3 ((wu 0 3) + 1)) a0 u6)).1))).2) a0 ((F_M_look (z_up ((F_M_number (z_up wu 0 3 ((wu 0 3) + 1)) (F_M_lowest (z_up wu 0 3 ((wu 0 3) + 1)) a0 u6) (F_M_highest (z_up wu 0 3 ((wu 0 3) + 1)) a0 u6)).2) 14 ((a2 + u6).toNat) ((F_M_number (z_up wu 0 3 ((wu 0 3) + 1)) (F_M_lowest (z_up wu 0 3 ((wu 0 3) + 1)) a0 u6) (F_M_highest (z_up wu 0 3 ((wu 0 3) + 1)) a0 u6)).1))).1)) ∧ (PL_M_items_14_41 w a0 a2 m9 (zz_or u5 (zz_shl 1 u6)) (F_M_itemOf ((F_M_look (z_up ((F_M_number (z_up wu 0 3 ((wu 0 3) + 1)) (F_M_lowest (z_up wu 0 3 ((wu 0 3) + 1)) a0 u6) (F_M_highest (z_up wu 0 3 ((wu 0 3) + 1)) a0 u6)).2) 14 ((a2 + u6).toNat) ((F_M_number (z_up wu 0 3 ((wu 0 3) + 1)) (F_M_lowest (z_up wu 0 3 ((wu 0 3) + 1)) a0 u6) (F_M_highest (z_up wu 0 3 ((wu 0 3) + 1)) a0 u6)).1))).2) a0 ((F_M_look (z_up ((F_M_number (z_up wu 0 3 ((wu 0 3) + 1)) (F_M_lowest (z_up wu 0 3 ((wu 0 3) + 1)) a0 u6) (F_M_highest (z_up wu 0 3 ((wu 0 3) + 1)) a0 u6)).2) 14 ((a2 + u6).toNat) ((F_M_number (z_up wu 0 3 ((wu 0 3) + 1)) (F_M_lowest (z_up wu 0 3 ((wu 0 3) + 1)) a0 u6) (F_M_highest (z_up wu 0 3 ((wu 0 3) + 1)) a0 u6)).1))).1)) ((F_M_look (z_up ((F_M_number (z_up wu 0 3 ((wu 0 3) + 1)) (F_M_lowest (z_up wu 0 3 ((wu 0 3) + 1)) a0 u6) (F_M_highest (z_up wu 0 3 ((wu 0 3) + 1)) a0 u6)).2) 14 ((a2 + u6).toNat) ((F_M_number (z_up wu 0 3 ((wu 0 3) + 1)) (F_M_lowest (z_up wu 0 3 ((wu 0 3) + 1)) a0 u6) (F_M_highest (z_up wu 0 3 ((wu 0 3) + 1)) a0 u6)).1))).2))) ∧ (¬ (((F_M_number (z_up wu 0 3 ((wu 0 3) + 1)) (F_M_lowest (z_up wu 0 3 ((wu 0 3) + 1)) a0 u6) (F_M_highest (z_up wu 0 3 ((wu 0 3) + 1)) a0 u6)).2) 0 4 = (-1)) → PL_M_items_14_41 w a0 a2 m9 (zz_or u5 (zz_shl 1 u6)) (-1) (z_up ((F_M_number (z_up wu 0 3 ((wu 0 3) + 1)) (F_M_lowest (z_up wu 0 3 ((wu 0 3) + 1)) a0 u6) (F_M_highest (z_up wu 0 3 ((wu 0 3) + 1)) a0 u6)).2) 14 ((a2 + u6).toNat) ((F_M_number (z_up wu 0 3 ((wu 0 3) + 1)) (F_M_lowest (z_up wu 0 3 ((wu 0 3) + 1)) a0 u6) (F_M_highest (z_up wu 0 3 ((wu 0 3) + 1)) a0 u6)).1))))) ∧ (¬ (F_M_has wu u5 u6 = 0) → True))))) ∧ (¬ (wu 0 4 = (-1)) → True)) := h
        have k : Q none (if wu 0 4 = (-1) then if u6 = (-1) then wu else if F_M_has wu u5 u6 = 0 then if ((F_M_number (z_up wu 0 3 ((wu 0 3) + 1)) (F_M_lowest (z_up wu 0 3 ((wu 0 3) + 1)) a0 u6) (F_M_highest (z_up wu 0 3 ((wu 0 3) + 1)) a0 u6)).2) 0 4 = (-1) then L_M_items_14_41 w a0 a2 m9 (zz_or u5 (zz_shl 1 u6)) (F_M_itemOf ((F_M_look (z_up ((F_M_number (z_up wu 0 3 ((wu 0 3) + 1)) (F_M_lowest (z_up wu 0 3 ((wu 0 3) + 1)) a0 u6) (F_M_highest (z_up wu 0 3 ((wu 0 3) + 1)) a0 u6)).2) 14 ((a2 + u6).toNat) ((F_M_number (z_up wu 0 3 ((wu 0 3) + 1)) (F_M_lowest (z_up wu 0 3 ((wu 0 3) + 1)) a0 u6) (F_M_highest (z_up wu 0 3 ((wu 0 3) + 1)) a0 u6)).1))).2) a0 ((F_M_look (z_up ((F_M_number (z_up wu 0 3 ((wu 0 3) + 1)) (F_M_lowest (z_up wu 0 3 ((wu 0 3) + 1)) a0 u6) (F_M_highest (z_up wu 0 3 ((wu 0 3) + 1)) a0 u6)).2) 14 ((a2 + u6).toNat) ((F_M_number (z_up wu 0 3 ((wu 0 3) + 1)) (F_M_lowest (z_up wu 0 3 ((wu 0 3) + 1)) a0 u6) (F_M_highest (z_up wu 0 3 ((wu 0 3) + 1)) a0 u6)).1))).1)) ((F_M_look (z_up ((F_M_number (z_up wu 0 3 ((wu 0 3) + 1)) (F_M_lowest (z_up wu 0 3 ((wu 0 3) + 1)) a0 u6) (F_M_highest (z_up wu 0 3 ((wu 0 3) + 1)) a0 u6)).2) 14 ((a2 + u6).toNat) ((F_M_number (z_up wu 0 3 ((wu 0 3) + 1)) (F_M_lowest (z_up wu 0 3 ((wu 0 3) + 1)) a0 u6) (F_M_highest (z_up wu 0 3 ((wu 0 3) + 1)) a0 u6)).1))).2) else L_M_items_14_41 w a0 a2 m9 (zz_or u5 (zz_shl 1 u6)) (-1) (z_up ((F_M_number (z_up wu 0 3 ((wu 0 3) + 1)) (F_M_lowest (z_up wu 0 3 ((wu 0 3) + 1)) a0 u6) (F_M_highest (z_up wu 0 3 ((wu 0 3) + 1)) a0 u6)).2) 14 ((a2 + u6).toNat) ((F_M_number (z_up wu 0 3 ((wu 0 3) + 1)) (F_M_lowest (z_up wu 0 3 ((wu 0 3) + 1)) a0 u6) (F_M_highest (z_up wu 0 3 ((wu 0 3) + 1)) a0 u6)).1)) else wu else wu) := k
        refine z_aload_n (pc' := 42) 0 rfl rfl dX12_items_41 rfl ?_
        refine z_getI2 (v := wu 0 4) (pc' := 45) g_X12_109 (by decide) rfl rfl rfl dX12_items_42 rfl ?_
        refine z_iconst (pc' := 46) dX12_items_45 rfl ?_
        obtain ⟨r46, h⟩ := h
        refine z_icmp_ne 131 dX12_items_46 (by decide) (pc' := 49) rfl r46 (by decide) (fun c => ?_) (fun c => ?_)
        · have h := h.2 c
          rw [if_neg c] at k
          refine z_vret rfl dX12_items_131 ?_
          exact k
        · have h := h.1 c
          rw [if_pos c] at k
          refine z_iload (pc' := 51) 5 rfl dX12_items_49 rfl ?_
          refine z_iconst (pc' := 52) dX12_items_51 rfl ?_
          obtain ⟨r47, h⟩ := h
          refine z_icmp_eq 131 dX12_items_52 (by decide) (pc' := 55) rfl r47 (by decide) (fun c => ?_) (fun c => ?_)
          · have h := h.1 c
            rw [if_pos c] at k
            refine z_vret rfl dX12_items_131 ?_
            exact k
          · have h := h.2 c
            rw [if_neg c] at k
            refine z_iload (pc' := 57) 4 rfl dX12_items_55 rfl ?_
            refine z_iload (pc' := 59) 5 rfl dX12_items_57 rfl ?_
            refine z_invS (as := [zI u5, zI u6]) (st := []) (C := m_X12_has) (pc' := 62) dX12_items_59 rfl t_6_237 k_X12_has rfl rfl (Nat.le_of_ble_eq_true rfl) ?_
            obtain ⟨r48, h⟩ := h
            refine c_M_has r48 ?_
            show z_Wp m_X12_items _ 62 [(0, zR 0), (1, zI a0), (2, zR 14), (3, zI a2), (5, zI u5), (6, zI u6)] [zI (F_M_has wu u5 u6)] wu _
            refine z_if_ne 131 dX12_items_62 (by decide) (pc' := 65) rfl (z_rb b_M_has) (fun c => ?_) (fun c => ?_)
            · have h := h.2 c
              rw [if_neg c] at k
              refine z_vret rfl dX12_items_131 ?_
              exact k
            · have h := h.1 c
              rw [if_pos c] at k
              refine z_iload (pc' := 67) 4 rfl dX12_items_65 rfl ?_
              refine z_iconst (pc' := 68) dX12_items_67 rfl ?_
              refine z_iload (pc' := 70) 5 rfl dX12_items_68 rfl ?_
              refine z_ishl (pc' := 71) dX12_items_70 rfl ?_
              refine z_ior (pc' := 72) dX12_items_71 rfl ?_
              refine z_istore (pc' := 74) (ls' := [(0, zR 0), (1, zI a0), (2, zR 14), (3, zI a2), (5, zI (zz_or u5 (zz_shl 1 u6))), (6, zI u6)]) (by decide) rfl rfl dX12_items_72 rfl ?_
              refine z_aload_n (pc' := 75) 0 rfl rfl dX12_items_74 rfl ?_
              refine z_dup (pc' := 76) rfl dX12_items_75 rfl ?_
              refine z_getI2 (v := wu 0 3) (pc' := 79) g_X12_102 (by decide) rfl rfl rfl dX12_items_76 rfl ?_
              refine z_iconst (pc' := 80) dX12_items_79 rfl ?_
              refine z_iadd (pc' := 81) dX12_items_80 rfl ?_
              refine z_putI (pc' := 84) p_X12_102 (by decide) rfl rfl rfl rfl dX12_items_81 rfl ?_
              refine z_aload_n (pc' := 85) 2 rfl rfl dX12_items_84 rfl ?_
              refine z_iload_n (pc' := 86) 3 rfl rfl dX12_items_85 rfl ?_
              refine z_iload (pc' := 88) 5 rfl dX12_items_86 rfl ?_
              refine z_iadd (pc' := 89) dX12_items_88 rfl ?_
              refine z_aload_n (pc' := 90) 0 rfl rfl dX12_items_89 rfl ?_
              refine z_iload_n (pc' := 91) 1 rfl rfl dX12_items_90 rfl ?_
              refine z_iload (pc' := 93) 5 rfl dX12_items_91 rfl ?_
              refine z_invS (as := [zI a0, zI u6]) (st := [zR 0, zI (a2 + u6), zR 14]) (C := m_X12_lowest) (pc' := 96) dX12_items_93 rfl t_7_0 k_X12_lowest rfl rfl (Nat.le_of_ble_eq_true rfl) ?_
              obtain ⟨r49, h⟩ := h
              refine c_M_lowest r49 ?_
              show z_Wp m_X12_items _ 96 [(0, zR 0), (1, zI a0), (2, zR 14), (3, zI a2), (5, zI (zz_or u5 (zz_shl 1 u6))), (6, zI u6)] [zI (F_M_lowest (z_up wu 0 3 ((wu 0 3) + 1)) a0 u6), zR 0, zI (a2 + u6), zR 14] (z_up wu 0 3 ((wu 0 3) + 1)) _
              refine z_iload_n (pc' := 97) 1 rfl rfl dX12_items_96 rfl ?_
              refine z_iload (pc' := 99) 5 rfl dX12_items_97 rfl ?_
              refine z_invS (as := [zI a0, zI u6]) (st := [zI (F_M_lowest (z_up wu 0 3 ((wu 0 3) + 1)) a0 u6), zR 0, zI (a2 + u6), zR 14]) (C := m_X12_highest) (pc' := 102) dX12_items_99 rfl t_7_3 k_X12_highest rfl rfl (Nat.le_of_ble_eq_true rfl) ?_
              obtain ⟨r50, h⟩ := h
              refine c_M_highest r50 ?_
              show z_Wp m_X12_items _ 102 [(0, zR 0), (1, zI a0), (2, zR 14), (3, zI a2), (5, zI (zz_or u5 (zz_shl 1 u6))), (6, zI u6)] [zI (F_M_highest (z_up wu 0 3 ((wu 0 3) + 1)) a0 u6), zI (F_M_lowest (z_up wu 0 3 ((wu 0 3) + 1)) a0 u6), zR 0, zI (a2 + u6), zR 14] (z_up wu 0 3 ((wu 0 3) + 1)) _
              refine z_invV (as := [zI (F_M_lowest (z_up wu 0 3 ((wu 0 3) + 1)) a0 u6), zI (F_M_highest (z_up wu 0 3 ((wu 0 3) + 1)) a0 u6)]) (st := [zI (a2 + u6), zR 14]) (C := m_X12_number) (fs := [0, 3, 0, 0, 0, 0, 4, 5, 6, 7, 8, 9, 10, 0, 0, 11, 12, 13, 14, 15, 16, 0, 0, 0, 17, 18, 19, 20, 0, 0, 0, 21, 22, 0, 0, 23, 0, 1, 24, 0, 0, 25, 26, 0, 27, 0]) (pc' := 105) dX12_items_102 rfl t_7_6 k_X12_number rfl (by decide) rfl rfl rfl rfl (Nat.le_of_ble_eq_true rfl) ?_
              obtain ⟨r51, h⟩ := h
              refine c_M_number r51 ?_
              show z_Wp m_X12_items _ 105 [(0, zR 0), (1, zI a0), (2, zR 14), (3, zI a2), (5, zI (zz_or u5 (zz_shl 1 u6))), (6, zI u6)] [zI ((F_M_number (z_up wu 0 3 ((wu 0 3) + 1)) (F_M_lowest (z_up wu 0 3 ((wu 0 3) + 1)) a0 u6) (F_M_highest (z_up wu 0 3 ((wu 0 3) + 1)) a0 u6)).1), zI (a2 + u6), zR 14] ((F_M_number (z_up wu 0 3 ((wu 0 3) + 1)) (F_M_lowest (z_up wu 0 3 ((wu 0 3) + 1)) a0 u6) (F_M_highest (z_up wu 0 3 ((wu 0 3) + 1)) a0 u6)).2) _
              obtain ⟨r52, h⟩ := h
              refine z_iast2 (w' := z_up ((F_M_number (z_up wu 0 3 ((wu 0 3) + 1)) (F_M_lowest (z_up wu 0 3 ((wu 0 3) + 1)) a0 u6) (F_M_highest (z_up wu 0 3 ((wu 0 3) + 1)) a0 u6)).2) 14 ((a2 + u6).toNat) ((F_M_number (z_up wu 0 3 ((wu 0 3) + 1)) (F_M_lowest (z_up wu 0 3 ((wu 0 3) + 1)) a0 u6) (F_M_highest (z_up wu 0 3 ((wu 0 3) + 1)) a0 u6)).1)) (pc' := 106) (by decide) rfl r52 (by decide) rfl dX12_items_105 rfl ?_
              refine z_aload_n (pc' := 107) 0 rfl rfl dX12_items_106 rfl ?_
              refine z_getI2 (v := ((F_M_number (z_up wu 0 3 ((wu 0 3) + 1)) (F_M_lowest (z_up wu 0 3 ((wu 0 3) + 1)) a0 u6) (F_M_highest (z_up wu 0 3 ((wu 0 3) + 1)) a0 u6)).2) 0 4) (pc' := 110) g_X12_109 (by decide) rfl rfl rfl dX12_items_107 rfl ?_
              refine z_iconst (pc' := 111) dX12_items_110 rfl ?_
              obtain ⟨r53, h⟩ := h
              refine z_icmp_ne 125 dX12_items_111 (by decide) (pc' := 114) rfl r53 (by decide) (fun c => ?_) (fun c => ?_)
              · have h := h.2 c
                rw [if_neg c] at k
                refine z_iconst (pc' := 126) dX12_items_125 rfl ?_
                refine z_istore (pc' := 128) (ls' := [(0, zR 0), (1, zI a0), (2, zR 14), (3, zI a2), (5, zI (zz_or u5 (zz_shl 1 u6))), (6, zI (-1))]) (by decide) rfl rfl dX12_items_126 rfl ?_
                refine z_goto 41 dX12_items_128 (by decide) ?_
                exact ih _ _ _ h k
              · have h := h.1 c
                rw [if_pos c] at k
                refine z_iload_n (pc' := 115) 1 rfl rfl dX12_items_114 rfl ?_
                refine z_aload_n (pc' := 116) 0 rfl rfl dX12_items_115 rfl ?_
                refine z_invV (as := []) (st := [zI a0]) (C := m_X12_look) (fs := [0, 3, 0, 0, 0, 0, 4, 5, 6, 7, 8, 9, 10, 0, 0, 11, 12, 13, 14, 15, 16, 0, 0, 0, 17, 18, 19, 20, 0, 0, 0, 21, 22, 0, 0, 23, 0, 1, 24, 0, 0, 25, 26, 0, 27, 0]) (pc' := 119) dX12_items_116 rfl t_6_218 k_X12_look rfl (by decide) rfl rfl rfl rfl (Nat.le_of_ble_eq_true rfl) ?_
                obtain ⟨r54, h⟩ := h
                refine c_M_look r54 ?_
                show z_Wp m_X12_items _ 119 [(0, zR 0), (1, zI a0), (2, zR 14), (3, zI a2), (5, zI (zz_or u5 (zz_shl 1 u6))), (6, zI u6)] [zI ((F_M_look (z_up ((F_M_number (z_up wu 0 3 ((wu 0 3) + 1)) (F_M_lowest (z_up wu 0 3 ((wu 0 3) + 1)) a0 u6) (F_M_highest (z_up wu 0 3 ((wu 0 3) + 1)) a0 u6)).2) 14 ((a2 + u6).toNat) ((F_M_number (z_up wu 0 3 ((wu 0 3) + 1)) (F_M_lowest (z_up wu 0 3 ((wu 0 3) + 1)) a0 u6) (F_M_highest (z_up wu 0 3 ((wu 0 3) + 1)) a0 u6)).1))).1), zI a0] ((F_M_look (z_up ((F_M_number (z_up wu 0 3 ((wu 0 3) + 1)) (F_M_lowest (z_up wu 0 3 ((wu 0 3) + 1)) a0 u6) (F_M_highest (z_up wu 0 3 ((wu 0 3) + 1)) a0 u6)).2) 14 ((a2 + u6).toNat) ((F_M_number (z_up wu 0 3 ((wu 0 3) + 1)) (F_M_lowest (z_up wu 0 3 ((wu 0 3) + 1)) a0 u6) (F_M_highest (z_up wu 0 3 ((wu 0 3) + 1)) a0 u6)).1))).2) _
                refine z_invS (as := [zI a0, zI ((F_M_look (z_up ((F_M_number (z_up wu 0 3 ((wu 0 3) + 1)) (F_M_lowest (z_up wu 0 3 ((wu 0 3) + 1)) a0 u6) (F_M_highest (z_up wu 0 3 ((wu 0 3) + 1)) a0 u6)).2) 14 ((a2 + u6).toNat) ((F_M_number (z_up wu 0 3 ((wu 0 3) + 1)) (F_M_lowest (z_up wu 0 3 ((wu 0 3) + 1)) a0 u6) (F_M_highest (z_up wu 0 3 ((wu 0 3) + 1)) a0 u6)).1))).1)]) (st := []) (C := m_X12_itemOf) (pc' := 122) dX12_items_119 rfl t_6_234 k_X12_itemOf rfl rfl (Nat.le_of_ble_eq_true rfl) ?_
                obtain ⟨r55, h⟩ := h
                refine c_M_itemOf r55 ?_
                show z_Wp m_X12_items _ 122 [(0, zR 0), (1, zI a0), (2, zR 14), (3, zI a2), (5, zI (zz_or u5 (zz_shl 1 u6))), (6, zI u6)] [zI (F_M_itemOf ((F_M_look (z_up ((F_M_number (z_up wu 0 3 ((wu 0 3) + 1)) (F_M_lowest (z_up wu 0 3 ((wu 0 3) + 1)) a0 u6) (F_M_highest (z_up wu 0 3 ((wu 0 3) + 1)) a0 u6)).2) 14 ((a2 + u6).toNat) ((F_M_number (z_up wu 0 3 ((wu 0 3) + 1)) (F_M_lowest (z_up wu 0 3 ((wu 0 3) + 1)) a0 u6) (F_M_highest (z_up wu 0 3 ((wu 0 3) + 1)) a0 u6)).1))).2) a0 ((F_M_look (z_up ((F_M_number (z_up wu 0 3 ((wu 0 3) + 1)) (F_M_lowest (z_up wu 0 3 ((wu 0 3) + 1)) a0 u6) (F_M_highest (z_up wu 0 3 ((wu 0 3) + 1)) a0 u6)).2) 14 ((a2 + u6).toNat) ((F_M_number (z_up wu 0 3 ((wu 0 3) + 1)) (F_M_lowest (z_up wu 0 3 ((wu 0 3) + 1)) a0 u6) (F_M_highest (z_up wu 0 3 ((wu 0 3) + 1)) a0 u6)).1))).1))] ((F_M_look (z_up ((F_M_number (z_up wu 0 3 ((wu 0 3) + 1)) (F_M_lowest (z_up wu 0 3 ((wu 0 3) + 1)) a0 u6) (F_M_highest (z_up wu 0 3 ((wu 0 3) + 1)) a0 u6)).2) 14 ((a2 + u6).toNat) ((F_M_number (z_up wu 0 3 ((wu 0 3) + 1)) (F_M_lowest (z_up wu 0 3 ((wu 0 3) + 1)) a0 u6) (F_M_highest (z_up wu 0 3 ((wu 0 3) + 1)) a0 u6)).1))).2) _
                refine z_goto 126 dX12_items_122 (by decide) ?_
                refine z_istore (pc' := 128) (ls' := [(0, zR 0), (1, zI a0), (2, zR 14), (3, zI a2), (5, zI (zz_or u5 (zz_shl 1 u6))), (6, zI (F_M_itemOf ((F_M_look (z_up ((F_M_number (z_up wu 0 3 ((wu 0 3) + 1)) (F_M_lowest (z_up wu 0 3 ((wu 0 3) + 1)) a0 u6) (F_M_highest (z_up wu 0 3 ((wu 0 3) + 1)) a0 u6)).2) 14 ((a2 + u6).toNat) ((F_M_number (z_up wu 0 3 ((wu 0 3) + 1)) (F_M_lowest (z_up wu 0 3 ((wu 0 3) + 1)) a0 u6) (F_M_highest (z_up wu 0 3 ((wu 0 3) + 1)) a0 u6)).1))).2) a0 ((F_M_look (z_up ((F_M_number (z_up wu 0 3 ((wu 0 3) + 1)) (F_M_lowest (z_up wu 0 3 ((wu 0 3) + 1)) a0 u6) (F_M_highest (z_up wu 0 3 ((wu 0 3) + 1)) a0 u6)).2) 14 ((a2 + u6).toNat) ((F_M_number (z_up wu 0 3 ((wu 0 3) + 1)) (F_M_lowest (z_up wu 0 3 ((wu 0 3) + 1)) a0 u6) (F_M_highest (z_up wu 0 3 ((wu 0 3) + 1)) a0 u6)).1))).1)))]) (by decide) rfl rfl dX12_items_126 rfl ?_
                refine z_goto 41 dX12_items_128 (by decide) ?_
                exact ih _ _ _ h k
    exact hl 10 _ _ _ h k
  · intro i27 hi ih
    have h := h.1 i27 hi
    have ih : z_Wp m_X12_items (d + 3) 3 [(0, zR 0), (1, zI a0), (2, zR 14), (3, zI a2), (4, zI a3), (5, zI ((i27 + 1 : Nat) : Int))] [] (z_up (A_M_items_14_3 w a0 a2 a3 i27) 14 ((a2 + (i27 : Int)).toNat) (F_M_usual (A_M_items_14_3 w a0 a2 a3 i27) a0 (i27 : Int))) Q := ih
    refine z_iload (pc' := 5) 5 rfl dX12_items_3 rfl ?_
    refine z_iload (pc' := 7) 4 rfl dX12_items_5 rfl ?_
    obtain ⟨r28, h⟩ := h
    obtain ⟨r29, h⟩ := h
    refine z_icmp_ge 28 dX12_items_7 (by decide) (pc' := 10) rfl r28 r29 (fun c => absurd c (by omega)) (fun _ => ?_)
    refine z_aload_n (pc' := 11) 2 rfl rfl dX12_items_10 rfl ?_
    refine z_iload_n (pc' := 12) 3 rfl rfl dX12_items_11 rfl ?_
    refine z_iload (pc' := 14) 5 rfl dX12_items_12 rfl ?_
    refine z_iadd (pc' := 15) dX12_items_14 rfl ?_
    refine z_iload_n (pc' := 16) 1 rfl rfl dX12_items_15 rfl ?_
    refine z_iload (pc' := 18) 5 rfl dX12_items_16 rfl ?_
    refine z_invS (as := [zI a0, zI (i27 : Int)]) (st := [zI (a2 + (i27 : Int)), zR 14]) (C := m_X12_usual) (pc' := 21) dX12_items_18 rfl t_6_215 k_X12_usual rfl rfl (Nat.le_of_ble_eq_true rfl) ?_
    obtain ⟨r30, h⟩ := h
    refine c_M_usual r30 ?_
    show z_Wp m_X12_items _ 21 [(0, zR 0), (1, zI a0), (2, zR 14), (3, zI a2), (4, zI a3), (5, zI (i27 : Int))] [zI (F_M_usual (A_M_items_14_3 w a0 a2 a3 i27) a0 (i27 : Int)), zI (a2 + (i27 : Int)), zR 14] (A_M_items_14_3 w a0 a2 a3 i27) _
    have r31 := h
    refine z_iast2 (w' := z_up (A_M_items_14_3 w a0 a2 a3 i27) 14 ((a2 + (i27 : Int)).toNat) (F_M_usual (A_M_items_14_3 w a0 a2 a3 i27) a0 (i27 : Int))) (pc' := 22) (by decide) rfl r31 (by decide) rfl dX12_items_21 rfl ?_
    refine z_iinc (pc' := 25) (ls' := [(0, zR 0), (1, zI a0), (2, zR 14), (3, zI a2), (4, zI a3), (5, zI ((i27 : Int) + 1))]) 5 rfl (by decide) rfl rfl dX12_items_22 rfl ?_
    refine z_goto 3 dX12_items_25 (by decide) ?_
    exact ih
def P_M_clauseText (w : z_Wd) (a0 : Int) : Prop := (-2147483648 ≤ a0 ∧ a0 < 2147483648) ∧ ((a0 = 110 → P_M_items_13 (z_up w 0 3 ((w 0 3) + 1)) a0 (3 * (w 0 22)) 3) ∧ (¬ a0 = 110 → (a0 = 115 → P_M_items_11 (z_up w 0 3 ((w 0 3) + 1)) a0 0 2) ∧ (¬ a0 = 115 → (a0 = 119 → P_M_items_12 (z_up w 0 3 ((w 0 3) + 1)) a0 (2 * (w 0 21)) 2) ∧ (¬ a0 = 119 → P_M_items_14 (z_up w 0 3 ((w 0 3) + 1)) a0 (2 * (w 0 23)) 2))))
def F_M_clauseText (w : z_Wd) (a0 : Int) : z_Wd := if a0 = 110 then z_up (F_M_items_13 (z_up w 0 3 ((w 0 3) + 1)) a0 (3 * (w 0 22)) 3) 0 22 (((F_M_items_13 (z_up w 0 3 ((w 0 3) + 1)) a0 (3 * (w 0 22)) 3) 0 22) + 1) else if a0 = 115 then F_M_items_11 (z_up w 0 3 ((w 0 3) + 1)) a0 0 2 else if a0 = 119 then z_up (F_M_items_12 (z_up w 0 3 ((w 0 3) + 1)) a0 (2 * (w 0 21)) 2) 0 21 (((F_M_items_12 (z_up w 0 3 ((w 0 3) + 1)) a0 (2 * (w 0 21)) 2) 0 21) + 1) else z_up (F_M_items_14 (z_up w 0 3 ((w 0 3) + 1)) a0 (2 * (w 0 23)) 2) 0 23 (((F_M_items_14 (z_up w 0 3 ((w 0 3) + 1)) a0 (2 * (w 0 23)) 2) 0 23) + 1)
set_option maxRecDepth 4000 in
theorem c_M_clauseText {d : Nat} {w : z_Wd} {a0 : Int} {Q : Option z_V → z_Wd → Prop} (h : P_M_clauseText w a0) (k : Q none (F_M_clauseText w a0)) : z_Wc (d + 4) m_X12_clauseText [zR 0, zI a0] w Q := by
  unfold P_M_clauseText at h
  unfold F_M_clauseText at k
  refine z_enter rfl (Nat.le_of_ble_eq_true rfl) ?_
  show z_Wp m_X12_clauseText _ 0 [(0, zR 0), (1, zI a0)] [] w _
  refine z_aload_n (pc' := 1) 0 rfl rfl dX12_clauseText_0 rfl ?_
  refine z_dup (pc' := 2) rfl dX12_clauseText_1 rfl ?_
  refine z_getI2 (v := w 0 3) (pc' := 5) g_X12_102 (by decide) rfl rfl rfl dX12_clauseText_2 rfl ?_
  refine z_iconst (pc' := 6) dX12_clauseText_5 rfl ?_
  refine z_iadd (pc' := 7) dX12_clauseText_6 rfl ?_
  refine z_putI (pc' := 10) p_X12_102 (by decide) rfl rfl rfl rfl dX12_clauseText_7 rfl ?_
  refine z_iload_n (pc' := 11) 1 rfl rfl dX12_clauseText_10 rfl ?_
  obtain ⟨r1, h⟩ := h
  refine z_lookup dX12_clauseText_11 (by decide) r1 ⟨fun c0 => ⟨87, by decide, ?_⟩, fun c0 => ⟨fun c1 => ⟨44, by decide, ?_⟩, fun c1 => ⟨fun c2 => ⟨58, by decide, ?_⟩, fun c2 => ⟨116, by decide, ?_⟩⟩⟩⟩
  · skip
    have c0 : a0 = 110 := c0
    have h := h.1 c0
    rw [if_pos c0] at k
    refine z_aload_n (pc' := 88) 0 rfl rfl dX12_clauseText_87 rfl ?_
    refine z_iload_n (pc' := 89) 1 rfl rfl dX12_clauseText_88 rfl ?_
    refine z_aload_n (pc' := 90) 0 rfl rfl dX12_clauseText_89 rfl ?_
    refine z_getR (t := 13) (pc' := 93) g_X12_46 (by decide) rfl rfl dX12_clauseText_90 rfl ?_
    refine z_iconst (pc' := 94) dX12_clauseText_93 rfl ?_
    refine z_aload_n (pc' := 95) 0 rfl rfl dX12_clauseText_94 rfl ?_
    refine z_getI2 (v := w 0 22) (pc' := 98) g_X12_238 (by decide) rfl rfl rfl dX12_clauseText_95 rfl ?_
    refine z_imul (pc' := 99) dX12_clauseText_98 rfl ?_
    refine z_iconst (pc' := 100) dX12_clauseText_99 rfl ?_
    refine z_invV (as := [zI a0, zR 13, zI (3 * (w 0 22)), zI 3]) (st := []) (C := m_X12_items) (fs := [0, 3, 0, 0, 0, 0, 4, 5, 6, 7, 8, 9, 10, 0, 0, 11, 12, 13, 14, 15, 16, 0, 0, 0, 17, 18, 19, 20, 0, 0, 0, 21, 22, 0, 0, 23, 0, 1, 24, 0, 0, 25, 26, 0, 27, 0]) (pc' := 103) dX12_clauseText_100 rfl t_6_230 k_X12_items rfl (by decide) rfl rfl rfl rfl (Nat.le_of_ble_eq_true rfl) ?_
    have r2 := h
    refine c_M_items_13 r2 ?_
    show z_Wp m_X12_clauseText _ 103 [(0, zR 0), (1, zI a0)] [] (F_M_items_13 (z_up w 0 3 ((w 0 3) + 1)) a0 (3 * (w 0 22)) 3) _
    refine z_aload_n (pc' := 104) 0 rfl rfl dX12_clauseText_103 rfl ?_
    refine z_dup (pc' := 105) rfl dX12_clauseText_104 rfl ?_
    refine z_getI2 (v := (F_M_items_13 (z_up w 0 3 ((w 0 3) + 1)) a0 (3 * (w 0 22)) 3) 0 22) (pc' := 108) g_X12_238 (by decide) rfl rfl rfl dX12_clauseText_105 rfl ?_
    refine z_iconst (pc' := 109) dX12_clauseText_108 rfl ?_
    refine z_iadd (pc' := 110) dX12_clauseText_109 rfl ?_
    refine z_putI (pc' := 113) p_X12_238 (by decide) rfl rfl rfl rfl dX12_clauseText_110 rfl ?_
    refine z_goto 142 dX12_clauseText_113 (by decide) ?_
    refine z_vret rfl dX12_clauseText_142 ?_
    exact k
  · skip
    have c0 : ¬ a0 = 110 := c0
    have h := h.2 c0
    rw [if_neg c0] at k
    have c1 : a0 = 115 := c1
    have h := h.1 c1
    rw [if_pos c1] at k
    refine z_aload_n (pc' := 45) 0 rfl rfl dX12_clauseText_44 rfl ?_
    refine z_iload_n (pc' := 46) 1 rfl rfl dX12_clauseText_45 rfl ?_
    refine z_aload_n (pc' := 47) 0 rfl rfl dX12_clauseText_46 rfl ?_
    refine z_getR (t := 11) (pc' := 50) g_X12_40 (by decide) rfl rfl dX12_clauseText_47 rfl ?_
    refine z_iconst (pc' := 51) dX12_clauseText_50 rfl ?_
    refine z_iconst (pc' := 52) dX12_clauseText_51 rfl ?_
    refine z_invV (as := [zI a0, zR 11, zI 0, zI 2]) (st := []) (C := m_X12_items) (fs := [0, 3, 0, 0, 0, 0, 4, 5, 6, 7, 8, 9, 10, 0, 0, 11, 12, 13, 14, 15, 16, 0, 0, 0, 17, 18, 19, 20, 0, 0, 0, 21, 22, 0, 0, 23, 0, 1, 24, 0, 0, 25, 26, 0, 27, 0]) (pc' := 55) dX12_clauseText_52 rfl t_6_230 k_X12_items rfl (by decide) rfl rfl rfl rfl (Nat.le_of_ble_eq_true rfl) ?_
    have r3 := h
    refine c_M_items_11 r3 ?_
    show z_Wp m_X12_clauseText _ 55 [(0, zR 0), (1, zI a0)] [] (F_M_items_11 (z_up w 0 3 ((w 0 3) + 1)) a0 0 2) _
    refine z_goto 142 dX12_clauseText_55 (by decide) ?_
    refine z_vret rfl dX12_clauseText_142 ?_
    exact k
  · skip
    have c0 : ¬ a0 = 110 := c0
    have h := h.2 c0
    rw [if_neg c0] at k
    have c1 : ¬ a0 = 115 := c1
    have h := h.2 c1
    rw [if_neg c1] at k
    have c2 : a0 = 119 := c2
    have h := h.1 c2
    rw [if_pos c2] at k
    refine z_aload_n (pc' := 59) 0 rfl rfl dX12_clauseText_58 rfl ?_
    refine z_iload_n (pc' := 60) 1 rfl rfl dX12_clauseText_59 rfl ?_
    refine z_aload_n (pc' := 61) 0 rfl rfl dX12_clauseText_60 rfl ?_
    refine z_getR (t := 12) (pc' := 64) g_X12_43 (by decide) rfl rfl dX12_clauseText_61 rfl ?_
    refine z_iconst (pc' := 65) dX12_clauseText_64 rfl ?_
    refine z_aload_n (pc' := 66) 0 rfl rfl dX12_clauseText_65 rfl ?_
    refine z_getI2 (v := w 0 21) (pc' := 69) g_X12_235 (by decide) rfl rfl rfl dX12_clauseText_66 rfl ?_
    refine z_imul (pc' := 70) dX12_clauseText_69 rfl ?_
    refine z_iconst (pc' := 71) dX12_clauseText_70 rfl ?_
    refine z_invV (as := [zI a0, zR 12, zI (2 * (w 0 21)), zI 2]) (st := []) (C := m_X12_items) (fs := [0, 3, 0, 0, 0, 0, 4, 5, 6, 7, 8, 9, 10, 0, 0, 11, 12, 13, 14, 15, 16, 0, 0, 0, 17, 18, 19, 20, 0, 0, 0, 21, 22, 0, 0, 23, 0, 1, 24, 0, 0, 25, 26, 0, 27, 0]) (pc' := 74) dX12_clauseText_71 rfl t_6_230 k_X12_items rfl (by decide) rfl rfl rfl rfl (Nat.le_of_ble_eq_true rfl) ?_
    have r4 := h
    refine c_M_items_12 r4 ?_
    show z_Wp m_X12_clauseText _ 74 [(0, zR 0), (1, zI a0)] [] (F_M_items_12 (z_up w 0 3 ((w 0 3) + 1)) a0 (2 * (w 0 21)) 2) _
    refine z_aload_n (pc' := 75) 0 rfl rfl dX12_clauseText_74 rfl ?_
    refine z_dup (pc' := 76) rfl dX12_clauseText_75 rfl ?_
    refine z_getI2 (v := (F_M_items_12 (z_up w 0 3 ((w 0 3) + 1)) a0 (2 * (w 0 21)) 2) 0 21) (pc' := 79) g_X12_235 (by decide) rfl rfl rfl dX12_clauseText_76 rfl ?_
    refine z_iconst (pc' := 80) dX12_clauseText_79 rfl ?_
    refine z_iadd (pc' := 81) dX12_clauseText_80 rfl ?_
    refine z_putI (pc' := 84) p_X12_235 (by decide) rfl rfl rfl rfl dX12_clauseText_81 rfl ?_
    refine z_goto 142 dX12_clauseText_84 (by decide) ?_
    refine z_vret rfl dX12_clauseText_142 ?_
    exact k
  · skip
    have c0 : ¬ a0 = 110 := c0
    have h := h.2 c0
    rw [if_neg c0] at k
    have c1 : ¬ a0 = 115 := c1
    have h := h.2 c1
    rw [if_neg c1] at k
    have c2 : ¬ a0 = 119 := c2
    have h := h.2 c2
    rw [if_neg c2] at k
    refine z_aload_n (pc' := 117) 0 rfl rfl dX12_clauseText_116 rfl ?_
    refine z_iload_n (pc' := 118) 1 rfl rfl dX12_clauseText_117 rfl ?_
    refine z_aload_n (pc' := 119) 0 rfl rfl dX12_clauseText_118 rfl ?_
    refine z_getR (t := 14) (pc' := 122) g_X12_49 (by decide) rfl rfl dX12_clauseText_119 rfl ?_
    refine z_iconst (pc' := 123) dX12_clauseText_122 rfl ?_
    refine z_aload_n (pc' := 124) 0 rfl rfl dX12_clauseText_123 rfl ?_
    refine z_getI2 (v := w 0 23) (pc' := 127) g_X12_241 (by decide) rfl rfl rfl dX12_clauseText_124 rfl ?_
    refine z_imul (pc' := 128) dX12_clauseText_127 rfl ?_
    refine z_iconst (pc' := 129) dX12_clauseText_128 rfl ?_
    refine z_invV (as := [zI a0, zR 14, zI (2 * (w 0 23)), zI 2]) (st := []) (C := m_X12_items) (fs := [0, 3, 0, 0, 0, 0, 4, 5, 6, 7, 8, 9, 10, 0, 0, 11, 12, 13, 14, 15, 16, 0, 0, 0, 17, 18, 19, 20, 0, 0, 0, 21, 22, 0, 0, 23, 0, 1, 24, 0, 0, 25, 26, 0, 27, 0]) (pc' := 132) dX12_clauseText_129 rfl t_6_230 k_X12_items rfl (by decide) rfl rfl rfl rfl (Nat.le_of_ble_eq_true rfl) ?_
    have r5 := h
    refine c_M_items_14 r5 ?_
    show z_Wp m_X12_clauseText _ 132 [(0, zR 0), (1, zI a0)] [] (F_M_items_14 (z_up w 0 3 ((w 0 3) + 1)) a0 (2 * (w 0 23)) 2) _
    refine z_aload_n (pc' := 133) 0 rfl rfl dX12_clauseText_132 rfl ?_
    refine z_dup (pc' := 134) rfl dX12_clauseText_133 rfl ?_
    refine z_getI2 (v := (F_M_items_14 (z_up w 0 3 ((w 0 3) + 1)) a0 (2 * (w 0 23)) 2) 0 23) (pc' := 137) g_X12_241 (by decide) rfl rfl rfl dX12_clauseText_134 rfl ?_
    refine z_iconst (pc' := 138) dX12_clauseText_137 rfl ?_
    refine z_iadd (pc' := 139) dX12_clauseText_138 rfl ?_
    refine z_putI (pc' := 142) p_X12_241 (by decide) rfl rfl rfl rfl dX12_clauseText_139 rfl ?_
    refine z_vret rfl dX12_clauseText_142 ?_
    exact k
