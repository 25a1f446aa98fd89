def A_M_years_49 (w : z_Wd) (a0 : Int) : Nat → z_Wd
  | 0 => (F_M_isRefused w (-1)).2
  | i10 + 1 => F_M_passYear (F_M_keep (A_M_years_49 w a0 i10))
def A_M_years_49x2 (w : z_Wd) (a0 : Int) : Nat → z_Wd
  | 0 => (F_M_isRefused w 4).2
  | i23 + 1 => F_M_passYear (F_M_keep (A_M_years_49x2 w a0 i23))
def A_M_years_49x3 (w : z_Wd) (a0 : Int) : Nat → z_Wd
  | 0 => (F_M_isRefused w 1).2
  | i36 + 1 => F_M_passYear (F_M_keep (A_M_years_49x3 w a0 i36))
def A_M_years_49x4 (w : z_Wd) (a0 : Int) : Nat → z_Wd
  | 0 => (F_M_isRefused w 0).2
  | i49 + 1 => F_M_passYear (F_M_keep (A_M_years_49x4 w a0 i49))
def P_M_years (w : z_Wd) (a0 : Int) : Prop := (-2147483648 ≤ w 0 29 ∧ w 0 29 < 2147483648) ∧ ((w 0 29 = 0 → (P_M_isRefused w 0) ∧ (-2147483648 ≤ (F_M_isRefused w 0).1 ∧ (F_M_isRefused w 0).1 < 2147483648) ∧ (((F_M_isRefused w 0).1 = 0 → (∀ i49 : Nat, i49 < ((a0).toNat) → (-2147483648 ≤ (i49 : Int) ∧ (i49 : Int) < 2147483648) ∧ (-2147483648 ≤ a0 ∧ a0 < 2147483648) ∧ (P_M_keep (A_M_years_49x4 w a0 i49)) ∧ (P_M_passYear (F_M_keep (A_M_years_49x4 w a0 i49)))) ∧ ((-2147483648 ≤ (((a0).toNat : Nat) : Int) ∧ (((a0).toNat : Nat) : Int) < 2147483648) ∧ (-2147483648 ≤ a0 ∧ a0 < 2147483648))) ∧ (¬ ((F_M_isRefused w 0).1 = 0) → True))) ∧ (¬ (w 0 29 = 0) → (P_M_in w a0 1 60) ∧ ((F_M_in w a0 1 60 = 0 → (P_M_isRefused w 1) ∧ (-2147483648 ≤ (F_M_isRefused w 1).1 ∧ (F_M_isRefused w 1).1 < 2147483648) ∧ (((F_M_isRefused w 1).1 = 0 → (∀ i36 : Nat, i36 < ((a0).toNat) → (-2147483648 ≤ (i36 : Int) ∧ (i36 : Int) < 2147483648) ∧ (-2147483648 ≤ a0 ∧ a0 < 2147483648) ∧ (P_M_keep (A_M_years_49x3 w a0 i36)) ∧ (P_M_passYear (F_M_keep (A_M_years_49x3 w a0 i36)))) ∧ ((-2147483648 ≤ (((a0).toNat : Nat) : Int) ∧ (((a0).toNat : Nat) : Int) < 2147483648) ∧ (-2147483648 ≤ a0 ∧ a0 < 2147483648))) ∧ (¬ ((F_M_isRefused w 1).1 = 0) → True))) ∧ (¬ (F_M_in w a0 1 60 = 0) → (P_M_areYears w a0) ∧ ((F_M_areYears w a0 = 0 → (P_M_isRefused w 4) ∧ (-2147483648 ≤ (F_M_isRefused w 4).1 ∧ (F_M_isRefused w 4).1 < 2147483648) ∧ (((F_M_isRefused w 4).1 = 0 → (∀ i23 : Nat, i23 < ((a0).toNat) → (-2147483648 ≤ (i23 : Int) ∧ (i23 : Int) < 2147483648) ∧ (-2147483648 ≤ a0 ∧ a0 < 2147483648) ∧ (P_M_keep (A_M_years_49x2 w a0 i23)) ∧ (P_M_passYear (F_M_keep (A_M_years_49x2 w a0 i23)))) ∧ ((-2147483648 ≤ (((a0).toNat : Nat) : Int) ∧ (((a0).toNat : Nat) : Int) < 2147483648) ∧ (-2147483648 ≤ a0 ∧ a0 < 2147483648))) ∧ (¬ ((F_M_isRefused w 4).1 = 0) → True))) ∧ (¬ (F_M_areYears w a0 = 0) → (P_M_isRefused w (-1)) ∧ (-2147483648 ≤ (F_M_isRefused w (-1)).1 ∧ (F_M_isRefused w (-1)).1 < 2147483648) ∧ (((F_M_isRefused w (-1)).1 = 0 → (∀ i10 : Nat, i10 < ((a0).toNat) → (-2147483648 ≤ (i10 : Int) ∧ (i10 : Int) < 2147483648) ∧ (-2147483648 ≤ a0 ∧ a0 < 2147483648) ∧ (P_M_keep (A_M_years_49 w a0 i10)) ∧ (P_M_passYear (F_M_keep (A_M_years_49 w a0 i10)))) ∧ ((-2147483648 ≤ (((a0).toNat : Nat) : Int) ∧ (((a0).toNat : Nat) : Int) < 2147483648) ∧ (-2147483648 ≤ a0 ∧ a0 < 2147483648))) ∧ (¬ ((F_M_isRefused w (-1)).1 = 0) → True))))))))
def F_M_years (w : z_Wd) (a0 : Int) : Int × z_Wd := if w 0 29 = 0 then if (F_M_isRefused w 0).1 = 0 then ((A_M_years_49x4 w a0 (a0).toNat) 19 38, A_M_years_49x4 w a0 (a0).toNat) else ((-1), (F_M_isRefused w 0).2) else if F_M_in w a0 1 60 = 0 then if (F_M_isRefused w 1).1 = 0 then ((A_M_years_49x3 w a0 (a0).toNat) 19 38, A_M_years_49x3 w a0 (a0).toNat) else ((-1), (F_M_isRefused w 1).2) else if F_M_areYears w a0 = 0 then if (F_M_isRefused w 4).1 = 0 then ((A_M_years_49x2 w a0 (a0).toNat) 19 38, A_M_years_49x2 w a0 (a0).toNat) else ((-1), (F_M_isRefused w 4).2) else if (F_M_isRefused w (-1)).1 = 0 then ((A_M_years_49 w a0 (a0).toNat) 19 38, A_M_years_49 w a0 (a0).toNat) else ((-1), (F_M_isRefused w (-1)).2)
set_option maxRecDepth 4000 in
theorem c_M_years {d : Nat} {w : z_Wd} {a0 : Int} {Q : Option z_V → z_Wd → Prop} (h : P_M_years w a0) (k : Q (some (zI (F_M_years w a0).1)) (F_M_years w a0).2) : z_Wc (d + 9) m_X12_years [zR 0, zI a0] w Q := by
  unfold P_M_years at h
  unfold F_M_years at k
  refine z_enter rfl (Nat.le_of_ble_eq_true rfl) ?_
  show z_Wp m_X12_years _ 0 [(0, zR 0), (1, zI a0)] [] w _
  refine z_aload_n (pc' := 1) 0 rfl rfl dX12_years_0 rfl ?_
  refine z_aload_n (pc' := 2) 0 rfl rfl dX12_years_1 rfl ?_
  refine z_getI2 (v := w 0 29) (pc' := 5) g_X12_260 (by decide) rfl rfl rfl dX12_years_2 rfl ?_
  obtain ⟨r1, h⟩ := h
  refine z_if_ne 12 dX12_years_5 (by decide) (pc' := 8) rfl r1 (fun c => ?_) (fun c => ?_)
  · have h := h.2 c
    rw [if_neg c] at k
    refine z_iload_n (pc' := 13) 1 rfl rfl dX12_years_12 rfl ?_
    refine z_iconst (pc' := 14) dX12_years_13 rfl ?_
    refine z_bipush (pc' := 16) (by decide) dX12_years_14 rfl ?_
    refine z_invS (as := [zI a0, zI 1, zI 60]) (st := [zR 0]) (C := m_X12_in) (pc' := 19) dX12_years_16 rfl t_7_17 k_X12_in rfl rfl (Nat.le_of_ble_eq_true rfl) ?_
    obtain ⟨r2, h⟩ := h
    refine c_M_in r2 ?_
    show z_Wp m_X12_years _ 19 [(0, zR 0), (1, zI a0)] [zI (F_M_in w a0 1 60), zR 0] w _
    refine z_if_ne 26 dX12_years_19 (by decide) (pc' := 22) rfl (z_rb b_M_in) (fun c => ?_) (fun c => ?_)
    · have h := h.2 c
      rw [if_neg c] at k
      refine z_aload_n (pc' := 27) 0 rfl rfl dX12_years_26 rfl ?_
      refine z_iload_n (pc' := 28) 1 rfl rfl dX12_years_27 rfl ?_
      refine z_invV (as := [zI a0]) (st := [zR 0]) (C := m_X12_areYears) (fs := [0, 3, 0, 0, 0, 0, 4, 5, 6, 7, 8, 9, 10, 0, 0, 11, 12, 13, 14, 15, 16, 0, 0, 0, 17, 18, 19, 20, 0, 0, 0, 21, 22, 0, 0, 23, 0, 1, 24, 0, 0, 25, 26, 0, 27, 0]) (pc' := 31) dX12_years_28 rfl t_8_39 k_X12_areYears rfl (by decide) rfl rfl rfl rfl (Nat.le_of_ble_eq_true rfl) ?_
      obtain ⟨r3, h⟩ := h
      refine c_M_areYears r3 ?_
      show z_Wp m_X12_years _ 31 [(0, zR 0), (1, zI a0)] [zI (F_M_areYears w a0), zR 0] w _
      refine z_if_ne 38 dX12_years_31 (by decide) (pc' := 34) rfl (z_rb b_M_areYears) (fun c => ?_) (fun c => ?_)
      · have h := h.2 c
        rw [if_neg c] at k
        refine z_iconst (pc' := 39) dX12_years_38 rfl ?_
        refine z_invV (as := [zI (-1)]) (st := []) (C := m_X12_isRefused) (fs := [0, 3, 0, 0, 0, 0, 4, 5, 6, 7, 8, 9, 10, 0, 0, 11, 12, 13, 14, 15, 16, 0, 0, 0, 17, 18, 19, 20, 0, 0, 0, 21, 22, 0, 0, 23, 0, 1, 24, 0, 0, 25, 26, 0, 27, 0]) (pc' := 42) dX12_years_39 rfl t_7_227 k_X12_isRefused rfl (by decide) rfl rfl rfl rfl (Nat.le_of_ble_eq_true rfl) ?_
        obtain ⟨r4, h⟩ := h
        refine c_M_isRefused r4 ?_
        show z_Wp m_X12_years _ 42 [(0, zR 0), (1, zI a0)] [zI ((F_M_isRefused w (-1)).1)] ((F_M_isRefused w (-1)).2) _
        obtain ⟨r5, h⟩ := h
        refine z_if_eq 47 dX12_years_42 (by decide) (pc' := 45) rfl r5 (fun c => ?_) (fun c => ?_)
        · have h := h.1 c
          rw [if_pos c] at k
          refine z_iconst (pc' := 48) dX12_years_47 rfl ?_
          refine z_istore_n (pc' := 49) (ls' := [(0, zR 0), (1, zI a0), (2, zI 0)]) rfl (by decide) rfl rfl dX12_years_48 rfl ?_
          refine z_upto ((a0).toNat) (fun i10 => z_Wp m_X12_years (d + 9) 49 [(0, zR 0), (1, zI a0), (2, zI (i10 : Int))] [] (A_M_years_49 w a0 i10) Q) ?_ ?_
          · skip
            have h := h.2
            refine z_iload_n (pc' := 50) 2 rfl rfl dX12_years_49 rfl ?_
            refine z_iload_n (pc' := 51) 1 rfl rfl dX12_years_50 rfl ?_
            obtain ⟨r15, h⟩ := h
            have r16 := h
            refine z_icmp_ge 68 dX12_years_51 (by decide) (pc' := 54) rfl r15 r16 (fun _ => ?_) (fun c => absurd c (by omega))
            refine z_aload_n (pc' := 69) 0 rfl rfl dX12_years_68 rfl ?_
            refine z_getR (t := 19) (pc' := 72) g_X12_64 (by decide) rfl rfl dX12_years_69 rfl ?_
            refine z_bipush (pc' := 74) (by decide) dX12_years_72 rfl ?_
            refine z_iald2 (v := (A_M_years_49 w a0 (a0).toNat) 19 38) (pc' := 75) (by decide) rfl (by decide) (by decide) rfl dX12_years_74 rfl ?_
            refine z_iret rfl dX12_years_75 ?_
            exact k
          · intro i10 hi ih
            have h := h.1 i10 hi
            have ih : z_Wp m_X12_years (d + 9) 49 [(0, zR 0), (1, zI a0), (2, zI ((i10 + 1 : Nat) : Int))] [] (F_M_passYear (F_M_keep (A_M_years_49 w a0 i10))) Q := ih
            refine z_iload_n (pc' := 50) 2 rfl rfl dX12_years_49 rfl ?_
            refine z_iload_n (pc' := 51) 1 rfl rfl dX12_years_50 rfl ?_
            obtain ⟨r11, h⟩ := h
            obtain ⟨r12, h⟩ := h
            refine z_icmp_ge 68 dX12_years_51 (by decide) (pc' := 54) rfl r11 r12 (fun c => absurd c (by omega)) (fun _ => ?_)
            refine z_aload_n (pc' := 55) 0 rfl rfl dX12_years_54 rfl ?_
            refine z_invV (as := []) (st := []) (C := m_X12_keep) (fs := [0, 3, 0, 0, 0, 0, 4, 5, 6, 7, 8, 9, 10, 0, 0, 11, 12, 13, 14, 15, 16, 0, 0, 0, 17, 18, 19, 20, 0, 0, 0, 21, 22, 0, 0, 23, 0, 1, 24, 0, 0, 25, 26, 0, 27, 0]) (pc' := 58) dX12_years_55 rfl t_7_231 k_X12_keep rfl (by decide) rfl rfl rfl rfl (Nat.le_of_ble_eq_true rfl) ?_
            obtain ⟨r13, h⟩ := h
            refine c_M_keep r13 ?_
            show z_Wp m_X12_years _ 58 [(0, zR 0), (1, zI a0), (2, zI (i10 : Int))] [] (F_M_keep (A_M_years_49 w a0 i10)) _
            refine z_aload_n (pc' := 59) 0 rfl rfl dX12_years_58 rfl ?_
            refine z_invV (as := []) (st := []) (C := m_X12_passYear) (fs := [0, 3, 0, 0, 0, 0, 4, 5, 6, 7, 8, 9, 10, 0, 0, 11, 12, 13, 14, 15, 16, 0, 0, 0, 17, 18, 19, 20, 0, 0, 0, 21, 22, 0, 0, 23, 0, 1, 24, 0, 0, 25, 26, 0, 27, 0]) (pc' := 62) dX12_years_59 rfl t_8_43 k_X12_passYear rfl (by decide) rfl rfl rfl rfl (Nat.le_of_ble_eq_true rfl) ?_
            have r14 := h
            refine c_M_passYear r14 ?_
            show z_Wp m_X12_years _ 62 [(0, zR 0), (1, zI a0), (2, zI (i10 : Int))] [] (F_M_passYear (F_M_keep (A_M_years_49 w a0 i10))) _
            refine z_iinc (pc' := 65) (ls' := [(0, zR 0), (1, zI a0), (2, zI ((i10 : Int) + 1))]) 2 rfl (by decide) rfl rfl dX12_years_62 rfl ?_
            refine z_goto 49 dX12_years_65 (by decide) ?_
            exact ih
        · have h := h.2 c
          rw [if_neg c] at k
          refine z_iconst (pc' := 46) dX12_years_45 rfl ?_
          refine z_iret rfl dX12_years_46 ?_
          exact k
      · have h := h.1 c
        rw [if_pos c] at k
        refine z_iconst (pc' := 35) dX12_years_34 rfl ?_
        refine z_goto 39 dX12_years_35 (by decide) ?_
        refine z_invV (as := [zI 4]) (st := []) (C := m_X12_isRefused) (fs := [0, 3, 0, 0, 0, 0, 4, 5, 6, 7, 8, 9, 10, 0, 0, 11, 12, 13, 14, 15, 16, 0, 0, 0, 17, 18, 19, 20, 0, 0, 0, 21, 22, 0, 0, 23, 0, 1, 24, 0, 0, 25, 26, 0, 27, 0]) (pc' := 42) dX12_years_39 rfl t_7_227 k_X12_isRefused rfl (by decide) rfl rfl rfl rfl (Nat.le_of_ble_eq_true rfl) ?_
        obtain ⟨r17, h⟩ := h
        refine c_M_isRefused r17 ?_
        show z_Wp m_X12_years _ 42 [(0, zR 0), (1, zI a0)] [zI ((F_M_isRefused w 4).1)] ((F_M_isRefused w 4).2) _
        obtain ⟨r18, h⟩ := h
        refine z_if_eq 47 dX12_years_42 (by decide) (pc' := 45) rfl r18 (fun c => ?_) (fun c => ?_)
        · have h := h.1 c
          rw [if_pos c] at k
          refine z_iconst (pc' := 48) dX12_years_47 rfl ?_
          refine z_istore_n (pc' := 49) (ls' := [(0, zR 0), (1, zI a0), (2, zI 0)]) rfl (by decide) rfl rfl dX12_years_48 rfl ?_
          refine z_upto ((a0).toNat) (fun i23 => z_Wp m_X12_years (d + 9) 49 [(0, zR 0), (1, zI a0), (2, zI (i23 : Int))] [] (A_M_years_49x2 w a0 i23) Q) ?_ ?_
          · skip
            have h := h.2
            refine z_iload_n (pc' := 50) 2 rfl rfl dX12_years_49 rfl ?_
            refine z_iload_n (pc' := 51) 1 rfl rfl dX12_years_50 rfl ?_
            obtain ⟨r28, h⟩ := h
            have r29 := h
            refine z_icmp_ge 68 dX12_years_51 (by decide) (pc' := 54) rfl r28 r29 (fun _ => ?_) (fun c => absurd c (by omega))
            refine z_aload_n (pc' := 69) 0 rfl rfl dX12_years_68 rfl ?_
            refine z_getR (t := 19) (pc' := 72) g_X12_64 (by decide) rfl rfl dX12_years_69 rfl ?_
            refine z_bipush (pc' := 74) (by decide) dX12_years_72 rfl ?_
            refine z_iald2 (v := (A_M_years_49x2 w a0 (a0).toNat) 19 38) (pc' := 75) (by decide) rfl (by decide) (by decide) rfl dX12_years_74 rfl ?_
            refine z_iret rfl dX12_years_75 ?_
            exact k
          · intro i23 hi ih
            have h := h.1 i23 hi
            have ih : z_Wp m_X12_years (d + 9) 49 [(0, zR 0), (1, zI a0), (2, zI ((i23 + 1 : Nat) : Int))] [] (F_M_passYear (F_M_keep (A_M_years_49x2 w a0 i23))) Q := ih
            refine z_iload_n (pc' := 50) 2 rfl rfl dX12_years_49 rfl ?_
            refine z_iload_n (pc' := 51) 1 rfl rfl dX12_years_50 rfl ?_
            obtain ⟨r24, h⟩ := h
            obtain ⟨r25, h⟩ := h
            refine z_icmp_ge 68 dX12_years_51 (by decide) (pc' := 54) rfl r24 r25 (fun c => absurd c (by omega)) (fun _ => ?_)
            refine z_aload_n (pc' := 55) 0 rfl rfl dX12_years_54 rfl ?_
            refine z_invV (as := []) (st := []) (C := m_X12_keep) (fs := [0, 3, 0, 0, 0, 0, 4, 5, 6, 7, 8, 9, 10, 0, 0, 11, 12, 13, 14, 15, 16, 0, 0, 0, 17, 18, 19, 20, 0, 0, 0, 21, 22, 0, 0, 23, 0, 1, 24, 0, 0, 25, 26, 0, 27, 0]) (pc' := 58) dX12_years_55 rfl t_7_231 k_X12_keep rfl (by decide) rfl rfl rfl rfl (Nat.le_of_ble_eq_true rfl) ?_
            obtain ⟨r26, h⟩ := h
            refine c_M_keep r26 ?_
            show z_Wp m_X12_years _ 58 [(0, zR 0), (1, zI a0), (2, zI (i23 : Int))] [] (F_M_keep (A_M_years_49x2 w a0 i23)) _
            refine z_aload_n (pc' := 59) 0 rfl rfl dX12_years_58 rfl ?_
            refine z_invV (as := []) (st := []) (C := m_X12_passYear) (fs := [0, 3, 0, 0, 0, 0, 4, 5, 6, 7, 8, 9, 10, 0, 0, 11, 12, 13, 14, 15, 16, 0, 0, 0, 17, 18, 19, 20, 0, 0, 0, 21, 22, 0, 0, 23, 0, 1, 24, 0, 0, 25, 26, 0, 27, 0]) (pc' := 62) dX12_years_59 rfl t_8_43 k_X12_passYear rfl (by decide) rfl rfl rfl rfl (Nat.le_of_ble_eq_true rfl) ?_
            have r27 := h
            refine c_M_passYear r27 ?_
            show z_Wp m_X12_years _ 62 [(0, zR 0), (1, zI a0), (2, zI (i23 : Int))] [] (F_M_passYear (F_M_keep (A_M_years_49x2 w a0 i23))) _
            refine z_iinc (pc' := 65) (ls' := [(0, zR 0), (1, zI a0), (2, zI ((i23 : Int) + 1))]) 2 rfl (by decide) rfl rfl dX12_years_62 rfl ?_
            refine z_goto 49 dX12_years_65 (by decide) ?_
            exact ih
        · have h := h.2 c
          rw [if_neg c] at k
          refine z_iconst (pc' := 46) dX12_years_45 rfl ?_
          refine z_iret rfl dX12_years_46 ?_
          exact k
    · have h := h.1 c
      rw [if_pos c] at k
      refine z_iconst (pc' := 23) dX12_years_22 rfl ?_
      refine z_goto 39 dX12_years_23 (by decide) ?_
      refine z_invV (as := [zI 1]) (st := []) (C := m_X12_isRefused) (fs := [0, 3, 0, 0, 0, 0, 4, 5, 6, 7, 8, 9, 10, 0, 0, 11, 12, 13, 14, 15, 16, 0, 0, 0, 17, 18, 19, 20, 0, 0, 0, 21, 22, 0, 0, 23, 0, 1, 24, 0, 0, 25, 26, 0, 27, 0]) (pc' := 42) dX12_years_39 rfl t_7_227 k_X12_isRefused rfl (by decide) rfl rfl rfl rfl (Nat.le_of_ble_eq_true rfl) ?_
      obtain ⟨r30, h⟩ := h
      refine c_M_isRefused r30 ?_
      show z_Wp m_X12_years _ 42 [(0, zR 0), (1, zI a0)] [zI ((F_M_isRefused w 1).1)] ((F_M_isRefused w 1).2) _
      obtain ⟨r31, h⟩ := h
      refine z_if_eq 47 dX12_years_42 (by decide) (pc' := 45) rfl r31 (fun c => ?_) (fun c => ?_)
      · have h := h.1 c
        rw [if_pos c] at k
        refine z_iconst (pc' := 48) dX12_years_47 rfl ?_
        refine z_istore_n (pc' := 49) (ls' := [(0, zR 0), (1, zI a0), (2, zI 0)]) rfl (by decide) rfl rfl dX12_years_48 rfl ?_
        refine z_upto ((a0).toNat) (fun i36 => z_Wp m_X12_years (d + 9) 49 [(0, zR 0), (1, zI a0), (2, zI (i36 : Int))] [] (A_M_years_49x3 w a0 i36) Q) ?_ ?_
        · skip
          have h := h.2
          refine z_iload_n (pc' := 50) 2 rfl rfl dX12_years_49 rfl ?_
          refine z_iload_n (pc' := 51) 1 rfl rfl dX12_years_50 rfl ?_
          obtain ⟨r41, h⟩ := h
          have r42 := h
          refine z_icmp_ge 68 dX12_years_51 (by decide) (pc' := 54) rfl r41 r42 (fun _ => ?_) (fun c => absurd c (by omega))
          refine z_aload_n (pc' := 69) 0 rfl rfl dX12_years_68 rfl ?_
          refine z_getR (t := 19) (pc' := 72) g_X12_64 (by decide) rfl rfl dX12_years_69 rfl ?_
          refine z_bipush (pc' := 74) (by decide) dX12_years_72 rfl ?_
          refine z_iald2 (v := (A_M_years_49x3 w a0 (a0).toNat) 19 38) (pc' := 75) (by decide) rfl (by decide) (by decide) rfl dX12_years_74 rfl ?_
          refine z_iret rfl dX12_years_75 ?_
          exact k
        · intro i36 hi ih
          have h := h.1 i36 hi
          have ih : z_Wp m_X12_years (d + 9) 49 [(0, zR 0), (1, zI a0), (2, zI ((i36 + 1 : Nat) : Int))] [] (F_M_passYear (F_M_keep (A_M_years_49x3 w a0 i36))) Q := ih
          refine z_iload_n (pc' := 50) 2 rfl rfl dX12_years_49 rfl ?_
          refine z_iload_n (pc' := 51) 1 rfl rfl dX12_years_50 rfl ?_
          obtain ⟨r37, h⟩ := h
          obtain ⟨r38, h⟩ := h
          refine z_icmp_ge 68 dX12_years_51 (by decide) (pc' := 54) rfl r37 r38 (fun c => absurd c (by omega)) (fun _ => ?_)
          refine z_aload_n (pc' := 55) 0 rfl rfl dX12_years_54 rfl ?_
          refine z_invV (as := []) (st := []) (C := m_X12_keep) (fs := [0, 3, 0, 0, 0, 0, 4, 5, 6, 7, 8, 9, 10, 0, 0, 11, 12, 13, 14, 15, 16, 0, 0, 0, 17, 18, 19, 20, 0, 0, 0, 21, 22, 0, 0, 23, 0, 1, 24, 0, 0, 25, 26, 0, 27, 0]) (pc' := 58) dX12_years_55 rfl t_7_231 k_X12_keep rfl (by decide) rfl rfl rfl rfl (Nat.le_of_ble_eq_true rfl) ?_
          obtain ⟨r39, h⟩ := h
          refine c_M_keep r39 ?_
          show z_Wp m_X12_years _ 58 [(0, zR 0), (1, zI a0), (2, zI (i36 : Int))] [] (F_M_keep (A_M_years_49x3 w a0 i36)) _
          refine z_aload_n (pc' := 59) 0 rfl rfl dX12_years_58 rfl ?_
          refine z_invV (as := []) (st := []) (C := m_X12_passYear) (fs := [0, 3, 0, 0, 0, 0, 4, 5, 6, 7, 8, 9, 10, 0, 0, 11, 12, 13, 14, 15, 16, 0, 0, 0, 17, 18, 19, 20, 0, 0, 0, 21, 22, 0, 0, 23, 0, 1, 24, 0, 0, 25, 26, 0, 27, 0]) (pc' := 62) dX12_years_59 rfl t_8_43 k_X12_passYear rfl (by decide) rfl rfl rfl rfl (Nat.le_of_ble_eq_true rfl) ?_
          have r40 := h
          refine c_M_passYear r40 ?_
          show z_Wp m_X12_years _ 62 [(0, zR 0), (1, zI a0), (2, zI (i36 : Int))] [] (F_M_passYear (F_M_keep (A_M_years_49x3 w a0 i36))) _
          refine z_iinc (pc' := 65) (ls' := [(0, zR 0), (1, zI a0), (2, zI ((i36 : Int) + 1))]) 2 rfl (by decide) rfl rfl dX12_years_62 rfl ?_
          refine z_goto 49 dX12_years_65 (by decide) ?_
          exact ih
      · have h := h.2 c
        rw [if_neg c] at k
        refine z_iconst (pc' := 46) dX12_years_45 rfl ?_
        refine z_iret rfl dX12_years_46 ?_
        exact k
  · have h := h.1 c
    rw [if_pos c] at k
    refine z_iconst (pc' := 9) dX12_years_8 rfl ?_
    refine z_goto 39 dX12_years_9 (by decide) ?_
    refine z_invV (as := [zI 0]) (st := []) (C := m_X12_isRefused) (fs := [0, 3, 0, 0, 0, 0, 4, 5, 6, 7, 8, 9, 10, 0, 0, 11, 12, 13, 14, 15, 16, 0, 0, 0, 17, 18, 19, 20, 0, 0, 0, 21, 22, 0, 0, 23, 0, 1, 24, 0, 0, 25, 26, 0, 27, 0]) (pc' := 42) dX12_years_39 rfl t_7_227 k_X12_isRefused rfl (by decide) rfl rfl rfl rfl (Nat.le_of_ble_eq_true rfl) ?_
    obtain ⟨r43, h⟩ := h
    refine c_M_isRefused r43 ?_
    show z_Wp m_X12_years _ 42 [(0, zR 0), (1, zI a0)] [zI ((F_M_isRefused w 0).1)] ((F_M_isRefused w 0).2) _
    obtain ⟨r44, h⟩ := h
    refine z_if_eq 47 dX12_years_42 (by decide) (pc' := 45) rfl r44 (fun c => ?_) (fun c => ?_)
    · have h := h.1 c
      rw [if_pos c] at k
      refine z_iconst (pc' := 48) dX12_years_47 rfl ?_
      refine z_istore_n (pc' := 49) (ls' := [(0, zR 0), (1, zI a0), (2, zI 0)]) rfl (by decide) rfl rfl dX12_years_48 rfl ?_
      refine z_upto ((a0).toNat) (fun i49 => z_Wp m_X12_years (d + 9) 49 [(0, zR 0), (1, zI a0), (2, zI (i49 : Int))] [] (A_M_years_49x4 w a0 i49) Q) ?_ ?_
      · skip
        have h := h.2
        refine z_iload_n (pc' := 50) 2 rfl rfl dX12_years_49 rfl ?_
        refine z_iload_n (pc' := 51) 1 rfl rfl dX12_years_50 rfl ?_
        obtain ⟨r54, h⟩ := h
        have r55 := h
        refine z_icmp_ge 68 dX12_years_51 (by decide) (pc' := 54) rfl r54 r55 (fun _ => ?_) (fun c => absurd c (by omega))
        refine z_aload_n (pc' := 69) 0 rfl rfl dX12_years_68 rfl ?_
        refine z_getR (t := 19) (pc' := 72) g_X12_64 (by decide) rfl rfl dX12_years_69 rfl ?_
        refine z_bipush (pc' := 74) (by decide) dX12_years_72 rfl ?_
        refine z_iald2 (v := (A_M_years_49x4 w a0 (a0).toNat) 19 38) (pc' := 75) (by decide) rfl (by decide) (by decide) rfl dX12_years_74 rfl ?_
        refine z_iret rfl dX12_years_75 ?_
        exact k
      · intro i49 hi ih
        have h := h.1 i49 hi
        have ih : z_Wp m_X12_years (d + 9) 49 [(0, zR 0), (1, zI a0), (2, zI ((i49 + 1 : Nat) : Int))] [] (F_M_passYear (F_M_keep (A_M_years_49x4 w a0 i49))) Q := ih
        refine z_iload_n (pc' := 50) 2 rfl rfl dX12_years_49 rfl ?_
        refine z_iload_n (pc' := 51) 1 rfl rfl dX12_years_50 rfl ?_
        obtain ⟨r50, h⟩ := h
        obtain ⟨r51, h⟩ := h
        refine z_icmp_ge 68 dX12_years_51 (by decide) (pc' := 54) rfl r50 r51 (fun c => absurd c (by omega)) (fun _ => ?_)
        refine z_aload_n (pc' := 55) 0 rfl rfl dX12_years_54 rfl ?_
        refine z_invV (as := []) (st := []) (C := m_X12_keep) (fs := [0, 3, 0, 0, 0, 0, 4, 5, 6, 7, 8, 9, 10, 0, 0, 11, 12, 13, 14, 15, 16, 0, 0, 0, 17, 18, 19, 20, 0, 0, 0, 21, 22, 0, 0, 23, 0, 1, 24, 0, 0, 25, 26, 0, 27, 0]) (pc' := 58) dX12_years_55 rfl t_7_231 k_X12_keep rfl (by decide) rfl rfl rfl rfl (Nat.le_of_ble_eq_true rfl) ?_
        obtain ⟨r52, h⟩ := h
        refine c_M_keep r52 ?_
        show z_Wp m_X12_years _ 58 [(0, zR 0), (1, zI a0), (2, zI (i49 : Int))] [] (F_M_keep (A_M_years_49x4 w a0 i49)) _
        refine z_aload_n (pc' := 59) 0 rfl rfl dX12_years_58 rfl ?_
        refine z_invV (as := []) (st := []) (C := m_X12_passYear) (fs := [0, 3, 0, 0, 0, 0, 4, 5, 6, 7, 8, 9, 10, 0, 0, 11, 12, 13, 14, 15, 16, 0, 0, 0, 17, 18, 19, 20, 0, 0, 0, 21, 22, 0, 0, 23, 0, 1, 24, 0, 0, 25, 26, 0, 27, 0]) (pc' := 62) dX12_years_59 rfl t_8_43 k_X12_passYear rfl (by decide) rfl rfl rfl rfl (Nat.le_of_ble_eq_true rfl) ?_
        have r53 := h
        refine c_M_passYear r53 ?_
        show z_Wp m_X12_years _ 62 [(0, zR 0), (1, zI a0), (2, zI (i49 : Int))] [] (F_M_passYear (F_M_keep (A_M_years_49x4 w a0 i49))) _
        refine z_iinc (pc' := 65) (ls' := [(0, zR 0), (1, zI a0), (2, zI ((i49 : Int) + 1))]) 2 rfl (by decide) rfl rfl dX12_years_62 rfl ?_
        refine z_goto 49 dX12_years_65 (by decide) ?_
        exact ih
    · have h := h.2 c
      rw [if_neg c] at k
      refine z_iconst (pc' := 46) dX12_years_45 rfl ?_
      refine z_iret rfl dX12_years_46 ?_
      exact k
def A_M_decades_25 (w : z_Wd) (a0 : Int) (a1 : Int) : Nat → z_Wd
  | 0 => z_up w 0 37 a1
  | i8 + 1 => F_M_passYear (F_M_drawYear (F_M_keep (A_M_decades_25 w a0 a1 i8)))
def P_M_decades (w : z_Wd) (a0 : Int) (a1 : Int) : Prop := (-2147483648 ≤ w 0 29 ∧ w 0 29 < 2147483648) ∧ ((w 0 29 = 0 → True) ∧ (¬ (w 0 29 = 0) → (P_M_areYears w a0) ∧ ((F_M_areYears w a0 = 0 → True) ∧ (¬ (F_M_areYears w a0 = 0) → (∀ i8 : Nat, i8 < ((a0).toNat) → (-2147483648 ≤ (i8 : Int) ∧ (i8 : Int) < 2147483648) ∧ (-2147483648 ≤ a0 ∧ a0 < 2147483648) ∧ (P_M_keep (A_M_decades_25 w a0 a1 i8)) ∧ (P_M_drawYear (F_M_keep (A_M_decades_25 w a0 a1 i8))) ∧ (P_M_passYear (F_M_drawYear (F_M_keep (A_M_decades_25 w a0 a1 i8))))) ∧ ((-2147483648 ≤ (((a0).toNat : Nat) : Int) ∧ (((a0).toNat : Nat) : Int) < 2147483648) ∧ (-2147483648 ≤ a0 ∧ a0 < 2147483648))))))
def F_M_decades (w : z_Wd) (a0 : Int) (a1 : Int) : Int × z_Wd := if w 0 29 = 0 then ((-1), w) else if F_M_areYears w a0 = 0 then ((-1), w) else ((A_M_decades_25 w a0 a1 (a0).toNat) 19 38, A_M_decades_25 w a0 a1 (a0).toNat)
set_option maxRecDepth 4000 in
theorem c_M_decades {d : Nat} {w : z_Wd} {a0 a1 : Int} {Q : Option z_V → z_Wd → Prop} (h : P_M_decades w a0 a1) (k : Q (some (zI (F_M_decades w a0 a1).1)) (F_M_decades w a0 a1).2) : z_Wc (d + 9) m_X12_decades [zR 0, zI a0, zJ a1] w Q := by
  unfold P_M_decades at h
  unfold F_M_decades at k
  refine z_enter rfl (Nat.le_of_ble_eq_true rfl) ?_
  show z_Wp m_X12_decades _ 0 [(0, zR 0), (1, zI a0), (2, zJ a1)] [] w _
  refine z_aload_n (pc' := 1) 0 rfl rfl dX12_decades_0 rfl ?_
  refine z_getI2 (v := w 0 29) (pc' := 4) g_X12_260 (by decide) rfl rfl rfl dX12_decades_1 rfl ?_
  obtain ⟨r1, h⟩ := h
  refine z_if_eq 15 dX12_decades_4 (by decide) (pc' := 7) rfl r1 (fun c => ?_) (fun c => ?_)
  · have h := h.1 c
    rw [if_pos c] at k
    refine z_iconst (pc' := 16) dX12_decades_15 rfl ?_
    refine z_iret rfl dX12_decades_16 ?_
    exact k
  · have h := h.2 c
    rw [if_neg c] at k
    refine z_aload_n (pc' := 8) 0 rfl rfl dX12_decades_7 rfl ?_
    refine z_iload_n (pc' := 9) 1 rfl rfl dX12_decades_8 rfl ?_
    refine z_invV (as := [zI a0]) (st := []) (C := m_X12_areYears) (fs := [0, 3, 0, 0, 0, 0, 4, 5, 6, 7, 8, 9, 10, 0, 0, 11, 12, 13, 14, 15, 16, 0, 0, 0, 17, 18, 19, 20, 0, 0, 0, 21, 22, 0, 0, 23, 0, 1, 24, 0, 0, 25, 26, 0, 27, 0]) (pc' := 12) dX12_decades_9 rfl t_8_39 k_X12_areYears rfl (by decide) rfl rfl rfl rfl (Nat.le_of_ble_eq_true rfl) ?_
    obtain ⟨r2, h⟩ := h
    refine c_M_areYears r2 ?_
    show z_Wp m_X12_decades _ 12 [(0, zR 0), (1, zI a0), (2, zJ a1)] [zI (F_M_areYears w a0)] w _
    refine z_if_ne 17 dX12_decades_12 (by decide) (pc' := 15) rfl (z_rb b_M_areYears) (fun c => ?_) (fun c => ?_)
    · have h := h.2 c
      rw [if_neg c] at k
      refine z_aload_n (pc' := 18) 0 rfl rfl dX12_decades_17 rfl ?_
      refine z_lload_n (pc' := 19) 2 rfl rfl dX12_decades_18 rfl ?_
      refine z_putJ (pc' := 22) p_X12_381 (by decide) rfl rfl dX12_decades_19 rfl ?_
      refine z_iconst (pc' := 23) dX12_decades_22 rfl ?_
      refine z_istore (pc' := 25) (ls' := [(0, zR 0), (1, zI a0), (2, zJ a1), (4, zI 0)]) (by decide) rfl rfl dX12_decades_23 rfl ?_
      refine z_Wp.sub (ls' := [(0, zR 0), (1, zI a0), (4, zI 0)]) ?_ (z_sub_of [0, 1, 3] rfl)
      refine z_upto ((a0).toNat) (fun i8 => z_Wp m_X12_decades (d + 9) 25 [(0, zR 0), (1, zI a0), (4, zI (i8 : Int))] [] (A_M_decades_25 w a0 a1 i8) Q) ?_ ?_
      · skip
        have h := h.2
        refine z_iload (pc' := 27) 2 rfl dX12_decades_25 rfl ?_
        refine z_iload_n (pc' := 28) 1 rfl rfl dX12_decades_27 rfl ?_
        obtain ⟨r14, h⟩ := h
        have r15 := h
        refine z_icmp_ge 49 dX12_decades_28 (by decide) (pc' := 31) rfl r14 r15 (fun _ => ?_) (fun c => absurd c (by omega))
        refine z_aload_n (pc' := 50) 0 rfl rfl dX12_decades_49 rfl ?_
        refine z_getR (t := 19) (pc' := 53) g_X12_64 (by decide) rfl rfl dX12_decades_50 rfl ?_
        refine z_bipush (pc' := 55) (by decide) dX12_decades_53 rfl ?_
        refine z_iald2 (v := (A_M_decades_25 w a0 a1 (a0).toNat) 19 38) (pc' := 56) (by decide) rfl (by decide) (by decide) rfl dX12_decades_55 rfl ?_
        refine z_iret rfl dX12_decades_56 ?_
        exact k
      · intro i8 hi ih
        have h := h.1 i8 hi
        have ih : z_Wp m_X12_decades (d + 9) 25 [(0, zR 0), (1, zI a0), (4, zI ((i8 + 1 : Nat) : Int))] [] (F_M_passYear (F_M_drawYear (F_M_keep (A_M_decades_25 w a0 a1 i8)))) Q := ih
        refine z_iload (pc' := 27) 2 rfl dX12_decades_25 rfl ?_
        refine z_iload_n (pc' := 28) 1 rfl rfl dX12_decades_27 rfl ?_
        obtain ⟨r9, h⟩ := h
        obtain ⟨r10, h⟩ := h
        refine z_icmp_ge 49 dX12_decades_28 (by decide) (pc' := 31) rfl r9 r10 (fun c => absurd c (by omega)) (fun _ => ?_)
        refine z_aload_n (pc' := 32) 0 rfl rfl dX12_decades_31 rfl ?_
        refine z_invV (as := []) (st := []) (C := m_X12_keep) (fs := [0, 3, 0, 0, 0, 0, 4, 5, 6, 7, 8, 9, 10, 0, 0, 11, 12, 13, 14, 15, 16, 0, 0, 0, 17, 18, 19, 20, 0, 0, 0, 21, 22, 0, 0, 23, 0, 1, 24, 0, 0, 25, 26, 0, 27, 0]) (pc' := 35) dX12_decades_32 rfl t_7_231 k_X12_keep rfl (by decide) rfl rfl rfl rfl (Nat.le_of_ble_eq_true rfl) ?_
        obtain ⟨r11, h⟩ := h
        refine c_M_keep r11 ?_
        show z_Wp m_X12_decades _ 35 [(0, zR 0), (1, zI a0), (4, zI (i8 : Int))] [] (F_M_keep (A_M_decades_25 w a0 a1 i8)) _
        refine z_aload_n (pc' := 36) 0 rfl rfl dX12_decades_35 rfl ?_
        refine z_invV (as := []) (st := []) (C := m_X12_drawYear) (fs := [0, 3, 0, 0, 0, 0, 4, 5, 6, 7, 8, 9, 10, 0, 0, 11, 12, 13, 14, 15, 16, 0, 0, 0, 17, 18, 19, 20, 0, 0, 0, 21, 22, 0, 0, 23, 0, 1, 24, 0, 0, 25, 26, 0, 27, 0]) (pc' := 39) dX12_decades_36 rfl t_8_59 k_X12_drawYear rfl (by decide) rfl rfl rfl rfl (Nat.le_of_ble_eq_true rfl) ?_
        obtain ⟨r12, h⟩ := h
        refine c_M_drawYear r12 ?_
        show z_Wp m_X12_decades _ 39 [(0, zR 0), (1, zI a0), (4, zI (i8 : Int))] [] (F_M_drawYear (F_M_keep (A_M_decades_25 w a0 a1 i8))) _
        refine z_aload_n (pc' := 40) 0 rfl rfl dX12_decades_39 rfl ?_
        refine z_invV (as := []) (st := []) (C := m_X12_passYear) (fs := [0, 3, 0, 0, 0, 0, 4, 5, 6, 7, 8, 9, 10, 0, 0, 11, 12, 13, 14, 15, 16, 0, 0, 0, 17, 18, 19, 20, 0, 0, 0, 21, 22, 0, 0, 23, 0, 1, 24, 0, 0, 25, 26, 0, 27, 0]) (pc' := 43) dX12_decades_40 rfl t_8_43 k_X12_passYear rfl (by decide) rfl rfl rfl rfl (Nat.le_of_ble_eq_true rfl) ?_
        have r13 := h
        refine c_M_passYear r13 ?_
        show z_Wp m_X12_decades _ 43 [(0, zR 0), (1, zI a0), (4, zI (i8 : Int))] [] (F_M_passYear (F_M_drawYear (F_M_keep (A_M_decades_25 w a0 a1 i8)))) _
        refine z_iinc (pc' := 46) (ls' := [(0, zR 0), (1, zI a0), (4, zI ((i8 : Int) + 1))]) 2 rfl (by decide) rfl rfl dX12_decades_43 rfl ?_
        refine z_goto 25 dX12_decades_46 (by decide) ?_
        exact ih
    · have h := h.1 c
      rw [if_pos c] at k
      refine z_iconst (pc' := 16) dX12_decades_15 rfl ?_
      refine z_iret rfl dX12_decades_16 ?_
      exact k
def A_M_takeMinistry_151 (w : z_Wd)  (sw : z_Wd): Nat → z_Wd
  | 0 => sw
  | i563 + 1 => z_up (A_M_takeMinistry_151 w sw i563) 19 ((32 + (i563 : Int)).toNat) ((A_M_takeMinistry_151 w sw i563) 16 ((2 * (i563 : Int)).toNat))
def A_M_takeMinistry_129 (w : z_Wd)  (sw : z_Wd): Nat → z_Wd
  | 0 => sw
  | i556 + 1 => z_up (A_M_takeMinistry_129 w sw i556) 19 ((i556 : Int).toNat) 0
def A_M_takeMinistry_103 (w : z_Wd)  (sw : z_Wd): Nat → z_Wd
  | 0 => sw
  | i538 + 1 => z_up (A_M_takeMinistry_103 w sw i538) 18 ((i538 : Int).toNat) ((A_M_takeMinistry_103 w sw i538) 14 ((i538 : Int).toNat))
def A_M_takeMinistry_77 (w : z_Wd)  (sw : z_Wd): Nat → z_Wd
  | 0 => sw
  | i502 + 1 => z_up (A_M_takeMinistry_77 w sw i502) 17 ((i502 : Int).toNat) ((A_M_takeMinistry_77 w sw i502) 13 ((i502 : Int).toNat))
def A_M_takeMinistry_51 (w : z_Wd)  (sw : z_Wd): Nat → z_Wd
  | 0 => sw
  | i430 + 1 => z_up (A_M_takeMinistry_51 w sw i430) 16 ((i430 : Int).toNat) ((A_M_takeMinistry_51 w sw i430) 12 ((i430 : Int).toNat))
def A_M_takeMinistry_26 (w : z_Wd)  : Nat → z_Wd
  | 0 => z_up (z_up (z_up w 0 28 (w 0 21)) 0 29 (w 0 22)) 0 30 (w 0 23)
  | i286 + 1 => z_up (A_M_takeMinistry_26 w i286) 15 ((i286 : Int).toNat) ((A_M_takeMinistry_26 w i286) 11 ((i286 : Int).toNat))
def P_M_takeMinistry (w : z_Wd)  : Prop := (∀ i286 : Nat, i286 < 2 → (-2147483648 ≤ (i286 : Int) ∧ (i286 : Int) < 2147483648) ∧ (0 ≤ (i286 : Int) ∧ (i286 : Int) < 2)) ∧ ((∀ i430 : Nat, i430 < 8 → (-2147483648 ≤ (i430 : Int) ∧ (i430 : Int) < 2147483648) ∧ (0 ≤ (i430 : Int) ∧ (i430 : Int) < 8)) ∧ ((∀ i502 : Nat, i502 < 21 → (-2147483648 ≤ (i502 : Int) ∧ (i502 : Int) < 2147483648) ∧ (0 ≤ (i502 : Int) ∧ (i502 : Int) < 21)) ∧ ((∀ i538 : Nat, i538 < 12 → (-2147483648 ≤ (i538 : Int) ∧ (i538 : Int) < 2147483648) ∧ (0 ≤ (i538 : Int) ∧ (i538 : Int) < 12)) ∧ ((∀ i556 : Nat, i556 < 160 → (-2147483648 ≤ (i556 : Int) ∧ (i556 : Int) < 2147483648) ∧ (0 ≤ (i556 : Int) ∧ (i556 : Int) < 160)) ∧ ((∀ i563 : Nat, i563 < (((A_M_takeMinistry_129 w (A_M_takeMinistry_103 w (A_M_takeMinistry_77 w (A_M_takeMinistry_51 w (A_M_takeMinistry_26 w 2) 8) 21) 12) 160) 0 28).toNat) → (-2147483648 ≤ (i563 : Int) ∧ (i563 : Int) < 2147483648) ∧ (-2147483648 ≤ (A_M_takeMinistry_151 w (A_M_takeMinistry_129 w (A_M_takeMinistry_103 w (A_M_takeMinistry_77 w (A_M_takeMinistry_51 w (A_M_takeMinistry_26 w 2) 8) 21) 12) 160) i563) 0 28 ∧ (A_M_takeMinistry_151 w (A_M_takeMinistry_129 w (A_M_takeMinistry_103 w (A_M_takeMinistry_77 w (A_M_takeMinistry_51 w (A_M_takeMinistry_26 w 2) 8) 21) 12) 160) i563) 0 28 < 2147483648) ∧ ((A_M_takeMinistry_151 w (A_M_takeMinistry_129 w (A_M_takeMinistry_103 w (A_M_takeMinistry_77 w (A_M_takeMinistry_51 w (A_M_takeMinistry_26 w 2) 8) 21) 12) 160) i563) 0 28 = (A_M_takeMinistry_129 w (A_M_takeMinistry_103 w (A_M_takeMinistry_77 w (A_M_takeMinistry_51 w (A_M_takeMinistry_26 w 2) 8) 21) 12) 160) 0 28) ∧ (0 ≤ 2 * (i563 : Int) ∧ 2 * (i563 : Int) < 8) ∧ (0 ≤ 32 + (i563 : Int) ∧ 32 + (i563 : Int) < 160)) ∧ ((-2147483648 ≤ ((((A_M_takeMinistry_129 w (A_M_takeMinistry_103 w (A_M_takeMinistry_77 w (A_M_takeMinistry_51 w (A_M_takeMinistry_26 w 2) 8) 21) 12) 160) 0 28).toNat : Nat) : Int) ∧ ((((A_M_takeMinistry_129 w (A_M_takeMinistry_103 w (A_M_takeMinistry_77 w (A_M_takeMinistry_51 w (A_M_takeMinistry_26 w 2) 8) 21) 12) 160) 0 28).toNat : Nat) : Int) < 2147483648) ∧ (-2147483648 ≤ (A_M_takeMinistry_151 w (A_M_takeMinistry_129 w (A_M_takeMinistry_103 w (A_M_takeMinistry_77 w (A_M_takeMinistry_51 w (A_M_takeMinistry_26 w 2) 8) 21) 12) 160) ((A_M_takeMinistry_129 w (A_M_takeMinistry_103 w (A_M_takeMinistry_77 w (A_M_takeMinistry_51 w (A_M_takeMinistry_26 w 2) 8) 21) 12) 160) 0 28).toNat) 0 28 ∧ (A_M_takeMinistry_151 w (A_M_takeMinistry_129 w (A_M_takeMinistry_103 w (A_M_takeMinistry_77 w (A_M_takeMinistry_51 w (A_M_takeMinistry_26 w 2) 8) 21) 12) 160) ((A_M_takeMinistry_129 w (A_M_takeMinistry_103 w (A_M_takeMinistry_77 w (A_M_takeMinistry_51 w (A_M_takeMinistry_26 w 2) 8) 21) 12) 160) 0 28).toNat) 0 28 < 2147483648) ∧ ((A_M_takeMinistry_151 w (A_M_takeMinistry_129 w (A_M_takeMinistry_103 w (A_M_takeMinistry_77 w (A_M_takeMinistry_51 w (A_M_takeMinistry_26 w 2) 8) 21) 12) 160) ((A_M_takeMinistry_129 w (A_M_takeMinistry_103 w (A_M_takeMinistry_77 w (A_M_takeMinistry_51 w (A_M_takeMinistry_26 w 2) 8) 21) 12) 160) 0 28).toNat) 0 28 = (A_M_takeMinistry_129 w (A_M_takeMinistry_103 w (A_M_takeMinistry_77 w (A_M_takeMinistry_51 w (A_M_takeMinistry_26 w 2) 8) 21) 12) 160) 0 28)))))))
def F_M_takeMinistry (w : z_Wd)  : Int × z_Wd := ((A_M_takeMinistry_151 w (A_M_takeMinistry_129 w (A_M_takeMinistry_103 w (A_M_takeMinistry_77 w (A_M_takeMinistry_51 w (A_M_takeMinistry_26 w 2) 8) 21) 12) 160) ((A_M_takeMinistry_129 w (A_M_takeMinistry_103 w (A_M_takeMinistry_77 w (A_M_takeMinistry_51 w (A_M_takeMinistry_26 w 2) 8) 21) 12) 160) 0 28).toNat) 0 29, z_up (z_up (z_up (z_up (A_M_takeMinistry_151 w (A_M_takeMinistry_129 w (A_M_takeMinistry_103 w (A_M_takeMinistry_77 w (A_M_takeMinistry_51 w (A_M_takeMinistry_26 w 2) 8) 21) 12) 160) ((A_M_takeMinistry_129 w (A_M_takeMinistry_103 w (A_M_takeMinistry_77 w (A_M_takeMinistry_51 w (A_M_takeMinistry_26 w 2) 8) 21) 12) 160) 0 28).toNat) 19 36 ((A_M_takeMinistry_151 w (A_M_takeMinistry_129 w (A_M_takeMinistry_103 w (A_M_takeMinistry_77 w (A_M_takeMinistry_51 w (A_M_takeMinistry_26 w 2) 8) 21) 12) 160) ((A_M_takeMinistry_129 w (A_M_takeMinistry_103 w (A_M_takeMinistry_77 w (A_M_takeMinistry_51 w (A_M_takeMinistry_26 w 2) 8) 21) 12) 160) 0 28).toNat) 15 1)) 0 43 0) 0 36 0) 0 45 0)
set_option maxRecDepth 4000 in
theorem c_M_takeMinistry {d : Nat} {w : z_Wd} {Q : Option z_V → z_Wd → Prop} (h : P_M_takeMinistry w ) (k : Q (some (zI (F_M_takeMinistry w ).1)) (F_M_takeMinistry w ).2) : z_Wc d m_X12_takeMinistry [zR 0] w Q := by
  unfold P_M_takeMinistry at h
  unfold F_M_takeMinistry at k
  refine z_enter rfl (Nat.le_of_ble_eq_true rfl) ?_
  show z_Wp m_X12_takeMinistry _ 0 [(0, zR 0)] [] w _
  refine z_aload_n (pc' := 1) 0 rfl rfl dX12_takeMinistry_0 rfl ?_
  refine z_aload_n (pc' := 2) 0 rfl rfl dX12_takeMinistry_1 rfl ?_
  refine z_getI2 (v := w 0 21) (pc' := 5) g_X12_235 (by decide) rfl rfl rfl dX12_takeMinistry_2 rfl ?_
  refine z_putI (pc' := 8) p_X12_257 (by decide) rfl rfl rfl rfl dX12_takeMinistry_5 rfl ?_
  refine z_aload_n (pc' := 9) 0 rfl rfl dX12_takeMinistry_8 rfl ?_
  refine z_aload_n (pc' := 10) 0 rfl rfl dX12_takeMinistry_9 rfl ?_
  refine z_getI2 (v := w 0 22) (pc' := 13) g_X12_238 (by decide) rfl rfl rfl dX12_takeMinistry_10 rfl ?_
  refine z_putI (pc' := 16) p_X12_260 (by decide) rfl rfl rfl rfl dX12_takeMinistry_13 rfl ?_
  refine z_aload_n (pc' := 17) 0 rfl rfl dX12_takeMinistry_16 rfl ?_
  refine z_aload_n (pc' := 18) 0 rfl rfl dX12_takeMinistry_17 rfl ?_
  refine z_getI2 (v := w 0 23) (pc' := 21) g_X12_241 (by decide) rfl rfl rfl dX12_takeMinistry_18 rfl ?_
  refine z_putI (pc' := 24) p_X12_263 (by decide) rfl rfl rfl rfl dX12_takeMinistry_21 rfl ?_
  refine z_iconst (pc' := 25) dX12_takeMinistry_24 rfl ?_
  refine z_istore_n (pc' := 26) (ls' := [(0, zR 0), (1, zI 0)]) rfl (by decide) rfl rfl dX12_takeMinistry_25 rfl ?_
  refine z_upto 2 (fun i286 => z_Wp m_X12_takeMinistry d 26 [(0, zR 0), (1, zI (i286 : Int))] [] (A_M_takeMinistry_26 w i286) Q) ?_ ?_
  · skip
    have h := h.2
    refine z_iload_n (pc' := 27) 1 rfl rfl dX12_takeMinistry_26 rfl ?_
    refine z_iconst (pc' := 28) dX12_takeMinistry_27 rfl ?_
    refine z_icmp_ge 49 dX12_takeMinistry_28 (by decide) (pc' := 31) rfl (by decide) (by decide) (fun _ => ?_) (fun c => absurd c (by decide))
    refine z_iconst (pc' := 50) dX12_takeMinistry_49 rfl ?_
    refine z_istore_n (pc' := 51) (ls' := [(0, zR 0), (1, zI 0)]) rfl (by decide) rfl rfl dX12_takeMinistry_50 rfl ?_
    refine z_upto 8 (fun i430 => z_Wp m_X12_takeMinistry d 51 [(0, zR 0), (1, zI (i430 : Int))] [] (A_M_takeMinistry_51 w (A_M_takeMinistry_26 w 2) i430) Q) ?_ ?_
    · skip
      have h := h.2
      refine z_iload_n (pc' := 52) 1 rfl rfl dX12_takeMinistry_51 rfl ?_
      refine z_bipush (pc' := 54) (by decide) dX12_takeMinistry_52 rfl ?_
      refine z_icmp_ge 75 dX12_takeMinistry_54 (by decide) (pc' := 57) rfl (by decide) (by decide) (fun _ => ?_) (fun c => absurd c (by decide))
      refine z_iconst (pc' := 76) dX12_takeMinistry_75 rfl ?_
      refine z_istore_n (pc' := 77) (ls' := [(0, zR 0), (1, zI 0)]) rfl (by decide) rfl rfl dX12_takeMinistry_76 rfl ?_
      refine z_upto 21 (fun i502 => z_Wp m_X12_takeMinistry d 77 [(0, zR 0), (1, zI (i502 : Int))] [] (A_M_takeMinistry_77 w (A_M_takeMinistry_51 w (A_M_takeMinistry_26 w 2) 8) i502) Q) ?_ ?_
      · skip
        have h := h.2
        refine z_iload_n (pc' := 78) 1 rfl rfl dX12_takeMinistry_77 rfl ?_
        refine z_bipush (pc' := 80) (by decide) dX12_takeMinistry_78 rfl ?_
        refine z_icmp_ge 101 dX12_takeMinistry_80 (by decide) (pc' := 83) rfl (by decide) (by decide) (fun _ => ?_) (fun c => absurd c (by decide))
        refine z_iconst (pc' := 102) dX12_takeMinistry_101 rfl ?_
        refine z_istore_n (pc' := 103) (ls' := [(0, zR 0), (1, zI 0)]) rfl (by decide) rfl rfl dX12_takeMinistry_102 rfl ?_
        refine z_upto 12 (fun i538 => z_Wp m_X12_takeMinistry d 103 [(0, zR 0), (1, zI (i538 : Int))] [] (A_M_takeMinistry_103 w (A_M_takeMinistry_77 w (A_M_takeMinistry_51 w (A_M_takeMinistry_26 w 2) 8) 21) i538) Q) ?_ ?_
        · skip
          have h := h.2
          refine z_iload_n (pc' := 104) 1 rfl rfl dX12_takeMinistry_103 rfl ?_
          refine z_bipush (pc' := 106) (by decide) dX12_takeMinistry_104 rfl ?_
          refine z_icmp_ge 127 dX12_takeMinistry_106 (by decide) (pc' := 109) rfl (by decide) (by decide) (fun _ => ?_) (fun c => absurd c (by decide))
          refine z_iconst (pc' := 128) dX12_takeMinistry_127 rfl ?_
          refine z_istore_n (pc' := 129) (ls' := [(0, zR 0), (1, zI 0)]) rfl (by decide) rfl rfl dX12_takeMinistry_128 rfl ?_
          refine z_upto 160 (fun i556 => z_Wp m_X12_takeMinistry d 129 [(0, zR 0), (1, zI (i556 : Int))] [] (A_M_takeMinistry_129 w (A_M_takeMinistry_103 w (A_M_takeMinistry_77 w (A_M_takeMinistry_51 w (A_M_takeMinistry_26 w 2) 8) 21) 12) i556) Q) ?_ ?_
          · skip
            have h := h.2
            refine z_iload_n (pc' := 130) 1 rfl rfl dX12_takeMinistry_129 rfl ?_
            refine z_sipush (pc' := 133) (by decide) dX12_takeMinistry_130 rfl ?_
            refine z_icmp_ge 149 dX12_takeMinistry_133 (by decide) (pc' := 136) rfl (by decide) (by decide) (fun _ => ?_) (fun c => absurd c (by decide))
            refine z_iconst (pc' := 150) dX12_takeMinistry_149 rfl ?_
            refine z_istore_n (pc' := 151) (ls' := [(0, zR 0), (1, zI 0)]) rfl (by decide) rfl rfl dX12_takeMinistry_150 rfl ?_
            refine z_upto (((A_M_takeMinistry_129 w (A_M_takeMinistry_103 w (A_M_takeMinistry_77 w (A_M_takeMinistry_51 w (A_M_takeMinistry_26 w 2) 8) 21) 12) 160) 0 28).toNat) (fun i563 => z_Wp m_X12_takeMinistry d 151 [(0, zR 0), (1, zI (i563 : Int))] [] (A_M_takeMinistry_151 w (A_M_takeMinistry_129 w (A_M_takeMinistry_103 w (A_M_takeMinistry_77 w (A_M_takeMinistry_51 w (A_M_takeMinistry_26 w 2) 8) 21) 12) 160) i563) Q) ?_ ?_
            · skip
              have h := h.2
              refine z_iload_n (pc' := 152) 1 rfl rfl dX12_takeMinistry_151 rfl ?_
              refine z_aload_n (pc' := 153) 0 rfl rfl dX12_takeMinistry_152 rfl ?_
              refine z_getI2 (v := (A_M_takeMinistry_151 w (A_M_takeMinistry_129 w (A_M_takeMinistry_103 w (A_M_takeMinistry_77 w (A_M_takeMinistry_51 w (A_M_takeMinistry_26 w 2) 8) 21) 12) 160) ((A_M_takeMinistry_129 w (A_M_takeMinistry_103 w (A_M_takeMinistry_77 w (A_M_takeMinistry_51 w (A_M_takeMinistry_26 w 2) 8) 21) 12) 160) 0 28).toNat) 0 28) (pc' := 156) g_X12_257 (by decide) rfl rfl rfl dX12_takeMinistry_153 rfl ?_
              obtain ⟨r569, h⟩ := h
              obtain ⟨r570, h⟩ := h
              have r571 := h
              refine z_icmp_ge 184 dX12_takeMinistry_156 (by decide) (pc' := 159) rfl r569 r570 (fun _ => ?_) (fun c => absurd c (by first | omega | (rw [r571]; first | exact z_exitgt | exact z_exitge | omega)))
              refine z_aload_n (pc' := 185) 0 rfl rfl dX12_takeMinistry_184 rfl ?_
              refine z_getR (t := 19) (pc' := 188) g_X12_64 (by decide) rfl rfl dX12_takeMinistry_185 rfl ?_
              refine z_bipush (pc' := 190) (by decide) dX12_takeMinistry_188 rfl ?_
              refine z_aload_n (pc' := 191) 0 rfl rfl dX12_takeMinistry_190 rfl ?_
              refine z_getR (t := 15) (pc' := 194) g_X12_52 (by decide) rfl rfl dX12_takeMinistry_191 rfl ?_
              refine z_iconst (pc' := 195) dX12_takeMinistry_194 rfl ?_
              refine z_iald2 (v := (A_M_takeMinistry_151 w (A_M_takeMinistry_129 w (A_M_takeMinistry_103 w (A_M_takeMinistry_77 w (A_M_takeMinistry_51 w (A_M_takeMinistry_26 w 2) 8) 21) 12) 160) ((A_M_takeMinistry_129 w (A_M_takeMinistry_103 w (A_M_takeMinistry_77 w (A_M_takeMinistry_51 w (A_M_takeMinistry_26 w 2) 8) 21) 12) 160) 0 28).toNat) 15 1) (pc' := 196) (by decide) rfl (by decide) (by decide) rfl dX12_takeMinistry_195 rfl ?_
              refine z_iast2 (w' := z_up (A_M_takeMinistry_151 w (A_M_takeMinistry_129 w (A_M_takeMinistry_103 w (A_M_takeMinistry_77 w (A_M_takeMinistry_51 w (A_M_takeMinistry_26 w 2) 8) 21) 12) 160) ((A_M_takeMinistry_129 w (A_M_takeMinistry_103 w (A_M_takeMinistry_77 w (A_M_takeMinistry_51 w (A_M_takeMinistry_26 w 2) 8) 21) 12) 160) 0 28).toNat) 19 36 ((A_M_takeMinistry_151 w (A_M_takeMinistry_129 w (A_M_takeMinistry_103 w (A_M_takeMinistry_77 w (A_M_takeMinistry_51 w (A_M_takeMinistry_26 w 2) 8) 21) 12) 160) ((A_M_takeMinistry_129 w (A_M_takeMinistry_103 w (A_M_takeMinistry_77 w (A_M_takeMinistry_51 w (A_M_takeMinistry_26 w 2) 8) 21) 12) 160) 0 28).toNat) 15 1)) (pc' := 197) (by decide) rfl (by decide) (by decide) rfl dX12_takeMinistry_196 rfl ?_
              refine z_aload_n (pc' := 198) 0 rfl rfl dX12_takeMinistry_197 rfl ?_
              refine z_iconst (pc' := 199) dX12_takeMinistry_198 rfl ?_
              refine z_putI (pc' := 202) p_X12_266 (by decide) rfl rfl rfl rfl dX12_takeMinistry_199 rfl ?_
              refine z_aload_n (pc' := 203) 0 rfl rfl dX12_takeMinistry_202 rfl ?_
              refine z_iconst (pc' := 204) dX12_takeMinistry_203 rfl ?_
              refine z_putI (pc' := 207) p_X12_269 (by decide) rfl rfl rfl rfl dX12_takeMinistry_204 rfl ?_
              refine z_aload_n (pc' := 208) 0 rfl rfl dX12_takeMinistry_207 rfl ?_
              refine z_iconst (pc' := 209) dX12_takeMinistry_208 rfl ?_
              refine z_putI (pc' := 212) p_X12_272 (by decide) rfl rfl (by decide) (by decide) dX12_takeMinistry_209 rfl ?_
              refine z_aload_n (pc' := 213) 0 rfl rfl dX12_takeMinistry_212 rfl ?_
              refine z_getI2 (v := (A_M_takeMinistry_151 w (A_M_takeMinistry_129 w (A_M_takeMinistry_103 w (A_M_takeMinistry_77 w (A_M_takeMinistry_51 w (A_M_takeMinistry_26 w 2) 8) 21) 12) 160) ((A_M_takeMinistry_129 w (A_M_takeMinistry_103 w (A_M_takeMinistry_77 w (A_M_takeMinistry_51 w (A_M_takeMinistry_26 w 2) 8) 21) 12) 160) 0 28).toNat) 0 29) (pc' := 216) g_X12_260 (by decide) rfl rfl rfl dX12_takeMinistry_213 rfl ?_
              refine z_iret rfl dX12_takeMinistry_216 ?_
              exact k
            · intro i563 hi ih
              have h := h.1 i563 hi
              have ih : z_Wp m_X12_takeMinistry d 151 [(0, zR 0), (1, zI ((i563 + 1 : Nat) : Int))] [] (z_up (A_M_takeMinistry_151 w (A_M_takeMinistry_129 w (A_M_takeMinistry_103 w (A_M_takeMinistry_77 w (A_M_takeMinistry_51 w (A_M_takeMinistry_26 w 2) 8) 21) 12) 160) i563) 19 ((32 + (i563 : Int)).toNat) ((A_M_takeMinistry_151 w (A_M_takeMinistry_129 w (A_M_takeMinistry_103 w (A_M_takeMinistry_77 w (A_M_takeMinistry_51 w (A_M_takeMinistry_26 w 2) 8) 21) 12) 160) i563) 16 ((2 * (i563 : Int)).toNat))) Q := ih
              refine z_iload_n (pc' := 152) 1 rfl rfl dX12_takeMinistry_151 rfl ?_
              refine z_aload_n (pc' := 153) 0 rfl rfl dX12_takeMinistry_152 rfl ?_
              refine z_getI2 (v := (A_M_takeMinistry_151 w (A_M_takeMinistry_129 w (A_M_takeMinistry_103 w (A_M_takeMinistry_77 w (A_M_takeMinistry_51 w (A_M_takeMinistry_26 w 2) 8) 21) 12) 160) i563) 0 28) (pc' := 156) g_X12_257 (by decide) rfl rfl rfl dX12_takeMinistry_153 rfl ?_
              obtain ⟨r564, h⟩ := h
              obtain ⟨r565, h⟩ := h
              obtain ⟨r566, h⟩ := h
              refine z_icmp_ge 184 dX12_takeMinistry_156 (by decide) (pc' := 159) rfl r564 r565 (fun c => absurd c (by first | omega | (rw [r566]; first | exact z_exitgt | exact z_exitge | omega))) (fun _ => ?_)
              refine z_aload_n (pc' := 160) 0 rfl rfl dX12_takeMinistry_159 rfl ?_
              refine z_getR (t := 19) (pc' := 163) g_X12_64 (by decide) rfl rfl dX12_takeMinistry_160 rfl ?_
              refine z_bipush (pc' := 165) (by decide) dX12_takeMinistry_163 rfl ?_
              refine z_iload_n (pc' := 166) 1 rfl rfl dX12_takeMinistry_165 rfl ?_
              refine z_iadd (pc' := 167) dX12_takeMinistry_166 rfl ?_
              refine z_aload_n (pc' := 168) 0 rfl rfl dX12_takeMinistry_167 rfl ?_
              refine z_getR (t := 16) (pc' := 171) g_X12_55 (by decide) rfl rfl dX12_takeMinistry_168 rfl ?_
              refine z_iconst (pc' := 172) dX12_takeMinistry_171 rfl ?_
              refine z_iload_n (pc' := 173) 1 rfl rfl dX12_takeMinistry_172 rfl ?_
              refine z_imul (pc' := 174) dX12_takeMinistry_173 rfl ?_
              refine z_iconst (pc' := 175) dX12_takeMinistry_174 rfl ?_
              refine z_iadd (pc' := 176) dX12_takeMinistry_175 rfl ?_
              refine z_eqI (y := 2 * (i563 : Int)) (by omega) ?_
              obtain ⟨r567, h⟩ := h
              refine z_iald2 (v := (A_M_takeMinistry_151 w (A_M_takeMinistry_129 w (A_M_takeMinistry_103 w (A_M_takeMinistry_77 w (A_M_takeMinistry_51 w (A_M_takeMinistry_26 w 2) 8) 21) 12) 160) i563) 16 ((2 * (i563 : Int)).toNat)) (pc' := 177) (by decide) rfl r567 (by decide) rfl dX12_takeMinistry_176 rfl ?_
              have r568 := h
              refine z_iast2 (w' := z_up (A_M_takeMinistry_151 w (A_M_takeMinistry_129 w (A_M_takeMinistry_103 w (A_M_takeMinistry_77 w (A_M_takeMinistry_51 w (A_M_takeMinistry_26 w 2) 8) 21) 12) 160) i563) 19 ((32 + (i563 : Int)).toNat) ((A_M_takeMinistry_151 w (A_M_takeMinistry_129 w (A_M_takeMinistry_103 w (A_M_takeMinistry_77 w (A_M_takeMinistry_51 w (A_M_takeMinistry_26 w 2) 8) 21) 12) 160) i563) 16 ((2 * (i563 : Int)).toNat))) (pc' := 178) (by decide) rfl r568 (by decide) rfl dX12_takeMinistry_177 rfl ?_
              refine z_iinc (pc' := 181) (ls' := [(0, zR 0), (1, zI ((i563 : Int) + 1))]) 1 rfl (by decide) rfl rfl dX12_takeMinistry_178 rfl ?_
              refine z_goto 151 dX12_takeMinistry_181 (by decide) ?_
              exact ih
          · intro i556 hi ih
            have h := h.1 i556 hi
            have ih : z_Wp m_X12_takeMinistry d 129 [(0, zR 0), (1, zI ((i556 + 1 : Nat) : Int))] [] (z_up (A_M_takeMinistry_129 w (A_M_takeMinistry_103 w (A_M_takeMinistry_77 w (A_M_takeMinistry_51 w (A_M_takeMinistry_26 w 2) 8) 21) 12) i556) 19 ((i556 : Int).toNat) 0) Q := ih
            refine z_iload_n (pc' := 130) 1 rfl rfl dX12_takeMinistry_129 rfl ?_
            refine z_sipush (pc' := 133) (by decide) dX12_takeMinistry_130 rfl ?_
            obtain ⟨r557, h⟩ := h
            refine z_icmp_ge 149 dX12_takeMinistry_133 (by decide) (pc' := 136) rfl r557 (by decide) (fun c => absurd c (by omega)) (fun _ => ?_)
            refine z_aload_n (pc' := 137) 0 rfl rfl dX12_takeMinistry_136 rfl ?_
            refine z_getR (t := 19) (pc' := 140) g_X12_64 (by decide) rfl rfl dX12_takeMinistry_137 rfl ?_
            refine z_iload_n (pc' := 141) 1 rfl rfl dX12_takeMinistry_140 rfl ?_
            refine z_iconst (pc' := 142) dX12_takeMinistry_141 rfl ?_
            have r558 := h
            refine z_iast2 (w' := z_up (A_M_takeMinistry_129 w (A_M_takeMinistry_103 w (A_M_takeMinistry_77 w (A_M_takeMinistry_51 w (A_M_takeMinistry_26 w 2) 8) 21) 12) i556) 19 ((i556 : Int).toNat) 0) (pc' := 143) (by decide) rfl r558 (by decide) rfl dX12_takeMinistry_142 rfl ?_
            refine z_iinc (pc' := 146) (ls' := [(0, zR 0), (1, zI ((i556 : Int) + 1))]) 1 rfl (by decide) rfl rfl dX12_takeMinistry_143 rfl ?_
            refine z_goto 129 dX12_takeMinistry_146 (by decide) ?_
            exact ih
        · intro i538 hi ih
          have h := h.1 i538 hi
          have ih : z_Wp m_X12_takeMinistry d 103 [(0, zR 0), (1, zI ((i538 + 1 : Nat) : Int))] [] (z_up (A_M_takeMinistry_103 w (A_M_takeMinistry_77 w (A_M_takeMinistry_51 w (A_M_takeMinistry_26 w 2) 8) 21) i538) 18 ((i538 : Int).toNat) ((A_M_takeMinistry_103 w (A_M_takeMinistry_77 w (A_M_takeMinistry_51 w (A_M_takeMinistry_26 w 2) 8) 21) i538) 14 ((i538 : Int).toNat))) Q := ih
          refine z_iload_n (pc' := 104) 1 rfl rfl dX12_takeMinistry_103 rfl ?_
          refine z_bipush (pc' := 106) (by decide) dX12_takeMinistry_104 rfl ?_
          obtain ⟨r539, h⟩ := h
          refine z_icmp_ge 127 dX12_takeMinistry_106 (by decide) (pc' := 109) rfl r539 (by decide) (fun c => absurd c (by omega)) (fun _ => ?_)
          refine z_aload_n (pc' := 110) 0 rfl rfl dX12_takeMinistry_109 rfl ?_
          refine z_getR (t := 18) (pc' := 113) g_X12_61 (by decide) rfl rfl dX12_takeMinistry_110 rfl ?_
          refine z_iload_n (pc' := 114) 1 rfl rfl dX12_takeMinistry_113 rfl ?_
          refine z_aload_n (pc' := 115) 0 rfl rfl dX12_takeMinistry_114 rfl ?_
          refine z_getR (t := 14) (pc' := 118) g_X12_49 (by decide) rfl rfl dX12_takeMinistry_115 rfl ?_
          refine z_iload_n (pc' := 119) 1 rfl rfl dX12_takeMinistry_118 rfl ?_
          have r540 := h
          refine z_iald2 (v := (A_M_takeMinistry_103 w (A_M_takeMinistry_77 w (A_M_takeMinistry_51 w (A_M_takeMinistry_26 w 2) 8) 21) i538) 14 ((i538 : Int).toNat)) (pc' := 120) (by decide) rfl r540 (by decide) rfl dX12_takeMinistry_119 rfl ?_
          refine z_iast2 (w' := z_up (A_M_takeMinistry_103 w (A_M_takeMinistry_77 w (A_M_takeMinistry_51 w (A_M_takeMinistry_26 w 2) 8) 21) i538) 18 ((i538 : Int).toNat) ((A_M_takeMinistry_103 w (A_M_takeMinistry_77 w (A_M_takeMinistry_51 w (A_M_takeMinistry_26 w 2) 8) 21) i538) 14 ((i538 : Int).toNat))) (pc' := 121) (by decide) rfl r540 (by decide) rfl dX12_takeMinistry_120 rfl ?_
          refine z_iinc (pc' := 124) (ls' := [(0, zR 0), (1, zI ((i538 : Int) + 1))]) 1 rfl (by decide) rfl rfl dX12_takeMinistry_121 rfl ?_
          refine z_goto 103 dX12_takeMinistry_124 (by decide) ?_
          exact ih
      · intro i502 hi ih
        have h := h.1 i502 hi
        have ih : z_Wp m_X12_takeMinistry d 77 [(0, zR 0), (1, zI ((i502 + 1 : Nat) : Int))] [] (z_up (A_M_takeMinistry_77 w (A_M_takeMinistry_51 w (A_M_takeMinistry_26 w 2) 8) i502) 17 ((i502 : Int).toNat) ((A_M_takeMinistry_77 w (A_M_takeMinistry_51 w (A_M_takeMinistry_26 w 2) 8) i502) 13 ((i502 : Int).toNat))) Q := ih
        refine z_iload_n (pc' := 78) 1 rfl rfl dX12_takeMinistry_77 rfl ?_
        refine z_bipush (pc' := 80) (by decide) dX12_takeMinistry_78 rfl ?_
        obtain ⟨r503, h⟩ := h
        refine z_icmp_ge 101 dX12_takeMinistry_80 (by decide) (pc' := 83) rfl r503 (by decide) (fun c => absurd c (by omega)) (fun _ => ?_)
        refine z_aload_n (pc' := 84) 0 rfl rfl dX12_takeMinistry_83 rfl ?_
        refine z_getR (t := 17) (pc' := 87) g_X12_58 (by decide) rfl rfl dX12_takeMinistry_84 rfl ?_
        refine z_iload_n (pc' := 88) 1 rfl rfl dX12_takeMinistry_87 rfl ?_
        refine z_aload_n (pc' := 89) 0 rfl rfl dX12_takeMinistry_88 rfl ?_
        refine z_getR (t := 13) (pc' := 92) g_X12_46 (by decide) rfl rfl dX12_takeMinistry_89 rfl ?_
        refine z_iload_n (pc' := 93) 1 rfl rfl dX12_takeMinistry_92 rfl ?_
        have r504 := h
        refine z_iald2 (v := (A_M_takeMinistry_77 w (A_M_takeMinistry_51 w (A_M_takeMinistry_26 w 2) 8) i502) 13 ((i502 : Int).toNat)) (pc' := 94) (by decide) rfl r504 (by decide) rfl dX12_takeMinistry_93 rfl ?_
        refine z_iast2 (w' := z_up (A_M_takeMinistry_77 w (A_M_takeMinistry_51 w (A_M_takeMinistry_26 w 2) 8) i502) 17 ((i502 : Int).toNat) ((A_M_takeMinistry_77 w (A_M_takeMinistry_51 w (A_M_takeMinistry_26 w 2) 8) i502) 13 ((i502 : Int).toNat))) (pc' := 95) (by decide) rfl r504 (by decide) rfl dX12_takeMinistry_94 rfl ?_
        refine z_iinc (pc' := 98) (ls' := [(0, zR 0), (1, zI ((i502 : Int) + 1))]) 1 rfl (by decide) rfl rfl dX12_takeMinistry_95 rfl ?_
        refine z_goto 77 dX12_takeMinistry_98 (by decide) ?_
        exact ih
    · intro i430 hi ih
      have h := h.1 i430 hi
      have ih : z_Wp m_X12_takeMinistry d 51 [(0, zR 0), (1, zI ((i430 + 1 : Nat) : Int))] [] (z_up (A_M_takeMinistry_51 w (A_M_takeMinistry_26 w 2) i430) 16 ((i430 : Int).toNat) ((A_M_takeMinistry_51 w (A_M_takeMinistry_26 w 2) i430) 12 ((i430 : Int).toNat))) Q := ih
      refine z_iload_n (pc' := 52) 1 rfl rfl dX12_takeMinistry_51 rfl ?_
      refine z_bipush (pc' := 54) (by decide) dX12_takeMinistry_52 rfl ?_
      obtain ⟨r431, h⟩ := h
      refine z_icmp_ge 75 dX12_takeMinistry_54 (by decide) (pc' := 57) rfl r431 (by decide) (fun c => absurd c (by omega)) (fun _ => ?_)
      refine z_aload_n (pc' := 58) 0 rfl rfl dX12_takeMinistry_57 rfl ?_
      refine z_getR (t := 16) (pc' := 61) g_X12_55 (by decide) rfl rfl dX12_takeMinistry_58 rfl ?_
      refine z_iload_n (pc' := 62) 1 rfl rfl dX12_takeMinistry_61 rfl ?_
      refine z_aload_n (pc' := 63) 0 rfl rfl dX12_takeMinistry_62 rfl ?_
      refine z_getR (t := 12) (pc' := 66) g_X12_43 (by decide) rfl rfl dX12_takeMinistry_63 rfl ?_
      refine z_iload_n (pc' := 67) 1 rfl rfl dX12_takeMinistry_66 rfl ?_
      have r432 := h
      refine z_iald2 (v := (A_M_takeMinistry_51 w (A_M_takeMinistry_26 w 2) i430) 12 ((i430 : Int).toNat)) (pc' := 68) (by decide) rfl r432 (by decide) rfl dX12_takeMinistry_67 rfl ?_
      refine z_iast2 (w' := z_up (A_M_takeMinistry_51 w (A_M_takeMinistry_26 w 2) i430) 16 ((i430 : Int).toNat) ((A_M_takeMinistry_51 w (A_M_takeMinistry_26 w 2) i430) 12 ((i430 : Int).toNat))) (pc' := 69) (by decide) rfl r432 (by decide) rfl dX12_takeMinistry_68 rfl ?_
      refine z_iinc (pc' := 72) (ls' := [(0, zR 0), (1, zI ((i430 : Int) + 1))]) 1 rfl (by decide) rfl rfl dX12_takeMinistry_69 rfl ?_
      refine z_goto 51 dX12_takeMinistry_72 (by decide) ?_
      exact ih
  · intro i286 hi ih
    have h := h.1 i286 hi
    have ih : z_Wp m_X12_takeMinistry d 26 [(0, zR 0), (1, zI ((i286 + 1 : Nat) : Int))] [] (z_up (A_M_takeMinistry_26 w i286) 15 ((i286 : Int).toNat) ((A_M_takeMinistry_26 w i286) 11 ((i286 : Int).toNat))) Q := ih
    refine z_iload_n (pc' := 27) 1 rfl rfl dX12_takeMinistry_26 rfl ?_
    refine z_iconst (pc' := 28) dX12_takeMinistry_27 rfl ?_
    obtain ⟨r287, h⟩ := h
    refine z_icmp_ge 49 dX12_takeMinistry_28 (by decide) (pc' := 31) rfl r287 (by decide) (fun c => absurd c (by omega)) (fun _ => ?_)
    refine z_aload_n (pc' := 32) 0 rfl rfl dX12_takeMinistry_31 rfl ?_
    refine z_getR (t := 15) (pc' := 35) g_X12_52 (by decide) rfl rfl dX12_takeMinistry_32 rfl ?_
    refine z_iload_n (pc' := 36) 1 rfl rfl dX12_takeMinistry_35 rfl ?_
    refine z_aload_n (pc' := 37) 0 rfl rfl dX12_takeMinistry_36 rfl ?_
    refine z_getR (t := 11) (pc' := 40) g_X12_40 (by decide) rfl rfl dX12_takeMinistry_37 rfl ?_
    refine z_iload_n (pc' := 41) 1 rfl rfl dX12_takeMinistry_40 rfl ?_
    have r288 := h
    refine z_iald2 (v := (A_M_takeMinistry_26 w i286) 11 ((i286 : Int).toNat)) (pc' := 42) (by decide) rfl r288 (by decide) rfl dX12_takeMinistry_41 rfl ?_
    refine z_iast2 (w' := z_up (A_M_takeMinistry_26 w i286) 15 ((i286 : Int).toNat) ((A_M_takeMinistry_26 w i286) 11 ((i286 : Int).toNat))) (pc' := 43) (by decide) rfl r288 (by decide) rfl dX12_takeMinistry_42 rfl ?_
    refine z_iinc (pc' := 46) (ls' := [(0, zR 0), (1, zI ((i286 : Int) + 1))]) 1 rfl (by decide) rfl rfl dX12_takeMinistry_43 rfl ?_
    refine z_goto 26 dX12_takeMinistry_46 (by decide) ?_
    exact ih
