def P_N_partsUpBy (w : z_Wd) (a0 : Int) (a1 : Int) (a2 : Int) (a3 : Int) (a4 : Int) : Prop := (P_K_wellOf w a1) ∧ (P_K_comesUp w (F_K_wellOf w a1) a0 a3) ∧ (-2147483648 ≤ F_K_comesUp w (F_K_wellOf w a1) a0 a3 ∧ F_K_comesUp w (F_K_wellOf w a1) a0 a3 < 2147483648) ∧ (-2147483648 ≤ a1 ∧ a1 < 2147483648) ∧ ((F_K_comesUp w (F_K_wellOf w a1) a0 a3 = a1 → True) ∧ (¬ (F_K_comesUp w (F_K_wellOf w a1) a0 a3 = a1) → (F_K_comesUp w (F_K_wellOf w a1) a0 a3 = (-1) → P_N_partsUp 6 w a1 (a2 - 1) a3 a4) ∧ (¬ (F_K_comesUp w (F_K_wellOf w a1) a0 a3 = (-1)) → P_N_partsUp 6 w a1 (a2 - 1) (zz_and a3 (zz_xor (zz_shl 1 (F_K_comesUp w (F_K_wellOf w a1) a0 a3)) (-1))) a4)))
def F_N_partsUpBy (w : z_Wd) (a0 : Int) (a1 : Int) (a2 : Int) (a3 : Int) (a4 : Int) : Int := if F_K_comesUp w (F_K_wellOf w a1) a0 a3 = a1 then a4 else if F_K_comesUp w (F_K_wellOf w a1) a0 a3 = (-1) then F_N_partsUp 6 w a1 (a2 - 1) a3 a4 else F_N_partsUp 6 w a1 (a2 - 1) (zz_and a3 (zz_xor (zz_shl 1 (F_K_comesUp w (F_K_wellOf w a1) a0 a3)) (-1))) a4
set_option maxRecDepth 4000 in
theorem c_N_partsUpBy {d : Nat} {w : z_Wd} {a0 a1 a2 a3 a4 : Int} {Q : Option z_V → z_Wd → Prop} (h : P_N_partsUpBy w a0 a1 a2 a3 a4) (k : Q (some (zI (F_N_partsUpBy w a0 a1 a2 a3 a4))) w) : z_Wc (d + 18) m_X8_partsUpBy [zR 76, zI a0, zI a1, zI a2, zI a3, zI a4] w Q := by
  unfold P_N_partsUpBy at h
  unfold F_N_partsUpBy at k
  refine z_enter rfl (Nat.le_of_ble_eq_true rfl) ?_
  show z_Wp m_X8_partsUpBy _ 0 [(0, zR 76), (1, zI a0), (2, zI a1), (3, zI a2), (4, zI a3), (5, zI a4)] [] w _
  refine z_aload_n (pc' := 1) 0 rfl rfl dX8_partsUpBy_0 rfl ?_
  refine z_getR (t := 41) (pc' := 4) g_X8_19 (by decide) rfl rfl dX8_partsUpBy_1 rfl ?_
  refine z_aload_n (pc' := 5) 0 rfl rfl dX8_partsUpBy_4 rfl ?_
  refine z_getR (t := 41) (pc' := 8) g_X8_19 (by decide) rfl rfl dX8_partsUpBy_5 rfl ?_
  refine z_iload_n (pc' := 9) 2 rfl rfl dX8_partsUpBy_8 rfl ?_
  refine z_invV (as := [zI a1]) (st := [zR 41]) (C := m_X3_wellOf) (fs := [32, 44, 45, 46, 47, 48, 0, 0, 0]) (pc' := 12) dX8_partsUpBy_9 rfl t_5_117 k_X3_wellOf rfl (by decide) rfl rfl rfl rfl (Nat.le_of_ble_eq_true rfl) ?_
  obtain ⟨r1, h⟩ := h
  refine c_K_wellOf r1 ?_
  show z_Wp m_X8_partsUpBy _ 12 [(0, zR 76), (1, zI a0), (2, zI a1), (3, zI a2), (4, zI a3), (5, zI a4)] [zI (F_K_wellOf w a1), zR 41] w _
  refine z_iload_n (pc' := 13) 1 rfl rfl dX8_partsUpBy_12 rfl ?_
  refine z_iload (pc' := 15) 4 rfl dX8_partsUpBy_13 rfl ?_
  refine z_invV (as := [zI (F_K_wellOf w a1), zI a0, zI a3]) (st := []) (C := m_X3_comesUp) (fs := [32, 44, 45, 46, 47, 48, 0, 0, 0]) (pc' := 18) dX8_partsUpBy_15 rfl t_5_79 k_X3_comesUp rfl (by decide) rfl rfl rfl rfl (Nat.le_of_ble_eq_true rfl) ?_
  obtain ⟨r2, h⟩ := h
  refine c_K_comesUp r2 ?_
  show z_Wp m_X8_partsUpBy _ 18 [(0, zR 76), (1, zI a0), (2, zI a1), (3, zI a2), (4, zI a3), (5, zI a4)] [zI (F_K_comesUp w (F_K_wellOf w a1) a0 a3)] w _
  refine z_istore (pc' := 20) (ls' := [(0, zR 76), (1, zI a0), (2, zI a1), (3, zI a2), (4, zI a3), (5, zI a4), (6, zI (F_K_comesUp w (F_K_wellOf w a1) a0 a3))]) (by decide) rfl rfl dX8_partsUpBy_18 rfl ?_
  refine z_iload (pc' := 22) 6 rfl dX8_partsUpBy_20 rfl ?_
  refine z_iload_n (pc' := 23) 2 rfl rfl dX8_partsUpBy_22 rfl ?_
  obtain ⟨r3, h⟩ := h
  obtain ⟨r4, h⟩ := h
  refine z_icmp_ne 29 dX8_partsUpBy_23 (by decide) (pc' := 26) rfl r3 r4 (fun c => ?_) (fun c => ?_)
  · have h := h.2 c
    rw [if_neg c] at k
    refine z_iload (pc' := 31) 6 rfl dX8_partsUpBy_29 rfl ?_
    refine z_iconst (pc' := 32) dX8_partsUpBy_31 rfl ?_
    refine z_icmp_ne 40 dX8_partsUpBy_32 (by decide) (pc' := 35) rfl r3 (by decide) (fun c => ?_) (fun c => ?_)
    · have h := h.2 c
      rw [if_neg c] at k
      refine z_iload (pc' := 42) 4 rfl dX8_partsUpBy_40 rfl ?_
      refine z_iconst (pc' := 43) dX8_partsUpBy_42 rfl ?_
      refine z_iload (pc' := 45) 6 rfl dX8_partsUpBy_43 rfl ?_
      refine z_ishl (pc' := 46) dX8_partsUpBy_45 rfl ?_
      refine z_iconst (pc' := 47) dX8_partsUpBy_46 rfl ?_
      refine z_ixor (pc' := 48) dX8_partsUpBy_47 rfl ?_
      refine z_iand (pc' := 49) dX8_partsUpBy_48 rfl ?_
      refine z_istore (pc' := 51) (ls' := [(0, zR 76), (1, zI a0), (2, zI a1), (3, zI a2), (4, zI a3), (5, zI a4), (6, zI (F_K_comesUp w (F_K_wellOf w a1) a0 a3)), (7, zI (zz_and a3 (zz_xor (zz_shl 1 (F_K_comesUp w (F_K_wellOf w a1) a0 a3)) (-1))))]) (by decide) rfl rfl dX8_partsUpBy_49 rfl ?_
      refine z_aload_n (pc' := 52) 0 rfl rfl dX8_partsUpBy_51 rfl ?_
      refine z_iload_n (pc' := 53) 2 rfl rfl dX8_partsUpBy_52 rfl ?_
      refine z_iload_n (pc' := 54) 3 rfl rfl dX8_partsUpBy_53 rfl ?_
      refine z_iconst (pc' := 55) dX8_partsUpBy_54 rfl ?_
      refine z_isub (pc' := 56) dX8_partsUpBy_55 rfl ?_
      refine z_iload (pc' := 58) 7 rfl dX8_partsUpBy_56 rfl ?_
      refine z_iload (pc' := 60) 5 rfl dX8_partsUpBy_58 rfl ?_
      refine z_invV (as := [zI a1, zI (a2 - 1), zI (zz_and a3 (zz_xor (zz_shl 1 (F_K_comesUp w (F_K_wellOf w a1) a0 a3)) (-1))), zI a4]) (st := []) (C := m_X8_partsUp) (fs := [32, 43, 79]) (pc' := 63) dX8_partsUpBy_60 rfl t_5_118 k_X8_partsUp rfl (by decide) rfl rfl rfl rfl (Nat.le_of_ble_eq_true rfl) ?_
      have r5 := h
      refine (c_N_partsUp (n9 := 6)) r5 ?_
      show z_Wp m_X8_partsUpBy _ 63 [(0, zR 76), (1, zI a0), (2, zI a1), (3, zI a2), (4, zI a3), (5, zI a4), (6, zI (F_K_comesUp w (F_K_wellOf w a1) a0 a3)), (7, zI (zz_and a3 (zz_xor (zz_shl 1 (F_K_comesUp w (F_K_wellOf w a1) a0 a3)) (-1))))] [zI (F_N_partsUp 6 w a1 (a2 - 1) (zz_and a3 (zz_xor (zz_shl 1 (F_K_comesUp w (F_K_wellOf w a1) a0 a3)) (-1))) a4)] w _
      refine z_iret rfl dX8_partsUpBy_63 ?_
      exact k
    · have h := h.1 c
      rw [if_pos c] at k
      refine z_iload (pc' := 37) 4 rfl dX8_partsUpBy_35 rfl ?_
      refine z_goto 49 dX8_partsUpBy_37 (by decide) ?_
      refine z_istore (pc' := 51) (ls' := [(0, zR 76), (1, zI a0), (2, zI a1), (3, zI a2), (4, zI a3), (5, zI a4), (6, zI (F_K_comesUp w (F_K_wellOf w a1) a0 a3)), (7, zI a3)]) (by decide) rfl rfl dX8_partsUpBy_49 rfl ?_
      refine z_aload_n (pc' := 52) 0 rfl rfl dX8_partsUpBy_51 rfl ?_
      refine z_iload_n (pc' := 53) 2 rfl rfl dX8_partsUpBy_52 rfl ?_
      refine z_iload_n (pc' := 54) 3 rfl rfl dX8_partsUpBy_53 rfl ?_
      refine z_iconst (pc' := 55) dX8_partsUpBy_54 rfl ?_
      refine z_isub (pc' := 56) dX8_partsUpBy_55 rfl ?_
      refine z_iload (pc' := 58) 7 rfl dX8_partsUpBy_56 rfl ?_
      refine z_iload (pc' := 60) 5 rfl dX8_partsUpBy_58 rfl ?_
      refine z_invV (as := [zI a1, zI (a2 - 1), zI a3, zI a4]) (st := []) (C := m_X8_partsUp) (fs := [32, 43, 79]) (pc' := 63) dX8_partsUpBy_60 rfl t_5_118 k_X8_partsUp rfl (by decide) rfl rfl rfl rfl (Nat.le_of_ble_eq_true rfl) ?_
      have r6 := h
      refine (c_N_partsUp (n9 := 6)) r6 ?_
      show z_Wp m_X8_partsUpBy _ 63 [(0, zR 76), (1, zI a0), (2, zI a1), (3, zI a2), (4, zI a3), (5, zI a4), (6, zI (F_K_comesUp w (F_K_wellOf w a1) a0 a3)), (7, zI a3)] [zI (F_N_partsUp 6 w a1 (a2 - 1) a3 a4)] w _
      refine z_iret rfl dX8_partsUpBy_63 ?_
      exact k
  · have h := h.1 c
    rw [if_pos c] at k
    refine z_iload (pc' := 28) 5 rfl dX8_partsUpBy_26 rfl ?_
    refine z_iret rfl dX8_partsUpBy_28 ?_
    exact k
def A_P_place_2 (w : z_Wd) (a0 : Int) : Nat → z_Wd
  | 0 => w
  | i7 + 1 => z_up (A_P_place_2 w a0 i7) 71 ((i7 : Int).toNat) ((F_K_depth (A_P_place_2 w a0 i7) (i7 : Int)) - (F_Y_dropsOf (A_P_place_2 w a0 i7) (F_K_inside (A_P_place_2 w a0 i7) (i7 : Int))))
def P_P_place (w : z_Wd) (a0 : Int) : Prop := (∀ i7 : Nat, i7 < ((w 32 1).toNat) → (-2147483648 ≤ (i7 : Int) ∧ (i7 : Int) < 2147483648) ∧ (-2147483648 ≤ (A_P_place_2 w a0 i7) 32 1 ∧ (A_P_place_2 w a0 i7) 32 1 < 2147483648) ∧ ((A_P_place_2 w a0 i7) 32 1 = w 32 1) ∧ ((P_K_depth (A_P_place_2 w a0 i7) (i7 : Int)) ∧ (P_K_inside (A_P_place_2 w a0 i7) (i7 : Int)) ∧ (P_Y_dropsOf (A_P_place_2 w a0 i7) (F_K_inside (A_P_place_2 w a0 i7) (i7 : Int)))) ∧ (0 ≤ (i7 : Int) ∧ (i7 : Int) < 4)) ∧ ((-2147483648 ≤ (((w 32 1).toNat : Nat) : Int) ∧ (((w 32 1).toNat : Nat) : Int) < 2147483648) ∧ (-2147483648 ≤ (A_P_place_2 w a0 (w 32 1).toNat) 32 1 ∧ (A_P_place_2 w a0 (w 32 1).toNat) 32 1 < 2147483648) ∧ ((A_P_place_2 w a0 (w 32 1).toNat) 32 1 = w 32 1) ∧ (P_P_placeFrom 9 (z_up (z_up (A_P_place_2 w a0 (w 32 1).toNat) 70 3 (((A_P_place_2 w a0 (w 32 1).toNat) 32 1) + 1)) 70 4 (-1)) 0 a0 0 0) ∧ (-2147483648 ≤ (F_P_placeFrom 9 (z_up (z_up (A_P_place_2 w a0 (w 32 1).toNat) 70 3 (((A_P_place_2 w a0 (w 32 1).toNat) 32 1) + 1)) 70 4 (-1)) 0 a0 0 0) 70 4 ∧ (F_P_placeFrom 9 (z_up (z_up (A_P_place_2 w a0 (w 32 1).toNat) 70 3 (((A_P_place_2 w a0 (w 32 1).toNat) 32 1) + 1)) 70 4 (-1)) 0 a0 0 0) 70 4 < 2147483648))
def F_P_place (w : z_Wd) (a0 : Int) : Int × z_Wd := if (F_P_placeFrom 9 (z_up (z_up (A_P_place_2 w a0 (w 32 1).toNat) 70 3 (((A_P_place_2 w a0 (w 32 1).toNat) 32 1) + 1)) 70 4 (-1)) 0 a0 0 0) 70 4 = (-1) then (0, F_P_placeFrom 9 (z_up (z_up (A_P_place_2 w a0 (w 32 1).toNat) 70 3 (((A_P_place_2 w a0 (w 32 1).toNat) 32 1) + 1)) 70 4 (-1)) 0 a0 0 0) else (1, F_P_placeFrom 9 (z_up (z_up (A_P_place_2 w a0 (w 32 1).toNat) 70 3 (((A_P_place_2 w a0 (w 32 1).toNat) 32 1) + 1)) 70 4 (-1)) 0 a0 0 0)
set_option maxRecDepth 4000 in
theorem c_P_place {d : Nat} {w : z_Wd} {a0 : Int} {Q : Option z_V → z_Wd → Prop} (h : P_P_place w a0) (k : Q (some (zI (F_P_place w a0).1)) (F_P_place w a0).2) : z_Wc (d + 13) m_X9_place [zR 70, zI a0] w Q := by
  unfold P_P_place at h
  unfold F_P_place at k
  refine z_enter rfl (Nat.le_of_ble_eq_true rfl) ?_
  show z_Wp m_X9_place _ 0 [(0, zR 70), (1, zI a0)] [] w _
  refine z_iconst (pc' := 1) dX9_place_0 rfl ?_
  refine z_istore_n (pc' := 2) (ls' := [(0, zR 70), (1, zI a0), (2, zI 0)]) rfl (by decide) rfl rfl dX9_place_1 rfl ?_
  refine z_upto ((w 32 1).toNat) (fun i7 => z_Wp m_X9_place (d + 13) 2 [(0, zR 70), (1, zI a0), (2, zI (i7 : Int))] [] (A_P_place_2 w a0 i7) Q) ?_ ?_
  · skip
    have h := h.2
    refine z_iload_n (pc' := 3) 2 rfl rfl dX9_place_2 rfl ?_
    refine z_aload_n (pc' := 4) 0 rfl rfl dX9_place_3 rfl ?_
    refine z_getR (t := 30) (pc' := 7) g_X9_17 (by decide) rfl rfl dX9_place_4 rfl ?_
    refine z_invV (as := []) (st := [zI (((w 32 1).toNat : Nat) : Int)]) (C := m_X6_wells) (fs := [33, 34]) (pc' := 10) dX9_place_7 rfl t_4_224 k_X6_wells rfl (by decide) rfl rfl rfl rfl (Nat.le_of_ble_eq_true rfl) ?_
    refine c_Y_wells ?_
    show z_Wp m_X9_place _ 10 [(0, zR 70), (1, zI a0), (2, zI (((w 32 1).toNat : Nat) : Int))] [zI ((A_P_place_2 w a0 (w 32 1).toNat) 32 1), zI (((w 32 1).toNat : Nat) : Int)] (A_P_place_2 w a0 (w 32 1).toNat) _
    obtain ⟨r13, h⟩ := h
    obtain ⟨r14, h⟩ := h
    obtain ⟨r15, h⟩ := h
    refine z_icmp_ge 33 dX9_place_10 (by decide) (pc' := 13) rfl r13 r14 (fun _ => ?_) (fun c => absurd c (by first | omega | (rw [r15]; first | exact z_exitgt | exact z_exitge | omega)))
    refine z_aload_n (pc' := 34) 0 rfl rfl dX9_place_33 rfl ?_
    refine z_aload_n (pc' := 35) 0 rfl rfl dX9_place_34 rfl ?_
    refine z_getR (t := 30) (pc' := 38) g_X9_17 (by decide) rfl rfl dX9_place_35 rfl ?_
    refine z_invV (as := []) (st := [zR 70]) (C := m_X6_wells) (fs := [33, 34]) (pc' := 41) dX9_place_38 rfl t_4_224 k_X6_wells rfl (by decide) rfl rfl rfl rfl (Nat.le_of_ble_eq_true rfl) ?_
    refine c_Y_wells ?_
    show z_Wp m_X9_place _ 41 [(0, zR 70), (1, zI a0), (2, zI (((w 32 1).toNat : Nat) : Int))] [zI ((A_P_place_2 w a0 (w 32 1).toNat) 32 1), zR 70] (A_P_place_2 w a0 (w 32 1).toNat) _
    refine z_iconst (pc' := 42) dX9_place_41 rfl ?_
    refine z_iadd (pc' := 43) dX9_place_42 rfl ?_
    refine z_putI (pc' := 46) p_X9_29 (by decide) rfl rfl rfl rfl dX9_place_43 rfl ?_
    refine z_aload_n (pc' := 47) 0 rfl rfl dX9_place_46 rfl ?_
    refine z_iconst (pc' := 48) dX9_place_47 rfl ?_
    refine z_putI (pc' := 51) p_X9_25 (by decide) rfl rfl rfl rfl dX9_place_48 rfl ?_
    refine z_aload_n (pc' := 52) 0 rfl rfl dX9_place_51 rfl ?_
    refine z_iconst (pc' := 53) dX9_place_52 rfl ?_
    refine z_iload_n (pc' := 54) 1 rfl rfl dX9_place_53 rfl ?_
    refine z_iconst (pc' := 55) dX9_place_54 rfl ?_
    refine z_iconst (pc' := 56) dX9_place_55 rfl ?_
    refine z_invV (as := [zI 0, zI a0, zI 0, zI 0]) (st := []) (C := m_X9_placeFrom) (fs := [32, 43, 73, 0, 0]) (pc' := 59) dX9_place_56 rfl t_4_226 k_X9_placeFrom rfl (by decide) rfl rfl rfl rfl (Nat.le_of_ble_eq_true rfl) ?_
    obtain ⟨r16, h⟩ := h
    refine (c_P_placeFrom (n9 := 9)) r16 ?_
    show z_Wp m_X9_place _ 59 [(0, zR 70), (1, zI a0), (2, zI (((w 32 1).toNat : Nat) : Int))] [] (F_P_placeFrom 9 (z_up (z_up (A_P_place_2 w a0 (w 32 1).toNat) 70 3 (((A_P_place_2 w a0 (w 32 1).toNat) 32 1) + 1)) 70 4 (-1)) 0 a0 0 0) _
    refine z_aload_n (pc' := 60) 0 rfl rfl dX9_place_59 rfl ?_
    refine z_getI2 (v := (F_P_placeFrom 9 (z_up (z_up (A_P_place_2 w a0 (w 32 1).toNat) 70 3 (((A_P_place_2 w a0 (w 32 1).toNat) 32 1) + 1)) 70 4 (-1)) 0 a0 0 0) 70 4) (pc' := 63) g_X9_25 (by decide) rfl rfl rfl dX9_place_60 rfl ?_
    refine z_iconst (pc' := 64) dX9_place_63 rfl ?_
    have r17 := h
    refine z_icmp_eq 71 dX9_place_64 (by decide) (pc' := 67) rfl r17 (by decide) (fun c => ?_) (fun c => ?_)
    · skip
      rw [if_pos c] at k
      refine z_iconst (pc' := 72) dX9_place_71 rfl ?_
      refine z_zret rfl (by decide) dX9_place_72 ?_
      exact k
    · skip
      rw [if_neg c] at k
      refine z_iconst (pc' := 68) dX9_place_67 rfl ?_
      refine z_goto 72 dX9_place_68 (by decide) ?_
      refine z_zret rfl (by decide) dX9_place_72 ?_
      exact k
  · intro i7 hi ih
    have h := h.1 i7 hi
    have ih : z_Wp m_X9_place (d + 13) 2 [(0, zR 70), (1, zI a0), (2, zI ((i7 + 1 : Nat) : Int))] [] (z_up (A_P_place_2 w a0 i7) 71 ((i7 : Int).toNat) ((F_K_depth (A_P_place_2 w a0 i7) (i7 : Int)) - (F_Y_dropsOf (A_P_place_2 w a0 i7) (F_K_inside (A_P_place_2 w a0 i7) (i7 : Int))))) Q := ih
    refine z_iload_n (pc' := 3) 2 rfl rfl dX9_place_2 rfl ?_
    refine z_aload_n (pc' := 4) 0 rfl rfl dX9_place_3 rfl ?_
    refine z_getR (t := 30) (pc' := 7) g_X9_17 (by decide) rfl rfl dX9_place_4 rfl ?_
    refine z_invV (as := []) (st := [zI (i7 : Int)]) (C := m_X6_wells) (fs := [33, 34]) (pc' := 10) dX9_place_7 rfl t_4_224 k_X6_wells rfl (by decide) rfl rfl rfl rfl (Nat.le_of_ble_eq_true rfl) ?_
    refine c_Y_wells ?_
    show z_Wp m_X9_place _ 10 [(0, zR 70), (1, zI a0), (2, zI (i7 : Int))] [zI ((A_P_place_2 w a0 i7) 32 1), zI (i7 : Int)] (A_P_place_2 w a0 i7) _
    obtain ⟨r8, h⟩ := h
    obtain ⟨r9, h⟩ := h
    obtain ⟨r10, h⟩ := h
    refine z_icmp_ge 33 dX9_place_10 (by decide) (pc' := 13) rfl r8 r9 (fun c => absurd c (by first | omega | (rw [r10]; first | exact z_exitgt | exact z_exitge | omega))) (fun _ => ?_)
    refine z_aload_n (pc' := 14) 0 rfl rfl dX9_place_13 rfl ?_
    refine z_getR (t := 71) (pc' := 17) g_X9_11 (by decide) rfl rfl dX9_place_14 rfl ?_
    refine z_iload_n (pc' := 18) 2 rfl rfl dX9_place_17 rfl ?_
    refine z_aload_n (pc' := 19) 0 rfl rfl dX9_place_18 rfl ?_
    refine z_getR (t := 41) (pc' := 22) g_X9_21 (by decide) rfl rfl dX9_place_19 rfl ?_
    refine z_iload_n (pc' := 23) 2 rfl rfl dX9_place_22 rfl ?_
    refine z_invV (as := [zI (i7 : Int)]) (st := [zI (i7 : Int), zR 71]) (C := m_X3_room) (fs := [32, 44, 45, 46, 47, 48, 0, 0, 0]) (pc' := 26) dX9_place_23 rfl t_4_225 k_X3_room rfl (by decide) rfl rfl rfl rfl (Nat.le_of_ble_eq_true rfl) ?_
    obtain ⟨r11, h⟩ := h
    refine c_K_room r11 ?_
    show z_Wp m_X9_place _ 26 [(0, zR 70), (1, zI a0), (2, zI (i7 : Int))] [zI ((F_K_depth (A_P_place_2 w a0 i7) (i7 : Int)) - (F_Y_dropsOf (A_P_place_2 w a0 i7) (F_K_inside (A_P_place_2 w a0 i7) (i7 : Int)))), zI (i7 : Int), zR 71] (A_P_place_2 w a0 i7) _
    have r12 := h
    refine z_iast2 (w' := z_up (A_P_place_2 w a0 i7) 71 ((i7 : Int).toNat) ((F_K_depth (A_P_place_2 w a0 i7) (i7 : Int)) - (F_Y_dropsOf (A_P_place_2 w a0 i7) (F_K_inside (A_P_place_2 w a0 i7) (i7 : Int))))) (pc' := 27) (by decide) rfl r12 (by decide) rfl dX9_place_26 rfl ?_
    refine z_iinc (pc' := 30) (ls' := [(0, zR 70), (1, zI a0), (2, zI ((i7 : Int) + 1))]) 2 rfl (by decide) rfl rfl dX9_place_27 rfl ?_
    refine z_goto 2 dX9_place_30 (by decide) ?_
    exact ih
def P_D_faction (w : z_Wd) (a0 : Int) (a1 : Int) : Prop := (-2147483648 ≤ a0 ∧ a0 < 2147483648) ∧ ((a0 ≤ 0 → True) ∧ (¬ (a0 ≤ 0) → (-2147483648 ≤ (zz_shl 1 (w 32 2)) - 1 ∧ (zz_shl 1 (w 32 2)) - 1 < 2147483648) ∧ ((a0 > (zz_shl 1 (w 32 2)) - 1 → True) ∧ (¬ (a0 > (zz_shl 1 (w 32 2)) - 1) → (P_K_inside w (-1)) ∧ (-2147483648 ≤ zz_and a0 (zz_and ((zz_shl 1 (w 32 2)) - 1) (zz_xor (F_K_inside w (-1)) (-1))) ∧ zz_and a0 (zz_and ((zz_shl 1 (w 32 2)) - 1) (zz_xor (F_K_inside w (-1)) (-1))) < 2147483648) ∧ ((zz_and a0 (zz_and ((zz_shl 1 (w 32 2)) - 1) (zz_xor (F_K_inside w (-1)) (-1))) = 0 → (P_P_place w a0) ∧ (-2147483648 ≤ (F_P_place w a0).1 ∧ (F_P_place w a0).1 < 2147483648) ∧ (((F_P_place w a0).1 = 0 → True) ∧ (¬ ((F_P_place w a0).1 = 0) → -2147483648 ≤ a1 ∧ a1 < 2147483648))) ∧ (¬ (zz_and a0 (zz_and ((zz_shl 1 (w 32 2)) - 1) (zz_xor (F_K_inside w (-1)) (-1))) = 0) → True))))))
def F_D_faction (w : z_Wd) (a0 : Int) (a1 : Int) : Int × z_Wd := if a0 ≤ 0 then ((-1), w) else if a0 > (zz_shl 1 (w 32 2)) - 1 then ((-1), w) else if zz_and a0 (zz_and ((zz_shl 1 (w 32 2)) - 1) (zz_xor (F_K_inside w (-1)) (-1))) = 0 then if (F_P_place w a0).1 = 0 then ((-1), (F_P_place w a0).2) else if a1 = 0 then (((F_P_place w a0).2) 70 4, (F_P_place w a0).2) else if a1 = 1 then (((F_P_place w a0).2) 70 3, (F_P_place w a0).2) else ((-1), (F_P_place w a0).2) else ((-1), w)
set_option maxRecDepth 4000 in
theorem c_D_faction {d : Nat} {w : z_Wd} {a0 a1 : Int} {Q : Option z_V → z_Wd → Prop} (h : P_D_faction w a0 a1) (k : Q (some (zI (F_D_faction w a0 a1).1)) (F_D_faction w a0 a1).2) : z_Wc (d + 14) m_X11_faction [zR 27, zI a0, zI a1] w Q := by
  unfold P_D_faction at h
  unfold F_D_faction at k
  refine z_enter rfl (Nat.le_of_ble_eq_true rfl) ?_
  show z_Wp m_X11_faction _ 0 [(0, zR 27), (1, zI a0), (2, zI a1)] [] w _
  refine z_iload_n (pc' := 1) 1 rfl rfl dX11_faction_0 rfl ?_
  obtain ⟨r1, h⟩ := h
  refine z_if_le 38 dX11_faction_1 (by decide) (pc' := 4) rfl r1 (fun c => ?_) (fun c => ?_)
  · have h := h.1 c
    rw [if_pos c] at k
    refine z_iconst (pc' := 39) dX11_faction_38 rfl ?_
    refine z_iret rfl dX11_faction_39 ?_
    exact k
  · have h := h.2 c
    rw [if_neg c] at k
    refine z_iload_n (pc' := 5) 1 rfl rfl dX11_faction_4 rfl ?_
    refine z_aload_n (pc' := 6) 0 rfl rfl dX11_faction_5 rfl ?_
    refine z_getR (t := 30) (pc' := 9) g_X11_19 (by decide) rfl rfl dX11_faction_6 rfl ?_
    refine z_invV (as := []) (st := [zI a0]) (C := m_X6_all) (fs := [33, 34]) (pc' := 12) dX11_faction_9 rfl t_4_219 k_X6_all rfl (by decide) rfl rfl rfl rfl (Nat.le_of_ble_eq_true rfl) ?_
    refine c_Y_all ?_
    show z_Wp m_X11_faction _ 12 [(0, zR 27), (1, zI a0), (2, zI a1)] [zI ((zz_shl 1 (w 32 2)) - 1), zI a0] w _
    obtain ⟨r2, h⟩ := h
    refine z_icmp_gt 38 dX11_faction_12 (by decide) (pc' := 15) rfl r1 r2 (fun c => ?_) (fun c => ?_)
    · have h := h.1 c
      rw [if_pos c] at k
      refine z_iconst (pc' := 39) dX11_faction_38 rfl ?_
      refine z_iret rfl dX11_faction_39 ?_
      exact k
    · have h := h.2 c
      rw [if_neg c] at k
      refine z_iload_n (pc' := 16) 1 rfl rfl dX11_faction_15 rfl ?_
      refine z_aload_n (pc' := 17) 0 rfl rfl dX11_faction_16 rfl ?_
      refine z_getR (t := 41) (pc' := 20) g_X11_44 (by decide) rfl rfl dX11_faction_17 rfl ?_
      refine z_invV (as := []) (st := [zI a0]) (C := m_X3_drowned) (fs := [32, 44, 45, 46, 47, 48, 0, 0, 0]) (pc' := 23) dX11_faction_20 rfl t_3_158 k_X3_drowned rfl (by decide) rfl rfl rfl rfl (Nat.le_of_ble_eq_true rfl) ?_
      obtain ⟨r3, h⟩ := h
      refine c_K_drowned r3 ?_
      show z_Wp m_X11_faction _ 23 [(0, zR 27), (1, zI a0), (2, zI a1)] [zI (zz_and ((zz_shl 1 (w 32 2)) - 1) (zz_xor (F_K_inside w (-1)) (-1))), zI a0] w _
      refine z_iand (pc' := 24) dX11_faction_23 rfl ?_
      obtain ⟨r4, h⟩ := h
      refine z_if_ne 38 dX11_faction_24 (by decide) (pc' := 27) rfl r4 (fun c => ?_) (fun c => ?_)
      · have h := h.2 c
        rw [if_neg c] at k
        refine z_iconst (pc' := 39) dX11_faction_38 rfl ?_
        refine z_iret rfl dX11_faction_39 ?_
        exact k
      · have h := h.1 c
        rw [if_pos c] at k
        refine z_aload_n (pc' := 28) 0 rfl rfl dX11_faction_27 rfl ?_
        refine z_getR (t := 70) (pc' := 31) g_X11_70 (by decide) rfl rfl dX11_faction_28 rfl ?_
        refine z_iload_n (pc' := 32) 1 rfl rfl dX11_faction_31 rfl ?_
        refine z_invV (as := [zI a0]) (st := []) (C := m_X9_place) (fs := [32, 43, 73, 0, 0]) (pc' := 35) dX11_faction_32 rfl t_4_220 k_X9_place rfl (by decide) rfl rfl rfl rfl (Nat.le_of_ble_eq_true rfl) ?_
        obtain ⟨r5, h⟩ := h
        refine c_P_place r5 ?_
        show z_Wp m_X11_faction _ 35 [(0, zR 27), (1, zI a0), (2, zI a1)] [zI ((F_P_place w a0).1)] ((F_P_place w a0).2) _
        obtain ⟨r6, h⟩ := h
        refine z_if_ne 40 dX11_faction_35 (by decide) (pc' := 38) rfl r6 (fun c => ?_) (fun c => ?_)
        · have h := h.2 c
          rw [if_neg c] at k
          refine z_iload_n (pc' := 41) 2 rfl rfl dX11_faction_40 rfl ?_
          have r7 := h
          refine z_lookup dX11_faction_41 (by decide) r7 ⟨fun c0 => ⟨68, by decide, ?_⟩, fun c0 => ⟨fun c1 => ⟨76, by decide, ?_⟩, fun c1 => ⟨84, by decide, ?_⟩⟩⟩
          · skip
            have c0 : a1 = 0 := c0
            rw [if_pos c0] at k
            refine z_aload_n (pc' := 69) 0 rfl rfl dX11_faction_68 rfl ?_
            refine z_getR (t := 70) (pc' := 72) g_X11_70 (by decide) rfl rfl dX11_faction_69 rfl ?_
            refine z_invV (as := []) (st := []) (C := m_X9_row) (fs := [32, 43, 73, 0, 0]) (pc' := 75) dX11_faction_72 rfl t_4_234 k_X9_row rfl (by decide) rfl rfl rfl rfl (Nat.le_of_ble_eq_true rfl) ?_
            refine c_P_row ?_
            show z_Wp m_X11_faction _ 75 [(0, zR 27), (1, zI a0), (2, zI a1)] [zI (((F_P_place w a0).2) 70 4)] ((F_P_place w a0).2) _
            refine z_iret rfl dX11_faction_75 ?_
            exact k
          · skip
            have c0 : ¬ a1 = 0 := c0
            rw [if_neg c0] at k
            have c1 : a1 = 1 := c1
            rw [if_pos c1] at k
            refine z_aload_n (pc' := 77) 0 rfl rfl dX11_faction_76 rfl ?_
            refine z_getR (t := 70) (pc' := 80) g_X11_70 (by decide) rfl rfl dX11_faction_77 rfl ?_
            refine z_invV (as := []) (st := []) (C := m_X9_fewest) (fs := [32, 43, 73, 0, 0]) (pc' := 83) dX11_faction_80 rfl t_4_238 k_X9_fewest rfl (by decide) rfl rfl rfl rfl (Nat.le_of_ble_eq_true rfl) ?_
            refine c_P_fewest ?_
            show z_Wp m_X11_faction _ 83 [(0, zR 27), (1, zI a0), (2, zI a1)] [zI (((F_P_place w a0).2) 70 3)] ((F_P_place w a0).2) _
            refine z_iret rfl dX11_faction_83 ?_
            exact k
          · skip
            have c0 : ¬ a1 = 0 := c0
            rw [if_neg c0] at k
            have c1 : ¬ a1 = 1 := c1
            rw [if_neg c1] at k
            refine z_iconst (pc' := 85) dX11_faction_84 rfl ?_
            refine z_iret rfl dX11_faction_85 ?_
            exact k
        · have h := h.1 c
          rw [if_pos c] at k
          refine z_iconst (pc' := 39) dX11_faction_38 rfl ?_
          refine z_iret rfl dX11_faction_39 ?_
          exact k
def P_D_odds (w : z_Wd) (a0 : Int) (a1 : Int) : Prop := (P_Y_hasName w a0) ∧ ((F_Y_hasName w a0 = 0 → True) ∧ (¬ (F_Y_hasName w a0 = 0) → (P_K_isFree w a0) ∧ ((F_K_isFree w a0 = 0 → (-2147483648 ≤ a1 ∧ a1 < 2147483648) ∧ ((a1 < 0 → True) ∧ (¬ (a1 < 0) → (a1 ≤ 4 → (P_K_inside w (-1)) ∧ (P_N_partsUp 6 w a0 a1 (zz_and ((zz_shl 1 (w 32 2)) - 1) (zz_xor (F_K_inside w (-1)) (-1))) 1000000000)) ∧ (¬ (a1 ≤ 4) → True)))) ∧ (¬ (F_K_isFree w a0 = 0) → True))))
def F_D_odds (w : z_Wd) (a0 : Int) (a1 : Int) : Int := if F_Y_hasName w a0 = 0 then (-1) else if F_K_isFree w a0 = 0 then if a1 < 0 then (-1) else if a1 ≤ 4 then F_N_partsUp 6 w a0 a1 (zz_and ((zz_shl 1 (w 32 2)) - 1) (zz_xor (F_K_inside w (-1)) (-1))) 1000000000 else (-1) else (-1)
set_option maxRecDepth 4000 in
theorem c_D_odds {d : Nat} {w : z_Wd} {a0 a1 : Int} {Q : Option z_V → z_Wd → Prop} (h : P_D_odds w a0 a1) (k : Q (some (zI (F_D_odds w a0 a1))) w) : z_Wc (d + 18) m_X11_odds [zR 27, zI a0, zI a1] w Q := by
  unfold P_D_odds at h
  unfold F_D_odds at k
  refine z_enter rfl (Nat.le_of_ble_eq_true rfl) ?_
  show z_Wp m_X11_odds _ 0 [(0, zR 27), (1, zI a0), (2, zI a1)] [] w _
  refine z_aload_n (pc' := 1) 0 rfl rfl dX11_odds_0 rfl ?_
  refine z_getR (t := 30) (pc' := 4) g_X11_19 (by decide) rfl rfl dX11_odds_1 rfl ?_
  refine z_iload_n (pc' := 5) 1 rfl rfl dX11_odds_4 rfl ?_
  refine z_invV (as := [zI a0]) (st := []) (C := m_X6_hasName) (fs := [33, 34]) (pc' := 8) dX11_odds_5 rfl t_3_182 k_X6_hasName rfl (by decide) rfl rfl rfl rfl (Nat.le_of_ble_eq_true rfl) ?_
  obtain ⟨r1, h⟩ := h
  refine c_Y_hasName r1 ?_
  show z_Wp m_X11_odds _ 8 [(0, zR 27), (1, zI a0), (2, zI a1)] [zI (F_Y_hasName w a0)] w _
  refine z_if_eq 31 dX11_odds_8 (by decide) (pc' := 11) rfl (z_rb b_Y_hasName) (fun c => ?_) (fun c => ?_)
  · have h := h.1 c
    rw [if_pos c] at k
    refine z_iconst (pc' := 32) dX11_odds_31 rfl ?_
    refine z_iret rfl dX11_odds_32 ?_
    exact k
  · have h := h.2 c
    rw [if_neg c] at k
    refine z_aload_n (pc' := 12) 0 rfl rfl dX11_odds_11 rfl ?_
    refine z_getR (t := 41) (pc' := 15) g_X11_44 (by decide) rfl rfl dX11_odds_12 rfl ?_
    refine z_iload_n (pc' := 16) 1 rfl rfl dX11_odds_15 rfl ?_
    refine z_invV (as := [zI a0]) (st := []) (C := m_X3_isFree) (fs := [32, 44, 45, 46, 47, 48, 0, 0, 0]) (pc' := 19) dX11_odds_16 rfl t_3_187 k_X3_isFree rfl (by decide) rfl rfl rfl rfl (Nat.le_of_ble_eq_true rfl) ?_
    obtain ⟨r2, h⟩ := h
    refine c_K_isFree r2 ?_
    show z_Wp m_X11_odds _ 19 [(0, zR 27), (1, zI a0), (2, zI a1)] [zI (F_K_isFree w a0)] w _
    refine z_if_ne 31 dX11_odds_19 (by decide) (pc' := 22) rfl (z_rb b_K_isFree) (fun c => ?_) (fun c => ?_)
    · have h := h.2 c
      rw [if_neg c] at k
      refine z_iconst (pc' := 32) dX11_odds_31 rfl ?_
      refine z_iret rfl dX11_odds_32 ?_
      exact k
    · have h := h.1 c
      rw [if_pos c] at k
      refine z_iload_n (pc' := 23) 2 rfl rfl dX11_odds_22 rfl ?_
      obtain ⟨r3, h⟩ := h
      refine z_if_lt 31 dX11_odds_23 (by decide) (pc' := 26) rfl r3 (fun c => ?_) (fun c => ?_)
      · have h := h.1 c
        rw [if_pos c] at k
        refine z_iconst (pc' := 32) dX11_odds_31 rfl ?_
        refine z_iret rfl dX11_odds_32 ?_
        exact k
      · have h := h.2 c
        rw [if_neg c] at k
        refine z_iload_n (pc' := 27) 2 rfl rfl dX11_odds_26 rfl ?_
        refine z_iconst (pc' := 28) dX11_odds_27 rfl ?_
        refine z_icmp_le 33 dX11_odds_28 (by decide) (pc' := 31) rfl r3 (by decide) (fun c => ?_) (fun c => ?_)
        · have h := h.1 c
          rw [if_pos c] at k
          refine z_aload_n (pc' := 34) 0 rfl rfl dX11_odds_33 rfl ?_
          refine z_getR (t := 76) (pc' := 37) g_X11_84 (by decide) rfl rfl dX11_odds_34 rfl ?_
          refine z_iload_n (pc' := 38) 1 rfl rfl dX11_odds_37 rfl ?_
          refine z_iload_n (pc' := 39) 2 rfl rfl dX11_odds_38 rfl ?_
          refine z_aload_n (pc' := 40) 0 rfl rfl dX11_odds_39 rfl ?_
          refine z_getR (t := 41) (pc' := 43) g_X11_44 (by decide) rfl rfl dX11_odds_40 rfl ?_
          refine z_invV (as := []) (st := [zI a1, zI a0, zR 76]) (C := m_X3_drowned) (fs := [32, 44, 45, 46, 47, 48, 0, 0, 0]) (pc' := 46) dX11_odds_43 rfl t_3_158 k_X3_drowned rfl (by decide) rfl rfl rfl rfl (Nat.le_of_ble_eq_true rfl) ?_
          obtain ⟨r4, h⟩ := h
          refine c_K_drowned r4 ?_
          show z_Wp m_X11_odds _ 46 [(0, zR 27), (1, zI a0), (2, zI a1)] [zI (zz_and ((zz_shl 1 (w 32 2)) - 1) (zz_xor (F_K_inside w (-1)) (-1))), zI a1, zI a0, zR 76] w _
          refine z_ldcw (n := 1000000000) (pc' := 49) t_5_108 (by decide) dX11_odds_46 rfl ?_
          refine z_invV (as := [zI a0, zI a1, zI (zz_and ((zz_shl 1 (w 32 2)) - 1) (zz_xor (F_K_inside w (-1)) (-1))), zI 1000000000]) (st := []) (C := m_X8_partsUp) (fs := [32, 43, 79]) (pc' := 52) dX11_odds_49 rfl t_5_109 k_X8_partsUp rfl (by decide) rfl rfl rfl rfl (Nat.le_of_ble_eq_true rfl) ?_
          have r5 := h
          refine (c_N_partsUp (n9 := 6)) r5 ?_
          show z_Wp m_X11_odds _ 52 [(0, zR 27), (1, zI a0), (2, zI a1)] [zI (F_N_partsUp 6 w a0 a1 (zz_and ((zz_shl 1 (w 32 2)) - 1) (zz_xor (F_K_inside w (-1)) (-1))) 1000000000)] w _
          refine z_iret rfl dX11_odds_52 ?_
          exact k
        · have h := h.2 c
          rw [if_neg c] at k
          refine z_iconst (pc' := 32) dX11_odds_31 rfl ?_
          refine z_iret rfl dX11_odds_32 ?_
          exact k
