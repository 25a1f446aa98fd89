def P_K_drown (w : z_Wd) (a0 : Int) (a1 : Int) : Prop := (P_Y_hasName w a0) ∧ ((F_Y_hasName w a0 = 0 → True) ∧ (¬ (F_Y_hasName w a0 = 0) → (P_K_inside w a1) ∧ (0 ≤ a0 ∧ a0 < 7)))
def F_K_drown (w : z_Wd) (a0 : Int) (a1 : Int) : z_Wd := if F_Y_hasName w a0 = 0 then w else z_up (z_up w 43 a0.toNat (F_J_bitCount_0f7a4 w (F_K_inside w a1))) 42 a0.toNat a1
set_option maxRecDepth 4000 in
theorem c_K_drown {d : Nat} {w : z_Wd} {a0 a1 : Int} {Q : Option z_V → z_Wd → Prop} (h : P_K_drown w a0 a1) (k : Q none (F_K_drown w a0 a1)) : z_Wc (d + 2) m_X3_drown [zR 41, zI a0, zI a1] w Q := by
  unfold P_K_drown at h
  unfold F_K_drown at k
  refine z_enter rfl (Nat.le_of_ble_eq_true rfl) ?_
  show z_Wp m_X3_drown _ 0 [(0, zR 41), (1, zI a0), (2, zI a1)] [] w _
  refine z_aload_n (pc' := 1) 0 rfl rfl dX3_drown_0 rfl ?_
  refine z_getR (t := 30) (pc' := 4) g_X3_31 (by decide) rfl rfl dX3_drown_1 rfl ?_
  refine z_iload_n (pc' := 5) 1 rfl rfl dX3_drown_4 rfl ?_
  refine z_invV (as := [zI a0]) (st := []) (C := m_X6_hasName) (fs := [33, 34]) (pc' := 8) dX3_drown_5 rfl t_3_191 k_X6_hasName rfl (by decide) rfl rfl rfl rfl (Nat.le_of_ble_eq_true rfl) ?_
  obtain ⟨r1, h⟩ := h
  refine c_Y_hasName r1 ?_
  show z_Wp m_X3_drown _ 8 [(0, zR 41), (1, zI a0), (2, zI a1)] [zI (F_Y_hasName w a0)] w _
  refine z_if_eq 32 dX3_drown_8 (by decide) (pc' := 11) rfl (z_rb b_Y_hasName) (fun c => ?_) (fun c => ?_)
  · have h := h.1 c
    rw [if_pos c] at k
    refine z_vret rfl dX3_drown_32 ?_
    exact k
  · have h := h.2 c
    rw [if_neg c] at k
    refine z_aload_n (pc' := 12) 0 rfl rfl dX3_drown_11 rfl ?_
    refine z_getR (t := 43) (pc' := 15) g_X3_19 (by decide) rfl rfl dX3_drown_12 rfl ?_
    refine z_iload_n (pc' := 16) 1 rfl rfl dX3_drown_15 rfl ?_
    refine z_aload_n (pc' := 17) 0 rfl rfl dX3_drown_16 rfl ?_
    refine z_iload_n (pc' := 18) 2 rfl rfl dX3_drown_17 rfl ?_
    refine z_invV (as := [zI a1]) (st := [zI a0, zR 43]) (C := m_X3_inside) (fs := [32, 44, 45, 46, 47, 48, 0, 0, 0]) (pc' := 21) dX3_drown_18 rfl t_3_129 k_X3_inside rfl (by decide) rfl rfl rfl rfl (Nat.le_of_ble_eq_true rfl) ?_
    obtain ⟨r2, h⟩ := h
    refine c_K_inside r2 ?_
    show z_Wp m_X3_drown _ 21 [(0, zR 41), (1, zI a0), (2, zI a1)] [zI (F_K_inside w a1), zI a0, zR 43] w _
    refine z_invS (as := [zI (F_K_inside w a1)]) (st := [zI a0, zR 43]) (C := m_J6_bitCount_0f7a4) (pc' := 24) dX3_drown_21 rfl t_3_226 k_J6_bitCount_0f7a4 rfl rfl (Nat.le_of_ble_eq_true rfl) ?_
    refine c_J_bitCount_0f7a4 ?_
    show z_Wp m_X3_drown _ 24 [(0, zR 41), (1, zI a0), (2, zI a1)] [zI (F_J_bitCount_0f7a4 w (F_K_inside w a1)), zI a0, zR 43] w _
    have r3 := h
    refine z_iast2 (w' := z_up w 43 a0.toNat (F_J_bitCount_0f7a4 w (F_K_inside w a1))) (pc' := 25) (by decide) rfl r3 (by decide) rfl dX3_drown_24 rfl ?_
    refine z_aload_n (pc' := 26) 0 rfl rfl dX3_drown_25 rfl ?_
    refine z_getR (t := 42) (pc' := 29) g_X3_15 (by decide) rfl rfl dX3_drown_26 rfl ?_
    refine z_iload_n (pc' := 30) 1 rfl rfl dX3_drown_29 rfl ?_
    refine z_iload_n (pc' := 31) 2 rfl rfl dX3_drown_30 rfl ?_
    refine z_iast2 (w' := z_up (z_up w 43 a0.toNat (F_J_bitCount_0f7a4 w (F_K_inside w a1))) 42 a0.toNat a1) (pc' := 32) (by decide) rfl r3 (by decide) rfl dX3_drown_31 rfl ?_
    refine z_vret rfl dX3_drown_32 ?_
    exact k
def A_K_lift_11 (w : z_Wd) (a0 : Int) : Nat → z_Wd
  | 0 => w
  | i7 + 1 => if F_K_liesOver (A_K_lift_11 w a0 i7) (i7 : Int) a0 = 0 then A_K_lift_11 w a0 i7 else z_up (A_K_lift_11 w a0 i7) 43 ((i7 : Int).toNat) (((A_K_lift_11 w a0 i7) 43 ((i7 : Int).toNat)) - 1)
def P_K_lift (w : z_Wd) (a0 : Int) : Prop := (P_K_isFree w a0) ∧ ((F_K_isFree w a0 = 0 → (∀ i7 : Nat, i7 < ((w 32 2).toNat) → (-2147483648 ≤ (i7 : Int) ∧ (i7 : Int) < 2147483648) ∧ (-2147483648 ≤ (A_K_lift_11 w a0 i7) 32 2 ∧ (A_K_lift_11 w a0 i7) 32 2 < 2147483648) ∧ ((A_K_lift_11 w a0 i7) 32 2 = w 32 2) ∧ (P_K_liesOver (A_K_lift_11 w a0 i7) (i7 : Int) a0) ∧ ((F_K_liesOver (A_K_lift_11 w a0 i7) (i7 : Int) a0 = 0 → True) ∧ (¬ (F_K_liesOver (A_K_lift_11 w a0 i7) (i7 : Int) a0 = 0) → 0 ≤ (i7 : Int) ∧ (i7 : Int) < 7))) ∧ ((-2147483648 ≤ (((w 32 2).toNat : Nat) : Int) ∧ (((w 32 2).toNat : Nat) : Int) < 2147483648) ∧ (-2147483648 ≤ (A_K_lift_11 w a0 (w 32 2).toNat) 32 2 ∧ (A_K_lift_11 w a0 (w 32 2).toNat) 32 2 < 2147483648) ∧ ((A_K_lift_11 w a0 (w 32 2).toNat) 32 2 = w 32 2) ∧ (0 ≤ a0 ∧ a0 < 7))) ∧ (¬ (F_K_isFree w a0 = 0) → True))
def F_K_lift (w : z_Wd) (a0 : Int) : z_Wd := if F_K_isFree w a0 = 0 then z_up (z_up (A_K_lift_11 w a0 (w 32 2).toNat) 42 a0.toNat (-1)) 43 a0.toNat 0 else w
set_option maxRecDepth 4000 in
theorem c_K_lift {d : Nat} {w : z_Wd} {a0 : Int} {Q : Option z_V → z_Wd → Prop} (h : P_K_lift w a0) (k : Q none (F_K_lift w a0)) : z_Wc (d + 3) m_X3_lift [zR 41, zI a0] w Q := by
  unfold P_K_lift at h
  unfold F_K_lift at k
  refine z_enter rfl (Nat.le_of_ble_eq_true rfl) ?_
  show z_Wp m_X3_lift _ 0 [(0, zR 41), (1, zI a0)] [] w _
  refine z_aload_n (pc' := 1) 0 rfl rfl dX3_lift_0 rfl ?_
  refine z_iload_n (pc' := 2) 1 rfl rfl dX3_lift_1 rfl ?_
  refine z_invV (as := [zI a0]) (st := []) (C := m_X3_isFree) (fs := [32, 44, 45, 46, 47, 48, 0, 0, 0]) (pc' := 5) dX3_lift_2 rfl t_4_12 k_X3_isFree rfl (by decide) rfl rfl rfl rfl (Nat.le_of_ble_eq_true rfl) ?_
  obtain ⟨r1, h⟩ := h
  refine c_K_isFree r1 ?_
  show z_Wp m_X3_lift _ 5 [(0, zR 41), (1, zI a0)] [zI (F_K_isFree w a0)] w _
  refine z_if_eq 9 dX3_lift_5 (by decide) (pc' := 8) rfl (z_rb b_K_isFree) (fun c => ?_) (fun c => ?_)
  · have h := h.1 c
    rw [if_pos c] at k
    refine z_iconst (pc' := 10) dX3_lift_9 rfl ?_
    refine z_istore_n (pc' := 11) (ls' := [(0, zR 41), (1, zI a0), (2, zI 0)]) rfl (by decide) rfl rfl dX3_lift_10 rfl ?_
    refine z_upto ((w 32 2).toNat) (fun i7 => z_Wp m_X3_lift (d + 3) 11 [(0, zR 41), (1, zI a0), (2, zI (i7 : Int))] [] (A_K_lift_11 w a0 i7) Q) ?_ ?_
    · skip
      have h := h.2
      refine z_iload_n (pc' := 12) 2 rfl rfl dX3_lift_11 rfl ?_
      refine z_aload_n (pc' := 13) 0 rfl rfl dX3_lift_12 rfl ?_
      refine z_getR (t := 30) (pc' := 16) g_X3_31 (by decide) rfl rfl dX3_lift_13 rfl ?_
      refine z_invV (as := []) (st := [zI (((w 32 2).toNat : Nat) : Int)]) (C := m_X6_names) (fs := [33, 34]) (pc' := 19) dX3_lift_16 rfl t_3_133 k_X6_names rfl (by decide) rfl rfl rfl rfl (Nat.le_of_ble_eq_true rfl) ?_
      refine c_Y_names ?_
      show z_Wp m_X3_lift _ 19 [(0, zR 41), (1, zI a0), (2, zI (((w 32 2).toNat : Nat) : Int))] [zI ((A_K_lift_11 w a0 (w 32 2).toNat) 32 2), zI (((w 32 2).toNat : Nat) : Int)] (A_K_lift_11 w a0 (w 32 2).toNat) _
      obtain ⟨r13, h⟩ := h
      obtain ⟨r14, h⟩ := h
      obtain ⟨r15, h⟩ := h
      refine z_icmp_ge 47 dX3_lift_19 (by decide) (pc' := 22) rfl r13 r14 (fun _ => ?_) (fun c => absurd c (by first | omega | (rw [r15]; first | exact z_exitgt | exact z_exitge | omega)))
      refine z_aload_n (pc' := 48) 0 rfl rfl dX3_lift_47 rfl ?_
      refine z_getR (t := 42) (pc' := 51) g_X3_15 (by decide) rfl rfl dX3_lift_48 rfl ?_
      refine z_iload_n (pc' := 52) 1 rfl rfl dX3_lift_51 rfl ?_
      refine z_iconst (pc' := 53) dX3_lift_52 rfl ?_
      have r16 := h
      refine z_iast2 (w' := z_up (A_K_lift_11 w a0 (w 32 2).toNat) 42 a0.toNat (-1)) (pc' := 54) (by decide) rfl r16 (by decide) rfl dX3_lift_53 rfl ?_
      refine z_aload_n (pc' := 55) 0 rfl rfl dX3_lift_54 rfl ?_
      refine z_getR (t := 43) (pc' := 58) g_X3_19 (by decide) rfl rfl dX3_lift_55 rfl ?_
      refine z_iload_n (pc' := 59) 1 rfl rfl dX3_lift_58 rfl ?_
      refine z_iconst (pc' := 60) dX3_lift_59 rfl ?_
      refine z_iast2 (w' := z_up (z_up (A_K_lift_11 w a0 (w 32 2).toNat) 42 a0.toNat (-1)) 43 a0.toNat 0) (pc' := 61) (by decide) rfl r16 (by decide) rfl dX3_lift_60 rfl ?_
      refine z_vret rfl dX3_lift_61 ?_
      exact k
    · intro i7 hi ih
      have h := h.1 i7 hi
      have ih : z_Wp m_X3_lift (d + 3) 11 [(0, zR 41), (1, zI a0), (2, zI ((i7 + 1 : Nat) : Int))] [] (if F_K_liesOver (A_K_lift_11 w a0 i7) (i7 : Int) a0 = 0 then A_K_lift_11 w a0 i7 else z_up (A_K_lift_11 w a0 i7) 43 ((i7 : Int).toNat) (((A_K_lift_11 w a0 i7) 43 ((i7 : Int).toNat)) - 1)) Q := ih
      refine z_iload_n (pc' := 12) 2 rfl rfl dX3_lift_11 rfl ?_
      refine z_aload_n (pc' := 13) 0 rfl rfl dX3_lift_12 rfl ?_
      refine z_getR (t := 30) (pc' := 16) g_X3_31 (by decide) rfl rfl dX3_lift_13 rfl ?_
      refine z_invV (as := []) (st := [zI (i7 : Int)]) (C := m_X6_names) (fs := [33, 34]) (pc' := 19) dX3_lift_16 rfl t_3_133 k_X6_names rfl (by decide) rfl rfl rfl rfl (Nat.le_of_ble_eq_true rfl) ?_
      refine c_Y_names ?_
      show z_Wp m_X3_lift _ 19 [(0, zR 41), (1, zI a0), (2, zI (i7 : Int))] [zI ((A_K_lift_11 w a0 i7) 32 2), zI (i7 : Int)] (A_K_lift_11 w a0 i7) _
      obtain ⟨r8, h⟩ := h
      obtain ⟨r9, h⟩ := h
      obtain ⟨r10, h⟩ := h
      refine z_icmp_ge 47 dX3_lift_19 (by decide) (pc' := 22) rfl r8 r9 (fun c => absurd c (by first | omega | (rw [r10]; first | exact z_exitgt | exact z_exitge | omega))) (fun _ => ?_)
      refine z_aload_n (pc' := 23) 0 rfl rfl dX3_lift_22 rfl ?_
      refine z_iload_n (pc' := 24) 2 rfl rfl dX3_lift_23 rfl ?_
      refine z_iload_n (pc' := 25) 1 rfl rfl dX3_lift_24 rfl ?_
      refine z_invV (as := [zI (i7 : Int), zI a0]) (st := []) (C := m_X3_liesOver) (fs := [32, 44, 45, 46, 47, 48, 0, 0, 0]) (pc' := 28) dX3_lift_25 rfl t_4_0 k_X3_liesOver rfl (by decide) rfl rfl rfl rfl (Nat.le_of_ble_eq_true rfl) ?_
      obtain ⟨r11, h⟩ := h
      refine c_K_liesOver r11 ?_
      show z_Wp m_X3_lift _ 28 [(0, zR 41), (1, zI a0), (2, zI (i7 : Int))] [zI (F_K_liesOver (A_K_lift_11 w a0 i7) (i7 : Int) a0)] (A_K_lift_11 w a0 i7) _
      refine z_if_eq 41 dX3_lift_28 (by decide) (pc' := 31) rfl (z_rb b_K_liesOver) (fun c98 => ?_) (fun c98 => ?_)
      · have h := h.1 c98
        rw [if_pos c98] at ih
        refine z_iinc (pc' := 44) (ls' := [(0, zR 41), (1, zI a0), (2, zI ((i7 : Int) + 1))]) 2 rfl (by decide) rfl rfl dX3_lift_41 rfl ?_
        refine z_goto 11 dX3_lift_44 (by decide) ?_
        exact ih
      · have h := h.2 c98
        rw [if_neg c98] at ih
        refine z_aload_n (pc' := 32) 0 rfl rfl dX3_lift_31 rfl ?_
        refine z_getR (t := 43) (pc' := 35) g_X3_19 (by decide) rfl rfl dX3_lift_32 rfl ?_
        refine z_iload_n (pc' := 36) 2 rfl rfl dX3_lift_35 rfl ?_
        refine z_dup2 (pc' := 37) rfl rfl dX3_lift_36 rfl ?_
        have r12 := h
        refine z_iald2 (v := (A_K_lift_11 w a0 i7) 43 ((i7 : Int).toNat)) (pc' := 38) (by decide) rfl r12 (by decide) rfl dX3_lift_37 rfl ?_
        refine z_iconst (pc' := 39) dX3_lift_38 rfl ?_
        refine z_isub (pc' := 40) dX3_lift_39 rfl ?_
        refine z_iast2 (w' := z_up (A_K_lift_11 w a0 i7) 43 ((i7 : Int).toNat) (((A_K_lift_11 w a0 i7) 43 ((i7 : Int).toNat)) - 1)) (pc' := 41) (by decide) rfl r12 (by decide) rfl dX3_lift_40 rfl ?_
        refine z_iinc (pc' := 44) (ls' := [(0, zR 41), (1, zI a0), (2, zI ((i7 : Int) + 1))]) 2 rfl (by decide) rfl rfl dX3_lift_41 rfl ?_
        refine z_goto 11 dX3_lift_44 (by decide) ?_
        exact ih
  · have h := h.2 c
    rw [if_neg c] at k
    refine z_vret rfl dX3_lift_8 ?_
    exact k
def P_K_deepen (w : z_Wd) (a0 : Int) : Prop := (P_Y_hasWell w a0) ∧ ((F_Y_hasWell w a0 = 0 → True) ∧ (¬ (F_Y_hasWell w a0 = 0) → 0 ≤ a0 ∧ a0 < 4))
def F_K_deepen (w : z_Wd) (a0 : Int) : z_Wd := if F_Y_hasWell w a0 = 0 then w else z_up w 44 a0.toNat ((w 44 a0.toNat) + 1)
set_option maxRecDepth 4000 in
theorem c_K_deepen {d : Nat} {w : z_Wd} {a0 : Int} {Q : Option z_V → z_Wd → Prop} (h : P_K_deepen w a0) (k : Q none (F_K_deepen w a0)) : z_Wc (d + 1) m_X3_deepen [zR 41, zI a0] w Q := by
  unfold P_K_deepen at h
  unfold F_K_deepen at k
  refine z_enter rfl (Nat.le_of_ble_eq_true rfl) ?_
  show z_Wp m_X3_deepen _ 0 [(0, zR 41), (1, zI a0)] [] w _
  refine z_aload_n (pc' := 1) 0 rfl rfl dX3_deepen_0 rfl ?_
  refine z_getR (t := 30) (pc' := 4) g_X3_31 (by decide) rfl rfl dX3_deepen_1 rfl ?_
  refine z_iload_n (pc' := 5) 1 rfl rfl dX3_deepen_4 rfl ?_
  refine z_invV (as := [zI a0]) (st := []) (C := m_X6_hasWell) (fs := [33, 34]) (pc' := 8) dX3_deepen_5 rfl t_3_119 k_X6_hasWell rfl (by decide) rfl rfl rfl rfl (Nat.le_of_ble_eq_true rfl) ?_
  obtain ⟨r1, h⟩ := h
  refine c_Y_hasWell r1 ?_
  show z_Wp m_X3_deepen _ 8 [(0, zR 41), (1, zI a0)] [zI (F_Y_hasWell w a0)] w _
  refine z_if_eq 21 dX3_deepen_8 (by decide) (pc' := 11) rfl (z_rb b_Y_hasWell) (fun c => ?_) (fun c => ?_)
  · have h := h.1 c
    rw [if_pos c] at k
    refine z_vret rfl dX3_deepen_21 ?_
    exact k
  · have h := h.2 c
    rw [if_neg c] at k
    refine z_aload_n (pc' := 12) 0 rfl rfl dX3_deepen_11 rfl ?_
    refine z_getR (t := 44) (pc' := 15) g_X3_22 (by decide) rfl rfl dX3_deepen_12 rfl ?_
    refine z_iload_n (pc' := 16) 1 rfl rfl dX3_deepen_15 rfl ?_
    refine z_dup2 (pc' := 17) rfl rfl dX3_deepen_16 rfl ?_
    have r2 := h
    refine z_iald2 (v := w 44 a0.toNat) (pc' := 18) (by decide) rfl r2 (by decide) rfl dX3_deepen_17 rfl ?_
    refine z_iconst (pc' := 19) dX3_deepen_18 rfl ?_
    refine z_iadd (pc' := 20) dX3_deepen_19 rfl ?_
    refine z_iast2 (w' := z_up w 44 a0.toNat ((w 44 a0.toNat) + 1)) (pc' := 21) (by decide) rfl r2 (by decide) rfl dX3_deepen_20 rfl ?_
    refine z_vret rfl dX3_deepen_21 ?_
    exact k
def P_K_passYear (w : z_Wd) (a0 : Int) : Prop := (P_J_min_7cf53 w 9999 ((w 41 7) + a0)) ∧ (P_K_inside (z_up w 41 7 (F_J_min_7cf53 w 9999 ((w 41 7) + a0))) (-1)) ∧ (P_K_earn (z_up w 41 7 (F_J_min_7cf53 w 9999 ((w 41 7) + a0))) (F_J_bitCount_0f7a4 (z_up w 41 7 (F_J_min_7cf53 w 9999 ((w 41 7) + a0))) (F_K_inside (z_up w 41 7 (F_J_min_7cf53 w 9999 ((w 41 7) + a0))) (-1)))) ∧ (P_J_floorMod_7cf53 (F_K_earn (z_up w 41 7 (F_J_min_7cf53 w 9999 ((w 41 7) + a0))) (F_J_bitCount_0f7a4 (z_up w 41 7 (F_J_min_7cf53 w 9999 ((w 41 7) + a0))) (F_K_inside (z_up w 41 7 (F_J_min_7cf53 w 9999 ((w 41 7) + a0))) (-1)))) (((F_K_earn (z_up w 41 7 (F_J_min_7cf53 w 9999 ((w 41 7) + a0))) (F_J_bitCount_0f7a4 (z_up w 41 7 (F_J_min_7cf53 w 9999 ((w 41 7) + a0))) (F_K_inside (z_up w 41 7 (F_J_min_7cf53 w 9999 ((w 41 7) + a0))) (-1)))) 41 8) - 0) 100) ∧ (P_K_inside (F_K_earn (z_up w 41 7 (F_J_min_7cf53 w 9999 ((w 41 7) + a0))) (F_J_bitCount_0f7a4 (z_up w 41 7 (F_J_min_7cf53 w 9999 ((w 41 7) + a0))) (F_K_inside (z_up w 41 7 (F_J_min_7cf53 w 9999 ((w 41 7) + a0))) (-1)))) (-1)) ∧ (0 ≤ F_J_floorMod_7cf53 (F_K_earn (z_up w 41 7 (F_J_min_7cf53 w 9999 ((w 41 7) + a0))) (F_J_bitCount_0f7a4 (z_up w 41 7 (F_J_min_7cf53 w 9999 ((w 41 7) + a0))) (F_K_inside (z_up w 41 7 (F_J_min_7cf53 w 9999 ((w 41 7) + a0))) (-1)))) ((F_K_earn (z_up w 41 7 (F_J_min_7cf53 w 9999 ((w 41 7) + a0))) (F_J_bitCount_0f7a4 (z_up w 41 7 (F_J_min_7cf53 w 9999 ((w 41 7) + a0))) (F_K_inside (z_up w 41 7 (F_J_min_7cf53 w 9999 ((w 41 7) + a0))) (-1)))) 41 8) 100 ∧ F_J_floorMod_7cf53 (F_K_earn (z_up w 41 7 (F_J_min_7cf53 w 9999 ((w 41 7) + a0))) (F_J_bitCount_0f7a4 (z_up w 41 7 (F_J_min_7cf53 w 9999 ((w 41 7) + a0))) (F_K_inside (z_up w 41 7 (F_J_min_7cf53 w 9999 ((w 41 7) + a0))) (-1)))) ((F_K_earn (z_up w 41 7 (F_J_min_7cf53 w 9999 ((w 41 7) + a0))) (F_J_bitCount_0f7a4 (z_up w 41 7 (F_J_min_7cf53 w 9999 ((w 41 7) + a0))) (F_K_inside (z_up w 41 7 (F_J_min_7cf53 w 9999 ((w 41 7) + a0))) (-1)))) 41 8) 100 < 100) ∧ (P_J_floorMod_7cf53 (z_up (F_K_earn (z_up w 41 7 (F_J_min_7cf53 w 9999 ((w 41 7) + a0))) (F_J_bitCount_0f7a4 (z_up w 41 7 (F_J_min_7cf53 w 9999 ((w 41 7) + a0))) (F_K_inside (z_up w 41 7 (F_J_min_7cf53 w 9999 ((w 41 7) + a0))) (-1)))) 45 ((F_J_floorMod_7cf53 (F_K_earn (z_up w 41 7 (F_J_min_7cf53 w 9999 ((w 41 7) + a0))) (F_J_bitCount_0f7a4 (z_up w 41 7 (F_J_min_7cf53 w 9999 ((w 41 7) + a0))) (F_K_inside (z_up w 41 7 (F_J_min_7cf53 w 9999 ((w 41 7) + a0))) (-1)))) ((F_K_earn (z_up w 41 7 (F_J_min_7cf53 w 9999 ((w 41 7) + a0))) (F_J_bitCount_0f7a4 (z_up w 41 7 (F_J_min_7cf53 w 9999 ((w 41 7) + a0))) (F_K_inside (z_up w 41 7 (F_J_min_7cf53 w 9999 ((w 41 7) + a0))) (-1)))) 41 8) 100).toNat) (zz_and ((zz_shl 1 ((F_K_earn (z_up w 41 7 (F_J_min_7cf53 w 9999 ((w 41 7) + a0))) (F_J_bitCount_0f7a4 (z_up w 41 7 (F_J_min_7cf53 w 9999 ((w 41 7) + a0))) (F_K_inside (z_up w 41 7 (F_J_min_7cf53 w 9999 ((w 41 7) + a0))) (-1)))) 32 2)) - 1) (zz_xor (F_K_inside (F_K_earn (z_up w 41 7 (F_J_min_7cf53 w 9999 ((w 41 7) + a0))) (F_J_bitCount_0f7a4 (z_up w 41 7 (F_J_min_7cf53 w 9999 ((w 41 7) + a0))) (F_K_inside (z_up w 41 7 (F_J_min_7cf53 w 9999 ((w 41 7) + a0))) (-1)))) (-1)) (-1)))) (((F_K_earn (z_up w 41 7 (F_J_min_7cf53 w 9999 ((w 41 7) + a0))) (F_J_bitCount_0f7a4 (z_up w 41 7 (F_J_min_7cf53 w 9999 ((w 41 7) + a0))) (F_K_inside (z_up w 41 7 (F_J_min_7cf53 w 9999 ((w 41 7) + a0))) (-1)))) 41 8) - 0) 100) ∧ (0 ≤ F_J_floorMod_7cf53 (z_up (F_K_earn (z_up w 41 7 (F_J_min_7cf53 w 9999 ((w 41 7) + a0))) (F_J_bitCount_0f7a4 (z_up w 41 7 (F_J_min_7cf53 w 9999 ((w 41 7) + a0))) (F_K_inside (z_up w 41 7 (F_J_min_7cf53 w 9999 ((w 41 7) + a0))) (-1)))) 45 ((F_J_floorMod_7cf53 (F_K_earn (z_up w 41 7 (F_J_min_7cf53 w 9999 ((w 41 7) + a0))) (F_J_bitCount_0f7a4 (z_up w 41 7 (F_J_min_7cf53 w 9999 ((w 41 7) + a0))) (F_K_inside (z_up w 41 7 (F_J_min_7cf53 w 9999 ((w 41 7) + a0))) (-1)))) ((F_K_earn (z_up w 41 7 (F_J_min_7cf53 w 9999 ((w 41 7) + a0))) (F_J_bitCount_0f7a4 (z_up w 41 7 (F_J_min_7cf53 w 9999 ((w 41 7) + a0))) (F_K_inside (z_up w 41 7 (F_J_min_7cf53 w 9999 ((w 41 7) + a0))) (-1)))) 41 8) 100).toNat) (zz_and ((zz_shl 1 ((F_K_earn (z_up w 41 7 (F_J_min_7cf53 w 9999 ((w 41 7) + a0))) (F_J_bitCount_0f7a4 (z_up w 41 7 (F_J_min_7cf53 w 9999 ((w 41 7) + a0))) (F_K_inside (z_up w 41 7 (F_J_min_7cf53 w 9999 ((w 41 7) + a0))) (-1)))) 32 2)) - 1) (zz_xor (F_K_inside (F_K_earn (z_up w 41 7 (F_J_min_7cf53 w 9999 ((w 41 7) + a0))) (F_J_bitCount_0f7a4 (z_up w 41 7 (F_J_min_7cf53 w 9999 ((w 41 7) + a0))) (F_K_inside (z_up w 41 7 (F_J_min_7cf53 w 9999 ((w 41 7) + a0))) (-1)))) (-1)) (-1)))) ((F_K_earn (z_up w 41 7 (F_J_min_7cf53 w 9999 ((w 41 7) + a0))) (F_J_bitCount_0f7a4 (z_up w 41 7 (F_J_min_7cf53 w 9999 ((w 41 7) + a0))) (F_K_inside (z_up w 41 7 (F_J_min_7cf53 w 9999 ((w 41 7) + a0))) (-1)))) 41 8) 100 ∧ F_J_floorMod_7cf53 (z_up (F_K_earn (z_up w 41 7 (F_J_min_7cf53 w 9999 ((w 41 7) + a0))) (F_J_bitCount_0f7a4 (z_up w 41 7 (F_J_min_7cf53 w 9999 ((w 41 7) + a0))) (F_K_inside (z_up w 41 7 (F_J_min_7cf53 w 9999 ((w 41 7) + a0))) (-1)))) 45 ((F_J_floorMod_7cf53 (F_K_earn (z_up w 41 7 (F_J_min_7cf53 w 9999 ((w 41 7) + a0))) (F_J_bitCount_0f7a4 (z_up w 41 7 (F_J_min_7cf53 w 9999 ((w 41 7) + a0))) (F_K_inside (z_up w 41 7 (F_J_min_7cf53 w 9999 ((w 41 7) + a0))) (-1)))) ((F_K_earn (z_up w 41 7 (F_J_min_7cf53 w 9999 ((w 41 7) + a0))) (F_J_bitCount_0f7a4 (z_up w 41 7 (F_J_min_7cf53 w 9999 ((w 41 7) + a0))) (F_K_inside (z_up w 41 7 (F_J_min_7cf53 w 9999 ((w 41 7) + a0))) (-1)))) 41 8) 100).toNat) (zz_and ((zz_shl 1 ((F_K_earn (z_up w 41 7 (F_J_min_7cf53 w 9999 ((w 41 7) + a0))) (F_J_bitCount_0f7a4 (z_up w 41 7 (F_J_min_7cf53 w 9999 ((w 41 7) + a0))) (F_K_inside (z_up w 41 7 (F_J_min_7cf53 w 9999 ((w 41 7) + a0))) (-1)))) 32 2)) - 1) (zz_xor (F_K_inside (F_K_earn (z_up w 41 7 (F_J_min_7cf53 w 9999 ((w 41 7) + a0))) (F_J_bitCount_0f7a4 (z_up w 41 7 (F_J_min_7cf53 w 9999 ((w 41 7) + a0))) (F_K_inside (z_up w 41 7 (F_J_min_7cf53 w 9999 ((w 41 7) + a0))) (-1)))) (-1)) (-1)))) ((F_K_earn (z_up w 41 7 (F_J_min_7cf53 w 9999 ((w 41 7) + a0))) (F_J_bitCount_0f7a4 (z_up w 41 7 (F_J_min_7cf53 w 9999 ((w 41 7) + a0))) (F_K_inside (z_up w 41 7 (F_J_min_7cf53 w 9999 ((w 41 7) + a0))) (-1)))) 41 8) 100 < 100)
def F_K_passYear (w : z_Wd) (a0 : Int) : z_Wd := z_up (z_up (z_up (F_K_earn (z_up w 41 7 (F_J_min_7cf53 w 9999 ((w 41 7) + a0))) (F_J_bitCount_0f7a4 (z_up w 41 7 (F_J_min_7cf53 w 9999 ((w 41 7) + a0))) (F_K_inside (z_up w 41 7 (F_J_min_7cf53 w 9999 ((w 41 7) + a0))) (-1)))) 45 ((F_J_floorMod_7cf53 (F_K_earn (z_up w 41 7 (F_J_min_7cf53 w 9999 ((w 41 7) + a0))) (F_J_bitCount_0f7a4 (z_up w 41 7 (F_J_min_7cf53 w 9999 ((w 41 7) + a0))) (F_K_inside (z_up w 41 7 (F_J_min_7cf53 w 9999 ((w 41 7) + a0))) (-1)))) ((F_K_earn (z_up w 41 7 (F_J_min_7cf53 w 9999 ((w 41 7) + a0))) (F_J_bitCount_0f7a4 (z_up w 41 7 (F_J_min_7cf53 w 9999 ((w 41 7) + a0))) (F_K_inside (z_up w 41 7 (F_J_min_7cf53 w 9999 ((w 41 7) + a0))) (-1)))) 41 8) 100).toNat) (zz_and ((zz_shl 1 ((F_K_earn (z_up w 41 7 (F_J_min_7cf53 w 9999 ((w 41 7) + a0))) (F_J_bitCount_0f7a4 (z_up w 41 7 (F_J_min_7cf53 w 9999 ((w 41 7) + a0))) (F_K_inside (z_up w 41 7 (F_J_min_7cf53 w 9999 ((w 41 7) + a0))) (-1)))) 32 2)) - 1) (zz_xor (F_K_inside (F_K_earn (z_up w 41 7 (F_J_min_7cf53 w 9999 ((w 41 7) + a0))) (F_J_bitCount_0f7a4 (z_up w 41 7 (F_J_min_7cf53 w 9999 ((w 41 7) + a0))) (F_K_inside (z_up w 41 7 (F_J_min_7cf53 w 9999 ((w 41 7) + a0))) (-1)))) (-1)) (-1)))) 46 ((F_J_floorMod_7cf53 (z_up (F_K_earn (z_up w 41 7 (F_J_min_7cf53 w 9999 ((w 41 7) + a0))) (F_J_bitCount_0f7a4 (z_up w 41 7 (F_J_min_7cf53 w 9999 ((w 41 7) + a0))) (F_K_inside (z_up w 41 7 (F_J_min_7cf53 w 9999 ((w 41 7) + a0))) (-1)))) 45 ((F_J_floorMod_7cf53 (F_K_earn (z_up w 41 7 (F_J_min_7cf53 w 9999 ((w 41 7) + a0))) (F_J_bitCount_0f7a4 (z_up w 41 7 (F_J_min_7cf53 w 9999 ((w 41 7) + a0))) (F_K_inside (z_up w 41 7 (F_J_min_7cf53 w 9999 ((w 41 7) + a0))) (-1)))) ((F_K_earn (z_up w 41 7 (F_J_min_7cf53 w 9999 ((w 41 7) + a0))) (F_J_bitCount_0f7a4 (z_up w 41 7 (F_J_min_7cf53 w 9999 ((w 41 7) + a0))) (F_K_inside (z_up w 41 7 (F_J_min_7cf53 w 9999 ((w 41 7) + a0))) (-1)))) 41 8) 100).toNat) (zz_and ((zz_shl 1 ((F_K_earn (z_up w 41 7 (F_J_min_7cf53 w 9999 ((w 41 7) + a0))) (F_J_bitCount_0f7a4 (z_up w 41 7 (F_J_min_7cf53 w 9999 ((w 41 7) + a0))) (F_K_inside (z_up w 41 7 (F_J_min_7cf53 w 9999 ((w 41 7) + a0))) (-1)))) 32 2)) - 1) (zz_xor (F_K_inside (F_K_earn (z_up w 41 7 (F_J_min_7cf53 w 9999 ((w 41 7) + a0))) (F_J_bitCount_0f7a4 (z_up w 41 7 (F_J_min_7cf53 w 9999 ((w 41 7) + a0))) (F_K_inside (z_up w 41 7 (F_J_min_7cf53 w 9999 ((w 41 7) + a0))) (-1)))) (-1)) (-1)))) ((F_K_earn (z_up w 41 7 (F_J_min_7cf53 w 9999 ((w 41 7) + a0))) (F_J_bitCount_0f7a4 (z_up w 41 7 (F_J_min_7cf53 w 9999 ((w 41 7) + a0))) (F_K_inside (z_up w 41 7 (F_J_min_7cf53 w 9999 ((w 41 7) + a0))) (-1)))) 41 8) 100).toNat) a0) 41 8 (((F_K_earn (z_up w 41 7 (F_J_min_7cf53 w 9999 ((w 41 7) + a0))) (F_J_bitCount_0f7a4 (z_up w 41 7 (F_J_min_7cf53 w 9999 ((w 41 7) + a0))) (F_K_inside (z_up w 41 7 (F_J_min_7cf53 w 9999 ((w 41 7) + a0))) (-1)))) 41 8) + 1)
set_option maxRecDepth 4000 in
theorem c_K_passYear {d : Nat} {w : z_Wd} {a0 : Int} {Q : Option z_V → z_Wd → Prop} (h : P_K_passYear w a0) (k : Q none (F_K_passYear w a0)) : z_Wc (d + 3) m_X3_passYear [zR 41, zI a0] w Q := by
  unfold P_K_passYear at h
  unfold F_K_passYear at k
  refine z_enter rfl (Nat.le_of_ble_eq_true rfl) ?_
  show z_Wp m_X3_passYear _ 0 [(0, zR 41), (1, zI a0)] [] w _
  refine z_aload_n (pc' := 1) 0 rfl rfl dX3_passYear_0 rfl ?_
  refine z_sipush (pc' := 4) (by decide) dX3_passYear_1 rfl ?_
  refine z_aload_n (pc' := 5) 0 rfl rfl dX3_passYear_4 rfl ?_
  refine z_getI2 (v := w 41 7) (pc' := 8) g_X3_47 (by decide) rfl rfl rfl dX3_passYear_5 rfl ?_
  refine z_iload_n (pc' := 9) 1 rfl rfl dX3_passYear_8 rfl ?_
  refine z_iadd (pc' := 10) dX3_passYear_9 rfl ?_
  refine z_invS (as := [zI 9999, zI ((w 41 7) + a0)]) (st := [zR 41]) (C := m_J9_min_7cf53) (pc' := 13) dX3_passYear_10 rfl t_4_53 k_J9_min_7cf53 rfl rfl (Nat.le_of_ble_eq_true rfl) ?_
  obtain ⟨r1, h⟩ := h
  refine c_J_min_7cf53 r1 ?_
  show z_Wp m_X3_passYear _ 13 [(0, zR 41), (1, zI a0)] [zI (F_J_min_7cf53 w 9999 ((w 41 7) + a0)), zR 41] w _
  refine z_putI (pc' := 16) p_X3_47 (by decide) rfl rfl rfl rfl dX3_passYear_13 rfl ?_
  refine z_aload_n (pc' := 17) 0 rfl rfl dX3_passYear_16 rfl ?_
  refine z_aload_n (pc' := 18) 0 rfl rfl dX3_passYear_17 rfl ?_
  refine z_invV (as := []) (st := [zR 41]) (C := m_X3_free) (fs := [32, 44, 45, 46, 47, 48, 0, 0, 0]) (pc' := 21) dX3_passYear_18 rfl t_4_122 k_X3_free rfl (by decide) rfl rfl rfl rfl (Nat.le_of_ble_eq_true rfl) ?_
  obtain ⟨r2, h⟩ := h
  refine c_K_free r2 ?_
  show z_Wp m_X3_passYear _ 21 [(0, zR 41), (1, zI a0)] [zI (F_K_inside (z_up w 41 7 (F_J_min_7cf53 w 9999 ((w 41 7) + a0))) (-1)), zR 41] (z_up w 41 7 (F_J_min_7cf53 w 9999 ((w 41 7) + a0))) _
  refine z_invS (as := [zI (F_K_inside (z_up w 41 7 (F_J_min_7cf53 w 9999 ((w 41 7) + a0))) (-1))]) (st := [zR 41]) (C := m_J6_bitCount_0f7a4) (pc' := 24) dX3_passYear_21 rfl t_3_226 k_J6_bitCount_0f7a4 rfl rfl (Nat.le_of_ble_eq_true rfl) ?_
  refine c_J_bitCount_0f7a4 ?_
  show z_Wp m_X3_passYear _ 24 [(0, zR 41), (1, zI a0)] [zI (F_J_bitCount_0f7a4 (z_up w 41 7 (F_J_min_7cf53 w 9999 ((w 41 7) + a0))) (F_K_inside (z_up w 41 7 (F_J_min_7cf53 w 9999 ((w 41 7) + a0))) (-1))), zR 41] (z_up w 41 7 (F_J_min_7cf53 w 9999 ((w 41 7) + a0))) _
  refine z_invV (as := [zI (F_J_bitCount_0f7a4 (z_up w 41 7 (F_J_min_7cf53 w 9999 ((w 41 7) + a0))) (F_K_inside (z_up w 41 7 (F_J_min_7cf53 w 9999 ((w 41 7) + a0))) (-1)))]) (st := []) (C := m_X3_earn) (fs := [32, 44, 45, 46, 47, 48, 0, 0, 0]) (pc' := 27) dX3_passYear_24 rfl t_4_123 k_X3_earn rfl (by decide) rfl rfl rfl rfl (Nat.le_of_ble_eq_true rfl) ?_
  obtain ⟨r3, h⟩ := h
  refine c_K_earn r3 ?_
  show z_Wp m_X3_passYear _ 27 [(0, zR 41), (1, zI a0)] [] (F_K_earn (z_up w 41 7 (F_J_min_7cf53 w 9999 ((w 41 7) + a0))) (F_J_bitCount_0f7a4 (z_up w 41 7 (F_J_min_7cf53 w 9999 ((w 41 7) + a0))) (F_K_inside (z_up w 41 7 (F_J_min_7cf53 w 9999 ((w 41 7) + a0))) (-1)))) _
  refine z_aload_n (pc' := 28) 0 rfl rfl dX3_passYear_27 rfl ?_
  refine z_getR (t := 45) (pc' := 31) g_X3_25 (by decide) rfl rfl dX3_passYear_28 rfl ?_
  refine z_aload_n (pc' := 32) 0 rfl rfl dX3_passYear_31 rfl ?_
  refine z_iconst (pc' := 33) dX3_passYear_32 rfl ?_
  refine z_invV (as := [zI 0]) (st := [zR 45]) (C := m_X3_logCell) (fs := [32, 44, 45, 46, 47, 48, 0, 0, 0]) (pc' := 36) dX3_passYear_33 rfl t_4_124 k_X3_logCell rfl (by decide) rfl rfl rfl rfl (Nat.le_of_ble_eq_true rfl) ?_
  obtain ⟨r4, h⟩ := h
  refine c_K_logCell r4 ?_
  show z_Wp m_X3_passYear _ 36 [(0, zR 41), (1, zI a0)] [zI (F_J_floorMod_7cf53 (F_K_earn (z_up w 41 7 (F_J_min_7cf53 w 9999 ((w 41 7) + a0))) (F_J_bitCount_0f7a4 (z_up w 41 7 (F_J_min_7cf53 w 9999 ((w 41 7) + a0))) (F_K_inside (z_up w 41 7 (F_J_min_7cf53 w 9999 ((w 41 7) + a0))) (-1)))) (((F_K_earn (z_up w 41 7 (F_J_min_7cf53 w 9999 ((w 41 7) + a0))) (F_J_bitCount_0f7a4 (z_up w 41 7 (F_J_min_7cf53 w 9999 ((w 41 7) + a0))) (F_K_inside (z_up w 41 7 (F_J_min_7cf53 w 9999 ((w 41 7) + a0))) (-1)))) 41 8) - 0) 100), zR 45] (F_K_earn (z_up w 41 7 (F_J_min_7cf53 w 9999 ((w 41 7) + a0))) (F_J_bitCount_0f7a4 (z_up w 41 7 (F_J_min_7cf53 w 9999 ((w 41 7) + a0))) (F_K_inside (z_up w 41 7 (F_J_min_7cf53 w 9999 ((w 41 7) + a0))) (-1)))) _
  refine z_eqI (y := F_J_floorMod_7cf53 (F_K_earn (z_up w 41 7 (F_J_min_7cf53 w 9999 ((w 41 7) + a0))) (F_J_bitCount_0f7a4 (z_up w 41 7 (F_J_min_7cf53 w 9999 ((w 41 7) + a0))) (F_K_inside (z_up w 41 7 (F_J_min_7cf53 w 9999 ((w 41 7) + a0))) (-1)))) ((F_K_earn (z_up w 41 7 (F_J_min_7cf53 w 9999 ((w 41 7) + a0))) (F_J_bitCount_0f7a4 (z_up w 41 7 (F_J_min_7cf53 w 9999 ((w 41 7) + a0))) (F_K_inside (z_up w 41 7 (F_J_min_7cf53 w 9999 ((w 41 7) + a0))) (-1)))) 41 8) 100) (by simp) ?_
  refine z_aload_n (pc' := 37) 0 rfl rfl dX3_passYear_36 rfl ?_
  refine z_invV (as := []) (st := [zI (F_J_floorMod_7cf53 (F_K_earn (z_up w 41 7 (F_J_min_7cf53 w 9999 ((w 41 7) + a0))) (F_J_bitCount_0f7a4 (z_up w 41 7 (F_J_min_7cf53 w 9999 ((w 41 7) + a0))) (F_K_inside (z_up w 41 7 (F_J_min_7cf53 w 9999 ((w 41 7) + a0))) (-1)))) ((F_K_earn (z_up w 41 7 (F_J_min_7cf53 w 9999 ((w 41 7) + a0))) (F_J_bitCount_0f7a4 (z_up w 41 7 (F_J_min_7cf53 w 9999 ((w 41 7) + a0))) (F_K_inside (z_up w 41 7 (F_J_min_7cf53 w 9999 ((w 41 7) + a0))) (-1)))) 41 8) 100), zR 45]) (C := m_X3_drowned) (fs := [32, 44, 45, 46, 47, 48, 0, 0, 0]) (pc' := 40) dX3_passYear_37 rfl t_3_235 k_X3_drowned rfl (by decide) rfl rfl rfl rfl (Nat.le_of_ble_eq_true rfl) ?_
  obtain ⟨r5, h⟩ := h
  refine c_K_drowned r5 ?_
  show z_Wp m_X3_passYear _ 40 [(0, zR 41), (1, zI a0)] [zI (zz_and ((zz_shl 1 ((F_K_earn (z_up w 41 7 (F_J_min_7cf53 w 9999 ((w 41 7) + a0))) (F_J_bitCount_0f7a4 (z_up w 41 7 (F_J_min_7cf53 w 9999 ((w 41 7) + a0))) (F_K_inside (z_up w 41 7 (F_J_min_7cf53 w 9999 ((w 41 7) + a0))) (-1)))) 32 2)) - 1) (zz_xor (F_K_inside (F_K_earn (z_up w 41 7 (F_J_min_7cf53 w 9999 ((w 41 7) + a0))) (F_J_bitCount_0f7a4 (z_up w 41 7 (F_J_min_7cf53 w 9999 ((w 41 7) + a0))) (F_K_inside (z_up w 41 7 (F_J_min_7cf53 w 9999 ((w 41 7) + a0))) (-1)))) (-1)) (-1))), zI (F_J_floorMod_7cf53 (F_K_earn (z_up w 41 7 (F_J_min_7cf53 w 9999 ((w 41 7) + a0))) (F_J_bitCount_0f7a4 (z_up w 41 7 (F_J_min_7cf53 w 9999 ((w 41 7) + a0))) (F_K_inside (z_up w 41 7 (F_J_min_7cf53 w 9999 ((w 41 7) + a0))) (-1)))) ((F_K_earn (z_up w 41 7 (F_J_min_7cf53 w 9999 ((w 41 7) + a0))) (F_J_bitCount_0f7a4 (z_up w 41 7 (F_J_min_7cf53 w 9999 ((w 41 7) + a0))) (F_K_inside (z_up w 41 7 (F_J_min_7cf53 w 9999 ((w 41 7) + a0))) (-1)))) 41 8) 100), zR 45] (F_K_earn (z_up w 41 7 (F_J_min_7cf53 w 9999 ((w 41 7) + a0))) (F_J_bitCount_0f7a4 (z_up w 41 7 (F_J_min_7cf53 w 9999 ((w 41 7) + a0))) (F_K_inside (z_up w 41 7 (F_J_min_7cf53 w 9999 ((w 41 7) + a0))) (-1)))) _
  obtain ⟨r6, h⟩ := h
  refine z_iast2 (w' := z_up (F_K_earn (z_up w 41 7 (F_J_min_7cf53 w 9999 ((w 41 7) + a0))) (F_J_bitCount_0f7a4 (z_up w 41 7 (F_J_min_7cf53 w 9999 ((w 41 7) + a0))) (F_K_inside (z_up w 41 7 (F_J_min_7cf53 w 9999 ((w 41 7) + a0))) (-1)))) 45 ((F_J_floorMod_7cf53 (F_K_earn (z_up w 41 7 (F_J_min_7cf53 w 9999 ((w 41 7) + a0))) (F_J_bitCount_0f7a4 (z_up w 41 7 (F_J_min_7cf53 w 9999 ((w 41 7) + a0))) (F_K_inside (z_up w 41 7 (F_J_min_7cf53 w 9999 ((w 41 7) + a0))) (-1)))) ((F_K_earn (z_up w 41 7 (F_J_min_7cf53 w 9999 ((w 41 7) + a0))) (F_J_bitCount_0f7a4 (z_up w 41 7 (F_J_min_7cf53 w 9999 ((w 41 7) + a0))) (F_K_inside (z_up w 41 7 (F_J_min_7cf53 w 9999 ((w 41 7) + a0))) (-1)))) 41 8) 100).toNat) (zz_and ((zz_shl 1 ((F_K_earn (z_up w 41 7 (F_J_min_7cf53 w 9999 ((w 41 7) + a0))) (F_J_bitCount_0f7a4 (z_up w 41 7 (F_J_min_7cf53 w 9999 ((w 41 7) + a0))) (F_K_inside (z_up w 41 7 (F_J_min_7cf53 w 9999 ((w 41 7) + a0))) (-1)))) 32 2)) - 1) (zz_xor (F_K_inside (F_K_earn (z_up w 41 7 (F_J_min_7cf53 w 9999 ((w 41 7) + a0))) (F_J_bitCount_0f7a4 (z_up w 41 7 (F_J_min_7cf53 w 9999 ((w 41 7) + a0))) (F_K_inside (z_up w 41 7 (F_J_min_7cf53 w 9999 ((w 41 7) + a0))) (-1)))) (-1)) (-1)))) (pc' := 41) (by decide) rfl r6 (by decide) rfl dX3_passYear_40 rfl ?_
  refine z_aload_n (pc' := 42) 0 rfl rfl dX3_passYear_41 rfl ?_
  refine z_getR (t := 46) (pc' := 45) g_X3_28 (by decide) rfl rfl dX3_passYear_42 rfl ?_
  refine z_aload_n (pc' := 46) 0 rfl rfl dX3_passYear_45 rfl ?_
  refine z_iconst (pc' := 47) dX3_passYear_46 rfl ?_
  refine z_invV (as := [zI 0]) (st := [zR 46]) (C := m_X3_logCell) (fs := [32, 44, 45, 46, 47, 48, 0, 0, 0]) (pc' := 50) dX3_passYear_47 rfl t_4_124 k_X3_logCell rfl (by decide) rfl rfl rfl rfl (Nat.le_of_ble_eq_true rfl) ?_
  obtain ⟨r7, h⟩ := h
  refine c_K_logCell r7 ?_
  show z_Wp m_X3_passYear _ 50 [(0, zR 41), (1, zI a0)] [zI (F_J_floorMod_7cf53 (z_up (F_K_earn (z_up w 41 7 (F_J_min_7cf53 w 9999 ((w 41 7) + a0))) (F_J_bitCount_0f7a4 (z_up w 41 7 (F_J_min_7cf53 w 9999 ((w 41 7) + a0))) (F_K_inside (z_up w 41 7 (F_J_min_7cf53 w 9999 ((w 41 7) + a0))) (-1)))) 45 ((F_J_floorMod_7cf53 (F_K_earn (z_up w 41 7 (F_J_min_7cf53 w 9999 ((w 41 7) + a0))) (F_J_bitCount_0f7a4 (z_up w 41 7 (F_J_min_7cf53 w 9999 ((w 41 7) + a0))) (F_K_inside (z_up w 41 7 (F_J_min_7cf53 w 9999 ((w 41 7) + a0))) (-1)))) ((F_K_earn (z_up w 41 7 (F_J_min_7cf53 w 9999 ((w 41 7) + a0))) (F_J_bitCount_0f7a4 (z_up w 41 7 (F_J_min_7cf53 w 9999 ((w 41 7) + a0))) (F_K_inside (z_up w 41 7 (F_J_min_7cf53 w 9999 ((w 41 7) + a0))) (-1)))) 41 8) 100).toNat) (zz_and ((zz_shl 1 ((F_K_earn (z_up w 41 7 (F_J_min_7cf53 w 9999 ((w 41 7) + a0))) (F_J_bitCount_0f7a4 (z_up w 41 7 (F_J_min_7cf53 w 9999 ((w 41 7) + a0))) (F_K_inside (z_up w 41 7 (F_J_min_7cf53 w 9999 ((w 41 7) + a0))) (-1)))) 32 2)) - 1) (zz_xor (F_K_inside (F_K_earn (z_up w 41 7 (F_J_min_7cf53 w 9999 ((w 41 7) + a0))) (F_J_bitCount_0f7a4 (z_up w 41 7 (F_J_min_7cf53 w 9999 ((w 41 7) + a0))) (F_K_inside (z_up w 41 7 (F_J_min_7cf53 w 9999 ((w 41 7) + a0))) (-1)))) (-1)) (-1)))) (((F_K_earn (z_up w 41 7 (F_J_min_7cf53 w 9999 ((w 41 7) + a0))) (F_J_bitCount_0f7a4 (z_up w 41 7 (F_J_min_7cf53 w 9999 ((w 41 7) + a0))) (F_K_inside (z_up w 41 7 (F_J_min_7cf53 w 9999 ((w 41 7) + a0))) (-1)))) 41 8) - 0) 100), zR 46] (z_up (F_K_earn (z_up w 41 7 (F_J_min_7cf53 w 9999 ((w 41 7) + a0))) (F_J_bitCount_0f7a4 (z_up w 41 7 (F_J_min_7cf53 w 9999 ((w 41 7) + a0))) (F_K_inside (z_up w 41 7 (F_J_min_7cf53 w 9999 ((w 41 7) + a0))) (-1)))) 45 ((F_J_floorMod_7cf53 (F_K_earn (z_up w 41 7 (F_J_min_7cf53 w 9999 ((w 41 7) + a0))) (F_J_bitCount_0f7a4 (z_up w 41 7 (F_J_min_7cf53 w 9999 ((w 41 7) + a0))) (F_K_inside (z_up w 41 7 (F_J_min_7cf53 w 9999 ((w 41 7) + a0))) (-1)))) ((F_K_earn (z_up w 41 7 (F_J_min_7cf53 w 9999 ((w 41 7) + a0))) (F_J_bitCount_0f7a4 (z_up w 41 7 (F_J_min_7cf53 w 9999 ((w 41 7) + a0))) (F_K_inside (z_up w 41 7 (F_J_min_7cf53 w 9999 ((w 41 7) + a0))) (-1)))) 41 8) 100).toNat) (zz_and ((zz_shl 1 ((F_K_earn (z_up w 41 7 (F_J_min_7cf53 w 9999 ((w 41 7) + a0))) (F_J_bitCount_0f7a4 (z_up w 41 7 (F_J_min_7cf53 w 9999 ((w 41 7) + a0))) (F_K_inside (z_up w 41 7 (F_J_min_7cf53 w 9999 ((w 41 7) + a0))) (-1)))) 32 2)) - 1) (zz_xor (F_K_inside (F_K_earn (z_up w 41 7 (F_J_min_7cf53 w 9999 ((w 41 7) + a0))) (F_J_bitCount_0f7a4 (z_up w 41 7 (F_J_min_7cf53 w 9999 ((w 41 7) + a0))) (F_K_inside (z_up w 41 7 (F_J_min_7cf53 w 9999 ((w 41 7) + a0))) (-1)))) (-1)) (-1)))) _
  refine z_eqI (y := F_J_floorMod_7cf53 (z_up (F_K_earn (z_up w 41 7 (F_J_min_7cf53 w 9999 ((w 41 7) + a0))) (F_J_bitCount_0f7a4 (z_up w 41 7 (F_J_min_7cf53 w 9999 ((w 41 7) + a0))) (F_K_inside (z_up w 41 7 (F_J_min_7cf53 w 9999 ((w 41 7) + a0))) (-1)))) 45 ((F_J_floorMod_7cf53 (F_K_earn (z_up w 41 7 (F_J_min_7cf53 w 9999 ((w 41 7) + a0))) (F_J_bitCount_0f7a4 (z_up w 41 7 (F_J_min_7cf53 w 9999 ((w 41 7) + a0))) (F_K_inside (z_up w 41 7 (F_J_min_7cf53 w 9999 ((w 41 7) + a0))) (-1)))) ((F_K_earn (z_up w 41 7 (F_J_min_7cf53 w 9999 ((w 41 7) + a0))) (F_J_bitCount_0f7a4 (z_up w 41 7 (F_J_min_7cf53 w 9999 ((w 41 7) + a0))) (F_K_inside (z_up w 41 7 (F_J_min_7cf53 w 9999 ((w 41 7) + a0))) (-1)))) 41 8) 100).toNat) (zz_and ((zz_shl 1 ((F_K_earn (z_up w 41 7 (F_J_min_7cf53 w 9999 ((w 41 7) + a0))) (F_J_bitCount_0f7a4 (z_up w 41 7 (F_J_min_7cf53 w 9999 ((w 41 7) + a0))) (F_K_inside (z_up w 41 7 (F_J_min_7cf53 w 9999 ((w 41 7) + a0))) (-1)))) 32 2)) - 1) (zz_xor (F_K_inside (F_K_earn (z_up w 41 7 (F_J_min_7cf53 w 9999 ((w 41 7) + a0))) (F_J_bitCount_0f7a4 (z_up w 41 7 (F_J_min_7cf53 w 9999 ((w 41 7) + a0))) (F_K_inside (z_up w 41 7 (F_J_min_7cf53 w 9999 ((w 41 7) + a0))) (-1)))) (-1)) (-1)))) ((F_K_earn (z_up w 41 7 (F_J_min_7cf53 w 9999 ((w 41 7) + a0))) (F_J_bitCount_0f7a4 (z_up w 41 7 (F_J_min_7cf53 w 9999 ((w 41 7) + a0))) (F_K_inside (z_up w 41 7 (F_J_min_7cf53 w 9999 ((w 41 7) + a0))) (-1)))) 41 8) 100) (by simp) ?_
  refine z_iload_n (pc' := 51) 1 rfl rfl dX3_passYear_50 rfl ?_
  have r8 := h
  refine z_iast2 (w' := z_up (z_up (F_K_earn (z_up w 41 7 (F_J_min_7cf53 w 9999 ((w 41 7) + a0))) (F_J_bitCount_0f7a4 (z_up w 41 7 (F_J_min_7cf53 w 9999 ((w 41 7) + a0))) (F_K_inside (z_up w 41 7 (F_J_min_7cf53 w 9999 ((w 41 7) + a0))) (-1)))) 45 ((F_J_floorMod_7cf53 (F_K_earn (z_up w 41 7 (F_J_min_7cf53 w 9999 ((w 41 7) + a0))) (F_J_bitCount_0f7a4 (z_up w 41 7 (F_J_min_7cf53 w 9999 ((w 41 7) + a0))) (F_K_inside (z_up w 41 7 (F_J_min_7cf53 w 9999 ((w 41 7) + a0))) (-1)))) ((F_K_earn (z_up w 41 7 (F_J_min_7cf53 w 9999 ((w 41 7) + a0))) (F_J_bitCount_0f7a4 (z_up w 41 7 (F_J_min_7cf53 w 9999 ((w 41 7) + a0))) (F_K_inside (z_up w 41 7 (F_J_min_7cf53 w 9999 ((w 41 7) + a0))) (-1)))) 41 8) 100).toNat) (zz_and ((zz_shl 1 ((F_K_earn (z_up w 41 7 (F_J_min_7cf53 w 9999 ((w 41 7) + a0))) (F_J_bitCount_0f7a4 (z_up w 41 7 (F_J_min_7cf53 w 9999 ((w 41 7) + a0))) (F_K_inside (z_up w 41 7 (F_J_min_7cf53 w 9999 ((w 41 7) + a0))) (-1)))) 32 2)) - 1) (zz_xor (F_K_inside (F_K_earn (z_up w 41 7 (F_J_min_7cf53 w 9999 ((w 41 7) + a0))) (F_J_bitCount_0f7a4 (z_up w 41 7 (F_J_min_7cf53 w 9999 ((w 41 7) + a0))) (F_K_inside (z_up w 41 7 (F_J_min_7cf53 w 9999 ((w 41 7) + a0))) (-1)))) (-1)) (-1)))) 46 ((F_J_floorMod_7cf53 (z_up (F_K_earn (z_up w 41 7 (F_J_min_7cf53 w 9999 ((w 41 7) + a0))) (F_J_bitCount_0f7a4 (z_up w 41 7 (F_J_min_7cf53 w 9999 ((w 41 7) + a0))) (F_K_inside (z_up w 41 7 (F_J_min_7cf53 w 9999 ((w 41 7) + a0))) (-1)))) 45 ((F_J_floorMod_7cf53 (F_K_earn (z_up w 41 7 (F_J_min_7cf53 w 9999 ((w 41 7) + a0))) (F_J_bitCount_0f7a4 (z_up w 41 7 (F_J_min_7cf53 w 9999 ((w 41 7) + a0))) (F_K_inside (z_up w 41 7 (F_J_min_7cf53 w 9999 ((w 41 7) + a0))) (-1)))) ((F_K_earn (z_up w 41 7 (F_J_min_7cf53 w 9999 ((w 41 7) + a0))) (F_J_bitCount_0f7a4 (z_up w 41 7 (F_J_min_7cf53 w 9999 ((w 41 7) + a0))) (F_K_inside (z_up w 41 7 (F_J_min_7cf53 w 9999 ((w 41 7) + a0))) (-1)))) 41 8) 100).toNat) (zz_and ((zz_shl 1 ((F_K_earn (z_up w 41 7 (F_J_min_7cf53 w 9999 ((w 41 7) + a0))) (F_J_bitCount_0f7a4 (z_up w 41 7 (F_J_min_7cf53 w 9999 ((w 41 7) + a0))) (F_K_inside (z_up w 41 7 (F_J_min_7cf53 w 9999 ((w 41 7) + a0))) (-1)))) 32 2)) - 1) (zz_xor (F_K_inside (F_K_earn (z_up w 41 7 (F_J_min_7cf53 w 9999 ((w 41 7) + a0))) (F_J_bitCount_0f7a4 (z_up w 41 7 (F_J_min_7cf53 w 9999 ((w 41 7) + a0))) (F_K_inside (z_up w 41 7 (F_J_min_7cf53 w 9999 ((w 41 7) + a0))) (-1)))) (-1)) (-1)))) ((F_K_earn (z_up w 41 7 (F_J_min_7cf53 w 9999 ((w 41 7) + a0))) (F_J_bitCount_0f7a4 (z_up w 41 7 (F_J_min_7cf53 w 9999 ((w 41 7) + a0))) (F_K_inside (z_up w 41 7 (F_J_min_7cf53 w 9999 ((w 41 7) + a0))) (-1)))) 41 8) 100).toNat) a0) (pc' := 52) (by decide) rfl r8 (by decide) rfl dX3_passYear_51 rfl ?_
  refine z_aload_n (pc' := 53) 0 rfl rfl dX3_passYear_52 rfl ?_
  refine z_dup (pc' := 54) rfl dX3_passYear_53 rfl ?_
  refine z_getI2 (v := (F_K_earn (z_up w 41 7 (F_J_min_7cf53 w 9999 ((w 41 7) + a0))) (F_J_bitCount_0f7a4 (z_up w 41 7 (F_J_min_7cf53 w 9999 ((w 41 7) + a0))) (F_K_inside (z_up w 41 7 (F_J_min_7cf53 w 9999 ((w 41 7) + a0))) (-1)))) 41 8) (pc' := 57) g_X3_50 (by decide) rfl rfl rfl dX3_passYear_54 rfl ?_
  refine z_iconst (pc' := 58) dX3_passYear_57 rfl ?_
  refine z_iadd (pc' := 59) dX3_passYear_58 rfl ?_
  refine z_putI (pc' := 62) p_X3_50 (by decide) rfl rfl rfl rfl dX3_passYear_59 rfl ?_
  refine z_vret rfl dX3_passYear_62 ?_
  exact k
def A_K_deepest_4 (w : z_Wd)  : Nat → Int
  | 0 => 0
  | i7 + 1 => if F_K_depth w (1 + (i7 : Int)) ≤ F_K_depth w (A_K_deepest_4 w i7) then A_K_deepest_4 w i7 else 1 + (i7 : Int)
def P_K_deepest (w : z_Wd)  : Prop := (∀ i7 : Nat, i7 < (((w 32 1) - 1).toNat) → (-2147483648 ≤ 1 + (i7 : Int) ∧ 1 + (i7 : Int) < 2147483648) ∧ (-2147483648 ≤ w 32 1 ∧ w 32 1 < 2147483648) ∧ (P_K_depth w (1 + (i7 : Int))) ∧ (P_K_depth w (A_K_deepest_4 w i7)) ∧ (-2147483648 ≤ F_K_depth w (1 + (i7 : Int)) ∧ F_K_depth w (1 + (i7 : Int)) < 2147483648) ∧ (-2147483648 ≤ F_K_depth w (A_K_deepest_4 w i7) ∧ F_K_depth w (A_K_deepest_4 w i7) < 2147483648)) ∧ ((-2147483648 ≤ 1 + ((((w 32 1) - 1).toNat : Nat) : Int) ∧ 1 + ((((w 32 1) - 1).toNat : Nat) : Int) < 2147483648) ∧ (-2147483648 ≤ w 32 1 ∧ w 32 1 < 2147483648))
def F_K_deepest (w : z_Wd)  : Int := A_K_deepest_4 w ((w 32 1) - 1).toNat
set_option maxRecDepth 4000 in
theorem c_K_deepest {d : Nat} {w : z_Wd} {Q : Option z_V → z_Wd → Prop} (h : P_K_deepest w ) (k : Q (some (zI (F_K_deepest w ))) w) : z_Wc (d + 2) m_X3_deepest [zR 41] w Q := by
  unfold P_K_deepest at h
  unfold F_K_deepest at k
  refine z_enter rfl (Nat.le_of_ble_eq_true rfl) ?_
  show z_Wp m_X3_deepest _ 0 [(0, zR 41)] [] w _
  refine z_iconst (pc' := 1) dX3_deepest_0 rfl ?_
  refine z_istore_n (pc' := 2) (ls' := [(0, zR 41), (1, zI 0)]) rfl (by decide) rfl rfl dX3_deepest_1 rfl ?_
  refine z_iconst (pc' := 3) dX3_deepest_2 rfl ?_
  refine z_istore_n (pc' := 4) (ls' := [(0, zR 41), (1, zI 0), (2, zI 1)]) rfl (by decide) rfl rfl dX3_deepest_3 rfl ?_
  refine z_upto (((w 32 1) - 1).toNat) (fun i7 => z_Wp m_X3_deepest (d + 2) 4 [(0, zR 41), (1, zI (A_K_deepest_4 w i7)), (2, zI (1 + (i7 : Int)))] [] w Q) ?_ ?_
  · skip
    have h := h.2
    refine z_iload_n (pc' := 5) 2 rfl rfl dX3_deepest_4 rfl ?_
    refine z_aload_n (pc' := 6) 0 rfl rfl dX3_deepest_5 rfl ?_
    refine z_getR (t := 30) (pc' := 9) g_X3_31 (by decide) rfl rfl dX3_deepest_6 rfl ?_
    refine z_invV (as := []) (st := [zI (1 + ((((w 32 1) - 1).toNat : Nat) : Int))]) (C := m_X6_wells) (fs := [33, 34]) (pc' := 12) dX3_deepest_9 rfl t_5_145 k_X6_wells rfl (by decide) rfl rfl rfl rfl (Nat.le_of_ble_eq_true rfl) ?_
    refine c_Y_wells ?_
    show z_Wp m_X3_deepest _ 12 [(0, zR 41), (1, zI (A_K_deepest_4 w ((w 32 1) - 1).toNat)), (2, zI (1 + ((((w 32 1) - 1).toNat : Nat) : Int)))] [zI (w 32 1), zI (1 + ((((w 32 1) - 1).toNat : Nat) : Int))] w _
    obtain ⟨r14, h⟩ := h
    have r15 := h
    refine z_icmp_ge 36 dX3_deepest_12 (by decide) (pc' := 15) rfl r14 r15 (fun _ => ?_) (fun c => absurd c (by omega))
    refine z_iload_n (pc' := 37) 1 rfl rfl dX3_deepest_36 rfl ?_
    refine z_iret rfl dX3_deepest_37 ?_
    exact k
  · intro i7 hi ih
    have h := h.1 i7 hi
    have ih : z_Wp m_X3_deepest (d + 2) 4 [(0, zR 41), (1, zI (if F_K_depth w (1 + (i7 : Int)) ≤ F_K_depth w (A_K_deepest_4 w i7) then A_K_deepest_4 w i7 else 1 + (i7 : Int))), (2, zI (1 + ((i7 + 1 : Nat) : Int)))] [] w Q := ih
    refine z_iload_n (pc' := 5) 2 rfl rfl dX3_deepest_4 rfl ?_
    refine z_aload_n (pc' := 6) 0 rfl rfl dX3_deepest_5 rfl ?_
    refine z_getR (t := 30) (pc' := 9) g_X3_31 (by decide) rfl rfl dX3_deepest_6 rfl ?_
    refine z_invV (as := []) (st := [zI (1 + (i7 : Int))]) (C := m_X6_wells) (fs := [33, 34]) (pc' := 12) dX3_deepest_9 rfl t_5_145 k_X6_wells rfl (by decide) rfl rfl rfl rfl (Nat.le_of_ble_eq_true rfl) ?_
    refine c_Y_wells ?_
    show z_Wp m_X3_deepest _ 12 [(0, zR 41), (1, zI (A_K_deepest_4 w i7)), (2, zI (1 + (i7 : Int)))] [zI (w 32 1), zI (1 + (i7 : Int))] w _
    obtain ⟨r8, h⟩ := h
    obtain ⟨r9, h⟩ := h
    refine z_icmp_ge 36 dX3_deepest_12 (by decide) (pc' := 15) rfl r8 r9 (fun c => absurd c (by omega)) (fun _ => ?_)
    refine z_aload_n (pc' := 16) 0 rfl rfl dX3_deepest_15 rfl ?_
    refine z_iload_n (pc' := 17) 2 rfl rfl dX3_deepest_16 rfl ?_
    refine z_invV (as := [zI (1 + (i7 : Int))]) (st := []) (C := m_X3_depth) (fs := [32, 44, 45, 46, 47, 48, 0, 0, 0]) (pc' := 20) dX3_deepest_17 rfl t_3_128 k_X3_depth rfl (by decide) rfl rfl rfl rfl (Nat.le_of_ble_eq_true rfl) ?_
    obtain ⟨r10, h⟩ := h
    refine c_K_depth r10 ?_
    show z_Wp m_X3_deepest _ 20 [(0, zR 41), (1, zI (A_K_deepest_4 w i7)), (2, zI (1 + (i7 : Int)))] [zI (F_K_depth w (1 + (i7 : Int)))] w _
    refine z_aload_n (pc' := 21) 0 rfl rfl dX3_deepest_20 rfl ?_
    refine z_iload_n (pc' := 22) 1 rfl rfl dX3_deepest_21 rfl ?_
    refine z_invV (as := [zI (A_K_deepest_4 w i7)]) (st := [zI (F_K_depth w (1 + (i7 : Int)))]) (C := m_X3_depth) (fs := [32, 44, 45, 46, 47, 48, 0, 0, 0]) (pc' := 25) dX3_deepest_22 rfl t_3_128 k_X3_depth rfl (by decide) rfl rfl rfl rfl (Nat.le_of_ble_eq_true rfl) ?_
    obtain ⟨r11, h⟩ := h
    refine c_K_depth r11 ?_
    show z_Wp m_X3_deepest _ 25 [(0, zR 41), (1, zI (A_K_deepest_4 w i7)), (2, zI (1 + (i7 : Int)))] [zI (F_K_depth w (A_K_deepest_4 w i7)), zI (F_K_depth w (1 + (i7 : Int)))] w _
    obtain ⟨r12, h⟩ := h
    have r13 := h
    refine z_icmp_le 30 dX3_deepest_25 (by decide) (pc' := 28) rfl r12 r13 (fun c99 => ?_) (fun c99 => ?_)
    · skip
      rw [if_pos c99] at ih
      refine z_iinc (pc' := 33) (ls' := [(0, zR 41), (1, zI (A_K_deepest_4 w i7)), (2, zI ((1 + (i7 : Int)) + 1))]) 2 rfl (by decide) rfl rfl dX3_deepest_30 rfl ?_
      refine z_goto 4 dX3_deepest_33 (by decide) ?_
      exact (z_lcast (by rw [z_ci]) ih)
    · skip
      rw [if_neg c99] at ih
      refine z_iload_n (pc' := 29) 2 rfl rfl dX3_deepest_28 rfl ?_
      refine z_istore_n (pc' := 30) (ls' := [(0, zR 41), (1, zI (1 + (i7 : Int))), (2, zI (1 + (i7 : Int)))]) rfl (by decide) rfl rfl dX3_deepest_29 rfl ?_
      refine z_iinc (pc' := 33) (ls' := [(0, zR 41), (1, zI (1 + (i7 : Int))), (2, zI ((1 + (i7 : Int)) + 1))]) 2 rfl (by decide) rfl rfl dX3_deepest_30 rfl ?_
      refine z_goto 4 dX3_deepest_33 (by decide) ?_
      exact (z_lcast (by rw [z_ci]) ih)
def A_K_fullest_4 (w : z_Wd)  : Nat → Int
  | 0 => 0
  | i9 + 1 => if F_Y_dropsOf w (F_K_inside w (1 + (i9 : Int))) ≤ F_Y_dropsOf w (F_K_inside w (A_K_fullest_4 w i9)) then A_K_fullest_4 w i9 else 1 + (i9 : Int)
def P_K_fullest (w : z_Wd)  : Prop := (∀ i9 : Nat, i9 < (((w 32 1) - 1).toNat) → (-2147483648 ≤ 1 + (i9 : Int) ∧ 1 + (i9 : Int) < 2147483648) ∧ (-2147483648 ≤ w 32 1 ∧ w 32 1 < 2147483648) ∧ (P_K_inside w (1 + (i9 : Int))) ∧ (P_Y_dropsOf w (F_K_inside w (1 + (i9 : Int)))) ∧ (P_K_inside w (A_K_fullest_4 w i9)) ∧ (P_Y_dropsOf w (F_K_inside w (A_K_fullest_4 w i9))) ∧ (-2147483648 ≤ F_Y_dropsOf w (F_K_inside w (1 + (i9 : Int))) ∧ F_Y_dropsOf w (F_K_inside w (1 + (i9 : Int))) < 2147483648) ∧ (-2147483648 ≤ F_Y_dropsOf w (F_K_inside w (A_K_fullest_4 w i9)) ∧ F_Y_dropsOf w (F_K_inside w (A_K_fullest_4 w i9)) < 2147483648)) ∧ ((-2147483648 ≤ 1 + ((((w 32 1) - 1).toNat : Nat) : Int) ∧ 1 + ((((w 32 1) - 1).toNat : Nat) : Int) < 2147483648) ∧ (-2147483648 ≤ w 32 1 ∧ w 32 1 < 2147483648))
def F_K_fullest (w : z_Wd)  : Int := A_K_fullest_4 w ((w 32 1) - 1).toNat
set_option maxRecDepth 4000 in
theorem c_K_fullest {d : Nat} {w : z_Wd} {Q : Option z_V → z_Wd → Prop} (h : P_K_fullest w ) (k : Q (some (zI (F_K_fullest w ))) w) : z_Wc (d + 2) m_X3_fullest [zR 41] w Q := by
  unfold P_K_fullest at h
  unfold F_K_fullest at k
  refine z_enter rfl (Nat.le_of_ble_eq_true rfl) ?_
  show z_Wp m_X3_fullest _ 0 [(0, zR 41)] [] w _
  refine z_iconst (pc' := 1) dX3_fullest_0 rfl ?_
  refine z_istore_n (pc' := 2) (ls' := [(0, zR 41), (1, zI 0)]) rfl (by decide) rfl rfl dX3_fullest_1 rfl ?_
  refine z_iconst (pc' := 3) dX3_fullest_2 rfl ?_
  refine z_istore_n (pc' := 4) (ls' := [(0, zR 41), (1, zI 0), (2, zI 1)]) rfl (by decide) rfl rfl dX3_fullest_3 rfl ?_
  refine z_upto (((w 32 1) - 1).toNat) (fun i9 => z_Wp m_X3_fullest (d + 2) 4 [(0, zR 41), (1, zI (A_K_fullest_4 w i9)), (2, zI (1 + (i9 : Int)))] [] w Q) ?_ ?_
  · skip
    have h := h.2
    refine z_iload_n (pc' := 5) 2 rfl rfl dX3_fullest_4 rfl ?_
    refine z_aload_n (pc' := 6) 0 rfl rfl dX3_fullest_5 rfl ?_
    refine z_getR (t := 30) (pc' := 9) g_X3_31 (by decide) rfl rfl dX3_fullest_6 rfl ?_
    refine z_invV (as := []) (st := [zI (1 + ((((w 32 1) - 1).toNat : Nat) : Int))]) (C := m_X6_wells) (fs := [33, 34]) (pc' := 12) dX3_fullest_9 rfl t_5_145 k_X6_wells rfl (by decide) rfl rfl rfl rfl (Nat.le_of_ble_eq_true rfl) ?_
    refine c_Y_wells ?_
    show z_Wp m_X3_fullest _ 12 [(0, zR 41), (1, zI (A_K_fullest_4 w ((w 32 1) - 1).toNat)), (2, zI (1 + ((((w 32 1) - 1).toNat : Nat) : Int)))] [zI (w 32 1), zI (1 + ((((w 32 1) - 1).toNat : Nat) : Int))] w _
    obtain ⟨r18, h⟩ := h
    have r19 := h
    refine z_icmp_ge 50 dX3_fullest_12 (by decide) (pc' := 15) rfl r18 r19 (fun _ => ?_) (fun c => absurd c (by omega))
    refine z_iload_n (pc' := 51) 1 rfl rfl dX3_fullest_50 rfl ?_
    refine z_iret rfl dX3_fullest_51 ?_
    exact k
  · intro i9 hi ih
    have h := h.1 i9 hi
    have ih : z_Wp m_X3_fullest (d + 2) 4 [(0, zR 41), (1, zI (if F_Y_dropsOf w (F_K_inside w (1 + (i9 : Int))) ≤ F_Y_dropsOf w (F_K_inside w (A_K_fullest_4 w i9)) then A_K_fullest_4 w i9 else 1 + (i9 : Int))), (2, zI (1 + ((i9 + 1 : Nat) : Int)))] [] w Q := ih
    refine z_iload_n (pc' := 5) 2 rfl rfl dX3_fullest_4 rfl ?_
    refine z_aload_n (pc' := 6) 0 rfl rfl dX3_fullest_5 rfl ?_
    refine z_getR (t := 30) (pc' := 9) g_X3_31 (by decide) rfl rfl dX3_fullest_6 rfl ?_
    refine z_invV (as := []) (st := [zI (1 + (i9 : Int))]) (C := m_X6_wells) (fs := [33, 34]) (pc' := 12) dX3_fullest_9 rfl t_5_145 k_X6_wells rfl (by decide) rfl rfl rfl rfl (Nat.le_of_ble_eq_true rfl) ?_
    refine c_Y_wells ?_
    show z_Wp m_X3_fullest _ 12 [(0, zR 41), (1, zI (A_K_fullest_4 w i9)), (2, zI (1 + (i9 : Int)))] [zI (w 32 1), zI (1 + (i9 : Int))] w _
    obtain ⟨r10, h⟩ := h
    obtain ⟨r11, h⟩ := h
    refine z_icmp_ge 50 dX3_fullest_12 (by decide) (pc' := 15) rfl r10 r11 (fun c => absurd c (by omega)) (fun _ => ?_)
    refine z_aload_n (pc' := 16) 0 rfl rfl dX3_fullest_15 rfl ?_
    refine z_getR (t := 30) (pc' := 19) g_X3_31 (by decide) rfl rfl dX3_fullest_16 rfl ?_
    refine z_aload_n (pc' := 20) 0 rfl rfl dX3_fullest_19 rfl ?_
    refine z_iload_n (pc' := 21) 2 rfl rfl dX3_fullest_20 rfl ?_
    refine z_invV (as := [zI (1 + (i9 : Int))]) (st := [zR 30]) (C := m_X3_inside) (fs := [32, 44, 45, 46, 47, 48, 0, 0, 0]) (pc' := 24) dX3_fullest_21 rfl t_3_129 k_X3_inside rfl (by decide) rfl rfl rfl rfl (Nat.le_of_ble_eq_true rfl) ?_
    obtain ⟨r12, h⟩ := h
    refine c_K_inside r12 ?_
    show z_Wp m_X3_fullest _ 24 [(0, zR 41), (1, zI (A_K_fullest_4 w i9)), (2, zI (1 + (i9 : Int)))] [zI (F_K_inside w (1 + (i9 : Int))), zR 30] w _
    refine z_invV (as := [zI (F_K_inside w (1 + (i9 : Int)))]) (st := []) (C := m_X6_dropsOf) (fs := [33, 34]) (pc' := 27) dX3_fullest_24 rfl t_3_134 k_X6_dropsOf rfl (by decide) rfl rfl rfl rfl (Nat.le_of_ble_eq_true rfl) ?_
    obtain ⟨r13, h⟩ := h
    refine c_Y_dropsOf r13 ?_
    show z_Wp m_X3_fullest _ 27 [(0, zR 41), (1, zI (A_K_fullest_4 w i9)), (2, zI (1 + (i9 : Int)))] [zI (F_Y_dropsOf w (F_K_inside w (1 + (i9 : Int))))] w _
    refine z_aload_n (pc' := 28) 0 rfl rfl dX3_fullest_27 rfl ?_
    refine z_getR (t := 30) (pc' := 31) g_X3_31 (by decide) rfl rfl dX3_fullest_28 rfl ?_
    refine z_aload_n (pc' := 32) 0 rfl rfl dX3_fullest_31 rfl ?_
    refine z_iload_n (pc' := 33) 1 rfl rfl dX3_fullest_32 rfl ?_
    refine z_invV (as := [zI (A_K_fullest_4 w i9)]) (st := [zR 30, zI (F_Y_dropsOf w (F_K_inside w (1 + (i9 : Int))))]) (C := m_X3_inside) (fs := [32, 44, 45, 46, 47, 48, 0, 0, 0]) (pc' := 36) dX3_fullest_33 rfl t_3_129 k_X3_inside rfl (by decide) rfl rfl rfl rfl (Nat.le_of_ble_eq_true rfl) ?_
    obtain ⟨r14, h⟩ := h
    refine c_K_inside r14 ?_
    show z_Wp m_X3_fullest _ 36 [(0, zR 41), (1, zI (A_K_fullest_4 w i9)), (2, zI (1 + (i9 : Int)))] [zI (F_K_inside w (A_K_fullest_4 w i9)), zR 30, zI (F_Y_dropsOf w (F_K_inside w (1 + (i9 : Int))))] w _
    refine z_invV (as := [zI (F_K_inside w (A_K_fullest_4 w i9))]) (st := [zI (F_Y_dropsOf w (F_K_inside w (1 + (i9 : Int))))]) (C := m_X6_dropsOf) (fs := [33, 34]) (pc' := 39) dX3_fullest_36 rfl t_3_134 k_X6_dropsOf rfl (by decide) rfl rfl rfl rfl (Nat.le_of_ble_eq_true rfl) ?_
    obtain ⟨r15, h⟩ := h
    refine c_Y_dropsOf r15 ?_
    show z_Wp m_X3_fullest _ 39 [(0, zR 41), (1, zI (A_K_fullest_4 w i9)), (2, zI (1 + (i9 : Int)))] [zI (F_Y_dropsOf w (F_K_inside w (A_K_fullest_4 w i9))), zI (F_Y_dropsOf w (F_K_inside w (1 + (i9 : Int))))] w _
    obtain ⟨r16, h⟩ := h
    have r17 := h
    refine z_icmp_le 44 dX3_fullest_39 (by decide) (pc' := 42) rfl r16 r17 (fun c100 => ?_) (fun c100 => ?_)
    · skip
      rw [if_pos c100] at ih
      refine z_iinc (pc' := 47) (ls' := [(0, zR 41), (1, zI (A_K_fullest_4 w i9)), (2, zI ((1 + (i9 : Int)) + 1))]) 2 rfl (by decide) rfl rfl dX3_fullest_44 rfl ?_
      refine z_goto 4 dX3_fullest_47 (by decide) ?_
      exact (z_lcast (by rw [z_ci]) ih)
    · skip
      rw [if_neg c100] at ih
      refine z_iload_n (pc' := 43) 2 rfl rfl dX3_fullest_42 rfl ?_
      refine z_istore_n (pc' := 44) (ls' := [(0, zR 41), (1, zI (1 + (i9 : Int))), (2, zI (1 + (i9 : Int)))]) rfl (by decide) rfl rfl dX3_fullest_43 rfl ?_
      refine z_iinc (pc' := 47) (ls' := [(0, zR 41), (1, zI (1 + (i9 : Int))), (2, zI ((1 + (i9 : Int)) + 1))]) 2 rfl (by decide) rfl rfl dX3_fullest_44 rfl ?_
      refine z_goto 4 dX3_fullest_47 (by decide) ?_
      exact (z_lcast (by rw [z_ci]) ih)
def A_Y_clear_2 (w : z_Wd)  : Nat → z_Wd
  | 0 => w
  | i4 + 1 => z_up (A_Y_clear_2 w i4) 32 ((i4 : Int).toNat) 0
def P_Y_clear (w : z_Wd)  : Prop := (∀ i4 : Nat, i4 < 4 → (-2147483648 ≤ (i4 : Int) ∧ (i4 : Int) < 2147483648) ∧ (0 ≤ (i4 : Int) ∧ (i4 : Int) < 4)) ∧ (P_Y_setUsual (A_Y_clear_2 w 4) 0 0)
def F_Y_clear (w : z_Wd)  : z_Wd := F_Y_setUsual (A_Y_clear_2 w 4) 0 0
set_option maxRecDepth 4000 in
theorem c_Y_clear {d : Nat} {w : z_Wd} {Q : Option z_V → z_Wd → Prop} (h : P_Y_clear w ) (k : Q none (F_Y_clear w )) : z_Wc (d + 1) m_X6_clear [zR 30] w Q := by
  unfold P_Y_clear at h
  unfold F_Y_clear at k
  refine z_enter rfl (Nat.le_of_ble_eq_true rfl) ?_
  show z_Wp m_X6_clear _ 0 [(0, zR 30)] [] w _
  refine z_iconst (pc' := 1) dX6_clear_0 rfl ?_
  refine z_istore_n (pc' := 2) (ls' := [(0, zR 30), (1, zI 0)]) rfl (by decide) rfl rfl dX6_clear_1 rfl ?_
  refine z_upto 4 (fun i4 => z_Wp m_X6_clear (d + 1) 2 [(0, zR 30), (1, zI (i4 : Int))] [] (A_Y_clear_2 w i4) Q) ?_ ?_
  · skip
    have h := h.2
    refine z_iload_n (pc' := 3) 1 rfl rfl dX6_clear_2 rfl ?_
    refine z_iconst (pc' := 4) dX6_clear_3 rfl ?_
    refine z_icmp_ge 20 dX6_clear_4 (by decide) (pc' := 7) rfl (by decide) (by decide) (fun _ => ?_) (fun c => absurd c (by decide))
    refine z_aload_n (pc' := 21) 0 rfl rfl dX6_clear_20 rfl ?_
    refine z_iconst (pc' := 22) dX6_clear_21 rfl ?_
    refine z_iconst (pc' := 23) dX6_clear_22 rfl ?_
    refine z_invV (as := [zI 0, zI 0]) (st := []) (C := m_X6_setUsual) (fs := [33, 34]) (pc' := 26) dX6_clear_23 rfl t_2_88 k_X6_setUsual rfl (by decide) rfl rfl rfl rfl (Nat.le_of_ble_eq_true rfl) ?_
    have r7 := h
    refine c_Y_setUsual r7 ?_
    show z_Wp m_X6_clear _ 26 [(0, zR 30), (1, zI 4)] [] (F_Y_setUsual (A_Y_clear_2 w 4) 0 0) _
    refine z_vret rfl dX6_clear_26 ?_
    exact k
  · intro i4 hi ih
    have h := h.1 i4 hi
    have ih : z_Wp m_X6_clear (d + 1) 2 [(0, zR 30), (1, zI ((i4 + 1 : Nat) : Int))] [] (z_up (A_Y_clear_2 w i4) 32 ((i4 : Int).toNat) 0) Q := ih
    refine z_iload_n (pc' := 3) 1 rfl rfl dX6_clear_2 rfl ?_
    refine z_iconst (pc' := 4) dX6_clear_3 rfl ?_
    obtain ⟨r5, h⟩ := h
    refine z_icmp_ge 20 dX6_clear_4 (by decide) (pc' := 7) rfl r5 (by decide) (fun c => absurd c (by omega)) (fun _ => ?_)
    refine z_aload_n (pc' := 8) 0 rfl rfl dX6_clear_7 rfl ?_
    refine z_getR (t := 32) (pc' := 11) g_X6_13 (by decide) rfl rfl dX6_clear_8 rfl ?_
    refine z_iload_n (pc' := 12) 1 rfl rfl dX6_clear_11 rfl ?_
    refine z_iconst (pc' := 13) dX6_clear_12 rfl ?_
    have r6 := h
    refine z_iast2 (w' := z_up (A_Y_clear_2 w i4) 32 ((i4 : Int).toNat) 0) (pc' := 14) (by decide) rfl r6 (by decide) rfl dX6_clear_13 rfl ?_
    refine z_iinc (pc' := 17) (ls' := [(0, zR 30), (1, zI ((i4 : Int) + 1))]) 1 rfl (by decide) rfl rfl dX6_clear_14 rfl ?_
    refine z_goto 2 dX6_clear_17 (by decide) ?_
    exact ih
def P_Y_open (w : z_Wd) (a0 : Int) : Prop := (0 ≤ a0 ∧ a0 < 4) ∧ (-2147483648 ≤ w 32 a0.toNat ∧ w 32 a0.toNat < 2147483648) ∧ (-2147483648 ≤ z_sc 0 a0.toNat ∧ z_sc 0 a0.toNat < 2147483648) ∧ ((w 32 a0.toNat < z_sc 0 a0.toNat → P_Y_setUsual w a0 (w 32 a0.toNat)) ∧ (¬ (w 32 a0.toNat < z_sc 0 a0.toNat) → True))
def F_Y_open (w : z_Wd) (a0 : Int) : Int × z_Wd := if w 32 a0.toNat < z_sc 0 a0.toNat then (1, z_up (F_Y_setUsual w a0 (w 32 a0.toNat)) 32 a0.toNat (((F_Y_setUsual w a0 (w 32 a0.toNat)) 32 a0.toNat) + 1)) else (0, w)
set_option maxRecDepth 4000 in
theorem c_Y_open {d : Nat} {w : z_Wd} {a0 : Int} {Q : Option z_V → z_Wd → Prop} (h : P_Y_open w a0) (k : Q (some (zI (F_Y_open w a0).1)) (F_Y_open w a0).2) : z_Wc (d + 1) m_X6_open [zR 30, zI a0] w Q := by
  unfold P_Y_open at h
  unfold F_Y_open at k
  refine z_enter rfl (Nat.le_of_ble_eq_true rfl) ?_
  show z_Wp m_X6_open _ 0 [(0, zR 30), (1, zI a0)] [] w _
  refine z_aload_n (pc' := 1) 0 rfl rfl dX6_open_0 rfl ?_
  refine z_getR (t := 32) (pc' := 4) g_X6_13 (by decide) rfl rfl dX6_open_1 rfl ?_
  refine z_iload_n (pc' := 5) 1 rfl rfl dX6_open_4 rfl ?_
  obtain ⟨r1, h⟩ := h
  refine z_iald2 (v := w 32 a0.toNat) (pc' := 6) (by decide) rfl r1 (by decide) rfl dX6_open_5 rfl ?_
  refine z_gets (i := 0) (pc' := 9) rfl t_2_117 dX6_open_6 rfl ?_
  refine z_iload_n (pc' := 10) 1 rfl rfl dX6_open_9 rfl ?_
  refine z_ials2 (i := 0) (v := z_sc 0 a0.toNat) (pc' := 11) rfl rfl r1 (by decide) rfl dX6_open_10 rfl ?_
  obtain ⟨r2, h⟩ := h
  obtain ⟨r3, h⟩ := h
  refine z_icmp_lt 16 dX6_open_11 (by decide) (pc' := 14) rfl r2 r3 (fun c => ?_) (fun c => ?_)
  · have h := h.1 c
    rw [if_pos c] at k
    refine z_aload_n (pc' := 17) 0 rfl rfl dX6_open_16 rfl ?_
    refine z_iload_n (pc' := 18) 1 rfl rfl dX6_open_17 rfl ?_
    refine z_aload_n (pc' := 19) 0 rfl rfl dX6_open_18 rfl ?_
    refine z_getR (t := 32) (pc' := 22) g_X6_13 (by decide) rfl rfl dX6_open_19 rfl ?_
    refine z_iload_n (pc' := 23) 1 rfl rfl dX6_open_22 rfl ?_
    refine z_iald2 (v := w 32 a0.toNat) (pc' := 24) (by decide) rfl r1 (by decide) rfl dX6_open_23 rfl ?_
    refine z_invV (as := [zI a0, zI (w 32 a0.toNat)]) (st := []) (C := m_X6_setUsual) (fs := [33, 34]) (pc' := 27) dX6_open_24 rfl t_2_88 k_X6_setUsual rfl (by decide) rfl rfl rfl rfl (Nat.le_of_ble_eq_true rfl) ?_
    have r4 := h
    refine c_Y_setUsual r4 ?_
    show z_Wp m_X6_open _ 27 [(0, zR 30), (1, zI a0)] [] (F_Y_setUsual w a0 (w 32 a0.toNat)) _
    refine z_aload_n (pc' := 28) 0 rfl rfl dX6_open_27 rfl ?_
    refine z_getR (t := 32) (pc' := 31) g_X6_13 (by decide) rfl rfl dX6_open_28 rfl ?_
    refine z_iload_n (pc' := 32) 1 rfl rfl dX6_open_31 rfl ?_
    refine z_dup2 (pc' := 33) rfl rfl dX6_open_32 rfl ?_
    refine z_iald2 (v := (F_Y_setUsual w a0 (w 32 a0.toNat)) 32 a0.toNat) (pc' := 34) (by decide) rfl r1 (by decide) rfl dX6_open_33 rfl ?_
    refine z_iconst (pc' := 35) dX6_open_34 rfl ?_
    refine z_iadd (pc' := 36) dX6_open_35 rfl ?_
    refine z_iast2 (w' := z_up (F_Y_setUsual w a0 (w 32 a0.toNat)) 32 a0.toNat (((F_Y_setUsual w a0 (w 32 a0.toNat)) 32 a0.toNat) + 1)) (pc' := 37) (by decide) rfl r1 (by decide) rfl dX6_open_36 rfl ?_
    refine z_iconst (pc' := 38) dX6_open_37 rfl ?_
    refine z_zret rfl (by decide) dX6_open_38 ?_
    exact k
  · have h := h.2 c
    rw [if_neg c] at k
    refine z_iconst (pc' := 15) dX6_open_14 rfl ?_
    refine z_zret rfl (by decide) dX6_open_15 ?_
    exact k
def E_Y_knowOthers_2 (w : z_Wd)  (i6 : Nat) : Bool := if F_Y_hasName w (F_Y_value w 2 (i6 : Int) 1) = 0 then true else if F_Y_value w 2 (i6 : Int) 1 = (i6 : Int) then true else false
def R_Y_knowOthers_2 (w : z_Wd)  (i6 : Nat) : Int := if F_Y_hasName w (F_Y_value w 2 (i6 : Int) 1) = 0 then 0 else if F_Y_value w 2 (i6 : Int) 1 = (i6 : Int) then 0 else 0
def P_Y_knowOthers (w : z_Wd)  : Prop := (∀ i6 : Nat, i6 < ((w 32 2).toNat) → zfind (E_Y_knowOthers_2 w) i6 = -1 → (-2147483648 ≤ (i6 : Int) ∧ (i6 : Int) < 2147483648) ∧ (-2147483648 ≤ w 32 2 ∧ w 32 2 < 2147483648) ∧ (P_Y_value w 2 (i6 : Int) 1) ∧ (P_Y_hasName w (F_Y_value w 2 (i6 : Int) 1)) ∧ ((F_Y_hasName w (F_Y_value w 2 (i6 : Int) 1) = 0 → True) ∧ (¬ (F_Y_hasName w (F_Y_value w 2 (i6 : Int) 1) = 0) → -2147483648 ≤ F_Y_value w 2 (i6 : Int) 1 ∧ F_Y_value w 2 (i6 : Int) 1 < 2147483648))) ∧ ((-2147483648 ≤ (((w 32 2).toNat : Nat) : Int) ∧ (((w 32 2).toNat : Nat) : Int) < 2147483648) ∧ (-2147483648 ≤ w 32 2 ∧ w 32 2 < 2147483648))
def F_Y_knowOthers (w : z_Wd)  : Int := if zfind (E_Y_knowOthers_2 w) ((w 32 2).toNat) = -1 then 1 else R_Y_knowOthers_2 w (zfind (E_Y_knowOthers_2 w) ((w 32 2).toNat)).toNat
set_option maxRecDepth 4000 in
theorem c_Y_knowOthers {d : Nat} {w : z_Wd} {Q : Option z_V → z_Wd → Prop} (h : P_Y_knowOthers w ) (k : Q (some (zI (F_Y_knowOthers w ))) w) : z_Wc (d + 2) m_X6_knowOthers [zR 30] w Q := by
  unfold P_Y_knowOthers at h
  unfold F_Y_knowOthers at k
  refine z_enter rfl (Nat.le_of_ble_eq_true rfl) ?_
  show z_Wp m_X6_knowOthers _ 0 [(0, zR 30)] [] w _
  refine z_iconst (pc' := 1) dX6_knowOthers_0 rfl ?_
  refine z_istore_n (pc' := 2) (ls' := [(0, zR 30), (1, zI 0)]) rfl (by decide) rfl rfl dX6_knowOthers_1 rfl ?_
  refine z_upto ((w 32 2).toNat) (fun i6 => zfind (E_Y_knowOthers_2 w) i6 = -1 → z_Wp m_X6_knowOthers (d + 2) 2 [(0, zR 30), (1, zI (i6 : Int))] [] w Q) ?_ ?_ rfl
  · intro hf
    rw [if_pos hf] at k
    have h := h.2
    refine z_iload_n (pc' := 3) 1 rfl rfl dX6_knowOthers_2 rfl ?_
    refine z_aload_n (pc' := 4) 0 rfl rfl dX6_knowOthers_3 rfl ?_
    refine z_invV (as := []) (st := [zI (((w 32 2).toNat : Nat) : Int)]) (C := m_X6_names) (fs := [33, 34]) (pc' := 7) dX6_knowOthers_4 rfl t_2_157 k_X6_names rfl (by decide) rfl rfl rfl rfl (Nat.le_of_ble_eq_true rfl) ?_
    refine c_Y_names ?_
    show z_Wp m_X6_knowOthers _ 7 [(0, zR 30), (1, zI (((w 32 2).toNat : Nat) : Int))] [zI (w 32 2), zI (((w 32 2).toNat : Nat) : Int)] w _
    obtain ⟨r12, h⟩ := h
    have r13 := h
    refine z_icmp_ge 39 dX6_knowOthers_7 (by decide) (pc' := 10) rfl r12 r13 (fun _ => ?_) (fun c => absurd c (by omega))
    refine z_iconst (pc' := 40) dX6_knowOthers_39 rfl ?_
    refine z_zret rfl (by decide) dX6_knowOthers_40 ?_
    exact k
  · intro i6 hi ih hf
    have h := h.1 i6 hi hf
    have hE : E_Y_knowOthers_2 w i6 = (if F_Y_hasName w (F_Y_value w 2 (i6 : Int) 1) = 0 then true else if F_Y_value w 2 (i6 : Int) 1 = (i6 : Int) then true else false) := rfl
    refine z_iload_n (pc' := 3) 1 rfl rfl dX6_knowOthers_2 rfl ?_
    refine z_aload_n (pc' := 4) 0 rfl rfl dX6_knowOthers_3 rfl ?_
    refine z_invV (as := []) (st := [zI (i6 : Int)]) (C := m_X6_names) (fs := [33, 34]) (pc' := 7) dX6_knowOthers_4 rfl t_2_157 k_X6_names rfl (by decide) rfl rfl rfl rfl (Nat.le_of_ble_eq_true rfl) ?_
    refine c_Y_names ?_
    show z_Wp m_X6_knowOthers _ 7 [(0, zR 30), (1, zI (i6 : Int))] [zI (w 32 2), zI (i6 : Int)] w _
    obtain ⟨r7, h⟩ := h
    obtain ⟨r8, h⟩ := h
    refine z_icmp_ge 39 dX6_knowOthers_7 (by decide) (pc' := 10) rfl r7 r8 (fun c => absurd c (by omega)) (fun _ => ?_)
    refine z_aload_n (pc' := 11) 0 rfl rfl dX6_knowOthers_10 rfl ?_
    refine z_aload_n (pc' := 12) 0 rfl rfl dX6_knowOthers_11 rfl ?_
    refine z_iload_n (pc' := 13) 1 rfl rfl dX6_knowOthers_12 rfl ?_
    refine z_invV (as := [zI (i6 : Int)]) (st := [zR 30]) (C := m_X6_knows) (fs := [33, 34]) (pc' := 16) dX6_knowOthers_13 rfl t_2_165 k_X6_knows rfl (by decide) rfl rfl rfl rfl (Nat.le_of_ble_eq_true rfl) ?_
    obtain ⟨r9, h⟩ := h
    refine c_Y_knows r9 ?_
    show z_Wp m_X6_knowOthers _ 16 [(0, zR 30), (1, zI (i6 : Int))] [zI (F_Y_value w 2 (i6 : Int) 1), zR 30] w _
    refine z_invV (as := [zI (F_Y_value w 2 (i6 : Int) 1)]) (st := []) (C := m_X6_hasName) (fs := [33, 34]) (pc' := 19) dX6_knowOthers_16 rfl t_2_173 k_X6_hasName rfl (by decide) rfl rfl rfl rfl (Nat.le_of_ble_eq_true rfl) ?_
    obtain ⟨r10, h⟩ := h
    refine c_Y_hasName r10 ?_
    show z_Wp m_X6_knowOthers _ 19 [(0, zR 30), (1, zI (i6 : Int))] [zI (F_Y_hasName w (F_Y_value w 2 (i6 : Int) 1))] w _
    refine z_if_eq 31 dX6_knowOthers_19 (by decide) (pc' := 22) rfl (z_rb b_Y_hasName) (fun c101 => ?_) (fun c101 => ?_)
    · have h := h.1 c101
      rw [if_pos c101] at hE
      refine z_iconst (pc' := 32) dX6_knowOthers_31 rfl ?_
      refine z_zret rfl (by decide) dX6_knowOthers_32 ?_
      have hz := zfind_hit hf hE _ hi
      rw [hz, if_neg (by omega), Int.toNat_natCast] at k
      unfold R_Y_knowOthers_2 at k
      rw [if_pos c101] at k
      exact k
    · have h := h.2 c101
      rw [if_neg c101] at hE
      refine z_aload_n (pc' := 23) 0 rfl rfl dX6_knowOthers_22 rfl ?_
      refine z_iload_n (pc' := 24) 1 rfl rfl dX6_knowOthers_23 rfl ?_
      refine z_invV (as := [zI (i6 : Int)]) (st := []) (C := m_X6_knows) (fs := [33, 34]) (pc' := 27) dX6_knowOthers_24 rfl t_2_165 k_X6_knows rfl (by decide) rfl rfl rfl rfl (Nat.le_of_ble_eq_true rfl) ?_
      refine c_Y_knows r9 ?_
      show z_Wp m_X6_knowOthers _ 27 [(0, zR 30), (1, zI (i6 : Int))] [zI (F_Y_value w 2 (i6 : Int) 1)] w _
      refine z_iload_n (pc' := 28) 1 rfl rfl dX6_knowOthers_27 rfl ?_
      have r11 := h
      refine z_icmp_ne 33 dX6_knowOthers_28 (by decide) (pc' := 31) rfl r11 r7 (fun c102 => ?_) (fun c102 => ?_)
      · skip
        rw [if_neg c102] at hE
        refine z_iinc (pc' := 36) (ls' := [(0, zR 30), (1, zI ((i6 : Int) + 1))]) 1 rfl (by decide) rfl rfl dX6_knowOthers_33 rfl ?_
        refine z_goto 2 dX6_knowOthers_36 (by decide) ?_
        exact (ih (zfind_miss hf (by rw [hE]; decide)))
      · skip
        rw [if_pos c102] at hE
        refine z_iconst (pc' := 32) dX6_knowOthers_31 rfl ?_
        refine z_zret rfl (by decide) dX6_knowOthers_32 ?_
        have hz := zfind_hit hf hE _ hi
        rw [hz, if_neg (by omega), Int.toNat_natCast] at k
        unfold R_Y_knowOthers_2 at k
        rw [if_neg c101] at k
        rw [if_pos c102] at k
        exact k
theorem b_Y_knowOthers {w : z_Wd} : F_Y_knowOthers w = 0 ∨ F_Y_knowOthers w = 1 := by
  unfold F_Y_knowOthers
  (repeat' split) <;> first | exact Or.inl rfl | exact Or.inr rfl | (unfold R_Y_knowOthers_2; (repeat' split) <;> first | exact Or.inl rfl | exact Or.inr rfl)
def E_Y_filesHoldTwo_2 (w : z_Wd)  (i9 : Nat) : Bool := if F_Y_hasName w (F_Y_inFile w (i9 : Int) 0) = 0 then true else if F_Y_hasName w (F_Y_inFile w (i9 : Int) 1) = 0 then true else if F_Y_inFile w (i9 : Int) 0 = F_Y_inFile w (i9 : Int) 1 then true else false
def R_Y_filesHoldTwo_2 (w : z_Wd)  (i9 : Nat) : Int := if F_Y_hasName w (F_Y_inFile w (i9 : Int) 0) = 0 then 0 else if F_Y_hasName w (F_Y_inFile w (i9 : Int) 1) = 0 then 0 else if F_Y_inFile w (i9 : Int) 0 = F_Y_inFile w (i9 : Int) 1 then 0 else 0
def P_Y_filesHoldTwo (w : z_Wd)  : Prop := (∀ i9 : Nat, i9 < ((w 32 3).toNat) → zfind (E_Y_filesHoldTwo_2 w) i9 = -1 → (-2147483648 ≤ (i9 : Int) ∧ (i9 : Int) < 2147483648) ∧ (-2147483648 ≤ w 32 3 ∧ w 32 3 < 2147483648) ∧ (P_Y_inFile w (i9 : Int) 0) ∧ (P_Y_inFile w (i9 : Int) 1) ∧ (P_Y_hasName w (F_Y_inFile w (i9 : Int) 0)) ∧ ((F_Y_hasName w (F_Y_inFile w (i9 : Int) 0) = 0 → True) ∧ (¬ (F_Y_hasName w (F_Y_inFile w (i9 : Int) 0) = 0) → (P_Y_hasName w (F_Y_inFile w (i9 : Int) 1)) ∧ ((F_Y_hasName w (F_Y_inFile w (i9 : Int) 1) = 0 → True) ∧ (¬ (F_Y_hasName w (F_Y_inFile w (i9 : Int) 1) = 0) → (-2147483648 ≤ F_Y_inFile w (i9 : Int) 0 ∧ F_Y_inFile w (i9 : Int) 0 < 2147483648) ∧ (-2147483648 ≤ F_Y_inFile w (i9 : Int) 1 ∧ F_Y_inFile w (i9 : Int) 1 < 2147483648)))))) ∧ ((-2147483648 ≤ (((w 32 3).toNat : Nat) : Int) ∧ (((w 32 3).toNat : Nat) : Int) < 2147483648) ∧ (-2147483648 ≤ w 32 3 ∧ w 32 3 < 2147483648))
def F_Y_filesHoldTwo (w : z_Wd)  : Int := if zfind (E_Y_filesHoldTwo_2 w) ((w 32 3).toNat) = -1 then 1 else R_Y_filesHoldTwo_2 w (zfind (E_Y_filesHoldTwo_2 w) ((w 32 3).toNat)).toNat
set_option maxRecDepth 4000 in
theorem c_Y_filesHoldTwo {d : Nat} {w : z_Wd} {Q : Option z_V → z_Wd → Prop} (h : P_Y_filesHoldTwo w ) (k : Q (some (zI (F_Y_filesHoldTwo w ))) w) : z_Wc (d + 2) m_X6_filesHoldTwo [zR 30] w Q := by
  unfold P_Y_filesHoldTwo at h
  unfold F_Y_filesHoldTwo at k
  refine z_enter rfl (Nat.le_of_ble_eq_true rfl) ?_
  show z_Wp m_X6_filesHoldTwo _ 0 [(0, zR 30)] [] w _
  refine z_iconst (pc' := 1) dX6_filesHoldTwo_0 rfl ?_
  refine z_istore_n (pc' := 2) (ls' := [(0, zR 30), (1, zI 0)]) rfl (by decide) rfl rfl dX6_filesHoldTwo_1 rfl ?_
  refine z_upto ((w 32 3).toNat) (fun i9 => zfind (E_Y_filesHoldTwo_2 w) i9 = -1 → z_Wp m_X6_filesHoldTwo (d + 2) 2 [(0, zR 30), (1, zI (i9 : Int))] [] w Q) ?_ ?_ rfl
  · intro hf
    rw [if_pos hf] at k
    have h := h.2
    refine z_iload_n (pc' := 3) 1 rfl rfl dX6_filesHoldTwo_2 rfl ?_
    refine z_aload_n (pc' := 4) 0 rfl rfl dX6_filesHoldTwo_3 rfl ?_
    refine z_invV (as := []) (st := [zI (((w 32 3).toNat : Nat) : Int)]) (C := m_X6_files) (fs := [33, 34]) (pc' := 7) dX6_filesHoldTwo_4 rfl t_2_181 k_X6_files rfl (by decide) rfl rfl rfl rfl (Nat.le_of_ble_eq_true rfl) ?_
    refine c_Y_files ?_
    show z_Wp m_X6_filesHoldTwo _ 7 [(0, zR 30), (1, zI (((w 32 3).toNat : Nat) : Int))] [zI (w 32 3), zI (((w 32 3).toNat : Nat) : Int)] w _
    obtain ⟨r18, h⟩ := h
    have r19 := h
    refine z_icmp_ge 53 dX6_filesHoldTwo_7 (by decide) (pc' := 10) rfl r18 r19 (fun _ => ?_) (fun c => absurd c (by omega))
    refine z_iconst (pc' := 54) dX6_filesHoldTwo_53 rfl ?_
    refine z_zret rfl (by decide) dX6_filesHoldTwo_54 ?_
    exact k
  · intro i9 hi ih hf
    have h := h.1 i9 hi hf
    have hE : E_Y_filesHoldTwo_2 w i9 = (if F_Y_hasName w (F_Y_inFile w (i9 : Int) 0) = 0 then true else if F_Y_hasName w (F_Y_inFile w (i9 : Int) 1) = 0 then true else if F_Y_inFile w (i9 : Int) 0 = F_Y_inFile w (i9 : Int) 1 then true else false) := rfl
    refine z_iload_n (pc' := 3) 1 rfl rfl dX6_filesHoldTwo_2 rfl ?_
    refine z_aload_n (pc' := 4) 0 rfl rfl dX6_filesHoldTwo_3 rfl ?_
    refine z_invV (as := []) (st := [zI (i9 : Int)]) (C := m_X6_files) (fs := [33, 34]) (pc' := 7) dX6_filesHoldTwo_4 rfl t_2_181 k_X6_files rfl (by decide) rfl rfl rfl rfl (Nat.le_of_ble_eq_true rfl) ?_
    refine c_Y_files ?_
    show z_Wp m_X6_filesHoldTwo _ 7 [(0, zR 30), (1, zI (i9 : Int))] [zI (w 32 3), zI (i9 : Int)] w _
    obtain ⟨r10, h⟩ := h
    obtain ⟨r11, h⟩ := h
    refine z_icmp_ge 53 dX6_filesHoldTwo_7 (by decide) (pc' := 10) rfl r10 r11 (fun c => absurd c (by omega)) (fun _ => ?_)
    refine z_aload_n (pc' := 11) 0 rfl rfl dX6_filesHoldTwo_10 rfl ?_
    refine z_iload_n (pc' := 12) 1 rfl rfl dX6_filesHoldTwo_11 rfl ?_
    refine z_iconst (pc' := 13) dX6_filesHoldTwo_12 rfl ?_
    refine z_invV (as := [zI (i9 : Int), zI 0]) (st := []) (C := m_X6_inFile) (fs := [33, 34]) (pc' := 16) dX6_filesHoldTwo_13 rfl t_2_185 k_X6_inFile rfl (by decide) rfl rfl rfl rfl (Nat.le_of_ble_eq_true rfl) ?_
    obtain ⟨r12, h⟩ := h
    refine c_Y_inFile r12 ?_
    show z_Wp m_X6_filesHoldTwo _ 16 [(0, zR 30), (1, zI (i9 : Int))] [zI (F_Y_inFile w (i9 : Int) 0)] w _
    refine z_istore_n (pc' := 17) (ls' := [(0, zR 30), (1, zI (i9 : Int)), (2, zI (F_Y_inFile w (i9 : Int) 0))]) rfl (by decide) rfl rfl dX6_filesHoldTwo_16 rfl ?_
    refine z_aload_n (pc' := 18) 0 rfl rfl dX6_filesHoldTwo_17 rfl ?_
    refine z_iload_n (pc' := 19) 1 rfl rfl dX6_filesHoldTwo_18 rfl ?_
    refine z_iconst (pc' := 20) dX6_filesHoldTwo_19 rfl ?_
    refine z_invV (as := [zI (i9 : Int), zI 1]) (st := []) (C := m_X6_inFile) (fs := [33, 34]) (pc' := 23) dX6_filesHoldTwo_20 rfl t_2_185 k_X6_inFile rfl (by decide) rfl rfl rfl rfl (Nat.le_of_ble_eq_true rfl) ?_
    obtain ⟨r13, h⟩ := h
    refine c_Y_inFile r13 ?_
    show z_Wp m_X6_filesHoldTwo _ 23 [(0, zR 30), (1, zI (i9 : Int)), (2, zI (F_Y_inFile w (i9 : Int) 0))] [zI (F_Y_inFile w (i9 : Int) 1)] w _
    refine z_istore_n (pc' := 24) (ls' := [(0, zR 30), (1, zI (i9 : Int)), (2, zI (F_Y_inFile w (i9 : Int) 0)), (3, zI (F_Y_inFile w (i9 : Int) 1))]) rfl (by decide) rfl rfl dX6_filesHoldTwo_23 rfl ?_
    refine z_aload_n (pc' := 25) 0 rfl rfl dX6_filesHoldTwo_24 rfl ?_
    refine z_iload_n (pc' := 26) 2 rfl rfl dX6_filesHoldTwo_25 rfl ?_
    refine z_invV (as := [zI (F_Y_inFile w (i9 : Int) 0)]) (st := []) (C := m_X6_hasName) (fs := [33, 34]) (pc' := 29) dX6_filesHoldTwo_26 rfl t_2_173 k_X6_hasName rfl (by decide) rfl rfl rfl rfl (Nat.le_of_ble_eq_true rfl) ?_
    obtain ⟨r14, h⟩ := h
    refine c_Y_hasName r14 ?_
    show z_Wp m_X6_filesHoldTwo _ 29 [(0, zR 30), (1, zI (i9 : Int)), (2, zI (F_Y_inFile w (i9 : Int) 0)), (3, zI (F_Y_inFile w (i9 : Int) 1))] [zI (F_Y_hasName w (F_Y_inFile w (i9 : Int) 0))] w _
    refine z_if_eq 45 dX6_filesHoldTwo_29 (by decide) (pc' := 32) rfl (z_rb b_Y_hasName) (fun c103 => ?_) (fun c103 => ?_)
    · have h := h.1 c103
      rw [if_pos c103] at hE
      refine z_iconst (pc' := 46) dX6_filesHoldTwo_45 rfl ?_
      refine z_zret rfl (by decide) dX6_filesHoldTwo_46 ?_
      have hz := zfind_hit hf hE _ hi
      rw [hz, if_neg (by omega), Int.toNat_natCast] at k
      unfold R_Y_filesHoldTwo_2 at k
      rw [if_pos c103] at k
      exact k
    · have h := h.2 c103
      rw [if_neg c103] at hE
      refine z_aload_n (pc' := 33) 0 rfl rfl dX6_filesHoldTwo_32 rfl ?_
      refine z_iload_n (pc' := 34) 3 rfl rfl dX6_filesHoldTwo_33 rfl ?_
      refine z_invV (as := [zI (F_Y_inFile w (i9 : Int) 1)]) (st := []) (C := m_X6_hasName) (fs := [33, 34]) (pc' := 37) dX6_filesHoldTwo_34 rfl t_2_173 k_X6_hasName rfl (by decide) rfl rfl rfl rfl (Nat.le_of_ble_eq_true rfl) ?_
      obtain ⟨r15, h⟩ := h
      refine c_Y_hasName r15 ?_
      show z_Wp m_X6_filesHoldTwo _ 37 [(0, zR 30), (1, zI (i9 : Int)), (2, zI (F_Y_inFile w (i9 : Int) 0)), (3, zI (F_Y_inFile w (i9 : Int) 1))] [zI (F_Y_hasName w (F_Y_inFile w (i9 : Int) 1))] w _
      refine z_if_eq 45 dX6_filesHoldTwo_37 (by decide) (pc' := 40) rfl (z_rb b_Y_hasName) (fun c104 => ?_) (fun c104 => ?_)
      · have h := h.1 c104
        rw [if_pos c104] at hE
        refine z_iconst (pc' := 46) dX6_filesHoldTwo_45 rfl ?_
        refine z_zret rfl (by decide) dX6_filesHoldTwo_46 ?_
        have hz := zfind_hit hf hE _ hi
        rw [hz, if_neg (by omega), Int.toNat_natCast] at k
        unfold R_Y_filesHoldTwo_2 at k
        rw [if_neg c103] at k
        rw [if_pos c104] at k
        exact k
      · have h := h.2 c104
        rw [if_neg c104] at hE
        refine z_iload_n (pc' := 41) 2 rfl rfl dX6_filesHoldTwo_40 rfl ?_
        refine z_iload_n (pc' := 42) 3 rfl rfl dX6_filesHoldTwo_41 rfl ?_
        obtain ⟨r16, h⟩ := h
        have r17 := h
        refine z_icmp_ne 47 dX6_filesHoldTwo_42 (by decide) (pc' := 45) rfl r16 r17 (fun c105 => ?_) (fun c105 => ?_)
        · skip
          rw [if_neg c105] at hE
          refine z_iinc (pc' := 50) (ls' := [(0, zR 30), (1, zI ((i9 : Int) + 1)), (2, zI (F_Y_inFile w (i9 : Int) 0)), (3, zI (F_Y_inFile w (i9 : Int) 1))]) 1 rfl (by decide) rfl rfl dX6_filesHoldTwo_47 rfl ?_
          refine z_goto 2 dX6_filesHoldTwo_50 (by decide) ?_
          exact z_Wp.sub (ls' := [(0, zR 30), (1, zI ((i9 : Int) + 1))]) (z_lcast (by rw [z_c0 i9]) (ih (zfind_miss hf (by rw [hE]; decide)))) (z_sub_of [0, 1] rfl)
        · skip
          rw [if_pos c105] at hE
          refine z_iconst (pc' := 46) dX6_filesHoldTwo_45 rfl ?_
          refine z_zret rfl (by decide) dX6_filesHoldTwo_46 ?_
          have hz := zfind_hit hf hE _ hi
          rw [hz, if_neg (by omega), Int.toNat_natCast] at k
          unfold R_Y_filesHoldTwo_2 at k
          rw [if_neg c103] at k
          rw [if_neg c104] at k
          rw [if_pos c105] at k
          exact k
theorem b_Y_filesHoldTwo {w : z_Wd} : F_Y_filesHoldTwo w = 0 ∨ F_Y_filesHoldTwo w = 1 := by
  unfold F_Y_filesHoldTwo
  (repeat' split) <;> first | exact Or.inl rfl | exact Or.inr rfl | (unfold R_Y_filesHoldTwo_2; (repeat' split) <;> first | exact Or.inl rfl | exact Or.inr rfl)
def P_Y_stands (w : z_Wd)  : Prop := -2147483648 ≤ w 32 2 ∧ w 32 2 < 2147483648
def F_Y_stands (w : z_Wd)  : Int := if w 32 2 ≤ 0 then 0 else 1
set_option maxRecDepth 4000 in
theorem c_Y_stands {d : Nat} {w : z_Wd} {Q : Option z_V → z_Wd → Prop} (h : P_Y_stands w ) (k : Q (some (zI (F_Y_stands w ))) w) : z_Wc (d + 1) m_X6_stands [zR 30] w Q := by
  unfold P_Y_stands at h
  unfold F_Y_stands at k
  refine z_enter rfl (Nat.le_of_ble_eq_true rfl) ?_
  show z_Wp m_X6_stands _ 0 [(0, zR 30)] [] w _
  refine z_aload_n (pc' := 1) 0 rfl rfl dX6_stands_0 rfl ?_
  refine z_invV (as := []) (st := []) (C := m_X6_names) (fs := [33, 34]) (pc' := 4) dX6_stands_1 rfl t_2_157 k_X6_names rfl (by decide) rfl rfl rfl rfl (Nat.le_of_ble_eq_true rfl) ?_
  refine c_Y_names ?_
  show z_Wp m_X6_stands _ 4 [(0, zR 30)] [zI (w 32 2)] w _
  have r1 := h
  refine z_if_le 11 dX6_stands_4 (by decide) (pc' := 7) rfl r1 (fun c => ?_) (fun c => ?_)
  · skip
    rw [if_pos c] at k
    refine z_iconst (pc' := 12) dX6_stands_11 rfl ?_
    refine z_zret rfl (by decide) dX6_stands_12 ?_
    exact k
  · skip
    rw [if_neg c] at k
    refine z_iconst (pc' := 8) dX6_stands_7 rfl ?_
    refine z_goto 12 dX6_stands_8 (by decide) ?_
    refine z_zret rfl (by decide) dX6_stands_12 ?_
    exact k
theorem b_Y_stands {w : z_Wd} : F_Y_stands w = 0 ∨ F_Y_stands w = 1 := by
  unfold F_Y_stands
  (repeat' split) <;> first | exact Or.inl rfl | exact Or.inr rfl
def P_YR_readNumber (w : z_Wd) (a0 : Int) (a1 : Int) : Prop := (P_T_digitsFrom w (w 33 2) 3) ∧ (-2147483648 ≤ F_T_digitsFrom w (w 33 2) 3 ∧ F_T_digitsFrom w (w 33 2) 3 < 2147483648) ∧ ((F_T_digitsFrom w (w 33 2) 3 = 0 → True) ∧ (¬ (F_T_digitsFrom w (w 33 2) 3 = 0) → (F_T_digitsFrom w (w 33 2) 3 ≤ 2 → (P_T_number w (w 33 2) (F_T_digitsFrom w (w 33 2) 3)) ∧ (0 ≤ (a0 * 3) + a1 ∧ (a0 * 3) + a1 < 12) ∧ (-2147483648 ≤ F_T_number w (w 33 2) (F_T_digitsFrom w (w 33 2) 3) ∧ F_T_number w (w 33 2) (F_T_digitsFrom w (w 33 2) 3) < 2147483648) ∧ (-2147483648 ≤ z_sc 5 (((a0 * 3) + a1).toNat) ∧ z_sc 5 (((a0 * 3) + a1).toNat) < 2147483648) ∧ ((F_T_number w (w 33 2) (F_T_digitsFrom w (w 33 2) 3) < z_sc 5 (((a0 * 3) + a1).toNat) → True) ∧ (¬ (F_T_number w (w 33 2) (F_T_digitsFrom w (w 33 2) 3) < z_sc 5 (((a0 * 3) + a1).toNat)) → (-2147483648 ≤ z_sc 6 (((a0 * 3) + a1).toNat) ∧ z_sc 6 (((a0 * 3) + a1).toNat) < 2147483648) ∧ ((F_T_number w (w 33 2) (F_T_digitsFrom w (w 33 2) 3) ≤ z_sc 6 (((a0 * 3) + a1).toNat) → (P_Y_tellLatest_34 (z_up w 33 2 ((w 33 2) + ((F_T_digitsFrom w (w 33 2) 3) - 1))) a0 a1 (F_T_number w (w 33 2) (F_T_digitsFrom w (w 33 2) 3))) ∧ (P_YR_step (F_Y_tellLatest_34 (z_up w 33 2 ((w 33 2) + ((F_T_digitsFrom w (w 33 2) 3) - 1))) a0 a1 (F_T_number w (w 33 2) (F_T_digitsFrom w (w 33 2) 3))))) ∧ (¬ (F_T_number w (w 33 2) (F_T_digitsFrom w (w 33 2) 3) ≤ z_sc 6 (((a0 * 3) + a1).toNat)) → True))))) ∧ (¬ (F_T_digitsFrom w (w 33 2) 3 ≤ 2) → True)))
def F_YR_readNumber (w : z_Wd) (a0 : Int) (a1 : Int) : Int × z_Wd := if F_T_digitsFrom w (w 33 2) 3 = 0 then (0, w) else if F_T_digitsFrom w (w 33 2) 3 ≤ 2 then if F_T_number w (w 33 2) (F_T_digitsFrom w (w 33 2) 3) < z_sc 5 (((a0 * 3) + a1).toNat) then (0, z_up w 33 2 ((w 33 2) + ((F_T_digitsFrom w (w 33 2) 3) - 1))) else if F_T_number w (w 33 2) (F_T_digitsFrom w (w 33 2) 3) ≤ z_sc 6 (((a0 * 3) + a1).toNat) then (1, F_YR_step (F_Y_tellLatest_34 (z_up w 33 2 ((w 33 2) + ((F_T_digitsFrom w (w 33 2) 3) - 1))) a0 a1 (F_T_number w (w 33 2) (F_T_digitsFrom w (w 33 2) 3)))) else (0, z_up w 33 2 ((w 33 2) + ((F_T_digitsFrom w (w 33 2) 3) - 1))) else (0, z_up w 33 2 ((w 33 2) + 2))
set_option maxRecDepth 4000 in
theorem c_YR_readNumber {d : Nat} {w : z_Wd} {a0 a1 : Int} {Q : Option z_V → z_Wd → Prop} (h : P_YR_readNumber w a0 a1) (k : Q (some (zI (F_YR_readNumber w a0 a1).1)) (F_YR_readNumber w a0 a1).2) : z_Wc (d + 3) m_X7_readNumber [zR 33, zI a0, zI a1] w Q := by
  unfold P_YR_readNumber at h
  unfold F_YR_readNumber at k
  refine z_enter rfl (Nat.le_of_ble_eq_true rfl) ?_
  show z_Wp m_X7_readNumber _ 0 [(0, zR 33), (1, zI a0), (2, zI a1)] [] w _
  refine z_aload_n (pc' := 1) 0 rfl rfl dX7_readNumber_0 rfl ?_
  refine z_getR (t := 28) (pc' := 4) g_X7_18 (by decide) rfl rfl dX7_readNumber_1 rfl ?_
  refine z_aload_n (pc' := 5) 0 rfl rfl dX7_readNumber_4 rfl ?_
  refine z_getI2 (v := w 33 2) (pc' := 8) g_X7_31 (by decide) rfl rfl rfl dX7_readNumber_5 rfl ?_
  refine z_iconst (pc' := 9) dX7_readNumber_8 rfl ?_
  refine z_invV (as := [zI (w 33 2), zI 3]) (st := []) (C := m_X10_digitsFrom) (fs := [31, 0]) (pc' := 12) dX7_readNumber_9 rfl t_2_132 k_X10_digitsFrom rfl (by decide) rfl rfl rfl rfl (Nat.le_of_ble_eq_true rfl) ?_
  obtain ⟨r1, h⟩ := h
  refine c_T_digitsFrom r1 ?_
  show z_Wp m_X7_readNumber _ 12 [(0, zR 33), (1, zI a0), (2, zI a1)] [zI (F_T_digitsFrom w (w 33 2) 3)] w _
  refine z_istore_n (pc' := 13) (ls' := [(0, zR 33), (1, zI a0), (2, zI a1), (3, zI (F_T_digitsFrom w (w 33 2) 3))]) rfl (by decide) rfl rfl dX7_readNumber_12 rfl ?_
  refine z_iload_n (pc' := 14) 3 rfl rfl dX7_readNumber_13 rfl ?_
  obtain ⟨r2, h⟩ := h
  refine z_if_ne 19 dX7_readNumber_14 (by decide) (pc' := 17) rfl r2 (fun c => ?_) (fun c => ?_)
  · have h := h.2 c
    rw [if_neg c] at k
    refine z_iload_n (pc' := 20) 3 rfl rfl dX7_readNumber_19 rfl ?_
    refine z_iconst (pc' := 21) dX7_readNumber_20 rfl ?_
    refine z_icmp_le 36 dX7_readNumber_21 (by decide) (pc' := 24) rfl r2 (by decide) (fun c => ?_) (fun c => ?_)
    · have h := h.1 c
      rw [if_pos c] at k
      refine z_aload_n (pc' := 37) 0 rfl rfl dX7_readNumber_36 rfl ?_
      refine z_getR (t := 28) (pc' := 40) g_X7_18 (by decide) rfl rfl dX7_readNumber_37 rfl ?_
      refine z_aload_n (pc' := 41) 0 rfl rfl dX7_readNumber_40 rfl ?_
      refine z_getI2 (v := w 33 2) (pc' := 44) g_X7_31 (by decide) rfl rfl rfl dX7_readNumber_41 rfl ?_
      refine z_iload_n (pc' := 45) 3 rfl rfl dX7_readNumber_44 rfl ?_
      refine z_invV (as := [zI (w 33 2), zI (F_T_digitsFrom w (w 33 2) 3)]) (st := []) (C := m_X10_number) (fs := [31, 0]) (pc' := 48) dX7_readNumber_45 rfl t_2_136 k_X10_number rfl (by decide) rfl rfl rfl rfl (Nat.le_of_ble_eq_true rfl) ?_
      obtain ⟨r3, h⟩ := h
      refine c_T_number r3 ?_
      show z_Wp m_X7_readNumber _ 48 [(0, zR 33), (1, zI a0), (2, zI a1), (3, zI (F_T_digitsFrom w (w 33 2) 3))] [zI (F_T_number w (w 33 2) (F_T_digitsFrom w (w 33 2) 3))] w _
      refine z_istore (pc' := 50) (ls' := [(0, zR 33), (1, zI a0), (2, zI a1), (3, zI (F_T_digitsFrom w (w 33 2) 3)), (4, zI (F_T_number w (w 33 2) (F_T_digitsFrom w (w 33 2) 3)))]) (by decide) rfl rfl dX7_readNumber_48 rfl ?_
      refine z_aload_n (pc' := 51) 0 rfl rfl dX7_readNumber_50 rfl ?_
      refine z_dup (pc' := 52) rfl dX7_readNumber_51 rfl ?_
      refine z_getI2 (v := w 33 2) (pc' := 55) g_X7_31 (by decide) rfl rfl rfl dX7_readNumber_52 rfl ?_
      refine z_iload_n (pc' := 56) 3 rfl rfl dX7_readNumber_55 rfl ?_
      refine z_iconst (pc' := 57) dX7_readNumber_56 rfl ?_
      refine z_isub (pc' := 58) dX7_readNumber_57 rfl ?_
      refine z_iadd (pc' := 59) dX7_readNumber_58 rfl ?_
      refine z_putI (pc' := 62) p_X7_31 (by decide) rfl rfl rfl rfl dX7_readNumber_59 rfl ?_
      refine z_iload (pc' := 64) 4 rfl dX7_readNumber_62 rfl ?_
      refine z_gets (i := 5) (pc' := 67) rfl t_2_140 dX7_readNumber_64 rfl ?_
      refine z_iload_n (pc' := 68) 1 rfl rfl dX7_readNumber_67 rfl ?_
      refine z_iconst (pc' := 69) dX7_readNumber_68 rfl ?_
      refine z_imul (pc' := 70) dX7_readNumber_69 rfl ?_
      refine z_iload_n (pc' := 71) 2 rfl rfl dX7_readNumber_70 rfl ?_
      refine z_iadd (pc' := 72) dX7_readNumber_71 rfl ?_
      obtain ⟨r4, h⟩ := h
      refine z_ials2 (i := 5) (v := z_sc 5 (((a0 * 3) + a1).toNat)) (pc' := 73) rfl rfl r4 (by decide) rfl dX7_readNumber_72 rfl ?_
      obtain ⟨r5, h⟩ := h
      obtain ⟨r6, h⟩ := h
      refine z_icmp_lt 90 dX7_readNumber_73 (by decide) (pc' := 76) rfl r5 r6 (fun c => ?_) (fun c => ?_)
      · have h := h.1 c
        rw [if_pos c] at k
        refine z_iconst (pc' := 91) dX7_readNumber_90 rfl ?_
        refine z_zret rfl (by decide) dX7_readNumber_91 ?_
        exact k
      · have h := h.2 c
        rw [if_neg c] at k
        refine z_iload (pc' := 78) 4 rfl dX7_readNumber_76 rfl ?_
        refine z_gets (i := 6) (pc' := 81) rfl t_2_142 dX7_readNumber_78 rfl ?_
        refine z_iload_n (pc' := 82) 1 rfl rfl dX7_readNumber_81 rfl ?_
        refine z_iconst (pc' := 83) dX7_readNumber_82 rfl ?_
        refine z_imul (pc' := 84) dX7_readNumber_83 rfl ?_
        refine z_iload_n (pc' := 85) 2 rfl rfl dX7_readNumber_84 rfl ?_
        refine z_iadd (pc' := 86) dX7_readNumber_85 rfl ?_
        refine z_ials2 (i := 6) (v := z_sc 6 (((a0 * 3) + a1).toNat)) (pc' := 87) rfl rfl r4 (by decide) rfl dX7_readNumber_86 rfl ?_
        obtain ⟨r7, h⟩ := h
        refine z_icmp_le 92 dX7_readNumber_87 (by decide) (pc' := 90) rfl r5 r7 (fun c => ?_) (fun c => ?_)
        · have h := h.1 c
          rw [if_pos c] at k
          refine z_aload_n (pc' := 93) 0 rfl rfl dX7_readNumber_92 rfl ?_
          refine z_getR (t := 34) (pc' := 96) g_X7_12 (by decide) rfl rfl dX7_readNumber_93 rfl ?_
          refine z_iload_n (pc' := 97) 1 rfl rfl dX7_readNumber_96 rfl ?_
          refine z_iload_n (pc' := 98) 2 rfl rfl dX7_readNumber_97 rfl ?_
          refine z_iload (pc' := 100) 4 rfl dX7_readNumber_98 rfl ?_
          refine z_invV (as := [zI a0, zI a1, zI (F_T_number w (w 33 2) (F_T_digitsFrom w (w 33 2) 3))]) (st := []) (C := m_X6_tellLatest) (fs := [37, 38]) (pc' := 103) dX7_readNumber_100 rfl t_2_144 k_X6_tellLatest rfl (by decide) rfl rfl rfl rfl (Nat.le_of_ble_eq_true rfl) ?_
          obtain ⟨r8, h⟩ := h
          refine c_Y_tellLatest_34 r8 ?_
          show z_Wp m_X7_readNumber _ 103 [(0, zR 33), (1, zI a0), (2, zI a1), (3, zI (F_T_digitsFrom w (w 33 2) 3)), (4, zI (F_T_number w (w 33 2) (F_T_digitsFrom w (w 33 2) 3)))] [] (F_Y_tellLatest_34 (z_up w 33 2 ((w 33 2) + ((F_T_digitsFrom w (w 33 2) 3) - 1))) a0 a1 (F_T_number w (w 33 2) (F_T_digitsFrom w (w 33 2) 3))) _
          refine z_aload_n (pc' := 104) 0 rfl rfl dX7_readNumber_103 rfl ?_
          refine z_invV (as := []) (st := []) (C := m_X7_step) (fs := [30, 36, 0]) (pc' := 107) dX7_readNumber_104 rfl t_2_119 k_X7_step rfl (by decide) rfl rfl rfl rfl (Nat.le_of_ble_eq_true rfl) ?_
          have r9 := h
          refine c_YR_step r9 ?_
          show z_Wp m_X7_readNumber _ 107 [(0, zR 33), (1, zI a0), (2, zI a1), (3, zI (F_T_digitsFrom w (w 33 2) 3)), (4, zI (F_T_number w (w 33 2) (F_T_digitsFrom w (w 33 2) 3)))] [] (F_YR_step (F_Y_tellLatest_34 (z_up w 33 2 ((w 33 2) + ((F_T_digitsFrom w (w 33 2) 3) - 1))) a0 a1 (F_T_number w (w 33 2) (F_T_digitsFrom w (w 33 2) 3)))) _
          refine z_iconst (pc' := 108) dX7_readNumber_107 rfl ?_
          refine z_zret rfl (by decide) dX7_readNumber_108 ?_
          exact k
        · have h := h.2 c
          rw [if_neg c] at k
          refine z_iconst (pc' := 91) dX7_readNumber_90 rfl ?_
          refine z_zret rfl (by decide) dX7_readNumber_91 ?_
          exact k
    · have h := h.2 c
      rw [if_neg c] at k
      refine z_aload_n (pc' := 25) 0 rfl rfl dX7_readNumber_24 rfl ?_
      refine z_dup (pc' := 26) rfl dX7_readNumber_25 rfl ?_
      refine z_getI2 (v := w 33 2) (pc' := 29) g_X7_31 (by decide) rfl rfl rfl dX7_readNumber_26 rfl ?_
      refine z_iconst (pc' := 30) dX7_readNumber_29 rfl ?_
      refine z_iadd (pc' := 31) dX7_readNumber_30 rfl ?_
      refine z_putI (pc' := 34) p_X7_31 (by decide) rfl rfl rfl rfl dX7_readNumber_31 rfl ?_
      refine z_iconst (pc' := 35) dX7_readNumber_34 rfl ?_
      refine z_zret rfl (by decide) dX7_readNumber_35 ?_
      exact k
  · have h := h.1 c
    rw [if_pos c] at k
    refine z_iconst (pc' := 18) dX7_readNumber_17 rfl ?_
    refine z_zret rfl (by decide) dX7_readNumber_18 ?_
    exact k
def P_N_fewestDrops (w : z_Wd) (a0 : Int) : Prop := (P_K_inside w (-1)) ∧ (P_K_above w a0 (zz_and ((zz_shl 1 (w 32 2)) - 1) (zz_xor (F_K_inside w (-1)) (-1)))) ∧ ((P_Y_value w 2 a0 0) ∧ (P_Y_value w 0 0 0)) ∧ (P_K_isFree w a0) ∧ ((F_K_isFree w a0 = 0 → -2147483648 ≤ (F_K_above w a0 (zz_and ((zz_shl 1 (w 32 2)) - 1) (zz_xor (F_K_inside w (-1)) (-1)))) + ((F_Y_value w 2 a0 0) * (F_Y_value w 0 0 0)) ∧ (F_K_above w a0 (zz_and ((zz_shl 1 (w 32 2)) - 1) (zz_xor (F_K_inside w (-1)) (-1)))) + ((F_Y_value w 2 a0 0) * (F_Y_value w 0 0 0)) < 2147483648) ∧ (¬ (F_K_isFree w a0 = 0) → True))
def F_N_fewestDrops (w : z_Wd) (a0 : Int) : Int := if F_K_isFree w a0 = 0 then if (F_K_above w a0 (zz_and ((zz_shl 1 (w 32 2)) - 1) (zz_xor (F_K_inside w (-1)) (-1)))) + ((F_Y_value w 2 a0 0) * (F_Y_value w 0 0 0)) ≤ 9 then (F_K_above w a0 (zz_and ((zz_shl 1 (w 32 2)) - 1) (zz_xor (F_K_inside w (-1)) (-1)))) + ((F_Y_value w 2 a0 0) * (F_Y_value w 0 0 0)) else (-1) else (-1)
set_option maxRecDepth 4000 in
theorem c_N_fewestDrops {d : Nat} {w : z_Wd} {a0 : Int} {Q : Option z_V → z_Wd → Prop} (h : P_N_fewestDrops w a0) (k : Q (some (zI (F_N_fewestDrops w a0))) w) : z_Wc (d + 3) m_X8_fewestDrops [zR 76, zI a0] w Q := by
  unfold P_N_fewestDrops at h
  unfold F_N_fewestDrops at k
  refine z_enter rfl (Nat.le_of_ble_eq_true rfl) ?_
  show z_Wp m_X8_fewestDrops _ 0 [(0, zR 76), (1, zI a0)] [] w _
  refine z_aload_n (pc' := 1) 0 rfl rfl dX8_fewestDrops_0 rfl ?_
  refine z_getR (t := 41) (pc' := 4) g_X8_19 (by decide) rfl rfl dX8_fewestDrops_1 rfl ?_
  refine z_iload_n (pc' := 5) 1 rfl rfl dX8_fewestDrops_4 rfl ?_
  refine z_aload_n (pc' := 6) 0 rfl rfl dX8_fewestDrops_5 rfl ?_
  refine z_getR (t := 41) (pc' := 9) g_X8_19 (by decide) rfl rfl dX8_fewestDrops_6 rfl ?_
  refine z_invV (as := []) (st := [zI a0, zR 41]) (C := m_X3_drowned) (fs := [32, 44, 45, 46, 47, 48, 0, 0, 0]) (pc' := 12) dX8_fewestDrops_9 rfl t_4_203 k_X3_drowned rfl (by decide) rfl rfl rfl rfl (Nat.le_of_ble_eq_true rfl) ?_
  obtain ⟨r1, h⟩ := h
  refine c_K_drowned r1 ?_
  show z_Wp m_X8_fewestDrops _ 12 [(0, zR 76), (1, zI a0)] [zI (zz_and ((zz_shl 1 (w 32 2)) - 1) (zz_xor (F_K_inside w (-1)) (-1))), zI a0, zR 41] w _
  refine z_invV (as := [zI a0, zI (zz_and ((zz_shl 1 (w 32 2)) - 1) (zz_xor (F_K_inside w (-1)) (-1)))]) (st := []) (C := m_X3_above) (fs := [32, 44, 45, 46, 47, 48, 0, 0, 0]) (pc' := 15) dX8_fewestDrops_12 rfl t_4_204 k_X3_above rfl (by decide) rfl rfl rfl rfl (Nat.le_of_ble_eq_true rfl) ?_
  obtain ⟨r2, h⟩ := h
  refine c_K_above r2 ?_
  show z_Wp m_X8_fewestDrops _ 15 [(0, zR 76), (1, zI a0)] [zI (F_K_above w a0 (zz_and ((zz_shl 1 (w 32 2)) - 1) (zz_xor (F_K_inside w (-1)) (-1))))] w _
  refine z_aload_n (pc' := 16) 0 rfl rfl dX8_fewestDrops_15 rfl ?_
  refine z_getR (t := 30) (pc' := 19) g_X8_15 (by decide) rfl rfl dX8_fewestDrops_16 rfl ?_
  refine z_iload_n (pc' := 20) 1 rfl rfl dX8_fewestDrops_19 rfl ?_
  refine z_invV (as := [zI a0]) (st := [zI (F_K_above w a0 (zz_and ((zz_shl 1 (w 32 2)) - 1) (zz_xor (F_K_inside w (-1)) (-1))))]) (C := m_X6_drops) (fs := [33, 34]) (pc' := 23) dX8_fewestDrops_20 rfl t_4_205 k_X6_drops rfl (by decide) rfl rfl rfl rfl (Nat.le_of_ble_eq_true rfl) ?_
  obtain ⟨r3, h⟩ := h
  refine c_Y_drops r3 ?_
  show z_Wp m_X8_fewestDrops _ 23 [(0, zR 76), (1, zI a0)] [zI ((F_Y_value w 2 a0 0) * (F_Y_value w 0 0 0)), zI (F_K_above w a0 (zz_and ((zz_shl 1 (w 32 2)) - 1) (zz_xor (F_K_inside w (-1)) (-1))))] w _
  refine z_iadd (pc' := 24) dX8_fewestDrops_23 rfl ?_
  refine z_istore_n (pc' := 25) (ls' := [(0, zR 76), (1, zI a0), (2, zI ((F_K_above w a0 (zz_and ((zz_shl 1 (w 32 2)) - 1) (zz_xor (F_K_inside w (-1)) (-1)))) + ((F_Y_value w 2 a0 0) * (F_Y_value w 0 0 0))))]) rfl (by decide) rfl rfl dX8_fewestDrops_24 rfl ?_
  refine z_aload_n (pc' := 26) 0 rfl rfl dX8_fewestDrops_25 rfl ?_
  refine z_getR (t := 41) (pc' := 29) g_X8_19 (by decide) rfl rfl dX8_fewestDrops_26 rfl ?_
  refine z_iload_n (pc' := 30) 1 rfl rfl dX8_fewestDrops_29 rfl ?_
  refine z_invV (as := [zI a0]) (st := []) (C := m_X3_isFree) (fs := [32, 44, 45, 46, 47, 48, 0, 0, 0]) (pc' := 33) dX8_fewestDrops_30 rfl t_4_206 k_X3_isFree rfl (by decide) rfl rfl rfl rfl (Nat.le_of_ble_eq_true rfl) ?_
  obtain ⟨r4, h⟩ := h
  refine c_K_isFree r4 ?_
  show z_Wp m_X8_fewestDrops _ 33 [(0, zR 76), (1, zI a0), (2, zI ((F_K_above w a0 (zz_and ((zz_shl 1 (w 32 2)) - 1) (zz_xor (F_K_inside w (-1)) (-1)))) + ((F_Y_value w 2 a0 0) * (F_Y_value w 0 0 0))))] [zI (F_K_isFree w a0)] w _
  refine z_if_ne 42 dX8_fewestDrops_33 (by decide) (pc' := 36) rfl (z_rb b_K_isFree) (fun c => ?_) (fun c => ?_)
  · have h := h.2 c
    rw [if_neg c] at k
    refine z_iconst (pc' := 43) dX8_fewestDrops_42 rfl ?_
    refine z_goto 47 dX8_fewestDrops_43 (by decide) ?_
    refine z_iret rfl dX8_fewestDrops_47 ?_
    exact k
  · have h := h.1 c
    rw [if_pos c] at k
    refine z_iload_n (pc' := 37) 2 rfl rfl dX8_fewestDrops_36 rfl ?_
    refine z_bipush (pc' := 39) (by decide) dX8_fewestDrops_37 rfl ?_
    have r5 := h
    refine z_icmp_le 46 dX8_fewestDrops_39 (by decide) (pc' := 42) rfl r5 (by decide) (fun c => ?_) (fun c => ?_)
    · skip
      rw [if_pos c] at k
      refine z_iload_n (pc' := 47) 2 rfl rfl dX8_fewestDrops_46 rfl ?_
      refine z_iret rfl dX8_fewestDrops_47 ?_
      exact k
    · skip
      rw [if_neg c] at k
      refine z_iconst (pc' := 43) dX8_fewestDrops_42 rfl ?_
      refine z_goto 47 dX8_fewestDrops_43 (by decide) ?_
      refine z_iret rfl dX8_fewestDrops_47 ?_
      exact k
def A_N_setUp_2 (w : z_Wd) (a0 : Int) : Nat → z_Wd
  | 0 => w
  | i5 + 1 => z_up (A_N_setUp_2 w a0 i5) 77 ((i5 : Int).toNat) (F_K_comesUp (A_N_setUp_2 w a0 i5) a0 (i5 : Int) (zz_and ((zz_shl 1 ((A_N_setUp_2 w a0 i5) 32 2)) - 1) (zz_xor (F_K_inside (A_N_setUp_2 w a0 i5) (-1)) (-1))))
def P_N_setUp (w : z_Wd) (a0 : Int) : Prop := (∀ i5 : Nat, i5 < 10 → (-2147483648 ≤ (i5 : Int) ∧ (i5 : Int) < 2147483648) ∧ (P_K_inside (A_N_setUp_2 w a0 i5) (-1)) ∧ (P_K_comesUp (A_N_setUp_2 w a0 i5) a0 (i5 : Int) (zz_and ((zz_shl 1 ((A_N_setUp_2 w a0 i5) 32 2)) - 1) (zz_xor (F_K_inside (A_N_setUp_2 w a0 i5) (-1)) (-1)))) ∧ (0 ≤ (i5 : Int) ∧ (i5 : Int) < 10)) ∧ (True)
def F_N_setUp (w : z_Wd) (a0 : Int) : z_Wd := A_N_setUp_2 w a0 10
set_option maxRecDepth 4000 in
theorem c_N_setUp {d : Nat} {w : z_Wd} {a0 : Int} {Q : Option z_V → z_Wd → Prop} (h : P_N_setUp w a0) (k : Q none (F_N_setUp w a0)) : z_Wc (d + 4) m_X8_setUp [zR 76, zI a0] w Q := by
  unfold P_N_setUp at h
  unfold F_N_setUp at k
  refine z_enter rfl (Nat.le_of_ble_eq_true rfl) ?_
  show z_Wp m_X8_setUp _ 0 [(0, zR 76), (1, zI a0)] [] w _
  refine z_iconst (pc' := 1) dX8_setUp_0 rfl ?_
  refine z_istore_n (pc' := 2) (ls' := [(0, zR 76), (1, zI a0), (2, zI 0)]) rfl (by decide) rfl rfl dX8_setUp_1 rfl ?_
  refine z_upto 10 (fun i5 => z_Wp m_X8_setUp (d + 4) 2 [(0, zR 76), (1, zI a0), (2, zI (i5 : Int))] [] (A_N_setUp_2 w a0 i5) Q) ?_ ?_
  · skip
    have h := h.2
    refine z_iload_n (pc' := 3) 2 rfl rfl dX8_setUp_2 rfl ?_
    refine z_bipush (pc' := 5) (by decide) dX8_setUp_3 rfl ?_
    refine z_icmp_gt 36 dX8_setUp_5 (by decide) (pc' := 8) rfl (by decide) (by decide) (fun _ => ?_) (fun c => absurd c (by decide))
    refine z_vret rfl dX8_setUp_36 ?_
    exact k
  · intro i5 hi ih
    have h := h.1 i5 hi
    have ih : z_Wp m_X8_setUp (d + 4) 2 [(0, zR 76), (1, zI a0), (2, zI ((i5 + 1 : Nat) : Int))] [] (z_up (A_N_setUp_2 w a0 i5) 77 ((i5 : Int).toNat) (F_K_comesUp (A_N_setUp_2 w a0 i5) a0 (i5 : Int) (zz_and ((zz_shl 1 ((A_N_setUp_2 w a0 i5) 32 2)) - 1) (zz_xor (F_K_inside (A_N_setUp_2 w a0 i5) (-1)) (-1))))) Q := ih
    refine z_iload_n (pc' := 3) 2 rfl rfl dX8_setUp_2 rfl ?_
    refine z_bipush (pc' := 5) (by decide) dX8_setUp_3 rfl ?_
    obtain ⟨r6, h⟩ := h
    refine z_icmp_gt 36 dX8_setUp_5 (by decide) (pc' := 8) rfl r6 (by decide) (fun c => absurd c (by omega)) (fun _ => ?_)
    refine z_aload_n (pc' := 9) 0 rfl rfl dX8_setUp_8 rfl ?_
    refine z_getR (t := 77) (pc' := 12) g_X8_11 (by decide) rfl rfl dX8_setUp_9 rfl ?_
    refine z_iload_n (pc' := 13) 2 rfl rfl dX8_setUp_12 rfl ?_
    refine z_aload_n (pc' := 14) 0 rfl rfl dX8_setUp_13 rfl ?_
    refine z_getR (t := 41) (pc' := 17) g_X8_19 (by decide) rfl rfl dX8_setUp_14 rfl ?_
    refine z_iload_n (pc' := 18) 1 rfl rfl dX8_setUp_17 rfl ?_
    refine z_iload_n (pc' := 19) 2 rfl rfl dX8_setUp_18 rfl ?_
    refine z_aload_n (pc' := 20) 0 rfl rfl dX8_setUp_19 rfl ?_
    refine z_getR (t := 41) (pc' := 23) g_X8_19 (by decide) rfl rfl dX8_setUp_20 rfl ?_
    refine z_invV (as := []) (st := [zI (i5 : Int), zI a0, zR 41, zI (i5 : Int), zR 77]) (C := m_X3_drowned) (fs := [32, 44, 45, 46, 47, 48, 0, 0, 0]) (pc' := 26) dX8_setUp_23 rfl t_4_203 k_X3_drowned rfl (by decide) rfl rfl rfl rfl (Nat.le_of_ble_eq_true rfl) ?_
    obtain ⟨r7, h⟩ := h
    refine c_K_drowned r7 ?_
    show z_Wp m_X8_setUp _ 26 [(0, zR 76), (1, zI a0), (2, zI (i5 : Int))] [zI (zz_and ((zz_shl 1 ((A_N_setUp_2 w a0 i5) 32 2)) - 1) (zz_xor (F_K_inside (A_N_setUp_2 w a0 i5) (-1)) (-1))), zI (i5 : Int), zI a0, zR 41, zI (i5 : Int), zR 77] (A_N_setUp_2 w a0 i5) _
    refine z_invV (as := [zI a0, zI (i5 : Int), zI (zz_and ((zz_shl 1 ((A_N_setUp_2 w a0 i5) 32 2)) - 1) (zz_xor (F_K_inside (A_N_setUp_2 w a0 i5) (-1)) (-1)))]) (st := [zI (i5 : Int), zR 77]) (C := m_X3_comesUp) (fs := [32, 44, 45, 46, 47, 48, 0, 0, 0]) (pc' := 29) dX8_setUp_26 rfl t_5_71 k_X3_comesUp rfl (by decide) rfl rfl rfl rfl (Nat.le_of_ble_eq_true rfl) ?_
    obtain ⟨r8, h⟩ := h
    refine c_K_comesUp r8 ?_
    show z_Wp m_X8_setUp _ 29 [(0, zR 76), (1, zI a0), (2, zI (i5 : Int))] [zI (F_K_comesUp (A_N_setUp_2 w a0 i5) a0 (i5 : Int) (zz_and ((zz_shl 1 ((A_N_setUp_2 w a0 i5) 32 2)) - 1) (zz_xor (F_K_inside (A_N_setUp_2 w a0 i5) (-1)) (-1)))), zI (i5 : Int), zR 77] (A_N_setUp_2 w a0 i5) _
    have r9 := h
    refine z_iast2 (w' := z_up (A_N_setUp_2 w a0 i5) 77 ((i5 : Int).toNat) (F_K_comesUp (A_N_setUp_2 w a0 i5) a0 (i5 : Int) (zz_and ((zz_shl 1 ((A_N_setUp_2 w a0 i5) 32 2)) - 1) (zz_xor (F_K_inside (A_N_setUp_2 w a0 i5) (-1)) (-1))))) (pc' := 30) (by decide) rfl r9 (by decide) rfl dX8_setUp_29 rfl ?_
    refine z_iinc (pc' := 33) (ls' := [(0, zR 76), (1, zI a0), (2, zI ((i5 : Int) + 1))]) 2 rfl (by decide) rfl rfl dX8_setUp_30 rfl ?_
    refine z_goto 2 dX8_setUp_33 (by decide) ?_
    exact ih
def A_N_restCount_15 (w : z_Wd) (a0 : Int) (a1 : Int) (i9 : Nat) (s0 : Int): Nat → Int
  | 0 => s0
  | i14 + 1 => if F_N_hasNoBetter w a0 (i9 : Int) (i14 : Int) = 0 then A_N_restCount_15 w a0 a1 i9 s0 i14 else if F_N_hasNoBetter w a1 (i14 : Int) (i9 : Int) = 0 then A_N_restCount_15 w a0 a1 i9 s0 i14 else (A_N_restCount_15 w a0 a1 i9 s0 i14) + 1
def A_N_restCount_5 (w : z_Wd) (a0 : Int) (a1 : Int) : Nat → Int
  | 0 => 0
  | i9 + 1 => A_N_restCount_15 w a0 a1 i9 (A_N_restCount_5 w a0 a1 i9) 10
def P_N_restCount (w : z_Wd) (a0 : Int) (a1 : Int) : Prop := (∀ i9 : Nat, i9 < 10 → (-2147483648 ≤ (i9 : Int) ∧ (i9 : Int) < 2147483648) ∧ ((∀ i14 : Nat, i14 < 10 → (-2147483648 ≤ (i14 : Int) ∧ (i14 : Int) < 2147483648) ∧ (P_N_hasNoBetter w a0 (i9 : Int) (i14 : Int)) ∧ ((F_N_hasNoBetter w a0 (i9 : Int) (i14 : Int) = 0 → True) ∧ (¬ (F_N_hasNoBetter w a0 (i9 : Int) (i14 : Int) = 0) → P_N_hasNoBetter w a1 (i14 : Int) (i9 : Int)))) ∧ (True))) ∧ (True)
def F_N_restCount (w : z_Wd) (a0 : Int) (a1 : Int) : Int := A_N_restCount_5 w a0 a1 10
set_option maxRecDepth 4000 in
theorem c_N_restCount {d : Nat} {w : z_Wd} {a0 a1 : Int} {Q : Option z_V → z_Wd → Prop} (h : P_N_restCount w a0 a1) (k : Q (some (zI (F_N_restCount w a0 a1))) w) : z_Wc (d + 4) m_X8_restCount [zR 76, zI a0, zI a1] w Q := by
  unfold P_N_restCount at h
  unfold F_N_restCount at k
  refine z_enter rfl (Nat.le_of_ble_eq_true rfl) ?_
  show z_Wp m_X8_restCount _ 0 [(0, zR 76), (1, zI a0), (2, zI a1)] [] w _
  refine z_iconst (pc' := 1) dX8_restCount_0 rfl ?_
  refine z_istore_n (pc' := 2) (ls' := [(0, zR 76), (1, zI a0), (2, zI a1), (3, zI 0)]) rfl (by decide) rfl rfl dX8_restCount_1 rfl ?_
  refine z_iconst (pc' := 3) dX8_restCount_2 rfl ?_
  refine z_istore (pc' := 5) (ls' := [(0, zR 76), (1, zI a0), (2, zI a1), (3, zI 0), (4, zI 0)]) (by decide) rfl rfl dX8_restCount_3 rfl ?_
  refine z_upto 10 (fun i9 => z_Wp m_X8_restCount (d + 4) 5 [(0, zR 76), (1, zI a0), (2, zI a1), (3, zI (A_N_restCount_5 w a0 a1 i9)), (4, zI (i9 : Int))] [] w Q) ?_ ?_
  · skip
    have h := h.2
    refine z_iload (pc' := 7) 4 rfl dX8_restCount_5 rfl ?_
    refine z_bipush (pc' := 9) (by decide) dX8_restCount_7 rfl ?_
    refine z_icmp_gt 61 dX8_restCount_9 (by decide) (pc' := 12) rfl (by decide) (by decide) (fun _ => ?_) (fun c => absurd c (by decide))
    refine z_iload_n (pc' := 62) 3 rfl rfl dX8_restCount_61 rfl ?_
    refine z_iret rfl dX8_restCount_62 ?_
    exact k
  · intro i9 hi ih
    have h := h.1 i9 hi
    have ih : z_Wp m_X8_restCount (d + 4) 5 [(0, zR 76), (1, zI a0), (2, zI a1), (3, zI (A_N_restCount_15 w a0 a1 i9 (A_N_restCount_5 w a0 a1 i9) 10)), (4, zI ((i9 + 1 : Nat) : Int))] [] w Q := ih
    refine z_iload (pc' := 7) 4 rfl dX8_restCount_5 rfl ?_
    refine z_bipush (pc' := 9) (by decide) dX8_restCount_7 rfl ?_
    obtain ⟨r10, h⟩ := h
    refine z_icmp_gt 61 dX8_restCount_9 (by decide) (pc' := 12) rfl r10 (by decide) (fun c => absurd c (by omega)) (fun _ => ?_)
    refine z_iconst (pc' := 13) dX8_restCount_12 rfl ?_
    refine z_istore (pc' := 15) (ls' := [(0, zR 76), (1, zI a0), (2, zI a1), (3, zI (A_N_restCount_5 w a0 a1 i9)), (4, zI (i9 : Int)), (5, zI 0)]) (by decide) rfl rfl dX8_restCount_13 rfl ?_
    refine z_upto 10 (fun i14 => z_Wp m_X8_restCount (d + 4) 15 [(0, zR 76), (1, zI a0), (2, zI a1), (3, zI (A_N_restCount_15 w a0 a1 i9 (A_N_restCount_5 w a0 a1 i9) i14)), (4, zI (i9 : Int)), (5, zI (i14 : Int))] [] w Q) ?_ ?_
    · skip
      have h := h.2
      refine z_iload (pc' := 17) 5 rfl dX8_restCount_15 rfl ?_
      refine z_bipush (pc' := 19) (by decide) dX8_restCount_17 rfl ?_
      refine z_icmp_gt 55 dX8_restCount_19 (by decide) (pc' := 22) rfl (by decide) (by decide) (fun _ => ?_) (fun c => absurd c (by decide))
      refine z_iinc (pc' := 58) (ls' := [(0, zR 76), (1, zI a0), (2, zI a1), (3, zI (A_N_restCount_15 w a0 a1 i9 (A_N_restCount_5 w a0 a1 i9) 10)), (4, zI ((i9 : Int) + 1)), (5, zI 10)]) 4 rfl (by decide) rfl rfl dX8_restCount_55 rfl ?_
      refine z_goto 5 dX8_restCount_58 (by decide) ?_
      exact z_Wp.sub (ls' := [(0, zR 76), (1, zI a0), (2, zI a1), (3, zI (A_N_restCount_15 w a0 a1 i9 (A_N_restCount_5 w a0 a1 i9) 10)), (4, zI ((i9 : Int) + 1))]) (z_lcast (by rw [z_c0 i9]) ih) (z_sub_of [0, 1, 2, 3, 4] rfl)
    · intro i14 hi ih
      have h := h.1 i14 hi
      have ih : z_Wp m_X8_restCount (d + 4) 15 [(0, zR 76), (1, zI a0), (2, zI a1), (3, zI (if F_N_hasNoBetter w a0 (i9 : Int) (i14 : Int) = 0 then A_N_restCount_15 w a0 a1 i9 (A_N_restCount_5 w a0 a1 i9) i14 else if F_N_hasNoBetter w a1 (i14 : Int) (i9 : Int) = 0 then A_N_restCount_15 w a0 a1 i9 (A_N_restCount_5 w a0 a1 i9) i14 else (A_N_restCount_15 w a0 a1 i9 (A_N_restCount_5 w a0 a1 i9) i14) + 1)), (4, zI (i9 : Int)), (5, zI ((i14 + 1 : Nat) : Int))] [] w Q := ih
      refine z_iload (pc' := 17) 5 rfl dX8_restCount_15 rfl ?_
      refine z_bipush (pc' := 19) (by decide) dX8_restCount_17 rfl ?_
      obtain ⟨r15, h⟩ := h
      refine z_icmp_gt 55 dX8_restCount_19 (by decide) (pc' := 22) rfl r15 (by decide) (fun c => absurd c (by omega)) (fun _ => ?_)
      refine z_aload_n (pc' := 23) 0 rfl rfl dX8_restCount_22 rfl ?_
      refine z_iload_n (pc' := 24) 1 rfl rfl dX8_restCount_23 rfl ?_
      refine z_iload (pc' := 26) 4 rfl dX8_restCount_24 rfl ?_
      refine z_iload (pc' := 28) 5 rfl dX8_restCount_26 rfl ?_
      refine z_invV (as := [zI a0, zI (i9 : Int), zI (i14 : Int)]) (st := []) (C := m_X8_hasNoBetter) (fs := [32, 43, 79]) (pc' := 31) dX8_restCount_28 rfl t_5_87 k_X8_hasNoBetter rfl (by decide) rfl rfl rfl rfl (Nat.le_of_ble_eq_true rfl) ?_
      obtain ⟨r16, h⟩ := h
      refine c_N_hasNoBetter r16 ?_
      show z_Wp m_X8_restCount _ 31 [(0, zR 76), (1, zI a0), (2, zI a1), (3, zI (A_N_restCount_15 w a0 a1 i9 (A_N_restCount_5 w a0 a1 i9) i14)), (4, zI (i9 : Int)), (5, zI (i14 : Int))] [zI (F_N_hasNoBetter w a0 (i9 : Int) (i14 : Int))] w _
      refine z_if_eq 49 dX8_restCount_31 (by decide) (pc' := 34) rfl (z_rb b_N_hasNoBetter) (fun c106 => ?_) (fun c106 => ?_)
      · have h := h.1 c106
        rw [if_pos c106] at ih
        refine z_iinc (pc' := 52) (ls' := [(0, zR 76), (1, zI a0), (2, zI a1), (3, zI (A_N_restCount_15 w a0 a1 i9 (A_N_restCount_5 w a0 a1 i9) i14)), (4, zI (i9 : Int)), (5, zI ((i14 : Int) + 1))]) 5 rfl (by decide) rfl rfl dX8_restCount_49 rfl ?_
        refine z_goto 15 dX8_restCount_52 (by decide) ?_
        exact ih
      · have h := h.2 c106
        rw [if_neg c106] at ih
        refine z_aload_n (pc' := 35) 0 rfl rfl dX8_restCount_34 rfl ?_
        refine z_iload_n (pc' := 36) 2 rfl rfl dX8_restCount_35 rfl ?_
        refine z_iload (pc' := 38) 5 rfl dX8_restCount_36 rfl ?_
        refine z_iload (pc' := 40) 4 rfl dX8_restCount_38 rfl ?_
        refine z_invV (as := [zI a1, zI (i14 : Int), zI (i9 : Int)]) (st := []) (C := m_X8_hasNoBetter) (fs := [32, 43, 79]) (pc' := 43) dX8_restCount_40 rfl t_5_87 k_X8_hasNoBetter rfl (by decide) rfl rfl rfl rfl (Nat.le_of_ble_eq_true rfl) ?_
        have r17 := h
        refine c_N_hasNoBetter r17 ?_
        show z_Wp m_X8_restCount _ 43 [(0, zR 76), (1, zI a0), (2, zI a1), (3, zI (A_N_restCount_15 w a0 a1 i9 (A_N_restCount_5 w a0 a1 i9) i14)), (4, zI (i9 : Int)), (5, zI (i14 : Int))] [zI (F_N_hasNoBetter w a1 (i14 : Int) (i9 : Int))] w _
        refine z_if_eq 49 dX8_restCount_43 (by decide) (pc' := 46) rfl (z_rb b_N_hasNoBetter) (fun c107 => ?_) (fun c107 => ?_)
        · skip
          rw [if_pos c107] at ih
          refine z_iinc (pc' := 52) (ls' := [(0, zR 76), (1, zI a0), (2, zI a1), (3, zI (A_N_restCount_15 w a0 a1 i9 (A_N_restCount_5 w a0 a1 i9) i14)), (4, zI (i9 : Int)), (5, zI ((i14 : Int) + 1))]) 5 rfl (by decide) rfl rfl dX8_restCount_49 rfl ?_
          refine z_goto 15 dX8_restCount_52 (by decide) ?_
          exact ih
        · skip
          rw [if_neg c107] at ih
          refine z_iinc (pc' := 49) (ls' := [(0, zR 76), (1, zI a0), (2, zI a1), (3, zI ((A_N_restCount_15 w a0 a1 i9 (A_N_restCount_5 w a0 a1 i9) i14) + 1)), (4, zI (i9 : Int)), (5, zI (i14 : Int))]) 3 rfl (by decide) rfl rfl dX8_restCount_46 rfl ?_
          refine z_iinc (pc' := 52) (ls' := [(0, zR 76), (1, zI a0), (2, zI a1), (3, zI ((A_N_restCount_15 w a0 a1 i9 (A_N_restCount_5 w a0 a1 i9) i14) + 1)), (4, zI (i9 : Int)), (5, zI ((i14 : Int) + 1))]) 5 rfl (by decide) rfl rfl dX8_restCount_49 rfl ?_
          refine z_goto 15 dX8_restCount_52 (by decide) ?_
          exact ih
def P_D_rule (w : z_Wd) (a0 : Int) : Prop := (P_Y_stands w) ∧ ((F_Y_stands w = 0 → True) ∧ (¬ (F_Y_stands w = 0) → (-2147483648 ≤ a0 ∧ a0 < 2147483648) ∧ ((a0 = 0 → P_Y_value w 0 0 0) ∧ (¬ a0 = 0 → (a0 = 1 → True) ∧ (¬ a0 = 1 → True)))))
def F_D_rule (w : z_Wd) (a0 : Int) : Int := if F_Y_stands w = 0 then (-1) else if a0 = 0 then F_Y_value w 0 0 0 else if a0 = 1 then w 41 6 else (-1)
set_option maxRecDepth 4000 in
theorem c_D_rule {d : Nat} {w : z_Wd} {a0 : Int} {Q : Option z_V → z_Wd → Prop} (h : P_D_rule w a0) (k : Q (some (zI (F_D_rule w a0))) w) : z_Wc (d + 2) m_X11_rule [zR 27, zI a0] w Q := by
  unfold P_D_rule at h
  unfold F_D_rule at k
  refine z_enter rfl (Nat.le_of_ble_eq_true rfl) ?_
  show z_Wp m_X11_rule _ 0 [(0, zR 27), (1, zI a0)] [] w _
  refine z_aload_n (pc' := 1) 0 rfl rfl dX11_rule_0 rfl ?_
  refine z_getR (t := 30) (pc' := 4) g_X11_19 (by decide) rfl rfl dX11_rule_1 rfl ?_
  refine z_invV (as := []) (st := []) (C := m_X6_stands) (fs := [33, 34]) (pc' := 7) dX11_rule_4 rfl t_3_95 k_X6_stands rfl (by decide) rfl rfl rfl rfl (Nat.le_of_ble_eq_true rfl) ?_
  obtain ⟨r1, h⟩ := h
  refine c_Y_stands r1 ?_
  show z_Wp m_X11_rule _ 7 [(0, zR 27), (1, zI a0)] [zI (F_Y_stands w)] w _
  refine z_if_ne 12 dX11_rule_7 (by decide) (pc' := 10) rfl (z_rb b_Y_stands) (fun c => ?_) (fun c => ?_)
  · have h := h.2 c
    rw [if_neg c] at k
    refine z_iload_n (pc' := 13) 1 rfl rfl dX11_rule_12 rfl ?_
    obtain ⟨r2, h⟩ := h
    refine z_lookup dX11_rule_13 (by decide) r2 ⟨fun c0 => ⟨40, by decide, ?_⟩, fun c0 => ⟨fun c1 => ⟨48, by decide, ?_⟩, fun c1 => ⟨56, by decide, ?_⟩⟩⟩
    · skip
      have c0 : a0 = 0 := c0
      have h := h.1 c0
      rw [if_pos c0] at k
      refine z_aload_n (pc' := 41) 0 rfl rfl dX11_rule_40 rfl ?_
      refine z_getR (t := 30) (pc' := 44) g_X11_19 (by decide) rfl rfl dX11_rule_41 rfl ?_
      refine z_invV (as := []) (st := []) (C := m_X6_dropsOfSyllable) (fs := [33, 34]) (pc' := 47) dX11_rule_44 rfl t_3_99 k_X6_dropsOfSyllable rfl (by decide) rfl rfl rfl rfl (Nat.le_of_ble_eq_true rfl) ?_
      have r3 := h
      refine c_Y_dropsOfSyllable r3 ?_
      show z_Wp m_X11_rule _ 47 [(0, zR 27), (1, zI a0)] [zI (F_Y_value w 0 0 0)] w _
      refine z_iret rfl dX11_rule_47 ?_
      exact k
    · skip
      have c0 : ¬ a0 = 0 := c0
      have h := h.2 c0
      rw [if_neg c0] at k
      have c1 : a0 = 1 := c1
      have h := h.1 c1
      rw [if_pos c1] at k
      refine z_aload_n (pc' := 49) 0 rfl rfl dX11_rule_48 rfl ?_
      refine z_getR (t := 41) (pc' := 52) g_X11_44 (by decide) rfl rfl dX11_rule_49 rfl ?_
      refine z_invV (as := []) (st := []) (C := m_X3_coins) (fs := [32, 44, 45, 46, 47, 48, 0, 0, 0]) (pc' := 55) dX11_rule_52 rfl t_3_103 k_X3_coins rfl (by decide) rfl rfl rfl rfl (Nat.le_of_ble_eq_true rfl) ?_
      refine c_K_coins ?_
      show z_Wp m_X11_rule _ 55 [(0, zR 27), (1, zI a0)] [zI (w 41 6)] w _
      refine z_iret rfl dX11_rule_55 ?_
      exact k
    · skip
      have c0 : ¬ a0 = 0 := c0
      have h := h.2 c0
      rw [if_neg c0] at k
      have c1 : ¬ a0 = 1 := c1
      have h := h.2 c1
      rw [if_neg c1] at k
      refine z_iconst (pc' := 57) dX11_rule_56 rfl ?_
      refine z_iret rfl dX11_rule_57 ?_
      exact k
  · have h := h.1 c
    rw [if_pos c] at k
    refine z_iconst (pc' := 11) dX11_rule_10 rfl ?_
    refine z_iret rfl dX11_rule_11 ?_
    exact k
def P_D_well (w : z_Wd) (a0 : Int) (a1 : Int) : Prop := (P_Y_hasWell w a0) ∧ ((F_Y_hasWell w a0 = 0 → True) ∧ (¬ (F_Y_hasWell w a0 = 0) → (-2147483648 ≤ a1 ∧ a1 < 2147483648) ∧ ((a1 = 0 → P_K_depth w a0) ∧ (¬ a1 = 0 → (a1 = 1 → P_Y_isRed w a0) ∧ (¬ a1 = 1 → (a1 = 2 → (P_K_depth w a0) ∧ (P_K_inside w a0) ∧ (P_Y_dropsOf w (F_K_inside w a0))) ∧ (¬ a1 = 2 → (a1 = 3 → P_K_inside w a0) ∧ (¬ a1 = 3 → True)))))))
def F_D_well (w : z_Wd) (a0 : Int) (a1 : Int) : Int := if F_Y_hasWell w a0 = 0 then (-1) else if a1 = 0 then F_K_depth w a0 else if a1 = 1 then if F_Y_isRed w a0 = 0 then 0 else 1 else if a1 = 2 then (F_K_depth w a0) - (F_Y_dropsOf w (F_K_inside w a0)) else if a1 = 3 then F_J_bitCount_0f7a4 w (F_K_inside w a0) else (-1)
set_option maxRecDepth 4000 in
theorem c_D_well {d : Nat} {w : z_Wd} {a0 a1 : Int} {Q : Option z_V → z_Wd → Prop} (h : P_D_well w a0 a1) (k : Q (some (zI (F_D_well w a0 a1))) w) : z_Wc (d + 3) m_X11_well [zR 27, zI a0, zI a1] w Q := by
  unfold P_D_well at h
  unfold F_D_well at k
  refine z_enter rfl (Nat.le_of_ble_eq_true rfl) ?_
  show z_Wp m_X11_well _ 0 [(0, zR 27), (1, zI a0), (2, zI a1)] [] w _
  refine z_aload_n (pc' := 1) 0 rfl rfl dX11_well_0 rfl ?_
  refine z_getR (t := 30) (pc' := 4) g_X11_19 (by decide) rfl rfl dX11_well_1 rfl ?_
  refine z_iload_n (pc' := 5) 1 rfl rfl dX11_well_4 rfl ?_
  refine z_invV (as := [zI a0]) (st := []) (C := m_X6_hasWell) (fs := [33, 34]) (pc' := 8) dX11_well_5 rfl t_3_111 k_X6_hasWell rfl (by decide) rfl rfl rfl rfl (Nat.le_of_ble_eq_true rfl) ?_
  obtain ⟨r1, h⟩ := h
  refine c_Y_hasWell r1 ?_
  show z_Wp m_X11_well _ 8 [(0, zR 27), (1, zI a0), (2, zI a1)] [zI (F_Y_hasWell w a0)] w _
  refine z_if_ne 13 dX11_well_8 (by decide) (pc' := 11) rfl (z_rb b_Y_hasWell) (fun c => ?_) (fun c => ?_)
  · have h := h.2 c
    rw [if_neg c] at k
    refine z_iload_n (pc' := 14) 2 rfl rfl dX11_well_13 rfl ?_
    obtain ⟨r2, h⟩ := h
    refine z_table dX11_well_14 (by decide) r2 ⟨fun c0 => ⟨44, by decide, ?_⟩, fun c0 => ⟨fun c1 => ⟨53, by decide, ?_⟩, fun c1 => ⟨fun c2 => ⟨70, by decide, ?_⟩, fun c2 => ⟨fun c3 => ⟨79, by decide, ?_⟩, fun c3 => ⟨91, by decide, ?_⟩⟩⟩⟩⟩
    · skip
      have c0 : a1 = 0 := c0
      have h := h.1 c0
      rw [if_pos c0] at k
      refine z_aload_n (pc' := 45) 0 rfl rfl dX11_well_44 rfl ?_
      refine z_getR (t := 41) (pc' := 48) g_X11_44 (by decide) rfl rfl dX11_well_45 rfl ?_
      refine z_iload_n (pc' := 49) 1 rfl rfl dX11_well_48 rfl ?_
      refine z_invV (as := [zI a0]) (st := []) (C := m_X3_depth) (fs := [32, 44, 45, 46, 47, 48, 0, 0, 0]) (pc' := 52) dX11_well_49 rfl t_3_115 k_X3_depth rfl (by decide) rfl rfl rfl rfl (Nat.le_of_ble_eq_true rfl) ?_
      have r3 := h
      refine c_K_depth r3 ?_
      show z_Wp m_X11_well _ 52 [(0, zR 27), (1, zI a0), (2, zI a1)] [zI (F_K_depth w a0)] w _
      refine z_iret rfl dX11_well_52 ?_
      exact k
    · skip
      have c0 : ¬ a1 = 0 := c0
      have h := h.2 c0
      rw [if_neg c0] at k
      have c1 : a1 = 1 := c1
      have h := h.1 c1
      rw [if_pos c1] at k
      refine z_aload_n (pc' := 54) 0 rfl rfl dX11_well_53 rfl ?_
      refine z_getR (t := 30) (pc' := 57) g_X11_19 (by decide) rfl rfl dX11_well_54 rfl ?_
      refine z_iload_n (pc' := 58) 1 rfl rfl dX11_well_57 rfl ?_
      refine z_invV (as := [zI a0]) (st := []) (C := m_X6_isRed) (fs := [33, 34]) (pc' := 61) dX11_well_58 rfl t_3_120 k_X6_isRed rfl (by decide) rfl rfl rfl rfl (Nat.le_of_ble_eq_true rfl) ?_
      have r4 := h
      refine c_Y_isRed r4 ?_
      show z_Wp m_X11_well _ 61 [(0, zR 27), (1, zI a0), (2, zI a1)] [zI (F_Y_isRed w a0)] w _
      refine z_if_eq 68 dX11_well_61 (by decide) (pc' := 64) rfl (z_rb b_Y_isRed) (fun c => ?_) (fun c => ?_)
      · skip
        rw [if_pos c] at k
        refine z_iconst (pc' := 69) dX11_well_68 rfl ?_
        refine z_iret rfl dX11_well_69 ?_
        exact k
      · skip
        rw [if_neg c] at k
        refine z_iconst (pc' := 65) dX11_well_64 rfl ?_
        refine z_goto 69 dX11_well_65 (by decide) ?_
        refine z_iret rfl dX11_well_69 ?_
        exact k
    · skip
      have c0 : ¬ a1 = 0 := c0
      have h := h.2 c0
      rw [if_neg c0] at k
      have c1 : ¬ a1 = 1 := c1
      have h := h.2 c1
      rw [if_neg c1] at k
      have c2 : a1 = 2 := c2
      have h := h.1 c2
      rw [if_pos c2] at k
      refine z_aload_n (pc' := 71) 0 rfl rfl dX11_well_70 rfl ?_
      refine z_getR (t := 41) (pc' := 74) g_X11_44 (by decide) rfl rfl dX11_well_71 rfl ?_
      refine z_iload_n (pc' := 75) 1 rfl rfl dX11_well_74 rfl ?_
      refine z_invV (as := [zI a0]) (st := []) (C := m_X3_room) (fs := [32, 44, 45, 46, 47, 48, 0, 0, 0]) (pc' := 78) dX11_well_75 rfl t_3_124 k_X3_room rfl (by decide) rfl rfl rfl rfl (Nat.le_of_ble_eq_true rfl) ?_
      have r5 := h
      refine c_K_room r5 ?_
      show z_Wp m_X11_well _ 78 [(0, zR 27), (1, zI a0), (2, zI a1)] [zI ((F_K_depth w a0) - (F_Y_dropsOf w (F_K_inside w a0)))] w _
      refine z_iret rfl dX11_well_78 ?_
      exact k
    · skip
      have c0 : ¬ a1 = 0 := c0
      have h := h.2 c0
      rw [if_neg c0] at k
      have c1 : ¬ a1 = 1 := c1
      have h := h.2 c1
      rw [if_neg c1] at k
      have c2 : ¬ a1 = 2 := c2
      have h := h.2 c2
      rw [if_neg c2] at k
      have c3 : a1 = 3 := c3
      have h := h.1 c3
      rw [if_pos c3] at k
      refine z_aload_n (pc' := 80) 0 rfl rfl dX11_well_79 rfl ?_
      refine z_getR (t := 41) (pc' := 83) g_X11_44 (by decide) rfl rfl dX11_well_80 rfl ?_
      refine z_iload_n (pc' := 84) 1 rfl rfl dX11_well_83 rfl ?_
      refine z_invV (as := [zI a0]) (st := []) (C := m_X3_inside) (fs := [32, 44, 45, 46, 47, 48, 0, 0, 0]) (pc' := 87) dX11_well_84 rfl t_3_138 k_X3_inside rfl (by decide) rfl rfl rfl rfl (Nat.le_of_ble_eq_true rfl) ?_
      have r6 := h
      refine c_K_inside r6 ?_
      show z_Wp m_X11_well _ 87 [(0, zR 27), (1, zI a0), (2, zI a1)] [zI (F_K_inside w a0)] w _
      refine z_invS (as := [zI (F_K_inside w a0)]) (st := []) (C := m_J6_bitCount_0f7a4) (pc' := 90) dX11_well_87 rfl t_3_139 k_J6_bitCount_0f7a4 rfl rfl (Nat.le_of_ble_eq_true rfl) ?_
      refine c_J_bitCount_0f7a4 ?_
      show z_Wp m_X11_well _ 90 [(0, zR 27), (1, zI a0), (2, zI a1)] [zI (F_J_bitCount_0f7a4 w (F_K_inside w a0))] w _
      refine z_iret rfl dX11_well_90 ?_
      exact k
    · skip
      have c0 : ¬ a1 = 0 := c0
      have h := h.2 c0
      rw [if_neg c0] at k
      have c1 : ¬ a1 = 1 := c1
      have h := h.2 c1
      rw [if_neg c1] at k
      have c2 : ¬ a1 = 2 := c2
      have h := h.2 c2
      rw [if_neg c2] at k
      have c3 : ¬ a1 = 3 := c3
      have h := h.2 c3
      rw [if_neg c3] at k
      refine z_iconst (pc' := 92) dX11_well_91 rfl ?_
      refine z_iret rfl dX11_well_92 ?_
      exact k
  · have h := h.1 c
    rw [if_pos c] at k
    refine z_iconst (pc' := 12) dX11_well_11 rfl ?_
    refine z_iret rfl dX11_well_12 ?_
    exact k
def P_D_file (w : z_Wd) (a0 : Int) (a1 : Int) : Prop := (P_Y_hasFile w a0) ∧ ((F_Y_hasFile w a0 = 0 → True) ∧ (¬ (F_Y_hasFile w a0 = 0) → (-2147483648 ≤ a1 ∧ a1 < 2147483648) ∧ ((a1 = 0 → P_Y_inFile w a0 a1) ∧ (¬ a1 = 0 → (a1 = 1 → P_Y_inFile w a0 a1) ∧ (¬ a1 = 1 → (a1 = 2 → (P_K_inside w (-1)) ∧ ((P_Y_inFile w a0 0) ∧ (P_Y_inFile w a0 1))) ∧ (¬ a1 = 2 → True))))))
def F_D_file (w : z_Wd) (a0 : Int) (a1 : Int) : Int := if F_Y_hasFile w a0 = 0 then (-1) else if a1 = 0 then F_Y_inFile w a0 a1 else if a1 = 1 then F_Y_inFile w a0 a1 else if a1 = 2 then (zz_and (zz_shr (zz_and ((zz_shl 1 (w 32 2)) - 1) (zz_xor (F_K_inside w (-1)) (-1))) (F_Y_inFile w a0 0)) 1) + (zz_and (zz_shr (zz_and ((zz_shl 1 (w 32 2)) - 1) (zz_xor (F_K_inside w (-1)) (-1))) (F_Y_inFile w a0 1)) 1) else (-1)
set_option maxRecDepth 4000 in
theorem c_D_file {d : Nat} {w : z_Wd} {a0 a1 : Int} {Q : Option z_V → z_Wd → Prop} (h : P_D_file w a0 a1) (k : Q (some (zI (F_D_file w a0 a1))) w) : z_Wc (d + 3) m_X11_file [zR 27, zI a0, zI a1] w Q := by
  unfold P_D_file at h
  unfold F_D_file at k
  refine z_enter rfl (Nat.le_of_ble_eq_true rfl) ?_
  show z_Wp m_X11_file _ 0 [(0, zR 27), (1, zI a0), (2, zI a1)] [] w _
  refine z_aload_n (pc' := 1) 0 rfl rfl dX11_file_0 rfl ?_
  refine z_getR (t := 30) (pc' := 4) g_X11_19 (by decide) rfl rfl dX11_file_1 rfl ?_
  refine z_iload_n (pc' := 5) 1 rfl rfl dX11_file_4 rfl ?_
  refine z_invV (as := [zI a0]) (st := []) (C := m_X6_hasFile) (fs := [33, 34]) (pc' := 8) dX11_file_5 rfl t_3_149 k_X6_hasFile rfl (by decide) rfl rfl rfl rfl (Nat.le_of_ble_eq_true rfl) ?_
  obtain ⟨r1, h⟩ := h
  refine c_Y_hasFile r1 ?_
  show z_Wp m_X11_file _ 8 [(0, zR 27), (1, zI a0), (2, zI a1)] [zI (F_Y_hasFile w a0)] w _
  refine z_if_ne 13 dX11_file_8 (by decide) (pc' := 11) rfl (z_rb b_Y_hasFile) (fun c => ?_) (fun c => ?_)
  · have h := h.2 c
    rw [if_neg c] at k
    refine z_iload_n (pc' := 14) 2 rfl rfl dX11_file_13 rfl ?_
    obtain ⟨r2, h⟩ := h
    refine z_table dX11_file_14 (by decide) r2 ⟨fun c0 => ⟨40, by decide, ?_⟩, fun c0 => ⟨fun c1 => ⟨40, by decide, ?_⟩, fun c1 => ⟨fun c2 => ⟨50, by decide, ?_⟩, fun c2 => ⟨66, by decide, ?_⟩⟩⟩⟩
    · skip
      have c0 : a1 = 0 := c0
      have h := h.1 c0
      rw [if_pos c0] at k
      refine z_aload_n (pc' := 41) 0 rfl rfl dX11_file_40 rfl ?_
      refine z_getR (t := 30) (pc' := 44) g_X11_19 (by decide) rfl rfl dX11_file_41 rfl ?_
      refine z_iload_n (pc' := 45) 1 rfl rfl dX11_file_44 rfl ?_
      refine z_iload_n (pc' := 46) 2 rfl rfl dX11_file_45 rfl ?_
      refine z_invV (as := [zI a0, zI a1]) (st := []) (C := m_X6_inFile) (fs := [33, 34]) (pc' := 49) dX11_file_46 rfl t_3_153 k_X6_inFile rfl (by decide) rfl rfl rfl rfl (Nat.le_of_ble_eq_true rfl) ?_
      have r3 := h
      refine c_Y_inFile r3 ?_
      show z_Wp m_X11_file _ 49 [(0, zR 27), (1, zI a0), (2, zI a1)] [zI (F_Y_inFile w a0 a1)] w _
      refine z_iret rfl dX11_file_49 ?_
      exact k
    · skip
      have c0 : ¬ a1 = 0 := c0
      have h := h.2 c0
      rw [if_neg c0] at k
      have c1 : a1 = 1 := c1
      have h := h.1 c1
      rw [if_pos c1] at k
      refine z_aload_n (pc' := 41) 0 rfl rfl dX11_file_40 rfl ?_
      refine z_getR (t := 30) (pc' := 44) g_X11_19 (by decide) rfl rfl dX11_file_41 rfl ?_
      refine z_iload_n (pc' := 45) 1 rfl rfl dX11_file_44 rfl ?_
      refine z_iload_n (pc' := 46) 2 rfl rfl dX11_file_45 rfl ?_
      refine z_invV (as := [zI a0, zI a1]) (st := []) (C := m_X6_inFile) (fs := [33, 34]) (pc' := 49) dX11_file_46 rfl t_3_153 k_X6_inFile rfl (by decide) rfl rfl rfl rfl (Nat.le_of_ble_eq_true rfl) ?_
      have r4 := h
      refine c_Y_inFile r4 ?_
      show z_Wp m_X11_file _ 49 [(0, zR 27), (1, zI a0), (2, zI a1)] [zI (F_Y_inFile w a0 a1)] w _
      refine z_iret rfl dX11_file_49 ?_
      exact k
    · skip
      have c0 : ¬ a1 = 0 := c0
      have h := h.2 c0
      rw [if_neg c0] at k
      have c1 : ¬ a1 = 1 := c1
      have h := h.2 c1
      rw [if_neg c1] at k
      have c2 : a1 = 2 := c2
      have h := h.1 c2
      rw [if_pos c2] at k
      refine z_aload_n (pc' := 51) 0 rfl rfl dX11_file_50 rfl ?_
      refine z_getR (t := 30) (pc' := 54) g_X11_19 (by decide) rfl rfl dX11_file_51 rfl ?_
      refine z_iload_n (pc' := 55) 1 rfl rfl dX11_file_54 rfl ?_
      refine z_aload_n (pc' := 56) 0 rfl rfl dX11_file_55 rfl ?_
      refine z_getR (t := 41) (pc' := 59) g_X11_44 (by decide) rfl rfl dX11_file_56 rfl ?_
      refine z_invV (as := []) (st := [zI a0, zR 30]) (C := m_X3_drowned) (fs := [32, 44, 45, 46, 47, 48, 0, 0, 0]) (pc' := 62) dX11_file_59 rfl t_3_154 k_X3_drowned rfl (by decide) rfl rfl rfl rfl (Nat.le_of_ble_eq_true rfl) ?_
      obtain ⟨r5, h⟩ := h
      refine c_K_drowned r5 ?_
      show z_Wp m_X11_file _ 62 [(0, zR 27), (1, zI a0), (2, zI a1)] [zI (zz_and ((zz_shl 1 (w 32 2)) - 1) (zz_xor (F_K_inside w (-1)) (-1))), zI a0, zR 30] w _
      refine z_invV (as := [zI a0, zI (zz_and ((zz_shl 1 (w 32 2)) - 1) (zz_xor (F_K_inside w (-1)) (-1)))]) (st := []) (C := m_X6_gaps) (fs := [33, 34]) (pc' := 65) dX11_file_62 rfl t_3_162 k_X6_gaps rfl (by decide) rfl rfl rfl rfl (Nat.le_of_ble_eq_true rfl) ?_
      have r6 := h
      refine c_Y_gaps r6 ?_
      show z_Wp m_X11_file _ 65 [(0, zR 27), (1, zI a0), (2, zI a1)] [zI ((zz_and (zz_shr (zz_and ((zz_shl 1 (w 32 2)) - 1) (zz_xor (F_K_inside w (-1)) (-1))) (F_Y_inFile w a0 0)) 1) + (zz_and (zz_shr (zz_and ((zz_shl 1 (w 32 2)) - 1) (zz_xor (F_K_inside w (-1)) (-1))) (F_Y_inFile w a0 1)) 1))] w _
      refine z_iret rfl dX11_file_65 ?_
      exact k
    · skip
      have c0 : ¬ a1 = 0 := c0
      have h := h.2 c0
      rw [if_neg c0] at k
      have c1 : ¬ a1 = 1 := c1
      have h := h.2 c1
      rw [if_neg c1] at k
      have c2 : ¬ a1 = 2 := c2
      have h := h.2 c2
      rw [if_neg c2] at k
      refine z_iconst (pc' := 67) dX11_file_66 rfl ?_
      refine z_iret rfl dX11_file_67 ?_
      exact k
  · have h := h.1 c
    rw [if_pos c] at k
    refine z_iconst (pc' := 12) dX11_file_11 rfl ?_
    refine z_iret rfl dX11_file_12 ?_
    exact k
def P_D_dip (w : z_Wd) (a0 : Int) (a1 : Int) : Prop := (P_Y_hasName w a0) ∧ ((F_Y_hasName w a0 = 0 → P_D_refuse w 0 (-1)) ∧ (¬ (F_Y_hasName w a0 = 0) → (P_Y_hasWell w a1) ∧ ((F_Y_hasWell w a1 = 0 → P_D_refuse w 0 (-1)) ∧ (¬ (F_Y_hasWell w a1 = 0) → (P_K_isFree w a0) ∧ ((F_K_isFree w a0 = 0 → P_D_refuse w 2 (-1)) ∧ (¬ (F_K_isFree w a0 = 0) → (P_K_takes w a1 a0) ∧ ((F_K_takes w a1 a0 = 0 → P_D_refuse w 3 (-1)) ∧ (¬ (F_K_takes w a1 a0 = 0) → (P_H_keep_41 w) ∧ (P_K_drown (F_H_keep_41 w) a0 a1) ∧ ((P_K_depth (F_K_drown (F_H_keep_41 w) a0 a1) a1) ∧ (P_K_inside (F_K_drown (F_H_keep_41 w) a0 a1) a1) ∧ (P_Y_dropsOf (F_K_drown (F_H_keep_41 w) a0 a1) (F_K_inside (F_K_drown (F_H_keep_41 w) a0 a1) a1)))))))))))
def F_D_dip (w : z_Wd) (a0 : Int) (a1 : Int) : Int × z_Wd := if F_Y_hasName w a0 = 0 then ((F_D_refuse w 0 (-1)).1, (F_D_refuse w 0 (-1)).2) else if F_Y_hasWell w a1 = 0 then ((F_D_refuse w 0 (-1)).1, (F_D_refuse w 0 (-1)).2) else if F_K_isFree w a0 = 0 then ((F_D_refuse w 2 (-1)).1, (F_D_refuse w 2 (-1)).2) else if F_K_takes w a1 a0 = 0 then ((F_D_refuse w 3 (-1)).1, (F_D_refuse w 3 (-1)).2) else ((F_K_depth (F_K_drown (F_H_keep_41 w) a0 a1) a1) - (F_Y_dropsOf (F_K_drown (F_H_keep_41 w) a0 a1) (F_K_inside (F_K_drown (F_H_keep_41 w) a0 a1) a1)), F_K_drown (F_H_keep_41 w) a0 a1)
set_option maxRecDepth 4000 in
theorem c_D_dip {d : Nat} {w : z_Wd} {a0 a1 : Int} {Q : Option z_V → z_Wd → Prop} (h : P_D_dip w a0 a1) (k : Q (some (zI (F_D_dip w a0 a1).1)) (F_D_dip w a0 a1).2) : z_Wc (d + 4) m_X11_dip [zR 27, zI a0, zI a1] w Q := by
  unfold P_D_dip at h
  unfold F_D_dip at k
  refine z_enter rfl (Nat.le_of_ble_eq_true rfl) ?_
  show z_Wp m_X11_dip _ 0 [(0, zR 27), (1, zI a0), (2, zI a1)] [] w _
  refine z_aload_n (pc' := 1) 0 rfl rfl dX11_dip_0 rfl ?_
  refine z_getR (t := 30) (pc' := 4) g_X11_19 (by decide) rfl rfl dX11_dip_1 rfl ?_
  refine z_iload_n (pc' := 5) 1 rfl rfl dX11_dip_4 rfl ?_
  refine z_invV (as := [zI a0]) (st := []) (C := m_X6_hasName) (fs := [33, 34]) (pc' := 8) dX11_dip_5 rfl t_3_178 k_X6_hasName rfl (by decide) rfl rfl rfl rfl (Nat.le_of_ble_eq_true rfl) ?_
  obtain ⟨r1, h⟩ := h
  refine c_Y_hasName r1 ?_
  show z_Wp m_X11_dip _ 8 [(0, zR 27), (1, zI a0), (2, zI a1)] [zI (F_Y_hasName w a0)] w _
  refine z_if_eq 22 dX11_dip_8 (by decide) (pc' := 11) rfl (z_rb b_Y_hasName) (fun c => ?_) (fun c => ?_)
  · have h := h.1 c
    rw [if_pos c] at k
    refine z_aload_n (pc' := 23) 0 rfl rfl dX11_dip_22 rfl ?_
    refine z_iconst (pc' := 24) dX11_dip_23 rfl ?_
    refine z_iconst (pc' := 25) dX11_dip_24 rfl ?_
    refine z_invV (as := [zI 0, zI (-1)]) (st := []) (C := m_X11_refuse) (fs := [30, 32, 35, 39, 43, 49, 55, 57, 72, 74, 78, 80, 0, 0, 1]) (pc' := 28) dX11_dip_25 rfl t_3_179 k_X11_refuse rfl (by decide) rfl rfl rfl rfl (Nat.le_of_ble_eq_true rfl) ?_
    have r2 := h
    refine c_D_refuse r2 ?_
    show z_Wp m_X11_dip _ 28 [(0, zR 27), (1, zI a0), (2, zI a1)] [zI ((F_D_refuse w 0 (-1)).1)] ((F_D_refuse w 0 (-1)).2) _
    refine z_iret rfl dX11_dip_28 ?_
    exact k
  · have h := h.2 c
    rw [if_neg c] at k
    refine z_aload_n (pc' := 12) 0 rfl rfl dX11_dip_11 rfl ?_
    refine z_getR (t := 30) (pc' := 15) g_X11_19 (by decide) rfl rfl dX11_dip_12 rfl ?_
    refine z_iload_n (pc' := 16) 2 rfl rfl dX11_dip_15 rfl ?_
    refine z_invV (as := [zI a1]) (st := []) (C := m_X6_hasWell) (fs := [33, 34]) (pc' := 19) dX11_dip_16 rfl t_3_111 k_X6_hasWell rfl (by decide) rfl rfl rfl rfl (Nat.le_of_ble_eq_true rfl) ?_
    obtain ⟨r3, h⟩ := h
    refine c_Y_hasWell r3 ?_
    show z_Wp m_X11_dip _ 19 [(0, zR 27), (1, zI a0), (2, zI a1)] [zI (F_Y_hasWell w a1)] w _
    refine z_if_ne 29 dX11_dip_19 (by decide) (pc' := 22) rfl (z_rb b_Y_hasWell) (fun c => ?_) (fun c => ?_)
    · have h := h.2 c
      rw [if_neg c] at k
      refine z_aload_n (pc' := 30) 0 rfl rfl dX11_dip_29 rfl ?_
      refine z_getR (t := 41) (pc' := 33) g_X11_44 (by decide) rfl rfl dX11_dip_30 rfl ?_
      refine z_iload_n (pc' := 34) 1 rfl rfl dX11_dip_33 rfl ?_
      refine z_invV (as := [zI a0]) (st := []) (C := m_X3_isFree) (fs := [32, 44, 45, 46, 47, 48, 0, 0, 0]) (pc' := 37) dX11_dip_34 rfl t_3_183 k_X3_isFree rfl (by decide) rfl rfl rfl rfl (Nat.le_of_ble_eq_true rfl) ?_
      obtain ⟨r4, h⟩ := h
      refine c_K_isFree r4 ?_
      show z_Wp m_X11_dip _ 37 [(0, zR 27), (1, zI a0), (2, zI a1)] [zI (F_K_isFree w a0)] w _
      refine z_if_ne 47 dX11_dip_37 (by decide) (pc' := 40) rfl (z_rb b_K_isFree) (fun c => ?_) (fun c => ?_)
      · have h := h.2 c
        rw [if_neg c] at k
        refine z_aload_n (pc' := 48) 0 rfl rfl dX11_dip_47 rfl ?_
        refine z_getR (t := 41) (pc' := 51) g_X11_44 (by decide) rfl rfl dX11_dip_48 rfl ?_
        refine z_iload_n (pc' := 52) 2 rfl rfl dX11_dip_51 rfl ?_
        refine z_iload_n (pc' := 53) 1 rfl rfl dX11_dip_52 rfl ?_
        refine z_invV (as := [zI a1, zI a0]) (st := []) (C := m_X3_takes) (fs := [32, 44, 45, 46, 47, 48, 0, 0, 0]) (pc' := 56) dX11_dip_53 rfl t_3_192 k_X3_takes rfl (by decide) rfl rfl rfl rfl (Nat.le_of_ble_eq_true rfl) ?_
        obtain ⟨r5, h⟩ := h
        refine c_K_takes r5 ?_
        show z_Wp m_X11_dip _ 56 [(0, zR 27), (1, zI a0), (2, zI a1)] [zI (F_K_takes w a1 a0)] w _
        refine z_if_ne 66 dX11_dip_56 (by decide) (pc' := 59) rfl (z_rb b_K_takes) (fun c => ?_) (fun c => ?_)
        · have h := h.2 c
          rw [if_neg c] at k
          refine z_aload_n (pc' := 67) 0 rfl rfl dX11_dip_66 rfl ?_
          refine z_getR (t := 53) (pc' := 70) g_X11_54 (by decide) rfl rfl dX11_dip_67 rfl ?_
          refine z_aload_n (pc' := 71) 0 rfl rfl dX11_dip_70 rfl ?_
          refine z_getR (t := 41) (pc' := 74) g_X11_44 (by decide) rfl rfl dX11_dip_71 rfl ?_
          refine z_invV (as := [zR 41]) (st := []) (C := m_X2_keep) (fs := [56, 0, 0]) (pc' := 77) dX11_dip_74 rfl t_3_210 k_X2_keep rfl (by decide) rfl rfl rfl rfl (Nat.le_of_ble_eq_true rfl) ?_
          obtain ⟨r6, h⟩ := h
          refine c_H_keep_41 r6 ?_
          show z_Wp m_X11_dip _ 77 [(0, zR 27), (1, zI a0), (2, zI a1)] [] (F_H_keep_41 w) _
          refine z_aload_n (pc' := 78) 0 rfl rfl dX11_dip_77 rfl ?_
          refine z_getR (t := 41) (pc' := 81) g_X11_44 (by decide) rfl rfl dX11_dip_78 rfl ?_
          refine z_iload_n (pc' := 82) 1 rfl rfl dX11_dip_81 rfl ?_
          refine z_iload_n (pc' := 83) 2 rfl rfl dX11_dip_82 rfl ?_
          refine z_invV (as := [zI a0, zI a1]) (st := []) (C := m_X3_drown) (fs := [32, 44, 45, 46, 47, 48, 0, 0, 0]) (pc' := 86) dX11_dip_83 rfl t_3_222 k_X3_drown rfl (by decide) rfl rfl rfl rfl (Nat.le_of_ble_eq_true rfl) ?_
          obtain ⟨r7, h⟩ := h
          refine c_K_drown r7 ?_
          show z_Wp m_X11_dip _ 86 [(0, zR 27), (1, zI a0), (2, zI a1)] [] (F_K_drown (F_H_keep_41 w) a0 a1) _
          refine z_aload_n (pc' := 87) 0 rfl rfl dX11_dip_86 rfl ?_
          refine z_getR (t := 41) (pc' := 90) g_X11_44 (by decide) rfl rfl dX11_dip_87 rfl ?_
          refine z_iload_n (pc' := 91) 2 rfl rfl dX11_dip_90 rfl ?_
          refine z_invV (as := [zI a1]) (st := []) (C := m_X3_room) (fs := [32, 44, 45, 46, 47, 48, 0, 0, 0]) (pc' := 94) dX11_dip_91 rfl t_3_124 k_X3_room rfl (by decide) rfl rfl rfl rfl (Nat.le_of_ble_eq_true rfl) ?_
          have r8 := h
          refine c_K_room r8 ?_
          show z_Wp m_X11_dip _ 94 [(0, zR 27), (1, zI a0), (2, zI a1)] [zI ((F_K_depth (F_K_drown (F_H_keep_41 w) a0 a1) a1) - (F_Y_dropsOf (F_K_drown (F_H_keep_41 w) a0 a1) (F_K_inside (F_K_drown (F_H_keep_41 w) a0 a1) a1)))] (F_K_drown (F_H_keep_41 w) a0 a1) _
          refine z_iret rfl dX11_dip_94 ?_
          exact k
        · have h := h.1 c
          rw [if_pos c] at k
          refine z_aload_n (pc' := 60) 0 rfl rfl dX11_dip_59 rfl ?_
          refine z_iconst (pc' := 61) dX11_dip_60 rfl ?_
          refine z_iconst (pc' := 62) dX11_dip_61 rfl ?_
          refine z_invV (as := [zI 3, zI (-1)]) (st := []) (C := m_X11_refuse) (fs := [30, 32, 35, 39, 43, 49, 55, 57, 72, 74, 78, 80, 0, 0, 1]) (pc' := 65) dX11_dip_62 rfl t_3_179 k_X11_refuse rfl (by decide) rfl rfl rfl rfl (Nat.le_of_ble_eq_true rfl) ?_
          have r9 := h
          refine c_D_refuse r9 ?_
          show z_Wp m_X11_dip _ 65 [(0, zR 27), (1, zI a0), (2, zI a1)] [zI ((F_D_refuse w 3 (-1)).1)] ((F_D_refuse w 3 (-1)).2) _
          refine z_iret rfl dX11_dip_65 ?_
          exact k
      · have h := h.1 c
        rw [if_pos c] at k
        refine z_aload_n (pc' := 41) 0 rfl rfl dX11_dip_40 rfl ?_
        refine z_iconst (pc' := 42) dX11_dip_41 rfl ?_
        refine z_iconst (pc' := 43) dX11_dip_42 rfl ?_
        refine z_invV (as := [zI 2, zI (-1)]) (st := []) (C := m_X11_refuse) (fs := [30, 32, 35, 39, 43, 49, 55, 57, 72, 74, 78, 80, 0, 0, 1]) (pc' := 46) dX11_dip_43 rfl t_3_179 k_X11_refuse rfl (by decide) rfl rfl rfl rfl (Nat.le_of_ble_eq_true rfl) ?_
        have r10 := h
        refine c_D_refuse r10 ?_
        show z_Wp m_X11_dip _ 46 [(0, zR 27), (1, zI a0), (2, zI a1)] [zI ((F_D_refuse w 2 (-1)).1)] ((F_D_refuse w 2 (-1)).2) _
        refine z_iret rfl dX11_dip_46 ?_
        exact k
    · have h := h.1 c
      rw [if_pos c] at k
      refine z_aload_n (pc' := 23) 0 rfl rfl dX11_dip_22 rfl ?_
      refine z_iconst (pc' := 24) dX11_dip_23 rfl ?_
      refine z_iconst (pc' := 25) dX11_dip_24 rfl ?_
      refine z_invV (as := [zI 0, zI (-1)]) (st := []) (C := m_X11_refuse) (fs := [30, 32, 35, 39, 43, 49, 55, 57, 72, 74, 78, 80, 0, 0, 1]) (pc' := 28) dX11_dip_25 rfl t_3_179 k_X11_refuse rfl (by decide) rfl rfl rfl rfl (Nat.le_of_ble_eq_true rfl) ?_
      have r11 := h
      refine c_D_refuse r11 ?_
      show z_Wp m_X11_dip _ 28 [(0, zR 27), (1, zI a0), (2, zI a1)] [zI ((F_D_refuse w 0 (-1)).1)] ((F_D_refuse w 0 (-1)).2) _
      refine z_iret rfl dX11_dip_28 ?_
      exact k
def P_D_fill (w : z_Wd) (a0 : Int) : Prop := (P_Y_hasWell w a0) ∧ ((F_Y_hasWell w a0 = 0 → P_D_refuse w 0 (-1)) ∧ (¬ (F_Y_hasWell w a0 = 0) → (P_K_depth w a0) ∧ (-2147483648 ≤ F_K_depth w a0 ∧ F_K_depth w a0 < 2147483648) ∧ ((F_K_depth w a0 < 30 → (-2147483648 ≤ w 41 6 ∧ w 41 6 < 2147483648) ∧ ((w 41 6 ≥ 1 → (P_H_keep_41 w) ∧ (P_K_deepen (F_K_pay (F_H_keep_41 w) 1) a0) ∧ (P_K_depth (F_K_deepen (F_K_pay (F_H_keep_41 w) 1) a0) a0)) ∧ (¬ (w 41 6 ≥ 1) → P_D_refuse w 4 (-1)))) ∧ (¬ (F_K_depth w a0 < 30) → P_D_refuse w 2 (-1)))))
def F_D_fill (w : z_Wd) (a0 : Int) : Int × z_Wd := if F_Y_hasWell w a0 = 0 then ((F_D_refuse w 0 (-1)).1, (F_D_refuse w 0 (-1)).2) else if F_K_depth w a0 < 30 then if w 41 6 ≥ 1 then (F_K_depth (F_K_deepen (F_K_pay (F_H_keep_41 w) 1) a0) a0, F_K_deepen (F_K_pay (F_H_keep_41 w) 1) a0) else ((F_D_refuse w 4 (-1)).1, (F_D_refuse w 4 (-1)).2) else ((F_D_refuse w 2 (-1)).1, (F_D_refuse w 2 (-1)).2)
set_option maxRecDepth 4000 in
theorem c_D_fill {d : Nat} {w : z_Wd} {a0 : Int} {Q : Option z_V → z_Wd → Prop} (h : P_D_fill w a0) (k : Q (some (zI (F_D_fill w a0).1)) (F_D_fill w a0).2) : z_Wc (d + 2) m_X11_fill [zR 27, zI a0] w Q := by
  unfold P_D_fill at h
  unfold F_D_fill at k
  refine z_enter rfl (Nat.le_of_ble_eq_true rfl) ?_
  show z_Wp m_X11_fill _ 0 [(0, zR 27), (1, zI a0)] [] w _
  refine z_aload_n (pc' := 1) 0 rfl rfl dX11_fill_0 rfl ?_
  refine z_getR (t := 30) (pc' := 4) g_X11_19 (by decide) rfl rfl dX11_fill_1 rfl ?_
  refine z_iload_n (pc' := 5) 1 rfl rfl dX11_fill_4 rfl ?_
  refine z_invV (as := [zI a0]) (st := []) (C := m_X6_hasWell) (fs := [33, 34]) (pc' := 8) dX11_fill_5 rfl t_3_111 k_X6_hasWell rfl (by decide) rfl rfl rfl rfl (Nat.le_of_ble_eq_true rfl) ?_
  obtain ⟨r1, h⟩ := h
  refine c_Y_hasWell r1 ?_
  show z_Wp m_X11_fill _ 8 [(0, zR 27), (1, zI a0)] [zI (F_Y_hasWell w a0)] w _
  refine z_if_ne 18 dX11_fill_8 (by decide) (pc' := 11) rfl (z_rb b_Y_hasWell) (fun c => ?_) (fun c => ?_)
  · have h := h.2 c
    rw [if_neg c] at k
    refine z_aload_n (pc' := 19) 0 rfl rfl dX11_fill_18 rfl ?_
    refine z_getR (t := 41) (pc' := 22) g_X11_44 (by decide) rfl rfl dX11_fill_19 rfl ?_
    refine z_iload_n (pc' := 23) 1 rfl rfl dX11_fill_22 rfl ?_
    refine z_invV (as := [zI a0]) (st := []) (C := m_X3_depth) (fs := [32, 44, 45, 46, 47, 48, 0, 0, 0]) (pc' := 26) dX11_fill_23 rfl t_3_115 k_X3_depth rfl (by decide) rfl rfl rfl rfl (Nat.le_of_ble_eq_true rfl) ?_
    obtain ⟨r2, h⟩ := h
    refine c_K_depth r2 ?_
    show z_Wp m_X11_fill _ 26 [(0, zR 27), (1, zI a0)] [zI (F_K_depth w a0)] w _
    refine z_bipush (pc' := 28) (by decide) dX11_fill_26 rfl ?_
    obtain ⟨r3, h⟩ := h
    refine z_icmp_lt 38 dX11_fill_28 (by decide) (pc' := 31) rfl r3 (by decide) (fun c => ?_) (fun c => ?_)
    · have h := h.1 c
      rw [if_pos c] at k
      refine z_aload_n (pc' := 39) 0 rfl rfl dX11_fill_38 rfl ?_
      refine z_getR (t := 41) (pc' := 42) g_X11_44 (by decide) rfl rfl dX11_fill_39 rfl ?_
      refine z_invV (as := []) (st := []) (C := m_X3_coins) (fs := [32, 44, 45, 46, 47, 48, 0, 0, 0]) (pc' := 45) dX11_fill_42 rfl t_3_103 k_X3_coins rfl (by decide) rfl rfl rfl rfl (Nat.le_of_ble_eq_true rfl) ?_
      refine c_K_coins ?_
      show z_Wp m_X11_fill _ 45 [(0, zR 27), (1, zI a0)] [zI (w 41 6)] w _
      refine z_iconst (pc' := 46) dX11_fill_45 rfl ?_
      obtain ⟨r4, h⟩ := h
      refine z_icmp_ge 56 dX11_fill_46 (by decide) (pc' := 49) rfl r4 (by decide) (fun c => ?_) (fun c => ?_)
      · have h := h.1 c
        rw [if_pos c] at k
        refine z_aload_n (pc' := 57) 0 rfl rfl dX11_fill_56 rfl ?_
        refine z_getR (t := 53) (pc' := 60) g_X11_54 (by decide) rfl rfl dX11_fill_57 rfl ?_
        refine z_aload_n (pc' := 61) 0 rfl rfl dX11_fill_60 rfl ?_
        refine z_getR (t := 41) (pc' := 64) g_X11_44 (by decide) rfl rfl dX11_fill_61 rfl ?_
        refine z_invV (as := [zR 41]) (st := []) (C := m_X2_keep) (fs := [56, 0, 0]) (pc' := 67) dX11_fill_64 rfl t_3_210 k_X2_keep rfl (by decide) rfl rfl rfl rfl (Nat.le_of_ble_eq_true rfl) ?_
        obtain ⟨r5, h⟩ := h
        refine c_H_keep_41 r5 ?_
        show z_Wp m_X11_fill _ 67 [(0, zR 27), (1, zI a0)] [] (F_H_keep_41 w) _
        refine z_aload_n (pc' := 68) 0 rfl rfl dX11_fill_67 rfl ?_
        refine z_getR (t := 41) (pc' := 71) g_X11_44 (by decide) rfl rfl dX11_fill_68 rfl ?_
        refine z_iconst (pc' := 72) dX11_fill_71 rfl ?_
        refine z_invV (as := [zI 1]) (st := []) (C := m_X3_pay) (fs := [32, 44, 45, 46, 47, 48, 0, 0, 0]) (pc' := 75) dX11_fill_72 rfl t_4_17 k_X3_pay rfl (by decide) rfl rfl rfl rfl (Nat.le_of_ble_eq_true rfl) ?_
        refine c_K_pay ?_
        show z_Wp m_X11_fill _ 75 [(0, zR 27), (1, zI a0)] [] (F_K_pay (F_H_keep_41 w) 1) _
        refine z_aload_n (pc' := 76) 0 rfl rfl dX11_fill_75 rfl ?_
        refine z_getR (t := 41) (pc' := 79) g_X11_44 (by decide) rfl rfl dX11_fill_76 rfl ?_
        refine z_iload_n (pc' := 80) 1 rfl rfl dX11_fill_79 rfl ?_
        refine z_invV (as := [zI a0]) (st := []) (C := m_X3_deepen) (fs := [32, 44, 45, 46, 47, 48, 0, 0, 0]) (pc' := 83) dX11_fill_80 rfl t_4_41 k_X3_deepen rfl (by decide) rfl rfl rfl rfl (Nat.le_of_ble_eq_true rfl) ?_
        obtain ⟨r6, h⟩ := h
        refine c_K_deepen r6 ?_
        show z_Wp m_X11_fill _ 83 [(0, zR 27), (1, zI a0)] [] (F_K_deepen (F_K_pay (F_H_keep_41 w) 1) a0) _
        refine z_aload_n (pc' := 84) 0 rfl rfl dX11_fill_83 rfl ?_
        refine z_getR (t := 41) (pc' := 87) g_X11_44 (by decide) rfl rfl dX11_fill_84 rfl ?_
        refine z_iload_n (pc' := 88) 1 rfl rfl dX11_fill_87 rfl ?_
        refine z_invV (as := [zI a0]) (st := []) (C := m_X3_depth) (fs := [32, 44, 45, 46, 47, 48, 0, 0, 0]) (pc' := 91) dX11_fill_88 rfl t_3_115 k_X3_depth rfl (by decide) rfl rfl rfl rfl (Nat.le_of_ble_eq_true rfl) ?_
        have r7 := h
        refine c_K_depth r7 ?_
        show z_Wp m_X11_fill _ 91 [(0, zR 27), (1, zI a0)] [zI (F_K_depth (F_K_deepen (F_K_pay (F_H_keep_41 w) 1) a0) a0)] (F_K_deepen (F_K_pay (F_H_keep_41 w) 1) a0) _
        refine z_iret rfl dX11_fill_91 ?_
        exact k
      · have h := h.2 c
        rw [if_neg c] at k
        refine z_aload_n (pc' := 50) 0 rfl rfl dX11_fill_49 rfl ?_
        refine z_iconst (pc' := 51) dX11_fill_50 rfl ?_
        refine z_iconst (pc' := 52) dX11_fill_51 rfl ?_
        refine z_invV (as := [zI 4, zI (-1)]) (st := []) (C := m_X11_refuse) (fs := [30, 32, 35, 39, 43, 49, 55, 57, 72, 74, 78, 80, 0, 0, 1]) (pc' := 55) dX11_fill_52 rfl t_3_179 k_X11_refuse rfl (by decide) rfl rfl rfl rfl (Nat.le_of_ble_eq_true rfl) ?_
        have r8 := h
        refine c_D_refuse r8 ?_
        show z_Wp m_X11_fill _ 55 [(0, zR 27), (1, zI a0)] [zI ((F_D_refuse w 4 (-1)).1)] ((F_D_refuse w 4 (-1)).2) _
        refine z_iret rfl dX11_fill_55 ?_
        exact k
    · have h := h.2 c
      rw [if_neg c] at k
      refine z_aload_n (pc' := 32) 0 rfl rfl dX11_fill_31 rfl ?_
      refine z_iconst (pc' := 33) dX11_fill_32 rfl ?_
      refine z_iconst (pc' := 34) dX11_fill_33 rfl ?_
      refine z_invV (as := [zI 2, zI (-1)]) (st := []) (C := m_X11_refuse) (fs := [30, 32, 35, 39, 43, 49, 55, 57, 72, 74, 78, 80, 0, 0, 1]) (pc' := 37) dX11_fill_34 rfl t_3_179 k_X11_refuse rfl (by decide) rfl rfl rfl rfl (Nat.le_of_ble_eq_true rfl) ?_
      have r9 := h
      refine c_D_refuse r9 ?_
      show z_Wp m_X11_fill _ 37 [(0, zR 27), (1, zI a0)] [zI ((F_D_refuse w 2 (-1)).1)] ((F_D_refuse w 2 (-1)).2) _
      refine z_iret rfl dX11_fill_37 ?_
      exact k
  · have h := h.1 c
    rw [if_pos c] at k
    refine z_aload_n (pc' := 12) 0 rfl rfl dX11_fill_11 rfl ?_
    refine z_iconst (pc' := 13) dX11_fill_12 rfl ?_
    refine z_iconst (pc' := 14) dX11_fill_13 rfl ?_
    refine z_invV (as := [zI 0, zI (-1)]) (st := []) (C := m_X11_refuse) (fs := [30, 32, 35, 39, 43, 49, 55, 57, 72, 74, 78, 80, 0, 0, 1]) (pc' := 17) dX11_fill_14 rfl t_3_179 k_X11_refuse rfl (by decide) rfl rfl rfl rfl (Nat.le_of_ble_eq_true rfl) ?_
    have r10 := h
    refine c_D_refuse r10 ?_
    show z_Wp m_X11_fill _ 17 [(0, zR 27), (1, zI a0)] [zI ((F_D_refuse w 0 (-1)).1)] ((F_D_refuse w 0 (-1)).2) _
    refine z_iret rfl dX11_fill_17 ?_
    exact k
def P_D_give (w : z_Wd) (a0 : Int) : Prop := (P_Y_stands w) ∧ ((F_Y_stands w = 0 → P_D_refuse w 0 (-1)) ∧ (¬ (F_Y_stands w = 0) → (-2147483648 ≤ a0 ∧ a0 < 2147483648) ∧ ((a0 < 1 → P_D_refuse w 1 (-1)) ∧ (¬ (a0 < 1) → (a0 > 50 → P_D_refuse w 1 (-1)) ∧ (¬ (a0 > 50) → (-2147483648 ≤ (w 41 6) + a0 ∧ (w 41 6) + a0 < 2147483648) ∧ (((w 41 6) + a0 ≤ 999 → (P_H_keep_41 w) ∧ (P_K_earn (F_H_keep_41 w) a0)) ∧ (¬ ((w 41 6) + a0 ≤ 999) → P_D_refuse w 1 (-1))))))))
def F_D_give (w : z_Wd) (a0 : Int) : Int × z_Wd := if F_Y_stands w = 0 then ((F_D_refuse w 0 (-1)).1, (F_D_refuse w 0 (-1)).2) else if a0 < 1 then ((F_D_refuse w 1 (-1)).1, (F_D_refuse w 1 (-1)).2) else if a0 > 50 then ((F_D_refuse w 1 (-1)).1, (F_D_refuse w 1 (-1)).2) else if (w 41 6) + a0 ≤ 999 then ((F_K_earn (F_H_keep_41 w) a0) 41 6, F_K_earn (F_H_keep_41 w) a0) else ((F_D_refuse w 1 (-1)).1, (F_D_refuse w 1 (-1)).2)
set_option maxRecDepth 4000 in
theorem c_D_give {d : Nat} {w : z_Wd} {a0 : Int} {Q : Option z_V → z_Wd → Prop} (h : P_D_give w a0) (k : Q (some (zI (F_D_give w a0).1)) (F_D_give w a0).2) : z_Wc (d + 2) m_X11_give [zR 27, zI a0] w Q := by
  unfold P_D_give at h
  unfold F_D_give at k
  refine z_enter rfl (Nat.le_of_ble_eq_true rfl) ?_
  show z_Wp m_X11_give _ 0 [(0, zR 27), (1, zI a0)] [] w _
  refine z_aload_n (pc' := 1) 0 rfl rfl dX11_give_0 rfl ?_
  refine z_getR (t := 30) (pc' := 4) g_X11_19 (by decide) rfl rfl dX11_give_1 rfl ?_
  refine z_invV (as := []) (st := []) (C := m_X6_stands) (fs := [33, 34]) (pc' := 7) dX11_give_4 rfl t_3_95 k_X6_stands rfl (by decide) rfl rfl rfl rfl (Nat.le_of_ble_eq_true rfl) ?_
  obtain ⟨r1, h⟩ := h
  refine c_Y_stands r1 ?_
  show z_Wp m_X11_give _ 7 [(0, zR 27), (1, zI a0)] [zI (F_Y_stands w)] w _
  refine z_if_ne 17 dX11_give_7 (by decide) (pc' := 10) rfl (z_rb b_Y_stands) (fun c => ?_) (fun c => ?_)
  · have h := h.2 c
    rw [if_neg c] at k
    refine z_iload_n (pc' := 18) 1 rfl rfl dX11_give_17 rfl ?_
    refine z_iconst (pc' := 19) dX11_give_18 rfl ?_
    obtain ⟨r2, h⟩ := h
    refine z_icmp_lt 43 dX11_give_19 (by decide) (pc' := 22) rfl r2 (by decide) (fun c => ?_) (fun c => ?_)
    · have h := h.1 c
      rw [if_pos c] at k
      refine z_aload_n (pc' := 44) 0 rfl rfl dX11_give_43 rfl ?_
      refine z_iconst (pc' := 45) dX11_give_44 rfl ?_
      refine z_iconst (pc' := 46) dX11_give_45 rfl ?_
      refine z_invV (as := [zI 1, zI (-1)]) (st := []) (C := m_X11_refuse) (fs := [30, 32, 35, 39, 43, 49, 55, 57, 72, 74, 78, 80, 0, 0, 1]) (pc' := 49) dX11_give_46 rfl t_3_179 k_X11_refuse rfl (by decide) rfl rfl rfl rfl (Nat.le_of_ble_eq_true rfl) ?_
      have r3 := h
      refine c_D_refuse r3 ?_
      show z_Wp m_X11_give _ 49 [(0, zR 27), (1, zI a0)] [zI ((F_D_refuse w 1 (-1)).1)] ((F_D_refuse w 1 (-1)).2) _
      refine z_iret rfl dX11_give_49 ?_
      exact k
    · have h := h.2 c
      rw [if_neg c] at k
      refine z_iload_n (pc' := 23) 1 rfl rfl dX11_give_22 rfl ?_
      refine z_bipush (pc' := 25) (by decide) dX11_give_23 rfl ?_
      refine z_icmp_gt 43 dX11_give_25 (by decide) (pc' := 28) rfl r2 (by decide) (fun c => ?_) (fun c => ?_)
      · have h := h.1 c
        rw [if_pos c] at k
        refine z_aload_n (pc' := 44) 0 rfl rfl dX11_give_43 rfl ?_
        refine z_iconst (pc' := 45) dX11_give_44 rfl ?_
        refine z_iconst (pc' := 46) dX11_give_45 rfl ?_
        refine z_invV (as := [zI 1, zI (-1)]) (st := []) (C := m_X11_refuse) (fs := [30, 32, 35, 39, 43, 49, 55, 57, 72, 74, 78, 80, 0, 0, 1]) (pc' := 49) dX11_give_46 rfl t_3_179 k_X11_refuse rfl (by decide) rfl rfl rfl rfl (Nat.le_of_ble_eq_true rfl) ?_
        have r4 := h
        refine c_D_refuse r4 ?_
        show z_Wp m_X11_give _ 49 [(0, zR 27), (1, zI a0)] [zI ((F_D_refuse w 1 (-1)).1)] ((F_D_refuse w 1 (-1)).2) _
        refine z_iret rfl dX11_give_49 ?_
        exact k
      · have h := h.2 c
        rw [if_neg c] at k
        refine z_aload_n (pc' := 29) 0 rfl rfl dX11_give_28 rfl ?_
        refine z_getR (t := 41) (pc' := 32) g_X11_44 (by decide) rfl rfl dX11_give_29 rfl ?_
        refine z_invV (as := []) (st := []) (C := m_X3_coins) (fs := [32, 44, 45, 46, 47, 48, 0, 0, 0]) (pc' := 35) dX11_give_32 rfl t_3_103 k_X3_coins rfl (by decide) rfl rfl rfl rfl (Nat.le_of_ble_eq_true rfl) ?_
        refine c_K_coins ?_
        show z_Wp m_X11_give _ 35 [(0, zR 27), (1, zI a0)] [zI (w 41 6)] w _
        refine z_iload_n (pc' := 36) 1 rfl rfl dX11_give_35 rfl ?_
        refine z_iadd (pc' := 37) dX11_give_36 rfl ?_
        refine z_sipush (pc' := 40) (by decide) dX11_give_37 rfl ?_
        obtain ⟨r5, h⟩ := h
        refine z_icmp_le 50 dX11_give_40 (by decide) (pc' := 43) rfl r5 (by decide) (fun c => ?_) (fun c => ?_)
        · have h := h.1 c
          rw [if_pos c] at k
          refine z_aload_n (pc' := 51) 0 rfl rfl dX11_give_50 rfl ?_
          refine z_getR (t := 53) (pc' := 54) g_X11_54 (by decide) rfl rfl dX11_give_51 rfl ?_
          refine z_aload_n (pc' := 55) 0 rfl rfl dX11_give_54 rfl ?_
          refine z_getR (t := 41) (pc' := 58) g_X11_44 (by decide) rfl rfl dX11_give_55 rfl ?_
          refine z_invV (as := [zR 41]) (st := []) (C := m_X2_keep) (fs := [56, 0, 0]) (pc' := 61) dX11_give_58 rfl t_3_210 k_X2_keep rfl (by decide) rfl rfl rfl rfl (Nat.le_of_ble_eq_true rfl) ?_
          obtain ⟨r6, h⟩ := h
          refine c_H_keep_41 r6 ?_
          show z_Wp m_X11_give _ 61 [(0, zR 27), (1, zI a0)] [] (F_H_keep_41 w) _
          refine z_aload_n (pc' := 62) 0 rfl rfl dX11_give_61 rfl ?_
          refine z_getR (t := 41) (pc' := 65) g_X11_44 (by decide) rfl rfl dX11_give_62 rfl ?_
          refine z_iload_n (pc' := 66) 1 rfl rfl dX11_give_65 rfl ?_
          refine z_invV (as := [zI a0]) (st := []) (C := m_X3_earn) (fs := [32, 44, 45, 46, 47, 48, 0, 0, 0]) (pc' := 69) dX11_give_66 rfl t_4_49 k_X3_earn rfl (by decide) rfl rfl rfl rfl (Nat.le_of_ble_eq_true rfl) ?_
          have r7 := h
          refine c_K_earn r7 ?_
          show z_Wp m_X11_give _ 69 [(0, zR 27), (1, zI a0)] [] (F_K_earn (F_H_keep_41 w) a0) _
          refine z_aload_n (pc' := 70) 0 rfl rfl dX11_give_69 rfl ?_
          refine z_getR (t := 41) (pc' := 73) g_X11_44 (by decide) rfl rfl dX11_give_70 rfl ?_
          refine z_invV (as := []) (st := []) (C := m_X3_coins) (fs := [32, 44, 45, 46, 47, 48, 0, 0, 0]) (pc' := 76) dX11_give_73 rfl t_3_103 k_X3_coins rfl (by decide) rfl rfl rfl rfl (Nat.le_of_ble_eq_true rfl) ?_
          refine c_K_coins ?_
          show z_Wp m_X11_give _ 76 [(0, zR 27), (1, zI a0)] [zI ((F_K_earn (F_H_keep_41 w) a0) 41 6)] (F_K_earn (F_H_keep_41 w) a0) _
          refine z_iret rfl dX11_give_76 ?_
          exact k
        · have h := h.2 c
          rw [if_neg c] at k
          refine z_aload_n (pc' := 44) 0 rfl rfl dX11_give_43 rfl ?_
          refine z_iconst (pc' := 45) dX11_give_44 rfl ?_
          refine z_iconst (pc' := 46) dX11_give_45 rfl ?_
          refine z_invV (as := [zI 1, zI (-1)]) (st := []) (C := m_X11_refuse) (fs := [30, 32, 35, 39, 43, 49, 55, 57, 72, 74, 78, 80, 0, 0, 1]) (pc' := 49) dX11_give_46 rfl t_3_179 k_X11_refuse rfl (by decide) rfl rfl rfl rfl (Nat.le_of_ble_eq_true rfl) ?_
          have r8 := h
          refine c_D_refuse r8 ?_
          show z_Wp m_X11_give _ 49 [(0, zR 27), (1, zI a0)] [zI ((F_D_refuse w 1 (-1)).1)] ((F_D_refuse w 1 (-1)).2) _
          refine z_iret rfl dX11_give_49 ?_
          exact k
  · have h := h.1 c
    rw [if_pos c] at k
    refine z_aload_n (pc' := 11) 0 rfl rfl dX11_give_10 rfl ?_
    refine z_iconst (pc' := 12) dX11_give_11 rfl ?_
    refine z_iconst (pc' := 13) dX11_give_12 rfl ?_
    refine z_invV (as := [zI 0, zI (-1)]) (st := []) (C := m_X11_refuse) (fs := [30, 32, 35, 39, 43, 49, 55, 57, 72, 74, 78, 80, 0, 0, 1]) (pc' := 16) dX11_give_13 rfl t_3_179 k_X11_refuse rfl (by decide) rfl rfl rfl rfl (Nat.le_of_ble_eq_true rfl) ?_
    have r9 := h
    refine c_D_refuse r9 ?_
    show z_Wp m_X11_give _ 16 [(0, zR 27), (1, zI a0)] [zI ((F_D_refuse w 0 (-1)).1)] ((F_D_refuse w 0 (-1)).2) _
    refine z_iret rfl dX11_give_16 ?_
    exact k
def P_D_dipByDraws (w : z_Wd)  : Prop := (P_D_draw w (w 32 2)) ∧ (P_D_draw ((F_D_draw w (w 32 2)).2) (((F_D_draw w (w 32 2)).2) 32 1)) ∧ (P_K_isFree ((F_D_draw ((F_D_draw w (w 32 2)).2) (((F_D_draw w (w 32 2)).2) 32 1)).2) ((F_D_draw w (w 32 2)).1)) ∧ ((F_K_isFree ((F_D_draw ((F_D_draw w (w 32 2)).2) (((F_D_draw w (w 32 2)).2) 32 1)).2) ((F_D_draw w (w 32 2)).1) = 0 → True) ∧ (¬ (F_K_isFree ((F_D_draw ((F_D_draw w (w 32 2)).2) (((F_D_draw w (w 32 2)).2) 32 1)).2) ((F_D_draw w (w 32 2)).1) = 0) → (P_K_takes ((F_D_draw ((F_D_draw w (w 32 2)).2) (((F_D_draw w (w 32 2)).2) 32 1)).2) ((F_D_draw ((F_D_draw w (w 32 2)).2) (((F_D_draw w (w 32 2)).2) 32 1)).1) ((F_D_draw w (w 32 2)).1)) ∧ ((F_K_takes ((F_D_draw ((F_D_draw w (w 32 2)).2) (((F_D_draw w (w 32 2)).2) 32 1)).2) ((F_D_draw ((F_D_draw w (w 32 2)).2) (((F_D_draw w (w 32 2)).2) 32 1)).1) ((F_D_draw w (w 32 2)).1) = 0 → True) ∧ (¬ (F_K_takes ((F_D_draw ((F_D_draw w (w 32 2)).2) (((F_D_draw w (w 32 2)).2) 32 1)).2) ((F_D_draw ((F_D_draw w (w 32 2)).2) (((F_D_draw w (w 32 2)).2) 32 1)).1) ((F_D_draw w (w 32 2)).1) = 0) → P_K_drown ((F_D_draw ((F_D_draw w (w 32 2)).2) (((F_D_draw w (w 32 2)).2) 32 1)).2) ((F_D_draw w (w 32 2)).1) ((F_D_draw ((F_D_draw w (w 32 2)).2) (((F_D_draw w (w 32 2)).2) 32 1)).1)))))
def F_D_dipByDraws (w : z_Wd)  : z_Wd := if F_K_isFree ((F_D_draw ((F_D_draw w (w 32 2)).2) (((F_D_draw w (w 32 2)).2) 32 1)).2) ((F_D_draw w (w 32 2)).1) = 0 then (F_D_draw ((F_D_draw w (w 32 2)).2) (((F_D_draw w (w 32 2)).2) 32 1)).2 else if F_K_takes ((F_D_draw ((F_D_draw w (w 32 2)).2) (((F_D_draw w (w 32 2)).2) 32 1)).2) ((F_D_draw ((F_D_draw w (w 32 2)).2) (((F_D_draw w (w 32 2)).2) 32 1)).1) ((F_D_draw w (w 32 2)).1) = 0 then (F_D_draw ((F_D_draw w (w 32 2)).2) (((F_D_draw w (w 32 2)).2) 32 1)).2 else F_K_drown ((F_D_draw ((F_D_draw w (w 32 2)).2) (((F_D_draw w (w 32 2)).2) 32 1)).2) ((F_D_draw w (w 32 2)).1) ((F_D_draw ((F_D_draw w (w 32 2)).2) (((F_D_draw w (w 32 2)).2) 32 1)).1)
set_option maxRecDepth 4000 in
theorem c_D_dipByDraws {d : Nat} {w : z_Wd} {Q : Option z_V → z_Wd → Prop} (h : P_D_dipByDraws w ) (k : Q none (F_D_dipByDraws w )) : z_Wc (d + 4) m_X11_dipByDraws [zR 27] w Q := by
  unfold P_D_dipByDraws at h
  unfold F_D_dipByDraws at k
  refine z_enter rfl (Nat.le_of_ble_eq_true rfl) ?_
  show z_Wp m_X11_dipByDraws _ 0 [(0, zR 27)] [] w _
  refine z_aload_n (pc' := 1) 0 rfl rfl dX11_dipByDraws_0 rfl ?_
  refine z_aload_n (pc' := 2) 0 rfl rfl dX11_dipByDraws_1 rfl ?_
  refine z_getR (t := 30) (pc' := 5) g_X11_19 (by decide) rfl rfl dX11_dipByDraws_2 rfl ?_
  refine z_invV (as := []) (st := [zR 27]) (C := m_X6_names) (fs := [33, 34]) (pc' := 8) dX11_dipByDraws_5 rfl t_3_69 k_X6_names rfl (by decide) rfl rfl rfl rfl (Nat.le_of_ble_eq_true rfl) ?_
  refine c_Y_names ?_
  show z_Wp m_X11_dipByDraws _ 8 [(0, zR 27)] [zI (w 32 2), zR 27] w _
  refine z_invV (as := [zI (w 32 2)]) (st := []) (C := m_X11_draw) (fs := [30, 32, 35, 39, 43, 49, 55, 57, 72, 74, 78, 80, 0, 0, 1]) (pc' := 11) dX11_dipByDraws_8 rfl t_4_143 k_X11_draw rfl (by decide) rfl rfl rfl rfl (Nat.le_of_ble_eq_true rfl) ?_
  obtain ⟨r1, h⟩ := h
  refine c_D_draw r1 ?_
  show z_Wp m_X11_dipByDraws _ 11 [(0, zR 27)] [zI ((F_D_draw w (w 32 2)).1)] ((F_D_draw w (w 32 2)).2) _
  refine z_istore_n (pc' := 12) (ls' := [(0, zR 27), (1, zI ((F_D_draw w (w 32 2)).1))]) rfl (by decide) rfl rfl dX11_dipByDraws_11 rfl ?_
  refine z_aload_n (pc' := 13) 0 rfl rfl dX11_dipByDraws_12 rfl ?_
  refine z_aload_n (pc' := 14) 0 rfl rfl dX11_dipByDraws_13 rfl ?_
  refine z_getR (t := 30) (pc' := 17) g_X11_19 (by decide) rfl rfl dX11_dipByDraws_14 rfl ?_
  refine z_invV (as := []) (st := [zR 27]) (C := m_X6_wells) (fs := [33, 34]) (pc' := 20) dX11_dipByDraws_17 rfl t_4_149 k_X6_wells rfl (by decide) rfl rfl rfl rfl (Nat.le_of_ble_eq_true rfl) ?_
  refine c_Y_wells ?_
  show z_Wp m_X11_dipByDraws _ 20 [(0, zR 27), (1, zI ((F_D_draw w (w 32 2)).1))] [zI (((F_D_draw w (w 32 2)).2) 32 1), zR 27] ((F_D_draw w (w 32 2)).2) _
  refine z_invV (as := [zI (((F_D_draw w (w 32 2)).2) 32 1)]) (st := []) (C := m_X11_draw) (fs := [30, 32, 35, 39, 43, 49, 55, 57, 72, 74, 78, 80, 0, 0, 1]) (pc' := 23) dX11_dipByDraws_20 rfl t_4_143 k_X11_draw rfl (by decide) rfl rfl rfl rfl (Nat.le_of_ble_eq_true rfl) ?_
  obtain ⟨r2, h⟩ := h
  refine c_D_draw r2 ?_
  show z_Wp m_X11_dipByDraws _ 23 [(0, zR 27), (1, zI ((F_D_draw w (w 32 2)).1))] [zI ((F_D_draw ((F_D_draw w (w 32 2)).2) (((F_D_draw w (w 32 2)).2) 32 1)).1)] ((F_D_draw ((F_D_draw w (w 32 2)).2) (((F_D_draw w (w 32 2)).2) 32 1)).2) _
  refine z_istore_n (pc' := 24) (ls' := [(0, zR 27), (1, zI ((F_D_draw w (w 32 2)).1)), (2, zI ((F_D_draw ((F_D_draw w (w 32 2)).2) (((F_D_draw w (w 32 2)).2) 32 1)).1))]) rfl (by decide) rfl rfl dX11_dipByDraws_23 rfl ?_
  refine z_aload_n (pc' := 25) 0 rfl rfl dX11_dipByDraws_24 rfl ?_
  refine z_getR (t := 41) (pc' := 28) g_X11_44 (by decide) rfl rfl dX11_dipByDraws_25 rfl ?_
  refine z_iload_n (pc' := 29) 1 rfl rfl dX11_dipByDraws_28 rfl ?_
  refine z_invV (as := [zI ((F_D_draw w (w 32 2)).1)]) (st := []) (C := m_X3_isFree) (fs := [32, 44, 45, 46, 47, 48, 0, 0, 0]) (pc' := 32) dX11_dipByDraws_29 rfl t_3_183 k_X3_isFree rfl (by decide) rfl rfl rfl rfl (Nat.le_of_ble_eq_true rfl) ?_
  obtain ⟨r3, h⟩ := h
  refine c_K_isFree r3 ?_
  show z_Wp m_X11_dipByDraws _ 32 [(0, zR 27), (1, zI ((F_D_draw w (w 32 2)).1)), (2, zI ((F_D_draw ((F_D_draw w (w 32 2)).2) (((F_D_draw w (w 32 2)).2) 32 1)).1))] [zI (F_K_isFree ((F_D_draw ((F_D_draw w (w 32 2)).2) (((F_D_draw w (w 32 2)).2) 32 1)).2) ((F_D_draw w (w 32 2)).1))] ((F_D_draw ((F_D_draw w (w 32 2)).2) (((F_D_draw w (w 32 2)).2) 32 1)).2) _
  refine z_if_eq 56 dX11_dipByDraws_32 (by decide) (pc' := 35) rfl (z_rb b_K_isFree) (fun c => ?_) (fun c => ?_)
  · have h := h.1 c
    rw [if_pos c] at k
    refine z_vret rfl dX11_dipByDraws_56 ?_
    exact k
  · have h := h.2 c
    rw [if_neg c] at k
    refine z_aload_n (pc' := 36) 0 rfl rfl dX11_dipByDraws_35 rfl ?_
    refine z_getR (t := 41) (pc' := 39) g_X11_44 (by decide) rfl rfl dX11_dipByDraws_36 rfl ?_
    refine z_iload_n (pc' := 40) 2 rfl rfl dX11_dipByDraws_39 rfl ?_
    refine z_iload_n (pc' := 41) 1 rfl rfl dX11_dipByDraws_40 rfl ?_
    refine z_invV (as := [zI ((F_D_draw ((F_D_draw w (w 32 2)).2) (((F_D_draw w (w 32 2)).2) 32 1)).1), zI ((F_D_draw w (w 32 2)).1)]) (st := []) (C := m_X3_takes) (fs := [32, 44, 45, 46, 47, 48, 0, 0, 0]) (pc' := 44) dX11_dipByDraws_41 rfl t_3_192 k_X3_takes rfl (by decide) rfl rfl rfl rfl (Nat.le_of_ble_eq_true rfl) ?_
    obtain ⟨r4, h⟩ := h
    refine c_K_takes r4 ?_
    show z_Wp m_X11_dipByDraws _ 44 [(0, zR 27), (1, zI ((F_D_draw w (w 32 2)).1)), (2, zI ((F_D_draw ((F_D_draw w (w 32 2)).2) (((F_D_draw w (w 32 2)).2) 32 1)).1))] [zI (F_K_takes ((F_D_draw ((F_D_draw w (w 32 2)).2) (((F_D_draw w (w 32 2)).2) 32 1)).2) ((F_D_draw ((F_D_draw w (w 32 2)).2) (((F_D_draw w (w 32 2)).2) 32 1)).1) ((F_D_draw w (w 32 2)).1))] ((F_D_draw ((F_D_draw w (w 32 2)).2) (((F_D_draw w (w 32 2)).2) 32 1)).2) _
    refine z_if_eq 56 dX11_dipByDraws_44 (by decide) (pc' := 47) rfl (z_rb b_K_takes) (fun c => ?_) (fun c => ?_)
    · have h := h.1 c
      rw [if_pos c] at k
      refine z_vret rfl dX11_dipByDraws_56 ?_
      exact k
    · have h := h.2 c
      rw [if_neg c] at k
      refine z_aload_n (pc' := 48) 0 rfl rfl dX11_dipByDraws_47 rfl ?_
      refine z_getR (t := 41) (pc' := 51) g_X11_44 (by decide) rfl rfl dX11_dipByDraws_48 rfl ?_
      refine z_iload_n (pc' := 52) 1 rfl rfl dX11_dipByDraws_51 rfl ?_
      refine z_iload_n (pc' := 53) 2 rfl rfl dX11_dipByDraws_52 rfl ?_
      refine z_invV (as := [zI ((F_D_draw w (w 32 2)).1), zI ((F_D_draw ((F_D_draw w (w 32 2)).2) (((F_D_draw w (w 32 2)).2) 32 1)).1)]) (st := []) (C := m_X3_drown) (fs := [32, 44, 45, 46, 47, 48, 0, 0, 0]) (pc' := 56) dX11_dipByDraws_53 rfl t_3_222 k_X3_drown rfl (by decide) rfl rfl rfl rfl (Nat.le_of_ble_eq_true rfl) ?_
      have r5 := h
      refine c_K_drown r5 ?_
      show z_Wp m_X11_dipByDraws _ 56 [(0, zR 27), (1, zI ((F_D_draw w (w 32 2)).1)), (2, zI ((F_D_draw ((F_D_draw w (w 32 2)).2) (((F_D_draw w (w 32 2)).2) 32 1)).1))] [] (F_K_drown ((F_D_draw ((F_D_draw w (w 32 2)).2) (((F_D_draw w (w 32 2)).2) 32 1)).2) ((F_D_draw w (w 32 2)).1) ((F_D_draw ((F_D_draw w (w 32 2)).2) (((F_D_draw w (w 32 2)).2) 32 1)).1)) _
      refine z_vret rfl dX11_dipByDraws_56 ?_
      exact k
def P_D_undo (w : z_Wd)  : Prop := (P_H_takeBack_41 w) ∧ (-2147483648 ≤ (F_H_takeBack_41 w).1 ∧ (F_H_takeBack_41 w).1 < 2147483648)
def F_D_undo (w : z_Wd)  : Int × z_Wd := if (F_H_takeBack_41 w).1 = 0 then ((-1), (F_H_takeBack_41 w).2) else (((F_H_takeBack_41 w).2) 53 2, (F_H_takeBack_41 w).2)
set_option maxRecDepth 4000 in
theorem c_D_undo {d : Nat} {w : z_Wd} {Q : Option z_V → z_Wd → Prop} (h : P_D_undo w ) (k : Q (some (zI (F_D_undo w ).1)) (F_D_undo w ).2) : z_Wc (d + 2) m_X11_undo [zR 27] w Q := by
  unfold P_D_undo at h
  unfold F_D_undo at k
  refine z_enter rfl (Nat.le_of_ble_eq_true rfl) ?_
  show z_Wp m_X11_undo _ 0 [(0, zR 27)] [] w _
  refine z_aload_n (pc' := 1) 0 rfl rfl dX11_undo_0 rfl ?_
  refine z_getR (t := 53) (pc' := 4) g_X11_54 (by decide) rfl rfl dX11_undo_1 rfl ?_
  refine z_aload_n (pc' := 5) 0 rfl rfl dX11_undo_4 rfl ?_
  refine z_getR (t := 41) (pc' := 8) g_X11_44 (by decide) rfl rfl dX11_undo_5 rfl ?_
  refine z_invV (as := [zR 41]) (st := []) (C := m_X2_takeBack) (fs := [56, 0, 0]) (pc' := 11) dX11_undo_8 rfl t_4_162 k_X2_takeBack rfl (by decide) rfl rfl rfl rfl (Nat.le_of_ble_eq_true rfl) ?_
  obtain ⟨r1, h⟩ := h
  refine c_H_takeBack_41 r1 ?_
  show z_Wp m_X11_undo _ 11 [(0, zR 27)] [zI ((F_H_takeBack_41 w).1)] ((F_H_takeBack_41 w).2) _
  have r2 := h
  refine z_if_eq 24 dX11_undo_11 (by decide) (pc' := 14) rfl r2 (fun c => ?_) (fun c => ?_)
  · skip
    rw [if_pos c] at k
    refine z_iconst (pc' := 25) dX11_undo_24 rfl ?_
    refine z_iret rfl dX11_undo_25 ?_
    exact k
  · skip
    rw [if_neg c] at k
    refine z_aload_n (pc' := 15) 0 rfl rfl dX11_undo_14 rfl ?_
    refine z_getR (t := 53) (pc' := 18) g_X11_54 (by decide) rfl rfl dX11_undo_15 rfl ?_
    refine z_invV (as := []) (st := []) (C := m_X2_acts) (fs := [56, 0, 0]) (pc' := 21) dX11_undo_18 rfl t_4_170 k_X2_acts rfl (by decide) rfl rfl rfl rfl (Nat.le_of_ble_eq_true rfl) ?_
    refine c_H_acts ?_
    show z_Wp m_X11_undo _ 21 [(0, zR 27)] [zI (((F_H_takeBack_41 w).2) 53 2)] ((F_H_takeBack_41 w).2) _
    refine z_goto 25 dX11_undo_21 (by decide) ?_
    refine z_iret rfl dX11_undo_25 ?_
    exact k
def P_D_layer (w : z_Wd) (a0 : Int) (a1 : Int) : Prop := (P_Y_hasWell w a0) ∧ ((F_Y_hasWell w a0 = 0 → True) ∧ (¬ (F_Y_hasWell w a0 = 0) → P_K_lyingAt w a0 a1))
def F_D_layer (w : z_Wd) (a0 : Int) (a1 : Int) : Int := if F_Y_hasWell w a0 = 0 then (-1) else F_K_lyingAt w a0 a1
set_option maxRecDepth 4000 in
theorem c_D_layer {d : Nat} {w : z_Wd} {a0 a1 : Int} {Q : Option z_V → z_Wd → Prop} (h : P_D_layer w a0 a1) (k : Q (some (zI (F_D_layer w a0 a1))) w) : z_Wc (d + 2) m_X11_layer [zR 27, zI a0, zI a1] w Q := by
  unfold P_D_layer at h
  unfold F_D_layer at k
  refine z_enter rfl (Nat.le_of_ble_eq_true rfl) ?_
  show z_Wp m_X11_layer _ 0 [(0, zR 27), (1, zI a0), (2, zI a1)] [] w _
  refine z_aload_n (pc' := 1) 0 rfl rfl dX11_layer_0 rfl ?_
  refine z_getR (t := 30) (pc' := 4) g_X11_19 (by decide) rfl rfl dX11_layer_1 rfl ?_
  refine z_iload_n (pc' := 5) 1 rfl rfl dX11_layer_4 rfl ?_
  refine z_invV (as := [zI a0]) (st := []) (C := m_X6_hasWell) (fs := [33, 34]) (pc' := 8) dX11_layer_5 rfl t_3_111 k_X6_hasWell rfl (by decide) rfl rfl rfl rfl (Nat.le_of_ble_eq_true rfl) ?_
  obtain ⟨r1, h⟩ := h
  refine c_Y_hasWell r1 ?_
  show z_Wp m_X11_layer _ 8 [(0, zR 27), (1, zI a0), (2, zI a1)] [zI (F_Y_hasWell w a0)] w _
  refine z_if_eq 23 dX11_layer_8 (by decide) (pc' := 11) rfl (z_rb b_Y_hasWell) (fun c => ?_) (fun c => ?_)
  · have h := h.1 c
    rw [if_pos c] at k
    refine z_iconst (pc' := 24) dX11_layer_23 rfl ?_
    refine z_iret rfl dX11_layer_24 ?_
    exact k
  · have h := h.2 c
    rw [if_neg c] at k
    refine z_aload_n (pc' := 12) 0 rfl rfl dX11_layer_11 rfl ?_
    refine z_getR (t := 41) (pc' := 15) g_X11_44 (by decide) rfl rfl dX11_layer_12 rfl ?_
    refine z_iload_n (pc' := 16) 1 rfl rfl dX11_layer_15 rfl ?_
    refine z_iload_n (pc' := 17) 2 rfl rfl dX11_layer_16 rfl ?_
    refine z_invV (as := [zI a0, zI a1]) (st := []) (C := m_X3_lyingAt) (fs := [32, 44, 45, 46, 47, 48, 0, 0, 0]) (pc' := 20) dX11_layer_17 rfl t_4_194 k_X3_lyingAt rfl (by decide) rfl rfl rfl rfl (Nat.le_of_ble_eq_true rfl) ?_
    have r2 := h
    refine c_K_lyingAt r2 ?_
    show z_Wp m_X11_layer _ 20 [(0, zR 27), (1, zI a0), (2, zI a1)] [zI (F_K_lyingAt w a0 a1)] w _
    refine z_goto 24 dX11_layer_20 (by decide) ?_
    refine z_iret rfl dX11_layer_24 ?_
    exact k
def P_D_reach (w : z_Wd) (a0 : Int) : Prop := (P_Y_hasName w a0) ∧ ((F_Y_hasName w a0 = 0 → True) ∧ (¬ (F_Y_hasName w a0 = 0) → P_N_fewestDrops w a0))
def F_D_reach (w : z_Wd) (a0 : Int) : Int := if F_Y_hasName w a0 = 0 then (-1) else F_N_fewestDrops w a0
set_option maxRecDepth 4000 in
theorem c_D_reach {d : Nat} {w : z_Wd} {a0 : Int} {Q : Option z_V → z_Wd → Prop} (h : P_D_reach w a0) (k : Q (some (zI (F_D_reach w a0))) w) : z_Wc (d + 4) m_X11_reach [zR 27, zI a0] w Q := by
  unfold P_D_reach at h
  unfold F_D_reach at k
  refine z_enter rfl (Nat.le_of_ble_eq_true rfl) ?_
  show z_Wp m_X11_reach _ 0 [(0, zR 27), (1, zI a0)] [] w _
  refine z_aload_n (pc' := 1) 0 rfl rfl dX11_reach_0 rfl ?_
  refine z_getR (t := 30) (pc' := 4) g_X11_19 (by decide) rfl rfl dX11_reach_1 rfl ?_
  refine z_iload_n (pc' := 5) 1 rfl rfl dX11_reach_4 rfl ?_
  refine z_invV (as := [zI a0]) (st := []) (C := m_X6_hasName) (fs := [33, 34]) (pc' := 8) dX11_reach_5 rfl t_3_178 k_X6_hasName rfl (by decide) rfl rfl rfl rfl (Nat.le_of_ble_eq_true rfl) ?_
  obtain ⟨r1, h⟩ := h
  refine c_Y_hasName r1 ?_
  show z_Wp m_X11_reach _ 8 [(0, zR 27), (1, zI a0)] [zI (F_Y_hasName w a0)] w _
  refine z_if_eq 22 dX11_reach_8 (by decide) (pc' := 11) rfl (z_rb b_Y_hasName) (fun c => ?_) (fun c => ?_)
  · have h := h.1 c
    rw [if_pos c] at k
    refine z_iconst (pc' := 23) dX11_reach_22 rfl ?_
    refine z_iret rfl dX11_reach_23 ?_
    exact k
  · have h := h.2 c
    rw [if_neg c] at k
    refine z_aload_n (pc' := 12) 0 rfl rfl dX11_reach_11 rfl ?_
    refine z_getR (t := 76) (pc' := 15) g_X11_84 (by decide) rfl rfl dX11_reach_12 rfl ?_
    refine z_iload_n (pc' := 16) 1 rfl rfl dX11_reach_15 rfl ?_
    refine z_invV (as := [zI a0]) (st := []) (C := m_X8_fewestDrops) (fs := [32, 43, 79]) (pc' := 19) dX11_reach_16 rfl t_4_199 k_X8_fewestDrops rfl (by decide) rfl rfl rfl rfl (Nat.le_of_ble_eq_true rfl) ?_
    have r2 := h
    refine c_N_fewestDrops r2 ?_
    show z_Wp m_X11_reach _ 19 [(0, zR 27), (1, zI a0)] [zI (F_N_fewestDrops w a0)] w _
    refine z_goto 23 dX11_reach_19 (by decide) ?_
    refine z_iret rfl dX11_reach_23 ?_
    exact k
def P_D_silence (w : z_Wd) (a0 : Int) : Prop := (P_Y_stands w) ∧ ((F_Y_stands w = 0 → True) ∧ (¬ (F_Y_stands w = 0) → (-2147483648 ≤ a0 ∧ a0 < 2147483648) ∧ ((a0 < 0 → True) ∧ (¬ (a0 < 0) → (-2147483648 ≤ (zz_shl 1 (w 32 2)) - 1 ∧ (zz_shl 1 (w 32 2)) - 1 < 2147483648) ∧ ((a0 ≤ (zz_shl 1 (w 32 2)) - 1 → (P_K_inside w (-1)) ∧ (P_P_silenced w (zz_or a0 (zz_and ((zz_shl 1 (w 32 2)) - 1) (zz_xor (F_K_inside w (-1)) (-1)))))) ∧ (¬ (a0 ≤ (zz_shl 1 (w 32 2)) - 1) → True))))))
def F_D_silence (w : z_Wd) (a0 : Int) : Int := if F_Y_stands w = 0 then (-1) else if a0 < 0 then (-1) else if a0 ≤ (zz_shl 1 (w 32 2)) - 1 then F_P_silenced w (zz_or a0 (zz_and ((zz_shl 1 (w 32 2)) - 1) (zz_xor (F_K_inside w (-1)) (-1)))) else (-1)
set_option maxRecDepth 4000 in
theorem c_D_silence {d : Nat} {w : z_Wd} {a0 : Int} {Q : Option z_V → z_Wd → Prop} (h : P_D_silence w a0) (k : Q (some (zI (F_D_silence w a0))) w) : z_Wc (d + 3) m_X11_silence [zR 27, zI a0] w Q := by
  unfold P_D_silence at h
  unfold F_D_silence at k
  refine z_enter rfl (Nat.le_of_ble_eq_true rfl) ?_
  show z_Wp m_X11_silence _ 0 [(0, zR 27), (1, zI a0)] [] w _
  refine z_aload_n (pc' := 1) 0 rfl rfl dX11_silence_0 rfl ?_
  refine z_getR (t := 30) (pc' := 4) g_X11_19 (by decide) rfl rfl dX11_silence_1 rfl ?_
  refine z_invV (as := []) (st := []) (C := m_X6_stands) (fs := [33, 34]) (pc' := 7) dX11_silence_4 rfl t_3_95 k_X6_stands rfl (by decide) rfl rfl rfl rfl (Nat.le_of_ble_eq_true rfl) ?_
  obtain ⟨r1, h⟩ := h
  refine c_Y_stands r1 ?_
  show z_Wp m_X11_silence _ 7 [(0, zR 27), (1, zI a0)] [zI (F_Y_stands w)] w _
  refine z_if_eq 25 dX11_silence_7 (by decide) (pc' := 10) rfl (z_rb b_Y_stands) (fun c => ?_) (fun c => ?_)
  · have h := h.1 c
    rw [if_pos c] at k
    refine z_iconst (pc' := 26) dX11_silence_25 rfl ?_
    refine z_iret rfl dX11_silence_26 ?_
    exact k
  · have h := h.2 c
    rw [if_neg c] at k
    refine z_iload_n (pc' := 11) 1 rfl rfl dX11_silence_10 rfl ?_
    obtain ⟨r2, h⟩ := h
    refine z_if_lt 25 dX11_silence_11 (by decide) (pc' := 14) rfl r2 (fun c => ?_) (fun c => ?_)
    · have h := h.1 c
      rw [if_pos c] at k
      refine z_iconst (pc' := 26) dX11_silence_25 rfl ?_
      refine z_iret rfl dX11_silence_26 ?_
      exact k
    · have h := h.2 c
      rw [if_neg c] at k
      refine z_iload_n (pc' := 15) 1 rfl rfl dX11_silence_14 rfl ?_
      refine z_aload_n (pc' := 16) 0 rfl rfl dX11_silence_15 rfl ?_
      refine z_getR (t := 30) (pc' := 19) g_X11_19 (by decide) rfl rfl dX11_silence_16 rfl ?_
      refine z_invV (as := []) (st := [zI a0]) (C := m_X6_all) (fs := [33, 34]) (pc' := 22) dX11_silence_19 rfl t_4_211 k_X6_all rfl (by decide) rfl rfl rfl rfl (Nat.le_of_ble_eq_true rfl) ?_
      refine c_Y_all ?_
      show z_Wp m_X11_silence _ 22 [(0, zR 27), (1, zI a0)] [zI ((zz_shl 1 (w 32 2)) - 1), zI a0] w _
      obtain ⟨r3, h⟩ := h
      refine z_icmp_le 27 dX11_silence_22 (by decide) (pc' := 25) rfl r2 r3 (fun c => ?_) (fun c => ?_)
      · have h := h.1 c
        rw [if_pos c] at k
        refine z_aload_n (pc' := 28) 0 rfl rfl dX11_silence_27 rfl ?_
        refine z_getR (t := 70) (pc' := 31) g_X11_70 (by decide) rfl rfl dX11_silence_28 rfl ?_
        refine z_iload_n (pc' := 32) 1 rfl rfl dX11_silence_31 rfl ?_
        refine z_aload_n (pc' := 33) 0 rfl rfl dX11_silence_32 rfl ?_
        refine z_getR (t := 41) (pc' := 36) g_X11_44 (by decide) rfl rfl dX11_silence_33 rfl ?_
        refine z_invV (as := []) (st := [zI a0, zR 70]) (C := m_X3_drowned) (fs := [32, 44, 45, 46, 47, 48, 0, 0, 0]) (pc' := 39) dX11_silence_36 rfl t_3_154 k_X3_drowned rfl (by decide) rfl rfl rfl rfl (Nat.le_of_ble_eq_true rfl) ?_
        obtain ⟨r4, h⟩ := h
        refine c_K_drowned r4 ?_
        show z_Wp m_X11_silence _ 39 [(0, zR 27), (1, zI a0)] [zI (zz_and ((zz_shl 1 (w 32 2)) - 1) (zz_xor (F_K_inside w (-1)) (-1))), zI a0, zR 70] w _
        refine z_ior (pc' := 40) dX11_silence_39 rfl ?_
        refine z_invV (as := [zI (zz_or a0 (zz_and ((zz_shl 1 (w 32 2)) - 1) (zz_xor (F_K_inside w (-1)) (-1))))]) (st := []) (C := m_X9_silenced) (fs := [32, 43, 73, 0, 0]) (pc' := 43) dX11_silence_40 rfl t_4_238 k_X9_silenced rfl (by decide) rfl rfl rfl rfl (Nat.le_of_ble_eq_true rfl) ?_
        have r5 := h
        refine c_P_silenced r5 ?_
        show z_Wp m_X11_silence _ 43 [(0, zR 27), (1, zI a0)] [zI (F_P_silenced w (zz_or a0 (zz_and ((zz_shl 1 (w 32 2)) - 1) (zz_xor (F_K_inside w (-1)) (-1)))))] w _
        refine z_iret rfl dX11_silence_43 ?_
        exact k
      · have h := h.2 c
        rw [if_neg c] at k
        refine z_iconst (pc' := 26) dX11_silence_25 rfl ?_
        refine z_iret rfl dX11_silence_26 ?_
        exact k
def P_D_seen (w : z_Wd) (a0 : Int) (a1 : Int) : Prop := P_C_note w a0 a1
def F_D_seen (w : z_Wd) (a0 : Int) (a1 : Int) : Int × z_Wd := ((F_C_note w a0 a1).1, (F_C_note w a0 a1).2)
set_option maxRecDepth 4000 in
theorem c_D_seen {d : Nat} {w : z_Wd} {a0 a1 : Int} {Q : Option z_V → z_Wd → Prop} (h : P_D_seen w a0 a1) (k : Q (some (zI (F_D_seen w a0 a1).1)) (F_D_seen w a0 a1).2) : z_Wc (d + 2) m_X11_seen [zR 27, zI a0, zI a1] w Q := by
  unfold P_D_seen at h
  unfold F_D_seen at k
  refine z_enter rfl (Nat.le_of_ble_eq_true rfl) ?_
  show z_Wp m_X11_seen _ 0 [(0, zR 27), (1, zI a0), (2, zI a1)] [] w _
  refine z_aload_n (pc' := 1) 0 rfl rfl dX11_seen_0 rfl ?_
  refine z_getR (t := 72) (pc' := 4) g_X11_77 (by decide) rfl rfl dX11_seen_1 rfl ?_
  refine z_iload_n (pc' := 5) 1 rfl rfl dX11_seen_4 rfl ?_
  refine z_iload_n (pc' := 6) 2 rfl rfl dX11_seen_5 rfl ?_
  refine z_invV (as := [zI a0, zI a1]) (st := []) (C := m_X0_note) (fs := [32, 75, 76, 77, 0]) (pc' := 9) dX11_seen_6 rfl t_5_7 k_X0_note rfl (by decide) rfl rfl rfl rfl (Nat.le_of_ble_eq_true rfl) ?_
  have r1 := h
  refine c_C_note r1 ?_
  show z_Wp m_X11_seen _ 9 [(0, zR 27), (1, zI a0), (2, zI a1)] [zI ((F_C_note w a0 a1).1)] ((F_C_note w a0 a1).2) _
  refine z_iret rfl dX11_seen_9 ?_
  exact k
def P_D_game (w : z_Wd) (a0 : Int) (a1 : Int) (a2 : Int) (a3 : Int) (a4 : Int) (a5 : Int) : Prop := (P_D_canPlay w a0 a1 a2) ∧ ((F_D_canPlay w a0 a1 a2 = 0 → True) ∧ (¬ (F_D_canPlay w a0 a1 a2 = 0) → (-2147483648 ≤ a3 ∧ a3 < 2147483648) ∧ ((a3 < 0 → True) ∧ (¬ (a3 < 0) → (a3 > 9 → True) ∧ (¬ (a3 > 9) → (-2147483648 ≤ a4 ∧ a4 < 2147483648) ∧ ((a4 < 0 → True) ∧ (¬ (a4 < 0) → (a4 ≤ 9 → (P_N_setUp w a2) ∧ (-2147483648 ≤ a5 ∧ a5 < 2147483648) ∧ ((a5 = 0 → P_N_gain (F_N_setUp w a2) a0 a3 a4) ∧ (¬ a5 = 0 → (a5 = 1 → P_N_gain (F_N_setUp w a2) a1 a4 a3) ∧ (¬ a5 = 1 → True)))) ∧ (¬ (a4 ≤ 9) → True))))))))
def F_D_game (w : z_Wd) (a0 : Int) (a1 : Int) (a2 : Int) (a3 : Int) (a4 : Int) (a5 : Int) : Int × z_Wd := if F_D_canPlay w a0 a1 a2 = 0 then ((-1000000), w) else if a3 < 0 then ((-1000000), w) else if a3 > 9 then ((-1000000), w) else if a4 < 0 then ((-1000000), w) else if a4 ≤ 9 then if a5 = 0 then (F_N_gain (F_N_setUp w a2) a0 a3 a4, F_N_setUp w a2) else if a5 = 1 then (F_N_gain (F_N_setUp w a2) a1 a4 a3, F_N_setUp w a2) else ((-1000000), F_N_setUp w a2) else ((-1000000), w)
set_option maxRecDepth 4000 in
theorem c_D_game {d : Nat} {w : z_Wd} {a0 a1 a2 a3 a4 a5 : Int} {Q : Option z_V → z_Wd → Prop} (h : P_D_game w a0 a1 a2 a3 a4 a5) (k : Q (some (zI (F_D_game w a0 a1 a2 a3 a4 a5).1)) (F_D_game w a0 a1 a2 a3 a4 a5).2) : z_Wc (d + 5) m_X11_game [zR 27, zI a0, zI a1, zI a2, zI a3, zI a4, zI a5] w Q := by
  unfold P_D_game at h
  unfold F_D_game at k
  refine z_enter rfl (Nat.le_of_ble_eq_true rfl) ?_
  show z_Wp m_X11_game _ 0 [(0, zR 27), (1, zI a0), (2, zI a1), (3, zI a2), (4, zI a3), (5, zI a4), (6, zI a5)] [] w _
  refine z_aload_n (pc' := 1) 0 rfl rfl dX11_game_0 rfl ?_
  refine z_iload_n (pc' := 2) 1 rfl rfl dX11_game_1 rfl ?_
  refine z_iload_n (pc' := 3) 2 rfl rfl dX11_game_2 rfl ?_
  refine z_iload_n (pc' := 4) 3 rfl rfl dX11_game_3 rfl ?_
  refine z_invV (as := [zI a0, zI a1, zI a2]) (st := []) (C := m_X11_canPlay) (fs := [30, 32, 35, 39, 43, 49, 55, 57, 72, 74, 78, 80, 0, 0, 1]) (pc' := 7) dX11_game_4 rfl t_5_62 k_X11_canPlay rfl (by decide) rfl rfl rfl rfl (Nat.le_of_ble_eq_true rfl) ?_
  obtain ⟨r1, h⟩ := h
  refine c_D_canPlay r1 ?_
  show z_Wp m_X11_game _ 7 [(0, zR 27), (1, zI a0), (2, zI a1), (3, zI a2), (4, zI a3), (5, zI a4), (6, zI a5)] [zI (F_D_canPlay w a0 a1 a2)] w _
  refine z_if_eq 34 dX11_game_7 (by decide) (pc' := 10) rfl (z_rb b_D_canPlay) (fun c => ?_) (fun c => ?_)
  · have h := h.1 c
    rw [if_pos c] at k
    refine z_ldcw (n := (-1000000)) (pc' := 37) t_5_66 (by decide) dX11_game_34 rfl ?_
    refine z_iret rfl dX11_game_37 ?_
    exact k
  · have h := h.2 c
    rw [if_neg c] at k
    refine z_iload (pc' := 12) 4 rfl dX11_game_10 rfl ?_
    obtain ⟨r2, h⟩ := h
    refine z_if_lt 34 dX11_game_12 (by decide) (pc' := 15) rfl r2 (fun c => ?_) (fun c => ?_)
    · have h := h.1 c
      rw [if_pos c] at k
      refine z_ldcw (n := (-1000000)) (pc' := 37) t_5_66 (by decide) dX11_game_34 rfl ?_
      refine z_iret rfl dX11_game_37 ?_
      exact k
    · have h := h.2 c
      rw [if_neg c] at k
      refine z_iload (pc' := 17) 4 rfl dX11_game_15 rfl ?_
      refine z_bipush (pc' := 19) (by decide) dX11_game_17 rfl ?_
      refine z_icmp_gt 34 dX11_game_19 (by decide) (pc' := 22) rfl r2 (by decide) (fun c => ?_) (fun c => ?_)
      · have h := h.1 c
        rw [if_pos c] at k
        refine z_ldcw (n := (-1000000)) (pc' := 37) t_5_66 (by decide) dX11_game_34 rfl ?_
        refine z_iret rfl dX11_game_37 ?_
        exact k
      · have h := h.2 c
        rw [if_neg c] at k
        refine z_iload (pc' := 24) 5 rfl dX11_game_22 rfl ?_
        obtain ⟨r3, h⟩ := h
        refine z_if_lt 34 dX11_game_24 (by decide) (pc' := 27) rfl r3 (fun c => ?_) (fun c => ?_)
        · have h := h.1 c
          rw [if_pos c] at k
          refine z_ldcw (n := (-1000000)) (pc' := 37) t_5_66 (by decide) dX11_game_34 rfl ?_
          refine z_iret rfl dX11_game_37 ?_
          exact k
        · have h := h.2 c
          rw [if_neg c] at k
          refine z_iload (pc' := 29) 5 rfl dX11_game_27 rfl ?_
          refine z_bipush (pc' := 31) (by decide) dX11_game_29 rfl ?_
          refine z_icmp_le 38 dX11_game_31 (by decide) (pc' := 34) rfl r3 (by decide) (fun c => ?_) (fun c => ?_)
          · have h := h.1 c
            rw [if_pos c] at k
            refine z_aload_n (pc' := 39) 0 rfl rfl dX11_game_38 rfl ?_
            refine z_getR (t := 76) (pc' := 42) g_X11_84 (by decide) rfl rfl dX11_game_39 rfl ?_
            refine z_iload_n (pc' := 43) 3 rfl rfl dX11_game_42 rfl ?_
            refine z_invV (as := [zI a2]) (st := []) (C := m_X8_setUp) (fs := [32, 43, 79]) (pc' := 46) dX11_game_43 rfl t_5_67 k_X8_setUp rfl (by decide) rfl rfl rfl rfl (Nat.le_of_ble_eq_true rfl) ?_
            obtain ⟨r4, h⟩ := h
            refine c_N_setUp r4 ?_
            show z_Wp m_X11_game _ 46 [(0, zR 27), (1, zI a0), (2, zI a1), (3, zI a2), (4, zI a3), (5, zI a4), (6, zI a5)] [] (F_N_setUp w a2) _
            refine z_iload (pc' := 48) 6 rfl dX11_game_46 rfl ?_
            obtain ⟨r5, h⟩ := h
            refine z_lookup dX11_game_48 (by decide) r5 ⟨fun c0 => ⟨76, by decide, ?_⟩, fun c0 => ⟨fun c1 => ⟨89, by decide, ?_⟩, fun c1 => ⟨102, by decide, ?_⟩⟩⟩
            · skip
              have c0 : a5 = 0 := c0
              have h := h.1 c0
              rw [if_pos c0] at k
              refine z_aload_n (pc' := 77) 0 rfl rfl dX11_game_76 rfl ?_
              refine z_getR (t := 76) (pc' := 80) g_X11_84 (by decide) rfl rfl dX11_game_77 rfl ?_
              refine z_iload_n (pc' := 81) 1 rfl rfl dX11_game_80 rfl ?_
              refine z_iload (pc' := 83) 4 rfl dX11_game_81 rfl ?_
              refine z_iload (pc' := 85) 5 rfl dX11_game_83 rfl ?_
              refine z_invV (as := [zI a0, zI a3, zI a4]) (st := []) (C := m_X8_gain) (fs := [32, 43, 79]) (pc' := 88) dX11_game_85 rfl t_5_72 k_X8_gain rfl (by decide) rfl rfl rfl rfl (Nat.le_of_ble_eq_true rfl) ?_
              have r6 := h
              refine c_N_gain r6 ?_
              show z_Wp m_X11_game _ 88 [(0, zR 27), (1, zI a0), (2, zI a1), (3, zI a2), (4, zI a3), (5, zI a4), (6, zI a5)] [zI (F_N_gain (F_N_setUp w a2) a0 a3 a4)] (F_N_setUp w a2) _
              refine z_iret rfl dX11_game_88 ?_
              exact k
            · skip
              have c0 : ¬ a5 = 0 := c0
              have h := h.2 c0
              rw [if_neg c0] at k
              have c1 : a5 = 1 := c1
              have h := h.1 c1
              rw [if_pos c1] at k
              refine z_aload_n (pc' := 90) 0 rfl rfl dX11_game_89 rfl ?_
              refine z_getR (t := 76) (pc' := 93) g_X11_84 (by decide) rfl rfl dX11_game_90 rfl ?_
              refine z_iload_n (pc' := 94) 2 rfl rfl dX11_game_93 rfl ?_
              refine z_iload (pc' := 96) 5 rfl dX11_game_94 rfl ?_
              refine z_iload (pc' := 98) 4 rfl dX11_game_96 rfl ?_
              refine z_invV (as := [zI a1, zI a4, zI a3]) (st := []) (C := m_X8_gain) (fs := [32, 43, 79]) (pc' := 101) dX11_game_98 rfl t_5_72 k_X8_gain rfl (by decide) rfl rfl rfl rfl (Nat.le_of_ble_eq_true rfl) ?_
              have r7 := h
              refine c_N_gain r7 ?_
              show z_Wp m_X11_game _ 101 [(0, zR 27), (1, zI a0), (2, zI a1), (3, zI a2), (4, zI a3), (5, zI a4), (6, zI a5)] [zI (F_N_gain (F_N_setUp w a2) a1 a4 a3)] (F_N_setUp w a2) _
              refine z_iret rfl dX11_game_101 ?_
              exact k
            · skip
              have c0 : ¬ a5 = 0 := c0
              have h := h.2 c0
              rw [if_neg c0] at k
              have c1 : ¬ a5 = 1 := c1
              have h := h.2 c1
              rw [if_neg c1] at k
              refine z_ldcw (n := (-1000000)) (pc' := 105) t_5_66 (by decide) dX11_game_102 rfl ?_
              refine z_iret rfl dX11_game_105 ?_
              exact k
          · have h := h.2 c
            rw [if_neg c] at k
            refine z_ldcw (n := (-1000000)) (pc' := 37) t_5_66 (by decide) dX11_game_34 rfl ?_
            refine z_iret rfl dX11_game_37 ?_
            exact k
def P_D_shares (w : z_Wd) (a0 : Int) (a1 : Int) : Prop := (P_Y_hasWell w a0) ∧ ((F_Y_hasWell w a0 = 0 → True) ∧ (¬ (F_Y_hasWell w a0 = 0) → (-2147483648 ≤ a1 ∧ a1 < 2147483648) ∧ ((a1 < 0 → True) ∧ (¬ (a1 < 0) → (a1 ≤ 999 → (P_K_inside w (-1)) ∧ (P_Y_dropsOf w (zz_and ((zz_shl 1 (w 32 2)) - 1) (zz_xor (F_K_inside w (-1)) (-1)))) ∧ (-2147483648 ≤ F_Y_dropsOf w (zz_and ((zz_shl 1 (w 32 2)) - 1) (zz_xor (F_K_inside w (-1)) (-1))) ∧ F_Y_dropsOf w (zz_and ((zz_shl 1 (w 32 2)) - 1) (zz_xor (F_K_inside w (-1)) (-1))) < 2147483648) ∧ ((F_Y_dropsOf w (zz_and ((zz_shl 1 (w 32 2)) - 1) (zz_xor (F_K_inside w (-1)) (-1))) ≤ 0 → True) ∧ (¬ (F_Y_dropsOf w (zz_and ((zz_shl 1 (w 32 2)) - 1) (zz_xor (F_K_inside w (-1)) (-1))) ≤ 0) → (P_K_inside w a0) ∧ (P_Y_dropsOf w (F_K_inside w a0)) ∧ ((F_Y_dropsOf w (zz_and ((zz_shl 1 (w 32 2)) - 1) (zz_xor (F_K_inside w (-1)) (-1)))) ≠ 0) ∧ (-2147483648 ≤ a1 * (F_Y_dropsOf w (F_K_inside w a0)) ∧ a1 * (F_Y_dropsOf w (F_K_inside w a0)) < 2147483648)))) ∧ (¬ (a1 ≤ 999) → True)))))
def F_D_shares (w : z_Wd) (a0 : Int) (a1 : Int) : Int := if F_Y_hasWell w a0 = 0 then (-1) else if a1 < 0 then (-1) else if a1 ≤ 999 then if F_Y_dropsOf w (zz_and ((zz_shl 1 (w 32 2)) - 1) (zz_xor (F_K_inside w (-1)) (-1))) ≤ 0 then 0 else Int.tdiv (a1 * (F_Y_dropsOf w (F_K_inside w a0))) (F_Y_dropsOf w (zz_and ((zz_shl 1 (w 32 2)) - 1) (zz_xor (F_K_inside w (-1)) (-1)))) else (-1)
set_option maxRecDepth 4000 in
theorem c_D_shares {d : Nat} {w : z_Wd} {a0 a1 : Int} {Q : Option z_V → z_Wd → Prop} (h : P_D_shares w a0 a1) (k : Q (some (zI (F_D_shares w a0 a1))) w) : z_Wc (d + 3) m_X11_shares [zR 27, zI a0, zI a1] w Q := by
  unfold P_D_shares at h
  unfold F_D_shares at k
  refine z_enter rfl (Nat.le_of_ble_eq_true rfl) ?_
  show z_Wp m_X11_shares _ 0 [(0, zR 27), (1, zI a0), (2, zI a1)] [] w _
  refine z_aload_n (pc' := 1) 0 rfl rfl dX11_shares_0 rfl ?_
  refine z_getR (t := 30) (pc' := 4) g_X11_19 (by decide) rfl rfl dX11_shares_1 rfl ?_
  refine z_iload_n (pc' := 5) 1 rfl rfl dX11_shares_4 rfl ?_
  refine z_invV (as := [zI a0]) (st := []) (C := m_X6_hasWell) (fs := [33, 34]) (pc' := 8) dX11_shares_5 rfl t_3_111 k_X6_hasWell rfl (by decide) rfl rfl rfl rfl (Nat.le_of_ble_eq_true rfl) ?_
  obtain ⟨r1, h⟩ := h
  refine c_Y_hasWell r1 ?_
  show z_Wp m_X11_shares _ 8 [(0, zR 27), (1, zI a0), (2, zI a1)] [zI (F_Y_hasWell w a0)] w _
  refine z_if_eq 22 dX11_shares_8 (by decide) (pc' := 11) rfl (z_rb b_Y_hasWell) (fun c => ?_) (fun c => ?_)
  · have h := h.1 c
    rw [if_pos c] at k
    refine z_iconst (pc' := 23) dX11_shares_22 rfl ?_
    refine z_iret rfl dX11_shares_23 ?_
    exact k
  · have h := h.2 c
    rw [if_neg c] at k
    refine z_iload_n (pc' := 12) 2 rfl rfl dX11_shares_11 rfl ?_
    obtain ⟨r2, h⟩ := h
    refine z_if_lt 22 dX11_shares_12 (by decide) (pc' := 15) rfl r2 (fun c => ?_) (fun c => ?_)
    · have h := h.1 c
      rw [if_pos c] at k
      refine z_iconst (pc' := 23) dX11_shares_22 rfl ?_
      refine z_iret rfl dX11_shares_23 ?_
      exact k
    · have h := h.2 c
      rw [if_neg c] at k
      refine z_iload_n (pc' := 16) 2 rfl rfl dX11_shares_15 rfl ?_
      refine z_sipush (pc' := 19) (by decide) dX11_shares_16 rfl ?_
      refine z_icmp_le 24 dX11_shares_19 (by decide) (pc' := 22) rfl r2 (by decide) (fun c => ?_) (fun c => ?_)
      · have h := h.1 c
        rw [if_pos c] at k
        refine z_aload_n (pc' := 25) 0 rfl rfl dX11_shares_24 rfl ?_
        refine z_getR (t := 30) (pc' := 28) g_X11_19 (by decide) rfl rfl dX11_shares_25 rfl ?_
        refine z_aload_n (pc' := 29) 0 rfl rfl dX11_shares_28 rfl ?_
        refine z_getR (t := 41) (pc' := 32) g_X11_44 (by decide) rfl rfl dX11_shares_29 rfl ?_
        refine z_invV (as := []) (st := [zR 30]) (C := m_X3_drowned) (fs := [32, 44, 45, 46, 47, 48, 0, 0, 0]) (pc' := 35) dX11_shares_32 rfl t_3_154 k_X3_drowned rfl (by decide) rfl rfl rfl rfl (Nat.le_of_ble_eq_true rfl) ?_
        obtain ⟨r3, h⟩ := h
        refine c_K_drowned r3 ?_
        show z_Wp m_X11_shares _ 35 [(0, zR 27), (1, zI a0), (2, zI a1)] [zI (zz_and ((zz_shl 1 (w 32 2)) - 1) (zz_xor (F_K_inside w (-1)) (-1))), zR 30] w _
        refine z_invV (as := [zI (zz_and ((zz_shl 1 (w 32 2)) - 1) (zz_xor (F_K_inside w (-1)) (-1)))]) (st := []) (C := m_X6_dropsOf) (fs := [33, 34]) (pc' := 38) dX11_shares_35 rfl t_5_115 k_X6_dropsOf rfl (by decide) rfl rfl rfl rfl (Nat.le_of_ble_eq_true rfl) ?_
        obtain ⟨r4, h⟩ := h
        refine c_Y_dropsOf r4 ?_
        show z_Wp m_X11_shares _ 38 [(0, zR 27), (1, zI a0), (2, zI a1)] [zI (F_Y_dropsOf w (zz_and ((zz_shl 1 (w 32 2)) - 1) (zz_xor (F_K_inside w (-1)) (-1))))] w _
        refine z_istore_n (pc' := 39) (ls' := [(0, zR 27), (1, zI a0), (2, zI a1), (3, zI (F_Y_dropsOf w (zz_and ((zz_shl 1 (w 32 2)) - 1) (zz_xor (F_K_inside w (-1)) (-1)))))]) rfl (by decide) rfl rfl dX11_shares_38 rfl ?_
        refine z_iload_n (pc' := 40) 3 rfl rfl dX11_shares_39 rfl ?_
        obtain ⟨r5, h⟩ := h
        refine z_if_le 65 dX11_shares_40 (by decide) (pc' := 43) rfl r5 (fun c => ?_) (fun c => ?_)
        · have h := h.1 c
          rw [if_pos c] at k
          refine z_iconst (pc' := 66) dX11_shares_65 rfl ?_
          refine z_iret rfl dX11_shares_66 ?_
          exact k
        · have h := h.2 c
          rw [if_neg c] at k
          refine z_iload_n (pc' := 44) 2 rfl rfl dX11_shares_43 rfl ?_
          refine z_aload_n (pc' := 45) 0 rfl rfl dX11_shares_44 rfl ?_
          refine z_getR (t := 30) (pc' := 48) g_X11_19 (by decide) rfl rfl dX11_shares_45 rfl ?_
          refine z_aload_n (pc' := 49) 0 rfl rfl dX11_shares_48 rfl ?_
          refine z_getR (t := 41) (pc' := 52) g_X11_44 (by decide) rfl rfl dX11_shares_49 rfl ?_
          refine z_iload_n (pc' := 53) 1 rfl rfl dX11_shares_52 rfl ?_
          refine z_invV (as := [zI a0]) (st := [zR 30, zI a1]) (C := m_X3_inside) (fs := [32, 44, 45, 46, 47, 48, 0, 0, 0]) (pc' := 56) dX11_shares_53 rfl t_3_138 k_X3_inside rfl (by decide) rfl rfl rfl rfl (Nat.le_of_ble_eq_true rfl) ?_
          obtain ⟨r6, h⟩ := h
          refine c_K_inside r6 ?_
          show z_Wp m_X11_shares _ 56 [(0, zR 27), (1, zI a0), (2, zI a1), (3, zI (F_Y_dropsOf w (zz_and ((zz_shl 1 (w 32 2)) - 1) (zz_xor (F_K_inside w (-1)) (-1)))))] [zI (F_K_inside w a0), zR 30, zI a1] w _
          refine z_invV (as := [zI (F_K_inside w a0)]) (st := [zI a1]) (C := m_X6_dropsOf) (fs := [33, 34]) (pc' := 59) dX11_shares_56 rfl t_5_115 k_X6_dropsOf rfl (by decide) rfl rfl rfl rfl (Nat.le_of_ble_eq_true rfl) ?_
          obtain ⟨r7, h⟩ := h
          refine c_Y_dropsOf r7 ?_
          show z_Wp m_X11_shares _ 59 [(0, zR 27), (1, zI a0), (2, zI a1), (3, zI (F_Y_dropsOf w (zz_and ((zz_shl 1 (w 32 2)) - 1) (zz_xor (F_K_inside w (-1)) (-1)))))] [zI (F_Y_dropsOf w (F_K_inside w a0)), zI a1] w _
          refine z_imul (pc' := 60) dX11_shares_59 rfl ?_
          refine z_iload_n (pc' := 61) 3 rfl rfl dX11_shares_60 rfl ?_
          obtain ⟨r8, h⟩ := h
          have r9 := h
          refine z_idiv (pc' := 62) r9 r5 r8 dX11_shares_61 rfl ?_
          refine z_goto 66 dX11_shares_62 (by decide) ?_
          refine z_iret rfl dX11_shares_66 ?_
          exact k
      · have h := h.2 c
        rw [if_neg c] at k
        refine z_iconst (pc' := 23) dX11_shares_22 rfl ?_
        refine z_iret rfl dX11_shares_23 ?_
        exact k
