def P_M_friendsOf (w : z_Wd) (a0 : Int) : Prop := (P_M_knownBy w a0) ∧ (P_M_drowned w)
def F_M_friendsOf (w : z_Wd) (a0 : Int) : Int := F_J_bitCount_0f7a4 w (zz_and (F_M_knownBy w a0) (zz_xor (F_M_drowned w) (-1)))
set_option maxRecDepth 4000 in
theorem c_M_friendsOf {d : Nat} {w : z_Wd} {a0 : Int} {Q : Option z_V → z_Wd → Prop} (h : P_M_friendsOf w a0) (k : Q (some (zI (F_M_friendsOf w a0))) w) : z_Wc (d + 5) m_X12_friendsOf [zR 0, zI a0] w Q := by
  unfold P_M_friendsOf at h
  unfold F_M_friendsOf at k
  refine z_enter rfl (Nat.le_of_ble_eq_true rfl) ?_
  show z_Wp m_X12_friendsOf _ 0 [(0, zR 0), (1, zI a0)] [] w _
  refine z_aload_n (pc' := 1) 0 rfl rfl dX12_friendsOf_0 rfl ?_
  refine z_iload_n (pc' := 2) 1 rfl rfl dX12_friendsOf_1 rfl ?_
  refine z_invV (as := [zI a0]) (st := []) (C := m_X12_knownBy) (fs := [0, 3, 0, 0, 0, 0, 4, 5, 6, 7, 8, 9, 10, 0, 0, 11, 12, 13, 14, 15, 16, 0, 0, 0, 17, 18, 19, 20, 0, 0, 0, 21, 22, 0, 0, 23, 0, 1, 24, 0, 0, 25, 26, 0, 27, 0]) (pc' := 5) dX12_friendsOf_2 rfl t_7_150 k_X12_knownBy rfl (by decide) rfl rfl rfl rfl (Nat.le_of_ble_eq_true rfl) ?_
  obtain ⟨r1, h⟩ := h
  refine c_M_knownBy r1 ?_
  show z_Wp m_X12_friendsOf _ 5 [(0, zR 0), (1, zI a0)] [zI (F_M_knownBy w a0)] w _
  refine z_aload_n (pc' := 6) 0 rfl rfl dX12_friendsOf_5 rfl ?_
  refine z_invV (as := []) (st := [zI (F_M_knownBy w a0)]) (C := m_X12_drowned) (fs := [0, 3, 0, 0, 0, 0, 4, 5, 6, 7, 8, 9, 10, 0, 0, 11, 12, 13, 14, 15, 16, 0, 0, 0, 17, 18, 19, 20, 0, 0, 0, 21, 22, 0, 0, 23, 0, 1, 24, 0, 0, 25, 26, 0, 27, 0]) (pc' := 9) dX12_friendsOf_6 rfl t_7_154 k_X12_drowned rfl (by decide) rfl rfl rfl rfl (Nat.le_of_ble_eq_true rfl) ?_
  have r2 := h
  refine c_M_drowned r2 ?_
  show z_Wp m_X12_friendsOf _ 9 [(0, zR 0), (1, zI a0)] [zI (F_M_drowned w), zI (F_M_knownBy w a0)] w _
  refine z_iconst (pc' := 10) dX12_friendsOf_9 rfl ?_
  refine z_ixor (pc' := 11) dX12_friendsOf_10 rfl ?_
  refine z_iand (pc' := 12) dX12_friendsOf_11 rfl ?_
  refine z_invS (as := [zI (zz_and (F_M_knownBy w a0) (zz_xor (F_M_drowned w) (-1)))]) (st := []) (C := m_J6_bitCount_0f7a4) (pc' := 15) dX12_friendsOf_12 rfl t_7_162 k_J6_bitCount_0f7a4 rfl rfl (Nat.le_of_ble_eq_true rfl) ?_
  refine c_J_bitCount_0f7a4 ?_
  show z_Wp m_X12_friendsOf _ 15 [(0, zR 0), (1, zI a0)] [zI (F_J_bitCount_0f7a4 w (zz_and (F_M_knownBy w a0) (zz_xor (F_M_drowned w) (-1))))] w _
  refine z_iret rfl dX12_friendsOf_15 ?_
  exact k
def A_M_workOut_12 (w : z_Wd) (a0 : Int) (a1 : Int) (a2 : Int) : Nat → Int × z_Wd
  | 0 => (0, w)
  | i17 + 1 => if ((A_M_workOut_12 w a0 a1 a2 i17).2) 2 ((((520 * a0) + a1) + (i17 : Int)).toNat) = 0 then if ((A_M_workOut_12 w a0 a1 a2 i17).2) 2 ((((520 * a0) + a1) + (i17 : Int)).toNat) = 0 then (((A_M_workOut_12 w a0 a1 a2 i17).1) + 1, z_up ((A_M_workOut_12 w a0 a1 a2 i17).2) 10 (((A_M_workOut_12 w a0 a1 a2 i17).1).toNat) (((A_M_workOut_12 w a0 a1 a2 i17).2) 3 ((((520 * a0) + a1) + (i17 : Int)).toNat))) else (((A_M_workOut_12 w a0 a1 a2 i17).1) + 1, z_up ((A_M_workOut_12 w a0 a1 a2 i17).2) 10 (((A_M_workOut_12 w a0 a1 a2 i17).1).toNat) (((A_M_workOut_12 w a0 a1 a2 i17).2) 9 ((((A_M_workOut_12 w a0 a1 a2 i17).2) 3 ((((520 * a0) + a1) + (i17 : Int)).toNat)).toNat))) else if ((A_M_workOut_12 w a0 a1 a2 i17).2) 2 ((((520 * a0) + a1) + (i17 : Int)).toNat) = 1 then if ((A_M_workOut_12 w a0 a1 a2 i17).2) 2 ((((520 * a0) + a1) + (i17 : Int)).toNat) = 0 then (((A_M_workOut_12 w a0 a1 a2 i17).1) + 1, z_up ((A_M_workOut_12 w a0 a1 a2 i17).2) 10 (((A_M_workOut_12 w a0 a1 a2 i17).1).toNat) (((A_M_workOut_12 w a0 a1 a2 i17).2) 3 ((((520 * a0) + a1) + (i17 : Int)).toNat))) else (((A_M_workOut_12 w a0 a1 a2 i17).1) + 1, z_up ((A_M_workOut_12 w a0 a1 a2 i17).2) 10 (((A_M_workOut_12 w a0 a1 a2 i17).1).toNat) (((A_M_workOut_12 w a0 a1 a2 i17).2) 9 ((((A_M_workOut_12 w a0 a1 a2 i17).2) 3 ((((520 * a0) + a1) + (i17 : Int)).toNat)).toNat))) else if ((A_M_workOut_12 w a0 a1 a2 i17).2) 2 ((((520 * a0) + a1) + (i17 : Int)).toNat) = 9 then ((A_M_workOut_12 w a0 a1 a2 i17).1, z_up ((A_M_workOut_12 w a0 a1 a2 i17).2) 10 ((((A_M_workOut_12 w a0 a1 a2 i17).1) - 1).toNat) (1 - (((A_M_workOut_12 w a0 a1 a2 i17).2) 10 ((((A_M_workOut_12 w a0 a1 a2 i17).1) - 1).toNat)))) else (((A_M_workOut_12 w a0 a1 a2 i17).1) + (-1), z_up ((A_M_workOut_12 w a0 a1 a2 i17).2) 10 (((((A_M_workOut_12 w a0 a1 a2 i17).1) + (-1)) - 1).toNat) (F_M_worked ((A_M_workOut_12 w a0 a1 a2 i17).2) (((A_M_workOut_12 w a0 a1 a2 i17).2) 2 ((((520 * a0) + a1) + (i17 : Int)).toNat)) (((A_M_workOut_12 w a0 a1 a2 i17).2) 10 (((((A_M_workOut_12 w a0 a1 a2 i17).1) + (-1)) - 1).toNat)) (((A_M_workOut_12 w a0 a1 a2 i17).2) 10 ((((A_M_workOut_12 w a0 a1 a2 i17).1) + (-1)).toNat))))
def P_M_workOut (w : z_Wd) (a0 : Int) (a1 : Int) (a2 : Int) : Prop := (∀ i17 : Nat, i17 < ((((520 * a0) + a2) - ((520 * a0) + a1)).toNat) → (-2147483648 ≤ ((520 * a0) + a1) + (i17 : Int) ∧ ((520 * a0) + a1) + (i17 : Int) < 2147483648) ∧ (-2147483648 ≤ (520 * a0) + a2 ∧ (520 * a0) + a2 < 2147483648) ∧ (0 ≤ ((520 * a0) + a1) + (i17 : Int) ∧ ((520 * a0) + a1) + (i17 : Int) < 2600) ∧ (-2147483648 ≤ ((A_M_workOut_12 w a0 a1 a2 i17).2) 2 ((((520 * a0) + a1) + (i17 : Int)).toNat) ∧ ((A_M_workOut_12 w a0 a1 a2 i17).2) 2 ((((520 * a0) + a1) + (i17 : Int)).toNat) < 2147483648) ∧ ((((A_M_workOut_12 w a0 a1 a2 i17).2) 2 ((((520 * a0) + a1) + (i17 : Int)).toNat) = 0 → (((A_M_workOut_12 w a0 a1 a2 i17).2) 2 ((((520 * a0) + a1) + (i17 : Int)).toNat) = 0 → 0 ≤ (A_M_workOut_12 w a0 a1 a2 i17).1 ∧ (A_M_workOut_12 w a0 a1 a2 i17).1 < 80) ∧ (¬ (((A_M_workOut_12 w a0 a1 a2 i17).2) 2 ((((520 * a0) + a1) + (i17 : Int)).toNat) = 0) → (0 ≤ ((A_M_workOut_12 w a0 a1 a2 i17).2) 3 ((((520 * a0) + a1) + (i17 : Int)).toNat) ∧ ((A_M_workOut_12 w a0 a1 a2 i17).2) 3 ((((520 * a0) + a1) + (i17 : Int)).toNat) < 6) ∧ (0 ≤ (A_M_workOut_12 w a0 a1 a2 i17).1 ∧ (A_M_workOut_12 w a0 a1 a2 i17).1 < 80))) ∧ (¬ (((A_M_workOut_12 w a0 a1 a2 i17).2) 2 ((((520 * a0) + a1) + (i17 : Int)).toNat) = 0) → (((A_M_workOut_12 w a0 a1 a2 i17).2) 2 ((((520 * a0) + a1) + (i17 : Int)).toNat) = 1 → (((A_M_workOut_12 w a0 a1 a2 i17).2) 2 ((((520 * a0) + a1) + (i17 : Int)).toNat) = 0 → 0 ≤ (A_M_workOut_12 w a0 a1 a2 i17).1 ∧ (A_M_workOut_12 w a0 a1 a2 i17).1 < 80) ∧ (¬ (((A_M_workOut_12 w a0 a1 a2 i17).2) 2 ((((520 * a0) + a1) + (i17 : Int)).toNat) = 0) → (0 ≤ ((A_M_workOut_12 w a0 a1 a2 i17).2) 3 ((((520 * a0) + a1) + (i17 : Int)).toNat) ∧ ((A_M_workOut_12 w a0 a1 a2 i17).2) 3 ((((520 * a0) + a1) + (i17 : Int)).toNat) < 6) ∧ (0 ≤ (A_M_workOut_12 w a0 a1 a2 i17).1 ∧ (A_M_workOut_12 w a0 a1 a2 i17).1 < 80))) ∧ (¬ (((A_M_workOut_12 w a0 a1 a2 i17).2) 2 ((((520 * a0) + a1) + (i17 : Int)).toNat) = 1) → (((A_M_workOut_12 w a0 a1 a2 i17).2) 2 ((((520 * a0) + a1) + (i17 : Int)).toNat) = 9 → 0 ≤ ((A_M_workOut_12 w a0 a1 a2 i17).1) - 1 ∧ ((A_M_workOut_12 w a0 a1 a2 i17).1) - 1 < 80) ∧ (¬ (((A_M_workOut_12 w a0 a1 a2 i17).2) 2 ((((520 * a0) + a1) + (i17 : Int)).toNat) = 9) → (0 ≤ (((A_M_workOut_12 w a0 a1 a2 i17).1) + (-1)) - 1 ∧ (((A_M_workOut_12 w a0 a1 a2 i17).1) + (-1)) - 1 < 80) ∧ (-2147483648 ≤ ((A_M_workOut_12 w a0 a1 a2 i17).2) 10 (((((A_M_workOut_12 w a0 a1 a2 i17).1) + (-1)) - 1).toNat) ∧ ((A_M_workOut_12 w a0 a1 a2 i17).2) 10 (((((A_M_workOut_12 w a0 a1 a2 i17).1) + (-1)) - 1).toNat) < 2147483648) ∧ (0 ≤ ((A_M_workOut_12 w a0 a1 a2 i17).1) + (-1) ∧ ((A_M_workOut_12 w a0 a1 a2 i17).1) + (-1) < 80) ∧ (-2147483648 ≤ ((A_M_workOut_12 w a0 a1 a2 i17).2) 10 ((((A_M_workOut_12 w a0 a1 a2 i17).1) + (-1)).toNat) ∧ ((A_M_workOut_12 w a0 a1 a2 i17).2) 10 ((((A_M_workOut_12 w a0 a1 a2 i17).1) + (-1)).toNat) < 2147483648) ∧ (P_M_worked ((A_M_workOut_12 w a0 a1 a2 i17).2) (((A_M_workOut_12 w a0 a1 a2 i17).2) 2 ((((520 * a0) + a1) + (i17 : Int)).toNat)) (((A_M_workOut_12 w a0 a1 a2 i17).2) 10 (((((A_M_workOut_12 w a0 a1 a2 i17).1) + (-1)) - 1).toNat)) (((A_M_workOut_12 w a0 a1 a2 i17).2) 10 ((((A_M_workOut_12 w a0 a1 a2 i17).1) + (-1)).toNat)))))))) ∧ ((-2147483648 ≤ ((520 * a0) + a1) + (((((520 * a0) + a2) - ((520 * a0) + a1)).toNat : Nat) : Int) ∧ ((520 * a0) + a1) + (((((520 * a0) + a2) - ((520 * a0) + a1)).toNat : Nat) : Int) < 2147483648) ∧ (-2147483648 ≤ (520 * a0) + a2 ∧ (520 * a0) + a2 < 2147483648))
def F_M_workOut (w : z_Wd) (a0 : Int) (a1 : Int) (a2 : Int) : Int × z_Wd := (((A_M_workOut_12 w a0 a1 a2 (((520 * a0) + a2) - ((520 * a0) + a1)).toNat).2) 10 0, (A_M_workOut_12 w a0 a1 a2 (((520 * a0) + a2) - ((520 * a0) + a1)).toNat).2)
set_option maxRecDepth 4000 in
theorem c_M_workOut {d : Nat} {w : z_Wd} {a0 a1 a2 : Int} {Q : Option z_V → z_Wd → Prop} (h : P_M_workOut w a0 a1 a2) (k : Q (some (zI (F_M_workOut w a0 a1 a2).1)) (F_M_workOut w a0 a1 a2).2) : z_Wc (d + 3) m_X12_workOut [zR 0, zI a0, zI a1, zI a2] w Q := by
  unfold P_M_workOut at h
  unfold F_M_workOut at k
  refine z_enter rfl (Nat.le_of_ble_eq_true rfl) ?_
  show z_Wp m_X12_workOut _ 0 [(0, zR 0), (1, zI a0), (2, zI a1), (3, zI a2)] [] w _
  refine z_iconst (pc' := 1) dX12_workOut_0 rfl ?_
  refine z_istore (pc' := 3) (ls' := [(0, zR 0), (1, zI a0), (2, zI a1), (3, zI a2), (4, zI 0)]) (by decide) rfl rfl dX12_workOut_1 rfl ?_
  refine z_sipush (pc' := 6) (by decide) dX12_workOut_3 rfl ?_
  refine z_iload_n (pc' := 7) 1 rfl rfl dX12_workOut_6 rfl ?_
  refine z_imul (pc' := 8) dX12_workOut_7 rfl ?_
  refine z_iload_n (pc' := 9) 2 rfl rfl dX12_workOut_8 rfl ?_
  refine z_iadd (pc' := 10) dX12_workOut_9 rfl ?_
  refine z_istore (pc' := 12) (ls' := [(0, zR 0), (1, zI a0), (2, zI a1), (3, zI a2), (4, zI 0), (5, zI ((520 * a0) + a1))]) (by decide) rfl rfl dX12_workOut_10 rfl ?_
  refine z_Wp.sub (ls' := [(0, zR 0), (1, zI a0), (3, zI a2), (4, zI 0), (5, zI ((520 * a0) + a1))]) ?_ (z_sub_of [0, 1, 3, 4, 5] rfl)
  refine z_lcast (ls' := [(0, zR 0), (1, zI a0), (3, zI a2), (4, zI 0), (5, zI (((520 * a0) + a1) + ((0 : Nat) : Int)))]) (by simp only [Int.natCast_zero, Int.add_zero]) ?_
  refine z_upto ((((520 * a0) + a2) - ((520 * a0) + a1)).toNat) (fun i17 => z_Wp m_X12_workOut (d + 3) 12 [(0, zR 0), (1, zI a0), (3, zI a2), (4, zI ((A_M_workOut_12 w a0 a1 a2 i17).1)), (5, zI (((520 * a0) + a1) + (i17 : Int)))] [] ((A_M_workOut_12 w a0 a1 a2 i17).2) Q) ?_ ?_
  · skip
    have h := h.2
    refine z_iload (pc' := 14) 4 rfl dX12_workOut_12 rfl ?_
    refine z_sipush (pc' := 17) (by decide) dX12_workOut_14 rfl ?_
    refine z_iload_n (pc' := 18) 1 rfl rfl dX12_workOut_17 rfl ?_
    refine z_imul (pc' := 19) dX12_workOut_18 rfl ?_
    refine z_iload_n (pc' := 20) 2 rfl rfl dX12_workOut_19 rfl ?_
    refine z_iadd (pc' := 21) dX12_workOut_20 rfl ?_
    obtain ⟨r34, h⟩ := h
    have r35 := h
    refine z_icmp_ge 171 dX12_workOut_21 (by decide) (pc' := 24) rfl r34 r35 (fun _ => ?_) (fun c => absurd c (by omega))
    refine z_aload_n (pc' := 172) 0 rfl rfl dX12_workOut_171 rfl ?_
    refine z_getR (t := 10) (pc' := 175) g_X12_37 (by decide) rfl rfl dX12_workOut_172 rfl ?_
    refine z_iconst (pc' := 176) dX12_workOut_175 rfl ?_
    refine z_iald2 (v := ((A_M_workOut_12 w a0 a1 a2 (((520 * a0) + a2) - ((520 * a0) + a1)).toNat).2) 10 0) (pc' := 177) (by decide) rfl (by decide) (by decide) rfl dX12_workOut_176 rfl ?_
    refine z_iret rfl dX12_workOut_177 ?_
    exact k
  · intro i17 hi ih
    have h := h.1 i17 hi
    have ih : z_Wp m_X12_workOut (d + 3) 12 [(0, zR 0), (1, zI a0), (3, zI a2), (4, zI ((if ((A_M_workOut_12 w a0 a1 a2 i17).2) 2 ((((520 * a0) + a1) + (i17 : Int)).toNat) = 0 then if ((A_M_workOut_12 w a0 a1 a2 i17).2) 2 ((((520 * a0) + a1) + (i17 : Int)).toNat) = 0 then (((A_M_workOut_12 w a0 a1 a2 i17).1) + 1, z_up ((A_M_workOut_12 w a0 a1 a2 i17).2) 10 (((A_M_workOut_12 w a0 a1 a2 i17).1).toNat) (((A_M_workOut_12 w a0 a1 a2 i17).2) 3 ((((520 * a0) + a1) + (i17 : Int)).toNat))) else (((A_M_workOut_12 w a0 a1 a2 i17).1) + 1, z_up ((A_M_workOut_12 w a0 a1 a2 i17).2) 10 (((A_M_workOut_12 w a0 a1 a2 i17).1).toNat) (((A_M_workOut_12 w a0 a1 a2 i17).2) 9 ((((A_M_workOut_12 w a0 a1 a2 i17).2) 3 ((((520 * a0) + a1) + (i17 : Int)).toNat)).toNat))) else if ((A_M_workOut_12 w a0 a1 a2 i17).2) 2 ((((520 * a0) + a1) + (i17 : Int)).toNat) = 1 then if ((A_M_workOut_12 w a0 a1 a2 i17).2) 2 ((((520 * a0) + a1) + (i17 : Int)).toNat) = 0 then (((A_M_workOut_12 w a0 a1 a2 i17).1) + 1, z_up ((A_M_workOut_12 w a0 a1 a2 i17).2) 10 (((A_M_workOut_12 w a0 a1 a2 i17).1).toNat) (((A_M_workOut_12 w a0 a1 a2 i17).2) 3 ((((520 * a0) + a1) + (i17 : Int)).toNat))) else (((A_M_workOut_12 w a0 a1 a2 i17).1) + 1, z_up ((A_M_workOut_12 w a0 a1 a2 i17).2) 10 (((A_M_workOut_12 w a0 a1 a2 i17).1).toNat) (((A_M_workOut_12 w a0 a1 a2 i17).2) 9 ((((A_M_workOut_12 w a0 a1 a2 i17).2) 3 ((((520 * a0) + a1) + (i17 : Int)).toNat)).toNat))) else if ((A_M_workOut_12 w a0 a1 a2 i17).2) 2 ((((520 * a0) + a1) + (i17 : Int)).toNat) = 9 then ((A_M_workOut_12 w a0 a1 a2 i17).1, z_up ((A_M_workOut_12 w a0 a1 a2 i17).2) 10 ((((A_M_workOut_12 w a0 a1 a2 i17).1) - 1).toNat) (1 - (((A_M_workOut_12 w a0 a1 a2 i17).2) 10 ((((A_M_workOut_12 w a0 a1 a2 i17).1) - 1).toNat)))) else (((A_M_workOut_12 w a0 a1 a2 i17).1) + (-1), z_up ((A_M_workOut_12 w a0 a1 a2 i17).2) 10 (((((A_M_workOut_12 w a0 a1 a2 i17).1) + (-1)) - 1).toNat) (F_M_worked ((A_M_workOut_12 w a0 a1 a2 i17).2) (((A_M_workOut_12 w a0 a1 a2 i17).2) 2 ((((520 * a0) + a1) + (i17 : Int)).toNat)) (((A_M_workOut_12 w a0 a1 a2 i17).2) 10 (((((A_M_workOut_12 w a0 a1 a2 i17).1) + (-1)) - 1).toNat)) (((A_M_workOut_12 w a0 a1 a2 i17).2) 10 ((((A_M_workOut_12 w a0 a1 a2 i17).1) + (-1)).toNat))))).1)), (5, zI (((520 * a0) + a1) + ((i17 + 1 : Nat) : Int)))] [] ((if ((A_M_workOut_12 w a0 a1 a2 i17).2) 2 ((((520 * a0) + a1) + (i17 : Int)).toNat) = 0 then if ((A_M_workOut_12 w a0 a1 a2 i17).2) 2 ((((520 * a0) + a1) + (i17 : Int)).toNat) = 0 then (((A_M_workOut_12 w a0 a1 a2 i17).1) + 1, z_up ((A_M_workOut_12 w a0 a1 a2 i17).2) 10 (((A_M_workOut_12 w a0 a1 a2 i17).1).toNat) (((A_M_workOut_12 w a0 a1 a2 i17).2) 3 ((((520 * a0) + a1) + (i17 : Int)).toNat))) else (((A_M_workOut_12 w a0 a1 a2 i17).1) + 1, z_up ((A_M_workOut_12 w a0 a1 a2 i17).2) 10 (((A_M_workOut_12 w a0 a1 a2 i17).1).toNat) (((A_M_workOut_12 w a0 a1 a2 i17).2) 9 ((((A_M_workOut_12 w a0 a1 a2 i17).2) 3 ((((520 * a0) + a1) + (i17 : Int)).toNat)).toNat))) else if ((A_M_workOut_12 w a0 a1 a2 i17).2) 2 ((((520 * a0) + a1) + (i17 : Int)).toNat) = 1 then if ((A_M_workOut_12 w a0 a1 a2 i17).2) 2 ((((520 * a0) + a1) + (i17 : Int)).toNat) = 0 then (((A_M_workOut_12 w a0 a1 a2 i17).1) + 1, z_up ((A_M_workOut_12 w a0 a1 a2 i17).2) 10 (((A_M_workOut_12 w a0 a1 a2 i17).1).toNat) (((A_M_workOut_12 w a0 a1 a2 i17).2) 3 ((((520 * a0) + a1) + (i17 : Int)).toNat))) else (((A_M_workOut_12 w a0 a1 a2 i17).1) + 1, z_up ((A_M_workOut_12 w a0 a1 a2 i17).2) 10 (((A_M_workOut_12 w a0 a1 a2 i17).1).toNat) (((A_M_workOut_12 w a0 a1 a2 i17).2) 9 ((((A_M_workOut_12 w a0 a1 a2 i17).2) 3 ((((520 * a0) + a1) + (i17 : Int)).toNat)).toNat))) else if ((A_M_workOut_12 w a0 a1 a2 i17).2) 2 ((((520 * a0) + a1) + (i17 : Int)).toNat) = 9 then ((A_M_workOut_12 w a0 a1 a2 i17).1, z_up ((A_M_workOut_12 w a0 a1 a2 i17).2) 10 ((((A_M_workOut_12 w a0 a1 a2 i17).1) - 1).toNat) (1 - (((A_M_workOut_12 w a0 a1 a2 i17).2) 10 ((((A_M_workOut_12 w a0 a1 a2 i17).1) - 1).toNat)))) else (((A_M_workOut_12 w a0 a1 a2 i17).1) + (-1), z_up ((A_M_workOut_12 w a0 a1 a2 i17).2) 10 (((((A_M_workOut_12 w a0 a1 a2 i17).1) + (-1)) - 1).toNat) (F_M_worked ((A_M_workOut_12 w a0 a1 a2 i17).2) (((A_M_workOut_12 w a0 a1 a2 i17).2) 2 ((((520 * a0) + a1) + (i17 : Int)).toNat)) (((A_M_workOut_12 w a0 a1 a2 i17).2) 10 (((((A_M_workOut_12 w a0 a1 a2 i17).1) + (-1)) - 1).toNat)) (((A_M_workOut_12 w a0 a1 a2 i17).2) 10 ((((A_M_workOut_12 w a0 a1 a2 i17).1) + (-1)).toNat))))).2) Q := ih
    refine z_iload (pc' := 14) 4 rfl dX12_workOut_12 rfl ?_
    refine z_sipush (pc' := 17) (by decide) dX12_workOut_14 rfl ?_
    refine z_iload_n (pc' := 18) 1 rfl rfl dX12_workOut_17 rfl ?_
    refine z_imul (pc' := 19) dX12_workOut_18 rfl ?_
    refine z_iload_n (pc' := 20) 2 rfl rfl dX12_workOut_19 rfl ?_
    refine z_iadd (pc' := 21) dX12_workOut_20 rfl ?_
    obtain ⟨r18, h⟩ := h
    obtain ⟨r19, h⟩ := h
    refine z_icmp_ge 171 dX12_workOut_21 (by decide) (pc' := 24) rfl r18 r19 (fun c => absurd c (by omega)) (fun _ => ?_)
    refine z_aload_n (pc' := 25) 0 rfl rfl dX12_workOut_24 rfl ?_
    refine z_getR (t := 2) (pc' := 28) g_X12_13 (by decide) rfl rfl dX12_workOut_25 rfl ?_
    refine z_iload (pc' := 30) 4 rfl dX12_workOut_28 rfl ?_
    obtain ⟨r20, h⟩ := h
    refine z_iald2 (v := ((A_M_workOut_12 w a0 a1 a2 i17).2) 2 ((((520 * a0) + a1) + (i17 : Int)).toNat)) (pc' := 31) (by decide) rfl r20 (by decide) rfl dX12_workOut_30 rfl ?_
    obtain ⟨r21, h⟩ := h
    refine z_if_eq 45 dX12_workOut_31 (by decide) (pc' := 34) rfl r21 (fun c19 => ?_) (fun c19 => ?_)
    · have h := h.1 c19
      rw [if_pos c19] at ih
      refine z_aload_n (pc' := 46) 0 rfl rfl dX12_workOut_45 rfl ?_
      refine z_getR (t := 10) (pc' := 49) g_X12_37 (by decide) rfl rfl dX12_workOut_46 rfl ?_
      refine z_iload (pc' := 51) 3 rfl dX12_workOut_49 rfl ?_
      refine z_aload_n (pc' := 52) 0 rfl rfl dX12_workOut_51 rfl ?_
      refine z_getR (t := 2) (pc' := 55) g_X12_13 (by decide) rfl rfl dX12_workOut_52 rfl ?_
      refine z_iload (pc' := 57) 4 rfl dX12_workOut_55 rfl ?_
      refine z_iald2 (v := ((A_M_workOut_12 w a0 a1 a2 i17).2) 2 ((((520 * a0) + a1) + (i17 : Int)).toNat)) (pc' := 58) (by decide) rfl r20 (by decide) rfl dX12_workOut_57 rfl ?_
      refine z_if_ne 71 dX12_workOut_58 (by decide) (pc' := 61) rfl r21 (fun c20 => ?_) (fun c20 => ?_)
      · have h := h.2 c20
        rw [if_neg c20] at ih
        refine z_aload_n (pc' := 72) 0 rfl rfl dX12_workOut_71 rfl ?_
        refine z_getR (t := 9) (pc' := 75) g_X12_34 (by decide) rfl rfl dX12_workOut_72 rfl ?_
        refine z_aload_n (pc' := 76) 0 rfl rfl dX12_workOut_75 rfl ?_
        refine z_getR (t := 3) (pc' := 79) g_X12_16 (by decide) rfl rfl dX12_workOut_76 rfl ?_
        refine z_iload (pc' := 81) 4 rfl dX12_workOut_79 rfl ?_
        refine z_iald2 (v := ((A_M_workOut_12 w a0 a1 a2 i17).2) 3 ((((520 * a0) + a1) + (i17 : Int)).toNat)) (pc' := 82) (by decide) rfl r20 (by decide) rfl dX12_workOut_81 rfl ?_
        obtain ⟨r22, h⟩ := h
        refine z_iald2 (v := ((A_M_workOut_12 w a0 a1 a2 i17).2) 9 ((((A_M_workOut_12 w a0 a1 a2 i17).2) 3 ((((520 * a0) + a1) + (i17 : Int)).toNat)).toNat)) (pc' := 83) (by decide) rfl r22 (by decide) rfl dX12_workOut_82 rfl ?_
        have r23 := h
        refine z_iast2 (w' := z_up ((A_M_workOut_12 w a0 a1 a2 i17).2) 10 (((A_M_workOut_12 w a0 a1 a2 i17).1).toNat) (((A_M_workOut_12 w a0 a1 a2 i17).2) 9 ((((A_M_workOut_12 w a0 a1 a2 i17).2) 3 ((((520 * a0) + a1) + (i17 : Int)).toNat)).toNat))) (pc' := 84) (by decide) rfl r23 (by decide) rfl dX12_workOut_83 rfl ?_
        refine z_iinc (pc' := 87) (ls' := [(0, zR 0), (1, zI a0), (3, zI a2), (4, zI (((A_M_workOut_12 w a0 a1 a2 i17).1) + 1)), (5, zI (((520 * a0) + a1) + (i17 : Int)))]) 3 rfl (by decide) rfl rfl dX12_workOut_84 rfl ?_
        refine z_goto 165 dX12_workOut_87 (by decide) ?_
        refine z_iinc (pc' := 168) (ls' := [(0, zR 0), (1, zI a0), (3, zI a2), (4, zI (((A_M_workOut_12 w a0 a1 a2 i17).1) + 1)), (5, zI ((((520 * a0) + a1) + (i17 : Int)) + 1))]) 4 rfl (by decide) rfl rfl dX12_workOut_165 rfl ?_
        refine z_goto 12 dX12_workOut_168 (by decide) ?_
        exact (z_lcast (by rw [z_ci]) ih)
      · have h := h.1 c20
        rw [if_pos c20] at ih
        refine z_aload_n (pc' := 62) 0 rfl rfl dX12_workOut_61 rfl ?_
        refine z_getR (t := 3) (pc' := 65) g_X12_16 (by decide) rfl rfl dX12_workOut_62 rfl ?_
        refine z_iload (pc' := 67) 4 rfl dX12_workOut_65 rfl ?_
        refine z_iald2 (v := ((A_M_workOut_12 w a0 a1 a2 i17).2) 3 ((((520 * a0) + a1) + (i17 : Int)).toNat)) (pc' := 68) (by decide) rfl r20 (by decide) rfl dX12_workOut_67 rfl ?_
        refine z_goto 83 dX12_workOut_68 (by decide) ?_
        have r24 := h
        refine z_iast2 (w' := z_up ((A_M_workOut_12 w a0 a1 a2 i17).2) 10 (((A_M_workOut_12 w a0 a1 a2 i17).1).toNat) (((A_M_workOut_12 w a0 a1 a2 i17).2) 3 ((((520 * a0) + a1) + (i17 : Int)).toNat))) (pc' := 84) (by decide) rfl r24 (by decide) rfl dX12_workOut_83 rfl ?_
        refine z_iinc (pc' := 87) (ls' := [(0, zR 0), (1, zI a0), (3, zI a2), (4, zI (((A_M_workOut_12 w a0 a1 a2 i17).1) + 1)), (5, zI (((520 * a0) + a1) + (i17 : Int)))]) 3 rfl (by decide) rfl rfl dX12_workOut_84 rfl ?_
        refine z_goto 165 dX12_workOut_87 (by decide) ?_
        refine z_iinc (pc' := 168) (ls' := [(0, zR 0), (1, zI a0), (3, zI a2), (4, zI (((A_M_workOut_12 w a0 a1 a2 i17).1) + 1)), (5, zI ((((520 * a0) + a1) + (i17 : Int)) + 1))]) 4 rfl (by decide) rfl rfl dX12_workOut_165 rfl ?_
        refine z_goto 12 dX12_workOut_168 (by decide) ?_
        exact (z_lcast (by rw [z_ci]) ih)
    · have h := h.2 c19
      rw [if_neg c19] at ih
      refine z_aload_n (pc' := 35) 0 rfl rfl dX12_workOut_34 rfl ?_
      refine z_getR (t := 2) (pc' := 38) g_X12_13 (by decide) rfl rfl dX12_workOut_35 rfl ?_
      refine z_iload (pc' := 40) 4 rfl dX12_workOut_38 rfl ?_
      refine z_iald2 (v := ((A_M_workOut_12 w a0 a1 a2 i17).2) 2 ((((520 * a0) + a1) + (i17 : Int)).toNat)) (pc' := 41) (by decide) rfl r20 (by decide) rfl dX12_workOut_40 rfl ?_
      refine z_iconst (pc' := 42) dX12_workOut_41 rfl ?_
      refine z_icmp_ne 90 dX12_workOut_42 (by decide) (pc' := 45) rfl r21 (by decide) (fun c21 => ?_) (fun c21 => ?_)
      · have h := h.2 c21
        rw [if_neg c21] at ih
        refine z_aload_n (pc' := 91) 0 rfl rfl dX12_workOut_90 rfl ?_
        refine z_getR (t := 2) (pc' := 94) g_X12_13 (by decide) rfl rfl dX12_workOut_91 rfl ?_
        refine z_iload (pc' := 96) 4 rfl dX12_workOut_94 rfl ?_
        refine z_iald2 (v := ((A_M_workOut_12 w a0 a1 a2 i17).2) 2 ((((520 * a0) + a1) + (i17 : Int)).toNat)) (pc' := 97) (by decide) rfl r20 (by decide) rfl dX12_workOut_96 rfl ?_
        refine z_bipush (pc' := 99) (by decide) dX12_workOut_97 rfl ?_
        refine z_icmp_ne 125 dX12_workOut_99 (by decide) (pc' := 102) rfl r21 (by decide) (fun c22 => ?_) (fun c22 => ?_)
        · have h := h.2 c22
          rw [if_neg c22] at ih
          refine z_iinc (pc' := 128) (ls' := [(0, zR 0), (1, zI a0), (3, zI a2), (4, zI (((A_M_workOut_12 w a0 a1 a2 i17).1) + (-1))), (5, zI (((520 * a0) + a1) + (i17 : Int)))]) 3 rfl (by decide) rfl rfl dX12_workOut_125 rfl ?_
          refine z_aload_n (pc' := 129) 0 rfl rfl dX12_workOut_128 rfl ?_
          refine z_getR (t := 10) (pc' := 132) g_X12_37 (by decide) rfl rfl dX12_workOut_129 rfl ?_
          refine z_iload (pc' := 134) 3 rfl dX12_workOut_132 rfl ?_
          refine z_iconst (pc' := 135) dX12_workOut_134 rfl ?_
          refine z_isub (pc' := 136) dX12_workOut_135 rfl ?_
          refine z_aload_n (pc' := 137) 0 rfl rfl dX12_workOut_136 rfl ?_
          refine z_getR (t := 2) (pc' := 140) g_X12_13 (by decide) rfl rfl dX12_workOut_137 rfl ?_
          refine z_iload (pc' := 142) 4 rfl dX12_workOut_140 rfl ?_
          refine z_iald2 (v := ((A_M_workOut_12 w a0 a1 a2 i17).2) 2 ((((520 * a0) + a1) + (i17 : Int)).toNat)) (pc' := 143) (by decide) rfl r20 (by decide) rfl dX12_workOut_142 rfl ?_
          refine z_aload_n (pc' := 144) 0 rfl rfl dX12_workOut_143 rfl ?_
          refine z_getR (t := 10) (pc' := 147) g_X12_37 (by decide) rfl rfl dX12_workOut_144 rfl ?_
          refine z_iload (pc' := 149) 3 rfl dX12_workOut_147 rfl ?_
          refine z_iconst (pc' := 150) dX12_workOut_149 rfl ?_
          refine z_isub (pc' := 151) dX12_workOut_150 rfl ?_
          obtain ⟨r25, h⟩ := h
          refine z_iald2 (v := ((A_M_workOut_12 w a0 a1 a2 i17).2) 10 (((((A_M_workOut_12 w a0 a1 a2 i17).1) + (-1)) - 1).toNat)) (pc' := 152) (by decide) rfl r25 (by decide) rfl dX12_workOut_151 rfl ?_
          obtain ⟨r26, h⟩ := h
          refine z_i2l (pc' := 153) r26 dX12_workOut_152 rfl ?_
          refine z_aload_n (pc' := 154) 0 rfl rfl dX12_workOut_153 rfl ?_
          refine z_getR (t := 10) (pc' := 157) g_X12_37 (by decide) rfl rfl dX12_workOut_154 rfl ?_
          refine z_iload (pc' := 159) 3 rfl dX12_workOut_157 rfl ?_
          obtain ⟨r27, h⟩ := h
          refine z_iald2 (v := ((A_M_workOut_12 w a0 a1 a2 i17).2) 10 ((((A_M_workOut_12 w a0 a1 a2 i17).1) + (-1)).toNat)) (pc' := 160) (by decide) rfl r27 (by decide) rfl dX12_workOut_159 rfl ?_
          obtain ⟨r28, h⟩ := h
          refine z_i2l (pc' := 161) r28 dX12_workOut_160 rfl ?_
          refine z_invS (as := [zI (((A_M_workOut_12 w a0 a1 a2 i17).2) 2 ((((520 * a0) + a1) + (i17 : Int)).toNat)), zJ (((A_M_workOut_12 w a0 a1 a2 i17).2) 10 (((((A_M_workOut_12 w a0 a1 a2 i17).1) + (-1)) - 1).toNat)), zJ (((A_M_workOut_12 w a0 a1 a2 i17).2) 10 ((((A_M_workOut_12 w a0 a1 a2 i17).1) + (-1)).toNat))]) (st := [zI ((((A_M_workOut_12 w a0 a1 a2 i17).1) + (-1)) - 1), zR 10]) (C := m_X12_worked) (pc' := 164) dX12_workOut_161 rfl t_7_171 k_X12_worked rfl rfl (Nat.le_of_ble_eq_true rfl) ?_
          have r29 := h
          refine c_M_worked r29 ?_
          show z_Wp m_X12_workOut _ 164 [(0, zR 0), (1, zI a0), (3, zI a2), (4, zI (((A_M_workOut_12 w a0 a1 a2 i17).1) + (-1))), (5, zI (((520 * a0) + a1) + (i17 : Int)))] [zI (F_M_worked ((A_M_workOut_12 w a0 a1 a2 i17).2) (((A_M_workOut_12 w a0 a1 a2 i17).2) 2 ((((520 * a0) + a1) + (i17 : Int)).toNat)) (((A_M_workOut_12 w a0 a1 a2 i17).2) 10 (((((A_M_workOut_12 w a0 a1 a2 i17).1) + (-1)) - 1).toNat)) (((A_M_workOut_12 w a0 a1 a2 i17).2) 10 ((((A_M_workOut_12 w a0 a1 a2 i17).1) + (-1)).toNat))), zI ((((A_M_workOut_12 w a0 a1 a2 i17).1) + (-1)) - 1), zR 10] ((A_M_workOut_12 w a0 a1 a2 i17).2) _
          refine z_iast2 (w' := z_up ((A_M_workOut_12 w a0 a1 a2 i17).2) 10 (((((A_M_workOut_12 w a0 a1 a2 i17).1) + (-1)) - 1).toNat) (F_M_worked ((A_M_workOut_12 w a0 a1 a2 i17).2) (((A_M_workOut_12 w a0 a1 a2 i17).2) 2 ((((520 * a0) + a1) + (i17 : Int)).toNat)) (((A_M_workOut_12 w a0 a1 a2 i17).2) 10 (((((A_M_workOut_12 w a0 a1 a2 i17).1) + (-1)) - 1).toNat)) (((A_M_workOut_12 w a0 a1 a2 i17).2) 10 ((((A_M_workOut_12 w a0 a1 a2 i17).1) + (-1)).toNat)))) (pc' := 165) (by decide) rfl r25 (by decide) rfl dX12_workOut_164 rfl ?_
          refine z_iinc (pc' := 168) (ls' := [(0, zR 0), (1, zI a0), (3, zI a2), (4, zI (((A_M_workOut_12 w a0 a1 a2 i17).1) + (-1))), (5, zI ((((520 * a0) + a1) + (i17 : Int)) + 1))]) 4 rfl (by decide) rfl rfl dX12_workOut_165 rfl ?_
          refine z_goto 12 dX12_workOut_168 (by decide) ?_
          exact (z_lcast (by rw [z_ci]) ih)
        · have h := h.1 c22
          rw [if_pos c22] at ih
          refine z_aload_n (pc' := 103) 0 rfl rfl dX12_workOut_102 rfl ?_
          refine z_getR (t := 10) (pc' := 106) g_X12_37 (by decide) rfl rfl dX12_workOut_103 rfl ?_
          refine z_iload (pc' := 108) 3 rfl dX12_workOut_106 rfl ?_
          refine z_iconst (pc' := 109) dX12_workOut_108 rfl ?_
          refine z_isub (pc' := 110) dX12_workOut_109 rfl ?_
          refine z_iconst (pc' := 111) dX12_workOut_110 rfl ?_
          refine z_aload_n (pc' := 112) 0 rfl rfl dX12_workOut_111 rfl ?_
          refine z_getR (t := 10) (pc' := 115) g_X12_37 (by decide) rfl rfl dX12_workOut_112 rfl ?_
          refine z_iload (pc' := 117) 3 rfl dX12_workOut_115 rfl ?_
          refine z_iconst (pc' := 118) dX12_workOut_117 rfl ?_
          refine z_isub (pc' := 119) dX12_workOut_118 rfl ?_
          have r30 := h
          refine z_iald2 (v := ((A_M_workOut_12 w a0 a1 a2 i17).2) 10 ((((A_M_workOut_12 w a0 a1 a2 i17).1) - 1).toNat)) (pc' := 120) (by decide) rfl r30 (by decide) rfl dX12_workOut_119 rfl ?_
          refine z_isub (pc' := 121) dX12_workOut_120 rfl ?_
          refine z_iast2 (w' := z_up ((A_M_workOut_12 w a0 a1 a2 i17).2) 10 ((((A_M_workOut_12 w a0 a1 a2 i17).1) - 1).toNat) (1 - (((A_M_workOut_12 w a0 a1 a2 i17).2) 10 ((((A_M_workOut_12 w a0 a1 a2 i17).1) - 1).toNat)))) (pc' := 122) (by decide) rfl r30 (by decide) rfl dX12_workOut_121 rfl ?_
          refine z_goto 165 dX12_workOut_122 (by decide) ?_
          refine z_iinc (pc' := 168) (ls' := [(0, zR 0), (1, zI a0), (3, zI a2), (4, zI ((A_M_workOut_12 w a0 a1 a2 i17).1)), (5, zI ((((520 * a0) + a1) + (i17 : Int)) + 1))]) 4 rfl (by decide) rfl rfl dX12_workOut_165 rfl ?_
          refine z_goto 12 dX12_workOut_168 (by decide) ?_
          exact (z_lcast (by rw [z_ci]) ih)
      · have h := h.1 c21
        rw [if_pos c21] at ih
        refine z_aload_n (pc' := 46) 0 rfl rfl dX12_workOut_45 rfl ?_
        refine z_getR (t := 10) (pc' := 49) g_X12_37 (by decide) rfl rfl dX12_workOut_46 rfl ?_
        refine z_iload (pc' := 51) 3 rfl dX12_workOut_49 rfl ?_
        refine z_aload_n (pc' := 52) 0 rfl rfl dX12_workOut_51 rfl ?_
        refine z_getR (t := 2) (pc' := 55) g_X12_13 (by decide) rfl rfl dX12_workOut_52 rfl ?_
        refine z_iload (pc' := 57) 4 rfl dX12_workOut_55 rfl ?_
        refine z_iald2 (v := ((A_M_workOut_12 w a0 a1 a2 i17).2) 2 ((((520 * a0) + a1) + (i17 : Int)).toNat)) (pc' := 58) (by decide) rfl r20 (by decide) rfl dX12_workOut_57 rfl ?_
        refine z_if_ne 71 dX12_workOut_58 (by decide) (pc' := 61) rfl r21 (fun c23 => ?_) (fun c23 => ?_)
        · have h := h.2 c23
          rw [if_neg c23] at ih
          refine z_aload_n (pc' := 72) 0 rfl rfl dX12_workOut_71 rfl ?_
          refine z_getR (t := 9) (pc' := 75) g_X12_34 (by decide) rfl rfl dX12_workOut_72 rfl ?_
          refine z_aload_n (pc' := 76) 0 rfl rfl dX12_workOut_75 rfl ?_
          refine z_getR (t := 3) (pc' := 79) g_X12_16 (by decide) rfl rfl dX12_workOut_76 rfl ?_
          refine z_iload (pc' := 81) 4 rfl dX12_workOut_79 rfl ?_
          refine z_iald2 (v := ((A_M_workOut_12 w a0 a1 a2 i17).2) 3 ((((520 * a0) + a1) + (i17 : Int)).toNat)) (pc' := 82) (by decide) rfl r20 (by decide) rfl dX12_workOut_81 rfl ?_
          obtain ⟨r31, h⟩ := h
          refine z_iald2 (v := ((A_M_workOut_12 w a0 a1 a2 i17).2) 9 ((((A_M_workOut_12 w a0 a1 a2 i17).2) 3 ((((520 * a0) + a1) + (i17 : Int)).toNat)).toNat)) (pc' := 83) (by decide) rfl r31 (by decide) rfl dX12_workOut_82 rfl ?_
          have r32 := h
          refine z_iast2 (w' := z_up ((A_M_workOut_12 w a0 a1 a2 i17).2) 10 (((A_M_workOut_12 w a0 a1 a2 i17).1).toNat) (((A_M_workOut_12 w a0 a1 a2 i17).2) 9 ((((A_M_workOut_12 w a0 a1 a2 i17).2) 3 ((((520 * a0) + a1) + (i17 : Int)).toNat)).toNat))) (pc' := 84) (by decide) rfl r32 (by decide) rfl dX12_workOut_83 rfl ?_
          refine z_iinc (pc' := 87) (ls' := [(0, zR 0), (1, zI a0), (3, zI a2), (4, zI (((A_M_workOut_12 w a0 a1 a2 i17).1) + 1)), (5, zI (((520 * a0) + a1) + (i17 : Int)))]) 3 rfl (by decide) rfl rfl dX12_workOut_84 rfl ?_
          refine z_goto 165 dX12_workOut_87 (by decide) ?_
          refine z_iinc (pc' := 168) (ls' := [(0, zR 0), (1, zI a0), (3, zI a2), (4, zI (((A_M_workOut_12 w a0 a1 a2 i17).1) + 1)), (5, zI ((((520 * a0) + a1) + (i17 : Int)) + 1))]) 4 rfl (by decide) rfl rfl dX12_workOut_165 rfl ?_
          refine z_goto 12 dX12_workOut_168 (by decide) ?_
          exact (z_lcast (by rw [z_ci]) ih)
        · have h := h.1 c23
          rw [if_pos c23] at ih
          refine z_aload_n (pc' := 62) 0 rfl rfl dX12_workOut_61 rfl ?_
          refine z_getR (t := 3) (pc' := 65) g_X12_16 (by decide) rfl rfl dX12_workOut_62 rfl ?_
          refine z_iload (pc' := 67) 4 rfl dX12_workOut_65 rfl ?_
          refine z_iald2 (v := ((A_M_workOut_12 w a0 a1 a2 i17).2) 3 ((((520 * a0) + a1) + (i17 : Int)).toNat)) (pc' := 68) (by decide) rfl r20 (by decide) rfl dX12_workOut_67 rfl ?_
          refine z_goto 83 dX12_workOut_68 (by decide) ?_
          have r33 := h
          refine z_iast2 (w' := z_up ((A_M_workOut_12 w a0 a1 a2 i17).2) 10 (((A_M_workOut_12 w a0 a1 a2 i17).1).toNat) (((A_M_workOut_12 w a0 a1 a2 i17).2) 3 ((((520 * a0) + a1) + (i17 : Int)).toNat))) (pc' := 84) (by decide) rfl r33 (by decide) rfl dX12_workOut_83 rfl ?_
          refine z_iinc (pc' := 87) (ls' := [(0, zR 0), (1, zI a0), (3, zI a2), (4, zI (((A_M_workOut_12 w a0 a1 a2 i17).1) + 1)), (5, zI (((520 * a0) + a1) + (i17 : Int)))]) 3 rfl (by decide) rfl rfl dX12_workOut_84 rfl ?_
          refine z_goto 165 dX12_workOut_87 (by decide) ?_
          refine z_iinc (pc' := 168) (ls' := [(0, zR 0), (1, zI a0), (3, zI a2), (4, zI (((A_M_workOut_12 w a0 a1 a2 i17).1) + 1)), (5, zI ((((520 * a0) + a1) + (i17 : Int)) + 1))]) 4 rfl (by decide) rfl rfl dX12_workOut_165 rfl ?_
          refine z_goto 12 dX12_workOut_168 (by decide) ?_
          exact (z_lcast (by rw [z_ci]) ih)
def A_M_gone_20 (w : z_Wd) (a0 : Int) (a1 : Int) : Nat → Int
  | 0 => 0
  | i10 + 1 => if F_M_areGone w (i10 : Int) a0 = 0 then A_M_gone_20 w a0 a1 i10 else if A_M_gone_20 w a0 a1 i10 = a1 then A_M_gone_20 w a0 a1 i10 else (A_M_gone_20 w a0 a1 i10) + 1
def E_M_gone_20 (w : z_Wd) (a0 : Int) (a1 : Int) (i10 : Nat) : Bool := if F_M_areGone w (i10 : Int) a0 = 0 then false else if A_M_gone_20 w a0 a1 i10 = a1 then true else false
def R_M_gone_20 (w : z_Wd) (a0 : Int) (a1 : Int) (i10 : Nat) : Int := if F_M_areGone w (i10 : Int) a0 = 0 then 0 else if A_M_gone_20 w a0 a1 i10 = a1 then (i10 : Int) else 0
def P_M_gone (w : z_Wd) (a0 : Int) (a1 : Int) : Prop := (P_M_isAsked w a0) ∧ ((F_M_isAsked w a0 = 0 → True) ∧ (¬ (F_M_isAsked w a0 = 0) → (-2147483648 ≤ a1 ∧ a1 < 2147483648) ∧ ((a1 ≥ (-1) → (∀ i10 : Nat, i10 < ((zz_shl 1 (w 0 29)).toNat) → zfind (E_M_gone_20 w a0 a1) i10 = -1 → (-2147483648 ≤ (i10 : Int) ∧ (i10 : Int) < 2147483648) ∧ (-2147483648 ≤ zz_shl 1 (w 0 29) ∧ zz_shl 1 (w 0 29) < 2147483648) ∧ (P_M_areGone w (i10 : Int) a0) ∧ (-2147483648 ≤ F_M_areGone w (i10 : Int) a0 ∧ F_M_areGone w (i10 : Int) a0 < 2147483648) ∧ ((F_M_areGone w (i10 : Int) a0 = 0 → True) ∧ (¬ (F_M_areGone w (i10 : Int) a0 = 0) → -2147483648 ≤ A_M_gone_20 w a0 a1 i10 ∧ A_M_gone_20 w a0 a1 i10 < 2147483648))) ∧ ((-2147483648 ≤ (((zz_shl 1 (w 0 29)).toNat : Nat) : Int) ∧ (((zz_shl 1 (w 0 29)).toNat : Nat) : Int) < 2147483648) ∧ (-2147483648 ≤ zz_shl 1 (w 0 29) ∧ zz_shl 1 (w 0 29) < 2147483648))) ∧ (¬ (a1 ≥ (-1)) → True))))
def F_M_gone (w : z_Wd) (a0 : Int) (a1 : Int) : Int := if F_M_isAsked w a0 = 0 then (-1) else if a1 ≥ (-1) then if zfind (E_M_gone_20 w a0 a1) ((zz_shl 1 (w 0 29)).toNat) = -1 then if a1 = (-1) then A_M_gone_20 w a0 a1 (zz_shl 1 (w 0 29)).toNat else (-1) else R_M_gone_20 w a0 a1 (zfind (E_M_gone_20 w a0 a1) ((zz_shl 1 (w 0 29)).toNat)).toNat else (-1)
set_option maxRecDepth 4000 in
theorem c_M_gone {d : Nat} {w : z_Wd} {a0 a1 : Int} {Q : Option z_V → z_Wd → Prop} (h : P_M_gone w a0 a1) (k : Q (some (zI (F_M_gone w a0 a1))) w) : z_Wc (d + 2) m_X12_gone [zR 0, zI a0, zI a1] w Q := by
  unfold P_M_gone at h
  unfold F_M_gone at k
  refine z_enter rfl (Nat.le_of_ble_eq_true rfl) ?_
  show z_Wp m_X12_gone _ 0 [(0, zR 0), (1, zI a0), (2, zI a1)] [] w _
  refine z_aload_n (pc' := 1) 0 rfl rfl dX12_gone_0 rfl ?_
  refine z_iload_n (pc' := 2) 1 rfl rfl dX12_gone_1 rfl ?_
  refine z_invV (as := [zI a0]) (st := []) (C := m_X12_isAsked) (fs := [0, 3, 0, 0, 0, 0, 4, 5, 6, 7, 8, 9, 10, 0, 0, 11, 12, 13, 14, 15, 16, 0, 0, 0, 17, 18, 19, 20, 0, 0, 0, 21, 22, 0, 0, 23, 0, 1, 24, 0, 0, 25, 26, 0, 27, 0]) (pc' := 5) dX12_gone_2 rfl t_8_117 k_X12_isAsked rfl (by decide) rfl rfl rfl rfl (Nat.le_of_ble_eq_true rfl) ?_
  obtain ⟨r1, h⟩ := h
  refine c_M_isAsked r1 ?_
  show z_Wp m_X12_gone _ 5 [(0, zR 0), (1, zI a0), (2, zI a1)] [zI (F_M_isAsked w a0)] w _
  refine z_if_eq 13 dX12_gone_5 (by decide) (pc' := 8) rfl (z_rb b_M_isAsked) (fun c => ?_) (fun c => ?_)
  · have h := h.1 c
    rw [if_pos c] at k
    refine z_iconst (pc' := 14) dX12_gone_13 rfl ?_
    refine z_iret rfl dX12_gone_14 ?_
    exact k
  · have h := h.2 c
    rw [if_neg c] at k
    refine z_iload_n (pc' := 9) 2 rfl rfl dX12_gone_8 rfl ?_
    refine z_iconst (pc' := 10) dX12_gone_9 rfl ?_
    obtain ⟨r2, h⟩ := h
    refine z_icmp_ge 15 dX12_gone_10 (by decide) (pc' := 13) rfl r2 (by decide) (fun c => ?_) (fun c => ?_)
    · have h := h.1 c
      rw [if_pos c] at k
      refine z_iconst (pc' := 16) dX12_gone_15 rfl ?_
      refine z_istore_n (pc' := 17) (ls' := [(0, zR 0), (1, zI a0), (2, zI a1), (3, zI 0)]) rfl (by decide) rfl rfl dX12_gone_16 rfl ?_
      refine z_iconst (pc' := 18) dX12_gone_17 rfl ?_
      refine z_istore (pc' := 20) (ls' := [(0, zR 0), (1, zI a0), (2, zI a1), (3, zI 0), (4, zI 0)]) (by decide) rfl rfl dX12_gone_18 rfl ?_
      refine z_upto ((zz_shl 1 (w 0 29)).toNat) (fun i10 => zfind (E_M_gone_20 w a0 a1) i10 = -1 → z_Wp m_X12_gone (d + 2) 20 [(0, zR 0), (1, zI a0), (2, zI a1), (3, zI (A_M_gone_20 w a0 a1 i10)), (4, zI (i10 : Int))] [] w Q) ?_ ?_ rfl
      · intro hf
        rw [if_pos hf] at k
        have h := h.2
        refine z_iload (pc' := 22) 4 rfl dX12_gone_20 rfl ?_
        refine z_iconst (pc' := 23) dX12_gone_22 rfl ?_
        refine z_aload_n (pc' := 24) 0 rfl rfl dX12_gone_23 rfl ?_
        refine z_getI2 (v := w 0 29) (pc' := 27) g_X12_260 (by decide) rfl rfl rfl dX12_gone_24 rfl ?_
        refine z_ishl (pc' := 28) dX12_gone_27 rfl ?_
        obtain ⟨r16, h⟩ := h
        have r17 := h
        refine z_icmp_ge 58 dX12_gone_28 (by decide) (pc' := 31) rfl r16 r17 (fun _ => ?_) (fun c => absurd c (by omega))
        refine z_iload_n (pc' := 59) 2 rfl rfl dX12_gone_58 rfl ?_
        refine z_iconst (pc' := 60) dX12_gone_59 rfl ?_
        refine z_icmp_ne 67 dX12_gone_60 (by decide) (pc' := 63) rfl r2 (by decide) (fun c => ?_) (fun c => ?_)
        · skip
          rw [if_neg c] at k
          refine z_iconst (pc' := 68) dX12_gone_67 rfl ?_
          refine z_iret rfl dX12_gone_68 ?_
          exact k
        · skip
          rw [if_pos c] at k
          refine z_iload_n (pc' := 64) 3 rfl rfl dX12_gone_63 rfl ?_
          refine z_goto 68 dX12_gone_64 (by decide) ?_
          refine z_iret rfl dX12_gone_68 ?_
          exact k
      · intro i10 hi ih hf
        have h := h.1 i10 hi hf
        have ih : zfind (E_M_gone_20 w a0 a1) (i10 + 1) = -1 → z_Wp m_X12_gone (d + 2) 20 [(0, zR 0), (1, zI a0), (2, zI a1), (3, zI (if F_M_areGone w (i10 : Int) a0 = 0 then A_M_gone_20 w a0 a1 i10 else if A_M_gone_20 w a0 a1 i10 = a1 then A_M_gone_20 w a0 a1 i10 else (A_M_gone_20 w a0 a1 i10) + 1)), (4, zI ((i10 + 1 : Nat) : Int))] [] w Q := ih
        have hE : E_M_gone_20 w a0 a1 i10 = (if F_M_areGone w (i10 : Int) a0 = 0 then false else if A_M_gone_20 w a0 a1 i10 = a1 then true else false) := rfl
        refine z_iload (pc' := 22) 4 rfl dX12_gone_20 rfl ?_
        refine z_iconst (pc' := 23) dX12_gone_22 rfl ?_
        refine z_aload_n (pc' := 24) 0 rfl rfl dX12_gone_23 rfl ?_
        refine z_getI2 (v := w 0 29) (pc' := 27) g_X12_260 (by decide) rfl rfl rfl dX12_gone_24 rfl ?_
        refine z_ishl (pc' := 28) dX12_gone_27 rfl ?_
        obtain ⟨r11, h⟩ := h
        obtain ⟨r12, h⟩ := h
        refine z_icmp_ge 58 dX12_gone_28 (by decide) (pc' := 31) rfl r11 r12 (fun c => absurd c (by omega)) (fun _ => ?_)
        refine z_aload_n (pc' := 32) 0 rfl rfl dX12_gone_31 rfl ?_
        refine z_iload (pc' := 34) 4 rfl dX12_gone_32 rfl ?_
        refine z_iload_n (pc' := 35) 1 rfl rfl dX12_gone_34 rfl ?_
        refine z_invV (as := [zI (i10 : Int), zI a0]) (st := []) (C := m_X12_areGone) (fs := [0, 3, 0, 0, 0, 0, 4, 5, 6, 7, 8, 9, 10, 0, 0, 11, 12, 13, 14, 15, 16, 0, 0, 0, 17, 18, 19, 20, 0, 0, 0, 21, 22, 0, 0, 23, 0, 1, 24, 0, 0, 25, 26, 0, 27, 0]) (pc' := 38) dX12_gone_35 rfl t_8_121 k_X12_areGone rfl (by decide) rfl rfl rfl rfl (Nat.le_of_ble_eq_true rfl) ?_
        obtain ⟨r13, h⟩ := h
        refine c_M_areGone r13 ?_
        show z_Wp m_X12_gone _ 38 [(0, zR 0), (1, zI a0), (2, zI a1), (3, zI (A_M_gone_20 w a0 a1 i10)), (4, zI (i10 : Int))] [zI (F_M_areGone w (i10 : Int) a0)] w _
        obtain ⟨r14, h⟩ := h
        refine z_if_eq 52 dX12_gone_38 (by decide) (pc' := 41) rfl r14 (fun c24 => ?_) (fun c24 => ?_)
        · have h := h.1 c24
          rw [if_pos c24] at ih
          rw [if_pos c24] at hE
          refine z_iinc (pc' := 55) (ls' := [(0, zR 0), (1, zI a0), (2, zI a1), (3, zI (A_M_gone_20 w a0 a1 i10)), (4, zI ((i10 : Int) + 1))]) 4 rfl (by decide) rfl rfl dX12_gone_52 rfl ?_
          refine z_goto 20 dX12_gone_55 (by decide) ?_
          exact (ih (zfind_miss hf (by rw [hE]; decide)))
        · have h := h.2 c24
          rw [if_neg c24] at ih
          rw [if_neg c24] at hE
          refine z_iload_n (pc' := 42) 3 rfl rfl dX12_gone_41 rfl ?_
          refine z_iload_n (pc' := 43) 2 rfl rfl dX12_gone_42 rfl ?_
          have r15 := h
          refine z_icmp_ne 49 dX12_gone_43 (by decide) (pc' := 46) rfl r15 r2 (fun c25 => ?_) (fun c25 => ?_)
          · skip
            rw [if_neg c25] at ih
            rw [if_neg c25] at hE
            refine z_iinc (pc' := 52) (ls' := [(0, zR 0), (1, zI a0), (2, zI a1), (3, zI ((A_M_gone_20 w a0 a1 i10) + 1)), (4, zI (i10 : Int))]) 3 rfl (by decide) rfl rfl dX12_gone_49 rfl ?_
            refine z_iinc (pc' := 55) (ls' := [(0, zR 0), (1, zI a0), (2, zI a1), (3, zI ((A_M_gone_20 w a0 a1 i10) + 1)), (4, zI ((i10 : Int) + 1))]) 4 rfl (by decide) rfl rfl dX12_gone_52 rfl ?_
            refine z_goto 20 dX12_gone_55 (by decide) ?_
            exact (ih (zfind_miss hf (by rw [hE]; decide)))
          · skip
            rw [if_pos c25] at ih
            rw [if_pos c25] at hE
            refine z_iload (pc' := 48) 4 rfl dX12_gone_46 rfl ?_
            refine z_iret rfl dX12_gone_48 ?_
            have hz := zfind_hit hf hE _ hi
            rw [hz, if_neg (by omega), Int.toNat_natCast] at k
            unfold R_M_gone_20 at k
            rw [if_neg c24] at k
            rw [if_pos c25] at k
            exact k
    · have h := h.2 c
      rw [if_neg c] at k
      refine z_iconst (pc' := 14) dX12_gone_13 rfl ?_
      refine z_iret rfl dX12_gone_14 ?_
      exact k
def A_M_sure_14 (w : z_Wd) (a0 : Int) : Nat → Int
  | 0 => (-1)
  | i6 + 1 => if F_M_areGone w (i6 : Int) a0 = 0 then zz_and (A_M_sure_14 w a0 i6) (-1) else zz_and (A_M_sure_14 w a0 i6) (i6 : Int)
def P_M_sure (w : z_Wd) (a0 : Int) : Prop := (P_M_isAsked w a0) ∧ ((F_M_isAsked w a0 = 0 → True) ∧ (¬ (F_M_isAsked w a0 = 0) → (∀ i6 : Nat, i6 < ((zz_shl 1 (w 0 29)).toNat) → (-2147483648 ≤ (i6 : Int) ∧ (i6 : Int) < 2147483648) ∧ (-2147483648 ≤ zz_shl 1 (w 0 29) ∧ zz_shl 1 (w 0 29) < 2147483648) ∧ (P_M_areGone w (i6 : Int) a0) ∧ (-2147483648 ≤ F_M_areGone w (i6 : Int) a0 ∧ F_M_areGone w (i6 : Int) a0 < 2147483648)) ∧ ((-2147483648 ≤ (((zz_shl 1 (w 0 29)).toNat : Nat) : Int) ∧ (((zz_shl 1 (w 0 29)).toNat : Nat) : Int) < 2147483648) ∧ (-2147483648 ≤ zz_shl 1 (w 0 29) ∧ zz_shl 1 (w 0 29) < 2147483648))))
def F_M_sure (w : z_Wd) (a0 : Int) : Int := if F_M_isAsked w a0 = 0 then (-1) else A_M_sure_14 w a0 (zz_shl 1 (w 0 29)).toNat
set_option maxRecDepth 4000 in
theorem c_M_sure {d : Nat} {w : z_Wd} {a0 : Int} {Q : Option z_V → z_Wd → Prop} (h : P_M_sure w a0) (k : Q (some (zI (F_M_sure w a0))) w) : z_Wc (d + 2) m_X12_sure [zR 0, zI a0] w Q := by
  unfold P_M_sure at h
  unfold F_M_sure at k
  refine z_enter rfl (Nat.le_of_ble_eq_true rfl) ?_
  show z_Wp m_X12_sure _ 0 [(0, zR 0), (1, zI a0)] [] w _
  refine z_aload_n (pc' := 1) 0 rfl rfl dX12_sure_0 rfl ?_
  refine z_iload_n (pc' := 2) 1 rfl rfl dX12_sure_1 rfl ?_
  refine z_invV (as := [zI a0]) (st := []) (C := m_X12_isAsked) (fs := [0, 3, 0, 0, 0, 0, 4, 5, 6, 7, 8, 9, 10, 0, 0, 11, 12, 13, 14, 15, 16, 0, 0, 0, 17, 18, 19, 20, 0, 0, 0, 21, 22, 0, 0, 23, 0, 1, 24, 0, 0, 25, 26, 0, 27, 0]) (pc' := 5) dX12_sure_2 rfl t_8_117 k_X12_isAsked rfl (by decide) rfl rfl rfl rfl (Nat.le_of_ble_eq_true rfl) ?_
  obtain ⟨r1, h⟩ := h
  refine c_M_isAsked r1 ?_
  show z_Wp m_X12_sure _ 5 [(0, zR 0), (1, zI a0)] [zI (F_M_isAsked w a0)] w _
  refine z_if_ne 10 dX12_sure_5 (by decide) (pc' := 8) rfl (z_rb b_M_isAsked) (fun c => ?_) (fun c => ?_)
  · have h := h.2 c
    rw [if_neg c] at k
    refine z_iconst (pc' := 11) dX12_sure_10 rfl ?_
    refine z_istore_n (pc' := 12) (ls' := [(0, zR 0), (1, zI a0), (2, zI (-1))]) rfl (by decide) rfl rfl dX12_sure_11 rfl ?_
    refine z_iconst (pc' := 13) dX12_sure_12 rfl ?_
    refine z_istore_n (pc' := 14) (ls' := [(0, zR 0), (1, zI a0), (2, zI (-1)), (3, zI 0)]) rfl (by decide) rfl rfl dX12_sure_13 rfl ?_
    refine z_upto ((zz_shl 1 (w 0 29)).toNat) (fun i6 => z_Wp m_X12_sure (d + 2) 14 [(0, zR 0), (1, zI a0), (2, zI (A_M_sure_14 w a0 i6)), (3, zI (i6 : Int))] [] w Q) ?_ ?_
    · skip
      have h := h.2
      refine z_iload_n (pc' := 15) 3 rfl rfl dX12_sure_14 rfl ?_
      refine z_iconst (pc' := 16) dX12_sure_15 rfl ?_
      refine z_aload_n (pc' := 17) 0 rfl rfl dX12_sure_16 rfl ?_
      refine z_getI2 (v := w 0 29) (pc' := 20) g_X12_260 (by decide) rfl rfl rfl dX12_sure_17 rfl ?_
      refine z_ishl (pc' := 21) dX12_sure_20 rfl ?_
      obtain ⟨r11, h⟩ := h
      have r12 := h
      refine z_icmp_ge 47 dX12_sure_21 (by decide) (pc' := 24) rfl r11 r12 (fun _ => ?_) (fun c => absurd c (by omega))
      refine z_iload_n (pc' := 48) 2 rfl rfl dX12_sure_47 rfl ?_
      refine z_iret rfl dX12_sure_48 ?_
      exact k
    · intro i6 hi ih
      have h := h.1 i6 hi
      have ih : z_Wp m_X12_sure (d + 2) 14 [(0, zR 0), (1, zI a0), (2, zI (if F_M_areGone w (i6 : Int) a0 = 0 then zz_and (A_M_sure_14 w a0 i6) (-1) else zz_and (A_M_sure_14 w a0 i6) (i6 : Int))), (3, zI ((i6 + 1 : Nat) : Int))] [] w Q := ih
      refine z_iload_n (pc' := 15) 3 rfl rfl dX12_sure_14 rfl ?_
      refine z_iconst (pc' := 16) dX12_sure_15 rfl ?_
      refine z_aload_n (pc' := 17) 0 rfl rfl dX12_sure_16 rfl ?_
      refine z_getI2 (v := w 0 29) (pc' := 20) g_X12_260 (by decide) rfl rfl rfl dX12_sure_17 rfl ?_
      refine z_ishl (pc' := 21) dX12_sure_20 rfl ?_
      obtain ⟨r7, h⟩ := h
      obtain ⟨r8, h⟩ := h
      refine z_icmp_ge 47 dX12_sure_21 (by decide) (pc' := 24) rfl r7 r8 (fun c => absurd c (by omega)) (fun _ => ?_)
      refine z_iload_n (pc' := 25) 2 rfl rfl dX12_sure_24 rfl ?_
      refine z_aload_n (pc' := 26) 0 rfl rfl dX12_sure_25 rfl ?_
      refine z_iload_n (pc' := 27) 3 rfl rfl dX12_sure_26 rfl ?_
      refine z_iload_n (pc' := 28) 1 rfl rfl dX12_sure_27 rfl ?_
      refine z_invV (as := [zI (i6 : Int), zI a0]) (st := [zI (A_M_sure_14 w a0 i6)]) (C := m_X12_areGone) (fs := [0, 3, 0, 0, 0, 0, 4, 5, 6, 7, 8, 9, 10, 0, 0, 11, 12, 13, 14, 15, 16, 0, 0, 0, 17, 18, 19, 20, 0, 0, 0, 21, 22, 0, 0, 23, 0, 1, 24, 0, 0, 25, 26, 0, 27, 0]) (pc' := 31) dX12_sure_28 rfl t_8_121 k_X12_areGone rfl (by decide) rfl rfl rfl rfl (Nat.le_of_ble_eq_true rfl) ?_
      obtain ⟨r9, h⟩ := h
      refine c_M_areGone r9 ?_
      show z_Wp m_X12_sure _ 31 [(0, zR 0), (1, zI a0), (2, zI (A_M_sure_14 w a0 i6)), (3, zI (i6 : Int))] [zI (F_M_areGone w (i6 : Int) a0), zI (A_M_sure_14 w a0 i6)] w _
      have r10 := h
      refine z_if_eq 38 dX12_sure_31 (by decide) (pc' := 34) rfl r10 (fun c26 => ?_) (fun c26 => ?_)
      · skip
        rw [if_pos c26] at ih
        refine z_iconst (pc' := 39) dX12_sure_38 rfl ?_
        refine z_iand (pc' := 40) dX12_sure_39 rfl ?_
        refine z_istore_n (pc' := 41) (ls' := [(0, zR 0), (1, zI a0), (2, zI (zz_and (A_M_sure_14 w a0 i6) (-1))), (3, zI (i6 : Int))]) rfl (by decide) rfl rfl dX12_sure_40 rfl ?_
        refine z_iinc (pc' := 44) (ls' := [(0, zR 0), (1, zI a0), (2, zI (zz_and (A_M_sure_14 w a0 i6) (-1))), (3, zI ((i6 : Int) + 1))]) 3 rfl (by decide) rfl rfl dX12_sure_41 rfl ?_
        refine z_goto 14 dX12_sure_44 (by decide) ?_
        exact ih
      · skip
        rw [if_neg c26] at ih
        refine z_iload_n (pc' := 35) 3 rfl rfl dX12_sure_34 rfl ?_
        refine z_goto 39 dX12_sure_35 (by decide) ?_
        refine z_iand (pc' := 40) dX12_sure_39 rfl ?_
        refine z_istore_n (pc' := 41) (ls' := [(0, zR 0), (1, zI a0), (2, zI (zz_and (A_M_sure_14 w a0 i6) (i6 : Int))), (3, zI (i6 : Int))]) rfl (by decide) rfl rfl dX12_sure_40 rfl ?_
        refine z_iinc (pc' := 44) (ls' := [(0, zR 0), (1, zI a0), (2, zI (zz_and (A_M_sure_14 w a0 i6) (i6 : Int))), (3, zI ((i6 : Int) + 1))]) 3 rfl (by decide) rfl rfl dX12_sure_41 rfl ?_
        refine z_goto 14 dX12_sure_44 (by decide) ?_
        exact ih
  · have h := h.1 c
    rw [if_pos c] at k
    refine z_iconst (pc' := 9) dX12_sure_8 rfl ?_
    refine z_iret rfl dX12_sure_9 ?_
    exact k
def A_M_mostOfSort_17 (w : z_Wd) (a0 : Int) (a1 : Int) (i20 : Nat) (s0 : Int): Nat → Int
  | 0 => 0
  | i30 + 1 => if F_M_areGone w (i30 : Int) a1 = 0 then A_M_mostOfSort_17 w a0 a1 i20 s0 i30 else if F_M_gapsBy w a0 (i30 : Int) = (i20 : Int) then (A_M_mostOfSort_17 w a0 a1 i20 s0 i30) + 1 else A_M_mostOfSort_17 w a0 a1 i20 s0 i30
def A_M_mostOfSort_5 (w : z_Wd) (a0 : Int) (a1 : Int) : Nat → Int
  | 0 => 0
  | i20 + 1 => F_J_max_7cf53 w (A_M_mostOfSort_5 w a0 a1 i20) (A_M_mostOfSort_17 w a0 a1 i20 (A_M_mostOfSort_5 w a0 a1 i20) (zz_shl 1 (w 0 29)).toNat)
def P_M_mostOfSort (w : z_Wd) (a0 : Int) (a1 : Int) : Prop := (∀ i20 : Nat, i20 < 3 → (-2147483648 ≤ (i20 : Int) ∧ (i20 : Int) < 2147483648) ∧ ((∀ i30 : Nat, i30 < ((zz_shl 1 (w 0 29)).toNat) → (-2147483648 ≤ (i30 : Int) ∧ (i30 : Int) < 2147483648) ∧ (-2147483648 ≤ zz_shl 1 (w 0 29) ∧ zz_shl 1 (w 0 29) < 2147483648) ∧ (P_M_areGone w (i30 : Int) a1) ∧ (-2147483648 ≤ F_M_areGone w (i30 : Int) a1 ∧ F_M_areGone w (i30 : Int) a1 < 2147483648) ∧ ((F_M_areGone w (i30 : Int) a1 = 0 → True) ∧ (¬ (F_M_areGone w (i30 : Int) a1 = 0) → (P_M_gapsBy w a0 (i30 : Int)) ∧ (-2147483648 ≤ F_M_gapsBy w a0 (i30 : Int) ∧ F_M_gapsBy w a0 (i30 : Int) < 2147483648)))) ∧ ((-2147483648 ≤ (((zz_shl 1 (w 0 29)).toNat : Nat) : Int) ∧ (((zz_shl 1 (w 0 29)).toNat : Nat) : Int) < 2147483648) ∧ (-2147483648 ≤ zz_shl 1 (w 0 29) ∧ zz_shl 1 (w 0 29) < 2147483648) ∧ (P_J_max_7cf53 w (A_M_mostOfSort_5 w a0 a1 i20) (A_M_mostOfSort_17 w a0 a1 i20 (A_M_mostOfSort_5 w a0 a1 i20) (zz_shl 1 (w 0 29)).toNat))))) ∧ (True)
def F_M_mostOfSort (w : z_Wd) (a0 : Int) (a1 : Int) : Int := A_M_mostOfSort_5 w a0 a1 3
set_option maxRecDepth 4000 in
theorem c_M_mostOfSort {d : Nat} {w : z_Wd} {a0 a1 : Int} {Q : Option z_V → z_Wd → Prop} (h : P_M_mostOfSort w a0 a1) (k : Q (some (zI (F_M_mostOfSort w a0 a1))) w) : z_Wc (d + 2) m_X12_mostOfSort [zR 0, zI a0, zI a1] w Q := by
  unfold P_M_mostOfSort at h
  unfold F_M_mostOfSort at k
  refine z_enter rfl (Nat.le_of_ble_eq_true rfl) ?_
  show z_Wp m_X12_mostOfSort _ 0 [(0, zR 0), (1, zI a0), (2, zI a1)] [] w _
  refine z_iconst (pc' := 1) dX12_mostOfSort_0 rfl ?_
  refine z_istore_n (pc' := 2) (ls' := [(0, zR 0), (1, zI a0), (2, zI a1), (3, zI 0)]) rfl (by decide) rfl rfl dX12_mostOfSort_1 rfl ?_
  refine z_iconst (pc' := 3) dX12_mostOfSort_2 rfl ?_
  refine z_istore (pc' := 5) (ls' := [(0, zR 0), (1, zI a0), (2, zI a1), (3, zI 0), (4, zI 0)]) (by decide) rfl rfl dX12_mostOfSort_3 rfl ?_
  refine z_upto 3 (fun i20 => z_Wp m_X12_mostOfSort (d + 2) 5 [(0, zR 0), (1, zI a0), (2, zI a1), (3, zI (A_M_mostOfSort_5 w a0 a1 i20)), (4, zI (i20 : Int))] [] w Q) ?_ ?_
  · skip
    have h := h.2
    refine z_iload (pc' := 7) 4 rfl dX12_mostOfSort_5 rfl ?_
    refine z_iconst (pc' := 8) dX12_mostOfSort_7 rfl ?_
    refine z_icmp_ge 79 dX12_mostOfSort_8 (by decide) (pc' := 11) rfl (by decide) (by decide) (fun _ => ?_) (fun c => absurd c (by decide))
    refine z_iload_n (pc' := 80) 3 rfl rfl dX12_mostOfSort_79 rfl ?_
    refine z_iret rfl dX12_mostOfSort_80 ?_
    exact k
  · intro i20 hi ih
    have h := h.1 i20 hi
    have ih : z_Wp m_X12_mostOfSort (d + 2) 5 [(0, zR 0), (1, zI a0), (2, zI a1), (3, zI (F_J_max_7cf53 w (A_M_mostOfSort_5 w a0 a1 i20) (A_M_mostOfSort_17 w a0 a1 i20 (A_M_mostOfSort_5 w a0 a1 i20) (zz_shl 1 (w 0 29)).toNat))), (4, zI ((i20 + 1 : Nat) : Int))] [] w Q := ih
    refine z_iload (pc' := 7) 4 rfl dX12_mostOfSort_5 rfl ?_
    refine z_iconst (pc' := 8) dX12_mostOfSort_7 rfl ?_
    obtain ⟨r21, h⟩ := h
    refine z_icmp_ge 79 dX12_mostOfSort_8 (by decide) (pc' := 11) rfl r21 (by decide) (fun c => absurd c (by omega)) (fun _ => ?_)
    refine z_iconst (pc' := 12) dX12_mostOfSort_11 rfl ?_
    refine z_istore (pc' := 14) (ls' := [(0, zR 0), (1, zI a0), (2, zI a1), (3, zI (A_M_mostOfSort_5 w a0 a1 i20)), (4, zI (i20 : Int)), (5, zI 0)]) (by decide) rfl rfl dX12_mostOfSort_12 rfl ?_
    refine z_iconst (pc' := 15) dX12_mostOfSort_14 rfl ?_
    refine z_istore (pc' := 17) (ls' := [(0, zR 0), (1, zI a0), (2, zI a1), (3, zI (A_M_mostOfSort_5 w a0 a1 i20)), (4, zI (i20 : Int)), (5, zI 0), (6, zI 0)]) (by decide) rfl rfl dX12_mostOfSort_15 rfl ?_
    refine z_upto ((zz_shl 1 (w 0 29)).toNat) (fun i30 => z_Wp m_X12_mostOfSort (d + 2) 17 [(0, zR 0), (1, zI a0), (2, zI a1), (3, zI (A_M_mostOfSort_5 w a0 a1 i20)), (4, zI (i20 : Int)), (5, zI (A_M_mostOfSort_17 w a0 a1 i20 (A_M_mostOfSort_5 w a0 a1 i20) i30)), (6, zI (i30 : Int))] [] w Q) ?_ ?_
    · skip
      have h := h.2
      refine z_iload (pc' := 19) 6 rfl dX12_mostOfSort_17 rfl ?_
      refine z_iconst (pc' := 20) dX12_mostOfSort_19 rfl ?_
      refine z_aload_n (pc' := 21) 0 rfl rfl dX12_mostOfSort_20 rfl ?_
      refine z_getI2 (v := w 0 29) (pc' := 24) g_X12_260 (by decide) rfl rfl rfl dX12_mostOfSort_21 rfl ?_
      refine z_ishl (pc' := 25) dX12_mostOfSort_24 rfl ?_
      obtain ⟨r37, h⟩ := h
      obtain ⟨r38, h⟩ := h
      refine z_icmp_ge 66 dX12_mostOfSort_25 (by decide) (pc' := 28) rfl r37 r38 (fun _ => ?_) (fun c => absurd c (by omega))
      refine z_iload_n (pc' := 67) 3 rfl rfl dX12_mostOfSort_66 rfl ?_
      refine z_iload (pc' := 69) 5 rfl dX12_mostOfSort_67 rfl ?_
      refine z_invS (as := [zI (A_M_mostOfSort_5 w a0 a1 i20), zI (A_M_mostOfSort_17 w a0 a1 i20 (A_M_mostOfSort_5 w a0 a1 i20) (zz_shl 1 (w 0 29)).toNat)]) (st := []) (C := m_J9_max_7cf53) (pc' := 72) dX12_mostOfSort_69 rfl t_7_186 k_J9_max_7cf53 rfl rfl (Nat.le_of_ble_eq_true rfl) ?_
      have r39 := h
      refine c_J_max_7cf53 r39 ?_
      show z_Wp m_X12_mostOfSort _ 72 [(0, zR 0), (1, zI a0), (2, zI a1), (3, zI (A_M_mostOfSort_5 w a0 a1 i20)), (4, zI (i20 : Int)), (5, zI (A_M_mostOfSort_17 w a0 a1 i20 (A_M_mostOfSort_5 w a0 a1 i20) (zz_shl 1 (w 0 29)).toNat)), (6, zI (((zz_shl 1 (w 0 29)).toNat : Nat) : Int))] [zI (F_J_max_7cf53 w (A_M_mostOfSort_5 w a0 a1 i20) (A_M_mostOfSort_17 w a0 a1 i20 (A_M_mostOfSort_5 w a0 a1 i20) (zz_shl 1 (w 0 29)).toNat))] w _
      refine z_istore_n (pc' := 73) (ls' := [(0, zR 0), (1, zI a0), (2, zI a1), (3, zI (F_J_max_7cf53 w (A_M_mostOfSort_5 w a0 a1 i20) (A_M_mostOfSort_17 w a0 a1 i20 (A_M_mostOfSort_5 w a0 a1 i20) (zz_shl 1 (w 0 29)).toNat))), (4, zI (i20 : Int)), (5, zI (A_M_mostOfSort_17 w a0 a1 i20 (A_M_mostOfSort_5 w a0 a1 i20) (zz_shl 1 (w 0 29)).toNat)), (6, zI (((zz_shl 1 (w 0 29)).toNat : Nat) : Int))]) rfl (by decide) rfl rfl dX12_mostOfSort_72 rfl ?_
      refine z_iinc (pc' := 76) (ls' := [(0, zR 0), (1, zI a0), (2, zI a1), (3, zI (F_J_max_7cf53 w (A_M_mostOfSort_5 w a0 a1 i20) (A_M_mostOfSort_17 w a0 a1 i20 (A_M_mostOfSort_5 w a0 a1 i20) (zz_shl 1 (w 0 29)).toNat))), (4, zI ((i20 : Int) + 1)), (5, zI (A_M_mostOfSort_17 w a0 a1 i20 (A_M_mostOfSort_5 w a0 a1 i20) (zz_shl 1 (w 0 29)).toNat)), (6, zI (((zz_shl 1 (w 0 29)).toNat : Nat) : Int))]) 4 rfl (by decide) rfl rfl dX12_mostOfSort_73 rfl ?_
      refine z_goto 5 dX12_mostOfSort_76 (by decide) ?_
      exact z_Wp.sub (ls' := [(0, zR 0), (1, zI a0), (2, zI a1), (3, zI (F_J_max_7cf53 w (A_M_mostOfSort_5 w a0 a1 i20) (A_M_mostOfSort_17 w a0 a1 i20 (A_M_mostOfSort_5 w a0 a1 i20) (zz_shl 1 (w 0 29)).toNat))), (4, zI ((i20 : Int) + 1))]) (z_lcast (by rw [z_c0 i20]) ih) (z_sub_of [0, 1, 2, 3, 4] rfl)
    · intro i30 hi ih
      have h := h.1 i30 hi
      have ih : z_Wp m_X12_mostOfSort (d + 2) 17 [(0, zR 0), (1, zI a0), (2, zI a1), (3, zI (A_M_mostOfSort_5 w a0 a1 i20)), (4, zI (i20 : Int)), (5, zI (if F_M_areGone w (i30 : Int) a1 = 0 then A_M_mostOfSort_17 w a0 a1 i20 (A_M_mostOfSort_5 w a0 a1 i20) i30 else if F_M_gapsBy w a0 (i30 : Int) = (i20 : Int) then (A_M_mostOfSort_17 w a0 a1 i20 (A_M_mostOfSort_5 w a0 a1 i20) i30) + 1 else A_M_mostOfSort_17 w a0 a1 i20 (A_M_mostOfSort_5 w a0 a1 i20) i30)), (6, zI ((i30 + 1 : Nat) : Int))] [] w Q := ih
      refine z_iload (pc' := 19) 6 rfl dX12_mostOfSort_17 rfl ?_
      refine z_iconst (pc' := 20) dX12_mostOfSort_19 rfl ?_
      refine z_aload_n (pc' := 21) 0 rfl rfl dX12_mostOfSort_20 rfl ?_
      refine z_getI2 (v := w 0 29) (pc' := 24) g_X12_260 (by decide) rfl rfl rfl dX12_mostOfSort_21 rfl ?_
      refine z_ishl (pc' := 25) dX12_mostOfSort_24 rfl ?_
      obtain ⟨r31, h⟩ := h
      obtain ⟨r32, h⟩ := h
      refine z_icmp_ge 66 dX12_mostOfSort_25 (by decide) (pc' := 28) rfl r31 r32 (fun c => absurd c (by omega)) (fun _ => ?_)
      refine z_iload (pc' := 30) 5 rfl dX12_mostOfSort_28 rfl ?_
      refine z_aload_n (pc' := 31) 0 rfl rfl dX12_mostOfSort_30 rfl ?_
      refine z_iload (pc' := 33) 6 rfl dX12_mostOfSort_31 rfl ?_
      refine z_iload_n (pc' := 34) 2 rfl rfl dX12_mostOfSort_33 rfl ?_
      refine z_invV (as := [zI (i30 : Int), zI a1]) (st := [zI (A_M_mostOfSort_17 w a0 a1 i20 (A_M_mostOfSort_5 w a0 a1 i20) i30)]) (C := m_X12_areGone) (fs := [0, 3, 0, 0, 0, 0, 4, 5, 6, 7, 8, 9, 10, 0, 0, 11, 12, 13, 14, 15, 16, 0, 0, 0, 17, 18, 19, 20, 0, 0, 0, 21, 22, 0, 0, 23, 0, 1, 24, 0, 0, 25, 26, 0, 27, 0]) (pc' := 37) dX12_mostOfSort_34 rfl t_8_121 k_X12_areGone rfl (by decide) rfl rfl rfl rfl (Nat.le_of_ble_eq_true rfl) ?_
      obtain ⟨r33, h⟩ := h
      refine c_M_areGone r33 ?_
      show z_Wp m_X12_mostOfSort _ 37 [(0, zR 0), (1, zI a0), (2, zI a1), (3, zI (A_M_mostOfSort_5 w a0 a1 i20)), (4, zI (i20 : Int)), (5, zI (A_M_mostOfSort_17 w a0 a1 i20 (A_M_mostOfSort_5 w a0 a1 i20) i30)), (6, zI (i30 : Int))] [zI (F_M_areGone w (i30 : Int) a1), zI (A_M_mostOfSort_17 w a0 a1 i20 (A_M_mostOfSort_5 w a0 a1 i20) i30)] w _
      obtain ⟨r34, h⟩ := h
      refine z_if_eq 56 dX12_mostOfSort_37 (by decide) (pc' := 40) rfl r34 (fun c27 => ?_) (fun c27 => ?_)
      · have h := h.1 c27
        rw [if_pos c27] at ih
        refine z_iconst (pc' := 57) dX12_mostOfSort_56 rfl ?_
        refine z_iadd (pc' := 58) dX12_mostOfSort_57 rfl ?_
        refine z_eqI (y := A_M_mostOfSort_17 w a0 a1 i20 (A_M_mostOfSort_5 w a0 a1 i20) i30) (by omega) ?_
        refine z_istore (pc' := 60) (ls' := [(0, zR 0), (1, zI a0), (2, zI a1), (3, zI (A_M_mostOfSort_5 w a0 a1 i20)), (4, zI (i20 : Int)), (5, zI (A_M_mostOfSort_17 w a0 a1 i20 (A_M_mostOfSort_5 w a0 a1 i20) i30)), (6, zI (i30 : Int))]) (by decide) rfl rfl dX12_mostOfSort_58 rfl ?_
        refine z_iinc (pc' := 63) (ls' := [(0, zR 0), (1, zI a0), (2, zI a1), (3, zI (A_M_mostOfSort_5 w a0 a1 i20)), (4, zI (i20 : Int)), (5, zI (A_M_mostOfSort_17 w a0 a1 i20 (A_M_mostOfSort_5 w a0 a1 i20) i30)), (6, zI ((i30 : Int) + 1))]) 6 rfl (by decide) rfl rfl dX12_mostOfSort_60 rfl ?_
        refine z_goto 17 dX12_mostOfSort_63 (by decide) ?_
        exact ih
      · have h := h.2 c27
        rw [if_neg c27] at ih
        refine z_aload_n (pc' := 41) 0 rfl rfl dX12_mostOfSort_40 rfl ?_
        refine z_iload_n (pc' := 42) 1 rfl rfl dX12_mostOfSort_41 rfl ?_
        refine z_iload (pc' := 44) 6 rfl dX12_mostOfSort_42 rfl ?_
        refine z_invV (as := [zI a0, zI (i30 : Int)]) (st := [zI (A_M_mostOfSort_17 w a0 a1 i20 (A_M_mostOfSort_5 w a0 a1 i20) i30)]) (C := m_X12_gapsBy) (fs := [0, 3, 0, 0, 0, 0, 4, 5, 6, 7, 8, 9, 10, 0, 0, 11, 12, 13, 14, 15, 16, 0, 0, 0, 17, 18, 19, 20, 0, 0, 0, 21, 22, 0, 0, 23, 0, 1, 24, 0, 0, 25, 26, 0, 27, 0]) (pc' := 47) dX12_mostOfSort_44 rfl t_7_211 k_X12_gapsBy rfl (by decide) rfl rfl rfl rfl (Nat.le_of_ble_eq_true rfl) ?_
        obtain ⟨r35, h⟩ := h
        refine c_M_gapsBy r35 ?_
        show z_Wp m_X12_mostOfSort _ 47 [(0, zR 0), (1, zI a0), (2, zI a1), (3, zI (A_M_mostOfSort_5 w a0 a1 i20)), (4, zI (i20 : Int)), (5, zI (A_M_mostOfSort_17 w a0 a1 i20 (A_M_mostOfSort_5 w a0 a1 i20) i30)), (6, zI (i30 : Int))] [zI (F_M_gapsBy w a0 (i30 : Int)), zI (A_M_mostOfSort_17 w a0 a1 i20 (A_M_mostOfSort_5 w a0 a1 i20) i30)] w _
        refine z_iload (pc' := 49) 4 rfl dX12_mostOfSort_47 rfl ?_
        have r36 := h
        refine z_icmp_ne 56 dX12_mostOfSort_49 (by decide) (pc' := 52) rfl r36 r21 (fun c28 => ?_) (fun c28 => ?_)
        · skip
          rw [if_neg c28] at ih
          refine z_iconst (pc' := 57) dX12_mostOfSort_56 rfl ?_
          refine z_iadd (pc' := 58) dX12_mostOfSort_57 rfl ?_
          refine z_eqI (y := A_M_mostOfSort_17 w a0 a1 i20 (A_M_mostOfSort_5 w a0 a1 i20) i30) (by omega) ?_
          refine z_istore (pc' := 60) (ls' := [(0, zR 0), (1, zI a0), (2, zI a1), (3, zI (A_M_mostOfSort_5 w a0 a1 i20)), (4, zI (i20 : Int)), (5, zI (A_M_mostOfSort_17 w a0 a1 i20 (A_M_mostOfSort_5 w a0 a1 i20) i30)), (6, zI (i30 : Int))]) (by decide) rfl rfl dX12_mostOfSort_58 rfl ?_
          refine z_iinc (pc' := 63) (ls' := [(0, zR 0), (1, zI a0), (2, zI a1), (3, zI (A_M_mostOfSort_5 w a0 a1 i20)), (4, zI (i20 : Int)), (5, zI (A_M_mostOfSort_17 w a0 a1 i20 (A_M_mostOfSort_5 w a0 a1 i20) i30)), (6, zI ((i30 : Int) + 1))]) 6 rfl (by decide) rfl rfl dX12_mostOfSort_60 rfl ?_
          refine z_goto 17 dX12_mostOfSort_63 (by decide) ?_
          exact ih
        · skip
          rw [if_pos c28] at ih
          refine z_iconst (pc' := 53) dX12_mostOfSort_52 rfl ?_
          refine z_goto 57 dX12_mostOfSort_53 (by decide) ?_
          refine z_iadd (pc' := 58) dX12_mostOfSort_57 rfl ?_
          refine z_istore (pc' := 60) (ls' := [(0, zR 0), (1, zI a0), (2, zI a1), (3, zI (A_M_mostOfSort_5 w a0 a1 i20)), (4, zI (i20 : Int)), (5, zI ((A_M_mostOfSort_17 w a0 a1 i20 (A_M_mostOfSort_5 w a0 a1 i20) i30) + 1)), (6, zI (i30 : Int))]) (by decide) rfl rfl dX12_mostOfSort_58 rfl ?_
          refine z_iinc (pc' := 63) (ls' := [(0, zR 0), (1, zI a0), (2, zI a1), (3, zI (A_M_mostOfSort_5 w a0 a1 i20)), (4, zI (i20 : Int)), (5, zI ((A_M_mostOfSort_17 w a0 a1 i20 (A_M_mostOfSort_5 w a0 a1 i20) i30) + 1)), (6, zI ((i30 : Int) + 1))]) 6 rfl (by decide) rfl rfl dX12_mostOfSort_60 rfl ?_
          refine z_goto 17 dX12_mostOfSort_63 (by decide) ?_
          exact ih
def A_M_ask_27 (w : z_Wd) (a0 : Int) : Nat → Int × Int
  | 0 => ((-1), 0)
  | i10 + 1 => if (A_M_ask_27 w a0 i10).1 = (-1) then ((i10 : Int), F_M_mostOfSort w (i10 : Int) a0) else if F_M_mostOfSort w (i10 : Int) a0 ≥ (A_M_ask_27 w a0 i10).2 then ((A_M_ask_27 w a0 i10).1, (A_M_ask_27 w a0 i10).2) else ((i10 : Int), F_M_mostOfSort w (i10 : Int) a0)
def P_M_ask (w : z_Wd) (a0 : Int) : Prop := (P_M_isAsked w a0) ∧ ((F_M_isAsked w a0 = 0 → True) ∧ (¬ (F_M_isAsked w a0 = 0) → (P_M_gone w a0 0) ∧ (-2147483648 ≤ F_M_gone w a0 0 ∧ F_M_gone w a0 0 < 2147483648) ∧ ((F_M_gone w a0 0 = (-1) → True) ∧ (¬ (F_M_gone w a0 0 = (-1)) → (∀ i10 : Nat, i10 < ((w 0 30).toNat) → (-2147483648 ≤ (i10 : Int) ∧ (i10 : Int) < 2147483648) ∧ (-2147483648 ≤ w 0 30 ∧ w 0 30 < 2147483648) ∧ (P_M_mostOfSort w (i10 : Int) a0) ∧ (-2147483648 ≤ (A_M_ask_27 w a0 i10).1 ∧ (A_M_ask_27 w a0 i10).1 < 2147483648) ∧ (((A_M_ask_27 w a0 i10).1 = (-1) → True) ∧ (¬ ((A_M_ask_27 w a0 i10).1 = (-1)) → (-2147483648 ≤ F_M_mostOfSort w (i10 : Int) a0 ∧ F_M_mostOfSort w (i10 : Int) a0 < 2147483648) ∧ (-2147483648 ≤ (A_M_ask_27 w a0 i10).2 ∧ (A_M_ask_27 w a0 i10).2 < 2147483648)))) ∧ ((-2147483648 ≤ (((w 0 30).toNat : Nat) : Int) ∧ (((w 0 30).toNat : Nat) : Int) < 2147483648) ∧ (-2147483648 ≤ w 0 30 ∧ w 0 30 < 2147483648))))))
def F_M_ask (w : z_Wd) (a0 : Int) : Int := if F_M_isAsked w a0 = 0 then (-1) else if F_M_gone w a0 0 = (-1) then (-1) else (A_M_ask_27 w a0 (w 0 30).toNat).1
set_option maxRecDepth 4000 in
theorem c_M_ask {d : Nat} {w : z_Wd} {a0 : Int} {Q : Option z_V → z_Wd → Prop} (h : P_M_ask w a0) (k : Q (some (zI (F_M_ask w a0))) w) : z_Wc (d + 3) m_X12_ask [zR 0, zI a0] w Q := by
  unfold P_M_ask at h
  unfold F_M_ask at k
  refine z_enter rfl (Nat.le_of_ble_eq_true rfl) ?_
  show z_Wp m_X12_ask _ 0 [(0, zR 0), (1, zI a0)] [] w _
  refine z_aload_n (pc' := 1) 0 rfl rfl dX12_ask_0 rfl ?_
  refine z_iload_n (pc' := 2) 1 rfl rfl dX12_ask_1 rfl ?_
  refine z_invV (as := [zI a0]) (st := []) (C := m_X12_isAsked) (fs := [0, 3, 0, 0, 0, 0, 4, 5, 6, 7, 8, 9, 10, 0, 0, 11, 12, 13, 14, 15, 16, 0, 0, 0, 17, 18, 19, 20, 0, 0, 0, 21, 22, 0, 0, 23, 0, 1, 24, 0, 0, 25, 26, 0, 27, 0]) (pc' := 5) dX12_ask_2 rfl t_8_117 k_X12_isAsked rfl (by decide) rfl rfl rfl rfl (Nat.le_of_ble_eq_true rfl) ?_
  obtain ⟨r1, h⟩ := h
  refine c_M_isAsked r1 ?_
  show z_Wp m_X12_ask _ 5 [(0, zR 0), (1, zI a0)] [zI (F_M_isAsked w a0)] w _
  refine z_if_eq 18 dX12_ask_5 (by decide) (pc' := 8) rfl (z_rb b_M_isAsked) (fun c => ?_) (fun c => ?_)
  · have h := h.1 c
    rw [if_pos c] at k
    refine z_iconst (pc' := 19) dX12_ask_18 rfl ?_
    refine z_iret rfl dX12_ask_19 ?_
    exact k
  · have h := h.2 c
    rw [if_neg c] at k
    refine z_aload_n (pc' := 9) 0 rfl rfl dX12_ask_8 rfl ?_
    refine z_iload_n (pc' := 10) 1 rfl rfl dX12_ask_9 rfl ?_
    refine z_iconst (pc' := 11) dX12_ask_10 rfl ?_
    refine z_invV (as := [zI a0, zI 0]) (st := []) (C := m_X12_gone) (fs := [0, 3, 0, 0, 0, 0, 4, 5, 6, 7, 8, 9, 10, 0, 0, 11, 12, 13, 14, 15, 16, 0, 0, 0, 17, 18, 19, 20, 0, 0, 0, 21, 22, 0, 0, 23, 0, 1, 24, 0, 0, 25, 26, 0, 27, 0]) (pc' := 14) dX12_ask_11 rfl t_8_133 k_X12_gone rfl (by decide) rfl rfl rfl rfl (Nat.le_of_ble_eq_true rfl) ?_
    obtain ⟨r2, h⟩ := h
    refine c_M_gone r2 ?_
    show z_Wp m_X12_ask _ 14 [(0, zR 0), (1, zI a0)] [zI (F_M_gone w a0 0)] w _
    refine z_iconst (pc' := 15) dX12_ask_14 rfl ?_
    obtain ⟨r3, h⟩ := h
    refine z_icmp_ne 20 dX12_ask_15 (by decide) (pc' := 18) rfl r3 (by decide) (fun c => ?_) (fun c => ?_)
    · have h := h.2 c
      rw [if_neg c] at k
      refine z_iconst (pc' := 21) dX12_ask_20 rfl ?_
      refine z_istore_n (pc' := 22) (ls' := [(0, zR 0), (1, zI a0), (2, zI (-1))]) rfl (by decide) rfl rfl dX12_ask_21 rfl ?_
      refine z_iconst (pc' := 23) dX12_ask_22 rfl ?_
      refine z_istore_n (pc' := 24) (ls' := [(0, zR 0), (1, zI a0), (2, zI (-1)), (3, zI 0)]) rfl (by decide) rfl rfl dX12_ask_23 rfl ?_
      refine z_iconst (pc' := 25) dX12_ask_24 rfl ?_
      refine z_istore (pc' := 27) (ls' := [(0, zR 0), (1, zI a0), (2, zI (-1)), (3, zI 0), (4, zI 0)]) (by decide) rfl rfl dX12_ask_25 rfl ?_
      refine z_upto ((w 0 30).toNat) (fun i10 => z_Wp m_X12_ask (d + 3) 27 [(0, zR 0), (1, zI a0), (2, zI ((A_M_ask_27 w a0 i10).1)), (3, zI ((A_M_ask_27 w a0 i10).2)), (4, zI (i10 : Int))] [] w Q) ?_ ?_
      · skip
        have h := h.2
        refine z_iload (pc' := 29) 4 rfl dX12_ask_27 rfl ?_
        refine z_aload_n (pc' := 30) 0 rfl rfl dX12_ask_29 rfl ?_
        refine z_getI2 (v := w 0 30) (pc' := 33) g_X12_263 (by decide) rfl rfl rfl dX12_ask_30 rfl ?_
        obtain ⟨r17, h⟩ := h
        have r18 := h
        refine z_icmp_ge 68 dX12_ask_33 (by decide) (pc' := 36) rfl r17 r18 (fun _ => ?_) (fun c => absurd c (by omega))
        refine z_iload_n (pc' := 69) 2 rfl rfl dX12_ask_68 rfl ?_
        refine z_iret rfl dX12_ask_69 ?_
        exact k
      · intro i10 hi ih
        have h := h.1 i10 hi
        have ih : z_Wp m_X12_ask (d + 3) 27 [(0, zR 0), (1, zI a0), (2, zI ((if (A_M_ask_27 w a0 i10).1 = (-1) then ((i10 : Int), F_M_mostOfSort w (i10 : Int) a0) else if F_M_mostOfSort w (i10 : Int) a0 ≥ (A_M_ask_27 w a0 i10).2 then ((A_M_ask_27 w a0 i10).1, (A_M_ask_27 w a0 i10).2) else ((i10 : Int), F_M_mostOfSort w (i10 : Int) a0)).1)), (3, zI ((if (A_M_ask_27 w a0 i10).1 = (-1) then ((i10 : Int), F_M_mostOfSort w (i10 : Int) a0) else if F_M_mostOfSort w (i10 : Int) a0 ≥ (A_M_ask_27 w a0 i10).2 then ((A_M_ask_27 w a0 i10).1, (A_M_ask_27 w a0 i10).2) else ((i10 : Int), F_M_mostOfSort w (i10 : Int) a0)).2)), (4, zI ((i10 + 1 : Nat) : Int))] [] w Q := ih
        refine z_iload (pc' := 29) 4 rfl dX12_ask_27 rfl ?_
        refine z_aload_n (pc' := 30) 0 rfl rfl dX12_ask_29 rfl ?_
        refine z_getI2 (v := w 0 30) (pc' := 33) g_X12_263 (by decide) rfl rfl rfl dX12_ask_30 rfl ?_
        obtain ⟨r11, h⟩ := h
        obtain ⟨r12, h⟩ := h
        refine z_icmp_ge 68 dX12_ask_33 (by decide) (pc' := 36) rfl r11 r12 (fun c => absurd c (by omega)) (fun _ => ?_)
        refine z_aload_n (pc' := 37) 0 rfl rfl dX12_ask_36 rfl ?_
        refine z_iload (pc' := 39) 4 rfl dX12_ask_37 rfl ?_
        refine z_iload_n (pc' := 40) 1 rfl rfl dX12_ask_39 rfl ?_
        refine z_invV (as := [zI (i10 : Int), zI a0]) (st := []) (C := m_X12_mostOfSort) (fs := [0, 3, 0, 0, 0, 0, 4, 5, 6, 7, 8, 9, 10, 0, 0, 11, 12, 13, 14, 15, 16, 0, 0, 0, 17, 18, 19, 20, 0, 0, 0, 21, 22, 0, 0, 23, 0, 1, 24, 0, 0, 25, 26, 0, 27, 0]) (pc' := 43) dX12_ask_40 rfl t_8_134 k_X12_mostOfSort rfl (by decide) rfl rfl rfl rfl (Nat.le_of_ble_eq_true rfl) ?_
        obtain ⟨r13, h⟩ := h
        refine c_M_mostOfSort r13 ?_
        show z_Wp m_X12_ask _ 43 [(0, zR 0), (1, zI a0), (2, zI ((A_M_ask_27 w a0 i10).1)), (3, zI ((A_M_ask_27 w a0 i10).2)), (4, zI (i10 : Int))] [zI (F_M_mostOfSort w (i10 : Int) a0)] w _
        refine z_istore (pc' := 45) (ls' := [(0, zR 0), (1, zI a0), (2, zI ((A_M_ask_27 w a0 i10).1)), (3, zI ((A_M_ask_27 w a0 i10).2)), (4, zI (i10 : Int)), (5, zI (F_M_mostOfSort w (i10 : Int) a0))]) (by decide) rfl rfl dX12_ask_43 rfl ?_
        refine z_iload_n (pc' := 46) 2 rfl rfl dX12_ask_45 rfl ?_
        refine z_iconst (pc' := 47) dX12_ask_46 rfl ?_
        obtain ⟨r14, h⟩ := h
        refine z_icmp_eq 56 dX12_ask_47 (by decide) (pc' := 50) rfl r14 (by decide) (fun c29 => ?_) (fun c29 => ?_)
        · have h := h.1 c29
          rw [if_pos c29] at ih
          refine z_iload (pc' := 58) 4 rfl dX12_ask_56 rfl ?_
          refine z_istore_n (pc' := 59) (ls' := [(0, zR 0), (1, zI a0), (2, zI (i10 : Int)), (3, zI ((A_M_ask_27 w a0 i10).2)), (4, zI (i10 : Int)), (5, zI (F_M_mostOfSort w (i10 : Int) a0))]) rfl (by decide) rfl rfl dX12_ask_58 rfl ?_
          refine z_iload (pc' := 61) 5 rfl dX12_ask_59 rfl ?_
          refine z_istore_n (pc' := 62) (ls' := [(0, zR 0), (1, zI a0), (2, zI (i10 : Int)), (3, zI (F_M_mostOfSort w (i10 : Int) a0)), (4, zI (i10 : Int)), (5, zI (F_M_mostOfSort w (i10 : Int) a0))]) rfl (by decide) rfl rfl dX12_ask_61 rfl ?_
          refine z_iinc (pc' := 65) (ls' := [(0, zR 0), (1, zI a0), (2, zI (i10 : Int)), (3, zI (F_M_mostOfSort w (i10 : Int) a0)), (4, zI ((i10 : Int) + 1)), (5, zI (F_M_mostOfSort w (i10 : Int) a0))]) 4 rfl (by decide) rfl rfl dX12_ask_62 rfl ?_
          refine z_goto 27 dX12_ask_65 (by decide) ?_
          exact z_Wp.sub (ls' := [(0, zR 0), (1, zI a0), (2, zI (i10 : Int)), (3, zI (F_M_mostOfSort w (i10 : Int) a0)), (4, zI ((i10 : Int) + 1))]) (z_lcast (by rw [z_c0 i10]) ih) (z_sub_of [0, 1, 2, 3, 4] rfl)
        · have h := h.2 c29
          rw [if_neg c29] at ih
          refine z_iload (pc' := 52) 5 rfl dX12_ask_50 rfl ?_
          refine z_iload_n (pc' := 53) 3 rfl rfl dX12_ask_52 rfl ?_
          obtain ⟨r15, h⟩ := h
          have r16 := h
          refine z_icmp_ge 62 dX12_ask_53 (by decide) (pc' := 56) rfl r15 r16 (fun c30 => ?_) (fun c30 => ?_)
          · skip
            rw [if_pos c30] at ih
            refine z_iinc (pc' := 65) (ls' := [(0, zR 0), (1, zI a0), (2, zI ((A_M_ask_27 w a0 i10).1)), (3, zI ((A_M_ask_27 w a0 i10).2)), (4, zI ((i10 : Int) + 1)), (5, zI (F_M_mostOfSort w (i10 : Int) a0))]) 4 rfl (by decide) rfl rfl dX12_ask_62 rfl ?_
            refine z_goto 27 dX12_ask_65 (by decide) ?_
            exact z_Wp.sub (ls' := [(0, zR 0), (1, zI a0), (2, zI ((A_M_ask_27 w a0 i10).1)), (3, zI ((A_M_ask_27 w a0 i10).2)), (4, zI ((i10 : Int) + 1))]) (z_lcast (by rw [z_c0 i10]) ih) (z_sub_of [0, 1, 2, 3, 4] rfl)
          · skip
            rw [if_neg c30] at ih
            refine z_iload (pc' := 58) 4 rfl dX12_ask_56 rfl ?_
            refine z_istore_n (pc' := 59) (ls' := [(0, zR 0), (1, zI a0), (2, zI (i10 : Int)), (3, zI ((A_M_ask_27 w a0 i10).2)), (4, zI (i10 : Int)), (5, zI (F_M_mostOfSort w (i10 : Int) a0))]) rfl (by decide) rfl rfl dX12_ask_58 rfl ?_
            refine z_iload (pc' := 61) 5 rfl dX12_ask_59 rfl ?_
            refine z_istore_n (pc' := 62) (ls' := [(0, zR 0), (1, zI a0), (2, zI (i10 : Int)), (3, zI (F_M_mostOfSort w (i10 : Int) a0)), (4, zI (i10 : Int)), (5, zI (F_M_mostOfSort w (i10 : Int) a0))]) rfl (by decide) rfl rfl dX12_ask_61 rfl ?_
            refine z_iinc (pc' := 65) (ls' := [(0, zR 0), (1, zI a0), (2, zI (i10 : Int)), (3, zI (F_M_mostOfSort w (i10 : Int) a0)), (4, zI ((i10 : Int) + 1)), (5, zI (F_M_mostOfSort w (i10 : Int) a0))]) 4 rfl (by decide) rfl rfl dX12_ask_62 rfl ?_
            refine z_goto 27 dX12_ask_65 (by decide) ?_
            exact z_Wp.sub (ls' := [(0, zR 0), (1, zI a0), (2, zI (i10 : Int)), (3, zI (F_M_mostOfSort w (i10 : Int) a0)), (4, zI ((i10 : Int) + 1))]) (z_lcast (by rw [z_c0 i10]) ih) (z_sub_of [0, 1, 2, 3, 4] rfl)
    · have h := h.1 c
      rw [if_pos c] at k
      refine z_iconst (pc' := 19) dX12_ask_18 rfl ?_
      refine z_iret rfl dX12_ask_19 ?_
      exact k
def A_M_rests_24 (w : z_Wd) (a0 : Int) (a1 : Int) (a2 : Int) (a3 : Int) : Nat → Int
  | 0 => 0
  | i8 + 1 => if F_M_isRest w a0 a1 a2 (Int.tdiv (i8 : Int) 10) (Int.tmod (i8 : Int) 10) = 0 then A_M_rests_24 w a0 a1 a2 a3 i8 else if A_M_rests_24 w a0 a1 a2 a3 i8 = a3 then A_M_rests_24 w a0 a1 a2 a3 i8 else (A_M_rests_24 w a0 a1 a2 a3 i8) + 1
def E_M_rests_24 (w : z_Wd) (a0 : Int) (a1 : Int) (a2 : Int) (a3 : Int) (i8 : Nat) : Bool := if F_M_isRest w a0 a1 a2 (Int.tdiv (i8 : Int) 10) (Int.tmod (i8 : Int) 10) = 0 then false else if A_M_rests_24 w a0 a1 a2 a3 i8 = a3 then true else false
def R_M_rests_24 (w : z_Wd) (a0 : Int) (a1 : Int) (a2 : Int) (a3 : Int) (i8 : Nat) : Int := if F_M_isRest w a0 a1 a2 (Int.tdiv (i8 : Int) 10) (Int.tmod (i8 : Int) 10) = 0 then 0 else if A_M_rests_24 w a0 a1 a2 a3 i8 = a3 then (i8 : Int) else 0
def P_M_rests (w : z_Wd) (a0 : Int) (a1 : Int) (a2 : Int) (a3 : Int) : Prop := (P_M_areTwo w a0 a1 a2) ∧ ((F_M_areTwo w a0 a1 a2 = 0 → True) ∧ (¬ (F_M_areTwo w a0 a1 a2 = 0) → (-2147483648 ≤ a3 ∧ a3 < 2147483648) ∧ ((a3 ≥ (-1) → (∀ i8 : Nat, i8 < 100 → zfind (E_M_rests_24 w a0 a1 a2 a3) i8 = -1 → (-2147483648 ≤ (i8 : Int) ∧ (i8 : Int) < 2147483648) ∧ (P_M_isRest w a0 a1 a2 (Int.tdiv (i8 : Int) 10) (Int.tmod (i8 : Int) 10)) ∧ ((F_M_isRest w a0 a1 a2 (Int.tdiv (i8 : Int) 10) (Int.tmod (i8 : Int) 10) = 0 → True) ∧ (¬ (F_M_isRest w a0 a1 a2 (Int.tdiv (i8 : Int) 10) (Int.tmod (i8 : Int) 10) = 0) → -2147483648 ≤ A_M_rests_24 w a0 a1 a2 a3 i8 ∧ A_M_rests_24 w a0 a1 a2 a3 i8 < 2147483648))) ∧ (True)) ∧ (¬ (a3 ≥ (-1)) → True))))
def F_M_rests (w : z_Wd) (a0 : Int) (a1 : Int) (a2 : Int) (a3 : Int) : Int := if F_M_areTwo w a0 a1 a2 = 0 then (-1) else if a3 ≥ (-1) then if zfind (E_M_rests_24 w a0 a1 a2 a3) 100 = -1 then if a3 = (-1) then A_M_rests_24 w a0 a1 a2 a3 100 else (-1) else R_M_rests_24 w a0 a1 a2 a3 (zfind (E_M_rests_24 w a0 a1 a2 a3) 100).toNat else (-1)
set_option maxRecDepth 4000 in
theorem c_M_rests {d : Nat} {w : z_Wd} {a0 a1 a2 a3 : Int} {Q : Option z_V → z_Wd → Prop} (h : P_M_rests w a0 a1 a2 a3) (k : Q (some (zI (F_M_rests w a0 a1 a2 a3))) w) : z_Wc (d + 6) m_X12_rests [zR 0, zI a0, zI a1, zI a2, zI a3] w Q := by
  unfold P_M_rests at h
  unfold F_M_rests at k
  refine z_enter rfl (Nat.le_of_ble_eq_true rfl) ?_
  show z_Wp m_X12_rests _ 0 [(0, zR 0), (1, zI a0), (2, zI a1), (3, zI a2), (4, zI a3)] [] w _
  refine z_aload_n (pc' := 1) 0 rfl rfl dX12_rests_0 rfl ?_
  refine z_iload_n (pc' := 2) 1 rfl rfl dX12_rests_1 rfl ?_
  refine z_iload_n (pc' := 3) 2 rfl rfl dX12_rests_2 rfl ?_
  refine z_iload_n (pc' := 4) 3 rfl rfl dX12_rests_3 rfl ?_
  refine z_invV (as := [zI a0, zI a1, zI a2]) (st := []) (C := m_X12_areTwo) (fs := [0, 3, 0, 0, 0, 0, 4, 5, 6, 7, 8, 9, 10, 0, 0, 11, 12, 13, 14, 15, 16, 0, 0, 0, 17, 18, 19, 20, 0, 0, 0, 21, 22, 0, 0, 23, 0, 1, 24, 0, 0, 25, 26, 0, 27, 0]) (pc' := 7) dX12_rests_4 rfl t_8_142 k_X12_areTwo rfl (by decide) rfl rfl rfl rfl (Nat.le_of_ble_eq_true rfl) ?_
  obtain ⟨r1, h⟩ := h
  refine c_M_areTwo r1 ?_
  show z_Wp m_X12_rests _ 7 [(0, zR 0), (1, zI a0), (2, zI a1), (3, zI a2), (4, zI a3)] [zI (F_M_areTwo w a0 a1 a2)] w _
  refine z_if_eq 16 dX12_rests_7 (by decide) (pc' := 10) rfl (z_rb b_M_areTwo) (fun c => ?_) (fun c => ?_)
  · have h := h.1 c
    rw [if_pos c] at k
    refine z_iconst (pc' := 17) dX12_rests_16 rfl ?_
    refine z_iret rfl dX12_rests_17 ?_
    exact k
  · have h := h.2 c
    rw [if_neg c] at k
    refine z_iload (pc' := 12) 4 rfl dX12_rests_10 rfl ?_
    refine z_iconst (pc' := 13) dX12_rests_12 rfl ?_
    obtain ⟨r2, h⟩ := h
    refine z_icmp_ge 18 dX12_rests_13 (by decide) (pc' := 16) rfl r2 (by decide) (fun c => ?_) (fun c => ?_)
    · have h := h.1 c
      rw [if_pos c] at k
      refine z_iconst (pc' := 19) dX12_rests_18 rfl ?_
      refine z_istore (pc' := 21) (ls' := [(0, zR 0), (1, zI a0), (2, zI a1), (3, zI a2), (4, zI a3), (5, zI 0)]) (by decide) rfl rfl dX12_rests_19 rfl ?_
      refine z_iconst (pc' := 22) dX12_rests_21 rfl ?_
      refine z_istore (pc' := 24) (ls' := [(0, zR 0), (1, zI a0), (2, zI a1), (3, zI a2), (4, zI a3), (5, zI 0), (6, zI 0)]) (by decide) rfl rfl dX12_rests_22 rfl ?_
      refine z_upto 100 (fun i8 => zfind (E_M_rests_24 w a0 a1 a2 a3) i8 = -1 → z_Wp m_X12_rests (d + 6) 24 [(0, zR 0), (1, zI a0), (2, zI a1), (3, zI a2), (4, zI a3), (5, zI (A_M_rests_24 w a0 a1 a2 a3 i8)), (6, zI (i8 : Int))] [] w Q) ?_ ?_ rfl
      · intro hf
        rw [if_pos hf] at k
        have h := h.2
        refine z_iload (pc' := 26) 6 rfl dX12_rests_24 rfl ?_
        refine z_bipush (pc' := 28) (by decide) dX12_rests_26 rfl ?_
        refine z_icmp_ge 70 dX12_rests_28 (by decide) (pc' := 31) rfl (by decide) (by decide) (fun _ => ?_) (fun c => absurd c (by decide))
        refine z_iload (pc' := 72) 4 rfl dX12_rests_70 rfl ?_
        refine z_iconst (pc' := 73) dX12_rests_72 rfl ?_
        refine z_icmp_ne 81 dX12_rests_73 (by decide) (pc' := 76) rfl r2 (by decide) (fun c => ?_) (fun c => ?_)
        · skip
          rw [if_neg c] at k
          refine z_iconst (pc' := 82) dX12_rests_81 rfl ?_
          refine z_iret rfl dX12_rests_82 ?_
          exact k
        · skip
          rw [if_pos c] at k
          refine z_iload (pc' := 78) 5 rfl dX12_rests_76 rfl ?_
          refine z_goto 82 dX12_rests_78 (by decide) ?_
          refine z_iret rfl dX12_rests_82 ?_
          exact k
      · intro i8 hi ih hf
        have h := h.1 i8 hi hf
        have ih : zfind (E_M_rests_24 w a0 a1 a2 a3) (i8 + 1) = -1 → z_Wp m_X12_rests (d + 6) 24 [(0, zR 0), (1, zI a0), (2, zI a1), (3, zI a2), (4, zI a3), (5, zI (if F_M_isRest w a0 a1 a2 (Int.tdiv (i8 : Int) 10) (Int.tmod (i8 : Int) 10) = 0 then A_M_rests_24 w a0 a1 a2 a3 i8 else if A_M_rests_24 w a0 a1 a2 a3 i8 = a3 then A_M_rests_24 w a0 a1 a2 a3 i8 else (A_M_rests_24 w a0 a1 a2 a3 i8) + 1)), (6, zI ((i8 + 1 : Nat) : Int))] [] w Q := ih
        have hE : E_M_rests_24 w a0 a1 a2 a3 i8 = (if F_M_isRest w a0 a1 a2 (Int.tdiv (i8 : Int) 10) (Int.tmod (i8 : Int) 10) = 0 then false else if A_M_rests_24 w a0 a1 a2 a3 i8 = a3 then true else false) := rfl
        refine z_iload (pc' := 26) 6 rfl dX12_rests_24 rfl ?_
        refine z_bipush (pc' := 28) (by decide) dX12_rests_26 rfl ?_
        obtain ⟨r9, h⟩ := h
        refine z_icmp_ge 70 dX12_rests_28 (by decide) (pc' := 31) rfl r9 (by decide) (fun c => absurd c (by omega)) (fun _ => ?_)
        refine z_aload_n (pc' := 32) 0 rfl rfl dX12_rests_31 rfl ?_
        refine z_iload_n (pc' := 33) 1 rfl rfl dX12_rests_32 rfl ?_
        refine z_iload_n (pc' := 34) 2 rfl rfl dX12_rests_33 rfl ?_
        refine z_iload_n (pc' := 35) 3 rfl rfl dX12_rests_34 rfl ?_
        refine z_iload (pc' := 37) 6 rfl dX12_rests_35 rfl ?_
        refine z_bipush (pc' := 39) (by decide) dX12_rests_37 rfl ?_
        refine z_idiv (pc' := 40) r9 (by decide) (by decide) dX12_rests_39 rfl ?_
        refine z_iload (pc' := 42) 6 rfl dX12_rests_40 rfl ?_
        refine z_bipush (pc' := 44) (by decide) dX12_rests_42 rfl ?_
        refine z_irem (pc' := 45) r9 (by decide) (by decide) dX12_rests_44 rfl ?_
        refine z_invV (as := [zI a0, zI a1, zI a2, zI (Int.tdiv (i8 : Int) 10), zI (Int.tmod (i8 : Int) 10)]) (st := []) (C := m_X12_isRest) (fs := [0, 3, 0, 0, 0, 0, 4, 5, 6, 7, 8, 9, 10, 0, 0, 11, 12, 13, 14, 15, 16, 0, 0, 0, 17, 18, 19, 20, 0, 0, 0, 21, 22, 0, 0, 23, 0, 1, 24, 0, 0, 25, 26, 0, 27, 0]) (pc' := 48) dX12_rests_45 rfl t_8_155 k_X12_isRest rfl (by decide) rfl rfl rfl rfl (Nat.le_of_ble_eq_true rfl) ?_
        obtain ⟨r10, h⟩ := h
        refine c_M_isRest r10 ?_
        show z_Wp m_X12_rests _ 48 [(0, zR 0), (1, zI a0), (2, zI a1), (3, zI a2), (4, zI a3), (5, zI (A_M_rests_24 w a0 a1 a2 a3 i8)), (6, zI (i8 : Int))] [zI (F_M_isRest w a0 a1 a2 (Int.tdiv (i8 : Int) 10) (Int.tmod (i8 : Int) 10))] w _
        refine z_if_eq 64 dX12_rests_48 (by decide) (pc' := 51) rfl (z_rb b_M_isRest) (fun c31 => ?_) (fun c31 => ?_)
        · have h := h.1 c31
          rw [if_pos c31] at ih
          rw [if_pos c31] at hE
          refine z_iinc (pc' := 67) (ls' := [(0, zR 0), (1, zI a0), (2, zI a1), (3, zI a2), (4, zI a3), (5, zI (A_M_rests_24 w a0 a1 a2 a3 i8)), (6, zI ((i8 : Int) + 1))]) 6 rfl (by decide) rfl rfl dX12_rests_64 rfl ?_
          refine z_goto 24 dX12_rests_67 (by decide) ?_
          exact (ih (zfind_miss hf (by rw [hE]; decide)))
        · have h := h.2 c31
          rw [if_neg c31] at ih
          rw [if_neg c31] at hE
          refine z_iload (pc' := 53) 5 rfl dX12_rests_51 rfl ?_
          refine z_iload (pc' := 55) 4 rfl dX12_rests_53 rfl ?_
          have r11 := h
          refine z_icmp_ne 61 dX12_rests_55 (by decide) (pc' := 58) rfl r11 r2 (fun c32 => ?_) (fun c32 => ?_)
          · skip
            rw [if_neg c32] at ih
            rw [if_neg c32] at hE
            refine z_iinc (pc' := 64) (ls' := [(0, zR 0), (1, zI a0), (2, zI a1), (3, zI a2), (4, zI a3), (5, zI ((A_M_rests_24 w a0 a1 a2 a3 i8) + 1)), (6, zI (i8 : Int))]) 5 rfl (by decide) rfl rfl dX12_rests_61 rfl ?_
            refine z_iinc (pc' := 67) (ls' := [(0, zR 0), (1, zI a0), (2, zI a1), (3, zI a2), (4, zI a3), (5, zI ((A_M_rests_24 w a0 a1 a2 a3 i8) + 1)), (6, zI ((i8 : Int) + 1))]) 6 rfl (by decide) rfl rfl dX12_rests_64 rfl ?_
            refine z_goto 24 dX12_rests_67 (by decide) ?_
            exact (ih (zfind_miss hf (by rw [hE]; decide)))
          · skip
            rw [if_pos c32] at ih
            rw [if_pos c32] at hE
            refine z_iload (pc' := 60) 6 rfl dX12_rests_58 rfl ?_
            refine z_iret rfl dX12_rests_60 ?_
            have hz := zfind_hit hf hE _ hi
            rw [hz, if_neg (by omega), Int.toNat_natCast] at k
            unfold R_M_rests_24 at k
            rw [if_neg c31] at k
            rw [if_pos c32] at k
            exact k
    · have h := h.2 c
      rw [if_neg c] at k
      refine z_iconst (pc' := 17) dX12_rests_16 rfl ?_
      refine z_iret rfl dX12_rests_17 ?_
      exact k
def A_M_dearest_4 (w : z_Wd)  : Nat → Int
  | 0 => (-1)
  | i9 + 1 => if F_M_isFree w (i9 : Int) = 0 then A_M_dearest_4 w i9 else if A_M_dearest_4 w i9 = (-1) then (i9 : Int) else if F_J_bitCount_0f7a4 w (zz_and (F_M_knownBy w (i9 : Int)) (zz_xor (F_M_drowned w) (-1))) ≤ F_J_bitCount_0f7a4 w (zz_and (F_M_knownBy w (A_M_dearest_4 w i9)) (zz_xor (F_M_drowned w) (-1))) then A_M_dearest_4 w i9 else (i9 : Int)
def P_M_dearest (w : z_Wd)  : Prop := (∀ i9 : Nat, i9 < ((w 0 29).toNat) → (-2147483648 ≤ (i9 : Int) ∧ (i9 : Int) < 2147483648) ∧ (-2147483648 ≤ w 0 29 ∧ w 0 29 < 2147483648) ∧ (P_M_isFree w (i9 : Int)) ∧ ((F_M_isFree w (i9 : Int) = 0 → True) ∧ (¬ (F_M_isFree w (i9 : Int) = 0) → (-2147483648 ≤ A_M_dearest_4 w i9 ∧ A_M_dearest_4 w i9 < 2147483648) ∧ ((A_M_dearest_4 w i9 = (-1) → True) ∧ (¬ (A_M_dearest_4 w i9 = (-1)) → ((P_M_knownBy w (i9 : Int)) ∧ (P_M_drowned w)) ∧ ((P_M_knownBy w (A_M_dearest_4 w i9)) ∧ (P_M_drowned w)) ∧ (-2147483648 ≤ F_J_bitCount_0f7a4 w (zz_and (F_M_knownBy w (i9 : Int)) (zz_xor (F_M_drowned w) (-1))) ∧ F_J_bitCount_0f7a4 w (zz_and (F_M_knownBy w (i9 : Int)) (zz_xor (F_M_drowned w) (-1))) < 2147483648) ∧ (-2147483648 ≤ F_J_bitCount_0f7a4 w (zz_and (F_M_knownBy w (A_M_dearest_4 w i9)) (zz_xor (F_M_drowned w) (-1))) ∧ F_J_bitCount_0f7a4 w (zz_and (F_M_knownBy w (A_M_dearest_4 w i9)) (zz_xor (F_M_drowned w) (-1))) < 2147483648)))))) ∧ ((-2147483648 ≤ (((w 0 29).toNat : Nat) : Int) ∧ (((w 0 29).toNat : Nat) : Int) < 2147483648) ∧ (-2147483648 ≤ w 0 29 ∧ w 0 29 < 2147483648))
def F_M_dearest (w : z_Wd)  : Int := A_M_dearest_4 w (w 0 29).toNat
set_option maxRecDepth 4000 in
theorem c_M_dearest {d : Nat} {w : z_Wd} {Q : Option z_V → z_Wd → Prop} (h : P_M_dearest w ) (k : Q (some (zI (F_M_dearest w ))) w) : z_Wc (d + 6) m_X12_dearest [zR 0] w Q := by
  unfold P_M_dearest at h
  unfold F_M_dearest at k
  refine z_enter rfl (Nat.le_of_ble_eq_true rfl) ?_
  show z_Wp m_X12_dearest _ 0 [(0, zR 0)] [] w _
  refine z_iconst (pc' := 1) dX12_dearest_0 rfl ?_
  refine z_istore_n (pc' := 2) (ls' := [(0, zR 0), (1, zI (-1))]) rfl (by decide) rfl rfl dX12_dearest_1 rfl ?_
  refine z_iconst (pc' := 3) dX12_dearest_2 rfl ?_
  refine z_istore_n (pc' := 4) (ls' := [(0, zR 0), (1, zI (-1)), (2, zI 0)]) rfl (by decide) rfl rfl dX12_dearest_3 rfl ?_
  refine z_upto ((w 0 29).toNat) (fun i9 => z_Wp m_X12_dearest (d + 6) 4 [(0, zR 0), (1, zI (A_M_dearest_4 w i9)), (2, zI (i9 : Int))] [] w Q) ?_ ?_
  · skip
    have h := h.2
    refine z_iload_n (pc' := 5) 2 rfl rfl dX12_dearest_4 rfl ?_
    refine z_aload_n (pc' := 6) 0 rfl rfl dX12_dearest_5 rfl ?_
    refine z_getI2 (v := w 0 29) (pc' := 9) g_X12_260 (by decide) rfl rfl rfl dX12_dearest_6 rfl ?_
    obtain ⟨r18, h⟩ := h
    have r19 := h
    refine z_icmp_ge 50 dX12_dearest_9 (by decide) (pc' := 12) rfl r18 r19 (fun _ => ?_) (fun c => absurd c (by omega))
    refine z_iload_n (pc' := 51) 1 rfl rfl dX12_dearest_50 rfl ?_
    refine z_iret rfl dX12_dearest_51 ?_
    exact k
  · intro i9 hi ih
    have h := h.1 i9 hi
    have ih : z_Wp m_X12_dearest (d + 6) 4 [(0, zR 0), (1, zI (if F_M_isFree w (i9 : Int) = 0 then A_M_dearest_4 w i9 else if A_M_dearest_4 w i9 = (-1) then (i9 : Int) else if F_J_bitCount_0f7a4 w (zz_and (F_M_knownBy w (i9 : Int)) (zz_xor (F_M_drowned w) (-1))) ≤ F_J_bitCount_0f7a4 w (zz_and (F_M_knownBy w (A_M_dearest_4 w i9)) (zz_xor (F_M_drowned w) (-1))) then A_M_dearest_4 w i9 else (i9 : Int))), (2, zI ((i9 + 1 : Nat) : Int))] [] w Q := ih
    refine z_iload_n (pc' := 5) 2 rfl rfl dX12_dearest_4 rfl ?_
    refine z_aload_n (pc' := 6) 0 rfl rfl dX12_dearest_5 rfl ?_
    refine z_getI2 (v := w 0 29) (pc' := 9) g_X12_260 (by decide) rfl rfl rfl dX12_dearest_6 rfl ?_
    obtain ⟨r10, h⟩ := h
    obtain ⟨r11, h⟩ := h
    refine z_icmp_ge 50 dX12_dearest_9 (by decide) (pc' := 12) rfl r10 r11 (fun c => absurd c (by omega)) (fun _ => ?_)
    refine z_aload_n (pc' := 13) 0 rfl rfl dX12_dearest_12 rfl ?_
    refine z_iload_n (pc' := 14) 2 rfl rfl dX12_dearest_13 rfl ?_
    refine z_invV (as := [zI (i9 : Int)]) (st := []) (C := m_X12_isFree) (fs := [0, 3, 0, 0, 0, 0, 4, 5, 6, 7, 8, 9, 10, 0, 0, 11, 12, 13, 14, 15, 16, 0, 0, 0, 17, 18, 19, 20, 0, 0, 0, 21, 22, 0, 0, 23, 0, 1, 24, 0, 0, 25, 26, 0, 27, 0]) (pc' := 17) dX12_dearest_14 rfl t_7_158 k_X12_isFree rfl (by decide) rfl rfl rfl rfl (Nat.le_of_ble_eq_true rfl) ?_
    obtain ⟨r12, h⟩ := h
    refine c_M_isFree r12 ?_
    show z_Wp m_X12_dearest _ 17 [(0, zR 0), (1, zI (A_M_dearest_4 w i9)), (2, zI (i9 : Int))] [zI (F_M_isFree w (i9 : Int))] w _
    refine z_if_eq 42 dX12_dearest_17 (by decide) (pc' := 20) rfl (z_rb b_M_isFree) (fun c33 => ?_) (fun c33 => ?_)
    · have h := h.1 c33
      rw [if_pos c33] at ih
      refine z_iload_n (pc' := 43) 1 rfl rfl dX12_dearest_42 rfl ?_
      refine z_istore_n (pc' := 44) (ls' := [(0, zR 0), (1, zI (A_M_dearest_4 w i9)), (2, zI (i9 : Int))]) rfl (by decide) rfl rfl dX12_dearest_43 rfl ?_
      refine z_iinc (pc' := 47) (ls' := [(0, zR 0), (1, zI (A_M_dearest_4 w i9)), (2, zI ((i9 : Int) + 1))]) 2 rfl (by decide) rfl rfl dX12_dearest_44 rfl ?_
      refine z_goto 4 dX12_dearest_47 (by decide) ?_
      exact ih
    · have h := h.2 c33
      rw [if_neg c33] at ih
      refine z_iload_n (pc' := 21) 1 rfl rfl dX12_dearest_20 rfl ?_
      refine z_iconst (pc' := 22) dX12_dearest_21 rfl ?_
      obtain ⟨r13, h⟩ := h
      refine z_icmp_eq 38 dX12_dearest_22 (by decide) (pc' := 25) rfl r13 (by decide) (fun c34 => ?_) (fun c34 => ?_)
      · have h := h.1 c34
        rw [if_pos c34] at ih
        refine z_iload_n (pc' := 39) 2 rfl rfl dX12_dearest_38 rfl ?_
        refine z_goto 43 dX12_dearest_39 (by decide) ?_
        refine z_istore_n (pc' := 44) (ls' := [(0, zR 0), (1, zI (i9 : Int)), (2, zI (i9 : Int))]) rfl (by decide) rfl rfl dX12_dearest_43 rfl ?_
        refine z_iinc (pc' := 47) (ls' := [(0, zR 0), (1, zI (i9 : Int)), (2, zI ((i9 : Int) + 1))]) 2 rfl (by decide) rfl rfl dX12_dearest_44 rfl ?_
        refine z_goto 4 dX12_dearest_47 (by decide) ?_
        exact ih
      · have h := h.2 c34
        rw [if_neg c34] at ih
        refine z_aload_n (pc' := 26) 0 rfl rfl dX12_dearest_25 rfl ?_
        refine z_iload_n (pc' := 27) 2 rfl rfl dX12_dearest_26 rfl ?_
        refine z_invV (as := [zI (i9 : Int)]) (st := []) (C := m_X12_friendsOf) (fs := [0, 3, 0, 0, 0, 0, 4, 5, 6, 7, 8, 9, 10, 0, 0, 11, 12, 13, 14, 15, 16, 0, 0, 0, 17, 18, 19, 20, 0, 0, 0, 21, 22, 0, 0, 23, 0, 1, 24, 0, 0, 25, 26, 0, 27, 0]) (pc' := 30) dX12_dearest_27 rfl t_7_146 k_X12_friendsOf rfl (by decide) rfl rfl rfl rfl (Nat.le_of_ble_eq_true rfl) ?_
        obtain ⟨r14, h⟩ := h
        refine c_M_friendsOf r14 ?_
        show z_Wp m_X12_dearest _ 30 [(0, zR 0), (1, zI (A_M_dearest_4 w i9)), (2, zI (i9 : Int))] [zI (F_J_bitCount_0f7a4 w (zz_and (F_M_knownBy w (i9 : Int)) (zz_xor (F_M_drowned w) (-1))))] w _
        refine z_aload_n (pc' := 31) 0 rfl rfl dX12_dearest_30 rfl ?_
        refine z_iload_n (pc' := 32) 1 rfl rfl dX12_dearest_31 rfl ?_
        refine z_invV (as := [zI (A_M_dearest_4 w i9)]) (st := [zI (F_J_bitCount_0f7a4 w (zz_and (F_M_knownBy w (i9 : Int)) (zz_xor (F_M_drowned w) (-1))))]) (C := m_X12_friendsOf) (fs := [0, 3, 0, 0, 0, 0, 4, 5, 6, 7, 8, 9, 10, 0, 0, 11, 12, 13, 14, 15, 16, 0, 0, 0, 17, 18, 19, 20, 0, 0, 0, 21, 22, 0, 0, 23, 0, 1, 24, 0, 0, 25, 26, 0, 27, 0]) (pc' := 35) dX12_dearest_32 rfl t_7_146 k_X12_friendsOf rfl (by decide) rfl rfl rfl rfl (Nat.le_of_ble_eq_true rfl) ?_
        obtain ⟨r15, h⟩ := h
        refine c_M_friendsOf r15 ?_
        show z_Wp m_X12_dearest _ 35 [(0, zR 0), (1, zI (A_M_dearest_4 w i9)), (2, zI (i9 : Int))] [zI (F_J_bitCount_0f7a4 w (zz_and (F_M_knownBy w (A_M_dearest_4 w i9)) (zz_xor (F_M_drowned w) (-1)))), zI (F_J_bitCount_0f7a4 w (zz_and (F_M_knownBy w (i9 : Int)) (zz_xor (F_M_drowned w) (-1))))] w _
        obtain ⟨r16, h⟩ := h
        have r17 := h
        refine z_icmp_le 42 dX12_dearest_35 (by decide) (pc' := 38) rfl r16 r17 (fun c35 => ?_) (fun c35 => ?_)
        · skip
          rw [if_pos c35] at ih
          refine z_iload_n (pc' := 43) 1 rfl rfl dX12_dearest_42 rfl ?_
          refine z_istore_n (pc' := 44) (ls' := [(0, zR 0), (1, zI (A_M_dearest_4 w i9)), (2, zI (i9 : Int))]) rfl (by decide) rfl rfl dX12_dearest_43 rfl ?_
          refine z_iinc (pc' := 47) (ls' := [(0, zR 0), (1, zI (A_M_dearest_4 w i9)), (2, zI ((i9 : Int) + 1))]) 2 rfl (by decide) rfl rfl dX12_dearest_44 rfl ?_
          refine z_goto 4 dX12_dearest_47 (by decide) ?_
          exact ih
        · skip
          rw [if_neg c35] at ih
          refine z_iload_n (pc' := 39) 2 rfl rfl dX12_dearest_38 rfl ?_
          refine z_goto 43 dX12_dearest_39 (by decide) ?_
          refine z_istore_n (pc' := 44) (ls' := [(0, zR 0), (1, zI (i9 : Int)), (2, zI (i9 : Int))]) rfl (by decide) rfl rfl dX12_dearest_43 rfl ?_
          refine z_iinc (pc' := 47) (ls' := [(0, zR 0), (1, zI (i9 : Int)), (2, zI ((i9 : Int) + 1))]) 2 rfl (by decide) rfl rfl dX12_dearest_44 rfl ?_
          refine z_goto 4 dX12_dearest_47 (by decide) ?_
          exact ih
def P_M_count (w : z_Wd) (a0 : Int) : Prop := (-2147483648 ≤ a0 ∧ a0 < 2147483648) ∧ ((a0 = 0 → True) ∧ (¬ a0 = 0 → (a0 = 1 → True) ∧ (¬ a0 = 1 → (a0 = 2 → True) ∧ (¬ a0 = 2 → (a0 = 3 → True) ∧ (¬ a0 = 3 → (a0 = 4 → True) ∧ (¬ a0 = 4 → (a0 = 5 → True) ∧ (¬ a0 = 5 → (a0 = 6 → True) ∧ (¬ a0 = 6 → (a0 = 7 → True) ∧ (¬ a0 = 7 → (a0 = 8 → P_M_drowned w) ∧ (¬ a0 = 8 → (a0 = 9 → True) ∧ (¬ a0 = 9 → (a0 = 10 → True) ∧ (¬ a0 = 10 → (a0 = 11 → True) ∧ (¬ a0 = 11 → (a0 = 12 → True) ∧ (¬ a0 = 12 → True))))))))))))))
def F_M_count (w : z_Wd) (a0 : Int) : Int := if a0 = 0 then w 0 29 else if a0 = 1 then w 0 28 else if a0 = 2 then w 0 30 else if a0 = 3 then w 0 13 else if a0 = 4 then w 0 2 else if a0 = 5 then w 0 33 else if a0 = 6 then w 19 38 else if a0 = 7 then w 19 37 else if a0 = 8 then F_M_drowned w else if a0 = 9 then w 0 34 else if a0 = 10 then w 0 43 else if a0 = 11 then w 19 39 else if a0 = 12 then w 0 36 else (-1000000)
set_option maxRecDepth 4000 in
theorem c_M_count {d : Nat} {w : z_Wd} {a0 : Int} {Q : Option z_V → z_Wd → Prop} (h : P_M_count w a0) (k : Q (some (zI (F_M_count w a0))) w) : z_Wc (d + 5) m_X12_count [zR 0, zI a0] w Q := by
  unfold P_M_count at h
  unfold F_M_count at k
  refine z_enter rfl (Nat.le_of_ble_eq_true rfl) ?_
  show z_Wp m_X12_count _ 0 [(0, zR 0), (1, zI a0)] [] w _
  refine z_iload_n (pc' := 1) 1 rfl rfl dX12_count_0 rfl ?_
  obtain ⟨r1, h⟩ := h
  refine z_table dX12_count_1 (by decide) r1 ⟨fun c0 => ⟨68, by decide, ?_⟩, fun c0 => ⟨fun c1 => ⟨73, by decide, ?_⟩, fun c1 => ⟨fun c2 => ⟨78, by decide, ?_⟩, fun c2 => ⟨fun c3 => ⟨83, by decide, ?_⟩, fun c3 => ⟨fun c4 => ⟨88, by decide, ?_⟩, fun c4 => ⟨fun c5 => ⟨93, by decide, ?_⟩, fun c5 => ⟨fun c6 => ⟨98, by decide, ?_⟩, fun c6 => ⟨fun c7 => ⟨106, by decide, ?_⟩, fun c7 => ⟨fun c8 => ⟨114, by decide, ?_⟩, fun c8 => ⟨fun c9 => ⟨119, by decide, ?_⟩, fun c9 => ⟨fun c10 => ⟨124, by decide, ?_⟩, fun c10 => ⟨fun c11 => ⟨129, by decide, ?_⟩, fun c11 => ⟨fun c12 => ⟨137, by decide, ?_⟩, fun c12 => ⟨142, by decide, ?_⟩⟩⟩⟩⟩⟩⟩⟩⟩⟩⟩⟩⟩⟩
  · skip
    have c0 : a0 = 0 := c0
    have h := h.1 c0
    rw [if_pos c0] at k
    refine z_aload_n (pc' := 69) 0 rfl rfl dX12_count_68 rfl ?_
    refine z_getI2 (v := w 0 29) (pc' := 72) g_X12_260 (by decide) rfl rfl rfl dX12_count_69 rfl ?_
    refine z_iret rfl dX12_count_72 ?_
    exact k
  · skip
    have c0 : ¬ a0 = 0 := c0
    have h := h.2 c0
    rw [if_neg c0] at k
    have c1 : a0 = 1 := c1
    have h := h.1 c1
    rw [if_pos c1] at k
    refine z_aload_n (pc' := 74) 0 rfl rfl dX12_count_73 rfl ?_
    refine z_getI2 (v := w 0 28) (pc' := 77) g_X12_257 (by decide) rfl rfl rfl dX12_count_74 rfl ?_
    refine z_iret rfl dX12_count_77 ?_
    exact k
  · skip
    have c0 : ¬ a0 = 0 := c0
    have h := h.2 c0
    rw [if_neg c0] at k
    have c1 : ¬ a0 = 1 := c1
    have h := h.2 c1
    rw [if_neg c1] at k
    have c2 : a0 = 2 := c2
    have h := h.1 c2
    rw [if_pos c2] at k
    refine z_aload_n (pc' := 79) 0 rfl rfl dX12_count_78 rfl ?_
    refine z_getI2 (v := w 0 30) (pc' := 82) g_X12_263 (by decide) rfl rfl rfl dX12_count_79 rfl ?_
    refine z_iret rfl dX12_count_82 ?_
    exact k
  · skip
    have c0 : ¬ a0 = 0 := c0
    have h := h.2 c0
    rw [if_neg c0] at k
    have c1 : ¬ a0 = 1 := c1
    have h := h.2 c1
    rw [if_neg c1] at k
    have c2 : ¬ a0 = 2 := c2
    have h := h.2 c2
    rw [if_neg c2] at k
    have c3 : a0 = 3 := c3
    have h := h.1 c3
    rw [if_pos c3] at k
    refine z_aload_n (pc' := 84) 0 rfl rfl dX12_count_83 rfl ?_
    refine z_getI2 (v := w 0 13) (pc' := 87) g_X12_279 (by decide) rfl rfl rfl dX12_count_84 rfl ?_
    refine z_iret rfl dX12_count_87 ?_
    exact k
  · skip
    have c0 : ¬ a0 = 0 := c0
    have h := h.2 c0
    rw [if_neg c0] at k
    have c1 : ¬ a0 = 1 := c1
    have h := h.2 c1
    rw [if_neg c1] at k
    have c2 : ¬ a0 = 2 := c2
    have h := h.2 c2
    rw [if_neg c2] at k
    have c3 : ¬ a0 = 3 := c3
    have h := h.2 c3
    rw [if_neg c3] at k
    have c4 : a0 = 4 := c4
    have h := h.1 c4
    rw [if_pos c4] at k
    refine z_aload_n (pc' := 89) 0 rfl rfl dX12_count_88 rfl ?_
    refine z_getI2 (v := w 0 2) (pc' := 92) g_X12_99 (by decide) rfl rfl rfl dX12_count_89 rfl ?_
    refine z_iret rfl dX12_count_92 ?_
    exact k
  · skip
    have c0 : ¬ a0 = 0 := c0
    have h := h.2 c0
    rw [if_neg c0] at k
    have c1 : ¬ a0 = 1 := c1
    have h := h.2 c1
    rw [if_neg c1] at k
    have c2 : ¬ a0 = 2 := c2
    have h := h.2 c2
    rw [if_neg c2] at k
    have c3 : ¬ a0 = 3 := c3
    have h := h.2 c3
    rw [if_neg c3] at k
    have c4 : ¬ a0 = 4 := c4
    have h := h.2 c4
    rw [if_neg c4] at k
    have c5 : a0 = 5 := c5
    have h := h.1 c5
    rw [if_pos c5] at k
    refine z_aload_n (pc' := 94) 0 rfl rfl dX12_count_93 rfl ?_
    refine z_getI2 (v := w 0 33) (pc' := 97) g_X12_70 (by decide) rfl rfl rfl dX12_count_94 rfl ?_
    refine z_iret rfl dX12_count_97 ?_
    exact k
  · skip
    have c0 : ¬ a0 = 0 := c0
    have h := h.2 c0
    rw [if_neg c0] at k
    have c1 : ¬ a0 = 1 := c1
    have h := h.2 c1
    rw [if_neg c1] at k
    have c2 : ¬ a0 = 2 := c2
    have h := h.2 c2
    rw [if_neg c2] at k
    have c3 : ¬ a0 = 3 := c3
    have h := h.2 c3
    rw [if_neg c3] at k
    have c4 : ¬ a0 = 4 := c4
    have h := h.2 c4
    rw [if_neg c4] at k
    have c5 : ¬ a0 = 5 := c5
    have h := h.2 c5
    rw [if_neg c5] at k
    have c6 : a0 = 6 := c6
    have h := h.1 c6
    rw [if_pos c6] at k
    refine z_aload_n (pc' := 99) 0 rfl rfl dX12_count_98 rfl ?_
    refine z_getR (t := 19) (pc' := 102) g_X12_64 (by decide) rfl rfl dX12_count_99 rfl ?_
    refine z_bipush (pc' := 104) (by decide) dX12_count_102 rfl ?_
    refine z_iald2 (v := w 19 38) (pc' := 105) (by decide) rfl (by decide) (by decide) rfl dX12_count_104 rfl ?_
    refine z_iret rfl dX12_count_105 ?_
    exact k
  · skip
    have c0 : ¬ a0 = 0 := c0
    have h := h.2 c0
    rw [if_neg c0] at k
    have c1 : ¬ a0 = 1 := c1
    have h := h.2 c1
    rw [if_neg c1] at k
    have c2 : ¬ a0 = 2 := c2
    have h := h.2 c2
    rw [if_neg c2] at k
    have c3 : ¬ a0 = 3 := c3
    have h := h.2 c3
    rw [if_neg c3] at k
    have c4 : ¬ a0 = 4 := c4
    have h := h.2 c4
    rw [if_neg c4] at k
    have c5 : ¬ a0 = 5 := c5
    have h := h.2 c5
    rw [if_neg c5] at k
    have c6 : ¬ a0 = 6 := c6
    have h := h.2 c6
    rw [if_neg c6] at k
    have c7 : a0 = 7 := c7
    have h := h.1 c7
    rw [if_pos c7] at k
    refine z_aload_n (pc' := 107) 0 rfl rfl dX12_count_106 rfl ?_
    refine z_getR (t := 19) (pc' := 110) g_X12_64 (by decide) rfl rfl dX12_count_107 rfl ?_
    refine z_bipush (pc' := 112) (by decide) dX12_count_110 rfl ?_
    refine z_iald2 (v := w 19 37) (pc' := 113) (by decide) rfl (by decide) (by decide) rfl dX12_count_112 rfl ?_
    refine z_iret rfl dX12_count_113 ?_
    exact k
  · skip
    have c0 : ¬ a0 = 0 := c0
    have h := h.2 c0
    rw [if_neg c0] at k
    have c1 : ¬ a0 = 1 := c1
    have h := h.2 c1
    rw [if_neg c1] at k
    have c2 : ¬ a0 = 2 := c2
    have h := h.2 c2
    rw [if_neg c2] at k
    have c3 : ¬ a0 = 3 := c3
    have h := h.2 c3
    rw [if_neg c3] at k
    have c4 : ¬ a0 = 4 := c4
    have h := h.2 c4
    rw [if_neg c4] at k
    have c5 : ¬ a0 = 5 := c5
    have h := h.2 c5
    rw [if_neg c5] at k
    have c6 : ¬ a0 = 6 := c6
    have h := h.2 c6
    rw [if_neg c6] at k
    have c7 : ¬ a0 = 7 := c7
    have h := h.2 c7
    rw [if_neg c7] at k
    have c8 : a0 = 8 := c8
    have h := h.1 c8
    rw [if_pos c8] at k
    refine z_aload_n (pc' := 115) 0 rfl rfl dX12_count_114 rfl ?_
    refine z_invV (as := []) (st := []) (C := m_X12_drowned) (fs := [0, 3, 0, 0, 0, 0, 4, 5, 6, 7, 8, 9, 10, 0, 0, 11, 12, 13, 14, 15, 16, 0, 0, 0, 17, 18, 19, 20, 0, 0, 0, 21, 22, 0, 0, 23, 0, 1, 24, 0, 0, 25, 26, 0, 27, 0]) (pc' := 118) dX12_count_115 rfl t_7_154 k_X12_drowned rfl (by decide) rfl rfl rfl rfl (Nat.le_of_ble_eq_true rfl) ?_
    have r2 := h
    refine c_M_drowned r2 ?_
    show z_Wp m_X12_count _ 118 [(0, zR 0), (1, zI a0)] [zI (F_M_drowned w)] w _
    refine z_iret rfl dX12_count_118 ?_
    exact k
  · skip
    have c0 : ¬ a0 = 0 := c0
    have h := h.2 c0
    rw [if_neg c0] at k
    have c1 : ¬ a0 = 1 := c1
    have h := h.2 c1
    rw [if_neg c1] at k
    have c2 : ¬ a0 = 2 := c2
    have h := h.2 c2
    rw [if_neg c2] at k
    have c3 : ¬ a0 = 3 := c3
    have h := h.2 c3
    rw [if_neg c3] at k
    have c4 : ¬ a0 = 4 := c4
    have h := h.2 c4
    rw [if_neg c4] at k
    have c5 : ¬ a0 = 5 := c5
    have h := h.2 c5
    rw [if_neg c5] at k
    have c6 : ¬ a0 = 6 := c6
    have h := h.2 c6
    rw [if_neg c6] at k
    have c7 : ¬ a0 = 7 := c7
    have h := h.2 c7
    rw [if_neg c7] at k
    have c8 : ¬ a0 = 8 := c8
    have h := h.2 c8
    rw [if_neg c8] at k
    have c9 : a0 = 9 := c9
    have h := h.1 c9
    rw [if_pos c9] at k
    refine z_aload_n (pc' := 120) 0 rfl rfl dX12_count_119 rfl ?_
    refine z_getI2 (v := w 0 34) (pc' := 123) g_X12_74 (by decide) rfl rfl rfl dX12_count_120 rfl ?_
    refine z_iret rfl dX12_count_123 ?_
    exact k
  · skip
    have c0 : ¬ a0 = 0 := c0
    have h := h.2 c0
    rw [if_neg c0] at k
    have c1 : ¬ a0 = 1 := c1
    have h := h.2 c1
    rw [if_neg c1] at k
    have c2 : ¬ a0 = 2 := c2
    have h := h.2 c2
    rw [if_neg c2] at k
    have c3 : ¬ a0 = 3 := c3
    have h := h.2 c3
    rw [if_neg c3] at k
    have c4 : ¬ a0 = 4 := c4
    have h := h.2 c4
    rw [if_neg c4] at k
    have c5 : ¬ a0 = 5 := c5
    have h := h.2 c5
    rw [if_neg c5] at k
    have c6 : ¬ a0 = 6 := c6
    have h := h.2 c6
    rw [if_neg c6] at k
    have c7 : ¬ a0 = 7 := c7
    have h := h.2 c7
    rw [if_neg c7] at k
    have c8 : ¬ a0 = 8 := c8
    have h := h.2 c8
    rw [if_neg c8] at k
    have c9 : ¬ a0 = 9 := c9
    have h := h.2 c9
    rw [if_neg c9] at k
    have c10 : a0 = 10 := c10
    have h := h.1 c10
    rw [if_pos c10] at k
    refine z_aload_n (pc' := 125) 0 rfl rfl dX12_count_124 rfl ?_
    refine z_getI2 (v := w 0 43) (pc' := 128) g_X12_266 (by decide) rfl rfl rfl dX12_count_125 rfl ?_
    refine z_iret rfl dX12_count_128 ?_
    exact k
  · skip
    have c0 : ¬ a0 = 0 := c0
    have h := h.2 c0
    rw [if_neg c0] at k
    have c1 : ¬ a0 = 1 := c1
    have h := h.2 c1
    rw [if_neg c1] at k
    have c2 : ¬ a0 = 2 := c2
    have h := h.2 c2
    rw [if_neg c2] at k
    have c3 : ¬ a0 = 3 := c3
    have h := h.2 c3
    rw [if_neg c3] at k
    have c4 : ¬ a0 = 4 := c4
    have h := h.2 c4
    rw [if_neg c4] at k
    have c5 : ¬ a0 = 5 := c5
    have h := h.2 c5
    rw [if_neg c5] at k
    have c6 : ¬ a0 = 6 := c6
    have h := h.2 c6
    rw [if_neg c6] at k
    have c7 : ¬ a0 = 7 := c7
    have h := h.2 c7
    rw [if_neg c7] at k
    have c8 : ¬ a0 = 8 := c8
    have h := h.2 c8
    rw [if_neg c8] at k
    have c9 : ¬ a0 = 9 := c9
    have h := h.2 c9
    rw [if_neg c9] at k
    have c10 : ¬ a0 = 10 := c10
    have h := h.2 c10
    rw [if_neg c10] at k
    have c11 : a0 = 11 := c11
    have h := h.1 c11
    rw [if_pos c11] at k
    refine z_aload_n (pc' := 130) 0 rfl rfl dX12_count_129 rfl ?_
    refine z_getR (t := 19) (pc' := 133) g_X12_64 (by decide) rfl rfl dX12_count_130 rfl ?_
    refine z_bipush (pc' := 135) (by decide) dX12_count_133 rfl ?_
    refine z_iald2 (v := w 19 39) (pc' := 136) (by decide) rfl (by decide) (by decide) rfl dX12_count_135 rfl ?_
    refine z_iret rfl dX12_count_136 ?_
    exact k
  · skip
    have c0 : ¬ a0 = 0 := c0
    have h := h.2 c0
    rw [if_neg c0] at k
    have c1 : ¬ a0 = 1 := c1
    have h := h.2 c1
    rw [if_neg c1] at k
    have c2 : ¬ a0 = 2 := c2
    have h := h.2 c2
    rw [if_neg c2] at k
    have c3 : ¬ a0 = 3 := c3
    have h := h.2 c3
    rw [if_neg c3] at k
    have c4 : ¬ a0 = 4 := c4
    have h := h.2 c4
    rw [if_neg c4] at k
    have c5 : ¬ a0 = 5 := c5
    have h := h.2 c5
    rw [if_neg c5] at k
    have c6 : ¬ a0 = 6 := c6
    have h := h.2 c6
    rw [if_neg c6] at k
    have c7 : ¬ a0 = 7 := c7
    have h := h.2 c7
    rw [if_neg c7] at k
    have c8 : ¬ a0 = 8 := c8
    have h := h.2 c8
    rw [if_neg c8] at k
    have c9 : ¬ a0 = 9 := c9
    have h := h.2 c9
    rw [if_neg c9] at k
    have c10 : ¬ a0 = 10 := c10
    have h := h.2 c10
    rw [if_neg c10] at k
    have c11 : ¬ a0 = 11 := c11
    have h := h.2 c11
    rw [if_neg c11] at k
    have c12 : a0 = 12 := c12
    have h := h.1 c12
    rw [if_pos c12] at k
    refine z_aload_n (pc' := 138) 0 rfl rfl dX12_count_137 rfl ?_
    refine z_getI2 (v := w 0 36) (pc' := 141) g_X12_269 (by decide) rfl rfl rfl dX12_count_138 rfl ?_
    refine z_iret rfl dX12_count_141 ?_
    exact k
  · skip
    have c0 : ¬ a0 = 0 := c0
    have h := h.2 c0
    rw [if_neg c0] at k
    have c1 : ¬ a0 = 1 := c1
    have h := h.2 c1
    rw [if_neg c1] at k
    have c2 : ¬ a0 = 2 := c2
    have h := h.2 c2
    rw [if_neg c2] at k
    have c3 : ¬ a0 = 3 := c3
    have h := h.2 c3
    rw [if_neg c3] at k
    have c4 : ¬ a0 = 4 := c4
    have h := h.2 c4
    rw [if_neg c4] at k
    have c5 : ¬ a0 = 5 := c5
    have h := h.2 c5
    rw [if_neg c5] at k
    have c6 : ¬ a0 = 6 := c6
    have h := h.2 c6
    rw [if_neg c6] at k
    have c7 : ¬ a0 = 7 := c7
    have h := h.2 c7
    rw [if_neg c7] at k
    have c8 : ¬ a0 = 8 := c8
    have h := h.2 c8
    rw [if_neg c8] at k
    have c9 : ¬ a0 = 9 := c9
    have h := h.2 c9
    rw [if_neg c9] at k
    have c10 : ¬ a0 = 10 := c10
    have h := h.2 c10
    rw [if_neg c10] at k
    have c11 : ¬ a0 = 11 := c11
    have h := h.2 c11
    rw [if_neg c11] at k
    have c12 : ¬ a0 = 12 := c12
    have h := h.2 c12
    rw [if_neg c12] at k
    refine z_ldcw (n := (-1000000)) (pc' := 145) t_8_146 (by decide) dX12_count_142 rfl ?_
    refine z_iret rfl dX12_count_145 ?_
    exact k
def P_M_file (w : z_Wd) (a0 : Int) (a1 : Int) : Prop := (P_M_in w a0 0 ((w 0 30) - 1)) ∧ ((F_M_in w a0 0 ((w 0 30) - 1) = 0 → True) ∧ (¬ (F_M_in w a0 0 ((w 0 30) - 1) = 0) → (P_M_in w a1 0 2) ∧ ((F_M_in w a1 0 2 = 0 → True) ∧ (¬ (F_M_in w a1 0 2 = 0) → (-2147483648 ≤ a1 ∧ a1 < 2147483648) ∧ ((a1 = 2 → (P_M_drowned w) ∧ (P_M_gapsBy w a0 (F_M_drowned w))) ∧ (¬ (a1 = 2) → 0 ≤ (2 * a0) + a1 ∧ (2 * a0) + a1 < 12))))))
def F_M_file (w : z_Wd) (a0 : Int) (a1 : Int) : Int := if F_M_in w a0 0 ((w 0 30) - 1) = 0 then (-1) else if F_M_in w a1 0 2 = 0 then (-1) else if a1 = 2 then F_M_gapsBy w a0 (F_M_drowned w) else w 18 (((2 * a0) + a1).toNat)
set_option maxRecDepth 4000 in
theorem c_M_file {d : Nat} {w : z_Wd} {a0 a1 : Int} {Q : Option z_V → z_Wd → Prop} (h : P_M_file w a0 a1) (k : Q (some (zI (F_M_file w a0 a1))) w) : z_Wc (d + 5) m_X12_file [zR 0, zI a0, zI a1] w Q := by
  unfold P_M_file at h
  unfold F_M_file at k
  refine z_enter rfl (Nat.le_of_ble_eq_true rfl) ?_
  show z_Wp m_X12_file _ 0 [(0, zR 0), (1, zI a0), (2, zI a1)] [] w _
  refine z_aload_n (pc' := 1) 0 rfl rfl dX12_file_0 rfl ?_
  refine z_iload_n (pc' := 2) 1 rfl rfl dX12_file_1 rfl ?_
  refine z_invV (as := [zI a0]) (st := []) (C := m_X12_isFile) (fs := [0, 3, 0, 0, 0, 0, 4, 5, 6, 7, 8, 9, 10, 0, 0, 11, 12, 13, 14, 15, 16, 0, 0, 0, 17, 18, 19, 20, 0, 0, 0, 21, 22, 0, 0, 23, 0, 1, 24, 0, 0, 25, 26, 0, 27, 0]) (pc' := 5) dX12_file_2 rfl t_7_207 k_X12_isFile rfl (by decide) rfl rfl rfl rfl (Nat.le_of_ble_eq_true rfl) ?_
  obtain ⟨r1, h⟩ := h
  refine c_M_isFile r1 ?_
  show z_Wp m_X12_file _ 5 [(0, zR 0), (1, zI a0), (2, zI a1)] [zI (F_M_in w a0 0 ((w 0 30) - 1))] w _
  refine z_if_eq 17 dX12_file_5 (by decide) (pc' := 8) rfl (z_rb b_M_in) (fun c => ?_) (fun c => ?_)
  · have h := h.1 c
    rw [if_pos c] at k
    refine z_iconst (pc' := 18) dX12_file_17 rfl ?_
    refine z_goto 48 dX12_file_18 (by decide) ?_
    refine z_iret rfl dX12_file_48 ?_
    exact k
  · have h := h.2 c
    rw [if_neg c] at k
    refine z_iload_n (pc' := 9) 2 rfl rfl dX12_file_8 rfl ?_
    refine z_iconst (pc' := 10) dX12_file_9 rfl ?_
    refine z_iconst (pc' := 11) dX12_file_10 rfl ?_
    refine z_invS (as := [zI a1, zI 0, zI 2]) (st := []) (C := m_X12_in) (pc' := 14) dX12_file_11 rfl t_7_17 k_X12_in rfl rfl (Nat.le_of_ble_eq_true rfl) ?_
    obtain ⟨r2, h⟩ := h
    refine c_M_in r2 ?_
    show z_Wp m_X12_file _ 14 [(0, zR 0), (1, zI a0), (2, zI a1)] [zI (F_M_in w a1 0 2)] w _
    refine z_if_ne 21 dX12_file_14 (by decide) (pc' := 17) rfl (z_rb b_M_in) (fun c => ?_) (fun c => ?_)
    · have h := h.2 c
      rw [if_neg c] at k
      refine z_iload_n (pc' := 22) 2 rfl rfl dX12_file_21 rfl ?_
      refine z_iconst (pc' := 23) dX12_file_22 rfl ?_
      obtain ⟨r3, h⟩ := h
      refine z_icmp_ne 38 dX12_file_23 (by decide) (pc' := 26) rfl r3 (by decide) (fun c => ?_) (fun c => ?_)
      · have h := h.2 c
        rw [if_neg c] at k
        refine z_aload_n (pc' := 39) 0 rfl rfl dX12_file_38 rfl ?_
        refine z_getR (t := 18) (pc' := 42) g_X12_61 (by decide) rfl rfl dX12_file_39 rfl ?_
        refine z_iconst (pc' := 43) dX12_file_42 rfl ?_
        refine z_iload_n (pc' := 44) 1 rfl rfl dX12_file_43 rfl ?_
        refine z_imul (pc' := 45) dX12_file_44 rfl ?_
        refine z_iload_n (pc' := 46) 2 rfl rfl dX12_file_45 rfl ?_
        refine z_iadd (pc' := 47) dX12_file_46 rfl ?_
        have r4 := h
        refine z_iald2 (v := w 18 (((2 * a0) + a1).toNat)) (pc' := 48) (by decide) rfl r4 (by decide) rfl dX12_file_47 rfl ?_
        refine z_iret rfl dX12_file_48 ?_
        exact k
      · have h := h.1 c
        rw [if_pos c] at k
        refine z_aload_n (pc' := 27) 0 rfl rfl dX12_file_26 rfl ?_
        refine z_iload_n (pc' := 28) 1 rfl rfl dX12_file_27 rfl ?_
        refine z_aload_n (pc' := 29) 0 rfl rfl dX12_file_28 rfl ?_
        refine z_invV (as := []) (st := [zI a0, zR 0]) (C := m_X12_drowned) (fs := [0, 3, 0, 0, 0, 0, 4, 5, 6, 7, 8, 9, 10, 0, 0, 11, 12, 13, 14, 15, 16, 0, 0, 0, 17, 18, 19, 20, 0, 0, 0, 21, 22, 0, 0, 23, 0, 1, 24, 0, 0, 25, 26, 0, 27, 0]) (pc' := 32) dX12_file_29 rfl t_7_154 k_X12_drowned rfl (by decide) rfl rfl rfl rfl (Nat.le_of_ble_eq_true rfl) ?_
        obtain ⟨r5, h⟩ := h
        refine c_M_drowned r5 ?_
        show z_Wp m_X12_file _ 32 [(0, zR 0), (1, zI a0), (2, zI a1)] [zI (F_M_drowned w), zI a0, zR 0] w _
        refine z_invV (as := [zI a0, zI (F_M_drowned w)]) (st := []) (C := m_X12_gapsBy) (fs := [0, 3, 0, 0, 0, 0, 4, 5, 6, 7, 8, 9, 10, 0, 0, 11, 12, 13, 14, 15, 16, 0, 0, 0, 17, 18, 19, 20, 0, 0, 0, 21, 22, 0, 0, 23, 0, 1, 24, 0, 0, 25, 26, 0, 27, 0]) (pc' := 35) dX12_file_32 rfl t_7_211 k_X12_gapsBy rfl (by decide) rfl rfl rfl rfl (Nat.le_of_ble_eq_true rfl) ?_
        have r6 := h
        refine c_M_gapsBy r6 ?_
        show z_Wp m_X12_file _ 35 [(0, zR 0), (1, zI a0), (2, zI a1)] [zI (F_M_gapsBy w a0 (F_M_drowned w))] w _
        refine z_goto 48 dX12_file_35 (by decide) ?_
        refine z_iret rfl dX12_file_48 ?_
        exact k
    · have h := h.1 c
      rw [if_pos c] at k
      refine z_iconst (pc' := 18) dX12_file_17 rfl ?_
      refine z_goto 48 dX12_file_18 (by decide) ?_
      refine z_iret rfl dX12_file_48 ?_
      exact k
def A_M_feed_62 (w : z_Wd) (a0 : Int) (a1 : Int) (a2 : Int) (a3 : Int) (a4 : Int) : Nat → z_Wd
  | 0 => w
  | i23 + 1 => if F_M_byteOf (A_M_feed_62 w a0 a1 a2 a3 a4 i23) a0 a1 a2 a3 a4 (i23 : Int) = 0 then A_M_feed_62 w a0 a1 a2 a3 a4 i23 else z_up (z_up (A_M_feed_62 w a0 a1 a2 a3 a4 i23) 1 (((A_M_feed_62 w a0 a1 a2 a3 a4 i23) 0 2).toNat) (F_M_byteOf (A_M_feed_62 w a0 a1 a2 a3 a4 i23) a0 a1 a2 a3 a4 (i23 : Int))) 0 2 (((A_M_feed_62 w a0 a1 a2 a3 a4 i23) 0 2) + 1)
def A_M_feed_6 (w : z_Wd) (a0 : Int) (a1 : Int) (a2 : Int) (a3 : Int) (a4 : Int) : Nat → Int
  | 0 => 0
  | i14 + 1 => if F_M_byteOf w a0 a1 a2 a3 a4 (i14 : Int) = 0 then A_M_feed_6 w a0 a1 a2 a3 a4 i14 else (A_M_feed_6 w a0 a1 a2 a3 a4 i14) + 1
def P_M_feed (w : z_Wd) (a0 : Int) (a1 : Int) (a2 : Int) (a3 : Int) (a4 : Int) : Prop := (∀ i14 : Nat, i14 < 20 → (-2147483648 ≤ (i14 : Int) ∧ (i14 : Int) < 2147483648) ∧ (P_M_byteOf w a0 a1 a2 a3 a4 (i14 : Int)) ∧ (-2147483648 ≤ F_M_byteOf w a0 a1 a2 a3 a4 (i14 : Int) ∧ F_M_byteOf w a0 a1 a2 a3 a4 (i14 : Int) < 2147483648)) ∧ ((-2147483648 ≤ (w 0 2) + (A_M_feed_6 w a0 a1 a2 a3 a4 20) ∧ (w 0 2) + (A_M_feed_6 w a0 a1 a2 a3 a4 20) < 2147483648) ∧ (((w 0 2) + (A_M_feed_6 w a0 a1 a2 a3 a4 20) ≤ 240 → (∀ i23 : Nat, i23 < 20 → (-2147483648 ≤ (i23 : Int) ∧ (i23 : Int) < 2147483648) ∧ (P_M_byteOf (A_M_feed_62 w a0 a1 a2 a3 a4 i23) a0 a1 a2 a3 a4 (i23 : Int)) ∧ (-2147483648 ≤ F_M_byteOf (A_M_feed_62 w a0 a1 a2 a3 a4 i23) a0 a1 a2 a3 a4 (i23 : Int) ∧ F_M_byteOf (A_M_feed_62 w a0 a1 a2 a3 a4 i23) a0 a1 a2 a3 a4 (i23 : Int) < 2147483648) ∧ ((F_M_byteOf (A_M_feed_62 w a0 a1 a2 a3 a4 i23) a0 a1 a2 a3 a4 (i23 : Int) = 0 → True) ∧ (¬ (F_M_byteOf (A_M_feed_62 w a0 a1 a2 a3 a4 i23) a0 a1 a2 a3 a4 (i23 : Int) = 0) → 0 ≤ (A_M_feed_62 w a0 a1 a2 a3 a4 i23) 0 2 ∧ (A_M_feed_62 w a0 a1 a2 a3 a4 i23) 0 2 < 240))) ∧ (True)) ∧ (¬ ((w 0 2) + (A_M_feed_6 w a0 a1 a2 a3 a4 20) ≤ 240) → True)))
def F_M_feed (w : z_Wd) (a0 : Int) (a1 : Int) (a2 : Int) (a3 : Int) (a4 : Int) : Int × z_Wd := if (w 0 2) + (A_M_feed_6 w a0 a1 a2 a3 a4 20) ≤ 240 then ((A_M_feed_62 w a0 a1 a2 a3 a4 20) 0 2, A_M_feed_62 w a0 a1 a2 a3 a4 20) else ((-1), w)
set_option maxRecDepth 4000 in
theorem c_M_feed {d : Nat} {w : z_Wd} {a0 a1 a2 a3 a4 : Int} {Q : Option z_V → z_Wd → Prop} (h : P_M_feed w a0 a1 a2 a3 a4) (k : Q (some (zI (F_M_feed w a0 a1 a2 a3 a4).1)) (F_M_feed w a0 a1 a2 a3 a4).2) : z_Wc (d + 1) m_X12_feed [zR 0, zI a0, zI a1, zI a2, zI a3, zI a4] w Q := by
  unfold P_M_feed at h
  unfold F_M_feed at k
  refine z_enter rfl (Nat.le_of_ble_eq_true rfl) ?_
  show z_Wp m_X12_feed _ 0 [(0, zR 0), (1, zI a0), (2, zI a1), (3, zI a2), (4, zI a3), (5, zI a4)] [] w _
  refine z_iconst (pc' := 1) dX12_feed_0 rfl ?_
  refine z_istore (pc' := 3) (ls' := [(0, zR 0), (1, zI a0), (2, zI a1), (3, zI a2), (4, zI a3), (5, zI a4), (6, zI 0)]) (by decide) rfl rfl dX12_feed_1 rfl ?_
  refine z_iconst (pc' := 4) dX12_feed_3 rfl ?_
  refine z_istore (pc' := 6) (ls' := [(0, zR 0), (1, zI a0), (2, zI a1), (3, zI a2), (4, zI a3), (5, zI a4), (6, zI 0), (7, zI 0)]) (by decide) rfl rfl dX12_feed_4 rfl ?_
  refine z_upto 20 (fun i14 => z_Wp m_X12_feed (d + 1) 6 [(0, zR 0), (1, zI a0), (2, zI a1), (3, zI a2), (4, zI a3), (5, zI a4), (6, zI (A_M_feed_6 w a0 a1 a2 a3 a4 i14)), (7, zI (i14 : Int))] [] w Q) ?_ ?_
  · skip
    have h := h.2
    refine z_iload (pc' := 8) 7 rfl dX12_feed_6 rfl ?_
    refine z_bipush (pc' := 10) (by decide) dX12_feed_8 rfl ?_
    refine z_icmp_ge 44 dX12_feed_10 (by decide) (pc' := 13) rfl (by decide) (by decide) (fun _ => ?_) (fun c => absurd c (by decide))
    refine z_aload_n (pc' := 45) 0 rfl rfl dX12_feed_44 rfl ?_
    refine z_getI2 (v := w 0 2) (pc' := 48) g_X12_99 (by decide) rfl rfl rfl dX12_feed_45 rfl ?_
    refine z_iload (pc' := 50) 6 rfl dX12_feed_48 rfl ?_
    refine z_iadd (pc' := 51) dX12_feed_50 rfl ?_
    refine z_sipush (pc' := 54) (by decide) dX12_feed_51 rfl ?_
    obtain ⟨r18, h⟩ := h
    refine z_icmp_le 59 dX12_feed_54 (by decide) (pc' := 57) rfl r18 (by decide) (fun c => ?_) (fun c => ?_)
    · have h := h.1 c
      rw [if_pos c] at k
      refine z_iconst (pc' := 60) dX12_feed_59 rfl ?_
      refine z_istore (pc' := 62) (ls' := [(0, zR 0), (1, zI a0), (2, zI a1), (3, zI a2), (4, zI a3), (5, zI a4), (6, zI (A_M_feed_6 w a0 a1 a2 a3 a4 20)), (7, zI 0)]) (by decide) rfl rfl dX12_feed_60 rfl ?_
      refine z_Wp.sub (ls' := [(0, zR 0), (1, zI a0), (2, zI a1), (3, zI a2), (4, zI a3), (5, zI a4), (7, zI 0)]) ?_ (z_sub_of [0, 1, 2, 3, 4, 5, 7] rfl)
      refine z_upto 20 (fun i23 => z_Wp m_X12_feed (d + 1) 62 [(0, zR 0), (1, zI a0), (2, zI a1), (3, zI a2), (4, zI a3), (5, zI a4), (7, zI (i23 : Int))] [] (A_M_feed_62 w a0 a1 a2 a3 a4 i23) Q) ?_ ?_
      · skip
        have h := h.2
        refine z_iload (pc' := 64) 6 rfl dX12_feed_62 rfl ?_
        refine z_bipush (pc' := 66) (by decide) dX12_feed_64 rfl ?_
        refine z_icmp_ge 115 dX12_feed_66 (by decide) (pc' := 69) rfl (by decide) (by decide) (fun _ => ?_) (fun c => absurd c (by decide))
        refine z_aload_n (pc' := 116) 0 rfl rfl dX12_feed_115 rfl ?_
        refine z_getI2 (v := (A_M_feed_62 w a0 a1 a2 a3 a4 20) 0 2) (pc' := 119) g_X12_99 (by decide) rfl rfl rfl dX12_feed_116 rfl ?_
        refine z_iret rfl dX12_feed_119 ?_
        exact k
      · intro i23 hi ih
        have h := h.1 i23 hi
        have ih : z_Wp m_X12_feed (d + 1) 62 [(0, zR 0), (1, zI a0), (2, zI a1), (3, zI a2), (4, zI a3), (5, zI a4), (7, zI ((i23 + 1 : Nat) : Int))] [] (if F_M_byteOf (A_M_feed_62 w a0 a1 a2 a3 a4 i23) a0 a1 a2 a3 a4 (i23 : Int) = 0 then A_M_feed_62 w a0 a1 a2 a3 a4 i23 else z_up (z_up (A_M_feed_62 w a0 a1 a2 a3 a4 i23) 1 (((A_M_feed_62 w a0 a1 a2 a3 a4 i23) 0 2).toNat) (F_M_byteOf (A_M_feed_62 w a0 a1 a2 a3 a4 i23) a0 a1 a2 a3 a4 (i23 : Int))) 0 2 (((A_M_feed_62 w a0 a1 a2 a3 a4 i23) 0 2) + 1)) Q := ih
        refine z_iload (pc' := 64) 6 rfl dX12_feed_62 rfl ?_
        refine z_bipush (pc' := 66) (by decide) dX12_feed_64 rfl ?_
        obtain ⟨r24, h⟩ := h
        refine z_icmp_ge 115 dX12_feed_66 (by decide) (pc' := 69) rfl r24 (by decide) (fun c => absurd c (by omega)) (fun _ => ?_)
        refine z_iload_n (pc' := 70) 1 rfl rfl dX12_feed_69 rfl ?_
        refine z_iload_n (pc' := 71) 2 rfl rfl dX12_feed_70 rfl ?_
        refine z_iload_n (pc' := 72) 3 rfl rfl dX12_feed_71 rfl ?_
        refine z_iload (pc' := 74) 4 rfl dX12_feed_72 rfl ?_
        refine z_iload (pc' := 76) 5 rfl dX12_feed_74 rfl ?_
        refine z_iload (pc' := 78) 6 rfl dX12_feed_76 rfl ?_
        refine z_invS (as := [zI a0, zI a1, zI a2, zI a3, zI a4, zI (i23 : Int)]) (st := []) (C := m_X12_byteOf) (pc' := 81) dX12_feed_78 rfl t_6_200 k_X12_byteOf rfl rfl (Nat.le_of_ble_eq_true rfl) ?_
        obtain ⟨r25, h⟩ := h
        refine c_M_byteOf r25 ?_
        show z_Wp m_X12_feed _ 81 [(0, zR 0), (1, zI a0), (2, zI a1), (3, zI a2), (4, zI a3), (5, zI a4), (7, zI (i23 : Int))] [zI (F_M_byteOf (A_M_feed_62 w a0 a1 a2 a3 a4 i23) a0 a1 a2 a3 a4 (i23 : Int))] (A_M_feed_62 w a0 a1 a2 a3 a4 i23) _
        refine z_istore (pc' := 83) (ls' := [(0, zR 0), (1, zI a0), (2, zI a1), (3, zI a2), (4, zI a3), (5, zI a4), (7, zI (i23 : Int)), (8, zI (F_M_byteOf (A_M_feed_62 w a0 a1 a2 a3 a4 i23) a0 a1 a2 a3 a4 (i23 : Int)))]) (by decide) rfl rfl dX12_feed_81 rfl ?_
        refine z_iload (pc' := 85) 7 rfl dX12_feed_83 rfl ?_
        obtain ⟨r26, h⟩ := h
        refine z_if_eq 109 dX12_feed_85 (by decide) (pc' := 88) rfl r26 (fun c36 => ?_) (fun c36 => ?_)
        · have h := h.1 c36
          rw [if_pos c36] at ih
          refine z_iinc (pc' := 112) (ls' := [(0, zR 0), (1, zI a0), (2, zI a1), (3, zI a2), (4, zI a3), (5, zI a4), (7, zI ((i23 : Int) + 1)), (8, zI (F_M_byteOf (A_M_feed_62 w a0 a1 a2 a3 a4 i23) a0 a1 a2 a3 a4 (i23 : Int)))]) 6 rfl (by decide) rfl rfl dX12_feed_109 rfl ?_
          refine z_goto 62 dX12_feed_112 (by decide) ?_
          exact z_Wp.sub (ls' := [(0, zR 0), (1, zI a0), (2, zI a1), (3, zI a2), (4, zI a3), (5, zI a4), (7, zI ((i23 : Int) + 1))]) (z_lcast (by rw [z_c0 i23]) ih) (z_sub_of [0, 1, 2, 3, 4, 5, 6] rfl)
        · have h := h.2 c36
          rw [if_neg c36] at ih
          refine z_aload_n (pc' := 89) 0 rfl rfl dX12_feed_88 rfl ?_
          refine z_getR (t := 1) (pc' := 92) g_X12_9 (by decide) rfl rfl dX12_feed_89 rfl ?_
          refine z_aload_n (pc' := 93) 0 rfl rfl dX12_feed_92 rfl ?_
          refine z_getI2 (v := (A_M_feed_62 w a0 a1 a2 a3 a4 i23) 0 2) (pc' := 96) g_X12_99 (by decide) rfl rfl rfl dX12_feed_93 rfl ?_
          refine z_iload (pc' := 98) 7 rfl dX12_feed_96 rfl ?_
          have r27 := h
          refine z_iast2 (w' := z_up (A_M_feed_62 w a0 a1 a2 a3 a4 i23) 1 (((A_M_feed_62 w a0 a1 a2 a3 a4 i23) 0 2).toNat) (F_M_byteOf (A_M_feed_62 w a0 a1 a2 a3 a4 i23) a0 a1 a2 a3 a4 (i23 : Int))) (pc' := 99) (by decide) rfl r27 (by decide) rfl dX12_feed_98 rfl ?_
          refine z_aload_n (pc' := 100) 0 rfl rfl dX12_feed_99 rfl ?_
          refine z_dup (pc' := 101) rfl dX12_feed_100 rfl ?_
          refine z_getI2 (v := (A_M_feed_62 w a0 a1 a2 a3 a4 i23) 0 2) (pc' := 104) g_X12_99 (by decide) rfl rfl rfl dX12_feed_101 rfl ?_
          refine z_iconst (pc' := 105) dX12_feed_104 rfl ?_
          refine z_iadd (pc' := 106) dX12_feed_105 rfl ?_
          refine z_putI (pc' := 109) p_X12_99 (by decide) rfl rfl rfl rfl dX12_feed_106 rfl ?_
          refine z_iinc (pc' := 112) (ls' := [(0, zR 0), (1, zI a0), (2, zI a1), (3, zI a2), (4, zI a3), (5, zI a4), (7, zI ((i23 : Int) + 1)), (8, zI (F_M_byteOf (A_M_feed_62 w a0 a1 a2 a3 a4 i23) a0 a1 a2 a3 a4 (i23 : Int)))]) 6 rfl (by decide) rfl rfl dX12_feed_109 rfl ?_
          refine z_goto 62 dX12_feed_112 (by decide) ?_
          exact z_Wp.sub (ls' := [(0, zR 0), (1, zI a0), (2, zI a1), (3, zI a2), (4, zI a3), (5, zI a4), (7, zI ((i23 : Int) + 1))]) (z_lcast (by rw [z_c0 i23]) ih) (z_sub_of [0, 1, 2, 3, 4, 5, 6] rfl)
    · have h := h.2 c
      rw [if_neg c] at k
      refine z_iconst (pc' := 58) dX12_feed_57 rfl ?_
      refine z_iret rfl dX12_feed_58 ?_
      exact k
  · intro i14 hi ih
    have h := h.1 i14 hi
    have ih : z_Wp m_X12_feed (d + 1) 6 [(0, zR 0), (1, zI a0), (2, zI a1), (3, zI a2), (4, zI a3), (5, zI a4), (6, zI (if F_M_byteOf w a0 a1 a2 a3 a4 (i14 : Int) = 0 then A_M_feed_6 w a0 a1 a2 a3 a4 i14 else (A_M_feed_6 w a0 a1 a2 a3 a4 i14) + 1)), (7, zI ((i14 + 1 : Nat) : Int))] [] w Q := ih
    refine z_iload (pc' := 8) 7 rfl dX12_feed_6 rfl ?_
    refine z_bipush (pc' := 10) (by decide) dX12_feed_8 rfl ?_
    obtain ⟨r15, h⟩ := h
    refine z_icmp_ge 44 dX12_feed_10 (by decide) (pc' := 13) rfl r15 (by decide) (fun c => absurd c (by omega)) (fun _ => ?_)
    refine z_iload (pc' := 15) 6 rfl dX12_feed_13 rfl ?_
    refine z_iload_n (pc' := 16) 1 rfl rfl dX12_feed_15 rfl ?_
    refine z_iload_n (pc' := 17) 2 rfl rfl dX12_feed_16 rfl ?_
    refine z_iload_n (pc' := 18) 3 rfl rfl dX12_feed_17 rfl ?_
    refine z_iload (pc' := 20) 4 rfl dX12_feed_18 rfl ?_
    refine z_iload (pc' := 22) 5 rfl dX12_feed_20 rfl ?_
    refine z_iload (pc' := 24) 7 rfl dX12_feed_22 rfl ?_
    refine z_invS (as := [zI a0, zI a1, zI a2, zI a3, zI a4, zI (i14 : Int)]) (st := [zI (A_M_feed_6 w a0 a1 a2 a3 a4 i14)]) (C := m_X12_byteOf) (pc' := 27) dX12_feed_24 rfl t_6_200 k_X12_byteOf rfl rfl (Nat.le_of_ble_eq_true rfl) ?_
    obtain ⟨r16, h⟩ := h
    refine c_M_byteOf r16 ?_
    show z_Wp m_X12_feed _ 27 [(0, zR 0), (1, zI a0), (2, zI a1), (3, zI a2), (4, zI a3), (5, zI a4), (6, zI (A_M_feed_6 w a0 a1 a2 a3 a4 i14)), (7, zI (i14 : Int))] [zI (F_M_byteOf w a0 a1 a2 a3 a4 (i14 : Int)), zI (A_M_feed_6 w a0 a1 a2 a3 a4 i14)] w _
    have r17 := h
    refine z_if_eq 34 dX12_feed_27 (by decide) (pc' := 30) rfl r17 (fun c37 => ?_) (fun c37 => ?_)
    · skip
      rw [if_pos c37] at ih
      refine z_iconst (pc' := 35) dX12_feed_34 rfl ?_
      refine z_iadd (pc' := 36) dX12_feed_35 rfl ?_
      refine z_eqI (y := A_M_feed_6 w a0 a1 a2 a3 a4 i14) (by omega) ?_
      refine z_istore (pc' := 38) (ls' := [(0, zR 0), (1, zI a0), (2, zI a1), (3, zI a2), (4, zI a3), (5, zI a4), (6, zI (A_M_feed_6 w a0 a1 a2 a3 a4 i14)), (7, zI (i14 : Int))]) (by decide) rfl rfl dX12_feed_36 rfl ?_
      refine z_iinc (pc' := 41) (ls' := [(0, zR 0), (1, zI a0), (2, zI a1), (3, zI a2), (4, zI a3), (5, zI a4), (6, zI (A_M_feed_6 w a0 a1 a2 a3 a4 i14)), (7, zI ((i14 : Int) + 1))]) 7 rfl (by decide) rfl rfl dX12_feed_38 rfl ?_
      refine z_goto 6 dX12_feed_41 (by decide) ?_
      exact ih
    · skip
      rw [if_neg c37] at ih
      refine z_iconst (pc' := 31) dX12_feed_30 rfl ?_
      refine z_goto 35 dX12_feed_31 (by decide) ?_
      refine z_iadd (pc' := 36) dX12_feed_35 rfl ?_
      refine z_istore (pc' := 38) (ls' := [(0, zR 0), (1, zI a0), (2, zI a1), (3, zI a2), (4, zI a3), (5, zI a4), (6, zI ((A_M_feed_6 w a0 a1 a2 a3 a4 i14) + 1)), (7, zI (i14 : Int))]) (by decide) rfl rfl dX12_feed_36 rfl ?_
      refine z_iinc (pc' := 41) (ls' := [(0, zR 0), (1, zI a0), (2, zI a1), (3, zI a2), (4, zI a3), (5, zI a4), (6, zI ((A_M_feed_6 w a0 a1 a2 a3 a4 i14) + 1)), (7, zI ((i14 : Int) + 1))]) 7 rfl (by decide) rfl rfl dX12_feed_38 rfl ?_
      refine z_goto 6 dX12_feed_41 (by decide) ?_
      exact ih
def A_M_isWhole_73 (w : z_Wd)  (s0 : Int): Nat → Int
  | 0 => s0
  | i44 + 1 => if A_M_isWhole_73 w s0 i44 = 0 then 0 else if w 14 ((2 * (i44 : Int)).toNat) ≥ w 0 22 then 0 else if w 14 (((2 * (i44 : Int)) + 1).toNat) ≥ w 0 22 then 0 else if w 14 ((2 * (i44 : Int)).toNat) = w 14 (((2 * (i44 : Int)) + 1).toNat) then 0 else 1
def A_M_isWhole_23 (w : z_Wd)  : Nat → Int
  | 0 => 0
  | i27 + 1 => if A_M_isWhole_23 w i27 = 0 then 0 else if w 13 (((3 * (i27 : Int)) + 1).toNat) ≥ w 0 22 then 0 else if w 13 (((3 * (i27 : Int)) + 1).toNat) = (i27 : Int) then 0 else 1
def A_M_isWhole_73x2 (w : z_Wd)  (s0 : Int): Nat → Int
  | 0 => s0
  | i96 + 1 => if A_M_isWhole_73x2 w s0 i96 = 0 then 0 else if w 14 ((2 * (i96 : Int)).toNat) ≥ w 0 22 then 0 else if w 14 (((2 * (i96 : Int)) + 1).toNat) ≥ w 0 22 then 0 else if w 14 ((2 * (i96 : Int)).toNat) = w 14 (((2 * (i96 : Int)) + 1).toNat) then 0 else 1
def A_M_isWhole_23x2 (w : z_Wd)  : Nat → Int
  | 0 => 0
  | i81 + 1 => if A_M_isWhole_23x2 w i81 = 0 then 0 else if w 13 (((3 * (i81 : Int)) + 1).toNat) ≥ w 0 22 then 0 else if w 13 (((3 * (i81 : Int)) + 1).toNat) = (i81 : Int) then 0 else 1
def A_M_isWhole_73x3 (w : z_Wd)  (s0 : Int): Nat → Int
  | 0 => s0
  | i147 + 1 => if A_M_isWhole_73x3 w s0 i147 = 0 then 0 else if w 14 ((2 * (i147 : Int)).toNat) ≥ w 0 22 then 0 else if w 14 (((2 * (i147 : Int)) + 1).toNat) ≥ w 0 22 then 0 else if w 14 ((2 * (i147 : Int)).toNat) = w 14 (((2 * (i147 : Int)) + 1).toNat) then 0 else 1
def A_M_isWhole_23x3 (w : z_Wd)  : Nat → Int
  | 0 => 1
  | i132 + 1 => if A_M_isWhole_23x3 w i132 = 0 then 0 else if w 13 (((3 * (i132 : Int)) + 1).toNat) ≥ w 0 22 then 0 else if w 13 (((3 * (i132 : Int)) + 1).toNat) = (i132 : Int) then 0 else 1
def P_M_isWhole (w : z_Wd)  : Prop := (-2147483648 ≤ w 0 21 ∧ w 0 21 < 2147483648) ∧ ((w 0 21 ≤ 0 → (∀ i27 : Nat, i27 < ((w 0 22).toNat) → (-2147483648 ≤ (i27 : Int) ∧ (i27 : Int) < 2147483648) ∧ (-2147483648 ≤ w 0 22 ∧ w 0 22 < 2147483648) ∧ (0 ≤ (3 * (i27 : Int)) + 1 ∧ (3 * (i27 : Int)) + 1 < 21) ∧ (-2147483648 ≤ A_M_isWhole_23 w i27 ∧ A_M_isWhole_23 w i27 < 2147483648) ∧ ((A_M_isWhole_23 w i27 = 0 → True) ∧ (¬ (A_M_isWhole_23 w i27 = 0) → -2147483648 ≤ w 13 (((3 * (i27 : Int)) + 1).toNat) ∧ w 13 (((3 * (i27 : Int)) + 1).toNat) < 2147483648))) ∧ ((-2147483648 ≤ (((w 0 22).toNat : Nat) : Int) ∧ (((w 0 22).toNat : Nat) : Int) < 2147483648) ∧ (-2147483648 ≤ w 0 22 ∧ w 0 22 < 2147483648) ∧ ((∀ i44 : Nat, i44 < ((w 0 23).toNat) → (-2147483648 ≤ (i44 : Int) ∧ (i44 : Int) < 2147483648) ∧ (-2147483648 ≤ w 0 23 ∧ w 0 23 < 2147483648) ∧ (-2147483648 ≤ A_M_isWhole_73 w (A_M_isWhole_23 w (w 0 22).toNat) i44 ∧ A_M_isWhole_73 w (A_M_isWhole_23 w (w 0 22).toNat) i44 < 2147483648) ∧ ((A_M_isWhole_73 w (A_M_isWhole_23 w (w 0 22).toNat) i44 = 0 → True) ∧ (¬ (A_M_isWhole_73 w (A_M_isWhole_23 w (w 0 22).toNat) i44 = 0) → (0 ≤ 2 * (i44 : Int) ∧ 2 * (i44 : Int) < 12) ∧ (-2147483648 ≤ w 14 ((2 * (i44 : Int)).toNat) ∧ w 14 ((2 * (i44 : Int)).toNat) < 2147483648) ∧ ((w 14 ((2 * (i44 : Int)).toNat) ≥ w 0 22 → True) ∧ (¬ (w 14 ((2 * (i44 : Int)).toNat) ≥ w 0 22) → (0 ≤ (2 * (i44 : Int)) + 1 ∧ (2 * (i44 : Int)) + 1 < 12) ∧ (-2147483648 ≤ w 14 (((2 * (i44 : Int)) + 1).toNat) ∧ w 14 (((2 * (i44 : Int)) + 1).toNat) < 2147483648)))))) ∧ ((-2147483648 ≤ (((w 0 23).toNat : Nat) : Int) ∧ (((w 0 23).toNat : Nat) : Int) < 2147483648) ∧ (-2147483648 ≤ w 0 23 ∧ w 0 23 < 2147483648) ∧ (A_M_isWhole_73 w (A_M_isWhole_23 w (w 0 22).toNat) (w 0 23).toNat = 0 ∨ A_M_isWhole_73 w (A_M_isWhole_23 w (w 0 22).toNat) (w 0 23).toNat = 1))))) ∧ (¬ (w 0 21 ≤ 0) → (-2147483648 ≤ w 0 22 ∧ w 0 22 < 2147483648) ∧ ((w 0 22 ≤ 1 → (∀ i81 : Nat, i81 < ((w 0 22).toNat) → (-2147483648 ≤ (i81 : Int) ∧ (i81 : Int) < 2147483648) ∧ (0 ≤ (3 * (i81 : Int)) + 1 ∧ (3 * (i81 : Int)) + 1 < 21) ∧ (-2147483648 ≤ A_M_isWhole_23x2 w i81 ∧ A_M_isWhole_23x2 w i81 < 2147483648) ∧ ((A_M_isWhole_23x2 w i81 = 0 → True) ∧ (¬ (A_M_isWhole_23x2 w i81 = 0) → -2147483648 ≤ w 13 (((3 * (i81 : Int)) + 1).toNat) ∧ w 13 (((3 * (i81 : Int)) + 1).toNat) < 2147483648))) ∧ ((-2147483648 ≤ (((w 0 22).toNat : Nat) : Int) ∧ (((w 0 22).toNat : Nat) : Int) < 2147483648) ∧ ((∀ i96 : Nat, i96 < ((w 0 23).toNat) → (-2147483648 ≤ (i96 : Int) ∧ (i96 : Int) < 2147483648) ∧ (-2147483648 ≤ w 0 23 ∧ w 0 23 < 2147483648) ∧ (-2147483648 ≤ A_M_isWhole_73x2 w (A_M_isWhole_23x2 w (w 0 22).toNat) i96 ∧ A_M_isWhole_73x2 w (A_M_isWhole_23x2 w (w 0 22).toNat) i96 < 2147483648) ∧ ((A_M_isWhole_73x2 w (A_M_isWhole_23x2 w (w 0 22).toNat) i96 = 0 → True) ∧ (¬ (A_M_isWhole_73x2 w (A_M_isWhole_23x2 w (w 0 22).toNat) i96 = 0) → (0 ≤ 2 * (i96 : Int) ∧ 2 * (i96 : Int) < 12) ∧ (-2147483648 ≤ w 14 ((2 * (i96 : Int)).toNat) ∧ w 14 ((2 * (i96 : Int)).toNat) < 2147483648) ∧ ((w 14 ((2 * (i96 : Int)).toNat) ≥ w 0 22 → True) ∧ (¬ (w 14 ((2 * (i96 : Int)).toNat) ≥ w 0 22) → (0 ≤ (2 * (i96 : Int)) + 1 ∧ (2 * (i96 : Int)) + 1 < 12) ∧ (-2147483648 ≤ w 14 (((2 * (i96 : Int)) + 1).toNat) ∧ w 14 (((2 * (i96 : Int)) + 1).toNat) < 2147483648)))))) ∧ ((-2147483648 ≤ (((w 0 23).toNat : Nat) : Int) ∧ (((w 0 23).toNat : Nat) : Int) < 2147483648) ∧ (-2147483648 ≤ w 0 23 ∧ w 0 23 < 2147483648) ∧ (A_M_isWhole_73x2 w (A_M_isWhole_23x2 w (w 0 22).toNat) (w 0 23).toNat = 0 ∨ A_M_isWhole_73x2 w (A_M_isWhole_23x2 w (w 0 22).toNat) (w 0 23).toNat = 1))))) ∧ (¬ (w 0 22 ≤ 1) → (∀ i132 : Nat, i132 < ((w 0 22).toNat) → (-2147483648 ≤ (i132 : Int) ∧ (i132 : Int) < 2147483648) ∧ (0 ≤ (3 * (i132 : Int)) + 1 ∧ (3 * (i132 : Int)) + 1 < 21) ∧ (-2147483648 ≤ A_M_isWhole_23x3 w i132 ∧ A_M_isWhole_23x3 w i132 < 2147483648) ∧ ((A_M_isWhole_23x3 w i132 = 0 → True) ∧ (¬ (A_M_isWhole_23x3 w i132 = 0) → -2147483648 ≤ w 13 (((3 * (i132 : Int)) + 1).toNat) ∧ w 13 (((3 * (i132 : Int)) + 1).toNat) < 2147483648))) ∧ ((-2147483648 ≤ (((w 0 22).toNat : Nat) : Int) ∧ (((w 0 22).toNat : Nat) : Int) < 2147483648) ∧ ((∀ i147 : Nat, i147 < ((w 0 23).toNat) → (-2147483648 ≤ (i147 : Int) ∧ (i147 : Int) < 2147483648) ∧ (-2147483648 ≤ w 0 23 ∧ w 0 23 < 2147483648) ∧ (-2147483648 ≤ A_M_isWhole_73x3 w (A_M_isWhole_23x3 w (w 0 22).toNat) i147 ∧ A_M_isWhole_73x3 w (A_M_isWhole_23x3 w (w 0 22).toNat) i147 < 2147483648) ∧ ((A_M_isWhole_73x3 w (A_M_isWhole_23x3 w (w 0 22).toNat) i147 = 0 → True) ∧ (¬ (A_M_isWhole_73x3 w (A_M_isWhole_23x3 w (w 0 22).toNat) i147 = 0) → (0 ≤ 2 * (i147 : Int) ∧ 2 * (i147 : Int) < 12) ∧ (-2147483648 ≤ w 14 ((2 * (i147 : Int)).toNat) ∧ w 14 ((2 * (i147 : Int)).toNat) < 2147483648) ∧ ((w 14 ((2 * (i147 : Int)).toNat) ≥ w 0 22 → True) ∧ (¬ (w 14 ((2 * (i147 : Int)).toNat) ≥ w 0 22) → (0 ≤ (2 * (i147 : Int)) + 1 ∧ (2 * (i147 : Int)) + 1 < 12) ∧ (-2147483648 ≤ w 14 (((2 * (i147 : Int)) + 1).toNat) ∧ w 14 (((2 * (i147 : Int)) + 1).toNat) < 2147483648)))))) ∧ ((-2147483648 ≤ (((w 0 23).toNat : Nat) : Int) ∧ (((w 0 23).toNat : Nat) : Int) < 2147483648) ∧ (-2147483648 ≤ w 0 23 ∧ w 0 23 < 2147483648) ∧ (A_M_isWhole_73x3 w (A_M_isWhole_23x3 w (w 0 22).toNat) (w 0 23).toNat = 0 ∨ A_M_isWhole_73x3 w (A_M_isWhole_23x3 w (w 0 22).toNat) (w 0 23).toNat = 1))))))))
def F_M_isWhole (w : z_Wd)  : Int := if w 0 21 ≤ 0 then A_M_isWhole_73 w (A_M_isWhole_23 w (w 0 22).toNat) (w 0 23).toNat else if w 0 22 ≤ 1 then A_M_isWhole_73x2 w (A_M_isWhole_23x2 w (w 0 22).toNat) (w 0 23).toNat else A_M_isWhole_73x3 w (A_M_isWhole_23x3 w (w 0 22).toNat) (w 0 23).toNat
set_option maxRecDepth 4000 in
theorem c_M_isWhole {d : Nat} {w : z_Wd} {Q : Option z_V → z_Wd → Prop} (h : P_M_isWhole w ) (k : Q (some (zI (F_M_isWhole w ))) w) : z_Wc d m_X12_isWhole [zR 0] w Q := by
  unfold P_M_isWhole at h
  unfold F_M_isWhole at k
  refine z_enter rfl (Nat.le_of_ble_eq_true rfl) ?_
  show z_Wp m_X12_isWhole _ 0 [(0, zR 0)] [] w _
  refine z_aload_n (pc' := 1) 0 rfl rfl dX12_isWhole_0 rfl ?_
  refine z_getI2 (v := w 0 21) (pc' := 4) g_X12_235 (by decide) rfl rfl rfl dX12_isWhole_1 rfl ?_
  obtain ⟨r1, h⟩ := h
  refine z_if_le 19 dX12_isWhole_4 (by decide) (pc' := 7) rfl r1 (fun c => ?_) (fun c => ?_)
  · have h := h.1 c
    rw [if_pos c] at k
    refine z_iconst (pc' := 20) dX12_isWhole_19 rfl ?_
    refine z_istore_n (pc' := 21) (ls' := [(0, zR 0), (1, zI 0)]) rfl (by decide) rfl rfl dX12_isWhole_20 rfl ?_
    refine z_iconst (pc' := 22) dX12_isWhole_21 rfl ?_
    refine z_istore_n (pc' := 23) (ls' := [(0, zR 0), (1, zI 0), (2, zI 0)]) rfl (by decide) rfl rfl dX12_isWhole_22 rfl ?_
    refine z_upto ((w 0 22).toNat) (fun i27 => z_Wp m_X12_isWhole d 23 [(0, zR 0), (1, zI (A_M_isWhole_23 w i27)), (2, zI (i27 : Int))] [] w Q) ?_ ?_
    · skip
      have h := h.2
      refine z_iload_n (pc' := 24) 2 rfl rfl dX12_isWhole_23 rfl ?_
      refine z_aload_n (pc' := 25) 0 rfl rfl dX12_isWhole_24 rfl ?_
      refine z_getI2 (v := w 0 22) (pc' := 28) g_X12_238 (by decide) rfl rfl rfl dX12_isWhole_25 rfl ?_
      obtain ⟨r33, h⟩ := h
      obtain ⟨r34, h⟩ := h
      refine z_icmp_ge 71 dX12_isWhole_28 (by decide) (pc' := 31) rfl r33 r34 (fun _ => ?_) (fun c => absurd c (by omega))
      refine z_iconst (pc' := 72) dX12_isWhole_71 rfl ?_
      refine z_istore_n (pc' := 73) (ls' := [(0, zR 0), (1, zI (A_M_isWhole_23 w (w 0 22).toNat)), (2, zI 0)]) rfl (by decide) rfl rfl dX12_isWhole_72 rfl ?_
      refine z_upto ((w 0 23).toNat) (fun i44 => z_Wp m_X12_isWhole d 73 [(0, zR 0), (1, zI (A_M_isWhole_73 w (A_M_isWhole_23 w (w 0 22).toNat) i44)), (2, zI (i44 : Int))] [] w Q) ?_ ?_
      · skip
        have h := h.2
        refine z_iload_n (pc' := 74) 2 rfl rfl dX12_isWhole_73 rfl ?_
        refine z_aload_n (pc' := 75) 0 rfl rfl dX12_isWhole_74 rfl ?_
        refine z_getI2 (v := w 0 23) (pc' := 78) g_X12_241 (by decide) rfl rfl rfl dX12_isWhole_75 rfl ?_
        obtain ⟨r52, h⟩ := h
        obtain ⟨r53, h⟩ := h
        refine z_icmp_ge 150 dX12_isWhole_78 (by decide) (pc' := 81) rfl r52 r53 (fun _ => ?_) (fun c => absurd c (by omega))
        refine z_iload_n (pc' := 151) 1 rfl rfl dX12_isWhole_150 rfl ?_
        have r54 := h
        refine z_zret rfl r54 dX12_isWhole_151 ?_
        exact k
      · intro i44 hi ih
        have h := h.1 i44 hi
        have ih : z_Wp m_X12_isWhole d 73 [(0, zR 0), (1, zI (if A_M_isWhole_73 w (A_M_isWhole_23 w (w 0 22).toNat) i44 = 0 then 0 else if w 14 ((2 * (i44 : Int)).toNat) ≥ w 0 22 then 0 else if w 14 (((2 * (i44 : Int)) + 1).toNat) ≥ w 0 22 then 0 else if w 14 ((2 * (i44 : Int)).toNat) = w 14 (((2 * (i44 : Int)) + 1).toNat) then 0 else 1)), (2, zI ((i44 + 1 : Nat) : Int))] [] w Q := ih
        refine z_iload_n (pc' := 74) 2 rfl rfl dX12_isWhole_73 rfl ?_
        refine z_aload_n (pc' := 75) 0 rfl rfl dX12_isWhole_74 rfl ?_
        refine z_getI2 (v := w 0 23) (pc' := 78) g_X12_241 (by decide) rfl rfl rfl dX12_isWhole_75 rfl ?_
        obtain ⟨r45, h⟩ := h
        obtain ⟨r46, h⟩ := h
        refine z_icmp_ge 150 dX12_isWhole_78 (by decide) (pc' := 81) rfl r45 r46 (fun c => absurd c (by omega)) (fun _ => ?_)
        refine z_iload_n (pc' := 82) 1 rfl rfl dX12_isWhole_81 rfl ?_
        obtain ⟨r47, h⟩ := h
        refine z_if_eq 142 dX12_isWhole_82 (by decide) (pc' := 85) rfl r47 (fun c38 => ?_) (fun c38 => ?_)
        · have h := h.1 c38
          rw [if_pos c38] at ih
          refine z_iconst (pc' := 143) dX12_isWhole_142 rfl ?_
          refine z_istore_n (pc' := 144) (ls' := [(0, zR 0), (1, zI 0), (2, zI (i44 : Int))]) rfl (by decide) rfl rfl dX12_isWhole_143 rfl ?_
          refine z_iinc (pc' := 147) (ls' := [(0, zR 0), (1, zI 0), (2, zI ((i44 : Int) + 1))]) 2 rfl (by decide) rfl rfl dX12_isWhole_144 rfl ?_
          refine z_goto 73 dX12_isWhole_147 (by decide) ?_
          exact ih
        · have h := h.2 c38
          rw [if_neg c38] at ih
          refine z_aload_n (pc' := 86) 0 rfl rfl dX12_isWhole_85 rfl ?_
          refine z_getR (t := 14) (pc' := 89) g_X12_49 (by decide) rfl rfl dX12_isWhole_86 rfl ?_
          refine z_iconst (pc' := 90) dX12_isWhole_89 rfl ?_
          refine z_iload_n (pc' := 91) 2 rfl rfl dX12_isWhole_90 rfl ?_
          refine z_imul (pc' := 92) dX12_isWhole_91 rfl ?_
          obtain ⟨r48, h⟩ := h
          refine z_iald2 (v := w 14 ((2 * (i44 : Int)).toNat)) (pc' := 93) (by decide) rfl r48 (by decide) rfl dX12_isWhole_92 rfl ?_
          refine z_aload_n (pc' := 94) 0 rfl rfl dX12_isWhole_93 rfl ?_
          refine z_getI2 (v := w 0 22) (pc' := 97) g_X12_238 (by decide) rfl rfl rfl dX12_isWhole_94 rfl ?_
          obtain ⟨r49, h⟩ := h
          refine z_icmp_ge 142 dX12_isWhole_97 (by decide) (pc' := 100) rfl r49 r34 (fun c39 => ?_) (fun c39 => ?_)
          · have h := h.1 c39
            rw [if_pos c39] at ih
            refine z_iconst (pc' := 143) dX12_isWhole_142 rfl ?_
            refine z_istore_n (pc' := 144) (ls' := [(0, zR 0), (1, zI 0), (2, zI (i44 : Int))]) rfl (by decide) rfl rfl dX12_isWhole_143 rfl ?_
            refine z_iinc (pc' := 147) (ls' := [(0, zR 0), (1, zI 0), (2, zI ((i44 : Int) + 1))]) 2 rfl (by decide) rfl rfl dX12_isWhole_144 rfl ?_
            refine z_goto 73 dX12_isWhole_147 (by decide) ?_
            exact ih
          · have h := h.2 c39
            rw [if_neg c39] at ih
            refine z_aload_n (pc' := 101) 0 rfl rfl dX12_isWhole_100 rfl ?_
            refine z_getR (t := 14) (pc' := 104) g_X12_49 (by decide) rfl rfl dX12_isWhole_101 rfl ?_
            refine z_iconst (pc' := 105) dX12_isWhole_104 rfl ?_
            refine z_iload_n (pc' := 106) 2 rfl rfl dX12_isWhole_105 rfl ?_
            refine z_imul (pc' := 107) dX12_isWhole_106 rfl ?_
            refine z_iconst (pc' := 108) dX12_isWhole_107 rfl ?_
            refine z_iadd (pc' := 109) dX12_isWhole_108 rfl ?_
            obtain ⟨r50, h⟩ := h
            refine z_iald2 (v := w 14 (((2 * (i44 : Int)) + 1).toNat)) (pc' := 110) (by decide) rfl r50 (by decide) rfl dX12_isWhole_109 rfl ?_
            refine z_aload_n (pc' := 111) 0 rfl rfl dX12_isWhole_110 rfl ?_
            refine z_getI2 (v := w 0 22) (pc' := 114) g_X12_238 (by decide) rfl rfl rfl dX12_isWhole_111 rfl ?_
            have r51 := h
            refine z_icmp_ge 142 dX12_isWhole_114 (by decide) (pc' := 117) rfl r51 r34 (fun c40 => ?_) (fun c40 => ?_)
            · skip
              rw [if_pos c40] at ih
              refine z_iconst (pc' := 143) dX12_isWhole_142 rfl ?_
              refine z_istore_n (pc' := 144) (ls' := [(0, zR 0), (1, zI 0), (2, zI (i44 : Int))]) rfl (by decide) rfl rfl dX12_isWhole_143 rfl ?_
              refine z_iinc (pc' := 147) (ls' := [(0, zR 0), (1, zI 0), (2, zI ((i44 : Int) + 1))]) 2 rfl (by decide) rfl rfl dX12_isWhole_144 rfl ?_
              refine z_goto 73 dX12_isWhole_147 (by decide) ?_
              exact ih
            · skip
              rw [if_neg c40] at ih
              refine z_aload_n (pc' := 118) 0 rfl rfl dX12_isWhole_117 rfl ?_
              refine z_getR (t := 14) (pc' := 121) g_X12_49 (by decide) rfl rfl dX12_isWhole_118 rfl ?_
              refine z_iconst (pc' := 122) dX12_isWhole_121 rfl ?_
              refine z_iload_n (pc' := 123) 2 rfl rfl dX12_isWhole_122 rfl ?_
              refine z_imul (pc' := 124) dX12_isWhole_123 rfl ?_
              refine z_iald2 (v := w 14 ((2 * (i44 : Int)).toNat)) (pc' := 125) (by decide) rfl r48 (by decide) rfl dX12_isWhole_124 rfl ?_
              refine z_aload_n (pc' := 126) 0 rfl rfl dX12_isWhole_125 rfl ?_
              refine z_getR (t := 14) (pc' := 129) g_X12_49 (by decide) rfl rfl dX12_isWhole_126 rfl ?_
              refine z_iconst (pc' := 130) dX12_isWhole_129 rfl ?_
              refine z_iload_n (pc' := 131) 2 rfl rfl dX12_isWhole_130 rfl ?_
              refine z_imul (pc' := 132) dX12_isWhole_131 rfl ?_
              refine z_iconst (pc' := 133) dX12_isWhole_132 rfl ?_
              refine z_iadd (pc' := 134) dX12_isWhole_133 rfl ?_
              refine z_iald2 (v := w 14 (((2 * (i44 : Int)) + 1).toNat)) (pc' := 135) (by decide) rfl r50 (by decide) rfl dX12_isWhole_134 rfl ?_
              refine z_icmp_eq 142 dX12_isWhole_135 (by decide) (pc' := 138) rfl r49 r51 (fun c41 => ?_) (fun c41 => ?_)
              · skip
                rw [if_pos c41] at ih
                refine z_iconst (pc' := 143) dX12_isWhole_142 rfl ?_
                refine z_istore_n (pc' := 144) (ls' := [(0, zR 0), (1, zI 0), (2, zI (i44 : Int))]) rfl (by decide) rfl rfl dX12_isWhole_143 rfl ?_
                refine z_iinc (pc' := 147) (ls' := [(0, zR 0), (1, zI 0), (2, zI ((i44 : Int) + 1))]) 2 rfl (by decide) rfl rfl dX12_isWhole_144 rfl ?_
                refine z_goto 73 dX12_isWhole_147 (by decide) ?_
                exact ih
              · skip
                rw [if_neg c41] at ih
                refine z_iconst (pc' := 139) dX12_isWhole_138 rfl ?_
                refine z_goto 143 dX12_isWhole_139 (by decide) ?_
                refine z_istore_n (pc' := 144) (ls' := [(0, zR 0), (1, zI 1), (2, zI (i44 : Int))]) rfl (by decide) rfl rfl dX12_isWhole_143 rfl ?_
                refine z_iinc (pc' := 147) (ls' := [(0, zR 0), (1, zI 1), (2, zI ((i44 : Int) + 1))]) 2 rfl (by decide) rfl rfl dX12_isWhole_144 rfl ?_
                refine z_goto 73 dX12_isWhole_147 (by decide) ?_
                exact ih
    · intro i27 hi ih
      have h := h.1 i27 hi
      have ih : z_Wp m_X12_isWhole d 23 [(0, zR 0), (1, zI (if A_M_isWhole_23 w i27 = 0 then 0 else if w 13 (((3 * (i27 : Int)) + 1).toNat) ≥ w 0 22 then 0 else if w 13 (((3 * (i27 : Int)) + 1).toNat) = (i27 : Int) then 0 else 1)), (2, zI ((i27 + 1 : Nat) : Int))] [] w Q := ih
      refine z_iload_n (pc' := 24) 2 rfl rfl dX12_isWhole_23 rfl ?_
      refine z_aload_n (pc' := 25) 0 rfl rfl dX12_isWhole_24 rfl ?_
      refine z_getI2 (v := w 0 22) (pc' := 28) g_X12_238 (by decide) rfl rfl rfl dX12_isWhole_25 rfl ?_
      obtain ⟨r28, h⟩ := h
      obtain ⟨r29, h⟩ := h
      refine z_icmp_ge 71 dX12_isWhole_28 (by decide) (pc' := 31) rfl r28 r29 (fun c => absurd c (by omega)) (fun _ => ?_)
      refine z_aload_n (pc' := 32) 0 rfl rfl dX12_isWhole_31 rfl ?_
      refine z_getR (t := 13) (pc' := 35) g_X12_46 (by decide) rfl rfl dX12_isWhole_32 rfl ?_
      refine z_iconst (pc' := 36) dX12_isWhole_35 rfl ?_
      refine z_iload_n (pc' := 37) 2 rfl rfl dX12_isWhole_36 rfl ?_
      refine z_imul (pc' := 38) dX12_isWhole_37 rfl ?_
      refine z_iconst (pc' := 39) dX12_isWhole_38 rfl ?_
      refine z_iadd (pc' := 40) dX12_isWhole_39 rfl ?_
      obtain ⟨r30, h⟩ := h
      refine z_iald2 (v := w 13 (((3 * (i27 : Int)) + 1).toNat)) (pc' := 41) (by decide) rfl r30 (by decide) rfl dX12_isWhole_40 rfl ?_
      refine z_istore_n (pc' := 42) (ls' := [(0, zR 0), (1, zI (A_M_isWhole_23 w i27)), (2, zI (i27 : Int)), (3, zI (w 13 (((3 * (i27 : Int)) + 1).toNat)))]) rfl (by decide) rfl rfl dX12_isWhole_41 rfl ?_
      refine z_iload_n (pc' := 43) 1 rfl rfl dX12_isWhole_42 rfl ?_
      obtain ⟨r31, h⟩ := h
      refine z_if_eq 63 dX12_isWhole_43 (by decide) (pc' := 46) rfl r31 (fun c42 => ?_) (fun c42 => ?_)
      · have h := h.1 c42
        rw [if_pos c42] at ih
        refine z_iconst (pc' := 64) dX12_isWhole_63 rfl ?_
        refine z_istore_n (pc' := 65) (ls' := [(0, zR 0), (1, zI 0), (2, zI (i27 : Int)), (3, zI (w 13 (((3 * (i27 : Int)) + 1).toNat)))]) rfl (by decide) rfl rfl dX12_isWhole_64 rfl ?_
        refine z_iinc (pc' := 68) (ls' := [(0, zR 0), (1, zI 0), (2, zI ((i27 : Int) + 1)), (3, zI (w 13 (((3 * (i27 : Int)) + 1).toNat)))]) 2 rfl (by decide) rfl rfl dX12_isWhole_65 rfl ?_
        refine z_goto 23 dX12_isWhole_68 (by decide) ?_
        exact z_Wp.sub (ls' := [(0, zR 0), (1, zI 0), (2, zI ((i27 : Int) + 1))]) (z_lcast (by rw [z_c0 i27]) ih) (z_sub_of [0, 1, 2] rfl)
      · have h := h.2 c42
        rw [if_neg c42] at ih
        refine z_iload_n (pc' := 47) 3 rfl rfl dX12_isWhole_46 rfl ?_
        refine z_aload_n (pc' := 48) 0 rfl rfl dX12_isWhole_47 rfl ?_
        refine z_getI2 (v := w 0 22) (pc' := 51) g_X12_238 (by decide) rfl rfl rfl dX12_isWhole_48 rfl ?_
        have r32 := h
        refine z_icmp_ge 63 dX12_isWhole_51 (by decide) (pc' := 54) rfl r32 r29 (fun c43 => ?_) (fun c43 => ?_)
        · skip
          rw [if_pos c43] at ih
          refine z_iconst (pc' := 64) dX12_isWhole_63 rfl ?_
          refine z_istore_n (pc' := 65) (ls' := [(0, zR 0), (1, zI 0), (2, zI (i27 : Int)), (3, zI (w 13 (((3 * (i27 : Int)) + 1).toNat)))]) rfl (by decide) rfl rfl dX12_isWhole_64 rfl ?_
          refine z_iinc (pc' := 68) (ls' := [(0, zR 0), (1, zI 0), (2, zI ((i27 : Int) + 1)), (3, zI (w 13 (((3 * (i27 : Int)) + 1).toNat)))]) 2 rfl (by decide) rfl rfl dX12_isWhole_65 rfl ?_
          refine z_goto 23 dX12_isWhole_68 (by decide) ?_
          exact z_Wp.sub (ls' := [(0, zR 0), (1, zI 0), (2, zI ((i27 : Int) + 1))]) (z_lcast (by rw [z_c0 i27]) ih) (z_sub_of [0, 1, 2] rfl)
        · skip
          rw [if_neg c43] at ih
          refine z_iload_n (pc' := 55) 3 rfl rfl dX12_isWhole_54 rfl ?_
          refine z_iload_n (pc' := 56) 2 rfl rfl dX12_isWhole_55 rfl ?_
          refine z_icmp_eq 63 dX12_isWhole_56 (by decide) (pc' := 59) rfl r32 r28 (fun c44 => ?_) (fun c44 => ?_)
          · skip
            rw [if_pos c44] at ih
            refine z_iconst (pc' := 64) dX12_isWhole_63 rfl ?_
            refine z_istore_n (pc' := 65) (ls' := [(0, zR 0), (1, zI 0), (2, zI (i27 : Int)), (3, zI (w 13 (((3 * (i27 : Int)) + 1).toNat)))]) rfl (by decide) rfl rfl dX12_isWhole_64 rfl ?_
            refine z_iinc (pc' := 68) (ls' := [(0, zR 0), (1, zI 0), (2, zI ((i27 : Int) + 1)), (3, zI (w 13 (((3 * (i27 : Int)) + 1).toNat)))]) 2 rfl (by decide) rfl rfl dX12_isWhole_65 rfl ?_
            refine z_goto 23 dX12_isWhole_68 (by decide) ?_
            exact z_Wp.sub (ls' := [(0, zR 0), (1, zI 0), (2, zI ((i27 : Int) + 1))]) (z_lcast (by rw [z_c0 i27]) ih) (z_sub_of [0, 1, 2] rfl)
          · skip
            rw [if_neg c44] at ih
            refine z_iconst (pc' := 60) dX12_isWhole_59 rfl ?_
            refine z_goto 64 dX12_isWhole_60 (by decide) ?_
            refine z_istore_n (pc' := 65) (ls' := [(0, zR 0), (1, zI 1), (2, zI (i27 : Int)), (3, zI (w 13 (((3 * (i27 : Int)) + 1).toNat)))]) rfl (by decide) rfl rfl dX12_isWhole_64 rfl ?_
            refine z_iinc (pc' := 68) (ls' := [(0, zR 0), (1, zI 1), (2, zI ((i27 : Int) + 1)), (3, zI (w 13 (((3 * (i27 : Int)) + 1).toNat)))]) 2 rfl (by decide) rfl rfl dX12_isWhole_65 rfl ?_
            refine z_goto 23 dX12_isWhole_68 (by decide) ?_
            exact z_Wp.sub (ls' := [(0, zR 0), (1, zI 1), (2, zI ((i27 : Int) + 1))]) (z_lcast (by rw [z_c0 i27]) ih) (z_sub_of [0, 1, 2] rfl)
  · have h := h.2 c
    rw [if_neg c] at k
    refine z_aload_n (pc' := 8) 0 rfl rfl dX12_isWhole_7 rfl ?_
    refine z_getI2 (v := w 0 22) (pc' := 11) g_X12_238 (by decide) rfl rfl rfl dX12_isWhole_8 rfl ?_
    refine z_iconst (pc' := 12) dX12_isWhole_11 rfl ?_
    obtain ⟨r55, h⟩ := h
    refine z_icmp_le 19 dX12_isWhole_12 (by decide) (pc' := 15) rfl r55 (by decide) (fun c => ?_) (fun c => ?_)
    · have h := h.1 c
      rw [if_pos c] at k
      refine z_iconst (pc' := 20) dX12_isWhole_19 rfl ?_
      refine z_istore_n (pc' := 21) (ls' := [(0, zR 0), (1, zI 0)]) rfl (by decide) rfl rfl dX12_isWhole_20 rfl ?_
      refine z_iconst (pc' := 22) dX12_isWhole_21 rfl ?_
      refine z_istore_n (pc' := 23) (ls' := [(0, zR 0), (1, zI 0), (2, zI 0)]) rfl (by decide) rfl rfl dX12_isWhole_22 rfl ?_
      refine z_upto ((w 0 22).toNat) (fun i81 => z_Wp m_X12_isWhole d 23 [(0, zR 0), (1, zI (A_M_isWhole_23x2 w i81)), (2, zI (i81 : Int))] [] w Q) ?_ ?_
      · skip
        have h := h.2
        refine z_iload_n (pc' := 24) 2 rfl rfl dX12_isWhole_23 rfl ?_
        refine z_aload_n (pc' := 25) 0 rfl rfl dX12_isWhole_24 rfl ?_
        refine z_getI2 (v := w 0 22) (pc' := 28) g_X12_238 (by decide) rfl rfl rfl dX12_isWhole_25 rfl ?_
        obtain ⟨r86, h⟩ := h
        refine z_icmp_ge 71 dX12_isWhole_28 (by decide) (pc' := 31) rfl r86 r55 (fun _ => ?_) (fun c => absurd c (by omega))
        refine z_iconst (pc' := 72) dX12_isWhole_71 rfl ?_
        refine z_istore_n (pc' := 73) (ls' := [(0, zR 0), (1, zI (A_M_isWhole_23x2 w (w 0 22).toNat)), (2, zI 0)]) rfl (by decide) rfl rfl dX12_isWhole_72 rfl ?_
        refine z_upto ((w 0 23).toNat) (fun i96 => z_Wp m_X12_isWhole d 73 [(0, zR 0), (1, zI (A_M_isWhole_73x2 w (A_M_isWhole_23x2 w (w 0 22).toNat) i96)), (2, zI (i96 : Int))] [] w Q) ?_ ?_
        · skip
          have h := h.2
          refine z_iload_n (pc' := 74) 2 rfl rfl dX12_isWhole_73 rfl ?_
          refine z_aload_n (pc' := 75) 0 rfl rfl dX12_isWhole_74 rfl ?_
          refine z_getI2 (v := w 0 23) (pc' := 78) g_X12_241 (by decide) rfl rfl rfl dX12_isWhole_75 rfl ?_
          obtain ⟨r104, h⟩ := h
          obtain ⟨r105, h⟩ := h
          refine z_icmp_ge 150 dX12_isWhole_78 (by decide) (pc' := 81) rfl r104 r105 (fun _ => ?_) (fun c => absurd c (by omega))
          refine z_iload_n (pc' := 151) 1 rfl rfl dX12_isWhole_150 rfl ?_
          have r106 := h
          refine z_zret rfl r106 dX12_isWhole_151 ?_
          exact k
        · intro i96 hi ih
          have h := h.1 i96 hi
          have ih : z_Wp m_X12_isWhole d 73 [(0, zR 0), (1, zI (if A_M_isWhole_73x2 w (A_M_isWhole_23x2 w (w 0 22).toNat) i96 = 0 then 0 else if w 14 ((2 * (i96 : Int)).toNat) ≥ w 0 22 then 0 else if w 14 (((2 * (i96 : Int)) + 1).toNat) ≥ w 0 22 then 0 else if w 14 ((2 * (i96 : Int)).toNat) = w 14 (((2 * (i96 : Int)) + 1).toNat) then 0 else 1)), (2, zI ((i96 + 1 : Nat) : Int))] [] w Q := ih
          refine z_iload_n (pc' := 74) 2 rfl rfl dX12_isWhole_73 rfl ?_
          refine z_aload_n (pc' := 75) 0 rfl rfl dX12_isWhole_74 rfl ?_
          refine z_getI2 (v := w 0 23) (pc' := 78) g_X12_241 (by decide) rfl rfl rfl dX12_isWhole_75 rfl ?_
          obtain ⟨r97, h⟩ := h
          obtain ⟨r98, h⟩ := h
          refine z_icmp_ge 150 dX12_isWhole_78 (by decide) (pc' := 81) rfl r97 r98 (fun c => absurd c (by omega)) (fun _ => ?_)
          refine z_iload_n (pc' := 82) 1 rfl rfl dX12_isWhole_81 rfl ?_
          obtain ⟨r99, h⟩ := h
          refine z_if_eq 142 dX12_isWhole_82 (by decide) (pc' := 85) rfl r99 (fun c45 => ?_) (fun c45 => ?_)
          · have h := h.1 c45
            rw [if_pos c45] at ih
            refine z_iconst (pc' := 143) dX12_isWhole_142 rfl ?_
            refine z_istore_n (pc' := 144) (ls' := [(0, zR 0), (1, zI 0), (2, zI (i96 : Int))]) rfl (by decide) rfl rfl dX12_isWhole_143 rfl ?_
            refine z_iinc (pc' := 147) (ls' := [(0, zR 0), (1, zI 0), (2, zI ((i96 : Int) + 1))]) 2 rfl (by decide) rfl rfl dX12_isWhole_144 rfl ?_
            refine z_goto 73 dX12_isWhole_147 (by decide) ?_
            exact ih
          · have h := h.2 c45
            rw [if_neg c45] at ih
            refine z_aload_n (pc' := 86) 0 rfl rfl dX12_isWhole_85 rfl ?_
            refine z_getR (t := 14) (pc' := 89) g_X12_49 (by decide) rfl rfl dX12_isWhole_86 rfl ?_
            refine z_iconst (pc' := 90) dX12_isWhole_89 rfl ?_
            refine z_iload_n (pc' := 91) 2 rfl rfl dX12_isWhole_90 rfl ?_
            refine z_imul (pc' := 92) dX12_isWhole_91 rfl ?_
            obtain ⟨r100, h⟩ := h
            refine z_iald2 (v := w 14 ((2 * (i96 : Int)).toNat)) (pc' := 93) (by decide) rfl r100 (by decide) rfl dX12_isWhole_92 rfl ?_
            refine z_aload_n (pc' := 94) 0 rfl rfl dX12_isWhole_93 rfl ?_
            refine z_getI2 (v := w 0 22) (pc' := 97) g_X12_238 (by decide) rfl rfl rfl dX12_isWhole_94 rfl ?_
            obtain ⟨r101, h⟩ := h
            refine z_icmp_ge 142 dX12_isWhole_97 (by decide) (pc' := 100) rfl r101 r55 (fun c46 => ?_) (fun c46 => ?_)
            · have h := h.1 c46
              rw [if_pos c46] at ih
              refine z_iconst (pc' := 143) dX12_isWhole_142 rfl ?_
              refine z_istore_n (pc' := 144) (ls' := [(0, zR 0), (1, zI 0), (2, zI (i96 : Int))]) rfl (by decide) rfl rfl dX12_isWhole_143 rfl ?_
              refine z_iinc (pc' := 147) (ls' := [(0, zR 0), (1, zI 0), (2, zI ((i96 : Int) + 1))]) 2 rfl (by decide) rfl rfl dX12_isWhole_144 rfl ?_
              refine z_goto 73 dX12_isWhole_147 (by decide) ?_
              exact ih
            · have h := h.2 c46
              rw [if_neg c46] at ih
              refine z_aload_n (pc' := 101) 0 rfl rfl dX12_isWhole_100 rfl ?_
              refine z_getR (t := 14) (pc' := 104) g_X12_49 (by decide) rfl rfl dX12_isWhole_101 rfl ?_
              refine z_iconst (pc' := 105) dX12_isWhole_104 rfl ?_
              refine z_iload_n (pc' := 106) 2 rfl rfl dX12_isWhole_105 rfl ?_
              refine z_imul (pc' := 107) dX12_isWhole_106 rfl ?_
              refine z_iconst (pc' := 108) dX12_isWhole_107 rfl ?_
              refine z_iadd (pc' := 109) dX12_isWhole_108 rfl ?_
              obtain ⟨r102, h⟩ := h
              refine z_iald2 (v := w 14 (((2 * (i96 : Int)) + 1).toNat)) (pc' := 110) (by decide) rfl r102 (by decide) rfl dX12_isWhole_109 rfl ?_
              refine z_aload_n (pc' := 111) 0 rfl rfl dX12_isWhole_110 rfl ?_
              refine z_getI2 (v := w 0 22) (pc' := 114) g_X12_238 (by decide) rfl rfl rfl dX12_isWhole_111 rfl ?_
              have r103 := h
              refine z_icmp_ge 142 dX12_isWhole_114 (by decide) (pc' := 117) rfl r103 r55 (fun c47 => ?_) (fun c47 => ?_)
              · skip
                rw [if_pos c47] at ih
                refine z_iconst (pc' := 143) dX12_isWhole_142 rfl ?_
                refine z_istore_n (pc' := 144) (ls' := [(0, zR 0), (1, zI 0), (2, zI (i96 : Int))]) rfl (by decide) rfl rfl dX12_isWhole_143 rfl ?_
                refine z_iinc (pc' := 147) (ls' := [(0, zR 0), (1, zI 0), (2, zI ((i96 : Int) + 1))]) 2 rfl (by decide) rfl rfl dX12_isWhole_144 rfl ?_
                refine z_goto 73 dX12_isWhole_147 (by decide) ?_
                exact ih
              · skip
                rw [if_neg c47] at ih
                refine z_aload_n (pc' := 118) 0 rfl rfl dX12_isWhole_117 rfl ?_
                refine z_getR (t := 14) (pc' := 121) g_X12_49 (by decide) rfl rfl dX12_isWhole_118 rfl ?_
                refine z_iconst (pc' := 122) dX12_isWhole_121 rfl ?_
                refine z_iload_n (pc' := 123) 2 rfl rfl dX12_isWhole_122 rfl ?_
                refine z_imul (pc' := 124) dX12_isWhole_123 rfl ?_
                refine z_iald2 (v := w 14 ((2 * (i96 : Int)).toNat)) (pc' := 125) (by decide) rfl r100 (by decide) rfl dX12_isWhole_124 rfl ?_
                refine z_aload_n (pc' := 126) 0 rfl rfl dX12_isWhole_125 rfl ?_
                refine z_getR (t := 14) (pc' := 129) g_X12_49 (by decide) rfl rfl dX12_isWhole_126 rfl ?_
                refine z_iconst (pc' := 130) dX12_isWhole_129 rfl ?_
                refine z_iload_n (pc' := 131) 2 rfl rfl dX12_isWhole_130 rfl ?_
                refine z_imul (pc' := 132) dX12_isWhole_131 rfl ?_
                refine z_iconst (pc' := 133) dX12_isWhole_132 rfl ?_
                refine z_iadd (pc' := 134) dX12_isWhole_133 rfl ?_
                refine z_iald2 (v := w 14 (((2 * (i96 : Int)) + 1).toNat)) (pc' := 135) (by decide) rfl r102 (by decide) rfl dX12_isWhole_134 rfl ?_
                refine z_icmp_eq 142 dX12_isWhole_135 (by decide) (pc' := 138) rfl r101 r103 (fun c48 => ?_) (fun c48 => ?_)
                · skip
                  rw [if_pos c48] at ih
                  refine z_iconst (pc' := 143) dX12_isWhole_142 rfl ?_
                  refine z_istore_n (pc' := 144) (ls' := [(0, zR 0), (1, zI 0), (2, zI (i96 : Int))]) rfl (by decide) rfl rfl dX12_isWhole_143 rfl ?_
                  refine z_iinc (pc' := 147) (ls' := [(0, zR 0), (1, zI 0), (2, zI ((i96 : Int) + 1))]) 2 rfl (by decide) rfl rfl dX12_isWhole_144 rfl ?_
                  refine z_goto 73 dX12_isWhole_147 (by decide) ?_
                  exact ih
                · skip
                  rw [if_neg c48] at ih
                  refine z_iconst (pc' := 139) dX12_isWhole_138 rfl ?_
                  refine z_goto 143 dX12_isWhole_139 (by decide) ?_
                  refine z_istore_n (pc' := 144) (ls' := [(0, zR 0), (1, zI 1), (2, zI (i96 : Int))]) rfl (by decide) rfl rfl dX12_isWhole_143 rfl ?_
                  refine z_iinc (pc' := 147) (ls' := [(0, zR 0), (1, zI 1), (2, zI ((i96 : Int) + 1))]) 2 rfl (by decide) rfl rfl dX12_isWhole_144 rfl ?_
                  refine z_goto 73 dX12_isWhole_147 (by decide) ?_
                  exact ih
      · intro i81 hi ih
        have h := h.1 i81 hi
        have ih : z_Wp m_X12_isWhole d 23 [(0, zR 0), (1, zI (if A_M_isWhole_23x2 w i81 = 0 then 0 else if w 13 (((3 * (i81 : Int)) + 1).toNat) ≥ w 0 22 then 0 else if w 13 (((3 * (i81 : Int)) + 1).toNat) = (i81 : Int) then 0 else 1)), (2, zI ((i81 + 1 : Nat) : Int))] [] w Q := ih
        refine z_iload_n (pc' := 24) 2 rfl rfl dX12_isWhole_23 rfl ?_
        refine z_aload_n (pc' := 25) 0 rfl rfl dX12_isWhole_24 rfl ?_
        refine z_getI2 (v := w 0 22) (pc' := 28) g_X12_238 (by decide) rfl rfl rfl dX12_isWhole_25 rfl ?_
        obtain ⟨r82, h⟩ := h
        refine z_icmp_ge 71 dX12_isWhole_28 (by decide) (pc' := 31) rfl r82 r55 (fun c => absurd c (by omega)) (fun _ => ?_)
        refine z_aload_n (pc' := 32) 0 rfl rfl dX12_isWhole_31 rfl ?_
        refine z_getR (t := 13) (pc' := 35) g_X12_46 (by decide) rfl rfl dX12_isWhole_32 rfl ?_
        refine z_iconst (pc' := 36) dX12_isWhole_35 rfl ?_
        refine z_iload_n (pc' := 37) 2 rfl rfl dX12_isWhole_36 rfl ?_
        refine z_imul (pc' := 38) dX12_isWhole_37 rfl ?_
        refine z_iconst (pc' := 39) dX12_isWhole_38 rfl ?_
        refine z_iadd (pc' := 40) dX12_isWhole_39 rfl ?_
        obtain ⟨r83, h⟩ := h
        refine z_iald2 (v := w 13 (((3 * (i81 : Int)) + 1).toNat)) (pc' := 41) (by decide) rfl r83 (by decide) rfl dX12_isWhole_40 rfl ?_
        refine z_istore_n (pc' := 42) (ls' := [(0, zR 0), (1, zI (A_M_isWhole_23x2 w i81)), (2, zI (i81 : Int)), (3, zI (w 13 (((3 * (i81 : Int)) + 1).toNat)))]) rfl (by decide) rfl rfl dX12_isWhole_41 rfl ?_
        refine z_iload_n (pc' := 43) 1 rfl rfl dX12_isWhole_42 rfl ?_
        obtain ⟨r84, h⟩ := h
        refine z_if_eq 63 dX12_isWhole_43 (by decide) (pc' := 46) rfl r84 (fun c49 => ?_) (fun c49 => ?_)
        · have h := h.1 c49
          rw [if_pos c49] at ih
          refine z_iconst (pc' := 64) dX12_isWhole_63 rfl ?_
          refine z_istore_n (pc' := 65) (ls' := [(0, zR 0), (1, zI 0), (2, zI (i81 : Int)), (3, zI (w 13 (((3 * (i81 : Int)) + 1).toNat)))]) rfl (by decide) rfl rfl dX12_isWhole_64 rfl ?_
          refine z_iinc (pc' := 68) (ls' := [(0, zR 0), (1, zI 0), (2, zI ((i81 : Int) + 1)), (3, zI (w 13 (((3 * (i81 : Int)) + 1).toNat)))]) 2 rfl (by decide) rfl rfl dX12_isWhole_65 rfl ?_
          refine z_goto 23 dX12_isWhole_68 (by decide) ?_
          exact z_Wp.sub (ls' := [(0, zR 0), (1, zI 0), (2, zI ((i81 : Int) + 1))]) (z_lcast (by rw [z_c0 i81]) ih) (z_sub_of [0, 1, 2] rfl)
        · have h := h.2 c49
          rw [if_neg c49] at ih
          refine z_iload_n (pc' := 47) 3 rfl rfl dX12_isWhole_46 rfl ?_
          refine z_aload_n (pc' := 48) 0 rfl rfl dX12_isWhole_47 rfl ?_
          refine z_getI2 (v := w 0 22) (pc' := 51) g_X12_238 (by decide) rfl rfl rfl dX12_isWhole_48 rfl ?_
          have r85 := h
          refine z_icmp_ge 63 dX12_isWhole_51 (by decide) (pc' := 54) rfl r85 r55 (fun c50 => ?_) (fun c50 => ?_)
          · skip
            rw [if_pos c50] at ih
            refine z_iconst (pc' := 64) dX12_isWhole_63 rfl ?_
            refine z_istore_n (pc' := 65) (ls' := [(0, zR 0), (1, zI 0), (2, zI (i81 : Int)), (3, zI (w 13 (((3 * (i81 : Int)) + 1).toNat)))]) rfl (by decide) rfl rfl dX12_isWhole_64 rfl ?_
            refine z_iinc (pc' := 68) (ls' := [(0, zR 0), (1, zI 0), (2, zI ((i81 : Int) + 1)), (3, zI (w 13 (((3 * (i81 : Int)) + 1).toNat)))]) 2 rfl (by decide) rfl rfl dX12_isWhole_65 rfl ?_
            refine z_goto 23 dX12_isWhole_68 (by decide) ?_
            exact z_Wp.sub (ls' := [(0, zR 0), (1, zI 0), (2, zI ((i81 : Int) + 1))]) (z_lcast (by rw [z_c0 i81]) ih) (z_sub_of [0, 1, 2] rfl)
          · skip
            rw [if_neg c50] at ih
            refine z_iload_n (pc' := 55) 3 rfl rfl dX12_isWhole_54 rfl ?_
            refine z_iload_n (pc' := 56) 2 rfl rfl dX12_isWhole_55 rfl ?_
            refine z_icmp_eq 63 dX12_isWhole_56 (by decide) (pc' := 59) rfl r85 r82 (fun c51 => ?_) (fun c51 => ?_)
            · skip
              rw [if_pos c51] at ih
              refine z_iconst (pc' := 64) dX12_isWhole_63 rfl ?_
              refine z_istore_n (pc' := 65) (ls' := [(0, zR 0), (1, zI 0), (2, zI (i81 : Int)), (3, zI (w 13 (((3 * (i81 : Int)) + 1).toNat)))]) rfl (by decide) rfl rfl dX12_isWhole_64 rfl ?_
              refine z_iinc (pc' := 68) (ls' := [(0, zR 0), (1, zI 0), (2, zI ((i81 : Int) + 1)), (3, zI (w 13 (((3 * (i81 : Int)) + 1).toNat)))]) 2 rfl (by decide) rfl rfl dX12_isWhole_65 rfl ?_
              refine z_goto 23 dX12_isWhole_68 (by decide) ?_
              exact z_Wp.sub (ls' := [(0, zR 0), (1, zI 0), (2, zI ((i81 : Int) + 1))]) (z_lcast (by rw [z_c0 i81]) ih) (z_sub_of [0, 1, 2] rfl)
            · skip
              rw [if_neg c51] at ih
              refine z_iconst (pc' := 60) dX12_isWhole_59 rfl ?_
              refine z_goto 64 dX12_isWhole_60 (by decide) ?_
              refine z_istore_n (pc' := 65) (ls' := [(0, zR 0), (1, zI 1), (2, zI (i81 : Int)), (3, zI (w 13 (((3 * (i81 : Int)) + 1).toNat)))]) rfl (by decide) rfl rfl dX12_isWhole_64 rfl ?_
              refine z_iinc (pc' := 68) (ls' := [(0, zR 0), (1, zI 1), (2, zI ((i81 : Int) + 1)), (3, zI (w 13 (((3 * (i81 : Int)) + 1).toNat)))]) 2 rfl (by decide) rfl rfl dX12_isWhole_65 rfl ?_
              refine z_goto 23 dX12_isWhole_68 (by decide) ?_
              exact z_Wp.sub (ls' := [(0, zR 0), (1, zI 1), (2, zI ((i81 : Int) + 1))]) (z_lcast (by rw [z_c0 i81]) ih) (z_sub_of [0, 1, 2] rfl)
    · have h := h.2 c
      rw [if_neg c] at k
      refine z_iconst (pc' := 16) dX12_isWhole_15 rfl ?_
      refine z_goto 20 dX12_isWhole_16 (by decide) ?_
      refine z_istore_n (pc' := 21) (ls' := [(0, zR 0), (1, zI 1)]) rfl (by decide) rfl rfl dX12_isWhole_20 rfl ?_
      refine z_iconst (pc' := 22) dX12_isWhole_21 rfl ?_
      refine z_istore_n (pc' := 23) (ls' := [(0, zR 0), (1, zI 1), (2, zI 0)]) rfl (by decide) rfl rfl dX12_isWhole_22 rfl ?_
      refine z_upto ((w 0 22).toNat) (fun i132 => z_Wp m_X12_isWhole d 23 [(0, zR 0), (1, zI (A_M_isWhole_23x3 w i132)), (2, zI (i132 : Int))] [] w Q) ?_ ?_
      · skip
        have h := h.2
        refine z_iload_n (pc' := 24) 2 rfl rfl dX12_isWhole_23 rfl ?_
        refine z_aload_n (pc' := 25) 0 rfl rfl dX12_isWhole_24 rfl ?_
        refine z_getI2 (v := w 0 22) (pc' := 28) g_X12_238 (by decide) rfl rfl rfl dX12_isWhole_25 rfl ?_
        obtain ⟨r137, h⟩ := h
        refine z_icmp_ge 71 dX12_isWhole_28 (by decide) (pc' := 31) rfl r137 r55 (fun _ => ?_) (fun c => absurd c (by omega))
        refine z_iconst (pc' := 72) dX12_isWhole_71 rfl ?_
        refine z_istore_n (pc' := 73) (ls' := [(0, zR 0), (1, zI (A_M_isWhole_23x3 w (w 0 22).toNat)), (2, zI 0)]) rfl (by decide) rfl rfl dX12_isWhole_72 rfl ?_
        refine z_upto ((w 0 23).toNat) (fun i147 => z_Wp m_X12_isWhole d 73 [(0, zR 0), (1, zI (A_M_isWhole_73x3 w (A_M_isWhole_23x3 w (w 0 22).toNat) i147)), (2, zI (i147 : Int))] [] w Q) ?_ ?_
        · skip
          have h := h.2
          refine z_iload_n (pc' := 74) 2 rfl rfl dX12_isWhole_73 rfl ?_
          refine z_aload_n (pc' := 75) 0 rfl rfl dX12_isWhole_74 rfl ?_
          refine z_getI2 (v := w 0 23) (pc' := 78) g_X12_241 (by decide) rfl rfl rfl dX12_isWhole_75 rfl ?_
          obtain ⟨r155, h⟩ := h
          obtain ⟨r156, h⟩ := h
          refine z_icmp_ge 150 dX12_isWhole_78 (by decide) (pc' := 81) rfl r155 r156 (fun _ => ?_) (fun c => absurd c (by omega))
          refine z_iload_n (pc' := 151) 1 rfl rfl dX12_isWhole_150 rfl ?_
          have r157 := h
          refine z_zret rfl r157 dX12_isWhole_151 ?_
          exact k
        · intro i147 hi ih
          have h := h.1 i147 hi
          have ih : z_Wp m_X12_isWhole d 73 [(0, zR 0), (1, zI (if A_M_isWhole_73x3 w (A_M_isWhole_23x3 w (w 0 22).toNat) i147 = 0 then 0 else if w 14 ((2 * (i147 : Int)).toNat) ≥ w 0 22 then 0 else if w 14 (((2 * (i147 : Int)) + 1).toNat) ≥ w 0 22 then 0 else if w 14 ((2 * (i147 : Int)).toNat) = w 14 (((2 * (i147 : Int)) + 1).toNat) then 0 else 1)), (2, zI ((i147 + 1 : Nat) : Int))] [] w Q := ih
          refine z_iload_n (pc' := 74) 2 rfl rfl dX12_isWhole_73 rfl ?_
          refine z_aload_n (pc' := 75) 0 rfl rfl dX12_isWhole_74 rfl ?_
          refine z_getI2 (v := w 0 23) (pc' := 78) g_X12_241 (by decide) rfl rfl rfl dX12_isWhole_75 rfl ?_
          obtain ⟨r148, h⟩ := h
          obtain ⟨r149, h⟩ := h
          refine z_icmp_ge 150 dX12_isWhole_78 (by decide) (pc' := 81) rfl r148 r149 (fun c => absurd c (by omega)) (fun _ => ?_)
          refine z_iload_n (pc' := 82) 1 rfl rfl dX12_isWhole_81 rfl ?_
          obtain ⟨r150, h⟩ := h
          refine z_if_eq 142 dX12_isWhole_82 (by decide) (pc' := 85) rfl r150 (fun c52 => ?_) (fun c52 => ?_)
          · have h := h.1 c52
            rw [if_pos c52] at ih
            refine z_iconst (pc' := 143) dX12_isWhole_142 rfl ?_
            refine z_istore_n (pc' := 144) (ls' := [(0, zR 0), (1, zI 0), (2, zI (i147 : Int))]) rfl (by decide) rfl rfl dX12_isWhole_143 rfl ?_
            refine z_iinc (pc' := 147) (ls' := [(0, zR 0), (1, zI 0), (2, zI ((i147 : Int) + 1))]) 2 rfl (by decide) rfl rfl dX12_isWhole_144 rfl ?_
            refine z_goto 73 dX12_isWhole_147 (by decide) ?_
            exact ih
          · have h := h.2 c52
            rw [if_neg c52] at ih
            refine z_aload_n (pc' := 86) 0 rfl rfl dX12_isWhole_85 rfl ?_
            refine z_getR (t := 14) (pc' := 89) g_X12_49 (by decide) rfl rfl dX12_isWhole_86 rfl ?_
            refine z_iconst (pc' := 90) dX12_isWhole_89 rfl ?_
            refine z_iload_n (pc' := 91) 2 rfl rfl dX12_isWhole_90 rfl ?_
            refine z_imul (pc' := 92) dX12_isWhole_91 rfl ?_
            obtain ⟨r151, h⟩ := h
            refine z_iald2 (v := w 14 ((2 * (i147 : Int)).toNat)) (pc' := 93) (by decide) rfl r151 (by decide) rfl dX12_isWhole_92 rfl ?_
            refine z_aload_n (pc' := 94) 0 rfl rfl dX12_isWhole_93 rfl ?_
            refine z_getI2 (v := w 0 22) (pc' := 97) g_X12_238 (by decide) rfl rfl rfl dX12_isWhole_94 rfl ?_
            obtain ⟨r152, h⟩ := h
            refine z_icmp_ge 142 dX12_isWhole_97 (by decide) (pc' := 100) rfl r152 r55 (fun c53 => ?_) (fun c53 => ?_)
            · have h := h.1 c53
              rw [if_pos c53] at ih
              refine z_iconst (pc' := 143) dX12_isWhole_142 rfl ?_
              refine z_istore_n (pc' := 144) (ls' := [(0, zR 0), (1, zI 0), (2, zI (i147 : Int))]) rfl (by decide) rfl rfl dX12_isWhole_143 rfl ?_
              refine z_iinc (pc' := 147) (ls' := [(0, zR 0), (1, zI 0), (2, zI ((i147 : Int) + 1))]) 2 rfl (by decide) rfl rfl dX12_isWhole_144 rfl ?_
              refine z_goto 73 dX12_isWhole_147 (by decide) ?_
              exact ih
            · have h := h.2 c53
              rw [if_neg c53] at ih
              refine z_aload_n (pc' := 101) 0 rfl rfl dX12_isWhole_100 rfl ?_
              refine z_getR (t := 14) (pc' := 104) g_X12_49 (by decide) rfl rfl dX12_isWhole_101 rfl ?_
              refine z_iconst (pc' := 105) dX12_isWhole_104 rfl ?_
              refine z_iload_n (pc' := 106) 2 rfl rfl dX12_isWhole_105 rfl ?_
              refine z_imul (pc' := 107) dX12_isWhole_106 rfl ?_
              refine z_iconst (pc' := 108) dX12_isWhole_107 rfl ?_
              refine z_iadd (pc' := 109) dX12_isWhole_108 rfl ?_
              obtain ⟨r153, h⟩ := h
              refine z_iald2 (v := w 14 (((2 * (i147 : Int)) + 1).toNat)) (pc' := 110) (by decide) rfl r153 (by decide) rfl dX12_isWhole_109 rfl ?_
              refine z_aload_n (pc' := 111) 0 rfl rfl dX12_isWhole_110 rfl ?_
              refine z_getI2 (v := w 0 22) (pc' := 114) g_X12_238 (by decide) rfl rfl rfl dX12_isWhole_111 rfl ?_
              have r154 := h
              refine z_icmp_ge 142 dX12_isWhole_114 (by decide) (pc' := 117) rfl r154 r55 (fun c54 => ?_) (fun c54 => ?_)
              · skip
                rw [if_pos c54] at ih
                refine z_iconst (pc' := 143) dX12_isWhole_142 rfl ?_
                refine z_istore_n (pc' := 144) (ls' := [(0, zR 0), (1, zI 0), (2, zI (i147 : Int))]) rfl (by decide) rfl rfl dX12_isWhole_143 rfl ?_
                refine z_iinc (pc' := 147) (ls' := [(0, zR 0), (1, zI 0), (2, zI ((i147 : Int) + 1))]) 2 rfl (by decide) rfl rfl dX12_isWhole_144 rfl ?_
                refine z_goto 73 dX12_isWhole_147 (by decide) ?_
                exact ih
              · skip
                rw [if_neg c54] at ih
                refine z_aload_n (pc' := 118) 0 rfl rfl dX12_isWhole_117 rfl ?_
                refine z_getR (t := 14) (pc' := 121) g_X12_49 (by decide) rfl rfl dX12_isWhole_118 rfl ?_
                refine z_iconst (pc' := 122) dX12_isWhole_121 rfl ?_
                refine z_iload_n (pc' := 123) 2 rfl rfl dX12_isWhole_122 rfl ?_
                refine z_imul (pc' := 124) dX12_isWhole_123 rfl ?_
                refine z_iald2 (v := w 14 ((2 * (i147 : Int)).toNat)) (pc' := 125) (by decide) rfl r151 (by decide) rfl dX12_isWhole_124 rfl ?_
                refine z_aload_n (pc' := 126) 0 rfl rfl dX12_isWhole_125 rfl ?_
                refine z_getR (t := 14) (pc' := 129) g_X12_49 (by decide) rfl rfl dX12_isWhole_126 rfl ?_
                refine z_iconst (pc' := 130) dX12_isWhole_129 rfl ?_
                refine z_iload_n (pc' := 131) 2 rfl rfl dX12_isWhole_130 rfl ?_
                refine z_imul (pc' := 132) dX12_isWhole_131 rfl ?_
                refine z_iconst (pc' := 133) dX12_isWhole_132 rfl ?_
                refine z_iadd (pc' := 134) dX12_isWhole_133 rfl ?_
                refine z_iald2 (v := w 14 (((2 * (i147 : Int)) + 1).toNat)) (pc' := 135) (by decide) rfl r153 (by decide) rfl dX12_isWhole_134 rfl ?_
                refine z_icmp_eq 142 dX12_isWhole_135 (by decide) (pc' := 138) rfl r152 r154 (fun c55 => ?_) (fun c55 => ?_)
                · skip
                  rw [if_pos c55] at ih
                  refine z_iconst (pc' := 143) dX12_isWhole_142 rfl ?_
                  refine z_istore_n (pc' := 144) (ls' := [(0, zR 0), (1, zI 0), (2, zI (i147 : Int))]) rfl (by decide) rfl rfl dX12_isWhole_143 rfl ?_
                  refine z_iinc (pc' := 147) (ls' := [(0, zR 0), (1, zI 0), (2, zI ((i147 : Int) + 1))]) 2 rfl (by decide) rfl rfl dX12_isWhole_144 rfl ?_
                  refine z_goto 73 dX12_isWhole_147 (by decide) ?_
                  exact ih
                · skip
                  rw [if_neg c55] at ih
                  refine z_iconst (pc' := 139) dX12_isWhole_138 rfl ?_
                  refine z_goto 143 dX12_isWhole_139 (by decide) ?_
                  refine z_istore_n (pc' := 144) (ls' := [(0, zR 0), (1, zI 1), (2, zI (i147 : Int))]) rfl (by decide) rfl rfl dX12_isWhole_143 rfl ?_
                  refine z_iinc (pc' := 147) (ls' := [(0, zR 0), (1, zI 1), (2, zI ((i147 : Int) + 1))]) 2 rfl (by decide) rfl rfl dX12_isWhole_144 rfl ?_
                  refine z_goto 73 dX12_isWhole_147 (by decide) ?_
                  exact ih
      · intro i132 hi ih
        have h := h.1 i132 hi
        have ih : z_Wp m_X12_isWhole d 23 [(0, zR 0), (1, zI (if A_M_isWhole_23x3 w i132 = 0 then 0 else if w 13 (((3 * (i132 : Int)) + 1).toNat) ≥ w 0 22 then 0 else if w 13 (((3 * (i132 : Int)) + 1).toNat) = (i132 : Int) then 0 else 1)), (2, zI ((i132 + 1 : Nat) : Int))] [] w Q := ih
        refine z_iload_n (pc' := 24) 2 rfl rfl dX12_isWhole_23 rfl ?_
        refine z_aload_n (pc' := 25) 0 rfl rfl dX12_isWhole_24 rfl ?_
        refine z_getI2 (v := w 0 22) (pc' := 28) g_X12_238 (by decide) rfl rfl rfl dX12_isWhole_25 rfl ?_
        obtain ⟨r133, h⟩ := h
        refine z_icmp_ge 71 dX12_isWhole_28 (by decide) (pc' := 31) rfl r133 r55 (fun c => absurd c (by omega)) (fun _ => ?_)
        refine z_aload_n (pc' := 32) 0 rfl rfl dX12_isWhole_31 rfl ?_
        refine z_getR (t := 13) (pc' := 35) g_X12_46 (by decide) rfl rfl dX12_isWhole_32 rfl ?_
        refine z_iconst (pc' := 36) dX12_isWhole_35 rfl ?_
        refine z_iload_n (pc' := 37) 2 rfl rfl dX12_isWhole_36 rfl ?_
        refine z_imul (pc' := 38) dX12_isWhole_37 rfl ?_
        refine z_iconst (pc' := 39) dX12_isWhole_38 rfl ?_
        refine z_iadd (pc' := 40) dX12_isWhole_39 rfl ?_
        obtain ⟨r134, h⟩ := h
        refine z_iald2 (v := w 13 (((3 * (i132 : Int)) + 1).toNat)) (pc' := 41) (by decide) rfl r134 (by decide) rfl dX12_isWhole_40 rfl ?_
        refine z_istore_n (pc' := 42) (ls' := [(0, zR 0), (1, zI (A_M_isWhole_23x3 w i132)), (2, zI (i132 : Int)), (3, zI (w 13 (((3 * (i132 : Int)) + 1).toNat)))]) rfl (by decide) rfl rfl dX12_isWhole_41 rfl ?_
        refine z_iload_n (pc' := 43) 1 rfl rfl dX12_isWhole_42 rfl ?_
        obtain ⟨r135, h⟩ := h
        refine z_if_eq 63 dX12_isWhole_43 (by decide) (pc' := 46) rfl r135 (fun c56 => ?_) (fun c56 => ?_)
        · have h := h.1 c56
          rw [if_pos c56] at ih
          refine z_iconst (pc' := 64) dX12_isWhole_63 rfl ?_
          refine z_istore_n (pc' := 65) (ls' := [(0, zR 0), (1, zI 0), (2, zI (i132 : Int)), (3, zI (w 13 (((3 * (i132 : Int)) + 1).toNat)))]) rfl (by decide) rfl rfl dX12_isWhole_64 rfl ?_
          refine z_iinc (pc' := 68) (ls' := [(0, zR 0), (1, zI 0), (2, zI ((i132 : Int) + 1)), (3, zI (w 13 (((3 * (i132 : Int)) + 1).toNat)))]) 2 rfl (by decide) rfl rfl dX12_isWhole_65 rfl ?_
          refine z_goto 23 dX12_isWhole_68 (by decide) ?_
          exact z_Wp.sub (ls' := [(0, zR 0), (1, zI 0), (2, zI ((i132 : Int) + 1))]) (z_lcast (by rw [z_c0 i132]) ih) (z_sub_of [0, 1, 2] rfl)
        · have h := h.2 c56
          rw [if_neg c56] at ih
          refine z_iload_n (pc' := 47) 3 rfl rfl dX12_isWhole_46 rfl ?_
          refine z_aload_n (pc' := 48) 0 rfl rfl dX12_isWhole_47 rfl ?_
          refine z_getI2 (v := w 0 22) (pc' := 51) g_X12_238 (by decide) rfl rfl rfl dX12_isWhole_48 rfl ?_
          have r136 := h
          refine z_icmp_ge 63 dX12_isWhole_51 (by decide) (pc' := 54) rfl r136 r55 (fun c57 => ?_) (fun c57 => ?_)
          · skip
            rw [if_pos c57] at ih
            refine z_iconst (pc' := 64) dX12_isWhole_63 rfl ?_
            refine z_istore_n (pc' := 65) (ls' := [(0, zR 0), (1, zI 0), (2, zI (i132 : Int)), (3, zI (w 13 (((3 * (i132 : Int)) + 1).toNat)))]) rfl (by decide) rfl rfl dX12_isWhole_64 rfl ?_
            refine z_iinc (pc' := 68) (ls' := [(0, zR 0), (1, zI 0), (2, zI ((i132 : Int) + 1)), (3, zI (w 13 (((3 * (i132 : Int)) + 1).toNat)))]) 2 rfl (by decide) rfl rfl dX12_isWhole_65 rfl ?_
            refine z_goto 23 dX12_isWhole_68 (by decide) ?_
            exact z_Wp.sub (ls' := [(0, zR 0), (1, zI 0), (2, zI ((i132 : Int) + 1))]) (z_lcast (by rw [z_c0 i132]) ih) (z_sub_of [0, 1, 2] rfl)
          · skip
            rw [if_neg c57] at ih
            refine z_iload_n (pc' := 55) 3 rfl rfl dX12_isWhole_54 rfl ?_
            refine z_iload_n (pc' := 56) 2 rfl rfl dX12_isWhole_55 rfl ?_
            refine z_icmp_eq 63 dX12_isWhole_56 (by decide) (pc' := 59) rfl r136 r133 (fun c58 => ?_) (fun c58 => ?_)
            · skip
              rw [if_pos c58] at ih
              refine z_iconst (pc' := 64) dX12_isWhole_63 rfl ?_
              refine z_istore_n (pc' := 65) (ls' := [(0, zR 0), (1, zI 0), (2, zI (i132 : Int)), (3, zI (w 13 (((3 * (i132 : Int)) + 1).toNat)))]) rfl (by decide) rfl rfl dX12_isWhole_64 rfl ?_
              refine z_iinc (pc' := 68) (ls' := [(0, zR 0), (1, zI 0), (2, zI ((i132 : Int) + 1)), (3, zI (w 13 (((3 * (i132 : Int)) + 1).toNat)))]) 2 rfl (by decide) rfl rfl dX12_isWhole_65 rfl ?_
              refine z_goto 23 dX12_isWhole_68 (by decide) ?_
              exact z_Wp.sub (ls' := [(0, zR 0), (1, zI 0), (2, zI ((i132 : Int) + 1))]) (z_lcast (by rw [z_c0 i132]) ih) (z_sub_of [0, 1, 2] rfl)
            · skip
              rw [if_neg c58] at ih
              refine z_iconst (pc' := 60) dX12_isWhole_59 rfl ?_
              refine z_goto 64 dX12_isWhole_60 (by decide) ?_
              refine z_istore_n (pc' := 65) (ls' := [(0, zR 0), (1, zI 1), (2, zI (i132 : Int)), (3, zI (w 13 (((3 * (i132 : Int)) + 1).toNat)))]) rfl (by decide) rfl rfl dX12_isWhole_64 rfl ?_
              refine z_iinc (pc' := 68) (ls' := [(0, zR 0), (1, zI 1), (2, zI ((i132 : Int) + 1)), (3, zI (w 13 (((3 * (i132 : Int)) + 1).toNat)))]) 2 rfl (by decide) rfl rfl dX12_isWhole_65 rfl ?_
              refine z_goto 23 dX12_isWhole_68 (by decide) ?_
              exact z_Wp.sub (ls' := [(0, zR 0), (1, zI 1), (2, zI ((i132 : Int) + 1))]) (z_lcast (by rw [z_c0 i132]) ih) (z_sub_of [0, 1, 2] rfl)
