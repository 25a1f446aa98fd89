set_option maxRecDepth 4000 in
theorem v_N_restAt {d : Nat} {w : z_Wd} {a0 a1 a2 : Int} {Q : Option z_V → z_Wd → Prop} (h : z_Wp m_X8_restAt (d + 4) 6 [(0, zR 76), (1, zI a0), (2, zI a1), (3, zI a2), (4, zI 0), (5, zI 0)] [] w Q) : z_Wc (d + 4) m_X8_restAt [zR 76, zI a0, zI a1, zI a2] w Q := by
  refine z_enter rfl (Nat.le_of_ble_eq_true rfl) ?_
  show z_Wp m_X8_restAt _ 0 [(0, zR 76), (1, zI a0), (2, zI a1), (3, zI a2)] [] w _
  refine z_iconst (pc' := 1) dX8_restAt_0 rfl ?_
  refine z_istore (pc' := 3) (ls' := [(0, zR 76), (1, zI a0), (2, zI a1), (3, zI a2), (4, zI 0)]) (by decide) rfl rfl dX8_restAt_1 rfl ?_
  refine z_iconst (pc' := 4) dX8_restAt_3 rfl ?_
  refine z_istore (pc' := 6) (ls' := [(0, zR 76), (1, zI a0), (2, zI a1), (3, zI a2), (4, zI 0), (5, zI 0)]) (by decide) rfl rfl dX8_restAt_4 rfl ?_
  exact h
set_option maxRecDepth 4000 in
theorem v_N_restAt_6 {d : Nat} {w : z_Wd} {l1 l2 l3 l4 l5 : Int} {Q : Option z_V → z_Wd → Prop} (h : (-2147483648 ≤ l5 ∧ l5 < 2147483648) ∧ ((l5 > 9 → Q (some (zI (-1))) w) ∧ (¬ (l5 > 9) → z_Wp m_X8_restAt (d + 4) 16 [(0, zR 76), (1, zI l1), (2, zI l2), (3, zI l3), (4, zI l4), (5, zI l5), (6, zI 0)] [] w Q))) : z_Wp m_X8_restAt (d + 4) 6 [(0, zR 76), (1, zI l1), (2, zI l2), (3, zI l3), (4, zI l4), (5, zI l5)] [] w Q := by
  refine z_iload (pc' := 8) 5 rfl dX8_restAt_6 rfl ?_
  refine z_bipush (pc' := 10) (by decide) dX8_restAt_8 rfl ?_
  obtain ⟨r1, h⟩ := h
  refine z_icmp_gt 77 dX8_restAt_10 (by decide) (pc' := 13) rfl r1 (by decide) (fun c => ?_) (fun c => ?_)
  · have h := h.1 c
    refine z_iconst (pc' := 78) dX8_restAt_77 rfl ?_
    refine z_iret rfl dX8_restAt_78 ?_
    exact h
  · have h := h.2 c
    refine z_iconst (pc' := 14) dX8_restAt_13 rfl ?_
    refine z_istore (pc' := 16) (ls' := [(0, zR 76), (1, zI l1), (2, zI l2), (3, zI l3), (4, zI l4), (5, zI l5), (6, zI 0)]) (by decide) rfl rfl dX8_restAt_14 rfl ?_
    exact h
set_option maxRecDepth 4000 in
theorem v_N_restAt_16 {d : Nat} {w : z_Wd} {l1 l2 l3 l4 l5 l6 : Int} {Q : Option z_V → z_Wd → Prop} (h : (-2147483648 ≤ l6 ∧ l6 < 2147483648) ∧ ((l6 > 9 → z_Wp m_X8_restAt (d + 4) 6 [(0, zR 76), (1, zI l1), (2, zI l2), (3, zI l3), (4, zI l4), (5, zI (l5 + 1))] [] w Q) ∧ (¬ (l6 > 9) → (P_N_hasNoBetter w l1 l5 l6) ∧ ((F_N_hasNoBetter w l1 l5 l6 = 0 → z_Wp m_X8_restAt (d + 4) 16 [(0, zR 76), (1, zI l1), (2, zI l2), (3, zI l3), (4, zI l4), (5, zI l5), (6, zI (l6 + 1))] [] w Q) ∧ (¬ (F_N_hasNoBetter w l1 l5 l6 = 0) → (P_N_hasNoBetter w l2 l6 l5) ∧ ((F_N_hasNoBetter w l2 l6 l5 = 0 → z_Wp m_X8_restAt (d + 4) 16 [(0, zR 76), (1, zI l1), (2, zI l2), (3, zI l3), (4, zI l4), (5, zI l5), (6, zI (l6 + 1))] [] w Q) ∧ (¬ (F_N_hasNoBetter w l2 l6 l5 = 0) → (-2147483648 ≤ l4 ∧ l4 < 2147483648) ∧ (-2147483648 ≤ l3 ∧ l3 < 2147483648) ∧ ((l4 = l3 → Q (some (zI ((10 * l5) + l6))) w) ∧ (¬ (l4 = l3) → z_Wp m_X8_restAt (d + 4) 16 [(0, zR 76), (1, zI l1), (2, zI l2), (3, zI l3), (4, zI (l4 + 1)), (5, zI l5), (6, zI (l6 + 1))] [] w Q))))))))) : z_Wp m_X8_restAt (d + 4) 16 [(0, zR 76), (1, zI l1), (2, zI l2), (3, zI l3), (4, zI l4), (5, zI l5), (6, zI l6)] [] w Q := by
  refine z_iload (pc' := 18) 6 rfl dX8_restAt_16 rfl ?_
  refine z_bipush (pc' := 20) (by decide) dX8_restAt_18 rfl ?_
  obtain ⟨r1, h⟩ := h
  refine z_icmp_gt 71 dX8_restAt_20 (by decide) (pc' := 23) rfl r1 (by decide) (fun c => ?_) (fun c => ?_)
  · have h := h.1 c
    refine z_iinc (pc' := 74) (ls' := [(0, zR 76), (1, zI l1), (2, zI l2), (3, zI l3), (4, zI l4), (5, zI (l5 + 1)), (6, zI l6)]) 5 rfl (by decide) rfl rfl dX8_restAt_71 rfl ?_
    refine z_goto 6 dX8_restAt_74 (by decide) ?_
    exact z_Wp.sub h (z_sub_of [0, 1, 2, 3, 4, 5] rfl)
  · have h := h.2 c
    refine z_aload_n (pc' := 24) 0 rfl rfl dX8_restAt_23 rfl ?_
    refine z_iload_n (pc' := 25) 1 rfl rfl dX8_restAt_24 rfl ?_
    refine z_iload (pc' := 27) 5 rfl dX8_restAt_25 rfl ?_
    refine z_iload (pc' := 29) 6 rfl dX8_restAt_27 rfl ?_
    refine z_invV (as := [zI l1, zI l5, zI l6]) (st := []) (C := m_X8_hasNoBetter) (fs := [32, 43, 79]) (pc' := 32) dX8_restAt_29 rfl t_5_87 k_X8_hasNoBetter rfl (by decide) rfl rfl rfl rfl (Nat.le_of_ble_eq_true rfl) ?_
    obtain ⟨r2, h⟩ := h
    refine c_N_hasNoBetter r2 ?_
    show z_Wp m_X8_restAt _ 32 [(0, zR 76), (1, zI l1), (2, zI l2), (3, zI l3), (4, zI l4), (5, zI l5), (6, zI l6)] [zI (F_N_hasNoBetter w l1 l5 l6)] w _
    refine z_if_eq 65 dX8_restAt_32 (by decide) (pc' := 35) rfl (z_rb b_N_hasNoBetter) (fun c => ?_) (fun c => ?_)
    · have h := h.1 c
      refine z_iinc (pc' := 68) (ls' := [(0, zR 76), (1, zI l1), (2, zI l2), (3, zI l3), (4, zI l4), (5, zI l5), (6, zI (l6 + 1))]) 6 rfl (by decide) rfl rfl dX8_restAt_65 rfl ?_
      refine z_goto 16 dX8_restAt_68 (by decide) ?_
      exact h
    · have h := h.2 c
      refine z_aload_n (pc' := 36) 0 rfl rfl dX8_restAt_35 rfl ?_
      refine z_iload_n (pc' := 37) 2 rfl rfl dX8_restAt_36 rfl ?_
      refine z_iload (pc' := 39) 6 rfl dX8_restAt_37 rfl ?_
      refine z_iload (pc' := 41) 5 rfl dX8_restAt_39 rfl ?_
      refine z_invV (as := [zI l2, zI l6, zI l5]) (st := []) (C := m_X8_hasNoBetter) (fs := [32, 43, 79]) (pc' := 44) dX8_restAt_41 rfl t_5_87 k_X8_hasNoBetter rfl (by decide) rfl rfl rfl rfl (Nat.le_of_ble_eq_true rfl) ?_
      obtain ⟨r3, h⟩ := h
      refine c_N_hasNoBetter r3 ?_
      show z_Wp m_X8_restAt _ 44 [(0, zR 76), (1, zI l1), (2, zI l2), (3, zI l3), (4, zI l4), (5, zI l5), (6, zI l6)] [zI (F_N_hasNoBetter w l2 l6 l5)] w _
      refine z_if_eq 65 dX8_restAt_44 (by decide) (pc' := 47) rfl (z_rb b_N_hasNoBetter) (fun c => ?_) (fun c => ?_)
      · have h := h.1 c
        refine z_iinc (pc' := 68) (ls' := [(0, zR 76), (1, zI l1), (2, zI l2), (3, zI l3), (4, zI l4), (5, zI l5), (6, zI (l6 + 1))]) 6 rfl (by decide) rfl rfl dX8_restAt_65 rfl ?_
        refine z_goto 16 dX8_restAt_68 (by decide) ?_
        exact h
      · have h := h.2 c
        refine z_iload (pc' := 49) 4 rfl dX8_restAt_47 rfl ?_
        refine z_iload_n (pc' := 50) 3 rfl rfl dX8_restAt_49 rfl ?_
        obtain ⟨r4, h⟩ := h
        obtain ⟨r5, h⟩ := h
        refine z_icmp_ne 62 dX8_restAt_50 (by decide) (pc' := 53) rfl r4 r5 (fun c => ?_) (fun c => ?_)
        · have h := h.2 c
          refine z_iinc (pc' := 65) (ls' := [(0, zR 76), (1, zI l1), (2, zI l2), (3, zI l3), (4, zI (l4 + 1)), (5, zI l5), (6, zI l6)]) 4 rfl (by decide) rfl rfl dX8_restAt_62 rfl ?_
          refine z_iinc (pc' := 68) (ls' := [(0, zR 76), (1, zI l1), (2, zI l2), (3, zI l3), (4, zI (l4 + 1)), (5, zI l5), (6, zI (l6 + 1))]) 6 rfl (by decide) rfl rfl dX8_restAt_65 rfl ?_
          refine z_goto 16 dX8_restAt_68 (by decide) ?_
          exact h
        · have h := h.1 c
          refine z_bipush (pc' := 55) (by decide) dX8_restAt_53 rfl ?_
          refine z_iload (pc' := 57) 5 rfl dX8_restAt_55 rfl ?_
          refine z_imul (pc' := 58) dX8_restAt_57 rfl ?_
          refine z_iload (pc' := 60) 6 rfl dX8_restAt_58 rfl ?_
          refine z_iadd (pc' := 61) dX8_restAt_60 rfl ?_
          refine z_iret rfl dX8_restAt_61 ?_
          exact h
