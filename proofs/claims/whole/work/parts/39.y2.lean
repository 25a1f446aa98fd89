set_option maxRecDepth 4000 in
theorem v_T_behindBlanks {d : Nat} {w : z_Wd} {a0 : Int} {Q : Option z_V → z_Wd → Prop} (h : (-2147483648 ≤ a0 ∧ a0 < 2147483648) ∧ ((a0 ≥ 0 → z_Wp m_X10_behindBlanks d 10 [(0, zR 28), (2, zI a0)] [] w Q) ∧ (¬ (a0 ≥ 0) → z_Wp m_X10_behindBlanks d 10 [(0, zR 28), (2, zI 0)] [] w Q))) : z_Wc d m_X10_behindBlanks [zR 28, zI a0] w Q := by
  refine z_enter rfl (Nat.le_of_ble_eq_true rfl) ?_
  show z_Wp m_X10_behindBlanks _ 0 [(0, zR 28), (1, zI a0)] [] w _
  refine z_iload_n (pc' := 1) 1 rfl rfl dX10_behindBlanks_0 rfl ?_
  obtain ⟨r1, h⟩ := h
  refine z_if_ge 8 dX10_behindBlanks_1 (by decide) (pc' := 4) rfl r1 (fun c => ?_) (fun c => ?_)
  · have h := h.1 c
    refine z_iload_n (pc' := 9) 1 rfl rfl dX10_behindBlanks_8 rfl ?_
    refine z_istore_n (pc' := 10) (ls' := [(0, zR 28), (1, zI a0), (2, zI a0)]) rfl (by decide) rfl rfl dX10_behindBlanks_9 rfl ?_
    exact z_Wp.sub h (z_sub_of [0, 2] rfl)
  · have h := h.2 c
    refine z_iconst (pc' := 5) dX10_behindBlanks_4 rfl ?_
    refine z_goto 9 dX10_behindBlanks_5 (by decide) ?_
    refine z_istore_n (pc' := 10) (ls' := [(0, zR 28), (1, zI a0), (2, zI 0)]) rfl (by decide) rfl rfl dX10_behindBlanks_9 rfl ?_
    exact z_Wp.sub h (z_sub_of [0, 2] rfl)
set_option maxRecDepth 4000 in
theorem v_T_behindBlanks_10 {d : Nat} {w : z_Wd} {l2 : Int} {Q : Option z_V → z_Wd → Prop} (h : (-2147483648 ≤ l2 ∧ l2 < 2147483648) ∧ (-2147483648 ≤ w 28 1 ∧ w 28 1 < 2147483648) ∧ ((l2 ≥ w 28 1 → Q (some (zI l2)) w) ∧ (¬ (l2 ≥ w 28 1) → (0 ≤ l2 ∧ l2 < 240) ∧ (-2147483648 ≤ w 29 l2.toNat ∧ w 29 l2.toNat < 2147483648) ∧ ((w 29 l2.toNat = 32 → z_Wp m_X10_behindBlanks d 10 [(0, zR 28), (2, zI (l2 + 1))] [] w Q) ∧ (¬ (w 29 l2.toNat = 32) → Q (some (zI l2)) w))))) : z_Wp m_X10_behindBlanks d 10 [(0, zR 28), (2, zI l2)] [] w Q := by
  refine z_iload_n (pc' := 11) 1 rfl rfl dX10_behindBlanks_10 rfl ?_
  refine z_aload_n (pc' := 12) 0 rfl rfl dX10_behindBlanks_11 rfl ?_
  refine z_getI2 (v := w 28 1) (pc' := 15) g_X10_13 (by decide) rfl rfl rfl dX10_behindBlanks_12 rfl ?_
  obtain ⟨r1, h⟩ := h
  obtain ⟨r2, h⟩ := h
  refine z_icmp_ge 35 dX10_behindBlanks_15 (by decide) (pc' := 18) rfl r1 r2 (fun c => ?_) (fun c => ?_)
  · have h := h.1 c
    refine z_iload_n (pc' := 36) 1 rfl rfl dX10_behindBlanks_35 rfl ?_
    refine z_iret rfl dX10_behindBlanks_36 ?_
    exact h
  · have h := h.2 c
    refine z_aload_n (pc' := 19) 0 rfl rfl dX10_behindBlanks_18 rfl ?_
    refine z_getR (t := 29) (pc' := 22) g_X10_9 (by decide) rfl rfl dX10_behindBlanks_19 rfl ?_
    refine z_iload_n (pc' := 23) 1 rfl rfl dX10_behindBlanks_22 rfl ?_
    obtain ⟨r3, h⟩ := h
    refine z_iald2 (v := w 29 l2.toNat) (pc' := 24) (by decide) rfl r3 (by decide) rfl dX10_behindBlanks_23 rfl ?_
    refine z_bipush (pc' := 26) (by decide) dX10_behindBlanks_24 rfl ?_
    obtain ⟨r4, h⟩ := h
    refine z_icmp_ne 35 dX10_behindBlanks_26 (by decide) (pc' := 29) rfl r4 (by decide) (fun c => ?_) (fun c => ?_)
    · have h := h.2 c
      refine z_iload_n (pc' := 36) 1 rfl rfl dX10_behindBlanks_35 rfl ?_
      refine z_iret rfl dX10_behindBlanks_36 ?_
      exact h
    · have h := h.1 c
      refine z_iinc (pc' := 32) (ls' := [(0, zR 28), (2, zI (l2 + 1))]) 1 rfl (by decide) rfl rfl dX10_behindBlanks_29 rfl ?_
      refine z_goto 10 dX10_behindBlanks_32 (by decide) ?_
      exact h
set_option maxRecDepth 4000 in
theorem v_T_digitsFrom {d : Nat} {w : z_Wd} {a0 a1 : Int} {Q : Option z_V → z_Wd → Prop} (h : z_Wp m_X10_digitsFrom d 5 [(0, zR 28), (2, zI a1), (3, zI 0), (4, zI a0)] [] w Q) : z_Wc d m_X10_digitsFrom [zR 28, zI a0, zI a1] w Q := by
  refine z_enter rfl (Nat.le_of_ble_eq_true rfl) ?_
  show z_Wp m_X10_digitsFrom _ 0 [(0, zR 28), (1, zI a0), (2, zI a1)] [] w _
  refine z_iconst (pc' := 1) dX10_digitsFrom_0 rfl ?_
  refine z_istore_n (pc' := 2) (ls' := [(0, zR 28), (1, zI a0), (2, zI a1), (3, zI 0)]) rfl (by decide) rfl rfl dX10_digitsFrom_1 rfl ?_
  refine z_iload_n (pc' := 3) 1 rfl rfl dX10_digitsFrom_2 rfl ?_
  refine z_istore (pc' := 5) (ls' := [(0, zR 28), (1, zI a0), (2, zI a1), (3, zI 0), (4, zI a0)]) (by decide) rfl rfl dX10_digitsFrom_3 rfl ?_
  exact z_Wp.sub h (z_sub_of [0, 2, 3, 4] rfl)
set_option maxRecDepth 4000 in
theorem v_T_digitsFrom_5 {d : Nat} {w : z_Wd} {l2 l3 l4 : Int} {Q : Option z_V → z_Wd → Prop} (h : (-2147483648 ≤ l4 ∧ l4 < 2147483648) ∧ ((l4 < 0 → Q (some (zI l3)) w) ∧ (¬ (l4 < 0) → (-2147483648 ≤ w 28 1 ∧ w 28 1 < 2147483648) ∧ ((l4 ≥ w 28 1 → Q (some (zI l3)) w) ∧ (¬ (l4 ≥ w 28 1) → (-2147483648 ≤ l3 ∧ l3 < 2147483648) ∧ (-2147483648 ≤ l2 ∧ l2 < 2147483648) ∧ ((l3 ≥ l2 → Q (some (zI l3)) w) ∧ (¬ (l3 ≥ l2) → (0 ≤ l4 ∧ l4 < 240) ∧ (-2147483648 ≤ w 29 l4.toNat ∧ w 29 l4.toNat < 2147483648) ∧ ((w 29 l4.toNat < 48 → Q (some (zI l3)) w) ∧ (¬ (w 29 l4.toNat < 48) → (w 29 l4.toNat > 57 → Q (some (zI l3)) w) ∧ (¬ (w 29 l4.toNat > 57) → z_Wp m_X10_digitsFrom d 5 [(0, zR 28), (2, zI l2), (3, zI (l3 + 1)), (4, zI (l4 + 1))] [] w Q)))))))))) : z_Wp m_X10_digitsFrom d 5 [(0, zR 28), (2, zI l2), (3, zI l3), (4, zI l4)] [] w Q := by
  refine z_iload (pc' := 7) 3 rfl dX10_digitsFrom_5 rfl ?_
  obtain ⟨r1, h⟩ := h
  refine z_if_lt 57 dX10_digitsFrom_7 (by decide) (pc' := 10) rfl r1 (fun c => ?_) (fun c => ?_)
  · have h := h.1 c
    refine z_iload_n (pc' := 58) 2 rfl rfl dX10_digitsFrom_57 rfl ?_
    refine z_iret rfl dX10_digitsFrom_58 ?_
    exact h
  · have h := h.2 c
    refine z_iload (pc' := 12) 3 rfl dX10_digitsFrom_10 rfl ?_
    refine z_aload_n (pc' := 13) 0 rfl rfl dX10_digitsFrom_12 rfl ?_
    refine z_getI2 (v := w 28 1) (pc' := 16) g_X10_13 (by decide) rfl rfl rfl dX10_digitsFrom_13 rfl ?_
    obtain ⟨r2, h⟩ := h
    refine z_icmp_ge 57 dX10_digitsFrom_16 (by decide) (pc' := 19) rfl r1 r2 (fun c => ?_) (fun c => ?_)
    · have h := h.1 c
      refine z_iload_n (pc' := 58) 2 rfl rfl dX10_digitsFrom_57 rfl ?_
      refine z_iret rfl dX10_digitsFrom_58 ?_
      exact h
    · have h := h.2 c
      refine z_iload_n (pc' := 20) 2 rfl rfl dX10_digitsFrom_19 rfl ?_
      refine z_iload_n (pc' := 21) 1 rfl rfl dX10_digitsFrom_20 rfl ?_
      obtain ⟨r3, h⟩ := h
      obtain ⟨r4, h⟩ := h
      refine z_icmp_ge 57 dX10_digitsFrom_21 (by decide) (pc' := 24) rfl r3 r4 (fun c => ?_) (fun c => ?_)
      · have h := h.1 c
        refine z_iload_n (pc' := 58) 2 rfl rfl dX10_digitsFrom_57 rfl ?_
        refine z_iret rfl dX10_digitsFrom_58 ?_
        exact h
      · have h := h.2 c
        refine z_aload_n (pc' := 25) 0 rfl rfl dX10_digitsFrom_24 rfl ?_
        refine z_getR (t := 29) (pc' := 28) g_X10_9 (by decide) rfl rfl dX10_digitsFrom_25 rfl ?_
        refine z_iload (pc' := 30) 3 rfl dX10_digitsFrom_28 rfl ?_
        obtain ⟨r5, h⟩ := h
        refine z_iald2 (v := w 29 l4.toNat) (pc' := 31) (by decide) rfl r5 (by decide) rfl dX10_digitsFrom_30 rfl ?_
        refine z_bipush (pc' := 33) (by decide) dX10_digitsFrom_31 rfl ?_
        obtain ⟨r6, h⟩ := h
        refine z_icmp_lt 57 dX10_digitsFrom_33 (by decide) (pc' := 36) rfl r6 (by decide) (fun c => ?_) (fun c => ?_)
        · have h := h.1 c
          refine z_iload_n (pc' := 58) 2 rfl rfl dX10_digitsFrom_57 rfl ?_
          refine z_iret rfl dX10_digitsFrom_58 ?_
          exact h
        · have h := h.2 c
          refine z_aload_n (pc' := 37) 0 rfl rfl dX10_digitsFrom_36 rfl ?_
          refine z_getR (t := 29) (pc' := 40) g_X10_9 (by decide) rfl rfl dX10_digitsFrom_37 rfl ?_
          refine z_iload (pc' := 42) 3 rfl dX10_digitsFrom_40 rfl ?_
          refine z_iald2 (v := w 29 l4.toNat) (pc' := 43) (by decide) rfl r5 (by decide) rfl dX10_digitsFrom_42 rfl ?_
          refine z_bipush (pc' := 45) (by decide) dX10_digitsFrom_43 rfl ?_
          refine z_icmp_gt 57 dX10_digitsFrom_45 (by decide) (pc' := 48) rfl r6 (by decide) (fun c => ?_) (fun c => ?_)
          · have h := h.1 c
            refine z_iload_n (pc' := 58) 2 rfl rfl dX10_digitsFrom_57 rfl ?_
            refine z_iret rfl dX10_digitsFrom_58 ?_
            exact h
          · have h := h.2 c
            refine z_iinc (pc' := 51) (ls' := [(0, zR 28), (2, zI l2), (3, zI (l3 + 1)), (4, zI l4)]) 2 rfl (by decide) rfl rfl dX10_digitsFrom_48 rfl ?_
            refine z_iinc (pc' := 54) (ls' := [(0, zR 28), (2, zI l2), (3, zI (l3 + 1)), (4, zI (l4 + 1))]) 3 rfl (by decide) rfl rfl dX10_digitsFrom_51 rfl ?_
            refine z_goto 5 dX10_digitsFrom_54 (by decide) ?_
            exact h
set_option maxRecDepth 4000 in
theorem v_T_number {d : Nat} {w : z_Wd} {a0 a1 : Int} {Q : Option z_V → z_Wd → Prop} (h : z_Wp m_X10_number d 5 [(0, zR 28), (1, zI a0), (2, zI a1), (3, zI 0), (4, zI a0)] [] w Q) : z_Wc d m_X10_number [zR 28, zI a0, zI a1] w Q := by
  refine z_enter rfl (Nat.le_of_ble_eq_true rfl) ?_
  show z_Wp m_X10_number _ 0 [(0, zR 28), (1, zI a0), (2, zI a1)] [] w _
  refine z_iconst (pc' := 1) dX10_number_0 rfl ?_
  refine z_istore_n (pc' := 2) (ls' := [(0, zR 28), (1, zI a0), (2, zI a1), (3, zI 0)]) rfl (by decide) rfl rfl dX10_number_1 rfl ?_
  refine z_iload_n (pc' := 3) 1 rfl rfl dX10_number_2 rfl ?_
  refine z_istore (pc' := 5) (ls' := [(0, zR 28), (1, zI a0), (2, zI a1), (3, zI 0), (4, zI a0)]) (by decide) rfl rfl dX10_number_3 rfl ?_
  exact h
set_option maxRecDepth 4000 in
theorem v_T_number_5 {d : Nat} {w : z_Wd} {l1 l2 l3 l4 : Int} {Q : Option z_V → z_Wd → Prop} (h : (-2147483648 ≤ l4 ∧ l4 < 2147483648) ∧ ((l4 < 0 → Q (some (zI l3)) w) ∧ (¬ (l4 < 0) → (-2147483648 ≤ w 28 1 ∧ w 28 1 < 2147483648) ∧ ((l4 ≥ w 28 1 → Q (some (zI l3)) w) ∧ (¬ (l4 ≥ w 28 1) → (-2147483648 ≤ l1 + l2 ∧ l1 + l2 < 2147483648) ∧ ((l4 ≥ l1 + l2 → Q (some (zI l3)) w) ∧ (¬ (l4 ≥ l1 + l2) → (0 ≤ l4 ∧ l4 < 240) ∧ (z_Wp m_X10_number d 5 [(0, zR 28), (1, zI l1), (2, zI l2), (3, zI (((l3 * 10) + (w 29 l4.toNat)) - 48)), (4, zI (l4 + 1))] [] w Q)))))))) : z_Wp m_X10_number d 5 [(0, zR 28), (1, zI l1), (2, zI l2), (3, zI l3), (4, zI l4)] [] w Q := by
  refine z_iload (pc' := 7) 4 rfl dX10_number_5 rfl ?_
  obtain ⟨r1, h⟩ := h
  refine z_if_lt 49 dX10_number_7 (by decide) (pc' := 10) rfl r1 (fun c => ?_) (fun c => ?_)
  · have h := h.1 c
    refine z_iload_n (pc' := 50) 3 rfl rfl dX10_number_49 rfl ?_
    refine z_iret rfl dX10_number_50 ?_
    exact h
  · have h := h.2 c
    refine z_iload (pc' := 12) 4 rfl dX10_number_10 rfl ?_
    refine z_aload_n (pc' := 13) 0 rfl rfl dX10_number_12 rfl ?_
    refine z_getI2 (v := w 28 1) (pc' := 16) g_X10_13 (by decide) rfl rfl rfl dX10_number_13 rfl ?_
    obtain ⟨r2, h⟩ := h
    refine z_icmp_ge 49 dX10_number_16 (by decide) (pc' := 19) rfl r1 r2 (fun c => ?_) (fun c => ?_)
    · have h := h.1 c
      refine z_iload_n (pc' := 50) 3 rfl rfl dX10_number_49 rfl ?_
      refine z_iret rfl dX10_number_50 ?_
      exact h
    · have h := h.2 c
      refine z_iload (pc' := 21) 4 rfl dX10_number_19 rfl ?_
      refine z_iload_n (pc' := 22) 1 rfl rfl dX10_number_21 rfl ?_
      refine z_iload_n (pc' := 23) 2 rfl rfl dX10_number_22 rfl ?_
      refine z_iadd (pc' := 24) dX10_number_23 rfl ?_
      obtain ⟨r3, h⟩ := h
      refine z_icmp_ge 49 dX10_number_24 (by decide) (pc' := 27) rfl r1 r3 (fun c => ?_) (fun c => ?_)
      · have h := h.1 c
        refine z_iload_n (pc' := 50) 3 rfl rfl dX10_number_49 rfl ?_
        refine z_iret rfl dX10_number_50 ?_
        exact h
      · have h := h.2 c
        refine z_iload_n (pc' := 28) 3 rfl rfl dX10_number_27 rfl ?_
        refine z_bipush (pc' := 30) (by decide) dX10_number_28 rfl ?_
        refine z_imul (pc' := 31) dX10_number_30 rfl ?_
        refine z_aload_n (pc' := 32) 0 rfl rfl dX10_number_31 rfl ?_
        refine z_getR (t := 29) (pc' := 35) g_X10_9 (by decide) rfl rfl dX10_number_32 rfl ?_
        refine z_iload (pc' := 37) 4 rfl dX10_number_35 rfl ?_
        obtain ⟨r4, h⟩ := h
        refine z_iald2 (v := w 29 l4.toNat) (pc' := 38) (by decide) rfl r4 (by decide) rfl dX10_number_37 rfl ?_
        refine z_iadd (pc' := 39) dX10_number_38 rfl ?_
        refine z_bipush (pc' := 41) (by decide) dX10_number_39 rfl ?_
        refine z_isub (pc' := 42) dX10_number_41 rfl ?_
        refine z_istore_n (pc' := 43) (ls' := [(0, zR 28), (1, zI l1), (2, zI l2), (3, zI (((l3 * 10) + (w 29 l4.toNat)) - 48)), (4, zI l4)]) rfl (by decide) rfl rfl dX10_number_42 rfl ?_
        refine z_iinc (pc' := 46) (ls' := [(0, zR 28), (1, zI l1), (2, zI l2), (3, zI (((l3 * 10) + (w 29 l4.toNat)) - 48)), (4, zI (l4 + 1))]) 4 rfl (by decide) rfl rfl dX10_number_43 rfl ?_
        refine z_goto 5 dX10_number_46 (by decide) ?_
        exact h
set_option maxRecDepth 4000 in
theorem v_W_bounded {d : Nat} {w : z_Wd} {a0 : Int} {Q : Option z_V → z_Wd → Prop} (h : (-9223372036854775808 ≤ a0 ∧ a0 < 9223372036854775808) ∧ ((z_cmp a0 (-1000000) ≥ 0 → (z_cmp a0 1000000 ≤ 0 → Q (some (zI a0)) w) ∧ (¬ (z_cmp a0 1000000 ≤ 0) → Q (some (zI 1000000)) w)) ∧ (¬ (z_cmp a0 (-1000000) ≥ 0) → Q (some (zI (-1000000))) w))) : z_Wc d m_X4_bounded [zJ a0] w Q := by
  refine z_enter rfl (Nat.le_of_ble_eq_true rfl) ?_
  show z_Wp m_X4_bounded _ 0 [(0, zJ a0)] [] w _
  refine z_lload_n (pc' := 1) 0 rfl rfl dX4_bounded_0 rfl ?_
  refine z_ldc2 (n := (-1000000)) (pc' := 4) t_4_114 (by decide) dX4_bounded_1 rfl ?_
  obtain ⟨r1, h⟩ := h
  refine z_lcmp (pc' := 5) r1 (by decide) dX4_bounded_4 rfl ?_
  refine z_if_ge 14 dX4_bounded_5 (by decide) (pc' := 8) rfl (z_cmp_r _ _) (fun c => ?_) (fun c => ?_)
  · have h := h.1 c
    refine z_lload_n (pc' := 15) 0 rfl rfl dX4_bounded_14 rfl ?_
    refine z_ldc2 (n := 1000000) (pc' := 18) t_4_115 (by decide) dX4_bounded_15 rfl ?_
    refine z_lcmp (pc' := 19) r1 (by decide) dX4_bounded_18 rfl ?_
    refine z_if_le 28 dX4_bounded_19 (by decide) (pc' := 22) rfl (z_cmp_r _ _) (fun c => ?_) (fun c => ?_)
    · have h := h.1 c
      refine z_lload_n (pc' := 29) 0 rfl rfl dX4_bounded_28 rfl ?_
      refine z_l2i (pc' := 30) dX4_bounded_29 rfl ?_
      refine z_iret rfl dX4_bounded_30 ?_
      exact h
    · have h := h.2 c
      refine z_ldc2 (n := 1000000) (pc' := 25) t_4_115 (by decide) dX4_bounded_22 rfl ?_
      refine z_goto 29 dX4_bounded_25 (by decide) ?_
      refine z_l2i (pc' := 30) dX4_bounded_29 rfl ?_
      refine z_iret rfl dX4_bounded_30 ?_
      exact h
  · have h := h.2 c
    refine z_ldc2 (n := (-1000000)) (pc' := 11) t_4_114 (by decide) dX4_bounded_8 rfl ?_
    refine z_goto 29 dX4_bounded_11 (by decide) ?_
    refine z_l2i (pc' := 30) dX4_bounded_29 rfl ?_
    refine z_iret rfl dX4_bounded_30 ?_
    exact h
