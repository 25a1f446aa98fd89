set_option maxRecDepth 4000 in
theorem v_T_append {d : Nat} {w : z_Wd} {a0 : Int} {Q : Option z_V → z_Wd → Prop} (h : z_Wp m_X10_append d 3 [(0, zR 28), (1, zI a0), (2, zI 24)] [] w Q) : z_Wc d m_X10_append [zR 28, zI a0] w Q := by
  refine z_enter rfl (Nat.le_of_ble_eq_true rfl) ?_
  show z_Wp m_X10_append _ 0 [(0, zR 28), (1, zI a0)] [] w _
  refine z_bipush (pc' := 2) (by decide) dX10_append_0 rfl ?_
  refine z_istore_n (pc' := 3) (ls' := [(0, zR 28), (1, zI a0), (2, zI 24)]) rfl (by decide) rfl rfl dX10_append_2 rfl ?_
  exact h
set_option maxRecDepth 4000 in
theorem v_T_append_3 {d : Nat} {w : z_Wd} {l1 l2 : Int} {Q : Option z_V → z_Wd → Prop} (h : (-2147483648 ≤ l2 ∧ l2 < 2147483648) ∧ ((l2 < 0 → Q (none) w) ∧ (¬ (l2 < 0) → (-2147483648 ≤ zz_and (zz_ushr l1 l2) 255 ∧ zz_and (zz_ushr l1 l2) 255 < 2147483648) ∧ ((zz_and (zz_ushr l1 l2) 255 = 0 → z_Wp m_X10_append d 3 [(0, zR 28), (1, zI l1), (2, zI (l2 + (-8)))] [] w Q) ∧ (¬ (zz_and (zz_ushr l1 l2) 255 = 0) → (-2147483648 ≤ w 28 1 ∧ w 28 1 < 2147483648) ∧ ((w 28 1 ≥ 240 → z_Wp m_X10_append d 3 [(0, zR 28), (1, zI l1), (2, zI (l2 + (-8)))] [] w Q) ∧ (¬ (w 28 1 ≥ 240) → (0 ≤ w 28 1 ∧ w 28 1 < 240) ∧ (z_Wp m_X10_append d 3 [(0, zR 28), (1, zI l1), (2, zI (l2 + (-8)))] [] (z_up (z_up w 29 ((w 28 1).toNat) (zz_and (zz_ushr l1 l2) 255)) 28 1 ((w 28 1) + 1)) Q)))))))) : z_Wp m_X10_append d 3 [(0, zR 28), (1, zI l1), (2, zI l2)] [] w Q := by
  refine z_iload_n (pc' := 4) 2 rfl rfl dX10_append_3 rfl ?_
  obtain ⟨r1, h⟩ := h
  refine z_if_lt 55 dX10_append_4 (by decide) (pc' := 7) rfl r1 (fun c => ?_) (fun c => ?_)
  · have h := h.1 c
    refine z_vret rfl dX10_append_55 ?_
    exact h
  · have h := h.2 c
    refine z_iload_n (pc' := 8) 1 rfl rfl dX10_append_7 rfl ?_
    refine z_iload_n (pc' := 9) 2 rfl rfl dX10_append_8 rfl ?_
    refine z_iushr (pc' := 10) dX10_append_9 rfl ?_
    refine z_sipush (pc' := 13) (by decide) dX10_append_10 rfl ?_
    refine z_iand (pc' := 14) dX10_append_13 rfl ?_
    refine z_istore_n (pc' := 15) (ls' := [(0, zR 28), (1, zI l1), (2, zI l2), (3, zI (zz_and (zz_ushr l1 l2) 255))]) rfl (by decide) rfl rfl dX10_append_14 rfl ?_
    refine z_iload_n (pc' := 16) 3 rfl rfl dX10_append_15 rfl ?_
    obtain ⟨r2, h⟩ := h
    refine z_if_eq 49 dX10_append_16 (by decide) (pc' := 19) rfl r2 (fun c => ?_) (fun c => ?_)
    · have h := h.1 c
      refine z_iinc (pc' := 52) (ls' := [(0, zR 28), (1, zI l1), (2, zI (l2 + (-8))), (3, zI (zz_and (zz_ushr l1 l2) 255))]) 2 rfl (by decide) rfl rfl dX10_append_49 rfl ?_
      refine z_goto 3 dX10_append_52 (by decide) ?_
      exact z_Wp.sub h (z_sub_of [0, 1, 2] rfl)
    · have h := h.2 c
      refine z_aload_n (pc' := 20) 0 rfl rfl dX10_append_19 rfl ?_
      refine z_getI2 (v := w 28 1) (pc' := 23) g_X10_13 (by decide) rfl rfl rfl dX10_append_20 rfl ?_
      refine z_sipush (pc' := 26) (by decide) dX10_append_23 rfl ?_
      obtain ⟨r3, h⟩ := h
      refine z_icmp_ge 49 dX10_append_26 (by decide) (pc' := 29) rfl r3 (by decide) (fun c => ?_) (fun c => ?_)
      · have h := h.1 c
        refine z_iinc (pc' := 52) (ls' := [(0, zR 28), (1, zI l1), (2, zI (l2 + (-8))), (3, zI (zz_and (zz_ushr l1 l2) 255))]) 2 rfl (by decide) rfl rfl dX10_append_49 rfl ?_
        refine z_goto 3 dX10_append_52 (by decide) ?_
        exact z_Wp.sub h (z_sub_of [0, 1, 2] rfl)
      · have h := h.2 c
        refine z_aload_n (pc' := 30) 0 rfl rfl dX10_append_29 rfl ?_
        refine z_getR (t := 29) (pc' := 33) g_X10_9 (by decide) rfl rfl dX10_append_30 rfl ?_
        refine z_aload_n (pc' := 34) 0 rfl rfl dX10_append_33 rfl ?_
        refine z_getI2 (v := w 28 1) (pc' := 37) g_X10_13 (by decide) rfl rfl rfl dX10_append_34 rfl ?_
        refine z_iload_n (pc' := 38) 3 rfl rfl dX10_append_37 rfl ?_
        obtain ⟨r4, h⟩ := h
        refine z_iast2 (w' := z_up w 29 ((w 28 1).toNat) (zz_and (zz_ushr l1 l2) 255)) (pc' := 39) (by decide) rfl r4 (by decide) rfl dX10_append_38 rfl ?_
        refine z_aload_n (pc' := 40) 0 rfl rfl dX10_append_39 rfl ?_
        refine z_dup (pc' := 41) rfl dX10_append_40 rfl ?_
        refine z_getI2 (v := w 28 1) (pc' := 44) g_X10_13 (by decide) rfl rfl rfl dX10_append_41 rfl ?_
        refine z_iconst (pc' := 45) dX10_append_44 rfl ?_
        refine z_iadd (pc' := 46) dX10_append_45 rfl ?_
        refine z_putI (pc' := 49) p_X10_13 (by decide) rfl rfl rfl rfl dX10_append_46 rfl ?_
        refine z_iinc (pc' := 52) (ls' := [(0, zR 28), (1, zI l1), (2, zI (l2 + (-8))), (3, zI (zz_and (zz_ushr l1 l2) 255))]) 2 rfl (by decide) rfl rfl dX10_append_49 rfl ?_
        refine z_goto 3 dX10_append_52 (by decide) ?_
        exact z_Wp.sub h (z_sub_of [0, 1, 2] rfl)
