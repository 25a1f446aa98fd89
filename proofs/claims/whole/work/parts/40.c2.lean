def P_D_canPlay (w : z_Wd) (a0 : Int) (a1 : Int) (a2 : Int) : Prop := (P_Y_hasName w a0) ∧ ((F_Y_hasName w a0 = 0 → True) ∧ (¬ (F_Y_hasName w a0 = 0) → (P_Y_hasName w a1) ∧ ((F_Y_hasName w a1 = 0 → True) ∧ (¬ (F_Y_hasName w a1 = 0) → (-2147483648 ≤ a0 ∧ a0 < 2147483648) ∧ (-2147483648 ≤ a1 ∧ a1 < 2147483648) ∧ ((a0 = a1 → True) ∧ (¬ (a0 = a1) → P_Y_hasWell w a2))))))
def F_D_canPlay (w : z_Wd) (a0 : Int) (a1 : Int) (a2 : Int) : Int := if F_Y_hasName w a0 = 0 then 0 else if F_Y_hasName w a1 = 0 then 0 else if a0 = a1 then 0 else if F_Y_hasWell w a2 = 0 then 0 else 1
set_option maxRecDepth 4000 in
theorem c_D_canPlay {d : Nat} {w : z_Wd} {a0 a1 a2 : Int} {Q : Option z_V → z_Wd → Prop} (h : P_D_canPlay w a0 a1 a2) (k : Q (some (zI (F_D_canPlay w a0 a1 a2))) w) : z_Wc (d + 1) m_X11_canPlay [zR 27, zI a0, zI a1, zI a2] w Q := by
  unfold P_D_canPlay at h
  unfold F_D_canPlay at k
  refine z_enter rfl (Nat.le_of_ble_eq_true rfl) ?_
  show z_Wp m_X11_canPlay _ 0 [(0, zR 27), (1, zI a0), (2, zI a1), (3, zI a2)] [] w _
  refine z_aload_n (pc' := 1) 0 rfl rfl dX11_canPlay_0 rfl ?_
  refine z_getR (t := 30) (pc' := 4) g_X11_19 (by decide) rfl rfl dX11_canPlay_1 rfl ?_
  refine z_iload_n (pc' := 5) 1 rfl rfl dX11_canPlay_4 rfl ?_
  refine z_invV (as := [zI a0]) (st := []) (C := m_X6_hasName) (fs := [33, 34]) (pc' := 8) dX11_canPlay_5 rfl t_3_178 k_X6_hasName rfl (by decide) rfl rfl rfl rfl (Nat.le_of_ble_eq_true rfl) ?_
  obtain ⟨r1, h⟩ := h
  refine c_Y_hasName r1 ?_
  show z_Wp m_X11_canPlay _ 8 [(0, zR 27), (1, zI a0), (2, zI a1), (3, zI a2)] [zI (F_Y_hasName w a0)] w _
  refine z_if_eq 42 dX11_canPlay_8 (by decide) (pc' := 11) rfl (z_rb b_Y_hasName) (fun c => ?_) (fun c => ?_)
  · have h := h.1 c
    rw [if_pos c] at k
    refine z_iconst (pc' := 43) dX11_canPlay_42 rfl ?_
    refine z_zret rfl (by decide) dX11_canPlay_43 ?_
    exact k
  · have h := h.2 c
    rw [if_neg c] at k
    refine z_aload_n (pc' := 12) 0 rfl rfl dX11_canPlay_11 rfl ?_
    refine z_getR (t := 30) (pc' := 15) g_X11_19 (by decide) rfl rfl dX11_canPlay_12 rfl ?_
    refine z_iload_n (pc' := 16) 2 rfl rfl dX11_canPlay_15 rfl ?_
    refine z_invV (as := [zI a1]) (st := []) (C := m_X6_hasName) (fs := [33, 34]) (pc' := 19) dX11_canPlay_16 rfl t_3_178 k_X6_hasName rfl (by decide) rfl rfl rfl rfl (Nat.le_of_ble_eq_true rfl) ?_
    obtain ⟨r2, h⟩ := h
    refine c_Y_hasName r2 ?_
    show z_Wp m_X11_canPlay _ 19 [(0, zR 27), (1, zI a0), (2, zI a1), (3, zI a2)] [zI (F_Y_hasName w a1)] w _
    refine z_if_eq 42 dX11_canPlay_19 (by decide) (pc' := 22) rfl (z_rb b_Y_hasName) (fun c => ?_) (fun c => ?_)
    · have h := h.1 c
      rw [if_pos c] at k
      refine z_iconst (pc' := 43) dX11_canPlay_42 rfl ?_
      refine z_zret rfl (by decide) dX11_canPlay_43 ?_
      exact k
    · have h := h.2 c
      rw [if_neg c] at k
      refine z_iload_n (pc' := 23) 1 rfl rfl dX11_canPlay_22 rfl ?_
      refine z_iload_n (pc' := 24) 2 rfl rfl dX11_canPlay_23 rfl ?_
      obtain ⟨r3, h⟩ := h
      obtain ⟨r4, h⟩ := h
      refine z_icmp_eq 42 dX11_canPlay_24 (by decide) (pc' := 27) rfl r3 r4 (fun c => ?_) (fun c => ?_)
      · have h := h.1 c
        rw [if_pos c] at k
        refine z_iconst (pc' := 43) dX11_canPlay_42 rfl ?_
        refine z_zret rfl (by decide) dX11_canPlay_43 ?_
        exact k
      · have h := h.2 c
        rw [if_neg c] at k
        refine z_aload_n (pc' := 28) 0 rfl rfl dX11_canPlay_27 rfl ?_
        refine z_getR (t := 30) (pc' := 31) g_X11_19 (by decide) rfl rfl dX11_canPlay_28 rfl ?_
        refine z_iload_n (pc' := 32) 3 rfl rfl dX11_canPlay_31 rfl ?_
        refine z_invV (as := [zI a2]) (st := []) (C := m_X6_hasWell) (fs := [33, 34]) (pc' := 35) dX11_canPlay_32 rfl t_3_111 k_X6_hasWell rfl (by decide) rfl rfl rfl rfl (Nat.le_of_ble_eq_true rfl) ?_
        have r5 := h
        refine c_Y_hasWell r5 ?_
        show z_Wp m_X11_canPlay _ 35 [(0, zR 27), (1, zI a0), (2, zI a1), (3, zI a2)] [zI (F_Y_hasWell w a2)] w _
        refine z_if_eq 42 dX11_canPlay_35 (by decide) (pc' := 38) rfl (z_rb b_Y_hasWell) (fun c => ?_) (fun c => ?_)
        · skip
          rw [if_pos c] at k
          refine z_iconst (pc' := 43) dX11_canPlay_42 rfl ?_
          refine z_zret rfl (by decide) dX11_canPlay_43 ?_
          exact k
        · skip
          rw [if_neg c] at k
          refine z_iconst (pc' := 39) dX11_canPlay_38 rfl ?_
          refine z_goto 43 dX11_canPlay_39 (by decide) ?_
          refine z_zret rfl (by decide) dX11_canPlay_43 ?_
          exact k
theorem b_D_canPlay {w : z_Wd} {a0 a1 a2 : Int} : F_D_canPlay w a0 a1 a2 = 0 ∨ F_D_canPlay w a0 a1 a2 = 1 := by
  unfold F_D_canPlay
  (repeat' split) <;> first | exact Or.inl rfl | exact Or.inr rfl
def P_D_known (w : z_Wd) (a0 : Int) : Prop := (P_Y_hasName w a0) ∧ ((F_Y_hasName w a0 = 0 → True) ∧ (¬ (F_Y_hasName w a0 = 0) → P_Y_knownBy w a0))
def F_D_known (w : z_Wd) (a0 : Int) : Int := if F_Y_hasName w a0 = 0 then (-1) else F_Y_knownBy w a0
set_option maxRecDepth 4000 in
theorem c_D_known {d : Nat} {w : z_Wd} {a0 : Int} {Q : Option z_V → z_Wd → Prop} (h : P_D_known w a0) (k : Q (some (zI (F_D_known w a0))) w) : z_Wc (d + 2) m_X11_known [zR 27, zI a0] w Q := by
  unfold P_D_known at h
  unfold F_D_known at k
  refine z_enter rfl (Nat.le_of_ble_eq_true rfl) ?_
  show z_Wp m_X11_known _ 0 [(0, zR 27), (1, zI a0)] [] w _
  refine z_aload_n (pc' := 1) 0 rfl rfl dX11_known_0 rfl ?_
  refine z_getR (t := 30) (pc' := 4) g_X11_19 (by decide) rfl rfl dX11_known_1 rfl ?_
  refine z_iload_n (pc' := 5) 1 rfl rfl dX11_known_4 rfl ?_
  refine z_invV (as := [zI a0]) (st := []) (C := m_X6_hasName) (fs := [33, 34]) (pc' := 8) dX11_known_5 rfl t_3_178 k_X6_hasName rfl (by decide) rfl rfl rfl rfl (Nat.le_of_ble_eq_true rfl) ?_
  obtain ⟨r1, h⟩ := h
  refine c_Y_hasName r1 ?_
  show z_Wp m_X11_known _ 8 [(0, zR 27), (1, zI a0)] [zI (F_Y_hasName w a0)] w _
  refine z_if_eq 22 dX11_known_8 (by decide) (pc' := 11) rfl (z_rb b_Y_hasName) (fun c => ?_) (fun c => ?_)
  · have h := h.1 c
    rw [if_pos c] at k
    refine z_iconst (pc' := 23) dX11_known_22 rfl ?_
    refine z_iret rfl dX11_known_23 ?_
    exact k
  · have h := h.2 c
    rw [if_neg c] at k
    refine z_aload_n (pc' := 12) 0 rfl rfl dX11_known_11 rfl ?_
    refine z_getR (t := 30) (pc' := 15) g_X11_19 (by decide) rfl rfl dX11_known_12 rfl ?_
    refine z_iload_n (pc' := 16) 1 rfl rfl dX11_known_15 rfl ?_
    refine z_invV (as := [zI a0]) (st := []) (C := m_X6_knownBy) (fs := [33, 34]) (pc' := 19) dX11_known_16 rfl t_5_163 k_X6_knownBy rfl (by decide) rfl rfl rfl rfl (Nat.le_of_ble_eq_true rfl) ?_
    have r2 := h
    refine c_Y_knownBy r2 ?_
    show z_Wp m_X11_known _ 19 [(0, zR 27), (1, zI a0)] [zI (F_Y_knownBy w a0)] w _
    refine z_goto 23 dX11_known_19 (by decide) ?_
    refine z_iret rfl dX11_known_23 ?_
    exact k
def A_Y_setUsual_34_2 (w : z_Wd) (a0 : Int) (a1 : Int) : Nat → z_Wd
  | 0 => w
  | i5 + 1 => z_up (A_Y_setUsual_34_2 w a0 a1 i5) 35 (((((z_sc 1 a0.toNat) + a1) * 3) + (i5 : Int)).toNat) (z_sc 2 (((a0 * 3) + (i5 : Int)).toNat))
def P_Y_setUsual_34 (w : z_Wd) (a0 : Int) (a1 : Int) : Prop := (∀ i5 : Nat, i5 < 3 → (-2147483648 ≤ (i5 : Int) ∧ (i5 : Int) < 2147483648) ∧ (0 ≤ a0 ∧ a0 < 4) ∧ (0 ≤ (a0 * 3) + (i5 : Int) ∧ (a0 * 3) + (i5 : Int) < 12) ∧ (0 ≤ (((z_sc 1 a0.toNat) + a1) * 3) + (i5 : Int) ∧ (((z_sc 1 a0.toNat) + a1) * 3) + (i5 : Int) < 54)) ∧ (True)
def F_Y_setUsual_34 (w : z_Wd) (a0 : Int) (a1 : Int) : z_Wd := A_Y_setUsual_34_2 w a0 a1 3
set_option maxRecDepth 4000 in
theorem c_Y_setUsual_34 {d : Nat} {w : z_Wd} {a0 a1 : Int} {Q : Option z_V → z_Wd → Prop} (h : P_Y_setUsual_34 w a0 a1) (k : Q none (F_Y_setUsual_34 w a0 a1)) : z_Wc d m_X6_setUsual [zR 34, zI a0, zI a1] w Q := by
  unfold P_Y_setUsual_34 at h
  unfold F_Y_setUsual_34 at k
  refine z_enter rfl (Nat.le_of_ble_eq_true rfl) ?_
  show z_Wp m_X6_setUsual _ 0 [(0, zR 34), (1, zI a0), (2, zI a1)] [] w _
  refine z_iconst (pc' := 1) dX6_setUsual_0 rfl ?_
  refine z_istore_n (pc' := 2) (ls' := [(0, zR 34), (1, zI a0), (2, zI a1), (3, zI 0)]) rfl (by decide) rfl rfl dX6_setUsual_1 rfl ?_
  refine z_upto 3 (fun i5 => z_Wp m_X6_setUsual d 2 [(0, zR 34), (1, zI a0), (2, zI a1), (3, zI (i5 : Int))] [] (A_Y_setUsual_34_2 w a0 a1 i5) Q) ?_ ?_
  · skip
    have h := h.2
    refine z_iload_n (pc' := 3) 3 rfl rfl dX6_setUsual_2 rfl ?_
    refine z_iconst (pc' := 4) dX6_setUsual_3 rfl ?_
    refine z_icmp_ge 38 dX6_setUsual_4 (by decide) (pc' := 7) rfl (by decide) (by decide) (fun _ => ?_) (fun c => absurd c (by decide))
    refine z_vret rfl dX6_setUsual_38 ?_
    exact k
  · intro i5 hi ih
    have h := h.1 i5 hi
    have ih : z_Wp m_X6_setUsual d 2 [(0, zR 34), (1, zI a0), (2, zI a1), (3, zI ((i5 + 1 : Nat) : Int))] [] (z_up (A_Y_setUsual_34_2 w a0 a1 i5) 35 (((((z_sc 1 a0.toNat) + a1) * 3) + (i5 : Int)).toNat) (z_sc 2 (((a0 * 3) + (i5 : Int)).toNat))) Q := ih
    refine z_iload_n (pc' := 3) 3 rfl rfl dX6_setUsual_2 rfl ?_
    refine z_iconst (pc' := 4) dX6_setUsual_3 rfl ?_
    obtain ⟨r6, h⟩ := h
    refine z_icmp_ge 38 dX6_setUsual_4 (by decide) (pc' := 7) rfl r6 (by decide) (fun c => absurd c (by omega)) (fun _ => ?_)
    refine z_aload_n (pc' := 8) 0 rfl rfl dX6_setUsual_7 rfl ?_
    refine z_getR (t := 35) (pc' := 11) g_X6_9 (by decide) rfl rfl dX6_setUsual_8 rfl ?_
    refine z_gets (i := 1) (pc' := 14) rfl t_2_92 dX6_setUsual_11 rfl ?_
    refine z_iload_n (pc' := 15) 1 rfl rfl dX6_setUsual_14 rfl ?_
    obtain ⟨r7, h⟩ := h
    refine z_ials2 (i := 1) (v := z_sc 1 a0.toNat) (pc' := 16) rfl rfl r7 (by decide) rfl dX6_setUsual_15 rfl ?_
    refine z_iload_n (pc' := 17) 2 rfl rfl dX6_setUsual_16 rfl ?_
    refine z_iadd (pc' := 18) dX6_setUsual_17 rfl ?_
    refine z_iconst (pc' := 19) dX6_setUsual_18 rfl ?_
    refine z_imul (pc' := 20) dX6_setUsual_19 rfl ?_
    refine z_iload_n (pc' := 21) 3 rfl rfl dX6_setUsual_20 rfl ?_
    refine z_iadd (pc' := 22) dX6_setUsual_21 rfl ?_
    refine z_gets (i := 2) (pc' := 25) rfl t_2_94 dX6_setUsual_22 rfl ?_
    refine z_iload_n (pc' := 26) 1 rfl rfl dX6_setUsual_25 rfl ?_
    refine z_iconst (pc' := 27) dX6_setUsual_26 rfl ?_
    refine z_imul (pc' := 28) dX6_setUsual_27 rfl ?_
    refine z_iload_n (pc' := 29) 3 rfl rfl dX6_setUsual_28 rfl ?_
    refine z_iadd (pc' := 30) dX6_setUsual_29 rfl ?_
    obtain ⟨r8, h⟩ := h
    refine z_ials2 (i := 2) (v := z_sc 2 (((a0 * 3) + (i5 : Int)).toNat)) (pc' := 31) rfl rfl r8 (by decide) rfl dX6_setUsual_30 rfl ?_
    have r9 := h
    refine z_iast2 (w' := z_up (A_Y_setUsual_34_2 w a0 a1 i5) 35 (((((z_sc 1 a0.toNat) + a1) * 3) + (i5 : Int)).toNat) (z_sc 2 (((a0 * 3) + (i5 : Int)).toNat))) (pc' := 32) (by decide) rfl r9 (by decide) rfl dX6_setUsual_31 rfl ?_
    refine z_iinc (pc' := 35) (ls' := [(0, zR 34), (1, zI a0), (2, zI a1), (3, zI ((i5 : Int) + 1))]) 3 rfl (by decide) rfl rfl dX6_setUsual_32 rfl ?_
    refine z_goto 2 dX6_setUsual_35 (by decide) ?_
    exact ih
def P_Y_tellLatest_34 (w : z_Wd) (a0 : Int) (a1 : Int) (a2 : Int) : Prop := (0 ≤ a0 ∧ a0 < 4) ∧ (-2147483648 ≤ w 36 a0.toNat ∧ w 36 a0.toNat < 2147483648) ∧ ((w 36 a0.toNat ≤ 0 → True) ∧ (¬ (w 36 a0.toNat ≤ 0) → 0 ≤ ((((z_sc 1 a0.toNat) + (w 36 a0.toNat)) - 1) * 3) + a1 ∧ ((((z_sc 1 a0.toNat) + (w 36 a0.toNat)) - 1) * 3) + a1 < 54))
def F_Y_tellLatest_34 (w : z_Wd) (a0 : Int) (a1 : Int) (a2 : Int) : z_Wd := if w 36 a0.toNat ≤ 0 then w else z_up w 35 ((((((z_sc 1 a0.toNat) + (w 36 a0.toNat)) - 1) * 3) + a1).toNat) a2
set_option maxRecDepth 4000 in
theorem c_Y_tellLatest_34 {d : Nat} {w : z_Wd} {a0 a1 a2 : Int} {Q : Option z_V → z_Wd → Prop} (h : P_Y_tellLatest_34 w a0 a1 a2) (k : Q none (F_Y_tellLatest_34 w a0 a1 a2)) : z_Wc d m_X6_tellLatest [zR 34, zI a0, zI a1, zI a2] w Q := by
  unfold P_Y_tellLatest_34 at h
  unfold F_Y_tellLatest_34 at k
  refine z_enter rfl (Nat.le_of_ble_eq_true rfl) ?_
  show z_Wp m_X6_tellLatest _ 0 [(0, zR 34), (1, zI a0), (2, zI a1), (3, zI a2)] [] w _
  refine z_aload_n (pc' := 1) 0 rfl rfl dX6_tellLatest_0 rfl ?_
  refine z_getR (t := 36) (pc' := 4) g_X6_13 (by decide) rfl rfl dX6_tellLatest_1 rfl ?_
  refine z_iload_n (pc' := 5) 1 rfl rfl dX6_tellLatest_4 rfl ?_
  obtain ⟨r1, h⟩ := h
  refine z_iald2 (v := w 36 a0.toNat) (pc' := 6) (by decide) rfl r1 (by decide) rfl dX6_tellLatest_5 rfl ?_
  obtain ⟨r2, h⟩ := h
  refine z_if_le 33 dX6_tellLatest_6 (by decide) (pc' := 9) rfl r2 (fun c => ?_) (fun c => ?_)
  · have h := h.1 c
    rw [if_pos c] at k
    refine z_vret rfl dX6_tellLatest_33 ?_
    exact k
  · have h := h.2 c
    rw [if_neg c] at k
    refine z_aload_n (pc' := 10) 0 rfl rfl dX6_tellLatest_9 rfl ?_
    refine z_getR (t := 35) (pc' := 13) g_X6_9 (by decide) rfl rfl dX6_tellLatest_10 rfl ?_
    refine z_gets (i := 1) (pc' := 16) rfl t_2_92 dX6_tellLatest_13 rfl ?_
    refine z_iload_n (pc' := 17) 1 rfl rfl dX6_tellLatest_16 rfl ?_
    refine z_ials2 (i := 1) (v := z_sc 1 a0.toNat) (pc' := 18) rfl rfl r1 (by decide) rfl dX6_tellLatest_17 rfl ?_
    refine z_aload_n (pc' := 19) 0 rfl rfl dX6_tellLatest_18 rfl ?_
    refine z_getR (t := 36) (pc' := 22) g_X6_13 (by decide) rfl rfl dX6_tellLatest_19 rfl ?_
    refine z_iload_n (pc' := 23) 1 rfl rfl dX6_tellLatest_22 rfl ?_
    refine z_iald2 (v := w 36 a0.toNat) (pc' := 24) (by decide) rfl r1 (by decide) rfl dX6_tellLatest_23 rfl ?_
    refine z_iadd (pc' := 25) dX6_tellLatest_24 rfl ?_
    refine z_iconst (pc' := 26) dX6_tellLatest_25 rfl ?_
    refine z_isub (pc' := 27) dX6_tellLatest_26 rfl ?_
    refine z_iconst (pc' := 28) dX6_tellLatest_27 rfl ?_
    refine z_imul (pc' := 29) dX6_tellLatest_28 rfl ?_
    refine z_iload_n (pc' := 30) 2 rfl rfl dX6_tellLatest_29 rfl ?_
    refine z_iadd (pc' := 31) dX6_tellLatest_30 rfl ?_
    refine z_iload_n (pc' := 32) 3 rfl rfl dX6_tellLatest_31 rfl ?_
    have r3 := h
    refine z_iast2 (w' := z_up w 35 ((((((z_sc 1 a0.toNat) + (w 36 a0.toNat)) - 1) * 3) + a1).toNat) a2) (pc' := 33) (by decide) rfl r3 (by decide) rfl dX6_tellLatest_32 rfl ?_
    refine z_vret rfl dX6_tellLatest_33 ?_
    exact k
def P_Y_value_34 (w : z_Wd) (a0 : Int) (a1 : Int) (a2 : Int) : Prop := (-2147483648 ≤ a1 ∧ a1 < 2147483648) ∧ ((a1 < 0 → True) ∧ (¬ (a1 < 0) → (0 ≤ a0 ∧ a0 < 4) ∧ (-2147483648 ≤ z_sc 0 a0.toNat ∧ z_sc 0 a0.toNat < 2147483648) ∧ ((a1 ≥ z_sc 0 a0.toNat → True) ∧ (¬ (a1 ≥ z_sc 0 a0.toNat) → 0 ≤ (((z_sc 1 a0.toNat) + a1) * 3) + a2 ∧ (((z_sc 1 a0.toNat) + a1) * 3) + a2 < 54))))
def F_Y_value_34 (w : z_Wd) (a0 : Int) (a1 : Int) (a2 : Int) : Int := if a1 < 0 then 0 else if a1 ≥ z_sc 0 a0.toNat then 0 else w 35 (((((z_sc 1 a0.toNat) + a1) * 3) + a2).toNat)
set_option maxRecDepth 4000 in
theorem c_Y_value_34 {d : Nat} {w : z_Wd} {a0 a1 a2 : Int} {Q : Option z_V → z_Wd → Prop} (h : P_Y_value_34 w a0 a1 a2) (k : Q (some (zI (F_Y_value_34 w a0 a1 a2))) w) : z_Wc d m_X6_value [zR 34, zI a0, zI a1, zI a2] w Q := by
  unfold P_Y_value_34 at h
  unfold F_Y_value_34 at k
  refine z_enter rfl (Nat.le_of_ble_eq_true rfl) ?_
  show z_Wp m_X6_value _ 0 [(0, zR 34), (1, zI a0), (2, zI a1), (3, zI a2)] [] w _
  refine z_iload_n (pc' := 1) 2 rfl rfl dX6_value_0 rfl ?_
  obtain ⟨r1, h⟩ := h
  refine z_if_lt 17 dX6_value_1 (by decide) (pc' := 4) rfl r1 (fun c => ?_) (fun c => ?_)
  · have h := h.1 c
    rw [if_pos c] at k
    refine z_iconst (pc' := 18) dX6_value_17 rfl ?_
    refine z_istore (pc' := 20) (ls' := [(0, zR 34), (1, zI a0), (2, zI a1), (3, zI a2), (4, zI 0)]) (by decide) rfl rfl dX6_value_18 rfl ?_
    refine z_iload (pc' := 22) 4 rfl dX6_value_20 rfl ?_
    refine z_if_eq 44 dX6_value_22 (by decide) (pc' := 25) rfl (by decide) (fun _ => ?_) (fun c => absurd c (by decide))
    refine z_iconst (pc' := 45) dX6_value_44 rfl ?_
    refine z_iret rfl dX6_value_45 ?_
    exact k
  · have h := h.2 c
    rw [if_neg c] at k
    refine z_iload_n (pc' := 5) 2 rfl rfl dX6_value_4 rfl ?_
    refine z_gets (i := 0) (pc' := 8) rfl t_2_117 dX6_value_5 rfl ?_
    refine z_iload_n (pc' := 9) 1 rfl rfl dX6_value_8 rfl ?_
    obtain ⟨r2, h⟩ := h
    refine z_ials2 (i := 0) (v := z_sc 0 a0.toNat) (pc' := 10) rfl rfl r2 (by decide) rfl dX6_value_9 rfl ?_
    obtain ⟨r3, h⟩ := h
    refine z_icmp_ge 17 dX6_value_10 (by decide) (pc' := 13) rfl r1 r3 (fun c => ?_) (fun c => ?_)
    · have h := h.1 c
      rw [if_pos c] at k
      refine z_iconst (pc' := 18) dX6_value_17 rfl ?_
      refine z_istore (pc' := 20) (ls' := [(0, zR 34), (1, zI a0), (2, zI a1), (3, zI a2), (4, zI 0)]) (by decide) rfl rfl dX6_value_18 rfl ?_
      refine z_iload (pc' := 22) 4 rfl dX6_value_20 rfl ?_
      refine z_if_eq 44 dX6_value_22 (by decide) (pc' := 25) rfl (by decide) (fun _ => ?_) (fun c => absurd c (by decide))
      refine z_iconst (pc' := 45) dX6_value_44 rfl ?_
      refine z_iret rfl dX6_value_45 ?_
      exact k
    · have h := h.2 c
      rw [if_neg c] at k
      refine z_iconst (pc' := 14) dX6_value_13 rfl ?_
      refine z_goto 18 dX6_value_14 (by decide) ?_
      refine z_istore (pc' := 20) (ls' := [(0, zR 34), (1, zI a0), (2, zI a1), (3, zI a2), (4, zI 1)]) (by decide) rfl rfl dX6_value_18 rfl ?_
      refine z_iload (pc' := 22) 4 rfl dX6_value_20 rfl ?_
      refine z_if_eq 44 dX6_value_22 (by decide) (pc' := 25) rfl (by decide) (fun c => absurd c (by decide)) (fun _ => ?_)
      refine z_aload_n (pc' := 26) 0 rfl rfl dX6_value_25 rfl ?_
      refine z_getR (t := 35) (pc' := 29) g_X6_9 (by decide) rfl rfl dX6_value_26 rfl ?_
      refine z_gets (i := 1) (pc' := 32) rfl t_2_92 dX6_value_29 rfl ?_
      refine z_iload_n (pc' := 33) 1 rfl rfl dX6_value_32 rfl ?_
      refine z_ials2 (i := 1) (v := z_sc 1 a0.toNat) (pc' := 34) rfl rfl r2 (by decide) rfl dX6_value_33 rfl ?_
      refine z_iload_n (pc' := 35) 2 rfl rfl dX6_value_34 rfl ?_
      refine z_iadd (pc' := 36) dX6_value_35 rfl ?_
      refine z_iconst (pc' := 37) dX6_value_36 rfl ?_
      refine z_imul (pc' := 38) dX6_value_37 rfl ?_
      refine z_iload_n (pc' := 39) 3 rfl rfl dX6_value_38 rfl ?_
      refine z_iadd (pc' := 40) dX6_value_39 rfl ?_
      have r4 := h
      refine z_iald2 (v := w 35 (((((z_sc 1 a0.toNat) + a1) * 3) + a2).toNat)) (pc' := 41) (by decide) rfl r4 (by decide) rfl dX6_value_40 rfl ?_
      refine z_goto 45 dX6_value_41 (by decide) ?_
      refine z_iret rfl dX6_value_45 ?_
      exact k
def F_Y_wells_34 (w : z_Wd)  : Int := w 36 1
set_option maxRecDepth 4000 in
theorem c_Y_wells_34 {d : Nat} {w : z_Wd} {Q : Option z_V → z_Wd → Prop} (k : Q (some (zI (F_Y_wells_34 w ))) w) : z_Wc d m_X6_wells [zR 34] w Q := by
  unfold F_Y_wells_34 at k
  refine z_enter rfl (Nat.le_of_ble_eq_true rfl) ?_
  show z_Wp m_X6_wells _ 0 [(0, zR 34)] [] w _
  refine z_aload_n (pc' := 1) 0 rfl rfl dX6_wells_0 rfl ?_
  refine z_getR (t := 36) (pc' := 4) g_X6_13 (by decide) rfl rfl dX6_wells_1 rfl ?_
  refine z_iconst (pc' := 5) dX6_wells_4 rfl ?_
  refine z_iald2 (v := w 36 1) (pc' := 6) (by decide) rfl (by decide) (by decide) rfl dX6_wells_5 rfl ?_
  refine z_iret rfl dX6_wells_6 ?_
  exact k
def F_Y_names_34 (w : z_Wd)  : Int := w 36 2
set_option maxRecDepth 4000 in
theorem c_Y_names_34 {d : Nat} {w : z_Wd} {Q : Option z_V → z_Wd → Prop} (k : Q (some (zI (F_Y_names_34 w ))) w) : z_Wc d m_X6_names [zR 34] w Q := by
  unfold F_Y_names_34 at k
  refine z_enter rfl (Nat.le_of_ble_eq_true rfl) ?_
  show z_Wp m_X6_names _ 0 [(0, zR 34)] [] w _
  refine z_aload_n (pc' := 1) 0 rfl rfl dX6_names_0 rfl ?_
  refine z_getR (t := 36) (pc' := 4) g_X6_13 (by decide) rfl rfl dX6_names_1 rfl ?_
  refine z_iconst (pc' := 5) dX6_names_4 rfl ?_
  refine z_iald2 (v := w 36 2) (pc' := 6) (by decide) rfl (by decide) (by decide) rfl dX6_names_5 rfl ?_
  refine z_iret rfl dX6_names_6 ?_
  exact k
def F_Y_files_34 (w : z_Wd)  : Int := w 36 3
set_option maxRecDepth 4000 in
theorem c_Y_files_34 {d : Nat} {w : z_Wd} {Q : Option z_V → z_Wd → Prop} (k : Q (some (zI (F_Y_files_34 w ))) w) : z_Wc d m_X6_files [zR 34] w Q := by
  unfold F_Y_files_34 at k
  refine z_enter rfl (Nat.le_of_ble_eq_true rfl) ?_
  show z_Wp m_X6_files _ 0 [(0, zR 34)] [] w _
  refine z_aload_n (pc' := 1) 0 rfl rfl dX6_files_0 rfl ?_
  refine z_getR (t := 36) (pc' := 4) g_X6_13 (by decide) rfl rfl dX6_files_1 rfl ?_
  refine z_iconst (pc' := 5) dX6_files_4 rfl ?_
  refine z_iald2 (v := w 36 3) (pc' := 6) (by decide) rfl (by decide) (by decide) rfl dX6_files_5 rfl ?_
  refine z_iret rfl dX6_files_6 ?_
  exact k
def P_Y_hasName_34 (w : z_Wd) (a0 : Int) : Prop := (-2147483648 ≤ a0 ∧ a0 < 2147483648) ∧ ((a0 < 0 → True) ∧ (¬ (a0 < 0) → -2147483648 ≤ w 36 2 ∧ w 36 2 < 2147483648))
def F_Y_hasName_34 (w : z_Wd) (a0 : Int) : Int := if a0 < 0 then 0 else if a0 ≥ w 36 2 then 0 else 1
set_option maxRecDepth 4000 in
theorem c_Y_hasName_34 {d : Nat} {w : z_Wd} {a0 : Int} {Q : Option z_V → z_Wd → Prop} (h : P_Y_hasName_34 w a0) (k : Q (some (zI (F_Y_hasName_34 w a0))) w) : z_Wc d m_X6_hasName [zR 34, zI a0] w Q := by
  unfold P_Y_hasName_34 at h
  unfold F_Y_hasName_34 at k
  refine z_enter rfl (Nat.le_of_ble_eq_true rfl) ?_
  show z_Wp m_X6_hasName _ 0 [(0, zR 34), (1, zI a0)] [] w _
  refine z_iload_n (pc' := 1) 1 rfl rfl dX6_hasName_0 rfl ?_
  obtain ⟨r1, h⟩ := h
  refine z_if_lt 18 dX6_hasName_1 (by decide) (pc' := 4) rfl r1 (fun c => ?_) (fun c => ?_)
  · have h := h.1 c
    rw [if_pos c] at k
    refine z_iconst (pc' := 19) dX6_hasName_18 rfl ?_
    refine z_zret rfl (by decide) dX6_hasName_19 ?_
    exact k
  · have h := h.2 c
    rw [if_neg c] at k
    refine z_iload_n (pc' := 5) 1 rfl rfl dX6_hasName_4 rfl ?_
    refine z_aload_n (pc' := 6) 0 rfl rfl dX6_hasName_5 rfl ?_
    refine z_getR (t := 36) (pc' := 9) g_X6_13 (by decide) rfl rfl dX6_hasName_6 rfl ?_
    refine z_iconst (pc' := 10) dX6_hasName_9 rfl ?_
    refine z_iald2 (v := w 36 2) (pc' := 11) (by decide) rfl (by decide) (by decide) rfl dX6_hasName_10 rfl ?_
    have r2 := h
    refine z_icmp_ge 18 dX6_hasName_11 (by decide) (pc' := 14) rfl r1 r2 (fun c => ?_) (fun c => ?_)
    · skip
      rw [if_pos c] at k
      refine z_iconst (pc' := 19) dX6_hasName_18 rfl ?_
      refine z_zret rfl (by decide) dX6_hasName_19 ?_
      exact k
    · skip
      rw [if_neg c] at k
      refine z_iconst (pc' := 15) dX6_hasName_14 rfl ?_
      refine z_goto 19 dX6_hasName_15 (by decide) ?_
      refine z_zret rfl (by decide) dX6_hasName_19 ?_
      exact k
theorem b_Y_hasName_34 {w : z_Wd} {a0 : Int} : F_Y_hasName_34 w a0 = 0 ∨ F_Y_hasName_34 w a0 = 1 := by
  unfold F_Y_hasName_34
  (repeat' split) <;> first | exact Or.inl rfl | exact Or.inr rfl
def P_Y_knows_34 (w : z_Wd) (a0 : Int) : Prop := P_Y_value_34 w 2 a0 1
def F_Y_knows_34 (w : z_Wd) (a0 : Int) : Int := F_Y_value_34 w 2 a0 1
set_option maxRecDepth 4000 in
theorem c_Y_knows_34 {d : Nat} {w : z_Wd} {a0 : Int} {Q : Option z_V → z_Wd → Prop} (h : P_Y_knows_34 w a0) (k : Q (some (zI (F_Y_knows_34 w a0))) w) : z_Wc (d + 1) m_X6_knows [zR 34, zI a0] w Q := by
  unfold P_Y_knows_34 at h
  unfold F_Y_knows_34 at k
  refine z_enter rfl (Nat.le_of_ble_eq_true rfl) ?_
  show z_Wp m_X6_knows _ 0 [(0, zR 34), (1, zI a0)] [] w _
  refine z_aload_n (pc' := 1) 0 rfl rfl dX6_knows_0 rfl ?_
  refine z_iconst (pc' := 2) dX6_knows_1 rfl ?_
  refine z_iload_n (pc' := 3) 1 rfl rfl dX6_knows_2 rfl ?_
  refine z_iconst (pc' := 4) dX6_knows_3 rfl ?_
  refine z_invV (as := [zI 2, zI a0, zI 1]) (st := []) (C := m_X6_value) (fs := [37, 38]) (pc' := 7) dX6_knows_4 rfl t_2_169 k_X6_value rfl (by decide) rfl rfl rfl rfl (Nat.le_of_ble_eq_true rfl) ?_
  have r1 := h
  refine c_Y_value_34 r1 ?_
  show z_Wp m_X6_knows _ 7 [(0, zR 34), (1, zI a0)] [zI (F_Y_value_34 w 2 a0 1)] w _
  refine z_iret rfl dX6_knows_7 ?_
  exact k
def P_Y_inFile_34 (w : z_Wd) (a0 : Int) (a1 : Int) : Prop := (-2147483648 ≤ a1 ∧ a1 < 2147483648) ∧ ((a1 = 0 → P_Y_value_34 w 3 a0 0) ∧ (¬ (a1 = 0) → P_Y_value_34 w 3 a0 1))
def F_Y_inFile_34 (w : z_Wd) (a0 : Int) (a1 : Int) : Int := if a1 = 0 then F_Y_value_34 w 3 a0 0 else F_Y_value_34 w 3 a0 1
set_option maxRecDepth 4000 in
theorem c_Y_inFile_34 {d : Nat} {w : z_Wd} {a0 a1 : Int} {Q : Option z_V → z_Wd → Prop} (h : P_Y_inFile_34 w a0 a1) (k : Q (some (zI (F_Y_inFile_34 w a0 a1))) w) : z_Wc (d + 1) m_X6_inFile [zR 34, zI a0, zI a1] w Q := by
  unfold P_Y_inFile_34 at h
  unfold F_Y_inFile_34 at k
  refine z_enter rfl (Nat.le_of_ble_eq_true rfl) ?_
  show z_Wp m_X6_inFile _ 0 [(0, zR 34), (1, zI a0), (2, zI a1)] [] w _
  refine z_aload_n (pc' := 1) 0 rfl rfl dX6_inFile_0 rfl ?_
  refine z_iconst (pc' := 2) dX6_inFile_1 rfl ?_
  refine z_iload_n (pc' := 3) 1 rfl rfl dX6_inFile_2 rfl ?_
  refine z_iload_n (pc' := 4) 2 rfl rfl dX6_inFile_3 rfl ?_
  obtain ⟨r1, h⟩ := h
  refine z_if_ne 11 dX6_inFile_4 (by decide) (pc' := 7) rfl r1 (fun c => ?_) (fun c => ?_)
  · have h := h.2 c
    rw [if_neg c] at k
    refine z_iconst (pc' := 12) dX6_inFile_11 rfl ?_
    refine z_invV (as := [zI 3, zI a0, zI 1]) (st := []) (C := m_X6_value) (fs := [37, 38]) (pc' := 15) dX6_inFile_12 rfl t_2_169 k_X6_value rfl (by decide) rfl rfl rfl rfl (Nat.le_of_ble_eq_true rfl) ?_
    have r2 := h
    refine c_Y_value_34 r2 ?_
    show z_Wp m_X6_inFile _ 15 [(0, zR 34), (1, zI a0), (2, zI a1)] [zI (F_Y_value_34 w 3 a0 1)] w _
    refine z_iret rfl dX6_inFile_15 ?_
    exact k
  · have h := h.1 c
    rw [if_pos c] at k
    refine z_iconst (pc' := 8) dX6_inFile_7 rfl ?_
    refine z_goto 12 dX6_inFile_8 (by decide) ?_
    refine z_invV (as := [zI 3, zI a0, zI 0]) (st := []) (C := m_X6_value) (fs := [37, 38]) (pc' := 15) dX6_inFile_12 rfl t_2_169 k_X6_value rfl (by decide) rfl rfl rfl rfl (Nat.le_of_ble_eq_true rfl) ?_
    have r3 := h
    refine c_Y_value_34 r3 ?_
    show z_Wp m_X6_inFile _ 15 [(0, zR 34), (1, zI a0), (2, zI a1)] [zI (F_Y_value_34 w 3 a0 0)] w _
    refine z_iret rfl dX6_inFile_15 ?_
    exact k
def F_Y_copyFrom_34 (w : z_Wd)  : z_Wd := z_cpy (z_cpy w 35 0 31 0 54) 36 0 32 0 4
set_option maxRecDepth 4000 in
theorem c_Y_copyFrom_34 {d : Nat} {w : z_Wd} {Q : Option z_V → z_Wd → Prop} (k : Q none (F_Y_copyFrom_34 w )) : z_Wc d m_X6_copyFrom [zR 30, zR 34] w Q := by
  unfold F_Y_copyFrom_34 at k
  refine z_enter rfl (Nat.le_of_ble_eq_true rfl) ?_
  show z_Wp m_X6_copyFrom _ 0 [(0, zR 30), (1, zR 34)] [] w _
  refine z_aload_n (pc' := 1) 1 rfl rfl dX6_copyFrom_0 rfl ?_
  refine z_getR (t := 35) (pc' := 4) g_X6_9 (by decide) rfl rfl dX6_copyFrom_1 rfl ?_
  refine z_iconst (pc' := 5) dX6_copyFrom_4 rfl ?_
  refine z_aload_n (pc' := 6) 0 rfl rfl dX6_copyFrom_5 rfl ?_
  refine z_getR (t := 31) (pc' := 9) g_X6_9 (by decide) rfl rfl dX6_copyFrom_6 rfl ?_
  refine z_iconst (pc' := 10) dX6_copyFrom_9 rfl ?_
  refine z_aload_n (pc' := 11) 0 rfl rfl dX6_copyFrom_10 rfl ?_
  refine z_getR (t := 31) (pc' := 14) g_X6_9 (by decide) rfl rfl dX6_copyFrom_11 rfl ?_
  refine z_alen2 (v := 54) (pc' := 15) (by decide) rfl rfl dX6_copyFrom_14 rfl ?_
  refine z_copy2 (w' := z_cpy w 35 0 31 0 54) (pc' := 18) t_3_46 t_3_48 t_3_47 t_1_14 (by decide) (by decide) rfl rfl (by decide) (by decide) (by decide) (by decide) (by decide) (by decide) (by decide) (Nat.le_of_ble_eq_true rfl) rfl dX6_copyFrom_15 rfl ?_
  refine z_aload_n (pc' := 19) 1 rfl rfl dX6_copyFrom_18 rfl ?_
  refine z_getR (t := 36) (pc' := 22) g_X6_13 (by decide) rfl rfl dX6_copyFrom_19 rfl ?_
  refine z_iconst (pc' := 23) dX6_copyFrom_22 rfl ?_
  refine z_aload_n (pc' := 24) 0 rfl rfl dX6_copyFrom_23 rfl ?_
  refine z_getR (t := 32) (pc' := 27) g_X6_13 (by decide) rfl rfl dX6_copyFrom_24 rfl ?_
  refine z_iconst (pc' := 28) dX6_copyFrom_27 rfl ?_
  refine z_aload_n (pc' := 29) 0 rfl rfl dX6_copyFrom_28 rfl ?_
  refine z_getR (t := 32) (pc' := 32) g_X6_13 (by decide) rfl rfl dX6_copyFrom_29 rfl ?_
  refine z_alen2 (v := 4) (pc' := 33) (by decide) rfl rfl dX6_copyFrom_32 rfl ?_
  refine z_copy2 (w' := z_cpy (z_cpy w 35 0 31 0 54) 36 0 32 0 4) (pc' := 36) t_3_46 t_3_48 t_3_47 t_1_14 (by decide) (by decide) rfl rfl (by decide) (by decide) (by decide) (by decide) (by decide) (by decide) (by decide) (Nat.le_of_ble_eq_true rfl) rfl dX6_copyFrom_33 rfl ?_
  refine z_vret rfl dX6_copyFrom_36 ?_
  exact k
def F_K_copyFrom_47_41 (w : z_Wd)  : z_Wd := z_up (z_up (z_up (z_cpy (z_cpy (z_cpy (z_cpy (z_cpy w 42 0 48 0 7) 43 0 49 0 7) 44 0 50 0 4) 45 0 51 0 100) 46 0 52 0 100) 47 6 ((z_cpy (z_cpy (z_cpy (z_cpy (z_cpy w 42 0 48 0 7) 43 0 49 0 7) 44 0 50 0 4) 45 0 51 0 100) 46 0 52 0 100) 41 6)) 47 7 ((z_cpy (z_cpy (z_cpy (z_cpy (z_cpy w 42 0 48 0 7) 43 0 49 0 7) 44 0 50 0 4) 45 0 51 0 100) 46 0 52 0 100) 41 7)) 47 8 ((z_cpy (z_cpy (z_cpy (z_cpy (z_cpy w 42 0 48 0 7) 43 0 49 0 7) 44 0 50 0 4) 45 0 51 0 100) 46 0 52 0 100) 41 8)
set_option maxRecDepth 4000 in
theorem c_K_copyFrom_47_41 {d : Nat} {w : z_Wd} {Q : Option z_V → z_Wd → Prop} (k : Q none (F_K_copyFrom_47_41 w )) : z_Wc d m_X3_copyFrom [zR 47, zR 41] w Q := by
  unfold F_K_copyFrom_47_41 at k
  refine z_enter rfl (Nat.le_of_ble_eq_true rfl) ?_
  show z_Wp m_X3_copyFrom _ 0 [(0, zR 47), (1, zR 41)] [] w _
  refine z_aload_n (pc' := 1) 1 rfl rfl dX3_copyFrom_0 rfl ?_
  refine z_getR (t := 42) (pc' := 4) g_X3_15 (by decide) rfl rfl dX3_copyFrom_1 rfl ?_
  refine z_iconst (pc' := 5) dX3_copyFrom_4 rfl ?_
  refine z_aload_n (pc' := 6) 0 rfl rfl dX3_copyFrom_5 rfl ?_
  refine z_getR (t := 48) (pc' := 9) g_X3_15 (by decide) rfl rfl dX3_copyFrom_6 rfl ?_
  refine z_iconst (pc' := 10) dX3_copyFrom_9 rfl ?_
  refine z_aload_n (pc' := 11) 0 rfl rfl dX3_copyFrom_10 rfl ?_
  refine z_getR (t := 48) (pc' := 14) g_X3_15 (by decide) rfl rfl dX3_copyFrom_11 rfl ?_
  refine z_alen2 (v := 7) (pc' := 15) (by decide) rfl rfl dX3_copyFrom_14 rfl ?_
  refine z_copy2 (w' := z_cpy w 42 0 48 0 7) (pc' := 18) t_3_218 t_3_48 t_3_47 t_1_14 (by decide) (by decide) rfl rfl (by decide) (by decide) (by decide) (by decide) (by decide) (by decide) (by decide) (Nat.le_of_ble_eq_true rfl) rfl dX3_copyFrom_15 rfl ?_
  refine z_aload_n (pc' := 19) 1 rfl rfl dX3_copyFrom_18 rfl ?_
  refine z_getR (t := 43) (pc' := 22) g_X3_19 (by decide) rfl rfl dX3_copyFrom_19 rfl ?_
  refine z_iconst (pc' := 23) dX3_copyFrom_22 rfl ?_
  refine z_aload_n (pc' := 24) 0 rfl rfl dX3_copyFrom_23 rfl ?_
  refine z_getR (t := 49) (pc' := 27) g_X3_19 (by decide) rfl rfl dX3_copyFrom_24 rfl ?_
  refine z_iconst (pc' := 28) dX3_copyFrom_27 rfl ?_
  refine z_aload_n (pc' := 29) 0 rfl rfl dX3_copyFrom_28 rfl ?_
  refine z_getR (t := 49) (pc' := 32) g_X3_19 (by decide) rfl rfl dX3_copyFrom_29 rfl ?_
  refine z_alen2 (v := 7) (pc' := 33) (by decide) rfl rfl dX3_copyFrom_32 rfl ?_
  refine z_copy2 (w' := z_cpy (z_cpy w 42 0 48 0 7) 43 0 49 0 7) (pc' := 36) t_3_218 t_3_48 t_3_47 t_1_14 (by decide) (by decide) rfl rfl (by decide) (by decide) (by decide) (by decide) (by decide) (by decide) (by decide) (Nat.le_of_ble_eq_true rfl) rfl dX3_copyFrom_33 rfl ?_
  refine z_aload_n (pc' := 37) 1 rfl rfl dX3_copyFrom_36 rfl ?_
  refine z_getR (t := 44) (pc' := 40) g_X3_22 (by decide) rfl rfl dX3_copyFrom_37 rfl ?_
  refine z_iconst (pc' := 41) dX3_copyFrom_40 rfl ?_
  refine z_aload_n (pc' := 42) 0 rfl rfl dX3_copyFrom_41 rfl ?_
  refine z_getR (t := 50) (pc' := 45) g_X3_22 (by decide) rfl rfl dX3_copyFrom_42 rfl ?_
  refine z_iconst (pc' := 46) dX3_copyFrom_45 rfl ?_
  refine z_aload_n (pc' := 47) 0 rfl rfl dX3_copyFrom_46 rfl ?_
  refine z_getR (t := 50) (pc' := 50) g_X3_22 (by decide) rfl rfl dX3_copyFrom_47 rfl ?_
  refine z_alen2 (v := 4) (pc' := 51) (by decide) rfl rfl dX3_copyFrom_50 rfl ?_
  refine z_copy2 (w' := z_cpy (z_cpy (z_cpy w 42 0 48 0 7) 43 0 49 0 7) 44 0 50 0 4) (pc' := 54) t_3_218 t_3_48 t_3_47 t_1_14 (by decide) (by decide) rfl rfl (by decide) (by decide) (by decide) (by decide) (by decide) (by decide) (by decide) (Nat.le_of_ble_eq_true rfl) rfl dX3_copyFrom_51 rfl ?_
  refine z_aload_n (pc' := 55) 1 rfl rfl dX3_copyFrom_54 rfl ?_
  refine z_getR (t := 45) (pc' := 58) g_X3_25 (by decide) rfl rfl dX3_copyFrom_55 rfl ?_
  refine z_iconst (pc' := 59) dX3_copyFrom_58 rfl ?_
  refine z_aload_n (pc' := 60) 0 rfl rfl dX3_copyFrom_59 rfl ?_
  refine z_getR (t := 51) (pc' := 63) g_X3_25 (by decide) rfl rfl dX3_copyFrom_60 rfl ?_
  refine z_iconst (pc' := 64) dX3_copyFrom_63 rfl ?_
  refine z_aload_n (pc' := 65) 0 rfl rfl dX3_copyFrom_64 rfl ?_
  refine z_getR (t := 51) (pc' := 68) g_X3_25 (by decide) rfl rfl dX3_copyFrom_65 rfl ?_
  refine z_alen2 (v := 100) (pc' := 69) (by decide) rfl rfl dX3_copyFrom_68 rfl ?_
  refine z_copy2 (w' := z_cpy (z_cpy (z_cpy (z_cpy w 42 0 48 0 7) 43 0 49 0 7) 44 0 50 0 4) 45 0 51 0 100) (pc' := 72) t_3_218 t_3_48 t_3_47 t_1_14 (by decide) (by decide) rfl rfl (by decide) (by decide) (by decide) (by decide) (by decide) (by decide) (by decide) (Nat.le_of_ble_eq_true rfl) rfl dX3_copyFrom_69 rfl ?_
  refine z_aload_n (pc' := 73) 1 rfl rfl dX3_copyFrom_72 rfl ?_
  refine z_getR (t := 46) (pc' := 76) g_X3_28 (by decide) rfl rfl dX3_copyFrom_73 rfl ?_
  refine z_iconst (pc' := 77) dX3_copyFrom_76 rfl ?_
  refine z_aload_n (pc' := 78) 0 rfl rfl dX3_copyFrom_77 rfl ?_
  refine z_getR (t := 52) (pc' := 81) g_X3_28 (by decide) rfl rfl dX3_copyFrom_78 rfl ?_
  refine z_iconst (pc' := 82) dX3_copyFrom_81 rfl ?_
  refine z_aload_n (pc' := 83) 0 rfl rfl dX3_copyFrom_82 rfl ?_
  refine z_getR (t := 52) (pc' := 86) g_X3_28 (by decide) rfl rfl dX3_copyFrom_83 rfl ?_
  refine z_alen2 (v := 100) (pc' := 87) (by decide) rfl rfl dX3_copyFrom_86 rfl ?_
  refine z_copy2 (w' := z_cpy (z_cpy (z_cpy (z_cpy (z_cpy w 42 0 48 0 7) 43 0 49 0 7) 44 0 50 0 4) 45 0 51 0 100) 46 0 52 0 100) (pc' := 90) t_3_218 t_3_48 t_3_47 t_1_14 (by decide) (by decide) rfl rfl (by decide) (by decide) (by decide) (by decide) (by decide) (by decide) (by decide) (Nat.le_of_ble_eq_true rfl) rfl dX3_copyFrom_87 rfl ?_
  refine z_aload_n (pc' := 91) 0 rfl rfl dX3_copyFrom_90 rfl ?_
  refine z_aload_n (pc' := 92) 1 rfl rfl dX3_copyFrom_91 rfl ?_
  refine z_getI2 (v := (z_cpy (z_cpy (z_cpy (z_cpy (z_cpy w 42 0 48 0 7) 43 0 49 0 7) 44 0 50 0 4) 45 0 51 0 100) 46 0 52 0 100) 41 6) (pc' := 95) g_X3_43 (by decide) rfl rfl rfl dX3_copyFrom_92 rfl ?_
  refine z_putI (pc' := 98) p_X3_43 (by decide) rfl rfl rfl rfl dX3_copyFrom_95 rfl ?_
  refine z_aload_n (pc' := 99) 0 rfl rfl dX3_copyFrom_98 rfl ?_
  refine z_aload_n (pc' := 100) 1 rfl rfl dX3_copyFrom_99 rfl ?_
  refine z_getI2 (v := (z_cpy (z_cpy (z_cpy (z_cpy (z_cpy w 42 0 48 0 7) 43 0 49 0 7) 44 0 50 0 4) 45 0 51 0 100) 46 0 52 0 100) 41 7) (pc' := 103) g_X3_47 (by decide) rfl rfl rfl dX3_copyFrom_100 rfl ?_
  refine z_putI (pc' := 106) p_X3_47 (by decide) rfl rfl rfl rfl dX3_copyFrom_103 rfl ?_
  refine z_aload_n (pc' := 107) 0 rfl rfl dX3_copyFrom_106 rfl ?_
  refine z_aload_n (pc' := 108) 1 rfl rfl dX3_copyFrom_107 rfl ?_
  refine z_getI2 (v := (z_cpy (z_cpy (z_cpy (z_cpy (z_cpy w 42 0 48 0 7) 43 0 49 0 7) 44 0 50 0 4) 45 0 51 0 100) 46 0 52 0 100) 41 8) (pc' := 111) g_X3_50 (by decide) rfl rfl rfl dX3_copyFrom_108 rfl ?_
  refine z_putI (pc' := 114) p_X3_50 (by decide) rfl rfl rfl rfl dX3_copyFrom_111 rfl ?_
  refine z_vret rfl dX3_copyFrom_114 ?_
  exact k
def F_K_copyFrom_47 (w : z_Wd)  : z_Wd := z_up (z_up (z_up (z_cpy (z_cpy (z_cpy (z_cpy (z_cpy w 48 0 42 0 7) 49 0 43 0 7) 50 0 44 0 4) 51 0 45 0 100) 52 0 46 0 100) 41 6 ((z_cpy (z_cpy (z_cpy (z_cpy (z_cpy w 48 0 42 0 7) 49 0 43 0 7) 50 0 44 0 4) 51 0 45 0 100) 52 0 46 0 100) 47 6)) 41 7 ((z_cpy (z_cpy (z_cpy (z_cpy (z_cpy w 48 0 42 0 7) 49 0 43 0 7) 50 0 44 0 4) 51 0 45 0 100) 52 0 46 0 100) 47 7)) 41 8 ((z_cpy (z_cpy (z_cpy (z_cpy (z_cpy w 48 0 42 0 7) 49 0 43 0 7) 50 0 44 0 4) 51 0 45 0 100) 52 0 46 0 100) 47 8)
set_option maxRecDepth 4000 in
theorem c_K_copyFrom_47 {d : Nat} {w : z_Wd} {Q : Option z_V → z_Wd → Prop} (k : Q none (F_K_copyFrom_47 w )) : z_Wc d m_X3_copyFrom [zR 41, zR 47] w Q := by
  unfold F_K_copyFrom_47 at k
  refine z_enter rfl (Nat.le_of_ble_eq_true rfl) ?_
  show z_Wp m_X3_copyFrom _ 0 [(0, zR 41), (1, zR 47)] [] w _
  refine z_aload_n (pc' := 1) 1 rfl rfl dX3_copyFrom_0 rfl ?_
  refine z_getR (t := 48) (pc' := 4) g_X3_15 (by decide) rfl rfl dX3_copyFrom_1 rfl ?_
  refine z_iconst (pc' := 5) dX3_copyFrom_4 rfl ?_
  refine z_aload_n (pc' := 6) 0 rfl rfl dX3_copyFrom_5 rfl ?_
  refine z_getR (t := 42) (pc' := 9) g_X3_15 (by decide) rfl rfl dX3_copyFrom_6 rfl ?_
  refine z_iconst (pc' := 10) dX3_copyFrom_9 rfl ?_
  refine z_aload_n (pc' := 11) 0 rfl rfl dX3_copyFrom_10 rfl ?_
  refine z_getR (t := 42) (pc' := 14) g_X3_15 (by decide) rfl rfl dX3_copyFrom_11 rfl ?_
  refine z_alen2 (v := 7) (pc' := 15) (by decide) rfl rfl dX3_copyFrom_14 rfl ?_
  refine z_copy2 (w' := z_cpy w 48 0 42 0 7) (pc' := 18) t_3_218 t_3_48 t_3_47 t_1_14 (by decide) (by decide) rfl rfl (by decide) (by decide) (by decide) (by decide) (by decide) (by decide) (by decide) (Nat.le_of_ble_eq_true rfl) rfl dX3_copyFrom_15 rfl ?_
  refine z_aload_n (pc' := 19) 1 rfl rfl dX3_copyFrom_18 rfl ?_
  refine z_getR (t := 49) (pc' := 22) g_X3_19 (by decide) rfl rfl dX3_copyFrom_19 rfl ?_
  refine z_iconst (pc' := 23) dX3_copyFrom_22 rfl ?_
  refine z_aload_n (pc' := 24) 0 rfl rfl dX3_copyFrom_23 rfl ?_
  refine z_getR (t := 43) (pc' := 27) g_X3_19 (by decide) rfl rfl dX3_copyFrom_24 rfl ?_
  refine z_iconst (pc' := 28) dX3_copyFrom_27 rfl ?_
  refine z_aload_n (pc' := 29) 0 rfl rfl dX3_copyFrom_28 rfl ?_
  refine z_getR (t := 43) (pc' := 32) g_X3_19 (by decide) rfl rfl dX3_copyFrom_29 rfl ?_
  refine z_alen2 (v := 7) (pc' := 33) (by decide) rfl rfl dX3_copyFrom_32 rfl ?_
  refine z_copy2 (w' := z_cpy (z_cpy w 48 0 42 0 7) 49 0 43 0 7) (pc' := 36) t_3_218 t_3_48 t_3_47 t_1_14 (by decide) (by decide) rfl rfl (by decide) (by decide) (by decide) (by decide) (by decide) (by decide) (by decide) (Nat.le_of_ble_eq_true rfl) rfl dX3_copyFrom_33 rfl ?_
  refine z_aload_n (pc' := 37) 1 rfl rfl dX3_copyFrom_36 rfl ?_
  refine z_getR (t := 50) (pc' := 40) g_X3_22 (by decide) rfl rfl dX3_copyFrom_37 rfl ?_
  refine z_iconst (pc' := 41) dX3_copyFrom_40 rfl ?_
  refine z_aload_n (pc' := 42) 0 rfl rfl dX3_copyFrom_41 rfl ?_
  refine z_getR (t := 44) (pc' := 45) g_X3_22 (by decide) rfl rfl dX3_copyFrom_42 rfl ?_
  refine z_iconst (pc' := 46) dX3_copyFrom_45 rfl ?_
  refine z_aload_n (pc' := 47) 0 rfl rfl dX3_copyFrom_46 rfl ?_
  refine z_getR (t := 44) (pc' := 50) g_X3_22 (by decide) rfl rfl dX3_copyFrom_47 rfl ?_
  refine z_alen2 (v := 4) (pc' := 51) (by decide) rfl rfl dX3_copyFrom_50 rfl ?_
  refine z_copy2 (w' := z_cpy (z_cpy (z_cpy w 48 0 42 0 7) 49 0 43 0 7) 50 0 44 0 4) (pc' := 54) t_3_218 t_3_48 t_3_47 t_1_14 (by decide) (by decide) rfl rfl (by decide) (by decide) (by decide) (by decide) (by decide) (by decide) (by decide) (Nat.le_of_ble_eq_true rfl) rfl dX3_copyFrom_51 rfl ?_
  refine z_aload_n (pc' := 55) 1 rfl rfl dX3_copyFrom_54 rfl ?_
  refine z_getR (t := 51) (pc' := 58) g_X3_25 (by decide) rfl rfl dX3_copyFrom_55 rfl ?_
  refine z_iconst (pc' := 59) dX3_copyFrom_58 rfl ?_
  refine z_aload_n (pc' := 60) 0 rfl rfl dX3_copyFrom_59 rfl ?_
  refine z_getR (t := 45) (pc' := 63) g_X3_25 (by decide) rfl rfl dX3_copyFrom_60 rfl ?_
  refine z_iconst (pc' := 64) dX3_copyFrom_63 rfl ?_
  refine z_aload_n (pc' := 65) 0 rfl rfl dX3_copyFrom_64 rfl ?_
  refine z_getR (t := 45) (pc' := 68) g_X3_25 (by decide) rfl rfl dX3_copyFrom_65 rfl ?_
  refine z_alen2 (v := 100) (pc' := 69) (by decide) rfl rfl dX3_copyFrom_68 rfl ?_
  refine z_copy2 (w' := z_cpy (z_cpy (z_cpy (z_cpy w 48 0 42 0 7) 49 0 43 0 7) 50 0 44 0 4) 51 0 45 0 100) (pc' := 72) t_3_218 t_3_48 t_3_47 t_1_14 (by decide) (by decide) rfl rfl (by decide) (by decide) (by decide) (by decide) (by decide) (by decide) (by decide) (Nat.le_of_ble_eq_true rfl) rfl dX3_copyFrom_69 rfl ?_
  refine z_aload_n (pc' := 73) 1 rfl rfl dX3_copyFrom_72 rfl ?_
  refine z_getR (t := 52) (pc' := 76) g_X3_28 (by decide) rfl rfl dX3_copyFrom_73 rfl ?_
  refine z_iconst (pc' := 77) dX3_copyFrom_76 rfl ?_
  refine z_aload_n (pc' := 78) 0 rfl rfl dX3_copyFrom_77 rfl ?_
  refine z_getR (t := 46) (pc' := 81) g_X3_28 (by decide) rfl rfl dX3_copyFrom_78 rfl ?_
  refine z_iconst (pc' := 82) dX3_copyFrom_81 rfl ?_
  refine z_aload_n (pc' := 83) 0 rfl rfl dX3_copyFrom_82 rfl ?_
  refine z_getR (t := 46) (pc' := 86) g_X3_28 (by decide) rfl rfl dX3_copyFrom_83 rfl ?_
  refine z_alen2 (v := 100) (pc' := 87) (by decide) rfl rfl dX3_copyFrom_86 rfl ?_
  refine z_copy2 (w' := z_cpy (z_cpy (z_cpy (z_cpy (z_cpy w 48 0 42 0 7) 49 0 43 0 7) 50 0 44 0 4) 51 0 45 0 100) 52 0 46 0 100) (pc' := 90) t_3_218 t_3_48 t_3_47 t_1_14 (by decide) (by decide) rfl rfl (by decide) (by decide) (by decide) (by decide) (by decide) (by decide) (by decide) (Nat.le_of_ble_eq_true rfl) rfl dX3_copyFrom_87 rfl ?_
  refine z_aload_n (pc' := 91) 0 rfl rfl dX3_copyFrom_90 rfl ?_
  refine z_aload_n (pc' := 92) 1 rfl rfl dX3_copyFrom_91 rfl ?_
  refine z_getI2 (v := (z_cpy (z_cpy (z_cpy (z_cpy (z_cpy w 48 0 42 0 7) 49 0 43 0 7) 50 0 44 0 4) 51 0 45 0 100) 52 0 46 0 100) 47 6) (pc' := 95) g_X3_43 (by decide) rfl rfl rfl dX3_copyFrom_92 rfl ?_
  refine z_putI (pc' := 98) p_X3_43 (by decide) rfl rfl rfl rfl dX3_copyFrom_95 rfl ?_
  refine z_aload_n (pc' := 99) 0 rfl rfl dX3_copyFrom_98 rfl ?_
  refine z_aload_n (pc' := 100) 1 rfl rfl dX3_copyFrom_99 rfl ?_
  refine z_getI2 (v := (z_cpy (z_cpy (z_cpy (z_cpy (z_cpy w 48 0 42 0 7) 49 0 43 0 7) 50 0 44 0 4) 51 0 45 0 100) 52 0 46 0 100) 47 7) (pc' := 103) g_X3_47 (by decide) rfl rfl rfl dX3_copyFrom_100 rfl ?_
  refine z_putI (pc' := 106) p_X3_47 (by decide) rfl rfl rfl rfl dX3_copyFrom_103 rfl ?_
  refine z_aload_n (pc' := 107) 0 rfl rfl dX3_copyFrom_106 rfl ?_
  refine z_aload_n (pc' := 108) 1 rfl rfl dX3_copyFrom_107 rfl ?_
  refine z_getI2 (v := (z_cpy (z_cpy (z_cpy (z_cpy (z_cpy w 48 0 42 0 7) 49 0 43 0 7) 50 0 44 0 4) 51 0 45 0 100) 52 0 46 0 100) 47 8) (pc' := 111) g_X3_50 (by decide) rfl rfl rfl dX3_copyFrom_108 rfl ?_
  refine z_putI (pc' := 114) p_X3_50 (by decide) rfl rfl rfl rfl dX3_copyFrom_111 rfl ?_
  refine z_vret rfl dX3_copyFrom_114 ?_
  exact k
def P_K_writeTo_54 (w : z_Wd) (a1 : Int) : Prop := (-2147483648 ≤ a1 ∧ a1 < 2147483648) ∧ ((a1 < 0 → True) ∧ (¬ (a1 < 0) → (-2147483648 ≤ a1 + 21 ∧ a1 + 21 < 2147483648) ∧ ((a1 + 21 ≤ 840 → (0 ≤ a1) ∧ (a1 + 7 ≤ 840) ∧ (0 ≤ a1 + 7) ∧ ((a1 + 7) + 7 ≤ 840) ∧ (0 ≤ a1 + 14) ∧ ((a1 + 14) + 4 ≤ 840) ∧ (0 ≤ (a1 + 21) - 3 ∧ (a1 + 21) - 3 < 840) ∧ (0 ≤ (a1 + 21) - 2 ∧ (a1 + 21) - 2 < 840) ∧ (0 ≤ (a1 + 21) - 1 ∧ (a1 + 21) - 1 < 840)) ∧ (¬ (a1 + 21 ≤ 840) → True))))
def F_K_writeTo_54 (w : z_Wd) (a1 : Int) : z_Wd := if a1 < 0 then w else if a1 + 21 ≤ 840 then z_up (z_up (z_up (z_cpy (z_cpy (z_cpy w 42 0 54 a1.toNat 7) 43 0 54 ((a1 + 7).toNat) 7) 44 0 54 ((a1 + 14).toNat) 4) 54 (((a1 + 21) - 3).toNat) ((z_cpy (z_cpy (z_cpy w 42 0 54 a1.toNat 7) 43 0 54 ((a1 + 7).toNat) 7) 44 0 54 ((a1 + 14).toNat) 4) 41 6)) 54 (((a1 + 21) - 2).toNat) ((z_cpy (z_cpy (z_cpy w 42 0 54 a1.toNat 7) 43 0 54 ((a1 + 7).toNat) 7) 44 0 54 ((a1 + 14).toNat) 4) 41 7)) 54 (((a1 + 21) - 1).toNat) ((z_cpy (z_cpy (z_cpy w 42 0 54 a1.toNat 7) 43 0 54 ((a1 + 7).toNat) 7) 44 0 54 ((a1 + 14).toNat) 4) 41 8) else w
set_option maxRecDepth 4000 in
theorem c_K_writeTo_54 {d : Nat} {w : z_Wd} {a1 : Int} {Q : Option z_V → z_Wd → Prop} (h : P_K_writeTo_54 w a1) (k : Q none (F_K_writeTo_54 w a1)) : z_Wc d m_X3_writeTo [zR 41, zR 54, zI a1] w Q := by
  unfold P_K_writeTo_54 at h
  unfold F_K_writeTo_54 at k
  refine z_enter rfl (Nat.le_of_ble_eq_true rfl) ?_
  show z_Wp m_X3_writeTo _ 0 [(0, zR 41), (1, zR 54), (2, zI a1)] [] w _
  refine z_iload_n (pc' := 1) 2 rfl rfl dX3_writeTo_0 rfl ?_
  obtain ⟨r1, h⟩ := h
  refine z_if_lt 13 dX3_writeTo_1 (by decide) (pc' := 4) rfl r1 (fun c => ?_) (fun c => ?_)
  · have h := h.1 c
    rw [if_pos c] at k
    refine z_vret rfl dX3_writeTo_13 ?_
    exact k
  · have h := h.2 c
    rw [if_neg c] at k
    refine z_iload_n (pc' := 5) 2 rfl rfl dX3_writeTo_4 rfl ?_
    refine z_bipush (pc' := 7) (by decide) dX3_writeTo_5 rfl ?_
    refine z_iadd (pc' := 8) dX3_writeTo_7 rfl ?_
    refine z_aload_n (pc' := 9) 1 rfl rfl dX3_writeTo_8 rfl ?_
    refine z_alen2 (v := 840) (pc' := 10) (by decide) rfl rfl dX3_writeTo_9 rfl ?_
    obtain ⟨r2, h⟩ := h
    refine z_icmp_le 14 dX3_writeTo_10 (by decide) (pc' := 13) rfl r2 (by decide) (fun c => ?_) (fun c => ?_)
    · have h := h.1 c
      rw [if_pos c] at k
      refine z_aload_n (pc' := 15) 0 rfl rfl dX3_writeTo_14 rfl ?_
      refine z_getR (t := 42) (pc' := 18) g_X3_15 (by decide) rfl rfl dX3_writeTo_15 rfl ?_
      refine z_iconst (pc' := 19) dX3_writeTo_18 rfl ?_
      refine z_aload_n (pc' := 20) 1 rfl rfl dX3_writeTo_19 rfl ?_
      refine z_iload_n (pc' := 21) 2 rfl rfl dX3_writeTo_20 rfl ?_
      refine z_aload_n (pc' := 22) 0 rfl rfl dX3_writeTo_21 rfl ?_
      refine z_getR (t := 42) (pc' := 25) g_X3_15 (by decide) rfl rfl dX3_writeTo_22 rfl ?_
      refine z_alen2 (v := 7) (pc' := 26) (by decide) rfl rfl dX3_writeTo_25 rfl ?_
      obtain ⟨r3, h⟩ := h
      obtain ⟨r4, h⟩ := h
      refine z_copy2 (w' := z_cpy w 42 0 54 a1.toNat 7) (pc' := 29) t_3_218 t_3_48 t_3_47 t_1_14 (by decide) (by decide) rfl rfl (by decide) (by decide) (by decide) r3 (by decide) (by decide) r4 (Nat.le_of_ble_eq_true rfl) rfl dX3_writeTo_26 rfl ?_
      refine z_aload_n (pc' := 30) 0 rfl rfl dX3_writeTo_29 rfl ?_
      refine z_getR (t := 43) (pc' := 33) g_X3_19 (by decide) rfl rfl dX3_writeTo_30 rfl ?_
      refine z_iconst (pc' := 34) dX3_writeTo_33 rfl ?_
      refine z_aload_n (pc' := 35) 1 rfl rfl dX3_writeTo_34 rfl ?_
      refine z_iload_n (pc' := 36) 2 rfl rfl dX3_writeTo_35 rfl ?_
      refine z_aload_n (pc' := 37) 0 rfl rfl dX3_writeTo_36 rfl ?_
      refine z_getR (t := 42) (pc' := 40) g_X3_15 (by decide) rfl rfl dX3_writeTo_37 rfl ?_
      refine z_alen2 (v := 7) (pc' := 41) (by decide) rfl rfl dX3_writeTo_40 rfl ?_
      refine z_iadd (pc' := 42) dX3_writeTo_41 rfl ?_
      refine z_aload_n (pc' := 43) 0 rfl rfl dX3_writeTo_42 rfl ?_
      refine z_getR (t := 43) (pc' := 46) g_X3_19 (by decide) rfl rfl dX3_writeTo_43 rfl ?_
      refine z_alen2 (v := 7) (pc' := 47) (by decide) rfl rfl dX3_writeTo_46 rfl ?_
      obtain ⟨r5, h⟩ := h
      obtain ⟨r6, h⟩ := h
      refine z_copy2 (w' := z_cpy (z_cpy w 42 0 54 a1.toNat 7) 43 0 54 ((a1 + 7).toNat) 7) (pc' := 50) t_3_218 t_3_48 t_3_47 t_1_14 (by decide) (by decide) rfl rfl (by decide) (by decide) (by decide) r5 (by decide) (by decide) r6 (Nat.le_of_ble_eq_true rfl) rfl dX3_writeTo_47 rfl ?_
      refine z_aload_n (pc' := 51) 0 rfl rfl dX3_writeTo_50 rfl ?_
      refine z_getR (t := 44) (pc' := 54) g_X3_22 (by decide) rfl rfl dX3_writeTo_51 rfl ?_
      refine z_iconst (pc' := 55) dX3_writeTo_54 rfl ?_
      refine z_aload_n (pc' := 56) 1 rfl rfl dX3_writeTo_55 rfl ?_
      refine z_iload_n (pc' := 57) 2 rfl rfl dX3_writeTo_56 rfl ?_
      refine z_iconst (pc' := 58) dX3_writeTo_57 rfl ?_
      refine z_aload_n (pc' := 59) 0 rfl rfl dX3_writeTo_58 rfl ?_
      refine z_getR (t := 42) (pc' := 62) g_X3_15 (by decide) rfl rfl dX3_writeTo_59 rfl ?_
      refine z_alen2 (v := 7) (pc' := 63) (by decide) rfl rfl dX3_writeTo_62 rfl ?_
      refine z_imul (pc' := 64) dX3_writeTo_63 rfl ?_
      refine z_eqI (y := 14) (by decide) ?_
      refine z_iadd (pc' := 65) dX3_writeTo_64 rfl ?_
      refine z_aload_n (pc' := 66) 0 rfl rfl dX3_writeTo_65 rfl ?_
      refine z_getR (t := 44) (pc' := 69) g_X3_22 (by decide) rfl rfl dX3_writeTo_66 rfl ?_
      refine z_alen2 (v := 4) (pc' := 70) (by decide) rfl rfl dX3_writeTo_69 rfl ?_
      obtain ⟨r7, h⟩ := h
      obtain ⟨r8, h⟩ := h
      refine z_copy2 (w' := z_cpy (z_cpy (z_cpy w 42 0 54 a1.toNat 7) 43 0 54 ((a1 + 7).toNat) 7) 44 0 54 ((a1 + 14).toNat) 4) (pc' := 73) t_3_218 t_3_48 t_3_47 t_1_14 (by decide) (by decide) rfl rfl (by decide) (by decide) (by decide) r7 (by decide) (by decide) r8 (Nat.le_of_ble_eq_true rfl) rfl dX3_writeTo_70 rfl ?_
      refine z_aload_n (pc' := 74) 1 rfl rfl dX3_writeTo_73 rfl ?_
      refine z_iload_n (pc' := 75) 2 rfl rfl dX3_writeTo_74 rfl ?_
      refine z_bipush (pc' := 77) (by decide) dX3_writeTo_75 rfl ?_
      refine z_iadd (pc' := 78) dX3_writeTo_77 rfl ?_
      refine z_iconst (pc' := 79) dX3_writeTo_78 rfl ?_
      refine z_isub (pc' := 80) dX3_writeTo_79 rfl ?_
      refine z_aload_n (pc' := 81) 0 rfl rfl dX3_writeTo_80 rfl ?_
      refine z_getI2 (v := (z_cpy (z_cpy (z_cpy w 42 0 54 a1.toNat 7) 43 0 54 ((a1 + 7).toNat) 7) 44 0 54 ((a1 + 14).toNat) 4) 41 6) (pc' := 84) g_X3_43 (by decide) rfl rfl rfl dX3_writeTo_81 rfl ?_
      obtain ⟨r9, h⟩ := h
      refine z_iast2 (w' := z_up (z_cpy (z_cpy (z_cpy w 42 0 54 a1.toNat 7) 43 0 54 ((a1 + 7).toNat) 7) 44 0 54 ((a1 + 14).toNat) 4) 54 (((a1 + 21) - 3).toNat) ((z_cpy (z_cpy (z_cpy w 42 0 54 a1.toNat 7) 43 0 54 ((a1 + 7).toNat) 7) 44 0 54 ((a1 + 14).toNat) 4) 41 6)) (pc' := 85) (by decide) rfl r9 (by decide) rfl dX3_writeTo_84 rfl ?_
      refine z_aload_n (pc' := 86) 1 rfl rfl dX3_writeTo_85 rfl ?_
      refine z_iload_n (pc' := 87) 2 rfl rfl dX3_writeTo_86 rfl ?_
      refine z_bipush (pc' := 89) (by decide) dX3_writeTo_87 rfl ?_
      refine z_iadd (pc' := 90) dX3_writeTo_89 rfl ?_
      refine z_iconst (pc' := 91) dX3_writeTo_90 rfl ?_
      refine z_isub (pc' := 92) dX3_writeTo_91 rfl ?_
      refine z_aload_n (pc' := 93) 0 rfl rfl dX3_writeTo_92 rfl ?_
      refine z_getI2 (v := (z_cpy (z_cpy (z_cpy w 42 0 54 a1.toNat 7) 43 0 54 ((a1 + 7).toNat) 7) 44 0 54 ((a1 + 14).toNat) 4) 41 7) (pc' := 96) g_X3_47 (by decide) rfl rfl rfl dX3_writeTo_93 rfl ?_
      obtain ⟨r10, h⟩ := h
      refine z_iast2 (w' := z_up (z_up (z_cpy (z_cpy (z_cpy w 42 0 54 a1.toNat 7) 43 0 54 ((a1 + 7).toNat) 7) 44 0 54 ((a1 + 14).toNat) 4) 54 (((a1 + 21) - 3).toNat) ((z_cpy (z_cpy (z_cpy w 42 0 54 a1.toNat 7) 43 0 54 ((a1 + 7).toNat) 7) 44 0 54 ((a1 + 14).toNat) 4) 41 6)) 54 (((a1 + 21) - 2).toNat) ((z_cpy (z_cpy (z_cpy w 42 0 54 a1.toNat 7) 43 0 54 ((a1 + 7).toNat) 7) 44 0 54 ((a1 + 14).toNat) 4) 41 7)) (pc' := 97) (by decide) rfl r10 (by decide) rfl dX3_writeTo_96 rfl ?_
      refine z_aload_n (pc' := 98) 1 rfl rfl dX3_writeTo_97 rfl ?_
      refine z_iload_n (pc' := 99) 2 rfl rfl dX3_writeTo_98 rfl ?_
      refine z_bipush (pc' := 101) (by decide) dX3_writeTo_99 rfl ?_
      refine z_iadd (pc' := 102) dX3_writeTo_101 rfl ?_
      refine z_iconst (pc' := 103) dX3_writeTo_102 rfl ?_
      refine z_isub (pc' := 104) dX3_writeTo_103 rfl ?_
      refine z_aload_n (pc' := 105) 0 rfl rfl dX3_writeTo_104 rfl ?_
      refine z_getI2 (v := (z_cpy (z_cpy (z_cpy w 42 0 54 a1.toNat 7) 43 0 54 ((a1 + 7).toNat) 7) 44 0 54 ((a1 + 14).toNat) 4) 41 8) (pc' := 108) g_X3_50 (by decide) rfl rfl rfl dX3_writeTo_105 rfl ?_
      have r11 := h
      refine z_iast2 (w' := z_up (z_up (z_up (z_cpy (z_cpy (z_cpy w 42 0 54 a1.toNat 7) 43 0 54 ((a1 + 7).toNat) 7) 44 0 54 ((a1 + 14).toNat) 4) 54 (((a1 + 21) - 3).toNat) ((z_cpy (z_cpy (z_cpy w 42 0 54 a1.toNat 7) 43 0 54 ((a1 + 7).toNat) 7) 44 0 54 ((a1 + 14).toNat) 4) 41 6)) 54 (((a1 + 21) - 2).toNat) ((z_cpy (z_cpy (z_cpy w 42 0 54 a1.toNat 7) 43 0 54 ((a1 + 7).toNat) 7) 44 0 54 ((a1 + 14).toNat) 4) 41 7)) 54 (((a1 + 21) - 1).toNat) ((z_cpy (z_cpy (z_cpy w 42 0 54 a1.toNat 7) 43 0 54 ((a1 + 7).toNat) 7) 44 0 54 ((a1 + 14).toNat) 4) 41 8)) (pc' := 109) (by decide) rfl r11 (by decide) rfl dX3_writeTo_108 rfl ?_
      refine z_vret rfl dX3_writeTo_109 ?_
      exact k
    · have h := h.2 c
      rw [if_neg c] at k
      refine z_vret rfl dX3_writeTo_13 ?_
      exact k
def P_K_readFrom_54 (w : z_Wd) (a1 : Int) : Prop := (-2147483648 ≤ a1 ∧ a1 < 2147483648) ∧ ((a1 < 0 → True) ∧ (¬ (a1 < 0) → (-2147483648 ≤ a1 + 21 ∧ a1 + 21 < 2147483648) ∧ ((a1 + 21 ≤ 840 → (0 ≤ a1) ∧ (a1 + 7 ≤ 840) ∧ (0 ≤ a1 + 7) ∧ ((a1 + 7) + 7 ≤ 840) ∧ (0 ≤ a1 + 14) ∧ ((a1 + 14) + 4 ≤ 840) ∧ (0 ≤ (a1 + 21) - 3 ∧ (a1 + 21) - 3 < 840) ∧ (0 ≤ (a1 + 21) - 2 ∧ (a1 + 21) - 2 < 840) ∧ (0 ≤ (a1 + 21) - 1 ∧ (a1 + 21) - 1 < 840)) ∧ (¬ (a1 + 21 ≤ 840) → True))))
def F_K_readFrom_54 (w : z_Wd) (a1 : Int) : z_Wd := if a1 < 0 then w else if a1 + 21 ≤ 840 then z_up (z_up (z_up (z_cpy (z_cpy (z_cpy w 54 a1.toNat 42 0 7) 54 ((a1 + 7).toNat) 43 0 7) 54 ((a1 + 14).toNat) 44 0 4) 41 6 ((z_cpy (z_cpy (z_cpy w 54 a1.toNat 42 0 7) 54 ((a1 + 7).toNat) 43 0 7) 54 ((a1 + 14).toNat) 44 0 4) 54 (((a1 + 21) - 3).toNat))) 41 7 ((z_cpy (z_cpy (z_cpy w 54 a1.toNat 42 0 7) 54 ((a1 + 7).toNat) 43 0 7) 54 ((a1 + 14).toNat) 44 0 4) 54 (((a1 + 21) - 2).toNat))) 41 8 ((z_cpy (z_cpy (z_cpy w 54 a1.toNat 42 0 7) 54 ((a1 + 7).toNat) 43 0 7) 54 ((a1 + 14).toNat) 44 0 4) 54 (((a1 + 21) - 1).toNat)) else w
set_option maxRecDepth 4000 in
theorem c_K_readFrom_54 {d : Nat} {w : z_Wd} {a1 : Int} {Q : Option z_V → z_Wd → Prop} (h : P_K_readFrom_54 w a1) (k : Q none (F_K_readFrom_54 w a1)) : z_Wc d m_X3_readFrom [zR 41, zR 54, zI a1] w Q := by
  unfold P_K_readFrom_54 at h
  unfold F_K_readFrom_54 at k
  refine z_enter rfl (Nat.le_of_ble_eq_true rfl) ?_
  show z_Wp m_X3_readFrom _ 0 [(0, zR 41), (1, zR 54), (2, zI a1)] [] w _
  refine z_iload_n (pc' := 1) 2 rfl rfl dX3_readFrom_0 rfl ?_
  obtain ⟨r1, h⟩ := h
  refine z_if_lt 13 dX3_readFrom_1 (by decide) (pc' := 4) rfl r1 (fun c => ?_) (fun c => ?_)
  · have h := h.1 c
    rw [if_pos c] at k
    refine z_vret rfl dX3_readFrom_13 ?_
    exact k
  · have h := h.2 c
    rw [if_neg c] at k
    refine z_iload_n (pc' := 5) 2 rfl rfl dX3_readFrom_4 rfl ?_
    refine z_bipush (pc' := 7) (by decide) dX3_readFrom_5 rfl ?_
    refine z_iadd (pc' := 8) dX3_readFrom_7 rfl ?_
    refine z_aload_n (pc' := 9) 1 rfl rfl dX3_readFrom_8 rfl ?_
    refine z_alen2 (v := 840) (pc' := 10) (by decide) rfl rfl dX3_readFrom_9 rfl ?_
    obtain ⟨r2, h⟩ := h
    refine z_icmp_le 14 dX3_readFrom_10 (by decide) (pc' := 13) rfl r2 (by decide) (fun c => ?_) (fun c => ?_)
    · have h := h.1 c
      rw [if_pos c] at k
      refine z_aload_n (pc' := 15) 1 rfl rfl dX3_readFrom_14 rfl ?_
      refine z_iload_n (pc' := 16) 2 rfl rfl dX3_readFrom_15 rfl ?_
      refine z_aload_n (pc' := 17) 0 rfl rfl dX3_readFrom_16 rfl ?_
      refine z_getR (t := 42) (pc' := 20) g_X3_15 (by decide) rfl rfl dX3_readFrom_17 rfl ?_
      refine z_iconst (pc' := 21) dX3_readFrom_20 rfl ?_
      refine z_aload_n (pc' := 22) 0 rfl rfl dX3_readFrom_21 rfl ?_
      refine z_getR (t := 42) (pc' := 25) g_X3_15 (by decide) rfl rfl dX3_readFrom_22 rfl ?_
      refine z_alen2 (v := 7) (pc' := 26) (by decide) rfl rfl dX3_readFrom_25 rfl ?_
      obtain ⟨r3, h⟩ := h
      obtain ⟨r4, h⟩ := h
      refine z_copy2 (w' := z_cpy w 54 a1.toNat 42 0 7) (pc' := 29) t_3_218 t_3_48 t_3_47 t_1_14 (by decide) (by decide) rfl rfl (by decide) (by decide) r3 (by decide) (by decide) r4 (by decide) (Nat.le_of_ble_eq_true rfl) rfl dX3_readFrom_26 rfl ?_
      refine z_aload_n (pc' := 30) 1 rfl rfl dX3_readFrom_29 rfl ?_
      refine z_iload_n (pc' := 31) 2 rfl rfl dX3_readFrom_30 rfl ?_
      refine z_aload_n (pc' := 32) 0 rfl rfl dX3_readFrom_31 rfl ?_
      refine z_getR (t := 42) (pc' := 35) g_X3_15 (by decide) rfl rfl dX3_readFrom_32 rfl ?_
      refine z_alen2 (v := 7) (pc' := 36) (by decide) rfl rfl dX3_readFrom_35 rfl ?_
      refine z_iadd (pc' := 37) dX3_readFrom_36 rfl ?_
      refine z_aload_n (pc' := 38) 0 rfl rfl dX3_readFrom_37 rfl ?_
      refine z_getR (t := 43) (pc' := 41) g_X3_19 (by decide) rfl rfl dX3_readFrom_38 rfl ?_
      refine z_iconst (pc' := 42) dX3_readFrom_41 rfl ?_
      refine z_aload_n (pc' := 43) 0 rfl rfl dX3_readFrom_42 rfl ?_
      refine z_getR (t := 43) (pc' := 46) g_X3_19 (by decide) rfl rfl dX3_readFrom_43 rfl ?_
      refine z_alen2 (v := 7) (pc' := 47) (by decide) rfl rfl dX3_readFrom_46 rfl ?_
      obtain ⟨r5, h⟩ := h
      obtain ⟨r6, h⟩ := h
      refine z_copy2 (w' := z_cpy (z_cpy w 54 a1.toNat 42 0 7) 54 ((a1 + 7).toNat) 43 0 7) (pc' := 50) t_3_218 t_3_48 t_3_47 t_1_14 (by decide) (by decide) rfl rfl (by decide) (by decide) r5 (by decide) (by decide) r6 (by decide) (Nat.le_of_ble_eq_true rfl) rfl dX3_readFrom_47 rfl ?_
      refine z_aload_n (pc' := 51) 1 rfl rfl dX3_readFrom_50 rfl ?_
      refine z_iload_n (pc' := 52) 2 rfl rfl dX3_readFrom_51 rfl ?_
      refine z_iconst (pc' := 53) dX3_readFrom_52 rfl ?_
      refine z_aload_n (pc' := 54) 0 rfl rfl dX3_readFrom_53 rfl ?_
      refine z_getR (t := 42) (pc' := 57) g_X3_15 (by decide) rfl rfl dX3_readFrom_54 rfl ?_
      refine z_alen2 (v := 7) (pc' := 58) (by decide) rfl rfl dX3_readFrom_57 rfl ?_
      refine z_imul (pc' := 59) dX3_readFrom_58 rfl ?_
      refine z_eqI (y := 14) (by decide) ?_
      refine z_iadd (pc' := 60) dX3_readFrom_59 rfl ?_
      refine z_aload_n (pc' := 61) 0 rfl rfl dX3_readFrom_60 rfl ?_
      refine z_getR (t := 44) (pc' := 64) g_X3_22 (by decide) rfl rfl dX3_readFrom_61 rfl ?_
      refine z_iconst (pc' := 65) dX3_readFrom_64 rfl ?_
      refine z_aload_n (pc' := 66) 0 rfl rfl dX3_readFrom_65 rfl ?_
      refine z_getR (t := 44) (pc' := 69) g_X3_22 (by decide) rfl rfl dX3_readFrom_66 rfl ?_
      refine z_alen2 (v := 4) (pc' := 70) (by decide) rfl rfl dX3_readFrom_69 rfl ?_
      obtain ⟨r7, h⟩ := h
      obtain ⟨r8, h⟩ := h
      refine z_copy2 (w' := z_cpy (z_cpy (z_cpy w 54 a1.toNat 42 0 7) 54 ((a1 + 7).toNat) 43 0 7) 54 ((a1 + 14).toNat) 44 0 4) (pc' := 73) t_3_218 t_3_48 t_3_47 t_1_14 (by decide) (by decide) rfl rfl (by decide) (by decide) r7 (by decide) (by decide) r8 (by decide) (Nat.le_of_ble_eq_true rfl) rfl dX3_readFrom_70 rfl ?_
      refine z_aload_n (pc' := 74) 0 rfl rfl dX3_readFrom_73 rfl ?_
      refine z_aload_n (pc' := 75) 1 rfl rfl dX3_readFrom_74 rfl ?_
      refine z_iload_n (pc' := 76) 2 rfl rfl dX3_readFrom_75 rfl ?_
      refine z_bipush (pc' := 78) (by decide) dX3_readFrom_76 rfl ?_
      refine z_iadd (pc' := 79) dX3_readFrom_78 rfl ?_
      refine z_iconst (pc' := 80) dX3_readFrom_79 rfl ?_
      refine z_isub (pc' := 81) dX3_readFrom_80 rfl ?_
      obtain ⟨r9, h⟩ := h
      refine z_iald2 (v := (z_cpy (z_cpy (z_cpy w 54 a1.toNat 42 0 7) 54 ((a1 + 7).toNat) 43 0 7) 54 ((a1 + 14).toNat) 44 0 4) 54 (((a1 + 21) - 3).toNat)) (pc' := 82) (by decide) rfl r9 (by decide) rfl dX3_readFrom_81 rfl ?_
      refine z_putI (pc' := 85) p_X3_43 (by decide) rfl rfl rfl rfl dX3_readFrom_82 rfl ?_
      refine z_aload_n (pc' := 86) 0 rfl rfl dX3_readFrom_85 rfl ?_
      refine z_aload_n (pc' := 87) 1 rfl rfl dX3_readFrom_86 rfl ?_
      refine z_iload_n (pc' := 88) 2 rfl rfl dX3_readFrom_87 rfl ?_
      refine z_bipush (pc' := 90) (by decide) dX3_readFrom_88 rfl ?_
      refine z_iadd (pc' := 91) dX3_readFrom_90 rfl ?_
      refine z_iconst (pc' := 92) dX3_readFrom_91 rfl ?_
      refine z_isub (pc' := 93) dX3_readFrom_92 rfl ?_
      obtain ⟨r10, h⟩ := h
      refine z_iald2 (v := (z_cpy (z_cpy (z_cpy w 54 a1.toNat 42 0 7) 54 ((a1 + 7).toNat) 43 0 7) 54 ((a1 + 14).toNat) 44 0 4) 54 (((a1 + 21) - 2).toNat)) (pc' := 94) (by decide) rfl r10 (by decide) rfl dX3_readFrom_93 rfl ?_
      refine z_putI (pc' := 97) p_X3_47 (by decide) rfl rfl rfl rfl dX3_readFrom_94 rfl ?_
      refine z_aload_n (pc' := 98) 0 rfl rfl dX3_readFrom_97 rfl ?_
      refine z_aload_n (pc' := 99) 1 rfl rfl dX3_readFrom_98 rfl ?_
      refine z_iload_n (pc' := 100) 2 rfl rfl dX3_readFrom_99 rfl ?_
      refine z_bipush (pc' := 102) (by decide) dX3_readFrom_100 rfl ?_
      refine z_iadd (pc' := 103) dX3_readFrom_102 rfl ?_
      refine z_iconst (pc' := 104) dX3_readFrom_103 rfl ?_
      refine z_isub (pc' := 105) dX3_readFrom_104 rfl ?_
      have r11 := h
      refine z_iald2 (v := (z_cpy (z_cpy (z_cpy w 54 a1.toNat 42 0 7) 54 ((a1 + 7).toNat) 43 0 7) 54 ((a1 + 14).toNat) 44 0 4) 54 (((a1 + 21) - 1).toNat)) (pc' := 106) (by decide) rfl r11 (by decide) rfl dX3_readFrom_105 rfl ?_
      refine z_putI (pc' := 109) p_X3_50 (by decide) rfl rfl rfl rfl dX3_readFrom_106 rfl ?_
      refine z_vret rfl dX3_readFrom_109 ?_
      exact k
    · have h := h.2 c
      rw [if_neg c] at k
      refine z_vret rfl dX3_readFrom_13 ?_
      exact k
def P_H_keep_41 (w : z_Wd)  : Prop := (P_K_writeTo_54 w ((w 53 1) * 21)) ∧ (-2147483648 ≤ ((F_K_writeTo_54 w ((w 53 1) * 21)) 53 1) + 1 ∧ ((F_K_writeTo_54 w ((w 53 1) * 21)) 53 1) + 1 < 2147483648) ∧ (P_J_min_7cf53 (z_up (F_K_writeTo_54 w ((w 53 1) * 21)) 53 1 (Int.tmod (((F_K_writeTo_54 w ((w 53 1) * 21)) 53 1) + 1) 40)) 40 (((F_K_writeTo_54 w ((w 53 1) * 21)) 53 2) + 1))
def F_H_keep_41 (w : z_Wd)  : z_Wd := z_up (z_up (F_K_writeTo_54 w ((w 53 1) * 21)) 53 1 (Int.tmod (((F_K_writeTo_54 w ((w 53 1) * 21)) 53 1) + 1) 40)) 53 2 (F_J_min_7cf53 (z_up (F_K_writeTo_54 w ((w 53 1) * 21)) 53 1 (Int.tmod (((F_K_writeTo_54 w ((w 53 1) * 21)) 53 1) + 1) 40)) 40 (((F_K_writeTo_54 w ((w 53 1) * 21)) 53 2) + 1))
set_option maxRecDepth 4000 in
theorem c_H_keep_41 {d : Nat} {w : z_Wd} {Q : Option z_V → z_Wd → Prop} (h : P_H_keep_41 w ) (k : Q none (F_H_keep_41 w )) : z_Wc (d + 1) m_X2_keep [zR 53, zR 41] w Q := by
  unfold P_H_keep_41 at h
  unfold F_H_keep_41 at k
  refine z_enter rfl (Nat.le_of_ble_eq_true rfl) ?_
  show z_Wp m_X2_keep _ 0 [(0, zR 53), (1, zR 41)] [] w _
  refine z_aload_n (pc' := 1) 1 rfl rfl dX2_keep_0 rfl ?_
  refine z_aload_n (pc' := 2) 0 rfl rfl dX2_keep_1 rfl ?_
  refine z_getR (t := 54) (pc' := 5) g_X2_11 (by decide) rfl rfl dX2_keep_2 rfl ?_
  refine z_aload_n (pc' := 6) 0 rfl rfl dX2_keep_5 rfl ?_
  refine z_getI2 (v := w 53 1) (pc' := 9) g_X2_19 (by decide) rfl rfl rfl dX2_keep_6 rfl ?_
  refine z_bipush (pc' := 11) (by decide) dX2_keep_9 rfl ?_
  refine z_imul (pc' := 12) dX2_keep_11 rfl ?_
  refine z_invV (as := [zR 54, zI ((w 53 1) * 21)]) (st := []) (C := m_X3_writeTo) (fs := [32, 44, 45, 46, 47, 48, 0, 0, 0]) (pc' := 15) dX2_keep_12 rfl t_3_214 k_X3_writeTo rfl (by decide) rfl rfl rfl rfl (Nat.le_of_ble_eq_true rfl) ?_
  obtain ⟨r1, h⟩ := h
  refine c_K_writeTo_54 r1 ?_
  show z_Wp m_X2_keep _ 15 [(0, zR 53), (1, zR 41)] [] (F_K_writeTo_54 w ((w 53 1) * 21)) _
  refine z_aload_n (pc' := 16) 0 rfl rfl dX2_keep_15 rfl ?_
  refine z_aload_n (pc' := 17) 0 rfl rfl dX2_keep_16 rfl ?_
  refine z_getI2 (v := (F_K_writeTo_54 w ((w 53 1) * 21)) 53 1) (pc' := 20) g_X2_19 (by decide) rfl rfl rfl dX2_keep_17 rfl ?_
  refine z_iconst (pc' := 21) dX2_keep_20 rfl ?_
  refine z_iadd (pc' := 22) dX2_keep_21 rfl ?_
  refine z_bipush (pc' := 24) (by decide) dX2_keep_22 rfl ?_
  obtain ⟨r2, h⟩ := h
  refine z_irem (pc' := 25) r2 (by decide) (by decide) dX2_keep_24 rfl ?_
  refine z_putI (pc' := 28) p_X2_19 (by decide) rfl rfl rfl rfl dX2_keep_25 rfl ?_
  refine z_aload_n (pc' := 29) 0 rfl rfl dX2_keep_28 rfl ?_
  refine z_bipush (pc' := 31) (by decide) dX2_keep_29 rfl ?_
  refine z_aload_n (pc' := 32) 0 rfl rfl dX2_keep_31 rfl ?_
  refine z_getI2 (v := (F_K_writeTo_54 w ((w 53 1) * 21)) 53 2) (pc' := 35) g_X2_15 (by decide) rfl rfl rfl dX2_keep_32 rfl ?_
  refine z_iconst (pc' := 36) dX2_keep_35 rfl ?_
  refine z_iadd (pc' := 37) dX2_keep_36 rfl ?_
  refine z_invS (as := [zI 40, zI (((F_K_writeTo_54 w ((w 53 1) * 21)) 53 2) + 1)]) (st := [zR 53]) (C := m_J9_min_7cf53) (pc' := 40) dX2_keep_37 rfl t_3_219 k_J9_min_7cf53 rfl rfl (Nat.le_of_ble_eq_true rfl) ?_
  have r3 := h
  refine c_J_min_7cf53 r3 ?_
  show z_Wp m_X2_keep _ 40 [(0, zR 53), (1, zR 41)] [zI (F_J_min_7cf53 (z_up (F_K_writeTo_54 w ((w 53 1) * 21)) 53 1 (Int.tmod (((F_K_writeTo_54 w ((w 53 1) * 21)) 53 1) + 1) 40)) 40 (((F_K_writeTo_54 w ((w 53 1) * 21)) 53 2) + 1)), zR 53] (z_up (F_K_writeTo_54 w ((w 53 1) * 21)) 53 1 (Int.tmod (((F_K_writeTo_54 w ((w 53 1) * 21)) 53 1) + 1) 40)) _
  refine z_putI (pc' := 43) p_X2_15 (by decide) rfl rfl rfl rfl dX2_keep_40 rfl ?_
  refine z_vret rfl dX2_keep_43 ?_
  exact k
def P_H_takeBack_41 (w : z_Wd)  : Prop := (-2147483648 ≤ w 53 2 ∧ w 53 2 < 2147483648) ∧ ((w 53 2 = 0 → True) ∧ (¬ (w 53 2 = 0) → (-2147483648 ≤ ((w 53 1) + 40) - 1 ∧ ((w 53 1) + 40) - 1 < 2147483648) ∧ (P_K_readFrom_54 (z_up (z_up w 53 2 ((w 53 2) - 1)) 53 1 (Int.tmod (((w 53 1) + 40) - 1) 40)) ((Int.tmod (((w 53 1) + 40) - 1) 40) * 21))))
def F_H_takeBack_41 (w : z_Wd)  : Int × z_Wd := if w 53 2 = 0 then (0, w) else (1, F_K_readFrom_54 (z_up (z_up w 53 2 ((w 53 2) - 1)) 53 1 (Int.tmod (((w 53 1) + 40) - 1) 40)) ((Int.tmod (((w 53 1) + 40) - 1) 40) * 21))
set_option maxRecDepth 4000 in
theorem c_H_takeBack_41 {d : Nat} {w : z_Wd} {Q : Option z_V → z_Wd → Prop} (h : P_H_takeBack_41 w ) (k : Q (some (zI (F_H_takeBack_41 w ).1)) (F_H_takeBack_41 w ).2) : z_Wc (d + 1) m_X2_takeBack [zR 53, zR 41] w Q := by
  unfold P_H_takeBack_41 at h
  unfold F_H_takeBack_41 at k
  refine z_enter rfl (Nat.le_of_ble_eq_true rfl) ?_
  show z_Wp m_X2_takeBack _ 0 [(0, zR 53), (1, zR 41)] [] w _
  refine z_aload_n (pc' := 1) 0 rfl rfl dX2_takeBack_0 rfl ?_
  refine z_getI2 (v := w 53 2) (pc' := 4) g_X2_15 (by decide) rfl rfl rfl dX2_takeBack_1 rfl ?_
  obtain ⟨r1, h⟩ := h
  refine z_if_ne 9 dX2_takeBack_4 (by decide) (pc' := 7) rfl r1 (fun c => ?_) (fun c => ?_)
  · have h := h.2 c
    rw [if_neg c] at k
    refine z_aload_n (pc' := 10) 0 rfl rfl dX2_takeBack_9 rfl ?_
    refine z_dup (pc' := 11) rfl dX2_takeBack_10 rfl ?_
    refine z_getI2 (v := w 53 2) (pc' := 14) g_X2_15 (by decide) rfl rfl rfl dX2_takeBack_11 rfl ?_
    refine z_iconst (pc' := 15) dX2_takeBack_14 rfl ?_
    refine z_isub (pc' := 16) dX2_takeBack_15 rfl ?_
    refine z_putI (pc' := 19) p_X2_15 (by decide) rfl rfl rfl rfl dX2_takeBack_16 rfl ?_
    refine z_aload_n (pc' := 20) 0 rfl rfl dX2_takeBack_19 rfl ?_
    refine z_aload_n (pc' := 21) 0 rfl rfl dX2_takeBack_20 rfl ?_
    refine z_getI2 (v := w 53 1) (pc' := 24) g_X2_19 (by decide) rfl rfl rfl dX2_takeBack_21 rfl ?_
    refine z_bipush (pc' := 26) (by decide) dX2_takeBack_24 rfl ?_
    refine z_iadd (pc' := 27) dX2_takeBack_26 rfl ?_
    refine z_iconst (pc' := 28) dX2_takeBack_27 rfl ?_
    refine z_isub (pc' := 29) dX2_takeBack_28 rfl ?_
    refine z_bipush (pc' := 31) (by decide) dX2_takeBack_29 rfl ?_
    obtain ⟨r2, h⟩ := h
    refine z_irem (pc' := 32) r2 (by decide) (by decide) dX2_takeBack_31 rfl ?_
    refine z_putI (pc' := 35) p_X2_19 (by decide) rfl rfl rfl rfl dX2_takeBack_32 rfl ?_
    refine z_aload_n (pc' := 36) 1 rfl rfl dX2_takeBack_35 rfl ?_
    refine z_aload_n (pc' := 37) 0 rfl rfl dX2_takeBack_36 rfl ?_
    refine z_getR (t := 54) (pc' := 40) g_X2_11 (by decide) rfl rfl dX2_takeBack_37 rfl ?_
    refine z_aload_n (pc' := 41) 0 rfl rfl dX2_takeBack_40 rfl ?_
    refine z_getI2 (v := Int.tmod (((w 53 1) + 40) - 1) 40) (pc' := 44) g_X2_19 (by decide) rfl rfl rfl dX2_takeBack_41 rfl ?_
    refine z_bipush (pc' := 46) (by decide) dX2_takeBack_44 rfl ?_
    refine z_imul (pc' := 47) dX2_takeBack_46 rfl ?_
    refine z_invV (as := [zR 54, zI ((Int.tmod (((w 53 1) + 40) - 1) 40) * 21)]) (st := []) (C := m_X3_readFrom) (fs := [32, 44, 45, 46, 47, 48, 0, 0, 0]) (pc' := 50) dX2_takeBack_47 rfl t_4_166 k_X3_readFrom rfl (by decide) rfl rfl rfl rfl (Nat.le_of_ble_eq_true rfl) ?_
    have r3 := h
    refine c_K_readFrom_54 r3 ?_
    show z_Wp m_X2_takeBack _ 50 [(0, zR 53), (1, zR 41)] [] (F_K_readFrom_54 (z_up (z_up w 53 2 ((w 53 2) - 1)) 53 1 (Int.tmod (((w 53 1) + 40) - 1) 40)) ((Int.tmod (((w 53 1) + 40) - 1) 40) * 21)) _
    refine z_iconst (pc' := 51) dX2_takeBack_50 rfl ?_
    refine z_zret rfl (by decide) dX2_takeBack_51 ?_
    exact k
  · have h := h.1 c
    rw [if_pos c] at k
    refine z_iconst (pc' := 8) dX2_takeBack_7 rfl ?_
    refine z_zret rfl (by decide) dX2_takeBack_8 ?_
    exact k
def F_W_copyFrom_58_38 (w : z_Wd)  : z_Wd := z_up (z_cpy w 39 0 59 0 240) 58 2 ((z_cpy w 39 0 59 0 240) 38 2)
set_option maxRecDepth 4000 in
theorem c_W_copyFrom_58_38 {d : Nat} {w : z_Wd} {Q : Option z_V → z_Wd → Prop} (k : Q none (F_W_copyFrom_58_38 w )) : z_Wc d m_X4_copyFrom [zR 58, zR 38] w Q := by
  unfold F_W_copyFrom_58_38 at k
  refine z_enter rfl (Nat.le_of_ble_eq_true rfl) ?_
  show z_Wp m_X4_copyFrom _ 0 [(0, zR 58), (1, zR 38)] [] w _
  refine z_aload_n (pc' := 1) 1 rfl rfl dX4_copyFrom_0 rfl ?_
  refine z_getR (t := 39) (pc' := 4) g_X4_11 (by decide) rfl rfl dX4_copyFrom_1 rfl ?_
  refine z_iconst (pc' := 5) dX4_copyFrom_4 rfl ?_
  refine z_aload_n (pc' := 6) 0 rfl rfl dX4_copyFrom_5 rfl ?_
  refine z_getR (t := 59) (pc' := 9) g_X4_11 (by decide) rfl rfl dX4_copyFrom_6 rfl ?_
  refine z_iconst (pc' := 10) dX4_copyFrom_9 rfl ?_
  refine z_aload_n (pc' := 11) 0 rfl rfl dX4_copyFrom_10 rfl ?_
  refine z_getR (t := 59) (pc' := 14) g_X4_11 (by decide) rfl rfl dX4_copyFrom_11 rfl ?_
  refine z_alen2 (v := 240) (pc' := 15) (by decide) rfl rfl dX4_copyFrom_14 rfl ?_
  refine z_copy2 (w' := z_cpy w 39 0 59 0 240) (pc' := 18) t_3_90 t_3_48 t_3_47 t_1_14 (by decide) (by decide) rfl rfl (by decide) (by decide) (by decide) (by decide) (by decide) (by decide) (by decide) (Nat.le_of_ble_eq_true rfl) rfl dX4_copyFrom_15 rfl ?_
  refine z_aload_n (pc' := 19) 0 rfl rfl dX4_copyFrom_18 rfl ?_
  refine z_aload_n (pc' := 20) 1 rfl rfl dX4_copyFrom_19 rfl ?_
  refine z_getI2 (v := (z_cpy w 39 0 59 0 240) 38 2) (pc' := 23) g_X4_18 (by decide) rfl rfl rfl dX4_copyFrom_20 rfl ?_
  refine z_putI (pc' := 26) p_X4_18 (by decide) rfl rfl rfl rfl dX4_copyFrom_23 rfl ?_
  refine z_vret rfl dX4_copyFrom_26 ?_
  exact k
def P_W_push_58 (w : z_Wd) (a0 : Int) : Prop := (-2147483648 ≤ w 58 3 ∧ w 58 3 < 2147483648) ∧ ((w 58 3 ≥ 64 → True) ∧ (¬ (w 58 3 ≥ 64) → 0 ≤ w 58 3 ∧ w 58 3 < 64))
def F_W_push_58 (w : z_Wd) (a0 : Int) : z_Wd := if w 58 3 ≥ 64 then w else z_up (z_up w 60 ((w 58 3).toNat) a0) 58 3 ((w 58 3) + 1)
set_option maxRecDepth 4000 in
theorem c_W_push_58 {d : Nat} {w : z_Wd} {a0 : Int} {Q : Option z_V → z_Wd → Prop} (h : P_W_push_58 w a0) (k : Q none (F_W_push_58 w a0)) : z_Wc d m_X4_push [zR 58, zI a0] w Q := by
  unfold P_W_push_58 at h
  unfold F_W_push_58 at k
  refine z_enter rfl (Nat.le_of_ble_eq_true rfl) ?_
  show z_Wp m_X4_push _ 0 [(0, zR 58), (1, zI a0)] [] w _
  refine z_aload_n (pc' := 1) 0 rfl rfl dX4_push_0 rfl ?_
  refine z_getI2 (v := w 58 3) (pc' := 4) g_X4_28 (by decide) rfl rfl rfl dX4_push_1 rfl ?_
  refine z_bipush (pc' := 6) (by decide) dX4_push_4 rfl ?_
  obtain ⟨r1, h⟩ := h
  refine z_icmp_ge 29 dX4_push_6 (by decide) (pc' := 9) rfl r1 (by decide) (fun c => ?_) (fun c => ?_)
  · have h := h.1 c
    rw [if_pos c] at k
    refine z_vret rfl dX4_push_29 ?_
    exact k
  · have h := h.2 c
    rw [if_neg c] at k
    refine z_aload_n (pc' := 10) 0 rfl rfl dX4_push_9 rfl ?_
    refine z_getR (t := 60) (pc' := 13) g_X4_15 (by decide) rfl rfl dX4_push_10 rfl ?_
    refine z_aload_n (pc' := 14) 0 rfl rfl dX4_push_13 rfl ?_
    refine z_getI2 (v := w 58 3) (pc' := 17) g_X4_28 (by decide) rfl rfl rfl dX4_push_14 rfl ?_
    refine z_iload_n (pc' := 18) 1 rfl rfl dX4_push_17 rfl ?_
    have r2 := h
    refine z_iast2 (w' := z_up w 60 ((w 58 3).toNat) a0) (pc' := 19) (by decide) rfl r2 (by decide) rfl dX4_push_18 rfl ?_
    refine z_aload_n (pc' := 20) 0 rfl rfl dX4_push_19 rfl ?_
    refine z_dup (pc' := 21) rfl dX4_push_20 rfl ?_
    refine z_getI2 (v := w 58 3) (pc' := 24) g_X4_28 (by decide) rfl rfl rfl dX4_push_21 rfl ?_
    refine z_iconst (pc' := 25) dX4_push_24 rfl ?_
    refine z_iadd (pc' := 26) dX4_push_25 rfl ?_
    refine z_putI (pc' := 29) p_X4_28 (by decide) rfl rfl rfl rfl dX4_push_26 rfl ?_
    refine z_vret rfl dX4_push_29 ?_
    exact k
def P_W_pop_58 (w : z_Wd)  : Prop := (-2147483648 ≤ w 58 3 ∧ w 58 3 < 2147483648) ∧ ((w 58 3 > 0 → 0 ≤ (w 58 3) - 1 ∧ (w 58 3) - 1 < 64) ∧ (¬ (w 58 3 > 0) → True))
def F_W_pop_58 (w : z_Wd)  : Int × z_Wd := if w 58 3 > 0 then (w 60 (((w 58 3) - 1).toNat), z_up w 58 3 ((w 58 3) - 1)) else (0, w)
set_option maxRecDepth 4000 in
theorem c_W_pop_58 {d : Nat} {w : z_Wd} {Q : Option z_V → z_Wd → Prop} (h : P_W_pop_58 w ) (k : Q (some (zI (F_W_pop_58 w ).1)) (F_W_pop_58 w ).2) : z_Wc d m_X4_pop [zR 58] w Q := by
  unfold P_W_pop_58 at h
  unfold F_W_pop_58 at k
  refine z_enter rfl (Nat.le_of_ble_eq_true rfl) ?_
  show z_Wp m_X4_pop _ 0 [(0, zR 58)] [] w _
  refine z_aload_n (pc' := 1) 0 rfl rfl dX4_pop_0 rfl ?_
  refine z_getI2 (v := w 58 3) (pc' := 4) g_X4_28 (by decide) rfl rfl rfl dX4_pop_1 rfl ?_
  obtain ⟨r1, h⟩ := h
  refine z_if_gt 9 dX4_pop_4 (by decide) (pc' := 7) rfl r1 (fun c => ?_) (fun c => ?_)
  · have h := h.1 c
    rw [if_pos c] at k
    refine z_aload_n (pc' := 10) 0 rfl rfl dX4_pop_9 rfl ?_
    refine z_dup (pc' := 11) rfl dX4_pop_10 rfl ?_
    refine z_getI2 (v := w 58 3) (pc' := 14) g_X4_28 (by decide) rfl rfl rfl dX4_pop_11 rfl ?_
    refine z_iconst (pc' := 15) dX4_pop_14 rfl ?_
    refine z_isub (pc' := 16) dX4_pop_15 rfl ?_
    refine z_putI (pc' := 19) p_X4_28 (by decide) rfl rfl rfl rfl dX4_pop_16 rfl ?_
    refine z_aload_n (pc' := 20) 0 rfl rfl dX4_pop_19 rfl ?_
    refine z_getR (t := 60) (pc' := 23) g_X4_15 (by decide) rfl rfl dX4_pop_20 rfl ?_
    refine z_aload_n (pc' := 24) 0 rfl rfl dX4_pop_23 rfl ?_
    refine z_getI2 (v := (w 58 3) - 1) (pc' := 27) g_X4_28 (by decide) rfl rfl rfl dX4_pop_24 rfl ?_
    have r2 := h
    refine z_iald2 (v := w 60 (((w 58 3) - 1).toNat)) (pc' := 28) (by decide) rfl r2 (by decide) rfl dX4_pop_27 rfl ?_
    refine z_iret rfl dX4_pop_28 ?_
    exact k
  · have h := h.2 c
    rw [if_neg c] at k
    refine z_iconst (pc' := 8) dX4_pop_7 rfl ?_
    refine z_iret rfl dX4_pop_8 ?_
    exact k
def F_W_copyFrom_61_38 (w : z_Wd)  : z_Wd := z_up (z_cpy w 39 0 62 0 240) 61 2 ((z_cpy w 39 0 62 0 240) 38 2)
set_option maxRecDepth 4000 in
theorem c_W_copyFrom_61_38 {d : Nat} {w : z_Wd} {Q : Option z_V → z_Wd → Prop} (k : Q none (F_W_copyFrom_61_38 w )) : z_Wc d m_X4_copyFrom [zR 61, zR 38] w Q := by
  unfold F_W_copyFrom_61_38 at k
  refine z_enter rfl (Nat.le_of_ble_eq_true rfl) ?_
  show z_Wp m_X4_copyFrom _ 0 [(0, zR 61), (1, zR 38)] [] w _
  refine z_aload_n (pc' := 1) 1 rfl rfl dX4_copyFrom_0 rfl ?_
  refine z_getR (t := 39) (pc' := 4) g_X4_11 (by decide) rfl rfl dX4_copyFrom_1 rfl ?_
  refine z_iconst (pc' := 5) dX4_copyFrom_4 rfl ?_
  refine z_aload_n (pc' := 6) 0 rfl rfl dX4_copyFrom_5 rfl ?_
  refine z_getR (t := 62) (pc' := 9) g_X4_11 (by decide) rfl rfl dX4_copyFrom_6 rfl ?_
  refine z_iconst (pc' := 10) dX4_copyFrom_9 rfl ?_
  refine z_aload_n (pc' := 11) 0 rfl rfl dX4_copyFrom_10 rfl ?_
  refine z_getR (t := 62) (pc' := 14) g_X4_11 (by decide) rfl rfl dX4_copyFrom_11 rfl ?_
  refine z_alen2 (v := 240) (pc' := 15) (by decide) rfl rfl dX4_copyFrom_14 rfl ?_
  refine z_copy2 (w' := z_cpy w 39 0 62 0 240) (pc' := 18) t_3_90 t_3_48 t_3_47 t_1_14 (by decide) (by decide) rfl rfl (by decide) (by decide) (by decide) (by decide) (by decide) (by decide) (by decide) (Nat.le_of_ble_eq_true rfl) rfl dX4_copyFrom_15 rfl ?_
  refine z_aload_n (pc' := 19) 0 rfl rfl dX4_copyFrom_18 rfl ?_
  refine z_aload_n (pc' := 20) 1 rfl rfl dX4_copyFrom_19 rfl ?_
  refine z_getI2 (v := (z_cpy w 39 0 62 0 240) 38 2) (pc' := 23) g_X4_18 (by decide) rfl rfl rfl dX4_copyFrom_20 rfl ?_
  refine z_putI (pc' := 26) p_X4_18 (by decide) rfl rfl rfl rfl dX4_copyFrom_23 rfl ?_
  refine z_vret rfl dX4_copyFrom_26 ?_
  exact k
def P_W_push_61 (w : z_Wd) (a0 : Int) : Prop := (-2147483648 ≤ w 61 3 ∧ w 61 3 < 2147483648) ∧ ((w 61 3 ≥ 64 → True) ∧ (¬ (w 61 3 ≥ 64) → 0 ≤ w 61 3 ∧ w 61 3 < 64))
def F_W_push_61 (w : z_Wd) (a0 : Int) : z_Wd := if w 61 3 ≥ 64 then w else z_up (z_up w 63 ((w 61 3).toNat) a0) 61 3 ((w 61 3) + 1)
set_option maxRecDepth 4000 in
theorem c_W_push_61 {d : Nat} {w : z_Wd} {a0 : Int} {Q : Option z_V → z_Wd → Prop} (h : P_W_push_61 w a0) (k : Q none (F_W_push_61 w a0)) : z_Wc d m_X4_push [zR 61, zI a0] w Q := by
  unfold P_W_push_61 at h
  unfold F_W_push_61 at k
  refine z_enter rfl (Nat.le_of_ble_eq_true rfl) ?_
  show z_Wp m_X4_push _ 0 [(0, zR 61), (1, zI a0)] [] w _
  refine z_aload_n (pc' := 1) 0 rfl rfl dX4_push_0 rfl ?_
  refine z_getI2 (v := w 61 3) (pc' := 4) g_X4_28 (by decide) rfl rfl rfl dX4_push_1 rfl ?_
  refine z_bipush (pc' := 6) (by decide) dX4_push_4 rfl ?_
  obtain ⟨r1, h⟩ := h
  refine z_icmp_ge 29 dX4_push_6 (by decide) (pc' := 9) rfl r1 (by decide) (fun c => ?_) (fun c => ?_)
  · have h := h.1 c
    rw [if_pos c] at k
    refine z_vret rfl dX4_push_29 ?_
    exact k
  · have h := h.2 c
    rw [if_neg c] at k
    refine z_aload_n (pc' := 10) 0 rfl rfl dX4_push_9 rfl ?_
    refine z_getR (t := 63) (pc' := 13) g_X4_15 (by decide) rfl rfl dX4_push_10 rfl ?_
    refine z_aload_n (pc' := 14) 0 rfl rfl dX4_push_13 rfl ?_
    refine z_getI2 (v := w 61 3) (pc' := 17) g_X4_28 (by decide) rfl rfl rfl dX4_push_14 rfl ?_
    refine z_iload_n (pc' := 18) 1 rfl rfl dX4_push_17 rfl ?_
    have r2 := h
    refine z_iast2 (w' := z_up w 63 ((w 61 3).toNat) a0) (pc' := 19) (by decide) rfl r2 (by decide) rfl dX4_push_18 rfl ?_
    refine z_aload_n (pc' := 20) 0 rfl rfl dX4_push_19 rfl ?_
    refine z_dup (pc' := 21) rfl dX4_push_20 rfl ?_
    refine z_getI2 (v := w 61 3) (pc' := 24) g_X4_28 (by decide) rfl rfl rfl dX4_push_21 rfl ?_
    refine z_iconst (pc' := 25) dX4_push_24 rfl ?_
    refine z_iadd (pc' := 26) dX4_push_25 rfl ?_
    refine z_putI (pc' := 29) p_X4_28 (by decide) rfl rfl rfl rfl dX4_push_26 rfl ?_
    refine z_vret rfl dX4_push_29 ?_
    exact k
def P_W_pop_61 (w : z_Wd)  : Prop := (-2147483648 ≤ w 61 3 ∧ w 61 3 < 2147483648) ∧ ((w 61 3 > 0 → 0 ≤ (w 61 3) - 1 ∧ (w 61 3) - 1 < 64) ∧ (¬ (w 61 3 > 0) → True))
def F_W_pop_61 (w : z_Wd)  : Int × z_Wd := if w 61 3 > 0 then (w 63 (((w 61 3) - 1).toNat), z_up w 61 3 ((w 61 3) - 1)) else (0, w)
set_option maxRecDepth 4000 in
theorem c_W_pop_61 {d : Nat} {w : z_Wd} {Q : Option z_V → z_Wd → Prop} (h : P_W_pop_61 w ) (k : Q (some (zI (F_W_pop_61 w ).1)) (F_W_pop_61 w ).2) : z_Wc d m_X4_pop [zR 61] w Q := by
  unfold P_W_pop_61 at h
  unfold F_W_pop_61 at k
  refine z_enter rfl (Nat.le_of_ble_eq_true rfl) ?_
  show z_Wp m_X4_pop _ 0 [(0, zR 61)] [] w _
  refine z_aload_n (pc' := 1) 0 rfl rfl dX4_pop_0 rfl ?_
  refine z_getI2 (v := w 61 3) (pc' := 4) g_X4_28 (by decide) rfl rfl rfl dX4_pop_1 rfl ?_
  obtain ⟨r1, h⟩ := h
  refine z_if_gt 9 dX4_pop_4 (by decide) (pc' := 7) rfl r1 (fun c => ?_) (fun c => ?_)
  · have h := h.1 c
    rw [if_pos c] at k
    refine z_aload_n (pc' := 10) 0 rfl rfl dX4_pop_9 rfl ?_
    refine z_dup (pc' := 11) rfl dX4_pop_10 rfl ?_
    refine z_getI2 (v := w 61 3) (pc' := 14) g_X4_28 (by decide) rfl rfl rfl dX4_pop_11 rfl ?_
    refine z_iconst (pc' := 15) dX4_pop_14 rfl ?_
    refine z_isub (pc' := 16) dX4_pop_15 rfl ?_
    refine z_putI (pc' := 19) p_X4_28 (by decide) rfl rfl rfl rfl dX4_pop_16 rfl ?_
    refine z_aload_n (pc' := 20) 0 rfl rfl dX4_pop_19 rfl ?_
    refine z_getR (t := 63) (pc' := 23) g_X4_15 (by decide) rfl rfl dX4_pop_20 rfl ?_
    refine z_aload_n (pc' := 24) 0 rfl rfl dX4_pop_23 rfl ?_
    refine z_getI2 (v := (w 61 3) - 1) (pc' := 27) g_X4_28 (by decide) rfl rfl rfl dX4_pop_24 rfl ?_
    have r2 := h
    refine z_iald2 (v := w 63 (((w 61 3) - 1).toNat)) (pc' := 28) (by decide) rfl r2 (by decide) rfl dX4_pop_27 rfl ?_
    refine z_iret rfl dX4_pop_28 ?_
    exact k
  · have h := h.2 c
    rw [if_neg c] at k
    refine z_iconst (pc' := 8) dX4_pop_7 rfl ?_
    refine z_iret rfl dX4_pop_8 ?_
    exact k
def F_W_copyFrom_64_38 (w : z_Wd)  : z_Wd := z_up (z_cpy w 39 0 65 0 240) 64 2 ((z_cpy w 39 0 65 0 240) 38 2)
set_option maxRecDepth 4000 in
theorem c_W_copyFrom_64_38 {d : Nat} {w : z_Wd} {Q : Option z_V → z_Wd → Prop} (k : Q none (F_W_copyFrom_64_38 w )) : z_Wc d m_X4_copyFrom [zR 64, zR 38] w Q := by
  unfold F_W_copyFrom_64_38 at k
  refine z_enter rfl (Nat.le_of_ble_eq_true rfl) ?_
  show z_Wp m_X4_copyFrom _ 0 [(0, zR 64), (1, zR 38)] [] w _
  refine z_aload_n (pc' := 1) 1 rfl rfl dX4_copyFrom_0 rfl ?_
  refine z_getR (t := 39) (pc' := 4) g_X4_11 (by decide) rfl rfl dX4_copyFrom_1 rfl ?_
  refine z_iconst (pc' := 5) dX4_copyFrom_4 rfl ?_
  refine z_aload_n (pc' := 6) 0 rfl rfl dX4_copyFrom_5 rfl ?_
  refine z_getR (t := 65) (pc' := 9) g_X4_11 (by decide) rfl rfl dX4_copyFrom_6 rfl ?_
  refine z_iconst (pc' := 10) dX4_copyFrom_9 rfl ?_
  refine z_aload_n (pc' := 11) 0 rfl rfl dX4_copyFrom_10 rfl ?_
  refine z_getR (t := 65) (pc' := 14) g_X4_11 (by decide) rfl rfl dX4_copyFrom_11 rfl ?_
  refine z_alen2 (v := 240) (pc' := 15) (by decide) rfl rfl dX4_copyFrom_14 rfl ?_
  refine z_copy2 (w' := z_cpy w 39 0 65 0 240) (pc' := 18) t_3_90 t_3_48 t_3_47 t_1_14 (by decide) (by decide) rfl rfl (by decide) (by decide) (by decide) (by decide) (by decide) (by decide) (by decide) (Nat.le_of_ble_eq_true rfl) rfl dX4_copyFrom_15 rfl ?_
  refine z_aload_n (pc' := 19) 0 rfl rfl dX4_copyFrom_18 rfl ?_
  refine z_aload_n (pc' := 20) 1 rfl rfl dX4_copyFrom_19 rfl ?_
  refine z_getI2 (v := (z_cpy w 39 0 65 0 240) 38 2) (pc' := 23) g_X4_18 (by decide) rfl rfl rfl dX4_copyFrom_20 rfl ?_
  refine z_putI (pc' := 26) p_X4_18 (by decide) rfl rfl rfl rfl dX4_copyFrom_23 rfl ?_
  refine z_vret rfl dX4_copyFrom_26 ?_
  exact k
def P_W_push_64 (w : z_Wd) (a0 : Int) : Prop := (-2147483648 ≤ w 64 3 ∧ w 64 3 < 2147483648) ∧ ((w 64 3 ≥ 64 → True) ∧ (¬ (w 64 3 ≥ 64) → 0 ≤ w 64 3 ∧ w 64 3 < 64))
def F_W_push_64 (w : z_Wd) (a0 : Int) : z_Wd := if w 64 3 ≥ 64 then w else z_up (z_up w 66 ((w 64 3).toNat) a0) 64 3 ((w 64 3) + 1)
set_option maxRecDepth 4000 in
theorem c_W_push_64 {d : Nat} {w : z_Wd} {a0 : Int} {Q : Option z_V → z_Wd → Prop} (h : P_W_push_64 w a0) (k : Q none (F_W_push_64 w a0)) : z_Wc d m_X4_push [zR 64, zI a0] w Q := by
  unfold P_W_push_64 at h
  unfold F_W_push_64 at k
  refine z_enter rfl (Nat.le_of_ble_eq_true rfl) ?_
  show z_Wp m_X4_push _ 0 [(0, zR 64), (1, zI a0)] [] w _
  refine z_aload_n (pc' := 1) 0 rfl rfl dX4_push_0 rfl ?_
  refine z_getI2 (v := w 64 3) (pc' := 4) g_X4_28 (by decide) rfl rfl rfl dX4_push_1 rfl ?_
  refine z_bipush (pc' := 6) (by decide) dX4_push_4 rfl ?_
  obtain ⟨r1, h⟩ := h
  refine z_icmp_ge 29 dX4_push_6 (by decide) (pc' := 9) rfl r1 (by decide) (fun c => ?_) (fun c => ?_)
  · have h := h.1 c
    rw [if_pos c] at k
    refine z_vret rfl dX4_push_29 ?_
    exact k
  · have h := h.2 c
    rw [if_neg c] at k
    refine z_aload_n (pc' := 10) 0 rfl rfl dX4_push_9 rfl ?_
    refine z_getR (t := 66) (pc' := 13) g_X4_15 (by decide) rfl rfl dX4_push_10 rfl ?_
    refine z_aload_n (pc' := 14) 0 rfl rfl dX4_push_13 rfl ?_
    refine z_getI2 (v := w 64 3) (pc' := 17) g_X4_28 (by decide) rfl rfl rfl dX4_push_14 rfl ?_
    refine z_iload_n (pc' := 18) 1 rfl rfl dX4_push_17 rfl ?_
    have r2 := h
    refine z_iast2 (w' := z_up w 66 ((w 64 3).toNat) a0) (pc' := 19) (by decide) rfl r2 (by decide) rfl dX4_push_18 rfl ?_
    refine z_aload_n (pc' := 20) 0 rfl rfl dX4_push_19 rfl ?_
    refine z_dup (pc' := 21) rfl dX4_push_20 rfl ?_
    refine z_getI2 (v := w 64 3) (pc' := 24) g_X4_28 (by decide) rfl rfl rfl dX4_push_21 rfl ?_
    refine z_iconst (pc' := 25) dX4_push_24 rfl ?_
    refine z_iadd (pc' := 26) dX4_push_25 rfl ?_
    refine z_putI (pc' := 29) p_X4_28 (by decide) rfl rfl rfl rfl dX4_push_26 rfl ?_
    refine z_vret rfl dX4_push_29 ?_
    exact k
def P_W_pop_64 (w : z_Wd)  : Prop := (-2147483648 ≤ w 64 3 ∧ w 64 3 < 2147483648) ∧ ((w 64 3 > 0 → 0 ≤ (w 64 3) - 1 ∧ (w 64 3) - 1 < 64) ∧ (¬ (w 64 3 > 0) → True))
def F_W_pop_64 (w : z_Wd)  : Int × z_Wd := if w 64 3 > 0 then (w 66 (((w 64 3) - 1).toNat), z_up w 64 3 ((w 64 3) - 1)) else (0, w)
set_option maxRecDepth 4000 in
theorem c_W_pop_64 {d : Nat} {w : z_Wd} {Q : Option z_V → z_Wd → Prop} (h : P_W_pop_64 w ) (k : Q (some (zI (F_W_pop_64 w ).1)) (F_W_pop_64 w ).2) : z_Wc d m_X4_pop [zR 64] w Q := by
  unfold P_W_pop_64 at h
  unfold F_W_pop_64 at k
  refine z_enter rfl (Nat.le_of_ble_eq_true rfl) ?_
  show z_Wp m_X4_pop _ 0 [(0, zR 64)] [] w _
  refine z_aload_n (pc' := 1) 0 rfl rfl dX4_pop_0 rfl ?_
  refine z_getI2 (v := w 64 3) (pc' := 4) g_X4_28 (by decide) rfl rfl rfl dX4_pop_1 rfl ?_
  obtain ⟨r1, h⟩ := h
  refine z_if_gt 9 dX4_pop_4 (by decide) (pc' := 7) rfl r1 (fun c => ?_) (fun c => ?_)
  · have h := h.1 c
    rw [if_pos c] at k
    refine z_aload_n (pc' := 10) 0 rfl rfl dX4_pop_9 rfl ?_
    refine z_dup (pc' := 11) rfl dX4_pop_10 rfl ?_
    refine z_getI2 (v := w 64 3) (pc' := 14) g_X4_28 (by decide) rfl rfl rfl dX4_pop_11 rfl ?_
    refine z_iconst (pc' := 15) dX4_pop_14 rfl ?_
    refine z_isub (pc' := 16) dX4_pop_15 rfl ?_
    refine z_putI (pc' := 19) p_X4_28 (by decide) rfl rfl rfl rfl dX4_pop_16 rfl ?_
    refine z_aload_n (pc' := 20) 0 rfl rfl dX4_pop_19 rfl ?_
    refine z_getR (t := 66) (pc' := 23) g_X4_15 (by decide) rfl rfl dX4_pop_20 rfl ?_
    refine z_aload_n (pc' := 24) 0 rfl rfl dX4_pop_23 rfl ?_
    refine z_getI2 (v := (w 64 3) - 1) (pc' := 27) g_X4_28 (by decide) rfl rfl rfl dX4_pop_24 rfl ?_
    have r2 := h
    refine z_iald2 (v := w 66 (((w 64 3) - 1).toNat)) (pc' := 28) (by decide) rfl r2 (by decide) rfl dX4_pop_27 rfl ?_
    refine z_iret rfl dX4_pop_28 ?_
    exact k
  · have h := h.2 c
    rw [if_neg c] at k
    refine z_iconst (pc' := 8) dX4_pop_7 rfl ?_
    refine z_iret rfl dX4_pop_8 ?_
    exact k
def F_W_copyFrom_67_38 (w : z_Wd)  : z_Wd := z_up (z_cpy w 39 0 68 0 240) 67 2 ((z_cpy w 39 0 68 0 240) 38 2)
set_option maxRecDepth 4000 in
theorem c_W_copyFrom_67_38 {d : Nat} {w : z_Wd} {Q : Option z_V → z_Wd → Prop} (k : Q none (F_W_copyFrom_67_38 w )) : z_Wc d m_X4_copyFrom [zR 67, zR 38] w Q := by
  unfold F_W_copyFrom_67_38 at k
  refine z_enter rfl (Nat.le_of_ble_eq_true rfl) ?_
  show z_Wp m_X4_copyFrom _ 0 [(0, zR 67), (1, zR 38)] [] w _
  refine z_aload_n (pc' := 1) 1 rfl rfl dX4_copyFrom_0 rfl ?_
  refine z_getR (t := 39) (pc' := 4) g_X4_11 (by decide) rfl rfl dX4_copyFrom_1 rfl ?_
  refine z_iconst (pc' := 5) dX4_copyFrom_4 rfl ?_
  refine z_aload_n (pc' := 6) 0 rfl rfl dX4_copyFrom_5 rfl ?_
  refine z_getR (t := 68) (pc' := 9) g_X4_11 (by decide) rfl rfl dX4_copyFrom_6 rfl ?_
  refine z_iconst (pc' := 10) dX4_copyFrom_9 rfl ?_
  refine z_aload_n (pc' := 11) 0 rfl rfl dX4_copyFrom_10 rfl ?_
  refine z_getR (t := 68) (pc' := 14) g_X4_11 (by decide) rfl rfl dX4_copyFrom_11 rfl ?_
  refine z_alen2 (v := 240) (pc' := 15) (by decide) rfl rfl dX4_copyFrom_14 rfl ?_
  refine z_copy2 (w' := z_cpy w 39 0 68 0 240) (pc' := 18) t_3_90 t_3_48 t_3_47 t_1_14 (by decide) (by decide) rfl rfl (by decide) (by decide) (by decide) (by decide) (by decide) (by decide) (by decide) (Nat.le_of_ble_eq_true rfl) rfl dX4_copyFrom_15 rfl ?_
  refine z_aload_n (pc' := 19) 0 rfl rfl dX4_copyFrom_18 rfl ?_
  refine z_aload_n (pc' := 20) 1 rfl rfl dX4_copyFrom_19 rfl ?_
  refine z_getI2 (v := (z_cpy w 39 0 68 0 240) 38 2) (pc' := 23) g_X4_18 (by decide) rfl rfl rfl dX4_copyFrom_20 rfl ?_
  refine z_putI (pc' := 26) p_X4_18 (by decide) rfl rfl rfl rfl dX4_copyFrom_23 rfl ?_
  refine z_vret rfl dX4_copyFrom_26 ?_
  exact k
def P_W_push_67 (w : z_Wd) (a0 : Int) : Prop := (-2147483648 ≤ w 67 3 ∧ w 67 3 < 2147483648) ∧ ((w 67 3 ≥ 64 → True) ∧ (¬ (w 67 3 ≥ 64) → 0 ≤ w 67 3 ∧ w 67 3 < 64))
def F_W_push_67 (w : z_Wd) (a0 : Int) : z_Wd := if w 67 3 ≥ 64 then w else z_up (z_up w 69 ((w 67 3).toNat) a0) 67 3 ((w 67 3) + 1)
set_option maxRecDepth 4000 in
theorem c_W_push_67 {d : Nat} {w : z_Wd} {a0 : Int} {Q : Option z_V → z_Wd → Prop} (h : P_W_push_67 w a0) (k : Q none (F_W_push_67 w a0)) : z_Wc d m_X4_push [zR 67, zI a0] w Q := by
  unfold P_W_push_67 at h
  unfold F_W_push_67 at k
  refine z_enter rfl (Nat.le_of_ble_eq_true rfl) ?_
  show z_Wp m_X4_push _ 0 [(0, zR 67), (1, zI a0)] [] w _
  refine z_aload_n (pc' := 1) 0 rfl rfl dX4_push_0 rfl ?_
  refine z_getI2 (v := w 67 3) (pc' := 4) g_X4_28 (by decide) rfl rfl rfl dX4_push_1 rfl ?_
  refine z_bipush (pc' := 6) (by decide) dX4_push_4 rfl ?_
  obtain ⟨r1, h⟩ := h
  refine z_icmp_ge 29 dX4_push_6 (by decide) (pc' := 9) rfl r1 (by decide) (fun c => ?_) (fun c => ?_)
  · have h := h.1 c
    rw [if_pos c] at k
    refine z_vret rfl dX4_push_29 ?_
    exact k
  · have h := h.2 c
    rw [if_neg c] at k
    refine z_aload_n (pc' := 10) 0 rfl rfl dX4_push_9 rfl ?_
    refine z_getR (t := 69) (pc' := 13) g_X4_15 (by decide) rfl rfl dX4_push_10 rfl ?_
    refine z_aload_n (pc' := 14) 0 rfl rfl dX4_push_13 rfl ?_
    refine z_getI2 (v := w 67 3) (pc' := 17) g_X4_28 (by decide) rfl rfl rfl dX4_push_14 rfl ?_
    refine z_iload_n (pc' := 18) 1 rfl rfl dX4_push_17 rfl ?_
    have r2 := h
    refine z_iast2 (w' := z_up w 69 ((w 67 3).toNat) a0) (pc' := 19) (by decide) rfl r2 (by decide) rfl dX4_push_18 rfl ?_
    refine z_aload_n (pc' := 20) 0 rfl rfl dX4_push_19 rfl ?_
    refine z_dup (pc' := 21) rfl dX4_push_20 rfl ?_
    refine z_getI2 (v := w 67 3) (pc' := 24) g_X4_28 (by decide) rfl rfl rfl dX4_push_21 rfl ?_
    refine z_iconst (pc' := 25) dX4_push_24 rfl ?_
    refine z_iadd (pc' := 26) dX4_push_25 rfl ?_
    refine z_putI (pc' := 29) p_X4_28 (by decide) rfl rfl rfl rfl dX4_push_26 rfl ?_
    refine z_vret rfl dX4_push_29 ?_
    exact k
def P_W_pop_67 (w : z_Wd)  : Prop := (-2147483648 ≤ w 67 3 ∧ w 67 3 < 2147483648) ∧ ((w 67 3 > 0 → 0 ≤ (w 67 3) - 1 ∧ (w 67 3) - 1 < 64) ∧ (¬ (w 67 3 > 0) → True))
def F_W_pop_67 (w : z_Wd)  : Int × z_Wd := if w 67 3 > 0 then (w 69 (((w 67 3) - 1).toNat), z_up w 67 3 ((w 67 3) - 1)) else (0, w)
set_option maxRecDepth 4000 in
theorem c_W_pop_67 {d : Nat} {w : z_Wd} {Q : Option z_V → z_Wd → Prop} (h : P_W_pop_67 w ) (k : Q (some (zI (F_W_pop_67 w ).1)) (F_W_pop_67 w ).2) : z_Wc d m_X4_pop [zR 67] w Q := by
  unfold P_W_pop_67 at h
  unfold F_W_pop_67 at k
  refine z_enter rfl (Nat.le_of_ble_eq_true rfl) ?_
  show z_Wp m_X4_pop _ 0 [(0, zR 67)] [] w _
  refine z_aload_n (pc' := 1) 0 rfl rfl dX4_pop_0 rfl ?_
  refine z_getI2 (v := w 67 3) (pc' := 4) g_X4_28 (by decide) rfl rfl rfl dX4_pop_1 rfl ?_
  obtain ⟨r1, h⟩ := h
  refine z_if_gt 9 dX4_pop_4 (by decide) (pc' := 7) rfl r1 (fun c => ?_) (fun c => ?_)
  · have h := h.1 c
    rw [if_pos c] at k
    refine z_aload_n (pc' := 10) 0 rfl rfl dX4_pop_9 rfl ?_
    refine z_dup (pc' := 11) rfl dX4_pop_10 rfl ?_
    refine z_getI2 (v := w 67 3) (pc' := 14) g_X4_28 (by decide) rfl rfl rfl dX4_pop_11 rfl ?_
    refine z_iconst (pc' := 15) dX4_pop_14 rfl ?_
    refine z_isub (pc' := 16) dX4_pop_15 rfl ?_
    refine z_putI (pc' := 19) p_X4_28 (by decide) rfl rfl rfl rfl dX4_pop_16 rfl ?_
    refine z_aload_n (pc' := 20) 0 rfl rfl dX4_pop_19 rfl ?_
    refine z_getR (t := 69) (pc' := 23) g_X4_15 (by decide) rfl rfl dX4_pop_20 rfl ?_
    refine z_aload_n (pc' := 24) 0 rfl rfl dX4_pop_23 rfl ?_
    refine z_getI2 (v := (w 67 3) - 1) (pc' := 27) g_X4_28 (by decide) rfl rfl rfl dX4_pop_24 rfl ?_
    have r2 := h
    refine z_iald2 (v := w 69 (((w 67 3) - 1).toNat)) (pc' := 28) (by decide) rfl r2 (by decide) rfl dX4_pop_27 rfl ?_
    refine z_iret rfl dX4_pop_28 ?_
    exact k
  · have h := h.2 c
    rw [if_neg c] at k
    refine z_iconst (pc' := 8) dX4_pop_7 rfl ?_
    refine z_iret rfl dX4_pop_8 ?_
    exact k
def P_C_note (w : z_Wd) (a0 : Int) (a1 : Int) : Prop := (P_Y_hasFile w a0) ∧ ((F_Y_hasFile w a0 = 0 → True) ∧ (¬ (F_Y_hasFile w a0 = 0) → (-2147483648 ≤ a1 ∧ a1 < 2147483648) ∧ ((a1 < 0 → True) ∧ (¬ (a1 < 0) → (a1 > 2 → True) ∧ (¬ (a1 > 2) → (-2147483648 ≤ w 72 4 ∧ w 72 4 < 2147483648) ∧ ((w 72 4 < 10 → 0 ≤ w 72 4 ∧ w 72 4 < 10) ∧ (¬ (w 72 4 < 10) → True)))))))
def F_C_note (w : z_Wd) (a0 : Int) (a1 : Int) : Int × z_Wd := if F_Y_hasFile w a0 = 0 then ((-1), w) else if a1 < 0 then ((-1), w) else if a1 > 2 then ((-1), w) else if w 72 4 < 10 then ((w 72 4) + 1, z_up (z_up (z_up w 73 ((w 72 4).toNat) a0) 74 ((w 72 4).toNat) a1) 72 4 ((w 72 4) + 1)) else ((-1), w)
set_option maxRecDepth 4000 in
theorem c_C_note {d : Nat} {w : z_Wd} {a0 a1 : Int} {Q : Option z_V → z_Wd → Prop} (h : P_C_note w a0 a1) (k : Q (some (zI (F_C_note w a0 a1).1)) (F_C_note w a0 a1).2) : z_Wc (d + 1) m_X0_note [zR 72, zI a0, zI a1] w Q := by
  unfold P_C_note at h
  unfold F_C_note at k
  refine z_enter rfl (Nat.le_of_ble_eq_true rfl) ?_
  show z_Wp m_X0_note _ 0 [(0, zR 72), (1, zI a0), (2, zI a1)] [] w _
  refine z_aload_n (pc' := 1) 0 rfl rfl dX0_note_0 rfl ?_
  refine z_getR (t := 30) (pc' := 4) g_X0_21 (by decide) rfl rfl dX0_note_1 rfl ?_
  refine z_iload_n (pc' := 5) 1 rfl rfl dX0_note_4 rfl ?_
  refine z_invV (as := [zI a0]) (st := []) (C := m_X6_hasFile) (fs := [33, 34]) (pc' := 8) dX0_note_5 rfl t_5_11 k_X6_hasFile rfl (by decide) rfl rfl rfl rfl (Nat.le_of_ble_eq_true rfl) ?_
  obtain ⟨r1, h⟩ := h
  refine c_Y_hasFile r1 ?_
  show z_Wp m_X0_note _ 8 [(0, zR 72), (1, zI a0), (2, zI a1)] [zI (F_Y_hasFile w a0)] w _
  refine z_if_eq 29 dX0_note_8 (by decide) (pc' := 11) rfl (z_rb b_Y_hasFile) (fun c => ?_) (fun c => ?_)
  · have h := h.1 c
    rw [if_pos c] at k
    refine z_iconst (pc' := 30) dX0_note_29 rfl ?_
    refine z_iret rfl dX0_note_30 ?_
    exact k
  · have h := h.2 c
    rw [if_neg c] at k
    refine z_iload_n (pc' := 12) 2 rfl rfl dX0_note_11 rfl ?_
    obtain ⟨r2, h⟩ := h
    refine z_if_lt 29 dX0_note_12 (by decide) (pc' := 15) rfl r2 (fun c => ?_) (fun c => ?_)
    · have h := h.1 c
      rw [if_pos c] at k
      refine z_iconst (pc' := 30) dX0_note_29 rfl ?_
      refine z_iret rfl dX0_note_30 ?_
      exact k
    · have h := h.2 c
      rw [if_neg c] at k
      refine z_iload_n (pc' := 16) 2 rfl rfl dX0_note_15 rfl ?_
      refine z_iconst (pc' := 17) dX0_note_16 rfl ?_
      refine z_icmp_gt 29 dX0_note_17 (by decide) (pc' := 20) rfl r2 (by decide) (fun c => ?_) (fun c => ?_)
      · have h := h.1 c
        rw [if_pos c] at k
        refine z_iconst (pc' := 30) dX0_note_29 rfl ?_
        refine z_iret rfl dX0_note_30 ?_
        exact k
      · have h := h.2 c
        rw [if_neg c] at k
        refine z_aload_n (pc' := 21) 0 rfl rfl dX0_note_20 rfl ?_
        refine z_getI2 (v := w 72 4) (pc' := 24) g_X0_25 (by decide) rfl rfl rfl dX0_note_21 rfl ?_
        refine z_bipush (pc' := 26) (by decide) dX0_note_24 rfl ?_
        obtain ⟨r3, h⟩ := h
        refine z_icmp_lt 31 dX0_note_26 (by decide) (pc' := 29) rfl r3 (by decide) (fun c => ?_) (fun c => ?_)
        · have h := h.1 c
          rw [if_pos c] at k
          refine z_aload_n (pc' := 32) 0 rfl rfl dX0_note_31 rfl ?_
          refine z_getR (t := 73) (pc' := 35) g_X0_11 (by decide) rfl rfl dX0_note_32 rfl ?_
          refine z_aload_n (pc' := 36) 0 rfl rfl dX0_note_35 rfl ?_
          refine z_getI2 (v := w 72 4) (pc' := 39) g_X0_25 (by decide) rfl rfl rfl dX0_note_36 rfl ?_
          refine z_iload_n (pc' := 40) 1 rfl rfl dX0_note_39 rfl ?_
          have r4 := h
          refine z_iast2 (w' := z_up w 73 ((w 72 4).toNat) a0) (pc' := 41) (by decide) rfl r4 (by decide) rfl dX0_note_40 rfl ?_
          refine z_aload_n (pc' := 42) 0 rfl rfl dX0_note_41 rfl ?_
          refine z_getR (t := 74) (pc' := 45) g_X0_15 (by decide) rfl rfl dX0_note_42 rfl ?_
          refine z_aload_n (pc' := 46) 0 rfl rfl dX0_note_45 rfl ?_
          refine z_getI2 (v := w 72 4) (pc' := 49) g_X0_25 (by decide) rfl rfl rfl dX0_note_46 rfl ?_
          refine z_iload_n (pc' := 50) 2 rfl rfl dX0_note_49 rfl ?_
          refine z_iast2 (w' := z_up (z_up w 73 ((w 72 4).toNat) a0) 74 ((w 72 4).toNat) a1) (pc' := 51) (by decide) rfl r4 (by decide) rfl dX0_note_50 rfl ?_
          refine z_aload_n (pc' := 52) 0 rfl rfl dX0_note_51 rfl ?_
          refine z_dup (pc' := 53) rfl dX0_note_52 rfl ?_
          refine z_getI2 (v := w 72 4) (pc' := 56) g_X0_25 (by decide) rfl rfl rfl dX0_note_53 rfl ?_
          refine z_iconst (pc' := 57) dX0_note_56 rfl ?_
          refine z_iadd (pc' := 58) dX0_note_57 rfl ?_
          refine z_putI (pc' := 61) p_X0_25 (by decide) rfl rfl rfl rfl dX0_note_58 rfl ?_
          refine z_aload_n (pc' := 62) 0 rfl rfl dX0_note_61 rfl ?_
          refine z_getI2 (v := (w 72 4) + 1) (pc' := 65) g_X0_25 (by decide) rfl rfl rfl dX0_note_62 rfl ?_
          refine z_iret rfl dX0_note_65 ?_
          exact k
        · have h := h.2 c
          rw [if_neg c] at k
          refine z_iconst (pc' := 30) dX0_note_29 rfl ?_
          refine z_iret rfl dX0_note_30 ?_
          exact k
def E_C_fits_12 (w : z_Wd) (a0 : Int) (i9 : Nat) : Bool := if (i9 : Int) ≥ 10 then true else if (zz_and (zz_shr a0 (F_Y_inFile w (w 73 ((i9 : Int).toNat)) 0)) 1) + (zz_and (zz_shr a0 (F_Y_inFile w (w 73 ((i9 : Int).toNat)) 1)) 1) = w 74 ((i9 : Int).toNat) then false else true
def R_C_fits_12 (w : z_Wd) (a0 : Int) (i9 : Nat) : Int := if (i9 : Int) ≥ 10 then 1 else if (zz_and (zz_shr a0 (F_Y_inFile w (w 73 ((i9 : Int).toNat)) 0)) 1) + (zz_and (zz_shr a0 (F_Y_inFile w (w 73 ((i9 : Int).toNat)) 1)) 1) = w 74 ((i9 : Int).toNat) then 0 else 0
def P_C_fits (w : z_Wd) (a0 : Int) (a1 : Int) : Prop := (-2147483648 ≤ F_J_bitCount_0f7a4 w a0 ∧ F_J_bitCount_0f7a4 w a0 < 2147483648) ∧ (-2147483648 ≤ a1 ∧ a1 < 2147483648) ∧ ((F_J_bitCount_0f7a4 w a0 = a1 → (∀ i9 : Nat, i9 < ((w 72 4).toNat) → zfind (E_C_fits_12 w a0) i9 = -1 → (-2147483648 ≤ (i9 : Int) ∧ (i9 : Int) < 2147483648) ∧ (-2147483648 ≤ w 72 4 ∧ w 72 4 < 2147483648) ∧ (((i9 : Int) ≥ 10 → True) ∧ (¬ ((i9 : Int) ≥ 10) → (0 ≤ (i9 : Int) ∧ (i9 : Int) < 10) ∧ ((P_Y_inFile w (w 73 ((i9 : Int).toNat)) 0) ∧ (P_Y_inFile w (w 73 ((i9 : Int).toNat)) 1)) ∧ (-2147483648 ≤ (zz_and (zz_shr a0 (F_Y_inFile w (w 73 ((i9 : Int).toNat)) 0)) 1) + (zz_and (zz_shr a0 (F_Y_inFile w (w 73 ((i9 : Int).toNat)) 1)) 1) ∧ (zz_and (zz_shr a0 (F_Y_inFile w (w 73 ((i9 : Int).toNat)) 0)) 1) + (zz_and (zz_shr a0 (F_Y_inFile w (w 73 ((i9 : Int).toNat)) 1)) 1) < 2147483648) ∧ (-2147483648 ≤ w 74 ((i9 : Int).toNat) ∧ w 74 ((i9 : Int).toNat) < 2147483648)))) ∧ ((-2147483648 ≤ (((w 72 4).toNat : Nat) : Int) ∧ (((w 72 4).toNat : Nat) : Int) < 2147483648) ∧ (-2147483648 ≤ w 72 4 ∧ w 72 4 < 2147483648))) ∧ (¬ (F_J_bitCount_0f7a4 w a0 = a1) → True))
def F_C_fits (w : z_Wd) (a0 : Int) (a1 : Int) : Int := if F_J_bitCount_0f7a4 w a0 = a1 then if zfind (E_C_fits_12 w a0) ((w 72 4).toNat) = -1 then 1 else R_C_fits_12 w a0 (zfind (E_C_fits_12 w a0) ((w 72 4).toNat)).toNat else 0
set_option maxRecDepth 4000 in
theorem c_C_fits {d : Nat} {w : z_Wd} {a0 a1 : Int} {Q : Option z_V → z_Wd → Prop} (h : P_C_fits w a0 a1) (k : Q (some (zI (F_C_fits w a0 a1))) w) : z_Wc (d + 3) m_X0_fits [zR 72, zI a0, zI a1] w Q := by
  unfold P_C_fits at h
  unfold F_C_fits at k
  refine z_enter rfl (Nat.le_of_ble_eq_true rfl) ?_
  show z_Wp m_X0_fits _ 0 [(0, zR 72), (1, zI a0), (2, zI a1)] [] w _
  refine z_iload_n (pc' := 1) 1 rfl rfl dX0_fits_0 rfl ?_
  refine z_invS (as := [zI a0]) (st := []) (C := m_J6_bitCount_0f7a4) (pc' := 4) dX0_fits_1 rfl t_5_30 k_J6_bitCount_0f7a4 rfl rfl (Nat.le_of_ble_eq_true rfl) ?_
  refine c_J_bitCount_0f7a4 ?_
  show z_Wp m_X0_fits _ 4 [(0, zR 72), (1, zI a0), (2, zI a1)] [zI (F_J_bitCount_0f7a4 w a0)] w _
  refine z_iload_n (pc' := 5) 2 rfl rfl dX0_fits_4 rfl ?_
  obtain ⟨r1, h⟩ := h
  obtain ⟨r2, h⟩ := h
  refine z_icmp_eq 10 dX0_fits_5 (by decide) (pc' := 8) rfl r1 r2 (fun c => ?_) (fun c => ?_)
  · have h := h.1 c
    rw [if_pos c] at k
    refine z_iconst (pc' := 11) dX0_fits_10 rfl ?_
    refine z_istore_n (pc' := 12) (ls' := [(0, zR 72), (1, zI a0), (2, zI a1), (3, zI 0)]) rfl (by decide) rfl rfl dX0_fits_11 rfl ?_
    refine z_Wp.sub (ls' := [(0, zR 72), (1, zI a0), (3, zI 0)]) ?_ (z_sub_of [0, 1, 3] rfl)
    refine z_upto ((w 72 4).toNat) (fun i9 => zfind (E_C_fits_12 w a0) i9 = -1 → z_Wp m_X0_fits (d + 3) 12 [(0, zR 72), (1, zI a0), (3, zI (i9 : Int))] [] w Q) ?_ ?_ rfl
    · intro hf
      rw [if_pos hf] at k
      have h := h.2
      refine z_iload_n (pc' := 13) 2 rfl rfl dX0_fits_12 rfl ?_
      refine z_aload_n (pc' := 14) 0 rfl rfl dX0_fits_13 rfl ?_
      refine z_getI2 (v := w 72 4) (pc' := 17) g_X0_25 (by decide) rfl rfl rfl dX0_fits_14 rfl ?_
      obtain ⟨r16, h⟩ := h
      have r17 := h
      refine z_icmp_ge 57 dX0_fits_17 (by decide) (pc' := 20) rfl r16 r17 (fun _ => ?_) (fun c => absurd c (by omega))
      refine z_iconst (pc' := 58) dX0_fits_57 rfl ?_
      refine z_zret rfl (by decide) dX0_fits_58 ?_
      exact k
    · intro i9 hi ih hf
      have h := h.1 i9 hi hf
      have hE : E_C_fits_12 w a0 i9 = (if (i9 : Int) ≥ 10 then true else if (zz_and (zz_shr a0 (F_Y_inFile w (w 73 ((i9 : Int).toNat)) 0)) 1) + (zz_and (zz_shr a0 (F_Y_inFile w (w 73 ((i9 : Int).toNat)) 1)) 1) = w 74 ((i9 : Int).toNat) then false else true) := rfl
      refine z_iload_n (pc' := 13) 2 rfl rfl dX0_fits_12 rfl ?_
      refine z_aload_n (pc' := 14) 0 rfl rfl dX0_fits_13 rfl ?_
      refine z_getI2 (v := w 72 4) (pc' := 17) g_X0_25 (by decide) rfl rfl rfl dX0_fits_14 rfl ?_
      obtain ⟨r10, h⟩ := h
      obtain ⟨r11, h⟩ := h
      refine z_icmp_ge 57 dX0_fits_17 (by decide) (pc' := 20) rfl r10 r11 (fun c => absurd c (by omega)) (fun _ => ?_)
      refine z_iload_n (pc' := 21) 2 rfl rfl dX0_fits_20 rfl ?_
      refine z_bipush (pc' := 23) (by decide) dX0_fits_21 rfl ?_
      refine z_icmp_ge 57 dX0_fits_23 (by decide) (pc' := 26) rfl r10 (by decide) (fun c79 => ?_) (fun c79 => ?_)
      · have h := h.1 c79
        rw [if_pos c79] at hE
        refine z_iconst (pc' := 58) dX0_fits_57 rfl ?_
        refine z_zret rfl (by decide) dX0_fits_58 ?_
        have hz := zfind_hit hf hE _ hi
        rw [hz, if_neg (by omega), Int.toNat_natCast] at k
        unfold R_C_fits_12 at k
        rw [if_pos c79] at k
        exact k
      · have h := h.2 c79
        rw [if_neg c79] at hE
        refine z_aload_n (pc' := 27) 0 rfl rfl dX0_fits_26 rfl ?_
        refine z_getR (t := 30) (pc' := 30) g_X0_21 (by decide) rfl rfl dX0_fits_27 rfl ?_
        refine z_aload_n (pc' := 31) 0 rfl rfl dX0_fits_30 rfl ?_
        refine z_getR (t := 73) (pc' := 34) g_X0_11 (by decide) rfl rfl dX0_fits_31 rfl ?_
        refine z_iload_n (pc' := 35) 2 rfl rfl dX0_fits_34 rfl ?_
        obtain ⟨r12, h⟩ := h
        refine z_iald2 (v := w 73 ((i9 : Int).toNat)) (pc' := 36) (by decide) rfl r12 (by decide) rfl dX0_fits_35 rfl ?_
        refine z_iload_n (pc' := 37) 1 rfl rfl dX0_fits_36 rfl ?_
        refine z_invV (as := [zI (w 73 ((i9 : Int).toNat)), zI a0]) (st := []) (C := m_X6_gaps) (fs := [33, 34]) (pc' := 40) dX0_fits_37 rfl t_5_31 k_X6_gaps rfl (by decide) rfl rfl rfl rfl (Nat.le_of_ble_eq_true rfl) ?_
        obtain ⟨r13, h⟩ := h
        refine c_Y_gaps r13 ?_
        show z_Wp m_X0_fits _ 40 [(0, zR 72), (1, zI a0), (3, zI (i9 : Int))] [zI ((zz_and (zz_shr a0 (F_Y_inFile w (w 73 ((i9 : Int).toNat)) 0)) 1) + (zz_and (zz_shr a0 (F_Y_inFile w (w 73 ((i9 : Int).toNat)) 1)) 1))] w _
        refine z_aload_n (pc' := 41) 0 rfl rfl dX0_fits_40 rfl ?_
        refine z_getR (t := 74) (pc' := 44) g_X0_15 (by decide) rfl rfl dX0_fits_41 rfl ?_
        refine z_iload_n (pc' := 45) 2 rfl rfl dX0_fits_44 rfl ?_
        refine z_iald2 (v := w 74 ((i9 : Int).toNat)) (pc' := 46) (by decide) rfl r12 (by decide) rfl dX0_fits_45 rfl ?_
        obtain ⟨r14, h⟩ := h
        have r15 := h
        refine z_icmp_eq 51 dX0_fits_46 (by decide) (pc' := 49) rfl r14 r15 (fun c80 => ?_) (fun c80 => ?_)
        · skip
          rw [if_pos c80] at hE
          refine z_iinc (pc' := 54) (ls' := [(0, zR 72), (1, zI a0), (3, zI ((i9 : Int) + 1))]) 2 rfl (by decide) rfl rfl dX0_fits_51 rfl ?_
          refine z_goto 12 dX0_fits_54 (by decide) ?_
          exact (ih (zfind_miss hf (by rw [hE]; decide)))
        · skip
          rw [if_neg c80] at hE
          refine z_iconst (pc' := 50) dX0_fits_49 rfl ?_
          refine z_zret rfl (by decide) dX0_fits_50 ?_
          have hz := zfind_hit hf hE _ hi
          rw [hz, if_neg (by omega), Int.toNat_natCast] at k
          unfold R_C_fits_12 at k
          rw [if_neg c79] at k
          rw [if_neg c80] at k
          exact k
  · have h := h.2 c
    rw [if_neg c] at k
    refine z_iconst (pc' := 9) dX0_fits_8 rfl ?_
    refine z_zret rfl (by decide) dX0_fits_9 ?_
    exact k
theorem b_C_fits {w : z_Wd} {a0 a1 : Int} : F_C_fits w a0 a1 = 0 ∨ F_C_fits w a0 a1 = 1 := by
  unfold F_C_fits
  (repeat' split) <;> first | exact Or.inl rfl | exact Or.inr rfl | (unfold R_C_fits_12; (repeat' split) <;> first | exact Or.inl rfl | exact Or.inr rfl)
def A_C_sets_4 (w : z_Wd) (a0 : Int) : Nat → Int
  | 0 => 0
  | i4 + 1 => if F_C_fits w (i4 : Int) a0 = 0 then A_C_sets_4 w a0 i4 else (A_C_sets_4 w a0 i4) + 1
def P_C_sets (w : z_Wd) (a0 : Int) : Prop := (∀ i4 : Nat, i4 < ((((zz_shl 1 (w 32 2)) - 1) + 1).toNat) → (-2147483648 ≤ (i4 : Int) ∧ (i4 : Int) < 2147483648) ∧ (-2147483648 ≤ (zz_shl 1 (w 32 2)) - 1 ∧ (zz_shl 1 (w 32 2)) - 1 < 2147483648) ∧ (P_C_fits w (i4 : Int) a0)) ∧ ((-2147483648 ≤ (((((zz_shl 1 (w 32 2)) - 1) + 1).toNat : Nat) : Int) ∧ (((((zz_shl 1 (w 32 2)) - 1) + 1).toNat : Nat) : Int) < 2147483648) ∧ (-2147483648 ≤ (zz_shl 1 (w 32 2)) - 1 ∧ (zz_shl 1 (w 32 2)) - 1 < 2147483648))
def F_C_sets (w : z_Wd) (a0 : Int) : Int := A_C_sets_4 w a0 (((zz_shl 1 (w 32 2)) - 1) + 1).toNat
set_option maxRecDepth 4000 in
theorem c_C_sets {d : Nat} {w : z_Wd} {a0 : Int} {Q : Option z_V → z_Wd → Prop} (h : P_C_sets w a0) (k : Q (some (zI (F_C_sets w a0))) w) : z_Wc (d + 4) m_X0_sets [zR 72, zI a0] w Q := by
  unfold P_C_sets at h
  unfold F_C_sets at k
  refine z_enter rfl (Nat.le_of_ble_eq_true rfl) ?_
  show z_Wp m_X0_sets _ 0 [(0, zR 72), (1, zI a0)] [] w _
  refine z_iconst (pc' := 1) dX0_sets_0 rfl ?_
  refine z_istore_n (pc' := 2) (ls' := [(0, zR 72), (1, zI a0), (2, zI 0)]) rfl (by decide) rfl rfl dX0_sets_1 rfl ?_
  refine z_iconst (pc' := 3) dX0_sets_2 rfl ?_
  refine z_istore_n (pc' := 4) (ls' := [(0, zR 72), (1, zI a0), (2, zI 0), (3, zI 0)]) rfl (by decide) rfl rfl dX0_sets_3 rfl ?_
  refine z_upto ((((zz_shl 1 (w 32 2)) - 1) + 1).toNat) (fun i4 => z_Wp m_X0_sets (d + 4) 4 [(0, zR 72), (1, zI a0), (2, zI (A_C_sets_4 w a0 i4)), (3, zI (i4 : Int))] [] w Q) ?_ ?_
  · skip
    have h := h.2
    refine z_iload_n (pc' := 5) 3 rfl rfl dX0_sets_4 rfl ?_
    refine z_aload_n (pc' := 6) 0 rfl rfl dX0_sets_5 rfl ?_
    refine z_getR (t := 30) (pc' := 9) g_X0_21 (by decide) rfl rfl dX0_sets_6 rfl ?_
    refine z_invV (as := []) (st := [zI (((((zz_shl 1 (w 32 2)) - 1) + 1).toNat : Nat) : Int)]) (C := m_X6_all) (fs := [33, 34]) (pc' := 12) dX0_sets_9 rfl t_5_25 k_X6_all rfl (by decide) rfl rfl rfl rfl (Nat.le_of_ble_eq_true rfl) ?_
    refine c_Y_all ?_
    show z_Wp m_X0_sets _ 12 [(0, zR 72), (1, zI a0), (2, zI (A_C_sets_4 w a0 (((zz_shl 1 (w 32 2)) - 1) + 1).toNat)), (3, zI (((((zz_shl 1 (w 32 2)) - 1) + 1).toNat : Nat) : Int))] [zI ((zz_shl 1 (w 32 2)) - 1), zI (((((zz_shl 1 (w 32 2)) - 1) + 1).toNat : Nat) : Int)] w _
    obtain ⟨r8, h⟩ := h
    have r9 := h
    refine z_icmp_gt 33 dX0_sets_12 (by decide) (pc' := 15) rfl r8 r9 (fun _ => ?_) (fun c => absurd c (by omega))
    refine z_iload_n (pc' := 34) 2 rfl rfl dX0_sets_33 rfl ?_
    refine z_iret rfl dX0_sets_34 ?_
    exact k
  · intro i4 hi ih
    have h := h.1 i4 hi
    have ih : z_Wp m_X0_sets (d + 4) 4 [(0, zR 72), (1, zI a0), (2, zI (if F_C_fits w (i4 : Int) a0 = 0 then A_C_sets_4 w a0 i4 else (A_C_sets_4 w a0 i4) + 1)), (3, zI ((i4 + 1 : Nat) : Int))] [] w Q := ih
    refine z_iload_n (pc' := 5) 3 rfl rfl dX0_sets_4 rfl ?_
    refine z_aload_n (pc' := 6) 0 rfl rfl dX0_sets_5 rfl ?_
    refine z_getR (t := 30) (pc' := 9) g_X0_21 (by decide) rfl rfl dX0_sets_6 rfl ?_
    refine z_invV (as := []) (st := [zI (i4 : Int)]) (C := m_X6_all) (fs := [33, 34]) (pc' := 12) dX0_sets_9 rfl t_5_25 k_X6_all rfl (by decide) rfl rfl rfl rfl (Nat.le_of_ble_eq_true rfl) ?_
    refine c_Y_all ?_
    show z_Wp m_X0_sets _ 12 [(0, zR 72), (1, zI a0), (2, zI (A_C_sets_4 w a0 i4)), (3, zI (i4 : Int))] [zI ((zz_shl 1 (w 32 2)) - 1), zI (i4 : Int)] w _
    obtain ⟨r5, h⟩ := h
    obtain ⟨r6, h⟩ := h
    refine z_icmp_gt 33 dX0_sets_12 (by decide) (pc' := 15) rfl r5 r6 (fun c => absurd c (by omega)) (fun _ => ?_)
    refine z_aload_n (pc' := 16) 0 rfl rfl dX0_sets_15 rfl ?_
    refine z_iload_n (pc' := 17) 3 rfl rfl dX0_sets_16 rfl ?_
    refine z_iload_n (pc' := 18) 1 rfl rfl dX0_sets_17 rfl ?_
    refine z_invV (as := [zI (i4 : Int), zI a0]) (st := []) (C := m_X0_fits) (fs := [32, 75, 76, 77, 0]) (pc' := 21) dX0_sets_18 rfl t_5_26 k_X0_fits rfl (by decide) rfl rfl rfl rfl (Nat.le_of_ble_eq_true rfl) ?_
    have r7 := h
    refine c_C_fits r7 ?_
    show z_Wp m_X0_sets _ 21 [(0, zR 72), (1, zI a0), (2, zI (A_C_sets_4 w a0 i4)), (3, zI (i4 : Int))] [zI (F_C_fits w (i4 : Int) a0)] w _
    refine z_if_eq 27 dX0_sets_21 (by decide) (pc' := 24) rfl (z_rb b_C_fits) (fun c81 => ?_) (fun c81 => ?_)
    · skip
      rw [if_pos c81] at ih
      refine z_iinc (pc' := 30) (ls' := [(0, zR 72), (1, zI a0), (2, zI (A_C_sets_4 w a0 i4)), (3, zI ((i4 : Int) + 1))]) 3 rfl (by decide) rfl rfl dX0_sets_27 rfl ?_
      refine z_goto 4 dX0_sets_30 (by decide) ?_
      exact ih
    · skip
      rw [if_neg c81] at ih
      refine z_iinc (pc' := 27) (ls' := [(0, zR 72), (1, zI a0), (2, zI ((A_C_sets_4 w a0 i4) + 1)), (3, zI (i4 : Int))]) 2 rfl (by decide) rfl rfl dX0_sets_24 rfl ?_
      refine z_iinc (pc' := 30) (ls' := [(0, zR 72), (1, zI a0), (2, zI ((A_C_sets_4 w a0 i4) + 1)), (3, zI ((i4 : Int) + 1))]) 3 rfl (by decide) rfl rfl dX0_sets_27 rfl ?_
      refine z_goto 4 dX0_sets_30 (by decide) ?_
      exact ih
def A_C_setAt_5 (w : z_Wd) (a0 : Int) (a1 : Int) : Nat → Int
  | 0 => 0
  | i6 + 1 => if F_C_fits w (i6 : Int) a0 = 0 then A_C_setAt_5 w a0 a1 i6 else if A_C_setAt_5 w a0 a1 i6 = a1 then A_C_setAt_5 w a0 a1 i6 else (A_C_setAt_5 w a0 a1 i6) + 1
def E_C_setAt_5 (w : z_Wd) (a0 : Int) (a1 : Int) (i6 : Nat) : Bool := if F_C_fits w (i6 : Int) a0 = 0 then false else if A_C_setAt_5 w a0 a1 i6 = a1 then true else false
def R_C_setAt_5 (w : z_Wd) (a0 : Int) (a1 : Int) (i6 : Nat) : Int := if F_C_fits w (i6 : Int) a0 = 0 then 0 else if A_C_setAt_5 w a0 a1 i6 = a1 then (i6 : Int) else 0
def P_C_setAt (w : z_Wd) (a0 : Int) (a1 : Int) : Prop := (∀ i6 : Nat, i6 < ((((zz_shl 1 (w 32 2)) - 1) + 1).toNat) → zfind (E_C_setAt_5 w a0 a1) i6 = -1 → (-2147483648 ≤ (i6 : Int) ∧ (i6 : Int) < 2147483648) ∧ (-2147483648 ≤ (zz_shl 1 (w 32 2)) - 1 ∧ (zz_shl 1 (w 32 2)) - 1 < 2147483648) ∧ (P_C_fits w (i6 : Int) a0) ∧ ((F_C_fits w (i6 : Int) a0 = 0 → True) ∧ (¬ (F_C_fits w (i6 : Int) a0 = 0) → (-2147483648 ≤ A_C_setAt_5 w a0 a1 i6 ∧ A_C_setAt_5 w a0 a1 i6 < 2147483648) ∧ (-2147483648 ≤ a1 ∧ a1 < 2147483648)))) ∧ ((-2147483648 ≤ (((((zz_shl 1 (w 32 2)) - 1) + 1).toNat : Nat) : Int) ∧ (((((zz_shl 1 (w 32 2)) - 1) + 1).toNat : Nat) : Int) < 2147483648) ∧ (-2147483648 ≤ (zz_shl 1 (w 32 2)) - 1 ∧ (zz_shl 1 (w 32 2)) - 1 < 2147483648))
def F_C_setAt (w : z_Wd) (a0 : Int) (a1 : Int) : Int := if zfind (E_C_setAt_5 w a0 a1) ((((zz_shl 1 (w 32 2)) - 1) + 1).toNat) = -1 then (-1) else R_C_setAt_5 w a0 a1 (zfind (E_C_setAt_5 w a0 a1) ((((zz_shl 1 (w 32 2)) - 1) + 1).toNat)).toNat
set_option maxRecDepth 4000 in
theorem c_C_setAt {d : Nat} {w : z_Wd} {a0 a1 : Int} {Q : Option z_V → z_Wd → Prop} (h : P_C_setAt w a0 a1) (k : Q (some (zI (F_C_setAt w a0 a1))) w) : z_Wc (d + 4) m_X0_setAt [zR 72, zI a0, zI a1] w Q := by
  unfold P_C_setAt at h
  unfold F_C_setAt at k
  refine z_enter rfl (Nat.le_of_ble_eq_true rfl) ?_
  show z_Wp m_X0_setAt _ 0 [(0, zR 72), (1, zI a0), (2, zI a1)] [] w _
  refine z_iconst (pc' := 1) dX0_setAt_0 rfl ?_
  refine z_istore_n (pc' := 2) (ls' := [(0, zR 72), (1, zI a0), (2, zI a1), (3, zI 0)]) rfl (by decide) rfl rfl dX0_setAt_1 rfl ?_
  refine z_iconst (pc' := 3) dX0_setAt_2 rfl ?_
  refine z_istore (pc' := 5) (ls' := [(0, zR 72), (1, zI a0), (2, zI a1), (3, zI 0), (4, zI 0)]) (by decide) rfl rfl dX0_setAt_3 rfl ?_
  refine z_upto ((((zz_shl 1 (w 32 2)) - 1) + 1).toNat) (fun i6 => zfind (E_C_setAt_5 w a0 a1) i6 = -1 → z_Wp m_X0_setAt (d + 4) 5 [(0, zR 72), (1, zI a0), (2, zI a1), (3, zI (A_C_setAt_5 w a0 a1 i6)), (4, zI (i6 : Int))] [] w Q) ?_ ?_ rfl
  · intro hf
    rw [if_pos hf] at k
    have h := h.2
    refine z_iload (pc' := 7) 4 rfl dX0_setAt_5 rfl ?_
    refine z_aload_n (pc' := 8) 0 rfl rfl dX0_setAt_7 rfl ?_
    refine z_getR (t := 30) (pc' := 11) g_X0_21 (by decide) rfl rfl dX0_setAt_8 rfl ?_
    refine z_invV (as := []) (st := [zI (((((zz_shl 1 (w 32 2)) - 1) + 1).toNat : Nat) : Int)]) (C := m_X6_all) (fs := [33, 34]) (pc' := 14) dX0_setAt_11 rfl t_5_25 k_X6_all rfl (by decide) rfl rfl rfl rfl (Nat.le_of_ble_eq_true rfl) ?_
    refine c_Y_all ?_
    show z_Wp m_X0_setAt _ 14 [(0, zR 72), (1, zI a0), (2, zI a1), (3, zI (A_C_setAt_5 w a0 a1 (((zz_shl 1 (w 32 2)) - 1) + 1).toNat)), (4, zI (((((zz_shl 1 (w 32 2)) - 1) + 1).toNat : Nat) : Int))] [zI ((zz_shl 1 (w 32 2)) - 1), zI (((((zz_shl 1 (w 32 2)) - 1) + 1).toNat : Nat) : Int)] w _
    obtain ⟨r12, h⟩ := h
    have r13 := h
    refine z_icmp_gt 44 dX0_setAt_14 (by decide) (pc' := 17) rfl r12 r13 (fun _ => ?_) (fun c => absurd c (by omega))
    refine z_iconst (pc' := 45) dX0_setAt_44 rfl ?_
    refine z_iret rfl dX0_setAt_45 ?_
    exact k
  · intro i6 hi ih hf
    have h := h.1 i6 hi hf
    have ih : zfind (E_C_setAt_5 w a0 a1) (i6 + 1) = -1 → z_Wp m_X0_setAt (d + 4) 5 [(0, zR 72), (1, zI a0), (2, zI a1), (3, zI (if F_C_fits w (i6 : Int) a0 = 0 then A_C_setAt_5 w a0 a1 i6 else if A_C_setAt_5 w a0 a1 i6 = a1 then A_C_setAt_5 w a0 a1 i6 else (A_C_setAt_5 w a0 a1 i6) + 1)), (4, zI ((i6 + 1 : Nat) : Int))] [] w Q := ih
    have hE : E_C_setAt_5 w a0 a1 i6 = (if F_C_fits w (i6 : Int) a0 = 0 then false else if A_C_setAt_5 w a0 a1 i6 = a1 then true else false) := rfl
    refine z_iload (pc' := 7) 4 rfl dX0_setAt_5 rfl ?_
    refine z_aload_n (pc' := 8) 0 rfl rfl dX0_setAt_7 rfl ?_
    refine z_getR (t := 30) (pc' := 11) g_X0_21 (by decide) rfl rfl dX0_setAt_8 rfl ?_
    refine z_invV (as := []) (st := [zI (i6 : Int)]) (C := m_X6_all) (fs := [33, 34]) (pc' := 14) dX0_setAt_11 rfl t_5_25 k_X6_all rfl (by decide) rfl rfl rfl rfl (Nat.le_of_ble_eq_true rfl) ?_
    refine c_Y_all ?_
    show z_Wp m_X0_setAt _ 14 [(0, zR 72), (1, zI a0), (2, zI a1), (3, zI (A_C_setAt_5 w a0 a1 i6)), (4, zI (i6 : Int))] [zI ((zz_shl 1 (w 32 2)) - 1), zI (i6 : Int)] w _
    obtain ⟨r7, h⟩ := h
    obtain ⟨r8, h⟩ := h
    refine z_icmp_gt 44 dX0_setAt_14 (by decide) (pc' := 17) rfl r7 r8 (fun c => absurd c (by omega)) (fun _ => ?_)
    refine z_aload_n (pc' := 18) 0 rfl rfl dX0_setAt_17 rfl ?_
    refine z_iload (pc' := 20) 4 rfl dX0_setAt_18 rfl ?_
    refine z_iload_n (pc' := 21) 1 rfl rfl dX0_setAt_20 rfl ?_
    refine z_invV (as := [zI (i6 : Int), zI a0]) (st := []) (C := m_X0_fits) (fs := [32, 75, 76, 77, 0]) (pc' := 24) dX0_setAt_21 rfl t_5_26 k_X0_fits rfl (by decide) rfl rfl rfl rfl (Nat.le_of_ble_eq_true rfl) ?_
    obtain ⟨r9, h⟩ := h
    refine c_C_fits r9 ?_
    show z_Wp m_X0_setAt _ 24 [(0, zR 72), (1, zI a0), (2, zI a1), (3, zI (A_C_setAt_5 w a0 a1 i6)), (4, zI (i6 : Int))] [zI (F_C_fits w (i6 : Int) a0)] w _
    refine z_if_eq 38 dX0_setAt_24 (by decide) (pc' := 27) rfl (z_rb b_C_fits) (fun c82 => ?_) (fun c82 => ?_)
    · have h := h.1 c82
      rw [if_pos c82] at ih
      rw [if_pos c82] at hE
      refine z_iinc (pc' := 41) (ls' := [(0, zR 72), (1, zI a0), (2, zI a1), (3, zI (A_C_setAt_5 w a0 a1 i6)), (4, zI ((i6 : Int) + 1))]) 4 rfl (by decide) rfl rfl dX0_setAt_38 rfl ?_
      refine z_goto 5 dX0_setAt_41 (by decide) ?_
      exact (ih (zfind_miss hf (by rw [hE]; decide)))
    · have h := h.2 c82
      rw [if_neg c82] at ih
      rw [if_neg c82] at hE
      refine z_iload_n (pc' := 28) 3 rfl rfl dX0_setAt_27 rfl ?_
      refine z_iload_n (pc' := 29) 2 rfl rfl dX0_setAt_28 rfl ?_
      obtain ⟨r10, h⟩ := h
      have r11 := h
      refine z_icmp_ne 35 dX0_setAt_29 (by decide) (pc' := 32) rfl r10 r11 (fun c83 => ?_) (fun c83 => ?_)
      · skip
        rw [if_neg c83] at ih
        rw [if_neg c83] at hE
        refine z_iinc (pc' := 38) (ls' := [(0, zR 72), (1, zI a0), (2, zI a1), (3, zI ((A_C_setAt_5 w a0 a1 i6) + 1)), (4, zI (i6 : Int))]) 3 rfl (by decide) rfl rfl dX0_setAt_35 rfl ?_
        refine z_iinc (pc' := 41) (ls' := [(0, zR 72), (1, zI a0), (2, zI a1), (3, zI ((A_C_setAt_5 w a0 a1 i6) + 1)), (4, zI ((i6 : Int) + 1))]) 4 rfl (by decide) rfl rfl dX0_setAt_38 rfl ?_
        refine z_goto 5 dX0_setAt_41 (by decide) ?_
        exact (ih (zfind_miss hf (by rw [hE]; decide)))
      · skip
        rw [if_pos c83] at ih
        rw [if_pos c83] at hE
        refine z_iload (pc' := 34) 4 rfl dX0_setAt_32 rfl ?_
        refine z_iret rfl dX0_setAt_34 ?_
        have hz := zfind_hit hf hE _ hi
        rw [hz, if_neg (by omega), Int.toNat_natCast] at k
        unfold R_C_setAt_5 at k
        rw [if_neg c82] at k
        rw [if_pos c83] at k
        exact k
def A_C_inAll_4 (w : z_Wd) (a0 : Int) : Nat → Int
  | 0 => (-1)
  | i5 + 1 => if F_C_fits w (i5 : Int) a0 = 0 then A_C_inAll_4 w a0 i5 else if A_C_inAll_4 w a0 i5 = (-1) then (i5 : Int) else zz_and (A_C_inAll_4 w a0 i5) (i5 : Int)
def P_C_inAll (w : z_Wd) (a0 : Int) : Prop := (∀ i5 : Nat, i5 < ((((zz_shl 1 (w 32 2)) - 1) + 1).toNat) → (-2147483648 ≤ (i5 : Int) ∧ (i5 : Int) < 2147483648) ∧ (-2147483648 ≤ (zz_shl 1 (w 32 2)) - 1 ∧ (zz_shl 1 (w 32 2)) - 1 < 2147483648) ∧ (P_C_fits w (i5 : Int) a0) ∧ ((F_C_fits w (i5 : Int) a0 = 0 → True) ∧ (¬ (F_C_fits w (i5 : Int) a0 = 0) → -2147483648 ≤ A_C_inAll_4 w a0 i5 ∧ A_C_inAll_4 w a0 i5 < 2147483648))) ∧ ((-2147483648 ≤ (((((zz_shl 1 (w 32 2)) - 1) + 1).toNat : Nat) : Int) ∧ (((((zz_shl 1 (w 32 2)) - 1) + 1).toNat : Nat) : Int) < 2147483648) ∧ (-2147483648 ≤ (zz_shl 1 (w 32 2)) - 1 ∧ (zz_shl 1 (w 32 2)) - 1 < 2147483648))
def F_C_inAll (w : z_Wd) (a0 : Int) : Int := A_C_inAll_4 w a0 (((zz_shl 1 (w 32 2)) - 1) + 1).toNat
set_option maxRecDepth 4000 in
theorem c_C_inAll {d : Nat} {w : z_Wd} {a0 : Int} {Q : Option z_V → z_Wd → Prop} (h : P_C_inAll w a0) (k : Q (some (zI (F_C_inAll w a0))) w) : z_Wc (d + 4) m_X0_inAll [zR 72, zI a0] w Q := by
  unfold P_C_inAll at h
  unfold F_C_inAll at k
  refine z_enter rfl (Nat.le_of_ble_eq_true rfl) ?_
  show z_Wp m_X0_inAll _ 0 [(0, zR 72), (1, zI a0)] [] w _
  refine z_iconst (pc' := 1) dX0_inAll_0 rfl ?_
  refine z_istore_n (pc' := 2) (ls' := [(0, zR 72), (1, zI a0), (2, zI (-1))]) rfl (by decide) rfl rfl dX0_inAll_1 rfl ?_
  refine z_iconst (pc' := 3) dX0_inAll_2 rfl ?_
  refine z_istore_n (pc' := 4) (ls' := [(0, zR 72), (1, zI a0), (2, zI (-1)), (3, zI 0)]) rfl (by decide) rfl rfl dX0_inAll_3 rfl ?_
  refine z_upto ((((zz_shl 1 (w 32 2)) - 1) + 1).toNat) (fun i5 => z_Wp m_X0_inAll (d + 4) 4 [(0, zR 72), (1, zI a0), (2, zI (A_C_inAll_4 w a0 i5)), (3, zI (i5 : Int))] [] w Q) ?_ ?_
  · skip
    have h := h.2
    refine z_iload_n (pc' := 5) 3 rfl rfl dX0_inAll_4 rfl ?_
    refine z_aload_n (pc' := 6) 0 rfl rfl dX0_inAll_5 rfl ?_
    refine z_getR (t := 30) (pc' := 9) g_X0_21 (by decide) rfl rfl dX0_inAll_6 rfl ?_
    refine z_invV (as := []) (st := [zI (((((zz_shl 1 (w 32 2)) - 1) + 1).toNat : Nat) : Int)]) (C := m_X6_all) (fs := [33, 34]) (pc' := 12) dX0_inAll_9 rfl t_5_25 k_X6_all rfl (by decide) rfl rfl rfl rfl (Nat.le_of_ble_eq_true rfl) ?_
    refine c_Y_all ?_
    show z_Wp m_X0_inAll _ 12 [(0, zR 72), (1, zI a0), (2, zI (A_C_inAll_4 w a0 (((zz_shl 1 (w 32 2)) - 1) + 1).toNat)), (3, zI (((((zz_shl 1 (w 32 2)) - 1) + 1).toNat : Nat) : Int))] [zI ((zz_shl 1 (w 32 2)) - 1), zI (((((zz_shl 1 (w 32 2)) - 1) + 1).toNat : Nat) : Int)] w _
    obtain ⟨r10, h⟩ := h
    have r11 := h
    refine z_icmp_gt 43 dX0_inAll_12 (by decide) (pc' := 15) rfl r10 r11 (fun _ => ?_) (fun c => absurd c (by omega))
    refine z_iload_n (pc' := 44) 2 rfl rfl dX0_inAll_43 rfl ?_
    refine z_iret rfl dX0_inAll_44 ?_
    exact k
  · intro i5 hi ih
    have h := h.1 i5 hi
    have ih : z_Wp m_X0_inAll (d + 4) 4 [(0, zR 72), (1, zI a0), (2, zI (if F_C_fits w (i5 : Int) a0 = 0 then A_C_inAll_4 w a0 i5 else if A_C_inAll_4 w a0 i5 = (-1) then (i5 : Int) else zz_and (A_C_inAll_4 w a0 i5) (i5 : Int))), (3, zI ((i5 + 1 : Nat) : Int))] [] w Q := ih
    refine z_iload_n (pc' := 5) 3 rfl rfl dX0_inAll_4 rfl ?_
    refine z_aload_n (pc' := 6) 0 rfl rfl dX0_inAll_5 rfl ?_
    refine z_getR (t := 30) (pc' := 9) g_X0_21 (by decide) rfl rfl dX0_inAll_6 rfl ?_
    refine z_invV (as := []) (st := [zI (i5 : Int)]) (C := m_X6_all) (fs := [33, 34]) (pc' := 12) dX0_inAll_9 rfl t_5_25 k_X6_all rfl (by decide) rfl rfl rfl rfl (Nat.le_of_ble_eq_true rfl) ?_
    refine c_Y_all ?_
    show z_Wp m_X0_inAll _ 12 [(0, zR 72), (1, zI a0), (2, zI (A_C_inAll_4 w a0 i5)), (3, zI (i5 : Int))] [zI ((zz_shl 1 (w 32 2)) - 1), zI (i5 : Int)] w _
    obtain ⟨r6, h⟩ := h
    obtain ⟨r7, h⟩ := h
    refine z_icmp_gt 43 dX0_inAll_12 (by decide) (pc' := 15) rfl r6 r7 (fun c => absurd c (by omega)) (fun _ => ?_)
    refine z_aload_n (pc' := 16) 0 rfl rfl dX0_inAll_15 rfl ?_
    refine z_iload_n (pc' := 17) 3 rfl rfl dX0_inAll_16 rfl ?_
    refine z_iload_n (pc' := 18) 1 rfl rfl dX0_inAll_17 rfl ?_
    refine z_invV (as := [zI (i5 : Int), zI a0]) (st := []) (C := m_X0_fits) (fs := [32, 75, 76, 77, 0]) (pc' := 21) dX0_inAll_18 rfl t_5_26 k_X0_fits rfl (by decide) rfl rfl rfl rfl (Nat.le_of_ble_eq_true rfl) ?_
    obtain ⟨r8, h⟩ := h
    refine c_C_fits r8 ?_
    show z_Wp m_X0_inAll _ 21 [(0, zR 72), (1, zI a0), (2, zI (A_C_inAll_4 w a0 i5)), (3, zI (i5 : Int))] [zI (F_C_fits w (i5 : Int) a0)] w _
    refine z_if_eq 37 dX0_inAll_21 (by decide) (pc' := 24) rfl (z_rb b_C_fits) (fun c84 => ?_) (fun c84 => ?_)
    · have h := h.1 c84
      rw [if_pos c84] at ih
      refine z_iinc (pc' := 40) (ls' := [(0, zR 72), (1, zI a0), (2, zI (A_C_inAll_4 w a0 i5)), (3, zI ((i5 : Int) + 1))]) 3 rfl (by decide) rfl rfl dX0_inAll_37 rfl ?_
      refine z_goto 4 dX0_inAll_40 (by decide) ?_
      exact ih
    · have h := h.2 c84
      rw [if_neg c84] at ih
      refine z_iload_n (pc' := 25) 2 rfl rfl dX0_inAll_24 rfl ?_
      refine z_iconst (pc' := 26) dX0_inAll_25 rfl ?_
      have r9 := h
      refine z_icmp_ne 33 dX0_inAll_26 (by decide) (pc' := 29) rfl r9 (by decide) (fun c85 => ?_) (fun c85 => ?_)
      · skip
        rw [if_neg c85] at ih
        refine z_iload_n (pc' := 34) 2 rfl rfl dX0_inAll_33 rfl ?_
        refine z_iload_n (pc' := 35) 3 rfl rfl dX0_inAll_34 rfl ?_
        refine z_iand (pc' := 36) dX0_inAll_35 rfl ?_
        refine z_istore_n (pc' := 37) (ls' := [(0, zR 72), (1, zI a0), (2, zI (zz_and (A_C_inAll_4 w a0 i5) (i5 : Int))), (3, zI (i5 : Int))]) rfl (by decide) rfl rfl dX0_inAll_36 rfl ?_
        refine z_iinc (pc' := 40) (ls' := [(0, zR 72), (1, zI a0), (2, zI (zz_and (A_C_inAll_4 w a0 i5) (i5 : Int))), (3, zI ((i5 : Int) + 1))]) 3 rfl (by decide) rfl rfl dX0_inAll_37 rfl ?_
        refine z_goto 4 dX0_inAll_40 (by decide) ?_
        exact ih
      · skip
        rw [if_pos c85] at ih
        refine z_iload_n (pc' := 30) 3 rfl rfl dX0_inAll_29 rfl ?_
        refine z_goto 36 dX0_inAll_30 (by decide) ?_
        refine z_istore_n (pc' := 37) (ls' := [(0, zR 72), (1, zI a0), (2, zI (i5 : Int)), (3, zI (i5 : Int))]) rfl (by decide) rfl rfl dX0_inAll_36 rfl ?_
        refine z_iinc (pc' := 40) (ls' := [(0, zR 72), (1, zI a0), (2, zI (i5 : Int)), (3, zI ((i5 : Int) + 1))]) 3 rfl (by decide) rfl rfl dX0_inAll_37 rfl ?_
        refine z_goto 4 dX0_inAll_40 (by decide) ?_
        exact ih
def A_C_mostOfASort_22 (w : z_Wd) (a0 : Int) (a1 : Int) : Nat → z_Wd
  | 0 => z_up (z_up (z_up w 75 0 0) 75 1 0) 75 2 0
  | i8 + 1 => if F_C_fits (A_C_mostOfASort_22 w a0 a1 i8) (i8 : Int) a1 = 0 then A_C_mostOfASort_22 w a0 a1 i8 else z_up (A_C_mostOfASort_22 w a0 a1 i8) 75 (((zz_and (zz_shr (i8 : Int) (F_Y_inFile (A_C_mostOfASort_22 w a0 a1 i8) a0 0)) 1) + (zz_and (zz_shr (i8 : Int) (F_Y_inFile (A_C_mostOfASort_22 w a0 a1 i8) a0 1)) 1)).toNat) (((A_C_mostOfASort_22 w a0 a1 i8) 75 (((zz_and (zz_shr (i8 : Int) (F_Y_inFile (A_C_mostOfASort_22 w a0 a1 i8) a0 0)) 1) + (zz_and (zz_shr (i8 : Int) (F_Y_inFile (A_C_mostOfASort_22 w a0 a1 i8) a0 1)) 1)).toNat)) + 1)
def P_C_mostOfASort (w : z_Wd) (a0 : Int) (a1 : Int) : Prop := (∀ i8 : Nat, i8 < ((((zz_shl 1 ((z_up (z_up (z_up w 75 0 0) 75 1 0) 75 2 0) 32 2)) - 1) + 1).toNat) → (-2147483648 ≤ (i8 : Int) ∧ (i8 : Int) < 2147483648) ∧ (-2147483648 ≤ (zz_shl 1 ((A_C_mostOfASort_22 w a0 a1 i8) 32 2)) - 1 ∧ (zz_shl 1 ((A_C_mostOfASort_22 w a0 a1 i8) 32 2)) - 1 < 2147483648) ∧ ((zz_shl 1 ((A_C_mostOfASort_22 w a0 a1 i8) 32 2)) - 1 = (zz_shl 1 ((z_up (z_up (z_up w 75 0 0) 75 1 0) 75 2 0) 32 2)) - 1) ∧ (P_C_fits (A_C_mostOfASort_22 w a0 a1 i8) (i8 : Int) a1) ∧ ((F_C_fits (A_C_mostOfASort_22 w a0 a1 i8) (i8 : Int) a1 = 0 → True) ∧ (¬ (F_C_fits (A_C_mostOfASort_22 w a0 a1 i8) (i8 : Int) a1 = 0) → ((P_Y_inFile (A_C_mostOfASort_22 w a0 a1 i8) a0 0) ∧ (P_Y_inFile (A_C_mostOfASort_22 w a0 a1 i8) a0 1)) ∧ (0 ≤ (zz_and (zz_shr (i8 : Int) (F_Y_inFile (A_C_mostOfASort_22 w a0 a1 i8) a0 0)) 1) + (zz_and (zz_shr (i8 : Int) (F_Y_inFile (A_C_mostOfASort_22 w a0 a1 i8) a0 1)) 1) ∧ (zz_and (zz_shr (i8 : Int) (F_Y_inFile (A_C_mostOfASort_22 w a0 a1 i8) a0 0)) 1) + (zz_and (zz_shr (i8 : Int) (F_Y_inFile (A_C_mostOfASort_22 w a0 a1 i8) a0 1)) 1) < 3)))) ∧ ((-2147483648 ≤ (((((zz_shl 1 ((z_up (z_up (z_up w 75 0 0) 75 1 0) 75 2 0) 32 2)) - 1) + 1).toNat : Nat) : Int) ∧ (((((zz_shl 1 ((z_up (z_up (z_up w 75 0 0) 75 1 0) 75 2 0) 32 2)) - 1) + 1).toNat : Nat) : Int) < 2147483648) ∧ (-2147483648 ≤ (zz_shl 1 ((A_C_mostOfASort_22 w a0 a1 (((zz_shl 1 ((z_up (z_up (z_up w 75 0 0) 75 1 0) 75 2 0) 32 2)) - 1) + 1).toNat) 32 2)) - 1 ∧ (zz_shl 1 ((A_C_mostOfASort_22 w a0 a1 (((zz_shl 1 ((z_up (z_up (z_up w 75 0 0) 75 1 0) 75 2 0) 32 2)) - 1) + 1).toNat) 32 2)) - 1 < 2147483648) ∧ ((zz_shl 1 ((A_C_mostOfASort_22 w a0 a1 (((zz_shl 1 ((z_up (z_up (z_up w 75 0 0) 75 1 0) 75 2 0) 32 2)) - 1) + 1).toNat) 32 2)) - 1 = (zz_shl 1 ((z_up (z_up (z_up w 75 0 0) 75 1 0) 75 2 0) 32 2)) - 1) ∧ (P_J_max_7cf53 (A_C_mostOfASort_22 w a0 a1 (((zz_shl 1 ((z_up (z_up (z_up w 75 0 0) 75 1 0) 75 2 0) 32 2)) - 1) + 1).toNat) ((A_C_mostOfASort_22 w a0 a1 (((zz_shl 1 ((z_up (z_up (z_up w 75 0 0) 75 1 0) 75 2 0) 32 2)) - 1) + 1).toNat) 75 1) ((A_C_mostOfASort_22 w a0 a1 (((zz_shl 1 ((z_up (z_up (z_up w 75 0 0) 75 1 0) 75 2 0) 32 2)) - 1) + 1).toNat) 75 2)) ∧ (P_J_max_7cf53 (A_C_mostOfASort_22 w a0 a1 (((zz_shl 1 ((z_up (z_up (z_up w 75 0 0) 75 1 0) 75 2 0) 32 2)) - 1) + 1).toNat) ((A_C_mostOfASort_22 w a0 a1 (((zz_shl 1 ((z_up (z_up (z_up w 75 0 0) 75 1 0) 75 2 0) 32 2)) - 1) + 1).toNat) 75 0) (F_J_max_7cf53 (A_C_mostOfASort_22 w a0 a1 (((zz_shl 1 ((z_up (z_up (z_up w 75 0 0) 75 1 0) 75 2 0) 32 2)) - 1) + 1).toNat) ((A_C_mostOfASort_22 w a0 a1 (((zz_shl 1 ((z_up (z_up (z_up w 75 0 0) 75 1 0) 75 2 0) 32 2)) - 1) + 1).toNat) 75 1) ((A_C_mostOfASort_22 w a0 a1 (((zz_shl 1 ((z_up (z_up (z_up w 75 0 0) 75 1 0) 75 2 0) 32 2)) - 1) + 1).toNat) 75 2))))
def F_C_mostOfASort (w : z_Wd) (a0 : Int) (a1 : Int) : Int × z_Wd := (F_J_max_7cf53 (A_C_mostOfASort_22 w a0 a1 (((zz_shl 1 ((z_up (z_up (z_up w 75 0 0) 75 1 0) 75 2 0) 32 2)) - 1) + 1).toNat) ((A_C_mostOfASort_22 w a0 a1 (((zz_shl 1 ((z_up (z_up (z_up w 75 0 0) 75 1 0) 75 2 0) 32 2)) - 1) + 1).toNat) 75 0) (F_J_max_7cf53 (A_C_mostOfASort_22 w a0 a1 (((zz_shl 1 ((z_up (z_up (z_up w 75 0 0) 75 1 0) 75 2 0) 32 2)) - 1) + 1).toNat) ((A_C_mostOfASort_22 w a0 a1 (((zz_shl 1 ((z_up (z_up (z_up w 75 0 0) 75 1 0) 75 2 0) 32 2)) - 1) + 1).toNat) 75 1) ((A_C_mostOfASort_22 w a0 a1 (((zz_shl 1 ((z_up (z_up (z_up w 75 0 0) 75 1 0) 75 2 0) 32 2)) - 1) + 1).toNat) 75 2)), A_C_mostOfASort_22 w a0 a1 (((zz_shl 1 ((z_up (z_up (z_up w 75 0 0) 75 1 0) 75 2 0) 32 2)) - 1) + 1).toNat)
set_option maxRecDepth 4000 in
theorem c_C_mostOfASort {d : Nat} {w : z_Wd} {a0 a1 : Int} {Q : Option z_V → z_Wd → Prop} (h : P_C_mostOfASort w a0 a1) (k : Q (some (zI (F_C_mostOfASort w a0 a1).1)) (F_C_mostOfASort w a0 a1).2) : z_Wc (d + 4) m_X0_mostOfASort [zR 72, zI a0, zI a1] w Q := by
  unfold P_C_mostOfASort at h
  unfold F_C_mostOfASort at k
  refine z_enter rfl (Nat.le_of_ble_eq_true rfl) ?_
  show z_Wp m_X0_mostOfASort _ 0 [(0, zR 72), (1, zI a0), (2, zI a1)] [] w _
  refine z_iconst (pc' := 1) dX0_mostOfASort_0 rfl ?_
  refine z_istore_n (pc' := 2) (ls' := [(0, zR 72), (1, zI a0), (2, zI a1), (3, zI 0)]) rfl (by decide) rfl rfl dX0_mostOfASort_1 rfl ?_
  refine z_iload_n (pc' := 3) 3 rfl rfl dX0_mostOfASort_2 rfl ?_
  refine z_iconst (pc' := 4) dX0_mostOfASort_3 rfl ?_
  refine z_icmp_gt 20 dX0_mostOfASort_4 (by decide) (pc' := 7) rfl (by decide) (by decide) (fun c => absurd c (by decide)) (fun _ => ?_)
  refine z_aload_n (pc' := 8) 0 rfl rfl dX0_mostOfASort_7 rfl ?_
  refine z_getR (t := 75) (pc' := 11) g_X0_18 (by decide) rfl rfl dX0_mostOfASort_8 rfl ?_
  refine z_iload_n (pc' := 12) 3 rfl rfl dX0_mostOfASort_11 rfl ?_
  refine z_iconst (pc' := 13) dX0_mostOfASort_12 rfl ?_
  refine z_iast2 (w' := z_up w 75 0 0) (pc' := 14) (by decide) rfl (by decide) (by decide) rfl dX0_mostOfASort_13 rfl ?_
  refine z_iinc (pc' := 17) (ls' := [(0, zR 72), (1, zI a0), (2, zI a1), (3, zI 1)]) 3 rfl (by decide) rfl rfl dX0_mostOfASort_14 rfl ?_
  refine z_goto 2 dX0_mostOfASort_17 (by decide) ?_
  refine z_iload_n (pc' := 3) 3 rfl rfl dX0_mostOfASort_2 rfl ?_
  refine z_iconst (pc' := 4) dX0_mostOfASort_3 rfl ?_
  refine z_icmp_gt 20 dX0_mostOfASort_4 (by decide) (pc' := 7) rfl (by decide) (by decide) (fun c => absurd c (by decide)) (fun _ => ?_)
  refine z_aload_n (pc' := 8) 0 rfl rfl dX0_mostOfASort_7 rfl ?_
  refine z_getR (t := 75) (pc' := 11) g_X0_18 (by decide) rfl rfl dX0_mostOfASort_8 rfl ?_
  refine z_iload_n (pc' := 12) 3 rfl rfl dX0_mostOfASort_11 rfl ?_
  refine z_iconst (pc' := 13) dX0_mostOfASort_12 rfl ?_
  refine z_iast2 (w' := z_up (z_up w 75 0 0) 75 1 0) (pc' := 14) (by decide) rfl (by decide) (by decide) rfl dX0_mostOfASort_13 rfl ?_
  refine z_iinc (pc' := 17) (ls' := [(0, zR 72), (1, zI a0), (2, zI a1), (3, zI 2)]) 3 rfl (by decide) rfl rfl dX0_mostOfASort_14 rfl ?_
  refine z_goto 2 dX0_mostOfASort_17 (by decide) ?_
  refine z_iload_n (pc' := 3) 3 rfl rfl dX0_mostOfASort_2 rfl ?_
  refine z_iconst (pc' := 4) dX0_mostOfASort_3 rfl ?_
  refine z_icmp_gt 20 dX0_mostOfASort_4 (by decide) (pc' := 7) rfl (by decide) (by decide) (fun c => absurd c (by decide)) (fun _ => ?_)
  refine z_aload_n (pc' := 8) 0 rfl rfl dX0_mostOfASort_7 rfl ?_
  refine z_getR (t := 75) (pc' := 11) g_X0_18 (by decide) rfl rfl dX0_mostOfASort_8 rfl ?_
  refine z_iload_n (pc' := 12) 3 rfl rfl dX0_mostOfASort_11 rfl ?_
  refine z_iconst (pc' := 13) dX0_mostOfASort_12 rfl ?_
  refine z_iast2 (w' := z_up (z_up (z_up w 75 0 0) 75 1 0) 75 2 0) (pc' := 14) (by decide) rfl (by decide) (by decide) rfl dX0_mostOfASort_13 rfl ?_
  refine z_iinc (pc' := 17) (ls' := [(0, zR 72), (1, zI a0), (2, zI a1), (3, zI 3)]) 3 rfl (by decide) rfl rfl dX0_mostOfASort_14 rfl ?_
  refine z_goto 2 dX0_mostOfASort_17 (by decide) ?_
  refine z_iload_n (pc' := 3) 3 rfl rfl dX0_mostOfASort_2 rfl ?_
  refine z_iconst (pc' := 4) dX0_mostOfASort_3 rfl ?_
  refine z_icmp_gt 20 dX0_mostOfASort_4 (by decide) (pc' := 7) rfl (by decide) (by decide) (fun _ => ?_) (fun c => absurd c (by decide))
  refine z_iconst (pc' := 21) dX0_mostOfASort_20 rfl ?_
  refine z_istore_n (pc' := 22) (ls' := [(0, zR 72), (1, zI a0), (2, zI a1), (3, zI 0)]) rfl (by decide) rfl rfl dX0_mostOfASort_21 rfl ?_
  refine z_upto ((((zz_shl 1 ((z_up (z_up (z_up w 75 0 0) 75 1 0) 75 2 0) 32 2)) - 1) + 1).toNat) (fun i8 => z_Wp m_X0_mostOfASort (d + 4) 22 [(0, zR 72), (1, zI a0), (2, zI a1), (3, zI (i8 : Int))] [] (A_C_mostOfASort_22 w a0 a1 i8) Q) ?_ ?_
  · skip
    have h := h.2
    refine z_iload_n (pc' := 23) 3 rfl rfl dX0_mostOfASort_22 rfl ?_
    refine z_aload_n (pc' := 24) 0 rfl rfl dX0_mostOfASort_23 rfl ?_
    refine z_getR (t := 30) (pc' := 27) g_X0_21 (by decide) rfl rfl dX0_mostOfASort_24 rfl ?_
    refine z_invV (as := []) (st := [zI (((((zz_shl 1 ((z_up (z_up (z_up w 75 0 0) 75 1 0) 75 2 0) 32 2)) - 1) + 1).toNat : Nat) : Int)]) (C := m_X6_all) (fs := [33, 34]) (pc' := 30) dX0_mostOfASort_27 rfl t_5_25 k_X6_all rfl (by decide) rfl rfl rfl rfl (Nat.le_of_ble_eq_true rfl) ?_
    refine c_Y_all ?_
    show z_Wp m_X0_mostOfASort _ 30 [(0, zR 72), (1, zI a0), (2, zI a1), (3, zI (((((zz_shl 1 ((z_up (z_up (z_up w 75 0 0) 75 1 0) 75 2 0) 32 2)) - 1) + 1).toNat : Nat) : Int))] [zI ((zz_shl 1 ((A_C_mostOfASort_22 w a0 a1 (((zz_shl 1 ((z_up (z_up (z_up w 75 0 0) 75 1 0) 75 2 0) 32 2)) - 1) + 1).toNat) 32 2)) - 1), zI (((((zz_shl 1 ((z_up (z_up (z_up w 75 0 0) 75 1 0) 75 2 0) 32 2)) - 1) + 1).toNat : Nat) : Int)] (A_C_mostOfASort_22 w a0 a1 (((zz_shl 1 ((z_up (z_up (z_up w 75 0 0) 75 1 0) 75 2 0) 32 2)) - 1) + 1).toNat) _
    obtain ⟨r15, h⟩ := h
    obtain ⟨r16, h⟩ := h
    obtain ⟨r17, h⟩ := h
    refine z_icmp_gt 66 dX0_mostOfASort_30 (by decide) (pc' := 33) rfl r15 r16 (fun _ => ?_) (fun c => absurd c (by first | omega | (rw [r17]; first | exact z_exitgt | exact z_exitge | omega)))
    refine z_aload_n (pc' := 67) 0 rfl rfl dX0_mostOfASort_66 rfl ?_
    refine z_getR (t := 75) (pc' := 70) g_X0_18 (by decide) rfl rfl dX0_mostOfASort_67 rfl ?_
    refine z_iconst (pc' := 71) dX0_mostOfASort_70 rfl ?_
    refine z_iald2 (v := (A_C_mostOfASort_22 w a0 a1 (((zz_shl 1 ((z_up (z_up (z_up w 75 0 0) 75 1 0) 75 2 0) 32 2)) - 1) + 1).toNat) 75 0) (pc' := 72) (by decide) rfl (by decide) (by decide) rfl dX0_mostOfASort_71 rfl ?_
    refine z_aload_n (pc' := 73) 0 rfl rfl dX0_mostOfASort_72 rfl ?_
    refine z_getR (t := 75) (pc' := 76) g_X0_18 (by decide) rfl rfl dX0_mostOfASort_73 rfl ?_
    refine z_iconst (pc' := 77) dX0_mostOfASort_76 rfl ?_
    refine z_iald2 (v := (A_C_mostOfASort_22 w a0 a1 (((zz_shl 1 ((z_up (z_up (z_up w 75 0 0) 75 1 0) 75 2 0) 32 2)) - 1) + 1).toNat) 75 1) (pc' := 78) (by decide) rfl (by decide) (by decide) rfl dX0_mostOfASort_77 rfl ?_
    refine z_aload_n (pc' := 79) 0 rfl rfl dX0_mostOfASort_78 rfl ?_
    refine z_getR (t := 75) (pc' := 82) g_X0_18 (by decide) rfl rfl dX0_mostOfASort_79 rfl ?_
    refine z_iconst (pc' := 83) dX0_mostOfASort_82 rfl ?_
    refine z_iald2 (v := (A_C_mostOfASort_22 w a0 a1 (((zz_shl 1 ((z_up (z_up (z_up w 75 0 0) 75 1 0) 75 2 0) 32 2)) - 1) + 1).toNat) 75 2) (pc' := 84) (by decide) rfl (by decide) (by decide) rfl dX0_mostOfASort_83 rfl ?_
    refine z_invS (as := [zI ((A_C_mostOfASort_22 w a0 a1 (((zz_shl 1 ((z_up (z_up (z_up w 75 0 0) 75 1 0) 75 2 0) 32 2)) - 1) + 1).toNat) 75 1), zI ((A_C_mostOfASort_22 w a0 a1 (((zz_shl 1 ((z_up (z_up (z_up w 75 0 0) 75 1 0) 75 2 0) 32 2)) - 1) + 1).toNat) 75 2)]) (st := [zI ((A_C_mostOfASort_22 w a0 a1 (((zz_shl 1 ((z_up (z_up (z_up w 75 0 0) 75 1 0) 75 2 0) 32 2)) - 1) + 1).toNat) 75 0)]) (C := m_J9_max_7cf53) (pc' := 87) dX0_mostOfASort_84 rfl t_5_57 k_J9_max_7cf53 rfl rfl (Nat.le_of_ble_eq_true rfl) ?_
    obtain ⟨r18, h⟩ := h
    refine c_J_max_7cf53 r18 ?_
    show z_Wp m_X0_mostOfASort _ 87 [(0, zR 72), (1, zI a0), (2, zI a1), (3, zI (((((zz_shl 1 ((z_up (z_up (z_up w 75 0 0) 75 1 0) 75 2 0) 32 2)) - 1) + 1).toNat : Nat) : Int))] [zI (F_J_max_7cf53 (A_C_mostOfASort_22 w a0 a1 (((zz_shl 1 ((z_up (z_up (z_up w 75 0 0) 75 1 0) 75 2 0) 32 2)) - 1) + 1).toNat) ((A_C_mostOfASort_22 w a0 a1 (((zz_shl 1 ((z_up (z_up (z_up w 75 0 0) 75 1 0) 75 2 0) 32 2)) - 1) + 1).toNat) 75 1) ((A_C_mostOfASort_22 w a0 a1 (((zz_shl 1 ((z_up (z_up (z_up w 75 0 0) 75 1 0) 75 2 0) 32 2)) - 1) + 1).toNat) 75 2)), zI ((A_C_mostOfASort_22 w a0 a1 (((zz_shl 1 ((z_up (z_up (z_up w 75 0 0) 75 1 0) 75 2 0) 32 2)) - 1) + 1).toNat) 75 0)] (A_C_mostOfASort_22 w a0 a1 (((zz_shl 1 ((z_up (z_up (z_up w 75 0 0) 75 1 0) 75 2 0) 32 2)) - 1) + 1).toNat) _
    refine z_invS (as := [zI ((A_C_mostOfASort_22 w a0 a1 (((zz_shl 1 ((z_up (z_up (z_up w 75 0 0) 75 1 0) 75 2 0) 32 2)) - 1) + 1).toNat) 75 0), zI (F_J_max_7cf53 (A_C_mostOfASort_22 w a0 a1 (((zz_shl 1 ((z_up (z_up (z_up w 75 0 0) 75 1 0) 75 2 0) 32 2)) - 1) + 1).toNat) ((A_C_mostOfASort_22 w a0 a1 (((zz_shl 1 ((z_up (z_up (z_up w 75 0 0) 75 1 0) 75 2 0) 32 2)) - 1) + 1).toNat) 75 1) ((A_C_mostOfASort_22 w a0 a1 (((zz_shl 1 ((z_up (z_up (z_up w 75 0 0) 75 1 0) 75 2 0) 32 2)) - 1) + 1).toNat) 75 2))]) (st := []) (C := m_J9_max_7cf53) (pc' := 90) dX0_mostOfASort_87 rfl t_5_57 k_J9_max_7cf53 rfl rfl (Nat.le_of_ble_eq_true rfl) ?_
    have r19 := h
    refine c_J_max_7cf53 r19 ?_
    show z_Wp m_X0_mostOfASort _ 90 [(0, zR 72), (1, zI a0), (2, zI a1), (3, zI (((((zz_shl 1 ((z_up (z_up (z_up w 75 0 0) 75 1 0) 75 2 0) 32 2)) - 1) + 1).toNat : Nat) : Int))] [zI (F_J_max_7cf53 (A_C_mostOfASort_22 w a0 a1 (((zz_shl 1 ((z_up (z_up (z_up w 75 0 0) 75 1 0) 75 2 0) 32 2)) - 1) + 1).toNat) ((A_C_mostOfASort_22 w a0 a1 (((zz_shl 1 ((z_up (z_up (z_up w 75 0 0) 75 1 0) 75 2 0) 32 2)) - 1) + 1).toNat) 75 0) (F_J_max_7cf53 (A_C_mostOfASort_22 w a0 a1 (((zz_shl 1 ((z_up (z_up (z_up w 75 0 0) 75 1 0) 75 2 0) 32 2)) - 1) + 1).toNat) ((A_C_mostOfASort_22 w a0 a1 (((zz_shl 1 ((z_up (z_up (z_up w 75 0 0) 75 1 0) 75 2 0) 32 2)) - 1) + 1).toNat) 75 1) ((A_C_mostOfASort_22 w a0 a1 (((zz_shl 1 ((z_up (z_up (z_up w 75 0 0) 75 1 0) 75 2 0) 32 2)) - 1) + 1).toNat) 75 2)))] (A_C_mostOfASort_22 w a0 a1 (((zz_shl 1 ((z_up (z_up (z_up w 75 0 0) 75 1 0) 75 2 0) 32 2)) - 1) + 1).toNat) _
    refine z_iret rfl dX0_mostOfASort_90 ?_
    exact k
  · intro i8 hi ih
    have h := h.1 i8 hi
    have ih : z_Wp m_X0_mostOfASort (d + 4) 22 [(0, zR 72), (1, zI a0), (2, zI a1), (3, zI ((i8 + 1 : Nat) : Int))] [] (if F_C_fits (A_C_mostOfASort_22 w a0 a1 i8) (i8 : Int) a1 = 0 then A_C_mostOfASort_22 w a0 a1 i8 else z_up (A_C_mostOfASort_22 w a0 a1 i8) 75 (((zz_and (zz_shr (i8 : Int) (F_Y_inFile (A_C_mostOfASort_22 w a0 a1 i8) a0 0)) 1) + (zz_and (zz_shr (i8 : Int) (F_Y_inFile (A_C_mostOfASort_22 w a0 a1 i8) a0 1)) 1)).toNat) (((A_C_mostOfASort_22 w a0 a1 i8) 75 (((zz_and (zz_shr (i8 : Int) (F_Y_inFile (A_C_mostOfASort_22 w a0 a1 i8) a0 0)) 1) + (zz_and (zz_shr (i8 : Int) (F_Y_inFile (A_C_mostOfASort_22 w a0 a1 i8) a0 1)) 1)).toNat)) + 1)) Q := ih
    refine z_iload_n (pc' := 23) 3 rfl rfl dX0_mostOfASort_22 rfl ?_
    refine z_aload_n (pc' := 24) 0 rfl rfl dX0_mostOfASort_23 rfl ?_
    refine z_getR (t := 30) (pc' := 27) g_X0_21 (by decide) rfl rfl dX0_mostOfASort_24 rfl ?_
    refine z_invV (as := []) (st := [zI (i8 : Int)]) (C := m_X6_all) (fs := [33, 34]) (pc' := 30) dX0_mostOfASort_27 rfl t_5_25 k_X6_all rfl (by decide) rfl rfl rfl rfl (Nat.le_of_ble_eq_true rfl) ?_
    refine c_Y_all ?_
    show z_Wp m_X0_mostOfASort _ 30 [(0, zR 72), (1, zI a0), (2, zI a1), (3, zI (i8 : Int))] [zI ((zz_shl 1 ((A_C_mostOfASort_22 w a0 a1 i8) 32 2)) - 1), zI (i8 : Int)] (A_C_mostOfASort_22 w a0 a1 i8) _
    obtain ⟨r9, h⟩ := h
    obtain ⟨r10, h⟩ := h
    obtain ⟨r11, h⟩ := h
    refine z_icmp_gt 66 dX0_mostOfASort_30 (by decide) (pc' := 33) rfl r9 r10 (fun c => absurd c (by first | omega | (rw [r11]; first | exact z_exitgt | exact z_exitge | omega))) (fun _ => ?_)
    refine z_aload_n (pc' := 34) 0 rfl rfl dX0_mostOfASort_33 rfl ?_
    refine z_iload_n (pc' := 35) 3 rfl rfl dX0_mostOfASort_34 rfl ?_
    refine z_iload_n (pc' := 36) 2 rfl rfl dX0_mostOfASort_35 rfl ?_
    refine z_invV (as := [zI (i8 : Int), zI a1]) (st := []) (C := m_X0_fits) (fs := [32, 75, 76, 77, 0]) (pc' := 39) dX0_mostOfASort_36 rfl t_5_26 k_X0_fits rfl (by decide) rfl rfl rfl rfl (Nat.le_of_ble_eq_true rfl) ?_
    obtain ⟨r12, h⟩ := h
    refine c_C_fits r12 ?_
    show z_Wp m_X0_mostOfASort _ 39 [(0, zR 72), (1, zI a0), (2, zI a1), (3, zI (i8 : Int))] [zI (F_C_fits (A_C_mostOfASort_22 w a0 a1 i8) (i8 : Int) a1)] (A_C_mostOfASort_22 w a0 a1 i8) _
    refine z_if_eq 60 dX0_mostOfASort_39 (by decide) (pc' := 42) rfl (z_rb b_C_fits) (fun c86 => ?_) (fun c86 => ?_)
    · have h := h.1 c86
      rw [if_pos c86] at ih
      refine z_iinc (pc' := 63) (ls' := [(0, zR 72), (1, zI a0), (2, zI a1), (3, zI ((i8 : Int) + 1))]) 3 rfl (by decide) rfl rfl dX0_mostOfASort_60 rfl ?_
      refine z_goto 22 dX0_mostOfASort_63 (by decide) ?_
      exact ih
    · have h := h.2 c86
      rw [if_neg c86] at ih
      refine z_aload_n (pc' := 43) 0 rfl rfl dX0_mostOfASort_42 rfl ?_
      refine z_getR (t := 75) (pc' := 46) g_X0_18 (by decide) rfl rfl dX0_mostOfASort_43 rfl ?_
      refine z_aload_n (pc' := 47) 0 rfl rfl dX0_mostOfASort_46 rfl ?_
      refine z_getR (t := 30) (pc' := 50) g_X0_21 (by decide) rfl rfl dX0_mostOfASort_47 rfl ?_
      refine z_iload_n (pc' := 51) 1 rfl rfl dX0_mostOfASort_50 rfl ?_
      refine z_iload_n (pc' := 52) 3 rfl rfl dX0_mostOfASort_51 rfl ?_
      refine z_invV (as := [zI a0, zI (i8 : Int)]) (st := [zR 75]) (C := m_X6_gaps) (fs := [33, 34]) (pc' := 55) dX0_mostOfASort_52 rfl t_5_31 k_X6_gaps rfl (by decide) rfl rfl rfl rfl (Nat.le_of_ble_eq_true rfl) ?_
      obtain ⟨r13, h⟩ := h
      refine c_Y_gaps r13 ?_
      show z_Wp m_X0_mostOfASort _ 55 [(0, zR 72), (1, zI a0), (2, zI a1), (3, zI (i8 : Int))] [zI ((zz_and (zz_shr (i8 : Int) (F_Y_inFile (A_C_mostOfASort_22 w a0 a1 i8) a0 0)) 1) + (zz_and (zz_shr (i8 : Int) (F_Y_inFile (A_C_mostOfASort_22 w a0 a1 i8) a0 1)) 1)), zR 75] (A_C_mostOfASort_22 w a0 a1 i8) _
      refine z_dup2 (pc' := 56) rfl rfl dX0_mostOfASort_55 rfl ?_
      have r14 := h
      refine z_iald2 (v := (A_C_mostOfASort_22 w a0 a1 i8) 75 (((zz_and (zz_shr (i8 : Int) (F_Y_inFile (A_C_mostOfASort_22 w a0 a1 i8) a0 0)) 1) + (zz_and (zz_shr (i8 : Int) (F_Y_inFile (A_C_mostOfASort_22 w a0 a1 i8) a0 1)) 1)).toNat)) (pc' := 57) (by decide) rfl r14 (by decide) rfl dX0_mostOfASort_56 rfl ?_
      refine z_iconst (pc' := 58) dX0_mostOfASort_57 rfl ?_
      refine z_iadd (pc' := 59) dX0_mostOfASort_58 rfl ?_
      refine z_iast2 (w' := z_up (A_C_mostOfASort_22 w a0 a1 i8) 75 (((zz_and (zz_shr (i8 : Int) (F_Y_inFile (A_C_mostOfASort_22 w a0 a1 i8) a0 0)) 1) + (zz_and (zz_shr (i8 : Int) (F_Y_inFile (A_C_mostOfASort_22 w a0 a1 i8) a0 1)) 1)).toNat) (((A_C_mostOfASort_22 w a0 a1 i8) 75 (((zz_and (zz_shr (i8 : Int) (F_Y_inFile (A_C_mostOfASort_22 w a0 a1 i8) a0 0)) 1) + (zz_and (zz_shr (i8 : Int) (F_Y_inFile (A_C_mostOfASort_22 w a0 a1 i8) a0 1)) 1)).toNat)) + 1)) (pc' := 60) (by decide) rfl r14 (by decide) rfl dX0_mostOfASort_59 rfl ?_
      refine z_iinc (pc' := 63) (ls' := [(0, zR 72), (1, zI a0), (2, zI a1), (3, zI ((i8 : Int) + 1))]) 3 rfl (by decide) rfl rfl dX0_mostOfASort_60 rfl ?_
      refine z_goto 22 dX0_mostOfASort_63 (by decide) ?_
      exact ih
def A_K_start_30 (w : z_Wd)  (sw : z_Wd): Nat → z_Wd
  | 0 => sw
  | i19 + 1 => z_up (A_K_start_30 w sw i19) 44 ((i19 : Int).toNat) (F_Y_value (A_K_start_30 w sw i19) 1 (i19 : Int) 0)
def A_K_start_2 (w : z_Wd)  : Nat → z_Wd
  | 0 => w
  | i12 + 1 => z_up (z_up (A_K_start_2 w i12) 42 ((i12 : Int).toNat) (-1)) 43 ((i12 : Int).toNat) 0
def P_K_start (w : z_Wd)  : Prop := (∀ i12 : Nat, i12 < 7 → (-2147483648 ≤ (i12 : Int) ∧ (i12 : Int) < 2147483648) ∧ (0 ≤ (i12 : Int) ∧ (i12 : Int) < 7)) ∧ ((∀ i19 : Nat, i19 < 4 → (-2147483648 ≤ (i19 : Int) ∧ (i19 : Int) < 2147483648) ∧ (P_Y_value (A_K_start_30 w (A_K_start_2 w 7) i19) 1 (i19 : Int) 0) ∧ (0 ≤ (i19 : Int) ∧ (i19 : Int) < 4)) ∧ (P_Y_value (A_K_start_30 w (A_K_start_2 w 7) 4) 0 0 1))
def F_K_start (w : z_Wd)  : z_Wd := z_up (z_up (z_up (A_K_start_30 w (A_K_start_2 w 7) 4) 41 6 (F_Y_value (A_K_start_30 w (A_K_start_2 w 7) 4) 0 0 1)) 41 7 0) 41 8 0
set_option maxRecDepth 4000 in
theorem c_K_start {d : Nat} {w : z_Wd} {Q : Option z_V → z_Wd → Prop} (h : P_K_start w ) (k : Q none (F_K_start w )) : z_Wc (d + 2) m_X3_start [zR 41] w Q := by
  unfold P_K_start at h
  unfold F_K_start at k
  refine z_enter rfl (Nat.le_of_ble_eq_true rfl) ?_
  show z_Wp m_X3_start _ 0 [(0, zR 41)] [] w _
  refine z_iconst (pc' := 1) dX3_start_0 rfl ?_
  refine z_istore_n (pc' := 2) (ls' := [(0, zR 41), (1, zI 0)]) rfl (by decide) rfl rfl dX3_start_1 rfl ?_
  refine z_upto 7 (fun i12 => z_Wp m_X3_start (d + 2) 2 [(0, zR 41), (1, zI (i12 : Int))] [] (A_K_start_2 w i12) Q) ?_ ?_
  · skip
    have h := h.2
    refine z_iload_n (pc' := 3) 1 rfl rfl dX3_start_2 rfl ?_
    refine z_bipush (pc' := 5) (by decide) dX3_start_3 rfl ?_
    refine z_icmp_ge 28 dX3_start_5 (by decide) (pc' := 8) rfl (by decide) (by decide) (fun _ => ?_) (fun c => absurd c (by decide))
    refine z_iconst (pc' := 29) dX3_start_28 rfl ?_
    refine z_istore_n (pc' := 30) (ls' := [(0, zR 41), (1, zI 0)]) rfl (by decide) rfl rfl dX3_start_29 rfl ?_
    refine z_upto 4 (fun i19 => z_Wp m_X3_start (d + 2) 30 [(0, zR 41), (1, zI (i19 : Int))] [] (A_K_start_30 w (A_K_start_2 w 7) i19) Q) ?_ ?_
    · skip
      have h := h.2
      refine z_iload_n (pc' := 31) 1 rfl rfl dX3_start_30 rfl ?_
      refine z_iconst (pc' := 32) dX3_start_31 rfl ?_
      refine z_icmp_ge 55 dX3_start_32 (by decide) (pc' := 35) rfl (by decide) (by decide) (fun _ => ?_) (fun c => absurd c (by decide))
      refine z_aload_n (pc' := 56) 0 rfl rfl dX3_start_55 rfl ?_
      refine z_aload_n (pc' := 57) 0 rfl rfl dX3_start_56 rfl ?_
      refine z_getR (t := 30) (pc' := 60) g_X3_31 (by decide) rfl rfl dX3_start_57 rfl ?_
      refine z_invV (as := []) (st := [zR 41]) (C := m_X6_firstCoins) (fs := [33, 34]) (pc' := 63) dX3_start_60 rfl t_3_57 k_X6_firstCoins rfl (by decide) rfl rfl rfl rfl (Nat.le_of_ble_eq_true rfl) ?_
      have r23 := h
      refine c_Y_firstCoins r23 ?_
      show z_Wp m_X3_start _ 63 [(0, zR 41), (1, zI 4)] [zI (F_Y_value (A_K_start_30 w (A_K_start_2 w 7) 4) 0 0 1), zR 41] (A_K_start_30 w (A_K_start_2 w 7) 4) _
      refine z_putI (pc' := 66) p_X3_43 (by decide) rfl rfl rfl rfl dX3_start_63 rfl ?_
      refine z_aload_n (pc' := 67) 0 rfl rfl dX3_start_66 rfl ?_
      refine z_iconst (pc' := 68) dX3_start_67 rfl ?_
      refine z_putI (pc' := 71) p_X3_47 (by decide) rfl rfl rfl rfl dX3_start_68 rfl ?_
      refine z_aload_n (pc' := 72) 0 rfl rfl dX3_start_71 rfl ?_
      refine z_iconst (pc' := 73) dX3_start_72 rfl ?_
      refine z_putI (pc' := 76) p_X3_50 (by decide) rfl rfl rfl rfl dX3_start_73 rfl ?_
      refine z_vret rfl dX3_start_76 ?_
      exact k
    · intro i19 hi ih
      have h := h.1 i19 hi
      have ih : z_Wp m_X3_start (d + 2) 30 [(0, zR 41), (1, zI ((i19 + 1 : Nat) : Int))] [] (z_up (A_K_start_30 w (A_K_start_2 w 7) i19) 44 ((i19 : Int).toNat) (F_Y_value (A_K_start_30 w (A_K_start_2 w 7) i19) 1 (i19 : Int) 0)) Q := ih
      refine z_iload_n (pc' := 31) 1 rfl rfl dX3_start_30 rfl ?_
      refine z_iconst (pc' := 32) dX3_start_31 rfl ?_
      obtain ⟨r20, h⟩ := h
      refine z_icmp_ge 55 dX3_start_32 (by decide) (pc' := 35) rfl r20 (by decide) (fun c => absurd c (by omega)) (fun _ => ?_)
      refine z_aload_n (pc' := 36) 0 rfl rfl dX3_start_35 rfl ?_
      refine z_getR (t := 44) (pc' := 39) g_X3_22 (by decide) rfl rfl dX3_start_36 rfl ?_
      refine z_iload_n (pc' := 40) 1 rfl rfl dX3_start_39 rfl ?_
      refine z_aload_n (pc' := 41) 0 rfl rfl dX3_start_40 rfl ?_
      refine z_getR (t := 30) (pc' := 44) g_X3_31 (by decide) rfl rfl dX3_start_41 rfl ?_
      refine z_iload_n (pc' := 45) 1 rfl rfl dX3_start_44 rfl ?_
      refine z_invV (as := [zI (i19 : Int)]) (st := [zI (i19 : Int), zR 44]) (C := m_X6_firstDepth) (fs := [33, 34]) (pc' := 48) dX3_start_45 rfl t_3_53 k_X6_firstDepth rfl (by decide) rfl rfl rfl rfl (Nat.le_of_ble_eq_true rfl) ?_
      obtain ⟨r21, h⟩ := h
      refine c_Y_firstDepth r21 ?_
      show z_Wp m_X3_start _ 48 [(0, zR 41), (1, zI (i19 : Int))] [zI (F_Y_value (A_K_start_30 w (A_K_start_2 w 7) i19) 1 (i19 : Int) 0), zI (i19 : Int), zR 44] (A_K_start_30 w (A_K_start_2 w 7) i19) _
      have r22 := h
      refine z_iast2 (w' := z_up (A_K_start_30 w (A_K_start_2 w 7) i19) 44 ((i19 : Int).toNat) (F_Y_value (A_K_start_30 w (A_K_start_2 w 7) i19) 1 (i19 : Int) 0)) (pc' := 49) (by decide) rfl r22 (by decide) rfl dX3_start_48 rfl ?_
      refine z_iinc (pc' := 52) (ls' := [(0, zR 41), (1, zI ((i19 : Int) + 1))]) 1 rfl (by decide) rfl rfl dX3_start_49 rfl ?_
      refine z_goto 30 dX3_start_52 (by decide) ?_
      exact ih
  · intro i12 hi ih
    have h := h.1 i12 hi
    have ih : z_Wp m_X3_start (d + 2) 2 [(0, zR 41), (1, zI ((i12 + 1 : Nat) : Int))] [] (z_up (z_up (A_K_start_2 w i12) 42 ((i12 : Int).toNat) (-1)) 43 ((i12 : Int).toNat) 0) Q := ih
    refine z_iload_n (pc' := 3) 1 rfl rfl dX3_start_2 rfl ?_
    refine z_bipush (pc' := 5) (by decide) dX3_start_3 rfl ?_
    obtain ⟨r13, h⟩ := h
    refine z_icmp_ge 28 dX3_start_5 (by decide) (pc' := 8) rfl r13 (by decide) (fun c => absurd c (by omega)) (fun _ => ?_)
    refine z_aload_n (pc' := 9) 0 rfl rfl dX3_start_8 rfl ?_
    refine z_getR (t := 42) (pc' := 12) g_X3_15 (by decide) rfl rfl dX3_start_9 rfl ?_
    refine z_iload_n (pc' := 13) 1 rfl rfl dX3_start_12 rfl ?_
    refine z_iconst (pc' := 14) dX3_start_13 rfl ?_
    have r14 := h
    refine z_iast2 (w' := z_up (A_K_start_2 w i12) 42 ((i12 : Int).toNat) (-1)) (pc' := 15) (by decide) rfl r14 (by decide) rfl dX3_start_14 rfl ?_
    refine z_aload_n (pc' := 16) 0 rfl rfl dX3_start_15 rfl ?_
    refine z_getR (t := 43) (pc' := 19) g_X3_19 (by decide) rfl rfl dX3_start_16 rfl ?_
    refine z_iload_n (pc' := 20) 1 rfl rfl dX3_start_19 rfl ?_
    refine z_iconst (pc' := 21) dX3_start_20 rfl ?_
    refine z_iast2 (w' := z_up (z_up (A_K_start_2 w i12) 42 ((i12 : Int).toNat) (-1)) 43 ((i12 : Int).toNat) 0) (pc' := 22) (by decide) rfl r14 (by decide) rfl dX3_start_21 rfl ?_
    refine z_iinc (pc' := 25) (ls' := [(0, zR 41), (1, zI ((i12 : Int) + 1))]) 1 rfl (by decide) rfl rfl dX3_start_22 rfl ?_
    refine z_goto 2 dX3_start_25 (by decide) ?_
    exact ih
def P_K_depth (w : z_Wd) (a0 : Int) : Prop := (P_Y_hasWell w a0) ∧ ((F_Y_hasWell w a0 = 0 → True) ∧ (¬ (F_Y_hasWell w a0 = 0) → 0 ≤ a0 ∧ a0 < 4))
def F_K_depth (w : z_Wd) (a0 : Int) : Int := if F_Y_hasWell w a0 = 0 then 0 else w 44 a0.toNat
set_option maxRecDepth 4000 in
theorem c_K_depth {d : Nat} {w : z_Wd} {a0 : Int} {Q : Option z_V → z_Wd → Prop} (h : P_K_depth w a0) (k : Q (some (zI (F_K_depth w a0))) w) : z_Wc (d + 1) m_X3_depth [zR 41, zI a0] w Q := by
  unfold P_K_depth at h
  unfold F_K_depth at k
  refine z_enter rfl (Nat.le_of_ble_eq_true rfl) ?_
  show z_Wp m_X3_depth _ 0 [(0, zR 41), (1, zI a0)] [] w _
  refine z_aload_n (pc' := 1) 0 rfl rfl dX3_depth_0 rfl ?_
  refine z_getR (t := 30) (pc' := 4) g_X3_31 (by decide) rfl rfl dX3_depth_1 rfl ?_
  refine z_iload_n (pc' := 5) 1 rfl rfl dX3_depth_4 rfl ?_
  refine z_invV (as := [zI a0]) (st := []) (C := m_X6_hasWell) (fs := [33, 34]) (pc' := 8) dX3_depth_5 rfl t_3_119 k_X6_hasWell rfl (by decide) rfl rfl rfl rfl (Nat.le_of_ble_eq_true rfl) ?_
  obtain ⟨r1, h⟩ := h
  refine c_Y_hasWell r1 ?_
  show z_Wp m_X3_depth _ 8 [(0, zR 41), (1, zI a0)] [zI (F_Y_hasWell w a0)] w _
  refine z_if_eq 20 dX3_depth_8 (by decide) (pc' := 11) rfl (z_rb b_Y_hasWell) (fun c => ?_) (fun c => ?_)
  · have h := h.1 c
    rw [if_pos c] at k
    refine z_iconst (pc' := 21) dX3_depth_20 rfl ?_
    refine z_iret rfl dX3_depth_21 ?_
    exact k
  · have h := h.2 c
    rw [if_neg c] at k
    refine z_aload_n (pc' := 12) 0 rfl rfl dX3_depth_11 rfl ?_
    refine z_getR (t := 44) (pc' := 15) g_X3_22 (by decide) rfl rfl dX3_depth_12 rfl ?_
    refine z_iload_n (pc' := 16) 1 rfl rfl dX3_depth_15 rfl ?_
    have r2 := h
    refine z_iald2 (v := w 44 a0.toNat) (pc' := 17) (by decide) rfl r2 (by decide) rfl dX3_depth_16 rfl ?_
    refine z_goto 21 dX3_depth_17 (by decide) ?_
    refine z_iret rfl dX3_depth_21 ?_
    exact k
def P_K_wellOf (w : z_Wd) (a0 : Int) : Prop := (P_Y_hasName w a0) ∧ ((F_Y_hasName w a0 = 0 → True) ∧ (¬ (F_Y_hasName w a0 = 0) → 0 ≤ a0 ∧ a0 < 7))
def F_K_wellOf (w : z_Wd) (a0 : Int) : Int := if F_Y_hasName w a0 = 0 then (-1) else w 42 a0.toNat
set_option maxRecDepth 4000 in
theorem c_K_wellOf {d : Nat} {w : z_Wd} {a0 : Int} {Q : Option z_V → z_Wd → Prop} (h : P_K_wellOf w a0) (k : Q (some (zI (F_K_wellOf w a0))) w) : z_Wc (d + 1) m_X3_wellOf [zR 41, zI a0] w Q := by
  unfold P_K_wellOf at h
  unfold F_K_wellOf at k
  refine z_enter rfl (Nat.le_of_ble_eq_true rfl) ?_
  show z_Wp m_X3_wellOf _ 0 [(0, zR 41), (1, zI a0)] [] w _
  refine z_aload_n (pc' := 1) 0 rfl rfl dX3_wellOf_0 rfl ?_
  refine z_getR (t := 30) (pc' := 4) g_X3_31 (by decide) rfl rfl dX3_wellOf_1 rfl ?_
  refine z_iload_n (pc' := 5) 1 rfl rfl dX3_wellOf_4 rfl ?_
  refine z_invV (as := [zI a0]) (st := []) (C := m_X6_hasName) (fs := [33, 34]) (pc' := 8) dX3_wellOf_5 rfl t_3_191 k_X6_hasName rfl (by decide) rfl rfl rfl rfl (Nat.le_of_ble_eq_true rfl) ?_
  obtain ⟨r1, h⟩ := h
  refine c_Y_hasName r1 ?_
  show z_Wp m_X3_wellOf _ 8 [(0, zR 41), (1, zI a0)] [zI (F_Y_hasName w a0)] w _
  refine z_if_eq 20 dX3_wellOf_8 (by decide) (pc' := 11) rfl (z_rb b_Y_hasName) (fun c => ?_) (fun c => ?_)
  · have h := h.1 c
    rw [if_pos c] at k
    refine z_iconst (pc' := 21) dX3_wellOf_20 rfl ?_
    refine z_iret rfl dX3_wellOf_21 ?_
    exact k
  · have h := h.2 c
    rw [if_neg c] at k
    refine z_aload_n (pc' := 12) 0 rfl rfl dX3_wellOf_11 rfl ?_
    refine z_getR (t := 42) (pc' := 15) g_X3_15 (by decide) rfl rfl dX3_wellOf_12 rfl ?_
    refine z_iload_n (pc' := 16) 1 rfl rfl dX3_wellOf_15 rfl ?_
    have r2 := h
    refine z_iald2 (v := w 42 a0.toNat) (pc' := 17) (by decide) rfl r2 (by decide) rfl dX3_wellOf_16 rfl ?_
    refine z_goto 21 dX3_wellOf_17 (by decide) ?_
    refine z_iret rfl dX3_wellOf_21 ?_
    exact k
def P_K_isFree (w : z_Wd) (a0 : Int) : Prop := (P_K_wellOf w a0) ∧ (-2147483648 ≤ F_K_wellOf w a0 ∧ F_K_wellOf w a0 < 2147483648)
def F_K_isFree (w : z_Wd) (a0 : Int) : Int := if F_K_wellOf w a0 = (-1) then 1 else 0
set_option maxRecDepth 4000 in
theorem c_K_isFree {d : Nat} {w : z_Wd} {a0 : Int} {Q : Option z_V → z_Wd → Prop} (h : P_K_isFree w a0) (k : Q (some (zI (F_K_isFree w a0))) w) : z_Wc (d + 2) m_X3_isFree [zR 41, zI a0] w Q := by
  unfold P_K_isFree at h
  unfold F_K_isFree at k
  refine z_enter rfl (Nat.le_of_ble_eq_true rfl) ?_
  show z_Wp m_X3_isFree _ 0 [(0, zR 41), (1, zI a0)] [] w _
  refine z_aload_n (pc' := 1) 0 rfl rfl dX3_isFree_0 rfl ?_
  refine z_iload_n (pc' := 2) 1 rfl rfl dX3_isFree_1 rfl ?_
  refine z_invV (as := [zI a0]) (st := []) (C := m_X3_wellOf) (fs := [32, 44, 45, 46, 47, 48, 0, 0, 0]) (pc' := 5) dX3_isFree_2 rfl t_3_187 k_X3_wellOf rfl (by decide) rfl rfl rfl rfl (Nat.le_of_ble_eq_true rfl) ?_
  obtain ⟨r1, h⟩ := h
  refine c_K_wellOf r1 ?_
  show z_Wp m_X3_isFree _ 5 [(0, zR 41), (1, zI a0)] [zI (F_K_wellOf w a0)] w _
  refine z_iconst (pc' := 6) dX3_isFree_5 rfl ?_
  have r2 := h
  refine z_icmp_ne 13 dX3_isFree_6 (by decide) (pc' := 9) rfl r2 (by decide) (fun c => ?_) (fun c => ?_)
  · skip
    rw [if_neg c] at k
    refine z_iconst (pc' := 14) dX3_isFree_13 rfl ?_
    refine z_zret rfl (by decide) dX3_isFree_14 ?_
    exact k
  · skip
    rw [if_pos c] at k
    refine z_iconst (pc' := 10) dX3_isFree_9 rfl ?_
    refine z_goto 14 dX3_isFree_10 (by decide) ?_
    refine z_zret rfl (by decide) dX3_isFree_14 ?_
    exact k
theorem b_K_isFree {w : z_Wd} {a0 : Int} : F_K_isFree w a0 = 0 ∨ F_K_isFree w a0 = 1 := by
  unfold F_K_isFree
  (repeat' split) <;> first | exact Or.inl rfl | exact Or.inr rfl
def A_K_inside_4 (w : z_Wd) (a0 : Int) : Nat → Int
  | 0 => 0
  | i6 + 1 => if w 42 ((i6 : Int).toNat) = a0 then zz_or (A_K_inside_4 w a0 i6) (zz_shl 1 (i6 : Int)) else A_K_inside_4 w a0 i6
def P_K_inside (w : z_Wd) (a0 : Int) : Prop := (∀ i6 : Nat, i6 < ((w 32 2).toNat) → (-2147483648 ≤ (i6 : Int) ∧ (i6 : Int) < 2147483648) ∧ (-2147483648 ≤ w 32 2 ∧ w 32 2 < 2147483648) ∧ (0 ≤ (i6 : Int) ∧ (i6 : Int) < 7) ∧ (-2147483648 ≤ w 42 ((i6 : Int).toNat) ∧ w 42 ((i6 : Int).toNat) < 2147483648) ∧ (-2147483648 ≤ a0 ∧ a0 < 2147483648)) ∧ ((-2147483648 ≤ (((w 32 2).toNat : Nat) : Int) ∧ (((w 32 2).toNat : Nat) : Int) < 2147483648) ∧ (-2147483648 ≤ w 32 2 ∧ w 32 2 < 2147483648))
def F_K_inside (w : z_Wd) (a0 : Int) : Int := A_K_inside_4 w a0 (w 32 2).toNat
set_option maxRecDepth 4000 in
theorem c_K_inside {d : Nat} {w : z_Wd} {a0 : Int} {Q : Option z_V → z_Wd → Prop} (h : P_K_inside w a0) (k : Q (some (zI (F_K_inside w a0))) w) : z_Wc (d + 1) m_X3_inside [zR 41, zI a0] w Q := by
  unfold P_K_inside at h
  unfold F_K_inside at k
  refine z_enter rfl (Nat.le_of_ble_eq_true rfl) ?_
  show z_Wp m_X3_inside _ 0 [(0, zR 41), (1, zI a0)] [] w _
  refine z_iconst (pc' := 1) dX3_inside_0 rfl ?_
  refine z_istore_n (pc' := 2) (ls' := [(0, zR 41), (1, zI a0), (2, zI 0)]) rfl (by decide) rfl rfl dX3_inside_1 rfl ?_
  refine z_iconst (pc' := 3) dX3_inside_2 rfl ?_
  refine z_istore_n (pc' := 4) (ls' := [(0, zR 41), (1, zI a0), (2, zI 0), (3, zI 0)]) rfl (by decide) rfl rfl dX3_inside_3 rfl ?_
  refine z_upto ((w 32 2).toNat) (fun i6 => z_Wp m_X3_inside (d + 1) 4 [(0, zR 41), (1, zI a0), (2, zI (A_K_inside_4 w a0 i6)), (3, zI (i6 : Int))] [] w Q) ?_ ?_
  · skip
    have h := h.2
    refine z_iload_n (pc' := 5) 3 rfl rfl dX3_inside_4 rfl ?_
    refine z_aload_n (pc' := 6) 0 rfl rfl dX3_inside_5 rfl ?_
    refine z_getR (t := 30) (pc' := 9) g_X3_31 (by decide) rfl rfl dX3_inside_6 rfl ?_
    refine z_invV (as := []) (st := [zI (((w 32 2).toNat : Nat) : Int)]) (C := m_X6_names) (fs := [33, 34]) (pc' := 12) dX3_inside_9 rfl t_3_133 k_X6_names rfl (by decide) rfl rfl rfl rfl (Nat.le_of_ble_eq_true rfl) ?_
    refine c_Y_names ?_
    show z_Wp m_X3_inside _ 12 [(0, zR 41), (1, zI a0), (2, zI (A_K_inside_4 w a0 (w 32 2).toNat)), (3, zI (((w 32 2).toNat : Nat) : Int))] [zI (w 32 2), zI (((w 32 2).toNat : Nat) : Int)] w _
    obtain ⟨r12, h⟩ := h
    have r13 := h
    refine z_icmp_ge 37 dX3_inside_12 (by decide) (pc' := 15) rfl r12 r13 (fun _ => ?_) (fun c => absurd c (by omega))
    refine z_iload_n (pc' := 38) 2 rfl rfl dX3_inside_37 rfl ?_
    refine z_iret rfl dX3_inside_38 ?_
    exact k
  · intro i6 hi ih
    have h := h.1 i6 hi
    have ih : z_Wp m_X3_inside (d + 1) 4 [(0, zR 41), (1, zI a0), (2, zI (if w 42 ((i6 : Int).toNat) = a0 then zz_or (A_K_inside_4 w a0 i6) (zz_shl 1 (i6 : Int)) else A_K_inside_4 w a0 i6)), (3, zI ((i6 + 1 : Nat) : Int))] [] w Q := ih
    refine z_iload_n (pc' := 5) 3 rfl rfl dX3_inside_4 rfl ?_
    refine z_aload_n (pc' := 6) 0 rfl rfl dX3_inside_5 rfl ?_
    refine z_getR (t := 30) (pc' := 9) g_X3_31 (by decide) rfl rfl dX3_inside_6 rfl ?_
    refine z_invV (as := []) (st := [zI (i6 : Int)]) (C := m_X6_names) (fs := [33, 34]) (pc' := 12) dX3_inside_9 rfl t_3_133 k_X6_names rfl (by decide) rfl rfl rfl rfl (Nat.le_of_ble_eq_true rfl) ?_
    refine c_Y_names ?_
    show z_Wp m_X3_inside _ 12 [(0, zR 41), (1, zI a0), (2, zI (A_K_inside_4 w a0 i6)), (3, zI (i6 : Int))] [zI (w 32 2), zI (i6 : Int)] w _
    obtain ⟨r7, h⟩ := h
    obtain ⟨r8, h⟩ := h
    refine z_icmp_ge 37 dX3_inside_12 (by decide) (pc' := 15) rfl r7 r8 (fun c => absurd c (by omega)) (fun _ => ?_)
    refine z_aload_n (pc' := 16) 0 rfl rfl dX3_inside_15 rfl ?_
    refine z_getR (t := 42) (pc' := 19) g_X3_15 (by decide) rfl rfl dX3_inside_16 rfl ?_
    refine z_iload_n (pc' := 20) 3 rfl rfl dX3_inside_19 rfl ?_
    obtain ⟨r9, h⟩ := h
    refine z_iald2 (v := w 42 ((i6 : Int).toNat)) (pc' := 21) (by decide) rfl r9 (by decide) rfl dX3_inside_20 rfl ?_
    refine z_iload_n (pc' := 22) 1 rfl rfl dX3_inside_21 rfl ?_
    obtain ⟨r10, h⟩ := h
    have r11 := h
    refine z_icmp_ne 31 dX3_inside_22 (by decide) (pc' := 25) rfl r10 r11 (fun c87 => ?_) (fun c87 => ?_)
    · skip
      rw [if_neg c87] at ih
      refine z_iinc (pc' := 34) (ls' := [(0, zR 41), (1, zI a0), (2, zI (A_K_inside_4 w a0 i6)), (3, zI ((i6 : Int) + 1))]) 3 rfl (by decide) rfl rfl dX3_inside_31 rfl ?_
      refine z_goto 4 dX3_inside_34 (by decide) ?_
      exact ih
    · skip
      rw [if_pos c87] at ih
      refine z_iload_n (pc' := 26) 2 rfl rfl dX3_inside_25 rfl ?_
      refine z_iconst (pc' := 27) dX3_inside_26 rfl ?_
      refine z_iload_n (pc' := 28) 3 rfl rfl dX3_inside_27 rfl ?_
      refine z_ishl (pc' := 29) dX3_inside_28 rfl ?_
      refine z_ior (pc' := 30) dX3_inside_29 rfl ?_
      refine z_istore_n (pc' := 31) (ls' := [(0, zR 41), (1, zI a0), (2, zI (zz_or (A_K_inside_4 w a0 i6) (zz_shl 1 (i6 : Int)))), (3, zI (i6 : Int))]) rfl (by decide) rfl rfl dX3_inside_30 rfl ?_
      refine z_iinc (pc' := 34) (ls' := [(0, zR 41), (1, zI a0), (2, zI (zz_or (A_K_inside_4 w a0 i6) (zz_shl 1 (i6 : Int)))), (3, zI ((i6 : Int) + 1))]) 3 rfl (by decide) rfl rfl dX3_inside_31 rfl ?_
      refine z_goto 4 dX3_inside_34 (by decide) ?_
      exact ih
def P_K_drowned (w : z_Wd)  : Prop := P_K_inside w (-1)
def F_K_drowned (w : z_Wd)  : Int := zz_and ((zz_shl 1 (w 32 2)) - 1) (zz_xor (F_K_inside w (-1)) (-1))
set_option maxRecDepth 4000 in
theorem c_K_drowned {d : Nat} {w : z_Wd} {Q : Option z_V → z_Wd → Prop} (h : P_K_drowned w ) (k : Q (some (zI (F_K_drowned w ))) w) : z_Wc (d + 2) m_X3_drowned [zR 41] w Q := by
  unfold P_K_drowned at h
  unfold F_K_drowned at k
  refine z_enter rfl (Nat.le_of_ble_eq_true rfl) ?_
  show z_Wp m_X3_drowned _ 0 [(0, zR 41)] [] w _
  refine z_aload_n (pc' := 1) 0 rfl rfl dX3_drowned_0 rfl ?_
  refine z_getR (t := 30) (pc' := 4) g_X3_31 (by decide) rfl rfl dX3_drowned_1 rfl ?_
  refine z_invV (as := []) (st := []) (C := m_X6_all) (fs := [33, 34]) (pc' := 7) dX3_drowned_4 rfl t_3_158 k_X6_all rfl (by decide) rfl rfl rfl rfl (Nat.le_of_ble_eq_true rfl) ?_
  refine c_Y_all ?_
  show z_Wp m_X3_drowned _ 7 [(0, zR 41)] [zI ((zz_shl 1 (w 32 2)) - 1)] w _
  refine z_aload_n (pc' := 8) 0 rfl rfl dX3_drowned_7 rfl ?_
  refine z_iconst (pc' := 9) dX3_drowned_8 rfl ?_
  refine z_invV (as := [zI (-1)]) (st := [zI ((zz_shl 1 (w 32 2)) - 1)]) (C := m_X3_inside) (fs := [32, 44, 45, 46, 47, 48, 0, 0, 0]) (pc' := 12) dX3_drowned_9 rfl t_3_129 k_X3_inside rfl (by decide) rfl rfl rfl rfl (Nat.le_of_ble_eq_true rfl) ?_
  have r1 := h
  refine c_K_inside r1 ?_
  show z_Wp m_X3_drowned _ 12 [(0, zR 41)] [zI (F_K_inside w (-1)), zI ((zz_shl 1 (w 32 2)) - 1)] w _
  refine z_iconst (pc' := 13) dX3_drowned_12 rfl ?_
  refine z_ixor (pc' := 14) dX3_drowned_13 rfl ?_
  refine z_iand (pc' := 15) dX3_drowned_14 rfl ?_
  refine z_iret rfl dX3_drowned_15 ?_
  exact k
def P_K_free (w : z_Wd)  : Prop := P_K_inside w (-1)
def F_K_free (w : z_Wd)  : Int := F_K_inside w (-1)
set_option maxRecDepth 4000 in
theorem c_K_free {d : Nat} {w : z_Wd} {Q : Option z_V → z_Wd → Prop} (h : P_K_free w ) (k : Q (some (zI (F_K_free w ))) w) : z_Wc (d + 2) m_X3_free [zR 41] w Q := by
  unfold P_K_free at h
  unfold F_K_free at k
  refine z_enter rfl (Nat.le_of_ble_eq_true rfl) ?_
  show z_Wp m_X3_free _ 0 [(0, zR 41)] [] w _
  refine z_aload_n (pc' := 1) 0 rfl rfl dX3_free_0 rfl ?_
  refine z_iconst (pc' := 2) dX3_free_1 rfl ?_
  refine z_invV (as := [zI (-1)]) (st := []) (C := m_X3_inside) (fs := [32, 44, 45, 46, 47, 48, 0, 0, 0]) (pc' := 5) dX3_free_2 rfl t_3_129 k_X3_inside rfl (by decide) rfl rfl rfl rfl (Nat.le_of_ble_eq_true rfl) ?_
  have r1 := h
  refine c_K_inside r1 ?_
  show z_Wp m_X3_free _ 5 [(0, zR 41)] [zI (F_K_inside w (-1))] w _
  refine z_iret rfl dX3_free_5 ?_
  exact k
def P_K_room (w : z_Wd) (a0 : Int) : Prop := (P_K_depth w a0) ∧ (P_K_inside w a0) ∧ (P_Y_dropsOf w (F_K_inside w a0))
def F_K_room (w : z_Wd) (a0 : Int) : Int := (F_K_depth w a0) - (F_Y_dropsOf w (F_K_inside w a0))
set_option maxRecDepth 4000 in
theorem c_K_room {d : Nat} {w : z_Wd} {a0 : Int} {Q : Option z_V → z_Wd → Prop} (h : P_K_room w a0) (k : Q (some (zI (F_K_room w a0))) w) : z_Wc (d + 2) m_X3_room [zR 41, zI a0] w Q := by
  unfold P_K_room at h
  unfold F_K_room at k
  refine z_enter rfl (Nat.le_of_ble_eq_true rfl) ?_
  show z_Wp m_X3_room _ 0 [(0, zR 41), (1, zI a0)] [] w _
  refine z_aload_n (pc' := 1) 0 rfl rfl dX3_room_0 rfl ?_
  refine z_iload_n (pc' := 2) 1 rfl rfl dX3_room_1 rfl ?_
  refine z_invV (as := [zI a0]) (st := []) (C := m_X3_depth) (fs := [32, 44, 45, 46, 47, 48, 0, 0, 0]) (pc' := 5) dX3_room_2 rfl t_3_128 k_X3_depth rfl (by decide) rfl rfl rfl rfl (Nat.le_of_ble_eq_true rfl) ?_
  obtain ⟨r1, h⟩ := h
  refine c_K_depth r1 ?_
  show z_Wp m_X3_room _ 5 [(0, zR 41), (1, zI a0)] [zI (F_K_depth w a0)] w _
  refine z_aload_n (pc' := 6) 0 rfl rfl dX3_room_5 rfl ?_
  refine z_getR (t := 30) (pc' := 9) g_X3_31 (by decide) rfl rfl dX3_room_6 rfl ?_
  refine z_aload_n (pc' := 10) 0 rfl rfl dX3_room_9 rfl ?_
  refine z_iload_n (pc' := 11) 1 rfl rfl dX3_room_10 rfl ?_
  refine z_invV (as := [zI a0]) (st := [zR 30, zI (F_K_depth w a0)]) (C := m_X3_inside) (fs := [32, 44, 45, 46, 47, 48, 0, 0, 0]) (pc' := 14) dX3_room_11 rfl t_3_129 k_X3_inside rfl (by decide) rfl rfl rfl rfl (Nat.le_of_ble_eq_true rfl) ?_
  obtain ⟨r2, h⟩ := h
  refine c_K_inside r2 ?_
  show z_Wp m_X3_room _ 14 [(0, zR 41), (1, zI a0)] [zI (F_K_inside w a0), zR 30, zI (F_K_depth w a0)] w _
  refine z_invV (as := [zI (F_K_inside w a0)]) (st := [zI (F_K_depth w a0)]) (C := m_X6_dropsOf) (fs := [33, 34]) (pc' := 17) dX3_room_14 rfl t_3_134 k_X6_dropsOf rfl (by decide) rfl rfl rfl rfl (Nat.le_of_ble_eq_true rfl) ?_
  have r3 := h
  refine c_Y_dropsOf r3 ?_
  show z_Wp m_X3_room _ 17 [(0, zR 41), (1, zI a0)] [zI (F_Y_dropsOf w (F_K_inside w a0)), zI (F_K_depth w a0)] w _
  refine z_isub (pc' := 18) dX3_room_17 rfl ?_
  refine z_iret rfl dX3_room_18 ?_
  exact k
def P_K_takes (w : z_Wd) (a0 : Int) (a1 : Int) : Prop := (P_Y_isHisColour w a1 a0) ∧ ((F_Y_isHisColour w a1 a0 = 0 → True) ∧ (¬ (F_Y_isHisColour w a1 a0 = 0) → ((P_Y_value w 2 a1 0) ∧ (P_Y_value w 0 0 0)) ∧ ((P_K_depth w a0) ∧ (P_K_inside w a0) ∧ (P_Y_dropsOf w (F_K_inside w a0))) ∧ (-2147483648 ≤ (F_Y_value w 2 a1 0) * (F_Y_value w 0 0 0) ∧ (F_Y_value w 2 a1 0) * (F_Y_value w 0 0 0) < 2147483648) ∧ (-2147483648 ≤ (F_K_depth w a0) - (F_Y_dropsOf w (F_K_inside w a0)) ∧ (F_K_depth w a0) - (F_Y_dropsOf w (F_K_inside w a0)) < 2147483648)))
def F_K_takes (w : z_Wd) (a0 : Int) (a1 : Int) : Int := if F_Y_isHisColour w a1 a0 = 0 then 0 else if (F_Y_value w 2 a1 0) * (F_Y_value w 0 0 0) > (F_K_depth w a0) - (F_Y_dropsOf w (F_K_inside w a0)) then 0 else 1
set_option maxRecDepth 4000 in
theorem c_K_takes {d : Nat} {w : z_Wd} {a0 a1 : Int} {Q : Option z_V → z_Wd → Prop} (h : P_K_takes w a0 a1) (k : Q (some (zI (F_K_takes w a0 a1))) w) : z_Wc (d + 3) m_X3_takes [zR 41, zI a0, zI a1] w Q := by
  unfold P_K_takes at h
  unfold F_K_takes at k
  refine z_enter rfl (Nat.le_of_ble_eq_true rfl) ?_
  show z_Wp m_X3_takes _ 0 [(0, zR 41), (1, zI a0), (2, zI a1)] [] w _
  refine z_aload_n (pc' := 1) 0 rfl rfl dX3_takes_0 rfl ?_
  refine z_getR (t := 30) (pc' := 4) g_X3_31 (by decide) rfl rfl dX3_takes_1 rfl ?_
  refine z_iload_n (pc' := 5) 2 rfl rfl dX3_takes_4 rfl ?_
  refine z_iload_n (pc' := 6) 1 rfl rfl dX3_takes_5 rfl ?_
  refine z_invV (as := [zI a1, zI a0]) (st := []) (C := m_X6_isHisColour) (fs := [33, 34]) (pc' := 9) dX3_takes_6 rfl t_3_196 k_X6_isHisColour rfl (by decide) rfl rfl rfl rfl (Nat.le_of_ble_eq_true rfl) ?_
  obtain ⟨r1, h⟩ := h
  refine c_Y_isHisColour r1 ?_
  show z_Wp m_X3_takes _ 9 [(0, zR 41), (1, zI a0), (2, zI a1)] [zI (F_Y_isHisColour w a1 a0)] w _
  refine z_if_eq 32 dX3_takes_9 (by decide) (pc' := 12) rfl (z_rb b_Y_isHisColour) (fun c => ?_) (fun c => ?_)
  · have h := h.1 c
    rw [if_pos c] at k
    refine z_iconst (pc' := 33) dX3_takes_32 rfl ?_
    refine z_zret rfl (by decide) dX3_takes_33 ?_
    exact k
  · have h := h.2 c
    rw [if_neg c] at k
    refine z_aload_n (pc' := 13) 0 rfl rfl dX3_takes_12 rfl ?_
    refine z_getR (t := 30) (pc' := 16) g_X3_31 (by decide) rfl rfl dX3_takes_13 rfl ?_
    refine z_iload_n (pc' := 17) 2 rfl rfl dX3_takes_16 rfl ?_
    refine z_invV (as := [zI a1]) (st := []) (C := m_X6_drops) (fs := [33, 34]) (pc' := 20) dX3_takes_17 rfl t_3_205 k_X6_drops rfl (by decide) rfl rfl rfl rfl (Nat.le_of_ble_eq_true rfl) ?_
    obtain ⟨r2, h⟩ := h
    refine c_Y_drops r2 ?_
    show z_Wp m_X3_takes _ 20 [(0, zR 41), (1, zI a0), (2, zI a1)] [zI ((F_Y_value w 2 a1 0) * (F_Y_value w 0 0 0))] w _
    refine z_aload_n (pc' := 21) 0 rfl rfl dX3_takes_20 rfl ?_
    refine z_iload_n (pc' := 22) 1 rfl rfl dX3_takes_21 rfl ?_
    refine z_invV (as := [zI a0]) (st := [zI ((F_Y_value w 2 a1 0) * (F_Y_value w 0 0 0))]) (C := m_X3_room) (fs := [32, 44, 45, 46, 47, 48, 0, 0, 0]) (pc' := 25) dX3_takes_22 rfl t_3_209 k_X3_room rfl (by decide) rfl rfl rfl rfl (Nat.le_of_ble_eq_true rfl) ?_
    obtain ⟨r3, h⟩ := h
    refine c_K_room r3 ?_
    show z_Wp m_X3_takes _ 25 [(0, zR 41), (1, zI a0), (2, zI a1)] [zI ((F_K_depth w a0) - (F_Y_dropsOf w (F_K_inside w a0))), zI ((F_Y_value w 2 a1 0) * (F_Y_value w 0 0 0))] w _
    obtain ⟨r4, h⟩ := h
    have r5 := h
    refine z_icmp_gt 32 dX3_takes_25 (by decide) (pc' := 28) rfl r4 r5 (fun c => ?_) (fun c => ?_)
    · skip
      rw [if_pos c] at k
      refine z_iconst (pc' := 33) dX3_takes_32 rfl ?_
      refine z_zret rfl (by decide) dX3_takes_33 ?_
      exact k
    · skip
      rw [if_neg c] at k
      refine z_iconst (pc' := 29) dX3_takes_28 rfl ?_
      refine z_goto 33 dX3_takes_29 (by decide) ?_
      refine z_zret rfl (by decide) dX3_takes_33 ?_
      exact k
theorem b_K_takes {w : z_Wd} {a0 a1 : Int} : F_K_takes w a0 a1 = 0 ∨ F_K_takes w a0 a1 = 1 := by
  unfold F_K_takes
  (repeat' split) <;> first | exact Or.inl rfl | exact Or.inr rfl
def E_K_lyingAt_2 (w : z_Wd) (a0 : Int) (a1 : Int) (i8 : Nat) : Bool := if w 42 ((i8 : Int).toNat) = a0 then if w 43 ((i8 : Int).toNat) = a1 then true else false else false
def R_K_lyingAt_2 (w : z_Wd) (a0 : Int) (a1 : Int) (i8 : Nat) : Int := if w 42 ((i8 : Int).toNat) = a0 then if w 43 ((i8 : Int).toNat) = a1 then (i8 : Int) else 0 else 0
def P_K_lyingAt (w : z_Wd) (a0 : Int) (a1 : Int) : Prop := (∀ i8 : Nat, i8 < ((w 32 2).toNat) → zfind (E_K_lyingAt_2 w a0 a1) i8 = -1 → (-2147483648 ≤ (i8 : Int) ∧ (i8 : Int) < 2147483648) ∧ (-2147483648 ≤ w 32 2 ∧ w 32 2 < 2147483648) ∧ (0 ≤ (i8 : Int) ∧ (i8 : Int) < 7) ∧ (-2147483648 ≤ w 42 ((i8 : Int).toNat) ∧ w 42 ((i8 : Int).toNat) < 2147483648) ∧ (-2147483648 ≤ a0 ∧ a0 < 2147483648) ∧ ((w 42 ((i8 : Int).toNat) = a0 → (-2147483648 ≤ w 43 ((i8 : Int).toNat) ∧ w 43 ((i8 : Int).toNat) < 2147483648) ∧ (-2147483648 ≤ a1 ∧ a1 < 2147483648)) ∧ (¬ (w 42 ((i8 : Int).toNat) = a0) → True))) ∧ ((-2147483648 ≤ (((w 32 2).toNat : Nat) : Int) ∧ (((w 32 2).toNat : Nat) : Int) < 2147483648) ∧ (-2147483648 ≤ w 32 2 ∧ w 32 2 < 2147483648))
def F_K_lyingAt (w : z_Wd) (a0 : Int) (a1 : Int) : Int := if zfind (E_K_lyingAt_2 w a0 a1) ((w 32 2).toNat) = -1 then (-1) else R_K_lyingAt_2 w a0 a1 (zfind (E_K_lyingAt_2 w a0 a1) ((w 32 2).toNat)).toNat
set_option maxRecDepth 4000 in
theorem c_K_lyingAt {d : Nat} {w : z_Wd} {a0 a1 : Int} {Q : Option z_V → z_Wd → Prop} (h : P_K_lyingAt w a0 a1) (k : Q (some (zI (F_K_lyingAt w a0 a1))) w) : z_Wc (d + 1) m_X3_lyingAt [zR 41, zI a0, zI a1] w Q := by
  unfold P_K_lyingAt at h
  unfold F_K_lyingAt at k
  refine z_enter rfl (Nat.le_of_ble_eq_true rfl) ?_
  show z_Wp m_X3_lyingAt _ 0 [(0, zR 41), (1, zI a0), (2, zI a1)] [] w _
  refine z_iconst (pc' := 1) dX3_lyingAt_0 rfl ?_
  refine z_istore_n (pc' := 2) (ls' := [(0, zR 41), (1, zI a0), (2, zI a1), (3, zI 0)]) rfl (by decide) rfl rfl dX3_lyingAt_1 rfl ?_
  refine z_upto ((w 32 2).toNat) (fun i8 => zfind (E_K_lyingAt_2 w a0 a1) i8 = -1 → z_Wp m_X3_lyingAt (d + 1) 2 [(0, zR 41), (1, zI a0), (2, zI a1), (3, zI (i8 : Int))] [] w Q) ?_ ?_ rfl
  · intro hf
    rw [if_pos hf] at k
    have h := h.2
    refine z_iload_n (pc' := 3) 3 rfl rfl dX3_lyingAt_2 rfl ?_
    refine z_aload_n (pc' := 4) 0 rfl rfl dX3_lyingAt_3 rfl ?_
    refine z_getR (t := 30) (pc' := 7) g_X3_31 (by decide) rfl rfl dX3_lyingAt_4 rfl ?_
    refine z_invV (as := []) (st := [zI (((w 32 2).toNat : Nat) : Int)]) (C := m_X6_names) (fs := [33, 34]) (pc' := 10) dX3_lyingAt_7 rfl t_3_133 k_X6_names rfl (by decide) rfl rfl rfl rfl (Nat.le_of_ble_eq_true rfl) ?_
    refine c_Y_names ?_
    show z_Wp m_X3_lyingAt _ 10 [(0, zR 41), (1, zI a0), (2, zI a1), (3, zI (((w 32 2).toNat : Nat) : Int))] [zI (w 32 2), zI (((w 32 2).toNat : Nat) : Int)] w _
    obtain ⟨r16, h⟩ := h
    have r17 := h
    refine z_icmp_ge 41 dX3_lyingAt_10 (by decide) (pc' := 13) rfl r16 r17 (fun _ => ?_) (fun c => absurd c (by omega))
    refine z_iconst (pc' := 42) dX3_lyingAt_41 rfl ?_
    refine z_iret rfl dX3_lyingAt_42 ?_
    exact k
  · intro i8 hi ih hf
    have h := h.1 i8 hi hf
    have hE : E_K_lyingAt_2 w a0 a1 i8 = (if w 42 ((i8 : Int).toNat) = a0 then if w 43 ((i8 : Int).toNat) = a1 then true else false else false) := rfl
    refine z_iload_n (pc' := 3) 3 rfl rfl dX3_lyingAt_2 rfl ?_
    refine z_aload_n (pc' := 4) 0 rfl rfl dX3_lyingAt_3 rfl ?_
    refine z_getR (t := 30) (pc' := 7) g_X3_31 (by decide) rfl rfl dX3_lyingAt_4 rfl ?_
    refine z_invV (as := []) (st := [zI (i8 : Int)]) (C := m_X6_names) (fs := [33, 34]) (pc' := 10) dX3_lyingAt_7 rfl t_3_133 k_X6_names rfl (by decide) rfl rfl rfl rfl (Nat.le_of_ble_eq_true rfl) ?_
    refine c_Y_names ?_
    show z_Wp m_X3_lyingAt _ 10 [(0, zR 41), (1, zI a0), (2, zI a1), (3, zI (i8 : Int))] [zI (w 32 2), zI (i8 : Int)] w _
    obtain ⟨r9, h⟩ := h
    obtain ⟨r10, h⟩ := h
    refine z_icmp_ge 41 dX3_lyingAt_10 (by decide) (pc' := 13) rfl r9 r10 (fun c => absurd c (by omega)) (fun _ => ?_)
    refine z_aload_n (pc' := 14) 0 rfl rfl dX3_lyingAt_13 rfl ?_
    refine z_getR (t := 42) (pc' := 17) g_X3_15 (by decide) rfl rfl dX3_lyingAt_14 rfl ?_
    refine z_iload_n (pc' := 18) 3 rfl rfl dX3_lyingAt_17 rfl ?_
    obtain ⟨r11, h⟩ := h
    refine z_iald2 (v := w 42 ((i8 : Int).toNat)) (pc' := 19) (by decide) rfl r11 (by decide) rfl dX3_lyingAt_18 rfl ?_
    refine z_iload_n (pc' := 20) 1 rfl rfl dX3_lyingAt_19 rfl ?_
    obtain ⟨r12, h⟩ := h
    obtain ⟨r13, h⟩ := h
    refine z_icmp_ne 35 dX3_lyingAt_20 (by decide) (pc' := 23) rfl r12 r13 (fun c88 => ?_) (fun c88 => ?_)
    · have h := h.2 c88
      rw [if_neg c88] at hE
      refine z_iinc (pc' := 38) (ls' := [(0, zR 41), (1, zI a0), (2, zI a1), (3, zI ((i8 : Int) + 1))]) 3 rfl (by decide) rfl rfl dX3_lyingAt_35 rfl ?_
      refine z_goto 2 dX3_lyingAt_38 (by decide) ?_
      exact (ih (zfind_miss hf (by rw [hE]; decide)))
    · have h := h.1 c88
      rw [if_pos c88] at hE
      refine z_aload_n (pc' := 24) 0 rfl rfl dX3_lyingAt_23 rfl ?_
      refine z_getR (t := 43) (pc' := 27) g_X3_19 (by decide) rfl rfl dX3_lyingAt_24 rfl ?_
      refine z_iload_n (pc' := 28) 3 rfl rfl dX3_lyingAt_27 rfl ?_
      refine z_iald2 (v := w 43 ((i8 : Int).toNat)) (pc' := 29) (by decide) rfl r11 (by decide) rfl dX3_lyingAt_28 rfl ?_
      refine z_iload_n (pc' := 30) 2 rfl rfl dX3_lyingAt_29 rfl ?_
      obtain ⟨r14, h⟩ := h
      have r15 := h
      refine z_icmp_ne 35 dX3_lyingAt_30 (by decide) (pc' := 33) rfl r14 r15 (fun c89 => ?_) (fun c89 => ?_)
      · skip
        rw [if_neg c89] at hE
        refine z_iinc (pc' := 38) (ls' := [(0, zR 41), (1, zI a0), (2, zI a1), (3, zI ((i8 : Int) + 1))]) 3 rfl (by decide) rfl rfl dX3_lyingAt_35 rfl ?_
        refine z_goto 2 dX3_lyingAt_38 (by decide) ?_
        exact (ih (zfind_miss hf (by rw [hE]; decide)))
      · skip
        rw [if_pos c89] at hE
        refine z_iload_n (pc' := 34) 3 rfl rfl dX3_lyingAt_33 rfl ?_
        refine z_iret rfl dX3_lyingAt_34 ?_
        have hz := zfind_hit hf hE _ hi
        rw [hz, if_neg (by omega), Int.toNat_natCast] at k
        unfold R_K_lyingAt_2 at k
        rw [if_pos c88] at k
        rw [if_pos c89] at k
        exact k
def A_K_above_5 (w : z_Wd) (a0 : Int) (a1 : Int) : Nat → Int
  | 0 => 0
  | i6 + 1 => if zz_and (zz_shr a1 (i6 : Int)) 1 = 1 then if F_K_liesOver w (i6 : Int) a0 = 0 then A_K_above_5 w a0 a1 i6 else zz_or (A_K_above_5 w a0 a1 i6) (zz_shl 1 (i6 : Int)) else A_K_above_5 w a0 a1 i6
def P_K_above (w : z_Wd) (a0 : Int) (a1 : Int) : Prop := (∀ i6 : Nat, i6 < ((w 32 2).toNat) → (-2147483648 ≤ (i6 : Int) ∧ (i6 : Int) < 2147483648) ∧ (-2147483648 ≤ w 32 2 ∧ w 32 2 < 2147483648) ∧ (-2147483648 ≤ zz_and (zz_shr a1 (i6 : Int)) 1 ∧ zz_and (zz_shr a1 (i6 : Int)) 1 < 2147483648) ∧ ((zz_and (zz_shr a1 (i6 : Int)) 1 = 1 → P_K_liesOver w (i6 : Int) a0) ∧ (¬ (zz_and (zz_shr a1 (i6 : Int)) 1 = 1) → True))) ∧ ((-2147483648 ≤ (((w 32 2).toNat : Nat) : Int) ∧ (((w 32 2).toNat : Nat) : Int) < 2147483648) ∧ (-2147483648 ≤ w 32 2 ∧ w 32 2 < 2147483648) ∧ (P_Y_dropsOf w (A_K_above_5 w a0 a1 (w 32 2).toNat)))
def F_K_above (w : z_Wd) (a0 : Int) (a1 : Int) : Int := F_Y_dropsOf w (A_K_above_5 w a0 a1 (w 32 2).toNat)
set_option maxRecDepth 4000 in
theorem c_K_above {d : Nat} {w : z_Wd} {a0 a1 : Int} {Q : Option z_V → z_Wd → Prop} (h : P_K_above w a0 a1) (k : Q (some (zI (F_K_above w a0 a1))) w) : z_Wc (d + 2) m_X3_above [zR 41, zI a0, zI a1] w Q := by
  unfold P_K_above at h
  unfold F_K_above at k
  refine z_enter rfl (Nat.le_of_ble_eq_true rfl) ?_
  show z_Wp m_X3_above _ 0 [(0, zR 41), (1, zI a0), (2, zI a1)] [] w _
  refine z_iconst (pc' := 1) dX3_above_0 rfl ?_
  refine z_istore_n (pc' := 2) (ls' := [(0, zR 41), (1, zI a0), (2, zI a1), (3, zI 0)]) rfl (by decide) rfl rfl dX3_above_1 rfl ?_
  refine z_iconst (pc' := 3) dX3_above_2 rfl ?_
  refine z_istore (pc' := 5) (ls' := [(0, zR 41), (1, zI a0), (2, zI a1), (3, zI 0), (4, zI 0)]) (by decide) rfl rfl dX3_above_3 rfl ?_
  refine z_upto ((w 32 2).toNat) (fun i6 => z_Wp m_X3_above (d + 2) 5 [(0, zR 41), (1, zI a0), (2, zI a1), (3, zI (A_K_above_5 w a0 a1 i6)), (4, zI (i6 : Int))] [] w Q) ?_ ?_
  · skip
    have h := h.2
    refine z_iload (pc' := 7) 4 rfl dX3_above_5 rfl ?_
    refine z_aload_n (pc' := 8) 0 rfl rfl dX3_above_7 rfl ?_
    refine z_getR (t := 30) (pc' := 11) g_X3_31 (by decide) rfl rfl dX3_above_8 rfl ?_
    refine z_invV (as := []) (st := [zI (((w 32 2).toNat : Nat) : Int)]) (C := m_X6_names) (fs := [33, 34]) (pc' := 14) dX3_above_11 rfl t_3_133 k_X6_names rfl (by decide) rfl rfl rfl rfl (Nat.le_of_ble_eq_true rfl) ?_
    refine c_Y_names ?_
    show z_Wp m_X3_above _ 14 [(0, zR 41), (1, zI a0), (2, zI a1), (3, zI (A_K_above_5 w a0 a1 (w 32 2).toNat)), (4, zI (((w 32 2).toNat : Nat) : Int))] [zI (w 32 2), zI (((w 32 2).toNat : Nat) : Int)] w _
    obtain ⟨r11, h⟩ := h
    obtain ⟨r12, h⟩ := h
    refine z_icmp_ge 50 dX3_above_14 (by decide) (pc' := 17) rfl r11 r12 (fun _ => ?_) (fun c => absurd c (by omega))
    refine z_aload_n (pc' := 51) 0 rfl rfl dX3_above_50 rfl ?_
    refine z_getR (t := 30) (pc' := 54) g_X3_31 (by decide) rfl rfl dX3_above_51 rfl ?_
    refine z_iload_n (pc' := 55) 3 rfl rfl dX3_above_54 rfl ?_
    refine z_invV (as := [zI (A_K_above_5 w a0 a1 (w 32 2).toNat)]) (st := []) (C := m_X6_dropsOf) (fs := [33, 34]) (pc' := 58) dX3_above_55 rfl t_3_134 k_X6_dropsOf rfl (by decide) rfl rfl rfl rfl (Nat.le_of_ble_eq_true rfl) ?_
    have r13 := h
    refine c_Y_dropsOf r13 ?_
    show z_Wp m_X3_above _ 58 [(0, zR 41), (1, zI a0), (2, zI a1), (3, zI (A_K_above_5 w a0 a1 (w 32 2).toNat)), (4, zI (((w 32 2).toNat : Nat) : Int))] [zI (F_Y_dropsOf w (A_K_above_5 w a0 a1 (w 32 2).toNat))] w _
    refine z_iret rfl dX3_above_58 ?_
    exact k
  · intro i6 hi ih
    have h := h.1 i6 hi
    have ih : z_Wp m_X3_above (d + 2) 5 [(0, zR 41), (1, zI a0), (2, zI a1), (3, zI (if zz_and (zz_shr a1 (i6 : Int)) 1 = 1 then if F_K_liesOver w (i6 : Int) a0 = 0 then A_K_above_5 w a0 a1 i6 else zz_or (A_K_above_5 w a0 a1 i6) (zz_shl 1 (i6 : Int)) else A_K_above_5 w a0 a1 i6)), (4, zI ((i6 + 1 : Nat) : Int))] [] w Q := ih
    refine z_iload (pc' := 7) 4 rfl dX3_above_5 rfl ?_
    refine z_aload_n (pc' := 8) 0 rfl rfl dX3_above_7 rfl ?_
    refine z_getR (t := 30) (pc' := 11) g_X3_31 (by decide) rfl rfl dX3_above_8 rfl ?_
    refine z_invV (as := []) (st := [zI (i6 : Int)]) (C := m_X6_names) (fs := [33, 34]) (pc' := 14) dX3_above_11 rfl t_3_133 k_X6_names rfl (by decide) rfl rfl rfl rfl (Nat.le_of_ble_eq_true rfl) ?_
    refine c_Y_names ?_
    show z_Wp m_X3_above _ 14 [(0, zR 41), (1, zI a0), (2, zI a1), (3, zI (A_K_above_5 w a0 a1 i6)), (4, zI (i6 : Int))] [zI (w 32 2), zI (i6 : Int)] w _
    obtain ⟨r7, h⟩ := h
    obtain ⟨r8, h⟩ := h
    refine z_icmp_ge 50 dX3_above_14 (by decide) (pc' := 17) rfl r7 r8 (fun c => absurd c (by omega)) (fun _ => ?_)
    refine z_iload_n (pc' := 18) 2 rfl rfl dX3_above_17 rfl ?_
    refine z_iload (pc' := 20) 4 rfl dX3_above_18 rfl ?_
    refine z_ishr (pc' := 21) dX3_above_20 rfl ?_
    refine z_iconst (pc' := 22) dX3_above_21 rfl ?_
    refine z_iand (pc' := 23) dX3_above_22 rfl ?_
    refine z_iconst (pc' := 24) dX3_above_23 rfl ?_
    obtain ⟨r9, h⟩ := h
    refine z_icmp_ne 44 dX3_above_24 (by decide) (pc' := 27) rfl r9 (by decide) (fun c90 => ?_) (fun c90 => ?_)
    · have h := h.2 c90
      rw [if_neg c90] at ih
      refine z_iinc (pc' := 47) (ls' := [(0, zR 41), (1, zI a0), (2, zI a1), (3, zI (A_K_above_5 w a0 a1 i6)), (4, zI ((i6 : Int) + 1))]) 4 rfl (by decide) rfl rfl dX3_above_44 rfl ?_
      refine z_goto 5 dX3_above_47 (by decide) ?_
      exact ih
    · have h := h.1 c90
      rw [if_pos c90] at ih
      refine z_aload_n (pc' := 28) 0 rfl rfl dX3_above_27 rfl ?_
      refine z_iload (pc' := 30) 4 rfl dX3_above_28 rfl ?_
      refine z_iload_n (pc' := 31) 1 rfl rfl dX3_above_30 rfl ?_
      refine z_invV (as := [zI (i6 : Int), zI a0]) (st := []) (C := m_X3_liesOver) (fs := [32, 44, 45, 46, 47, 48, 0, 0, 0]) (pc' := 34) dX3_above_31 rfl t_4_0 k_X3_liesOver rfl (by decide) rfl rfl rfl rfl (Nat.le_of_ble_eq_true rfl) ?_
      have r10 := h
      refine c_K_liesOver r10 ?_
      show z_Wp m_X3_above _ 34 [(0, zR 41), (1, zI a0), (2, zI a1), (3, zI (A_K_above_5 w a0 a1 i6)), (4, zI (i6 : Int))] [zI (F_K_liesOver w (i6 : Int) a0)] w _
      refine z_if_eq 44 dX3_above_34 (by decide) (pc' := 37) rfl (z_rb b_K_liesOver) (fun c91 => ?_) (fun c91 => ?_)
      · skip
        rw [if_pos c91] at ih
        refine z_iinc (pc' := 47) (ls' := [(0, zR 41), (1, zI a0), (2, zI a1), (3, zI (A_K_above_5 w a0 a1 i6)), (4, zI ((i6 : Int) + 1))]) 4 rfl (by decide) rfl rfl dX3_above_44 rfl ?_
        refine z_goto 5 dX3_above_47 (by decide) ?_
        exact ih
      · skip
        rw [if_neg c91] at ih
        refine z_iload_n (pc' := 38) 3 rfl rfl dX3_above_37 rfl ?_
        refine z_iconst (pc' := 39) dX3_above_38 rfl ?_
        refine z_iload (pc' := 41) 4 rfl dX3_above_39 rfl ?_
        refine z_ishl (pc' := 42) dX3_above_41 rfl ?_
        refine z_ior (pc' := 43) dX3_above_42 rfl ?_
        refine z_istore_n (pc' := 44) (ls' := [(0, zR 41), (1, zI a0), (2, zI a1), (3, zI (zz_or (A_K_above_5 w a0 a1 i6) (zz_shl 1 (i6 : Int)))), (4, zI (i6 : Int))]) rfl (by decide) rfl rfl dX3_above_43 rfl ?_
        refine z_iinc (pc' := 47) (ls' := [(0, zR 41), (1, zI a0), (2, zI a1), (3, zI (zz_or (A_K_above_5 w a0 a1 i6) (zz_shl 1 (i6 : Int)))), (4, zI ((i6 : Int) + 1))]) 4 rfl (by decide) rfl rfl dX3_above_44 rfl ?_
        refine z_goto 5 dX3_above_47 (by decide) ?_
        exact ih
def A_K_comesUp_6 (w : z_Wd) (a0 : Int) (a1 : Int) (a2 : Int) : Nat → Int
  | 0 => (-1)
  | i17 + 1 => if zz_and (zz_shr a2 (i17 : Int)) 1 = 1 then if w 42 ((i17 : Int).toNat) = a0 then if A_K_comesUp_6 w a0 a1 a2 i17 = (-1) then if (F_K_above w (i17 : Int) a2) + ((F_Y_value w 2 (i17 : Int) 0) * (F_Y_value w 0 0 0)) > a1 then A_K_comesUp_6 w a0 a1 a2 i17 else (i17 : Int) else if F_K_liesOver w (A_K_comesUp_6 w a0 a1 a2 i17) (i17 : Int) = 0 then A_K_comesUp_6 w a0 a1 a2 i17 else if (F_K_above w (i17 : Int) a2) + ((F_Y_value w 2 (i17 : Int) 0) * (F_Y_value w 0 0 0)) > a1 then A_K_comesUp_6 w a0 a1 a2 i17 else (i17 : Int) else A_K_comesUp_6 w a0 a1 a2 i17 else A_K_comesUp_6 w a0 a1 a2 i17
def P_K_comesUp (w : z_Wd) (a0 : Int) (a1 : Int) (a2 : Int) : Prop := (∀ i17 : Nat, i17 < ((w 32 2).toNat) → (-2147483648 ≤ (i17 : Int) ∧ (i17 : Int) < 2147483648) ∧ (-2147483648 ≤ w 32 2 ∧ w 32 2 < 2147483648) ∧ (-2147483648 ≤ zz_and (zz_shr a2 (i17 : Int)) 1 ∧ zz_and (zz_shr a2 (i17 : Int)) 1 < 2147483648) ∧ ((zz_and (zz_shr a2 (i17 : Int)) 1 = 1 → (0 ≤ (i17 : Int) ∧ (i17 : Int) < 7) ∧ (-2147483648 ≤ w 42 ((i17 : Int).toNat) ∧ w 42 ((i17 : Int).toNat) < 2147483648) ∧ (-2147483648 ≤ a0 ∧ a0 < 2147483648) ∧ ((w 42 ((i17 : Int).toNat) = a0 → (-2147483648 ≤ A_K_comesUp_6 w a0 a1 a2 i17 ∧ A_K_comesUp_6 w a0 a1 a2 i17 < 2147483648) ∧ ((A_K_comesUp_6 w a0 a1 a2 i17 = (-1) → (P_K_above w (i17 : Int) a2) ∧ ((P_Y_value w 2 (i17 : Int) 0) ∧ (P_Y_value w 0 0 0)) ∧ (-2147483648 ≤ (F_K_above w (i17 : Int) a2) + ((F_Y_value w 2 (i17 : Int) 0) * (F_Y_value w 0 0 0)) ∧ (F_K_above w (i17 : Int) a2) + ((F_Y_value w 2 (i17 : Int) 0) * (F_Y_value w 0 0 0)) < 2147483648) ∧ (-2147483648 ≤ a1 ∧ a1 < 2147483648)) ∧ (¬ (A_K_comesUp_6 w a0 a1 a2 i17 = (-1)) → (P_K_liesOver w (A_K_comesUp_6 w a0 a1 a2 i17) (i17 : Int)) ∧ ((F_K_liesOver w (A_K_comesUp_6 w a0 a1 a2 i17) (i17 : Int) = 0 → True) ∧ (¬ (F_K_liesOver w (A_K_comesUp_6 w a0 a1 a2 i17) (i17 : Int) = 0) → (P_K_above w (i17 : Int) a2) ∧ ((P_Y_value w 2 (i17 : Int) 0) ∧ (P_Y_value w 0 0 0)) ∧ (-2147483648 ≤ (F_K_above w (i17 : Int) a2) + ((F_Y_value w 2 (i17 : Int) 0) * (F_Y_value w 0 0 0)) ∧ (F_K_above w (i17 : Int) a2) + ((F_Y_value w 2 (i17 : Int) 0) * (F_Y_value w 0 0 0)) < 2147483648) ∧ (-2147483648 ≤ a1 ∧ a1 < 2147483648)))))) ∧ (¬ (w 42 ((i17 : Int).toNat) = a0) → True))) ∧ (¬ (zz_and (zz_shr a2 (i17 : Int)) 1 = 1) → True))) ∧ ((-2147483648 ≤ (((w 32 2).toNat : Nat) : Int) ∧ (((w 32 2).toNat : Nat) : Int) < 2147483648) ∧ (-2147483648 ≤ w 32 2 ∧ w 32 2 < 2147483648))
def F_K_comesUp (w : z_Wd) (a0 : Int) (a1 : Int) (a2 : Int) : Int := A_K_comesUp_6 w a0 a1 a2 (w 32 2).toNat
set_option maxRecDepth 4000 in
theorem c_K_comesUp {d : Nat} {w : z_Wd} {a0 a1 a2 : Int} {Q : Option z_V → z_Wd → Prop} (h : P_K_comesUp w a0 a1 a2) (k : Q (some (zI (F_K_comesUp w a0 a1 a2))) w) : z_Wc (d + 3) m_X3_comesUp [zR 41, zI a0, zI a1, zI a2] w Q := by
  unfold P_K_comesUp at h
  unfold F_K_comesUp at k
  refine z_enter rfl (Nat.le_of_ble_eq_true rfl) ?_
  show z_Wp m_X3_comesUp _ 0 [(0, zR 41), (1, zI a0), (2, zI a1), (3, zI a2)] [] w _
  refine z_iconst (pc' := 1) dX3_comesUp_0 rfl ?_
  refine z_istore (pc' := 3) (ls' := [(0, zR 41), (1, zI a0), (2, zI a1), (3, zI a2), (4, zI (-1))]) (by decide) rfl rfl dX3_comesUp_1 rfl ?_
  refine z_iconst (pc' := 4) dX3_comesUp_3 rfl ?_
  refine z_istore (pc' := 6) (ls' := [(0, zR 41), (1, zI a0), (2, zI a1), (3, zI a2), (4, zI (-1)), (5, zI 0)]) (by decide) rfl rfl dX3_comesUp_4 rfl ?_
  refine z_upto ((w 32 2).toNat) (fun i17 => z_Wp m_X3_comesUp (d + 3) 6 [(0, zR 41), (1, zI a0), (2, zI a1), (3, zI a2), (4, zI (A_K_comesUp_6 w a0 a1 a2 i17)), (5, zI (i17 : Int))] [] w Q) ?_ ?_
  · skip
    have h := h.2
    refine z_iload (pc' := 8) 5 rfl dX3_comesUp_6 rfl ?_
    refine z_aload_n (pc' := 9) 0 rfl rfl dX3_comesUp_8 rfl ?_
    refine z_getR (t := 30) (pc' := 12) g_X3_31 (by decide) rfl rfl dX3_comesUp_9 rfl ?_
    refine z_invV (as := []) (st := [zI (((w 32 2).toNat : Nat) : Int)]) (C := m_X6_names) (fs := [33, 34]) (pc' := 15) dX3_comesUp_12 rfl t_3_133 k_X6_names rfl (by decide) rfl rfl rfl rfl (Nat.le_of_ble_eq_true rfl) ?_
    refine c_Y_names ?_
    show z_Wp m_X3_comesUp _ 15 [(0, zR 41), (1, zI a0), (2, zI a1), (3, zI a2), (4, zI (A_K_comesUp_6 w a0 a1 a2 (w 32 2).toNat)), (5, zI (((w 32 2).toNat : Nat) : Int))] [zI (w 32 2), zI (((w 32 2).toNat : Nat) : Int)] w _
    obtain ⟨r34, h⟩ := h
    have r35 := h
    refine z_icmp_ge 87 dX3_comesUp_15 (by decide) (pc' := 18) rfl r34 r35 (fun _ => ?_) (fun c => absurd c (by omega))
    refine z_iload (pc' := 89) 4 rfl dX3_comesUp_87 rfl ?_
    refine z_iret rfl dX3_comesUp_89 ?_
    exact k
  · intro i17 hi ih
    have h := h.1 i17 hi
    have ih : z_Wp m_X3_comesUp (d + 3) 6 [(0, zR 41), (1, zI a0), (2, zI a1), (3, zI a2), (4, zI (if zz_and (zz_shr a2 (i17 : Int)) 1 = 1 then if w 42 ((i17 : Int).toNat) = a0 then if A_K_comesUp_6 w a0 a1 a2 i17 = (-1) then if (F_K_above w (i17 : Int) a2) + ((F_Y_value w 2 (i17 : Int) 0) * (F_Y_value w 0 0 0)) > a1 then A_K_comesUp_6 w a0 a1 a2 i17 else (i17 : Int) else if F_K_liesOver w (A_K_comesUp_6 w a0 a1 a2 i17) (i17 : Int) = 0 then A_K_comesUp_6 w a0 a1 a2 i17 else if (F_K_above w (i17 : Int) a2) + ((F_Y_value w 2 (i17 : Int) 0) * (F_Y_value w 0 0 0)) > a1 then A_K_comesUp_6 w a0 a1 a2 i17 else (i17 : Int) else A_K_comesUp_6 w a0 a1 a2 i17 else A_K_comesUp_6 w a0 a1 a2 i17)), (5, zI ((i17 + 1 : Nat) : Int))] [] w Q := ih
    refine z_iload (pc' := 8) 5 rfl dX3_comesUp_6 rfl ?_
    refine z_aload_n (pc' := 9) 0 rfl rfl dX3_comesUp_8 rfl ?_
    refine z_getR (t := 30) (pc' := 12) g_X3_31 (by decide) rfl rfl dX3_comesUp_9 rfl ?_
    refine z_invV (as := []) (st := [zI (i17 : Int)]) (C := m_X6_names) (fs := [33, 34]) (pc' := 15) dX3_comesUp_12 rfl t_3_133 k_X6_names rfl (by decide) rfl rfl rfl rfl (Nat.le_of_ble_eq_true rfl) ?_
    refine c_Y_names ?_
    show z_Wp m_X3_comesUp _ 15 [(0, zR 41), (1, zI a0), (2, zI a1), (3, zI a2), (4, zI (A_K_comesUp_6 w a0 a1 a2 i17)), (5, zI (i17 : Int))] [zI (w 32 2), zI (i17 : Int)] w _
    obtain ⟨r18, h⟩ := h
    obtain ⟨r19, h⟩ := h
    refine z_icmp_ge 87 dX3_comesUp_15 (by decide) (pc' := 18) rfl r18 r19 (fun c => absurd c (by omega)) (fun _ => ?_)
    refine z_iload_n (pc' := 19) 3 rfl rfl dX3_comesUp_18 rfl ?_
    refine z_iload (pc' := 21) 5 rfl dX3_comesUp_19 rfl ?_
    refine z_ishr (pc' := 22) dX3_comesUp_21 rfl ?_
    refine z_iconst (pc' := 23) dX3_comesUp_22 rfl ?_
    refine z_iand (pc' := 24) dX3_comesUp_23 rfl ?_
    refine z_iconst (pc' := 25) dX3_comesUp_24 rfl ?_
    obtain ⟨r20, h⟩ := h
    refine z_icmp_ne 81 dX3_comesUp_25 (by decide) (pc' := 28) rfl r20 (by decide) (fun c92 => ?_) (fun c92 => ?_)
    · have h := h.2 c92
      rw [if_neg c92] at ih
      refine z_iinc (pc' := 84) (ls' := [(0, zR 41), (1, zI a0), (2, zI a1), (3, zI a2), (4, zI (A_K_comesUp_6 w a0 a1 a2 i17)), (5, zI ((i17 : Int) + 1))]) 5 rfl (by decide) rfl rfl dX3_comesUp_81 rfl ?_
      refine z_goto 6 dX3_comesUp_84 (by decide) ?_
      exact ih
    · have h := h.1 c92
      rw [if_pos c92] at ih
      refine z_aload_n (pc' := 29) 0 rfl rfl dX3_comesUp_28 rfl ?_
      refine z_getR (t := 42) (pc' := 32) g_X3_15 (by decide) rfl rfl dX3_comesUp_29 rfl ?_
      refine z_iload (pc' := 34) 5 rfl dX3_comesUp_32 rfl ?_
      obtain ⟨r21, h⟩ := h
      refine z_iald2 (v := w 42 ((i17 : Int).toNat)) (pc' := 35) (by decide) rfl r21 (by decide) rfl dX3_comesUp_34 rfl ?_
      refine z_iload_n (pc' := 36) 1 rfl rfl dX3_comesUp_35 rfl ?_
      obtain ⟨r22, h⟩ := h
      obtain ⟨r23, h⟩ := h
      refine z_icmp_ne 81 dX3_comesUp_36 (by decide) (pc' := 39) rfl r22 r23 (fun c93 => ?_) (fun c93 => ?_)
      · have h := h.2 c93
        rw [if_neg c93] at ih
        refine z_iinc (pc' := 84) (ls' := [(0, zR 41), (1, zI a0), (2, zI a1), (3, zI a2), (4, zI (A_K_comesUp_6 w a0 a1 a2 i17)), (5, zI ((i17 : Int) + 1))]) 5 rfl (by decide) rfl rfl dX3_comesUp_81 rfl ?_
        refine z_goto 6 dX3_comesUp_84 (by decide) ?_
        exact ih
      · have h := h.1 c93
        rw [if_pos c93] at ih
        refine z_iload (pc' := 41) 4 rfl dX3_comesUp_39 rfl ?_
        refine z_iconst (pc' := 42) dX3_comesUp_41 rfl ?_
        obtain ⟨r24, h⟩ := h
        refine z_icmp_eq 56 dX3_comesUp_42 (by decide) (pc' := 45) rfl r24 (by decide) (fun c94 => ?_) (fun c94 => ?_)
        · have h := h.1 c94
          rw [if_pos c94] at ih
          refine z_aload_n (pc' := 57) 0 rfl rfl dX3_comesUp_56 rfl ?_
          refine z_iload (pc' := 59) 5 rfl dX3_comesUp_57 rfl ?_
          refine z_iload_n (pc' := 60) 3 rfl rfl dX3_comesUp_59 rfl ?_
          refine z_invV (as := [zI (i17 : Int), zI a2]) (st := []) (C := m_X3_above) (fs := [32, 44, 45, 46, 47, 48, 0, 0, 0]) (pc' := 63) dX3_comesUp_60 rfl t_4_4 k_X3_above rfl (by decide) rfl rfl rfl rfl (Nat.le_of_ble_eq_true rfl) ?_
          obtain ⟨r25, h⟩ := h
          refine c_K_above r25 ?_
          show z_Wp m_X3_comesUp _ 63 [(0, zR 41), (1, zI a0), (2, zI a1), (3, zI a2), (4, zI (A_K_comesUp_6 w a0 a1 a2 i17)), (5, zI (i17 : Int))] [zI (F_K_above w (i17 : Int) a2)] w _
          refine z_aload_n (pc' := 64) 0 rfl rfl dX3_comesUp_63 rfl ?_
          refine z_getR (t := 30) (pc' := 67) g_X3_31 (by decide) rfl rfl dX3_comesUp_64 rfl ?_
          refine z_iload (pc' := 69) 5 rfl dX3_comesUp_67 rfl ?_
          refine z_invV (as := [zI (i17 : Int)]) (st := [zI (F_K_above w (i17 : Int) a2)]) (C := m_X6_drops) (fs := [33, 34]) (pc' := 72) dX3_comesUp_69 rfl t_3_205 k_X6_drops rfl (by decide) rfl rfl rfl rfl (Nat.le_of_ble_eq_true rfl) ?_
          obtain ⟨r26, h⟩ := h
          refine c_Y_drops r26 ?_
          show z_Wp m_X3_comesUp _ 72 [(0, zR 41), (1, zI a0), (2, zI a1), (3, zI a2), (4, zI (A_K_comesUp_6 w a0 a1 a2 i17)), (5, zI (i17 : Int))] [zI ((F_Y_value w 2 (i17 : Int) 0) * (F_Y_value w 0 0 0)), zI (F_K_above w (i17 : Int) a2)] w _
          refine z_iadd (pc' := 73) dX3_comesUp_72 rfl ?_
          refine z_iload_n (pc' := 74) 2 rfl rfl dX3_comesUp_73 rfl ?_
          obtain ⟨r27, h⟩ := h
          have r28 := h
          refine z_icmp_gt 81 dX3_comesUp_74 (by decide) (pc' := 77) rfl r27 r28 (fun c95 => ?_) (fun c95 => ?_)
          · skip
            rw [if_pos c95] at ih
            refine z_iinc (pc' := 84) (ls' := [(0, zR 41), (1, zI a0), (2, zI a1), (3, zI a2), (4, zI (A_K_comesUp_6 w a0 a1 a2 i17)), (5, zI ((i17 : Int) + 1))]) 5 rfl (by decide) rfl rfl dX3_comesUp_81 rfl ?_
            refine z_goto 6 dX3_comesUp_84 (by decide) ?_
            exact ih
          · skip
            rw [if_neg c95] at ih
            refine z_iload (pc' := 79) 5 rfl dX3_comesUp_77 rfl ?_
            refine z_istore (pc' := 81) (ls' := [(0, zR 41), (1, zI a0), (2, zI a1), (3, zI a2), (4, zI (i17 : Int)), (5, zI (i17 : Int))]) (by decide) rfl rfl dX3_comesUp_79 rfl ?_
            refine z_iinc (pc' := 84) (ls' := [(0, zR 41), (1, zI a0), (2, zI a1), (3, zI a2), (4, zI (i17 : Int)), (5, zI ((i17 : Int) + 1))]) 5 rfl (by decide) rfl rfl dX3_comesUp_81 rfl ?_
            refine z_goto 6 dX3_comesUp_84 (by decide) ?_
            exact ih
        · have h := h.2 c94
          rw [if_neg c94] at ih
          refine z_aload_n (pc' := 46) 0 rfl rfl dX3_comesUp_45 rfl ?_
          refine z_iload (pc' := 48) 4 rfl dX3_comesUp_46 rfl ?_
          refine z_iload (pc' := 50) 5 rfl dX3_comesUp_48 rfl ?_
          refine z_invV (as := [zI (A_K_comesUp_6 w a0 a1 a2 i17), zI (i17 : Int)]) (st := []) (C := m_X3_liesOver) (fs := [32, 44, 45, 46, 47, 48, 0, 0, 0]) (pc' := 53) dX3_comesUp_50 rfl t_4_0 k_X3_liesOver rfl (by decide) rfl rfl rfl rfl (Nat.le_of_ble_eq_true rfl) ?_
          obtain ⟨r29, h⟩ := h
          refine c_K_liesOver r29 ?_
          show z_Wp m_X3_comesUp _ 53 [(0, zR 41), (1, zI a0), (2, zI a1), (3, zI a2), (4, zI (A_K_comesUp_6 w a0 a1 a2 i17)), (5, zI (i17 : Int))] [zI (F_K_liesOver w (A_K_comesUp_6 w a0 a1 a2 i17) (i17 : Int))] w _
          refine z_if_eq 81 dX3_comesUp_53 (by decide) (pc' := 56) rfl (z_rb b_K_liesOver) (fun c96 => ?_) (fun c96 => ?_)
          · have h := h.1 c96
            rw [if_pos c96] at ih
            refine z_iinc (pc' := 84) (ls' := [(0, zR 41), (1, zI a0), (2, zI a1), (3, zI a2), (4, zI (A_K_comesUp_6 w a0 a1 a2 i17)), (5, zI ((i17 : Int) + 1))]) 5 rfl (by decide) rfl rfl dX3_comesUp_81 rfl ?_
            refine z_goto 6 dX3_comesUp_84 (by decide) ?_
            exact ih
          · have h := h.2 c96
            rw [if_neg c96] at ih
            refine z_aload_n (pc' := 57) 0 rfl rfl dX3_comesUp_56 rfl ?_
            refine z_iload (pc' := 59) 5 rfl dX3_comesUp_57 rfl ?_
            refine z_iload_n (pc' := 60) 3 rfl rfl dX3_comesUp_59 rfl ?_
            refine z_invV (as := [zI (i17 : Int), zI a2]) (st := []) (C := m_X3_above) (fs := [32, 44, 45, 46, 47, 48, 0, 0, 0]) (pc' := 63) dX3_comesUp_60 rfl t_4_4 k_X3_above rfl (by decide) rfl rfl rfl rfl (Nat.le_of_ble_eq_true rfl) ?_
            obtain ⟨r30, h⟩ := h
            refine c_K_above r30 ?_
            show z_Wp m_X3_comesUp _ 63 [(0, zR 41), (1, zI a0), (2, zI a1), (3, zI a2), (4, zI (A_K_comesUp_6 w a0 a1 a2 i17)), (5, zI (i17 : Int))] [zI (F_K_above w (i17 : Int) a2)] w _
            refine z_aload_n (pc' := 64) 0 rfl rfl dX3_comesUp_63 rfl ?_
            refine z_getR (t := 30) (pc' := 67) g_X3_31 (by decide) rfl rfl dX3_comesUp_64 rfl ?_
            refine z_iload (pc' := 69) 5 rfl dX3_comesUp_67 rfl ?_
            refine z_invV (as := [zI (i17 : Int)]) (st := [zI (F_K_above w (i17 : Int) a2)]) (C := m_X6_drops) (fs := [33, 34]) (pc' := 72) dX3_comesUp_69 rfl t_3_205 k_X6_drops rfl (by decide) rfl rfl rfl rfl (Nat.le_of_ble_eq_true rfl) ?_
            obtain ⟨r31, h⟩ := h
            refine c_Y_drops r31 ?_
            show z_Wp m_X3_comesUp _ 72 [(0, zR 41), (1, zI a0), (2, zI a1), (3, zI a2), (4, zI (A_K_comesUp_6 w a0 a1 a2 i17)), (5, zI (i17 : Int))] [zI ((F_Y_value w 2 (i17 : Int) 0) * (F_Y_value w 0 0 0)), zI (F_K_above w (i17 : Int) a2)] w _
            refine z_iadd (pc' := 73) dX3_comesUp_72 rfl ?_
            refine z_iload_n (pc' := 74) 2 rfl rfl dX3_comesUp_73 rfl ?_
            obtain ⟨r32, h⟩ := h
            have r33 := h
            refine z_icmp_gt 81 dX3_comesUp_74 (by decide) (pc' := 77) rfl r32 r33 (fun c97 => ?_) (fun c97 => ?_)
            · skip
              rw [if_pos c97] at ih
              refine z_iinc (pc' := 84) (ls' := [(0, zR 41), (1, zI a0), (2, zI a1), (3, zI a2), (4, zI (A_K_comesUp_6 w a0 a1 a2 i17)), (5, zI ((i17 : Int) + 1))]) 5 rfl (by decide) rfl rfl dX3_comesUp_81 rfl ?_
              refine z_goto 6 dX3_comesUp_84 (by decide) ?_
              exact ih
            · skip
              rw [if_neg c97] at ih
              refine z_iload (pc' := 79) 5 rfl dX3_comesUp_77 rfl ?_
              refine z_istore (pc' := 81) (ls' := [(0, zR 41), (1, zI a0), (2, zI a1), (3, zI a2), (4, zI (i17 : Int)), (5, zI (i17 : Int))]) (by decide) rfl rfl dX3_comesUp_79 rfl ?_
              refine z_iinc (pc' := 84) (ls' := [(0, zR 41), (1, zI a0), (2, zI a1), (3, zI a2), (4, zI (i17 : Int)), (5, zI ((i17 : Int) + 1))]) 5 rfl (by decide) rfl rfl dX3_comesUp_81 rfl ?_
              refine z_goto 6 dX3_comesUp_84 (by decide) ?_
              exact ih
