def P_T_at (w : z_Wd) (a0 : Int) : Prop := (-2147483648 ≤ a0 ∧ a0 < 2147483648) ∧ ((a0 < 0 → True) ∧ (¬ (a0 < 0) → (-2147483648 ≤ w 28 1 ∧ w 28 1 < 2147483648) ∧ ((a0 ≥ w 28 1 → True) ∧ (¬ (a0 ≥ w 28 1) → 0 ≤ a0 ∧ a0 < 240))))
def F_T_at (w : z_Wd) (a0 : Int) : Int := if a0 < 0 then 0 else if a0 ≥ w 28 1 then 0 else w 29 a0.toNat
set_option maxRecDepth 4000 in
theorem c_T_at {d : Nat} {w : z_Wd} {a0 : Int} {Q : Option z_V → z_Wd → Prop} (h : P_T_at w a0) (k : Q (some (zI (F_T_at w a0))) w) : z_Wc d m_X10_at [zR 28, zI a0] w Q := by
  unfold P_T_at at h
  unfold F_T_at at k
  refine z_enter rfl (Nat.le_of_ble_eq_true rfl) ?_
  show z_Wp m_X10_at _ 0 [(0, zR 28), (1, zI a0)] [] w _
  refine z_iload_n (pc' := 1) 1 rfl rfl dX10_at_0 rfl ?_
  obtain ⟨r1, h⟩ := h
  refine z_if_lt 21 dX10_at_1 (by decide) (pc' := 4) rfl r1 (fun c => ?_) (fun c => ?_)
  · have h := h.1 c
    rw [if_pos c] at k
    refine z_iconst (pc' := 22) dX10_at_21 rfl ?_
    refine z_iret rfl dX10_at_22 ?_
    exact k
  · have h := h.2 c
    rw [if_neg c] at k
    refine z_iload_n (pc' := 5) 1 rfl rfl dX10_at_4 rfl ?_
    refine z_aload_n (pc' := 6) 0 rfl rfl dX10_at_5 rfl ?_
    refine z_getI2 (v := w 28 1) (pc' := 9) g_X10_13 (by decide) rfl rfl rfl dX10_at_6 rfl ?_
    obtain ⟨r2, h⟩ := h
    refine z_icmp_ge 21 dX10_at_9 (by decide) (pc' := 12) rfl r1 r2 (fun c => ?_) (fun c => ?_)
    · have h := h.1 c
      rw [if_pos c] at k
      refine z_iconst (pc' := 22) dX10_at_21 rfl ?_
      refine z_iret rfl dX10_at_22 ?_
      exact k
    · have h := h.2 c
      rw [if_neg c] at k
      refine z_aload_n (pc' := 13) 0 rfl rfl dX10_at_12 rfl ?_
      refine z_getR (t := 29) (pc' := 16) g_X10_9 (by decide) rfl rfl dX10_at_13 rfl ?_
      refine z_iload_n (pc' := 17) 1 rfl rfl dX10_at_16 rfl ?_
      have r3 := h
      refine z_iald2 (v := w 29 a0.toNat) (pc' := 18) (by decide) rfl r3 (by decide) rfl dX10_at_17 rfl ?_
      refine z_goto 22 dX10_at_18 (by decide) ?_
      refine z_iret rfl dX10_at_22 ?_
      exact k
