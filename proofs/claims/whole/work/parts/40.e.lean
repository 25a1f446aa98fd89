/-! the law's reader at 96fdac5: a sign taken, a number, by hand -/
def P_LR_take (w : z_Wd) (a0 : Int) : Prop := (P_T_at w (w 37 2)) ∧ (-2147483648 ≤ F_T_at w (w 37 2) ∧ F_T_at w (w 37 2) < 2147483648) ∧ (-2147483648 ≤ a0 ∧ a0 < 2147483648) ∧ ((F_T_at w (w 37 2) = a0 → P_LR_step w) ∧ (¬ (F_T_at w (w 37 2) = a0) → True))
def F_LR_take (w : z_Wd) (a0 : Int) : Int × z_Wd := if F_T_at w (w 37 2) = a0 then (1, F_LR_step w) else (0, w)
theorem c_LR_take {d : Nat} {w : z_Wd} {a0 : Int} {Q : Option z_V → z_Wd → Prop} (h : P_LR_take w a0) (k : Q (some (zI (F_LR_take w a0).1)) (F_LR_take w a0).2) : z_Wc (d + 3) m_X5_take [zR 37, zI a0] w Q := by
  unfold P_LR_take at h
  unfold F_LR_take at k
  refine v_LR_take (d := d + 1) ⟨h.1, h.2.1, h.2.2.1, fun c => ?_, fun c => ?_⟩
  · rw [if_pos c] at k
    exact ⟨h.2.2.2.1 c, k⟩
  · rw [if_neg c] at k
    exact k
def P_LR_readNumber (w : z_Wd)  : Prop := (P_T_digitsFrom w (w 37 2) 5) ∧ (-2147483648 ≤ F_T_digitsFrom w (w 37 2) 5 ∧ F_T_digitsFrom w (w 37 2) 5 < 2147483648) ∧ ((F_T_digitsFrom w (w 37 2) 5 = 0 → True) ∧ (¬ (F_T_digitsFrom w (w 37 2) 5 = 0) → (F_T_digitsFrom w (w 37 2) 5 ≤ 4 → (P_T_number w (w 37 2) (F_T_digitsFrom w (w 37 2) 5)) ∧ (P_W_add w 0 (F_T_number w (w 37 2) (F_T_digitsFrom w (w 37 2) 5))) ∧ (P_T_behindBlanks (F_W_add w 0 (F_T_number w (w 37 2) (F_T_digitsFrom w (w 37 2) 5))) (((F_W_add w 0 (F_T_number w (w 37 2) (F_T_digitsFrom w (w 37 2) 5))) 37 2) + (F_T_digitsFrom w (w 37 2) 5)))) ∧ (¬ (F_T_digitsFrom w (w 37 2) 5 ≤ 4) → True)))
def F_LR_readNumber (w : z_Wd)  : Int × z_Wd := if F_T_digitsFrom w (w 37 2) 5 = 0 then (0, w) else if F_T_digitsFrom w (w 37 2) 5 ≤ 4 then (1, z_up (F_W_add w 0 (F_T_number w (w 37 2) (F_T_digitsFrom w (w 37 2) 5))) 37 2 (F_T_behindBlanks (F_W_add w 0 (F_T_number w (w 37 2) (F_T_digitsFrom w (w 37 2) 5))) (((F_W_add w 0 (F_T_number w (w 37 2) (F_T_digitsFrom w (w 37 2) 5))) 37 2) + (F_T_digitsFrom w (w 37 2) 5)))) else (0, z_up w 37 2 ((w 37 2) + 4))
theorem c_LR_readNumber {d : Nat} {w : z_Wd} {Q : Option z_V → z_Wd → Prop} (h : P_LR_readNumber w) (k : Q (some (zI (F_LR_readNumber w).1)) (F_LR_readNumber w).2) : z_Wc (d + 3) m_X5_readNumber [zR 37] w Q := by
  unfold P_LR_readNumber at h
  unfold F_LR_readNumber at k
  refine v_LR_readNumber (d := d + 1) ⟨h.1, h.2.1, fun c => ?_, fun c => ⟨fun c2 => ?_, fun c2 => ?_⟩⟩
  · rw [if_pos c] at k
    exact k
  · rw [if_neg c, if_pos c2] at k
    obtain ⟨p1, p2, p3⟩ := (h.2.2.2 c).1 c2
    exact ⟨p1, p2, p3, k⟩
  · rw [if_neg c, if_neg c2] at k
    exact k
