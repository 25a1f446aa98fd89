def P_G_missedIn (w : z_Wd) (a0 : Int) (a1 : Int) (a2 : Int) (a3 : Int) : Prop := (P_Y_knownBy w a1) ∧ (-2147483648 ≤ w 55 5 ∧ w 55 5 < 2147483648) ∧ ((w 55 5 < 0 → P_Y_value w 2 a1 0) ∧ (¬ (w 55 5 < 0) → (w 55 5 < 4 → (P_Y_value w 2 a1 0) ∧ (P_Y_isForeign (z_up (z_up (z_up w 57 0 (F_Y_value w 2 a1 0)) 57 1 (F_J_bitCount_0f7a4 w (zz_and (F_Y_knownBy w a1) a3))) 57 2 a2) a1) ∧ ((F_Y_isForeign (z_up (z_up (z_up w 57 0 (F_Y_value w 2 a1 0)) 57 1 (F_J_bitCount_0f7a4 w (zz_and (F_Y_knownBy w a1) a3))) 57 2 a2) a1 = 0 → (0 ≤ w 55 5 ∧ w 55 5 < 4) ∧ ((w 55 5 = 0 → (P_W_weigh_58_57 (z_up (z_up (z_up (z_up (z_up (z_up w 57 0 (F_Y_value w 2 a1 0)) 57 1 (F_J_bitCount_0f7a4 w (zz_and (F_Y_knownBy w a1) a3))) 57 2 a2) 57 3 0) 57 4 a0) 57 5 (w 41 8))) ∧ (P_J_min_7cf53 ((F_W_weigh_58_57 (z_up (z_up (z_up (z_up (z_up (z_up w 57 0 (F_Y_value w 2 a1 0)) 57 1 (F_J_bitCount_0f7a4 w (zz_and (F_Y_knownBy w a1) a3))) 57 2 a2) 57 3 0) 57 4 a0) 57 5 (w 41 8))).2) 30 ((F_W_weigh_58_57 (z_up (z_up (z_up (z_up (z_up (z_up w 57 0 (F_Y_value w 2 a1 0)) 57 1 (F_J_bitCount_0f7a4 w (zz_and (F_Y_knownBy w a1) a3))) 57 2 a2) 57 3 0) 57 4 a0) 57 5 (w 41 8))).1)) ∧ (P_J_max_7cf53 ((F_W_weigh_58_57 (z_up (z_up (z_up (z_up (z_up (z_up w 57 0 (F_Y_value w 2 a1 0)) 57 1 (F_J_bitCount_0f7a4 w (zz_and (F_Y_knownBy w a1) a3))) 57 2 a2) 57 3 0) 57 4 a0) 57 5 (w 41 8))).2) 0 (F_J_min_7cf53 ((F_W_weigh_58_57 (z_up (z_up (z_up (z_up (z_up (z_up w 57 0 (F_Y_value w 2 a1 0)) 57 1 (F_J_bitCount_0f7a4 w (zz_and (F_Y_knownBy w a1) a3))) 57 2 a2) 57 3 0) 57 4 a0) 57 5 (w 41 8))).2) 30 ((F_W_weigh_58_57 (z_up (z_up (z_up (z_up (z_up (z_up w 57 0 (F_Y_value w 2 a1 0)) 57 1 (F_J_bitCount_0f7a4 w (zz_and (F_Y_knownBy w a1) a3))) 57 2 a2) 57 3 0) 57 4 a0) 57 5 (w 41 8))).1)))) ∧ (¬ (w 55 5 = 0) → (w 55 5 = 1 → (P_W_weigh_61_57 (z_up (z_up (z_up (z_up (z_up (z_up w 57 0 (F_Y_value w 2 a1 0)) 57 1 (F_J_bitCount_0f7a4 w (zz_and (F_Y_knownBy w a1) a3))) 57 2 a2) 57 3 0) 57 4 a0) 57 5 (w 41 8))) ∧ (P_J_min_7cf53 ((F_W_weigh_61_57 (z_up (z_up (z_up (z_up (z_up (z_up w 57 0 (F_Y_value w 2 a1 0)) 57 1 (F_J_bitCount_0f7a4 w (zz_and (F_Y_knownBy w a1) a3))) 57 2 a2) 57 3 0) 57 4 a0) 57 5 (w 41 8))).2) 30 ((F_W_weigh_61_57 (z_up (z_up (z_up (z_up (z_up (z_up w 57 0 (F_Y_value w 2 a1 0)) 57 1 (F_J_bitCount_0f7a4 w (zz_and (F_Y_knownBy w a1) a3))) 57 2 a2) 57 3 0) 57 4 a0) 57 5 (w 41 8))).1)) ∧ (P_J_max_7cf53 ((F_W_weigh_61_57 (z_up (z_up (z_up (z_up (z_up (z_up w 57 0 (F_Y_value w 2 a1 0)) 57 1 (F_J_bitCount_0f7a4 w (zz_and (F_Y_knownBy w a1) a3))) 57 2 a2) 57 3 0) 57 4 a0) 57 5 (w 41 8))).2) 0 (F_J_min_7cf53 ((F_W_weigh_61_57 (z_up (z_up (z_up (z_up (z_up (z_up w 57 0 (F_Y_value w 2 a1 0)) 57 1 (F_J_bitCount_0f7a4 w (zz_and (F_Y_knownBy w a1) a3))) 57 2 a2) 57 3 0) 57 4 a0) 57 5 (w 41 8))).2) 30 ((F_W_weigh_61_57 (z_up (z_up (z_up (z_up (z_up (z_up w 57 0 (F_Y_value w 2 a1 0)) 57 1 (F_J_bitCount_0f7a4 w (zz_and (F_Y_knownBy w a1) a3))) 57 2 a2) 57 3 0) 57 4 a0) 57 5 (w 41 8))).1)))) ∧ (¬ (w 55 5 = 1) → (w 55 5 = 2 → (P_W_weigh_64_57 (z_up (z_up (z_up (z_up (z_up (z_up w 57 0 (F_Y_value w 2 a1 0)) 57 1 (F_J_bitCount_0f7a4 w (zz_and (F_Y_knownBy w a1) a3))) 57 2 a2) 57 3 0) 57 4 a0) 57 5 (w 41 8))) ∧ (P_J_min_7cf53 ((F_W_weigh_64_57 (z_up (z_up (z_up (z_up (z_up (z_up w 57 0 (F_Y_value w 2 a1 0)) 57 1 (F_J_bitCount_0f7a4 w (zz_and (F_Y_knownBy w a1) a3))) 57 2 a2) 57 3 0) 57 4 a0) 57 5 (w 41 8))).2) 30 ((F_W_weigh_64_57 (z_up (z_up (z_up (z_up (z_up (z_up w 57 0 (F_Y_value w 2 a1 0)) 57 1 (F_J_bitCount_0f7a4 w (zz_and (F_Y_knownBy w a1) a3))) 57 2 a2) 57 3 0) 57 4 a0) 57 5 (w 41 8))).1)) ∧ (P_J_max_7cf53 ((F_W_weigh_64_57 (z_up (z_up (z_up (z_up (z_up (z_up w 57 0 (F_Y_value w 2 a1 0)) 57 1 (F_J_bitCount_0f7a4 w (zz_and (F_Y_knownBy w a1) a3))) 57 2 a2) 57 3 0) 57 4 a0) 57 5 (w 41 8))).2) 0 (F_J_min_7cf53 ((F_W_weigh_64_57 (z_up (z_up (z_up (z_up (z_up (z_up w 57 0 (F_Y_value w 2 a1 0)) 57 1 (F_J_bitCount_0f7a4 w (zz_and (F_Y_knownBy w a1) a3))) 57 2 a2) 57 3 0) 57 4 a0) 57 5 (w 41 8))).2) 30 ((F_W_weigh_64_57 (z_up (z_up (z_up (z_up (z_up (z_up w 57 0 (F_Y_value w 2 a1 0)) 57 1 (F_J_bitCount_0f7a4 w (zz_and (F_Y_knownBy w a1) a3))) 57 2 a2) 57 3 0) 57 4 a0) 57 5 (w 41 8))).1)))) ∧ (¬ (w 55 5 = 2) → (P_W_weigh_67_57 (z_up (z_up (z_up (z_up (z_up (z_up w 57 0 (F_Y_value w 2 a1 0)) 57 1 (F_J_bitCount_0f7a4 w (zz_and (F_Y_knownBy w a1) a3))) 57 2 a2) 57 3 0) 57 4 a0) 57 5 (w 41 8))) ∧ (P_J_min_7cf53 ((F_W_weigh_67_57 (z_up (z_up (z_up (z_up (z_up (z_up w 57 0 (F_Y_value w 2 a1 0)) 57 1 (F_J_bitCount_0f7a4 w (zz_and (F_Y_knownBy w a1) a3))) 57 2 a2) 57 3 0) 57 4 a0) 57 5 (w 41 8))).2) 30 ((F_W_weigh_67_57 (z_up (z_up (z_up (z_up (z_up (z_up w 57 0 (F_Y_value w 2 a1 0)) 57 1 (F_J_bitCount_0f7a4 w (zz_and (F_Y_knownBy w a1) a3))) 57 2 a2) 57 3 0) 57 4 a0) 57 5 (w 41 8))).1)) ∧ (P_J_max_7cf53 ((F_W_weigh_67_57 (z_up (z_up (z_up (z_up (z_up (z_up w 57 0 (F_Y_value w 2 a1 0)) 57 1 (F_J_bitCount_0f7a4 w (zz_and (F_Y_knownBy w a1) a3))) 57 2 a2) 57 3 0) 57 4 a0) 57 5 (w 41 8))).2) 0 (F_J_min_7cf53 ((F_W_weigh_67_57 (z_up (z_up (z_up (z_up (z_up (z_up w 57 0 (F_Y_value w 2 a1 0)) 57 1 (F_J_bitCount_0f7a4 w (zz_and (F_Y_knownBy w a1) a3))) 57 2 a2) 57 3 0) 57 4 a0) 57 5 (w 41 8))).2) 30 ((F_W_weigh_67_57 (z_up (z_up (z_up (z_up (z_up (z_up w 57 0 (F_Y_value w 2 a1 0)) 57 1 (F_J_bitCount_0f7a4 w (zz_and (F_Y_knownBy w a1) a3))) 57 2 a2) 57 3 0) 57 4 a0) 57 5 (w 41 8))).1)))))))) ∧ (¬ (F_Y_isForeign (z_up (z_up (z_up w 57 0 (F_Y_value w 2 a1 0)) 57 1 (F_J_bitCount_0f7a4 w (zz_and (F_Y_knownBy w a1) a3))) 57 2 a2) a1 = 0) → (0 ≤ w 55 5 ∧ w 55 5 < 4) ∧ ((w 55 5 = 0 → (P_W_weigh_58_57 (z_up (z_up (z_up (z_up (z_up (z_up w 57 0 (F_Y_value w 2 a1 0)) 57 1 (F_J_bitCount_0f7a4 w (zz_and (F_Y_knownBy w a1) a3))) 57 2 a2) 57 3 1) 57 4 a0) 57 5 (w 41 8))) ∧ (P_J_min_7cf53 ((F_W_weigh_58_57 (z_up (z_up (z_up (z_up (z_up (z_up w 57 0 (F_Y_value w 2 a1 0)) 57 1 (F_J_bitCount_0f7a4 w (zz_and (F_Y_knownBy w a1) a3))) 57 2 a2) 57 3 1) 57 4 a0) 57 5 (w 41 8))).2) 30 ((F_W_weigh_58_57 (z_up (z_up (z_up (z_up (z_up (z_up w 57 0 (F_Y_value w 2 a1 0)) 57 1 (F_J_bitCount_0f7a4 w (zz_and (F_Y_knownBy w a1) a3))) 57 2 a2) 57 3 1) 57 4 a0) 57 5 (w 41 8))).1)) ∧ (P_J_max_7cf53 ((F_W_weigh_58_57 (z_up (z_up (z_up (z_up (z_up (z_up w 57 0 (F_Y_value w 2 a1 0)) 57 1 (F_J_bitCount_0f7a4 w (zz_and (F_Y_knownBy w a1) a3))) 57 2 a2) 57 3 1) 57 4 a0) 57 5 (w 41 8))).2) 0 (F_J_min_7cf53 ((F_W_weigh_58_57 (z_up (z_up (z_up (z_up (z_up (z_up w 57 0 (F_Y_value w 2 a1 0)) 57 1 (F_J_bitCount_0f7a4 w (zz_and (F_Y_knownBy w a1) a3))) 57 2 a2) 57 3 1) 57 4 a0) 57 5 (w 41 8))).2) 30 ((F_W_weigh_58_57 (z_up (z_up (z_up (z_up (z_up (z_up w 57 0 (F_Y_value w 2 a1 0)) 57 1 (F_J_bitCount_0f7a4 w (zz_and (F_Y_knownBy w a1) a3))) 57 2 a2) 57 3 1) 57 4 a0) 57 5 (w 41 8))).1)))) ∧ (¬ (w 55 5 = 0) → (w 55 5 = 1 → (P_W_weigh_61_57 (z_up (z_up (z_up (z_up (z_up (z_up w 57 0 (F_Y_value w 2 a1 0)) 57 1 (F_J_bitCount_0f7a4 w (zz_and (F_Y_knownBy w a1) a3))) 57 2 a2) 57 3 1) 57 4 a0) 57 5 (w 41 8))) ∧ (P_J_min_7cf53 ((F_W_weigh_61_57 (z_up (z_up (z_up (z_up (z_up (z_up w 57 0 (F_Y_value w 2 a1 0)) 57 1 (F_J_bitCount_0f7a4 w (zz_and (F_Y_knownBy w a1) a3))) 57 2 a2) 57 3 1) 57 4 a0) 57 5 (w 41 8))).2) 30 ((F_W_weigh_61_57 (z_up (z_up (z_up (z_up (z_up (z_up w 57 0 (F_Y_value w 2 a1 0)) 57 1 (F_J_bitCount_0f7a4 w (zz_and (F_Y_knownBy w a1) a3))) 57 2 a2) 57 3 1) 57 4 a0) 57 5 (w 41 8))).1)) ∧ (P_J_max_7cf53 ((F_W_weigh_61_57 (z_up (z_up (z_up (z_up (z_up (z_up w 57 0 (F_Y_value w 2 a1 0)) 57 1 (F_J_bitCount_0f7a4 w (zz_and (F_Y_knownBy w a1) a3))) 57 2 a2) 57 3 1) 57 4 a0) 57 5 (w 41 8))).2) 0 (F_J_min_7cf53 ((F_W_weigh_61_57 (z_up (z_up (z_up (z_up (z_up (z_up w 57 0 (F_Y_value w 2 a1 0)) 57 1 (F_J_bitCount_0f7a4 w (zz_and (F_Y_knownBy w a1) a3))) 57 2 a2) 57 3 1) 57 4 a0) 57 5 (w 41 8))).2) 30 ((F_W_weigh_61_57 (z_up (z_up (z_up (z_up (z_up (z_up w 57 0 (F_Y_value w 2 a1 0)) 57 1 (F_J_bitCount_0f7a4 w (zz_and (F_Y_knownBy w a1) a3))) 57 2 a2) 57 3 1) 57 4 a0) 57 5 (w 41 8))).1)))) ∧ (¬ (w 55 5 = 1) → (w 55 5 = 2 → (P_W_weigh_64_57 (z_up (z_up (z_up (z_up (z_up (z_up w 57 0 (F_Y_value w 2 a1 0)) 57 1 (F_J_bitCount_0f7a4 w (zz_and (F_Y_knownBy w a1) a3))) 57 2 a2) 57 3 1) 57 4 a0) 57 5 (w 41 8))) ∧ (P_J_min_7cf53 ((F_W_weigh_64_57 (z_up (z_up (z_up (z_up (z_up (z_up w 57 0 (F_Y_value w 2 a1 0)) 57 1 (F_J_bitCount_0f7a4 w (zz_and (F_Y_knownBy w a1) a3))) 57 2 a2) 57 3 1) 57 4 a0) 57 5 (w 41 8))).2) 30 ((F_W_weigh_64_57 (z_up (z_up (z_up (z_up (z_up (z_up w 57 0 (F_Y_value w 2 a1 0)) 57 1 (F_J_bitCount_0f7a4 w (zz_and (F_Y_knownBy w a1) a3))) 57 2 a2) 57 3 1) 57 4 a0) 57 5 (w 41 8))).1)) ∧ (P_J_max_7cf53 ((F_W_weigh_64_57 (z_up (z_up (z_up (z_up (z_up (z_up w 57 0 (F_Y_value w 2 a1 0)) 57 1 (F_J_bitCount_0f7a4 w (zz_and (F_Y_knownBy w a1) a3))) 57 2 a2) 57 3 1) 57 4 a0) 57 5 (w 41 8))).2) 0 (F_J_min_7cf53 ((F_W_weigh_64_57 (z_up (z_up (z_up (z_up (z_up (z_up w 57 0 (F_Y_value w 2 a1 0)) 57 1 (F_J_bitCount_0f7a4 w (zz_and (F_Y_knownBy w a1) a3))) 57 2 a2) 57 3 1) 57 4 a0) 57 5 (w 41 8))).2) 30 ((F_W_weigh_64_57 (z_up (z_up (z_up (z_up (z_up (z_up w 57 0 (F_Y_value w 2 a1 0)) 57 1 (F_J_bitCount_0f7a4 w (zz_and (F_Y_knownBy w a1) a3))) 57 2 a2) 57 3 1) 57 4 a0) 57 5 (w 41 8))).1)))) ∧ (¬ (w 55 5 = 2) → (P_W_weigh_67_57 (z_up (z_up (z_up (z_up (z_up (z_up w 57 0 (F_Y_value w 2 a1 0)) 57 1 (F_J_bitCount_0f7a4 w (zz_and (F_Y_knownBy w a1) a3))) 57 2 a2) 57 3 1) 57 4 a0) 57 5 (w 41 8))) ∧ (P_J_min_7cf53 ((F_W_weigh_67_57 (z_up (z_up (z_up (z_up (z_up (z_up w 57 0 (F_Y_value w 2 a1 0)) 57 1 (F_J_bitCount_0f7a4 w (zz_and (F_Y_knownBy w a1) a3))) 57 2 a2) 57 3 1) 57 4 a0) 57 5 (w 41 8))).2) 30 ((F_W_weigh_67_57 (z_up (z_up (z_up (z_up (z_up (z_up w 57 0 (F_Y_value w 2 a1 0)) 57 1 (F_J_bitCount_0f7a4 w (zz_and (F_Y_knownBy w a1) a3))) 57 2 a2) 57 3 1) 57 4 a0) 57 5 (w 41 8))).1)) ∧ (P_J_max_7cf53 ((F_W_weigh_67_57 (z_up (z_up (z_up (z_up (z_up (z_up w 57 0 (F_Y_value w 2 a1 0)) 57 1 (F_J_bitCount_0f7a4 w (zz_and (F_Y_knownBy w a1) a3))) 57 2 a2) 57 3 1) 57 4 a0) 57 5 (w 41 8))).2) 0 (F_J_min_7cf53 ((F_W_weigh_67_57 (z_up (z_up (z_up (z_up (z_up (z_up w 57 0 (F_Y_value w 2 a1 0)) 57 1 (F_J_bitCount_0f7a4 w (zz_and (F_Y_knownBy w a1) a3))) 57 2 a2) 57 3 1) 57 4 a0) 57 5 (w 41 8))).2) 30 ((F_W_weigh_67_57 (z_up (z_up (z_up (z_up (z_up (z_up w 57 0 (F_Y_value w 2 a1 0)) 57 1 (F_J_bitCount_0f7a4 w (zz_and (F_Y_knownBy w a1) a3))) 57 2 a2) 57 3 1) 57 4 a0) 57 5 (w 41 8))).1)))))))))) ∧ (¬ (w 55 5 < 4) → P_Y_value w 2 a1 0)))
def F_G_missedIn (w : z_Wd) (a0 : Int) (a1 : Int) (a2 : Int) (a3 : Int) : Int × z_Wd := if w 55 5 < 0 then ((F_Y_value w 2 a1 0) + (2 * (F_J_bitCount_0f7a4 w (zz_and (F_Y_knownBy w a1) a3))), w) else if w 55 5 < 4 then if F_Y_isForeign (z_up (z_up (z_up w 57 0 (F_Y_value w 2 a1 0)) 57 1 (F_J_bitCount_0f7a4 w (zz_and (F_Y_knownBy w a1) a3))) 57 2 a2) a1 = 0 then if w 55 5 = 0 then (F_J_max_7cf53 ((F_W_weigh_58_57 (z_up (z_up (z_up (z_up (z_up (z_up w 57 0 (F_Y_value w 2 a1 0)) 57 1 (F_J_bitCount_0f7a4 w (zz_and (F_Y_knownBy w a1) a3))) 57 2 a2) 57 3 0) 57 4 a0) 57 5 (w 41 8))).2) 0 (F_J_min_7cf53 ((F_W_weigh_58_57 (z_up (z_up (z_up (z_up (z_up (z_up w 57 0 (F_Y_value w 2 a1 0)) 57 1 (F_J_bitCount_0f7a4 w (zz_and (F_Y_knownBy w a1) a3))) 57 2 a2) 57 3 0) 57 4 a0) 57 5 (w 41 8))).2) 30 ((F_W_weigh_58_57 (z_up (z_up (z_up (z_up (z_up (z_up w 57 0 (F_Y_value w 2 a1 0)) 57 1 (F_J_bitCount_0f7a4 w (zz_and (F_Y_knownBy w a1) a3))) 57 2 a2) 57 3 0) 57 4 a0) 57 5 (w 41 8))).1)), (F_W_weigh_58_57 (z_up (z_up (z_up (z_up (z_up (z_up w 57 0 (F_Y_value w 2 a1 0)) 57 1 (F_J_bitCount_0f7a4 w (zz_and (F_Y_knownBy w a1) a3))) 57 2 a2) 57 3 0) 57 4 a0) 57 5 (w 41 8))).2) else if w 55 5 = 1 then (F_J_max_7cf53 ((F_W_weigh_61_57 (z_up (z_up (z_up (z_up (z_up (z_up w 57 0 (F_Y_value w 2 a1 0)) 57 1 (F_J_bitCount_0f7a4 w (zz_and (F_Y_knownBy w a1) a3))) 57 2 a2) 57 3 0) 57 4 a0) 57 5 (w 41 8))).2) 0 (F_J_min_7cf53 ((F_W_weigh_61_57 (z_up (z_up (z_up (z_up (z_up (z_up w 57 0 (F_Y_value w 2 a1 0)) 57 1 (F_J_bitCount_0f7a4 w (zz_and (F_Y_knownBy w a1) a3))) 57 2 a2) 57 3 0) 57 4 a0) 57 5 (w 41 8))).2) 30 ((F_W_weigh_61_57 (z_up (z_up (z_up (z_up (z_up (z_up w 57 0 (F_Y_value w 2 a1 0)) 57 1 (F_J_bitCount_0f7a4 w (zz_and (F_Y_knownBy w a1) a3))) 57 2 a2) 57 3 0) 57 4 a0) 57 5 (w 41 8))).1)), (F_W_weigh_61_57 (z_up (z_up (z_up (z_up (z_up (z_up w 57 0 (F_Y_value w 2 a1 0)) 57 1 (F_J_bitCount_0f7a4 w (zz_and (F_Y_knownBy w a1) a3))) 57 2 a2) 57 3 0) 57 4 a0) 57 5 (w 41 8))).2) else if w 55 5 = 2 then (F_J_max_7cf53 ((F_W_weigh_64_57 (z_up (z_up (z_up (z_up (z_up (z_up w 57 0 (F_Y_value w 2 a1 0)) 57 1 (F_J_bitCount_0f7a4 w (zz_and (F_Y_knownBy w a1) a3))) 57 2 a2) 57 3 0) 57 4 a0) 57 5 (w 41 8))).2) 0 (F_J_min_7cf53 ((F_W_weigh_64_57 (z_up (z_up (z_up (z_up (z_up (z_up w 57 0 (F_Y_value w 2 a1 0)) 57 1 (F_J_bitCount_0f7a4 w (zz_and (F_Y_knownBy w a1) a3))) 57 2 a2) 57 3 0) 57 4 a0) 57 5 (w 41 8))).2) 30 ((F_W_weigh_64_57 (z_up (z_up (z_up (z_up (z_up (z_up w 57 0 (F_Y_value w 2 a1 0)) 57 1 (F_J_bitCount_0f7a4 w (zz_and (F_Y_knownBy w a1) a3))) 57 2 a2) 57 3 0) 57 4 a0) 57 5 (w 41 8))).1)), (F_W_weigh_64_57 (z_up (z_up (z_up (z_up (z_up (z_up w 57 0 (F_Y_value w 2 a1 0)) 57 1 (F_J_bitCount_0f7a4 w (zz_and (F_Y_knownBy w a1) a3))) 57 2 a2) 57 3 0) 57 4 a0) 57 5 (w 41 8))).2) else (F_J_max_7cf53 ((F_W_weigh_67_57 (z_up (z_up (z_up (z_up (z_up (z_up w 57 0 (F_Y_value w 2 a1 0)) 57 1 (F_J_bitCount_0f7a4 w (zz_and (F_Y_knownBy w a1) a3))) 57 2 a2) 57 3 0) 57 4 a0) 57 5 (w 41 8))).2) 0 (F_J_min_7cf53 ((F_W_weigh_67_57 (z_up (z_up (z_up (z_up (z_up (z_up w 57 0 (F_Y_value w 2 a1 0)) 57 1 (F_J_bitCount_0f7a4 w (zz_and (F_Y_knownBy w a1) a3))) 57 2 a2) 57 3 0) 57 4 a0) 57 5 (w 41 8))).2) 30 ((F_W_weigh_67_57 (z_up (z_up (z_up (z_up (z_up (z_up w 57 0 (F_Y_value w 2 a1 0)) 57 1 (F_J_bitCount_0f7a4 w (zz_and (F_Y_knownBy w a1) a3))) 57 2 a2) 57 3 0) 57 4 a0) 57 5 (w 41 8))).1)), (F_W_weigh_67_57 (z_up (z_up (z_up (z_up (z_up (z_up w 57 0 (F_Y_value w 2 a1 0)) 57 1 (F_J_bitCount_0f7a4 w (zz_and (F_Y_knownBy w a1) a3))) 57 2 a2) 57 3 0) 57 4 a0) 57 5 (w 41 8))).2) else if w 55 5 = 0 then (F_J_max_7cf53 ((F_W_weigh_58_57 (z_up (z_up (z_up (z_up (z_up (z_up w 57 0 (F_Y_value w 2 a1 0)) 57 1 (F_J_bitCount_0f7a4 w (zz_and (F_Y_knownBy w a1) a3))) 57 2 a2) 57 3 1) 57 4 a0) 57 5 (w 41 8))).2) 0 (F_J_min_7cf53 ((F_W_weigh_58_57 (z_up (z_up (z_up (z_up (z_up (z_up w 57 0 (F_Y_value w 2 a1 0)) 57 1 (F_J_bitCount_0f7a4 w (zz_and (F_Y_knownBy w a1) a3))) 57 2 a2) 57 3 1) 57 4 a0) 57 5 (w 41 8))).2) 30 ((F_W_weigh_58_57 (z_up (z_up (z_up (z_up (z_up (z_up w 57 0 (F_Y_value w 2 a1 0)) 57 1 (F_J_bitCount_0f7a4 w (zz_and (F_Y_knownBy w a1) a3))) 57 2 a2) 57 3 1) 57 4 a0) 57 5 (w 41 8))).1)), (F_W_weigh_58_57 (z_up (z_up (z_up (z_up (z_up (z_up w 57 0 (F_Y_value w 2 a1 0)) 57 1 (F_J_bitCount_0f7a4 w (zz_and (F_Y_knownBy w a1) a3))) 57 2 a2) 57 3 1) 57 4 a0) 57 5 (w 41 8))).2) else if w 55 5 = 1 then (F_J_max_7cf53 ((F_W_weigh_61_57 (z_up (z_up (z_up (z_up (z_up (z_up w 57 0 (F_Y_value w 2 a1 0)) 57 1 (F_J_bitCount_0f7a4 w (zz_and (F_Y_knownBy w a1) a3))) 57 2 a2) 57 3 1) 57 4 a0) 57 5 (w 41 8))).2) 0 (F_J_min_7cf53 ((F_W_weigh_61_57 (z_up (z_up (z_up (z_up (z_up (z_up w 57 0 (F_Y_value w 2 a1 0)) 57 1 (F_J_bitCount_0f7a4 w (zz_and (F_Y_knownBy w a1) a3))) 57 2 a2) 57 3 1) 57 4 a0) 57 5 (w 41 8))).2) 30 ((F_W_weigh_61_57 (z_up (z_up (z_up (z_up (z_up (z_up w 57 0 (F_Y_value w 2 a1 0)) 57 1 (F_J_bitCount_0f7a4 w (zz_and (F_Y_knownBy w a1) a3))) 57 2 a2) 57 3 1) 57 4 a0) 57 5 (w 41 8))).1)), (F_W_weigh_61_57 (z_up (z_up (z_up (z_up (z_up (z_up w 57 0 (F_Y_value w 2 a1 0)) 57 1 (F_J_bitCount_0f7a4 w (zz_and (F_Y_knownBy w a1) a3))) 57 2 a2) 57 3 1) 57 4 a0) 57 5 (w 41 8))).2) else if w 55 5 = 2 then (F_J_max_7cf53 ((F_W_weigh_64_57 (z_up (z_up (z_up (z_up (z_up (z_up w 57 0 (F_Y_value w 2 a1 0)) 57 1 (F_J_bitCount_0f7a4 w (zz_and (F_Y_knownBy w a1) a3))) 57 2 a2) 57 3 1) 57 4 a0) 57 5 (w 41 8))).2) 0 (F_J_min_7cf53 ((F_W_weigh_64_57 (z_up (z_up (z_up (z_up (z_up (z_up w 57 0 (F_Y_value w 2 a1 0)) 57 1 (F_J_bitCount_0f7a4 w (zz_and (F_Y_knownBy w a1) a3))) 57 2 a2) 57 3 1) 57 4 a0) 57 5 (w 41 8))).2) 30 ((F_W_weigh_64_57 (z_up (z_up (z_up (z_up (z_up (z_up w 57 0 (F_Y_value w 2 a1 0)) 57 1 (F_J_bitCount_0f7a4 w (zz_and (F_Y_knownBy w a1) a3))) 57 2 a2) 57 3 1) 57 4 a0) 57 5 (w 41 8))).1)), (F_W_weigh_64_57 (z_up (z_up (z_up (z_up (z_up (z_up w 57 0 (F_Y_value w 2 a1 0)) 57 1 (F_J_bitCount_0f7a4 w (zz_and (F_Y_knownBy w a1) a3))) 57 2 a2) 57 3 1) 57 4 a0) 57 5 (w 41 8))).2) else (F_J_max_7cf53 ((F_W_weigh_67_57 (z_up (z_up (z_up (z_up (z_up (z_up w 57 0 (F_Y_value w 2 a1 0)) 57 1 (F_J_bitCount_0f7a4 w (zz_and (F_Y_knownBy w a1) a3))) 57 2 a2) 57 3 1) 57 4 a0) 57 5 (w 41 8))).2) 0 (F_J_min_7cf53 ((F_W_weigh_67_57 (z_up (z_up (z_up (z_up (z_up (z_up w 57 0 (F_Y_value w 2 a1 0)) 57 1 (F_J_bitCount_0f7a4 w (zz_and (F_Y_knownBy w a1) a3))) 57 2 a2) 57 3 1) 57 4 a0) 57 5 (w 41 8))).2) 30 ((F_W_weigh_67_57 (z_up (z_up (z_up (z_up (z_up (z_up w 57 0 (F_Y_value w 2 a1 0)) 57 1 (F_J_bitCount_0f7a4 w (zz_and (F_Y_knownBy w a1) a3))) 57 2 a2) 57 3 1) 57 4 a0) 57 5 (w 41 8))).1)), (F_W_weigh_67_57 (z_up (z_up (z_up (z_up (z_up (z_up w 57 0 (F_Y_value w 2 a1 0)) 57 1 (F_J_bitCount_0f7a4 w (zz_and (F_Y_knownBy w a1) a3))) 57 2 a2) 57 3 1) 57 4 a0) 57 5 (w 41 8))).2) else ((F_Y_value w 2 a1 0) + (2 * (F_J_bitCount_0f7a4 w (zz_and (F_Y_knownBy w a1) a3))), w)
set_option maxRecDepth 4000 in
theorem c_G_missedIn {d : Nat} {w : z_Wd} {a0 a1 a2 a3 : Int} {Q : Option z_V → z_Wd → Prop} (h : P_G_missedIn w a0 a1 a2 a3) (k : Q (some (zI (F_G_missedIn w a0 a1 a2 a3).1)) (F_G_missedIn w a0 a1 a2 a3).2) : z_Wc (d + 4) m_X1_missedIn [zR 55, zI a0, zI a1, zI a2, zI a3] w Q := by
  unfold P_G_missedIn at h
  unfold F_G_missedIn at k
  refine z_enter rfl (Nat.le_of_ble_eq_true rfl) ?_
  show z_Wp m_X1_missedIn _ 0 [(0, zR 55), (1, zI a0), (2, zI a1), (3, zI a2), (4, zI a3)] [] w _
  refine z_aload_n (pc' := 1) 0 rfl rfl dX1_missedIn_0 rfl ?_
  refine z_getR (t := 30) (pc' := 4) g_X1_25 (by decide) rfl rfl dX1_missedIn_1 rfl ?_
  refine z_iload_n (pc' := 5) 2 rfl rfl dX1_missedIn_4 rfl ?_
  refine z_invV (as := [zI a1]) (st := []) (C := m_X6_knownBy) (fs := [33, 34]) (pc' := 8) dX1_missedIn_5 rfl t_4_82 k_X6_knownBy rfl (by decide) rfl rfl rfl rfl (Nat.le_of_ble_eq_true rfl) ?_
  obtain ⟨r1, h⟩ := h
  refine c_Y_knownBy r1 ?_
  show z_Wp m_X1_missedIn _ 8 [(0, zR 55), (1, zI a0), (2, zI a1), (3, zI a2), (4, zI a3)] [zI (F_Y_knownBy w a1)] w _
  refine z_iload (pc' := 10) 4 rfl dX1_missedIn_8 rfl ?_
  refine z_iand (pc' := 11) dX1_missedIn_10 rfl ?_
  refine z_invS (as := [zI (zz_and (F_Y_knownBy w a1) a3)]) (st := []) (C := m_J6_bitCount_0f7a4) (pc' := 14) dX1_missedIn_11 rfl t_4_86 k_J6_bitCount_0f7a4 rfl rfl (Nat.le_of_ble_eq_true rfl) ?_
  refine c_J_bitCount_0f7a4 ?_
  show z_Wp m_X1_missedIn _ 14 [(0, zR 55), (1, zI a0), (2, zI a1), (3, zI a2), (4, zI a3)] [zI (F_J_bitCount_0f7a4 w (zz_and (F_Y_knownBy w a1) a3))] w _
  refine z_istore (pc' := 16) (ls' := [(0, zR 55), (1, zI a0), (2, zI a1), (3, zI a2), (4, zI a3), (5, zI (F_J_bitCount_0f7a4 w (zz_and (F_Y_knownBy w a1) a3)))]) (by decide) rfl rfl dX1_missedIn_14 rfl ?_
  refine z_aload_n (pc' := 17) 0 rfl rfl dX1_missedIn_16 rfl ?_
  refine z_getI2 (v := w 55 5) (pc' := 20) g_X1_21 (by decide) rfl rfl rfl dX1_missedIn_17 rfl ?_
  obtain ⟨r2, h⟩ := h
  refine z_if_lt 31 dX1_missedIn_20 (by decide) (pc' := 23) rfl r2 (fun c => ?_) (fun c => ?_)
  · have h := h.1 c
    rw [if_pos c] at k
    refine z_aload_n (pc' := 32) 0 rfl rfl dX1_missedIn_31 rfl ?_
    refine z_getR (t := 30) (pc' := 35) g_X1_25 (by decide) rfl rfl dX1_missedIn_32 rfl ?_
    refine z_iload_n (pc' := 36) 2 rfl rfl dX1_missedIn_35 rfl ?_
    refine z_invV (as := [zI a1]) (st := []) (C := m_X6_syllables) (fs := [33, 34]) (pc' := 39) dX1_missedIn_36 rfl t_4_87 k_X6_syllables rfl (by decide) rfl rfl rfl rfl (Nat.le_of_ble_eq_true rfl) ?_
    have r3 := h
    refine c_Y_syllables r3 ?_
    show z_Wp m_X1_missedIn _ 39 [(0, zR 55), (1, zI a0), (2, zI a1), (3, zI a2), (4, zI a3), (5, zI (F_J_bitCount_0f7a4 w (zz_and (F_Y_knownBy w a1) a3)))] [zI (F_Y_value w 2 a1 0)] w _
    refine z_iconst (pc' := 40) dX1_missedIn_39 rfl ?_
    refine z_iload (pc' := 42) 5 rfl dX1_missedIn_40 rfl ?_
    refine z_imul (pc' := 43) dX1_missedIn_42 rfl ?_
    refine z_iadd (pc' := 44) dX1_missedIn_43 rfl ?_
    refine z_iret rfl dX1_missedIn_44 ?_
    exact k
  · have h := h.2 c
    rw [if_neg c] at k
    refine z_aload_n (pc' := 24) 0 rfl rfl dX1_missedIn_23 rfl ?_
    refine z_getI2 (v := w 55 5) (pc' := 27) g_X1_21 (by decide) rfl rfl rfl dX1_missedIn_24 rfl ?_
    refine z_iconst (pc' := 28) dX1_missedIn_27 rfl ?_
    refine z_icmp_lt 45 dX1_missedIn_28 (by decide) (pc' := 31) rfl r2 (by decide) (fun c => ?_) (fun c => ?_)
    · have h := h.1 c
      rw [if_pos c] at k
      refine z_aload_n (pc' := 46) 0 rfl rfl dX1_missedIn_45 rfl ?_
      refine z_getR (t := 57) (pc' := 49) g_X1_17 (by decide) rfl rfl dX1_missedIn_46 rfl ?_
      refine z_iconst (pc' := 50) dX1_missedIn_49 rfl ?_
      refine z_aload_n (pc' := 51) 0 rfl rfl dX1_missedIn_50 rfl ?_
      refine z_getR (t := 30) (pc' := 54) g_X1_25 (by decide) rfl rfl dX1_missedIn_51 rfl ?_
      refine z_iload_n (pc' := 55) 2 rfl rfl dX1_missedIn_54 rfl ?_
      refine z_invV (as := [zI a1]) (st := [zI 0, zR 57]) (C := m_X6_syllables) (fs := [33, 34]) (pc' := 58) dX1_missedIn_55 rfl t_4_87 k_X6_syllables rfl (by decide) rfl rfl rfl rfl (Nat.le_of_ble_eq_true rfl) ?_
      obtain ⟨r4, h⟩ := h
      refine c_Y_syllables r4 ?_
      show z_Wp m_X1_missedIn _ 58 [(0, zR 55), (1, zI a0), (2, zI a1), (3, zI a2), (4, zI a3), (5, zI (F_J_bitCount_0f7a4 w (zz_and (F_Y_knownBy w a1) a3)))] [zI (F_Y_value w 2 a1 0), zI 0, zR 57] w _
      refine z_iast2 (w' := z_up w 57 0 (F_Y_value w 2 a1 0)) (pc' := 59) (by decide) rfl (by decide) (by decide) rfl dX1_missedIn_58 rfl ?_
      refine z_aload_n (pc' := 60) 0 rfl rfl dX1_missedIn_59 rfl ?_
      refine z_getR (t := 57) (pc' := 63) g_X1_17 (by decide) rfl rfl dX1_missedIn_60 rfl ?_
      refine z_iconst (pc' := 64) dX1_missedIn_63 rfl ?_
      refine z_iload (pc' := 66) 5 rfl dX1_missedIn_64 rfl ?_
      refine z_iast2 (w' := z_up (z_up w 57 0 (F_Y_value w 2 a1 0)) 57 1 (F_J_bitCount_0f7a4 w (zz_and (F_Y_knownBy w a1) a3))) (pc' := 67) (by decide) rfl (by decide) (by decide) rfl dX1_missedIn_66 rfl ?_
      refine z_aload_n (pc' := 68) 0 rfl rfl dX1_missedIn_67 rfl ?_
      refine z_getR (t := 57) (pc' := 71) g_X1_17 (by decide) rfl rfl dX1_missedIn_68 rfl ?_
      refine z_iconst (pc' := 72) dX1_missedIn_71 rfl ?_
      refine z_iload_n (pc' := 73) 3 rfl rfl dX1_missedIn_72 rfl ?_
      refine z_iast2 (w' := z_up (z_up (z_up w 57 0 (F_Y_value w 2 a1 0)) 57 1 (F_J_bitCount_0f7a4 w (zz_and (F_Y_knownBy w a1) a3))) 57 2 a2) (pc' := 74) (by decide) rfl (by decide) (by decide) rfl dX1_missedIn_73 rfl ?_
      refine z_aload_n (pc' := 75) 0 rfl rfl dX1_missedIn_74 rfl ?_
      refine z_getR (t := 57) (pc' := 78) g_X1_17 (by decide) rfl rfl dX1_missedIn_75 rfl ?_
      refine z_iconst (pc' := 79) dX1_missedIn_78 rfl ?_
      refine z_aload_n (pc' := 80) 0 rfl rfl dX1_missedIn_79 rfl ?_
      refine z_getR (t := 30) (pc' := 83) g_X1_25 (by decide) rfl rfl dX1_missedIn_80 rfl ?_
      refine z_iload_n (pc' := 84) 2 rfl rfl dX1_missedIn_83 rfl ?_
      refine z_invV (as := [zI a1]) (st := [zI 3, zR 57]) (C := m_X6_isForeign) (fs := [33, 34]) (pc' := 87) dX1_missedIn_84 rfl t_4_91 k_X6_isForeign rfl (by decide) rfl rfl rfl rfl (Nat.le_of_ble_eq_true rfl) ?_
      obtain ⟨r5, h⟩ := h
      refine c_Y_isForeign r5 ?_
      show z_Wp m_X1_missedIn _ 87 [(0, zR 55), (1, zI a0), (2, zI a1), (3, zI a2), (4, zI a3), (5, zI (F_J_bitCount_0f7a4 w (zz_and (F_Y_knownBy w a1) a3)))] [zI (F_Y_isForeign (z_up (z_up (z_up w 57 0 (F_Y_value w 2 a1 0)) 57 1 (F_J_bitCount_0f7a4 w (zz_and (F_Y_knownBy w a1) a3))) 57 2 a2) a1), zI 3, zR 57] (z_up (z_up (z_up w 57 0 (F_Y_value w 2 a1 0)) 57 1 (F_J_bitCount_0f7a4 w (zz_and (F_Y_knownBy w a1) a3))) 57 2 a2) _
      refine z_if_eq 94 dX1_missedIn_87 (by decide) (pc' := 90) rfl (z_rb b_Y_isForeign) (fun c => ?_) (fun c => ?_)
      · have h := h.1 c
        rw [if_pos c] at k
        refine z_iconst (pc' := 95) dX1_missedIn_94 rfl ?_
        refine z_iast2 (w' := z_up (z_up (z_up (z_up w 57 0 (F_Y_value w 2 a1 0)) 57 1 (F_J_bitCount_0f7a4 w (zz_and (F_Y_knownBy w a1) a3))) 57 2 a2) 57 3 0) (pc' := 96) (by decide) rfl (by decide) (by decide) rfl dX1_missedIn_95 rfl ?_
        refine z_aload_n (pc' := 97) 0 rfl rfl dX1_missedIn_96 rfl ?_
        refine z_getR (t := 57) (pc' := 100) g_X1_17 (by decide) rfl rfl dX1_missedIn_97 rfl ?_
        refine z_iconst (pc' := 101) dX1_missedIn_100 rfl ?_
        refine z_iload_n (pc' := 102) 1 rfl rfl dX1_missedIn_101 rfl ?_
        refine z_iast2 (w' := z_up (z_up (z_up (z_up (z_up w 57 0 (F_Y_value w 2 a1 0)) 57 1 (F_J_bitCount_0f7a4 w (zz_and (F_Y_knownBy w a1) a3))) 57 2 a2) 57 3 0) 57 4 a0) (pc' := 103) (by decide) rfl (by decide) (by decide) rfl dX1_missedIn_102 rfl ?_
        refine z_aload_n (pc' := 104) 0 rfl rfl dX1_missedIn_103 rfl ?_
        refine z_getR (t := 57) (pc' := 107) g_X1_17 (by decide) rfl rfl dX1_missedIn_104 rfl ?_
        refine z_iconst (pc' := 108) dX1_missedIn_107 rfl ?_
        refine z_aload_n (pc' := 109) 0 rfl rfl dX1_missedIn_108 rfl ?_
        refine z_getR (t := 41) (pc' := 112) g_X1_29 (by decide) rfl rfl dX1_missedIn_109 rfl ?_
        refine z_invV (as := []) (st := [zI 5, zR 57]) (C := m_X3_year) (fs := [32, 44, 45, 46, 47, 48, 0, 0, 0]) (pc' := 115) dX1_missedIn_112 rfl t_4_92 k_X3_year rfl (by decide) rfl rfl rfl rfl (Nat.le_of_ble_eq_true rfl) ?_
        refine c_K_year ?_
        show z_Wp m_X1_missedIn _ 115 [(0, zR 55), (1, zI a0), (2, zI a1), (3, zI a2), (4, zI a3), (5, zI (F_J_bitCount_0f7a4 w (zz_and (F_Y_knownBy w a1) a3)))] [zI (w 41 8), zI 5, zR 57] (z_up (z_up (z_up (z_up (z_up w 57 0 (F_Y_value w 2 a1 0)) 57 1 (F_J_bitCount_0f7a4 w (zz_and (F_Y_knownBy w a1) a3))) 57 2 a2) 57 3 0) 57 4 a0) _
        refine z_iast2 (w' := z_up (z_up (z_up (z_up (z_up (z_up w 57 0 (F_Y_value w 2 a1 0)) 57 1 (F_J_bitCount_0f7a4 w (zz_and (F_Y_knownBy w a1) a3))) 57 2 a2) 57 3 0) 57 4 a0) 57 5 (w 41 8)) (pc' := 116) (by decide) rfl (by decide) (by decide) rfl dX1_missedIn_115 rfl ?_
        refine z_iconst (pc' := 117) dX1_missedIn_116 rfl ?_
        refine z_bipush (pc' := 119) (by decide) dX1_missedIn_117 rfl ?_
        refine z_aload_n (pc' := 120) 0 rfl rfl dX1_missedIn_119 rfl ?_
        refine z_getR (t := 56) (pc' := 123) g_X1_13 (by decide) rfl rfl dX1_missedIn_120 rfl ?_
        refine z_aload_n (pc' := 124) 0 rfl rfl dX1_missedIn_123 rfl ?_
        refine z_getI2 (v := w 55 5) (pc' := 127) g_X1_21 (by decide) rfl rfl rfl dX1_missedIn_124 rfl ?_
        obtain ⟨r6, h⟩ := h
        by_cases c : w 55 5 = 0
        · have h := h.1 c
          rw [if_pos c] at k
          refine z_aald (t := 58) (pc' := 128) (by decide) rfl r6 (by decide) (by rw [c]; rfl) dX1_missedIn_127 rfl ?_
          refine z_aload_n (pc' := 129) 0 rfl rfl dX1_missedIn_128 rfl ?_
          refine z_getR (t := 57) (pc' := 132) g_X1_17 (by decide) rfl rfl dX1_missedIn_129 rfl ?_
          refine z_invV (as := [zR 57]) (st := [zI 30, zI 0]) (C := m_X4_weigh) (fs := [61, 62, 0, 0]) (pc' := 135) dX1_missedIn_132 rfl t_4_93 k_X4_weigh rfl (by decide) rfl rfl rfl rfl (Nat.le_of_ble_eq_true rfl) ?_
          obtain ⟨r16, h⟩ := h
          refine c_W_weigh_58_57 r16 ?_
          show z_Wp m_X1_missedIn _ 135 [(0, zR 55), (1, zI a0), (2, zI a1), (3, zI a2), (4, zI a3), (5, zI (F_J_bitCount_0f7a4 w (zz_and (F_Y_knownBy w a1) a3)))] [zI ((F_W_weigh_58_57 (z_up (z_up (z_up (z_up (z_up (z_up w 57 0 (F_Y_value w 2 a1 0)) 57 1 (F_J_bitCount_0f7a4 w (zz_and (F_Y_knownBy w a1) a3))) 57 2 a2) 57 3 0) 57 4 a0) 57 5 (w 41 8))).1), zI 30, zI 0] ((F_W_weigh_58_57 (z_up (z_up (z_up (z_up (z_up (z_up w 57 0 (F_Y_value w 2 a1 0)) 57 1 (F_J_bitCount_0f7a4 w (zz_and (F_Y_knownBy w a1) a3))) 57 2 a2) 57 3 0) 57 4 a0) 57 5 (w 41 8))).2) _
          refine z_invS (as := [zI 30, zI ((F_W_weigh_58_57 (z_up (z_up (z_up (z_up (z_up (z_up w 57 0 (F_Y_value w 2 a1 0)) 57 1 (F_J_bitCount_0f7a4 w (zz_and (F_Y_knownBy w a1) a3))) 57 2 a2) 57 3 0) 57 4 a0) 57 5 (w 41 8))).1)]) (st := [zI 0]) (C := m_J9_min_7cf53) (pc' := 138) dX1_missedIn_135 rfl t_4_116 k_J9_min_7cf53 rfl rfl (Nat.le_of_ble_eq_true rfl) ?_
          obtain ⟨r17, h⟩ := h
          refine c_J_min_7cf53 r17 ?_
          show z_Wp m_X1_missedIn _ 138 [(0, zR 55), (1, zI a0), (2, zI a1), (3, zI a2), (4, zI a3), (5, zI (F_J_bitCount_0f7a4 w (zz_and (F_Y_knownBy w a1) a3)))] [zI (F_J_min_7cf53 ((F_W_weigh_58_57 (z_up (z_up (z_up (z_up (z_up (z_up w 57 0 (F_Y_value w 2 a1 0)) 57 1 (F_J_bitCount_0f7a4 w (zz_and (F_Y_knownBy w a1) a3))) 57 2 a2) 57 3 0) 57 4 a0) 57 5 (w 41 8))).2) 30 ((F_W_weigh_58_57 (z_up (z_up (z_up (z_up (z_up (z_up w 57 0 (F_Y_value w 2 a1 0)) 57 1 (F_J_bitCount_0f7a4 w (zz_and (F_Y_knownBy w a1) a3))) 57 2 a2) 57 3 0) 57 4 a0) 57 5 (w 41 8))).1)), zI 0] ((F_W_weigh_58_57 (z_up (z_up (z_up (z_up (z_up (z_up w 57 0 (F_Y_value w 2 a1 0)) 57 1 (F_J_bitCount_0f7a4 w (zz_and (F_Y_knownBy w a1) a3))) 57 2 a2) 57 3 0) 57 4 a0) 57 5 (w 41 8))).2) _
          refine z_invS (as := [zI 0, zI (F_J_min_7cf53 ((F_W_weigh_58_57 (z_up (z_up (z_up (z_up (z_up (z_up w 57 0 (F_Y_value w 2 a1 0)) 57 1 (F_J_bitCount_0f7a4 w (zz_and (F_Y_knownBy w a1) a3))) 57 2 a2) 57 3 0) 57 4 a0) 57 5 (w 41 8))).2) 30 ((F_W_weigh_58_57 (z_up (z_up (z_up (z_up (z_up (z_up w 57 0 (F_Y_value w 2 a1 0)) 57 1 (F_J_bitCount_0f7a4 w (zz_and (F_Y_knownBy w a1) a3))) 57 2 a2) 57 3 0) 57 4 a0) 57 5 (w 41 8))).1))]) (st := []) (C := m_J9_max_7cf53) (pc' := 141) dX1_missedIn_138 rfl t_4_117 k_J9_max_7cf53 rfl rfl (Nat.le_of_ble_eq_true rfl) ?_
          have r18 := h
          refine c_J_max_7cf53 r18 ?_
          show z_Wp m_X1_missedIn _ 141 [(0, zR 55), (1, zI a0), (2, zI a1), (3, zI a2), (4, zI a3), (5, zI (F_J_bitCount_0f7a4 w (zz_and (F_Y_knownBy w a1) a3)))] [zI (F_J_max_7cf53 ((F_W_weigh_58_57 (z_up (z_up (z_up (z_up (z_up (z_up w 57 0 (F_Y_value w 2 a1 0)) 57 1 (F_J_bitCount_0f7a4 w (zz_and (F_Y_knownBy w a1) a3))) 57 2 a2) 57 3 0) 57 4 a0) 57 5 (w 41 8))).2) 0 (F_J_min_7cf53 ((F_W_weigh_58_57 (z_up (z_up (z_up (z_up (z_up (z_up w 57 0 (F_Y_value w 2 a1 0)) 57 1 (F_J_bitCount_0f7a4 w (zz_and (F_Y_knownBy w a1) a3))) 57 2 a2) 57 3 0) 57 4 a0) 57 5 (w 41 8))).2) 30 ((F_W_weigh_58_57 (z_up (z_up (z_up (z_up (z_up (z_up w 57 0 (F_Y_value w 2 a1 0)) 57 1 (F_J_bitCount_0f7a4 w (zz_and (F_Y_knownBy w a1) a3))) 57 2 a2) 57 3 0) 57 4 a0) 57 5 (w 41 8))).1)))] ((F_W_weigh_58_57 (z_up (z_up (z_up (z_up (z_up (z_up w 57 0 (F_Y_value w 2 a1 0)) 57 1 (F_J_bitCount_0f7a4 w (zz_and (F_Y_knownBy w a1) a3))) 57 2 a2) 57 3 0) 57 4 a0) 57 5 (w 41 8))).2) _
          refine z_iret rfl dX1_missedIn_141 ?_
          exact k
        · have h := h.2 c
          rw [if_neg c] at k
          by_cases c : w 55 5 = 1
          · have h := h.1 c
            rw [if_pos c] at k
            refine z_aald (t := 61) (pc' := 128) (by decide) rfl r6 (by decide) (by rw [c]; rfl) dX1_missedIn_127 rfl ?_
            refine z_aload_n (pc' := 129) 0 rfl rfl dX1_missedIn_128 rfl ?_
            refine z_getR (t := 57) (pc' := 132) g_X1_17 (by decide) rfl rfl dX1_missedIn_129 rfl ?_
            refine z_invV (as := [zR 57]) (st := [zI 30, zI 0]) (C := m_X4_weigh) (fs := [64, 65, 0, 0]) (pc' := 135) dX1_missedIn_132 rfl t_4_93 k_X4_weigh rfl (by decide) rfl rfl rfl rfl (Nat.le_of_ble_eq_true rfl) ?_
            obtain ⟨r13, h⟩ := h
            refine c_W_weigh_61_57 r13 ?_
            show z_Wp m_X1_missedIn _ 135 [(0, zR 55), (1, zI a0), (2, zI a1), (3, zI a2), (4, zI a3), (5, zI (F_J_bitCount_0f7a4 w (zz_and (F_Y_knownBy w a1) a3)))] [zI ((F_W_weigh_61_57 (z_up (z_up (z_up (z_up (z_up (z_up w 57 0 (F_Y_value w 2 a1 0)) 57 1 (F_J_bitCount_0f7a4 w (zz_and (F_Y_knownBy w a1) a3))) 57 2 a2) 57 3 0) 57 4 a0) 57 5 (w 41 8))).1), zI 30, zI 0] ((F_W_weigh_61_57 (z_up (z_up (z_up (z_up (z_up (z_up w 57 0 (F_Y_value w 2 a1 0)) 57 1 (F_J_bitCount_0f7a4 w (zz_and (F_Y_knownBy w a1) a3))) 57 2 a2) 57 3 0) 57 4 a0) 57 5 (w 41 8))).2) _
            refine z_invS (as := [zI 30, zI ((F_W_weigh_61_57 (z_up (z_up (z_up (z_up (z_up (z_up w 57 0 (F_Y_value w 2 a1 0)) 57 1 (F_J_bitCount_0f7a4 w (zz_and (F_Y_knownBy w a1) a3))) 57 2 a2) 57 3 0) 57 4 a0) 57 5 (w 41 8))).1)]) (st := [zI 0]) (C := m_J9_min_7cf53) (pc' := 138) dX1_missedIn_135 rfl t_4_116 k_J9_min_7cf53 rfl rfl (Nat.le_of_ble_eq_true rfl) ?_
            obtain ⟨r14, h⟩ := h
            refine c_J_min_7cf53 r14 ?_
            show z_Wp m_X1_missedIn _ 138 [(0, zR 55), (1, zI a0), (2, zI a1), (3, zI a2), (4, zI a3), (5, zI (F_J_bitCount_0f7a4 w (zz_and (F_Y_knownBy w a1) a3)))] [zI (F_J_min_7cf53 ((F_W_weigh_61_57 (z_up (z_up (z_up (z_up (z_up (z_up w 57 0 (F_Y_value w 2 a1 0)) 57 1 (F_J_bitCount_0f7a4 w (zz_and (F_Y_knownBy w a1) a3))) 57 2 a2) 57 3 0) 57 4 a0) 57 5 (w 41 8))).2) 30 ((F_W_weigh_61_57 (z_up (z_up (z_up (z_up (z_up (z_up w 57 0 (F_Y_value w 2 a1 0)) 57 1 (F_J_bitCount_0f7a4 w (zz_and (F_Y_knownBy w a1) a3))) 57 2 a2) 57 3 0) 57 4 a0) 57 5 (w 41 8))).1)), zI 0] ((F_W_weigh_61_57 (z_up (z_up (z_up (z_up (z_up (z_up w 57 0 (F_Y_value w 2 a1 0)) 57 1 (F_J_bitCount_0f7a4 w (zz_and (F_Y_knownBy w a1) a3))) 57 2 a2) 57 3 0) 57 4 a0) 57 5 (w 41 8))).2) _
            refine z_invS (as := [zI 0, zI (F_J_min_7cf53 ((F_W_weigh_61_57 (z_up (z_up (z_up (z_up (z_up (z_up w 57 0 (F_Y_value w 2 a1 0)) 57 1 (F_J_bitCount_0f7a4 w (zz_and (F_Y_knownBy w a1) a3))) 57 2 a2) 57 3 0) 57 4 a0) 57 5 (w 41 8))).2) 30 ((F_W_weigh_61_57 (z_up (z_up (z_up (z_up (z_up (z_up w 57 0 (F_Y_value w 2 a1 0)) 57 1 (F_J_bitCount_0f7a4 w (zz_and (F_Y_knownBy w a1) a3))) 57 2 a2) 57 3 0) 57 4 a0) 57 5 (w 41 8))).1))]) (st := []) (C := m_J9_max_7cf53) (pc' := 141) dX1_missedIn_138 rfl t_4_117 k_J9_max_7cf53 rfl rfl (Nat.le_of_ble_eq_true rfl) ?_
            have r15 := h
            refine c_J_max_7cf53 r15 ?_
            show z_Wp m_X1_missedIn _ 141 [(0, zR 55), (1, zI a0), (2, zI a1), (3, zI a2), (4, zI a3), (5, zI (F_J_bitCount_0f7a4 w (zz_and (F_Y_knownBy w a1) a3)))] [zI (F_J_max_7cf53 ((F_W_weigh_61_57 (z_up (z_up (z_up (z_up (z_up (z_up w 57 0 (F_Y_value w 2 a1 0)) 57 1 (F_J_bitCount_0f7a4 w (zz_and (F_Y_knownBy w a1) a3))) 57 2 a2) 57 3 0) 57 4 a0) 57 5 (w 41 8))).2) 0 (F_J_min_7cf53 ((F_W_weigh_61_57 (z_up (z_up (z_up (z_up (z_up (z_up w 57 0 (F_Y_value w 2 a1 0)) 57 1 (F_J_bitCount_0f7a4 w (zz_and (F_Y_knownBy w a1) a3))) 57 2 a2) 57 3 0) 57 4 a0) 57 5 (w 41 8))).2) 30 ((F_W_weigh_61_57 (z_up (z_up (z_up (z_up (z_up (z_up w 57 0 (F_Y_value w 2 a1 0)) 57 1 (F_J_bitCount_0f7a4 w (zz_and (F_Y_knownBy w a1) a3))) 57 2 a2) 57 3 0) 57 4 a0) 57 5 (w 41 8))).1)))] ((F_W_weigh_61_57 (z_up (z_up (z_up (z_up (z_up (z_up w 57 0 (F_Y_value w 2 a1 0)) 57 1 (F_J_bitCount_0f7a4 w (zz_and (F_Y_knownBy w a1) a3))) 57 2 a2) 57 3 0) 57 4 a0) 57 5 (w 41 8))).2) _
            refine z_iret rfl dX1_missedIn_141 ?_
            exact k
          · have h := h.2 c
            rw [if_neg c] at k
            by_cases c : w 55 5 = 2
            · have h := h.1 c
              rw [if_pos c] at k
              refine z_aald (t := 64) (pc' := 128) (by decide) rfl r6 (by decide) (by rw [c]; rfl) dX1_missedIn_127 rfl ?_
              refine z_aload_n (pc' := 129) 0 rfl rfl dX1_missedIn_128 rfl ?_
              refine z_getR (t := 57) (pc' := 132) g_X1_17 (by decide) rfl rfl dX1_missedIn_129 rfl ?_
              refine z_invV (as := [zR 57]) (st := [zI 30, zI 0]) (C := m_X4_weigh) (fs := [67, 68, 0, 0]) (pc' := 135) dX1_missedIn_132 rfl t_4_93 k_X4_weigh rfl (by decide) rfl rfl rfl rfl (Nat.le_of_ble_eq_true rfl) ?_
              obtain ⟨r10, h⟩ := h
              refine c_W_weigh_64_57 r10 ?_
              show z_Wp m_X1_missedIn _ 135 [(0, zR 55), (1, zI a0), (2, zI a1), (3, zI a2), (4, zI a3), (5, zI (F_J_bitCount_0f7a4 w (zz_and (F_Y_knownBy w a1) a3)))] [zI ((F_W_weigh_64_57 (z_up (z_up (z_up (z_up (z_up (z_up w 57 0 (F_Y_value w 2 a1 0)) 57 1 (F_J_bitCount_0f7a4 w (zz_and (F_Y_knownBy w a1) a3))) 57 2 a2) 57 3 0) 57 4 a0) 57 5 (w 41 8))).1), zI 30, zI 0] ((F_W_weigh_64_57 (z_up (z_up (z_up (z_up (z_up (z_up w 57 0 (F_Y_value w 2 a1 0)) 57 1 (F_J_bitCount_0f7a4 w (zz_and (F_Y_knownBy w a1) a3))) 57 2 a2) 57 3 0) 57 4 a0) 57 5 (w 41 8))).2) _
              refine z_invS (as := [zI 30, zI ((F_W_weigh_64_57 (z_up (z_up (z_up (z_up (z_up (z_up w 57 0 (F_Y_value w 2 a1 0)) 57 1 (F_J_bitCount_0f7a4 w (zz_and (F_Y_knownBy w a1) a3))) 57 2 a2) 57 3 0) 57 4 a0) 57 5 (w 41 8))).1)]) (st := [zI 0]) (C := m_J9_min_7cf53) (pc' := 138) dX1_missedIn_135 rfl t_4_116 k_J9_min_7cf53 rfl rfl (Nat.le_of_ble_eq_true rfl) ?_
              obtain ⟨r11, h⟩ := h
              refine c_J_min_7cf53 r11 ?_
              show z_Wp m_X1_missedIn _ 138 [(0, zR 55), (1, zI a0), (2, zI a1), (3, zI a2), (4, zI a3), (5, zI (F_J_bitCount_0f7a4 w (zz_and (F_Y_knownBy w a1) a3)))] [zI (F_J_min_7cf53 ((F_W_weigh_64_57 (z_up (z_up (z_up (z_up (z_up (z_up w 57 0 (F_Y_value w 2 a1 0)) 57 1 (F_J_bitCount_0f7a4 w (zz_and (F_Y_knownBy w a1) a3))) 57 2 a2) 57 3 0) 57 4 a0) 57 5 (w 41 8))).2) 30 ((F_W_weigh_64_57 (z_up (z_up (z_up (z_up (z_up (z_up w 57 0 (F_Y_value w 2 a1 0)) 57 1 (F_J_bitCount_0f7a4 w (zz_and (F_Y_knownBy w a1) a3))) 57 2 a2) 57 3 0) 57 4 a0) 57 5 (w 41 8))).1)), zI 0] ((F_W_weigh_64_57 (z_up (z_up (z_up (z_up (z_up (z_up w 57 0 (F_Y_value w 2 a1 0)) 57 1 (F_J_bitCount_0f7a4 w (zz_and (F_Y_knownBy w a1) a3))) 57 2 a2) 57 3 0) 57 4 a0) 57 5 (w 41 8))).2) _
              refine z_invS (as := [zI 0, zI (F_J_min_7cf53 ((F_W_weigh_64_57 (z_up (z_up (z_up (z_up (z_up (z_up w 57 0 (F_Y_value w 2 a1 0)) 57 1 (F_J_bitCount_0f7a4 w (zz_and (F_Y_knownBy w a1) a3))) 57 2 a2) 57 3 0) 57 4 a0) 57 5 (w 41 8))).2) 30 ((F_W_weigh_64_57 (z_up (z_up (z_up (z_up (z_up (z_up w 57 0 (F_Y_value w 2 a1 0)) 57 1 (F_J_bitCount_0f7a4 w (zz_and (F_Y_knownBy w a1) a3))) 57 2 a2) 57 3 0) 57 4 a0) 57 5 (w 41 8))).1))]) (st := []) (C := m_J9_max_7cf53) (pc' := 141) dX1_missedIn_138 rfl t_4_117 k_J9_max_7cf53 rfl rfl (Nat.le_of_ble_eq_true rfl) ?_
              have r12 := h
              refine c_J_max_7cf53 r12 ?_
              show z_Wp m_X1_missedIn _ 141 [(0, zR 55), (1, zI a0), (2, zI a1), (3, zI a2), (4, zI a3), (5, zI (F_J_bitCount_0f7a4 w (zz_and (F_Y_knownBy w a1) a3)))] [zI (F_J_max_7cf53 ((F_W_weigh_64_57 (z_up (z_up (z_up (z_up (z_up (z_up w 57 0 (F_Y_value w 2 a1 0)) 57 1 (F_J_bitCount_0f7a4 w (zz_and (F_Y_knownBy w a1) a3))) 57 2 a2) 57 3 0) 57 4 a0) 57 5 (w 41 8))).2) 0 (F_J_min_7cf53 ((F_W_weigh_64_57 (z_up (z_up (z_up (z_up (z_up (z_up w 57 0 (F_Y_value w 2 a1 0)) 57 1 (F_J_bitCount_0f7a4 w (zz_and (F_Y_knownBy w a1) a3))) 57 2 a2) 57 3 0) 57 4 a0) 57 5 (w 41 8))).2) 30 ((F_W_weigh_64_57 (z_up (z_up (z_up (z_up (z_up (z_up w 57 0 (F_Y_value w 2 a1 0)) 57 1 (F_J_bitCount_0f7a4 w (zz_and (F_Y_knownBy w a1) a3))) 57 2 a2) 57 3 0) 57 4 a0) 57 5 (w 41 8))).1)))] ((F_W_weigh_64_57 (z_up (z_up (z_up (z_up (z_up (z_up w 57 0 (F_Y_value w 2 a1 0)) 57 1 (F_J_bitCount_0f7a4 w (zz_and (F_Y_knownBy w a1) a3))) 57 2 a2) 57 3 0) 57 4 a0) 57 5 (w 41 8))).2) _
              refine z_iret rfl dX1_missedIn_141 ?_
              exact k
            · have h := h.2 c
              rw [if_neg c] at k
              refine z_aald (t := 67) (pc' := 128) (by decide) rfl r6 (by decide) (by rw [show w 55 5 = 3 by omega]; rfl) dX1_missedIn_127 rfl ?_
              refine z_aload_n (pc' := 129) 0 rfl rfl dX1_missedIn_128 rfl ?_
              refine z_getR (t := 57) (pc' := 132) g_X1_17 (by decide) rfl rfl dX1_missedIn_129 rfl ?_
              refine z_invV (as := [zR 57]) (st := [zI 30, zI 0]) (C := m_X4_weigh) (fs := [70, 71, 0, 0]) (pc' := 135) dX1_missedIn_132 rfl t_4_93 k_X4_weigh rfl (by decide) rfl rfl rfl rfl (Nat.le_of_ble_eq_true rfl) ?_
              obtain ⟨r7, h⟩ := h
              refine c_W_weigh_67_57 r7 ?_
              show z_Wp m_X1_missedIn _ 135 [(0, zR 55), (1, zI a0), (2, zI a1), (3, zI a2), (4, zI a3), (5, zI (F_J_bitCount_0f7a4 w (zz_and (F_Y_knownBy w a1) a3)))] [zI ((F_W_weigh_67_57 (z_up (z_up (z_up (z_up (z_up (z_up w 57 0 (F_Y_value w 2 a1 0)) 57 1 (F_J_bitCount_0f7a4 w (zz_and (F_Y_knownBy w a1) a3))) 57 2 a2) 57 3 0) 57 4 a0) 57 5 (w 41 8))).1), zI 30, zI 0] ((F_W_weigh_67_57 (z_up (z_up (z_up (z_up (z_up (z_up w 57 0 (F_Y_value w 2 a1 0)) 57 1 (F_J_bitCount_0f7a4 w (zz_and (F_Y_knownBy w a1) a3))) 57 2 a2) 57 3 0) 57 4 a0) 57 5 (w 41 8))).2) _
              refine z_invS (as := [zI 30, zI ((F_W_weigh_67_57 (z_up (z_up (z_up (z_up (z_up (z_up w 57 0 (F_Y_value w 2 a1 0)) 57 1 (F_J_bitCount_0f7a4 w (zz_and (F_Y_knownBy w a1) a3))) 57 2 a2) 57 3 0) 57 4 a0) 57 5 (w 41 8))).1)]) (st := [zI 0]) (C := m_J9_min_7cf53) (pc' := 138) dX1_missedIn_135 rfl t_4_116 k_J9_min_7cf53 rfl rfl (Nat.le_of_ble_eq_true rfl) ?_
              obtain ⟨r8, h⟩ := h
              refine c_J_min_7cf53 r8 ?_
              show z_Wp m_X1_missedIn _ 138 [(0, zR 55), (1, zI a0), (2, zI a1), (3, zI a2), (4, zI a3), (5, zI (F_J_bitCount_0f7a4 w (zz_and (F_Y_knownBy w a1) a3)))] [zI (F_J_min_7cf53 ((F_W_weigh_67_57 (z_up (z_up (z_up (z_up (z_up (z_up w 57 0 (F_Y_value w 2 a1 0)) 57 1 (F_J_bitCount_0f7a4 w (zz_and (F_Y_knownBy w a1) a3))) 57 2 a2) 57 3 0) 57 4 a0) 57 5 (w 41 8))).2) 30 ((F_W_weigh_67_57 (z_up (z_up (z_up (z_up (z_up (z_up w 57 0 (F_Y_value w 2 a1 0)) 57 1 (F_J_bitCount_0f7a4 w (zz_and (F_Y_knownBy w a1) a3))) 57 2 a2) 57 3 0) 57 4 a0) 57 5 (w 41 8))).1)), zI 0] ((F_W_weigh_67_57 (z_up (z_up (z_up (z_up (z_up (z_up w 57 0 (F_Y_value w 2 a1 0)) 57 1 (F_J_bitCount_0f7a4 w (zz_and (F_Y_knownBy w a1) a3))) 57 2 a2) 57 3 0) 57 4 a0) 57 5 (w 41 8))).2) _
              refine z_invS (as := [zI 0, zI (F_J_min_7cf53 ((F_W_weigh_67_57 (z_up (z_up (z_up (z_up (z_up (z_up w 57 0 (F_Y_value w 2 a1 0)) 57 1 (F_J_bitCount_0f7a4 w (zz_and (F_Y_knownBy w a1) a3))) 57 2 a2) 57 3 0) 57 4 a0) 57 5 (w 41 8))).2) 30 ((F_W_weigh_67_57 (z_up (z_up (z_up (z_up (z_up (z_up w 57 0 (F_Y_value w 2 a1 0)) 57 1 (F_J_bitCount_0f7a4 w (zz_and (F_Y_knownBy w a1) a3))) 57 2 a2) 57 3 0) 57 4 a0) 57 5 (w 41 8))).1))]) (st := []) (C := m_J9_max_7cf53) (pc' := 141) dX1_missedIn_138 rfl t_4_117 k_J9_max_7cf53 rfl rfl (Nat.le_of_ble_eq_true rfl) ?_
              have r9 := h
              refine c_J_max_7cf53 r9 ?_
              show z_Wp m_X1_missedIn _ 141 [(0, zR 55), (1, zI a0), (2, zI a1), (3, zI a2), (4, zI a3), (5, zI (F_J_bitCount_0f7a4 w (zz_and (F_Y_knownBy w a1) a3)))] [zI (F_J_max_7cf53 ((F_W_weigh_67_57 (z_up (z_up (z_up (z_up (z_up (z_up w 57 0 (F_Y_value w 2 a1 0)) 57 1 (F_J_bitCount_0f7a4 w (zz_and (F_Y_knownBy w a1) a3))) 57 2 a2) 57 3 0) 57 4 a0) 57 5 (w 41 8))).2) 0 (F_J_min_7cf53 ((F_W_weigh_67_57 (z_up (z_up (z_up (z_up (z_up (z_up w 57 0 (F_Y_value w 2 a1 0)) 57 1 (F_J_bitCount_0f7a4 w (zz_and (F_Y_knownBy w a1) a3))) 57 2 a2) 57 3 0) 57 4 a0) 57 5 (w 41 8))).2) 30 ((F_W_weigh_67_57 (z_up (z_up (z_up (z_up (z_up (z_up w 57 0 (F_Y_value w 2 a1 0)) 57 1 (F_J_bitCount_0f7a4 w (zz_and (F_Y_knownBy w a1) a3))) 57 2 a2) 57 3 0) 57 4 a0) 57 5 (w 41 8))).1)))] ((F_W_weigh_67_57 (z_up (z_up (z_up (z_up (z_up (z_up w 57 0 (F_Y_value w 2 a1 0)) 57 1 (F_J_bitCount_0f7a4 w (zz_and (F_Y_knownBy w a1) a3))) 57 2 a2) 57 3 0) 57 4 a0) 57 5 (w 41 8))).2) _
              refine z_iret rfl dX1_missedIn_141 ?_
              exact k
      · have h := h.2 c
        rw [if_neg c] at k
        refine z_iconst (pc' := 91) dX1_missedIn_90 rfl ?_
        refine z_goto 95 dX1_missedIn_91 (by decide) ?_
        refine z_iast2 (w' := z_up (z_up (z_up (z_up w 57 0 (F_Y_value w 2 a1 0)) 57 1 (F_J_bitCount_0f7a4 w (zz_and (F_Y_knownBy w a1) a3))) 57 2 a2) 57 3 1) (pc' := 96) (by decide) rfl (by decide) (by decide) rfl dX1_missedIn_95 rfl ?_
        refine z_aload_n (pc' := 97) 0 rfl rfl dX1_missedIn_96 rfl ?_
        refine z_getR (t := 57) (pc' := 100) g_X1_17 (by decide) rfl rfl dX1_missedIn_97 rfl ?_
        refine z_iconst (pc' := 101) dX1_missedIn_100 rfl ?_
        refine z_iload_n (pc' := 102) 1 rfl rfl dX1_missedIn_101 rfl ?_
        refine z_iast2 (w' := z_up (z_up (z_up (z_up (z_up w 57 0 (F_Y_value w 2 a1 0)) 57 1 (F_J_bitCount_0f7a4 w (zz_and (F_Y_knownBy w a1) a3))) 57 2 a2) 57 3 1) 57 4 a0) (pc' := 103) (by decide) rfl (by decide) (by decide) rfl dX1_missedIn_102 rfl ?_
        refine z_aload_n (pc' := 104) 0 rfl rfl dX1_missedIn_103 rfl ?_
        refine z_getR (t := 57) (pc' := 107) g_X1_17 (by decide) rfl rfl dX1_missedIn_104 rfl ?_
        refine z_iconst (pc' := 108) dX1_missedIn_107 rfl ?_
        refine z_aload_n (pc' := 109) 0 rfl rfl dX1_missedIn_108 rfl ?_
        refine z_getR (t := 41) (pc' := 112) g_X1_29 (by decide) rfl rfl dX1_missedIn_109 rfl ?_
        refine z_invV (as := []) (st := [zI 5, zR 57]) (C := m_X3_year) (fs := [32, 44, 45, 46, 47, 48, 0, 0, 0]) (pc' := 115) dX1_missedIn_112 rfl t_4_92 k_X3_year rfl (by decide) rfl rfl rfl rfl (Nat.le_of_ble_eq_true rfl) ?_
        refine c_K_year ?_
        show z_Wp m_X1_missedIn _ 115 [(0, zR 55), (1, zI a0), (2, zI a1), (3, zI a2), (4, zI a3), (5, zI (F_J_bitCount_0f7a4 w (zz_and (F_Y_knownBy w a1) a3)))] [zI (w 41 8), zI 5, zR 57] (z_up (z_up (z_up (z_up (z_up w 57 0 (F_Y_value w 2 a1 0)) 57 1 (F_J_bitCount_0f7a4 w (zz_and (F_Y_knownBy w a1) a3))) 57 2 a2) 57 3 1) 57 4 a0) _
        refine z_iast2 (w' := z_up (z_up (z_up (z_up (z_up (z_up w 57 0 (F_Y_value w 2 a1 0)) 57 1 (F_J_bitCount_0f7a4 w (zz_and (F_Y_knownBy w a1) a3))) 57 2 a2) 57 3 1) 57 4 a0) 57 5 (w 41 8)) (pc' := 116) (by decide) rfl (by decide) (by decide) rfl dX1_missedIn_115 rfl ?_
        refine z_iconst (pc' := 117) dX1_missedIn_116 rfl ?_
        refine z_bipush (pc' := 119) (by decide) dX1_missedIn_117 rfl ?_
        refine z_aload_n (pc' := 120) 0 rfl rfl dX1_missedIn_119 rfl ?_
        refine z_getR (t := 56) (pc' := 123) g_X1_13 (by decide) rfl rfl dX1_missedIn_120 rfl ?_
        refine z_aload_n (pc' := 124) 0 rfl rfl dX1_missedIn_123 rfl ?_
        refine z_getI2 (v := w 55 5) (pc' := 127) g_X1_21 (by decide) rfl rfl rfl dX1_missedIn_124 rfl ?_
        obtain ⟨r19, h⟩ := h
        by_cases c : w 55 5 = 0
        · have h := h.1 c
          rw [if_pos c] at k
          refine z_aald (t := 58) (pc' := 128) (by decide) rfl r19 (by decide) (by rw [c]; rfl) dX1_missedIn_127 rfl ?_
          refine z_aload_n (pc' := 129) 0 rfl rfl dX1_missedIn_128 rfl ?_
          refine z_getR (t := 57) (pc' := 132) g_X1_17 (by decide) rfl rfl dX1_missedIn_129 rfl ?_
          refine z_invV (as := [zR 57]) (st := [zI 30, zI 0]) (C := m_X4_weigh) (fs := [61, 62, 0, 0]) (pc' := 135) dX1_missedIn_132 rfl t_4_93 k_X4_weigh rfl (by decide) rfl rfl rfl rfl (Nat.le_of_ble_eq_true rfl) ?_
          obtain ⟨r29, h⟩ := h
          refine c_W_weigh_58_57 r29 ?_
          show z_Wp m_X1_missedIn _ 135 [(0, zR 55), (1, zI a0), (2, zI a1), (3, zI a2), (4, zI a3), (5, zI (F_J_bitCount_0f7a4 w (zz_and (F_Y_knownBy w a1) a3)))] [zI ((F_W_weigh_58_57 (z_up (z_up (z_up (z_up (z_up (z_up w 57 0 (F_Y_value w 2 a1 0)) 57 1 (F_J_bitCount_0f7a4 w (zz_and (F_Y_knownBy w a1) a3))) 57 2 a2) 57 3 1) 57 4 a0) 57 5 (w 41 8))).1), zI 30, zI 0] ((F_W_weigh_58_57 (z_up (z_up (z_up (z_up (z_up (z_up w 57 0 (F_Y_value w 2 a1 0)) 57 1 (F_J_bitCount_0f7a4 w (zz_and (F_Y_knownBy w a1) a3))) 57 2 a2) 57 3 1) 57 4 a0) 57 5 (w 41 8))).2) _
          refine z_invS (as := [zI 30, zI ((F_W_weigh_58_57 (z_up (z_up (z_up (z_up (z_up (z_up w 57 0 (F_Y_value w 2 a1 0)) 57 1 (F_J_bitCount_0f7a4 w (zz_and (F_Y_knownBy w a1) a3))) 57 2 a2) 57 3 1) 57 4 a0) 57 5 (w 41 8))).1)]) (st := [zI 0]) (C := m_J9_min_7cf53) (pc' := 138) dX1_missedIn_135 rfl t_4_116 k_J9_min_7cf53 rfl rfl (Nat.le_of_ble_eq_true rfl) ?_
          obtain ⟨r30, h⟩ := h
          refine c_J_min_7cf53 r30 ?_
          show z_Wp m_X1_missedIn _ 138 [(0, zR 55), (1, zI a0), (2, zI a1), (3, zI a2), (4, zI a3), (5, zI (F_J_bitCount_0f7a4 w (zz_and (F_Y_knownBy w a1) a3)))] [zI (F_J_min_7cf53 ((F_W_weigh_58_57 (z_up (z_up (z_up (z_up (z_up (z_up w 57 0 (F_Y_value w 2 a1 0)) 57 1 (F_J_bitCount_0f7a4 w (zz_and (F_Y_knownBy w a1) a3))) 57 2 a2) 57 3 1) 57 4 a0) 57 5 (w 41 8))).2) 30 ((F_W_weigh_58_57 (z_up (z_up (z_up (z_up (z_up (z_up w 57 0 (F_Y_value w 2 a1 0)) 57 1 (F_J_bitCount_0f7a4 w (zz_and (F_Y_knownBy w a1) a3))) 57 2 a2) 57 3 1) 57 4 a0) 57 5 (w 41 8))).1)), zI 0] ((F_W_weigh_58_57 (z_up (z_up (z_up (z_up (z_up (z_up w 57 0 (F_Y_value w 2 a1 0)) 57 1 (F_J_bitCount_0f7a4 w (zz_and (F_Y_knownBy w a1) a3))) 57 2 a2) 57 3 1) 57 4 a0) 57 5 (w 41 8))).2) _
          refine z_invS (as := [zI 0, zI (F_J_min_7cf53 ((F_W_weigh_58_57 (z_up (z_up (z_up (z_up (z_up (z_up w 57 0 (F_Y_value w 2 a1 0)) 57 1 (F_J_bitCount_0f7a4 w (zz_and (F_Y_knownBy w a1) a3))) 57 2 a2) 57 3 1) 57 4 a0) 57 5 (w 41 8))).2) 30 ((F_W_weigh_58_57 (z_up (z_up (z_up (z_up (z_up (z_up w 57 0 (F_Y_value w 2 a1 0)) 57 1 (F_J_bitCount_0f7a4 w (zz_and (F_Y_knownBy w a1) a3))) 57 2 a2) 57 3 1) 57 4 a0) 57 5 (w 41 8))).1))]) (st := []) (C := m_J9_max_7cf53) (pc' := 141) dX1_missedIn_138 rfl t_4_117 k_J9_max_7cf53 rfl rfl (Nat.le_of_ble_eq_true rfl) ?_
          have r31 := h
          refine c_J_max_7cf53 r31 ?_
          show z_Wp m_X1_missedIn _ 141 [(0, zR 55), (1, zI a0), (2, zI a1), (3, zI a2), (4, zI a3), (5, zI (F_J_bitCount_0f7a4 w (zz_and (F_Y_knownBy w a1) a3)))] [zI (F_J_max_7cf53 ((F_W_weigh_58_57 (z_up (z_up (z_up (z_up (z_up (z_up w 57 0 (F_Y_value w 2 a1 0)) 57 1 (F_J_bitCount_0f7a4 w (zz_and (F_Y_knownBy w a1) a3))) 57 2 a2) 57 3 1) 57 4 a0) 57 5 (w 41 8))).2) 0 (F_J_min_7cf53 ((F_W_weigh_58_57 (z_up (z_up (z_up (z_up (z_up (z_up w 57 0 (F_Y_value w 2 a1 0)) 57 1 (F_J_bitCount_0f7a4 w (zz_and (F_Y_knownBy w a1) a3))) 57 2 a2) 57 3 1) 57 4 a0) 57 5 (w 41 8))).2) 30 ((F_W_weigh_58_57 (z_up (z_up (z_up (z_up (z_up (z_up w 57 0 (F_Y_value w 2 a1 0)) 57 1 (F_J_bitCount_0f7a4 w (zz_and (F_Y_knownBy w a1) a3))) 57 2 a2) 57 3 1) 57 4 a0) 57 5 (w 41 8))).1)))] ((F_W_weigh_58_57 (z_up (z_up (z_up (z_up (z_up (z_up w 57 0 (F_Y_value w 2 a1 0)) 57 1 (F_J_bitCount_0f7a4 w (zz_and (F_Y_knownBy w a1) a3))) 57 2 a2) 57 3 1) 57 4 a0) 57 5 (w 41 8))).2) _
          refine z_iret rfl dX1_missedIn_141 ?_
          exact k
        · have h := h.2 c
          rw [if_neg c] at k
          by_cases c : w 55 5 = 1
          · have h := h.1 c
            rw [if_pos c] at k
            refine z_aald (t := 61) (pc' := 128) (by decide) rfl r19 (by decide) (by rw [c]; rfl) dX1_missedIn_127 rfl ?_
            refine z_aload_n (pc' := 129) 0 rfl rfl dX1_missedIn_128 rfl ?_
            refine z_getR (t := 57) (pc' := 132) g_X1_17 (by decide) rfl rfl dX1_missedIn_129 rfl ?_
            refine z_invV (as := [zR 57]) (st := [zI 30, zI 0]) (C := m_X4_weigh) (fs := [64, 65, 0, 0]) (pc' := 135) dX1_missedIn_132 rfl t_4_93 k_X4_weigh rfl (by decide) rfl rfl rfl rfl (Nat.le_of_ble_eq_true rfl) ?_
            obtain ⟨r26, h⟩ := h
            refine c_W_weigh_61_57 r26 ?_
            show z_Wp m_X1_missedIn _ 135 [(0, zR 55), (1, zI a0), (2, zI a1), (3, zI a2), (4, zI a3), (5, zI (F_J_bitCount_0f7a4 w (zz_and (F_Y_knownBy w a1) a3)))] [zI ((F_W_weigh_61_57 (z_up (z_up (z_up (z_up (z_up (z_up w 57 0 (F_Y_value w 2 a1 0)) 57 1 (F_J_bitCount_0f7a4 w (zz_and (F_Y_knownBy w a1) a3))) 57 2 a2) 57 3 1) 57 4 a0) 57 5 (w 41 8))).1), zI 30, zI 0] ((F_W_weigh_61_57 (z_up (z_up (z_up (z_up (z_up (z_up w 57 0 (F_Y_value w 2 a1 0)) 57 1 (F_J_bitCount_0f7a4 w (zz_and (F_Y_knownBy w a1) a3))) 57 2 a2) 57 3 1) 57 4 a0) 57 5 (w 41 8))).2) _
            refine z_invS (as := [zI 30, zI ((F_W_weigh_61_57 (z_up (z_up (z_up (z_up (z_up (z_up w 57 0 (F_Y_value w 2 a1 0)) 57 1 (F_J_bitCount_0f7a4 w (zz_and (F_Y_knownBy w a1) a3))) 57 2 a2) 57 3 1) 57 4 a0) 57 5 (w 41 8))).1)]) (st := [zI 0]) (C := m_J9_min_7cf53) (pc' := 138) dX1_missedIn_135 rfl t_4_116 k_J9_min_7cf53 rfl rfl (Nat.le_of_ble_eq_true rfl) ?_
            obtain ⟨r27, h⟩ := h
            refine c_J_min_7cf53 r27 ?_
            show z_Wp m_X1_missedIn _ 138 [(0, zR 55), (1, zI a0), (2, zI a1), (3, zI a2), (4, zI a3), (5, zI (F_J_bitCount_0f7a4 w (zz_and (F_Y_knownBy w a1) a3)))] [zI (F_J_min_7cf53 ((F_W_weigh_61_57 (z_up (z_up (z_up (z_up (z_up (z_up w 57 0 (F_Y_value w 2 a1 0)) 57 1 (F_J_bitCount_0f7a4 w (zz_and (F_Y_knownBy w a1) a3))) 57 2 a2) 57 3 1) 57 4 a0) 57 5 (w 41 8))).2) 30 ((F_W_weigh_61_57 (z_up (z_up (z_up (z_up (z_up (z_up w 57 0 (F_Y_value w 2 a1 0)) 57 1 (F_J_bitCount_0f7a4 w (zz_and (F_Y_knownBy w a1) a3))) 57 2 a2) 57 3 1) 57 4 a0) 57 5 (w 41 8))).1)), zI 0] ((F_W_weigh_61_57 (z_up (z_up (z_up (z_up (z_up (z_up w 57 0 (F_Y_value w 2 a1 0)) 57 1 (F_J_bitCount_0f7a4 w (zz_and (F_Y_knownBy w a1) a3))) 57 2 a2) 57 3 1) 57 4 a0) 57 5 (w 41 8))).2) _
            refine z_invS (as := [zI 0, zI (F_J_min_7cf53 ((F_W_weigh_61_57 (z_up (z_up (z_up (z_up (z_up (z_up w 57 0 (F_Y_value w 2 a1 0)) 57 1 (F_J_bitCount_0f7a4 w (zz_and (F_Y_knownBy w a1) a3))) 57 2 a2) 57 3 1) 57 4 a0) 57 5 (w 41 8))).2) 30 ((F_W_weigh_61_57 (z_up (z_up (z_up (z_up (z_up (z_up w 57 0 (F_Y_value w 2 a1 0)) 57 1 (F_J_bitCount_0f7a4 w (zz_and (F_Y_knownBy w a1) a3))) 57 2 a2) 57 3 1) 57 4 a0) 57 5 (w 41 8))).1))]) (st := []) (C := m_J9_max_7cf53) (pc' := 141) dX1_missedIn_138 rfl t_4_117 k_J9_max_7cf53 rfl rfl (Nat.le_of_ble_eq_true rfl) ?_
            have r28 := h
            refine c_J_max_7cf53 r28 ?_
            show z_Wp m_X1_missedIn _ 141 [(0, zR 55), (1, zI a0), (2, zI a1), (3, zI a2), (4, zI a3), (5, zI (F_J_bitCount_0f7a4 w (zz_and (F_Y_knownBy w a1) a3)))] [zI (F_J_max_7cf53 ((F_W_weigh_61_57 (z_up (z_up (z_up (z_up (z_up (z_up w 57 0 (F_Y_value w 2 a1 0)) 57 1 (F_J_bitCount_0f7a4 w (zz_and (F_Y_knownBy w a1) a3))) 57 2 a2) 57 3 1) 57 4 a0) 57 5 (w 41 8))).2) 0 (F_J_min_7cf53 ((F_W_weigh_61_57 (z_up (z_up (z_up (z_up (z_up (z_up w 57 0 (F_Y_value w 2 a1 0)) 57 1 (F_J_bitCount_0f7a4 w (zz_and (F_Y_knownBy w a1) a3))) 57 2 a2) 57 3 1) 57 4 a0) 57 5 (w 41 8))).2) 30 ((F_W_weigh_61_57 (z_up (z_up (z_up (z_up (z_up (z_up w 57 0 (F_Y_value w 2 a1 0)) 57 1 (F_J_bitCount_0f7a4 w (zz_and (F_Y_knownBy w a1) a3))) 57 2 a2) 57 3 1) 57 4 a0) 57 5 (w 41 8))).1)))] ((F_W_weigh_61_57 (z_up (z_up (z_up (z_up (z_up (z_up w 57 0 (F_Y_value w 2 a1 0)) 57 1 (F_J_bitCount_0f7a4 w (zz_and (F_Y_knownBy w a1) a3))) 57 2 a2) 57 3 1) 57 4 a0) 57 5 (w 41 8))).2) _
            refine z_iret rfl dX1_missedIn_141 ?_
            exact k
          · have h := h.2 c
            rw [if_neg c] at k
            by_cases c : w 55 5 = 2
            · have h := h.1 c
              rw [if_pos c] at k
              refine z_aald (t := 64) (pc' := 128) (by decide) rfl r19 (by decide) (by rw [c]; rfl) dX1_missedIn_127 rfl ?_
              refine z_aload_n (pc' := 129) 0 rfl rfl dX1_missedIn_128 rfl ?_
              refine z_getR (t := 57) (pc' := 132) g_X1_17 (by decide) rfl rfl dX1_missedIn_129 rfl ?_
              refine z_invV (as := [zR 57]) (st := [zI 30, zI 0]) (C := m_X4_weigh) (fs := [67, 68, 0, 0]) (pc' := 135) dX1_missedIn_132 rfl t_4_93 k_X4_weigh rfl (by decide) rfl rfl rfl rfl (Nat.le_of_ble_eq_true rfl) ?_
              obtain ⟨r23, h⟩ := h
              refine c_W_weigh_64_57 r23 ?_
              show z_Wp m_X1_missedIn _ 135 [(0, zR 55), (1, zI a0), (2, zI a1), (3, zI a2), (4, zI a3), (5, zI (F_J_bitCount_0f7a4 w (zz_and (F_Y_knownBy w a1) a3)))] [zI ((F_W_weigh_64_57 (z_up (z_up (z_up (z_up (z_up (z_up w 57 0 (F_Y_value w 2 a1 0)) 57 1 (F_J_bitCount_0f7a4 w (zz_and (F_Y_knownBy w a1) a3))) 57 2 a2) 57 3 1) 57 4 a0) 57 5 (w 41 8))).1), zI 30, zI 0] ((F_W_weigh_64_57 (z_up (z_up (z_up (z_up (z_up (z_up w 57 0 (F_Y_value w 2 a1 0)) 57 1 (F_J_bitCount_0f7a4 w (zz_and (F_Y_knownBy w a1) a3))) 57 2 a2) 57 3 1) 57 4 a0) 57 5 (w 41 8))).2) _
              refine z_invS (as := [zI 30, zI ((F_W_weigh_64_57 (z_up (z_up (z_up (z_up (z_up (z_up w 57 0 (F_Y_value w 2 a1 0)) 57 1 (F_J_bitCount_0f7a4 w (zz_and (F_Y_knownBy w a1) a3))) 57 2 a2) 57 3 1) 57 4 a0) 57 5 (w 41 8))).1)]) (st := [zI 0]) (C := m_J9_min_7cf53) (pc' := 138) dX1_missedIn_135 rfl t_4_116 k_J9_min_7cf53 rfl rfl (Nat.le_of_ble_eq_true rfl) ?_
              obtain ⟨r24, h⟩ := h
              refine c_J_min_7cf53 r24 ?_
              show z_Wp m_X1_missedIn _ 138 [(0, zR 55), (1, zI a0), (2, zI a1), (3, zI a2), (4, zI a3), (5, zI (F_J_bitCount_0f7a4 w (zz_and (F_Y_knownBy w a1) a3)))] [zI (F_J_min_7cf53 ((F_W_weigh_64_57 (z_up (z_up (z_up (z_up (z_up (z_up w 57 0 (F_Y_value w 2 a1 0)) 57 1 (F_J_bitCount_0f7a4 w (zz_and (F_Y_knownBy w a1) a3))) 57 2 a2) 57 3 1) 57 4 a0) 57 5 (w 41 8))).2) 30 ((F_W_weigh_64_57 (z_up (z_up (z_up (z_up (z_up (z_up w 57 0 (F_Y_value w 2 a1 0)) 57 1 (F_J_bitCount_0f7a4 w (zz_and (F_Y_knownBy w a1) a3))) 57 2 a2) 57 3 1) 57 4 a0) 57 5 (w 41 8))).1)), zI 0] ((F_W_weigh_64_57 (z_up (z_up (z_up (z_up (z_up (z_up w 57 0 (F_Y_value w 2 a1 0)) 57 1 (F_J_bitCount_0f7a4 w (zz_and (F_Y_knownBy w a1) a3))) 57 2 a2) 57 3 1) 57 4 a0) 57 5 (w 41 8))).2) _
              refine z_invS (as := [zI 0, zI (F_J_min_7cf53 ((F_W_weigh_64_57 (z_up (z_up (z_up (z_up (z_up (z_up w 57 0 (F_Y_value w 2 a1 0)) 57 1 (F_J_bitCount_0f7a4 w (zz_and (F_Y_knownBy w a1) a3))) 57 2 a2) 57 3 1) 57 4 a0) 57 5 (w 41 8))).2) 30 ((F_W_weigh_64_57 (z_up (z_up (z_up (z_up (z_up (z_up w 57 0 (F_Y_value w 2 a1 0)) 57 1 (F_J_bitCount_0f7a4 w (zz_and (F_Y_knownBy w a1) a3))) 57 2 a2) 57 3 1) 57 4 a0) 57 5 (w 41 8))).1))]) (st := []) (C := m_J9_max_7cf53) (pc' := 141) dX1_missedIn_138 rfl t_4_117 k_J9_max_7cf53 rfl rfl (Nat.le_of_ble_eq_true rfl) ?_
              have r25 := h
              refine c_J_max_7cf53 r25 ?_
              show z_Wp m_X1_missedIn _ 141 [(0, zR 55), (1, zI a0), (2, zI a1), (3, zI a2), (4, zI a3), (5, zI (F_J_bitCount_0f7a4 w (zz_and (F_Y_knownBy w a1) a3)))] [zI (F_J_max_7cf53 ((F_W_weigh_64_57 (z_up (z_up (z_up (z_up (z_up (z_up w 57 0 (F_Y_value w 2 a1 0)) 57 1 (F_J_bitCount_0f7a4 w (zz_and (F_Y_knownBy w a1) a3))) 57 2 a2) 57 3 1) 57 4 a0) 57 5 (w 41 8))).2) 0 (F_J_min_7cf53 ((F_W_weigh_64_57 (z_up (z_up (z_up (z_up (z_up (z_up w 57 0 (F_Y_value w 2 a1 0)) 57 1 (F_J_bitCount_0f7a4 w (zz_and (F_Y_knownBy w a1) a3))) 57 2 a2) 57 3 1) 57 4 a0) 57 5 (w 41 8))).2) 30 ((F_W_weigh_64_57 (z_up (z_up (z_up (z_up (z_up (z_up w 57 0 (F_Y_value w 2 a1 0)) 57 1 (F_J_bitCount_0f7a4 w (zz_and (F_Y_knownBy w a1) a3))) 57 2 a2) 57 3 1) 57 4 a0) 57 5 (w 41 8))).1)))] ((F_W_weigh_64_57 (z_up (z_up (z_up (z_up (z_up (z_up w 57 0 (F_Y_value w 2 a1 0)) 57 1 (F_J_bitCount_0f7a4 w (zz_and (F_Y_knownBy w a1) a3))) 57 2 a2) 57 3 1) 57 4 a0) 57 5 (w 41 8))).2) _
              refine z_iret rfl dX1_missedIn_141 ?_
              exact k
            · have h := h.2 c
              rw [if_neg c] at k
              refine z_aald (t := 67) (pc' := 128) (by decide) rfl r19 (by decide) (by rw [show w 55 5 = 3 by omega]; rfl) dX1_missedIn_127 rfl ?_
              refine z_aload_n (pc' := 129) 0 rfl rfl dX1_missedIn_128 rfl ?_
              refine z_getR (t := 57) (pc' := 132) g_X1_17 (by decide) rfl rfl dX1_missedIn_129 rfl ?_
              refine z_invV (as := [zR 57]) (st := [zI 30, zI 0]) (C := m_X4_weigh) (fs := [70, 71, 0, 0]) (pc' := 135) dX1_missedIn_132 rfl t_4_93 k_X4_weigh rfl (by decide) rfl rfl rfl rfl (Nat.le_of_ble_eq_true rfl) ?_
              obtain ⟨r20, h⟩ := h
              refine c_W_weigh_67_57 r20 ?_
              show z_Wp m_X1_missedIn _ 135 [(0, zR 55), (1, zI a0), (2, zI a1), (3, zI a2), (4, zI a3), (5, zI (F_J_bitCount_0f7a4 w (zz_and (F_Y_knownBy w a1) a3)))] [zI ((F_W_weigh_67_57 (z_up (z_up (z_up (z_up (z_up (z_up w 57 0 (F_Y_value w 2 a1 0)) 57 1 (F_J_bitCount_0f7a4 w (zz_and (F_Y_knownBy w a1) a3))) 57 2 a2) 57 3 1) 57 4 a0) 57 5 (w 41 8))).1), zI 30, zI 0] ((F_W_weigh_67_57 (z_up (z_up (z_up (z_up (z_up (z_up w 57 0 (F_Y_value w 2 a1 0)) 57 1 (F_J_bitCount_0f7a4 w (zz_and (F_Y_knownBy w a1) a3))) 57 2 a2) 57 3 1) 57 4 a0) 57 5 (w 41 8))).2) _
              refine z_invS (as := [zI 30, zI ((F_W_weigh_67_57 (z_up (z_up (z_up (z_up (z_up (z_up w 57 0 (F_Y_value w 2 a1 0)) 57 1 (F_J_bitCount_0f7a4 w (zz_and (F_Y_knownBy w a1) a3))) 57 2 a2) 57 3 1) 57 4 a0) 57 5 (w 41 8))).1)]) (st := [zI 0]) (C := m_J9_min_7cf53) (pc' := 138) dX1_missedIn_135 rfl t_4_116 k_J9_min_7cf53 rfl rfl (Nat.le_of_ble_eq_true rfl) ?_
              obtain ⟨r21, h⟩ := h
              refine c_J_min_7cf53 r21 ?_
              show z_Wp m_X1_missedIn _ 138 [(0, zR 55), (1, zI a0), (2, zI a1), (3, zI a2), (4, zI a3), (5, zI (F_J_bitCount_0f7a4 w (zz_and (F_Y_knownBy w a1) a3)))] [zI (F_J_min_7cf53 ((F_W_weigh_67_57 (z_up (z_up (z_up (z_up (z_up (z_up w 57 0 (F_Y_value w 2 a1 0)) 57 1 (F_J_bitCount_0f7a4 w (zz_and (F_Y_knownBy w a1) a3))) 57 2 a2) 57 3 1) 57 4 a0) 57 5 (w 41 8))).2) 30 ((F_W_weigh_67_57 (z_up (z_up (z_up (z_up (z_up (z_up w 57 0 (F_Y_value w 2 a1 0)) 57 1 (F_J_bitCount_0f7a4 w (zz_and (F_Y_knownBy w a1) a3))) 57 2 a2) 57 3 1) 57 4 a0) 57 5 (w 41 8))).1)), zI 0] ((F_W_weigh_67_57 (z_up (z_up (z_up (z_up (z_up (z_up w 57 0 (F_Y_value w 2 a1 0)) 57 1 (F_J_bitCount_0f7a4 w (zz_and (F_Y_knownBy w a1) a3))) 57 2 a2) 57 3 1) 57 4 a0) 57 5 (w 41 8))).2) _
              refine z_invS (as := [zI 0, zI (F_J_min_7cf53 ((F_W_weigh_67_57 (z_up (z_up (z_up (z_up (z_up (z_up w 57 0 (F_Y_value w 2 a1 0)) 57 1 (F_J_bitCount_0f7a4 w (zz_and (F_Y_knownBy w a1) a3))) 57 2 a2) 57 3 1) 57 4 a0) 57 5 (w 41 8))).2) 30 ((F_W_weigh_67_57 (z_up (z_up (z_up (z_up (z_up (z_up w 57 0 (F_Y_value w 2 a1 0)) 57 1 (F_J_bitCount_0f7a4 w (zz_and (F_Y_knownBy w a1) a3))) 57 2 a2) 57 3 1) 57 4 a0) 57 5 (w 41 8))).1))]) (st := []) (C := m_J9_max_7cf53) (pc' := 141) dX1_missedIn_138 rfl t_4_117 k_J9_max_7cf53 rfl rfl (Nat.le_of_ble_eq_true rfl) ?_
              have r22 := h
              refine c_J_max_7cf53 r22 ?_
              show z_Wp m_X1_missedIn _ 141 [(0, zR 55), (1, zI a0), (2, zI a1), (3, zI a2), (4, zI a3), (5, zI (F_J_bitCount_0f7a4 w (zz_and (F_Y_knownBy w a1) a3)))] [zI (F_J_max_7cf53 ((F_W_weigh_67_57 (z_up (z_up (z_up (z_up (z_up (z_up w 57 0 (F_Y_value w 2 a1 0)) 57 1 (F_J_bitCount_0f7a4 w (zz_and (F_Y_knownBy w a1) a3))) 57 2 a2) 57 3 1) 57 4 a0) 57 5 (w 41 8))).2) 0 (F_J_min_7cf53 ((F_W_weigh_67_57 (z_up (z_up (z_up (z_up (z_up (z_up w 57 0 (F_Y_value w 2 a1 0)) 57 1 (F_J_bitCount_0f7a4 w (zz_and (F_Y_knownBy w a1) a3))) 57 2 a2) 57 3 1) 57 4 a0) 57 5 (w 41 8))).2) 30 ((F_W_weigh_67_57 (z_up (z_up (z_up (z_up (z_up (z_up w 57 0 (F_Y_value w 2 a1 0)) 57 1 (F_J_bitCount_0f7a4 w (zz_and (F_Y_knownBy w a1) a3))) 57 2 a2) 57 3 1) 57 4 a0) 57 5 (w 41 8))).1)))] ((F_W_weigh_67_57 (z_up (z_up (z_up (z_up (z_up (z_up w 57 0 (F_Y_value w 2 a1 0)) 57 1 (F_J_bitCount_0f7a4 w (zz_and (F_Y_knownBy w a1) a3))) 57 2 a2) 57 3 1) 57 4 a0) 57 5 (w 41 8))).2) _
              refine z_iret rfl dX1_missedIn_141 ?_
              exact k
    · have h := h.2 c
      rw [if_neg c] at k
      refine z_aload_n (pc' := 32) 0 rfl rfl dX1_missedIn_31 rfl ?_
      refine z_getR (t := 30) (pc' := 35) g_X1_25 (by decide) rfl rfl dX1_missedIn_32 rfl ?_
      refine z_iload_n (pc' := 36) 2 rfl rfl dX1_missedIn_35 rfl ?_
      refine z_invV (as := [zI a1]) (st := []) (C := m_X6_syllables) (fs := [33, 34]) (pc' := 39) dX1_missedIn_36 rfl t_4_87 k_X6_syllables rfl (by decide) rfl rfl rfl rfl (Nat.le_of_ble_eq_true rfl) ?_
      have r32 := h
      refine c_Y_syllables r32 ?_
      show z_Wp m_X1_missedIn _ 39 [(0, zR 55), (1, zI a0), (2, zI a1), (3, zI a2), (4, zI a3), (5, zI (F_J_bitCount_0f7a4 w (zz_and (F_Y_knownBy w a1) a3)))] [zI (F_Y_value w 2 a1 0)] w _
      refine z_iconst (pc' := 40) dX1_missedIn_39 rfl ?_
      refine z_iload (pc' := 42) 5 rfl dX1_missedIn_40 rfl ?_
      refine z_imul (pc' := 43) dX1_missedIn_42 rfl ?_
      refine z_iadd (pc' := 44) dX1_missedIn_43 rfl ?_
      refine z_iret rfl dX1_missedIn_44 ?_
      exact k
def A_G_withoutThese_28 (w : z_Wd) (a0 : Int) : Nat → Int × z_Wd
  | 0 => (0, w)
  | i8 + 1 => if zz_and (zz_shr (zz_and (zz_and ((zz_shl 1 (w 32 2)) - 1) (zz_xor (F_K_inside w (-1)) (-1))) (zz_xor a0 (-1))) (i8 : Int)) 1 = 1 then (((A_G_withoutThese_28 w a0 i8).1) + ((F_G_missedIn ((A_G_withoutThese_28 w a0 i8).2) (F_K_wellOf ((A_G_withoutThese_28 w a0 i8).2) (i8 : Int)) (i8 : Int) (F_K_above ((A_G_withoutThese_28 w a0 i8).2) (i8 : Int) (zz_and (zz_and ((zz_shl 1 (w 32 2)) - 1) (zz_xor (F_K_inside w (-1)) (-1))) (zz_xor a0 (-1)))) (zz_or (F_K_inside w (-1)) a0)).1), (F_G_missedIn ((A_G_withoutThese_28 w a0 i8).2) (F_K_wellOf ((A_G_withoutThese_28 w a0 i8).2) (i8 : Int)) (i8 : Int) (F_K_above ((A_G_withoutThese_28 w a0 i8).2) (i8 : Int) (zz_and (zz_and ((zz_shl 1 (w 32 2)) - 1) (zz_xor (F_K_inside w (-1)) (-1))) (zz_xor a0 (-1)))) (zz_or (F_K_inside w (-1)) a0)).2) else ((A_G_withoutThese_28 w a0 i8).1, (A_G_withoutThese_28 w a0 i8).2)
def P_G_withoutThese (w : z_Wd) (a0 : Int) : Prop := (P_K_inside w (-1)) ∧ ((∀ i8 : Nat, i8 < ((w 32 2).toNat) → (-2147483648 ≤ (i8 : Int) ∧ (i8 : Int) < 2147483648) ∧ (-2147483648 ≤ ((A_G_withoutThese_28 w a0 i8).2) 32 2 ∧ ((A_G_withoutThese_28 w a0 i8).2) 32 2 < 2147483648) ∧ (((A_G_withoutThese_28 w a0 i8).2) 32 2 = w 32 2) ∧ (-2147483648 ≤ zz_and (zz_shr (zz_and (zz_and ((zz_shl 1 (w 32 2)) - 1) (zz_xor (F_K_inside w (-1)) (-1))) (zz_xor a0 (-1))) (i8 : Int)) 1 ∧ zz_and (zz_shr (zz_and (zz_and ((zz_shl 1 (w 32 2)) - 1) (zz_xor (F_K_inside w (-1)) (-1))) (zz_xor a0 (-1))) (i8 : Int)) 1 < 2147483648) ∧ ((zz_and (zz_shr (zz_and (zz_and ((zz_shl 1 (w 32 2)) - 1) (zz_xor (F_K_inside w (-1)) (-1))) (zz_xor a0 (-1))) (i8 : Int)) 1 = 1 → (P_K_wellOf ((A_G_withoutThese_28 w a0 i8).2) (i8 : Int)) ∧ (P_K_above ((A_G_withoutThese_28 w a0 i8).2) (i8 : Int) (zz_and (zz_and ((zz_shl 1 (w 32 2)) - 1) (zz_xor (F_K_inside w (-1)) (-1))) (zz_xor a0 (-1)))) ∧ (P_G_missedIn ((A_G_withoutThese_28 w a0 i8).2) (F_K_wellOf ((A_G_withoutThese_28 w a0 i8).2) (i8 : Int)) (i8 : Int) (F_K_above ((A_G_withoutThese_28 w a0 i8).2) (i8 : Int) (zz_and (zz_and ((zz_shl 1 (w 32 2)) - 1) (zz_xor (F_K_inside w (-1)) (-1))) (zz_xor a0 (-1)))) (zz_or (F_K_inside w (-1)) a0))) ∧ (¬ (zz_and (zz_shr (zz_and (zz_and ((zz_shl 1 (w 32 2)) - 1) (zz_xor (F_K_inside w (-1)) (-1))) (zz_xor a0 (-1))) (i8 : Int)) 1 = 1) → True))) ∧ ((-2147483648 ≤ (((w 32 2).toNat : Nat) : Int) ∧ (((w 32 2).toNat : Nat) : Int) < 2147483648) ∧ (-2147483648 ≤ ((A_G_withoutThese_28 w a0 (w 32 2).toNat).2) 32 2 ∧ ((A_G_withoutThese_28 w a0 (w 32 2).toNat).2) 32 2 < 2147483648) ∧ (((A_G_withoutThese_28 w a0 (w 32 2).toNat).2) 32 2 = w 32 2)))
def F_G_withoutThese (w : z_Wd) (a0 : Int) : Int × z_Wd := ((A_G_withoutThese_28 w a0 (w 32 2).toNat).1, (A_G_withoutThese_28 w a0 (w 32 2).toNat).2)
set_option maxRecDepth 4000 in
theorem c_G_withoutThese {d : Nat} {w : z_Wd} {a0 : Int} {Q : Option z_V → z_Wd → Prop} (h : P_G_withoutThese w a0) (k : Q (some (zI (F_G_withoutThese w a0).1)) (F_G_withoutThese w a0).2) : z_Wc (d + 5) m_X1_withoutThese [zR 55, zI a0] w Q := by
  unfold P_G_withoutThese at h
  unfold F_G_withoutThese at k
  refine z_enter rfl (Nat.le_of_ble_eq_true rfl) ?_
  show z_Wp m_X1_withoutThese _ 0 [(0, zR 55), (1, zI a0)] [] w _
  refine z_aload_n (pc' := 1) 0 rfl rfl dX1_withoutThese_0 rfl ?_
  refine z_getR (t := 41) (pc' := 4) g_X1_29 (by decide) rfl rfl dX1_withoutThese_1 rfl ?_
  refine z_invV (as := []) (st := []) (C := m_X3_drowned) (fs := [32, 44, 45, 46, 47, 48, 0, 0, 0]) (pc' := 7) dX1_withoutThese_4 rfl t_4_70 k_X3_drowned rfl (by decide) rfl rfl rfl rfl (Nat.le_of_ble_eq_true rfl) ?_
  obtain ⟨r1, h⟩ := h
  refine c_K_drowned r1 ?_
  show z_Wp m_X1_withoutThese _ 7 [(0, zR 55), (1, zI a0)] [zI (zz_and ((zz_shl 1 (w 32 2)) - 1) (zz_xor (F_K_inside w (-1)) (-1)))] w _
  refine z_iload_n (pc' := 8) 1 rfl rfl dX1_withoutThese_7 rfl ?_
  refine z_iconst (pc' := 9) dX1_withoutThese_8 rfl ?_
  refine z_ixor (pc' := 10) dX1_withoutThese_9 rfl ?_
  refine z_iand (pc' := 11) dX1_withoutThese_10 rfl ?_
  refine z_istore_n (pc' := 12) (ls' := [(0, zR 55), (1, zI a0), (2, zI (zz_and (zz_and ((zz_shl 1 (w 32 2)) - 1) (zz_xor (F_K_inside w (-1)) (-1))) (zz_xor a0 (-1))))]) rfl (by decide) rfl rfl dX1_withoutThese_11 rfl ?_
  refine z_aload_n (pc' := 13) 0 rfl rfl dX1_withoutThese_12 rfl ?_
  refine z_getR (t := 41) (pc' := 16) g_X1_29 (by decide) rfl rfl dX1_withoutThese_13 rfl ?_
  refine z_invV (as := []) (st := []) (C := m_X3_free) (fs := [32, 44, 45, 46, 47, 48, 0, 0, 0]) (pc' := 19) dX1_withoutThese_16 rfl t_4_71 k_X3_free rfl (by decide) rfl rfl rfl rfl (Nat.le_of_ble_eq_true rfl) ?_
  refine c_K_free r1 ?_
  show z_Wp m_X1_withoutThese _ 19 [(0, zR 55), (1, zI a0), (2, zI (zz_and (zz_and ((zz_shl 1 (w 32 2)) - 1) (zz_xor (F_K_inside w (-1)) (-1))) (zz_xor a0 (-1))))] [zI (F_K_inside w (-1))] w _
  refine z_iload_n (pc' := 20) 1 rfl rfl dX1_withoutThese_19 rfl ?_
  refine z_ior (pc' := 21) dX1_withoutThese_20 rfl ?_
  refine z_istore_n (pc' := 22) (ls' := [(0, zR 55), (1, zI a0), (2, zI (zz_and (zz_and ((zz_shl 1 (w 32 2)) - 1) (zz_xor (F_K_inside w (-1)) (-1))) (zz_xor a0 (-1)))), (3, zI (zz_or (F_K_inside w (-1)) a0))]) rfl (by decide) rfl rfl dX1_withoutThese_21 rfl ?_
  refine z_iconst (pc' := 23) dX1_withoutThese_22 rfl ?_
  refine z_istore (pc' := 25) (ls' := [(0, zR 55), (1, zI a0), (2, zI (zz_and (zz_and ((zz_shl 1 (w 32 2)) - 1) (zz_xor (F_K_inside w (-1)) (-1))) (zz_xor a0 (-1)))), (3, zI (zz_or (F_K_inside w (-1)) a0)), (4, zI 0)]) (by decide) rfl rfl dX1_withoutThese_23 rfl ?_
  refine z_iconst (pc' := 26) dX1_withoutThese_25 rfl ?_
  refine z_istore (pc' := 28) (ls' := [(0, zR 55), (1, zI a0), (2, zI (zz_and (zz_and ((zz_shl 1 (w 32 2)) - 1) (zz_xor (F_K_inside w (-1)) (-1))) (zz_xor a0 (-1)))), (3, zI (zz_or (F_K_inside w (-1)) a0)), (4, zI 0), (5, zI 0)]) (by decide) rfl rfl dX1_withoutThese_26 rfl ?_
  refine z_Wp.sub (ls' := [(0, zR 55), (2, zI (zz_and (zz_and ((zz_shl 1 (w 32 2)) - 1) (zz_xor (F_K_inside w (-1)) (-1))) (zz_xor a0 (-1)))), (3, zI (zz_or (F_K_inside w (-1)) a0)), (4, zI 0), (5, zI 0)]) ?_ (z_sub_of [0, 2, 3, 4, 5] rfl)
  refine z_upto ((w 32 2).toNat) (fun i8 => z_Wp m_X1_withoutThese (d + 5) 28 [(0, zR 55), (2, zI (zz_and (zz_and ((zz_shl 1 (w 32 2)) - 1) (zz_xor (F_K_inside w (-1)) (-1))) (zz_xor a0 (-1)))), (3, zI (zz_or (F_K_inside w (-1)) a0)), (4, zI ((A_G_withoutThese_28 w a0 i8).1)), (5, zI (i8 : Int))] [] ((A_G_withoutThese_28 w a0 i8).2) Q) ?_ ?_
  · skip
    have h := h.2
    refine z_iload (pc' := 30) 4 rfl dX1_withoutThese_28 rfl ?_
    refine z_aload_n (pc' := 31) 0 rfl rfl dX1_withoutThese_30 rfl ?_
    refine z_getR (t := 30) (pc' := 34) g_X1_25 (by decide) rfl rfl dX1_withoutThese_31 rfl ?_
    refine z_invV (as := []) (st := [zI (((w 32 2).toNat : Nat) : Int)]) (C := m_X6_names) (fs := [33, 34]) (pc' := 37) dX1_withoutThese_34 rfl t_4_75 k_X6_names rfl (by decide) rfl rfl rfl rfl (Nat.le_of_ble_eq_true rfl) ?_
    refine c_Y_names ?_
    show z_Wp m_X1_withoutThese _ 37 [(0, zR 55), (2, zI (zz_and (zz_and ((zz_shl 1 (w 32 2)) - 1) (zz_xor (F_K_inside w (-1)) (-1))) (zz_xor a0 (-1)))), (3, zI (zz_or (F_K_inside w (-1)) a0)), (4, zI ((A_G_withoutThese_28 w a0 (w 32 2).toNat).1)), (5, zI (((w 32 2).toNat : Nat) : Int))] [zI (((A_G_withoutThese_28 w a0 (w 32 2).toNat).2) 32 2), zI (((w 32 2).toNat : Nat) : Int)] ((A_G_withoutThese_28 w a0 (w 32 2).toNat).2) _
    obtain ⟨r16, h⟩ := h
    obtain ⟨r17, h⟩ := h
    have r18 := h
    refine z_icmp_ge 87 dX1_withoutThese_37 (by decide) (pc' := 40) rfl r16 r17 (fun _ => ?_) (fun c => absurd c (by first | omega | (rw [r18]; first | exact z_exitgt | exact z_exitge | omega)))
    refine z_iload (pc' := 89) 3 rfl dX1_withoutThese_87 rfl ?_
    refine z_iret rfl dX1_withoutThese_89 ?_
    exact k
  · intro i8 hi ih
    have h := h.1 i8 hi
    have ih : z_Wp m_X1_withoutThese (d + 5) 28 [(0, zR 55), (2, zI (zz_and (zz_and ((zz_shl 1 (w 32 2)) - 1) (zz_xor (F_K_inside w (-1)) (-1))) (zz_xor a0 (-1)))), (3, zI (zz_or (F_K_inside w (-1)) a0)), (4, zI ((if zz_and (zz_shr (zz_and (zz_and ((zz_shl 1 (w 32 2)) - 1) (zz_xor (F_K_inside w (-1)) (-1))) (zz_xor a0 (-1))) (i8 : Int)) 1 = 1 then (((A_G_withoutThese_28 w a0 i8).1) + ((F_G_missedIn ((A_G_withoutThese_28 w a0 i8).2) (F_K_wellOf ((A_G_withoutThese_28 w a0 i8).2) (i8 : Int)) (i8 : Int) (F_K_above ((A_G_withoutThese_28 w a0 i8).2) (i8 : Int) (zz_and (zz_and ((zz_shl 1 (w 32 2)) - 1) (zz_xor (F_K_inside w (-1)) (-1))) (zz_xor a0 (-1)))) (zz_or (F_K_inside w (-1)) a0)).1), (F_G_missedIn ((A_G_withoutThese_28 w a0 i8).2) (F_K_wellOf ((A_G_withoutThese_28 w a0 i8).2) (i8 : Int)) (i8 : Int) (F_K_above ((A_G_withoutThese_28 w a0 i8).2) (i8 : Int) (zz_and (zz_and ((zz_shl 1 (w 32 2)) - 1) (zz_xor (F_K_inside w (-1)) (-1))) (zz_xor a0 (-1)))) (zz_or (F_K_inside w (-1)) a0)).2) else ((A_G_withoutThese_28 w a0 i8).1, (A_G_withoutThese_28 w a0 i8).2)).1)), (5, zI ((i8 + 1 : Nat) : Int))] [] ((if zz_and (zz_shr (zz_and (zz_and ((zz_shl 1 (w 32 2)) - 1) (zz_xor (F_K_inside w (-1)) (-1))) (zz_xor a0 (-1))) (i8 : Int)) 1 = 1 then (((A_G_withoutThese_28 w a0 i8).1) + ((F_G_missedIn ((A_G_withoutThese_28 w a0 i8).2) (F_K_wellOf ((A_G_withoutThese_28 w a0 i8).2) (i8 : Int)) (i8 : Int) (F_K_above ((A_G_withoutThese_28 w a0 i8).2) (i8 : Int) (zz_and (zz_and ((zz_shl 1 (w 32 2)) - 1) (zz_xor (F_K_inside w (-1)) (-1))) (zz_xor a0 (-1)))) (zz_or (F_K_inside w (-1)) a0)).1), (F_G_missedIn ((A_G_withoutThese_28 w a0 i8).2) (F_K_wellOf ((A_G_withoutThese_28 w a0 i8).2) (i8 : Int)) (i8 : Int) (F_K_above ((A_G_withoutThese_28 w a0 i8).2) (i8 : Int) (zz_and (zz_and ((zz_shl 1 (w 32 2)) - 1) (zz_xor (F_K_inside w (-1)) (-1))) (zz_xor a0 (-1)))) (zz_or (F_K_inside w (-1)) a0)).2) else ((A_G_withoutThese_28 w a0 i8).1, (A_G_withoutThese_28 w a0 i8).2)).2) Q := ih
    refine z_iload (pc' := 30) 4 rfl dX1_withoutThese_28 rfl ?_
    refine z_aload_n (pc' := 31) 0 rfl rfl dX1_withoutThese_30 rfl ?_
    refine z_getR (t := 30) (pc' := 34) g_X1_25 (by decide) rfl rfl dX1_withoutThese_31 rfl ?_
    refine z_invV (as := []) (st := [zI (i8 : Int)]) (C := m_X6_names) (fs := [33, 34]) (pc' := 37) dX1_withoutThese_34 rfl t_4_75 k_X6_names rfl (by decide) rfl rfl rfl rfl (Nat.le_of_ble_eq_true rfl) ?_
    refine c_Y_names ?_
    show z_Wp m_X1_withoutThese _ 37 [(0, zR 55), (2, zI (zz_and (zz_and ((zz_shl 1 (w 32 2)) - 1) (zz_xor (F_K_inside w (-1)) (-1))) (zz_xor a0 (-1)))), (3, zI (zz_or (F_K_inside w (-1)) a0)), (4, zI ((A_G_withoutThese_28 w a0 i8).1)), (5, zI (i8 : Int))] [zI (((A_G_withoutThese_28 w a0 i8).2) 32 2), zI (i8 : Int)] ((A_G_withoutThese_28 w a0 i8).2) _
    obtain ⟨r9, h⟩ := h
    obtain ⟨r10, h⟩ := h
    obtain ⟨r11, h⟩ := h
    refine z_icmp_ge 87 dX1_withoutThese_37 (by decide) (pc' := 40) rfl r9 r10 (fun c => absurd c (by first | omega | (rw [r11]; first | exact z_exitgt | exact z_exitge | omega))) (fun _ => ?_)
    refine z_iload_n (pc' := 41) 1 rfl rfl dX1_withoutThese_40 rfl ?_
    refine z_iload (pc' := 43) 4 rfl dX1_withoutThese_41 rfl ?_
    refine z_ishr (pc' := 44) dX1_withoutThese_43 rfl ?_
    refine z_iconst (pc' := 45) dX1_withoutThese_44 rfl ?_
    refine z_iand (pc' := 46) dX1_withoutThese_45 rfl ?_
    refine z_iconst (pc' := 47) dX1_withoutThese_46 rfl ?_
    obtain ⟨r12, h⟩ := h
    refine z_icmp_ne 81 dX1_withoutThese_47 (by decide) (pc' := 50) rfl r12 (by decide) (fun c115 => ?_) (fun c115 => ?_)
    · have h := h.2 c115
      rw [if_neg c115] at ih
      refine z_iinc (pc' := 84) (ls' := [(0, zR 55), (2, zI (zz_and (zz_and ((zz_shl 1 (w 32 2)) - 1) (zz_xor (F_K_inside w (-1)) (-1))) (zz_xor a0 (-1)))), (3, zI (zz_or (F_K_inside w (-1)) a0)), (4, zI ((A_G_withoutThese_28 w a0 i8).1)), (5, zI ((i8 : Int) + 1))]) 4 rfl (by decide) rfl rfl dX1_withoutThese_81 rfl ?_
      refine z_goto 28 dX1_withoutThese_84 (by decide) ?_
      exact ih
    · have h := h.1 c115
      rw [if_pos c115] at ih
      refine z_iload (pc' := 52) 3 rfl dX1_withoutThese_50 rfl ?_
      refine z_aload_n (pc' := 53) 0 rfl rfl dX1_withoutThese_52 rfl ?_
      refine z_aload_n (pc' := 54) 0 rfl rfl dX1_withoutThese_53 rfl ?_
      refine z_getR (t := 41) (pc' := 57) g_X1_29 (by decide) rfl rfl dX1_withoutThese_54 rfl ?_
      refine z_iload (pc' := 59) 4 rfl dX1_withoutThese_57 rfl ?_
      refine z_invV (as := [zI (i8 : Int)]) (st := [zR 55, zI ((A_G_withoutThese_28 w a0 i8).1)]) (C := m_X3_wellOf) (fs := [32, 44, 45, 46, 47, 48, 0, 0, 0]) (pc' := 62) dX1_withoutThese_59 rfl t_4_76 k_X3_wellOf rfl (by decide) rfl rfl rfl rfl (Nat.le_of_ble_eq_true rfl) ?_
      obtain ⟨r13, h⟩ := h
      refine c_K_wellOf r13 ?_
      show z_Wp m_X1_withoutThese _ 62 [(0, zR 55), (2, zI (zz_and (zz_and ((zz_shl 1 (w 32 2)) - 1) (zz_xor (F_K_inside w (-1)) (-1))) (zz_xor a0 (-1)))), (3, zI (zz_or (F_K_inside w (-1)) a0)), (4, zI ((A_G_withoutThese_28 w a0 i8).1)), (5, zI (i8 : Int))] [zI (F_K_wellOf ((A_G_withoutThese_28 w a0 i8).2) (i8 : Int)), zR 55, zI ((A_G_withoutThese_28 w a0 i8).1)] ((A_G_withoutThese_28 w a0 i8).2) _
      refine z_iload (pc' := 64) 4 rfl dX1_withoutThese_62 rfl ?_
      refine z_aload_n (pc' := 65) 0 rfl rfl dX1_withoutThese_64 rfl ?_
      refine z_getR (t := 41) (pc' := 68) g_X1_29 (by decide) rfl rfl dX1_withoutThese_65 rfl ?_
      refine z_iload (pc' := 70) 4 rfl dX1_withoutThese_68 rfl ?_
      refine z_iload_n (pc' := 71) 1 rfl rfl dX1_withoutThese_70 rfl ?_
      refine z_invV (as := [zI (i8 : Int), zI (zz_and (zz_and ((zz_shl 1 (w 32 2)) - 1) (zz_xor (F_K_inside w (-1)) (-1))) (zz_xor a0 (-1)))]) (st := [zI (i8 : Int), zI (F_K_wellOf ((A_G_withoutThese_28 w a0 i8).2) (i8 : Int)), zR 55, zI ((A_G_withoutThese_28 w a0 i8).1)]) (C := m_X3_above) (fs := [32, 44, 45, 46, 47, 48, 0, 0, 0]) (pc' := 74) dX1_withoutThese_71 rfl t_4_77 k_X3_above rfl (by decide) rfl rfl rfl rfl (Nat.le_of_ble_eq_true rfl) ?_
      obtain ⟨r14, h⟩ := h
      refine c_K_above r14 ?_
      show z_Wp m_X1_withoutThese _ 74 [(0, zR 55), (2, zI (zz_and (zz_and ((zz_shl 1 (w 32 2)) - 1) (zz_xor (F_K_inside w (-1)) (-1))) (zz_xor a0 (-1)))), (3, zI (zz_or (F_K_inside w (-1)) a0)), (4, zI ((A_G_withoutThese_28 w a0 i8).1)), (5, zI (i8 : Int))] [zI (F_K_above ((A_G_withoutThese_28 w a0 i8).2) (i8 : Int) (zz_and (zz_and ((zz_shl 1 (w 32 2)) - 1) (zz_xor (F_K_inside w (-1)) (-1))) (zz_xor a0 (-1)))), zI (i8 : Int), zI (F_K_wellOf ((A_G_withoutThese_28 w a0 i8).2) (i8 : Int)), zR 55, zI ((A_G_withoutThese_28 w a0 i8).1)] ((A_G_withoutThese_28 w a0 i8).2) _
      refine z_iload_n (pc' := 75) 2 rfl rfl dX1_withoutThese_74 rfl ?_
      refine z_invV (as := [zI (F_K_wellOf ((A_G_withoutThese_28 w a0 i8).2) (i8 : Int)), zI (i8 : Int), zI (F_K_above ((A_G_withoutThese_28 w a0 i8).2) (i8 : Int) (zz_and (zz_and ((zz_shl 1 (w 32 2)) - 1) (zz_xor (F_K_inside w (-1)) (-1))) (zz_xor a0 (-1)))), zI (zz_or (F_K_inside w (-1)) a0)]) (st := [zI ((A_G_withoutThese_28 w a0 i8).1)]) (C := m_X1_missedIn) (fs := [32, 43, 58, 59, 0, 0]) (pc' := 78) dX1_withoutThese_75 rfl t_4_78 k_X1_missedIn rfl (by decide) rfl rfl rfl rfl (Nat.le_of_ble_eq_true rfl) ?_
      have r15 := h
      refine c_G_missedIn r15 ?_
      show z_Wp m_X1_withoutThese _ 78 [(0, zR 55), (2, zI (zz_and (zz_and ((zz_shl 1 (w 32 2)) - 1) (zz_xor (F_K_inside w (-1)) (-1))) (zz_xor a0 (-1)))), (3, zI (zz_or (F_K_inside w (-1)) a0)), (4, zI ((A_G_withoutThese_28 w a0 i8).1)), (5, zI (i8 : Int))] [zI ((F_G_missedIn ((A_G_withoutThese_28 w a0 i8).2) (F_K_wellOf ((A_G_withoutThese_28 w a0 i8).2) (i8 : Int)) (i8 : Int) (F_K_above ((A_G_withoutThese_28 w a0 i8).2) (i8 : Int) (zz_and (zz_and ((zz_shl 1 (w 32 2)) - 1) (zz_xor (F_K_inside w (-1)) (-1))) (zz_xor a0 (-1)))) (zz_or (F_K_inside w (-1)) a0)).1), zI ((A_G_withoutThese_28 w a0 i8).1)] ((F_G_missedIn ((A_G_withoutThese_28 w a0 i8).2) (F_K_wellOf ((A_G_withoutThese_28 w a0 i8).2) (i8 : Int)) (i8 : Int) (F_K_above ((A_G_withoutThese_28 w a0 i8).2) (i8 : Int) (zz_and (zz_and ((zz_shl 1 (w 32 2)) - 1) (zz_xor (F_K_inside w (-1)) (-1))) (zz_xor a0 (-1)))) (zz_or (F_K_inside w (-1)) a0)).2) _
      refine z_iadd (pc' := 79) dX1_withoutThese_78 rfl ?_
      refine z_istore (pc' := 81) (ls' := [(0, zR 55), (2, zI (zz_and (zz_and ((zz_shl 1 (w 32 2)) - 1) (zz_xor (F_K_inside w (-1)) (-1))) (zz_xor a0 (-1)))), (3, zI (zz_or (F_K_inside w (-1)) a0)), (4, zI (((A_G_withoutThese_28 w a0 i8).1) + ((F_G_missedIn ((A_G_withoutThese_28 w a0 i8).2) (F_K_wellOf ((A_G_withoutThese_28 w a0 i8).2) (i8 : Int)) (i8 : Int) (F_K_above ((A_G_withoutThese_28 w a0 i8).2) (i8 : Int) (zz_and (zz_and ((zz_shl 1 (w 32 2)) - 1) (zz_xor (F_K_inside w (-1)) (-1))) (zz_xor a0 (-1)))) (zz_or (F_K_inside w (-1)) a0)).1))), (5, zI (i8 : Int))]) (by decide) rfl rfl dX1_withoutThese_79 rfl ?_
      refine z_iinc (pc' := 84) (ls' := [(0, zR 55), (2, zI (zz_and (zz_and ((zz_shl 1 (w 32 2)) - 1) (zz_xor (F_K_inside w (-1)) (-1))) (zz_xor a0 (-1)))), (3, zI (zz_or (F_K_inside w (-1)) a0)), (4, zI (((A_G_withoutThese_28 w a0 i8).1) + ((F_G_missedIn ((A_G_withoutThese_28 w a0 i8).2) (F_K_wellOf ((A_G_withoutThese_28 w a0 i8).2) (i8 : Int)) (i8 : Int) (F_K_above ((A_G_withoutThese_28 w a0 i8).2) (i8 : Int) (zz_and (zz_and ((zz_shl 1 (w 32 2)) - 1) (zz_xor (F_K_inside w (-1)) (-1))) (zz_xor a0 (-1)))) (zz_or (F_K_inside w (-1)) a0)).1))), (5, zI ((i8 : Int) + 1))]) 4 rfl (by decide) rfl rfl dX1_withoutThese_81 rfl ?_
      refine z_goto 28 dX1_withoutThese_84 (by decide) ?_
      exact ih
def E_G_lowestTaking_2 (w : z_Wd) (a0 : Int) (i4 : Nat) : Bool := if F_K_takes w (i4 : Int) a0 = 0 then false else true
def R_G_lowestTaking_2 (w : z_Wd) (a0 : Int) (i4 : Nat) : Int := if F_K_takes w (i4 : Int) a0 = 0 then 0 else (i4 : Int)
def P_G_lowestTaking (w : z_Wd) (a0 : Int) : Prop := (∀ i4 : Nat, i4 < ((w 32 1).toNat) → zfind (E_G_lowestTaking_2 w a0) i4 = -1 → (-2147483648 ≤ (i4 : Int) ∧ (i4 : Int) < 2147483648) ∧ (-2147483648 ≤ w 32 1 ∧ w 32 1 < 2147483648) ∧ (P_K_takes w (i4 : Int) a0)) ∧ ((-2147483648 ≤ (((w 32 1).toNat : Nat) : Int) ∧ (((w 32 1).toNat : Nat) : Int) < 2147483648) ∧ (-2147483648 ≤ w 32 1 ∧ w 32 1 < 2147483648))
def F_G_lowestTaking (w : z_Wd) (a0 : Int) : Int := if zfind (E_G_lowestTaking_2 w a0) ((w 32 1).toNat) = -1 then (-1) else R_G_lowestTaking_2 w a0 (zfind (E_G_lowestTaking_2 w a0) ((w 32 1).toNat)).toNat
set_option maxRecDepth 4000 in
theorem c_G_lowestTaking {d : Nat} {w : z_Wd} {a0 : Int} {Q : Option z_V → z_Wd → Prop} (h : P_G_lowestTaking w a0) (k : Q (some (zI (F_G_lowestTaking w a0))) w) : z_Wc (d + 4) m_X1_lowestTaking [zR 55, zI a0] w Q := by
  unfold P_G_lowestTaking at h
  unfold F_G_lowestTaking at k
  refine z_enter rfl (Nat.le_of_ble_eq_true rfl) ?_
  show z_Wp m_X1_lowestTaking _ 0 [(0, zR 55), (1, zI a0)] [] w _
  refine z_iconst (pc' := 1) dX1_lowestTaking_0 rfl ?_
  refine z_istore_n (pc' := 2) (ls' := [(0, zR 55), (1, zI a0), (2, zI 0)]) rfl (by decide) rfl rfl dX1_lowestTaking_1 rfl ?_
  refine z_upto ((w 32 1).toNat) (fun i4 => zfind (E_G_lowestTaking_2 w a0) i4 = -1 → z_Wp m_X1_lowestTaking (d + 4) 2 [(0, zR 55), (1, zI a0), (2, zI (i4 : Int))] [] w Q) ?_ ?_ rfl
  · intro hf
    rw [if_pos hf] at k
    have h := h.2
    refine z_iload_n (pc' := 3) 2 rfl rfl dX1_lowestTaking_2 rfl ?_
    refine z_aload_n (pc' := 4) 0 rfl rfl dX1_lowestTaking_3 rfl ?_
    refine z_getR (t := 30) (pc' := 7) g_X1_25 (by decide) rfl rfl dX1_lowestTaking_4 rfl ?_
    refine z_invV (as := []) (st := [zI (((w 32 1).toNat : Nat) : Int)]) (C := m_X6_wells) (fs := [33, 34]) (pc' := 10) dX1_lowestTaking_7 rfl t_5_129 k_X6_wells rfl (by decide) rfl rfl rfl rfl (Nat.le_of_ble_eq_true rfl) ?_
    refine c_Y_wells ?_
    show z_Wp m_X1_lowestTaking _ 10 [(0, zR 55), (1, zI a0), (2, zI (((w 32 1).toNat : Nat) : Int))] [zI (w 32 1), zI (((w 32 1).toNat : Nat) : Int)] w _
    obtain ⟨r8, h⟩ := h
    have r9 := h
    refine z_icmp_ge 33 dX1_lowestTaking_10 (by decide) (pc' := 13) rfl r8 r9 (fun _ => ?_) (fun c => absurd c (by omega))
    refine z_iconst (pc' := 34) dX1_lowestTaking_33 rfl ?_
    refine z_iret rfl dX1_lowestTaking_34 ?_
    exact k
  · intro i4 hi ih hf
    have h := h.1 i4 hi hf
    have hE : E_G_lowestTaking_2 w a0 i4 = (if F_K_takes w (i4 : Int) a0 = 0 then false else true) := rfl
    refine z_iload_n (pc' := 3) 2 rfl rfl dX1_lowestTaking_2 rfl ?_
    refine z_aload_n (pc' := 4) 0 rfl rfl dX1_lowestTaking_3 rfl ?_
    refine z_getR (t := 30) (pc' := 7) g_X1_25 (by decide) rfl rfl dX1_lowestTaking_4 rfl ?_
    refine z_invV (as := []) (st := [zI (i4 : Int)]) (C := m_X6_wells) (fs := [33, 34]) (pc' := 10) dX1_lowestTaking_7 rfl t_5_129 k_X6_wells rfl (by decide) rfl rfl rfl rfl (Nat.le_of_ble_eq_true rfl) ?_
    refine c_Y_wells ?_
    show z_Wp m_X1_lowestTaking _ 10 [(0, zR 55), (1, zI a0), (2, zI (i4 : Int))] [zI (w 32 1), zI (i4 : Int)] w _
    obtain ⟨r5, h⟩ := h
    obtain ⟨r6, h⟩ := h
    refine z_icmp_ge 33 dX1_lowestTaking_10 (by decide) (pc' := 13) rfl r5 r6 (fun c => absurd c (by omega)) (fun _ => ?_)
    refine z_aload_n (pc' := 14) 0 rfl rfl dX1_lowestTaking_13 rfl ?_
    refine z_getR (t := 41) (pc' := 17) g_X1_29 (by decide) rfl rfl dX1_lowestTaking_14 rfl ?_
    refine z_iload_n (pc' := 18) 2 rfl rfl dX1_lowestTaking_17 rfl ?_
    refine z_iload_n (pc' := 19) 1 rfl rfl dX1_lowestTaking_18 rfl ?_
    refine z_invV (as := [zI (i4 : Int), zI a0]) (st := []) (C := m_X3_takes) (fs := [32, 44, 45, 46, 47, 48, 0, 0, 0]) (pc' := 22) dX1_lowestTaking_19 rfl t_5_130 k_X3_takes rfl (by decide) rfl rfl rfl rfl (Nat.le_of_ble_eq_true rfl) ?_
    have r7 := h
    refine c_K_takes r7 ?_
    show z_Wp m_X1_lowestTaking _ 22 [(0, zR 55), (1, zI a0), (2, zI (i4 : Int))] [zI (F_K_takes w (i4 : Int) a0)] w _
    refine z_if_eq 27 dX1_lowestTaking_22 (by decide) (pc' := 25) rfl (z_rb b_K_takes) (fun c116 => ?_) (fun c116 => ?_)
    · skip
      rw [if_pos c116] at hE
      refine z_iinc (pc' := 30) (ls' := [(0, zR 55), (1, zI a0), (2, zI ((i4 : Int) + 1))]) 2 rfl (by decide) rfl rfl dX1_lowestTaking_27 rfl ?_
      refine z_goto 2 dX1_lowestTaking_30 (by decide) ?_
      exact (ih (zfind_miss hf (by rw [hE]; decide)))
    · skip
      rw [if_neg c116] at hE
      refine z_iload_n (pc' := 26) 2 rfl rfl dX1_lowestTaking_25 rfl ?_
      refine z_iret rfl dX1_lowestTaking_26 ?_
      have hz := zfind_hit hf hE _ hi
      rw [hz, if_neg (by omega), Int.toNat_natCast] at k
      unfold R_G_lowestTaking_2 at k
      rw [if_neg c116] at k
      exact k
def A_G_net_4 (w : z_Wd)  : Nat → Int
  | 0 => 0
  | i6 + 1 => if F_K_isFree w (i6 : Int) = 0 then A_G_net_4 w i6 else if F_K_isFree w (F_Y_value w 2 (i6 : Int) 1) = 0 then (A_G_net_4 w i6) + 1 else A_G_net_4 w i6
def P_G_net (w : z_Wd)  : Prop := (∀ i6 : Nat, i6 < ((w 32 2).toNat) → (-2147483648 ≤ (i6 : Int) ∧ (i6 : Int) < 2147483648) ∧ (-2147483648 ≤ w 32 2 ∧ w 32 2 < 2147483648) ∧ (P_K_isFree w (i6 : Int)) ∧ ((F_K_isFree w (i6 : Int) = 0 → True) ∧ (¬ (F_K_isFree w (i6 : Int) = 0) → (P_Y_value w 2 (i6 : Int) 1) ∧ (P_K_isFree w (F_Y_value w 2 (i6 : Int) 1))))) ∧ ((-2147483648 ≤ (((w 32 2).toNat : Nat) : Int) ∧ (((w 32 2).toNat : Nat) : Int) < 2147483648) ∧ (-2147483648 ≤ w 32 2 ∧ w 32 2 < 2147483648))
def F_G_net (w : z_Wd)  : Int := A_G_net_4 w (w 32 2).toNat
set_option maxRecDepth 4000 in
theorem c_G_net {d : Nat} {w : z_Wd} {Q : Option z_V → z_Wd → Prop} (h : P_G_net w ) (k : Q (some (zI (F_G_net w ))) w) : z_Wc (d + 3) m_X1_net [zR 55] w Q := by
  unfold P_G_net at h
  unfold F_G_net at k
  refine z_enter rfl (Nat.le_of_ble_eq_true rfl) ?_
  show z_Wp m_X1_net _ 0 [(0, zR 55)] [] w _
  refine z_iconst (pc' := 1) dX1_net_0 rfl ?_
  refine z_istore_n (pc' := 2) (ls' := [(0, zR 55), (1, zI 0)]) rfl (by decide) rfl rfl dX1_net_1 rfl ?_
  refine z_iconst (pc' := 3) dX1_net_2 rfl ?_
  refine z_istore_n (pc' := 4) (ls' := [(0, zR 55), (1, zI 0), (2, zI 0)]) rfl (by decide) rfl rfl dX1_net_3 rfl ?_
  refine z_upto ((w 32 2).toNat) (fun i6 => z_Wp m_X1_net (d + 3) 4 [(0, zR 55), (1, zI (A_G_net_4 w i6)), (2, zI (i6 : Int))] [] w Q) ?_ ?_
  · skip
    have h := h.2
    refine z_iload_n (pc' := 5) 2 rfl rfl dX1_net_4 rfl ?_
    refine z_aload_n (pc' := 6) 0 rfl rfl dX1_net_5 rfl ?_
    refine z_getR (t := 30) (pc' := 9) g_X1_25 (by decide) rfl rfl dX1_net_6 rfl ?_
    refine z_invV (as := []) (st := [zI (((w 32 2).toNat : Nat) : Int)]) (C := m_X6_names) (fs := [33, 34]) (pc' := 12) dX1_net_9 rfl t_4_75 k_X6_names rfl (by decide) rfl rfl rfl rfl (Nat.le_of_ble_eq_true rfl) ?_
    refine c_Y_names ?_
    show z_Wp m_X1_net _ 12 [(0, zR 55), (1, zI (A_G_net_4 w (w 32 2).toNat)), (2, zI (((w 32 2).toNat : Nat) : Int))] [zI (w 32 2), zI (((w 32 2).toNat : Nat) : Int)] w _
    obtain ⟨r12, h⟩ := h
    have r13 := h
    refine z_icmp_ge 53 dX1_net_12 (by decide) (pc' := 15) rfl r12 r13 (fun _ => ?_) (fun c => absurd c (by omega))
    refine z_iload_n (pc' := 54) 1 rfl rfl dX1_net_53 rfl ?_
    refine z_iret rfl dX1_net_54 ?_
    exact k
  · intro i6 hi ih
    have h := h.1 i6 hi
    have ih : z_Wp m_X1_net (d + 3) 4 [(0, zR 55), (1, zI (if F_K_isFree w (i6 : Int) = 0 then A_G_net_4 w i6 else if F_K_isFree w (F_Y_value w 2 (i6 : Int) 1) = 0 then (A_G_net_4 w i6) + 1 else A_G_net_4 w i6)), (2, zI ((i6 + 1 : Nat) : Int))] [] w Q := ih
    refine z_iload_n (pc' := 5) 2 rfl rfl dX1_net_4 rfl ?_
    refine z_aload_n (pc' := 6) 0 rfl rfl dX1_net_5 rfl ?_
    refine z_getR (t := 30) (pc' := 9) g_X1_25 (by decide) rfl rfl dX1_net_6 rfl ?_
    refine z_invV (as := []) (st := [zI (i6 : Int)]) (C := m_X6_names) (fs := [33, 34]) (pc' := 12) dX1_net_9 rfl t_4_75 k_X6_names rfl (by decide) rfl rfl rfl rfl (Nat.le_of_ble_eq_true rfl) ?_
    refine c_Y_names ?_
    show z_Wp m_X1_net _ 12 [(0, zR 55), (1, zI (A_G_net_4 w i6)), (2, zI (i6 : Int))] [zI (w 32 2), zI (i6 : Int)] w _
    obtain ⟨r7, h⟩ := h
    obtain ⟨r8, h⟩ := h
    refine z_icmp_ge 53 dX1_net_12 (by decide) (pc' := 15) rfl r7 r8 (fun c => absurd c (by omega)) (fun _ => ?_)
    refine z_aload_n (pc' := 16) 0 rfl rfl dX1_net_15 rfl ?_
    refine z_getR (t := 41) (pc' := 19) g_X1_29 (by decide) rfl rfl dX1_net_16 rfl ?_
    refine z_iload_n (pc' := 20) 2 rfl rfl dX1_net_19 rfl ?_
    refine z_invV (as := [zI (i6 : Int)]) (st := []) (C := m_X3_isFree) (fs := [32, 44, 45, 46, 47, 48, 0, 0, 0]) (pc' := 23) dX1_net_20 rfl t_5_124 k_X3_isFree rfl (by decide) rfl rfl rfl rfl (Nat.le_of_ble_eq_true rfl) ?_
    obtain ⟨r9, h⟩ := h
    refine c_K_isFree r9 ?_
    show z_Wp m_X1_net _ 23 [(0, zR 55), (1, zI (A_G_net_4 w i6)), (2, zI (i6 : Int))] [zI (F_K_isFree w (i6 : Int))] w _
    refine z_if_eq 47 dX1_net_23 (by decide) (pc' := 26) rfl (z_rb b_K_isFree) (fun c117 => ?_) (fun c117 => ?_)
    · have h := h.1 c117
      rw [if_pos c117] at ih
      refine z_iinc (pc' := 50) (ls' := [(0, zR 55), (1, zI (A_G_net_4 w i6)), (2, zI ((i6 : Int) + 1))]) 2 rfl (by decide) rfl rfl dX1_net_47 rfl ?_
      refine z_goto 4 dX1_net_50 (by decide) ?_
      exact ih
    · have h := h.2 c117
      rw [if_neg c117] at ih
      refine z_aload_n (pc' := 27) 0 rfl rfl dX1_net_26 rfl ?_
      refine z_getR (t := 41) (pc' := 30) g_X1_29 (by decide) rfl rfl dX1_net_27 rfl ?_
      refine z_aload_n (pc' := 31) 0 rfl rfl dX1_net_30 rfl ?_
      refine z_getR (t := 30) (pc' := 34) g_X1_25 (by decide) rfl rfl dX1_net_31 rfl ?_
      refine z_iload_n (pc' := 35) 2 rfl rfl dX1_net_34 rfl ?_
      refine z_invV (as := [zI (i6 : Int)]) (st := [zR 41]) (C := m_X6_knows) (fs := [33, 34]) (pc' := 38) dX1_net_35 rfl t_5_135 k_X6_knows rfl (by decide) rfl rfl rfl rfl (Nat.le_of_ble_eq_true rfl) ?_
      obtain ⟨r10, h⟩ := h
      refine c_Y_knows r10 ?_
      show z_Wp m_X1_net _ 38 [(0, zR 55), (1, zI (A_G_net_4 w i6)), (2, zI (i6 : Int))] [zI (F_Y_value w 2 (i6 : Int) 1), zR 41] w _
      refine z_invV (as := [zI (F_Y_value w 2 (i6 : Int) 1)]) (st := []) (C := m_X3_isFree) (fs := [32, 44, 45, 46, 47, 48, 0, 0, 0]) (pc' := 41) dX1_net_38 rfl t_5_124 k_X3_isFree rfl (by decide) rfl rfl rfl rfl (Nat.le_of_ble_eq_true rfl) ?_
      have r11 := h
      refine c_K_isFree r11 ?_
      show z_Wp m_X1_net _ 41 [(0, zR 55), (1, zI (A_G_net_4 w i6)), (2, zI (i6 : Int))] [zI (F_K_isFree w (F_Y_value w 2 (i6 : Int) 1))] w _
      refine z_if_ne 47 dX1_net_41 (by decide) (pc' := 44) rfl (z_rb b_K_isFree) (fun c118 => ?_) (fun c118 => ?_)
      · skip
        rw [if_neg c118] at ih
        refine z_iinc (pc' := 50) (ls' := [(0, zR 55), (1, zI (A_G_net_4 w i6)), (2, zI ((i6 : Int) + 1))]) 2 rfl (by decide) rfl rfl dX1_net_47 rfl ?_
        refine z_goto 4 dX1_net_50 (by decide) ?_
        exact ih
      · skip
        rw [if_pos c118] at ih
        refine z_iinc (pc' := 47) (ls' := [(0, zR 55), (1, zI ((A_G_net_4 w i6) + 1)), (2, zI (i6 : Int))]) 1 rfl (by decide) rfl rfl dX1_net_44 rfl ?_
        refine z_iinc (pc' := 50) (ls' := [(0, zR 55), (1, zI ((A_G_net_4 w i6) + 1)), (2, zI ((i6 : Int) + 1))]) 2 rfl (by decide) rfl rfl dX1_net_47 rfl ?_
        refine z_goto 4 dX1_net_50 (by decide) ?_
        exact ih
def A_G_amnesty_17 (w : z_Wd)  : Nat → Int × Int × z_Wd
  | 0 => (0, (F_G_withoutThese w (F_K_inside w 0)).1, (F_G_withoutThese w (F_K_inside w 0)).2)
  | i9 + 1 => if (F_G_withoutThese ((A_G_amnesty_17 w i9).2.2) (F_K_inside ((A_G_amnesty_17 w i9).2.2) (1 + (i9 : Int)))).1 ≥ (A_G_amnesty_17 w i9).2.1 then ((A_G_amnesty_17 w i9).1, (A_G_amnesty_17 w i9).2.1, (F_G_withoutThese ((A_G_amnesty_17 w i9).2.2) (F_K_inside ((A_G_amnesty_17 w i9).2.2) (1 + (i9 : Int)))).2) else (1 + (i9 : Int), (F_G_withoutThese ((A_G_amnesty_17 w i9).2.2) (F_K_inside ((A_G_amnesty_17 w i9).2.2) (1 + (i9 : Int)))).1, (F_G_withoutThese ((A_G_amnesty_17 w i9).2.2) (F_K_inside ((A_G_amnesty_17 w i9).2.2) (1 + (i9 : Int)))).2)
def P_G_amnesty (w : z_Wd)  : Prop := (P_K_inside w 0) ∧ (P_G_withoutThese w (F_K_inside w 0)) ∧ ((∀ i9 : Nat, i9 < (((((F_G_withoutThese w (F_K_inside w 0)).2) 32 1) - 1).toNat) → (-2147483648 ≤ 1 + (i9 : Int) ∧ 1 + (i9 : Int) < 2147483648) ∧ (-2147483648 ≤ ((A_G_amnesty_17 w i9).2.2) 32 1 ∧ ((A_G_amnesty_17 w i9).2.2) 32 1 < 2147483648) ∧ (((A_G_amnesty_17 w i9).2.2) 32 1 = ((F_G_withoutThese w (F_K_inside w 0)).2) 32 1) ∧ (P_K_inside ((A_G_amnesty_17 w i9).2.2) (1 + (i9 : Int))) ∧ (P_G_withoutThese ((A_G_amnesty_17 w i9).2.2) (F_K_inside ((A_G_amnesty_17 w i9).2.2) (1 + (i9 : Int)))) ∧ (-2147483648 ≤ (F_G_withoutThese ((A_G_amnesty_17 w i9).2.2) (F_K_inside ((A_G_amnesty_17 w i9).2.2) (1 + (i9 : Int)))).1 ∧ (F_G_withoutThese ((A_G_amnesty_17 w i9).2.2) (F_K_inside ((A_G_amnesty_17 w i9).2.2) (1 + (i9 : Int)))).1 < 2147483648) ∧ (-2147483648 ≤ (A_G_amnesty_17 w i9).2.1 ∧ (A_G_amnesty_17 w i9).2.1 < 2147483648)) ∧ ((-2147483648 ≤ 1 + ((((((F_G_withoutThese w (F_K_inside w 0)).2) 32 1) - 1).toNat : Nat) : Int) ∧ 1 + ((((((F_G_withoutThese w (F_K_inside w 0)).2) 32 1) - 1).toNat : Nat) : Int) < 2147483648) ∧ (-2147483648 ≤ ((A_G_amnesty_17 w ((((F_G_withoutThese w (F_K_inside w 0)).2) 32 1) - 1).toNat).2.2) 32 1 ∧ ((A_G_amnesty_17 w ((((F_G_withoutThese w (F_K_inside w 0)).2) 32 1) - 1).toNat).2.2) 32 1 < 2147483648) ∧ (((A_G_amnesty_17 w ((((F_G_withoutThese w (F_K_inside w 0)).2) 32 1) - 1).toNat).2.2) 32 1 = ((F_G_withoutThese w (F_K_inside w 0)).2) 32 1)))
def F_G_amnesty (w : z_Wd)  : Int × z_Wd := ((A_G_amnesty_17 w ((((F_G_withoutThese w (F_K_inside w 0)).2) 32 1) - 1).toNat).1, (A_G_amnesty_17 w ((((F_G_withoutThese w (F_K_inside w 0)).2) 32 1) - 1).toNat).2.2)
set_option maxRecDepth 4000 in
theorem c_G_amnesty {d : Nat} {w : z_Wd} {Q : Option z_V → z_Wd → Prop} (h : P_G_amnesty w ) (k : Q (some (zI (F_G_amnesty w ).1)) (F_G_amnesty w ).2) : z_Wc (d + 6) m_X1_amnesty [zR 55] w Q := by
  unfold P_G_amnesty at h
  unfold F_G_amnesty at k
  refine z_enter rfl (Nat.le_of_ble_eq_true rfl) ?_
  show z_Wp m_X1_amnesty _ 0 [(0, zR 55)] [] w _
  refine z_iconst (pc' := 1) dX1_amnesty_0 rfl ?_
  refine z_istore_n (pc' := 2) (ls' := [(0, zR 55), (1, zI 0)]) rfl (by decide) rfl rfl dX1_amnesty_1 rfl ?_
  refine z_aload_n (pc' := 3) 0 rfl rfl dX1_amnesty_2 rfl ?_
  refine z_aload_n (pc' := 4) 0 rfl rfl dX1_amnesty_3 rfl ?_
  refine z_getR (t := 41) (pc' := 7) g_X1_29 (by decide) rfl rfl dX1_amnesty_4 rfl ?_
  refine z_iconst (pc' := 8) dX1_amnesty_7 rfl ?_
  refine z_invV (as := [zI 0]) (st := [zR 55]) (C := m_X3_inside) (fs := [32, 44, 45, 46, 47, 48, 0, 0, 0]) (pc' := 11) dX1_amnesty_8 rfl t_5_140 k_X3_inside rfl (by decide) rfl rfl rfl rfl (Nat.le_of_ble_eq_true rfl) ?_
  obtain ⟨r1, h⟩ := h
  refine c_K_inside r1 ?_
  show z_Wp m_X1_amnesty _ 11 [(0, zR 55), (1, zI 0)] [zI (F_K_inside w 0), zR 55] w _
  refine z_invV (as := [zI (F_K_inside w 0)]) (st := []) (C := m_X1_withoutThese) (fs := [32, 43, 58, 59, 0, 0]) (pc' := 14) dX1_amnesty_11 rfl t_4_66 k_X1_withoutThese rfl (by decide) rfl rfl rfl rfl (Nat.le_of_ble_eq_true rfl) ?_
  obtain ⟨r2, h⟩ := h
  refine c_G_withoutThese r2 ?_
  show z_Wp m_X1_amnesty _ 14 [(0, zR 55), (1, zI 0)] [zI ((F_G_withoutThese w (F_K_inside w 0)).1)] ((F_G_withoutThese w (F_K_inside w 0)).2) _
  refine z_istore_n (pc' := 15) (ls' := [(0, zR 55), (1, zI 0), (2, zI ((F_G_withoutThese w (F_K_inside w 0)).1))]) rfl (by decide) rfl rfl dX1_amnesty_14 rfl ?_
  refine z_iconst (pc' := 16) dX1_amnesty_15 rfl ?_
  refine z_istore_n (pc' := 17) (ls' := [(0, zR 55), (1, zI 0), (2, zI ((F_G_withoutThese w (F_K_inside w 0)).1)), (3, zI 1)]) rfl (by decide) rfl rfl dX1_amnesty_16 rfl ?_
  refine z_upto (((((F_G_withoutThese w (F_K_inside w 0)).2) 32 1) - 1).toNat) (fun i9 => z_Wp m_X1_amnesty (d + 6) 17 [(0, zR 55), (1, zI ((A_G_amnesty_17 w i9).1)), (2, zI ((A_G_amnesty_17 w i9).2.1)), (3, zI (1 + (i9 : Int)))] [] ((A_G_amnesty_17 w i9).2.2) Q) ?_ ?_
  · skip
    have h := h.2
    refine z_iload_n (pc' := 18) 3 rfl rfl dX1_amnesty_17 rfl ?_
    refine z_aload_n (pc' := 19) 0 rfl rfl dX1_amnesty_18 rfl ?_
    refine z_getR (t := 30) (pc' := 22) g_X1_25 (by decide) rfl rfl dX1_amnesty_19 rfl ?_
    refine z_invV (as := []) (st := [zI (1 + ((((((F_G_withoutThese w (F_K_inside w 0)).2) 32 1) - 1).toNat : Nat) : Int))]) (C := m_X6_wells) (fs := [33, 34]) (pc' := 25) dX1_amnesty_22 rfl t_5_129 k_X6_wells rfl (by decide) rfl rfl rfl rfl (Nat.le_of_ble_eq_true rfl) ?_
    refine c_Y_wells ?_
    show z_Wp m_X1_amnesty _ 25 [(0, zR 55), (1, zI ((A_G_amnesty_17 w ((((F_G_withoutThese w (F_K_inside w 0)).2) 32 1) - 1).toNat).1)), (2, zI ((A_G_amnesty_17 w ((((F_G_withoutThese w (F_K_inside w 0)).2) 32 1) - 1).toNat).2.1)), (3, zI (1 + ((((((F_G_withoutThese w (F_K_inside w 0)).2) 32 1) - 1).toNat : Nat) : Int)))] [zI (((A_G_amnesty_17 w ((((F_G_withoutThese w (F_K_inside w 0)).2) 32 1) - 1).toNat).2.2) 32 1), zI (1 + ((((((F_G_withoutThese w (F_K_inside w 0)).2) 32 1) - 1).toNat : Nat) : Int))] ((A_G_amnesty_17 w ((((F_G_withoutThese w (F_K_inside w 0)).2) 32 1) - 1).toNat).2.2) _
    obtain ⟨r17, h⟩ := h
    obtain ⟨r18, h⟩ := h
    have r19 := h
    refine z_icmp_ge 59 dX1_amnesty_25 (by decide) (pc' := 28) rfl r17 r18 (fun _ => ?_) (fun c => absurd c (by first | omega | (rw [r19]; first | exact z_exitgt | exact z_exitge | omega)))
    refine z_iload_n (pc' := 60) 1 rfl rfl dX1_amnesty_59 rfl ?_
    refine z_iret rfl dX1_amnesty_60 ?_
    exact k
  · intro i9 hi ih
    have h := h.1 i9 hi
    have ih : z_Wp m_X1_amnesty (d + 6) 17 [(0, zR 55), (1, zI ((if (F_G_withoutThese ((A_G_amnesty_17 w i9).2.2) (F_K_inside ((A_G_amnesty_17 w i9).2.2) (1 + (i9 : Int)))).1 ≥ (A_G_amnesty_17 w i9).2.1 then ((A_G_amnesty_17 w i9).1, (A_G_amnesty_17 w i9).2.1, (F_G_withoutThese ((A_G_amnesty_17 w i9).2.2) (F_K_inside ((A_G_amnesty_17 w i9).2.2) (1 + (i9 : Int)))).2) else (1 + (i9 : Int), (F_G_withoutThese ((A_G_amnesty_17 w i9).2.2) (F_K_inside ((A_G_amnesty_17 w i9).2.2) (1 + (i9 : Int)))).1, (F_G_withoutThese ((A_G_amnesty_17 w i9).2.2) (F_K_inside ((A_G_amnesty_17 w i9).2.2) (1 + (i9 : Int)))).2)).1)), (2, zI ((if (F_G_withoutThese ((A_G_amnesty_17 w i9).2.2) (F_K_inside ((A_G_amnesty_17 w i9).2.2) (1 + (i9 : Int)))).1 ≥ (A_G_amnesty_17 w i9).2.1 then ((A_G_amnesty_17 w i9).1, (A_G_amnesty_17 w i9).2.1, (F_G_withoutThese ((A_G_amnesty_17 w i9).2.2) (F_K_inside ((A_G_amnesty_17 w i9).2.2) (1 + (i9 : Int)))).2) else (1 + (i9 : Int), (F_G_withoutThese ((A_G_amnesty_17 w i9).2.2) (F_K_inside ((A_G_amnesty_17 w i9).2.2) (1 + (i9 : Int)))).1, (F_G_withoutThese ((A_G_amnesty_17 w i9).2.2) (F_K_inside ((A_G_amnesty_17 w i9).2.2) (1 + (i9 : Int)))).2)).2.1)), (3, zI (1 + ((i9 + 1 : Nat) : Int)))] [] ((if (F_G_withoutThese ((A_G_amnesty_17 w i9).2.2) (F_K_inside ((A_G_amnesty_17 w i9).2.2) (1 + (i9 : Int)))).1 ≥ (A_G_amnesty_17 w i9).2.1 then ((A_G_amnesty_17 w i9).1, (A_G_amnesty_17 w i9).2.1, (F_G_withoutThese ((A_G_amnesty_17 w i9).2.2) (F_K_inside ((A_G_amnesty_17 w i9).2.2) (1 + (i9 : Int)))).2) else (1 + (i9 : Int), (F_G_withoutThese ((A_G_amnesty_17 w i9).2.2) (F_K_inside ((A_G_amnesty_17 w i9).2.2) (1 + (i9 : Int)))).1, (F_G_withoutThese ((A_G_amnesty_17 w i9).2.2) (F_K_inside ((A_G_amnesty_17 w i9).2.2) (1 + (i9 : Int)))).2)).2.2) Q := ih
    refine z_iload_n (pc' := 18) 3 rfl rfl dX1_amnesty_17 rfl ?_
    refine z_aload_n (pc' := 19) 0 rfl rfl dX1_amnesty_18 rfl ?_
    refine z_getR (t := 30) (pc' := 22) g_X1_25 (by decide) rfl rfl dX1_amnesty_19 rfl ?_
    refine z_invV (as := []) (st := [zI (1 + (i9 : Int))]) (C := m_X6_wells) (fs := [33, 34]) (pc' := 25) dX1_amnesty_22 rfl t_5_129 k_X6_wells rfl (by decide) rfl rfl rfl rfl (Nat.le_of_ble_eq_true rfl) ?_
    refine c_Y_wells ?_
    show z_Wp m_X1_amnesty _ 25 [(0, zR 55), (1, zI ((A_G_amnesty_17 w i9).1)), (2, zI ((A_G_amnesty_17 w i9).2.1)), (3, zI (1 + (i9 : Int)))] [zI (((A_G_amnesty_17 w i9).2.2) 32 1), zI (1 + (i9 : Int))] ((A_G_amnesty_17 w i9).2.2) _
    obtain ⟨r10, h⟩ := h
    obtain ⟨r11, h⟩ := h
    obtain ⟨r12, h⟩ := h
    refine z_icmp_ge 59 dX1_amnesty_25 (by decide) (pc' := 28) rfl r10 r11 (fun c => absurd c (by first | omega | (rw [r12]; first | exact z_exitgt | exact z_exitge | omega))) (fun _ => ?_)
    refine z_aload_n (pc' := 29) 0 rfl rfl dX1_amnesty_28 rfl ?_
    refine z_aload_n (pc' := 30) 0 rfl rfl dX1_amnesty_29 rfl ?_
    refine z_getR (t := 41) (pc' := 33) g_X1_29 (by decide) rfl rfl dX1_amnesty_30 rfl ?_
    refine z_iload_n (pc' := 34) 3 rfl rfl dX1_amnesty_33 rfl ?_
    refine z_invV (as := [zI (1 + (i9 : Int))]) (st := [zR 55]) (C := m_X3_inside) (fs := [32, 44, 45, 46, 47, 48, 0, 0, 0]) (pc' := 37) dX1_amnesty_34 rfl t_5_140 k_X3_inside rfl (by decide) rfl rfl rfl rfl (Nat.le_of_ble_eq_true rfl) ?_
    obtain ⟨r13, h⟩ := h
    refine c_K_inside r13 ?_
    show z_Wp m_X1_amnesty _ 37 [(0, zR 55), (1, zI ((A_G_amnesty_17 w i9).1)), (2, zI ((A_G_amnesty_17 w i9).2.1)), (3, zI (1 + (i9 : Int)))] [zI (F_K_inside ((A_G_amnesty_17 w i9).2.2) (1 + (i9 : Int))), zR 55] ((A_G_amnesty_17 w i9).2.2) _
    refine z_invV (as := [zI (F_K_inside ((A_G_amnesty_17 w i9).2.2) (1 + (i9 : Int)))]) (st := []) (C := m_X1_withoutThese) (fs := [32, 43, 58, 59, 0, 0]) (pc' := 40) dX1_amnesty_37 rfl t_4_66 k_X1_withoutThese rfl (by decide) rfl rfl rfl rfl (Nat.le_of_ble_eq_true rfl) ?_
    obtain ⟨r14, h⟩ := h
    refine c_G_withoutThese r14 ?_
    show z_Wp m_X1_amnesty _ 40 [(0, zR 55), (1, zI ((A_G_amnesty_17 w i9).1)), (2, zI ((A_G_amnesty_17 w i9).2.1)), (3, zI (1 + (i9 : Int)))] [zI ((F_G_withoutThese ((A_G_amnesty_17 w i9).2.2) (F_K_inside ((A_G_amnesty_17 w i9).2.2) (1 + (i9 : Int)))).1)] ((F_G_withoutThese ((A_G_amnesty_17 w i9).2.2) (F_K_inside ((A_G_amnesty_17 w i9).2.2) (1 + (i9 : Int)))).2) _
    refine z_istore (pc' := 42) (ls' := [(0, zR 55), (1, zI ((A_G_amnesty_17 w i9).1)), (2, zI ((A_G_amnesty_17 w i9).2.1)), (3, zI (1 + (i9 : Int))), (4, zI ((F_G_withoutThese ((A_G_amnesty_17 w i9).2.2) (F_K_inside ((A_G_amnesty_17 w i9).2.2) (1 + (i9 : Int)))).1))]) (by decide) rfl rfl dX1_amnesty_40 rfl ?_
    refine z_iload (pc' := 44) 4 rfl dX1_amnesty_42 rfl ?_
    refine z_iload_n (pc' := 45) 2 rfl rfl dX1_amnesty_44 rfl ?_
    obtain ⟨r15, h⟩ := h
    have r16 := h
    refine z_icmp_ge 53 dX1_amnesty_45 (by decide) (pc' := 48) rfl r15 r16 (fun c119 => ?_) (fun c119 => ?_)
    · skip
      rw [if_pos c119] at ih
      refine z_iinc (pc' := 56) (ls' := [(0, zR 55), (1, zI ((A_G_amnesty_17 w i9).1)), (2, zI ((A_G_amnesty_17 w i9).2.1)), (3, zI ((1 + (i9 : Int)) + 1)), (4, zI ((F_G_withoutThese ((A_G_amnesty_17 w i9).2.2) (F_K_inside ((A_G_amnesty_17 w i9).2.2) (1 + (i9 : Int)))).1))]) 3 rfl (by decide) rfl rfl dX1_amnesty_53 rfl ?_
      refine z_goto 17 dX1_amnesty_56 (by decide) ?_
      exact z_Wp.sub (ls' := [(0, zR 55), (1, zI ((A_G_amnesty_17 w i9).1)), (2, zI ((A_G_amnesty_17 w i9).2.1)), (3, zI ((1 + (i9 : Int)) + 1))]) (z_lcast (by rw [z_ci]) ih) (z_sub_of [0, 1, 2, 3] rfl)
    · skip
      rw [if_neg c119] at ih
      refine z_iload_n (pc' := 49) 3 rfl rfl dX1_amnesty_48 rfl ?_
      refine z_istore_n (pc' := 50) (ls' := [(0, zR 55), (1, zI (1 + (i9 : Int))), (2, zI ((A_G_amnesty_17 w i9).2.1)), (3, zI (1 + (i9 : Int))), (4, zI ((F_G_withoutThese ((A_G_amnesty_17 w i9).2.2) (F_K_inside ((A_G_amnesty_17 w i9).2.2) (1 + (i9 : Int)))).1))]) rfl (by decide) rfl rfl dX1_amnesty_49 rfl ?_
      refine z_iload (pc' := 52) 4 rfl dX1_amnesty_50 rfl ?_
      refine z_istore_n (pc' := 53) (ls' := [(0, zR 55), (1, zI (1 + (i9 : Int))), (2, zI ((F_G_withoutThese ((A_G_amnesty_17 w i9).2.2) (F_K_inside ((A_G_amnesty_17 w i9).2.2) (1 + (i9 : Int)))).1)), (3, zI (1 + (i9 : Int))), (4, zI ((F_G_withoutThese ((A_G_amnesty_17 w i9).2.2) (F_K_inside ((A_G_amnesty_17 w i9).2.2) (1 + (i9 : Int)))).1))]) rfl (by decide) rfl rfl dX1_amnesty_52 rfl ?_
      refine z_iinc (pc' := 56) (ls' := [(0, zR 55), (1, zI (1 + (i9 : Int))), (2, zI ((F_G_withoutThese ((A_G_amnesty_17 w i9).2.2) (F_K_inside ((A_G_amnesty_17 w i9).2.2) (1 + (i9 : Int)))).1)), (3, zI ((1 + (i9 : Int)) + 1)), (4, zI ((F_G_withoutThese ((A_G_amnesty_17 w i9).2.2) (F_K_inside ((A_G_amnesty_17 w i9).2.2) (1 + (i9 : Int)))).1))]) 3 rfl (by decide) rfl rfl dX1_amnesty_53 rfl ?_
      refine z_goto 17 dX1_amnesty_56 (by decide) ?_
      exact z_Wp.sub (ls' := [(0, zR 55), (1, zI (1 + (i9 : Int))), (2, zI ((F_G_withoutThese ((A_G_amnesty_17 w i9).2.2) (F_K_inside ((A_G_amnesty_17 w i9).2.2) (1 + (i9 : Int)))).1)), (3, zI ((1 + (i9 : Int)) + 1))]) (z_lcast (by rw [z_ci]) ih) (z_sub_of [0, 1, 2, 3] rfl)
def A_G_dearest_6 (w : z_Wd)  : Nat → Int × Int
  | 0 => ((-1), (-1))
  | i8 + 1 => if F_K_isFree w (i8 : Int) = 0 then ((A_G_dearest_6 w i8).1, (A_G_dearest_6 w i8).2) else if F_J_bitCount_0f7a4 w (zz_and (F_Y_knownBy w (i8 : Int)) (F_K_inside w (-1))) ≤ (A_G_dearest_6 w i8).2 then ((A_G_dearest_6 w i8).1, (A_G_dearest_6 w i8).2) else ((i8 : Int), F_J_bitCount_0f7a4 w (zz_and (F_Y_knownBy w (i8 : Int)) (F_K_inside w (-1))))
def P_G_dearest (w : z_Wd)  : Prop := (∀ i8 : Nat, i8 < ((w 32 2).toNat) → (-2147483648 ≤ (i8 : Int) ∧ (i8 : Int) < 2147483648) ∧ (-2147483648 ≤ w 32 2 ∧ w 32 2 < 2147483648) ∧ (P_Y_knownBy w (i8 : Int)) ∧ (P_K_inside w (-1)) ∧ (P_K_isFree w (i8 : Int)) ∧ ((F_K_isFree w (i8 : Int) = 0 → True) ∧ (¬ (F_K_isFree w (i8 : Int) = 0) → (-2147483648 ≤ F_J_bitCount_0f7a4 w (zz_and (F_Y_knownBy w (i8 : Int)) (F_K_inside w (-1))) ∧ F_J_bitCount_0f7a4 w (zz_and (F_Y_knownBy w (i8 : Int)) (F_K_inside w (-1))) < 2147483648) ∧ (-2147483648 ≤ (A_G_dearest_6 w i8).2 ∧ (A_G_dearest_6 w i8).2 < 2147483648)))) ∧ ((-2147483648 ≤ (((w 32 2).toNat : Nat) : Int) ∧ (((w 32 2).toNat : Nat) : Int) < 2147483648) ∧ (-2147483648 ≤ w 32 2 ∧ w 32 2 < 2147483648))
def F_G_dearest (w : z_Wd)  : Int := (A_G_dearest_6 w (w 32 2).toNat).1
set_option maxRecDepth 4000 in
theorem c_G_dearest {d : Nat} {w : z_Wd} {Q : Option z_V → z_Wd → Prop} (h : P_G_dearest w ) (k : Q (some (zI (F_G_dearest w ))) w) : z_Wc (d + 3) m_X1_dearest [zR 55] w Q := by
  unfold P_G_dearest at h
  unfold F_G_dearest at k
  refine z_enter rfl (Nat.le_of_ble_eq_true rfl) ?_
  show z_Wp m_X1_dearest _ 0 [(0, zR 55)] [] w _
  refine z_iconst (pc' := 1) dX1_dearest_0 rfl ?_
  refine z_istore_n (pc' := 2) (ls' := [(0, zR 55), (1, zI (-1))]) rfl (by decide) rfl rfl dX1_dearest_1 rfl ?_
  refine z_iconst (pc' := 3) dX1_dearest_2 rfl ?_
  refine z_istore_n (pc' := 4) (ls' := [(0, zR 55), (1, zI (-1)), (2, zI (-1))]) rfl (by decide) rfl rfl dX1_dearest_3 rfl ?_
  refine z_iconst (pc' := 5) dX1_dearest_4 rfl ?_
  refine z_istore_n (pc' := 6) (ls' := [(0, zR 55), (1, zI (-1)), (2, zI (-1)), (3, zI 0)]) rfl (by decide) rfl rfl dX1_dearest_5 rfl ?_
  refine z_upto ((w 32 2).toNat) (fun i8 => z_Wp m_X1_dearest (d + 3) 6 [(0, zR 55), (1, zI ((A_G_dearest_6 w i8).1)), (2, zI ((A_G_dearest_6 w i8).2)), (3, zI (i8 : Int))] [] w Q) ?_ ?_
  · skip
    have h := h.2
    refine z_iload_n (pc' := 7) 3 rfl rfl dX1_dearest_6 rfl ?_
    refine z_aload_n (pc' := 8) 0 rfl rfl dX1_dearest_7 rfl ?_
    refine z_getR (t := 30) (pc' := 11) g_X1_25 (by decide) rfl rfl dX1_dearest_8 rfl ?_
    refine z_invV (as := []) (st := [zI (((w 32 2).toNat : Nat) : Int)]) (C := m_X6_names) (fs := [33, 34]) (pc' := 14) dX1_dearest_11 rfl t_4_75 k_X6_names rfl (by decide) rfl rfl rfl rfl (Nat.le_of_ble_eq_true rfl) ?_
    refine c_Y_names ?_
    show z_Wp m_X1_dearest _ 14 [(0, zR 55), (1, zI ((A_G_dearest_6 w (w 32 2).toNat).1)), (2, zI ((A_G_dearest_6 w (w 32 2).toNat).2)), (3, zI (((w 32 2).toNat : Nat) : Int))] [zI (w 32 2), zI (((w 32 2).toNat : Nat) : Int)] w _
    obtain ⟨r16, h⟩ := h
    have r17 := h
    refine z_icmp_ge 66 dX1_dearest_14 (by decide) (pc' := 17) rfl r16 r17 (fun _ => ?_) (fun c => absurd c (by omega))
    refine z_iload_n (pc' := 67) 1 rfl rfl dX1_dearest_66 rfl ?_
    refine z_iret rfl dX1_dearest_67 ?_
    exact k
  · intro i8 hi ih
    have h := h.1 i8 hi
    have ih : z_Wp m_X1_dearest (d + 3) 6 [(0, zR 55), (1, zI ((if F_K_isFree w (i8 : Int) = 0 then ((A_G_dearest_6 w i8).1, (A_G_dearest_6 w i8).2) else if F_J_bitCount_0f7a4 w (zz_and (F_Y_knownBy w (i8 : Int)) (F_K_inside w (-1))) ≤ (A_G_dearest_6 w i8).2 then ((A_G_dearest_6 w i8).1, (A_G_dearest_6 w i8).2) else ((i8 : Int), F_J_bitCount_0f7a4 w (zz_and (F_Y_knownBy w (i8 : Int)) (F_K_inside w (-1))))).1)), (2, zI ((if F_K_isFree w (i8 : Int) = 0 then ((A_G_dearest_6 w i8).1, (A_G_dearest_6 w i8).2) else if F_J_bitCount_0f7a4 w (zz_and (F_Y_knownBy w (i8 : Int)) (F_K_inside w (-1))) ≤ (A_G_dearest_6 w i8).2 then ((A_G_dearest_6 w i8).1, (A_G_dearest_6 w i8).2) else ((i8 : Int), F_J_bitCount_0f7a4 w (zz_and (F_Y_knownBy w (i8 : Int)) (F_K_inside w (-1))))).2)), (3, zI ((i8 + 1 : Nat) : Int))] [] w Q := ih
    refine z_iload_n (pc' := 7) 3 rfl rfl dX1_dearest_6 rfl ?_
    refine z_aload_n (pc' := 8) 0 rfl rfl dX1_dearest_7 rfl ?_
    refine z_getR (t := 30) (pc' := 11) g_X1_25 (by decide) rfl rfl dX1_dearest_8 rfl ?_
    refine z_invV (as := []) (st := [zI (i8 : Int)]) (C := m_X6_names) (fs := [33, 34]) (pc' := 14) dX1_dearest_11 rfl t_4_75 k_X6_names rfl (by decide) rfl rfl rfl rfl (Nat.le_of_ble_eq_true rfl) ?_
    refine c_Y_names ?_
    show z_Wp m_X1_dearest _ 14 [(0, zR 55), (1, zI ((A_G_dearest_6 w i8).1)), (2, zI ((A_G_dearest_6 w i8).2)), (3, zI (i8 : Int))] [zI (w 32 2), zI (i8 : Int)] w _
    obtain ⟨r9, h⟩ := h
    obtain ⟨r10, h⟩ := h
    refine z_icmp_ge 66 dX1_dearest_14 (by decide) (pc' := 17) rfl r9 r10 (fun c => absurd c (by omega)) (fun _ => ?_)
    refine z_aload_n (pc' := 18) 0 rfl rfl dX1_dearest_17 rfl ?_
    refine z_getR (t := 30) (pc' := 21) g_X1_25 (by decide) rfl rfl dX1_dearest_18 rfl ?_
    refine z_iload_n (pc' := 22) 3 rfl rfl dX1_dearest_21 rfl ?_
    refine z_invV (as := [zI (i8 : Int)]) (st := []) (C := m_X6_knownBy) (fs := [33, 34]) (pc' := 25) dX1_dearest_22 rfl t_4_82 k_X6_knownBy rfl (by decide) rfl rfl rfl rfl (Nat.le_of_ble_eq_true rfl) ?_
    obtain ⟨r11, h⟩ := h
    refine c_Y_knownBy r11 ?_
    show z_Wp m_X1_dearest _ 25 [(0, zR 55), (1, zI ((A_G_dearest_6 w i8).1)), (2, zI ((A_G_dearest_6 w i8).2)), (3, zI (i8 : Int))] [zI (F_Y_knownBy w (i8 : Int))] w _
    refine z_aload_n (pc' := 26) 0 rfl rfl dX1_dearest_25 rfl ?_
    refine z_getR (t := 41) (pc' := 29) g_X1_29 (by decide) rfl rfl dX1_dearest_26 rfl ?_
    refine z_invV (as := []) (st := [zI (F_Y_knownBy w (i8 : Int))]) (C := m_X3_free) (fs := [32, 44, 45, 46, 47, 48, 0, 0, 0]) (pc' := 32) dX1_dearest_29 rfl t_4_71 k_X3_free rfl (by decide) rfl rfl rfl rfl (Nat.le_of_ble_eq_true rfl) ?_
    obtain ⟨r12, h⟩ := h
    refine c_K_free r12 ?_
    show z_Wp m_X1_dearest _ 32 [(0, zR 55), (1, zI ((A_G_dearest_6 w i8).1)), (2, zI ((A_G_dearest_6 w i8).2)), (3, zI (i8 : Int))] [zI (F_K_inside w (-1)), zI (F_Y_knownBy w (i8 : Int))] w _
    refine z_iand (pc' := 33) dX1_dearest_32 rfl ?_
    refine z_invS (as := [zI (zz_and (F_Y_knownBy w (i8 : Int)) (F_K_inside w (-1)))]) (st := []) (C := m_J6_bitCount_0f7a4) (pc' := 36) dX1_dearest_33 rfl t_4_86 k_J6_bitCount_0f7a4 rfl rfl (Nat.le_of_ble_eq_true rfl) ?_
    refine c_J_bitCount_0f7a4 ?_
    show z_Wp m_X1_dearest _ 36 [(0, zR 55), (1, zI ((A_G_dearest_6 w i8).1)), (2, zI ((A_G_dearest_6 w i8).2)), (3, zI (i8 : Int))] [zI (F_J_bitCount_0f7a4 w (zz_and (F_Y_knownBy w (i8 : Int)) (F_K_inside w (-1))))] w _
    refine z_istore (pc' := 38) (ls' := [(0, zR 55), (1, zI ((A_G_dearest_6 w i8).1)), (2, zI ((A_G_dearest_6 w i8).2)), (3, zI (i8 : Int)), (4, zI (F_J_bitCount_0f7a4 w (zz_and (F_Y_knownBy w (i8 : Int)) (F_K_inside w (-1)))))]) (by decide) rfl rfl dX1_dearest_36 rfl ?_
    refine z_aload_n (pc' := 39) 0 rfl rfl dX1_dearest_38 rfl ?_
    refine z_getR (t := 41) (pc' := 42) g_X1_29 (by decide) rfl rfl dX1_dearest_39 rfl ?_
    refine z_iload_n (pc' := 43) 3 rfl rfl dX1_dearest_42 rfl ?_
    refine z_invV (as := [zI (i8 : Int)]) (st := []) (C := m_X3_isFree) (fs := [32, 44, 45, 46, 47, 48, 0, 0, 0]) (pc' := 46) dX1_dearest_43 rfl t_5_124 k_X3_isFree rfl (by decide) rfl rfl rfl rfl (Nat.le_of_ble_eq_true rfl) ?_
    obtain ⟨r13, h⟩ := h
    refine c_K_isFree r13 ?_
    show z_Wp m_X1_dearest _ 46 [(0, zR 55), (1, zI ((A_G_dearest_6 w i8).1)), (2, zI ((A_G_dearest_6 w i8).2)), (3, zI (i8 : Int)), (4, zI (F_J_bitCount_0f7a4 w (zz_and (F_Y_knownBy w (i8 : Int)) (F_K_inside w (-1)))))] [zI (F_K_isFree w (i8 : Int))] w _
    refine z_if_eq 60 dX1_dearest_46 (by decide) (pc' := 49) rfl (z_rb b_K_isFree) (fun c120 => ?_) (fun c120 => ?_)
    · have h := h.1 c120
      rw [if_pos c120] at ih
      refine z_iinc (pc' := 63) (ls' := [(0, zR 55), (1, zI ((A_G_dearest_6 w i8).1)), (2, zI ((A_G_dearest_6 w i8).2)), (3, zI ((i8 : Int) + 1)), (4, zI (F_J_bitCount_0f7a4 w (zz_and (F_Y_knownBy w (i8 : Int)) (F_K_inside w (-1)))))]) 3 rfl (by decide) rfl rfl dX1_dearest_60 rfl ?_
      refine z_goto 6 dX1_dearest_63 (by decide) ?_
      exact z_Wp.sub (ls' := [(0, zR 55), (1, zI ((A_G_dearest_6 w i8).1)), (2, zI ((A_G_dearest_6 w i8).2)), (3, zI ((i8 : Int) + 1))]) (z_lcast (by rw [z_c0 i8]) ih) (z_sub_of [0, 1, 2, 3] rfl)
    · have h := h.2 c120
      rw [if_neg c120] at ih
      refine z_iload (pc' := 51) 4 rfl dX1_dearest_49 rfl ?_
      refine z_iload_n (pc' := 52) 2 rfl rfl dX1_dearest_51 rfl ?_
      obtain ⟨r14, h⟩ := h
      have r15 := h
      refine z_icmp_le 60 dX1_dearest_52 (by decide) (pc' := 55) rfl r14 r15 (fun c121 => ?_) (fun c121 => ?_)
      · skip
        rw [if_pos c121] at ih
        refine z_iinc (pc' := 63) (ls' := [(0, zR 55), (1, zI ((A_G_dearest_6 w i8).1)), (2, zI ((A_G_dearest_6 w i8).2)), (3, zI ((i8 : Int) + 1)), (4, zI (F_J_bitCount_0f7a4 w (zz_and (F_Y_knownBy w (i8 : Int)) (F_K_inside w (-1)))))]) 3 rfl (by decide) rfl rfl dX1_dearest_60 rfl ?_
        refine z_goto 6 dX1_dearest_63 (by decide) ?_
        exact z_Wp.sub (ls' := [(0, zR 55), (1, zI ((A_G_dearest_6 w i8).1)), (2, zI ((A_G_dearest_6 w i8).2)), (3, zI ((i8 : Int) + 1))]) (z_lcast (by rw [z_c0 i8]) ih) (z_sub_of [0, 1, 2, 3] rfl)
      · skip
        rw [if_neg c121] at ih
        refine z_iload_n (pc' := 56) 3 rfl rfl dX1_dearest_55 rfl ?_
        refine z_istore_n (pc' := 57) (ls' := [(0, zR 55), (1, zI (i8 : Int)), (2, zI ((A_G_dearest_6 w i8).2)), (3, zI (i8 : Int)), (4, zI (F_J_bitCount_0f7a4 w (zz_and (F_Y_knownBy w (i8 : Int)) (F_K_inside w (-1)))))]) rfl (by decide) rfl rfl dX1_dearest_56 rfl ?_
        refine z_iload (pc' := 59) 4 rfl dX1_dearest_57 rfl ?_
        refine z_istore_n (pc' := 60) (ls' := [(0, zR 55), (1, zI (i8 : Int)), (2, zI (F_J_bitCount_0f7a4 w (zz_and (F_Y_knownBy w (i8 : Int)) (F_K_inside w (-1))))), (3, zI (i8 : Int)), (4, zI (F_J_bitCount_0f7a4 w (zz_and (F_Y_knownBy w (i8 : Int)) (F_K_inside w (-1)))))]) rfl (by decide) rfl rfl dX1_dearest_59 rfl ?_
        refine z_iinc (pc' := 63) (ls' := [(0, zR 55), (1, zI (i8 : Int)), (2, zI (F_J_bitCount_0f7a4 w (zz_and (F_Y_knownBy w (i8 : Int)) (F_K_inside w (-1))))), (3, zI ((i8 : Int) + 1)), (4, zI (F_J_bitCount_0f7a4 w (zz_and (F_Y_knownBy w (i8 : Int)) (F_K_inside w (-1)))))]) 3 rfl (by decide) rfl rfl dX1_dearest_60 rfl ?_
        refine z_goto 6 dX1_dearest_63 (by decide) ?_
        exact z_Wp.sub (ls' := [(0, zR 55), (1, zI (i8 : Int)), (2, zI (F_J_bitCount_0f7a4 w (zz_and (F_Y_knownBy w (i8 : Int)) (F_K_inside w (-1))))), (3, zI ((i8 : Int) + 1))]) (z_lcast (by rw [z_c0 i8]) ih) (z_sub_of [0, 1, 2, 3] rfl)
def P_K_scratchUp (w : z_Wd) (a0 : Int) (a1 : Int) : Prop := (P_K_inside w (-1)) ∧ (P_K_comesUp w a0 a1 (zz_and ((zz_shl 1 (w 32 2)) - 1) (zz_xor (F_K_inside w (-1)) (-1)))) ∧ (P_K_lift w (F_K_comesUp w a0 a1 (zz_and ((zz_shl 1 (w 32 2)) - 1) (zz_xor (F_K_inside w (-1)) (-1)))))
def F_K_scratchUp (w : z_Wd) (a0 : Int) (a1 : Int) : Int × z_Wd := (F_K_comesUp w a0 a1 (zz_and ((zz_shl 1 (w 32 2)) - 1) (zz_xor (F_K_inside w (-1)) (-1))), F_K_lift w (F_K_comesUp w a0 a1 (zz_and ((zz_shl 1 (w 32 2)) - 1) (zz_xor (F_K_inside w (-1)) (-1)))))
set_option maxRecDepth 4000 in
theorem c_K_scratchUp {d : Nat} {w : z_Wd} {a0 a1 : Int} {Q : Option z_V → z_Wd → Prop} (h : P_K_scratchUp w a0 a1) (k : Q (some (zI (F_K_scratchUp w a0 a1).1)) (F_K_scratchUp w a0 a1).2) : z_Wc (d + 4) m_X3_scratchUp [zR 41, zI a0, zI a1] w Q := by
  unfold P_K_scratchUp at h
  unfold F_K_scratchUp at k
  refine z_enter rfl (Nat.le_of_ble_eq_true rfl) ?_
  show z_Wp m_X3_scratchUp _ 0 [(0, zR 41), (1, zI a0), (2, zI a1)] [] w _
  refine z_aload_n (pc' := 1) 0 rfl rfl dX3_scratchUp_0 rfl ?_
  refine z_iload_n (pc' := 2) 1 rfl rfl dX3_scratchUp_1 rfl ?_
  refine z_iload_n (pc' := 3) 2 rfl rfl dX3_scratchUp_2 rfl ?_
  refine z_aload_n (pc' := 4) 0 rfl rfl dX3_scratchUp_3 rfl ?_
  refine z_invV (as := []) (st := [zI a1, zI a0, zR 41]) (C := m_X3_drowned) (fs := [32, 44, 45, 46, 47, 48, 0, 0, 0]) (pc' := 7) dX3_scratchUp_4 rfl t_3_235 k_X3_drowned rfl (by decide) rfl rfl rfl rfl (Nat.le_of_ble_eq_true rfl) ?_
  obtain ⟨r1, h⟩ := h
  refine c_K_drowned r1 ?_
  show z_Wp m_X3_scratchUp _ 7 [(0, zR 41), (1, zI a0), (2, zI a1)] [zI (zz_and ((zz_shl 1 (w 32 2)) - 1) (zz_xor (F_K_inside w (-1)) (-1))), zI a1, zI a0, zR 41] w _
  refine z_invV (as := [zI a0, zI a1, zI (zz_and ((zz_shl 1 (w 32 2)) - 1) (zz_xor (F_K_inside w (-1)) (-1)))]) (st := []) (C := m_X3_comesUp) (fs := [32, 44, 45, 46, 47, 48, 0, 0, 0]) (pc' := 10) dX3_scratchUp_7 rfl t_3_236 k_X3_comesUp rfl (by decide) rfl rfl rfl rfl (Nat.le_of_ble_eq_true rfl) ?_
  obtain ⟨r2, h⟩ := h
  refine c_K_comesUp r2 ?_
  show z_Wp m_X3_scratchUp _ 10 [(0, zR 41), (1, zI a0), (2, zI a1)] [zI (F_K_comesUp w a0 a1 (zz_and ((zz_shl 1 (w 32 2)) - 1) (zz_xor (F_K_inside w (-1)) (-1))))] w _
  refine z_istore_n (pc' := 11) (ls' := [(0, zR 41), (1, zI a0), (2, zI a1), (3, zI (F_K_comesUp w a0 a1 (zz_and ((zz_shl 1 (w 32 2)) - 1) (zz_xor (F_K_inside w (-1)) (-1)))))]) rfl (by decide) rfl rfl dX3_scratchUp_10 rfl ?_
  refine z_aload_n (pc' := 12) 0 rfl rfl dX3_scratchUp_11 rfl ?_
  refine z_iload_n (pc' := 13) 3 rfl rfl dX3_scratchUp_12 rfl ?_
  refine z_invV (as := [zI (F_K_comesUp w a0 a1 (zz_and ((zz_shl 1 (w 32 2)) - 1) (zz_xor (F_K_inside w (-1)) (-1))))]) (st := []) (C := m_X3_lift) (fs := [32, 44, 45, 46, 47, 48, 0, 0, 0]) (pc' := 16) dX3_scratchUp_13 rfl t_4_8 k_X3_lift rfl (by decide) rfl rfl rfl rfl (Nat.le_of_ble_eq_true rfl) ?_
  have r3 := h
  refine c_K_lift r3 ?_
  show z_Wp m_X3_scratchUp _ 16 [(0, zR 41), (1, zI a0), (2, zI a1), (3, zI (F_K_comesUp w a0 a1 (zz_and ((zz_shl 1 (w 32 2)) - 1) (zz_xor (F_K_inside w (-1)) (-1)))))] [] (F_K_lift w (F_K_comesUp w a0 a1 (zz_and ((zz_shl 1 (w 32 2)) - 1) (zz_xor (F_K_inside w (-1)) (-1))))) _
  refine z_iload_n (pc' := 17) 3 rfl rfl dX3_scratchUp_16 rfl ?_
  refine z_iret rfl dX3_scratchUp_17 ?_
  exact k
def P_K_liftUppermost (w : z_Wd) (a0 : Int) : Prop := (P_K_inside w a0) ∧ (P_K_lyingAt w a0 ((F_J_bitCount_0f7a4 w (F_K_inside w a0)) - 1)) ∧ (P_K_lift w (F_K_lyingAt w a0 ((F_J_bitCount_0f7a4 w (F_K_inside w a0)) - 1)))
def F_K_liftUppermost (w : z_Wd) (a0 : Int) : Int × z_Wd := (F_K_lyingAt w a0 ((F_J_bitCount_0f7a4 w (F_K_inside w a0)) - 1), F_K_lift w (F_K_lyingAt w a0 ((F_J_bitCount_0f7a4 w (F_K_inside w a0)) - 1)))
set_option maxRecDepth 4000 in
theorem c_K_liftUppermost {d : Nat} {w : z_Wd} {a0 : Int} {Q : Option z_V → z_Wd → Prop} (h : P_K_liftUppermost w a0) (k : Q (some (zI (F_K_liftUppermost w a0).1)) (F_K_liftUppermost w a0).2) : z_Wc (d + 4) m_X3_liftUppermost [zR 41, zI a0] w Q := by
  unfold P_K_liftUppermost at h
  unfold F_K_liftUppermost at k
  refine z_enter rfl (Nat.le_of_ble_eq_true rfl) ?_
  show z_Wp m_X3_liftUppermost _ 0 [(0, zR 41), (1, zI a0)] [] w _
  refine z_aload_n (pc' := 1) 0 rfl rfl dX3_liftUppermost_0 rfl ?_
  refine z_iload_n (pc' := 2) 1 rfl rfl dX3_liftUppermost_1 rfl ?_
  refine z_aload_n (pc' := 3) 0 rfl rfl dX3_liftUppermost_2 rfl ?_
  refine z_iload_n (pc' := 4) 1 rfl rfl dX3_liftUppermost_3 rfl ?_
  refine z_invV (as := [zI a0]) (st := [zI a0, zR 41]) (C := m_X3_inside) (fs := [32, 44, 45, 46, 47, 48, 0, 0, 0]) (pc' := 7) dX3_liftUppermost_4 rfl t_3_129 k_X3_inside rfl (by decide) rfl rfl rfl rfl (Nat.le_of_ble_eq_true rfl) ?_
  obtain ⟨r1, h⟩ := h
  refine c_K_inside r1 ?_
  show z_Wp m_X3_liftUppermost _ 7 [(0, zR 41), (1, zI a0)] [zI (F_K_inside w a0), zI a0, zR 41] w _
  refine z_invS (as := [zI (F_K_inside w a0)]) (st := [zI a0, zR 41]) (C := m_J6_bitCount_0f7a4) (pc' := 10) dX3_liftUppermost_7 rfl t_3_226 k_J6_bitCount_0f7a4 rfl rfl (Nat.le_of_ble_eq_true rfl) ?_
  refine c_J_bitCount_0f7a4 ?_
  show z_Wp m_X3_liftUppermost _ 10 [(0, zR 41), (1, zI a0)] [zI (F_J_bitCount_0f7a4 w (F_K_inside w a0)), zI a0, zR 41] w _
  refine z_iconst (pc' := 11) dX3_liftUppermost_10 rfl ?_
  refine z_isub (pc' := 12) dX3_liftUppermost_11 rfl ?_
  refine z_invV (as := [zI a0, zI ((F_J_bitCount_0f7a4 w (F_K_inside w a0)) - 1)]) (st := []) (C := m_X3_lyingAt) (fs := [32, 44, 45, 46, 47, 48, 0, 0, 0]) (pc' := 15) dX3_liftUppermost_12 rfl t_4_25 k_X3_lyingAt rfl (by decide) rfl rfl rfl rfl (Nat.le_of_ble_eq_true rfl) ?_
  obtain ⟨r2, h⟩ := h
  refine c_K_lyingAt r2 ?_
  show z_Wp m_X3_liftUppermost _ 15 [(0, zR 41), (1, zI a0)] [zI (F_K_lyingAt w a0 ((F_J_bitCount_0f7a4 w (F_K_inside w a0)) - 1))] w _
  refine z_istore_n (pc' := 16) (ls' := [(0, zR 41), (1, zI a0), (2, zI (F_K_lyingAt w a0 ((F_J_bitCount_0f7a4 w (F_K_inside w a0)) - 1)))]) rfl (by decide) rfl rfl dX3_liftUppermost_15 rfl ?_
  refine z_aload_n (pc' := 17) 0 rfl rfl dX3_liftUppermost_16 rfl ?_
  refine z_iload_n (pc' := 18) 2 rfl rfl dX3_liftUppermost_17 rfl ?_
  refine z_invV (as := [zI (F_K_lyingAt w a0 ((F_J_bitCount_0f7a4 w (F_K_inside w a0)) - 1))]) (st := []) (C := m_X3_lift) (fs := [32, 44, 45, 46, 47, 48, 0, 0, 0]) (pc' := 21) dX3_liftUppermost_18 rfl t_4_8 k_X3_lift rfl (by decide) rfl rfl rfl rfl (Nat.le_of_ble_eq_true rfl) ?_
  have r3 := h
  refine c_K_lift r3 ?_
  show z_Wp m_X3_liftUppermost _ 21 [(0, zR 41), (1, zI a0), (2, zI (F_K_lyingAt w a0 ((F_J_bitCount_0f7a4 w (F_K_inside w a0)) - 1)))] [] (F_K_lift w (F_K_lyingAt w a0 ((F_J_bitCount_0f7a4 w (F_K_inside w a0)) - 1))) _
  refine z_iload_n (pc' := 22) 2 rfl rfl dX3_liftUppermost_21 rfl ?_
  refine z_iret rfl dX3_liftUppermost_22 ?_
  exact k
def A_K_liftAll_4 (w : z_Wd) (a0 : Int) : Nat → Int × z_Wd
  | 0 => (0, w)
  | i7 + 1 => if ((A_K_liftAll_4 w a0 i7).2) 42 ((i7 : Int).toNat) = a0 then (((A_K_liftAll_4 w a0 i7).1) + 1, F_K_lift ((A_K_liftAll_4 w a0 i7).2) (i7 : Int)) else ((A_K_liftAll_4 w a0 i7).1, (A_K_liftAll_4 w a0 i7).2)
def P_K_liftAll (w : z_Wd) (a0 : Int) : Prop := (∀ i7 : Nat, i7 < ((w 32 2).toNat) → (-2147483648 ≤ (i7 : Int) ∧ (i7 : Int) < 2147483648) ∧ (-2147483648 ≤ ((A_K_liftAll_4 w a0 i7).2) 32 2 ∧ ((A_K_liftAll_4 w a0 i7).2) 32 2 < 2147483648) ∧ (((A_K_liftAll_4 w a0 i7).2) 32 2 = w 32 2) ∧ (0 ≤ (i7 : Int) ∧ (i7 : Int) < 7) ∧ (-2147483648 ≤ ((A_K_liftAll_4 w a0 i7).2) 42 ((i7 : Int).toNat) ∧ ((A_K_liftAll_4 w a0 i7).2) 42 ((i7 : Int).toNat) < 2147483648) ∧ (-2147483648 ≤ a0 ∧ a0 < 2147483648) ∧ ((((A_K_liftAll_4 w a0 i7).2) 42 ((i7 : Int).toNat) = a0 → P_K_lift ((A_K_liftAll_4 w a0 i7).2) (i7 : Int)) ∧ (¬ (((A_K_liftAll_4 w a0 i7).2) 42 ((i7 : Int).toNat) = a0) → True))) ∧ ((-2147483648 ≤ (((w 32 2).toNat : Nat) : Int) ∧ (((w 32 2).toNat : Nat) : Int) < 2147483648) ∧ (-2147483648 ≤ ((A_K_liftAll_4 w a0 (w 32 2).toNat).2) 32 2 ∧ ((A_K_liftAll_4 w a0 (w 32 2).toNat).2) 32 2 < 2147483648) ∧ (((A_K_liftAll_4 w a0 (w 32 2).toNat).2) 32 2 = w 32 2))
def F_K_liftAll (w : z_Wd) (a0 : Int) : Int × z_Wd := ((A_K_liftAll_4 w a0 (w 32 2).toNat).1, (A_K_liftAll_4 w a0 (w 32 2).toNat).2)
set_option maxRecDepth 4000 in
theorem c_K_liftAll {d : Nat} {w : z_Wd} {a0 : Int} {Q : Option z_V → z_Wd → Prop} (h : P_K_liftAll w a0) (k : Q (some (zI (F_K_liftAll w a0).1)) (F_K_liftAll w a0).2) : z_Wc (d + 4) m_X3_liftAll [zR 41, zI a0] w Q := by
  unfold P_K_liftAll at h
  unfold F_K_liftAll at k
  refine z_enter rfl (Nat.le_of_ble_eq_true rfl) ?_
  show z_Wp m_X3_liftAll _ 0 [(0, zR 41), (1, zI a0)] [] w _
  refine z_iconst (pc' := 1) dX3_liftAll_0 rfl ?_
  refine z_istore_n (pc' := 2) (ls' := [(0, zR 41), (1, zI a0), (2, zI 0)]) rfl (by decide) rfl rfl dX3_liftAll_1 rfl ?_
  refine z_iconst (pc' := 3) dX3_liftAll_2 rfl ?_
  refine z_istore_n (pc' := 4) (ls' := [(0, zR 41), (1, zI a0), (2, zI 0), (3, zI 0)]) rfl (by decide) rfl rfl dX3_liftAll_3 rfl ?_
  refine z_upto ((w 32 2).toNat) (fun i7 => z_Wp m_X3_liftAll (d + 4) 4 [(0, zR 41), (1, zI a0), (2, zI ((A_K_liftAll_4 w a0 i7).1)), (3, zI (i7 : Int))] [] ((A_K_liftAll_4 w a0 i7).2) Q) ?_ ?_
  · skip
    have h := h.2
    refine z_iload_n (pc' := 5) 3 rfl rfl dX3_liftAll_4 rfl ?_
    refine z_aload_n (pc' := 6) 0 rfl rfl dX3_liftAll_5 rfl ?_
    refine z_getR (t := 30) (pc' := 9) g_X3_31 (by decide) rfl rfl dX3_liftAll_6 rfl ?_
    refine z_invV (as := []) (st := [zI (((w 32 2).toNat : Nat) : Int)]) (C := m_X6_names) (fs := [33, 34]) (pc' := 12) dX3_liftAll_9 rfl t_3_133 k_X6_names rfl (by decide) rfl rfl rfl rfl (Nat.le_of_ble_eq_true rfl) ?_
    refine c_Y_names ?_
    show z_Wp m_X3_liftAll _ 12 [(0, zR 41), (1, zI a0), (2, zI ((A_K_liftAll_4 w a0 (w 32 2).toNat).1)), (3, zI (((w 32 2).toNat : Nat) : Int))] [zI (((A_K_liftAll_4 w a0 (w 32 2).toNat).2) 32 2), zI (((w 32 2).toNat : Nat) : Int)] ((A_K_liftAll_4 w a0 (w 32 2).toNat).2) _
    obtain ⟨r15, h⟩ := h
    obtain ⟨r16, h⟩ := h
    have r17 := h
    refine z_icmp_ge 39 dX3_liftAll_12 (by decide) (pc' := 15) rfl r15 r16 (fun _ => ?_) (fun c => absurd c (by first | omega | (rw [r17]; first | exact z_exitgt | exact z_exitge | omega)))
    refine z_iload_n (pc' := 40) 2 rfl rfl dX3_liftAll_39 rfl ?_
    refine z_iret rfl dX3_liftAll_40 ?_
    exact k
  · intro i7 hi ih
    have h := h.1 i7 hi
    have ih : z_Wp m_X3_liftAll (d + 4) 4 [(0, zR 41), (1, zI a0), (2, zI ((if ((A_K_liftAll_4 w a0 i7).2) 42 ((i7 : Int).toNat) = a0 then (((A_K_liftAll_4 w a0 i7).1) + 1, F_K_lift ((A_K_liftAll_4 w a0 i7).2) (i7 : Int)) else ((A_K_liftAll_4 w a0 i7).1, (A_K_liftAll_4 w a0 i7).2)).1)), (3, zI ((i7 + 1 : Nat) : Int))] [] ((if ((A_K_liftAll_4 w a0 i7).2) 42 ((i7 : Int).toNat) = a0 then (((A_K_liftAll_4 w a0 i7).1) + 1, F_K_lift ((A_K_liftAll_4 w a0 i7).2) (i7 : Int)) else ((A_K_liftAll_4 w a0 i7).1, (A_K_liftAll_4 w a0 i7).2)).2) Q := ih
    refine z_iload_n (pc' := 5) 3 rfl rfl dX3_liftAll_4 rfl ?_
    refine z_aload_n (pc' := 6) 0 rfl rfl dX3_liftAll_5 rfl ?_
    refine z_getR (t := 30) (pc' := 9) g_X3_31 (by decide) rfl rfl dX3_liftAll_6 rfl ?_
    refine z_invV (as := []) (st := [zI (i7 : Int)]) (C := m_X6_names) (fs := [33, 34]) (pc' := 12) dX3_liftAll_9 rfl t_3_133 k_X6_names rfl (by decide) rfl rfl rfl rfl (Nat.le_of_ble_eq_true rfl) ?_
    refine c_Y_names ?_
    show z_Wp m_X3_liftAll _ 12 [(0, zR 41), (1, zI a0), (2, zI ((A_K_liftAll_4 w a0 i7).1)), (3, zI (i7 : Int))] [zI (((A_K_liftAll_4 w a0 i7).2) 32 2), zI (i7 : Int)] ((A_K_liftAll_4 w a0 i7).2) _
    obtain ⟨r8, h⟩ := h
    obtain ⟨r9, h⟩ := h
    obtain ⟨r10, h⟩ := h
    refine z_icmp_ge 39 dX3_liftAll_12 (by decide) (pc' := 15) rfl r8 r9 (fun c => absurd c (by first | omega | (rw [r10]; first | exact z_exitgt | exact z_exitge | omega))) (fun _ => ?_)
    refine z_aload_n (pc' := 16) 0 rfl rfl dX3_liftAll_15 rfl ?_
    refine z_getR (t := 42) (pc' := 19) g_X3_15 (by decide) rfl rfl dX3_liftAll_16 rfl ?_
    refine z_iload_n (pc' := 20) 3 rfl rfl dX3_liftAll_19 rfl ?_
    obtain ⟨r11, h⟩ := h
    refine z_iald2 (v := ((A_K_liftAll_4 w a0 i7).2) 42 ((i7 : Int).toNat)) (pc' := 21) (by decide) rfl r11 (by decide) rfl dX3_liftAll_20 rfl ?_
    refine z_iload_n (pc' := 22) 1 rfl rfl dX3_liftAll_21 rfl ?_
    obtain ⟨r12, h⟩ := h
    obtain ⟨r13, h⟩ := h
    refine z_icmp_ne 33 dX3_liftAll_22 (by decide) (pc' := 25) rfl r12 r13 (fun c122 => ?_) (fun c122 => ?_)
    · have h := h.2 c122
      rw [if_neg c122] at ih
      refine z_iinc (pc' := 36) (ls' := [(0, zR 41), (1, zI a0), (2, zI ((A_K_liftAll_4 w a0 i7).1)), (3, zI ((i7 : Int) + 1))]) 3 rfl (by decide) rfl rfl dX3_liftAll_33 rfl ?_
      refine z_goto 4 dX3_liftAll_36 (by decide) ?_
      exact ih
    · have h := h.1 c122
      rw [if_pos c122] at ih
      refine z_aload_n (pc' := 26) 0 rfl rfl dX3_liftAll_25 rfl ?_
      refine z_iload_n (pc' := 27) 3 rfl rfl dX3_liftAll_26 rfl ?_
      refine z_invV (as := [zI (i7 : Int)]) (st := []) (C := m_X3_lift) (fs := [32, 44, 45, 46, 47, 48, 0, 0, 0]) (pc' := 30) dX3_liftAll_27 rfl t_4_8 k_X3_lift rfl (by decide) rfl rfl rfl rfl (Nat.le_of_ble_eq_true rfl) ?_
      have r14 := h
      refine c_K_lift r14 ?_
      show z_Wp m_X3_liftAll _ 30 [(0, zR 41), (1, zI a0), (2, zI ((A_K_liftAll_4 w a0 i7).1)), (3, zI (i7 : Int))] [] (F_K_lift ((A_K_liftAll_4 w a0 i7).2) (i7 : Int)) _
      refine z_iinc (pc' := 33) (ls' := [(0, zR 41), (1, zI a0), (2, zI (((A_K_liftAll_4 w a0 i7).1) + 1)), (3, zI (i7 : Int))]) 2 rfl (by decide) rfl rfl dX3_liftAll_30 rfl ?_
      refine z_iinc (pc' := 36) (ls' := [(0, zR 41), (1, zI a0), (2, zI (((A_K_liftAll_4 w a0 i7).1) + 1)), (3, zI ((i7 : Int) + 1))]) 3 rfl (by decide) rfl rfl dX3_liftAll_33 rfl ?_
      refine z_goto 4 dX3_liftAll_36 (by decide) ?_
      exact ih
def P_Y_isWhole (w : z_Wd)  : Prop := (-2147483648 ≤ w 32 1 ∧ w 32 1 < 2147483648) ∧ ((w 32 1 ≤ 0 → True) ∧ (¬ (w 32 1 ≤ 0) → (-2147483648 ≤ w 32 2 ∧ w 32 2 < 2147483648) ∧ ((w 32 2 < 2 → True) ∧ (¬ (w 32 2 < 2) → (P_Y_knowOthers w) ∧ ((F_Y_knowOthers w = 0 → True) ∧ (¬ (F_Y_knowOthers w = 0) → P_Y_filesHoldTwo w))))))
def F_Y_isWhole (w : z_Wd)  : Int := if w 32 1 ≤ 0 then 0 else if w 32 2 < 2 then 0 else if F_Y_knowOthers w = 0 then 0 else if F_Y_filesHoldTwo w = 0 then 0 else 1
set_option maxRecDepth 4000 in
theorem c_Y_isWhole {d : Nat} {w : z_Wd} {Q : Option z_V → z_Wd → Prop} (h : P_Y_isWhole w ) (k : Q (some (zI (F_Y_isWhole w ))) w) : z_Wc (d + 3) m_X6_isWhole [zR 30] w Q := by
  unfold P_Y_isWhole at h
  unfold F_Y_isWhole at k
  refine z_enter rfl (Nat.le_of_ble_eq_true rfl) ?_
  show z_Wp m_X6_isWhole _ 0 [(0, zR 30)] [] w _
  refine z_aload_n (pc' := 1) 0 rfl rfl dX6_isWhole_0 rfl ?_
  refine z_invV (as := []) (st := []) (C := m_X6_wells) (fs := [33, 34]) (pc' := 4) dX6_isWhole_1 rfl t_2_153 k_X6_wells rfl (by decide) rfl rfl rfl rfl (Nat.le_of_ble_eq_true rfl) ?_
  refine c_Y_wells ?_
  show z_Wp m_X6_isWhole _ 4 [(0, zR 30)] [zI (w 32 1)] w _
  obtain ⟨r1, h⟩ := h
  refine z_if_le 33 dX6_isWhole_4 (by decide) (pc' := 7) rfl r1 (fun c => ?_) (fun c => ?_)
  · have h := h.1 c
    rw [if_pos c] at k
    refine z_iconst (pc' := 34) dX6_isWhole_33 rfl ?_
    refine z_zret rfl (by decide) dX6_isWhole_34 ?_
    exact k
  · have h := h.2 c
    rw [if_neg c] at k
    refine z_aload_n (pc' := 8) 0 rfl rfl dX6_isWhole_7 rfl ?_
    refine z_invV (as := []) (st := []) (C := m_X6_names) (fs := [33, 34]) (pc' := 11) dX6_isWhole_8 rfl t_2_157 k_X6_names rfl (by decide) rfl rfl rfl rfl (Nat.le_of_ble_eq_true rfl) ?_
    refine c_Y_names ?_
    show z_Wp m_X6_isWhole _ 11 [(0, zR 30)] [zI (w 32 2)] w _
    refine z_iconst (pc' := 12) dX6_isWhole_11 rfl ?_
    obtain ⟨r2, h⟩ := h
    refine z_icmp_lt 33 dX6_isWhole_12 (by decide) (pc' := 15) rfl r2 (by decide) (fun c => ?_) (fun c => ?_)
    · have h := h.1 c
      rw [if_pos c] at k
      refine z_iconst (pc' := 34) dX6_isWhole_33 rfl ?_
      refine z_zret rfl (by decide) dX6_isWhole_34 ?_
      exact k
    · have h := h.2 c
      rw [if_neg c] at k
      refine z_aload_n (pc' := 16) 0 rfl rfl dX6_isWhole_15 rfl ?_
      refine z_invV (as := []) (st := []) (C := m_X6_knowOthers) (fs := [33, 34]) (pc' := 19) dX6_isWhole_16 rfl t_2_161 k_X6_knowOthers rfl (by decide) rfl rfl rfl rfl (Nat.le_of_ble_eq_true rfl) ?_
      obtain ⟨r3, h⟩ := h
      refine c_Y_knowOthers r3 ?_
      show z_Wp m_X6_isWhole _ 19 [(0, zR 30)] [zI (F_Y_knowOthers w)] w _
      refine z_if_eq 33 dX6_isWhole_19 (by decide) (pc' := 22) rfl (z_rb b_Y_knowOthers) (fun c => ?_) (fun c => ?_)
      · have h := h.1 c
        rw [if_pos c] at k
        refine z_iconst (pc' := 34) dX6_isWhole_33 rfl ?_
        refine z_zret rfl (by decide) dX6_isWhole_34 ?_
        exact k
      · have h := h.2 c
        rw [if_neg c] at k
        refine z_aload_n (pc' := 23) 0 rfl rfl dX6_isWhole_22 rfl ?_
        refine z_invV (as := []) (st := []) (C := m_X6_filesHoldTwo) (fs := [33, 34]) (pc' := 26) dX6_isWhole_23 rfl t_2_177 k_X6_filesHoldTwo rfl (by decide) rfl rfl rfl rfl (Nat.le_of_ble_eq_true rfl) ?_
        have r4 := h
        refine c_Y_filesHoldTwo r4 ?_
        show z_Wp m_X6_isWhole _ 26 [(0, zR 30)] [zI (F_Y_filesHoldTwo w)] w _
        refine z_if_eq 33 dX6_isWhole_26 (by decide) (pc' := 29) rfl (z_rb b_Y_filesHoldTwo) (fun c => ?_) (fun c => ?_)
        · skip
          rw [if_pos c] at k
          refine z_iconst (pc' := 34) dX6_isWhole_33 rfl ?_
          refine z_zret rfl (by decide) dX6_isWhole_34 ?_
          exact k
        · skip
          rw [if_neg c] at k
          refine z_iconst (pc' := 30) dX6_isWhole_29 rfl ?_
          refine z_goto 34 dX6_isWhole_30 (by decide) ?_
          refine z_zret rfl (by decide) dX6_isWhole_34 ?_
          exact k
theorem b_Y_isWhole {w : z_Wd} : F_Y_isWhole w = 0 ∨ F_Y_isWhole w = 1 := by
  unfold F_Y_isWhole
  (repeat' split) <;> first | exact Or.inl rfl | exact Or.inr rfl
def A_YR_readClause_41 (w : z_Wd)  : Nat → Int × z_Wd
  | 0 => (0, F_YR_step ((F_Y_open_34 w (F_YR_kindOf w (F_T_at w (w 33 2)))).2))
  | i15 + 1 => if F_YR_itemOf ((A_YR_readClause_41 w i15).2) (F_YR_kindOf w (F_T_at w (w 33 2))) (F_T_at ((A_YR_readClause_41 w i15).2) (((A_YR_readClause_41 w i15).2) 33 2)) = (-1) then A_YR_readClause_41 w i15 else if zz_and (zz_shr ((A_YR_readClause_41 w i15).1) (F_YR_itemOf ((A_YR_readClause_41 w i15).2) (F_YR_kindOf w (F_T_at w (w 33 2))) (F_T_at ((A_YR_readClause_41 w i15).2) (((A_YR_readClause_41 w i15).2) 33 2)))) 1 = 1 then A_YR_readClause_41 w i15 else if (F_YR_readNumber (F_YR_step ((A_YR_readClause_41 w i15).2)) (F_YR_kindOf w (F_T_at w (w 33 2))) (F_YR_itemOf ((A_YR_readClause_41 w i15).2) (F_YR_kindOf w (F_T_at w (w 33 2))) (F_T_at ((A_YR_readClause_41 w i15).2) (((A_YR_readClause_41 w i15).2) 33 2)))).1 = 0 then A_YR_readClause_41 w i15 else (zz_or ((A_YR_readClause_41 w i15).1) (zz_shl 1 (F_YR_itemOf ((A_YR_readClause_41 w i15).2) (F_YR_kindOf w (F_T_at w (w 33 2))) (F_T_at ((A_YR_readClause_41 w i15).2) (((A_YR_readClause_41 w i15).2) 33 2)))), (F_YR_readNumber (F_YR_step ((A_YR_readClause_41 w i15).2)) (F_YR_kindOf w (F_T_at w (w 33 2))) (F_YR_itemOf ((A_YR_readClause_41 w i15).2) (F_YR_kindOf w (F_T_at w (w 33 2))) (F_T_at ((A_YR_readClause_41 w i15).2) (((A_YR_readClause_41 w i15).2) 33 2)))).2)
def E_YR_readClause_41 (w : z_Wd)  (i15 : Nat) : Bool := if F_YR_itemOf ((A_YR_readClause_41 w i15).2) (F_YR_kindOf w (F_T_at w (w 33 2))) (F_T_at ((A_YR_readClause_41 w i15).2) (((A_YR_readClause_41 w i15).2) 33 2)) = (-1) then true else if zz_and (zz_shr ((A_YR_readClause_41 w i15).1) (F_YR_itemOf ((A_YR_readClause_41 w i15).2) (F_YR_kindOf w (F_T_at w (w 33 2))) (F_T_at ((A_YR_readClause_41 w i15).2) (((A_YR_readClause_41 w i15).2) 33 2)))) 1 = 1 then true else if (F_YR_readNumber (F_YR_step ((A_YR_readClause_41 w i15).2)) (F_YR_kindOf w (F_T_at w (w 33 2))) (F_YR_itemOf ((A_YR_readClause_41 w i15).2) (F_YR_kindOf w (F_T_at w (w 33 2))) (F_T_at ((A_YR_readClause_41 w i15).2) (((A_YR_readClause_41 w i15).2) 33 2)))).1 = 0 then true else false
def R_YR_readClause_41 (w : z_Wd)  (i15 : Nat) : Int × z_Wd := if F_YR_itemOf ((A_YR_readClause_41 w i15).2) (F_YR_kindOf w (F_T_at w (w 33 2))) (F_T_at ((A_YR_readClause_41 w i15).2) (((A_YR_readClause_41 w i15).2) 33 2)) = (-1) then (1, (A_YR_readClause_41 w i15).2) else if zz_and (zz_shr ((A_YR_readClause_41 w i15).1) (F_YR_itemOf ((A_YR_readClause_41 w i15).2) (F_YR_kindOf w (F_T_at w (w 33 2))) (F_T_at ((A_YR_readClause_41 w i15).2) (((A_YR_readClause_41 w i15).2) 33 2)))) 1 = 1 then (0, (A_YR_readClause_41 w i15).2) else if (F_YR_readNumber (F_YR_step ((A_YR_readClause_41 w i15).2)) (F_YR_kindOf w (F_T_at w (w 33 2))) (F_YR_itemOf ((A_YR_readClause_41 w i15).2) (F_YR_kindOf w (F_T_at w (w 33 2))) (F_T_at ((A_YR_readClause_41 w i15).2) (((A_YR_readClause_41 w i15).2) 33 2)))).1 = 0 then (0, (F_YR_readNumber (F_YR_step ((A_YR_readClause_41 w i15).2)) (F_YR_kindOf w (F_T_at w (w 33 2))) (F_YR_itemOf ((A_YR_readClause_41 w i15).2) (F_YR_kindOf w (F_T_at w (w 33 2))) (F_T_at ((A_YR_readClause_41 w i15).2) (((A_YR_readClause_41 w i15).2) 33 2)))).2) else (0, w)
def P_YR_readClause (w : z_Wd)  : Prop := (P_T_at w (w 33 2)) ∧ (P_YR_kindOf w (F_T_at w (w 33 2))) ∧ (-2147483648 ≤ F_YR_kindOf w (F_T_at w (w 33 2)) ∧ F_YR_kindOf w (F_T_at w (w 33 2)) < 2147483648) ∧ ((F_YR_kindOf w (F_T_at w (w 33 2)) = (-1) → True) ∧ (¬ (F_YR_kindOf w (F_T_at w (w 33 2)) = (-1)) → (P_Y_open_34 w (F_YR_kindOf w (F_T_at w (w 33 2)))) ∧ (-2147483648 ≤ (F_Y_open_34 w (F_YR_kindOf w (F_T_at w (w 33 2)))).1 ∧ (F_Y_open_34 w (F_YR_kindOf w (F_T_at w (w 33 2)))).1 < 2147483648) ∧ (((F_Y_open_34 w (F_YR_kindOf w (F_T_at w (w 33 2)))).1 = 0 → True) ∧ (¬ ((F_Y_open_34 w (F_YR_kindOf w (F_T_at w (w 33 2)))).1 = 0) → (P_YR_step ((F_Y_open_34 w (F_YR_kindOf w (F_T_at w (w 33 2)))).2)) ∧ ((∀ i15 : Nat, i15 < 3 → zfind (E_YR_readClause_41 w) i15 = -1 → (-2147483648 ≤ (i15 : Int) ∧ (i15 : Int) < 2147483648) ∧ (P_T_at ((A_YR_readClause_41 w i15).2) (((A_YR_readClause_41 w i15).2) 33 2)) ∧ (P_YR_itemOf ((A_YR_readClause_41 w i15).2) (F_YR_kindOf w (F_T_at w (w 33 2))) (F_T_at ((A_YR_readClause_41 w i15).2) (((A_YR_readClause_41 w i15).2) 33 2))) ∧ (-2147483648 ≤ F_YR_itemOf ((A_YR_readClause_41 w i15).2) (F_YR_kindOf w (F_T_at w (w 33 2))) (F_T_at ((A_YR_readClause_41 w i15).2) (((A_YR_readClause_41 w i15).2) 33 2)) ∧ F_YR_itemOf ((A_YR_readClause_41 w i15).2) (F_YR_kindOf w (F_T_at w (w 33 2))) (F_T_at ((A_YR_readClause_41 w i15).2) (((A_YR_readClause_41 w i15).2) 33 2)) < 2147483648) ∧ ((F_YR_itemOf ((A_YR_readClause_41 w i15).2) (F_YR_kindOf w (F_T_at w (w 33 2))) (F_T_at ((A_YR_readClause_41 w i15).2) (((A_YR_readClause_41 w i15).2) 33 2)) = (-1) → True) ∧ (¬ (F_YR_itemOf ((A_YR_readClause_41 w i15).2) (F_YR_kindOf w (F_T_at w (w 33 2))) (F_T_at ((A_YR_readClause_41 w i15).2) (((A_YR_readClause_41 w i15).2) 33 2)) = (-1)) → (-2147483648 ≤ zz_and (zz_shr ((A_YR_readClause_41 w i15).1) (F_YR_itemOf ((A_YR_readClause_41 w i15).2) (F_YR_kindOf w (F_T_at w (w 33 2))) (F_T_at ((A_YR_readClause_41 w i15).2) (((A_YR_readClause_41 w i15).2) 33 2)))) 1 ∧ zz_and (zz_shr ((A_YR_readClause_41 w i15).1) (F_YR_itemOf ((A_YR_readClause_41 w i15).2) (F_YR_kindOf w (F_T_at w (w 33 2))) (F_T_at ((A_YR_readClause_41 w i15).2) (((A_YR_readClause_41 w i15).2) 33 2)))) 1 < 2147483648) ∧ ((zz_and (zz_shr ((A_YR_readClause_41 w i15).1) (F_YR_itemOf ((A_YR_readClause_41 w i15).2) (F_YR_kindOf w (F_T_at w (w 33 2))) (F_T_at ((A_YR_readClause_41 w i15).2) (((A_YR_readClause_41 w i15).2) 33 2)))) 1 = 1 → True) ∧ (¬ (zz_and (zz_shr ((A_YR_readClause_41 w i15).1) (F_YR_itemOf ((A_YR_readClause_41 w i15).2) (F_YR_kindOf w (F_T_at w (w 33 2))) (F_T_at ((A_YR_readClause_41 w i15).2) (((A_YR_readClause_41 w i15).2) 33 2)))) 1 = 1) → (P_YR_step ((A_YR_readClause_41 w i15).2)) ∧ (P_YR_readNumber (F_YR_step ((A_YR_readClause_41 w i15).2)) (F_YR_kindOf w (F_T_at w (w 33 2))) (F_YR_itemOf ((A_YR_readClause_41 w i15).2) (F_YR_kindOf w (F_T_at w (w 33 2))) (F_T_at ((A_YR_readClause_41 w i15).2) (((A_YR_readClause_41 w i15).2) 33 2)))) ∧ (-2147483648 ≤ (F_YR_readNumber (F_YR_step ((A_YR_readClause_41 w i15).2)) (F_YR_kindOf w (F_T_at w (w 33 2))) (F_YR_itemOf ((A_YR_readClause_41 w i15).2) (F_YR_kindOf w (F_T_at w (w 33 2))) (F_T_at ((A_YR_readClause_41 w i15).2) (((A_YR_readClause_41 w i15).2) 33 2)))).1 ∧ (F_YR_readNumber (F_YR_step ((A_YR_readClause_41 w i15).2)) (F_YR_kindOf w (F_T_at w (w 33 2))) (F_YR_itemOf ((A_YR_readClause_41 w i15).2) (F_YR_kindOf w (F_T_at w (w 33 2))) (F_T_at ((A_YR_readClause_41 w i15).2) (((A_YR_readClause_41 w i15).2) 33 2)))).1 < 2147483648)))))) ∧ (True))))))
def F_YR_readClause (w : z_Wd)  : Int × z_Wd := if F_YR_kindOf w (F_T_at w (w 33 2)) = (-1) then (0, w) else if (F_Y_open_34 w (F_YR_kindOf w (F_T_at w (w 33 2)))).1 = 0 then (0, (F_Y_open_34 w (F_YR_kindOf w (F_T_at w (w 33 2)))).2) else if zfind (E_YR_readClause_41 w) 3 = -1 then (1, (A_YR_readClause_41 w 3).2) else R_YR_readClause_41 w (zfind (E_YR_readClause_41 w) 3).toNat
set_option maxRecDepth 4000 in
theorem c_YR_readClause {d : Nat} {w : z_Wd} {Q : Option z_V → z_Wd → Prop} (h : P_YR_readClause w ) (k : Q (some (zI (F_YR_readClause w ).1)) (F_YR_readClause w ).2) : z_Wc (d + 4) m_X7_readClause [zR 33] w Q := by
  unfold P_YR_readClause at h
  unfold F_YR_readClause at k
  refine z_enter rfl (Nat.le_of_ble_eq_true rfl) ?_
  show z_Wp m_X7_readClause _ 0 [(0, zR 33)] [] w _
  refine z_aload_n (pc' := 1) 0 rfl rfl dX7_readClause_0 rfl ?_
  refine z_getR (t := 28) (pc' := 4) g_X7_18 (by decide) rfl rfl dX7_readClause_1 rfl ?_
  refine z_aload_n (pc' := 5) 0 rfl rfl dX7_readClause_4 rfl ?_
  refine z_getI2 (v := w 33 2) (pc' := 8) g_X7_31 (by decide) rfl rfl rfl dX7_readClause_5 rfl ?_
  refine z_invV (as := [zI (w 33 2)]) (st := []) (C := m_X10_at) (fs := [31, 0]) (pc' := 11) dX7_readClause_8 rfl t_2_104 k_X10_at rfl (by decide) rfl rfl rfl rfl (Nat.le_of_ble_eq_true rfl) ?_
  obtain ⟨r1, h⟩ := h
  refine c_T_at r1 ?_
  show z_Wp m_X7_readClause _ 11 [(0, zR 33)] [zI (F_T_at w (w 33 2))] w _
  refine z_invS (as := [zI (F_T_at w (w 33 2))]) (st := []) (C := m_X7_kindOf) (pc' := 14) dX7_readClause_11 rfl t_2_108 k_X7_kindOf rfl rfl (Nat.le_of_ble_eq_true rfl) ?_
  obtain ⟨r2, h⟩ := h
  refine c_YR_kindOf r2 ?_
  show z_Wp m_X7_readClause _ 14 [(0, zR 33)] [zI (F_YR_kindOf w (F_T_at w (w 33 2)))] w _
  refine z_istore_n (pc' := 15) (ls' := [(0, zR 33), (1, zI (F_YR_kindOf w (F_T_at w (w 33 2))))]) rfl (by decide) rfl rfl dX7_readClause_14 rfl ?_
  refine z_iload_n (pc' := 16) 1 rfl rfl dX7_readClause_15 rfl ?_
  refine z_iconst (pc' := 17) dX7_readClause_16 rfl ?_
  obtain ⟨r3, h⟩ := h
  refine z_icmp_eq 31 dX7_readClause_17 (by decide) (pc' := 20) rfl r3 (by decide) (fun c => ?_) (fun c => ?_)
  · have h := h.1 c
    rw [if_pos c] at k
    refine z_iconst (pc' := 32) dX7_readClause_31 rfl ?_
    refine z_zret rfl (by decide) dX7_readClause_32 ?_
    exact k
  · have h := h.2 c
    rw [if_neg c] at k
    refine z_aload_n (pc' := 21) 0 rfl rfl dX7_readClause_20 rfl ?_
    refine z_getR (t := 34) (pc' := 24) g_X7_12 (by decide) rfl rfl dX7_readClause_21 rfl ?_
    refine z_iload_n (pc' := 25) 1 rfl rfl dX7_readClause_24 rfl ?_
    refine z_invV (as := [zI (F_YR_kindOf w (F_T_at w (w 33 2)))]) (st := []) (C := m_X6_open) (fs := [37, 38]) (pc' := 28) dX7_readClause_25 rfl t_2_113 k_X6_open rfl (by decide) rfl rfl rfl rfl (Nat.le_of_ble_eq_true rfl) ?_
    obtain ⟨r4, h⟩ := h
    refine c_Y_open_34 r4 ?_
    show z_Wp m_X7_readClause _ 28 [(0, zR 33), (1, zI (F_YR_kindOf w (F_T_at w (w 33 2))))] [zI ((F_Y_open_34 w (F_YR_kindOf w (F_T_at w (w 33 2)))).1)] ((F_Y_open_34 w (F_YR_kindOf w (F_T_at w (w 33 2)))).2) _
    obtain ⟨r5, h⟩ := h
    refine z_if_ne 33 dX7_readClause_28 (by decide) (pc' := 31) rfl r5 (fun c => ?_) (fun c => ?_)
    · have h := h.2 c
      rw [if_neg c] at k
      refine z_aload_n (pc' := 34) 0 rfl rfl dX7_readClause_33 rfl ?_
      refine z_invV (as := []) (st := []) (C := m_X7_step) (fs := [30, 36, 0]) (pc' := 37) dX7_readClause_34 rfl t_2_119 k_X7_step rfl (by decide) rfl rfl rfl rfl (Nat.le_of_ble_eq_true rfl) ?_
      obtain ⟨r6, h⟩ := h
      refine c_YR_step r6 ?_
      show z_Wp m_X7_readClause _ 37 [(0, zR 33), (1, zI (F_YR_kindOf w (F_T_at w (w 33 2))))] [] (F_YR_step ((F_Y_open_34 w (F_YR_kindOf w (F_T_at w (w 33 2)))).2)) _
      refine z_iconst (pc' := 38) dX7_readClause_37 rfl ?_
      refine z_istore_n (pc' := 39) (ls' := [(0, zR 33), (1, zI (F_YR_kindOf w (F_T_at w (w 33 2)))), (2, zI 0)]) rfl (by decide) rfl rfl dX7_readClause_38 rfl ?_
      refine z_iconst (pc' := 40) dX7_readClause_39 rfl ?_
      refine z_istore_n (pc' := 41) (ls' := [(0, zR 33), (1, zI (F_YR_kindOf w (F_T_at w (w 33 2)))), (2, zI 0), (3, zI 0)]) rfl (by decide) rfl rfl dX7_readClause_40 rfl ?_
      refine z_upto 3 (fun i15 => zfind (E_YR_readClause_41 w) i15 = -1 → z_Wp m_X7_readClause (d + 4) 41 [(0, zR 33), (1, zI (F_YR_kindOf w (F_T_at w (w 33 2)))), (2, zI ((A_YR_readClause_41 w i15).1)), (3, zI (i15 : Int))] [] ((A_YR_readClause_41 w i15).2) Q) ?_ ?_ rfl
      · intro hf
        rw [if_pos hf] at k
        have h := h.2
        refine z_iload_n (pc' := 42) 3 rfl rfl dX7_readClause_41 rfl ?_
        refine z_iconst (pc' := 43) dX7_readClause_42 rfl ?_
        refine z_icmp_ge 112 dX7_readClause_43 (by decide) (pc' := 46) rfl (by decide) (by decide) (fun _ => ?_) (fun c => absurd c (by decide))
        refine z_iconst (pc' := 113) dX7_readClause_112 rfl ?_
        refine z_zret rfl (by decide) dX7_readClause_113 ?_
        exact k
      · intro i15 hi ih hf
        have h := h.1 i15 hi hf
        have ih : zfind (E_YR_readClause_41 w) (i15 + 1) = -1 → z_Wp m_X7_readClause (d + 4) 41 [(0, zR 33), (1, zI (F_YR_kindOf w (F_T_at w (w 33 2)))), (2, zI ((if F_YR_itemOf ((A_YR_readClause_41 w i15).2) (F_YR_kindOf w (F_T_at w (w 33 2))) (F_T_at ((A_YR_readClause_41 w i15).2) (((A_YR_readClause_41 w i15).2) 33 2)) = (-1) then A_YR_readClause_41 w i15 else if zz_and (zz_shr ((A_YR_readClause_41 w i15).1) (F_YR_itemOf ((A_YR_readClause_41 w i15).2) (F_YR_kindOf w (F_T_at w (w 33 2))) (F_T_at ((A_YR_readClause_41 w i15).2) (((A_YR_readClause_41 w i15).2) 33 2)))) 1 = 1 then A_YR_readClause_41 w i15 else if (F_YR_readNumber (F_YR_step ((A_YR_readClause_41 w i15).2)) (F_YR_kindOf w (F_T_at w (w 33 2))) (F_YR_itemOf ((A_YR_readClause_41 w i15).2) (F_YR_kindOf w (F_T_at w (w 33 2))) (F_T_at ((A_YR_readClause_41 w i15).2) (((A_YR_readClause_41 w i15).2) 33 2)))).1 = 0 then A_YR_readClause_41 w i15 else (zz_or ((A_YR_readClause_41 w i15).1) (zz_shl 1 (F_YR_itemOf ((A_YR_readClause_41 w i15).2) (F_YR_kindOf w (F_T_at w (w 33 2))) (F_T_at ((A_YR_readClause_41 w i15).2) (((A_YR_readClause_41 w i15).2) 33 2)))), (F_YR_readNumber (F_YR_step ((A_YR_readClause_41 w i15).2)) (F_YR_kindOf w (F_T_at w (w 33 2))) (F_YR_itemOf ((A_YR_readClause_41 w i15).2) (F_YR_kindOf w (F_T_at w (w 33 2))) (F_T_at ((A_YR_readClause_41 w i15).2) (((A_YR_readClause_41 w i15).2) 33 2)))).2)).1)), (3, zI ((i15 + 1 : Nat) : Int))] [] ((if F_YR_itemOf ((A_YR_readClause_41 w i15).2) (F_YR_kindOf w (F_T_at w (w 33 2))) (F_T_at ((A_YR_readClause_41 w i15).2) (((A_YR_readClause_41 w i15).2) 33 2)) = (-1) then A_YR_readClause_41 w i15 else if zz_and (zz_shr ((A_YR_readClause_41 w i15).1) (F_YR_itemOf ((A_YR_readClause_41 w i15).2) (F_YR_kindOf w (F_T_at w (w 33 2))) (F_T_at ((A_YR_readClause_41 w i15).2) (((A_YR_readClause_41 w i15).2) 33 2)))) 1 = 1 then A_YR_readClause_41 w i15 else if (F_YR_readNumber (F_YR_step ((A_YR_readClause_41 w i15).2)) (F_YR_kindOf w (F_T_at w (w 33 2))) (F_YR_itemOf ((A_YR_readClause_41 w i15).2) (F_YR_kindOf w (F_T_at w (w 33 2))) (F_T_at ((A_YR_readClause_41 w i15).2) (((A_YR_readClause_41 w i15).2) 33 2)))).1 = 0 then A_YR_readClause_41 w i15 else (zz_or ((A_YR_readClause_41 w i15).1) (zz_shl 1 (F_YR_itemOf ((A_YR_readClause_41 w i15).2) (F_YR_kindOf w (F_T_at w (w 33 2))) (F_T_at ((A_YR_readClause_41 w i15).2) (((A_YR_readClause_41 w i15).2) 33 2)))), (F_YR_readNumber (F_YR_step ((A_YR_readClause_41 w i15).2)) (F_YR_kindOf w (F_T_at w (w 33 2))) (F_YR_itemOf ((A_YR_readClause_41 w i15).2) (F_YR_kindOf w (F_T_at w (w 33 2))) (F_T_at ((A_YR_readClause_41 w i15).2) (((A_YR_readClause_41 w i15).2) 33 2)))).2)).2) Q := ih
        have hE : E_YR_readClause_41 w i15 = (if F_YR_itemOf ((A_YR_readClause_41 w i15).2) (F_YR_kindOf w (F_T_at w (w 33 2))) (F_T_at ((A_YR_readClause_41 w i15).2) (((A_YR_readClause_41 w i15).2) 33 2)) = (-1) then true else if zz_and (zz_shr ((A_YR_readClause_41 w i15).1) (F_YR_itemOf ((A_YR_readClause_41 w i15).2) (F_YR_kindOf w (F_T_at w (w 33 2))) (F_T_at ((A_YR_readClause_41 w i15).2) (((A_YR_readClause_41 w i15).2) 33 2)))) 1 = 1 then true else if (F_YR_readNumber (F_YR_step ((A_YR_readClause_41 w i15).2)) (F_YR_kindOf w (F_T_at w (w 33 2))) (F_YR_itemOf ((A_YR_readClause_41 w i15).2) (F_YR_kindOf w (F_T_at w (w 33 2))) (F_T_at ((A_YR_readClause_41 w i15).2) (((A_YR_readClause_41 w i15).2) 33 2)))).1 = 0 then true else false) := rfl
        refine z_iload_n (pc' := 42) 3 rfl rfl dX7_readClause_41 rfl ?_
        refine z_iconst (pc' := 43) dX7_readClause_42 rfl ?_
        obtain ⟨r16, h⟩ := h
        refine z_icmp_ge 112 dX7_readClause_43 (by decide) (pc' := 46) rfl r16 (by decide) (fun c => absurd c (by omega)) (fun _ => ?_)
        refine z_iload_n (pc' := 47) 1 rfl rfl dX7_readClause_46 rfl ?_
        refine z_aload_n (pc' := 48) 0 rfl rfl dX7_readClause_47 rfl ?_
        refine z_getR (t := 28) (pc' := 51) g_X7_18 (by decide) rfl rfl dX7_readClause_48 rfl ?_
        refine z_aload_n (pc' := 52) 0 rfl rfl dX7_readClause_51 rfl ?_
        refine z_getI2 (v := ((A_YR_readClause_41 w i15).2) 33 2) (pc' := 55) g_X7_31 (by decide) rfl rfl rfl dX7_readClause_52 rfl ?_
        refine z_invV (as := [zI (((A_YR_readClause_41 w i15).2) 33 2)]) (st := [zI (F_YR_kindOf w (F_T_at w (w 33 2)))]) (C := m_X10_at) (fs := [31, 0]) (pc' := 58) dX7_readClause_55 rfl t_2_104 k_X10_at rfl (by decide) rfl rfl rfl rfl (Nat.le_of_ble_eq_true rfl) ?_
        obtain ⟨r17, h⟩ := h
        refine c_T_at r17 ?_
        show z_Wp m_X7_readClause _ 58 [(0, zR 33), (1, zI (F_YR_kindOf w (F_T_at w (w 33 2)))), (2, zI ((A_YR_readClause_41 w i15).1)), (3, zI (i15 : Int))] [zI (F_T_at ((A_YR_readClause_41 w i15).2) (((A_YR_readClause_41 w i15).2) 33 2)), zI (F_YR_kindOf w (F_T_at w (w 33 2)))] ((A_YR_readClause_41 w i15).2) _
        refine z_invS (as := [zI (F_YR_kindOf w (F_T_at w (w 33 2))), zI (F_T_at ((A_YR_readClause_41 w i15).2) (((A_YR_readClause_41 w i15).2) 33 2))]) (st := []) (C := m_X7_itemOf) (pc' := 61) dX7_readClause_58 rfl t_2_123 k_X7_itemOf rfl rfl (Nat.le_of_ble_eq_true rfl) ?_
        obtain ⟨r18, h⟩ := h
        refine c_YR_itemOf r18 ?_
        show z_Wp m_X7_readClause _ 61 [(0, zR 33), (1, zI (F_YR_kindOf w (F_T_at w (w 33 2)))), (2, zI ((A_YR_readClause_41 w i15).1)), (3, zI (i15 : Int))] [zI (F_YR_itemOf ((A_YR_readClause_41 w i15).2) (F_YR_kindOf w (F_T_at w (w 33 2))) (F_T_at ((A_YR_readClause_41 w i15).2) (((A_YR_readClause_41 w i15).2) 33 2)))] ((A_YR_readClause_41 w i15).2) _
        refine z_istore (pc' := 63) (ls' := [(0, zR 33), (1, zI (F_YR_kindOf w (F_T_at w (w 33 2)))), (2, zI ((A_YR_readClause_41 w i15).1)), (3, zI (i15 : Int)), (4, zI (F_YR_itemOf ((A_YR_readClause_41 w i15).2) (F_YR_kindOf w (F_T_at w (w 33 2))) (F_T_at ((A_YR_readClause_41 w i15).2) (((A_YR_readClause_41 w i15).2) 33 2))))]) (by decide) rfl rfl dX7_readClause_61 rfl ?_
        refine z_iload (pc' := 65) 4 rfl dX7_readClause_63 rfl ?_
        refine z_iconst (pc' := 66) dX7_readClause_65 rfl ?_
        obtain ⟨r19, h⟩ := h
        refine z_icmp_ne 71 dX7_readClause_66 (by decide) (pc' := 69) rfl r19 (by decide) (fun c123 => ?_) (fun c123 => ?_)
        · have h := h.2 c123
          rw [if_neg c123] at ih
          rw [if_neg c123] at hE
          refine z_iload_n (pc' := 72) 2 rfl rfl dX7_readClause_71 rfl ?_
          refine z_iload (pc' := 74) 4 rfl dX7_readClause_72 rfl ?_
          refine z_ishr (pc' := 75) dX7_readClause_74 rfl ?_
          refine z_iconst (pc' := 76) dX7_readClause_75 rfl ?_
          refine z_iand (pc' := 77) dX7_readClause_76 rfl ?_
          refine z_iconst (pc' := 78) dX7_readClause_77 rfl ?_
          obtain ⟨r20, h⟩ := h
          refine z_icmp_ne 83 dX7_readClause_78 (by decide) (pc' := 81) rfl r20 (by decide) (fun c124 => ?_) (fun c124 => ?_)
          · have h := h.2 c124
            rw [if_neg c124] at ih
            rw [if_neg c124] at hE
            refine z_iload_n (pc' := 84) 2 rfl rfl dX7_readClause_83 rfl ?_
            refine z_iconst (pc' := 85) dX7_readClause_84 rfl ?_
            refine z_iload (pc' := 87) 4 rfl dX7_readClause_85 rfl ?_
            refine z_ishl (pc' := 88) dX7_readClause_87 rfl ?_
            refine z_ior (pc' := 89) dX7_readClause_88 rfl ?_
            refine z_istore_n (pc' := 90) (ls' := [(0, zR 33), (1, zI (F_YR_kindOf w (F_T_at w (w 33 2)))), (2, zI (zz_or ((A_YR_readClause_41 w i15).1) (zz_shl 1 (F_YR_itemOf ((A_YR_readClause_41 w i15).2) (F_YR_kindOf w (F_T_at w (w 33 2))) (F_T_at ((A_YR_readClause_41 w i15).2) (((A_YR_readClause_41 w i15).2) 33 2)))))), (3, zI (i15 : Int)), (4, zI (F_YR_itemOf ((A_YR_readClause_41 w i15).2) (F_YR_kindOf w (F_T_at w (w 33 2))) (F_T_at ((A_YR_readClause_41 w i15).2) (((A_YR_readClause_41 w i15).2) 33 2))))]) rfl (by decide) rfl rfl dX7_readClause_89 rfl ?_
            refine z_aload_n (pc' := 91) 0 rfl rfl dX7_readClause_90 rfl ?_
            refine z_invV (as := []) (st := []) (C := m_X7_step) (fs := [30, 36, 0]) (pc' := 94) dX7_readClause_91 rfl t_2_119 k_X7_step rfl (by decide) rfl rfl rfl rfl (Nat.le_of_ble_eq_true rfl) ?_
            obtain ⟨r21, h⟩ := h
            refine c_YR_step r21 ?_
            show z_Wp m_X7_readClause _ 94 [(0, zR 33), (1, zI (F_YR_kindOf w (F_T_at w (w 33 2)))), (2, zI (zz_or ((A_YR_readClause_41 w i15).1) (zz_shl 1 (F_YR_itemOf ((A_YR_readClause_41 w i15).2) (F_YR_kindOf w (F_T_at w (w 33 2))) (F_T_at ((A_YR_readClause_41 w i15).2) (((A_YR_readClause_41 w i15).2) 33 2)))))), (3, zI (i15 : Int)), (4, zI (F_YR_itemOf ((A_YR_readClause_41 w i15).2) (F_YR_kindOf w (F_T_at w (w 33 2))) (F_T_at ((A_YR_readClause_41 w i15).2) (((A_YR_readClause_41 w i15).2) 33 2))))] [] (F_YR_step ((A_YR_readClause_41 w i15).2)) _
            refine z_aload_n (pc' := 95) 0 rfl rfl dX7_readClause_94 rfl ?_
            refine z_iload_n (pc' := 96) 1 rfl rfl dX7_readClause_95 rfl ?_
            refine z_iload (pc' := 98) 4 rfl dX7_readClause_96 rfl ?_
            refine z_invV (as := [zI (F_YR_kindOf w (F_T_at w (w 33 2))), zI (F_YR_itemOf ((A_YR_readClause_41 w i15).2) (F_YR_kindOf w (F_T_at w (w 33 2))) (F_T_at ((A_YR_readClause_41 w i15).2) (((A_YR_readClause_41 w i15).2) 33 2)))]) (st := []) (C := m_X7_readNumber) (fs := [30, 36, 0]) (pc' := 101) dX7_readClause_98 rfl t_2_128 k_X7_readNumber rfl (by decide) rfl rfl rfl rfl (Nat.le_of_ble_eq_true rfl) ?_
            obtain ⟨r22, h⟩ := h
            refine c_YR_readNumber r22 ?_
            show z_Wp m_X7_readClause _ 101 [(0, zR 33), (1, zI (F_YR_kindOf w (F_T_at w (w 33 2)))), (2, zI (zz_or ((A_YR_readClause_41 w i15).1) (zz_shl 1 (F_YR_itemOf ((A_YR_readClause_41 w i15).2) (F_YR_kindOf w (F_T_at w (w 33 2))) (F_T_at ((A_YR_readClause_41 w i15).2) (((A_YR_readClause_41 w i15).2) 33 2)))))), (3, zI (i15 : Int)), (4, zI (F_YR_itemOf ((A_YR_readClause_41 w i15).2) (F_YR_kindOf w (F_T_at w (w 33 2))) (F_T_at ((A_YR_readClause_41 w i15).2) (((A_YR_readClause_41 w i15).2) 33 2))))] [zI ((F_YR_readNumber (F_YR_step ((A_YR_readClause_41 w i15).2)) (F_YR_kindOf w (F_T_at w (w 33 2))) (F_YR_itemOf ((A_YR_readClause_41 w i15).2) (F_YR_kindOf w (F_T_at w (w 33 2))) (F_T_at ((A_YR_readClause_41 w i15).2) (((A_YR_readClause_41 w i15).2) 33 2)))).1)] ((F_YR_readNumber (F_YR_step ((A_YR_readClause_41 w i15).2)) (F_YR_kindOf w (F_T_at w (w 33 2))) (F_YR_itemOf ((A_YR_readClause_41 w i15).2) (F_YR_kindOf w (F_T_at w (w 33 2))) (F_T_at ((A_YR_readClause_41 w i15).2) (((A_YR_readClause_41 w i15).2) 33 2)))).2) _
            have r23 := h
            refine z_if_ne 106 dX7_readClause_101 (by decide) (pc' := 104) rfl r23 (fun c125 => ?_) (fun c125 => ?_)
            · skip
              rw [if_neg c125] at ih
              rw [if_neg c125] at hE
              refine z_iinc (pc' := 109) (ls' := [(0, zR 33), (1, zI (F_YR_kindOf w (F_T_at w (w 33 2)))), (2, zI (zz_or ((A_YR_readClause_41 w i15).1) (zz_shl 1 (F_YR_itemOf ((A_YR_readClause_41 w i15).2) (F_YR_kindOf w (F_T_at w (w 33 2))) (F_T_at ((A_YR_readClause_41 w i15).2) (((A_YR_readClause_41 w i15).2) 33 2)))))), (3, zI ((i15 : Int) + 1)), (4, zI (F_YR_itemOf ((A_YR_readClause_41 w i15).2) (F_YR_kindOf w (F_T_at w (w 33 2))) (F_T_at ((A_YR_readClause_41 w i15).2) (((A_YR_readClause_41 w i15).2) 33 2))))]) 3 rfl (by decide) rfl rfl dX7_readClause_106 rfl ?_
              refine z_goto 41 dX7_readClause_109 (by decide) ?_
              exact z_Wp.sub (ls' := [(0, zR 33), (1, zI (F_YR_kindOf w (F_T_at w (w 33 2)))), (2, zI (zz_or ((A_YR_readClause_41 w i15).1) (zz_shl 1 (F_YR_itemOf ((A_YR_readClause_41 w i15).2) (F_YR_kindOf w (F_T_at w (w 33 2))) (F_T_at ((A_YR_readClause_41 w i15).2) (((A_YR_readClause_41 w i15).2) 33 2)))))), (3, zI ((i15 : Int) + 1))]) (z_lcast (by rw [z_c0 i15]) (ih (zfind_miss hf (by rw [hE]; decide)))) (z_sub_of [0, 1, 2, 3] rfl)
            · skip
              rw [if_pos c125] at ih
              rw [if_pos c125] at hE
              refine z_iconst (pc' := 105) dX7_readClause_104 rfl ?_
              refine z_zret rfl (by decide) dX7_readClause_105 ?_
              have hz := zfind_hit hf hE _ hi
              rw [hz, if_neg (by omega), Int.toNat_natCast] at k
              unfold R_YR_readClause_41 at k
              rw [if_neg c123] at k
              rw [if_neg c124] at k
              rw [if_pos c125] at k
              exact k
          · have h := h.1 c124
            rw [if_pos c124] at ih
            rw [if_pos c124] at hE
            refine z_iconst (pc' := 82) dX7_readClause_81 rfl ?_
            refine z_zret rfl (by decide) dX7_readClause_82 ?_
            have hz := zfind_hit hf hE _ hi
            rw [hz, if_neg (by omega), Int.toNat_natCast] at k
            unfold R_YR_readClause_41 at k
            rw [if_neg c123] at k
            rw [if_pos c124] at k
            exact k
        · have h := h.1 c123
          rw [if_pos c123] at ih
          rw [if_pos c123] at hE
          refine z_iconst (pc' := 70) dX7_readClause_69 rfl ?_
          refine z_zret rfl (by decide) dX7_readClause_70 ?_
          have hz := zfind_hit hf hE _ hi
          rw [hz, if_neg (by omega), Int.toNat_natCast] at k
          unfold R_YR_readClause_41 at k
          rw [if_pos c123] at k
          exact k
    · have h := h.1 c
      rw [if_pos c] at k
      refine z_iconst (pc' := 32) dX7_readClause_31 rfl ?_
      refine z_zret rfl (by decide) dX7_readClause_32 ?_
      exact k
def P_D_scratch (w : z_Wd) (a0 : Int) (a1 : Int) : Prop := (P_Y_hasWell w a0) ∧ ((F_Y_hasWell w a0 = 0 → P_D_refuse w 0 (-2)) ∧ (¬ (F_Y_hasWell w a0 = 0) → (-2147483648 ≤ a1 ∧ a1 < 2147483648) ∧ ((a1 < 1 → P_D_refuse w 1 (-2)) ∧ (¬ (a1 < 1) → (a1 ≤ 9 → (P_K_inside w a0) ∧ (-2147483648 ≤ F_K_inside w a0 ∧ F_K_inside w a0 < 2147483648) ∧ ((F_K_inside w a0 = 0 → P_D_refuse w 2 (-2)) ∧ (¬ (F_K_inside w a0 = 0) → (P_H_keep_41 w) ∧ (P_K_scratchUp (F_H_keep_41 w) a0 a1)))) ∧ (¬ (a1 ≤ 9) → P_D_refuse w 1 (-2))))))
def F_D_scratch (w : z_Wd) (a0 : Int) (a1 : Int) : Int × z_Wd := if F_Y_hasWell w a0 = 0 then ((F_D_refuse w 0 (-2)).1, (F_D_refuse w 0 (-2)).2) else if a1 < 1 then ((F_D_refuse w 1 (-2)).1, (F_D_refuse w 1 (-2)).2) else if a1 ≤ 9 then if F_K_inside w a0 = 0 then ((F_D_refuse w 2 (-2)).1, (F_D_refuse w 2 (-2)).2) else ((F_K_scratchUp (F_H_keep_41 w) a0 a1).1, (F_K_scratchUp (F_H_keep_41 w) a0 a1).2) else ((F_D_refuse w 1 (-2)).1, (F_D_refuse w 1 (-2)).2)
set_option maxRecDepth 4000 in
theorem c_D_scratch {d : Nat} {w : z_Wd} {a0 a1 : Int} {Q : Option z_V → z_Wd → Prop} (h : P_D_scratch w a0 a1) (k : Q (some (zI (F_D_scratch w a0 a1).1)) (F_D_scratch w a0 a1).2) : z_Wc (d + 5) m_X11_scratch [zR 27, zI a0, zI a1] w Q := by
  unfold P_D_scratch at h
  unfold F_D_scratch at k
  refine z_enter rfl (Nat.le_of_ble_eq_true rfl) ?_
  show z_Wp m_X11_scratch _ 0 [(0, zR 27), (1, zI a0), (2, zI a1)] [] w _
  refine z_aload_n (pc' := 1) 0 rfl rfl dX11_scratch_0 rfl ?_
  refine z_getR (t := 30) (pc' := 4) g_X11_19 (by decide) rfl rfl dX11_scratch_1 rfl ?_
  refine z_iload_n (pc' := 5) 1 rfl rfl dX11_scratch_4 rfl ?_
  refine z_invV (as := [zI a0]) (st := []) (C := m_X6_hasWell) (fs := [33, 34]) (pc' := 8) dX11_scratch_5 rfl t_3_111 k_X6_hasWell rfl (by decide) rfl rfl rfl rfl (Nat.le_of_ble_eq_true rfl) ?_
  obtain ⟨r1, h⟩ := h
  refine c_Y_hasWell r1 ?_
  show z_Wp m_X11_scratch _ 8 [(0, zR 27), (1, zI a0), (2, zI a1)] [zI (F_Y_hasWell w a0)] w _
  refine z_if_ne 19 dX11_scratch_8 (by decide) (pc' := 11) rfl (z_rb b_Y_hasWell) (fun c => ?_) (fun c => ?_)
  · have h := h.2 c
    rw [if_neg c] at k
    refine z_iload_n (pc' := 20) 2 rfl rfl dX11_scratch_19 rfl ?_
    refine z_iconst (pc' := 21) dX11_scratch_20 rfl ?_
    obtain ⟨r2, h⟩ := h
    refine z_icmp_lt 30 dX11_scratch_21 (by decide) (pc' := 24) rfl r2 (by decide) (fun c => ?_) (fun c => ?_)
    · have h := h.1 c
      rw [if_pos c] at k
      refine z_aload_n (pc' := 31) 0 rfl rfl dX11_scratch_30 rfl ?_
      refine z_iconst (pc' := 32) dX11_scratch_31 rfl ?_
      refine z_bipush (pc' := 34) (by decide) dX11_scratch_32 rfl ?_
      refine z_invV (as := [zI 1, zI (-2)]) (st := []) (C := m_X11_refuse) (fs := [30, 32, 35, 39, 43, 49, 55, 57, 72, 74, 78, 80, 0, 0, 1]) (pc' := 37) dX11_scratch_34 rfl t_3_179 k_X11_refuse rfl (by decide) rfl rfl rfl rfl (Nat.le_of_ble_eq_true rfl) ?_
      have r3 := h
      refine c_D_refuse r3 ?_
      show z_Wp m_X11_scratch _ 37 [(0, zR 27), (1, zI a0), (2, zI a1)] [zI ((F_D_refuse w 1 (-2)).1)] ((F_D_refuse w 1 (-2)).2) _
      refine z_iret rfl dX11_scratch_37 ?_
      exact k
    · have h := h.2 c
      rw [if_neg c] at k
      refine z_iload_n (pc' := 25) 2 rfl rfl dX11_scratch_24 rfl ?_
      refine z_bipush (pc' := 27) (by decide) dX11_scratch_25 rfl ?_
      refine z_icmp_le 38 dX11_scratch_27 (by decide) (pc' := 30) rfl r2 (by decide) (fun c => ?_) (fun c => ?_)
      · have h := h.1 c
        rw [if_pos c] at k
        refine z_aload_n (pc' := 39) 0 rfl rfl dX11_scratch_38 rfl ?_
        refine z_getR (t := 41) (pc' := 42) g_X11_44 (by decide) rfl rfl dX11_scratch_39 rfl ?_
        refine z_iload_n (pc' := 43) 1 rfl rfl dX11_scratch_42 rfl ?_
        refine z_invV (as := [zI a0]) (st := []) (C := m_X3_inside) (fs := [32, 44, 45, 46, 47, 48, 0, 0, 0]) (pc' := 46) dX11_scratch_43 rfl t_3_138 k_X3_inside rfl (by decide) rfl rfl rfl rfl (Nat.le_of_ble_eq_true rfl) ?_
        obtain ⟨r4, h⟩ := h
        refine c_K_inside r4 ?_
        show z_Wp m_X11_scratch _ 46 [(0, zR 27), (1, zI a0), (2, zI a1)] [zI (F_K_inside w a0)] w _
        obtain ⟨r5, h⟩ := h
        refine z_if_ne 57 dX11_scratch_46 (by decide) (pc' := 49) rfl r5 (fun c => ?_) (fun c => ?_)
        · have h := h.2 c
          rw [if_neg c] at k
          refine z_aload_n (pc' := 58) 0 rfl rfl dX11_scratch_57 rfl ?_
          refine z_getR (t := 53) (pc' := 61) g_X11_54 (by decide) rfl rfl dX11_scratch_58 rfl ?_
          refine z_aload_n (pc' := 62) 0 rfl rfl dX11_scratch_61 rfl ?_
          refine z_getR (t := 41) (pc' := 65) g_X11_44 (by decide) rfl rfl dX11_scratch_62 rfl ?_
          refine z_invV (as := [zR 41]) (st := []) (C := m_X2_keep) (fs := [56, 0, 0]) (pc' := 68) dX11_scratch_65 rfl t_3_210 k_X2_keep rfl (by decide) rfl rfl rfl rfl (Nat.le_of_ble_eq_true rfl) ?_
          obtain ⟨r6, h⟩ := h
          refine c_H_keep_41 r6 ?_
          show z_Wp m_X11_scratch _ 68 [(0, zR 27), (1, zI a0), (2, zI a1)] [] (F_H_keep_41 w) _
          refine z_aload_n (pc' := 69) 0 rfl rfl dX11_scratch_68 rfl ?_
          refine z_getR (t := 41) (pc' := 72) g_X11_44 (by decide) rfl rfl dX11_scratch_69 rfl ?_
          refine z_iload_n (pc' := 73) 1 rfl rfl dX11_scratch_72 rfl ?_
          refine z_iload_n (pc' := 74) 2 rfl rfl dX11_scratch_73 rfl ?_
          refine z_invV (as := [zI a0, zI a1]) (st := []) (C := m_X3_scratchUp) (fs := [32, 44, 45, 46, 47, 48, 0, 0, 0]) (pc' := 77) dX11_scratch_74 rfl t_3_231 k_X3_scratchUp rfl (by decide) rfl rfl rfl rfl (Nat.le_of_ble_eq_true rfl) ?_
          have r7 := h
          refine c_K_scratchUp r7 ?_
          show z_Wp m_X11_scratch _ 77 [(0, zR 27), (1, zI a0), (2, zI a1)] [zI ((F_K_scratchUp (F_H_keep_41 w) a0 a1).1)] ((F_K_scratchUp (F_H_keep_41 w) a0 a1).2) _
          refine z_iret rfl dX11_scratch_77 ?_
          exact k
        · have h := h.1 c
          rw [if_pos c] at k
          refine z_aload_n (pc' := 50) 0 rfl rfl dX11_scratch_49 rfl ?_
          refine z_iconst (pc' := 51) dX11_scratch_50 rfl ?_
          refine z_bipush (pc' := 53) (by decide) dX11_scratch_51 rfl ?_
          refine z_invV (as := [zI 2, zI (-2)]) (st := []) (C := m_X11_refuse) (fs := [30, 32, 35, 39, 43, 49, 55, 57, 72, 74, 78, 80, 0, 0, 1]) (pc' := 56) dX11_scratch_53 rfl t_3_179 k_X11_refuse rfl (by decide) rfl rfl rfl rfl (Nat.le_of_ble_eq_true rfl) ?_
          have r8 := h
          refine c_D_refuse r8 ?_
          show z_Wp m_X11_scratch _ 56 [(0, zR 27), (1, zI a0), (2, zI a1)] [zI ((F_D_refuse w 2 (-2)).1)] ((F_D_refuse w 2 (-2)).2) _
          refine z_iret rfl dX11_scratch_56 ?_
          exact k
      · have h := h.2 c
        rw [if_neg c] at k
        refine z_aload_n (pc' := 31) 0 rfl rfl dX11_scratch_30 rfl ?_
        refine z_iconst (pc' := 32) dX11_scratch_31 rfl ?_
        refine z_bipush (pc' := 34) (by decide) dX11_scratch_32 rfl ?_
        refine z_invV (as := [zI 1, zI (-2)]) (st := []) (C := m_X11_refuse) (fs := [30, 32, 35, 39, 43, 49, 55, 57, 72, 74, 78, 80, 0, 0, 1]) (pc' := 37) dX11_scratch_34 rfl t_3_179 k_X11_refuse rfl (by decide) rfl rfl rfl rfl (Nat.le_of_ble_eq_true rfl) ?_
        have r9 := h
        refine c_D_refuse r9 ?_
        show z_Wp m_X11_scratch _ 37 [(0, zR 27), (1, zI a0), (2, zI a1)] [zI ((F_D_refuse w 1 (-2)).1)] ((F_D_refuse w 1 (-2)).2) _
        refine z_iret rfl dX11_scratch_37 ?_
        exact k
  · have h := h.1 c
    rw [if_pos c] at k
    refine z_aload_n (pc' := 12) 0 rfl rfl dX11_scratch_11 rfl ?_
    refine z_iconst (pc' := 13) dX11_scratch_12 rfl ?_
    refine z_bipush (pc' := 15) (by decide) dX11_scratch_13 rfl ?_
    refine z_invV (as := [zI 0, zI (-2)]) (st := []) (C := m_X11_refuse) (fs := [30, 32, 35, 39, 43, 49, 55, 57, 72, 74, 78, 80, 0, 0, 1]) (pc' := 18) dX11_scratch_15 rfl t_3_179 k_X11_refuse rfl (by decide) rfl rfl rfl rfl (Nat.le_of_ble_eq_true rfl) ?_
    have r10 := h
    refine c_D_refuse r10 ?_
    show z_Wp m_X11_scratch _ 18 [(0, zR 27), (1, zI a0), (2, zI a1)] [zI ((F_D_refuse w 0 (-2)).1)] ((F_D_refuse w 0 (-2)).2) _
    refine z_iret rfl dX11_scratch_18 ?_
    exact k
def P_D_blot (w : z_Wd) (a0 : Int) : Prop := (P_Y_hasWell w a0) ∧ ((F_Y_hasWell w a0 = 0 → P_D_refuse w 0 (-2)) ∧ (¬ (F_Y_hasWell w a0 = 0) → (P_K_inside w a0) ∧ (-2147483648 ≤ F_K_inside w a0 ∧ F_K_inside w a0 < 2147483648) ∧ ((F_K_inside w a0 = 0 → P_D_refuse w 2 (-2)) ∧ (¬ (F_K_inside w a0 = 0) → (-2147483648 ≤ w 41 6 ∧ w 41 6 < 2147483648) ∧ ((w 41 6 ≥ 2 → (P_H_keep_41 w) ∧ (P_K_liftUppermost (F_K_pay (F_H_keep_41 w) 2) a0)) ∧ (¬ (w 41 6 ≥ 2) → P_D_refuse w 4 (-2)))))))
def F_D_blot (w : z_Wd) (a0 : Int) : Int × z_Wd := if F_Y_hasWell w a0 = 0 then ((F_D_refuse w 0 (-2)).1, (F_D_refuse w 0 (-2)).2) else if F_K_inside w a0 = 0 then ((F_D_refuse w 2 (-2)).1, (F_D_refuse w 2 (-2)).2) else if w 41 6 ≥ 2 then ((F_K_liftUppermost (F_K_pay (F_H_keep_41 w) 2) a0).1, (F_K_liftUppermost (F_K_pay (F_H_keep_41 w) 2) a0).2) else ((F_D_refuse w 4 (-2)).1, (F_D_refuse w 4 (-2)).2)
set_option maxRecDepth 4000 in
theorem c_D_blot {d : Nat} {w : z_Wd} {a0 : Int} {Q : Option z_V → z_Wd → Prop} (h : P_D_blot w a0) (k : Q (some (zI (F_D_blot w a0).1)) (F_D_blot w a0).2) : z_Wc (d + 5) m_X11_blot [zR 27, zI a0] w Q := by
  unfold P_D_blot at h
  unfold F_D_blot at k
  refine z_enter rfl (Nat.le_of_ble_eq_true rfl) ?_
  show z_Wp m_X11_blot _ 0 [(0, zR 27), (1, zI a0)] [] w _
  refine z_aload_n (pc' := 1) 0 rfl rfl dX11_blot_0 rfl ?_
  refine z_getR (t := 30) (pc' := 4) g_X11_19 (by decide) rfl rfl dX11_blot_1 rfl ?_
  refine z_iload_n (pc' := 5) 1 rfl rfl dX11_blot_4 rfl ?_
  refine z_invV (as := [zI a0]) (st := []) (C := m_X6_hasWell) (fs := [33, 34]) (pc' := 8) dX11_blot_5 rfl t_3_111 k_X6_hasWell rfl (by decide) rfl rfl rfl rfl (Nat.le_of_ble_eq_true rfl) ?_
  obtain ⟨r1, h⟩ := h
  refine c_Y_hasWell r1 ?_
  show z_Wp m_X11_blot _ 8 [(0, zR 27), (1, zI a0)] [zI (F_Y_hasWell w a0)] w _
  refine z_if_ne 19 dX11_blot_8 (by decide) (pc' := 11) rfl (z_rb b_Y_hasWell) (fun c => ?_) (fun c => ?_)
  · have h := h.2 c
    rw [if_neg c] at k
    refine z_aload_n (pc' := 20) 0 rfl rfl dX11_blot_19 rfl ?_
    refine z_getR (t := 41) (pc' := 23) g_X11_44 (by decide) rfl rfl dX11_blot_20 rfl ?_
    refine z_iload_n (pc' := 24) 1 rfl rfl dX11_blot_23 rfl ?_
    refine z_invV (as := [zI a0]) (st := []) (C := m_X3_inside) (fs := [32, 44, 45, 46, 47, 48, 0, 0, 0]) (pc' := 27) dX11_blot_24 rfl t_3_138 k_X3_inside rfl (by decide) rfl rfl rfl rfl (Nat.le_of_ble_eq_true rfl) ?_
    obtain ⟨r2, h⟩ := h
    refine c_K_inside r2 ?_
    show z_Wp m_X11_blot _ 27 [(0, zR 27), (1, zI a0)] [zI (F_K_inside w a0)] w _
    obtain ⟨r3, h⟩ := h
    refine z_if_ne 38 dX11_blot_27 (by decide) (pc' := 30) rfl r3 (fun c => ?_) (fun c => ?_)
    · have h := h.2 c
      rw [if_neg c] at k
      refine z_aload_n (pc' := 39) 0 rfl rfl dX11_blot_38 rfl ?_
      refine z_getR (t := 41) (pc' := 42) g_X11_44 (by decide) rfl rfl dX11_blot_39 rfl ?_
      refine z_invV (as := []) (st := []) (C := m_X3_coins) (fs := [32, 44, 45, 46, 47, 48, 0, 0, 0]) (pc' := 45) dX11_blot_42 rfl t_3_103 k_X3_coins rfl (by decide) rfl rfl rfl rfl (Nat.le_of_ble_eq_true rfl) ?_
      refine c_K_coins ?_
      show z_Wp m_X11_blot _ 45 [(0, zR 27), (1, zI a0)] [zI (w 41 6)] w _
      refine z_iconst (pc' := 46) dX11_blot_45 rfl ?_
      obtain ⟨r4, h⟩ := h
      refine z_icmp_ge 57 dX11_blot_46 (by decide) (pc' := 49) rfl r4 (by decide) (fun c => ?_) (fun c => ?_)
      · have h := h.1 c
        rw [if_pos c] at k
        refine z_aload_n (pc' := 58) 0 rfl rfl dX11_blot_57 rfl ?_
        refine z_getR (t := 53) (pc' := 61) g_X11_54 (by decide) rfl rfl dX11_blot_58 rfl ?_
        refine z_aload_n (pc' := 62) 0 rfl rfl dX11_blot_61 rfl ?_
        refine z_getR (t := 41) (pc' := 65) g_X11_44 (by decide) rfl rfl dX11_blot_62 rfl ?_
        refine z_invV (as := [zR 41]) (st := []) (C := m_X2_keep) (fs := [56, 0, 0]) (pc' := 68) dX11_blot_65 rfl t_3_210 k_X2_keep rfl (by decide) rfl rfl rfl rfl (Nat.le_of_ble_eq_true rfl) ?_
        obtain ⟨r5, h⟩ := h
        refine c_H_keep_41 r5 ?_
        show z_Wp m_X11_blot _ 68 [(0, zR 27), (1, zI a0)] [] (F_H_keep_41 w) _
        refine z_aload_n (pc' := 69) 0 rfl rfl dX11_blot_68 rfl ?_
        refine z_getR (t := 41) (pc' := 72) g_X11_44 (by decide) rfl rfl dX11_blot_69 rfl ?_
        refine z_iconst (pc' := 73) dX11_blot_72 rfl ?_
        refine z_invV (as := [zI 2]) (st := []) (C := m_X3_pay) (fs := [32, 44, 45, 46, 47, 48, 0, 0, 0]) (pc' := 76) dX11_blot_73 rfl t_4_17 k_X3_pay rfl (by decide) rfl rfl rfl rfl (Nat.le_of_ble_eq_true rfl) ?_
        refine c_K_pay ?_
        show z_Wp m_X11_blot _ 76 [(0, zR 27), (1, zI a0)] [] (F_K_pay (F_H_keep_41 w) 2) _
        refine z_aload_n (pc' := 77) 0 rfl rfl dX11_blot_76 rfl ?_
        refine z_getR (t := 41) (pc' := 80) g_X11_44 (by decide) rfl rfl dX11_blot_77 rfl ?_
        refine z_iload_n (pc' := 81) 1 rfl rfl dX11_blot_80 rfl ?_
        refine z_invV (as := [zI a0]) (st := []) (C := m_X3_liftUppermost) (fs := [32, 44, 45, 46, 47, 48, 0, 0, 0]) (pc' := 84) dX11_blot_81 rfl t_4_21 k_X3_liftUppermost rfl (by decide) rfl rfl rfl rfl (Nat.le_of_ble_eq_true rfl) ?_
        have r6 := h
        refine c_K_liftUppermost r6 ?_
        show z_Wp m_X11_blot _ 84 [(0, zR 27), (1, zI a0)] [zI ((F_K_liftUppermost (F_K_pay (F_H_keep_41 w) 2) a0).1)] ((F_K_liftUppermost (F_K_pay (F_H_keep_41 w) 2) a0).2) _
        refine z_iret rfl dX11_blot_84 ?_
        exact k
      · have h := h.2 c
        rw [if_neg c] at k
        refine z_aload_n (pc' := 50) 0 rfl rfl dX11_blot_49 rfl ?_
        refine z_iconst (pc' := 51) dX11_blot_50 rfl ?_
        refine z_bipush (pc' := 53) (by decide) dX11_blot_51 rfl ?_
        refine z_invV (as := [zI 4, zI (-2)]) (st := []) (C := m_X11_refuse) (fs := [30, 32, 35, 39, 43, 49, 55, 57, 72, 74, 78, 80, 0, 0, 1]) (pc' := 56) dX11_blot_53 rfl t_3_179 k_X11_refuse rfl (by decide) rfl rfl rfl rfl (Nat.le_of_ble_eq_true rfl) ?_
        have r7 := h
        refine c_D_refuse r7 ?_
        show z_Wp m_X11_blot _ 56 [(0, zR 27), (1, zI a0)] [zI ((F_D_refuse w 4 (-2)).1)] ((F_D_refuse w 4 (-2)).2) _
        refine z_iret rfl dX11_blot_56 ?_
        exact k
    · have h := h.1 c
      rw [if_pos c] at k
      refine z_aload_n (pc' := 31) 0 rfl rfl dX11_blot_30 rfl ?_
      refine z_iconst (pc' := 32) dX11_blot_31 rfl ?_
      refine z_bipush (pc' := 34) (by decide) dX11_blot_32 rfl ?_
      refine z_invV (as := [zI 2, zI (-2)]) (st := []) (C := m_X11_refuse) (fs := [30, 32, 35, 39, 43, 49, 55, 57, 72, 74, 78, 80, 0, 0, 1]) (pc' := 37) dX11_blot_34 rfl t_3_179 k_X11_refuse rfl (by decide) rfl rfl rfl rfl (Nat.le_of_ble_eq_true rfl) ?_
      have r8 := h
      refine c_D_refuse r8 ?_
      show z_Wp m_X11_blot _ 37 [(0, zR 27), (1, zI a0)] [zI ((F_D_refuse w 2 (-2)).1)] ((F_D_refuse w 2 (-2)).2) _
      refine z_iret rfl dX11_blot_37 ?_
      exact k
  · have h := h.1 c
    rw [if_pos c] at k
    refine z_aload_n (pc' := 12) 0 rfl rfl dX11_blot_11 rfl ?_
    refine z_iconst (pc' := 13) dX11_blot_12 rfl ?_
    refine z_bipush (pc' := 15) (by decide) dX11_blot_13 rfl ?_
    refine z_invV (as := [zI 0, zI (-2)]) (st := []) (C := m_X11_refuse) (fs := [30, 32, 35, 39, 43, 49, 55, 57, 72, 74, 78, 80, 0, 0, 1]) (pc' := 18) dX11_blot_15 rfl t_3_179 k_X11_refuse rfl (by decide) rfl rfl rfl rfl (Nat.le_of_ble_eq_true rfl) ?_
    have r9 := h
    refine c_D_refuse r9 ?_
    show z_Wp m_X11_blot _ 18 [(0, zR 27), (1, zI a0)] [zI ((F_D_refuse w 0 (-2)).1)] ((F_D_refuse w 0 (-2)).2) _
    refine z_iret rfl dX11_blot_18 ?_
    exact k
def P_D_water (w : z_Wd) (a0 : Int) : Prop := (P_Y_hasWell w a0) ∧ ((F_Y_hasWell w a0 = 0 → P_D_refuse w 0 (-1)) ∧ (¬ (F_Y_hasWell w a0 = 0) → (P_K_inside w a0) ∧ (-2147483648 ≤ F_K_inside w a0 ∧ F_K_inside w a0 < 2147483648) ∧ ((F_K_inside w a0 = 0 → P_D_refuse w 2 (-1)) ∧ (¬ (F_K_inside w a0 = 0) → (-2147483648 ≤ w 41 6 ∧ w 41 6 < 2147483648) ∧ ((w 41 6 ≥ 5 → (P_H_keep_41 w) ∧ (P_K_liftAll (F_K_pay (F_H_keep_41 w) 5) a0)) ∧ (¬ (w 41 6 ≥ 5) → P_D_refuse w 4 (-1)))))))
def F_D_water (w : z_Wd) (a0 : Int) : Int × z_Wd := if F_Y_hasWell w a0 = 0 then ((F_D_refuse w 0 (-1)).1, (F_D_refuse w 0 (-1)).2) else if F_K_inside w a0 = 0 then ((F_D_refuse w 2 (-1)).1, (F_D_refuse w 2 (-1)).2) else if w 41 6 ≥ 5 then ((F_K_liftAll (F_K_pay (F_H_keep_41 w) 5) a0).1, (F_K_liftAll (F_K_pay (F_H_keep_41 w) 5) a0).2) else ((F_D_refuse w 4 (-1)).1, (F_D_refuse w 4 (-1)).2)
set_option maxRecDepth 4000 in
theorem c_D_water {d : Nat} {w : z_Wd} {a0 : Int} {Q : Option z_V → z_Wd → Prop} (h : P_D_water w a0) (k : Q (some (zI (F_D_water w a0).1)) (F_D_water w a0).2) : z_Wc (d + 5) m_X11_water [zR 27, zI a0] w Q := by
  unfold P_D_water at h
  unfold F_D_water at k
  refine z_enter rfl (Nat.le_of_ble_eq_true rfl) ?_
  show z_Wp m_X11_water _ 0 [(0, zR 27), (1, zI a0)] [] w _
  refine z_aload_n (pc' := 1) 0 rfl rfl dX11_water_0 rfl ?_
  refine z_getR (t := 30) (pc' := 4) g_X11_19 (by decide) rfl rfl dX11_water_1 rfl ?_
  refine z_iload_n (pc' := 5) 1 rfl rfl dX11_water_4 rfl ?_
  refine z_invV (as := [zI a0]) (st := []) (C := m_X6_hasWell) (fs := [33, 34]) (pc' := 8) dX11_water_5 rfl t_3_111 k_X6_hasWell rfl (by decide) rfl rfl rfl rfl (Nat.le_of_ble_eq_true rfl) ?_
  obtain ⟨r1, h⟩ := h
  refine c_Y_hasWell r1 ?_
  show z_Wp m_X11_water _ 8 [(0, zR 27), (1, zI a0)] [zI (F_Y_hasWell w a0)] w _
  refine z_if_ne 18 dX11_water_8 (by decide) (pc' := 11) rfl (z_rb b_Y_hasWell) (fun c => ?_) (fun c => ?_)
  · have h := h.2 c
    rw [if_neg c] at k
    refine z_aload_n (pc' := 19) 0 rfl rfl dX11_water_18 rfl ?_
    refine z_getR (t := 41) (pc' := 22) g_X11_44 (by decide) rfl rfl dX11_water_19 rfl ?_
    refine z_iload_n (pc' := 23) 1 rfl rfl dX11_water_22 rfl ?_
    refine z_invV (as := [zI a0]) (st := []) (C := m_X3_inside) (fs := [32, 44, 45, 46, 47, 48, 0, 0, 0]) (pc' := 26) dX11_water_23 rfl t_3_138 k_X3_inside rfl (by decide) rfl rfl rfl rfl (Nat.le_of_ble_eq_true rfl) ?_
    obtain ⟨r2, h⟩ := h
    refine c_K_inside r2 ?_
    show z_Wp m_X11_water _ 26 [(0, zR 27), (1, zI a0)] [zI (F_K_inside w a0)] w _
    obtain ⟨r3, h⟩ := h
    refine z_if_ne 36 dX11_water_26 (by decide) (pc' := 29) rfl r3 (fun c => ?_) (fun c => ?_)
    · have h := h.2 c
      rw [if_neg c] at k
      refine z_aload_n (pc' := 37) 0 rfl rfl dX11_water_36 rfl ?_
      refine z_getR (t := 41) (pc' := 40) g_X11_44 (by decide) rfl rfl dX11_water_37 rfl ?_
      refine z_invV (as := []) (st := []) (C := m_X3_coins) (fs := [32, 44, 45, 46, 47, 48, 0, 0, 0]) (pc' := 43) dX11_water_40 rfl t_3_103 k_X3_coins rfl (by decide) rfl rfl rfl rfl (Nat.le_of_ble_eq_true rfl) ?_
      refine c_K_coins ?_
      show z_Wp m_X11_water _ 43 [(0, zR 27), (1, zI a0)] [zI (w 41 6)] w _
      refine z_iconst (pc' := 44) dX11_water_43 rfl ?_
      obtain ⟨r4, h⟩ := h
      refine z_icmp_ge 54 dX11_water_44 (by decide) (pc' := 47) rfl r4 (by decide) (fun c => ?_) (fun c => ?_)
      · have h := h.1 c
        rw [if_pos c] at k
        refine z_aload_n (pc' := 55) 0 rfl rfl dX11_water_54 rfl ?_
        refine z_getR (t := 53) (pc' := 58) g_X11_54 (by decide) rfl rfl dX11_water_55 rfl ?_
        refine z_aload_n (pc' := 59) 0 rfl rfl dX11_water_58 rfl ?_
        refine z_getR (t := 41) (pc' := 62) g_X11_44 (by decide) rfl rfl dX11_water_59 rfl ?_
        refine z_invV (as := [zR 41]) (st := []) (C := m_X2_keep) (fs := [56, 0, 0]) (pc' := 65) dX11_water_62 rfl t_3_210 k_X2_keep rfl (by decide) rfl rfl rfl rfl (Nat.le_of_ble_eq_true rfl) ?_
        obtain ⟨r5, h⟩ := h
        refine c_H_keep_41 r5 ?_
        show z_Wp m_X11_water _ 65 [(0, zR 27), (1, zI a0)] [] (F_H_keep_41 w) _
        refine z_aload_n (pc' := 66) 0 rfl rfl dX11_water_65 rfl ?_
        refine z_getR (t := 41) (pc' := 69) g_X11_44 (by decide) rfl rfl dX11_water_66 rfl ?_
        refine z_iconst (pc' := 70) dX11_water_69 rfl ?_
        refine z_invV (as := [zI 5]) (st := []) (C := m_X3_pay) (fs := [32, 44, 45, 46, 47, 48, 0, 0, 0]) (pc' := 73) dX11_water_70 rfl t_4_17 k_X3_pay rfl (by decide) rfl rfl rfl rfl (Nat.le_of_ble_eq_true rfl) ?_
        refine c_K_pay ?_
        show z_Wp m_X11_water _ 73 [(0, zR 27), (1, zI a0)] [] (F_K_pay (F_H_keep_41 w) 5) _
        refine z_aload_n (pc' := 74) 0 rfl rfl dX11_water_73 rfl ?_
        refine z_getR (t := 41) (pc' := 77) g_X11_44 (by decide) rfl rfl dX11_water_74 rfl ?_
        refine z_iload_n (pc' := 78) 1 rfl rfl dX11_water_77 rfl ?_
        refine z_invV (as := [zI a0]) (st := []) (C := m_X3_liftAll) (fs := [32, 44, 45, 46, 47, 48, 0, 0, 0]) (pc' := 81) dX11_water_78 rfl t_4_33 k_X3_liftAll rfl (by decide) rfl rfl rfl rfl (Nat.le_of_ble_eq_true rfl) ?_
        have r6 := h
        refine c_K_liftAll r6 ?_
        show z_Wp m_X11_water _ 81 [(0, zR 27), (1, zI a0)] [zI ((F_K_liftAll (F_K_pay (F_H_keep_41 w) 5) a0).1)] ((F_K_liftAll (F_K_pay (F_H_keep_41 w) 5) a0).2) _
        refine z_iret rfl dX11_water_81 ?_
        exact k
      · have h := h.2 c
        rw [if_neg c] at k
        refine z_aload_n (pc' := 48) 0 rfl rfl dX11_water_47 rfl ?_
        refine z_iconst (pc' := 49) dX11_water_48 rfl ?_
        refine z_iconst (pc' := 50) dX11_water_49 rfl ?_
        refine z_invV (as := [zI 4, zI (-1)]) (st := []) (C := m_X11_refuse) (fs := [30, 32, 35, 39, 43, 49, 55, 57, 72, 74, 78, 80, 0, 0, 1]) (pc' := 53) dX11_water_50 rfl t_3_179 k_X11_refuse rfl (by decide) rfl rfl rfl rfl (Nat.le_of_ble_eq_true rfl) ?_
        have r7 := h
        refine c_D_refuse r7 ?_
        show z_Wp m_X11_water _ 53 [(0, zR 27), (1, zI a0)] [zI ((F_D_refuse w 4 (-1)).1)] ((F_D_refuse w 4 (-1)).2) _
        refine z_iret rfl dX11_water_53 ?_
        exact k
    · have h := h.1 c
      rw [if_pos c] at k
      refine z_aload_n (pc' := 30) 0 rfl rfl dX11_water_29 rfl ?_
      refine z_iconst (pc' := 31) dX11_water_30 rfl ?_
      refine z_iconst (pc' := 32) dX11_water_31 rfl ?_
      refine z_invV (as := [zI 2, zI (-1)]) (st := []) (C := m_X11_refuse) (fs := [30, 32, 35, 39, 43, 49, 55, 57, 72, 74, 78, 80, 0, 0, 1]) (pc' := 35) dX11_water_32 rfl t_3_179 k_X11_refuse rfl (by decide) rfl rfl rfl rfl (Nat.le_of_ble_eq_true rfl) ?_
      have r8 := h
      refine c_D_refuse r8 ?_
      show z_Wp m_X11_water _ 35 [(0, zR 27), (1, zI a0)] [zI ((F_D_refuse w 2 (-1)).1)] ((F_D_refuse w 2 (-1)).2) _
      refine z_iret rfl dX11_water_35 ?_
      exact k
  · have h := h.1 c
    rw [if_pos c] at k
    refine z_aload_n (pc' := 12) 0 rfl rfl dX11_water_11 rfl ?_
    refine z_iconst (pc' := 13) dX11_water_12 rfl ?_
    refine z_iconst (pc' := 14) dX11_water_13 rfl ?_
    refine z_invV (as := [zI 0, zI (-1)]) (st := []) (C := m_X11_refuse) (fs := [30, 32, 35, 39, 43, 49, 55, 57, 72, 74, 78, 80, 0, 0, 1]) (pc' := 17) dX11_water_14 rfl t_3_179 k_X11_refuse rfl (by decide) rfl rfl rfl rfl (Nat.le_of_ble_eq_true rfl) ?_
    have r9 := h
    refine c_D_refuse r9 ?_
    show z_Wp m_X11_water _ 17 [(0, zR 27), (1, zI a0)] [zI ((F_D_refuse w 0 (-1)).1)] ((F_D_refuse w 0 (-1)).2) _
    refine z_iret rfl dX11_water_17 ?_
    exact k
