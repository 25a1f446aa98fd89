def P_LR_readClause (w : z_Wd)  : Prop := (P_LR_take w 121) ∧ (-2147483648 ≤ (F_LR_take w 121).1 ∧ (F_LR_take w 121).1 < 2147483648) ∧ (((F_LR_take w 121).1 = 0 → True) ∧ (¬ ((F_LR_take w 121).1 = 0) → (P_LR_take ((F_LR_take w 121).2) 58) ∧ (-2147483648 ≤ (F_LR_take ((F_LR_take w 121).2) 58).1 ∧ (F_LR_take ((F_LR_take w 121).2) 58).1 < 2147483648) ∧ (((F_LR_take ((F_LR_take w 121).2) 58).1 = 0 → True) ∧ (¬ ((F_LR_take ((F_LR_take w 121).2) 58).1 = 0) → (P_T_at ((F_LR_take ((F_LR_take w 121).2) 58).2) (((F_LR_take ((F_LR_take w 121).2) 58).2) 37 2)) ∧ (-2147483648 ≤ F_T_at ((F_LR_take ((F_LR_take w 121).2) 58).2) (((F_LR_take ((F_LR_take w 121).2) 58).2) 37 2) ∧ F_T_at ((F_LR_take ((F_LR_take w 121).2) 58).2) (((F_LR_take ((F_LR_take w 121).2) 58).2) 37 2) < 2147483648) ∧ ((F_T_at ((F_LR_take ((F_LR_take w 121).2) 58).2) (((F_LR_take ((F_LR_take w 121).2) 58).2) 37 2) = 33 → (P_LR_readCondition ((F_LR_take ((F_LR_take w 121).2) 58).2) 0 0) ∧ (-2147483648 ≤ (F_LR_readCondition ((F_LR_take ((F_LR_take w 121).2) 58).2) 0 0).1 ∧ (F_LR_readCondition ((F_LR_take ((F_LR_take w 121).2) 58).2) 0 0).1 < 2147483648) ∧ (((F_LR_readCondition ((F_LR_take ((F_LR_take w 121).2) 58).2) 0 0).1 = 0 → True) ∧ (¬ ((F_LR_readCondition ((F_LR_take ((F_LR_take w 121).2) 58).2) 0 0).1 = 0) → (P_LR_take ((F_LR_readCondition ((F_LR_take ((F_LR_take w 121).2) 58).2) 0 0).2) 63) ∧ (-2147483648 ≤ (F_LR_take ((F_LR_readCondition ((F_LR_take ((F_LR_take w 121).2) 58).2) 0 0).2) 63).1 ∧ (F_LR_take ((F_LR_readCondition ((F_LR_take ((F_LR_take w 121).2) 58).2) 0 0).2) 63).1 < 2147483648) ∧ (((F_LR_take ((F_LR_readCondition ((F_LR_take ((F_LR_take w 121).2) 58).2) 0 0).2) 63).1 = 0 → True) ∧ (¬ ((F_LR_take ((F_LR_readCondition ((F_LR_take ((F_LR_take w 121).2) 58).2) 0 0).2) 63).1 = 0) → (P_W_add ((F_LR_take ((F_LR_readCondition ((F_LR_take ((F_LR_take w 121).2) 58).2) 0 0).2) 63).2) 3 0) ∧ (P_LR_readSum (F_W_add ((F_LR_take ((F_LR_readCondition ((F_LR_take ((F_LR_take w 121).2) 58).2) 0 0).2) 63).2) 3 0) 0) ∧ (-2147483648 ≤ (F_LR_readSum (F_W_add ((F_LR_take ((F_LR_readCondition ((F_LR_take ((F_LR_take w 121).2) 58).2) 0 0).2) 63).2) 3 0) 0).1 ∧ (F_LR_readSum (F_W_add ((F_LR_take ((F_LR_readCondition ((F_LR_take ((F_LR_take w 121).2) 58).2) 0 0).2) 63).2) 3 0) 0).1 < 2147483648) ∧ (((F_LR_readSum (F_W_add ((F_LR_take ((F_LR_readCondition ((F_LR_take ((F_LR_take w 121).2) 58).2) 0 0).2) 63).2) 3 0) 0).1 = 0 → True) ∧ (¬ ((F_LR_readSum (F_W_add ((F_LR_take ((F_LR_readCondition ((F_LR_take ((F_LR_take w 121).2) 58).2) 0 0).2) 63).2) 3 0) 0).1 = 0) → (P_W_add ((F_LR_readSum (F_W_add ((F_LR_take ((F_LR_readCondition ((F_LR_take ((F_LR_take w 121).2) 58).2) 0 0).2) 63).2) 3 0) 0).2) 2 0) ∧ (P_W_goOnHere (F_W_add ((F_LR_readSum (F_W_add ((F_LR_take ((F_LR_readCondition ((F_LR_take ((F_LR_take w 121).2) 58).2) 0 0).2) 63).2) 3 0) 0).2) 2 0) (((F_LR_take ((F_LR_readCondition ((F_LR_take ((F_LR_take w 121).2) 58).2) 0 0).2) 63).2) 38 2))))))))) ∧ (¬ (F_T_at ((F_LR_take ((F_LR_take w 121).2) 58).2) (((F_LR_take ((F_LR_take w 121).2) 58).2) 37 2) = 33) → (F_T_at ((F_LR_take ((F_LR_take w 121).2) 58).2) (((F_LR_take ((F_LR_take w 121).2) 58).2) 37 2) = 40 → (P_LR_readCondition ((F_LR_take ((F_LR_take w 121).2) 58).2) 0 0) ∧ (-2147483648 ≤ (F_LR_readCondition ((F_LR_take ((F_LR_take w 121).2) 58).2) 0 0).1 ∧ (F_LR_readCondition ((F_LR_take ((F_LR_take w 121).2) 58).2) 0 0).1 < 2147483648) ∧ (((F_LR_readCondition ((F_LR_take ((F_LR_take w 121).2) 58).2) 0 0).1 = 0 → True) ∧ (¬ ((F_LR_readCondition ((F_LR_take ((F_LR_take w 121).2) 58).2) 0 0).1 = 0) → (P_LR_take ((F_LR_readCondition ((F_LR_take ((F_LR_take w 121).2) 58).2) 0 0).2) 63) ∧ (-2147483648 ≤ (F_LR_take ((F_LR_readCondition ((F_LR_take ((F_LR_take w 121).2) 58).2) 0 0).2) 63).1 ∧ (F_LR_take ((F_LR_readCondition ((F_LR_take ((F_LR_take w 121).2) 58).2) 0 0).2) 63).1 < 2147483648) ∧ (((F_LR_take ((F_LR_readCondition ((F_LR_take ((F_LR_take w 121).2) 58).2) 0 0).2) 63).1 = 0 → True) ∧ (¬ ((F_LR_take ((F_LR_readCondition ((F_LR_take ((F_LR_take w 121).2) 58).2) 0 0).2) 63).1 = 0) → (P_W_add ((F_LR_take ((F_LR_readCondition ((F_LR_take ((F_LR_take w 121).2) 58).2) 0 0).2) 63).2) 3 0) ∧ (P_LR_readSum (F_W_add ((F_LR_take ((F_LR_readCondition ((F_LR_take ((F_LR_take w 121).2) 58).2) 0 0).2) 63).2) 3 0) 0) ∧ (-2147483648 ≤ (F_LR_readSum (F_W_add ((F_LR_take ((F_LR_readCondition ((F_LR_take ((F_LR_take w 121).2) 58).2) 0 0).2) 63).2) 3 0) 0).1 ∧ (F_LR_readSum (F_W_add ((F_LR_take ((F_LR_readCondition ((F_LR_take ((F_LR_take w 121).2) 58).2) 0 0).2) 63).2) 3 0) 0).1 < 2147483648) ∧ (((F_LR_readSum (F_W_add ((F_LR_take ((F_LR_readCondition ((F_LR_take ((F_LR_take w 121).2) 58).2) 0 0).2) 63).2) 3 0) 0).1 = 0 → True) ∧ (¬ ((F_LR_readSum (F_W_add ((F_LR_take ((F_LR_readCondition ((F_LR_take ((F_LR_take w 121).2) 58).2) 0 0).2) 63).2) 3 0) 0).1 = 0) → (P_W_add ((F_LR_readSum (F_W_add ((F_LR_take ((F_LR_readCondition ((F_LR_take ((F_LR_take w 121).2) 58).2) 0 0).2) 63).2) 3 0) 0).2) 2 0) ∧ (P_W_goOnHere (F_W_add ((F_LR_readSum (F_W_add ((F_LR_take ((F_LR_readCondition ((F_LR_take ((F_LR_take w 121).2) 58).2) 0 0).2) 63).2) 3 0) 0).2) 2 0) (((F_LR_take ((F_LR_readCondition ((F_LR_take ((F_LR_take w 121).2) 58).2) 0 0).2) 63).2) 38 2))))))))) ∧ (¬ (F_T_at ((F_LR_take ((F_LR_take w 121).2) 58).2) (((F_LR_take ((F_LR_take w 121).2) 58).2) 37 2) = 40) → (P_LR_readSum ((F_LR_take ((F_LR_take w 121).2) 58).2) 0) ∧ (-2147483648 ≤ (F_LR_readSum ((F_LR_take ((F_LR_take w 121).2) 58).2) 0).1 ∧ (F_LR_readSum ((F_LR_take ((F_LR_take w 121).2) 58).2) 0).1 < 2147483648) ∧ (((F_LR_readSum ((F_LR_take ((F_LR_take w 121).2) 58).2) 0).1 = 0 → True) ∧ (¬ ((F_LR_readSum ((F_LR_take ((F_LR_take w 121).2) 58).2) 0).1 = 0) → (P_T_at ((F_LR_readSum ((F_LR_take ((F_LR_take w 121).2) 58).2) 0).2) (((F_LR_readSum ((F_LR_take ((F_LR_take w 121).2) 58).2) 0).2) 37 2)) ∧ (P_LR_isComparison ((F_LR_readSum ((F_LR_take ((F_LR_take w 121).2) 58).2) 0).2) (F_T_at ((F_LR_readSum ((F_LR_take ((F_LR_take w 121).2) 58).2) 0).2) (((F_LR_readSum ((F_LR_take ((F_LR_take w 121).2) 58).2) 0).2) 37 2))) ∧ ((F_LR_isComparison ((F_LR_readSum ((F_LR_take ((F_LR_take w 121).2) 58).2) 0).2) (F_T_at ((F_LR_readSum ((F_LR_take ((F_LR_take w 121).2) 58).2) 0).2) (((F_LR_readSum ((F_LR_take ((F_LR_take w 121).2) 58).2) 0).2) 37 2)) = 0 → (P_W_add ((F_LR_readSum ((F_LR_take ((F_LR_take w 121).2) 58).2) 0).2) 2 0) ∧ (P_W_goOnHere (F_W_add ((F_LR_readSum ((F_LR_take ((F_LR_take w 121).2) 58).2) 0).2) 2 0) (-1))) ∧ (¬ (F_LR_isComparison ((F_LR_readSum ((F_LR_take ((F_LR_take w 121).2) 58).2) 0).2) (F_T_at ((F_LR_readSum ((F_LR_take ((F_LR_take w 121).2) 58).2) 0).2) (((F_LR_readSum ((F_LR_take ((F_LR_take w 121).2) 58).2) 0).2) 37 2)) = 0) → (P_LR_readCondition ((F_LR_readSum ((F_LR_take ((F_LR_take w 121).2) 58).2) 0).2) 0 1) ∧ (-2147483648 ≤ (F_LR_readCondition ((F_LR_readSum ((F_LR_take ((F_LR_take w 121).2) 58).2) 0).2) 0 1).1 ∧ (F_LR_readCondition ((F_LR_readSum ((F_LR_take ((F_LR_take w 121).2) 58).2) 0).2) 0 1).1 < 2147483648) ∧ (((F_LR_readCondition ((F_LR_readSum ((F_LR_take ((F_LR_take w 121).2) 58).2) 0).2) 0 1).1 = 0 → True) ∧ (¬ ((F_LR_readCondition ((F_LR_readSum ((F_LR_take ((F_LR_take w 121).2) 58).2) 0).2) 0 1).1 = 0) → (P_LR_take ((F_LR_readCondition ((F_LR_readSum ((F_LR_take ((F_LR_take w 121).2) 58).2) 0).2) 0 1).2) 63) ∧ (-2147483648 ≤ (F_LR_take ((F_LR_readCondition ((F_LR_readSum ((F_LR_take ((F_LR_take w 121).2) 58).2) 0).2) 0 1).2) 63).1 ∧ (F_LR_take ((F_LR_readCondition ((F_LR_readSum ((F_LR_take ((F_LR_take w 121).2) 58).2) 0).2) 0 1).2) 63).1 < 2147483648) ∧ (((F_LR_take ((F_LR_readCondition ((F_LR_readSum ((F_LR_take ((F_LR_take w 121).2) 58).2) 0).2) 0 1).2) 63).1 = 0 → True) ∧ (¬ ((F_LR_take ((F_LR_readCondition ((F_LR_readSum ((F_LR_take ((F_LR_take w 121).2) 58).2) 0).2) 0 1).2) 63).1 = 0) → (P_W_add ((F_LR_take ((F_LR_readCondition ((F_LR_readSum ((F_LR_take ((F_LR_take w 121).2) 58).2) 0).2) 0 1).2) 63).2) 3 0) ∧ (P_LR_readSum (F_W_add ((F_LR_take ((F_LR_readCondition ((F_LR_readSum ((F_LR_take ((F_LR_take w 121).2) 58).2) 0).2) 0 1).2) 63).2) 3 0) 0) ∧ (-2147483648 ≤ (F_LR_readSum (F_W_add ((F_LR_take ((F_LR_readCondition ((F_LR_readSum ((F_LR_take ((F_LR_take w 121).2) 58).2) 0).2) 0 1).2) 63).2) 3 0) 0).1 ∧ (F_LR_readSum (F_W_add ((F_LR_take ((F_LR_readCondition ((F_LR_readSum ((F_LR_take ((F_LR_take w 121).2) 58).2) 0).2) 0 1).2) 63).2) 3 0) 0).1 < 2147483648) ∧ (((F_LR_readSum (F_W_add ((F_LR_take ((F_LR_readCondition ((F_LR_readSum ((F_LR_take ((F_LR_take w 121).2) 58).2) 0).2) 0 1).2) 63).2) 3 0) 0).1 = 0 → True) ∧ (¬ ((F_LR_readSum (F_W_add ((F_LR_take ((F_LR_readCondition ((F_LR_readSum ((F_LR_take ((F_LR_take w 121).2) 58).2) 0).2) 0 1).2) 63).2) 3 0) 0).1 = 0) → (P_W_add ((F_LR_readSum (F_W_add ((F_LR_take ((F_LR_readCondition ((F_LR_readSum ((F_LR_take ((F_LR_take w 121).2) 58).2) 0).2) 0 1).2) 63).2) 3 0) 0).2) 2 0) ∧ (P_W_goOnHere (F_W_add ((F_LR_readSum (F_W_add ((F_LR_take ((F_LR_readCondition ((F_LR_readSum ((F_LR_take ((F_LR_take w 121).2) 58).2) 0).2) 0 1).2) 63).2) 3 0) 0).2) 2 0) (((F_LR_take ((F_LR_readCondition ((F_LR_readSum ((F_LR_take ((F_LR_take w 121).2) 58).2) 0).2) 0 1).2) 63).2) 38 2)))))))))))))))))))
def F_LR_readClause (w : z_Wd)  : Int × z_Wd := if (F_LR_take w 121).1 = 0 then (0, (F_LR_take w 121).2) else if (F_LR_take ((F_LR_take w 121).2) 58).1 = 0 then (0, (F_LR_take ((F_LR_take w 121).2) 58).2) else if F_T_at ((F_LR_take ((F_LR_take w 121).2) 58).2) (((F_LR_take ((F_LR_take w 121).2) 58).2) 37 2) = 33 then if (F_LR_readCondition ((F_LR_take ((F_LR_take w 121).2) 58).2) 0 0).1 = 0 then (0, (F_LR_readCondition ((F_LR_take ((F_LR_take w 121).2) 58).2) 0 0).2) else if (F_LR_take ((F_LR_readCondition ((F_LR_take ((F_LR_take w 121).2) 58).2) 0 0).2) 63).1 = 0 then (0, (F_LR_take ((F_LR_readCondition ((F_LR_take ((F_LR_take w 121).2) 58).2) 0 0).2) 63).2) else if (F_LR_readSum (F_W_add ((F_LR_take ((F_LR_readCondition ((F_LR_take ((F_LR_take w 121).2) 58).2) 0 0).2) 63).2) 3 0) 0).1 = 0 then (0, (F_LR_readSum (F_W_add ((F_LR_take ((F_LR_readCondition ((F_LR_take ((F_LR_take w 121).2) 58).2) 0 0).2) 63).2) 3 0) 0).2) else (1, F_W_goOnHere (F_W_add ((F_LR_readSum (F_W_add ((F_LR_take ((F_LR_readCondition ((F_LR_take ((F_LR_take w 121).2) 58).2) 0 0).2) 63).2) 3 0) 0).2) 2 0) (((F_LR_take ((F_LR_readCondition ((F_LR_take ((F_LR_take w 121).2) 58).2) 0 0).2) 63).2) 38 2)) else if F_T_at ((F_LR_take ((F_LR_take w 121).2) 58).2) (((F_LR_take ((F_LR_take w 121).2) 58).2) 37 2) = 40 then if (F_LR_readCondition ((F_LR_take ((F_LR_take w 121).2) 58).2) 0 0).1 = 0 then (0, (F_LR_readCondition ((F_LR_take ((F_LR_take w 121).2) 58).2) 0 0).2) else if (F_LR_take ((F_LR_readCondition ((F_LR_take ((F_LR_take w 121).2) 58).2) 0 0).2) 63).1 = 0 then (0, (F_LR_take ((F_LR_readCondition ((F_LR_take ((F_LR_take w 121).2) 58).2) 0 0).2) 63).2) else if (F_LR_readSum (F_W_add ((F_LR_take ((F_LR_readCondition ((F_LR_take ((F_LR_take w 121).2) 58).2) 0 0).2) 63).2) 3 0) 0).1 = 0 then (0, (F_LR_readSum (F_W_add ((F_LR_take ((F_LR_readCondition ((F_LR_take ((F_LR_take w 121).2) 58).2) 0 0).2) 63).2) 3 0) 0).2) else (1, F_W_goOnHere (F_W_add ((F_LR_readSum (F_W_add ((F_LR_take ((F_LR_readCondition ((F_LR_take ((F_LR_take w 121).2) 58).2) 0 0).2) 63).2) 3 0) 0).2) 2 0) (((F_LR_take ((F_LR_readCondition ((F_LR_take ((F_LR_take w 121).2) 58).2) 0 0).2) 63).2) 38 2)) else if (F_LR_readSum ((F_LR_take ((F_LR_take w 121).2) 58).2) 0).1 = 0 then (0, (F_LR_readSum ((F_LR_take ((F_LR_take w 121).2) 58).2) 0).2) else if F_LR_isComparison ((F_LR_readSum ((F_LR_take ((F_LR_take w 121).2) 58).2) 0).2) (F_T_at ((F_LR_readSum ((F_LR_take ((F_LR_take w 121).2) 58).2) 0).2) (((F_LR_readSum ((F_LR_take ((F_LR_take w 121).2) 58).2) 0).2) 37 2)) = 0 then (1, F_W_goOnHere (F_W_add ((F_LR_readSum ((F_LR_take ((F_LR_take w 121).2) 58).2) 0).2) 2 0) (-1)) else if (F_LR_readCondition ((F_LR_readSum ((F_LR_take ((F_LR_take w 121).2) 58).2) 0).2) 0 1).1 = 0 then (0, (F_LR_readCondition ((F_LR_readSum ((F_LR_take ((F_LR_take w 121).2) 58).2) 0).2) 0 1).2) else if (F_LR_take ((F_LR_readCondition ((F_LR_readSum ((F_LR_take ((F_LR_take w 121).2) 58).2) 0).2) 0 1).2) 63).1 = 0 then (0, (F_LR_take ((F_LR_readCondition ((F_LR_readSum ((F_LR_take ((F_LR_take w 121).2) 58).2) 0).2) 0 1).2) 63).2) else if (F_LR_readSum (F_W_add ((F_LR_take ((F_LR_readCondition ((F_LR_readSum ((F_LR_take ((F_LR_take w 121).2) 58).2) 0).2) 0 1).2) 63).2) 3 0) 0).1 = 0 then (0, (F_LR_readSum (F_W_add ((F_LR_take ((F_LR_readCondition ((F_LR_readSum ((F_LR_take ((F_LR_take w 121).2) 58).2) 0).2) 0 1).2) 63).2) 3 0) 0).2) else (1, F_W_goOnHere (F_W_add ((F_LR_readSum (F_W_add ((F_LR_take ((F_LR_readCondition ((F_LR_readSum ((F_LR_take ((F_LR_take w 121).2) 58).2) 0).2) 0 1).2) 63).2) 3 0) 0).2) 2 0) (((F_LR_take ((F_LR_readCondition ((F_LR_readSum ((F_LR_take ((F_LR_take w 121).2) 58).2) 0).2) 0 1).2) 63).2) 38 2))
set_option maxRecDepth 4000 in
theorem c_LR_readClause {d : Nat} {w : z_Wd} {Q : Option z_V → z_Wd → Prop} (h : P_LR_readClause w ) (k : Q (some (zI (F_LR_readClause w ).1)) (F_LR_readClause w ).2) : z_Wc (d + 65) m_X5_readClause [zR 37] w Q := by
  unfold P_LR_readClause at h
  unfold F_LR_readClause at k
  refine z_enter rfl (Nat.le_of_ble_eq_true rfl) ?_
  show z_Wp m_X5_readClause _ 0 [(0, zR 37)] [] w _
  refine z_aload_n (pc' := 1) 0 rfl rfl dX5_readClause_0 rfl ?_
  refine z_bipush (pc' := 3) (by decide) dX5_readClause_1 rfl ?_
  refine z_invV (as := [zI 121]) (st := []) (C := m_X5_take) (fs := [30, 40, 0]) (pc' := 6) dX5_readClause_3 rfl t_2_202 k_X5_take rfl (by decide) rfl rfl rfl rfl (Nat.le_of_ble_eq_true rfl) ?_
  obtain ⟨r1, h⟩ := h
  refine c_LR_take r1 ?_
  show z_Wp m_X5_readClause _ 6 [(0, zR 37)] [zI ((F_LR_take w 121).1)] ((F_LR_take w 121).2) _
  obtain ⟨r2, h⟩ := h
  refine z_if_eq 18 dX5_readClause_6 (by decide) (pc' := 9) rfl r2 (fun c => ?_) (fun c => ?_)
  · have h := h.1 c
    rw [if_pos c] at k
    refine z_iconst (pc' := 19) dX5_readClause_18 rfl ?_
    refine z_zret rfl (by decide) dX5_readClause_19 ?_
    exact k
  · have h := h.2 c
    rw [if_neg c] at k
    refine z_aload_n (pc' := 10) 0 rfl rfl dX5_readClause_9 rfl ?_
    refine z_bipush (pc' := 12) (by decide) dX5_readClause_10 rfl ?_
    refine z_invV (as := [zI 58]) (st := []) (C := m_X5_take) (fs := [30, 40, 0]) (pc' := 15) dX5_readClause_12 rfl t_2_202 k_X5_take rfl (by decide) rfl rfl rfl rfl (Nat.le_of_ble_eq_true rfl) ?_
    obtain ⟨r3, h⟩ := h
    refine c_LR_take r3 ?_
    show z_Wp m_X5_readClause _ 15 [(0, zR 37)] [zI ((F_LR_take ((F_LR_take w 121).2) 58).1)] ((F_LR_take ((F_LR_take w 121).2) 58).2) _
    obtain ⟨r4, h⟩ := h
    refine z_if_ne 20 dX5_readClause_15 (by decide) (pc' := 18) rfl r4 (fun c => ?_) (fun c => ?_)
    · have h := h.2 c
      rw [if_neg c] at k
      refine z_aload_n (pc' := 21) 0 rfl rfl dX5_readClause_20 rfl ?_
      refine z_getR (t := 28) (pc' := 24) g_X5_18 (by decide) rfl rfl dX5_readClause_21 rfl ?_
      refine z_aload_n (pc' := 25) 0 rfl rfl dX5_readClause_24 rfl ?_
      refine z_getI2 (v := ((F_LR_take ((F_LR_take w 121).2) 58).2) 37 2) (pc' := 28) g_X5_31 (by decide) rfl rfl rfl dX5_readClause_25 rfl ?_
      refine z_invV (as := [zI (((F_LR_take ((F_LR_take w 121).2) 58).2) 37 2)]) (st := []) (C := m_X10_at) (fs := [31, 0]) (pc' := 31) dX5_readClause_28 rfl t_2_206 k_X10_at rfl (by decide) rfl rfl rfl rfl (Nat.le_of_ble_eq_true rfl) ?_
      obtain ⟨r5, h⟩ := h
      refine c_T_at r5 ?_
      show z_Wp m_X5_readClause _ 31 [(0, zR 37)] [zI (F_T_at ((F_LR_take ((F_LR_take w 121).2) 58).2) (((F_LR_take ((F_LR_take w 121).2) 58).2) 37 2))] ((F_LR_take ((F_LR_take w 121).2) 58).2) _
      refine z_bipush (pc' := 33) (by decide) dX5_readClause_31 rfl ?_
      obtain ⟨r6, h⟩ := h
      refine z_icmp_eq 56 dX5_readClause_33 (by decide) (pc' := 36) rfl r6 (by decide) (fun c => ?_) (fun c => ?_)
      · have h := h.1 c
        rw [if_pos c] at k
        refine z_iconst (pc' := 57) dX5_readClause_56 rfl ?_
        refine z_istore_n (pc' := 58) (ls' := [(0, zR 37), (1, zI 0)]) rfl (by decide) rfl rfl dX5_readClause_57 rfl ?_
        refine z_iload_n (pc' := 59) 1 rfl rfl dX5_readClause_58 rfl ?_
        refine z_if_eq 72 dX5_readClause_59 (by decide) (pc' := 62) rfl (by decide) (fun _ => ?_) (fun c => absurd c (by decide))
        refine z_iconst (pc' := 73) dX5_readClause_72 rfl ?_
        refine z_istore_n (pc' := 74) (ls' := [(0, zR 37), (1, zI 0), (2, zI (-1))]) rfl (by decide) rfl rfl dX5_readClause_73 rfl ?_
        refine z_iload_n (pc' := 75) 1 rfl rfl dX5_readClause_74 rfl ?_
        refine z_if_eq 95 dX5_readClause_75 (by decide) (pc' := 78) rfl (by decide) (fun _ => ?_) (fun c => absurd c (by decide))
        refine z_aload_n (pc' := 96) 0 rfl rfl dX5_readClause_95 rfl ?_
        refine z_iconst (pc' := 97) dX5_readClause_96 rfl ?_
        refine z_iload_n (pc' := 98) 1 rfl rfl dX5_readClause_97 rfl ?_
        refine z_invV (as := [zI 0, zI 0]) (st := []) (C := m_X5_readCondition) (fs := [30, 40, 0]) (pc' := 101) dX5_readClause_98 rfl t_3_5 k_X5_readCondition rfl (by decide) rfl rfl rfl rfl (Nat.le_of_ble_eq_true rfl) ?_
        obtain ⟨r7, h⟩ := h
        refine c_LR_readCondition r7 ?_
        show z_Wp m_X5_readClause _ 101 [(0, zR 37), (1, zI 0), (2, zI (-1))] [zI ((F_LR_readCondition ((F_LR_take ((F_LR_take w 121).2) 58).2) 0 0).1)] ((F_LR_readCondition ((F_LR_take ((F_LR_take w 121).2) 58).2) 0 0).2) _
        obtain ⟨r8, h⟩ := h
        refine z_if_eq 113 dX5_readClause_101 (by decide) (pc' := 104) rfl r8 (fun c => ?_) (fun c => ?_)
        · have h := h.1 c
          rw [if_pos c] at k
          refine z_iconst (pc' := 114) dX5_readClause_113 rfl ?_
          refine z_zret rfl (by decide) dX5_readClause_114 ?_
          exact k
        · have h := h.2 c
          rw [if_neg c] at k
          refine z_aload_n (pc' := 105) 0 rfl rfl dX5_readClause_104 rfl ?_
          refine z_bipush (pc' := 107) (by decide) dX5_readClause_105 rfl ?_
          refine z_invV (as := [zI 63]) (st := []) (C := m_X5_take) (fs := [30, 40, 0]) (pc' := 110) dX5_readClause_107 rfl t_2_202 k_X5_take rfl (by decide) rfl rfl rfl rfl (Nat.le_of_ble_eq_true rfl) ?_
          obtain ⟨r9, h⟩ := h
          refine c_LR_take r9 ?_
          show z_Wp m_X5_readClause _ 110 [(0, zR 37), (1, zI 0), (2, zI (-1))] [zI ((F_LR_take ((F_LR_readCondition ((F_LR_take ((F_LR_take w 121).2) 58).2) 0 0).2) 63).1)] ((F_LR_take ((F_LR_readCondition ((F_LR_take ((F_LR_take w 121).2) 58).2) 0 0).2) 63).2) _
          obtain ⟨r10, h⟩ := h
          refine z_if_ne 115 dX5_readClause_110 (by decide) (pc' := 113) rfl r10 (fun c => ?_) (fun c => ?_)
          · have h := h.2 c
            rw [if_neg c] at k
            refine z_aload_n (pc' := 116) 0 rfl rfl dX5_readClause_115 rfl ?_
            refine z_getR (t := 38) (pc' := 119) g_X5_12 (by decide) rfl rfl dX5_readClause_116 rfl ?_
            refine z_invV (as := []) (st := []) (C := m_X4_length) (fs := [41, 42, 0, 0]) (pc' := 122) dX5_readClause_119 rfl t_3_21 k_X4_length rfl (by decide) rfl rfl rfl rfl (Nat.le_of_ble_eq_true rfl) ?_
            refine c_W_length ?_
            show z_Wp m_X5_readClause _ 122 [(0, zR 37), (1, zI 0), (2, zI (-1))] [zI (((F_LR_take ((F_LR_readCondition ((F_LR_take ((F_LR_take w 121).2) 58).2) 0 0).2) 63).2) 38 2)] ((F_LR_take ((F_LR_readCondition ((F_LR_take ((F_LR_take w 121).2) 58).2) 0 0).2) 63).2) _
            refine z_istore_n (pc' := 123) (ls' := [(0, zR 37), (1, zI 0), (2, zI (((F_LR_take ((F_LR_readCondition ((F_LR_take ((F_LR_take w 121).2) 58).2) 0 0).2) 63).2) 38 2))]) rfl (by decide) rfl rfl dX5_readClause_122 rfl ?_
            refine z_aload_n (pc' := 124) 0 rfl rfl dX5_readClause_123 rfl ?_
            refine z_getR (t := 38) (pc' := 127) g_X5_12 (by decide) rfl rfl dX5_readClause_124 rfl ?_
            refine z_iconst (pc' := 128) dX5_readClause_127 rfl ?_
            refine z_iconst (pc' := 129) dX5_readClause_128 rfl ?_
            refine z_invV (as := [zI 3, zI 0]) (st := []) (C := m_X4_add) (fs := [41, 42, 0, 0]) (pc' := 132) dX5_readClause_129 rfl t_2_234 k_X4_add rfl (by decide) rfl rfl rfl rfl (Nat.le_of_ble_eq_true rfl) ?_
            obtain ⟨r11, h⟩ := h
            refine c_W_add r11 ?_
            show z_Wp m_X5_readClause _ 132 [(0, zR 37), (1, zI 0), (2, zI (((F_LR_take ((F_LR_readCondition ((F_LR_take ((F_LR_take w 121).2) 58).2) 0 0).2) 63).2) 38 2))] [] (F_W_add ((F_LR_take ((F_LR_readCondition ((F_LR_take ((F_LR_take w 121).2) 58).2) 0 0).2) 63).2) 3 0) _
            refine z_aload_n (pc' := 133) 0 rfl rfl dX5_readClause_132 rfl ?_
            refine z_iconst (pc' := 134) dX5_readClause_133 rfl ?_
            refine z_invV (as := [zI 0]) (st := []) (C := m_X5_readSum) (fs := [30, 40, 0]) (pc' := 137) dX5_readClause_134 rfl t_2_207 k_X5_readSum rfl (by decide) rfl rfl rfl rfl (Nat.le_of_ble_eq_true rfl) ?_
            obtain ⟨r12, h⟩ := h
            refine c_LR_readSum r12 ?_
            show z_Wp m_X5_readClause _ 137 [(0, zR 37), (1, zI 0), (2, zI (((F_LR_take ((F_LR_readCondition ((F_LR_take ((F_LR_take w 121).2) 58).2) 0 0).2) 63).2) 38 2))] [zI ((F_LR_readSum (F_W_add ((F_LR_take ((F_LR_readCondition ((F_LR_take ((F_LR_take w 121).2) 58).2) 0 0).2) 63).2) 3 0) 0).1)] ((F_LR_readSum (F_W_add ((F_LR_take ((F_LR_readCondition ((F_LR_take ((F_LR_take w 121).2) 58).2) 0 0).2) 63).2) 3 0) 0).2) _
            obtain ⟨r13, h⟩ := h
            refine z_if_ne 142 dX5_readClause_137 (by decide) (pc' := 140) rfl r13 (fun c => ?_) (fun c => ?_)
            · have h := h.2 c
              rw [if_neg c] at k
              refine z_aload_n (pc' := 143) 0 rfl rfl dX5_readClause_142 rfl ?_
              refine z_getR (t := 38) (pc' := 146) g_X5_12 (by decide) rfl rfl dX5_readClause_143 rfl ?_
              refine z_iconst (pc' := 147) dX5_readClause_146 rfl ?_
              refine z_iconst (pc' := 148) dX5_readClause_147 rfl ?_
              refine z_invV (as := [zI 2, zI 0]) (st := []) (C := m_X4_add) (fs := [41, 42, 0, 0]) (pc' := 151) dX5_readClause_148 rfl t_2_234 k_X4_add rfl (by decide) rfl rfl rfl rfl (Nat.le_of_ble_eq_true rfl) ?_
              obtain ⟨r14, h⟩ := h
              refine c_W_add r14 ?_
              show z_Wp m_X5_readClause _ 151 [(0, zR 37), (1, zI 0), (2, zI (((F_LR_take ((F_LR_readCondition ((F_LR_take ((F_LR_take w 121).2) 58).2) 0 0).2) 63).2) 38 2))] [] (F_W_add ((F_LR_readSum (F_W_add ((F_LR_take ((F_LR_readCondition ((F_LR_take ((F_LR_take w 121).2) 58).2) 0 0).2) 63).2) 3 0) 0).2) 2 0) _
              refine z_aload_n (pc' := 152) 0 rfl rfl dX5_readClause_151 rfl ?_
              refine z_getR (t := 38) (pc' := 155) g_X5_12 (by decide) rfl rfl dX5_readClause_152 rfl ?_
              refine z_iload_n (pc' := 156) 2 rfl rfl dX5_readClause_155 rfl ?_
              refine z_invV (as := [zI (((F_LR_take ((F_LR_readCondition ((F_LR_take ((F_LR_take w 121).2) 58).2) 0 0).2) 63).2) 38 2)]) (st := []) (C := m_X4_goOnHere) (fs := [41, 42, 0, 0]) (pc' := 159) dX5_readClause_156 rfl t_3_25 k_X4_goOnHere rfl (by decide) rfl rfl rfl rfl (Nat.le_of_ble_eq_true rfl) ?_
              have r15 := h
              refine c_W_goOnHere r15 ?_
              show z_Wp m_X5_readClause _ 159 [(0, zR 37), (1, zI 0), (2, zI (((F_LR_take ((F_LR_readCondition ((F_LR_take ((F_LR_take w 121).2) 58).2) 0 0).2) 63).2) 38 2))] [] (F_W_goOnHere (F_W_add ((F_LR_readSum (F_W_add ((F_LR_take ((F_LR_readCondition ((F_LR_take ((F_LR_take w 121).2) 58).2) 0 0).2) 63).2) 3 0) 0).2) 2 0) (((F_LR_take ((F_LR_readCondition ((F_LR_take ((F_LR_take w 121).2) 58).2) 0 0).2) 63).2) 38 2)) _
              refine z_iconst (pc' := 160) dX5_readClause_159 rfl ?_
              refine z_zret rfl (by decide) dX5_readClause_160 ?_
              exact k
            · have h := h.1 c
              rw [if_pos c] at k
              refine z_iconst (pc' := 141) dX5_readClause_140 rfl ?_
              refine z_zret rfl (by decide) dX5_readClause_141 ?_
              exact k
          · have h := h.1 c
            rw [if_pos c] at k
            refine z_iconst (pc' := 114) dX5_readClause_113 rfl ?_
            refine z_zret rfl (by decide) dX5_readClause_114 ?_
            exact k
      · have h := h.2 c
        rw [if_neg c] at k
        refine z_aload_n (pc' := 37) 0 rfl rfl dX5_readClause_36 rfl ?_
        refine z_getR (t := 28) (pc' := 40) g_X5_18 (by decide) rfl rfl dX5_readClause_37 rfl ?_
        refine z_aload_n (pc' := 41) 0 rfl rfl dX5_readClause_40 rfl ?_
        refine z_getI2 (v := ((F_LR_take ((F_LR_take w 121).2) 58).2) 37 2) (pc' := 44) g_X5_31 (by decide) rfl rfl rfl dX5_readClause_41 rfl ?_
        refine z_invV (as := [zI (((F_LR_take ((F_LR_take w 121).2) 58).2) 37 2)]) (st := []) (C := m_X10_at) (fs := [31, 0]) (pc' := 47) dX5_readClause_44 rfl t_2_206 k_X10_at rfl (by decide) rfl rfl rfl rfl (Nat.le_of_ble_eq_true rfl) ?_
        refine c_T_at r5 ?_
        show z_Wp m_X5_readClause _ 47 [(0, zR 37)] [zI (F_T_at ((F_LR_take ((F_LR_take w 121).2) 58).2) (((F_LR_take ((F_LR_take w 121).2) 58).2) 37 2))] ((F_LR_take ((F_LR_take w 121).2) 58).2) _
        refine z_bipush (pc' := 49) (by decide) dX5_readClause_47 rfl ?_
        refine z_icmp_eq 56 dX5_readClause_49 (by decide) (pc' := 52) rfl r6 (by decide) (fun c => ?_) (fun c => ?_)
        · have h := h.1 c
          rw [if_pos c] at k
          refine z_iconst (pc' := 57) dX5_readClause_56 rfl ?_
          refine z_istore_n (pc' := 58) (ls' := [(0, zR 37), (1, zI 0)]) rfl (by decide) rfl rfl dX5_readClause_57 rfl ?_
          refine z_iload_n (pc' := 59) 1 rfl rfl dX5_readClause_58 rfl ?_
          refine z_if_eq 72 dX5_readClause_59 (by decide) (pc' := 62) rfl (by decide) (fun _ => ?_) (fun c => absurd c (by decide))
          refine z_iconst (pc' := 73) dX5_readClause_72 rfl ?_
          refine z_istore_n (pc' := 74) (ls' := [(0, zR 37), (1, zI 0), (2, zI (-1))]) rfl (by decide) rfl rfl dX5_readClause_73 rfl ?_
          refine z_iload_n (pc' := 75) 1 rfl rfl dX5_readClause_74 rfl ?_
          refine z_if_eq 95 dX5_readClause_75 (by decide) (pc' := 78) rfl (by decide) (fun _ => ?_) (fun c => absurd c (by decide))
          refine z_aload_n (pc' := 96) 0 rfl rfl dX5_readClause_95 rfl ?_
          refine z_iconst (pc' := 97) dX5_readClause_96 rfl ?_
          refine z_iload_n (pc' := 98) 1 rfl rfl dX5_readClause_97 rfl ?_
          refine z_invV (as := [zI 0, zI 0]) (st := []) (C := m_X5_readCondition) (fs := [30, 40, 0]) (pc' := 101) dX5_readClause_98 rfl t_3_5 k_X5_readCondition rfl (by decide) rfl rfl rfl rfl (Nat.le_of_ble_eq_true rfl) ?_
          obtain ⟨r16, h⟩ := h
          refine c_LR_readCondition r16 ?_
          show z_Wp m_X5_readClause _ 101 [(0, zR 37), (1, zI 0), (2, zI (-1))] [zI ((F_LR_readCondition ((F_LR_take ((F_LR_take w 121).2) 58).2) 0 0).1)] ((F_LR_readCondition ((F_LR_take ((F_LR_take w 121).2) 58).2) 0 0).2) _
          obtain ⟨r17, h⟩ := h
          refine z_if_eq 113 dX5_readClause_101 (by decide) (pc' := 104) rfl r17 (fun c => ?_) (fun c => ?_)
          · have h := h.1 c
            rw [if_pos c] at k
            refine z_iconst (pc' := 114) dX5_readClause_113 rfl ?_
            refine z_zret rfl (by decide) dX5_readClause_114 ?_
            exact k
          · have h := h.2 c
            rw [if_neg c] at k
            refine z_aload_n (pc' := 105) 0 rfl rfl dX5_readClause_104 rfl ?_
            refine z_bipush (pc' := 107) (by decide) dX5_readClause_105 rfl ?_
            refine z_invV (as := [zI 63]) (st := []) (C := m_X5_take) (fs := [30, 40, 0]) (pc' := 110) dX5_readClause_107 rfl t_2_202 k_X5_take rfl (by decide) rfl rfl rfl rfl (Nat.le_of_ble_eq_true rfl) ?_
            obtain ⟨r18, h⟩ := h
            refine c_LR_take r18 ?_
            show z_Wp m_X5_readClause _ 110 [(0, zR 37), (1, zI 0), (2, zI (-1))] [zI ((F_LR_take ((F_LR_readCondition ((F_LR_take ((F_LR_take w 121).2) 58).2) 0 0).2) 63).1)] ((F_LR_take ((F_LR_readCondition ((F_LR_take ((F_LR_take w 121).2) 58).2) 0 0).2) 63).2) _
            obtain ⟨r19, h⟩ := h
            refine z_if_ne 115 dX5_readClause_110 (by decide) (pc' := 113) rfl r19 (fun c => ?_) (fun c => ?_)
            · have h := h.2 c
              rw [if_neg c] at k
              refine z_aload_n (pc' := 116) 0 rfl rfl dX5_readClause_115 rfl ?_
              refine z_getR (t := 38) (pc' := 119) g_X5_12 (by decide) rfl rfl dX5_readClause_116 rfl ?_
              refine z_invV (as := []) (st := []) (C := m_X4_length) (fs := [41, 42, 0, 0]) (pc' := 122) dX5_readClause_119 rfl t_3_21 k_X4_length rfl (by decide) rfl rfl rfl rfl (Nat.le_of_ble_eq_true rfl) ?_
              refine c_W_length ?_
              show z_Wp m_X5_readClause _ 122 [(0, zR 37), (1, zI 0), (2, zI (-1))] [zI (((F_LR_take ((F_LR_readCondition ((F_LR_take ((F_LR_take w 121).2) 58).2) 0 0).2) 63).2) 38 2)] ((F_LR_take ((F_LR_readCondition ((F_LR_take ((F_LR_take w 121).2) 58).2) 0 0).2) 63).2) _
              refine z_istore_n (pc' := 123) (ls' := [(0, zR 37), (1, zI 0), (2, zI (((F_LR_take ((F_LR_readCondition ((F_LR_take ((F_LR_take w 121).2) 58).2) 0 0).2) 63).2) 38 2))]) rfl (by decide) rfl rfl dX5_readClause_122 rfl ?_
              refine z_aload_n (pc' := 124) 0 rfl rfl dX5_readClause_123 rfl ?_
              refine z_getR (t := 38) (pc' := 127) g_X5_12 (by decide) rfl rfl dX5_readClause_124 rfl ?_
              refine z_iconst (pc' := 128) dX5_readClause_127 rfl ?_
              refine z_iconst (pc' := 129) dX5_readClause_128 rfl ?_
              refine z_invV (as := [zI 3, zI 0]) (st := []) (C := m_X4_add) (fs := [41, 42, 0, 0]) (pc' := 132) dX5_readClause_129 rfl t_2_234 k_X4_add rfl (by decide) rfl rfl rfl rfl (Nat.le_of_ble_eq_true rfl) ?_
              obtain ⟨r20, h⟩ := h
              refine c_W_add r20 ?_
              show z_Wp m_X5_readClause _ 132 [(0, zR 37), (1, zI 0), (2, zI (((F_LR_take ((F_LR_readCondition ((F_LR_take ((F_LR_take w 121).2) 58).2) 0 0).2) 63).2) 38 2))] [] (F_W_add ((F_LR_take ((F_LR_readCondition ((F_LR_take ((F_LR_take w 121).2) 58).2) 0 0).2) 63).2) 3 0) _
              refine z_aload_n (pc' := 133) 0 rfl rfl dX5_readClause_132 rfl ?_
              refine z_iconst (pc' := 134) dX5_readClause_133 rfl ?_
              refine z_invV (as := [zI 0]) (st := []) (C := m_X5_readSum) (fs := [30, 40, 0]) (pc' := 137) dX5_readClause_134 rfl t_2_207 k_X5_readSum rfl (by decide) rfl rfl rfl rfl (Nat.le_of_ble_eq_true rfl) ?_
              obtain ⟨r21, h⟩ := h
              refine c_LR_readSum r21 ?_
              show z_Wp m_X5_readClause _ 137 [(0, zR 37), (1, zI 0), (2, zI (((F_LR_take ((F_LR_readCondition ((F_LR_take ((F_LR_take w 121).2) 58).2) 0 0).2) 63).2) 38 2))] [zI ((F_LR_readSum (F_W_add ((F_LR_take ((F_LR_readCondition ((F_LR_take ((F_LR_take w 121).2) 58).2) 0 0).2) 63).2) 3 0) 0).1)] ((F_LR_readSum (F_W_add ((F_LR_take ((F_LR_readCondition ((F_LR_take ((F_LR_take w 121).2) 58).2) 0 0).2) 63).2) 3 0) 0).2) _
              obtain ⟨r22, h⟩ := h
              refine z_if_ne 142 dX5_readClause_137 (by decide) (pc' := 140) rfl r22 (fun c => ?_) (fun c => ?_)
              · have h := h.2 c
                rw [if_neg c] at k
                refine z_aload_n (pc' := 143) 0 rfl rfl dX5_readClause_142 rfl ?_
                refine z_getR (t := 38) (pc' := 146) g_X5_12 (by decide) rfl rfl dX5_readClause_143 rfl ?_
                refine z_iconst (pc' := 147) dX5_readClause_146 rfl ?_
                refine z_iconst (pc' := 148) dX5_readClause_147 rfl ?_
                refine z_invV (as := [zI 2, zI 0]) (st := []) (C := m_X4_add) (fs := [41, 42, 0, 0]) (pc' := 151) dX5_readClause_148 rfl t_2_234 k_X4_add rfl (by decide) rfl rfl rfl rfl (Nat.le_of_ble_eq_true rfl) ?_
                obtain ⟨r23, h⟩ := h
                refine c_W_add r23 ?_
                show z_Wp m_X5_readClause _ 151 [(0, zR 37), (1, zI 0), (2, zI (((F_LR_take ((F_LR_readCondition ((F_LR_take ((F_LR_take w 121).2) 58).2) 0 0).2) 63).2) 38 2))] [] (F_W_add ((F_LR_readSum (F_W_add ((F_LR_take ((F_LR_readCondition ((F_LR_take ((F_LR_take w 121).2) 58).2) 0 0).2) 63).2) 3 0) 0).2) 2 0) _
                refine z_aload_n (pc' := 152) 0 rfl rfl dX5_readClause_151 rfl ?_
                refine z_getR (t := 38) (pc' := 155) g_X5_12 (by decide) rfl rfl dX5_readClause_152 rfl ?_
                refine z_iload_n (pc' := 156) 2 rfl rfl dX5_readClause_155 rfl ?_
                refine z_invV (as := [zI (((F_LR_take ((F_LR_readCondition ((F_LR_take ((F_LR_take w 121).2) 58).2) 0 0).2) 63).2) 38 2)]) (st := []) (C := m_X4_goOnHere) (fs := [41, 42, 0, 0]) (pc' := 159) dX5_readClause_156 rfl t_3_25 k_X4_goOnHere rfl (by decide) rfl rfl rfl rfl (Nat.le_of_ble_eq_true rfl) ?_
                have r24 := h
                refine c_W_goOnHere r24 ?_
                show z_Wp m_X5_readClause _ 159 [(0, zR 37), (1, zI 0), (2, zI (((F_LR_take ((F_LR_readCondition ((F_LR_take ((F_LR_take w 121).2) 58).2) 0 0).2) 63).2) 38 2))] [] (F_W_goOnHere (F_W_add ((F_LR_readSum (F_W_add ((F_LR_take ((F_LR_readCondition ((F_LR_take ((F_LR_take w 121).2) 58).2) 0 0).2) 63).2) 3 0) 0).2) 2 0) (((F_LR_take ((F_LR_readCondition ((F_LR_take ((F_LR_take w 121).2) 58).2) 0 0).2) 63).2) 38 2)) _
                refine z_iconst (pc' := 160) dX5_readClause_159 rfl ?_
                refine z_zret rfl (by decide) dX5_readClause_160 ?_
                exact k
              · have h := h.1 c
                rw [if_pos c] at k
                refine z_iconst (pc' := 141) dX5_readClause_140 rfl ?_
                refine z_zret rfl (by decide) dX5_readClause_141 ?_
                exact k
            · have h := h.1 c
              rw [if_pos c] at k
              refine z_iconst (pc' := 114) dX5_readClause_113 rfl ?_
              refine z_zret rfl (by decide) dX5_readClause_114 ?_
              exact k
        · have h := h.2 c
          rw [if_neg c] at k
          refine z_iconst (pc' := 53) dX5_readClause_52 rfl ?_
          refine z_goto 57 dX5_readClause_53 (by decide) ?_
          refine z_istore_n (pc' := 58) (ls' := [(0, zR 37), (1, zI 1)]) rfl (by decide) rfl rfl dX5_readClause_57 rfl ?_
          refine z_iload_n (pc' := 59) 1 rfl rfl dX5_readClause_58 rfl ?_
          refine z_if_eq 72 dX5_readClause_59 (by decide) (pc' := 62) rfl (by decide) (fun c => absurd c (by decide)) (fun _ => ?_)
          refine z_aload_n (pc' := 63) 0 rfl rfl dX5_readClause_62 rfl ?_
          refine z_iconst (pc' := 64) dX5_readClause_63 rfl ?_
          refine z_invV (as := [zI 0]) (st := []) (C := m_X5_readSum) (fs := [30, 40, 0]) (pc' := 67) dX5_readClause_64 rfl t_2_207 k_X5_readSum rfl (by decide) rfl rfl rfl rfl (Nat.le_of_ble_eq_true rfl) ?_
          obtain ⟨r25, h⟩ := h
          refine c_LR_readSum r25 ?_
          show z_Wp m_X5_readClause _ 67 [(0, zR 37), (1, zI 1)] [zI ((F_LR_readSum ((F_LR_take ((F_LR_take w 121).2) 58).2) 0).1)] ((F_LR_readSum ((F_LR_take ((F_LR_take w 121).2) 58).2) 0).2) _
          obtain ⟨r26, h⟩ := h
          refine z_if_ne 72 dX5_readClause_67 (by decide) (pc' := 70) rfl r26 (fun c => ?_) (fun c => ?_)
          · have h := h.2 c
            rw [if_neg c] at k
            refine z_iconst (pc' := 73) dX5_readClause_72 rfl ?_
            refine z_istore_n (pc' := 74) (ls' := [(0, zR 37), (1, zI 1), (2, zI (-1))]) rfl (by decide) rfl rfl dX5_readClause_73 rfl ?_
            refine z_iload_n (pc' := 75) 1 rfl rfl dX5_readClause_74 rfl ?_
            refine z_if_eq 95 dX5_readClause_75 (by decide) (pc' := 78) rfl (by decide) (fun c => absurd c (by decide)) (fun _ => ?_)
            refine z_aload_n (pc' := 79) 0 rfl rfl dX5_readClause_78 rfl ?_
            refine z_getR (t := 28) (pc' := 82) g_X5_18 (by decide) rfl rfl dX5_readClause_79 rfl ?_
            refine z_aload_n (pc' := 83) 0 rfl rfl dX5_readClause_82 rfl ?_
            refine z_getI2 (v := ((F_LR_readSum ((F_LR_take ((F_LR_take w 121).2) 58).2) 0).2) 37 2) (pc' := 86) g_X5_31 (by decide) rfl rfl rfl dX5_readClause_83 rfl ?_
            refine z_invV (as := [zI (((F_LR_readSum ((F_LR_take ((F_LR_take w 121).2) 58).2) 0).2) 37 2)]) (st := []) (C := m_X10_at) (fs := [31, 0]) (pc' := 89) dX5_readClause_86 rfl t_2_206 k_X10_at rfl (by decide) rfl rfl rfl rfl (Nat.le_of_ble_eq_true rfl) ?_
            obtain ⟨r27, h⟩ := h
            refine c_T_at r27 ?_
            show z_Wp m_X5_readClause _ 89 [(0, zR 37), (1, zI 1), (2, zI (-1))] [zI (F_T_at ((F_LR_readSum ((F_LR_take ((F_LR_take w 121).2) 58).2) 0).2) (((F_LR_readSum ((F_LR_take ((F_LR_take w 121).2) 58).2) 0).2) 37 2))] ((F_LR_readSum ((F_LR_take ((F_LR_take w 121).2) 58).2) 0).2) _
            refine z_invS (as := [zI (F_T_at ((F_LR_readSum ((F_LR_take ((F_LR_take w 121).2) 58).2) 0).2) (((F_LR_readSum ((F_LR_take ((F_LR_take w 121).2) 58).2) 0).2) 37 2))]) (st := []) (C := m_X5_isComparison) (pc' := 92) dX5_readClause_89 rfl t_3_2 k_X5_isComparison rfl rfl (Nat.le_of_ble_eq_true rfl) ?_
            obtain ⟨r28, h⟩ := h
            refine c_LR_isComparison r28 ?_
            show z_Wp m_X5_readClause _ 92 [(0, zR 37), (1, zI 1), (2, zI (-1))] [zI (F_LR_isComparison ((F_LR_readSum ((F_LR_take ((F_LR_take w 121).2) 58).2) 0).2) (F_T_at ((F_LR_readSum ((F_LR_take ((F_LR_take w 121).2) 58).2) 0).2) (((F_LR_readSum ((F_LR_take ((F_LR_take w 121).2) 58).2) 0).2) 37 2)))] ((F_LR_readSum ((F_LR_take ((F_LR_take w 121).2) 58).2) 0).2) _
            refine z_if_eq 142 dX5_readClause_92 (by decide) (pc' := 95) rfl (z_rb b_LR_isComparison) (fun c => ?_) (fun c => ?_)
            · have h := h.1 c
              rw [if_pos c] at k
              refine z_aload_n (pc' := 143) 0 rfl rfl dX5_readClause_142 rfl ?_
              refine z_getR (t := 38) (pc' := 146) g_X5_12 (by decide) rfl rfl dX5_readClause_143 rfl ?_
              refine z_iconst (pc' := 147) dX5_readClause_146 rfl ?_
              refine z_iconst (pc' := 148) dX5_readClause_147 rfl ?_
              refine z_invV (as := [zI 2, zI 0]) (st := []) (C := m_X4_add) (fs := [41, 42, 0, 0]) (pc' := 151) dX5_readClause_148 rfl t_2_234 k_X4_add rfl (by decide) rfl rfl rfl rfl (Nat.le_of_ble_eq_true rfl) ?_
              obtain ⟨r29, h⟩ := h
              refine c_W_add r29 ?_
              show z_Wp m_X5_readClause _ 151 [(0, zR 37), (1, zI 1), (2, zI (-1))] [] (F_W_add ((F_LR_readSum ((F_LR_take ((F_LR_take w 121).2) 58).2) 0).2) 2 0) _
              refine z_aload_n (pc' := 152) 0 rfl rfl dX5_readClause_151 rfl ?_
              refine z_getR (t := 38) (pc' := 155) g_X5_12 (by decide) rfl rfl dX5_readClause_152 rfl ?_
              refine z_iload_n (pc' := 156) 2 rfl rfl dX5_readClause_155 rfl ?_
              refine z_invV (as := [zI (-1)]) (st := []) (C := m_X4_goOnHere) (fs := [41, 42, 0, 0]) (pc' := 159) dX5_readClause_156 rfl t_3_25 k_X4_goOnHere rfl (by decide) rfl rfl rfl rfl (Nat.le_of_ble_eq_true rfl) ?_
              have r30 := h
              refine c_W_goOnHere r30 ?_
              show z_Wp m_X5_readClause _ 159 [(0, zR 37), (1, zI 1), (2, zI (-1))] [] (F_W_goOnHere (F_W_add ((F_LR_readSum ((F_LR_take ((F_LR_take w 121).2) 58).2) 0).2) 2 0) (-1)) _
              refine z_iconst (pc' := 160) dX5_readClause_159 rfl ?_
              refine z_zret rfl (by decide) dX5_readClause_160 ?_
              exact k
            · have h := h.2 c
              rw [if_neg c] at k
              refine z_aload_n (pc' := 96) 0 rfl rfl dX5_readClause_95 rfl ?_
              refine z_iconst (pc' := 97) dX5_readClause_96 rfl ?_
              refine z_iload_n (pc' := 98) 1 rfl rfl dX5_readClause_97 rfl ?_
              refine z_invV (as := [zI 0, zI 1]) (st := []) (C := m_X5_readCondition) (fs := [30, 40, 0]) (pc' := 101) dX5_readClause_98 rfl t_3_5 k_X5_readCondition rfl (by decide) rfl rfl rfl rfl (Nat.le_of_ble_eq_true rfl) ?_
              obtain ⟨r31, h⟩ := h
              refine c_LR_readCondition r31 ?_
              show z_Wp m_X5_readClause _ 101 [(0, zR 37), (1, zI 1), (2, zI (-1))] [zI ((F_LR_readCondition ((F_LR_readSum ((F_LR_take ((F_LR_take w 121).2) 58).2) 0).2) 0 1).1)] ((F_LR_readCondition ((F_LR_readSum ((F_LR_take ((F_LR_take w 121).2) 58).2) 0).2) 0 1).2) _
              obtain ⟨r32, h⟩ := h
              refine z_if_eq 113 dX5_readClause_101 (by decide) (pc' := 104) rfl r32 (fun c => ?_) (fun c => ?_)
              · have h := h.1 c
                rw [if_pos c] at k
                refine z_iconst (pc' := 114) dX5_readClause_113 rfl ?_
                refine z_zret rfl (by decide) dX5_readClause_114 ?_
                exact k
              · have h := h.2 c
                rw [if_neg c] at k
                refine z_aload_n (pc' := 105) 0 rfl rfl dX5_readClause_104 rfl ?_
                refine z_bipush (pc' := 107) (by decide) dX5_readClause_105 rfl ?_
                refine z_invV (as := [zI 63]) (st := []) (C := m_X5_take) (fs := [30, 40, 0]) (pc' := 110) dX5_readClause_107 rfl t_2_202 k_X5_take rfl (by decide) rfl rfl rfl rfl (Nat.le_of_ble_eq_true rfl) ?_
                obtain ⟨r33, h⟩ := h
                refine c_LR_take r33 ?_
                show z_Wp m_X5_readClause _ 110 [(0, zR 37), (1, zI 1), (2, zI (-1))] [zI ((F_LR_take ((F_LR_readCondition ((F_LR_readSum ((F_LR_take ((F_LR_take w 121).2) 58).2) 0).2) 0 1).2) 63).1)] ((F_LR_take ((F_LR_readCondition ((F_LR_readSum ((F_LR_take ((F_LR_take w 121).2) 58).2) 0).2) 0 1).2) 63).2) _
                obtain ⟨r34, h⟩ := h
                refine z_if_ne 115 dX5_readClause_110 (by decide) (pc' := 113) rfl r34 (fun c => ?_) (fun c => ?_)
                · have h := h.2 c
                  rw [if_neg c] at k
                  refine z_aload_n (pc' := 116) 0 rfl rfl dX5_readClause_115 rfl ?_
                  refine z_getR (t := 38) (pc' := 119) g_X5_12 (by decide) rfl rfl dX5_readClause_116 rfl ?_
                  refine z_invV (as := []) (st := []) (C := m_X4_length) (fs := [41, 42, 0, 0]) (pc' := 122) dX5_readClause_119 rfl t_3_21 k_X4_length rfl (by decide) rfl rfl rfl rfl (Nat.le_of_ble_eq_true rfl) ?_
                  refine c_W_length ?_
                  show z_Wp m_X5_readClause _ 122 [(0, zR 37), (1, zI 1), (2, zI (-1))] [zI (((F_LR_take ((F_LR_readCondition ((F_LR_readSum ((F_LR_take ((F_LR_take w 121).2) 58).2) 0).2) 0 1).2) 63).2) 38 2)] ((F_LR_take ((F_LR_readCondition ((F_LR_readSum ((F_LR_take ((F_LR_take w 121).2) 58).2) 0).2) 0 1).2) 63).2) _
                  refine z_istore_n (pc' := 123) (ls' := [(0, zR 37), (1, zI 1), (2, zI (((F_LR_take ((F_LR_readCondition ((F_LR_readSum ((F_LR_take ((F_LR_take w 121).2) 58).2) 0).2) 0 1).2) 63).2) 38 2))]) rfl (by decide) rfl rfl dX5_readClause_122 rfl ?_
                  refine z_aload_n (pc' := 124) 0 rfl rfl dX5_readClause_123 rfl ?_
                  refine z_getR (t := 38) (pc' := 127) g_X5_12 (by decide) rfl rfl dX5_readClause_124 rfl ?_
                  refine z_iconst (pc' := 128) dX5_readClause_127 rfl ?_
                  refine z_iconst (pc' := 129) dX5_readClause_128 rfl ?_
                  refine z_invV (as := [zI 3, zI 0]) (st := []) (C := m_X4_add) (fs := [41, 42, 0, 0]) (pc' := 132) dX5_readClause_129 rfl t_2_234 k_X4_add rfl (by decide) rfl rfl rfl rfl (Nat.le_of_ble_eq_true rfl) ?_
                  obtain ⟨r35, h⟩ := h
                  refine c_W_add r35 ?_
                  show z_Wp m_X5_readClause _ 132 [(0, zR 37), (1, zI 1), (2, zI (((F_LR_take ((F_LR_readCondition ((F_LR_readSum ((F_LR_take ((F_LR_take w 121).2) 58).2) 0).2) 0 1).2) 63).2) 38 2))] [] (F_W_add ((F_LR_take ((F_LR_readCondition ((F_LR_readSum ((F_LR_take ((F_LR_take w 121).2) 58).2) 0).2) 0 1).2) 63).2) 3 0) _
                  refine z_aload_n (pc' := 133) 0 rfl rfl dX5_readClause_132 rfl ?_
                  refine z_iconst (pc' := 134) dX5_readClause_133 rfl ?_
                  refine z_invV (as := [zI 0]) (st := []) (C := m_X5_readSum) (fs := [30, 40, 0]) (pc' := 137) dX5_readClause_134 rfl t_2_207 k_X5_readSum rfl (by decide) rfl rfl rfl rfl (Nat.le_of_ble_eq_true rfl) ?_
                  obtain ⟨r36, h⟩ := h
                  refine c_LR_readSum r36 ?_
                  show z_Wp m_X5_readClause _ 137 [(0, zR 37), (1, zI 1), (2, zI (((F_LR_take ((F_LR_readCondition ((F_LR_readSum ((F_LR_take ((F_LR_take w 121).2) 58).2) 0).2) 0 1).2) 63).2) 38 2))] [zI ((F_LR_readSum (F_W_add ((F_LR_take ((F_LR_readCondition ((F_LR_readSum ((F_LR_take ((F_LR_take w 121).2) 58).2) 0).2) 0 1).2) 63).2) 3 0) 0).1)] ((F_LR_readSum (F_W_add ((F_LR_take ((F_LR_readCondition ((F_LR_readSum ((F_LR_take ((F_LR_take w 121).2) 58).2) 0).2) 0 1).2) 63).2) 3 0) 0).2) _
                  obtain ⟨r37, h⟩ := h
                  refine z_if_ne 142 dX5_readClause_137 (by decide) (pc' := 140) rfl r37 (fun c => ?_) (fun c => ?_)
                  · have h := h.2 c
                    rw [if_neg c] at k
                    refine z_aload_n (pc' := 143) 0 rfl rfl dX5_readClause_142 rfl ?_
                    refine z_getR (t := 38) (pc' := 146) g_X5_12 (by decide) rfl rfl dX5_readClause_143 rfl ?_
                    refine z_iconst (pc' := 147) dX5_readClause_146 rfl ?_
                    refine z_iconst (pc' := 148) dX5_readClause_147 rfl ?_
                    refine z_invV (as := [zI 2, zI 0]) (st := []) (C := m_X4_add) (fs := [41, 42, 0, 0]) (pc' := 151) dX5_readClause_148 rfl t_2_234 k_X4_add rfl (by decide) rfl rfl rfl rfl (Nat.le_of_ble_eq_true rfl) ?_
                    obtain ⟨r38, h⟩ := h
                    refine c_W_add r38 ?_
                    show z_Wp m_X5_readClause _ 151 [(0, zR 37), (1, zI 1), (2, zI (((F_LR_take ((F_LR_readCondition ((F_LR_readSum ((F_LR_take ((F_LR_take w 121).2) 58).2) 0).2) 0 1).2) 63).2) 38 2))] [] (F_W_add ((F_LR_readSum (F_W_add ((F_LR_take ((F_LR_readCondition ((F_LR_readSum ((F_LR_take ((F_LR_take w 121).2) 58).2) 0).2) 0 1).2) 63).2) 3 0) 0).2) 2 0) _
                    refine z_aload_n (pc' := 152) 0 rfl rfl dX5_readClause_151 rfl ?_
                    refine z_getR (t := 38) (pc' := 155) g_X5_12 (by decide) rfl rfl dX5_readClause_152 rfl ?_
                    refine z_iload_n (pc' := 156) 2 rfl rfl dX5_readClause_155 rfl ?_
                    refine z_invV (as := [zI (((F_LR_take ((F_LR_readCondition ((F_LR_readSum ((F_LR_take ((F_LR_take w 121).2) 58).2) 0).2) 0 1).2) 63).2) 38 2)]) (st := []) (C := m_X4_goOnHere) (fs := [41, 42, 0, 0]) (pc' := 159) dX5_readClause_156 rfl t_3_25 k_X4_goOnHere rfl (by decide) rfl rfl rfl rfl (Nat.le_of_ble_eq_true rfl) ?_
                    have r39 := h
                    refine c_W_goOnHere r39 ?_
                    show z_Wp m_X5_readClause _ 159 [(0, zR 37), (1, zI 1), (2, zI (((F_LR_take ((F_LR_readCondition ((F_LR_readSum ((F_LR_take ((F_LR_take w 121).2) 58).2) 0).2) 0 1).2) 63).2) 38 2))] [] (F_W_goOnHere (F_W_add ((F_LR_readSum (F_W_add ((F_LR_take ((F_LR_readCondition ((F_LR_readSum ((F_LR_take ((F_LR_take w 121).2) 58).2) 0).2) 0 1).2) 63).2) 3 0) 0).2) 2 0) (((F_LR_take ((F_LR_readCondition ((F_LR_readSum ((F_LR_take ((F_LR_take w 121).2) 58).2) 0).2) 0 1).2) 63).2) 38 2)) _
                    refine z_iconst (pc' := 160) dX5_readClause_159 rfl ?_
                    refine z_zret rfl (by decide) dX5_readClause_160 ?_
                    exact k
                  · have h := h.1 c
                    rw [if_pos c] at k
                    refine z_iconst (pc' := 141) dX5_readClause_140 rfl ?_
                    refine z_zret rfl (by decide) dX5_readClause_141 ?_
                    exact k
                · have h := h.1 c
                  rw [if_pos c] at k
                  refine z_iconst (pc' := 114) dX5_readClause_113 rfl ?_
                  refine z_zret rfl (by decide) dX5_readClause_114 ?_
                  exact k
          · have h := h.1 c
            rw [if_pos c] at k
            refine z_iconst (pc' := 71) dX5_readClause_70 rfl ?_
            refine z_zret rfl (by decide) dX5_readClause_71 ?_
            exact k
    · have h := h.1 c
      rw [if_pos c] at k
      refine z_iconst (pc' := 19) dX5_readClause_18 rfl ?_
      refine z_zret rfl (by decide) dX5_readClause_19 ?_
      exact k
def P_N_partsUpBy (w : z_Wd) (a0 : Int) (a1 : Int) (a2 : Int) (a3 : Int) (a4 : Int) : Prop := (P_K_wellOf w a1) ∧ (P_K_comesUp w (F_K_wellOf w a1) a0 a3) ∧ (-2147483648 ≤ F_K_comesUp w (F_K_wellOf w a1) a0 a3 ∧ F_K_comesUp w (F_K_wellOf w a1) a0 a3 < 2147483648) ∧ (-2147483648 ≤ a1 ∧ a1 < 2147483648) ∧ ((F_K_comesUp w (F_K_wellOf w a1) a0 a3 = a1 → True) ∧ (¬ (F_K_comesUp w (F_K_wellOf w a1) a0 a3 = a1) → (F_K_comesUp w (F_K_wellOf w a1) a0 a3 = (-1) → P_N_partsUp 6 w a1 (a2 - 1) a3 a4) ∧ (¬ (F_K_comesUp w (F_K_wellOf w a1) a0 a3 = (-1)) → P_N_partsUp 6 w a1 (a2 - 1) (zz_and a3 (zz_xor (zz_shl 1 (F_K_comesUp w (F_K_wellOf w a1) a0 a3)) (-1))) a4)))
def F_N_partsUpBy (w : z_Wd) (a0 : Int) (a1 : Int) (a2 : Int) (a3 : Int) (a4 : Int) : Int := if F_K_comesUp w (F_K_wellOf w a1) a0 a3 = a1 then a4 else if F_K_comesUp w (F_K_wellOf w a1) a0 a3 = (-1) then F_N_partsUp 6 w a1 (a2 - 1) a3 a4 else F_N_partsUp 6 w a1 (a2 - 1) (zz_and a3 (zz_xor (zz_shl 1 (F_K_comesUp w (F_K_wellOf w a1) a0 a3)) (-1))) a4
set_option maxRecDepth 4000 in
theorem c_N_partsUpBy {d : Nat} {w : z_Wd} {a0 a1 a2 a3 a4 : Int} {Q : Option z_V → z_Wd → Prop} (h : P_N_partsUpBy w a0 a1 a2 a3 a4) (k : Q (some (zI (F_N_partsUpBy w a0 a1 a2 a3 a4))) w) : z_Wc (d + 18) m_X8_partsUpBy [zR 76, zI a0, zI a1, zI a2, zI a3, zI a4] w Q := by
  unfold P_N_partsUpBy at h
  unfold F_N_partsUpBy at k
  refine z_enter rfl (Nat.le_of_ble_eq_true rfl) ?_
  show z_Wp m_X8_partsUpBy _ 0 [(0, zR 76), (1, zI a0), (2, zI a1), (3, zI a2), (4, zI a3), (5, zI a4)] [] w _
  refine z_aload_n (pc' := 1) 0 rfl rfl dX8_partsUpBy_0 rfl ?_
  refine z_getR (t := 41) (pc' := 4) g_X8_19 (by decide) rfl rfl dX8_partsUpBy_1 rfl ?_
  refine z_aload_n (pc' := 5) 0 rfl rfl dX8_partsUpBy_4 rfl ?_
  refine z_getR (t := 41) (pc' := 8) g_X8_19 (by decide) rfl rfl dX8_partsUpBy_5 rfl ?_
  refine z_iload_n (pc' := 9) 2 rfl rfl dX8_partsUpBy_8 rfl ?_
  refine z_invV (as := [zI a1]) (st := [zR 41]) (C := m_X3_wellOf) (fs := [32, 44, 45, 46, 47, 48, 0, 0, 0]) (pc' := 12) dX8_partsUpBy_9 rfl t_5_109 k_X3_wellOf rfl (by decide) rfl rfl rfl rfl (Nat.le_of_ble_eq_true rfl) ?_
  obtain ⟨r1, h⟩ := h
  refine c_K_wellOf r1 ?_
  show z_Wp m_X8_partsUpBy _ 12 [(0, zR 76), (1, zI a0), (2, zI a1), (3, zI a2), (4, zI a3), (5, zI a4)] [zI (F_K_wellOf w a1), zR 41] w _
  refine z_iload_n (pc' := 13) 1 rfl rfl dX8_partsUpBy_12 rfl ?_
  refine z_iload (pc' := 15) 4 rfl dX8_partsUpBy_13 rfl ?_
  refine z_invV (as := [zI (F_K_wellOf w a1), zI a0, zI a3]) (st := []) (C := m_X3_comesUp) (fs := [32, 44, 45, 46, 47, 48, 0, 0, 0]) (pc' := 18) dX8_partsUpBy_15 rfl t_5_71 k_X3_comesUp rfl (by decide) rfl rfl rfl rfl (Nat.le_of_ble_eq_true rfl) ?_
  obtain ⟨r2, h⟩ := h
  refine c_K_comesUp r2 ?_
  show z_Wp m_X8_partsUpBy _ 18 [(0, zR 76), (1, zI a0), (2, zI a1), (3, zI a2), (4, zI a3), (5, zI a4)] [zI (F_K_comesUp w (F_K_wellOf w a1) a0 a3)] w _
  refine z_istore (pc' := 20) (ls' := [(0, zR 76), (1, zI a0), (2, zI a1), (3, zI a2), (4, zI a3), (5, zI a4), (6, zI (F_K_comesUp w (F_K_wellOf w a1) a0 a3))]) (by decide) rfl rfl dX8_partsUpBy_18 rfl ?_
  refine z_iload (pc' := 22) 6 rfl dX8_partsUpBy_20 rfl ?_
  refine z_iload_n (pc' := 23) 2 rfl rfl dX8_partsUpBy_22 rfl ?_
  obtain ⟨r3, h⟩ := h
  obtain ⟨r4, h⟩ := h
  refine z_icmp_ne 29 dX8_partsUpBy_23 (by decide) (pc' := 26) rfl r3 r4 (fun c => ?_) (fun c => ?_)
  · have h := h.2 c
    rw [if_neg c] at k
    refine z_iload (pc' := 31) 6 rfl dX8_partsUpBy_29 rfl ?_
    refine z_iconst (pc' := 32) dX8_partsUpBy_31 rfl ?_
    refine z_icmp_ne 40 dX8_partsUpBy_32 (by decide) (pc' := 35) rfl r3 (by decide) (fun c => ?_) (fun c => ?_)
    · have h := h.2 c
      rw [if_neg c] at k
      refine z_iload (pc' := 42) 4 rfl dX8_partsUpBy_40 rfl ?_
      refine z_iconst (pc' := 43) dX8_partsUpBy_42 rfl ?_
      refine z_iload (pc' := 45) 6 rfl dX8_partsUpBy_43 rfl ?_
      refine z_ishl (pc' := 46) dX8_partsUpBy_45 rfl ?_
      refine z_iconst (pc' := 47) dX8_partsUpBy_46 rfl ?_
      refine z_ixor (pc' := 48) dX8_partsUpBy_47 rfl ?_
      refine z_iand (pc' := 49) dX8_partsUpBy_48 rfl ?_
      refine z_istore (pc' := 51) (ls' := [(0, zR 76), (1, zI a0), (2, zI a1), (3, zI a2), (4, zI a3), (5, zI a4), (6, zI (F_K_comesUp w (F_K_wellOf w a1) a0 a3)), (7, zI (zz_and a3 (zz_xor (zz_shl 1 (F_K_comesUp w (F_K_wellOf w a1) a0 a3)) (-1))))]) (by decide) rfl rfl dX8_partsUpBy_49 rfl ?_
      refine z_aload_n (pc' := 52) 0 rfl rfl dX8_partsUpBy_51 rfl ?_
      refine z_iload_n (pc' := 53) 2 rfl rfl dX8_partsUpBy_52 rfl ?_
      refine z_iload_n (pc' := 54) 3 rfl rfl dX8_partsUpBy_53 rfl ?_
      refine z_iconst (pc' := 55) dX8_partsUpBy_54 rfl ?_
      refine z_isub (pc' := 56) dX8_partsUpBy_55 rfl ?_
      refine z_iload (pc' := 58) 7 rfl dX8_partsUpBy_56 rfl ?_
      refine z_iload (pc' := 60) 5 rfl dX8_partsUpBy_58 rfl ?_
      refine z_invV (as := [zI a1, zI (a2 - 1), zI (zz_and a3 (zz_xor (zz_shl 1 (F_K_comesUp w (F_K_wellOf w a1) a0 a3)) (-1))), zI a4]) (st := []) (C := m_X8_partsUp) (fs := [32, 43, 79]) (pc' := 63) dX8_partsUpBy_60 rfl t_5_110 k_X8_partsUp rfl (by decide) rfl rfl rfl rfl (Nat.le_of_ble_eq_true rfl) ?_
      have r5 := h
      refine (c_N_partsUp (n9 := 6)) r5 ?_
      show z_Wp m_X8_partsUpBy _ 63 [(0, zR 76), (1, zI a0), (2, zI a1), (3, zI a2), (4, zI a3), (5, zI a4), (6, zI (F_K_comesUp w (F_K_wellOf w a1) a0 a3)), (7, zI (zz_and a3 (zz_xor (zz_shl 1 (F_K_comesUp w (F_K_wellOf w a1) a0 a3)) (-1))))] [zI (F_N_partsUp 6 w a1 (a2 - 1) (zz_and a3 (zz_xor (zz_shl 1 (F_K_comesUp w (F_K_wellOf w a1) a0 a3)) (-1))) a4)] w _
      refine z_iret rfl dX8_partsUpBy_63 ?_
      exact k
    · have h := h.1 c
      rw [if_pos c] at k
      refine z_iload (pc' := 37) 4 rfl dX8_partsUpBy_35 rfl ?_
      refine z_goto 49 dX8_partsUpBy_37 (by decide) ?_
      refine z_istore (pc' := 51) (ls' := [(0, zR 76), (1, zI a0), (2, zI a1), (3, zI a2), (4, zI a3), (5, zI a4), (6, zI (F_K_comesUp w (F_K_wellOf w a1) a0 a3)), (7, zI a3)]) (by decide) rfl rfl dX8_partsUpBy_49 rfl ?_
      refine z_aload_n (pc' := 52) 0 rfl rfl dX8_partsUpBy_51 rfl ?_
      refine z_iload_n (pc' := 53) 2 rfl rfl dX8_partsUpBy_52 rfl ?_
      refine z_iload_n (pc' := 54) 3 rfl rfl dX8_partsUpBy_53 rfl ?_
      refine z_iconst (pc' := 55) dX8_partsUpBy_54 rfl ?_
      refine z_isub (pc' := 56) dX8_partsUpBy_55 rfl ?_
      refine z_iload (pc' := 58) 7 rfl dX8_partsUpBy_56 rfl ?_
      refine z_iload (pc' := 60) 5 rfl dX8_partsUpBy_58 rfl ?_
      refine z_invV (as := [zI a1, zI (a2 - 1), zI a3, zI a4]) (st := []) (C := m_X8_partsUp) (fs := [32, 43, 79]) (pc' := 63) dX8_partsUpBy_60 rfl t_5_110 k_X8_partsUp rfl (by decide) rfl rfl rfl rfl (Nat.le_of_ble_eq_true rfl) ?_
      have r6 := h
      refine (c_N_partsUp (n9 := 6)) r6 ?_
      show z_Wp m_X8_partsUpBy _ 63 [(0, zR 76), (1, zI a0), (2, zI a1), (3, zI a2), (4, zI a3), (5, zI a4), (6, zI (F_K_comesUp w (F_K_wellOf w a1) a0 a3)), (7, zI a3)] [zI (F_N_partsUp 6 w a1 (a2 - 1) a3 a4)] w _
      refine z_iret rfl dX8_partsUpBy_63 ?_
      exact k
  · have h := h.1 c
    rw [if_pos c] at k
    refine z_iload (pc' := 28) 5 rfl dX8_partsUpBy_26 rfl ?_
    refine z_iret rfl dX8_partsUpBy_28 ?_
    exact k
def A_P_place_2 (w : z_Wd) (a0 : Int) : Nat → z_Wd
  | 0 => w
  | i7 + 1 => z_up (A_P_place_2 w a0 i7) 71 ((i7 : Int).toNat) ((F_K_depth (A_P_place_2 w a0 i7) (i7 : Int)) - (F_Y_dropsOf (A_P_place_2 w a0 i7) (F_K_inside (A_P_place_2 w a0 i7) (i7 : Int))))
def P_P_place (w : z_Wd) (a0 : Int) : Prop := (∀ i7 : Nat, i7 < ((w 32 1).toNat) → (-2147483648 ≤ (i7 : Int) ∧ (i7 : Int) < 2147483648) ∧ (-2147483648 ≤ (A_P_place_2 w a0 i7) 32 1 ∧ (A_P_place_2 w a0 i7) 32 1 < 2147483648) ∧ ((A_P_place_2 w a0 i7) 32 1 = w 32 1) ∧ ((P_K_depth (A_P_place_2 w a0 i7) (i7 : Int)) ∧ (P_K_inside (A_P_place_2 w a0 i7) (i7 : Int)) ∧ (P_Y_dropsOf (A_P_place_2 w a0 i7) (F_K_inside (A_P_place_2 w a0 i7) (i7 : Int)))) ∧ (0 ≤ (i7 : Int) ∧ (i7 : Int) < 4)) ∧ ((-2147483648 ≤ (((w 32 1).toNat : Nat) : Int) ∧ (((w 32 1).toNat : Nat) : Int) < 2147483648) ∧ (-2147483648 ≤ (A_P_place_2 w a0 (w 32 1).toNat) 32 1 ∧ (A_P_place_2 w a0 (w 32 1).toNat) 32 1 < 2147483648) ∧ ((A_P_place_2 w a0 (w 32 1).toNat) 32 1 = w 32 1) ∧ (P_P_placeFrom 9 (z_up (z_up (A_P_place_2 w a0 (w 32 1).toNat) 70 3 (((A_P_place_2 w a0 (w 32 1).toNat) 32 1) + 1)) 70 4 (-1)) 0 a0 0 0) ∧ (-2147483648 ≤ (F_P_placeFrom 9 (z_up (z_up (A_P_place_2 w a0 (w 32 1).toNat) 70 3 (((A_P_place_2 w a0 (w 32 1).toNat) 32 1) + 1)) 70 4 (-1)) 0 a0 0 0) 70 4 ∧ (F_P_placeFrom 9 (z_up (z_up (A_P_place_2 w a0 (w 32 1).toNat) 70 3 (((A_P_place_2 w a0 (w 32 1).toNat) 32 1) + 1)) 70 4 (-1)) 0 a0 0 0) 70 4 < 2147483648))
def F_P_place (w : z_Wd) (a0 : Int) : Int × z_Wd := if (F_P_placeFrom 9 (z_up (z_up (A_P_place_2 w a0 (w 32 1).toNat) 70 3 (((A_P_place_2 w a0 (w 32 1).toNat) 32 1) + 1)) 70 4 (-1)) 0 a0 0 0) 70 4 = (-1) then (0, F_P_placeFrom 9 (z_up (z_up (A_P_place_2 w a0 (w 32 1).toNat) 70 3 (((A_P_place_2 w a0 (w 32 1).toNat) 32 1) + 1)) 70 4 (-1)) 0 a0 0 0) else (1, F_P_placeFrom 9 (z_up (z_up (A_P_place_2 w a0 (w 32 1).toNat) 70 3 (((A_P_place_2 w a0 (w 32 1).toNat) 32 1) + 1)) 70 4 (-1)) 0 a0 0 0)
set_option maxRecDepth 4000 in
theorem c_P_place {d : Nat} {w : z_Wd} {a0 : Int} {Q : Option z_V → z_Wd → Prop} (h : P_P_place w a0) (k : Q (some (zI (F_P_place w a0).1)) (F_P_place w a0).2) : z_Wc (d + 13) m_X9_place [zR 70, zI a0] w Q := by
  unfold P_P_place at h
  unfold F_P_place at k
  refine z_enter rfl (Nat.le_of_ble_eq_true rfl) ?_
  show z_Wp m_X9_place _ 0 [(0, zR 70), (1, zI a0)] [] w _
  refine z_iconst (pc' := 1) dX9_place_0 rfl ?_
  refine z_istore_n (pc' := 2) (ls' := [(0, zR 70), (1, zI a0), (2, zI 0)]) rfl (by decide) rfl rfl dX9_place_1 rfl ?_
  refine z_upto ((w 32 1).toNat) (fun i7 => z_Wp m_X9_place (d + 13) 2 [(0, zR 70), (1, zI a0), (2, zI (i7 : Int))] [] (A_P_place_2 w a0 i7) Q) ?_ ?_
  · skip
    have h := h.2
    refine z_iload_n (pc' := 3) 2 rfl rfl dX9_place_2 rfl ?_
    refine z_aload_n (pc' := 4) 0 rfl rfl dX9_place_3 rfl ?_
    refine z_getR (t := 30) (pc' := 7) g_X9_17 (by decide) rfl rfl dX9_place_4 rfl ?_
    refine z_invV (as := []) (st := [zI (((w 32 1).toNat : Nat) : Int)]) (C := m_X6_wells) (fs := [33, 34]) (pc' := 10) dX9_place_7 rfl t_4_216 k_X6_wells rfl (by decide) rfl rfl rfl rfl (Nat.le_of_ble_eq_true rfl) ?_
    refine c_Y_wells ?_
    show z_Wp m_X9_place _ 10 [(0, zR 70), (1, zI a0), (2, zI (((w 32 1).toNat : Nat) : Int))] [zI ((A_P_place_2 w a0 (w 32 1).toNat) 32 1), zI (((w 32 1).toNat : Nat) : Int)] (A_P_place_2 w a0 (w 32 1).toNat) _
    obtain ⟨r13, h⟩ := h
    obtain ⟨r14, h⟩ := h
    obtain ⟨r15, h⟩ := h
    refine z_icmp_ge 33 dX9_place_10 (by decide) (pc' := 13) rfl r13 r14 (fun _ => ?_) (fun c => absurd c (by first | omega | (rw [r15]; first | exact z_exitgt | exact z_exitge | omega)))
    refine z_aload_n (pc' := 34) 0 rfl rfl dX9_place_33 rfl ?_
    refine z_aload_n (pc' := 35) 0 rfl rfl dX9_place_34 rfl ?_
    refine z_getR (t := 30) (pc' := 38) g_X9_17 (by decide) rfl rfl dX9_place_35 rfl ?_
    refine z_invV (as := []) (st := [zR 70]) (C := m_X6_wells) (fs := [33, 34]) (pc' := 41) dX9_place_38 rfl t_4_216 k_X6_wells rfl (by decide) rfl rfl rfl rfl (Nat.le_of_ble_eq_true rfl) ?_
    refine c_Y_wells ?_
    show z_Wp m_X9_place _ 41 [(0, zR 70), (1, zI a0), (2, zI (((w 32 1).toNat : Nat) : Int))] [zI ((A_P_place_2 w a0 (w 32 1).toNat) 32 1), zR 70] (A_P_place_2 w a0 (w 32 1).toNat) _
    refine z_iconst (pc' := 42) dX9_place_41 rfl ?_
    refine z_iadd (pc' := 43) dX9_place_42 rfl ?_
    refine z_putI (pc' := 46) p_X9_29 (by decide) rfl rfl rfl rfl dX9_place_43 rfl ?_
    refine z_aload_n (pc' := 47) 0 rfl rfl dX9_place_46 rfl ?_
    refine z_iconst (pc' := 48) dX9_place_47 rfl ?_
    refine z_putI (pc' := 51) p_X9_25 (by decide) rfl rfl rfl rfl dX9_place_48 rfl ?_
    refine z_aload_n (pc' := 52) 0 rfl rfl dX9_place_51 rfl ?_
    refine z_iconst (pc' := 53) dX9_place_52 rfl ?_
    refine z_iload_n (pc' := 54) 1 rfl rfl dX9_place_53 rfl ?_
    refine z_iconst (pc' := 55) dX9_place_54 rfl ?_
    refine z_iconst (pc' := 56) dX9_place_55 rfl ?_
    refine z_invV (as := [zI 0, zI a0, zI 0, zI 0]) (st := []) (C := m_X9_placeFrom) (fs := [32, 43, 73, 0, 0]) (pc' := 59) dX9_place_56 rfl t_4_218 k_X9_placeFrom rfl (by decide) rfl rfl rfl rfl (Nat.le_of_ble_eq_true rfl) ?_
    obtain ⟨r16, h⟩ := h
    refine (c_P_placeFrom (n9 := 9)) r16 ?_
    show z_Wp m_X9_place _ 59 [(0, zR 70), (1, zI a0), (2, zI (((w 32 1).toNat : Nat) : Int))] [] (F_P_placeFrom 9 (z_up (z_up (A_P_place_2 w a0 (w 32 1).toNat) 70 3 (((A_P_place_2 w a0 (w 32 1).toNat) 32 1) + 1)) 70 4 (-1)) 0 a0 0 0) _
    refine z_aload_n (pc' := 60) 0 rfl rfl dX9_place_59 rfl ?_
    refine z_getI2 (v := (F_P_placeFrom 9 (z_up (z_up (A_P_place_2 w a0 (w 32 1).toNat) 70 3 (((A_P_place_2 w a0 (w 32 1).toNat) 32 1) + 1)) 70 4 (-1)) 0 a0 0 0) 70 4) (pc' := 63) g_X9_25 (by decide) rfl rfl rfl dX9_place_60 rfl ?_
    refine z_iconst (pc' := 64) dX9_place_63 rfl ?_
    have r17 := h
    refine z_icmp_eq 71 dX9_place_64 (by decide) (pc' := 67) rfl r17 (by decide) (fun c => ?_) (fun c => ?_)
    · skip
      rw [if_pos c] at k
      refine z_iconst (pc' := 72) dX9_place_71 rfl ?_
      refine z_zret rfl (by decide) dX9_place_72 ?_
      exact k
    · skip
      rw [if_neg c] at k
      refine z_iconst (pc' := 68) dX9_place_67 rfl ?_
      refine z_goto 72 dX9_place_68 (by decide) ?_
      refine z_zret rfl (by decide) dX9_place_72 ?_
      exact k
  · intro i7 hi ih
    have h := h.1 i7 hi
    have ih : z_Wp m_X9_place (d + 13) 2 [(0, zR 70), (1, zI a0), (2, zI ((i7 + 1 : Nat) : Int))] [] (z_up (A_P_place_2 w a0 i7) 71 ((i7 : Int).toNat) ((F_K_depth (A_P_place_2 w a0 i7) (i7 : Int)) - (F_Y_dropsOf (A_P_place_2 w a0 i7) (F_K_inside (A_P_place_2 w a0 i7) (i7 : Int))))) Q := ih
    refine z_iload_n (pc' := 3) 2 rfl rfl dX9_place_2 rfl ?_
    refine z_aload_n (pc' := 4) 0 rfl rfl dX9_place_3 rfl ?_
    refine z_getR (t := 30) (pc' := 7) g_X9_17 (by decide) rfl rfl dX9_place_4 rfl ?_
    refine z_invV (as := []) (st := [zI (i7 : Int)]) (C := m_X6_wells) (fs := [33, 34]) (pc' := 10) dX9_place_7 rfl t_4_216 k_X6_wells rfl (by decide) rfl rfl rfl rfl (Nat.le_of_ble_eq_true rfl) ?_
    refine c_Y_wells ?_
    show z_Wp m_X9_place _ 10 [(0, zR 70), (1, zI a0), (2, zI (i7 : Int))] [zI ((A_P_place_2 w a0 i7) 32 1), zI (i7 : Int)] (A_P_place_2 w a0 i7) _
    obtain ⟨r8, h⟩ := h
    obtain ⟨r9, h⟩ := h
    obtain ⟨r10, h⟩ := h
    refine z_icmp_ge 33 dX9_place_10 (by decide) (pc' := 13) rfl r8 r9 (fun c => absurd c (by first | omega | (rw [r10]; first | exact z_exitgt | exact z_exitge | omega))) (fun _ => ?_)
    refine z_aload_n (pc' := 14) 0 rfl rfl dX9_place_13 rfl ?_
    refine z_getR (t := 71) (pc' := 17) g_X9_11 (by decide) rfl rfl dX9_place_14 rfl ?_
    refine z_iload_n (pc' := 18) 2 rfl rfl dX9_place_17 rfl ?_
    refine z_aload_n (pc' := 19) 0 rfl rfl dX9_place_18 rfl ?_
    refine z_getR (t := 41) (pc' := 22) g_X9_21 (by decide) rfl rfl dX9_place_19 rfl ?_
    refine z_iload_n (pc' := 23) 2 rfl rfl dX9_place_22 rfl ?_
    refine z_invV (as := [zI (i7 : Int)]) (st := [zI (i7 : Int), zR 71]) (C := m_X3_room) (fs := [32, 44, 45, 46, 47, 48, 0, 0, 0]) (pc' := 26) dX9_place_23 rfl t_4_217 k_X3_room rfl (by decide) rfl rfl rfl rfl (Nat.le_of_ble_eq_true rfl) ?_
    obtain ⟨r11, h⟩ := h
    refine c_K_room r11 ?_
    show z_Wp m_X9_place _ 26 [(0, zR 70), (1, zI a0), (2, zI (i7 : Int))] [zI ((F_K_depth (A_P_place_2 w a0 i7) (i7 : Int)) - (F_Y_dropsOf (A_P_place_2 w a0 i7) (F_K_inside (A_P_place_2 w a0 i7) (i7 : Int)))), zI (i7 : Int), zR 71] (A_P_place_2 w a0 i7) _
    have r12 := h
    refine z_iast2 (w' := z_up (A_P_place_2 w a0 i7) 71 ((i7 : Int).toNat) ((F_K_depth (A_P_place_2 w a0 i7) (i7 : Int)) - (F_Y_dropsOf (A_P_place_2 w a0 i7) (F_K_inside (A_P_place_2 w a0 i7) (i7 : Int))))) (pc' := 27) (by decide) rfl r12 (by decide) rfl dX9_place_26 rfl ?_
    refine z_iinc (pc' := 30) (ls' := [(0, zR 70), (1, zI a0), (2, zI ((i7 : Int) + 1))]) 2 rfl (by decide) rfl rfl dX9_place_27 rfl ?_
    refine z_goto 2 dX9_place_30 (by decide) ?_
    exact ih
def P_D_faction (w : z_Wd) (a0 : Int) (a1 : Int) : Prop := (-2147483648 ≤ a0 ∧ a0 < 2147483648) ∧ ((a0 ≤ 0 → True) ∧ (¬ (a0 ≤ 0) → (-2147483648 ≤ (zz_shl 1 (w 32 2)) - 1 ∧ (zz_shl 1 (w 32 2)) - 1 < 2147483648) ∧ ((a0 > (zz_shl 1 (w 32 2)) - 1 → True) ∧ (¬ (a0 > (zz_shl 1 (w 32 2)) - 1) → (P_K_inside w (-1)) ∧ (-2147483648 ≤ zz_and a0 (zz_and ((zz_shl 1 (w 32 2)) - 1) (zz_xor (F_K_inside w (-1)) (-1))) ∧ zz_and a0 (zz_and ((zz_shl 1 (w 32 2)) - 1) (zz_xor (F_K_inside w (-1)) (-1))) < 2147483648) ∧ ((zz_and a0 (zz_and ((zz_shl 1 (w 32 2)) - 1) (zz_xor (F_K_inside w (-1)) (-1))) = 0 → (P_P_place w a0) ∧ (-2147483648 ≤ (F_P_place w a0).1 ∧ (F_P_place w a0).1 < 2147483648) ∧ (((F_P_place w a0).1 = 0 → True) ∧ (¬ ((F_P_place w a0).1 = 0) → -2147483648 ≤ a1 ∧ a1 < 2147483648))) ∧ (¬ (zz_and a0 (zz_and ((zz_shl 1 (w 32 2)) - 1) (zz_xor (F_K_inside w (-1)) (-1))) = 0) → True))))))
def F_D_faction (w : z_Wd) (a0 : Int) (a1 : Int) : Int × z_Wd := if a0 ≤ 0 then ((-1), w) else if a0 > (zz_shl 1 (w 32 2)) - 1 then ((-1), w) else if zz_and a0 (zz_and ((zz_shl 1 (w 32 2)) - 1) (zz_xor (F_K_inside w (-1)) (-1))) = 0 then if (F_P_place w a0).1 = 0 then ((-1), (F_P_place w a0).2) else if a1 = 0 then (((F_P_place w a0).2) 70 4, (F_P_place w a0).2) else if a1 = 1 then (((F_P_place w a0).2) 70 3, (F_P_place w a0).2) else ((-1), (F_P_place w a0).2) else ((-1), w)
set_option maxRecDepth 4000 in
theorem c_D_faction {d : Nat} {w : z_Wd} {a0 a1 : Int} {Q : Option z_V → z_Wd → Prop} (h : P_D_faction w a0 a1) (k : Q (some (zI (F_D_faction w a0 a1).1)) (F_D_faction w a0 a1).2) : z_Wc (d + 14) m_X11_faction [zR 27, zI a0, zI a1] w Q := by
  unfold P_D_faction at h
  unfold F_D_faction at k
  refine z_enter rfl (Nat.le_of_ble_eq_true rfl) ?_
  show z_Wp m_X11_faction _ 0 [(0, zR 27), (1, zI a0), (2, zI a1)] [] w _
  refine z_iload_n (pc' := 1) 1 rfl rfl dX11_faction_0 rfl ?_
  obtain ⟨r1, h⟩ := h
  refine z_if_le 38 dX11_faction_1 (by decide) (pc' := 4) rfl r1 (fun c => ?_) (fun c => ?_)
  · have h := h.1 c
    rw [if_pos c] at k
    refine z_iconst (pc' := 39) dX11_faction_38 rfl ?_
    refine z_iret rfl dX11_faction_39 ?_
    exact k
  · have h := h.2 c
    rw [if_neg c] at k
    refine z_iload_n (pc' := 5) 1 rfl rfl dX11_faction_4 rfl ?_
    refine z_aload_n (pc' := 6) 0 rfl rfl dX11_faction_5 rfl ?_
    refine z_getR (t := 30) (pc' := 9) g_X11_19 (by decide) rfl rfl dX11_faction_6 rfl ?_
    refine z_invV (as := []) (st := [zI a0]) (C := m_X6_all) (fs := [33, 34]) (pc' := 12) dX11_faction_9 rfl t_4_211 k_X6_all rfl (by decide) rfl rfl rfl rfl (Nat.le_of_ble_eq_true rfl) ?_
    refine c_Y_all ?_
    show z_Wp m_X11_faction _ 12 [(0, zR 27), (1, zI a0), (2, zI a1)] [zI ((zz_shl 1 (w 32 2)) - 1), zI a0] w _
    obtain ⟨r2, h⟩ := h
    refine z_icmp_gt 38 dX11_faction_12 (by decide) (pc' := 15) rfl r1 r2 (fun c => ?_) (fun c => ?_)
    · have h := h.1 c
      rw [if_pos c] at k
      refine z_iconst (pc' := 39) dX11_faction_38 rfl ?_
      refine z_iret rfl dX11_faction_39 ?_
      exact k
    · have h := h.2 c
      rw [if_neg c] at k
      refine z_iload_n (pc' := 16) 1 rfl rfl dX11_faction_15 rfl ?_
      refine z_aload_n (pc' := 17) 0 rfl rfl dX11_faction_16 rfl ?_
      refine z_getR (t := 41) (pc' := 20) g_X11_44 (by decide) rfl rfl dX11_faction_17 rfl ?_
      refine z_invV (as := []) (st := [zI a0]) (C := m_X3_drowned) (fs := [32, 44, 45, 46, 47, 48, 0, 0, 0]) (pc' := 23) dX11_faction_20 rfl t_3_154 k_X3_drowned rfl (by decide) rfl rfl rfl rfl (Nat.le_of_ble_eq_true rfl) ?_
      obtain ⟨r3, h⟩ := h
      refine c_K_drowned r3 ?_
      show z_Wp m_X11_faction _ 23 [(0, zR 27), (1, zI a0), (2, zI a1)] [zI (zz_and ((zz_shl 1 (w 32 2)) - 1) (zz_xor (F_K_inside w (-1)) (-1))), zI a0] w _
      refine z_iand (pc' := 24) dX11_faction_23 rfl ?_
      obtain ⟨r4, h⟩ := h
      refine z_if_ne 38 dX11_faction_24 (by decide) (pc' := 27) rfl r4 (fun c => ?_) (fun c => ?_)
      · have h := h.2 c
        rw [if_neg c] at k
        refine z_iconst (pc' := 39) dX11_faction_38 rfl ?_
        refine z_iret rfl dX11_faction_39 ?_
        exact k
      · have h := h.1 c
        rw [if_pos c] at k
        refine z_aload_n (pc' := 28) 0 rfl rfl dX11_faction_27 rfl ?_
        refine z_getR (t := 70) (pc' := 31) g_X11_70 (by decide) rfl rfl dX11_faction_28 rfl ?_
        refine z_iload_n (pc' := 32) 1 rfl rfl dX11_faction_31 rfl ?_
        refine z_invV (as := [zI a0]) (st := []) (C := m_X9_place) (fs := [32, 43, 73, 0, 0]) (pc' := 35) dX11_faction_32 rfl t_4_212 k_X9_place rfl (by decide) rfl rfl rfl rfl (Nat.le_of_ble_eq_true rfl) ?_
        obtain ⟨r5, h⟩ := h
        refine c_P_place r5 ?_
        show z_Wp m_X11_faction _ 35 [(0, zR 27), (1, zI a0), (2, zI a1)] [zI ((F_P_place w a0).1)] ((F_P_place w a0).2) _
        obtain ⟨r6, h⟩ := h
        refine z_if_ne 40 dX11_faction_35 (by decide) (pc' := 38) rfl r6 (fun c => ?_) (fun c => ?_)
        · have h := h.2 c
          rw [if_neg c] at k
          refine z_iload_n (pc' := 41) 2 rfl rfl dX11_faction_40 rfl ?_
          have r7 := h
          refine z_lookup dX11_faction_41 (by decide) r7 ⟨fun c0 => ⟨68, by decide, ?_⟩, fun c0 => ⟨fun c1 => ⟨76, by decide, ?_⟩, fun c1 => ⟨84, by decide, ?_⟩⟩⟩
          · skip
            have c0 : a1 = 0 := c0
            rw [if_pos c0] at k
            refine z_aload_n (pc' := 69) 0 rfl rfl dX11_faction_68 rfl ?_
            refine z_getR (t := 70) (pc' := 72) g_X11_70 (by decide) rfl rfl dX11_faction_69 rfl ?_
            refine z_invV (as := []) (st := []) (C := m_X9_row) (fs := [32, 43, 73, 0, 0]) (pc' := 75) dX11_faction_72 rfl t_4_226 k_X9_row rfl (by decide) rfl rfl rfl rfl (Nat.le_of_ble_eq_true rfl) ?_
            refine c_P_row ?_
            show z_Wp m_X11_faction _ 75 [(0, zR 27), (1, zI a0), (2, zI a1)] [zI (((F_P_place w a0).2) 70 4)] ((F_P_place w a0).2) _
            refine z_iret rfl dX11_faction_75 ?_
            exact k
          · skip
            have c0 : ¬ a1 = 0 := c0
            rw [if_neg c0] at k
            have c1 : a1 = 1 := c1
            rw [if_pos c1] at k
            refine z_aload_n (pc' := 77) 0 rfl rfl dX11_faction_76 rfl ?_
            refine z_getR (t := 70) (pc' := 80) g_X11_70 (by decide) rfl rfl dX11_faction_77 rfl ?_
            refine z_invV (as := []) (st := []) (C := m_X9_fewest) (fs := [32, 43, 73, 0, 0]) (pc' := 83) dX11_faction_80 rfl t_4_230 k_X9_fewest rfl (by decide) rfl rfl rfl rfl (Nat.le_of_ble_eq_true rfl) ?_
            refine c_P_fewest ?_
            show z_Wp m_X11_faction _ 83 [(0, zR 27), (1, zI a0), (2, zI a1)] [zI (((F_P_place w a0).2) 70 3)] ((F_P_place w a0).2) _
            refine z_iret rfl dX11_faction_83 ?_
            exact k
          · skip
            have c0 : ¬ a1 = 0 := c0
            rw [if_neg c0] at k
            have c1 : ¬ a1 = 1 := c1
            rw [if_neg c1] at k
            refine z_iconst (pc' := 85) dX11_faction_84 rfl ?_
            refine z_iret rfl dX11_faction_85 ?_
            exact k
        · have h := h.1 c
          rw [if_pos c] at k
          refine z_iconst (pc' := 39) dX11_faction_38 rfl ?_
          refine z_iret rfl dX11_faction_39 ?_
          exact k
def P_D_odds (w : z_Wd) (a0 : Int) (a1 : Int) : Prop := (P_Y_hasName w a0) ∧ ((F_Y_hasName w a0 = 0 → True) ∧ (¬ (F_Y_hasName w a0 = 0) → (P_K_isFree w a0) ∧ ((F_K_isFree w a0 = 0 → (-2147483648 ≤ a1 ∧ a1 < 2147483648) ∧ ((a1 < 0 → True) ∧ (¬ (a1 < 0) → (a1 ≤ 4 → (P_K_inside w (-1)) ∧ (P_N_partsUp 6 w a0 a1 (zz_and ((zz_shl 1 (w 32 2)) - 1) (zz_xor (F_K_inside w (-1)) (-1))) 1000000000)) ∧ (¬ (a1 ≤ 4) → True)))) ∧ (¬ (F_K_isFree w a0 = 0) → True))))
def F_D_odds (w : z_Wd) (a0 : Int) (a1 : Int) : Int := if F_Y_hasName w a0 = 0 then (-1) else if F_K_isFree w a0 = 0 then if a1 < 0 then (-1) else if a1 ≤ 4 then F_N_partsUp 6 w a0 a1 (zz_and ((zz_shl 1 (w 32 2)) - 1) (zz_xor (F_K_inside w (-1)) (-1))) 1000000000 else (-1) else (-1)
set_option maxRecDepth 4000 in
theorem c_D_odds {d : Nat} {w : z_Wd} {a0 a1 : Int} {Q : Option z_V → z_Wd → Prop} (h : P_D_odds w a0 a1) (k : Q (some (zI (F_D_odds w a0 a1))) w) : z_Wc (d + 18) m_X11_odds [zR 27, zI a0, zI a1] w Q := by
  unfold P_D_odds at h
  unfold F_D_odds at k
  refine z_enter rfl (Nat.le_of_ble_eq_true rfl) ?_
  show z_Wp m_X11_odds _ 0 [(0, zR 27), (1, zI a0), (2, zI a1)] [] w _
  refine z_aload_n (pc' := 1) 0 rfl rfl dX11_odds_0 rfl ?_
  refine z_getR (t := 30) (pc' := 4) g_X11_19 (by decide) rfl rfl dX11_odds_1 rfl ?_
  refine z_iload_n (pc' := 5) 1 rfl rfl dX11_odds_4 rfl ?_
  refine z_invV (as := [zI a0]) (st := []) (C := m_X6_hasName) (fs := [33, 34]) (pc' := 8) dX11_odds_5 rfl t_3_178 k_X6_hasName rfl (by decide) rfl rfl rfl rfl (Nat.le_of_ble_eq_true rfl) ?_
  obtain ⟨r1, h⟩ := h
  refine c_Y_hasName r1 ?_
  show z_Wp m_X11_odds _ 8 [(0, zR 27), (1, zI a0), (2, zI a1)] [zI (F_Y_hasName w a0)] w _
  refine z_if_eq 31 dX11_odds_8 (by decide) (pc' := 11) rfl (z_rb b_Y_hasName) (fun c => ?_) (fun c => ?_)
  · have h := h.1 c
    rw [if_pos c] at k
    refine z_iconst (pc' := 32) dX11_odds_31 rfl ?_
    refine z_iret rfl dX11_odds_32 ?_
    exact k
  · have h := h.2 c
    rw [if_neg c] at k
    refine z_aload_n (pc' := 12) 0 rfl rfl dX11_odds_11 rfl ?_
    refine z_getR (t := 41) (pc' := 15) g_X11_44 (by decide) rfl rfl dX11_odds_12 rfl ?_
    refine z_iload_n (pc' := 16) 1 rfl rfl dX11_odds_15 rfl ?_
    refine z_invV (as := [zI a0]) (st := []) (C := m_X3_isFree) (fs := [32, 44, 45, 46, 47, 48, 0, 0, 0]) (pc' := 19) dX11_odds_16 rfl t_3_183 k_X3_isFree rfl (by decide) rfl rfl rfl rfl (Nat.le_of_ble_eq_true rfl) ?_
    obtain ⟨r2, h⟩ := h
    refine c_K_isFree r2 ?_
    show z_Wp m_X11_odds _ 19 [(0, zR 27), (1, zI a0), (2, zI a1)] [zI (F_K_isFree w a0)] w _
    refine z_if_ne 31 dX11_odds_19 (by decide) (pc' := 22) rfl (z_rb b_K_isFree) (fun c => ?_) (fun c => ?_)
    · have h := h.2 c
      rw [if_neg c] at k
      refine z_iconst (pc' := 32) dX11_odds_31 rfl ?_
      refine z_iret rfl dX11_odds_32 ?_
      exact k
    · have h := h.1 c
      rw [if_pos c] at k
      refine z_iload_n (pc' := 23) 2 rfl rfl dX11_odds_22 rfl ?_
      obtain ⟨r3, h⟩ := h
      refine z_if_lt 31 dX11_odds_23 (by decide) (pc' := 26) rfl r3 (fun c => ?_) (fun c => ?_)
      · have h := h.1 c
        rw [if_pos c] at k
        refine z_iconst (pc' := 32) dX11_odds_31 rfl ?_
        refine z_iret rfl dX11_odds_32 ?_
        exact k
      · have h := h.2 c
        rw [if_neg c] at k
        refine z_iload_n (pc' := 27) 2 rfl rfl dX11_odds_26 rfl ?_
        refine z_iconst (pc' := 28) dX11_odds_27 rfl ?_
        refine z_icmp_le 33 dX11_odds_28 (by decide) (pc' := 31) rfl r3 (by decide) (fun c => ?_) (fun c => ?_)
        · have h := h.1 c
          rw [if_pos c] at k
          refine z_aload_n (pc' := 34) 0 rfl rfl dX11_odds_33 rfl ?_
          refine z_getR (t := 76) (pc' := 37) g_X11_84 (by decide) rfl rfl dX11_odds_34 rfl ?_
          refine z_iload_n (pc' := 38) 1 rfl rfl dX11_odds_37 rfl ?_
          refine z_iload_n (pc' := 39) 2 rfl rfl dX11_odds_38 rfl ?_
          refine z_aload_n (pc' := 40) 0 rfl rfl dX11_odds_39 rfl ?_
          refine z_getR (t := 41) (pc' := 43) g_X11_44 (by decide) rfl rfl dX11_odds_40 rfl ?_
          refine z_invV (as := []) (st := [zI a1, zI a0, zR 76]) (C := m_X3_drowned) (fs := [32, 44, 45, 46, 47, 48, 0, 0, 0]) (pc' := 46) dX11_odds_43 rfl t_3_154 k_X3_drowned rfl (by decide) rfl rfl rfl rfl (Nat.le_of_ble_eq_true rfl) ?_
          obtain ⟨r4, h⟩ := h
          refine c_K_drowned r4 ?_
          show z_Wp m_X11_odds _ 46 [(0, zR 27), (1, zI a0), (2, zI a1)] [zI (zz_and ((zz_shl 1 (w 32 2)) - 1) (zz_xor (F_K_inside w (-1)) (-1))), zI a1, zI a0, zR 76] w _
          refine z_ldcw (n := 1000000000) (pc' := 49) t_5_100 (by decide) dX11_odds_46 rfl ?_
          refine z_invV (as := [zI a0, zI a1, zI (zz_and ((zz_shl 1 (w 32 2)) - 1) (zz_xor (F_K_inside w (-1)) (-1))), zI 1000000000]) (st := []) (C := m_X8_partsUp) (fs := [32, 43, 79]) (pc' := 52) dX11_odds_49 rfl t_5_101 k_X8_partsUp rfl (by decide) rfl rfl rfl rfl (Nat.le_of_ble_eq_true rfl) ?_
          have r5 := h
          refine (c_N_partsUp (n9 := 6)) r5 ?_
          show z_Wp m_X11_odds _ 52 [(0, zR 27), (1, zI a0), (2, zI a1)] [zI (F_N_partsUp 6 w a0 a1 (zz_and ((zz_shl 1 (w 32 2)) - 1) (zz_xor (F_K_inside w (-1)) (-1))) 1000000000)] w _
          refine z_iret rfl dX11_odds_52 ?_
          exact k
        · have h := h.2 c
          rw [if_neg c] at k
          refine z_iconst (pc' := 32) dX11_odds_31 rfl ?_
          refine z_iret rfl dX11_odds_32 ?_
          exact k
def L_LR_read_23 (w : z_Wd)   : Nat → Int → Int → z_Wd → Int × z_Wd
  | 0, _, _, _ => (0, w)
  | m9 + 1, u1, u2, wu => if u1 = 0 then if wu 37 2 = wu 28 1 then ((-1), wu) else (wu 37 2, wu) else if u2 ≥ 240 then if wu 37 2 = wu 28 1 then ((-1), wu) else (wu 37 2, wu) else if (F_LR_readClause wu).1 = 0 then (((F_LR_readClause wu).2) 37 2, (F_LR_readClause wu).2) else L_LR_read_23 w m9 ((F_LR_take ((F_LR_readClause wu).2) 59).1) (u2 + 1) ((F_LR_take ((F_LR_readClause wu).2) 59).2)
def PL_LR_read_23 (w : z_Wd)   : Nat → Int → Int → z_Wd → Prop
  | 0, _, _, _ => False
  | m9 + 1, u1, u2, wu => (-2147483648 ≤ u1 ∧ u1 < 2147483648) ∧ ((u1 = 0 → (-2147483648 ≤ wu 37 2 ∧ wu 37 2 < 2147483648) ∧ (-2147483648 ≤ wu 28 1 ∧ wu 28 1 < 2147483648)) ∧ (¬ (u1 = 0) → (-2147483648 ≤ u2 ∧ u2 < 2147483648) ∧ ((u2 ≥ 240 → (-2147483648 ≤ wu 37 2 ∧ wu 37 2 < 2147483648) ∧ (-2147483648 ≤ wu 28 1 ∧ wu 28 1 < 2147483648)) ∧ (¬ (u2 ≥ 240) → (P_LR_readClause wu) ∧ (-2147483648 ≤ (F_LR_readClause wu).1 ∧ (F_LR_readClause wu).1 < 2147483648) ∧ (((F_LR_readClause wu).1 = 0 → True) ∧ (¬ ((F_LR_readClause wu).1 = 0) → (P_LR_take ((F_LR_readClause wu).2) 59) ∧ (PL_LR_read_23 w m9 ((F_LR_take ((F_LR_readClause wu).2) 59).1) (u2 + 1) ((F_LR_take ((F_LR_readClause wu).2) 59).2))))))))
def P_LR_read (w : z_Wd)  : Prop := (P_T_behindBlanks (F_W_clear w) 0) ∧ (PL_LR_read_23 w 300 1 0 (z_up (F_W_clear w) 37 2 (F_T_behindBlanks (F_W_clear w) 0)))
def F_LR_read (w : z_Wd)  : Int × z_Wd := L_LR_read_23 w 300 1 0 (z_up (F_W_clear w) 37 2 (F_T_behindBlanks (F_W_clear w) 0))
set_option maxRecDepth 4000 in
theorem c_LR_read {d : Nat} {w : z_Wd} {Q : Option z_V → z_Wd → Prop} (h : P_LR_read w ) (k : Q (some (zI (F_LR_read w ).1)) (F_LR_read w ).2) : z_Wc (d + 66) m_X5_read [zR 37] w Q := by
  unfold P_LR_read at h
  unfold F_LR_read at k
  refine z_enter rfl (Nat.le_of_ble_eq_true rfl) ?_
  show z_Wp m_X5_read _ 0 [(0, zR 37)] [] w _
  refine z_aload_n (pc' := 1) 0 rfl rfl dX5_read_0 rfl ?_
  refine z_getR (t := 38) (pc' := 4) g_X5_12 (by decide) rfl rfl dX5_read_1 rfl ?_
  refine z_invV (as := []) (st := []) (C := m_X4_clear) (fs := [41, 42, 0, 0]) (pc' := 7) dX5_read_4 rfl t_2_193 k_X4_clear rfl (by decide) rfl rfl rfl rfl (Nat.le_of_ble_eq_true rfl) ?_
  refine c_W_clear ?_
  show z_Wp m_X5_read _ 7 [(0, zR 37)] [] (F_W_clear w) _
  refine z_aload_n (pc' := 8) 0 rfl rfl dX5_read_7 rfl ?_
  refine z_aload_n (pc' := 9) 0 rfl rfl dX5_read_8 rfl ?_
  refine z_getR (t := 28) (pc' := 12) g_X5_18 (by decide) rfl rfl dX5_read_9 rfl ?_
  refine z_iconst (pc' := 13) dX5_read_12 rfl ?_
  refine z_invV (as := [zI 0]) (st := [zR 37]) (C := m_X10_behindBlanks) (fs := [31, 0]) (pc' := 16) dX5_read_13 rfl t_2_197 k_X10_behindBlanks rfl (by decide) rfl rfl rfl rfl (Nat.le_of_ble_eq_true rfl) ?_
  obtain ⟨r1, h⟩ := h
  refine c_T_behindBlanks r1 ?_
  show z_Wp m_X5_read _ 16 [(0, zR 37)] [zI (F_T_behindBlanks (F_W_clear w) 0), zR 37] (F_W_clear w) _
  refine z_putI (pc' := 19) p_X5_31 (by decide) rfl rfl rfl rfl dX5_read_16 rfl ?_
  refine z_iconst (pc' := 20) dX5_read_19 rfl ?_
  refine z_istore_n (pc' := 21) (ls' := [(0, zR 37), (1, zI 1)]) rfl (by decide) rfl rfl dX5_read_20 rfl ?_
  refine z_iconst (pc' := 22) dX5_read_21 rfl ?_
  refine z_istore_n (pc' := 23) (ls' := [(0, zR 37), (1, zI 1), (2, zI 0)]) rfl (by decide) rfl rfl dX5_read_22 rfl ?_
  have hl : ∀ (m9 : Nat) (u1 : Int) (u2 : Int) (wu : z_Wd), PL_LR_read_23 w m9 u1 u2 wu → Q (some (zI (L_LR_read_23 w m9 u1 u2 wu).1)) (L_LR_read_23 w m9 u1 u2 wu).2 → z_Wp m_X5_read (d + 66) 23 [(0, zR 37), (1, zI u1), (2, zI u2)] [] wu Q := by
    clear h k
    intro m9
    induction m9 with
    | zero => intro u1 u2 wu h k; exact False.elim h
    | succ m9 ih =>
      intro u1 u2 wu h k
      have h : (-2147483648 ≤ u1 ∧ u1 < 2147483648) ∧ ((u1 = 0 → (-2147483648 ≤ wu 37 2 ∧ wu 37 2 < 2147483648) ∧ (-2147483648 ≤ wu 28 1 ∧ wu 28 1 < 2147483648)) ∧ (¬ (u1 = 0) → (-2147483648 ≤ u2 ∧ u2 < 2147483648) ∧ ((u2 ≥ 240 → (-2147483648 ≤ wu 37 2 ∧ wu 37 2 < 2147483648) ∧ (-2147483648 ≤ wu 28 1 ∧ wu 28 1 < 2147483648)) ∧ (¬ (u2 ≥ 240) → (P_LR_readClause wu) ∧ (-2147483648 ≤ (F_LR_readClause wu).1 ∧ (F_LR_readClause wu).1 < 2147483648) ∧ (((F_LR_readClause wu).1 = 0 → True) ∧ (¬ ((F_LR_readClause wu).1 = 0) → (P_LR_take ((F_LR_readClause wu).2) 59) ∧ (PL_LR_read_23 w m9 ((F_LR_take ((F_LR_readClause wu).2) 59).1) (u2 + 1) ((F_LR_take ((F_LR_readClause wu).2) 59).2)))))))) := h
      have k : Q (some (zI (if u1 = 0 then if wu 37 2 = wu 28 1 then ((-1), wu) else (wu 37 2, wu) else if u2 ≥ 240 then if wu 37 2 = wu 28 1 then ((-1), wu) else (wu 37 2, wu) else if (F_LR_readClause wu).1 = 0 then (((F_LR_readClause wu).2) 37 2, (F_LR_readClause wu).2) else L_LR_read_23 w m9 ((F_LR_take ((F_LR_readClause wu).2) 59).1) (u2 + 1) ((F_LR_take ((F_LR_readClause wu).2) 59).2)).1)) (if u1 = 0 then if wu 37 2 = wu 28 1 then ((-1), wu) else (wu 37 2, wu) else if u2 ≥ 240 then if wu 37 2 = wu 28 1 then ((-1), wu) else (wu 37 2, wu) else if (F_LR_readClause wu).1 = 0 then (((F_LR_readClause wu).2) 37 2, (F_LR_readClause wu).2) else L_LR_read_23 w m9 ((F_LR_take ((F_LR_readClause wu).2) 59).1) (u2 + 1) ((F_LR_take ((F_LR_readClause wu).2) 59).2)).2 := k
      refine z_iload_n (pc' := 24) 1 rfl rfl dX5_read_23 rfl ?_
      obtain ⟨r11, h⟩ := h
      refine z_if_eq 59 dX5_read_24 (by decide) (pc' := 27) rfl r11 (fun c => ?_) (fun c => ?_)
      · have h := h.1 c
        rw [if_pos c] at k
        refine z_aload_n (pc' := 60) 0 rfl rfl dX5_read_59 rfl ?_
        refine z_getI2 (v := wu 37 2) (pc' := 63) g_X5_31 (by decide) rfl rfl rfl dX5_read_60 rfl ?_
        refine z_aload_n (pc' := 64) 0 rfl rfl dX5_read_63 rfl ?_
        refine z_getR (t := 28) (pc' := 67) g_X5_18 (by decide) rfl rfl dX5_read_64 rfl ?_
        refine z_invV (as := []) (st := [zI (wu 37 2)]) (C := m_X10_size) (fs := [31, 0]) (pc' := 70) dX5_read_67 rfl t_3_29 k_X10_size rfl (by decide) rfl rfl rfl rfl (Nat.le_of_ble_eq_true rfl) ?_
        refine c_T_size ?_
        show z_Wp m_X5_read _ 70 [(0, zR 37), (1, zI u1), (2, zI u2)] [zI (wu 28 1), zI (wu 37 2)] wu _
        obtain ⟨r12, h⟩ := h
        have r13 := h
        refine z_icmp_ne 77 dX5_read_70 (by decide) (pc' := 73) rfl r12 r13 (fun c => ?_) (fun c => ?_)
        · skip
          rw [if_neg c] at k
          refine z_aload_n (pc' := 78) 0 rfl rfl dX5_read_77 rfl ?_
          refine z_getI2 (v := wu 37 2) (pc' := 81) g_X5_31 (by decide) rfl rfl rfl dX5_read_78 rfl ?_
          refine z_iret rfl dX5_read_81 ?_
          exact k
        · skip
          rw [if_pos c] at k
          refine z_iconst (pc' := 74) dX5_read_73 rfl ?_
          refine z_goto 81 dX5_read_74 (by decide) ?_
          refine z_iret rfl dX5_read_81 ?_
          exact k
      · have h := h.2 c
        rw [if_neg c] at k
        refine z_iload_n (pc' := 28) 2 rfl rfl dX5_read_27 rfl ?_
        refine z_sipush (pc' := 31) (by decide) dX5_read_28 rfl ?_
        obtain ⟨r14, h⟩ := h
        refine z_icmp_ge 59 dX5_read_31 (by decide) (pc' := 34) rfl r14 (by decide) (fun c => ?_) (fun c => ?_)
        · have h := h.1 c
          rw [if_pos c] at k
          refine z_aload_n (pc' := 60) 0 rfl rfl dX5_read_59 rfl ?_
          refine z_getI2 (v := wu 37 2) (pc' := 63) g_X5_31 (by decide) rfl rfl rfl dX5_read_60 rfl ?_
          refine z_aload_n (pc' := 64) 0 rfl rfl dX5_read_63 rfl ?_
          refine z_getR (t := 28) (pc' := 67) g_X5_18 (by decide) rfl rfl dX5_read_64 rfl ?_
          refine z_invV (as := []) (st := [zI (wu 37 2)]) (C := m_X10_size) (fs := [31, 0]) (pc' := 70) dX5_read_67 rfl t_3_29 k_X10_size rfl (by decide) rfl rfl rfl rfl (Nat.le_of_ble_eq_true rfl) ?_
          refine c_T_size ?_
          show z_Wp m_X5_read _ 70 [(0, zR 37), (1, zI u1), (2, zI u2)] [zI (wu 28 1), zI (wu 37 2)] wu _
          obtain ⟨r15, h⟩ := h
          have r16 := h
          refine z_icmp_ne 77 dX5_read_70 (by decide) (pc' := 73) rfl r15 r16 (fun c => ?_) (fun c => ?_)
          · skip
            rw [if_neg c] at k
            refine z_aload_n (pc' := 78) 0 rfl rfl dX5_read_77 rfl ?_
            refine z_getI2 (v := wu 37 2) (pc' := 81) g_X5_31 (by decide) rfl rfl rfl dX5_read_78 rfl ?_
            refine z_iret rfl dX5_read_81 ?_
            exact k
          · skip
            rw [if_pos c] at k
            refine z_iconst (pc' := 74) dX5_read_73 rfl ?_
            refine z_goto 81 dX5_read_74 (by decide) ?_
            refine z_iret rfl dX5_read_81 ?_
            exact k
        · have h := h.2 c
          rw [if_neg c] at k
          refine z_aload_n (pc' := 35) 0 rfl rfl dX5_read_34 rfl ?_
          refine z_invV (as := []) (st := []) (C := m_X5_readClause) (fs := [30, 40, 0]) (pc' := 38) dX5_read_35 rfl t_2_198 k_X5_readClause rfl (by decide) rfl rfl rfl rfl (Nat.le_of_ble_eq_true rfl) ?_
          obtain ⟨r17, h⟩ := h
          refine c_LR_readClause r17 ?_
          show z_Wp m_X5_read _ 38 [(0, zR 37), (1, zI u1), (2, zI u2)] [zI ((F_LR_readClause wu).1)] ((F_LR_readClause wu).2) _
          obtain ⟨r18, h⟩ := h
          refine z_if_ne 46 dX5_read_38 (by decide) (pc' := 41) rfl r18 (fun c => ?_) (fun c => ?_)
          · have h := h.2 c
            rw [if_neg c] at k
            refine z_aload_n (pc' := 47) 0 rfl rfl dX5_read_46 rfl ?_
            refine z_bipush (pc' := 49) (by decide) dX5_read_47 rfl ?_
            refine z_invV (as := [zI 59]) (st := []) (C := m_X5_take) (fs := [30, 40, 0]) (pc' := 52) dX5_read_49 rfl t_2_202 k_X5_take rfl (by decide) rfl rfl rfl rfl (Nat.le_of_ble_eq_true rfl) ?_
            obtain ⟨r19, h⟩ := h
            refine c_LR_take r19 ?_
            show z_Wp m_X5_read _ 52 [(0, zR 37), (1, zI u1), (2, zI u2)] [zI ((F_LR_take ((F_LR_readClause wu).2) 59).1)] ((F_LR_take ((F_LR_readClause wu).2) 59).2) _
            refine z_istore_n (pc' := 53) (ls' := [(0, zR 37), (1, zI ((F_LR_take ((F_LR_readClause wu).2) 59).1)), (2, zI u2)]) rfl (by decide) rfl rfl dX5_read_52 rfl ?_
            refine z_iinc (pc' := 56) (ls' := [(0, zR 37), (1, zI ((F_LR_take ((F_LR_readClause wu).2) 59).1)), (2, zI (u2 + 1))]) 2 rfl (by decide) rfl rfl dX5_read_53 rfl ?_
            refine z_goto 23 dX5_read_56 (by decide) ?_
            exact ih _ _ _ h k
          · have h := h.1 c
            rw [if_pos c] at k
            refine z_aload_n (pc' := 42) 0 rfl rfl dX5_read_41 rfl ?_
            refine z_getI2 (v := ((F_LR_readClause wu).2) 37 2) (pc' := 45) g_X5_31 (by decide) rfl rfl rfl dX5_read_42 rfl ?_
            refine z_iret rfl dX5_read_45 ?_
            exact k
  exact hl 300 _ _ _ h k
def P_D_fault (w : z_Wd) (a0 : Int) : Prop := (-2147483648 ≤ a0 ∧ a0 < 2147483648) ∧ ((a0 = 0 → P_YR_read w) ∧ (¬ a0 = 0 → (a0 = 1 → P_LR_read w) ∧ (¬ a0 = 1 → True)))
def F_D_fault (w : z_Wd) (a0 : Int) : Int × z_Wd := if a0 = 0 then ((F_YR_read w).1, (F_YR_read w).2) else if a0 = 1 then ((F_LR_read w).1, (F_LR_read w).2) else ((-2), w)
set_option maxRecDepth 4000 in
theorem c_D_fault {d : Nat} {w : z_Wd} {a0 : Int} {Q : Option z_V → z_Wd → Prop} (h : P_D_fault w a0) (k : Q (some (zI (F_D_fault w a0).1)) (F_D_fault w a0).2) : z_Wc (d + 67) m_X11_fault [zR 27, zI a0] w Q := by
  unfold P_D_fault at h
  unfold F_D_fault at k
  refine z_enter rfl (Nat.le_of_ble_eq_true rfl) ?_
  show z_Wp m_X11_fault _ 0 [(0, zR 27), (1, zI a0)] [] w _
  refine z_iload_n (pc' := 1) 1 rfl rfl dX11_fault_0 rfl ?_
  obtain ⟨r1, h⟩ := h
  refine z_lookup dX11_fault_1 (by decide) r1 ⟨fun c0 => ⟨28, by decide, ?_⟩, fun c0 => ⟨fun c1 => ⟨36, by decide, ?_⟩, fun c1 => ⟨44, by decide, ?_⟩⟩⟩
  · skip
    have c0 : a0 = 0 := c0
    have h := h.1 c0
    rw [if_pos c0] at k
    refine z_aload_n (pc' := 29) 0 rfl rfl dX11_fault_28 rfl ?_
    refine z_getR (t := 33) (pc' := 32) g_X11_28 (by decide) rfl rfl dX11_fault_29 rfl ?_
    refine z_invV (as := []) (st := []) (C := m_X7_read) (fs := [30, 36, 0]) (pc' := 35) dX11_fault_32 rfl t_2_80 k_X7_read rfl (by decide) rfl rfl rfl rfl (Nat.le_of_ble_eq_true rfl) ?_
    have r2 := h
    refine c_YR_read r2 ?_
    show z_Wp m_X11_fault _ 35 [(0, zR 27), (1, zI a0)] [zI ((F_YR_read w).1)] ((F_YR_read w).2) _
    refine z_iret rfl dX11_fault_35 ?_
    exact k
  · skip
    have c0 : ¬ a0 = 0 := c0
    have h := h.2 c0
    rw [if_neg c0] at k
    have c1 : a0 = 1 := c1
    have h := h.1 c1
    rw [if_pos c1] at k
    refine z_aload_n (pc' := 37) 0 rfl rfl dX11_fault_36 rfl ?_
    refine z_getR (t := 37) (pc' := 40) g_X11_35 (by decide) rfl rfl dX11_fault_37 rfl ?_
    refine z_invV (as := []) (st := []) (C := m_X5_read) (fs := [30, 40, 0]) (pc' := 43) dX11_fault_40 rfl t_2_189 k_X5_read rfl (by decide) rfl rfl rfl rfl (Nat.le_of_ble_eq_true rfl) ?_
    have r3 := h
    refine c_LR_read r3 ?_
    show z_Wp m_X11_fault _ 43 [(0, zR 27), (1, zI a0)] [zI ((F_LR_read w).1)] ((F_LR_read w).2) _
    refine z_iret rfl dX11_fault_43 ?_
    exact k
  · skip
    have c0 : ¬ a0 = 0 := c0
    have h := h.2 c0
    rw [if_neg c0] at k
    have c1 : ¬ a0 = 1 := c1
    have h := h.2 c1
    rw [if_neg c1] at k
    refine z_bipush (pc' := 46) (by decide) dX11_fault_44 rfl ?_
    refine z_iret rfl dX11_fault_46 ?_
    exact k
def P_D_passLaw (w : z_Wd)  : Prop := (-2147483648 ≤ w 55 4 ∧ w 55 4 < 2147483648) ∧ ((w 55 4 ≥ 4 → True) ∧ (¬ (w 55 4 ≥ 4) → (P_LR_read w) ∧ (-2147483648 ≤ (F_LR_read w).1 ∧ (F_LR_read w).1 < 2147483648) ∧ (((F_LR_read w).1 = (-1) → (P_T_cut ((F_LR_read w).2) 0) ∧ (P_G_pass_38 (F_T_cut ((F_LR_read w).2) 0))) ∧ (¬ ((F_LR_read w).1 = (-1)) → True))))
def F_D_passLaw (w : z_Wd)  : Int × z_Wd := if w 55 4 ≥ 4 then ((-1), w) else if (F_LR_read w).1 = (-1) then ((F_G_pass_38 (F_T_cut ((F_LR_read w).2) 0)).1, (F_G_pass_38 (F_T_cut ((F_LR_read w).2) 0)).2) else ((-1), (F_LR_read w).2)
set_option maxRecDepth 4000 in
theorem c_D_passLaw {d : Nat} {w : z_Wd} {Q : Option z_V → z_Wd → Prop} (h : P_D_passLaw w ) (k : Q (some (zI (F_D_passLaw w ).1)) (F_D_passLaw w ).2) : z_Wc (d + 67) m_X11_passLaw [zR 27] w Q := by
  unfold P_D_passLaw at h
  unfold F_D_passLaw at k
  refine z_enter rfl (Nat.le_of_ble_eq_true rfl) ?_
  show z_Wp m_X11_passLaw _ 0 [(0, zR 27)] [] w _
  refine z_aload_n (pc' := 1) 0 rfl rfl dX11_passLaw_0 rfl ?_
  refine z_getR (t := 55) (pc' := 4) g_X11_63 (by decide) rfl rfl dX11_passLaw_1 rfl ?_
  refine z_invV (as := []) (st := []) (C := m_X1_laws) (fs := [32, 43, 58, 59, 0, 0]) (pc' := 7) dX11_passLaw_4 rfl t_3_74 k_X1_laws rfl (by decide) rfl rfl rfl rfl (Nat.le_of_ble_eq_true rfl) ?_
  refine c_G_laws ?_
  show z_Wp m_X11_passLaw _ 7 [(0, zR 27)] [zI (w 55 4)] w _
  refine z_iconst (pc' := 8) dX11_passLaw_7 rfl ?_
  obtain ⟨r1, h⟩ := h
  refine z_icmp_ge 22 dX11_passLaw_8 (by decide) (pc' := 11) rfl r1 (by decide) (fun c => ?_) (fun c => ?_)
  · have h := h.1 c
    rw [if_pos c] at k
    refine z_iconst (pc' := 23) dX11_passLaw_22 rfl ?_
    refine z_iret rfl dX11_passLaw_23 ?_
    exact k
  · have h := h.2 c
    rw [if_neg c] at k
    refine z_aload_n (pc' := 12) 0 rfl rfl dX11_passLaw_11 rfl ?_
    refine z_getR (t := 37) (pc' := 15) g_X11_35 (by decide) rfl rfl dX11_passLaw_12 rfl ?_
    refine z_invV (as := []) (st := []) (C := m_X5_read) (fs := [30, 40, 0]) (pc' := 18) dX11_passLaw_15 rfl t_2_189 k_X5_read rfl (by decide) rfl rfl rfl rfl (Nat.le_of_ble_eq_true rfl) ?_
    obtain ⟨r2, h⟩ := h
    refine c_LR_read r2 ?_
    show z_Wp m_X11_passLaw _ 18 [(0, zR 27)] [zI ((F_LR_read w).1)] ((F_LR_read w).2) _
    refine z_iconst (pc' := 19) dX11_passLaw_18 rfl ?_
    obtain ⟨r3, h⟩ := h
    refine z_icmp_eq 24 dX11_passLaw_19 (by decide) (pc' := 22) rfl r3 (by decide) (fun c => ?_) (fun c => ?_)
    · have h := h.1 c
      rw [if_pos c] at k
      refine z_aload_n (pc' := 25) 0 rfl rfl dX11_passLaw_24 rfl ?_
      refine z_getR (t := 28) (pc' := 28) g_X11_10 (by decide) rfl rfl dX11_passLaw_25 rfl ?_
      refine z_iconst (pc' := 29) dX11_passLaw_28 rfl ?_
      refine z_invV (as := [zI 0]) (st := []) (C := m_X10_cut) (fs := [31, 0]) (pc' := 32) dX11_passLaw_29 rfl t_2_72 k_X10_cut rfl (by decide) rfl rfl rfl rfl (Nat.le_of_ble_eq_true rfl) ?_
      obtain ⟨r4, h⟩ := h
      refine c_T_cut r4 ?_
      show z_Wp m_X11_passLaw _ 32 [(0, zR 27)] [] (F_T_cut ((F_LR_read w).2) 0) _
      refine z_aload_n (pc' := 33) 0 rfl rfl dX11_passLaw_32 rfl ?_
      refine z_getR (t := 55) (pc' := 36) g_X11_63 (by decide) rfl rfl dX11_passLaw_33 rfl ?_
      refine z_aload_n (pc' := 37) 0 rfl rfl dX11_passLaw_36 rfl ?_
      refine z_getR (t := 37) (pc' := 40) g_X11_35 (by decide) rfl rfl dX11_passLaw_37 rfl ?_
      refine z_invV (as := []) (st := [zR 55]) (C := m_X5_draft) (fs := [30, 40, 0]) (pc' := 43) dX11_passLaw_40 rfl t_3_78 k_X5_draft rfl (by decide) rfl rfl rfl rfl (Nat.le_of_ble_eq_true rfl) ?_
      refine c_LR_draft ?_
      show z_Wp m_X11_passLaw _ 43 [(0, zR 27)] [zR 38, zR 55] (F_T_cut ((F_LR_read w).2) 0) _
      refine z_invV (as := [zR 38]) (st := []) (C := m_X1_pass) (fs := [32, 43, 58, 59, 0, 0]) (pc' := 46) dX11_passLaw_43 rfl t_3_82 k_X1_pass rfl (by decide) rfl rfl rfl rfl (Nat.le_of_ble_eq_true rfl) ?_
      have r5 := h
      refine c_G_pass_38 r5 ?_
      show z_Wp m_X11_passLaw _ 46 [(0, zR 27)] [zI ((F_G_pass_38 (F_T_cut ((F_LR_read w).2) 0)).1)] ((F_G_pass_38 (F_T_cut ((F_LR_read w).2) 0)).2) _
      refine z_iret rfl dX11_passLaw_46 ?_
      exact k
    · have h := h.2 c
      rw [if_neg c] at k
      refine z_iconst (pc' := 23) dX11_passLaw_22 rfl ?_
      refine z_iret rfl dX11_passLaw_23 ?_
      exact k
def P_D_text (w : z_Wd) (a0 : Int) : Prop := (-2147483648 ≤ a0 ∧ a0 < 2147483648) ∧ ((a0 = 0 → P_D_foundMinistry w) ∧ (¬ a0 = 0 → (a0 = 1 → P_D_passLaw w) ∧ (¬ a0 = 1 → True)))
def F_D_text (w : z_Wd) (a0 : Int) : Int × z_Wd := if a0 = 0 then ((F_D_foundMinistry w).1, (F_D_foundMinistry w).2) else if a0 = 1 then ((F_D_passLaw w).1, (F_D_passLaw w).2) else ((-1), w)
set_option maxRecDepth 4000 in
theorem c_D_text {d : Nat} {w : z_Wd} {a0 : Int} {Q : Option z_V → z_Wd → Prop} (h : P_D_text w a0) (k : Q (some (zI (F_D_text w a0).1)) (F_D_text w a0).2) : z_Wc (d + 68) m_X11_text [zR 27, zI a0] w Q := by
  unfold P_D_text at h
  unfold F_D_text at k
  refine z_enter rfl (Nat.le_of_ble_eq_true rfl) ?_
  show z_Wp m_X11_text _ 0 [(0, zR 27), (1, zI a0)] [] w _
  refine z_iload_n (pc' := 1) 1 rfl rfl dX11_text_0 rfl ?_
  obtain ⟨r1, h⟩ := h
  refine z_lookup dX11_text_1 (by decide) r1 ⟨fun c0 => ⟨28, by decide, ?_⟩, fun c0 => ⟨fun c1 => ⟨33, by decide, ?_⟩, fun c1 => ⟨38, by decide, ?_⟩⟩⟩
  · skip
    have c0 : a0 = 0 := c0
    have h := h.1 c0
    rw [if_pos c0] at k
    refine z_aload_n (pc' := 29) 0 rfl rfl dX11_text_28 rfl ?_
    refine z_invV (as := []) (st := []) (C := m_X11_foundMinistry) (fs := [30, 32, 35, 39, 43, 49, 55, 57, 72, 74, 78, 80, 0, 0, 1]) (pc' := 32) dX11_text_29 rfl t_3_34 k_X11_foundMinistry rfl (by decide) rfl rfl rfl rfl (Nat.le_of_ble_eq_true rfl) ?_
    have r2 := h
    refine c_D_foundMinistry r2 ?_
    show z_Wp m_X11_text _ 32 [(0, zR 27), (1, zI a0)] [zI ((F_D_foundMinistry w).1)] ((F_D_foundMinistry w).2) _
    refine z_iret rfl dX11_text_32 ?_
    exact k
  · skip
    have c0 : ¬ a0 = 0 := c0
    have h := h.2 c0
    rw [if_neg c0] at k
    have c1 : a0 = 1 := c1
    have h := h.1 c1
    rw [if_pos c1] at k
    refine z_aload_n (pc' := 34) 0 rfl rfl dX11_text_33 rfl ?_
    refine z_invV (as := []) (st := []) (C := m_X11_passLaw) (fs := [30, 32, 35, 39, 43, 49, 55, 57, 72, 74, 78, 80, 0, 0, 1]) (pc' := 37) dX11_text_34 rfl t_3_70 k_X11_passLaw rfl (by decide) rfl rfl rfl rfl (Nat.le_of_ble_eq_true rfl) ?_
    have r3 := h
    refine c_D_passLaw r3 ?_
    show z_Wp m_X11_text _ 37 [(0, zR 27), (1, zI a0)] [zI ((F_D_passLaw w).1)] ((F_D_passLaw w).2) _
    refine z_iret rfl dX11_text_37 ?_
    exact k
  · skip
    have c0 : ¬ a0 = 0 := c0
    have h := h.2 c0
    rw [if_neg c0] at k
    have c1 : ¬ a0 = 1 := c1
    have h := h.2 c1
    rw [if_neg c1] at k
    refine z_iconst (pc' := 39) dX11_text_38 rfl ?_
    refine z_iret rfl dX11_text_39 ?_
    exact k
