def A_LR_readSum_12 (w : z_Wd) (a0 : Int) (fr : Nat → z_Wd → Int → Int → Int × z_Wd): Nat → z_Wd
  | 0 => (fr 1 w a0 0).2
  | i10 + 1 => if F_LR_isEither (A_LR_readSum_12 w a0 fr i10) 43 45 = 0 then A_LR_readSum_12 w a0 fr i10 else if (fr 1 (F_LR_step (A_LR_readSum_12 w a0 fr i10)) a0 0).1 = 0 then A_LR_readSum_12 w a0 fr i10 else F_W_add ((fr 1 (F_LR_step (A_LR_readSum_12 w a0 fr i10)) a0 0).2) (F_T_at (A_LR_readSum_12 w a0 fr i10) ((A_LR_readSum_12 w a0 fr i10) 37 2)) 0
def E_LR_readSum_12 (w : z_Wd) (a0 : Int) (fr : Nat → z_Wd → Int → Int → Int × z_Wd)(i10 : Nat) : Bool := if F_LR_isEither (A_LR_readSum_12 w a0 fr i10) 43 45 = 0 then true else if (fr 1 (F_LR_step (A_LR_readSum_12 w a0 fr i10)) a0 0).1 = 0 then true else false
def R_LR_readSum_12 (w : z_Wd) (a0 : Int) (fr : Nat → z_Wd → Int → Int → Int × z_Wd)(i10 : Nat) : Int × z_Wd := if F_LR_isEither (A_LR_readSum_12 w a0 fr i10) 43 45 = 0 then (1, A_LR_readSum_12 w a0 fr i10) else if (fr 1 (F_LR_step (A_LR_readSum_12 w a0 fr i10)) a0 0).1 = 0 then (0, (fr 1 (F_LR_step (A_LR_readSum_12 w a0 fr i10)) a0 0).2) else (0, w)
def A_LR_readTerm_12 (w : z_Wd) (a0 : Int) (fr : Nat → z_Wd → Int → Int → Int × z_Wd): Nat → z_Wd
  | 0 => (fr 2 w a0 0).2
  | i10 + 1 => if F_LR_isEither (A_LR_readTerm_12 w a0 fr i10) 42 47 = 0 then A_LR_readTerm_12 w a0 fr i10 else if (fr 2 (F_LR_step (A_LR_readTerm_12 w a0 fr i10)) a0 0).1 = 0 then A_LR_readTerm_12 w a0 fr i10 else F_W_add ((fr 2 (F_LR_step (A_LR_readTerm_12 w a0 fr i10)) a0 0).2) (F_T_at (A_LR_readTerm_12 w a0 fr i10) ((A_LR_readTerm_12 w a0 fr i10) 37 2)) 0
def E_LR_readTerm_12 (w : z_Wd) (a0 : Int) (fr : Nat → z_Wd → Int → Int → Int × z_Wd)(i10 : Nat) : Bool := if F_LR_isEither (A_LR_readTerm_12 w a0 fr i10) 42 47 = 0 then true else if (fr 2 (F_LR_step (A_LR_readTerm_12 w a0 fr i10)) a0 0).1 = 0 then true else false
def R_LR_readTerm_12 (w : z_Wd) (a0 : Int) (fr : Nat → z_Wd → Int → Int → Int × z_Wd)(i10 : Nat) : Int × z_Wd := if F_LR_isEither (A_LR_readTerm_12 w a0 fr i10) 42 47 = 0 then (1, A_LR_readTerm_12 w a0 fr i10) else if (fr 2 (F_LR_step (A_LR_readTerm_12 w a0 fr i10)) a0 0).1 = 0 then (0, (fr 2 (F_LR_step (A_LR_readTerm_12 w a0 fr i10)) a0 0).2) else (0, w)
def A_LR_readCondition_13 (w : z_Wd) (a0 : Int) (a1 : Int) (fr : Nat → z_Wd → Int → Int → Int × z_Wd): Nat → z_Wd
  | 0 => (fr 4 w a0 a1).2
  | i10 + 1 => if F_T_at (A_LR_readCondition_13 w a0 a1 fr i10) ((A_LR_readCondition_13 w a0 a1 fr i10) 37 2) = 124 then if (fr 4 (F_LR_step (A_LR_readCondition_13 w a0 a1 fr i10)) a0 0).1 = 0 then A_LR_readCondition_13 w a0 a1 fr i10 else F_W_add ((fr 4 (F_LR_step (A_LR_readCondition_13 w a0 a1 fr i10)) a0 0).2) 124 0 else A_LR_readCondition_13 w a0 a1 fr i10
def E_LR_readCondition_13 (w : z_Wd) (a0 : Int) (a1 : Int) (fr : Nat → z_Wd → Int → Int → Int × z_Wd)(i10 : Nat) : Bool := if F_T_at (A_LR_readCondition_13 w a0 a1 fr i10) ((A_LR_readCondition_13 w a0 a1 fr i10) 37 2) = 124 then if (fr 4 (F_LR_step (A_LR_readCondition_13 w a0 a1 fr i10)) a0 0).1 = 0 then true else false else true
def R_LR_readCondition_13 (w : z_Wd) (a0 : Int) (a1 : Int) (fr : Nat → z_Wd → Int → Int → Int × z_Wd)(i10 : Nat) : Int × z_Wd := if F_T_at (A_LR_readCondition_13 w a0 a1 fr i10) ((A_LR_readCondition_13 w a0 a1 fr i10) 37 2) = 124 then if (fr 4 (F_LR_step (A_LR_readCondition_13 w a0 a1 fr i10)) a0 0).1 = 0 then (0, (fr 4 (F_LR_step (A_LR_readCondition_13 w a0 a1 fr i10)) a0 0).2) else (0, w) else (1, A_LR_readCondition_13 w a0 a1 fr i10)
def A_LR_readTruth_13 (w : z_Wd) (a0 : Int) (a1 : Int) (fr : Nat → z_Wd → Int → Int → Int × z_Wd): Nat → z_Wd
  | 0 => (fr 5 w a0 a1).2
  | i10 + 1 => if F_T_at (A_LR_readTruth_13 w a0 a1 fr i10) ((A_LR_readTruth_13 w a0 a1 fr i10) 37 2) = 38 then if (fr 5 (F_LR_step (A_LR_readTruth_13 w a0 a1 fr i10)) a0 0).1 = 0 then A_LR_readTruth_13 w a0 a1 fr i10 else F_W_add ((fr 5 (F_LR_step (A_LR_readTruth_13 w a0 a1 fr i10)) a0 0).2) 38 0 else A_LR_readTruth_13 w a0 a1 fr i10
def E_LR_readTruth_13 (w : z_Wd) (a0 : Int) (a1 : Int) (fr : Nat → z_Wd → Int → Int → Int × z_Wd)(i10 : Nat) : Bool := if F_T_at (A_LR_readTruth_13 w a0 a1 fr i10) ((A_LR_readTruth_13 w a0 a1 fr i10) 37 2) = 38 then if (fr 5 (F_LR_step (A_LR_readTruth_13 w a0 a1 fr i10)) a0 0).1 = 0 then true else false else true
def R_LR_readTruth_13 (w : z_Wd) (a0 : Int) (a1 : Int) (fr : Nat → z_Wd → Int → Int → Int × z_Wd)(i10 : Nat) : Int × z_Wd := if F_T_at (A_LR_readTruth_13 w a0 a1 fr i10) ((A_LR_readTruth_13 w a0 a1 fr i10) 37 2) = 38 then if (fr 5 (F_LR_step (A_LR_readTruth_13 w a0 a1 fr i10)) a0 0).1 = 0 then (0, (fr 5 (F_LR_step (A_LR_readTruth_13 w a0 a1 fr i10)) a0 0).2) else (0, w) else (1, A_LR_readTruth_13 w a0 a1 fr i10)
def F_LR : Nat → Nat → z_Wd → Int → Int → Int × z_Wd
  | 0, _, w, _, _ => (0, w)
  | n9 + 1, 0, w, a0, a1 => if (F_LR n9 1 w a0 0).1 = 0 then (0, (F_LR n9 1 w a0 0).2) else if zfind (E_LR_readSum_12 w a0 (F_LR n9)) 240 = -1 then (1, A_LR_readSum_12 w a0 (F_LR n9) 240) else R_LR_readSum_12 w a0 (F_LR n9) (zfind (E_LR_readSum_12 w a0 (F_LR n9)) 240).toNat
  | n9 + 1, 1, w, a0, a1 => if (F_LR n9 2 w a0 0).1 = 0 then (0, (F_LR n9 2 w a0 0).2) else if zfind (E_LR_readTerm_12 w a0 (F_LR n9)) 240 = -1 then (1, A_LR_readTerm_12 w a0 (F_LR n9) 240) else R_LR_readTerm_12 w a0 (F_LR n9) (zfind (E_LR_readTerm_12 w a0 (F_LR n9)) 240).toNat
  | n9 + 1, 2, w, a0, a1 => if F_T_at w (w 37 2) = 91 then if a0 < 6 then if (F_LR n9 0 (F_LR_step w) (a0 + 1) 0).1 = 0 then (0, (F_LR n9 0 (F_LR_step w) (a0 + 1) 0).2) else if (F_LR_take ((F_LR n9 0 (F_LR_step w) (a0 + 1) 0).2) 93).1 = 0 then (0, (F_LR_take ((F_LR n9 0 (F_LR_step w) (a0 + 1) 0).2) 93).2) else (1, (F_LR_take ((F_LR n9 0 (F_LR_step w) (a0 + 1) 0).2) 93).2) else (0, w) else if F_LR_letterOf w (F_T_at w (w 37 2)) = (-1) then ((F_LR_readNumber w).1, (F_LR_readNumber w).2) else (1, F_LR_step (F_W_add w 1 (F_LR_letterOf w (F_T_at w (w 37 2)))))
  | n9 + 1, 3, w, a0, a1 => if (F_LR n9 4 w a0 a1).1 = 0 then (0, (F_LR n9 4 w a0 a1).2) else if zfind (E_LR_readCondition_13 w a0 a1 (F_LR n9)) 240 = -1 then (1, A_LR_readCondition_13 w a0 a1 (F_LR n9) 240) else R_LR_readCondition_13 w a0 a1 (F_LR n9) (zfind (E_LR_readCondition_13 w a0 a1 (F_LR n9)) 240).toNat
  | n9 + 1, 4, w, a0, a1 => if (F_LR n9 5 w a0 a1).1 = 0 then (0, (F_LR n9 5 w a0 a1).2) else if zfind (E_LR_readTruth_13 w a0 a1 (F_LR n9)) 240 = -1 then (1, A_LR_readTruth_13 w a0 a1 (F_LR n9) 240) else R_LR_readTruth_13 w a0 a1 (F_LR n9) (zfind (E_LR_readTruth_13 w a0 a1 (F_LR n9)) 240).toNat
  | n9 + 1, 5, w, a0, a1 => if a1 = 0 then if F_T_at w (w 37 2) = 33 then if a0 ≥ 6 then (0, w) else if (F_LR n9 6 w (a0 + 1) (F_T_at w (w 37 2))).1 = 0 then (0, (F_LR n9 6 w (a0 + 1) (F_T_at w (w 37 2))).2) else (1, (F_LR n9 6 w (a0 + 1) (F_T_at w (w 37 2))).2) else if F_T_at w (w 37 2) = 40 then if a0 ≥ 6 then (0, w) else if (F_LR n9 6 w (a0 + 1) (F_T_at w (w 37 2))).1 = 0 then (0, (F_LR n9 6 w (a0 + 1) (F_T_at w (w 37 2))).2) else (1, (F_LR n9 6 w (a0 + 1) (F_T_at w (w 37 2))).2) else if a1 = 0 then if (F_LR n9 0 w a0 0).1 = 0 then (0, (F_LR n9 0 w a0 0).2) else if F_LR_isComparison ((F_LR n9 0 w a0 0).2) (F_T_at ((F_LR n9 0 w a0 0).2) (((F_LR n9 0 w a0 0).2) 37 2)) = 0 then (0, (F_LR n9 0 w a0 0).2) else if (F_LR n9 0 (F_LR_step ((F_LR n9 0 w a0 0).2)) a0 0).1 = 0 then (0, (F_LR n9 0 (F_LR_step ((F_LR n9 0 w a0 0).2)) a0 0).2) else (1, F_W_add ((F_LR n9 0 (F_LR_step ((F_LR n9 0 w a0 0).2)) a0 0).2) (F_T_at ((F_LR n9 0 w a0 0).2) (((F_LR n9 0 w a0 0).2) 37 2)) 0) else if F_LR_isComparison w (F_T_at w (w 37 2)) = 0 then (0, w) else if (F_LR n9 0 (F_LR_step w) a0 0).1 = 0 then (0, (F_LR n9 0 (F_LR_step w) a0 0).2) else (1, F_W_add ((F_LR n9 0 (F_LR_step w) a0 0).2) (F_T_at w (w 37 2)) 0) else if a1 = 0 then if (F_LR n9 0 w a0 0).1 = 0 then (0, (F_LR n9 0 w a0 0).2) else if F_LR_isComparison ((F_LR n9 0 w a0 0).2) (F_T_at ((F_LR n9 0 w a0 0).2) (((F_LR n9 0 w a0 0).2) 37 2)) = 0 then (0, (F_LR n9 0 w a0 0).2) else if (F_LR n9 0 (F_LR_step ((F_LR n9 0 w a0 0).2)) a0 0).1 = 0 then (0, (F_LR n9 0 (F_LR_step ((F_LR n9 0 w a0 0).2)) a0 0).2) else (1, F_W_add ((F_LR n9 0 (F_LR_step ((F_LR n9 0 w a0 0).2)) a0 0).2) (F_T_at ((F_LR n9 0 w a0 0).2) (((F_LR n9 0 w a0 0).2) 37 2)) 0) else if F_LR_isComparison w (F_T_at w (w 37 2)) = 0 then (0, w) else if (F_LR n9 0 (F_LR_step w) a0 0).1 = 0 then (0, (F_LR n9 0 (F_LR_step w) a0 0).2) else (1, F_W_add ((F_LR n9 0 (F_LR_step w) a0 0).2) (F_T_at w (w 37 2)) 0)
  | n9 + 1, 6, w, a0, a1 => if a1 = 40 then if (F_LR n9 3 (F_LR_step w) a0 0).1 = 0 then (0, (F_LR n9 3 (F_LR_step w) a0 0).2) else if (F_LR_take ((F_LR n9 3 (F_LR_step w) a0 0).2) 41).1 = 0 then (0, (F_LR_take ((F_LR n9 3 (F_LR_step w) a0 0).2) 41).2) else (1, (F_LR_take ((F_LR n9 3 (F_LR_step w) a0 0).2) 41).2) else if (F_LR n9 5 (F_LR_step w) a0 0).1 = 0 then (0, (F_LR n9 5 (F_LR_step w) a0 0).2) else (1, F_W_add ((F_LR n9 5 (F_LR_step w) a0 0).2) 33 0)
  | _ + 1, _, w, _, _ => (0, w)
def P_LR : Nat → Nat → z_Wd → Int → Int → Prop
  | 0, _, _, _, _ => False
  | n9 + 1, 0, w, a0, a1 => (P_LR n9 1 w a0 0) ∧ (-2147483648 ≤ (F_LR n9 1 w a0 0).1 ∧ (F_LR n9 1 w a0 0).1 < 2147483648) ∧ (((F_LR n9 1 w a0 0).1 = 0 → True) ∧ (¬ ((F_LR n9 1 w a0 0).1 = 0) → (∀ i10 : Nat, i10 < 240 → zfind (E_LR_readSum_12 w a0 (F_LR n9)) i10 = -1 → (-2147483648 ≤ (i10 : Int) ∧ (i10 : Int) < 2147483648) ∧ (P_LR_isEither (A_LR_readSum_12 w a0 (F_LR n9) i10) 43 45) ∧ ((F_LR_isEither (A_LR_readSum_12 w a0 (F_LR n9) i10) 43 45 = 0 → True) ∧ (¬ (F_LR_isEither (A_LR_readSum_12 w a0 (F_LR n9) i10) 43 45 = 0) → (P_T_at (A_LR_readSum_12 w a0 (F_LR n9) i10) ((A_LR_readSum_12 w a0 (F_LR n9) i10) 37 2)) ∧ (P_LR_step (A_LR_readSum_12 w a0 (F_LR n9) i10)) ∧ (P_LR n9 1 (F_LR_step (A_LR_readSum_12 w a0 (F_LR n9) i10)) a0 0) ∧ (-2147483648 ≤ (F_LR n9 1 (F_LR_step (A_LR_readSum_12 w a0 (F_LR n9) i10)) a0 0).1 ∧ (F_LR n9 1 (F_LR_step (A_LR_readSum_12 w a0 (F_LR n9) i10)) a0 0).1 < 2147483648) ∧ (((F_LR n9 1 (F_LR_step (A_LR_readSum_12 w a0 (F_LR n9) i10)) a0 0).1 = 0 → True) ∧ (¬ ((F_LR n9 1 (F_LR_step (A_LR_readSum_12 w a0 (F_LR n9) i10)) a0 0).1 = 0) → P_W_add ((F_LR n9 1 (F_LR_step (A_LR_readSum_12 w a0 (F_LR n9) i10)) a0 0).2) (F_T_at (A_LR_readSum_12 w a0 (F_LR n9) i10) ((A_LR_readSum_12 w a0 (F_LR n9) i10) 37 2)) 0))))) ∧ (True)))
  | n9 + 1, 1, w, a0, a1 => (P_LR n9 2 w a0 0) ∧ (-2147483648 ≤ (F_LR n9 2 w a0 0).1 ∧ (F_LR n9 2 w a0 0).1 < 2147483648) ∧ (((F_LR n9 2 w a0 0).1 = 0 → True) ∧ (¬ ((F_LR n9 2 w a0 0).1 = 0) → (∀ i10 : Nat, i10 < 240 → zfind (E_LR_readTerm_12 w a0 (F_LR n9)) i10 = -1 → (-2147483648 ≤ (i10 : Int) ∧ (i10 : Int) < 2147483648) ∧ (P_LR_isEither (A_LR_readTerm_12 w a0 (F_LR n9) i10) 42 47) ∧ ((F_LR_isEither (A_LR_readTerm_12 w a0 (F_LR n9) i10) 42 47 = 0 → True) ∧ (¬ (F_LR_isEither (A_LR_readTerm_12 w a0 (F_LR n9) i10) 42 47 = 0) → (P_T_at (A_LR_readTerm_12 w a0 (F_LR n9) i10) ((A_LR_readTerm_12 w a0 (F_LR n9) i10) 37 2)) ∧ (P_LR_step (A_LR_readTerm_12 w a0 (F_LR n9) i10)) ∧ (P_LR n9 2 (F_LR_step (A_LR_readTerm_12 w a0 (F_LR n9) i10)) a0 0) ∧ (-2147483648 ≤ (F_LR n9 2 (F_LR_step (A_LR_readTerm_12 w a0 (F_LR n9) i10)) a0 0).1 ∧ (F_LR n9 2 (F_LR_step (A_LR_readTerm_12 w a0 (F_LR n9) i10)) a0 0).1 < 2147483648) ∧ (((F_LR n9 2 (F_LR_step (A_LR_readTerm_12 w a0 (F_LR n9) i10)) a0 0).1 = 0 → True) ∧ (¬ ((F_LR n9 2 (F_LR_step (A_LR_readTerm_12 w a0 (F_LR n9) i10)) a0 0).1 = 0) → P_W_add ((F_LR n9 2 (F_LR_step (A_LR_readTerm_12 w a0 (F_LR n9) i10)) a0 0).2) (F_T_at (A_LR_readTerm_12 w a0 (F_LR n9) i10) ((A_LR_readTerm_12 w a0 (F_LR n9) i10) 37 2)) 0))))) ∧ (True)))
  | n9 + 1, 2, w, a0, a1 => (P_T_at w (w 37 2)) ∧ (-2147483648 ≤ F_T_at w (w 37 2) ∧ F_T_at w (w 37 2) < 2147483648) ∧ ((F_T_at w (w 37 2) = 91 → (-2147483648 ≤ a0 ∧ a0 < 2147483648) ∧ ((a0 < 6 → (P_LR_step w) ∧ (P_LR n9 0 (F_LR_step w) (a0 + 1) 0) ∧ (-2147483648 ≤ (F_LR n9 0 (F_LR_step w) (a0 + 1) 0).1 ∧ (F_LR n9 0 (F_LR_step w) (a0 + 1) 0).1 < 2147483648) ∧ (((F_LR n9 0 (F_LR_step w) (a0 + 1) 0).1 = 0 → True) ∧ (¬ ((F_LR n9 0 (F_LR_step w) (a0 + 1) 0).1 = 0) → (P_LR_take ((F_LR n9 0 (F_LR_step w) (a0 + 1) 0).2) 93) ∧ (-2147483648 ≤ (F_LR_take ((F_LR n9 0 (F_LR_step w) (a0 + 1) 0).2) 93).1 ∧ (F_LR_take ((F_LR n9 0 (F_LR_step w) (a0 + 1) 0).2) 93).1 < 2147483648)))) ∧ (¬ (a0 < 6) → True))) ∧ (¬ (F_T_at w (w 37 2) = 91) → (P_LR_letterOf w (F_T_at w (w 37 2))) ∧ (-2147483648 ≤ F_LR_letterOf w (F_T_at w (w 37 2)) ∧ F_LR_letterOf w (F_T_at w (w 37 2)) < 2147483648) ∧ ((F_LR_letterOf w (F_T_at w (w 37 2)) = (-1) → (P_LR_readNumber w) ∧ ((F_LR_readNumber w).1 = 0 ∨ (F_LR_readNumber w).1 = 1)) ∧ (¬ (F_LR_letterOf w (F_T_at w (w 37 2)) = (-1)) → (P_W_add w 1 (F_LR_letterOf w (F_T_at w (w 37 2)))) ∧ (P_LR_step (F_W_add w 1 (F_LR_letterOf w (F_T_at w (w 37 2)))))))))
  | n9 + 1, 3, w, a0, a1 => (P_LR n9 4 w a0 a1) ∧ (-2147483648 ≤ (F_LR n9 4 w a0 a1).1 ∧ (F_LR n9 4 w a0 a1).1 < 2147483648) ∧ (((F_LR n9 4 w a0 a1).1 = 0 → True) ∧ (¬ ((F_LR n9 4 w a0 a1).1 = 0) → (∀ i10 : Nat, i10 < 240 → zfind (E_LR_readCondition_13 w a0 a1 (F_LR n9)) i10 = -1 → (-2147483648 ≤ (i10 : Int) ∧ (i10 : Int) < 2147483648) ∧ (P_T_at (A_LR_readCondition_13 w a0 a1 (F_LR n9) i10) ((A_LR_readCondition_13 w a0 a1 (F_LR n9) i10) 37 2)) ∧ (-2147483648 ≤ F_T_at (A_LR_readCondition_13 w a0 a1 (F_LR n9) i10) ((A_LR_readCondition_13 w a0 a1 (F_LR n9) i10) 37 2) ∧ F_T_at (A_LR_readCondition_13 w a0 a1 (F_LR n9) i10) ((A_LR_readCondition_13 w a0 a1 (F_LR n9) i10) 37 2) < 2147483648) ∧ ((F_T_at (A_LR_readCondition_13 w a0 a1 (F_LR n9) i10) ((A_LR_readCondition_13 w a0 a1 (F_LR n9) i10) 37 2) = 124 → (P_LR_step (A_LR_readCondition_13 w a0 a1 (F_LR n9) i10)) ∧ (P_LR n9 4 (F_LR_step (A_LR_readCondition_13 w a0 a1 (F_LR n9) i10)) a0 0) ∧ (-2147483648 ≤ (F_LR n9 4 (F_LR_step (A_LR_readCondition_13 w a0 a1 (F_LR n9) i10)) a0 0).1 ∧ (F_LR n9 4 (F_LR_step (A_LR_readCondition_13 w a0 a1 (F_LR n9) i10)) a0 0).1 < 2147483648) ∧ (((F_LR n9 4 (F_LR_step (A_LR_readCondition_13 w a0 a1 (F_LR n9) i10)) a0 0).1 = 0 → True) ∧ (¬ ((F_LR n9 4 (F_LR_step (A_LR_readCondition_13 w a0 a1 (F_LR n9) i10)) a0 0).1 = 0) → P_W_add ((F_LR n9 4 (F_LR_step (A_LR_readCondition_13 w a0 a1 (F_LR n9) i10)) a0 0).2) 124 0))) ∧ (¬ (F_T_at (A_LR_readCondition_13 w a0 a1 (F_LR n9) i10) ((A_LR_readCondition_13 w a0 a1 (F_LR n9) i10) 37 2) = 124) → True))) ∧ (True)))
  | n9 + 1, 4, w, a0, a1 => (P_LR n9 5 w a0 a1) ∧ (-2147483648 ≤ (F_LR n9 5 w a0 a1).1 ∧ (F_LR n9 5 w a0 a1).1 < 2147483648) ∧ (((F_LR n9 5 w a0 a1).1 = 0 → True) ∧ (¬ ((F_LR n9 5 w a0 a1).1 = 0) → (∀ i10 : Nat, i10 < 240 → zfind (E_LR_readTruth_13 w a0 a1 (F_LR n9)) i10 = -1 → (-2147483648 ≤ (i10 : Int) ∧ (i10 : Int) < 2147483648) ∧ (P_T_at (A_LR_readTruth_13 w a0 a1 (F_LR n9) i10) ((A_LR_readTruth_13 w a0 a1 (F_LR n9) i10) 37 2)) ∧ (-2147483648 ≤ F_T_at (A_LR_readTruth_13 w a0 a1 (F_LR n9) i10) ((A_LR_readTruth_13 w a0 a1 (F_LR n9) i10) 37 2) ∧ F_T_at (A_LR_readTruth_13 w a0 a1 (F_LR n9) i10) ((A_LR_readTruth_13 w a0 a1 (F_LR n9) i10) 37 2) < 2147483648) ∧ ((F_T_at (A_LR_readTruth_13 w a0 a1 (F_LR n9) i10) ((A_LR_readTruth_13 w a0 a1 (F_LR n9) i10) 37 2) = 38 → (P_LR_step (A_LR_readTruth_13 w a0 a1 (F_LR n9) i10)) ∧ (P_LR n9 5 (F_LR_step (A_LR_readTruth_13 w a0 a1 (F_LR n9) i10)) a0 0) ∧ (-2147483648 ≤ (F_LR n9 5 (F_LR_step (A_LR_readTruth_13 w a0 a1 (F_LR n9) i10)) a0 0).1 ∧ (F_LR n9 5 (F_LR_step (A_LR_readTruth_13 w a0 a1 (F_LR n9) i10)) a0 0).1 < 2147483648) ∧ (((F_LR n9 5 (F_LR_step (A_LR_readTruth_13 w a0 a1 (F_LR n9) i10)) a0 0).1 = 0 → True) ∧ (¬ ((F_LR n9 5 (F_LR_step (A_LR_readTruth_13 w a0 a1 (F_LR n9) i10)) a0 0).1 = 0) → P_W_add ((F_LR n9 5 (F_LR_step (A_LR_readTruth_13 w a0 a1 (F_LR n9) i10)) a0 0).2) 38 0))) ∧ (¬ (F_T_at (A_LR_readTruth_13 w a0 a1 (F_LR n9) i10) ((A_LR_readTruth_13 w a0 a1 (F_LR n9) i10) 37 2) = 38) → True))) ∧ (True)))
  | n9 + 1, 5, w, a0, a1 => (-2147483648 ≤ a1 ∧ a1 < 2147483648) ∧ ((a1 = 0 → (P_T_at w (w 37 2)) ∧ (-2147483648 ≤ F_T_at w (w 37 2) ∧ F_T_at w (w 37 2) < 2147483648) ∧ ((F_T_at w (w 37 2) = 33 → (-2147483648 ≤ a0 ∧ a0 < 2147483648) ∧ ((a0 ≥ 6 → True) ∧ (¬ (a0 ≥ 6) → (P_LR n9 6 w (a0 + 1) (F_T_at w (w 37 2))) ∧ (-2147483648 ≤ (F_LR n9 6 w (a0 + 1) (F_T_at w (w 37 2))).1 ∧ (F_LR n9 6 w (a0 + 1) (F_T_at w (w 37 2))).1 < 2147483648)))) ∧ (¬ (F_T_at w (w 37 2) = 33) → (F_T_at w (w 37 2) = 40 → (-2147483648 ≤ a0 ∧ a0 < 2147483648) ∧ ((a0 ≥ 6 → True) ∧ (¬ (a0 ≥ 6) → (P_LR n9 6 w (a0 + 1) (F_T_at w (w 37 2))) ∧ (-2147483648 ≤ (F_LR n9 6 w (a0 + 1) (F_T_at w (w 37 2))).1 ∧ (F_LR n9 6 w (a0 + 1) (F_T_at w (w 37 2))).1 < 2147483648)))) ∧ (¬ (F_T_at w (w 37 2) = 40) → (a1 = 0 → (P_LR n9 0 w a0 0) ∧ (-2147483648 ≤ (F_LR n9 0 w a0 0).1 ∧ (F_LR n9 0 w a0 0).1 < 2147483648) ∧ (((F_LR n9 0 w a0 0).1 = 0 → True) ∧ (¬ ((F_LR n9 0 w a0 0).1 = 0) → (P_T_at ((F_LR n9 0 w a0 0).2) (((F_LR n9 0 w a0 0).2) 37 2)) ∧ (P_LR_isComparison ((F_LR n9 0 w a0 0).2) (F_T_at ((F_LR n9 0 w a0 0).2) (((F_LR n9 0 w a0 0).2) 37 2))) ∧ ((F_LR_isComparison ((F_LR n9 0 w a0 0).2) (F_T_at ((F_LR n9 0 w a0 0).2) (((F_LR n9 0 w a0 0).2) 37 2)) = 0 → True) ∧ (¬ (F_LR_isComparison ((F_LR n9 0 w a0 0).2) (F_T_at ((F_LR n9 0 w a0 0).2) (((F_LR n9 0 w a0 0).2) 37 2)) = 0) → (P_LR_step ((F_LR n9 0 w a0 0).2)) ∧ (P_LR n9 0 (F_LR_step ((F_LR n9 0 w a0 0).2)) a0 0) ∧ (-2147483648 ≤ (F_LR n9 0 (F_LR_step ((F_LR n9 0 w a0 0).2)) a0 0).1 ∧ (F_LR n9 0 (F_LR_step ((F_LR n9 0 w a0 0).2)) a0 0).1 < 2147483648) ∧ (((F_LR n9 0 (F_LR_step ((F_LR n9 0 w a0 0).2)) a0 0).1 = 0 → True) ∧ (¬ ((F_LR n9 0 (F_LR_step ((F_LR n9 0 w a0 0).2)) a0 0).1 = 0) → P_W_add ((F_LR n9 0 (F_LR_step ((F_LR n9 0 w a0 0).2)) a0 0).2) (F_T_at ((F_LR n9 0 w a0 0).2) (((F_LR n9 0 w a0 0).2) 37 2)) 0))))))) ∧ (¬ (a1 = 0) → (P_LR_isComparison w (F_T_at w (w 37 2))) ∧ ((F_LR_isComparison w (F_T_at w (w 37 2)) = 0 → True) ∧ (¬ (F_LR_isComparison w (F_T_at w (w 37 2)) = 0) → (P_LR_step w) ∧ (P_LR n9 0 (F_LR_step w) a0 0) ∧ (-2147483648 ≤ (F_LR n9 0 (F_LR_step w) a0 0).1 ∧ (F_LR n9 0 (F_LR_step w) a0 0).1 < 2147483648) ∧ (((F_LR n9 0 (F_LR_step w) a0 0).1 = 0 → True) ∧ (¬ ((F_LR n9 0 (F_LR_step w) a0 0).1 = 0) → P_W_add ((F_LR n9 0 (F_LR_step w) a0 0).2) (F_T_at w (w 37 2)) 0))))))))) ∧ (¬ (a1 = 0) → (a1 = 0 → (P_LR n9 0 w a0 0) ∧ (-2147483648 ≤ (F_LR n9 0 w a0 0).1 ∧ (F_LR n9 0 w a0 0).1 < 2147483648) ∧ (((F_LR n9 0 w a0 0).1 = 0 → True) ∧ (¬ ((F_LR n9 0 w a0 0).1 = 0) → (P_T_at ((F_LR n9 0 w a0 0).2) (((F_LR n9 0 w a0 0).2) 37 2)) ∧ (P_LR_isComparison ((F_LR n9 0 w a0 0).2) (F_T_at ((F_LR n9 0 w a0 0).2) (((F_LR n9 0 w a0 0).2) 37 2))) ∧ ((F_LR_isComparison ((F_LR n9 0 w a0 0).2) (F_T_at ((F_LR n9 0 w a0 0).2) (((F_LR n9 0 w a0 0).2) 37 2)) = 0 → True) ∧ (¬ (F_LR_isComparison ((F_LR n9 0 w a0 0).2) (F_T_at ((F_LR n9 0 w a0 0).2) (((F_LR n9 0 w a0 0).2) 37 2)) = 0) → (P_LR_step ((F_LR n9 0 w a0 0).2)) ∧ (P_LR n9 0 (F_LR_step ((F_LR n9 0 w a0 0).2)) a0 0) ∧ (-2147483648 ≤ (F_LR n9 0 (F_LR_step ((F_LR n9 0 w a0 0).2)) a0 0).1 ∧ (F_LR n9 0 (F_LR_step ((F_LR n9 0 w a0 0).2)) a0 0).1 < 2147483648) ∧ (((F_LR n9 0 (F_LR_step ((F_LR n9 0 w a0 0).2)) a0 0).1 = 0 → True) ∧ (¬ ((F_LR n9 0 (F_LR_step ((F_LR n9 0 w a0 0).2)) a0 0).1 = 0) → P_W_add ((F_LR n9 0 (F_LR_step ((F_LR n9 0 w a0 0).2)) a0 0).2) (F_T_at ((F_LR n9 0 w a0 0).2) (((F_LR n9 0 w a0 0).2) 37 2)) 0))))))) ∧ (¬ (a1 = 0) → (P_T_at w (w 37 2)) ∧ (P_LR_isComparison w (F_T_at w (w 37 2))) ∧ ((F_LR_isComparison w (F_T_at w (w 37 2)) = 0 → True) ∧ (¬ (F_LR_isComparison w (F_T_at w (w 37 2)) = 0) → (P_LR_step w) ∧ (P_LR n9 0 (F_LR_step w) a0 0) ∧ (-2147483648 ≤ (F_LR n9 0 (F_LR_step w) a0 0).1 ∧ (F_LR n9 0 (F_LR_step w) a0 0).1 < 2147483648) ∧ (((F_LR n9 0 (F_LR_step w) a0 0).1 = 0 → True) ∧ (¬ ((F_LR n9 0 (F_LR_step w) a0 0).1 = 0) → P_W_add ((F_LR n9 0 (F_LR_step w) a0 0).2) (F_T_at w (w 37 2)) 0)))))))
  | n9 + 1, 6, w, a0, a1 => (P_LR_step w) ∧ (-2147483648 ≤ a1 ∧ a1 < 2147483648) ∧ ((a1 = 40 → (P_LR n9 3 (F_LR_step w) a0 0) ∧ (-2147483648 ≤ (F_LR n9 3 (F_LR_step w) a0 0).1 ∧ (F_LR n9 3 (F_LR_step w) a0 0).1 < 2147483648) ∧ (((F_LR n9 3 (F_LR_step w) a0 0).1 = 0 → True) ∧ (¬ ((F_LR n9 3 (F_LR_step w) a0 0).1 = 0) → (P_LR_take ((F_LR n9 3 (F_LR_step w) a0 0).2) 41) ∧ (-2147483648 ≤ (F_LR_take ((F_LR n9 3 (F_LR_step w) a0 0).2) 41).1 ∧ (F_LR_take ((F_LR n9 3 (F_LR_step w) a0 0).2) 41).1 < 2147483648)))) ∧ (¬ (a1 = 40) → (P_LR n9 5 (F_LR_step w) a0 0) ∧ (-2147483648 ≤ (F_LR n9 5 (F_LR_step w) a0 0).1 ∧ (F_LR n9 5 (F_LR_step w) a0 0).1 < 2147483648) ∧ (((F_LR n9 5 (F_LR_step w) a0 0).1 = 0 → True) ∧ (¬ ((F_LR n9 5 (F_LR_step w) a0 0).1 = 0) → P_W_add ((F_LR n9 5 (F_LR_step w) a0 0).2) 33 0))))
  | _ + 1, _, _, _, _ => False
def S_LR_readSum (d n9 : Nat) : Prop := ∀ {w : z_Wd} {a0 : Int} {Q : Option z_V → z_Wd → Prop}, P_LR n9 0 w a0 0 → Q (some (zI (F_LR n9 0 w a0 0).1)) (F_LR n9 0 w a0 0).2 → z_Wc (d + n9 + 4) m_X5_readSum [zR 37, zI a0] w Q
def S_LR_readTerm (d n9 : Nat) : Prop := ∀ {w : z_Wd} {a0 : Int} {Q : Option z_V → z_Wd → Prop}, P_LR n9 1 w a0 0 → Q (some (zI (F_LR n9 1 w a0 0).1)) (F_LR n9 1 w a0 0).2 → z_Wc (d + n9 + 4) m_X5_readTerm [zR 37, zI a0] w Q
def S_LR_readAtom (d n9 : Nat) : Prop := ∀ {w : z_Wd} {a0 : Int} {Q : Option z_V → z_Wd → Prop}, P_LR n9 2 w a0 0 → Q (some (zI (F_LR n9 2 w a0 0).1)) (F_LR n9 2 w a0 0).2 → z_Wc (d + n9 + 4) m_X5_readAtom [zR 37, zI a0] w Q
def S_LR_readCondition (d n9 : Nat) : Prop := ∀ {w : z_Wd} {a0 a1 : Int} {Q : Option z_V → z_Wd → Prop}, P_LR n9 3 w a0 a1 → Q (some (zI (F_LR n9 3 w a0 a1).1)) (F_LR n9 3 w a0 a1).2 → z_Wc (d + n9 + 4) m_X5_readCondition [zR 37, zI a0, zI a1] w Q
def S_LR_readTruth (d n9 : Nat) : Prop := ∀ {w : z_Wd} {a0 a1 : Int} {Q : Option z_V → z_Wd → Prop}, P_LR n9 4 w a0 a1 → Q (some (zI (F_LR n9 4 w a0 a1).1)) (F_LR n9 4 w a0 a1).2 → z_Wc (d + n9 + 4) m_X5_readTruth [zR 37, zI a0, zI a1] w Q
def S_LR_readUnit (d n9 : Nat) : Prop := ∀ {w : z_Wd} {a0 a1 : Int} {Q : Option z_V → z_Wd → Prop}, P_LR n9 5 w a0 a1 → Q (some (zI (F_LR n9 5 w a0 a1).1)) (F_LR n9 5 w a0 a1).2 → z_Wc (d + n9 + 4) m_X5_readUnit [zR 37, zI a0, zI a1] w Q
def S_LR_readNestedUnit (d n9 : Nat) : Prop := ∀ {w : z_Wd} {a0 a1 : Int} {Q : Option z_V → z_Wd → Prop}, P_LR n9 6 w a0 a1 → Q (some (zI (F_LR n9 6 w a0 a1).1)) (F_LR n9 6 w a0 a1).2 → z_Wc (d + n9 + 4) m_X5_readNestedUnit [zR 37, zI a0, zI a1] w Q
def S_LR (d n9 : Nat) : Prop := S_LR_readSum d n9 ∧ S_LR_readTerm d n9 ∧ S_LR_readAtom d n9 ∧ S_LR_readCondition d n9 ∧ S_LR_readTruth d n9 ∧ S_LR_readUnit d n9 ∧ S_LR_readNestedUnit d n9
set_option maxHeartbeats 2000000 in
set_option maxRecDepth 4000 in
theorem st_LR_readSum {d n9 : Nat} (ihr : S_LR d n9) : S_LR_readSum d (n9 + 1) := by
  intro w a0 Q h k
  have eh : P_LR (n9 + 1) 0 w a0 0 = ((P_LR n9 1 w a0 0) ∧ (-2147483648 ≤ (F_LR n9 1 w a0 0).1 ∧ (F_LR n9 1 w a0 0).1 < 2147483648) ∧ (((F_LR n9 1 w a0 0).1 = 0 → True) ∧ (¬ ((F_LR n9 1 w a0 0).1 = 0) → (∀ i10 : Nat, i10 < 240 → zfind (E_LR_readSum_12 w a0 (F_LR n9)) i10 = -1 → (-2147483648 ≤ (i10 : Int) ∧ (i10 : Int) < 2147483648) ∧ (P_LR_isEither (A_LR_readSum_12 w a0 (F_LR n9) i10) 43 45) ∧ ((F_LR_isEither (A_LR_readSum_12 w a0 (F_LR n9) i10) 43 45 = 0 → True) ∧ (¬ (F_LR_isEither (A_LR_readSum_12 w a0 (F_LR n9) i10) 43 45 = 0) → (P_T_at (A_LR_readSum_12 w a0 (F_LR n9) i10) ((A_LR_readSum_12 w a0 (F_LR n9) i10) 37 2)) ∧ (P_LR_step (A_LR_readSum_12 w a0 (F_LR n9) i10)) ∧ (P_LR n9 1 (F_LR_step (A_LR_readSum_12 w a0 (F_LR n9) i10)) a0 0) ∧ (-2147483648 ≤ (F_LR n9 1 (F_LR_step (A_LR_readSum_12 w a0 (F_LR n9) i10)) a0 0).1 ∧ (F_LR n9 1 (F_LR_step (A_LR_readSum_12 w a0 (F_LR n9) i10)) a0 0).1 < 2147483648) ∧ (((F_LR n9 1 (F_LR_step (A_LR_readSum_12 w a0 (F_LR n9) i10)) a0 0).1 = 0 → True) ∧ (¬ ((F_LR n9 1 (F_LR_step (A_LR_readSum_12 w a0 (F_LR n9) i10)) a0 0).1 = 0) → P_W_add ((F_LR n9 1 (F_LR_step (A_LR_readSum_12 w a0 (F_LR n9) i10)) a0 0).2) (F_T_at (A_LR_readSum_12 w a0 (F_LR n9) i10) ((A_LR_readSum_12 w a0 (F_LR n9) i10) 37 2)) 0))))) ∧ (True)))) := by rw [P_LR]
  have ek : F_LR (n9 + 1) 0 w a0 0 = (if (F_LR n9 1 w a0 0).1 = 0 then (0, (F_LR n9 1 w a0 0).2) else if zfind (E_LR_readSum_12 w a0 (F_LR n9)) 240 = -1 then (1, A_LR_readSum_12 w a0 (F_LR n9) 240) else R_LR_readSum_12 w a0 (F_LR n9) (zfind (E_LR_readSum_12 w a0 (F_LR n9)) 240).toNat) := by rw [F_LR]
  rw [eh] at h
  rw [ek] at k
  clear eh ek
  refine z_enter rfl (Nat.le_of_ble_eq_true rfl) ?_
  show z_Wp m_X5_readSum _ 0 [(0, zR 37), (1, zI a0)] [] w _
  refine z_aload_n (pc' := 1) 0 rfl rfl dX5_readSum_0 rfl ?_
  refine z_iload_n (pc' := 2) 1 rfl rfl dX5_readSum_1 rfl ?_
  refine z_invV (as := [zI a0]) (st := []) (C := m_X5_readTerm) (fs := [30, 40, 0]) (pc' := 5) dX5_readSum_2 rfl t_2_211 k_X5_readTerm rfl (by decide) rfl rfl rfl rfl (Nat.le_of_ble_eq_true rfl) ?_
  obtain ⟨r1, h⟩ := h
  refine z_dcast (d' := d + n9 + 4) (by omega) (ihr.2.1 r1 ?_)
  show z_Wp m_X5_readSum _ 5 [(0, zR 37), (1, zI a0)] [zI ((F_LR n9 1 w a0 0).1)] ((F_LR n9 1 w a0 0).2) _
  obtain ⟨r2, h⟩ := h
  refine z_if_ne 10 dX5_readSum_5 (by decide) (pc' := 8) rfl r2 (fun c => ?_) (fun c => ?_)
  · have h := h.2 c
    rw [if_neg c] at k
    refine z_iconst (pc' := 11) dX5_readSum_10 rfl ?_
    refine z_istore_n (pc' := 12) (ls' := [(0, zR 37), (1, zI a0), (2, zI 0)]) rfl (by decide) rfl rfl dX5_readSum_11 rfl ?_
    refine z_upto 240 (fun i10 => zfind (E_LR_readSum_12 w a0 (F_LR n9)) i10 = -1 → z_Wp m_X5_readSum (d + (n9 + 1) + 4) 12 [(0, zR 37), (1, zI a0), (2, zI (i10 : Int))] [] (A_LR_readSum_12 w a0 (F_LR n9) i10) Q) ?_ ?_ rfl
    · intro hf
      rw [if_pos hf] at k
      have h := h.2
      refine z_iload_n (pc' := 13) 2 rfl rfl dX5_readSum_12 rfl ?_
      refine z_sipush (pc' := 16) (by decide) dX5_readSum_13 rfl ?_
      refine z_icmp_ge 71 dX5_readSum_16 (by decide) (pc' := 19) rfl (by decide) (by decide) (fun _ => ?_) (fun c => absurd c (by decide))
      refine z_iconst (pc' := 72) dX5_readSum_71 rfl ?_
      refine z_zret rfl (by decide) dX5_readSum_72 ?_
      try dsimp only at k
      exact k
    · intro i10 hi ih hf
      have h := h.1 i10 hi hf
      have ih : zfind (E_LR_readSum_12 w a0 (F_LR n9)) (i10 + 1) = -1 → z_Wp m_X5_readSum (d + (n9 + 1) + 4) 12 [(0, zR 37), (1, zI a0), (2, zI ((i10 + 1 : Nat) : Int))] [] (if F_LR_isEither (A_LR_readSum_12 w a0 (F_LR n9) i10) 43 45 = 0 then A_LR_readSum_12 w a0 (F_LR n9) i10 else if (F_LR n9 1 (F_LR_step (A_LR_readSum_12 w a0 (F_LR n9) i10)) a0 0).1 = 0 then A_LR_readSum_12 w a0 (F_LR n9) i10 else F_W_add ((F_LR n9 1 (F_LR_step (A_LR_readSum_12 w a0 (F_LR n9) i10)) a0 0).2) (F_T_at (A_LR_readSum_12 w a0 (F_LR n9) i10) ((A_LR_readSum_12 w a0 (F_LR n9) i10) 37 2)) 0) Q := ih
      have hE : E_LR_readSum_12 w a0 (F_LR n9) i10 = (if F_LR_isEither (A_LR_readSum_12 w a0 (F_LR n9) i10) 43 45 = 0 then true else if (F_LR n9 1 (F_LR_step (A_LR_readSum_12 w a0 (F_LR n9) i10)) a0 0).1 = 0 then true else false) := rfl
      refine z_iload_n (pc' := 13) 2 rfl rfl dX5_readSum_12 rfl ?_
      refine z_sipush (pc' := 16) (by decide) dX5_readSum_13 rfl ?_
      obtain ⟨r11, h⟩ := h
      refine z_icmp_ge 71 dX5_readSum_16 (by decide) (pc' := 19) rfl r11 (by decide) (fun c => absurd c (by omega)) (fun _ => ?_)
      refine z_aload_n (pc' := 20) 0 rfl rfl dX5_readSum_19 rfl ?_
      refine z_bipush (pc' := 22) (by decide) dX5_readSum_20 rfl ?_
      refine z_bipush (pc' := 24) (by decide) dX5_readSum_22 rfl ?_
      refine z_invV (as := [zI 43, zI 45]) (st := []) (C := m_X5_isEither) (fs := [30, 40, 0]) (pc' := 27) dX5_readSum_24 rfl t_2_238 k_X5_isEither rfl (by decide) rfl rfl rfl rfl (Nat.le_of_ble_eq_true rfl) ?_
      obtain ⟨r12, h⟩ := h
      refine c_LR_isEither r12 ?_
      show z_Wp m_X5_readSum _ 27 [(0, zR 37), (1, zI a0), (2, zI (i10 : Int))] [zI (F_LR_isEither (A_LR_readSum_12 w a0 (F_LR n9) i10) 43 45)] (A_LR_readSum_12 w a0 (F_LR n9) i10) _
      refine z_if_eq 71 dX5_readSum_27 (by decide) (pc' := 30) rfl (z_rb b_LR_isEither) (fun c133 => ?_) (fun c133 => ?_)
      · have h := h.1 c133
        rw [if_pos c133] at ih
        rw [if_pos c133] at hE
        refine z_iconst (pc' := 72) dX5_readSum_71 rfl ?_
        refine z_zret rfl (by decide) dX5_readSum_72 ?_
        have hz := zfind_hit hf hE _ hi
        rw [hz, if_neg (by omega), Int.toNat_natCast] at k
        unfold R_LR_readSum_12 at k
        rw [if_pos c133] at k
        try dsimp only at k
        exact k
      · have h := h.2 c133
        rw [if_neg c133] at ih
        rw [if_neg c133] at hE
        refine z_aload_n (pc' := 31) 0 rfl rfl dX5_readSum_30 rfl ?_
        refine z_getR (t := 28) (pc' := 34) g_X5_18 (by decide) rfl rfl dX5_readSum_31 rfl ?_
        refine z_aload_n (pc' := 35) 0 rfl rfl dX5_readSum_34 rfl ?_
        refine z_getI2 (v := (A_LR_readSum_12 w a0 (F_LR n9) i10) 37 2) (pc' := 38) g_X5_31 (by decide) rfl rfl rfl dX5_readSum_35 rfl ?_
        refine z_invV (as := [zI ((A_LR_readSum_12 w a0 (F_LR n9) i10) 37 2)]) (st := []) (C := m_X10_at) (fs := [31, 0]) (pc' := 41) dX5_readSum_38 rfl t_2_206 k_X10_at rfl (by decide) rfl rfl rfl rfl (Nat.le_of_ble_eq_true rfl) ?_
        obtain ⟨r13, h⟩ := h
        refine c_T_at r13 ?_
        show z_Wp m_X5_readSum _ 41 [(0, zR 37), (1, zI a0), (2, zI (i10 : Int))] [zI (F_T_at (A_LR_readSum_12 w a0 (F_LR n9) i10) ((A_LR_readSum_12 w a0 (F_LR n9) i10) 37 2))] (A_LR_readSum_12 w a0 (F_LR n9) i10) _
        refine z_istore_n (pc' := 42) (ls' := [(0, zR 37), (1, zI a0), (2, zI (i10 : Int)), (3, zI (F_T_at (A_LR_readSum_12 w a0 (F_LR n9) i10) ((A_LR_readSum_12 w a0 (F_LR n9) i10) 37 2)))]) rfl (by decide) rfl rfl dX5_readSum_41 rfl ?_
        refine z_aload_n (pc' := 43) 0 rfl rfl dX5_readSum_42 rfl ?_
        refine z_invV (as := []) (st := []) (C := m_X5_step) (fs := [30, 40, 0]) (pc' := 46) dX5_readSum_43 rfl t_2_219 k_X5_step rfl (by decide) rfl rfl rfl rfl (Nat.le_of_ble_eq_true rfl) ?_
        obtain ⟨r14, h⟩ := h
        refine c_LR_step r14 ?_
        show z_Wp m_X5_readSum _ 46 [(0, zR 37), (1, zI a0), (2, zI (i10 : Int)), (3, zI (F_T_at (A_LR_readSum_12 w a0 (F_LR n9) i10) ((A_LR_readSum_12 w a0 (F_LR n9) i10) 37 2)))] [] (F_LR_step (A_LR_readSum_12 w a0 (F_LR n9) i10)) _
        refine z_aload_n (pc' := 47) 0 rfl rfl dX5_readSum_46 rfl ?_
        refine z_iload_n (pc' := 48) 1 rfl rfl dX5_readSum_47 rfl ?_
        refine z_invV (as := [zI a0]) (st := []) (C := m_X5_readTerm) (fs := [30, 40, 0]) (pc' := 51) dX5_readSum_48 rfl t_2_211 k_X5_readTerm rfl (by decide) rfl rfl rfl rfl (Nat.le_of_ble_eq_true rfl) ?_
        obtain ⟨r15, h⟩ := h
        refine z_dcast (d' := d + n9 + 4) (by omega) (ihr.2.1 r15 ?_)
        show z_Wp m_X5_readSum _ 51 [(0, zR 37), (1, zI a0), (2, zI (i10 : Int)), (3, zI (F_T_at (A_LR_readSum_12 w a0 (F_LR n9) i10) ((A_LR_readSum_12 w a0 (F_LR n9) i10) 37 2)))] [zI ((F_LR n9 1 (F_LR_step (A_LR_readSum_12 w a0 (F_LR n9) i10)) a0 0).1)] ((F_LR n9 1 (F_LR_step (A_LR_readSum_12 w a0 (F_LR n9) i10)) a0 0).2) _
        obtain ⟨r16, h⟩ := h
        refine z_if_ne 56 dX5_readSum_51 (by decide) (pc' := 54) rfl r16 (fun c134 => ?_) (fun c134 => ?_)
        · have h := h.2 c134
          rw [if_neg c134] at ih
          rw [if_neg c134] at hE
          refine z_aload_n (pc' := 57) 0 rfl rfl dX5_readSum_56 rfl ?_
          refine z_getR (t := 38) (pc' := 60) g_X5_12 (by decide) rfl rfl dX5_readSum_57 rfl ?_
          refine z_iload_n (pc' := 61) 3 rfl rfl dX5_readSum_60 rfl ?_
          refine z_iconst (pc' := 62) dX5_readSum_61 rfl ?_
          refine z_invV (as := [zI (F_T_at (A_LR_readSum_12 w a0 (F_LR n9) i10) ((A_LR_readSum_12 w a0 (F_LR n9) i10) 37 2)), zI 0]) (st := []) (C := m_X4_add) (fs := [41, 42, 0, 0]) (pc' := 65) dX5_readSum_62 rfl t_2_234 k_X4_add rfl (by decide) rfl rfl rfl rfl (Nat.le_of_ble_eq_true rfl) ?_
          have r17 := h
          refine c_W_add r17 ?_
          show z_Wp m_X5_readSum _ 65 [(0, zR 37), (1, zI a0), (2, zI (i10 : Int)), (3, zI (F_T_at (A_LR_readSum_12 w a0 (F_LR n9) i10) ((A_LR_readSum_12 w a0 (F_LR n9) i10) 37 2)))] [] (F_W_add ((F_LR n9 1 (F_LR_step (A_LR_readSum_12 w a0 (F_LR n9) i10)) a0 0).2) (F_T_at (A_LR_readSum_12 w a0 (F_LR n9) i10) ((A_LR_readSum_12 w a0 (F_LR n9) i10) 37 2)) 0) _
          refine z_iinc (pc' := 68) (ls' := [(0, zR 37), (1, zI a0), (2, zI ((i10 : Int) + 1)), (3, zI (F_T_at (A_LR_readSum_12 w a0 (F_LR n9) i10) ((A_LR_readSum_12 w a0 (F_LR n9) i10) 37 2)))]) 2 rfl (by decide) rfl rfl dX5_readSum_65 rfl ?_
          refine z_goto 12 dX5_readSum_68 (by decide) ?_
          exact z_Wp.sub (ls' := [(0, zR 37), (1, zI a0), (2, zI ((i10 : Int) + 1))]) (z_lcast (by rw [z_c0 i10]) (ih (zfind_miss hf (by rw [hE]; decide)))) (z_sub_of [0, 1, 2] rfl)
        · have h := h.1 c134
          rw [if_pos c134] at ih
          rw [if_pos c134] at hE
          refine z_iconst (pc' := 55) dX5_readSum_54 rfl ?_
          refine z_zret rfl (by decide) dX5_readSum_55 ?_
          have hz := zfind_hit hf hE _ hi
          rw [hz, if_neg (by omega), Int.toNat_natCast] at k
          unfold R_LR_readSum_12 at k
          rw [if_neg c133] at k
          rw [if_pos c134] at k
          try dsimp only at k
          exact k
  · have h := h.1 c
    rw [if_pos c] at k
    refine z_iconst (pc' := 9) dX5_readSum_8 rfl ?_
    refine z_zret rfl (by decide) dX5_readSum_9 ?_
    try dsimp only at k
    exact k
set_option maxHeartbeats 2000000 in
set_option maxRecDepth 4000 in
theorem st_LR_readTerm {d n9 : Nat} (ihr : S_LR d n9) : S_LR_readTerm d (n9 + 1) := by
  intro w a0 Q h k
  have eh : P_LR (n9 + 1) 1 w a0 0 = ((P_LR n9 2 w a0 0) ∧ (-2147483648 ≤ (F_LR n9 2 w a0 0).1 ∧ (F_LR n9 2 w a0 0).1 < 2147483648) ∧ (((F_LR n9 2 w a0 0).1 = 0 → True) ∧ (¬ ((F_LR n9 2 w a0 0).1 = 0) → (∀ i10 : Nat, i10 < 240 → zfind (E_LR_readTerm_12 w a0 (F_LR n9)) i10 = -1 → (-2147483648 ≤ (i10 : Int) ∧ (i10 : Int) < 2147483648) ∧ (P_LR_isEither (A_LR_readTerm_12 w a0 (F_LR n9) i10) 42 47) ∧ ((F_LR_isEither (A_LR_readTerm_12 w a0 (F_LR n9) i10) 42 47 = 0 → True) ∧ (¬ (F_LR_isEither (A_LR_readTerm_12 w a0 (F_LR n9) i10) 42 47 = 0) → (P_T_at (A_LR_readTerm_12 w a0 (F_LR n9) i10) ((A_LR_readTerm_12 w a0 (F_LR n9) i10) 37 2)) ∧ (P_LR_step (A_LR_readTerm_12 w a0 (F_LR n9) i10)) ∧ (P_LR n9 2 (F_LR_step (A_LR_readTerm_12 w a0 (F_LR n9) i10)) a0 0) ∧ (-2147483648 ≤ (F_LR n9 2 (F_LR_step (A_LR_readTerm_12 w a0 (F_LR n9) i10)) a0 0).1 ∧ (F_LR n9 2 (F_LR_step (A_LR_readTerm_12 w a0 (F_LR n9) i10)) a0 0).1 < 2147483648) ∧ (((F_LR n9 2 (F_LR_step (A_LR_readTerm_12 w a0 (F_LR n9) i10)) a0 0).1 = 0 → True) ∧ (¬ ((F_LR n9 2 (F_LR_step (A_LR_readTerm_12 w a0 (F_LR n9) i10)) a0 0).1 = 0) → P_W_add ((F_LR n9 2 (F_LR_step (A_LR_readTerm_12 w a0 (F_LR n9) i10)) a0 0).2) (F_T_at (A_LR_readTerm_12 w a0 (F_LR n9) i10) ((A_LR_readTerm_12 w a0 (F_LR n9) i10) 37 2)) 0))))) ∧ (True)))) := by rw [P_LR]
  have ek : F_LR (n9 + 1) 1 w a0 0 = (if (F_LR n9 2 w a0 0).1 = 0 then (0, (F_LR n9 2 w a0 0).2) else if zfind (E_LR_readTerm_12 w a0 (F_LR n9)) 240 = -1 then (1, A_LR_readTerm_12 w a0 (F_LR n9) 240) else R_LR_readTerm_12 w a0 (F_LR n9) (zfind (E_LR_readTerm_12 w a0 (F_LR n9)) 240).toNat) := by rw [F_LR]
  rw [eh] at h
  rw [ek] at k
  clear eh ek
  refine z_enter rfl (Nat.le_of_ble_eq_true rfl) ?_
  show z_Wp m_X5_readTerm _ 0 [(0, zR 37), (1, zI a0)] [] w _
  refine z_aload_n (pc' := 1) 0 rfl rfl dX5_readTerm_0 rfl ?_
  refine z_iload_n (pc' := 2) 1 rfl rfl dX5_readTerm_1 rfl ?_
  refine z_invV (as := [zI a0]) (st := []) (C := m_X5_readAtom) (fs := [30, 40, 0]) (pc' := 5) dX5_readTerm_2 rfl t_2_215 k_X5_readAtom rfl (by decide) rfl rfl rfl rfl (Nat.le_of_ble_eq_true rfl) ?_
  obtain ⟨r1, h⟩ := h
  refine z_dcast (d' := d + n9 + 4) (by omega) (ihr.2.2.1 r1 ?_)
  show z_Wp m_X5_readTerm _ 5 [(0, zR 37), (1, zI a0)] [zI ((F_LR n9 2 w a0 0).1)] ((F_LR n9 2 w a0 0).2) _
  obtain ⟨r2, h⟩ := h
  refine z_if_ne 10 dX5_readTerm_5 (by decide) (pc' := 8) rfl r2 (fun c => ?_) (fun c => ?_)
  · have h := h.2 c
    rw [if_neg c] at k
    refine z_iconst (pc' := 11) dX5_readTerm_10 rfl ?_
    refine z_istore_n (pc' := 12) (ls' := [(0, zR 37), (1, zI a0), (2, zI 0)]) rfl (by decide) rfl rfl dX5_readTerm_11 rfl ?_
    refine z_upto 240 (fun i10 => zfind (E_LR_readTerm_12 w a0 (F_LR n9)) i10 = -1 → z_Wp m_X5_readTerm (d + (n9 + 1) + 4) 12 [(0, zR 37), (1, zI a0), (2, zI (i10 : Int))] [] (A_LR_readTerm_12 w a0 (F_LR n9) i10) Q) ?_ ?_ rfl
    · intro hf
      rw [if_pos hf] at k
      have h := h.2
      refine z_iload_n (pc' := 13) 2 rfl rfl dX5_readTerm_12 rfl ?_
      refine z_sipush (pc' := 16) (by decide) dX5_readTerm_13 rfl ?_
      refine z_icmp_ge 71 dX5_readTerm_16 (by decide) (pc' := 19) rfl (by decide) (by decide) (fun _ => ?_) (fun c => absurd c (by decide))
      refine z_iconst (pc' := 72) dX5_readTerm_71 rfl ?_
      refine z_zret rfl (by decide) dX5_readTerm_72 ?_
      try dsimp only at k
      exact k
    · intro i10 hi ih hf
      have h := h.1 i10 hi hf
      have ih : zfind (E_LR_readTerm_12 w a0 (F_LR n9)) (i10 + 1) = -1 → z_Wp m_X5_readTerm (d + (n9 + 1) + 4) 12 [(0, zR 37), (1, zI a0), (2, zI ((i10 + 1 : Nat) : Int))] [] (if F_LR_isEither (A_LR_readTerm_12 w a0 (F_LR n9) i10) 42 47 = 0 then A_LR_readTerm_12 w a0 (F_LR n9) i10 else if (F_LR n9 2 (F_LR_step (A_LR_readTerm_12 w a0 (F_LR n9) i10)) a0 0).1 = 0 then A_LR_readTerm_12 w a0 (F_LR n9) i10 else F_W_add ((F_LR n9 2 (F_LR_step (A_LR_readTerm_12 w a0 (F_LR n9) i10)) a0 0).2) (F_T_at (A_LR_readTerm_12 w a0 (F_LR n9) i10) ((A_LR_readTerm_12 w a0 (F_LR n9) i10) 37 2)) 0) Q := ih
      have hE : E_LR_readTerm_12 w a0 (F_LR n9) i10 = (if F_LR_isEither (A_LR_readTerm_12 w a0 (F_LR n9) i10) 42 47 = 0 then true else if (F_LR n9 2 (F_LR_step (A_LR_readTerm_12 w a0 (F_LR n9) i10)) a0 0).1 = 0 then true else false) := rfl
      refine z_iload_n (pc' := 13) 2 rfl rfl dX5_readTerm_12 rfl ?_
      refine z_sipush (pc' := 16) (by decide) dX5_readTerm_13 rfl ?_
      obtain ⟨r11, h⟩ := h
      refine z_icmp_ge 71 dX5_readTerm_16 (by decide) (pc' := 19) rfl r11 (by decide) (fun c => absurd c (by omega)) (fun _ => ?_)
      refine z_aload_n (pc' := 20) 0 rfl rfl dX5_readTerm_19 rfl ?_
      refine z_bipush (pc' := 22) (by decide) dX5_readTerm_20 rfl ?_
      refine z_bipush (pc' := 24) (by decide) dX5_readTerm_22 rfl ?_
      refine z_invV (as := [zI 42, zI 47]) (st := []) (C := m_X5_isEither) (fs := [30, 40, 0]) (pc' := 27) dX5_readTerm_24 rfl t_2_238 k_X5_isEither rfl (by decide) rfl rfl rfl rfl (Nat.le_of_ble_eq_true rfl) ?_
      obtain ⟨r12, h⟩ := h
      refine c_LR_isEither r12 ?_
      show z_Wp m_X5_readTerm _ 27 [(0, zR 37), (1, zI a0), (2, zI (i10 : Int))] [zI (F_LR_isEither (A_LR_readTerm_12 w a0 (F_LR n9) i10) 42 47)] (A_LR_readTerm_12 w a0 (F_LR n9) i10) _
      refine z_if_eq 71 dX5_readTerm_27 (by decide) (pc' := 30) rfl (z_rb b_LR_isEither) (fun c135 => ?_) (fun c135 => ?_)
      · have h := h.1 c135
        rw [if_pos c135] at ih
        rw [if_pos c135] at hE
        refine z_iconst (pc' := 72) dX5_readTerm_71 rfl ?_
        refine z_zret rfl (by decide) dX5_readTerm_72 ?_
        have hz := zfind_hit hf hE _ hi
        rw [hz, if_neg (by omega), Int.toNat_natCast] at k
        unfold R_LR_readTerm_12 at k
        rw [if_pos c135] at k
        try dsimp only at k
        exact k
      · have h := h.2 c135
        rw [if_neg c135] at ih
        rw [if_neg c135] at hE
        refine z_aload_n (pc' := 31) 0 rfl rfl dX5_readTerm_30 rfl ?_
        refine z_getR (t := 28) (pc' := 34) g_X5_18 (by decide) rfl rfl dX5_readTerm_31 rfl ?_
        refine z_aload_n (pc' := 35) 0 rfl rfl dX5_readTerm_34 rfl ?_
        refine z_getI2 (v := (A_LR_readTerm_12 w a0 (F_LR n9) i10) 37 2) (pc' := 38) g_X5_31 (by decide) rfl rfl rfl dX5_readTerm_35 rfl ?_
        refine z_invV (as := [zI ((A_LR_readTerm_12 w a0 (F_LR n9) i10) 37 2)]) (st := []) (C := m_X10_at) (fs := [31, 0]) (pc' := 41) dX5_readTerm_38 rfl t_2_206 k_X10_at rfl (by decide) rfl rfl rfl rfl (Nat.le_of_ble_eq_true rfl) ?_
        obtain ⟨r13, h⟩ := h
        refine c_T_at r13 ?_
        show z_Wp m_X5_readTerm _ 41 [(0, zR 37), (1, zI a0), (2, zI (i10 : Int))] [zI (F_T_at (A_LR_readTerm_12 w a0 (F_LR n9) i10) ((A_LR_readTerm_12 w a0 (F_LR n9) i10) 37 2))] (A_LR_readTerm_12 w a0 (F_LR n9) i10) _
        refine z_istore_n (pc' := 42) (ls' := [(0, zR 37), (1, zI a0), (2, zI (i10 : Int)), (3, zI (F_T_at (A_LR_readTerm_12 w a0 (F_LR n9) i10) ((A_LR_readTerm_12 w a0 (F_LR n9) i10) 37 2)))]) rfl (by decide) rfl rfl dX5_readTerm_41 rfl ?_
        refine z_aload_n (pc' := 43) 0 rfl rfl dX5_readTerm_42 rfl ?_
        refine z_invV (as := []) (st := []) (C := m_X5_step) (fs := [30, 40, 0]) (pc' := 46) dX5_readTerm_43 rfl t_2_219 k_X5_step rfl (by decide) rfl rfl rfl rfl (Nat.le_of_ble_eq_true rfl) ?_
        obtain ⟨r14, h⟩ := h
        refine c_LR_step r14 ?_
        show z_Wp m_X5_readTerm _ 46 [(0, zR 37), (1, zI a0), (2, zI (i10 : Int)), (3, zI (F_T_at (A_LR_readTerm_12 w a0 (F_LR n9) i10) ((A_LR_readTerm_12 w a0 (F_LR n9) i10) 37 2)))] [] (F_LR_step (A_LR_readTerm_12 w a0 (F_LR n9) i10)) _
        refine z_aload_n (pc' := 47) 0 rfl rfl dX5_readTerm_46 rfl ?_
        refine z_iload_n (pc' := 48) 1 rfl rfl dX5_readTerm_47 rfl ?_
        refine z_invV (as := [zI a0]) (st := []) (C := m_X5_readAtom) (fs := [30, 40, 0]) (pc' := 51) dX5_readTerm_48 rfl t_2_215 k_X5_readAtom rfl (by decide) rfl rfl rfl rfl (Nat.le_of_ble_eq_true rfl) ?_
        obtain ⟨r15, h⟩ := h
        refine z_dcast (d' := d + n9 + 4) (by omega) (ihr.2.2.1 r15 ?_)
        show z_Wp m_X5_readTerm _ 51 [(0, zR 37), (1, zI a0), (2, zI (i10 : Int)), (3, zI (F_T_at (A_LR_readTerm_12 w a0 (F_LR n9) i10) ((A_LR_readTerm_12 w a0 (F_LR n9) i10) 37 2)))] [zI ((F_LR n9 2 (F_LR_step (A_LR_readTerm_12 w a0 (F_LR n9) i10)) a0 0).1)] ((F_LR n9 2 (F_LR_step (A_LR_readTerm_12 w a0 (F_LR n9) i10)) a0 0).2) _
        obtain ⟨r16, h⟩ := h
        refine z_if_ne 56 dX5_readTerm_51 (by decide) (pc' := 54) rfl r16 (fun c136 => ?_) (fun c136 => ?_)
        · have h := h.2 c136
          rw [if_neg c136] at ih
          rw [if_neg c136] at hE
          refine z_aload_n (pc' := 57) 0 rfl rfl dX5_readTerm_56 rfl ?_
          refine z_getR (t := 38) (pc' := 60) g_X5_12 (by decide) rfl rfl dX5_readTerm_57 rfl ?_
          refine z_iload_n (pc' := 61) 3 rfl rfl dX5_readTerm_60 rfl ?_
          refine z_iconst (pc' := 62) dX5_readTerm_61 rfl ?_
          refine z_invV (as := [zI (F_T_at (A_LR_readTerm_12 w a0 (F_LR n9) i10) ((A_LR_readTerm_12 w a0 (F_LR n9) i10) 37 2)), zI 0]) (st := []) (C := m_X4_add) (fs := [41, 42, 0, 0]) (pc' := 65) dX5_readTerm_62 rfl t_2_234 k_X4_add rfl (by decide) rfl rfl rfl rfl (Nat.le_of_ble_eq_true rfl) ?_
          have r17 := h
          refine c_W_add r17 ?_
          show z_Wp m_X5_readTerm _ 65 [(0, zR 37), (1, zI a0), (2, zI (i10 : Int)), (3, zI (F_T_at (A_LR_readTerm_12 w a0 (F_LR n9) i10) ((A_LR_readTerm_12 w a0 (F_LR n9) i10) 37 2)))] [] (F_W_add ((F_LR n9 2 (F_LR_step (A_LR_readTerm_12 w a0 (F_LR n9) i10)) a0 0).2) (F_T_at (A_LR_readTerm_12 w a0 (F_LR n9) i10) ((A_LR_readTerm_12 w a0 (F_LR n9) i10) 37 2)) 0) _
          refine z_iinc (pc' := 68) (ls' := [(0, zR 37), (1, zI a0), (2, zI ((i10 : Int) + 1)), (3, zI (F_T_at (A_LR_readTerm_12 w a0 (F_LR n9) i10) ((A_LR_readTerm_12 w a0 (F_LR n9) i10) 37 2)))]) 2 rfl (by decide) rfl rfl dX5_readTerm_65 rfl ?_
          refine z_goto 12 dX5_readTerm_68 (by decide) ?_
          exact z_Wp.sub (ls' := [(0, zR 37), (1, zI a0), (2, zI ((i10 : Int) + 1))]) (z_lcast (by rw [z_c0 i10]) (ih (zfind_miss hf (by rw [hE]; decide)))) (z_sub_of [0, 1, 2] rfl)
        · have h := h.1 c136
          rw [if_pos c136] at ih
          rw [if_pos c136] at hE
          refine z_iconst (pc' := 55) dX5_readTerm_54 rfl ?_
          refine z_zret rfl (by decide) dX5_readTerm_55 ?_
          have hz := zfind_hit hf hE _ hi
          rw [hz, if_neg (by omega), Int.toNat_natCast] at k
          unfold R_LR_readTerm_12 at k
          rw [if_neg c135] at k
          rw [if_pos c136] at k
          try dsimp only at k
          exact k
  · have h := h.1 c
    rw [if_pos c] at k
    refine z_iconst (pc' := 9) dX5_readTerm_8 rfl ?_
    refine z_zret rfl (by decide) dX5_readTerm_9 ?_
    try dsimp only at k
    exact k
set_option maxHeartbeats 2000000 in
set_option maxRecDepth 4000 in
theorem st_LR_readAtom {d n9 : Nat} (ihr : S_LR d n9) : S_LR_readAtom d (n9 + 1) := by
  intro w a0 Q h k
  have eh : P_LR (n9 + 1) 2 w a0 0 = ((P_T_at w (w 37 2)) ∧ (-2147483648 ≤ F_T_at w (w 37 2) ∧ F_T_at w (w 37 2) < 2147483648) ∧ ((F_T_at w (w 37 2) = 91 → (-2147483648 ≤ a0 ∧ a0 < 2147483648) ∧ ((a0 < 6 → (P_LR_step w) ∧ (P_LR n9 0 (F_LR_step w) (a0 + 1) 0) ∧ (-2147483648 ≤ (F_LR n9 0 (F_LR_step w) (a0 + 1) 0).1 ∧ (F_LR n9 0 (F_LR_step w) (a0 + 1) 0).1 < 2147483648) ∧ (((F_LR n9 0 (F_LR_step w) (a0 + 1) 0).1 = 0 → True) ∧ (¬ ((F_LR n9 0 (F_LR_step w) (a0 + 1) 0).1 = 0) → (P_LR_take ((F_LR n9 0 (F_LR_step w) (a0 + 1) 0).2) 93) ∧ (-2147483648 ≤ (F_LR_take ((F_LR n9 0 (F_LR_step w) (a0 + 1) 0).2) 93).1 ∧ (F_LR_take ((F_LR n9 0 (F_LR_step w) (a0 + 1) 0).2) 93).1 < 2147483648)))) ∧ (¬ (a0 < 6) → True))) ∧ (¬ (F_T_at w (w 37 2) = 91) → (P_LR_letterOf w (F_T_at w (w 37 2))) ∧ (-2147483648 ≤ F_LR_letterOf w (F_T_at w (w 37 2)) ∧ F_LR_letterOf w (F_T_at w (w 37 2)) < 2147483648) ∧ ((F_LR_letterOf w (F_T_at w (w 37 2)) = (-1) → (P_LR_readNumber w) ∧ ((F_LR_readNumber w).1 = 0 ∨ (F_LR_readNumber w).1 = 1)) ∧ (¬ (F_LR_letterOf w (F_T_at w (w 37 2)) = (-1)) → (P_W_add w 1 (F_LR_letterOf w (F_T_at w (w 37 2)))) ∧ (P_LR_step (F_W_add w 1 (F_LR_letterOf w (F_T_at w (w 37 2)))))))))) := by rw [P_LR]
  have ek : F_LR (n9 + 1) 2 w a0 0 = (if F_T_at w (w 37 2) = 91 then if a0 < 6 then if (F_LR n9 0 (F_LR_step w) (a0 + 1) 0).1 = 0 then (0, (F_LR n9 0 (F_LR_step w) (a0 + 1) 0).2) else if (F_LR_take ((F_LR n9 0 (F_LR_step w) (a0 + 1) 0).2) 93).1 = 0 then (0, (F_LR_take ((F_LR n9 0 (F_LR_step w) (a0 + 1) 0).2) 93).2) else (1, (F_LR_take ((F_LR n9 0 (F_LR_step w) (a0 + 1) 0).2) 93).2) else (0, w) else if F_LR_letterOf w (F_T_at w (w 37 2)) = (-1) then ((F_LR_readNumber w).1, (F_LR_readNumber w).2) else (1, F_LR_step (F_W_add w 1 (F_LR_letterOf w (F_T_at w (w 37 2)))))) := by rw [F_LR]
  rw [eh] at h
  rw [ek] at k
  clear eh ek
  refine z_enter rfl (Nat.le_of_ble_eq_true rfl) ?_
  show z_Wp m_X5_readAtom _ 0 [(0, zR 37), (1, zI a0)] [] w _
  refine z_aload_n (pc' := 1) 0 rfl rfl dX5_readAtom_0 rfl ?_
  refine z_getR (t := 28) (pc' := 4) g_X5_18 (by decide) rfl rfl dX5_readAtom_1 rfl ?_
  refine z_aload_n (pc' := 5) 0 rfl rfl dX5_readAtom_4 rfl ?_
  refine z_getI2 (v := w 37 2) (pc' := 8) g_X5_31 (by decide) rfl rfl rfl dX5_readAtom_5 rfl ?_
  refine z_invV (as := [zI (w 37 2)]) (st := []) (C := m_X10_at) (fs := [31, 0]) (pc' := 11) dX5_readAtom_8 rfl t_2_206 k_X10_at rfl (by decide) rfl rfl rfl rfl (Nat.le_of_ble_eq_true rfl) ?_
  obtain ⟨r1, h⟩ := h
  refine c_T_at r1 ?_
  show z_Wp m_X5_readAtom _ 11 [(0, zR 37), (1, zI a0)] [zI (F_T_at w (w 37 2))] w _
  refine z_istore_n (pc' := 12) (ls' := [(0, zR 37), (1, zI a0), (2, zI (F_T_at w (w 37 2)))]) rfl (by decide) rfl rfl dX5_readAtom_11 rfl ?_
  refine z_iload_n (pc' := 13) 2 rfl rfl dX5_readAtom_12 rfl ?_
  refine z_bipush (pc' := 15) (by decide) dX5_readAtom_13 rfl ?_
  obtain ⟨r2, h⟩ := h
  refine z_icmp_ne 55 dX5_readAtom_15 (by decide) (pc' := 18) rfl r2 (by decide) (fun c => ?_) (fun c => ?_)
  · have h := h.2 c
    rw [if_neg c] at k
    refine z_iload_n (pc' := 56) 2 rfl rfl dX5_readAtom_55 rfl ?_
    refine z_invS (as := [zI (F_T_at w (w 37 2))]) (st := []) (C := m_X5_letterOf) (pc' := 59) dX5_readAtom_56 rfl t_2_223 k_X5_letterOf rfl rfl (Nat.le_of_ble_eq_true rfl) ?_
    obtain ⟨r3, h⟩ := h
    refine c_LR_letterOf r3 ?_
    show z_Wp m_X5_readAtom _ 59 [(0, zR 37), (1, zI a0), (2, zI (F_T_at w (w 37 2)))] [zI (F_LR_letterOf w (F_T_at w (w 37 2)))] w _
    refine z_istore_n (pc' := 60) (ls' := [(0, zR 37), (1, zI a0), (2, zI (F_T_at w (w 37 2))), (3, zI (F_LR_letterOf w (F_T_at w (w 37 2))))]) rfl (by decide) rfl rfl dX5_readAtom_59 rfl ?_
    refine z_iload_n (pc' := 61) 3 rfl rfl dX5_readAtom_60 rfl ?_
    refine z_iconst (pc' := 62) dX5_readAtom_61 rfl ?_
    obtain ⟨r4, h⟩ := h
    refine z_icmp_ne 70 dX5_readAtom_62 (by decide) (pc' := 65) rfl r4 (by decide) (fun c => ?_) (fun c => ?_)
    · have h := h.2 c
      rw [if_neg c] at k
      refine z_aload_n (pc' := 71) 0 rfl rfl dX5_readAtom_70 rfl ?_
      refine z_getR (t := 38) (pc' := 74) g_X5_12 (by decide) rfl rfl dX5_readAtom_71 rfl ?_
      refine z_iconst (pc' := 75) dX5_readAtom_74 rfl ?_
      refine z_iload_n (pc' := 76) 3 rfl rfl dX5_readAtom_75 rfl ?_
      refine z_invV (as := [zI 1, zI (F_LR_letterOf w (F_T_at w (w 37 2)))]) (st := []) (C := m_X4_add) (fs := [41, 42, 0, 0]) (pc' := 79) dX5_readAtom_76 rfl t_2_234 k_X4_add rfl (by decide) rfl rfl rfl rfl (Nat.le_of_ble_eq_true rfl) ?_
      obtain ⟨r5, h⟩ := h
      refine c_W_add r5 ?_
      show z_Wp m_X5_readAtom _ 79 [(0, zR 37), (1, zI a0), (2, zI (F_T_at w (w 37 2))), (3, zI (F_LR_letterOf w (F_T_at w (w 37 2))))] [] (F_W_add w 1 (F_LR_letterOf w (F_T_at w (w 37 2)))) _
      refine z_aload_n (pc' := 80) 0 rfl rfl dX5_readAtom_79 rfl ?_
      refine z_invV (as := []) (st := []) (C := m_X5_step) (fs := [30, 40, 0]) (pc' := 83) dX5_readAtom_80 rfl t_2_219 k_X5_step rfl (by decide) rfl rfl rfl rfl (Nat.le_of_ble_eq_true rfl) ?_
      have r6 := h
      refine c_LR_step r6 ?_
      show z_Wp m_X5_readAtom _ 83 [(0, zR 37), (1, zI a0), (2, zI (F_T_at w (w 37 2))), (3, zI (F_LR_letterOf w (F_T_at w (w 37 2))))] [] (F_LR_step (F_W_add w 1 (F_LR_letterOf w (F_T_at w (w 37 2))))) _
      refine z_iconst (pc' := 84) dX5_readAtom_83 rfl ?_
      refine z_zret rfl (by decide) dX5_readAtom_84 ?_
      try dsimp only at k
      exact k
    · have h := h.1 c
      rw [if_pos c] at k
      refine z_aload_n (pc' := 66) 0 rfl rfl dX5_readAtom_65 rfl ?_
      refine z_invV (as := []) (st := []) (C := m_X5_readNumber) (fs := [30, 40, 0]) (pc' := 69) dX5_readAtom_66 rfl t_2_228 k_X5_readNumber rfl (by decide) rfl rfl rfl rfl (Nat.le_of_ble_eq_true rfl) ?_
      obtain ⟨r7, h⟩ := h
      refine c_LR_readNumber r7 ?_
      show z_Wp m_X5_readAtom _ 69 [(0, zR 37), (1, zI a0), (2, zI (F_T_at w (w 37 2))), (3, zI (F_LR_letterOf w (F_T_at w (w 37 2))))] [zI ((F_LR_readNumber w).1)] ((F_LR_readNumber w).2) _
      have r8 := h
      refine z_zret rfl r8 dX5_readAtom_69 ?_
      try dsimp only at k
      exact k
  · have h := h.1 c
    rw [if_pos c] at k
    refine z_iload_n (pc' := 19) 1 rfl rfl dX5_readAtom_18 rfl ?_
    refine z_bipush (pc' := 21) (by decide) dX5_readAtom_19 rfl ?_
    obtain ⟨r9, h⟩ := h
    refine z_icmp_lt 26 dX5_readAtom_21 (by decide) (pc' := 24) rfl r9 (by decide) (fun c => ?_) (fun c => ?_)
    · have h := h.1 c
      rw [if_pos c] at k
      refine z_aload_n (pc' := 27) 0 rfl rfl dX5_readAtom_26 rfl ?_
      refine z_invV (as := []) (st := []) (C := m_X5_step) (fs := [30, 40, 0]) (pc' := 30) dX5_readAtom_27 rfl t_2_219 k_X5_step rfl (by decide) rfl rfl rfl rfl (Nat.le_of_ble_eq_true rfl) ?_
      obtain ⟨r10, h⟩ := h
      refine c_LR_step r10 ?_
      show z_Wp m_X5_readAtom _ 30 [(0, zR 37), (1, zI a0), (2, zI (F_T_at w (w 37 2)))] [] (F_LR_step w) _
      refine z_aload_n (pc' := 31) 0 rfl rfl dX5_readAtom_30 rfl ?_
      refine z_iload_n (pc' := 32) 1 rfl rfl dX5_readAtom_31 rfl ?_
      refine z_iconst (pc' := 33) dX5_readAtom_32 rfl ?_
      refine z_iadd (pc' := 34) dX5_readAtom_33 rfl ?_
      refine z_invV (as := [zI (a0 + 1)]) (st := []) (C := m_X5_readSum) (fs := [30, 40, 0]) (pc' := 37) dX5_readAtom_34 rfl t_2_207 k_X5_readSum rfl (by decide) rfl rfl rfl rfl (Nat.le_of_ble_eq_true rfl) ?_
      obtain ⟨r11, h⟩ := h
      refine z_dcast (d' := d + n9 + 4) (by omega) (ihr.1 r11 ?_)
      show z_Wp m_X5_readAtom _ 37 [(0, zR 37), (1, zI a0), (2, zI (F_T_at w (w 37 2)))] [zI ((F_LR n9 0 (F_LR_step w) (a0 + 1) 0).1)] ((F_LR n9 0 (F_LR_step w) (a0 + 1) 0).2) _
      obtain ⟨r12, h⟩ := h
      refine z_if_eq 53 dX5_readAtom_37 (by decide) (pc' := 40) rfl r12 (fun c => ?_) (fun c => ?_)
      · have h := h.1 c
        rw [if_pos c] at k
        refine z_iconst (pc' := 54) dX5_readAtom_53 rfl ?_
        refine z_zret rfl (by decide) dX5_readAtom_54 ?_
        try dsimp only at k
        exact k
      · have h := h.2 c
        rw [if_neg c] at k
        refine z_aload_n (pc' := 41) 0 rfl rfl dX5_readAtom_40 rfl ?_
        refine z_bipush (pc' := 43) (by decide) dX5_readAtom_41 rfl ?_
        refine z_invV (as := [zI 93]) (st := []) (C := m_X5_take) (fs := [30, 40, 0]) (pc' := 46) dX5_readAtom_43 rfl t_2_202 k_X5_take rfl (by decide) rfl rfl rfl rfl (Nat.le_of_ble_eq_true rfl) ?_
        obtain ⟨r13, h⟩ := h
        refine c_LR_take r13 ?_
        show z_Wp m_X5_readAtom _ 46 [(0, zR 37), (1, zI a0), (2, zI (F_T_at w (w 37 2)))] [zI ((F_LR_take ((F_LR n9 0 (F_LR_step w) (a0 + 1) 0).2) 93).1)] ((F_LR_take ((F_LR n9 0 (F_LR_step w) (a0 + 1) 0).2) 93).2) _
        have r14 := h
        refine z_if_eq 53 dX5_readAtom_46 (by decide) (pc' := 49) rfl r14 (fun c => ?_) (fun c => ?_)
        · skip
          rw [if_pos c] at k
          refine z_iconst (pc' := 54) dX5_readAtom_53 rfl ?_
          refine z_zret rfl (by decide) dX5_readAtom_54 ?_
          try dsimp only at k
          exact k
        · skip
          rw [if_neg c] at k
          refine z_iconst (pc' := 50) dX5_readAtom_49 rfl ?_
          refine z_goto 54 dX5_readAtom_50 (by decide) ?_
          refine z_zret rfl (by decide) dX5_readAtom_54 ?_
          try dsimp only at k
          exact k
    · have h := h.2 c
      rw [if_neg c] at k
      refine z_iconst (pc' := 25) dX5_readAtom_24 rfl ?_
      refine z_zret rfl (by decide) dX5_readAtom_25 ?_
      try dsimp only at k
      exact k
set_option maxHeartbeats 2000000 in
set_option maxRecDepth 4000 in
theorem st_LR_readCondition {d n9 : Nat} (ihr : S_LR d n9) : S_LR_readCondition d (n9 + 1) := by
  intro w a0 a1 Q h k
  have eh : P_LR (n9 + 1) 3 w a0 a1 = ((P_LR n9 4 w a0 a1) ∧ (-2147483648 ≤ (F_LR n9 4 w a0 a1).1 ∧ (F_LR n9 4 w a0 a1).1 < 2147483648) ∧ (((F_LR n9 4 w a0 a1).1 = 0 → True) ∧ (¬ ((F_LR n9 4 w a0 a1).1 = 0) → (∀ i10 : Nat, i10 < 240 → zfind (E_LR_readCondition_13 w a0 a1 (F_LR n9)) i10 = -1 → (-2147483648 ≤ (i10 : Int) ∧ (i10 : Int) < 2147483648) ∧ (P_T_at (A_LR_readCondition_13 w a0 a1 (F_LR n9) i10) ((A_LR_readCondition_13 w a0 a1 (F_LR n9) i10) 37 2)) ∧ (-2147483648 ≤ F_T_at (A_LR_readCondition_13 w a0 a1 (F_LR n9) i10) ((A_LR_readCondition_13 w a0 a1 (F_LR n9) i10) 37 2) ∧ F_T_at (A_LR_readCondition_13 w a0 a1 (F_LR n9) i10) ((A_LR_readCondition_13 w a0 a1 (F_LR n9) i10) 37 2) < 2147483648) ∧ ((F_T_at (A_LR_readCondition_13 w a0 a1 (F_LR n9) i10) ((A_LR_readCondition_13 w a0 a1 (F_LR n9) i10) 37 2) = 124 → (P_LR_step (A_LR_readCondition_13 w a0 a1 (F_LR n9) i10)) ∧ (P_LR n9 4 (F_LR_step (A_LR_readCondition_13 w a0 a1 (F_LR n9) i10)) a0 0) ∧ (-2147483648 ≤ (F_LR n9 4 (F_LR_step (A_LR_readCondition_13 w a0 a1 (F_LR n9) i10)) a0 0).1 ∧ (F_LR n9 4 (F_LR_step (A_LR_readCondition_13 w a0 a1 (F_LR n9) i10)) a0 0).1 < 2147483648) ∧ (((F_LR n9 4 (F_LR_step (A_LR_readCondition_13 w a0 a1 (F_LR n9) i10)) a0 0).1 = 0 → True) ∧ (¬ ((F_LR n9 4 (F_LR_step (A_LR_readCondition_13 w a0 a1 (F_LR n9) i10)) a0 0).1 = 0) → P_W_add ((F_LR n9 4 (F_LR_step (A_LR_readCondition_13 w a0 a1 (F_LR n9) i10)) a0 0).2) 124 0))) ∧ (¬ (F_T_at (A_LR_readCondition_13 w a0 a1 (F_LR n9) i10) ((A_LR_readCondition_13 w a0 a1 (F_LR n9) i10) 37 2) = 124) → True))) ∧ (True)))) := by rw [P_LR]
  have ek : F_LR (n9 + 1) 3 w a0 a1 = (if (F_LR n9 4 w a0 a1).1 = 0 then (0, (F_LR n9 4 w a0 a1).2) else if zfind (E_LR_readCondition_13 w a0 a1 (F_LR n9)) 240 = -1 then (1, A_LR_readCondition_13 w a0 a1 (F_LR n9) 240) else R_LR_readCondition_13 w a0 a1 (F_LR n9) (zfind (E_LR_readCondition_13 w a0 a1 (F_LR n9)) 240).toNat) := by rw [F_LR]
  rw [eh] at h
  rw [ek] at k
  clear eh ek
  refine z_enter rfl (Nat.le_of_ble_eq_true rfl) ?_
  show z_Wp m_X5_readCondition _ 0 [(0, zR 37), (1, zI a0), (2, zI a1)] [] w _
  refine z_aload_n (pc' := 1) 0 rfl rfl dX5_readCondition_0 rfl ?_
  refine z_iload_n (pc' := 2) 1 rfl rfl dX5_readCondition_1 rfl ?_
  refine z_iload_n (pc' := 3) 2 rfl rfl dX5_readCondition_2 rfl ?_
  refine z_invV (as := [zI a0, zI a1]) (st := []) (C := m_X5_readTruth) (fs := [30, 40, 0]) (pc' := 6) dX5_readCondition_3 rfl t_3_9 k_X5_readTruth rfl (by decide) rfl rfl rfl rfl (Nat.le_of_ble_eq_true rfl) ?_
  obtain ⟨r1, h⟩ := h
  refine z_dcast (d' := d + n9 + 4) (by omega) (ihr.2.2.2.2.1 r1 ?_)
  show z_Wp m_X5_readCondition _ 6 [(0, zR 37), (1, zI a0), (2, zI a1)] [zI ((F_LR n9 4 w a0 a1).1)] ((F_LR n9 4 w a0 a1).2) _
  obtain ⟨r2, h⟩ := h
  refine z_if_ne 11 dX5_readCondition_6 (by decide) (pc' := 9) rfl r2 (fun c => ?_) (fun c => ?_)
  · have h := h.2 c
    rw [if_neg c] at k
    refine z_iconst (pc' := 12) dX5_readCondition_11 rfl ?_
    refine z_istore_n (pc' := 13) (ls' := [(0, zR 37), (1, zI a0), (2, zI a1), (3, zI 0)]) rfl (by decide) rfl rfl dX5_readCondition_12 rfl ?_
    refine z_Wp.sub (ls' := [(0, zR 37), (1, zI a0), (3, zI 0)]) ?_ (z_sub_of [0, 1, 3] rfl)
    refine z_upto 240 (fun i10 => zfind (E_LR_readCondition_13 w a0 a1 (F_LR n9)) i10 = -1 → z_Wp m_X5_readCondition (d + (n9 + 1) + 4) 13 [(0, zR 37), (1, zI a0), (3, zI (i10 : Int))] [] (A_LR_readCondition_13 w a0 a1 (F_LR n9) i10) Q) ?_ ?_ rfl
    · intro hf
      rw [if_pos hf] at k
      have h := h.2
      refine z_iload_n (pc' := 14) 2 rfl rfl dX5_readCondition_13 rfl ?_
      refine z_sipush (pc' := 17) (by decide) dX5_readCondition_14 rfl ?_
      refine z_icmp_ge 67 dX5_readCondition_17 (by decide) (pc' := 20) rfl (by decide) (by decide) (fun _ => ?_) (fun c => absurd c (by decide))
      refine z_iconst (pc' := 68) dX5_readCondition_67 rfl ?_
      refine z_zret rfl (by decide) dX5_readCondition_68 ?_
      try dsimp only at k
      exact k
    · intro i10 hi ih hf
      have h := h.1 i10 hi hf
      have ih : zfind (E_LR_readCondition_13 w a0 a1 (F_LR n9)) (i10 + 1) = -1 → z_Wp m_X5_readCondition (d + (n9 + 1) + 4) 13 [(0, zR 37), (1, zI a0), (3, zI ((i10 + 1 : Nat) : Int))] [] (if F_T_at (A_LR_readCondition_13 w a0 a1 (F_LR n9) i10) ((A_LR_readCondition_13 w a0 a1 (F_LR n9) i10) 37 2) = 124 then if (F_LR n9 4 (F_LR_step (A_LR_readCondition_13 w a0 a1 (F_LR n9) i10)) a0 0).1 = 0 then A_LR_readCondition_13 w a0 a1 (F_LR n9) i10 else F_W_add ((F_LR n9 4 (F_LR_step (A_LR_readCondition_13 w a0 a1 (F_LR n9) i10)) a0 0).2) 124 0 else A_LR_readCondition_13 w a0 a1 (F_LR n9) i10) Q := ih
      have hE : E_LR_readCondition_13 w a0 a1 (F_LR n9) i10 = (if F_T_at (A_LR_readCondition_13 w a0 a1 (F_LR n9) i10) ((A_LR_readCondition_13 w a0 a1 (F_LR n9) i10) 37 2) = 124 then if (F_LR n9 4 (F_LR_step (A_LR_readCondition_13 w a0 a1 (F_LR n9) i10)) a0 0).1 = 0 then true else false else true) := rfl
      refine z_iload_n (pc' := 14) 2 rfl rfl dX5_readCondition_13 rfl ?_
      refine z_sipush (pc' := 17) (by decide) dX5_readCondition_14 rfl ?_
      obtain ⟨r11, h⟩ := h
      refine z_icmp_ge 67 dX5_readCondition_17 (by decide) (pc' := 20) rfl r11 (by decide) (fun c => absurd c (by omega)) (fun _ => ?_)
      refine z_aload_n (pc' := 21) 0 rfl rfl dX5_readCondition_20 rfl ?_
      refine z_getR (t := 28) (pc' := 24) g_X5_18 (by decide) rfl rfl dX5_readCondition_21 rfl ?_
      refine z_aload_n (pc' := 25) 0 rfl rfl dX5_readCondition_24 rfl ?_
      refine z_getI2 (v := (A_LR_readCondition_13 w a0 a1 (F_LR n9) i10) 37 2) (pc' := 28) g_X5_31 (by decide) rfl rfl rfl dX5_readCondition_25 rfl ?_
      refine z_invV (as := [zI ((A_LR_readCondition_13 w a0 a1 (F_LR n9) i10) 37 2)]) (st := []) (C := m_X10_at) (fs := [31, 0]) (pc' := 31) dX5_readCondition_28 rfl t_2_206 k_X10_at rfl (by decide) rfl rfl rfl rfl (Nat.le_of_ble_eq_true rfl) ?_
      obtain ⟨r12, h⟩ := h
      refine c_T_at r12 ?_
      show z_Wp m_X5_readCondition _ 31 [(0, zR 37), (1, zI a0), (3, zI (i10 : Int))] [zI (F_T_at (A_LR_readCondition_13 w a0 a1 (F_LR n9) i10) ((A_LR_readCondition_13 w a0 a1 (F_LR n9) i10) 37 2))] (A_LR_readCondition_13 w a0 a1 (F_LR n9) i10) _
      refine z_bipush (pc' := 33) (by decide) dX5_readCondition_31 rfl ?_
      obtain ⟨r13, h⟩ := h
      refine z_icmp_ne 67 dX5_readCondition_33 (by decide) (pc' := 36) rfl r13 (by decide) (fun c137 => ?_) (fun c137 => ?_)
      · have h := h.2 c137
        rw [if_neg c137] at ih
        rw [if_neg c137] at hE
        refine z_iconst (pc' := 68) dX5_readCondition_67 rfl ?_
        refine z_zret rfl (by decide) dX5_readCondition_68 ?_
        have hz := zfind_hit hf hE _ hi
        rw [hz, if_neg (by omega), Int.toNat_natCast] at k
        unfold R_LR_readCondition_13 at k
        rw [if_neg c137] at k
        try dsimp only at k
        exact k
      · have h := h.1 c137
        rw [if_pos c137] at ih
        rw [if_pos c137] at hE
        refine z_aload_n (pc' := 37) 0 rfl rfl dX5_readCondition_36 rfl ?_
        refine z_invV (as := []) (st := []) (C := m_X5_step) (fs := [30, 40, 0]) (pc' := 40) dX5_readCondition_37 rfl t_2_219 k_X5_step rfl (by decide) rfl rfl rfl rfl (Nat.le_of_ble_eq_true rfl) ?_
        obtain ⟨r14, h⟩ := h
        refine c_LR_step r14 ?_
        show z_Wp m_X5_readCondition _ 40 [(0, zR 37), (1, zI a0), (3, zI (i10 : Int))] [] (F_LR_step (A_LR_readCondition_13 w a0 a1 (F_LR n9) i10)) _
        refine z_aload_n (pc' := 41) 0 rfl rfl dX5_readCondition_40 rfl ?_
        refine z_iload_n (pc' := 42) 1 rfl rfl dX5_readCondition_41 rfl ?_
        refine z_iconst (pc' := 43) dX5_readCondition_42 rfl ?_
        refine z_invV (as := [zI a0, zI 0]) (st := []) (C := m_X5_readTruth) (fs := [30, 40, 0]) (pc' := 46) dX5_readCondition_43 rfl t_3_9 k_X5_readTruth rfl (by decide) rfl rfl rfl rfl (Nat.le_of_ble_eq_true rfl) ?_
        obtain ⟨r15, h⟩ := h
        refine z_dcast (d' := d + n9 + 4) (by omega) (ihr.2.2.2.2.1 r15 ?_)
        show z_Wp m_X5_readCondition _ 46 [(0, zR 37), (1, zI a0), (3, zI (i10 : Int))] [zI ((F_LR n9 4 (F_LR_step (A_LR_readCondition_13 w a0 a1 (F_LR n9) i10)) a0 0).1)] ((F_LR n9 4 (F_LR_step (A_LR_readCondition_13 w a0 a1 (F_LR n9) i10)) a0 0).2) _
        obtain ⟨r16, h⟩ := h
        refine z_if_ne 51 dX5_readCondition_46 (by decide) (pc' := 49) rfl r16 (fun c138 => ?_) (fun c138 => ?_)
        · have h := h.2 c138
          rw [if_neg c138] at ih
          rw [if_neg c138] at hE
          refine z_aload_n (pc' := 52) 0 rfl rfl dX5_readCondition_51 rfl ?_
          refine z_getR (t := 38) (pc' := 55) g_X5_12 (by decide) rfl rfl dX5_readCondition_52 rfl ?_
          refine z_bipush (pc' := 57) (by decide) dX5_readCondition_55 rfl ?_
          refine z_iconst (pc' := 58) dX5_readCondition_57 rfl ?_
          refine z_invV (as := [zI 124, zI 0]) (st := []) (C := m_X4_add) (fs := [41, 42, 0, 0]) (pc' := 61) dX5_readCondition_58 rfl t_2_234 k_X4_add rfl (by decide) rfl rfl rfl rfl (Nat.le_of_ble_eq_true rfl) ?_
          have r17 := h
          refine c_W_add r17 ?_
          show z_Wp m_X5_readCondition _ 61 [(0, zR 37), (1, zI a0), (3, zI (i10 : Int))] [] (F_W_add ((F_LR n9 4 (F_LR_step (A_LR_readCondition_13 w a0 a1 (F_LR n9) i10)) a0 0).2) 124 0) _
          refine z_iinc (pc' := 64) (ls' := [(0, zR 37), (1, zI a0), (3, zI ((i10 : Int) + 1))]) 2 rfl (by decide) rfl rfl dX5_readCondition_61 rfl ?_
          refine z_goto 13 dX5_readCondition_64 (by decide) ?_
          exact (ih (zfind_miss hf (by rw [hE]; decide)))
        · have h := h.1 c138
          rw [if_pos c138] at ih
          rw [if_pos c138] at hE
          refine z_iconst (pc' := 50) dX5_readCondition_49 rfl ?_
          refine z_zret rfl (by decide) dX5_readCondition_50 ?_
          have hz := zfind_hit hf hE _ hi
          rw [hz, if_neg (by omega), Int.toNat_natCast] at k
          unfold R_LR_readCondition_13 at k
          rw [if_pos c137] at k
          rw [if_pos c138] at k
          try dsimp only at k
          exact k
  · have h := h.1 c
    rw [if_pos c] at k
    refine z_iconst (pc' := 10) dX5_readCondition_9 rfl ?_
    refine z_zret rfl (by decide) dX5_readCondition_10 ?_
    try dsimp only at k
    exact k
set_option maxHeartbeats 2000000 in
set_option maxRecDepth 4000 in
theorem st_LR_readTruth {d n9 : Nat} (ihr : S_LR d n9) : S_LR_readTruth d (n9 + 1) := by
  intro w a0 a1 Q h k
  have eh : P_LR (n9 + 1) 4 w a0 a1 = ((P_LR n9 5 w a0 a1) ∧ (-2147483648 ≤ (F_LR n9 5 w a0 a1).1 ∧ (F_LR n9 5 w a0 a1).1 < 2147483648) ∧ (((F_LR n9 5 w a0 a1).1 = 0 → True) ∧ (¬ ((F_LR n9 5 w a0 a1).1 = 0) → (∀ i10 : Nat, i10 < 240 → zfind (E_LR_readTruth_13 w a0 a1 (F_LR n9)) i10 = -1 → (-2147483648 ≤ (i10 : Int) ∧ (i10 : Int) < 2147483648) ∧ (P_T_at (A_LR_readTruth_13 w a0 a1 (F_LR n9) i10) ((A_LR_readTruth_13 w a0 a1 (F_LR n9) i10) 37 2)) ∧ (-2147483648 ≤ F_T_at (A_LR_readTruth_13 w a0 a1 (F_LR n9) i10) ((A_LR_readTruth_13 w a0 a1 (F_LR n9) i10) 37 2) ∧ F_T_at (A_LR_readTruth_13 w a0 a1 (F_LR n9) i10) ((A_LR_readTruth_13 w a0 a1 (F_LR n9) i10) 37 2) < 2147483648) ∧ ((F_T_at (A_LR_readTruth_13 w a0 a1 (F_LR n9) i10) ((A_LR_readTruth_13 w a0 a1 (F_LR n9) i10) 37 2) = 38 → (P_LR_step (A_LR_readTruth_13 w a0 a1 (F_LR n9) i10)) ∧ (P_LR n9 5 (F_LR_step (A_LR_readTruth_13 w a0 a1 (F_LR n9) i10)) a0 0) ∧ (-2147483648 ≤ (F_LR n9 5 (F_LR_step (A_LR_readTruth_13 w a0 a1 (F_LR n9) i10)) a0 0).1 ∧ (F_LR n9 5 (F_LR_step (A_LR_readTruth_13 w a0 a1 (F_LR n9) i10)) a0 0).1 < 2147483648) ∧ (((F_LR n9 5 (F_LR_step (A_LR_readTruth_13 w a0 a1 (F_LR n9) i10)) a0 0).1 = 0 → True) ∧ (¬ ((F_LR n9 5 (F_LR_step (A_LR_readTruth_13 w a0 a1 (F_LR n9) i10)) a0 0).1 = 0) → P_W_add ((F_LR n9 5 (F_LR_step (A_LR_readTruth_13 w a0 a1 (F_LR n9) i10)) a0 0).2) 38 0))) ∧ (¬ (F_T_at (A_LR_readTruth_13 w a0 a1 (F_LR n9) i10) ((A_LR_readTruth_13 w a0 a1 (F_LR n9) i10) 37 2) = 38) → True))) ∧ (True)))) := by rw [P_LR]
  have ek : F_LR (n9 + 1) 4 w a0 a1 = (if (F_LR n9 5 w a0 a1).1 = 0 then (0, (F_LR n9 5 w a0 a1).2) else if zfind (E_LR_readTruth_13 w a0 a1 (F_LR n9)) 240 = -1 then (1, A_LR_readTruth_13 w a0 a1 (F_LR n9) 240) else R_LR_readTruth_13 w a0 a1 (F_LR n9) (zfind (E_LR_readTruth_13 w a0 a1 (F_LR n9)) 240).toNat) := by rw [F_LR]
  rw [eh] at h
  rw [ek] at k
  clear eh ek
  refine z_enter rfl (Nat.le_of_ble_eq_true rfl) ?_
  show z_Wp m_X5_readTruth _ 0 [(0, zR 37), (1, zI a0), (2, zI a1)] [] w _
  refine z_aload_n (pc' := 1) 0 rfl rfl dX5_readTruth_0 rfl ?_
  refine z_iload_n (pc' := 2) 1 rfl rfl dX5_readTruth_1 rfl ?_
  refine z_iload_n (pc' := 3) 2 rfl rfl dX5_readTruth_2 rfl ?_
  refine z_invV (as := [zI a0, zI a1]) (st := []) (C := m_X5_readUnit) (fs := [30, 40, 0]) (pc' := 6) dX5_readTruth_3 rfl t_3_13 k_X5_readUnit rfl (by decide) rfl rfl rfl rfl (Nat.le_of_ble_eq_true rfl) ?_
  obtain ⟨r1, h⟩ := h
  refine z_dcast (d' := d + n9 + 4) (by omega) (ihr.2.2.2.2.2.1 r1 ?_)
  show z_Wp m_X5_readTruth _ 6 [(0, zR 37), (1, zI a0), (2, zI a1)] [zI ((F_LR n9 5 w a0 a1).1)] ((F_LR n9 5 w a0 a1).2) _
  obtain ⟨r2, h⟩ := h
  refine z_if_ne 11 dX5_readTruth_6 (by decide) (pc' := 9) rfl r2 (fun c => ?_) (fun c => ?_)
  · have h := h.2 c
    rw [if_neg c] at k
    refine z_iconst (pc' := 12) dX5_readTruth_11 rfl ?_
    refine z_istore_n (pc' := 13) (ls' := [(0, zR 37), (1, zI a0), (2, zI a1), (3, zI 0)]) rfl (by decide) rfl rfl dX5_readTruth_12 rfl ?_
    refine z_Wp.sub (ls' := [(0, zR 37), (1, zI a0), (3, zI 0)]) ?_ (z_sub_of [0, 1, 3] rfl)
    refine z_upto 240 (fun i10 => zfind (E_LR_readTruth_13 w a0 a1 (F_LR n9)) i10 = -1 → z_Wp m_X5_readTruth (d + (n9 + 1) + 4) 13 [(0, zR 37), (1, zI a0), (3, zI (i10 : Int))] [] (A_LR_readTruth_13 w a0 a1 (F_LR n9) i10) Q) ?_ ?_ rfl
    · intro hf
      rw [if_pos hf] at k
      have h := h.2
      refine z_iload_n (pc' := 14) 2 rfl rfl dX5_readTruth_13 rfl ?_
      refine z_sipush (pc' := 17) (by decide) dX5_readTruth_14 rfl ?_
      refine z_icmp_ge 67 dX5_readTruth_17 (by decide) (pc' := 20) rfl (by decide) (by decide) (fun _ => ?_) (fun c => absurd c (by decide))
      refine z_iconst (pc' := 68) dX5_readTruth_67 rfl ?_
      refine z_zret rfl (by decide) dX5_readTruth_68 ?_
      try dsimp only at k
      exact k
    · intro i10 hi ih hf
      have h := h.1 i10 hi hf
      have ih : zfind (E_LR_readTruth_13 w a0 a1 (F_LR n9)) (i10 + 1) = -1 → z_Wp m_X5_readTruth (d + (n9 + 1) + 4) 13 [(0, zR 37), (1, zI a0), (3, zI ((i10 + 1 : Nat) : Int))] [] (if F_T_at (A_LR_readTruth_13 w a0 a1 (F_LR n9) i10) ((A_LR_readTruth_13 w a0 a1 (F_LR n9) i10) 37 2) = 38 then if (F_LR n9 5 (F_LR_step (A_LR_readTruth_13 w a0 a1 (F_LR n9) i10)) a0 0).1 = 0 then A_LR_readTruth_13 w a0 a1 (F_LR n9) i10 else F_W_add ((F_LR n9 5 (F_LR_step (A_LR_readTruth_13 w a0 a1 (F_LR n9) i10)) a0 0).2) 38 0 else A_LR_readTruth_13 w a0 a1 (F_LR n9) i10) Q := ih
      have hE : E_LR_readTruth_13 w a0 a1 (F_LR n9) i10 = (if F_T_at (A_LR_readTruth_13 w a0 a1 (F_LR n9) i10) ((A_LR_readTruth_13 w a0 a1 (F_LR n9) i10) 37 2) = 38 then if (F_LR n9 5 (F_LR_step (A_LR_readTruth_13 w a0 a1 (F_LR n9) i10)) a0 0).1 = 0 then true else false else true) := rfl
      refine z_iload_n (pc' := 14) 2 rfl rfl dX5_readTruth_13 rfl ?_
      refine z_sipush (pc' := 17) (by decide) dX5_readTruth_14 rfl ?_
      obtain ⟨r11, h⟩ := h
      refine z_icmp_ge 67 dX5_readTruth_17 (by decide) (pc' := 20) rfl r11 (by decide) (fun c => absurd c (by omega)) (fun _ => ?_)
      refine z_aload_n (pc' := 21) 0 rfl rfl dX5_readTruth_20 rfl ?_
      refine z_getR (t := 28) (pc' := 24) g_X5_18 (by decide) rfl rfl dX5_readTruth_21 rfl ?_
      refine z_aload_n (pc' := 25) 0 rfl rfl dX5_readTruth_24 rfl ?_
      refine z_getI2 (v := (A_LR_readTruth_13 w a0 a1 (F_LR n9) i10) 37 2) (pc' := 28) g_X5_31 (by decide) rfl rfl rfl dX5_readTruth_25 rfl ?_
      refine z_invV (as := [zI ((A_LR_readTruth_13 w a0 a1 (F_LR n9) i10) 37 2)]) (st := []) (C := m_X10_at) (fs := [31, 0]) (pc' := 31) dX5_readTruth_28 rfl t_2_206 k_X10_at rfl (by decide) rfl rfl rfl rfl (Nat.le_of_ble_eq_true rfl) ?_
      obtain ⟨r12, h⟩ := h
      refine c_T_at r12 ?_
      show z_Wp m_X5_readTruth _ 31 [(0, zR 37), (1, zI a0), (3, zI (i10 : Int))] [zI (F_T_at (A_LR_readTruth_13 w a0 a1 (F_LR n9) i10) ((A_LR_readTruth_13 w a0 a1 (F_LR n9) i10) 37 2))] (A_LR_readTruth_13 w a0 a1 (F_LR n9) i10) _
      refine z_bipush (pc' := 33) (by decide) dX5_readTruth_31 rfl ?_
      obtain ⟨r13, h⟩ := h
      refine z_icmp_ne 67 dX5_readTruth_33 (by decide) (pc' := 36) rfl r13 (by decide) (fun c139 => ?_) (fun c139 => ?_)
      · have h := h.2 c139
        rw [if_neg c139] at ih
        rw [if_neg c139] at hE
        refine z_iconst (pc' := 68) dX5_readTruth_67 rfl ?_
        refine z_zret rfl (by decide) dX5_readTruth_68 ?_
        have hz := zfind_hit hf hE _ hi
        rw [hz, if_neg (by omega), Int.toNat_natCast] at k
        unfold R_LR_readTruth_13 at k
        rw [if_neg c139] at k
        try dsimp only at k
        exact k
      · have h := h.1 c139
        rw [if_pos c139] at ih
        rw [if_pos c139] at hE
        refine z_aload_n (pc' := 37) 0 rfl rfl dX5_readTruth_36 rfl ?_
        refine z_invV (as := []) (st := []) (C := m_X5_step) (fs := [30, 40, 0]) (pc' := 40) dX5_readTruth_37 rfl t_2_219 k_X5_step rfl (by decide) rfl rfl rfl rfl (Nat.le_of_ble_eq_true rfl) ?_
        obtain ⟨r14, h⟩ := h
        refine c_LR_step r14 ?_
        show z_Wp m_X5_readTruth _ 40 [(0, zR 37), (1, zI a0), (3, zI (i10 : Int))] [] (F_LR_step (A_LR_readTruth_13 w a0 a1 (F_LR n9) i10)) _
        refine z_aload_n (pc' := 41) 0 rfl rfl dX5_readTruth_40 rfl ?_
        refine z_iload_n (pc' := 42) 1 rfl rfl dX5_readTruth_41 rfl ?_
        refine z_iconst (pc' := 43) dX5_readTruth_42 rfl ?_
        refine z_invV (as := [zI a0, zI 0]) (st := []) (C := m_X5_readUnit) (fs := [30, 40, 0]) (pc' := 46) dX5_readTruth_43 rfl t_3_13 k_X5_readUnit rfl (by decide) rfl rfl rfl rfl (Nat.le_of_ble_eq_true rfl) ?_
        obtain ⟨r15, h⟩ := h
        refine z_dcast (d' := d + n9 + 4) (by omega) (ihr.2.2.2.2.2.1 r15 ?_)
        show z_Wp m_X5_readTruth _ 46 [(0, zR 37), (1, zI a0), (3, zI (i10 : Int))] [zI ((F_LR n9 5 (F_LR_step (A_LR_readTruth_13 w a0 a1 (F_LR n9) i10)) a0 0).1)] ((F_LR n9 5 (F_LR_step (A_LR_readTruth_13 w a0 a1 (F_LR n9) i10)) a0 0).2) _
        obtain ⟨r16, h⟩ := h
        refine z_if_ne 51 dX5_readTruth_46 (by decide) (pc' := 49) rfl r16 (fun c140 => ?_) (fun c140 => ?_)
        · have h := h.2 c140
          rw [if_neg c140] at ih
          rw [if_neg c140] at hE
          refine z_aload_n (pc' := 52) 0 rfl rfl dX5_readTruth_51 rfl ?_
          refine z_getR (t := 38) (pc' := 55) g_X5_12 (by decide) rfl rfl dX5_readTruth_52 rfl ?_
          refine z_bipush (pc' := 57) (by decide) dX5_readTruth_55 rfl ?_
          refine z_iconst (pc' := 58) dX5_readTruth_57 rfl ?_
          refine z_invV (as := [zI 38, zI 0]) (st := []) (C := m_X4_add) (fs := [41, 42, 0, 0]) (pc' := 61) dX5_readTruth_58 rfl t_2_234 k_X4_add rfl (by decide) rfl rfl rfl rfl (Nat.le_of_ble_eq_true rfl) ?_
          have r17 := h
          refine c_W_add r17 ?_
          show z_Wp m_X5_readTruth _ 61 [(0, zR 37), (1, zI a0), (3, zI (i10 : Int))] [] (F_W_add ((F_LR n9 5 (F_LR_step (A_LR_readTruth_13 w a0 a1 (F_LR n9) i10)) a0 0).2) 38 0) _
          refine z_iinc (pc' := 64) (ls' := [(0, zR 37), (1, zI a0), (3, zI ((i10 : Int) + 1))]) 2 rfl (by decide) rfl rfl dX5_readTruth_61 rfl ?_
          refine z_goto 13 dX5_readTruth_64 (by decide) ?_
          exact (ih (zfind_miss hf (by rw [hE]; decide)))
        · have h := h.1 c140
          rw [if_pos c140] at ih
          rw [if_pos c140] at hE
          refine z_iconst (pc' := 50) dX5_readTruth_49 rfl ?_
          refine z_zret rfl (by decide) dX5_readTruth_50 ?_
          have hz := zfind_hit hf hE _ hi
          rw [hz, if_neg (by omega), Int.toNat_natCast] at k
          unfold R_LR_readTruth_13 at k
          rw [if_pos c139] at k
          rw [if_pos c140] at k
          try dsimp only at k
          exact k
  · have h := h.1 c
    rw [if_pos c] at k
    refine z_iconst (pc' := 10) dX5_readTruth_9 rfl ?_
    refine z_zret rfl (by decide) dX5_readTruth_10 ?_
    try dsimp only at k
    exact k
set_option maxHeartbeats 2000000 in
set_option maxRecDepth 4000 in
theorem st_LR_readUnit {d n9 : Nat} (ihr : S_LR d n9) : S_LR_readUnit d (n9 + 1) := by
  intro w a0 a1 Q h k
  have eh : P_LR (n9 + 1) 5 w a0 a1 = ((-2147483648 ≤ a1 ∧ a1 < 2147483648) ∧ ((a1 = 0 → (P_T_at w (w 37 2)) ∧ (-2147483648 ≤ F_T_at w (w 37 2) ∧ F_T_at w (w 37 2) < 2147483648) ∧ ((F_T_at w (w 37 2) = 33 → (-2147483648 ≤ a0 ∧ a0 < 2147483648) ∧ ((a0 ≥ 6 → True) ∧ (¬ (a0 ≥ 6) → (P_LR n9 6 w (a0 + 1) (F_T_at w (w 37 2))) ∧ (-2147483648 ≤ (F_LR n9 6 w (a0 + 1) (F_T_at w (w 37 2))).1 ∧ (F_LR n9 6 w (a0 + 1) (F_T_at w (w 37 2))).1 < 2147483648)))) ∧ (¬ (F_T_at w (w 37 2) = 33) → (F_T_at w (w 37 2) = 40 → (-2147483648 ≤ a0 ∧ a0 < 2147483648) ∧ ((a0 ≥ 6 → True) ∧ (¬ (a0 ≥ 6) → (P_LR n9 6 w (a0 + 1) (F_T_at w (w 37 2))) ∧ (-2147483648 ≤ (F_LR n9 6 w (a0 + 1) (F_T_at w (w 37 2))).1 ∧ (F_LR n9 6 w (a0 + 1) (F_T_at w (w 37 2))).1 < 2147483648)))) ∧ (¬ (F_T_at w (w 37 2) = 40) → (a1 = 0 → (P_LR n9 0 w a0 0) ∧ (-2147483648 ≤ (F_LR n9 0 w a0 0).1 ∧ (F_LR n9 0 w a0 0).1 < 2147483648) ∧ (((F_LR n9 0 w a0 0).1 = 0 → True) ∧ (¬ ((F_LR n9 0 w a0 0).1 = 0) → (P_T_at ((F_LR n9 0 w a0 0).2) (((F_LR n9 0 w a0 0).2) 37 2)) ∧ (P_LR_isComparison ((F_LR n9 0 w a0 0).2) (F_T_at ((F_LR n9 0 w a0 0).2) (((F_LR n9 0 w a0 0).2) 37 2))) ∧ ((F_LR_isComparison ((F_LR n9 0 w a0 0).2) (F_T_at ((F_LR n9 0 w a0 0).2) (((F_LR n9 0 w a0 0).2) 37 2)) = 0 → True) ∧ (¬ (F_LR_isComparison ((F_LR n9 0 w a0 0).2) (F_T_at ((F_LR n9 0 w a0 0).2) (((F_LR n9 0 w a0 0).2) 37 2)) = 0) → (P_LR_step ((F_LR n9 0 w a0 0).2)) ∧ (P_LR n9 0 (F_LR_step ((F_LR n9 0 w a0 0).2)) a0 0) ∧ (-2147483648 ≤ (F_LR n9 0 (F_LR_step ((F_LR n9 0 w a0 0).2)) a0 0).1 ∧ (F_LR n9 0 (F_LR_step ((F_LR n9 0 w a0 0).2)) a0 0).1 < 2147483648) ∧ (((F_LR n9 0 (F_LR_step ((F_LR n9 0 w a0 0).2)) a0 0).1 = 0 → True) ∧ (¬ ((F_LR n9 0 (F_LR_step ((F_LR n9 0 w a0 0).2)) a0 0).1 = 0) → P_W_add ((F_LR n9 0 (F_LR_step ((F_LR n9 0 w a0 0).2)) a0 0).2) (F_T_at ((F_LR n9 0 w a0 0).2) (((F_LR n9 0 w a0 0).2) 37 2)) 0))))))) ∧ (¬ (a1 = 0) → (P_LR_isComparison w (F_T_at w (w 37 2))) ∧ ((F_LR_isComparison w (F_T_at w (w 37 2)) = 0 → True) ∧ (¬ (F_LR_isComparison w (F_T_at w (w 37 2)) = 0) → (P_LR_step w) ∧ (P_LR n9 0 (F_LR_step w) a0 0) ∧ (-2147483648 ≤ (F_LR n9 0 (F_LR_step w) a0 0).1 ∧ (F_LR n9 0 (F_LR_step w) a0 0).1 < 2147483648) ∧ (((F_LR n9 0 (F_LR_step w) a0 0).1 = 0 → True) ∧ (¬ ((F_LR n9 0 (F_LR_step w) a0 0).1 = 0) → P_W_add ((F_LR n9 0 (F_LR_step w) a0 0).2) (F_T_at w (w 37 2)) 0))))))))) ∧ (¬ (a1 = 0) → (a1 = 0 → (P_LR n9 0 w a0 0) ∧ (-2147483648 ≤ (F_LR n9 0 w a0 0).1 ∧ (F_LR n9 0 w a0 0).1 < 2147483648) ∧ (((F_LR n9 0 w a0 0).1 = 0 → True) ∧ (¬ ((F_LR n9 0 w a0 0).1 = 0) → (P_T_at ((F_LR n9 0 w a0 0).2) (((F_LR n9 0 w a0 0).2) 37 2)) ∧ (P_LR_isComparison ((F_LR n9 0 w a0 0).2) (F_T_at ((F_LR n9 0 w a0 0).2) (((F_LR n9 0 w a0 0).2) 37 2))) ∧ ((F_LR_isComparison ((F_LR n9 0 w a0 0).2) (F_T_at ((F_LR n9 0 w a0 0).2) (((F_LR n9 0 w a0 0).2) 37 2)) = 0 → True) ∧ (¬ (F_LR_isComparison ((F_LR n9 0 w a0 0).2) (F_T_at ((F_LR n9 0 w a0 0).2) (((F_LR n9 0 w a0 0).2) 37 2)) = 0) → (P_LR_step ((F_LR n9 0 w a0 0).2)) ∧ (P_LR n9 0 (F_LR_step ((F_LR n9 0 w a0 0).2)) a0 0) ∧ (-2147483648 ≤ (F_LR n9 0 (F_LR_step ((F_LR n9 0 w a0 0).2)) a0 0).1 ∧ (F_LR n9 0 (F_LR_step ((F_LR n9 0 w a0 0).2)) a0 0).1 < 2147483648) ∧ (((F_LR n9 0 (F_LR_step ((F_LR n9 0 w a0 0).2)) a0 0).1 = 0 → True) ∧ (¬ ((F_LR n9 0 (F_LR_step ((F_LR n9 0 w a0 0).2)) a0 0).1 = 0) → P_W_add ((F_LR n9 0 (F_LR_step ((F_LR n9 0 w a0 0).2)) a0 0).2) (F_T_at ((F_LR n9 0 w a0 0).2) (((F_LR n9 0 w a0 0).2) 37 2)) 0))))))) ∧ (¬ (a1 = 0) → (P_T_at w (w 37 2)) ∧ (P_LR_isComparison w (F_T_at w (w 37 2))) ∧ ((F_LR_isComparison w (F_T_at w (w 37 2)) = 0 → True) ∧ (¬ (F_LR_isComparison w (F_T_at w (w 37 2)) = 0) → (P_LR_step w) ∧ (P_LR n9 0 (F_LR_step w) a0 0) ∧ (-2147483648 ≤ (F_LR n9 0 (F_LR_step w) a0 0).1 ∧ (F_LR n9 0 (F_LR_step w) a0 0).1 < 2147483648) ∧ (((F_LR n9 0 (F_LR_step w) a0 0).1 = 0 → True) ∧ (¬ ((F_LR n9 0 (F_LR_step w) a0 0).1 = 0) → P_W_add ((F_LR n9 0 (F_LR_step w) a0 0).2) (F_T_at w (w 37 2)) 0)))))))) := by rw [P_LR]
  have ek : F_LR (n9 + 1) 5 w a0 a1 = (if a1 = 0 then if F_T_at w (w 37 2) = 33 then if a0 ≥ 6 then (0, w) else if (F_LR n9 6 w (a0 + 1) (F_T_at w (w 37 2))).1 = 0 then (0, (F_LR n9 6 w (a0 + 1) (F_T_at w (w 37 2))).2) else (1, (F_LR n9 6 w (a0 + 1) (F_T_at w (w 37 2))).2) else if F_T_at w (w 37 2) = 40 then if a0 ≥ 6 then (0, w) else if (F_LR n9 6 w (a0 + 1) (F_T_at w (w 37 2))).1 = 0 then (0, (F_LR n9 6 w (a0 + 1) (F_T_at w (w 37 2))).2) else (1, (F_LR n9 6 w (a0 + 1) (F_T_at w (w 37 2))).2) else if a1 = 0 then if (F_LR n9 0 w a0 0).1 = 0 then (0, (F_LR n9 0 w a0 0).2) else if F_LR_isComparison ((F_LR n9 0 w a0 0).2) (F_T_at ((F_LR n9 0 w a0 0).2) (((F_LR n9 0 w a0 0).2) 37 2)) = 0 then (0, (F_LR n9 0 w a0 0).2) else if (F_LR n9 0 (F_LR_step ((F_LR n9 0 w a0 0).2)) a0 0).1 = 0 then (0, (F_LR n9 0 (F_LR_step ((F_LR n9 0 w a0 0).2)) a0 0).2) else (1, F_W_add ((F_LR n9 0 (F_LR_step ((F_LR n9 0 w a0 0).2)) a0 0).2) (F_T_at ((F_LR n9 0 w a0 0).2) (((F_LR n9 0 w a0 0).2) 37 2)) 0) else if F_LR_isComparison w (F_T_at w (w 37 2)) = 0 then (0, w) else if (F_LR n9 0 (F_LR_step w) a0 0).1 = 0 then (0, (F_LR n9 0 (F_LR_step w) a0 0).2) else (1, F_W_add ((F_LR n9 0 (F_LR_step w) a0 0).2) (F_T_at w (w 37 2)) 0) else if a1 = 0 then if (F_LR n9 0 w a0 0).1 = 0 then (0, (F_LR n9 0 w a0 0).2) else if F_LR_isComparison ((F_LR n9 0 w a0 0).2) (F_T_at ((F_LR n9 0 w a0 0).2) (((F_LR n9 0 w a0 0).2) 37 2)) = 0 then (0, (F_LR n9 0 w a0 0).2) else if (F_LR n9 0 (F_LR_step ((F_LR n9 0 w a0 0).2)) a0 0).1 = 0 then (0, (F_LR n9 0 (F_LR_step ((F_LR n9 0 w a0 0).2)) a0 0).2) else (1, F_W_add ((F_LR n9 0 (F_LR_step ((F_LR n9 0 w a0 0).2)) a0 0).2) (F_T_at ((F_LR n9 0 w a0 0).2) (((F_LR n9 0 w a0 0).2) 37 2)) 0) else if F_LR_isComparison w (F_T_at w (w 37 2)) = 0 then (0, w) else if (F_LR n9 0 (F_LR_step w) a0 0).1 = 0 then (0, (F_LR n9 0 (F_LR_step w) a0 0).2) else (1, F_W_add ((F_LR n9 0 (F_LR_step w) a0 0).2) (F_T_at w (w 37 2)) 0)) := by rw [F_LR]
  rw [eh] at h
  rw [ek] at k
  clear eh ek
  refine z_enter rfl (Nat.le_of_ble_eq_true rfl) ?_
  show z_Wp m_X5_readUnit _ 0 [(0, zR 37), (1, zI a0), (2, zI a1)] [] w _
  refine z_iload_n (pc' := 1) 2 rfl rfl dX5_readUnit_0 rfl ?_
  obtain ⟨r1, h⟩ := h
  refine z_if_eq 8 dX5_readUnit_1 (by decide) (pc' := 4) rfl r1 (fun c => ?_) (fun c => ?_)
  · have h := h.1 c
    rw [if_pos c] at k
    refine z_aload_n (pc' := 9) 0 rfl rfl dX5_readUnit_8 rfl ?_
    refine z_getR (t := 28) (pc' := 12) g_X5_18 (by decide) rfl rfl dX5_readUnit_9 rfl ?_
    refine z_aload_n (pc' := 13) 0 rfl rfl dX5_readUnit_12 rfl ?_
    refine z_getI2 (v := w 37 2) (pc' := 16) g_X5_31 (by decide) rfl rfl rfl dX5_readUnit_13 rfl ?_
    refine z_invV (as := [zI (w 37 2)]) (st := []) (C := m_X10_at) (fs := [31, 0]) (pc' := 19) dX5_readUnit_16 rfl t_2_206 k_X10_at rfl (by decide) rfl rfl rfl rfl (Nat.le_of_ble_eq_true rfl) ?_
    obtain ⟨r2, h⟩ := h
    refine c_T_at r2 ?_
    show z_Wp m_X5_readUnit _ 19 [(0, zR 37), (1, zI a0), (2, zI a1)] [zI (F_T_at w (w 37 2))] w _
    refine z_istore_n (pc' := 20) (ls' := [(0, zR 37), (1, zI a0), (2, zI a1), (3, zI (F_T_at w (w 37 2)))]) rfl (by decide) rfl rfl dX5_readUnit_19 rfl ?_
    refine z_iload_n (pc' := 21) 3 rfl rfl dX5_readUnit_20 rfl ?_
    refine z_bipush (pc' := 23) (by decide) dX5_readUnit_21 rfl ?_
    obtain ⟨r3, h⟩ := h
    refine z_icmp_eq 32 dX5_readUnit_23 (by decide) (pc' := 26) rfl r3 (by decide) (fun c => ?_) (fun c => ?_)
    · have h := h.1 c
      rw [if_pos c] at k
      refine z_iload_n (pc' := 33) 1 rfl rfl dX5_readUnit_32 rfl ?_
      refine z_bipush (pc' := 35) (by decide) dX5_readUnit_33 rfl ?_
      obtain ⟨r4, h⟩ := h
      refine z_icmp_ge 53 dX5_readUnit_35 (by decide) (pc' := 38) rfl r4 (by decide) (fun c => ?_) (fun c => ?_)
      · have h := h.1 c
        rw [if_pos c] at k
        refine z_iconst (pc' := 54) dX5_readUnit_53 rfl ?_
        refine z_zret rfl (by decide) dX5_readUnit_54 ?_
        try dsimp only at k
        exact k
      · have h := h.2 c
        rw [if_neg c] at k
        refine z_aload_n (pc' := 39) 0 rfl rfl dX5_readUnit_38 rfl ?_
        refine z_iload_n (pc' := 40) 1 rfl rfl dX5_readUnit_39 rfl ?_
        refine z_iconst (pc' := 41) dX5_readUnit_40 rfl ?_
        refine z_iadd (pc' := 42) dX5_readUnit_41 rfl ?_
        refine z_iload_n (pc' := 43) 3 rfl rfl dX5_readUnit_42 rfl ?_
        refine z_invV (as := [zI (a0 + 1), zI (F_T_at w (w 37 2))]) (st := []) (C := m_X5_readNestedUnit) (fs := [30, 40, 0]) (pc' := 46) dX5_readUnit_43 rfl t_3_17 k_X5_readNestedUnit rfl (by decide) rfl rfl rfl rfl (Nat.le_of_ble_eq_true rfl) ?_
        obtain ⟨r5, h⟩ := h
        refine z_dcast (d' := d + n9 + 4) (by omega) (ihr.2.2.2.2.2.2 r5 ?_)
        show z_Wp m_X5_readUnit _ 46 [(0, zR 37), (1, zI a0), (2, zI a1), (3, zI (F_T_at w (w 37 2)))] [zI ((F_LR n9 6 w (a0 + 1) (F_T_at w (w 37 2))).1)] ((F_LR n9 6 w (a0 + 1) (F_T_at w (w 37 2))).2) _
        have r6 := h
        refine z_if_eq 53 dX5_readUnit_46 (by decide) (pc' := 49) rfl r6 (fun c => ?_) (fun c => ?_)
        · skip
          rw [if_pos c] at k
          refine z_iconst (pc' := 54) dX5_readUnit_53 rfl ?_
          refine z_zret rfl (by decide) dX5_readUnit_54 ?_
          try dsimp only at k
          exact k
        · skip
          rw [if_neg c] at k
          refine z_iconst (pc' := 50) dX5_readUnit_49 rfl ?_
          refine z_goto 54 dX5_readUnit_50 (by decide) ?_
          refine z_zret rfl (by decide) dX5_readUnit_54 ?_
          try dsimp only at k
          exact k
    · have h := h.2 c
      rw [if_neg c] at k
      refine z_iload_n (pc' := 27) 3 rfl rfl dX5_readUnit_26 rfl ?_
      refine z_bipush (pc' := 29) (by decide) dX5_readUnit_27 rfl ?_
      refine z_icmp_ne 55 dX5_readUnit_29 (by decide) (pc' := 32) rfl r3 (by decide) (fun c => ?_) (fun c => ?_)
      · have h := h.2 c
        rw [if_neg c] at k
        refine z_iload_n (pc' := 56) 2 rfl rfl dX5_readUnit_55 rfl ?_
        refine z_if_ne 69 dX5_readUnit_56 (by decide) (pc' := 59) rfl r1 (fun c => ?_) (fun c => ?_)
        · have h := h.2 c
          rw [if_neg c] at k
          refine z_aload_n (pc' := 70) 0 rfl rfl dX5_readUnit_69 rfl ?_
          refine z_getR (t := 28) (pc' := 73) g_X5_18 (by decide) rfl rfl dX5_readUnit_70 rfl ?_
          refine z_aload_n (pc' := 74) 0 rfl rfl dX5_readUnit_73 rfl ?_
          refine z_getI2 (v := w 37 2) (pc' := 77) g_X5_31 (by decide) rfl rfl rfl dX5_readUnit_74 rfl ?_
          refine z_invV (as := [zI (w 37 2)]) (st := []) (C := m_X10_at) (fs := [31, 0]) (pc' := 80) dX5_readUnit_77 rfl t_2_206 k_X10_at rfl (by decide) rfl rfl rfl rfl (Nat.le_of_ble_eq_true rfl) ?_
          refine c_T_at r2 ?_
          show z_Wp m_X5_readUnit _ 80 [(0, zR 37), (1, zI a0), (2, zI a1), (3, zI (F_T_at w (w 37 2)))] [zI (F_T_at w (w 37 2))] w _
          refine z_istore (pc' := 82) (ls' := [(0, zR 37), (1, zI a0), (2, zI a1), (3, zI (F_T_at w (w 37 2))), (4, zI (F_T_at w (w 37 2)))]) (by decide) rfl rfl dX5_readUnit_80 rfl ?_
          refine z_iload (pc' := 84) 4 rfl dX5_readUnit_82 rfl ?_
          refine z_invS (as := [zI (F_T_at w (w 37 2))]) (st := []) (C := m_X5_isComparison) (pc' := 87) dX5_readUnit_84 rfl t_3_2 k_X5_isComparison rfl rfl (Nat.le_of_ble_eq_true rfl) ?_
          obtain ⟨r7, h⟩ := h
          refine c_LR_isComparison r7 ?_
          show z_Wp m_X5_readUnit _ 87 [(0, zR 37), (1, zI a0), (2, zI a1), (3, zI (F_T_at w (w 37 2))), (4, zI (F_T_at w (w 37 2)))] [zI (F_LR_isComparison w (F_T_at w (w 37 2)))] w _
          refine z_if_ne 92 dX5_readUnit_87 (by decide) (pc' := 90) rfl (z_rb b_LR_isComparison) (fun c => ?_) (fun c => ?_)
          · have h := h.2 c
            rw [if_neg c] at k
            refine z_aload_n (pc' := 93) 0 rfl rfl dX5_readUnit_92 rfl ?_
            refine z_invV (as := []) (st := []) (C := m_X5_step) (fs := [30, 40, 0]) (pc' := 96) dX5_readUnit_93 rfl t_2_219 k_X5_step rfl (by decide) rfl rfl rfl rfl (Nat.le_of_ble_eq_true rfl) ?_
            obtain ⟨r8, h⟩ := h
            refine c_LR_step r8 ?_
            show z_Wp m_X5_readUnit _ 96 [(0, zR 37), (1, zI a0), (2, zI a1), (3, zI (F_T_at w (w 37 2))), (4, zI (F_T_at w (w 37 2)))] [] (F_LR_step w) _
            refine z_aload_n (pc' := 97) 0 rfl rfl dX5_readUnit_96 rfl ?_
            refine z_iload_n (pc' := 98) 1 rfl rfl dX5_readUnit_97 rfl ?_
            refine z_invV (as := [zI a0]) (st := []) (C := m_X5_readSum) (fs := [30, 40, 0]) (pc' := 101) dX5_readUnit_98 rfl t_2_207 k_X5_readSum rfl (by decide) rfl rfl rfl rfl (Nat.le_of_ble_eq_true rfl) ?_
            obtain ⟨r9, h⟩ := h
            refine z_dcast (d' := d + n9 + 4) (by omega) (ihr.1 r9 ?_)
            show z_Wp m_X5_readUnit _ 101 [(0, zR 37), (1, zI a0), (2, zI a1), (3, zI (F_T_at w (w 37 2))), (4, zI (F_T_at w (w 37 2)))] [zI ((F_LR n9 0 (F_LR_step w) a0 0).1)] ((F_LR n9 0 (F_LR_step w) a0 0).2) _
            obtain ⟨r10, h⟩ := h
            refine z_if_ne 106 dX5_readUnit_101 (by decide) (pc' := 104) rfl r10 (fun c => ?_) (fun c => ?_)
            · have h := h.2 c
              rw [if_neg c] at k
              refine z_aload_n (pc' := 107) 0 rfl rfl dX5_readUnit_106 rfl ?_
              refine z_getR (t := 38) (pc' := 110) g_X5_12 (by decide) rfl rfl dX5_readUnit_107 rfl ?_
              refine z_iload (pc' := 112) 4 rfl dX5_readUnit_110 rfl ?_
              refine z_iconst (pc' := 113) dX5_readUnit_112 rfl ?_
              refine z_invV (as := [zI (F_T_at w (w 37 2)), zI 0]) (st := []) (C := m_X4_add) (fs := [41, 42, 0, 0]) (pc' := 116) dX5_readUnit_113 rfl t_2_234 k_X4_add rfl (by decide) rfl rfl rfl rfl (Nat.le_of_ble_eq_true rfl) ?_
              have r11 := h
              refine c_W_add r11 ?_
              show z_Wp m_X5_readUnit _ 116 [(0, zR 37), (1, zI a0), (2, zI a1), (3, zI (F_T_at w (w 37 2))), (4, zI (F_T_at w (w 37 2)))] [] (F_W_add ((F_LR n9 0 (F_LR_step w) a0 0).2) (F_T_at w (w 37 2)) 0) _
              refine z_iconst (pc' := 117) dX5_readUnit_116 rfl ?_
              refine z_zret rfl (by decide) dX5_readUnit_117 ?_
              try dsimp only at k
              exact k
            · have h := h.1 c
              rw [if_pos c] at k
              refine z_iconst (pc' := 105) dX5_readUnit_104 rfl ?_
              refine z_zret rfl (by decide) dX5_readUnit_105 ?_
              try dsimp only at k
              exact k
          · have h := h.1 c
            rw [if_pos c] at k
            refine z_iconst (pc' := 91) dX5_readUnit_90 rfl ?_
            refine z_zret rfl (by decide) dX5_readUnit_91 ?_
            try dsimp only at k
            exact k
        · have h := h.1 c
          rw [if_pos c] at k
          refine z_aload_n (pc' := 60) 0 rfl rfl dX5_readUnit_59 rfl ?_
          refine z_iload_n (pc' := 61) 1 rfl rfl dX5_readUnit_60 rfl ?_
          refine z_invV (as := [zI a0]) (st := []) (C := m_X5_readSum) (fs := [30, 40, 0]) (pc' := 64) dX5_readUnit_61 rfl t_2_207 k_X5_readSum rfl (by decide) rfl rfl rfl rfl (Nat.le_of_ble_eq_true rfl) ?_
          obtain ⟨r12, h⟩ := h
          refine z_dcast (d' := d + n9 + 4) (by omega) (ihr.1 r12 ?_)
          show z_Wp m_X5_readUnit _ 64 [(0, zR 37), (1, zI a0), (2, zI a1), (3, zI (F_T_at w (w 37 2)))] [zI ((F_LR n9 0 w a0 0).1)] ((F_LR n9 0 w a0 0).2) _
          obtain ⟨r13, h⟩ := h
          refine z_if_ne 69 dX5_readUnit_64 (by decide) (pc' := 67) rfl r13 (fun c => ?_) (fun c => ?_)
          · have h := h.2 c
            rw [if_neg c] at k
            refine z_aload_n (pc' := 70) 0 rfl rfl dX5_readUnit_69 rfl ?_
            refine z_getR (t := 28) (pc' := 73) g_X5_18 (by decide) rfl rfl dX5_readUnit_70 rfl ?_
            refine z_aload_n (pc' := 74) 0 rfl rfl dX5_readUnit_73 rfl ?_
            refine z_getI2 (v := ((F_LR n9 0 w a0 0).2) 37 2) (pc' := 77) g_X5_31 (by decide) rfl rfl rfl dX5_readUnit_74 rfl ?_
            refine z_invV (as := [zI (((F_LR n9 0 w a0 0).2) 37 2)]) (st := []) (C := m_X10_at) (fs := [31, 0]) (pc' := 80) dX5_readUnit_77 rfl t_2_206 k_X10_at rfl (by decide) rfl rfl rfl rfl (Nat.le_of_ble_eq_true rfl) ?_
            obtain ⟨r14, h⟩ := h
            refine c_T_at r14 ?_
            show z_Wp m_X5_readUnit _ 80 [(0, zR 37), (1, zI a0), (2, zI a1), (3, zI (F_T_at w (w 37 2)))] [zI (F_T_at ((F_LR n9 0 w a0 0).2) (((F_LR n9 0 w a0 0).2) 37 2))] ((F_LR n9 0 w a0 0).2) _
            refine z_istore (pc' := 82) (ls' := [(0, zR 37), (1, zI a0), (2, zI a1), (3, zI (F_T_at w (w 37 2))), (4, zI (F_T_at ((F_LR n9 0 w a0 0).2) (((F_LR n9 0 w a0 0).2) 37 2)))]) (by decide) rfl rfl dX5_readUnit_80 rfl ?_
            refine z_iload (pc' := 84) 4 rfl dX5_readUnit_82 rfl ?_
            refine z_invS (as := [zI (F_T_at ((F_LR n9 0 w a0 0).2) (((F_LR n9 0 w a0 0).2) 37 2))]) (st := []) (C := m_X5_isComparison) (pc' := 87) dX5_readUnit_84 rfl t_3_2 k_X5_isComparison rfl rfl (Nat.le_of_ble_eq_true rfl) ?_
            obtain ⟨r15, h⟩ := h
            refine c_LR_isComparison r15 ?_
            show z_Wp m_X5_readUnit _ 87 [(0, zR 37), (1, zI a0), (2, zI a1), (3, zI (F_T_at w (w 37 2))), (4, zI (F_T_at ((F_LR n9 0 w a0 0).2) (((F_LR n9 0 w a0 0).2) 37 2)))] [zI (F_LR_isComparison ((F_LR n9 0 w a0 0).2) (F_T_at ((F_LR n9 0 w a0 0).2) (((F_LR n9 0 w a0 0).2) 37 2)))] ((F_LR n9 0 w a0 0).2) _
            refine z_if_ne 92 dX5_readUnit_87 (by decide) (pc' := 90) rfl (z_rb b_LR_isComparison) (fun c => ?_) (fun c => ?_)
            · have h := h.2 c
              rw [if_neg c] at k
              refine z_aload_n (pc' := 93) 0 rfl rfl dX5_readUnit_92 rfl ?_
              refine z_invV (as := []) (st := []) (C := m_X5_step) (fs := [30, 40, 0]) (pc' := 96) dX5_readUnit_93 rfl t_2_219 k_X5_step rfl (by decide) rfl rfl rfl rfl (Nat.le_of_ble_eq_true rfl) ?_
              obtain ⟨r16, h⟩ := h
              refine c_LR_step r16 ?_
              show z_Wp m_X5_readUnit _ 96 [(0, zR 37), (1, zI a0), (2, zI a1), (3, zI (F_T_at w (w 37 2))), (4, zI (F_T_at ((F_LR n9 0 w a0 0).2) (((F_LR n9 0 w a0 0).2) 37 2)))] [] (F_LR_step ((F_LR n9 0 w a0 0).2)) _
              refine z_aload_n (pc' := 97) 0 rfl rfl dX5_readUnit_96 rfl ?_
              refine z_iload_n (pc' := 98) 1 rfl rfl dX5_readUnit_97 rfl ?_
              refine z_invV (as := [zI a0]) (st := []) (C := m_X5_readSum) (fs := [30, 40, 0]) (pc' := 101) dX5_readUnit_98 rfl t_2_207 k_X5_readSum rfl (by decide) rfl rfl rfl rfl (Nat.le_of_ble_eq_true rfl) ?_
              obtain ⟨r17, h⟩ := h
              refine z_dcast (d' := d + n9 + 4) (by omega) (ihr.1 r17 ?_)
              show z_Wp m_X5_readUnit _ 101 [(0, zR 37), (1, zI a0), (2, zI a1), (3, zI (F_T_at w (w 37 2))), (4, zI (F_T_at ((F_LR n9 0 w a0 0).2) (((F_LR n9 0 w a0 0).2) 37 2)))] [zI ((F_LR n9 0 (F_LR_step ((F_LR n9 0 w a0 0).2)) a0 0).1)] ((F_LR n9 0 (F_LR_step ((F_LR n9 0 w a0 0).2)) a0 0).2) _
              obtain ⟨r18, h⟩ := h
              refine z_if_ne 106 dX5_readUnit_101 (by decide) (pc' := 104) rfl r18 (fun c => ?_) (fun c => ?_)
              · have h := h.2 c
                rw [if_neg c] at k
                refine z_aload_n (pc' := 107) 0 rfl rfl dX5_readUnit_106 rfl ?_
                refine z_getR (t := 38) (pc' := 110) g_X5_12 (by decide) rfl rfl dX5_readUnit_107 rfl ?_
                refine z_iload (pc' := 112) 4 rfl dX5_readUnit_110 rfl ?_
                refine z_iconst (pc' := 113) dX5_readUnit_112 rfl ?_
                refine z_invV (as := [zI (F_T_at ((F_LR n9 0 w a0 0).2) (((F_LR n9 0 w a0 0).2) 37 2)), zI 0]) (st := []) (C := m_X4_add) (fs := [41, 42, 0, 0]) (pc' := 116) dX5_readUnit_113 rfl t_2_234 k_X4_add rfl (by decide) rfl rfl rfl rfl (Nat.le_of_ble_eq_true rfl) ?_
                have r19 := h
                refine c_W_add r19 ?_
                show z_Wp m_X5_readUnit _ 116 [(0, zR 37), (1, zI a0), (2, zI a1), (3, zI (F_T_at w (w 37 2))), (4, zI (F_T_at ((F_LR n9 0 w a0 0).2) (((F_LR n9 0 w a0 0).2) 37 2)))] [] (F_W_add ((F_LR n9 0 (F_LR_step ((F_LR n9 0 w a0 0).2)) a0 0).2) (F_T_at ((F_LR n9 0 w a0 0).2) (((F_LR n9 0 w a0 0).2) 37 2)) 0) _
                refine z_iconst (pc' := 117) dX5_readUnit_116 rfl ?_
                refine z_zret rfl (by decide) dX5_readUnit_117 ?_
                try dsimp only at k
                exact k
              · have h := h.1 c
                rw [if_pos c] at k
                refine z_iconst (pc' := 105) dX5_readUnit_104 rfl ?_
                refine z_zret rfl (by decide) dX5_readUnit_105 ?_
                try dsimp only at k
                exact k
            · have h := h.1 c
              rw [if_pos c] at k
              refine z_iconst (pc' := 91) dX5_readUnit_90 rfl ?_
              refine z_zret rfl (by decide) dX5_readUnit_91 ?_
              try dsimp only at k
              exact k
          · have h := h.1 c
            rw [if_pos c] at k
            refine z_iconst (pc' := 68) dX5_readUnit_67 rfl ?_
            refine z_zret rfl (by decide) dX5_readUnit_68 ?_
            try dsimp only at k
            exact k
      · have h := h.1 c
        rw [if_pos c] at k
        refine z_iload_n (pc' := 33) 1 rfl rfl dX5_readUnit_32 rfl ?_
        refine z_bipush (pc' := 35) (by decide) dX5_readUnit_33 rfl ?_
        obtain ⟨r20, h⟩ := h
        refine z_icmp_ge 53 dX5_readUnit_35 (by decide) (pc' := 38) rfl r20 (by decide) (fun c => ?_) (fun c => ?_)
        · have h := h.1 c
          rw [if_pos c] at k
          refine z_iconst (pc' := 54) dX5_readUnit_53 rfl ?_
          refine z_zret rfl (by decide) dX5_readUnit_54 ?_
          try dsimp only at k
          exact k
        · have h := h.2 c
          rw [if_neg c] at k
          refine z_aload_n (pc' := 39) 0 rfl rfl dX5_readUnit_38 rfl ?_
          refine z_iload_n (pc' := 40) 1 rfl rfl dX5_readUnit_39 rfl ?_
          refine z_iconst (pc' := 41) dX5_readUnit_40 rfl ?_
          refine z_iadd (pc' := 42) dX5_readUnit_41 rfl ?_
          refine z_iload_n (pc' := 43) 3 rfl rfl dX5_readUnit_42 rfl ?_
          refine z_invV (as := [zI (a0 + 1), zI (F_T_at w (w 37 2))]) (st := []) (C := m_X5_readNestedUnit) (fs := [30, 40, 0]) (pc' := 46) dX5_readUnit_43 rfl t_3_17 k_X5_readNestedUnit rfl (by decide) rfl rfl rfl rfl (Nat.le_of_ble_eq_true rfl) ?_
          obtain ⟨r21, h⟩ := h
          refine z_dcast (d' := d + n9 + 4) (by omega) (ihr.2.2.2.2.2.2 r21 ?_)
          show z_Wp m_X5_readUnit _ 46 [(0, zR 37), (1, zI a0), (2, zI a1), (3, zI (F_T_at w (w 37 2)))] [zI ((F_LR n9 6 w (a0 + 1) (F_T_at w (w 37 2))).1)] ((F_LR n9 6 w (a0 + 1) (F_T_at w (w 37 2))).2) _
          have r22 := h
          refine z_if_eq 53 dX5_readUnit_46 (by decide) (pc' := 49) rfl r22 (fun c => ?_) (fun c => ?_)
          · skip
            rw [if_pos c] at k
            refine z_iconst (pc' := 54) dX5_readUnit_53 rfl ?_
            refine z_zret rfl (by decide) dX5_readUnit_54 ?_
            try dsimp only at k
            exact k
          · skip
            rw [if_neg c] at k
            refine z_iconst (pc' := 50) dX5_readUnit_49 rfl ?_
            refine z_goto 54 dX5_readUnit_50 (by decide) ?_
            refine z_zret rfl (by decide) dX5_readUnit_54 ?_
            try dsimp only at k
            exact k
  · have h := h.2 c
    rw [if_neg c] at k
    refine z_iconst (pc' := 5) dX5_readUnit_4 rfl ?_
    refine z_goto 19 dX5_readUnit_5 (by decide) ?_
    refine z_istore_n (pc' := 20) (ls' := [(0, zR 37), (1, zI a0), (2, zI a1), (3, zI 0)]) rfl (by decide) rfl rfl dX5_readUnit_19 rfl ?_
    refine z_iload_n (pc' := 21) 3 rfl rfl dX5_readUnit_20 rfl ?_
    refine z_bipush (pc' := 23) (by decide) dX5_readUnit_21 rfl ?_
    refine z_icmp_eq 32 dX5_readUnit_23 (by decide) (pc' := 26) rfl (by decide) (by decide) (fun c => absurd c (by decide)) (fun _ => ?_)
    refine z_iload_n (pc' := 27) 3 rfl rfl dX5_readUnit_26 rfl ?_
    refine z_bipush (pc' := 29) (by decide) dX5_readUnit_27 rfl ?_
    refine z_icmp_ne 55 dX5_readUnit_29 (by decide) (pc' := 32) rfl (by decide) (by decide) (fun _ => ?_) (fun c => absurd c (by decide))
    refine z_iload_n (pc' := 56) 2 rfl rfl dX5_readUnit_55 rfl ?_
    refine z_if_ne 69 dX5_readUnit_56 (by decide) (pc' := 59) rfl r1 (fun c => ?_) (fun c => ?_)
    · have h := h.2 c
      rw [if_neg c] at k
      refine z_aload_n (pc' := 70) 0 rfl rfl dX5_readUnit_69 rfl ?_
      refine z_getR (t := 28) (pc' := 73) g_X5_18 (by decide) rfl rfl dX5_readUnit_70 rfl ?_
      refine z_aload_n (pc' := 74) 0 rfl rfl dX5_readUnit_73 rfl ?_
      refine z_getI2 (v := w 37 2) (pc' := 77) g_X5_31 (by decide) rfl rfl rfl dX5_readUnit_74 rfl ?_
      refine z_invV (as := [zI (w 37 2)]) (st := []) (C := m_X10_at) (fs := [31, 0]) (pc' := 80) dX5_readUnit_77 rfl t_2_206 k_X10_at rfl (by decide) rfl rfl rfl rfl (Nat.le_of_ble_eq_true rfl) ?_
      obtain ⟨r23, h⟩ := h
      refine c_T_at r23 ?_
      show z_Wp m_X5_readUnit _ 80 [(0, zR 37), (1, zI a0), (2, zI a1), (3, zI 0)] [zI (F_T_at w (w 37 2))] w _
      refine z_istore (pc' := 82) (ls' := [(0, zR 37), (1, zI a0), (2, zI a1), (3, zI 0), (4, zI (F_T_at w (w 37 2)))]) (by decide) rfl rfl dX5_readUnit_80 rfl ?_
      refine z_iload (pc' := 84) 4 rfl dX5_readUnit_82 rfl ?_
      refine z_invS (as := [zI (F_T_at w (w 37 2))]) (st := []) (C := m_X5_isComparison) (pc' := 87) dX5_readUnit_84 rfl t_3_2 k_X5_isComparison rfl rfl (Nat.le_of_ble_eq_true rfl) ?_
      obtain ⟨r24, h⟩ := h
      refine c_LR_isComparison r24 ?_
      show z_Wp m_X5_readUnit _ 87 [(0, zR 37), (1, zI a0), (2, zI a1), (3, zI 0), (4, zI (F_T_at w (w 37 2)))] [zI (F_LR_isComparison w (F_T_at w (w 37 2)))] w _
      refine z_if_ne 92 dX5_readUnit_87 (by decide) (pc' := 90) rfl (z_rb b_LR_isComparison) (fun c => ?_) (fun c => ?_)
      · have h := h.2 c
        rw [if_neg c] at k
        refine z_aload_n (pc' := 93) 0 rfl rfl dX5_readUnit_92 rfl ?_
        refine z_invV (as := []) (st := []) (C := m_X5_step) (fs := [30, 40, 0]) (pc' := 96) dX5_readUnit_93 rfl t_2_219 k_X5_step rfl (by decide) rfl rfl rfl rfl (Nat.le_of_ble_eq_true rfl) ?_
        obtain ⟨r25, h⟩ := h
        refine c_LR_step r25 ?_
        show z_Wp m_X5_readUnit _ 96 [(0, zR 37), (1, zI a0), (2, zI a1), (3, zI 0), (4, zI (F_T_at w (w 37 2)))] [] (F_LR_step w) _
        refine z_aload_n (pc' := 97) 0 rfl rfl dX5_readUnit_96 rfl ?_
        refine z_iload_n (pc' := 98) 1 rfl rfl dX5_readUnit_97 rfl ?_
        refine z_invV (as := [zI a0]) (st := []) (C := m_X5_readSum) (fs := [30, 40, 0]) (pc' := 101) dX5_readUnit_98 rfl t_2_207 k_X5_readSum rfl (by decide) rfl rfl rfl rfl (Nat.le_of_ble_eq_true rfl) ?_
        obtain ⟨r26, h⟩ := h
        refine z_dcast (d' := d + n9 + 4) (by omega) (ihr.1 r26 ?_)
        show z_Wp m_X5_readUnit _ 101 [(0, zR 37), (1, zI a0), (2, zI a1), (3, zI 0), (4, zI (F_T_at w (w 37 2)))] [zI ((F_LR n9 0 (F_LR_step w) a0 0).1)] ((F_LR n9 0 (F_LR_step w) a0 0).2) _
        obtain ⟨r27, h⟩ := h
        refine z_if_ne 106 dX5_readUnit_101 (by decide) (pc' := 104) rfl r27 (fun c => ?_) (fun c => ?_)
        · have h := h.2 c
          rw [if_neg c] at k
          refine z_aload_n (pc' := 107) 0 rfl rfl dX5_readUnit_106 rfl ?_
          refine z_getR (t := 38) (pc' := 110) g_X5_12 (by decide) rfl rfl dX5_readUnit_107 rfl ?_
          refine z_iload (pc' := 112) 4 rfl dX5_readUnit_110 rfl ?_
          refine z_iconst (pc' := 113) dX5_readUnit_112 rfl ?_
          refine z_invV (as := [zI (F_T_at w (w 37 2)), zI 0]) (st := []) (C := m_X4_add) (fs := [41, 42, 0, 0]) (pc' := 116) dX5_readUnit_113 rfl t_2_234 k_X4_add rfl (by decide) rfl rfl rfl rfl (Nat.le_of_ble_eq_true rfl) ?_
          have r28 := h
          refine c_W_add r28 ?_
          show z_Wp m_X5_readUnit _ 116 [(0, zR 37), (1, zI a0), (2, zI a1), (3, zI 0), (4, zI (F_T_at w (w 37 2)))] [] (F_W_add ((F_LR n9 0 (F_LR_step w) a0 0).2) (F_T_at w (w 37 2)) 0) _
          refine z_iconst (pc' := 117) dX5_readUnit_116 rfl ?_
          refine z_zret rfl (by decide) dX5_readUnit_117 ?_
          try dsimp only at k
          exact k
        · have h := h.1 c
          rw [if_pos c] at k
          refine z_iconst (pc' := 105) dX5_readUnit_104 rfl ?_
          refine z_zret rfl (by decide) dX5_readUnit_105 ?_
          try dsimp only at k
          exact k
      · have h := h.1 c
        rw [if_pos c] at k
        refine z_iconst (pc' := 91) dX5_readUnit_90 rfl ?_
        refine z_zret rfl (by decide) dX5_readUnit_91 ?_
        try dsimp only at k
        exact k
    · have h := h.1 c
      rw [if_pos c] at k
      refine z_aload_n (pc' := 60) 0 rfl rfl dX5_readUnit_59 rfl ?_
      refine z_iload_n (pc' := 61) 1 rfl rfl dX5_readUnit_60 rfl ?_
      refine z_invV (as := [zI a0]) (st := []) (C := m_X5_readSum) (fs := [30, 40, 0]) (pc' := 64) dX5_readUnit_61 rfl t_2_207 k_X5_readSum rfl (by decide) rfl rfl rfl rfl (Nat.le_of_ble_eq_true rfl) ?_
      obtain ⟨r29, h⟩ := h
      refine z_dcast (d' := d + n9 + 4) (by omega) (ihr.1 r29 ?_)
      show z_Wp m_X5_readUnit _ 64 [(0, zR 37), (1, zI a0), (2, zI a1), (3, zI 0)] [zI ((F_LR n9 0 w a0 0).1)] ((F_LR n9 0 w a0 0).2) _
      obtain ⟨r30, h⟩ := h
      refine z_if_ne 69 dX5_readUnit_64 (by decide) (pc' := 67) rfl r30 (fun c => ?_) (fun c => ?_)
      · have h := h.2 c
        rw [if_neg c] at k
        refine z_aload_n (pc' := 70) 0 rfl rfl dX5_readUnit_69 rfl ?_
        refine z_getR (t := 28) (pc' := 73) g_X5_18 (by decide) rfl rfl dX5_readUnit_70 rfl ?_
        refine z_aload_n (pc' := 74) 0 rfl rfl dX5_readUnit_73 rfl ?_
        refine z_getI2 (v := ((F_LR n9 0 w a0 0).2) 37 2) (pc' := 77) g_X5_31 (by decide) rfl rfl rfl dX5_readUnit_74 rfl ?_
        refine z_invV (as := [zI (((F_LR n9 0 w a0 0).2) 37 2)]) (st := []) (C := m_X10_at) (fs := [31, 0]) (pc' := 80) dX5_readUnit_77 rfl t_2_206 k_X10_at rfl (by decide) rfl rfl rfl rfl (Nat.le_of_ble_eq_true rfl) ?_
        obtain ⟨r31, h⟩ := h
        refine c_T_at r31 ?_
        show z_Wp m_X5_readUnit _ 80 [(0, zR 37), (1, zI a0), (2, zI a1), (3, zI 0)] [zI (F_T_at ((F_LR n9 0 w a0 0).2) (((F_LR n9 0 w a0 0).2) 37 2))] ((F_LR n9 0 w a0 0).2) _
        refine z_istore (pc' := 82) (ls' := [(0, zR 37), (1, zI a0), (2, zI a1), (3, zI 0), (4, zI (F_T_at ((F_LR n9 0 w a0 0).2) (((F_LR n9 0 w a0 0).2) 37 2)))]) (by decide) rfl rfl dX5_readUnit_80 rfl ?_
        refine z_iload (pc' := 84) 4 rfl dX5_readUnit_82 rfl ?_
        refine z_invS (as := [zI (F_T_at ((F_LR n9 0 w a0 0).2) (((F_LR n9 0 w a0 0).2) 37 2))]) (st := []) (C := m_X5_isComparison) (pc' := 87) dX5_readUnit_84 rfl t_3_2 k_X5_isComparison rfl rfl (Nat.le_of_ble_eq_true rfl) ?_
        obtain ⟨r32, h⟩ := h
        refine c_LR_isComparison r32 ?_
        show z_Wp m_X5_readUnit _ 87 [(0, zR 37), (1, zI a0), (2, zI a1), (3, zI 0), (4, zI (F_T_at ((F_LR n9 0 w a0 0).2) (((F_LR n9 0 w a0 0).2) 37 2)))] [zI (F_LR_isComparison ((F_LR n9 0 w a0 0).2) (F_T_at ((F_LR n9 0 w a0 0).2) (((F_LR n9 0 w a0 0).2) 37 2)))] ((F_LR n9 0 w a0 0).2) _
        refine z_if_ne 92 dX5_readUnit_87 (by decide) (pc' := 90) rfl (z_rb b_LR_isComparison) (fun c => ?_) (fun c => ?_)
        · have h := h.2 c
          rw [if_neg c] at k
          refine z_aload_n (pc' := 93) 0 rfl rfl dX5_readUnit_92 rfl ?_
          refine z_invV (as := []) (st := []) (C := m_X5_step) (fs := [30, 40, 0]) (pc' := 96) dX5_readUnit_93 rfl t_2_219 k_X5_step rfl (by decide) rfl rfl rfl rfl (Nat.le_of_ble_eq_true rfl) ?_
          obtain ⟨r33, h⟩ := h
          refine c_LR_step r33 ?_
          show z_Wp m_X5_readUnit _ 96 [(0, zR 37), (1, zI a0), (2, zI a1), (3, zI 0), (4, zI (F_T_at ((F_LR n9 0 w a0 0).2) (((F_LR n9 0 w a0 0).2) 37 2)))] [] (F_LR_step ((F_LR n9 0 w a0 0).2)) _
          refine z_aload_n (pc' := 97) 0 rfl rfl dX5_readUnit_96 rfl ?_
          refine z_iload_n (pc' := 98) 1 rfl rfl dX5_readUnit_97 rfl ?_
          refine z_invV (as := [zI a0]) (st := []) (C := m_X5_readSum) (fs := [30, 40, 0]) (pc' := 101) dX5_readUnit_98 rfl t_2_207 k_X5_readSum rfl (by decide) rfl rfl rfl rfl (Nat.le_of_ble_eq_true rfl) ?_
          obtain ⟨r34, h⟩ := h
          refine z_dcast (d' := d + n9 + 4) (by omega) (ihr.1 r34 ?_)
          show z_Wp m_X5_readUnit _ 101 [(0, zR 37), (1, zI a0), (2, zI a1), (3, zI 0), (4, zI (F_T_at ((F_LR n9 0 w a0 0).2) (((F_LR n9 0 w a0 0).2) 37 2)))] [zI ((F_LR n9 0 (F_LR_step ((F_LR n9 0 w a0 0).2)) a0 0).1)] ((F_LR n9 0 (F_LR_step ((F_LR n9 0 w a0 0).2)) a0 0).2) _
          obtain ⟨r35, h⟩ := h
          refine z_if_ne 106 dX5_readUnit_101 (by decide) (pc' := 104) rfl r35 (fun c => ?_) (fun c => ?_)
          · have h := h.2 c
            rw [if_neg c] at k
            refine z_aload_n (pc' := 107) 0 rfl rfl dX5_readUnit_106 rfl ?_
            refine z_getR (t := 38) (pc' := 110) g_X5_12 (by decide) rfl rfl dX5_readUnit_107 rfl ?_
            refine z_iload (pc' := 112) 4 rfl dX5_readUnit_110 rfl ?_
            refine z_iconst (pc' := 113) dX5_readUnit_112 rfl ?_
            refine z_invV (as := [zI (F_T_at ((F_LR n9 0 w a0 0).2) (((F_LR n9 0 w a0 0).2) 37 2)), zI 0]) (st := []) (C := m_X4_add) (fs := [41, 42, 0, 0]) (pc' := 116) dX5_readUnit_113 rfl t_2_234 k_X4_add rfl (by decide) rfl rfl rfl rfl (Nat.le_of_ble_eq_true rfl) ?_
            have r36 := h
            refine c_W_add r36 ?_
            show z_Wp m_X5_readUnit _ 116 [(0, zR 37), (1, zI a0), (2, zI a1), (3, zI 0), (4, zI (F_T_at ((F_LR n9 0 w a0 0).2) (((F_LR n9 0 w a0 0).2) 37 2)))] [] (F_W_add ((F_LR n9 0 (F_LR_step ((F_LR n9 0 w a0 0).2)) a0 0).2) (F_T_at ((F_LR n9 0 w a0 0).2) (((F_LR n9 0 w a0 0).2) 37 2)) 0) _
            refine z_iconst (pc' := 117) dX5_readUnit_116 rfl ?_
            refine z_zret rfl (by decide) dX5_readUnit_117 ?_
            try dsimp only at k
            exact k
          · have h := h.1 c
            rw [if_pos c] at k
            refine z_iconst (pc' := 105) dX5_readUnit_104 rfl ?_
            refine z_zret rfl (by decide) dX5_readUnit_105 ?_
            try dsimp only at k
            exact k
        · have h := h.1 c
          rw [if_pos c] at k
          refine z_iconst (pc' := 91) dX5_readUnit_90 rfl ?_
          refine z_zret rfl (by decide) dX5_readUnit_91 ?_
          try dsimp only at k
          exact k
      · have h := h.1 c
        rw [if_pos c] at k
        refine z_iconst (pc' := 68) dX5_readUnit_67 rfl ?_
        refine z_zret rfl (by decide) dX5_readUnit_68 ?_
        try dsimp only at k
        exact k
set_option maxHeartbeats 2000000 in
set_option maxRecDepth 4000 in
theorem st_LR_readNestedUnit {d n9 : Nat} (ihr : S_LR d n9) : S_LR_readNestedUnit d (n9 + 1) := by
  intro w a0 a1 Q h k
  have eh : P_LR (n9 + 1) 6 w a0 a1 = ((P_LR_step w) ∧ (-2147483648 ≤ a1 ∧ a1 < 2147483648) ∧ ((a1 = 40 → (P_LR n9 3 (F_LR_step w) a0 0) ∧ (-2147483648 ≤ (F_LR n9 3 (F_LR_step w) a0 0).1 ∧ (F_LR n9 3 (F_LR_step w) a0 0).1 < 2147483648) ∧ (((F_LR n9 3 (F_LR_step w) a0 0).1 = 0 → True) ∧ (¬ ((F_LR n9 3 (F_LR_step w) a0 0).1 = 0) → (P_LR_take ((F_LR n9 3 (F_LR_step w) a0 0).2) 41) ∧ (-2147483648 ≤ (F_LR_take ((F_LR n9 3 (F_LR_step w) a0 0).2) 41).1 ∧ (F_LR_take ((F_LR n9 3 (F_LR_step w) a0 0).2) 41).1 < 2147483648)))) ∧ (¬ (a1 = 40) → (P_LR n9 5 (F_LR_step w) a0 0) ∧ (-2147483648 ≤ (F_LR n9 5 (F_LR_step w) a0 0).1 ∧ (F_LR n9 5 (F_LR_step w) a0 0).1 < 2147483648) ∧ (((F_LR n9 5 (F_LR_step w) a0 0).1 = 0 → True) ∧ (¬ ((F_LR n9 5 (F_LR_step w) a0 0).1 = 0) → P_W_add ((F_LR n9 5 (F_LR_step w) a0 0).2) 33 0))))) := by rw [P_LR]
  have ek : F_LR (n9 + 1) 6 w a0 a1 = (if a1 = 40 then if (F_LR n9 3 (F_LR_step w) a0 0).1 = 0 then (0, (F_LR n9 3 (F_LR_step w) a0 0).2) else if (F_LR_take ((F_LR n9 3 (F_LR_step w) a0 0).2) 41).1 = 0 then (0, (F_LR_take ((F_LR n9 3 (F_LR_step w) a0 0).2) 41).2) else (1, (F_LR_take ((F_LR n9 3 (F_LR_step w) a0 0).2) 41).2) else if (F_LR n9 5 (F_LR_step w) a0 0).1 = 0 then (0, (F_LR n9 5 (F_LR_step w) a0 0).2) else (1, F_W_add ((F_LR n9 5 (F_LR_step w) a0 0).2) 33 0)) := by rw [F_LR]
  rw [eh] at h
  rw [ek] at k
  clear eh ek
  refine z_enter rfl (Nat.le_of_ble_eq_true rfl) ?_
  show z_Wp m_X5_readNestedUnit _ 0 [(0, zR 37), (1, zI a0), (2, zI a1)] [] w _
  refine z_aload_n (pc' := 1) 0 rfl rfl dX5_readNestedUnit_0 rfl ?_
  refine z_invV (as := []) (st := []) (C := m_X5_step) (fs := [30, 40, 0]) (pc' := 4) dX5_readNestedUnit_1 rfl t_2_219 k_X5_step rfl (by decide) rfl rfl rfl rfl (Nat.le_of_ble_eq_true rfl) ?_
  obtain ⟨r1, h⟩ := h
  refine c_LR_step r1 ?_
  show z_Wp m_X5_readNestedUnit _ 4 [(0, zR 37), (1, zI a0), (2, zI a1)] [] (F_LR_step w) _
  refine z_iload_n (pc' := 5) 2 rfl rfl dX5_readNestedUnit_4 rfl ?_
  refine z_bipush (pc' := 7) (by decide) dX5_readNestedUnit_5 rfl ?_
  obtain ⟨r2, h⟩ := h
  refine z_icmp_ne 34 dX5_readNestedUnit_7 (by decide) (pc' := 10) rfl r2 (by decide) (fun c => ?_) (fun c => ?_)
  · have h := h.2 c
    rw [if_neg c] at k
    refine z_aload_n (pc' := 35) 0 rfl rfl dX5_readNestedUnit_34 rfl ?_
    refine z_iload_n (pc' := 36) 1 rfl rfl dX5_readNestedUnit_35 rfl ?_
    refine z_iconst (pc' := 37) dX5_readNestedUnit_36 rfl ?_
    refine z_invV (as := [zI a0, zI 0]) (st := []) (C := m_X5_readUnit) (fs := [30, 40, 0]) (pc' := 40) dX5_readNestedUnit_37 rfl t_3_13 k_X5_readUnit rfl (by decide) rfl rfl rfl rfl (Nat.le_of_ble_eq_true rfl) ?_
    obtain ⟨r3, h⟩ := h
    refine z_dcast (d' := d + n9 + 4) (by omega) (ihr.2.2.2.2.2.1 r3 ?_)
    show z_Wp m_X5_readNestedUnit _ 40 [(0, zR 37), (1, zI a0), (2, zI a1)] [zI ((F_LR n9 5 (F_LR_step w) a0 0).1)] ((F_LR n9 5 (F_LR_step w) a0 0).2) _
    obtain ⟨r4, h⟩ := h
    refine z_if_ne 45 dX5_readNestedUnit_40 (by decide) (pc' := 43) rfl r4 (fun c => ?_) (fun c => ?_)
    · have h := h.2 c
      rw [if_neg c] at k
      refine z_aload_n (pc' := 46) 0 rfl rfl dX5_readNestedUnit_45 rfl ?_
      refine z_getR (t := 38) (pc' := 49) g_X5_12 (by decide) rfl rfl dX5_readNestedUnit_46 rfl ?_
      refine z_bipush (pc' := 51) (by decide) dX5_readNestedUnit_49 rfl ?_
      refine z_iconst (pc' := 52) dX5_readNestedUnit_51 rfl ?_
      refine z_invV (as := [zI 33, zI 0]) (st := []) (C := m_X4_add) (fs := [41, 42, 0, 0]) (pc' := 55) dX5_readNestedUnit_52 rfl t_2_234 k_X4_add rfl (by decide) rfl rfl rfl rfl (Nat.le_of_ble_eq_true rfl) ?_
      have r5 := h
      refine c_W_add r5 ?_
      show z_Wp m_X5_readNestedUnit _ 55 [(0, zR 37), (1, zI a0), (2, zI a1)] [] (F_W_add ((F_LR n9 5 (F_LR_step w) a0 0).2) 33 0) _
      refine z_iconst (pc' := 56) dX5_readNestedUnit_55 rfl ?_
      refine z_zret rfl (by decide) dX5_readNestedUnit_56 ?_
      try dsimp only at k
      exact k
    · have h := h.1 c
      rw [if_pos c] at k
      refine z_iconst (pc' := 44) dX5_readNestedUnit_43 rfl ?_
      refine z_zret rfl (by decide) dX5_readNestedUnit_44 ?_
      try dsimp only at k
      exact k
  · have h := h.1 c
    rw [if_pos c] at k
    refine z_aload_n (pc' := 11) 0 rfl rfl dX5_readNestedUnit_10 rfl ?_
    refine z_iload_n (pc' := 12) 1 rfl rfl dX5_readNestedUnit_11 rfl ?_
    refine z_iconst (pc' := 13) dX5_readNestedUnit_12 rfl ?_
    refine z_invV (as := [zI a0, zI 0]) (st := []) (C := m_X5_readCondition) (fs := [30, 40, 0]) (pc' := 16) dX5_readNestedUnit_13 rfl t_3_5 k_X5_readCondition rfl (by decide) rfl rfl rfl rfl (Nat.le_of_ble_eq_true rfl) ?_
    obtain ⟨r6, h⟩ := h
    refine z_dcast (d' := d + n9 + 4) (by omega) (ihr.2.2.2.1 r6 ?_)
    show z_Wp m_X5_readNestedUnit _ 16 [(0, zR 37), (1, zI a0), (2, zI a1)] [zI ((F_LR n9 3 (F_LR_step w) a0 0).1)] ((F_LR n9 3 (F_LR_step w) a0 0).2) _
    obtain ⟨r7, h⟩ := h
    refine z_if_eq 32 dX5_readNestedUnit_16 (by decide) (pc' := 19) rfl r7 (fun c => ?_) (fun c => ?_)
    · have h := h.1 c
      rw [if_pos c] at k
      refine z_iconst (pc' := 33) dX5_readNestedUnit_32 rfl ?_
      refine z_zret rfl (by decide) dX5_readNestedUnit_33 ?_
      try dsimp only at k
      exact k
    · have h := h.2 c
      rw [if_neg c] at k
      refine z_aload_n (pc' := 20) 0 rfl rfl dX5_readNestedUnit_19 rfl ?_
      refine z_bipush (pc' := 22) (by decide) dX5_readNestedUnit_20 rfl ?_
      refine z_invV (as := [zI 41]) (st := []) (C := m_X5_take) (fs := [30, 40, 0]) (pc' := 25) dX5_readNestedUnit_22 rfl t_2_202 k_X5_take rfl (by decide) rfl rfl rfl rfl (Nat.le_of_ble_eq_true rfl) ?_
      obtain ⟨r8, h⟩ := h
      refine c_LR_take r8 ?_
      show z_Wp m_X5_readNestedUnit _ 25 [(0, zR 37), (1, zI a0), (2, zI a1)] [zI ((F_LR_take ((F_LR n9 3 (F_LR_step w) a0 0).2) 41).1)] ((F_LR_take ((F_LR n9 3 (F_LR_step w) a0 0).2) 41).2) _
      have r9 := h
      refine z_if_eq 32 dX5_readNestedUnit_25 (by decide) (pc' := 28) rfl r9 (fun c => ?_) (fun c => ?_)
      · skip
        rw [if_pos c] at k
        refine z_iconst (pc' := 33) dX5_readNestedUnit_32 rfl ?_
        refine z_zret rfl (by decide) dX5_readNestedUnit_33 ?_
        try dsimp only at k
        exact k
      · skip
        rw [if_neg c] at k
        refine z_iconst (pc' := 29) dX5_readNestedUnit_28 rfl ?_
        refine z_goto 33 dX5_readNestedUnit_29 (by decide) ?_
        refine z_zret rfl (by decide) dX5_readNestedUnit_33 ?_
        try dsimp only at k
        exact k
theorem st_LR (d : Nat) : ∀ n9, S_LR d n9
  | 0 => ⟨fun h _ => False.elim h, fun h _ => False.elim h, fun h _ => False.elim h, fun h _ => False.elim h, fun h _ => False.elim h, fun h _ => False.elim h, fun h _ => False.elim h⟩
  | n9 + 1 => ⟨st_LR_readSum (st_LR d n9), st_LR_readTerm (st_LR d n9), st_LR_readAtom (st_LR d n9), st_LR_readCondition (st_LR d n9), st_LR_readTruth (st_LR d n9), st_LR_readUnit (st_LR d n9), st_LR_readNestedUnit (st_LR d n9)⟩
def F_LR_readSum (w : z_Wd) (a0 : Int) : Int × z_Wd := F_LR 60 0 w a0 0
def P_LR_readSum (w : z_Wd) (a0 : Int) : Prop := P_LR 60 0 w a0 0
theorem c_LR_readSum {d : Nat} {w : z_Wd} {a0 : Int} {Q : Option z_V → z_Wd → Prop} (h : P_LR_readSum w a0) (k : Q (some (zI (F_LR_readSum w a0).1)) (F_LR_readSum w a0).2) : z_Wc (d + 64) m_X5_readSum [zR 37, zI a0] w Q := (st_LR d 60).1 h k
def F_LR_readTerm (w : z_Wd) (a0 : Int) : Int × z_Wd := F_LR 60 1 w a0 0
def P_LR_readTerm (w : z_Wd) (a0 : Int) : Prop := P_LR 60 1 w a0 0
theorem c_LR_readTerm {d : Nat} {w : z_Wd} {a0 : Int} {Q : Option z_V → z_Wd → Prop} (h : P_LR_readTerm w a0) (k : Q (some (zI (F_LR_readTerm w a0).1)) (F_LR_readTerm w a0).2) : z_Wc (d + 64) m_X5_readTerm [zR 37, zI a0] w Q := (st_LR d 60).2.1 h k
def F_LR_readAtom (w : z_Wd) (a0 : Int) : Int × z_Wd := F_LR 60 2 w a0 0
def P_LR_readAtom (w : z_Wd) (a0 : Int) : Prop := P_LR 60 2 w a0 0
theorem c_LR_readAtom {d : Nat} {w : z_Wd} {a0 : Int} {Q : Option z_V → z_Wd → Prop} (h : P_LR_readAtom w a0) (k : Q (some (zI (F_LR_readAtom w a0).1)) (F_LR_readAtom w a0).2) : z_Wc (d + 64) m_X5_readAtom [zR 37, zI a0] w Q := (st_LR d 60).2.2.1 h k
def F_LR_readCondition (w : z_Wd) (a0 : Int) (a1 : Int) : Int × z_Wd := F_LR 60 3 w a0 a1
def P_LR_readCondition (w : z_Wd) (a0 : Int) (a1 : Int) : Prop := P_LR 60 3 w a0 a1
theorem c_LR_readCondition {d : Nat} {w : z_Wd} {a0 a1 : Int} {Q : Option z_V → z_Wd → Prop} (h : P_LR_readCondition w a0 a1) (k : Q (some (zI (F_LR_readCondition w a0 a1).1)) (F_LR_readCondition w a0 a1).2) : z_Wc (d + 64) m_X5_readCondition [zR 37, zI a0, zI a1] w Q := (st_LR d 60).2.2.2.1 h k
def F_LR_readTruth (w : z_Wd) (a0 : Int) (a1 : Int) : Int × z_Wd := F_LR 60 4 w a0 a1
def P_LR_readTruth (w : z_Wd) (a0 : Int) (a1 : Int) : Prop := P_LR 60 4 w a0 a1
theorem c_LR_readTruth {d : Nat} {w : z_Wd} {a0 a1 : Int} {Q : Option z_V → z_Wd → Prop} (h : P_LR_readTruth w a0 a1) (k : Q (some (zI (F_LR_readTruth w a0 a1).1)) (F_LR_readTruth w a0 a1).2) : z_Wc (d + 64) m_X5_readTruth [zR 37, zI a0, zI a1] w Q := (st_LR d 60).2.2.2.2.1 h k
def F_LR_readUnit (w : z_Wd) (a0 : Int) (a1 : Int) : Int × z_Wd := F_LR 60 5 w a0 a1
def P_LR_readUnit (w : z_Wd) (a0 : Int) (a1 : Int) : Prop := P_LR 60 5 w a0 a1
theorem c_LR_readUnit {d : Nat} {w : z_Wd} {a0 a1 : Int} {Q : Option z_V → z_Wd → Prop} (h : P_LR_readUnit w a0 a1) (k : Q (some (zI (F_LR_readUnit w a0 a1).1)) (F_LR_readUnit w a0 a1).2) : z_Wc (d + 64) m_X5_readUnit [zR 37, zI a0, zI a1] w Q := (st_LR d 60).2.2.2.2.2.1 h k
def F_LR_readNestedUnit (w : z_Wd) (a0 : Int) (a1 : Int) : Int × z_Wd := F_LR 60 6 w a0 a1
def P_LR_readNestedUnit (w : z_Wd) (a0 : Int) (a1 : Int) : Prop := P_LR 60 6 w a0 a1
theorem c_LR_readNestedUnit {d : Nat} {w : z_Wd} {a0 a1 : Int} {Q : Option z_V → z_Wd → Prop} (h : P_LR_readNestedUnit w a0 a1) (k : Q (some (zI (F_LR_readNestedUnit w a0 a1).1)) (F_LR_readNestedUnit w a0 a1).2) : z_Wc (d + 64) m_X5_readNestedUnit [zR 37, zI a0, zI a1] w Q := (st_LR d 60).2.2.2.2.2.2 h k
