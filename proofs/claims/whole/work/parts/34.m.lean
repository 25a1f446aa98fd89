def L_M_term_21 (w : z_Wd)  (fr : Nat → z_Wd → z_Wd) : Nat → Int → z_Wd → z_Wd
  | 0, _, _ => w
  | m9 + 1, u1, wu => if u1 = 42 then if u1 = 42 then if (F_M_put (fr 0 (z_up wu 0 3 ((wu 0 3) + 1))) 4 0) 0 4 = (-1) then L_M_term_21 w fr m9 ((F_M_look (F_M_put (fr 0 (z_up wu 0 3 ((wu 0 3) + 1))) 4 0)).1) ((F_M_look (F_M_put (fr 0 (z_up wu 0 3 ((wu 0 3) + 1))) 4 0)).2) else L_M_term_21 w fr m9 (-1) (F_M_put (fr 0 (z_up wu 0 3 ((wu 0 3) + 1))) 4 0) else if (F_M_put (fr 0 (z_up wu 0 3 ((wu 0 3) + 1))) 5 0) 0 4 = (-1) then L_M_term_21 w fr m9 ((F_M_look (F_M_put (fr 0 (z_up wu 0 3 ((wu 0 3) + 1))) 5 0)).1) ((F_M_look (F_M_put (fr 0 (z_up wu 0 3 ((wu 0 3) + 1))) 5 0)).2) else L_M_term_21 w fr m9 (-1) (F_M_put (fr 0 (z_up wu 0 3 ((wu 0 3) + 1))) 5 0) else if u1 = 47 then if u1 = 42 then if (F_M_put (fr 0 (z_up wu 0 3 ((wu 0 3) + 1))) 4 0) 0 4 = (-1) then L_M_term_21 w fr m9 ((F_M_look (F_M_put (fr 0 (z_up wu 0 3 ((wu 0 3) + 1))) 4 0)).1) ((F_M_look (F_M_put (fr 0 (z_up wu 0 3 ((wu 0 3) + 1))) 4 0)).2) else L_M_term_21 w fr m9 (-1) (F_M_put (fr 0 (z_up wu 0 3 ((wu 0 3) + 1))) 4 0) else if (F_M_put (fr 0 (z_up wu 0 3 ((wu 0 3) + 1))) 5 0) 0 4 = (-1) then L_M_term_21 w fr m9 ((F_M_look (F_M_put (fr 0 (z_up wu 0 3 ((wu 0 3) + 1))) 5 0)).1) ((F_M_look (F_M_put (fr 0 (z_up wu 0 3 ((wu 0 3) + 1))) 5 0)).2) else L_M_term_21 w fr m9 (-1) (F_M_put (fr 0 (z_up wu 0 3 ((wu 0 3) + 1))) 5 0) else wu
def PL_M_term_21 (w : z_Wd)  (fr : Nat → z_Wd → z_Wd) (pr9 : Nat → z_Wd → Prop) : Nat → Int → z_Wd → Prop
  | 0, _, _ => False
  | m9 + 1, u1, wu => (-2147483648 ≤ u1 ∧ u1 < 2147483648) ∧ ((u1 = 42 → (pr9 0 (z_up wu 0 3 ((wu 0 3) + 1))) ∧ ((u1 = 42 → (P_M_put (fr 0 (z_up wu 0 3 ((wu 0 3) + 1))) 4 0) ∧ (-2147483648 ≤ (F_M_put (fr 0 (z_up wu 0 3 ((wu 0 3) + 1))) 4 0) 0 4 ∧ (F_M_put (fr 0 (z_up wu 0 3 ((wu 0 3) + 1))) 4 0) 0 4 < 2147483648) ∧ (((F_M_put (fr 0 (z_up wu 0 3 ((wu 0 3) + 1))) 4 0) 0 4 = (-1) → (P_M_look (F_M_put (fr 0 (z_up wu 0 3 ((wu 0 3) + 1))) 4 0)) ∧ (PL_M_term_21 w fr pr9 m9 ((F_M_look (F_M_put (fr 0 (z_up wu 0 3 ((wu 0 3) + 1))) 4 0)).1) ((F_M_look (F_M_put (fr 0 (z_up wu 0 3 ((wu 0 3) + 1))) 4 0)).2))) ∧ (¬ ((F_M_put (fr 0 (z_up wu 0 3 ((wu 0 3) + 1))) 4 0) 0 4 = (-1)) → PL_M_term_21 w fr pr9 m9 (-1) (F_M_put (fr 0 (z_up wu 0 3 ((wu 0 3) + 1))) 4 0)))) ∧ (¬ (u1 = 42) → (P_M_put (fr 0 (z_up wu 0 3 ((wu 0 3) + 1))) 5 0) ∧ (-2147483648 ≤ (F_M_put (fr 0 (z_up wu 0 3 ((wu 0 3) + 1))) 5 0) 0 4 ∧ (F_M_put (fr 0 (z_up wu 0 3 ((wu 0 3) + 1))) 5 0) 0 4 < 2147483648) ∧ (((F_M_put (fr 0 (z_up wu 0 3 ((wu 0 3) + 1))) 5 0) 0 4 = (-1) → (P_M_look (F_M_put (fr 0 (z_up wu 0 3 ((wu 0 3) + 1))) 5 0)) ∧ (PL_M_term_21 w fr pr9 m9 ((F_M_look (F_M_put (fr 0 (z_up wu 0 3 ((wu 0 3) + 1))) 5 0)).1) ((F_M_look (F_M_put (fr 0 (z_up wu 0 3 ((wu 0 3) + 1))) 5 0)).2))) ∧ (¬ ((F_M_put (fr 0 (z_up wu 0 3 ((wu 0 3) + 1))) 5 0) 0 4 = (-1)) → PL_M_term_21 w fr pr9 m9 (-1) (F_M_put (fr 0 (z_up wu 0 3 ((wu 0 3) + 1))) 5 0)))))) ∧ (¬ (u1 = 42) → (u1 = 47 → (pr9 0 (z_up wu 0 3 ((wu 0 3) + 1))) ∧ ((u1 = 42 → (P_M_put (fr 0 (z_up wu 0 3 ((wu 0 3) + 1))) 4 0) ∧ (-2147483648 ≤ (F_M_put (fr 0 (z_up wu 0 3 ((wu 0 3) + 1))) 4 0) 0 4 ∧ (F_M_put (fr 0 (z_up wu 0 3 ((wu 0 3) + 1))) 4 0) 0 4 < 2147483648) ∧ (((F_M_put (fr 0 (z_up wu 0 3 ((wu 0 3) + 1))) 4 0) 0 4 = (-1) → (P_M_look (F_M_put (fr 0 (z_up wu 0 3 ((wu 0 3) + 1))) 4 0)) ∧ (PL_M_term_21 w fr pr9 m9 ((F_M_look (F_M_put (fr 0 (z_up wu 0 3 ((wu 0 3) + 1))) 4 0)).1) ((F_M_look (F_M_put (fr 0 (z_up wu 0 3 ((wu 0 3) + 1))) 4 0)).2))) ∧ (¬ ((F_M_put (fr 0 (z_up wu 0 3 ((wu 0 3) + 1))) 4 0) 0 4 = (-1)) → PL_M_term_21 w fr pr9 m9 (-1) (F_M_put (fr 0 (z_up wu 0 3 ((wu 0 3) + 1))) 4 0)))) ∧ (¬ (u1 = 42) → (P_M_put (fr 0 (z_up wu 0 3 ((wu 0 3) + 1))) 5 0) ∧ (-2147483648 ≤ (F_M_put (fr 0 (z_up wu 0 3 ((wu 0 3) + 1))) 5 0) 0 4 ∧ (F_M_put (fr 0 (z_up wu 0 3 ((wu 0 3) + 1))) 5 0) 0 4 < 2147483648) ∧ (((F_M_put (fr 0 (z_up wu 0 3 ((wu 0 3) + 1))) 5 0) 0 4 = (-1) → (P_M_look (F_M_put (fr 0 (z_up wu 0 3 ((wu 0 3) + 1))) 5 0)) ∧ (PL_M_term_21 w fr pr9 m9 ((F_M_look (F_M_put (fr 0 (z_up wu 0 3 ((wu 0 3) + 1))) 5 0)).1) ((F_M_look (F_M_put (fr 0 (z_up wu 0 3 ((wu 0 3) + 1))) 5 0)).2))) ∧ (¬ ((F_M_put (fr 0 (z_up wu 0 3 ((wu 0 3) + 1))) 5 0) 0 4 = (-1)) → PL_M_term_21 w fr pr9 m9 (-1) (F_M_put (fr 0 (z_up wu 0 3 ((wu 0 3) + 1))) 5 0)))))) ∧ (¬ (u1 = 47) → True)))
def L_M_term_21x2 (w : z_Wd)  (fr : Nat → z_Wd → z_Wd) : Nat → Int → z_Wd → z_Wd
  | 0, _, _ => w
  | m9 + 1, u1, wu => if u1 = 42 then if u1 = 42 then if (F_M_put (fr 0 (z_up wu 0 3 ((wu 0 3) + 1))) 4 0) 0 4 = (-1) then L_M_term_21x2 w fr m9 ((F_M_look (F_M_put (fr 0 (z_up wu 0 3 ((wu 0 3) + 1))) 4 0)).1) ((F_M_look (F_M_put (fr 0 (z_up wu 0 3 ((wu 0 3) + 1))) 4 0)).2) else L_M_term_21x2 w fr m9 (-1) (F_M_put (fr 0 (z_up wu 0 3 ((wu 0 3) + 1))) 4 0) else if (F_M_put (fr 0 (z_up wu 0 3 ((wu 0 3) + 1))) 5 0) 0 4 = (-1) then L_M_term_21x2 w fr m9 ((F_M_look (F_M_put (fr 0 (z_up wu 0 3 ((wu 0 3) + 1))) 5 0)).1) ((F_M_look (F_M_put (fr 0 (z_up wu 0 3 ((wu 0 3) + 1))) 5 0)).2) else L_M_term_21x2 w fr m9 (-1) (F_M_put (fr 0 (z_up wu 0 3 ((wu 0 3) + 1))) 5 0) else if u1 = 47 then if u1 = 42 then if (F_M_put (fr 0 (z_up wu 0 3 ((wu 0 3) + 1))) 4 0) 0 4 = (-1) then L_M_term_21x2 w fr m9 ((F_M_look (F_M_put (fr 0 (z_up wu 0 3 ((wu 0 3) + 1))) 4 0)).1) ((F_M_look (F_M_put (fr 0 (z_up wu 0 3 ((wu 0 3) + 1))) 4 0)).2) else L_M_term_21x2 w fr m9 (-1) (F_M_put (fr 0 (z_up wu 0 3 ((wu 0 3) + 1))) 4 0) else if (F_M_put (fr 0 (z_up wu 0 3 ((wu 0 3) + 1))) 5 0) 0 4 = (-1) then L_M_term_21x2 w fr m9 ((F_M_look (F_M_put (fr 0 (z_up wu 0 3 ((wu 0 3) + 1))) 5 0)).1) ((F_M_look (F_M_put (fr 0 (z_up wu 0 3 ((wu 0 3) + 1))) 5 0)).2) else L_M_term_21x2 w fr m9 (-1) (F_M_put (fr 0 (z_up wu 0 3 ((wu 0 3) + 1))) 5 0) else wu
def PL_M_term_21x2 (w : z_Wd)  (fr : Nat → z_Wd → z_Wd) (pr9 : Nat → z_Wd → Prop) : Nat → Int → z_Wd → Prop
  | 0, _, _ => False
  | m9 + 1, u1, wu => (-2147483648 ≤ u1 ∧ u1 < 2147483648) ∧ ((u1 = 42 → (pr9 0 (z_up wu 0 3 ((wu 0 3) + 1))) ∧ ((u1 = 42 → (P_M_put (fr 0 (z_up wu 0 3 ((wu 0 3) + 1))) 4 0) ∧ (-2147483648 ≤ (F_M_put (fr 0 (z_up wu 0 3 ((wu 0 3) + 1))) 4 0) 0 4 ∧ (F_M_put (fr 0 (z_up wu 0 3 ((wu 0 3) + 1))) 4 0) 0 4 < 2147483648) ∧ (((F_M_put (fr 0 (z_up wu 0 3 ((wu 0 3) + 1))) 4 0) 0 4 = (-1) → (P_M_look (F_M_put (fr 0 (z_up wu 0 3 ((wu 0 3) + 1))) 4 0)) ∧ (PL_M_term_21x2 w fr pr9 m9 ((F_M_look (F_M_put (fr 0 (z_up wu 0 3 ((wu 0 3) + 1))) 4 0)).1) ((F_M_look (F_M_put (fr 0 (z_up wu 0 3 ((wu 0 3) + 1))) 4 0)).2))) ∧ (¬ ((F_M_put (fr 0 (z_up wu 0 3 ((wu 0 3) + 1))) 4 0) 0 4 = (-1)) → PL_M_term_21x2 w fr pr9 m9 (-1) (F_M_put (fr 0 (z_up wu 0 3 ((wu 0 3) + 1))) 4 0)))) ∧ (¬ (u1 = 42) → (P_M_put (fr 0 (z_up wu 0 3 ((wu 0 3) + 1))) 5 0) ∧ (-2147483648 ≤ (F_M_put (fr 0 (z_up wu 0 3 ((wu 0 3) + 1))) 5 0) 0 4 ∧ (F_M_put (fr 0 (z_up wu 0 3 ((wu 0 3) + 1))) 5 0) 0 4 < 2147483648) ∧ (((F_M_put (fr 0 (z_up wu 0 3 ((wu 0 3) + 1))) 5 0) 0 4 = (-1) → (P_M_look (F_M_put (fr 0 (z_up wu 0 3 ((wu 0 3) + 1))) 5 0)) ∧ (PL_M_term_21x2 w fr pr9 m9 ((F_M_look (F_M_put (fr 0 (z_up wu 0 3 ((wu 0 3) + 1))) 5 0)).1) ((F_M_look (F_M_put (fr 0 (z_up wu 0 3 ((wu 0 3) + 1))) 5 0)).2))) ∧ (¬ ((F_M_put (fr 0 (z_up wu 0 3 ((wu 0 3) + 1))) 5 0) 0 4 = (-1)) → PL_M_term_21x2 w fr pr9 m9 (-1) (F_M_put (fr 0 (z_up wu 0 3 ((wu 0 3) + 1))) 5 0)))))) ∧ (¬ (u1 = 42) → (u1 = 47 → (pr9 0 (z_up wu 0 3 ((wu 0 3) + 1))) ∧ ((u1 = 42 → (P_M_put (fr 0 (z_up wu 0 3 ((wu 0 3) + 1))) 4 0) ∧ (-2147483648 ≤ (F_M_put (fr 0 (z_up wu 0 3 ((wu 0 3) + 1))) 4 0) 0 4 ∧ (F_M_put (fr 0 (z_up wu 0 3 ((wu 0 3) + 1))) 4 0) 0 4 < 2147483648) ∧ (((F_M_put (fr 0 (z_up wu 0 3 ((wu 0 3) + 1))) 4 0) 0 4 = (-1) → (P_M_look (F_M_put (fr 0 (z_up wu 0 3 ((wu 0 3) + 1))) 4 0)) ∧ (PL_M_term_21x2 w fr pr9 m9 ((F_M_look (F_M_put (fr 0 (z_up wu 0 3 ((wu 0 3) + 1))) 4 0)).1) ((F_M_look (F_M_put (fr 0 (z_up wu 0 3 ((wu 0 3) + 1))) 4 0)).2))) ∧ (¬ ((F_M_put (fr 0 (z_up wu 0 3 ((wu 0 3) + 1))) 4 0) 0 4 = (-1)) → PL_M_term_21x2 w fr pr9 m9 (-1) (F_M_put (fr 0 (z_up wu 0 3 ((wu 0 3) + 1))) 4 0)))) ∧ (¬ (u1 = 42) → (P_M_put (fr 0 (z_up wu 0 3 ((wu 0 3) + 1))) 5 0) ∧ (-2147483648 ≤ (F_M_put (fr 0 (z_up wu 0 3 ((wu 0 3) + 1))) 5 0) 0 4 ∧ (F_M_put (fr 0 (z_up wu 0 3 ((wu 0 3) + 1))) 5 0) 0 4 < 2147483648) ∧ (((F_M_put (fr 0 (z_up wu 0 3 ((wu 0 3) + 1))) 5 0) 0 4 = (-1) → (P_M_look (F_M_put (fr 0 (z_up wu 0 3 ((wu 0 3) + 1))) 5 0)) ∧ (PL_M_term_21x2 w fr pr9 m9 ((F_M_look (F_M_put (fr 0 (z_up wu 0 3 ((wu 0 3) + 1))) 5 0)).1) ((F_M_look (F_M_put (fr 0 (z_up wu 0 3 ((wu 0 3) + 1))) 5 0)).2))) ∧ (¬ ((F_M_put (fr 0 (z_up wu 0 3 ((wu 0 3) + 1))) 5 0) 0 4 = (-1)) → PL_M_term_21x2 w fr pr9 m9 (-1) (F_M_put (fr 0 (z_up wu 0 3 ((wu 0 3) + 1))) 5 0)))))) ∧ (¬ (u1 = 47) → True)))
def L_M_sum_21 (w : z_Wd)  (fr : Nat → z_Wd → z_Wd) : Nat → Int → z_Wd → z_Wd
  | 0, _, _ => w
  | m9 + 1, u1, wu => if u1 = 43 then if u1 = 43 then if (F_M_put (fr 1 (z_up wu 0 3 ((wu 0 3) + 1))) 2 0) 0 4 = (-1) then L_M_sum_21 w fr m9 ((F_M_look (F_M_put (fr 1 (z_up wu 0 3 ((wu 0 3) + 1))) 2 0)).1) ((F_M_look (F_M_put (fr 1 (z_up wu 0 3 ((wu 0 3) + 1))) 2 0)).2) else L_M_sum_21 w fr m9 (-1) (F_M_put (fr 1 (z_up wu 0 3 ((wu 0 3) + 1))) 2 0) else if (F_M_put (fr 1 (z_up wu 0 3 ((wu 0 3) + 1))) 3 0) 0 4 = (-1) then L_M_sum_21 w fr m9 ((F_M_look (F_M_put (fr 1 (z_up wu 0 3 ((wu 0 3) + 1))) 3 0)).1) ((F_M_look (F_M_put (fr 1 (z_up wu 0 3 ((wu 0 3) + 1))) 3 0)).2) else L_M_sum_21 w fr m9 (-1) (F_M_put (fr 1 (z_up wu 0 3 ((wu 0 3) + 1))) 3 0) else if u1 = 45 then if u1 = 43 then if (F_M_put (fr 1 (z_up wu 0 3 ((wu 0 3) + 1))) 2 0) 0 4 = (-1) then L_M_sum_21 w fr m9 ((F_M_look (F_M_put (fr 1 (z_up wu 0 3 ((wu 0 3) + 1))) 2 0)).1) ((F_M_look (F_M_put (fr 1 (z_up wu 0 3 ((wu 0 3) + 1))) 2 0)).2) else L_M_sum_21 w fr m9 (-1) (F_M_put (fr 1 (z_up wu 0 3 ((wu 0 3) + 1))) 2 0) else if (F_M_put (fr 1 (z_up wu 0 3 ((wu 0 3) + 1))) 3 0) 0 4 = (-1) then L_M_sum_21 w fr m9 ((F_M_look (F_M_put (fr 1 (z_up wu 0 3 ((wu 0 3) + 1))) 3 0)).1) ((F_M_look (F_M_put (fr 1 (z_up wu 0 3 ((wu 0 3) + 1))) 3 0)).2) else L_M_sum_21 w fr m9 (-1) (F_M_put (fr 1 (z_up wu 0 3 ((wu 0 3) + 1))) 3 0) else wu
def PL_M_sum_21 (w : z_Wd)  (fr : Nat → z_Wd → z_Wd) (pr9 : Nat → z_Wd → Prop) : Nat → Int → z_Wd → Prop
  | 0, _, _ => False
  | m9 + 1, u1, wu => (-2147483648 ≤ u1 ∧ u1 < 2147483648) ∧ ((u1 = 43 → (pr9 1 (z_up wu 0 3 ((wu 0 3) + 1))) ∧ ((u1 = 43 → (P_M_put (fr 1 (z_up wu 0 3 ((wu 0 3) + 1))) 2 0) ∧ (-2147483648 ≤ (F_M_put (fr 1 (z_up wu 0 3 ((wu 0 3) + 1))) 2 0) 0 4 ∧ (F_M_put (fr 1 (z_up wu 0 3 ((wu 0 3) + 1))) 2 0) 0 4 < 2147483648) ∧ (((F_M_put (fr 1 (z_up wu 0 3 ((wu 0 3) + 1))) 2 0) 0 4 = (-1) → (P_M_look (F_M_put (fr 1 (z_up wu 0 3 ((wu 0 3) + 1))) 2 0)) ∧ (PL_M_sum_21 w fr pr9 m9 ((F_M_look (F_M_put (fr 1 (z_up wu 0 3 ((wu 0 3) + 1))) 2 0)).1) ((F_M_look (F_M_put (fr 1 (z_up wu 0 3 ((wu 0 3) + 1))) 2 0)).2))) ∧ (¬ ((F_M_put (fr 1 (z_up wu 0 3 ((wu 0 3) + 1))) 2 0) 0 4 = (-1)) → PL_M_sum_21 w fr pr9 m9 (-1) (F_M_put (fr 1 (z_up wu 0 3 ((wu 0 3) + 1))) 2 0)))) ∧ (¬ (u1 = 43) → (P_M_put (fr 1 (z_up wu 0 3 ((wu 0 3) + 1))) 3 0) ∧ (-2147483648 ≤ (F_M_put (fr 1 (z_up wu 0 3 ((wu 0 3) + 1))) 3 0) 0 4 ∧ (F_M_put (fr 1 (z_up wu 0 3 ((wu 0 3) + 1))) 3 0) 0 4 < 2147483648) ∧ (((F_M_put (fr 1 (z_up wu 0 3 ((wu 0 3) + 1))) 3 0) 0 4 = (-1) → (P_M_look (F_M_put (fr 1 (z_up wu 0 3 ((wu 0 3) + 1))) 3 0)) ∧ (PL_M_sum_21 w fr pr9 m9 ((F_M_look (F_M_put (fr 1 (z_up wu 0 3 ((wu 0 3) + 1))) 3 0)).1) ((F_M_look (F_M_put (fr 1 (z_up wu 0 3 ((wu 0 3) + 1))) 3 0)).2))) ∧ (¬ ((F_M_put (fr 1 (z_up wu 0 3 ((wu 0 3) + 1))) 3 0) 0 4 = (-1)) → PL_M_sum_21 w fr pr9 m9 (-1) (F_M_put (fr 1 (z_up wu 0 3 ((wu 0 3) + 1))) 3 0)))))) ∧ (¬ (u1 = 43) → (u1 = 45 → (pr9 1 (z_up wu 0 3 ((wu 0 3) + 1))) ∧ ((u1 = 43 → (P_M_put (fr 1 (z_up wu 0 3 ((wu 0 3) + 1))) 2 0) ∧ (-2147483648 ≤ (F_M_put (fr 1 (z_up wu 0 3 ((wu 0 3) + 1))) 2 0) 0 4 ∧ (F_M_put (fr 1 (z_up wu 0 3 ((wu 0 3) + 1))) 2 0) 0 4 < 2147483648) ∧ (((F_M_put (fr 1 (z_up wu 0 3 ((wu 0 3) + 1))) 2 0) 0 4 = (-1) → (P_M_look (F_M_put (fr 1 (z_up wu 0 3 ((wu 0 3) + 1))) 2 0)) ∧ (PL_M_sum_21 w fr pr9 m9 ((F_M_look (F_M_put (fr 1 (z_up wu 0 3 ((wu 0 3) + 1))) 2 0)).1) ((F_M_look (F_M_put (fr 1 (z_up wu 0 3 ((wu 0 3) + 1))) 2 0)).2))) ∧ (¬ ((F_M_put (fr 1 (z_up wu 0 3 ((wu 0 3) + 1))) 2 0) 0 4 = (-1)) → PL_M_sum_21 w fr pr9 m9 (-1) (F_M_put (fr 1 (z_up wu 0 3 ((wu 0 3) + 1))) 2 0)))) ∧ (¬ (u1 = 43) → (P_M_put (fr 1 (z_up wu 0 3 ((wu 0 3) + 1))) 3 0) ∧ (-2147483648 ≤ (F_M_put (fr 1 (z_up wu 0 3 ((wu 0 3) + 1))) 3 0) 0 4 ∧ (F_M_put (fr 1 (z_up wu 0 3 ((wu 0 3) + 1))) 3 0) 0 4 < 2147483648) ∧ (((F_M_put (fr 1 (z_up wu 0 3 ((wu 0 3) + 1))) 3 0) 0 4 = (-1) → (P_M_look (F_M_put (fr 1 (z_up wu 0 3 ((wu 0 3) + 1))) 3 0)) ∧ (PL_M_sum_21 w fr pr9 m9 ((F_M_look (F_M_put (fr 1 (z_up wu 0 3 ((wu 0 3) + 1))) 3 0)).1) ((F_M_look (F_M_put (fr 1 (z_up wu 0 3 ((wu 0 3) + 1))) 3 0)).2))) ∧ (¬ ((F_M_put (fr 1 (z_up wu 0 3 ((wu 0 3) + 1))) 3 0) 0 4 = (-1)) → PL_M_sum_21 w fr pr9 m9 (-1) (F_M_put (fr 1 (z_up wu 0 3 ((wu 0 3) + 1))) 3 0)))))) ∧ (¬ (u1 = 45) → True)))
def L_M_sum_21x2 (w : z_Wd)  (fr : Nat → z_Wd → z_Wd) : Nat → Int → z_Wd → z_Wd
  | 0, _, _ => w
  | m9 + 1, u1, wu => if u1 = 43 then if u1 = 43 then if (F_M_put (fr 1 (z_up wu 0 3 ((wu 0 3) + 1))) 2 0) 0 4 = (-1) then L_M_sum_21x2 w fr m9 ((F_M_look (F_M_put (fr 1 (z_up wu 0 3 ((wu 0 3) + 1))) 2 0)).1) ((F_M_look (F_M_put (fr 1 (z_up wu 0 3 ((wu 0 3) + 1))) 2 0)).2) else L_M_sum_21x2 w fr m9 (-1) (F_M_put (fr 1 (z_up wu 0 3 ((wu 0 3) + 1))) 2 0) else if (F_M_put (fr 1 (z_up wu 0 3 ((wu 0 3) + 1))) 3 0) 0 4 = (-1) then L_M_sum_21x2 w fr m9 ((F_M_look (F_M_put (fr 1 (z_up wu 0 3 ((wu 0 3) + 1))) 3 0)).1) ((F_M_look (F_M_put (fr 1 (z_up wu 0 3 ((wu 0 3) + 1))) 3 0)).2) else L_M_sum_21x2 w fr m9 (-1) (F_M_put (fr 1 (z_up wu 0 3 ((wu 0 3) + 1))) 3 0) else if u1 = 45 then if u1 = 43 then if (F_M_put (fr 1 (z_up wu 0 3 ((wu 0 3) + 1))) 2 0) 0 4 = (-1) then L_M_sum_21x2 w fr m9 ((F_M_look (F_M_put (fr 1 (z_up wu 0 3 ((wu 0 3) + 1))) 2 0)).1) ((F_M_look (F_M_put (fr 1 (z_up wu 0 3 ((wu 0 3) + 1))) 2 0)).2) else L_M_sum_21x2 w fr m9 (-1) (F_M_put (fr 1 (z_up wu 0 3 ((wu 0 3) + 1))) 2 0) else if (F_M_put (fr 1 (z_up wu 0 3 ((wu 0 3) + 1))) 3 0) 0 4 = (-1) then L_M_sum_21x2 w fr m9 ((F_M_look (F_M_put (fr 1 (z_up wu 0 3 ((wu 0 3) + 1))) 3 0)).1) ((F_M_look (F_M_put (fr 1 (z_up wu 0 3 ((wu 0 3) + 1))) 3 0)).2) else L_M_sum_21x2 w fr m9 (-1) (F_M_put (fr 1 (z_up wu 0 3 ((wu 0 3) + 1))) 3 0) else wu
def PL_M_sum_21x2 (w : z_Wd)  (fr : Nat → z_Wd → z_Wd) (pr9 : Nat → z_Wd → Prop) : Nat → Int → z_Wd → Prop
  | 0, _, _ => False
  | m9 + 1, u1, wu => (-2147483648 ≤ u1 ∧ u1 < 2147483648) ∧ ((u1 = 43 → (pr9 1 (z_up wu 0 3 ((wu 0 3) + 1))) ∧ ((u1 = 43 → (P_M_put (fr 1 (z_up wu 0 3 ((wu 0 3) + 1))) 2 0) ∧ (-2147483648 ≤ (F_M_put (fr 1 (z_up wu 0 3 ((wu 0 3) + 1))) 2 0) 0 4 ∧ (F_M_put (fr 1 (z_up wu 0 3 ((wu 0 3) + 1))) 2 0) 0 4 < 2147483648) ∧ (((F_M_put (fr 1 (z_up wu 0 3 ((wu 0 3) + 1))) 2 0) 0 4 = (-1) → (P_M_look (F_M_put (fr 1 (z_up wu 0 3 ((wu 0 3) + 1))) 2 0)) ∧ (PL_M_sum_21x2 w fr pr9 m9 ((F_M_look (F_M_put (fr 1 (z_up wu 0 3 ((wu 0 3) + 1))) 2 0)).1) ((F_M_look (F_M_put (fr 1 (z_up wu 0 3 ((wu 0 3) + 1))) 2 0)).2))) ∧ (¬ ((F_M_put (fr 1 (z_up wu 0 3 ((wu 0 3) + 1))) 2 0) 0 4 = (-1)) → PL_M_sum_21x2 w fr pr9 m9 (-1) (F_M_put (fr 1 (z_up wu 0 3 ((wu 0 3) + 1))) 2 0)))) ∧ (¬ (u1 = 43) → (P_M_put (fr 1 (z_up wu 0 3 ((wu 0 3) + 1))) 3 0) ∧ (-2147483648 ≤ (F_M_put (fr 1 (z_up wu 0 3 ((wu 0 3) + 1))) 3 0) 0 4 ∧ (F_M_put (fr 1 (z_up wu 0 3 ((wu 0 3) + 1))) 3 0) 0 4 < 2147483648) ∧ (((F_M_put (fr 1 (z_up wu 0 3 ((wu 0 3) + 1))) 3 0) 0 4 = (-1) → (P_M_look (F_M_put (fr 1 (z_up wu 0 3 ((wu 0 3) + 1))) 3 0)) ∧ (PL_M_sum_21x2 w fr pr9 m9 ((F_M_look (F_M_put (fr 1 (z_up wu 0 3 ((wu 0 3) + 1))) 3 0)).1) ((F_M_look (F_M_put (fr 1 (z_up wu 0 3 ((wu 0 3) + 1))) 3 0)).2))) ∧ (¬ ((F_M_put (fr 1 (z_up wu 0 3 ((wu 0 3) + 1))) 3 0) 0 4 = (-1)) → PL_M_sum_21x2 w fr pr9 m9 (-1) (F_M_put (fr 1 (z_up wu 0 3 ((wu 0 3) + 1))) 3 0)))))) ∧ (¬ (u1 = 43) → (u1 = 45 → (pr9 1 (z_up wu 0 3 ((wu 0 3) + 1))) ∧ ((u1 = 43 → (P_M_put (fr 1 (z_up wu 0 3 ((wu 0 3) + 1))) 2 0) ∧ (-2147483648 ≤ (F_M_put (fr 1 (z_up wu 0 3 ((wu 0 3) + 1))) 2 0) 0 4 ∧ (F_M_put (fr 1 (z_up wu 0 3 ((wu 0 3) + 1))) 2 0) 0 4 < 2147483648) ∧ (((F_M_put (fr 1 (z_up wu 0 3 ((wu 0 3) + 1))) 2 0) 0 4 = (-1) → (P_M_look (F_M_put (fr 1 (z_up wu 0 3 ((wu 0 3) + 1))) 2 0)) ∧ (PL_M_sum_21x2 w fr pr9 m9 ((F_M_look (F_M_put (fr 1 (z_up wu 0 3 ((wu 0 3) + 1))) 2 0)).1) ((F_M_look (F_M_put (fr 1 (z_up wu 0 3 ((wu 0 3) + 1))) 2 0)).2))) ∧ (¬ ((F_M_put (fr 1 (z_up wu 0 3 ((wu 0 3) + 1))) 2 0) 0 4 = (-1)) → PL_M_sum_21x2 w fr pr9 m9 (-1) (F_M_put (fr 1 (z_up wu 0 3 ((wu 0 3) + 1))) 2 0)))) ∧ (¬ (u1 = 43) → (P_M_put (fr 1 (z_up wu 0 3 ((wu 0 3) + 1))) 3 0) ∧ (-2147483648 ≤ (F_M_put (fr 1 (z_up wu 0 3 ((wu 0 3) + 1))) 3 0) 0 4 ∧ (F_M_put (fr 1 (z_up wu 0 3 ((wu 0 3) + 1))) 3 0) 0 4 < 2147483648) ∧ (((F_M_put (fr 1 (z_up wu 0 3 ((wu 0 3) + 1))) 3 0) 0 4 = (-1) → (P_M_look (F_M_put (fr 1 (z_up wu 0 3 ((wu 0 3) + 1))) 3 0)) ∧ (PL_M_sum_21x2 w fr pr9 m9 ((F_M_look (F_M_put (fr 1 (z_up wu 0 3 ((wu 0 3) + 1))) 3 0)).1) ((F_M_look (F_M_put (fr 1 (z_up wu 0 3 ((wu 0 3) + 1))) 3 0)).2))) ∧ (¬ ((F_M_put (fr 1 (z_up wu 0 3 ((wu 0 3) + 1))) 3 0) 0 4 = (-1)) → PL_M_sum_21x2 w fr pr9 m9 (-1) (F_M_put (fr 1 (z_up wu 0 3 ((wu 0 3) + 1))) 3 0)))))) ∧ (¬ (u1 = 45) → True)))
def L_M_goOnAnd_0 (w : z_Wd)  (fr : Nat → z_Wd → z_Wd) : Nat → z_Wd → z_Wd
  | 0, _ => w
  | m9 + 1, wu => if wu 0 4 = (-1) then if (F_M_look wu).1 = 38 then L_M_goOnAnd_0 w fr m9 (F_M_put (fr 4 (z_up ((F_M_look wu).2) 0 3 ((((F_M_look wu).2) 0 3) + 1))) 10 0) else (F_M_look wu).2 else wu
def PL_M_goOnAnd_0 (w : z_Wd)  (fr : Nat → z_Wd → z_Wd) (pr9 : Nat → z_Wd → Prop) : Nat → z_Wd → Prop
  | 0, _ => False
  | m9 + 1, wu => (-2147483648 ≤ wu 0 4 ∧ wu 0 4 < 2147483648) ∧ ((wu 0 4 = (-1) → (P_M_look wu) ∧ (-2147483648 ≤ (F_M_look wu).1 ∧ (F_M_look wu).1 < 2147483648) ∧ (((F_M_look wu).1 = 38 → (pr9 4 (z_up ((F_M_look wu).2) 0 3 ((((F_M_look wu).2) 0 3) + 1))) ∧ (P_M_put (fr 4 (z_up ((F_M_look wu).2) 0 3 ((((F_M_look wu).2) 0 3) + 1))) 10 0) ∧ (PL_M_goOnAnd_0 w fr pr9 m9 (F_M_put (fr 4 (z_up ((F_M_look wu).2) 0 3 ((((F_M_look wu).2) 0 3) + 1))) 10 0))) ∧ (¬ ((F_M_look wu).1 = 38) → True))) ∧ (¬ (wu 0 4 = (-1)) → True))
def L_M_goOnOr_0 (w : z_Wd)  (fr : Nat → z_Wd → z_Wd) : Nat → z_Wd → z_Wd
  | 0, _ => w
  | m9 + 1, wu => if wu 0 4 = (-1) then if (F_M_look wu).1 = 124 then L_M_goOnOr_0 w fr m9 (F_M_put (fr 5 (fr 4 (z_up ((F_M_look wu).2) 0 3 ((((F_M_look wu).2) 0 3) + 1)))) 11 0) else (F_M_look wu).2 else wu
def PL_M_goOnOr_0 (w : z_Wd)  (fr : Nat → z_Wd → z_Wd) (pr9 : Nat → z_Wd → Prop) : Nat → z_Wd → Prop
  | 0, _ => False
  | m9 + 1, wu => (-2147483648 ≤ wu 0 4 ∧ wu 0 4 < 2147483648) ∧ ((wu 0 4 = (-1) → (P_M_look wu) ∧ (-2147483648 ≤ (F_M_look wu).1 ∧ (F_M_look wu).1 < 2147483648) ∧ (((F_M_look wu).1 = 124 → (pr9 4 (z_up ((F_M_look wu).2) 0 3 ((((F_M_look wu).2) 0 3) + 1))) ∧ (pr9 5 (fr 4 (z_up ((F_M_look wu).2) 0 3 ((((F_M_look wu).2) 0 3) + 1)))) ∧ (P_M_put (fr 5 (fr 4 (z_up ((F_M_look wu).2) 0 3 ((((F_M_look wu).2) 0 3) + 1)))) 11 0) ∧ (PL_M_goOnOr_0 w fr pr9 m9 (F_M_put (fr 5 (fr 4 (z_up ((F_M_look wu).2) 0 3 ((((F_M_look wu).2) 0 3) + 1)))) 11 0))) ∧ (¬ ((F_M_look wu).1 = 124) → True))) ∧ (¬ (wu 0 4 = (-1)) → True))
def F_MP : Nat → Nat → z_Wd → z_Wd
  | 0, _, w => w
  | n9 + 1, 0, w => if F_M_isDigit ((F_M_look w).2) ((F_M_look w).1) = 0 then if F_M_letterOf ((F_M_look w).2) ((F_M_look w).1) = (-1) then if (F_M_look w).1 = 91 then if (F_M_opens ((F_M_look w).2)) 0 4 = (-1) then F_M_closes (F_MP n9 2 (F_M_opens ((F_M_look w).2))) 93 else F_M_opens ((F_M_look w).2) else F_M_bad ((F_M_look w).2) else F_M_put (z_up ((F_M_look w).2) 0 3 ((((F_M_look w).2) 0 3) + 1)) 1 (F_M_letterOf (z_up ((F_M_look w).2) 0 3 ((((F_M_look w).2) 0 3) + 1)) ((F_M_look w).1)) else F_M_put ((F_M_plainNumber ((F_M_look w).2)).2) 0 ((F_M_plainNumber ((F_M_look w).2)).1)
  | n9 + 1, 1, w => if (F_MP n9 0 w) 0 4 = (-1) then L_M_term_21x2 w (F_MP n9) 300 ((F_M_look (F_MP n9 0 w)).1) ((F_M_look (F_MP n9 0 w)).2) else L_M_term_21 w (F_MP n9) 300 (-1) (F_MP n9 0 w)
  | n9 + 1, 2, w => if (F_MP n9 1 w) 0 4 = (-1) then L_M_sum_21x2 w (F_MP n9) 300 ((F_M_look (F_MP n9 1 w)).1) ((F_M_look (F_MP n9 1 w)).2) else L_M_sum_21 w (F_MP n9) 300 (-1) (F_MP n9 1 w)
  | n9 + 1, 3, w => if w 0 4 = (-1) then if F_M_isSign ((F_M_look w).2) ((F_M_look w).1) = 0 then F_M_bad ((F_M_look w).2) else if (F_M_look w).1 = 61 then F_M_put (F_MP n9 2 (z_up ((F_M_look w).2) 0 3 ((((F_M_look w).2) 0 3) + 1))) 6 0 else if (F_M_look w).1 = 60 then F_M_put (F_MP n9 2 (z_up ((F_M_look w).2) 0 3 ((((F_M_look w).2) 0 3) + 1))) 7 0 else F_M_put (F_MP n9 2 (z_up ((F_M_look w).2) 0 3 ((((F_M_look w).2) 0 3) + 1))) 8 0 else if F_M_isSign w (-1) = 0 then F_M_bad w else F_M_put (F_MP n9 2 (z_up w 0 3 ((w 0 3) + 1))) 8 0
  | n9 + 1, 4, w => if (F_M_look w).1 = 33 then if (F_M_opens ((F_M_look w).2)) 0 4 = (-1) then z_up (F_M_put (F_MP n9 4 (F_M_opens ((F_M_look w).2))) 9 0) 0 5 (((F_M_put (F_MP n9 4 (F_M_opens ((F_M_look w).2))) 9 0) 0 5) - 1) else F_M_opens ((F_M_look w).2) else if (F_M_look w).1 = 40 then if (F_M_opens ((F_M_look w).2)) 0 4 = (-1) then F_M_closes (F_MP n9 7 (F_M_opens ((F_M_look w).2))) 41 else F_M_opens ((F_M_look w).2) else if (F_MP n9 2 ((F_M_look w).2)) 0 4 = (-1) then F_MP n9 3 (F_MP n9 2 ((F_M_look w).2)) else F_MP n9 2 ((F_M_look w).2)
  | n9 + 1, 5, w => L_M_goOnAnd_0 w (F_MP n9) 300 w
  | n9 + 1, 6, w => L_M_goOnOr_0 w (F_MP n9) 300 w
  | n9 + 1, 7, w => F_MP n9 6 (F_MP n9 5 (F_MP n9 4 w))
  | _ + 1, _, w => w
def P_MP : Nat → Nat → z_Wd → Prop
  | 0, _, _ => False
  | n9 + 1, 0, w => (P_M_look w) ∧ (P_M_isDigit ((F_M_look w).2) ((F_M_look w).1)) ∧ ((F_M_isDigit ((F_M_look w).2) ((F_M_look w).1) = 0 → (P_M_letterOf ((F_M_look w).2) ((F_M_look w).1)) ∧ (-2147483648 ≤ F_M_letterOf ((F_M_look w).2) ((F_M_look w).1) ∧ F_M_letterOf ((F_M_look w).2) ((F_M_look w).1) < 2147483648) ∧ ((F_M_letterOf ((F_M_look w).2) ((F_M_look w).1) = (-1) → (-2147483648 ≤ (F_M_look w).1 ∧ (F_M_look w).1 < 2147483648) ∧ (((F_M_look w).1 = 91 → (P_M_opens ((F_M_look w).2)) ∧ (-2147483648 ≤ (F_M_opens ((F_M_look w).2)) 0 4 ∧ (F_M_opens ((F_M_look w).2)) 0 4 < 2147483648) ∧ (((F_M_opens ((F_M_look w).2)) 0 4 = (-1) → (P_MP n9 2 (F_M_opens ((F_M_look w).2))) ∧ (P_M_closes (F_MP n9 2 (F_M_opens ((F_M_look w).2))) 93)) ∧ (¬ ((F_M_opens ((F_M_look w).2)) 0 4 = (-1)) → True))) ∧ (¬ ((F_M_look w).1 = 91) → P_M_bad ((F_M_look w).2)))) ∧ (¬ (F_M_letterOf ((F_M_look w).2) ((F_M_look w).1) = (-1)) → (P_M_letterOf (z_up ((F_M_look w).2) 0 3 ((((F_M_look w).2) 0 3) + 1)) ((F_M_look w).1)) ∧ (P_M_put (z_up ((F_M_look w).2) 0 3 ((((F_M_look w).2) 0 3) + 1)) 1 (F_M_letterOf (z_up ((F_M_look w).2) 0 3 ((((F_M_look w).2) 0 3) + 1)) ((F_M_look w).1)))))) ∧ (¬ (F_M_isDigit ((F_M_look w).2) ((F_M_look w).1) = 0) → (P_M_plainNumber ((F_M_look w).2)) ∧ (P_M_put ((F_M_plainNumber ((F_M_look w).2)).2) 0 ((F_M_plainNumber ((F_M_look w).2)).1))))
  | n9 + 1, 1, w => (P_MP n9 0 w) ∧ (-2147483648 ≤ (F_MP n9 0 w) 0 4 ∧ (F_MP n9 0 w) 0 4 < 2147483648) ∧ (((F_MP n9 0 w) 0 4 = (-1) → (P_M_look (F_MP n9 0 w)) ∧ (PL_M_term_21x2 w (F_MP n9) (P_MP n9) 300 ((F_M_look (F_MP n9 0 w)).1) ((F_M_look (F_MP n9 0 w)).2))) ∧ (¬ ((F_MP n9 0 w) 0 4 = (-1)) → PL_M_term_21 w (F_MP n9) (P_MP n9) 300 (-1) (F_MP n9 0 w)))
  | n9 + 1, 2, w => (P_MP n9 1 w) ∧ (-2147483648 ≤ (F_MP n9 1 w) 0 4 ∧ (F_MP n9 1 w) 0 4 < 2147483648) ∧ (((F_MP n9 1 w) 0 4 = (-1) → (P_M_look (F_MP n9 1 w)) ∧ (PL_M_sum_21x2 w (F_MP n9) (P_MP n9) 300 ((F_M_look (F_MP n9 1 w)).1) ((F_M_look (F_MP n9 1 w)).2))) ∧ (¬ ((F_MP n9 1 w) 0 4 = (-1)) → PL_M_sum_21 w (F_MP n9) (P_MP n9) 300 (-1) (F_MP n9 1 w)))
  | n9 + 1, 3, w => (-2147483648 ≤ w 0 4 ∧ w 0 4 < 2147483648) ∧ ((w 0 4 = (-1) → (P_M_look w) ∧ (P_M_isSign ((F_M_look w).2) ((F_M_look w).1)) ∧ ((F_M_isSign ((F_M_look w).2) ((F_M_look w).1) = 0 → P_M_bad ((F_M_look w).2)) ∧ (¬ (F_M_isSign ((F_M_look w).2) ((F_M_look w).1) = 0) → (P_MP n9 2 (z_up ((F_M_look w).2) 0 3 ((((F_M_look w).2) 0 3) + 1))) ∧ (-2147483648 ≤ (F_M_look w).1 ∧ (F_M_look w).1 < 2147483648) ∧ (((F_M_look w).1 = 61 → P_M_put (F_MP n9 2 (z_up ((F_M_look w).2) 0 3 ((((F_M_look w).2) 0 3) + 1))) 6 0) ∧ (¬ ((F_M_look w).1 = 61) → ((F_M_look w).1 = 60 → P_M_put (F_MP n9 2 (z_up ((F_M_look w).2) 0 3 ((((F_M_look w).2) 0 3) + 1))) 7 0) ∧ (¬ ((F_M_look w).1 = 60) → P_M_put (F_MP n9 2 (z_up ((F_M_look w).2) 0 3 ((((F_M_look w).2) 0 3) + 1))) 8 0)))))) ∧ (¬ (w 0 4 = (-1)) → (P_M_isSign w (-1)) ∧ ((F_M_isSign w (-1) = 0 → P_M_bad w) ∧ (¬ (F_M_isSign w (-1) = 0) → (P_MP n9 2 (z_up w 0 3 ((w 0 3) + 1))) ∧ (P_M_put (F_MP n9 2 (z_up w 0 3 ((w 0 3) + 1))) 8 0)))))
  | n9 + 1, 4, w => (P_M_look w) ∧ (-2147483648 ≤ (F_M_look w).1 ∧ (F_M_look w).1 < 2147483648) ∧ (((F_M_look w).1 = 33 → (P_M_opens ((F_M_look w).2)) ∧ (-2147483648 ≤ (F_M_opens ((F_M_look w).2)) 0 4 ∧ (F_M_opens ((F_M_look w).2)) 0 4 < 2147483648) ∧ (((F_M_opens ((F_M_look w).2)) 0 4 = (-1) → (P_MP n9 4 (F_M_opens ((F_M_look w).2))) ∧ (P_M_put (F_MP n9 4 (F_M_opens ((F_M_look w).2))) 9 0)) ∧ (¬ ((F_M_opens ((F_M_look w).2)) 0 4 = (-1)) → True))) ∧ (¬ ((F_M_look w).1 = 33) → ((F_M_look w).1 = 40 → (P_M_opens ((F_M_look w).2)) ∧ (-2147483648 ≤ (F_M_opens ((F_M_look w).2)) 0 4 ∧ (F_M_opens ((F_M_look w).2)) 0 4 < 2147483648) ∧ (((F_M_opens ((F_M_look w).2)) 0 4 = (-1) → (P_MP n9 7 (F_M_opens ((F_M_look w).2))) ∧ (P_M_closes (F_MP n9 7 (F_M_opens ((F_M_look w).2))) 41)) ∧ (¬ ((F_M_opens ((F_M_look w).2)) 0 4 = (-1)) → True))) ∧ (¬ ((F_M_look w).1 = 40) → (P_MP n9 2 ((F_M_look w).2)) ∧ (-2147483648 ≤ (F_MP n9 2 ((F_M_look w).2)) 0 4 ∧ (F_MP n9 2 ((F_M_look w).2)) 0 4 < 2147483648) ∧ (((F_MP n9 2 ((F_M_look w).2)) 0 4 = (-1) → P_MP n9 3 (F_MP n9 2 ((F_M_look w).2))) ∧ (¬ ((F_MP n9 2 ((F_M_look w).2)) 0 4 = (-1)) → True)))))
  | n9 + 1, 5, w => PL_M_goOnAnd_0 w (F_MP n9) (P_MP n9) 300 w
  | n9 + 1, 6, w => PL_M_goOnOr_0 w (F_MP n9) (P_MP n9) 300 w
  | n9 + 1, 7, w => (P_MP n9 4 w) ∧ (P_MP n9 5 (F_MP n9 4 w)) ∧ (P_MP n9 6 (F_MP n9 5 (F_MP n9 4 w)))
  | _ + 1, _, _ => False
def S_M_atom (d n9 : Nat) : Prop := ∀ {w : z_Wd} {Q : Option z_V → z_Wd → Prop}, P_MP n9 0 w  → Q none (F_MP n9 0 w ) → z_Wc (d + n9 + 3) m_X12_atom [zR 0] w Q
def S_M_term (d n9 : Nat) : Prop := ∀ {w : z_Wd} {Q : Option z_V → z_Wd → Prop}, P_MP n9 1 w  → Q none (F_MP n9 1 w ) → z_Wc (d + n9 + 3) m_X12_term [zR 0] w Q
def S_M_sum (d n9 : Nat) : Prop := ∀ {w : z_Wd} {Q : Option z_V → z_Wd → Prop}, P_MP n9 2 w  → Q none (F_MP n9 2 w ) → z_Wc (d + n9 + 3) m_X12_sum [zR 0] w Q
def S_M_compare (d n9 : Nat) : Prop := ∀ {w : z_Wd} {Q : Option z_V → z_Wd → Prop}, P_MP n9 3 w  → Q none (F_MP n9 3 w ) → z_Wc (d + n9 + 3) m_X12_compare [zR 0] w Q
def S_M_unit (d n9 : Nat) : Prop := ∀ {w : z_Wd} {Q : Option z_V → z_Wd → Prop}, P_MP n9 4 w  → Q none (F_MP n9 4 w ) → z_Wc (d + n9 + 3) m_X12_unit [zR 0] w Q
def S_M_goOnAnd (d n9 : Nat) : Prop := ∀ {w : z_Wd} {Q : Option z_V → z_Wd → Prop}, P_MP n9 5 w  → Q none (F_MP n9 5 w ) → z_Wc (d + n9 + 3) m_X12_goOnAnd [zR 0] w Q
def S_M_goOnOr (d n9 : Nat) : Prop := ∀ {w : z_Wd} {Q : Option z_V → z_Wd → Prop}, P_MP n9 6 w  → Q none (F_MP n9 6 w ) → z_Wc (d + n9 + 3) m_X12_goOnOr [zR 0] w Q
def S_M_condition (d n9 : Nat) : Prop := ∀ {w : z_Wd} {Q : Option z_V → z_Wd → Prop}, P_MP n9 7 w  → Q none (F_MP n9 7 w ) → z_Wc (d + n9 + 3) m_X12_condition [zR 0] w Q
def S_MP (d n9 : Nat) : Prop := S_M_atom d n9 ∧ S_M_term d n9 ∧ S_M_sum d n9 ∧ S_M_compare d n9 ∧ S_M_unit d n9 ∧ S_M_goOnAnd d n9 ∧ S_M_goOnOr d n9 ∧ S_M_condition d n9
set_option maxHeartbeats 2000000 in
set_option maxRecDepth 4000 in
theorem st_M_atom {d n9 : Nat} (ihr : S_MP d n9) : S_M_atom d (n9 + 1) := by
  intro w  Q h k
  have eh : P_MP (n9 + 1) 0 w  = ((P_M_look w) ∧ (P_M_isDigit ((F_M_look w).2) ((F_M_look w).1)) ∧ ((F_M_isDigit ((F_M_look w).2) ((F_M_look w).1) = 0 → (P_M_letterOf ((F_M_look w).2) ((F_M_look w).1)) ∧ (-2147483648 ≤ F_M_letterOf ((F_M_look w).2) ((F_M_look w).1) ∧ F_M_letterOf ((F_M_look w).2) ((F_M_look w).1) < 2147483648) ∧ ((F_M_letterOf ((F_M_look w).2) ((F_M_look w).1) = (-1) → (-2147483648 ≤ (F_M_look w).1 ∧ (F_M_look w).1 < 2147483648) ∧ (((F_M_look w).1 = 91 → (P_M_opens ((F_M_look w).2)) ∧ (-2147483648 ≤ (F_M_opens ((F_M_look w).2)) 0 4 ∧ (F_M_opens ((F_M_look w).2)) 0 4 < 2147483648) ∧ (((F_M_opens ((F_M_look w).2)) 0 4 = (-1) → (P_MP n9 2 (F_M_opens ((F_M_look w).2))) ∧ (P_M_closes (F_MP n9 2 (F_M_opens ((F_M_look w).2))) 93)) ∧ (¬ ((F_M_opens ((F_M_look w).2)) 0 4 = (-1)) → True))) ∧ (¬ ((F_M_look w).1 = 91) → P_M_bad ((F_M_look w).2)))) ∧ (¬ (F_M_letterOf ((F_M_look w).2) ((F_M_look w).1) = (-1)) → (P_M_letterOf (z_up ((F_M_look w).2) 0 3 ((((F_M_look w).2) 0 3) + 1)) ((F_M_look w).1)) ∧ (P_M_put (z_up ((F_M_look w).2) 0 3 ((((F_M_look w).2) 0 3) + 1)) 1 (F_M_letterOf (z_up ((F_M_look w).2) 0 3 ((((F_M_look w).2) 0 3) + 1)) ((F_M_look w).1)))))) ∧ (¬ (F_M_isDigit ((F_M_look w).2) ((F_M_look w).1) = 0) → (P_M_plainNumber ((F_M_look w).2)) ∧ (P_M_put ((F_M_plainNumber ((F_M_look w).2)).2) 0 ((F_M_plainNumber ((F_M_look w).2)).1))))) := by rw [P_MP]
  have ek : F_MP (n9 + 1) 0 w  = (if F_M_isDigit ((F_M_look w).2) ((F_M_look w).1) = 0 then if F_M_letterOf ((F_M_look w).2) ((F_M_look w).1) = (-1) then if (F_M_look w).1 = 91 then if (F_M_opens ((F_M_look w).2)) 0 4 = (-1) then F_M_closes (F_MP n9 2 (F_M_opens ((F_M_look w).2))) 93 else F_M_opens ((F_M_look w).2) else F_M_bad ((F_M_look w).2) else F_M_put (z_up ((F_M_look w).2) 0 3 ((((F_M_look w).2) 0 3) + 1)) 1 (F_M_letterOf (z_up ((F_M_look w).2) 0 3 ((((F_M_look w).2) 0 3) + 1)) ((F_M_look w).1)) else F_M_put ((F_M_plainNumber ((F_M_look w).2)).2) 0 ((F_M_plainNumber ((F_M_look w).2)).1)) := by rw [F_MP]
  rw [eh] at h
  rw [ek] at k
  clear eh ek
  refine z_enter rfl (Nat.le_of_ble_eq_true rfl) ?_
  show z_Wp m_X12_atom _ 0 [(0, zR 0)] [] w _
  refine z_aload_n (pc' := 1) 0 rfl rfl dX12_atom_0 rfl ?_
  refine z_invV (as := []) (st := []) (C := m_X12_look) (fs := [0, 3, 0, 0, 0, 0, 4, 5, 6, 7, 8, 9, 10, 0, 0, 11, 12, 13, 14, 15, 16, 0, 0, 0, 17, 18, 19, 20, 0, 0, 0, 21, 22, 0, 0, 23, 0, 1, 24, 0, 0, 25, 26, 0, 27, 0]) (pc' := 4) dX12_atom_1 rfl t_6_218 k_X12_look rfl (by decide) rfl rfl rfl rfl (Nat.le_of_ble_eq_true rfl) ?_
  obtain ⟨r1, h⟩ := h
  refine c_M_look r1 ?_
  show z_Wp m_X12_atom _ 4 [(0, zR 0)] [zI ((F_M_look w).1)] ((F_M_look w).2) _
  refine z_istore_n (pc' := 5) (ls' := [(0, zR 0), (1, zI ((F_M_look w).1))]) rfl (by decide) rfl rfl dX12_atom_4 rfl ?_
  refine z_iload_n (pc' := 6) 1 rfl rfl dX12_atom_5 rfl ?_
  refine z_invS (as := [zI ((F_M_look w).1)]) (st := []) (C := m_X12_isDigit) (pc' := 9) dX12_atom_6 rfl t_7_10 k_X12_isDigit rfl rfl (Nat.le_of_ble_eq_true rfl) ?_
  obtain ⟨r2, h⟩ := h
  refine c_M_isDigit r2 ?_
  show z_Wp m_X12_atom _ 9 [(0, zR 0), (1, zI ((F_M_look w).1))] [zI (F_M_isDigit ((F_M_look w).2) ((F_M_look w).1))] ((F_M_look w).2) _
  refine z_if_eq 24 dX12_atom_9 (by decide) (pc' := 12) rfl (z_rb b_M_isDigit) (fun c => ?_) (fun c => ?_)
  · have h := h.1 c
    rw [if_pos c] at k
    refine z_iload_n (pc' := 25) 1 rfl rfl dX12_atom_24 rfl ?_
    refine z_invS (as := [zI ((F_M_look w).1)]) (st := []) (C := m_X12_letterOf) (pc' := 28) dX12_atom_25 rfl t_7_72 k_X12_letterOf rfl rfl (Nat.le_of_ble_eq_true rfl) ?_
    obtain ⟨r3, h⟩ := h
    refine c_M_letterOf r3 ?_
    show z_Wp m_X12_atom _ 28 [(0, zR 0), (1, zI ((F_M_look w).1))] [zI (F_M_letterOf ((F_M_look w).2) ((F_M_look w).1))] ((F_M_look w).2) _
    refine z_iconst (pc' := 29) dX12_atom_28 rfl ?_
    obtain ⟨r4, h⟩ := h
    refine z_icmp_eq 54 dX12_atom_29 (by decide) (pc' := 32) rfl r4 (by decide) (fun c => ?_) (fun c => ?_)
    · have h := h.1 c
      rw [if_pos c] at k
      refine z_iload_n (pc' := 55) 1 rfl rfl dX12_atom_54 rfl ?_
      refine z_bipush (pc' := 57) (by decide) dX12_atom_55 rfl ?_
      obtain ⟨r5, h⟩ := h
      refine z_icmp_ne 85 dX12_atom_57 (by decide) (pc' := 60) rfl r5 (by decide) (fun c => ?_) (fun c => ?_)
      · have h := h.2 c
        rw [if_neg c] at k
        refine z_aload_n (pc' := 86) 0 rfl rfl dX12_atom_85 rfl ?_
        refine z_invV (as := []) (st := []) (C := m_X12_bad) (fs := [0, 3, 0, 0, 0, 0, 4, 5, 6, 7, 8, 9, 10, 0, 0, 11, 12, 13, 14, 15, 16, 0, 0, 0, 17, 18, 19, 20, 0, 0, 0, 21, 22, 0, 0, 23, 0, 1, 24, 0, 0, 25, 26, 0, 27, 0]) (pc' := 89) dX12_atom_86 rfl t_7_13 k_X12_bad rfl (by decide) rfl rfl rfl rfl (Nat.le_of_ble_eq_true rfl) ?_
        have r6 := h
        refine c_M_bad r6 ?_
        show z_Wp m_X12_atom _ 89 [(0, zR 0), (1, zI ((F_M_look w).1))] [] (F_M_bad ((F_M_look w).2)) _
        refine z_vret rfl dX12_atom_89 ?_
        try dsimp only at k
        exact k
      · have h := h.1 c
        rw [if_pos c] at k
        refine z_aload_n (pc' := 61) 0 rfl rfl dX12_atom_60 rfl ?_
        refine z_invV (as := []) (st := []) (C := m_X12_opens) (fs := [0, 3, 0, 0, 0, 0, 4, 5, 6, 7, 8, 9, 10, 0, 0, 11, 12, 13, 14, 15, 16, 0, 0, 0, 17, 18, 19, 20, 0, 0, 0, 21, 22, 0, 0, 23, 0, 1, 24, 0, 0, 25, 26, 0, 27, 0]) (pc' := 64) dX12_atom_61 rfl t_7_44 k_X12_opens rfl (by decide) rfl rfl rfl rfl (Nat.le_of_ble_eq_true rfl) ?_
        obtain ⟨r7, h⟩ := h
        refine c_M_opens r7 ?_
        show z_Wp m_X12_atom _ 64 [(0, zR 0), (1, zI ((F_M_look w).1))] [] (F_M_opens ((F_M_look w).2)) _
        refine z_aload_n (pc' := 65) 0 rfl rfl dX12_atom_64 rfl ?_
        refine z_getI2 (v := (F_M_opens ((F_M_look w).2)) 0 4) (pc' := 68) g_X12_109 (by decide) rfl rfl rfl dX12_atom_65 rfl ?_
        refine z_iconst (pc' := 69) dX12_atom_68 rfl ?_
        obtain ⟨r8, h⟩ := h
        refine z_icmp_ne 89 dX12_atom_69 (by decide) (pc' := 72) rfl r8 (by decide) (fun c => ?_) (fun c => ?_)
        · have h := h.2 c
          rw [if_neg c] at k
          refine z_vret rfl dX12_atom_89 ?_
          try dsimp only at k
          exact k
        · have h := h.1 c
          rw [if_pos c] at k
          refine z_aload_n (pc' := 73) 0 rfl rfl dX12_atom_72 rfl ?_
          refine z_invV (as := []) (st := []) (C := m_X12_sum) (fs := [0, 3, 0, 0, 0, 0, 4, 5, 6, 7, 8, 9, 10, 0, 0, 11, 12, 13, 14, 15, 16, 0, 0, 0, 17, 18, 19, 20, 0, 0, 0, 21, 22, 0, 0, 23, 0, 1, 24, 0, 0, 25, 26, 0, 27, 0]) (pc' := 76) dX12_atom_73 rfl t_7_56 k_X12_sum rfl (by decide) rfl rfl rfl rfl (Nat.le_of_ble_eq_true rfl) ?_
          obtain ⟨r9, h⟩ := h
          refine z_dcast (d' := d + n9 + 3) (by omega) (ihr.2.2.1 r9 ?_)
          show z_Wp m_X12_atom _ 76 [(0, zR 0), (1, zI ((F_M_look w).1))] [] (F_MP n9 2 (F_M_opens ((F_M_look w).2))) _
          refine z_aload_n (pc' := 77) 0 rfl rfl dX12_atom_76 rfl ?_
          refine z_bipush (pc' := 79) (by decide) dX12_atom_77 rfl ?_
          refine z_invV (as := [zI 93]) (st := []) (C := m_X12_closes) (fs := [0, 3, 0, 0, 0, 0, 4, 5, 6, 7, 8, 9, 10, 0, 0, 11, 12, 13, 14, 15, 16, 0, 0, 0, 17, 18, 19, 20, 0, 0, 0, 21, 22, 0, 0, 23, 0, 1, 24, 0, 0, 25, 26, 0, 27, 0]) (pc' := 82) dX12_atom_79 rfl t_7_52 k_X12_closes rfl (by decide) rfl rfl rfl rfl (Nat.le_of_ble_eq_true rfl) ?_
          have r10 := h
          refine c_M_closes r10 ?_
          show z_Wp m_X12_atom _ 82 [(0, zR 0), (1, zI ((F_M_look w).1))] [] (F_M_closes (F_MP n9 2 (F_M_opens ((F_M_look w).2))) 93) _
          refine z_goto 89 dX12_atom_82 (by decide) ?_
          refine z_vret rfl dX12_atom_89 ?_
          try dsimp only at k
          exact k
    · have h := h.2 c
      rw [if_neg c] at k
      refine z_aload_n (pc' := 33) 0 rfl rfl dX12_atom_32 rfl ?_
      refine z_dup (pc' := 34) rfl dX12_atom_33 rfl ?_
      refine z_getI2 (v := ((F_M_look w).2) 0 3) (pc' := 37) g_X12_102 (by decide) rfl rfl rfl dX12_atom_34 rfl ?_
      refine z_iconst (pc' := 38) dX12_atom_37 rfl ?_
      refine z_iadd (pc' := 39) dX12_atom_38 rfl ?_
      refine z_putI (pc' := 42) p_X12_102 (by decide) rfl rfl rfl rfl dX12_atom_39 rfl ?_
      refine z_aload_n (pc' := 43) 0 rfl rfl dX12_atom_42 rfl ?_
      refine z_iconst (pc' := 44) dX12_atom_43 rfl ?_
      refine z_iload_n (pc' := 45) 1 rfl rfl dX12_atom_44 rfl ?_
      refine z_invS (as := [zI ((F_M_look w).1)]) (st := [zI 1, zR 0]) (C := m_X12_letterOf) (pc' := 48) dX12_atom_45 rfl t_7_72 k_X12_letterOf rfl rfl (Nat.le_of_ble_eq_true rfl) ?_
      obtain ⟨r11, h⟩ := h
      refine c_M_letterOf r11 ?_
      show z_Wp m_X12_atom _ 48 [(0, zR 0), (1, zI ((F_M_look w).1))] [zI (F_M_letterOf (z_up ((F_M_look w).2) 0 3 ((((F_M_look w).2) 0 3) + 1)) ((F_M_look w).1)), zI 1, zR 0] (z_up ((F_M_look w).2) 0 3 ((((F_M_look w).2) 0 3) + 1)) _
      refine z_invV (as := [zI 1, zI (F_M_letterOf (z_up ((F_M_look w).2) 0 3 ((((F_M_look w).2) 0 3) + 1)) ((F_M_look w).1))]) (st := []) (C := m_X12_put) (fs := [0, 3, 0, 0, 0, 0, 4, 5, 6, 7, 8, 9, 10, 0, 0, 11, 12, 13, 14, 15, 16, 0, 0, 0, 17, 18, 19, 20, 0, 0, 0, 21, 22, 0, 0, 23, 0, 1, 24, 0, 0, 25, 26, 0, 27, 0]) (pc' := 51) dX12_atom_48 rfl t_7_48 k_X12_put rfl (by decide) rfl rfl rfl rfl (Nat.le_of_ble_eq_true rfl) ?_
      have r12 := h
      refine c_M_put r12 ?_
      show z_Wp m_X12_atom _ 51 [(0, zR 0), (1, zI ((F_M_look w).1))] [] (F_M_put (z_up ((F_M_look w).2) 0 3 ((((F_M_look w).2) 0 3) + 1)) 1 (F_M_letterOf (z_up ((F_M_look w).2) 0 3 ((((F_M_look w).2) 0 3) + 1)) ((F_M_look w).1))) _
      refine z_goto 89 dX12_atom_51 (by decide) ?_
      refine z_vret rfl dX12_atom_89 ?_
      try dsimp only at k
      exact k
  · have h := h.2 c
    rw [if_neg c] at k
    refine z_aload_n (pc' := 13) 0 rfl rfl dX12_atom_12 rfl ?_
    refine z_iconst (pc' := 14) dX12_atom_13 rfl ?_
    refine z_aload_n (pc' := 15) 0 rfl rfl dX12_atom_14 rfl ?_
    refine z_invV (as := []) (st := [zI 0, zR 0]) (C := m_X12_plainNumber) (fs := [0, 3, 0, 0, 0, 0, 4, 5, 6, 7, 8, 9, 10, 0, 0, 11, 12, 13, 14, 15, 16, 0, 0, 0, 17, 18, 19, 20, 0, 0, 0, 21, 22, 0, 0, 23, 0, 1, 24, 0, 0, 25, 26, 0, 27, 0]) (pc' := 18) dX12_atom_15 rfl t_7_68 k_X12_plainNumber rfl (by decide) rfl rfl rfl rfl (Nat.le_of_ble_eq_true rfl) ?_
    obtain ⟨r13, h⟩ := h
    refine c_M_plainNumber r13 ?_
    show z_Wp m_X12_atom _ 18 [(0, zR 0), (1, zI ((F_M_look w).1))] [zI ((F_M_plainNumber ((F_M_look w).2)).1), zI 0, zR 0] ((F_M_plainNumber ((F_M_look w).2)).2) _
    refine z_invV (as := [zI 0, zI ((F_M_plainNumber ((F_M_look w).2)).1)]) (st := []) (C := m_X12_put) (fs := [0, 3, 0, 0, 0, 0, 4, 5, 6, 7, 8, 9, 10, 0, 0, 11, 12, 13, 14, 15, 16, 0, 0, 0, 17, 18, 19, 20, 0, 0, 0, 21, 22, 0, 0, 23, 0, 1, 24, 0, 0, 25, 26, 0, 27, 0]) (pc' := 21) dX12_atom_18 rfl t_7_48 k_X12_put rfl (by decide) rfl rfl rfl rfl (Nat.le_of_ble_eq_true rfl) ?_
    have r14 := h
    refine c_M_put r14 ?_
    show z_Wp m_X12_atom _ 21 [(0, zR 0), (1, zI ((F_M_look w).1))] [] (F_M_put ((F_M_plainNumber ((F_M_look w).2)).2) 0 ((F_M_plainNumber ((F_M_look w).2)).1)) _
    refine z_goto 89 dX12_atom_21 (by decide) ?_
    refine z_vret rfl dX12_atom_89 ?_
    try dsimp only at k
    exact k
set_option maxHeartbeats 2000000 in
set_option maxRecDepth 4000 in
theorem st_M_term {d n9 : Nat} (ihr : S_MP d n9) : S_M_term d (n9 + 1) := by
  intro w  Q h k
  have eh : P_MP (n9 + 1) 1 w  = ((P_MP n9 0 w) ∧ (-2147483648 ≤ (F_MP n9 0 w) 0 4 ∧ (F_MP n9 0 w) 0 4 < 2147483648) ∧ (((F_MP n9 0 w) 0 4 = (-1) → (P_M_look (F_MP n9 0 w)) ∧ (PL_M_term_21x2 w (F_MP n9) (P_MP n9) 300 ((F_M_look (F_MP n9 0 w)).1) ((F_M_look (F_MP n9 0 w)).2))) ∧ (¬ ((F_MP n9 0 w) 0 4 = (-1)) → PL_M_term_21 w (F_MP n9) (P_MP n9) 300 (-1) (F_MP n9 0 w)))) := by rw [P_MP]
  have ek : F_MP (n9 + 1) 1 w  = (if (F_MP n9 0 w) 0 4 = (-1) then L_M_term_21x2 w (F_MP n9) 300 ((F_M_look (F_MP n9 0 w)).1) ((F_M_look (F_MP n9 0 w)).2) else L_M_term_21 w (F_MP n9) 300 (-1) (F_MP n9 0 w)) := by rw [F_MP]
  rw [eh] at h
  rw [ek] at k
  clear eh ek
  refine z_enter rfl (Nat.le_of_ble_eq_true rfl) ?_
  show z_Wp m_X12_term _ 0 [(0, zR 0)] [] w _
  refine z_aload_n (pc' := 1) 0 rfl rfl dX12_term_0 rfl ?_
  refine z_invV (as := []) (st := []) (C := m_X12_atom) (fs := [0, 3, 0, 0, 0, 0, 4, 5, 6, 7, 8, 9, 10, 0, 0, 11, 12, 13, 14, 15, 16, 0, 0, 0, 17, 18, 19, 20, 0, 0, 0, 21, 22, 0, 0, 23, 0, 1, 24, 0, 0, 25, 26, 0, 27, 0]) (pc' := 4) dX12_term_1 rfl t_7_64 k_X12_atom rfl (by decide) rfl rfl rfl rfl (Nat.le_of_ble_eq_true rfl) ?_
  obtain ⟨r1, h⟩ := h
  refine z_dcast (d' := d + n9 + 3) (by omega) (ihr.1 r1 ?_)
  show z_Wp m_X12_term _ 4 [(0, zR 0)] [] (F_MP n9 0 w) _
  refine z_aload_n (pc' := 5) 0 rfl rfl dX12_term_4 rfl ?_
  refine z_getI2 (v := (F_MP n9 0 w) 0 4) (pc' := 8) g_X12_109 (by decide) rfl rfl rfl dX12_term_5 rfl ?_
  refine z_iconst (pc' := 9) dX12_term_8 rfl ?_
  obtain ⟨r2, h⟩ := h
  refine z_icmp_ne 19 dX12_term_9 (by decide) (pc' := 12) rfl r2 (by decide) (fun c => ?_) (fun c => ?_)
  · have h := h.2 c
    rw [if_neg c] at k
    refine z_iconst (pc' := 20) dX12_term_19 rfl ?_
    refine z_istore_n (pc' := 21) (ls' := [(0, zR 0), (1, zI (-1))]) rfl (by decide) rfl rfl dX12_term_20 rfl ?_
    have hl : ∀ (m9 : Nat) (u1 : Int) (wu : z_Wd), PL_M_term_21 w (F_MP n9) (P_MP n9) m9 u1 wu → Q none (L_M_term_21 w (F_MP n9) m9 u1 wu) → z_Wp m_X12_term (d + (n9 + 1) + 3) 21 [(0, zR 0), (1, zI u1)] [] wu Q := by
      clear h k
      intro m9
      induction m9 with
      | zero => intro u1 wu h k; exact False.elim h
      | succ m9 ih =>
        intro u1 wu h k
        have h : (-2147483648 ≤ u1 ∧ u1 < 2147483648) ∧ ((u1 = 42 → (P_MP n9 0 (z_up wu 0 3 ((wu 0 3) + 1))) ∧ ((u1 = 42 → (P_M_put (F_MP n9 0 (z_up wu 0 3 ((wu 0 3) + 1))) 4 0) ∧ (-2147483648 ≤ (F_M_put (F_MP n9 0 (z_up wu 0 3 ((wu 0 3) + 1))) 4 0) 0 4 ∧ (F_M_put (F_MP n9 0 (z_up wu 0 3 ((wu 0 3) + 1))) 4 0) 0 4 < 2147483648) ∧ (((F_M_put (F_MP n9 0 (z_up wu 0 3 ((wu 0 3) + 1))) 4 0) 0 4 = (-1) → (P_M_look (F_M_put (F_MP n9 0 (z_up wu 0 3 ((wu 0 3) + 1))) 4 0)) ∧ (PL_M_term_21 w (F_MP n9) (P_MP n9) m9 ((F_M_look (F_M_put (F_MP n9 0 (z_up wu 0 3 ((wu 0 3) + 1))) 4 0)).1) ((F_M_look (F_M_put (F_MP n9 0 (z_up wu 0 3 ((wu 0 3) + 1))) 4 0)).2))) ∧ (¬ ((F_M_put (F_MP n9 0 (z_up wu 0 3 ((wu 0 3) + 1))) 4 0) 0 4 = (-1)) → PL_M_term_21 w (F_MP n9) (P_MP n9) m9 (-1) (F_M_put (F_MP n9 0 (z_up wu 0 3 ((wu 0 3) + 1))) 4 0)))) ∧ (¬ (u1 = 42) → (P_M_put (F_MP n9 0 (z_up wu 0 3 ((wu 0 3) + 1))) 5 0) ∧ (-2147483648 ≤ (F_M_put (F_MP n9 0 (z_up wu 0 3 ((wu 0 3) + 1))) 5 0) 0 4 ∧ (F_M_put (F_MP n9 0 (z_up wu 0 3 ((wu 0 3) + 1))) 5 0) 0 4 < 2147483648) ∧ (((F_M_put (F_MP n9 0 (z_up wu 0 3 ((wu 0 3) + 1))) 5 0) 0 4 = (-1) → (P_M_look (F_M_put (F_MP n9 0 (z_up wu 0 3 ((wu 0 3) + 1))) 5 0)) ∧ (PL_M_term_21 w (F_MP n9) (P_MP n9) m9 ((F_M_look (F_M_put (F_MP n9 0 (z_up wu 0 3 ((wu 0 3) + 1))) 5 0)).1) ((F_M_look (F_M_put (F_MP n9 0 (z_up wu 0 3 ((wu 0 3) + 1))) 5 0)).2))) ∧ (¬ ((F_M_put (F_MP n9 0 (z_up wu 0 3 ((wu 0 3) + 1))) 5 0) 0 4 = (-1)) → PL_M_term_21 w (F_MP n9) (P_MP n9) m9 (-1) (F_M_put (F_MP n9 0 (z_up wu 0 3 ((wu 0 3) + 1))) 5 0)))))) ∧ (¬ (u1 = 42) → (u1 = 47 → (P_MP n9 0 (z_up wu 0 3 ((wu 0 3) + 1))) ∧ ((u1 = 42 → (P_M_put (F_MP n9 0 (z_up wu 0 3 ((wu 0 3) + 1))) 4 0) ∧ (-2147483648 ≤ (F_M_put (F_MP n9 0 (z_up wu 0 3 ((wu 0 3) + 1))) 4 0) 0 4 ∧ (F_M_put (F_MP n9 0 (z_up wu 0 3 ((wu 0 3) + 1))) 4 0) 0 4 < 2147483648) ∧ (((F_M_put (F_MP n9 0 (z_up wu 0 3 ((wu 0 3) + 1))) 4 0) 0 4 = (-1) → (P_M_look (F_M_put (F_MP n9 0 (z_up wu 0 3 ((wu 0 3) + 1))) 4 0)) ∧ (PL_M_term_21 w (F_MP n9) (P_MP n9) m9 ((F_M_look (F_M_put (F_MP n9 0 (z_up wu 0 3 ((wu 0 3) + 1))) 4 0)).1) ((F_M_look (F_M_put (F_MP n9 0 (z_up wu 0 3 ((wu 0 3) + 1))) 4 0)).2))) ∧ (¬ ((F_M_put (F_MP n9 0 (z_up wu 0 3 ((wu 0 3) + 1))) 4 0) 0 4 = (-1)) → PL_M_term_21 w (F_MP n9) (P_MP n9) m9 (-1) (F_M_put (F_MP n9 0 (z_up wu 0 3 ((wu 0 3) + 1))) 4 0)))) ∧ (¬ (u1 = 42) → (P_M_put (F_MP n9 0 (z_up wu 0 3 ((wu 0 3) + 1))) 5 0) ∧ (-2147483648 ≤ (F_M_put (F_MP n9 0 (z_up wu 0 3 ((wu 0 3) + 1))) 5 0) 0 4 ∧ (F_M_put (F_MP n9 0 (z_up wu 0 3 ((wu 0 3) + 1))) 5 0) 0 4 < 2147483648) ∧ (((F_M_put (F_MP n9 0 (z_up wu 0 3 ((wu 0 3) + 1))) 5 0) 0 4 = (-1) → (P_M_look (F_M_put (F_MP n9 0 (z_up wu 0 3 ((wu 0 3) + 1))) 5 0)) ∧ (PL_M_term_21 w (F_MP n9) (P_MP n9) m9 ((F_M_look (F_M_put (F_MP n9 0 (z_up wu 0 3 ((wu 0 3) + 1))) 5 0)).1) ((F_M_look (F_M_put (F_MP n9 0 (z_up wu 0 3 ((wu 0 3) + 1))) 5 0)).2))) ∧ (¬ ((F_M_put (F_MP n9 0 (z_up wu 0 3 ((wu 0 3) + 1))) 5 0) 0 4 = (-1)) → PL_M_term_21 w (F_MP n9) (P_MP n9) m9 (-1) (F_M_put (F_MP n9 0 (z_up wu 0 3 ((wu 0 3) + 1))) 5 0)))))) ∧ (¬ (u1 = 47) → True))) := h
        have k : Q none (if u1 = 42 then if u1 = 42 then if (F_M_put (F_MP n9 0 (z_up wu 0 3 ((wu 0 3) + 1))) 4 0) 0 4 = (-1) then L_M_term_21 w (F_MP n9) m9 ((F_M_look (F_M_put (F_MP n9 0 (z_up wu 0 3 ((wu 0 3) + 1))) 4 0)).1) ((F_M_look (F_M_put (F_MP n9 0 (z_up wu 0 3 ((wu 0 3) + 1))) 4 0)).2) else L_M_term_21 w (F_MP n9) m9 (-1) (F_M_put (F_MP n9 0 (z_up wu 0 3 ((wu 0 3) + 1))) 4 0) else if (F_M_put (F_MP n9 0 (z_up wu 0 3 ((wu 0 3) + 1))) 5 0) 0 4 = (-1) then L_M_term_21 w (F_MP n9) m9 ((F_M_look (F_M_put (F_MP n9 0 (z_up wu 0 3 ((wu 0 3) + 1))) 5 0)).1) ((F_M_look (F_M_put (F_MP n9 0 (z_up wu 0 3 ((wu 0 3) + 1))) 5 0)).2) else L_M_term_21 w (F_MP n9) m9 (-1) (F_M_put (F_MP n9 0 (z_up wu 0 3 ((wu 0 3) + 1))) 5 0) else if u1 = 47 then if u1 = 42 then if (F_M_put (F_MP n9 0 (z_up wu 0 3 ((wu 0 3) + 1))) 4 0) 0 4 = (-1) then L_M_term_21 w (F_MP n9) m9 ((F_M_look (F_M_put (F_MP n9 0 (z_up wu 0 3 ((wu 0 3) + 1))) 4 0)).1) ((F_M_look (F_M_put (F_MP n9 0 (z_up wu 0 3 ((wu 0 3) + 1))) 4 0)).2) else L_M_term_21 w (F_MP n9) m9 (-1) (F_M_put (F_MP n9 0 (z_up wu 0 3 ((wu 0 3) + 1))) 4 0) else if (F_M_put (F_MP n9 0 (z_up wu 0 3 ((wu 0 3) + 1))) 5 0) 0 4 = (-1) then L_M_term_21 w (F_MP n9) m9 ((F_M_look (F_M_put (F_MP n9 0 (z_up wu 0 3 ((wu 0 3) + 1))) 5 0)).1) ((F_M_look (F_M_put (F_MP n9 0 (z_up wu 0 3 ((wu 0 3) + 1))) 5 0)).2) else L_M_term_21 w (F_MP n9) m9 (-1) (F_M_put (F_MP n9 0 (z_up wu 0 3 ((wu 0 3) + 1))) 5 0) else wu) := k
        refine z_iload_n (pc' := 22) 1 rfl rfl dX12_term_21 rfl ?_
        refine z_bipush (pc' := 24) (by decide) dX12_term_22 rfl ?_
        obtain ⟨r18, h⟩ := h
        refine z_icmp_eq 33 dX12_term_24 (by decide) (pc' := 27) rfl r18 (by decide) (fun c => ?_) (fun c => ?_)
        · have h := h.1 c
          rw [if_pos c] at k
          refine z_aload_n (pc' := 34) 0 rfl rfl dX12_term_33 rfl ?_
          refine z_dup (pc' := 35) rfl dX12_term_34 rfl ?_
          refine z_getI2 (v := wu 0 3) (pc' := 38) g_X12_102 (by decide) rfl rfl rfl dX12_term_35 rfl ?_
          refine z_iconst (pc' := 39) dX12_term_38 rfl ?_
          refine z_iadd (pc' := 40) dX12_term_39 rfl ?_
          refine z_putI (pc' := 43) p_X12_102 (by decide) rfl rfl rfl rfl dX12_term_40 rfl ?_
          refine z_aload_n (pc' := 44) 0 rfl rfl dX12_term_43 rfl ?_
          refine z_invV (as := []) (st := []) (C := m_X12_atom) (fs := [0, 3, 0, 0, 0, 0, 4, 5, 6, 7, 8, 9, 10, 0, 0, 11, 12, 13, 14, 15, 16, 0, 0, 0, 17, 18, 19, 20, 0, 0, 0, 21, 22, 0, 0, 23, 0, 1, 24, 0, 0, 25, 26, 0, 27, 0]) (pc' := 47) dX12_term_44 rfl t_7_64 k_X12_atom rfl (by decide) rfl rfl rfl rfl (Nat.le_of_ble_eq_true rfl) ?_
          obtain ⟨r19, h⟩ := h
          refine z_dcast (d' := d + n9 + 3) (by omega) (ihr.1 r19 ?_)
          show z_Wp m_X12_term _ 47 [(0, zR 0), (1, zI u1)] [] (F_MP n9 0 (z_up wu 0 3 ((wu 0 3) + 1))) _
          refine z_aload_n (pc' := 48) 0 rfl rfl dX12_term_47 rfl ?_
          refine z_iload_n (pc' := 49) 1 rfl rfl dX12_term_48 rfl ?_
          refine z_bipush (pc' := 51) (by decide) dX12_term_49 rfl ?_
          refine z_icmp_ne 58 dX12_term_51 (by decide) (pc' := 54) rfl r18 (by decide) (fun c => ?_) (fun c => ?_)
          · have h := h.2 c
            rw [if_neg c] at k
            refine z_iconst (pc' := 59) dX12_term_58 rfl ?_
            refine z_iconst (pc' := 60) dX12_term_59 rfl ?_
            refine z_invV (as := [zI 5, zI 0]) (st := []) (C := m_X12_put) (fs := [0, 3, 0, 0, 0, 0, 4, 5, 6, 7, 8, 9, 10, 0, 0, 11, 12, 13, 14, 15, 16, 0, 0, 0, 17, 18, 19, 20, 0, 0, 0, 21, 22, 0, 0, 23, 0, 1, 24, 0, 0, 25, 26, 0, 27, 0]) (pc' := 63) dX12_term_60 rfl t_7_48 k_X12_put rfl (by decide) rfl rfl rfl rfl (Nat.le_of_ble_eq_true rfl) ?_
            obtain ⟨r20, h⟩ := h
            refine c_M_put r20 ?_
            show z_Wp m_X12_term _ 63 [(0, zR 0), (1, zI u1)] [] (F_M_put (F_MP n9 0 (z_up wu 0 3 ((wu 0 3) + 1))) 5 0) _
            refine z_aload_n (pc' := 64) 0 rfl rfl dX12_term_63 rfl ?_
            refine z_getI2 (v := (F_M_put (F_MP n9 0 (z_up wu 0 3 ((wu 0 3) + 1))) 5 0) 0 4) (pc' := 67) g_X12_109 (by decide) rfl rfl rfl dX12_term_64 rfl ?_
            refine z_iconst (pc' := 68) dX12_term_67 rfl ?_
            obtain ⟨r21, h⟩ := h
            refine z_icmp_ne 78 dX12_term_68 (by decide) (pc' := 71) rfl r21 (by decide) (fun c => ?_) (fun c => ?_)
            · have h := h.2 c
              rw [if_neg c] at k
              refine z_iconst (pc' := 79) dX12_term_78 rfl ?_
              refine z_istore_n (pc' := 80) (ls' := [(0, zR 0), (1, zI (-1))]) rfl (by decide) rfl rfl dX12_term_79 rfl ?_
              refine z_goto 21 dX12_term_80 (by decide) ?_
              exact ih _ _ h k
            · have h := h.1 c
              rw [if_pos c] at k
              refine z_aload_n (pc' := 72) 0 rfl rfl dX12_term_71 rfl ?_
              refine z_invV (as := []) (st := []) (C := m_X12_look) (fs := [0, 3, 0, 0, 0, 0, 4, 5, 6, 7, 8, 9, 10, 0, 0, 11, 12, 13, 14, 15, 16, 0, 0, 0, 17, 18, 19, 20, 0, 0, 0, 21, 22, 0, 0, 23, 0, 1, 24, 0, 0, 25, 26, 0, 27, 0]) (pc' := 75) dX12_term_72 rfl t_6_218 k_X12_look rfl (by decide) rfl rfl rfl rfl (Nat.le_of_ble_eq_true rfl) ?_
              obtain ⟨r22, h⟩ := h
              refine c_M_look r22 ?_
              show z_Wp m_X12_term _ 75 [(0, zR 0), (1, zI u1)] [zI ((F_M_look (F_M_put (F_MP n9 0 (z_up wu 0 3 ((wu 0 3) + 1))) 5 0)).1)] ((F_M_look (F_M_put (F_MP n9 0 (z_up wu 0 3 ((wu 0 3) + 1))) 5 0)).2) _
              refine z_goto 79 dX12_term_75 (by decide) ?_
              refine z_istore_n (pc' := 80) (ls' := [(0, zR 0), (1, zI ((F_M_look (F_M_put (F_MP n9 0 (z_up wu 0 3 ((wu 0 3) + 1))) 5 0)).1))]) rfl (by decide) rfl rfl dX12_term_79 rfl ?_
              refine z_goto 21 dX12_term_80 (by decide) ?_
              exact ih _ _ h k
          · have h := h.1 c
            rw [if_pos c] at k
            refine z_iconst (pc' := 55) dX12_term_54 rfl ?_
            refine z_goto 59 dX12_term_55 (by decide) ?_
            refine z_iconst (pc' := 60) dX12_term_59 rfl ?_
            refine z_invV (as := [zI 4, zI 0]) (st := []) (C := m_X12_put) (fs := [0, 3, 0, 0, 0, 0, 4, 5, 6, 7, 8, 9, 10, 0, 0, 11, 12, 13, 14, 15, 16, 0, 0, 0, 17, 18, 19, 20, 0, 0, 0, 21, 22, 0, 0, 23, 0, 1, 24, 0, 0, 25, 26, 0, 27, 0]) (pc' := 63) dX12_term_60 rfl t_7_48 k_X12_put rfl (by decide) rfl rfl rfl rfl (Nat.le_of_ble_eq_true rfl) ?_
            obtain ⟨r23, h⟩ := h
            refine c_M_put r23 ?_
            show z_Wp m_X12_term _ 63 [(0, zR 0), (1, zI u1)] [] (F_M_put (F_MP n9 0 (z_up wu 0 3 ((wu 0 3) + 1))) 4 0) _
            refine z_aload_n (pc' := 64) 0 rfl rfl dX12_term_63 rfl ?_
            refine z_getI2 (v := (F_M_put (F_MP n9 0 (z_up wu 0 3 ((wu 0 3) + 1))) 4 0) 0 4) (pc' := 67) g_X12_109 (by decide) rfl rfl rfl dX12_term_64 rfl ?_
            refine z_iconst (pc' := 68) dX12_term_67 rfl ?_
            obtain ⟨r24, h⟩ := h
            refine z_icmp_ne 78 dX12_term_68 (by decide) (pc' := 71) rfl r24 (by decide) (fun c => ?_) (fun c => ?_)
            · have h := h.2 c
              rw [if_neg c] at k
              refine z_iconst (pc' := 79) dX12_term_78 rfl ?_
              refine z_istore_n (pc' := 80) (ls' := [(0, zR 0), (1, zI (-1))]) rfl (by decide) rfl rfl dX12_term_79 rfl ?_
              refine z_goto 21 dX12_term_80 (by decide) ?_
              exact ih _ _ h k
            · have h := h.1 c
              rw [if_pos c] at k
              refine z_aload_n (pc' := 72) 0 rfl rfl dX12_term_71 rfl ?_
              refine z_invV (as := []) (st := []) (C := m_X12_look) (fs := [0, 3, 0, 0, 0, 0, 4, 5, 6, 7, 8, 9, 10, 0, 0, 11, 12, 13, 14, 15, 16, 0, 0, 0, 17, 18, 19, 20, 0, 0, 0, 21, 22, 0, 0, 23, 0, 1, 24, 0, 0, 25, 26, 0, 27, 0]) (pc' := 75) dX12_term_72 rfl t_6_218 k_X12_look rfl (by decide) rfl rfl rfl rfl (Nat.le_of_ble_eq_true rfl) ?_
              obtain ⟨r25, h⟩ := h
              refine c_M_look r25 ?_
              show z_Wp m_X12_term _ 75 [(0, zR 0), (1, zI u1)] [zI ((F_M_look (F_M_put (F_MP n9 0 (z_up wu 0 3 ((wu 0 3) + 1))) 4 0)).1)] ((F_M_look (F_M_put (F_MP n9 0 (z_up wu 0 3 ((wu 0 3) + 1))) 4 0)).2) _
              refine z_goto 79 dX12_term_75 (by decide) ?_
              refine z_istore_n (pc' := 80) (ls' := [(0, zR 0), (1, zI ((F_M_look (F_M_put (F_MP n9 0 (z_up wu 0 3 ((wu 0 3) + 1))) 4 0)).1))]) rfl (by decide) rfl rfl dX12_term_79 rfl ?_
              refine z_goto 21 dX12_term_80 (by decide) ?_
              exact ih _ _ h k
        · have h := h.2 c
          rw [if_neg c] at k
          refine z_iload_n (pc' := 28) 1 rfl rfl dX12_term_27 rfl ?_
          refine z_bipush (pc' := 30) (by decide) dX12_term_28 rfl ?_
          refine z_icmp_ne 83 dX12_term_30 (by decide) (pc' := 33) rfl r18 (by decide) (fun c => ?_) (fun c => ?_)
          · have h := h.2 c
            rw [if_neg c] at k
            refine z_vret rfl dX12_term_83 ?_
            try dsimp only at k
            exact k
          · have h := h.1 c
            rw [if_pos c] at k
            refine z_aload_n (pc' := 34) 0 rfl rfl dX12_term_33 rfl ?_
            refine z_dup (pc' := 35) rfl dX12_term_34 rfl ?_
            refine z_getI2 (v := wu 0 3) (pc' := 38) g_X12_102 (by decide) rfl rfl rfl dX12_term_35 rfl ?_
            refine z_iconst (pc' := 39) dX12_term_38 rfl ?_
            refine z_iadd (pc' := 40) dX12_term_39 rfl ?_
            refine z_putI (pc' := 43) p_X12_102 (by decide) rfl rfl rfl rfl dX12_term_40 rfl ?_
            refine z_aload_n (pc' := 44) 0 rfl rfl dX12_term_43 rfl ?_
            refine z_invV (as := []) (st := []) (C := m_X12_atom) (fs := [0, 3, 0, 0, 0, 0, 4, 5, 6, 7, 8, 9, 10, 0, 0, 11, 12, 13, 14, 15, 16, 0, 0, 0, 17, 18, 19, 20, 0, 0, 0, 21, 22, 0, 0, 23, 0, 1, 24, 0, 0, 25, 26, 0, 27, 0]) (pc' := 47) dX12_term_44 rfl t_7_64 k_X12_atom rfl (by decide) rfl rfl rfl rfl (Nat.le_of_ble_eq_true rfl) ?_
            obtain ⟨r26, h⟩ := h
            refine z_dcast (d' := d + n9 + 3) (by omega) (ihr.1 r26 ?_)
            show z_Wp m_X12_term _ 47 [(0, zR 0), (1, zI u1)] [] (F_MP n9 0 (z_up wu 0 3 ((wu 0 3) + 1))) _
            refine z_aload_n (pc' := 48) 0 rfl rfl dX12_term_47 rfl ?_
            refine z_iload_n (pc' := 49) 1 rfl rfl dX12_term_48 rfl ?_
            refine z_bipush (pc' := 51) (by decide) dX12_term_49 rfl ?_
            refine z_icmp_ne 58 dX12_term_51 (by decide) (pc' := 54) rfl r18 (by decide) (fun c => ?_) (fun c => ?_)
            · have h := h.2 c
              rw [if_neg c] at k
              refine z_iconst (pc' := 59) dX12_term_58 rfl ?_
              refine z_iconst (pc' := 60) dX12_term_59 rfl ?_
              refine z_invV (as := [zI 5, zI 0]) (st := []) (C := m_X12_put) (fs := [0, 3, 0, 0, 0, 0, 4, 5, 6, 7, 8, 9, 10, 0, 0, 11, 12, 13, 14, 15, 16, 0, 0, 0, 17, 18, 19, 20, 0, 0, 0, 21, 22, 0, 0, 23, 0, 1, 24, 0, 0, 25, 26, 0, 27, 0]) (pc' := 63) dX12_term_60 rfl t_7_48 k_X12_put rfl (by decide) rfl rfl rfl rfl (Nat.le_of_ble_eq_true rfl) ?_
              obtain ⟨r27, h⟩ := h
              refine c_M_put r27 ?_
              show z_Wp m_X12_term _ 63 [(0, zR 0), (1, zI u1)] [] (F_M_put (F_MP n9 0 (z_up wu 0 3 ((wu 0 3) + 1))) 5 0) _
              refine z_aload_n (pc' := 64) 0 rfl rfl dX12_term_63 rfl ?_
              refine z_getI2 (v := (F_M_put (F_MP n9 0 (z_up wu 0 3 ((wu 0 3) + 1))) 5 0) 0 4) (pc' := 67) g_X12_109 (by decide) rfl rfl rfl dX12_term_64 rfl ?_
              refine z_iconst (pc' := 68) dX12_term_67 rfl ?_
              obtain ⟨r28, h⟩ := h
              refine z_icmp_ne 78 dX12_term_68 (by decide) (pc' := 71) rfl r28 (by decide) (fun c => ?_) (fun c => ?_)
              · have h := h.2 c
                rw [if_neg c] at k
                refine z_iconst (pc' := 79) dX12_term_78 rfl ?_
                refine z_istore_n (pc' := 80) (ls' := [(0, zR 0), (1, zI (-1))]) rfl (by decide) rfl rfl dX12_term_79 rfl ?_
                refine z_goto 21 dX12_term_80 (by decide) ?_
                exact ih _ _ h k
              · have h := h.1 c
                rw [if_pos c] at k
                refine z_aload_n (pc' := 72) 0 rfl rfl dX12_term_71 rfl ?_
                refine z_invV (as := []) (st := []) (C := m_X12_look) (fs := [0, 3, 0, 0, 0, 0, 4, 5, 6, 7, 8, 9, 10, 0, 0, 11, 12, 13, 14, 15, 16, 0, 0, 0, 17, 18, 19, 20, 0, 0, 0, 21, 22, 0, 0, 23, 0, 1, 24, 0, 0, 25, 26, 0, 27, 0]) (pc' := 75) dX12_term_72 rfl t_6_218 k_X12_look rfl (by decide) rfl rfl rfl rfl (Nat.le_of_ble_eq_true rfl) ?_
                obtain ⟨r29, h⟩ := h
                refine c_M_look r29 ?_
                show z_Wp m_X12_term _ 75 [(0, zR 0), (1, zI u1)] [zI ((F_M_look (F_M_put (F_MP n9 0 (z_up wu 0 3 ((wu 0 3) + 1))) 5 0)).1)] ((F_M_look (F_M_put (F_MP n9 0 (z_up wu 0 3 ((wu 0 3) + 1))) 5 0)).2) _
                refine z_goto 79 dX12_term_75 (by decide) ?_
                refine z_istore_n (pc' := 80) (ls' := [(0, zR 0), (1, zI ((F_M_look (F_M_put (F_MP n9 0 (z_up wu 0 3 ((wu 0 3) + 1))) 5 0)).1))]) rfl (by decide) rfl rfl dX12_term_79 rfl ?_
                refine z_goto 21 dX12_term_80 (by decide) ?_
                exact ih _ _ h k
            · have h := h.1 c
              rw [if_pos c] at k
              refine z_iconst (pc' := 55) dX12_term_54 rfl ?_
              refine z_goto 59 dX12_term_55 (by decide) ?_
              refine z_iconst (pc' := 60) dX12_term_59 rfl ?_
              refine z_invV (as := [zI 4, zI 0]) (st := []) (C := m_X12_put) (fs := [0, 3, 0, 0, 0, 0, 4, 5, 6, 7, 8, 9, 10, 0, 0, 11, 12, 13, 14, 15, 16, 0, 0, 0, 17, 18, 19, 20, 0, 0, 0, 21, 22, 0, 0, 23, 0, 1, 24, 0, 0, 25, 26, 0, 27, 0]) (pc' := 63) dX12_term_60 rfl t_7_48 k_X12_put rfl (by decide) rfl rfl rfl rfl (Nat.le_of_ble_eq_true rfl) ?_
              obtain ⟨r30, h⟩ := h
              refine c_M_put r30 ?_
              show z_Wp m_X12_term _ 63 [(0, zR 0), (1, zI u1)] [] (F_M_put (F_MP n9 0 (z_up wu 0 3 ((wu 0 3) + 1))) 4 0) _
              refine z_aload_n (pc' := 64) 0 rfl rfl dX12_term_63 rfl ?_
              refine z_getI2 (v := (F_M_put (F_MP n9 0 (z_up wu 0 3 ((wu 0 3) + 1))) 4 0) 0 4) (pc' := 67) g_X12_109 (by decide) rfl rfl rfl dX12_term_64 rfl ?_
              refine z_iconst (pc' := 68) dX12_term_67 rfl ?_
              obtain ⟨r31, h⟩ := h
              refine z_icmp_ne 78 dX12_term_68 (by decide) (pc' := 71) rfl r31 (by decide) (fun c => ?_) (fun c => ?_)
              · have h := h.2 c
                rw [if_neg c] at k
                refine z_iconst (pc' := 79) dX12_term_78 rfl ?_
                refine z_istore_n (pc' := 80) (ls' := [(0, zR 0), (1, zI (-1))]) rfl (by decide) rfl rfl dX12_term_79 rfl ?_
                refine z_goto 21 dX12_term_80 (by decide) ?_
                exact ih _ _ h k
              · have h := h.1 c
                rw [if_pos c] at k
                refine z_aload_n (pc' := 72) 0 rfl rfl dX12_term_71 rfl ?_
                refine z_invV (as := []) (st := []) (C := m_X12_look) (fs := [0, 3, 0, 0, 0, 0, 4, 5, 6, 7, 8, 9, 10, 0, 0, 11, 12, 13, 14, 15, 16, 0, 0, 0, 17, 18, 19, 20, 0, 0, 0, 21, 22, 0, 0, 23, 0, 1, 24, 0, 0, 25, 26, 0, 27, 0]) (pc' := 75) dX12_term_72 rfl t_6_218 k_X12_look rfl (by decide) rfl rfl rfl rfl (Nat.le_of_ble_eq_true rfl) ?_
                obtain ⟨r32, h⟩ := h
                refine c_M_look r32 ?_
                show z_Wp m_X12_term _ 75 [(0, zR 0), (1, zI u1)] [zI ((F_M_look (F_M_put (F_MP n9 0 (z_up wu 0 3 ((wu 0 3) + 1))) 4 0)).1)] ((F_M_look (F_M_put (F_MP n9 0 (z_up wu 0 3 ((wu 0 3) + 1))) 4 0)).2) _
                refine z_goto 79 dX12_term_75 (by decide) ?_
                refine z_istore_n (pc' := 80) (ls' := [(0, zR 0), (1, zI ((F_M_look (F_M_put (F_MP n9 0 (z_up wu 0 3 ((wu 0 3) + 1))) 4 0)).1))]) rfl (by decide) rfl rfl dX12_term_79 rfl ?_
                refine z_goto 21 dX12_term_80 (by decide) ?_
                exact ih _ _ h k
    exact hl 300 _ _ h k
  · have h := h.1 c
    rw [if_pos c] at k
    refine z_aload_n (pc' := 13) 0 rfl rfl dX12_term_12 rfl ?_
    refine z_invV (as := []) (st := []) (C := m_X12_look) (fs := [0, 3, 0, 0, 0, 0, 4, 5, 6, 7, 8, 9, 10, 0, 0, 11, 12, 13, 14, 15, 16, 0, 0, 0, 17, 18, 19, 20, 0, 0, 0, 21, 22, 0, 0, 23, 0, 1, 24, 0, 0, 25, 26, 0, 27, 0]) (pc' := 16) dX12_term_13 rfl t_6_218 k_X12_look rfl (by decide) rfl rfl rfl rfl (Nat.le_of_ble_eq_true rfl) ?_
    obtain ⟨r33, h⟩ := h
    refine c_M_look r33 ?_
    show z_Wp m_X12_term _ 16 [(0, zR 0)] [zI ((F_M_look (F_MP n9 0 w)).1)] ((F_M_look (F_MP n9 0 w)).2) _
    refine z_goto 20 dX12_term_16 (by decide) ?_
    refine z_istore_n (pc' := 21) (ls' := [(0, zR 0), (1, zI ((F_M_look (F_MP n9 0 w)).1))]) rfl (by decide) rfl rfl dX12_term_20 rfl ?_
    have hl : ∀ (m9 : Nat) (u1 : Int) (wu : z_Wd), PL_M_term_21x2 w (F_MP n9) (P_MP n9) m9 u1 wu → Q none (L_M_term_21x2 w (F_MP n9) m9 u1 wu) → z_Wp m_X12_term (d + (n9 + 1) + 3) 21 [(0, zR 0), (1, zI u1)] [] wu Q := by
      clear h k
      intro m9
      induction m9 with
      | zero => intro u1 wu h k; exact False.elim h
      | succ m9 ih =>
        intro u1 wu h k
        have h : (-2147483648 ≤ u1 ∧ u1 < 2147483648) ∧ ((u1 = 42 → (P_MP n9 0 (z_up wu 0 3 ((wu 0 3) + 1))) ∧ ((u1 = 42 → (P_M_put (F_MP n9 0 (z_up wu 0 3 ((wu 0 3) + 1))) 4 0) ∧ (-2147483648 ≤ (F_M_put (F_MP n9 0 (z_up wu 0 3 ((wu 0 3) + 1))) 4 0) 0 4 ∧ (F_M_put (F_MP n9 0 (z_up wu 0 3 ((wu 0 3) + 1))) 4 0) 0 4 < 2147483648) ∧ (((F_M_put (F_MP n9 0 (z_up wu 0 3 ((wu 0 3) + 1))) 4 0) 0 4 = (-1) → (P_M_look (F_M_put (F_MP n9 0 (z_up wu 0 3 ((wu 0 3) + 1))) 4 0)) ∧ (PL_M_term_21x2 w (F_MP n9) (P_MP n9) m9 ((F_M_look (F_M_put (F_MP n9 0 (z_up wu 0 3 ((wu 0 3) + 1))) 4 0)).1) ((F_M_look (F_M_put (F_MP n9 0 (z_up wu 0 3 ((wu 0 3) + 1))) 4 0)).2))) ∧ (¬ ((F_M_put (F_MP n9 0 (z_up wu 0 3 ((wu 0 3) + 1))) 4 0) 0 4 = (-1)) → PL_M_term_21x2 w (F_MP n9) (P_MP n9) m9 (-1) (F_M_put (F_MP n9 0 (z_up wu 0 3 ((wu 0 3) + 1))) 4 0)))) ∧ (¬ (u1 = 42) → (P_M_put (F_MP n9 0 (z_up wu 0 3 ((wu 0 3) + 1))) 5 0) ∧ (-2147483648 ≤ (F_M_put (F_MP n9 0 (z_up wu 0 3 ((wu 0 3) + 1))) 5 0) 0 4 ∧ (F_M_put (F_MP n9 0 (z_up wu 0 3 ((wu 0 3) + 1))) 5 0) 0 4 < 2147483648) ∧ (((F_M_put (F_MP n9 0 (z_up wu 0 3 ((wu 0 3) + 1))) 5 0) 0 4 = (-1) → (P_M_look (F_M_put (F_MP n9 0 (z_up wu 0 3 ((wu 0 3) + 1))) 5 0)) ∧ (PL_M_term_21x2 w (F_MP n9) (P_MP n9) m9 ((F_M_look (F_M_put (F_MP n9 0 (z_up wu 0 3 ((wu 0 3) + 1))) 5 0)).1) ((F_M_look (F_M_put (F_MP n9 0 (z_up wu 0 3 ((wu 0 3) + 1))) 5 0)).2))) ∧ (¬ ((F_M_put (F_MP n9 0 (z_up wu 0 3 ((wu 0 3) + 1))) 5 0) 0 4 = (-1)) → PL_M_term_21x2 w (F_MP n9) (P_MP n9) m9 (-1) (F_M_put (F_MP n9 0 (z_up wu 0 3 ((wu 0 3) + 1))) 5 0)))))) ∧ (¬ (u1 = 42) → (u1 = 47 → (P_MP n9 0 (z_up wu 0 3 ((wu 0 3) + 1))) ∧ ((u1 = 42 → (P_M_put (F_MP n9 0 (z_up wu 0 3 ((wu 0 3) + 1))) 4 0) ∧ (-2147483648 ≤ (F_M_put (F_MP n9 0 (z_up wu 0 3 ((wu 0 3) + 1))) 4 0) 0 4 ∧ (F_M_put (F_MP n9 0 (z_up wu 0 3 ((wu 0 3) + 1))) 4 0) 0 4 < 2147483648) ∧ (((F_M_put (F_MP n9 0 (z_up wu 0 3 ((wu 0 3) + 1))) 4 0) 0 4 = (-1) → (P_M_look (F_M_put (F_MP n9 0 (z_up wu 0 3 ((wu 0 3) + 1))) 4 0)) ∧ (PL_M_term_21x2 w (F_MP n9) (P_MP n9) m9 ((F_M_look (F_M_put (F_MP n9 0 (z_up wu 0 3 ((wu 0 3) + 1))) 4 0)).1) ((F_M_look (F_M_put (F_MP n9 0 (z_up wu 0 3 ((wu 0 3) + 1))) 4 0)).2))) ∧ (¬ ((F_M_put (F_MP n9 0 (z_up wu 0 3 ((wu 0 3) + 1))) 4 0) 0 4 = (-1)) → PL_M_term_21x2 w (F_MP n9) (P_MP n9) m9 (-1) (F_M_put (F_MP n9 0 (z_up wu 0 3 ((wu 0 3) + 1))) 4 0)))) ∧ (¬ (u1 = 42) → (P_M_put (F_MP n9 0 (z_up wu 0 3 ((wu 0 3) + 1))) 5 0) ∧ (-2147483648 ≤ (F_M_put (F_MP n9 0 (z_up wu 0 3 ((wu 0 3) + 1))) 5 0) 0 4 ∧ (F_M_put (F_MP n9 0 (z_up wu 0 3 ((wu 0 3) + 1))) 5 0) 0 4 < 2147483648) ∧ (((F_M_put (F_MP n9 0 (z_up wu 0 3 ((wu 0 3) + 1))) 5 0) 0 4 = (-1) → (P_M_look (F_M_put (F_MP n9 0 (z_up wu 0 3 ((wu 0 3) + 1))) 5 0)) ∧ (PL_M_term_21x2 w (F_MP n9) (P_MP n9) m9 ((F_M_look (F_M_put (F_MP n9 0 (z_up wu 0 3 ((wu 0 3) + 1))) 5 0)).1) ((F_M_look (F_M_put (F_MP n9 0 (z_up wu 0 3 ((wu 0 3) + 1))) 5 0)).2))) ∧ (¬ ((F_M_put (F_MP n9 0 (z_up wu 0 3 ((wu 0 3) + 1))) 5 0) 0 4 = (-1)) → PL_M_term_21x2 w (F_MP n9) (P_MP n9) m9 (-1) (F_M_put (F_MP n9 0 (z_up wu 0 3 ((wu 0 3) + 1))) 5 0)))))) ∧ (¬ (u1 = 47) → True))) := h
        have k : Q none (if u1 = 42 then if u1 = 42 then if (F_M_put (F_MP n9 0 (z_up wu 0 3 ((wu 0 3) + 1))) 4 0) 0 4 = (-1) then L_M_term_21x2 w (F_MP n9) m9 ((F_M_look (F_M_put (F_MP n9 0 (z_up wu 0 3 ((wu 0 3) + 1))) 4 0)).1) ((F_M_look (F_M_put (F_MP n9 0 (z_up wu 0 3 ((wu 0 3) + 1))) 4 0)).2) else L_M_term_21x2 w (F_MP n9) m9 (-1) (F_M_put (F_MP n9 0 (z_up wu 0 3 ((wu 0 3) + 1))) 4 0) else if (F_M_put (F_MP n9 0 (z_up wu 0 3 ((wu 0 3) + 1))) 5 0) 0 4 = (-1) then L_M_term_21x2 w (F_MP n9) m9 ((F_M_look (F_M_put (F_MP n9 0 (z_up wu 0 3 ((wu 0 3) + 1))) 5 0)).1) ((F_M_look (F_M_put (F_MP n9 0 (z_up wu 0 3 ((wu 0 3) + 1))) 5 0)).2) else L_M_term_21x2 w (F_MP n9) m9 (-1) (F_M_put (F_MP n9 0 (z_up wu 0 3 ((wu 0 3) + 1))) 5 0) else if u1 = 47 then if u1 = 42 then if (F_M_put (F_MP n9 0 (z_up wu 0 3 ((wu 0 3) + 1))) 4 0) 0 4 = (-1) then L_M_term_21x2 w (F_MP n9) m9 ((F_M_look (F_M_put (F_MP n9 0 (z_up wu 0 3 ((wu 0 3) + 1))) 4 0)).1) ((F_M_look (F_M_put (F_MP n9 0 (z_up wu 0 3 ((wu 0 3) + 1))) 4 0)).2) else L_M_term_21x2 w (F_MP n9) m9 (-1) (F_M_put (F_MP n9 0 (z_up wu 0 3 ((wu 0 3) + 1))) 4 0) else if (F_M_put (F_MP n9 0 (z_up wu 0 3 ((wu 0 3) + 1))) 5 0) 0 4 = (-1) then L_M_term_21x2 w (F_MP n9) m9 ((F_M_look (F_M_put (F_MP n9 0 (z_up wu 0 3 ((wu 0 3) + 1))) 5 0)).1) ((F_M_look (F_M_put (F_MP n9 0 (z_up wu 0 3 ((wu 0 3) + 1))) 5 0)).2) else L_M_term_21x2 w (F_MP n9) m9 (-1) (F_M_put (F_MP n9 0 (z_up wu 0 3 ((wu 0 3) + 1))) 5 0) else wu) := k
        refine z_iload_n (pc' := 22) 1 rfl rfl dX12_term_21 rfl ?_
        refine z_bipush (pc' := 24) (by decide) dX12_term_22 rfl ?_
        obtain ⟨r49, h⟩ := h
        refine z_icmp_eq 33 dX12_term_24 (by decide) (pc' := 27) rfl r49 (by decide) (fun c => ?_) (fun c => ?_)
        · have h := h.1 c
          rw [if_pos c] at k
          refine z_aload_n (pc' := 34) 0 rfl rfl dX12_term_33 rfl ?_
          refine z_dup (pc' := 35) rfl dX12_term_34 rfl ?_
          refine z_getI2 (v := wu 0 3) (pc' := 38) g_X12_102 (by decide) rfl rfl rfl dX12_term_35 rfl ?_
          refine z_iconst (pc' := 39) dX12_term_38 rfl ?_
          refine z_iadd (pc' := 40) dX12_term_39 rfl ?_
          refine z_putI (pc' := 43) p_X12_102 (by decide) rfl rfl rfl rfl dX12_term_40 rfl ?_
          refine z_aload_n (pc' := 44) 0 rfl rfl dX12_term_43 rfl ?_
          refine z_invV (as := []) (st := []) (C := m_X12_atom) (fs := [0, 3, 0, 0, 0, 0, 4, 5, 6, 7, 8, 9, 10, 0, 0, 11, 12, 13, 14, 15, 16, 0, 0, 0, 17, 18, 19, 20, 0, 0, 0, 21, 22, 0, 0, 23, 0, 1, 24, 0, 0, 25, 26, 0, 27, 0]) (pc' := 47) dX12_term_44 rfl t_7_64 k_X12_atom rfl (by decide) rfl rfl rfl rfl (Nat.le_of_ble_eq_true rfl) ?_
          obtain ⟨r50, h⟩ := h
          refine z_dcast (d' := d + n9 + 3) (by omega) (ihr.1 r50 ?_)
          show z_Wp m_X12_term _ 47 [(0, zR 0), (1, zI u1)] [] (F_MP n9 0 (z_up wu 0 3 ((wu 0 3) + 1))) _
          refine z_aload_n (pc' := 48) 0 rfl rfl dX12_term_47 rfl ?_
          refine z_iload_n (pc' := 49) 1 rfl rfl dX12_term_48 rfl ?_
          refine z_bipush (pc' := 51) (by decide) dX12_term_49 rfl ?_
          refine z_icmp_ne 58 dX12_term_51 (by decide) (pc' := 54) rfl r49 (by decide) (fun c => ?_) (fun c => ?_)
          · have h := h.2 c
            rw [if_neg c] at k
            refine z_iconst (pc' := 59) dX12_term_58 rfl ?_
            refine z_iconst (pc' := 60) dX12_term_59 rfl ?_
            refine z_invV (as := [zI 5, zI 0]) (st := []) (C := m_X12_put) (fs := [0, 3, 0, 0, 0, 0, 4, 5, 6, 7, 8, 9, 10, 0, 0, 11, 12, 13, 14, 15, 16, 0, 0, 0, 17, 18, 19, 20, 0, 0, 0, 21, 22, 0, 0, 23, 0, 1, 24, 0, 0, 25, 26, 0, 27, 0]) (pc' := 63) dX12_term_60 rfl t_7_48 k_X12_put rfl (by decide) rfl rfl rfl rfl (Nat.le_of_ble_eq_true rfl) ?_
            obtain ⟨r51, h⟩ := h
            refine c_M_put r51 ?_
            show z_Wp m_X12_term _ 63 [(0, zR 0), (1, zI u1)] [] (F_M_put (F_MP n9 0 (z_up wu 0 3 ((wu 0 3) + 1))) 5 0) _
            refine z_aload_n (pc' := 64) 0 rfl rfl dX12_term_63 rfl ?_
            refine z_getI2 (v := (F_M_put (F_MP n9 0 (z_up wu 0 3 ((wu 0 3) + 1))) 5 0) 0 4) (pc' := 67) g_X12_109 (by decide) rfl rfl rfl dX12_term_64 rfl ?_
            refine z_iconst (pc' := 68) dX12_term_67 rfl ?_
            obtain ⟨r52, h⟩ := h
            refine z_icmp_ne 78 dX12_term_68 (by decide) (pc' := 71) rfl r52 (by decide) (fun c => ?_) (fun c => ?_)
            · have h := h.2 c
              rw [if_neg c] at k
              refine z_iconst (pc' := 79) dX12_term_78 rfl ?_
              refine z_istore_n (pc' := 80) (ls' := [(0, zR 0), (1, zI (-1))]) rfl (by decide) rfl rfl dX12_term_79 rfl ?_
              refine z_goto 21 dX12_term_80 (by decide) ?_
              exact ih _ _ h k
            · have h := h.1 c
              rw [if_pos c] at k
              refine z_aload_n (pc' := 72) 0 rfl rfl dX12_term_71 rfl ?_
              refine z_invV (as := []) (st := []) (C := m_X12_look) (fs := [0, 3, 0, 0, 0, 0, 4, 5, 6, 7, 8, 9, 10, 0, 0, 11, 12, 13, 14, 15, 16, 0, 0, 0, 17, 18, 19, 20, 0, 0, 0, 21, 22, 0, 0, 23, 0, 1, 24, 0, 0, 25, 26, 0, 27, 0]) (pc' := 75) dX12_term_72 rfl t_6_218 k_X12_look rfl (by decide) rfl rfl rfl rfl (Nat.le_of_ble_eq_true rfl) ?_
              obtain ⟨r53, h⟩ := h
              refine c_M_look r53 ?_
              show z_Wp m_X12_term _ 75 [(0, zR 0), (1, zI u1)] [zI ((F_M_look (F_M_put (F_MP n9 0 (z_up wu 0 3 ((wu 0 3) + 1))) 5 0)).1)] ((F_M_look (F_M_put (F_MP n9 0 (z_up wu 0 3 ((wu 0 3) + 1))) 5 0)).2) _
              refine z_goto 79 dX12_term_75 (by decide) ?_
              refine z_istore_n (pc' := 80) (ls' := [(0, zR 0), (1, zI ((F_M_look (F_M_put (F_MP n9 0 (z_up wu 0 3 ((wu 0 3) + 1))) 5 0)).1))]) rfl (by decide) rfl rfl dX12_term_79 rfl ?_
              refine z_goto 21 dX12_term_80 (by decide) ?_
              exact ih _ _ h k
          · have h := h.1 c
            rw [if_pos c] at k
            refine z_iconst (pc' := 55) dX12_term_54 rfl ?_
            refine z_goto 59 dX12_term_55 (by decide) ?_
            refine z_iconst (pc' := 60) dX12_term_59 rfl ?_
            refine z_invV (as := [zI 4, zI 0]) (st := []) (C := m_X12_put) (fs := [0, 3, 0, 0, 0, 0, 4, 5, 6, 7, 8, 9, 10, 0, 0, 11, 12, 13, 14, 15, 16, 0, 0, 0, 17, 18, 19, 20, 0, 0, 0, 21, 22, 0, 0, 23, 0, 1, 24, 0, 0, 25, 26, 0, 27, 0]) (pc' := 63) dX12_term_60 rfl t_7_48 k_X12_put rfl (by decide) rfl rfl rfl rfl (Nat.le_of_ble_eq_true rfl) ?_
            obtain ⟨r54, h⟩ := h
            refine c_M_put r54 ?_
            show z_Wp m_X12_term _ 63 [(0, zR 0), (1, zI u1)] [] (F_M_put (F_MP n9 0 (z_up wu 0 3 ((wu 0 3) + 1))) 4 0) _
            refine z_aload_n (pc' := 64) 0 rfl rfl dX12_term_63 rfl ?_
            refine z_getI2 (v := (F_M_put (F_MP n9 0 (z_up wu 0 3 ((wu 0 3) + 1))) 4 0) 0 4) (pc' := 67) g_X12_109 (by decide) rfl rfl rfl dX12_term_64 rfl ?_
            refine z_iconst (pc' := 68) dX12_term_67 rfl ?_
            obtain ⟨r55, h⟩ := h
            refine z_icmp_ne 78 dX12_term_68 (by decide) (pc' := 71) rfl r55 (by decide) (fun c => ?_) (fun c => ?_)
            · have h := h.2 c
              rw [if_neg c] at k
              refine z_iconst (pc' := 79) dX12_term_78 rfl ?_
              refine z_istore_n (pc' := 80) (ls' := [(0, zR 0), (1, zI (-1))]) rfl (by decide) rfl rfl dX12_term_79 rfl ?_
              refine z_goto 21 dX12_term_80 (by decide) ?_
              exact ih _ _ h k
            · have h := h.1 c
              rw [if_pos c] at k
              refine z_aload_n (pc' := 72) 0 rfl rfl dX12_term_71 rfl ?_
              refine z_invV (as := []) (st := []) (C := m_X12_look) (fs := [0, 3, 0, 0, 0, 0, 4, 5, 6, 7, 8, 9, 10, 0, 0, 11, 12, 13, 14, 15, 16, 0, 0, 0, 17, 18, 19, 20, 0, 0, 0, 21, 22, 0, 0, 23, 0, 1, 24, 0, 0, 25, 26, 0, 27, 0]) (pc' := 75) dX12_term_72 rfl t_6_218 k_X12_look rfl (by decide) rfl rfl rfl rfl (Nat.le_of_ble_eq_true rfl) ?_
              obtain ⟨r56, h⟩ := h
              refine c_M_look r56 ?_
              show z_Wp m_X12_term _ 75 [(0, zR 0), (1, zI u1)] [zI ((F_M_look (F_M_put (F_MP n9 0 (z_up wu 0 3 ((wu 0 3) + 1))) 4 0)).1)] ((F_M_look (F_M_put (F_MP n9 0 (z_up wu 0 3 ((wu 0 3) + 1))) 4 0)).2) _
              refine z_goto 79 dX12_term_75 (by decide) ?_
              refine z_istore_n (pc' := 80) (ls' := [(0, zR 0), (1, zI ((F_M_look (F_M_put (F_MP n9 0 (z_up wu 0 3 ((wu 0 3) + 1))) 4 0)).1))]) rfl (by decide) rfl rfl dX12_term_79 rfl ?_
              refine z_goto 21 dX12_term_80 (by decide) ?_
              exact ih _ _ h k
        · have h := h.2 c
          rw [if_neg c] at k
          refine z_iload_n (pc' := 28) 1 rfl rfl dX12_term_27 rfl ?_
          refine z_bipush (pc' := 30) (by decide) dX12_term_28 rfl ?_
          refine z_icmp_ne 83 dX12_term_30 (by decide) (pc' := 33) rfl r49 (by decide) (fun c => ?_) (fun c => ?_)
          · have h := h.2 c
            rw [if_neg c] at k
            refine z_vret rfl dX12_term_83 ?_
            try dsimp only at k
            exact k
          · have h := h.1 c
            rw [if_pos c] at k
            refine z_aload_n (pc' := 34) 0 rfl rfl dX12_term_33 rfl ?_
            refine z_dup (pc' := 35) rfl dX12_term_34 rfl ?_
            refine z_getI2 (v := wu 0 3) (pc' := 38) g_X12_102 (by decide) rfl rfl rfl dX12_term_35 rfl ?_
            refine z_iconst (pc' := 39) dX12_term_38 rfl ?_
            refine z_iadd (pc' := 40) dX12_term_39 rfl ?_
            refine z_putI (pc' := 43) p_X12_102 (by decide) rfl rfl rfl rfl dX12_term_40 rfl ?_
            refine z_aload_n (pc' := 44) 0 rfl rfl dX12_term_43 rfl ?_
            refine z_invV (as := []) (st := []) (C := m_X12_atom) (fs := [0, 3, 0, 0, 0, 0, 4, 5, 6, 7, 8, 9, 10, 0, 0, 11, 12, 13, 14, 15, 16, 0, 0, 0, 17, 18, 19, 20, 0, 0, 0, 21, 22, 0, 0, 23, 0, 1, 24, 0, 0, 25, 26, 0, 27, 0]) (pc' := 47) dX12_term_44 rfl t_7_64 k_X12_atom rfl (by decide) rfl rfl rfl rfl (Nat.le_of_ble_eq_true rfl) ?_
            obtain ⟨r57, h⟩ := h
            refine z_dcast (d' := d + n9 + 3) (by omega) (ihr.1 r57 ?_)
            show z_Wp m_X12_term _ 47 [(0, zR 0), (1, zI u1)] [] (F_MP n9 0 (z_up wu 0 3 ((wu 0 3) + 1))) _
            refine z_aload_n (pc' := 48) 0 rfl rfl dX12_term_47 rfl ?_
            refine z_iload_n (pc' := 49) 1 rfl rfl dX12_term_48 rfl ?_
            refine z_bipush (pc' := 51) (by decide) dX12_term_49 rfl ?_
            refine z_icmp_ne 58 dX12_term_51 (by decide) (pc' := 54) rfl r49 (by decide) (fun c => ?_) (fun c => ?_)
            · have h := h.2 c
              rw [if_neg c] at k
              refine z_iconst (pc' := 59) dX12_term_58 rfl ?_
              refine z_iconst (pc' := 60) dX12_term_59 rfl ?_
              refine z_invV (as := [zI 5, zI 0]) (st := []) (C := m_X12_put) (fs := [0, 3, 0, 0, 0, 0, 4, 5, 6, 7, 8, 9, 10, 0, 0, 11, 12, 13, 14, 15, 16, 0, 0, 0, 17, 18, 19, 20, 0, 0, 0, 21, 22, 0, 0, 23, 0, 1, 24, 0, 0, 25, 26, 0, 27, 0]) (pc' := 63) dX12_term_60 rfl t_7_48 k_X12_put rfl (by decide) rfl rfl rfl rfl (Nat.le_of_ble_eq_true rfl) ?_
              obtain ⟨r58, h⟩ := h
              refine c_M_put r58 ?_
              show z_Wp m_X12_term _ 63 [(0, zR 0), (1, zI u1)] [] (F_M_put (F_MP n9 0 (z_up wu 0 3 ((wu 0 3) + 1))) 5 0) _
              refine z_aload_n (pc' := 64) 0 rfl rfl dX12_term_63 rfl ?_
              refine z_getI2 (v := (F_M_put (F_MP n9 0 (z_up wu 0 3 ((wu 0 3) + 1))) 5 0) 0 4) (pc' := 67) g_X12_109 (by decide) rfl rfl rfl dX12_term_64 rfl ?_
              refine z_iconst (pc' := 68) dX12_term_67 rfl ?_
              obtain ⟨r59, h⟩ := h
              refine z_icmp_ne 78 dX12_term_68 (by decide) (pc' := 71) rfl r59 (by decide) (fun c => ?_) (fun c => ?_)
              · have h := h.2 c
                rw [if_neg c] at k
                refine z_iconst (pc' := 79) dX12_term_78 rfl ?_
                refine z_istore_n (pc' := 80) (ls' := [(0, zR 0), (1, zI (-1))]) rfl (by decide) rfl rfl dX12_term_79 rfl ?_
                refine z_goto 21 dX12_term_80 (by decide) ?_
                exact ih _ _ h k
              · have h := h.1 c
                rw [if_pos c] at k
                refine z_aload_n (pc' := 72) 0 rfl rfl dX12_term_71 rfl ?_
                refine z_invV (as := []) (st := []) (C := m_X12_look) (fs := [0, 3, 0, 0, 0, 0, 4, 5, 6, 7, 8, 9, 10, 0, 0, 11, 12, 13, 14, 15, 16, 0, 0, 0, 17, 18, 19, 20, 0, 0, 0, 21, 22, 0, 0, 23, 0, 1, 24, 0, 0, 25, 26, 0, 27, 0]) (pc' := 75) dX12_term_72 rfl t_6_218 k_X12_look rfl (by decide) rfl rfl rfl rfl (Nat.le_of_ble_eq_true rfl) ?_
                obtain ⟨r60, h⟩ := h
                refine c_M_look r60 ?_
                show z_Wp m_X12_term _ 75 [(0, zR 0), (1, zI u1)] [zI ((F_M_look (F_M_put (F_MP n9 0 (z_up wu 0 3 ((wu 0 3) + 1))) 5 0)).1)] ((F_M_look (F_M_put (F_MP n9 0 (z_up wu 0 3 ((wu 0 3) + 1))) 5 0)).2) _
                refine z_goto 79 dX12_term_75 (by decide) ?_
                refine z_istore_n (pc' := 80) (ls' := [(0, zR 0), (1, zI ((F_M_look (F_M_put (F_MP n9 0 (z_up wu 0 3 ((wu 0 3) + 1))) 5 0)).1))]) rfl (by decide) rfl rfl dX12_term_79 rfl ?_
                refine z_goto 21 dX12_term_80 (by decide) ?_
                exact ih _ _ h k
            · have h := h.1 c
              rw [if_pos c] at k
              refine z_iconst (pc' := 55) dX12_term_54 rfl ?_
              refine z_goto 59 dX12_term_55 (by decide) ?_
              refine z_iconst (pc' := 60) dX12_term_59 rfl ?_
              refine z_invV (as := [zI 4, zI 0]) (st := []) (C := m_X12_put) (fs := [0, 3, 0, 0, 0, 0, 4, 5, 6, 7, 8, 9, 10, 0, 0, 11, 12, 13, 14, 15, 16, 0, 0, 0, 17, 18, 19, 20, 0, 0, 0, 21, 22, 0, 0, 23, 0, 1, 24, 0, 0, 25, 26, 0, 27, 0]) (pc' := 63) dX12_term_60 rfl t_7_48 k_X12_put rfl (by decide) rfl rfl rfl rfl (Nat.le_of_ble_eq_true rfl) ?_
              obtain ⟨r61, h⟩ := h
              refine c_M_put r61 ?_
              show z_Wp m_X12_term _ 63 [(0, zR 0), (1, zI u1)] [] (F_M_put (F_MP n9 0 (z_up wu 0 3 ((wu 0 3) + 1))) 4 0) _
              refine z_aload_n (pc' := 64) 0 rfl rfl dX12_term_63 rfl ?_
              refine z_getI2 (v := (F_M_put (F_MP n9 0 (z_up wu 0 3 ((wu 0 3) + 1))) 4 0) 0 4) (pc' := 67) g_X12_109 (by decide) rfl rfl rfl dX12_term_64 rfl ?_
              refine z_iconst (pc' := 68) dX12_term_67 rfl ?_
              obtain ⟨r62, h⟩ := h
              refine z_icmp_ne 78 dX12_term_68 (by decide) (pc' := 71) rfl r62 (by decide) (fun c => ?_) (fun c => ?_)
              · have h := h.2 c
                rw [if_neg c] at k
                refine z_iconst (pc' := 79) dX12_term_78 rfl ?_
                refine z_istore_n (pc' := 80) (ls' := [(0, zR 0), (1, zI (-1))]) rfl (by decide) rfl rfl dX12_term_79 rfl ?_
                refine z_goto 21 dX12_term_80 (by decide) ?_
                exact ih _ _ h k
              · have h := h.1 c
                rw [if_pos c] at k
                refine z_aload_n (pc' := 72) 0 rfl rfl dX12_term_71 rfl ?_
                refine z_invV (as := []) (st := []) (C := m_X12_look) (fs := [0, 3, 0, 0, 0, 0, 4, 5, 6, 7, 8, 9, 10, 0, 0, 11, 12, 13, 14, 15, 16, 0, 0, 0, 17, 18, 19, 20, 0, 0, 0, 21, 22, 0, 0, 23, 0, 1, 24, 0, 0, 25, 26, 0, 27, 0]) (pc' := 75) dX12_term_72 rfl t_6_218 k_X12_look rfl (by decide) rfl rfl rfl rfl (Nat.le_of_ble_eq_true rfl) ?_
                obtain ⟨r63, h⟩ := h
                refine c_M_look r63 ?_
                show z_Wp m_X12_term _ 75 [(0, zR 0), (1, zI u1)] [zI ((F_M_look (F_M_put (F_MP n9 0 (z_up wu 0 3 ((wu 0 3) + 1))) 4 0)).1)] ((F_M_look (F_M_put (F_MP n9 0 (z_up wu 0 3 ((wu 0 3) + 1))) 4 0)).2) _
                refine z_goto 79 dX12_term_75 (by decide) ?_
                refine z_istore_n (pc' := 80) (ls' := [(0, zR 0), (1, zI ((F_M_look (F_M_put (F_MP n9 0 (z_up wu 0 3 ((wu 0 3) + 1))) 4 0)).1))]) rfl (by decide) rfl rfl dX12_term_79 rfl ?_
                refine z_goto 21 dX12_term_80 (by decide) ?_
                exact ih _ _ h k
    exact hl 300 _ _ h k
set_option maxHeartbeats 2000000 in
set_option maxRecDepth 4000 in
theorem st_M_sum {d n9 : Nat} (ihr : S_MP d n9) : S_M_sum d (n9 + 1) := by
  intro w  Q h k
  have eh : P_MP (n9 + 1) 2 w  = ((P_MP n9 1 w) ∧ (-2147483648 ≤ (F_MP n9 1 w) 0 4 ∧ (F_MP n9 1 w) 0 4 < 2147483648) ∧ (((F_MP n9 1 w) 0 4 = (-1) → (P_M_look (F_MP n9 1 w)) ∧ (PL_M_sum_21x2 w (F_MP n9) (P_MP n9) 300 ((F_M_look (F_MP n9 1 w)).1) ((F_M_look (F_MP n9 1 w)).2))) ∧ (¬ ((F_MP n9 1 w) 0 4 = (-1)) → PL_M_sum_21 w (F_MP n9) (P_MP n9) 300 (-1) (F_MP n9 1 w)))) := by rw [P_MP]
  have ek : F_MP (n9 + 1) 2 w  = (if (F_MP n9 1 w) 0 4 = (-1) then L_M_sum_21x2 w (F_MP n9) 300 ((F_M_look (F_MP n9 1 w)).1) ((F_M_look (F_MP n9 1 w)).2) else L_M_sum_21 w (F_MP n9) 300 (-1) (F_MP n9 1 w)) := by rw [F_MP]
  rw [eh] at h
  rw [ek] at k
  clear eh ek
  refine z_enter rfl (Nat.le_of_ble_eq_true rfl) ?_
  show z_Wp m_X12_sum _ 0 [(0, zR 0)] [] w _
  refine z_aload_n (pc' := 1) 0 rfl rfl dX12_sum_0 rfl ?_
  refine z_invV (as := []) (st := []) (C := m_X12_term) (fs := [0, 3, 0, 0, 0, 0, 4, 5, 6, 7, 8, 9, 10, 0, 0, 11, 12, 13, 14, 15, 16, 0, 0, 0, 17, 18, 19, 20, 0, 0, 0, 21, 22, 0, 0, 23, 0, 1, 24, 0, 0, 25, 26, 0, 27, 0]) (pc' := 4) dX12_sum_1 rfl t_7_60 k_X12_term rfl (by decide) rfl rfl rfl rfl (Nat.le_of_ble_eq_true rfl) ?_
  obtain ⟨r1, h⟩ := h
  refine z_dcast (d' := d + n9 + 3) (by omega) (ihr.2.1 r1 ?_)
  show z_Wp m_X12_sum _ 4 [(0, zR 0)] [] (F_MP n9 1 w) _
  refine z_aload_n (pc' := 5) 0 rfl rfl dX12_sum_4 rfl ?_
  refine z_getI2 (v := (F_MP n9 1 w) 0 4) (pc' := 8) g_X12_109 (by decide) rfl rfl rfl dX12_sum_5 rfl ?_
  refine z_iconst (pc' := 9) dX12_sum_8 rfl ?_
  obtain ⟨r2, h⟩ := h
  refine z_icmp_ne 19 dX12_sum_9 (by decide) (pc' := 12) rfl r2 (by decide) (fun c => ?_) (fun c => ?_)
  · have h := h.2 c
    rw [if_neg c] at k
    refine z_iconst (pc' := 20) dX12_sum_19 rfl ?_
    refine z_istore_n (pc' := 21) (ls' := [(0, zR 0), (1, zI (-1))]) rfl (by decide) rfl rfl dX12_sum_20 rfl ?_
    have hl : ∀ (m9 : Nat) (u1 : Int) (wu : z_Wd), PL_M_sum_21 w (F_MP n9) (P_MP n9) m9 u1 wu → Q none (L_M_sum_21 w (F_MP n9) m9 u1 wu) → z_Wp m_X12_sum (d + (n9 + 1) + 3) 21 [(0, zR 0), (1, zI u1)] [] wu Q := by
      clear h k
      intro m9
      induction m9 with
      | zero => intro u1 wu h k; exact False.elim h
      | succ m9 ih =>
        intro u1 wu h k
        have h : (-2147483648 ≤ u1 ∧ u1 < 2147483648) ∧ ((u1 = 43 → (P_MP n9 1 (z_up wu 0 3 ((wu 0 3) + 1))) ∧ ((u1 = 43 → (P_M_put (F_MP n9 1 (z_up wu 0 3 ((wu 0 3) + 1))) 2 0) ∧ (-2147483648 ≤ (F_M_put (F_MP n9 1 (z_up wu 0 3 ((wu 0 3) + 1))) 2 0) 0 4 ∧ (F_M_put (F_MP n9 1 (z_up wu 0 3 ((wu 0 3) + 1))) 2 0) 0 4 < 2147483648) ∧ (((F_M_put (F_MP n9 1 (z_up wu 0 3 ((wu 0 3) + 1))) 2 0) 0 4 = (-1) → (P_M_look (F_M_put (F_MP n9 1 (z_up wu 0 3 ((wu 0 3) + 1))) 2 0)) ∧ (PL_M_sum_21 w (F_MP n9) (P_MP n9) m9 ((F_M_look (F_M_put (F_MP n9 1 (z_up wu 0 3 ((wu 0 3) + 1))) 2 0)).1) ((F_M_look (F_M_put (F_MP n9 1 (z_up wu 0 3 ((wu 0 3) + 1))) 2 0)).2))) ∧ (¬ ((F_M_put (F_MP n9 1 (z_up wu 0 3 ((wu 0 3) + 1))) 2 0) 0 4 = (-1)) → PL_M_sum_21 w (F_MP n9) (P_MP n9) m9 (-1) (F_M_put (F_MP n9 1 (z_up wu 0 3 ((wu 0 3) + 1))) 2 0)))) ∧ (¬ (u1 = 43) → (P_M_put (F_MP n9 1 (z_up wu 0 3 ((wu 0 3) + 1))) 3 0) ∧ (-2147483648 ≤ (F_M_put (F_MP n9 1 (z_up wu 0 3 ((wu 0 3) + 1))) 3 0) 0 4 ∧ (F_M_put (F_MP n9 1 (z_up wu 0 3 ((wu 0 3) + 1))) 3 0) 0 4 < 2147483648) ∧ (((F_M_put (F_MP n9 1 (z_up wu 0 3 ((wu 0 3) + 1))) 3 0) 0 4 = (-1) → (P_M_look (F_M_put (F_MP n9 1 (z_up wu 0 3 ((wu 0 3) + 1))) 3 0)) ∧ (PL_M_sum_21 w (F_MP n9) (P_MP n9) m9 ((F_M_look (F_M_put (F_MP n9 1 (z_up wu 0 3 ((wu 0 3) + 1))) 3 0)).1) ((F_M_look (F_M_put (F_MP n9 1 (z_up wu 0 3 ((wu 0 3) + 1))) 3 0)).2))) ∧ (¬ ((F_M_put (F_MP n9 1 (z_up wu 0 3 ((wu 0 3) + 1))) 3 0) 0 4 = (-1)) → PL_M_sum_21 w (F_MP n9) (P_MP n9) m9 (-1) (F_M_put (F_MP n9 1 (z_up wu 0 3 ((wu 0 3) + 1))) 3 0)))))) ∧ (¬ (u1 = 43) → (u1 = 45 → (P_MP n9 1 (z_up wu 0 3 ((wu 0 3) + 1))) ∧ ((u1 = 43 → (P_M_put (F_MP n9 1 (z_up wu 0 3 ((wu 0 3) + 1))) 2 0) ∧ (-2147483648 ≤ (F_M_put (F_MP n9 1 (z_up wu 0 3 ((wu 0 3) + 1))) 2 0) 0 4 ∧ (F_M_put (F_MP n9 1 (z_up wu 0 3 ((wu 0 3) + 1))) 2 0) 0 4 < 2147483648) ∧ (((F_M_put (F_MP n9 1 (z_up wu 0 3 ((wu 0 3) + 1))) 2 0) 0 4 = (-1) → (P_M_look (F_M_put (F_MP n9 1 (z_up wu 0 3 ((wu 0 3) + 1))) 2 0)) ∧ (PL_M_sum_21 w (F_MP n9) (P_MP n9) m9 ((F_M_look (F_M_put (F_MP n9 1 (z_up wu 0 3 ((wu 0 3) + 1))) 2 0)).1) ((F_M_look (F_M_put (F_MP n9 1 (z_up wu 0 3 ((wu 0 3) + 1))) 2 0)).2))) ∧ (¬ ((F_M_put (F_MP n9 1 (z_up wu 0 3 ((wu 0 3) + 1))) 2 0) 0 4 = (-1)) → PL_M_sum_21 w (F_MP n9) (P_MP n9) m9 (-1) (F_M_put (F_MP n9 1 (z_up wu 0 3 ((wu 0 3) + 1))) 2 0)))) ∧ (¬ (u1 = 43) → (P_M_put (F_MP n9 1 (z_up wu 0 3 ((wu 0 3) + 1))) 3 0) ∧ (-2147483648 ≤ (F_M_put (F_MP n9 1 (z_up wu 0 3 ((wu 0 3) + 1))) 3 0) 0 4 ∧ (F_M_put (F_MP n9 1 (z_up wu 0 3 ((wu 0 3) + 1))) 3 0) 0 4 < 2147483648) ∧ (((F_M_put (F_MP n9 1 (z_up wu 0 3 ((wu 0 3) + 1))) 3 0) 0 4 = (-1) → (P_M_look (F_M_put (F_MP n9 1 (z_up wu 0 3 ((wu 0 3) + 1))) 3 0)) ∧ (PL_M_sum_21 w (F_MP n9) (P_MP n9) m9 ((F_M_look (F_M_put (F_MP n9 1 (z_up wu 0 3 ((wu 0 3) + 1))) 3 0)).1) ((F_M_look (F_M_put (F_MP n9 1 (z_up wu 0 3 ((wu 0 3) + 1))) 3 0)).2))) ∧ (¬ ((F_M_put (F_MP n9 1 (z_up wu 0 3 ((wu 0 3) + 1))) 3 0) 0 4 = (-1)) → PL_M_sum_21 w (F_MP n9) (P_MP n9) m9 (-1) (F_M_put (F_MP n9 1 (z_up wu 0 3 ((wu 0 3) + 1))) 3 0)))))) ∧ (¬ (u1 = 45) → True))) := h
        have k : Q none (if u1 = 43 then if u1 = 43 then if (F_M_put (F_MP n9 1 (z_up wu 0 3 ((wu 0 3) + 1))) 2 0) 0 4 = (-1) then L_M_sum_21 w (F_MP n9) m9 ((F_M_look (F_M_put (F_MP n9 1 (z_up wu 0 3 ((wu 0 3) + 1))) 2 0)).1) ((F_M_look (F_M_put (F_MP n9 1 (z_up wu 0 3 ((wu 0 3) + 1))) 2 0)).2) else L_M_sum_21 w (F_MP n9) m9 (-1) (F_M_put (F_MP n9 1 (z_up wu 0 3 ((wu 0 3) + 1))) 2 0) else if (F_M_put (F_MP n9 1 (z_up wu 0 3 ((wu 0 3) + 1))) 3 0) 0 4 = (-1) then L_M_sum_21 w (F_MP n9) m9 ((F_M_look (F_M_put (F_MP n9 1 (z_up wu 0 3 ((wu 0 3) + 1))) 3 0)).1) ((F_M_look (F_M_put (F_MP n9 1 (z_up wu 0 3 ((wu 0 3) + 1))) 3 0)).2) else L_M_sum_21 w (F_MP n9) m9 (-1) (F_M_put (F_MP n9 1 (z_up wu 0 3 ((wu 0 3) + 1))) 3 0) else if u1 = 45 then if u1 = 43 then if (F_M_put (F_MP n9 1 (z_up wu 0 3 ((wu 0 3) + 1))) 2 0) 0 4 = (-1) then L_M_sum_21 w (F_MP n9) m9 ((F_M_look (F_M_put (F_MP n9 1 (z_up wu 0 3 ((wu 0 3) + 1))) 2 0)).1) ((F_M_look (F_M_put (F_MP n9 1 (z_up wu 0 3 ((wu 0 3) + 1))) 2 0)).2) else L_M_sum_21 w (F_MP n9) m9 (-1) (F_M_put (F_MP n9 1 (z_up wu 0 3 ((wu 0 3) + 1))) 2 0) else if (F_M_put (F_MP n9 1 (z_up wu 0 3 ((wu 0 3) + 1))) 3 0) 0 4 = (-1) then L_M_sum_21 w (F_MP n9) m9 ((F_M_look (F_M_put (F_MP n9 1 (z_up wu 0 3 ((wu 0 3) + 1))) 3 0)).1) ((F_M_look (F_M_put (F_MP n9 1 (z_up wu 0 3 ((wu 0 3) + 1))) 3 0)).2) else L_M_sum_21 w (F_MP n9) m9 (-1) (F_M_put (F_MP n9 1 (z_up wu 0 3 ((wu 0 3) + 1))) 3 0) else wu) := k
        refine z_iload_n (pc' := 22) 1 rfl rfl dX12_sum_21 rfl ?_
        refine z_bipush (pc' := 24) (by decide) dX12_sum_22 rfl ?_
        obtain ⟨r18, h⟩ := h
        refine z_icmp_eq 33 dX12_sum_24 (by decide) (pc' := 27) rfl r18 (by decide) (fun c => ?_) (fun c => ?_)
        · have h := h.1 c
          rw [if_pos c] at k
          refine z_aload_n (pc' := 34) 0 rfl rfl dX12_sum_33 rfl ?_
          refine z_dup (pc' := 35) rfl dX12_sum_34 rfl ?_
          refine z_getI2 (v := wu 0 3) (pc' := 38) g_X12_102 (by decide) rfl rfl rfl dX12_sum_35 rfl ?_
          refine z_iconst (pc' := 39) dX12_sum_38 rfl ?_
          refine z_iadd (pc' := 40) dX12_sum_39 rfl ?_
          refine z_putI (pc' := 43) p_X12_102 (by decide) rfl rfl rfl rfl dX12_sum_40 rfl ?_
          refine z_aload_n (pc' := 44) 0 rfl rfl dX12_sum_43 rfl ?_
          refine z_invV (as := []) (st := []) (C := m_X12_term) (fs := [0, 3, 0, 0, 0, 0, 4, 5, 6, 7, 8, 9, 10, 0, 0, 11, 12, 13, 14, 15, 16, 0, 0, 0, 17, 18, 19, 20, 0, 0, 0, 21, 22, 0, 0, 23, 0, 1, 24, 0, 0, 25, 26, 0, 27, 0]) (pc' := 47) dX12_sum_44 rfl t_7_60 k_X12_term rfl (by decide) rfl rfl rfl rfl (Nat.le_of_ble_eq_true rfl) ?_
          obtain ⟨r19, h⟩ := h
          refine z_dcast (d' := d + n9 + 3) (by omega) (ihr.2.1 r19 ?_)
          show z_Wp m_X12_sum _ 47 [(0, zR 0), (1, zI u1)] [] (F_MP n9 1 (z_up wu 0 3 ((wu 0 3) + 1))) _
          refine z_aload_n (pc' := 48) 0 rfl rfl dX12_sum_47 rfl ?_
          refine z_iload_n (pc' := 49) 1 rfl rfl dX12_sum_48 rfl ?_
          refine z_bipush (pc' := 51) (by decide) dX12_sum_49 rfl ?_
          refine z_icmp_ne 58 dX12_sum_51 (by decide) (pc' := 54) rfl r18 (by decide) (fun c => ?_) (fun c => ?_)
          · have h := h.2 c
            rw [if_neg c] at k
            refine z_iconst (pc' := 59) dX12_sum_58 rfl ?_
            refine z_iconst (pc' := 60) dX12_sum_59 rfl ?_
            refine z_invV (as := [zI 3, zI 0]) (st := []) (C := m_X12_put) (fs := [0, 3, 0, 0, 0, 0, 4, 5, 6, 7, 8, 9, 10, 0, 0, 11, 12, 13, 14, 15, 16, 0, 0, 0, 17, 18, 19, 20, 0, 0, 0, 21, 22, 0, 0, 23, 0, 1, 24, 0, 0, 25, 26, 0, 27, 0]) (pc' := 63) dX12_sum_60 rfl t_7_48 k_X12_put rfl (by decide) rfl rfl rfl rfl (Nat.le_of_ble_eq_true rfl) ?_
            obtain ⟨r20, h⟩ := h
            refine c_M_put r20 ?_
            show z_Wp m_X12_sum _ 63 [(0, zR 0), (1, zI u1)] [] (F_M_put (F_MP n9 1 (z_up wu 0 3 ((wu 0 3) + 1))) 3 0) _
            refine z_aload_n (pc' := 64) 0 rfl rfl dX12_sum_63 rfl ?_
            refine z_getI2 (v := (F_M_put (F_MP n9 1 (z_up wu 0 3 ((wu 0 3) + 1))) 3 0) 0 4) (pc' := 67) g_X12_109 (by decide) rfl rfl rfl dX12_sum_64 rfl ?_
            refine z_iconst (pc' := 68) dX12_sum_67 rfl ?_
            obtain ⟨r21, h⟩ := h
            refine z_icmp_ne 78 dX12_sum_68 (by decide) (pc' := 71) rfl r21 (by decide) (fun c => ?_) (fun c => ?_)
            · have h := h.2 c
              rw [if_neg c] at k
              refine z_iconst (pc' := 79) dX12_sum_78 rfl ?_
              refine z_istore_n (pc' := 80) (ls' := [(0, zR 0), (1, zI (-1))]) rfl (by decide) rfl rfl dX12_sum_79 rfl ?_
              refine z_goto 21 dX12_sum_80 (by decide) ?_
              exact ih _ _ h k
            · have h := h.1 c
              rw [if_pos c] at k
              refine z_aload_n (pc' := 72) 0 rfl rfl dX12_sum_71 rfl ?_
              refine z_invV (as := []) (st := []) (C := m_X12_look) (fs := [0, 3, 0, 0, 0, 0, 4, 5, 6, 7, 8, 9, 10, 0, 0, 11, 12, 13, 14, 15, 16, 0, 0, 0, 17, 18, 19, 20, 0, 0, 0, 21, 22, 0, 0, 23, 0, 1, 24, 0, 0, 25, 26, 0, 27, 0]) (pc' := 75) dX12_sum_72 rfl t_6_218 k_X12_look rfl (by decide) rfl rfl rfl rfl (Nat.le_of_ble_eq_true rfl) ?_
              obtain ⟨r22, h⟩ := h
              refine c_M_look r22 ?_
              show z_Wp m_X12_sum _ 75 [(0, zR 0), (1, zI u1)] [zI ((F_M_look (F_M_put (F_MP n9 1 (z_up wu 0 3 ((wu 0 3) + 1))) 3 0)).1)] ((F_M_look (F_M_put (F_MP n9 1 (z_up wu 0 3 ((wu 0 3) + 1))) 3 0)).2) _
              refine z_goto 79 dX12_sum_75 (by decide) ?_
              refine z_istore_n (pc' := 80) (ls' := [(0, zR 0), (1, zI ((F_M_look (F_M_put (F_MP n9 1 (z_up wu 0 3 ((wu 0 3) + 1))) 3 0)).1))]) rfl (by decide) rfl rfl dX12_sum_79 rfl ?_
              refine z_goto 21 dX12_sum_80 (by decide) ?_
              exact ih _ _ h k
          · have h := h.1 c
            rw [if_pos c] at k
            refine z_iconst (pc' := 55) dX12_sum_54 rfl ?_
            refine z_goto 59 dX12_sum_55 (by decide) ?_
            refine z_iconst (pc' := 60) dX12_sum_59 rfl ?_
            refine z_invV (as := [zI 2, zI 0]) (st := []) (C := m_X12_put) (fs := [0, 3, 0, 0, 0, 0, 4, 5, 6, 7, 8, 9, 10, 0, 0, 11, 12, 13, 14, 15, 16, 0, 0, 0, 17, 18, 19, 20, 0, 0, 0, 21, 22, 0, 0, 23, 0, 1, 24, 0, 0, 25, 26, 0, 27, 0]) (pc' := 63) dX12_sum_60 rfl t_7_48 k_X12_put rfl (by decide) rfl rfl rfl rfl (Nat.le_of_ble_eq_true rfl) ?_
            obtain ⟨r23, h⟩ := h
            refine c_M_put r23 ?_
            show z_Wp m_X12_sum _ 63 [(0, zR 0), (1, zI u1)] [] (F_M_put (F_MP n9 1 (z_up wu 0 3 ((wu 0 3) + 1))) 2 0) _
            refine z_aload_n (pc' := 64) 0 rfl rfl dX12_sum_63 rfl ?_
            refine z_getI2 (v := (F_M_put (F_MP n9 1 (z_up wu 0 3 ((wu 0 3) + 1))) 2 0) 0 4) (pc' := 67) g_X12_109 (by decide) rfl rfl rfl dX12_sum_64 rfl ?_
            refine z_iconst (pc' := 68) dX12_sum_67 rfl ?_
            obtain ⟨r24, h⟩ := h
            refine z_icmp_ne 78 dX12_sum_68 (by decide) (pc' := 71) rfl r24 (by decide) (fun c => ?_) (fun c => ?_)
            · have h := h.2 c
              rw [if_neg c] at k
              refine z_iconst (pc' := 79) dX12_sum_78 rfl ?_
              refine z_istore_n (pc' := 80) (ls' := [(0, zR 0), (1, zI (-1))]) rfl (by decide) rfl rfl dX12_sum_79 rfl ?_
              refine z_goto 21 dX12_sum_80 (by decide) ?_
              exact ih _ _ h k
            · have h := h.1 c
              rw [if_pos c] at k
              refine z_aload_n (pc' := 72) 0 rfl rfl dX12_sum_71 rfl ?_
              refine z_invV (as := []) (st := []) (C := m_X12_look) (fs := [0, 3, 0, 0, 0, 0, 4, 5, 6, 7, 8, 9, 10, 0, 0, 11, 12, 13, 14, 15, 16, 0, 0, 0, 17, 18, 19, 20, 0, 0, 0, 21, 22, 0, 0, 23, 0, 1, 24, 0, 0, 25, 26, 0, 27, 0]) (pc' := 75) dX12_sum_72 rfl t_6_218 k_X12_look rfl (by decide) rfl rfl rfl rfl (Nat.le_of_ble_eq_true rfl) ?_
              obtain ⟨r25, h⟩ := h
              refine c_M_look r25 ?_
              show z_Wp m_X12_sum _ 75 [(0, zR 0), (1, zI u1)] [zI ((F_M_look (F_M_put (F_MP n9 1 (z_up wu 0 3 ((wu 0 3) + 1))) 2 0)).1)] ((F_M_look (F_M_put (F_MP n9 1 (z_up wu 0 3 ((wu 0 3) + 1))) 2 0)).2) _
              refine z_goto 79 dX12_sum_75 (by decide) ?_
              refine z_istore_n (pc' := 80) (ls' := [(0, zR 0), (1, zI ((F_M_look (F_M_put (F_MP n9 1 (z_up wu 0 3 ((wu 0 3) + 1))) 2 0)).1))]) rfl (by decide) rfl rfl dX12_sum_79 rfl ?_
              refine z_goto 21 dX12_sum_80 (by decide) ?_
              exact ih _ _ h k
        · have h := h.2 c
          rw [if_neg c] at k
          refine z_iload_n (pc' := 28) 1 rfl rfl dX12_sum_27 rfl ?_
          refine z_bipush (pc' := 30) (by decide) dX12_sum_28 rfl ?_
          refine z_icmp_ne 83 dX12_sum_30 (by decide) (pc' := 33) rfl r18 (by decide) (fun c => ?_) (fun c => ?_)
          · have h := h.2 c
            rw [if_neg c] at k
            refine z_vret rfl dX12_sum_83 ?_
            try dsimp only at k
            exact k
          · have h := h.1 c
            rw [if_pos c] at k
            refine z_aload_n (pc' := 34) 0 rfl rfl dX12_sum_33 rfl ?_
            refine z_dup (pc' := 35) rfl dX12_sum_34 rfl ?_
            refine z_getI2 (v := wu 0 3) (pc' := 38) g_X12_102 (by decide) rfl rfl rfl dX12_sum_35 rfl ?_
            refine z_iconst (pc' := 39) dX12_sum_38 rfl ?_
            refine z_iadd (pc' := 40) dX12_sum_39 rfl ?_
            refine z_putI (pc' := 43) p_X12_102 (by decide) rfl rfl rfl rfl dX12_sum_40 rfl ?_
            refine z_aload_n (pc' := 44) 0 rfl rfl dX12_sum_43 rfl ?_
            refine z_invV (as := []) (st := []) (C := m_X12_term) (fs := [0, 3, 0, 0, 0, 0, 4, 5, 6, 7, 8, 9, 10, 0, 0, 11, 12, 13, 14, 15, 16, 0, 0, 0, 17, 18, 19, 20, 0, 0, 0, 21, 22, 0, 0, 23, 0, 1, 24, 0, 0, 25, 26, 0, 27, 0]) (pc' := 47) dX12_sum_44 rfl t_7_60 k_X12_term rfl (by decide) rfl rfl rfl rfl (Nat.le_of_ble_eq_true rfl) ?_
            obtain ⟨r26, h⟩ := h
            refine z_dcast (d' := d + n9 + 3) (by omega) (ihr.2.1 r26 ?_)
            show z_Wp m_X12_sum _ 47 [(0, zR 0), (1, zI u1)] [] (F_MP n9 1 (z_up wu 0 3 ((wu 0 3) + 1))) _
            refine z_aload_n (pc' := 48) 0 rfl rfl dX12_sum_47 rfl ?_
            refine z_iload_n (pc' := 49) 1 rfl rfl dX12_sum_48 rfl ?_
            refine z_bipush (pc' := 51) (by decide) dX12_sum_49 rfl ?_
            refine z_icmp_ne 58 dX12_sum_51 (by decide) (pc' := 54) rfl r18 (by decide) (fun c => ?_) (fun c => ?_)
            · have h := h.2 c
              rw [if_neg c] at k
              refine z_iconst (pc' := 59) dX12_sum_58 rfl ?_
              refine z_iconst (pc' := 60) dX12_sum_59 rfl ?_
              refine z_invV (as := [zI 3, zI 0]) (st := []) (C := m_X12_put) (fs := [0, 3, 0, 0, 0, 0, 4, 5, 6, 7, 8, 9, 10, 0, 0, 11, 12, 13, 14, 15, 16, 0, 0, 0, 17, 18, 19, 20, 0, 0, 0, 21, 22, 0, 0, 23, 0, 1, 24, 0, 0, 25, 26, 0, 27, 0]) (pc' := 63) dX12_sum_60 rfl t_7_48 k_X12_put rfl (by decide) rfl rfl rfl rfl (Nat.le_of_ble_eq_true rfl) ?_
              obtain ⟨r27, h⟩ := h
              refine c_M_put r27 ?_
              show z_Wp m_X12_sum _ 63 [(0, zR 0), (1, zI u1)] [] (F_M_put (F_MP n9 1 (z_up wu 0 3 ((wu 0 3) + 1))) 3 0) _
              refine z_aload_n (pc' := 64) 0 rfl rfl dX12_sum_63 rfl ?_
              refine z_getI2 (v := (F_M_put (F_MP n9 1 (z_up wu 0 3 ((wu 0 3) + 1))) 3 0) 0 4) (pc' := 67) g_X12_109 (by decide) rfl rfl rfl dX12_sum_64 rfl ?_
              refine z_iconst (pc' := 68) dX12_sum_67 rfl ?_
              obtain ⟨r28, h⟩ := h
              refine z_icmp_ne 78 dX12_sum_68 (by decide) (pc' := 71) rfl r28 (by decide) (fun c => ?_) (fun c => ?_)
              · have h := h.2 c
                rw [if_neg c] at k
                refine z_iconst (pc' := 79) dX12_sum_78 rfl ?_
                refine z_istore_n (pc' := 80) (ls' := [(0, zR 0), (1, zI (-1))]) rfl (by decide) rfl rfl dX12_sum_79 rfl ?_
                refine z_goto 21 dX12_sum_80 (by decide) ?_
                exact ih _ _ h k
              · have h := h.1 c
                rw [if_pos c] at k
                refine z_aload_n (pc' := 72) 0 rfl rfl dX12_sum_71 rfl ?_
                refine z_invV (as := []) (st := []) (C := m_X12_look) (fs := [0, 3, 0, 0, 0, 0, 4, 5, 6, 7, 8, 9, 10, 0, 0, 11, 12, 13, 14, 15, 16, 0, 0, 0, 17, 18, 19, 20, 0, 0, 0, 21, 22, 0, 0, 23, 0, 1, 24, 0, 0, 25, 26, 0, 27, 0]) (pc' := 75) dX12_sum_72 rfl t_6_218 k_X12_look rfl (by decide) rfl rfl rfl rfl (Nat.le_of_ble_eq_true rfl) ?_
                obtain ⟨r29, h⟩ := h
                refine c_M_look r29 ?_
                show z_Wp m_X12_sum _ 75 [(0, zR 0), (1, zI u1)] [zI ((F_M_look (F_M_put (F_MP n9 1 (z_up wu 0 3 ((wu 0 3) + 1))) 3 0)).1)] ((F_M_look (F_M_put (F_MP n9 1 (z_up wu 0 3 ((wu 0 3) + 1))) 3 0)).2) _
                refine z_goto 79 dX12_sum_75 (by decide) ?_
                refine z_istore_n (pc' := 80) (ls' := [(0, zR 0), (1, zI ((F_M_look (F_M_put (F_MP n9 1 (z_up wu 0 3 ((wu 0 3) + 1))) 3 0)).1))]) rfl (by decide) rfl rfl dX12_sum_79 rfl ?_
                refine z_goto 21 dX12_sum_80 (by decide) ?_
                exact ih _ _ h k
            · have h := h.1 c
              rw [if_pos c] at k
              refine z_iconst (pc' := 55) dX12_sum_54 rfl ?_
              refine z_goto 59 dX12_sum_55 (by decide) ?_
              refine z_iconst (pc' := 60) dX12_sum_59 rfl ?_
              refine z_invV (as := [zI 2, zI 0]) (st := []) (C := m_X12_put) (fs := [0, 3, 0, 0, 0, 0, 4, 5, 6, 7, 8, 9, 10, 0, 0, 11, 12, 13, 14, 15, 16, 0, 0, 0, 17, 18, 19, 20, 0, 0, 0, 21, 22, 0, 0, 23, 0, 1, 24, 0, 0, 25, 26, 0, 27, 0]) (pc' := 63) dX12_sum_60 rfl t_7_48 k_X12_put rfl (by decide) rfl rfl rfl rfl (Nat.le_of_ble_eq_true rfl) ?_
              obtain ⟨r30, h⟩ := h
              refine c_M_put r30 ?_
              show z_Wp m_X12_sum _ 63 [(0, zR 0), (1, zI u1)] [] (F_M_put (F_MP n9 1 (z_up wu 0 3 ((wu 0 3) + 1))) 2 0) _
              refine z_aload_n (pc' := 64) 0 rfl rfl dX12_sum_63 rfl ?_
              refine z_getI2 (v := (F_M_put (F_MP n9 1 (z_up wu 0 3 ((wu 0 3) + 1))) 2 0) 0 4) (pc' := 67) g_X12_109 (by decide) rfl rfl rfl dX12_sum_64 rfl ?_
              refine z_iconst (pc' := 68) dX12_sum_67 rfl ?_
              obtain ⟨r31, h⟩ := h
              refine z_icmp_ne 78 dX12_sum_68 (by decide) (pc' := 71) rfl r31 (by decide) (fun c => ?_) (fun c => ?_)
              · have h := h.2 c
                rw [if_neg c] at k
                refine z_iconst (pc' := 79) dX12_sum_78 rfl ?_
                refine z_istore_n (pc' := 80) (ls' := [(0, zR 0), (1, zI (-1))]) rfl (by decide) rfl rfl dX12_sum_79 rfl ?_
                refine z_goto 21 dX12_sum_80 (by decide) ?_
                exact ih _ _ h k
              · have h := h.1 c
                rw [if_pos c] at k
                refine z_aload_n (pc' := 72) 0 rfl rfl dX12_sum_71 rfl ?_
                refine z_invV (as := []) (st := []) (C := m_X12_look) (fs := [0, 3, 0, 0, 0, 0, 4, 5, 6, 7, 8, 9, 10, 0, 0, 11, 12, 13, 14, 15, 16, 0, 0, 0, 17, 18, 19, 20, 0, 0, 0, 21, 22, 0, 0, 23, 0, 1, 24, 0, 0, 25, 26, 0, 27, 0]) (pc' := 75) dX12_sum_72 rfl t_6_218 k_X12_look rfl (by decide) rfl rfl rfl rfl (Nat.le_of_ble_eq_true rfl) ?_
                obtain ⟨r32, h⟩ := h
                refine c_M_look r32 ?_
                show z_Wp m_X12_sum _ 75 [(0, zR 0), (1, zI u1)] [zI ((F_M_look (F_M_put (F_MP n9 1 (z_up wu 0 3 ((wu 0 3) + 1))) 2 0)).1)] ((F_M_look (F_M_put (F_MP n9 1 (z_up wu 0 3 ((wu 0 3) + 1))) 2 0)).2) _
                refine z_goto 79 dX12_sum_75 (by decide) ?_
                refine z_istore_n (pc' := 80) (ls' := [(0, zR 0), (1, zI ((F_M_look (F_M_put (F_MP n9 1 (z_up wu 0 3 ((wu 0 3) + 1))) 2 0)).1))]) rfl (by decide) rfl rfl dX12_sum_79 rfl ?_
                refine z_goto 21 dX12_sum_80 (by decide) ?_
                exact ih _ _ h k
    exact hl 300 _ _ h k
  · have h := h.1 c
    rw [if_pos c] at k
    refine z_aload_n (pc' := 13) 0 rfl rfl dX12_sum_12 rfl ?_
    refine z_invV (as := []) (st := []) (C := m_X12_look) (fs := [0, 3, 0, 0, 0, 0, 4, 5, 6, 7, 8, 9, 10, 0, 0, 11, 12, 13, 14, 15, 16, 0, 0, 0, 17, 18, 19, 20, 0, 0, 0, 21, 22, 0, 0, 23, 0, 1, 24, 0, 0, 25, 26, 0, 27, 0]) (pc' := 16) dX12_sum_13 rfl t_6_218 k_X12_look rfl (by decide) rfl rfl rfl rfl (Nat.le_of_ble_eq_true rfl) ?_
    obtain ⟨r33, h⟩ := h
    refine c_M_look r33 ?_
    show z_Wp m_X12_sum _ 16 [(0, zR 0)] [zI ((F_M_look (F_MP n9 1 w)).1)] ((F_M_look (F_MP n9 1 w)).2) _
    refine z_goto 20 dX12_sum_16 (by decide) ?_
    refine z_istore_n (pc' := 21) (ls' := [(0, zR 0), (1, zI ((F_M_look (F_MP n9 1 w)).1))]) rfl (by decide) rfl rfl dX12_sum_20 rfl ?_
    have hl : ∀ (m9 : Nat) (u1 : Int) (wu : z_Wd), PL_M_sum_21x2 w (F_MP n9) (P_MP n9) m9 u1 wu → Q none (L_M_sum_21x2 w (F_MP n9) m9 u1 wu) → z_Wp m_X12_sum (d + (n9 + 1) + 3) 21 [(0, zR 0), (1, zI u1)] [] wu Q := by
      clear h k
      intro m9
      induction m9 with
      | zero => intro u1 wu h k; exact False.elim h
      | succ m9 ih =>
        intro u1 wu h k
        have h : (-2147483648 ≤ u1 ∧ u1 < 2147483648) ∧ ((u1 = 43 → (P_MP n9 1 (z_up wu 0 3 ((wu 0 3) + 1))) ∧ ((u1 = 43 → (P_M_put (F_MP n9 1 (z_up wu 0 3 ((wu 0 3) + 1))) 2 0) ∧ (-2147483648 ≤ (F_M_put (F_MP n9 1 (z_up wu 0 3 ((wu 0 3) + 1))) 2 0) 0 4 ∧ (F_M_put (F_MP n9 1 (z_up wu 0 3 ((wu 0 3) + 1))) 2 0) 0 4 < 2147483648) ∧ (((F_M_put (F_MP n9 1 (z_up wu 0 3 ((wu 0 3) + 1))) 2 0) 0 4 = (-1) → (P_M_look (F_M_put (F_MP n9 1 (z_up wu 0 3 ((wu 0 3) + 1))) 2 0)) ∧ (PL_M_sum_21x2 w (F_MP n9) (P_MP n9) m9 ((F_M_look (F_M_put (F_MP n9 1 (z_up wu 0 3 ((wu 0 3) + 1))) 2 0)).1) ((F_M_look (F_M_put (F_MP n9 1 (z_up wu 0 3 ((wu 0 3) + 1))) 2 0)).2))) ∧ (¬ ((F_M_put (F_MP n9 1 (z_up wu 0 3 ((wu 0 3) + 1))) 2 0) 0 4 = (-1)) → PL_M_sum_21x2 w (F_MP n9) (P_MP n9) m9 (-1) (F_M_put (F_MP n9 1 (z_up wu 0 3 ((wu 0 3) + 1))) 2 0)))) ∧ (¬ (u1 = 43) → (P_M_put (F_MP n9 1 (z_up wu 0 3 ((wu 0 3) + 1))) 3 0) ∧ (-2147483648 ≤ (F_M_put (F_MP n9 1 (z_up wu 0 3 ((wu 0 3) + 1))) 3 0) 0 4 ∧ (F_M_put (F_MP n9 1 (z_up wu 0 3 ((wu 0 3) + 1))) 3 0) 0 4 < 2147483648) ∧ (((F_M_put (F_MP n9 1 (z_up wu 0 3 ((wu 0 3) + 1))) 3 0) 0 4 = (-1) → (P_M_look (F_M_put (F_MP n9 1 (z_up wu 0 3 ((wu 0 3) + 1))) 3 0)) ∧ (PL_M_sum_21x2 w (F_MP n9) (P_MP n9) m9 ((F_M_look (F_M_put (F_MP n9 1 (z_up wu 0 3 ((wu 0 3) + 1))) 3 0)).1) ((F_M_look (F_M_put (F_MP n9 1 (z_up wu 0 3 ((wu 0 3) + 1))) 3 0)).2))) ∧ (¬ ((F_M_put (F_MP n9 1 (z_up wu 0 3 ((wu 0 3) + 1))) 3 0) 0 4 = (-1)) → PL_M_sum_21x2 w (F_MP n9) (P_MP n9) m9 (-1) (F_M_put (F_MP n9 1 (z_up wu 0 3 ((wu 0 3) + 1))) 3 0)))))) ∧ (¬ (u1 = 43) → (u1 = 45 → (P_MP n9 1 (z_up wu 0 3 ((wu 0 3) + 1))) ∧ ((u1 = 43 → (P_M_put (F_MP n9 1 (z_up wu 0 3 ((wu 0 3) + 1))) 2 0) ∧ (-2147483648 ≤ (F_M_put (F_MP n9 1 (z_up wu 0 3 ((wu 0 3) + 1))) 2 0) 0 4 ∧ (F_M_put (F_MP n9 1 (z_up wu 0 3 ((wu 0 3) + 1))) 2 0) 0 4 < 2147483648) ∧ (((F_M_put (F_MP n9 1 (z_up wu 0 3 ((wu 0 3) + 1))) 2 0) 0 4 = (-1) → (P_M_look (F_M_put (F_MP n9 1 (z_up wu 0 3 ((wu 0 3) + 1))) 2 0)) ∧ (PL_M_sum_21x2 w (F_MP n9) (P_MP n9) m9 ((F_M_look (F_M_put (F_MP n9 1 (z_up wu 0 3 ((wu 0 3) + 1))) 2 0)).1) ((F_M_look (F_M_put (F_MP n9 1 (z_up wu 0 3 ((wu 0 3) + 1))) 2 0)).2))) ∧ (¬ ((F_M_put (F_MP n9 1 (z_up wu 0 3 ((wu 0 3) + 1))) 2 0) 0 4 = (-1)) → PL_M_sum_21x2 w (F_MP n9) (P_MP n9) m9 (-1) (F_M_put (F_MP n9 1 (z_up wu 0 3 ((wu 0 3) + 1))) 2 0)))) ∧ (¬ (u1 = 43) → (P_M_put (F_MP n9 1 (z_up wu 0 3 ((wu 0 3) + 1))) 3 0) ∧ (-2147483648 ≤ (F_M_put (F_MP n9 1 (z_up wu 0 3 ((wu 0 3) + 1))) 3 0) 0 4 ∧ (F_M_put (F_MP n9 1 (z_up wu 0 3 ((wu 0 3) + 1))) 3 0) 0 4 < 2147483648) ∧ (((F_M_put (F_MP n9 1 (z_up wu 0 3 ((wu 0 3) + 1))) 3 0) 0 4 = (-1) → (P_M_look (F_M_put (F_MP n9 1 (z_up wu 0 3 ((wu 0 3) + 1))) 3 0)) ∧ (PL_M_sum_21x2 w (F_MP n9) (P_MP n9) m9 ((F_M_look (F_M_put (F_MP n9 1 (z_up wu 0 3 ((wu 0 3) + 1))) 3 0)).1) ((F_M_look (F_M_put (F_MP n9 1 (z_up wu 0 3 ((wu 0 3) + 1))) 3 0)).2))) ∧ (¬ ((F_M_put (F_MP n9 1 (z_up wu 0 3 ((wu 0 3) + 1))) 3 0) 0 4 = (-1)) → PL_M_sum_21x2 w (F_MP n9) (P_MP n9) m9 (-1) (F_M_put (F_MP n9 1 (z_up wu 0 3 ((wu 0 3) + 1))) 3 0)))))) ∧ (¬ (u1 = 45) → True))) := h
        have k : Q none (if u1 = 43 then if u1 = 43 then if (F_M_put (F_MP n9 1 (z_up wu 0 3 ((wu 0 3) + 1))) 2 0) 0 4 = (-1) then L_M_sum_21x2 w (F_MP n9) m9 ((F_M_look (F_M_put (F_MP n9 1 (z_up wu 0 3 ((wu 0 3) + 1))) 2 0)).1) ((F_M_look (F_M_put (F_MP n9 1 (z_up wu 0 3 ((wu 0 3) + 1))) 2 0)).2) else L_M_sum_21x2 w (F_MP n9) m9 (-1) (F_M_put (F_MP n9 1 (z_up wu 0 3 ((wu 0 3) + 1))) 2 0) else if (F_M_put (F_MP n9 1 (z_up wu 0 3 ((wu 0 3) + 1))) 3 0) 0 4 = (-1) then L_M_sum_21x2 w (F_MP n9) m9 ((F_M_look (F_M_put (F_MP n9 1 (z_up wu 0 3 ((wu 0 3) + 1))) 3 0)).1) ((F_M_look (F_M_put (F_MP n9 1 (z_up wu 0 3 ((wu 0 3) + 1))) 3 0)).2) else L_M_sum_21x2 w (F_MP n9) m9 (-1) (F_M_put (F_MP n9 1 (z_up wu 0 3 ((wu 0 3) + 1))) 3 0) else if u1 = 45 then if u1 = 43 then if (F_M_put (F_MP n9 1 (z_up wu 0 3 ((wu 0 3) + 1))) 2 0) 0 4 = (-1) then L_M_sum_21x2 w (F_MP n9) m9 ((F_M_look (F_M_put (F_MP n9 1 (z_up wu 0 3 ((wu 0 3) + 1))) 2 0)).1) ((F_M_look (F_M_put (F_MP n9 1 (z_up wu 0 3 ((wu 0 3) + 1))) 2 0)).2) else L_M_sum_21x2 w (F_MP n9) m9 (-1) (F_M_put (F_MP n9 1 (z_up wu 0 3 ((wu 0 3) + 1))) 2 0) else if (F_M_put (F_MP n9 1 (z_up wu 0 3 ((wu 0 3) + 1))) 3 0) 0 4 = (-1) then L_M_sum_21x2 w (F_MP n9) m9 ((F_M_look (F_M_put (F_MP n9 1 (z_up wu 0 3 ((wu 0 3) + 1))) 3 0)).1) ((F_M_look (F_M_put (F_MP n9 1 (z_up wu 0 3 ((wu 0 3) + 1))) 3 0)).2) else L_M_sum_21x2 w (F_MP n9) m9 (-1) (F_M_put (F_MP n9 1 (z_up wu 0 3 ((wu 0 3) + 1))) 3 0) else wu) := k
        refine z_iload_n (pc' := 22) 1 rfl rfl dX12_sum_21 rfl ?_
        refine z_bipush (pc' := 24) (by decide) dX12_sum_22 rfl ?_
        obtain ⟨r49, h⟩ := h
        refine z_icmp_eq 33 dX12_sum_24 (by decide) (pc' := 27) rfl r49 (by decide) (fun c => ?_) (fun c => ?_)
        · have h := h.1 c
          rw [if_pos c] at k
          refine z_aload_n (pc' := 34) 0 rfl rfl dX12_sum_33 rfl ?_
          refine z_dup (pc' := 35) rfl dX12_sum_34 rfl ?_
          refine z_getI2 (v := wu 0 3) (pc' := 38) g_X12_102 (by decide) rfl rfl rfl dX12_sum_35 rfl ?_
          refine z_iconst (pc' := 39) dX12_sum_38 rfl ?_
          refine z_iadd (pc' := 40) dX12_sum_39 rfl ?_
          refine z_putI (pc' := 43) p_X12_102 (by decide) rfl rfl rfl rfl dX12_sum_40 rfl ?_
          refine z_aload_n (pc' := 44) 0 rfl rfl dX12_sum_43 rfl ?_
          refine z_invV (as := []) (st := []) (C := m_X12_term) (fs := [0, 3, 0, 0, 0, 0, 4, 5, 6, 7, 8, 9, 10, 0, 0, 11, 12, 13, 14, 15, 16, 0, 0, 0, 17, 18, 19, 20, 0, 0, 0, 21, 22, 0, 0, 23, 0, 1, 24, 0, 0, 25, 26, 0, 27, 0]) (pc' := 47) dX12_sum_44 rfl t_7_60 k_X12_term rfl (by decide) rfl rfl rfl rfl (Nat.le_of_ble_eq_true rfl) ?_
          obtain ⟨r50, h⟩ := h
          refine z_dcast (d' := d + n9 + 3) (by omega) (ihr.2.1 r50 ?_)
          show z_Wp m_X12_sum _ 47 [(0, zR 0), (1, zI u1)] [] (F_MP n9 1 (z_up wu 0 3 ((wu 0 3) + 1))) _
          refine z_aload_n (pc' := 48) 0 rfl rfl dX12_sum_47 rfl ?_
          refine z_iload_n (pc' := 49) 1 rfl rfl dX12_sum_48 rfl ?_
          refine z_bipush (pc' := 51) (by decide) dX12_sum_49 rfl ?_
          refine z_icmp_ne 58 dX12_sum_51 (by decide) (pc' := 54) rfl r49 (by decide) (fun c => ?_) (fun c => ?_)
          · have h := h.2 c
            rw [if_neg c] at k
            refine z_iconst (pc' := 59) dX12_sum_58 rfl ?_
            refine z_iconst (pc' := 60) dX12_sum_59 rfl ?_
            refine z_invV (as := [zI 3, zI 0]) (st := []) (C := m_X12_put) (fs := [0, 3, 0, 0, 0, 0, 4, 5, 6, 7, 8, 9, 10, 0, 0, 11, 12, 13, 14, 15, 16, 0, 0, 0, 17, 18, 19, 20, 0, 0, 0, 21, 22, 0, 0, 23, 0, 1, 24, 0, 0, 25, 26, 0, 27, 0]) (pc' := 63) dX12_sum_60 rfl t_7_48 k_X12_put rfl (by decide) rfl rfl rfl rfl (Nat.le_of_ble_eq_true rfl) ?_
            obtain ⟨r51, h⟩ := h
            refine c_M_put r51 ?_
            show z_Wp m_X12_sum _ 63 [(0, zR 0), (1, zI u1)] [] (F_M_put (F_MP n9 1 (z_up wu 0 3 ((wu 0 3) + 1))) 3 0) _
            refine z_aload_n (pc' := 64) 0 rfl rfl dX12_sum_63 rfl ?_
            refine z_getI2 (v := (F_M_put (F_MP n9 1 (z_up wu 0 3 ((wu 0 3) + 1))) 3 0) 0 4) (pc' := 67) g_X12_109 (by decide) rfl rfl rfl dX12_sum_64 rfl ?_
            refine z_iconst (pc' := 68) dX12_sum_67 rfl ?_
            obtain ⟨r52, h⟩ := h
            refine z_icmp_ne 78 dX12_sum_68 (by decide) (pc' := 71) rfl r52 (by decide) (fun c => ?_) (fun c => ?_)
            · have h := h.2 c
              rw [if_neg c] at k
              refine z_iconst (pc' := 79) dX12_sum_78 rfl ?_
              refine z_istore_n (pc' := 80) (ls' := [(0, zR 0), (1, zI (-1))]) rfl (by decide) rfl rfl dX12_sum_79 rfl ?_
              refine z_goto 21 dX12_sum_80 (by decide) ?_
              exact ih _ _ h k
            · have h := h.1 c
              rw [if_pos c] at k
              refine z_aload_n (pc' := 72) 0 rfl rfl dX12_sum_71 rfl ?_
              refine z_invV (as := []) (st := []) (C := m_X12_look) (fs := [0, 3, 0, 0, 0, 0, 4, 5, 6, 7, 8, 9, 10, 0, 0, 11, 12, 13, 14, 15, 16, 0, 0, 0, 17, 18, 19, 20, 0, 0, 0, 21, 22, 0, 0, 23, 0, 1, 24, 0, 0, 25, 26, 0, 27, 0]) (pc' := 75) dX12_sum_72 rfl t_6_218 k_X12_look rfl (by decide) rfl rfl rfl rfl (Nat.le_of_ble_eq_true rfl) ?_
              obtain ⟨r53, h⟩ := h
              refine c_M_look r53 ?_
              show z_Wp m_X12_sum _ 75 [(0, zR 0), (1, zI u1)] [zI ((F_M_look (F_M_put (F_MP n9 1 (z_up wu 0 3 ((wu 0 3) + 1))) 3 0)).1)] ((F_M_look (F_M_put (F_MP n9 1 (z_up wu 0 3 ((wu 0 3) + 1))) 3 0)).2) _
              refine z_goto 79 dX12_sum_75 (by decide) ?_
              refine z_istore_n (pc' := 80) (ls' := [(0, zR 0), (1, zI ((F_M_look (F_M_put (F_MP n9 1 (z_up wu 0 3 ((wu 0 3) + 1))) 3 0)).1))]) rfl (by decide) rfl rfl dX12_sum_79 rfl ?_
              refine z_goto 21 dX12_sum_80 (by decide) ?_
              exact ih _ _ h k
          · have h := h.1 c
            rw [if_pos c] at k
            refine z_iconst (pc' := 55) dX12_sum_54 rfl ?_
            refine z_goto 59 dX12_sum_55 (by decide) ?_
            refine z_iconst (pc' := 60) dX12_sum_59 rfl ?_
            refine z_invV (as := [zI 2, zI 0]) (st := []) (C := m_X12_put) (fs := [0, 3, 0, 0, 0, 0, 4, 5, 6, 7, 8, 9, 10, 0, 0, 11, 12, 13, 14, 15, 16, 0, 0, 0, 17, 18, 19, 20, 0, 0, 0, 21, 22, 0, 0, 23, 0, 1, 24, 0, 0, 25, 26, 0, 27, 0]) (pc' := 63) dX12_sum_60 rfl t_7_48 k_X12_put rfl (by decide) rfl rfl rfl rfl (Nat.le_of_ble_eq_true rfl) ?_
            obtain ⟨r54, h⟩ := h
            refine c_M_put r54 ?_
            show z_Wp m_X12_sum _ 63 [(0, zR 0), (1, zI u1)] [] (F_M_put (F_MP n9 1 (z_up wu 0 3 ((wu 0 3) + 1))) 2 0) _
            refine z_aload_n (pc' := 64) 0 rfl rfl dX12_sum_63 rfl ?_
            refine z_getI2 (v := (F_M_put (F_MP n9 1 (z_up wu 0 3 ((wu 0 3) + 1))) 2 0) 0 4) (pc' := 67) g_X12_109 (by decide) rfl rfl rfl dX12_sum_64 rfl ?_
            refine z_iconst (pc' := 68) dX12_sum_67 rfl ?_
            obtain ⟨r55, h⟩ := h
            refine z_icmp_ne 78 dX12_sum_68 (by decide) (pc' := 71) rfl r55 (by decide) (fun c => ?_) (fun c => ?_)
            · have h := h.2 c
              rw [if_neg c] at k
              refine z_iconst (pc' := 79) dX12_sum_78 rfl ?_
              refine z_istore_n (pc' := 80) (ls' := [(0, zR 0), (1, zI (-1))]) rfl (by decide) rfl rfl dX12_sum_79 rfl ?_
              refine z_goto 21 dX12_sum_80 (by decide) ?_
              exact ih _ _ h k
            · have h := h.1 c
              rw [if_pos c] at k
              refine z_aload_n (pc' := 72) 0 rfl rfl dX12_sum_71 rfl ?_
              refine z_invV (as := []) (st := []) (C := m_X12_look) (fs := [0, 3, 0, 0, 0, 0, 4, 5, 6, 7, 8, 9, 10, 0, 0, 11, 12, 13, 14, 15, 16, 0, 0, 0, 17, 18, 19, 20, 0, 0, 0, 21, 22, 0, 0, 23, 0, 1, 24, 0, 0, 25, 26, 0, 27, 0]) (pc' := 75) dX12_sum_72 rfl t_6_218 k_X12_look rfl (by decide) rfl rfl rfl rfl (Nat.le_of_ble_eq_true rfl) ?_
              obtain ⟨r56, h⟩ := h
              refine c_M_look r56 ?_
              show z_Wp m_X12_sum _ 75 [(0, zR 0), (1, zI u1)] [zI ((F_M_look (F_M_put (F_MP n9 1 (z_up wu 0 3 ((wu 0 3) + 1))) 2 0)).1)] ((F_M_look (F_M_put (F_MP n9 1 (z_up wu 0 3 ((wu 0 3) + 1))) 2 0)).2) _
              refine z_goto 79 dX12_sum_75 (by decide) ?_
              refine z_istore_n (pc' := 80) (ls' := [(0, zR 0), (1, zI ((F_M_look (F_M_put (F_MP n9 1 (z_up wu 0 3 ((wu 0 3) + 1))) 2 0)).1))]) rfl (by decide) rfl rfl dX12_sum_79 rfl ?_
              refine z_goto 21 dX12_sum_80 (by decide) ?_
              exact ih _ _ h k
        · have h := h.2 c
          rw [if_neg c] at k
          refine z_iload_n (pc' := 28) 1 rfl rfl dX12_sum_27 rfl ?_
          refine z_bipush (pc' := 30) (by decide) dX12_sum_28 rfl ?_
          refine z_icmp_ne 83 dX12_sum_30 (by decide) (pc' := 33) rfl r49 (by decide) (fun c => ?_) (fun c => ?_)
          · have h := h.2 c
            rw [if_neg c] at k
            refine z_vret rfl dX12_sum_83 ?_
            try dsimp only at k
            exact k
          · have h := h.1 c
            rw [if_pos c] at k
            refine z_aload_n (pc' := 34) 0 rfl rfl dX12_sum_33 rfl ?_
            refine z_dup (pc' := 35) rfl dX12_sum_34 rfl ?_
            refine z_getI2 (v := wu 0 3) (pc' := 38) g_X12_102 (by decide) rfl rfl rfl dX12_sum_35 rfl ?_
            refine z_iconst (pc' := 39) dX12_sum_38 rfl ?_
            refine z_iadd (pc' := 40) dX12_sum_39 rfl ?_
            refine z_putI (pc' := 43) p_X12_102 (by decide) rfl rfl rfl rfl dX12_sum_40 rfl ?_
            refine z_aload_n (pc' := 44) 0 rfl rfl dX12_sum_43 rfl ?_
            refine z_invV (as := []) (st := []) (C := m_X12_term) (fs := [0, 3, 0, 0, 0, 0, 4, 5, 6, 7, 8, 9, 10, 0, 0, 11, 12, 13, 14, 15, 16, 0, 0, 0, 17, 18, 19, 20, 0, 0, 0, 21, 22, 0, 0, 23, 0, 1, 24, 0, 0, 25, 26, 0, 27, 0]) (pc' := 47) dX12_sum_44 rfl t_7_60 k_X12_term rfl (by decide) rfl rfl rfl rfl (Nat.le_of_ble_eq_true rfl) ?_
            obtain ⟨r57, h⟩ := h
            refine z_dcast (d' := d + n9 + 3) (by omega) (ihr.2.1 r57 ?_)
            show z_Wp m_X12_sum _ 47 [(0, zR 0), (1, zI u1)] [] (F_MP n9 1 (z_up wu 0 3 ((wu 0 3) + 1))) _
            refine z_aload_n (pc' := 48) 0 rfl rfl dX12_sum_47 rfl ?_
            refine z_iload_n (pc' := 49) 1 rfl rfl dX12_sum_48 rfl ?_
            refine z_bipush (pc' := 51) (by decide) dX12_sum_49 rfl ?_
            refine z_icmp_ne 58 dX12_sum_51 (by decide) (pc' := 54) rfl r49 (by decide) (fun c => ?_) (fun c => ?_)
            · have h := h.2 c
              rw [if_neg c] at k
              refine z_iconst (pc' := 59) dX12_sum_58 rfl ?_
              refine z_iconst (pc' := 60) dX12_sum_59 rfl ?_
              refine z_invV (as := [zI 3, zI 0]) (st := []) (C := m_X12_put) (fs := [0, 3, 0, 0, 0, 0, 4, 5, 6, 7, 8, 9, 10, 0, 0, 11, 12, 13, 14, 15, 16, 0, 0, 0, 17, 18, 19, 20, 0, 0, 0, 21, 22, 0, 0, 23, 0, 1, 24, 0, 0, 25, 26, 0, 27, 0]) (pc' := 63) dX12_sum_60 rfl t_7_48 k_X12_put rfl (by decide) rfl rfl rfl rfl (Nat.le_of_ble_eq_true rfl) ?_
              obtain ⟨r58, h⟩ := h
              refine c_M_put r58 ?_
              show z_Wp m_X12_sum _ 63 [(0, zR 0), (1, zI u1)] [] (F_M_put (F_MP n9 1 (z_up wu 0 3 ((wu 0 3) + 1))) 3 0) _
              refine z_aload_n (pc' := 64) 0 rfl rfl dX12_sum_63 rfl ?_
              refine z_getI2 (v := (F_M_put (F_MP n9 1 (z_up wu 0 3 ((wu 0 3) + 1))) 3 0) 0 4) (pc' := 67) g_X12_109 (by decide) rfl rfl rfl dX12_sum_64 rfl ?_
              refine z_iconst (pc' := 68) dX12_sum_67 rfl ?_
              obtain ⟨r59, h⟩ := h
              refine z_icmp_ne 78 dX12_sum_68 (by decide) (pc' := 71) rfl r59 (by decide) (fun c => ?_) (fun c => ?_)
              · have h := h.2 c
                rw [if_neg c] at k
                refine z_iconst (pc' := 79) dX12_sum_78 rfl ?_
                refine z_istore_n (pc' := 80) (ls' := [(0, zR 0), (1, zI (-1))]) rfl (by decide) rfl rfl dX12_sum_79 rfl ?_
                refine z_goto 21 dX12_sum_80 (by decide) ?_
                exact ih _ _ h k
              · have h := h.1 c
                rw [if_pos c] at k
                refine z_aload_n (pc' := 72) 0 rfl rfl dX12_sum_71 rfl ?_
                refine z_invV (as := []) (st := []) (C := m_X12_look) (fs := [0, 3, 0, 0, 0, 0, 4, 5, 6, 7, 8, 9, 10, 0, 0, 11, 12, 13, 14, 15, 16, 0, 0, 0, 17, 18, 19, 20, 0, 0, 0, 21, 22, 0, 0, 23, 0, 1, 24, 0, 0, 25, 26, 0, 27, 0]) (pc' := 75) dX12_sum_72 rfl t_6_218 k_X12_look rfl (by decide) rfl rfl rfl rfl (Nat.le_of_ble_eq_true rfl) ?_
                obtain ⟨r60, h⟩ := h
                refine c_M_look r60 ?_
                show z_Wp m_X12_sum _ 75 [(0, zR 0), (1, zI u1)] [zI ((F_M_look (F_M_put (F_MP n9 1 (z_up wu 0 3 ((wu 0 3) + 1))) 3 0)).1)] ((F_M_look (F_M_put (F_MP n9 1 (z_up wu 0 3 ((wu 0 3) + 1))) 3 0)).2) _
                refine z_goto 79 dX12_sum_75 (by decide) ?_
                refine z_istore_n (pc' := 80) (ls' := [(0, zR 0), (1, zI ((F_M_look (F_M_put (F_MP n9 1 (z_up wu 0 3 ((wu 0 3) + 1))) 3 0)).1))]) rfl (by decide) rfl rfl dX12_sum_79 rfl ?_
                refine z_goto 21 dX12_sum_80 (by decide) ?_
                exact ih _ _ h k
            · have h := h.1 c
              rw [if_pos c] at k
              refine z_iconst (pc' := 55) dX12_sum_54 rfl ?_
              refine z_goto 59 dX12_sum_55 (by decide) ?_
              refine z_iconst (pc' := 60) dX12_sum_59 rfl ?_
              refine z_invV (as := [zI 2, zI 0]) (st := []) (C := m_X12_put) (fs := [0, 3, 0, 0, 0, 0, 4, 5, 6, 7, 8, 9, 10, 0, 0, 11, 12, 13, 14, 15, 16, 0, 0, 0, 17, 18, 19, 20, 0, 0, 0, 21, 22, 0, 0, 23, 0, 1, 24, 0, 0, 25, 26, 0, 27, 0]) (pc' := 63) dX12_sum_60 rfl t_7_48 k_X12_put rfl (by decide) rfl rfl rfl rfl (Nat.le_of_ble_eq_true rfl) ?_
              obtain ⟨r61, h⟩ := h
              refine c_M_put r61 ?_
              show z_Wp m_X12_sum _ 63 [(0, zR 0), (1, zI u1)] [] (F_M_put (F_MP n9 1 (z_up wu 0 3 ((wu 0 3) + 1))) 2 0) _
              refine z_aload_n (pc' := 64) 0 rfl rfl dX12_sum_63 rfl ?_
              refine z_getI2 (v := (F_M_put (F_MP n9 1 (z_up wu 0 3 ((wu 0 3) + 1))) 2 0) 0 4) (pc' := 67) g_X12_109 (by decide) rfl rfl rfl dX12_sum_64 rfl ?_
              refine z_iconst (pc' := 68) dX12_sum_67 rfl ?_
              obtain ⟨r62, h⟩ := h
              refine z_icmp_ne 78 dX12_sum_68 (by decide) (pc' := 71) rfl r62 (by decide) (fun c => ?_) (fun c => ?_)
              · have h := h.2 c
                rw [if_neg c] at k
                refine z_iconst (pc' := 79) dX12_sum_78 rfl ?_
                refine z_istore_n (pc' := 80) (ls' := [(0, zR 0), (1, zI (-1))]) rfl (by decide) rfl rfl dX12_sum_79 rfl ?_
                refine z_goto 21 dX12_sum_80 (by decide) ?_
                exact ih _ _ h k
              · have h := h.1 c
                rw [if_pos c] at k
                refine z_aload_n (pc' := 72) 0 rfl rfl dX12_sum_71 rfl ?_
                refine z_invV (as := []) (st := []) (C := m_X12_look) (fs := [0, 3, 0, 0, 0, 0, 4, 5, 6, 7, 8, 9, 10, 0, 0, 11, 12, 13, 14, 15, 16, 0, 0, 0, 17, 18, 19, 20, 0, 0, 0, 21, 22, 0, 0, 23, 0, 1, 24, 0, 0, 25, 26, 0, 27, 0]) (pc' := 75) dX12_sum_72 rfl t_6_218 k_X12_look rfl (by decide) rfl rfl rfl rfl (Nat.le_of_ble_eq_true rfl) ?_
                obtain ⟨r63, h⟩ := h
                refine c_M_look r63 ?_
                show z_Wp m_X12_sum _ 75 [(0, zR 0), (1, zI u1)] [zI ((F_M_look (F_M_put (F_MP n9 1 (z_up wu 0 3 ((wu 0 3) + 1))) 2 0)).1)] ((F_M_look (F_M_put (F_MP n9 1 (z_up wu 0 3 ((wu 0 3) + 1))) 2 0)).2) _
                refine z_goto 79 dX12_sum_75 (by decide) ?_
                refine z_istore_n (pc' := 80) (ls' := [(0, zR 0), (1, zI ((F_M_look (F_M_put (F_MP n9 1 (z_up wu 0 3 ((wu 0 3) + 1))) 2 0)).1))]) rfl (by decide) rfl rfl dX12_sum_79 rfl ?_
                refine z_goto 21 dX12_sum_80 (by decide) ?_
                exact ih _ _ h k
    exact hl 300 _ _ h k
set_option maxHeartbeats 2000000 in
set_option maxRecDepth 4000 in
theorem st_M_compare {d n9 : Nat} (ihr : S_MP d n9) : S_M_compare d (n9 + 1) := by
  intro w  Q h k
  have eh : P_MP (n9 + 1) 3 w  = ((-2147483648 ≤ w 0 4 ∧ w 0 4 < 2147483648) ∧ ((w 0 4 = (-1) → (P_M_look w) ∧ (P_M_isSign ((F_M_look w).2) ((F_M_look w).1)) ∧ ((F_M_isSign ((F_M_look w).2) ((F_M_look w).1) = 0 → P_M_bad ((F_M_look w).2)) ∧ (¬ (F_M_isSign ((F_M_look w).2) ((F_M_look w).1) = 0) → (P_MP n9 2 (z_up ((F_M_look w).2) 0 3 ((((F_M_look w).2) 0 3) + 1))) ∧ (-2147483648 ≤ (F_M_look w).1 ∧ (F_M_look w).1 < 2147483648) ∧ (((F_M_look w).1 = 61 → P_M_put (F_MP n9 2 (z_up ((F_M_look w).2) 0 3 ((((F_M_look w).2) 0 3) + 1))) 6 0) ∧ (¬ ((F_M_look w).1 = 61) → ((F_M_look w).1 = 60 → P_M_put (F_MP n9 2 (z_up ((F_M_look w).2) 0 3 ((((F_M_look w).2) 0 3) + 1))) 7 0) ∧ (¬ ((F_M_look w).1 = 60) → P_M_put (F_MP n9 2 (z_up ((F_M_look w).2) 0 3 ((((F_M_look w).2) 0 3) + 1))) 8 0)))))) ∧ (¬ (w 0 4 = (-1)) → (P_M_isSign w (-1)) ∧ ((F_M_isSign w (-1) = 0 → P_M_bad w) ∧ (¬ (F_M_isSign w (-1) = 0) → (P_MP n9 2 (z_up w 0 3 ((w 0 3) + 1))) ∧ (P_M_put (F_MP n9 2 (z_up w 0 3 ((w 0 3) + 1))) 8 0)))))) := by rw [P_MP]
  have ek : F_MP (n9 + 1) 3 w  = (if w 0 4 = (-1) then if F_M_isSign ((F_M_look w).2) ((F_M_look w).1) = 0 then F_M_bad ((F_M_look w).2) else if (F_M_look w).1 = 61 then F_M_put (F_MP n9 2 (z_up ((F_M_look w).2) 0 3 ((((F_M_look w).2) 0 3) + 1))) 6 0 else if (F_M_look w).1 = 60 then F_M_put (F_MP n9 2 (z_up ((F_M_look w).2) 0 3 ((((F_M_look w).2) 0 3) + 1))) 7 0 else F_M_put (F_MP n9 2 (z_up ((F_M_look w).2) 0 3 ((((F_M_look w).2) 0 3) + 1))) 8 0 else if F_M_isSign w (-1) = 0 then F_M_bad w else F_M_put (F_MP n9 2 (z_up w 0 3 ((w 0 3) + 1))) 8 0) := by rw [F_MP]
  rw [eh] at h
  rw [ek] at k
  clear eh ek
  refine z_enter rfl (Nat.le_of_ble_eq_true rfl) ?_
  show z_Wp m_X12_compare _ 0 [(0, zR 0)] [] w _
  refine z_aload_n (pc' := 1) 0 rfl rfl dX12_compare_0 rfl ?_
  refine z_getI2 (v := w 0 4) (pc' := 4) g_X12_109 (by decide) rfl rfl rfl dX12_compare_1 rfl ?_
  refine z_iconst (pc' := 5) dX12_compare_4 rfl ?_
  obtain ⟨r1, h⟩ := h
  refine z_icmp_ne 15 dX12_compare_5 (by decide) (pc' := 8) rfl r1 (by decide) (fun c => ?_) (fun c => ?_)
  · have h := h.2 c
    rw [if_neg c] at k
    refine z_iconst (pc' := 16) dX12_compare_15 rfl ?_
    refine z_istore_n (pc' := 17) (ls' := [(0, zR 0), (1, zI (-1))]) rfl (by decide) rfl rfl dX12_compare_16 rfl ?_
    refine z_iload_n (pc' := 18) 1 rfl rfl dX12_compare_17 rfl ?_
    refine z_invS (as := [zI (-1)]) (st := []) (C := m_X12_isSign) (pc' := 21) dX12_compare_18 rfl t_7_79 k_X12_isSign rfl rfl (Nat.le_of_ble_eq_true rfl) ?_
    obtain ⟨r2, h⟩ := h
    refine c_M_isSign r2 ?_
    show z_Wp m_X12_compare _ 21 [(0, zR 0), (1, zI (-1))] [zI (F_M_isSign w (-1))] w _
    refine z_if_ne 29 dX12_compare_21 (by decide) (pc' := 24) rfl (z_rb b_M_isSign) (fun c => ?_) (fun c => ?_)
    · have h := h.2 c
      rw [if_neg c] at k
      refine z_aload_n (pc' := 30) 0 rfl rfl dX12_compare_29 rfl ?_
      refine z_dup (pc' := 31) rfl dX12_compare_30 rfl ?_
      refine z_getI2 (v := w 0 3) (pc' := 34) g_X12_102 (by decide) rfl rfl rfl dX12_compare_31 rfl ?_
      refine z_iconst (pc' := 35) dX12_compare_34 rfl ?_
      refine z_iadd (pc' := 36) dX12_compare_35 rfl ?_
      refine z_putI (pc' := 39) p_X12_102 (by decide) rfl rfl rfl rfl dX12_compare_36 rfl ?_
      refine z_aload_n (pc' := 40) 0 rfl rfl dX12_compare_39 rfl ?_
      refine z_invV (as := []) (st := []) (C := m_X12_sum) (fs := [0, 3, 0, 0, 0, 0, 4, 5, 6, 7, 8, 9, 10, 0, 0, 11, 12, 13, 14, 15, 16, 0, 0, 0, 17, 18, 19, 20, 0, 0, 0, 21, 22, 0, 0, 23, 0, 1, 24, 0, 0, 25, 26, 0, 27, 0]) (pc' := 43) dX12_compare_40 rfl t_7_56 k_X12_sum rfl (by decide) rfl rfl rfl rfl (Nat.le_of_ble_eq_true rfl) ?_
      obtain ⟨r3, h⟩ := h
      refine z_dcast (d' := d + n9 + 3) (by omega) (ihr.2.2.1 r3 ?_)
      show z_Wp m_X12_compare _ 43 [(0, zR 0), (1, zI (-1))] [] (F_MP n9 2 (z_up w 0 3 ((w 0 3) + 1))) _
      refine z_aload_n (pc' := 44) 0 rfl rfl dX12_compare_43 rfl ?_
      refine z_iload_n (pc' := 45) 1 rfl rfl dX12_compare_44 rfl ?_
      refine z_bipush (pc' := 47) (by decide) dX12_compare_45 rfl ?_
      refine z_icmp_ne 55 dX12_compare_47 (by decide) (pc' := 50) rfl (by decide) (by decide) (fun _ => ?_) (fun c => absurd c (by decide))
      refine z_iload_n (pc' := 56) 1 rfl rfl dX12_compare_55 rfl ?_
      refine z_bipush (pc' := 58) (by decide) dX12_compare_56 rfl ?_
      refine z_icmp_ne 66 dX12_compare_58 (by decide) (pc' := 61) rfl (by decide) (by decide) (fun _ => ?_) (fun c => absurd c (by decide))
      refine z_bipush (pc' := 68) (by decide) dX12_compare_66 rfl ?_
      refine z_iconst (pc' := 69) dX12_compare_68 rfl ?_
      refine z_invV (as := [zI 8, zI 0]) (st := []) (C := m_X12_put) (fs := [0, 3, 0, 0, 0, 0, 4, 5, 6, 7, 8, 9, 10, 0, 0, 11, 12, 13, 14, 15, 16, 0, 0, 0, 17, 18, 19, 20, 0, 0, 0, 21, 22, 0, 0, 23, 0, 1, 24, 0, 0, 25, 26, 0, 27, 0]) (pc' := 72) dX12_compare_69 rfl t_7_48 k_X12_put rfl (by decide) rfl rfl rfl rfl (Nat.le_of_ble_eq_true rfl) ?_
      have r4 := h
      refine c_M_put r4 ?_
      show z_Wp m_X12_compare _ 72 [(0, zR 0), (1, zI (-1))] [] (F_M_put (F_MP n9 2 (z_up w 0 3 ((w 0 3) + 1))) 8 0) _
      refine z_vret rfl dX12_compare_72 ?_
      try dsimp only at k
      exact k
    · have h := h.1 c
      rw [if_pos c] at k
      refine z_aload_n (pc' := 25) 0 rfl rfl dX12_compare_24 rfl ?_
      refine z_invV (as := []) (st := []) (C := m_X12_bad) (fs := [0, 3, 0, 0, 0, 0, 4, 5, 6, 7, 8, 9, 10, 0, 0, 11, 12, 13, 14, 15, 16, 0, 0, 0, 17, 18, 19, 20, 0, 0, 0, 21, 22, 0, 0, 23, 0, 1, 24, 0, 0, 25, 26, 0, 27, 0]) (pc' := 28) dX12_compare_25 rfl t_7_13 k_X12_bad rfl (by decide) rfl rfl rfl rfl (Nat.le_of_ble_eq_true rfl) ?_
      have r5 := h
      refine c_M_bad r5 ?_
      show z_Wp m_X12_compare _ 28 [(0, zR 0), (1, zI (-1))] [] (F_M_bad w) _
      refine z_vret rfl dX12_compare_28 ?_
      try dsimp only at k
      exact k
  · have h := h.1 c
    rw [if_pos c] at k
    refine z_aload_n (pc' := 9) 0 rfl rfl dX12_compare_8 rfl ?_
    refine z_invV (as := []) (st := []) (C := m_X12_look) (fs := [0, 3, 0, 0, 0, 0, 4, 5, 6, 7, 8, 9, 10, 0, 0, 11, 12, 13, 14, 15, 16, 0, 0, 0, 17, 18, 19, 20, 0, 0, 0, 21, 22, 0, 0, 23, 0, 1, 24, 0, 0, 25, 26, 0, 27, 0]) (pc' := 12) dX12_compare_9 rfl t_6_218 k_X12_look rfl (by decide) rfl rfl rfl rfl (Nat.le_of_ble_eq_true rfl) ?_
    obtain ⟨r6, h⟩ := h
    refine c_M_look r6 ?_
    show z_Wp m_X12_compare _ 12 [(0, zR 0)] [zI ((F_M_look w).1)] ((F_M_look w).2) _
    refine z_goto 16 dX12_compare_12 (by decide) ?_
    refine z_istore_n (pc' := 17) (ls' := [(0, zR 0), (1, zI ((F_M_look w).1))]) rfl (by decide) rfl rfl dX12_compare_16 rfl ?_
    refine z_iload_n (pc' := 18) 1 rfl rfl dX12_compare_17 rfl ?_
    refine z_invS (as := [zI ((F_M_look w).1)]) (st := []) (C := m_X12_isSign) (pc' := 21) dX12_compare_18 rfl t_7_79 k_X12_isSign rfl rfl (Nat.le_of_ble_eq_true rfl) ?_
    obtain ⟨r7, h⟩ := h
    refine c_M_isSign r7 ?_
    show z_Wp m_X12_compare _ 21 [(0, zR 0), (1, zI ((F_M_look w).1))] [zI (F_M_isSign ((F_M_look w).2) ((F_M_look w).1))] ((F_M_look w).2) _
    refine z_if_ne 29 dX12_compare_21 (by decide) (pc' := 24) rfl (z_rb b_M_isSign) (fun c => ?_) (fun c => ?_)
    · have h := h.2 c
      rw [if_neg c] at k
      refine z_aload_n (pc' := 30) 0 rfl rfl dX12_compare_29 rfl ?_
      refine z_dup (pc' := 31) rfl dX12_compare_30 rfl ?_
      refine z_getI2 (v := ((F_M_look w).2) 0 3) (pc' := 34) g_X12_102 (by decide) rfl rfl rfl dX12_compare_31 rfl ?_
      refine z_iconst (pc' := 35) dX12_compare_34 rfl ?_
      refine z_iadd (pc' := 36) dX12_compare_35 rfl ?_
      refine z_putI (pc' := 39) p_X12_102 (by decide) rfl rfl rfl rfl dX12_compare_36 rfl ?_
      refine z_aload_n (pc' := 40) 0 rfl rfl dX12_compare_39 rfl ?_
      refine z_invV (as := []) (st := []) (C := m_X12_sum) (fs := [0, 3, 0, 0, 0, 0, 4, 5, 6, 7, 8, 9, 10, 0, 0, 11, 12, 13, 14, 15, 16, 0, 0, 0, 17, 18, 19, 20, 0, 0, 0, 21, 22, 0, 0, 23, 0, 1, 24, 0, 0, 25, 26, 0, 27, 0]) (pc' := 43) dX12_compare_40 rfl t_7_56 k_X12_sum rfl (by decide) rfl rfl rfl rfl (Nat.le_of_ble_eq_true rfl) ?_
      obtain ⟨r8, h⟩ := h
      refine z_dcast (d' := d + n9 + 3) (by omega) (ihr.2.2.1 r8 ?_)
      show z_Wp m_X12_compare _ 43 [(0, zR 0), (1, zI ((F_M_look w).1))] [] (F_MP n9 2 (z_up ((F_M_look w).2) 0 3 ((((F_M_look w).2) 0 3) + 1))) _
      refine z_aload_n (pc' := 44) 0 rfl rfl dX12_compare_43 rfl ?_
      refine z_iload_n (pc' := 45) 1 rfl rfl dX12_compare_44 rfl ?_
      refine z_bipush (pc' := 47) (by decide) dX12_compare_45 rfl ?_
      obtain ⟨r9, h⟩ := h
      refine z_icmp_ne 55 dX12_compare_47 (by decide) (pc' := 50) rfl r9 (by decide) (fun c => ?_) (fun c => ?_)
      · have h := h.2 c
        rw [if_neg c] at k
        refine z_iload_n (pc' := 56) 1 rfl rfl dX12_compare_55 rfl ?_
        refine z_bipush (pc' := 58) (by decide) dX12_compare_56 rfl ?_
        refine z_icmp_ne 66 dX12_compare_58 (by decide) (pc' := 61) rfl r9 (by decide) (fun c => ?_) (fun c => ?_)
        · have h := h.2 c
          rw [if_neg c] at k
          refine z_bipush (pc' := 68) (by decide) dX12_compare_66 rfl ?_
          refine z_iconst (pc' := 69) dX12_compare_68 rfl ?_
          refine z_invV (as := [zI 8, zI 0]) (st := []) (C := m_X12_put) (fs := [0, 3, 0, 0, 0, 0, 4, 5, 6, 7, 8, 9, 10, 0, 0, 11, 12, 13, 14, 15, 16, 0, 0, 0, 17, 18, 19, 20, 0, 0, 0, 21, 22, 0, 0, 23, 0, 1, 24, 0, 0, 25, 26, 0, 27, 0]) (pc' := 72) dX12_compare_69 rfl t_7_48 k_X12_put rfl (by decide) rfl rfl rfl rfl (Nat.le_of_ble_eq_true rfl) ?_
          have r10 := h
          refine c_M_put r10 ?_
          show z_Wp m_X12_compare _ 72 [(0, zR 0), (1, zI ((F_M_look w).1))] [] (F_M_put (F_MP n9 2 (z_up ((F_M_look w).2) 0 3 ((((F_M_look w).2) 0 3) + 1))) 8 0) _
          refine z_vret rfl dX12_compare_72 ?_
          try dsimp only at k
          exact k
        · have h := h.1 c
          rw [if_pos c] at k
          refine z_bipush (pc' := 63) (by decide) dX12_compare_61 rfl ?_
          refine z_goto 68 dX12_compare_63 (by decide) ?_
          refine z_iconst (pc' := 69) dX12_compare_68 rfl ?_
          refine z_invV (as := [zI 7, zI 0]) (st := []) (C := m_X12_put) (fs := [0, 3, 0, 0, 0, 0, 4, 5, 6, 7, 8, 9, 10, 0, 0, 11, 12, 13, 14, 15, 16, 0, 0, 0, 17, 18, 19, 20, 0, 0, 0, 21, 22, 0, 0, 23, 0, 1, 24, 0, 0, 25, 26, 0, 27, 0]) (pc' := 72) dX12_compare_69 rfl t_7_48 k_X12_put rfl (by decide) rfl rfl rfl rfl (Nat.le_of_ble_eq_true rfl) ?_
          have r11 := h
          refine c_M_put r11 ?_
          show z_Wp m_X12_compare _ 72 [(0, zR 0), (1, zI ((F_M_look w).1))] [] (F_M_put (F_MP n9 2 (z_up ((F_M_look w).2) 0 3 ((((F_M_look w).2) 0 3) + 1))) 7 0) _
          refine z_vret rfl dX12_compare_72 ?_
          try dsimp only at k
          exact k
      · have h := h.1 c
        rw [if_pos c] at k
        refine z_bipush (pc' := 52) (by decide) dX12_compare_50 rfl ?_
        refine z_goto 68 dX12_compare_52 (by decide) ?_
        refine z_iconst (pc' := 69) dX12_compare_68 rfl ?_
        refine z_invV (as := [zI 6, zI 0]) (st := []) (C := m_X12_put) (fs := [0, 3, 0, 0, 0, 0, 4, 5, 6, 7, 8, 9, 10, 0, 0, 11, 12, 13, 14, 15, 16, 0, 0, 0, 17, 18, 19, 20, 0, 0, 0, 21, 22, 0, 0, 23, 0, 1, 24, 0, 0, 25, 26, 0, 27, 0]) (pc' := 72) dX12_compare_69 rfl t_7_48 k_X12_put rfl (by decide) rfl rfl rfl rfl (Nat.le_of_ble_eq_true rfl) ?_
        have r12 := h
        refine c_M_put r12 ?_
        show z_Wp m_X12_compare _ 72 [(0, zR 0), (1, zI ((F_M_look w).1))] [] (F_M_put (F_MP n9 2 (z_up ((F_M_look w).2) 0 3 ((((F_M_look w).2) 0 3) + 1))) 6 0) _
        refine z_vret rfl dX12_compare_72 ?_
        try dsimp only at k
        exact k
    · have h := h.1 c
      rw [if_pos c] at k
      refine z_aload_n (pc' := 25) 0 rfl rfl dX12_compare_24 rfl ?_
      refine z_invV (as := []) (st := []) (C := m_X12_bad) (fs := [0, 3, 0, 0, 0, 0, 4, 5, 6, 7, 8, 9, 10, 0, 0, 11, 12, 13, 14, 15, 16, 0, 0, 0, 17, 18, 19, 20, 0, 0, 0, 21, 22, 0, 0, 23, 0, 1, 24, 0, 0, 25, 26, 0, 27, 0]) (pc' := 28) dX12_compare_25 rfl t_7_13 k_X12_bad rfl (by decide) rfl rfl rfl rfl (Nat.le_of_ble_eq_true rfl) ?_
      have r13 := h
      refine c_M_bad r13 ?_
      show z_Wp m_X12_compare _ 28 [(0, zR 0), (1, zI ((F_M_look w).1))] [] (F_M_bad ((F_M_look w).2)) _
      refine z_vret rfl dX12_compare_28 ?_
      try dsimp only at k
      exact k
set_option maxHeartbeats 2000000 in
set_option maxRecDepth 4000 in
theorem st_M_unit {d n9 : Nat} (ihr : S_MP d n9) : S_M_unit d (n9 + 1) := by
  intro w  Q h k
  have eh : P_MP (n9 + 1) 4 w  = ((P_M_look w) ∧ (-2147483648 ≤ (F_M_look w).1 ∧ (F_M_look w).1 < 2147483648) ∧ (((F_M_look w).1 = 33 → (P_M_opens ((F_M_look w).2)) ∧ (-2147483648 ≤ (F_M_opens ((F_M_look w).2)) 0 4 ∧ (F_M_opens ((F_M_look w).2)) 0 4 < 2147483648) ∧ (((F_M_opens ((F_M_look w).2)) 0 4 = (-1) → (P_MP n9 4 (F_M_opens ((F_M_look w).2))) ∧ (P_M_put (F_MP n9 4 (F_M_opens ((F_M_look w).2))) 9 0)) ∧ (¬ ((F_M_opens ((F_M_look w).2)) 0 4 = (-1)) → True))) ∧ (¬ ((F_M_look w).1 = 33) → ((F_M_look w).1 = 40 → (P_M_opens ((F_M_look w).2)) ∧ (-2147483648 ≤ (F_M_opens ((F_M_look w).2)) 0 4 ∧ (F_M_opens ((F_M_look w).2)) 0 4 < 2147483648) ∧ (((F_M_opens ((F_M_look w).2)) 0 4 = (-1) → (P_MP n9 7 (F_M_opens ((F_M_look w).2))) ∧ (P_M_closes (F_MP n9 7 (F_M_opens ((F_M_look w).2))) 41)) ∧ (¬ ((F_M_opens ((F_M_look w).2)) 0 4 = (-1)) → True))) ∧ (¬ ((F_M_look w).1 = 40) → (P_MP n9 2 ((F_M_look w).2)) ∧ (-2147483648 ≤ (F_MP n9 2 ((F_M_look w).2)) 0 4 ∧ (F_MP n9 2 ((F_M_look w).2)) 0 4 < 2147483648) ∧ (((F_MP n9 2 ((F_M_look w).2)) 0 4 = (-1) → P_MP n9 3 (F_MP n9 2 ((F_M_look w).2))) ∧ (¬ ((F_MP n9 2 ((F_M_look w).2)) 0 4 = (-1)) → True)))))) := by rw [P_MP]
  have ek : F_MP (n9 + 1) 4 w  = (if (F_M_look w).1 = 33 then if (F_M_opens ((F_M_look w).2)) 0 4 = (-1) then z_up (F_M_put (F_MP n9 4 (F_M_opens ((F_M_look w).2))) 9 0) 0 5 (((F_M_put (F_MP n9 4 (F_M_opens ((F_M_look w).2))) 9 0) 0 5) - 1) else F_M_opens ((F_M_look w).2) else if (F_M_look w).1 = 40 then if (F_M_opens ((F_M_look w).2)) 0 4 = (-1) then F_M_closes (F_MP n9 7 (F_M_opens ((F_M_look w).2))) 41 else F_M_opens ((F_M_look w).2) else if (F_MP n9 2 ((F_M_look w).2)) 0 4 = (-1) then F_MP n9 3 (F_MP n9 2 ((F_M_look w).2)) else F_MP n9 2 ((F_M_look w).2)) := by rw [F_MP]
  rw [eh] at h
  rw [ek] at k
  clear eh ek
  refine z_enter rfl (Nat.le_of_ble_eq_true rfl) ?_
  show z_Wp m_X12_unit _ 0 [(0, zR 0)] [] w _
  refine z_aload_n (pc' := 1) 0 rfl rfl dX12_unit_0 rfl ?_
  refine z_invV (as := []) (st := []) (C := m_X12_look) (fs := [0, 3, 0, 0, 0, 0, 4, 5, 6, 7, 8, 9, 10, 0, 0, 11, 12, 13, 14, 15, 16, 0, 0, 0, 17, 18, 19, 20, 0, 0, 0, 21, 22, 0, 0, 23, 0, 1, 24, 0, 0, 25, 26, 0, 27, 0]) (pc' := 4) dX12_unit_1 rfl t_6_218 k_X12_look rfl (by decide) rfl rfl rfl rfl (Nat.le_of_ble_eq_true rfl) ?_
  obtain ⟨r1, h⟩ := h
  refine c_M_look r1 ?_
  show z_Wp m_X12_unit _ 4 [(0, zR 0)] [zI ((F_M_look w).1)] ((F_M_look w).2) _
  refine z_istore_n (pc' := 5) (ls' := [(0, zR 0), (1, zI ((F_M_look w).1))]) rfl (by decide) rfl rfl dX12_unit_4 rfl ?_
  refine z_iload_n (pc' := 6) 1 rfl rfl dX12_unit_5 rfl ?_
  refine z_bipush (pc' := 8) (by decide) dX12_unit_6 rfl ?_
  obtain ⟨r2, h⟩ := h
  refine z_icmp_ne 47 dX12_unit_8 (by decide) (pc' := 11) rfl r2 (by decide) (fun c => ?_) (fun c => ?_)
  · have h := h.2 c
    rw [if_neg c] at k
    refine z_iload_n (pc' := 48) 1 rfl rfl dX12_unit_47 rfl ?_
    refine z_bipush (pc' := 50) (by decide) dX12_unit_48 rfl ?_
    refine z_icmp_ne 78 dX12_unit_50 (by decide) (pc' := 53) rfl r2 (by decide) (fun c => ?_) (fun c => ?_)
    · have h := h.2 c
      rw [if_neg c] at k
      refine z_aload_n (pc' := 79) 0 rfl rfl dX12_unit_78 rfl ?_
      refine z_invV (as := []) (st := []) (C := m_X12_sum) (fs := [0, 3, 0, 0, 0, 0, 4, 5, 6, 7, 8, 9, 10, 0, 0, 11, 12, 13, 14, 15, 16, 0, 0, 0, 17, 18, 19, 20, 0, 0, 0, 21, 22, 0, 0, 23, 0, 1, 24, 0, 0, 25, 26, 0, 27, 0]) (pc' := 82) dX12_unit_79 rfl t_7_56 k_X12_sum rfl (by decide) rfl rfl rfl rfl (Nat.le_of_ble_eq_true rfl) ?_
      obtain ⟨r3, h⟩ := h
      refine z_dcast (d' := d + n9 + 3) (by omega) (ihr.2.2.1 r3 ?_)
      show z_Wp m_X12_unit _ 82 [(0, zR 0), (1, zI ((F_M_look w).1))] [] (F_MP n9 2 ((F_M_look w).2)) _
      refine z_aload_n (pc' := 83) 0 rfl rfl dX12_unit_82 rfl ?_
      refine z_getI2 (v := (F_MP n9 2 ((F_M_look w).2)) 0 4) (pc' := 86) g_X12_109 (by decide) rfl rfl rfl dX12_unit_83 rfl ?_
      refine z_iconst (pc' := 87) dX12_unit_86 rfl ?_
      obtain ⟨r4, h⟩ := h
      refine z_icmp_ne 94 dX12_unit_87 (by decide) (pc' := 90) rfl r4 (by decide) (fun c => ?_) (fun c => ?_)
      · have h := h.2 c
        rw [if_neg c] at k
        refine z_vret rfl dX12_unit_94 ?_
        try dsimp only at k
        exact k
      · have h := h.1 c
        rw [if_pos c] at k
        refine z_aload_n (pc' := 91) 0 rfl rfl dX12_unit_90 rfl ?_
        refine z_invV (as := []) (st := []) (C := m_X12_compare) (fs := [0, 3, 0, 0, 0, 0, 4, 5, 6, 7, 8, 9, 10, 0, 0, 11, 12, 13, 14, 15, 16, 0, 0, 0, 17, 18, 19, 20, 0, 0, 0, 21, 22, 0, 0, 23, 0, 1, 24, 0, 0, 25, 26, 0, 27, 0]) (pc' := 94) dX12_unit_91 rfl t_7_75 k_X12_compare rfl (by decide) rfl rfl rfl rfl (Nat.le_of_ble_eq_true rfl) ?_
        have r5 := h
        refine z_dcast (d' := d + n9 + 3) (by omega) (ihr.2.2.2.1 r5 ?_)
        show z_Wp m_X12_unit _ 94 [(0, zR 0), (1, zI ((F_M_look w).1))] [] (F_MP n9 3 (F_MP n9 2 ((F_M_look w).2))) _
        refine z_vret rfl dX12_unit_94 ?_
        try dsimp only at k
        exact k
    · have h := h.1 c
      rw [if_pos c] at k
      refine z_aload_n (pc' := 54) 0 rfl rfl dX12_unit_53 rfl ?_
      refine z_invV (as := []) (st := []) (C := m_X12_opens) (fs := [0, 3, 0, 0, 0, 0, 4, 5, 6, 7, 8, 9, 10, 0, 0, 11, 12, 13, 14, 15, 16, 0, 0, 0, 17, 18, 19, 20, 0, 0, 0, 21, 22, 0, 0, 23, 0, 1, 24, 0, 0, 25, 26, 0, 27, 0]) (pc' := 57) dX12_unit_54 rfl t_7_44 k_X12_opens rfl (by decide) rfl rfl rfl rfl (Nat.le_of_ble_eq_true rfl) ?_
      obtain ⟨r6, h⟩ := h
      refine c_M_opens r6 ?_
      show z_Wp m_X12_unit _ 57 [(0, zR 0), (1, zI ((F_M_look w).1))] [] (F_M_opens ((F_M_look w).2)) _
      refine z_aload_n (pc' := 58) 0 rfl rfl dX12_unit_57 rfl ?_
      refine z_getI2 (v := (F_M_opens ((F_M_look w).2)) 0 4) (pc' := 61) g_X12_109 (by decide) rfl rfl rfl dX12_unit_58 rfl ?_
      refine z_iconst (pc' := 62) dX12_unit_61 rfl ?_
      obtain ⟨r7, h⟩ := h
      refine z_icmp_ne 94 dX12_unit_62 (by decide) (pc' := 65) rfl r7 (by decide) (fun c => ?_) (fun c => ?_)
      · have h := h.2 c
        rw [if_neg c] at k
        refine z_vret rfl dX12_unit_94 ?_
        try dsimp only at k
        exact k
      · have h := h.1 c
        rw [if_pos c] at k
        refine z_aload_n (pc' := 66) 0 rfl rfl dX12_unit_65 rfl ?_
        refine z_invV (as := []) (st := []) (C := m_X12_condition) (fs := [0, 3, 0, 0, 0, 0, 4, 5, 6, 7, 8, 9, 10, 0, 0, 11, 12, 13, 14, 15, 16, 0, 0, 0, 17, 18, 19, 20, 0, 0, 0, 21, 22, 0, 0, 23, 0, 1, 24, 0, 0, 25, 26, 0, 27, 0]) (pc' := 69) dX12_unit_66 rfl t_7_36 k_X12_condition rfl (by decide) rfl rfl rfl rfl (Nat.le_of_ble_eq_true rfl) ?_
        obtain ⟨r8, h⟩ := h
        refine z_dcast (d' := d + n9 + 3) (by omega) (ihr.2.2.2.2.2.2.2 r8 ?_)
        show z_Wp m_X12_unit _ 69 [(0, zR 0), (1, zI ((F_M_look w).1))] [] (F_MP n9 7 (F_M_opens ((F_M_look w).2))) _
        refine z_aload_n (pc' := 70) 0 rfl rfl dX12_unit_69 rfl ?_
        refine z_bipush (pc' := 72) (by decide) dX12_unit_70 rfl ?_
        refine z_invV (as := [zI 41]) (st := []) (C := m_X12_closes) (fs := [0, 3, 0, 0, 0, 0, 4, 5, 6, 7, 8, 9, 10, 0, 0, 11, 12, 13, 14, 15, 16, 0, 0, 0, 17, 18, 19, 20, 0, 0, 0, 21, 22, 0, 0, 23, 0, 1, 24, 0, 0, 25, 26, 0, 27, 0]) (pc' := 75) dX12_unit_72 rfl t_7_52 k_X12_closes rfl (by decide) rfl rfl rfl rfl (Nat.le_of_ble_eq_true rfl) ?_
        have r9 := h
        refine c_M_closes r9 ?_
        show z_Wp m_X12_unit _ 75 [(0, zR 0), (1, zI ((F_M_look w).1))] [] (F_M_closes (F_MP n9 7 (F_M_opens ((F_M_look w).2))) 41) _
        refine z_goto 94 dX12_unit_75 (by decide) ?_
        refine z_vret rfl dX12_unit_94 ?_
        try dsimp only at k
        exact k
  · have h := h.1 c
    rw [if_pos c] at k
    refine z_aload_n (pc' := 12) 0 rfl rfl dX12_unit_11 rfl ?_
    refine z_invV (as := []) (st := []) (C := m_X12_opens) (fs := [0, 3, 0, 0, 0, 0, 4, 5, 6, 7, 8, 9, 10, 0, 0, 11, 12, 13, 14, 15, 16, 0, 0, 0, 17, 18, 19, 20, 0, 0, 0, 21, 22, 0, 0, 23, 0, 1, 24, 0, 0, 25, 26, 0, 27, 0]) (pc' := 15) dX12_unit_12 rfl t_7_44 k_X12_opens rfl (by decide) rfl rfl rfl rfl (Nat.le_of_ble_eq_true rfl) ?_
    obtain ⟨r10, h⟩ := h
    refine c_M_opens r10 ?_
    show z_Wp m_X12_unit _ 15 [(0, zR 0), (1, zI ((F_M_look w).1))] [] (F_M_opens ((F_M_look w).2)) _
    refine z_aload_n (pc' := 16) 0 rfl rfl dX12_unit_15 rfl ?_
    refine z_getI2 (v := (F_M_opens ((F_M_look w).2)) 0 4) (pc' := 19) g_X12_109 (by decide) rfl rfl rfl dX12_unit_16 rfl ?_
    refine z_iconst (pc' := 20) dX12_unit_19 rfl ?_
    obtain ⟨r11, h⟩ := h
    refine z_icmp_ne 94 dX12_unit_20 (by decide) (pc' := 23) rfl r11 (by decide) (fun c => ?_) (fun c => ?_)
    · have h := h.2 c
      rw [if_neg c] at k
      refine z_vret rfl dX12_unit_94 ?_
      try dsimp only at k
      exact k
    · have h := h.1 c
      rw [if_pos c] at k
      refine z_aload_n (pc' := 24) 0 rfl rfl dX12_unit_23 rfl ?_
      refine z_invV (as := []) (st := []) (C := m_X12_unit) (fs := [0, 3, 0, 0, 0, 0, 4, 5, 6, 7, 8, 9, 10, 0, 0, 11, 12, 13, 14, 15, 16, 0, 0, 0, 17, 18, 19, 20, 0, 0, 0, 21, 22, 0, 0, 23, 0, 1, 24, 0, 0, 25, 26, 0, 27, 0]) (pc' := 27) dX12_unit_24 rfl t_7_40 k_X12_unit rfl (by decide) rfl rfl rfl rfl (Nat.le_of_ble_eq_true rfl) ?_
      obtain ⟨r12, h⟩ := h
      refine z_dcast (d' := d + n9 + 3) (by omega) (ihr.2.2.2.2.1 r12 ?_)
      show z_Wp m_X12_unit _ 27 [(0, zR 0), (1, zI ((F_M_look w).1))] [] (F_MP n9 4 (F_M_opens ((F_M_look w).2))) _
      refine z_aload_n (pc' := 28) 0 rfl rfl dX12_unit_27 rfl ?_
      refine z_bipush (pc' := 30) (by decide) dX12_unit_28 rfl ?_
      refine z_iconst (pc' := 31) dX12_unit_30 rfl ?_
      refine z_invV (as := [zI 9, zI 0]) (st := []) (C := m_X12_put) (fs := [0, 3, 0, 0, 0, 0, 4, 5, 6, 7, 8, 9, 10, 0, 0, 11, 12, 13, 14, 15, 16, 0, 0, 0, 17, 18, 19, 20, 0, 0, 0, 21, 22, 0, 0, 23, 0, 1, 24, 0, 0, 25, 26, 0, 27, 0]) (pc' := 34) dX12_unit_31 rfl t_7_48 k_X12_put rfl (by decide) rfl rfl rfl rfl (Nat.le_of_ble_eq_true rfl) ?_
      have r13 := h
      refine c_M_put r13 ?_
      show z_Wp m_X12_unit _ 34 [(0, zR 0), (1, zI ((F_M_look w).1))] [] (F_M_put (F_MP n9 4 (F_M_opens ((F_M_look w).2))) 9 0) _
      refine z_aload_n (pc' := 35) 0 rfl rfl dX12_unit_34 rfl ?_
      refine z_dup (pc' := 36) rfl dX12_unit_35 rfl ?_
      refine z_getI2 (v := (F_M_put (F_MP n9 4 (F_M_opens ((F_M_look w).2))) 9 0) 0 5) (pc' := 39) g_X12_115 (by decide) rfl rfl rfl dX12_unit_36 rfl ?_
      refine z_iconst (pc' := 40) dX12_unit_39 rfl ?_
      refine z_isub (pc' := 41) dX12_unit_40 rfl ?_
      refine z_putI (pc' := 44) p_X12_115 (by decide) rfl rfl rfl rfl dX12_unit_41 rfl ?_
      refine z_goto 94 dX12_unit_44 (by decide) ?_
      refine z_vret rfl dX12_unit_94 ?_
      try dsimp only at k
      exact k
set_option maxHeartbeats 2000000 in
set_option maxRecDepth 4000 in
theorem st_M_goOnAnd {d n9 : Nat} (ihr : S_MP d n9) : S_M_goOnAnd d (n9 + 1) := by
  intro w  Q h k
  have eh : P_MP (n9 + 1) 5 w  = (PL_M_goOnAnd_0 w (F_MP n9) (P_MP n9) 300 w) := by rw [P_MP]
  have ek : F_MP (n9 + 1) 5 w  = (L_M_goOnAnd_0 w (F_MP n9) 300 w) := by rw [F_MP]
  rw [eh] at h
  rw [ek] at k
  clear eh ek
  refine z_enter rfl (Nat.le_of_ble_eq_true rfl) ?_
  show z_Wp m_X12_goOnAnd _ 0 [(0, zR 0)] [] w _
  have hl : ∀ (m9 : Nat) (wu : z_Wd), PL_M_goOnAnd_0 w (F_MP n9) (P_MP n9) m9 wu → Q none (L_M_goOnAnd_0 w (F_MP n9) m9 wu) → z_Wp m_X12_goOnAnd (d + (n9 + 1) + 3) 0 [(0, zR 0)] [] wu Q := by
    clear h k
    intro m9
    induction m9 with
    | zero => intro wu h k; exact False.elim h
    | succ m9 ih =>
      intro wu h k
      have h : (-2147483648 ≤ wu 0 4 ∧ wu 0 4 < 2147483648) ∧ ((wu 0 4 = (-1) → (P_M_look wu) ∧ (-2147483648 ≤ (F_M_look wu).1 ∧ (F_M_look wu).1 < 2147483648) ∧ (((F_M_look wu).1 = 38 → (P_MP n9 4 (z_up ((F_M_look wu).2) 0 3 ((((F_M_look wu).2) 0 3) + 1))) ∧ (P_M_put (F_MP n9 4 (z_up ((F_M_look wu).2) 0 3 ((((F_M_look wu).2) 0 3) + 1))) 10 0) ∧ (PL_M_goOnAnd_0 w (F_MP n9) (P_MP n9) m9 (F_M_put (F_MP n9 4 (z_up ((F_M_look wu).2) 0 3 ((((F_M_look wu).2) 0 3) + 1))) 10 0))) ∧ (¬ ((F_M_look wu).1 = 38) → True))) ∧ (¬ (wu 0 4 = (-1)) → True)) := h
      have k : Q none (if wu 0 4 = (-1) then if (F_M_look wu).1 = 38 then L_M_goOnAnd_0 w (F_MP n9) m9 (F_M_put (F_MP n9 4 (z_up ((F_M_look wu).2) 0 3 ((((F_M_look wu).2) 0 3) + 1))) 10 0) else (F_M_look wu).2 else wu) := k
      refine z_aload_n (pc' := 1) 0 rfl rfl dX12_goOnAnd_0 rfl ?_
      refine z_getI2 (v := wu 0 4) (pc' := 4) g_X12_109 (by decide) rfl rfl rfl dX12_goOnAnd_1 rfl ?_
      refine z_iconst (pc' := 5) dX12_goOnAnd_4 rfl ?_
      obtain ⟨r6, h⟩ := h
      refine z_icmp_ne 41 dX12_goOnAnd_5 (by decide) (pc' := 8) rfl r6 (by decide) (fun c => ?_) (fun c => ?_)
      · have h := h.2 c
        rw [if_neg c] at k
        refine z_vret rfl dX12_goOnAnd_41 ?_
        try dsimp only at k
        exact k
      · have h := h.1 c
        rw [if_pos c] at k
        refine z_aload_n (pc' := 9) 0 rfl rfl dX12_goOnAnd_8 rfl ?_
        refine z_invV (as := []) (st := []) (C := m_X12_look) (fs := [0, 3, 0, 0, 0, 0, 4, 5, 6, 7, 8, 9, 10, 0, 0, 11, 12, 13, 14, 15, 16, 0, 0, 0, 17, 18, 19, 20, 0, 0, 0, 21, 22, 0, 0, 23, 0, 1, 24, 0, 0, 25, 26, 0, 27, 0]) (pc' := 12) dX12_goOnAnd_9 rfl t_6_218 k_X12_look rfl (by decide) rfl rfl rfl rfl (Nat.le_of_ble_eq_true rfl) ?_
        obtain ⟨r7, h⟩ := h
        refine c_M_look r7 ?_
        show z_Wp m_X12_goOnAnd _ 12 [(0, zR 0)] [zI ((F_M_look wu).1)] ((F_M_look wu).2) _
        refine z_bipush (pc' := 14) (by decide) dX12_goOnAnd_12 rfl ?_
        obtain ⟨r8, h⟩ := h
        refine z_icmp_ne 41 dX12_goOnAnd_14 (by decide) (pc' := 17) rfl r8 (by decide) (fun c => ?_) (fun c => ?_)
        · have h := h.2 c
          rw [if_neg c] at k
          refine z_vret rfl dX12_goOnAnd_41 ?_
          try dsimp only at k
          exact k
        · have h := h.1 c
          rw [if_pos c] at k
          refine z_aload_n (pc' := 18) 0 rfl rfl dX12_goOnAnd_17 rfl ?_
          refine z_dup (pc' := 19) rfl dX12_goOnAnd_18 rfl ?_
          refine z_getI2 (v := ((F_M_look wu).2) 0 3) (pc' := 22) g_X12_102 (by decide) rfl rfl rfl dX12_goOnAnd_19 rfl ?_
          refine z_iconst (pc' := 23) dX12_goOnAnd_22 rfl ?_
          refine z_iadd (pc' := 24) dX12_goOnAnd_23 rfl ?_
          refine z_putI (pc' := 27) p_X12_102 (by decide) rfl rfl rfl rfl dX12_goOnAnd_24 rfl ?_
          refine z_aload_n (pc' := 28) 0 rfl rfl dX12_goOnAnd_27 rfl ?_
          refine z_invV (as := []) (st := []) (C := m_X12_unit) (fs := [0, 3, 0, 0, 0, 0, 4, 5, 6, 7, 8, 9, 10, 0, 0, 11, 12, 13, 14, 15, 16, 0, 0, 0, 17, 18, 19, 20, 0, 0, 0, 21, 22, 0, 0, 23, 0, 1, 24, 0, 0, 25, 26, 0, 27, 0]) (pc' := 31) dX12_goOnAnd_28 rfl t_7_40 k_X12_unit rfl (by decide) rfl rfl rfl rfl (Nat.le_of_ble_eq_true rfl) ?_
          obtain ⟨r9, h⟩ := h
          refine z_dcast (d' := d + n9 + 3) (by omega) (ihr.2.2.2.2.1 r9 ?_)
          show z_Wp m_X12_goOnAnd _ 31 [(0, zR 0)] [] (F_MP n9 4 (z_up ((F_M_look wu).2) 0 3 ((((F_M_look wu).2) 0 3) + 1))) _
          refine z_aload_n (pc' := 32) 0 rfl rfl dX12_goOnAnd_31 rfl ?_
          refine z_bipush (pc' := 34) (by decide) dX12_goOnAnd_32 rfl ?_
          refine z_iconst (pc' := 35) dX12_goOnAnd_34 rfl ?_
          refine z_invV (as := [zI 10, zI 0]) (st := []) (C := m_X12_put) (fs := [0, 3, 0, 0, 0, 0, 4, 5, 6, 7, 8, 9, 10, 0, 0, 11, 12, 13, 14, 15, 16, 0, 0, 0, 17, 18, 19, 20, 0, 0, 0, 21, 22, 0, 0, 23, 0, 1, 24, 0, 0, 25, 26, 0, 27, 0]) (pc' := 38) dX12_goOnAnd_35 rfl t_7_48 k_X12_put rfl (by decide) rfl rfl rfl rfl (Nat.le_of_ble_eq_true rfl) ?_
          obtain ⟨r10, h⟩ := h
          refine c_M_put r10 ?_
          show z_Wp m_X12_goOnAnd _ 38 [(0, zR 0)] [] (F_M_put (F_MP n9 4 (z_up ((F_M_look wu).2) 0 3 ((((F_M_look wu).2) 0 3) + 1))) 10 0) _
          refine z_goto 0 dX12_goOnAnd_38 (by decide) ?_
          exact ih _ h k
  exact hl 300 _ h k
set_option maxHeartbeats 2000000 in
set_option maxRecDepth 4000 in
theorem st_M_goOnOr {d n9 : Nat} (ihr : S_MP d n9) : S_M_goOnOr d (n9 + 1) := by
  intro w  Q h k
  have eh : P_MP (n9 + 1) 6 w  = (PL_M_goOnOr_0 w (F_MP n9) (P_MP n9) 300 w) := by rw [P_MP]
  have ek : F_MP (n9 + 1) 6 w  = (L_M_goOnOr_0 w (F_MP n9) 300 w) := by rw [F_MP]
  rw [eh] at h
  rw [ek] at k
  clear eh ek
  refine z_enter rfl (Nat.le_of_ble_eq_true rfl) ?_
  show z_Wp m_X12_goOnOr _ 0 [(0, zR 0)] [] w _
  have hl : ∀ (m9 : Nat) (wu : z_Wd), PL_M_goOnOr_0 w (F_MP n9) (P_MP n9) m9 wu → Q none (L_M_goOnOr_0 w (F_MP n9) m9 wu) → z_Wp m_X12_goOnOr (d + (n9 + 1) + 3) 0 [(0, zR 0)] [] wu Q := by
    clear h k
    intro m9
    induction m9 with
    | zero => intro wu h k; exact False.elim h
    | succ m9 ih =>
      intro wu h k
      have h : (-2147483648 ≤ wu 0 4 ∧ wu 0 4 < 2147483648) ∧ ((wu 0 4 = (-1) → (P_M_look wu) ∧ (-2147483648 ≤ (F_M_look wu).1 ∧ (F_M_look wu).1 < 2147483648) ∧ (((F_M_look wu).1 = 124 → (P_MP n9 4 (z_up ((F_M_look wu).2) 0 3 ((((F_M_look wu).2) 0 3) + 1))) ∧ (P_MP n9 5 (F_MP n9 4 (z_up ((F_M_look wu).2) 0 3 ((((F_M_look wu).2) 0 3) + 1)))) ∧ (P_M_put (F_MP n9 5 (F_MP n9 4 (z_up ((F_M_look wu).2) 0 3 ((((F_M_look wu).2) 0 3) + 1)))) 11 0) ∧ (PL_M_goOnOr_0 w (F_MP n9) (P_MP n9) m9 (F_M_put (F_MP n9 5 (F_MP n9 4 (z_up ((F_M_look wu).2) 0 3 ((((F_M_look wu).2) 0 3) + 1)))) 11 0))) ∧ (¬ ((F_M_look wu).1 = 124) → True))) ∧ (¬ (wu 0 4 = (-1)) → True)) := h
      have k : Q none (if wu 0 4 = (-1) then if (F_M_look wu).1 = 124 then L_M_goOnOr_0 w (F_MP n9) m9 (F_M_put (F_MP n9 5 (F_MP n9 4 (z_up ((F_M_look wu).2) 0 3 ((((F_M_look wu).2) 0 3) + 1)))) 11 0) else (F_M_look wu).2 else wu) := k
      refine z_aload_n (pc' := 1) 0 rfl rfl dX12_goOnOr_0 rfl ?_
      refine z_getI2 (v := wu 0 4) (pc' := 4) g_X12_109 (by decide) rfl rfl rfl dX12_goOnOr_1 rfl ?_
      refine z_iconst (pc' := 5) dX12_goOnOr_4 rfl ?_
      obtain ⟨r7, h⟩ := h
      refine z_icmp_ne 45 dX12_goOnOr_5 (by decide) (pc' := 8) rfl r7 (by decide) (fun c => ?_) (fun c => ?_)
      · have h := h.2 c
        rw [if_neg c] at k
        refine z_vret rfl dX12_goOnOr_45 ?_
        try dsimp only at k
        exact k
      · have h := h.1 c
        rw [if_pos c] at k
        refine z_aload_n (pc' := 9) 0 rfl rfl dX12_goOnOr_8 rfl ?_
        refine z_invV (as := []) (st := []) (C := m_X12_look) (fs := [0, 3, 0, 0, 0, 0, 4, 5, 6, 7, 8, 9, 10, 0, 0, 11, 12, 13, 14, 15, 16, 0, 0, 0, 17, 18, 19, 20, 0, 0, 0, 21, 22, 0, 0, 23, 0, 1, 24, 0, 0, 25, 26, 0, 27, 0]) (pc' := 12) dX12_goOnOr_9 rfl t_6_218 k_X12_look rfl (by decide) rfl rfl rfl rfl (Nat.le_of_ble_eq_true rfl) ?_
        obtain ⟨r8, h⟩ := h
        refine c_M_look r8 ?_
        show z_Wp m_X12_goOnOr _ 12 [(0, zR 0)] [zI ((F_M_look wu).1)] ((F_M_look wu).2) _
        refine z_bipush (pc' := 14) (by decide) dX12_goOnOr_12 rfl ?_
        obtain ⟨r9, h⟩ := h
        refine z_icmp_ne 45 dX12_goOnOr_14 (by decide) (pc' := 17) rfl r9 (by decide) (fun c => ?_) (fun c => ?_)
        · have h := h.2 c
          rw [if_neg c] at k
          refine z_vret rfl dX12_goOnOr_45 ?_
          try dsimp only at k
          exact k
        · have h := h.1 c
          rw [if_pos c] at k
          refine z_aload_n (pc' := 18) 0 rfl rfl dX12_goOnOr_17 rfl ?_
          refine z_dup (pc' := 19) rfl dX12_goOnOr_18 rfl ?_
          refine z_getI2 (v := ((F_M_look wu).2) 0 3) (pc' := 22) g_X12_102 (by decide) rfl rfl rfl dX12_goOnOr_19 rfl ?_
          refine z_iconst (pc' := 23) dX12_goOnOr_22 rfl ?_
          refine z_iadd (pc' := 24) dX12_goOnOr_23 rfl ?_
          refine z_putI (pc' := 27) p_X12_102 (by decide) rfl rfl rfl rfl dX12_goOnOr_24 rfl ?_
          refine z_aload_n (pc' := 28) 0 rfl rfl dX12_goOnOr_27 rfl ?_
          refine z_invV (as := []) (st := []) (C := m_X12_unit) (fs := [0, 3, 0, 0, 0, 0, 4, 5, 6, 7, 8, 9, 10, 0, 0, 11, 12, 13, 14, 15, 16, 0, 0, 0, 17, 18, 19, 20, 0, 0, 0, 21, 22, 0, 0, 23, 0, 1, 24, 0, 0, 25, 26, 0, 27, 0]) (pc' := 31) dX12_goOnOr_28 rfl t_7_40 k_X12_unit rfl (by decide) rfl rfl rfl rfl (Nat.le_of_ble_eq_true rfl) ?_
          obtain ⟨r10, h⟩ := h
          refine z_dcast (d' := d + n9 + 3) (by omega) (ihr.2.2.2.2.1 r10 ?_)
          show z_Wp m_X12_goOnOr _ 31 [(0, zR 0)] [] (F_MP n9 4 (z_up ((F_M_look wu).2) 0 3 ((((F_M_look wu).2) 0 3) + 1))) _
          refine z_aload_n (pc' := 32) 0 rfl rfl dX12_goOnOr_31 rfl ?_
          refine z_invV (as := []) (st := []) (C := m_X12_goOnAnd) (fs := [0, 3, 0, 0, 0, 0, 4, 5, 6, 7, 8, 9, 10, 0, 0, 11, 12, 13, 14, 15, 16, 0, 0, 0, 17, 18, 19, 20, 0, 0, 0, 21, 22, 0, 0, 23, 0, 1, 24, 0, 0, 25, 26, 0, 27, 0]) (pc' := 35) dX12_goOnOr_32 rfl t_7_82 k_X12_goOnAnd rfl (by decide) rfl rfl rfl rfl (Nat.le_of_ble_eq_true rfl) ?_
          obtain ⟨r11, h⟩ := h
          refine z_dcast (d' := d + n9 + 3) (by omega) (ihr.2.2.2.2.2.1 r11 ?_)
          show z_Wp m_X12_goOnOr _ 35 [(0, zR 0)] [] (F_MP n9 5 (F_MP n9 4 (z_up ((F_M_look wu).2) 0 3 ((((F_M_look wu).2) 0 3) + 1)))) _
          refine z_aload_n (pc' := 36) 0 rfl rfl dX12_goOnOr_35 rfl ?_
          refine z_bipush (pc' := 38) (by decide) dX12_goOnOr_36 rfl ?_
          refine z_iconst (pc' := 39) dX12_goOnOr_38 rfl ?_
          refine z_invV (as := [zI 11, zI 0]) (st := []) (C := m_X12_put) (fs := [0, 3, 0, 0, 0, 0, 4, 5, 6, 7, 8, 9, 10, 0, 0, 11, 12, 13, 14, 15, 16, 0, 0, 0, 17, 18, 19, 20, 0, 0, 0, 21, 22, 0, 0, 23, 0, 1, 24, 0, 0, 25, 26, 0, 27, 0]) (pc' := 42) dX12_goOnOr_39 rfl t_7_48 k_X12_put rfl (by decide) rfl rfl rfl rfl (Nat.le_of_ble_eq_true rfl) ?_
          obtain ⟨r12, h⟩ := h
          refine c_M_put r12 ?_
          show z_Wp m_X12_goOnOr _ 42 [(0, zR 0)] [] (F_M_put (F_MP n9 5 (F_MP n9 4 (z_up ((F_M_look wu).2) 0 3 ((((F_M_look wu).2) 0 3) + 1)))) 11 0) _
          refine z_goto 0 dX12_goOnOr_42 (by decide) ?_
          exact ih _ h k
  exact hl 300 _ h k
set_option maxHeartbeats 2000000 in
set_option maxRecDepth 4000 in
theorem st_M_condition {d n9 : Nat} (ihr : S_MP d n9) : S_M_condition d (n9 + 1) := by
  intro w  Q h k
  have eh : P_MP (n9 + 1) 7 w  = ((P_MP n9 4 w) ∧ (P_MP n9 5 (F_MP n9 4 w)) ∧ (P_MP n9 6 (F_MP n9 5 (F_MP n9 4 w)))) := by rw [P_MP]
  have ek : F_MP (n9 + 1) 7 w  = (F_MP n9 6 (F_MP n9 5 (F_MP n9 4 w))) := by rw [F_MP]
  rw [eh] at h
  rw [ek] at k
  clear eh ek
  refine z_enter rfl (Nat.le_of_ble_eq_true rfl) ?_
  show z_Wp m_X12_condition _ 0 [(0, zR 0)] [] w _
  refine z_aload_n (pc' := 1) 0 rfl rfl dX12_condition_0 rfl ?_
  refine z_invV (as := []) (st := []) (C := m_X12_unit) (fs := [0, 3, 0, 0, 0, 0, 4, 5, 6, 7, 8, 9, 10, 0, 0, 11, 12, 13, 14, 15, 16, 0, 0, 0, 17, 18, 19, 20, 0, 0, 0, 21, 22, 0, 0, 23, 0, 1, 24, 0, 0, 25, 26, 0, 27, 0]) (pc' := 4) dX12_condition_1 rfl t_7_40 k_X12_unit rfl (by decide) rfl rfl rfl rfl (Nat.le_of_ble_eq_true rfl) ?_
  obtain ⟨r1, h⟩ := h
  refine z_dcast (d' := d + n9 + 3) (by omega) (ihr.2.2.2.2.1 r1 ?_)
  show z_Wp m_X12_condition _ 4 [(0, zR 0)] [] (F_MP n9 4 w) _
  refine z_aload_n (pc' := 5) 0 rfl rfl dX12_condition_4 rfl ?_
  refine z_invV (as := []) (st := []) (C := m_X12_goOnAnd) (fs := [0, 3, 0, 0, 0, 0, 4, 5, 6, 7, 8, 9, 10, 0, 0, 11, 12, 13, 14, 15, 16, 0, 0, 0, 17, 18, 19, 20, 0, 0, 0, 21, 22, 0, 0, 23, 0, 1, 24, 0, 0, 25, 26, 0, 27, 0]) (pc' := 8) dX12_condition_5 rfl t_7_82 k_X12_goOnAnd rfl (by decide) rfl rfl rfl rfl (Nat.le_of_ble_eq_true rfl) ?_
  obtain ⟨r2, h⟩ := h
  refine z_dcast (d' := d + n9 + 3) (by omega) (ihr.2.2.2.2.2.1 r2 ?_)
  show z_Wp m_X12_condition _ 8 [(0, zR 0)] [] (F_MP n9 5 (F_MP n9 4 w)) _
  refine z_aload_n (pc' := 9) 0 rfl rfl dX12_condition_8 rfl ?_
  refine z_invV (as := []) (st := []) (C := m_X12_goOnOr) (fs := [0, 3, 0, 0, 0, 0, 4, 5, 6, 7, 8, 9, 10, 0, 0, 11, 12, 13, 14, 15, 16, 0, 0, 0, 17, 18, 19, 20, 0, 0, 0, 21, 22, 0, 0, 23, 0, 1, 24, 0, 0, 25, 26, 0, 27, 0]) (pc' := 12) dX12_condition_9 rfl t_7_86 k_X12_goOnOr rfl (by decide) rfl rfl rfl rfl (Nat.le_of_ble_eq_true rfl) ?_
  have r3 := h
  refine z_dcast (d' := d + n9 + 3) (by omega) (ihr.2.2.2.2.2.2.1 r3 ?_)
  show z_Wp m_X12_condition _ 12 [(0, zR 0)] [] (F_MP n9 6 (F_MP n9 5 (F_MP n9 4 w))) _
  refine z_vret rfl dX12_condition_12 ?_
  try dsimp only at k
  exact k
theorem st_MP (d : Nat) : ∀ n9, S_MP d n9
  | 0 => ⟨fun h _ => False.elim h, fun h _ => False.elim h, fun h _ => False.elim h, fun h _ => False.elim h, fun h _ => False.elim h, fun h _ => False.elim h, fun h _ => False.elim h, fun h _ => False.elim h⟩
  | n9 + 1 => ⟨st_M_atom (st_MP d n9), st_M_term (st_MP d n9), st_M_sum (st_MP d n9), st_M_compare (st_MP d n9), st_M_unit (st_MP d n9), st_M_goOnAnd (st_MP d n9), st_M_goOnOr (st_MP d n9), st_M_condition (st_MP d n9)⟩
def F_M_atom (w : z_Wd) : z_Wd := F_MP 60 0 w 
def P_M_atom (w : z_Wd) : Prop := P_MP 60 0 w 
theorem c_M_atom {d : Nat} {w : z_Wd} {Q : Option z_V → z_Wd → Prop} (h : P_M_atom w ) (k : Q none (F_M_atom w )) : z_Wc (d + 63) m_X12_atom [zR 0] w Q := (st_MP d 60).1 h k
def F_M_term (w : z_Wd) : z_Wd := F_MP 60 1 w 
def P_M_term (w : z_Wd) : Prop := P_MP 60 1 w 
theorem c_M_term {d : Nat} {w : z_Wd} {Q : Option z_V → z_Wd → Prop} (h : P_M_term w ) (k : Q none (F_M_term w )) : z_Wc (d + 63) m_X12_term [zR 0] w Q := (st_MP d 60).2.1 h k
def F_M_sum (w : z_Wd) : z_Wd := F_MP 60 2 w 
def P_M_sum (w : z_Wd) : Prop := P_MP 60 2 w 
theorem c_M_sum {d : Nat} {w : z_Wd} {Q : Option z_V → z_Wd → Prop} (h : P_M_sum w ) (k : Q none (F_M_sum w )) : z_Wc (d + 63) m_X12_sum [zR 0] w Q := (st_MP d 60).2.2.1 h k
def F_M_compare (w : z_Wd) : z_Wd := F_MP 60 3 w 
def P_M_compare (w : z_Wd) : Prop := P_MP 60 3 w 
theorem c_M_compare {d : Nat} {w : z_Wd} {Q : Option z_V → z_Wd → Prop} (h : P_M_compare w ) (k : Q none (F_M_compare w )) : z_Wc (d + 63) m_X12_compare [zR 0] w Q := (st_MP d 60).2.2.2.1 h k
def F_M_unit (w : z_Wd) : z_Wd := F_MP 60 4 w 
def P_M_unit (w : z_Wd) : Prop := P_MP 60 4 w 
theorem c_M_unit {d : Nat} {w : z_Wd} {Q : Option z_V → z_Wd → Prop} (h : P_M_unit w ) (k : Q none (F_M_unit w )) : z_Wc (d + 63) m_X12_unit [zR 0] w Q := (st_MP d 60).2.2.2.2.1 h k
def F_M_goOnAnd (w : z_Wd) : z_Wd := F_MP 60 5 w 
def P_M_goOnAnd (w : z_Wd) : Prop := P_MP 60 5 w 
theorem c_M_goOnAnd {d : Nat} {w : z_Wd} {Q : Option z_V → z_Wd → Prop} (h : P_M_goOnAnd w ) (k : Q none (F_M_goOnAnd w )) : z_Wc (d + 63) m_X12_goOnAnd [zR 0] w Q := (st_MP d 60).2.2.2.2.2.1 h k
def F_M_goOnOr (w : z_Wd) : z_Wd := F_MP 60 6 w 
def P_M_goOnOr (w : z_Wd) : Prop := P_MP 60 6 w 
theorem c_M_goOnOr {d : Nat} {w : z_Wd} {Q : Option z_V → z_Wd → Prop} (h : P_M_goOnOr w ) (k : Q none (F_M_goOnOr w )) : z_Wc (d + 63) m_X12_goOnOr [zR 0] w Q := (st_MP d 60).2.2.2.2.2.2.1 h k
def F_M_condition (w : z_Wd) : z_Wd := F_MP 60 7 w 
def P_M_condition (w : z_Wd) : Prop := P_MP 60 7 w 
theorem c_M_condition {d : Nat} {w : z_Wd} {Q : Option z_V → z_Wd → Prop} (h : P_M_condition w ) (k : Q none (F_M_condition w )) : z_Wc (d + 63) m_X12_condition [zR 0] w Q := (st_MP d 60).2.2.2.2.2.2.2 h k
