/-! reading: the items of a clause -/
def z_num (wu : z_Wd) (a0 u6 : Int) : Int × z_Wd := F_M_number (z_up wu 0 3 ((wu 0 3) + 1)) (F_M_lowest (z_up wu 0 3 ((wu 0 3) + 1)) a0 u6) (F_M_highest (z_up wu 0 3 ((wu 0 3) + 1)) a0 u6)
def z_sto (c : Nat) (wu : z_Wd) (a0 a2 u6 : Int) : z_Wd := z_up ((z_num wu a0 u6).2) c ((a2 + u6).toNat) ((z_num wu a0 u6).1)
def z_it (w : z_Wd) (c : Nat) (a0 a2 : Int) : Nat → Int → Int → z_Wd → z_Wd
  | 0, _, _, _ => w
  | n + 1, u5, u6, wu => if wu 0 4 = (-1) then if u6 = (-1) then wu else if F_M_has wu u5 u6 = 0 then if ((z_num wu a0 u6).2) 0 4 = (-1) then z_it w c a0 a2 n (zz_or u5 (zz_shl 1 u6)) (F_M_itemOf ((F_M_look (z_sto c wu a0 a2 u6)).2) a0 ((F_M_look (z_sto c wu a0 a2 u6)).1)) ((F_M_look (z_sto c wu a0 a2 u6)).2) else z_it w c a0 a2 n (zz_or u5 (zz_shl 1 u6)) (-1) (z_sto c wu a0 a2 u6) else wu else wu
def z_itP (w : z_Wd) (c : Nat) (b a0 a2 : Int) : Nat → Int → Int → z_Wd → Prop
  | 0, _, _, _ => False
  | n + 1, u5, u6, wu => (-2147483648 ≤ wu 0 4 ∧ wu 0 4 < 2147483648) ∧ ((wu 0 4 = (-1) → (-2147483648 ≤ u6 ∧ u6 < 2147483648) ∧ ((u6 = (-1) → True) ∧ (¬ (u6 = (-1)) → (P_M_has wu u5 u6) ∧ ((F_M_has wu u5 u6 = 0 → (P_M_lowest (z_up wu 0 3 ((wu 0 3) + 1)) a0 u6) ∧ (P_M_highest (z_up wu 0 3 ((wu 0 3) + 1)) a0 u6) ∧ (P_M_number (z_up wu 0 3 ((wu 0 3) + 1)) (F_M_lowest (z_up wu 0 3 ((wu 0 3) + 1)) a0 u6) (F_M_highest (z_up wu 0 3 ((wu 0 3) + 1)) a0 u6)) ∧ (0 ≤ a2 + u6 ∧ a2 + u6 < b) ∧ (-2147483648 ≤ ((z_num wu a0 u6).2) 0 4 ∧ ((z_num wu a0 u6).2) 0 4 < 2147483648) ∧ ((((z_num wu a0 u6).2) 0 4 = (-1) → (P_M_look (z_sto c wu a0 a2 u6)) ∧ (P_M_itemOf ((F_M_look (z_sto c wu a0 a2 u6)).2) a0 ((F_M_look (z_sto c wu a0 a2 u6)).1)) ∧ (z_itP w c b a0 a2 n (zz_or u5 (zz_shl 1 u6)) (F_M_itemOf ((F_M_look (z_sto c wu a0 a2 u6)).2) a0 ((F_M_look (z_sto c wu a0 a2 u6)).1)) ((F_M_look (z_sto c wu a0 a2 u6)).2))) ∧ (¬ (((z_num wu a0 u6).2) 0 4 = (-1)) → z_itP w c b a0 a2 n (zz_or u5 (zz_shl 1 u6)) (-1) (z_sto c wu a0 a2 u6)))) ∧ (¬ (F_M_has wu u5 u6 = 0) → True))))) ∧ (¬ (wu 0 4 = (-1)) → True))
theorem z_itL11 {w : z_Wd} {a0 a2 : Int} : ∀ (n : Nat) (u5 u6 : Int) (wu : z_Wd), L_M_items_11_41 w a0 a2 n u5 u6 wu = z_it w 11 a0 a2 n u5 u6 wu
  | 0, _, _, _ => rfl
  | n + 1, u5, u6, wu => by
    simp only [L_M_items_11_41, z_it, z_itL11 n]
    rfl
theorem z_itQ11 {w : z_Wd} {a0 a2 : Int} : ∀ (n : Nat) (u5 u6 : Int) (wu : z_Wd), z_itP w 11 2 a0 a2 n u5 u6 wu → PL_M_items_11_41 w a0 a2 n u5 u6 wu
  | 0, _, _, _, h => h
  | n + 1, u5, u6, wu, h => by
    obtain ⟨h1, h2, h3⟩ := h
    refine ⟨h1, fun z1 => ⟨(h2 z1).1, fun _ => trivial, fun z2 => ?_⟩, fun _ => trivial⟩
    obtain ⟨g1, g2, g3⟩ := (h2 z1).2.2 z2
    refine ⟨g1, fun z3 => ?_, fun _ => trivial⟩
    obtain ⟨k1, k2, k3, k4, k5, k6, k7⟩ := g2 z3
    exact ⟨k1, k2, k3, k4, k5, fun z4 => ⟨(k6 z4).1, (k6 z4).2.1, z_itQ11 n _ _ _ (k6 z4).2.2⟩, fun z4 => z_itQ11 n _ _ _ (k7 z4)⟩
theorem z_itL12 {w : z_Wd} {a0 a2 : Int} : ∀ (n : Nat) (u5 u6 : Int) (wu : z_Wd), L_M_items_12_41 w a0 a2 n u5 u6 wu = z_it w 12 a0 a2 n u5 u6 wu
  | 0, _, _, _ => rfl
  | n + 1, u5, u6, wu => by
    simp only [L_M_items_12_41, z_it, z_itL12 n]
    rfl
theorem z_itQ12 {w : z_Wd} {a0 a2 : Int} : ∀ (n : Nat) (u5 u6 : Int) (wu : z_Wd), z_itP w 12 8 a0 a2 n u5 u6 wu → PL_M_items_12_41 w a0 a2 n u5 u6 wu
  | 0, _, _, _, h => h
  | n + 1, u5, u6, wu, h => by
    obtain ⟨h1, h2, h3⟩ := h
    refine ⟨h1, fun z1 => ⟨(h2 z1).1, fun _ => trivial, fun z2 => ?_⟩, fun _ => trivial⟩
    obtain ⟨g1, g2, g3⟩ := (h2 z1).2.2 z2
    refine ⟨g1, fun z3 => ?_, fun _ => trivial⟩
    obtain ⟨k1, k2, k3, k4, k5, k6, k7⟩ := g2 z3
    exact ⟨k1, k2, k3, k4, k5, fun z4 => ⟨(k6 z4).1, (k6 z4).2.1, z_itQ12 n _ _ _ (k6 z4).2.2⟩, fun z4 => z_itQ12 n _ _ _ (k7 z4)⟩
theorem z_itL13 {w : z_Wd} {a0 a2 : Int} : ∀ (n : Nat) (u5 u6 : Int) (wu : z_Wd), L_M_items_13_41 w a0 a2 n u5 u6 wu = z_it w 13 a0 a2 n u5 u6 wu
  | 0, _, _, _ => rfl
  | n + 1, u5, u6, wu => by
    simp only [L_M_items_13_41, z_it, z_itL13 n]
    rfl
theorem z_itQ13 {w : z_Wd} {a0 a2 : Int} : ∀ (n : Nat) (u5 u6 : Int) (wu : z_Wd), z_itP w 13 21 a0 a2 n u5 u6 wu → PL_M_items_13_41 w a0 a2 n u5 u6 wu
  | 0, _, _, _, h => h
  | n + 1, u5, u6, wu, h => by
    obtain ⟨h1, h2, h3⟩ := h
    refine ⟨h1, fun z1 => ⟨(h2 z1).1, fun _ => trivial, fun z2 => ?_⟩, fun _ => trivial⟩
    obtain ⟨g1, g2, g3⟩ := (h2 z1).2.2 z2
    refine ⟨g1, fun z3 => ?_, fun _ => trivial⟩
    obtain ⟨k1, k2, k3, k4, k5, k6, k7⟩ := g2 z3
    exact ⟨k1, k2, k3, k4, k5, fun z4 => ⟨(k6 z4).1, (k6 z4).2.1, z_itQ13 n _ _ _ (k6 z4).2.2⟩, fun z4 => z_itQ13 n _ _ _ (k7 z4)⟩
theorem z_itL14 {w : z_Wd} {a0 a2 : Int} : ∀ (n : Nat) (u5 u6 : Int) (wu : z_Wd), L_M_items_14_41 w a0 a2 n u5 u6 wu = z_it w 14 a0 a2 n u5 u6 wu
  | 0, _, _, _ => rfl
  | n + 1, u5, u6, wu => by
    simp only [L_M_items_14_41, z_it, z_itL14 n]
    rfl
theorem z_itQ14 {w : z_Wd} {a0 a2 : Int} : ∀ (n : Nat) (u5 u6 : Int) (wu : z_Wd), z_itP w 14 12 a0 a2 n u5 u6 wu → PL_M_items_14_41 w a0 a2 n u5 u6 wu
  | 0, _, _, _, h => h
  | n + 1, u5, u6, wu, h => by
    obtain ⟨h1, h2, h3⟩ := h
    refine ⟨h1, fun z1 => ⟨(h2 z1).1, fun _ => trivial, fun z2 => ?_⟩, fun _ => trivial⟩
    obtain ⟨g1, g2, g3⟩ := (h2 z1).2.2 z2
    refine ⟨g1, fun z3 => ?_, fun _ => trivial⟩
    obtain ⟨k1, k2, k3, k4, k5, k6, k7⟩ := g2 z3
    exact ⟨k1, k2, k3, k4, k5, fun z4 => ⟨(k6 z4).1, (k6 z4).2.1, z_itQ14 n _ _ _ (k6 z4).2.2⟩, fun z4 => z_itQ14 n _ _ _ (k7 z4)⟩
/-- the class's items, as a recursion -/
def t_cl (k : Int) : Nat → Int → z_Wd → Int × z_Wd
  | 0, _, u => (1, u)
  | n + 1, t, u => if F_YR_itemOf u k (F_T_at u (u 33 2)) = (-1) then (1, u) else if zz_and (zz_shr t (F_YR_itemOf u k (F_T_at u (u 33 2)))) 1 = 1 then (0, u) else if (F_YR_readNumber (F_YR_step u) k (F_YR_itemOf u k (F_T_at u (u 33 2)))).1 = 0 then (0, (F_YR_readNumber (F_YR_step u) k (F_YR_itemOf u k (F_T_at u (u 33 2)))).2) else t_cl k n (zz_or t (zz_shl 1 (F_YR_itemOf u k (F_T_at u (u 33 2))))) (F_YR_readNumber (F_YR_step u) k (F_YR_itemOf u k (F_T_at u (u 33 2)))).2
def t_clP (k : Int) : Nat → Int → z_Wd → Prop
  | 0, _, _ => True
  | n + 1, t, u => P_T_at u (u 33 2) ∧ P_YR_itemOf u k (F_T_at u (u 33 2)) ∧ (-2147483648 ≤ F_YR_itemOf u k (F_T_at u (u 33 2)) ∧ F_YR_itemOf u k (F_T_at u (u 33 2)) < 2147483648) ∧ (¬ F_YR_itemOf u k (F_T_at u (u 33 2)) = (-1) → (-2147483648 ≤ zz_and (zz_shr t (F_YR_itemOf u k (F_T_at u (u 33 2)))) 1 ∧ zz_and (zz_shr t (F_YR_itemOf u k (F_T_at u (u 33 2)))) 1 < 2147483648) ∧ (¬ zz_and (zz_shr t (F_YR_itemOf u k (F_T_at u (u 33 2)))) 1 = 1 → P_YR_step u ∧ P_YR_readNumber (F_YR_step u) k (F_YR_itemOf u k (F_T_at u (u 33 2))) ∧ (-2147483648 ≤ (F_YR_readNumber (F_YR_step u) k (F_YR_itemOf u k (F_T_at u (u 33 2)))).1 ∧ (F_YR_readNumber (F_YR_step u) k (F_YR_itemOf u k (F_T_at u (u 33 2)))).1 < 2147483648) ∧ (¬ (F_YR_readNumber (F_YR_step u) k (F_YR_itemOf u k (F_T_at u (u 33 2)))).1 = 0 → t_clP k n (zz_or t (zz_shl 1 (F_YR_itemOf u k (F_T_at u (u 33 2))))) (F_YR_readNumber (F_YR_step u) k (F_YR_itemOf u k (F_T_at u (u 33 2)))).2)))
/-- one turn that goes on -/
theorem t_clE {v : z_Wd} {k : Int} (ek : F_YR_kindOf v (F_T_at v (v 33 2)) = k) {i : Nat} : (E_YR_readClause_41 v i = true → ∀ n, R_YR_readClause_41 v i = t_cl k (n + 1) (A_YR_readClause_41 v i).1 (A_YR_readClause_41 v i).2) ∧ (¬ E_YR_readClause_41 v i = true → (∀ n, t_cl k (n + 1) (A_YR_readClause_41 v i).1 (A_YR_readClause_41 v i).2 = t_cl k n (A_YR_readClause_41 v (i + 1)).1 (A_YR_readClause_41 v (i + 1)).2) ∧ ∀ n, t_clP k (n + 1) (A_YR_readClause_41 v i).1 (A_YR_readClause_41 v i).2 → t_clP k n (A_YR_readClause_41 v (i + 1)).1 (A_YR_readClause_41 v (i + 1)).2) := by
  unfold E_YR_readClause_41 R_YR_readClause_41
  simp only [A_YR_readClause_41, t_cl, t_clP, ek]
  generalize A_YR_readClause_41 v i = a
  generalize F_YR_itemOf a.2 k (F_T_at a.2 (a.2 33 2)) = it
  generalize F_YR_readNumber (F_YR_step a.2) k it = r
  by_cases c1 : it = -1
  · simp [c1]
  · by_cases c2 : zz_and (zz_shr a.1 it) 1 = 1
    · simp [c1, c2]
    · by_cases c3 : r.1 = 0
      · simp [c1, c2, c3]
      · simp only [if_neg c1, if_neg c2, if_neg c3]
        exact ⟨(fun z => by cases z), fun _ => ⟨fun _ => trivial, fun n h => ((h.2.2.2 c1).2 c2).2.2.2 c3⟩⟩
theorem t_clR {v : z_Wd} {k : Int} (ek : F_YR_kindOf v (F_T_at v (v 33 2)) = k) : ∀ j : Nat, j ≤ 3 → zfind (E_YR_readClause_41 v) (3 - j) = -1 → (if zfind (E_YR_readClause_41 v) 3 = -1 then (1, (A_YR_readClause_41 v 3).2) else R_YR_readClause_41 v (zfind (E_YR_readClause_41 v) 3).toNat) = t_cl k j (A_YR_readClause_41 v (3 - j)).1 (A_YR_readClause_41 v (3 - j)).2
  | 0, _, h => by
    rw [show 3 - 0 = 3 from rfl] at h ⊢
    rw [if_pos h]
    rfl
  | j + 1, hj, h => by
    obtain ⟨e1, e2⟩ := t_clE ek (i := 3 - (j + 1))
    have en : 3 - (j + 1) + 1 = 3 - j := by omega
    by_cases c : E_YR_readClause_41 v (3 - (j + 1)) = true
    · have z := zfind_hit h c 3 (by omega)
      rw [z, if_neg (by omega), Int.toNat_natCast]
      exact e1 c j
    · have z := zfind_miss h c
      rw [en] at z
      have ih := t_clR ek j (by omega) z
      rw [ih, (e2 c).1 j, en]
theorem t_clQ {v : z_Wd} {k : Int} (ek : F_YR_kindOf v (F_T_at v (v 33 2)) = k) (h0 : t_clP k 3 (A_YR_readClause_41 v 0).1 (A_YR_readClause_41 v 0).2) : ∀ i : Nat, i ≤ 3 → zfind (E_YR_readClause_41 v) i = -1 → t_clP k (3 - i) (A_YR_readClause_41 v i).1 (A_YR_readClause_41 v i).2
  | 0, _, _ => h0
  | i + 1, hi, h => by
    have hm : zfind (E_YR_readClause_41 v) i = -1 := by
      simp only [zfind] at h
      by_cases c : zfind (E_YR_readClause_41 v) i = -1
      · exact c
      · rw [if_neg c] at h
        exact h
    have hE : ¬ E_YR_readClause_41 v i = true := fun c => by
      simp only [zfind] at h
      rw [if_pos hm, if_pos c] at h
      omega
    have ih := t_clQ ek h0 i (by omega) hm
    rw [show 3 - i = 3 - (i + 1) + 1 by omega] at ih
    exact ((t_clE ek (i := i)).2 hE).2 _ ih
