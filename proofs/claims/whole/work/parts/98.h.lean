/-! the law's numbers -/
theorem t_digN {v : z_Wd} {q : Int} {n : Nat} : ∃ d : Nat, F_T_digitsFrom v q (n : Int) = (d : Int) ∧ d ≤ n ∧ (∀ i : Nat, i < d → t_dg (F_T_at v (q + (i : Int))) = true) ∧ (d < n → t_dg (F_T_at v (q + (d : Int))) = false) := by
  unfold F_T_digitsFrom
  rw [Int.toNat_natCast]
  by_cases c : zfind (E_T_digitsFrom_2 v q (n : Int)) n = -1
  · rw [if_pos c]
    refine ⟨n, rfl, Nat.le_refl n, fun i hi => ?_, fun z => absurd z (Nat.lt_irrefl n)⟩
    have z := zfind_none c i hi
    rw [t_E] at z
    cases y : t_dg (F_T_at v (q + (i : Int)))
    · rw [y] at z
      cases z
    · rfl
  · rw [if_neg c]
    have z1 := zfind_r (E_T_digitsFrom_2 v q (n : Int)) n
    have z2 := zfind_spec c
    have z3 := zfind_bef _ c
    generalize zfind (E_T_digitsFrom_2 v q (n : Int)) n = j at *
    obtain ⟨k, rfl⟩ := Int.eq_ofNat_of_zero_le (show 0 ≤ j by omega)
    rw [Int.toNat_natCast] at z2 ⊢
    rw [t_E] at z2
    have y : t_dg (F_T_at v (q + (k : Int))) = false := by
      cases y : t_dg (F_T_at v (q + (k : Int)))
      · rfl
      · rw [y] at z2
        cases z2
    refine ⟨k, t_R y, by omega, fun i hi => ?_, fun _ => y⟩
    have z := z3 i (by omega)
    rw [t_E] at z
    cases x : t_dg (F_T_at v (q + (i : Int)))
    · rw [x] at z
      cases z
    · rfl
/-- what the reference's plain number comes to -/
theorem t_pnL {w v : z_Wd} {q : Int} {d : Nat} (h : r_ta w v) (h4 : w 0 4 = -1) (hq : 0 ≤ q ∧ q ≤ 1000) (hd : d ≤ 5) (g1 : ∀ i : Nat, i < d → t_dg (F_T_at v (q + (i : Int))) = true) (g2 : d < 5 → t_dg (F_T_at v (q + (d : Int))) = false) : ∀ j i : Nat, i + j = 4 → i ≤ d → PL_M_plainNumber_4 w (j + 2) (A_T_number_5 v q 5 i) (i : Int) (z_up w 0 3 (q + (i : Int))) ∧ (L_M_plainNumber_4 w (j + 2) (A_T_number_5 v q 5 i) (i : Int) (z_up w 0 3 (q + (i : Int)))).2 = (if d = 5 then z_up (z_up w 0 3 (q + 4)) 0 4 (q + 4) else z_up w 0 3 (q + (d : Int))) ∧ (d ≤ 4 → (L_M_plainNumber_4 w (j + 2) (A_T_number_5 v q 5 i) (i : Int) (z_up w 0 3 (q + (i : Int)))).1 = A_T_number_5 v q 5 d) := by
  have hw : ∀ p : Int, 0 ≤ p → p ≤ 2000 → F_M_here (z_up w 0 3 p) = t_mc (F_T_at v p) ∧ P_M_here (z_up w 0 3 p) := fun p p0 p1 => by
    have t := t_here (w := z_up w 0 3 p) (v := v) (t_tac h (z_up_ne (by decide)) (z_up_other (by decide)) rfl rfl) (by rw [z_up_at]; omega)
    rw [z_up_at] at t
    exact ⟨t.1, t.2.1⟩
  have bd : ∀ p : Int, F_M_bad (z_up w 0 3 p) = z_up (z_up w 0 3 p) 0 4 p ∧ P_M_bad (z_up w 0 3 p) := fun p => by
    have t := t_bad (w := z_up w 0 3 p) (by rw [z_up_ne (by decide)]; exact h4)
    rw [z_up_at] at t
    exact t
  intro j
  induction j with
  | zero =>
    intro i hi hid
    have e4 : i = 4 := by omega
    subst e4
    obtain ⟨x1, x2⟩ := hw (q + ((4 : Nat) : Int)) (by omega) (by omega)
    have a := (t_atr (t_ta h) (p := q + ((4 : Nat) : Int)) (by omega)).1
    have is := t_isd (w := z_up w 0 3 (q + ((4 : Nat) : Int))) a
    simp only [PL_M_plainNumber_4, L_M_plainNumber_4]
    rw [x1, if_pos (show ((4 : Nat) : Int) ≥ 4 by decide), (bd _).1]
    by_cases c : d = 5
    · have y := g1 4 (by omega)
      have ny : ¬ F_M_isDigit (z_up w 0 3 (q + ((4 : Nat) : Int))) (t_mc (F_T_at v (q + ((4 : Nat) : Int)))) = 0 := by rw [is.1, y]; decide
      rw [if_neg ny, if_pos c]
      exact ⟨⟨by omega, fun _ => ⟨x2, is.2, fun z => absurd z ny, fun _ => (bd _).2⟩, fun z => absurd (by decide) z⟩, rfl, fun z => by omega⟩
    · have e : d = 4 := by omega
      subst e
      have y := g2 (by decide)
      have ny : F_M_isDigit (z_up w 0 3 (q + ((4 : Nat) : Int))) (t_mc (F_T_at v (q + ((4 : Nat) : Int)))) = 0 := by rw [is.1]; exact y
      rw [if_pos ny, if_neg c]
      exact ⟨⟨by omega, fun _ => ⟨x2, is.2, fun _ => trivial, fun z => absurd ny z⟩, fun z => absurd (by decide) z⟩, rfl, fun _ => rfl⟩
  | succ j ih =>
    intro i hi hid
    obtain ⟨x1, x2⟩ := hw (q + (i : Int)) (by omega) (by omega)
    have a := (t_atr (t_ta h) (p := q + (i : Int)) (by omega)).1
    have is := t_isd (w := z_up w 0 3 (q + (i : Int))) a
    rw [PL_M_plainNumber_4, L_M_plainNumber_4]
    rw [x1, if_neg (show ¬ (i : Int) ≥ 4 by omega), z_up_at, z_twice]
    by_cases c : i < d
    · have y := g1 i c
      have ny : ¬ F_M_isDigit (z_up w 0 3 (q + (i : Int))) (t_mc (F_T_at v (q + (i : Int)))) = 0 := by rw [is.1, y]; decide
      obtain ⟨i1, i2, i3⟩ := ih (i + 1) (by omega) (by omega)
      have en : 10 * A_T_number_5 v q 5 i + t_mc (F_T_at v (q + (i : Int))) - 48 = A_T_number_5 v q 5 (i + 1) := by
        rw [t_mcd y]
        simp only [A_T_number_5]
        omega
      have ei : (i : Int) + 1 = ((i + 1 : Nat) : Int) := by omega
      have eq : q + (i : Int) + 1 = q + ((i + 1 : Nat) : Int) := by omega
      rw [if_neg ny, en, ei, eq]
      exact ⟨⟨by omega, fun z => by omega, fun _ => ⟨x2, is.2, fun z => absurd z ny, fun _ => i1⟩⟩, i2, i3⟩
    · have e : d = i := by omega
      subst e
      have y := g2 (by omega)
      have ny : F_M_isDigit (z_up w 0 3 (q + (d : Int))) (t_mc (F_T_at v (q + (d : Int)))) = 0 := by rw [is.1]; exact y
      rw [if_pos ny, if_pos ny, if_neg (by omega)]
      exact ⟨⟨by omega, fun z => by omega, fun _ => ⟨x2, is.2, fun _ => ⟨fun _ => trivial, fun z => absurd ny z⟩, fun z => absurd ny z⟩⟩, rfl, fun _ => rfl⟩
