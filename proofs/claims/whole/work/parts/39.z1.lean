/-! the class's tape and the law's bound at 96fdac5: contracts by hand, the answers told as before -/
def E_T_behindBlanks_6 (w : z_Wd) (a0 : Int) (i6 : Nat) : Bool := if w 29 (((F_J_max_7cf53 w 0 a0) + (i6 : Int)).toNat) = 32 then false else true
def R_T_behindBlanks_6 (w : z_Wd) (a0 : Int) (i6 : Nat) : Int := if w 29 (((F_J_max_7cf53 w 0 a0) + (i6 : Int)).toNat) = 32 then 0 else (F_J_max_7cf53 w 0 a0) + (i6 : Int)
def P_T_behindBlanks (w : z_Wd) (a0 : Int) : Prop := (P_J_max_7cf53 w 0 a0) ∧ ((∀ i6 : Nat, i6 < (((w 28 1) - (F_J_max_7cf53 w 0 a0)).toNat) → zfind (E_T_behindBlanks_6 w a0) i6 = -1 → (-2147483648 ≤ (F_J_max_7cf53 w 0 a0) + (i6 : Int) ∧ (F_J_max_7cf53 w 0 a0) + (i6 : Int) < 2147483648) ∧ (-2147483648 ≤ w 28 1 ∧ w 28 1 < 2147483648) ∧ (0 ≤ (F_J_max_7cf53 w 0 a0) + (i6 : Int) ∧ (F_J_max_7cf53 w 0 a0) + (i6 : Int) < 240) ∧ (-2147483648 ≤ w 29 (((F_J_max_7cf53 w 0 a0) + (i6 : Int)).toNat) ∧ w 29 (((F_J_max_7cf53 w 0 a0) + (i6 : Int)).toNat) < 2147483648)) ∧ ((-2147483648 ≤ (F_J_max_7cf53 w 0 a0) + ((((w 28 1) - (F_J_max_7cf53 w 0 a0)).toNat : Nat) : Int) ∧ (F_J_max_7cf53 w 0 a0) + ((((w 28 1) - (F_J_max_7cf53 w 0 a0)).toNat : Nat) : Int) < 2147483648) ∧ (-2147483648 ≤ w 28 1 ∧ w 28 1 < 2147483648)))
def F_T_behindBlanks (w : z_Wd) (a0 : Int) : Int := if zfind (E_T_behindBlanks_6 w a0) (((w 28 1) - (F_J_max_7cf53 w 0 a0)).toNat) = -1 then (F_J_max_7cf53 w 0 a0) + ((((w 28 1) - (F_J_max_7cf53 w 0 a0)).toNat : Nat) : Int) else R_T_behindBlanks_6 w a0 (zfind (E_T_behindBlanks_6 w a0) (((w 28 1) - (F_J_max_7cf53 w 0 a0)).toNat)).toNat
theorem z_bbk {d : Nat} {w : z_Wd} {a0 : Int} {Q : Option z_V → z_Wd → Prop} (h : P_T_behindBlanks w a0) (k : Q (some (zI (F_T_behindBlanks w a0))) w) : z_Wp m_X10_behindBlanks d 10 [(0, zR 28), (2, zI (F_J_max_7cf53 w 0 a0))] [] w Q := by
  unfold P_T_behindBlanks at h
  unfold F_T_behindBlanks at k
  refine z_lcast (ls' := [(0, zR 28), (2, zI (F_J_max_7cf53 w 0 a0 + ((0 : Nat) : Int)))]) (by simp only [Int.natCast_zero, Int.add_zero]) ?_
  refine z_upto ((w 28 1 - F_J_max_7cf53 w 0 a0).toNat) (fun i => zfind (E_T_behindBlanks_6 w a0) i = -1 → z_Wp m_X10_behindBlanks d 10 [(0, zR 28), (2, zI (F_J_max_7cf53 w 0 a0 + (i : Int)))] [] w Q) ?_ ?_ rfl
  · intro hf
    rw [if_pos hf] at k
    exact v_T_behindBlanks_10 ⟨h.2.2.1, h.2.2.2, fun _ => k, fun c => absurd (show F_J_max_7cf53 w 0 a0 + (((w 28 1 - F_J_max_7cf53 w 0 a0).toNat : Nat) : Int) ≥ w 28 1 by omega) c⟩
  · intro i hi ih hf
    have h := h.2.1 i hi hf
    have hE : E_T_behindBlanks_6 w a0 i = (if w 29 ((F_J_max_7cf53 w 0 a0 + (i : Int)).toNat) = 32 then false else true) := rfl
    refine v_T_behindBlanks_10 ⟨h.1, h.2.1, fun c => absurd c (by omega), fun _ => ⟨h.2.2.1, h.2.2.2, fun c => ?_, fun c => ?_⟩⟩
    · rw [if_pos c] at hE
      exact z_lcast (by rw [z_ci]) (ih (zfind_miss hf (by rw [hE]; decide)))
    · rw [if_neg c] at hE
      have hz := zfind_hit hf hE _ hi
      rw [hz, if_neg (by omega), Int.toNat_natCast] at k
      unfold R_T_behindBlanks_6 at k
      rw [if_neg c] at k
      exact k
theorem c_T_behindBlanks {d : Nat} {w : z_Wd} {a0 : Int} {Q : Option z_V → z_Wd → Prop} (h : P_T_behindBlanks w a0) (k : Q (some (zI (F_T_behindBlanks w a0))) w) : z_Wc (d + 1) m_X10_behindBlanks [zR 28, zI a0] w Q := by
  have key := z_bbk (d := d + 1) h k
  refine v_T_behindBlanks ⟨h.1.2, fun c => ?_, fun c => ?_⟩
  · have e : F_J_max_7cf53 w 0 a0 = a0 := by
      unfold F_J_max_7cf53
      split <;> omega
    rw [e] at key
    exact key
  · have e : F_J_max_7cf53 w 0 a0 = 0 := by
      unfold F_J_max_7cf53
      split <;> omega
    rw [e] at key
    exact key
def E_T_digitsFrom_2 (w : z_Wd) (a0 : Int) (a1 : Int) (i5 : Nat) : Bool := if F_T_at w (a0 + (i5 : Int)) < 48 then true else if F_T_at w (a0 + (i5 : Int)) > 57 then true else false
def R_T_digitsFrom_2 (w : z_Wd) (a0 : Int) (a1 : Int) (i5 : Nat) : Int := if F_T_at w (a0 + (i5 : Int)) < 48 then (i5 : Int) else if F_T_at w (a0 + (i5 : Int)) > 57 then (i5 : Int) else 0
def P_T_digitsFrom (w : z_Wd) (a0 : Int) (a1 : Int) : Prop := (0 ≤ w 28 1 ∧ w 28 1 ≤ 240) ∧ (0 ≤ a0 ∧ a0 ≤ 1000000) ∧ (0 ≤ a1 ∧ a1 ≤ 1000000) ∧ (∀ i : Nat, (i : Int) < w 28 1 → -2147483648 ≤ w 29 i ∧ w 29 i < 2147483648)
def F_T_digitsFrom (w : z_Wd) (a0 : Int) (a1 : Int) : Int := if zfind (E_T_digitsFrom_2 w a0 a1) ((a1).toNat) = -1 then (((a1).toNat : Nat) : Int) else R_T_digitsFrom_2 w a0 a1 (zfind (E_T_digitsFrom_2 w a0 a1) ((a1).toNat)).toNat
theorem z_atin {w : z_Wd} {p : Int} (h : 0 ≤ p) (c : ¬ p ≥ w 28 1) : F_T_at w p = w 29 p.toNat := by
  unfold F_T_at
  rw [if_neg (show ¬ p < 0 by omega), if_neg c]
theorem z_atout {w : z_Wd} {p : Int} (h : 0 ≤ p) (c : p ≥ w 28 1) : F_T_at w p = 0 := by
  unfold F_T_at
  rw [if_neg (show ¬ p < 0 by omega), if_pos c]
theorem c_T_digitsFrom {d : Nat} {w : z_Wd} {a0 a1 : Int} {Q : Option z_V → z_Wd → Prop} (h : P_T_digitsFrom w a0 a1) (k : Q (some (zI (F_T_digitsFrom w a0 a1))) w) : z_Wc (d + 1) m_X10_digitsFrom [zR 28, zI a0, zI a1] w Q := by
  obtain ⟨h1, h2, h3, h4⟩ := h
  unfold F_T_digitsFrom at k
  refine v_T_digitsFrom ?_
  refine z_lcast (ls' := [(0, zR 28), (2, zI a1), (3, zI ((0 : Nat) : Int)), (4, zI (a0 + ((0 : Nat) : Int)))]) (by simp only [Int.natCast_zero, Int.add_zero]) ?_
  refine z_upto (a1.toNat) (fun i => zfind (E_T_digitsFrom_2 w a0 a1) i = -1 → z_Wp m_X10_digitsFrom (d + 1) 5 [(0, zR 28), (2, zI a1), (3, zI (i : Int)), (4, zI (a0 + (i : Int)))] [] w Q) ?_ ?_ rfl
  · intro hf
    rw [if_pos hf] at k
    exact v_T_digitsFrom_5 ⟨by omega, fun c => absurd c (by omega), fun _ => ⟨by omega, fun _ => k, fun _ => ⟨by omega, by omega, fun _ => k, fun c => absurd (show ((a1.toNat : Nat) : Int) ≥ a1 by omega) c⟩⟩⟩
  · intro i hi ih hf
    have hE : E_T_digitsFrom_2 w a0 a1 i = (if F_T_at w (a0 + (i : Int)) < 48 then true else if F_T_at w (a0 + (i : Int)) > 57 then true else false) := rfl
    have hit : (F_T_at w (a0 + (i : Int)) < 48 ∨ F_T_at w (a0 + (i : Int)) > 57) → Q (some (zI (i : Int))) w := fun c => by
      have e1 : E_T_digitsFrom_2 w a0 a1 i = true := by
        rw [hE]
        by_cases c1 : F_T_at w (a0 + (i : Int)) < 48
        · rw [if_pos c1]
        · rw [if_neg c1, if_pos (by omega)]
      have hz := zfind_hit hf e1 _ hi
      rw [hz, if_neg (by omega), Int.toNat_natCast] at k
      unfold R_T_digitsFrom_2 at k
      by_cases c1 : F_T_at w (a0 + (i : Int)) < 48
      · rw [if_pos c1] at k
        exact k
      · rw [if_neg c1, if_pos (by omega)] at k
        exact k
    refine v_T_digitsFrom_5 ⟨by omega, fun c => absurd c (by omega), fun _ => ⟨by omega, fun c => ?_, fun c => ?_⟩⟩
    · exact hit (by rw [z_atout (by omega) c]; omega)
    · have ea := z_atin (w := w) (p := a0 + (i : Int)) (by omega) c
      have hr := h4 (a0 + (i : Int)).toNat (by omega)
      rw [ea] at hit hE
      refine ⟨by omega, by omega, fun c => absurd c (by omega), fun _ => ⟨by omega, hr, fun c1 => hit (Or.inl c1), fun c1 => ⟨fun c2 => hit (Or.inr c2), fun c2 => ?_⟩⟩⟩
      rw [if_neg c1, if_neg c2] at hE
      exact z_lcast (by rw [z_ci, z_c0]) (ih (zfind_miss hf (by rw [hE]; decide)))
def A_T_number_5 (w : z_Wd) (a0 : Int) (a1 : Int) : Nat → Int
  | 0 => 0
  | i4 + 1 => (((A_T_number_5 w a0 a1 i4) * 10) + (F_T_at w (a0 + (i4 : Int)))) - 48
def P_T_number (w : z_Wd) (a0 : Int) (a1 : Int) : Prop := (0 ≤ w 28 1 ∧ w 28 1 ≤ 240) ∧ (0 ≤ a0 ∧ 0 ≤ a1 ∧ a0 + a1 ≤ w 28 1)
def F_T_number (w : z_Wd) (a0 : Int) (a1 : Int) : Int := A_T_number_5 w a0 a1 (a1).toNat
theorem c_T_number {d : Nat} {w : z_Wd} {a0 a1 : Int} {Q : Option z_V → z_Wd → Prop} (h : P_T_number w a0 a1) (k : Q (some (zI (F_T_number w a0 a1))) w) : z_Wc (d + 1) m_X10_number [zR 28, zI a0, zI a1] w Q := by
  obtain ⟨h1, h2, h3, h4⟩ := h
  unfold F_T_number at k
  refine v_T_number ?_
  refine z_lcast (ls' := [(0, zR 28), (1, zI a0), (2, zI a1), (3, zI (A_T_number_5 w a0 a1 0)), (4, zI (a0 + ((0 : Nat) : Int)))]) (by simp only [Int.natCast_zero, Int.add_zero, A_T_number_5]) ?_
  refine z_upto (a1.toNat) (fun i => z_Wp m_X10_number (d + 1) 5 [(0, zR 28), (1, zI a0), (2, zI a1), (3, zI (A_T_number_5 w a0 a1 i)), (4, zI (a0 + (i : Int)))] [] w Q) ?_ ?_
  · exact v_T_number_5 ⟨by omega, fun _ => k, fun _ => ⟨by omega, fun _ => k, fun _ => ⟨by omega, fun _ => k, fun c => absurd (show a0 + ((a1.toNat : Nat) : Int) ≥ a0 + a1 by omega) c⟩⟩⟩
  · intro i hi ih
    refine v_T_number_5 ⟨by omega, fun c => absurd c (by omega), fun _ => ⟨by omega, fun c => absurd c (by omega), fun c => ⟨by omega, fun c2 => absurd c2 (by omega), fun _ => ⟨by omega, ?_⟩⟩⟩⟩
    have ea := z_atin (w := w) (p := a0 + (i : Int)) (by omega) c
    have ih : z_Wp m_X10_number (d + 1) 5 [(0, zR 28), (1, zI a0), (2, zI a1), (3, zI ((((A_T_number_5 w a0 a1 i) * 10) + (F_T_at w (a0 + (i : Int)))) - 48)), (4, zI (a0 + ((i + 1 : Nat) : Int)))] [] w Q := ih
    rw [ea] at ih
    exact z_lcast (by rw [z_ci]) ih
def P_W_bounded (w : z_Wd) (a0 : Int) : Prop := (P_J_min_f86c9 w 1000000 a0) ∧ (P_J_max_f86c9 w (-1000000) (F_J_min_f86c9 w 1000000 a0))
def F_W_bounded (w : z_Wd) (a0 : Int) : Int := F_J_max_f86c9 w (-1000000) (F_J_min_f86c9 w 1000000 a0)
theorem z_cmp3 (x y : Int) : (z_cmp x y = 1 ∧ y < x) ∨ (z_cmp x y = 0 ∧ x = y) ∨ (z_cmp x y = -1 ∧ x < y) := by
  unfold z_cmp
  by_cases c : y < x
  · rw [if_pos c]
    exact Or.inl ⟨rfl, c⟩
  · rw [if_neg c]
    by_cases e : x = y
    · rw [if_pos e]
      exact Or.inr (Or.inl ⟨rfl, e⟩)
    · rw [if_neg e]
      exact Or.inr (Or.inr ⟨rfl, by omega⟩)
theorem z_bdd {w : z_Wd} {a0 : Int} : F_W_bounded w a0 = if a0 < -1000000 then -1000000 else if a0 > 1000000 then 1000000 else a0 := by
  unfold F_W_bounded F_J_max_f86c9 F_J_min_f86c9
  have z1 := z_cmp3 1000000 a0
  have z2 := z_cmp3 (-1000000) a0
  have z3 := z_cmp3 (-1000000) 1000000
  by_cases c : z_cmp 1000000 a0 > 0
  · rw [if_pos c]
    split <;> split <;> first | omega | (split <;> omega)
  · rw [if_neg c]
    split <;> split <;> first | omega | (split <;> omega)
theorem c_W_bounded {d : Nat} {w : z_Wd} {a0 : Int} {Q : Option z_V → z_Wd → Prop} (h : P_W_bounded w a0) (k : Q (some (zI (F_W_bounded w a0))) w) : z_Wc (d + 1) m_X4_bounded [zJ a0] w Q := by
  have z1 := z_cmp3 a0 1000000
  have z2 := z_cmp3 a0 (-1000000)
  rw [z_bdd] at k
  refine v_W_bounded ⟨h.1.2, fun c => ⟨fun c2 => ?_, fun c2 => ?_⟩, fun c => ?_⟩
  · rw [if_neg (show ¬ a0 < -1000000 by omega), if_neg (show ¬ a0 > 1000000 by omega)] at k
    exact k
  · rw [if_neg (show ¬ a0 < -1000000 by omega), if_pos (show a0 > 1000000 by omega)] at k
    exact k
  · rw [if_pos (show a0 < -1000000 by omega)] at k
    exact k
