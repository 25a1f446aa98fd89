/-! a ministry is taken -/
theorem k_26 {w : z_Wd} : ∀ n i : Nat, A_M_takeMinistry_26 w n 15 i = if i < n then w 11 i else w 15 i
  | 0, i => by
    rw [if_neg (by omega)]
    rfl
  | n + 1, i => by
    have f : z_fr [15] [(0, 28), (0, 29), (0, 30)] w (A_M_takeMinistry_26 w n) := fr_A_M_takeMinistry_26
    simp only [A_M_takeMinistry_26, Int.toNat_natCast]
    rw [fr_c f 11 rfl rfl]
    by_cases c : i = n
    · rw [c, z_up_at, if_pos (by omega)]
    · rw [z_up_ne c, k_26 n i]
      by_cases c2 : i < n
      · rw [if_pos c2, if_pos (by omega)]
      · rw [if_neg c2, if_neg (by omega)]
theorem k_51 {w s : z_Wd} : ∀ n i : Nat, A_M_takeMinistry_51 w s n 16 i = if i < n then s 12 i else s 16 i
  | 0, i => by
    rw [if_neg (by omega)]
    rfl
  | n + 1, i => by
    have f : z_fr [16] [] s (A_M_takeMinistry_51 w s n) := fr_A_M_takeMinistry_51
    simp only [A_M_takeMinistry_51, Int.toNat_natCast]
    rw [fr_c f 12 rfl rfl]
    by_cases c : i = n
    · rw [c, z_up_at, if_pos (by omega)]
    · rw [z_up_ne c, k_51 n i]
      by_cases c2 : i < n
      · rw [if_pos c2, if_pos (by omega)]
      · rw [if_neg c2, if_neg (by omega)]
theorem k_77 {w s : z_Wd} : ∀ n i : Nat, A_M_takeMinistry_77 w s n 17 i = if i < n then s 13 i else s 17 i
  | 0, i => by
    rw [if_neg (by omega)]
    rfl
  | n + 1, i => by
    have f : z_fr [17] [] s (A_M_takeMinistry_77 w s n) := fr_A_M_takeMinistry_77
    simp only [A_M_takeMinistry_77, Int.toNat_natCast]
    rw [fr_c f 13 rfl rfl]
    by_cases c : i = n
    · rw [c, z_up_at, if_pos (by omega)]
    · rw [z_up_ne c, k_77 n i]
      by_cases c2 : i < n
      · rw [if_pos c2, if_pos (by omega)]
      · rw [if_neg c2, if_neg (by omega)]
theorem k_103 {w s : z_Wd} : ∀ n i : Nat, A_M_takeMinistry_103 w s n 18 i = if i < n then s 14 i else s 18 i
  | 0, i => by
    rw [if_neg (by omega)]
    rfl
  | n + 1, i => by
    have f : z_fr [18] [] s (A_M_takeMinistry_103 w s n) := fr_A_M_takeMinistry_103
    simp only [A_M_takeMinistry_103, Int.toNat_natCast]
    rw [fr_c f 14 rfl rfl]
    by_cases c : i = n
    · rw [c, z_up_at, if_pos (by omega)]
    · rw [z_up_ne c, k_103 n i]
      by_cases c2 : i < n
      · rw [if_pos c2, if_pos (by omega)]
      · rw [if_neg c2, if_neg (by omega)]
theorem k_129 {w s : z_Wd} : ∀ n i : Nat, A_M_takeMinistry_129 w s n 19 i = if i < n then 0 else s 19 i
  | 0, i => by
    rw [if_neg (by omega)]
    rfl
  | n + 1, i => by
    simp only [A_M_takeMinistry_129, Int.toNat_natCast]
    by_cases c : i = n
    · rw [c, z_up_at, if_pos (by omega)]
    · rw [z_up_ne c, k_129 n i]
      by_cases c2 : i < n
      · rw [if_pos c2, if_pos (by omega)]
      · rw [if_neg c2, if_neg (by omega)]
theorem k_151 {w s : z_Wd} : ∀ n i : Nat, A_M_takeMinistry_151 w s n 19 i = if 32 ≤ i ∧ i < 32 + n then s 16 (2 * (i - 32)) else s 19 i
  | 0, i => by
    rw [if_neg (by omega)]
    rfl
  | n + 1, i => by
    have f : z_fr [19] [] s (A_M_takeMinistry_151 w s n) := fr_A_M_takeMinistry_151
    simp only [A_M_takeMinistry_151]
    rw [fr_c f 16 rfl rfl, show (32 + (n : Int)).toNat = 32 + n by omega, show (2 * (n : Int)).toNat = 2 * n by omega]
    by_cases c : i = 32 + n
    · rw [c, z_up_at, if_pos (by omega), show 32 + n - 32 = n by omega]
    · rw [z_up_ne c, k_151 n i]
      by_cases c2 : 32 ≤ i ∧ i < 32 + n
      · rw [if_pos c2, if_pos (by omega)]
      · rw [if_neg c2, if_neg (by omega)]
theorem k_take {w : z_Wd} (h1 : 0 ≤ w 0 21 ∧ w 0 21 ≤ 4) : P_M_takeMinistry w ∧ (F_M_takeMinistry w).1 = w 0 22 ∧ ((F_M_takeMinistry w).2 0 28 = w 0 21 ∧ (F_M_takeMinistry w).2 0 29 = w 0 22 ∧ (F_M_takeMinistry w).2 0 30 = w 0 23 ∧ (F_M_takeMinistry w).2 0 36 = 0 ∧ (F_M_takeMinistry w).2 0 43 = 0 ∧ (F_M_takeMinistry w).2 0 45 = 0) ∧ (∀ i, i < 2 → (F_M_takeMinistry w).2 15 i = w 11 i) ∧ (∀ i, i < 8 → (F_M_takeMinistry w).2 16 i = w 12 i) ∧ (∀ i, i < 21 → (F_M_takeMinistry w).2 17 i = w 13 i) ∧ (∀ i, i < 12 → (F_M_takeMinistry w).2 18 i = w 14 i) ∧ (∀ i : Nat, i < 160 → (F_M_takeMinistry w).2 19 i = if i = 36 then w 11 1 else if 32 ≤ i ∧ (i : Int) < 32 + w 0 21 then w 12 (2 * (i - 32)) else 0) := by
  have f1 : z_fr [15] [(0, 28), (0, 29), (0, 30)] w (A_M_takeMinistry_26 w 2) := fr_A_M_takeMinistry_26
  have a28 : A_M_takeMinistry_26 w 2 0 28 = w 0 21 := rfl
  have a29 : A_M_takeMinistry_26 w 2 0 29 = w 0 22 := rfl
  have a30 : A_M_takeMinistry_26 w 2 0 30 = w 0 23 := rfl
  have e1 := k_26 (w := w) 2
  unfold P_M_takeMinistry F_M_takeMinistry
  generalize A_M_takeMinistry_26 w 2 = s1 at *
  have f2 : z_fr [16] [] s1 (A_M_takeMinistry_51 w s1 8) := fr_A_M_takeMinistry_51
  have e2 := k_51 (w := w) (s := s1) 8
  generalize A_M_takeMinistry_51 w s1 8 = s2 at *
  have f3 : z_fr [17] [] s2 (A_M_takeMinistry_77 w s2 21) := fr_A_M_takeMinistry_77
  have e3 := k_77 (w := w) (s := s2) 21
  generalize A_M_takeMinistry_77 w s2 21 = s3 at *
  have f4 : z_fr [18] [] s3 (A_M_takeMinistry_103 w s3 12) := fr_A_M_takeMinistry_103
  have e4 := k_103 (w := w) (s := s3) 12
  generalize A_M_takeMinistry_103 w s3 12 = s4 at *
  have f5 : z_fr [19] [] s4 (A_M_takeMinistry_129 w s4 160) := fr_A_M_takeMinistry_129
  have e5 := k_129 (w := w) (s := s4) 160
  generalize A_M_takeMinistry_129 w s4 160 = s5 at *
  have c28 : s5 0 28 = w 0 21 := by rw [fr_f f5 0 28 rfl rfl, fr_f f4 0 28 rfl rfl, fr_f f3 0 28 rfl rfl, fr_f f2 0 28 rfl rfl, a28]
  have c29 : s5 0 29 = w 0 22 := by rw [fr_f f5 0 29 rfl rfl, fr_f f4 0 29 rfl rfl, fr_f f3 0 29 rfl rfl, fr_f f2 0 29 rfl rfl, a29]
  have c30 : s5 0 30 = w 0 23 := by rw [fr_f f5 0 30 rfl rfl, fr_f f4 0 30 rfl rfl, fr_f f3 0 30 rfl rfl, fr_f f2 0 30 rfl rfl, a30]
  have f6 : ∀ n, z_fr [19] [] s5 (A_M_takeMinistry_151 w s5 n) := fun n => fr_A_M_takeMinistry_151
  have p6 : ∀ n, A_M_takeMinistry_151 w s5 n 0 28 = s5 0 28 := fun n => fr_f (f6 n) 0 28 rfl rfl
  have e6 := k_151 (w := w) (s := s5) (s5 0 28).toNat
  have g6 := f6 (s5 0 28).toNat
  refine ⟨⟨fun i hi => by omega, fun i hi => by omega, fun i hi => by omega, fun i hi => by omega, fun i hi => by omega, fun i hi => ⟨by omega, by rw [p6]; omega, p6 i, by omega, by omega⟩, by omega, by rw [p6]; omega, p6 _⟩, ?_⟩
  generalize A_M_takeMinistry_151 w s5 (s5 0 28).toNat = s6 at *
  dsimp only
  have d15 : s6 15 = s1 15 := by rw [fr_c g6 15 rfl rfl, fr_c f5 15 rfl rfl, fr_c f4 15 rfl rfl, fr_c f3 15 rfl rfl, fr_c f2 15 rfl rfl]
  refine ⟨?_, ⟨?_, ?_, ?_, ?_, ?_, ?_⟩, fun i hi => ?_, fun i hi => ?_, fun i hi => ?_, fun i hi => ?_, fun i hi => ?_⟩
  · rw [fr_f g6 0 29 rfl rfl, c29]
  · rw [z_up_ne (by decide), z_up_ne (by decide), z_up_ne (by decide), z_up_other (by decide), fr_f g6 0 28 rfl rfl, c28]
  · rw [z_up_ne (by decide), z_up_ne (by decide), z_up_ne (by decide), z_up_other (by decide), fr_f g6 0 29 rfl rfl, c29]
  · rw [z_up_ne (by decide), z_up_ne (by decide), z_up_ne (by decide), z_up_other (by decide), fr_f g6 0 30 rfl rfl, c30]
  · rw [z_up_ne (by decide), z_up_at]
  · rw [z_up_ne (by decide), z_up_ne (by decide), z_up_at]
  · rw [z_up_at]
  · rw [z_up_other (by decide), z_up_other (by decide), z_up_other (by decide), z_up_other (by decide), d15, e1, if_pos hi]
  · rw [z_up_other (by decide), z_up_other (by decide), z_up_other (by decide), z_up_other (by decide), fr_c g6 16 rfl rfl, fr_c f5 16 rfl rfl, fr_c f4 16 rfl rfl, fr_c f3 16 rfl rfl, e2, if_pos hi, fr_c f1 12 rfl rfl]
  · rw [z_up_other (by decide), z_up_other (by decide), z_up_other (by decide), z_up_other (by decide), fr_c g6 17 rfl rfl, fr_c f5 17 rfl rfl, fr_c f4 17 rfl rfl, e3, if_pos hi, fr_c f2 13 rfl rfl, fr_c f1 13 rfl rfl]
  · rw [z_up_other (by decide), z_up_other (by decide), z_up_other (by decide), z_up_other (by decide), fr_c g6 18 rfl rfl, fr_c f5 18 rfl rfl, e4, if_pos hi, fr_c f3 14 rfl rfl, fr_c f2 14 rfl rfl, fr_c f1 14 rfl rfl]
  · rw [z_up_other (by decide), z_up_other (by decide), z_up_other (by decide)]
    by_cases c : i = 36
    · rw [if_pos c, c, z_up_at, d15, e1, if_pos (by decide)]
    · rw [if_neg c, z_up_ne c, e6, c28]
      by_cases c2 : 32 ≤ i ∧ (i : Int) < 32 + w 0 21
      · rw [if_pos (show 32 ≤ i ∧ i < 32 + (w 0 21).toNat by omega), if_pos c2, fr_c f5 16 rfl rfl, fr_c f4 16 rfl rfl, fr_c f3 16 rfl rfl, e2, if_pos (by omega), fr_c f1 12 rfl rfl]
      · rw [if_neg (show ¬ (32 ≤ i ∧ i < 32 + (w 0 21).toNat) by omega), if_neg c2, e5, if_pos hi]
