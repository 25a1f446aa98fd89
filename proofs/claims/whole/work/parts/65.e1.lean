/-! frames of each part of the relation -/
def kc (X : List Nat) (Y : List (Nat × Nat)) (k : Nat) : Bool := !X.contains k && Y.all (fun p => p.1 != k)
def kf (X : List Nat) (Y : List (Nat × Nat)) (k j : Nat) : Bool := !X.contains k && !Y.contains (k, j)
theorem kc_e {X : List Nat} {Y : List (Nat × Nat)} {w w' : z_Wd} {k : Nat} (h : z_fr X Y w w') (c : kc X Y k = true) : w' k = w k := by
  unfold kc at c
  simp only [Bool.and_eq_true, Bool.not_eq_true'] at c
  exact fr_c h k c.1 c.2
theorem kf_e {X : List Nat} {Y : List (Nat × Nat)} {w w' : z_Wd} {k j : Nat} (h : z_fr X Y w w') (c : kf X Y k j = true) : w' k j = w k j := by
  unfold kf at c
  simp only [Bool.and_eq_true, Bool.not_eq_true'] at c
  exact fr_f h k j c.1 c.2
section YY
variable {X X' : List Nat} {Y Y' : List (Nat × Nat)} {w v w' v' : z_Wd}
theorem y_ta (h : r_ta w v) (f : z_fr X Y w w') (g : z_fr X' Y' v v') (c : ((kc X Y 1 && kf X Y 0 2) && (kf X' Y' 28 1 && kc X' Y' 29)) = true) : r_ta w' v' := by
  simp only [Bool.and_eq_true] at c
  exact x_ta h (kc_e f c.1.1) (kf_e f c.1.2) (kf_e g c.2.1) (kc_e g c.2.2)
theorem y_mi (h : r_mi w v) (f : z_fr X Y w w') (g : z_fr X' Y' v v') (c : ((kf X Y 0 28 && kf X Y 0 29 && kf X Y 0 30) && (kc X Y 15 && kc X Y 16 && kc X Y 17 && kc X Y 18) && (kc X' Y' 31 && kc X' Y' 32)) = true) : r_mi w' v' := by
  simp only [Bool.and_eq_true] at c
  obtain ⟨⟨⟨⟨c1, c2⟩, c3⟩, ⟨⟨c4, c5⟩, c6⟩, c7⟩, c8, c9⟩ := c
  exact x_mi h (kf_e f c1) (kf_e f c2) (kf_e f c3) (kc_e f c4) (kc_e f c5) (kc_e f c6) (kc_e f c7) (kc_e g c8) (kc_e g c9)
theorem y_no (h : r_no w v) (f : z_fr X Y w w') (g : z_fr X' Y' v v') (c : ((kf X Y 0 28 && kf X Y 0 29 && kc X Y 19) && (kc X' Y' 42 && kc X' Y' 43 && kc X' Y' 44) && (kf X' Y' 41 6 && kf X' Y' 41 7 && kf X' Y' 41 8) && (kc X' Y' 45 && kc X' Y' 46)) = true) : r_no w' v' := by
  simp only [Bool.and_eq_true] at c
  obtain ⟨⟨⟨⟨⟨c1, c2⟩, c3⟩, ⟨c4, c5⟩, c6⟩, ⟨c7, c8⟩, c9⟩, c10, c11⟩ := c
  exact x_no h (kf_e f c1) (kf_e f c2) (kc_e f c3) (kc_e g c4) (kc_e g c5) (kc_e g c6) (kf_e g c7) (kf_e g c8) (kf_e g c9) (kc_e g c10) (kc_e g c11)
theorem y_ac (h : r_ac w v) (f : z_fr X Y w w') (g : z_fr X' Y' v v') (c : ((kf X Y 0 28 && kf X Y 0 29 && kf X Y 0 36 && kc X Y 21) && (kf X' Y' 53 1 && kf X' Y' 53 2 && kc X' Y' 54) && (kf X' Y' 41 8 && kc X' Y' 45 && kc X' Y' 46)) = true) : r_ac w' v' := by
  simp only [Bool.and_eq_true] at c
  obtain ⟨⟨⟨⟨⟨c1, c2⟩, c3⟩, c4⟩, ⟨c5, c6⟩, c7⟩, ⟨c8, c9⟩, c10⟩ := c
  exact x_ac h (kf_e f c1) (kf_e f c2) (kf_e f c3) (kc_e f c4) (kf_e g c5) (kf_e g c6) (kc_e g c7) (kf_e g c8) (kc_e g c9) (kc_e g c10)
theorem y_im (h : r_im w v) (f : z_fr X Y w w') (g : z_fr X' Y' v v') (c : ((kf X Y 0 28 && kf X Y 0 29 && kf X Y 0 45 && kc X Y 25) && (kf X' Y' 27 13 && kc X' Y' 48 && kc X' Y' 49 && kc X' Y' 50) && (kc X' Y' 51 && kc X' Y' 52 && kf X' Y' 47 6 && kf X' Y' 47 7 && kf X' Y' 47 8)) = true) : r_im w' v' := by
  simp only [Bool.and_eq_true] at c
  obtain ⟨⟨⟨⟨⟨c1, c2⟩, c3⟩, c4⟩, ⟨⟨c5, c6⟩, c7⟩, c8⟩, ⟨⟨⟨c9, c10⟩, c11⟩, c12⟩, c13⟩ := c
  exact x_im h (kf_e f c1) (kf_e f c2) (kf_e f c3) (kc_e f c4) (kf_e g c5) (kc_e g c6) (kc_e g c7) (kc_e g c8) (kc_e g c9) (kc_e g c10) (kf_e g c11) (kf_e g c12) (kf_e g c13)
theorem y_la (h : r_la w v) (f : z_fr X Y w w') (g : z_fr X' Y' v v') (c : ((kf X Y 0 13 && kf X Y 0 33 && kc X Y 2 && kc X Y 3 && kc X Y 5 && kc X Y 6 && kc X Y 7 && kc X Y 8) && (kf X' Y' 55 4 && kf X' Y' 55 5) && (kc X' Y' 59 && kc X' Y' 62 && kc X' Y' 65 && kc X' Y' 68) && (kf X' Y' 58 2 && kf X' Y' 61 2 && kf X' Y' 64 2 && kf X' Y' 67 2)) = true) : r_la w' v' := by
  simp only [Bool.and_eq_true] at c
  obtain ⟨⟨⟨⟨⟨⟨⟨⟨⟨⟨c1, c2⟩, c3⟩, c4⟩, c5⟩, c6⟩, c7⟩, c8⟩, c9, c10⟩, ⟨⟨d0, d1⟩, d2⟩, d3⟩, ⟨⟨e0, e1⟩, e2⟩, e3⟩ := c
  refine x_la h (kf_e f c1) (kf_e f c2) (kc_e f c3) (kc_e f c4) (kc_e f c5) (kc_e f c6) (kc_e f c7) (kc_e f c8) (kf_e g c9) (kf_e g c10) (fun n hn => ?_) (fun n hn => ?_)
  · match n, hn with
    | 0, _ => exact kc_e g d0
    | 1, _ => exact kc_e g d1
    | 2, _ => exact kc_e g d2
    | 3, _ => exact kc_e g d3
    | n + 4, h => exact absurd h (by omega)
  · match n, hn with
    | 0, _ => exact kf_e g e0
    | 1, _ => exact kf_e g e1
    | 2, _ => exact kf_e g e2
    | 3, _ => exact kf_e g e3
    | n + 4, h => exact absurd h (by omega)
theorem y_cl (h : r_cl w v) (f : z_fr X Y w w') (g : z_fr X' Y' v v') (c : ((kf X Y 0 43 && kf X Y 0 30 && kc X Y 23 && kc X Y 24) && (kf X' Y' 72 4 && kc X' Y' 73 && kc X' Y' 74)) = true) : r_cl w' v' := by
  simp only [Bool.and_eq_true] at c
  obtain ⟨⟨⟨⟨c1, c2⟩, c3⟩, c4⟩, ⟨c5, c6⟩, c7⟩ := c
  exact x_cl h (kf_e f c1) (kf_e f c2) (kc_e f c3) (kc_e f c4) (kf_e g c5) (kc_e g c6) (kc_e g c7)
theorem y_re (h : r_re w v) (f : z_fr X Y w w') (g : z_fr X' Y' v v') (c : (kc X Y 20 && kc X' Y' 78) = true) : r_re w' v' := by
  simp only [Bool.and_eq_true] at c
  exact x_re h (kc_e f c.1) (kc_e g c.2)
theorem y_fl (h : r_fl w v) (f : z_fr X Y w w') (g : z_fr X' Y' v v') (c : (kf X Y 0 34 && kf X' Y' 27 12) = true) : r_fl w' v' := by
  simp only [Bool.and_eq_true] at c
  exact x_fl h (kf_e f c.1) (kf_e g c.2)
theorem y_rd (h : r_rd w v) (f : z_fr X Y w w') (g : z_fr X' Y' v v') (c : (kc X Y 13 && kc X' Y' 35) = true) : r_rd w' v' := by
  simp only [Bool.and_eq_true] at c
  exact x_rd h (kc_e f c.1) (kc_e g c.2)
end YY
/-! is there such a one -/
theorem h_in {w : z_Wd} {a l h : Int} : (F_M_in w a l h = 0) = (a < l ∨ h < a) := by
  unfold F_M_in
  apply propext
  split
  · simp [*]
  · split
    · simp; omega
    · simp; omega
theorem h_hw {w : z_Wd} {a : Int} : (F_Y_hasWell w a = 0) = (a < 0 ∨ w 32 1 ≤ a) := by
  unfold F_Y_hasWell
  apply propext
  split
  · simp [*]
  · split
    · simp; omega
    · simp; omega
theorem h_hn {w : z_Wd} {a : Int} : (F_Y_hasName w a = 0) = (a < 0 ∨ w 32 2 ≤ a) := by
  unfold F_Y_hasName
  apply propext
  split
  · simp [*]
  · split
    · simp; omega
    · simp; omega
theorem h_hf {w : z_Wd} {a : Int} : (F_Y_hasFile w a = 0) = (a < 0 ∨ w 32 3 ≤ a) := by
  unfold F_Y_hasFile
  apply propext
  split
  · simp [*]
  · split
    · simp; omega
    · simp; omega
theorem h_st {w : z_Wd} : (F_Y_stands w = 0) = (w 32 2 ≤ 0) := by
  unfold F_Y_stands
  apply propext
  split
  · simp [*]
  · simp; omega
theorem p_inn {w : z_Wd} {a l h : Int} (ha : -2147483648 ≤ a ∧ a < 2147483648) (hl : -2147483648 ≤ l ∧ l < 2147483648) (hh : -2147483648 ≤ h ∧ h < 2147483648) : P_M_in w a l h := ⟨ha, hl, fun _ => trivial, fun _ => hh⟩
theorem ok_rule : S_rule Rl := by
  intro w a ha hr
  obtain ⟨h1, h2, h3, -⟩ := id hr
  have e1 := h2.1
  have e2 := h2.2.1.2.1
  have e3 := h2.2.2.1
  have e4 := h3.1.2.2.2.2.2.2.1
  refine ⟨?_, ?_, ?_, hr⟩
  · unfold P_D_rule P_Y_stands
    exact ⟨by omega, fun _ => trivial, fun _ => ⟨ha, fun _ => d_pv (by omega) (by omega) (by omega), fun _ => ⟨fun _ => trivial, fun _ => trivial⟩⟩⟩
  · unfold P_M_rule
    exact ⟨by omega, fun _ => trivial, fun _ => ⟨p_inn ha (by omega) (by omega), fun _ => trivial, fun _ => ha⟩⟩
  · unfold F_D_rule F_M_rule
    simp only [h_st, h_in, d_v00]
    by_cases c : w 0 29 = 0
    · rw [if_pos (by omega), if_pos c]
    · rw [if_neg (by omega), if_neg c]
      by_cases c0 : a = 0
      · rw [if_pos c0, if_neg (by omega), if_pos c0, e3.1]
      · rw [if_neg c0]
        by_cases c1 : a = 1
        · rw [if_pos c1, if_neg (by omega), if_neg c0, e4.1]
        · rw [if_neg c1, if_pos (by omega)]
theorem ok_status : S_status Rl := by
  intro w a ha hr
  obtain ⟨-, -, -, -, -, -, -, h8, -⟩ := id hr
  refine ⟨?_, ?_, ?_, hr⟩
  · unfold P_D_status
    exact ⟨ha, fun _ => trivial, fun _ => ⟨fun _ => by omega, fun _ => trivial⟩⟩
  · unfold P_M_status
    simp only [h_in]
    exact ⟨p_inn ha (by omega) (by omega), fun _ => trivial, fun _ => by omega⟩
  · unfold F_D_status F_M_status
    simp only [h_in]
    by_cases c : 0 ≤ a ∧ a < 5
    · rw [if_neg (by omega), if_pos (by omega), if_neg (by omega), h8 _ (by omega)]
    · by_cases c2 : a < 0
      · rw [if_pos c2, if_pos (by omega)]
      · rw [if_neg c2, if_neg (by omega), if_pos (by omega)]
theorem ok_flies : S_flies Rl := by
  intro w a ha hr
  obtain ⟨h1, h2, h3, h4, h5, h6, h7, h8, h9, h10⟩ := id hr
  have e1 := h9
  unfold r_fl at e1
  have pD : P_D_flies w a := by
    unfold P_D_flies
    exact ⟨ha, fun _ => trivial, fun _ => ⟨fun _ => trivial, fun _ => by omega⟩⟩
  have pM : ∀ w1 : z_Wd, w1 0 34 = w 0 34 → P_M_flies w1 a := fun w1 e => by
    unfold P_M_flies
    rw [e]
    exact ⟨p_inn ha (by omega) (by omega), fun _ => trivial, fun _ => ⟨ha, by omega⟩⟩
  by_cases c : 0 ≤ a ∧ a ≤ 9 ∧ a ≠ w 27 12
  · have eD : F_D_flies w a = (1, z_up w 27 12 a) := by
      unfold F_D_flies
      rw [if_neg (by omega), if_neg (by omega), if_neg (by omega)]
    have eM : F_M_flies (z_up w 27 12 a) a = (1, z_up (z_up w 27 12 a) 0 34 a) := by
      unfold F_M_flies
      simp only [h_in]
      rw [if_neg (by omega), if_neg (by simp [z_up]; omega)]
    simp only [eD, eM]
    have f : z_fr [] [(0, 34), (27, 12)] w (z_up (z_up w 27 12 a) 0 34 a) := fr_uf rfl (fr_uf rfl fr_rf)
    refine ⟨pD, pM _ rfl, trivial, y_ta h1 f f rfl, y_mi h2 f f rfl, y_no h3 f f rfl, y_ac h4 f f rfl, y_im h5 f f rfl, y_la h6 f f rfl, y_cl h7 f f rfl, y_re h8 f f rfl, ?_, y_rd h10 f f rfl⟩
    unfold r_fl
    simp [z_up]
    omega
  · have eD : F_D_flies w a = (0, w) := by
      unfold F_D_flies
      by_cases c0 : a < 0
      · rw [if_pos c0]
      · rw [if_neg c0]
        by_cases c1 : a > 9
        · rw [if_pos c1]
        · rw [if_neg c1, if_pos (by omega)]
    have eM : F_M_flies w a = (0, w) := by
      unfold F_M_flies
      simp only [h_in]
      by_cases c0 : a < 0 ∨ 9 < a
      · rw [if_pos c0]
      · rw [if_neg c0, if_pos (by omega)]
    simp only [eD, eM]
    exact ⟨pD, pM _ rfl, trivial, hr⟩
theorem ok_law : S_law Rl := by
  intro w a ha hr
  obtain ⟨h1, h2, h3, h4, h5, h6, h7, h8, h9, h10⟩ := id hr
  obtain ⟨l1, l2, l3, l4⟩ := id h6
  have pM : ∀ w1 : z_Wd, w1 0 13 = w 0 13 → P_M_law w1 a := fun w1 e => by
    unfold P_M_law
    rw [e]
    exact p_inn ha (by omega) (by omega)
  have pG : P_G_hold w a := by
    unfold P_G_hold
    exact ⟨ha, fun _ => trivial, fun _ => by omega⟩
  by_cases c : -1 ≤ a ∧ a < w 55 4
  · have eG : F_G_hold w a = (1, z_up w 55 5 a) := by
      unfold F_G_hold
      rw [if_neg (by omega), if_pos (by omega)]
    have eD : F_D_law w a = (1, z_up w 55 5 a) := by
      unfold F_D_law
      rw [eG]
    have eM : F_M_law (z_up w 55 5 a) a = (1, z_up (z_up w 55 5 a) 0 33 a) := by
      unfold F_M_law
      simp only [h_in]
      rw [if_neg (by simp [z_up]; omega)]
    have pD : P_D_law w a := by
      unfold P_D_law
      rw [eG]
      exact ⟨pG, Or.inr rfl⟩
    simp only [eD, eM]
    have f : z_fr [] [(0, 33), (55, 5)] w (z_up (z_up w 55 5 a) 0 33 a) := fr_uf rfl (fr_uf rfl fr_rf)
    refine ⟨pD, pM _ rfl, trivial, y_ta h1 f f rfl, y_mi h2 f f rfl, y_no h3 f f rfl, y_ac h4 f f rfl, y_im h5 f f rfl, ?_, y_cl h7 f f rfl, y_re h8 f f rfl, y_fl h9 f f rfl, y_rd h10 f f rfl⟩
    refine ⟨l1, l2, ?_, fun n hn => ?_⟩
    · show z_up (z_up w 55 5 a) 0 33 a 0 33 = z_up (z_up w 55 5 a) 0 33 a 55 5 ∧ -1 ≤ z_up (z_up w 55 5 a) 0 33 a 55 5 ∧ z_up (z_up w 55 5 a) 0 33 a 55 5 < z_up (z_up w 55 5 a) 0 33 a 55 4
      simp [z_up]
      omega
    · have hn4 : (n : Int) < w 55 4 := hn
      have q := l4 n hn4
      have c1 : z_up (z_up w 55 5 a) 0 33 a (59 + 3 * n) = w (59 + 3 * n) := by
        rw [z_up_other (by omega), z_up_other (by omega)]
      have c2 : z_up (z_up w 55 5 a) 0 33 a (58 + 3 * n) = w (58 + 3 * n) := by
        rw [z_up_other (by omega), z_up_other (by omega)]
      rw [c1, c2]
      exact q
  · have eG : F_G_hold w a = (0, w) := by
      unfold F_G_hold
      by_cases c0 : a < -1
      · rw [if_pos c0]
      · rw [if_neg c0, if_neg (by omega)]
    have eD : F_D_law w a = (0, w) := by
      unfold F_D_law
      rw [eG]
    have eM : F_M_law w a = (0, w) := by
      unfold F_M_law
      simp only [h_in]
      rw [if_pos (by omega)]
    have pD : P_D_law w a := by
      unfold P_D_law
      rw [eG]
      exact ⟨pG, Or.inl rfl⟩
    simp only [eD, eM]
    exact ⟨pD, pM _ rfl, trivial, hr⟩
