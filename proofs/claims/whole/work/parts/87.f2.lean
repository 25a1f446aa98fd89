/-! faction: the reference -/
def fF (st : Nat → Int × Int → Int × Int) : Nat → Int × Int → Int × Int
  | 0, s => s
  | i + 1, s => st i (fF st i s)
def fL (row z : Int) (s : Int × Int) : Int × Int := if s.1 = -1 then (row, z) else if z < s.2 then (row, z) else if z = s.2 then if row ≥ s.1 then s else (row, z) else s
def fG (W N : Nat) (T : Nat → Bool) (co : Nat → Int) (cl : Nat → Nat → Bool) : Nat → Int → (Nat → Bool) → (Nat → Int) → Int × Int → Int × Int
  | 0, row, U, _, s => fL row ((zcnt U 4 : Nat) : Int) s
  | k + 1, row, U, ro, s => if T (N - (k + 1)) then fF (fun i s => if ro i < co (N - (k + 1)) then s else if cl (N - (k + 1)) i then fG W N T co cl k (10 * row + (i : Int)) (fun j => U j || (j == i)) (fun j => if j = i then ro j - co (N - (k + 1)) else ro j) s else s) W s else fG W N T co cl k row U ro s
/-- a sum that is changed in one place -/
theorem zsum_at {f g : Nat → Int} {n : Nat} : ∀ m, n < m → (∀ i, i ≠ n → f i = g i) → zsum f m = zsum g m + (f n - g n)
  | 0, h, _ => absurd h (Nat.not_lt_zero n)
  | m + 1, h, he => by
    simp only [zsum]
    by_cases c : n < m
    · rw [zsum_at m c he, he m (by omega)]
      omega
    · have e : n = m := by omega
      subst e
      rw [zsum_c n (fun i hi => he i (by omega))]
      omega
theorem bt_add {U : Nat → Bool} {i : Nat} (hi : i < 4) : zz_or ((zbits U 4 : Nat) : Int) (zz_shl 1 (i : Int)) = ((zbits (fun j => U j || (j == i)) 4 : Nat) : Int) := by
  rw [bt_one (n := 4) hi (by decide), bt_or (by decide)]
theorem z_has {w : z_Wd} {T : Nat → Bool} {N n : Nat} (hN : N ≤ 7) (hn : n < N) : (F_M_has w ((zbits T N : Nat) : Int) (n : Int) = 0) = (T n = false) ∧ P_M_has w ((zbits T N : Nat) : Int) (n : Int) ∧ (zz_and (zz_shr ((zbits T N : Nat) : Int) (n : Int)) 1 = 0) = (T n = false) ∧ (-2147483648 ≤ zz_and (zz_shr ((zbits T N : Nat) : Int) (n : Int)) 1 ∧ zz_and (zz_shr ((zbits T N : Nat) : Int) (n : Int)) 1 < 2147483648) := by
  have e : zz_and (zz_shr ((zbits T N : Nat) : Int) (n : Int)) 1 = if T n then 1 else 0 := by
    rw [bt_bit (by omega) (by omega)]
    simp [hn]
  unfold F_M_has P_M_has
  rw [e]
  cases T n <;> simp
/-- the room behind a dip -/
theorem g_roomd {w v : z_Wd} (h : r_all w v) {n a b : Nat} (hn : (n : Int) < w 0 29) (ha : (a : Int) < w 0 28) (hb : (b : Int) < w 0 28) (hf : v 42 n = -1) : F_M_dipNow w (n : Int) (a : Int) 19 (32 + b) - F_M_dropsIn (F_M_dipNow w (n : Int) (a : Int)) (b : Int) = if b = a then w 19 (32 + b) - F_M_dropsIn w (b : Int) - dv_d v n else w 19 (32 + b) - F_M_dropsIn w (b : Int) := by
  obtain ⟨h1, h2, h3, -⟩ := id h
  have e1 := h2.1
  have e2 := h2.2.1
  unfold r_mn at e2
  obtain ⟨d1, d2, d3⟩ := sim_dip h hn ha hf
  have fd : z_fr [19] [] w (F_M_dipNow w (n : Int) (a : Int)) := fr_F_M_dipNow
  have gd : z_fr [42, 43] [] v (F_K_drown v (n : Int) (a : Int)) := fr_F_K_drown
  have l6 := g_lt7 h2 h3 (a := a) (by omega) hn (by omega)
  have ln := (g_pl h2 h3).2.1 a (by omega)
  have x19 : F_M_dipNow w (n : Int) (a : Int) 19 (32 + b) = w 19 (32 + b) := by
    unfold F_M_dipNow
    rw [Int.toNat_natCast, z_up_ne (by omega), z_up_ne (by omega)]
  have v42 : ∀ i, F_K_drown v (n : Int) (a : Int) 42 i = if i = n then (a : Int) else v 42 i := fun i => by
    unfold F_K_drown
    simp only [h_hn]
    rw [if_neg (by omega), Int.toNat_natCast]
    by_cases c : i = n
    · rw [if_pos c, c, z_up_at]
    · rw [if_neg c, z_up_ne c, z_up_other (by decide)]
  have m1 := m_din h2 (g_pl h2 h3) (a := b) (by omega)
  have m2 := m_din d3.2.1 (g_pl d3.2.1 d3.2.2.1) (a := b) (by omega)
  rw [fr_f fd 0 29 rfl rfl] at m2
  have e31 : F_K_drown v (n : Int) (a : Int) 31 = v 31 := fr_c gd 31 rfl rfl
  have dd : ∀ i, dv_d (F_K_drown v (n : Int) (a : Int)) i = dv_d v i := fun i => by
    unfold dv_d
    rw [e31]
  rw [x19, m2, m1]
  have z := zsum_at (f := fun m => if g_T (F_K_drown v (n : Int) (a : Int)) m && F_K_drown v (n : Int) (a : Int) 42 m == (b : Int) then dv_d (F_K_drown v (n : Int) (a : Int)) m else 0) (g := fun m => if g_T v m && v 42 m == (b : Int) then dv_d v m else 0) (n := n) (w 0 29).toNat (by omega) (fun i hi => by
    unfold g_T
    rw [v42, if_neg hi, dd])
  rw [z]
  have y1 : (if g_T v n && v 42 n == (b : Int) then dv_d v n else 0) = 0 := by
    rw [hf]
    rw [if_neg]
    intro y
    rw [Bool.and_eq_true] at y
    have := beq_iff_eq.mp y.2
    omega
  have y2 : (if g_T (F_K_drown v (n : Int) (a : Int)) n && F_K_drown v (n : Int) (a : Int) 42 n == (b : Int) then dv_d (F_K_drown v (n : Int) (a : Int)) n else 0) = if b = a then dv_d v n else 0 := by
    unfold g_T
    rw [v42, if_pos rfl, dd]
    by_cases c : b = a
    · subst c
      rw [if_pos rfl, if_pos]
      rw [Bool.and_eq_true]
      exact ⟨bne_iff_ne.mpr (by omega), beq_iff_eq.mpr rfl⟩
    · rw [if_neg c, if_neg]
      intro y
      rw [Bool.and_eq_true] at y
      have := beq_iff_eq.mp y.2
      omega
  simp only [y1, y2]
  by_cases c : b = a
  · rw [if_pos c, if_pos c]
    omega
  · rw [if_neg c, if_neg c]
    omega
theorem z_p10 : ∀ k : Nat, (1 : Int) ≤ 10 ^ k
  | 0 => by simp
  | k + 1 => by
    have := z_p10 k
    rw [Int.pow_succ]
    omega
theorem fL_r {row z : Int} {s : Int × Int} (hr : 0 ≤ row ∧ row < 10000000) (hz : 0 ≤ z ∧ z ≤ 4) (hs : (-1 ≤ s.1 ∧ s.1 < 10000000) ∧ (s.1 = -1 ∨ 0 ≤ s.2 ∧ s.2 ≤ 4)) : (-1 ≤ (fL row z s).1 ∧ (fL row z s).1 < 10000000) ∧ ((fL row z s).1 = -1 ∨ 0 ≤ (fL row z s).2 ∧ (fL row z s).2 ≤ 4) := by
  unfold fL
  split
  · exact ⟨by dsimp only; omega, Or.inr hz⟩
  · split
    · exact ⟨by dsimp only; omega, Or.inr hz⟩
    · split
      · split
        · exact hs
        · exact ⟨by dsimp only; omega, Or.inr hz⟩
      · exact hs
/-- what tryFaction does, from set n on -/
def fa_ok (W N : Nat) (T : Nat → Bool) (co : Nat → Int) (cl : Nat → Nat → Bool) (k : Nat) : Prop := ∀ (f : Nat) (w v : z_Wd) (n : Nat) (dp row : Int) (U : Nat → Bool) (ro : Nat → Int), k + 1 ≤ f → r_all w v → n + k = N → (N : Int) = w 0 29 → (W : Int) = w 0 28 → (0 ≤ dp ∧ dp ≤ n) → (∀ m, n ≤ m → m < N → T m = true → v 42 m = -1) → (∀ m, m < N → co m = dv_d v m) → (∀ m i, m < N → i < W → (cl m i = true ↔ w 16 (2 * i + 1) = w 17 (3 * m + 2))) → (∀ a, a < W → ro a = w 19 (32 + a) - F_M_dropsIn w (a : Int)) → (0 ≤ row ∧ (row + 1) * 10 ^ k ≤ 10000000) → ((-1 ≤ w 0 39 ∧ w 0 39 < 10000000) ∧ (w 0 39 = -1 ∨ 0 ≤ w 0 40 ∧ w 0 40 ≤ 4)) → P_M_tryFaction f w dp (n : Int) ((zbits T N : Nat) : Int) ((zbits U 4 : Nat) : Int) row ∧ (F_M_tryFaction f w dp (n : Int) ((zbits T N : Nat) : Int) ((zbits U 4 : Nat) : Int) row 0 39, F_M_tryFaction f w dp (n : Int) ((zbits T N : Nat) : Int) ((zbits U 4 : Nat) : Int) row 0 40) = fG W N T co cl k row U ro (w 0 39, w 0 40) ∧ F_M_tryFaction f w dp (n : Int) ((zbits T N : Nat) : Int) ((zbits U 4 : Nat) : Int) row 19 = w 19 ∧ (∀ i : Nat, (i : Int) < 39 * dp → F_M_tryFaction f w dp (n : Int) ((zbits T N : Nat) : Int) ((zbits U 4 : Nat) : Int) row 22 i = w 22 i) ∧ ((-1 ≤ F_M_tryFaction f w dp (n : Int) ((zbits T N : Nat) : Int) ((zbits U 4 : Nat) : Int) row 0 39 ∧ F_M_tryFaction f w dp (n : Int) ((zbits T N : Nat) : Int) ((zbits U 4 : Nat) : Int) row 0 39 < 10000000) ∧ (F_M_tryFaction f w dp (n : Int) ((zbits T N : Nat) : Int) ((zbits U 4 : Nat) : Int) row 0 39 = -1 ∨ 0 ≤ F_M_tryFaction f w dp (n : Int) ((zbits T N : Nat) : Int) ((zbits U 4 : Nat) : Int) row 0 40 ∧ F_M_tryFaction f w dp (n : Int) ((zbits T N : Nat) : Int) ((zbits U 4 : Nat) : Int) row 0 40 ≤ 4))
set_option maxHeartbeats 4000000 in
theorem fa_all {W N : Nat} {T : Nat → Bool} {co : Nat → Int} {cl : Nat → Nat → Bool} : ∀ k, fa_ok W N T co cl k := by
  intro k
  induction k with
  | zero =>
    intro f w v n dp row U ro hf h hk eN eW hdp hT hco hcl hro hrow hs
    obtain ⟨g, rfl⟩ : ∃ g, f = g + 1 := ⟨f - 1, by omega⟩
    have e2 := h.2.1.2.1
    unfold r_mn at e2
    have z4 := zcnt_le U 4
    have eq : F_M_tryFaction (g + 1) w dp (n : Int) ((zbits T N : Nat) : Int) ((zbits U 4 : Nat) : Int) row = if w 0 39 = -1 ∨ (¬ w 0 39 = -1 ∧ ((zcnt U 4 : Nat) : Int) < w 0 40) ∨ (¬ w 0 39 = -1 ∧ ((zcnt U 4 : Nat) : Int) = w 0 40 ∧ ¬ row ≥ w 0 39) then z_up (z_up w 0 39 row) 0 40 ((zcnt U 4 : Nat) : Int) else w := by
      simp only [F_M_tryFaction]
      rw [if_pos (show (n : Int) = w 0 29 by omega), bt_cnt (by omega)]
      by_cases c1 : w 0 39 = -1
      · rw [if_pos c1, if_pos (Or.inl c1)]
      · rw [if_neg c1]
        by_cases c2 : ((zcnt U 4 : Nat) : Int) < w 0 40
        · rw [if_pos c2, if_pos (Or.inr (Or.inl ⟨c1, c2⟩))]
        · rw [if_neg c2]
          by_cases c3 : ((zcnt U 4 : Nat) : Int) = w 0 40
          · rw [if_pos c3]
            by_cases c4 : row ≥ w 0 39
            · rw [if_pos c4, if_neg (by omega)]
            · rw [if_neg c4, if_pos (Or.inr (Or.inr ⟨c1, c3, c4⟩))]
          · rw [if_neg c3, if_neg (by omega)]
    have eL : fL row ((zcnt U 4 : Nat) : Int) (w 0 39, w 0 40) = if w 0 39 = -1 ∨ (¬ w 0 39 = -1 ∧ ((zcnt U 4 : Nat) : Int) < w 0 40) ∨ (¬ w 0 39 = -1 ∧ ((zcnt U 4 : Nat) : Int) = w 0 40 ∧ ¬ row ≥ w 0 39) then (row, ((zcnt U 4 : Nat) : Int)) else (w 0 39, w 0 40) := by
      unfold fL
      dsimp only
      by_cases c1 : w 0 39 = -1
      · rw [if_pos c1, if_pos (Or.inl c1)]
      · rw [if_neg c1]
        by_cases c2 : ((zcnt U 4 : Nat) : Int) < w 0 40
        · rw [if_pos c2, if_pos (Or.inr (Or.inl ⟨c1, c2⟩))]
        · rw [if_neg c2]
          by_cases c3 : ((zcnt U 4 : Nat) : Int) = w 0 40
          · rw [if_pos c3]
            by_cases c4 : row ≥ w 0 39
            · rw [if_pos c4, if_neg (by omega)]
            · rw [if_neg c4, if_pos (Or.inr (Or.inr ⟨c1, c3, c4⟩))]
          · rw [if_neg c3, if_neg (by omega)]
    have pp : P_M_tryFaction (g + 1) w dp (n : Int) ((zbits T N : Nat) : Int) ((zbits U 4 : Nat) : Int) row := by
      simp only [P_M_tryFaction]
      rw [bt_cnt (by omega)]
      refine ⟨by omega, by omega, fun _ => ⟨by omega, fun _ => trivial, fun _ => ⟨by omega, by omega, fun _ => trivial, fun _ => ⟨fun _ => by omega, fun _ => trivial⟩⟩⟩, fun z => absurd (by omega) z⟩
    simp only [fG]
    rw [eq, eL]
    split
    · rw [z_up_ne (by decide), z_up_at, z_up_at]
      refine ⟨pp, rfl, ?_, fun i _ => ?_, by omega, Or.inr (by omega)⟩
      · rw [z_up_other (by decide), z_up_other (by decide)]
      · rw [z_up_other (by decide), z_up_other (by decide)]
    · exact ⟨pp, rfl, rfl, fun _ _ => rfl, hs⟩
  | succ k ih =>
    intro f w v n dp row U ro hf h hk eN eW hdp hT hco hcl hro hrow hs
    obtain ⟨g, rfl⟩ : ∃ g, f = g + 1 := ⟨f - 1, by omega⟩
    have e2 := h.2.1.2.1
    unfold r_mn at e2
    have z4 := zcnt_le U 4
    obtain ⟨q1, q2, q3, q4⟩ := z_has (w := w) (T := T) (N := N) (n := n) (by omega) (by omega)
    have en : N - (k + 1) = n := by omega
    have nx : ((n : Int) + 1) = ((n + 1 : Nat) : Int) := by omega
    have p10 : (10 : Int) ^ (k + 1) = 10 ^ k * 10 := Int.pow_succ 10 k
    have pk : (1 : Int) ≤ 10 ^ k := z_p10 k
    simp only [F_M_tryFaction, P_M_tryFaction, fG, en]
    rw [if_neg (show ¬ (n : Int) = w 0 29 by omega)]
    by_cases cT : T n = true
    · have nh : ¬ F_M_has w ((zbits T N : Nat) : Int) (n : Int) = 0 := by rw [q1, cT]; decide
      rw [if_neg nh, if_pos cT]
      have f0 : z_fr [22] [] w (F_M_putAside w dp) := fr_F_M_putAside
      have x28 : F_M_putAside w dp 0 28 = w 0 28 := fr_f f0 0 28 rfl rfl
      have s0 : ∀ j, j < 39 → F_M_putAside w dp 22 ((39 * dp).toNat + j) = w 19 j := fun j hj => by
        unfold F_M_putAside
        rw [cp_in (by omega)]
        congr 1
        omega
      have s0' : ∀ i : Nat, (i : Int) < 39 * dp → F_M_putAside w dp 22 i = w 22 i := fun i hi => by
        unfold F_M_putAside
        rw [cp_no (by omega)]
      have eW2 : (F_M_putAside w dp 0 28).toNat = W := by rw [x28]; omega
      rw [x28, show (w 0 28).toNat = W by omega]
      have fA : ∀ i, z_fr [19, 22] [(0, 39), (0, 40)] w (A_M_tryFaction_93 w dp (n : Int) ((zbits T N : Nat) : Int) ((zbits U 4 : Nat) : Int) row (F_M_tryFaction g) i) := fun i => fr_A_M_tryFaction_93 (fun v x1 x2 x3 x4 x5 => fr_F_M_tryFaction g v x1 x2 x3 x4 x5)
      have step : ∀ i, i ≤ W → ((A_M_tryFaction_93 w dp (n : Int) ((zbits T N : Nat) : Int) ((zbits U 4 : Nat) : Int) row (F_M_tryFaction g) i 0 39, A_M_tryFaction_93 w dp (n : Int) ((zbits T N : Nat) : Int) ((zbits U 4 : Nat) : Int) row (F_M_tryFaction g) i 0 40) = fF (fun i s => if ro i < co n then s else if cl n i then fG W N T co cl k (10 * row + (i : Int)) (fun j => U j || (j == i)) (fun j => if j = i then ro j - co n else ro j) s else s) i (w 0 39, w 0 40)) ∧ A_M_tryFaction_93 w dp (n : Int) ((zbits T N : Nat) : Int) ((zbits U 4 : Nat) : Int) row (F_M_tryFaction g) i 19 = w 19 ∧ (∀ j, j < 39 → A_M_tryFaction_93 w dp (n : Int) ((zbits T N : Nat) : Int) ((zbits U 4 : Nat) : Int) row (F_M_tryFaction g) i 22 ((39 * dp).toNat + j) = w 19 j) ∧ (∀ j : Nat, (j : Int) < 39 * dp → A_M_tryFaction_93 w dp (n : Int) ((zbits T N : Nat) : Int) ((zbits U 4 : Nat) : Int) row (F_M_tryFaction g) i 22 j = w 22 j) ∧ ((-1 ≤ A_M_tryFaction_93 w dp (n : Int) ((zbits T N : Nat) : Int) ((zbits U 4 : Nat) : Int) row (F_M_tryFaction g) i 0 39 ∧ A_M_tryFaction_93 w dp (n : Int) ((zbits T N : Nat) : Int) ((zbits U 4 : Nat) : Int) row (F_M_tryFaction g) i 0 39 < 10000000) ∧ (A_M_tryFaction_93 w dp (n : Int) ((zbits T N : Nat) : Int) ((zbits U 4 : Nat) : Int) row (F_M_tryFaction g) i 0 39 = -1 ∨ 0 ≤ A_M_tryFaction_93 w dp (n : Int) ((zbits T N : Nat) : Int) ((zbits U 4 : Nat) : Int) row (F_M_tryFaction g) i 0 40 ∧ A_M_tryFaction_93 w dp (n : Int) ((zbits T N : Nat) : Int) ((zbits U 4 : Nat) : Int) row (F_M_tryFaction g) i 0 40 ≤ 4)) ∧ (i < W → P_M_fits (A_M_tryFaction_93 w dp (n : Int) ((zbits T N : Nat) : Int) ((zbits U 4 : Nat) : Int) row (F_M_tryFaction g) i) (n : Int) (i : Int) ∧ (¬ F_M_fits (A_M_tryFaction_93 w dp (n : Int) ((zbits T N : Nat) : Int) ((zbits U 4 : Nat) : Int) row (F_M_tryFaction g) i) (n : Int) (i : Int) = 0 → P_M_dipNow (A_M_tryFaction_93 w dp (n : Int) ((zbits T N : Nat) : Int) ((zbits U 4 : Nat) : Int) row (F_M_tryFaction g) i) (n : Int) (i : Int) ∧ P_M_tryFaction g (F_M_dipNow (A_M_tryFaction_93 w dp (n : Int) ((zbits T N : Nat) : Int) ((zbits U 4 : Nat) : Int) row (F_M_tryFaction g) i) (n : Int) (i : Int)) (dp + 1) ((n : Int) + 1) ((zbits T N : Nat) : Int) (zz_or ((zbits U 4 : Nat) : Int) (zz_shl 1 (i : Int))) ((10 * row) + (i : Int)))) := by
        -- one turn
        have turn : ∀ (x : z_Wd) (i : Nat), i < W → z_fr [19, 22] [(0, 39), (0, 40)] w x → x 19 = w 19 → (∀ j, j < 39 → x 22 ((39 * dp).toNat + j) = w 19 j) → ((-1 ≤ x 0 39 ∧ x 0 39 < 10000000) ∧ (x 0 39 = -1 ∨ 0 ≤ x 0 40 ∧ x 0 40 ≤ 4)) → P_M_fits x (n : Int) (i : Int) ∧ (F_M_fits x (n : Int) (i : Int) = if ro i < co n then 0 else if cl n i then 1 else 0) ∧ (cl n i = true → P_M_dipNow x (n : Int) (i : Int) ∧ P_M_tryFaction g (F_M_dipNow x (n : Int) (i : Int)) (dp + 1) ((n : Int) + 1) ((zbits T N : Nat) : Int) (zz_or ((zbits U 4 : Nat) : Int) (zz_shl 1 (i : Int))) ((10 * row) + (i : Int)) ∧ (F_M_tryFaction g (F_M_dipNow x (n : Int) (i : Int)) (dp + 1) ((n : Int) + 1) ((zbits T N : Nat) : Int) (zz_or ((zbits U 4 : Nat) : Int) (zz_shl 1 (i : Int))) ((10 * row) + (i : Int)) 0 39, F_M_tryFaction g (F_M_dipNow x (n : Int) (i : Int)) (dp + 1) ((n : Int) + 1) ((zbits T N : Nat) : Int) (zz_or ((zbits U 4 : Nat) : Int) (zz_shl 1 (i : Int))) ((10 * row) + (i : Int)) 0 40) = fG W N T co cl k (10 * row + (i : Int)) (fun j => U j || (j == i)) (fun j => if j = i then ro j - co n else ro j) (x 0 39, x 0 40) ∧ F_M_tryFaction g (F_M_dipNow x (n : Int) (i : Int)) (dp + 1) ((n : Int) + 1) ((zbits T N : Nat) : Int) (zz_or ((zbits U 4 : Nat) : Int) (zz_shl 1 (i : Int))) ((10 * row) + (i : Int)) 19 = F_M_dipNow x (n : Int) (i : Int) 19 ∧ (∀ j : Nat, (j : Int) < 39 * (dp + 1) → F_M_tryFaction g (F_M_dipNow x (n : Int) (i : Int)) (dp + 1) ((n : Int) + 1) ((zbits T N : Nat) : Int) (zz_or ((zbits U 4 : Nat) : Int) (zz_shl 1 (i : Int))) ((10 * row) + (i : Int)) 22 j = x 22 j) ∧ (∀ j, 39 ≤ j → F_M_dipNow x (n : Int) (i : Int) 19 j = w 19 j) ∧ ((-1 ≤ F_M_tryFaction g (F_M_dipNow x (n : Int) (i : Int)) (dp + 1) ((n : Int) + 1) ((zbits T N : Nat) : Int) (zz_or ((zbits U 4 : Nat) : Int) (zz_shl 1 (i : Int))) ((10 * row) + (i : Int)) 0 39 ∧ F_M_tryFaction g (F_M_dipNow x (n : Int) (i : Int)) (dp + 1) ((n : Int) + 1) ((zbits T N : Nat) : Int) (zz_or ((zbits U 4 : Nat) : Int) (zz_shl 1 (i : Int))) ((10 * row) + (i : Int)) 0 39 < 10000000) ∧ (F_M_tryFaction g (F_M_dipNow x (n : Int) (i : Int)) (dp + 1) ((n : Int) + 1) ((zbits T N : Nat) : Int) (zz_or ((zbits U 4 : Nat) : Int) (zz_shl 1 (i : Int))) ((10 * row) + (i : Int)) 0 39 = -1 ∨ 0 ≤ F_M_tryFaction g (F_M_dipNow x (n : Int) (i : Int)) (dp + 1) ((n : Int) + 1) ((zbits T N : Nat) : Int) (zz_or ((zbits U 4 : Nat) : Int) (zz_shl 1 (i : Int))) ((10 * row) + (i : Int)) 0 40 ∧ F_M_tryFaction g (F_M_dipNow x (n : Int) (i : Int)) (dp + 1) ((n : Int) + 1) ((zbits T N : Nat) : Int) (zz_or ((zbits U 4 : Nat) : Int) (zz_shl 1 (i : Int))) ((10 * row) + (i : Int)) 0 40 ≤ 4))) := by
          intro x i hi fx e19 e22 hsx
          have hx : r_all x v := ⟨y_ta h.1 fx fr_0 rfl, y_mi h.2.1 fx fr_0 rfl, x_no h.2.2.1 (fr_f fx 0 28 rfl rfl) (fr_f fx 0 29 rfl rfl) e19 rfl rfl rfl rfl rfl rfl rfl rfl, y_ac h.2.2.2.1 fx fr_0 rfl, y_im h.2.2.2.2.1 fx fr_0 rfl, y_la h.2.2.2.2.2.1 fx fr_0 rfl, y_cl h.2.2.2.2.2.2.1 fx fr_0 rfl, y_re h.2.2.2.2.2.2.2.1 fx fr_0 rfl, y_fl h.2.2.2.2.2.2.2.2.1 fx fr_0 rfl, y_rd h.2.2.2.2.2.2.2.2.2 fx fr_0 rfl⟩
          have y28 : x 0 28 = w 0 28 := fr_f fx 0 28 rfl rfl
          have y29 : x 0 29 = w 0 29 := fr_f fx 0 29 rfl rfl
          have y16 : x 16 = w 16 := fr_c fx 16 rfl rfl
          have y17 : x 17 = w 17 := fr_c fx 17 rfl rfl
          have y15 : x 15 = w 15 := fr_c fx 15 rfl rfl
          have hfree := hT n (by omega) (by omega) cT
          obtain ⟨-, -, pf⟩ := g_takes hx.2.1 hx.2.2.1 (n := n) (a := i) (by omega) (by omega)
          have md := m_do h.2.1 (n := n) (by omega)
          have rx : x 19 (32 + i) - F_M_dropsIn x (i : Int) = ro i := by
            rw [hro i hi, e19]
            unfold F_M_dropsIn F_M_dropsOf
            rw [e19, y17, y15]
          have ef : F_M_fits x (n : Int) (i : Int) = if ro i < co n then 0 else if cl n i then 1 else 0 := by
            unfold F_M_fits
            unfold F_M_dropsOf at md
            rw [show (32 + (i : Int)).toNat = 32 + i by omega, rx, y17, y15, md, ← hco n (by omega), y16, show (2 * (i : Int) + 1).toNat = 2 * i + 1 by omega, show (3 * (n : Int) + 2).toNat = 3 * n + 2 by omega]
            have c := hcl n i (by omega) hi
            by_cases c1 : ro i < co n
            · rw [if_pos c1, if_pos c1]
            · rw [if_neg c1, if_neg c1]
              by_cases c2 : cl n i = true
              · rw [if_pos (c.mp c2), if_pos c2]
              · rw [if_neg (fun z => c2 (c.mpr z)), if_neg c2]
          refine ⟨pf, ef, fun _ => ?_⟩
          obtain ⟨d1, d2, d3⟩ := sim_dip hx (n := n) (a := i) (by omega) (by omega) hfree
          have fd : z_fr [19] [] x (F_M_dipNow x (n : Int) (i : Int)) := fr_F_M_dipNow
          have gd : z_fr [42, 43] [] v (F_K_drown v (n : Int) (i : Int)) := fr_F_K_drown
          have l6 := g_lt7 hx.2.1 hx.2.2.1 (a := i) (n := n) (by omega) (by omega) (by omega)
          have ln := (g_pl hx.2.1 hx.2.2.1).2.1 i (by omega)
          have t39 : ∀ j, 39 ≤ j → F_M_dipNow x (n : Int) (i : Int) 19 j = w 19 j := fun j hj => by
            unfold F_M_dipNow
            rw [Int.toNat_natCast, z_up_ne (by omega), z_up_ne (by omega), e19]
          have v42 : ∀ j, j ≠ n → F_K_drown v (n : Int) (i : Int) 42 j = v 42 j := fun j hj => by
            unfold F_K_drown
            split
            · rfl
            · rw [Int.toNat_natCast, z_up_ne hj, z_up_other (by decide)]
          have d31 : F_K_drown v (n : Int) (i : Int) 31 = v 31 := fr_c gd 31 rfl rfl
          have z39 : F_M_dipNow x (n : Int) (i : Int) 0 39 = x 0 39 := fr_f fd 0 39 rfl rfl
          have z40 : F_M_dipNow x (n : Int) (i : Int) 0 40 = x 0 40 := fr_f fd 0 40 rfl rfl
          have z22 : F_M_dipNow x (n : Int) (i : Int) 22 = x 22 := fr_c fd 22 rfl rfl
          have mr : (10 * row + (i : Int) + 1) * 10 ^ k ≤ (row + 1) * 10 ^ (k + 1) := by
            rw [p10, show (row + 1) * (10 ^ k * 10) = ((row + 1) * 10) * 10 ^ k by rw [Int.mul_comm (10 ^ k) 10, Int.mul_assoc]]
            exact Int.mul_le_mul_of_nonneg_right (by omega) (by omega)
          obtain ⟨o1, o2, o3, o4, o5⟩ := ih g (F_M_dipNow x (n : Int) (i : Int)) (F_K_drown v (n : Int) (i : Int)) (n + 1) (dp + 1) (10 * row + (i : Int)) (fun j => U j || (j == i)) (fun j => if j = i then ro j - co n else ro j) (by omega) d3 (by omega) (by rw [fr_f fd 0 29 rfl rfl, y29]; exact eN) (by rw [fr_f fd 0 28 rfl rfl, y28]; exact eW) (by omega) (fun m hm hmN hmT => by rw [v42 m (by omega)]; exact hT m (by omega) hmN hmT) (fun m hm => by rw [hco m hm]; unfold dv_d; rw [d31]) (fun m j hm hj => by rw [fr_c fd 16 rfl rfl, fr_c fd 17 rfl rfl, y16, y17]; exact hcl m j hm hj) (fun a ha => by
            rw [g_roomd hx (n := n) (a := i) (b := a) (by omega) (by omega) (by omega) hfree]
            have rxa : x 19 (32 + a) - F_M_dropsIn x (a : Int) = ro a := by
              rw [hro a ha, e19]
              unfold F_M_dropsIn F_M_dropsOf
              rw [e19, y17, y15]
            rw [rxa, hco n (by omega)]) ⟨by omega, by omega⟩ (by rw [z39, z40]; exact hsx)
          rw [z39, z40] at o2
          rw [nx, bt_add (by omega)]
          refine ⟨d2, o1, o2, o3, fun j hj => ?_, t39, o5⟩
          rw [o4 j hj, z22]
        intro i
        induction i with
        | zero =>
          intro _
          have t0 : F_M_putAside w dp 19 = w 19 := fr_c f0 19 rfl rfl
          have u39 : F_M_putAside w dp 0 39 = w 0 39 := fr_f f0 0 39 rfl rfl
          have u40 : F_M_putAside w dp 0 40 = w 0 40 := fr_f f0 0 40 rfl rfl
          simp only [A_M_tryFaction_93, fF]
          refine ⟨by rw [u39, u40], t0, s0, s0', by rw [u39, u40]; exact hs, fun hW => ?_⟩
          obtain ⟨t1, t2, t3⟩ := turn (F_M_putAside w dp) 0 hW (fr_wk f0 rfl rfl) t0 s0 (by rw [u39, u40]; exact hs)
          refine ⟨t1, fun z => ?_⟩
          have hc : cl n 0 = true := by
            rw [t2] at z
            cases hh : cl n 0
            · rw [hh] at z
              simp at z
            · rfl
          exact ⟨(t3 hc).1, (t3 hc).2.1⟩
        | succ i ihi =>
          intro hi
          obtain ⟨a1, a2, a3, a4, a5, a6⟩ := ihi (by omega)
          have fAi := fA i
          have fAj := fA (i + 1)
          have main : (A_M_tryFaction_93 w dp (n : Int) ((zbits T N : Nat) : Int) ((zbits U 4 : Nat) : Int) row (F_M_tryFaction g) (i + 1) 0 39, A_M_tryFaction_93 w dp (n : Int) ((zbits T N : Nat) : Int) ((zbits U 4 : Nat) : Int) row (F_M_tryFaction g) (i + 1) 0 40) = fF (fun i s => if ro i < co n then s else if cl n i then fG W N T co cl k (10 * row + (i : Int)) (fun j => U j || (j == i)) (fun j => if j = i then ro j - co n else ro j) s else s) (i + 1) (w 0 39, w 0 40) ∧ A_M_tryFaction_93 w dp (n : Int) ((zbits T N : Nat) : Int) ((zbits U 4 : Nat) : Int) row (F_M_tryFaction g) (i + 1) 19 = w 19 ∧ (∀ j, j < 39 → A_M_tryFaction_93 w dp (n : Int) ((zbits T N : Nat) : Int) ((zbits U 4 : Nat) : Int) row (F_M_tryFaction g) (i + 1) 22 ((39 * dp).toNat + j) = w 19 j) ∧ (∀ j : Nat, (j : Int) < 39 * dp → A_M_tryFaction_93 w dp (n : Int) ((zbits T N : Nat) : Int) ((zbits U 4 : Nat) : Int) row (F_M_tryFaction g) (i + 1) 22 j = w 22 j) ∧ ((-1 ≤ A_M_tryFaction_93 w dp (n : Int) ((zbits T N : Nat) : Int) ((zbits U 4 : Nat) : Int) row (F_M_tryFaction g) (i + 1) 0 39 ∧ A_M_tryFaction_93 w dp (n : Int) ((zbits T N : Nat) : Int) ((zbits U 4 : Nat) : Int) row (F_M_tryFaction g) (i + 1) 0 39 < 10000000) ∧ (A_M_tryFaction_93 w dp (n : Int) ((zbits T N : Nat) : Int) ((zbits U 4 : Nat) : Int) row (F_M_tryFaction g) (i + 1) 0 39 = -1 ∨ 0 ≤ A_M_tryFaction_93 w dp (n : Int) ((zbits T N : Nat) : Int) ((zbits U 4 : Nat) : Int) row (F_M_tryFaction g) (i + 1) 0 40 ∧ A_M_tryFaction_93 w dp (n : Int) ((zbits T N : Nat) : Int) ((zbits U 4 : Nat) : Int) row (F_M_tryFaction g) (i + 1) 0 40 ≤ 4)) := by
            obtain ⟨t1, t2, t3⟩ := turn _ i (by omega) fAi a2 a3 a5
            simp only [A_M_tryFaction_93, fF]
            rw [t2, ← a1]
            generalize A_M_tryFaction_93 w dp (n : Int) ((zbits T N : Nat) : Int) ((zbits U 4 : Nat) : Int) row (F_M_tryFaction g) i = x at *
            by_cases c1 : ro i < co n
            · rw [if_pos c1, if_pos c1, if_pos rfl]
              exact ⟨rfl, a2, a3, a4, a5⟩
            · rw [if_neg c1, if_neg c1]
              by_cases c2 : cl n i = true
              · rw [if_pos c2, if_pos c2, if_neg (by decide)]
                obtain ⟨b1, b2, b3, b4, b5, b6, b7⟩ := t3 c2
                rw [← b3]
                generalize F_M_tryFaction g (F_M_dipNow x (n : Int) (i : Int)) (dp + 1) ((n : Int) + 1) ((zbits T N : Nat) : Int) (zz_or ((zbits U 4 : Nat) : Int) (zz_shl 1 (i : Int))) ((10 * row) + (i : Int)) = y at *
                have fb : z_fr [19] [] y (F_M_takeBack y dp) := fr_F_M_takeBack
                have c39 : F_M_takeBack y dp 0 39 = y 0 39 := fr_f fb 0 39 rfl rfl
                have c40 : F_M_takeBack y dp 0 40 = y 0 40 := fr_f fb 0 40 rfl rfl
                have c22 : F_M_takeBack y dp 22 = y 22 := fr_c fb 22 rfl rfl
                rw [c39, c40, c22]
                refine ⟨rfl, ?_, fun j hj => ?_, fun j hj => ?_, b7⟩
                · funext j
                  unfold F_M_takeBack
                  by_cases c : j < 39
                  · rw [cp_in (by omega), Nat.sub_zero, b5 _ (by omega), a3 j c]
                  · rw [cp_no (by omega), b4, b6 j (by omega)]
                · rw [b5 _ (by omega), a3 j hj]
                · rw [b5 _ (by omega), a4 j hj]
              · rw [if_neg c2, if_neg c2, if_pos rfl]
                exact ⟨rfl, a2, a3, a4, a5⟩
          obtain ⟨b1, b2, b3, b4, b5⟩ := main
          refine ⟨b1, b2, b3, b4, b5, fun hW => ?_⟩
          obtain ⟨t1, t2, t3⟩ := turn _ (i + 1) hW fAj b2 b3 b5
          refine ⟨t1, fun z => ?_⟩
          have hc : cl n (i + 1) = true := by
            rw [t2] at z
            cases hh : cl n (i + 1)
            · rw [hh] at z
              simp at z
            · rfl
          exact ⟨(t3 hc).1, (t3 hc).2.1⟩
      obtain ⟨r1, r2, r3, r4, r5, -⟩ := step W (Nat.le_refl W)
      refine ⟨⟨by omega, by omega, fun z => absurd z (by omega), fun _ => ⟨q2, fun z => absurd z nh, fun _ => ⟨⟨by omega, by omega⟩, fun i hi => ?_, by omega, ?_, ?_⟩⟩⟩, r1, r2, r4, r5⟩
      · obtain ⟨-, -, -, -, -, c6⟩ := step i (by omega)
        obtain ⟨u1, u2⟩ := c6 hi
        have y28 := fr_f (fA i) 0 28 rfl rfl
        refine ⟨by omega, by omega, y28, u1, fun _ => trivial, fun z => ⟨(u2 z).1, (u2 z).2, ⟨by omega, by omega⟩⟩⟩
      · have y28 := fr_f (fA W) 0 28 rfl rfl
        omega
      · exact fr_f (fA W) 0 28 rfl rfl
    · have cF : T n = false := by
        cases hh : T n
        · rfl
        · exact absurd hh cT
      have nh : F_M_has w ((zbits T N : Nat) : Int) (n : Int) = 0 := by rw [q1]; exact cF
      rw [if_pos nh, if_neg cT, nx]
      have mr : (row + 1) * 10 ^ k ≤ (row + 1) * 10 ^ (k + 1) := by
        rw [p10]
        exact Int.mul_le_mul_of_nonneg_left (by omega) (by omega)
      obtain ⟨o1, o2, o3, o4, o5⟩ := ih g w v (n + 1) dp row U ro (by omega) h (by omega) eN eW (by omega) (fun m hm => hT m (by omega)) hco hcl hro ⟨hrow.1, by omega⟩ hs
      exact ⟨⟨by omega, by omega, fun z => absurd z (by omega), fun _ => ⟨q2, fun _ => o1, fun z => absurd nh z⟩⟩, o2, o3, o4, o5⟩
