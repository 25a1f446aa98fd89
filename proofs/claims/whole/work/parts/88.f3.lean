/-! faction: the class -/
def fR (N : Nat) (T : Nat → Bool) : Nat → Int
  | 0 => 1
  | k + 1 => if T (N - (k + 1)) then 10 * fR N T k else fR N T k
theorem fR_1 {N : Nat} {T : Nat → Bool} : ∀ k, 1 ≤ fR N T k
  | 0 => by simp [fR]
  | k + 1 => by
    have := fR_1 (N := N) (T := T) k
    simp only [fR]
    split <;> omega
theorem fR_7 {N : Nat} {T : Nat → Bool} : ∀ k, fR N T k ≤ 10 ^ k
  | 0 => by simp [fR]
  | k + 1 => by
    have := fR_7 (N := N) (T := T) k
    have := fR_1 (N := N) (T := T) k
    rw [Int.pow_succ]
    simp only [fR]
    split <;> omega
theorem zc_mono {U : Nat → Bool} {i : Nat} : ∀ n, zcnt U n ≤ zcnt (fun j => U j || (j == i)) n
  | 0 => Nat.le_refl _
  | n + 1 => by
    have := zc_mono (U := U) (i := i) n
    simp only [zcnt]
    by_cases c : U n = true
    · rw [if_pos c, if_pos (by rw [c]; rfl)]
      omega
    · rw [if_neg c]
      omega
theorem zc_W {U : Nat → Bool} {W : Nat} (h : ∀ i, U i = true → i < W) : ∀ n, zcnt U n ≤ W
  | 0 => Nat.zero_le _
  | n + 1 => by
    simp only [zcnt]
    by_cases c : U n = true
    · have := h n c
      have := zcnt_le U n
      rw [if_pos c]
      omega
    · rw [if_neg c]
      exact zc_W h n
theorem fF_id {st : Nat → Int × Int → Int × Int} {s : Int × Int} : ∀ n, (∀ i, i < n → st i s = s) → fF st n s = s
  | 0, _ => rfl
  | n + 1, h => by
    simp only [fF]
    rw [fF_id n (fun i hi => h i (by omega))]
    exact h n (by omega)
/-- nothing better lies below -/
theorem fG_pr {W N : Nat} {T : Nat → Bool} {co : Nat → Int} {cl : Nat → Nat → Bool} : ∀ (k : Nat) (row : Int) (U : Nat → Bool) (ro : Nat → Int) (s : Int × Int), s.1 ≠ -1 → s.2 ≤ ((zcnt U 4 : Nat) : Int) → s.1 ≤ row * fR N T k → fG W N T co cl k row U ro s = s
  | 0, row, U, ro, s, h1, h2, h3 => by
    simp only [fR, Int.mul_one] at h3
    simp only [fG]
    unfold fL
    rw [if_neg h1, if_neg (by omega)]
    split
    · rfl
    · rfl
  | k + 1, row, U, ro, s, h1, h2, h3 => by
    simp only [fG]
    simp only [fR] at h3
    by_cases c : T (N - (k + 1)) = true
    · rw [if_pos c] at h3
      rw [if_pos c]
      apply fF_id
      intro i _
      split
      · rfl
      · split
        · refine fG_pr k _ _ _ s h1 ?_ ?_
          · have := zc_mono (U := U) (i := i) 4
            omega
          · have p := fR_1 (N := N) (T := T) k
            have e : (10 * row + (i : Int)) * fR N T k = row * (10 * fR N T k) + (i : Int) * fR N T k := by
              rw [Int.add_mul, Int.mul_comm 10 row, Int.mul_assoc]
            have : 0 ≤ (i : Int) * fR N T k := Int.mul_nonneg (by omega) (by omega)
            omega
        · rfl
    · rw [if_neg c] at h3
      rw [if_neg c]
      exact fG_pr k row U ro s h1 h2 h3
/-- the two bests agree -/
def fZ (W : Nat) (s : Int × Int) (u : z_Wd) : Prop := s.1 = u 70 4 ∧ ((s.1 = -1 ∧ u 70 3 = (W : Int) + 1) ∨ (0 ≤ s.1 ∧ s.1 < 10000000 ∧ s.2 = u 70 3 ∧ 0 ≤ u 70 3 ∧ u 70 3 ≤ 4))
def fb_ok (W N : Nat) (T : Nat → Bool) (co : Nat → Int) (cl : Nat → Nat → Bool) (k : Nat) : Prop := ∀ (f : Nat) (u : z_Wd) (n : Nat) (row : Int) (U : Nat → Bool) (ro : Nat → Int) (s : Int × Int), k + 1 ≤ f → n + k = N → (N : Int) = u 32 2 → (W : Int) = u 32 1 → (∀ m, m < N → F_Y_value u 2 (m : Int) 0 * F_Y_value u 0 0 0 = co m ∧ 0 ≤ co m ∧ co m ≤ 9801) → (∀ m i, m < N → i < W → P_Y_isHisColour u (m : Int) (i : Int) ∧ (F_Y_isHisColour u (m : Int) (i : Int) = 0 ↔ cl m i = false)) → (∀ a, a < W → u 71 a = ro a ∧ -100000 ≤ ro a ∧ ro a ≤ 100000) → (∀ i, U i = true → i < W) → (0 ≤ row ∧ (row + 1) * fR N T k ≤ 10000000) → fZ W s u → s.1 ≤ row * fR N T k → P_P_placeFrom f u (n : Int) ((zbits T N : Nat) : Int) row ((zbits U 4 : Nat) : Int) ∧ fZ W (fG W N T co cl k row U ro s) (F_P_placeFrom f u (n : Int) ((zbits T N : Nat) : Int) row ((zbits U 4 : Nat) : Int)) ∧ (fG W N T co cl k row U ro s).1 < (row + 1) * fR N T k ∧ F_P_placeFrom f u (n : Int) ((zbits T N : Nat) : Int) row ((zbits U 4 : Nat) : Int) 71 = u 71
theorem x_col {v v' : z_Wd} (a : v' 31 = v 31) {n i : Int} : F_Y_isHisColour v' n i = F_Y_isHisColour v n i ∧ P_Y_isHisColour v' n i = P_Y_isHisColour v n i := by
  constructor
  · unfold F_Y_isHisColour F_Y_isForeign F_Y_isRed
    rw [x_val a, x_val a]
  · unfold P_Y_isHisColour P_Y_isForeign P_Y_isRed
    rw [x_val a, x_val a]
    rfl
set_option maxHeartbeats 4000000 in
theorem fb_all {W N : Nat} {T : Nat → Bool} {co : Nat → Int} {cl : Nat → Nat → Bool} (hN : N ≤ 7) (hW : W ≤ 4) : ∀ k, fb_ok W N T co cl k := by
  intro k
  induction k with
  | zero =>
    intro f u n row U ro s hf hk eN eW hco hcl hro hU hrow hZ hord
    obtain ⟨g, rfl⟩ : ∃ g, f = g + 1 := ⟨f - 1, by omega⟩
    have zw := zc_W hU 4
    have z4 := zcnt_le U 4
    have bc : ∀ x : z_Wd, F_J_bitCount_0f7a4 x ((zbits U 4 : Nat) : Int) = ((zcnt U 4 : Nat) : Int) := fun x => bt_cnt (by omega)
    simp only [fR, Int.mul_one] at hrow hord
    simp only [F_P_placeFrom, P_P_placeFrom, bc, fG, fR, Int.mul_one]
    obtain ⟨z1, z2⟩ := hZ
    refine ⟨⟨by omega, by omega, fun _ => ⟨by omega, by omega, fun z => absurd z (by omega), fun _ => trivial⟩, fun _ => trivial⟩, ?_⟩
    by_cases c : ((zcnt U 4 : Nat) : Int) < u 70 3
    · rw [if_pos c, if_neg (show ¬ (n : Int) < u 32 2 by omega)]
      have eL : fL row ((zcnt U 4 : Nat) : Int) s = (row, ((zcnt U 4 : Nat) : Int)) := by
        unfold fL
        by_cases c1 : s.1 = -1
        · rw [if_pos c1]
        · rw [if_neg c1, if_pos (by omega)]
      rw [eL]
      refine ⟨⟨?_, Or.inr ?_⟩, by dsimp only; omega, ?_⟩
      · rw [z_up_at]
      · rw [z_up_ne (by decide), z_up_at]
        dsimp only
        omega
      · rw [z_up_other (by decide), z_up_other (by decide)]
    · rw [if_neg c]
      have eL : fL row ((zcnt U 4 : Nat) : Int) s = s := by
        unfold fL
        rw [if_neg (by omega), if_neg (by omega)]
        split
        · rfl
        · rfl
      rw [eL]
      exact ⟨⟨z1, z2⟩, by omega, rfl⟩
  | succ k ih =>
    intro f u n row U ro s hf hk eN eW hco hcl hro hU hrow hZ hord
    obtain ⟨g, rfl⟩ : ∃ g, f = g + 1 := ⟨f - 1, by omega⟩
    have zw := zc_W hU 4
    have z4 := zcnt_le U 4
    have bc : ∀ x : z_Wd, F_J_bitCount_0f7a4 x ((zbits U 4 : Nat) : Int) = ((zcnt U 4 : Nat) : Int) := fun x => bt_cnt (by omega)
    have r1 := fR_1 (N := N) (T := T) (k + 1)
    have r0 := fR_1 (N := N) (T := T) k
    obtain ⟨q1, q2, q3, q4⟩ := z_has (w := u) (T := T) (N := N) (n := n) hN (by omega)
    have en : N - (k + 1) = n := by omega
    have nx : ((n : Int) + 1) = ((n + 1 : Nat) : Int) := by omega
    have mulS : (row + 1) * fR N T (k + 1) = row * fR N T (k + 1) + fR N T (k + 1) := by rw [Int.add_mul, Int.one_mul]
    by_cases c : ((zcnt U 4 : Nat) : Int) < u 70 3
    · by_cases cT : T n = true
      · have eR : fR N T (k + 1) = 10 * fR N T k := by
          simp only [fR]
          rw [en, if_pos cT]
        have nz : ¬ zz_and (zz_shr ((zbits T N : Nat) : Int) (n : Int)) 1 = 0 := by rw [q3, cT]; decide
        have fA : ∀ i, z_fr [71] [(70, 3), (70, 4)] u (A_P_placeFrom_72 u (n : Int) ((zbits T N : Nat) : Int) row ((zbits U 4 : Nat) : Int) (F_P_placeFrom g) i) := fun i => fr_A_P_placeFrom_72 (fun v x1 x2 x3 x4 => fr_F_P_placeFrom g v x1 x2 x3 x4)
        have zf : ∀ i, i ≤ W → zfind (E_P_placeFrom_72 u (n : Int) ((zbits T N : Nat) : Int) row ((zbits U 4 : Nat) : Int) (F_P_placeFrom g)) i = -1 := by
          intro i
          induction i with
          | zero => intro _; rfl
          | succ i ihi =>
            intro hi
            refine zfind_miss (ihi (by omega)) ?_
            unfold E_P_placeFrom_72
            rw [if_neg (by omega)]
            split
            · decide
            · split <;> decide
        obtain ⟨hc1, hc2⟩ := hco n (by omega)
        have row10 : ∀ i : Nat, (10 * row + (i : Int)) * fR N T k = 10 * (row * fR N T k) + (i : Int) * fR N T k := fun i => by rw [Int.add_mul, Int.mul_assoc]
        have row11 : row * fR N T (k + 1) = 10 * (row * fR N T k) := by rw [eR, Int.mul_comm row (10 * fR N T k), Int.mul_assoc, Int.mul_comm (fR N T k) row]
        have turn : ∀ (x : z_Wd) (i : Nat) (t : Int × Int), i < W → z_fr [71] [(70, 3), (70, 4)] u x → x 71 = u 71 → fZ W t x → t.1 ≤ (10 * row + (i : Int)) * fR N T k → ¬ co n > ro i → P_P_placeFrom g (z_up x 71 i (x 71 i - co n)) ((n : Int) + 1) ((zbits T N : Nat) : Int) ((row * 10) + (i : Int)) (zz_or ((zbits U 4 : Nat) : Int) (zz_shl 1 (i : Int))) ∧ fZ W (fG W N T co cl k (10 * row + (i : Int)) (fun j => U j || (j == i)) (fun j => if j = i then ro j - co n else ro j) t) (F_P_placeFrom g (z_up x 71 i (x 71 i - co n)) ((n : Int) + 1) ((zbits T N : Nat) : Int) ((row * 10) + (i : Int)) (zz_or ((zbits U 4 : Nat) : Int) (zz_shl 1 (i : Int)))) ∧ (fG W N T co cl k (10 * row + (i : Int)) (fun j => U j || (j == i)) (fun j => if j = i then ro j - co n else ro j) t).1 < (10 * row + (i : Int) + 1) * fR N T k ∧ F_P_placeFrom g (z_up x 71 i (x 71 i - co n)) ((n : Int) + 1) ((zbits T N : Nat) : Int) ((row * 10) + (i : Int)) (zz_or ((zbits U 4 : Nat) : Int) (zz_shl 1 (i : Int))) 71 = z_up x 71 i (x 71 i - co n) 71 := by
          intro x i t hi fx e71 hZx hox hcr
          have e31 : z_up x 71 i (x 71 i - co n) 31 = u 31 := by rw [z_up_other (by decide)]; exact fr_c fx 31 rfl rfl
          have e32 : z_up x 71 i (x 71 i - co n) 32 = u 32 := by rw [z_up_other (by decide)]; exact fr_c fx 32 rfl rfl
          have e70 : z_up x 71 i (x 71 i - co n) 70 = x 70 := z_up_other (by decide)
          have mr : (10 * row + (i : Int) + 1) * fR N T k ≤ 10000000 := by
            have e : (10 * row + (i : Int) + 1) * fR N T k ≤ (10 * (row + 1)) * fR N T k := Int.mul_le_mul_of_nonneg_right (by omega) (by omega)
            rw [show (10 * (row + 1)) * fR N T k = (row + 1) * fR N T (k + 1) by rw [eR, Int.mul_comm 10 (row + 1), Int.mul_assoc]] at e
            omega
          have o := ih g (z_up x 71 i (x 71 i - co n)) (n + 1) (10 * row + (i : Int)) (fun j => U j || (j == i)) (fun j => if j = i then ro j - co n else ro j) t (by omega) (by omega) (by rw [e32]; exact eN) (by rw [e32]; exact eW) (fun m hm => by rw [x_val e31, x_val e31]; exact hco m hm) (fun m j hm hj => by rw [(x_col e31).1, (x_col e31).2]; exact hcl m j hm hj) (fun a ha => by
            have ra := hro a ha
            by_cases ca : a = i
            · subst ca
              rw [z_up_at, e71, if_pos rfl]
              omega
            · rw [z_up_ne ca, e71, if_neg ca]
              exact ra) (fun j hj => by
            rw [Bool.or_eq_true] at hj
            rcases hj with hj | hj
            · exact hU j hj
            · have := beq_iff_eq.mp hj
              omega) ⟨by omega, mr⟩ (by unfold fZ; rw [e70]; exact hZx) hox
          rw [nx, bt_add (by omega), Int.mul_comm row 10]
          exact o
        have step : ∀ i, i ≤ W → A_P_placeFrom_72 u (n : Int) ((zbits T N : Nat) : Int) row ((zbits U 4 : Nat) : Int) (F_P_placeFrom g) i 71 = u 71 ∧ fZ W (fF (fun i s => if ro i < co n then s else if cl n i then fG W N T co cl k (10 * row + (i : Int)) (fun j => U j || (j == i)) (fun j => if j = i then ro j - co n else ro j) s else s) i s) (A_P_placeFrom_72 u (n : Int) ((zbits T N : Nat) : Int) row ((zbits U 4 : Nat) : Int) (F_P_placeFrom g) i) ∧ (fF (fun i s => if ro i < co n then s else if cl n i then fG W N T co cl k (10 * row + (i : Int)) (fun j => U j || (j == i)) (fun j => if j = i then ro j - co n else ro j) s else s) i s).1 ≤ (10 * row + (i : Int)) * fR N T k := by
          intro i
          induction i with
          | zero =>
            intro _
            refine ⟨rfl, hZ, ?_⟩
            have e0 : ((0 : Nat) : Int) * fR N T k = 0 := Int.zero_mul _
            rw [row10 0, e0]
            simp only [fF]
            rw [row11] at hord
            omega
          | succ i ihi =>
            intro hi
            obtain ⟨a1, a2, a3⟩ := ihi (by omega)
            have fAi := fA i
            have cc := hcl n i (by omega) (by omega)
            have up : (10 * row + ((i + 1 : Nat) : Int)) * fR N T k = (10 * row + (i : Int)) * fR N T k + fR N T k := by
              rw [row10, row10, show ((i + 1 : Nat) : Int) = (i : Int) + 1 by omega, Int.add_mul, Int.one_mul]
              omega
            have up2 : (10 * row + (i : Int) + 1) * fR N T k = (10 * row + (i : Int)) * fR N T k + fR N T k := by rw [Int.add_mul, Int.one_mul]
            have tt := turn _ i _ (by omega) fAi a1 a2 a3
            simp only [A_P_placeFrom_72, fF, Int.toNat_natCast]
            generalize fF (fun i s => if ro i < co n then s else if cl n i then fG W N T co cl k (10 * row + (i : Int)) (fun j => U j || (j == i)) (fun j => if j = i then ro j - co n else ro j) s else s) i s = t at *
            rw [up, if_neg (show ¬ (i : Int) ≥ 4 by omega), hc1]
            have ecol := (x_col (fr_c fAi 31 rfl rfl) (n := (n : Int)) (i := (i : Int))).1
            rw [ecol]
            generalize A_P_placeFrom_72 u (n : Int) ((zbits T N : Nat) : Int) row ((zbits U 4 : Nat) : Int) (F_P_placeFrom g) i = x at *
            have e71 : x 71 i = ro i := by rw [a1]; exact (hro i (by omega)).1
            by_cases c2 : cl n i = true
            · rw [if_neg (show ¬ F_Y_isHisColour u (n : Int) (i : Int) = 0 by rw [cc.2, c2]; decide)]
              by_cases c1 : ro i < co n
              · rw [if_pos c1, if_pos (show co n > x 71 i by omega)]
                exact ⟨a1, a2, by omega⟩
              · rw [if_neg c1, if_pos c2, if_neg (show ¬ co n > x 71 i by omega)]
                obtain ⟨b1, b2, b3, b4⟩ := tt (by omega)
                generalize F_P_placeFrom g (z_up x 71 i (x 71 i - co n)) ((n : Int) + 1) ((zbits T N : Nat) : Int) ((row * 10) + (i : Int)) (zz_or ((zbits U 4 : Nat) : Int) (zz_shl 1 (i : Int))) = y at *
                refine ⟨?_, ?_, ?_⟩
                · funext j
                  by_cases cj : j = i
                  · subst cj
                    rw [z_up_at, b4, z_up_at, a1]
                    omega
                  · rw [z_up_ne cj, b4, z_up_ne cj, a1]
                · unfold fZ
                  rw [z_up_other (by decide)]
                  exact b2
                · omega
            · have cF : cl n i = false := by
                cases hh : cl n i
                · rfl
                · exact absurd hh c2
              rw [if_pos (cc.2.mpr cF)]
              by_cases c1 : ro i < co n
              · rw [if_pos c1]
                exact ⟨a1, a2, by omega⟩
              · rw [if_neg c1, if_neg c2]
                exact ⟨a1, a2, by omega⟩
        obtain ⟨s1, s2, s3⟩ := step W (Nat.le_refl W)
        simp only [F_P_placeFrom, P_P_placeFrom, bc, fG, en]
        rw [if_pos c, if_pos (show (n : Int) < u 32 2 by omega), if_neg nz, if_pos cT, show (u 32 1).toNat = W by omega, if_pos (zf W (Nat.le_refl W))]
        have z70 := hZ.2
        refine ⟨⟨by omega, by omega, fun _ => ⟨by omega, by omega, fun _ => ⟨q4, fun z => absurd z nz, fun _ => ⟨⟨d_pv (by omega) (by omega) (by omega), d_pv (by omega) (by omega) (by omega)⟩, fun i hi _ => ?_, by omega, ?_, fr_f (fA W) 32 1 rfl rfl⟩⟩, fun z => absurd (by omega) z⟩, fun z => absurd c z⟩, s2, ?_, s1⟩
        · obtain ⟨a1, a2, a3⟩ := step i (by omega)
          have fAi := fA i
          have x32 := fr_f fAi 32 1 rfl rfl
          have tt := turn _ i _ hi fAi a1 a2 a3
          have cc := hcl n i (by omega) hi
          have rr := hro i hi
          refine ⟨by omega, by omega, x32, fun _ => trivial, fun _ => ⟨?_, fun _ => trivial, fun _ => ⟨by omega, ?_, ?_, fun _ => trivial, ?_⟩⟩⟩
          · rw [(x_col (fr_c fAi 31 rfl rfl)).2]
            exact cc.1
          · rw [hc1]
            omega
          · rw [Int.toNat_natCast, a1]
            omega
          · rw [Int.toNat_natCast, hc1]
            intro z
            have e71 : A_P_placeFrom_72 u (n : Int) ((zbits T N : Nat) : Int) row ((zbits U 4 : Nat) : Int) (F_P_placeFrom g) i 71 i = ro i := by rw [a1]; exact rr.1
            rw [e71] at z
            exact (tt z).1
        · have := fr_f (fA W) 32 1 rfl rfl
          omega
        · rw [mulS, row11, eR]
          have e := row10 W
          have : (W : Int) * fR N T k ≤ 4 * fR N T k := Int.mul_le_mul_of_nonneg_right (by omega) (by omega)
          omega
      · have cF : T n = false := by
          cases hh : T n
          · rfl
          · exact absurd hh cT
        have eR : fR N T (k + 1) = fR N T k := by
          simp only [fR]
          rw [en, if_neg cT]
        have nz : zz_and (zz_shr ((zbits T N : Nat) : Int) (n : Int)) 1 = 0 := by rw [q3]; exact cF
        rw [eR] at hrow hord ⊢
        obtain ⟨o1, o2, o3, o4⟩ := ih g u (n + 1) row U ro s (by omega) (by omega) eN eW hco hcl hro hU hrow hZ hord
        simp only [F_P_placeFrom, P_P_placeFrom, bc, fG, en]
        rw [if_pos c, if_pos (show (n : Int) < u 32 2 by omega), if_pos nz, if_neg cT, nx]
        have z70 := hZ.2
        exact ⟨⟨by omega, by omega, fun _ => ⟨by omega, by omega, fun _ => ⟨q4, fun _ => o1, fun z => absurd nz z⟩, fun z => absurd (by omega) z⟩, fun z => absurd c z⟩, o2, o3, o4⟩
    · have z70 := hZ.2
      have eG : fG W N T co cl (k + 1) row U ro s = s := fG_pr (k + 1) row U ro s (by omega) (by omega) hord
      rw [eG]
      simp only [F_P_placeFrom, P_P_placeFrom, bc]
      rw [if_neg c]
      exact ⟨⟨by omega, by omega, fun z => absurd z c, fun _ => trivial⟩, hZ, by omega, rfl⟩
