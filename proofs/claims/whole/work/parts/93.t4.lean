/-! reading: both sides of a clause's items -/
def t_ch (k : Nat) : Int := if k = 0 then 115 else if k = 1 then 119 else if k = 2 then 110 else 102
def t_ni (k : Nat) : Nat := if k = 2 then 3 else 2
theorem t_lh {w : z_Wd} {k i : Nat} (hk : k < 4) (hi : i < t_ni k) : F_M_lowest w (t_ch k) (i : Int) = z_sc 5 (k * 3 + i) ∧ F_M_highest w (t_ch k) (i : Int) = z_sc 6 (k * 3 + i) ∧ (0 ≤ z_sc 5 (k * 3 + i) ∧ z_sc 5 (k * 3 + i) ≤ 1) ∧ (0 ≤ z_sc 6 (k * 3 + i) ∧ z_sc 6 (k * 3 + i) ≤ 99) ∧ P_M_lowest w (t_ch k) (i : Int) ∧ P_M_highest w (t_ch k) (i : Int) := by
  unfold t_ni at hi
  unfold F_M_lowest F_M_highest P_M_lowest P_M_highest t_ch
  rcases (show k = 0 ∨ k = 1 ∨ k = 2 ∨ k = 3 by omega) with rfl | rfl | rfl | rfl
  · rcases (show i = 0 ∨ i = 1 by split at hi <;> omega) with rfl | rfl <;> decide
  · rcases (show i = 0 ∨ i = 1 by split at hi <;> omega) with rfl | rfl <;> decide
  · rcases (show i = 0 ∨ i = 1 ∨ i = 2 by split at hi <;> omega) with rfl | rfl | rfl <;> decide
  · rcases (show i = 0 ∨ i = 1 by split at hi <;> omega) with rfl | rfl <;> decide
theorem t_ioE {v : z_Wd} {k : Nat} {x : Int} : F_YR_itemOf v (k : Int) x = if x = 0 then -1 else if x = z_sc 4 (k * 3) then 0 else if x = z_sc 4 (k * 3 + 1) then 1 else if x = z_sc 4 (k * 3 + 2) then 2 else -1 := by
  unfold F_YR_itemOf
  simp only [zfind]
  unfold E_YR_itemOf_2 R_YR_itemOf_2
  rw [show ((k : Int) * 3 + ((0 : Nat) : Int)).toNat = k * 3 by omega, show ((k : Int) * 3 + ((1 : Nat) : Int)).toNat = k * 3 + 1 by omega, show ((k : Int) * 3 + ((2 : Nat) : Int)).toNat = k * 3 + 2 by omega]
  by_cases c : x = 0
  · simp [c]
  · simp only [if_neg c]
    by_cases c0 : x = z_sc 4 (k * 3)
    · simp [c0]
    · by_cases c1 : x = z_sc 4 (k * 3 + 1)
      · have e1 : ((k : Int) * 3 + 1).toNat = k * 3 + 1 := by omega
        simp only [if_neg c0, if_pos c1]
        simp [e1, ← c1]
      · by_cases c2 : x = z_sc 4 (k * 3 + 2)
        · have e1 : ((k : Int) * 3 + 2).toNat = k * 3 + 2 := by omega
          simp only [if_neg c0, if_neg c1, if_pos c2]
          simp [e1, ← c2]
        · simp [c0, c1, c2]
theorem t_io {w v : z_Wd} {k : Nat} (hk : k < 4) {x : Int} (hx : 0 ≤ x ∧ x ≤ 255) : F_M_itemOf w (t_ch k) (t_mc x) = F_YR_itemOf v (k : Int) x ∧ (F_YR_itemOf v (k : Int) x = -1 ∨ ∃ i : Nat, i < t_ni k ∧ F_YR_itemOf v (k : Int) x = (i : Int) ∧ x ≠ 59 ∧ x ≠ 0) ∧ P_YR_itemOf v (k : Int) x ∧ P_M_itemOf w (t_ch k) (t_mc x) := by
  have r := t_mcr hx
  have z : ∀ j, j < 12 → -2147483648 ≤ z_sc 4 j ∧ z_sc 4 j < 2147483648 := by decide
  refine ⟨?_, ?_, ⟨fun i hi _ => ⟨by omega, by omega, fun _ => trivial, fun _ => ⟨by omega, z _ (by omega)⟩⟩, trivial⟩, ?_⟩
  · rw [t_ioE]
    unfold t_mc F_M_itemOf t_ch
    rcases (show k = 0 ∨ k = 1 ∨ k = 2 ∨ k = 3 by omega) with rfl | rfl | rfl | rfl
    · rw [show z_sc 4 (0 * 3) = 100 by decide, show z_sc 4 (0 * 3 + 1) = 99 by decide, show z_sc 4 (0 * 3 + 2) = 0 by decide]
      repeat' split
      all_goals first | rfl | omega
    · rw [show z_sc 4 (1 * 3) = 100 by decide, show z_sc 4 (1 * 3 + 1) = 114 by decide, show z_sc 4 (1 * 3 + 2) = 0 by decide]
      repeat' split
      all_goals first | rfl | omega
    · rw [show z_sc 4 (2 * 3) = 115 by decide, show z_sc 4 (2 * 3 + 1) = 102 by decide, show z_sc 4 (2 * 3 + 2) = 111 by decide]
      repeat' split
      all_goals first | rfl | omega
    · rw [show z_sc 4 (3 * 3) = 97 by decide, show z_sc 4 (3 * 3 + 1) = 98 by decide, show z_sc 4 (3 * 3 + 2) = 0 by decide]
      repeat' split
      all_goals first | rfl | omega
  · rw [t_ioE]
    unfold t_ni
    rcases (show k = 0 ∨ k = 1 ∨ k = 2 ∨ k = 3 by omega) with rfl | rfl | rfl | rfl
    · rw [show z_sc 4 (0 * 3) = 100 by decide, show z_sc 4 (0 * 3 + 1) = 99 by decide, show z_sc 4 (0 * 3 + 2) = 0 by decide]
      repeat' split
      all_goals first | exact Or.inl rfl | exact Or.inr ⟨0, by decide, rfl, by omega, by omega⟩ | exact Or.inr ⟨1, by decide, rfl, by omega, by omega⟩ | omega
    · rw [show z_sc 4 (1 * 3) = 100 by decide, show z_sc 4 (1 * 3 + 1) = 114 by decide, show z_sc 4 (1 * 3 + 2) = 0 by decide]
      repeat' split
      all_goals first | exact Or.inl rfl | exact Or.inr ⟨0, by decide, rfl, by omega, by omega⟩ | exact Or.inr ⟨1, by decide, rfl, by omega, by omega⟩ | omega
    · rw [show z_sc 4 (2 * 3) = 115 by decide, show z_sc 4 (2 * 3 + 1) = 102 by decide, show z_sc 4 (2 * 3 + 2) = 111 by decide]
      repeat' split
      all_goals first | exact Or.inl rfl | exact Or.inr ⟨0, by decide, rfl, by omega, by omega⟩ | exact Or.inr ⟨1, by decide, rfl, by omega, by omega⟩ | exact Or.inr ⟨2, by decide, rfl, by omega, by omega⟩ | omega
    · rw [show z_sc 4 (3 * 3) = 97 by decide, show z_sc 4 (3 * 3 + 1) = 98 by decide, show z_sc 4 (3 * 3 + 2) = 0 by decide]
      repeat' split
      all_goals first | exact Or.inl rfl | exact Or.inr ⟨0, by decide, rfl, by omega, by omega⟩ | exact Or.inr ⟨1, by decide, rfl, by omega, by omega⟩ | omega
  · unfold P_M_itemOf t_ch
    have rr : -2147483648 ≤ t_mc x ∧ t_mc x < 2147483648 := by omega
    refine ⟨by split <;> (try split) <;> (try split) <;> omega, fun _ => rr, fun _ => ⟨fun _ => rr, fun _ => ⟨fun _ => rr, fun _ => rr⟩⟩⟩
/-- a number, on both sides -/
theorem t_num2 {w v : z_Wd} (h : r_ta w v) (h0 : 0 ≤ w 0 3 ∧ w 0 3 ≤ 241) (h4 : w 0 4 = -1) {q : Int} (eb : F_T_behindBlanks v (w 0 3) = q) (eq : v 33 2 = q) {k i ix : Nat} (hk : k < 4) (hi : i < t_ni k) (hm : 1 ≤ v 36 k ∧ v 36 k ≤ 7) (hx : ((z_sc 1 k + v 36 k) - 1) * 3 + (i : Int) = (ix : Int)) (hx2 : ix < 54) : P_M_number w (F_M_lowest w (t_ch k) (i : Int)) (F_M_highest w (t_ch k) (i : Int)) ∧ P_YR_readNumber v (k : Int) (i : Int) ∧ ∃ e y : Int, (0 ≤ y ∧ y ≤ 99) ∧ ((F_M_number w (F_M_lowest w (t_ch k) (i : Int)) (F_M_highest w (t_ch k) (i : Int)) = (y, z_up (z_up w 0 3 e) 0 4 e) ∧ F_YR_readNumber v (k : Int) (i : Int) = (0, z_up v 33 2 e) ∧ 0 ≤ e ∧ e ≤ 1000) ∨ (F_M_number w (F_M_lowest w (t_ch k) (i : Int)) (F_M_highest w (t_ch k) (i : Int)) = (y, z_up w 0 3 e) ∧ F_YR_readNumber v (k : Int) (i : Int) = (1, z_up (z_up v 35 ix y) 33 2 (F_T_behindBlanks v e)) ∧ z_sc 5 (k * 3 + i) ≤ y ∧ y ≤ z_sc 6 (k * 3 + i) ∧ q < e ∧ e ≤ v 28 1)) := by
  obtain ⟨l1, l2, l3, l4, -, -⟩ := t_lh (w := w) hk hi
  rw [l1, l2]
  have ht := t_ta h
  have hl := h.2.1
  have br := t_bbr (v := v) h0.1
  rw [eb] at br
  have bq : 0 ≤ q ∧ q ≤ 241 := by
    by_cases c : w 0 3 ≤ v 28 1
    · have := br.2.1 c
      omega
    · have z := (t_atr ht (p := w 0 3) h0.1).2.mpr (by omega)
      have := t_bbno (v := v) h0.1 (by omega)
      omega
  have a0 := (t_atr ht (p := q) (by omega))
  have a1 := (t_atr ht (p := q + 1) (by omega))
  have hn3 : i < 3 := by
    unfold t_ni at hi
    split at hi <;> omega
  obtain ⟨m1, m2⟩ := t_numM h (by omega) h4 (lo := z_sc 5 (k * 3 + i)) (hi := z_sc 6 (k * 3 + i)) (by omega) (by omega) eb
  obtain ⟨d1, d2⟩ := t_numD ht eq (by omega) hk hn3 hm hx hx2 (lo := z_sc 5 (k * 3 + i)) (hh := z_sc 6 (k * 3 + i)) ⟨rfl, by omega, by omega⟩ ⟨rfl, by omega, by omega⟩
  refine ⟨m1, d1, ?_⟩
  rw [m2, d2]
  by_cases c0 : t_dg (F_T_at v q) = false
  · rw [if_pos c0, if_pos c0]
    exact ⟨q, z_sc 5 (k * 3 + i), by omega, Or.inl ⟨rfl, by rw [z_self eq.symm], by omega, by omega⟩⟩
  · rw [if_neg c0, if_neg c0]
    have c0 : t_dg (F_T_at v q) = true := by
      cases hh : t_dg (F_T_at v q)
      · exact absurd hh c0
      · rfl
    have g0 := t_dgy.mp c0
    by_cases c1 : t_dg (F_T_at v (q + 1)) = false
    · rw [if_pos c1, if_pos c1]
      by_cases y : F_T_at v q - 48 < z_sc 5 (k * 3 + i) ∨ z_sc 6 (k * 3 + i) < F_T_at v q - 48
      · rw [if_pos y, if_pos y]
        exact ⟨q, _, by omega, Or.inl ⟨rfl, rfl, by omega, by omega⟩⟩
      · rw [if_neg y, if_neg y]
        exact ⟨q + 1, F_T_at v q - 48, by omega, Or.inr ⟨rfl, rfl, by omega, by omega, by omega, by omega⟩⟩
    · rw [if_neg c1, if_neg c1]
      have c1 : t_dg (F_T_at v (q + 1)) = true := by
        cases hh : t_dg (F_T_at v (q + 1))
        · exact absurd hh c1
        · rfl
      have g1 := t_dgy.mp c1
      by_cases c2 : t_dg (F_T_at v (q + 2)) = false
      · rw [if_pos c2, if_pos c2]
        by_cases y : 10 * (F_T_at v q - 48) + F_T_at v (q + 1) - 48 < z_sc 5 (k * 3 + i) ∨ z_sc 6 (k * 3 + i) < 10 * (F_T_at v q - 48) + F_T_at v (q + 1) - 48
        · rw [if_pos y, if_pos y]
          exact ⟨q + 1, _, by omega, Or.inl ⟨rfl, rfl, by omega, by omega⟩⟩
        · rw [if_neg y, if_neg y]
          exact ⟨q + 2, 10 * (F_T_at v q - 48) + F_T_at v (q + 1) - 48, by omega, Or.inr ⟨rfl, rfl, by omega, by omega, by omega, by omega⟩⟩
      · rw [if_neg c2, if_neg c2]
        exact ⟨q + 2, _, by omega, Or.inl ⟨rfl, rfl, by omega, by omega⟩⟩
theorem bt_add3 {U : Nat → Bool} {i : Nat} (hi : i < 3) : zz_or ((zbits U 3 : Nat) : Int) (zz_shl 1 (i : Int)) = ((zbits (fun j => U j || (j == i)) 3 : Nat) : Int) := by
  rw [bt_one (n := 3) hi (by decide), bt_or (by decide)]
theorem zc_add3 {U : Nat → Bool} {i : Nat} (hi : i < 3) (h : U i = false) : zcnt (fun j => U j || (j == i)) 3 = zcnt U 3 + 1 := by
  simp only [zcnt]
  rcases (show i = 0 ∨ i = 1 ∨ i = 2 by omega) with rfl | rfl | rfl
  · by_cases e1 : U 1 = true <;> by_cases e2 : U 2 = true <;> simp [h, e1, e2]
  · by_cases e1 : U 0 = true <;> by_cases e2 : U 2 = true <;> simp [h, e1, e2]
  · by_cases e1 : U 0 = true <;> by_cases e2 : U 1 = true <;> simp [h, e1, e2]
theorem zc_full {U : Nat → Bool} (h : zcnt U 3 = 3) {i : Nat} (hi : i < 3) : U i = true := by
  simp only [zcnt] at h
  rcases (show i = 0 ∨ i = 1 ∨ i = 2 by omega) with rfl | rfl | rfl
  · cases e : U 0
    · cases e1 : U 1 <;> cases e2 : U 2 <;> simp [e, e1, e2] at h
    · rfl
  · cases e : U 1
    · cases e1 : U 0 <;> cases e2 : U 2 <;> simp [e, e1, e2] at h
    · rfl
  · cases e : U 2
    · cases e1 : U 0 <;> cases e2 : U 1 <;> simp [e, e1, e2] at h
    · rfl
/-- what is kept in both drafts -/
def t_J (c a2 B ni : Nat) (w0 v0 wu u : z_Wd) : Prop := z_fr [c] [(0, 3), (0, 4)] w0 wu ∧ z_fr [35] [(33, 2)] v0 u ∧ (∀ j, j < a2 ∨ a2 + ni ≤ j → wu c j = w0 c j) ∧ (∀ j, j < B ∨ B + ni ≤ j → u 35 j = v0 35 j) ∧ ∀ i, i < ni → (0 ≤ wu c (a2 + i) ∧ wu c (a2 + i) ≤ 99) ∧ (0 ≤ u 35 (B + i) ∧ u 35 (B + i) ≤ 99)
def t_I (k c a2 B ni : Nat) (w0 v0 wu u : z_Wd) : Prop := r_ta wu u ∧ wu 0 4 = -1 ∧ wu 0 3 = u 33 2 ∧ (0 ≤ u 33 2 ∧ u 33 2 ≤ u 28 1) ∧ ¬ F_T_at u (u 33 2) = 32 ∧ t_J c a2 B ni w0 v0 wu u ∧ ∀ i, i < ni → wu c (a2 + i) = u 35 (B + i) ∧ z_sc 5 (k * 3 + i) ≤ u 35 (B + i) ∧ u 35 (B + i) ≤ z_sc 6 (k * 3 + i)
def t_O (k c a2 B ni : Nat) (w0 v0 wM : z_Wd) (r : Int × z_Wd) : Prop := (r.1 = 1 ∧ t_I k c a2 B ni w0 v0 wM r.2) ∨ (r.1 = 0 ∧ t_J c a2 B ni w0 v0 wM r.2 ∧ ((wM 0 4 = r.2 33 2 ∧ 0 ≤ r.2 33 2 ∧ r.2 33 2 ≤ 1000) ∨ (wM 0 4 = -1 ∧ wM 0 3 = r.2 33 2 ∧ (0 ≤ r.2 33 2 ∧ r.2 33 2 ≤ r.2 28 1) ∧ F_T_at r.2 (r.2 33 2) ≠ 59 ∧ F_T_at r.2 (r.2 33 2) ≠ 0 ∧ F_T_at r.2 (r.2 33 2) ≠ 32)))
