/-! reading: a clause on both sides -/
theorem s_01 : z_sc 0 0 = 1 ∧ z_sc 0 1 = 4 ∧ z_sc 0 2 = 7 ∧ z_sc 0 3 = 6 ∧ z_sc 1 0 = 0 ∧ z_sc 1 1 = 1 ∧ z_sc 1 2 = 5 ∧ z_sc 1 3 = 12 := by decide
theorem t_row {k k' m m' : Nat} (hk : k < 4) (hk' : k' < 4) (hne : k' ≠ k) (hm : (m : Int) < z_sc 0 k) (hm' : (m' : Int) < z_sc 0 k') : (z_sc 1 k').toNat + m' ≠ (z_sc 1 k).toNat + m := by
  obtain ⟨a0, a1, a2, a3, b0, b1, b2, b3⟩ := s_01
  rcases (show k = 0 ∨ k = 1 ∨ k = 2 ∨ k = 3 by omega) with rfl | rfl | rfl | rfl <;> rcases (show k' = 0 ∨ k' = 1 ∨ k' = 2 ∨ k' = 3 by omega) with rfl | rfl | rfl | rfl <;> simp only [a0, a1, a2, a3, b0, b1, b2, b3] at hm hm' ⊢ <;> omega
theorem t_ko {v : z_Wd} {x : Int} (hx : 0 ≤ x ∧ x ≤ 255) : P_YR_kindOf v x ∧ ((F_YR_kindOf v x = -1 ∧ ∀ k, k < 4 → x ≠ t_ch k) ∨ ∃ k : Nat, k < 4 ∧ F_YR_kindOf v x = (k : Int) ∧ x = t_ch k) := by
  have z : ∀ j, j < 4 → -2147483648 ≤ z_sc 3 j ∧ z_sc 3 j < 2147483648 := by decide
  have e0 : z_sc 3 0 = 115 := by decide
  have e1 : z_sc 3 1 = 119 := by decide
  have e2 : z_sc 3 2 = 110 := by decide
  have e3 : z_sc 3 3 = 102 := by decide
  refine ⟨⟨fun i hi _ => ⟨by omega, by omega, by omega, z _ (by omega)⟩, trivial⟩, ?_⟩
  unfold F_YR_kindOf
  simp only [zfind]
  unfold E_YR_kindOf_2 R_YR_kindOf_2
  simp only [Int.toNat_natCast, e0, e1, e2, e3]
  by_cases c0 : x = 115
  · exact Or.inr ⟨0, by decide, by simp [c0, e0], c0⟩
  · by_cases c1 : x = 119
    · exact Or.inr ⟨1, by decide, by simp [c1, e1], c1⟩
    · by_cases c2 : x = 110
      · exact Or.inr ⟨2, by decide, by simp [c2, e2], c2⟩
      · by_cases c3 : x = 102
        · exact Or.inr ⟨3, by decide, by simp [c3, e3], c3⟩
        · refine Or.inl ⟨by simp [c0, c1, c2, c3], fun k hk => ?_⟩
          rcases (show k = 0 ∨ k = 1 ∨ k = 2 ∨ k = 3 by omega) with rfl | rfl | rfl | rfl
          · exact c0
          · exact c1
          · exact c2
          · exact c3
def t_cn (k : Nat) (l1 : Int) (w : z_Wd) : Int := if k = 0 then l1 else w 0 (20 + k)
theorem t_rmI {w : z_Wd} {x l1 : Int} (hl : l1 = 0 ∨ l1 = 1) : ((∀ k, k < 4 → x ≠ t_ch k) → z_rmI w (t_mc x) l1 = 0) ∧ ∀ k : Nat, k < 4 → x = t_ch k → t_mc x = t_ch k ∧ z_rmI w (t_mc x) l1 = if t_cn k l1 w < z_sc 0 k then 1 else 0 := by
  obtain ⟨a0, a1, a2, a3, -⟩ := s_01
  constructor
  · intro h
    have h0 : x ≠ 115 := h 0 (by decide)
    have h1 : x ≠ 119 := h 1 (by decide)
    have h2 : x ≠ 110 := h 2 (by decide)
    have h3 : x ≠ 102 := h 3 (by decide)
    have m : t_mc x = x ∨ t_mc x = -1 := by
      unfold t_mc
      split <;> simp
    unfold z_rmI
    rw [if_neg (by omega), if_neg (by omega), if_neg (by omega), if_neg (by omega)]
  · intro k hk hx
    have e : t_mc x = t_ch k := by
      unfold t_mc
      rw [if_neg]
      · exact hx
      · rw [hx]
        rcases (show k = 0 ∨ k = 1 ∨ k = 2 ∨ k = 3 by omega) with rfl | rfl | rfl | rfl <;> decide
    refine ⟨e, ?_⟩
    rw [e]
    unfold z_rmI t_cn
    rcases (show k = 0 ∨ k = 1 ∨ k = 2 ∨ k = 3 by omega) with rfl | rfl | rfl | rfl
    · rw [if_pos (show t_ch 0 = 115 by decide), if_pos rfl, a0]
      rcases hl with rfl | rfl <;> decide
    · rw [if_neg (show ¬ t_ch 1 = 115 by decide), if_pos (show t_ch 1 = 119 by decide), if_neg (show ¬ 1 = 0 by decide), a1]
    · rw [if_neg (show ¬ t_ch 2 = 115 by decide), if_neg (show ¬ t_ch 2 = 119 by decide), if_pos (show t_ch 2 = 110 by decide), if_neg (show ¬ 2 = 0 by decide), a2]
    · rw [if_neg (show ¬ t_ch 3 = 115 by decide), if_neg (show ¬ t_ch 3 = 119 by decide), if_neg (show ¬ t_ch 3 = 110 by decide), if_pos (show t_ch 3 = 102 by decide), if_neg (show ¬ 3 = 0 by decide), a3]
/-- the two drafts -/
def t_D (l1 : Int) (w v : z_Wd) : Prop := (l1 = 0 ∨ l1 = 1) ∧ (∀ k : Nat, k < 4 → v 36 k = t_cn k l1 w ∧ 0 ≤ v 36 k ∧ v 36 k ≤ z_sc 0 k) ∧ (∀ k m i : Nat, k < 4 → ((m : Int) < v 36 k ∨ (k = 0 ∧ m = 0)) → i < t_ni k → w (11 + k) (t_ni k * m + i) = v 35 (((z_sc 1 k).toNat + m) * 3 + i) ∧ z_sc 5 (k * 3 + i) ≤ v 35 (((z_sc 1 k).toNat + m) * 3 + i) ∧ v 35 (((z_sc 1 k).toNat + m) * 3 + i) ≤ z_sc 6 (k * 3 + i)) ∧ r_rd w v
def t_S (l1 : Int) (w v : z_Wd) : Prop := r_ta w v ∧ w 0 4 = -1 ∧ (0 ≤ w 0 3 ∧ w 0 3 ≤ v 28 1) ∧ v 33 2 = F_T_behindBlanks v (w 0 3) ∧ t_D l1 w v
/-- behind a clause of kind k -/
theorem t_Dn {k m : Nat} {l1 : Int} {w v v1 wM u : z_Wd} (hk : k < 4) (hD : t_D l1 w v) (em : v 36 k = (m : Int)) (hm : (m : Int) < z_sc 0 k) (f1 : ∀ j, v1 36 j = if j = k then (m : Int) + 1 else v 36 j) (f2 : ∀ j, (j < ((z_sc 1 k).toNat + m) * 3 ∨ ((z_sc 1 k).toNat + m) * 3 + 3 ≤ j) → v1 35 j = v 35 j) (hJ : t_J (11 + k) (t_ni k * m) (((z_sc 1 k).toNat + m) * 3) (t_ni k) w v1 wM u) (hV : ∀ i, i < t_ni k → wM (11 + k) (t_ni k * m + i) = u 35 (((z_sc 1 k).toNat + m) * 3 + i) ∧ z_sc 5 (k * 3 + i) ≤ u 35 (((z_sc 1 k).toNat + m) * 3 + i) ∧ u 35 (((z_sc 1 k).toNat + m) * 3 + i) ≤ z_sc 6 (k * 3 + i)) {C : z_Wd} {l2 : Int} (hC : ∀ c, 11 ≤ c → C c = wM c) (hn : ∀ k' : Nat, k' < 4 → t_cn k' l2 C = if k' = k then (m : Int) + 1 else t_cn k' l1 w) (hl : l2 = 0 ∨ l2 = 1) (hr : r_rd wM u) : t_D l2 C u := by
  obtain ⟨d1, d2, d3, d4⟩ := hD
  obtain ⟨j1, j2, j3, j4, j5⟩ := hJ
  have ni3 : t_ni k ≤ 3 := by
    unfold t_ni
    split <;> omega
  have u36 : u 36 = v1 36 := fr_c j2 36 rfl rfl
  refine ⟨hl, fun k' hk' => ?_, fun k' m' i hk' hm' hi => ?_, ?_⟩
  · rw [u36, f1, hn k' hk']
    have q := d2 k' hk'
    by_cases c : k' = k
    · subst c
      rw [if_pos rfl]
      omega
    · rw [if_neg c, if_neg c]
      exact q
  · rw [u36, f1] at hm'
    rw [hC _ (by omega)]
    have ni3' : t_ni k' ≤ 3 := by
      unfold t_ni
      split <;> omega
    by_cases c : k' = k
    · subst c
      rw [if_pos rfl] at hm'
      by_cases cm : m' = m
      · subst cm
        exact hV i hi
      · have hlt : (m' : Int) < v 36 k' ∨ (k' = 0 ∧ m' = 0) := by omega
        have q := d3 k' m' i hk' hlt hi
        have hlt2 : m' < m := by
          have := (d2 k' hk').2
          rcases hm' with z | ⟨z1, z2⟩
          · omega
          · omega
        have ix : t_ni k' * m' + i < t_ni k' * m := by
          have h1 : t_ni k' * (m' + 1) ≤ t_ni k' * m := Nat.mul_le_mul_left _ hlt2
          rw [Nat.mul_add, Nat.mul_one] at h1
          omega
        rw [j3 _ (Or.inl ix), j4 _ (Or.inl (by omega)), f2 _ (Or.inl (by omega))]
        exact q
    · rw [if_neg c] at hm'
      have q := d3 k' m' i hk' hm' hi
      have z00 := s_01.1
      have rw' := t_row hk hk' c hm (m' := m') (by
        have := (d2 k' hk').2
        rcases hm' with z | ⟨z1, z2⟩
        · omega
        · subst z1
          omega)
      have ec : wM (11 + k') = w (11 + k') := fr_c j1 (11 + k') (by simp; omega) (by simp; omega)
      rw [ec, j4 _ (by omega), f2 _ (by omega)]
      exact q
  · unfold r_rd
    rw [hC 13 (by decide)]
    exact hr
