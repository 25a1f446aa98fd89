/-! reading: is it whole, the class -/
theorem t_cnt {l1 : Int} {w v : z_Wd} (h : t_D l1 w v) : (v 36 0 = l1) ∧ (v 36 1 = w 0 21 ∧ 0 ≤ w 0 21 ∧ w 0 21 ≤ 4) ∧ (v 36 2 = w 0 22 ∧ 0 ≤ w 0 22 ∧ w 0 22 ≤ 7) ∧ (v 36 3 = w 0 23 ∧ 0 ≤ w 0 23 ∧ w 0 23 ≤ 6) := by
  obtain ⟨a0, a1, a2, a3, -⟩ := s_01
  have q0 := h.2.1 0 (by decide)
  have q1 := h.2.1 1 (by decide)
  have q2 := h.2.1 2 (by decide)
  have q3 := h.2.1 3 (by decide)
  simp only [t_cn, a0, a1, a2, a3] at q0 q1 q2 q3
  simp at q0 q1 q2 q3
  omega
theorem t_vn {l1 : Int} {w v : z_Wd} (h : t_D l1 w v) {n i : Nat} (hn : (n : Int) < w 0 22) (hi : i < 3) : w 13 (3 * n + i) = v 35 (15 + 3 * n + i) ∧ z_sc 5 (6 + i) ≤ v 35 (15 + 3 * n + i) ∧ v 35 (15 + 3 * n + i) ≤ z_sc 6 (6 + i) := by
  have q := h.2.2.1 2 n i (by decide) (Or.inl (by have := t_cnt h; omega)) hi
  rw [s_01.2.2.2.2.2.2.1, show t_ni 2 = 3 from rfl, show ((5 : Int).toNat + n) * 3 + i = 15 + 3 * n + i by omega] at q
  exact q
theorem t_vf {l1 : Int} {w v : z_Wd} (h : t_D l1 w v) {n i : Nat} (hn : (n : Int) < w 0 23) (hi : i < 2) : w 14 (2 * n + i) = v 35 (36 + 3 * n + i) ∧ z_sc 5 (9 + i) ≤ v 35 (36 + 3 * n + i) ∧ v 35 (36 + 3 * n + i) ≤ z_sc 6 (9 + i) := by
  have q := h.2.2.1 3 n i (by decide) (Or.inl (by have := t_cnt h; omega)) hi
  rw [s_01.2.2.2.2.2.2.2, show t_ni 3 = 2 from rfl, show ((12 : Int).toNat + n) * 3 + i = 36 + 3 * n + i by omega] at q
  exact q
theorem t_vw {l1 : Int} {w v : z_Wd} (h : t_D l1 w v) {n i : Nat} (hn : (n : Int) < w 0 21) (hi : i < 2) : w 12 (2 * n + i) = v 35 (3 + 3 * n + i) ∧ z_sc 5 (3 + i) ≤ v 35 (3 + 3 * n + i) ∧ v 35 (3 + 3 * n + i) ≤ z_sc 6 (3 + i) := by
  have q := h.2.2.1 1 n i (by decide) (Or.inl (by have := t_cnt h; omega)) hi
  rw [s_01.2.2.2.2.2.1, show t_ni 1 = 2 from rfl, show ((1 : Int).toNat + n) * 3 + i = 3 + 3 * n + i by omega] at q
  exact q
theorem t_vs {l1 : Int} {w v : z_Wd} (h : t_D l1 w v) {i : Nat} (hi : i < 2) : w 11 i = v 35 i ∧ z_sc 5 i ≤ v 35 i ∧ v 35 i ≤ z_sc 6 i := by
  have q := h.2.2.1 0 0 i (by decide) (Or.inr ⟨rfl, rfl⟩) hi
  rw [s_01.2.2.2.2.1, show t_ni 0 = 2 from rfl, show ((0 : Int).toNat + 0) * 3 + i = i by omega, show 2 * 0 + i = i by omega] at q
  exact q
theorem d34 {v : z_Wd} {n : Nat} : (n < 7 → F_Y_value_34 v 2 (n : Int) 1 = v 35 (15 + 3 * n + 1)) ∧ (n < 6 → F_Y_value_34 v 3 (n : Int) 0 = v 35 (36 + 3 * n) ∧ F_Y_value_34 v 3 (n : Int) 1 = v 35 (36 + 3 * n + 1)) := by
  obtain ⟨-, -, a2, a3, -, -, b2, b3⟩ := s_01
  constructor
  · intro h
    unfold F_Y_value_34
    rw [show (2 : Int).toNat = 2 from rfl, a2, b2, if_neg (by omega), if_neg (by omega)]
    congr 1
    omega
  · intro h
    unfold F_Y_value_34
    rw [show (3 : Int).toNat = 3 from rfl, a3, b3, if_neg (by omega), if_neg (by omega), if_neg (by omega), if_neg (by omega)]
    constructor
    · congr 1
      omega
    · congr 1
      omega
theorem p34 {v : z_Wd} {k a j : Int} (hk : k = 2 ∨ k = 3) (ha : -2147483648 ≤ a ∧ a < 2147483648) (hj : 0 ≤ j ∧ j ≤ 2) : P_Y_value_34 v k a j := by
  obtain ⟨-, -, a2, a3, -, -, b2, b3⟩ := s_01
  rcases hk with rfl | rfl
  · unfold P_Y_value_34
    rw [show (2 : Int).toNat = 2 from rfl, a2, b2]
    exact ⟨ha, fun _ => trivial, fun _ => ⟨by omega, by omega, fun _ => trivial, fun _ => by omega⟩⟩
  · unfold P_Y_value_34
    rw [show (3 : Int).toNat = 3 from rfl, a3, b3]
    exact ⟨ha, fun _ => trivial, fun _ => ⟨by omega, by omega, fun _ => trivial, fun _ => by omega⟩⟩
theorem zfind_iff {p : Nat → Bool} {n : Nat} : zfind p n = -1 ↔ ∀ i, i < n → p i = false := by
  constructor
  · exact zfind_none
  · intro h
    by_cases c : zfind p n = -1
    · exact c
    · have r := zfind_r p n
      have s := zfind_spec c
      rw [h _ (by omega)] at s
      cases s
theorem t_whD {l1 : Int} {w v : z_Wd} (h : t_D l1 w v) : P_Y_isWhole_34 v ∧ (F_Y_isWhole_34 v = 0 ∨ F_Y_isWhole_34 v = 1) ∧ (F_Y_isWhole_34 v = 1 ↔ t_whole w) := by
  obtain ⟨-, c1, c2, c3⟩ := t_cnt h
  have r35 := h.2.2.2.2
  have hn : ∀ x : Int, F_Y_hasName_34 v x = 0 ↔ (x < 0 ∨ w 0 22 ≤ x) := fun x => by
    unfold F_Y_hasName_34
    rw [c2.1]
    by_cases y1 : x < 0
    · rw [if_pos y1]
      omega
    · rw [if_neg y1]
      by_cases y2 : x ≥ w 0 22
      · rw [if_pos y2]
        omega
      · rw [if_neg y2]
        omega
  have k1 : (F_Y_knowOthers_34 v = 0 ∨ F_Y_knowOthers_34 v = 1) ∧ (F_Y_knowOthers_34 v = 1 ↔ t_kn w (w 0 22).toNat) := by
    refine ⟨b_Y_knowOthers_34, ?_⟩
    unfold F_Y_knowOthers_34
    rw [c2.1]
    have e : ∀ i : Nat, i < (w 0 22).toNat → (E_Y_knowOthers_34_2 v i = false ↔ (w 13 (3 * i + 1) < w 0 22 ∧ w 13 (3 * i + 1) ≠ (i : Int))) := fun i hi => by
      have q := t_vn h (n := i) (i := 1) (by omega) (by decide)
      have z : z_sc 5 (6 + 1) = 0 := by decide
      have vv := (d34 (v := v) (n := i)).1 (by omega)
      unfold E_Y_knowOthers_34_2
      rw [vv, ← q.1]
      have hn' := hn (w 13 (3 * i + 1))
      by_cases y1 : F_Y_hasName_34 v (w 13 (3 * i + 1)) = 0
      · rw [if_pos y1]
        have := hn'.mp y1
        simp
        omega
      · rw [if_neg y1]
        have : ¬ (w 13 (3 * i + 1) < 0 ∨ w 0 22 ≤ w 13 (3 * i + 1)) := fun y => y1 (hn'.mpr y)
        by_cases y2 : w 13 (3 * i + 1) = (i : Int)
        · rw [if_pos y2]
          simp [y2]
        · rw [if_neg y2]
          simp [y2]
          omega
    by_cases y : zfind (E_Y_knowOthers_34_2 v) (w 0 22).toNat = -1
    · rw [if_pos y]
      exact ⟨fun _ i hi => (e i hi).mp (zfind_iff.mp y i hi), fun _ => rfl⟩
    · rw [if_neg y]
      have r0 : ∀ j, R_Y_knowOthers_34_2 v j = 0 := fun j => by
        unfold R_Y_knowOthers_34_2
        split
        · rfl
        · split <;> rfl
      rw [r0]
      exact ⟨fun z => absurd z (by decide), fun z => absurd (zfind_iff.mpr (fun i hi => (e i hi).mpr (z i hi))) y⟩
  have k2 : (F_Y_filesHoldTwo_34 v = 0 ∨ F_Y_filesHoldTwo_34 v = 1) ∧ (F_Y_filesHoldTwo_34 v = 1 ↔ t_fi w (w 0 23).toNat) := by
    refine ⟨b_Y_filesHoldTwo_34, ?_⟩
    unfold F_Y_filesHoldTwo_34
    rw [c3.1]
    have e : ∀ i : Nat, i < (w 0 23).toNat → (E_Y_filesHoldTwo_34_2 v i = false ↔ (w 14 (2 * i) < w 0 22 ∧ w 14 (2 * i + 1) < w 0 22 ∧ w 14 (2 * i) ≠ w 14 (2 * i + 1))) := fun i hi => by
      have q0 := t_vf h (n := i) (i := 0) (by omega) (by decide)
      have q1 := t_vf h (n := i) (i := 1) (by omega) (by decide)
      have z0 : z_sc 5 (9 + 0) = 0 := by decide
      have z1 : z_sc 5 (9 + 1) = 0 := by decide
      rw [Nat.add_zero, Nat.add_zero, z0] at q0
      rw [z1] at q1
      have vv := (d34 (v := v) (n := i)).2 (by omega)
      unfold E_Y_filesHoldTwo_34_2 F_Y_inFile_34
      rw [if_pos rfl, if_neg n10, vv.1, vv.2, ← q0.1, ← q1.1]
      have hn0 := hn (w 14 (2 * i))
      have hn1 := hn (w 14 (2 * i + 1))
      by_cases y1 : F_Y_hasName_34 v (w 14 (2 * i)) = 0
      · rw [if_pos y1]
        have := hn0.mp y1
        simp
        omega
      · rw [if_neg y1]
        have t1 : ¬ (w 14 (2 * i) < 0 ∨ w 0 22 ≤ w 14 (2 * i)) := fun y => y1 (hn0.mpr y)
        by_cases y2 : F_Y_hasName_34 v (w 14 (2 * i + 1)) = 0
        · rw [if_pos y2]
          have := hn1.mp y2
          simp
          omega
        · rw [if_neg y2]
          have t2 : ¬ (w 14 (2 * i + 1) < 0 ∨ w 0 22 ≤ w 14 (2 * i + 1)) := fun y => y2 (hn1.mpr y)
          by_cases y3 : w 14 (2 * i) = w 14 (2 * i + 1)
          · rw [if_pos y3]
            simp [y3]
          · rw [if_neg y3]
            simp [y3]
            omega
    by_cases y : zfind (E_Y_filesHoldTwo_34_2 v) (w 0 23).toNat = -1
    · rw [if_pos y]
      exact ⟨fun _ i hi => (e i hi).mp (zfind_iff.mp y i hi), fun _ => rfl⟩
    · rw [if_neg y]
      have r0 : ∀ j, R_Y_filesHoldTwo_34_2 v j = 0 := fun j => by
        unfold R_Y_filesHoldTwo_34_2
        split
        · rfl
        · split
          · rfl
          · split <;> rfl
      rw [r0]
      exact ⟨fun z => absurd z (by decide), fun z => absurd (zfind_iff.mpr (fun i hi => (e i hi).mpr (z i hi))) y⟩
  refine ⟨?_, ?_, ?_⟩
  · have pn : ∀ x : Int, -2147483648 ≤ x ∧ x < 2147483648 → P_Y_hasName_34 v x := fun x hx => ⟨hx, fun _ => trivial, fun _ => by omega⟩
    have pv : ∀ i : Nat, i < 7 → -2147483648 ≤ F_Y_value_34 v 2 (i : Int) 1 ∧ F_Y_value_34 v 2 (i : Int) 1 < 2147483648 := fun i hi => by
      rw [(d34 (v := v) (n := i)).1 hi]
      have := r35 (15 + 3 * i + 1) (by omega)
      omega
    have pf0 : ∀ i : Nat, i < 6 → -2147483648 ≤ F_Y_inFile_34 v (i : Int) 0 ∧ F_Y_inFile_34 v (i : Int) 0 < 2147483648 := fun i hi => by
      unfold F_Y_inFile_34
      rw [if_pos rfl, ((d34 (v := v) (n := i)).2 hi).1]
      have := r35 (36 + 3 * i) (by omega)
      omega
    have pf1 : ∀ i : Nat, i < 6 → -2147483648 ≤ F_Y_inFile_34 v (i : Int) 1 ∧ F_Y_inFile_34 v (i : Int) 1 < 2147483648 := fun i hi => by
      unfold F_Y_inFile_34
      rw [if_neg n10, ((d34 (v := v) (n := i)).2 hi).2]
      have := r35 (36 + 3 * i + 1) (by omega)
      omega
    refine ⟨by omega, fun _ => trivial, fun _ => ⟨by omega, fun _ => trivial, fun _ => ⟨⟨fun i hi _ => ⟨by omega, by omega, p34 (by omega) (by omega) (by omega), pn _ (pv i (by omega)), fun _ => trivial, fun _ => pv i (by omega)⟩, by omega, by omega⟩, fun _ => trivial, fun _ => ⟨fun i hi _ => ⟨by omega, by omega, ⟨by omega, fun _ => p34 (by omega) (by omega) (by omega), fun _ => p34 (by omega) (by omega) (by omega)⟩, ⟨by omega, fun _ => p34 (by omega) (by omega) (by omega), fun _ => p34 (by omega) (by omega) (by omega)⟩, pn _ (pf0 i (by omega)), fun _ => trivial, fun _ => ⟨pn _ (pf1 i (by omega)), fun _ => trivial, fun _ => ⟨pf0 i (by omega), pf1 i (by omega)⟩⟩⟩, by omega, by omega⟩⟩⟩⟩
  · unfold F_Y_isWhole_34
    repeat' split
    all_goals simp
  · unfold F_Y_isWhole_34 t_whole
    rw [c1.1, c2.1]
    by_cases y1 : w 0 21 ≤ 0
    · rw [if_pos y1]
      exact ⟨fun z => absurd z (by decide), fun z => by omega⟩
    · rw [if_neg y1]
      by_cases y2 : w 0 22 < 2
      · rw [if_pos y2]
        exact ⟨fun z => absurd z (by decide), fun z => by omega⟩
      · rw [if_neg y2]
        by_cases y3 : F_Y_knowOthers_34 v = 0
        · rw [if_pos y3]
          exact ⟨fun z => absurd z (by decide), fun z => by have := k1.2.mpr z.2.2.1; omega⟩
        · rw [if_neg y3]
          by_cases y4 : F_Y_filesHoldTwo_34 v = 0
          · rw [if_pos y4]
            exact ⟨fun z => absurd z (by decide), fun z => by have := k2.2.mpr z.2.2.2; omega⟩
          · rw [if_neg y4]
            exact ⟨fun _ => ⟨by omega, by omega, k1.2.mp (by omega), k2.2.mp (by omega)⟩, fun _ => rfl⟩
theorem t_rg14 {l1 : Int} {w v : z_Wd} (h : t_D l1 w v) : ∀ i : Nat, (i : Int) < 2 * w 0 23 → 0 ≤ w 14 i ∧ w 14 i ≤ 99 := fun i hi => by
  have q := t_vf h (n := i / 2) (i := i % 2) (by omega) (by omega)
  have z : ∀ j, j < 2 → z_sc 5 (9 + j) = 0 ∧ z_sc 6 (9 + j) = 6 := by decide
  have y := z (i % 2) (by omega)
  rw [show 2 * (i / 2) + i % 2 = i by omega] at q
  omega
