/-! reading: a clause -/
def z_us (c : Nat) (w : z_Wd) (a0 a2 : Int) : Nat → z_Wd
  | 0 => w
  | i + 1 => z_up (z_us c w a0 a2 i) c ((a2 + (i : Int)).toNat) (F_M_usual (z_us c w a0 a2 i) a0 (i : Int))
def z_is (c : Nat) (w : z_Wd) (a0 a2 : Int) (n : Nat) : z_Wd := z_it w c a0 a2 10 0 (F_M_itemOf ((F_M_look (z_us c w a0 a2 n)).2) a0 ((F_M_look (z_us c w a0 a2 n)).1)) ((F_M_look (z_us c w a0 a2 n)).2)
def z_isP (c : Nat) (b : Int) (w : z_Wd) (a0 a2 : Int) (n : Nat) : Prop := (∀ i : Nat, i < n → P_M_usual (z_us c w a0 a2 i) a0 (i : Int) ∧ (0 ≤ a2 + (i : Int) ∧ a2 + (i : Int) < b)) ∧ P_M_look (z_us c w a0 a2 n) ∧ P_M_itemOf ((F_M_look (z_us c w a0 a2 n)).2) a0 ((F_M_look (z_us c w a0 a2 n)).1) ∧ z_itP w c b a0 a2 10 0 (F_M_itemOf ((F_M_look (z_us c w a0 a2 n)).2) a0 ((F_M_look (z_us c w a0 a2 n)).1)) ((F_M_look (z_us c w a0 a2 n)).2)
theorem z_us11 {w : z_Wd} {a0 a2 a3 : Int} : ∀ n, A_M_items_11_3 w a0 a2 a3 n = z_us 11 w a0 a2 n
  | 0 => rfl
  | n + 1 => by
    simp only [A_M_items_11_3, z_us, z_us11 n]
theorem z_is11 {w : z_Wd} {a0 a2 : Int} : F_M_items_11 w a0 a2 2 = z_is 11 w a0 a2 2 := by
  unfold F_M_items_11 z_is
  rw [show (2 : Int).toNat = 2 from rfl, z_us11, z_itL11]
theorem z_iq11 {w : z_Wd} {a0 a2 : Int} (h : z_isP 11 2 w a0 a2 2) : P_M_items_11 w a0 a2 2 := by
  obtain ⟨h1, h2, h3, h4⟩ := h
  unfold P_M_items_11
  rw [show (2 : Int).toNat = 2 from rfl, z_us11]
  refine ⟨fun i hi => ⟨by omega, by omega, ?_, (h1 i hi).2⟩, by omega, by omega, h2, h3, z_itQ11 _ _ _ _ h4⟩
  rw [z_us11]
  exact (h1 i hi).1
theorem z_us12 {w : z_Wd} {a0 a2 a3 : Int} : ∀ n, A_M_items_12_3 w a0 a2 a3 n = z_us 12 w a0 a2 n
  | 0 => rfl
  | n + 1 => by
    simp only [A_M_items_12_3, z_us, z_us12 n]
theorem z_is12 {w : z_Wd} {a0 a2 : Int} : F_M_items_12 w a0 a2 2 = z_is 12 w a0 a2 2 := by
  unfold F_M_items_12 z_is
  rw [show (2 : Int).toNat = 2 from rfl, z_us12, z_itL12]
theorem z_iq12 {w : z_Wd} {a0 a2 : Int} (h : z_isP 12 8 w a0 a2 2) : P_M_items_12 w a0 a2 2 := by
  obtain ⟨h1, h2, h3, h4⟩ := h
  unfold P_M_items_12
  rw [show (2 : Int).toNat = 2 from rfl, z_us12]
  refine ⟨fun i hi => ⟨by omega, by omega, ?_, (h1 i hi).2⟩, by omega, by omega, h2, h3, z_itQ12 _ _ _ _ h4⟩
  rw [z_us12]
  exact (h1 i hi).1
theorem z_us13 {w : z_Wd} {a0 a2 a3 : Int} : ∀ n, A_M_items_13_3 w a0 a2 a3 n = z_us 13 w a0 a2 n
  | 0 => rfl
  | n + 1 => by
    simp only [A_M_items_13_3, z_us, z_us13 n]
theorem z_is13 {w : z_Wd} {a0 a2 : Int} : F_M_items_13 w a0 a2 3 = z_is 13 w a0 a2 3 := by
  unfold F_M_items_13 z_is
  rw [show (3 : Int).toNat = 3 from rfl, z_us13, z_itL13]
theorem z_iq13 {w : z_Wd} {a0 a2 : Int} (h : z_isP 13 21 w a0 a2 3) : P_M_items_13 w a0 a2 3 := by
  obtain ⟨h1, h2, h3, h4⟩ := h
  unfold P_M_items_13
  rw [show (3 : Int).toNat = 3 from rfl, z_us13]
  refine ⟨fun i hi => ⟨by omega, by omega, ?_, (h1 i hi).2⟩, by omega, by omega, h2, h3, z_itQ13 _ _ _ _ h4⟩
  rw [z_us13]
  exact (h1 i hi).1
theorem z_us14 {w : z_Wd} {a0 a2 a3 : Int} : ∀ n, A_M_items_14_3 w a0 a2 a3 n = z_us 14 w a0 a2 n
  | 0 => rfl
  | n + 1 => by
    simp only [A_M_items_14_3, z_us, z_us14 n]
theorem z_is14 {w : z_Wd} {a0 a2 : Int} : F_M_items_14 w a0 a2 2 = z_is 14 w a0 a2 2 := by
  unfold F_M_items_14 z_is
  rw [show (2 : Int).toNat = 2 from rfl, z_us14, z_itL14]
theorem z_iq14 {w : z_Wd} {a0 a2 : Int} (h : z_isP 14 12 w a0 a2 2) : P_M_items_14 w a0 a2 2 := by
  obtain ⟨h1, h2, h3, h4⟩ := h
  unfold P_M_items_14
  rw [show (2 : Int).toNat = 2 from rfl, z_us14]
  refine ⟨fun i hi => ⟨by omega, by omega, ?_, (h1 i hi).2⟩, by omega, by omega, h2, h3, z_itQ14 _ _ _ _ h4⟩
  rw [z_us14]
  exact (h1 i hi).1
/-- one clause's text of the reference, whatever its kind -/
def t_a2 (k : Nat) (w : z_Wd) : Int := if k = 0 then 0 else (t_ni k : Int) * w 0 (20 + k)
def t_bd (k : Nat) : Int := if k = 0 then 2 else if k = 1 then 8 else if k = 2 then 21 else 12
theorem t_ctE {k : Nat} (hk : k < 4) {w : z_Wd} : F_M_clauseText w (t_ch k) = if k = 0 then z_is (11 + k) (z_up w 0 3 (w 0 3 + 1)) (t_ch k) (t_a2 k w) (t_ni k) else z_up (z_is (11 + k) (z_up w 0 3 (w 0 3 + 1)) (t_ch k) (t_a2 k w) (t_ni k)) 0 (20 + k) (z_is (11 + k) (z_up w 0 3 (w 0 3 + 1)) (t_ch k) (t_a2 k w) (t_ni k) 0 (20 + k) + 1) := by
  unfold F_M_clauseText
  rcases (show k = 0 ∨ k = 1 ∨ k = 2 ∨ k = 3 by omega) with rfl | rfl | rfl | rfl
  · rw [if_neg (show ¬ t_ch 0 = 110 by decide), if_pos (show t_ch 0 = 115 by decide), if_pos rfl, z_is11]
    rfl
  · rw [if_neg (show ¬ t_ch 1 = 110 by decide), if_neg (show ¬ t_ch 1 = 115 by decide), if_pos (show t_ch 1 = 119 by decide), if_neg (show ¬ 1 = 0 by decide), z_is12]
    rfl
  · rw [if_pos (show t_ch 2 = 110 by decide), if_neg (show ¬ 2 = 0 by decide), z_is13]
    rfl
  · rw [if_neg (show ¬ t_ch 3 = 110 by decide), if_neg (show ¬ t_ch 3 = 115 by decide), if_neg (show ¬ t_ch 3 = 119 by decide), if_neg (show ¬ 3 = 0 by decide), z_is14]
    rfl
theorem t_ctP {k : Nat} (hk : k < 4) {w : z_Wd} (h : z_isP (11 + k) (t_bd k) (z_up w 0 3 (w 0 3 + 1)) (t_ch k) (t_a2 k w) (t_ni k)) : P_M_clauseText w (t_ch k) := by
  unfold P_M_clauseText
  rcases (show k = 0 ∨ k = 1 ∨ k = 2 ∨ k = 3 by omega) with rfl | rfl | rfl | rfl
  · exact ⟨by decide, fun z => absurd z (by decide), fun _ => ⟨fun _ => z_iq11 h, fun z => absurd (by decide) z⟩⟩
  · exact ⟨by decide, fun z => absurd z (by decide), fun _ => ⟨fun z => absurd z (by decide), fun _ => ⟨fun _ => z_iq12 h, fun z => absurd (by decide) z⟩⟩⟩
  · exact ⟨by decide, fun _ => z_iq13 h, fun z => absurd (by decide) z⟩
  · exact ⟨by decide, fun z => absurd z (by decide), fun _ => ⟨fun z => absurd z (by decide), fun _ => ⟨fun z => absurd z (by decide), fun _ => z_iq14 h⟩⟩⟩
theorem t_usu {w : z_Wd} {k i : Nat} (hk : k < 4) (hi : i < t_ni k) : F_M_usual w (t_ch k) (i : Int) = z_sc 2 (k * 3 + i) ∧ (z_sc 5 (k * 3 + i) ≤ z_sc 2 (k * 3 + i) ∧ z_sc 2 (k * 3 + i) ≤ z_sc 6 (k * 3 + i)) ∧ P_M_usual w (t_ch k) (i : Int) ∧ (0 ≤ z_sc 2 (k * 3 + i) ∧ z_sc 2 (k * 3 + i) ≤ 99) := by
  unfold t_ni at hi
  unfold F_M_usual P_M_usual t_ch
  rcases (show k = 0 ∨ k = 1 ∨ k = 2 ∨ k = 3 by omega) with rfl | rfl | rfl | rfl
  · rcases (show i = 0 ∨ i = 1 by split at hi <;> omega) with rfl | rfl <;> decide
  · rcases (show i = 0 ∨ i = 1 by split at hi <;> omega) with rfl | rfl <;> decide
  · rcases (show i = 0 ∨ i = 1 ∨ i = 2 by split at hi <;> omega) with rfl | rfl | rfl <;> decide
  · rcases (show i = 0 ∨ i = 1 by split at hi <;> omega) with rfl | rfl <;> decide
theorem z_usV {c k a2 : Nat} {w : z_Wd} (hk : k < 4) : ∀ n, n ≤ t_ni k → z_fr [c] [] w (z_us c w (t_ch k) (a2 : Int) n) ∧ ∀ j, z_us c w (t_ch k) (a2 : Int) n c j = if a2 ≤ j ∧ j < a2 + n then z_sc 2 (k * 3 + (j - a2)) else w c j
  | 0, _ => ⟨fr_rf, fun j => by rw [if_neg (by omega)]; rfl⟩
  | n + 1, hn => by
    obtain ⟨h1, h2⟩ := z_usV (c := c) (a2 := a2) (w := w) hk n (by omega)
    obtain ⟨u1, -⟩ := t_usu (w := z_us c w (t_ch k) (a2 : Int) n) hk (i := n) (by omega)
    have e : ((a2 : Int) + (n : Int)).toNat = a2 + n := by omega
    simp only [z_us]
    rw [u1, e]
    refine ⟨fr_c0 h1, fun j => ?_⟩
    by_cases cj : j = a2 + n
    · rw [cj, z_up_at, if_pos (by omega), show a2 + n - a2 = n by omega]
    · rw [z_up_ne cj, h2]
      by_cases c2 : a2 ≤ j ∧ j < a2 + n
      · rw [if_pos c2, if_pos (by omega)]
      · rw [if_neg c2, if_neg (by omega)]
/-- the class opens a clause -/
theorem t_suV {v : z_Wd} {k m : Nat} (hk : k < 4) (hm : (m : Int) < z_sc 0 k) : P_Y_setUsual_34 v (k : Int) (m : Int) ∧ z_fr [35] [] v (F_Y_setUsual_34 v (k : Int) (m : Int)) ∧ ∀ j, F_Y_setUsual_34 v (k : Int) (m : Int) 35 j = if ((z_sc 1 k).toNat + m) * 3 ≤ j ∧ j < ((z_sc 1 k).toNat + m) * 3 + 3 then z_sc 2 (k * 3 + (j - ((z_sc 1 k).toNat + m) * 3)) else v 35 j := by
  have z1 : 0 ≤ z_sc 1 k ∧ z_sc 1 k + z_sc 0 k ≤ 18 := by
    rcases (show k = 0 ∨ k = 1 ∨ k = 2 ∨ k = 3 by omega) with rfl | rfl | rfl | rfl <;> decide
  have f : z_fr [35] [] v (F_Y_setUsual_34 v (k : Int) (m : Int)) := fr_F_Y_setUsual_34
  have e : ∀ i : Nat, ((z_sc 1 (k : Int).toNat + (m : Int)) * 3 + (i : Int)).toNat = ((z_sc 1 k).toNat + m) * 3 + i := fun i => by
    rw [Int.toNat_natCast]
    omega
  have e2 : ∀ i : Nat, ((k : Int) * 3 + (i : Int)).toNat = k * 3 + i := fun i => by omega
  refine ⟨⟨fun i hi => ?_, trivial⟩, f, fun j => ?_⟩
  · rw [Int.toNat_natCast]
    omega
  · unfold F_Y_setUsual_34
    simp only [A_Y_setUsual_34_2, e, e2]
    generalize hB : ((z_sc 1 k).toNat + m) * 3 = B
    by_cases c2 : j = B + 2
    · rw [c2, z_up_at, if_pos (by omega), show B + 2 - B = 2 by omega]
    · rw [z_up_ne c2]
      by_cases c1 : j = B + 1
      · rw [c1, z_up_at, if_pos (by omega), show B + 1 - B = 1 by omega]
      · rw [z_up_ne c1]
        by_cases c0 : j = B + 0
        · rw [c0, z_up_at, if_pos (by omega), show B + 0 - B = 0 by omega]
        · rw [z_up_ne c0, if_neg (by omega)]
theorem t_opV {v : z_Wd} {k m : Nat} (hk : k < 4) (em : v 36 k = (m : Int)) (hm9 : m ≤ 9) : (¬ (m : Int) < z_sc 0 k → P_Y_open_34 v (k : Int) ∧ F_Y_open_34 v (k : Int) = (0, v)) ∧ ((m : Int) < z_sc 0 k → P_Y_open_34 v (k : Int) ∧ (F_Y_open_34 v (k : Int)).1 = 1 ∧ z_fr [35, 36] [] v (F_Y_open_34 v (k : Int)).2 ∧ (∀ j, (F_Y_open_34 v (k : Int)).2 36 j = if j = k then (m : Int) + 1 else v 36 j) ∧ ∀ j, (F_Y_open_34 v (k : Int)).2 35 j = if ((z_sc 1 k).toNat + m) * 3 ≤ j ∧ j < ((z_sc 1 k).toNat + m) * 3 + 3 then z_sc 2 (k * 3 + (j - ((z_sc 1 k).toNat + m) * 3)) else v 35 j) := by
  have z1 : 0 ≤ z_sc 0 k ∧ z_sc 0 k ≤ 7 := by
    rcases (show k = 0 ∨ k = 1 ∨ k = 2 ∨ k = 3 by omega) with rfl | rfl | rfl | rfl <;> decide
  have f : z_fr [35, 36] [] v (F_Y_open_34 v (k : Int)).2 := fr_F_Y_open_34
  have pp : ((m : Int) < z_sc 0 k → P_Y_setUsual_34 v (k : Int) (m : Int)) → (m : Int) ≤ 1000 → P_Y_open_34 v (k : Int) := fun h h2 => by
    unfold P_Y_open_34
    rw [Int.toNat_natCast, em]
    exact ⟨by omega, by omega, by omega, h, fun _ => trivial⟩
  refine ⟨fun h => ⟨?_, ?_⟩, fun h => ?_⟩
  · unfold P_Y_open_34
    rw [Int.toNat_natCast, em]
    exact ⟨by omega, by omega, by omega, fun z => absurd z h, fun _ => trivial⟩
  · unfold F_Y_open_34
    rw [Int.toNat_natCast, em, if_neg h]
  · obtain ⟨s1, s2, s3⟩ := t_suV (v := v) hk h
    have e36 : F_Y_setUsual_34 v (k : Int) (m : Int) 36 = v 36 := fr_c s2 36 rfl rfl
    have eq : F_Y_open_34 v (k : Int) = (1, z_up (F_Y_setUsual_34 v (k : Int) (m : Int)) 36 k ((m : Int) + 1)) := by
      unfold F_Y_open_34
      rw [Int.toNat_natCast, em, if_pos h, e36, em]
    rw [eq] at f ⊢
    dsimp only at f ⊢
    refine ⟨pp (fun _ => s1) (by omega), rfl, f, fun j => ?_, fun j => ?_⟩
    · by_cases cj : j = k
      · rw [if_pos cj, cj, z_up_at]
      · rw [if_neg cj, z_up_ne cj, e36]
    · rw [z_up_other (by decide)]
      exact s3 j
