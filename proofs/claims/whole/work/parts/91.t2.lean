/-! reading: numbers of a ministry -/
def t_dg (x : Int) : Bool := decide (48 ≤ x ∧ x ≤ 57)
theorem t_dgy {x : Int} : t_dg x = true ↔ 48 ≤ x ∧ x ≤ 57 := by
  unfold t_dg
  exact decide_eq_true_iff
theorem t_E {v : z_Wd} {q a : Int} {i : Nat} : E_T_digitsFrom_2 v q a i = !(t_dg (F_T_at v (q + (i : Int)))) := by
  unfold E_T_digitsFrom_2 t_dg
  by_cases c : 48 ≤ F_T_at v (q + (i : Int)) ∧ F_T_at v (q + (i : Int)) ≤ 57
  · rw [if_neg (by omega), if_neg (by omega), decide_eq_true c]
    rfl
  · rw [decide_eq_false c]
    by_cases d : F_T_at v (q + (i : Int)) < 48
    · rw [if_pos d]
      rfl
    · rw [if_neg d, if_pos (by omega)]
      rfl
theorem t_R {v : z_Wd} {q a : Int} {i : Nat} (h : t_dg (F_T_at v (q + (i : Int))) = false) : R_T_digitsFrom_2 v q a i = (i : Int) := by
  unfold R_T_digitsFrom_2
  by_cases d : F_T_at v (q + (i : Int)) < 48
  · rw [if_pos d]
  · rw [if_neg d]
    unfold t_dg at h
    have := decide_eq_false_iff_not.mp h
    rw [if_pos (by omega)]
theorem t_dig {v : z_Wd} {q : Int} : F_T_digitsFrom v q 3 = if t_dg (F_T_at v q) = false then 0 else if t_dg (F_T_at v (q + 1)) = false then 1 else if t_dg (F_T_at v (q + 2)) = false then 2 else 3 := by
  have e0 := t_E (v := v) (q := q) (a := 3) (i := 0)
  have e1 := t_E (v := v) (q := q) (a := 3) (i := 1)
  have e2 := t_E (v := v) (q := q) (a := 3) (i := 2)
  have r0 := t_R (v := v) (q := q) (a := 3) (i := 0)
  have r1 := t_R (v := v) (q := q) (a := 3) (i := 1)
  have r2 := t_R (v := v) (q := q) (a := 3) (i := 2)
  rw [show q + ((0 : Nat) : Int) = q by omega] at e0 r0
  rw [show q + ((1 : Nat) : Int) = q + 1 by omega] at e1 r1
  rw [show q + ((2 : Nat) : Int) = q + 2 by omega] at e2 r2
  unfold F_T_digitsFrom
  rw [show (3 : Int).toNat = 3 from rfl]
  simp only [zfind]
  rw [e0, e1, e2]
  by_cases c0 : t_dg (F_T_at v q) = false
  · rw [if_pos c0, c0]
    simp
    exact r0 c0
  · rw [if_neg c0]
    have d0 : t_dg (F_T_at v q) = true := by
      cases h : t_dg (F_T_at v q)
      · exact absurd h c0
      · rfl
    rw [d0]
    by_cases c1 : t_dg (F_T_at v (q + 1)) = false
    · rw [if_pos c1, c1]
      simp
      exact r1 c1
    · rw [if_neg c1]
      have d1 : t_dg (F_T_at v (q + 1)) = true := by
        cases h : t_dg (F_T_at v (q + 1))
        · exact absurd h c1
        · rfl
      rw [d1]
      by_cases c2 : t_dg (F_T_at v (q + 2)) = false
      · rw [if_pos c2, c2]
        simp
        exact r2 c2
      · rw [if_neg c2]
        have d2 : t_dg (F_T_at v (q + 2)) = true := by
          cases h : t_dg (F_T_at v (q + 2))
          · exact absurd h c2
          · rfl
        rw [d2]
        simp
theorem t_n1 {v : z_Wd} {q : Int} : F_T_number v q 1 = F_T_at v q - 48 := by
  unfold F_T_number
  rw [show (1 : Int).toNat = 1 from rfl]
  simp only [A_T_number_5]
  rw [show q + ((0 : Nat) : Int) = q by omega]
  omega
theorem t_n2 {v : z_Wd} {q : Int} : F_T_number v q 2 = 10 * (F_T_at v q - 48) + F_T_at v (q + 1) - 48 := by
  unfold F_T_number
  rw [show (2 : Int).toNat = 2 from rfl]
  simp only [A_T_number_5]
  rw [show q + ((0 : Nat) : Int) = q by omega, show q + ((0 + 1 : Nat) : Int) = q + 1 by omega]
  omega
theorem t_pdig {v : z_Wd} (h : t_ok v) {q n : Int} (h0 : 0 ≤ q ∧ q ≤ 100000) (hn : 0 ≤ n ∧ n ≤ 1000) : P_T_digitsFrom v q n := by
  refine ⟨h.1, by omega, by omega, fun i hi => ?_⟩
  have := h.2 i hi
  omega
/-- a digit lies on the tape -/
theorem t_dgl {v : z_Wd} {p : Int} (h0 : 0 ≤ p) (hd : t_dg (F_T_at v p) = true) : p < v 28 1 := by
  have d := t_dgy.mp hd
  by_cases c : p < v 28 1
  · exact c
  · rw [t_at h0, if_neg c] at d
    omega
/-- the digits that were counted lie on the tape -/
theorem t_dfit {v : z_Wd} {q n : Int} (h0 : 0 ≤ q) : F_T_digitsFrom v q n = 0 ∨ q + F_T_digitsFrom v q n ≤ v 28 1 := by
  have on : ∀ m : Nat, (∀ i, i < m → E_T_digitsFrom_2 v q n i = false) → (m : Int) = 0 ∨ q + (m : Int) ≤ v 28 1 := fun m hm => by
    rcases Nat.eq_zero_or_pos m with z | z
    · exact Or.inl (by omega)
    · refine Or.inr ?_
      have e := hm (m - 1) (by omega)
      rw [t_E] at e
      have dg : t_dg (F_T_at v (q + ((m - 1 : Nat) : Int))) = true := by
        cases y : t_dg (F_T_at v (q + ((m - 1 : Nat) : Int)))
        · rw [y] at e
          cases e
        · rfl
      have := t_dgl (v := v) (p := q + ((m - 1 : Nat) : Int)) (by omega) dg
      omega
  unfold F_T_digitsFrom
  by_cases c : zfind (E_T_digitsFrom_2 v q n) n.toNat = -1
  · rw [if_pos c]
    exact on _ (zfind_none c)
  · rw [if_neg c]
    have z1 := zfind_r (E_T_digitsFrom_2 v q n) n.toNat
    have z2 := zfind_spec c
    have z3 := zfind_bef _ c
    generalize zfind (E_T_digitsFrom_2 v q n) n.toNat = j at *
    obtain ⟨m, rfl⟩ := Int.eq_ofNat_of_zero_le (show 0 ≤ j by omega)
    rw [Int.toNat_natCast] at z2 ⊢
    rw [t_E] at z2
    have dg : t_dg (F_T_at v (q + (m : Int))) = false := by
      cases y : t_dg (F_T_at v (q + (m : Int)))
      · rfl
      · rw [y] at z2
        cases z2
    rw [t_R dg]
    exact on m (fun i hi => z3 i (by omega))
theorem t_isd {w : z_Wd} {x : Int} (h : 0 ≤ x ∧ x ≤ 255) : (F_M_isDigit w (t_mc x) = 0) = (t_dg x = false) ∧ P_M_isDigit w (t_mc x) := by
  have r := t_mcr h
  constructor
  · unfold F_M_isDigit t_dg t_mc
    apply propext
    rw [decide_eq_false_iff_not]
    by_cases c : x = 0
    · rw [if_pos c]
      simp
      omega
    · rw [if_neg c]
      by_cases d : x < 48
      · rw [if_pos d]
        simp
        omega
      · rw [if_neg d]
        by_cases e : x > 57
        · rw [if_pos e]
          simp
          omega
        · rw [if_neg e]
          simp
          omega
  · unfold P_M_isDigit
    omega
theorem t_mcd {x : Int} (h : t_dg x = true) : t_mc x = x := by
  have := t_dgy.mp h
  unfold t_mc
  rw [if_neg (by omega)]
theorem t_bad {w : z_Wd} (h : w 0 4 = -1) : F_M_bad w = z_up w 0 4 (w 0 3) ∧ P_M_bad w := by
  unfold F_M_bad P_M_bad
  rw [if_pos h]
  exact ⟨rfl, by omega⟩
set_option maxHeartbeats 1000000 in
/-- the reference's number -/
theorem t_numM {w v : z_Wd} (h : r_ta w v) (h0 : 0 ≤ w 0 3 ∧ w 0 3 ≤ 1000) (h4 : w 0 4 = -1) {lo hi q : Int} (hl : 0 ≤ lo ∧ lo ≤ 9999) (hh : 0 ≤ hi ∧ hi ≤ 9999) (eq : F_T_behindBlanks v (w 0 3) = q) : P_M_number w lo hi ∧ F_M_number w lo hi = if t_dg (F_T_at v q) = false then (lo, z_up (z_up w 0 3 q) 0 4 q) else if t_dg (F_T_at v (q + 1)) = false then (if F_T_at v q - 48 < lo ∨ hi < F_T_at v q - 48 then (F_T_at v q - 48, z_up (z_up w 0 3 q) 0 4 q) else (F_T_at v q - 48, z_up w 0 3 (q + 1))) else if t_dg (F_T_at v (q + 2)) = false then (if 10 * (F_T_at v q - 48) + F_T_at v (q + 1) - 48 < lo ∨ hi < 10 * (F_T_at v q - 48) + F_T_at v (q + 1) - 48 then (10 * (F_T_at v q - 48) + F_T_at v (q + 1) - 48, z_up (z_up w 0 3 (q + 1)) 0 4 (q + 1)) else (10 * (F_T_at v q - 48) + F_T_at v (q + 1) - 48, z_up w 0 3 (q + 2))) else (10 * (F_T_at v q - 48) + F_T_at v (q + 1) - 48, z_up (z_up w 0 3 (q + 2)) 0 4 (q + 2)) := by
  obtain ⟨l1, l2⟩ := t_look h (by omega)
  have hl3 := h.2.1
  have br := t_bbr (v := v) h0.1
  rw [eq] at l2 br
  have bq : 0 ≤ q ∧ q ≤ 1240 := by
    by_cases c : w 0 3 ≤ v 28 1
    · have := br.2.1 c
      omega
    · have z := (t_atr (t_ta h) (p := w 0 3) h0.1).2.mpr (by omega)
      have := t_bbno (v := v) h0.1 (by omega)
      omega
  have a0 := (t_atr (t_ta h) (p := q) (by omega)).1
  have a1 := (t_atr (t_ta h) (p := q + 1) (by omega)).1
  have a2 := (t_atr (t_ta h) (p := q + 2) (by omega)).1
  have hw : ∀ p : Int, 0 ≤ p → p ≤ 2000 → F_M_here (z_up w 0 3 p) = t_mc (F_T_at v p) ∧ P_M_here (z_up w 0 3 p) := fun p p0 p1 => by
    have t := t_here (w := z_up w 0 3 p) (v := v) (t_tac h (z_up_ne (by decide)) (z_up_other (by decide)) rfl rfl) (by rw [z_up_at]; omega)
    rw [z_up_at] at t
    exact ⟨t.1, t.2.1⟩
  have bd : ∀ p : Int, F_M_bad (z_up w 0 3 p) = z_up (z_up w 0 3 p) 0 4 p ∧ P_M_bad (z_up w 0 3 p) := fun p => by
    have t := t_bad (w := z_up w 0 3 p) (by rw [z_up_ne (by decide)]; exact h4)
    rw [z_up_at] at t
    exact t
  unfold P_M_number F_M_number
  simp only [l2, z_up_at, z_twice]
  have x1 := hw q (by omega) (by omega)
  have x2 := hw (q + 1) (by omega) (by omega)
  have x3 := hw (q + 1 + 1) (by omega) (by omega)
  rw [show q + 1 + 1 = q + 2 by omega] at x3 ⊢
  rw [show q + 1 - 1 = q by omega, show q + 2 - 1 = q + 1 by omega]
  simp only [x1.1, x2.1, x3.1, (bd q).1, (bd (q + 1)).1, (bd (q + 2)).1]
  simp only [(t_isd (w := z_up w 0 3 q) a0).1, (t_isd (w := z_up w 0 3 (q + 1)) a1).1, (t_isd (w := z_up w 0 3 (q + 2)) a2).1, h_in]
  by_cases c0 : t_dg (F_T_at v q) = true
  · have d0 := t_dgy.mp c0
    have n0 : ¬ t_dg (F_T_at v q) = false := by rw [c0]; decide
    rw [t_mcd c0, if_neg n0, if_neg n0]
    by_cases c1 : t_dg (F_T_at v (q + 1)) = true
    · have d1 := t_dgy.mp c1
      have n1 : ¬ t_dg (F_T_at v (q + 1)) = false := by rw [c1]; decide
      rw [t_mcd c1, if_neg n1, if_neg n1]
      refine ⟨⟨l1, ?_, fun z => absurd z n0, fun _ => ⟨x1.2, x2.2, ?_, fun z => absurd z n1, fun _ => ⟨x3.2, (t_isd a2).2, fun _ => ⟨p_inn (by omega) (by omega) (by omega), fun _ => (bd _).2, fun _ => trivial⟩, fun _ => (bd _).2⟩⟩⟩, rfl⟩
      · have := (t_isd (w := z_up w 0 3 q) a0).2
        rw [t_mcd c0] at this
        exact this
      · have := (t_isd (w := z_up w 0 3 (q + 1)) a1).2
        rw [t_mcd c1] at this
        exact this
    · have c1 : t_dg (F_T_at v (q + 1)) = false := by
        cases hh : t_dg (F_T_at v (q + 1))
        · rfl
        · exact absurd hh c1
      rw [if_pos c1, if_pos c1, if_pos c1]
      refine ⟨⟨l1, ?_, fun z => absurd z n0, fun _ => ⟨x1.2, x2.2, (t_isd a1).2, fun _ => ⟨fun _ => ⟨p_inn (by omega) (by omega) (by omega), fun _ => (bd _).2, fun _ => trivial⟩, fun z => absurd c1 z⟩, fun z => absurd c1 z⟩⟩, rfl⟩
      have := (t_isd (w := z_up w 0 3 q) a0).2
      rw [t_mcd c0] at this
      exact this
  · have c0 : t_dg (F_T_at v q) = false := by
      cases hh : t_dg (F_T_at v q)
      · rfl
      · exact absurd hh c0
    rw [if_pos c0, if_pos c0]
    exact ⟨⟨l1, (t_isd a0).2, fun _ => (bd _).2, fun z => absurd c0 z⟩, rfl⟩
theorem z_comm {w : z_Wd} {a b c d : Nat} {x y : Int} (h : a ≠ c) : z_up (z_up w a b x) c d y = z_up (z_up w c d y) a b x := by
  funext k j
  by_cases e1 : k = c
  · subst e1
    rw [z_up_other (a := k) (k := a) (fun z => h z.symm)]
    by_cases e2 : j = d
    · subst e2
      rw [z_up_at, z_up_at]
    · rw [z_up_ne e2, z_up_ne e2, z_up_other (fun z => h z.symm)]
  · rw [z_up_other e1]
    by_cases e3 : k = a
    · subst e3
      by_cases e2 : j = b
      · subst e2
        rw [z_up_at, z_up_at]
      · rw [z_up_ne e2, z_up_ne e2, z_up_other e1]
    · rw [z_up_other e3, z_up_other e3, z_up_other e1]
theorem x_at {v v' : z_Wd} (a : v' 28 1 = v 28 1) (b : v' 29 = v 29) {p : Int} : F_T_at v' p = F_T_at v p := by
  unfold F_T_at
  rw [a, b]
theorem x_bb {v v' : z_Wd} (a : v' 28 1 = v 28 1) (b : v' 29 = v 29) {p : Int} (h : 0 ≤ p) : F_T_behindBlanks v' p = F_T_behindBlanks v p := by
  obtain ⟨k, e, g1, g2⟩ := t_bb (v := v) h
  rw [e]
  apply t_bbu h
  · rw [a, b]
    exact g1
  · rw [a, b]
    exact g2
theorem x_tok {v v' : z_Wd} (h : t_ok v) (a : v' 28 1 = v 28 1) (b : v' 29 = v 29) : t_ok v' := by
  unfold t_ok
  rw [a, b]
  exact h
set_option maxHeartbeats 1000000 in
/-- the class's number -/
theorem t_numD {v : z_Wd} (h : t_ok v) {q : Int} (eq : v 33 2 = q) (h0 : 0 ≤ q ∧ q ≤ 1240) {k i ix : Nat} (hk : k < 4) (hi : i < 3) (hm : 1 ≤ v 36 k ∧ v 36 k ≤ 7) (hx : ((z_sc 1 k + v 36 k) - 1) * 3 + (i : Int) = (ix : Int)) (hx2 : ix < 54) {lo hh : Int} (hl : z_sc 5 (k * 3 + i) = lo ∧ 0 ≤ lo ∧ lo ≤ 9999) (hr : z_sc 6 (k * 3 + i) = hh ∧ 0 ≤ hh ∧ hh ≤ 9999) : P_YR_readNumber v (k : Int) (i : Int) ∧ F_YR_readNumber v (k : Int) (i : Int) = if t_dg (F_T_at v q) = false then (0, v) else if t_dg (F_T_at v (q + 1)) = false then (if F_T_at v q - 48 < lo ∨ hh < F_T_at v q - 48 then (0, z_up v 33 2 q) else (1, z_up (z_up v 35 ix (F_T_at v q - 48)) 33 2 (F_T_behindBlanks v (q + 1)))) else if t_dg (F_T_at v (q + 2)) = false then (if 10 * (F_T_at v q - 48) + F_T_at v (q + 1) - 48 < lo ∨ hh < 10 * (F_T_at v q - 48) + F_T_at v (q + 1) - 48 then (0, z_up v 33 2 (q + 1)) else (1, z_up (z_up v 35 ix (10 * (F_T_at v q - 48) + F_T_at v (q + 1) - 48)) 33 2 (F_T_behindBlanks v (q + 2)))) else (0, z_up v 33 2 (q + 2)) := by
  have tell : ∀ (e x : Int), 0 ≤ e → e ≤ 2000 → P_Y_tellLatest_34 (z_up v 33 2 e) (k : Int) (i : Int) x ∧ P_YR_step (F_Y_tellLatest_34 (z_up v 33 2 e) (k : Int) (i : Int) x) ∧ F_YR_step (F_Y_tellLatest_34 (z_up v 33 2 e) (k : Int) (i : Int) x) = z_up (z_up v 35 ix x) 33 2 (F_T_behindBlanks v (e + 1)) := fun e x e0 e1 => by
    have e36 : z_up v 33 2 e 36 = v 36 := z_up_other (by decide)
    have eT : F_Y_tellLatest_34 (z_up v 33 2 e) (k : Int) (i : Int) x = z_up (z_up v 33 2 e) 35 ix x := by
      unfold F_Y_tellLatest_34
      rw [e36, Int.toNat_natCast, if_neg (by omega), hx, Int.toNat_natCast]
    refine ⟨?_, ?_, ?_⟩
    · unfold P_Y_tellLatest_34
      rw [e36, Int.toNat_natCast, hx]
      exact ⟨by omega, by omega, fun _ => trivial, fun _ => by omega⟩
    · rw [eT]
      unfold P_YR_step
      rw [z_up_other (by decide), z_up_at]
      exact t_pbb (x_tok h (by rw [z_up_other (by decide), z_up_other (by decide)]) (by rw [z_up_other (by decide), z_up_other (by decide)])) (by omega)
    · rw [eT]
      unfold F_YR_step
      rw [z_up_other (a := 33) (k := 35) (by decide), z_up_at, x_bb (v := v) (by rw [z_up_other (by decide), z_up_other (by decide)]) (by rw [z_up_other (by decide), z_up_other (by decide)]) (by omega), z_comm (a := 33) (c := 35) (by decide), z_twice]
  have a0 := (t_atr h (p := q) (by omega)).1
  have a1 := (t_atr h (p := q + 1) (by omega)).1
  have pd := t_pdig h (q := q) (n := 3) (by omega) (by omega)
  have kk : ((k : Int) * 3 + (i : Int)).toNat = k * 3 + i := by omega
  unfold P_YR_readNumber F_YR_readNumber
  rw [eq, kk, hl.1, hr.1, t_dig]
  by_cases c0 : t_dg (F_T_at v q) = true
  · have d0 := t_dgy.mp c0
    have n0 : ¬ t_dg (F_T_at v q) = false := by rw [c0]; decide
    simp only [if_neg n0]
    by_cases c1 : t_dg (F_T_at v (q + 1)) = true
    · have d1 := t_dgy.mp c1
      have n1 : ¬ t_dg (F_T_at v (q + 1)) = false := by rw [c1]; decide
      simp only [if_neg n1]
      by_cases c2 : t_dg (F_T_at v (q + 2)) = true
      · have n2 : ¬ t_dg (F_T_at v (q + 2)) = false := by rw [c2]; decide
        simp only [if_neg n2]
        rw [if_neg (show ¬ (3 : Int) = 0 by decide), if_neg (show ¬ (3 : Int) ≤ 2 by decide)]
        exact ⟨⟨pd, by omega, fun _ => trivial, fun _ => ⟨fun z => absurd z (by decide), fun _ => trivial⟩⟩, rfl⟩
      · have c2 : t_dg (F_T_at v (q + 2)) = false := by
          cases hh : t_dg (F_T_at v (q + 2))
          · rfl
          · exact absurd hh c2
        simp only [if_pos c2]
        rw [if_neg (show ¬ (2 : Int) = 0 by decide), if_pos (show (2 : Int) ≤ 2 by decide), t_n2, show q + (2 - 1) = q + 1 by omega]
        obtain ⟨T1, T2, T3⟩ := tell (q + 1) (10 * (F_T_at v q - 48) + F_T_at v (q + 1) - 48) (by omega) (by omega)
        rw [T3, show q + 1 + 1 = q + 2 by omega]
        have fit := t_dgl (v := v) (p := q + 1) (by omega) c1
        refine ⟨⟨pd, by omega, fun _ => trivial, fun _ => ⟨fun _ => ⟨⟨h.1, by omega, by omega, by omega⟩, by omega, by omega, by omega, fun _ => trivial, fun _ => ⟨by omega, fun _ => ⟨T1, T2⟩, fun _ => trivial⟩⟩, fun _ => trivial⟩⟩, ?_⟩
        by_cases y1 : 10 * (F_T_at v q - 48) + F_T_at v (q + 1) - 48 < lo
        · rw [if_pos y1, if_pos (Or.inl y1)]
        · rw [if_neg y1]
          by_cases y2 : 10 * (F_T_at v q - 48) + F_T_at v (q + 1) - 48 ≤ hh
          · rw [if_pos y2, if_neg (by omega)]
          · rw [if_neg y2, if_pos (by omega)]
    · have c1 : t_dg (F_T_at v (q + 1)) = false := by
        cases hh : t_dg (F_T_at v (q + 1))
        · rfl
        · exact absurd hh c1
      simp only [if_pos c1]
      rw [if_neg (show ¬ (1 : Int) = 0 by decide), if_pos (show (1 : Int) ≤ 2 by decide), t_n1, show q + (1 - 1) = q by omega]
      obtain ⟨T1, T2, T3⟩ := tell q (F_T_at v q - 48) (by omega) (by omega)
      rw [T3]
      have fit := t_dgl (v := v) (p := q) (by omega) c0
      refine ⟨⟨pd, by omega, fun _ => trivial, fun _ => ⟨fun _ => ⟨⟨h.1, by omega, by omega, by omega⟩, by omega, by omega, by omega, fun _ => trivial, fun _ => ⟨by omega, fun _ => ⟨T1, T2⟩, fun _ => trivial⟩⟩, fun _ => trivial⟩⟩, ?_⟩
      by_cases y1 : F_T_at v q - 48 < lo
      · rw [if_pos y1, if_pos (Or.inl y1)]
      · rw [if_neg y1]
        by_cases y2 : F_T_at v q - 48 ≤ hh
        · rw [if_pos y2, if_neg (by omega)]
        · rw [if_neg y2, if_pos (by omega)]
  · have c0 : t_dg (F_T_at v q) = false := by
      cases hh : t_dg (F_T_at v q)
      · rfl
      · exact absurd hh c0
    simp only [if_pos c0]
    refine ⟨⟨pd, by omega, fun _ => trivial, fun z => ?_⟩, ?_⟩
    · exact absurd (by first | rfl | trivial) z
    · first | rfl | simp
