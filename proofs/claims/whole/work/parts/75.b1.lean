/-! odds -/
theorem pl_c {w w' v : z_Wd} {T : Nat → Bool} (h : r_pl w v T) (a1 : w' 0 28 = w 0 28) (a2 : w' 0 29 = w 0 29) (a3 : w' 19 = w 19) : r_pl w' v T := by
  unfold r_pl
  rw [a1, a2, a3]
  exact h
/-- one comes up in the reference's piles alone -/
theorem pl_rise {w v : z_Wd} {T : Nat → Bool} (h2 : r_mi w v) (hp : r_pl w v T) {a i c : Nat} (ha : a < 4) (hi : (i : Int) < w 19 a) (hc : w 19 (4 + 7 * a + i) = (c : Int)) : r_pl (F_M_riseNow w (a : Int) (i : Int)).2 v (fun m => T m && (m != c)) ∧ ∀ k, 32 ≤ k → (F_M_riseNow w (a : Int) (i : Int)).2 19 k = w 19 k := by
  obtain ⟨p1, p2, p3, p4, p5⟩ := id hp
  have r0 := (p2 a ha).1
  have f : z_fr [19] [] w (F_M_riseNow w (a : Int) (i : Int)).2 := fr_F_M_riseNow
  have eN : ∀ k, (F_M_riseNow w (a : Int) (i : Int)).2 19 k = if k = a then w 19 a - 1 else if 4 + 7 * a + i ≤ k ∧ (k : Int) < 4 + 7 * a + w 19 a - 1 then w 19 (k + 1) else w 19 k := by
    intro k
    unfold F_M_riseNow
    simp only [m_ix, Int.toNat_natCast]
    rw [show (4 + 7 * (a : Int) + (i : Int) + 1).toNat = 4 + 7 * a + i + 1 by omega]
    by_cases c1 : k = a
    · rw [if_pos c1, c1, z_up_at]
    · rw [if_neg c1, z_up_ne c1]
      by_cases c2 : 4 + 7 * a + i ≤ k ∧ (k : Int) < 4 + 7 * a + w 19 a - 1
      · rw [if_pos c2, cp_in (by omega)]
        congr 1
        omega
      · rw [if_neg c2, cp_no (by omega)]
  have at1 : ∀ j : Nat, (j : Int) < w 19 a - 1 → (F_M_riseNow w (a : Int) (i : Int)).2 19 (4 + 7 * a + j) = w 19 (4 + 7 * a + (if j < i then j else j + 1)) := by
    intro j hj
    rw [eN, if_neg (by omega)]
    by_cases c1 : j < i
    · rw [if_neg (by omega), if_pos c1]
    · rw [if_pos (by omega), if_neg c1]
      congr 1
  have at2 : ∀ b j : Nat, b < 4 → b ≠ a → j < 7 → (F_M_riseNow w (a : Int) (i : Int)).2 19 (4 + 7 * b + j) = w 19 (4 + 7 * b + j) := by
    intro b j hb hba hj
    rw [eN, if_neg (by omega), if_neg (by omega)]
  have len : ∀ b : Nat, b < 4 → (F_M_riseNow w (a : Int) (i : Int)).2 19 b = if b = a then w 19 a - 1 else w 19 b := by
    intro b hb
    rw [eN]
    by_cases e : b = a
    · rw [if_pos e, if_pos e]
    · rw [if_neg e, if_neg e, if_neg (by omega)]
  have e28 : (F_M_riseNow w (a : Int) (i : Int)).2 0 28 = w 0 28 := fr_f f 0 28 rfl rfl
  have e29 : (F_M_riseNow w (a : Int) (i : Int)).2 0 29 = w 0 29 := fr_f f 0 29 rfl rfl
  generalize (F_M_riseNow w (a : Int) (i : Int)).2 = u at *
  refine ⟨⟨?_, ?_, ?_, ?_, ?_⟩, fun k hk => ?_⟩
  · rw [e28, e29]
    exact p1
  · intro b hb
    rw [len b hb, e28]
    have q := p2 b hb
    split
    · rename_i e
      subst e
      omega
    · exact q
  · intro b j hb hj
    rw [len b hb] at hj
    rw [e29]
    by_cases e : b = a
    · subst e
      rw [if_pos rfl] at hj
      rw [at1 j hj]
      have hx : (((if j < i then j else j + 1 : Nat)) : Int) < w 19 b := by split <;> omega
      have hne : (if j < i then j else j + 1) ≠ i := by split <;> omega
      generalize (if j < i then j else j + 1) = j' at hx hne
      have q := p3 b j' hb hx
      refine ⟨q.1, ?_, q.2.2⟩
      have z : (w 19 (4 + 7 * b + j')).toNat ≠ c := fun y => hne (m_inj hp hb hx hi (by rw [hc]; omega))
      simp [q.2.1, z]
    · rw [if_neg e] at hj
      have r := (p2 b hb).1
      rw [at2 b j hb e (by omega)]
      have q := p3 b j hb hj
      refine ⟨q.1, ?_, q.2.2⟩
      have q0 := p3 a i ha hi
      have z : (w 19 (4 + 7 * b + j)).toNat ≠ c := fun y => by
        rw [hc, Int.toNat_natCast] at q0
        rw [y] at q
        omega
      simp [q.2.1, z]
  · intro b j k hb hjk hk
    rw [len b hb] at hk
    by_cases e : b = a
    · subst e
      rw [if_pos rfl] at hk
      rw [at1 j (by omega), at1 k hk]
      exact p4 b _ _ hb (by split <;> split <;> omega) (by split <;> omega)
    · rw [if_neg e] at hk
      have r := (p2 b hb).1
      rw [at2 b j hb e (by omega), at2 b k hb e (by omega)]
      exact p4 b j k hb hjk hk
  · intro m hm hT hw
    rw [e29] at hm
    simp only [Bool.and_eq_true, bne_iff_ne] at hT
    obtain ⟨j, hj, ej⟩ := p5 m hm hT.1 hw
    have r := p1 m hm
    by_cases e : (v 42 m).toNat = a
    · rw [e] at hj ej ⊢
      have hji : j ≠ i := fun z => by
        rw [z, hc] at ej
        omega
      refine ⟨if j < i then j else j - 1, ?_, ?_⟩
      · rw [len a ha, if_pos rfl]
        split <;> omega
      · rw [at1 _ (by split <;> omega)]
        by_cases z : j < i
        · rw [if_pos z, if_pos z]
          exact ej
        · rw [if_neg z, if_neg (by omega), show j - 1 + 1 = j by omega]
          exact ej
    · have r2 := h2.2.1.1
      have r3 := (p2 (v 42 m).toNat (by omega)).1
      refine ⟨j, ?_, ?_⟩
      · rw [len _ (by omega), if_neg e]
        exact hj
      · rw [at2 _ j (by omega) e (by omega)]
        exact ej
  · rw [eN, if_neg (by omega), if_neg (by omega)]
def pu_s (n : Nat) (w : z_Wd) (a0 a1 a2 d q : Int) : Int := if F_K_comesUp w (F_K_wellOf w a0) d a2 = a0 then q else if F_K_comesUp w (F_K_wellOf w a0) d a2 = -1 then F_N_partsUp n w a0 (a1 - 1) a2 q else F_N_partsUp n w a0 (a1 - 1) (zz_and a2 (zz_xor (zz_shl 1 (F_K_comesUp w (F_K_wellOf w a0) d a2)) (-1))) q
set_option maxHeartbeats 2000000 in
theorem pu_eq {n : Nat} {w : z_Wd} {a0 a1 a2 a3 : Int} : F_N_partsUp (n + 1) w a0 a1 a2 a3 = if a1 > 0 then pu_s n w a0 a1 a2 3 (Int.tdiv a3 3) + pu_s n w a0 a1 a2 5 (Int.tdiv a3 3) + pu_s n w a0 a1 a2 7 (a3 - 2 * Int.tdiv a3 3) else 0 := by
  simp only [F_N_partsUp]
  unfold pu_s
  generalize F_K_comesUp w (F_K_wellOf w a0) 3 a2 = c3
  generalize F_K_comesUp w (F_K_wellOf w a0) 5 a2 = c5
  generalize F_K_comesUp w (F_K_wellOf w a0) 7 a2 = c7
  by_cases h0 : a1 > 0
  · simp only [if_pos h0]
    by_cases x3 : c3 = a0
    · simp only [if_pos x3]
      by_cases x5 : c5 = a0
      · simp only [if_pos x5]
        split
        · rfl
        · split <;> rfl
      · simp only [if_neg x5]
        by_cases y5 : c5 = -1
        · simp only [if_pos y5]
          split
          · rfl
          · split <;> rfl
        · simp only [if_neg y5]
          split
          · rfl
          · split <;> rfl
    · simp only [if_neg x3]
      by_cases y3 : c3 = -1
      · simp only [if_pos y3]
        by_cases x5 : c5 = a0
        · simp only [if_pos x5]
          split
          · rfl
          · split <;> rfl
        · simp only [if_neg x5]
          by_cases y5 : c5 = -1
          · simp only [if_pos y5]
            split
            · rfl
            · split <;> rfl
          · simp only [if_neg y5]
            split
            · rfl
            · split <;> rfl
      · simp only [if_neg y3]
        by_cases x5 : c5 = a0
        · simp only [if_pos x5]
          split
          · rfl
          · split <;> rfl
        · simp only [if_neg x5]
          by_cases y5 : c5 = -1
          · simp only [if_pos y5]
            split
            · rfl
            · split <;> rfl
          · simp only [if_neg y5]
            split
            · rfl
            · split <;> rfl
  · simp only [if_neg h0]
/-- what a branch of partsUp needs -/
def pu_p (n : Nat) (w : z_Wd) (a0 a1 a2 d q : Int) : Prop := P_K_comesUp w (F_K_wellOf w a0) d a2 ∧ (-2147483648 ≤ F_K_comesUp w (F_K_wellOf w a0) d a2 ∧ F_K_comesUp w (F_K_wellOf w a0) d a2 < 2147483648) ∧ (¬ F_K_comesUp w (F_K_wellOf w a0) d a2 = a0 → F_K_comesUp w (F_K_wellOf w a0) d a2 = -1 → P_N_partsUp n w a0 (a1 - 1) a2 q) ∧ (¬ F_K_comesUp w (F_K_wellOf w a0) d a2 = a0 → ¬ F_K_comesUp w (F_K_wellOf w a0) d a2 = -1 → P_N_partsUp n w a0 (a1 - 1) (zz_and a2 (zz_xor (zz_shl 1 (F_K_comesUp w (F_K_wellOf w a0) d a2)) (-1))) q)
set_option maxHeartbeats 2000000 in
theorem pu_pp {n : Nat} {w : z_Wd} {a0 a1 a2 a3 : Int} (h1 : -2147483648 ≤ a1 ∧ a1 < 2147483648) (h3 : -2147483648 ≤ a3 ∧ a3 < 2147483648) (h0 : -2147483648 ≤ a0 ∧ a0 < 2147483648) (hw : P_K_wellOf w a0) (q3 : a1 > 0 → pu_p n w a0 a1 a2 3 (Int.tdiv a3 3)) (q5 : a1 > 0 → pu_p n w a0 a1 a2 5 (Int.tdiv a3 3)) (q7 : a1 > 0 → pu_p n w a0 a1 a2 7 (a3 - 2 * Int.tdiv a3 3)) : P_N_partsUp (n + 1) w a0 a1 a2 a3 := by
  simp only [P_N_partsUp]
  refine ⟨h1, fun g => ?_, fun _ => trivial⟩
  obtain ⟨p3, r3, s3, t3⟩ := q3 g
  obtain ⟨p5, r5, s5, t5⟩ := q5 g
  obtain ⟨p7, r7, s7, t7⟩ := q7 g
  have L7 : P_K_comesUp w (F_K_wellOf w a0) 7 a2 ∧ (-2147483648 ≤ F_K_comesUp w (F_K_wellOf w a0) 7 a2 ∧ F_K_comesUp w (F_K_wellOf w a0) 7 a2 < 2147483648) ∧ ((F_K_comesUp w (F_K_wellOf w a0) 7 a2 = a0 → True) ∧ (¬ F_K_comesUp w (F_K_wellOf w a0) 7 a2 = a0 → (F_K_comesUp w (F_K_wellOf w a0) 7 a2 = (-1) → P_N_partsUp n w a0 (a1 - 1) a2 (a3 - 2 * Int.tdiv a3 3)) ∧ (¬ F_K_comesUp w (F_K_wellOf w a0) 7 a2 = (-1) → P_N_partsUp n w a0 (a1 - 1) (zz_and a2 (zz_xor (zz_shl 1 (F_K_comesUp w (F_K_wellOf w a0) 7 a2)) (-1))) (a3 - 2 * Int.tdiv a3 3)))) := ⟨p7, r7, fun _ => trivial, fun z => ⟨s7 z, t7 z⟩⟩
  exact ⟨h3, hw, p3, r3, h0, fun _ => ⟨p5, r5, fun _ => L7, fun z => ⟨fun y => ⟨s5 z y, L7⟩, fun y => ⟨t5 z y, L7⟩⟩⟩, fun z3 => ⟨fun y3 => ⟨s3 z3 y3, p5, r5, fun _ => L7, fun z => ⟨fun y => L7, fun y => ⟨t5 z y, L7⟩⟩⟩, fun y3 => ⟨t3 z3 y3, p5, r5, fun _ => L7, fun z => ⟨fun y => ⟨s5 z y, L7⟩, fun y => ⟨t5 z y, L7⟩⟩⟩⟩⟩
def od_ok (v : z_Wd) (n a k : Nat) : Prop := ∀ (f f' : Nat) (w : z_Wd) (dp lf : Int) (T : Nat → Bool) (q : Int), k < f → k < f' → 0 ≤ dp → dp + k ≤ 8 → lf = (k : Int) → r_mi w v → r_pl w v T → T n = true → 0 ≤ q ∧ q ≤ 1000000000 →
  P_M_oddsFrom f w dp (n : Int) (a : Int) lf q ∧ P_N_partsUp f' v (n : Int) lf ((zbits T (v 32 2).toNat : Nat) : Int) q ∧ (F_M_oddsFrom f w dp (n : Int) (a : Int) lf q).1 = F_N_partsUp f' v (n : Int) lf ((zbits T (v 32 2).toNat : Nat) : Int) q ∧ (∀ i, (F_M_oddsFrom f w dp (n : Int) (a : Int) lf q).2 19 i = w 19 i) ∧ ∀ i : Nat, (i : Int) < 39 * dp → (F_M_oddsFrom f w dp (n : Int) (a : Int) lf q).2 22 i = w 22 i
theorem bt_minus {T : Nat → Bool} {c m : Nat} (hm : m ≤ 7) (hc : c < m) : zz_and ((zbits T m : Nat) : Int) (zz_xor (zz_shl 1 (c : Int)) (-1)) = ((zbits (fun i => T i && (i != c)) m : Nat) : Int) := by
  rw [bt_one hc (by omega), bt_not (by omega) (by omega)]
  refine bt_x (fun i hi => ?_)
  simp [hi, bne]
theorem od_br {v : z_Wd} (hd : d_ok v) {n a k : Nat} (ha : a < 4) (hn : (n : Int) < v 32 2) (hw : v 42 n = (a : Int)) (ih : od_ok v n a k) {g g' : Nat} {w : z_Wd} {dp lf d q : Int} {T : Nat → Bool} (hg : k < g) (hg' : k < g') (h0 : 0 ≤ dp) (h8 : dp + 1 + k ≤ 8) (hl : lf - 1 = (k : Int)) (h2 : r_mi w v) (hp : r_pl w v T) (hT : T n = true) (hq : 0 ≤ q ∧ q ≤ 1000000000) (hdd : -2147483648 ≤ d ∧ d < 2147483648) :
    P_M_scratchNow w (a : Int) d ∧ P_M_oddsFrom g (F_M_scratchNow w (a : Int) d).2 (dp + 1) (n : Int) (a : Int) (lf - 1) q ∧ pu_p g' v (n : Int) lf ((zbits T (v 32 2).toNat : Nat) : Int) d q ∧ (F_M_oddsFrom g (F_M_scratchNow w (a : Int) d).2 (dp + 1) (n : Int) (a : Int) (lf - 1) q).1 = pu_s g' v (n : Int) lf ((zbits T (v 32 2).toNat : Nat) : Int) d q ∧ (∀ i, 39 ≤ i → (F_M_oddsFrom g (F_M_scratchNow w (a : Int) d).2 (dp + 1) (n : Int) (a : Int) (lf - 1) q).2 19 i = w 19 i) ∧ ∀ i : Nat, (i : Int) < 39 * (dp + 1) → (F_M_oddsFrom g (F_M_scratchNow w (a : Int) d).2 (dp + 1) (n : Int) (a : Int) (lf - 1) q).2 22 i = w 22 i := by
  have h7 := hd.2.1
  have r0 := (hp.2.1 a ha).1
  have rr := m_rbr (w := w) (a := a) (d := d) r0.2
  have pR : P_M_reachedBy w (a : Int) d := ⟨m_MO h2, m_PO h2 hp, by omega, hdd⟩
  have ewo := (d_fr hd hn).1
  rw [hw] at ewo
  have pcu := p_cu hd T (a := (a : Int)) (d := d) (by omega) (by omega) hdd
  unfold pu_p pu_s
  rw [ewo]
  rcases m_rb h2 hd hp (d := d) ha with ⟨e1, e2⟩ | ⟨i, c, e1, e2, hi, hc, hcn, hcT, hcw⟩
  · have eS : F_M_scratchNow w (a : Int) d = (-1, w) := by
      unfold F_M_scratchNow
      rw [if_pos e1]
    have pS : P_M_scratchNow w (a : Int) d := ⟨pR, by omega, fun _ => trivial, fun z => absurd e1 z⟩
    obtain ⟨o1, o2, o3, o4, o5⟩ := ih g g' w (dp + 1) (lf - 1) T q hg hg' (by omega) (by omega) hl h2 hp hT hq
    rw [eS, e2, if_neg (by omega), if_pos rfl]
    exact ⟨pS, o1, ⟨pcu, by omega, fun _ _ => o2, fun _ z => absurd rfl z⟩, o3, fun j _ => o4 j, o5⟩
  · have eS : F_M_scratchNow w (a : Int) d = ((F_M_riseNow w (a : Int) (i : Int)).1, (F_M_riseNow w (a : Int) (i : Int)).2) := by
      unfold F_M_scratchNow
      rw [e1, if_neg (by omega)]
    have pRi : P_M_riseNow w (a : Int) (i : Int) := by
      unfold P_M_riseNow
      rw [Int.toNat_natCast]
      omega
    have pS : P_M_scratchNow w (a : Int) d := ⟨pR, by omega, fun z => trivial, fun _ => by rw [e1]; exact pRi⟩
    obtain ⟨q1, q2⟩ := pl_rise h2 hp ha hi hc
    have f : z_fr [19] [] w (F_M_riseNow w (a : Int) (i : Int)).2 := fr_F_M_riseNow
    have h2' := y_mi h2 f fr_0 rfl
    have e22 : (F_M_riseNow w (a : Int) (i : Int)).2 22 = w 22 := fr_c f 22 rfl rfl
    rw [eS]
    simp only
    generalize (F_M_riseNow w (a : Int) (i : Int)).2 = u at *
    by_cases cn : c = n
    · have ly : F_M_layerOf u (a : Int) (n : Int) = -1 := m_lyN q1 ha (fun z => by
        have := z.1
        simp [cn] at this)
      obtain ⟨g0, rfl⟩ : ∃ g0, g = g0 + 1 := ⟨g - 1, by omega⟩
      have eO : F_M_oddsFrom (g0 + 1) u (dp + 1) (n : Int) (a : Int) (lf - 1) q = (q, u) := by
        simp only [F_M_oddsFrom]
        rw [if_pos ly]
      rw [eO, e2, cn, if_pos rfl]
      refine ⟨pS, ?_, ⟨pcu, by omega, fun z => absurd rfl z, fun z => absurd rfl z⟩, rfl, fun j hj => q2 j (by omega), fun j _ => congrFun e22 j⟩
      simp only [P_M_oddsFrom]
      exact ⟨⟨m_PO h2' q1, by omega, by omega⟩, by omega, fun _ => trivial, fun z => absurd ly z⟩
    · have hT' : (fun m => T m && (m != c)) n = true := by
        have : n ≠ c := fun z => cn z.symm
        simp [hT, this]
      obtain ⟨o1, o2, o3, o4, o5⟩ := ih g g' u (dp + 1) (lf - 1) (fun m => T m && (m != c)) q hg hg' (by omega) (by omega) hl h2' q1 hT' hq
      have hnn := h2.1.2.1
      rw [e2, if_neg (by omega), if_neg (by omega), bt_minus (T := T) (c := c) (m := (v 32 2).toNat) (by omega) (by omega)]
      exact ⟨pS, o1, ⟨pcu, by omega, fun _ z => by omega, fun _ _ => o2⟩, o3, fun j hj => by rw [o4, q2 j (by omega)], fun j hj => by rw [o5 j hj, e22]⟩
set_option maxHeartbeats 2000000 in
theorem od_all {v : z_Wd} (hd : d_ok v) {n a : Nat} (ha : a < 4) (hn : (n : Int) < v 32 2) (hw : v 42 n = (a : Int)) : ∀ k, od_ok v n a k := by
  intro k
  induction k with
  | zero =>
    intro f f' w dp lf T q hf hf' h0 h8 hl h2 hp hT hq
    obtain ⟨g, rfl⟩ : ∃ g, f = g + 1 := ⟨f - 1, by omega⟩
    obtain ⟨g', rfl⟩ : ∃ g', f' = g' + 1 := ⟨f' - 1, by omega⟩
    have hnn := h2.1.2.1
    obtain ⟨i, hi, ei, ely⟩ := m_lyY hp ha (by omega) hT hw
    have r0 := (hp.2.1 a ha).1
    have h7 := hd.2.1
    have eM : F_M_oddsFrom (g + 1) w dp (n : Int) (a : Int) lf q = (0, w) := by
      simp only [F_M_oddsFrom]
      rw [if_neg (by omega), if_pos (by omega)]
    rw [eM, pu_eq, if_neg (by omega)]
    refine ⟨?_, ?_, rfl, fun _ => rfl, fun _ _ => rfl⟩
    · simp only [P_M_oddsFrom]
      exact ⟨⟨m_PO h2 hp, by omega, by omega⟩, by omega, fun _ => trivial, fun _ => ⟨by omega, fun _ => trivial, fun z => absurd (by omega) z⟩⟩
    · refine pu_pp (by omega) (by omega) (by have := hd.2.1; omega) (p_fr hd (by have := hd.2.1; omega)).1 (fun z => by omega) (fun z => by omega) (fun z => by omega)
  | succ k ih =>
    intro f f' w dp lf T q hf hf' h0 h8 hl h2 hp hT hq
    obtain ⟨g, rfl⟩ : ∃ g, f = g + 1 := ⟨f - 1, by omega⟩
    obtain ⟨g', rfl⟩ : ∃ g', f' = g' + 1 := ⟨f' - 1, by omega⟩
    have hnn := h2.1.2.1
    obtain ⟨i, hi, ei, ely⟩ := m_lyY hp ha (by omega) hT hw
    have r0 := (hp.2.1 a ha).1
    have q3 : 0 ≤ Int.tdiv q 3 ∧ Int.tdiv q 3 ≤ 1000000000 ∧ 0 ≤ q - 2 * Int.tdiv q 3 ∧ q - 2 * Int.tdiv q 3 ≤ 1000000000 := by
      rw [Int.tdiv_eq_ediv_of_nonneg hq.1]
      omega
    have x0 : (39 * dp).toNat + 39 = (39 * (dp + 1)).toNat := by omega
    -- ahead of the first
    have f0 : z_fr [22] [] w (F_M_putAside w dp) := fr_F_M_putAside
    have m0 := y_mi h2 f0 fr_0 rfl
    have p0 := pl_c hp (fr_f f0 0 28 rfl rfl) (fr_f f0 0 29 rfl rfl) (fr_c f0 19 rfl rfl)
    have s0 : ∀ j, j < 39 → F_M_putAside w dp 22 ((39 * dp).toNat + j) = w 19 j := fun j hj => by
      unfold F_M_putAside
      rw [cp_in (by omega)]
      congr 1
      omega
    have s0' : ∀ i : Nat, (i : Int) < 39 * dp → F_M_putAside w dp 22 i = w 22 i := fun i hi => by
      unfold F_M_putAside
      rw [cp_no (by omega)]
    have t0 : F_M_putAside w dp 19 = w 19 := fr_c f0 19 rfl rfl
    obtain ⟨a1, a2, a3, a4, a5, a6⟩ := od_br hd ha hn hw ih (g := g) (g' := g') (dp := dp) (lf := lf) (d := 3) (q := Int.tdiv q 3) (by omega) (by omega) h0 (by omega) (by omega) m0 p0 hT (by omega) (by omega)
    have fo1 : z_fr [19, 22] [] (F_M_putAside w dp) (F_M_oddsFrom g (F_M_scratchNow (F_M_putAside w dp) (a : Int) 3).2 (dp + 1) (n : Int) (a : Int) (lf - 1) (Int.tdiv q 3)).2 := fr_tr (fr_wk fr_F_M_scratchNow rfl rfl) (fr_F_M_oddsFrom _ _ _ _ _ _ _)
    simp only [P_M_oddsFrom, F_M_oddsFrom]
    rw [if_neg (by omega), if_neg (by omega), pu_eq, if_pos (by omega), ← a4]
    generalize F_M_oddsFrom g (F_M_scratchNow (F_M_putAside w dp) (a : Int) 3).2 (dp + 1) (n : Int) (a : Int) (lf - 1) (Int.tdiv q 3) = A at *
    -- ahead of the second
    have back : ∀ u : z_Wd, (∀ j, 39 ≤ j → u 19 j = w 19 j) → (∀ j, j < 39 → u 22 ((39 * dp).toNat + j) = w 19 j) → F_M_takeBack u dp 19 = w 19 := by
      intro u hu1 hu2
      funext j
      unfold F_M_takeBack
      by_cases c : j < 39
      · rw [cp_in (by omega), ← hu2 j c]
        congr 1
      · rw [cp_no (by omega), hu1 j (by omega)]
    have uA : ∀ j, j < 39 → A.2 22 ((39 * dp).toNat + j) = w 19 j := fun j hj => by rw [a6 _ (by omega), s0 j hj]
    have vA : ∀ j, 39 ≤ j → A.2 19 j = w 19 j := fun j hj => by rw [a5 j hj, t0]
    have f1 : z_fr [19, 22] [] w (F_M_takeBack A.2 dp) := fr_tr (fr_tr (fr_wk f0 rfl rfl) fo1) (fr_wk fr_F_M_takeBack rfl rfl)
    have m1 := y_mi h2 f1 fr_0 rfl
    have t1 := back A.2 vA uA
    have p1 := pl_c hp (fr_f f1 0 28 rfl rfl) (fr_f f1 0 29 rfl rfl) t1
    have w1 : F_M_takeBack A.2 dp 22 = A.2 22 := fr_c (fr_F_M_takeBack) 22 rfl rfl
    obtain ⟨b1, b2, b3, b4, b5, b6⟩ := od_br hd ha hn hw ih (g := g) (g' := g') (dp := dp) (lf := lf) (d := 5) (q := Int.tdiv q 3) (by omega) (by omega) h0 (by omega) (by omega) m1 p1 hT (by omega) (by omega)
    have fo2 : z_fr [19, 22] [] (F_M_takeBack A.2 dp) (F_M_oddsFrom g (F_M_scratchNow (F_M_takeBack A.2 dp) (a : Int) 5).2 (dp + 1) (n : Int) (a : Int) (lf - 1) (Int.tdiv q 3)).2 := fr_tr (fr_wk fr_F_M_scratchNow rfl rfl) (fr_F_M_oddsFrom _ _ _ _ _ _ _)
    rw [← b4]
    generalize F_M_oddsFrom g (F_M_scratchNow (F_M_takeBack A.2 dp) (a : Int) 5).2 (dp + 1) (n : Int) (a : Int) (lf - 1) (Int.tdiv q 3) = B at *
    have uB : ∀ j, j < 39 → B.2 22 ((39 * dp).toNat + j) = w 19 j := fun j hj => by rw [b6 _ (by omega), w1, uA j hj]
    have vB : ∀ j, 39 ≤ j → B.2 19 j = w 19 j := fun j hj => by rw [b5 j hj, t1]
    have f2 : z_fr [19, 22] [] w (F_M_takeBack B.2 dp) := fr_tr (fr_tr f1 fo2) (fr_wk fr_F_M_takeBack rfl rfl)
    have m2 := y_mi h2 f2 fr_0 rfl
    have t2 := back B.2 vB uB
    have p2 := pl_c hp (fr_f f2 0 28 rfl rfl) (fr_f f2 0 29 rfl rfl) t2
    have w2 : F_M_takeBack B.2 dp 22 = B.2 22 := fr_c (fr_F_M_takeBack) 22 rfl rfl
    obtain ⟨c1, c2, c3, c4, c5, c6⟩ := od_br hd ha hn hw ih (g := g) (g' := g') (dp := dp) (lf := lf) (d := 7) (q := q - 2 * Int.tdiv q 3) (by omega) (by omega) h0 (by omega) (by omega) m2 p2 hT (by omega) (by omega)
    rw [← c4]
    generalize F_M_oddsFrom g (F_M_scratchNow (F_M_takeBack B.2 dp) (a : Int) 7).2 (dp + 1) (n : Int) (a : Int) (lf - 1) (q - 2 * Int.tdiv q 3) = C at *
    have uC : ∀ j, j < 39 → C.2 22 ((39 * dp).toNat + j) = w 19 j := fun j hj => by rw [c6 _ (by omega), w2, uB j hj]
    have vC : ∀ j, 39 ≤ j → C.2 19 j = w 19 j := fun j hj => by rw [c5 j hj, t2]
    have t3 := back C.2 vC uC
    have w3 : F_M_takeBack C.2 dp 22 = C.2 22 := fr_c (fr_F_M_takeBack) 22 rfl rfl
    have pB : ∀ u : z_Wd, P_M_takeBack u dp := fun u => ⟨by omega, by omega⟩
    refine ⟨⟨⟨m_PO h2 hp, by omega, by have := hd.2.1; omega⟩, by omega, fun _ => trivial, fun _ => ⟨by omega, fun _ => trivial, fun _ => ⟨by omega, ⟨by omega, by omega⟩, a1, a2, pB _, b1, b2, pB _, c1, c2, pB _⟩⟩⟩, ?_, rfl, fun j => congrFun t3 j, fun j hj => ?_⟩
    · exact pu_pp (by omega) (by omega) (by have := hd.2.1; omega) (p_fr hd (by have := hd.2.1; omega)).1 (fun _ => a3) (fun _ => b3) (fun _ => c3)
    · dsimp only
      rw [w3, c6 j (by omega), w2, b6 j (by omega), w1, a6 j (by omega), s0' j hj]
theorem ok_odds : S_odds Rl := by
  intro w x y hx hy hr
  obtain ⟨h1, h2, h3, h4, h5, h6, h7, h8, h9, h10⟩ := id hr
  have hd := g_ok h2 h3
  have hp := g_pl h2 h3
  have e1 := h2.1
  have e2 := h2.2.1
  unfold r_mn at e2
  by_cases cn : 0 ≤ x ∧ x < w 0 29
  · obtain ⟨n, rfl⟩ := Int.eq_ofNat_of_zero_le cn.1
    have fr := d_fr hd (n := n) (by omega)
    have frM := g_frM h2 h3 cn.2
    have nD : ¬ F_Y_hasName w (n : Int) = 0 := by rw [h_hn]; omega
    have nM : ¬ F_M_in w (n : Int) 0 (w 0 29 - 1) = 0 := by rw [h_in]; omega
    by_cases cf : w 42 n = -1
    · have f1 : ¬ F_K_isFree w (n : Int) = 0 := by rw [fr.2]; omega
      have f2 : ¬ F_M_isFree w (n : Int) = 0 := by rw [frM]; omega
      have eM : F_M_odds w (n : Int) y = (-1, w) := by
        unfold F_M_odds
        rw [if_neg nM, if_neg f2]
      have eD : F_D_odds w (n : Int) y = -1 := by
        unfold F_D_odds
        rw [if_neg nD, if_neg f1]
      rw [eM, eD]
      exact ⟨⟨⟨hx, fun _ => trivial, fun _ => by omega⟩, fun _ => trivial, fun _ => ⟨p_fr hd hx, fun z => absurd z f1, fun _ => trivial⟩⟩, ⟨p_inn hx (by omega) (by omega), fun _ => trivial, fun _ => ⟨p_Mfr h2 hp hx, fun z => absurd z f2, fun _ => trivial⟩⟩, rfl, hr⟩
    · have f1 : F_K_isFree w (n : Int) = 0 := by rw [fr.2]; exact cf
      have f2 : F_M_isFree w (n : Int) = 0 := by rw [frM]; exact cf
      by_cases cy : 0 ≤ y ∧ y ≤ 4
      · obtain ⟨k, rfl⟩ := Int.eq_ofNat_of_zero_le cy.1
        obtain ⟨a, i, ew, ha4, -⟩ := g_ab h2 h3 cn.2 cf
        have hT : g_T w n = true := by
          unfold g_T
          exact bne_iff_ne.mpr cf
        have ewo : F_M_wellOf w (n : Int) = (a : Int) := by rw [m_wo h2 hp cn.2, if_pos hT, ew]
        obtain ⟨o1, o2, o3, o4, o5⟩ := od_all hd ha4 (n := n) (by omega) ew k 6 6 w 0 (k : Int) (g_T w) 1000000000 (by omega) (by omega) (by omega) (by omega) rfl h2 hp hT (by omega)
        have eM : F_M_odds w (n : Int) (k : Int) = ((F_M_oddsFrom 6 w 0 (n : Int) (a : Int) (k : Int) 1000000000).1, (F_M_oddsFrom 6 w 0 (n : Int) (a : Int) (k : Int) 1000000000).2) := by
          unfold F_M_odds
          rw [if_neg nM, if_pos f2, if_neg (by rw [h_in]; omega), ewo]
        have eD : F_D_odds w (n : Int) (k : Int) = F_N_partsUp 6 w (n : Int) (k : Int) ((zbits (g_T w) (w 32 2).toNat : Nat) : Int) 1000000000 := by
          unfold F_D_odds
          rw [if_neg nD, if_pos f1, if_neg (by omega), if_pos cy.2, d_dr hd]
          rfl
        have fM : z_fr [19, 22] [] w (F_M_oddsFrom 6 w 0 (n : Int) (a : Int) (k : Int) 1000000000).2 := fr_F_M_oddsFrom _ _ _ _ _ _ _
        have e19 : (F_M_oddsFrom 6 w 0 (n : Int) (a : Int) (k : Int) 1000000000).2 19 = w 19 := funext o4
        rw [eM, eD]
        refine ⟨?_, ?_, o3.symm, y_ta h1 fM fM rfl, y_mi h2 fM fM rfl, ?_, y_ac h4 fM fM rfl, y_im h5 fM fM rfl, y_la h6 fM fM rfl, y_cl h7 fM fM rfl, y_re h8 fM fM rfl, y_fl h9 fM fM rfl, y_rd h10 fM fM rfl⟩
        · unfold P_D_odds
          refine ⟨⟨hx, fun _ => trivial, fun _ => by omega⟩, fun _ => trivial, fun _ => ⟨p_fr hd hx, fun _ => ⟨hy, fun _ => trivial, fun _ => ⟨fun _ => ⟨p_in hd (by omega), ?_⟩, fun _ => trivial⟩⟩, fun _ => trivial⟩⟩
          rw [d_dr hd]
          exact o2
        · unfold P_M_odds
          rw [ewo]
          exact ⟨p_inn hx (by omega) (by omega), fun _ => trivial, fun _ => ⟨p_Mfr h2 hp hx, fun _ => ⟨p_inn hy (by omega) (by omega), fun _ => trivial, fun _ => ⟨p_Mwo h2 hp hx, o1⟩⟩, fun _ => trivial⟩⟩
        · exact x_no h3 (fr_f fM 0 28 rfl rfl) (fr_f fM 0 29 rfl rfl) e19 (fr_c fM 42 rfl rfl) (fr_c fM 43 rfl rfl) (fr_c fM 44 rfl rfl) (fr_f fM 41 6 rfl rfl) (fr_f fM 41 7 rfl rfl) (fr_f fM 41 8 rfl rfl) (fr_c fM 45 rfl rfl) (fr_c fM 46 rfl rfl)
      · have eM : F_M_odds w (n : Int) y = (-1, w) := by
          unfold F_M_odds
          rw [if_neg nM, if_pos f2, if_pos (by rw [h_in]; omega)]
        have eD : F_D_odds w (n : Int) y = -1 := by
          unfold F_D_odds
          rw [if_neg nD, if_pos f1]
          by_cases c2 : y < 0
          · rw [if_pos c2]
          · rw [if_neg c2, if_neg (by omega)]
        rw [eM, eD]
        exact ⟨⟨⟨hx, fun _ => trivial, fun _ => by omega⟩, fun _ => trivial, fun _ => ⟨p_fr hd hx, fun _ => ⟨hy, fun _ => trivial, fun _ => ⟨fun _ => by omega, fun _ => trivial⟩⟩, fun _ => trivial⟩⟩, ⟨p_inn hx (by omega) (by omega), fun _ => trivial, fun _ => ⟨p_Mfr h2 hp hx, fun _ => ⟨p_inn hy (by omega) (by omega), fun _ => trivial, fun z => absurd (by rw [h_in]; omega) z⟩, fun _ => trivial⟩⟩, rfl, hr⟩
  · have nD : F_Y_hasName w x = 0 := by rw [h_hn]; omega
    have nM : F_M_in w x 0 (w 0 29 - 1) = 0 := by rw [h_in]; omega
    have eM : F_M_odds w x y = (-1, w) := by
      unfold F_M_odds
      rw [if_pos nM]
    have eD : F_D_odds w x y = -1 := by
      unfold F_D_odds
      rw [if_pos nD]
    rw [eM, eD]
    exact ⟨⟨⟨hx, fun _ => trivial, fun _ => by omega⟩, fun _ => trivial, fun z => absurd nD z⟩, ⟨p_inn hx (by omega) (by omega), fun _ => trivial, fun z => absurd nM z⟩, rfl, hr⟩
