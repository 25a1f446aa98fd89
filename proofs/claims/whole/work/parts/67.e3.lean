/-! how deep a pen must go; shares; silence -/
theorem su_head {f : Nat → Int} : ∀ n, zsum f (n + 1) = f 0 + zsum (fun i => f (i + 1)) n
  | 0 => by simp [zsum]
  | n + 1 => by
    have e : zsum f (n + 1 + 1) = zsum f (n + 1) + f (n + 1) := rfl
    have e2 : zsum (fun i => f (i + 1)) (n + 1) = zsum (fun i => f (i + 1)) n + f (n + 1) := rfl
    rw [e, e2, su_head n]
    omega
theorem m_abS {w : z_Wd} {a j : Nat} (hj : (j : Int) + 1 < w 19 a) : F_M_aboveAt w (a : Int) (j : Int) = F_M_dropsOf w (w 19 (4 + 7 * a + (j + 1))) + F_M_aboveAt w (a : Int) ((j + 1 : Nat) : Int) := by
  unfold F_M_aboveAt
  rw [Int.toNat_natCast]
  obtain ⟨m, hm⟩ : ∃ m : Nat, (w 19 a - ((j : Int) + 1)).toNat = m + 1 := ⟨(w 19 a - ((j : Int) + 1)).toNat - 1, by omega⟩
  rw [hm, su_head, show (w 19 a - (((j + 1 : Nat) : Int) + 1)).toNat = m by omega]
  have e0 : (4 + 7 * (a : Int) + ((j : Int) + 1 + ((0 : Nat) : Int))).toNat = 4 + 7 * a + (j + 1) := by omega
  rw [e0]
  congr 1
  refine zsum_c _ (fun i _ => ?_)
  rw [show (4 + 7 * (a : Int) + ((j : Int) + 1 + ((i + 1 : Nat) : Int))).toNat = (4 + 7 * (a : Int) + (((j + 1 : Nat) : Int) + 1 + (i : Int))).toNat by omega]
theorem dv_pos {w v : z_Wd} (h : r_mi w v) {n : Nat} (hn : (n : Int) < w 0 29) : 1 ≤ dv_d v n := by
  have e1 := (h.2.2.2.2.1 n hn).1
  have e2 := h.2.2.1.2.2 (by omega)
  unfold dv_d
  have := Int.mul_le_mul (a := 1) (b := 1) e1.2.1 e2 (by omega) (by omega)
  omega
/-- what must be scratched for the one at layer j -/
def m_f (w : z_Wd) (a j : Nat) : Int := F_M_dropsOf w (w 19 (4 + 7 * a + j)) + F_M_aboveAt w (a : Int) (j : Int)
theorem m_fd {w v : z_Wd} {T : Nat → Bool} (h : r_mi w v) (hp : r_pl w v T) {a : Nat} (ha : a < 4) : ∀ k j : Nat, ((j + k + 1 : Nat) : Int) < w 19 a → m_f w a (j + k + 1) < m_f w a j := by
  intro k
  have step : ∀ j : Nat, (j : Int) + 1 < w 19 a → m_f w a (j + 1) < m_f w a j := by
    intro j hj
    have e1 := (hp.2.2.1 a j ha (by omega)).1
    have e2 := dv_pos h (n := (w 19 (4 + 7 * a + j)).toNat) (by omega)
    unfold m_f
    rw [m_abS hj, m_doI h e1.1 e1.2]
    omega
  induction k with
  | zero => intro j hj; exact step j (by omega)
  | succ k ih =>
    intro j hj
    have h1 := ih j (by omega)
    have h2 := step (j + k + 1) (by omega)
    rw [show j + (k + 1) + 1 = j + k + 1 + 1 by omega]
    omega
theorem m_flt {w v : z_Wd} {T : Nat → Bool} (h : r_mi w v) (hp : r_pl w v T) {a i j : Nat} (ha : a < 4) (hij : i < j) (hj : (j : Int) < w 19 a) : m_f w a j < m_f w a i := by
  obtain ⟨k, rfl⟩ : ∃ k, j = i + k + 1 := ⟨j - i - 1, by omega⟩
  exact m_fd h hp ha k i hj
theorem m_rbY {w v : z_Wd} {T : Nat → Bool} (h : r_mi w v) (hp : r_pl w v T) {a i : Nat} {d : Int} (ha : a < 4) (hi : (i : Int) < w 19 a) (h1 : m_f w a i ≤ d) (h2 : ∀ j, j < i → d < m_f w a j) : F_M_reachedBy w (a : Int) d = (i : Int) := by
  unfold F_M_reachedBy
  rw [Int.toNat_natCast]
  refine zfind_least (by omega) ?_ (fun j hj => ?_)
  · simp only [m_ix, decide_eq_true_eq]
    exact h1
  · simp only [m_ix, decide_eq_false_iff_not]
    have := h2 j hj
    unfold m_f at this
    omega
theorem m_rbS {w : z_Wd} {a : Nat} {d : Int} (hx : F_M_reachedBy w (a : Int) d ≠ -1) : ∃ i : Nat, F_M_reachedBy w (a : Int) d = (i : Int) ∧ (i : Int) < w 19 a ∧ m_f w a i ≤ d := by
  unfold F_M_reachedBy at hx ⊢
  rw [Int.toNat_natCast] at hx ⊢
  have s := zfind_spec hx
  have r := zfind_r (fun i => decide (F_M_dropsOf w (w 19 (4 + 7 * (a : Int) + (i : Int)).toNat) + F_M_aboveAt w (a : Int) (i : Int) ≤ d)) (w 19 a).toNat
  generalize zfind (fun i => decide (F_M_dropsOf w (w 19 (4 + 7 * (a : Int) + (i : Int)).toNat) + F_M_aboveAt w (a : Int) (i : Int) ≤ d)) (w 19 a).toNat = x at *
  obtain ⟨i, rfl⟩ := Int.eq_ofNat_of_zero_le (by omega : 0 ≤ x)
  refine ⟨i, rfl, by omega, ?_⟩
  rw [Int.toNat_natCast] at s
  simp only [m_ix, decide_eq_true_eq] at s
  exact s
theorem m_rbr {w : z_Wd} {a : Nat} {d : Int} (h : w 19 a ≤ 7) : -1 ≤ F_M_reachedBy w (a : Int) d ∧ F_M_reachedBy w (a : Int) d < 7 := by
  by_cases c : F_M_reachedBy w (a : Int) d = -1
  · omega
  · obtain ⟨i, e, h1, -⟩ := m_rbS c
    omega
theorem p_fr {v : z_Wd} (h : d_ok v) {a : Int} (ha : -2147483648 ≤ a ∧ a < 2147483648) : P_K_isFree v a := by
  have h1 := h.2.1
  unfold P_K_isFree P_K_wellOf P_Y_hasName F_K_wellOf
  simp only [h_hn]
  refine ⟨⟨⟨ha, fun _ => trivial, fun _ => by omega⟩, fun _ => trivial, fun _ => by omega⟩, ?_⟩
  split
  · omega
  · have := (h.2.2.2.2 a.toNat (by omega)).1
    omega
theorem d_fr {v : z_Wd} (h : d_ok v) {n : Nat} (hn : (n : Int) < v 32 2) : F_K_wellOf v (n : Int) = v 42 n ∧ (F_K_isFree v (n : Int) = 0) = (v 42 n ≠ -1) := by
  have e : F_K_wellOf v (n : Int) = v 42 n := by
    unfold F_K_wellOf
    simp only [h_hn]
    rw [if_neg (by omega), Int.toNat_natCast]
  refine ⟨e, ?_⟩
  unfold F_K_isFree
  rw [e]
  apply propext
  split
  · rename_i c
    simp [c]
  · rename_i c
    simp [c]
/-- drops above one, told of by both -/
theorem g_ab {w v : z_Wd} (h2 : r_mi w v) (h3 : r_no w v) {n : Nat} (hn : (n : Int) < w 0 29) (hw : v 42 n ≠ -1) : ∃ a i : Nat, v 42 n = (a : Int) ∧ a < 4 ∧ (i : Int) < w 19 a ∧ w 19 (4 + 7 * a + i) = n ∧ v 43 n = (i : Int) ∧ F_K_above v (n : Int) ((zbits (g_T v) (w 0 29).toNat : Nat) : Int) = F_M_aboveAt w (a : Int) (i : Int) := by
  obtain ⟨s1, s2, s3, s4, s5, -⟩ := h3.1
  have hn7 := h2.2.1.2.1
  have r := s1 n (by omega)
  have e := s5 n hn hw
  obtain ⟨a, ha⟩ := Int.eq_ofNat_of_zero_le (by omega : 0 ≤ v 42 n)
  obtain ⟨i, hi⟩ := Int.eq_ofNat_of_zero_le r.2.1
  rw [ha, hi, Int.toNat_natCast, Int.toNat_natCast] at e
  refine ⟨a, i, ha, by omega, e.1, e.2, hi, ?_⟩
  have hd := g_ok h2 h3
  have := d_ab hd (g_T v) n
  rw [h2.1.2.1] at this
  rw [this, m_aab h2 (g_pl h2 h3) (by omega) e.1, e.2, Int.toNat_natCast]
theorem ok_reach : S_reach Rl := by
  intro w x ha hr
  obtain ⟨h1, h2, h3, -⟩ := id hr
  have hd := g_ok h2 h3
  have hp := g_pl h2 h3
  have e1 := h2.1
  have e2 := h2.2.1
  unfold r_mn at e2
  have hab : ∀ n : Nat, (n : Int) < w 0 29 → 0 ≤ F_K_above w (n : Int) ((zbits (g_T w) (w 0 29).toNat : Nat) : Int) ∧ F_K_above w (n : Int) ((zbits (g_T w) (w 0 29).toNat : Nat) : Int) ≤ 68607 := fun n hn => by
    have := d_abr hd (g_T w) n
    rw [e1.2.1] at this
    exact this
  refine ⟨?_, ?_, ?_, hr⟩
  · unfold P_D_reach P_Y_hasName
    simp only [h_hn]
    refine ⟨⟨ha, fun _ => trivial, fun _ => by omega⟩, fun _ => trivial, fun c => ?_⟩
    obtain ⟨n, rfl⟩ := Int.eq_ofNat_of_zero_le (by omega : 0 ≤ x)
    unfold P_N_fewestDrops
    rw [g_dD h2 h3, (d_v2 (v := w) (n := n) (by omega)).1, d_v00]
    have q1 := hab n (by omega)
    have q2 := dv_dr hd (n := n) (by omega)
    unfold dv_d at q2
    exact ⟨p_in hd (by omega), p_ab hd (by omega), ⟨d_pv (by omega) (by omega) (by omega), d_pv (by omega) (by omega) (by omega)⟩, p_fr hd ha, fun _ => by omega, fun _ => trivial⟩
  · unfold P_M_reach
    simp only [h_in]
    refine ⟨p_inn ha (by omega) (by omega), fun _ => ⟨fun i hi _ => by omega, trivial⟩, fun c => ?_⟩
    obtain ⟨n, rfl⟩ := Int.eq_ofNat_of_zero_le (by omega : 0 ≤ x)
    refine ⟨p_Mwo h2 hp ha, fun i hi _ => ?_, trivial⟩
    have r := r_Mwo (w := w) h2.2.1.1 (a := (n : Int))
    refine ⟨by omega, by omega, fun _ => trivial, fun c2 => ?_⟩
    obtain ⟨a, hwo⟩ := Int.eq_ofNat_of_zero_le (by omega : 0 ≤ F_M_wellOf w (n : Int))
    rw [hwo]
    have q := (hp.2.1 a (by omega)).1
    have r2 := m_rbr (w := w) (a := a) (d := 1 + (i : Int)) q.2
    refine ⟨⟨m_MO h2, m_PO h2 hp, by omega, by omega⟩, by omega, fun _ => trivial, fun c3 => ?_⟩
    obtain ⟨k, ek, hk, -⟩ := m_rbS c3
    rw [ek, m_ix]
    have q2 := (hp.2.2.1 a k (by omega) hk).1
    omega
  · unfold F_D_reach F_M_reach
    simp only [h_hn, h_in]
    by_cases c : 0 ≤ x ∧ x < w 0 29
    · obtain ⟨n, rfl⟩ := Int.eq_ofNat_of_zero_le c.1
      rw [if_neg (by omega), if_neg (by omega)]
      have f := d_fr hd (n := n) (by omega)
      have ewo : F_M_wellOf w (n : Int) = w 42 n := by
        rw [m_wo h2 hp c.2]
        unfold g_T
        by_cases c2 : w 42 n = -1
        · rw [c2]; rfl
        · rw [if_pos (bne_iff_ne.mpr c2)]
      unfold F_N_fewestDrops
      simp only [f.2]
      by_cases c2 : w 42 n = -1
      · rw [if_neg (by omega)]
        have e0 : E_M_reach_20x2 w (n : Int) 0 = true := by
          unfold E_M_reach_20x2
          rw [ewo, if_pos c2]
        rw [zfind_least (i := 0) (by omega) e0 (fun j hj => absurd hj (Nat.not_lt_zero j)), if_neg (by omega)]
        unfold R_M_reach_20x2
        rw [ewo, if_pos c2]
      · rw [if_pos c2, g_dD h2 h3, (d_v2 (v := w) (n := n) (by omega)).1, d_v00]
        obtain ⟨a, i, ew, ha4, hi, el, -, eab⟩ := g_ab h2 h3 c.2 c2
        have ef : F_K_above w (n : Int) ((zbits (g_T w) (w 0 29).toNat : Nat) : Int) + w 31 (15 + 3 * n) * w 31 0 = m_f w a i := by
          unfold m_f
          rw [el, m_do h2 c.2, eab]
          unfold dv_d
          omega
        rw [ef]
        have fpos : 1 ≤ m_f w a i := by
          have q1 := hab n c.2
          have q2 := dv_pos h2 c.2
          unfold dv_d at q2
          omega
        have inj : ∀ k : Nat, (k : Int) < w 19 a → w 19 (4 + 7 * a + k) = (n : Int) → k = i := fun k hk e => m_inj hp ha4 hk hi (by rw [e, el])
        have eE : ∀ k : Nat, E_M_reach_20x2 w (n : Int) k = true → m_f w a i ≤ 1 + (k : Int) := by
          intro k hk
          unfold E_M_reach_20x2 at hk
          rw [ewo, if_neg c2, ew] at hk
          by_cases c3 : F_M_reachedBy w (a : Int) (1 + (k : Int)) = -1
          · rw [if_pos c3] at hk
            cases hk
          · rw [if_neg c3] at hk
            obtain ⟨j, ej, hj, hf⟩ := m_rbS c3
            rw [ej, m_ix] at hk
            by_cases c4 : w 19 (4 + 7 * a + j) = (n : Int)
            · have := inj j hj c4
              subst this
              exact hf
            · rw [if_neg c4] at hk
              cases hk
        by_cases c9 : m_f w a i ≤ 9
        · rw [if_pos c9]
          obtain ⟨d, hdd⟩ := Int.eq_ofNat_of_zero_le (by omega : 0 ≤ m_f w a i - 1)
          have er : F_M_reachedBy w (a : Int) (1 + (d : Int)) = (i : Int) := m_rbY h2 hp ha4 hi (by omega) (fun j hj => by
            have := m_flt h2 hp ha4 hj hi
            omega)
          have ed : E_M_reach_20x2 w (n : Int) d = true := by
            unfold E_M_reach_20x2
            rw [ewo, if_neg c2, ew, er, if_neg (by omega), m_ix, if_pos el]
          rw [zfind_least (i := d) (by omega) ed (fun j hj => ?_), if_neg (by omega), Int.toNat_natCast]
          · unfold R_M_reach_20x2
            rw [ewo, if_neg c2, ew, er, if_neg (by omega), m_ix, if_pos el]
            omega
          · cases q : E_M_reach_20x2 w (n : Int) j with
            | false => rfl
            | true =>
              have := eE j q
              omega
        · rw [if_neg c9, fi_no, if_pos rfl]
          intro j hj
          cases q : E_M_reach_20x2 w (n : Int) j with
          | false => rfl
          | true =>
            have := eE j q
            omega
    · rw [if_pos (by omega), if_pos (by omega)]
      split
      · rfl
      · rfl
theorem su_if {f : Nat → Int} {p : Nat → Bool} : ∀ n, zsum (fun i => if p i then f i else 0) n = zsum (fun i => f i * (if p i then 1 else 0)) n := fun n => zsum_c n (fun i _ => by split <;> simp)
theorem g_shA {w : z_Wd} {a b : Int} : ∀ n, A_M_shares_26 w a b n = zsum (fun i => F_M_dropsIn w (i : Int)) n
  | 0 => rfl
  | n + 1 => by
    simp only [A_M_shares_26, zsum]
    rw [g_shA n]
theorem g_sh {w v : z_Wd} (h2 : r_mi w v) (h3 : r_no w v) {a b : Int} : A_M_shares_26 w a b (w 0 28).toNat = F_Y_dropsOf v ((zbits (g_T v) (w 0 29).toNat : Nat) : Int) := by
  have hp := g_pl h2 h3
  have hd := g_ok h2 h3
  have e2 := h2.2.1.1
  have e3 := h2.2.1.2.1
  have := d_do hd (g_T v)
  rw [h2.1.2.1] at this
  rw [this, g_shA]
  have e : zsum (fun i => F_M_dropsIn w (i : Int)) (w 0 28).toNat = zsum (fun i => zsum (fun n => if g_T v n && v 42 n == (i : Int) then dv_d v n else 0) (w 0 29).toNat) (w 0 28).toNat := zsum_c _ (fun i hi => m_din h2 hp (by omega))
  rw [e, su_swap]
  refine zsum_c _ (fun n hn => ?_)
  by_cases c : g_T v n = true
  · rw [if_pos c]
    have c' : v 42 n ≠ -1 := by
      unfold g_T at c
      exact bne_iff_ne.mp c
    have r := hp.1 n (by omega)
    rw [su_only (k := (v 42 n).toNat) _ (by omega) (fun i hi hne => ?_)]
    · have : (v 42 n == ((v 42 n).toNat : Int)) = true := beq_iff_eq.mpr (by omega)
      rw [c, this]
      rfl
    · have : (v 42 n == (i : Int)) = false := beq_eq_false_iff_ne.mpr (by omega)
      rw [this, Bool.and_false]
      rfl
  · rw [if_neg c]
    have c' : g_T v n = false := by simpa using c
    refine su_none _ (fun i hi => ?_)
    rw [c']
    rfl
theorem ok_shares : S_shares Rl := by
  intro w a b ha hb hr
  obtain ⟨h1, h2, h3, -⟩ := id hr
  have hd := g_ok h2 h3
  have hp := g_pl h2 h3
  have e1 := h2.1
  have e2 := h2.2.1
  unfold r_mn at e2
  have r1 := d_dor hd (g_T w)
  rw [e1.2.1] at r1
  have r2 : ∀ n : Nat, n < 4 → 0 ≤ F_M_dropsIn w (n : Int) ∧ F_M_dropsIn w (n : Int) ≤ 68607 := fun n hn => by
    rw [← g_din h2 h3 hn, d_in hd]
    exact d_dor hd _
  have r3 : ∀ n : Nat, n < 4 → 0 ≤ b → b ≤ 999 → -2147483648 ≤ b * F_M_dropsIn w (n : Int) ∧ b * F_M_dropsIn w (n : Int) < 2147483648 := fun n hn h0 h9 => by
    have := r2 n hn
    have q1 := Int.mul_nonneg h0 this.1
    have q2 := Int.mul_le_mul h9 this.2 this.1 (by omega)
    omega
  refine ⟨?_, ?_, ?_, hr⟩
  · unfold P_D_shares P_Y_hasWell
    simp only [h_hw]
    rw [g_dD h2 h3]
    refine ⟨⟨ha, fun _ => trivial, fun _ => by omega⟩, fun _ => trivial, fun c => ⟨hb, fun _ => trivial, fun c1 => ⟨fun c2 => ?_, fun _ => trivial⟩⟩⟩
    obtain ⟨n, rfl⟩ := Int.eq_ofNat_of_zero_le (by omega : 0 ≤ a)
    rw [g_din h2 h3 (by omega)]
    exact ⟨p_in hd (by omega), p_do hd, by omega, fun _ => trivial, fun c3 => ⟨p_in hd ha, p_do hd, by omega, r3 n (by omega) (by omega) c2⟩⟩
  · unfold P_M_shares
    simp only [h_in]
    rw [g_sh h2 h3]
    refine ⟨p_inn ha (by omega) (by omega), fun _ => trivial, fun c => ⟨p_inn hb (by omega) (by omega), fun _ => trivial, fun c2 => ?_⟩⟩
    obtain ⟨n, rfl⟩ := Int.eq_ofNat_of_zero_le (by omega : 0 ≤ a)
    exact ⟨fun i hi => ⟨by omega, by omega, m_MO h2, m_PO h2 hp, by omega, by omega⟩, by omega, by omega, by omega, fun _ => trivial, fun c3 => ⟨⟨m_MO h2, m_PO h2 hp, by omega, by omega⟩, c3, r3 n (by omega) (by omega) (by omega)⟩⟩
  · unfold F_D_shares F_M_shares
    simp only [h_hw, h_in]
    rw [g_dD h2 h3, g_sh h2 h3]
    by_cases c : 0 ≤ a ∧ a < w 0 28
    · obtain ⟨n, rfl⟩ := Int.eq_ofNat_of_zero_le c.1
      have z0 : ¬ ((n : Int) < 0 ∨ w 32 1 ≤ (n : Int)) := by omega
      have z1 : ¬ ((n : Int) < 0 ∨ w 0 28 - 1 < (n : Int)) := by omega
      rw [if_neg z0, if_neg z1, g_din h2 h3 (by omega)]
      by_cases c1 : 0 ≤ b ∧ b ≤ 999
      · have z2 : ¬ (b < 0 ∨ 999 < b) := by omega
        rw [if_neg (by omega), if_pos c1.2, if_neg z2]
        by_cases c2 : F_Y_dropsOf w ((zbits (g_T w) (w 0 29).toNat : Nat) : Int) = 0
        · rw [if_pos (by omega), if_pos c2]
        · rw [if_neg (by omega), if_neg c2]
      · by_cases c2 : b < 0
        · rw [if_pos c2, if_pos (by omega)]
        · rw [if_neg c2, if_neg (by omega), if_pos (by omega)]
    · rw [if_pos (by omega), if_pos (by omega)]
theorem g_bitn {m i : Nat} (hm : m < 128) (hi : i < 7) : zz_or (m : Int) (zz_shl 1 (i : Int)) = ((m ||| 2 ^ i : Nat) : Int) ∧ m ||| 2 ^ i < 128 := by
  have h1 : 2 ^ i < 2 ^ 7 := Nat.pow_lt_pow_right (by decide) hi
  have h2 : m ||| 2 ^ i < 2 ^ 7 := Nat.or_lt_two_pow hm h1
  rw [bt_pow (by omega), zb_or (by omega) (by omega)]
  exact ⟨rfl, h2⟩
theorem g_siA {w : z_Wd} (h2 : r_mi w w) {k : Nat} {m : Nat} (hm : m < 128) : ∀ n : Nat, (n : Int) ≤ w 0 29 → ∃ m' : Nat, m' < 128 ∧ A_P_silenced_18 w k (m : Int) n = (m' : Int) ∧ A_M_silence_45 w k (m : Int) n = (m' : Int)
  | 0, _ => ⟨m, hm, rfl, rfl⟩
  | n + 1, hn => by
    have hn7 := h2.2.1.2.1
    obtain ⟨m', h', e1, e2⟩ := g_siA h2 (k := k) hm n (by omega)
    have e3 := (h2.2.2.2.2.1 n (by omega)).2.1
    simp only [A_P_silenced_18, A_M_silence_45]
    rw [e1, e2, (d_v2 (v := w) (n := n) (by omega)).2.1, show (3 * (n : Int) + 1).toNat = 3 * n + 1 by omega, e3.1]
    unfold F_M_has
    have b := g_bitn h' (i := n) (by omega)
    by_cases c : zz_and (zz_shr (m' : Int) (w 31 (15 + 3 * n + 1))) 1 = 1
    · simp only [c, if_true]
      exact ⟨_, b.2, b.1, by rw [if_neg (by decide)]; exact b.1⟩
    · simp only [c, if_false]
      exact ⟨m', h', rfl, by rw [if_pos trivial]; exact zbits_or0 (by omega)⟩
theorem g_siB {w : z_Wd} (h2 : r_mi w w) {a : Int} {m : Nat} (hm : m < 128) (ea : a = (m : Int)) (eb : ∀ b : Int, A_M_silence_34 w b 0 = a → True) {b : Int} (e0 : A_M_silence_34 w b 0 = a) : ∀ n : Nat, ∃ m' : Nat, m' < 128 ∧ A_P_silenced_4 w a n = (m' : Int) ∧ A_M_silence_34 w b n = (m' : Int)
  | 0 => ⟨m, hm, ea, by rw [e0]; exact ea⟩
  | n + 1 => by
    have hn7 := h2.2.1.2.1
    obtain ⟨m', h', e1, e2⟩ := g_siB h2 hm ea eb e0 n
    obtain ⟨m2, h2', e3, e4⟩ := g_siA h2 (k := n) h' (w 0 29).toNat (by omega)
    refine ⟨m2, h2', ?_, ?_⟩
    · simp only [A_P_silenced_4]
      rw [e1, h2.1.2.1, e3]
    · simp only [A_M_silence_34]
      rw [e2, e4]
theorem ok_silence : S_silence Rl := by
  intro w a ha hr
  obtain ⟨h1, h2, h3, -⟩ := id hr
  have hd := g_ok h2 h3
  have hp := g_pl h2 h3
  have e1 := h2.1
  have e2 := h2.2.1
  unfold r_mn at e2
  have hpw : zz_shl 1 (w 0 29) = ((2 ^ (w 0 29).toNat : Nat) : Int) := by
    have := bt_pow (n := (w 0 29).toNat) (by omega)
    rw [show (((w 0 29).toNat : Nat) : Int) = w 0 29 by omega] at this
    exact this
  have hp7 : 2 ^ (w 0 29).toNat ≤ 128 := by
    have := Nat.pow_le_pow_right (n := 2) (by decide) (by omega : (w 0 29).toNat ≤ 7)
    omega
  have hpos : (0 : Int) ≤ ((2 ^ (w 0 29).toNat : Nat) : Int) := Int.natCast_nonneg _
  refine ⟨?_, ?_, ?_, hr⟩
  · unfold P_D_silence P_Y_stands P_P_silenced
    rw [e1.2.1, hpw]
    refine ⟨by omega, fun _ => trivial, fun _ => ⟨ha, fun _ => trivial, fun _ => ⟨by omega, fun _ => ⟨p_in hd (by omega), fun i hi => ⟨by omega, by omega, fun j hj => ⟨by omega, d_pv (by omega) (by omega) (by omega), ?_⟩, by omega⟩, by omega, by omega⟩, fun _ => trivial⟩⟩⟩
    have := zb_bitr (A_P_silenced_18 w i (A_P_silenced_4 w (zz_or a (zz_and (((2 ^ (w 0 29).toNat : Nat) : Int) - 1) (zz_xor (F_K_inside w (-1)) (-1)))) i) j) (F_Y_value w 2 (j : Int) 1)
    omega
  · unfold P_M_silence
    rw [hpw]
    refine ⟨by omega, fun _ => trivial, fun _ => ⟨p_inn ha (by omega) (by omega), fun _ => trivial, fun _ => ⟨p_Mdr h2 hp, fun i hi => ⟨by omega, fun j hj => ⟨by omega, by omega, ?_⟩, by omega⟩, by omega⟩⟩⟩
    have := zb_bitr (A_M_silence_45 w i (A_M_silence_34 w a i) j) (w 17 (3 * (j : Int) + 1).toNat)
    exact ⟨by omega, by omega⟩
  · unfold F_D_silence F_M_silence
    simp only [h_st, h_in]
    rw [g_dD h2 h3, e1.2.1, hpw]
    by_cases c : w 0 29 = 0
    · rw [if_pos (by omega), if_pos c]
    · rw [if_neg (by omega), if_neg c]
      by_cases c1 : 0 ≤ a ∧ a ≤ ((2 ^ (w 0 29).toNat : Nat) : Int) - 1
      · rw [if_neg (by omega), if_pos c1.2, if_neg (by omega)]
        obtain ⟨m, rfl⟩ := Int.eq_ofNat_of_zero_le c1.1
        have hz := zbits_lt (g_T w) (w 0 29).toNat
        have ho : m ||| zbits (g_T w) (w 0 29).toNat < 2 ^ 7 := Nat.or_lt_two_pow (by omega) (by omega)
        have eo : zz_or (m : Int) ((zbits (g_T w) (w 0 29).toNat : Nat) : Int) = ((m ||| zbits (g_T w) (w 0 29).toNat : Nat) : Int) := zb_or (by omega) (by omega)
        unfold F_P_silenced
        rw [e1.2.1]
        obtain ⟨m', -, q1, q2⟩ := g_siB h2 (b := (m : Int)) ho eo (fun _ _ => trivial) (by simp only [A_M_silence_34]; rw [g_dM h2 h3]) (w 0 29).toNat
        rw [q1, q2]
      · by_cases c2 : a < 0
        · rw [if_pos c2, if_pos (by omega)]
        · rw [if_neg c2, if_neg (by omega), if_pos (by omega)]
