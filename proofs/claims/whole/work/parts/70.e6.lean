/-! games of two and rests -/
theorem g_cu {w v : z_Wd} (h2 : r_mi w v) (h3 : r_no w v) {a : Nat} {d : Int} (ha : a < 4) : F_K_comesUp v (a : Int) d (zz_and ((zz_shl 1 (v 32 2)) - 1) (zz_xor (F_K_inside v (-1)) (-1))) = if F_M_reachedBy w (a : Int) d = -1 then -1 else w 19 (4 + 7 * a + (F_M_reachedBy w (a : Int) d).toNat) := by
  have hd := g_ok h2 h3
  have hp := g_pl h2 h3
  rw [d_dr hd]
  rcases m_rb h2 hd hp (d := d) ha with ⟨e1, e2⟩ | ⟨i, c, e1, e2, h4, h5, -⟩
  · rw [e1, if_pos rfl]
    exact e2
  · rw [e1, if_neg (by omega), Int.toNat_natCast, h5]
    exact e2
theorem p_cuD {w v : z_Wd} (h2 : r_mi w v) (h3 : r_no w v) {a : Nat} {d : Int} (ha : a < 4) (hdd : -2147483648 ≤ d ∧ d < 2147483648) : P_K_comesUp v (a : Int) d (zz_and ((zz_shl 1 (v 32 2)) - 1) (zz_xor (F_K_inside v (-1)) (-1))) := by
  have hd := g_ok h2 h3
  rw [d_dr hd]
  exact p_cu hd _ (by omega) (by omega) hdd
def g_up (w : z_Wd) (a : Nat) (d : Int) : Int := if F_M_reachedBy w (a : Int) d = -1 then -1 else w 19 (4 + 7 * a + (F_M_reachedBy w (a : Int) d).toNat)
theorem g_upr {w v : z_Wd} {T : Nat → Bool} (h2 : r_mi w v) (hp : r_pl w v T) {a : Nat} {d : Int} (ha : a < 4) : -1 ≤ g_up w a d ∧ g_up w a d < 7 := by
  have e := h2.2.1.2.1
  unfold g_up
  split
  · omega
  · rename_i c
    obtain ⟨i, ei, hi, -⟩ := m_rbS c
    rw [ei, Int.toNat_natCast]
    have q := (hp.2.2.1 a i ha hi).1
    omega
theorem g_set {w v : z_Wd} (h2 : r_mi w v) (h3 : r_no w v) {a : Nat} (ha : a < 4) : ∀ n : Nat, z_fr [77] [] v (A_N_setUp_2 v (a : Int) n) ∧ ∀ d : Nat, d < n → A_N_setUp_2 v (a : Int) n 77 d = g_up w a (d : Int)
  | 0 => ⟨fr_rf, fun d hd => absurd hd (Nat.not_lt_zero d)⟩
  | n + 1 => by
    obtain ⟨i1, i2⟩ := g_set h2 h3 ha n
    simp only [A_N_setUp_2]
    rw [g_cu (y_mi h2 fr_0 i1 rfl) (y_no h3 fr_0 i1 rfl) ha, Int.toNat_natCast]
    refine ⟨fr_up rfl i1, fun d hd => ?_⟩
    by_cases e : d = n
    · subst e
      rw [z_up_at]
      rfl
    · rw [z_up_ne e]
      exact i2 d (by omega)
theorem p_set {w v : z_Wd} (h2 : r_mi w v) (h3 : r_no w v) {a : Nat} (ha : a < 4) : P_N_setUp v (a : Int) := by
  refine ⟨fun i hi => ?_, trivial⟩
  obtain ⟨i1, -⟩ := g_set h2 h3 ha i
  have q2 := y_mi h2 fr_0 i1 rfl
  have q3 := y_no h3 fr_0 i1 rfl
  exact ⟨by omega, p_in (g_ok q2 q3) (by omega), p_cuD q2 q3 ha (by omega), by omega⟩
theorem g_mx {u : z_Wd} {x y : Int} (hx : 0 ≤ x ∧ x ≤ 9) (hy : 0 ≤ y ∧ y ≤ 9) : ∃ d : Nat, d < 10 ∧ F_J_max_7cf53 u x y = (d : Int) ∧ F_J_max_7cf53 u 0 (F_J_min_7cf53 u 9 (F_J_max_7cf53 u x y)) = (d : Int) ∧ F_J_min_7cf53 u 9 (F_J_max_7cf53 u x y) = (d : Int) := by
  refine ⟨(F_J_max_7cf53 u x y).toNat, ?_⟩
  have : 0 ≤ F_J_max_7cf53 u x y ∧ F_J_max_7cf53 u x y ≤ 9 := by
    unfold F_J_max_7cf53
    split <;> omega
  generalize F_J_max_7cf53 u x y = m at *
  have e1 : F_J_min_7cf53 u 9 m = m := by
    unfold F_J_min_7cf53
    split <;> omega
  have e2 : F_J_max_7cf53 u 0 m = m := by
    unfold F_J_max_7cf53
    split <;> omega
  rw [e1, e2]
  omega
theorem g_gain {w v u : z_Wd} (h2 : r_mi w v) (eu : u 31 = v 31) {a n : Nat} (ha : a < 4) (hn : (n : Int) < w 0 29) (hu : ∀ d : Nat, d < 10 → u 77 d = g_up w a (d : Int)) {x y : Int} (hx : 0 ≤ x ∧ x ≤ 9) (hy : 0 ≤ y ∧ y ≤ 9) : F_N_gain u (n : Int) x y = F_M_gameOf w (n : Int) (a : Int) x y := by
  have e7 := h2.2.1.2.1
  have ek := (h2.2.2.2.2.1 n hn).2.1
  obtain ⟨d, hd, m1, m2, -⟩ := g_mx (u := u) hx hy
  have m3 : F_J_max_7cf53 w x y = (d : Int) := m1
  unfold F_N_gain F_M_gameOf
  rw [m2, m3, Int.toNat_natCast, hu d hd, x_val eu, (d_v2 (v := v) (n := n) (by omega)).2.1, show (3 * (n : Int) + 1).toNat = 3 * n + 1 by omega, ek.1]
  unfold g_up
  by_cases c : F_M_reachedBy w (a : Int) (d : Int) = -1
  · rw [if_pos c, if_pos c, if_neg (by omega)]
  · rw [if_neg c, if_neg c]
    obtain ⟨i, ei, hi, -⟩ := m_rbS c
    rw [ei, Int.toNat_natCast, m_ix]
theorem r_gam {w : z_Wd} {p a x y : Int} (hx : 0 ≤ x ∧ x ≤ 9) : -9 ≤ F_M_gameOf w p a x y ∧ F_M_gameOf w p a x y ≤ 5 := by
  unfold F_M_gameOf
  split
  · omega
  · split <;> omega
theorem p_gain {w v u : z_Wd} {T : Nat → Bool} (h2 : r_mi w v) (hp : r_pl w v T) (eu : u 31 = v 31) {a n : Nat} (ha : a < 4) (hn : (n : Int) < w 0 29) (hu : ∀ d : Nat, d < 10 → u 77 d = g_up w a (d : Int)) {x y : Int} (hx : 0 ≤ x ∧ x ≤ 9) (hy : 0 ≤ y ∧ y ≤ 9) : P_N_gain u (n : Int) x y := by
  have e7 := h2.2.1.2.1
  obtain ⟨d, hd, m1, m2, m3⟩ := g_mx (u := u) hx hy
  have r := g_upr h2 hp (a := a) (d := (d : Int)) ha
  have ek := (h2.2.2.2.2.1 n hn).2.1
  unfold P_N_gain
  rw [m2, m3, m1, Int.toNat_natCast, hu d hd, x_val eu, (d_v2 (v := v) (n := n) (by omega)).2.1]
  exact ⟨⟨by omega, by omega⟩, ⟨by omega, by omega⟩, ⟨by omega, by omega⟩, by omega, d_pv (by omega) (by omega) (by omega), by omega, by omega⟩
theorem p_gam {w v : z_Wd} {T : Nat → Bool} (h2 : r_mi w v) (hp : r_pl w v T) {a n : Nat} (ha : a < 4) (hn : (n : Int) < w 0 29) {x y : Int} (hx : 0 ≤ x ∧ x ≤ 9) (hy : 0 ≤ y ∧ y ≤ 9) : P_M_gameOf w (n : Int) (a : Int) x y := by
  have e7 := h2.2.1.2.1
  obtain ⟨d, hd, m1, -, -⟩ := g_mx (u := w) hx hy
  have q := (hp.2.1 a ha).1
  have r2 := m_rbr (w := w) (a := a) (d := (d : Int)) q.2
  have q17 := h2.2.2.2.2.2.2.1
  unfold P_M_gameOf
  rw [m1]
  refine ⟨⟨by omega, by omega⟩, ⟨m_MO h2, m_PO h2 hp, by omega, by omega⟩, by omega, fun _ => trivial, fun c => ?_⟩
  obtain ⟨i, ei, hi, -⟩ := m_rbS c
  rw [ei, m_ix]
  have q2 := (hp.2.2.1 a i ha hi).1
  have q3 := q17 (3 * (n : Int) + 1).toNat (by omega)
  omega
theorem h_cp {w : z_Wd} {a b c : Int} : (F_D_canPlay w a b c = 0) = ((a < 0 ∨ w 32 2 ≤ a) ∨ (b < 0 ∨ w 32 2 ≤ b) ∨ a = b ∨ (c < 0 ∨ w 32 1 ≤ c)) := by
  unfold F_D_canPlay
  simp only [h_hn, h_hw]
  apply propext
  split
  · simp [*]
  · split
    · simp [*]
    · split
      · simp [*]
      · split
        · simp [*]
        · simp; omega
theorem h_a2 {w : z_Wd} {a b c : Int} : (F_M_areTwo w a b c = 0) = ((a < 0 ∨ w 0 29 ≤ a) ∨ (b < 0 ∨ w 0 29 ≤ b) ∨ a = b ∨ (c < 0 ∨ w 0 28 ≤ c)) := by
  unfold F_M_areTwo
  simp only [h_in]
  apply propext
  split
  · simp; omega
  · split
    · simp; omega
    · split
      · simp [*]
      · split
        · simp; omega
        · simp; omega
theorem p_cp {w : z_Wd} (h : d_ok w) {a b c : Int} (ha : -2147483648 ≤ a ∧ a < 2147483648) (hb : -2147483648 ≤ b ∧ b < 2147483648) (hc : -2147483648 ≤ c ∧ c < 2147483648) : P_D_canPlay w a b c := by
  have h1 := h.1
  have h2 := h.2.1
  exact ⟨⟨ha, fun _ => trivial, fun _ => by omega⟩, fun _ => trivial, fun _ => ⟨⟨hb, fun _ => trivial, fun _ => by omega⟩, fun _ => trivial, fun _ => ⟨ha, hb, fun _ => trivial, fun _ => ⟨hc, fun _ => trivial, fun _ => by omega⟩⟩⟩⟩
theorem p_a2 {w v : z_Wd} (h2 : r_mi w v) {a b c : Int} (ha : -2147483648 ≤ a ∧ a < 2147483648) (hb : -2147483648 ≤ b ∧ b < 2147483648) (hc : -2147483648 ≤ c ∧ c < 2147483648) : P_M_areTwo w a b c := by
  have e1 := h2.2.1.1
  have e2 := h2.2.1.2.1
  exact ⟨p_inn ha (by omega) (by omega), fun _ => trivial, fun _ => ⟨p_inn hb (by omega) (by omega), fun _ => trivial, fun _ => ⟨ha, hb, fun _ => trivial, fun _ => p_inn hc (by omega) (by omega)⟩⟩⟩
theorem ok_game : S_game Rl := by
  intro w a b c d e f ha hb hc hd he hf hr
  obtain ⟨h1, h2, h3, h4, h5, h6, h7, h8, h9, h10⟩ := id hr
  have ok := g_ok h2 h3
  have hp := g_pl h2 h3
  have e1 := h2.1
  have e2 := h2.2.1
  unfold r_mn at e2
  by_cases cp : (0 ≤ a ∧ a < w 0 29) ∧ (0 ≤ b ∧ b < w 0 29) ∧ a ≠ b ∧ (0 ≤ c ∧ c < w 0 28) ∧ (0 ≤ d ∧ d ≤ 9) ∧ (0 ≤ e ∧ e ≤ 9)
  · obtain ⟨n, rfl⟩ := Int.eq_ofNat_of_zero_le cp.1.1
    obtain ⟨m, rfl⟩ := Int.eq_ofNat_of_zero_le cp.2.1.1
    obtain ⟨q, rfl⟩ := Int.eq_ofNat_of_zero_le cp.2.2.2.1.1
    obtain ⟨fr, up⟩ := g_set h2 h3 (a := q) (by omega) 10
    have cD : ¬ F_D_canPlay w (n : Int) (m : Int) (q : Int) = 0 := by rw [h_cp]; omega
    have hu : F_N_setUp w (q : Int) = A_N_setUp_2 w (q : Int) 10 := rfl
    have pS := p_set h2 h3 (a := q) (by omega)
    have q2 := y_mi h2 fr fr rfl
    have q3 := y_no h3 fr fr rfl
    have qp := g_pl q2 q3
    generalize F_N_setUp w (q : Int) = u at hu
    rw [← hu] at fr up q2 q3 qp
    have q2' := y_mi h2 fr fr_0 rfl
    have e31 := fr_c fr 31 rfl rfl
    have u28 : u 0 28 = w 0 28 := fr_f fr 0 28 rfl rfl
    have u29 : u 0 29 = w 0 29 := fr_f fr 0 29 rfl rfl
    have upu : ∀ x : Nat, x < 10 → u 77 x = g_up u q (x : Int) := fun x hx => by
      rw [up x hx]
      have z1 := g_cu h2 h3 (a := q) (d := (x : Int)) (by omega)
      have z2 := g_cu q2' (y_no h3 fr fr_0 rfl) (a := q) (d := (x : Int)) (by omega)
      exact z1.symm.trans z2
    have cM : ¬ F_M_areTwo u (n : Int) (m : Int) (q : Int) = 0 := by rw [h_a2]; omega
    have G1 : F_N_gain u (n : Int) d e = F_M_gameOf u (n : Int) (q : Int) d e := g_gain q2 rfl (by omega) (by omega) upu cp.2.2.2.2.1 cp.2.2.2.2.2
    have G2 : F_N_gain u (m : Int) e d = F_M_gameOf u (m : Int) (q : Int) e d := g_gain q2 rfl (by omega) (by omega) upu cp.2.2.2.2.2 cp.2.2.2.2.1
    have eD : F_D_game w (n : Int) (m : Int) (q : Int) d e f = (if f = 0 then F_N_gain u (n : Int) d e else if f = 1 then F_N_gain u (m : Int) e d else -1000000, u) := by
      unfold F_D_game
      rw [if_neg cD, if_neg (by omega), if_neg (by omega), if_neg (by omega), if_pos (by omega), show F_N_setUp w (q : Int) = u from hu.symm]
      split
      · rfl
      · split <;> rfl
    have pD : P_D_game w (n : Int) (m : Int) (q : Int) d e f := by
      unfold P_D_game
      rw [show F_N_setUp w (q : Int) = u from hu.symm]
      exact ⟨p_cp ok ha hb hc, fun _ => trivial, fun _ => ⟨hd, fun _ => trivial, fun _ => ⟨fun _ => trivial, fun _ => ⟨he, fun _ => trivial, fun _ => ⟨fun _ => ⟨pS, hf, fun _ => p_gain q2 qp rfl (a := q) (by omega) (by omega) upu cp.2.2.2.2.1 cp.2.2.2.2.2, fun _ => ⟨fun _ => p_gain q2 qp rfl (a := q) (by omega) (by omega) upu cp.2.2.2.2.2 cp.2.2.2.2.1, fun _ => trivial⟩⟩, fun _ => trivial⟩⟩⟩⟩⟩
    simp only [eD]
    refine ⟨pD, ?_, ?_, y_ta h1 fr fr rfl, q2, q3, y_ac h4 fr fr rfl, y_im h5 fr fr rfl, y_la h6 fr fr rfl, y_cl h7 fr fr rfl, y_re h8 fr fr rfl, y_fl h9 fr fr rfl, y_rd h10 fr fr rfl⟩
    · unfold P_M_game
      exact ⟨p_a2 q2 ha hb hc, fun _ => trivial, fun _ => ⟨p_inn hd (by omega) (by omega), fun _ => trivial, fun _ => ⟨p_inn he (by omega) (by omega), fun _ => trivial, fun _ => ⟨p_inn hf (by omega) (by omega), fun _ => trivial, fun _ => ⟨hf, fun _ => p_gam q2 qp (by omega) (by omega) cp.2.2.2.2.1 cp.2.2.2.2.2, fun _ => p_gam q2 qp (by omega) (by omega) cp.2.2.2.2.2 cp.2.2.2.2.1⟩⟩⟩⟩⟩
    · unfold F_M_game
      simp only [h_in]
      rw [if_neg cM, if_neg (show ¬ (d < 0 ∨ 9 < d) by omega), if_neg (show ¬ (e < 0 ∨ 9 < e) by omega), ← G1, ← G2]
      by_cases c0 : f = 0
      · rw [if_pos c0, if_neg (by omega), if_pos c0]
      · rw [if_neg c0]
        by_cases c1 : f = 1
        · rw [if_pos c1, if_neg (by omega), if_neg c0]
        · rw [if_neg c1, if_pos (by omega)]
  · have pS : ¬ F_D_canPlay w a b c = 0 → P_N_setUp w c := fun z => by
      rw [h_cp] at z
      obtain ⟨q, rfl⟩ := Int.eq_ofNat_of_zero_le (by omega : 0 ≤ c)
      exact p_set h2 h3 (by omega)
    have eD : F_D_game w a b c d e f = (-1000000, w) := by
      unfold F_D_game
      by_cases c0 : F_D_canPlay w a b c = 0
      · rw [if_pos c0]
      · rw [if_neg c0]
        rw [h_cp] at c0
        by_cases c1 : d < 0
        · rw [if_pos c1]
        · rw [if_neg c1]
          by_cases c2 : d > 9
          · rw [if_pos c2]
          · rw [if_neg c2]
            by_cases c3 : e < 0
            · rw [if_pos c3]
            · rw [if_neg c3, if_neg (by omega)]
    simp only [eD]
    refine ⟨?_, ?_, ?_, hr⟩
    · unfold P_D_game
      simp only [h_cp]
      exact ⟨p_cp ok ha hb hc, fun _ => trivial, fun _ => ⟨hd, fun _ => trivial, fun _ => ⟨fun _ => trivial, fun _ => ⟨he, fun _ => trivial, fun _ => ⟨fun _ => by omega, fun _ => trivial⟩⟩⟩⟩⟩
    · unfold P_M_game
      simp only [h_a2, h_in]
      exact ⟨p_a2 h2 ha hb hc, fun _ => trivial, fun _ => ⟨p_inn hd (by omega) (by omega), fun _ => trivial, fun _ => ⟨p_inn he (by omega) (by omega), fun _ => trivial, fun _ => by omega⟩⟩⟩
    · unfold F_M_game
      simp only [h_a2, h_in]
      by_cases c0 : (a < 0 ∨ w 0 29 ≤ a) ∨ (b < 0 ∨ w 0 29 ≤ b) ∨ a = b ∨ (c < 0 ∨ w 0 28 ≤ c)
      · rw [if_pos c0]
      · rw [if_neg c0]
        by_cases c1 : d < 0 ∨ 9 < d
        · rw [if_pos c1]
        · rw [if_neg c1, if_pos (by omega)]
/-! rests -/
theorem h_nb {u : z_Wd} {p x y : Int} : (F_N_hasNoBetter u p x y = 0) = ∃ k : Nat, k < 10 ∧ F_N_gain u p x y < F_N_gain u p (k : Int) y := by
  unfold F_N_hasNoBetter
  apply propext
  by_cases c : zfind (E_N_hasNoBetter_3 u p x y) 10 = -1
  · rw [if_pos c]
    refine ⟨fun z => absurd z (by decide), fun ⟨k, hk, hg⟩ => ?_⟩
    have := zfind_none c k hk
    unfold E_N_hasNoBetter_3 at this
    rw [if_neg (by omega)] at this
    cases this
  · rw [if_neg c]
    have s := zfind_spec c
    have r := zfind_r (E_N_hasNoBetter_3 u p x y) 10
    generalize zfind (E_N_hasNoBetter_3 u p x y) 10 = t at *
    obtain ⟨k, rfl⟩ := Int.eq_ofNat_of_zero_le (by omega : 0 ≤ t)
    rw [Int.toNat_natCast] at s ⊢
    refine ⟨fun _ => ⟨k, by omega, ?_⟩, fun _ => ?_⟩
    · unfold E_N_hasNoBetter_3 at s
      split at s
      · cases s
      · omega
    · unfold R_N_hasNoBetter_3
      split <;> rfl
theorem h_rs {w : z_Wd} {p q a x y : Int} : (F_M_isRest w p q a x y = 0) = ∃ k : Nat, k < 10 ∧ (F_M_gameOf w p a x y < F_M_gameOf w p a (k : Int) y ∨ F_M_gameOf w q a y x < F_M_gameOf w q a (k : Int) x) := by
  unfold F_M_isRest
  apply propext
  by_cases c : zfind (E_M_isRest_3 w p q a x y) 10 = -1
  · rw [if_pos c]
    refine ⟨fun z => absurd z (by decide), fun ⟨k, hk, hg⟩ => ?_⟩
    have := zfind_none c k hk
    unfold E_M_isRest_3 at this
    split at this
    · cases this
    · rw [if_neg (by omega)] at this
      cases this
  · rw [if_neg c]
    have s := zfind_spec c
    have r := zfind_r (E_M_isRest_3 w p q a x y) 10
    generalize zfind (E_M_isRest_3 w p q a x y) 10 = t at *
    obtain ⟨k, rfl⟩ := Int.eq_ofNat_of_zero_le (by omega : 0 ≤ t)
    rw [Int.toNat_natCast] at s ⊢
    refine ⟨fun _ => ⟨k, by omega, ?_⟩, fun _ => ?_⟩
    · unfold E_M_isRest_3 at s
      split at s
      · omega
      · split at s
        · cases s
        · omega
    · unfold R_M_isRest_3
      split
      · rfl
      · split <;> rfl
theorem g_rest {u : z_Wd} {a n m : Nat} (gn : ∀ x y : Nat, x < 10 → y < 10 → F_N_gain u (n : Int) (x : Int) (y : Int) = F_M_gameOf u (n : Int) (a : Int) (x : Int) (y : Int)) (gm : ∀ x y : Nat, x < 10 → y < 10 → F_N_gain u (m : Int) (x : Int) (y : Int) = F_M_gameOf u (m : Int) (a : Int) (x : Int) (y : Int)) {k : Nat} (hk : k < 100) : (F_M_isRest u (n : Int) (m : Int) (a : Int) (Int.tdiv (k : Int) 10) (Int.tmod (k : Int) 10) = 0) = (z_rp u (n : Int) (m : Int) k = false) := by
  have e1 : Int.tdiv (k : Int) 10 = ((k / 10 : Nat) : Int) := by
    rw [Int.tdiv_eq_ediv_of_nonneg (by omega)]
    omega
  have e2 : Int.tmod (k : Int) 10 = ((k % 10 : Nat) : Int) := by
    rw [Int.tmod_eq_emod_of_nonneg (by omega)]
    omega
  rw [e1, e2, h_rs]
  unfold z_rp
  have x1 : k / 10 < 10 := by omega
  have x2 : k % 10 < 10 := by omega
  generalize k / 10 = x at *
  generalize k % 10 = y at *
  apply propext
  rw [Bool.and_eq_false_iff, bne_eq_false_iff_eq, bne_eq_false_iff_eq, h_nb, h_nb, gn x y x1 x2, gm y x x2 x1]
  constructor
  · rintro ⟨j, hj, z | z⟩
    · exact Or.inl ⟨j, hj, by rw [gn j y hj x2]; exact z⟩
    · exact Or.inr ⟨j, hj, by rw [gm j x hj x1]; exact z⟩
  · rintro (⟨j, hj, z⟩ | ⟨j, hj, z⟩)
    · exact ⟨j, hj, Or.inl (by rw [gn j y hj x2] at z; exact z)⟩
    · exact ⟨j, hj, Or.inr (by rw [gm j x hj x1] at z; exact z)⟩
theorem g_rc {u : z_Wd} {p q : Int} {x : Nat} {s : Int} (hs : s = z_rn u p q (10 * x)) : ∀ y : Nat, y ≤ 10 → A_N_restCount_15 u p q x s y = z_rn u p q (10 * x + y)
  | 0, _ => hs
  | y + 1, h => by
    simp only [A_N_restCount_15]
    rw [g_rc hs y (by omega)]
    have e := z_rp_at (w := u) (a0 := p) (a1 := q) (x := x) (y := y) (by omega)
    by_cases c1 : F_N_hasNoBetter u p (x : Int) (y : Int) = 0
    · rw [if_pos c1, show 10 * x + (y + 1) = 10 * x + y + 1 by omega, z_rn_n (by rw [e, c1]; rfl)]
    · rw [if_neg c1]
      by_cases c2 : F_N_hasNoBetter u q (y : Int) (x : Int) = 0
      · rw [if_pos c2, show 10 * x + (y + 1) = 10 * x + y + 1 by omega, z_rn_n (by rw [e, c2]; simp)]
      · rw [if_neg c2, show 10 * x + (y + 1) = 10 * x + y + 1 by omega, z_rn_y (by rw [e]; simp [c1, c2])]
theorem g_rc2 {u : z_Wd} {p q : Int} : ∀ x : Nat, A_N_restCount_5 u p q x = z_rn u p q (10 * x)
  | 0 => rfl
  | x + 1 => by
    simp only [A_N_restCount_5]
    rw [g_rc (g_rc2 x) 10 (by omega)]
    rfl
theorem g_rsF {u : z_Wd} {p q a b : Int} (hz : ∀ k : Nat, k < 100 → (F_M_isRest u p q a (Int.tdiv (k : Int) 10) (Int.tmod (k : Int) 10) = 0) = (z_rp u p q k = false)) : ∀ n : Nat, n ≤ 100 → zfind (E_M_rests_24 u p q a b) n = zfind (z_rh u p q b) n ∧ (zfind (z_rh u p q b) n = -1 → A_M_rests_24 u p q a b n = z_rn u p q n)
  | 0, _ => ⟨rfl, fun _ => rfl⟩
  | n + 1, h => by
    obtain ⟨i1, i2⟩ := g_rsF hz (b := b) n (by omega)
    have z := hz n (by omega)
    simp only [zfind]
    rw [i1]
    by_cases c : zfind (z_rh u p q b) n = -1
    · have i3 := i2 c
      rw [if_pos c, if_pos c]
      have ee : E_M_rests_24 u p q a b n = z_rh u p q b n := by
        unfold E_M_rests_24 z_rh
        rw [i3]
        by_cases c2 : z_rp u p q n = false
        · rw [if_pos (z ▸ c2), c2]
          rfl
        · have c3 : z_rp u p q n = true := by simpa using c2
          rw [if_neg (fun y => c2 (z ▸ y)), c3]
          split
          · rename_i y
            simp [y]
          · rename_i y
            simp [y]
      refine ⟨by rw [ee], fun hx => ?_⟩
      have c4 : ¬ z_rh u p q b n = true := by
        intro y
        rw [if_pos y] at hx
        omega
      simp only [A_M_rests_24]
      rw [i3]
      by_cases c2 : z_rp u p q n = false
      · rw [if_pos (z ▸ c2), z_rn_n c2]
      · have c3 : z_rp u p q n = true := by simpa using c2
        rw [if_neg (fun y => c2 (z ▸ y)), z_rn_y c3, if_neg (fun y => c4 (z_rh_y c3 y))]
    · rw [if_neg c, if_neg c]
      exact ⟨rfl, fun y => absurd y c⟩
theorem r_rsA {u : z_Wd} {p q a b : Int} : ∀ n : Nat, 0 ≤ A_M_rests_24 u p q a b n ∧ A_M_rests_24 u p q a b n ≤ n
  | 0 => ⟨Int.le_refl _, Int.le_refl _⟩
  | n + 1 => by
    have := r_rsA (u := u) (p := p) (q := q) (a := a) (b := b) n
    simp only [A_M_rests_24]
    split
    · omega
    · split <;> omega
theorem ok_rests : S_rests Rl := by
  intro w a b c f ha hb hc hf hr
  obtain ⟨h1, h2, h3, h4, h5, h6, h7, h8, h9, h10⟩ := id hr
  have ok := g_ok h2 h3
  have hp := g_pl h2 h3
  have e1 := h2.1
  have e2 := h2.2.1
  unfold r_mn at e2
  by_cases cp : (0 ≤ a ∧ a < w 0 29) ∧ (0 ≤ b ∧ b < w 0 29) ∧ a ≠ b ∧ (0 ≤ c ∧ c < w 0 28)
  · obtain ⟨n, rfl⟩ := Int.eq_ofNat_of_zero_le cp.1.1
    obtain ⟨m, rfl⟩ := Int.eq_ofNat_of_zero_le cp.2.1.1
    obtain ⟨q, rfl⟩ := Int.eq_ofNat_of_zero_le cp.2.2.2.1
    obtain ⟨fr, up⟩ := g_set h2 h3 (a := q) (by omega) 10
    have cD : ¬ F_D_canPlay w (n : Int) (m : Int) (q : Int) = 0 := by rw [h_cp]; omega
    have hu : F_N_setUp w (q : Int) = A_N_setUp_2 w (q : Int) 10 := rfl
    have pS := p_set h2 h3 (a := q) (by omega)
    have q2 := y_mi h2 fr fr rfl
    have q3 := y_no h3 fr fr rfl
    have qp := g_pl q2 q3
    have q2' := y_mi h2 fr fr_0 rfl
    have q3' := y_no h3 fr fr_0 rfl
    have u28 := fr_f fr 0 28 rfl rfl
    have u29 := fr_f fr 0 29 rfl rfl
    have hgen : ∃ u, u = F_N_setUp w (q : Int) := ⟨_, rfl⟩
    obtain ⟨u, hu2⟩ := hgen
    rw [← hu, ← hu2] at fr up q2 q3 qp q2' q3' u28 u29
    have upu : ∀ x : Nat, x < 10 → u 77 x = g_up u q (x : Int) := fun x hx => by
      rw [up x hx]
      have z1 := g_cu h2 h3 (a := q) (d := (x : Int)) (by omega)
      have z2 := g_cu q2' q3' (a := q) (d := (x : Int)) (by omega)
      exact z1.symm.trans z2
    have cM : ¬ F_M_areTwo u (n : Int) (m : Int) (q : Int) = 0 := by rw [h_a2]; omega
    have gn : ∀ x y : Nat, x < 10 → y < 10 → F_N_gain u (n : Int) (x : Int) (y : Int) = F_M_gameOf u (n : Int) (q : Int) (x : Int) (y : Int) := fun x y hx hy => g_gain q2 rfl (by omega) (by omega) upu (by omega) (by omega)
    have gm : ∀ x y : Nat, x < 10 → y < 10 → F_N_gain u (m : Int) (x : Int) (y : Int) = F_M_gameOf u (m : Int) (q : Int) (x : Int) (y : Int) := fun x y hx hy => g_gain q2 rfl (by omega) (by omega) upu (by omega) (by omega)
    have hz : ∀ k : Nat, k < 100 → (F_M_isRest u (n : Int) (m : Int) (q : Int) (Int.tdiv (k : Int) 10) (Int.tmod (k : Int) 10) = 0) = (z_rp u (n : Int) (m : Int) k = false) := fun k hk => g_rest gn gm hk
    have rs := g_rsF hz (b := f) 100 (Nat.le_refl _)
    have pn : ∀ x y : Nat, x < 10 → y < 10 → P_N_hasNoBetter u (n : Int) (x : Int) (y : Int) := fun x y hx hy => ⟨fun i hi _ => by
      have r1 := r_gam (w := u) (p := (n : Int)) (a := (q : Int)) (x := (i : Int)) (y := (y : Int)) (by omega)
      have r2 := r_gam (w := u) (p := (n : Int)) (a := (q : Int)) (x := (x : Int)) (y := (y : Int)) (by omega)
      rw [gn i y hi hy, gn x y hx hy]
      exact ⟨by omega, p_gain q2 qp rfl (a := q) (by omega) (by omega) upu (by omega) (by omega), p_gain q2 qp rfl (a := q) (by omega) (by omega) upu (by omega) (by omega), by omega, by omega⟩, trivial⟩
    have pm : ∀ x y : Nat, x < 10 → y < 10 → P_N_hasNoBetter u (m : Int) (x : Int) (y : Int) := fun x y hx hy => ⟨fun i hi _ => by
      have r1 := r_gam (w := u) (p := (m : Int)) (a := (q : Int)) (x := (i : Int)) (y := (y : Int)) (by omega)
      have r2 := r_gam (w := u) (p := (m : Int)) (a := (q : Int)) (x := (x : Int)) (y := (y : Int)) (by omega)
      rw [gm i y hi hy, gm x y hx hy]
      exact ⟨by omega, p_gain q2 qp rfl (a := q) (by omega) (by omega) upu (by omega) (by omega), p_gain q2 qp rfl (a := q) (by omega) (by omega) upu (by omega) (by omega), by omega, by omega⟩, trivial⟩
    have eD : F_D_rests w (n : Int) (m : Int) (q : Int) f = (if f = -1 then z_rn u (n : Int) (m : Int) 100 else zfind (z_rh u (n : Int) (m : Int) f) 100, u) := by
      unfold F_D_rests F_N_restAt F_N_restCount
      rw [if_neg cD, ← hu2, g_rc2]
      split <;> rfl
    have pD : P_D_rests w (n : Int) (m : Int) (q : Int) f := by
      unfold P_D_rests
      rw [← hu2]
      exact ⟨p_cp ok ha hb hc, fun _ => trivial, fun _ => ⟨pS, hf, fun _ => ⟨fun i hi => ⟨by omega, fun j hj => ⟨by omega, pn i j hi hj, fun _ => trivial, fun _ => pm j i hj hi⟩, trivial⟩, trivial⟩, fun _ => ⟨fun x y hx hy => ⟨pn x y hx hy, pm y x hy hx⟩, hf⟩⟩⟩
    simp only [eD]
    refine ⟨pD, ?_, ?_, y_ta h1 fr fr rfl, q2, q3, y_ac h4 fr fr rfl, y_im h5 fr fr rfl, y_la h6 fr fr rfl, y_cl h7 fr fr rfl, y_re h8 fr fr rfl, y_fl h9 fr fr rfl, y_rd h10 fr fr rfl⟩
    · unfold P_M_rests
      refine ⟨p_a2 q2 ha hb hc, fun _ => trivial, fun _ => ⟨hf, fun _ => ⟨fun k hk _ => ⟨by omega, ?_, fun _ => trivial, fun _ => ?_⟩, trivial⟩, fun _ => trivial⟩⟩
      · have e1 : Int.tdiv (k : Int) 10 = ((k / 10 : Nat) : Int) := by
          rw [Int.tdiv_eq_ediv_of_nonneg (by omega)]
          omega
        have e2 : Int.tmod (k : Int) 10 = ((k % 10 : Nat) : Int) := by
          rw [Int.tmod_eq_emod_of_nonneg (by omega)]
          omega
        have x1 : k / 10 < 10 := by omega
        have x2 : k % 10 < 10 := by omega
        rw [e1, e2]
        generalize k / 10 = x at *
        generalize k % 10 = y at *
        refine ⟨fun i hi _ => ?_, trivial⟩
        have r1 := r_gam (w := u) (p := (n : Int)) (a := (q : Int)) (x := (i : Int)) (y := (y : Int)) (by omega)
        have r2 := r_gam (w := u) (p := (n : Int)) (a := (q : Int)) (x := (x : Int)) (y := (y : Int)) (by omega)
        have r3 := r_gam (w := u) (p := (m : Int)) (a := (q : Int)) (x := (i : Int)) (y := (x : Int)) (by omega)
        have r4 := r_gam (w := u) (p := (m : Int)) (a := (q : Int)) (x := (y : Int)) (y := (x : Int)) (by omega)
        exact ⟨by omega, p_gam q2 qp (by omega) (by omega) (by omega) (by omega), p_gam q2 qp (by omega) (by omega) (by omega) (by omega), by omega, by omega, fun _ => trivial, fun _ => ⟨p_gam q2 qp (by omega) (by omega) (by omega) (by omega), p_gam q2 qp (by omega) (by omega) (by omega) (by omega), by omega, by omega⟩⟩
      · have := r_rsA (u := u) (p := (n : Int)) (q := (m : Int)) (a := (q : Int)) (b := f) k
        omega
    · unfold F_M_rests
      rw [if_neg cM, rs.1]
      have neg : f < 0 → zfind (z_rh u (n : Int) (m : Int) f) 100 = -1 := fun z => fi_no _ (fun i _ => by
        have := z_rn_r u (n : Int) (m : Int) i
        unfold z_rh
        rw [show (z_rn u (n : Int) (m : Int) i == f) = false from beq_eq_false_iff_ne.mpr (by omega), Bool.and_false])
      by_cases c0 : f = -1
      · rw [if_pos c0, if_pos (by omega), neg (by omega), if_pos rfl, if_pos c0, rs.2 (neg (by omega))]
      · rw [if_neg c0]
        by_cases c1 : f ≥ -1
        · rw [if_pos c1]
          by_cases c2 : zfind (z_rh u (n : Int) (m : Int) f) 100 = -1
          · rw [if_pos c2, if_neg c0, c2]
          · rw [if_neg c2]
            have e3 := rs.1
            have s := zfind_spec (p := E_M_rests_24 u (n : Int) (m : Int) (q : Int) f) (n := 100) (by rw [e3]; exact c2)
            rw [e3] at s
            have r := zfind_r (z_rh u (n : Int) (m : Int) f) 100
            generalize zfind (z_rh u (n : Int) (m : Int) f) 100 = t at *
            obtain ⟨k, rfl⟩ := Int.eq_ofNat_of_zero_le (by omega : 0 ≤ t)
            rw [Int.toNat_natCast] at s ⊢
            unfold E_M_rests_24 at s
            unfold R_M_rests_24
            split at s
            · cases s
            · rename_i y1
              split at s
              · rename_i y2
                rw [if_neg y1, if_pos y2]
              · cases s
        · rw [if_neg c1, neg (by omega)]
  · have c0 : (a < 0 ∨ w 0 29 ≤ a) ∨ (b < 0 ∨ w 0 29 ≤ b) ∨ a = b ∨ (c < 0 ∨ w 0 28 ≤ c) := by omega
    have cD : F_D_canPlay w a b c = 0 := by rw [h_cp]; omega
    have cM : F_M_areTwo w a b c = 0 := by rw [h_a2]; exact c0
    have eD : F_D_rests w a b c f = (-1, w) := by
      unfold F_D_rests
      rw [if_pos cD]
    simp only [eD]
    refine ⟨?_, ?_, ?_, hr⟩
    · unfold P_D_rests
      exact ⟨p_cp ok ha hb hc, fun _ => trivial, fun z => absurd cD z⟩
    · unfold P_M_rests
      exact ⟨p_a2 h2 ha hb hc, fun _ => trivial, fun z => absurd cM z⟩
    · unfold F_M_rests
      rw [if_pos cM]
