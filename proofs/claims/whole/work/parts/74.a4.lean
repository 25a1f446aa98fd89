/-! a name is dipped -/
theorem g_val {w v : z_Wd} (h2 : r_mi w v) {n a : Nat} (hn : (n : Int) < w 0 29) (ha : (a : Int) < w 0 28) : F_Y_isForeign v (n : Int) = w 17 (3 * n + 2) ∧ F_Y_isRed v (a : Int) = w 16 (2 * a + 1) := by
  have e2 := h2.2.1
  unfold r_mn at e2
  have q1 := (h2.2.2.2.2.1 n hn).2.2
  have q2 := h2.2.2.2.1 a ha
  unfold F_Y_isForeign F_Y_isRed
  rw [(d_v2 (v := v) (n := n) (by omega)).2.2, (d_v1 (v := v) (n := a) (by omega)).2, q1.1, q2.1]
  constructor
  · rcases q1.2 with z | z <;> rw [z] <;> decide
  · rcases q2.2 with z | z <;> rw [z] <;> decide
theorem g_room {w v : z_Wd} (h2 : r_mi w v) (h3 : r_no w v) {a : Nat} (ha : (a : Int) < w 0 28) : F_K_depth v (a : Int) = w 19 (32 + a) ∧ F_Y_dropsOf v (F_K_inside v (a : Int)) = F_M_dropsIn w (a : Int) ∧ (0 ≤ w 19 (32 + a) ∧ w 19 (32 + a) ≤ 30) ∧ (0 ≤ F_M_dropsIn w (a : Int) ∧ F_M_dropsIn w (a : Int) ≤ 68607) := by
  have e1 := h2.1
  have e2 := h2.2.1
  unfold r_mn at e2
  have q := h3.1.2.2.2.2.2.1 a ha
  have d := g_din h2 h3 (a := a) (by omega)
  refine ⟨?_, d, by omega, ?_⟩
  · unfold F_K_depth
    simp only [h_hw]
    rw [if_neg (by omega), Int.toNat_natCast, q.1]
  · rw [← d, d_in (g_ok h2 h3)]
    exact d_dor (g_ok h2 h3) _
theorem g_takes {w v : z_Wd} (h2 : r_mi w v) (h3 : r_no w v) {n a : Nat} (hn : (n : Int) < w 0 29) (ha : (a : Int) < w 0 28) : F_K_takes v (a : Int) (n : Int) = F_M_fits w (n : Int) (a : Int) ∧ P_K_takes v (a : Int) (n : Int) ∧ P_M_fits w (n : Int) (a : Int) := by
  have hd := g_ok h2 h3
  have hp := g_pl h2 h3
  have e1 := h2.1
  have e2 := h2.2.1
  unfold r_mn at e2
  obtain ⟨g1, g2⟩ := g_val h2 hn ha
  obtain ⟨r1, r2, r3, r4⟩ := g_room h2 h3 ha
  have ed := m_do h2 hn
  have er := dv_dr hd (n := n) (by omega)
  unfold F_M_dropsOf at ed
  have q1 := (h2.2.2.2.2.1 n hn).2.2
  have q2 := h2.2.2.2.1 a ha
  have x0 : (3 * (n : Int)).toNat = 3 * n := by omega
  have x2 : (3 * (n : Int) + 2).toNat = 3 * n + 2 := by omega
  have x3 : (2 * (a : Int) + 1).toNat = 2 * a + 1 := by omega
  have x4 : (32 + (a : Int)).toNat = 32 + a := by omega
  rw [x0] at ed
  have ed2 : F_Y_value v 2 (n : Int) 0 * F_Y_value v 0 0 0 = dv_d v n := by
    rw [(d_v2 (v := v) (n := n) (by omega)).1, d_v00]
    rfl
  refine ⟨?_, ?_, ?_⟩
  · unfold F_K_takes F_M_fits F_Y_isHisColour
    rw [g1, g2, r1, r2, x0, x2, x3, x4, ed, ed2]
    by_cases c1 : w 17 (3 * n + 2) = w 16 (2 * a + 1)
    · rw [if_pos c1, if_neg (by decide), if_pos c1.symm]
    · rw [if_neg c1, if_pos rfl]
      split
      · rfl
      · rw [if_neg (fun z => c1 z.symm)]
  · unfold P_K_takes P_Y_isHisColour P_Y_isForeign P_Y_isRed P_K_depth P_Y_hasWell
    rw [r1, r2, ed2]
    have v1 := d_rv hd (k := 2) (a := (n : Int)) (j := 2) (by omega) (by omega)
    have v2 := d_rv hd (k := 1) (a := (a : Int)) (j := 1) (by omega) (by omega)
    exact ⟨⟨⟨d_pv (by omega) (by omega) (by omega), by omega⟩, ⟨d_pv (by omega) (by omega) (by omega), by omega⟩⟩, fun _ => trivial, fun _ => ⟨⟨d_pv (by omega) (by omega) (by omega), d_pv (by omega) (by omega) (by omega)⟩, ⟨⟨⟨by omega, fun _ => trivial, fun _ => by omega⟩, fun _ => trivial, fun _ => by omega⟩, p_in hd (by omega), p_do hd⟩, by omega, by omega⟩⟩
  · unfold P_M_fits
    rw [x0, x2, x3, x4, ed, q1.1, q2.1]
    exact ⟨⟨by omega, m_MO h2, m_PO h2 hp, by omega, by omega⟩, by omega, by omega, by omega, fun _ => trivial, fun _ => ⟨by omega, by omega, by omega, by omega⟩⟩
theorem g_frM {w v : z_Wd} (h2 : r_mi w v) (h3 : r_no w v) {n : Nat} (hn : (n : Int) < w 0 29) : (F_M_isFree w (n : Int) = 0) = (v 42 n ≠ -1) := by
  rw [m_fr h2 (g_pl h2 h3) hn]
  unfold g_T
  apply propext
  by_cases c : v 42 n = -1
  · simp [c]
  · simp [c]
theorem sim_dip {w v : z_Wd} (h : r_all w v) {n a : Nat} (hn : (n : Int) < w 0 29) (ha : (a : Int) < w 0 28) (hf : v 42 n = -1) : P_K_drown v (n : Int) (a : Int) ∧ P_M_dipNow w (n : Int) (a : Int) ∧ r_all (F_M_dipNow w (n : Int) (a : Int)) (F_K_drown v (n : Int) (a : Int)) := by
  obtain ⟨h1, h2, h3, h4, h5, h6, h7, h8, h9, h10⟩ := h
  have hd := g_ok h2 h3
  have e1 := h2.1
  have e2 := h2.2.1
  unfold r_mn at e2
  have l6 := g_lt7 h2 h3 (a := a) (by omega) hn (by omega)
  have r0 := (h3.1.2.2.1 a (by omega)).1
  have f : z_fr [19] [] w (F_M_dipNow w (n : Int) (a : Int)) := fr_F_M_dipNow
  have g : z_fr [42, 43] [] v (F_K_drown v (n : Int) (a : Int)) := fr_F_K_drown
  have eD : F_K_drown v (n : Int) (a : Int) = z_up (z_up v 43 n (w 19 a)) 42 n (a : Int) := by
    unfold F_K_drown
    simp only [h_hn]
    rw [if_neg (by omega), Int.toNat_natCast, g_cnt h2 h3 (by omega)]
  refine ⟨?_, ?_, y_ta h1 f g rfl, y_mi h2 f g rfl, ?_, y_ac h4 f g rfl, y_im h5 f g rfl, y_la h6 f g rfl, y_cl h7 f g rfl, y_re h8 f g rfl, y_fl h9 f g rfl, y_rd h10 f g rfl⟩
  · unfold P_K_drown P_Y_hasName
    exact ⟨⟨by omega, fun _ => trivial, fun _ => by omega⟩, fun _ => trivial, fun _ => ⟨p_in hd (by omega), by omega⟩⟩
  · unfold P_M_dipNow
    rw [Int.toNat_natCast]
    omega
  · have eN : ∀ k, F_M_dipNow w (n : Int) (a : Int) 19 k = if k = a then w 19 a + 1 else if k = 4 + 7 * a + (w 19 a).toNat then (n : Int) else w 19 k := by
      intro k
      unfold F_M_dipNow
      rw [Int.toNat_natCast, show (4 + 7 * (a : Int) + w 19 a).toNat = 4 + 7 * a + (w 19 a).toNat by omega]
      by_cases c : k = a
      · rw [if_pos c, c, z_up_at, z_up_ne (by omega)]
      · rw [if_neg c, z_up_ne c]
        by_cases c2 : k = 4 + 7 * a + (w 19 a).toNat
        · rw [if_pos c2, c2, z_up_at]
        · rw [if_neg c2, z_up_ne c2]
    unfold r_no
    rw [fr_f f 0 28 rfl rfl, fr_f f 0 29 rfl rfl, fr_c g 44 rfl rfl, fr_c g 45 rfl rfl, fr_c g 46 rfl rfl, fr_f g 41 6 rfl rfl, fr_f g 41 7 rfl rfl, fr_f g 41 8 rfl rfl]
    refine ⟨st_dip h3.1 (by omega) (by omega) hn hf ha l6 (fun i => ?_) (fun i => ?_) eN, lg_n h3.2 (fun k hk _ => ?_)⟩
    · rw [eD]
      by_cases c : i = n
      · rw [if_pos c, c, z_up_at]
      · rw [if_neg c, z_up_ne c, z_up_other (by decide)]
    · rw [eD, z_up_other (by decide)]
      by_cases c : i = n
      · rw [if_pos c, c, z_up_at]
      · rw [if_neg c, z_up_ne c]
    · rw [eN, if_neg (by omega), if_neg (by omega)]
theorem ok_dip : S_dip Rl := by
  intro w a b ha hb hr
  have key : ∀ w v, r_all w v → P_D_dip v a b ∧ P_M_dip w a b ∧ (F_D_dip v a b).1 = (F_M_dip w a b).1 ∧ r_all (F_M_dip w a b).2 (F_D_dip v a b).2 := by
    intro w v h
    obtain ⟨h1, h2, h3, -⟩ := id h
    have hd := g_ok h2 h3
    have hp := g_pl h2 h3
    have e1 := h2.1
    have e2 := h2.2.1
    unfold r_mn at e2
    obtain ⟨kp1, kp2, kp3⟩ := sim_keep h
    have fK := fr_F_M_keep (w := w)
    have gK := fr_F_H_keep_41 (w := v)
    by_cases cn : 0 ≤ a ∧ a < w 0 29
    · obtain ⟨n, rfl⟩ := Int.eq_ofNat_of_zero_le cn.1
      by_cases cw : 0 ≤ b ∧ b < w 0 28
      · obtain ⟨m, rfl⟩ := Int.eq_ofNat_of_zero_le cw.1
        have fr := d_fr hd (n := n) (by omega)
        have frM := g_frM h2 h3 cn.2
        obtain ⟨tk, pt, pf⟩ := g_takes h2 h3 cn.2 cw.2
        have two : v 42 n = -1 → P_K_drown (F_H_keep_41 v) (n : Int) (m : Int) ∧ P_M_dipNow (F_M_keep w) (n : Int) (m : Int) ∧ r_all (F_M_dipNow (F_M_keep w) (n : Int) (m : Int)) (F_K_drown (F_H_keep_41 v) (n : Int) (m : Int)) := fun z => sim_dip kp3 (by rw [fr_f fK 0 29 rfl rfl]; exact cn.2) (by rw [fr_f fK 0 28 rfl rfl]; exact cw.2) (by rw [fr_c gK 42 rfl rfl]; exact z)
        have nw2 : ∀ u : z_Wd, u 0 28 = w 0 28 → (m : Int) < u 0 28 := fun u e => by rw [e]; exact cw.2
        have rm : v 42 n = -1 → F_K_depth (F_K_drown (F_H_keep_41 v) (n : Int) (m : Int)) (m : Int) - F_Y_dropsOf (F_K_drown (F_H_keep_41 v) (n : Int) (m : Int)) (F_K_inside (F_K_drown (F_H_keep_41 v) (n : Int) (m : Int)) (m : Int)) = F_M_dipNow (F_M_keep w) (n : Int) (m : Int) 19 (32 + (m : Int)).toNat - F_M_dropsIn (F_M_dipNow (F_M_keep w) (n : Int) (m : Int)) (m : Int) := fun z => by
          obtain ⟨-, -, t⟩ := two z
          obtain ⟨r1, r2, -, -⟩ := g_room t.2.1 t.2.2.1 (a := m) (nw2 _ (by rw [fr_f (fr_F_M_dipNow) 0 28 rfl rfl, fr_f fK 0 28 rfl rfl]))
          rw [r1, r2, show (32 + (m : Int)).toNat = 32 + m by omega]
        refine ⟨?_, ?_, ?_⟩
        · unfold P_D_dip
          refine ⟨⟨ha, fun _ => trivial, fun _ => by omega⟩, fun _ => p_rfD (by omega), fun _ => ⟨⟨hb, fun _ => trivial, fun _ => by omega⟩, fun _ => p_rfD (by omega), fun _ => ⟨p_fr hd ha, fun _ => p_rfD (by omega), fun z => ⟨pt, fun _ => p_rfD (by omega), fun z2 => ?_⟩⟩⟩⟩
          rw [fr.2] at z
          obtain ⟨t1, t2, t3⟩ := two (by omega)
          have hd2 := g_ok t3.2.1 t3.2.2.1
          have e3 := hd2.1
          exact ⟨kp2, t1, ⟨⟨hb, fun _ => trivial, fun _ => by omega⟩, fun _ => trivial, fun _ => by omega⟩, p_in hd2 hb, p_do hd2⟩
        · unfold P_M_dip
          refine ⟨p_inn ha (by omega) (by omega), fun _ => rf_p (by omega), fun _ => ⟨p_inn hb (by omega) (by omega), fun _ => rf_p (by omega), fun _ => ⟨p_Mfr h2 hp ha, fun _ => rf_p (by omega), fun z => ⟨pf, fun _ => rf_p (by omega), fun z2 => rf_q ?_⟩⟩⟩⟩
          rw [frM] at z
          obtain ⟨t1, t2, t3⟩ := two (by omega)
          rw [h_rf0]
          exact ⟨kp1, t2, by omega, m_MO t3.2.1, m_PO t3.2.1 (g_pl t3.2.1 t3.2.2.1), by omega, by omega⟩
        · unfold F_D_dip F_M_dip
          simp only [h_hn, h_hw, h_in, h_rfD (s := 0) (by omega), h_rfD (s := 2) (by omega), h_rfD (s := 3) (by omega)]
          rw [if_neg (show ¬ ((n : Int) < 0 ∨ v 32 2 ≤ (n : Int)) by omega), if_neg (show ¬ ((m : Int) < 0 ∨ v 32 1 ≤ (m : Int)) by omega), if_neg (show ¬ ((n : Int) < 0 ∨ w 0 29 - 1 < (n : Int)) by omega), if_neg (show ¬ ((m : Int) < 0 ∨ w 0 28 - 1 < (m : Int)) by omega), tk]
          simp only [fr.2, frM]
          by_cases c1 : v 42 n = -1
          · rw [if_neg (show ¬ v 42 n ≠ -1 by omega), if_neg (show ¬ v 42 n ≠ -1 by omega)]
            by_cases c2 : F_M_fits w (n : Int) (m : Int) = 0
            · rw [if_pos c2, if_pos c2, rf_n (by decide), h_rf (by decide)]
              exact ⟨rfl, sim_rf h (s := 3) (by omega)⟩
            · rw [if_neg c2, if_neg c2, rf_y, h_rf0]
              exact ⟨rm c1, (two c1).2.2⟩
          · rw [if_pos c1, if_pos c1, rf_n (by decide), h_rf (by decide)]
            exact ⟨rfl, sim_rf h (s := 2) (by omega)⟩
      · have x1 : F_Y_hasWell v b = 0 := by rw [h_hw]; omega
        have x2 : F_M_in w b 0 (w 0 28 - 1) = 0 := by rw [h_in]; omega
        refine ⟨?_, ?_, ?_⟩
        · unfold P_D_dip
          exact ⟨⟨ha, fun _ => trivial, fun _ => by omega⟩, fun _ => p_rfD (by omega), fun _ => ⟨⟨hb, fun _ => trivial, fun _ => by omega⟩, fun _ => p_rfD (by omega), fun z => absurd x1 z⟩⟩
        · unfold P_M_dip
          exact ⟨p_inn ha (by omega) (by omega), fun _ => rf_p (by omega), fun _ => ⟨p_inn hb (by omega) (by omega), fun _ => rf_p (by omega), fun z => absurd x2 z⟩⟩
        · unfold F_D_dip F_M_dip
          simp only [h_rfD (s := 0) (by omega)]
          rw [if_neg (by rw [h_hn]; omega), if_pos x1, if_neg (by rw [h_in]; omega), if_pos x2, rf_n (by decide), h_rf (by decide)]
          exact ⟨rfl, sim_rf h (s := 0) (by omega)⟩
    · have x1 : F_Y_hasName v a = 0 := by rw [h_hn]; omega
      have x2 : F_M_in w a 0 (w 0 29 - 1) = 0 := by rw [h_in]; omega
      refine ⟨?_, ?_, ?_⟩
      · unfold P_D_dip
        exact ⟨⟨ha, fun _ => trivial, fun _ => by omega⟩, fun _ => p_rfD (by omega), fun z => absurd x1 z⟩
      · unfold P_M_dip
        exact ⟨p_inn ha (by omega) (by omega), fun _ => rf_p (by omega), fun z => absurd x2 z⟩
      · unfold F_D_dip F_M_dip
        simp only [h_rfD (s := 0) (by omega)]
        rw [if_pos x1, if_pos x2, rf_n (by decide), h_rf (by decide)]
        exact ⟨rfl, sim_rf h (s := 0) (by omega)⟩
  have t := s_two hr (fr_F_D_dip (a0 := a) (a1 := b)) rfl (fr_F_M_dip (w := (F_D_dip w a b).2) (a0 := a) (a1 := b)) rfl
  obtain ⟨k1, k2, k3, k4⟩ := key _ _ t.1
  exact ⟨k1, k2, k3, t.2 k4⟩
/-! one comes up -/
theorem d_li {v : z_Wd} {c : Nat} : ∀ n : Nat, z_fr [43] [] v (A_K_lift_11 v (c : Int) n) ∧ ∀ m, A_K_lift_11 v (c : Int) n 43 m = if m < n ∧ dv_o v m c = true then v 43 m - 1 else v 43 m
  | 0 => ⟨fr_rf, fun m => by rw [if_neg (by omega)]; rfl⟩
  | n + 1 => by
    obtain ⟨i1, i2⟩ := d_li (v := v) (c := c) n
    have e42 := fr_c i1 42 rfl rfl
    have oc : dv_o v c c = false := by
      unfold dv_o
      have : ¬ v 43 c < v 43 c := by omega
      simp [this]
    have eo : dv_o (A_K_lift_11 v (c : Int) n) n c = dv_o v n c := by
      unfold dv_o
      rw [e42, i2 n, i2 c, if_neg (show ¬ (n < n ∧ dv_o v n c = true) from fun z => absurd z.1 (Nat.lt_irrefl n)), oc, if_neg (by simp)]
    simp only [A_K_lift_11]
    by_cases k : dv_o v n c = true
    · have z : ¬ (F_K_liesOver (A_K_lift_11 v (c : Int) n) (n : Int) (c : Int) = 0) := by rw [d_lo, eo, k]; simp
      rw [if_neg z, Int.toNat_natCast]
      refine ⟨fr_up rfl i1, fun m => ?_⟩
      by_cases e : m = n
      · subst e
        rw [z_up_at, i2 m, if_neg (by omega), if_pos ⟨by omega, k⟩]
      · rw [z_up_ne e, i2 m]
        by_cases q : m < n ∧ dv_o v m c = true
        · rw [if_pos q, if_pos ⟨by omega, q.2⟩]
        · rw [if_neg q, if_neg (fun y => q ⟨by omega, y.2⟩)]
    · have k2 : dv_o v n c = false := by simpa using k
      have z : F_K_liesOver (A_K_lift_11 v (c : Int) n) (n : Int) (c : Int) = 0 := by rw [d_lo, eo]; exact k2
      rw [if_pos z]
      refine ⟨i1, fun m => ?_⟩
      rw [i2 m]
      by_cases q : m < n ∧ dv_o v m c = true
      · rw [if_pos q, if_pos ⟨by omega, q.2⟩]
      · rw [if_neg q, if_neg (fun y => ?_)]
        by_cases e : m = n
        · subst e
          exact k y.2
        · exact q ⟨by omega, y.2⟩
theorem d_liok {v : z_Wd} (h : d_ok v) {c : Nat} (hc : c < 7) (n : Nat) : d_ok (A_K_lift_11 v (c : Int) n) := by
  obtain ⟨i1, i2⟩ := d_li (v := v) (c := c) n
  obtain ⟨k1, k2, k3, k4, k5⟩ := h
  unfold d_ok
  rw [fr_c i1 31 rfl rfl, fr_c i1 32 rfl rfl, fr_c i1 42 rfl rfl]
  refine ⟨k1, k2, k3, k4, fun m hm => ?_⟩
  have q := k5 m hm
  have qc := k5 c hc
  rw [i2 m]
  refine ⟨q.1, ?_⟩
  split
  · rename_i z
    have z2 := z.2
    unfold dv_o at z2
    simp only [Bool.and_eq_true, decide_eq_true_eq] at z2
    omega
  · exact q.2
theorem d_lift {v : z_Wd} (h : d_ok v) {c : Nat} (hc : (c : Int) < v 32 2) (hw : v 42 c ≠ -1) : P_K_lift v (c : Int) ∧ z_fr [42, 43] [] v (F_K_lift v (c : Int)) ∧ (∀ m, F_K_lift v (c : Int) 42 m = if m = c then -1 else v 42 m) ∧ ∀ m, F_K_lift v (c : Int) 43 m = if m = c then 0 else if (m : Int) < v 32 2 ∧ dv_o v m c = true then v 43 m - 1 else v 43 m := by
  have h2 := h.2.1
  have fr := d_fr h hc
  obtain ⟨i1, i2⟩ := d_li (v := v) (c := c) (v 32 2).toNat
  have ew : ∀ n, A_K_lift_11 v (c : Int) n 32 2 = v 32 2 := fun n => fr_f (d_li (v := v) (c := c) n).1 32 2 rfl rfl
  have eF : F_K_lift v (c : Int) = z_up (z_up (A_K_lift_11 v (c : Int) (v 32 2).toNat) 42 c (-1)) 43 c 0 := by
    unfold F_K_lift
    rw [if_pos (by rw [fr.2]; exact hw), Int.toNat_natCast]
  refine ⟨?_, ?_, fun m => ?_, fun m => ?_⟩
  · unfold P_K_lift
    simp only [ew]
    refine ⟨p_fr h (by omega), fun _ => ⟨fun i hi => ⟨by omega, by omega, trivial, p_lo (d_liok h (by omega) i) (by omega) (by omega), fun _ => trivial, fun _ => by omega⟩, by omega, by omega, trivial, by omega⟩, fun _ => trivial⟩
  · rw [eF]
    exact fr_up rfl (fr_up rfl (fr_wk i1 rfl rfl))
  · rw [eF, z_up_other (by decide)]
    by_cases e : m = c
    · rw [if_pos e, e, z_up_at]
    · rw [if_neg e, z_up_ne e, fr_c i1 42 rfl rfl]
  · rw [eF]
    by_cases e : m = c
    · rw [if_pos e, e, z_up_at]
    · rw [if_neg e, z_up_ne e, z_up_other (by decide), i2 m]
      by_cases q : (m : Int) < v 32 2 ∧ dv_o v m c = true
      · rw [if_pos q, if_pos ⟨by omega, q.2⟩]
      · rw [if_neg q, if_neg (fun y => q ⟨by omega, y.2⟩)]
theorem sim_rise {w v : z_Wd} (h : r_all w v) {a i c : Nat} (ha : a < 4) (hi : (i : Int) < w 19 a) (hc : w 19 (4 + 7 * a + i) = (c : Int)) : P_K_lift v (c : Int) ∧ P_M_riseNow w (a : Int) (i : Int) ∧ (F_M_riseNow w (a : Int) (i : Int)).1 = (c : Int) ∧ r_all (F_M_riseNow w (a : Int) (i : Int)).2 (F_K_lift v (c : Int)) := by
  obtain ⟨h1, h2, h3, h4, h5, h6, h7, h8, h9, h10⟩ := h
  have hd := g_ok h2 h3
  have e1 := h2.1
  have e2 := h2.2.1
  unfold r_mn at e2
  obtain ⟨s1, s2, s3, s4, s5, -⟩ := id h3.1
  have r0 := (s3 a ha).1
  have q := s4 a i ha hi
  rw [hc, Int.toNat_natCast] at q
  obtain ⟨l1, g, l3, l4⟩ := d_lift hd (c := c) (by omega) (by omega)
  have f : z_fr [19] [] w (F_M_riseNow w (a : Int) (i : Int)).2 := fr_F_M_riseNow
  refine ⟨l1, ?_, ?_, y_ta h1 f g rfl, y_mi h2 f g rfl, ?_, y_ac h4 f g rfl, y_im h5 f g rfl, y_la h6 f g rfl, y_cl h7 f g rfl, y_re h8 f g rfl, y_fl h9 f g rfl, y_rd h10 f g rfl⟩
  · unfold P_M_riseNow
    rw [Int.toNat_natCast]
    omega
  · unfold F_M_riseNow
    simp only [m_ix]
    exact hc
  · have eN : ∀ k, (F_M_riseNow w (a : Int) (i : Int)).2 19 k = if k = a then w 19 a - 1 else if 4 + 7 * a + i ≤ k ∧ (k : Int) < 4 + 7 * a + w 19 a - 1 then w 19 (k + 1) else w 19 k := by
      intro k
      unfold F_M_riseNow
      simp only [m_ix, Int.toNat_natCast]
      rw [show (4 + 7 * (a : Int) + (i : Int) + 1).toNat = 4 + 7 * a + i + 1 by omega]
      by_cases c1 : k = a
      · rw [if_pos c1, c1, z_up_at]
      · rw [if_neg c1, z_up_ne c1]
        by_cases c2 : 4 + 7 * a + i ≤ k ∧ (k : Int) < 4 + 7 * a + w 19 a - 1
        · rw [if_pos c2, cp_in (by omega)]
          congr 1
          omega
        · rw [if_neg c2, cp_no (by omega)]
    unfold r_no
    rw [fr_f f 0 28 rfl rfl, fr_f f 0 29 rfl rfl, fr_c g 44 rfl rfl, fr_c g 45 rfl rfl, fr_c g 46 rfl rfl, fr_f g 41 6 rfl rfl, fr_f g 41 7 rfl rfl, fr_f g 41 8 rfl rfl]
    refine ⟨st_rise h3.1 (by omega) (by omega) ha hi hc l3 (fun m hm => ?_) eN, lg_n h3.2 (fun k hk _ => ?_)⟩
    · rw [l4 m, e1.2.1]
      by_cases e : m = c
      · rw [if_pos e, if_pos e]
      · rw [if_neg e, if_neg e]
        have eo : (dv_o v m c = true) ↔ (v 42 m = (a : Int) ∧ (i : Int) < v 43 m) := by
          unfold dv_o
          rw [q.2.1, q.2.2]
          simp only [Bool.and_eq_true, decide_eq_true_eq, bne_iff_ne, beq_iff_eq]
          omega
        by_cases z : (m : Int) < w 0 29 ∧ v 42 m = (a : Int) ∧ (i : Int) < v 43 m
        · rw [if_pos z, if_pos ⟨z.1, eo.mpr z.2⟩]
        · rw [if_neg z, if_neg (fun y => z ⟨y.1, eo.mp y.2⟩)]
    · rw [eN, if_neg (by omega), if_neg (by omega)]
theorem d_free {v : z_Wd} (h : d_ok v) : P_K_lift v (-1) ∧ F_K_lift v (-1) = v := by
  have z : ¬ F_K_isFree v (-1) = 0 := by
    unfold F_K_isFree F_K_wellOf
    simp only [h_hn]
    rw [if_pos (show (-1 : Int) < 0 ∨ v 32 2 ≤ -1 by omega), if_pos rfl]
    decide
  unfold P_K_lift F_K_lift
  rw [if_neg z]
  exact ⟨⟨p_fr h (by omega), fun y => absurd y z, fun _ => trivial⟩, rfl⟩
theorem sim_scr {w v : z_Wd} (h : r_all w v) {a : Nat} {d : Int} (ha : a < 4) (hd : -2147483648 ≤ d ∧ d < 2147483648) : P_K_scratchUp v (a : Int) d ∧ P_M_scratchNow w (a : Int) d ∧ (F_K_scratchUp v (a : Int) d).1 = (F_M_scratchNow w (a : Int) d).1 ∧ r_all (F_M_scratchNow w (a : Int) d).2 (F_K_scratchUp v (a : Int) d).2 := by
  obtain ⟨h1, h2, h3, -⟩ := id h
  have ok := g_ok h2 h3
  have hp := g_pl h2 h3
  have r0 := (h3.1.2.2.1 a ha).1
  have rr := m_rbr (w := w) (a := a) (d := d) r0.2
  have pM : P_M_reachedBy w (a : Int) d := ⟨m_MO h2, m_PO h2 hp, by omega, hd⟩
  unfold P_K_scratchUp P_M_scratchNow F_K_scratchUp F_M_scratchNow
  rw [g_cu h2 h3 ha]
  by_cases c : F_M_reachedBy w (a : Int) d = -1
  · have df := d_free ok
    have pc := p_cuD h2 h3 (a := a) (d := d) ha hd
    rw [if_pos c, if_pos c, df.2]
    exact ⟨⟨p_in ok (by omega), pc, df.1⟩, ⟨pM, by omega, fun _ => trivial, fun z => absurd c z⟩, rfl, h⟩
  · obtain ⟨i, ei, hi, -⟩ := m_rbS c
    have q := (h3.1.2.2.2.1 a i ha hi).1
    obtain ⟨k, hk⟩ := Int.eq_ofNat_of_zero_le q.1
    obtain ⟨t1, t2, t3, t4⟩ := sim_rise h ha hi hk
    have pc := p_cuD h2 h3 (a := a) (d := d) ha hd
    rw [if_neg c, if_neg c, ei, Int.toNat_natCast, hk]
    exact ⟨⟨p_in ok (by omega), pc, t1⟩, ⟨pM, by omega, fun _ => trivial, fun _ => t2⟩, t3.symm, t4⟩
theorem g_inr {w v : z_Wd} (h2 : r_mi w v) (h3 : r_no w v) {a : Int} : -2147483648 ≤ F_K_inside v a ∧ F_K_inside v a < 2147483648 := by
  have hn := h2.2.1.2.1
  rw [d_in (g_ok h2 h3), h2.1.2.1]
  have := bt_7 (p := fun i => v 42 i == a) (n := (w 0 29).toNat) (by omega)
  omega
theorem ok_scratch : S_scratch Rl := by
  intro w a b ha hb hr
  have key : ∀ w v, r_all w v → P_D_scratch v a b ∧ P_M_scratch w a b ∧ (F_D_scratch v a b).1 = (F_M_scratch w a b).1 ∧ r_all (F_M_scratch w a b).2 (F_D_scratch v a b).2 := by
    intro w v h
    obtain ⟨h1, h2, h3, -⟩ := id h
    have hd := g_ok h2 h3
    have e1 := h2.1
    have e2 := h2.2.1
    unfold r_mn at e2
    obtain ⟨kp1, kp2, kp3⟩ := sim_keep h
    by_cases cw : 0 ≤ a ∧ a < w 0 28
    · obtain ⟨n, rfl⟩ := Int.eq_ofNat_of_zero_le cw.1
      obtain ⟨t1, t2, t3, t4⟩ := sim_scr kp3 (a := n) (d := b) (by omega) hb
      have ne := g_ne h2 h3 (a := n) (by omega)
      have r0 := (h3.1.2.2.1 n (by omega)).1
      refine ⟨?_, ?_, ?_⟩
      · unfold P_D_scratch
        exact ⟨⟨ha, fun _ => trivial, fun _ => by omega⟩, fun _ => p_rfD (by omega), fun _ => ⟨hb, fun _ => p_rfD (by omega), fun _ => ⟨fun _ => ⟨p_in hd ha, g_inr h2 h3, fun _ => p_rfD (by omega), fun _ => ⟨kp2, t1⟩⟩, fun _ => p_rfD (by omega)⟩⟩⟩
      · unfold P_M_scratch
        rw [Int.toNat_natCast]
        exact ⟨p_inn ha (by omega) (by omega), fun _ => rf_p (by omega), fun _ => ⟨p_inn hb (by omega) (by omega), fun _ => rf_p (by omega), fun _ => ⟨by omega, by omega, fun _ => rf_p (by omega), fun _ => rf_q (by rw [h_rf0]; exact ⟨kp1, t2⟩)⟩⟩⟩
      · unfold F_D_scratch F_M_scratch
        simp only [h_hw, h_in, ne, Int.toNat_natCast, h_rfD (s := 0) (by omega), h_rfD (s := 1) (by omega), h_rfD (s := 2) (by omega)]
        rw [if_neg (show ¬ ((n : Int) < 0 ∨ v 32 1 ≤ (n : Int)) by omega), if_neg (show ¬ ((n : Int) < 0 ∨ w 0 28 - 1 < (n : Int)) by omega)]
        by_cases c1 : 1 ≤ b ∧ b ≤ 9
        · rw [if_neg (show ¬ b < 1 by omega), if_pos c1.2, if_neg (show ¬ (b < 1 ∨ 9 < b) by omega)]
          by_cases c2 : w 19 n = 0
          · rw [if_pos c2, if_pos c2, rf_n (by decide), h_rf (by decide)]
            exact ⟨rfl, sim_rf h (s := 2) (by omega)⟩
          · rw [if_neg c2, if_neg c2, rf_y, h_rf0]
            exact ⟨t3, t4⟩
        · rw [if_pos (by omega : b < 1 ∨ 9 < b), rf_n (by decide), h_rf (by decide)]
          by_cases c2 : b < 1
          · rw [if_pos c2]
            exact ⟨rfl, sim_rf h (s := 1) (by omega)⟩
          · rw [if_neg c2, if_neg (by omega)]
            exact ⟨rfl, sim_rf h (s := 1) (by omega)⟩
    · have x1 : F_Y_hasWell v a = 0 := by rw [h_hw]; omega
      have x2 : F_M_in w a 0 (w 0 28 - 1) = 0 := by rw [h_in]; omega
      refine ⟨?_, ?_, ?_⟩
      · unfold P_D_scratch
        exact ⟨⟨ha, fun _ => trivial, fun _ => by omega⟩, fun _ => p_rfD (by omega), fun z => absurd x1 z⟩
      · unfold P_M_scratch
        exact ⟨p_inn ha (by omega) (by omega), fun _ => rf_p (by omega), fun z => absurd x2 z⟩
      · unfold F_D_scratch F_M_scratch
        simp only [h_rfD (s := 0) (by omega)]
        rw [if_pos x1, if_pos x2, rf_n (by decide), h_rf (by decide)]
        exact ⟨rfl, sim_rf h (s := 0) (by omega)⟩
  have t := s_two hr (fr_F_D_scratch (a0 := a) (a1 := b)) rfl (fr_F_M_scratch (w := (F_D_scratch w a b).2) (a0 := a) (a1 := b)) rfl
  obtain ⟨k1, k2, k3, k4⟩ := key _ _ t.1
  exact ⟨k1, k2, k3, t.2 k4⟩
/-! blotting and water -/
theorem h_wn {w v : z_Wd} (h2 : r_mi w v) (h3 : r_no w v) {a c : Int} (ha : -2147483648 ≤ a ∧ a < 2147483648) (hc : 0 ≤ c ∧ c ≤ 9) : P_M_whyNot w a c ∧ F_M_whyNot w a c = (if a < 0 ∨ v 32 1 ≤ a then 0 else if F_K_inside v a = 0 then 2 else if v 41 6 ≥ c then -1 else 4) := by
  have e1 := h2.1
  have e2 := h2.2.1
  unfold r_mn at e2
  have e7 := h3.1.2.2.2.2.2.2.1
  unfold P_M_whyNot F_M_whyNot
  simp only [h_in]
  by_cases cw : 0 ≤ a ∧ a < w 0 28
  · obtain ⟨n, rfl⟩ := Int.eq_ofNat_of_zero_le cw.1
    have r0 := (h3.1.2.2.1 n (by omega)).1
    rw [if_neg (show ¬ ((n : Int) < 0 ∨ w 0 28 - 1 < (n : Int)) by omega), if_neg (show ¬ ((n : Int) < 0 ∨ v 32 1 ≤ (n : Int)) by omega), Int.toNat_natCast, e7.1]
    simp only [g_ne h2 h3 (a := n) (by omega)]
    exact ⟨⟨p_inn ha (by omega) (by omega), fun _ => trivial, fun _ => ⟨by omega, by omega, fun _ => trivial, fun _ => ⟨by omega, by omega⟩⟩⟩, trivial⟩
  · rw [if_pos (by omega), if_pos (by omega)]
    exact ⟨⟨p_inn ha (by omega) (by omega), fun _ => trivial, fun z => by omega⟩, rfl⟩
theorem ok_blot : S_blot Rl := by
  intro w a ha hr
  have key : ∀ w v, r_all w v → P_D_blot v a ∧ P_M_blot w a ∧ (F_D_blot v a).1 = (F_M_blot w a).1 ∧ r_all (F_M_blot w a).2 (F_D_blot v a).2 := by
    intro w v h
    obtain ⟨h1, h2, h3, -⟩ := id h
    have hd := g_ok h2 h3
    have e1 := h2.1
    have e2 := h2.2.1
    unfold r_mn at e2
    have e7 := h3.1.2.2.2.2.2.2.1
    obtain ⟨kp1, kp2, kp3⟩ := sim_keep h
    obtain ⟨pw, ew⟩ := h_wn h2 h3 (c := 2) ha (by omega)
    have c36 : F_M_keep w 19 36 = v 41 6 := by rw [fr_f (fr_F_M_keep (w := w)) 19 36 rfl rfl]; exact e7.1
    have c6 : F_H_keep_41 v 41 6 = v 41 6 := fr_f (fr_F_H_keep_41 (w := v)) 41 6 rfl rfl
    have k19 : ∀ k, F_M_keep w 19 k = w 19 k := fun k => by rw [fr_c (fr_F_M_keep (w := w)) 19 rfl rfl]
    have no : F_M_whyNot w a 2 ≠ -1 → 0 ≤ F_M_whyNot w a 2 ∧ F_M_whyNot w a 2 < 5 := by
      rw [ew]
      split
      · omega
      · split
        · omega
        · split <;> omega
    by_cases acc : F_M_whyNot w a 2 = -1
    · have cc : (0 ≤ a ∧ a < w 0 28) ∧ F_K_inside v a ≠ 0 ∧ v 41 6 ≥ 2 := by
        rw [ew] at acc
        split at acc
        · omega
        · split at acc
          · omega
          · split at acc
            · rename_i z1 z2 z3
              exact ⟨by omega, z2, z3⟩
            · omega
      obtain ⟨⟨cw1, cw2⟩, ci, c2⟩ := cc
      obtain ⟨n, rfl⟩ := Int.eq_ofNat_of_zero_le cw1
      have ne := g_ne h2 h3 (a := n) (by omega)
      rw [ne_eq, ne] at ci
      have r0 := (h3.1.2.2.1 n (by omega)).1
      have q2 := sim_coin kp3 (c := v 41 6 - 2) (by omega)
      have u19 : ∀ k, k ≠ 36 → z_up (F_M_keep w) 19 36 (v 41 6 - 2) 19 k = w 19 k := fun k hk => by rw [z_up_ne hk, k19]
      obtain ⟨j, hj⟩ := Int.eq_ofNat_of_zero_le (by omega : 0 ≤ w 19 n - 1)
      have q := h3.1.2.2.2.1 n j (by omega) (by omega)
      obtain ⟨k, hk⟩ := Int.eq_ofNat_of_zero_le q.1.1
      obtain ⟨t1, t2, t3, t4⟩ := sim_rise q2 (a := n) (i := j) (c := k) (by omega) (by rw [u19 _ (by omega)]; omega) (by rw [u19 _ (by omega)]; exact hk)
      have eP : F_K_pay (F_H_keep_41 v) 2 = z_up (F_H_keep_41 v) 41 6 (v 41 6 - 2) := by
        unfold F_K_pay
        rw [c6]
      have eL : F_K_lyingAt (z_up (F_H_keep_41 v) 41 6 (v 41 6 - 2)) (n : Int) (F_J_bitCount_0f7a4 (z_up (F_H_keep_41 v) 41 6 (v 41 6 - 2)) (F_K_inside (z_up (F_H_keep_41 v) 41 6 (v 41 6 - 2)) (n : Int)) - 1) = (k : Int) := by
        rw [g_cnt q2.2.1 q2.2.2.1 (by omega), u19 _ (by omega), hj, g_ly q2.2.1 q2.2.2.1 (by omega), u19 _ (by omega), if_pos (by omega), Int.toNat_natCast, u19 _ (by omega)]
        exact hk
      have eC : F_J_bitCount_0f7a4 (z_up (F_H_keep_41 v) 41 6 (v 41 6 - 2)) (F_K_inside (z_up (F_H_keep_41 v) 41 6 (v 41 6 - 2)) (n : Int)) = w 19 n := by
        rw [g_cnt q2.2.1 q2.2.2.1 (by omega), u19 _ (by omega)]
      have hd2 := g_ok q2.2.1 q2.2.2.1
      refine ⟨?_, ?_, ?_⟩
      · unfold P_D_blot P_K_liftUppermost
        rw [eP, eL, eC]
        exact ⟨⟨ha, fun _ => trivial, fun _ => by omega⟩, fun _ => p_rfD (by omega), fun _ => ⟨p_in hd ha, g_inr h2 h3, fun _ => p_rfD (by omega), fun _ => ⟨by omega, fun _ => ⟨kp2, p_in hd2 ha, p_ly hd2 ha (by omega), t1⟩, fun _ => p_rfD (by omega)⟩⟩⟩
      · unfold P_M_blot
        rw [acc]
        refine ⟨pw, rf_q ?_⟩
        rw [h_rf0, c36, Int.toNat_natCast, u19 _ (by omega), hj]
        exact ⟨kp1, by omega, t2⟩
      · unfold F_D_blot F_M_blot F_K_liftUppermost
        simp only [h_hw, ne]
        rw [acc, rf_y, h_rf0, if_neg (by omega), if_neg ci, if_pos c2, eP, eL]
        simp only [c36, Int.toNat_natCast]
        rw [u19 _ (by omega), hj]
        exact ⟨t3.symm, t4⟩
    · have n5 := no acc
      have eM : F_M_blot w a = (-2, z_up w 20 (F_M_whyNot w a 2).toNat (w 20 (F_M_whyNot w a 2).toNat + 1)) := by
        unfold F_M_blot
        rw [rf_n acc, h_rf acc]
      have pM : P_M_blot w a := ⟨pw, rf_p n5⟩
      have eD : F_D_blot v a = (-2, z_up v 78 (F_M_whyNot w a 2).toNat (v 78 (F_M_whyNot w a 2).toNat + 1)) := by
        rw [ew] at acc ⊢
        unfold F_D_blot
        simp only [h_hw, h_rfD (s := 0) (by omega), h_rfD (s := 2) (by omega), h_rfD (s := 4) (by omega)]
        split
        · rfl
        · rename_i z1
          rw [if_neg z1] at acc
          split
          · rfl
          · rename_i z2
            rw [if_neg z2] at acc
            split
            · rename_i z3
              exact absurd (if_pos z3) acc
            · rfl
      have pD : P_D_blot v a := by
        rw [ew] at acc
        unfold P_D_blot
        simp only [h_hw]
        refine ⟨⟨ha, fun _ => trivial, fun _ => by omega⟩, fun _ => p_rfD (by omega), fun z1 => ⟨p_in hd ha, g_inr h2 h3, fun _ => p_rfD (by omega), fun z2 => ⟨by omega, fun z3 => ?_, fun _ => p_rfD (by omega)⟩⟩⟩
        rw [if_neg z1, if_neg z2, if_pos z3] at acc
        exact absurd rfl acc
      rw [eD, eM]
      exact ⟨pD, pM, rfl, sim_rf h (by omega)⟩
  have t := s_two hr (fr_F_D_blot (a0 := a)) rfl (fr_F_M_blot (w := (F_D_blot w a).2) (a0 := a)) rfl
  obtain ⟨k1, k2, k3, k4⟩ := key _ _ t.1
  exact ⟨k1, k2, k3, t.2 k4⟩
theorem d_la {v : z_Wd} (h : d_ok v) {a : Nat} : ∀ n : Nat, (n : Int) ≤ v 32 2 → z_fr [42, 43] [] v (A_K_liftAll_4 v (a : Int) n).2 ∧ d_ok (A_K_liftAll_4 v (a : Int) n).2 ∧ (A_K_liftAll_4 v (a : Int) n).1 = ((zcnt (fun i => v 42 i == (a : Int)) n : Nat) : Int) ∧ (∀ m, (A_K_liftAll_4 v (a : Int) n).2 42 m = if m < n ∧ v 42 m = (a : Int) then -1 else v 42 m) ∧ ∀ m, (m < n ∧ v 42 m = (a : Int) → (A_K_liftAll_4 v (a : Int) n).2 43 m = 0) ∧ (v 42 m ≠ (a : Int) ∨ v 32 2 ≤ (m : Int) → (A_K_liftAll_4 v (a : Int) n).2 43 m = v 43 m)
  | 0, _ => ⟨fr_rf, h, rfl, fun m => by rw [if_neg (by omega)]; rfl, fun m => ⟨fun z => absurd z.1 (Nat.not_lt_zero m), fun _ => rfl⟩⟩
  | n + 1, hn => by
    obtain ⟨i1, i2, i3, i4, i5⟩ := d_la h (a := a) n (by omega)
    have h7 := h.2.1
    simp only [A_K_liftAll_4]
    generalize A_K_liftAll_4 v (a : Int) n = u at *
    have en := i4 n
    rw [if_neg (by omega)] at en
    rw [Int.toNat_natCast, en]
    by_cases c : v 42 n = (a : Int)
    · rw [if_pos c]
      dsimp only
      have e32 : u.2 32 2 = v 32 2 := fr_f i1 32 2 rfl rfl
      obtain ⟨l1, l2, l3, l4⟩ := d_lift i2 (c := n) (by omega) (by omega)
      have over : ∀ m, dv_o u.2 m n = true → v 42 m = (a : Int) ∧ ¬ m < n ∧ u.2 43 n < u.2 43 m := by
        intro m hm
        unfold dv_o at hm
        simp only [Bool.and_eq_true, decide_eq_true_eq, bne_iff_ne, beq_iff_eq] at hm
        have z := i4 m
        by_cases q : m < n ∧ v 42 m = (a : Int)
        · rw [if_pos q] at z
          omega
        · rw [if_neg q] at z
          refine ⟨by omega, fun y => q ⟨y, by omega⟩, hm.2.2⟩
      refine ⟨fr_tr i1 l2, ?_, ?_, fun m => ?_, fun m => ⟨fun z => ?_, fun z => ?_⟩⟩
      · obtain ⟨k1, k2, k3, k4, k5⟩ := id i2
        unfold d_ok
        rw [fr_c l2 31 rfl rfl, fr_c l2 32 rfl rfl]
        refine ⟨k1, k2, k3, k4, fun m hm => ?_⟩
        have q := k5 m hm
        have qn := k5 n (by omega)
        rw [l3, l4]
        by_cases e : m = n
        · rw [if_pos e, if_pos e]
          omega
        · rw [if_neg e, if_neg e]
          refine ⟨q.1, ?_⟩
          split
          · rename_i y
            have := over m y.2
            omega
          · exact q.2
      · simp only [zcnt]
        rw [i3, if_pos (by simpa using c)]
        omega
      · rw [l3]
        by_cases e : m = n
        · rw [if_pos e, if_pos ⟨by omega, by rw [e]; exact c⟩]
        · rw [if_neg e, i4 m]
          by_cases q : m < n ∧ v 42 m = (a : Int)
          · rw [if_pos q, if_pos ⟨by omega, q.2⟩]
          · rw [if_neg q, if_neg (fun y => q ⟨by omega, y.2⟩)]
      · rw [l4]
        by_cases e : m = n
        · rw [if_pos e]
        · rw [if_neg e, if_neg (fun y => (over m y.2).2.1 (by omega))]
          exact (i5 m).1 ⟨by omega, z.2⟩
      · rw [l4, if_neg (fun e => ?_), if_neg (fun y => ?_)]
        · exact (i5 m).2 z
        · have := over m y.2
          rcases z with z | z
          · exact z this.1
          · omega
        · rw [e] at z
          rcases z with z | z
          · exact z c
          · omega
    · rw [if_neg c]
      refine ⟨i1, i2, ?_, fun m => ?_, fun m => ⟨fun z => ?_, fun z => (i5 m).2 z⟩⟩
      · simp only [zcnt]
        rw [i3, if_neg (by simpa using c)]
        rfl
      · rw [i4 m]
        by_cases q : m < n ∧ v 42 m = (a : Int)
        · rw [if_pos q, if_pos ⟨by omega, q.2⟩]
        · rw [if_neg q, if_neg (fun y => ?_)]
          by_cases e : m = n
          · rw [e] at y
            exact c y.2
          · exact q ⟨by omega, y.2⟩
      · by_cases e : m = n
        · rw [e] at z
          exact absurd z.2 c
        · exact (i5 m).1 ⟨by omega, z.2⟩
theorem sim_wat {w v : z_Wd} (h : r_all w v) {a : Nat} (ha : a < 4) : P_K_liftAll v (a : Int) ∧ (F_K_liftAll v (a : Int)).1 = w 19 a ∧ r_all (z_up w 19 a 0) (F_K_liftAll v (a : Int)).2 := by
  obtain ⟨h1, h2, h3, h4, h5, h6, h7, h8, h9, h10⟩ := id h
  have hd := g_ok h2 h3
  have e1 := h2.1
  have e2 := h2.2.1
  unfold r_mn at e2
  have hv := hd.2.1
  obtain ⟨g, i2, i3, i4, i5⟩ := d_la hd (a := a) (v 32 2).toNat (by omega)
  have f : z_fr [19] [] w (z_up w 19 a 0) := fr_up rfl fr_rf
  unfold F_K_liftAll
  refine ⟨?_, ?_, y_ta h1 f g rfl, y_mi h2 f g rfl, ?_, y_ac h4 f g rfl, y_im h5 f g rfl, y_la h6 f g rfl, y_cl h7 f g rfl, y_re h8 f g rfl, y_fl h9 f g rfl, y_rd h10 f g rfl⟩
  · unfold P_K_liftAll
    have ew : ∀ n : Nat, (n : Int) ≤ v 32 2 → (A_K_liftAll_4 v (a : Int) n).2 32 2 = v 32 2 := fun n hn => fr_f (d_la hd (a := a) n hn).1 32 2 rfl rfl
    refine ⟨fun i hi => ?_, by omega, by rw [ew _ (by omega)]; omega, ew _ (by omega)⟩
    obtain ⟨-, j2, -, j4, -⟩ := d_la hd (a := a) i (by omega)
    have ji := j4 i
    rw [if_neg (by omega)] at ji
    have q := j2.2.2.2.2 i (by omega)
    rw [ew _ (by omega), Int.toNat_natCast]
    refine ⟨by omega, by omega, rfl, by omega, by omega, by omega, fun z => ?_, fun _ => trivial⟩
    exact (d_lift j2 (c := i) (by rw [ew _ (by omega)]; omega) (by omega)).1
  · simp only
    rw [i3, ← g_cnt h2 h3 ha, d_in hd, bt_cnt (by omega)]
  · unfold r_no
    simp only
    rw [fr_f f 0 28 rfl rfl, fr_f f 0 29 rfl rfl, fr_c g 44 rfl rfl, fr_c g 45 rfl rfl, fr_c g 46 rfl rfl, fr_f g 41 6 rfl rfl, fr_f g 41 7 rfl rfl, fr_f g 41 8 rfl rfl]
    refine ⟨st_wat h3.1 (by omega) (by omega) ha (fun m hm => ?_) (fun m hm => ?_) (fun k => ?_), lg_n h3.2 (fun k hk _ => z_up_ne (by omega))⟩
    · rw [i4 m]
      by_cases q : (m : Int) < w 0 29 ∧ v 42 m = (a : Int)
      · rw [if_pos q, if_pos ⟨by omega, q.2⟩]
      · rw [if_neg q, if_neg (fun y => q ⟨by omega, y.2⟩)]
    · by_cases q : (m : Int) < w 0 29 ∧ v 42 m = (a : Int)
      · rw [if_pos q]
        exact (i5 m).1 ⟨by omega, q.2⟩
      · rw [if_neg q]
        refine (i5 m).2 ?_
        by_cases q2 : v 42 m = (a : Int)
        · exact Or.inr (by omega)
        · exact Or.inl q2
    · by_cases c : k = a
      · rw [if_pos c, c, z_up_at]
      · rw [if_neg c, z_up_ne c]
theorem ok_water : S_water Rl := by
  intro w a ha hr
  have key : ∀ w v, r_all w v → P_D_water v a ∧ P_M_water w a ∧ (F_D_water v a).1 = (F_M_water w a).1 ∧ r_all (F_M_water w a).2 (F_D_water v a).2 := by
    intro w v h
    obtain ⟨h1, h2, h3, -⟩ := id h
    have hd := g_ok h2 h3
    have e1 := h2.1
    have e2 := h2.2.1
    unfold r_mn at e2
    have e7 := h3.1.2.2.2.2.2.2.1
    obtain ⟨kp1, kp2, kp3⟩ := sim_keep h
    obtain ⟨pw, ew⟩ := h_wn h2 h3 (c := 5) ha (by omega)
    have c36 : F_M_keep w 19 36 = v 41 6 := by rw [fr_f (fr_F_M_keep (w := w)) 19 36 rfl rfl]; exact e7.1
    have c6 : F_H_keep_41 v 41 6 = v 41 6 := fr_f (fr_F_H_keep_41 (w := v)) 41 6 rfl rfl
    have k19 : ∀ k, F_M_keep w 19 k = w 19 k := fun k => by rw [fr_c (fr_F_M_keep (w := w)) 19 rfl rfl]
    have no : F_M_whyNot w a 5 ≠ -1 → 0 ≤ F_M_whyNot w a 5 ∧ F_M_whyNot w a 5 < 5 := by
      rw [ew]
      split
      · omega
      · split
        · omega
        · split <;> omega
    by_cases acc : F_M_whyNot w a 5 = -1
    · have cc : (0 ≤ a ∧ a < w 0 28) ∧ F_K_inside v a ≠ 0 ∧ v 41 6 ≥ 5 := by
        rw [ew] at acc
        split at acc
        · omega
        · split at acc
          · omega
          · split at acc
            · rename_i z1 z2 z3
              exact ⟨by omega, z2, z3⟩
            · omega
      obtain ⟨⟨cw1, cw2⟩, ci, c2⟩ := cc
      obtain ⟨n, rfl⟩ := Int.eq_ofNat_of_zero_le cw1
      have q2 := sim_coin kp3 (c := v 41 6 - 5) (by omega)
      have u19 : ∀ k, k ≠ 36 → z_up (F_M_keep w) 19 36 (v 41 6 - 5) 19 k = w 19 k := fun k hk => by rw [z_up_ne hk, k19]
      obtain ⟨t1, t2, t3⟩ := sim_wat q2 (a := n) (by omega)
      have eP : F_K_pay (F_H_keep_41 v) 5 = z_up (F_H_keep_41 v) 41 6 (v 41 6 - 5) := by
        unfold F_K_pay
        rw [c6]
      refine ⟨?_, ?_, ?_⟩
      · unfold P_D_water
        rw [eP]
        exact ⟨⟨ha, fun _ => trivial, fun _ => by omega⟩, fun _ => p_rfD (by omega), fun _ => ⟨p_in hd ha, g_inr h2 h3, fun _ => p_rfD (by omega), fun _ => ⟨by omega, fun _ => ⟨kp2, t1⟩, fun _ => p_rfD (by omega)⟩⟩⟩
      · unfold P_M_water
        rw [acc]
        refine ⟨pw, rf_q ?_⟩
        rw [h_rf0]
        exact ⟨kp1, by omega⟩
      · unfold F_D_water F_M_water
        simp only [h_hw]
        rw [acc, rf_y, h_rf0, if_neg (by omega), if_neg ci, if_pos c2, eP]
        simp only [c36, Int.toNat_natCast]
        rw [t2, u19 _ (by omega), k19]
        exact ⟨rfl, t3⟩
    · have n5 := no acc
      have eM : F_M_water w a = (-1, z_up w 20 (F_M_whyNot w a 5).toNat (w 20 (F_M_whyNot w a 5).toNat + 1)) := by
        unfold F_M_water
        rw [rf_n acc, h_rf acc]
      have pM : P_M_water w a := ⟨pw, rf_p n5⟩
      have eD : F_D_water v a = (-1, z_up v 78 (F_M_whyNot w a 5).toNat (v 78 (F_M_whyNot w a 5).toNat + 1)) := by
        rw [ew] at acc ⊢
        unfold F_D_water
        simp only [h_hw, h_rfD (s := 0) (by omega), h_rfD (s := 2) (by omega), h_rfD (s := 4) (by omega)]
        split
        · rfl
        · rename_i z1
          rw [if_neg z1] at acc
          split
          · rfl
          · rename_i z2
            rw [if_neg z2] at acc
            split
            · rename_i z3
              exact absurd (if_pos z3) acc
            · rfl
      have pD : P_D_water v a := by
        rw [ew] at acc
        unfold P_D_water
        simp only [h_hw]
        refine ⟨⟨ha, fun _ => trivial, fun _ => by omega⟩, fun _ => p_rfD (by omega), fun z1 => ⟨p_in hd ha, g_inr h2 h3, fun _ => p_rfD (by omega), fun z2 => ⟨by omega, fun z3 => ?_, fun _ => p_rfD (by omega)⟩⟩⟩
        rw [if_neg z1, if_neg z2, if_pos z3] at acc
        exact absurd rfl acc
      rw [eD, eM]
      exact ⟨pD, pM, rfl, sim_rf h (by omega)⟩
  have t := s_two hr (fr_F_D_water (a0 := a)) rfl (fr_F_M_water (w := (F_D_water w a).2) (a0 := a)) rfl
  obtain ⟨k1, k2, k3, k4⟩ := key _ _ t.1
  exact ⟨k1, k2, k3, t.2 k4⟩
