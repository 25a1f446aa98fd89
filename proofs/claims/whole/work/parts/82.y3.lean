/-! years -/
theorem kp_hf {w v : z_Wd} (h : r_all w v) : r_hy (F_H_keep_41 v 53 1) (F_H_keep_41 v 41 8) (F_H_keep_41 v 54) 1 = F_H_keep_41 v 41 8 := by
  obtain ⟨-, -, -, h4, -⟩ := h
  obtain ⟨a0, a1, a2, a3⟩ := h4
  obtain ⟨p, hp⟩ := Int.eq_ofNat_of_zero_le a2.1
  obtain ⟨k1, k2, k3, k4⟩ := kH (v := v) (p := p) (by omega) hp (by omega)
  simp only [r_hy]
  rw [k1, Int.toNat_natCast, show ((p + 1) % 40 + 39 - 0) % 40 = p by omega, k3, kH_row (by omega), if_neg (by omega), if_neg (by omega), if_neg (by omega), if_neg (by omega), if_neg (by omega), if_pos rfl, fr_f (fr_F_H_keep_41 (w := v)) 41 8 rfl rfl]
theorem ok_years : S_years Rl := by
  intro w a ha hr
  have key : ∀ w v, r_all w v → P_D_years v a ∧ P_M_years w a ∧ (F_D_years v a).1 = (F_M_years w a).1 ∧ r_all (F_M_years w a).2 (F_D_years v a).2 := by
    intro w v h
    obtain ⟨h1, h2, h3, -⟩ := id h
    have e1 := h2.1
    have e2 := h2.2.1.2.1
    have e9 := h3.1.2.2.2.2.2.2.2.2
    have loop : w 0 29 ≠ 0 → ∀ i : Nat, v 41 8 + i ≤ 999 → r_all (A_M_years_49 w a i) (A_D_years_59 v a i) ∧ A_D_years_59 v a i 41 8 = v 41 8 + i ∧ A_M_years_49 w a i 0 29 = w 0 29 := by
      intro hn i
      induction i with
      | zero =>
        intro _
        simp only [A_M_years_49, A_D_years_59]
        rw [h_rf0]
        exact ⟨h, by omega, rfl⟩
      | succ i ih =>
        intro hi
        obtain ⟨i1, i2, i3⟩ := ih (by omega)
        obtain ⟨k1, k2, k3⟩ := sim_keep i1
        have y8 : F_H_keep_41 (A_D_years_59 v a i) 41 8 = v 41 8 + i := by rw [fr_f (fr_F_H_keep_41) 41 8 rfl rfl, i2]
        have n29 : F_M_keep (A_M_years_49 w a i) 0 29 = w 0 29 := by rw [fr_f (fr_F_M_keep) 0 29 rfl rfl, i3]
        obtain ⟨p1, p2, p3, p4, p5⟩ := sim_py k3 (by rw [n29]; exact hn) (by rw [y8]; omega) (fun _ => kp_hf i1)
        simp only [A_M_years_49, A_D_years_59]
        exact ⟨p4, by rw [p5, y8]; omega, by rw [fr_f (fr_F_M_passYear) 0 29 rfl rfl, n29]⟩
    have step : w 0 29 ≠ 0 → ∀ i : Nat, v 41 8 + i + 1 ≤ 999 → (P_M_keep (A_M_years_49 w a i) ∧ P_M_passYear (F_M_keep (A_M_years_49 w a i))) ∧ (P_H_keep_41 (A_D_years_59 v a i) ∧ P_G_ofDrowned (F_H_keep_41 (A_D_years_59 v a i)) ∧ P_K_passYear (F_G_ofDrowned (F_H_keep_41 (A_D_years_59 v a i))).2 (F_G_ofDrowned (F_H_keep_41 (A_D_years_59 v a i))).1) := by
      intro hn i hi
      obtain ⟨i1, i2, i3⟩ := loop hn i (by omega)
      obtain ⟨k1, k2, k3⟩ := sim_keep i1
      have y8 : F_H_keep_41 (A_D_years_59 v a i) 41 8 = v 41 8 + i := by rw [fr_f (fr_F_H_keep_41) 41 8 rfl rfl, i2]
      have n29 : F_M_keep (A_M_years_49 w a i) 0 29 = w 0 29 := by rw [fr_f (fr_F_M_keep) 0 29 rfl rfl, i3]
      obtain ⟨p1, p2, p3, p4, p5⟩ := sim_py k3 (by rw [n29]; exact hn) (by rw [y8]; omega) (fun _ => kp_hf i1)
      exact ⟨⟨k1, p3⟩, k2, p1, p2⟩
    have aY : F_M_areYears w a = 0 ↔ (a < 1 ∨ 60 < a) ∨ w 19 38 + a > 999 := by
      unfold F_M_areYears
      simp only [h_in]
      split
      · simp [*]
      · split
        · rename_i z1 z2
          exact ⟨fun _ => Or.inr z2, fun _ => rfl⟩
        · rename_i z1 z2
          exact ⟨fun z => absurd z (by decide), fun z => by omega⟩
    refine ⟨?_, ?_, ?_⟩
    · unfold P_D_years P_Y_stands
      simp only [h_st]
      exact ⟨by omega, fun _ => p_rfD (by omega), fun c0 => ⟨ha, fun _ => p_rfD (by omega), fun c1 => ⟨fun c2 => ⟨by omega, fun c3 => ⟨fun i hi => ⟨by omega, (step (by omega) i (by omega)).2⟩, by omega⟩, fun _ => p_rfD (by omega)⟩, fun _ => p_rfD (by omega)⟩⟩⟩
    · unfold P_M_years P_M_areYears
      simp only [h_in, aY]
      exact ⟨by omega, fun _ => rf_p (by omega), fun c0 => ⟨p_inn ha (by omega) (by omega), fun _ => rf_p (by omega), fun c1 => ⟨⟨p_inn ha (by omega) (by omega), fun _ => trivial, fun _ => by omega⟩, fun _ => rf_p (by omega), fun c2 => rf_q ⟨fun i hi => ⟨by omega, ha, (step c0 i (by omega)).1⟩, by omega, ha⟩⟩⟩⟩
    · unfold F_D_years F_M_years
      simp only [h_st, h_in, aY, h_rfD (s := 0) (by omega), h_rfD (s := 1) (by omega), h_rfD (s := 4) (by omega)]
      by_cases c0 : w 0 29 = 0
      · rw [if_pos (by omega), if_pos c0, rf_n (by decide), h_rf (by decide)]
        exact ⟨rfl, sim_rf h (s := 0) (by omega)⟩
      · rw [if_neg (show ¬ v 32 2 ≤ 0 by omega), if_neg c0]
        by_cases c1 : 1 ≤ a ∧ a ≤ 60
        · rw [if_neg (show ¬ a < 1 by omega), if_pos c1.2, if_neg (show ¬ (a < 1 ∨ 60 < a) by omega)]
          by_cases c2 : v 41 8 + a ≤ 999
          · rw [if_pos c2, if_neg (show ¬ ((a < 1 ∨ 60 < a) ∨ w 19 38 + a > 999) by omega), rf_y]
            obtain ⟨i1, i2, i3⟩ := loop c0 a.toNat (by omega)
            have e := i1.2.2.1.1.2.2.2.2.2.2.2.2.1
            exact ⟨e.symm, i1⟩
          · rw [if_neg c2, if_pos (show (a < 1 ∨ 60 < a) ∨ w 19 38 + a > 999 by omega), rf_n (by decide), h_rf (by decide)]
            exact ⟨rfl, sim_rf h (s := 4) (by omega)⟩
        · rw [if_pos (show a < 1 ∨ 60 < a by omega), rf_n (by decide), h_rf (by decide)]
          by_cases c2 : a < 1
          · rw [if_pos c2]
            exact ⟨rfl, sim_rf h (s := 1) (by omega)⟩
          · rw [if_neg c2, if_neg (show ¬ a ≤ 60 by omega)]
            exact ⟨rfl, sim_rf h (s := 1) (by omega)⟩
  have t := s_two hr (fr_F_D_years (a0 := a)) rfl (fr_F_M_years (w := (F_D_years w a).2) (a0 := a)) rfl
  obtain ⟨k1, k2, k3, k4⟩ := key _ _ t.1
  exact ⟨k1, k2, k3, t.2 k4⟩
theorem ok_quiet : S_quiet Rl := by
  intro w a ha hr
  have key : ∀ w v, r_all w v → P_D_quiet v a ∧ P_M_quiet w a ∧ (F_D_quiet v a).1 = (F_M_quiet w a).1 ∧ r_all (F_M_quiet w a).2 (F_D_quiet v a).2 := by
    intro w v h
    obtain ⟨h1, h2, h3, -⟩ := id h
    have e1 := h2.1
    have e2 := h2.2.1.2.1
    have e8 := h3.1.2.2.2.2.2.2.2.1
    obtain ⟨g1, g2, g3, g4, g5⟩ := sim_md h
    have u37 : (F_M_missedAll w).2 19 37 = v 41 7 := by rw [fr_f (fr_F_M_missedAll (w := w)) 19 37 rfl rfl]; exact e8.1
    have mr : ∀ i : Nat, i < 1000 → 0 ≤ (i : Int) * (F_M_missedAll w).1 ∧ (i : Int) * (F_M_missedAll w).1 ≤ 209790 := fun i hi => by
      have q1 := Int.mul_nonneg (show (0 : Int) ≤ (i : Int) by omega) g4.1
      have q2 := Int.mul_le_mul (show (i : Int) ≤ 999 by omega) g4.2 g4.1 (by omega)
      omega
    refine ⟨?_, ?_, ?_⟩
    · unfold P_D_quiet P_Y_stands P_G_yearsUntil
      simp only [h_st]
      rw [g3]
      refine ⟨by omega, fun _ => trivial, fun _ => ⟨ha, fun _ => trivial, fun _ => ⟨fun _ => ⟨g1, by omega, fun c => ⟨by omega, fun c2 => ⟨by omega, by omega, ?_⟩, fun _ => trivial⟩, fun _ => trivial⟩, fun _ => trivial⟩⟩⟩
      rw [Int.tdiv_eq_ediv_of_nonneg (by omega)]
      have q1 := Int.ediv_le_self (b := (F_M_missedAll w).1) (show 0 ≤ a - v 41 7 + (F_M_missedAll w).1 - 1 by omega)
      have q2 := Int.ediv_nonneg (show 0 ≤ a - v 41 7 + (F_M_missedAll w).1 - 1 by omega) (show 0 ≤ (F_M_missedAll w).1 by omega)
      omega
    · unfold P_M_quiet
      rw [u37]
      refine ⟨by omega, fun _ => trivial, fun _ => ⟨p_inn ha (by omega) (by omega), fun _ => trivial, fun _ => ⟨g2, fun i hi _ => ⟨by omega, ?_, ha⟩, trivial⟩⟩⟩
      have := mr i hi
      omega
    · unfold F_D_quiet F_M_quiet F_G_yearsUntil
      simp only [h_st, h_in]
      by_cases c0 : w 0 29 = 0
      · rw [if_pos (by omega), if_pos c0]
        exact ⟨rfl, h⟩
      · rw [if_neg (show ¬ v 32 2 ≤ 0 by omega), if_neg c0]
        by_cases c1 : 1 ≤ a ∧ a ≤ 9999
        · rw [if_neg (show ¬ a < 1 by omega), if_pos c1.2, if_neg (show ¬ (a < 1 ∨ 9999 < a) by omega), g3]
          have eE : ∀ i : Nat, E_M_quiet_27 w a i = true ↔ a ≤ v 41 7 + (i : Int) * (F_M_missedAll w).1 := fun i => by
            unfold E_M_quiet_27
            rw [u37]
            split
            · rename_i z
              constructor
              · intro y
                cases y
              · intro y
                omega
            · rename_i z
              exact ⟨fun _ => by omega, fun _ => rfl⟩
          have yes : ∀ k : Nat, k < 1000 → a ≤ v 41 7 + (k : Int) * (F_M_missedAll w).1 → (∀ j : Nat, j < k → v 41 7 + (j : Int) * (F_M_missedAll w).1 < a) → (if zfind (E_M_quiet_27 w a) 1000 = -1 then ((-1), (F_M_missedAll w).2) else R_M_quiet_27 w a (zfind (E_M_quiet_27 w a) 1000).toNat) = ((k : Int), (F_M_missedAll w).2) := by
            intro k hk h1 h2
            rw [zfind_least (i := k) hk ((eE k).mpr h1) (fun j hj => by
              cases q : E_M_quiet_27 w a j with
              | false => rfl
              | true =>
                have := (eE j).mp q
                have := h2 j hj
                omega), if_neg (by omega), Int.toNat_natCast]
            unfold R_M_quiet_27
            rw [u37, if_neg (by omega)]
          have no : (∀ j : Nat, j < 1000 → v 41 7 + (j : Int) * (F_M_missedAll w).1 < a) → (if zfind (E_M_quiet_27 w a) 1000 = -1 then ((-1), (F_M_missedAll w).2) else R_M_quiet_27 w a (zfind (E_M_quiet_27 w a) 1000).toNat) = (-1, (F_M_missedAll w).2) := by
            intro h2
            rw [fi_no _ (fun j hj => by
              cases q : E_M_quiet_27 w a j with
              | false => rfl
              | true =>
                have := (eE j).mp q
                have := h2 j hj
                omega), if_pos rfl]
          by_cases c2 : a - v 41 7 > 0
          · rw [if_pos c2]
            by_cases c3 : (F_M_missedAll w).1 > 0
            · rw [if_pos c3, Int.tdiv_eq_ediv_of_nonneg (by omega)]
              have d1 := Int.mul_ediv_add_emod (a - v 41 7 + (F_M_missedAll w).1 - 1) (F_M_missedAll w).1
              have d2 := Int.emod_nonneg (a - v 41 7 + (F_M_missedAll w).1 - 1) (show (F_M_missedAll w).1 ≠ 0 by omega)
              have d3 := Int.emod_lt_of_pos (a - v 41 7 + (F_M_missedAll w).1 - 1) c3
              have d4 := Int.ediv_nonneg (show 0 ≤ a - v 41 7 + (F_M_missedAll w).1 - 1 by omega) (show 0 ≤ (F_M_missedAll w).1 by omega)
              generalize (a - v 41 7 + (F_M_missedAll w).1 - 1) / (F_M_missedAll w).1 = q at *
              generalize (a - v 41 7 + (F_M_missedAll w).1 - 1) % (F_M_missedAll w).1 = r at *
              rw [Int.mul_comm] at d1
              have lt : ∀ j : Nat, (j : Int) < q → v 41 7 + (j : Int) * (F_M_missedAll w).1 < a := fun j hj => by
                have m1 := Int.mul_le_mul_of_nonneg_right (show (j : Int) + 1 ≤ q by omega) (show 0 ≤ (F_M_missedAll w).1 by omega)
                rw [Int.add_mul, Int.one_mul] at m1
                omega
              by_cases c4 : q > 999
              · rw [if_pos c4, no (fun j hj => lt j (by omega))]
                exact ⟨rfl, g5⟩
              · obtain ⟨k, rfl⟩ := Int.eq_ofNat_of_zero_le d4
                rw [if_neg c4, yes k (by omega) (by omega) (fun j hj => lt j (by omega))]
                exact ⟨rfl, g5⟩
            · have z0 : (F_M_missedAll w).1 = 0 := by omega
              rw [if_neg c3, no (fun j hj => by rw [z0, Int.mul_zero]; omega)]
              exact ⟨rfl, g5⟩
          · rw [if_neg c2, yes 0 (by omega) (by simp; omega) (fun j hj => absurd hj (Nat.not_lt_zero j))]
            exact ⟨rfl, g5⟩
        · rw [if_pos (show a < 1 ∨ 9999 < a by omega)]
          by_cases c2 : a < 1
          · rw [if_pos c2]
            exact ⟨rfl, h⟩
          · rw [if_neg c2, if_neg (show ¬ a ≤ 9999 by omega)]
            exact ⟨rfl, h⟩
  have t := s_two hr (fr_F_D_quiet (a0 := a)) rfl (fr_F_M_quiet (w := (F_D_quiet w a).2) (a0 := a)) rfl
  obtain ⟨k1, k2, k3, k4⟩ := key _ _ t.1
  exact ⟨k1, k2, k3, t.2 k4⟩
/-! one is missed -/
theorem sim_mi {w v : z_Wd} (h2 : r_mi w v) (h3 : r_no w v) (h6 : r_la w v) {n : Nat} (hn : (n : Int) < w 0 29) : P_G_missed v (n : Int) ∧ P_M_missedOf w (n : Int) ∧ (F_G_missed v (n : Int)).1 = (F_M_missedOf w (n : Int)).1 ∧ (0 ≤ (F_M_missedOf w (n : Int)).1 ∧ (F_M_missedOf w (n : Int)).1 ≤ 30) := by
  have hd := g_ok h2 h3
  have hp := g_pl h2 h3
  have e1 := h2.1
  have e2 := h2.2.1
  unfold r_mn at e2
  have e9 := h3.1.2.2.2.2.2.2.2.2
  have hT : g_T v n = true ∨ v 42 n = -1 := by
    unfold g_T
    by_cases c : v 42 n = -1
    · exact Or.inr c
    · exact Or.inl (bne_iff_ne.mpr c)
  obtain ⟨m1, m2⟩ := M_mi h2 h6 hd hp e9.2 e9.1 hn hT
  have rk := m_knr h2 (n := (n : Int)) (D := fun i => g_T v i && v 42 i != -1)
  have rb := m_abr h2 hd (n := n) (T := g_T v)
  have rn := hp.1 n hn
  have eI : F_K_inside v (-1) = ((zbits (fun i => v 42 i == -1) (w 0 29).toNat : Nat) : Int) := by rw [d_in hd, e1.2.1]
  have ekn : F_J_bitCount_0f7a4 v (zz_and (F_Y_knownBy v (n : Int)) (F_K_inside v (-1))) = m_kn w (n : Int) (fun i => g_T v i && v 42 i != -1) := by
    rw [eI]
    refine g_kno (v := v) h2 h2 (fun i _ => ?_)
    unfold g_T
    by_cases z : v 42 i = -1
    · simp [z]
    · have z2 : (v 42 i == -1) = false := beq_eq_false_iff_ne.mpr z
      simp [z2, bne]
  have eab : F_K_above v (n : Int) (zz_and ((zz_shl 1 (v 32 2)) - 1) (zz_xor (F_K_inside v (-1)) (-1))) = m_ab v n (g_T v) (w 0 29) := by
    rw [d_dr hd]
    have := d_ab hd (g_T v) n
    rw [e1.2.1] at this ⊢
    exact this
  have fr := d_fr hd (n := n) (by omega)
  have pab : P_K_above v (n : Int) (zz_and ((zz_shl 1 (v 32 2)) - 1) (zz_xor (F_K_inside v (-1)) (-1))) := p_ab hd (by omega)
  have rr := m_MSr h2 hn (b := m_ab v n (g_T v) (w 0 29)) (a := if v 42 n = -1 then w 0 28 else v 42 n) rk
  rw [← m1] at rr
  unfold P_G_missed F_G_missed
  rw [eab]
  by_cases c : v 42 n = -1
  · rw [if_pos c] at m1
    have g := G_mi h2 h6 hd e9.2 hn ekn rk rb (a := v 32 1) (by omega)
    have z : ¬ F_K_isFree v (n : Int) = 0 := by rw [fr.2]; omega
    rw [if_neg z]
    rw [e1.1] at g ⊢
    exact ⟨⟨p_fr hd (by omega), fun y => absurd y z, fun _ => ⟨p_in hd (by omega), p_ab hd (by omega), g.2⟩⟩, m2, by rw [m1]; exact g.1, rr⟩
  · rw [if_neg c] at m1
    have g := G_mi h2 h6 hd e9.2 hn ekn rk rb (a := v 42 n) (by omega)
    have z : F_K_isFree v (n : Int) = 0 := by rw [fr.2]; exact c
    rw [if_pos z, fr.1]
    exact ⟨⟨p_fr hd (by omega), fun _ => ⟨(p_fr hd (by omega)).1, p_in hd (by omega), p_ab hd (by omega), g.2⟩, fun y => absurd z y⟩, m2, by rw [m1]; exact g.1, rr⟩
theorem ok_name : S_name Rl := by
  intro w a b ha hb hr
  obtain ⟨h1, h2, h3, h4, h5, h6, h7, h8, h9, h10⟩ := id hr
  have hd := g_ok h2 h3
  have e1 := h2.1
  have e2 := h2.2.1
  unfold r_mn at e2
  have up0 : ∀ (u : z_Wd) (x : Int), Rl u → Rl (z_up u 0 0 x) := fun u x hu => rl_fr hu (fr_uf rfl fr_rf)
  have up26 : ∀ (u : z_Wd) (x : Int), Rl u → Rl (z_up u 26 0 x) := fun u x hu => rl_fr hu (fr_up rfl fr_rf)
  by_cases tt : T_D_name w a b
  · have tt' := tt
    unfold T_D_name at tt'
    rw [h_hn] at tt'
    refine ⟨?_, fun z => absurd tt z, fun _ => ?_, fun z => absurd tt z⟩
    · unfold P_D_name
      simp only [h_hn]
      refine ⟨⟨ha, fun _ => trivial, fun _ => by omega⟩, hb, fun c => ?_⟩
      exact ⟨fun z => by omega, fun z => by omega, fun z => by omega, fun z => by omega, fun z => by omega, fun z => by omega⟩
    · have eM : F_M_name w a b = (0, z_up w 0 0 1) := by
        unfold F_M_name
        simp only [h_in]
        by_cases c : a < 0 ∨ w 0 29 - 1 < a
        · rw [if_pos c]
        · rw [if_neg c, if_pos (by omega)]
      rw [eM]
      refine ⟨?_, (show z_up w 0 0 1 0 0 = 1 from z_up_at), up0 w 1 hr⟩
      unfold P_M_name
      simp only [h_in]
      exact ⟨p_inn ha (by omega) (by omega), fun _ => trivial, fun c => ⟨p_inn hb (by omega) (by omega), fun _ => trivial, fun c2 => by omega⟩⟩
  · have tt' := tt
    unfold T_D_name at tt'
    rw [h_hn] at tt'
    obtain ⟨n, rfl⟩ := Int.eq_ofNat_of_zero_le (by omega : 0 ≤ a)
    have hn : (n : Int) < w 0 29 := by omega
    have q := h2.2.2.2.2.1 n hn
    have v2 := d_v2 (v := w) (n := n) (by omega)
    obtain ⟨s1, s2, s3, s4⟩ := sim_mi h2 h3 h6 hn
    have fr := d_fr hd (n := n) (by omega)
    have r42 := (h3.1.1 n (by omega)).1
    have rab : 0 ≤ F_K_above w (n : Int) (F_K_drowned w) ∧ F_K_above w (n : Int) (F_K_drowned w) ≤ 68607 := by
      unfold F_K_drowned
      rw [d_dr hd]
      exact d_abr hd _ n
    have pD : P_D_name w (n : Int) b := by
      unfold P_D_name
      simp only [h_hn]
      have p22 := d_rv hd (k := 2) (a := (n : Int)) (j := 2) (by omega) (by omega)
      exact ⟨⟨ha, fun _ => trivial, fun _ => by omega⟩, hb, fun _ => ⟨fun _ => d_pv (by omega) ha (by omega), fun _ => d_pv (by omega) ha (by omega), fun _ => ⟨d_pv (by omega) ha (by omega), by omega⟩, fun _ => (p_fr hd ha).1, fun _ => ⟨p_in hd (by omega), p_ab hd (by omega)⟩, fun _ => s1⟩⟩
    have fD : z_fr [57, 60, 63, 66, 69] [(58, 3), (61, 3), (64, 3), (67, 3)] w (F_D_name w (n : Int) b).2 := by
      unfold F_D_name
      split
      · exact fr_rf
      · split
        · exact fr_rf
        · split
          · exact fr_rf
          · split
            · exact fr_rf
            · split
              · exact fr_rf
              · exact fr_F_G_missed
    have hrD : Rl (F_D_name w (n : Int) b).2 := rl_fr hr (fr_wk fD rfl rfl)
    have ran : -2147483648 ≤ (F_D_name w (n : Int) b).1 ∧ (F_D_name w (n : Int) b).1 < 2147483648 := by
      unfold F_D_name F_Y_syllables F_Y_knows
      have p20 := d_rv hd (k := 2) (a := (n : Int)) (j := 0) (by omega) (by omega)
      have p21 := d_rv hd (k := 2) (a := (n : Int)) (j := 1) (by omega) (by omega)
      split
      · dsimp only; omega
      · split
        · dsimp only; omega
        · split
          · unfold F_Y_isForeign
            dsimp only
            split <;> omega
          · split
            · dsimp only; rw [fr.1]; omega
            · split
              · dsimp only; omega
              · rw [s3]; omega
    refine ⟨pD, fun _ => ran, fun z => absurd z tt, fun _ => ?_⟩
    have hrU := up26 _ (F_D_name w (n : Int) b).1 hrD
    have fU : z_fr [26, 57, 60, 63, 66, 69] [(58, 3), (61, 3), (64, 3), (67, 3)] w (z_up (F_D_name w (n : Int) b).2 26 0 (F_D_name w (n : Int) b).1) := fr_up rfl (fr_wk fD rfl rfl)
    have u26 : z_up (F_D_name w (n : Int) b).2 26 0 (F_D_name w (n : Int) b).1 26 0 = (F_D_name w (n : Int) b).1 := z_up_at
    generalize z_up (F_D_name w (n : Int) b).2 26 0 (F_D_name w (n : Int) b).1 = U at *
    have U29 : U 0 29 = w 0 29 := fr_f fU 0 29 rfl rfl
    have f0 : z_fr [26, 57, 60, 63, 66, 69] [(0, 0), (58, 3), (61, 3), (64, 3), (67, 3)] w (z_up U 0 0 0) := fr_uf rfl (fr_wk fU rfl rfl)
    have V29 : z_up U 0 0 0 0 29 = w 0 29 := fr_f f0 0 29 rfl rfl
    have h20 := y_mi h2 f0 fr_0 rfl
    have h30 := y_no h3 f0 fr_0 rfl
    have h60 := y_la h6 f0 fr_0 rfl
    have hp0 := g_pl h20 h30
    obtain ⟨t1, t2, t3, t4⟩ := sim_mi h20 h30 h60 (n := n) (by rw [V29]; exact hn)
    have hT : g_T w n = true ∨ w 42 n = -1 := by
      unfold g_T
      by_cases c : w 42 n = -1
      · exact Or.inr c
      · exact Or.inl (bne_iff_ne.mpr c)
    obtain ⟨a1, a2⟩ := m_abO h20 hp0 (n := n) (by rw [V29]; exact hn) hT
    have wo := m_wo h20 hp0 (n := n) (by rw [V29]; exact hn)
    have fM : z_fr [9, 10] [(0, 0)] U (F_M_name U (n : Int) b).2 := fr_F_M_name
    have M00 : (F_M_name U (n : Int) b).2 0 0 = 0 := by
      unfold F_M_name
      simp only [h_in]
      rw [if_neg (by omega), if_neg (by omega)]
      split
      · exact (z_up_at : z_up U 0 0 0 0 0 = 0)
      · split
        · exact (z_up_at : z_up U 0 0 0 0 0 = 0)
        · split
          · dsimp only
            rw [fr_f (fr_F_M_missedOf (w := z_up U 0 0 0)) 0 0 rfl rfl]
            exact (z_up_at : z_up U 0 0 0 0 0 = 0)
          · exact (z_up_at : z_up U 0 0 0 0 0 = 0)
    refine ⟨?_, M00, ?_, ?_, ?_⟩
    · unfold P_M_name
      simp only [h_in]
      exact ⟨p_inn ha (by omega) (by omega), fun _ => trivial, fun _ => ⟨p_inn hb (by omega) (by omega), fun _ => trivial, fun _ => ⟨hb, fun _ => p_Mwo h20 hp0 ha, fun _ => ⟨fun _ => a2, fun _ => ⟨fun _ => t2, fun _ => by omega⟩⟩⟩⟩⟩
    · unfold F_M_name F_D_name F_Y_syllables F_Y_knows
      simp only [h_in]
      rw [if_neg (show ¬ ((n : Int) < 0 ∨ U 0 29 - 1 < (n : Int)) by omega), if_neg (show ¬ (b < 0 ∨ 5 < b) by omega)]
      have U17 : U 17 = w 17 := fr_c fU 17 rfl rfl
      rcases (by omega : b = 0 ∨ b = 1 ∨ b = 2 ∨ b = 3 ∨ b = 4 ∨ b = 5) with rfl | rfl | rfl | rfl | rfl | rfl
      · rw [if_neg (by decide), if_neg (by decide), if_neg (by decide), if_pos rfl, v2.1, U17, show (3 * (n : Int) + 0).toNat = 3 * n by omega, q.1.1]
      · rw [if_neg (by decide), if_neg (by decide), if_neg (by decide), if_neg (by decide), if_pos rfl, v2.2.1, U17, show (3 * (n : Int) + 1).toNat = 3 * n + 1 by omega, q.2.1.1]
      · rw [if_neg (by decide), if_neg (by decide), if_neg (by decide), if_neg (by decide), if_neg (by decide), if_pos rfl, U17, show (3 * (n : Int) + 2).toNat = 3 * n + 2 by omega]
        unfold F_Y_isForeign
        dsimp only
        rw [v2.2.2, q.2.2.1]
        rcases q.2.2.2 with z | z <;> rw [z] <;> decide
      · rw [if_pos rfl, if_neg (by decide), if_neg (by decide), if_neg (by decide), if_pos rfl, wo, fr.1]
        dsimp only
        by_cases c : w 42 n = -1
        · split
          · rfl
          · exact c.symm
        · rw [if_pos (by unfold g_T; exact bne_iff_ne.mpr c)]
      · rw [if_neg (by decide), if_pos rfl, if_neg (by decide), if_neg (by decide), if_neg (by decide), if_neg (by decide), if_pos rfl, a1, V29]
        unfold F_K_drowned
        rw [d_dr hd]
        have := d_ab hd (g_T w) n
        rw [e1.2.1] at this ⊢
        exact this.symm
      · rw [if_neg (by decide), if_neg (by decide), if_pos rfl, if_neg (by decide), if_neg (by decide), if_neg (by decide), if_neg (by decide), if_neg (by decide)]
        exact t3.symm
    · rw [fr_c fM 26 rfl rfl]
      exact u26
    · exact rl_fr hrU (fr_wk fM rfl rfl)
