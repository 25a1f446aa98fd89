/-! faction -/
theorem z_p7 {k : Nat} (h : k ≤ 7) : (10 : Int) ^ k ≤ 10000000 := by
  rcases (show k = 0 ∨ k = 1 ∨ k = 2 ∨ k = 3 ∨ k = 4 ∨ k = 5 ∨ k = 6 ∨ k = 7 by omega) with rfl | rfl | rfl | rfl | rfl | rfl | rfl | rfl <;> decide
theorem h_pl {w v : z_Wd} (h : r_all w v) {a : Int} : ∀ i : Nat, (i : Int) ≤ w 0 28 → ∀ j, A_P_place_2 v a i 71 j = if j < i then w 19 (32 + j) - F_M_dropsIn w (j : Int) else v 71 j
  | 0, _, j => by
    rw [if_neg (by omega)]
    rfl
  | i + 1, hi, j => by
    have ih := h_pl h (a := a) i (by omega) j
    have f : z_fr [71] [] v (A_P_place_2 v a i) := fr_A_P_place_2
    have hi2 : r_all w (A_P_place_2 v a i) := rl_fr2 h fr_rf (fr_wk f rfl rfl)
    obtain ⟨r1, r2, -, -⟩ := g_room hi2.2.1 hi2.2.2.1 (a := i) (by omega)
    simp only [A_P_place_2]
    rw [r1, r2, Int.toNat_natCast]
    by_cases c : j = i
    · subst c
      rw [z_up_at, if_pos (by omega)]
    · rw [z_up_ne c, ih]
      by_cases c2 : j < i
      · rw [if_pos c2, if_pos (by omega)]
      · rw [if_neg c2, if_neg (by omega)]
set_option maxHeartbeats 2000000 in
/-- both searches -/
theorem sim_fac {w v : z_Wd} (h : r_all w v) {T : Nat → Bool} {N W : Nat} (eN : w 0 29 = (N : Int)) (eW : w 0 28 = (W : Int)) (hT : ∀ m, m < N → T m = true → v 42 m = -1) : P_P_place v ((zbits T N : Nat) : Int) ∧ P_M_tryFaction 9 (z_up w 0 39 (-1)) 0 0 ((zbits T N : Nat) : Int) 0 0 ∧ (-1 ≤ F_M_tryFaction 9 (z_up w 0 39 (-1)) 0 0 ((zbits T N : Nat) : Int) 0 0 0 39 ∧ F_M_tryFaction 9 (z_up w 0 39 (-1)) 0 0 ((zbits T N : Nat) : Int) 0 0 0 39 < 10000000) ∧ r_all (F_M_tryFaction 9 (z_up w 0 39 (-1)) 0 0 ((zbits T N : Nat) : Int) 0 0) (F_P_place v ((zbits T N : Nat) : Int)).2 ∧ (F_P_place v ((zbits T N : Nat) : Int)).2 70 4 = F_M_tryFaction 9 (z_up w 0 39 (-1)) 0 0 ((zbits T N : Nat) : Int) 0 0 0 39 ∧ (F_M_tryFaction 9 (z_up w 0 39 (-1)) 0 0 ((zbits T N : Nat) : Int) 0 0 0 39 = -1 → (F_P_place v ((zbits T N : Nat) : Int)).1 = 0) ∧ (¬ F_M_tryFaction 9 (z_up w 0 39 (-1)) 0 0 ((zbits T N : Nat) : Int) 0 0 0 39 = -1 → (F_P_place v ((zbits T N : Nat) : Int)).1 = 1 ∧ (F_P_place v ((zbits T N : Nat) : Int)).2 70 3 = F_M_tryFaction 9 (z_up w 0 39 (-1)) 0 0 ((zbits T N : Nat) : Int) 0 0 0 40) := by
  obtain ⟨h1, h2, h3, h4, h5, h6, h7, h8, h9, h10⟩ := id h
  have hd := g_ok h2 h3
  have e1 := h2.1
  have e2 := h2.2.1
  unfold r_mn at e2
  have p7 := z_p7 (k := N) (by omega)
  -- the reference
  have f0 : z_fr [] [(0, 39)] w (z_up w 0 39 (-1)) := fr_uf rfl fr_rf
  have hx : r_all (z_up w 0 39 (-1)) v := rl_fr2 h (fr_wk f0 rfl rfl) fr_rf
  have hco : ∀ m, m < N → (fun m => dv_d v m) m = dv_d v m := fun m _ => rfl
  have hcl : ∀ m i, m < N → i < W → ((fun m i => decide (w 16 (2 * i + 1) = w 17 (3 * m + 2))) m i = true ↔ z_up w 0 39 (-1) 16 (2 * i + 1) = z_up w 0 39 (-1) 17 (3 * m + 2)) := fun m i _ _ => by
    rw [fr_c f0 16 rfl rfl, fr_c f0 17 rfl rfl]
    exact decide_eq_true_iff
  have ed : ∀ a : Nat, F_M_dropsIn (z_up w 0 39 (-1)) (a : Int) = F_M_dropsIn w (a : Int) := fun a => by
    unfold F_M_dropsIn F_M_dropsOf
    rw [fr_c f0 19 rfl rfl, fr_c f0 17 rfl rfl, fr_c f0 15 rfl rfl]
  obtain ⟨o1, o2, o3, o4, o5⟩ := fa_all (W := W) (N := N) (T := T) (co := fun m => dv_d v m) (cl := fun m i => decide (w 16 (2 * i + 1) = w 17 (3 * m + 2))) N 9 (z_up w 0 39 (-1)) v 0 0 0 (fun _ => false) (fun a => w 19 (32 + a) - F_M_dropsIn w (a : Int)) (by omega) hx (by omega) (by rw [fr_f f0 0 29 rfl rfl]; omega) (by rw [fr_f f0 0 28 rfl rfl]; omega) (by omega) (fun m _ => hT m) hco hcl (fun a _ => by rw [ed, fr_c f0 19 rfl rfl]) (by omega) (by rw [z_up_at]; exact ⟨by omega, Or.inl rfl⟩)
  have c0 : ((zbits (fun _ => false) 4 : Nat) : Int) = 0 := rfl
  have c1 : ((0 : Nat) : Int) = 0 := rfl
  rw [z_up_at, z_up_ne (by decide)] at o2
  rw [c0, c1] at o1 o2 o3 o4 o5
  have fM : z_fr [19, 22] [(0, 39), (0, 40)] w (F_M_tryFaction 9 (z_up w 0 39 (-1)) 0 0 ((zbits T N : Nat) : Int) 0 0) := fr_tr (fr_wk f0 rfl rfl) (fr_F_M_tryFaction 9 _ _ _ _ _ _)
  have e19 : F_M_tryFaction 9 (z_up w 0 39 (-1)) 0 0 ((zbits T N : Nat) : Int) 0 0 19 = w 19 := by rw [o3, fr_c f0 19 rfl rfl]
  -- the class
  have fP : z_fr [71] [(70, 3), (70, 4)] v (F_P_place v ((zbits T N : Nat) : Int)).2 := fr_F_P_place
  have fA : ∀ i, z_fr [71] [] v (A_P_place_2 v ((zbits T N : Nat) : Int) i) := fun i => fr_A_P_place_2
  have r71 := h_pl h (a := ((zbits T N : Nat) : Int)) W (by omega)
  have eW2 : (v 32 1).toNat = W := by omega
  unfold P_P_place
  unfold F_P_place at fP ⊢
  rw [eW2] at fP ⊢
  have a31 : A_P_place_2 v ((zbits T N : Nat) : Int) W 31 = v 31 := fr_c (fA W) 31 rfl rfl
  have a32 : A_P_place_2 v ((zbits T N : Nat) : Int) W 32 = v 32 := fr_c (fA W) 32 rfl rfl
  rw [a32] at fP ⊢
  have b31 : z_up (z_up (A_P_place_2 v ((zbits T N : Nat) : Int) W) 70 3 (v 32 1 + 1)) 70 4 (-1) 31 = v 31 := by rw [z_up_other (by decide), z_up_other (by decide), a31]
  have b32 : z_up (z_up (A_P_place_2 v ((zbits T N : Nat) : Int) W) 70 3 (v 32 1 + 1)) 70 4 (-1) 32 = v 32 := by rw [z_up_other (by decide), z_up_other (by decide), a32]
  have b71 : ∀ j, j < W → z_up (z_up (A_P_place_2 v ((zbits T N : Nat) : Int) W) 70 3 (v 32 1 + 1)) 70 4 (-1) 71 j = w 19 (32 + j) - F_M_dropsIn w (j : Int) := fun j hj => by
    rw [z_up_other (by decide), z_up_other (by decide), r71 j, if_pos hj]
  have b704 : z_up (z_up (A_P_place_2 v ((zbits T N : Nat) : Int) W) 70 3 (v 32 1 + 1)) 70 4 (-1) 70 4 = -1 := z_up_at
  have b703 : z_up (z_up (A_P_place_2 v ((zbits T N : Nat) : Int) W) 70 3 (v 32 1 + 1)) 70 4 (-1) 70 3 = v 32 1 + 1 := by rw [z_up_ne (by decide), z_up_at]
  have q := fb_all (W := W) (N := N) (T := T) (co := fun m => dv_d v m) (cl := fun m i => decide (w 16 (2 * i + 1) = w 17 (3 * m + 2))) (by omega) (by omega) N 9 (z_up (z_up (A_P_place_2 v ((zbits T N : Nat) : Int) W) 70 3 (v 32 1 + 1)) 70 4 (-1)) 0 0 (fun _ => false) (fun a => w 19 (32 + a) - F_M_dropsIn w (a : Int)) (-1, w 0 40) (by omega) (by omega) (by rw [b32]; omega) (by rw [b32]; omega) (fun m hm => by
    have er := dv_dr hd (n := m) (by omega)
    rw [x_val b31, x_val b31, (d_v2 (v := v) (n := m) (by omega)).1, d_v00]
    exact ⟨rfl, er.1, er.2⟩) (fun m i hm hi => by
    rw [(x_col b31).1, (x_col b31).2]
    obtain ⟨g1, g2⟩ := g_val h2 (n := m) (a := i) (by omega) (by omega)
    have v1 := d_rv hd (k := 2) (a := (m : Int)) (j := 2) (by omega) (by omega)
    have v2 := d_rv hd (k := 1) (a := (i : Int)) (j := 1) (by omega) (by omega)
    refine ⟨⟨⟨d_pv (by omega) (by omega) (by omega), by omega⟩, ⟨d_pv (by omega) (by omega) (by omega), by omega⟩⟩, ?_⟩
    unfold F_Y_isHisColour
    rw [g1, g2, decide_eq_false_iff_not]
    by_cases c : w 17 (3 * m + 2) = w 16 (2 * i + 1)
    · rw [if_pos c]
      exact ⟨fun z => absurd z (by decide), fun z => absurd c.symm z⟩
    · rw [if_neg c]
      exact ⟨fun _ z => c z.symm, fun _ => rfl⟩) (fun a ha => by
    obtain ⟨-, -, s1, s2⟩ := g_room h2 h3 (a := a) (by omega)
    exact ⟨b71 a ha, by omega, by omega⟩) (fun i hi => by cases hi) (by
    have := fR_7 (N := N) (T := T) N
    omega) ⟨b704.symm, Or.inl ⟨rfl, by rw [b703]; omega⟩⟩ (by
    have := fR_1 (N := N) (T := T) N
    show (-1 : Int) ≤ 0 * fR N T N
    rw [Int.zero_mul]
    decide)
  obtain ⟨q1, q2, q3, q4⟩ := q
  rw [c0, c1] at q1 q2 q4
  rw [← o2] at q2
  obtain ⟨s1, s2⟩ := q2
  dsimp only at s1 s2
  have pA : ∀ i : Nat, i < W → (-2147483648 ≤ (i : Int) ∧ (i : Int) < 2147483648) ∧ (-2147483648 ≤ A_P_place_2 v ((zbits T N : Nat) : Int) i 32 1 ∧ A_P_place_2 v ((zbits T N : Nat) : Int) i 32 1 < 2147483648) ∧ (A_P_place_2 v ((zbits T N : Nat) : Int) i 32 1 = v 32 1) ∧ (P_K_depth (A_P_place_2 v ((zbits T N : Nat) : Int) i) (i : Int) ∧ P_K_inside (A_P_place_2 v ((zbits T N : Nat) : Int) i) (i : Int) ∧ P_Y_dropsOf (A_P_place_2 v ((zbits T N : Nat) : Int) i) (F_K_inside (A_P_place_2 v ((zbits T N : Nat) : Int) i) (i : Int))) ∧ (0 ≤ (i : Int) ∧ (i : Int) < 4) := fun i hi => by
    have e32 := fr_f (fA i) 32 1 rfl rfl
    have hd2 : d_ok (A_P_place_2 v ((zbits T N : Nat) : Int) i) := d_okc hd (fr_c (fA i) 31 rfl rfl) (fr_c (fA i) 32 rfl rfl) (fr_c (fA i) 42 rfl rfl) (fr_c (fA i) 43 rfl rfl)
    exact ⟨by omega, by omega, e32, ⟨⟨⟨by omega, fun _ => trivial, fun _ => by omega⟩, fun _ => trivial, fun _ => by omega⟩, p_in hd2 (by omega), p_do hd2⟩, by omega⟩
  refine ⟨⟨pA, by omega, by omega, rfl, q1, by omega⟩, o1, o5.1, ?_, ?_, fun z => ?_, fun z => ?_⟩
  · exact ⟨y_ta h1 fM fP rfl, y_mi h2 fM fP rfl, x_no h3 (fr_f fM 0 28 rfl rfl) (fr_f fM 0 29 rfl rfl) e19 (fr_c fP 42 rfl rfl) (fr_c fP 43 rfl rfl) (fr_c fP 44 rfl rfl) (fr_f fP 41 6 rfl rfl) (fr_f fP 41 7 rfl rfl) (fr_f fP 41 8 rfl rfl) (fr_c fP 45 rfl rfl) (fr_c fP 46 rfl rfl), y_ac h4 fM fP rfl, y_im h5 fM fP rfl, y_la h6 fM fP rfl, y_cl h7 fM fP rfl, y_re h8 fM fP rfl, y_fl h9 fM fP rfl, y_rd h10 fM fP rfl⟩
  · split
    · exact s1.symm
    · exact s1.symm
  · rw [if_pos (by rw [← s1]; exact z)]
  · rw [if_neg (by rw [← s1]; exact z)]
    exact ⟨rfl, by dsimp only; omega⟩
set_option maxHeartbeats 2000000 in
theorem ok_faction : S_faction Rl := by
  intro w a b ha hb hr
  have key : ∀ w v, r_all w v → P_D_faction v a b ∧ P_M_faction w a b ∧ (F_D_faction v a b).1 = (F_M_faction w a b).1 ∧ r_all (F_M_faction w a b).2 (F_D_faction v a b).2 := by
    intro w v h
    obtain ⟨h1, h2, h3, -⟩ := id h
    have hd := g_ok h2 h3
    have hp := g_pl h2 h3
    have e1 := h2.1
    have e2 := h2.2.1
    unfold r_mn at e2
    obtain ⟨M, hM1, hM2, hM3, hM4⟩ := g_N h2
    obtain ⟨N, eN⟩ := Int.eq_ofNat_of_zero_le e2.2.1.1
    obtain ⟨W, eW⟩ := Int.eq_ofNat_of_zero_le e2.1.1
    by_cases c0 : 1 ≤ a ∧ a < (M : Int)
    · have hN0 : ¬ w 0 29 = 0 := fun z => by
        rw [z] at hM3
        have : zz_shl 1 0 = 1 := by decide
        omega
      have hin : ¬ F_M_in w a 1 (zz_shl 1 (w 0 29) - 1) = 0 := by rw [h_in, hM3]; omega
      have hM5 : (M : Int) = ((2 ^ N : Nat) : Int) := by
        rw [← hM3, eN]
        exact bt_pow (by omega)
      have ea := bt_of (x := a) (n := N) (by omega) (by
        have : ((2 ^ N : Nat) : Int) = (2 : Int) ^ N := by simp
        omega)
      generalize (fun i => a.toNat.testBit i) = T at ea
      have dD := g_dD h2 h3
      have dM := g_dM h2 h3
      rw [eN, Int.toNat_natCast] at dD dM
      unfold P_D_faction P_M_faction F_D_faction F_M_faction
      rw [dD, dM, hM3, hM4] 
      rw [hM3] at hin
      rw [if_neg (show ¬ a ≤ 0 by omega), if_neg (show ¬ a > (M : Int) - 1 by omega), if_neg hN0, if_neg hin]
      have ra : -2147483648 ≤ zz_and a ((zbits (g_T v) N : Nat) : Int) ∧ zz_and a ((zbits (g_T v) N : Nat) : Int) < 2147483648 := by
        rw [ea, bt_and (by omega)]
        have := bt_lt (p := fun i => T i && (decide (i < N) && g_T v i)) (n := N) (by omega)
        omega
      by_cases c1 : zz_and a ((zbits (g_T v) N : Nat) : Int) = 0
      · have hT : ∀ m, m < N → T m = true → v 42 m = -1 := fun m hm ht => by
          rw [ea, bt_and (by omega)] at c1
          have z := bt_nz (n := N) (p := fun i => T i && (decide (i < N) && g_T v i)) (by omega) m hm
          unfold g_T at z
          rw [ht] at z
          by_cases y : v 42 m = -1
          · exact y
          · exfalso
            rw [bne_iff_ne.mpr y] at z
            simp [hm] at z
        obtain ⟨k1, k2, k3, k4, k5, k6, k7⟩ := sim_fac h eN eW hT
        rw [← ea] at k1 k2 k3 k4 k5 k6 k7
        rw [if_pos c1, if_pos c1]
        have rP : -2147483648 ≤ (F_P_place v a).1 ∧ (F_P_place v a).1 < 2147483648 := by
          by_cases y : F_M_tryFaction 9 (z_up w 0 39 (-1)) 0 0 a 0 0 0 39 = -1
          · rw [k6 y]
            exact rg0
          · rw [(k7 y).1]
            exact rg1
        refine ⟨⟨ha, fun _ => trivial, fun _ => ⟨by omega, fun _ => trivial, fun _ => ⟨p_in hd (by omega), ra, fun _ => ⟨k1, rP, fun _ => trivial, fun _ => hb⟩, fun _ => trivial⟩⟩⟩, ⟨by omega, fun _ => trivial, fun _ => ⟨p_inn ha (by omega) (by omega), fun _ => trivial, fun _ => ⟨p_Mdr h2 hp, ra, fun _ => ⟨p_inn hb (by omega) (by omega), fun _ => trivial, fun _ => ⟨k2, by omega, fun _ => trivial, fun _ => hb⟩⟩, fun _ => trivial⟩⟩⟩, ?_⟩
        simp only [h_in]
        by_cases cb : b < 0 ∨ 1 < b
        · rw [if_pos cb]
          have fP : z_fr [71] [(70, 3), (70, 4)] v (F_P_place v a).2 := fr_F_P_place
          have k4' : r_all w (F_P_place v a).2 := rl_fr2 h fr_rf (fr_wk fP rfl rfl)
          by_cases y : (F_P_place v a).1 = 0
          · rw [if_pos y]
            exact ⟨rfl, k4'⟩
          · rw [if_neg y, if_neg (by omega), if_neg (by omega)]
            exact ⟨rfl, k4'⟩
        · rw [if_neg cb]
          by_cases y : F_M_tryFaction 9 (z_up w 0 39 (-1)) 0 0 a 0 0 0 39 = -1
          · rw [if_pos y, if_pos (k6 y)]
            exact ⟨y.symm, k4⟩
          · obtain ⟨k8, k9⟩ := k7 y
            rw [if_neg y, k8, if_neg n10]
            by_cases y0 : b = 0
            · rw [if_pos y0, if_pos y0]
              exact ⟨k5, k4⟩
            · rw [if_neg y0, if_neg y0, if_pos (by omega)]
              exact ⟨k9, k4⟩
      · rw [if_neg c1, if_neg c1]
        exact ⟨⟨ha, fun _ => trivial, fun _ => ⟨by omega, fun _ => trivial, fun _ => ⟨p_in hd (by omega), ra, fun z => absurd z c1, fun _ => trivial⟩⟩⟩, ⟨by omega, fun _ => trivial, fun _ => ⟨p_inn ha (by omega) (by omega), fun _ => trivial, fun _ => ⟨p_Mdr h2 hp, ra, fun z => absurd z c1, fun _ => trivial⟩⟩⟩, rfl, h⟩
    · have eD : F_D_faction v a b = (-1, v) := by
        unfold F_D_faction
        rw [hM4]
        by_cases y : a ≤ 0
        · rw [if_pos y]
        · rw [if_neg y, if_pos (show a > (M : Int) - 1 by omega)]
      have eM : F_M_faction w a b = (-1, w) := by
        unfold F_M_faction
        simp only [h_in]
        rw [hM3]
        by_cases y : w 0 29 = 0
        · rw [if_pos y]
        · rw [if_neg y, if_pos (show a < 1 ∨ (M : Int) - 1 < a by omega)]
      rw [eD, eM]
      unfold P_D_faction P_M_faction
      rw [hM3, hM4]
      exact ⟨⟨ha, fun _ => trivial, fun y => ⟨by omega, fun _ => trivial, fun z => by omega⟩⟩, ⟨by omega, fun _ => trivial, fun y => ⟨p_inn ha (by omega) (by omega), fun _ => trivial, fun z => absurd (by rw [h_in]; omega) z⟩⟩, rfl, h⟩
  have t := s_two hr (fr_F_D_faction (a0 := a) (a1 := b)) rfl (fr_F_M_faction (w := (F_D_faction w a b).2) (a0 := a) (a1 := b)) rfl
  obtain ⟨k1, k2, k3, k4⟩ := key _ _ t.1
  exact ⟨k1, k2, k3, t.2 k4⟩
