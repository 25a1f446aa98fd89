/-! fault and text -/
theorem ok_fault : S_fault Rl := by
  intro w a ha hr
  have key : ∀ w v, r_all w v → P_D_fault v a ∧ P_M_fault w a ∧ (F_D_fault v a).1 = (F_M_fault w a).1 ∧ r_all (F_M_fault w a).2 (F_D_fault v a).2 := by
    intro w v h
    unfold P_D_fault P_M_fault F_D_fault F_M_fault
    by_cases c0 : a = 0
    · obtain ⟨m1, m2, m3, m4⟩ := sim_rm h
      rw [if_pos c0, if_pos c0]
      exact ⟨⟨ha, fun _ => m1, fun z => absurd c0 z⟩, ⟨ha, fun _ => m2, fun z => absurd c0 z⟩, m3.1, m4⟩
    · rw [if_neg c0, if_neg c0]
      by_cases c1 : a = 1
      · obtain ⟨m1, m2, m3, m4, m5, -⟩ := sim_rl h (a0 := 4) (by decide) h.2.2.2.2.2.1.2.1.2
        rw [if_pos c1, if_pos c1]
        exact ⟨⟨ha, fun z => absurd z c0, fun _ => ⟨fun _ => m1, fun z => absurd c1 z⟩⟩, ⟨ha, fun z => absurd z c0, fun _ => ⟨fun _ => m2, fun z => absurd c1 z⟩⟩, m3.symm, m5⟩
      · rw [if_neg c1, if_neg c1]
        exact ⟨⟨ha, fun z => absurd z c0, fun _ => ⟨fun z => absurd z c1, fun _ => trivial⟩⟩, ⟨ha, fun z => absurd z c0, fun _ => ⟨fun z => absurd z c1, fun _ => trivial⟩⟩, rfl, h⟩
  have t := s_two hr (fr_F_D_fault (a0 := a)) rfl (fr_F_M_fault (w := (F_D_fault w a).2) (a0 := a)) rfl
  obtain ⟨k1, k2, k3, k4⟩ := key _ _ t.1
  exact ⟨k1, k2, k3, t.2 k4⟩
/-- a law kept: the draft is copied -/
theorem q_pass {u : z_Wd} {n : Nat} (hn : u 55 4 = (n : Int)) (h4 : n < 4) : P_G_pass_38 u ∧ (F_G_pass_38 u).1 = (n : Int) ∧ z_fr [59, 62, 65, 68] [(58, 2), (61, 2), (64, 2), (67, 2), (55, 4)] u (F_G_pass_38 u).2 ∧ (F_G_pass_38 u).2 55 4 = (n : Int) + 1 ∧ (F_G_pass_38 u).2 (58 + 3 * n) 2 = u 38 2 ∧ (∀ i : Nat, i < 240 → (F_G_pass_38 u).2 (59 + 3 * n) i = u 39 i) ∧ ∀ j : Nat, j < n → (F_G_pass_38 u).2 (59 + 3 * j) = u (59 + 3 * j) ∧ (F_G_pass_38 u).2 (58 + 3 * j) 2 = u (58 + 3 * j) 2 := by
  have p : P_G_pass_38 u := ⟨by omega, fun _ => by omega, fun _ => trivial⟩
  have cz : ∀ (t a : Nat), a ≠ t → z_cpy u 39 0 t 0 240 a = u a := fun t a h => by
    funext b
    exact z_cpy_at (Or.inl h)
  have cy : ∀ (t i : Nat), i < 240 → z_cpy u 39 0 t 0 240 t i = u 39 i := fun t i hi => by
    unfold z_cpy
    rw [if_pos rfl, if_pos (by omega)]
    congr 1
    omega
  refine ⟨p, ?_⟩
  unfold F_G_pass_38
  rcases (show n = 0 ∨ n = 1 ∨ n = 2 ∨ n = 3 by omega) with rfl | rfl | rfl | rfl
  · rw [if_pos (by omega), if_pos (by omega)]
    unfold F_W_copyFrom_58_38
    dsimp only
    rw [z_up_other (show (55 : Nat) ≠ 58 by decide), cz 59 55 (by decide), cz 59 38 (by decide), hn]
    refine ⟨by omega, fr_uf rfl (fr_uf rfl (fr_cp rfl fr_rf)), by rw [z_up_at], ?_, fun i hi => ?_, fun j hj => by omega⟩
    · rw [z_up_other (by decide), z_up_at]
    · rw [z_up_other (by decide), z_up_other (by decide)]
      exact cy 59 i hi
  · rw [if_pos (by omega), if_neg (by omega), if_pos (by omega)]
    unfold F_W_copyFrom_61_38
    dsimp only
    rw [z_up_other (show (55 : Nat) ≠ 61 by decide), cz 62 55 (by decide), cz 62 38 (by decide), hn]
    refine ⟨by omega, fr_uf rfl (fr_uf rfl (fr_cp rfl fr_rf)), by rw [z_up_at], ?_, fun i hi => ?_, fun j hj => ?_⟩
    · rw [z_up_other (by decide), z_up_at]
    · rw [z_up_other (by decide), z_up_other (by decide)]
      exact cy 62 i hi
    · rw [z_up_other (by omega), z_up_other (by omega), z_up_other (by omega), z_up_other (by omega), cz 62 _ (by omega), cz 62 _ (by omega)]
      exact ⟨rfl, rfl⟩
  · rw [if_pos (by omega), if_neg (by omega), if_neg (by omega), if_pos (by omega)]
    unfold F_W_copyFrom_64_38
    dsimp only
    rw [z_up_other (show (55 : Nat) ≠ 64 by decide), cz 65 55 (by decide), cz 65 38 (by decide), hn]
    refine ⟨by omega, fr_uf rfl (fr_uf rfl (fr_cp rfl fr_rf)), by rw [z_up_at], ?_, fun i hi => ?_, fun j hj => ?_⟩
    · rw [z_up_other (by decide), z_up_at]
    · rw [z_up_other (by decide), z_up_other (by decide)]
      exact cy 65 i hi
    · rw [z_up_other (by omega), z_up_other (by omega), z_up_other (by omega), z_up_other (by omega), cz 65 _ (by omega), cz 65 _ (by omega)]
      exact ⟨rfl, rfl⟩
  · rw [if_pos (by omega), if_neg (by omega), if_neg (by omega), if_neg (by omega)]
    unfold F_W_copyFrom_67_38
    dsimp only
    rw [z_up_other (show (55 : Nat) ≠ 67 by decide), cz 68 55 (by decide), cz 68 38 (by decide), hn]
    refine ⟨by omega, fr_uf rfl (fr_uf rfl (fr_cp rfl fr_rf)), by rw [z_up_at], ?_, fun i hi => ?_, fun j hj => ?_⟩
    · rw [z_up_other (by decide), z_up_at]
    · rw [z_up_other (by decide), z_up_other (by decide)]
      exact cy 68 i hi
    · rw [z_up_other (by omega), z_up_other (by omega), z_up_other (by omega), z_up_other (by omega), cz 68 _ (by omega), cz 68 _ (by omega)]
      exact ⟨rfl, rfl⟩
/-- the text is cut -/
theorem q_cut {u : z_Wd} (h : 0 ≤ u 28 1 ∧ u 28 1 ≤ 240) : P_T_cut u 0 ∧ z_fr [] [(28, 1)] u (F_T_cut u 0) ∧ F_T_cut u 0 28 1 = 0 := by
  refine ⟨⟨by decide, fun z => absurd z (by decide), fun _ => by omega⟩, ?_⟩
  unfold F_T_cut
  rw [if_neg (by decide)]
  by_cases c : 0 ≥ u 28 1
  · rw [if_pos c]
    exact ⟨fr_rf, by omega⟩
  · rw [if_neg c]
    exact ⟨fr_uf rfl fr_rf, z_up_at⟩
/-- a law passed, both sides -/
theorem sim_pass {w v : z_Wd} (h : r_all w v) (h4 : ¬ w 0 13 ≥ 4) (e : (F_LR_read v).1 = -1) : P_T_cut ((F_LR_read v).2) 0 ∧ P_G_pass_38 (F_T_cut ((F_LR_read v).2) 0) ∧ (F_G_pass_38 (F_T_cut ((F_LR_read v).2) 0)).1 = (F_M_readLaw w (w 0 13)).2 0 13 + 1 - 1 ∧ r_all (z_up (z_up ((F_M_readLaw w (w 0 13)).2) 0 2 0) 0 13 ((F_M_readLaw w (w 0 13)).2 0 13 + 1)) (F_G_pass_38 (F_T_cut ((F_LR_read v).2) 0)).2 := by
  have hla := h.2.2.2.2.2.1
  have e13 := hla.1
  have b55 := hla.2.1
  obtain ⟨m1, m2, m3, m4, m5, m6⟩ := sim_rl h (a0 := w 0 13) (by omega) (by omega)
  have mo := m6 e
  have f13 : (F_M_readLaw w (w 0 13)).2 0 13 = w 0 13 := fr_f (fr_F_M_readLaw (w := w) (a0 := w 0 13)) 0 13 rfl rfl
  have d55 : (F_LR_read v).2 55 4 = v 55 4 := fr_f (fr_F_LR_read (w := v)) 55 4 rfl rfl
  rw [f13]
  generalize (F_M_readLaw w (w 0 13)).2 = w1 at *
  generalize (F_LR_read v).2 = u at *
  obtain ⟨h1, h2, h3, h4', h5, h6, h7, h8, h9, h10⟩ := id m5
  obtain ⟨c1, c2, c3⟩ := q_cut h1.2.1
  obtain ⟨n, en⟩ := Int.eq_ofNat_of_zero_le b55.1
  have n4 : n < 4 := by omega
  have c55 : F_T_cut u 0 55 4 = (n : Int) := by rw [fr_f c2 55 4 rfl rfl, d55, en]
  obtain ⟨p1, p2, p3, p4, p5, p6, p7⟩ := q_pass c55 n4
  have fD : z_fr [59, 62, 65, 68] [(28, 1), (58, 2), (61, 2), (64, 2), (67, 2), (55, 4)] u (F_G_pass_38 (F_T_cut u 0)).2 := fr_tr (fr_wk c2 rfl rfl) (fr_wk p3 rfl rfl)
  have c38 : F_T_cut u 0 38 = u 38 := fr_c c2 38 rfl rfl
  have c39 : F_T_cut u 0 39 = u 39 := fr_c c2 39 rfl rfl
  rw [c38] at p5
  rw [c39] at p6
  have p28 : (F_G_pass_38 (F_T_cut u 0)).2 28 1 = 0 := by rw [fr_f p3 28 1 rfl rfl, c3]
  have p55 : (F_G_pass_38 (F_T_cut u 0)).2 55 5 = u 55 5 := fr_f fD 55 5 rfl rfl
  have p7' : ∀ j : Nat, j < n → (F_G_pass_38 (F_T_cut u 0)).2 (59 + 3 * j) = u (59 + 3 * j) ∧ (F_G_pass_38 (F_T_cut u 0)).2 (58 + 3 * j) 2 = u (58 + 3 * j) 2 := fun j hj => by
    rw [(p7 j hj).1, (p7 j hj).2]
    rcases (show j = 0 ∨ j = 1 ∨ j = 2 ∨ j = 3 by omega) with rfl | rfl | rfl | rfl
    · exact ⟨fr_c c2 59 rfl rfl, fr_f c2 58 2 rfl rfl⟩
    · exact ⟨fr_c c2 62 rfl rfl, fr_f c2 61 2 rfl rfl⟩
    · exact ⟨fr_c c2 65 rfl rfl, fr_f c2 64 2 rfl rfl⟩
    · exact ⟨fr_c c2 68 rfl rfl, fr_f c2 67 2 rfl rfl⟩
  have fM : z_fr [] [(0, 2), (0, 13)] w1 (z_up (z_up w1 0 2 0) 0 13 (w 0 13 + 1)) := fr_uf rfl (fr_uf rfl fr_rf)
  have x2 : (z_up (z_up w1 0 2 0) 0 13 (w 0 13 + 1)) 0 2 = 0 := by rw [z_up_ne (by decide), z_up_at]
  have x13 : (z_up (z_up w1 0 2 0) 0 13 (w 0 13 + 1)) 0 13 = w 0 13 + 1 := z_up_at
  have x33 : (z_up (z_up w1 0 2 0) 0 13 (w 0 13 + 1)) 0 33 = w1 0 33 := by rw [z_up_ne (by decide), z_up_ne (by decide)]
  have xo : ∀ j, j ≠ 0 → (z_up (z_up w1 0 2 0) 0 13 (w 0 13 + 1)) j = w1 j := fun j hj => by rw [z_up_other hj, z_up_other hj]
  refine ⟨c1, p1, by rw [p2]; omega, ?_⟩
  generalize (F_G_pass_38 (F_T_cut u 0)).2 = up at *
  generalize z_up (z_up w1 0 2 0) 0 13 (w 0 13 + 1) = w2 at *
  refine ⟨⟨by rw [x2, p28], by rw [p28]; decide, fun i hi => by rw [p28] at hi; omega⟩, y_mi h2 fM fD rfl, y_no h3 fM fD rfl, y_ac h4' fM fD rfl, y_im h5 fM fD rfl, ?_, y_cl h7 fM fD rfl, y_re h8 fM fD rfl, y_fl h9 fM fD rfl, y_rd h10 fM fD rfl⟩
  obtain ⟨g1, g2, g3, g4⟩ := h6
  refine ⟨by rw [x13, p4]; omega, by rw [p4]; omega, by rw [x33, p55, p4]; omega, fun j hj => ?_⟩
  rw [p4] at hj
  rw [xo 2 (by decide), xo 3 (by decide), xo 6 (by decide), xo 7 (by decide), xo 8 (by decide), xo 5 (by decide)]
  by_cases jn : j < n
  · rw [(p7' j jn).1, (p7' j jn).2]
    exact g4 j (by omega)
  · have ej : j = n := by omega
    subst ej
    rw [show (w 0 13).toNat = j by omega] at mo
    rw [p5]
    exact mo (up (59 + 3 * j)) p6
theorem ok_text : S_text Rl := by
  intro w a ha hr
  have key : ∀ w v, r_all w v → P_D_text v a ∧ P_M_text w a ∧ (F_D_text v a).1 = (F_M_text w a).1 ∧ r_all (F_M_text w a).2 (F_D_text v a).2 := by
    intro w v h
    unfold P_D_text P_M_text F_D_text F_M_text
    by_cases c0 : a = 0
    · obtain ⟨m1, m2, m3, m4⟩ := sim_rm h
      have c1 : ¬ a = 1 := by omega
      obtain ⟨t1, t2, t3, t4⟩ := m3
      rw [if_pos c0, if_pos c0]
      unfold P_D_foundMinistry F_D_foundMinistry
      by_cases e : (F_YR_read v).1 = -1
      · obtain ⟨l, d1, d2⟩ := t4 e
        obtain ⟨k1, k2, k3, k4, k5⟩ := k_found m4 d1 d2
        have e' : (F_M_readMinistry w).1 = -1 := by omega
        rw [if_pos e, if_pos e']
        refine ⟨⟨ha, fun _ => ⟨m1, by omega, fun _ => ⟨k1, k2⟩, fun z => absurd e z⟩, fun z => absurd c0 z⟩, ⟨ha, fun _ => ⟨m2, by omega, fun _ => k3, fun z => absurd e' z⟩, fun z => absurd c0 z⟩, ?_, ?_⟩
        · dsimp only
          exact k4
        · dsimp only
          exact k5
      · have e' : ¬ (F_M_readMinistry w).1 = -1 := by omega
        rw [if_neg e, if_neg e', if_neg c1]
        exact ⟨⟨ha, fun _ => ⟨m1, by omega, fun z => absurd z e, fun _ => trivial⟩, fun z => absurd c0 z⟩, ⟨ha, fun _ => ⟨m2, by omega, fun z => absurd z e', fun _ => ⟨fun z => absurd z c1, fun _ => trivial⟩⟩, fun z => absurd c0 z⟩, rfl, m4⟩
    · rw [if_neg c0, if_neg c0]
      by_cases c1 : a = 1
      · have hla := h.2.2.2.2.2.1
        have e13 := hla.1
        have b55 := hla.2.1
        rw [if_pos c1, if_pos c1]
        unfold P_D_passLaw F_D_passLaw
        by_cases c4 : w 0 13 ≥ 4
        · have c5 : v 55 4 ≥ 4 := by omega
          rw [if_pos c4, if_pos c5]
          exact ⟨⟨ha, fun z => absurd z c0, fun _ => ⟨fun _ => ⟨by omega, fun _ => trivial, fun z => absurd c5 z⟩, fun z => absurd c1 z⟩⟩, ⟨ha, fun z => absurd z c0, fun _ => ⟨fun _ => ⟨by omega, fun _ => trivial, fun z => absurd c4 z⟩, fun z => absurd c1 z⟩⟩, rfl, h⟩
        · have c5 : ¬ v 55 4 ≥ 4 := by omega
          rw [if_neg c4, if_neg c5]
          obtain ⟨m1, m2, m3, m4, m5, -⟩ := sim_rl h (a0 := w 0 13) (by omega) (by omega)
          by_cases e : (F_LR_read v).1 = -1
          · have e' : (F_M_readLaw w (w 0 13)).1 = -1 := by omega
            obtain ⟨k1, k2, k3, k4⟩ := sim_pass h c4 e
            rw [if_pos e, if_pos e']
            exact ⟨⟨ha, fun z => absurd z c0, fun _ => ⟨fun _ => ⟨by omega, fun _ => trivial, fun _ => ⟨m1, by omega, fun _ => ⟨k1, k2⟩, fun z => absurd e z⟩⟩, fun z => absurd c1 z⟩⟩, ⟨ha, fun z => absurd z c0, fun _ => ⟨fun _ => ⟨by omega, fun _ => trivial, fun _ => ⟨m2, by omega⟩⟩, fun z => absurd c1 z⟩⟩, k3, k4⟩
          · have e' : ¬ (F_M_readLaw w (w 0 13)).1 = -1 := by omega
            rw [if_neg e, if_neg e']
            exact ⟨⟨ha, fun z => absurd z c0, fun _ => ⟨fun _ => ⟨by omega, fun _ => trivial, fun _ => ⟨m1, by omega, fun z => absurd z e, fun _ => trivial⟩⟩, fun z => absurd c1 z⟩⟩, ⟨ha, fun z => absurd z c0, fun _ => ⟨fun _ => ⟨by omega, fun _ => trivial, fun _ => ⟨m2, by omega⟩⟩, fun z => absurd c1 z⟩⟩, rfl, m5⟩
      · rw [if_neg c1, if_neg c1]
        exact ⟨⟨ha, fun z => absurd z c0, fun _ => ⟨fun z => absurd z c1, fun _ => trivial⟩⟩, ⟨ha, fun z => absurd z c0, fun _ => ⟨fun z => absurd z c1, fun _ => trivial⟩⟩, rfl, h⟩
  have t := s_two hr (fr_F_D_text (a0 := a)) rfl (fr_F_M_text (w := (F_D_text w a).2) (a0 := a)) rfl
  obtain ⟨k1, k2, k3, k4⟩ := key _ _ t.1
  exact ⟨k1, k2, k3, t.2 k4⟩
