/-! acts that leave the piles -/
theorem rf_n {α : Type} {w : z_Wd} {s : Int} (hs : s ≠ -1) {A B : α} : (if (F_M_isRefused w s).1 = 0 then A else B) = B := by
  rw [h_rf hs]
  exact if_neg (show ¬ (1 : Int) = 0 by decide)
theorem rf_y {α : Type} {w : z_Wd} {A B : α} : (if (F_M_isRefused w (-1)).1 = 0 then A else B) = A := by
  rw [h_rf0]
  exact if_pos rfl
theorem rf_p {w : z_Wd} {s : Int} {Q : Prop} (hs : 0 ≤ s ∧ s < 5) : P_M_isRefused w s ∧ (-2147483648 ≤ (F_M_isRefused w s).1 ∧ (F_M_isRefused w s).1 < 2147483648) ∧ (((F_M_isRefused w s).1 = 0 → Q) ∧ (¬ ((F_M_isRefused w s).1 = 0) → True)) := by
  rw [h_rf (by omega)]
  exact ⟨p_rfM (by omega), (show -2147483648 ≤ (1 : Int) ∧ (1 : Int) < 2147483648 by decide), fun z => absurd z (show ¬ (1 : Int) = 0 by decide), fun _ => trivial⟩
theorem rf_q {w : z_Wd} {Q : Prop} (q : Q) : P_M_isRefused w (-1) ∧ (-2147483648 ≤ (F_M_isRefused w (-1)).1 ∧ (F_M_isRefused w (-1)).1 < 2147483648) ∧ (((F_M_isRefused w (-1)).1 = 0 → Q) ∧ (¬ ((F_M_isRefused w (-1)).1 = 0) → True)) := by
  rw [h_rf0]
  exact ⟨p_rfM (by omega), (show -2147483648 ≤ (0 : Int) ∧ (0 : Int) < 2147483648 by decide), fun _ => q, fun _ => trivial⟩
theorem up_com {w : z_Wd} {k j k' j' : Nat} {x y : Int} (h : k ≠ k' ∨ j ≠ j') : z_up (z_up w k j x) k' j' y = z_up (z_up w k' j' y) k j x := by
  funext a b
  unfold z_up
  by_cases e1 : a = k
  · subst e1
    by_cases e2 : a = k'
    · subst e2
      by_cases e3 : b = j
      · subst e3
        have : ¬ b = j' := by rcases h with h | h <;> omega
        simp [this]
      · simp [e3]
    · simp [e2]
  · simp [e1]
theorem st_w {nn nw co un ye co' un' ye' : Int} {wf lf dp dp' now now' : Nat → Int} (h : r_st nn nw wf lf dp co un ye now) (hn : nn ≤ 7) (hw4 : nw ≤ 4) (hN : ∀ k, k < 32 → now' k = now k) (h6 : ∀ k : Nat, (k : Int) < nw → now' (32 + k) = dp' k ∧ 0 ≤ dp' k ∧ dp' k ≤ 30) (h7 : now' 36 = co' ∧ 0 ≤ co' ∧ co' ≤ 999) (h8 : now' 37 = un' ∧ 0 ≤ un' ∧ un' ≤ 9999) (h9 : now' 38 = ye' ∧ 0 ≤ ye' ∧ ye' ≤ 999) : r_st nn nw wf lf dp' co' un' ye' now' := by
  obtain ⟨s1, s2, s3, s4, s5, s6, s7, s8, s9⟩ := h
  refine ⟨s1, s2, fun a ha => ?_, fun a i ha hi => ?_, fun n hn2 hne => ?_, h6, h7, h8, h9⟩
  · rw [hN a (by omega)]
    exact s3 a ha
  · rw [hN a (by omega)] at hi
    have r := (s3 a ha).1
    rw [hN (4 + 7 * a + i) (by omega)]
    exact s4 a i ha hi
  · have q := s5 n hn2 hne
    have r1 := s1 n (by omega)
    have r2 := (s3 (wf n).toNat (by omega)).1
    rw [hN _ (by omega), hN _ (by omega)]
    exact q
theorem sim_coin {w v : z_Wd} (h : r_all w v) {c : Int} (hc : 0 ≤ c ∧ c ≤ 999) : r_all (z_up w 19 36 c) (z_up v 41 6 c) := by
  obtain ⟨h1, h2, h3, h4, h5, h6, h7, h8, h9, h10⟩ := h
  have f : z_fr [] [(19, 36)] w (z_up w 19 36 c) := fr_uf rfl fr_rf
  have g : z_fr [] [(41, 6)] v (z_up v 41 6 c) := fr_uf rfl fr_rf
  have e2 := h2.2.1
  unfold r_mn at e2
  refine ⟨y_ta h1 f g rfl, y_mi h2 f g rfl, ?_, y_ac h4 f g rfl, y_im h5 f g rfl, y_la h6 f g rfl, y_cl h7 f g rfl, y_re h8 f g rfl, y_fl h9 f g rfl, y_rd h10 f g rfl⟩
  obtain ⟨s, l⟩ := h3
  obtain ⟨s1, s2, s3, s4, s5, s6, s7, s8, s9⟩ := id s
  unfold r_no
  rw [fr_f f 0 28 rfl rfl, fr_f f 0 29 rfl rfl, fr_c g 42 rfl rfl, fr_c g 43 rfl rfl, fr_c g 44 rfl rfl, fr_c g 45 rfl rfl, fr_c g 46 rfl rfl, fr_f g 41 7 rfl rfl, fr_f g 41 8 rfl rfl, z_up_at]
  refine ⟨st_w s (by omega) (by omega) (fun k hk => z_up_ne (by omega)) (fun k hk => ?_) ⟨z_up_at, hc⟩ ?_ ?_, lg_n l (fun k hk _ => z_up_ne (by omega))⟩
  · rw [z_up_ne (by omega)]
    exact s6 k hk
  · rw [z_up_ne (by omega)]
    exact s8
  · rw [z_up_ne (by omega)]
    exact s9
theorem sim_dep {w v : z_Wd} (h : r_all w v) {a : Nat} {d : Int} (ha : (a : Int) < w 0 28) (hd : 0 ≤ d ∧ d ≤ 30) : r_all (z_up w 19 (32 + a) d) (z_up v 44 a d) := by
  obtain ⟨h1, h2, h3, h4, h5, h6, h7, h8, h9, h10⟩ := h
  have f : z_fr [19] [] w (z_up w 19 (32 + a) d) := fr_up rfl fr_rf
  have g : z_fr [44] [] v (z_up v 44 a d) := fr_up rfl fr_rf
  have e2 := h2.2.1
  unfold r_mn at e2
  refine ⟨y_ta h1 f g rfl, y_mi h2 f g rfl, ?_, y_ac h4 f g rfl, y_im h5 f g rfl, y_la h6 f g rfl, y_cl h7 f g rfl, y_re h8 f g rfl, y_fl h9 f g rfl, y_rd h10 f g rfl⟩
  obtain ⟨s, l⟩ := h3
  obtain ⟨s1, s2, s3, s4, s5, s6, s7, s8, s9⟩ := id s
  unfold r_no
  rw [fr_f f 0 28 rfl rfl, fr_f f 0 29 rfl rfl, fr_c g 42 rfl rfl, fr_c g 43 rfl rfl, fr_c g 45 rfl rfl, fr_c g 46 rfl rfl, fr_f g 41 6 rfl rfl, fr_f g 41 7 rfl rfl, fr_f g 41 8 rfl rfl]
  refine ⟨st_w s (by omega) (by omega) (fun k hk => z_up_ne (by omega)) (fun k hk => ?_) ?_ ?_ ?_, lg_n l (fun k hk _ => z_up_ne (by omega))⟩
  · by_cases e : k = a
    · subst e
      rw [z_up_at, z_up_at]
      exact ⟨rfl, hd⟩
    · rw [z_up_ne (by omega), z_up_ne e]
      exact s6 k hk
  · rw [z_up_ne (by omega)]
    exact s7
  · rw [z_up_ne (by omega)]
    exact s8
  · rw [z_up_ne (by omega)]
    exact s9
theorem ok_give : S_give Rl := by
  intro w a ha hr
  have key : ∀ w v, r_all w v → P_D_give v a ∧ P_M_give w a ∧ (F_D_give v a).1 = (F_M_give w a).1 ∧ r_all (F_M_give w a).2 (F_D_give v a).2 := by
    intro w v h
    obtain ⟨h1, h2, h3, -⟩ := id h
    have e1 := h2.1
    have e2 := h2.2.1.2.1
    have e7 := h3.1.2.2.2.2.2.2.1
    have kp := sim_keep h
    have c36 : F_M_keep w 19 36 = v 41 6 := by rw [fr_f (fr_F_M_keep (w := w)) 19 36 rfl rfl]; exact e7.1
    have c6 : F_H_keep_41 v 41 6 = v 41 6 := fr_f (fr_F_H_keep_41 (w := v)) 41 6 rfl rfl
    refine ⟨?_, ?_, ?_⟩
    · unfold P_D_give P_Y_stands P_K_earn P_J_min_7cf53
      rw [c6]
      exact ⟨by omega, fun _ => p_rfD (by omega), fun _ => ⟨ha, fun _ => p_rfD (by omega), fun _ => ⟨fun _ => p_rfD (by omega), fun _ => ⟨by omega, fun _ => ⟨kp.2.1, by omega, by omega⟩, fun _ => p_rfD (by omega)⟩⟩⟩⟩
    · unfold P_M_give
      simp only [h_in]
      exact ⟨by omega, fun _ => rf_p (by omega), fun _ => ⟨p_inn ha (by omega) (by omega), fun _ => rf_p (by omega), fun c => ⟨by omega, fun _ => rf_q (by rw [h_rf0]; exact kp.1), fun _ => rf_p (by omega)⟩⟩⟩
    · unfold F_D_give F_M_give
      simp only [h_st, h_in, h_rfD (s := 0) (by omega), h_rfD (s := 1) (by omega)]
      by_cases c0 : w 0 29 = 0
      · rw [if_pos (by omega), if_pos c0, rf_n (by decide), h_rf (by decide)]
        exact ⟨rfl, sim_rf h (s := 0) (by omega)⟩
      · rw [if_neg (by omega), if_neg c0]
        by_cases c1 : 1 ≤ a ∧ a ≤ 50
        · rw [if_neg (show ¬ a < 1 by omega), if_neg (show ¬ a > 50 by omega), if_neg (show ¬ (a < 1 ∨ 50 < a) by omega)]
          by_cases c2 : v 41 6 + a ≤ 999
          · rw [if_pos c2, if_pos (by omega), rf_y, h_rf0]
            unfold F_K_earn F_J_min_7cf53
            rw [c6, c36]
            simp only [z_up_at]
            by_cases c3 : 999 > v 41 6 + a
            · rw [if_pos c3]
              exact ⟨rfl, sim_coin kp.2.2 (by omega)⟩
            · rw [if_neg c3, show v 41 6 + a = 999 by omega]
              exact ⟨rfl, sim_coin kp.2.2 (by omega)⟩
          · rw [if_neg c2, if_neg (by omega), rf_n (by decide), h_rf (by decide)]
            exact ⟨rfl, sim_rf h (s := 1) (by omega)⟩
        · rw [if_pos (by omega : a < 1 ∨ 50 < a), rf_n (by decide), h_rf (by decide)]
          by_cases c2 : a < 1
          · rw [if_pos c2]
            exact ⟨rfl, sim_rf h (s := 1) (by omega)⟩
          · rw [if_neg c2, if_pos (by omega)]
            exact ⟨rfl, sim_rf h (s := 1) (by omega)⟩
  have t := s_two hr (fr_F_D_give (a0 := a)) rfl (fr_F_M_give (w := (F_D_give w a).2) (a0 := a)) rfl
  obtain ⟨k1, k2, k3, k4⟩ := key _ _ t.1
  exact ⟨k1, k2, k3, t.2 k4⟩
theorem ok_fill : S_fill Rl := by
  intro w a ha hr
  have key : ∀ w v, r_all w v → P_D_fill v a ∧ P_M_fill w a ∧ (F_D_fill v a).1 = (F_M_fill w a).1 ∧ r_all (F_M_fill w a).2 (F_D_fill v a).2 := by
    intro w v h
    obtain ⟨h1, h2, h3, -⟩ := id h
    have e1 := h2.1
    have e2 := h2.2.1
    unfold r_mn at e2
    have e6 := h3.1.2.2.2.2.2.1
    have e7 := h3.1.2.2.2.2.2.2.1
    have kp := sim_keep h
    have fK := fr_F_M_keep (w := w)
    have gK := fr_F_H_keep_41 (w := v)
    have c36 : F_M_keep w 19 36 = v 41 6 := by rw [fr_f fK 19 36 rfl rfl]; exact e7.1
    have c6 : F_H_keep_41 v 41 6 = v 41 6 := fr_f gK 41 6 rfl rfl
    have c28 : F_M_keep w 0 28 = w 0 28 := fr_f fK 0 28 rfl rfl
    have d32 : ∀ c, z_up (F_H_keep_41 v) 41 6 c 32 1 = v 32 1 := fun c => by rw [z_up_other (by decide), fr_f gK 32 1 rfl rfl]
    refine ⟨?_, ?_, ?_⟩
    · unfold P_D_fill P_K_deepen P_K_depth P_Y_hasWell F_K_depth F_K_pay F_K_deepen
      simp only [h_hw, d32]
      refine ⟨⟨ha, fun _ => trivial, fun _ => by omega⟩, fun _ => p_rfD (by omega), fun c => ?_⟩
      obtain ⟨n, rfl⟩ := Int.eq_ofNat_of_zero_le (by omega : 0 ≤ a)
      have q := e6 n (by omega)
      rw [if_neg (by omega), if_neg (by omega), Int.toNat_natCast]
      have d2 : z_up (z_up (F_H_keep_41 v) 41 6 (F_H_keep_41 v 41 6 - 1)) 44 n (z_up (F_H_keep_41 v) 41 6 (F_H_keep_41 v 41 6 - 1) 44 n + 1) 32 1 = v 32 1 := by rw [z_up_other (by decide), d32]
      rw [d2]
      exact ⟨⟨⟨ha, fun _ => trivial, fun _ => by omega⟩, fun _ => trivial, fun _ => by omega⟩, by omega, fun _ => ⟨by omega, fun _ => ⟨kp.2.1, ⟨⟨ha, fun _ => trivial, fun _ => by omega⟩, fun _ => trivial, fun _ => by omega⟩, ⟨ha, fun _ => trivial, fun _ => by omega⟩, fun _ => trivial, fun _ => by omega⟩, fun _ => p_rfD (by omega)⟩, fun _ => p_rfD (by omega)⟩
    · unfold P_M_fill
      simp only [h_in]
      refine ⟨p_inn ha (by omega) (by omega), fun _ => rf_p (by omega), fun c => ?_⟩
      obtain ⟨n, rfl⟩ := Int.eq_ofNat_of_zero_le (by omega : 0 ≤ a)
      have q := e6 n (by omega)
      rw [show (32 + (n : Int)).toNat = 32 + n by omega]
      exact ⟨by omega, by omega, fun _ => rf_p (by omega), fun _ => ⟨by omega, fun _ => rf_q (by rw [h_rf0]; exact kp.1), fun _ => rf_p (by omega)⟩⟩
    · unfold F_D_fill F_M_fill
      simp only [h_hw, h_in, h_rfD (s := 0) (by omega), h_rfD (s := 2) (by omega), h_rfD (s := 4) (by omega)]
      by_cases c0 : 0 ≤ a ∧ a < w 0 28
      · obtain ⟨n, rfl⟩ := Int.eq_ofNat_of_zero_le c0.1
        have q := e6 n (by omega)
        have k44 : F_H_keep_41 v 44 n = v 44 n := by rw [fr_c gK 44 rfl rfl]
        have k32 : F_M_keep w 19 (32 + n) = v 44 n := by rw [fr_c fK 19 rfl rfl]; exact q.1
        rw [if_neg (show ¬ ((n : Int) < 0 ∨ v 32 1 ≤ (n : Int)) by omega), if_neg (show ¬ ((n : Int) < 0 ∨ w 0 28 - 1 < (n : Int)) by omega), show (32 + (n : Int)).toNat = 32 + n by omega, q.1]
        have ed : F_K_depth v (n : Int) = v 44 n := by
          unfold F_K_depth
          simp only [h_hw]
          rw [if_neg (by omega), Int.toNat_natCast]
        rw [ed]
        by_cases c1 : v 44 n < 30
        · rw [if_pos c1, if_neg (show ¬ v 44 n = 30 by omega)]
          by_cases c2 : v 41 6 ≥ 1
          · rw [if_pos c2, if_pos (by omega), rf_y, h_rf0]
            have eW : F_K_deepen (F_K_pay (F_H_keep_41 v) 1) (n : Int) = z_up (z_up (F_H_keep_41 v) 41 6 (v 41 6 - 1)) 44 n (v 44 n + 1) := by
              unfold F_K_deepen F_K_pay
              simp only [h_hw, d32]
              rw [if_neg (by omega), c6, Int.toNat_natCast, z_up_other (by decide), k44]
            have eX : F_K_depth (z_up (z_up (F_H_keep_41 v) 41 6 (v 41 6 - 1)) 44 n (v 44 n + 1)) (n : Int) = v 44 n + 1 := by
              unfold F_K_depth
              simp only [h_hw]
              rw [z_up_other (by decide), d32, if_neg (by omega), Int.toNat_natCast, z_up_at]
            rw [eW, eX]
            simp only [k32]
            rw [z_up_ne (by omega), z_up_at, z_up_ne (by omega), c36, up_com (Or.inr (by omega))]
            exact ⟨rfl, sim_dep (sim_coin kp.2.2 (by omega)) (by rw [z_up_other (by decide), c28]; omega) (by omega)⟩
          · rw [if_neg c2, if_neg (by omega), rf_n (by decide), h_rf (by decide)]
            exact ⟨rfl, sim_rf h (s := 4) (by omega)⟩
        · rw [if_neg c1, if_pos (by omega), rf_n (by decide), h_rf (by decide)]
          exact ⟨rfl, sim_rf h (s := 2) (by omega)⟩
      · rw [if_pos (by omega), if_pos (by omega), rf_n (by decide), h_rf (by decide)]
        exact ⟨rfl, sim_rf h (s := 0) (by omega)⟩
  have t := s_two hr (fr_F_D_fill (a0 := a)) rfl (fr_F_M_fill (w := (F_D_fill w a).2) (a0 := a)) rfl
  obtain ⟨k1, k2, k3, k4⟩ := key _ _ t.1
  exact ⟨k1, k2, k3, t.2 k4⟩
/-! acts undone, images -/
theorem lg_im {ye : Int} {lw lm lw' lm' now now' : Nat → Int} (h : r_lg ye lw lm now) (hN : ∀ k, 39 ≤ k → k < 160 → now' k = now k) (hw : ∀ i, i < 100 → lw' i = lw i) (hm : ∀ i, i < 100 → lm' i = lm i) : r_lg ye lw' lm' now' := lg_c h hN (fun i _ => hw _ (Nat.mod_lt _ (by decide))) (fun i _ => hm _ (Nat.mod_lt _ (by decide)))
theorem ok_image : S_image Rl := by
  intro w hr
  have key : ∀ w v, r_all w v → P_D_image v ∧ P_M_image w ∧ (F_D_image v).1 = (F_M_image w).1 ∧ r_all (F_M_image w).2 (F_D_image v).2 := by
    intro w v h
    obtain ⟨h1, h2, h3, h4, h5, h6, h7, h8, h9, h10⟩ := id h
    have e1 := h2.1
    have e2 := h2.2.1
    unfold r_mn at e2
    refine ⟨?_, ?_, ?_⟩
    · unfold P_D_image P_Y_stands
      omega
    · unfold P_M_image
      omega
    · unfold F_D_image F_M_image
      simp only [h_st]
      by_cases c : w 0 29 = 0
      · rw [if_pos (by omega), if_pos c]
        exact ⟨rfl, h⟩
      · rw [if_neg (by omega), if_neg c]
        have g0 := fr_F_K_copyFrom_47_41 (w := v)
        have i41 : F_K_copyFrom_47_41 v 41 8 = v 41 8 := fr_f g0 41 8 rfl rfl
        have c48 : ∀ n, n < 7 → F_K_copyFrom_47_41 v 48 n = v 42 n := fun n hn => by
          unfold F_K_copyFrom_47_41
          rw [z_up_other (by decide), z_up_other (by decide), z_up_other (by decide), cp_ot (by decide), cp_ot (by decide), cp_ot (by decide), cp_ot (by decide), cp_in (by omega)]
          congr 1
          omega
        have c49 : ∀ n, n < 7 → F_K_copyFrom_47_41 v 49 n = v 43 n := fun n hn => by
          unfold F_K_copyFrom_47_41
          rw [z_up_other (by decide), z_up_other (by decide), z_up_other (by decide), cp_ot (by decide), cp_ot (by decide), cp_ot (by decide), cp_in (by omega), cp_ot (by decide)]
          congr 1
          omega
        have c50 : ∀ n, n < 4 → F_K_copyFrom_47_41 v 50 n = v 44 n := fun n hn => by
          unfold F_K_copyFrom_47_41
          rw [z_up_other (by decide), z_up_other (by decide), z_up_other (by decide), cp_ot (by decide), cp_ot (by decide), cp_in (by omega), cp_ot (by decide), cp_ot (by decide)]
          congr 1
          omega
        have c51 : ∀ n, n < 100 → F_K_copyFrom_47_41 v 51 n = v 45 n := fun n hn => by
          unfold F_K_copyFrom_47_41
          rw [z_up_other (by decide), z_up_other (by decide), z_up_other (by decide), cp_ot (by decide), cp_in (by omega), cp_ot (by decide), cp_ot (by decide), cp_ot (by decide)]
          congr 1
          omega
        have c52 : ∀ n, n < 100 → F_K_copyFrom_47_41 v 52 n = v 46 n := fun n hn => by
          unfold F_K_copyFrom_47_41
          rw [z_up_other (by decide), z_up_other (by decide), z_up_other (by decide), cp_in (by omega), cp_ot (by decide), cp_ot (by decide), cp_ot (by decide), cp_ot (by decide)]
          congr 1
          omega
        have o41 : ∀ k, k < 48 → z_cpy (z_cpy (z_cpy (z_cpy (z_cpy v 42 0 48 0 7) 43 0 49 0 7) 44 0 50 0 4) 45 0 51 0 100) 46 0 52 0 100 k = v k := fun k hk => by rw [cp_ot (by omega), cp_ot (by omega), cp_ot (by omega), cp_ot (by omega), cp_ot (by omega)]
        have c47 : F_K_copyFrom_47_41 v 47 6 = v 41 6 ∧ F_K_copyFrom_47_41 v 47 7 = v 41 7 ∧ F_K_copyFrom_47_41 v 47 8 = v 41 8 := by
          unfold F_K_copyFrom_47_41
          rw [o41 41 (by omega)]
          refine ⟨?_, ?_, ?_⟩
          · rw [z_up_ne (by decide), z_up_ne (by decide), z_up_at]
          · rw [z_up_ne (by decide), z_up_at]
          · rw [z_up_at]
        have f : z_fr [25] [(0, 45)] w (z_up (z_cpy w 19 0 25 0 160) 0 45 1) := fr_uf rfl (fr_cp rfl fr_rf)
        have g : z_fr [48, 49, 50, 51, 52] [(47, 6), (47, 7), (47, 8), (27, 13)] v (z_up (F_K_copyFrom_47_41 v) 27 13 1) := fr_uf rfl (fr_wk g0 rfl rfl)
        refine ⟨by rw [i41]; exact h3.1.2.2.2.2.2.2.2.2.1.symm, y_ta h1 f g rfl, y_mi h2 f g rfl, y_no h3 f g rfl, y_ac h4 f g rfl, ?_, y_la h6 f g rfl, y_cl h7 f g rfl, y_re h8 f g rfl, y_fl h9 f g rfl, y_rd h10 f g rfl⟩
        unfold r_im
        dsimp only
        rw [fr_f f 0 28 rfl rfl, fr_f f 0 29 rfl rfl, z_up_at, z_up_at]
        simp only [z_up_other (show (47 : Nat) ≠ 27 by decide), z_up_other (show (48 : Nat) ≠ 27 by decide), z_up_other (show (49 : Nat) ≠ 27 by decide), z_up_other (show (50 : Nat) ≠ 27 by decide), z_up_other (show (51 : Nat) ≠ 27 by decide), z_up_other (show (52 : Nat) ≠ 27 by decide), z_up_other (show (25 : Nat) ≠ 0 by decide)]
        rw [c47.1, c47.2.1, c47.2.2]
        have e25 : ∀ k, k < 160 → z_cpy w 19 0 25 0 160 25 k = w 19 k := fun k hk => by
          rw [cp_in (by omega)]
          congr 1
          omega
        exact ⟨trivial, Or.inr trivial, fun _ => ⟨c, st_c h3.1 (by omega) (by omega) c48 c49 c50 (fun k hk => e25 k (by omega)), lg_im h3.2 (fun k _ hk => e25 k hk) c51 c52⟩⟩
  have t := s_two hr (fr_F_D_image (w := w)) rfl (fr_F_M_image (w := (F_D_image w).2)) rfl
  obtain ⟨k1, k2, k3, k4⟩ := key _ _ t.1
  exact ⟨k1, k2, k3, t.2 k4⟩
theorem ok_back : S_back Rl := by
  intro w hr
  have key : ∀ w v, r_all w v → P_D_back v ∧ P_M_back w ∧ (F_D_back v).1 = (F_M_back w).1 ∧ r_all (F_M_back w).2 (F_D_back v).2 := by
    intro w v h
    obtain ⟨h1, h2, h3, h4, h5, h6, h7, h8, h9, h10⟩ := id h
    have e2 := h2.2.1
    unfold r_mn at e2
    obtain ⟨i1, i2, i3⟩ := id h5
    refine ⟨?_, ?_, ?_⟩
    · unfold P_D_back
      omega
    · unfold P_M_back
      omega
    · unfold F_D_back F_M_back
      by_cases c : w 0 45 = 0
      · rw [if_pos (by omega), if_pos c]
        exact ⟨rfl, h⟩
      · rw [if_neg (by omega), if_neg c]
        obtain ⟨hnn, st, lg⟩ := i3 c
        have g0 := fr_F_K_copyFrom_47 (w := v)
        have c42 : ∀ n, n < 7 → F_K_copyFrom_47 v 42 n = v 48 n := fun n hn => by
          unfold F_K_copyFrom_47
          rw [z_up_other (by decide), z_up_other (by decide), z_up_other (by decide), cp_ot (by decide), cp_ot (by decide), cp_ot (by decide), cp_ot (by decide), cp_in (by omega)]
          congr 1
          omega
        have c43 : ∀ n, n < 7 → F_K_copyFrom_47 v 43 n = v 49 n := fun n hn => by
          unfold F_K_copyFrom_47
          rw [z_up_other (by decide), z_up_other (by decide), z_up_other (by decide), cp_ot (by decide), cp_ot (by decide), cp_ot (by decide), cp_in (by omega), cp_ot (by decide)]
          congr 1
          omega
        have c44 : ∀ n, n < 4 → F_K_copyFrom_47 v 44 n = v 50 n := fun n hn => by
          unfold F_K_copyFrom_47
          rw [z_up_other (by decide), z_up_other (by decide), z_up_other (by decide), cp_ot (by decide), cp_ot (by decide), cp_in (by omega), cp_ot (by decide), cp_ot (by decide)]
          congr 1
          omega
        have c45 : ∀ n, n < 100 → F_K_copyFrom_47 v 45 n = v 51 n := fun n hn => by
          unfold F_K_copyFrom_47
          rw [z_up_other (by decide), z_up_other (by decide), z_up_other (by decide), cp_ot (by decide), cp_in (by omega), cp_ot (by decide), cp_ot (by decide), cp_ot (by decide)]
          congr 1
          omega
        have c46 : ∀ n, n < 100 → F_K_copyFrom_47 v 46 n = v 52 n := fun n hn => by
          unfold F_K_copyFrom_47
          rw [z_up_other (by decide), z_up_other (by decide), z_up_other (by decide), cp_in (by omega), cp_ot (by decide), cp_ot (by decide), cp_ot (by decide), cp_ot (by decide)]
          congr 1
          omega
        have o47 : ∀ k, 46 < k → z_cpy (z_cpy (z_cpy (z_cpy (z_cpy v 48 0 42 0 7) 49 0 43 0 7) 50 0 44 0 4) 51 0 45 0 100) 52 0 46 0 100 k = v k := fun k hk => by rw [cp_ot (by omega), cp_ot (by omega), cp_ot (by omega), cp_ot (by omega), cp_ot (by omega)]
        have c41 : F_K_copyFrom_47 v 41 6 = v 47 6 ∧ F_K_copyFrom_47 v 41 7 = v 47 7 ∧ F_K_copyFrom_47 v 41 8 = v 47 8 := by
          unfold F_K_copyFrom_47
          rw [o47 47 (by omega)]
          refine ⟨?_, ?_, ?_⟩
          · rw [z_up_ne (by decide), z_up_ne (by decide), z_up_at]
          · rw [z_up_ne (by decide), z_up_at]
          · rw [z_up_at]
        unfold F_H_forget
        have f : z_fr [19] [(0, 36)] w (z_up (z_cpy w 25 0 19 0 160) 0 36 0) := fr_uf rfl (fr_cp rfl fr_rf)
        have g : z_fr [42, 43, 44, 45, 46] [(41, 6), (41, 7), (41, 8), (53, 2)] v (z_up (F_K_copyFrom_47 v) 53 2 0) := fr_uf rfl (fr_wk g0 rfl rfl)
        refine ⟨by rw [z_up_other (by decide), c41.2.2]; exact st.2.2.2.2.2.2.2.2.1.symm, y_ta h1 f g rfl, y_mi h2 f g rfl, ?_, ?_, y_im h5 f g rfl, y_la h6 f g rfl, y_cl h7 f g rfl, y_re h8 f g rfl, y_fl h9 f g rfl, y_rd h10 f g rfl⟩
        · unfold r_no
          dsimp only
          rw [fr_f f 0 28 rfl rfl, fr_f f 0 29 rfl rfl]
          simp only [z_up_other (show (41 : Nat) ≠ 53 by decide), z_up_other (show (42 : Nat) ≠ 53 by decide), z_up_other (show (43 : Nat) ≠ 53 by decide), z_up_other (show (44 : Nat) ≠ 53 by decide), z_up_other (show (45 : Nat) ≠ 53 by decide), z_up_other (show (46 : Nat) ≠ 53 by decide), z_up_other (show (19 : Nat) ≠ 0 by decide)]
          rw [c41.1, c41.2.1, c41.2.2]
          have e19 : ∀ k, k < 160 → z_cpy w 25 0 19 0 160 19 k = w 25 k := fun k hk => by
            rw [cp_in (by omega)]
            congr 1
            omega
          exact ⟨st_c st (by omega) (by omega) c42 c43 c44 (fun k hk => e19 k (by omega)), lg_im lg (fun k _ hk => e19 k hk) c45 c46⟩
        · obtain ⟨a0, a1, a2, a3⟩ := h4
          unfold r_ac
          dsimp only
          rw [z_up_at, z_up_at, fr_f g 53 1 rfl rfl]
          exact ⟨rfl, by omega, a2, fun j hj => absurd hj (by omega)⟩
  have t := s_two hr (fr_F_D_back (w := w)) rfl (fr_F_M_back (w := (F_D_back w).2)) rfl
  obtain ⟨k1, k2, k3, k4⟩ := key _ _ t.1
  exact ⟨k1, k2, k3, t.2 k4⟩
