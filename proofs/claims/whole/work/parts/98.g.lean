/-! a ministry is taken: the class -/
theorem k_s2 {w : z_Wd} : ∀ n i : Nat, A_K_start_2 w n 42 i = (if i < n then -1 else w 42 i) ∧ A_K_start_2 w n 43 i = (if i < n then 0 else w 43 i)
  | 0, i => by
    rw [if_neg (by omega), if_neg (by omega)]
    exact ⟨rfl, rfl⟩
  | n + 1, i => by
    obtain ⟨h1, h2⟩ := k_s2 (w := w) n i
    simp only [A_K_start_2, Int.toNat_natCast]
    rw [z_up_other (a := 42) (k := 43) (by decide)]
    by_cases c : i = n
    · rw [c, z_up_at, z_up_at, if_pos (by omega), if_pos (by omega)]
      exact ⟨rfl, rfl⟩
    · rw [z_up_ne c, z_up_ne c, z_up_other (a := 43) (k := 42) (by decide), h1, h2]
      by_cases c2 : i < n
      · rw [if_pos c2, if_pos c2, if_pos (by omega), if_pos (by omega)]
        exact ⟨rfl, rfl⟩
      · rw [if_neg c2, if_neg c2, if_neg (by omega), if_neg (by omega)]
        exact ⟨rfl, rfl⟩
theorem k_s30 {w s : z_Wd} : ∀ n i : Nat, A_K_start_30 w s n 44 i = if i < n then F_Y_value s 1 (i : Int) 0 else s 44 i
  | 0, i => by
    rw [if_neg (by omega)]
    rfl
  | n + 1, i => by
    have f : z_fr [44] [] s (A_K_start_30 w s n) := fr_A_K_start_30
    simp only [A_K_start_30, Int.toNat_natCast]
    rw [x_val (fr_c f 31 rfl rfl)]
    by_cases c : i = n
    · rw [c, z_up_at, if_pos (by omega)]
    · rw [z_up_ne c, k_s30 n i]
      by_cases c2 : i < n
      · rw [if_pos c2, if_pos (by omega)]
      · rw [if_neg c2, if_neg (by omega)]
set_option maxHeartbeats 1000000 in
theorem k_found {m u : z_Wd} {l : Int} (h : r_all m u) (hD : t_D l m u) (hw : t_whole m) : P_K_start (F_Y_copyFrom_34 u) ∧ P_T_cut (z_up (F_C_forget (F_H_forget (F_K_start (F_Y_copyFrom_34 u)))) 27 13 0) 0 ∧ P_M_takeMinistry (z_up m 0 2 0) ∧ F_T_cut (z_up (F_C_forget (F_H_forget (F_K_start (F_Y_copyFrom_34 u)))) 27 13 0) 0 32 2 = (F_M_takeMinistry (z_up m 0 2 0)).1 ∧ r_all (F_M_takeMinistry (z_up m 0 2 0)).2 (F_T_cut (z_up (F_C_forget (F_H_forget (F_K_start (F_Y_copyFrom_34 u)))) 27 13 0) 0) := by
  obtain ⟨h1, h2, h3, h4, h5, h6, h7, h8, h9, h10⟩ := id h
  obtain ⟨c0, c1, c2, c3⟩ := t_cnt hD
  have hl := h1.2.1
  -- the reference
  have z0 : ∀ j, j ≠ 2 → z_up m 0 2 0 0 j = m 0 j := fun j hj => z_up_ne hj
  have zc : ∀ c, c ≠ 0 → z_up m 0 2 0 c = m c := fun c hc => z_up_other hc
  obtain ⟨t1, t2, ⟨t28, t29, t30, t36, t43, t45⟩, t15, t16, t17, t18, t19⟩ := k_take (w := z_up m 0 2 0) (by rw [z0 21 (by decide)]; exact c1.2)
  rw [z0 22 (by decide)] at t2 t29
  rw [z0 21 (by decide)] at t28 t19
  rw [z0 23 (by decide)] at t30
  rw [zc 11 (by decide)] at t15 t19
  rw [zc 12 (by decide)] at t16 t19
  rw [zc 13 (by decide)] at t17
  rw [zc 14 (by decide)] at t18
  have fT : z_fr [15, 16, 17, 18, 19] [(0, 28), (0, 29), (0, 30), (0, 36), (0, 43), (0, 45)] (z_up m 0 2 0) (F_M_takeMinistry (z_up m 0 2 0)).2 := fr_F_M_takeMinistry
  have fM : z_fr [15, 16, 17, 18, 19] [(0, 2), (0, 28), (0, 29), (0, 30), (0, 36), (0, 43), (0, 45)] m (F_M_takeMinistry (z_up m 0 2 0)).2 := fr_tr (fr_uf rfl fr_rf) (fr_wk fT rfl rfl)
  have tT : (F_M_takeMinistry (z_up m 0 2 0)).2 0 2 = 0 := by rw [fr_f fT 0 2 rfl rfl, z_up_at]
  generalize F_M_takeMinistry (z_up m 0 2 0) = T at *
  -- the class
  have q31 : ∀ i, i < 54 → F_Y_copyFrom_34 u 31 i = u 35 i := fun i hi => by
    unfold F_Y_copyFrom_34
    rw [cp_ot (by decide), cp_in (by omega)]
    congr 1
    omega
  have q32 : ∀ i, i < 4 → F_Y_copyFrom_34 u 32 i = u 36 i := fun i hi => by
    unfold F_Y_copyFrom_34
    rw [cp_in (by omega), cp_ot (by decide)]
    congr 1
    omega
  have fc : z_fr [31, 32] [] u (F_Y_copyFrom_34 u) := fr_F_Y_copyFrom_34
  generalize F_Y_copyFrom_34 u = c at *
  have fs : z_fr [42, 43, 44] [(41, 6), (41, 7), (41, 8)] c (F_K_start c) := fr_F_K_start
  have fa : z_fr [42, 43] [] c (A_K_start_2 c 7) := fr_A_K_start_2
  have fb : z_fr [44] [] (A_K_start_2 c 7) (A_K_start_30 c (A_K_start_2 c 7) 4) := fr_A_K_start_30
  have s42 : ∀ i, i < 7 → F_K_start c 42 i = -1 := fun i hi => by
    unfold F_K_start
    rw [z_up_other (by decide), z_up_other (by decide), z_up_other (by decide), fr_c fb 42 rfl rfl, (k_s2 7 i).1, if_pos hi]
  have s43 : ∀ i, i < 7 → F_K_start c 43 i = 0 := fun i hi => by
    unfold F_K_start
    rw [z_up_other (by decide), z_up_other (by decide), z_up_other (by decide), fr_c fb 43 rfl rfl, (k_s2 7 i).2, if_pos hi]
  have s44 : ∀ i, i < 4 → F_K_start c 44 i = c 31 (3 + 3 * i) := fun i hi => by
    unfold F_K_start
    rw [z_up_other (by decide), z_up_other (by decide), z_up_other (by decide), k_s30, if_pos hi, x_val (fr_c fa 31 rfl rfl), (d_v1 hi).1]
  have s416 : F_K_start c 41 6 = c 31 1 := by
    unfold F_K_start
    rw [z_up_ne (by decide), z_up_ne (by decide), z_up_at, x_val (v := c) (by rw [fr_c fb 31 rfl rfl, fr_c fa 31 rfl rfl]), d_v01]
  have s417 : F_K_start c 41 7 = 0 := by
    unfold F_K_start
    rw [z_up_ne (by decide), z_up_at]
  have s418 : F_K_start c 41 8 = 0 := by
    unfold F_K_start
    exact z_up_at
  have ps : P_K_start c := by
    refine ⟨fun i hi => by omega, fun i hi => ⟨by omega, d_pv (by omega) (by omega) (by omega), by omega⟩, d_pv (by omega) (by omega) (by omega)⟩
  generalize F_K_start c = s at *
  have fx : z_fr [] [(53, 2), (72, 4), (27, 13)] s (z_up (F_C_forget (F_H_forget s)) 27 13 0) := fr_uf rfl (fr_uf rfl (fr_uf rfl fr_rf))
  have x53 : z_up (F_C_forget (F_H_forget s)) 27 13 0 53 2 = 0 := by
    unfold F_C_forget F_H_forget
    rw [z_up_other (by decide), z_up_other (by decide), z_up_at]
  have x72 : z_up (F_C_forget (F_H_forget s)) 27 13 0 72 4 = 0 := by
    unfold F_C_forget F_H_forget
    rw [z_up_other (by decide), z_up_at]
  have x27 : z_up (F_C_forget (F_H_forget s)) 27 13 0 27 13 = 0 := z_up_at
  generalize z_up (F_C_forget (F_H_forget s)) 27 13 0 = x at *
  have x28 : x 28 1 = u 28 1 := by rw [fr_f fx 28 1 rfl rfl, fr_f fs 28 1 rfl rfl, fr_f fc 28 1 rfl rfl]
  have pT : P_T_cut x 0 := ⟨by omega, fun _ => trivial, fun _ => by omega⟩
  have fk : z_fr [] [(28, 1)] x (F_T_cut x 0) := fr_F_T_cut
  have k28 : F_T_cut x 0 28 1 = 0 := by
    unfold F_T_cut
    rw [if_neg (by omega)]
    by_cases y : (0 : Int) ≥ x 28 1
    · rw [if_pos y]
      omega
    · rw [if_neg y, z_up_at]
  generalize F_T_cut x 0 = v at *
  have fD : z_fr [31, 32, 42, 43, 44] [(41, 6), (41, 7), (41, 8), (53, 2), (72, 4), (27, 13), (28, 1)] u v := fr_tr (fr_tr (fr_tr (fr_wk fc rfl rfl) (fr_wk fs rfl rfl)) (fr_wk fx rfl rfl)) (fr_wk fk rfl rfl)
  have v31 : ∀ i, i < 54 → v 31 i = u 35 i := fun i hi => by rw [fr_c fk 31 rfl rfl, fr_c fx 31 rfl rfl, fr_c fs 31 rfl rfl, q31 i hi]
  have v32 : ∀ i, i < 4 → v 32 i = u 36 i := fun i hi => by rw [fr_c fk 32 rfl rfl, fr_c fx 32 rfl rfl, fr_c fs 32 rfl rfl, q32 i hi]
  have v42 : ∀ i, i < 7 → v 42 i = -1 := fun i hi => by rw [fr_c fk 42 rfl rfl, fr_c fx 42 rfl rfl, s42 i hi]
  have v43 : ∀ i, i < 7 → v 43 i = 0 := fun i hi => by rw [fr_c fk 43 rfl rfl, fr_c fx 43 rfl rfl, s43 i hi]
  have v44 : ∀ i, i < 4 → v 44 i = u 35 (3 + 3 * i) := fun i hi => by rw [fr_c fk 44 rfl rfl, fr_c fx 44 rfl rfl, s44 i hi, q31 _ (by omega)]
  have v416 : v 41 6 = u 35 1 := by rw [fr_f fk 41 6 rfl rfl, fr_f fx 41 6 rfl rfl, s416, q31 1 (by decide)]
  have v417 : v 41 7 = 0 := by rw [fr_f fk 41 7 rfl rfl, fr_f fx 41 7 rfl rfl, s417]
  have v418 : v 41 8 = 0 := by rw [fr_f fk 41 8 rfl rfl, fr_f fx 41 8 rfl rfl, s418]
  have v53 : v 53 2 = 0 := by rw [fr_f fk 53 2 rfl rfl, x53]
  have v72 : v 72 4 = 0 := by rw [fr_f fk 72 4 rfl rfl, x72]
  have v27 : v 27 13 = 0 := by rw [fr_f fk 27 13 rfl rfl, x27]
  obtain ⟨hw1, hw2, hw3, hw4⟩ := hw
  have zt : z_sc 5 0 = 1 ∧ z_sc 6 0 = 3 ∧ z_sc 5 1 = 0 ∧ z_sc 6 1 = 99 ∧ z_sc 5 3 = 0 ∧ z_sc 6 3 = 30 ∧ z_sc 5 4 = 0 ∧ z_sc 6 4 = 1 ∧ z_sc 5 6 = 1 ∧ z_sc 6 6 = 5 ∧ z_sc 5 7 = 0 ∧ z_sc 5 8 = 0 ∧ z_sc 6 8 = 1 ∧ z_sc 5 9 = 0 ∧ z_sc 5 10 = 0 := by decide
  obtain ⟨y50, y60, y51, y61, y53, y63, y54, y64, y56, y66, y57, y58, y68, y59, y510⟩ := zt
  have sv0 := t_vs hD (i := 0) (by decide)
  have sv1 := t_vs hD (i := 1) (by decide)
  rw [y50, y60] at sv0
  rw [y51, y61] at sv1
  refine ⟨ps, pT, t1, by rw [v32 2 (by decide), c2.1, t2], ?_, ⟨?_, ?_, ?_, ?_, ?_, ?_, ?_, ?_⟩, ⟨⟨?_, ?_, ?_, ?_, ?_, ?_, ?_, ?_, ?_⟩, ?_⟩, ⟨?_, ?_⟩, ⟨?_, ?_, ?_⟩, y_la h6 fM fD rfl, ⟨?_, ?_, ?_⟩, y_re h8 fM fD rfl, y_fl h9 fM fD rfl, y_rd h10 fM fD rfl⟩
  · exact ⟨by rw [tT, k28], by rw [k28]; omega, fun i hi => by rw [k28] at hi; omega⟩
  · rw [v32 1 (by decide), v32 2 (by decide), v32 3 (by decide), t28, t29, t30]
    exact ⟨c1.1, c2.1, c3.1⟩
  · rw [t28, t29, t30]
    unfold r_mn
    omega
  · rw [t15 0 (by decide), v31 0 (by decide), t29]
    exact ⟨sv0.1, by omega, fun _ => by omega⟩
  · intro k hk
    rw [t28] at hk
    have q := t_vw hD (n := k) (i := 1) hk (by decide)
    rw [y54, y64] at q
    rw [t16 _ (by omega), v31 _ (by omega)]
    exact ⟨q.1, by omega⟩
  · intro n hn
    rw [t29] at hn
    have q0 := t_vn hD (n := n) (i := 0) hn (by decide)
    have q1 := t_vn hD (n := n) (i := 1) hn (by decide)
    have q2 := t_vn hD (n := n) (i := 2) hn (by decide)
    have kn := hw3 n (by omega)
    rw [y56, y66, Nat.add_zero, Nat.add_zero] at q0
    rw [y57] at q1
    rw [y58, y68] at q2
    rw [t17 _ (by omega), t17 _ (by omega), t17 _ (by omega), v31 _ (by omega), v31 _ (by omega), v31 _ (by omega), t29]
    exact ⟨⟨q0.1, by omega, by omega⟩, ⟨q1.1, by omega, by omega, by omega⟩, ⟨q2.1, by omega⟩⟩
  · intro f hf
    rw [t30] at hf
    have q0 := t_vf hD (n := f) (i := 0) hf (by decide)
    have q1 := t_vf hD (n := f) (i := 1) hf (by decide)
    have kf := hw4 f (by omega)
    rw [y59, Nat.add_zero, Nat.add_zero] at q0
    rw [y510] at q1
    rw [t18 _ (by omega), t18 _ (by omega), v31 _ (by omega), v31 _ (by omega), t29]
    exact ⟨⟨q0.1, by omega, by omega⟩, ⟨q1.1, by omega, by omega⟩⟩
  · intro i hi
    rw [t17 i hi]
    exact hD.2.2.2.1 i hi
  · intro i hi
    rw [v31 i hi]
    exact hD.2.2.2.2 i hi
  · intro n hn
    rw [v42 n hn, v43 n hn]
    omega
  · intro n hn
    rw [t29] at hn
    rw [v42 n (by omega), t28]
    omega
  · intro a ha
    rw [t19 a (by omega), if_neg (by omega), if_neg (by omega)]
    omega
  · intro a i ha hi
    rw [t19 a (by omega), if_neg (by omega), if_neg (by omega)] at hi
    omega
  · intro n hn hne
    rw [t29] at hn
    exact absurd (v42 n (by omega)) hne
  · intro k hk
    rw [t28] at hk
    have q := t_vw hD (n := k) (i := 0) hk (by decide)
    rw [y53, y63, Nat.add_zero, Nat.add_zero] at q
    rw [t19 (32 + k) (by omega), if_neg (by omega), if_pos (by omega), v44 k (by omega), show 2 * (32 + k - 32) = 2 * k by omega]
    exact ⟨q.1, by omega, by omega⟩
  · rw [t19 36 (by decide), if_pos rfl, v416]
    exact ⟨sv1.1, by omega, by omega⟩
  · rw [t19 37 (by decide), if_neg (by decide), if_neg (by omega), v417]
    omega
  · rw [t19 38 (by decide), if_neg (by decide), if_neg (by omega), v418]
    omega
  · have e39 : T.2 19 39 = 0 := by rw [t19 39 (by decide), if_neg (by decide), if_neg (by omega)]
    constructor
    · rw [e39, v418]
      rfl
    · intro i hi
      rw [e39] at hi
      omega
  · rw [t36, v53]
  · have hh := h4.2
    refine ⟨by rw [t36]; omega, ?_, fun j hj => by rw [t36] at hj; omega⟩
    rw [fr_f fD 53 1 rfl rfl]
    exact hh.2.1
  · rw [v27, t45]
  · rw [t45]
    exact Or.inl rfl
  · rw [t45]
    exact fun z => absurd rfl z
  · rw [t43, v72]
  · rw [v72]
    omega
  · intro i hi
    rw [v72] at hi
    omega
