/-! who is least missed -/
theorem g_low {w v : z_Wd} (h2 : r_mi w v) (h3 : r_no w v) {n : Nat} (hn : (n : Int) < w 0 29) : F_G_lowestTaking v (n : Int) = F_M_firstWell w (n : Int) ∧ P_G_lowestTaking v (n : Int) ∧ P_M_firstWell w (n : Int) ∧ (F_M_firstWell w (n : Int) = -1 ∨ ∃ a : Nat, F_M_firstWell w (n : Int) = (a : Int) ∧ (a : Int) < w 0 28) := by
  have e1 := h2.1
  have e2 := h2.2.1.1
  have ee : ∀ a : Nat, (a : Int) < w 0 28 → E_G_lowestTaking_2 v (n : Int) a = E_M_firstWell_2 w (n : Int) a ∧ R_G_lowestTaking_2 v (n : Int) a = R_M_firstWell_2 w (n : Int) a := fun a ha => by
    unfold E_G_lowestTaking_2 E_M_firstWell_2 R_G_lowestTaking_2 R_M_firstWell_2
    rw [(g_takes h2 h3 hn ha).1]
    exact ⟨rfl, rfl⟩
  have ez : zfind (E_G_lowestTaking_2 v (n : Int)) (w 0 28).toNat = zfind (E_M_firstWell_2 w (n : Int)) (w 0 28).toNat := fi_c _ (fun i hi => (ee i (by omega)).1)
  have r := zfind_r (E_M_firstWell_2 w (n : Int)) (w 0 28).toNat
  refine ⟨?_, ?_, ?_, ?_⟩
  · unfold F_G_lowestTaking F_M_firstWell
    rw [e1.1, ez]
    split
    · rfl
    · exact (ee _ (by omega)).2
  · unfold P_G_lowestTaking
    exact ⟨fun i hi _ => ⟨by omega, by omega, (g_takes h2 h3 hn (by omega)).2.1⟩, by omega, by omega⟩
  · unfold P_M_firstWell
    exact ⟨fun i hi _ => ⟨by omega, by omega, (g_takes h2 h3 hn (by omega)).2.2⟩, by omega, by omega⟩
  · unfold F_M_firstWell
    split
    · exact Or.inl rfl
    · rename_i c
      have s := zfind_spec c
      generalize zfind (E_M_firstWell_2 w (n : Int)) (w 0 28).toNat = z at *
      obtain ⟨a, rfl⟩ := Int.eq_ofNat_of_zero_le (by omega : 0 ≤ z)
      rw [Int.toNat_natCast] at s ⊢
      refine Or.inr ⟨a, ?_, by omega⟩
      unfold E_M_firstWell_2 at s
      unfold R_M_firstWell_2
      split at s
      · cases s
      · rename_i y
        rw [if_neg y]
theorem sim_lm1 {x u : z_Wd} (hx : r_all x u) {n a : Nat} (hn : (n : Int) < x 0 29) (ha : (a : Int) < x 0 28) (hf : u 42 n = -1) (hw : F_M_firstWell x (n : Int) = (a : Int)) :
    (P_K_inside u (-1) ∧ P_G_missedIn u (a : Int) (n : Int) 0 (zz_and (F_K_inside u (-1)) (zz_xor (zz_shl 1 (n : Int)) (-1)))) ∧ (P_M_putAside x 0 ∧ P_M_firstWell (F_M_putAside x 0) (n : Int) ∧ P_M_dipNow (F_M_putAside x 0) (n : Int) (a : Int) ∧ P_M_missedOf (F_M_dipNow (F_M_putAside x 0) (n : Int) (a : Int)) (n : Int) ∧ P_M_takeBack (F_M_missedOf (F_M_dipNow (F_M_putAside x 0) (n : Int) (a : Int)) (n : Int)).2 0) ∧ F_M_firstWell (F_M_putAside x 0) (n : Int) = (a : Int) ∧ (F_G_missedIn u (a : Int) (n : Int) 0 (zz_and (F_K_inside u (-1)) (zz_xor (zz_shl 1 (n : Int)) (-1)))).1 = (F_M_missedOf (F_M_dipNow (F_M_putAside x 0) (n : Int) (a : Int)) (n : Int)).1 ∧ (0 ≤ (F_M_missedOf (F_M_dipNow (F_M_putAside x 0) (n : Int) (a : Int)) (n : Int)).1 ∧ (F_M_missedOf (F_M_dipNow (F_M_putAside x 0) (n : Int) (a : Int)) (n : Int)).1 ≤ 30) ∧ r_all (F_M_takeBack (F_M_missedOf (F_M_dipNow (F_M_putAside x 0) (n : Int) (a : Int)) (n : Int)).2 0) (F_G_missedIn u (a : Int) (n : Int) 0 (zz_and (F_K_inside u (-1)) (zz_xor (zz_shl 1 (n : Int)) (-1)))).2 ∧ z_fr [9, 10, 19, 22] [] x (F_M_takeBack (F_M_missedOf (F_M_dipNow (F_M_putAside x 0) (n : Int) (a : Int)) (n : Int)).2 0) := by
  obtain ⟨h1, h2, h3, h4, h5, h6, h7, h8, h9, h10⟩ := id hx
  have hd := g_ok h2 h3
  have e1 := h2.1
  have e2 := h2.2.1
  unfold r_mn at e2
  have e9 := h3.1.2.2.2.2.2.2.2.2
  have f0 : z_fr [22] [] x (F_M_putAside x 0) := fr_F_M_putAside
  have hx0 : r_all (F_M_putAside x 0) u := rl_fr2 hx (fr_wk f0 rfl rfl) fr_rf
  have x29 : F_M_putAside x 0 0 29 = x 0 29 := fr_f f0 0 29 rfl rfl
  have x28 : F_M_putAside x 0 0 28 = x 0 28 := fr_f f0 0 28 rfl rfl
  have l0 := g_low h2 h3 hn
  have l1 := g_low hx0.2.1 hx0.2.2.1 (n := n) (by rw [x29]; exact hn)
  have fw : F_M_firstWell (F_M_putAside x 0) (n : Int) = (a : Int) := by rw [← l1.1, l0.1]; exact hw
  obtain ⟨d1, d2, d3⟩ := sim_dip hx0 (n := n) (a := a) (by rw [x29]; exact hn) (by rw [x28]; exact ha) hf
  have l6 := g_lt7 h2 h3 (a := a) (by omega) hn (by omega)
  have fd : z_fr [19] [] (F_M_putAside x 0) (F_M_dipNow (F_M_putAside x 0) (n : Int) (a : Int)) := fr_F_M_dipNow
  have gd : z_fr [42, 43] [] u (F_K_drown u (n : Int) (a : Int)) := fr_F_K_drown
  obtain ⟨k1, k2, k3, k4, k5, k6, k7, k8, k9, k10⟩ := id d3
  have eD : F_K_drown u (n : Int) (a : Int) = z_up (z_up u 43 n (x 19 a)) 42 n (a : Int) := by
    unfold F_K_drown
    simp only [h_hn]
    rw [if_neg (by omega), Int.toNat_natCast, g_cnt h2 h3 (by omega)]
  have v42 : ∀ i, F_K_drown u (n : Int) (a : Int) 42 i = if i = n then (a : Int) else u 42 i := fun i => by
    rw [eD]
    by_cases c : i = n
    · rw [if_pos c, c, z_up_at]
    · rw [if_neg c, z_up_ne c, z_up_other (by decide)]
  have v43 : ∀ i, F_K_drown u (n : Int) (a : Int) 43 i = if i = n then x 19 a else u 43 i := fun i => by
    rw [eD, z_up_other (by decide)]
    by_cases c : i = n
    · rw [if_pos c, c, z_up_at]
    · rw [if_neg c, z_up_ne c]
  have hT : g_T (F_K_drown u (n : Int) (a : Int)) n = true := by
    unfold g_T
    rw [v42, if_pos rfl]
    exact bne_iff_ne.mpr (by omega)
  have y29 : F_M_dipNow (F_M_putAside x 0) (n : Int) (a : Int) 0 29 = x 0 29 := by rw [fr_f fd 0 29 rfl rfl, x29]
  have ku : F_K_drown u (n : Int) (a : Int) 41 8 = u 41 8 := fr_f gd 41 8 rfl rfl
  have ky := k3.1.2.2.2.2.2.2.2.2
  obtain ⟨m1, m2⟩ := M_mi k2 k6 (g_ok k2 k3) (g_pl k2 k3) ky.2 ky.1 (n := n) (by rw [y29]; exact hn) (Or.inl hT)
  have kn2 : m_kn (F_M_dipNow (F_M_putAside x 0) (n : Int) (a : Int)) (n : Int) (fun i => g_T (F_K_drown u (n : Int) (a : Int)) i && F_K_drown u (n : Int) (a : Int) 42 i != -1) = m_kn x (n : Int) (fun i => (i == n) || (u 42 i != -1)) := by
    unfold m_kn B_M_knownBy
    rw [fr_c fd 17 rfl rfl, fr_c f0 17 rfl rfl, y29]
    congr 1
    refine zcnt_c _ (fun i _ => ?_)
    unfold g_T
    dsimp only
    rw [v42]
    by_cases c : i = n
    · have : ((a : Int) != -1) = true := bne_iff_ne.mpr (by omega)
      rw [if_pos c, this]
      simp [c]
    · have c3 : (i == n) = false := beq_eq_false_iff_ne.mpr c
      rw [if_neg c]
      simp [c3]
  have ab2 : m_ab (F_K_drown u (n : Int) (a : Int)) n (g_T (F_K_drown u (n : Int) (a : Int))) (F_M_dipNow (F_M_putAside x 0) (n : Int) (a : Int) 0 29) = 0 := by
    unfold m_ab
    refine su_none _ (fun i hi => ?_)
    have : dv_o (F_K_drown u (n : Int) (a : Int)) i n = false := by
      unfold dv_o
      rw [v42 i, v42 n, v43 i, v43 n, if_pos rfl, if_pos rfl]
      by_cases c : i = n
      · rw [if_pos c, if_pos c]
        have : ¬ x 19 a < x 19 a := by omega
        simp [this]
      · rw [if_neg c, if_neg c]
        by_cases c2 : u 42 i = (a : Int)
        · have q := h3.1.2.2.2.2.1 i (by omega) (by omega)
          rw [c2, Int.toNat_natCast] at q
          have : ¬ x 19 a < u 43 i := by omega
          simp [this]
        · simp [c2]
    rw [this, Bool.and_false]
    rfl
  rw [kn2, ab2, v42, if_pos rfl, if_neg (by omega)] at m1
  have fz : z_fr [19, 22] [] x (F_M_dipNow (F_M_putAside x 0) (n : Int) (a : Int)) := fr_tr (fr_wk f0 rfl rfl) (fr_wk fd rfl rfl)
  rw [x_MS (w := x) (v := u) (fr_f fz 0 33 rfl rfl) (fr_c fz 2 rfl rfl) (fr_c fz 3 rfl rfl) (fr_c fz 5 rfl rfl) (fr_c fz 6 rfl rfl) (fr_c fz 7 rfl rfl) (fr_c fz 8 rfl rfl) (fr_c gd 31 rfl rfl) ku] at m1
  have rk := m_knr h2 (n := (n : Int)) (D := fun i => (i == n) || (u 42 i != -1))
  have eI : zz_and (F_K_inside u (-1)) (zz_xor (zz_shl 1 (n : Int)) (-1)) = ((zbits (fun i => (u 42 i == -1) && (i != n)) (x 0 29).toNat : Nat) : Int) := by
    rw [d_in hd, e1.2.1, bt_minus (by omega) (by omega)]
  have ekn : F_J_bitCount_0f7a4 u (zz_and (F_Y_knownBy u (n : Int)) (zz_and (F_K_inside u (-1)) (zz_xor (zz_shl 1 (n : Int)) (-1)))) = m_kn x (n : Int) (fun i => (i == n) || (u 42 i != -1)) := by
    rw [eI]
    refine g_kno (v := u) h2 h2 (fun i _ => ?_)
    by_cases z : u 42 i = -1
    · simp [z, bne]
    · have z2 : (u 42 i == -1) = false := beq_eq_false_iff_ne.mpr z
      simp [z2, bne]
  obtain ⟨g1, g2⟩ := G_mi h2 h6 hd e9.2 hn ekn rk (b := 0) (a := (a : Int)) (by omega) (by omega)
  have rm := m_MSr h2 hn (b := 0) (a := (a : Int)) rk
  have fm : z_fr [9, 10] [] (F_M_dipNow (F_M_putAside x 0) (n : Int) (a : Int)) (F_M_missedOf (F_M_dipNow (F_M_putAside x 0) (n : Int) (a : Int)) (n : Int)).2 := fr_F_M_missedOf
  have ft : z_fr [9, 10, 19, 22] [] x (F_M_takeBack (F_M_missedOf (F_M_dipNow (F_M_putAside x 0) (n : Int) (a : Int)) (n : Int)).2 0) := fr_tr (fr_tr (fr_wk fz rfl rfl) (fr_wk fm rfl rfl)) (fr_wk fr_F_M_takeBack rfl rfl)
  have r0 := (h3.1.2.2.1 a (by omega)).1
  have t19 : F_M_takeBack (F_M_missedOf (F_M_dipNow (F_M_putAside x 0) (n : Int) (a : Int)) (n : Int)).2 0 19 = x 19 := by
    funext j
    unfold F_M_takeBack
    by_cases c : j < 39
    · rw [show (39 * (0 : Int)).toNat = 0 from rfl, cp_in (by omega), fr_c fm 22 rfl rfl, fr_c fd 22 rfl rfl]
      unfold F_M_putAside
      rw [show (39 * (0 : Int)).toNat = 0 from rfl, cp_in (by omega)]
      congr 1
      omega
    · rw [cp_no (by omega), fr_c fm 19 rfl rfl]
      unfold F_M_dipNow
      rw [Int.toNat_natCast, fr_c f0 19 rfl rfl, z_up_ne (by omega), z_up_ne (by omega), fr_c f0 19 rfl rfl]
  have fG : z_fr [57, 60, 63, 66, 69] [(58, 3), (61, 3), (64, 3), (67, 3)] u (F_G_missedIn u (a : Int) (n : Int) 0 (zz_and (F_K_inside u (-1)) (zz_xor (zz_shl 1 (n : Int)) (-1)))).2 := fr_F_G_missedIn
  refine ⟨⟨p_in hd (by omega), g2⟩, ⟨⟨by decide, by decide⟩, l1.2.2.1, d2, m2, ⟨by decide, by decide⟩⟩, fw, by rw [g1, m1], by rw [m1]; exact rm, rl_fr2 hx (fr_wk (fr_19 ft t19) rfl rfl) (fr_wk fG rfl rfl), ft⟩
theorem sim_lm {w v : z_Wd} (h : r_all w v) : (F_G_leastMissed v).1 = (F_M_leastMissed w).1 ∧ P_G_leastMissed v ∧ P_M_leastMissed w ∧ r_all (F_M_leastMissed w).2 (F_G_leastMissed v).2 := by
  have e1 := h.2.1.1
  have e2 := h.2.1.2.1.2.1
  have fM : ∀ i, z_fr [9, 10, 19, 22] [] w (A_M_leastMissed_6 w i).2.2 := fun i => fr_A_M_leastMissed_6
  have fG : ∀ i, z_fr [57, 60, 63, 66, 69] [(58, 3), (61, 3), (64, 3), (67, 3)] v (A_G_leastMissed_6 v i).2.2 := fun i => fr_A_G_leastMissed_6
  have main : ∀ i : Nat, (i : Int) ≤ w 0 29 → (A_G_leastMissed_6 v i).1 = (A_M_leastMissed_6 w i).1 ∧ (A_G_leastMissed_6 v i).2.1 = (A_M_leastMissed_6 w i).2.1 ∧ r_all (A_M_leastMissed_6 w i).2.2 (A_G_leastMissed_6 v i).2.2 ∧ (-1 ≤ (A_M_leastMissed_6 w i).1 ∧ (A_M_leastMissed_6 w i).1 < i) ∧ (0 ≤ (A_M_leastMissed_6 w i).2.1 ∧ (A_M_leastMissed_6 w i).2.1 ≤ 30) := by
    intro i
    induction i with
    | zero => intro _; exact ⟨rfl, rfl, h, by simp [A_M_leastMissed_6], by simp [A_M_leastMissed_6]⟩
    | succ i ih =>
      intro hi
      obtain ⟨i1, i2, i3, i4, i5⟩ := ih (by omega)
      have x29 := fr_f (fM i) 0 29 rfl rfl
      have x28 := fr_f (fM i) 0 28 rfl rfl
      simp only [A_G_leastMissed_6, A_M_leastMissed_6]
      generalize A_G_leastMissed_6 v i = G at *
      generalize A_M_leastMissed_6 w i = M at *
      have hd := g_ok i3.2.1 i3.2.2.1
      have u32 := i3.2.1.1.2.1
      have f1 := d_fr hd (n := i) (by rw [u32, x29]; omega)
      have f2 := g_frM i3.2.1 i3.2.2.1 (n := i) (by rw [x29]; omega)
      have lw := g_low i3.2.1 i3.2.2.1 (n := i) (by rw [x29]; omega)
      simp only [f1.2, f2]
      by_cases c : G.2.2 42 i = -1
      · rw [if_neg (show ¬ G.2.2 42 i ≠ -1 by omega), if_neg (show ¬ G.2.2 42 i ≠ -1 by omega), lw.1]
        rcases lw.2.2.2 with z | ⟨a, z, ha⟩
        · rw [if_pos z, if_pos z]
          exact ⟨i1, i2, i3, by dsimp only; omega, i5⟩
        · obtain ⟨s1, s2, s3, s4, s5, s6, s7⟩ := sim_lm1 i3 (n := i) (a := a) (by rw [x29]; omega) ha c z
          rw [z, s3, s4, i1, i2, if_neg (show ¬ (a : Int) = -1 by omega), if_neg (show ¬ (a : Int) = -1 by omega)]
          by_cases c2 : M.1 = -1
          · rw [if_pos c2, if_pos c2]
            exact ⟨rfl, rfl, s6, by dsimp only; omega, s5⟩
          · rw [if_neg c2, if_neg c2]
            split
            · exact ⟨rfl, rfl, s6, by dsimp only; omega, i5⟩
            · exact ⟨rfl, rfl, s6, by dsimp only; omega, s5⟩
      · rw [if_pos c, if_pos c]
        exact ⟨i1, i2, i3, by dsimp only; omega, i5⟩
  have hm := main (w 0 29).toNat (by omega)
  refine ⟨?_, ?_, ?_, ?_⟩
  · unfold F_G_leastMissed F_M_leastMissed
    rw [e1.2.1]
    exact hm.1
  · unfold P_G_leastMissed
    have ew : ∀ i, (A_G_leastMissed_6 v i).2.2 32 2 = v 32 2 := fun i => fr_f (fG i) 32 2 rfl rfl
    refine ⟨fun i hi => ?_, by omega, by rw [ew]; omega, ew _⟩
    obtain ⟨i1, i2, i3, i4, i5⟩ := main i (by omega)
    have x29 := fr_f (fM i) 0 29 rfl rfl
    rw [ew, i1, i2]
    generalize A_G_leastMissed_6 v i = G at *
    generalize A_M_leastMissed_6 w i = M at *
    have hd := g_ok i3.2.1 i3.2.2.1
    have u32 := i3.2.1.1.2.1
    have f1 := d_fr hd (n := i) (by rw [u32, x29]; omega)
    have lw := g_low i3.2.1 i3.2.2.1 (n := i) (by rw [x29]; omega)
    have r1 := i3.2.1.2.1.1
    refine ⟨by omega, by omega, rfl, p_fr hd (by omega), fun _ => trivial, fun c => ⟨lw.2.1, ?_, fun _ => trivial, fun c2 => ?_⟩⟩
    · rw [lw.1]
      rcases lw.2.2.2 with z | ⟨a, z, ha⟩ <;> omega
    · rw [f1.2] at c
      rw [lw.1] at c2 ⊢
      rcases lw.2.2.2 with z | ⟨a, z, ha⟩
      · exact absurd z c2
      · obtain ⟨s1, s2, s3, s4, s5, s6, s7⟩ := sim_lm1 i3 (n := i) (a := a) (by rw [x29]; omega) ha (by omega) z
        rw [z, s4]
        exact ⟨s1.1, s1.2, by omega, fun _ => trivial, fun _ => ⟨by omega, by omega⟩⟩
  · unfold P_M_leastMissed
    have ew : ∀ i, (A_M_leastMissed_6 w i).2.2 0 29 = w 0 29 := fun i => fr_f (fM i) 0 29 rfl rfl
    refine ⟨fun i hi => ?_, by omega, by rw [ew]; omega, ew _⟩
    obtain ⟨i1, i2, i3, i4, i5⟩ := main i (by omega)
    have x29 := ew i
    rw [ew]
    generalize A_G_leastMissed_6 v i = G at *
    generalize A_M_leastMissed_6 w i = M at *
    have hp := g_pl i3.2.1 i3.2.2.1
    have f2 := g_frM i3.2.1 i3.2.2.1 (n := i) (by rw [x29]; omega)
    have lw := g_low i3.2.1 i3.2.2.1 (n := i) (by rw [x29]; omega)
    have r1 := i3.2.1.2.1.1
    refine ⟨by omega, by omega, rfl, p_Mfr i3.2.1 hp (by omega), fun _ => trivial, fun c => ⟨lw.2.2.1, ?_, fun _ => trivial, fun c2 => ?_⟩⟩
    · rcases lw.2.2.2 with z | ⟨a, z, ha⟩ <;> omega
    · rw [f2] at c
      rcases lw.2.2.2 with z | ⟨a, z, ha⟩
      · exact absurd z c2
      · obtain ⟨s1, s2, s3, s4, s5, s6, s7⟩ := sim_lm1 i3 (n := i) (a := a) (by rw [x29]; omega) ha (by omega) z
        rw [s3]
        exact ⟨s2.1, s2.2.1, s2.2.2.1, s2.2.2.2.1, s2.2.2.2.2, by omega, fun _ => trivial, fun _ => ⟨by omega, by omega⟩⟩
  · unfold F_G_leastMissed F_M_leastMissed
    rw [e1.2.1]
    exact hm.2.2.1
theorem ok_most : S_most Rl := by
  intro w a ha hr
  have key : ∀ w v, r_all w v → P_D_most v a ∧ P_M_most w a ∧ (F_D_most v a).1 = (F_M_most w a).1 ∧ r_all (F_M_most w a).2 (F_D_most v a).2 := by
    intro w v h
    obtain ⟨h1, h2, h3, -⟩ := id h
    have hd := g_ok h2 h3
    have hp := g_pl h2 h3
    have e1 := h2.1
    have e2 := h2.2.1.2.1
    by_cases c0 : w 0 29 = 0
    · have eD : F_D_most v a = (-1, v) := by
        unfold F_D_most
        simp only [h_st]
        rw [if_pos (by omega)]
      have eM : F_M_most w a = (-1, w) := by
        unfold F_M_most
        rw [if_pos c0]
      rw [eD, eM]
      refine ⟨?_, ?_, rfl, h⟩
      · unfold P_D_most P_Y_stands
        simp only [h_st]
        exact ⟨by omega, fun _ => trivial, fun z => by omega⟩
      · unfold P_M_most
        exact ⟨by omega, fun _ => trivial, fun z => absurd c0 z⟩
    · obtain ⟨n1, n2, n3⟩ := sim_net h2 h3
      obtain ⟨⟨t1, t2, t3⟩, ⟨t4, t5, t6⟩⟩ := sim_top h2 h3 c0
      obtain ⟨l1, l2, l3⟩ := sim_long h2 h3 c0
      obtain ⟨d1, d2, d3⟩ := sim_dear h2 h3
      obtain ⟨a1, a2, a3, a4⟩ := sim_am h c0
      obtain ⟨m1, m2, m3, m4⟩ := sim_lm h
      refine ⟨?_, ?_, ?_⟩
      · unfold P_D_most P_Y_stands
        simp only [h_st]
        exact ⟨by omega, fun _ => trivial, fun _ => ⟨ha, fun _ => m2, fun _ => ⟨fun _ => n2, fun _ => ⟨fun _ => a2, fun _ => ⟨fun _ => t2, fun _ => ⟨fun _ => t5, fun _ => ⟨fun _ => l2, fun _ => ⟨fun _ => d2, fun _ => ⟨fun _ => p_in hd (by omega), fun _ => trivial⟩⟩⟩⟩⟩⟩⟩⟩⟩
      · unfold P_M_most
        exact ⟨by omega, fun _ => trivial, fun _ => ⟨ha, fun _ => m3, fun _ => ⟨fun _ => n3, fun _ => ⟨fun _ => a3, fun _ => ⟨fun _ => t3, fun _ => ⟨fun _ => t6, fun _ => ⟨fun _ => l3, fun _ => ⟨fun _ => d3, fun _ => ⟨fun _ => p_Mdr h2 hp, fun _ => trivial⟩⟩⟩⟩⟩⟩⟩⟩⟩
      · unfold F_D_most F_M_most
        simp only [h_st]
        rw [if_neg (show ¬ v 32 2 ≤ 0 by omega), if_neg c0, n1, t1, t4, l1, d1, g_dD h2 h3, g_dM h2 h3]
        by_cases b0 : a = 0
        · rw [if_pos b0, if_pos b0]
          exact ⟨m1, m4⟩
        · rw [if_neg b0, if_neg b0]
          by_cases b1 : a = 1
          · rw [if_pos b1, if_pos b1]
            exact ⟨rfl, h⟩
          · rw [if_neg b1, if_neg b1]
            by_cases b2 : a = 2
            · rw [if_pos b2, if_pos b2]
              exact ⟨a1, a4⟩
            · rw [if_neg b2, if_neg b2]
              split
              · exact ⟨rfl, h⟩
              · split
                · exact ⟨rfl, h⟩
                · split
                  · exact ⟨rfl, h⟩
                  · split
                    · exact ⟨rfl, h⟩
                    · split
                      · exact ⟨rfl, h⟩
                      · exact ⟨rfl, h⟩
  have t := s_two hr (fr_F_D_most (a0 := a)) rfl (fr_F_M_most (w := (F_D_most w a).2) (a0 := a)) rfl
  obtain ⟨k1, k2, k3, k4⟩ := key _ _ t.1
  exact ⟨k1, k2, k3, t.2 k4⟩
