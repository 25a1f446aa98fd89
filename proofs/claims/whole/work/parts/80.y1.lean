/-! all who are drowned -/
theorem dv_oc {v u : z_Wd} (a : u 42 = v 42) (b : u 43 = v 43) : dv_o u = dv_o v := by
  funext m n
  unfold dv_o
  rw [a, b]
theorem dv_dc {v u : z_Wd} (a : u 31 = v 31) : dv_d u = dv_d v := by
  funext n
  unfold dv_d
  rw [a]
theorem d_okc {v u : z_Wd} (h : d_ok v) (a : u 31 = v 31) (b : u 32 = v 32) (c : u 42 = v 42) (d : u 43 = v 43) : d_ok u := by
  unfold d_ok
  rw [a, b, c, d]
  exact h
theorem g_kno {w v u : z_Wd} (h2 : r_mi w u) (h2v : r_mi w v) {n : Int} {q D : Nat → Bool} (hq : ∀ i, i < (w 0 29).toNat → q i = !D i) : F_J_bitCount_0f7a4 u (zz_and (F_Y_knownBy u n) ((zbits q (w 0 29).toNat : Nat) : Int)) = m_kn w n D := by
  have h7 := h2.2.1.2.1
  rw [g_kn h2]
  unfold F_M_knownBy m_kn
  rw [bt_and (by omega), bt_cnt (by omega)]
  congr 1
  refine zcnt_c _ (fun i hi => ?_)
  rw [hq i hi]
  simp [hi]
theorem sim_ma {w v : z_Wd} {T U : Nat → Bool} (h2 : r_mi w v) (h6 : r_la w v) (hd : d_ok v) (hp : r_pl w v T) (hy : 0 ≤ v 41 8 ∧ v 41 8 ≤ 999) (hye : w 19 38 = v 41 8) (hT : ∀ i, T i = (g_T v i && !U i)) : P_G_withoutThese v ((zbits U (w 0 29).toNat : Nat) : Int) ∧ P_M_missedAll w ∧ (F_G_withoutThese v ((zbits U (w 0 29).toNat : Nat) : Int)).1 = (F_M_missedAll w).1 ∧ (0 ≤ (F_M_missedAll w).1 ∧ (F_M_missedAll w).1 ≤ 210) := by
  have e7 := h2.2.1
  unfold r_mn at e7
  have e1 := h2.1
  have eD : zz_and ((zz_shl 1 (v 32 2)) - 1) (zz_xor (F_K_inside v (-1)) (-1)) = ((zbits (g_T v) (w 0 29).toNat : Nat) : Int) := by
    rw [d_dr hd, e1.2.1]
    rfl
  have eX : zz_and (zz_and ((zz_shl 1 (v 32 2)) - 1) (zz_xor (F_K_inside v (-1)) (-1))) (zz_xor ((zbits U (w 0 29).toNat : Nat) : Int) (-1)) = ((zbits T (w 0 29).toNat : Nat) : Int) := by
    rw [eD, bt_not (by omega) (by omega)]
    refine bt_x (fun i hi => ?_)
    rw [hT i]
    simp [hi]
  have eF : zz_or (F_K_inside v (-1)) ((zbits U (w 0 29).toNat : Nat) : Int) = ((zbits (fun i => (v 42 i == -1) || U i) (w 0 29).toNat : Nat) : Int) := by
    rw [d_in hd, e1.2.1, bt_or (by omega)]
  have fG : ∀ i, z_fr [57, 60, 63, 66, 69] [(58, 3), (61, 3), (64, 3), (67, 3)] v (A_G_withoutThese_28 v ((zbits U (w 0 29).toNat : Nat) : Int) i).2 := fun i => fr_A_G_withoutThese_28
  have fM : ∀ i, z_fr [9, 10] [] w (A_M_missedAll_4 w i).2 := fun i => fr_A_M_missedAll_4
  -- one name, in the worlds as they are
  have one : ∀ (u x : z_Wd) (n : Nat), z_fr [57, 60, 63, 66, 69] [(58, 3), (61, 3), (64, 3), (67, 3)] v u → z_fr [9, 10] [] w x → (n : Int) < w 0 29 → T n = true → (F_K_wellOf u (n : Int) = v 42 n ∧ P_K_wellOf u (n : Int) ∧ P_K_above u (n : Int) ((zbits T (w 0 29).toNat : Nat) : Int) ∧ P_G_missedIn u (v 42 n) (n : Int) (F_K_above u (n : Int) ((zbits T (w 0 29).toNat : Nat) : Int)) ((zbits (fun i => (v 42 i == -1) || U i) (w 0 29).toNat : Nat) : Int)) ∧ P_M_missedOf x (n : Int) ∧ (F_G_missedIn u (v 42 n) (n : Int) (F_K_above u (n : Int) ((zbits T (w 0 29).toNat : Nat) : Int)) ((zbits (fun i => (v 42 i == -1) || U i) (w 0 29).toNat : Nat) : Int)).1 = (F_M_missedOf x (n : Int)).1 ∧ (0 ≤ (F_M_missedOf x (n : Int)).1 ∧ (F_M_missedOf x (n : Int)).1 ≤ 30) := by
    intro u x n fu fx hn hTn
    have c31 := fr_c fu 31 rfl rfl
    have c42 := fr_c fu 42 rfl rfl
    have c43 := fr_c fu 43 rfl rfl
    have hdu := d_okc hd c31 (fr_c fu 32 rfl rfl) c42 c43
    have h2u := y_mi h2 fr_0 fu rfl
    have h6u := y_la h6 fr_0 fu rfl
    have u32 : u 32 2 = w 0 29 := h2u.1.2.1
    have hne : v 42 n ≠ -1 := by
      have := hT n
      rw [hTn] at this
      intro z
      unfold g_T at this
      rw [z] at this
      simp at this
    have rn := hp.1 n hn
    have ewo := (d_fr hdu (n := n) (by omega)).1
    rw [c42] at ewo
    have eab : F_K_above u (n : Int) ((zbits T (w 0 29).toNat : Nat) : Int) = m_ab v n T (w 0 29) := by
      have := d_ab hdu T n
      rw [u32, dv_oc c42 c43, dv_dc c31] at this
      exact this
    have ekn := g_kno (w := w) (v := v) (u := u) h2u h2 (n := (n : Int)) (q := fun i => (v 42 i == -1) || U i) (D := fun i => T i && v 42 i != -1) (fun i _ => by
      rw [hT i]
      unfold g_T
      by_cases z : v 42 i = -1
      · simp [z]
      · have z2 : (v 42 i == -1) = false := beq_eq_false_iff_ne.mpr z
        simp [z2, bne])
    have rk := m_knr h2 (n := (n : Int)) (D := fun i => T i && v 42 i != -1)
    have rb := m_abr h2 hd (n := n) (T := T)
    have gm := G_mi h2u h6u hdu (by rw [fr_f fu 41 8 rfl rfl]; exact hy) hn ekn rk rb (a := v 42 n) (by omega)
    have h2x := y_mi h2 fx fr_0 rfl
    have h6x := y_la h6 fx fr_0 rfl
    have x29 : x 0 29 = w 0 29 := fr_f fx 0 29 rfl rfl
    have hpx := pl_c hp (fr_f fx 0 28 rfl rfl) x29 (fr_c fx 19 rfl rfl)
    have mm := M_mi h2x h6x hd hpx hy (by rw [fr_c fx 19 rfl rfl]; exact hye) (n := n) (by rw [x29]; exact hn) (Or.inl hTn)
    have ekx : m_kn x (n : Int) (fun i => T i && v 42 i != -1) = m_kn w (n : Int) (fun i => T i && v 42 i != -1) := by
      unfold m_kn B_M_knownBy
      rw [fr_c fx 17 rfl rfl, x29]
    rw [ekx, x29, if_neg hne, x_MS (w := w) (v := v) (fr_f fx 0 33 rfl rfl) (fr_c fx 2 rfl rfl) (fr_c fx 3 rfl rfl) (fr_c fx 5 rfl rfl) (fr_c fx 6 rfl rfl) (fr_c fx 7 rfl rfl) (fr_c fx 8 rfl rfl) rfl rfl] at mm
    rw [x_MS (w := w) (v := v) (w' := w) (v' := u) rfl rfl rfl rfl rfl rfl rfl c31 (fr_f fu 41 8 rfl rfl)] at gm
    have rm := m_MSr h2 hn (b := m_ab v n T (w 0 29)) (a := v 42 n) rk
    rw [eab]
    refine ⟨⟨ewo, (p_fr hdu (by omega)).1, p_ab hdu (by omega), gm.2⟩, mm.2, by rw [gm.1, mm.1], by rw [mm.1]; exact rm⟩
  -- whether one counts
  have cnt : ∀ (x : z_Wd) (n : Nat), z_fr [9, 10] [] w x → (n : Int) < w 0 29 → ((F_M_isFree x (n : Int) = 0) = (T n = true)) ∧ P_M_isFree x (n : Int) := by
    intro x n fx hn
    have h2x := y_mi h2 fx fr_0 rfl
    have x29 : x 0 29 = w 0 29 := fr_f fx 0 29 rfl rfl
    have hpx := pl_c hp (fr_f fx 0 28 rfl rfl) x29 (fr_c fx 19 rfl rfl)
    refine ⟨?_, p_Mfr h2x hpx (by omega)⟩
    rw [m_fr h2x hpx (by rw [x29]; exact hn)]
    apply propext
    by_cases z : T n = true
    · have := hT n
      rw [z] at this
      have z2 : v 42 n ≠ -1 := by
        intro z3
        unfold g_T at this
        rw [z3] at this
        simp at this
      simp [z, z2]
    · simp [z]
  have main : ∀ i : Nat, (i : Int) ≤ w 0 29 → (A_G_withoutThese_28 v ((zbits U (w 0 29).toNat : Nat) : Int) i).1 = (A_M_missedAll_4 w i).1 ∧ 0 ≤ (A_M_missedAll_4 w i).1 ∧ (A_M_missedAll_4 w i).1 ≤ 30 * i := by
    intro i
    induction i with
    | zero => intro _; exact ⟨rfl, by simp [A_M_missedAll_4], by simp [A_M_missedAll_4]⟩
    | succ i ih =>
      intro hi
      obtain ⟨i1, i2, i3⟩ := ih (by omega)
      simp only [A_G_withoutThese_28, A_M_missedAll_4]
      rw [eX, eF, bt_bit (by omega) (by omega)]
      have c := (cnt _ i (fM i) (by omega)).1
      have hlt : i < (w 0 29).toNat := by omega
      by_cases z : T i = true
      · obtain ⟨⟨o1, -⟩, -, o3, o4⟩ := one _ _ i (fG i) (fM i) (by omega) z
        rw [if_pos (by simp [hlt, z]), if_pos (by rw [c]; exact z), o1]
        dsimp only
        rw [i1, o3]
        omega
      · rw [if_neg (by simp [z]), if_neg (by rw [c]; exact z)]
        dsimp only
        rw [i1]
        omega
  have mm := main (w 0 29).toNat (by omega)
  refine ⟨?_, ?_, ?_, ?_⟩
  · unfold P_G_withoutThese
    rw [eX, eF]
    have ew : ∀ i, (A_G_withoutThese_28 v ((zbits U (w 0 29).toNat : Nat) : Int) i).2 32 2 = v 32 2 := fun i => fr_f (fG i) 32 2 rfl rfl
    refine ⟨p_in hd (by omega), fun i hi => ?_, by omega, by rw [ew]; omega, ew _⟩
    have bb := zb_bitr ((zbits T (w 0 29).toNat : Nat) : Int) (i : Int)
    rw [ew]
    refine ⟨by omega, by omega, rfl, by omega, fun z => ?_, fun _ => trivial⟩
    rw [bt_bit (by omega) (by omega)] at z
    have zT : T i = true := by
      by_cases y : (decide (i < (w 0 29).toNat) && T i) = true
      · simp only [Bool.and_eq_true] at y
        exact y.2
      · rw [if_neg y] at z
        cases z
    obtain ⟨⟨o1, o2, o3, o4⟩, -⟩ := one _ w i (fG i) fr_rf (by omega) zT
    rw [o1]
    exact ⟨o2, o3, o4⟩
  · unfold P_M_missedAll
    have ew : ∀ i, (A_M_missedAll_4 w i).2 0 29 = w 0 29 := fun i => fr_f (fM i) 0 29 rfl rfl
    refine ⟨fun i hi => ?_, by omega, by rw [ew]; omega, ew _⟩
    have c := cnt _ i (fM i) (by omega)
    rw [ew]
    refine ⟨by omega, by omega, rfl, c.2, fun z => ?_, fun _ => trivial⟩
    rw [c.1] at z
    exact (one v _ i fr_rf (fM i) (by omega) z).2.1
  · unfold F_G_withoutThese F_M_missedAll
    rw [e1.2.1]
    exact mm.1
  · unfold F_M_missedAll
    dsimp only
    omega
theorem sim_md {w v : z_Wd} (h : r_all w v) : P_G_ofDrowned v ∧ P_M_missedAll w ∧ (F_G_ofDrowned v).1 = (F_M_missedAll w).1 ∧ (0 ≤ (F_M_missedAll w).1 ∧ (F_M_missedAll w).1 ≤ 210) ∧ r_all (F_M_missedAll w).2 (F_G_ofDrowned v).2 := by
  obtain ⟨h1, h2, h3, h4, h5, h6, h7, h8, h9, h10⟩ := h
  have e9 := h3.1.2.2.2.2.2.2.2.2
  have z0 : ((zbits (fun _ => false) (w 0 29).toNat : Nat) : Int) = 0 := by
    rw [bt_zero _ (fun _ _ => rfl)]
    rfl
  obtain ⟨s1, s2, s3, s4⟩ := sim_ma (T := g_T v) (U := fun _ => false) h2 h6 (g_ok h2 h3) (g_pl h2 h3) e9.2 e9.1 (fun i => by simp)
  rw [z0] at s1 s3
  have f : z_fr [9, 10] [] w (F_M_missedAll w).2 := fr_F_M_missedAll
  have g : z_fr [57, 60, 63, 66, 69] [(58, 3), (61, 3), (64, 3), (67, 3)] v (F_G_ofDrowned v).2 := fr_F_G_ofDrowned
  exact ⟨s1, s2, s3, s4, y_ta h1 f g rfl, y_mi h2 f g rfl, y_no h3 f g rfl, y_ac h4 f g rfl, y_im h5 f g rfl, y_la h6 f g rfl, y_cl h7 f g rfl, y_re h8 f g rfl, y_fl h9 f g rfl, y_rd h10 f g rfl⟩
