/-! what both see alike -/
theorem g_dD {w v : z_Wd} (h2 : r_mi w v) (h3 : r_no w v) : zz_and ((zz_shl 1 (v 32 2)) - 1) (zz_xor (F_K_inside v (-1)) (-1)) = ((zbits (g_T v) (w 0 29).toNat : Nat) : Int) := by
  rw [d_dr (g_ok h2 h3), h2.1.2.1]
  rfl
theorem g_dM {w v : z_Wd} (h2 : r_mi w v) (h3 : r_no w v) : F_M_drowned w = ((zbits (g_T v) (w 0 29).toNat : Nat) : Int) := by
  rw [m_dr h2 (g_pl h2 h3)]
  refine bt_x (fun i _ => ?_)
  unfold g_T
  cases (v 42 i != -1) <;> rfl
theorem g_din {w v : z_Wd} (h2 : r_mi w v) (h3 : r_no w v) {a : Nat} (ha : a < 4) : F_Y_dropsOf v (F_K_inside v (a : Int)) = F_M_dropsIn w (a : Int) := by
  rw [d_in (g_ok h2 h3), d_do (g_ok h2 h3), m_din h2 (g_pl h2 h3) ha, h2.1.2.1]
  refine zsum_c _ (fun i _ => ?_)
  unfold g_T
  by_cases c : v 42 i = (a : Int)
  · have h8 : (v 42 i != -1) = true := bne_iff_ne.mpr (by omega)
    rw [h8, Bool.true_and]
  · have h9 : (v 42 i == (a : Int)) = false := beq_eq_false_iff_ne.mpr c
    rw [h9, Bool.and_false]
theorem su_one : ∀ n, zsum (fun _ => 1) n = (n : Int)
  | 0 => rfl
  | n + 1 => by
    simp only [zsum]
    rw [su_one n]
    omega
theorem g_cnt {w v : z_Wd} (h2 : r_mi w v) (h3 : r_no w v) {a : Nat} (ha : a < 4) : F_J_bitCount_0f7a4 v (F_K_inside v (a : Int)) = w 19 a := by
  have hp := g_pl h2 h3
  have e0 := (hp.2.1 a ha).1
  have hn := h2.2.1.2.1
  rw [d_in (g_ok h2 h3), h2.1.2.1, bt_cnt (by omega), cn_sum]
  rw [← su_bij (p := fun i => (w 19 (4 + 7 * a + i)).toNat) (q := fun n => v 42 n == (a : Int)) (g := fun _ => 1) (m := (w 19 a).toNat) (n := (w 0 29).toNat), su_one]
  · omega
  · intro i hi
    obtain ⟨e1, e2, e3⟩ := hp.2.2.1 a i ha (by omega)
    exact ⟨by omega, by simp [e3]⟩
  · intro i j hi hj e
    have e1 := (hp.2.2.1 a i ha (by omega)).1
    have e2 := (hp.2.2.1 a j ha (by omega)).1
    exact m_inj hp ha (by omega) (by omega) (by omega)
  · intro k hk hq
    simp only [beq_iff_eq] at hq
    obtain ⟨i, h1, h2⟩ := hp.2.2.2.2 k (by omega) (by unfold g_T; exact bne_iff_ne.mpr (by omega)) (by omega)
    rw [hq, Int.toNat_natCast] at h1 h2
    exact ⟨i, by omega, by omega⟩
theorem g_ne {w v : z_Wd} (h2 : r_mi w v) (h3 : r_no w v) {a : Nat} (ha : a < 4) : (F_K_inside v (a : Int) = 0) = (w 19 a = 0) := by
  have e := g_cnt h2 h3 ha
  have hn := h2.2.1.2.1
  rw [d_in (g_ok h2 h3), h2.1.2.1, bt_cnt (by omega)] at e
  rw [d_in (g_ok h2 h3), h2.1.2.1, ← e]
  apply propext
  constructor
  · intro z
    have z2 : zbits (fun i => v 42 i == (a : Int)) (w 0 29).toNat = 0 := by omega
    have z3 := bt_nz z2
    have : ∀ n, n ≤ (w 0 29).toNat → zcnt (fun i => v 42 i == (a : Int)) n = 0 := by
      intro n
      induction n with
      | zero => intro _; rfl
      | succ n ih => intro hl; simp [zcnt, ih (by omega), z3 n (by omega)]
    rw [this _ (Nat.le_refl _)]
    rfl
  · intro z
    have z2 : zcnt (fun i => v 42 i == (a : Int)) (w 0 29).toNat = 0 := by omega
    have : ∀ n, zcnt (fun i => v 42 i == (a : Int)) n = 0 → zbits (fun i => v 42 i == (a : Int)) n = 0 := by
      intro n
      induction n with
      | zero => intro _; rfl
      | succ n ih =>
        intro hl
        simp only [zcnt] at hl
        simp only [zbits]
        by_cases c : (v 42 n == (a : Int)) = true
        · rw [if_pos c] at hl; omega
        · rw [if_neg c] at hl; rw [if_neg c, ih (by omega)]
    rw [this _ z2]
    rfl
theorem d_knA {v : z_Wd} {a : Int} : ∀ n, n ≤ 7 → A_Y_knownBy_4 v a n = ((zbits (fun i => v 31 (15 + 3 * i + 1) == a) n : Nat) : Int)
  | 0, _ => rfl
  | n + 1, h => by
    simp only [A_Y_knownBy_4]
    rw [d_knA n (by omega), (d_v2 (v := v) (n := n) (by omega)).2.1]
    split
    · rename_i c
      exact bt_stepY (by omega) (by simpa using c)
    · rename_i c
      exact bt_stepN (by simpa using c)
theorem g_kn {w v : z_Wd} (h2 : r_mi w v) {a : Int} : F_Y_knownBy v a = F_M_knownBy w a := by
  have hn := h2.2.1.2.1
  unfold F_Y_knownBy F_M_knownBy
  rw [h2.1.2.1, d_knA _ (by omega)]
  refine bt_x (fun i hi => ?_)
  unfold B_M_knownBy
  rw [show (3 * (i : Int) + 1).toNat = 3 * i + 1 by omega, (h2.2.2.2.2.1 i (by omega)).2.1.1]
theorem p_kn {v : z_Wd} (h : d_ok v) {a : Int} (ha : -2147483648 ≤ a ∧ a < 2147483648) : P_Y_knownBy v a := by
  have h1 := h.2.1
  unfold P_Y_knownBy
  refine ⟨fun i hi => ?_, by omega, by omega⟩
  have h2 := d_rv h (k := 2) (a := (i : Int)) (j := 1) (by omega) (by omega)
  exact ⟨by omega, by omega, d_pv (by omega) (by omega) (by omega), by omega, ha⟩
theorem r_Mwo {w : z_Wd} (h : 0 ≤ w 0 28 ∧ w 0 28 ≤ 4) {a : Int} : -1 ≤ F_M_wellOf w a ∧ F_M_wellOf w a < 4 := by
  unfold F_M_wellOf
  have := zfind_r (fun b => F_M_layerOf w (b : Int) a != -1) (w 0 28).toNat
  omega
theorem p_Mwo {w v : z_Wd} {T : Nat → Bool} (h2 : r_mi w v) (hp : r_pl w v T) {a : Int} (ha : -2147483648 ≤ a ∧ a < 2147483648) : P_M_wellOf w a := ⟨m_PO h2 hp, h2.2.1.1, ha⟩
theorem p_Mfr {w v : z_Wd} {T : Nat → Bool} (h2 : r_mi w v) (hp : r_pl w v T) {a : Int} (ha : -2147483648 ≤ a ∧ a < 2147483648) : P_M_isFree w a := by
  have := r_Mwo (w := w) h2.2.1.1 (a := a)
  exact ⟨p_Mwo h2 hp ha, by omega, by omega⟩
theorem p_Mdr {w v : z_Wd} {T : Nat → Bool} (h2 : r_mi w v) (hp : r_pl w v T) : P_M_drowned w := by
  have hn := h2.2.1.2.1
  refine ⟨fun i hi => ⟨by omega, by omega, p_Mfr h2 hp (by omega)⟩, by omega, by omega⟩
/-- who lies at a layer -/
theorem g_ly {w v : z_Wd} (h2 : r_mi w v) (h3 : r_no w v) {a : Nat} {b : Int} (ha : a < 4) : F_K_lyingAt v (a : Int) b = if 0 ≤ b ∧ b < w 19 a then w 19 (4 + 7 * a + b.toNat) else -1 := by
  obtain ⟨s1, s2, s3, s4, s5, -⟩ := h3.1
  have hn := h2.2.1.2.1
  have ee : ∀ i : Nat, E_K_lyingAt_2 v (a : Int) b i = true ↔ v 42 i = (a : Int) ∧ v 43 i = b := by
    intro i
    unfold E_K_lyingAt_2
    rw [Int.toNat_natCast]
    by_cases c1 : v 42 i = (a : Int)
    · by_cases c2 : v 43 i = b <;> simp [c1, c2]
    · simp [c1]
  unfold F_K_lyingAt
  rw [h2.1.2.1]
  by_cases c : 0 ≤ b ∧ b < w 19 a
  · rw [if_pos c]
    obtain ⟨e1, e2, e3⟩ := s4 a b.toNat ha (by omega)
    obtain ⟨k, hk⟩ := Int.eq_ofNat_of_zero_le e1.1
    rw [hk, Int.toNat_natCast] at e2 e3
    have f : zfind (E_K_lyingAt_2 v (a : Int) b) (w 0 29).toNat = (k : Int) := by
      refine zfind_least (by omega) ((ee k).mpr ⟨e2, by omega⟩) (fun j hj => ?_)
      cases q : E_K_lyingAt_2 v (a : Int) b j with
      | false => rfl
      | true =>
        have q2 := (ee j).mp q
        have q3 := (s5 j (by omega) (by omega)).2
        rw [q2.1, q2.2, Int.toNat_natCast, hk] at q3
        omega
    rw [f, if_neg (by omega), Int.toNat_natCast, hk]
    unfold R_K_lyingAt_2
    rw [Int.toNat_natCast, if_pos e2, if_pos (by omega)]
  · rw [if_neg c, fi_no, if_pos rfl]
    intro j hj
    cases q : E_K_lyingAt_2 v (a : Int) b j with
    | false => rfl
    | true =>
      have q2 := (ee j).mp q
      have q3 := (s5 j (by omega) (by omega)).1
      have q4 := (s1 j (by omega)).2
      rw [q2.1, Int.toNat_natCast] at q3
      omega
theorem p_ly {v : z_Wd} (h : d_ok v) {a b : Int} (ha : -2147483648 ≤ a ∧ a < 2147483648) (hb : -2147483648 ≤ b ∧ b < 2147483648) : P_K_lyingAt v a b := by
  have h1 := h.2.1
  unfold P_K_lyingAt
  refine ⟨fun i hi _ => ?_, by omega, by omega⟩
  have h2 := h.2.2.2.2 i (by omega)
  rw [Int.toNat_natCast]
  exact ⟨by omega, by omega, by omega, by omega, ha, fun _ => ⟨by omega, hb⟩, fun _ => trivial⟩
theorem ok_well : S_well Rl := by
  intro w a b ha hb hr
  obtain ⟨h1, h2, h3, -⟩ := id hr
  have hd := g_ok h2 h3
  have hp := g_pl h2 h3
  have e1 := h2.1
  have e2 := h2.2.1
  unfold r_mn at e2
  have pi : P_K_inside w a := p_in hd ha
  have pd : ∀ x, P_Y_dropsOf w x := fun x => p_do hd
  have pv : P_Y_isRed w a := by
    have := d_rv hd (k := 1) (a := a) (j := 1) (by omega) (by omega)
    exact ⟨d_pv (by omega) ha (by omega), by omega, by omega⟩
  refine ⟨?_, ?_, ?_, hr⟩
  · unfold P_D_well P_Y_hasWell P_K_depth P_Y_hasWell
    simp only [h_hw, pi, pd, pv, true_and, and_true, implies_true]
    omega
  · unfold P_M_well
    simp only [h_in]
    refine ⟨p_inn ha (by omega) (by omega), fun _ => trivial, fun c => ⟨p_inn hb (by omega) (by omega), fun _ => trivial, fun c2 => ⟨hb, fun _ => by omega, fun _ => ⟨fun _ => by omega, fun _ => ⟨fun _ => ⟨by omega, m_MO h2, m_PO h2 hp, by omega, by omega⟩, fun _ => by omega⟩⟩⟩⟩⟩
  · unfold F_D_well F_M_well F_K_depth F_Y_isRed
    simp only [h_hw, h_in]
    by_cases c : 0 ≤ a ∧ a < w 0 28
    · obtain ⟨n, rfl⟩ := Int.eq_ofNat_of_zero_le c.1
      have c0 : ¬ ((n : Int) < 0 ∨ w 32 1 ≤ (n : Int)) := by omega
      have c1 : ¬ ((n : Int) < 0 ∨ w 0 28 - 1 < (n : Int)) := by omega
      have f1 := (h3.1.2.2.2.2.2.1 n (by omega)).1
      have f2 := h2.2.2.2.1 n (by omega)
      rw [if_neg c0, if_neg c1, if_neg c0, (d_v1 (v := w) (n := n) (by omega)).2, g_din h2 h3 (by omega), g_cnt h2 h3 (by omega), Int.toNat_natCast, show (32 + (n : Int)).toNat = 32 + n by omega, show (2 * (n : Int) + 1).toNat = 2 * n + 1 by omega, f1, f2.1]
      rcases (by omega : b = 0 ∨ b = 1 ∨ b = 2 ∨ b = 3 ∨ (b < 0 ∨ 3 < b)) with rfl | rfl | rfl | rfl | cb
      · simp
      · rcases f2.2 with z | z <;> simp [z]
      · simp
      · simp
      · rw [if_neg (by omega), if_neg (by omega), if_neg (by omega), if_neg (by omega), if_pos cb]
    · rw [if_pos (by omega), if_pos (by omega)]
theorem ok_file : S_file Rl := by
  intro w a b ha hb hr
  obtain ⟨h1, h2, h3, -⟩ := id hr
  have hd := g_ok h2 h3
  have hp := g_pl h2 h3
  have e1 := h2.1
  have e2 := h2.2.1
  unfold r_mn at e2
  have pi : P_K_inside w (-1) := p_in hd (by omega)
  have pf : ∀ x, (-2147483648 ≤ x ∧ x < 2147483648) → P_Y_inFile w a x := fun x hx => ⟨hx, fun _ => d_pv (by omega) ha (by omega), fun _ => d_pv (by omega) ha (by omega)⟩
  refine ⟨?_, ?_, ?_, hr⟩
  · unfold P_D_file P_Y_hasFile
    simp only [h_hf]
    exact ⟨⟨ha, fun _ => trivial, fun _ => by omega⟩, fun _ => trivial, fun _ => ⟨hb, fun _ => pf _ hb, fun _ => ⟨fun _ => pf _ hb, fun _ => ⟨fun _ => ⟨pi, pf _ (by omega), pf _ (by omega)⟩, fun _ => trivial⟩⟩⟩⟩
  · unfold P_M_file P_M_in P_M_gapsBy
    simp only [h_in]
    exact ⟨⟨ha, by omega, fun _ => trivial, fun _ => by omega⟩, fun _ => trivial, fun c => ⟨⟨hb, by omega, fun _ => trivial, fun _ => by omega⟩, fun _ => trivial, fun c2 => ⟨hb, fun _ => ⟨p_Mdr h2 hp, by omega, by omega⟩, fun _ => by omega⟩⟩⟩
  · unfold F_D_file F_M_file F_Y_inFile F_M_gapsBy
    simp only [h_hf, h_in, g_dD h2 h3, g_dM h2 h3]
    by_cases c : 0 ≤ a ∧ a < w 0 30
    · obtain ⟨n, rfl⟩ := Int.eq_ofNat_of_zero_le c.1
      have f := h2.2.2.2.2.2.1 n (by omega)
      have v3 := d_v3 (v := w) (n := n) (by omega)
      have c0 : ¬ ((n : Int) < 0 ∨ w 32 3 ≤ (n : Int)) := by omega
      have c1 : ¬ ((n : Int) < 0 ∨ w 0 30 - 1 < (n : Int)) := by omega
      rw [if_neg c0, if_neg c1, v3.1, v3.2, show (2 * (n : Int)).toNat = 2 * n by omega, show (2 * (n : Int) + 1).toNat = 2 * n + 1 by omega, f.1.1, f.2.1]
      rcases (by omega : b = 0 ∨ b = 1 ∨ b = 2 ∨ (b < 0 ∨ 2 < b)) with rfl | rfl | rfl | cb
      · have e3 : (2 * (n : Int) + 0).toNat = 2 * n := by omega
        simp [f.1.1]
        rw [show (2 * (n : Int)).toNat = 2 * n by omega, f.1.1]
      · simp
        rw [show (2 * (n : Int) + 1).toNat = 2 * n + 1 by omega, f.2.1]
      · simp
      · rw [if_neg (by omega), if_neg (by omega), if_neg (by omega), if_pos cb]
    · rw [if_pos (by omega), if_pos (by omega)]
theorem ok_count : S_count Rl := by
  intro w a ha hr
  obtain ⟨h1, h2, h3, h4, h5, h6, h7, h8, h9, h10⟩ := id hr
  have hd := g_ok h2 h3
  have hp := g_pl h2 h3
  have e1 := h2.1
  have e9 := h3.1.2.2.2.2.2.2.2.2
  have e8 := h3.1.2.2.2.2.2.2.2.1
  have elg := h3.2.1
  have pi : P_K_inside w (-1) := p_in hd (by omega)
  have pm : P_M_drowned w := p_Mdr h2 hp
  have pj : P_J_min_7cf53 w (w 41 8) 60 := ⟨by omega, by omega⟩
  refine ⟨?_, ?_, ?_, hr⟩
  · unfold P_D_count
    simp only [pi, pj, and_true, implies_true]
    exact ha
  · unfold P_M_count
    simp only [pm, and_true, implies_true]
    exact ha
  · unfold F_D_count F_M_count F_J_min_7cf53
    rw [g_dD h2 h3, g_dM h2 h3, e1.1, e1.2.1, e1.2.2, h6.1, h1.1, h6.2.2.1.1, e9.1, e8.1, h9.1, h7.1, elg, h4.1]
theorem ok_known : S_known Rl := by
  intro w a ha hr
  obtain ⟨h1, h2, h3, -⟩ := id hr
  have hd := g_ok h2 h3
  have e1 := h2.1
  have e2 := h2.2.1
  unfold r_mn at e2
  refine ⟨?_, ?_, ?_, hr⟩
  · unfold P_D_known P_Y_hasName
    exact ⟨⟨ha, fun _ => trivial, fun _ => by omega⟩, fun _ => trivial, fun _ => p_kn hd ha⟩
  · unfold P_M_known
    exact ⟨p_inn ha (by omega) (by omega), fun _ => trivial, fun _ => ⟨m_MO h2, ha⟩⟩
  · unfold F_D_known F_M_known
    simp only [h_hn, h_in, g_kn h2]
    by_cases c : 0 ≤ a ∧ a < w 0 29
    · rw [if_neg (by omega), if_neg (by omega)]
    · rw [if_pos (by omega), if_pos (by omega)]
theorem ok_layer : S_layer Rl := by
  intro w a b ha hb hr
  obtain ⟨h1, h2, h3, -⟩ := id hr
  have hd := g_ok h2 h3
  have hp := g_pl h2 h3
  have e1 := h2.1
  have e2 := h2.2.1
  unfold r_mn at e2
  refine ⟨?_, ?_, ?_, hr⟩
  · unfold P_D_layer P_Y_hasWell
    exact ⟨⟨ha, fun _ => trivial, fun _ => by omega⟩, fun _ => trivial, fun _ => p_ly hd ha hb⟩
  · unfold P_M_layer
    simp only [h_in]
    refine ⟨p_inn ha (by omega) (by omega), fun _ => trivial, fun c => ?_⟩
    obtain ⟨n, rfl⟩ := Int.eq_ofNat_of_zero_le (by omega : 0 ≤ a)
    have e0 := (hp.2.1 n (by omega)).1
    rw [Int.toNat_natCast]
    exact ⟨by omega, p_inn hb (by omega) (by omega), fun _ => trivial, fun c2 => by omega⟩
  · unfold F_D_layer F_M_layer
    simp only [h_hw, h_in]
    by_cases c : 0 ≤ a ∧ a < w 0 28
    · obtain ⟨n, rfl⟩ := Int.eq_ofNat_of_zero_le c.1
      rw [if_neg (by omega), if_neg (by omega), g_ly h2 h3 (by omega), Int.toNat_natCast]
      by_cases cb : 0 ≤ b ∧ b < w 19 n
      · rw [if_pos cb, if_neg (by omega), show (4 + 7 * (n : Int) + b).toNat = 4 + 7 * n + b.toNat by omega]
      · rw [if_neg cb, if_pos (by omega)]
    · rw [if_pos (by omega), if_pos (by omega)]
theorem zb_fm_all : ∀ x : Nat, x < 1041 → F_J_floorMod_7cf53 (fun _ _ => 0) (x : Int) 100 = ((x % 100 : Nat) : Int) := by
  decide +kernel
theorem zb_fm {w : z_Wd} {x : Nat} (h : x < 1041) : F_J_floorMod_7cf53 w (x : Int) 100 = ((x % 100 : Nat) : Int) := zb_fm_all x h
theorem p_fm {w : z_Wd} {x : Nat} (h : x < 1041) : P_J_floorMod_7cf53 w (x : Int) 100 := by
  have e1 : -2147483648 ≤ zz_xor (x : Int) 100 ∧ zz_xor (x : Int) 100 < 2147483648 := ⟨Int32.le_toInt _, Int32.toInt_lt _⟩
  refine ⟨by decide, by omega, by omega, e1, fun _ => trivial, fun _ => ?_⟩
  have : Int.tmod (x : Int) 100 = (x : Int) % 100 := Int.tmod_eq_emod_of_nonneg (by omega)
  omega
theorem ok_log : S_log Rl := by
  intro w a b ha hb hr
  obtain ⟨h1, h2, h3, -⟩ := id hr
  have e9 := h3.1.2.2.2.2.2.2.2.2
  obtain ⟨l1, l2⟩ := h3.2
  have hmin : F_J_min_7cf53 w (w 41 8) 60 = w 19 39 := l1.symm
  have hl : w 19 39 ≤ w 41 8 ∧ w 19 39 ≤ 60 ∧ 0 ≤ w 19 39 := by
    rw [l1]
    split <;> omega
  have hx : 0 ≤ a → a < w 19 39 → ∃ k : Nat, w 41 8 - (a + 1) = (k : Int) ∧ k < 1041 := fun h0 h1 => ⟨(w 41 8 - (a + 1)).toNat, by omega, by omega⟩
  refine ⟨?_, ?_, ?_, hr⟩
  · unfold P_D_log
    rw [hmin]
    refine ⟨ha, fun _ => trivial, fun c0 => ⟨⟨by omega, by omega⟩, by omega, fun c1 => ?_, fun _ => trivial⟩⟩
    obtain ⟨k, hk, hk2⟩ := hx (by omega) c1
    rw [hk, zb_fm hk2]
    have q : P_J_floorMod_7cf53 w (k : Int) 100 ∧ 0 ≤ ((k % 100 : Nat) : Int) ∧ ((k % 100 : Nat) : Int) < 100 := ⟨p_fm hk2, by omega, by omega⟩
    exact ⟨hb, fun _ => q, fun _ => ⟨fun _ => q, fun _ => trivial⟩⟩
  · unfold P_M_log
    simp only [h_in]
    exact ⟨p_inn ha (by omega) (by omega), fun _ => trivial, fun c => ⟨p_inn hb (by omega) (by omega), fun _ => trivial, fun c2 => by omega⟩⟩
  · unfold F_D_log F_M_log
    simp only [h_in]
    rw [hmin]
    by_cases c : 0 ≤ a ∧ a < w 19 39
    · obtain ⟨k, hk, hk2⟩ := hx c.1 c.2
      have q := l2 (w 19 39 - 1 - a).toNat (by omega)
      rw [show (w 41 8 - w 19 39 + ((w 19 39 - 1 - a).toNat : Int)).toNat = k by omega] at q
      have cM : ¬ (a < 0 ∨ w 19 39 - 1 < a) := by omega
      rw [if_neg (by omega), if_pos c.2, if_neg cM, hk, zb_fm hk2, Int.toNat_natCast]
      rcases (by omega : b = 0 ∨ b = 1 ∨ (b < 0 ∨ 1 < b)) with rfl | rfl | cb
      · rw [if_pos rfl, if_neg (by omega), show (40 + 2 * (w 19 39 - 1 - a) + 0).toNat = 40 + 2 * (w 19 39 - 1 - a).toNat by omega, q.1]
      · rw [if_neg (by omega), if_pos rfl, if_neg (by omega), show (40 + 2 * (w 19 39 - 1 - a) + 1).toNat = 40 + 2 * (w 19 39 - 1 - a).toNat + 1 by omega, q.2]
      · rw [if_neg (by omega), if_neg (by omega), if_pos cb]
    · rw [if_pos (by omega : a < 0 ∨ w 19 39 - 1 < a)]
      by_cases c0 : a < 0
      · rw [if_pos c0]
      · rw [if_neg c0, if_neg (by omega)]
theorem ok_end : S_end Rl := by
  intro w a ha hr
  obtain ⟨h1, h2, h3, h4, h5, h6, h7, h8, h9, h10⟩ := id hr
  obtain ⟨t1, t2, t3⟩ := id h1
  have pD : P_D_end w a := by
    unfold P_D_end P_T_cut
    exact ⟨ha, fun _ => trivial, fun _ => ⟨by omega, fun _ => ⟨ha, fun _ => trivial, fun _ => by omega⟩, fun _ => trivial⟩⟩
  have pM : ∀ w1 : z_Wd, w1 0 2 = w 0 2 → P_M_end w1 a := fun w1 e => by
    unfold P_M_end
    rw [e]
    exact ⟨ha, fun _ => trivial, fun _ => by omega⟩
  by_cases c : 0 ≤ a ∧ a ≤ w 28 1
  · have eT : z_fr [] [(28, 1)] w (F_T_cut w a) ∧ F_T_cut w a 28 1 = a := by
      unfold F_T_cut
      rw [if_neg (by omega)]
      by_cases c2 : a ≥ w 28 1
      · rw [if_pos c2]
        exact ⟨fr_rf, by omega⟩
      · rw [if_neg c2]
        exact ⟨fr_uf rfl fr_rf, by simp [z_up]⟩
    have e02 : F_T_cut w a 0 2 = w 0 2 := fr_f eT.1 0 2 rfl rfl
    have eD : F_D_end w a = (1, F_T_cut w a) := by
      unfold F_D_end
      rw [if_neg (by omega), if_pos c.2]
    have eM : F_M_end (F_T_cut w a) a = (1, z_up (F_T_cut w a) 0 2 a) := by
      unfold F_M_end
      rw [if_neg (by omega), if_pos (by omega)]
    simp only [eD, eM]
    have f : z_fr [] [(0, 2), (28, 1)] w (z_up (F_T_cut w a) 0 2 a) := fr_uf rfl (fr_wk eT.1 rfl rfl)
    refine ⟨pD, pM _ e02, trivial, ?_, y_mi h2 f f rfl, y_no h3 f f rfl, y_ac h4 f f rfl, y_im h5 f f rfl, y_la h6 f f rfl, y_cl h7 f f rfl, y_re h8 f f rfl, y_fl h9 f f rfl, y_rd h10 f f rfl⟩
    have q1 : z_up (F_T_cut w a) 0 2 a 0 2 = a := by simp [z_up]
    have q2 : z_up (F_T_cut w a) 0 2 a 28 1 = a := by rw [z_up_other (by decide)]; exact eT.2
    unfold r_ta
    rw [q1, q2, fr_c f 1 rfl rfl, fr_c f 29 rfl rfl]
    exact ⟨rfl, by omega, fun i hi => t3 i (by omega)⟩
  · have eD : F_D_end w a = (0, w) := by
      unfold F_D_end
      by_cases c0 : a < 0
      · rw [if_pos c0]
      · rw [if_neg c0, if_neg (by omega)]
    have eM : F_M_end w a = (0, w) := by
      unfold F_M_end
      by_cases c0 : a < 0
      · rw [if_pos c0]
      · rw [if_neg c0, if_neg (by omega)]
    simp only [eD, eM]
    exact ⟨pD, pM _ rfl, trivial, hr⟩
theorem ok_seen : S_seen Rl := by
  intro w a b ha hb hr
  obtain ⟨h1, h2, h3, h4, h5, h6, h7, h8, h9, h10⟩ := id hr
  obtain ⟨t1, t2, t3⟩ := id h7
  have e1 := h2.1
  have e2 := h2.2.1
  unfold r_mn at e2
  have pD : P_D_seen w a b := by
    unfold P_D_seen P_C_note P_Y_hasFile
    simp only [h_hf]
    exact ⟨⟨ha, fun _ => trivial, fun _ => by omega⟩, fun _ => trivial, fun _ => ⟨hb, fun _ => trivial, fun _ => ⟨fun _ => trivial, fun _ => ⟨by omega, fun _ => by omega, fun _ => trivial⟩⟩⟩⟩
  have pM : ∀ w1 : z_Wd, w1 0 43 = w 0 43 → w1 0 30 = w 0 30 → P_M_seen w1 a b := fun w1 e e' => by
    unfold P_M_seen
    rw [e, e']
    exact ⟨p_inn ha (by omega) (by omega), fun _ => trivial, fun _ => ⟨p_inn hb (by omega) (by omega), fun _ => trivial, fun _ => ⟨by omega, fun _ => trivial, fun _ => by omega⟩⟩⟩
  by_cases c : (0 ≤ a ∧ a < w 0 30) ∧ (0 ≤ b ∧ b ≤ 2) ∧ w 72 4 < 10
  · obtain ⟨n, hn⟩ := Int.eq_ofNat_of_zero_le t2.1
    have eD : F_D_seen w a b = (w 72 4 + 1, z_up (z_up (z_up w 73 n a) 74 n b) 72 4 (w 72 4 + 1)) := by
      unfold F_D_seen F_C_note
      simp only [h_hf]
      rw [if_neg (by omega), if_neg (by omega), if_neg (by omega), if_pos (by omega), hn, Int.toNat_natCast]
    generalize hv : z_up (z_up (z_up w 73 n a) 74 n b) 72 4 (w 72 4 + 1) = v at eD
    have fv : z_fr [73, 74] [(72, 4)] w v := by
      rw [← hv]
      exact fr_uf rfl (fr_up rfl (fr_up rfl fr_rf))
    have v1 : v 0 43 = w 72 4 := by rw [← t1]; exact fr_f fv 0 43 rfl rfl
    have v2 : v 0 30 = w 0 30 := fr_f fv 0 30 rfl rfl
    have eM : F_M_seen v a b = (w 72 4 + 1, z_up (z_up (z_up v 23 n a) 24 n b) 0 43 (w 72 4 + 1)) := by
      unfold F_M_seen
      simp only [h_in, v1, v2]
      rw [if_neg (by omega), if_neg (by omega), if_neg (by omega), hn, Int.toNat_natCast]
    simp only [eD, eM]
    have f : z_fr [23, 24, 73, 74] [(0, 43), (72, 4)] w (z_up (z_up (z_up v 23 n a) 24 n b) 0 43 (w 72 4 + 1)) := fr_uf rfl (fr_up rfl (fr_up rfl (fr_wk fv rfl rfl)))
    refine ⟨pD, pM _ (by omega) v2, trivial, y_ta h1 f f rfl, y_mi h2 f f rfl, y_no h3 f f rfl, y_ac h4 f f rfl, y_im h5 f f rfl, y_la h6 f f rfl, ?_, y_re h8 f f rfl, y_fl h9 f f rfl, y_rd h10 f f rfl⟩
    have q1 : z_up (z_up (z_up v 23 n a) 24 n b) 0 43 (w 72 4 + 1) 0 43 = w 72 4 + 1 := by simp [z_up]
    have q2 : z_up (z_up (z_up v 23 n a) 24 n b) 0 43 (w 72 4 + 1) 72 4 = w 72 4 + 1 := by
      rw [← hv]
      simp [z_up]
    have q3 : ∀ i, z_up (z_up (z_up v 23 n a) 24 n b) 0 43 (w 72 4 + 1) 23 i = if i = n then a else w 23 i := fun i => by
      rw [← hv]
      simp [z_up]
    have q4 : ∀ i, z_up (z_up (z_up v 23 n a) 24 n b) 0 43 (w 72 4 + 1) 24 i = if i = n then b else w 24 i := fun i => by
      rw [← hv]
      simp [z_up]
    have q5 : ∀ i, z_up (z_up (z_up v 23 n a) 24 n b) 0 43 (w 72 4 + 1) 73 i = if i = n then a else w 73 i := fun i => by
      rw [← hv]
      simp [z_up]
    have q6 : ∀ i, z_up (z_up (z_up v 23 n a) 24 n b) 0 43 (w 72 4 + 1) 74 i = if i = n then b else w 74 i := fun i => by
      rw [← hv]
      simp [z_up]
    unfold r_cl
    rw [q1, q2, fr_f f 0 30 rfl rfl]
    refine ⟨rfl, by omega, fun i hi => ?_⟩
    rw [q3, q4, q5, q6]
    by_cases e : i = n
    · rw [if_pos e, if_pos e]
      omega
    · rw [if_neg e, if_neg e, if_neg e, if_neg e]
      exact t3 i (by omega)
  · have eD : F_D_seen w a b = (-1, w) := by
      unfold F_D_seen F_C_note
      simp only [h_hf]
      by_cases c0 : a < 0 ∨ w 32 3 ≤ a
      · rw [if_pos c0]
      · rw [if_neg c0]
        by_cases c1 : b < 0
        · rw [if_pos c1]
        · rw [if_neg c1]
          by_cases c2 : b > 2
          · rw [if_pos c2]
          · rw [if_neg c2, if_neg (by omega)]
    have eM : F_M_seen w a b = (-1, w) := by
      unfold F_M_seen
      simp only [h_in]
      by_cases c0 : a < 0 ∨ w 0 30 - 1 < a
      · rw [if_pos c0]
      · rw [if_neg c0]
        by_cases c1 : b < 0 ∨ 2 < b
        · rw [if_pos c1]
        · rw [if_neg c1, if_pos (by omega)]
    simp only [eD, eM]
    exact ⟨pD, pM _ rfl rfl, trivial, hr⟩
