/-! decades by draws -/
theorem lu33 (x : Int) : 0 ≤ zz_lushr x 33 ∧ zz_lushr x 33 < 2147483648 := by
  unfold zz_lushr
  generalize (Int64.ofInt x).toUInt64 = a
  have e : ((Int32.ofInt 33).toInt64.toUInt64 &&& Int64.toUInt64 63) = 33 := by decide
  rw [e]
  have h : (a >>> 33).toNat < 2147483648 := by
    rw [UInt64.toNat_shiftRight]
    have h1 := a.toNat_lt
    have h2 : (33 : UInt64).toNat % 64 = 33 := by decide
    rw [h2, Nat.shiftRight_eq_div_pow]
    omega
  have t : (a >>> 33).toInt64.toInt = ((a >>> 33).toNat : Int) := by
    show (a >>> 33).toBitVec.toInt = ((a >>> 33).toBitVec.toNat : Int)
    exact BitVec.toInt_eq_toNat_of_lt (by
      have : (a >>> 33).toBitVec.toNat < 2147483648 := h
      omega)
  rw [t]
  omega
theorem p_dD {v : z_Wd} {a : Int} (h : 0 ≤ a ∧ a ≤ 10) : P_D_draw v a := by
  have := lu33 (v 27 14 * 6364136223846793005 + 1442695040888963407)
  exact ⟨by omega, fun _ => trivial, fun _ => ⟨by omega, by omega, by omega⟩⟩
theorem p_dM {w : z_Wd} {a : Int} (h : 1 ≤ a ∧ a ≤ 10) : P_M_draw w a := by
  have := lu33 (w 0 37 * 6364136223846793005 + 1442695040888963407)
  exact ⟨by omega, by omega, by omega, by omega⟩
theorem sim_dr {w v : z_Wd} (h : r_all w v) (e : w 0 37 = v 27 14) {a : Int} (ha : 1 ≤ a ∧ a ≤ 10) : (F_M_draw w a).1 = (F_D_draw v a).1 ∧ (0 ≤ (F_D_draw v a).1 ∧ (F_D_draw v a).1 < a) ∧ r_all (F_M_draw w a).2 (F_D_draw v a).2 ∧ (F_M_draw w a).2 0 37 = (F_D_draw v a).2 27 14 ∧ z_fr [] [(27, 14)] v (F_D_draw v a).2 ∧ z_fr [] [(0, 37)] w (F_M_draw w a).2 := by
  have eD : F_D_draw v a = (Int.tmod (zz_lushr (((v 27 14) * 6364136223846793005) + 1442695040888963407) 33) a, z_up v 27 14 (((v 27 14) * 6364136223846793005) + 1442695040888963407)) := by
    unfold F_D_draw
    rw [if_neg (by omega)]
  have eM : F_M_draw w a = (Int.tmod (zz_lushr (((v 27 14) * 6364136223846793005) + 1442695040888963407) 33) a, z_up w 0 37 (((v 27 14) * 6364136223846793005) + 1442695040888963407)) := by
    unfold F_M_draw
    rw [e]
  rw [eD, eM]
  have l := lu33 (v 27 14 * 6364136223846793005 + 1442695040888963407)
  generalize v 27 14 * 6364136223846793005 + 1442695040888963407 = x at *
  generalize zz_lushr x 33 = y at *
  refine ⟨rfl, ?_, rl_fr2 h (fr_uf rfl fr_rf) (fr_uf rfl fr_rf), ?_, fr_uf rfl fr_rf, fr_uf rfl fr_rf⟩
  · dsimp only
    rw [Int.tmod_eq_emod_of_nonneg l.1]
    exact ⟨Int.emod_nonneg _ (by omega), Int.emod_lt_of_pos _ (by omega)⟩
  · dsimp only
    rw [z_up_at, z_up_at]
/-- the reference's year of draws, in two halves -/
def m_scr (x : z_Wd) : z_Wd := if (F_M_draw x 10).1 ≥ ((F_M_draw x 10).2) 0 34 then (F_M_draw x 10).2 else (F_M_scratchNow ((F_M_draw ((F_M_draw ((F_M_draw x 10).2) (((F_M_draw x 10).2) 0 28)).2) 9).2) ((F_M_draw ((F_M_draw x 10).2) (((F_M_draw x 10).2) 0 28)).1) (((F_M_draw ((F_M_draw ((F_M_draw x 10).2) (((F_M_draw x 10).2) 0 28)).2) 9).1) + 1)).2
def m_scp (x : z_Wd) : Prop := (P_M_draw x 10) ∧ (-2147483648 ≤ (F_M_draw x 10).1 ∧ (F_M_draw x 10).1 < 2147483648) ∧ (-2147483648 ≤ ((F_M_draw x 10).2) 0 34 ∧ ((F_M_draw x 10).2) 0 34 < 2147483648) ∧ (((F_M_draw x 10).1 ≥ ((F_M_draw x 10).2) 0 34 → True) ∧ (¬ ((F_M_draw x 10).1 ≥ ((F_M_draw x 10).2) 0 34) → (P_M_draw ((F_M_draw x 10).2) (((F_M_draw x 10).2) 0 28)) ∧ (P_M_draw ((F_M_draw ((F_M_draw x 10).2) (((F_M_draw x 10).2) 0 28)).2) 9) ∧ (P_M_scratchNow ((F_M_draw ((F_M_draw ((F_M_draw x 10).2) (((F_M_draw x 10).2) 0 28)).2) 9).2) ((F_M_draw ((F_M_draw x 10).2) (((F_M_draw x 10).2) 0 28)).1) (((F_M_draw ((F_M_draw ((F_M_draw x 10).2) (((F_M_draw x 10).2) 0 28)).2) 9).1) + 1))))
theorem m_dyE {w : z_Wd} : F_M_drawYear w = if F_M_isFree (F_M_draw (F_M_draw w (w 0 29)).2 ((F_M_draw w (w 0 29)).2 0 28)).2 (F_M_draw w (w 0 29)).1 = 0 then m_scr (F_M_draw (F_M_draw w (w 0 29)).2 ((F_M_draw w (w 0 29)).2 0 28)).2 else if F_M_fits (F_M_draw (F_M_draw w (w 0 29)).2 ((F_M_draw w (w 0 29)).2 0 28)).2 (F_M_draw w (w 0 29)).1 (F_M_draw (F_M_draw w (w 0 29)).2 ((F_M_draw w (w 0 29)).2 0 28)).1 = 0 then m_scr (F_M_draw (F_M_draw w (w 0 29)).2 ((F_M_draw w (w 0 29)).2 0 28)).2 else m_scr (F_M_dipNow (F_M_draw (F_M_draw w (w 0 29)).2 ((F_M_draw w (w 0 29)).2 0 28)).2 (F_M_draw w (w 0 29)).1 (F_M_draw (F_M_draw w (w 0 29)).2 ((F_M_draw w (w 0 29)).2 0 28)).1) := rfl
theorem m_dyP {w : z_Wd} (p1 : P_M_draw w (w 0 29)) (p2 : P_M_draw (F_M_draw w (w 0 29)).2 ((F_M_draw w (w 0 29)).2 0 28)) (p3 : P_M_isFree (F_M_draw (F_M_draw w (w 0 29)).2 ((F_M_draw w (w 0 29)).2 0 28)).2 (F_M_draw w (w 0 29)).1) (p4 : F_M_isFree (F_M_draw (F_M_draw w (w 0 29)).2 ((F_M_draw w (w 0 29)).2 0 28)).2 (F_M_draw w (w 0 29)).1 = 0 → m_scp (F_M_draw (F_M_draw w (w 0 29)).2 ((F_M_draw w (w 0 29)).2 0 28)).2) (p5 : ¬ F_M_isFree (F_M_draw (F_M_draw w (w 0 29)).2 ((F_M_draw w (w 0 29)).2 0 28)).2 (F_M_draw w (w 0 29)).1 = 0 → P_M_fits (F_M_draw (F_M_draw w (w 0 29)).2 ((F_M_draw w (w 0 29)).2 0 28)).2 (F_M_draw w (w 0 29)).1 (F_M_draw (F_M_draw w (w 0 29)).2 ((F_M_draw w (w 0 29)).2 0 28)).1 ∧ (F_M_fits (F_M_draw (F_M_draw w (w 0 29)).2 ((F_M_draw w (w 0 29)).2 0 28)).2 (F_M_draw w (w 0 29)).1 (F_M_draw (F_M_draw w (w 0 29)).2 ((F_M_draw w (w 0 29)).2 0 28)).1 = 0 → m_scp (F_M_draw (F_M_draw w (w 0 29)).2 ((F_M_draw w (w 0 29)).2 0 28)).2) ∧ (¬ F_M_fits (F_M_draw (F_M_draw w (w 0 29)).2 ((F_M_draw w (w 0 29)).2 0 28)).2 (F_M_draw w (w 0 29)).1 (F_M_draw (F_M_draw w (w 0 29)).2 ((F_M_draw w (w 0 29)).2 0 28)).1 = 0 → P_M_dipNow (F_M_draw (F_M_draw w (w 0 29)).2 ((F_M_draw w (w 0 29)).2 0 28)).2 (F_M_draw w (w 0 29)).1 (F_M_draw (F_M_draw w (w 0 29)).2 ((F_M_draw w (w 0 29)).2 0 28)).1 ∧ m_scp (F_M_dipNow (F_M_draw (F_M_draw w (w 0 29)).2 ((F_M_draw w (w 0 29)).2 0 28)).2 (F_M_draw w (w 0 29)).1 (F_M_draw (F_M_draw w (w 0 29)).2 ((F_M_draw w (w 0 29)).2 0 28)).1))) : P_M_drawYear w := ⟨p1, p2, p3, p4, p5⟩
theorem sim_sc {w v : z_Wd} (h : r_all w v) (e : w 0 37 = v 27 14) (hn : w 0 29 ≠ 0) : P_D_scratchByDraws v ∧ m_scp w ∧ r_all (m_scr w) (F_D_scratchByDraws v) ∧ m_scr w 0 37 = F_D_scratchByDraws v 27 14 := by
  obtain ⟨a1, a2, a3, a4, a5, a6⟩ := sim_dr h e (a := 10) (by omega)
  have e2 := h.2.1.2.1
  unfold r_mn at e2
  have m1 := h.2.1.1
  have fl := h.2.2.2.2.2.2.2.2.1
  have f34 : (F_M_draw w 10).2 0 34 = (F_D_draw v 10).2 27 12 := a3.2.2.2.2.2.2.2.2.1.1
  have g12 : (F_D_draw v 10).2 27 12 = v 27 12 := fr_f a5 27 12 rfl rfl
  have n28 : (F_M_draw w 10).2 0 28 = w 0 28 := fr_f a6 0 28 rfl rfl
  have d1 : (F_D_draw v 10).2 32 1 = w 0 28 := by rw [fr_f a5 32 1 rfl rfl]; exact m1.1
  obtain ⟨b1, b2, b3, b4, b5, b6⟩ := sim_dr a3 a4 (a := w 0 28) (by omega)
  obtain ⟨c1, c2, c3, c4, c5, c6⟩ := sim_dr b3 b4 (a := 9) (by omega)
  unfold F_D_scratchByDraws P_D_scratchByDraws m_scr m_scp
  rw [n28, d1, f34, a1, b1, c1]
  obtain ⟨q, hq⟩ := Int.eq_ofNat_of_zero_le b2.1
  obtain ⟨s1, s2, s3, s4⟩ := sim_scr c3 (a := q) (d := (F_D_draw (F_D_draw (F_D_draw v 10).2 (w 0 28)).2 9).1 + 1) (by omega) (by omega)
  rw [← hq] at s1 s2 s3 s4
  have fl2 := fl.2
  refine ⟨⟨p_dD (by omega), by omega, by omega, fun _ => trivial, fun _ => ⟨p_dD (by omega), p_dD (by omega), s1⟩⟩, ⟨p_dM (by omega), by omega, by omega, fun _ => trivial, fun _ => ⟨p_dM (by omega), p_dM (by omega), s2⟩⟩, ?_⟩
  split
  · exact ⟨a3, a4⟩
  · refine ⟨s4, ?_⟩
    rw [fr_f (fr_F_M_scratchNow) 0 37 rfl rfl, fr_f (fr_F_K_scratchUp) 27 14 rfl rfl]
    exact c4
theorem sim_dy {w v : z_Wd} (h : r_all w v) (e : w 0 37 = v 27 14) (hn : w 0 29 ≠ 0) : P_D_dipByDraws v ∧ P_D_scratchByDraws (F_D_dipByDraws v) ∧ P_M_drawYear w ∧ r_all (F_M_drawYear w) (F_D_scratchByDraws (F_D_dipByDraws v)) ∧ F_M_drawYear w 0 37 = F_D_scratchByDraws (F_D_dipByDraws v) 27 14 := by
  have e2 := h.2.1.2.1
  unfold r_mn at e2
  have m1 := h.2.1.1
  obtain ⟨a1, a2, a3, a4, a5, a6⟩ := sim_dr h e (a := w 0 29) (by omega)
  have n28 : (F_M_draw w (w 0 29)).2 0 28 = w 0 28 := fr_f a6 0 28 rfl rfl
  have d1 : (F_D_draw v (w 0 29)).2 32 1 = w 0 28 := by rw [fr_f a5 32 1 rfl rfl]; exact m1.1
  obtain ⟨b1, b2, b3, b4, b5, b6⟩ := sim_dr a3 a4 (a := w 0 28) (by omega)
  have n29 : (F_M_draw (F_M_draw w (w 0 29)).2 (w 0 28)).2 0 29 = w 0 29 := by rw [fr_f b6 0 29 rfl rfl, fr_f a6 0 29 rfl rfl]
  have n28' : (F_M_draw (F_M_draw w (w 0 29)).2 (w 0 28)).2 0 28 = w 0 28 := by rw [fr_f b6 0 28 rfl rfl, n28]
  have pp1 := p_dM (w := w) (a := w 0 29) (by omega)
  have pp2 := p_dM (w := (F_M_draw w (w 0 29)).2) (a := w 0 28) (by omega)
  have main : ∀ (x u : z_Wd) (n q : Nat), r_all x u → x 0 37 = u 27 14 → x 0 29 = w 0 29 → x 0 28 = w 0 28 → (n : Int) < w 0 29 → (q : Int) < w 0 28 →
      (P_K_isFree u (n : Int) ∧ ((F_K_isFree u (n : Int) = 0 → True) ∧ (¬ F_K_isFree u (n : Int) = 0 → P_K_takes u (q : Int) (n : Int) ∧ ((F_K_takes u (q : Int) (n : Int) = 0 → True) ∧ (¬ F_K_takes u (q : Int) (n : Int) = 0 → P_K_drown u (n : Int) (q : Int)))))) ∧
      P_D_scratchByDraws (if F_K_isFree u (n : Int) = 0 then u else if F_K_takes u (q : Int) (n : Int) = 0 then u else F_K_drown u (n : Int) (q : Int)) ∧
      P_M_isFree x (n : Int) ∧ (F_M_isFree x (n : Int) = 0 → m_scp x) ∧ (¬ F_M_isFree x (n : Int) = 0 → P_M_fits x (n : Int) (q : Int) ∧ (F_M_fits x (n : Int) (q : Int) = 0 → m_scp x) ∧ (¬ F_M_fits x (n : Int) (q : Int) = 0 → P_M_dipNow x (n : Int) (q : Int) ∧ m_scp (F_M_dipNow x (n : Int) (q : Int)))) ∧
      r_all (if F_M_isFree x (n : Int) = 0 then m_scr x else if F_M_fits x (n : Int) (q : Int) = 0 then m_scr x else m_scr (F_M_dipNow x (n : Int) (q : Int))) (F_D_scratchByDraws (if F_K_isFree u (n : Int) = 0 then u else if F_K_takes u (q : Int) (n : Int) = 0 then u else F_K_drown u (n : Int) (q : Int))) ∧
      (if F_M_isFree x (n : Int) = 0 then m_scr x else if F_M_fits x (n : Int) (q : Int) = 0 then m_scr x else m_scr (F_M_dipNow x (n : Int) (q : Int))) 0 37 = F_D_scratchByDraws (if F_K_isFree u (n : Int) = 0 then u else if F_K_takes u (q : Int) (n : Int) = 0 then u else F_K_drown u (n : Int) (q : Int)) 27 14 := by
    intro x u n q hx ex x29 x28 hnn hqq
    obtain ⟨h1, h2, h3, -⟩ := id hx
    have hd := g_ok h2 h3
    have hp := g_pl h2 h3
    have u32 := h2.1
    have fr := d_fr hd (n := n) (by omega)
    have frM := g_frM h2 h3 (n := n) (by omega)
    obtain ⟨tk, pt, pf⟩ := g_takes h2 h3 (n := n) (a := q) (by omega) (by omega)
    obtain ⟨s1, s2, s3, s4⟩ := sim_sc hx ex (by omega)
    by_cases c1 : u 42 n = -1
    · have z1 : ¬ F_K_isFree u (n : Int) = 0 := by rw [fr.2]; omega
      have z2 : ¬ F_M_isFree x (n : Int) = 0 := by rw [frM]; omega
      rw [if_neg z1, if_neg z2]
      obtain ⟨t1, t2, t3⟩ := sim_dip hx (n := n) (a := q) (by omega) (by omega) c1
      by_cases c2 : F_M_fits x (n : Int) (q : Int) = 0
      · have c2' : F_K_takes u (q : Int) (n : Int) = 0 := by rw [tk]; exact c2
        rw [if_pos c2, if_pos c2']
        exact ⟨⟨p_fr hd (by omega), fun z => trivial, fun _ => ⟨pt, fun _ => trivial, fun z => absurd c2' z⟩⟩, s1, p_Mfr h2 hp (by omega), fun z => absurd z z2, fun _ => ⟨pf, fun _ => s2, fun z => absurd c2 z⟩, s3, s4⟩
      · have c2' : ¬ F_K_takes u (q : Int) (n : Int) = 0 := by rw [tk]; exact c2
        rw [if_neg c2, if_neg c2']
        have ex' : F_M_dipNow x (n : Int) (q : Int) 0 37 = F_K_drown u (n : Int) (q : Int) 27 14 := by rw [fr_f (fr_F_M_dipNow) 0 37 rfl rfl, fr_f (fr_F_K_drown) 27 14 rfl rfl]; exact ex
        obtain ⟨r1, r2, r3, r4⟩ := sim_sc t3 ex' (by rw [fr_f (fr_F_M_dipNow) 0 29 rfl rfl]; omega)
        exact ⟨⟨p_fr hd (by omega), fun z => trivial, fun _ => ⟨pt, fun z => trivial, fun _ => t1⟩⟩, r1, p_Mfr h2 hp (by omega), fun z => absurd z z2, fun _ => ⟨pf, fun z => absurd z c2, fun _ => ⟨t2, r2⟩⟩, r3, r4⟩
    · have z1 : F_K_isFree u (n : Int) = 0 := by rw [fr.2]; exact c1
      have z2 : F_M_isFree x (n : Int) = 0 := by rw [frM]; exact c1
      rw [if_pos z1, if_pos z2]
      exact ⟨⟨p_fr hd (by omega), fun _ => trivial, fun z => absurd z1 z⟩, s1, p_Mfr h2 hp (by omega), fun _ => s2, fun z => absurd z2 z, s3, s4⟩
  obtain ⟨n, hn'⟩ := Int.eq_ofNat_of_zero_le a2.1
  obtain ⟨q, hq⟩ := Int.eq_ofNat_of_zero_le b2.1
  obtain ⟨k1, k2, k3, k4, k5, k6, k7⟩ := main _ _ n q b3 b4 n29 n28' (by omega) (by omega)
  have v32 : v 32 2 = w 0 29 := m1.2.1
  have eD : F_D_dipByDraws v = if F_K_isFree (F_D_draw (F_D_draw v (w 0 29)).2 (w 0 28)).2 (n : Int) = 0 then (F_D_draw (F_D_draw v (w 0 29)).2 (w 0 28)).2 else if F_K_takes (F_D_draw (F_D_draw v (w 0 29)).2 (w 0 28)).2 (q : Int) (n : Int) = 0 then (F_D_draw (F_D_draw v (w 0 29)).2 (w 0 28)).2 else F_K_drown (F_D_draw (F_D_draw v (w 0 29)).2 (w 0 28)).2 (n : Int) (q : Int) := by
    unfold F_D_dipByDraws
    rw [v32, d1, hn', hq]
  have pD : P_D_dipByDraws v := by
    unfold P_D_dipByDraws
    rw [v32, d1, hn', hq]
    exact ⟨p_dD (by omega), p_dD (by omega), k1⟩
  rw [eD]
  refine ⟨pD, k2, m_dyP pp1 (by rw [n28]; exact pp2) (by rw [n28, a1, hn']; exact k3) (by rw [n28, a1, hn']; exact k4) (by rw [n28, a1, b1, hn', hq]; exact k5), ?_, ?_⟩
  · rw [m_dyE, n28, a1, b1, hn', hq]
    exact k6
  · rw [m_dyE, n28, a1, b1, hn', hq]
    exact k7
theorem ok_decades : S_decades Rl := by
  intro w a b ha hb hr
  have key : ∀ w v, r_all w v → P_D_decades v a b ∧ P_M_decades w a b ∧ (F_D_decades v a b).1 = (F_M_decades w a b).1 ∧ r_all (F_M_decades w a b).2 (F_D_decades v a b).2 := by
    intro w v h
    obtain ⟨h1, h2, h3, -⟩ := id h
    have e1 := h2.1
    have e2 := h2.2.1.2.1
    have e9 := h3.1.2.2.2.2.2.2.2.2
    have one : ∀ x u : z_Wd, r_all x u → x 0 37 = u 27 14 → x 0 29 ≠ 0 → u 41 8 + 1 ≤ 999 → (P_M_keep x ∧ P_M_drawYear (F_M_keep x) ∧ P_M_passYear (F_M_drawYear (F_M_keep x))) ∧ (P_H_keep_41 u ∧ P_D_dipByDraws (F_H_keep_41 u) ∧ P_D_scratchByDraws (F_D_dipByDraws (F_H_keep_41 u)) ∧ P_G_ofDrowned (F_D_scratchByDraws (F_D_dipByDraws (F_H_keep_41 u))) ∧ P_K_passYear (F_G_ofDrowned (F_D_scratchByDraws (F_D_dipByDraws (F_H_keep_41 u)))).2 (F_G_ofDrowned (F_D_scratchByDraws (F_D_dipByDraws (F_H_keep_41 u)))).1) ∧ r_all (F_M_passYear (F_M_drawYear (F_M_keep x))) (F_K_passYear (F_G_ofDrowned (F_D_scratchByDraws (F_D_dipByDraws (F_H_keep_41 u)))).2 (F_G_ofDrowned (F_D_scratchByDraws (F_D_dipByDraws (F_H_keep_41 u)))).1) ∧ F_K_passYear (F_G_ofDrowned (F_D_scratchByDraws (F_D_dipByDraws (F_H_keep_41 u)))).2 (F_G_ofDrowned (F_D_scratchByDraws (F_D_dipByDraws (F_H_keep_41 u)))).1 41 8 = u 41 8 + 1 ∧ F_M_passYear (F_M_drawYear (F_M_keep x)) 0 37 = F_K_passYear (F_G_ofDrowned (F_D_scratchByDraws (F_D_dipByDraws (F_H_keep_41 u)))).2 (F_G_ofDrowned (F_D_scratchByDraws (F_D_dipByDraws (F_H_keep_41 u)))).1 27 14 ∧ F_M_passYear (F_M_drawYear (F_M_keep x)) 0 29 = x 0 29 := by
      intro x u hx ex hn h9
      obtain ⟨k1, k2, k3⟩ := sim_keep hx
      obtain ⟨d1, d2, d3, d4, d5⟩ := sim_dy k3 (by rw [fr_f (fr_F_M_keep) 0 37 rfl rfl, fr_f (fr_F_H_keep_41) 27 14 rfl rfl]; exact ex) (by rw [fr_f (fr_F_M_keep) 0 29 rfl rfl]; exact hn)
      have fS : z_fr [42, 43] [(27, 14)] (F_H_keep_41 u) (F_D_scratchByDraws (F_D_dipByDraws (F_H_keep_41 u))) := fr_tr fr_F_D_dipByDraws fr_F_D_scratchByDraws
      have y8 : F_D_scratchByDraws (F_D_dipByDraws (F_H_keep_41 u)) 41 8 = u 41 8 := by rw [fr_f fS 41 8 rfl rfl, fr_f (fr_F_H_keep_41) 41 8 rfl rfl]
      have n29 : F_M_drawYear (F_M_keep x) 0 29 = x 0 29 := by rw [fr_f (fr_F_M_drawYear) 0 29 rfl rfl, fr_f (fr_F_M_keep) 0 29 rfl rfl]
      have hf := kp_hf hx
      obtain ⟨p1, p2, p3, p4, p5⟩ := sim_py d4 (by rw [n29]; exact hn) (by rw [y8]; exact h9) (fun _ => by
        rw [fr_f fS 53 1 rfl rfl, fr_f fS 41 8 rfl rfl, fr_c fS 54 rfl rfl]
        exact hf)
      refine ⟨⟨k1, d3, p3⟩, ⟨k2, d1, d2, p1, p2⟩, p4, by rw [p5, y8], ?_, by rw [fr_f (fr_F_M_passYear) 0 29 rfl rfl, n29]⟩
      rw [fr_f (fr_F_M_passYear) 0 37 rfl rfl, fr_f (fr_F_K_passYear) 27 14 rfl rfl, fr_f (fr_F_G_ofDrowned) 27 14 rfl rfl]
      exact d5
    have loop : w 0 29 ≠ 0 → ∀ i : Nat, v 41 8 + i ≤ 999 → r_all (A_M_decades_25 w a b i) (A_D_decades_46 v a b i) ∧ A_D_decades_46 v a b i 41 8 = v 41 8 + i ∧ A_M_decades_25 w a b i 0 29 = w 0 29 ∧ A_M_decades_25 w a b i 0 37 = A_D_decades_46 v a b i 27 14 := by
      intro hn i
      induction i with
      | zero =>
        intro _
        simp only [A_M_decades_25, A_D_decades_46]
        refine ⟨rl_fr2 h (fr_uf rfl fr_rf) (fr_uf rfl fr_rf), ?_, z_up_ne (by decide), by rw [z_up_at, z_up_at]⟩
        rw [z_up_other (by decide)]
        omega
      | succ i ih =>
        intro hi
        obtain ⟨i1, i2, i3, i4⟩ := ih (by omega)
        obtain ⟨o1, o2, o3, o4, o5, o6⟩ := one _ _ i1 i4 (by rw [i3]; exact hn) (by rw [i2]; omega)
        simp only [A_M_decades_25, A_D_decades_46]
        exact ⟨o3, by rw [o4, i2]; omega, by rw [o6, i3], o5⟩
    have step : w 0 29 ≠ 0 → ∀ i : Nat, v 41 8 + i + 1 ≤ 999 → _ := fun hn i hi => by
      obtain ⟨i1, i2, i3, i4⟩ := loop hn i (by omega)
      exact one _ _ i1 i4 (by rw [i3]; exact hn) (by rw [i2]; omega)
    have aY : F_M_areYears w a = 0 ↔ (a < 1 ∨ 60 < a) ∨ w 19 38 + a > 999 := by
      unfold F_M_areYears
      simp only [h_in]
      split
      · simp [*]
      · split
        · rename_i z1 z2
          exact ⟨fun _ => Or.inr z2, fun _ => rfl⟩
        · rename_i z1 z2
          exact ⟨fun z => absurd z (by decide), fun z => by omega⟩
    refine ⟨?_, ?_, ?_⟩
    · unfold P_D_decades P_Y_stands
      simp only [h_st]
      exact ⟨by omega, fun _ => trivial, fun c0 => ⟨ha, fun _ => trivial, fun c1 => ⟨fun _ => trivial, fun c2 => ⟨by omega, fun c3 => ⟨fun i hi => ⟨by omega, (step (by omega) i (by omega)).2.1⟩, by omega⟩, fun _ => trivial⟩⟩⟩⟩
    · unfold P_M_decades P_M_areYears
      simp only [h_in, aY]
      exact ⟨by omega, fun _ => trivial, fun c0 => ⟨⟨p_inn ha (by omega) (by omega), fun _ => trivial, fun _ => by omega⟩, fun _ => trivial, fun c1 => ⟨fun i hi => ⟨by omega, ha, (step c0 i (by omega)).1⟩, by omega, ha⟩⟩⟩
    · unfold F_D_decades F_M_decades
      simp only [h_st, aY]
      by_cases c0 : w 0 29 = 0
      · rw [if_pos (by omega), if_pos c0]
        exact ⟨rfl, h⟩
      · rw [if_neg (show ¬ v 32 2 ≤ 0 by omega), if_neg c0]
        by_cases c1 : (1 ≤ a ∧ a ≤ 60) ∧ v 41 8 + a ≤ 999
        · rw [if_neg (show ¬ a < 1 by omega), if_neg (show ¬ a > 60 by omega), if_pos c1.2, if_neg (show ¬ ((a < 1 ∨ 60 < a) ∨ w 19 38 + a > 999) by omega)]
          obtain ⟨i1, i2, i3, i4⟩ := loop c0 a.toNat (by omega)
          have e := i1.2.2.1.1.2.2.2.2.2.2.2.2.1
          exact ⟨e.symm, i1⟩
        · rw [if_pos (show (a < 1 ∨ 60 < a) ∨ w 19 38 + a > 999 by omega)]
          by_cases c2 : a < 1
          · rw [if_pos c2]
            exact ⟨rfl, h⟩
          · rw [if_neg c2]
            by_cases c3 : a > 60
            · rw [if_pos c3]
              exact ⟨rfl, h⟩
            · rw [if_neg c3, if_neg (show ¬ v 41 8 + a ≤ 999 by omega)]
              exact ⟨rfl, h⟩
  have t := s_two hr (fr_F_D_decades (a0 := a) (a1 := b)) rfl (fr_F_M_decades (w := (F_D_decades w a b).2) (a0 := a) (a1 := b)) rfl
  obtain ⟨k1, k2, k3, k4⟩ := key _ _ t.1
  exact ⟨k1, k2, k3, t.2 k4⟩
