/-! a law read: what is behind it -/
/-- where both begin -/
theorem q_begin {w v : z_Wd} (h : r_ta w v) {a0 : Int} (ha : 0 ≤ a0 ∧ a0 < 5) : P_M_open w a0 ∧ P_T_behindBlanks (F_W_clear v) 0 ∧ q_S 6 (F_M_open w a0) (z_up (F_W_clear v) 37 2 (F_T_behindBlanks (F_W_clear v) 0)) ∧ q_I (F_M_open w a0) (z_up (F_W_clear v) 37 2 (F_T_behindBlanks (F_W_clear v) 0)) ∧ F_M_open w a0 0 14 = a0 ∧ F_M_open w a0 5 a0.toNat = 0 := by
  have ht := t_ta h
  have hl := ht.1
  have c28 : F_W_clear v 28 = v 28 := z_up_other (by decide)
  have c29 : F_W_clear v 29 = v 29 := z_up_other (by decide)
  have c38 : F_W_clear v 38 2 = 0 := z_up_at
  have m14 : F_M_open w a0 0 14 = a0 := by
    unfold F_M_open
    rw [z_up_other (by decide), z_up_other (by decide), z_up_ne (by decide), z_up_ne (by decide), z_up_ne (by decide), z_up_at]
  have m4 : F_M_open w a0 0 4 = -1 := by
    unfold F_M_open
    rw [z_up_other (by decide), z_up_other (by decide), z_up_ne (by decide), z_up_at]
  have m3 : F_M_open w a0 0 3 = 0 := by
    unfold F_M_open
    rw [z_up_other (by decide), z_up_other (by decide), z_up_ne (by decide), z_up_ne (by decide), z_up_at]
  have m5 : F_M_open w a0 0 5 = 0 := by
    unfold F_M_open
    rw [z_up_other (by decide), z_up_other (by decide), z_up_at]
  have m2 : F_M_open w a0 0 2 = w 0 2 := by
    unfold F_M_open
    rw [z_up_other (by decide), z_up_other (by decide), z_up_ne (by decide), z_up_ne (by decide), z_up_ne (by decide), z_up_ne (by decide)]
  have m1 : F_M_open w a0 1 = w 1 := by
    unfold F_M_open
    rw [z_up_other (by decide), z_up_other (by decide), z_up_other (by decide), z_up_other (by decide), z_up_other (by decide), z_up_other (by decide)]
  have q4 : F_M_open w a0 4 a0.toNat = 0 := by
    unfold F_M_open
    rw [z_up_other (by decide), z_up_at]
  have q5 : F_M_open w a0 5 a0.toNat = 0 := by
    unfold F_M_open
    rw [z_up_at]
  have cT : t_ok (F_W_clear v) := x_tok ht (by rw [c28]) c29
  generalize F_W_clear v = u at *
  have br := t_bbr (v := u) (p := 0) (by decide)
  have y28 : (z_up u 37 2 (F_T_behindBlanks u 0)) 28 = u 28 := z_up_other (by decide)
  have y29 : (z_up u 37 2 (F_T_behindBlanks u 0)) 29 = u 29 := z_up_other (by decide)
  have y38 : (z_up u 37 2 (F_T_behindBlanks u 0)) 38 = u 38 := z_up_other (by decide)
  have y37 : (z_up u 37 2 (F_T_behindBlanks u 0)) 37 2 = F_T_behindBlanks u 0 := z_up_at
  refine ⟨ha, t_pbb cT (by decide), ⟨t_tac h m2 m1 (by rw [y28, c28]) (by rw [y29, c29]), m4, by rw [m3, y28, c28]; omega, ?_, by rw [m5]; rfl, by rw [m14]; exact ha, by rw [m14, q4, y38, c38]; decide, by rw [y38, c38, y37]; exact br.1⟩, ?_, m14, q5⟩
  · rw [y37, m3, x_bb (v := u) (by rw [y28]) y29 (by decide)]
  · refine ⟨fun _ => 0, rfl, ?_, fun c hc => ?_⟩
    · rw [y38, c38]
      rfl
    · rw [m14, q5] at hc
      omega
theorem l_oneC {code code' val val' tf tf' sf sf' st st' row row' : Nat → Int} {ncl len : Int} (h : l_one code val tf sf st ncl row len) (hc : ∀ i : Nat, i < 520 → code' i = code i ∧ val' i = val i) (ht : ∀ i : Nat, i < 140 → tf' i = tf i ∧ sf' i = sf i ∧ st' i = st i) (hr : row' = row) : l_one code' val' tf' sf' st' ncl row' len := by
  obtain ⟨a1, a2, K, k0, k1, k2⟩ := h
  refine ⟨a1, a2, K, k0, k1, fun c hcl => ?_⟩
  obtain ⟨t1, t2, t3⟩ := ht c (by omega)
  have q := k2 c hcl
  rw [t1, t2, t3, hr]
  have e := q.1
  exact l_claC q (fun i hi => hc i (by omega)) (fun i _ => rfl)
/-- both read a law: the same answer; where it is well, the same law -/
theorem sim_rl {w v : z_Wd} (h : r_all w v) {a0 : Int} (ha : 0 ≤ a0 ∧ a0 < 5) (hv : v 55 4 ≤ a0) : P_LR_read v ∧ P_M_readLaw w a0 ∧ (F_M_readLaw w a0).1 = (F_LR_read v).1 ∧ (-1 ≤ (F_LR_read v).1 ∧ (F_LR_read v).1 ≤ 1000) ∧ r_all (F_M_readLaw w a0).2 (F_LR_read v).2 ∧ ((F_LR_read v).1 = -1 → ∀ row : Nat → Int, (∀ i : Nat, i < 240 → row i = (F_LR_read v).2 39 i) → l_one (fun k => (F_M_readLaw w a0).2 2 (520 * a0.toNat + k)) (fun k => (F_M_readLaw w a0).2 3 (520 * a0.toNat + k)) (fun k => (F_M_readLaw w a0).2 6 (140 * a0.toNat + k)) (fun k => (F_M_readLaw w a0).2 7 (140 * a0.toNat + k)) (fun k => (F_M_readLaw w a0).2 8 (140 * a0.toNat + k)) ((F_M_readLaw w a0).2 5 a0.toNat) row ((F_LR_read v).2 38 2)) := by
  obtain ⟨h1, h2, h3, h4, h5, h6, h7, h8, h9, h10⟩ := id h
  obtain ⟨s1, s2, s3, s4, s5, s6⟩ := q_begin h1 ha
  have s7 : F_M_open w a0 5 (F_M_open w a0 0 14).toNat = 0 := by rw [s5]; exact s6
  have hq := (q_Sat s3).2.1
  obtain ⟨l1, l2, l3, l4⟩ := q_loop (wM := w) (wD := v) 300 299 _ _ s3 s4 (by rw [s7]; omega) (by omega) (by omega)
  rw [s7] at l3 l4
  have eM : F_M_readLaw w a0 = L_M_readLaw_9 w 300 (F_M_clause (F_M_open w a0)) := rfl
  have eD : F_LR_read v = L_LR_read_23 v (299 + 1) 1 0 (z_up (F_W_clear v) 37 2 (F_T_behindBlanks (F_W_clear v) 0)) := rfl
  have fM : z_fr [2, 3, 4, 5, 6, 7, 8] [(0, 3), (0, 4), (0, 5), (0, 14)] w (F_M_readLaw w a0).2 := fr_F_M_readLaw
  have fD : z_fr [39] [(37, 2), (38, 2)] v (F_LR_read v).2 := fr_F_LR_read
  have pM : P_M_readLaw w a0 := ⟨s1, l1, l2⟩
  have pD : P_LR_read v := ⟨s2, l3⟩
  rw [← eM, ← eD] at l4
  clear eM eD l1 l2 l3
  obtain ⟨r1, r2, r3, r4⟩ := l4
  rw [s5] at r3 r4
  have f14 : (F_M_readLaw w a0).2 0 14 = a0 := by rw [fr_f r3.1 0 14 rfl rfl, s5]
  generalize F_M_readLaw w a0 = rM at *
  generalize F_LR_read v = rD at *
  refine ⟨pD, pM, r1, by omega, ⟨y_ta h1 fM fD rfl, y_mi h2 fM fD rfl, y_no h3 fM fD rfl, y_ac h4 fM fD rfl, y_im h5 fM fD rfl, ?_, y_cl h7 fM fD rfl, y_re h8 fM fD rfl, y_fl h9 fM fD rfl, y_rd h10 fM fD rfl⟩, fun hr row hrow => ?_⟩
  · obtain ⟨a1, a2, a3, a4⟩ := h6
    have v55 : rD.2 55 = v 55 := fr_c fD 55 rfl rfl
    refine ⟨by rw [fr_f fM 0 13 rfl rfl, v55]; exact a1, by rw [v55]; exact a2, by rw [fr_f fM 0 33 rfl rfl, v55]; exact a3, fun n hn => ?_⟩
    rw [v55] at hn
    have vr : rD.2 (59 + 3 * n) = v (59 + 3 * n) ∧ rD.2 (58 + 3 * n) 2 = v (58 + 3 * n) 2 := by
      rcases (show n = 0 ∨ n = 1 ∨ n = 2 ∨ n = 3 by omega) with rfl | rfl | rfl | rfl
      · exact ⟨fr_c fD 59 rfl rfl, fr_f fD 58 2 rfl rfl⟩
      · exact ⟨fr_c fD 62 rfl rfl, fr_f fD 61 2 rfl rfl⟩
      · exact ⟨fr_c fD 65 rfl rfl, fr_f fD 64 2 rfl rfl⟩
      · exact ⟨fr_c fD 68 rfl rfl, fr_f fD 67 2 rfl rfl⟩
    have o5 : ∀ j, j ≠ 0 → j ≠ 4 → j ≠ 5 → F_M_open w a0 j = w j := fun j j0 j4 j5 => by
      unfold F_M_open
      rw [z_up_other j5, z_up_other j4, z_up_other j0, z_up_other j0, z_up_other j0, z_up_other j0]
    have o55 : F_M_open w a0 5 n = w 5 n := by
      unfold F_M_open
      rw [z_up_ne (by omega), z_up_other (by decide), z_up_other (by decide), z_up_other (by decide), z_up_other (by decide), z_up_other (by decide)]
    obtain ⟨b1, b2, b3, b4, b5⟩ := r3
    rw [s5] at b3 b4
    have x5 : rM.2 5 n = w 5 n := by rw [(b3 n (by omega)).2, o55]
    rw [x5, vr.1, vr.2]
    refine l_oneC (a4 n hn) (fun i hi => ?_) (fun i hi => ?_) rfl
    · rw [(b4 (520 * n + i) (by omega)).1, (b4 (520 * n + i) (by omega)).2, o5 2 (by decide) (by decide) (by decide), o5 3 (by decide) (by decide) (by decide)]
      exact ⟨rfl, rfl⟩
    · obtain ⟨c1, c2, c3⟩ := b5 (140 * n + i) (by omega)
      rw [c1, c2, c3, o5 6 (by decide) (by decide) (by decide), o5 7 (by decide) (by decide) (by decide), o5 8 (by decide) (by decide) (by decide)]
      exact ⟨rfl, rfl, rfl⟩
  · obtain ⟨⟨K, k0, k1, k2⟩, i2, i3, i4⟩ := r4 (by omega)
    rw [f14] at k1 k2
    refine ⟨by omega, ⟨i3, i4⟩, K, k0, k1, fun c hc => ?_⟩
    obtain ⟨d1, d2, d3⟩ := k2 c hc
    exact l_claC d1 (fun i _ => ⟨rfl, rfl⟩) (fun i hi => hrow i (by omega))
