/-! a year goes by -/
theorem lg_year {ye D m : Int} {lw lm lw' lm' now now' : Nat → Int} (h : r_lg ye lw lm now) (h0 : 0 ≤ ye) (w1 : lw' (ye.toNat % 100) = D) (w2 : ∀ k, k ≠ ye.toNat % 100 → lw' k = lw k) (m1 : lm' (ye.toNat % 100) = m) (m2 : ∀ k, k ≠ ye.toNat % 100 → lm' k = lm k)
    (n1 : now' 39 = if now 39 = 60 then 60 else now 39 + 1) (n2 : ∀ i : Nat, (i : Int) < now' 39 - 1 → now' (40 + 2 * i) = now (40 + 2 * (i + if now 39 = 60 then 1 else 0)) ∧ now' (40 + 2 * i + 1) = now (40 + 2 * (i + if now 39 = 60 then 1 else 0) + 1)) (n3 : now' (40 + 2 * (now' 39 - 1).toNat) = D ∧ now' (40 + 2 * (now' 39 - 1).toNat + 1) = m) : r_lg (ye + 1) lw' lm' now' := by
  obtain ⟨l1, l2⟩ := h
  by_cases c : now 39 = 60
  · simp only [if_pos c] at n1 n2
    have y60 : 60 ≤ ye := by
      rw [c] at l1
      split at l1 <;> omega
    refine ⟨by rw [n1, if_pos (by omega)], fun i hi => ?_⟩
    rw [n1] at hi n2 n3 ⊢
    by_cases e : i = 59
    · subst e
      rw [show (ye + 1 - 60 + ((59 : Nat) : Int)).toNat = ye.toNat by omega, w1, m1]
      exact n3
    · obtain ⟨a1, a2⟩ := n2 i (by omega)
      have q := l2 (i + 1) (by omega)
      rw [c] at q
      have hne : (ye + 1 - 60 + (i : Int)).toNat % 100 ≠ ye.toNat % 100 := by omega
      rw [w2 _ hne, m2 _ hne, a1, a2, show (ye + 1 - 60 + (i : Int)).toNat = (ye - 60 + ((i + 1 : Nat) : Int)).toNat by omega]
      exact q
  · simp only [if_neg c] at n1 n2
    have y60 : now 39 = ye ∧ ye < 60 := by
      rw [l1] at c ⊢
      split at c <;> omega
    refine ⟨by rw [n1, if_neg (by omega)]; omega, fun i hi => ?_⟩
    rw [n1] at hi n2 n3 ⊢
    rw [y60.1] at hi n2 n3 ⊢
    by_cases e : (i : Int) = ye
    · rw [show (ye + 1 - (ye + 1) + (i : Int)).toNat = ye.toNat by omega, w1, m1]
      rw [show (ye + 1 - 1).toNat = i by omega] at n3
      exact n3
    · obtain ⟨a1, a2⟩ := n2 i (by omega)
      have q := l2 i (by omega)
      rw [y60.1] at q
      have hne : (ye + 1 - (ye + 1) + (i : Int)).toNat % 100 ≠ ye.toNat % 100 := by omega
      rw [w2 _ hne, m2 _ hne, a1, a2, show (ye + 1 - (ye + 1) + (i : Int)).toNat = (ye - ye + (i : Int)).toNat by omega]
      exact q
theorem hi_year {nn nw ac nx ye : Int} {lw lm lw' lm' rows kept : Nat → Int} (h : r_hi nn nw ac nx ye lw lm rows kept) (h0 : 0 ≤ ye) (hf : 1 ≤ ac → r_hy nx ye rows 1 = ye) (w2 : ∀ k, k ≠ ye.toNat % 100 → lw' k = lw k) (m2 : ∀ k, k ≠ ye.toNat % 100 → lm' k = lm k) : r_hi nn nw ac nx (ye + 1) lw' lm' rows kept := by
  obtain ⟨a1, a2, a3⟩ := h
  have low : ∀ j : Nat, (j : Int) < ac → ye - j ≤ r_hy nx ye rows (j + 1) ∧ r_hy nx ye rows (j + 1) ≤ ye := by
    intro j
    induction j with
    | zero =>
      intro hj
      rw [hf (by omega)]
      omega
    | succ j ih =>
      intro hj
      have := ih (by omega)
      have q := (a3 (j + 1) hj).2.2
      omega
  refine ⟨a1, a2, fun j hj => ?_⟩
  obtain ⟨b1, b2, b3⟩ := a3 j hj
  have hl := low j hj
  have e1 : r_hy nx ye rows (j + 1) = rows (21 * ((nx.toNat + 39 - j) % 40) + 20) := rfl
  refine ⟨b1, lg_c b2 (fun _ _ _ => rfl) (fun i hi => w2 _ ?_) (fun i hi => m2 _ ?_), ?_⟩
  · have l1 := b2.1
    have st9 := b1.2.2.2.2.2.2.2.2
    rw [e1] at hl
    dsimp only at l1 hi ⊢
    split at l1 <;> omega
  · have l1 := b2.1
    have st9 := b1.2.2.2.2.2.2.2.2
    rw [e1] at hl
    dsimp only at l1 hi ⊢
    split at l1 <;> omega
  · cases j with
    | zero =>
      have : r_hy nx (ye + 1) rows (0 + 1) = r_hy nx ye rows (0 + 1) := rfl
      rw [this, hf (by omega)]
      simp only [r_hy]
      omega
    | succ j => exact b3
theorem cn_not {p q : Nat → Bool} (h : ∀ i, q i = !p i) : ∀ n, zcnt p n + zcnt q n = n
  | 0 => rfl
  | n + 1 => by
    have := cn_not h n
    simp only [zcnt]
    rw [h n]
    cases p n <;> simp <;> omega
/-- what the class's year does -/
theorem d_py {v : z_Wd} (hd : d_ok v) {m ye : Int} (hy : v 41 8 = ye) (h9 : 0 ≤ ye ∧ ye ≤ 999) (hu : 0 ≤ v 41 7 ∧ v 41 7 ≤ 9999) (hm : 0 ≤ m ∧ m ≤ 210) (hc : 0 ≤ v 41 6 ∧ v 41 6 ≤ 999) : F_K_passYear v m = z_up (z_up (z_up (z_up (z_up v 41 7 (F_J_min_7cf53 v 9999 (v 41 7 + m))) 41 6 (F_J_min_7cf53 v 999 (v 41 6 + (zcnt (fun i => v 42 i == -1) (v 32 2).toNat : Nat)))) 45 (ye.toNat % 100) ((zbits (g_T v) (v 32 2).toNat : Nat) : Int)) 46 (ye.toNat % 100) m) 41 8 (ye + 1) ∧ P_K_passYear v m := by
  have h7 := hd.2.1
  unfold F_K_passYear P_K_passYear
  have eU : F_J_min_7cf53 v 9999 (v 41 7 + m) ≤ 9999 := by
    unfold F_J_min_7cf53
    split <;> omega
  generalize F_J_min_7cf53 v 9999 (v 41 7 + m) = U at *
  have d1 : d_ok (z_up v 41 7 U) := d_okc hd (z_up_other (by decide)) (z_up_other (by decide)) (z_up_other (by decide)) (z_up_other (by decide))
  have i1 : F_J_bitCount_0f7a4 (z_up v 41 7 U) (F_K_inside (z_up v 41 7 U) (-1)) = ((zcnt (fun i => v 42 i == -1) (v 32 2).toNat : Nat) : Int) := by
    rw [d_in d1, z_up_other (by decide), z_up_other (by decide), bt_cnt (by omega)]
  have hcn := zcnt_le (fun i => v 42 i == -1) (v 32 2).toNat
  rw [i1]
  have e2 : F_K_earn (z_up v 41 7 U) ((zcnt (fun i => v 42 i == -1) (v 32 2).toNat : Nat) : Int) = z_up (z_up v 41 7 U) 41 6 (F_J_min_7cf53 v 999 (v 41 6 + (zcnt (fun i => v 42 i == -1) (v 32 2).toNat : Nat))) := by
    unfold F_K_earn
    rw [z_up_ne (by decide)]
    rfl
  have pe : P_K_earn (z_up v 41 7 U) ((zcnt (fun i => v 42 i == -1) (v 32 2).toNat : Nat) : Int) := by
    unfold P_K_earn P_J_min_7cf53
    rw [z_up_ne (by decide)]
    exact ⟨by omega, by omega⟩
  rw [e2]
  generalize F_J_min_7cf53 v 999 (v 41 6 + (zcnt (fun i => v 42 i == -1) (v 32 2).toNat : Nat)) = C at *
  have d2 : d_ok (z_up (z_up v 41 7 U) 41 6 C) := d_okc hd (by rw [z_up_other (by decide), z_up_other (by decide)]) (by rw [z_up_other (by decide), z_up_other (by decide)]) (by rw [z_up_other (by decide), z_up_other (by decide)]) (by rw [z_up_other (by decide), z_up_other (by decide)])
  have e8 : z_up (z_up v 41 7 U) 41 6 C 41 8 = ye := by rw [z_up_ne (by decide), z_up_ne (by decide), hy]
  have e42 : z_up (z_up v 41 7 U) 41 6 C 42 = v 42 := by rw [z_up_other (by decide), z_up_other (by decide)]
  have e32 : z_up (z_up v 41 7 U) 41 6 C 32 = v 32 := by rw [z_up_other (by decide), z_up_other (by decide)]
  have eD := d_dr d2
  rw [e42] at eD
  obtain ⟨y, rfl⟩ := Int.eq_ofNat_of_zero_le h9.1
  rw [eD, e8, Int.sub_zero]
  simp only [zb_fm (show y < 1041 by omega)]
  rw [Int.toNat_natCast, e32]
  refine ⟨rfl, ⟨by omega, by omega⟩, p_in d1 (by omega), pe, p_fm (by omega), p_in d2 (by omega), by omega, p_fm (by omega), by omega⟩
theorem sim_py {w v : z_Wd} (h : r_all w v) (hn0 : w 0 29 ≠ 0) (h9 : v 41 8 + 1 ≤ 999) (hf : 1 ≤ w 0 36 → r_hy (v 53 1) (v 41 8) (v 54) 1 = v 41 8) : P_G_ofDrowned v ∧ P_K_passYear (F_G_ofDrowned v).2 (F_G_ofDrowned v).1 ∧ P_M_passYear w ∧ r_all (F_M_passYear w) (F_K_passYear (F_G_ofDrowned v).2 (F_G_ofDrowned v).1) ∧ F_K_passYear (F_G_ofDrowned v).2 (F_G_ofDrowned v).1 41 8 = v 41 8 + 1 := by
  obtain ⟨g1, g2, g3, g4, g5⟩ := sim_md h
  have fv : z_fr [57, 60, 63, 66, 69] [(58, 3), (61, 3), (64, 3), (67, 3)] v (F_G_ofDrowned v).2 := fr_F_G_ofDrowned
  have fw : z_fr [9, 10] [] w (F_M_missedAll w).2 := fr_F_M_missedAll
  unfold F_M_passYear P_M_passYear z_py0
  rw [g3]
  have hf' : 1 ≤ (F_M_missedAll w).2 0 36 → r_hy ((F_G_ofDrowned v).2 53 1) ((F_G_ofDrowned v).2 41 8) ((F_G_ofDrowned v).2 54) 1 = (F_G_ofDrowned v).2 41 8 := by
    rw [fr_f fw 0 36 rfl rfl, fr_f fv 53 1 rfl rfl, fr_f fv 41 8 rfl rfl, fr_c fv 54 rfl rfl]
    exact hf
  have h9' : (F_G_ofDrowned v).2 41 8 + 1 ≤ 999 := by rw [fr_f fv 41 8 rfl rfl]; exact h9
  have e8' : (F_G_ofDrowned v).2 41 8 = v 41 8 := fr_f fv 41 8 rfl rfl
  refine ⟨g1, ?_⟩
  have key : ∀ (x u : z_Wd) (m : Int), r_all x u → 0 ≤ m ∧ m ≤ 210 → u 41 8 + 1 ≤ 999 → (1 ≤ x 0 36 → r_hy (u 53 1) (u 41 8) (u 54) 1 = u 41 8) → P_K_passYear u m ∧ (P_M_drowned x ∧ P_J_min_7cf53 x 9999 (x 19 37 + m) ∧ P_J_min_7cf53 (z_up x 19 37 (F_J_min_7cf53 x 9999 (x 19 37 + m))) 999 (x 19 36 + x 0 29 - F_J_bitCount_0f7a4 (z_up x 19 37 (F_J_min_7cf53 x 9999 (x 19 37 + m))) (F_M_drowned x)) ∧ (0 ≤ x 19 39 ∧ x 19 39 ≤ 60)) ∧ r_all (z_py2 (z_py1 (z_up (z_up x 19 37 (F_J_min_7cf53 x 9999 (x 19 37 + m))) 19 36 (F_J_min_7cf53 (z_up x 19 37 (F_J_min_7cf53 x 9999 (x 19 37 + m))) 999 (x 19 36 + x 0 29 - F_J_bitCount_0f7a4 (z_up x 19 37 (F_J_min_7cf53 x 9999 (x 19 37 + m))) (F_M_drowned x))))) m (F_M_drowned x)) (F_K_passYear u m) ∧ F_K_passYear u m 41 8 = u 41 8 + 1 := by
    intro x u m hx hm h9 hf
    obtain ⟨h1, h2, h3, h4, h5, h6, h7, h8, h9', h10⟩ := id hx
    have e1 := h2.1
    have e2 := h2.2.1
    unfold r_mn at e2
    obtain ⟨s1, s2, s3, s4, s5, s6, s7, s8, s9⟩ := id h3.1
    have hd := g_ok h2 h3
    have hp := g_pl h2 h3
    obtain ⟨py1, py2⟩ := d_py hd rfl s9.2 s8.2 hm s7.2
    rw [e1.2.1] at py1
    have eD := g_dM h2 h3
    have cnt : F_J_bitCount_0f7a4 (z_up x 19 37 (F_J_min_7cf53 x 9999 (x 19 37 + m))) (F_M_drowned x) = ((zcnt (g_T u) (x 0 29).toNat : Nat) : Int) := by
      rw [eD, bt_cnt (by omega)]
    have cn := cn_not (p := g_T u) (q := fun i => u 42 i == -1) (fun i => by unfold g_T; simp [bne]) (x 0 29).toNat
    have cl := zcnt_le (g_T u) (x 0 29).toNat
    rw [cnt, eD]
    have eU : F_J_min_7cf53 x 9999 (x 19 37 + m) = F_J_min_7cf53 u 9999 (u 41 7 + m) := by rw [s8.1]; rfl
    have eC : F_J_min_7cf53 (z_up x 19 37 (F_J_min_7cf53 x 9999 (x 19 37 + m))) 999 (x 19 36 + x 0 29 - ((zcnt (g_T u) (x 0 29).toNat : Nat) : Int)) = F_J_min_7cf53 u 999 (u 41 6 + ((zcnt (fun i => u 42 i == -1) (x 0 29).toNat : Nat) : Int)) := by
      rw [s7.1, show u 41 6 + x 0 29 - ((zcnt (g_T u) (x 0 29).toNat : Nat) : Int) = u 41 6 + ((zcnt (fun i => u 42 i == -1) (x 0 29).toNat : Nat) : Int) by omega]
      rfl
    have rU : 0 ≤ F_J_min_7cf53 u 9999 (u 41 7 + m) ∧ F_J_min_7cf53 u 9999 (u 41 7 + m) ≤ 9999 := by
      unfold F_J_min_7cf53
      split <;> omega
    have rC : 0 ≤ F_J_min_7cf53 u 999 (u 41 6 + ((zcnt (fun i => u 42 i == -1) (x 0 29).toNat : Nat) : Int)) ∧ F_J_min_7cf53 u 999 (u 41 6 + ((zcnt (fun i => u 42 i == -1) (x 0 29).toNat : Nat) : Int)) ≤ 999 := by
      unfold F_J_min_7cf53
      split <;> omega
    have l60 : 0 ≤ x 19 39 ∧ x 19 39 ≤ 60 := by
      rw [h3.2.1]
      split <;> omega
    refine ⟨py2, ⟨p_Mdr h2 hp, ⟨by omega, by omega⟩, ⟨by omega, by omega⟩, l60⟩, ?_⟩
    rw [eC, eU, py1]
    generalize F_J_min_7cf53 u 9999 (u 41 7 + m) = U at *
    generalize F_J_min_7cf53 u 999 (u 41 6 + ((zcnt (fun i => u 42 i == -1) (x 0 29).toNat : Nat) : Int)) = C at *
    generalize ((zbits (g_T u) (x 0 29).toNat : Nat) : Int) = D at *
    -- the reference's row
    have row : ∀ k, z_py2 (z_py1 (z_up (z_up x 19 37 U) 19 36 C)) m D 19 k = if k = 38 then x 19 38 + 1 else if k = 39 then (if x 19 39 = 60 then 60 else x 19 39 + 1) else if k = 40 + 2 * ((if x 19 39 = 60 then 60 else x 19 39 + 1) - 1).toNat + 1 then m else if k = 40 + 2 * ((if x 19 39 = 60 then 60 else x 19 39 + 1) - 1).toNat then D else if x 19 39 = 60 ∧ 40 ≤ k ∧ k < 158 then x 19 (k + 2) else if k = 36 then C else if k = 37 then U else x 19 k := by
      intro k
      have b39 : z_up (z_up x 19 37 U) 19 36 C 19 39 = x 19 39 := by rw [z_up_ne (by decide), z_up_ne (by decide)]
      have b38 : z_up (z_up x 19 37 U) 19 36 C 19 38 = x 19 38 := by rw [z_up_ne (by decide), z_up_ne (by decide)]
      unfold z_py2 z_py1
      rw [b39]
      by_cases c : x 19 39 = 60
      · simp only [if_pos c]
        have a39 : z_up (z_cpy (z_up (z_up x 19 37 U) 19 36 C) 19 42 19 40 118) 19 39 (x 19 39 - 1) 19 39 = 59 := by rw [z_up_at, c]; rfl
        have a38 : z_up (z_cpy (z_up (z_up x 19 37 U) 19 36 C) 19 42 19 40 118) 19 39 (x 19 39 - 1) 19 38 = x 19 38 := by rw [z_up_ne (by decide), cp_no (by decide), b38]
        rw [a39, a38]
        have t1 : (40 + 2 * (59 : Int)).toNat = 158 := by decide
        have t2 : (40 + 2 * (59 : Int) + 1).toNat = 159 := by decide
        have t3 : 40 + 2 * ((60 : Int) - 1).toNat = 158 := by decide
        rw [t1, t2, t3]
        by_cases k38 : k = 38
        · rw [if_pos k38, k38, z_up_at]
        · rw [if_neg k38, z_up_ne k38]
          by_cases k39 : k = 39
          · rw [if_pos k39, k39, z_up_at]
            rfl
          · rw [if_neg k39, z_up_ne k39]
            by_cases k159 : k = 159
            · rw [if_pos (by omega), k159, z_up_at]
            · rw [if_neg (by omega), z_up_ne k159]
              by_cases k158 : k = 158
              · rw [if_pos k158, k158, z_up_at]
              · rw [if_neg k158, z_up_ne k158, z_up_ne k39]
                by_cases kc : 40 ≤ k ∧ k < 158
                · rw [if_pos ⟨c, kc⟩, cp_in (by omega), show 42 + (k - 40) = k + 2 by omega, z_up_ne (by omega), z_up_ne (by omega)]
                · rw [if_neg (fun z => kc z.2), cp_no (by omega)]
                  by_cases k36 : k = 36
                  · rw [if_pos k36, k36, z_up_at]
                  · rw [if_neg k36, z_up_ne k36]
                    by_cases k37 : k = 37
                    · rw [if_pos k37, k37, z_up_at]
                    · rw [if_neg k37, z_up_ne k37]
      · simp only [if_neg c]
        rw [b39, b38, show (40 + 2 * x 19 39).toNat = 40 + 2 * (x 19 39 + 1 - 1).toNat by omega, show (40 + 2 * x 19 39 + 1).toNat = 40 + 2 * (x 19 39 + 1 - 1).toNat + 1 by omega]
        by_cases k38 : k = 38
        · rw [if_pos k38, k38, z_up_at]
        · rw [if_neg k38, z_up_ne k38]
          by_cases k39 : k = 39
          · rw [if_pos k39, k39, z_up_at]
          · rw [if_neg k39, z_up_ne k39]
            by_cases k159 : k = 40 + 2 * (x 19 39 + 1 - 1).toNat + 1
            · rw [if_pos k159, k159, z_up_at]
            · rw [if_neg k159, z_up_ne k159]
              by_cases k158 : k = 40 + 2 * (x 19 39 + 1 - 1).toNat
              · rw [if_pos k158, k158, z_up_at]
              · rw [if_neg k158, z_up_ne k158, if_neg (fun z => c z.1)]
                by_cases k36 : k = 36
                · rw [if_pos k36, k36, z_up_at]
                · rw [if_neg k36, z_up_ne k36]
                  by_cases k37 : k = 37
                  · rw [if_pos k37, k37, z_up_at]
                  · rw [if_neg k37, z_up_ne k37]
    have fx : z_fr [19] [] x (z_py2 (z_py1 (z_up (z_up x 19 37 U) 19 36 C)) m D) := by
      unfold z_py2 z_py1
      refine fr_up rfl (fr_up rfl (fr_up rfl (fr_up rfl ?_)))
      split
      · exact fr_up rfl (fr_cp rfl (fr_up rfl (fr_up rfl fr_rf)))
      · exact fr_up rfl (fr_up rfl fr_rf)
    have fu : z_fr [45, 46] [(41, 6), (41, 7), (41, 8)] u (z_up (z_up (z_up (z_up (z_up u 41 7 U) 41 6 C) 45 ((u 41 8).toNat % 100) D) 46 ((u 41 8).toNat % 100) m) 41 8 (u 41 8 + 1)) := fr_uf rfl (fr_up rfl (fr_up rfl (fr_uf rfl (fr_uf rfl fr_rf))))
    have u8 : z_up (z_up (z_up (z_up (z_up u 41 7 U) 41 6 C) 45 ((u 41 8).toNat % 100) D) 46 ((u 41 8).toNat % 100) m) 41 8 (u 41 8 + 1) 41 8 = u 41 8 + 1 := z_up_at
    have u7 : z_up (z_up (z_up (z_up (z_up u 41 7 U) 41 6 C) 45 ((u 41 8).toNat % 100) D) 46 ((u 41 8).toNat % 100) m) 41 8 (u 41 8 + 1) 41 7 = U := by rw [z_up_ne (by decide), z_up_other (by decide), z_up_other (by decide), z_up_ne (by decide), z_up_at]
    have u6 : z_up (z_up (z_up (z_up (z_up u 41 7 U) 41 6 C) 45 ((u 41 8).toNat % 100) D) 46 ((u 41 8).toNat % 100) m) 41 8 (u 41 8 + 1) 41 6 = C := by rw [z_up_ne (by decide), z_up_other (by decide), z_up_other (by decide), z_up_at]
    have lw1 : z_up (z_up (z_up (z_up (z_up u 41 7 U) 41 6 C) 45 ((u 41 8).toNat % 100) D) 46 ((u 41 8).toNat % 100) m) 41 8 (u 41 8 + 1) 45 ((u 41 8).toNat % 100) = D := by rw [z_up_other (by decide), z_up_other (by decide), z_up_at]
    have lw2 : ∀ k, k ≠ (u 41 8).toNat % 100 → z_up (z_up (z_up (z_up (z_up u 41 7 U) 41 6 C) 45 ((u 41 8).toNat % 100) D) 46 ((u 41 8).toNat % 100) m) 41 8 (u 41 8 + 1) 45 k = u 45 k := fun k hk => by rw [z_up_other (by decide), z_up_other (by decide), z_up_ne hk, z_up_other (by decide), z_up_other (by decide)]
    have lm1 : z_up (z_up (z_up (z_up (z_up u 41 7 U) 41 6 C) 45 ((u 41 8).toNat % 100) D) 46 ((u 41 8).toNat % 100) m) 41 8 (u 41 8 + 1) 46 ((u 41 8).toNat % 100) = m := by rw [z_up_other (by decide), z_up_at]
    have lm2 : ∀ k, k ≠ (u 41 8).toNat % 100 → z_up (z_up (z_up (z_up (z_up u 41 7 U) 41 6 C) 45 ((u 41 8).toNat % 100) D) 46 ((u 41 8).toNat % 100) m) 41 8 (u 41 8 + 1) 46 k = u 46 k := fun k hk => by rw [z_up_other (by decide), z_up_ne hk, z_up_other (by decide), z_up_other (by decide), z_up_other (by decide)]
    generalize z_up (z_up (z_up (z_up (z_up u 41 7 U) 41 6 C) 45 ((u 41 8).toNat % 100) D) 46 ((u 41 8).toNat % 100) m) 41 8 (u 41 8 + 1) = u' at *
    generalize z_py2 (z_py1 (z_up (z_up x 19 37 U) 19 36 C)) m D = x' at *
    refine ⟨⟨y_ta h1 fx fu rfl, y_mi h2 fx fu rfl, ?_, ?_, y_im h5 fx fu rfl, y_la h6 fx fu rfl, y_cl h7 fx fu rfl, y_re h8 fx fu rfl, y_fl h9' fx fu rfl, y_rd h10 fx fu rfl⟩, u8⟩
    · unfold r_no
      rw [fr_f fx 0 28 rfl rfl, fr_f fx 0 29 rfl rfl, fr_c fu 42 rfl rfl, fr_c fu 43 rfl rfl, fr_c fu 44 rfl rfl, u6, u7, u8]
      refine ⟨st_w h3.1 (by omega) (by omega) (fun k hk => ?_) (fun k hk => ?_) ?_ ?_ ?_, lg_year h3.2 s9.2.1 lw1 lw2 lm1 lm2 ?_ (fun i hi => ?_) ?_⟩
      · rw [row, if_neg (by omega), if_neg (by omega), if_neg (by omega), if_neg (by omega), if_neg (by omega), if_neg (by omega), if_neg (by omega)]
      · rw [row, if_neg (by omega), if_neg (by omega), if_neg (by omega), if_neg (by omega), if_neg (by omega), if_neg (by omega), if_neg (by omega)]
        exact s6 k hk
      · rw [row, if_neg (by decide), if_neg (by decide), if_neg (by omega), if_neg (by omega), if_neg (by omega), if_pos rfl]
        exact ⟨rfl, rC⟩
      · rw [row, if_neg (by decide), if_neg (by decide), if_neg (by omega), if_neg (by omega), if_neg (by omega), if_neg (by decide), if_pos rfl]
        exact ⟨rfl, rU⟩
      · rw [row, if_pos rfl, s9.1]
        omega
      · rw [row, if_neg (by decide), if_pos rfl]
      · rw [row 39, if_neg (by decide), if_pos rfl] at hi
        by_cases c : x 19 39 = 60
        · rw [if_pos c] at hi ⊢
          rw [row, if_neg (by omega), if_neg (by omega), if_pos c, if_neg (by omega), if_neg (by omega), if_pos ⟨c, by omega, by omega⟩, row, if_neg (by omega), if_neg (by omega), if_pos c, if_neg (by omega), if_neg (by omega), if_pos ⟨c, by omega, by omega⟩]
          exact ⟨congrArg (x 19) (by omega), congrArg (x 19) (by omega)⟩
        · rw [if_neg c] at hi ⊢
          rw [row, if_neg (by omega), if_neg (by omega), if_neg c, if_neg (by omega), if_neg (by omega), if_neg (fun z => c z.1), if_neg (by omega), if_neg (by omega), row, if_neg (by omega), if_neg (by omega), if_neg c, if_neg (by omega), if_neg (by omega), if_neg (fun z => c z.1), if_neg (by omega), if_neg (by omega)]
          exact ⟨rfl, rfl⟩
      · have r39 : x' 19 39 = (if x 19 39 = 60 then 60 else x 19 39 + 1) := by rw [row, if_neg (by decide), if_pos rfl]
        have rp : 1 ≤ (if x 19 39 = 60 then 60 else x 19 39 + 1) := by split <;> omega
        rw [r39]
        constructor
        · rw [row, if_neg (by omega), if_neg (by omega), if_neg (by omega), if_pos rfl]
        · rw [row, if_neg (by omega), if_neg (by omega), if_pos rfl]
    · obtain ⟨a0, a1⟩ := h4
      unfold r_ac
      rw [fr_f fx 0 28 rfl rfl, fr_f fx 0 29 rfl rfl, fr_f fx 0 36 rfl rfl, fr_c fx 21 rfl rfl, fr_f fu 53 1 rfl rfl, fr_f fu 53 2 rfl rfl, fr_c fu 54 rfl rfl, u8]
      exact ⟨a0, hi_year a1 s9.2.1 hf lw2 lm2⟩
  obtain ⟨k1, k2, k3, k4⟩ := key _ _ _ g5 g4 h9' hf'
  exact ⟨k1, ⟨g2, k2⟩, k3, by rw [k4, e8']⟩
