/-! steps of either side -/
theorem fr_lo {X : List Nat} {Y : List (Nat × Nat)} {w w' : z_Wd} (h : z_fr X Y w w') (c : (X.all (fun k => decide (26 < k)) && Y.all (fun p => decide (26 < p.1))) = true) : ∀ k, k < 27 → w' k = w k := by
  intro k hk
  simp only [Bool.and_eq_true] at c
  refine fr_c h k ?_ ?_
  · cases e : X.contains k with
    | false => rfl
    | true =>
      have := List.all_eq_true.mp c.1 k (List.contains_iff_mem.mp e)
      simp only [decide_eq_true_eq] at this
      omega
  · refine List.all_eq_true.mpr (fun p hp => ?_)
    have := List.all_eq_true.mp c.2 p hp
    simp only [decide_eq_true_eq] at this
    simp only [bne_iff_ne, ne_eq]
    omega
theorem fr_hi {X : List Nat} {Y : List (Nat × Nat)} {w w' : z_Wd} (h : z_fr X Y w w') (c : (X.all (fun k => decide (k < 27)) && Y.all (fun p => decide (p.1 < 27))) = true) : ∀ k, 27 ≤ k → w' k = w k := by
  intro k hk
  simp only [Bool.and_eq_true] at c
  refine fr_c h k ?_ ?_
  · cases e : X.contains k with
    | false => rfl
    | true =>
      have := List.all_eq_true.mp c.1 k (List.contains_iff_mem.mp e)
      simp only [decide_eq_true_eq] at this
      omega
  · refine List.all_eq_true.mpr (fun p hp => ?_)
    have := List.all_eq_true.mp c.2 p hp
    simp only [decide_eq_true_eq] at this
    simp only [bne_iff_ne, ne_eq]
    omega
theorem rl_ch {w v w' v' : z_Wd} (h : r_all w v) (e : ∀ k, k < 27 → w' k = w k) (g : ∀ k, 27 ≤ k → v' k = v k) : r_all w' v' := by
  obtain ⟨h1, h2, h3, h4, h5, h6, h7, h8, h9, h10⟩ := h
  have e0 : ∀ j, w' 0 j = w 0 j := fun j => by rw [e 0 (by omega)]
  have g27 : ∀ j, v' 27 j = v 27 j := fun j => by rw [g 27 (by omega)]
  have g28 : ∀ j, v' 28 j = v 28 j := fun j => by rw [g 28 (by omega)]
  have g41 : ∀ j, v' 41 j = v 41 j := fun j => by rw [g 41 (by omega)]
  have g47 : ∀ j, v' 47 j = v 47 j := fun j => by rw [g 47 (by omega)]
  have g53 : ∀ j, v' 53 j = v 53 j := fun j => by rw [g 53 (by omega)]
  have g55 : ∀ j, v' 55 j = v 55 j := fun j => by rw [g 55 (by omega)]
  have g72 : ∀ j, v' 72 j = v 72 j := fun j => by rw [g 72 (by omega)]
  exact ⟨x_ta h1 (e 1 (by omega)) (e0 2) (g28 1) (g 29 (by omega)),
    x_mi h2 (e0 28) (e0 29) (e0 30) (e 15 (by omega)) (e 16 (by omega)) (e 17 (by omega)) (e 18 (by omega)) (g 31 (by omega)) (g 32 (by omega)),
    x_no h3 (e0 28) (e0 29) (e 19 (by omega)) (g 42 (by omega)) (g 43 (by omega)) (g 44 (by omega)) (g41 6) (g41 7) (g41 8) (g 45 (by omega)) (g 46 (by omega)),
    x_ac h4 (e0 28) (e0 29) (e0 36) (e 21 (by omega)) (g53 1) (g53 2) (g 54 (by omega)) (g41 8) (g 45 (by omega)) (g 46 (by omega)),
    x_im h5 (e0 28) (e0 29) (e0 45) (e 25 (by omega)) (g27 13) (g 48 (by omega)) (g 49 (by omega)) (g 50 (by omega)) (g 51 (by omega)) (g 52 (by omega)) (g47 6) (g47 7) (g47 8),
    x_la h6 (e0 13) (e0 33) (e 2 (by omega)) (e 3 (by omega)) (e 5 (by omega)) (e 6 (by omega)) (e 7 (by omega)) (e 8 (by omega)) (g55 4) (g55 5) (fun n hn => g _ (by omega)) (fun n hn => by rw [g _ (by omega)]),
    x_cl h7 (e0 43) (e0 30) (e 23 (by omega)) (e 24 (by omega)) (g72 4) (g 73 (by omega)) (g 74 (by omega)),
    x_re h8 (e 20 (by omega)) (g 78 (by omega)),
    x_fl h9 (e0 34) (g27 12),
    x_rd h10 (e 13 (by omega)) (g 35 (by omega))⟩
/-- what follows for one world in which both act, the class first -/
theorem s_two {w v1 w2 : z_Wd} {X X' : List Nat} {Y Y' : List (Nat × Nat)} (hr : Rl w) (fD : z_fr X Y w v1) (cD : (X.all (fun k => decide (26 < k)) && Y.all (fun p => decide (26 < p.1))) = true) (fM : z_fr X' Y' v1 w2) (cM : (X'.all (fun k => decide (k < 27)) && Y'.all (fun p => decide (p.1 < 27))) = true) : r_all v1 w ∧ (r_all w2 v1 → Rl w2) :=
  ⟨rl_ch hr (fr_lo fD cD) (fun _ _ => rfl), fun h => rl_ch h (fun _ _ => rfl) (fr_hi fM cM)⟩
/-! copies -/
theorem cp_in {w : z_Wd} {k0 sp k1 dp n i : Nat} (h : dp ≤ i ∧ i < dp + n) : z_cpy w k0 sp k1 dp n k1 i = w k0 (sp + (i - dp)) := by
  unfold z_cpy
  rw [if_pos rfl, if_pos h]
theorem cp_no {w : z_Wd} {k0 sp k1 dp n i : Nat} (h : ¬ (dp ≤ i ∧ i < dp + n)) : z_cpy w k0 sp k1 dp n k1 i = w k1 i := by
  unfold z_cpy
  rw [if_pos rfl, if_neg h]
theorem cp_ot {w : z_Wd} {k0 sp k1 dp n a : Nat} (h : a ≠ k1) : z_cpy w k0 sp k1 dp n a = w a := by
  funext j
  unfold z_cpy
  rw [if_neg h]
/-! the relation by its numbers alone -/
theorem st_c {nn nw co un ye : Int} {wf lf dp wf' lf' dp' now now' : Nat → Int} (h : r_st nn nw wf lf dp co un ye now) (hn : nn ≤ 7) (hw4 : nw ≤ 4) (hw : ∀ n, n < 7 → wf' n = wf n) (hl : ∀ n, n < 7 → lf' n = lf n) (hd : ∀ n, n < 4 → dp' n = dp n) (hN : ∀ k, k < 39 → now' k = now k) : r_st nn nw wf' lf' dp' co un ye now' := by
  obtain ⟨s1, s2, s3, s4, s5, s6, s7, s8, s9⟩ := h
  refine ⟨fun n hn2 => ?_, fun n hn2 => ?_, fun a ha => ?_, fun a i ha hi => ?_, fun n hn2 hne => ?_, fun k hk => ?_, ?_, ?_, ?_⟩
  · rw [hw n hn2, hl n hn2]
    exact s1 n hn2
  · rw [hw n (by omega)]
    exact s2 n hn2
  · rw [hN a (by omega)]
    exact s3 a ha
  · rw [hN a (by omega)] at hi
    have r := (s3 a ha).1
    have q := s4 a i ha hi
    rw [hN (4 + 7 * a + i) (by omega), hw _ (by omega), hl _ (by omega)]
    exact q
  · rw [hw n (by omega)] at hne ⊢
    rw [hl n (by omega)]
    have q := s5 n hn2 hne
    have r1 := s1 n (by omega)
    have r2 := (s3 (wf n).toNat (by omega)).1
    rw [hN _ (by omega), hN _ (by omega)]
    exact q
  · rw [hN _ (by omega), hd k (by omega)]
    exact s6 k hk
  · rw [hN _ (by omega)]
    exact s7
  · rw [hN _ (by omega)]
    exact s8
  · rw [hN _ (by omega)]
    exact s9
theorem lg_c {ye : Int} {lw lm lw' lm' now now' : Nat → Int} (h : r_lg ye lw lm now) (hN : ∀ k, 39 ≤ k → k < 160 → now' k = now k) (hw : ∀ i : Nat, (i : Int) < now 39 → lw' ((ye - now 39 + i).toNat % 100) = lw ((ye - now 39 + i).toNat % 100)) (hm : ∀ i : Nat, (i : Int) < now 39 → lm' ((ye - now 39 + i).toNat % 100) = lm ((ye - now 39 + i).toNat % 100)) : r_lg ye lw' lm' now' := by
  obtain ⟨l1, l2⟩ := h
  have l60 : now 39 ≤ 60 := by
    rw [l1]
    split <;> omega
  unfold r_lg
  rw [hN 39 (by omega) (by omega)]
  refine ⟨l1, fun i hi => ?_⟩
  rw [hN _ (by omega) (by omega), hN _ (by omega) (by omega), hw i hi, hm i hi]
  exact l2 i hi
theorem lg_n {ye : Int} {lw lm now now' : Nat → Int} (h : r_lg ye lw lm now) (hN : ∀ k, 39 ≤ k → k < 160 → now' k = now k) : r_lg ye lw lm now' := lg_c h hN (fun _ _ => rfl) (fun _ _ => rfl)
/-- one more act is kept -/
theorem hi_keep {nn nw ac nx ye ac' nx' co un : Int} {lw lm rows rows' kept kept' wf lf dp now : Nat → Int} (h : r_hi nn nw ac nx ye lw lm rows kept) (hn : nn ≤ 7) (hw4 : nw ≤ 4) (hs : r_st nn nw wf lf dp co un ye now) (hl : r_lg ye lw lm now)
    (hx : nx'.toNat = (nx.toNat + 1) % 40) (hx0 : 0 ≤ nx') (hac : ac' = if ac = 40 then 40 else ac + 1)
    (r1 : ∀ q, q < 7 → rows' (21 * nx.toNat + q) = wf q) (r2 : ∀ q, q < 7 → rows' (21 * nx.toNat + (7 + q)) = lf q) (r3 : ∀ q, q < 4 → rows' (21 * nx.toNat + (14 + q)) = dp q) (r4 : rows' (21 * nx.toNat + 18) = co) (r5 : rows' (21 * nx.toNat + 19) = un) (r6 : rows' (21 * nx.toNat + 20) = ye)
    (r7 : ∀ p q, p < 40 → q < 21 → p ≠ nx.toNat → rows' (21 * p + q) = rows (21 * p + q))
    (k1 : ∀ k, k < 160 → kept' (160 * (ac'.toNat - 1) + k) = now k) (k2 : ∀ i k, i < ac'.toNat - 1 → k < 160 → kept' (160 * i + k) = kept (160 * (i + (if ac = 40 then 1 else 0)) + k)) : r_hi nn nw ac' nx' ye lw lm rows' kept' := by
  obtain ⟨a1, a2, a3⟩ := h
  have hp : nx.toNat < 40 := by omega
  have hac2 : 1 ≤ ac' ∧ ac' ≤ 40 := by
    rw [hac]
    split <;> omega
  have hy : ∀ j, j ≤ 39 → r_hy nx' ye rows' (j + 1) = r_hy nx ye rows j := by
    intro j hj
    simp only [r_hy]
    rw [hx]
    cases j with
    | zero =>
      rw [show ((nx.toNat + 1) % 40 + 39 - 0) % 40 = nx.toNat by omega, r6]
    | succ j =>
      rw [show ((nx.toNat + 1) % 40 + 39 - (j + 1)) % 40 = (nx.toNat + 39 - j) % 40 by omega]
      exact r7 _ 20 (Nat.mod_lt _ (by decide)) (by omega) (by omega)
  refine ⟨by omega, by omega, fun j hj => ?_⟩
  cases j with
  | zero =>
    rw [show (nx'.toNat + 39 - 0) % 40 = nx.toNat by omega, r4, r5, r6]
    refine ⟨st_c hs hn hw4 r1 r2 r3 (fun k hk => ?_), lg_n hl (fun k hk hk2 => ?_), ?_⟩
    · rw [Nat.sub_zero]
      exact k1 k (by omega)
    · rw [Nat.sub_zero]
      exact k1 k hk2
    · rw [hy 0 (by omega)]
      simp only [r_hy]
      omega
  | succ j =>
    have hj2 : (j : Int) < ac := by
      rw [hac] at hj
      split at hj <;> omega
    have hj3 : j < 39 := by omega
    obtain ⟨b1, b2, b3⟩ := a3 j hj2
    have ep : (nx'.toNat + 39 - (j + 1)) % 40 = (nx.toNat + 39 - j) % 40 := by omega
    have hm : (nx.toNat + 39 - j) % 40 < 40 := Nat.mod_lt _ (by decide)
    have hne : (nx.toNat + 39 - j) % 40 ≠ nx.toNat := by omega
    rw [ep]
    generalize (nx.toNat + 39 - j) % 40 = p at *
    have ek : ∀ k, k < 160 → kept' (160 * (ac'.toNat - 1 - (j + 1)) + k) = kept (160 * (ac.toNat - 1 - j) + k) := by
      intro k hk
      rw [k2 _ k (by omega) hk]
      congr 1
      congr 1
      congr 1
      rw [hac] at hj ⊢
      split at hj
      · rw [if_pos (by assumption), if_pos (by assumption)]
        omega
      · rw [if_neg (by assumption), if_neg (by assumption)]
        omega
    rw [r7 p 18 hm (by omega) hne, r7 p 19 hm (by omega) hne, r7 p 20 hm (by omega) hne]
    refine ⟨st_c b1 hn hw4 (fun n hn2 => r7 p n hm (by omega) hne) (fun n hn2 => r7 p (7 + n) hm (by omega) hne) (fun n hn2 => r7 p (14 + n) hm (by omega) hne) (fun k hk => ek k (by omega)), lg_n b2 (fun k hk hk2 => ek k hk2), ?_⟩
    rw [hy (j + 1) (by omega), hy j (by omega)]
    exact b3
/-! the class keeps -/
theorem kH_row {v : z_Wd} {p : Nat} (hp : p < 40) (i : Nat) : F_K_writeTo_54 v ((p : Int) * 21) 54 i = if 21 * p ≤ i ∧ i < 21 * p + 7 then v 42 (i - 21 * p) else if 21 * p + 7 ≤ i ∧ i < 21 * p + 14 then v 43 (i - (21 * p + 7)) else if 21 * p + 14 ≤ i ∧ i < 21 * p + 18 then v 44 (i - (21 * p + 14)) else if i = 21 * p + 18 then v 41 6 else if i = 21 * p + 19 then v 41 7 else if i = 21 * p + 20 then v 41 8 else v 54 i := by
  unfold F_K_writeTo_54
  rw [if_neg (by omega), if_pos (by omega), show ((p : Int) * 21).toNat = 21 * p by omega, show ((p : Int) * 21 + 7).toNat = 21 * p + 7 by omega, show ((p : Int) * 21 + 14).toNat = 21 * p + 14 by omega, show ((p : Int) * 21 + 21 - 3).toNat = 21 * p + 18 by omega, show ((p : Int) * 21 + 21 - 2).toNat = 21 * p + 19 by omega, show ((p : Int) * 21 + 21 - 1).toNat = 21 * p + 20 by omega]
  have o : ∀ k, k ≠ 54 → z_cpy (z_cpy (z_cpy v 42 0 54 (21 * p) 7) 43 0 54 (21 * p + 7) 7) 44 0 54 (21 * p + 14) 4 k = v k := fun k hk => by rw [cp_ot hk, cp_ot hk, cp_ot hk]
  rw [o 41 (by decide)]
  by_cases c1 : 21 * p ≤ i ∧ i < 21 * p + 7
  · rw [if_pos c1, z_up_ne (by omega), z_up_ne (by omega), z_up_ne (by omega), cp_no (by omega), cp_no (by omega), cp_in c1]
    congr 1
    omega
  · rw [if_neg c1]
    by_cases c2 : 21 * p + 7 ≤ i ∧ i < 21 * p + 14
    · rw [if_pos c2, z_up_ne (by omega), z_up_ne (by omega), z_up_ne (by omega), cp_no (by omega), cp_in (by omega), cp_ot (by decide)]
      congr 1
      omega
    · rw [if_neg c2]
      by_cases c3 : 21 * p + 14 ≤ i ∧ i < 21 * p + 18
      · rw [if_pos c3, z_up_ne (by omega), z_up_ne (by omega), z_up_ne (by omega), cp_in (by omega), cp_ot (by decide), cp_ot (by decide)]
        congr 1
        omega
      · rw [if_neg c3]
        by_cases c4 : i = 21 * p + 18
        · rw [if_pos c4, z_up_ne (by omega), z_up_ne (by omega), c4, z_up_at]
        · rw [if_neg c4]
          by_cases c5 : i = 21 * p + 19
          · rw [if_pos c5, z_up_ne (by omega), c5, z_up_at]
          · rw [if_neg c5]
            by_cases c6 : i = 21 * p + 20
            · rw [if_pos c6, c6, z_up_at]
            · rw [if_neg c6, z_up_ne c6, z_up_ne c5, z_up_ne c4, cp_no c3, cp_no c2, cp_no c1]
theorem kH {v : z_Wd} {p : Nat} (hp : p < 40) (e : v 53 1 = (p : Int)) (h2 : 0 ≤ v 53 2 ∧ v 53 2 ≤ 40) : F_H_keep_41 v 53 1 = (((p + 1) % 40 : Nat) : Int) ∧ F_H_keep_41 v 53 2 = (if v 53 2 = 40 then 40 else v 53 2 + 1) ∧ (∀ i, F_H_keep_41 v 54 i = F_K_writeTo_54 v ((p : Int) * 21) 54 i) ∧ P_H_keep_41 v := by
  have fw : z_fr [54] [] v (F_K_writeTo_54 v ((p : Int) * 21)) := fr_F_K_writeTo_54
  have e1 : F_K_writeTo_54 v ((p : Int) * 21) 53 1 = (p : Int) := by rw [fr_f fw 53 1 rfl rfl]; exact e
  have e2 : F_K_writeTo_54 v ((p : Int) * 21) 53 2 = v 53 2 := fr_f fw 53 2 rfl rfl
  have et : Int.tmod ((p : Int) + 1) 40 = (((p + 1) % 40 : Nat) : Int) := by
    rw [Int.tmod_eq_emod_of_nonneg (by omega)]
    omega
  unfold F_H_keep_41 P_H_keep_41 F_J_min_7cf53 P_J_min_7cf53
  rw [e, e1, e2, et]
  refine ⟨?_, ?_, fun i => ?_, ?_⟩
  · rw [z_up_ne (by decide), z_up_at]
  · rw [z_up_at]
    split
    · rw [if_neg (by omega)]
    · split <;> omega
  · rw [z_up_other (by decide), z_up_other (by decide)]
  · unfold P_K_writeTo_54
    refine ⟨⟨by omega, fun _ => trivial, fun _ => ⟨by omega, fun _ => ⟨by omega, by omega, by omega, by omega, by omega, by omega, by omega, by omega, by omega⟩, fun _ => trivial⟩⟩, by omega, by omega, by omega⟩
/-! the reference keeps -/
theorem kM {w : z_Wd} (h : 0 ≤ w 0 36 ∧ w 0 36 ≤ 40) : F_M_keep w 0 36 = (if w 0 36 = 40 then 40 else w 0 36 + 1) ∧ (∀ k, k < 160 → F_M_keep w 21 (160 * ((if w 0 36 = 40 then 40 else w 0 36 + 1).toNat - 1) + k) = w 19 k) ∧ ∀ i k, i < (if w 0 36 = 40 then 40 else w 0 36 + 1).toNat - 1 → k < 160 → F_M_keep w 21 (160 * i + k) = w 21 (160 * (i + (if w 0 36 = 40 then 1 else 0)) + k) := by
  unfold F_M_keep z_kept
  by_cases c : w 0 36 = 40
  · simp only [if_pos c]
    rw [z_up_at, c]
    have e : (160 * (40 - 1 : Int)).toNat = 6240 := by decide
    have e' : z_up (z_cpy w 21 160 21 0 6240) 0 36 (40 - 1) 0 36 = 40 - 1 := z_up_at
    refine ⟨by rw [z_up_at]; rfl, fun k hk => ?_, fun i k hi hk => ?_⟩
    · rw [z_up_other (by decide), e', e, show 160 * ((40 : Int).toNat - 1) + k = 6240 + k by omega, cp_in (by omega), z_up_other (by decide), cp_ot (by decide), show 0 + (6240 + k - 6240) = k by omega]
    · rw [z_up_other (by decide), e', e, cp_no (by omega), z_up_other (by decide), cp_in (by omega)]
      congr 1
      omega
  · simp only [if_neg c]
    refine ⟨by rw [z_up_at], fun k hk => ?_, fun i k hi hk => ?_⟩
    · rw [z_up_other (by decide), show 160 * ((w 0 36 + 1).toNat - 1) + k = (160 * w 0 36).toNat + k by omega, cp_in (by omega)]
      congr 1
      omega
    · rw [z_up_other (by decide), cp_no (by omega)]
      rfl
theorem sim_keep {w v : z_Wd} (h : r_all w v) : P_M_keep w ∧ P_H_keep_41 v ∧ r_all (F_M_keep w) (F_H_keep_41 v) := by
  obtain ⟨h1, h2, h3, h4, h5, h6, h7, h8, h9, h10⟩ := h
  obtain ⟨a0, a1, a2, a3⟩ := id h4
  have e2 := h2.2.1
  unfold r_mn at e2
  obtain ⟨p, hp⟩ := Int.eq_ofNat_of_zero_le a2.1
  have hp40 : p < 40 := by omega
  obtain ⟨k1, k2, k3, k4⟩ := kH (v := v) hp40 hp (by omega)
  obtain ⟨m1, m2, m3⟩ := kM (w := w) a1
  have f : z_fr [21] [(0, 36)] w (F_M_keep w) := fr_F_M_keep
  have g : z_fr [54] [(53, 1), (53, 2)] v (F_H_keep_41 v) := fr_F_H_keep_41
  refine ⟨a1, k4, y_ta h1 f g rfl, y_mi h2 f g rfl, y_no h3 f g rfl, ?_, y_im h5 f g rfl, y_la h6 f g rfl, y_cl h7 f g rfl, y_re h8 f g rfl, y_fl h9 f g rfl, y_rd h10 f g rfl⟩
  unfold r_ac
  rw [m1, k2, k1, fr_f f 0 28 rfl rfl, fr_f f 0 29 rfl rfl, fr_f g 41 8 rfl rfl, fr_c g 45 rfl rfl, fr_c g 46 rfl rfl, ← a0]
  refine ⟨rfl, ?_⟩
  have hx : (v 53 1).toNat = p := by omega
  refine hi_keep (nx := v 53 1) (co := v 41 6) (un := v 41 7) (wf := v 42) (lf := v 43) (dp := v 44) (now := w 19) ⟨a1, a2, a3⟩ (by omega) (by omega) h3.1 h3.2 (by omega) (by omega) rfl ?_ ?_ ?_ ?_ ?_ ?_ ?_ m2 m3
  · intro q hq
    rw [hx, k3, kH_row hp40, if_pos (by omega)]
    congr 1
    omega
  · intro q hq
    rw [hx, k3, kH_row hp40, if_neg (by omega), if_pos (by omega)]
    congr 1
    omega
  · intro q hq
    rw [hx, k3, kH_row hp40, if_neg (by omega), if_neg (by omega), if_pos (by omega)]
    congr 1
    omega
  · rw [hx, k3, kH_row hp40, if_neg (by omega), if_neg (by omega), if_neg (by omega), if_pos rfl]
  · rw [hx, k3, kH_row hp40, if_neg (by omega), if_neg (by omega), if_neg (by omega), if_neg (by omega), if_pos rfl]
  · rw [hx, k3, kH_row hp40, if_neg (by omega), if_neg (by omega), if_neg (by omega), if_neg (by omega), if_neg (by omega), if_pos rfl]
  · intro p' q hp' hq hne
    rw [k3, kH_row hp40, if_neg (by omega), if_neg (by omega), if_neg (by omega), if_neg (by omega), if_neg (by omega), if_neg (by omega)]
/-! what is refused -/
theorem h_rf0 {w : z_Wd} : F_M_isRefused w (-1) = (0, w) := by
  unfold F_M_isRefused
  rw [if_pos rfl, if_pos rfl]
theorem h_rf {w : z_Wd} {s : Int} (hs : s ≠ -1) : F_M_isRefused w s = (1, z_up w 20 s.toNat (w 20 s.toNat + 1)) := by
  unfold F_M_isRefused
  rw [if_neg hs, if_neg hs]
theorem h_rfD {v : z_Wd} {s x : Int} (hs : 0 ≤ s ∧ s < 5) : F_D_refuse v s x = (x, z_up v 78 s.toNat (v 78 s.toNat + 1)) := by
  unfold F_D_refuse
  rw [if_neg (by omega), if_neg (by omega)]
theorem p_rfD {v : z_Wd} {s x : Int} (hs : 0 ≤ s ∧ s < 5) : P_D_refuse v s x := ⟨by omega, fun _ => trivial, fun _ => ⟨fun _ => trivial, fun _ => hs⟩⟩
theorem p_rfM {w : z_Wd} {s : Int} (hs : -1 ≤ s ∧ s < 5) : P_M_isRefused w s := ⟨by omega, fun _ => trivial, fun _ => by omega⟩
theorem sim_rf {w v : z_Wd} (h : r_all w v) {s : Nat} (hs : s < 5) : r_all (z_up w 20 s (w 20 s + 1)) (z_up v 78 s (v 78 s + 1)) := by
  obtain ⟨h1, h2, h3, h4, h5, h6, h7, h8, h9, h10⟩ := h
  have f : z_fr [20] [] w (z_up w 20 s (w 20 s + 1)) := fr_up rfl fr_rf
  have g : z_fr [78] [] v (z_up v 78 s (v 78 s + 1)) := fr_up rfl fr_rf
  refine ⟨y_ta h1 f g rfl, y_mi h2 f g rfl, y_no h3 f g rfl, y_ac h4 f g rfl, y_im h5 f g rfl, y_la h6 f g rfl, y_cl h7 f g rfl, ?_, y_fl h9 f g rfl, y_rd h10 f g rfl⟩
  intro i hi
  by_cases e : i = s
  · subst e
    rw [z_up_at, z_up_at, h8 i hi]
  · rw [z_up_ne e, z_up_ne e]
    exact h8 i hi
