/-! the law's clauses: behind the first sum or condition -/
theorem q_k251 {w : z_Wd} {l1 : Int} : (∀ j, j ≠ 5 → j ≠ 8 → K_M_clause_251 w l1 j = w j) ∧ K_M_clause_251 w l1 8 l1.toNat = w 4 (w 0 14).toNat ∧ K_M_clause_251 w l1 5 (w 0 14).toNat = w 5 (w 0 14).toNat + 1 := by
  unfold K_M_clause_251
  refine ⟨fun j h5 h8 => by rw [z_up_other h5, z_up_other h8], by rw [z_up_other (by decide), z_up_at], by rw [z_up_at]⟩
/-- no test: the sum alone -/
theorem q_noT {l1 : Int} (hl : 0 ≤ l1 ∧ l1 < 700) {nd n : Nat} (hnd : nd ≤ 60) {wA vA w2 v2 : z_Wd} (SA : q_S 6 wA vA) (h6 : wA 6 l1.toNat = wA 4 (wA 0 14).toNat) (sl : vA 38 2 + 2 ≤ vA 37 2) (G : q_G false nd wA vA w2 v2 n) (S : q_S 6 w2 v2) : PK_M_clause_184 (z_up w2 0 3 (v2 37 2)) l1 0 ∧ P_W_add v2 2 0 ∧ P_W_goOnHere (F_W_add v2 2 0) (-1) ∧ q_CG 1 l1 wA vA (K_M_clause_184 (z_up w2 0 3 (v2 37 2)) l1 0) (F_W_goOnHere (F_W_add v2 2 0) (-1)) := by
  obtain ⟨s1, s2⟩ := q_S0 S
  have G' := q_Gq G s2
  generalize z_up w2 0 3 (v2 37 2) = w3 at *
  obtain ⟨f, p, a4, a38, a37, asq, arun, apre, ap39⟩ := id G'
  obtain ⟨h1, h2, h3, h4, h5, hL, h7, h8⟩ := id SA
  have hq := (q_Sat s1).2.1
  have L3 : w3 0 14 = wA 0 14 := fr_f f.1 0 14 rfl rfl
  have e36 : w3 6 = wA 6 := fr_c f.1 6 rfl rfl
  have e35 : w3 5 = wA 5 := fr_c f.1 5 rfl rfl
  obtain ⟨b1, b2, b3, b4, b5, b6⟩ := q_Sadd (s := 2) (x := 0) s1 (by omega)
  have eg : F_W_goOnHere (F_W_add v2 2 0) (-1) = F_W_add v2 2 0 := by
    unfold F_W_goOnHere
    rw [if_pos (by decide)]
  rw [eg]
  have eK : K_M_clause_184 w3 l1 0 = K_M_clause_251 (z_up w3 7 l1.toNat (w3 6 l1.toNat)) l1 := by
    unfold K_M_clause_184
    rw [if_pos rfl]
  rw [eK]
  obtain ⟨k1, k2, k3⟩ := q_k251 (w := z_up w3 7 l1.toNat (w3 6 l1.toNat)) (l1 := l1)
  have kf := q_fcT (q_fcT (q_fcf (l1 := l1) f) (q_fc6 (w := w3) (v := v2) hl.1 (Or.inr (Or.inl rfl)) (x := w3 6 l1.toNat))) (q_fcK (w := z_up w3 7 l1.toNat (w3 6 l1.toNat)) (v := v2) hl.1)
  have pk : PK_M_clause_251 (z_up w3 7 l1.toNat (w3 6 l1.toNat)) l1 := by
    refine ⟨?_, hl⟩
    rw [z_up_other (by decide), L3]
    exact hL
  have pk4 : PK_M_clause_184 w3 l1 0 := ⟨hl, by decide, fun _ => pk, fun z => absurd rfl z⟩
  have z7 : ∀ j, j ≠ 7 → (z_up w3 7 l1.toNat (w3 6 l1.toNat)) j = w3 j := fun j hj => z_up_other hj
  have z77 : (z_up w3 7 l1.toNat (w3 6 l1.toNat)) 7 l1.toNat = w3 6 l1.toNat := z_up_at
  generalize z_up w3 7 l1.toNat (w3 6 l1.toNat) = w4 at *
  rw [z7 0 (by decide), z7 4 (by decide), L3] at k2
  rw [z7 0 (by decide), z7 5 (by decide), L3] at k3
  have m0 : K_M_clause_251 w4 l1 0 = w3 0 := by rw [k1 0 (by decide) (by decide), z7 0 (by decide)]
  have m1 : K_M_clause_251 w4 l1 1 = w3 1 := by rw [k1 1 (by decide) (by decide), z7 1 (by decide)]
  have m2 : K_M_clause_251 w4 l1 2 = w3 2 := by rw [k1 2 (by decide) (by decide), z7 2 (by decide)]
  have m3 : K_M_clause_251 w4 l1 3 = w3 3 := by rw [k1 3 (by decide) (by decide), z7 3 (by decide)]
  have m4 : K_M_clause_251 w4 l1 4 = w3 4 := by rw [k1 4 (by decide) (by decide), z7 4 (by decide)]
  have m6 : K_M_clause_251 w4 l1 6 l1.toNat = wA 4 (wA 0 14).toNat := by rw [k1 6 (by decide) (by decide), z7 6 (by decide), e36, h6]
  have m7 : K_M_clause_251 w4 l1 7 l1.toNat = wA 4 (wA 0 14).toNat := by rw [k1 7 (by decide) (by decide), z77, e36, h6]
  generalize K_M_clause_251 w4 l1 = w5 at *
  have s9 := q_Sw b2 m0 m1 m4
  have b37 : F_W_add v2 2 0 37 2 = v2 37 2 := by rw [b5]
  refine ⟨pk4, b1, ⟨by decide, fun _ => trivial, fun z => absurd (by decide) z⟩, ⟨⟨kf.1, fr_tr kf.2.1 b6, kf.2.2⟩, s9, by rw [k3, e35], by omega, by omega, by rw [m4, a4]; omega, fun i hi => by rw [m2, m3]; exact apre i hi, fun i hi => by rw [b4, if_neg (by omega)]; exact ap39 i hi, by rw [k2, m4]; exact Int.le_refl _, ?_⟩⟩
  rw [m2, m3, m6, m7, k2, a4, b3, a38]
  obtain ⟨a, ea⟩ := Int.eq_ofNat_of_zero_le h7.1
  obtain ⟨kk, ek⟩ := Int.eq_ofNat_of_zero_le (show 0 ≤ vA 38 2 by omega)
  rw [ea, Int.toNat_natCast, ek, Int.toNat_natCast] at asq
  rw [ea, Int.toNat_natCast] at arun
  rw [ek] at a38
  rw [ea, ek]
  have t1 : ((a : Int) + (n : Int) - (a : Int)).toNat = n := by omega
  have t2 : ((kk : Int) + (n : Int) + 1).toNat = kk + n + 1 := by omega
  refine ⟨by omega, ?_, ?_, ?_, ?_, fun z => absurd rfl z⟩
  · rw [if_pos rfl, t1, Int.toNat_natCast, Int.toNat_natCast, Nat.add_zero]
    exact l_sqC asq (fun _ _ => rfl) (fun _ _ => rfl) (fun i hi => by rw [b4, if_neg (by omega)])
  · rw [t1, Int.toNat_natCast]
    exact arun [] (by simp; omega)
  · rw [if_pos rfl, t1, t2, Int.toNat_natCast]
    omega
  · rw [t2, b4, if_pos (by omega)]
    decide
/-- the class, behind a condition -/
def q_tF (rc : Int × z_Wd) : Int × z_Wd := if rc.1 = 0 then (0, rc.2) else if (F_LR_take rc.2 63).1 = 0 then (0, (F_LR_take rc.2 63).2) else if (F_LR_readSum (F_W_add ((F_LR_take rc.2 63).2) 3 0) 0).1 = 0 then (0, (F_LR_readSum (F_W_add ((F_LR_take rc.2 63).2) 3 0) 0).2) else (1, F_W_goOnHere (F_W_add ((F_LR_readSum (F_W_add ((F_LR_take rc.2 63).2) 3 0) 0).2) 2 0) (((F_LR_take rc.2 63).2) 38 2))
def q_tP (rc : Int × z_Wd) : Prop := (-2147483648 ≤ rc.1 ∧ rc.1 < 2147483648) ∧ ((rc.1 = 0 → True) ∧ (¬ (rc.1 = 0) → (P_LR_take rc.2 63) ∧ (-2147483648 ≤ (F_LR_take rc.2 63).1 ∧ (F_LR_take rc.2 63).1 < 2147483648) ∧ (((F_LR_take rc.2 63).1 = 0 → True) ∧ (¬ ((F_LR_take rc.2 63).1 = 0) → (P_W_add ((F_LR_take rc.2 63).2) 3 0) ∧ (P_LR_readSum (F_W_add ((F_LR_take rc.2 63).2) 3 0) 0) ∧ (-2147483648 ≤ (F_LR_readSum (F_W_add ((F_LR_take rc.2 63).2) 3 0) 0).1 ∧ (F_LR_readSum (F_W_add ((F_LR_take rc.2 63).2) 3 0) 0).1 < 2147483648) ∧ (((F_LR_readSum (F_W_add ((F_LR_take rc.2 63).2) 3 0) 0).1 = 0 → True) ∧ (¬ ((F_LR_readSum (F_W_add ((F_LR_take rc.2 63).2) 3 0) 0).1 = 0) → (P_W_add ((F_LR_readSum (F_W_add ((F_LR_take rc.2 63).2) 3 0) 0).2) 2 0) ∧ (P_W_goOnHere (F_W_add ((F_LR_readSum (F_W_add ((F_LR_take rc.2 63).2) 3 0) 0).2) 2 0) (((F_LR_take rc.2 63).2) 38 2))))))))
/-- the sum behind a test: the cells are a clause's -/
theorem q_tG {l1 : Int} (hl : 0 ≤ l1 ∧ l1 < 700) {nd n1 nd2 n2 : Nat} (hnd : nd ≤ 60 ∧ nd2 ≤ 60) {wA vA wc vc wS vS vU wT vT : z_Wd} (SA : q_S 6 wA vA) (h6 : wA 6 l1.toNat = wA 4 (wA 0 14).toNat) (sl : vA 38 2 + 2 ≤ vA 37 2) (G : q_G true nd wA vA wc vc n1) (fS : q_fc l1 wc vc wS vS) (S2 : wS 2 = wc 2) (S3 : wS 3 = wc 3) (S4 : wS 4 = wc 4) (S5 : wS 5 = wc 5) (S6 : wS 6 = wc 6) (S7 : wS 7 l1.toNat = wc 4 (wA 0 14).toNat) (V39 : vS 39 = vc 39) (V38 : vS 38 2 = vc 38 2) (V37 : vc 37 2 + 1 ≤ vS 37 2) (U38 : vU 38 2 = vS 38 2 + 1) (U39 : ∀ i : Nat, vU 39 i = if (i : Int) = vS 38 2 then 3 * 10000 + 0 else vS 39 i) (U37 : vU 37 = vS 37) (fU : z_fr [39] [(37, 2), (38, 2)] vS vU) (G2 : q_G false nd2 wS vU wT vT n2) (ST : q_S 6 wT vT) : P_W_add vT 2 0 ∧ P_W_goOnHere (F_W_add vT 2 0) (vS 38 2) ∧ PK_M_clause_251 wT l1 ∧ q_CG 1 l1 wA vA (K_M_clause_251 wT l1) (F_W_goOnHere (F_W_add vT 2 0) (vS 38 2)) := by
  obtain ⟨f, p, a4, a38, a37, asq, arun, apre, ap39⟩ := id G
  obtain ⟨f2, p2, c4, c38, c37, csq, crun, cpre, cp39⟩ := id G2
  obtain ⟨h1, h2, h3, h4, h5, hL, h7, h8⟩ := id SA
  have hq := (q_Sat ST).2.1
  have Lc : wc 0 14 = wA 0 14 := fr_f f.1 0 14 rfl rfl
  have LS : wS 0 14 = wA 0 14 := by rw [fr_f fS.1 0 14 rfl rfl, Lc]
  have LT : wT 0 14 = wA 0 14 := by rw [fr_f f2.1 0 14 rfl rfl, LS]
  have U37' : vU 37 2 = vS 37 2 := by rw [U37]
  obtain ⟨b1, b2, b3, b4, b5, b6⟩ := q_Sadd (s := 2) (x := 0) ST (by omega)
  obtain ⟨k1, k2, k3⟩ := q_k251 (w := wT) (l1 := l1)
  have kf := q_fcT (q_fcT (q_fcf (l1 := l1) f) fS) (q_fcT (q_fcT (w1 := wS) (v1 := vU) ⟨fr_rf, fU, fun _ _ => ⟨rfl, rfl⟩, fun _ _ => ⟨rfl, rfl⟩, fun _ _ => ⟨rfl, rfl, rfl⟩⟩ (q_fcf (l1 := l1) f2)) (q_fcK (w := wT) (v := vT) hl.1))
  obtain ⟨a, ea⟩ := Int.eq_ofNat_of_zero_le h7.1
  obtain ⟨kk, ek⟩ := Int.eq_ofNat_of_zero_le (show 0 ≤ vA 38 2 by omega)
  rw [LT] at k2 k3
  rw [LS, S4] at c4
  have T5 : wT 5 = wA 5 := by rw [fr_c f2.1 5 rfl rfl, S5, fr_c f.1 5 rfl rfl]
  have T6 : wT 6 l1.toNat = (a : Int) := by rw [fr_c f2.1 6 rfl rfl, S6, fr_c f.1 6 rfl rfl, h6, ea]
  have T7 : wT 7 l1.toNat = ((a + n1 : Nat) : Int) := by rw [fr_c f2.1 7 rfl rfl, S7, a4, ea]; omega
  have T4 : wT 4 (wA 0 14).toNat = ((a + n1 + n2 : Nat) : Int) := by rw [c4, a4, ea]; omega
  have eg : F_W_goOnHere (F_W_add vT 2 0) (vS 38 2) = z_up (F_W_add vT 2 0) 39 (kk + n1) (30000 + F_W_add vT 2 0 38 2) := by
    unfold F_W_goOnHere
    rw [if_neg (by omega), if_neg (by omega), show (vS 38 2).toNat = kk + n1 by omega]
  have pg : P_W_goOnHere (F_W_add vT 2 0) (vS 38 2) := ⟨by omega, fun _ => trivial, fun _ => ⟨by omega, fun _ => trivial, fun _ => by omega⟩⟩
  refine ⟨b1, pg, ⟨by rw [LT]; exact hL, hl⟩, ?_⟩
  rw [eg]
  have m0 : K_M_clause_251 wT l1 0 = wT 0 := k1 0 (by decide) (by decide)
  have m1 : K_M_clause_251 wT l1 1 = wT 1 := k1 1 (by decide) (by decide)
  have m2 : K_M_clause_251 wT l1 2 = wT 2 := k1 2 (by decide) (by decide)
  have m3 : K_M_clause_251 wT l1 3 = wT 3 := k1 3 (by decide) (by decide)
  have m4 : K_M_clause_251 wT l1 4 = wT 4 := k1 4 (by decide) (by decide)
  have m6 : K_M_clause_251 wT l1 6 l1.toNat = (a : Int) := by rw [k1 6 (by decide) (by decide), T6]
  have m7 : K_M_clause_251 wT l1 7 l1.toNat = ((a + n1 : Nat) : Int) := by rw [k1 7 (by decide) (by decide), T7]
  rw [T4] at k2
  generalize K_M_clause_251 wT l1 = w5 at *
  have s9 := q_Sw b2 m0 m1 m4
  have b37 : F_W_add vT 2 0 37 2 = vT 37 2 := by rw [b5]
  rw [LS, S2, S3, S4] at cpre
  rw [LS, S4, a4, ea, show ((a : Int) + (n1 : Int)).toNat = a + n1 by omega, U38, V38, a38, ek, show ((kk : Int) + (n1 : Int) + 1).toNat = kk + n1 + 1 by omega] at csq
  rw [LS, S4, a4, ea, show ((a : Int) + (n1 : Int)).toNat = a + n1 by omega] at crun
  rw [ea, Int.toNat_natCast, ek, Int.toNat_natCast] at asq
  rw [ea, Int.toNat_natCast] at arun
  have fV : z_fr [39] [(37, 2), (38, 2)] vT (z_up (F_W_add vT 2 0) 39 (kk + n1) (30000 + F_W_add vT 2 0 38 2)) := fr_up rfl b6
  have y38 : z_up (F_W_add vT 2 0) 39 (kk + n1) (30000 + F_W_add vT 2 0 38 2) 38 = F_W_add vT 2 0 38 := z_up_other (by decide)
  have y37 : z_up (F_W_add vT 2 0) 39 (kk + n1) (30000 + F_W_add vT 2 0 38 2) 37 = F_W_add vT 2 0 37 := z_up_other (by decide)
  have y28 : z_up (F_W_add vT 2 0) 39 (kk + n1) (30000 + F_W_add vT 2 0 38 2) 28 = F_W_add vT 2 0 28 := z_up_other (by decide)
  have y29 : z_up (F_W_add vT 2 0) 39 (kk + n1) (30000 + F_W_add vT 2 0 38 2) 29 = F_W_add vT 2 0 29 := z_up_other (by decide)
  have row : ∀ i : Nat, z_up (F_W_add vT 2 0) 39 (kk + n1) (30000 + F_W_add vT 2 0 38 2) 39 i = if i = kk + n1 then 30000 + F_W_add vT 2 0 38 2 else if (i : Int) = vT 38 2 then 20000 else vT 39 i := fun i => by
    by_cases c : i = kk + n1
    · rw [c, z_up_at, if_pos rfl]
    · rw [z_up_ne c, if_neg c, b4]
      rfl
  have s10 : q_S 6 w5 (z_up (F_W_add vT 2 0) 39 (kk + n1) (30000 + F_W_add vT 2 0 38 2)) := by
    obtain ⟨g1, g2, g3, g4, g5, g6, g7, g8⟩ := s9
    refine ⟨t_tac g1 rfl rfl (by rw [y28]) y29, g2, by rw [y28]; exact g3, ?_, g5, g6, by rw [y38]; exact g7, by rw [y38, y37]; exact g8⟩
    rw [y37, x_bb (v := F_W_add vT 2 0) (by rw [y28]) y29 (by omega)]
    exact g4
  have F38 : F_W_add vT 2 0 38 2 = ((kk + n1 + n2 + 2 : Nat) : Int) := by omega
  refine ⟨⟨kf.1, fr_tr kf.2.1 fV, kf.2.2⟩, s10, by rw [k3, T5], by rw [y37]; omega, by rw [y38]; omega, by rw [m4, T4, ea]; omega, fun i hi => ?_, fun i hi => ?_, by rw [k2, m4, T4]; exact Int.le_refl _, ?_⟩
  · rw [m2, m3, (cpre i (by omega)).1, (cpre i (by omega)).2]
    exact apre i hi
  · rw [row, if_neg (by omega), if_neg (by omega), cp39 i (by omega), U39, if_neg (by omega), V39]
    exact ap39 i hi
  · generalize hl14 : (wA 0 14).toNat = L at *
    generalize hR : z_up (F_W_add vT 2 0) 39 (kk + n1) (30000 + F_W_add vT 2 0 38 2) 39 = R at *
    rw [m2, m3, m6, m7, k2, y38, F38, ek, Int.toNat_natCast, Int.toNat_natCast]
    have t1 : (((a + n1 + n2 : Nat) : Int) - ((a + n1 : Nat) : Int)).toNat = n2 := by omega
    have t2 : (((a + n1 : Nat) : Int) - (a : Int)).toNat = n1 := by omega
    have t3 : ¬ (a : Int) = ((a + n1 : Nat) : Int) := by omega
    rw [F38] at row
    refine ⟨by omega, ?_, ?_, ?_, ?_, fun _ => ⟨?_, ?_, ?_⟩⟩
    · rw [if_neg t3, t1, t2, Int.toNat_natCast]
      refine l_sqC csq (fun _ _ => rfl) (fun _ _ => rfl) (fun i hi => ?_)
      rw [row, if_neg (by omega), if_neg (by omega)]
    · rw [t1, Int.toNat_natCast]
      exact crun [] (by simp; omega)
    · rw [if_neg t3, t1, t2]
      omega
    · rw [row, if_neg (by omega), if_pos (by omega)]
    · rw [t2, Int.toNat_natCast]
      refine l_sqC asq (fun i hi => ?_) (fun i hi => ?_) (fun i hi => ?_)
      · exact (cpre (a + i) (by omega)).1
      · exact (cpre (a + i) (by omega)).2
      · rw [row, if_neg (by omega), if_neg (by omega), cp39 (kk + i) (by omega), U39, if_neg (by omega), V39]
    · rw [t2, Int.toNat_natCast]
      exact (l_runC n1 (fun i hi => (cpre (a + i) (by omega)).1)).trans (arun [] (by simp; omega))
    · rw [t2, row, if_pos rfl]
