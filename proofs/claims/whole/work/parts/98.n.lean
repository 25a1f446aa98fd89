/-! the law's atoms: a number, on both sides -/
set_option maxHeartbeats 1000000 in
theorem q_num {k : Nat} {w v : z_Wd} (hS : q_S k w v) (hdg : t_dg (F_T_at v (v 37 2)) = true) : P_M_plainNumber (z_up w 0 3 (v 37 2)) ∧ P_M_put (F_M_plainNumber (z_up w 0 3 (v 37 2))).2 0 (F_M_plainNumber (z_up w 0 3 (v 37 2))).1 ∧ P_LR_readNumber v ∧ (((F_LR_readNumber v).1 = 1 ∧ q_G false 1 w v (F_M_put (F_M_plainNumber (z_up w 0 3 (v 37 2))).2 0 (F_M_plainNumber (z_up w 0 3 (v 37 2))).1) (F_LR_readNumber v).2 1 ∧ q_S k (F_M_put (F_M_plainNumber (z_up w 0 3 (v 37 2))).2 0 (F_M_plainNumber (z_up w 0 3 (v 37 2))).1) (F_LR_readNumber v).2) ∨ ((F_LR_readNumber v).1 = 0 ∧ q_F 241 w v (F_M_put (F_M_plainNumber (z_up w 0 3 (v 37 2))).2 0 (F_M_plainNumber (z_up w 0 3 (v 37 2))).1) (F_LR_readNumber v).2)) := by
  obtain ⟨h1, h2, h3, h4, h5, h6, h7, h8⟩ := id hS
  have ht := t_ta h1
  have hl := ht.1
  have br := t_bbr (v := v) h3.1
  rw [← h4] at br
  have hq : 0 ≤ v 37 2 ∧ v 37 2 ≤ v 28 1 := ⟨by omega, br.2.1 h3.2⟩
  have atr := t_atr ht hq.1
  have dgq := t_dgy.mp hdg
  have lt : v 37 2 < v 28 1 := by omega
  obtain ⟨d, e1, e2, e3, e4⟩ := t_digN (v := v) (q := v 37 2) (n := 5)
  have d1 : 1 ≤ d := by
    rcases Nat.eq_zero_or_pos d with z | z
    · subst z
      have := e4 (by decide)
      rw [show v 37 2 + ((0 : Nat) : Int) = v 37 2 by omega, hdg] at this
      cases this
    · exact z
  have rta1 : r_ta (z_up w 0 3 (v 37 2)) v := t_tac h1 (z_up_ne (by decide)) (z_up_other (by decide)) rfl rfl
  obtain ⟨p1, p2, p3⟩ := t_pnL rta1 (by rw [z_up_ne (by decide)]; exact h2) (q := v 37 2) (d := d) (by omega) e2 e3 e4 4 0 rfl (by omega)
  rw [show v 37 2 + ((0 : Nat) : Int) = v 37 2 by omega] at p1 p2 p3
  simp only [z_twice] at p1 p2 p3
  have eP : F_M_plainNumber (z_up w 0 3 (v 37 2)) = L_M_plainNumber_4 (z_up w 0 3 (v 37 2)) (4 + 2) (A_T_number_5 v (v 37 2) 5 0) ((0 : Nat) : Int) (z_up w 0 3 (v 37 2)) := rfl
  have pP : P_M_plainNumber (z_up w 0 3 (v 37 2)) := p1
  rw [← eP] at p2 p3
  obtain ⟨n1, n2⟩ := q_numD ht rfl (by omega) (by omega) e1 e2
  have nr := q_numr e3 (m := 5) d (Nat.le_refl d)
  generalize F_M_plainNumber (z_up w 0 3 (v 37 2)) = pn at *
  by_cases c : d = 5
  · rw [if_pos c] at p2
    have x14 : pn.2 0 14 = w 0 14 := by rw [p2, z_up_ne (by decide), z_up_ne (by decide)]
    have x4 : pn.2 4 = w 4 := by rw [p2, z_up_other (by decide), z_up_other (by decide)]
    obtain ⟨u1, u2, u3, u4, u5, u6⟩ := q_put (w := pn.2) (v := v) (c := 0) (x := pn.1) (by rw [x14]; exact h6) (by rw [x14, x4]; omega)
    rw [if_neg (by omega), if_neg (by omega)] at n2
    rw [n2]
    refine ⟨pP, u1, n1, Or.inr ⟨rfl, ?_, ?_, ?_, ?_⟩⟩
    · have f0 : q_fr w v pn.2 v := by
        rw [p2]
        exact ⟨fr_uf rfl (fr_uf rfl fr_rf), fr_rf, fun j _ => by rw [z_up_other (by decide), z_up_other (by decide)], fun j _ => by rw [z_up_other (by decide), z_up_other (by decide), z_up_other (by decide), z_up_other (by decide)]; exact ⟨rfl, rfl⟩⟩
      exact q_frT (q_frT f0 u2) ⟨fr_rf, fr_uf rfl fr_rf, fun _ _ => rfl, fun _ _ => ⟨rfl, rfl⟩⟩
    · dsimp only
      rw [u6, p2, z_up_at, z_up_at]
    · dsimp only
      rw [z_up_at]
      omega
    · rw [← x14, u3, x14, x4]
      omega
  · rw [if_neg c] at p2
    have x14 : pn.2 0 14 = w 0 14 := by rw [p2, z_up_ne (by decide)]
    have x4 : pn.2 4 = w 4 := by rw [p2, z_up_other (by decide)]
    have x2 : pn.2 2 = w 2 := by rw [p2, z_up_other (by decide)]
    have x3 : pn.2 3 = w 3 := by rw [p2, z_up_other (by decide)]
    obtain ⟨u1, u2, u3, u4, u5, u6⟩ := q_put (w := pn.2) (v := v) (c := 0) (x := pn.1) (by rw [x14]; exact h6) (by rw [x14, x4]; omega)
    rw [if_neg (by omega), if_pos (by omega)] at n2
    rw [n2]
    have r10 : (10 : Int) ^ d ≤ 10000 := by
      rcases (show d = 1 ∨ d = 2 ∨ d = 3 ∨ d = 4 by omega) with rfl | rfl | rfl | rfl <;> decide
    have nr4 := nr (by omega)
    have pe := p3 (by omega)
    obtain ⟨a1, a2, a3, a4⟩ := q_add (w := pn.2) (v := v) (s := 0) (x := A_T_number_5 v (v 37 2) 5 d) (by omega)
    have atl := t_atr ht (p := v 37 2 + ((d - 1 : Nat) : Int)) (by omega)
    have dgl := t_dgy.mp (e3 (d - 1) (by omega))
    have qd : v 37 2 + (d : Int) ≤ v 28 1 := by omega
    have b2 := t_bbr (v := v) (p := v 37 2 + (d : Int)) (by omega)
    have f0 : q_fr w v pn.2 v := by
      rw [p2]
      exact ⟨fr_uf rfl fr_rf, fr_rf, fun j _ => by rw [z_up_other (by decide)], fun j _ => by rw [z_up_other (by decide), z_up_other (by decide)]; exact ⟨rfl, rfl⟩⟩
    have fA := a1.2.1
    have fD : z_fr [39] [(37, 2), (38, 2)] v (z_up (F_W_add v 0 (A_T_number_5 v (v 37 2) 5 d)) 37 2 (F_T_behindBlanks v (v 37 2 + (d : Int)))) := fr_uf rfl fA
    have fW : q_fr w v (F_M_put pn.2 0 pn.1) (z_up (F_W_add v 0 (A_T_number_5 v (v 37 2) 5 d)) 37 2 (F_T_behindBlanks v (v 37 2 + (d : Int)))) := ⟨(q_frT f0 u2).1, fD, (q_frT f0 u2).2.2⟩
    rw [x14, x4] at u3
    rw [x14, x4, x2] at u4
    rw [x14, x4, x3] at u5
    refine ⟨pP, u1, n1, Or.inl ⟨rfl, ?_, ?_⟩⟩
    · refine q_one h6 (by omega) (by omega) (c := 0) (x := pn.1) ⟨by omega, fun _ => by omega, fun z => by omega, fun z => by omega⟩ (Or.inl rfl) fW u3 u4 u5 ?_ (fun i => ?_) ?_
      · dsimp only
        rw [z_up_other (by decide), a2]
      · dsimp only
        rw [z_up_other (by decide), a3, pe]
        rfl
      · dsimp only
        rw [z_up_at]
        omega
    · have w03 : F_M_put pn.2 0 pn.1 0 3 = v 37 2 + (d : Int) := by rw [u6, p2, z_up_at]
      have w0 : ∀ j, j ≠ 3 → F_M_put pn.2 0 pn.1 0 j = w 0 j := fun j hj => by rw [u6, p2, z_up_ne hj]
      dsimp only
      have v28 : z_up (F_W_add v 0 (A_T_number_5 v (v 37 2) 5 d)) 37 2 (F_T_behindBlanks v (v 37 2 + (d : Int))) 28 1 = v 28 1 := fr_f fD 28 1 rfl rfl
      have v29 : z_up (F_W_add v 0 (A_T_number_5 v (v 37 2) 5 d)) 37 2 (F_T_behindBlanks v (v 37 2 + (d : Int))) 29 = v 29 := fr_c fD 29 rfl rfl
      refine ⟨t_tac h1 (w0 2 (by decide)) (fr_c fW.1 1 rfl rfl) v28 v29, by rw [w0 4 (by decide)]; exact h2, by rw [w03, v28]; omega, ?_, by rw [w0 5 (by decide)]; exact h5, by rw [w0 14 (by decide)]; exact h6, ?_, ?_⟩
      · rw [w03, z_up_at, x_bb v28 v29 (by omega)]
      · rw [w0 14 (by decide), u3, z_up_other (by decide), a2]
        omega
      · rw [z_up_other (by decide), a2, z_up_at]
        omega
