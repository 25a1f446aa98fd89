/-! reading: one clause, both sides -/
theorem t_rd1 {c a2 B ni k m : Nat} {w v v1 wM u : z_Wd} (hk : k < 4) (hc : c = 11 + k) (h : r_rd w v) (hv1 : ∀ i, i < 54 → 0 ≤ v1 35 i ∧ v1 35 i ≤ 99) (hJ : t_J c a2 B ni w v1 wM u) : r_rd wM u := by
  obtain ⟨j1, j2, j3, j4, j5⟩ := hJ
  constructor
  · intro i hi
    by_cases ck : k = 2
    · subst ck
      subst hc
      by_cases ci : i < a2 ∨ a2 + ni ≤ i
      · have := j3 i ci
        have q := h.1 i hi
        rw [show 11 + 2 = 13 from rfl] at this
        omega
      · have := (j5 (i - a2) (by omega)).1
        rw [show a2 + (i - a2) = i by omega] at this
        exact this
    · have e : wM 13 = w 13 := fr_c j1 13 (by simp; omega) (by simp)
      rw [e]
      exact h.1 i hi
  · intro i hi
    by_cases ci : i < B ∨ B + ni ≤ i
    · rw [j4 i ci]
      exact hv1 i hi
    · have := (j5 (i - B) (by omega)).2
      rw [show B + (i - B) = i by omega] at this
      exact this
theorem t_a2E {k m : Nat} {w : z_Wd} {l1 : Int} (hk : k < 4) (h : t_cn k l1 w = (m : Int)) (hm : k = 0 → m = 0) : t_a2 k w = ((t_ni k * m : Nat) : Int) := by
  unfold t_a2
  unfold t_cn at h
  by_cases c : k = 0
  · rw [if_pos c, hm c]
    rfl
  · rw [if_neg c] at h
    rw [if_neg c, h]
    exact (Int.natCast_mul _ _).symm
set_option maxHeartbeats 2000000 in
theorem t_clause {l1 : Int} {w v : z_Wd} (hS : t_S l1 w v) : P_YR_readClause v ∧ (z_rmI (z_up w 0 3 (v 33 2)) (t_mc (F_T_at v (v 33 2))) l1 = 0 → P_M_bad (z_up w 0 3 (v 33 2))) ∧ (¬ z_rmI (z_up w 0 3 (v 33 2)) (t_mc (F_T_at v (v 33 2))) l1 = 0 → P_M_clauseText (z_up w 0 3 (v 33 2)) (t_mc (F_T_at v (v 33 2)))) ∧ t_out l1 w v (z_rmC (z_up w 0 3 (v 33 2)) (t_mc (F_T_at v (v 33 2))) l1) (F_YR_readClause v) := by
  obtain ⟨h1, h2, h3, h4, h5⟩ := id hS
  obtain ⟨d1, d2, d3, d4⟩ := id h5
  have ht := t_ta h1
  have hl := ht.1
  have br := t_bbr (v := v) h3.1
  rw [← h4] at br
  have hq : 0 ≤ v 33 2 ∧ v 33 2 ≤ v 28 1 := ⟨by omega, br.2.1 h3.2⟩
  have hat := t_atr ht hq.1
  have w13 : z_up w 0 3 (v 33 2) 0 3 = v 33 2 := z_up_at
  have w14 : z_up w 0 3 (v 33 2) 0 4 = -1 := by
    rw [z_up_ne (by decide)]
    exact h2
  have bd := t_bad w14
  rw [w13] at bd
  have rta1 : r_ta (z_up w 0 3 (v 33 2)) v := t_tac h1 (z_up_ne (by decide)) (z_up_other (by decide)) rfl rfl
  -- a fault at once
  have fault : z_rmI (z_up w 0 3 (v 33 2)) (t_mc (F_T_at v (v 33 2))) l1 = 0 → F_YR_readClause v = (0, v) → t_out l1 w v (z_rmC (z_up w 0 3 (v 33 2)) (t_mc (F_T_at v (v 33 2))) l1) (F_YR_readClause v) := fun z y => by
    unfold z_rmC
    rw [if_pos z, y, bd.1]
    unfold t_out
    dsimp only
    refine Or.inr ⟨rfl, t_tac rta1 (z_up_ne (by decide)) (z_up_other (by decide)) rfl rfl, ?_, Or.inl ⟨z_up_at, hq.1, by omega⟩⟩
    unfold r_rd
    rw [z_up_other (by decide), z_up_other (by decide)]
    exact d4
  obtain ⟨ri1, ri2⟩ := t_rmI (w := z_up w 0 3 (v 33 2)) (x := F_T_at v (v 33 2)) d1
  rcases (t_ko (v := v) hat.1).2 with ⟨k1, k2⟩ | ⟨k, hk, k1, k2⟩
  · obtain ⟨n1, n2⟩ := t_clN ht (by omega) k1
    have z := ri1 k2
    exact ⟨n1, fun _ => bd.2, fun y => absurd z y, fault z n2⟩
  · obtain ⟨rk1, rk2⟩ := ri2 k hk k2
    obtain ⟨c1, c2, c3⟩ := d2 k hk
    obtain ⟨m, em⟩ := Int.eq_ofNat_of_zero_le c2
    have z07 : z_sc 0 k ≤ 7 ∧ 0 ≤ z_sc 1 k ∧ z_sc 1 k + z_sc 0 k ≤ 18 ∧ (k = 0 → z_sc 0 k = 1) := by
      rcases (show k = 0 ∨ k = 1 ∨ k = 2 ∨ k = 3 by omega) with rfl | rfl | rfl | rfl <;> decide
    have ecn : t_cn k l1 (z_up w 0 3 (v 33 2)) = (m : Int) := by
      rw [← em, c1]
      unfold t_cn
      split
      · rfl
      · rw [z_up_ne (by omega)]
    rw [ecn] at rk2
    by_cases hm : (m : Int) < z_sc 0 k
    · rw [if_pos hm] at rk2
      have nz : ¬ z_rmI (z_up w 0 3 (v 33 2)) (t_mc (F_T_at v (v 33 2))) l1 = 0 := by rw [rk2]; decide
      obtain ⟨p1, p2, p3, p4, p5⟩ := (t_opV hk em (by omega)).2 hm
      have a2e := t_a2E hk ecn (fun z => by have := z07.2.2.2 z; omega)
      have ni3 : t_ni k ≤ 3 := by
        unfold t_ni
        split <;> omega
      have e28 : (F_Y_open_34 v (k : Int)).2 28 = v 28 := fr_c p3 28 rfl rfl
      have e29 : (F_Y_open_34 v (k : Int)).2 29 = v 29 := fr_c p3 29 rfl rfl
      have e33 : (F_Y_open_34 v (k : Int)).2 33 = v 33 := fr_c p3 33 rfl rfl
      have st : F_YR_step (F_Y_open_34 v (k : Int)).2 = z_up (F_Y_open_34 v (k : Int)).2 33 2 (F_T_behindBlanks v (v 33 2 + 1)) := by
        unfold F_YR_step
        rw [e33, x_bb (v := v) (by rw [e28]) e29 (by omega)]
      generalize hv1 : (F_Y_open_34 v (k : Int)).2 = v1 at *
      have lt : v 33 2 < v 28 1 := by
        have q := hat.2
        have : t_ch k ≠ 0 := by
          rcases (show k = 0 ∨ k = 1 ∨ k = 2 ∨ k = 3 by omega) with rfl | rfl | rfl | rfl <;> decide
        omega
      -- the reference's beginning
      have x3 : z_up (z_up w 0 3 (v 33 2)) 0 3 (z_up w 0 3 (v 33 2) 0 3 + 1) = z_up w 0 3 (v 33 2 + 1) := by rw [w13, z_twice]
      obtain ⟨us1, us2⟩ := z_usV (c := 11 + k) (k := k) (a2 := t_ni k * m) (w := z_up w 0 3 (v 33 2 + 1)) hk (t_ni k) (Nat.le_refl _)
      have us3 : z_us (11 + k) (z_up w 0 3 (v 33 2 + 1)) (t_ch k) ((t_ni k * m : Nat) : Int) (t_ni k) 0 3 = v 33 2 + 1 := by
        rw [fr_c us1 0 (by simp; omega) (by rfl), z_up_at]
      have us4 : z_us (11 + k) (z_up w 0 3 (v 33 2 + 1)) (t_ch k) ((t_ni k * m : Nat) : Int) (t_ni k) 0 4 = -1 := by
        rw [fr_c us1 0 (by simp; omega) (by rfl), z_up_ne (by decide)]
        exact h2
      have ust : r_ta (z_us (11 + k) (z_up w 0 3 (v 33 2 + 1)) (t_ch k) ((t_ni k * m : Nat) : Int) (t_ni k)) v := by
        refine t_tac h1 ?_ ?_ rfl rfl
        · rw [fr_c us1 0 (by simp; omega) (by rfl), z_up_ne (by decide)]
        · rw [fr_c us1 1 (by simp; omega) (by rfl), z_up_other (by decide)]
      obtain ⟨lk1, lk2⟩ := t_look ust (by rw [us3]; omega)
      rw [us3] at lk2
      have bq := t_bbr (v := v) (p := v 33 2 + 1) (by omega)
      have atq := t_atr ht (p := F_T_behindBlanks v (v 33 2 + 1)) (by omega)
      have evq : F_T_at (z_up v1 33 2 (F_T_behindBlanks v (v 33 2 + 1))) (F_T_behindBlanks v (v 33 2 + 1)) = F_T_at v (F_T_behindBlanks v (v 33 2 + 1)) := x_at (by rw [z_up_other (by decide), e28]) (by rw [z_up_other (by decide), e29])
      have io := t_io (w := z_up (z_us (11 + k) (z_up w 0 3 (v 33 2 + 1)) (t_ch k) ((t_ni k * m : Nat) : Int) (t_ni k)) 0 3 (F_T_behindBlanks v (v 33 2 + 1))) (v := z_up v1 33 2 (F_T_behindBlanks v (v 33 2 + 1))) hk atq.1
      have I0 : t_I k (11 + k) (t_ni k * m) (((z_sc 1 k).toNat + m) * 3) (t_ni k) w v1 (z_up (z_us (11 + k) (z_up w 0 3 (v 33 2 + 1)) (t_ch k) ((t_ni k * m : Nat) : Int) (t_ni k)) 0 3 (F_T_behindBlanks v (v 33 2 + 1))) (z_up v1 33 2 (F_T_behindBlanks v (v 33 2 + 1))) := by
        have cM : ∀ j, z_up (z_us (11 + k) (z_up w 0 3 (v 33 2 + 1)) (t_ch k) ((t_ni k * m : Nat) : Int) (t_ni k)) 0 3 (F_T_behindBlanks v (v 33 2 + 1)) (11 + k) j = if t_ni k * m ≤ j ∧ j < t_ni k * m + t_ni k then z_sc 2 (k * 3 + (j - t_ni k * m)) else w (11 + k) j := fun j => by
          rw [z_up_other (by omega), us2, z_up_other (by omega)]
        have cD : ∀ j, z_up v1 33 2 (F_T_behindBlanks v (v 33 2 + 1)) 35 j = v1 35 j := fun j => by rw [z_up_other (by decide)]
        have val : ∀ i, i < t_ni k → z_up (z_us (11 + k) (z_up w 0 3 (v 33 2 + 1)) (t_ch k) ((t_ni k * m : Nat) : Int) (t_ni k)) 0 3 (F_T_behindBlanks v (v 33 2 + 1)) (11 + k) (t_ni k * m + i) = z_sc 2 (k * 3 + i) ∧ z_up v1 33 2 (F_T_behindBlanks v (v 33 2 + 1)) 35 (((z_sc 1 k).toNat + m) * 3 + i) = z_sc 2 (k * 3 + i) := fun i hi => by
          rw [cM, if_pos (by omega), cD, p5, if_pos (by omega), Nat.add_sub_cancel_left, Nat.add_sub_cancel_left]
          exact ⟨rfl, rfl⟩
        refine ⟨t_tac ust (z_up_ne (by decide)) (z_up_other (by decide)) (by rw [z_up_other (by decide), e28]) (by rw [z_up_other (by decide), e29]), by rw [z_up_ne (by decide)]; exact us4, by rw [z_up_at, z_up_at], ?_, ?_, ⟨?_, fr_uf rfl fr_rf, fun j hj => ?_, fun j _ => cD j, fun i hi => ?_⟩, fun i hi => ?_⟩
        · rw [z_up_at, z_up_other (by decide), e28]
          have := bq.2.1 (by omega)
          omega
        · rw [z_up_at, evq]
          exact bq.2.2.1
        · exact fr_uf rfl (fr_tr (fr_uf rfl fr_rf) (fr_wk us1 (by simp) rfl))
        · rw [cM, if_neg (by omega)]
        · have q := (t_usu (w := w) hk hi).2.2.2
          rw [(val i hi).1, (val i hi).2]
          exact ⟨q, q⟩
        · have q := (t_usu (w := w) hk hi).2.1
          rw [(val i hi).1, (val i hi).2]
          exact ⟨rfl, q⟩
      have hB : ((z_sc 1 k + v1 36 k) - 1) * 3 = ((((z_sc 1 k).toNat + m) * 3 : Nat) : Int) := by
        rw [p4, if_pos rfl]
        omega
      have hbd : ((t_ni k * m : Nat) : Int) + (t_ni k : Int) ≤ t_bd k := by
        unfold t_bd t_ni
        have a := s_01
        rcases (show k = 0 ∨ k = 1 ∨ k = 2 ∨ k = 3 by omega) with rfl | rfl | rfl | rfl <;> simp <;> omega
      obtain ⟨I1, I2, I3⟩ := t_items (b := t_bd k) (w := z_up w 0 3 (v 33 2 + 1)) hk rfl (by omega) hbd (by rw [p4, if_pos rfl]; omega) hB (by omega) 3 10 (fun _ => false) _ _ (by decide) (by decide) (by decide) I0
      rw [show ((zbits (fun _ => false) 3 : Nat) : Int) = 0 from rfl, z_up_at, evq] at I1 I3
      rw [show ((zbits (fun _ => false) 3 : Nat) : Int) = 0 from rfl] at I2
      rw [← io.1] at I1 I3
      have eIs : z_is (11 + k) (z_up w 0 3 (v 33 2 + 1)) (t_ch k) ((t_ni k * m : Nat) : Int) (t_ni k) = z_it (z_up w 0 3 (v 33 2 + 1)) (11 + k) (t_ch k) ((t_ni k * m : Nat) : Int) 10 0 (F_M_itemOf (z_up (z_us (11 + k) (z_up w 0 3 (v 33 2 + 1)) (t_ch k) ((t_ni k * m : Nat) : Int) (t_ni k)) 0 3 (F_T_behindBlanks v (v 33 2 + 1))) (t_ch k) (t_mc (F_T_at v (F_T_behindBlanks v (v 33 2 + 1))))) (z_up (z_us (11 + k) (z_up w 0 3 (v 33 2 + 1)) (t_ch k) ((t_ni k * m : Nat) : Int) (t_ni k)) 0 3 (F_T_behindBlanks v (v 33 2 + 1))) := by
        unfold z_is
        rw [lk2]
      have pIs : z_isP (11 + k) (t_bd k) (z_up w 0 3 (v 33 2 + 1)) (t_ch k) ((t_ni k * m : Nat) : Int) (t_ni k) := by
        unfold z_isP
        rw [lk2]
        exact ⟨fun i hi => ⟨(t_usu hk hi).2.2.1, by omega, by omega⟩, lk1, io.2.2.2, I1⟩
      rw [← eIs] at I3
      have hCl : F_YR_kindOf v (F_T_at v (v 33 2)) = (k : Int) := k1
      have clo := t_clO ht (by omega) hk hCl em (by omega) hm (by rw [hv1, st]; exact I2)
      rw [hv1, st] at clo
      rw [rk1] at nz rk2 ⊢
      refine ⟨clo.1, fun y => absurd y nz, fun _ => t_ctP hk (by rw [x3, a2e]; exact pIs), ?_⟩
      rw [clo.2]
      unfold z_rmC
      rw [if_neg nz, t_ctE hk, x3, a2e]
      generalize z_is (11 + k) (z_up w 0 3 (v 33 2 + 1)) (t_ch k) ((t_ni k * m : Nat) : Int) (t_ni k) = wM at *
      generalize t_cl (k : Int) 3 0 (z_up v1 33 2 (F_T_behindBlanks v (v 33 2 + 1))) = r at *
      have z2 : ∀ j, j < 12 → 0 ≤ z_sc 2 j ∧ z_sc 2 j ≤ 99 := by decide
      have hv35 : ∀ i, i < 54 → 0 ≤ v1 35 i ∧ v1 35 i ≤ 99 := fun i hi => by
        rw [p5]
        split
        · exact z2 _ (by omega)
        · exact d4.2 i hi
      have chk : (k = 0 → t_ch k = 115) ∧ (¬ k = 0 → ¬ t_ch k = 115) := by
        rcases (show k = 0 ∨ k = 1 ∨ k = 2 ∨ k = 3 by omega) with rfl | rfl | rfl | rfl <;> decide
      generalize hCC : (if k = 0 then wM else z_up wM 0 (20 + k) (wM 0 (20 + k) + 1)) = CC
      have hC : ∀ c, c ≠ 0 → CC c = wM c := fun c hc => by
        rw [← hCC]
        split
        · rfl
        · exact z_up_other hc
      have hC0 : ∀ j, j < 20 → CC 0 j = wM 0 j := fun j hj => by
        rw [← hCC]
        split
        · rfl
        · exact z_up_ne (by omega)
      have tail : t_J (11 + k) (t_ni k * m) (((z_sc 1 k).toNat + m) * 3) (t_ni k) w v1 wM r.2 → (r_rd wM r.2 ∧ r_rd CC r.2 ∧ r_ta CC r.2 ∧ (∀ j, r.2 36 j = if j = k then (m : Int) + 1 else v 36 j)) ∧ ∀ k' : Nat, k' < 4 → t_cn k' (z_rmR l1 (t_ch k)) CC = if k' = k then (m : Int) + 1 else t_cn k' l1 w := fun J => by
        have rr := t_rd1 (m := m) hk rfl d4 hv35 J
        refine ⟨⟨rr, ?_, ?_, fun j => ?_⟩, fun k' hk' => ?_⟩
        · unfold r_rd
          rw [hC 13 (by decide)]
          exact rr
        · refine t_tac h1 ?_ ?_ ?_ ?_
          · rw [hC0 2 (by decide)]
            exact fr_f J.1 0 2 (by simp; omega) (by rfl)
          · rw [hC 1 (by decide)]
            exact fr_c J.1 1 (by simp; omega) (by rfl)
          · rw [fr_c J.2.1 28 rfl rfl, e28]
          · rw [fr_c J.2.1 29 rfl rfl, e29]
        · rw [fr_c J.2.1 36 rfl rfl]
          exact p4 j
        · unfold t_cn
          have wm : ∀ j, 20 ≤ j → wM 0 j = w 0 j := fun j hj => fr_f J.1 0 j (by simp; omega) (by simp; omega)
          by_cases ck' : k' = 0
          · rw [if_pos ck', if_pos ck']
            unfold z_rmR
            by_cases ck : k' = k
            · rw [if_pos ck]
              have k0 : k = 0 := by omega
              have := z07.2.2.2 k0
              have c1' : v 36 k = l1 := by
                rw [c1]
                unfold t_cn
                rw [if_pos k0]
              rw [if_pos (show l1 = 0 by omega), if_pos (chk.1 k0)]
              omega
            · rw [if_neg ck, if_neg (chk.2 (by omega))]
              rcases d1 with z | z
              · rw [if_pos z, z]
              · rw [if_neg (by omega), z]
          · rw [if_neg ck', if_neg ck']
            by_cases k0 : k = 0
            · rw [if_neg (show ¬ k' = k by omega), ← hCC, if_pos k0]
              exact wm _ (by omega)
            · rw [← hCC, if_neg k0]
              by_cases ck : k' = k
              · subst ck
                rw [if_pos rfl, z_up_at, wm _ (by omega)]
                have : v 36 k' = w 0 (20 + k') := by
                  rw [c1]
                  unfold t_cn
                  rw [if_neg ck']
                omega
              · rw [if_neg ck, z_up_ne (by omega)]
                exact wm _ (by omega)
      have hl2 : z_rmR l1 (t_ch k) = 0 ∨ z_rmR l1 (t_ch k) = 1 := by
        unfold z_rmR
        split
        · split <;> simp
        · simp
      unfold t_out
      dsimp only
      rcases I3 with ⟨g1, g2⟩ | ⟨g1, g2, g3⟩
      · obtain ⟨i1, i2, i3, i4, i5, i6, i7⟩ := g2
        obtain ⟨⟨t1, t2, t3, t4⟩, t5⟩ := tail i6
        refine Or.inl ⟨g1, by rw [hC0 4 (by decide)]; exact i2, t3, by rw [hC0 3 (by decide)]; exact i3, i4, i5, ?_, ?_⟩
        · exact t_Dn hk h5 em hm p4 (fun j hj => by rw [p5, if_neg (by omega)]) i6 i7 (fun c hc => hC c (by omega)) t5 hl2 t1
        · rw [t4, t4, t4, t4]
          rcases (show k = 0 ∨ k = 1 ∨ k = 2 ∨ k = 3 by omega) with rfl | rfl | rfl | rfl <;> simp <;> omega
      · obtain ⟨⟨t1, t2, t3, t4⟩, t5⟩ := tail g2
        have B : ∀ k' : Nat, k' < 4 → k' ≠ 0 → 0 ≤ CC 0 (20 + k') ∧ CC 0 (20 + k') ≤ z_sc 0 k' := fun k' hk' h0 => by
          have bb := t5 k' hk'
          have ee := d2 k' hk'
          unfold t_cn at bb ee
          rw [if_neg h0] at bb ee
          rw [if_neg h0] at bb
          by_cases ck : k' = k
          · rw [if_pos ck] at bb
            rw [ck] at bb ⊢
            omega
          · rw [if_neg ck] at bb
            omega
        obtain ⟨sa0, sa1, sa2, sa3, -⟩ := s_01
        have B1 := B 1 (by decide) (by decide)
        have B2 := B 2 (by decide) (by decide)
        have B3 := B 3 (by decide) (by decide)
        rw [sa1] at B1
        rw [sa2] at B2
        rw [sa3] at B3
        have R14 : ∀ i : Nat, (i : Int) < 2 * CC 0 23 → 0 ≤ CC 14 i ∧ CC 14 i ≤ 99 := fun i hi => by
          have bb := t5 3 (by decide)
          have ee := (d2 3 (by decide)).1
          unfold t_cn at bb ee
          rw [if_neg (show ¬ 3 = 0 by decide), if_neg (show ¬ 3 = 0 by decide)] at bb
          rw [if_neg (show ¬ 3 = 0 by decide)] at ee
          rw [show 20 + 3 = 23 from rfl] at bb ee
          rw [hC 14 (by decide)]
          by_cases c3 : k = 3
          · subst c3
            rw [if_pos rfl] at bb
            have j3 := g2.2.2.1
            have j5 := g2.2.2.2.2
            rw [show t_ni 3 = 2 from rfl] at j3 j5
            by_cases ci : i < 2 * m
            · rw [show (14 : Nat) = 11 + 3 from rfl, j3 i (Or.inl ci)]
              exact t_rg14 h5 i (by omega)
            · have := (j5 (i - 2 * m) (by omega)).1
              rw [show 2 * m + (i - 2 * m) = i by omega] at this
              exact this
          · rw [if_neg (show ¬ 3 = k by omega)] at bb
            rw [fr_c g2.1 14 (by simp; omega) (by rfl)]
            exact t_rg14 h5 i (by omega)
        have W' := t_whM (w := CC) B1 B2 B3 t2.1 R14
        rw [hC0 4 (by decide), hC0 3 (by decide)]
        refine Or.inr ⟨g1, t3, t2, ?_⟩
        rcases g3 with z | z
        · exact Or.inl z
        · exact Or.inr ⟨z.1, z.2.1, z.2.2.1, z.2.2.2.1, z.2.2.2.2.1, z.2.2.2.2.2, W'.1, W'.2.1⟩
    · rw [if_neg hm] at rk2
      obtain ⟨n1, n2⟩ := t_clF ht (by omega) hk k1 em (by omega) hm
      exact ⟨n1, fun _ => bd.2, fun y => absurd rk2 y, fault rk2 n2⟩
