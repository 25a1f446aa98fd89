/-! the law's clauses: the tail behind a condition -/
theorem q_66 : (6 : Int) - ((6 : Nat) : Int) = 0 := rfl
theorem q_sum6 {n n' : Nat} (h : 21 ≤ n) (h' : 21 ≤ n') {w v : z_Wd} (S : q_S 6 w v) : P_MP n 2 w ∧ P_LR n' 0 v 0 0 ∧ q_O false 15 (q_B 6 + 2) 6 w v (F_MP n 2 w) (F_LR n' 0 v 0 0) := by
  have q := q_sums 6 n n' (by decide) (by omega) (by omega) w v S
  rw [q_66] at q
  exact q
theorem q_cndA {w v : z_Wd} (S : q_S 6 w v) : P_MP 60 7 w ∧ P_LR 60 3 v 0 0 ∧ q_O true 30 (q_B 6 + 6) 6 w v (F_MP 60 7 w) (F_LR 60 3 v 0 0) := by
  have q := q_conds (k := 6) (by decide) (q_units 6 (by decide)) 60 60 (by decide) (by decide) w v S
  rw [q_66] at q
  exact q
theorem q_S5u {m' : Nat} {v : z_Wd} (hp : P_T_at v (v 37 2)) (h : q_cmP m' 0 v) : P_LR (m' + 1) 5 v 0 1 ∧ F_LR (m' + 1) 5 v 0 1 = q_cmF m' 0 v := by
  have n1 : ¬ (1 : Int) = 0 := by decide
  constructor
  · rw [P_LR]
    exact ⟨by decide, fun z => absurd z n1, fun _ => ⟨fun z => absurd z n1, fun _ => ⟨hp, h⟩⟩⟩
  · rw [F_LR, if_neg n1, if_neg n1]
    rfl
set_option maxHeartbeats 1000000 in
theorem q_cndB {nd n : Nat} (hnd : nd ≤ 28) {wA vA w v : z_Wd} (SA : q_S 6 wA vA) (G : q_G false nd wA vA w v n) (S : q_S 6 w v) : P_MP 60 3 w ∧ P_MP 60 5 (F_MP 60 3 w) ∧ P_MP 60 6 (F_MP 60 5 (F_MP 60 3 w)) ∧ P_LR 60 3 v 0 1 ∧ q_O true 30 (q_B 6 + 6) 6 wA vA (F_MP 60 6 (F_MP 60 5 (F_MP 60 3 w))) (F_LR 60 3 v 0 1) := by
  obtain ⟨h1, h2, h3, h4, h5, h6, h7, h8⟩ := id SA
  have hq := (q_Sat SA).2.1
  have hB : q_B 6 = 289 := rfl
  have hs := q_sums 6 59 57 (by decide) (by decide) (by decide)
  rw [q_66] at hs
  have hu : ∀ n n', 30 ≤ n → 30 ≤ n' → q_R true 28 (q_B 6 + 4) 6 (F_MP n 4) (P_MP n 4) (fun v => F_LR n' 5 v 0 0) (fun v => P_LR n' 5 v 0 0) := fun n n' hn hn' => by
    have q := q_units 6 (by decide) n n' (by omega) (by omega)
    rw [q_66] at q
    exact q
  obtain ⟨c1, c2, c3⟩ := q_cmp (nd := 28) hs h6 h7.1 (by omega) (q_Gn G hnd) S (by decide) (by omega)
  obtain ⟨d1, d2⟩ := q_S5u (q_Sat S).2.2.2 c2
  rw [← d2] at c3
  obtain ⟨t1, t2, t3⟩ := q_truthG (n := 59) (by omega) (hu 59 58 (by decide) (by decide)) h6 h7.1 (by omega) (by omega) d1 (q_On c3 (by decide) (by omega))
  obtain ⟨b1, b2, b3⟩ := q_condG (n := 59) (by omega) (q_truth (n := 58) (n1 := 59) (by omega) (hu 58 58 (by decide) (by decide)) (hu 59 58 (by decide) (by decide))) h6 h7.1 (by omega) (by omega) t2 (q_On t3 (Nat.le_succ _) (by omega))
  exact ⟨c1, t1, b1, b2, q_On b3 (by decide) (by omega)⟩
/-- a sign taken, or not -/
theorem q_take {k : Nat} {w v : z_Wd} (S : q_S k w v) {c : Int} (hc : 1 ≤ c ∧ c ≤ 255) : P_LR_take v c ∧ ((F_T_at v (v 37 2) = c ∧ t_mc (F_T_at v (v 37 2)) = c ∧ F_LR_take v c = (1, F_LR_step v)) ∨ (¬ F_T_at v (v 37 2) = c ∧ ¬ t_mc (F_T_at v (v 37 2)) = c ∧ F_LR_take v c = (0, v))) := by
  obtain ⟨ht, hq, hat, hp⟩ := q_Sat S
  unfold F_LR_take P_LR_take
  by_cases x : F_T_at v (v 37 2) = c
  · refine ⟨⟨hp, by omega, by omega, fun _ => t_pbb ht (by omega), fun z => absurd x z⟩, Or.inl ⟨x, ?_, by rw [if_pos x]⟩⟩
    unfold t_mc
    rw [if_neg (by omega), x]
  · refine ⟨⟨hp, by omega, by omega, fun z => absurd z x, fun _ => trivial⟩, Or.inr ⟨x, ?_, by rw [if_neg x]⟩⟩
    unfold t_mc
    by_cases z : F_T_at v (v 37 2) = 0
    · rw [if_pos z]; omega
    · rw [if_neg z]; exact x
/-- the reference finds a fault where it stands -/
theorem q_bad {k : Nat} {w v : z_Wd} (S : q_S k w v) : P_M_bad (z_up w 0 3 (v 37 2)) ∧ F_M_bad (z_up w 0 3 (v 37 2)) 0 4 = v 37 2 ∧ z_fr [] [(0, 3), (0, 4), (0, 5)] w (F_M_bad (z_up w 0 3 (v 37 2))) := by
  have s4 : w 0 4 = -1 := S.2.1
  refine ⟨?_, ?_, fr_tr (w' := z_up w 0 3 (v 37 2)) (fr_uf rfl fr_rf) (fr_wk fr_F_M_bad rfl rfl)⟩
  · unfold P_M_bad
    rw [z_up_ne (by decide)]
    omega
  · unfold F_M_bad
    rw [if_pos (by rw [z_up_ne (by decide)]; exact s4), z_up_at, z_up_at]
/-- the reference ends a clause behind a fault -/
theorem q_CFk {l1 : Int} (hl : 0 ≤ l1 ∧ l1 < 700) {B : Int} {wA vA w v : z_Wd} (hL : 0 ≤ wA 0 14 ∧ wA 0 14 < 5) (h : q_F B wA vA w v) : PK_M_clause_251 (z_up w 7 l1.toNat (w 6 l1.toNat)) l1 ∧ q_CF l1 wA vA (K_M_clause_251 (z_up w 7 l1.toNat (w 6 l1.toNat)) l1) v := by
  obtain ⟨f, a, b, c⟩ := h
  have L : w 0 14 = wA 0 14 := fr_f f.1 0 14 rfl rfl
  refine ⟨⟨by rw [z_up_other (by decide), L]; exact hL, hl⟩, q_fcT (q_fcT (q_fcf f) (q_fc6 hl.1 (Or.inr (Or.inl rfl)))) (q_fcK hl.1), ?_, b⟩
  rw [q_k251.1 0 (by decide) (by decide), z_up_other (by decide)]
  exact a
theorem q_CFs {l1 : Int} (hl : 0 ≤ l1 ∧ l1 < 700) {B : Int} {wA vA w v : z_Wd} (hL : 0 ≤ wA 0 14 ∧ wA 0 14 < 5) (h : q_F B wA vA w v) : PK_M_clause_251 w l1 ∧ q_CF l1 wA vA (K_M_clause_251 w l1) v := by
  obtain ⟨f, a, b, c⟩ := h
  have L : w 0 14 = wA 0 14 := fr_f f.1 0 14 rfl rfl
  refine ⟨⟨by rw [L]; exact hL, hl⟩, q_fcT (q_fcf f) (q_fcK hl.1), ?_, b⟩
  rw [q_k251.1 0 (by decide) (by decide)]
  exact a
set_option maxHeartbeats 1000000 in
theorem q_tail {l1 : Int} (hl : 0 ≤ l1 ∧ l1 < 700) {B : Int} {wA vA wc : z_Wd} {rc : Int × z_Wd} (SA : q_S 6 wA vA) (h6 : wA 6 l1.toNat = wA 4 (wA 0 14).toNat) (sl : vA 38 2 + 2 ≤ vA 37 2) (hO : q_O true 30 B 6 wA vA wc rc) : PK_M_clause_184 wc l1 1 ∧ q_tP rc ∧ (((q_tF rc).1 = 1 ∧ q_CG 1 l1 wA vA (K_M_clause_184 wc l1 1) (q_tF rc).2) ∨ ((q_tF rc).1 = 0 ∧ q_CF l1 wA vA (K_M_clause_184 wc l1 1) (q_tF rc).2)) := by
  have n1 : ¬ (1 : Int) = 0 := by decide
  have hL := SA.2.2.2.2.2.1
  have eM : ∀ u, F_M_sum u = F_MP 60 2 u := fun _ => rfl
  have eD : ∀ u, F_LR_readSum u 0 = F_LR 60 0 u 0 0 := fun _ => rfl
  unfold PK_M_clause_184 K_M_clause_184 q_tP q_tF
  rw [if_neg n1]
  rcases hO with ⟨y1, ⟨n9, y2⟩, y3⟩ | ⟨y1, y2⟩
  · obtain ⟨r1, v⟩ := rc
    dsimp only at y1 y2 y3 ⊢
    have s4 : wc 0 4 = -1 := y3.2.1
    have Lc : wc 0 14 = wA 0 14 := fr_f y2.1.1 0 14 rfl rfl
    have yo : ¬ r1 = 0 := by omega
    have Sd : q_S 6 (z_up wc 7 l1.toNat (wc 6 l1.toNat)) v := q_Sw y3 (z_up_other (by decide)) (z_up_other (by decide)) (z_up_other (by decide))
    have Fd : q_fc l1 wc v (z_up wc 7 l1.toNat (wc 6 l1.toNat)) v := q_fc6 hl.1 (Or.inr (Or.inl rfl))
    have d2 : ∀ j, j ≠ 7 → (z_up wc 7 l1.toNat (wc 6 l1.toNat)) j = wc j := fun j hj => z_up_other hj
    obtain ⟨l1', l2'⟩ := q_Sl Sd
    have hat := (q_Sat Sd).2.2.1
    have hx := t_mcr hat.1
    rw [if_pos s4, if_neg yo, l2']
    dsimp only
    generalize z_up wc 7 l1.toNat (wc 6 l1.toNat) = wd at *
    obtain ⟨tp, ⟨x, em, et⟩ | ⟨x, em, et⟩⟩ := q_take Sd (c := 63) (by decide)
    · rw [et, if_pos em]
      dsimp only
      rw [if_neg n1]
      obtain ⟨g1, g2, g3, g4⟩ := q_Sn (k' := 6) (w1 := z_up wd 0 3 (v 37 2 + 1)) Sd (by omega) (fr_uf rfl fr_rf) z_up_at (by rw [z_up_ne (by decide)]; exact Sd.2.2.2.2.1)
      have eS : z_up (z_up (z_up wd 0 3 (v 37 2)) 0 3 ((z_up wd 0 3 (v 37 2)) 0 3 + 1)) 7 l1.toNat ((z_up wd 0 3 (v 37 2)) 4 (((z_up wd 0 3 (v 37 2)) 0 14).toNat)) = z_up (z_up wd 0 3 (v 37 2 + 1)) 7 l1.toNat (wc 4 (wA 0 14).toNat) := by
        rw [z_up_at, z_twice, z_up_other (show (4 : Nat) ≠ 0 by decide), z_up_ne (show (14 : Nat) ≠ 3 by decide), d2 4 (by decide), d2 0 (by decide), Lc]
      have e14 : (z_up wd 0 3 (v 37 2)) 0 14 = wA 0 14 := by rw [z_up_ne (by decide), d2 0 (by decide), Lc]
      rw [eS, e14]
      have v38 : F_LR_step v 38 = v 38 := fr_c g3.2.1 38 rfl rfl
      have v39 : F_LR_step v 39 = v 39 := fr_c g3.2.1 39 rfl rfl
      have SS : q_S 6 (z_up (z_up wd 0 3 (v 37 2 + 1)) 7 l1.toNat (wc 4 (wA 0 14).toNat)) (F_LR_step v) := q_Sw g2 (z_up_other (by decide)) (z_up_other (by decide)) (z_up_other (by decide))
      have FS : q_fc l1 wc v (z_up (z_up wd 0 3 (v 37 2 + 1)) 7 l1.toNat (wc 4 (wA 0 14).toNat)) (F_LR_step v) := q_fcT (q_fcT Fd (q_fcf (q_mvf g3))) (q_fc6 hl.1 (Or.inr (Or.inl rfl)))
      have S7 : (z_up (z_up wd 0 3 (v 37 2 + 1)) 7 l1.toNat (wc 4 (wA 0 14).toNat)) 7 l1.toNat = wc 4 (wA 0 14).toNat := z_up_at
      have Sj : ∀ j, j ≠ 7 → j ≠ 0 → (z_up (z_up wd 0 3 (v 37 2 + 1)) 7 l1.toNat (wc 4 (wA 0 14).toNat)) j = wc j := fun j h7 h0 => by rw [z_up_other h7, z_up_other h0, d2 j h7]
      generalize z_up (z_up wd 0 3 (v 37 2 + 1)) 7 l1.toNat (wc 4 (wA 0 14).toNat) = wS at *
      generalize F_LR_step v = vS at *
      have c38 := y2.2.2.2.1
      have c37 := y2.2.2.2.2.1
      have vs38 : vS 38 2 = v 38 2 := by rw [v38]
      obtain ⟨b1, b2, b3, b4, b5, b6⟩ := q_Sadd (s := 3) (x := 0) SS (by omega)
      obtain ⟨r1', r2', r3'⟩ := q_sum6 (n := 60) (n' := 60) (by decide) (by decide) b2
      rw [eM, eD]
      generalize F_W_add vS 3 0 = vU at *
      generalize F_MP 60 2 wS = wT at *
      generalize F_LR 60 0 vU 0 0 = rT at *
      rcases r3' with ⟨o1, ⟨n2, o2⟩, o3⟩ | ⟨o1, o2⟩
      · have ro : ¬ rT.1 = 0 := by omega
        rw [if_neg ro]
        obtain ⟨m1, m2, m3, m4⟩ := q_tG hl (by decide) SA h6 sl y2 FS (Sj 2 (by decide) (by decide)) (Sj 3 (by decide) (by decide)) (Sj 4 (by decide) (by decide)) (Sj 5 (by decide) (by decide)) (Sj 6 (by decide) (by decide)) S7 v39 vs38 g4 b3 b4 b5 b6 o2 o3
        exact ⟨⟨hl, by decide, fun z => absurd z n1, fun _ => ⟨by omega, fun _ => ⟨l1', by omega, fun _ => ⟨hL, r1', m3⟩, fun z => absurd em z⟩, fun z => absurd s4 z⟩⟩, ⟨by omega, fun _ => trivial, fun _ => ⟨tp, by decide, fun _ => trivial, fun _ => ⟨b1, r2', by omega, fun _ => trivial, fun _ => ⟨m1, m2⟩⟩⟩⟩, Or.inl ⟨rfl, m4⟩⟩
      · rw [if_pos o1]
        have LS : wS 0 14 = wA 0 14 := by rw [fr_f FS.1 0 14 rfl rfl, Lc]
        obtain ⟨m1, m2⟩ := q_CFs hl (by rw [LS]; exact hL) o2
        have fA : q_fc l1 wA vA wS vU := q_fcT (q_fcT (q_fcf y2.1) FS) ⟨fr_rf, b6, fun _ _ => ⟨rfl, rfl⟩, fun _ _ => ⟨rfl, rfl⟩, fun _ _ => ⟨rfl, rfl, rfl⟩⟩
        exact ⟨⟨hl, by decide, fun z => absurd z n1, fun _ => ⟨by omega, fun _ => ⟨l1', by omega, fun _ => ⟨hL, r1', m1⟩, fun z => absurd em z⟩, fun z => absurd s4 z⟩⟩, ⟨by omega, fun _ => trivial, fun _ => ⟨tp, by decide, fun _ => trivial, fun _ => ⟨b1, r2', by omega, fun _ => trivial, fun z => absurd o1 z⟩⟩⟩, Or.inr ⟨rfl, q_fcT fA m2.1, m2.2⟩⟩
    · rw [et, if_neg em]
      dsimp only
      rw [if_pos rfl]
      obtain ⟨g1, g2, g3⟩ := q_bad Sd
      have hq := (q_Sat Sd).2.1
      have hb : 0 ≤ v 37 2 ∧ v 37 2 ≤ 1000 := by omega
      exact ⟨⟨hl, by decide, fun z => absurd z n1, fun _ => ⟨by omega, fun _ => ⟨l1', by omega, fun z => absurd z em, fun _ => g1⟩, fun z => absurd s4 z⟩⟩, ⟨by omega, fun _ => trivial, fun _ => ⟨tp, by decide, fun _ => trivial, fun z => absurd rfl z⟩⟩, Or.inr ⟨rfl, q_fcT (q_fcT (q_fcf y2.1) Fd) (q_fc0 g3), g2, hb.1, hb.2⟩⟩
  · have e4 := y2.2.1
    have er := y2.2.2.1
    have s4 : ¬ wc 0 4 = -1 := by omega
    rw [if_neg s4, if_pos y1]
    obtain ⟨m1, m2⟩ := q_CFk hl hL y2
    exact ⟨⟨hl, by decide, fun z => absurd z n1, fun _ => ⟨by omega, fun z => absurd z s4, fun _ => m1⟩⟩, ⟨by omega, fun _ => trivial, fun z => absurd y1 z⟩, Or.inr ⟨rfl, m2⟩⟩
