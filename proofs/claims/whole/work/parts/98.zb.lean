/-! the law's clauses: both sides -/
theorem q_k71F {u : z_Wd} {l1 : Int} (h : ¬ u 0 4 = -1) (r : -2147483648 ≤ u 0 4 ∧ u 0 4 < 2147483648) : K_M_clause_71 u l1 = z_up u 0 3 (u 0 3 + 1) ∧ PK_M_clause_71 u l1 := by
  unfold K_M_clause_71
  rw [if_neg h]
  exact ⟨rfl, r, fun z => absurd z h, fun _ => trivial⟩
theorem q_k40F {u : z_Wd} {l1 : Int} (h : ¬ u 0 4 = -1) (r : -2147483648 ≤ u 0 4 ∧ u 0 4 < 2147483648) : z_fr [] [(0, 3)] u (K_M_clause_40 u l1) ∧ PK_M_clause_40 u l1 := by
  have e : (z_up u 0 3 (u 0 3 + 1)) 0 4 = u 0 4 := z_up_ne (by decide)
  obtain ⟨a, b⟩ := q_k71F (u := z_up u 0 3 (u 0 3 + 1)) (l1 := l1) (by rw [e]; exact h) (by rw [e]; exact r)
  unfold K_M_clause_40
  rw [if_neg h, a]
  exact ⟨fr_uf rfl (fr_uf rfl fr_rf), r, fun z => absurd z h, fun _ => b⟩
set_option maxHeartbeats 1000000 in
theorem q_clause {w v : z_Wd} (S : q_S 6 w v) (hc : 0 ≤ w 5 (w 0 14).toNat ∧ 3 * w 5 (w 0 14).toNat ≤ v 37 2) : P_M_clause w ∧ P_LR_readClause v ∧ q_CO 3 (140 * w 0 14 + w 5 (w 0 14).toNat) w v (F_M_clause w) (F_LR_readClause v) := by
  obtain ⟨ht, hq, hat, hp⟩ := q_Sat S
  obtain ⟨h1, h2, h3, h4, h5, hL, h7, h8⟩ := id S
  have hl : 0 ≤ 140 * w 0 14 + w 5 (w 0 14).toNat ∧ 140 * w 0 14 + w 5 (w 0 14).toNat < 700 := by omega
  have n1 : ¬ (1 : Int) = 0 := by decide
  have hx := t_mcr hat.1
  have eC : F_LR_readClause v = if (F_LR_take v 121).1 = 0 then (0, (F_LR_take v 121).2) else if (F_LR_take ((F_LR_take v 121).2) 58).1 = 0 then (0, (F_LR_take ((F_LR_take v 121).2) 58).2) else q_rF (F_LR_take ((F_LR_take v 121).2) 58).2 := rfl
  have eP : P_LR_readClause v = ((P_LR_take v 121) ∧ (-2147483648 ≤ (F_LR_take v 121).1 ∧ (F_LR_take v 121).1 < 2147483648) ∧ (((F_LR_take v 121).1 = 0 → True) ∧ (¬ ((F_LR_take v 121).1 = 0) → (P_LR_take ((F_LR_take v 121).2) 58) ∧ (-2147483648 ≤ (F_LR_take ((F_LR_take v 121).2) 58).1 ∧ (F_LR_take ((F_LR_take v 121).2) 58).1 < 2147483648) ∧ (((F_LR_take ((F_LR_take v 121).2) 58).1 = 0 → True) ∧ (¬ ((F_LR_take ((F_LR_take v 121).2) 58).1 = 0) → q_rP (F_LR_take ((F_LR_take v 121).2) 58).2))))) := rfl
  rw [eC, eP]
  clear eC eP
  obtain ⟨p1, l2⟩ := q_Sl S
  unfold P_M_clause F_M_clause
  rw [if_pos h2, l2]
  dsimp only
  generalize 140 * w 0 14 + w 5 (w 0 14).toNat = l1 at *
  obtain ⟨tp, ⟨x, em, et⟩ | ⟨x, em, et⟩⟩ := q_take S (c := 121) (by decide)
  · rw [et, if_pos em]
    dsimp only
    rw [if_neg n1]
    obtain ⟨g1, g2, g3, g4⟩ := q_Sn (k' := 6) (w1 := z_up w 0 3 (v 37 2 + 1)) S (by omega) (fr_uf rfl fr_rf) z_up_at (by rw [z_up_ne (by decide)]; exact h5)
    obtain ⟨p2, m2⟩ := q_Sl g2
    have e4 : (z_up w 0 3 (v 37 2)) 0 4 = -1 := by rw [z_up_ne (by decide)]; exact h2
    have e3 : z_up (z_up w 0 3 (v 37 2)) 0 3 ((z_up w 0 3 (v 37 2)) 0 3 + 1) = z_up w 0 3 (v 37 2 + 1) := by rw [z_up_at, z_twice]
    have hx1 := t_mcr (q_Sat g2).2.2.1.1
    have hq1 := (q_Sat g2).2.1
    obtain ⟨tp1, ⟨x1, em1, et1⟩ | ⟨x1, em1, et1⟩⟩ := q_take g2 (c := 58) (by decide)
    · rw [et1]
      dsimp only
      rw [if_neg n1]
      obtain ⟨i1, i2, i3, i4⟩ := q_Sn (k' := 6) (w1 := z_up w 0 3 (F_LR_step v 37 2 + 1)) g2 (by omega) (fr_tr (w' := w) (fun k j a b => by
          by_cases y : k = 0
          · subst y
            by_cases y3 : j = 3
            · subst y3
              exact absurd b (by decide)
            · rw [z_up_ne y3]
          · rw [z_up_other y]) (fr_uf rfl fr_rf)) z_up_at (by rw [z_up_ne (by decide)]; exact h5)
      have e5 : K_M_clause_40 (z_up w 0 3 (v 37 2)) l1 = K_M_clause_90 (z_up w 0 3 (F_LR_step v 37 2 + 1)) l1 := by
        unfold K_M_clause_40 K_M_clause_71
        rw [if_pos e4, e3, m2]
        dsimp only
        rw [if_pos em1, if_pos (by rw [z_twice, z_up_ne (by decide)]; exact h2), z_up_at, z_twice, z_twice]
      obtain ⟨j1, j2, j3⟩ := q_k90 hl i2 (by
        have y38 : F_LR_step (F_LR_step v) 38 = v 38 := by rw [fr_c i3.2.1 38 rfl rfl, fr_c g3.2.1 38 rfl rfl]
        rw [y38]
        omega)
      have pk : PK_M_clause_40 (z_up w 0 3 (v 37 2)) l1 := by
        unfold PK_M_clause_40 PK_M_clause_71
        rw [e3, m2]
        dsimp only
        refine ⟨by omega, fun _ => ⟨p2, by omega, fun _ => ⟨by rw [z_twice, z_up_ne (by decide)]; omega, fun _ => ?_, fun z => absurd (by rw [z_twice, z_up_ne (by decide)]; exact h2) z⟩, fun z => absurd em1 z⟩, fun z => absurd e4 z⟩
        rw [z_up_at, z_twice, z_twice]
        exact j1
      rw [e5]
      refine ⟨⟨hL, by omega, fun _ => ⟨p1, by omega, fun _ => pk, fun z => absurd em z⟩, fun z => absurd h2 z⟩, ⟨tp, by decide, fun _ => trivial, fun _ => ⟨tp1, by decide, fun _ => trivial, fun _ => j2⟩⟩, ?_⟩
      have pre : q_pre l1 w v (z_up (z_up (z_up w 0 3 (F_LR_step v 37 2 + 1)) 6 l1.toNat ((z_up w 0 3 (F_LR_step v 37 2 + 1)) 4 ((z_up w 0 3 (F_LR_step v 37 2 + 1)) 0 14).toNat)) 0 3 (F_LR_step (F_LR_step v) 37 2)) (F_LR_step (F_LR_step v)) := by
        have fD : z_fr [] [(37, 2)] v (F_LR_step (F_LR_step v)) := fr_tr g3.2.1 i3.2.1
        have fM1 : q_fc l1 w (F_LR_step (F_LR_step v)) (z_up w 0 3 (F_LR_step v 37 2 + 1)) (F_LR_step (F_LR_step v)) := q_fc0 (fr_uf rfl fr_rf)
        have fM2 := q_fcT fM1 (q_fc6 hl.1 (Or.inl rfl) (x := (z_up w 0 3 (F_LR_step v 37 2 + 1)) 4 ((z_up w 0 3 (F_LR_step v 37 2 + 1)) 0 14).toNat))
        have fM3 := q_fcT fM2 (q_fc0 (w' := z_up (z_up (z_up w 0 3 (F_LR_step v 37 2 + 1)) 6 l1.toNat ((z_up w 0 3 (F_LR_step v 37 2 + 1)) 4 ((z_up w 0 3 (F_LR_step v 37 2 + 1)) 0 14).toNat)) 0 3 (F_LR_step (F_LR_step v) 37 2)) (fr_uf rfl fr_rf))
        refine ⟨⟨fM3.1, fr_wk fD rfl rfl, fM3.2.2⟩, ?_, ?_, ?_, ?_, fr_c fD 39 rfl rfl, by rw [fr_c fD 38 rfl rfl], by omega⟩ <;> rw [z_up_other (by decide), z_up_other (by decide), z_up_other (by decide)]
      rcases j3 with ⟨y1, y2⟩ | ⟨y1, y2⟩
      · exact Or.inl ⟨y1, q_preG pre y2⟩
      · exact Or.inr ⟨y1, q_preF pre y2⟩
    · rw [et1]
      dsimp only
      rw [if_pos rfl]
      obtain ⟨b1, b2, b3⟩ := q_bad g2
      obtain ⟨c1, c2⟩ := q_k71F (u := F_M_bad (z_up (z_up w 0 3 (v 37 2 + 1)) 0 3 (F_LR_step v 37 2))) (l1 := l1) (by rw [b2]; omega) (by rw [b2]; omega)
      have e5 : K_M_clause_40 (z_up w 0 3 (v 37 2)) l1 = K_M_clause_71 (F_M_bad (z_up (z_up w 0 3 (v 37 2 + 1)) 0 3 (F_LR_step v 37 2))) l1 := by
        unfold K_M_clause_40
        rw [if_pos e4, e3, m2]
        dsimp only
        rw [if_neg em1]
      have pk : PK_M_clause_40 (z_up w 0 3 (v 37 2)) l1 := by
        unfold PK_M_clause_40
        rw [e3, m2]
        exact ⟨by omega, fun _ => ⟨p2, ⟨by dsimp only; omega, by dsimp only; omega⟩, fun z => absurd z em1, fun _ => ⟨b1, c2⟩⟩, fun z => absurd e4 z⟩
      have hb : 0 ≤ F_LR_step v 37 2 ∧ F_LR_step v 37 2 ≤ 1000 := by omega
      rw [e5, c1]
      refine ⟨⟨hL, by omega, fun _ => ⟨p1, by omega, fun _ => pk, fun z => absurd em z⟩, fun z => absurd h2 z⟩, ⟨tp, by decide, fun _ => trivial, fun _ => ⟨tp1, by decide, fun _ => trivial, fun z => absurd rfl z⟩⟩, Or.inr ⟨rfl, q_fcT (q_fcf (q_mvf g3)) (q_fc0 (fr_uf rfl b3)), ?_, hb.1, hb.2⟩⟩
      rw [z_up_ne (by decide)]
      exact b2
  · rw [et, if_neg em]
    dsimp only
    rw [if_pos rfl]
    obtain ⟨b1, b2, b3⟩ := q_bad S
    obtain ⟨c1, c2⟩ := q_k40F (u := F_M_bad (z_up w 0 3 (v 37 2))) (l1 := l1) (by rw [b2]; omega) (by rw [b2]; omega)
    have hb : 0 ≤ v 37 2 ∧ v 37 2 ≤ 1000 := by omega
    refine ⟨⟨hL, by omega, fun _ => ⟨p1, by omega, fun z => absurd z em, fun _ => ⟨b1, c2⟩⟩, fun z => absurd h2 z⟩, ⟨tp, by decide, fun _ => trivial, fun z => absurd rfl z⟩, Or.inr ⟨rfl, q_fc0 (fr_tr b3 (fr_wk c1 rfl rfl)), ?_, hb.1, hb.2⟩⟩
    rw [fr_f c1 0 4 rfl rfl]
    exact b2
