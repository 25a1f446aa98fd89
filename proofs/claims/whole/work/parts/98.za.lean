/-! the law's clauses: whole -/
def q_rF (v : z_Wd) : Int × z_Wd := if F_T_at v (v 37 2) = 33 then q_tF (F_LR_readCondition v 0 0) else if F_T_at v (v 37 2) = 40 then q_tF (F_LR_readCondition v 0 0) else if (F_LR_readSum v 0).1 = 0 then (0, (F_LR_readSum v 0).2) else if F_LR_isComparison ((F_LR_readSum v 0).2) (F_T_at ((F_LR_readSum v 0).2) (((F_LR_readSum v 0).2) 37 2)) = 0 then (1, F_W_goOnHere (F_W_add ((F_LR_readSum v 0).2) 2 0) (-1)) else q_tF (F_LR_readCondition ((F_LR_readSum v 0).2) 0 1)
def q_rP (v : z_Wd) : Prop := P_T_at v (v 37 2) ∧ (-2147483648 ≤ F_T_at v (v 37 2) ∧ F_T_at v (v 37 2) < 2147483648) ∧ ((F_T_at v (v 37 2) = 33 → P_LR_readCondition v 0 0 ∧ q_tP (F_LR_readCondition v 0 0)) ∧ (¬ (F_T_at v (v 37 2) = 33) → (F_T_at v (v 37 2) = 40 → P_LR_readCondition v 0 0 ∧ q_tP (F_LR_readCondition v 0 0)) ∧ (¬ (F_T_at v (v 37 2) = 40) → (P_LR_readSum v 0) ∧ (-2147483648 ≤ (F_LR_readSum v 0).1 ∧ (F_LR_readSum v 0).1 < 2147483648) ∧ (((F_LR_readSum v 0).1 = 0 → True) ∧ (¬ ((F_LR_readSum v 0).1 = 0) → (P_T_at ((F_LR_readSum v 0).2) (((F_LR_readSum v 0).2) 37 2)) ∧ (P_LR_isComparison ((F_LR_readSum v 0).2) (F_T_at ((F_LR_readSum v 0).2) (((F_LR_readSum v 0).2) 37 2))) ∧ ((F_LR_isComparison ((F_LR_readSum v 0).2) (F_T_at ((F_LR_readSum v 0).2) (((F_LR_readSum v 0).2) 37 2)) = 0 → (P_W_add ((F_LR_readSum v 0).2) 2 0) ∧ (P_W_goOnHere (F_W_add ((F_LR_readSum v 0).2) 2 0) (-1))) ∧ (¬ (F_LR_isComparison ((F_LR_readSum v 0).2) (F_T_at ((F_LR_readSum v 0).2) (((F_LR_readSum v 0).2) 37 2)) = 0) → P_LR_readCondition ((F_LR_readSum v 0).2) 0 1 ∧ q_tP (F_LR_readCondition ((F_LR_readSum v 0).2) 0 1))))))))
def q_CO (g l1 : Int) (w v w' : z_Wd) (r : Int × z_Wd) : Prop := (r.1 = 1 ∧ q_CG g l1 w v w' r.2) ∨ (r.1 = 0 ∧ q_CF l1 w v w' r.2)
/-- a clause that begins with a condition -/
theorem q_129c {l1 : Int} (hl : 0 ≤ l1 ∧ l1 < 700) {wB v : z_Wd} (SB : q_S 6 wB v) (h6 : wB 6 l1.toNat = wB 4 (wB 0 14).toNat) (sl : v 38 2 + 2 ≤ v 37 2) : PK_M_clause_129 wB l1 1 ∧ P_LR_readCondition v 0 0 ∧ q_tP (F_LR_readCondition v 0 0) ∧ q_CO 1 l1 wB v (K_M_clause_129 wB l1 1) (q_tF (F_LR_readCondition v 0 0)) := by
  have n1 : ¬ (1 : Int) = 0 := by decide
  obtain ⟨a1, a2, a3⟩ := q_cndA SB
  have eC : F_M_condition wB = F_MP 60 7 wB := rfl
  have eD : F_LR_readCondition v 0 0 = F_LR 60 3 v 0 0 := rfl
  unfold PK_M_clause_129 K_M_clause_129
  rw [if_neg n1, eC, eD]
  obtain ⟨b1, b2, b3⟩ := q_tail hl SB h6 sl a3
  exact ⟨⟨by decide, fun z => absurd z n1, fun _ => ⟨a1, b1⟩⟩, a2, b2, b3⟩
/-- a clause that begins with a sum -/
theorem q_129s {l1 : Int} (hl : 0 ≤ l1 ∧ l1 < 700) {wB v : z_Wd} (SB : q_S 6 wB v) (h6 : wB 6 l1.toNat = wB 4 (wB 0 14).toNat) (sl : v 38 2 + 2 ≤ v 37 2) (x3 : ¬ F_T_at v (v 37 2) = 33) (x4 : ¬ F_T_at v (v 37 2) = 40) : PK_M_clause_129 wB l1 0 ∧ q_rP v ∧ q_CO 1 l1 wB v (K_M_clause_129 wB l1 0) (q_rF v) := by
  have n1 : ¬ (1 : Int) = 0 := by decide
  have hL := SB.2.2.2.2.2.1
  obtain ⟨ht, hq, hat, hp⟩ := q_Sat SB
  obtain ⟨a1, a2, a3⟩ := q_sum6 (n := 60) (n' := 60) (by decide) (by decide) SB
  have eC : ∀ u, F_M_sum u = F_MP 60 2 u := fun _ => rfl
  have eD : ∀ u, F_LR_readSum u 0 = F_LR 60 0 u 0 0 := fun _ => rfl
  have e3 : ∀ u, F_M_compare u = F_MP 60 3 u := fun _ => rfl
  have e5 : ∀ u, F_M_goOnAnd u = F_MP 60 5 u := fun _ => rfl
  have e6 : ∀ u, F_M_goOnOr u = F_MP 60 6 u := fun _ => rfl
  have eR : ∀ u, F_LR_readCondition u 0 1 = F_LR 60 3 u 0 1 := fun _ => rfl
  unfold PK_M_clause_129 K_M_clause_129 q_rP q_rF
  rw [if_pos rfl, if_neg x3, if_neg x4, eC, eD]
  have pS : P_LR_readSum v 0 := a2
  have pM : P_M_sum wB := a1
  clear a1 a2
  generalize F_MP 60 2 wB = w3 at *
  generalize F_LR 60 0 v 0 0 = r at *
  rcases a3 with ⟨o1, ⟨n9, o2⟩, o3⟩ | ⟨o1, o2⟩
  · have ro : ¬ r.1 = 0 := by omega
    have s4 : w3 0 4 = -1 := o3.2.1
    obtain ⟨p1, l2⟩ := q_Sl o3
    obtain ⟨ht3, hq3, hat3, hp3⟩ := q_Sat o3
    have hx := t_mcr hat3.1
    obtain ⟨z1, z2⟩ := q_S0 o3
    rw [if_neg ro, if_pos s4, l2]
    dsimp only
    by_cases sg : F_T_at r.2 (r.2 37 2) = 61 ∨ F_T_at r.2 (r.2 37 2) = 60 ∨ F_T_at r.2 (r.2 37 2) = 62
    · have em : t_mc (F_T_at r.2 (r.2 37 2)) = F_T_at r.2 (r.2 37 2) := by
        unfold t_mc
        rw [if_neg (by omega)]
      have iM : ¬ F_M_isSign (z_up w3 0 3 (r.2 37 2)) (t_mc (F_T_at r.2 (r.2 37 2))) = 0 := by
        rw [em]
        unfold F_M_isSign
        rcases sg with z | z | z <;> rw [z] <;> decide
      have iD : ¬ F_LR_isComparison r.2 (F_T_at r.2 (r.2 37 2)) = 0 := by
        unfold F_LR_isComparison
        rcases sg with z | z | z <;> rw [z] <;> decide
      rw [if_neg iM, if_neg iD]
      obtain ⟨c1, c2, c3, c4, c5⟩ := q_cndB (by decide) SB (q_Gq o2 z2) z1
      obtain ⟨b1, b2, b3⟩ := q_tail hl SB h6 sl c5
      have eK : K_M_clause_168 (z_up w3 0 3 (r.2 37 2)) l1 1 = K_M_clause_184 (F_MP 60 6 (F_MP 60 5 (F_MP 60 3 (z_up w3 0 3 (r.2 37 2))))) l1 1 := by
        unfold K_M_clause_168
        rw [if_neg n1, e3, e5, e6]
      have pK : PK_M_clause_168 (z_up w3 0 3 (r.2 37 2)) l1 1 := by
        unfold PK_M_clause_168
        rw [e3, e5, e6]
        exact ⟨by decide, fun z => absurd z n1, fun _ => ⟨c1, c2, c3, b1⟩⟩
      rw [eK, eR]
      exact ⟨⟨by decide, fun _ => ⟨pM, by omega, fun _ => ⟨p1, ⟨by omega, by omega⟩, fun z => absurd z iM, fun _ => pK⟩, fun z => absurd s4 z⟩, fun z => absurd rfl z⟩, ⟨hp, by omega, fun z => absurd z x3, fun _ => ⟨fun z => absurd z x4, fun _ => ⟨pS, by omega, fun _ => trivial, fun _ => ⟨hp3, ⟨by omega, by omega⟩, fun z => absurd z iD, fun _ => ⟨c4, b2⟩⟩⟩⟩⟩, b3⟩
    · have iM : F_M_isSign (z_up w3 0 3 (r.2 37 2)) (t_mc (F_T_at r.2 (r.2 37 2))) = 0 := by
        unfold F_M_isSign t_mc
        by_cases z : F_T_at r.2 (r.2 37 2) = 0
        · rw [if_pos z]; decide
        · rw [if_neg z, if_neg (by omega), if_neg (by omega), if_neg (by omega)]
      have iD : F_LR_isComparison r.2 (F_T_at r.2 (r.2 37 2)) = 0 := by
        unfold F_LR_isComparison
        rw [if_neg (by omega), if_neg (by omega), if_neg (by omega)]
      rw [if_pos iM, if_pos iD]
      obtain ⟨b1, b2, b3, b4⟩ := q_noT hl (by decide) SB h6 sl o2 o3
      have eK : K_M_clause_168 (z_up w3 0 3 (r.2 37 2)) l1 0 = K_M_clause_184 (z_up w3 0 3 (r.2 37 2)) l1 0 := by
        unfold K_M_clause_168
        rw [if_pos rfl]
      have pK : PK_M_clause_168 (z_up w3 0 3 (r.2 37 2)) l1 0 := ⟨by decide, fun _ => b1, fun z => absurd rfl z⟩
      rw [eK]
      exact ⟨⟨by decide, fun _ => ⟨pM, by omega, fun _ => ⟨p1, ⟨by omega, by omega⟩, fun _ => pK, fun z => absurd iM z⟩, fun z => absurd s4 z⟩, fun z => absurd rfl z⟩, ⟨hp, by omega, fun z => absurd z x3, fun _ => ⟨fun z => absurd z x4, fun _ => ⟨pS, by omega, fun _ => trivial, fun _ => ⟨hp3, ⟨by omega, by omega⟩, fun _ => ⟨b2, b3⟩, fun z => absurd iD z⟩⟩⟩⟩, Or.inl ⟨rfl, b4⟩⟩
  · have e4 := o2.2.1
    have er := o2.2.2.1
    have s4 : ¬ w3 0 4 = -1 := by omega
    rw [if_pos o1, if_neg s4]
    obtain ⟨m1, m2⟩ := q_CFk hl hL o2
    have eK : K_M_clause_168 w3 l1 0 = K_M_clause_251 (z_up w3 7 l1.toNat (w3 6 l1.toNat)) l1 := by
      unfold K_M_clause_168 K_M_clause_184
      rw [if_pos rfl, if_pos rfl]
    have pK : PK_M_clause_168 w3 l1 0 := ⟨by decide, fun _ => ⟨hl, by decide, fun _ => m1, fun z => absurd rfl z⟩, fun z => absurd rfl z⟩
    rw [eK]
    exact ⟨⟨by decide, fun _ => ⟨pM, by omega, fun z => absurd z s4, fun _ => pK⟩, fun z => absurd rfl z⟩, ⟨hp, by omega, fun z => absurd z x3, fun _ => ⟨fun z => absurd z x4, fun _ => ⟨pS, by omega, fun _ => trivial, fun z => absurd o1 z⟩⟩⟩, Or.inr ⟨rfl, m2⟩⟩
set_option maxHeartbeats 1000000 in
theorem q_k90 {l1 : Int} (hl : 0 ≤ l1 ∧ l1 < 700) {w v : z_Wd} (S : q_S 6 w v) (sl : v 38 2 + 2 ≤ v 37 2) : PK_M_clause_90 w l1 ∧ q_rP v ∧ q_CO 1 l1 (z_up (z_up w 6 l1.toNat (w 4 (w 0 14).toNat)) 0 3 (v 37 2)) v (K_M_clause_90 w l1) (q_rF v) := by
  have hL := S.2.2.2.2.2.1
  have SA : q_S 6 (z_up w 6 l1.toNat (w 4 (w 0 14).toNat)) v := q_Sw S (z_up_other (by decide)) (z_up_other (by decide)) (z_up_other (by decide))
  obtain ⟨p1, e1⟩ := q_Sl SA
  have SB := (q_S0 SA).1
  obtain ⟨p2, e2⟩ := q_Sl SB
  rw [z_twice] at e2
  have h6 : (z_up (z_up w 6 l1.toNat (w 4 (w 0 14).toNat)) 0 3 (v 37 2)) 6 l1.toNat = (z_up (z_up w 6 l1.toNat (w 4 (w 0 14).toNat)) 0 3 (v 37 2)) 4 ((z_up (z_up w 6 l1.toNat (w 4 (w 0 14).toNat)) 0 3 (v 37 2)) 0 14).toNat := by
    rw [z_up_other (show (6 : Nat) ≠ 0 by decide), z_up_at, z_up_other (show (4 : Nat) ≠ 0 by decide), z_up_ne (show (14 : Nat) ≠ 3 by decide), z_up_other (show (4 : Nat) ≠ 6 by decide), z_up_other (show (0 : Nat) ≠ 6 by decide)]
  obtain ⟨ht, hq, hat, hp⟩ := q_Sat S
  have hx := t_mcr hat.1
  unfold PK_M_clause_90 K_M_clause_90
  rw [e1]
  dsimp only
  rw [e2]
  dsimp only
  generalize z_up (z_up w 6 l1.toNat (w 4 (w 0 14).toNat)) 0 3 (v 37 2) = wB at *
  by_cases x3 : F_T_at v (v 37 2) = 33
  · have em : t_mc (F_T_at v (v 37 2)) = 33 := by
      unfold t_mc
      rw [if_neg (by omega), x3]
    obtain ⟨a1, a2, a3, a4⟩ := q_129c hl SB h6 sl
    unfold q_rP q_rF
    rw [if_pos em, if_pos x3]
    exact ⟨⟨hL, hl, p1, by omega, fun _ => a1, fun z => absurd em z⟩, ⟨hp, by omega, fun _ => ⟨a2, a3⟩, fun z => absurd x3 z⟩, a4⟩
  · have em3 : ¬ t_mc (F_T_at v (v 37 2)) = 33 := by
      unfold t_mc
      by_cases z : F_T_at v (v 37 2) = 0
      · rw [if_pos z]; decide
      · rw [if_neg z]; exact x3
    rw [if_neg em3]
    by_cases x4 : F_T_at v (v 37 2) = 40
    · have em : t_mc (F_T_at v (v 37 2)) = 40 := by
        unfold t_mc
        rw [if_neg (by omega), x4]
      obtain ⟨a1, a2, a3, a4⟩ := q_129c hl SB h6 sl
      unfold q_rP q_rF
      rw [if_pos em, if_neg x3, if_pos x4]
      exact ⟨⟨hL, hl, p1, by omega, fun z => absurd z em3, fun _ => ⟨p2, by omega, fun _ => a1, fun z => absurd em z⟩⟩, ⟨hp, by omega, fun z => absurd z x3, fun _ => ⟨fun _ => ⟨a2, a3⟩, fun z => absurd x4 z⟩⟩, a4⟩
    · have em4 : ¬ t_mc (F_T_at v (v 37 2)) = 40 := by
        unfold t_mc
        by_cases z : F_T_at v (v 37 2) = 0
        · rw [if_pos z]; decide
        · rw [if_neg z]; exact x4
      rw [if_neg em4]
      obtain ⟨a1, a2, a3⟩ := q_129s hl SB h6 sl x3 x4
      exact ⟨⟨hL, hl, p1, by omega, fun z => absurd z em3, fun _ => ⟨p2, by omega, fun z => absurd z em4, fun _ => a1⟩⟩, a2, a3⟩
