/-! a law read: both sides -/
theorem l_claC {code code' val val' row row' : Nat → Int} {t s e : Int} {k k' : Nat} (h : l_cla code val row t s e k k') (hc : ∀ i : Nat, (i : Int) < e → code' i = code i ∧ val' i = val i) (hr : ∀ i : Nat, i < k' → row' i = row i) : l_cla code' val' row' t s e k k' := by
  obtain ⟨a1, a2, a3, a4, a5, a6⟩ := h
  refine ⟨a1, ?_, ?_, a4, ?_, fun ne => ?_⟩
  · exact l_sqC a2 (fun i hi => (hc _ (by omega)).1) (fun i hi => (hc _ (by omega)).2) (fun i hi => hr _ (by omega))
  · exact (l_runC _ (fun i hi => (hc _ (by omega)).1)).trans a3
  · rw [hr _ (by omega)]
    exact a5
  · obtain ⟨b1, b2, b3⟩ := a6 ne
    rw [if_neg ne] at a4
    refine ⟨?_, ?_, ?_⟩
    · exact l_sqC b1 (fun i hi => (hc _ (by omega)).1) (fun i hi => (hc _ (by omega)).2) (fun i hi => hr _ (by omega))
    · exact (l_runC _ (fun i hi => (hc _ (by omega)).1)).trans b2
    · rw [hr _ (by omega)]
      exact b3
/-- the clauses read so far -/
def q_I (w v : z_Wd) : Prop := ∃ K : Nat → Nat, K 0 = 0 ∧ ((K (w 5 (w 0 14).toNat).toNat : Nat) : Int) = v 38 2 ∧ ∀ c : Nat, (c : Int) < w 5 (w 0 14).toNat → l_cla (fun k => w 2 (520 * (w 0 14).toNat + k)) (fun k => w 3 (520 * (w 0 14).toNat + k)) (v 39) (w 6 (140 * (w 0 14).toNat + c)) (w 7 (140 * (w 0 14).toNat + c)) (w 8 (140 * (w 0 14).toNat + c)) (K c) (K (c + 1)) ∧ w 8 (140 * (w 0 14).toNat + c) ≤ w 4 (w 0 14).toNat ∧ (K (c + 1) : Int) ≤ v 38 2
theorem q_In {w v w' v' : z_Wd} (S : q_S 6 w v) (hc : 0 ≤ w 5 (w 0 14).toNat) (hI : q_I w v) (G : q_CG 3 (140 * w 0 14 + w 5 (w 0 14).toNat) w v w' v') : q_I w' v' := by
  obtain ⟨K, k0, k1, k2⟩ := hI
  obtain ⟨g1, g2, g3, g4, g5, g6, g7, g8, g9, g10⟩ := G
  have hL := S.2.2.2.2.2.1
  have h7 := S.2.2.2.2.2.2.1
  have s7 := g2.2.2.2.2.2.2.1
  have L' : w' 0 14 = w 0 14 := fr_f g1.1 0 14 rfl rfl
  rw [L'] at s7
  obtain ⟨L, eL⟩ := Int.eq_ofNat_of_zero_le hL.1
  obtain ⟨c, ec⟩ := Int.eq_ofNat_of_zero_le hc
  have eN : (w 0 14).toNat = L := by omega
  have el : (140 * w 0 14 + w 5 (w 0 14).toNat).toNat = 140 * L + c := by omega
  have g55 := g1.2.2.2.2
  rw [el] at g9 g10
  unfold q_I
  rw [L', g3]
  have ec' : w 5 L = (c : Int) := by rw [← eN]; exact ec
  rw [eN] at k1 k2 g6 g7 g9 g10 h7 s7 g55 ⊢
  rw [ec'] at k1 k2 g55 ⊢
  have k1' : K c = (v 38 2).toNat := by rw [Int.toNat_natCast] at k1; omega
  refine ⟨fun i => if i ≤ c then K i else (v' 38 2).toNat, by dsimp only; rw [if_pos (Nat.zero_le c)]; exact k0, ?_, fun i hi => ?_⟩
  · rw [show ((c : Int) + 1).toNat = c + 1 by omega]
    dsimp only
    rw [if_neg (by omega)]
    omega
  · by_cases ic : i < c
    · obtain ⟨b1, b2, b3⟩ := k2 i (by omega)
      obtain ⟨f1, f2, f3⟩ := g55 (140 * L + i) (by omega)
      dsimp only
      rw [if_pos (by omega), if_pos (by omega), f1, f2, f3]
      refine ⟨l_claC b1 (fun j hj => ?_) (fun j hj => ?_), by omega, by omega⟩
      · exact g7 j (by omega)
      · exact g8 j (by omega)
    · have ei : i = c := by omega
      subst ei
      dsimp only
      rw [if_pos (by omega), if_neg (by omega), k1']
      exact ⟨g10, g9, by omega⟩
/-- what is left of both, and what was read -/
def q_RD (w v : z_Wd) (rM rD : Int × z_Wd) : Prop := rM.1 = rD.1 ∧ (-1 ≤ rM.1 ∧ rM.1 ≤ 1000) ∧ q_fc (140 * w 0 14) w v rM.2 rD.2 ∧ (rM.1 = -1 → q_I rM.2 rD.2 ∧ (0 ≤ rM.2 5 (w 0 14).toNat ∧ rM.2 5 (w 0 14).toNat ≤ 80) ∧ 0 ≤ rD.2 38 2 ∧ rD.2 38 2 ≤ 240)
theorem q_fcl {l1 l2 : Int} {w v w' v' : z_Wd} (h : q_fc l1 w v w' v') (hl : l2 ≤ l1) : q_fc l2 w v w' v' := ⟨h.1, h.2.1, h.2.2.1, h.2.2.2.1, fun j hj => h.2.2.2.2 j (by omega)⟩
theorem q_atF {w : z_Wd} (h : ¬ w 0 4 = -1) (r : -2147483648 ≤ w 0 4 ∧ w 0 4 < 2147483648) : P_M_atEnd w ∧ F_M_atEnd w = (w 0 4, w) := by
  unfold F_M_atEnd
  rw [if_neg h]
  exact ⟨⟨r, fun z => absurd z h, fun _ => trivial⟩, rfl⟩
theorem q_Imv {w v w' v' : z_Wd} (h : q_I w v) (f : z_fr [] [(0, 3), (0, 4), (0, 5)] w w') (g : z_fr [] [(37, 2)] v v') : q_I w' v' := by
  unfold q_I
  rw [fr_f f 0 14 rfl rfl, fr_c f 5 rfl rfl, fr_c f 2 rfl rfl, fr_c f 3 rfl rfl, fr_c f 6 rfl rfl, fr_c f 7 rfl rfl, fr_c f 8 rfl rfl, fr_c f 4 rfl rfl, fr_c g 38 rfl rfl, fr_c g 39 rfl rfl]
  exact h
set_option maxHeartbeats 1000000 in
theorem q_loop {wM wD : z_Wd} : ∀ (m m' : Nat) (w v : z_Wd), q_S 6 w v → q_I w v → (0 ≤ w 5 (w 0 14).toNat ∧ 3 * w 5 (w 0 14).toNat ≤ v 37 2) → 241 ≤ (m : Int) + v 37 2 → 241 ≤ (m' : Int) + v 37 2 → P_M_clause w ∧ PL_M_readLaw_9 wM m (F_M_clause w) ∧ PL_LR_read_23 wD (m' + 1) 1 (w 5 (w 0 14).toNat) v ∧ q_RD w v (L_M_readLaw_9 wM m (F_M_clause w)) (L_LR_read_23 wD (m' + 1) 1 (w 5 (w 0 14).toNat) v) := by
  intro m
  induction m with
  | zero =>
    intro m' w v S hI hc hm hm'
    have hq := (q_Sat S).2.1
    omega
  | succ m ih =>
    intro m' w v S hI hc hm hm'
    obtain ⟨ht, hq, hat, hp⟩ := q_Sat S
    obtain ⟨c1, c2, c3⟩ := q_clause S hc
    have hL := S.2.2.2.2.2.1
    have n1 : ¬ (1 : Int) = 0 := by decide
    have n240 : ¬ w 5 (w 0 14).toNat ≥ 240 := by omega
    simp only [L_M_readLaw_9, PL_M_readLaw_9, L_LR_read_23, PL_LR_read_23]
    rw [if_neg n1, if_neg n240]
    rcases c3 with ⟨y1, y2⟩ | ⟨y1, y2⟩
    · have yo : ¬ (F_LR_readClause v).1 = 0 := by omega
      rw [if_neg yo]
      have I1 := q_In S hc.1 hI y2
      obtain ⟨g1, g2, g3, g4, g5, g6, g7, g8, g9, g10⟩ := y2
      have s4 : F_M_clause w 0 4 = -1 := g2.2.1
      have L1 : F_M_clause w 0 14 = w 0 14 := fr_f g1.1 0 14 rfl rfl
      obtain ⟨ht1, hq1, hat1, hp1⟩ := q_Sat g2
      have hx := t_mcr hat1.1
      obtain ⟨l1, l2⟩ := q_Sl g2
      obtain ⟨z1, z2⟩ := q_S0 g2
      have h81 := g2.2.2.2.2.2.2.2
      have h71 := g2.2.2.2.2.2.2.1
      have fc0 := q_fcl (l2 := 140 * w 0 14) g1 (by omega)
      rw [if_pos s4, l2]
      dsimp only
      obtain ⟨m9, em9⟩ : ∃ m9, m' = m9 + 1 := ⟨m' - 1, by omega⟩
      subst em9
      generalize F_M_clause w = w1 at *
      generalize (F_LR_readClause v).2 = v1 at *
      obtain ⟨tp, ⟨x, em, et⟩ | ⟨x, em, et⟩⟩ := q_take g2 (c := 59) (by decide)
      · -- one clause more
        rw [et, if_pos em]
        dsimp only
        rw [z_up_at, z_twice]
        obtain ⟨i1, i2, i3, i4⟩ := q_Sn (k' := 6) (w1 := z_up w1 0 3 (v1 37 2 + 1)) g2 (by omega) (fr_uf rfl fr_rf) z_up_at (by rw [z_up_ne (by decide)]; exact g2.2.2.2.2.1)
        have L2 : (z_up w1 0 3 (v1 37 2 + 1)) 0 14 = w 0 14 := by rw [z_up_ne (by decide), L1]
        have e5 : (z_up w1 0 3 (v1 37 2 + 1)) 5 ((z_up w1 0 3 (v1 37 2 + 1)) 0 14).toNat = w 5 (w 0 14).toNat + 1 := by rw [L2, z_up_other (by decide), g3]
        obtain ⟨q1, q2, q3, q4⟩ := ih m9 (z_up w1 0 3 (v1 37 2 + 1)) (F_LR_step v1) i2 (q_Imv I1 (fr_uf rfl fr_rf) i3.2.1) (by rw [e5]; omega) (by omega) (by omega)
        rw [e5] at q3 q4
        refine ⟨c1, ⟨by omega, fun _ => ⟨l1, by omega, fun _ => ⟨q1, q2⟩, fun z => absurd em z⟩, fun z => absurd s4 z⟩, ⟨by decide, fun z => absurd z n1, fun _ => ⟨by omega, fun z => absurd z n240, fun _ => ⟨c2, by omega, fun _ => trivial, fun _ => ⟨tp, q3⟩⟩⟩⟩, ?_⟩
        obtain ⟨r1, r2, r3, r4⟩ := q4
        rw [L2] at r3 r4
        exact ⟨r1, r2, q_fcT (q_fcT fc0 (q_fcf (q_mvf i3))) r3, r4⟩
      · -- no clause more
        rw [et, if_neg em]
        dsimp only
        obtain ⟨l3, l4⟩ := q_Sl z1
        rw [z_twice] at l4
        have s5 : (z_up w1 0 3 (v1 37 2)) 0 4 = -1 := by rw [z_up_ne (by decide)]; exact s4
        obtain ⟨b1, b2, b3⟩ := q_bad g2
        by_cases xe : F_T_at v1 (v1 37 2) = 0
        · have em0 : t_mc (F_T_at v1 (v1 37 2)) = -1 := by
            unfold t_mc
            rw [if_pos xe]
          have ee : v1 37 2 = v1 28 1 := by omega
          have eA : F_M_atEnd (z_up w1 0 3 (v1 37 2)) = (-1, z_up w1 0 3 (v1 37 2)) := by
            unfold F_M_atEnd
            rw [if_pos s5, l4]
            dsimp only
            rw [if_pos em0, s5]
          have pA : P_M_atEnd (z_up w1 0 3 (v1 37 2)) := by
            unfold P_M_atEnd
            rw [l4]
            dsimp only
            exact ⟨by omega, fun _ => ⟨l3, by omega, fun _ => trivial, fun _ => b1⟩, fun z => absurd s5 z⟩
          have eL : L_LR_read_23 wD (m9 + 1) 0 (w 5 (w 0 14).toNat + 1) v1 = (-1, v1) := by
            simp only [L_LR_read_23]
            rw [if_pos trivial, if_pos ee]
          have pL : PL_LR_read_23 wD (m9 + 1) 0 (w 5 (w 0 14).toNat + 1) v1 := by
            simp only [PL_LR_read_23]
            exact ⟨by decide, fun _ => ⟨by omega, by omega⟩, fun z => absurd trivial z⟩
          rw [eA, eL]
          refine ⟨c1, ⟨by omega, fun _ => ⟨l1, by omega, fun z => absurd z em, fun _ => pA⟩, fun z => absurd s4 z⟩, ⟨by decide, fun z => absurd z n1, fun _ => ⟨by omega, fun z => absurd z n240, fun _ => ⟨c2, by omega, fun _ => trivial, fun _ => ⟨tp, pL⟩⟩⟩⟩, ⟨rfl, (show (-1 : Int) ≤ -1 ∧ (-1 : Int) ≤ 1000 by decide), q_fcT fc0 (q_fcf (q_mvf z2)), fun _ => ⟨q_Imv I1 (fr_uf rfl fr_rf) fr_rf, ?_, ?_⟩⟩⟩
          · dsimp only
            rw [z_up_other (by decide), g3]
            omega
          · dsimp only
            omega
        · have em0 : ¬ t_mc (F_T_at v1 (v1 37 2)) = -1 := by
            unfold t_mc
            rw [if_neg xe]
            omega
          have ee : ¬ v1 37 2 = v1 28 1 := fun z => xe (hat1.2.mpr (by omega))
          have eA : F_M_atEnd (z_up w1 0 3 (v1 37 2)) = (v1 37 2, F_M_bad (z_up w1 0 3 (v1 37 2))) := by
            unfold F_M_atEnd
            rw [if_pos s5, l4]
            dsimp only
            rw [if_neg em0, b2]
          have pA : P_M_atEnd (z_up w1 0 3 (v1 37 2)) := by
            unfold P_M_atEnd
            rw [l4]
            dsimp only
            exact ⟨by omega, fun _ => ⟨l3, by omega, fun _ => trivial, fun _ => b1⟩, fun z => absurd s5 z⟩
          have eL : L_LR_read_23 wD (m9 + 1) 0 (w 5 (w 0 14).toNat + 1) v1 = (v1 37 2, v1) := by
            simp only [L_LR_read_23]
            rw [if_pos trivial, if_neg ee]
          have pL : PL_LR_read_23 wD (m9 + 1) 0 (w 5 (w 0 14).toNat + 1) v1 := by
            simp only [PL_LR_read_23]
            exact ⟨by decide, fun _ => ⟨by omega, by omega⟩, fun z => absurd trivial z⟩
          rw [eA, eL]
          have hb : -1 ≤ v1 37 2 ∧ v1 37 2 ≤ 1000 := by omega
          refine ⟨c1, ⟨by omega, fun _ => ⟨l1, by omega, fun z => absurd z em, fun _ => pA⟩, fun z => absurd s4 z⟩, ⟨by decide, fun z => absurd z n1, fun _ => ⟨by omega, fun z => absurd z n240, fun _ => ⟨c2, by omega, fun _ => trivial, fun _ => ⟨tp, pL⟩⟩⟩⟩, ⟨rfl, hb, q_fcT fc0 (q_fc0 b3), fun z => ?_⟩⟩
          dsimp only at z
          omega
    · rw [if_pos y1]
      obtain ⟨f1, f2, f3⟩ := y2
      have s4 : ¬ F_M_clause w 0 4 = -1 := by omega
      obtain ⟨a1, a2⟩ := q_atF s4 (by omega)
      rw [if_neg s4, a2]
      refine ⟨c1, ⟨by omega, fun z => absurd z s4, fun _ => a1⟩, ⟨by decide, fun z => absurd z n1, fun _ => ⟨by omega, fun z => absurd z n240, fun _ => ⟨c2, by omega, fun _ => trivial, fun z => absurd y1 z⟩⟩⟩, ⟨f2, ?_, q_fcl f1 (by omega), fun z => absurd z s4⟩⟩
      dsimp only
      omega
