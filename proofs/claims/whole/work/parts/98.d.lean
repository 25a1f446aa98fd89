/-! reading: a whole ministry -/
theorem t_mc59 {x : Int} : (t_mc x = 59 ↔ x = 59) ∧ (t_mc x = -1 ↔ x = 0 ∨ x = -1) := by
  unfold t_mc
  split <;> omega
theorem t_lk {C u : z_Wd} {p : Int} (h : r_ta C u) (e : C 0 3 = p) (hp : 0 ≤ p ∧ p ≤ u 28 1) (h32 : ¬ F_T_at u p = 32) : P_M_look C ∧ F_M_look C = (t_mc (F_T_at u p), C) := by
  have hl := h.2.1
  obtain ⟨a, b⟩ := t_look h (by omega)
  rw [e, t_bbno hp.1 h32, z_self e.symm] at b
  exact ⟨a, b⟩
theorem t_T1 {C u : z_Wd} {p : Int} (h : r_ta C u) (h4 : C 0 4 = -1) (e : C 0 3 = p) (hp : 0 ≤ p ∧ p ≤ u 28 1) (h32 : ¬ F_T_at u p = 32) : z_rmTP C ∧ z_rmT C = if F_T_at u p = 59 then (1, z_up C 0 3 (p + 1)) else (0, C) := by
  obtain ⟨a, b⟩ := t_lk h e hp h32
  have r := t_mcr (t_atr (t_ta h) hp.1).1
  unfold z_rmTP z_rmT
  rw [if_pos h4, b]
  dsimp only
  rw [e, z_self e.symm]
  refine ⟨⟨by omega, fun _ => ⟨a, by omega⟩⟩, ?_⟩
  by_cases c : F_T_at u p = 59
  · rw [if_pos c, if_pos (t_mc59.1.mpr c)]
  · rw [if_neg c, if_neg (fun z => c (t_mc59.1.mp z))]
theorem t_T2 {C : z_Wd} (h4 : 0 ≤ C 0 4 ∧ C 0 4 ≤ 1000) : z_rmTP C ∧ z_rmT C = (0, C) ∧ z_rmEP C ∧ z_rmE C = (C 0 4, C) := by
  unfold z_rmTP z_rmT z_rmEP z_rmE
  rw [if_neg (by omega), if_neg (by omega), z_self rfl]
  exact ⟨⟨by omega, fun z => by omega⟩, rfl, ⟨by omega, fun z => by omega⟩, rfl⟩
theorem t_bad2 {C : z_Wd} {p : Int} (h4 : C 0 4 = -1) (e : C 0 3 = p) : F_M_bad C = z_up C 0 4 p ∧ P_M_bad C ∧ F_M_bad C 0 4 = p := by
  obtain ⟨a, b⟩ := t_bad h4
  rw [a, e, z_up_at]
  exact ⟨rfl, b, rfl⟩
/-- the end where something else stands -/
theorem t_E1 {C u : z_Wd} {p : Int} (h : r_ta C u) (h4 : C 0 4 = -1) (e : C 0 3 = p) (hp : 0 ≤ p ∧ p ≤ u 28 1) (h32 : ¬ F_T_at u p = 32) (hw : P_M_isWhole C ∧ (F_M_isWhole C = 0 ∨ F_M_isWhole C = 1)) : z_rmEP C ∧ z_rmE C = if F_T_at u p = 0 then (if F_M_isWhole C = 0 then (p, z_up C 0 4 p) else (-1, C)) else (p, z_up C 0 4 p) := by
  obtain ⟨a, b⟩ := t_lk h e hp h32
  have r0 := (t_atr (t_ta h) hp.1).1
  have r := t_mcr r0
  obtain ⟨b1, b2, b3⟩ := t_bad2 h4 e
  unfold z_rmEP z_rmE
  rw [if_pos h4, b]
  dsimp only
  rw [b3, b1, h4]
  refine ⟨⟨by omega, fun _ => ⟨a, by omega, hw.1, by omega, b2⟩⟩, ?_⟩
  by_cases c : F_T_at u p = 0
  · rw [if_pos c, if_pos (t_mc59.2.mpr (Or.inl c))]
  · rw [if_neg c, if_neg (fun z => by have := t_mc59.2.mp z; omega)]
def t_res (a b : Int × z_Wd) : Prop := a.1 = b.1 ∧ (-1 ≤ a.1 ∧ a.1 ≤ 1000) ∧ r_rd b.2 a.2 ∧ (a.1 = -1 → ∃ l, t_D l b.2 a.2 ∧ t_whole b.2)
theorem t_rdc {w v : z_Wd} (h : r_rd w v) {p : Int} : r_rd (z_up w 0 4 p) v := by
  unfold r_rd
  rw [z_up_other (by decide)]
  exact h
theorem t_loop {u0 : z_Wd} : ∀ (t n n' : Nat) (l1 u2 : Int) (w v : z_Wd), t_S l1 w v → v 36 0 + v 36 1 + v 36 2 + v 36 3 + (t : Int) = 18 → t + 2 ≤ n → t + 2 ≤ n' → (0 ≤ u2 ∧ u2 + (t : Int) ≤ 200) → PL_YR_read_23 u0 n 1 u2 v ∧ z_rmLP n' w l1 1 ∧ t_res (L_YR_read_23 u0 n 1 u2 v) (z_rmL n' w l1 1) := by
  intro t
  induction t using Nat.strongRecOn with
  | ind t ih =>
    intro n n' l1 u2 w v hS hs hn hn' hu
    obtain ⟨n, rfl⟩ : ∃ m, n = m + 1 := ⟨n - 1, by omega⟩
    obtain ⟨n', rfl⟩ : ∃ m, n' = m + 1 := ⟨n' - 1, by omega⟩
    obtain ⟨h1, h2, h3, h4, h5⟩ := id hS
    have ht := t_ta h1
    have hl := ht.1
    obtain ⟨lk1, lk2⟩ := t_look h1 (by omega)
    rw [← h4] at lk2
    obtain ⟨q1, q2, q3, q4⟩ := t_clause hS
    have br := t_bbr (v := v) h3.1
    rw [← h4] at br
    have hat := (t_atr ht (p := v 33 2) (by omega)).1
    have hmc := t_mcr hat
    have dl := h5.1
    have cn := t_cnt h5
    simp only [PL_YR_read_23, L_YR_read_23, z_rmLP, z_rmL]
    rw [if_neg n10, if_neg (show ¬ u2 ≥ 240 by omega), if_neg n10, if_pos h2, lk2]
    dsimp only
    -- what is asked ahead of a turn
    have pre : ∀ (X Y : Prop), X → Y → z_rmTP (z_rmC (z_up w 0 3 (v 33 2)) (t_mc (F_T_at v (v 33 2))) l1).2 → z_rmLP n' (z_rmT (z_rmC (z_up w 0 3 (v 33 2)) (t_mc (F_T_at v (v 33 2))) l1).2).2 (z_rmC (z_up w 0 3 (v 33 2)) (t_mc (F_T_at v (v 33 2))) l1).1 (z_rmT (z_rmC (z_up w 0 3 (v 33 2)) (t_mc (F_T_at v (v 33 2))) l1).2).1 → (-2147483648 ≤ (1 : Int) ∧ (1 : Int) < 2147483648) ∧ (-2147483648 ≤ w 0 4 ∧ w 0 4 < 2147483648) ∧ ((1 : Int) = 0 → z_rmEP w) ∧ (¬ (1 : Int) = 0 → (¬ w 0 4 = -1 → z_rmEP w) ∧ (w 0 4 = -1 → P_M_look w ∧ ((-2147483648 ≤ z_up w 0 3 (v 33 2) 0 21 ∧ z_up w 0 3 (v 33 2) 0 21 < 2147483648) ∧ (-2147483648 ≤ z_up w 0 3 (v 33 2) 0 22 ∧ z_up w 0 3 (v 33 2) 0 22 < 2147483648) ∧ (-2147483648 ≤ z_up w 0 3 (v 33 2) 0 23 ∧ z_up w 0 3 (v 33 2) 0 23 < 2147483648)) ∧ z_rmCP (z_up w 0 3 (v 33 2)) (t_mc (F_T_at v (v 33 2))) l1 ∧ z_rmLP n' (z_rmT (z_rmC (z_up w 0 3 (v 33 2)) (t_mc (F_T_at v (v 33 2))) l1).2).2 (z_rmC (z_up w 0 3 (v 33 2)) (t_mc (F_T_at v (v 33 2))) l1).1 (z_rmT (z_rmC (z_up w 0 3 (v 33 2)) (t_mc (F_T_at v (v 33 2))) l1).2).1)) := fun X Y _ _ a b => by
      rw [z_up_ne (show (21 : Nat) ≠ 3 by decide), z_up_ne (show (22 : Nat) ≠ 3 by decide), z_up_ne (show (23 : Nat) ≠ 3 by decide)]
      exact ⟨rg1, by omega, fun z => absurd z n10, fun _ => ⟨fun z => absurd h2 z, fun _ => ⟨lk1, ⟨by omega, by omega, by omega⟩, ⟨by omega, by omega, q2, q3, a⟩, b⟩⟩⟩
    generalize hC : z_rmC (z_up w 0 3 (v 33 2)) (t_mc (F_T_at v (v 33 2))) l1 = C at *
    generalize hr : F_YR_readClause v = r at *
    have pre := pre True True trivial trivial
    obtain ⟨n1, rfl⟩ : ∃ m, n' = m + 1 := ⟨n' - 1, by omega⟩
    obtain ⟨n2, rfl⟩ : ∃ m, n = m + 1 := ⟨n - 1, by omega⟩
    rcases q4 with ⟨g1, g2, g3, g4, g5, g6, g7, g8⟩ | ⟨g1, g2, g3, g4⟩
    · -- the clause is well
      have ht2 := t_ta g3
      have hl2 := ht2.1
      have at2 := t_atr ht2 (p := r.2 33 2) g5.1
      obtain ⟨T1, T2⟩ := t_T1 g3 g2 g4 g5 g6
      have hb2 := g7.2.1
      obtain ⟨a0, a1, a2, a3, -⟩ := s_01
      have b0 := (hb2 0 (by decide)).2
      have b1 := (hb2 1 (by decide)).2
      have b2 := (hb2 2 (by decide)).2
      have b3 := (hb2 3 (by decide)).2
      rw [a0] at b0
      rw [a1] at b1
      rw [a2] at b2
      rw [a3] at b3
      have pat2 := t_pat ht2 (p := r.2 33 2) (by omega)
      rw [g1, if_neg n10, T2]
      rw [T2] at pre
      by_cases c : F_T_at r.2 (r.2 33 2) = 59
      · -- one more
        rw [if_pos c] at pre
        rw [if_pos c, if_pos c]
        dsimp only at pre ⊢
        have lt : r.2 33 2 < r.2 28 1 := by
          have := at2.2
          omega
        have s28 : F_YR_step r.2 28 = r.2 28 := by
          unfold F_YR_step
          exact z_up_other (by decide)
        have s29 : F_YR_step r.2 29 = r.2 29 := by
          unfold F_YR_step
          exact z_up_other (by decide)
        have s36 : F_YR_step r.2 36 = r.2 36 := by
          unfold F_YR_step
          exact z_up_other (by decide)
        have s35 : F_YR_step r.2 35 = r.2 35 := by
          unfold F_YR_step
          exact z_up_other (by decide)
        have s33 : F_YR_step r.2 33 2 = F_T_behindBlanks r.2 (r.2 33 2 + 1) := by
          unfold F_YR_step
          exact z_up_at
        have D' : t_D C.1 (z_up C.2 0 3 (r.2 33 2 + 1)) (F_YR_step r.2) := by
          obtain ⟨x1, x2, x3, x4⟩ := g7
          refine ⟨x1, fun k hk => ?_, fun k m i hk hm hi => ?_, ?_⟩
          · rw [s36]
            have := x2 k hk
            unfold t_cn at this ⊢
            by_cases ck : k = 0
            · rw [if_pos ck] at this ⊢
              exact this
            · rw [if_neg ck] at this ⊢
              rw [z_up_ne (by omega)]
              exact this
          · rw [s36] at hm
            rw [z_up_other (by omega), s35]
            exact x3 k m i hk hm hi
          · unfold r_rd
            rw [z_up_other (by decide), s35]
            exact x4
        have S' : t_S C.1 (z_up C.2 0 3 (r.2 33 2 + 1)) (F_YR_step r.2) := by
          refine ⟨t_tac g3 (z_up_ne (by decide)) (z_up_other (by decide)) (by rw [s28]) s29, by rw [z_up_ne (by decide)]; exact g2, by rw [z_up_at, s28]; omega, ?_, D'⟩
          rw [s33, z_up_at, x_bb (v := r.2) (by rw [s28]) s29 (by omega)]
        obtain ⟨i1, i2, i3⟩ := ih (t - 1) (by omega) (n2 + 1) (n1 + 1) C.1 (u2 + 1) _ _ S' (by rw [s36]; omega) (by omega) (by omega) (by omega)
        refine ⟨⟨rg1, fun z => absurd z n10, fun _ => ⟨by omega, fun z => by omega, fun _ => ⟨q1, by omega, fun z => by omega, fun _ => ⟨pat2, by omega, fun _ => ⟨t_pbb ht2 (by omega), i1⟩, fun z => absurd c z⟩⟩⟩⟩, pre T1 i2, i3⟩
      · -- the last one
        rw [if_neg c] at pre
        rw [if_neg c, if_neg c]
        dsimp only at pre ⊢
        have cn2 := t_cnt g7
        obtain ⟨w1, w2, w3⟩ := t_whM (w := C.2) (by omega) (by omega) (by omega) g7.2.2.2.1 (t_rg14 g7)
        obtain ⟨v1, v2, v3⟩ := t_whD g7
        obtain ⟨E1, E2⟩ := t_E1 g3 g2 g4 g5 g6 ⟨w1, w2⟩
        have eq : L_YR_read_23 u0 (n2 + 1) 0 (u2 + 1) r.2 = if r.2 33 2 = r.2 28 1 then (if F_Y_isWhole_34 r.2 = 0 then (r.2 33 2, r.2) else ((-1), r.2)) else (r.2 33 2, r.2) := by
          simp only [L_YR_read_23]
          rw [if_pos trivial]
        have pq : PL_YR_read_23 u0 (n2 + 1) 0 (u2 + 1) r.2 := by
          simp only [PL_YR_read_23]
          exact ⟨rg0, fun _ => ⟨by omega, by omega, fun _ => v1, fun _ => trivial⟩, fun z => absurd trivial z⟩
        have eM : z_rmL (n1 + 1) C.2 C.1 0 = z_rmE C.2 := by
          simp only [z_rmL]
          rw [if_pos trivial]
        have pM : z_rmLP (n1 + 1) C.2 C.1 0 := by
          simp only [z_rmLP]
          exact ⟨rg0, by omega, fun _ => E1, fun z => absurd trivial z⟩
        refine ⟨⟨rg1, fun z => absurd z n10, fun _ => ⟨by omega, fun z => by omega, fun _ => ⟨q1, by omega, fun z => by omega, fun _ => ⟨pat2, by omega, fun z => absurd z c, fun _ => pq⟩⟩⟩⟩, pre T1 pM, ?_⟩
        rw [eq, eM, E2]
        have x0 := at2.2
        unfold t_res
        by_cases y : r.2 33 2 = r.2 28 1
        · rw [if_pos y, if_pos (x0.mpr (by omega))]
          by_cases y2 : F_Y_isWhole_34 r.2 = 0
          · have y3 : F_M_isWhole C.2 = 0 := by
              rcases w2 with z | z
              · exact z
              · have := v3.mpr (w3.mp z)
                omega
            rw [if_pos y2, if_pos y3]
            exact ⟨rfl, by dsimp only; omega, t_rdc g7.2.2.2, fun z => by dsimp only at z; omega⟩
          · have y3 : F_M_isWhole C.2 = 1 := w3.mpr (v3.mp (by omega))
            rw [if_neg y2, if_neg (by omega)]
            exact ⟨rfl, by dsimp only; omega, g7.2.2.2, fun _ => ⟨C.1, g7, w3.mp y3⟩⟩
        · rw [if_neg y, if_neg (fun z => by have := x0.mp z; omega)]
          exact ⟨rfl, by dsimp only; omega, t_rdc g7.2.2.2, fun z => by dsimp only at z; omega⟩
    · -- a fault
      rw [g1, if_pos rfl]
      have eM : ∀ X, z_rmL (n1 + 1) X C.1 0 = z_rmE X := fun X => by
        simp only [z_rmL]
        rw [if_pos trivial]
      have pM : ∀ X, -1 ≤ X 0 4 ∧ X 0 4 ≤ 1000 → z_rmEP X → z_rmLP (n1 + 1) X C.1 0 := fun X hX E1 => by
        simp only [z_rmLP]
        exact ⟨rg0, by omega, fun _ => E1, fun z => absurd trivial z⟩
      have pD : (-2147483648 ≤ (1 : Int) ∧ (1 : Int) < 2147483648) ∧ True := ⟨rg1, trivial⟩
      rcases g4 with ⟨y1, y2, y3⟩ | ⟨y1, y2, y3, y4, y5, y6, y7, y8⟩
      · obtain ⟨T1, T2, T3, T4⟩ := t_T2 (C := C.2) (by omega)
        rw [T2] at pre ⊢
        dsimp only at pre ⊢
        rw [eM, T4]
        refine ⟨⟨rg1, fun z => absurd z n10, fun _ => ⟨by omega, fun z => by omega, fun _ => ⟨q1, by omega, fun _ => trivial, fun z => absurd rfl z⟩⟩⟩, pre T1 (pM _ (by omega) T3), ?_⟩
        exact ⟨y1.symm, by dsimp only; omega, g3, fun z => by dsimp only at z; omega⟩
      · have ht2 := t_ta g2
        have hl2 := ht2.1
        obtain ⟨T1, T2⟩ := t_T1 g2 y1 y2 y3 y6
        rw [if_neg y4] at T2
        obtain ⟨E1, E2⟩ := t_E1 g2 y1 y2 y3 y6 ⟨y7, y8⟩
        rw [if_neg y5] at E2
        rw [T2] at pre ⊢
        dsimp only at pre ⊢
        rw [eM, E2]
        refine ⟨⟨rg1, fun z => absurd z n10, fun _ => ⟨by omega, fun z => by omega, fun _ => ⟨q1, by omega, fun _ => trivial, fun z => absurd rfl z⟩⟩⟩, pre T1 (pM _ (by omega) E1), ?_⟩
        exact ⟨rfl, by dsimp only; omega, t_rdc g3, fun z => by dsimp only at z; omega⟩
