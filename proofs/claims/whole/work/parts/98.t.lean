/-! the law's terms and sums -/
theorem q_LT0 {w x : z_Wd} {fr : Nat → z_Wd → z_Wd} {pr : Nat → z_Wd → Prop} : L_M_term_21 w fr 300 (-1) x = x ∧ PL_M_term_21 w fr pr 300 (-1) x := by
  constructor
  · rw [show (300 : Nat) = 299 + 1 from rfl, L_M_term_21, if_neg (by decide), if_neg (by decide)]
  · rw [show (300 : Nat) = 299 + 1 from rfl, PL_M_term_21]
    exact ⟨by decide, fun z => absurd z (by decide), fun _ => ⟨fun z => absurd z (by decide), fun _ => trivial⟩⟩
theorem q_LU0 {w x : z_Wd} {fr : Nat → z_Wd → z_Wd} {pr : Nat → z_Wd → Prop} : L_M_sum_21 w fr 300 (-1) x = x ∧ PL_M_sum_21 w fr pr 300 (-1) x := by
  constructor
  · rw [show (300 : Nat) = 299 + 1 from rfl, L_M_sum_21, if_neg (by decide), if_neg (by decide)]
  · rw [show (300 : Nat) = 299 + 1 from rfl, PL_M_sum_21]
    exact ⟨by decide, fun z => absurd z (by decide), fun _ => ⟨fun z => absurd z (by decide), fun _ => trivial⟩⟩
set_option maxHeartbeats 1000000 in
theorem q_term {k n n' : Nat} {a : Int} {B : Int} {nd : Nat} (hB : B < 519) (ha : q_R false nd B k (F_MP n 0) (P_MP n 0) (fun v => F_LR n' 2 v a 0) (fun v => P_LR n' 2 v a 0)) : q_R false (nd + 1) (B + 1) k (F_MP (n + 1) 1) (P_MP (n + 1) 1) (fun v => F_LR (n' + 1) 1 v a 0) (fun v => P_LR (n' + 1) 1 v a 0) := by
  intro w v hS
  obtain ⟨a1, a2, a3⟩ := ha w v hS
  obtain ⟨h1, h2, h3, h4, h5, h6, h7, h8⟩ := id hS
  have hq := (q_Sat hS).2.1
  dsimp only at a2 a3 ⊢
  rw [F_MP, P_MP, F_LR, P_LR, q_DT]
  rcases a3 with ⟨y1, ⟨n9, y2⟩, y3⟩ | ⟨y1, y2⟩
  · have s4 : F_MP n 0 w 0 4 = -1 := y3.2.1
    have yo : ¬ (F_LR n' 2 v a 0).1 = 0 := by omega
    have g1 := y2.2.1
    have g2 := y2.2.2.2.2.1
    rw [if_pos s4, q_LT 300 _ s4, if_neg yo]
    obtain ⟨i1, i2, i3⟩ := q_chain (nd := nd + 1) (wd := w) ha q_cdT (Nat.le_refl _) hB h6 h7.1 (by omega) 240 300 _ _ _ (q_Gn y2 (by omega)) y3 (by omega) (by decide)
    exact ⟨⟨a1, by omega, fun _ => ⟨(q_Sl y3).1, q_PT 300 _ s4 i1⟩, fun z => absurd s4 z⟩, ⟨a2, by omega, fun z => absurd z yo, fun _ => ⟨q_PDT i2, trivial⟩⟩, i3⟩
  · have e4 := y2.2.1
    have rr := y2.2.2.1
    have s4 : ¬ F_MP n 0 w 0 4 = -1 := by omega
    rw [if_neg s4, if_pos y1, (q_LT0 (pr := P_MP n)).1]
    exact ⟨⟨a1, by omega, fun z => absurd z s4, fun _ => q_LT0.2⟩, ⟨a2, by omega, fun _ => trivial, fun z => absurd y1 z⟩, Or.inr ⟨rfl, q_FB y2 (by omega)⟩⟩
set_option maxHeartbeats 1000000 in
theorem q_sum {k n n' : Nat} {a : Int} {B : Int} {nd : Nat} (hB : B < 519) (ha : q_R false nd B k (F_MP n 1) (P_MP n 1) (fun v => F_LR n' 1 v a 0) (fun v => P_LR n' 1 v a 0)) : q_R false (nd + 1) (B + 1) k (F_MP (n + 1) 2) (P_MP (n + 1) 2) (fun v => F_LR (n' + 1) 0 v a 0) (fun v => P_LR (n' + 1) 0 v a 0) := by
  intro w v hS
  obtain ⟨a1, a2, a3⟩ := ha w v hS
  obtain ⟨h1, h2, h3, h4, h5, h6, h7, h8⟩ := id hS
  have hq := (q_Sat hS).2.1
  dsimp only at a2 a3 ⊢
  rw [F_MP, P_MP, F_LR, P_LR, q_DU]
  rcases a3 with ⟨y1, ⟨n9, y2⟩, y3⟩ | ⟨y1, y2⟩
  · have s4 : F_MP n 1 w 0 4 = -1 := y3.2.1
    have yo : ¬ (F_LR n' 1 v a 0).1 = 0 := by omega
    have g1 := y2.2.1
    have g2 := y2.2.2.2.2.1
    rw [if_pos s4, q_LU 300 _ s4, if_neg yo]
    obtain ⟨i1, i2, i3⟩ := q_chain (nd := nd + 1) (wd := w) ha q_cdU (Nat.le_refl _) hB h6 h7.1 (by omega) 240 300 _ _ _ (q_Gn y2 (by omega)) y3 (by omega) (by decide)
    exact ⟨⟨a1, by omega, fun _ => ⟨(q_Sl y3).1, q_PU 300 _ s4 i1⟩, fun z => absurd s4 z⟩, ⟨a2, by omega, fun z => absurd z yo, fun _ => ⟨q_PDU i2, trivial⟩⟩, i3⟩
  · have e4 := y2.2.1
    have rr := y2.2.2.1
    have s4 : ¬ F_MP n 1 w 0 4 = -1 := by omega
    rw [if_neg s4, if_pos y1, (q_LU0 (pr := P_MP n)).1]
    exact ⟨⟨a1, by omega, fun z => absurd z s4, fun _ => q_LU0.2⟩, ⟨a2, by omega, fun _ => trivial, fun z => absurd y1 z⟩, Or.inr ⟨rfl, q_FB y2 (by omega)⟩⟩
/-- a sum, whatever is nested -/
theorem q_sums : ∀ (k n n' : Nat), k ≤ 6 → 3 * k + 3 ≤ n → 3 * k + 3 ≤ n' → q_R false (2 * k + 3) (q_B k + 2) k (F_MP n 2) (P_MP n 2) (fun v => F_LR n' 0 v (6 - (k : Int)) 0) (fun v => P_LR n' 0 v (6 - (k : Int)) 0) := by
  intro k
  induction k with
  | zero =>
    intro n n' hk hn hn'
    obtain ⟨m, em⟩ : ∃ m, n = m + 1 + 1 + 1 := ⟨n - 3, by omega⟩
    obtain ⟨m', em'⟩ : ∃ m, n' = m + 1 + 1 + 1 := ⟨n' - 3, by omega⟩
    subst em em'
    have h := q_sum (by unfold q_B; omega) (q_term (by unfold q_B; omega) (q_atom (k := 0) (n := m) (n' := m') (fun j hj => by omega) (by omega)))
    rw [show q_B 0 + 1 + 1 = q_B 0 + 2 by omega] at h
    exact h
  | succ k ih =>
    intro n n' hk hn hn'
    obtain ⟨m, em⟩ : ∃ m, n = m + 1 + 1 + 1 := ⟨n - 3, by omega⟩
    obtain ⟨m', em'⟩ : ∃ m, n' = m + 1 + 1 + 1 := ⟨n' - 3, by omega⟩
    subst em em'
    have h := q_sum (by unfold q_B; omega) (q_term (by unfold q_B; omega) (q_atom (k := k + 1) (n := m) (n' := m') (fun j hj => by
      have ej : j = k := by omega
      subst ej
      exact ih m m' (by omega) (by omega) (by omega)) (by omega)))
    rw [show q_B (k + 1) + 1 + 1 = q_B (k + 1) + 2 by omega] at h
    exact h
