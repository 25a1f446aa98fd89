/-! the law's truths and conditions -/
theorem q_cMf {fM : z_Wd → z_Wd} {cd : Int → Int} {wd w : z_Wd} (m : Nat) (h : ¬ w 0 4 = -1) : q_cM fM cd wd (m + 1) w = w := by
  simp only [q_cM]
  rw [if_neg h]
theorem q_pMf {fM : z_Wd → z_Wd} {pM : z_Wd → Prop} {cd : Int → Int} {w : z_Wd} (m : Nat) (h : ¬ w 0 4 = -1) (r : -2147483648 ≤ w 0 4 ∧ w 0 4 < 2147483648) : q_pM fM pM cd (m + 1) w := by
  simp only [q_pM]
  exact ⟨r, fun z => absurd z h⟩
theorem q_F7 {n : Nat} {w : z_Wd} : F_MP (n + 1) 7 w = F_MP n 6 (F_MP n 5 (F_MP n 4 w)) := by rw [F_MP]
theorem q_P7 {n : Nat} {w : z_Wd} (h1 : P_MP n 4 w) (h2 : P_MP n 5 (F_MP n 4 w)) (h3 : P_MP n 6 (F_MP n 5 (F_MP n 4 w))) : P_MP (n + 1) 7 w := by
  rw [P_MP]
  exact ⟨h1, h2, h3⟩
set_option maxHeartbeats 1000000 in
theorem q_truthG {k n n' nd : Nat} {a B : Int} (hB : B < 519) (hu : q_R true nd B k (F_MP n 4) (P_MP n 4) (fun v => F_LR n' 5 v a 0) (fun v => P_LR n' 5 v a 0)) {w0 v0 : z_Wd} (hL : 0 ≤ w0 0 14 ∧ w0 0 14 < 5) (ha : 0 ≤ w0 4 (w0 0 14).toNat) (hk : 0 ≤ v0 38 2) (hv : 0 ≤ v0 37 2) {v w1 : z_Wd} {s : Int} (hp : P_LR n' 5 v a s) (hO : q_O true (nd + 1) (B + 1) k w0 v0 w1 (F_LR n' 5 v a s)) : P_MP (n + 1) 5 w1 ∧ P_LR (n' + 1) 4 v a s ∧ q_O true (nd + 1) (B + 1) k w0 v0 (F_MP (n + 1) 5 w1) (F_LR (n' + 1) 4 v a s) := by
  rw [F_MP, P_MP, F_LR, P_LR, q_DA, q_LA]
  rcases hO with ⟨y1, ⟨n9, y2⟩, y3⟩ | ⟨y1, y2⟩
  · have yo : ¬ (F_LR n' 5 v a s).1 = 0 := by omega
    have g1 := y2.2.1
    have g2 := y2.2.2.2.2.1
    rw [if_neg yo]
    obtain ⟨i1, i2, i3⟩ := q_chain (nd := nd + 1) (wd := w1) hu q_cdA (Nat.le_refl _) hB hL ha hk 240 300 _ _ _ y2 y3 (by omega) (by decide)
    exact ⟨q_PA 300 _ i1, ⟨hp, by omega, fun z => absurd z yo, fun _ => ⟨q_PDA i2, trivial⟩⟩, i3⟩
  · have e4 := y2.2.1
    have rr := y2.2.2.1
    have s4 : ¬ w1 0 4 = -1 := by omega
    have e1 : q_cM (F_MP n 4) q_cA w1 300 w1 = w1 := q_cMf 299 s4
    have e2 : q_pM (F_MP n 4) (P_MP n 4) q_cA 300 w1 := q_pMf 299 s4 (by omega)
    rw [if_pos y1, e1]
    exact ⟨q_PA _ _ e2, ⟨hp, by omega, fun _ => trivial, fun z => absurd y1 z⟩, Or.inr ⟨rfl, y2⟩⟩
set_option maxHeartbeats 1000000 in
theorem q_condG {k n n' nd : Nat} {a B : Int} (hB : B < 519) (hu : q_R true nd B k (fun x => F_MP n 5 (F_MP n 4 x)) (fun x => P_MP n 4 x ∧ P_MP n 5 (F_MP n 4 x)) (fun v => F_LR n' 4 v a 0) (fun v => P_LR n' 4 v a 0)) {w0 v0 : z_Wd} (hL : 0 ≤ w0 0 14 ∧ w0 0 14 < 5) (ha : 0 ≤ w0 4 (w0 0 14).toNat) (hk : 0 ≤ v0 38 2) (hv : 0 ≤ v0 37 2) {v w1 : z_Wd} {s : Int} (hp : P_LR n' 4 v a s) (hO : q_O true (nd + 1) (B + 1) k w0 v0 w1 (F_LR n' 4 v a s)) : P_MP (n + 1) 6 w1 ∧ P_LR (n' + 1) 3 v a s ∧ q_O true (nd + 1) (B + 1) k w0 v0 (F_MP (n + 1) 6 w1) (F_LR (n' + 1) 3 v a s) := by
  rw [F_MP, P_MP, F_LR, P_LR, q_DO, q_LO]
  rcases hO with ⟨y1, ⟨n9, y2⟩, y3⟩ | ⟨y1, y2⟩
  · have yo : ¬ (F_LR n' 4 v a s).1 = 0 := by omega
    have g1 := y2.2.1
    have g2 := y2.2.2.2.2.1
    rw [if_neg yo]
    obtain ⟨i1, i2, i3⟩ := q_chain (nd := nd + 1) (wd := w1) hu q_cdO (Nat.le_refl _) hB hL ha hk 240 300 _ _ _ y2 y3 (by omega) (by decide)
    exact ⟨q_PO 300 _ i1, ⟨hp, by omega, fun z => absurd z yo, fun _ => ⟨q_PDO i2, trivial⟩⟩, i3⟩
  · have e4 := y2.2.1
    have rr := y2.2.2.1
    have s4 : ¬ w1 0 4 = -1 := by omega
    have e1 : q_cM (fun x => F_MP n 5 (F_MP n 4 x)) q_cO w1 300 w1 = w1 := q_cMf 299 s4
    have e2 : q_pM (fun x => F_MP n 5 (F_MP n 4 x)) (fun x => P_MP n 4 x ∧ P_MP n 5 (F_MP n 4 x)) q_cO 300 w1 := q_pMf 299 s4 (by omega)
    rw [if_pos y1, e1]
    exact ⟨q_PO _ _ e2, ⟨hp, by omega, fun _ => trivial, fun z => absurd y1 z⟩, Or.inr ⟨rfl, y2⟩⟩
theorem q_On {b : Bool} {nd nd' : Nat} {B B' : Int} {k : Nat} {w v w' : z_Wd} {r : Int × z_Wd} (h : q_O b nd B k w v w' r) (hn : nd ≤ nd') (hB : B ≤ B') : q_O b nd' B' k w v w' r := by
  rcases h with ⟨h1, ⟨n, h2⟩, h3⟩ | ⟨h1, h2⟩
  · exact Or.inl ⟨h1, ⟨n, q_Gn h2 hn⟩, h3⟩
  · exact Or.inr ⟨h1, q_FB h2 hB⟩
/-- a truth, from the units -/
theorem q_truth {k n n1 n' nd : Nat} {a B : Int} (hB : B < 519) (hu : q_R true nd B k (F_MP n 4) (P_MP n 4) (fun v => F_LR n' 5 v a 0) (fun v => P_LR n' 5 v a 0)) (hu1 : q_R true nd B k (F_MP n1 4) (P_MP n1 4) (fun v => F_LR n' 5 v a 0) (fun v => P_LR n' 5 v a 0)) : q_R true (nd + 1) (B + 1) k (fun x => F_MP (n + 1) 5 (F_MP n1 4 x)) (fun x => P_MP n1 4 x ∧ P_MP (n + 1) 5 (F_MP n1 4 x)) (fun v => F_LR (n' + 1) 4 v a 0) (fun v => P_LR (n' + 1) 4 v a 0) := by
  intro w v hS
  obtain ⟨ht, hq, hat, hp⟩ := q_Sat hS
  obtain ⟨h1, h2, h3, h4, h5, h6, h7, h8⟩ := id hS
  obtain ⟨a1, a2, a3⟩ := hu1 w v hS
  obtain ⟨b1, b2, b3⟩ := q_truthG hB hu h6 h7.1 (by omega) (by omega) a2 (q_On a3 (by omega) (by omega))
  exact ⟨⟨a1, b1⟩, b2, b3⟩
/-- a condition, from the units -/
theorem q_conds {k : Nat} (hk : k ≤ 6) (hu : ∀ n n', 4 * k + 6 ≤ n → 4 * k + 6 ≤ n' → q_R true (4 * k + 4) (q_B k + 4) k (F_MP n 4) (P_MP n 4) (fun v => F_LR n' 5 v (6 - (k : Int)) 0) (fun v => P_LR n' 5 v (6 - (k : Int)) 0)) (n n' : Nat) (hn : 4 * k + 9 ≤ n) (hn' : 4 * k + 8 ≤ n') : q_R true (4 * k + 6) (q_B k + 6) k (F_MP n 7) (P_MP n 7) (fun v => F_LR n' 3 v (6 - (k : Int)) 0) (fun v => P_LR n' 3 v (6 - (k : Int)) 0) := by
  have hB : 241 ≤ q_B k ∧ q_B k ≤ 289 := by unfold q_B; omega
  obtain ⟨m, em⟩ : ∃ m, n = m + 1 + 1 + 1 := ⟨n - 3, by omega⟩
  obtain ⟨m', em'⟩ : ∃ m, n' = m + 1 + 1 := ⟨n' - 2, by omega⟩
  subst em em'
  intro w v hS
  obtain ⟨ht, hq, hat, hp⟩ := q_Sat hS
  obtain ⟨h1, h2, h3, h4, h5, h6, h7, h8⟩ := id hS
  obtain ⟨a1, a2, a3⟩ := q_truth (by omega) (hu (m + 1) m' (by omega) (by omega)) (hu (m + 1 + 1) m' (by omega) (by omega)) w v hS
  dsimp only at a1 a2 a3 ⊢
  rw [q_F7]
  obtain ⟨b1, b2, b3⟩ := q_condG (by omega) (q_truth (by omega) (hu m m' (by omega) (by omega)) (hu (m + 1) m' (by omega) (by omega))) h6 h7.1 (by omega) (by omega) a2 (q_On a3 (Nat.le_succ _) (by omega))
  exact ⟨q_P7 a1.1 a1.2 b1, b2, q_On b3 (by omega) (by omega)⟩
/-- the units, whatever is nested -/
theorem q_units : ∀ (k : Nat), k ≤ 6 → ∀ (n n' : Nat), 4 * k + 6 ≤ n → 4 * k + 6 ≤ n' → q_R true (4 * k + 4) (q_B k + 4) k (F_MP n 4) (P_MP n 4) (fun v => F_LR n' 5 v (6 - (k : Int)) 0) (fun v => P_LR n' 5 v (6 - (k : Int)) 0) := by
  intro k
  induction k with
  | zero =>
    intro hk n n' hn hn'
    obtain ⟨m, em⟩ : ∃ m, n = m + 1 + 1 := ⟨n - 2, by omega⟩
    obtain ⟨m', em'⟩ : ∃ m, n' = m + 1 + 1 := ⟨n' - 2, by omega⟩
    subst em em'
    exact q_unit (by omega) (by omega) (by omega) (fun j hj => by omega) (fun j hj => by omega)
  | succ k ih =>
    intro hk n n' hn hn'
    obtain ⟨m, em⟩ : ∃ m, n = m + 1 + 1 := ⟨n - 2, by omega⟩
    obtain ⟨m', em'⟩ : ∃ m, n' = m + 1 + 1 := ⟨n' - 2, by omega⟩
    subst em em'
    refine q_unit (by omega) (by omega) (by omega) (fun j hj => ?_) (fun j hj => ?_)
    · have ej : j = k := by omega
      subst ej
      exact ih (by omega) _ _ (by omega) (by omega)
    · have ej : j = k := by omega
      subst ej
      exact q_conds (by omega) (ih (by omega)) _ _ (by omega) (by omega)
