/-! reading: is it whole -/
def t_kn (w : z_Wd) (n : Nat) : Prop := ∀ i : Nat, i < n → w 13 (3 * i + 1) < w 0 22 ∧ w 13 (3 * i + 1) ≠ (i : Int)
def t_fi (w : z_Wd) (n : Nat) : Prop := ∀ i : Nat, i < n → w 14 (2 * i) < w 0 22 ∧ w 14 (2 * i + 1) < w 0 22 ∧ w 14 (2 * i) ≠ w 14 (2 * i + 1)
theorem t_m23 {w : z_Wd} : ∀ n, A_M_isWhole_23 w n = 0
  | 0 => rfl
  | n + 1 => by
    simp only [A_M_isWhole_23]
    rw [if_pos (t_m23 n)]
theorem t_m23b {w : z_Wd} : ∀ n, A_M_isWhole_23x2 w n = 0
  | 0 => rfl
  | n + 1 => by
    simp only [A_M_isWhole_23x2]
    rw [if_pos (t_m23b n)]
theorem t_m23c {w : z_Wd} : ∀ n, (A_M_isWhole_23x3 w n = 0 ∧ ¬ t_kn w n) ∨ (A_M_isWhole_23x3 w n = 1 ∧ t_kn w n)
  | 0 => Or.inr ⟨rfl, fun i hi => absurd hi (Nat.not_lt_zero i)⟩
  | n + 1 => by
    simp only [A_M_isWhole_23x3]
    rw [show (3 * (n : Int) + 1).toNat = 3 * n + 1 by omega]
    rcases t_m23c (w := w) n with ⟨h1, h2⟩ | ⟨h1, h2⟩
    · rw [if_pos h1]
      exact Or.inl ⟨rfl, fun z => h2 (fun i hi => z i (by omega))⟩
    · rw [h1, if_neg n10]
      by_cases c1 : w 13 (3 * n + 1) ≥ w 0 22
      · rw [if_pos c1]
        exact Or.inl ⟨rfl, fun z => by have := z n (by omega); omega⟩
      · rw [if_neg c1]
        by_cases c2 : w 13 (3 * n + 1) = (n : Int)
        · rw [if_pos c2]
          exact Or.inl ⟨rfl, fun z => (z n (by omega)).2 c2⟩
        · rw [if_neg c2]
          refine Or.inr ⟨rfl, fun i hi => ?_⟩
          by_cases c : i = n
          · subst c
            exact ⟨by omega, c2⟩
          · exact h2 i (by omega)
theorem t_m73 {w : z_Wd} : ∀ n, A_M_isWhole_73 w 0 n = 0
  | 0 => rfl
  | n + 1 => by
    simp only [A_M_isWhole_73]
    rw [if_pos (t_m73 n)]
theorem t_m73b {w : z_Wd} : ∀ n, A_M_isWhole_73x2 w 0 n = 0
  | 0 => rfl
  | n + 1 => by
    simp only [A_M_isWhole_73x2]
    rw [if_pos (t_m73b n)]
theorem t_m73c {w : z_Wd} {s : Int} (hs : s = 0 ∨ s = 1) : ∀ n, (A_M_isWhole_73x3 w s n = 0 ∧ ¬ (s = 1 ∧ t_fi w n)) ∨ (A_M_isWhole_73x3 w s n = 1 ∧ s = 1 ∧ t_fi w n)
  | 0 => by
    rcases hs with rfl | rfl
    · exact Or.inl ⟨rfl, fun z => absurd z.1 (by decide)⟩
    · exact Or.inr ⟨rfl, rfl, fun i hi => absurd hi (Nat.not_lt_zero i)⟩
  | n + 1 => by
    simp only [A_M_isWhole_73x3]
    rw [show (2 * (n : Int) + 1).toNat = 2 * n + 1 by omega, show (2 * (n : Int)).toNat = 2 * n by omega]
    rcases t_m73c (w := w) hs n with ⟨h1, h2⟩ | ⟨h1, h2, h3⟩
    · rw [if_pos h1]
      exact Or.inl ⟨rfl, fun z => h2 ⟨z.1, fun i hi => z.2 i (by omega)⟩⟩
    · rw [h1, if_neg n10]
      by_cases c1 : w 14 (2 * n) ≥ w 0 22
      · rw [if_pos c1]
        exact Or.inl ⟨rfl, fun z => by have := (z.2 n (by omega)).1; omega⟩
      · rw [if_neg c1]
        by_cases c2 : w 14 (2 * n + 1) ≥ w 0 22
        · rw [if_pos c2]
          exact Or.inl ⟨rfl, fun z => by have := (z.2 n (by omega)).2.1; omega⟩
        · rw [if_neg c2]
          by_cases c3 : w 14 (2 * n) = w 14 (2 * n + 1)
          · rw [if_pos c3]
            exact Or.inl ⟨rfl, fun z => (z.2 n (by omega)).2.2 c3⟩
          · rw [if_neg c3]
            refine Or.inr ⟨rfl, h2, fun i hi => ?_⟩
            by_cases c : i = n
            · subst c
              exact ⟨by omega, by omega, c3⟩
            · exact h3 i (by omega)
def t_whole (w : z_Wd) : Prop := 0 < w 0 21 ∧ 1 < w 0 22 ∧ t_kn w (w 0 22).toNat ∧ t_fi w (w 0 23).toNat
theorem t_whM {w : z_Wd} (h1 : 0 ≤ w 0 21 ∧ w 0 21 ≤ 4) (h2 : 0 ≤ w 0 22 ∧ w 0 22 ≤ 7) (h3 : 0 ≤ w 0 23 ∧ w 0 23 ≤ 6) (r1 : ∀ i, i < 21 → 0 ≤ w 13 i ∧ w 13 i ≤ 99) (r2 : ∀ i : Nat, (i : Int) < 2 * w 0 23 → 0 ≤ w 14 i ∧ w 14 i ≤ 99) : P_M_isWhole w ∧ (F_M_isWhole w = 0 ∨ F_M_isWhole w = 1) ∧ (F_M_isWhole w = 1 ↔ t_whole w) := by
  have A : F_M_isWhole w = 0 ∧ ¬ t_whole w ∨ F_M_isWhole w = 1 ∧ t_whole w := by
    unfold F_M_isWhole
    by_cases c1 : w 0 21 ≤ 0
    · rw [if_pos c1, t_m23, t_m73]
      exact Or.inl ⟨rfl, fun z => by have := z.1; omega⟩
    · rw [if_neg c1]
      by_cases c2 : w 0 22 ≤ 1
      · rw [if_pos c2, t_m23b, t_m73b]
        exact Or.inl ⟨rfl, fun z => by have := z.2.1; omega⟩
      · rw [if_neg c2]
        rcases t_m23c (w := w) (w 0 22).toNat with ⟨a1, a2⟩ | ⟨a1, a2⟩
        · rcases t_m73c (w := w) (Or.inl a1) (w 0 23).toNat with ⟨b1, b2⟩ | ⟨b1, b2, b3⟩
          · exact Or.inl ⟨b1, fun z => a2 z.2.2.1⟩
          · omega
        · rcases t_m73c (w := w) (Or.inr a1) (w 0 23).toNat with ⟨b1, b2⟩ | ⟨b1, b2, b3⟩
          · exact Or.inl ⟨b1, fun z => b2 ⟨a1, z.2.2.2⟩⟩
          · exact Or.inr ⟨b1, by omega, by omega, a2, b3⟩
  refine ⟨?_, by omega, ⟨fun z => ?_, fun z => ?_⟩⟩
  · have q1 : ∀ i : Nat, i < (w 0 22).toNat → -2147483648 ≤ w 13 (3 * (i : Int) + 1).toNat ∧ w 13 (3 * (i : Int) + 1).toNat < 2147483648 := fun i hi => by
      have := r1 (3 * (i : Int) + 1).toNat (by omega)
      omega
    have q2 : ∀ i : Nat, i < (w 0 23).toNat → -2147483648 ≤ w 14 (2 * (i : Int)).toNat ∧ w 14 (2 * (i : Int)).toNat < 2147483648 := fun i hi => by
      have := r2 (2 * (i : Int)).toNat (by omega)
      omega
    have q3 : ∀ i : Nat, i < (w 0 23).toNat → -2147483648 ≤ w 14 (2 * (i : Int) + 1).toNat ∧ w 14 (2 * (i : Int) + 1).toNat < 2147483648 := fun i hi => by
      have := r2 (2 * (i : Int) + 1).toNat (by omega)
      omega
    unfold P_M_isWhole
    refine ⟨by omega, fun _ => ⟨fun i hi => ⟨by omega, by omega, by omega, by rw [t_m23]; omega, fun _ => trivial, fun _ => q1 i hi⟩, by omega, by omega, fun i hi => ⟨by omega, by omega, by rw [t_m23, t_m73]; omega, fun _ => trivial, fun _ => ⟨by omega, q2 i hi, fun _ => trivial, fun _ => ⟨by omega, q3 i hi⟩⟩⟩, by omega, by omega, by rw [t_m23, t_m73]; exact Or.inl rfl⟩, fun _ => ⟨by omega, fun _ => ⟨fun i hi => ⟨by omega, by omega, by rw [t_m23b]; omega, fun _ => trivial, fun _ => q1 i hi⟩, by omega, fun i hi => ⟨by omega, by omega, by rw [t_m23b, t_m73b]; omega, fun _ => trivial, fun _ => ⟨by omega, q2 i hi, fun _ => trivial, fun _ => ⟨by omega, q3 i hi⟩⟩⟩, by omega, by omega, by rw [t_m23b, t_m73b]; exact Or.inl rfl⟩, fun _ => ⟨fun i hi => ⟨by omega, by omega, ?_, fun _ => trivial, fun _ => q1 i hi⟩, by omega, fun i hi => ⟨by omega, by omega, ?_, fun _ => trivial, fun _ => ⟨by omega, q2 i hi, fun _ => trivial, fun _ => ⟨by omega, q3 i hi⟩⟩⟩, by omega, by omega, ?_⟩⟩⟩
    · rcases t_m23c (w := w) i with z | z <;> omega
    · have s : A_M_isWhole_23x3 w (w 0 22).toNat = 0 ∨ A_M_isWhole_23x3 w (w 0 22).toNat = 1 := by
        rcases t_m23c (w := w) (w 0 22).toNat with z | z <;> omega
      rcases t_m73c (w := w) s i with z | z <;> omega
    · have s : A_M_isWhole_23x3 w (w 0 22).toNat = 0 ∨ A_M_isWhole_23x3 w (w 0 22).toNat = 1 := by
        rcases t_m23c (w := w) (w 0 22).toNat with z | z <;> omega
      rcases t_m73c (w := w) s (w 0 23).toNat with z | z <;> omega
  · rcases A with y | y
    · omega
    · exact y.2
  · rcases A with y | y
    · exact absurd z y.2
    · exact y.1
