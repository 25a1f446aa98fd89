/-! the law's pieces -/
theorem l_runA {code : Nat → Int} {a n : Nat} {s s' : List Bool} (h : l_run code a n s = some s') : ∀ m, l_run code a (n + m) s = l_run code (a + n) m s'
  | 0 => h
  | m + 1 => by
    show l_run code a (n + m + 1) s = l_run code (a + n) (m + 1) s'
    simp only [l_run]
    rw [l_runA h m, Nat.add_assoc]
theorem l_runC {code code' : Nat → Int} {a : Nat} {s : List Bool} : ∀ n, (∀ i, i < n → code' (a + i) = code (a + i)) → l_run code' a n s = l_run code a n s
  | 0, _ => rfl
  | n + 1, h => by
    simp only [l_run]
    rw [l_runC n (fun i hi => h i (by omega)), h n (by omega)]
theorem l_sqC {code code' val val' row row' : Nat → Int} {a k n : Nat} (h : l_sq code val row a k n) (h1 : ∀ i, i < n → code' (a + i) = code (a + i)) (h2 : ∀ i, i < n → val' (a + i) = val (a + i)) (h3 : ∀ i, i < n → row' (k + i) = row (k + i)) : l_sq code' val' row' a k n := fun i hi => by
  rw [h1 i hi, h2 i hi, h3 i hi]
  exact h i hi
theorem l_sqA {code val row : Nat → Int} {a k n m : Nat} (h1 : l_sq code val row a k n) (h2 : l_sq code val row (a + n) (k + n) m) : l_sq code val row a k (n + m) := fun i hi => by
  by_cases c : i < n
  · exact h1 i c
  · have := h2 (i - n) (by omega)
    rw [show a + n + (i - n) = a + i by omega, show k + n + (i - n) = k + i by omega] at this
    exact this
/-- where both readers of a law stand, k levels free -/
def q_S (k : Nat) (w v : z_Wd) : Prop := r_ta w v ∧ w 0 4 = -1 ∧ (0 ≤ w 0 3 ∧ w 0 3 ≤ v 28 1) ∧ v 37 2 = F_T_behindBlanks v (w 0 3) ∧ w 0 5 = 6 - (k : Int) ∧ (0 ≤ w 0 14 ∧ w 0 14 < 5) ∧ (0 ≤ w 4 (w 0 14).toNat ∧ w 4 (w 0 14).toNat ≤ v 38 2) ∧ v 38 2 ≤ v 37 2
/-- what no piece touches -/
def q_fr (w v w' v' : z_Wd) : Prop := z_fr [2, 3, 4] [(0, 3), (0, 4), (0, 5)] w w' ∧ z_fr [39] [(37, 2), (38, 2)] v v' ∧ (∀ j, j ≠ (w 0 14).toNat → w' 4 j = w 4 j) ∧ ∀ j : Nat, (j : Int) < 520 * w 0 14 → w' 2 j = w 2 j ∧ w' 3 j = w 3 j
theorem q_frT {w v w1 v1 w2 v2 : z_Wd} (h1 : q_fr w v w1 v1) (h2 : q_fr w1 v1 w2 v2) : q_fr w v w2 v2 := by
  obtain ⟨a1, a2, a3, a4⟩ := h1
  obtain ⟨b1, b2, b3, b4⟩ := h2
  have e : w1 0 14 = w 0 14 := fr_f a1 0 14 rfl rfl
  rw [e] at b3 b4
  exact ⟨fr_tr a1 b1, fr_tr a2 b2, fun j hj => by rw [b3 j hj, a3 j hj], fun j hj => ⟨by rw [(b4 j hj).1, (a4 j hj).1], by rw [(b4 j hj).2, (a4 j hj).2]⟩⟩
theorem q_fr0 {w v : z_Wd} : q_fr w v w v := ⟨fr_rf, fr_rf, fun _ _ => rfl, fun _ _ => ⟨rfl, rfl⟩⟩
/-- a piece was read well: n cells more -/
def q_G (b : Bool) (nd : Nat) (w v w' v' : z_Wd) (n : Nat) : Prop := q_fr w v w' v' ∧ 1 ≤ n ∧ w' 4 (w 0 14).toNat = w 4 (w 0 14).toNat + (n : Int) ∧ v' 38 2 = v 38 2 + (n : Int) ∧ v 37 2 + (n : Int) ≤ v' 37 2 ∧ l_sq (fun i => w' 2 (520 * (w 0 14).toNat + i)) (fun i => w' 3 (520 * (w 0 14).toNat + i)) (v' 39) (w 4 (w 0 14).toNat).toNat (v 38 2).toNat n ∧ (∀ s : List Bool, s.length + nd ≤ 60 → l_run (fun i => w' 2 (520 * (w 0 14).toNat + i)) (w 4 (w 0 14).toNat).toNat n s = some (b :: s)) ∧ (∀ i : Nat, (i : Int) < w 4 (w 0 14).toNat → w' 2 (520 * (w 0 14).toNat + i) = w 2 (520 * (w 0 14).toNat + i) ∧ w' 3 (520 * (w 0 14).toNat + i) = w 3 (520 * (w 0 14).toNat + i)) ∧ ∀ i : Nat, (i : Int) < v 38 2 → v' 39 i = v 39 i
/-- or a fault was found -/
def q_F (B : Int) (w v w' v' : z_Wd) : Prop := q_fr w v w' v' ∧ w' 0 4 = v' 37 2 ∧ (0 ≤ v' 37 2 ∧ v' 37 2 ≤ 1000) ∧ (0 ≤ w' 4 (w 0 14).toNat ∧ w' 4 (w 0 14).toNat ≤ B)
