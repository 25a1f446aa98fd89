/-! sums, finds, counts, bits -/
theorem su_add {f g : Nat → Int} : ∀ n, zsum (fun i => f i + g i) n = zsum f n + zsum g n
  | 0 => rfl
  | n + 1 => by
    simp only [zsum]
    rw [su_add n]
    omega
theorem su_mul {f : Nat → Int} {c : Int} : ∀ n, zsum (fun i => f i * c) n = zsum f n * c
  | 0 => by simp [zsum]
  | n + 1 => by
    simp only [zsum]
    rw [su_mul n, Int.add_mul]
theorem su_none {f : Nat → Int} : ∀ n, (∀ i, i < n → f i = 0) → zsum f n = 0
  | 0, _ => rfl
  | n + 1, h => by
    simp only [zsum]
    rw [su_none n (fun i hi => h i (by omega)), h n (by omega)]
    rfl
theorem su_only {f : Nat → Int} {k : Nat} : ∀ n, k < n → (∀ i, i < n → i ≠ k → f i = 0) → zsum f n = f k
  | 0, hk, _ => absurd hk (Nat.not_lt_zero _)
  | n + 1, hk, h => by
    simp only [zsum]
    by_cases e : k = n
    · subst e
      rw [su_none k (fun i hi => h i (by omega) (by omega))]
      omega
    · rw [su_only n (by omega) (fun i hi hik => h i (by omega) hik), h n (by omega) (fun z => e z.symm)]
      omega
theorem su_swap {f : Nat → Nat → Int} {n : Nat} : ∀ m, zsum (fun i => zsum (fun j => f i j) n) m = zsum (fun j => zsum (fun i => f i j) m) n
  | 0 => by
    simp only [zsum]
    exact (su_none n (fun _ _ => rfl)).symm
  | m + 1 => by
    simp only [zsum]
    rw [su_swap m, ← su_add]
/-- a sum over the places of a row is the sum over those who stand in it -/
theorem su_bij {p : Nat → Nat} {q : Nat → Bool} {g : Nat → Int} {m n : Nat} (h1 : ∀ i, i < m → p i < n ∧ q (p i) = true) (h2 : ∀ i j, i < m → j < m → p i = p j → i = j) (h3 : ∀ k, k < n → q k = true → ∃ i, i < m ∧ p i = k) : zsum (fun i => g (p i)) m = zsum (fun k => if q k then g k else 0) n := by
  have e1 : zsum (fun i => g (p i)) m = zsum (fun i => zsum (fun k => if p i = k then g k else 0) n) m := by
    refine zsum_c m (fun i hi => ?_)
    rw [su_only (f := fun k => if p i = k then g k else 0) (k := p i) n (h1 i hi).1 (fun k _ hk => if_neg (fun z => hk z.symm)), if_pos rfl]
  rw [e1, su_swap]
  refine zsum_c n (fun k hk => ?_)
  by_cases hq : q k = true
  · rw [if_pos hq]
    obtain ⟨i, hi, hp⟩ := h3 k hk hq
    rw [su_only (f := fun i => if p i = k then g k else 0) (k := i) m hi (fun j hj hji => if_neg (fun z => hji (h2 j i hj hi (z.trans hp.symm)))), if_pos hp]
  · rw [if_neg hq]
    refine su_none m (fun i hi => if_neg (fun z => hq ?_))
    rw [← z]
    exact (h1 i hi).2
theorem su_nonneg {f : Nat → Int} : ∀ n, (∀ i, i < n → 0 ≤ f i) → 0 ≤ zsum f n
  | 0, _ => by simp [zsum]
  | n + 1, h => by
    simp only [zsum]
    have := su_nonneg n (fun i hi => h i (by omega))
    have := h n (by omega)
    omega
theorem su_le {f g : Nat → Int} : ∀ n, (∀ i, i < n → f i ≤ g i) → zsum f n ≤ zsum g n
  | 0, _ => by simp [zsum]
  | n + 1, h => by
    simp only [zsum]
    have := su_le n (fun i hi => h i (by omega))
    have := h n (by omega)
    omega
theorem fi_c {p q : Nat → Bool} : ∀ n, (∀ i, i < n → p i = q i) → zfind p n = zfind q n
  | 0, _ => rfl
  | n + 1, h => by
    simp only [zfind]
    rw [fi_c n (fun i hi => h i (by omega)), h n (by omega)]
theorem fi_no {p : Nat → Bool} : ∀ n, (∀ i, i < n → p i = false) → zfind p n = -1
  | 0, _ => rfl
  | n + 1, h => by
    simp only [zfind]
    rw [fi_no n (fun i hi => h i (by omega)), h n (by omega)]
    rfl
theorem cn_sum {p : Nat → Bool} : ∀ n, ((zcnt p n : Nat) : Int) = zsum (fun i => if p i then 1 else 0) n
  | 0 => rfl
  | n + 1 => by
    simp only [zsum, zcnt]
    rw [← cn_sum n]
    split <;> omega
theorem cn_ext {p : Nat → Bool} {n : Nat} : ∀ m, n ≤ m → zcnt (fun i => decide (i < n) && p i) m = zcnt p n
  | 0, h => by
    have : n = 0 := by omega
    subst this
    rfl
  | m + 1, h => by
    by_cases e : n = m + 1
    · subst e
      refine zcnt_c _ (fun i hi => ?_)
      simp [hi]
    · simp only [zcnt]
      rw [cn_ext m (by omega)]
      have : ¬ m < n := by omega
      simp [this]
theorem bt_lt {p : Nat → Bool} {n : Nat} (h : n ≤ 31) : zbits p n < 2 ^ 31 := Nat.lt_of_lt_of_le (zbits_lt p n) (Nat.pow_le_pow_right (by decide) h)
theorem bt_7 {p : Nat → Bool} {n : Nat} (h : n ≤ 7) : zbits p n < 128 := Nat.lt_of_lt_of_le (zbits_lt p n) (z_pow7 h)
theorem bt_and {p q : Nat → Bool} {n m : Nat} (hn : n ≤ 31) : zz_and ((zbits p n : Nat) : Int) ((zbits q m : Nat) : Int) = ((zbits (fun i => p i && (decide (i < m) && q i)) n : Nat) : Int) := by
  rw [zb_and (bt_lt hn)]
  congr 1
  apply Nat.eq_of_testBit_eq
  intro i
  rw [Nat.testBit_and, zbits_test, zbits_test, zbits_test]
  cases p i <;> cases q i <;> by_cases h1 : i < n <;> by_cases h2 : i < m <;> simp [h1, h2]
theorem bt_or {p q : Nat → Bool} {n : Nat} (hn : n ≤ 31) : zz_or ((zbits p n : Nat) : Int) ((zbits q n : Nat) : Int) = ((zbits (fun i => p i || q i) n : Nat) : Int) := by
  rw [zb_or (bt_lt hn) (bt_lt hn)]
  congr 1
  apply Nat.eq_of_testBit_eq
  intro i
  rw [Nat.testBit_or, zbits_test, zbits_test, zbits_test]
  by_cases h1 : i < n <;> simp [h1]
theorem bt_not {p q : Nat → Bool} {n m : Nat} (hn : n ≤ 31) (hm : m ≤ 31) : zz_and ((zbits p n : Nat) : Int) (zz_xor ((zbits q m : Nat) : Int) (-1)) = ((zbits (fun i => p i && !(decide (i < m) && q i)) n : Nat) : Int) := by
  rw [zb_not _ (bt_lt hm) _ (bt_lt hn)]
  congr 1
  apply Nat.eq_of_testBit_eq
  intro i
  by_cases h31 : i < 31
  · rw [zb_nott h31, zbits_test, zbits_test, zbits_test]
    cases p i <;> by_cases h1 : i < n <;> simp [h1]
  · rw [Nat.testBit_and, zbits_test, zbits_test]
    have : ¬ i < n := by omega
    simp [this]
theorem bt_true : ∀ n, zbits (fun _ => true) n + 1 = 2 ^ n
  | 0 => rfl
  | n + 1 => by
    have := bt_true n
    simp only [zbits, Nat.pow_succ, if_true]
    omega
theorem bt_pow {n : Nat} (hn : n ≤ 30) : zz_shl 1 (n : Int) = ((2 ^ n : Nat) : Int) := by
  have h : 2 ^ n ≤ 2 ^ 30 := Nat.pow_le_pow_right (by decide) hn
  have h2 : (2 : Nat) ^ 30 < 2 ^ 31 := by decide
  rw [show (1 : Int) = ((1 : Nat) : Int) from rfl, zb_shl (by omega) (by omega), Nat.one_mul]
theorem bt_all {n : Nat} (hn : n ≤ 30) : zz_shl 1 (n : Int) - 1 = ((zbits (fun _ => true) n : Nat) : Int) := by
  rw [bt_pow hn, ← bt_true n]
  omega
theorem bt_1 {k n : Nat} (hk : k < n) : 2 ^ k = zbits (fun i => i == k) n := by
  apply Nat.eq_of_testBit_eq
  intro i
  rw [Nat.testBit_two_pow, zbits_test]
  by_cases e : k = i
  · subst e
    simp [hk]
  · have : ¬ i = k := fun z => e z.symm
    simp [e, this]
theorem bt_one {k n : Nat} (hk : k < n) (hn : n ≤ 31) : zz_shl 1 (k : Int) = ((zbits (fun i => i == k) n : Nat) : Int) := by
  rw [bt_pow (by omega), bt_1 hk]
theorem bt_bit {p : Nat → Bool} {n k : Nat} (hn : n ≤ 31) (hk : k < 32) : zz_and (zz_shr ((zbits p n : Nat) : Int) (k : Int)) 1 = if decide (k < n) && p k then 1 else 0 := by
  rw [zb_bit (bt_lt hn) hk, zbits_test]
theorem bt_cnt {w : z_Wd} {p : Nat → Bool} {n : Nat} (hn : n ≤ 7) : F_J_bitCount_0f7a4 w ((zbits p n : Nat) : Int) = ((zcnt p n : Nat) : Int) := by
  rw [zb_cnt (bt_7 hn)]
  congr 1
  rw [← cn_ext 7 hn]
  exact zcnt_c 7 (fun i _ => zbits_test p n i)
theorem bt_of {x : Int} {n : Nat} (h0 : 0 ≤ x) (h : x < 2 ^ n) : x = ((zbits (fun i => x.toNat.testBit i) n : Nat) : Int) := by
  obtain ⟨k, rfl⟩ := Int.eq_ofNat_of_zero_le h0
  congr 1
  have hk : k < 2 ^ n := by
    have : ((k : Nat) : Int) < ((2 ^ n : Nat) : Int) := by simpa using h
    omega
  apply Nat.eq_of_testBit_eq
  intro i
  rw [zbits_test]
  by_cases hi : i < n
  · simp [hi]
  · rw [Nat.testBit_lt_two_pow (Nat.lt_of_lt_of_le hk (Nat.pow_le_pow_right (by decide) (by omega)))]
    simp [hi]
theorem bt_eq {p q : Nat → Bool} {n : Nat} (h : zbits p n = zbits q n) (i : Nat) (hi : i < n) : p i = q i := by
  have e : (zbits p n).testBit i = (zbits q n).testBit i := by rw [h]
  rw [zbits_test, zbits_test] at e
  simpa [hi] using e
theorem bt_zero {p : Nat → Bool} : ∀ n, (∀ i, i < n → p i = false) → zbits p n = 0
  | 0, _ => rfl
  | n + 1, h => by
    simp only [zbits]
    rw [bt_zero n (fun i hi => h i (by omega)), h n (by omega)]
    rfl
theorem bt_nz {p : Nat → Bool} {n : Nat} (h : zbits p n = 0) (i : Nat) (hi : i < n) : p i = false := by
  have e : (zbits p n).testBit i = (0 : Nat).testBit i := by rw [h]
  rw [zbits_test, Nat.zero_testBit] at e
  simpa [hi] using e
theorem bt_x {p q : Nat → Bool} {n : Nat} (h : ∀ i, i < n → p i = q i) : ((zbits p n : Nat) : Int) = ((zbits q n : Nat) : Int) := by
  rw [zbits_c n h]
theorem bt_stepY {p : Nat → Bool} {n : Nat} (hn : n < 31) (h : p n = true) : zz_or ((zbits p n : Nat) : Int) (zz_shl 1 (n : Int)) = ((zbits p (n + 1) : Nat) : Int) := by
  rw [zbits_or hn, zbits_y h]
theorem bt_stepN {p : Nat → Bool} {n : Nat} (h : p n = false) : ((zbits p n : Nat) : Int) = ((zbits p (n + 1) : Nat) : Int) := by
  rw [zbits_n (by rw [h]; decide)]
theorem bt_step0 {p : Nat → Bool} {n : Nat} (hn : n < 31) (h : p n = false) : zz_or ((zbits p n : Nat) : Int) 0 = ((zbits p (n + 1) : Nat) : Int) := by
  rw [zbits_or0 (bt_lt (by omega)), zbits_n (by rw [h]; decide)]
/-! what a step leaves as it was -/
def z_fr (X : List Nat) (Y : List (Nat × Nat)) (w w' : z_Wd) : Prop := ∀ k j, X.contains k = false → Y.contains (k, j) = false → w' k j = w k j
theorem fr_rf {X : List Nat} {Y : List (Nat × Nat)} {w : z_Wd} : z_fr X Y w w := fun _ _ _ _ => rfl
theorem fr_tr {X : List Nat} {Y : List (Nat × Nat)} {w w' w'' : z_Wd} (h : z_fr X Y w w') (h' : z_fr X Y w' w'') : z_fr X Y w w'' := fun k j a b => (h' k j a b).trans (h k j a b)
theorem fr_up {X : List Nat} {Y : List (Nat × Nat)} {w w' : z_Wd} {c i : Nat} {x : Int} (hc : X.contains c = true) (h : z_fr X Y w w') : z_fr X Y w (z_up w' c i x) := fun k j a b => by
  have e : k ≠ c := fun z => by rw [z, hc] at a; cases a
  unfold z_up
  rw [if_neg e]
  exact h k j a b
theorem fr_uf {X : List Nat} {Y : List (Nat × Nat)} {w w' : z_Wd} {c i : Nat} {x : Int} (hc : Y.contains (c, i) = true) (h : z_fr X Y w w') : z_fr X Y w (z_up w' c i x) := fun k j a b => by
  unfold z_up
  by_cases e : k = c
  · subst e
    have e2 : j ≠ i := fun z => by rw [z, hc] at b; cases b
    rw [if_pos rfl, if_neg e2]
    exact h k j a b
  · rw [if_neg e]
    exact h k j a b
theorem fr_cp {X : List Nat} {Y : List (Nat × Nat)} {w w' : z_Wd} {s sp c i n : Nat} (hc : X.contains c = true) (h : z_fr X Y w w') : z_fr X Y w (z_cpy w' s sp c i n) := fun k j a b => by
  have e : k ≠ c := fun z => by rw [z, hc] at a; cases a
  unfold z_cpy
  rw [if_neg e]
  exact h k j a b
theorem fr_wk {X X' : List Nat} {Y Y' : List (Nat × Nat)} {w w' : z_Wd} (h : z_fr X Y w w') (hX : X.all (fun k => X'.contains k) = true) (hY : Y.all (fun p => X'.contains p.1 || Y'.contains p) = true) : z_fr X' Y' w w' := fun k j a b => by
  refine h k j ?_ ?_
  · cases e : X.contains k with
    | false => rfl
    | true =>
      have := List.all_eq_true.mp hX k (List.contains_iff_mem.mp e)
      rw [this] at a
      cases a
  · cases e : Y.contains (k, j) with
    | false => rfl
    | true =>
      have := List.all_eq_true.mp hY (k, j) (List.contains_iff_mem.mp e)
      simp only [a, b, Bool.or_self] at this
      cases this
theorem fr_c {X : List Nat} {Y : List (Nat × Nat)} {w w' : z_Wd} (h : z_fr X Y w w') (k : Nat) (hX : X.contains k = false) (hY : Y.all (fun p => p.1 != k) = true) : w' k = w k := by
  funext j
  refine h k j hX ?_
  cases e : Y.contains (k, j) with
  | false => rfl
  | true =>
    have := List.all_eq_true.mp hY (k, j) (List.contains_iff_mem.mp e)
    simp at this
theorem fr_f {X : List Nat} {Y : List (Nat × Nat)} {w w' : z_Wd} (h : z_fr X Y w w') (k j : Nat) (hX : X.contains k = false) (hY : Y.contains (k, j) = false) : w' k j = w k j := h k j hX hY
