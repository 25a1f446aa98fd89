theorem zb_of (n : Nat) : Int32.ofInt (n : Int) = nI n := by
  rw [nI, Int32.ofInt_eq_ofNat]
theorem zb_land (a b : Nat) : nI a &&& nI b = nI (a &&& b) := by
  apply Int32.toBitVec.inj
  rw [Int32.toBitVec_and]
  show BitVec.ofNat 32 a &&& BitVec.ofNat 32 b = BitVec.ofNat 32 (a &&& b)
  apply BitVec.eq_of_getLsbD_eq
  intro i hi
  simp [BitVec.getLsbD_ofNat, hi]
theorem zb_lor (a b : Nat) : nI a ||| nI b = nI (a ||| b) := by
  apply Int32.toBitVec.inj
  rw [Int32.toBitVec_or]
  show BitVec.ofNat 32 a ||| BitVec.ofNat 32 b = BitVec.ofNat 32 (a ||| b)
  apply BitVec.eq_of_getLsbD_eq
  intro i hi
  simp [BitVec.getLsbD_ofNat, hi]
theorem zb_and {a b : Nat} (ha : a < 2 ^ 31) : zz_and (a : Int) (b : Int) = ((a &&& b : Nat) : Int) := by
  unfold zz_and
  rw [zb_of, zb_of, zb_land, nI_toInt (Nat.lt_of_le_of_lt Nat.and_le_left ha)]
theorem zb_or {a b : Nat} (ha : a < 2 ^ 31) (hb : b < 2 ^ 31) : zz_or (a : Int) (b : Int) = ((a ||| b : Nat) : Int) := by
  unfold zz_or
  rw [zb_of, zb_of, zb_lor, nI_toInt (Nat.or_lt_two_pow ha hb)]
theorem zb_31 : ∀ k, k < 32 → ((nI k &&& 31).toBitVec.smod 32).toNat = k := by decide +kernel
theorem zb_shl {a k : Nat} (hk : k < 32) (h : a * 2 ^ k < 2 ^ 31) : zz_shl (a : Int) (k : Int) = ((a * 2 ^ k : Nat) : Int) := by
  unfold zz_shl
  rw [zb_of, zb_of, pk_shlN (nI k &&& 31) k (zb_31 k hk) (Nat.lt_trans h (by decide)), nI_toInt h]
theorem zb_shr {a k : Nat} (ha : a < 2 ^ 31) (hk : k < 32) : zz_shr (a : Int) (k : Int) = ((a / 2 ^ k : Nat) : Int) := by
  unfold zz_shr
  rw [zb_of, zb_of, pk_shrN ha (nI k &&& 31) k (zb_31 k hk), nI_toInt (Nat.lt_of_le_of_lt (Nat.div_le_self _ _) ha)]
/-- bit k of a set -/
theorem zb_bit {a k : Nat} (ha : a < 2 ^ 31) (hk : k < 32) : zz_and (zz_shr (a : Int) (k : Int)) 1 = if a.testBit k then 1 else 0 := by
  rw [zb_shr ha hk, show (1 : Int) = ((1 : Nat) : Int) from rfl, zb_and (Nat.lt_of_le_of_lt (Nat.div_le_self _ _) ha), Nat.and_one_is_mod]
  have e : a.testBit k = decide (a / 2 ^ k % 2 = 1) := by
    rw [Nat.testBit_eq_decide_div_mod_eq]
  rw [e]
  by_cases h : a / 2 ^ k % 2 = 1
  · simp [h]
  · have : a / 2 ^ k % 2 = 0 := by omega
    simp [this]
/-- the bits of a row of yes and no -/
def zbits (p : Nat → Bool) : Nat → Nat
  | 0 => 0
  | n + 1 => zbits p n + (if p n then 2 ^ n else 0)
theorem zbits_lt (p : Nat → Bool) : ∀ n, zbits p n < 2 ^ n
  | 0 => by simp [zbits]
  | n + 1 => by
    have := zbits_lt p n
    simp only [zbits, Nat.pow_succ]
    split <;> omega
theorem zbits_ors {x n : Nat} (hl : x < 2 ^ n) : 2 ^ n ||| x = x + 2 ^ n := by
  have e := Nat.two_pow_add_eq_or_of_lt hl 1
  rw [Nat.mul_one] at e
  omega
theorem zbits_test (p : Nat → Bool) : ∀ (n k : Nat), (zbits p n).testBit k = (decide (k < n) && p k)
  | 0, k => by simp [zbits]
  | n + 1, k => by
    have ih := zbits_test p n
    have hl := zbits_lt p n
    simp only [zbits]
    by_cases hp : p n
    · rw [if_pos hp, ← zbits_ors hl, Nat.testBit_or, ih, Nat.testBit_two_pow]
      by_cases e : n = k
      · subst e
        simp [hp]
      · by_cases h : k < n
        · simp [e, h, Nat.lt_succ_of_lt h]
        · have h2 : ¬ k < n + 1 := by omega
          simp [e, h, h2]
    · rw [if_neg hp, Nat.add_zero, ih]
      by_cases e : k = n
      · subst e
        simp [hp]
      · by_cases h : k < n
        · simp [h, Nat.lt_succ_of_lt h]
        · have h2 : ¬ k < n + 1 := by omega
          simp [h, h2]
theorem zbits_c {p q : Nat → Bool} : ∀ n, (∀ i, i < n → p i = q i) → zbits p n = zbits q n
  | 0, _ => rfl
  | n + 1, h => by
    simp only [zbits]
    rw [zbits_c n (fun i hi => h i (by omega)), h n (by omega)]
theorem zbits_or {p : Nat → Bool} {n : Nat} (hn : n < 31) : zz_or ((zbits p n : Nat) : Int) (zz_shl 1 (n : Int)) = ((zbits p n + 2 ^ n : Nat) : Int) := by
  have h1 : 1 * 2 ^ n < 2 ^ 31 := by rw [Nat.one_mul]; exact Nat.pow_lt_pow_right (by decide) hn
  have hl := zbits_lt p n
  have h2 : 2 ^ n < 2 ^ 31 := by rwa [Nat.one_mul] at h1
  rw [show (1 : Int) = ((1 : Nat) : Int) from rfl, zb_shl (by omega) h1, Nat.one_mul, zb_or (Nat.lt_trans hl h2) h2]
  congr 1
  rw [Nat.or_comm, zbits_ors hl]
theorem zbits_or0 {a : Nat} (h : a < 2 ^ 31) : zz_or (a : Int) 0 = (a : Int) := by
  rw [show (0 : Int) = ((0 : Nat) : Int) from rfl, zb_or h (by decide), Nat.or_zero]
theorem zb_ext {a b n : Nat} (ha : a < 2 ^ n) (hb : b < 2 ^ n) (h : ∀ i, i < n → a.testBit i = b.testBit i) : a = b := by
  apply Nat.eq_of_testBit_eq
  intro i
  by_cases hi : i < n
  · exact h i hi
  · rw [Nat.testBit_lt_two_pow (Nat.lt_of_lt_of_le ha (Nat.pow_le_pow_right (by decide) (by omega))), Nat.testBit_lt_two_pow (Nat.lt_of_lt_of_le hb (Nat.pow_le_pow_right (by decide) (by omega)))]
/-- a count of bits -/
def zcnt (p : Nat → Bool) : Nat → Nat
  | 0 => 0
  | n + 1 => zcnt p n + (if p n then 1 else 0)
theorem zb_cnt_all : ∀ x : Nat, x < 128 → F_J_bitCount_0f7a4 (fun _ _ => 0) (x : Int) = ((zcnt (fun i => Nat.testBit x i) 7 : Nat) : Int) := by
  decide +kernel
theorem zb_cnt {w : z_Wd} {x : Nat} (h : x < 128) : F_J_bitCount_0f7a4 w (x : Int) = ((zcnt (fun i => Nat.testBit x i) 7 : Nat) : Int) := zb_cnt_all x h
theorem zcnt_le (p : Nat → Bool) : ∀ n, zcnt p n ≤ n
  | 0 => by simp [zcnt]
  | n + 1 => by
    have := zcnt_le p n
    simp only [zcnt]
    split <;> omega
theorem zcnt_c {p q : Nat → Bool} : ∀ n, (∀ i, i < n → p i = q i) → zcnt p n = zcnt q n
  | 0, _ => rfl
  | n + 1, h => by
    simp only [zcnt]
    rw [zcnt_c n (fun i hi => h i (by omega)), h n (by omega)]
theorem zb_r {w : z_Wd} {x : Int} (h0 : 0 ≤ x) (h : x < 128) : 0 ≤ F_J_bitCount_0f7a4 w x ∧ F_J_bitCount_0f7a4 w x ≤ 7 := by
  obtain ⟨n, rfl⟩ := Int.eq_ofNat_of_zero_le h0
  rw [zb_cnt (by omega)]
  have := zcnt_le (fun i => Nat.testBit n i) 7
  omega
theorem zb_bitr (x k : Int) : 0 ≤ zz_and (zz_shr x k) 1 ∧ zz_and (zz_shr x k) 1 ≤ 1 := by
  unfold zz_and
  have e := pk_and (Int32.ofInt (zz_shr x k)) (m := 1) 1 (by decide)
  have e1 : Int32.ofInt 1 = (1 : Int32) := by decide
  rw [e1, e, nI_toInt (by omega)]
  omega
/-- a without b -/
theorem zb_not (x : Nat) (h : x < 2 ^ 31) (a : Nat) (ha : a < 2 ^ 31) : zz_and (a : Int) (zz_xor (x : Int) (-1)) = ((a &&& (x ^^^ (2 ^ 31 - 1)) : Nat) : Int) := by
  unfold zz_and zz_xor
  rw [Int32.ofInt_toInt, zb_of, zb_of]
  have key : nI a &&& (nI x ^^^ Int32.ofInt (-1)) = nI (a &&& (x ^^^ (2 ^ 31 - 1))) := by
    apply Int32.toBitVec.inj
    rw [Int32.toBitVec_and, Int32.toBitVec_xor]
    have e2 : (Int32.ofInt (-1)).toBitVec = BitVec.allOnes 32 := by decide
    rw [e2]
    show BitVec.ofNat 32 a &&& (BitVec.ofNat 32 x ^^^ BitVec.allOnes 32) = BitVec.ofNat 32 (a &&& (x ^^^ (2 ^ 31 - 1)))
    apply BitVec.eq_of_getLsbD_eq
    intro i hi
    simp only [BitVec.getLsbD_and, BitVec.getLsbD_xor, BitVec.getLsbD_ofNat, BitVec.getLsbD_allOnes, hi, decide_true, Bool.true_and, Nat.testBit_and, Nat.testBit_xor]
    by_cases h31 : i < 31
    · rw [Nat.testBit_two_pow_sub_one]
      simp [h31]
    · have : i = 31 := by omega
      subst this
      rw [Nat.testBit_lt_two_pow ha]
      simp
  rw [key, nI_toInt (Nat.lt_of_le_of_lt Nat.and_le_left ha)]
theorem zb_nott {x a i : Nat} (hi : i < 31) : (a &&& (x ^^^ (2 ^ 31 - 1))).testBit i = (a.testBit i && !x.testBit i) := by
  rw [Nat.testBit_and, Nat.testBit_xor, Nat.testBit_two_pow_sub_one]
  simp [hi]
