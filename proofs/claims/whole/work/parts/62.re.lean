/-! the relation: the reference's cells are those of w, the class's those of v -/
def r_ta (w v : z_Wd) : Prop := w 0 2 = v 28 1 ∧ (0 ≤ v 28 1 ∧ v 28 1 ≤ 240) ∧ ∀ i : Nat, (i : Int) < v 28 1 → w 1 i = v 29 i ∧ 1 ≤ v 29 i ∧ v 29 i ≤ 255
def r_mn (nw nn nf : Int) : Prop := (0 ≤ nw ∧ nw ≤ 4) ∧ (0 ≤ nn ∧ nn ≤ 7) ∧ (0 ≤ nf ∧ nf ≤ 6) ∧ (nn = 0 → nw = 0 ∧ nf = 0) ∧ (nn ≠ 0 → 2 ≤ nn ∧ 1 ≤ nw)
def r_mi (w v : z_Wd) : Prop := (v 32 1 = w 0 28 ∧ v 32 2 = w 0 29 ∧ v 32 3 = w 0 30) ∧ r_mn (w 0 28) (w 0 29) (w 0 30) ∧ (w 15 0 = v 31 0 ∧ (0 ≤ v 31 0 ∧ v 31 0 ≤ 3) ∧ (w 0 29 ≠ 0 → 1 ≤ v 31 0))
  ∧ (∀ k : Nat, (k : Int) < w 0 28 → w 16 (2 * k + 1) = v 31 (3 + 3 * k + 1) ∧ (v 31 (3 + 3 * k + 1) = 0 ∨ v 31 (3 + 3 * k + 1) = 1))
  ∧ (∀ n : Nat, (n : Int) < w 0 29 → (w 17 (3 * n) = v 31 (15 + 3 * n) ∧ 1 ≤ v 31 (15 + 3 * n) ∧ v 31 (15 + 3 * n) ≤ 5) ∧ (w 17 (3 * n + 1) = v 31 (15 + 3 * n + 1) ∧ 0 ≤ v 31 (15 + 3 * n + 1) ∧ v 31 (15 + 3 * n + 1) < w 0 29 ∧ v 31 (15 + 3 * n + 1) ≠ n) ∧ (w 17 (3 * n + 2) = v 31 (15 + 3 * n + 2) ∧ (v 31 (15 + 3 * n + 2) = 0 ∨ v 31 (15 + 3 * n + 2) = 1)))
  ∧ (∀ f : Nat, (f : Int) < w 0 30 → (w 18 (2 * f) = v 31 (36 + 3 * f) ∧ 0 ≤ v 31 (36 + 3 * f) ∧ v 31 (36 + 3 * f) < w 0 29) ∧ (w 18 (2 * f + 1) = v 31 (36 + 3 * f + 1) ∧ 0 ≤ v 31 (36 + 3 * f + 1) ∧ v 31 (36 + 3 * f + 1) < w 0 29))
  ∧ (∀ i : Nat, i < 21 → 0 ≤ w 17 i ∧ w 17 i ≤ 99) ∧ (∀ i : Nat, i < 54 → 0 ≤ v 31 i ∧ v 31 i ≤ 99)
/-- who lies where: the class's wells and layers against the reference's piles -/
def r_st (nn nw : Int) (wf lf dp : Nat → Int) (co un ye : Int) (now : Nat → Int) : Prop :=
  (∀ n : Nat, n < 7 → (-1 ≤ wf n ∧ wf n < 4) ∧ (0 ≤ lf n ∧ lf n ≤ 7))
  ∧ (∀ n : Nat, (n : Int) < nn → wf n < nw)
  ∧ (∀ a : Nat, a < 4 → (0 ≤ now a ∧ now a ≤ 7) ∧ (nw ≤ a → now a = 0))
  ∧ (∀ a i : Nat, a < 4 → (i : Int) < now a → (0 ≤ now (4 + 7 * a + i) ∧ now (4 + 7 * a + i) < nn) ∧ wf (now (4 + 7 * a + i)).toNat = a ∧ lf (now (4 + 7 * a + i)).toNat = i)
  ∧ (∀ n : Nat, (n : Int) < nn → wf n ≠ -1 → lf n < now (wf n).toNat ∧ now (4 + 7 * (wf n).toNat + (lf n).toNat) = n)
  ∧ (∀ k : Nat, (k : Int) < nw → now (32 + k) = dp k ∧ 0 ≤ dp k ∧ dp k ≤ 30)
  ∧ (now 36 = co ∧ 0 ≤ co ∧ co ≤ 999) ∧ (now 37 = un ∧ 0 ≤ un ∧ un ≤ 9999) ∧ (now 38 = ye ∧ 0 ≤ ye ∧ ye ≤ 999)
/-- the log: the reference's row against the class's ring -/
def r_lg (ye : Int) (lw lm : Nat → Int) (now : Nat → Int) : Prop := now 39 = (if ye > 60 then 60 else ye) ∧ ∀ i : Nat, (i : Int) < now 39 → now (40 + 2 * i) = lw ((ye - now 39 + i).toNat % 100) ∧ now (40 + 2 * i + 1) = lm ((ye - now 39 + i).toNat % 100)
/-- the year ahead of the j-th latest act -/
def r_hy (nx ye : Int) (rows : Nat → Int) : Nat → Int
  | 0 => ye
  | j + 1 => rows (21 * ((nx.toNat + 39 - j) % 40) + 20)
def r_hi (nn nw ac nx ye : Int) (lw lm rows kept : Nat → Int) : Prop := (0 ≤ ac ∧ ac ≤ 40) ∧ (0 ≤ nx ∧ nx < 40) ∧ ∀ j : Nat, (j : Int) < ac →
  r_st nn nw (fun n => rows (21 * ((nx.toNat + 39 - j) % 40) + n)) (fun n => rows (21 * ((nx.toNat + 39 - j) % 40) + (7 + n))) (fun n => rows (21 * ((nx.toNat + 39 - j) % 40) + (14 + n))) (rows (21 * ((nx.toNat + 39 - j) % 40) + 18)) (rows (21 * ((nx.toNat + 39 - j) % 40) + 19)) (rows (21 * ((nx.toNat + 39 - j) % 40) + 20)) (fun k => kept (160 * (ac.toNat - 1 - j) + k))
  ∧ r_lg (rows (21 * ((nx.toNat + 39 - j) % 40) + 20)) lw lm (fun k => kept (160 * (ac.toNat - 1 - j) + k))
  ∧ (r_hy nx ye rows (j + 1) ≤ r_hy nx ye rows j ∧ r_hy nx ye rows j ≤ r_hy nx ye rows (j + 1) + 1)
def r_im (w v : z_Wd) : Prop := v 27 13 = w 0 45 ∧ (w 0 45 = 0 ∨ w 0 45 = 1) ∧ (w 0 45 ≠ 0 → w 0 29 ≠ 0 ∧ r_st (w 0 29) (w 0 28) (v 48) (v 49) (v 50) (v 47 6) (v 47 7) (v 47 8) (w 25) ∧ r_lg (v 47 8) (v 51) (v 52) (w 25))
def r_cl (w v : z_Wd) : Prop := w 0 43 = v 72 4 ∧ (0 ≤ v 72 4 ∧ v 72 4 ≤ 10) ∧ ∀ i : Nat, (i : Int) < v 72 4 → (w 23 i = v 73 i ∧ 0 ≤ v 73 i ∧ v 73 i < w 0 30) ∧ (w 24 i = v 74 i ∧ 0 ≤ v 74 i ∧ v 74 i ≤ 2)
def r_re (w v : z_Wd) : Prop := ∀ i : Nat, i < 5 → w 20 i = v 78 i
def r_fl (w v : z_Wd) : Prop := w 0 34 = v 27 12 ∧ 0 ≤ v 27 12 ∧ v 27 12 ≤ 9
def r_rd (w v : z_Wd) : Prop := (∀ i : Nat, i < 21 → 0 ≤ w 13 i ∧ w 13 i ≤ 99) ∧ (∀ i : Nat, i < 54 → 0 ≤ v 35 i ∧ v 35 i ≤ 99)
/-- what acts change -/
def r_no (w v : z_Wd) : Prop := r_st (w 0 29) (w 0 28) (v 42) (v 43) (v 44) (v 41 6) (v 41 7) (v 41 8) (w 19) ∧ r_lg (v 41 8) (v 45) (v 46) (w 19)
def r_ac (w v : z_Wd) : Prop := w 0 36 = v 53 2 ∧ r_hi (w 0 29) (w 0 28) (w 0 36) (v 53 1) (v 41 8) (v 45) (v 46) (v 54) (w 21)
/-! the class's ministry and ink, as numbers -/
def d_ok (v : z_Wd) : Prop := (0 ≤ v 32 1 ∧ v 32 1 ≤ 4) ∧ (0 ≤ v 32 2 ∧ v 32 2 ≤ 7) ∧ (0 ≤ v 32 3 ∧ v 32 3 ≤ 6) ∧ (∀ i : Nat, i < 54 → 0 ≤ v 31 i ∧ v 31 i ≤ 99) ∧ (∀ n : Nat, n < 7 → (-1 ≤ v 42 n ∧ v 42 n < 4) ∧ (0 ≤ v 43 n ∧ v 43 n ≤ 7))
def dv_d (v : z_Wd) (n : Nat) : Int := v 31 (15 + 3 * n) * v 31 0
theorem sc_00 : z_sc 0 (0 : Int).toNat = 1 := rfl
theorem sc_01 : z_sc 0 (1 : Int).toNat = 4 := rfl
theorem sc_02 : z_sc 0 (2 : Int).toNat = 7 := rfl
theorem sc_03 : z_sc 0 (3 : Int).toNat = 6 := rfl
theorem sc_10 : z_sc 1 (0 : Int).toNat = 0 := rfl
theorem sc_11 : z_sc 1 (1 : Int).toNat = 1 := rfl
theorem sc_12 : z_sc 1 (2 : Int).toNat = 5 := rfl
theorem sc_13 : z_sc 1 (3 : Int).toNat = 12 := rfl
theorem d_v00 {v : z_Wd} : F_Y_value v 0 0 0 = v 31 0 := by
  unfold F_Y_value
  rw [if_neg (by omega), sc_00, if_neg (by omega), sc_10]
  rfl
theorem d_v01 {v : z_Wd} : F_Y_value v 0 0 1 = v 31 1 := by
  unfold F_Y_value
  rw [if_neg (by omega), sc_00, if_neg (by omega), sc_10]
  rfl
theorem d_v1 {v : z_Wd} {n : Nat} (hn : n < 4) : F_Y_value v 1 (n : Int) 0 = v 31 (3 + 3 * n) ∧ F_Y_value v 1 (n : Int) 1 = v 31 (3 + 3 * n + 1) := by
  unfold F_Y_value
  rw [if_neg (by omega), sc_01, if_neg (by omega), sc_11, if_neg (by omega), if_neg (by omega)]
  exact ⟨congrArg (v 31) (by omega), congrArg (v 31) (by omega)⟩
theorem d_v2 {v : z_Wd} {n : Nat} (hn : n < 7) : F_Y_value v 2 (n : Int) 0 = v 31 (15 + 3 * n) ∧ F_Y_value v 2 (n : Int) 1 = v 31 (15 + 3 * n + 1) ∧ F_Y_value v 2 (n : Int) 2 = v 31 (15 + 3 * n + 2) := by
  unfold F_Y_value
  rw [if_neg (by omega), sc_02, if_neg (by omega), sc_12, if_neg (by omega), if_neg (by omega), if_neg (by omega), if_neg (by omega)]
  exact ⟨congrArg (v 31) (by omega), congrArg (v 31) (by omega), congrArg (v 31) (by omega)⟩
theorem d_v3 {v : z_Wd} {n : Nat} (hn : n < 6) : F_Y_value v 3 (n : Int) 0 = v 31 (36 + 3 * n) ∧ F_Y_value v 3 (n : Int) 1 = v 31 (36 + 3 * n + 1) := by
  unfold F_Y_value
  rw [if_neg (by omega), sc_03, if_neg (by omega), sc_13, if_neg (by omega), if_neg (by omega)]
  exact ⟨congrArg (v 31) (by omega), congrArg (v 31) (by omega)⟩
theorem d_pv {v : z_Wd} {k a j : Int} (hk : k = 0 ∨ k = 1 ∨ k = 2 ∨ k = 3) (ha : -2147483648 ≤ a ∧ a < 2147483648) (hj : 0 ≤ j ∧ j ≤ 2) : P_Y_value v k a j := by
  unfold P_Y_value
  refine ⟨ha, fun _ => trivial, fun h0 => ⟨by omega, ?_, fun _ => trivial, fun h1 => ?_⟩⟩
  · rcases hk with rfl | rfl | rfl | rfl <;> decide
  · rcases hk with rfl | rfl | rfl | rfl
    · rw [sc_00] at h1; rw [sc_10]; omega
    · rw [sc_01] at h1; rw [sc_11]; omega
    · rw [sc_02] at h1; rw [sc_12]; omega
    · rw [sc_03] at h1; rw [sc_13]; omega
theorem d_rv {v : z_Wd} (h : d_ok v) {k a j : Int} (hk : k = 0 ∨ k = 1 ∨ k = 2 ∨ k = 3) (hj : 0 ≤ j ∧ j ≤ 2) : 0 ≤ F_Y_value v k a j ∧ F_Y_value v k a j ≤ 99 := by
  unfold F_Y_value
  split
  · omega
  · split
    · omega
    · rename_i h0 h1
      refine h.2.2.2.1 _ ?_
      rcases hk with rfl | rfl | rfl | rfl
      · rw [sc_00] at h1; rw [sc_10]; omega
      · rw [sc_01] at h1; rw [sc_11]; omega
      · rw [sc_02] at h1; rw [sc_12]; omega
      · rw [sc_03] at h1; rw [sc_13]; omega
theorem d_nn {v : z_Wd} (h : d_ok v) : ∃ n : Nat, v 32 2 = (n : Int) ∧ n ≤ 7 := ⟨(v 32 2).toNat, by have := h.2.1; omega, by have := h.2.1; omega⟩
theorem d_inA {v : z_Wd} {a : Int} : ∀ n, n ≤ 7 → A_K_inside_4 v a n = ((zbits (fun i => v 42 i == a) n : Nat) : Int)
  | 0, _ => rfl
  | n + 1, h => by
    simp only [A_K_inside_4]
    rw [d_inA n (by omega), Int.toNat_natCast]
    split
    · rename_i c
      exact bt_stepY (by omega) (by simpa using c)
    · rename_i c
      exact bt_stepN (by simpa using c)
theorem d_in {v : z_Wd} (h : d_ok v) (a : Int) : F_K_inside v a = ((zbits (fun i => v 42 i == a) (v 32 2).toNat : Nat) : Int) := by
  have := h.2.1
  exact d_inA _ (by omega)
/-- who is drowned -/
theorem d_dr {v : z_Wd} (h : d_ok v) : zz_and ((zz_shl 1 (v 32 2)) - 1) (zz_xor (F_K_inside v (-1)) (-1)) = ((zbits (fun i => v 42 i != -1) (v 32 2).toNat : Nat) : Int) := by
  rw [d_in h]
  obtain ⟨n, e, hn⟩ := d_nn h
  rw [e, Int.toNat_natCast, bt_all (by omega), bt_not (by omega) (by omega)]
  refine bt_x (fun i hi => ?_)
  simp [hi, bne]
theorem d_doA {v : z_Wd} {p : Nat → Bool} {m : Nat} (hm : m ≤ 7) : ∀ n, n ≤ m → A_Y_dropsOf_4 v ((zbits p m : Nat) : Int) n = zsum (fun i => if p i then v 31 (15 + 3 * i) else 0) n
  | 0, _ => rfl
  | n + 1, h => by
    simp only [A_Y_dropsOf_4, zsum]
    rw [d_doA hm n (by omega), bt_bit (by omega) (by omega), (d_v2 (v := v) (n := n) (by omega)).1]
    have : n < m := by omega
    by_cases c : p n = true <;> simp [this, c]
theorem d_do {v : z_Wd} (h : d_ok v) (p : Nat → Bool) : F_Y_dropsOf v ((zbits p (v 32 2).toNat : Nat) : Int) = zsum (fun i => if p i then dv_d v i else 0) (v 32 2).toNat := by
  have := h.2.1
  unfold F_Y_dropsOf
  rw [d_doA (by omega) _ (Nat.le_refl _), d_v00, ← su_mul]
  refine zsum_c _ (fun i _ => ?_)
  unfold dv_d
  split
  · rfl
  · simp
/-- m lies over n -/
def dv_o (v : z_Wd) (m n : Nat) : Bool := v 42 m != -1 && (v 42 m == v 42 n && decide (v 43 n < v 43 m))
theorem d_lo {v : z_Wd} {m n : Nat} : (F_K_liesOver v (m : Int) (n : Int) = 0) = (dv_o v m n = false) := by
  unfold F_K_liesOver dv_o
  rw [Int.toNat_natCast, Int.toNat_natCast]
  apply propext
  by_cases h1 : v 42 m = -1
  · simp [h1]
  · by_cases h2 : v 42 m = v 42 n
    · by_cases h3 : v 43 m ≤ v 43 n
      · have h4 : ¬ v 43 n < v 43 m := by omega
        simp [h1, h2, h3, h4]
      · have h4 : v 43 n < v 43 m := by omega
        rw [h2] at h1
        simp [h1, h2, h3, h4]
    · simp [h1, h2]
theorem d_abA {v : z_Wd} {p : Nat → Bool} {m k : Nat} (hm : m ≤ 7) : ∀ n, n ≤ m → A_K_above_5 v (k : Int) ((zbits p m : Nat) : Int) n = ((zbits (fun i => p i && dv_o v i k) n : Nat) : Int)
  | 0, _ => rfl
  | n + 1, h => by
    simp only [A_K_above_5]
    rw [d_abA hm n (by omega), bt_bit (by omega) (by omega)]
    have hn : n < m := by omega
    by_cases c : p n = true
    · by_cases c2 : dv_o v n k = true
      · have e : ¬ (F_K_liesOver v (n : Int) (k : Int) = 0) := by rw [d_lo, c2]; simp
        rw [if_neg e]
        simp only [hn, c, decide_true, Bool.and_self, if_true]
        exact bt_stepY (by omega) (by simp [c, c2])
      · have c3 : dv_o v n k = false := by simpa using c2
        have e : F_K_liesOver v (n : Int) (k : Int) = 0 := by rw [d_lo]; exact c3
        rw [if_pos e]
        simp only [hn, c, decide_true, Bool.and_self, if_true]
        exact bt_stepN (by simp [c3])
    · have c3 : p n = false := by simpa using c
      simp only [c3, Bool.and_false]
      exact bt_stepN (by simp [c3])
theorem d_ab {v : z_Wd} (h : d_ok v) (p : Nat → Bool) (k : Nat) : F_K_above v (k : Int) ((zbits p (v 32 2).toNat : Nat) : Int) = zsum (fun i => if p i && dv_o v i k then dv_d v i else 0) (v 32 2).toNat := by
  have := h.2.1
  unfold F_K_above
  rw [d_abA (by omega) _ (Nat.le_refl _), d_do h]
theorem dv_dr {v : z_Wd} (h : d_ok v) {n : Nat} (hn : n < 7) : 0 ≤ dv_d v n ∧ dv_d v n ≤ 9801 := by
  have h1 := h.2.2.2.1 (15 + 3 * n) (by omega)
  have h2 := h.2.2.2.1 0 (by omega)
  unfold dv_d
  refine ⟨Int.mul_nonneg h1.1 h2.1, ?_⟩
  have := Int.mul_le_mul h1.2 h2.2 h2.1 (by omega)
  omega
theorem d_sr {v : z_Wd} (h : d_ok v) (p : Nat → Bool) : 0 ≤ zsum (fun i => if p i then dv_d v i else 0) (v 32 2).toNat ∧ zsum (fun i => if p i then dv_d v i else 0) (v 32 2).toNat ≤ 68607 := by
  have := h.2.1
  have := zsum_r (f := fun i => if p i then dv_d v i else 0) (b := 9801) (v 32 2).toNat (fun i hi => by
    have := dv_dr h (n := i) (by omega)
    show 0 ≤ (if p i = true then dv_d v i else 0) ∧ (if p i = true then dv_d v i else 0) ≤ 9801
    split <;> omega)
  omega
/-- what comes up: he fits, and no one below him does -/
def dv_c (v : z_Wd) (p : Nat → Bool) (a d : Int) (n : Nat) : Prop := p n = true ∧ v 42 n = a ∧ zsum (fun i => if p i && dv_o v i n then dv_d v i else 0) (v 32 2).toNat + dv_d v n ≤ d
theorem d_cuA {v : z_Wd} (h : d_ok v) (p : Nat → Bool) {a d : Int} (ha : a ≠ -1) : ∀ n, n ≤ (v 32 2).toNat → (A_K_comesUp_6 v a d ((zbits p (v 32 2).toNat : Nat) : Int) n = -1 ∧ ∀ m, m < n → ¬ dv_c v p a d m) ∨ ∃ c : Nat, A_K_comesUp_6 v a d ((zbits p (v 32 2).toNat : Nat) : Int) n = (c : Int) ∧ c < n ∧ dv_c v p a d c ∧ ∀ m, m < n → dv_c v p a d m → v 43 c ≤ v 43 m
  | 0, _ => Or.inl ⟨rfl, fun m hm => absurd hm (Nat.not_lt_zero m)⟩
  | n + 1, hn => by
    have hv := h.2.1
    have ih := d_cuA h p (a := a) (d := d) ha n (by omega)
    have h2 : n < (v 32 2).toNat := by omega
    have e2 : ∀ m, (dv_c v p a d m) = (p m = true ∧ v 42 m = a ∧ F_K_above v (m : Int) ((zbits p (v 32 2).toNat : Nat) : Int) + dv_d v m ≤ d) := fun m => by rw [d_ab h]; rfl
    simp only [A_K_comesUp_6]
    rw [bt_bit (by omega) (by omega), Int.toNat_natCast, (d_v2 (v := v) (n := n) (by omega)).1, d_v00]
    have keep : ¬ dv_c v p a d n → (A_K_comesUp_6 v a d ((zbits p (v 32 2).toNat : Nat) : Int) n = -1 ∧ ∀ m, m < n + 1 → ¬ dv_c v p a d m) ∨ ∃ c : Nat, A_K_comesUp_6 v a d ((zbits p (v 32 2).toNat : Nat) : Int) n = (c : Int) ∧ c < n + 1 ∧ dv_c v p a d c ∧ ∀ m, m < n + 1 → dv_c v p a d m → v 43 c ≤ v 43 m := by
      intro hx
      rcases ih with ⟨i1, i2⟩ | ⟨c, i1, i2, i3, i4⟩
      · refine Or.inl ⟨i1, fun m hm => ?_⟩
        by_cases e : m = n
        · subst e; exact hx
        · exact i2 m (by omega)
      · refine Or.inr ⟨c, i1, by omega, i3, fun m hm hd => ?_⟩
        by_cases e : m = n
        · subst e; exact absurd hd hx
        · exact i4 m (by omega) hd
    have take : dv_c v p a d n → (∀ c : Nat, A_K_comesUp_6 v a d ((zbits p (v 32 2).toNat : Nat) : Int) n = (c : Int) → v 43 n < v 43 c) → ((n : Int) = -1 ∧ ∀ m, m < n + 1 → ¬ dv_c v p a d m) ∨ ∃ c : Nat, (n : Int) = (c : Int) ∧ c < n + 1 ∧ dv_c v p a d c ∧ ∀ m, m < n + 1 → dv_c v p a d m → v 43 c ≤ v 43 m := by
      intro hx hl
      refine Or.inr ⟨n, rfl, by omega, hx, fun m hm hd => ?_⟩
      by_cases e : m = n
      · subst e; omega
      · rcases ih with ⟨i1, i2⟩ | ⟨c, i1, i2, i3, i4⟩
        · exact absurd hd (i2 m (by omega))
        · have := hl c i1
          have := i4 m (by omega) hd
          omega
    by_cases c1 : p n = true
    · rw [if_pos (by simp [h2, c1])]
      by_cases c2 : v 42 n = a
      · rw [if_pos c2]
        by_cases c4 : F_K_above v (n : Int) ((zbits p (v 32 2).toNat : Nat) : Int) + v 31 (15 + 3 * n) * v 31 0 > d
        · rw [if_pos c4]
          have hx : ¬ dv_c v p a d n := by rw [e2]; unfold dv_d; intro z; omega
          split
          · exact keep hx
          · split <;> exact keep hx
        · rw [if_neg c4]
          have hx : dv_c v p a d n := by rw [e2]; unfold dv_d; exact ⟨c1, c2, by omega⟩
          split
          · rename_i c3
            exact take hx (fun c hc => by rw [c3] at hc; omega)
          · rename_i c3
            rcases ih with ⟨i1, i2⟩ | ⟨c, i1, i2, i3, i4⟩
            · exact absurd i1 c3
            · have e5 : (F_K_liesOver v (A_K_comesUp_6 v a d ((zbits p (v 32 2).toNat : Nat) : Int) n) (n : Int) = 0) = (dv_o v c n = false) := by rw [i1, d_lo]
              by_cases c5 : dv_o v c n = true
              · have z : ¬ (F_K_liesOver v (A_K_comesUp_6 v a d ((zbits p (v 32 2).toNat : Nat) : Int) n) (n : Int) = 0) := by rw [e5, c5]; simp
                rw [if_neg z]
                refine take hx (fun c' hc => ?_)
                have : c' = c := by rw [i1] at hc; omega
                subst this
                unfold dv_o at c5
                simp only [Bool.and_eq_true, decide_eq_true_eq] at c5
                exact c5.2.2
              · have c6 : dv_o v c n = false := by simpa using c5
                have z : F_K_liesOver v (A_K_comesUp_6 v a d ((zbits p (v 32 2).toNat : Nat) : Int) n) (n : Int) = 0 := by rw [e5]; exact c6
                rw [if_pos z]
                refine Or.inr ⟨c, i1, by omega, i3, fun m hm hd => ?_⟩
                by_cases e : m = n
                · subst e
                  have hc1 := i3.2.1
                  unfold dv_o at c6
                  rw [hc1, c2] at c6
                  have : ¬ v 43 m < v 43 c := by
                    intro z2
                    simp [ha, z2] at c6
                  omega
                · exact i4 m (by omega) hd
      · rw [if_neg c2]
        exact keep (fun z => c2 z.2.1)
    · rw [if_neg (by simp [c1])]
      exact keep (fun z => c1 z.1)
