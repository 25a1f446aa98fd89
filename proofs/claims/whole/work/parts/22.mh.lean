/-! loops: sums, searches, copies -/
def zsum (f : Nat → Int) : Nat → Int
  | 0 => 0
  | n + 1 => zsum f n + f n
def zfind (p : Nat → Bool) : Nat → Int
  | 0 => -1
  | n + 1 => if zfind p n = -1 then (if p n then (n : Int) else -1) else zfind p n
theorem z_upto (n : Nat) (P : Nat → Prop) (hx : P n) (hs : ∀ i, i < n → P (i + 1) → P i) : P 0 := by
  have key : ∀ k, k ≤ n → P (n - k) := by
    intro k
    induction k with
    | zero => intro _; exact hx
    | succ k ih =>
      intro hk
      have h1 := ih (by omega)
      have e : n - k = (n - (k + 1)) + 1 := by omega
      rw [e] at h1
      exact hs _ (by omega) h1
  have h := key n (Nat.le_refl n)
  rwa [Nat.sub_self] at h
theorem z_lcast {M : z_M} {d pc : Nat} {ls ls' : List (Nat × z_V)} {st : List z_V} {w : z_Wd} {Q : Option z_V → z_Wd → Prop} (h : ls = ls') (k : z_Wp M d pc ls' st w Q) : z_Wp M d pc ls st w Q := h ▸ k
theorem z_ci (c : Int) (i : Nat) : c + (i : Int) + 1 = c + ((i + 1 : Nat) : Int) := by omega
theorem zfind_hit {p : Nat → Bool} {i : Nat} (h : zfind p i = -1) (hp : p i = true) : ∀ n, i < n → zfind p n = i
  | 0, h2 => absurd h2 (Nat.not_lt_zero _)
  | n + 1, h2 => by
    by_cases e : i = n
    · subst e
      simp only [zfind, h, hp, if_true]
    · have := zfind_hit h hp n (by omega)
      simp only [zfind]
      rw [if_neg (by omega)]
      exact this
theorem zfind_miss {p : Nat → Bool} {i : Nat} (h : zfind p i = -1) (hp : ¬ p i = true) : zfind p (i + 1) = -1 := by
  simp only [zfind]
  rw [if_pos h, if_neg hp]
theorem zfind_r (p : Nat → Bool) : ∀ n, -1 ≤ zfind p n ∧ zfind p n < n
  | 0 => by simp [zfind]
  | n + 1 => by
    have := zfind_r p n
    simp only [zfind]
    split
    · split <;> omega
    · omega
theorem zfind_spec {p : Nat → Bool} : ∀ {n : Nat}, zfind p n ≠ -1 → p (zfind p n).toNat = true
  | 0, h => absurd rfl h
  | n + 1, h => by
    simp only [zfind] at h ⊢
    split at h
    · rename_i h1
      rw [if_pos h1]
      split at h
      · rename_i h2
        rw [if_pos h2]
        simpa using h2
      · exact absurd rfl h
    · rename_i h1
      rw [if_neg h1]
      exact zfind_spec h1
theorem zfind_none {p : Nat → Bool} : ∀ {n : Nat}, zfind p n = -1 → ∀ i, i < n → p i = false
  | 0, _, i, hi => absurd hi (Nat.not_lt_zero _)
  | n + 1, h, i, hi => by
    simp only [zfind] at h
    split at h
    · rename_i h1
      split at h
      · exact absurd h (by omega)
      · rename_i h2
        by_cases e : i = n
        · subst e
          simpa using h2
        · exact zfind_none h1 i (by omega)
    · exact absurd h (by assumption)
theorem zfind_least {p : Nat → Bool} {n i : Nat} (hi : i < n) (hp : p i = true) (hl : ∀ j, j < i → p j = false) : zfind p n = i := by
  have h : ∀ k, k ≤ i → zfind p k = -1 := by
    intro k
    induction k with
    | zero => intro _; rfl
    | succ k ih => intro hk; exact zfind_miss (ih (by omega)) (by rw [hl k (by omega)]; simp)
  exact zfind_hit (h i (Nat.le_refl i)) hp n hi
theorem zsum_r {f : Nat → Int} {b : Int} : ∀ n, (∀ i, i < n → 0 ≤ f i ∧ f i ≤ b) → 0 ≤ zsum f n ∧ zsum f n ≤ b * n
  | 0, _ => by simp [zsum]
  | n + 1, h => by
    have h1 := zsum_r n (fun i hi => h i (by omega))
    have h2 := h n (by omega)
    simp only [zsum]
    have e : b * ((n + 1 : Nat) : Int) = b * n + b := by rw [Int.natCast_succ, Int.mul_add, Int.mul_one]
    rw [e]
    omega
theorem zsum_c {f g : Nat → Int} : ∀ n, (∀ i, i < n → f i = g i) → zsum f n = zsum g n
  | 0, _ => rfl
  | n + 1, h => by
    simp only [zsum]
    rw [zsum_c n (fun i hi => h i (by omega)), h n (by omega)]
theorem z_cpy_0 {w : z_Wd} {s sp t tp : Nat} : z_cpy w s sp t tp 0 = w := by
  funext a b
  unfold z_cpy
  split
  · rw [if_neg (by omega)]
  · rfl
theorem z_cpy_s {w : z_Wd} {s sp t tp n i j : Nat} (h : s ≠ t ∨ tp ≤ sp) (hi : i = tp + n) (hj : j = sp + n) : z_up (z_cpy w s sp t tp n) t i (z_cpy w s sp t tp n s j) = z_cpy w s sp t tp (n + 1) := by
  subst hi
  subst hj
  have e : z_cpy w s sp t tp n s (sp + n) = w s (sp + n) := by
    unfold z_cpy
    split
    · rw [if_neg (by omega)]
    · rfl
  rw [e]
  funext a b
  unfold z_up z_cpy
  by_cases ha : a = t
  · subst ha
    simp only [if_true]
    by_cases hb : b = tp + n
    · subst hb
      rw [if_pos rfl, if_pos (by omega)]
      congr 2
      omega
    · rw [if_neg hb]
      by_cases hc : tp ≤ b ∧ b < tp + n
      · rw [if_pos hc, if_pos (by omega)]
      · rw [if_neg hc, if_neg (by omega)]
  · simp only [ha, if_false]
/-! what holds of the ministry that stands in the reference, and of its piles -/
def z_MO (w : z_Wd) : Prop := (∀ n : Int, 0 ≤ n → n < 7 → (0 ≤ w 17 (3 * n).toNat ∧ w 17 (3 * n).toNat ≤ 99) ∧ (0 ≤ w 17 (3 * n + 1).toNat ∧ w 17 (3 * n + 1).toNat ≤ 99) ∧ (0 ≤ w 17 (3 * n + 2).toNat ∧ w 17 (3 * n + 2).toNat ≤ 99)) ∧ (0 ≤ w 15 0 ∧ w 15 0 ≤ 3) ∧ (0 ≤ w 0 29 ∧ w 0 29 ≤ 7) ∧ (0 ≤ w 0 28 ∧ w 0 28 ≤ 4) ∧ (0 ≤ w 0 30 ∧ w 0 30 ≤ 6)
def z_PO (w : z_Wd) : Prop := ∀ a : Int, 0 ≤ a → a < 4 → (0 ≤ w 19 a.toNat ∧ w 19 a.toNat ≤ 7) ∧ ∀ i : Int, 0 ≤ i → i < w 19 a.toNat → 0 ≤ w 19 (4 + 7 * a + i).toNat ∧ w 19 (4 + 7 * a + i).toNat < 7
theorem z_drop {w : z_Wd} (h : z_MO w) {n : Int} (h0 : 0 ≤ n) (h1 : n < 7) : 0 ≤ w 17 (3 * n).toNat * w 15 0 ∧ w 17 (3 * n).toNat * w 15 0 ≤ 297 := by
  have e1 := (h.1 n h0 h1).1
  have e2 := h.2.1
  refine ⟨Int.mul_nonneg e1.1 e2.1, ?_⟩
  have := Int.mul_le_mul e1.2 e2.2 e2.1 (by omega)
  omega
def F_M_dropsIn (w : z_Wd) (a0 : Int) : Int := zsum (fun i => F_M_dropsOf w (w 19 (4 + 7 * a0 + (i : Int)).toNat)) (w 19 a0.toNat).toNat
def P_M_dropsIn (w : z_Wd) (a0 : Int) : Prop := z_MO w ∧ z_PO w ∧ 0 ≤ a0 ∧ a0 < 4
theorem c_M_dropsIn {d : Nat} {w : z_Wd} {a0 : Int} {Q : Option z_V → z_Wd → Prop} (h : P_M_dropsIn w a0) (k : Q (some (zI (F_M_dropsIn w a0))) w) : z_Wc (d + 2) m_X12_dropsIn [zR 0, zI a0] w Q := by
  obtain ⟨hm, hp, h0, h1⟩ := h
  obtain ⟨hl, he⟩ := hp a0 h0 h1
  refine v_M_dropsIn (z_upto (w 19 a0.toNat).toNat (fun i => z_Wp m_X12_dropsIn (d + 2) 4 [(0, zR 0), (1, zI a0), (2, zI (zsum (fun i => F_M_dropsOf w (w 19 (4 + 7 * a0 + (i : Int)).toNat)) i)), (3, zI (i : Int))] [] w Q) ?_ ?_)
  · exact v_M_dropsIn_4 ⟨by omega, by omega, by omega, fun _ => k, fun c => absurd c (by omega)⟩
  · intro i hi ih
    have := he i (by omega) (by omega)
    exact v_M_dropsIn_4 ⟨by omega, by omega, by omega, fun c => absurd c (by omega), fun _ => ⟨by omega, by omega, ih⟩⟩
theorem r_M_dropsIn {w : z_Wd} {a0 : Int} (h : P_M_dropsIn w a0) : 0 ≤ F_M_dropsIn w a0 ∧ F_M_dropsIn w a0 ≤ 2079 := by
  obtain ⟨hm, hp, h0, h1⟩ := h
  obtain ⟨hl, he⟩ := hp a0 h0 h1
  have := zsum_r (f := fun i => F_M_dropsOf w (w 19 (4 + 7 * a0 + (i : Int)).toNat)) (b := 297) (w 19 a0.toNat).toNat (fun i hi => by
    have := he i (by omega) (by omega)
    exact z_drop hm this.1 this.2)
  unfold F_M_dropsIn
  omega
def F_M_layerOf (w : z_Wd) (a0 a1 : Int) : Int := zfind (fun i => w 19 (4 + 7 * a0 + (i : Int)).toNat == a1) (w 19 a0.toNat).toNat
def P_M_layerOf (w : z_Wd) (a0 a1 : Int) : Prop := z_PO w ∧ (0 ≤ a0 ∧ a0 < 4) ∧ (-2147483648 ≤ a1 ∧ a1 < 2147483648)
theorem c_M_layerOf {d : Nat} {w : z_Wd} {a0 a1 : Int} {Q : Option z_V → z_Wd → Prop} (h : P_M_layerOf w a0 a1) (k : Q (some (zI (F_M_layerOf w a0 a1))) w) : z_Wc (d + 1) m_X12_layerOf [zR 0, zI a0, zI a1] w Q := by
  obtain ⟨hp, h0, h1⟩ := h
  obtain ⟨hl, he⟩ := hp a0 h0.1 h0.2
  unfold F_M_layerOf at k
  refine v_M_layerOf (z_upto (w 19 a0.toNat).toNat (fun i => zfind (fun i => w 19 (4 + 7 * a0 + (i : Int)).toNat == a1) i = -1 → z_Wp m_X12_layerOf (d + 1) 2 [(0, zR 0), (1, zI a0), (2, zI a1), (3, zI (i : Int))] [] w Q) ?_ ?_ rfl)
  · intro hf
    rw [hf] at k
    exact v_M_layerOf_2 ⟨by omega, by omega, by omega, fun _ => k, fun c => absurd c (by omega)⟩
  · intro i hi ih hf
    have := he i (by omega) (by omega)
    refine v_M_layerOf_2 ⟨by omega, by omega, by omega, fun c => absurd c (by omega), fun _ => ⟨by omega, by omega, h1, fun c => ?_, fun c => ih (zfind_miss hf (by simpa using c))⟩⟩
    rw [zfind_hit hf (by simpa using c) _ hi] at k
    exact k
def F_M_aboveAt (w : z_Wd) (a0 a1 : Int) : Int := zsum (fun i => F_M_dropsOf w (w 19 (4 + 7 * a0 + (a1 + 1 + (i : Int))).toNat)) (w 19 a0.toNat - (a1 + 1)).toNat
def P_M_aboveAt (w : z_Wd) (a0 a1 : Int) : Prop := z_MO w ∧ z_PO w ∧ (0 ≤ a0 ∧ a0 < 4) ∧ (0 ≤ a1 ∧ a1 < w 19 a0.toNat)
theorem c_M_aboveAt {d : Nat} {w : z_Wd} {a0 a1 : Int} {Q : Option z_V → z_Wd → Prop} (h : P_M_aboveAt w a0 a1) (k : Q (some (zI (F_M_aboveAt w a0 a1))) w) : z_Wc (d + 2) m_X12_aboveAt [zR 0, zI a0, zI a1] w Q := by
  obtain ⟨hm, hp, h0, h1⟩ := h
  obtain ⟨hl, he⟩ := hp a0 h0.1 h0.2
  have e0 : a1 + 1 = a1 + 1 + ((0 : Nat) : Int) := by omega
  refine v_M_aboveAt ?_
  rw [e0]
  refine z_upto (w 19 a0.toNat - (a1 + 1)).toNat (fun i => z_Wp m_X12_aboveAt (d + 2) 7 [(0, zR 0), (1, zI a0), (3, zI (zsum (fun i => F_M_dropsOf w (w 19 (4 + 7 * a0 + (a1 + 1 + (i : Int))).toNat)) i)), (4, zI (a1 + 1 + (i : Int)))] [] w Q) ?_ ?_
  · exact v_M_aboveAt_7 ⟨by omega, by omega, by omega, fun _ => k, fun c => absurd c (by omega)⟩
  · intro i hi ih
    have := he (a1 + 1 + i) (by omega) (by omega)
    exact v_M_aboveAt_7 ⟨by omega, by omega, by omega, fun c => absurd c (by omega), fun _ => ⟨by omega, by omega, by rw [show a1 + 1 + (i : Int) + 1 = a1 + 1 + ((i + 1 : Nat) : Int) by omega]; exact ih⟩⟩
theorem r_M_aboveAt {w : z_Wd} {a0 a1 : Int} (h : P_M_aboveAt w a0 a1) : 0 ≤ F_M_aboveAt w a0 a1 ∧ F_M_aboveAt w a0 a1 ≤ 2079 := by
  obtain ⟨hm, hp, h0, h1⟩ := h
  obtain ⟨hl, he⟩ := hp a0 h0.1 h0.2
  have := zsum_r (f := fun i => F_M_dropsOf w (w 19 (4 + 7 * a0 + (a1 + 1 + (i : Int))).toNat)) (b := 297) (w 19 a0.toNat - (a1 + 1)).toNat (fun i hi => by
    have := he (a1 + 1 + i) (by omega) (by omega)
    exact z_drop hm this.1 this.2)
  unfold F_M_aboveAt
  omega
