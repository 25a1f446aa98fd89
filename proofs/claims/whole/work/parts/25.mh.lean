theorem r_M_layerOf {w : z_Wd} {a0 a1 : Int} (h : z_PO w) (h0 : 0 ≤ a0 ∧ a0 < 4) : -1 ≤ F_M_layerOf w a0 a1 ∧ F_M_layerOf w a0 a1 < 7 := by
  have h1 := (h a0 h0.1 h0.2).1
  have h2 := zfind_r (fun i => w 19 (4 + 7 * a0 + (i : Int)).toNat == a1) (w 19 a0.toNat).toNat
  unfold F_M_layerOf
  omega
def F_M_wellOf (w : z_Wd) (a0 : Int) : Int := zfind (fun a => F_M_layerOf w (a : Int) a0 != -1) (w 0 28).toNat
def P_M_wellOf (w : z_Wd) (a0 : Int) : Prop := z_PO w ∧ (0 ≤ w 0 28 ∧ w 0 28 ≤ 4) ∧ (-2147483648 ≤ a0 ∧ a0 < 2147483648)
theorem r_M_wellOf {w : z_Wd} {a0 : Int} (h : 0 ≤ w 0 28 ∧ w 0 28 ≤ 4) : -1 ≤ F_M_wellOf w a0 ∧ F_M_wellOf w a0 < w 0 28 ∧ F_M_wellOf w a0 < 4 := by
  have h2 := zfind_r (fun a => F_M_layerOf w (a : Int) a0 != -1) (w 0 28).toNat
  unfold F_M_wellOf
  omega
theorem c_M_wellOf {d : Nat} {w : z_Wd} {a0 : Int} {Q : Option z_V → z_Wd → Prop} (h : P_M_wellOf w a0) (k : Q (some (zI (F_M_wellOf w a0))) w) : z_Wc (d + 2) m_X12_wellOf [zR 0, zI a0] w Q := by
  obtain ⟨hp, hw, h1⟩ := h
  unfold F_M_wellOf at k
  refine v_M_wellOf (z_upto (w 0 28).toNat (fun i => zfind (fun a => F_M_layerOf w (a : Int) a0 != -1) i = -1 → z_Wp m_X12_wellOf (d + 2) 2 [(0, zR 0), (1, zI a0), (2, zI (i : Int))] [] w Q) ?_ ?_ rfl)
  · intro hf
    rw [hf] at k
    exact v_M_wellOf_2 ⟨by omega, by omega, fun _ => k, fun c => absurd c (by omega)⟩
  · intro i hi ih hf
    have hr := r_M_layerOf (a0 := (i : Int)) (a1 := a0) hp (by omega)
    refine v_M_wellOf_2 ⟨by omega, by omega, fun c => absurd c (by omega), fun _ => ⟨⟨hp, by omega, h1⟩, by omega, fun c => ih (zfind_miss hf (by simpa using c)), fun c => ?_⟩⟩
    rw [zfind_hit hf (by simpa using c) _ hi] at k
    exact k
def F_M_reachedBy (w : z_Wd) (a0 a1 : Int) : Int := zfind (fun i => decide (F_M_dropsOf w (w 19 (4 + 7 * a0 + (i : Int)).toNat) + F_M_aboveAt w a0 (i : Int) ≤ a1)) (w 19 a0.toNat).toNat
def P_M_reachedBy (w : z_Wd) (a0 a1 : Int) : Prop := z_MO w ∧ z_PO w ∧ (0 ≤ a0 ∧ a0 < 4) ∧ (-2147483648 ≤ a1 ∧ a1 < 2147483648)
theorem r_M_reachedBy {w : z_Wd} {a0 a1 : Int} (h : z_PO w) (h0 : 0 ≤ a0 ∧ a0 < 4) : -1 ≤ F_M_reachedBy w a0 a1 ∧ F_M_reachedBy w a0 a1 < w 19 a0.toNat ∧ F_M_reachedBy w a0 a1 < 7 := by
  have h1 := (h a0 h0.1 h0.2).1
  have h2 := zfind_r (fun i => decide (F_M_dropsOf w (w 19 (4 + 7 * a0 + (i : Int)).toNat) + F_M_aboveAt w a0 (i : Int) ≤ a1)) (w 19 a0.toNat).toNat
  unfold F_M_reachedBy
  omega
theorem c_M_reachedBy {d : Nat} {w : z_Wd} {a0 a1 : Int} {Q : Option z_V → z_Wd → Prop} (h : P_M_reachedBy w a0 a1) (k : Q (some (zI (F_M_reachedBy w a0 a1))) w) : z_Wc (d + 3) m_X12_reachedBy [zR 0, zI a0, zI a1] w Q := by
  obtain ⟨hm, hp, h0, h1⟩ := h
  obtain ⟨hl, he⟩ := hp a0 h0.1 h0.2
  unfold F_M_reachedBy at k
  refine v_M_reachedBy (z_upto (w 19 a0.toNat).toNat (fun i => zfind (fun i => decide (F_M_dropsOf w (w 19 (4 + 7 * a0 + (i : Int)).toNat) + F_M_aboveAt w a0 (i : Int) ≤ a1)) i = -1 → z_Wp m_X12_reachedBy (d + 3) 2 [(0, zR 0), (1, zI a0), (2, zI a1), (3, zI (i : Int))] [] w Q) ?_ ?_ rfl)
  · intro hf
    rw [hf] at k
    exact v_M_reachedBy_2 ⟨by omega, by omega, by omega, fun _ => k, fun c => absurd c (by omega)⟩
  · intro i hi ih hf
    have := he i (by omega) (by omega)
    have hd := z_drop hm this.1 this.2
    have hP : P_M_aboveAt w a0 (i : Int) := ⟨hm, hp, h0, by omega⟩
    have hr := r_M_aboveAt hP
    refine v_M_reachedBy_2 ⟨by omega, by omega, by omega, fun c => absurd c (by omega), fun _ => ⟨by omega, by omega, hP, by omega, h1, fun c => ih (zfind_miss hf ?_), fun c => ?_⟩⟩
    · have c2 : ¬ (F_M_dropsOf w (w 19 (4 + 7 * a0 + (i : Int)).toNat) + F_M_aboveAt w a0 (i : Int) ≤ a1) := by unfold F_M_dropsOf; omega
      simpa using c2
    · have c2 : F_M_dropsOf w (w 19 (4 + 7 * a0 + (i : Int)).toNat) + F_M_aboveAt w a0 (i : Int) ≤ a1 := by unfold F_M_dropsOf; omega
      rw [zfind_hit hf (by simpa using c2) _ hi] at k
      exact k
def B_M_knownBy (w : z_Wd) (a0 : Int) : Nat → Bool := fun o => w 17 (3 * (o : Int) + 1).toNat == a0
def F_M_knownBy (w : z_Wd) (a0 : Int) : Int := (zbits (B_M_knownBy w a0) (w 0 29).toNat : Nat)
def P_M_knownBy (w : z_Wd) (a0 : Int) : Prop := z_MO w ∧ (-2147483648 ≤ a0 ∧ a0 < 2147483648)
theorem z_pow7 {n : Nat} (h : n ≤ 7) : 2 ^ n ≤ 128 := (Nat.pow_le_pow_right (by decide) h : 2 ^ n ≤ 2 ^ 7)
theorem zbits_y {p : Nat → Bool} {n : Nat} (h : p n = true) : zbits p (n + 1) = zbits p n + 2 ^ n := by
  simp only [zbits]
  rw [if_pos h]
theorem zbits_n {p : Nat → Bool} {n : Nat} (h : ¬ p n = true) : zbits p (n + 1) = zbits p n := by
  simp only [zbits]
  rw [if_neg h]
  rfl
theorem r_M_knownBy {w : z_Wd} {a0 : Int} (h : 0 ≤ w 0 29 ∧ w 0 29 ≤ 7) : 0 ≤ F_M_knownBy w a0 ∧ F_M_knownBy w a0 < 128 := by
  have h1 := zbits_lt (B_M_knownBy w a0) (w 0 29).toNat
  have h2 := z_pow7 (n := (w 0 29).toNat) (by omega)
  unfold F_M_knownBy
  omega
theorem c_M_knownBy {d : Nat} {w : z_Wd} {a0 : Int} {Q : Option z_V → z_Wd → Prop} (h : P_M_knownBy w a0) (k : Q (some (zI (F_M_knownBy w a0))) w) : z_Wc (d + 1) m_X12_knownBy [zR 0, zI a0] w Q := by
  obtain ⟨hm, h1⟩ := h
  have hn := hm.2.2.1
  refine v_M_knownBy (z_upto (w 0 29).toNat (fun i => z_Wp m_X12_knownBy (d + 1) 4 [(0, zR 0), (1, zI a0), (2, zI ((zbits (B_M_knownBy w a0) i : Nat) : Int)), (3, zI (i : Int))] [] w Q) ?_ ?_)
  · exact v_M_knownBy_4 ⟨by omega, by omega, fun _ => k, fun c => absurd c (by omega)⟩
  · intro i hi ih
    have hk := (hm.1 i (by omega) (by omega)).2.1
    have hl := zbits_lt (B_M_knownBy w a0) i
    have h2 := z_pow7 (n := i) (by omega)
    refine v_M_knownBy_4 ⟨by omega, by omega, fun c => absurd c (by omega), fun _ => ⟨by omega, by omega, h1, fun c => ?_, fun c => ?_⟩⟩
    · rw [zbits_or (by omega), ← zbits_y (by simpa [B_M_knownBy] using c)]
      exact ih
    · rw [zbits_or0 (by omega), ← zbits_n (by simpa [B_M_knownBy] using c)]
      exact ih
theorem z_cpy_at {w : z_Wd} {s sp t tp n a b : Nat} (h : a ≠ t ∨ b < tp ∨ tp + n ≤ b) : z_cpy w s sp t tp n a b = w a b := by
  unfold z_cpy
  split
  · rw [if_neg (by omega)]
  · rfl
def F_M_riseNow (w : z_Wd) (a0 a1 : Int) : Int × z_Wd := (w 19 (4 + 7 * a0 + a1).toNat, z_up (z_cpy w 19 (4 + 7 * a0 + a1 + 1).toNat 19 (4 + 7 * a0 + a1).toNat (w 19 a0.toNat - (a1 + 1)).toNat) 19 a0.toNat (w 19 a0.toNat - 1))
def P_M_riseNow (w : z_Wd) (a0 a1 : Int) : Prop := (0 ≤ a0 ∧ a0 < 4) ∧ (0 ≤ a1 ∧ a1 < w 19 a0.toNat) ∧ w 19 a0.toNat ≤ 7
theorem c_M_riseNow {d : Nat} {w : z_Wd} {a0 a1 : Int} {Q : Option z_V → z_Wd → Prop} (h : P_M_riseNow w a0 a1) (k : Q (some (zI (F_M_riseNow w a0 a1).1)) (F_M_riseNow w a0 a1).2) : z_Wc (d + 1) m_X12_riseNow [zR 0, zI a0, zI a1] w Q := by
  obtain ⟨h0, h1, h2⟩ := h
  refine v_M_riseNow ⟨by omega, ?_⟩
  have hb : ∀ i, z_cpy w 19 (4 + 7 * a0 + a1 + 1).toNat 19 (4 + 7 * a0 + a1).toNat i 19 a0.toNat = w 19 a0.toNat := fun i => z_cpy_at (by omega)
  have key := z_upto (w 19 a0.toNat - (a1 + 1)).toNat (fun i => z_Wp m_X12_riseNow (d + 1) 12 [(0, zR 0), (1, zI a0), (3, zI (w 19 (4 + 7 * a0 + a1).toNat)), (4, zI (a1 + 1 + (i : Int)))] [] (z_cpy w 19 (4 + 7 * a0 + a1 + 1).toNat 19 (4 + 7 * a0 + a1).toNat i) Q) ?_ ?_
  · rw [z_cpy_0, show a1 + 1 + ((0 : Nat) : Int) = a1 + 1 by omega] at key
    exact key
  · refine v_M_riseNow_12 ?_
    rw [hb]
    exact ⟨by omega, by omega, by omega, fun _ => k, fun c => absurd c (by omega)⟩
  · intro i hi ih
    refine v_M_riseNow_12 ?_
    rw [hb]
    refine ⟨by omega, by omega, by omega, fun c => absurd c (by omega), fun _ => ⟨by omega, by omega, ?_⟩⟩
    rw [z_cpy_s (Or.inr (by omega)) (by omega) (by omega), show a1 + 1 + (i : Int) + 1 = a1 + 1 + ((i + 1 : Nat) : Int) by omega]
    exact ih
def F_M_putAside (w : z_Wd) (a0 : Int) : z_Wd := z_cpy w 19 0 22 (39 * a0).toNat 39
def P_M_putAside (w : z_Wd) (a0 : Int) : Prop := 0 ≤ a0 ∧ a0 < 9
theorem c_M_putAside {d : Nat} {w : z_Wd} {a0 : Int} {Q : Option z_V → z_Wd → Prop} (h : P_M_putAside w a0) (k : Q none (F_M_putAside w a0)) : z_Wc d m_X12_putAside [zR 0, zI a0] w Q := by
  unfold P_M_putAside at h
  refine v_M_putAside ?_
  have key := z_upto 39 (fun i => z_Wp m_X12_putAside d 2 [(0, zR 0), (1, zI a0), (2, zI (i : Int))] [] (z_cpy w 19 0 22 (39 * a0).toNat i) Q) ?_ ?_
  · rw [z_cpy_0] at key
    exact key
  · exact v_M_putAside_2 ⟨by omega, fun _ => k, fun c => absurd c (by omega)⟩
  · intro i hi ih
    refine v_M_putAside_2 ⟨by omega, fun c => absurd c (by omega), fun _ => ⟨by omega, by omega, ?_⟩⟩
    rw [z_cpy_s (Or.inl (by decide)) (by omega) (by omega)]
    exact ih
def F_M_takeBack (w : z_Wd) (a0 : Int) : z_Wd := z_cpy w 22 (39 * a0).toNat 19 0 39
def P_M_takeBack (w : z_Wd) (a0 : Int) : Prop := 0 ≤ a0 ∧ a0 < 9
theorem c_M_takeBack {d : Nat} {w : z_Wd} {a0 : Int} {Q : Option z_V → z_Wd → Prop} (h : P_M_takeBack w a0) (k : Q none (F_M_takeBack w a0)) : z_Wc d m_X12_takeBack [zR 0, zI a0] w Q := by
  unfold P_M_takeBack at h
  refine v_M_takeBack ?_
  have key := z_upto 39 (fun i => z_Wp m_X12_takeBack d 2 [(0, zR 0), (1, zI a0), (2, zI (i : Int))] [] (z_cpy w 22 (39 * a0).toNat 19 0 i) Q) ?_ ?_
  · rw [z_cpy_0] at key
    exact key
  · exact v_M_takeBack_2 ⟨by omega, fun _ => k, fun c => absurd c (by omega)⟩
  · intro i hi ih
    refine v_M_takeBack_2 ⟨by omega, fun c => absurd c (by omega), fun _ => ⟨by omega, by omega, ?_⟩⟩
    rw [z_cpy_s (Or.inl (by decide)) (by omega) (by omega)]
    exact ih
def z_kept (w : z_Wd) : z_Wd := if w 0 36 = 40 then z_up (z_cpy w 21 160 21 0 6240) 0 36 (w 0 36 - 1) else w
def F_M_keep (w : z_Wd) : z_Wd := z_up (z_cpy (z_kept w) 19 0 21 (160 * z_kept w 0 36).toNat 160) 0 36 (z_kept w 0 36 + 1)
def P_M_keep (w : z_Wd) : Prop := 0 ≤ w 0 36 ∧ w 0 36 ≤ 40
theorem z_keep2 {d : Nat} {w : z_Wd} {Q : Option z_V → z_Wd → Prop} (h : 0 ≤ w 0 36 ∧ w 0 36 < 40) (k : Q none (z_up (z_cpy w 19 0 21 (160 * w 0 36).toNat 160) 0 36 (w 0 36 + 1))) : z_Wp m_X12_keep d 54 [(0, zR 0), (1, zI 0)] [] w Q := by
  have hb : ∀ i, z_cpy w 19 0 21 (160 * w 0 36).toNat i 0 36 = w 0 36 := fun i => z_cpy_at (by omega)
  have key := z_upto 160 (fun i => z_Wp m_X12_keep d 54 [(0, zR 0), (1, zI (i : Int))] [] (z_cpy w 19 0 21 (160 * w 0 36).toNat i) Q) ?_ ?_
  · rw [z_cpy_0] at key
    exact key
  · refine v_M_keep_54 ?_
    rw [hb]
    exact ⟨by omega, fun _ => k, fun c => absurd c (by omega)⟩
  · intro i hi ih
    refine v_M_keep_54 ?_
    rw [hb]
    refine ⟨by omega, fun c => absurd c (by omega), fun _ => ⟨by omega, by omega, ?_⟩⟩
    rw [z_cpy_s (Or.inl (by decide)) (by omega) (by omega)]
    exact ih
theorem c_M_keep {d : Nat} {w : z_Wd} {Q : Option z_V → z_Wd → Prop} (h : P_M_keep w) (k : Q none (F_M_keep w)) : z_Wc d m_X12_keep [zR 0] w Q := by
  unfold P_M_keep at h
  unfold F_M_keep at k
  refine v_M_keep ⟨by omega, fun c => ?_, fun c => ?_⟩
  · have e : z_kept w = z_up (z_cpy w 21 160 21 0 6240) 0 36 (w 0 36 - 1) := by rw [z_kept, if_pos c]
    have hb : ∀ i, z_cpy w 21 160 21 0 i 0 36 = w 0 36 := fun i => z_cpy_at (by omega)
    have key := z_upto 6240 (fun i => z_Wp m_X12_keep d 13 [(0, zR 0), (1, zI (160 + (i : Int)))] [] (z_cpy w 21 160 21 0 i) Q) ?_ ?_
    · rw [z_cpy_0] at key
      exact key
    · refine v_M_keep_13 ?_
      rw [hb]
      refine ⟨by omega, fun _ => ?_, fun c => absurd c (by omega)⟩
      rw [← e]
      have e2 : z_kept w 0 36 = 39 := by rw [e, z_up_at]; omega
      exact z_keep2 (by omega) k
    · intro i hi ih
      refine v_M_keep_13 ?_
      refine ⟨by omega, fun c => absurd c (by omega), fun _ => ⟨by omega, by omega, ?_⟩⟩
      rw [z_cpy_s (Or.inr (by omega)) (by omega) (by omega), show 160 + (i : Int) + 1 = 160 + ((i + 1 : Nat) : Int) by omega]
      exact ih
  · have e : z_kept w = w := by rw [z_kept, if_neg c]
    rw [e] at k
    exact z_keep2 (by omega) k
def F_M_undo (w : z_Wd) : Int × z_Wd := if w 0 36 = 0 then (-1, w) else (w 0 36 - 1, z_cpy (z_up w 0 36 (w 0 36 - 1)) 21 (160 * (w 0 36 - 1)).toNat 19 0 160)
def P_M_undo (w : z_Wd) : Prop := 0 ≤ w 0 36 ∧ w 0 36 ≤ 40
theorem c_M_undo {d : Nat} {w : z_Wd} {Q : Option z_V → z_Wd → Prop} (h : P_M_undo w) (k : Q (some (zI (F_M_undo w).1)) (F_M_undo w).2) : z_Wc d m_X12_undo [zR 0] w Q := by
  unfold P_M_undo at h
  unfold F_M_undo at k
  refine v_M_undo ⟨by omega, fun c => ?_, fun c => ?_⟩
  · rw [if_pos c] at k
    exact k
  · rw [if_neg c] at k
    have hb : ∀ i, z_cpy (z_up w 0 36 (w 0 36 - 1)) 21 (160 * (w 0 36 - 1)).toNat 19 0 i 0 36 = w 0 36 - 1 := fun i => by rw [z_cpy_at (by omega), z_up_at]
    have key := z_upto 160 (fun i => z_Wp m_X12_undo d 21 [(0, zR 0), (1, zI (i : Int))] [] (z_cpy (z_up w 0 36 (w 0 36 - 1)) 21 (160 * (w 0 36 - 1)).toNat 19 0 i) Q) ?_ ?_
    · rw [z_cpy_0] at key
      exact key
    · refine v_M_undo_21 ?_
      rw [hb]
      exact ⟨by omega, fun _ => k, fun c => absurd c (by omega)⟩
    · intro i hi ih
      refine v_M_undo_21 ?_
      rw [hb]
      refine ⟨by omega, fun c => absurd c (by omega), fun _ => ⟨by omega, by omega, ?_⟩⟩
      rw [z_cpy_s (Or.inl (by decide)) (by omega) (by omega)]
      exact ih
def F_M_image (w : z_Wd) : Int × z_Wd := if w 0 29 = 0 then (-1, w) else (w 19 38, z_up (z_cpy w 19 0 25 0 160) 0 45 1)
def P_M_image (w : z_Wd) : Prop := -2147483648 ≤ w 0 29 ∧ w 0 29 < 2147483648
theorem c_M_image {d : Nat} {w : z_Wd} {Q : Option z_V → z_Wd → Prop} (h : P_M_image w) (k : Q (some (zI (F_M_image w).1)) (F_M_image w).2) : z_Wc d m_X12_image [zR 0] w Q := by
  unfold F_M_image at k
  refine v_M_image ⟨h, fun c => ?_, fun c => ?_⟩
  · rw [if_pos c] at k
    exact k
  · rw [if_neg c] at k
    have key := z_upto 160 (fun i => z_Wp m_X12_image d 11 [(0, zR 0), (1, zI (i : Int))] [] (z_cpy w 19 0 25 0 i) Q) ?_ ?_
    · rw [z_cpy_0] at key
      exact key
    · refine v_M_image_11 ⟨by omega, fun _ => ?_, fun c => absurd c (by omega)⟩
      rw [z_cpy_at (by omega)]
      exact k
    · intro i hi ih
      refine v_M_image_11 ⟨by omega, fun c => absurd c (by omega), fun _ => ⟨by omega, ?_⟩⟩
      rw [z_cpy_s (Or.inl (by decide)) (by omega) (by omega)]
      exact ih
def F_M_back (w : z_Wd) : Int × z_Wd := if w 0 45 = 0 then (-1, w) else (w 25 38, z_up (z_cpy w 25 0 19 0 160) 0 36 0)
def P_M_back (w : z_Wd) : Prop := -2147483648 ≤ w 0 45 ∧ w 0 45 < 2147483648
theorem c_M_back {d : Nat} {w : z_Wd} {Q : Option z_V → z_Wd → Prop} (h : P_M_back w) (k : Q (some (zI (F_M_back w).1)) (F_M_back w).2) : z_Wc d m_X12_back [zR 0] w Q := by
  unfold F_M_back at k
  refine v_M_back ⟨h, fun c => ?_, fun c => ?_⟩
  · rw [if_pos c] at k
    exact k
  · rw [if_neg c] at k
    have key := z_upto 160 (fun i => z_Wp m_X12_back d 11 [(0, zR 0), (1, zI (i : Int))] [] (z_cpy w 25 0 19 0 i) Q) ?_ ?_
    · rw [z_cpy_0] at key
      exact key
    · refine v_M_back_11 ⟨by omega, fun _ => ?_, fun c => absurd c (by omega)⟩
      have e : z_cpy w 25 0 19 0 160 19 38 = w 25 38 := by unfold z_cpy; simp
      rw [e]
      exact k
    · intro i hi ih
      refine v_M_back_11 ⟨by omega, fun c => absurd c (by omega), fun _ => ⟨by omega, ?_⟩⟩
      rw [z_cpy_s (Or.inl (by decide)) (by omega) (by omega)]
      exact ih
