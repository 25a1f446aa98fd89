/-! Pens.restAt: the i-th rest of the hundred, by its number 10 x + y -/
def z_rp (w : z_Wd) (a0 a1 : Int) (k : Nat) : Bool := F_N_hasNoBetter w a0 ((k / 10 : Nat) : Int) ((k % 10 : Nat) : Int) != 0 && F_N_hasNoBetter w a1 ((k % 10 : Nat) : Int) ((k / 10 : Nat) : Int) != 0
def z_rn (w : z_Wd) (a0 a1 : Int) (k : Nat) : Int := zsum (fun i => if z_rp w a0 a1 i then 1 else 0) k
def z_rh (w : z_Wd) (a0 a1 a2 : Int) (k : Nat) : Bool := z_rp w a0 a1 k && (z_rn w a0 a1 k == a2)
def P_N_restAt (w : z_Wd) (a0 a1 a2 : Int) : Prop := (∀ x y : Nat, x < 10 → y < 10 → P_N_hasNoBetter w a0 (x : Int) (y : Int) ∧ P_N_hasNoBetter w a1 (y : Int) (x : Int)) ∧ (-2147483648 ≤ a2 ∧ a2 < 2147483648)
def F_N_restAt (w : z_Wd) (a0 a1 a2 : Int) : Int := zfind (z_rh w a0 a1 a2) 100
theorem z_rn_r (w : z_Wd) (a0 a1 : Int) (k : Nat) : 0 ≤ z_rn w a0 a1 k ∧ z_rn w a0 a1 k ≤ 1 * k := zsum_r k (fun i _ => by split <;> omega)
theorem z_rp_at {w : z_Wd} {a0 a1 : Int} {x y : Nat} (hy : y < 10) : z_rp w a0 a1 (10 * x + y) = (F_N_hasNoBetter w a0 (x : Int) (y : Int) != 0 && F_N_hasNoBetter w a1 (y : Int) (x : Int) != 0) := by
  unfold z_rp
  rw [show (10 * x + y) / 10 = x by omega, show (10 * x + y) % 10 = y by omega]
theorem z_rn_y {w : z_Wd} {a0 a1 : Int} {k : Nat} (h : z_rp w a0 a1 k = true) : z_rn w a0 a1 (k + 1) = z_rn w a0 a1 k + 1 := by
  unfold z_rn
  simp only [zsum, h, if_true]
theorem z_rn_n {w : z_Wd} {a0 a1 : Int} {k : Nat} (h : z_rp w a0 a1 k = false) : z_rn w a0 a1 (k + 1) = z_rn w a0 a1 k := by
  unfold z_rn
  simp only [zsum, h]
  simp
theorem z_rh_n {w : z_Wd} {a0 a1 a2 : Int} {k : Nat} (h : z_rp w a0 a1 k = false) : ¬ z_rh w a0 a1 a2 k = true := by
  unfold z_rh
  rw [h]
  simp
theorem z_rh_y {w : z_Wd} {a0 a1 a2 : Int} {k : Nat} (h : z_rp w a0 a1 k = true) (c : z_rn w a0 a1 k = a2) : z_rh w a0 a1 a2 k = true := by
  unfold z_rh
  rw [h, c]
  simp
theorem z_rh_m {w : z_Wd} {a0 a1 a2 : Int} {k : Nat} (h : z_rp w a0 a1 k = true) (c : ¬ z_rn w a0 a1 k = a2) : ¬ z_rh w a0 a1 a2 k = true := by
  unfold z_rh
  rw [h]
  simpa using c
theorem c_N_restAt {d : Nat} {w : z_Wd} {a0 a1 a2 : Int} {Q : Option z_V → z_Wd → Prop} (h : P_N_restAt w a0 a1 a2) (k : Q (some (zI (F_N_restAt w a0 a1 a2))) w) : z_Wc (d + 4) m_X8_restAt [zR 76, zI a0, zI a1, zI a2] w Q := by
  obtain ⟨hp, h2⟩ := h
  unfold F_N_restAt at k
  refine v_N_restAt (z_upto 10 (fun x => zfind (z_rh w a0 a1 a2) (10 * x) = -1 → z_Wp m_X8_restAt (d + 4) 6 [(0, zR 76), (1, zI a0), (2, zI a1), (3, zI a2), (4, zI (z_rn w a0 a1 (10 * x))), (5, zI (x : Int))] [] w Q) ?_ ?_ rfl)
  · intro hf
    rw [hf] at k
    exact v_N_restAt_6 ⟨by omega, fun _ => k, fun c => absurd c (by omega)⟩
  · intro x hx ih hf
    refine v_N_restAt_6 ⟨by omega, fun c => absurd c (by omega), fun _ => ?_⟩
    refine z_upto 10 (fun y => zfind (z_rh w a0 a1 a2) (10 * x + y) = -1 → z_Wp m_X8_restAt (d + 4) 16 [(0, zR 76), (1, zI a0), (2, zI a1), (3, zI a2), (4, zI (z_rn w a0 a1 (10 * x + y))), (5, zI (x : Int)), (6, zI (y : Int))] [] w Q) ?_ ?_ hf
    · intro hf2
      exact v_N_restAt_16 ⟨by omega, fun _ => ih hf2, fun c => absurd c (by omega)⟩
    · intro y hy ih2 hf2
      have hr := z_rn_r w a0 a1 (10 * x + y)
      have hat := z_rp_at (w := w) (a0 := a0) (a1 := a1) (x := x) hy
      have no : z_rp w a0 a1 (10 * x + y) = false → z_Wp m_X8_restAt (d + 4) 16 [(0, zR 76), (1, zI a0), (2, zI a1), (3, zI a2), (4, zI (z_rn w a0 a1 (10 * x + y))), (5, zI (x : Int)), (6, zI ((y : Int) + 1))] [] w Q := by
        intro hn
        have h1 := ih2 (zfind_miss hf2 (z_rh_n hn))
        rw [show 10 * x + (y + 1) = (10 * x + y) + 1 by omega, z_rn_n hn] at h1
        exact h1
      refine v_N_restAt_16 ⟨by omega, fun c => absurd c (by omega), fun _ => ⟨(hp x y hx hy).1, fun c => no (by rw [hat, c]; rfl), fun c => ⟨(hp x y hx hy).2, fun c2 => no (by rw [hat, c2]; simp), fun c2 => ?_⟩⟩⟩
      have yes : z_rp w a0 a1 (10 * x + y) = true := by
        rw [hat]
        simp [c, c2]
      refine ⟨by omega, h2, fun c3 => ?_, fun c3 => ?_⟩
      · rw [zfind_hit hf2 (z_rh_y yes c3) 100 (by omega)] at k
        rw [show ((10 * x + y : Nat) : Int) = 10 * (x : Int) + (y : Int) by omega] at k
        exact k
      · have h1 := ih2 (zfind_miss hf2 (z_rh_m yes c3))
        rw [show 10 * x + (y + 1) = (10 * x + y) + 1 by omega, z_rn_y yes] at h1
        exact h1
