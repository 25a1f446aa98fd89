/-! the law's pieces: two and what joins them -/
set_option maxHeartbeats 1000000 in
theorem q_two {w v w1 v1 w2 v2 w3 v3 w4 v4 : z_Wd} {b1 b2 b : Bool} {d1 d2 nd n1 n2 : Nat} {c : Int} (hL : 0 ≤ w 0 14 ∧ w 0 14 < 5) (ha : 0 ≤ w 4 (w 0 14).toNat) (hk : 0 ≤ v 38 2) (h1 : q_G b1 d1 w v w1 v1 n1) (m : q_fr w1 v1 w2 v2) (m4 : w2 4 = w1 4) (m2 : w2 2 = w1 2) (m3 : w2 3 = w1 3) (m39 : v2 39 = v1 39) (m38 : v2 38 2 = v1 38 2) (m37 : v1 37 2 + 1 ≤ v2 37 2) (h2 : q_G b2 d2 w2 v2 w3 v3 n2) (f4 : q_fr w3 v3 w4 v4) (e4 : w4 4 (w 0 14).toNat = w3 4 (w 0 14).toNat + 1) (e2 : ∀ i : Nat, w4 2 (520 * (w 0 14).toNat + i) = if (i : Int) = w3 4 (w 0 14).toNat then c else w3 2 (520 * (w 0 14).toNat + i)) (e3 : ∀ i : Nat, w4 3 (520 * (w 0 14).toNat + i) = if (i : Int) = w3 4 (w 0 14).toNat then 0 else w3 3 (520 * (w 0 14).toNat + i)) (d38 : v4 38 2 = v3 38 2 + 1) (d39 : ∀ i : Nat, v4 39 i = if (i : Int) = v3 38 2 then l_sg c * 10000 + 0 else v3 39 i) (d37 : v4 37 2 = v3 37 2) (ty : ∀ s, l_ty c (b2 :: b1 :: s) = some (b :: s)) (hv : l_va c 0) (hd : d1 ≤ nd ∧ d2 + 1 ≤ nd) : q_G b nd w v w4 v4 (n1 + n2 + 1) := by
  obtain ⟨f1, p1, a4, a38, a37, asq, arun, apre, ap39⟩ := h1
  have L1 : w1 0 14 = w 0 14 := fr_f f1.1 0 14 rfl rfl
  have L2 : w2 0 14 = w 0 14 := by rw [fr_f m.1 0 14 rfl rfl, L1]
  obtain ⟨f3, p3, c4, c38, c37, csq, crun, cpre, cp39⟩ := h2
  rw [L2] at c4 csq crun cpre
  obtain ⟨a, ea⟩ := Int.eq_ofNat_of_zero_le ha
  obtain ⟨k, ek⟩ := Int.eq_ofNat_of_zero_le hk
  have w14 : w1 4 (w 0 14).toNat = ((a + n1 : Nat) : Int) := by rw [a4, ea]; omega
  have w24 : w2 4 (w 0 14).toNat = ((a + n1 : Nat) : Int) := by rw [m4, w14]
  have w34 : w3 4 (w 0 14).toNat = ((a + n1 + n2 : Nat) : Int) := by rw [c4, w24]; omega
  have v18 : v1 38 2 = ((k + n1 : Nat) : Int) := by rw [a38, ek]; omega
  have v28 : v2 38 2 = ((k + n1 : Nat) : Int) := by rw [m38, v18]
  have v38 : v3 38 2 = ((k + n1 + n2 : Nat) : Int) := by rw [c38, v28]; omega
  rw [w24, Int.toNat_natCast, v28, Int.toNat_natCast] at csq
  rw [w24, Int.toNat_natCast] at crun
  rw [w24] at cpre
  rw [v28] at cp39
  rw [w34] at e2 e3
  rw [v38] at d39
  rw [ea, Int.toNat_natCast, ek, Int.toNat_natCast] at asq
  rw [ea, Int.toNat_natCast] at arun
  generalize hl : (w 0 14).toNat = L at *
  -- the first segment as it stands at the end
  have k2 : ∀ i, i < n1 → w4 2 (520 * L + (a + i)) = w1 2 (520 * L + (a + i)) := fun i hi => by
    rw [e2, if_neg (by omega), (cpre (a + i) (by omega)).1, m2]
  have k3 : ∀ i, i < n1 → w4 3 (520 * L + (a + i)) = w1 3 (520 * L + (a + i)) := fun i hi => by
    rw [e3, if_neg (by omega), (cpre (a + i) (by omega)).2, m3]
  have k9 : ∀ i, i < n1 → v4 39 (k + i) = v1 39 (k + i) := fun i hi => by
    rw [d39, if_neg (by omega), cp39 (k + i) (by omega), m39]
  have j2 : ∀ i, i < n2 → w4 2 (520 * L + (a + n1 + i)) = w3 2 (520 * L + (a + n1 + i)) := fun i hi => by
    rw [e2, if_neg (by omega)]
  have j3 : ∀ i, i < n2 → w4 3 (520 * L + (a + n1 + i)) = w3 3 (520 * L + (a + n1 + i)) := fun i hi => by
    rw [e3, if_neg (by omega)]
  have j9 : ∀ i, i < n2 → v4 39 (k + n1 + i) = v3 39 (k + n1 + i) := fun i hi => by
    rw [d39, if_neg (by omega)]
  refine ⟨q_frT (q_frT (q_frT f1 m) f3) f4, by omega, ?_, ?_, ?_, ?_, fun s hs => ?_, fun i hi => ?_, fun i hi => ?_⟩
  · rw [hl, e4, w34, ea]
    omega
  · rw [d38, v38, ek]
    omega
  · omega
  · rw [hl, ea, ek, Int.toNat_natCast, Int.toNat_natCast]
    refine l_sqA (l_sqA (l_sqC asq k2 k3 k9) (l_sqC csq j2 j3 j9)) (fun i hi => ?_)
    have i0 : i = 0 := by omega
    subst i0
    rw [e2, e3, d39, if_pos (by omega), if_pos (by omega), if_pos (by omega)]
    exact ⟨hv, rfl⟩
  · rw [hl, ea, Int.toNat_natCast]
    have r1 := arun s (by omega)
    have r1' := (l_runC (code' := fun i => w4 2 (520 * L + i)) (s := s) n1 k2).trans r1
    have r2 := crun (b1 :: s) (by simp; omega)
    have r2' := (l_runC (code' := fun i => w4 2 (520 * L + i)) (s := b1 :: s) n2 j2).trans r2
    have r3 := (l_runA r1' n2).trans r2'
    show l_run (fun i => w4 2 (520 * L + i)) a (n1 + n2 + 1) s = some (b :: s)
    simp only [l_run]
    rw [r3]
    dsimp only
    rw [e2, if_pos (by omega)]
    exact ty s
  · rw [hl] at hi ⊢
    rw [ea] at hi
    have q := apre i (by rw [ea]; exact hi)
    rw [e2, e3, if_neg (by omega), if_neg (by omega), (cpre i (by omega)).1, (cpre i (by omega)).2, m2, m3]
    exact q
  · rw [ek] at hi
    rw [d39, if_neg (by omega), cp39 i (by omega), m39]
    exact ap39 i (by rw [ek]; exact hi)
