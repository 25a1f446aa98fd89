/-! the law's pieces: one put behind two -/
theorem q_put {w v : z_Wd} {c x : Int} (hL : 0 ≤ w 0 14 ∧ w 0 14 < 5) (hc : 0 ≤ w 4 (w 0 14).toNat ∧ w 4 (w 0 14).toNat < 520) : P_M_put w c x ∧ q_fr w v (F_M_put w c x) v ∧ F_M_put w c x 4 (w 0 14).toNat = w 4 (w 0 14).toNat + 1 ∧ (∀ i : Nat, F_M_put w c x 2 (520 * (w 0 14).toNat + i) = if (i : Int) = w 4 (w 0 14).toNat then c else w 2 (520 * (w 0 14).toNat + i)) ∧ (∀ i : Nat, F_M_put w c x 3 (520 * (w 0 14).toNat + i) = if (i : Int) = w 4 (w 0 14).toNat then x else w 3 (520 * (w 0 14).toNat + i)) ∧ F_M_put w c x 0 = w 0 := by
  obtain ⟨L, eL⟩ := Int.eq_ofNat_of_zero_le hL.1
  have eN : (w 0 14).toNat = L := by omega
  rw [eN] at hc ⊢
  obtain ⟨n, en⟩ := Int.eq_ofNat_of_zero_le hc.1
  have ix : (520 * w 0 14 + w 4 L).toNat = 520 * L + n := by omega
  have eF : F_M_put w c x = z_up (z_up (z_up w 2 (520 * L + n) c) 3 (520 * L + n) x) 4 L (w 4 L + 1) := by
    unfold F_M_put
    rw [eN, ix]
  rw [eF]
  refine ⟨?_, ⟨fr_up rfl (fr_up rfl (fr_up rfl fr_rf)), fr_rf, fun j hj => ?_, fun j hj => ?_⟩, z_up_at, fun i => ?_, fun i => ?_, ?_⟩
  · unfold P_M_put
    rw [eN]
    omega
  · rw [eN] at hj
    rw [z_up_ne hj, z_up_other (by decide), z_up_other (by decide)]
  · constructor
    · rw [z_up_other (by decide), z_up_other (by decide), z_up_ne (by omega)]
    · rw [z_up_other (by decide), z_up_ne (by omega), z_up_other (by decide)]
  · rw [z_up_other (by decide), z_up_other (by decide)]
    by_cases y : i = n
    · rw [y, z_up_at, if_pos en.symm]
    · rw [z_up_ne (by omega), if_neg (by omega)]
  · rw [z_up_other (by decide)]
    by_cases y : i = n
    · rw [y, z_up_at, if_pos en.symm]
    · rw [z_up_ne (by omega), if_neg (by omega), z_up_other (by decide)]
  · rw [z_up_other (by decide), z_up_other (by decide), z_up_other (by decide)]
theorem q_add {w v : z_Wd} {s x : Int} (h : 0 ≤ v 38 2 ∧ v 38 2 < 240) : q_fr w v w (F_W_add v s x) ∧ F_W_add v s x 38 2 = v 38 2 + 1 ∧ (∀ i : Nat, F_W_add v s x 39 i = if (i : Int) = v 38 2 then s * 10000 + x else v 39 i) ∧ F_W_add v s x 37 = v 37 := by
  obtain ⟨n, en⟩ := Int.eq_ofNat_of_zero_le h.1
  have e : F_W_add v s x = z_up (z_up v 39 n (s * 10000 + x)) 38 2 (v 38 2 + 1) := by
    unfold F_W_add
    rw [if_neg (by omega), show (v 38 2).toNat = n by omega]
  rw [e]
  refine ⟨⟨fr_rf, fr_uf rfl (fr_up rfl fr_rf), fun _ _ => rfl, fun _ _ => ⟨rfl, rfl⟩⟩, z_up_at, fun i => ?_, ?_⟩
  · rw [z_up_other (by decide)]
    by_cases y : i = n
    · rw [y, z_up_at, if_pos en.symm]
    · rw [z_up_ne y, if_neg (by omega)]
  · rw [z_up_other (by decide), z_up_other (by decide)]
/-- one cell alone: a number or a letter -/
theorem q_one {w v : z_Wd} {c x : Int} (hL : 0 ≤ w 0 14 ∧ w 0 14 < 5) (hc : 0 ≤ w 4 (w 0 14).toNat ∧ w 4 (w 0 14).toNat < 520) (hl : 0 ≤ v 38 2 ∧ v 38 2 < 240) (hcx : l_va c x) (h01 : c = 0 ∨ c = 1) {w' v' : z_Wd} (fw : q_fr w v w' v') (e4 : w' 4 (w 0 14).toNat = w 4 (w 0 14).toNat + 1) (e2 : ∀ i : Nat, w' 2 (520 * (w 0 14).toNat + i) = if (i : Int) = w 4 (w 0 14).toNat then c else w 2 (520 * (w 0 14).toNat + i)) (e3 : ∀ i : Nat, w' 3 (520 * (w 0 14).toNat + i) = if (i : Int) = w 4 (w 0 14).toNat then x else w 3 (520 * (w 0 14).toNat + i)) (d38 : v' 38 2 = v 38 2 + 1) (d39 : ∀ i : Nat, v' 39 i = if (i : Int) = v 38 2 then l_sg c * 10000 + x else v 39 i) (d37 : v 37 2 + 1 ≤ v' 37 2) : q_G false 1 w v w' v' 1 := by
  refine ⟨fw, by decide, by rw [e4]; rfl, by rw [d38]; rfl, d37, fun i hi => ?_, fun s hs => ?_, fun i hi => ?_, fun i hi => ?_⟩
  · have i0 : i = 0 := by omega
    subst i0
    dsimp only
    rw [e2, e3, d39, if_pos (by omega), if_pos (by omega), if_pos (by omega)]
    exact ⟨hcx, rfl⟩
  · simp only [l_run]
    rw [e2, if_pos (by omega)]
    unfold l_ty
    rw [if_pos h01, if_pos (by omega)]
  · rw [e2, e3, if_neg (by omega), if_neg (by omega)]
    exact ⟨rfl, rfl⟩
  · rw [d39, if_neg (by omega)]
