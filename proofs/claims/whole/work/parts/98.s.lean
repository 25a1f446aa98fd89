/-! the law's chains -/
def q_cT (x : Int) : Int := if x = 42 then 4 else if x = 47 then 5 else -1
theorem q_cdT : q_cd false q_cT := by
  refine ⟨by decide, by decide, fun x h => ?_⟩
  unfold q_cT at h ⊢
  by_cases c : x = 42
  · subst c
    exact ⟨by decide, ⟨by decide, fun z => absurd z (by decide), fun z => absurd z (by decide), fun _ => rfl⟩, fun s => by simp [l_ty]⟩
  · by_cases c2 : x = 47
    · subst c2
      exact ⟨by decide, ⟨by decide, fun z => absurd z (by decide), fun z => absurd z (by decide), fun _ => rfl⟩, fun s => by simp [l_ty]⟩
    · rw [if_neg c, if_neg c2] at h
      exact absurd rfl h
theorem q_LT {w : z_Wd} {fr : Nat → z_Wd → z_Wd} : ∀ (m : Nat) (w1 : z_Wd), w1 0 4 = -1 → L_M_term_21x2 w fr m (F_M_look w1).1 (F_M_look w1).2 = q_cM (fr 0) q_cT w m w1 := by
  intro m
  induction m with
  | zero => exact fun _ _ => rfl
  | succ m ih =>
    intro w1 h4
    have tail : ∀ x : z_Wd, (if x 0 4 = -1 then L_M_term_21x2 w fr m (F_M_look x).1 (F_M_look x).2 else L_M_term_21x2 w fr m (-1) x) = q_cM (fr 0) q_cT w m x := fun x => by
      by_cases c : x 0 4 = -1
      · rw [if_pos c]
        exact ih x c
      · rw [if_neg c]
        cases m with
        | zero => rfl
        | succ m =>
          simp only [L_M_term_21x2, q_cM]
          rw [if_neg c, if_neg (by decide), if_neg (by decide)]
    simp only [L_M_term_21x2, q_cM]
    rw [if_pos h4]
    generalize F_M_look w1 = lk at *
    by_cases c : lk.1 = 42
    · have e : q_cT lk.1 = 4 := by unfold q_cT; rw [if_pos c]
      rw [e]
      simp only [if_pos c]
      rw [tail, if_neg (by decide)]
    · by_cases c2 : lk.1 = 47
      · have e : q_cT lk.1 = 5 := by unfold q_cT; rw [if_neg c, if_pos c2]
        rw [e]
        simp only [if_neg c, if_pos c2]
        rw [tail, if_neg (by decide)]
      · have e : q_cT lk.1 = -1 := by unfold q_cT; rw [if_neg c, if_neg c2]
        rw [e]
        simp only [if_neg c, if_neg c2]
        rw [if_pos trivial]
theorem q_PT {w : z_Wd} {fr : Nat → z_Wd → z_Wd} {pr : Nat → z_Wd → Prop} : ∀ (m : Nat) (w1 : z_Wd), w1 0 4 = -1 → q_pM (fr 0) (pr 0) q_cT m w1 → PL_M_term_21x2 w fr pr m (F_M_look w1).1 (F_M_look w1).2 := by
  intro m
  induction m with
  | zero =>
    intro w1 _ h
    simp only [q_pM] at h
  | succ m ih =>
    intro w1 h4 h
    have tail : ∀ x : z_Wd, q_pM (fr 0) (pr 0) q_cT m x → (-2147483648 ≤ x 0 4 ∧ x 0 4 < 2147483648) ∧ ((x 0 4 = (-1) → P_M_look x ∧ PL_M_term_21x2 w fr pr m (F_M_look x).1 (F_M_look x).2) ∧ (¬ (x 0 4 = (-1)) → PL_M_term_21x2 w fr pr m (-1) x)) := fun x hx => by
      have i1 := ih x
      cases m with
      | zero => simp only [q_pM] at hx
      | succ m =>
        have hy := hx
        simp only [q_pM] at hy
        refine ⟨hy.1, fun c => ⟨(hy.2 c).1, i1 c hx⟩, fun _ => ?_⟩
        simp only [PL_M_term_21x2]
        exact ⟨by decide, fun z => absurd z (by decide), fun _ => ⟨fun z => absurd z (by decide), fun _ => trivial⟩⟩
    simp only [q_pM] at h
    obtain ⟨-, h⟩ := h
    obtain ⟨-, l2, h⟩ := h h4
    simp only [PL_M_term_21x2]
    generalize F_M_look w1 = lk at *
    refine ⟨l2, fun c => ?_, fun c => ⟨fun c2 => ?_, fun _ => trivial⟩⟩
    · have e : q_cT lk.1 = 4 := by unfold q_cT; rw [if_pos c]
      rw [e] at h
      obtain ⟨a, b, d⟩ := h (by decide)
      exact ⟨a, fun _ => ⟨b, tail _ d⟩, fun z => absurd c z⟩
    · have e : q_cT lk.1 = 5 := by unfold q_cT; rw [if_neg c, if_pos c2]
      rw [e] at h
      obtain ⟨a, b, d⟩ := h (by decide)
      exact ⟨a, fun z => absurd z c, fun _ => ⟨b, tail _ d⟩⟩
theorem q_eT {u : z_Wd} : F_LR_isEither u 42 47 = 0 ↔ q_cT (F_T_at u (u 37 2)) = -1 := by
  unfold F_LR_isEither q_cT
  by_cases c : F_T_at u (u 37 2) = 42
  · rw [if_pos c, if_pos c]
    exact ⟨fun z => absurd z (by decide), fun z => absurd z (by decide)⟩
  · rw [if_neg c, if_neg c]
    by_cases c2 : F_T_at u (u 37 2) = 47
    · rw [if_pos c2, if_pos c2]
      exact ⟨fun z => absurd z (by decide), fun z => absurd z (by decide)⟩
    · rw [if_neg c2, if_neg c2]
      exact ⟨fun _ => rfl, fun _ => rfl⟩
theorem q_DT {v : z_Wd} {a : Int} {fr : Nat → z_Wd → Int → Int → Int × z_Wd} : (if zfind (E_LR_readTerm_12 v a fr) 240 = -1 then (1, A_LR_readTerm_12 v a fr 240) else R_LR_readTerm_12 v a fr (zfind (E_LR_readTerm_12 v a fr) 240).toNat) = q_cD (fun u => fr 2 u a 0) q_cT 240 (fr 2 v a 0).2 := by
  have h := q_zf (E := E_LR_readTerm_12 v a fr) (A := A_LR_readTerm_12 v a fr) (R := R_LR_readTerm_12 v a fr) (C := q_cD (fun u => fr 2 u a 0) q_cT) (fun u => rfl) (fun i m hE => by
    unfold E_LR_readTerm_12 at hE
    unfold R_LR_readTerm_12
    simp only [q_cD]
    generalize A_LR_readTerm_12 v a fr i = u at *
    by_cases c : F_LR_isEither u 42 47 = 0
    · rw [if_pos c, if_pos (q_eT.mp c)]
    · rw [if_neg c, if_neg (fun z => c (q_eT.mpr z))]
      by_cases c2 : (fr 2 (F_LR_step u) a 0).1 = 0
      · rw [if_pos c2, if_pos c2]
      · rw [if_neg c, if_neg c2] at hE
        exact absurd hE (by decide)) (fun i m hE => by
    unfold E_LR_readTerm_12 at hE
    simp only [q_cD, A_LR_readTerm_12]
    generalize A_LR_readTerm_12 v a fr i = u at *
    by_cases c : F_LR_isEither u 42 47 = 0
    · rw [if_pos c] at hE
      exact absurd rfl hE
    · by_cases c2 : (fr 2 (F_LR_step u) a 0).1 = 0
      · rw [if_neg c, if_pos c2] at hE
        exact absurd rfl hE
      · rw [if_neg (fun z => c (q_eT.mpr z)), if_neg c2, if_neg c, if_neg c2]) 240 0 rfl
  rw [Nat.zero_add] at h
  exact h.symm
theorem q_PDT {v : z_Wd} {a : Int} {fr : Nat → z_Wd → Int → Int → Int × z_Wd} {pr : Nat → z_Wd → Int → Int → Prop} (h : q_pD (fun u => fr 2 u a 0) (fun u => pr 2 u a 0) q_cT 240 (fr 2 v a 0).2) : ∀ i10 : Nat, i10 < 240 → zfind (E_LR_readTerm_12 v a fr) i10 = -1 → (-2147483648 ≤ (i10 : Int) ∧ (i10 : Int) < 2147483648) ∧ (P_LR_isEither (A_LR_readTerm_12 v a fr i10) 42 47) ∧ ((F_LR_isEither (A_LR_readTerm_12 v a fr i10) 42 47 = 0 → True) ∧ (¬ (F_LR_isEither (A_LR_readTerm_12 v a fr i10) 42 47 = 0) → (P_T_at (A_LR_readTerm_12 v a fr i10) ((A_LR_readTerm_12 v a fr i10) 37 2)) ∧ (P_LR_step (A_LR_readTerm_12 v a fr i10)) ∧ (pr 2 (F_LR_step (A_LR_readTerm_12 v a fr i10)) a 0) ∧ (-2147483648 ≤ (fr 2 (F_LR_step (A_LR_readTerm_12 v a fr i10)) a 0).1 ∧ (fr 2 (F_LR_step (A_LR_readTerm_12 v a fr i10)) a 0).1 < 2147483648) ∧ (((fr 2 (F_LR_step (A_LR_readTerm_12 v a fr i10)) a 0).1 = 0 → True) ∧ (¬ ((fr 2 (F_LR_step (A_LR_readTerm_12 v a fr i10)) a 0).1 = 0) → P_W_add ((fr 2 (F_LR_step (A_LR_readTerm_12 v a fr i10)) a 0).2) (F_T_at (A_LR_readTerm_12 v a fr i10) ((A_LR_readTerm_12 v a fr i10) 37 2)) 0)))) := by
  intro i hi hz
  refine ⟨by omega, ?_⟩
  refine q_zp (E := E_LR_readTerm_12 v a fr) (A := A_LR_readTerm_12 v a fr) (P := q_pD (fun u => fr 2 u a 0) (fun u => pr 2 u a 0) q_cT) (S := fun i10 => (P_LR_isEither (A_LR_readTerm_12 v a fr i10) 42 47) ∧ ((F_LR_isEither (A_LR_readTerm_12 v a fr i10) 42 47 = 0 → True) ∧ (¬ (F_LR_isEither (A_LR_readTerm_12 v a fr i10) 42 47 = 0) → (P_T_at (A_LR_readTerm_12 v a fr i10) ((A_LR_readTerm_12 v a fr i10) 37 2)) ∧ (P_LR_step (A_LR_readTerm_12 v a fr i10)) ∧ (pr 2 (F_LR_step (A_LR_readTerm_12 v a fr i10)) a 0) ∧ (-2147483648 ≤ (fr 2 (F_LR_step (A_LR_readTerm_12 v a fr i10)) a 0).1 ∧ (fr 2 (F_LR_step (A_LR_readTerm_12 v a fr i10)) a 0).1 < 2147483648) ∧ (((fr 2 (F_LR_step (A_LR_readTerm_12 v a fr i10)) a 0).1 = 0 → True) ∧ (¬ ((fr 2 (F_LR_step (A_LR_readTerm_12 v a fr i10)) a 0).1 = 0) → P_W_add ((fr 2 (F_LR_step (A_LR_readTerm_12 v a fr i10)) a 0).2) (F_T_at (A_LR_readTerm_12 v a fr i10) ((A_LR_readTerm_12 v a fr i10) 37 2)) 0))))) (fun i m hq => ?_) h i hi hz
  unfold E_LR_readTerm_12
  simp only [A_LR_readTerm_12]
  simp only [q_pD] at hq
  generalize A_LR_readTerm_12 v a fr i = u at *
  obtain ⟨a1, a2, a3⟩ := hq
  refine ⟨⟨⟨a1, a2, by decide, fun _ => trivial, fun _ => by decide⟩, fun _ => trivial, fun c => ?_⟩, fun hE => ?_⟩
  · obtain ⟨b1, b2, b3, b4⟩ := a3 (fun z => c (q_eT.mpr z))
    exact ⟨a1, b1, b2, b3, fun _ => trivial, fun c2 => (b4 c2).1⟩
  · by_cases c : F_LR_isEither u 42 47 = 0
    · rw [if_pos c] at hE
      exact absurd rfl hE
    · by_cases c2 : (fr 2 (F_LR_step u) a 0).1 = 0
      · rw [if_neg c, if_pos c2] at hE
        exact absurd rfl hE
      · rw [if_neg c, if_neg c2]
        exact ((a3 (fun z => c (q_eT.mpr z))).2.2.2 c2).2
def q_cU (x : Int) : Int := if x = 43 then 2 else if x = 45 then 3 else -1
theorem q_cdU : q_cd false q_cU := by
  refine ⟨by decide, by decide, fun x h => ?_⟩
  unfold q_cU at h ⊢
  by_cases c : x = 43
  · subst c
    exact ⟨by decide, ⟨by decide, fun z => absurd z (by decide), fun z => absurd z (by decide), fun _ => rfl⟩, fun s => by simp [l_ty]⟩
  · by_cases c2 : x = 45
    · subst c2
      exact ⟨by decide, ⟨by decide, fun z => absurd z (by decide), fun z => absurd z (by decide), fun _ => rfl⟩, fun s => by simp [l_ty]⟩
    · rw [if_neg c, if_neg c2] at h
      exact absurd rfl h
theorem q_LU {w : z_Wd} {fr : Nat → z_Wd → z_Wd} : ∀ (m : Nat) (w1 : z_Wd), w1 0 4 = -1 → L_M_sum_21x2 w fr m (F_M_look w1).1 (F_M_look w1).2 = q_cM (fr 1) q_cU w m w1 := by
  intro m
  induction m with
  | zero => exact fun _ _ => rfl
  | succ m ih =>
    intro w1 h4
    have tail : ∀ x : z_Wd, (if x 0 4 = -1 then L_M_sum_21x2 w fr m (F_M_look x).1 (F_M_look x).2 else L_M_sum_21x2 w fr m (-1) x) = q_cM (fr 1) q_cU w m x := fun x => by
      by_cases c : x 0 4 = -1
      · rw [if_pos c]
        exact ih x c
      · rw [if_neg c]
        cases m with
        | zero => rfl
        | succ m =>
          simp only [L_M_sum_21x2, q_cM]
          rw [if_neg c, if_neg (by decide), if_neg (by decide)]
    simp only [L_M_sum_21x2, q_cM]
    rw [if_pos h4]
    generalize F_M_look w1 = lk at *
    by_cases c : lk.1 = 43
    · have e : q_cU lk.1 = 2 := by unfold q_cU; rw [if_pos c]
      rw [e]
      simp only [if_pos c]
      rw [tail, if_neg (by decide)]
    · by_cases c2 : lk.1 = 45
      · have e : q_cU lk.1 = 3 := by unfold q_cU; rw [if_neg c, if_pos c2]
        rw [e]
        simp only [if_neg c, if_pos c2]
        rw [tail, if_neg (by decide)]
      · have e : q_cU lk.1 = -1 := by unfold q_cU; rw [if_neg c, if_neg c2]
        rw [e]
        simp only [if_neg c, if_neg c2]
        rw [if_pos trivial]
theorem q_PU {w : z_Wd} {fr : Nat → z_Wd → z_Wd} {pr : Nat → z_Wd → Prop} : ∀ (m : Nat) (w1 : z_Wd), w1 0 4 = -1 → q_pM (fr 1) (pr 1) q_cU m w1 → PL_M_sum_21x2 w fr pr m (F_M_look w1).1 (F_M_look w1).2 := by
  intro m
  induction m with
  | zero =>
    intro w1 _ h
    simp only [q_pM] at h
  | succ m ih =>
    intro w1 h4 h
    have tail : ∀ x : z_Wd, q_pM (fr 1) (pr 1) q_cU m x → (-2147483648 ≤ x 0 4 ∧ x 0 4 < 2147483648) ∧ ((x 0 4 = (-1) → P_M_look x ∧ PL_M_sum_21x2 w fr pr m (F_M_look x).1 (F_M_look x).2) ∧ (¬ (x 0 4 = (-1)) → PL_M_sum_21x2 w fr pr m (-1) x)) := fun x hx => by
      have i1 := ih x
      cases m with
      | zero => simp only [q_pM] at hx
      | succ m =>
        have hy := hx
        simp only [q_pM] at hy
        refine ⟨hy.1, fun c => ⟨(hy.2 c).1, i1 c hx⟩, fun _ => ?_⟩
        simp only [PL_M_sum_21x2]
        exact ⟨by decide, fun z => absurd z (by decide), fun _ => ⟨fun z => absurd z (by decide), fun _ => trivial⟩⟩
    simp only [q_pM] at h
    obtain ⟨-, h⟩ := h
    obtain ⟨-, l2, h⟩ := h h4
    simp only [PL_M_sum_21x2]
    generalize F_M_look w1 = lk at *
    refine ⟨l2, fun c => ?_, fun c => ⟨fun c2 => ?_, fun _ => trivial⟩⟩
    · have e : q_cU lk.1 = 2 := by unfold q_cU; rw [if_pos c]
      rw [e] at h
      obtain ⟨a, b, d⟩ := h (by decide)
      exact ⟨a, fun _ => ⟨b, tail _ d⟩, fun z => absurd c z⟩
    · have e : q_cU lk.1 = 3 := by unfold q_cU; rw [if_neg c, if_pos c2]
      rw [e] at h
      obtain ⟨a, b, d⟩ := h (by decide)
      exact ⟨a, fun z => absurd z c, fun _ => ⟨b, tail _ d⟩⟩
theorem q_eU {u : z_Wd} : F_LR_isEither u 43 45 = 0 ↔ q_cU (F_T_at u (u 37 2)) = -1 := by
  unfold F_LR_isEither q_cU
  by_cases c : F_T_at u (u 37 2) = 43
  · rw [if_pos c, if_pos c]
    exact ⟨fun z => absurd z (by decide), fun z => absurd z (by decide)⟩
  · rw [if_neg c, if_neg c]
    by_cases c2 : F_T_at u (u 37 2) = 45
    · rw [if_pos c2, if_pos c2]
      exact ⟨fun z => absurd z (by decide), fun z => absurd z (by decide)⟩
    · rw [if_neg c2, if_neg c2]
      exact ⟨fun _ => rfl, fun _ => rfl⟩
theorem q_DU {v : z_Wd} {a : Int} {fr : Nat → z_Wd → Int → Int → Int × z_Wd} : (if zfind (E_LR_readSum_12 v a fr) 240 = -1 then (1, A_LR_readSum_12 v a fr 240) else R_LR_readSum_12 v a fr (zfind (E_LR_readSum_12 v a fr) 240).toNat) = q_cD (fun u => fr 1 u a 0) q_cU 240 (fr 1 v a 0).2 := by
  have h := q_zf (E := E_LR_readSum_12 v a fr) (A := A_LR_readSum_12 v a fr) (R := R_LR_readSum_12 v a fr) (C := q_cD (fun u => fr 1 u a 0) q_cU) (fun u => rfl) (fun i m hE => by
    unfold E_LR_readSum_12 at hE
    unfold R_LR_readSum_12
    simp only [q_cD]
    generalize A_LR_readSum_12 v a fr i = u at *
    by_cases c : F_LR_isEither u 43 45 = 0
    · rw [if_pos c, if_pos (q_eU.mp c)]
    · rw [if_neg c, if_neg (fun z => c (q_eU.mpr z))]
      by_cases c2 : (fr 1 (F_LR_step u) a 0).1 = 0
      · rw [if_pos c2, if_pos c2]
      · rw [if_neg c, if_neg c2] at hE
        exact absurd hE (by decide)) (fun i m hE => by
    unfold E_LR_readSum_12 at hE
    simp only [q_cD, A_LR_readSum_12]
    generalize A_LR_readSum_12 v a fr i = u at *
    by_cases c : F_LR_isEither u 43 45 = 0
    · rw [if_pos c] at hE
      exact absurd rfl hE
    · by_cases c2 : (fr 1 (F_LR_step u) a 0).1 = 0
      · rw [if_neg c, if_pos c2] at hE
        exact absurd rfl hE
      · rw [if_neg (fun z => c (q_eU.mpr z)), if_neg c2, if_neg c, if_neg c2]) 240 0 rfl
  rw [Nat.zero_add] at h
  exact h.symm
theorem q_PDU {v : z_Wd} {a : Int} {fr : Nat → z_Wd → Int → Int → Int × z_Wd} {pr : Nat → z_Wd → Int → Int → Prop} (h : q_pD (fun u => fr 1 u a 0) (fun u => pr 1 u a 0) q_cU 240 (fr 1 v a 0).2) : ∀ i10 : Nat, i10 < 240 → zfind (E_LR_readSum_12 v a fr) i10 = -1 → (-2147483648 ≤ (i10 : Int) ∧ (i10 : Int) < 2147483648) ∧ (P_LR_isEither (A_LR_readSum_12 v a fr i10) 43 45) ∧ ((F_LR_isEither (A_LR_readSum_12 v a fr i10) 43 45 = 0 → True) ∧ (¬ (F_LR_isEither (A_LR_readSum_12 v a fr i10) 43 45 = 0) → (P_T_at (A_LR_readSum_12 v a fr i10) ((A_LR_readSum_12 v a fr i10) 37 2)) ∧ (P_LR_step (A_LR_readSum_12 v a fr i10)) ∧ (pr 1 (F_LR_step (A_LR_readSum_12 v a fr i10)) a 0) ∧ (-2147483648 ≤ (fr 1 (F_LR_step (A_LR_readSum_12 v a fr i10)) a 0).1 ∧ (fr 1 (F_LR_step (A_LR_readSum_12 v a fr i10)) a 0).1 < 2147483648) ∧ (((fr 1 (F_LR_step (A_LR_readSum_12 v a fr i10)) a 0).1 = 0 → True) ∧ (¬ ((fr 1 (F_LR_step (A_LR_readSum_12 v a fr i10)) a 0).1 = 0) → P_W_add ((fr 1 (F_LR_step (A_LR_readSum_12 v a fr i10)) a 0).2) (F_T_at (A_LR_readSum_12 v a fr i10) ((A_LR_readSum_12 v a fr i10) 37 2)) 0)))) := by
  intro i hi hz
  refine ⟨by omega, ?_⟩
  refine q_zp (E := E_LR_readSum_12 v a fr) (A := A_LR_readSum_12 v a fr) (P := q_pD (fun u => fr 1 u a 0) (fun u => pr 1 u a 0) q_cU) (S := fun i10 => (P_LR_isEither (A_LR_readSum_12 v a fr i10) 43 45) ∧ ((F_LR_isEither (A_LR_readSum_12 v a fr i10) 43 45 = 0 → True) ∧ (¬ (F_LR_isEither (A_LR_readSum_12 v a fr i10) 43 45 = 0) → (P_T_at (A_LR_readSum_12 v a fr i10) ((A_LR_readSum_12 v a fr i10) 37 2)) ∧ (P_LR_step (A_LR_readSum_12 v a fr i10)) ∧ (pr 1 (F_LR_step (A_LR_readSum_12 v a fr i10)) a 0) ∧ (-2147483648 ≤ (fr 1 (F_LR_step (A_LR_readSum_12 v a fr i10)) a 0).1 ∧ (fr 1 (F_LR_step (A_LR_readSum_12 v a fr i10)) a 0).1 < 2147483648) ∧ (((fr 1 (F_LR_step (A_LR_readSum_12 v a fr i10)) a 0).1 = 0 → True) ∧ (¬ ((fr 1 (F_LR_step (A_LR_readSum_12 v a fr i10)) a 0).1 = 0) → P_W_add ((fr 1 (F_LR_step (A_LR_readSum_12 v a fr i10)) a 0).2) (F_T_at (A_LR_readSum_12 v a fr i10) ((A_LR_readSum_12 v a fr i10) 37 2)) 0))))) (fun i m hq => ?_) h i hi hz
  unfold E_LR_readSum_12
  simp only [A_LR_readSum_12]
  simp only [q_pD] at hq
  generalize A_LR_readSum_12 v a fr i = u at *
  obtain ⟨a1, a2, a3⟩ := hq
  refine ⟨⟨⟨a1, a2, by decide, fun _ => trivial, fun _ => by decide⟩, fun _ => trivial, fun c => ?_⟩, fun hE => ?_⟩
  · obtain ⟨b1, b2, b3, b4⟩ := a3 (fun z => c (q_eU.mpr z))
    exact ⟨a1, b1, b2, b3, fun _ => trivial, fun c2 => (b4 c2).1⟩
  · by_cases c : F_LR_isEither u 43 45 = 0
    · rw [if_pos c] at hE
      exact absurd rfl hE
    · by_cases c2 : (fr 1 (F_LR_step u) a 0).1 = 0
      · rw [if_neg c, if_pos c2] at hE
        exact absurd rfl hE
      · rw [if_neg c, if_neg c2]
        exact ((a3 (fun z => c (q_eU.mpr z))).2.2.2 c2).2
def q_cA (x : Int) : Int := if x = 38 then 10 else -1
theorem q_cdA : q_cd true q_cA := by
  refine ⟨by decide, by decide, fun x h => ?_⟩
  unfold q_cA at h ⊢
  by_cases c : x = 38
  · subst c
    exact ⟨by decide, ⟨by decide, fun z => absurd z (by decide), fun z => absurd z (by decide), fun _ => rfl⟩, fun s => by simp [l_ty]⟩
  · rw [if_neg c] at h
    exact absurd rfl h
theorem q_cAn {x : Int} : q_cA x = -1 ↔ ¬ x = 38 := by
  unfold q_cA
  by_cases c : x = 38
  · rw [if_pos c]
    exact ⟨fun z => absurd z (by decide), fun z => absurd c z⟩
  · rw [if_neg c]
    exact ⟨fun _ => c, fun _ => rfl⟩
theorem q_LA {w : z_Wd} {fr : Nat → z_Wd → z_Wd} : ∀ (m : Nat) (w1 : z_Wd), L_M_goOnAnd_0 w fr m w1 = q_cM (fr 4) q_cA w m w1 := by
  intro m
  induction m with
  | zero => exact fun _ => rfl
  | succ m ih =>
    intro w1
    simp only [L_M_goOnAnd_0, q_cM]
    by_cases h4 : w1 0 4 = -1
    · rw [if_pos h4, if_pos h4]
      generalize F_M_look w1 = lk at *
      by_cases c : lk.1 = 38
      · have e : q_cA lk.1 = 10 := by unfold q_cA; rw [if_pos c]
        rw [e, if_pos c, if_neg (by decide), ih]
      · rw [if_neg c, if_pos (q_cAn.mpr c)]
    · rw [if_neg h4, if_neg h4]
theorem q_PA {w : z_Wd} {fr : Nat → z_Wd → z_Wd} {pr : Nat → z_Wd → Prop} : ∀ (m : Nat) (w1 : z_Wd), q_pM (fr 4) (pr 4) q_cA m w1 → PL_M_goOnAnd_0 w fr pr m w1 := by
  intro m
  induction m with
  | zero =>
    intro w1 h
    simp only [q_pM] at h
  | succ m ih =>
    intro w1 h
    simp only [q_pM] at h
    simp only [PL_M_goOnAnd_0]
    obtain ⟨h0, h⟩ := h
    refine ⟨h0, fun h4 => ?_, fun _ => trivial⟩
    obtain ⟨l1, l2, h⟩ := h h4
    generalize F_M_look w1 = lk at *
    refine ⟨l1, l2, fun c => ?_, fun _ => trivial⟩
    have e : q_cA lk.1 = 10 := by unfold q_cA; rw [if_pos c]
    rw [e] at h
    obtain ⟨a, b, d⟩ := h (by decide)
    exact ⟨a, b, ih _ d⟩
theorem q_DA {v : z_Wd} {a s : Int} {fr : Nat → z_Wd → Int → Int → Int × z_Wd} : (if zfind (E_LR_readTruth_13 v a s fr) 240 = -1 then (1, A_LR_readTruth_13 v a s fr 240) else R_LR_readTruth_13 v a s fr (zfind (E_LR_readTruth_13 v a s fr) 240).toNat) = q_cD (fun u => fr 5 u a 0) q_cA 240 (fr 5 v a s).2 := by
  have h := q_zf (E := E_LR_readTruth_13 v a s fr) (A := A_LR_readTruth_13 v a s fr) (R := R_LR_readTruth_13 v a s fr) (C := q_cD (fun u => fr 5 u a 0) q_cA) (fun u => rfl) (fun i m hE => by
    unfold E_LR_readTruth_13 at hE
    unfold R_LR_readTruth_13
    simp only [q_cD]
    generalize A_LR_readTruth_13 v a s fr i = u at *
    by_cases c : F_T_at u (u 37 2) = 38
    · rw [if_pos c, if_neg (fun z => q_cAn.mp z c)]
      by_cases c2 : (fr 5 (F_LR_step u) a 0).1 = 0
      · rw [if_pos c2, if_pos c2]
      · rw [if_pos c, if_neg c2] at hE
        exact absurd hE (by decide)
    · rw [if_neg c, if_pos (q_cAn.mpr c)]) (fun i m hE => by
    unfold E_LR_readTruth_13 at hE
    simp only [q_cD, A_LR_readTruth_13]
    generalize A_LR_readTruth_13 v a s fr i = u at *
    by_cases c : F_T_at u (u 37 2) = 38
    · by_cases c2 : (fr 5 (F_LR_step u) a 0).1 = 0
      · rw [if_pos c, if_pos c2] at hE
        exact absurd rfl hE
      · rw [if_neg (fun z => q_cAn.mp z c), if_neg c2, if_pos c, if_neg c2, c]
    · rw [if_neg c] at hE
      exact absurd rfl hE) 240 0 rfl
  rw [Nat.zero_add] at h
  exact h.symm
theorem q_PDA {v : z_Wd} {a s : Int} {fr : Nat → z_Wd → Int → Int → Int × z_Wd} {pr : Nat → z_Wd → Int → Int → Prop} (h : q_pD (fun u => fr 5 u a 0) (fun u => pr 5 u a 0) q_cA 240 (fr 5 v a s).2) : ∀ i10 : Nat, i10 < 240 → zfind (E_LR_readTruth_13 v a s fr) i10 = -1 → (-2147483648 ≤ (i10 : Int) ∧ (i10 : Int) < 2147483648) ∧ (P_T_at (A_LR_readTruth_13 v a s fr i10) ((A_LR_readTruth_13 v a s fr i10) 37 2)) ∧ (-2147483648 ≤ F_T_at (A_LR_readTruth_13 v a s fr i10) ((A_LR_readTruth_13 v a s fr i10) 37 2) ∧ F_T_at (A_LR_readTruth_13 v a s fr i10) ((A_LR_readTruth_13 v a s fr i10) 37 2) < 2147483648) ∧ ((F_T_at (A_LR_readTruth_13 v a s fr i10) ((A_LR_readTruth_13 v a s fr i10) 37 2) = 38 → (P_LR_step (A_LR_readTruth_13 v a s fr i10)) ∧ (pr 5 (F_LR_step (A_LR_readTruth_13 v a s fr i10)) a 0) ∧ (-2147483648 ≤ (fr 5 (F_LR_step (A_LR_readTruth_13 v a s fr i10)) a 0).1 ∧ (fr 5 (F_LR_step (A_LR_readTruth_13 v a s fr i10)) a 0).1 < 2147483648) ∧ (((fr 5 (F_LR_step (A_LR_readTruth_13 v a s fr i10)) a 0).1 = 0 → True) ∧ (¬ ((fr 5 (F_LR_step (A_LR_readTruth_13 v a s fr i10)) a 0).1 = 0) → P_W_add ((fr 5 (F_LR_step (A_LR_readTruth_13 v a s fr i10)) a 0).2) 38 0))) ∧ (¬ (F_T_at (A_LR_readTruth_13 v a s fr i10) ((A_LR_readTruth_13 v a s fr i10) 37 2) = 38) → True)) := by
  intro i hi hz
  refine ⟨by omega, ?_⟩
  refine q_zp (E := E_LR_readTruth_13 v a s fr) (A := A_LR_readTruth_13 v a s fr) (P := q_pD (fun u => fr 5 u a 0) (fun u => pr 5 u a 0) q_cA) (S := fun i10 => (P_T_at (A_LR_readTruth_13 v a s fr i10) ((A_LR_readTruth_13 v a s fr i10) 37 2)) ∧ (-2147483648 ≤ F_T_at (A_LR_readTruth_13 v a s fr i10) ((A_LR_readTruth_13 v a s fr i10) 37 2) ∧ F_T_at (A_LR_readTruth_13 v a s fr i10) ((A_LR_readTruth_13 v a s fr i10) 37 2) < 2147483648) ∧ ((F_T_at (A_LR_readTruth_13 v a s fr i10) ((A_LR_readTruth_13 v a s fr i10) 37 2) = 38 → (P_LR_step (A_LR_readTruth_13 v a s fr i10)) ∧ (pr 5 (F_LR_step (A_LR_readTruth_13 v a s fr i10)) a 0) ∧ (-2147483648 ≤ (fr 5 (F_LR_step (A_LR_readTruth_13 v a s fr i10)) a 0).1 ∧ (fr 5 (F_LR_step (A_LR_readTruth_13 v a s fr i10)) a 0).1 < 2147483648) ∧ (((fr 5 (F_LR_step (A_LR_readTruth_13 v a s fr i10)) a 0).1 = 0 → True) ∧ (¬ ((fr 5 (F_LR_step (A_LR_readTruth_13 v a s fr i10)) a 0).1 = 0) → P_W_add ((fr 5 (F_LR_step (A_LR_readTruth_13 v a s fr i10)) a 0).2) 38 0))) ∧ (¬ (F_T_at (A_LR_readTruth_13 v a s fr i10) ((A_LR_readTruth_13 v a s fr i10) 37 2) = 38) → True))) (fun i m hq => ?_) h i hi hz
  unfold E_LR_readTruth_13
  simp only [A_LR_readTruth_13]
  simp only [q_pD] at hq
  generalize A_LR_readTruth_13 v a s fr i = u at *
  obtain ⟨a1, a2, a3⟩ := hq
  refine ⟨⟨a1, a2, fun c => ?_, fun _ => trivial⟩, fun hE => ?_⟩
  · obtain ⟨b1, b2, b3, b4⟩ := a3 (fun z => q_cAn.mp z c)
    rw [c] at b4
    exact ⟨b1, b2, b3, fun _ => trivial, fun c2 => (b4 c2).1⟩
  · by_cases c : F_T_at u (u 37 2) = 38
    · by_cases c2 : (fr 5 (F_LR_step u) a 0).1 = 0
      · rw [if_pos c, if_pos c2] at hE
        exact absurd rfl hE
      · rw [if_pos c, if_neg c2]
        have b4 := (a3 (fun z => q_cAn.mp z c)).2.2.2
        rw [c] at b4
        exact (b4 c2).2
    · rw [if_neg c] at hE
      exact absurd rfl hE
def q_cO (x : Int) : Int := if x = 124 then 11 else -1
theorem q_cdO : q_cd true q_cO := by
  refine ⟨by decide, by decide, fun x h => ?_⟩
  unfold q_cO at h ⊢
  by_cases c : x = 124
  · subst c
    exact ⟨by decide, ⟨by decide, fun z => absurd z (by decide), fun z => absurd z (by decide), fun _ => rfl⟩, fun s => by simp [l_ty]⟩
  · rw [if_neg c] at h
    exact absurd rfl h
theorem q_cOn {x : Int} : q_cO x = -1 ↔ ¬ x = 124 := by
  unfold q_cO
  by_cases c : x = 124
  · rw [if_pos c]
    exact ⟨fun z => absurd z (by decide), fun z => absurd c z⟩
  · rw [if_neg c]
    exact ⟨fun _ => c, fun _ => rfl⟩
theorem q_LO {w : z_Wd} {fr : Nat → z_Wd → z_Wd} : ∀ (m : Nat) (w1 : z_Wd), L_M_goOnOr_0 w fr m w1 = q_cM (fun x => fr 5 (fr 4 x)) q_cO w m w1 := by
  intro m
  induction m with
  | zero => exact fun _ => rfl
  | succ m ih =>
    intro w1
    simp only [L_M_goOnOr_0, q_cM]
    by_cases h4 : w1 0 4 = -1
    · rw [if_pos h4, if_pos h4]
      generalize F_M_look w1 = lk at *
      by_cases c : lk.1 = 124
      · have e : q_cO lk.1 = 11 := by unfold q_cO; rw [if_pos c]
        rw [e, if_pos c, if_neg (by decide), ih]
      · rw [if_neg c, if_pos (q_cOn.mpr c)]
    · rw [if_neg h4, if_neg h4]
theorem q_PO {w : z_Wd} {fr : Nat → z_Wd → z_Wd} {pr : Nat → z_Wd → Prop} : ∀ (m : Nat) (w1 : z_Wd), q_pM (fun x => fr 5 (fr 4 x)) (fun x => pr 4 x ∧ pr 5 (fr 4 x)) q_cO m w1 → PL_M_goOnOr_0 w fr pr m w1 := by
  intro m
  induction m with
  | zero =>
    intro w1 h
    simp only [q_pM] at h
  | succ m ih =>
    intro w1 h
    simp only [q_pM] at h
    simp only [PL_M_goOnOr_0]
    obtain ⟨h0, h⟩ := h
    refine ⟨h0, fun h4 => ?_, fun _ => trivial⟩
    obtain ⟨l1, l2, h⟩ := h h4
    generalize F_M_look w1 = lk at *
    refine ⟨l1, l2, fun c => ?_, fun _ => trivial⟩
    have e : q_cO lk.1 = 11 := by unfold q_cO; rw [if_pos c]
    rw [e] at h
    obtain ⟨a, b, d⟩ := h (by decide)
    exact ⟨a.1, a.2, b, ih _ d⟩
theorem q_DO {v : z_Wd} {a s : Int} {fr : Nat → z_Wd → Int → Int → Int × z_Wd} : (if zfind (E_LR_readCondition_13 v a s fr) 240 = -1 then (1, A_LR_readCondition_13 v a s fr 240) else R_LR_readCondition_13 v a s fr (zfind (E_LR_readCondition_13 v a s fr) 240).toNat) = q_cD (fun u => fr 4 u a 0) q_cO 240 (fr 4 v a s).2 := by
  have h := q_zf (E := E_LR_readCondition_13 v a s fr) (A := A_LR_readCondition_13 v a s fr) (R := R_LR_readCondition_13 v a s fr) (C := q_cD (fun u => fr 4 u a 0) q_cO) (fun u => rfl) (fun i m hE => by
    unfold E_LR_readCondition_13 at hE
    unfold R_LR_readCondition_13
    simp only [q_cD]
    generalize A_LR_readCondition_13 v a s fr i = u at *
    by_cases c : F_T_at u (u 37 2) = 124
    · rw [if_pos c, if_neg (fun z => q_cOn.mp z c)]
      by_cases c2 : (fr 4 (F_LR_step u) a 0).1 = 0
      · rw [if_pos c2, if_pos c2]
      · rw [if_pos c, if_neg c2] at hE
        exact absurd hE (by decide)
    · rw [if_neg c, if_pos (q_cOn.mpr c)]) (fun i m hE => by
    unfold E_LR_readCondition_13 at hE
    simp only [q_cD, A_LR_readCondition_13]
    generalize A_LR_readCondition_13 v a s fr i = u at *
    by_cases c : F_T_at u (u 37 2) = 124
    · by_cases c2 : (fr 4 (F_LR_step u) a 0).1 = 0
      · rw [if_pos c, if_pos c2] at hE
        exact absurd rfl hE
      · rw [if_neg (fun z => q_cOn.mp z c), if_neg c2, if_pos c, if_neg c2, c]
    · rw [if_neg c] at hE
      exact absurd rfl hE) 240 0 rfl
  rw [Nat.zero_add] at h
  exact h.symm
theorem q_PDO {v : z_Wd} {a s : Int} {fr : Nat → z_Wd → Int → Int → Int × z_Wd} {pr : Nat → z_Wd → Int → Int → Prop} (h : q_pD (fun u => fr 4 u a 0) (fun u => pr 4 u a 0) q_cO 240 (fr 4 v a s).2) : ∀ i10 : Nat, i10 < 240 → zfind (E_LR_readCondition_13 v a s fr) i10 = -1 → (-2147483648 ≤ (i10 : Int) ∧ (i10 : Int) < 2147483648) ∧ (P_T_at (A_LR_readCondition_13 v a s fr i10) ((A_LR_readCondition_13 v a s fr i10) 37 2)) ∧ (-2147483648 ≤ F_T_at (A_LR_readCondition_13 v a s fr i10) ((A_LR_readCondition_13 v a s fr i10) 37 2) ∧ F_T_at (A_LR_readCondition_13 v a s fr i10) ((A_LR_readCondition_13 v a s fr i10) 37 2) < 2147483648) ∧ ((F_T_at (A_LR_readCondition_13 v a s fr i10) ((A_LR_readCondition_13 v a s fr i10) 37 2) = 124 → (P_LR_step (A_LR_readCondition_13 v a s fr i10)) ∧ (pr 4 (F_LR_step (A_LR_readCondition_13 v a s fr i10)) a 0) ∧ (-2147483648 ≤ (fr 4 (F_LR_step (A_LR_readCondition_13 v a s fr i10)) a 0).1 ∧ (fr 4 (F_LR_step (A_LR_readCondition_13 v a s fr i10)) a 0).1 < 2147483648) ∧ (((fr 4 (F_LR_step (A_LR_readCondition_13 v a s fr i10)) a 0).1 = 0 → True) ∧ (¬ ((fr 4 (F_LR_step (A_LR_readCondition_13 v a s fr i10)) a 0).1 = 0) → P_W_add ((fr 4 (F_LR_step (A_LR_readCondition_13 v a s fr i10)) a 0).2) 124 0))) ∧ (¬ (F_T_at (A_LR_readCondition_13 v a s fr i10) ((A_LR_readCondition_13 v a s fr i10) 37 2) = 124) → True)) := by
  intro i hi hz
  refine ⟨by omega, ?_⟩
  refine q_zp (E := E_LR_readCondition_13 v a s fr) (A := A_LR_readCondition_13 v a s fr) (P := q_pD (fun u => fr 4 u a 0) (fun u => pr 4 u a 0) q_cO) (S := fun i10 => (P_T_at (A_LR_readCondition_13 v a s fr i10) ((A_LR_readCondition_13 v a s fr i10) 37 2)) ∧ (-2147483648 ≤ F_T_at (A_LR_readCondition_13 v a s fr i10) ((A_LR_readCondition_13 v a s fr i10) 37 2) ∧ F_T_at (A_LR_readCondition_13 v a s fr i10) ((A_LR_readCondition_13 v a s fr i10) 37 2) < 2147483648) ∧ ((F_T_at (A_LR_readCondition_13 v a s fr i10) ((A_LR_readCondition_13 v a s fr i10) 37 2) = 124 → (P_LR_step (A_LR_readCondition_13 v a s fr i10)) ∧ (pr 4 (F_LR_step (A_LR_readCondition_13 v a s fr i10)) a 0) ∧ (-2147483648 ≤ (fr 4 (F_LR_step (A_LR_readCondition_13 v a s fr i10)) a 0).1 ∧ (fr 4 (F_LR_step (A_LR_readCondition_13 v a s fr i10)) a 0).1 < 2147483648) ∧ (((fr 4 (F_LR_step (A_LR_readCondition_13 v a s fr i10)) a 0).1 = 0 → True) ∧ (¬ ((fr 4 (F_LR_step (A_LR_readCondition_13 v a s fr i10)) a 0).1 = 0) → P_W_add ((fr 4 (F_LR_step (A_LR_readCondition_13 v a s fr i10)) a 0).2) 124 0))) ∧ (¬ (F_T_at (A_LR_readCondition_13 v a s fr i10) ((A_LR_readCondition_13 v a s fr i10) 37 2) = 124) → True))) (fun i m hq => ?_) h i hi hz
  unfold E_LR_readCondition_13
  simp only [A_LR_readCondition_13]
  simp only [q_pD] at hq
  generalize A_LR_readCondition_13 v a s fr i = u at *
  obtain ⟨a1, a2, a3⟩ := hq
  refine ⟨⟨a1, a2, fun c => ?_, fun _ => trivial⟩, fun hE => ?_⟩
  · obtain ⟨b1, b2, b3, b4⟩ := a3 (fun z => q_cOn.mp z c)
    rw [c] at b4
    exact ⟨b1, b2, b3, fun _ => trivial, fun c2 => (b4 c2).1⟩
  · by_cases c : F_T_at u (u 37 2) = 124
    · by_cases c2 : (fr 4 (F_LR_step u) a 0).1 = 0
      · rw [if_pos c, if_pos c2] at hE
        exact absurd rfl hE
      · rw [if_pos c, if_neg c2]
        have b4 := (a3 (fun z => q_cOn.mp z c)).2.2.2
        rw [c] at b4
        exact (b4 c2).2
    · rw [if_neg c] at hE
      exact absurd rfl hE
