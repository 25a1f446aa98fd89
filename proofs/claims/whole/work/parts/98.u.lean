/-! the law's comparisons -/
def q_cmF (n' : Nat) (a : Int) (v : z_Wd) : Int × z_Wd := if F_LR_isComparison v (F_T_at v (v 37 2)) = 0 then (0, v) else if (F_LR n' 0 (F_LR_step v) a 0).1 = 0 then (0, (F_LR n' 0 (F_LR_step v) a 0).2) else (1, F_W_add ((F_LR n' 0 (F_LR_step v) a 0).2) (F_T_at v (v 37 2)) 0)
def q_cmP (n' : Nat) (a : Int) (v : z_Wd) : Prop := (P_LR_isComparison v (F_T_at v (v 37 2))) ∧ ((F_LR_isComparison v (F_T_at v (v 37 2)) = 0 → True) ∧ (¬ (F_LR_isComparison v (F_T_at v (v 37 2)) = 0) → (P_LR_step v) ∧ (P_LR n' 0 (F_LR_step v) a 0) ∧ (-2147483648 ≤ (F_LR n' 0 (F_LR_step v) a 0).1 ∧ (F_LR n' 0 (F_LR_step v) a 0).1 < 2147483648) ∧ (((F_LR n' 0 (F_LR_step v) a 0).1 = 0 → True) ∧ (¬ ((F_LR n' 0 (F_LR_step v) a 0).1 = 0) → P_W_add ((F_LR n' 0 (F_LR_step v) a 0).2) (F_T_at v (v 37 2)) 0))))
def q_cC (x : Int) : Int := if x = 61 then 6 else if x = 60 then 7 else 8
theorem q_cC1 {x : Int} (h : x = 61 ∨ x = 60 ∨ x = 62) : l_sg (q_cC x) = x ∧ l_va (q_cC x) 0 ∧ ∀ s : List Bool, l_ty (q_cC x) (false :: false :: s) = some (true :: s) := by
  rcases h with h | h | h <;> subst h <;> exact ⟨by decide, ⟨by decide, fun z => absurd z (by decide), fun z => absurd z (by decide), fun _ => rfl⟩, fun s => by simp [l_ty, q_cC]⟩
set_option maxHeartbeats 1000000 in
theorem q_cmp {k n n' d nd n1 : Nat} {B a : Int} (hs : q_R false d B k (F_MP n 2) (P_MP n 2) (fun v => F_LR n' 0 v a 0) (fun v => P_LR n' 0 v a 0)) {w0 v0 w v : z_Wd} (hL : 0 ≤ w0 0 14 ∧ w0 0 14 < 5) (ha : 0 ≤ w0 4 (w0 0 14).toNat) (hk : 0 ≤ v0 38 2) (hG : q_G false nd w0 v0 w v n1) (hS : q_S k w v) (hn : d + 1 ≤ nd) (hB : 241 ≤ B ∧ B < 519) : P_MP (n + 1) 3 w ∧ q_cmP n' a v ∧ q_O true nd (B + 1) k w0 v0 (F_MP (n + 1) 3 w) (q_cmF n' a v) := by
  obtain ⟨ht, hq, hat, hp⟩ := q_Sat hS
  obtain ⟨l1, l2⟩ := q_Sl hS
  have s4 : w 0 4 = -1 := hS.2.1
  have hx := t_mcr hat.1
  rw [F_MP, P_MP, l2]
  unfold q_cmF q_cmP
  dsimp only
  rw [if_pos s4, z_up_at, z_twice]
  by_cases sg : F_T_at v (v 37 2) = 61 ∨ F_T_at v (v 37 2) = 60 ∨ F_T_at v (v 37 2) = 62
  · have em : t_mc (F_T_at v (v 37 2)) = F_T_at v (v 37 2) := by
      unfold t_mc
      rw [if_neg (by omega)]
    have iM : ¬ F_M_isSign (z_up w 0 3 (v 37 2)) (F_T_at v (v 37 2)) = 0 := by
      unfold F_M_isSign
      rcases sg with z | z | z <;> rw [z] <;> decide
    have iD : ¬ F_LR_isComparison v (F_T_at v (v 37 2)) = 0 := by
      unfold F_LR_isComparison
      rcases sg with z | z | z <;> rw [z] <;> decide
    obtain ⟨g1, g2, g3⟩ := q_cC1 sg
    obtain ⟨n1', n2, n3, n4⟩ := q_Sn (k' := k) (w1 := z_up w 0 3 (v 37 2 + 1)) hS (by omega) (fr_uf rfl fr_rf) z_up_at (by rw [z_up_ne (by decide)]; exact hS.2.2.2.2.1)
    obtain ⟨r1, r2, r3⟩ := hs _ _ n2
    dsimp only at r2 r3
    rw [em, if_neg iM, if_neg iD]
    have L1 : (z_up w 0 3 (v 37 2 + 1)) 0 14 = w 0 14 := z_up_ne (by decide)
    have Lw : w 0 14 = w0 0 14 := fr_f hG.1.1 0 14 rfl rfl
    have put : ∀ X : z_Wd, (if F_T_at v (v 37 2) = 61 then F_M_put X 6 0 else if F_T_at v (v 37 2) = 60 then F_M_put X 7 0 else F_M_put X 8 0) = F_M_put X (q_cC (F_T_at v (v 37 2))) 0 := fun X => by
      unfold q_cC
      by_cases c : F_T_at v (v 37 2) = 61
      · rw [if_pos c, if_pos c]
      · by_cases c2 : F_T_at v (v 37 2) = 60
        · rw [if_neg c, if_neg c, if_pos c2, if_pos c2]
        · rw [if_neg c, if_neg c, if_neg c2, if_neg c2]
    have pput : ∀ X : z_Wd, P_M_put X (q_cC (F_T_at v (v 37 2))) 0 → (F_T_at v (v 37 2) = 61 → P_M_put X 6 0) ∧ (¬ (F_T_at v (v 37 2) = 61) → (F_T_at v (v 37 2) = 60 → P_M_put X 7 0) ∧ (¬ (F_T_at v (v 37 2) = 60) → P_M_put X 8 0)) := fun X h => ⟨fun _ => h, fun _ => ⟨fun _ => h, fun _ => h⟩⟩
    rw [put]
    have pi : P_M_isSign (z_up w 0 3 (v 37 2)) (F_T_at v (v 37 2)) := ⟨by omega, by omega⟩
    have pj : P_LR_isComparison v (F_T_at v (v 37 2)) := ⟨by omega, by omega⟩
    generalize z_up w 0 3 (v 37 2 + 1) = w1 at *
    generalize F_LR_step v = v1 at *
    generalize F_MP n 2 w1 = w3 at *
    generalize F_LR n' 0 v1 a 0 = r at *
    generalize F_T_at v (v 37 2) = x at *
    rcases r3 with ⟨o1, ⟨n9, o2⟩, o3⟩ | ⟨o1, o2⟩
    · have ro : ¬ r.1 = 0 := by omega
      rw [if_neg ro]
      obtain ⟨f3, p3, c4, c38, c37, -⟩ := id o2
      have v138 : v1 38 = v 38 := fr_c n3.2.1 38 rfl rfl
      have h8 := hS.2.2.2.2.2.2.2
      rw [v138] at c38
      obtain ⟨u1, u2, u3, u4, u5, u6, u7, u8, u9, u10⟩ := q_Sput (c := q_cC x) (s := x) o3 (by omega)
      have L3 : w3 0 14 = w0 0 14 := by rw [fr_f f3.1 0 14 rfl rfl, L1, Lw]
      rw [L3] at u5 u6 u7
      have G := q_two (c := q_cC x) (nd := nd) hL ha hk hG (q_mvf n3) (fr_c n3.1 4 rfl rfl) (fr_c n3.1 2 rfl rfl) (fr_c n3.1 3 rfl rfl) (fr_c n3.2.1 39 rfl rfl) (by rw [v138]) n4 o2 u4 u5 u6 u7 u8 (by rw [g1]; exact u9) (by rw [u10]) g3 g2 ⟨Nat.le_refl _, hn⟩
      exact ⟨⟨by omega, fun _ => ⟨l1, pi, fun z => absurd z iM, fun _ => ⟨r1, by omega, pput _ u1⟩⟩, fun z => absurd s4 z⟩, ⟨pj, fun _ => trivial, fun _ => ⟨n1', r2, by omega, fun _ => trivial, fun _ => u2⟩⟩, Or.inl ⟨rfl, ⟨_, G⟩, u3⟩⟩
    · rw [if_pos o1]
      have oF := q_Ff (q_frT hG.1 (q_mvf n3)) o2
      obtain ⟨u1, u2, u3⟩ := q_Fput (c := q_cC x) (x := 0) hL oF (by omega)
      exact ⟨⟨by omega, fun _ => ⟨l1, pi, fun z => absurd z iM, fun _ => ⟨r1, by omega, pput _ u1⟩⟩, fun z => absurd s4 z⟩, ⟨pj, fun _ => trivial, fun _ => ⟨n1', r2, by omega, fun _ => trivial, fun z => absurd o1 z⟩⟩, Or.inr ⟨rfl, u2⟩⟩
  · have iM : F_M_isSign (z_up w 0 3 (v 37 2)) (t_mc (F_T_at v (v 37 2))) = 0 := by
      unfold F_M_isSign t_mc
      by_cases z : F_T_at v (v 37 2) = 0
      · rw [if_pos z]; decide
      · rw [if_neg z, if_neg (by omega), if_neg (by omega), if_neg (by omega)]
    have iD : F_LR_isComparison v (F_T_at v (v 37 2)) = 0 := by
      unfold F_LR_isComparison
      rw [if_neg (by omega), if_neg (by omega), if_neg (by omega)]
    rw [if_pos iM, if_pos iD]
    refine ⟨⟨by omega, fun _ => ⟨l1, ⟨by omega, by omega⟩, fun _ => ?_, fun z => absurd iM z⟩, fun z => absurd s4 z⟩, ⟨⟨by omega, by omega⟩, fun _ => trivial, fun z => absurd iD z⟩, Or.inr ⟨rfl, q_SF hG.1 hS ?_ ?_ (by omega)⟩⟩
    · unfold P_M_bad
      rw [z_up_ne (by decide)]
      omega
    · exact fr_tr (w' := z_up w 0 3 (v 37 2)) (fr_uf rfl fr_rf) (fr_wk fr_F_M_bad rfl rfl)
    · unfold F_M_bad
      rw [if_pos (by rw [z_up_ne (by decide)]; exact s4), z_up_at, z_up_at]
/-- a cell behind a piece -/
theorem q_app {w v w3 v3 w4 v4 : z_Wd} {b b' : Bool} {nd n : Nat} {c : Int} (ha : 0 ≤ w 4 (w 0 14).toNat) (hk : 0 ≤ v 38 2) (h2 : q_G b nd w v w3 v3 n) (f4 : q_fr w3 v3 w4 v4) (e4 : w4 4 (w 0 14).toNat = w3 4 (w 0 14).toNat + 1) (e2 : ∀ i : Nat, w4 2 (520 * (w 0 14).toNat + i) = if (i : Int) = w3 4 (w 0 14).toNat then c else w3 2 (520 * (w 0 14).toNat + i)) (e3 : ∀ i : Nat, w4 3 (520 * (w 0 14).toNat + i) = if (i : Int) = w3 4 (w 0 14).toNat then 0 else w3 3 (520 * (w 0 14).toNat + i)) (d38 : v4 38 2 = v3 38 2 + 1) (d39 : ∀ i : Nat, v4 39 i = if (i : Int) = v3 38 2 then l_sg c * 10000 + 0 else v3 39 i) (d37 : v 37 2 + (n : Int) + 1 ≤ v4 37 2) (ty : ∀ s, l_ty c (b :: s) = some (b' :: s)) (hv : l_va c 0) : q_G b' nd w v w4 v4 (n + 1) := by
  obtain ⟨f1, p1, a4, a38, a37, asq, arun, apre, ap39⟩ := h2
  obtain ⟨a, ea⟩ := Int.eq_ofNat_of_zero_le ha
  obtain ⟨k, ek⟩ := Int.eq_ofNat_of_zero_le hk
  have w34 : w3 4 (w 0 14).toNat = ((a + n : Nat) : Int) := by rw [a4, ea]; omega
  have v38 : v3 38 2 = ((k + n : Nat) : Int) := by rw [a38, ek]; omega
  rw [w34] at e2 e3
  rw [v38] at d39
  rw [ea, Int.toNat_natCast, ek, Int.toNat_natCast] at asq
  rw [ea, Int.toNat_natCast] at arun
  generalize hl : (w 0 14).toNat = L at *
  have j2 : ∀ i, i < n → w4 2 (520 * L + (a + i)) = w3 2 (520 * L + (a + i)) := fun i hi => by
    rw [e2, if_neg (by omega)]
  have j3 : ∀ i, i < n → w4 3 (520 * L + (a + i)) = w3 3 (520 * L + (a + i)) := fun i hi => by
    rw [e3, if_neg (by omega)]
  have j9 : ∀ i, i < n → v4 39 (k + i) = v3 39 (k + i) := fun i hi => by
    rw [d39, if_neg (by omega)]
  refine ⟨q_frT f1 f4, by omega, ?_, ?_, by omega, ?_, fun s hs => ?_, fun i hi => ?_, fun i hi => ?_⟩
  · rw [hl, e4, w34, ea]
    omega
  · rw [d38, v38, ek]
    omega
  · rw [hl, ea, ek, Int.toNat_natCast, Int.toNat_natCast]
    refine l_sqA (l_sqC asq j2 j3 j9) (fun i hi => ?_)
    have i0 : i = 0 := by omega
    subst i0
    rw [e2, e3, d39, if_pos (by omega), if_pos (by omega), if_pos (by omega)]
    exact ⟨hv, rfl⟩
  · rw [hl, ea, Int.toNat_natCast]
    have r1 := arun s (by omega)
    have r1' := (l_runC (code' := fun i => w4 2 (520 * L + i)) (s := s) n j2).trans r1
    show l_run (fun i => w4 2 (520 * L + i)) a (n + 1) s = some (b' :: s)
    simp only [l_run]
    rw [r1']
    dsimp only
    rw [e2, if_pos (by omega)]
    exact ty s
  · rw [hl] at hi ⊢
    rw [ea] at hi
    have q := apre i (by rw [ea]; exact hi)
    rw [e2, e3, if_neg (by omega), if_neg (by omega)]
    exact q
  · rw [ek] at hi
    rw [d39, if_neg (by omega)]
    exact ap39 i (by rw [ek]; exact hi)
theorem q_S5 {j : Nat} {w v : z_Wd} (S : q_S j w v) : q_S (j + 1) (z_up w 0 5 (w 0 5 - 1)) v ∧ q_mv w v (z_up w 0 5 (w 0 5 - 1)) v := by
  obtain ⟨h1, h2, h3, h4, h5, h6, h7, h8⟩ := S
  refine ⟨⟨t_tac h1 (z_up_ne (by decide)) (z_up_other (by decide)) rfl rfl, by rw [z_up_ne (by decide)]; exact h2, by rw [z_up_ne (by decide)]; exact h3, by rw [z_up_ne (by decide)]; exact h4, by rw [z_up_at]; omega, by rw [z_up_ne (by decide)]; exact h6, ?_, h8⟩, fr_uf rfl fr_rf, fr_rf, Int.le_refl _⟩
  rw [z_up_ne (by decide), z_up_other (by decide)]
  exact h7
