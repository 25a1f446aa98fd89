/-! which file to look at -/
theorem fr_0 {w : z_Wd} : z_fr [] [] w w := fr_rf
theorem x_val {v v' : z_Wd} (a : v' 31 = v 31) {k c j : Int} : F_Y_value v' k c j = F_Y_value v k c j := by
  unfold F_Y_value
  rw [a]
theorem x_fit {v v' : z_Wd} (a : v' 31 = v 31) (b : v' 72 = v 72) (c : v' 73 = v 73) (d : v' 74 = v 74) {s k : Int} : F_C_fits v' s k = F_C_fits v s k := by
  have e1 : E_C_fits_12 v' s = E_C_fits_12 v s := by
    funext n
    unfold E_C_fits_12 F_Y_inFile
    simp only [x_val a]
    rw [c, d]
  have e2 : R_C_fits_12 v' s = R_C_fits_12 v s := by
    funext n
    unfold R_C_fits_12 F_Y_inFile
    simp only [x_val a]
    rw [c, d]
  unfold F_C_fits
  rw [e1, e2, b]
  rfl
theorem r_moM {w : z_Wd} {f k s0 : Int} {g : Nat} : ∀ n : Nat, 0 ≤ A_M_mostOfSort_17 w f k g s0 n ∧ A_M_mostOfSort_17 w f k g s0 n ≤ n
  | 0 => ⟨Int.le_refl _, Int.le_refl _⟩
  | n + 1 => by
    have := r_moM (w := w) (f := f) (k := k) (s0 := s0) (g := g) n
    simp only [A_M_mostOfSort_17]
    split
    · omega
    · split <;> omega
theorem g_mo {w v : z_Wd} (h2 : r_mi w v) (h7 : r_cl w v) {f : Nat} (hf : (f : Int) < w 0 30) {k : Int} : ∀ n : Nat, z_fr [75] [] v (A_C_mostOfASort_22 v (f : Int) k n) ∧ ∀ (g : Nat) (s0 : Int), g < 3 → A_C_mostOfASort_22 v (f : Int) k n 75 g = A_M_mostOfSort_17 w (f : Int) k g s0 n
  | 0 => ⟨fr_up rfl (fr_up rfl (fr_up rfl fr_rf)), fun g s0 hg => by
      simp only [A_C_mostOfASort_22, A_M_mostOfSort_17]
      have : g = 0 ∨ g = 1 ∨ g = 2 := by omega
      rcases this with rfl | rfl | rfl <;> simp [z_up]⟩
  | n + 1 => by
    obtain ⟨i1, i2⟩ := g_mo h2 h7 hf (k := k) n
    simp only [A_C_mostOfASort_22, A_M_mostOfSort_17]
    generalize A_C_mostOfASort_22 v (f : Int) k n = u at i1 i2
    have e31 := fr_c i1 31 rfl rfl
    have ef : F_C_fits u (n : Int) k = F_M_areGone w (n : Int) k := by
      rw [x_fit e31 (fr_c i1 72 rfl rfl) (fr_c i1 73 rfl rfl) (fr_c i1 74 rfl rfl), g_fit h2 h7]
    have eg : zz_and (zz_shr (n : Int) (F_Y_inFile u (f : Int) 0)) 1 + zz_and (zz_shr (n : Int) (F_Y_inFile u (f : Int) 1)) 1 = F_M_gapsBy w (f : Int) (n : Int) := by
      rw [g_gp h2 hf]
      unfold F_Y_inFile
      simp only [x_val e31]
    rw [ef, eg]
    have rg := r_gp (w := w) (f := (f : Int)) (s := (n : Int))
    by_cases c : F_M_areGone w (n : Int) k = 0
    · rw [if_pos c]
      refine ⟨i1, fun g s0 hg => ?_⟩
      rw [if_pos c]
      exact i2 g s0 hg
    · rw [if_neg c]
      refine ⟨fr_up rfl i1, fun g s0 hg => ?_⟩
      rw [if_neg c]
      obtain ⟨q, hq⟩ := Int.eq_ofNat_of_zero_le rg.1
      rw [hq, Int.toNat_natCast]
      by_cases e : q = g
      · subst e
        rw [if_pos rfl, z_up_at, i2 q s0 hg]
      · rw [if_neg (by omega), z_up_ne (fun z => e z.symm), i2 g s0 hg]
theorem g_most {w v : z_Wd} (h2 : r_mi w v) (h7 : r_cl w v) {f : Nat} (hf : (f : Int) < w 0 30) {k : Int} : (F_C_mostOfASort v (f : Int) k).1 = F_M_mostOfSort w (f : Int) k ∧ z_fr [75] [] v (F_C_mostOfASort v (f : Int) k).2 ∧ (0 ≤ F_M_mostOfSort w (f : Int) k ∧ F_M_mostOfSort w (f : Int) k ≤ 128) := by
  obtain ⟨N, hN1, hN2, n1, n2⟩ := g_N h2
  have e32 : z_up (z_up (z_up v 75 0 0) 75 1 0) 75 2 0 32 2 = v 32 2 := by simp [z_up]
  unfold F_C_mostOfASort F_M_mostOfSort
  simp only [e32, n2]
  rw [show ((N : Int) - 1 + 1).toNat = N by omega]
  obtain ⟨i1, i2⟩ := g_mo h2 h7 hf (k := k) N
  simp only [A_M_mostOfSort_5, n1, Int.toNat_natCast]
  rw [i2 0 0 (by omega), i2 1 (F_J_max_7cf53 w 0 (A_M_mostOfSort_17 w (f : Int) k 0 0 N)) (by omega), i2 2 (F_J_max_7cf53 w (F_J_max_7cf53 w 0 (A_M_mostOfSort_17 w (f : Int) k 0 0 N)) (A_M_mostOfSort_17 w (f : Int) k 1 (F_J_max_7cf53 w 0 (A_M_mostOfSort_17 w (f : Int) k 0 0 N)) N)) (by omega)]
  have r0 := r_moM (w := w) (f := (f : Int)) (k := k) (s0 := 0) (g := 0) N
  generalize A_M_mostOfSort_17 w (f : Int) k 0 0 N = c0 at *
  have r1 := r_moM (w := w) (f := (f : Int)) (k := k) (s0 := F_J_max_7cf53 w 0 c0) (g := 1) N
  generalize A_M_mostOfSort_17 w (f : Int) k 1 (F_J_max_7cf53 w 0 c0) N = c1 at *
  have r2 := r_moM (w := w) (f := (f : Int)) (k := k) (s0 := F_J_max_7cf53 w (F_J_max_7cf53 w 0 c0) c1) (g := 2) N
  generalize A_M_mostOfSort_17 w (f : Int) k 2 (F_J_max_7cf53 w (F_J_max_7cf53 w 0 c0) c1) N = c2 at *
  refine ⟨?_, i1, ?_⟩
  · unfold F_J_max_7cf53
    repeat' split
    all_goals omega
  · unfold F_J_max_7cf53
    repeat' split
    all_goals omega
theorem p_mo {w v : z_Wd} (h2 : r_mi w v) (h7 : r_cl w v) {f : Nat} (hf : (f : Int) < w 0 30) {k : Int} (hk : -2147483648 ≤ k ∧ k < 2147483648) : P_C_mostOfASort v (f : Int) k := by
  obtain ⟨N, hN1, hN2, n1, n2⟩ := g_N h2
  have e30 := h2.2.1.2.2.1
  have e32 : z_up (z_up (z_up v 75 0 0) 75 1 0) 75 2 0 32 2 = v 32 2 := by simp [z_up]
  have ew : ∀ n, A_C_mostOfASort_22 v (f : Int) k n 32 2 = v 32 2 := fun n => fr_f (g_mo h2 h7 hf (k := k) n).1 32 2 rfl rfl
  have rr : ∀ n g : Nat, g < 3 → n ≤ 128 → 0 ≤ A_C_mostOfASort_22 v (f : Int) k n 75 g ∧ A_C_mostOfASort_22 v (f : Int) k n 75 g ≤ 128 := fun n g hg hn => by
    rw [(g_mo h2 h7 hf (k := k) n).2 g 0 hg]
    have := r_moM (w := w) (f := (f : Int)) (k := k) (s0 := 0) (g := g) n
    omega
  unfold P_C_mostOfASort
  simp only [e32, ew, n2]
  rw [show ((N : Int) - 1 + 1).toNat = N by omega]
  have q0 := rr N 0 (by omega) hN2
  have q1 := rr N 1 (by omega) hN2
  have q2 := rr N 2 (by omega) hN2
  refine ⟨fun i hi => ⟨by omega, by omega, trivial, ?_, fun _ => trivial, fun _ => ⟨⟨⟨by omega, fun _ => d_pv (by omega) (by omega) (by omega), fun _ => d_pv (by omega) (by omega) (by omega)⟩, ⟨by omega, fun _ => d_pv (by omega) (by omega) (by omega), fun _ => d_pv (by omega) (by omega) (by omega)⟩⟩, ?_⟩⟩, by omega, by omega, trivial, ⟨by omega, by omega⟩, ⟨by omega, ?_⟩⟩
  · have fr := (g_mo h2 h7 hf (k := k) i).1
    exact p_fit (y_mi h2 fr_0 fr rfl) (y_cl h7 fr_0 fr rfl) (by omega) hk
  · have b1 := zb_bitr (i : Int) (F_Y_inFile (A_C_mostOfASort_22 v (f : Int) k i) (f : Int) 0)
    have b2 := zb_bitr (i : Int) (F_Y_inFile (A_C_mostOfASort_22 v (f : Int) k i) (f : Int) 1)
    omega
  · unfold F_J_max_7cf53
    split <;> omega
theorem g_best {w v : z_Wd} (h2 : r_mi w v) (h7 : r_cl w v) {k : Int} : ∀ n : Nat, (n : Int) ≤ w 0 30 → (A_C_bestFile_7 v k n).1 = (A_M_ask_27 w k n).1 ∧ (A_C_bestFile_7 v k n).2.1 = (A_M_ask_27 w k n).2 ∧ z_fr [75] [] v (A_C_bestFile_7 v k n).2.2 ∧ (-1 ≤ (A_M_ask_27 w k n).1 ∧ (A_M_ask_27 w k n).1 < n) ∧ (0 ≤ (A_M_ask_27 w k n).2 ∧ (A_M_ask_27 w k n).2 ≤ 128)
  | 0, _ => ⟨rfl, rfl, fr_rf, by simp [A_M_ask_27], by simp [A_M_ask_27]⟩
  | n + 1, hn => by
    obtain ⟨i1, i2, i3, i4, i5⟩ := g_best h2 h7 (k := k) n (by omega)
    obtain ⟨m1, m2, m3⟩ := g_most (y_mi h2 fr_0 i3 rfl) (y_cl h7 fr_0 i3 rfl) (f := n) (by omega) (k := k)
    have m4 := fr_tr i3 m2
    simp only [A_C_bestFile_7, A_M_ask_27]
    rw [i1, i2, m1]
    by_cases c : (A_M_ask_27 w k n).1 = -1
    · rw [if_pos c, if_pos c]
      exact ⟨rfl, rfl, m4, by simp only; omega, m3⟩
    · rw [if_neg c, if_neg c]
      by_cases c2 : F_M_mostOfSort w (n : Int) k ≥ (A_M_ask_27 w k n).2
      · rw [if_pos c2, if_pos c2]
        exact ⟨rfl, rfl, m4, by simp only; omega, i5⟩
      · rw [if_neg c2, if_neg c2]
        exact ⟨rfl, rfl, m4, by simp only; omega, m3⟩
theorem g_go0 {w : z_Wd} {a : Int} : ∀ n, A_M_gone_20 w a 0 n = 0
  | 0 => rfl
  | n + 1 => by
    simp only [A_M_gone_20]
    rw [g_go0 n]
    split
    · rfl
    · rw [if_pos rfl]
theorem g_set0 {v : z_Wd} {a : Int} : ∀ n, 0 ≤ A_C_sets_4 v a n ∧ A_C_sets_4 v a n ≤ n ∧ (A_C_sets_4 v a n ≤ 0 ↔ ∀ i, i < n → F_C_fits v (i : Int) a = 0)
  | 0 => ⟨Int.le_refl _, Int.le_refl _, fun _ i hi => absurd hi (Nat.not_lt_zero i), fun _ => Int.le_refl _⟩
  | n + 1 => by
    obtain ⟨h0, h1, h2⟩ := g_set0 (v := v) (a := a) n
    simp only [A_C_sets_4]
    by_cases c : F_C_fits v (n : Int) a = 0
    · rw [if_pos c]
      refine ⟨h0, by omega, fun z i hi => ?_, fun z => h2.mpr (fun i hi => z i (by omega))⟩
      by_cases e : i = n
      · rw [e]; exact c
      · exact h2.mp z i (by omega)
    · rw [if_neg c]
      refine ⟨by omega, by omega, fun z => by omega, fun z => absurd (z n (by omega)) c⟩
theorem g_goz {w v : z_Wd} (h2 : r_mi w v) (h7 : r_cl w v) {a : Int} {N : Nat} (hN : zz_shl 1 (w 0 29) = (N : Int)) (hq : ¬ F_M_isAsked w a = 0) : (F_M_gone w a 0 = -1 ↔ A_C_sets_4 v a N ≤ 0) ∧ (-1 ≤ F_M_gone w a 0 ∧ F_M_gone w a 0 < N + 1) := by
  have ee : ∀ i, E_M_gone_20 w a 0 i = true ↔ ¬ F_C_fits v (i : Int) a = 0 := fun i => by
    unfold E_M_gone_20
    rw [g_go0, g_fit h2 h7]
    split <;> simp [*]
  unfold F_M_gone
  rw [if_neg hq, if_pos (by decide), hN, Int.toNat_natCast]
  by_cases c : zfind (E_M_gone_20 w a 0) N = -1
  · rw [if_pos c, if_neg (by decide)]
    refine ⟨⟨fun _ => (g_set0 N).2.2.mpr (fun i hi => ?_), fun _ => rfl⟩, by omega⟩
    have z := zfind_none c i hi
    by_cases z2 : F_C_fits v (i : Int) a = 0
    · exact z2
    · rw [(ee i).mpr z2] at z
      cases z
  · rw [if_neg c]
    have s := zfind_spec c
    have r := zfind_r (E_M_gone_20 w a 0) N
    generalize zfind (E_M_gone_20 w a 0) N = x at *
    obtain ⟨i, rfl⟩ := Int.eq_ofNat_of_zero_le (by omega : 0 ≤ x)
    rw [Int.toNat_natCast] at s ⊢
    have s2 := (ee i).mp s
    have er : R_M_gone_20 w a 0 i = (i : Int) := by
      unfold R_M_gone_20
      rw [g_go0, g_fit h2 h7, if_neg s2, if_pos rfl]
    rw [er]
    refine ⟨⟨fun z => by omega, fun z => absurd ((g_set0 N).2.2.mp z i (by omega)) s2⟩, by omega⟩
theorem ok_ask : S_ask Rl := by
  intro w a ha hr
  obtain ⟨h1, h2, h3, h4, h5, h6, h7, h8, h9, h10⟩ := id hr
  have e1 := h2.1
  have e2 := h2.2.1.2.1
  have e3 := h2.2.1.2.2.1
  obtain ⟨N, hN1, hN2, n1, n2⟩ := g_N h2
  have hs := g_set0 (v := w) (a := a) N
  have pS : P_C_sets w a := by
    unfold P_C_sets
    rw [n2]
    exact ⟨fun i hi => ⟨by omega, by omega, p_fit h2 h7 (by omega) ha⟩, by omega, by omega⟩
  have eS : F_C_sets w a = A_C_sets_4 w a N := by
    unfold F_C_sets
    rw [n2, show ((N : Int) - 1 + 1).toNat = N by omega]
  have pD : P_D_ask w a := by
    unfold P_D_ask P_C_canAsk P_Y_stands
    rw [eS]
    refine ⟨⟨by omega, fun _ => trivial, fun _ => ha⟩, fun _ => trivial, fun _ => ⟨pS, by omega, fun _ => trivial, fun _ => ?_⟩⟩
    unfold P_C_bestFile
    have ew : ∀ n : Nat, (n : Int) ≤ w 0 30 → (A_C_bestFile_7 w a n).2.2 32 3 = w 32 3 := fun n hn => fr_f (g_best h2 h7 (k := a) n hn).2.2.1 32 3 rfl rfl
    refine ⟨fun i hi => ?_, by omega, by rw [ew _ (by omega)]; omega, ew _ (by omega)⟩
    obtain ⟨i1, i2, i3, i4, i5⟩ := g_best h2 h7 (k := a) i (by omega)
    have q2 := y_mi h2 fr_0 i3 rfl
    have q7 := y_cl h7 fr_0 i3 rfl
    obtain ⟨m1, m2, m3⟩ := g_most q2 q7 (f := i) (by omega) (k := a)
    rw [ew _ (by omega), i1, i2, m1]
    exact ⟨by omega, by omega, rfl, p_mo q2 q7 (by omega) ha, by omega, fun _ => trivial, fun _ => by omega⟩
  have pM : ∀ v : z_Wd, z_fr [75] [] w v → P_M_ask v a ∧ F_M_ask v a = F_M_ask w a := by
    intro v f
    have q2 := y_mi h2 f f rfl
    have q7 := y_cl h7 f f rfl
    have q2' := y_mi h2 f fr_0 rfl
    have q7' := y_cl h7 f fr_0 rfl
    have e29 : v 0 29 = w 0 29 := fr_f f 0 29 rfl rfl
    have e30 : v 0 30 = w 0 30 := fr_f f 0 30 rfl rfl
    have nv : zz_shl 1 (v 0 29) = (N : Int) := by rw [e29]; exact n1
    have ea : ∀ n : Nat, (n : Int) ≤ w 0 30 → A_M_ask_27 v a n = A_M_ask_27 w a n := fun n hn => by
      have g1 := g_best h2 h7 (k := a) n hn
      have g2 := g_best q2' q7' (k := a) n (by omega)
      exact Prod.ext (g2.1.symm.trans g1.1) (g2.2.1.symm.trans g1.2.1)
    constructor
    · unfold P_M_ask P_M_gone P_M_isAsked
      rw [nv]
      have hA : (-2147483648 ≤ v 0 29 ∧ v 0 29 < 2147483648) ∧ (v 0 29 ≤ 0 → True) ∧ (¬ v 0 29 ≤ 0 → P_M_in v a 0 7) := ⟨by omega, fun _ => trivial, fun _ => p_inn ha (by omega) (by omega)⟩
      refine ⟨hA, fun _ => trivial, fun c => ⟨⟨hA, fun _ => trivial, fun _ => ⟨by omega, fun _ => ⟨fun i hi _ => ⟨by omega, by omega, p_ago q2 q7 (by omega) ha, ?_, fun _ => trivial, fun _ => ?_⟩, by omega, by omega⟩, fun _ => trivial⟩⟩, ?_, fun _ => trivial, fun _ => ⟨fun i hi => ?_, by omega, by omega⟩⟩⟩
      · have := r_ago q2 q7 (s := (i : Int)) (k := a)
        omega
      · rw [g_go0]
        omega
      · have := (g_goz q2 q7 nv c).2
        omega
      · obtain ⟨i1, i2, i3, i4, i5⟩ := g_best q2 q7 (k := a) i (by omega)
        obtain ⟨m1, m2, m3⟩ := g_most q2 q7 (f := i) (by omega) (k := a)
        refine ⟨by omega, by omega, ?_, by omega, fun _ => trivial, fun _ => by omega⟩
        unfold P_M_mostOfSort
        rw [nv]
        refine ⟨fun g hg => ⟨by omega, fun j hj => ⟨by omega, by omega, p_ago q2 q7 (by omega) ha, ?_, fun _ => trivial, fun _ => ⟨⟨by omega, by omega⟩, ?_⟩⟩, by omega, by omega, ?_⟩, trivial⟩
        · have := r_ago q2 q7 (s := (j : Int)) (k := a)
          omega
        · have := r_gp (w := v) (f := (i : Int)) (s := (j : Int))
          omega
        · have r1 := r_moM (w := v) (f := (i : Int)) (k := a) (s0 := A_M_mostOfSort_5 v (i : Int) a g) (g := g) N
          rw [Int.toNat_natCast]
          have r2 : 0 ≤ A_M_mostOfSort_5 v (i : Int) a g ∧ A_M_mostOfSort_5 v (i : Int) a g ≤ 128 := by
            have st : ∀ g, 0 ≤ A_M_mostOfSort_5 v (i : Int) a g ∧ A_M_mostOfSort_5 v (i : Int) a g ≤ 128 := by
              intro g
              induction g with
              | zero => simp [A_M_mostOfSort_5]
              | succ g ih =>
                simp only [A_M_mostOfSort_5, nv, Int.toNat_natCast]
                have r3 := r_moM (w := v) (f := (i : Int)) (k := a) (s0 := A_M_mostOfSort_5 v (i : Int) a g) (g := g) N
                unfold F_J_max_7cf53
                split <;> omega
            exact st g
          exact ⟨by omega, by omega⟩
    · unfold F_M_ask
      simp only [h_ia]
      rw [e29, e30]
      by_cases c : w 0 29 ≤ 0 ∨ a < 0 ∨ 7 < a
      · rw [if_pos c, if_pos c]
      · rw [if_neg c, if_neg c]
        have z1 := (g_goz q2' q7' (a := a) nv (by rw [h_ia]; omega)).1
        have z2 := (g_goz h2 h7 (a := a) n1 (by rw [h_ia]; omega)).1
        rw [ea _ (by omega)]
        by_cases c2 : A_C_sets_4 w a N ≤ 0
        · rw [if_pos (z1.mpr c2), if_pos (z2.mpr c2)]
        · rw [if_neg (fun z => c2 (z1.mp z)), if_neg (fun z => c2 (z2.mp z))]
  have fin : z_fr [75] [] w (F_D_ask w a).2 ∧ (F_D_ask w a).1 = F_M_ask w a := by
    unfold F_D_ask F_M_ask
    simp only [h_ca, h_ia]
    by_cases c : w 0 29 ≤ 0 ∨ a < 0 ∨ 7 < a
    · rw [if_pos (by omega), if_pos c]
      exact ⟨fr_rf, rfl⟩
    · rw [if_neg (by omega), if_neg c, eS]
      have z2 := (g_goz h2 h7 (a := a) n1 (by rw [h_ia]; omega)).1
      by_cases c2 : A_C_sets_4 w a N ≤ 0
      · rw [if_pos c2, if_pos (z2.mpr c2)]
        exact ⟨fr_rf, rfl⟩
      · rw [if_neg c2, if_neg (fun z => c2 (z2.mp z))]
        unfold F_C_bestFile
        rw [e1.2.2]
        have g1 := g_best h2 h7 (k := a) (w 0 30).toNat (by omega)
        exact ⟨g1.2.2.1, g1.1⟩
  obtain ⟨f, ef⟩ := fin
  refine ⟨pD, (pM _ f).1, by rw [(pM _ f).2]; exact ef, y_ta h1 f f rfl, y_mi h2 f f rfl, y_no h3 f f rfl, y_ac h4 f f rfl, y_im h5 f f rfl, y_la h6 f f rfl, y_cl h7 f f rfl, y_re h8 f f rfl, y_fl h9 f f rfl, y_rd h10 f f rfl⟩
