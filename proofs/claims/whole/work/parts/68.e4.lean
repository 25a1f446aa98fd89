/-! which sets fit what was seen -/
theorem g_gp {w v : z_Wd} (h2 : r_mi w v) {f : Nat} (hf : (f : Int) < w 0 30) {s : Int} : F_M_gapsBy w (f : Int) s = zz_and (zz_shr s (F_Y_inFile v (f : Int) 0)) 1 + zz_and (zz_shr s (F_Y_inFile v (f : Int) 1)) 1 := by
  have e2 := h2.2.1.2.2.1
  have e := h2.2.2.2.2.2.1 f hf
  unfold F_M_gapsBy F_Y_inFile
  rw [if_pos rfl, if_neg (by decide), (d_v3 (v := v) (n := f) (by omega)).1, (d_v3 (v := v) (n := f) (by omega)).2, show (2 * (f : Int)).toNat = 2 * f by omega, show (2 * (f : Int) + 1).toNat = 2 * f + 1 by omega, e.1.1, e.2.1]
theorem g_E {w v : z_Wd} (h2 : r_mi w v) (h7 : r_cl w v) {s : Int} {n : Nat} (hn : (n : Int) < v 72 4) : E_C_fits_12 v s n = true ↔ ¬ (F_M_gapsBy w (w 23 n) s = w 24 n) := by
  obtain ⟨t1, t2, t3⟩ := h7
  have q := t3 n (by omega)
  obtain ⟨f, hf⟩ := Int.eq_ofNat_of_zero_le q.1.2.1
  unfold E_C_fits_12
  rw [if_neg (by omega), Int.toNat_natCast, q.1.1, q.2.1, hf, g_gp h2 (by omega)]
  split
  · rename_i c
    simp [c]
  · rename_i c
    simp [c]
theorem g_ag {w v : z_Wd} (h2 : r_mi w v) (h7 : r_cl w v) {s : Int} : ∀ n : Nat, (n : Int) ≤ v 72 4 → A_M_areGone_17x2 w s n = if zfind (E_C_fits_12 v s) n = -1 then 1 else 0
  | 0, _ => by simp [A_M_areGone_17x2, zfind]
  | n + 1, hn => by
    have ih := g_ag h2 h7 (s := s) n (by omega)
    have ee := g_E h2 h7 (s := s) (n := n) (by omega)
    have ez : zfind (E_C_fits_12 v s) (n + 1) = if zfind (E_C_fits_12 v s) n = -1 then (if E_C_fits_12 v s n then (n : Int) else -1) else zfind (E_C_fits_12 v s) n := rfl
    rw [ez]
    simp only [A_M_areGone_17x2]
    rw [ih, Int.toNat_natCast]
    by_cases c : zfind (E_C_fits_12 v s) n = -1
    · rw [if_pos c, if_pos c, if_neg (by decide)]
      by_cases c2 : F_M_gapsBy w (w 23 n) s = w 24 n
      · have z : E_C_fits_12 v s n = false := by
          cases q9 : E_C_fits_12 v s n with
          | false => rfl
          | true => exact absurd c2 (ee.mp q9)
        rw [if_pos c2, z]
        simp
      · rw [if_neg c2, ee.mpr c2]
        simp
    · rw [if_neg c, if_pos rfl, if_neg c, if_neg c]
theorem g_gz {w : z_Wd} {s : Int} : ∀ n : Nat, A_M_areGone_17 w s n = 0
  | 0 => rfl
  | n + 1 => by
    simp only [A_M_areGone_17]
    rw [if_pos (g_gz n), g_gz n]
theorem g_g1 {w : z_Wd} {s : Int} : ∀ n : Nat, A_M_areGone_17x2 w s n = 0 ∨ A_M_areGone_17x2 w s n = 1
  | 0 => Or.inr rfl
  | n + 1 => by
    simp only [A_M_areGone_17x2]
    have := g_g1 (w := w) (s := s) n
    split
    · exact this
    · split
      · exact Or.inr rfl
      · exact Or.inl rfl
theorem g_R0 {v : z_Wd} {s : Int} {n : Nat} (hn : n ≤ 10) (c : zfind (E_C_fits_12 v s) n ≠ -1) : R_C_fits_12 v s (zfind (E_C_fits_12 v s) n).toNat = 0 := by
  have r := zfind_r (E_C_fits_12 v s) n
  unfold R_C_fits_12
  rw [if_neg (by omega)]
  split <;> rfl
theorem g_fit {w v : z_Wd} (h2 : r_mi w v) (h7 : r_cl w v) {s k : Int} : F_M_areGone w s k = F_C_fits v s k := by
  obtain ⟨t1, t2, t3⟩ := id h7
  unfold F_M_areGone F_C_fits
  rw [t1]
  have eb : F_J_bitCount_0f7a4 w s = F_J_bitCount_0f7a4 v s := rfl
  rw [eb]
  by_cases c : F_J_bitCount_0f7a4 v s = k
  · rw [if_pos c, if_pos c]
    have ea := g_ag h2 h7 (s := s) (v 72 4).toNat (by omega)
    by_cases cz : zfind (E_M_areGone_17x2 w s) (v 72 4).toNat = -1
    · rw [if_pos cz, ea]
      by_cases c3 : zfind (E_C_fits_12 v s) (v 72 4).toNat = -1
      · rw [if_pos c3, if_pos c3]
      · rw [if_neg c3, if_neg c3, g_R0 (by omega) c3]
    · rw [if_neg cz]
      have s0 := zfind_spec cz
      have rr := zfind_r (E_M_areGone_17x2 w s) (v 72 4).toNat
      generalize zfind (E_M_areGone_17x2 w s) (v 72 4).toNat = x at *
      obtain ⟨i, rfl⟩ := Int.eq_ofNat_of_zero_le (by omega : 0 ≤ x)
      rw [Int.toNat_natCast] at s0 ⊢
      have a0 : A_M_areGone_17x2 w s i = 0 := by
        rcases g_g1 (w := w) (s := s) i with z | z
        · exact z
        · unfold E_M_areGone_17x2 at s0
          rw [z, if_neg (by decide)] at s0
          split at s0 <;> cases s0
      have c3 : zfind (E_C_fits_12 v s) (v 72 4).toNat ≠ -1 := by
        intro z
        have q := g_ag h2 h7 (s := s) i (by omega)
        rw [a0, fi_no i (fun j hj => zfind_none z j (by omega)), if_pos rfl] at q
        cases q
      unfold R_M_areGone_17x2
      rw [if_pos a0, a0, if_neg c3, g_R0 (by omega) c3]
  · rw [if_neg c, if_neg c]
    split
    · exact g_gz _
    · unfold R_M_areGone_17
      rw [if_pos (g_gz _), g_gz]
theorem r_bc {v : z_Wd} {m : Nat} (h : m < 128) : 0 ≤ F_J_bitCount_0f7a4 v (m : Int) ∧ F_J_bitCount_0f7a4 v (m : Int) ≤ 7 := by
  rw [zb_cnt h]
  have := zcnt_le (fun i => Nat.testBit m i) 7
  omega
theorem r_fit {v : z_Wd} (h : v 72 4 ≤ 10) {s k : Int} : F_C_fits v s k = 0 ∨ F_C_fits v s k = 1 := by
  unfold F_C_fits
  split
  · split
    · exact Or.inr rfl
    · rename_i c
      exact Or.inl (g_R0 (by omega) c)
  · exact Or.inl rfl
theorem p_fit {w v : z_Wd} (h2 : r_mi w v) (h7 : r_cl w v) {m : Nat} (hm : m < 128) {k : Int} (hk : -2147483648 ≤ k ∧ k < 2147483648) : P_C_fits v (m : Int) k := by
  obtain ⟨t1, t2, t3⟩ := id h7
  have e2 := h2.2.1.2.2.1
  have r := r_bc (v := v) hm
  unfold P_C_fits
  refine ⟨by omega, hk, fun _ => ⟨fun i hi _ => ⟨by omega, by omega, fun _ => trivial, fun _ => ?_⟩, by omega, by omega⟩, fun _ => trivial⟩
  have q := t3 i (by omega)
  have b1 := zb_bitr (m : Int) (F_Y_inFile v (v 73 i) 0)
  have b2 := zb_bitr (m : Int) (F_Y_inFile v (v 73 i) 1)
  rw [Int.toNat_natCast]
  exact ⟨by omega, ⟨⟨by omega, fun _ => d_pv (by omega) (by omega) (by omega), fun _ => d_pv (by omega) (by omega) (by omega)⟩, ⟨by omega, fun _ => d_pv (by omega) (by omega) (by omega), fun _ => d_pv (by omega) (by omega) (by omega)⟩⟩, by omega, by omega⟩
theorem r_gp {w : z_Wd} {f s : Int} : 0 ≤ F_M_gapsBy w f s ∧ F_M_gapsBy w f s ≤ 2 := by
  unfold F_M_gapsBy
  have b1 := zb_bitr s (w 18 (2 * f).toNat)
  have b2 := zb_bitr s (w 18 (2 * f + 1).toNat)
  omega
theorem p_ago {w v : z_Wd} (h2 : r_mi w v) (h7 : r_cl w v) {m : Nat} (hm : m < 128) {k : Int} (hk : -2147483648 ≤ k ∧ k < 2147483648) : P_M_areGone w (m : Int) k := by
  obtain ⟨t1, t2, t3⟩ := id h7
  have e2 := h2.2.1.2.2.1
  have r := r_bc (v := w) hm
  have q : ∀ i : Nat, (i : Int) < w 0 43 → (0 ≤ (i : Int) ∧ (i : Int) < 10) ∧ P_M_gapsBy w (w 23 (i : Int).toNat) (m : Int) ∧ (-2147483648 ≤ F_M_gapsBy w (w 23 (i : Int).toNat) (m : Int) ∧ F_M_gapsBy w (w 23 (i : Int).toNat) (m : Int) < 2147483648) ∧ (-2147483648 ≤ w 24 (i : Int).toNat ∧ w 24 (i : Int).toNat < 2147483648) := by
    intro i hi
    have q := t3 i (by omega)
    have g := r_gp (w := w) (f := w 23 i) (s := (m : Int))
    rw [Int.toNat_natCast]
    exact ⟨by omega, ⟨by omega, by omega⟩, by omega, by omega⟩
  unfold P_M_areGone
  refine ⟨by omega, hk, fun _ => ⟨fun i hi _ => ⟨by omega, by omega, ?_, fun _ => g_g1 i, fun _ => q i (by omega)⟩, by omega, by omega, g_g1 _⟩, fun _ => ⟨fun i hi _ => ⟨by omega, by omega, ?_, fun _ => Or.inl (g_gz i), fun _ => q i (by omega)⟩, by omega, by omega, Or.inl (g_gz _)⟩⟩
  · have := g_g1 (w := w) (s := (m : Int)) i
    omega
  · rw [g_gz]
    omega
theorem r_ago {w v : z_Wd} (h2 : r_mi w v) (h7 : r_cl w v) {s k : Int} : F_M_areGone w s k = 0 ∨ F_M_areGone w s k = 1 := by
  rw [g_fit h2 h7]
  exact r_fit h7.2.1.2
theorem h_ca {w : z_Wd} {a : Int} : (F_C_canAsk w a = 0) = (w 32 2 ≤ 0 ∨ a < 0 ∨ 7 < a) := by
  unfold F_C_canAsk
  simp only [h_st]
  apply propext
  split
  · simp [*]
  · split
    · simp [*]
    · split
      · simp; omega
      · simp; omega
theorem h_ia {w : z_Wd} {a : Int} : (F_M_isAsked w a = 0) = (w 0 29 ≤ 0 ∨ a < 0 ∨ 7 < a) := by
  unfold F_M_isAsked
  simp only [h_in]
  apply propext
  split
  · simp [*]
  · split
    · simp [*]
    · simp; omega
/-- how many sets there are -/
theorem g_N {w v : z_Wd} (h2 : r_mi w v) : ∃ N : Nat, 1 ≤ N ∧ N ≤ 128 ∧ zz_shl 1 (w 0 29) = (N : Int) ∧ zz_shl 1 (v 32 2) = (N : Int) := by
  have e2 := h2.2.1.2.1
  have := bt_pow (n := (w 0 29).toNat) (by omega)
  rw [show (((w 0 29).toNat : Nat) : Int) = w 0 29 by omega] at this
  have p1 := Nat.pow_le_pow_right (n := 2) (by decide) (by omega : (w 0 29).toNat ≤ 7)
  have p3 : 0 < 2 ^ (w 0 29).toNat := Nat.pow_pos (by decide)
  exact ⟨2 ^ (w 0 29).toNat, p3, by omega, this, by rw [h2.1.2.1]; exact this⟩
theorem g_goA {w v : z_Wd} (h2 : r_mi w v) (h7 : r_cl w v) {a b : Int} : ∀ n, A_M_gone_20 w a b n = A_C_setAt_5 v a b n
  | 0 => rfl
  | n + 1 => by
    simp only [A_M_gone_20, A_C_setAt_5]
    rw [g_goA h2 h7 n, g_fit h2 h7]
theorem g_goE {w v : z_Wd} (h2 : r_mi w v) (h7 : r_cl w v) {a b : Int} : E_M_gone_20 w a b = E_C_setAt_5 v a b ∧ R_M_gone_20 w a b = R_C_setAt_5 v a b := by
  constructor
  · funext n
    unfold E_M_gone_20 E_C_setAt_5
    rw [g_goA h2 h7 n, g_fit h2 h7]
  · funext n
    unfold R_M_gone_20 R_C_setAt_5
    rw [g_goA h2 h7 n, g_fit h2 h7]
theorem r_goA {w : z_Wd} {a b : Int} : ∀ n : Nat, 0 ≤ A_M_gone_20 w a b n ∧ A_M_gone_20 w a b n ≤ n
  | 0 => ⟨Int.le_refl _, Int.le_refl _⟩
  | n + 1 => by
    have := r_goA (w := w) (a := a) (b := b) n
    simp only [A_M_gone_20]
    split
    · omega
    · split <;> omega
theorem g_goC {w v : z_Wd} (h2 : r_mi w v) (h7 : r_cl w v) {a : Int} : ∀ n, A_C_sets_4 v a n = A_M_gone_20 w a (-1) n
  | 0 => rfl
  | n + 1 => by
    have r := r_goA (w := w) (a := a) (b := -1) n
    simp only [A_C_sets_4, A_M_gone_20]
    rw [g_goC h2 h7 n, g_fit h2 h7]
    split
    · rfl
    · rw [if_neg (by omega)]
theorem g_goN {w : z_Wd} {a b : Int} (hb : b < 0) (n : Nat) : zfind (E_M_gone_20 w a b) n = -1 := by
  refine fi_no n (fun i _ => ?_)
  have r := r_goA (w := w) (a := a) (b := b) i
  unfold E_M_gone_20
  split
  · rfl
  · rw [if_neg (by omega)]
theorem ok_gone : S_gone Rl := by
  intro w a b ha hb hr
  obtain ⟨h1, h2, h3, -, -, -, h7, -⟩ := id hr
  have hd := g_ok h2 h3
  have e1 := h2.1
  have e2 := h2.2.1.2.1
  obtain ⟨N, hN1, hN2, n1, n2⟩ := g_N h2
  refine ⟨?_, ?_, ?_, hr⟩
  · unfold P_D_gone P_C_canAsk P_Y_stands P_C_sets P_C_setAt
    rw [n2]
    refine ⟨⟨by omega, fun _ => trivial, fun _ => ha⟩, fun _ => trivial, fun _ => ⟨hb, fun _ => ⟨fun i hi => ⟨by omega, by omega, p_fit h2 h7 (by omega) ha⟩, by omega, by omega⟩, fun _ => ⟨fun i hi _ => ⟨by omega, by omega, p_fit h2 h7 (by omega) ha, fun _ => trivial, fun _ => ⟨?_, hb⟩⟩, by omega, by omega⟩⟩⟩
    have r := r_goA (w := w) (a := a) (b := b) i
    rw [g_goA h2 h7] at r
    omega
  · unfold P_M_gone P_M_isAsked
    rw [n1]
    refine ⟨⟨by omega, fun _ => trivial, fun _ => p_inn ha (by omega) (by omega)⟩, fun _ => trivial, fun _ => ⟨hb, fun _ => ⟨fun i hi _ => ⟨by omega, by omega, p_ago h2 h7 (by omega) ha, ?_, fun _ => trivial, fun _ => ?_⟩, by omega, by omega⟩, fun _ => trivial⟩⟩
    · have := r_ago h2 h7 (s := (i : Int)) (k := a)
      omega
    · have r := r_goA (w := w) (a := a) (b := b) i
      omega
  · unfold F_D_gone F_M_gone
    simp only [h_ca, h_ia]
    by_cases c : w 32 2 ≤ 0 ∨ a < 0 ∨ 7 < a
    · rw [if_pos c, if_pos (by omega)]
    · have c' : ¬ (w 0 29 ≤ 0 ∨ a < 0 ∨ 7 < a) := by omega
      rw [if_neg c, if_neg c']
      unfold F_C_sets F_C_setAt
      rw [n1, n2, show ((N : Int) - 1 + 1).toNat = N by omega, Int.toNat_natCast]
      by_cases cb : b = -1
      · subst cb
        rw [if_pos rfl, if_pos (by omega), g_goN (by omega), if_pos rfl, if_pos rfl, g_goC h2 h7]
      · rw [if_neg cb, ← (g_goE h2 h7).1, ← (g_goE h2 h7).2]
        by_cases cb2 : b ≥ -1
        · rw [if_pos cb2, if_neg cb]
        · rw [if_neg cb2, g_goN (by omega), if_pos rfl]
theorem zb_m1 {x : Int} (h : -2147483648 ≤ x ∧ x < 2147483648) : zz_and x (-1) = x ∧ zz_and (-1) x = x := by
  have e : Int32.ofInt (-1) = -1 := rfl
  constructor
  · unfold zz_and
    rw [e, Int32.and_neg_one, z_ti h]
  · unfold zz_and
    rw [e, Int32.neg_one_and, z_ti h]
theorem g_su {w v : z_Wd} (h2 : r_mi w v) (h7 : r_cl w v) {a : Int} : ∀ n : Nat, n ≤ 128 → A_M_sure_14 w a n = A_C_inAll_4 v a n ∧ (A_C_inAll_4 v a n = -1 ∨ ∃ m : Nat, m < 128 ∧ A_C_inAll_4 v a n = (m : Int))
  | 0, _ => ⟨rfl, Or.inl rfl⟩
  | n + 1, hn => by
    obtain ⟨e, d⟩ := g_su h2 h7 (a := a) n (by omega)
    simp only [A_M_sure_14, A_C_inAll_4]
    rw [e, g_fit h2 h7]
    by_cases c : F_C_fits v (n : Int) a = 0
    · rw [if_pos c, if_pos c]
      refine ⟨(zb_m1 ?_).1, d⟩
      rcases d with d | ⟨m, hm, d⟩ <;> omega
    · rw [if_neg c, if_neg c]
      rcases d with d | ⟨m, hm, d⟩
      · rw [if_pos d, d]
        exact ⟨(zb_m1 (by omega)).2, Or.inr ⟨n, by omega, rfl⟩⟩
      · rw [if_neg (by omega), d]
        refine ⟨rfl, Or.inr ⟨m &&& n, Nat.lt_of_le_of_lt Nat.and_le_left hm, zb_and (by omega)⟩⟩
theorem ok_sure : S_sure Rl := by
  intro w a ha hr
  obtain ⟨h1, h2, h3, -, -, -, h7, -⟩ := id hr
  have hd := g_ok h2 h3
  have e1 := h2.1
  have e2 := h2.2.1.2.1
  obtain ⟨N, hN1, hN2, n1, n2⟩ := g_N h2
  refine ⟨?_, ?_, ?_, hr⟩
  · unfold P_D_sure P_C_canAsk P_Y_stands P_C_inAll
    rw [n2]
    refine ⟨⟨by omega, fun _ => trivial, fun _ => ha⟩, fun _ => trivial, fun _ => ⟨fun i hi => ⟨by omega, by omega, p_fit h2 h7 (by omega) ha, fun _ => trivial, fun _ => ?_⟩, by omega, by omega⟩⟩
    rcases (g_su h2 h7 (a := a) i (by omega)).2 with d | ⟨m, hm, d⟩ <;> omega
  · unfold P_M_sure P_M_isAsked
    rw [n1]
    refine ⟨⟨by omega, fun _ => trivial, fun _ => p_inn ha (by omega) (by omega)⟩, fun _ => trivial, fun _ => ⟨fun i hi => ⟨by omega, by omega, p_ago h2 h7 (by omega) ha, ?_⟩, by omega, by omega⟩⟩
    have := r_ago h2 h7 (s := (i : Int)) (k := a)
    omega
  · unfold F_D_sure F_M_sure
    simp only [h_ca, h_ia]
    by_cases c : w 32 2 ≤ 0 ∨ a < 0 ∨ 7 < a
    · rw [if_pos c, if_pos (by omega)]
    · rw [if_neg c, if_neg (by omega)]
      unfold F_C_inAll
      rw [n1, n2, show ((N : Int) - 1 + 1).toNat = N by omega, Int.toNat_natCast, (g_su h2 h7 N hN2).1]
