/-! what the class's helpers need -/
theorem p_in {v : z_Wd} (h : d_ok v) {a : Int} (ha : -2147483648 ≤ a ∧ a < 2147483648) : P_K_inside v a := by
  have h1 := h.2.1
  unfold P_K_inside
  refine ⟨fun i hi => ?_, by omega, by omega⟩
  have h2 := (h.2.2.2.2 i (by omega)).1
  rw [Int.toNat_natCast]
  exact ⟨by omega, by omega, by omega, by omega, ha⟩
theorem p_do {v : z_Wd} (h : d_ok v) {x : Int} : P_Y_dropsOf v x := by
  have h1 := h.2.1
  unfold P_Y_dropsOf
  refine ⟨fun i hi => ?_, by omega, by omega, d_pv (by omega) (by omega) (by omega)⟩
  have h2 := zb_bitr x (i : Int)
  exact ⟨by omega, by omega, by omega, fun _ => d_pv (by omega) (by omega) (by omega), fun _ => trivial⟩
theorem p_lo {v : z_Wd} (h : d_ok v) {m n : Nat} (hm : m < 7) (hn : n < 7) : P_K_liesOver v (m : Int) (n : Int) := by
  have h2 := h.2.2.2.2 m hm
  have h3 := h.2.2.2.2 n hn
  unfold P_K_liesOver
  rw [Int.toNat_natCast, Int.toNat_natCast]
  exact ⟨by omega, by omega, fun _ => trivial, fun _ => ⟨by omega, by omega, fun _ => ⟨by omega, by omega⟩, fun _ => trivial⟩⟩
theorem p_ab {v : z_Wd} (h : d_ok v) {n : Nat} (hn : n < 7) {x : Int} : P_K_above v (n : Int) x := by
  have h1 := h.2.1
  unfold P_K_above
  refine ⟨fun i hi => ?_, by omega, by omega, p_do h⟩
  have h2 := zb_bitr x (i : Int)
  exact ⟨by omega, by omega, by omega, fun _ => p_lo h (by omega) hn, fun _ => trivial⟩
theorem d_abr {v : z_Wd} (h : d_ok v) (p : Nat → Bool) (k : Nat) : 0 ≤ F_K_above v (k : Int) ((zbits p (v 32 2).toNat : Nat) : Int) ∧ F_K_above v (k : Int) ((zbits p (v 32 2).toNat : Nat) : Int) ≤ 68607 := by
  rw [d_ab h]
  exact d_sr h (fun i => p i && dv_o v i k)
theorem d_dor {v : z_Wd} (h : d_ok v) (p : Nat → Bool) : 0 ≤ F_Y_dropsOf v ((zbits p (v 32 2).toNat : Nat) : Int) ∧ F_Y_dropsOf v ((zbits p (v 32 2).toNat : Nat) : Int) ≤ 68607 := by
  rw [d_do h]
  exact d_sr h p
theorem p_cu {v : z_Wd} (h : d_ok v) (p : Nat → Bool) {a d : Int} (ha : a ≠ -1) (ha2 : -2147483648 ≤ a ∧ a < 2147483648) (hd : -2147483648 ≤ d ∧ d < 2147483648) : P_K_comesUp v a d ((zbits p (v 32 2).toNat : Nat) : Int) := by
  have h1 := h.2.1
  unfold P_K_comesUp
  refine ⟨fun i hi => ?_, by omega, by omega⟩
  have h2 := zb_bitr ((zbits p (v 32 2).toNat : Nat) : Int) (i : Int)
  have h3 := h.2.2.2.2 i (by omega)
  have h5 := d_abr h p i
  have h6 := dv_dr h (n := i) (by omega)
  unfold dv_d at h6
  rw [Int.toNat_natCast, (d_v2 (v := v) (n := i) (by omega)).1, d_v00]
  have hc := d_cuA h p (a := a) (d := d) ha i (by omega)
  have hr : -1 ≤ A_K_comesUp_6 v a d ((zbits p (v 32 2).toNat : Nat) : Int) i ∧ A_K_comesUp_6 v a d ((zbits p (v 32 2).toNat : Nat) : Int) i < 7 := by
    rcases hc with ⟨e, -⟩ | ⟨c, e, e2, -⟩ <;> omega
  have q : P_K_above v (i : Int) ((zbits p (v 32 2).toNat : Nat) : Int) ∧ (P_Y_value v 2 (i : Int) 0 ∧ P_Y_value v 0 0 0) ∧ (-2147483648 ≤ F_K_above v (i : Int) ((zbits p (v 32 2).toNat : Nat) : Int) + v 31 (15 + 3 * i) * v 31 0 ∧ F_K_above v (i : Int) ((zbits p (v 32 2).toNat : Nat) : Int) + v 31 (15 + 3 * i) * v 31 0 < 2147483648) ∧ (-2147483648 ≤ d ∧ d < 2147483648) :=
    ⟨p_ab h (by omega), ⟨d_pv (by omega) (by omega) (by omega), d_pv (by omega) (by omega) (by omega)⟩, by omega, hd⟩
  refine ⟨by omega, by omega, by omega, fun _ => ⟨by omega, by omega, ha2, fun _ => ⟨by omega, fun _ => q, fun c9 => ⟨?_, fun _ => trivial, fun _ => q⟩⟩, fun _ => trivial⟩, fun _ => trivial⟩
  rcases hc with ⟨e, -⟩ | ⟨c, e, e2, -⟩
  · exact absurd e c9
  · rw [e]
    exact p_lo h (by omega) (by omega)
/-! the reference's piles -/
def r_pl (w v : z_Wd) (T : Nat → Bool) : Prop :=
  (∀ n : Nat, (n : Int) < w 0 29 → -1 ≤ v 42 n ∧ v 42 n < w 0 28)
  ∧ (∀ a : Nat, a < 4 → (0 ≤ w 19 a ∧ w 19 a ≤ 7) ∧ (w 0 28 ≤ a → w 19 a = 0))
  ∧ (∀ a i : Nat, a < 4 → (i : Int) < w 19 a → (0 ≤ w 19 (4 + 7 * a + i) ∧ w 19 (4 + 7 * a + i) < w 0 29) ∧ T (w 19 (4 + 7 * a + i)).toNat = true ∧ v 42 (w 19 (4 + 7 * a + i)).toNat = a)
  ∧ (∀ a i j : Nat, a < 4 → i < j → (j : Int) < w 19 a → v 43 (w 19 (4 + 7 * a + i)).toNat < v 43 (w 19 (4 + 7 * a + j)).toNat)
  ∧ (∀ n : Nat, (n : Int) < w 0 29 → T n = true → v 42 n ≠ -1 → ∃ i : Nat, (i : Int) < w 19 (v 42 n).toNat ∧ w 19 (4 + 7 * (v 42 n).toNat + i) = n)
theorem m_MO {w v : z_Wd} (h : r_mi w v) : z_MO w := by
  obtain ⟨h1, h2, h3, h4, h5, h6, h7, h8⟩ := h
  obtain ⟨a1, a2, a3, a4, a5⟩ := h2
  refine ⟨fun n hn0 hn1 => ⟨h7 _ (by omega), h7 _ (by omega), h7 _ (by omega)⟩, by omega, a2, a1, a3⟩
theorem m_ix (a i : Nat) : (4 + 7 * (a : Int) + (i : Int)).toNat = 4 + 7 * a + i := by omega
theorem m_PO {w v : z_Wd} {T : Nat → Bool} (h : r_mi w v) (hp : r_pl w v T) : z_PO w := by
  intro a h0 h1
  obtain ⟨n, rfl⟩ := Int.eq_ofNat_of_zero_le h0
  have e1 := (hp.2.1 n (by omega)).1
  rw [Int.toNat_natCast]
  refine ⟨e1, fun i hi0 hi1 => ?_⟩
  obtain ⟨k, rfl⟩ := Int.eq_ofNat_of_zero_le hi0
  rw [m_ix]
  have e2 := (hp.2.2.1 n k (by omega) hi1).1
  have e3 := h.2.1.2.1
  omega
theorem m_do {w v : z_Wd} (h : r_mi w v) {n : Nat} (hn : (n : Int) < w 0 29) : F_M_dropsOf w (n : Int) = dv_d v n := by
  unfold F_M_dropsOf dv_d
  rw [show (3 * (n : Int)).toNat = 3 * n by omega, (h.2.2.2.2.1 n hn).1.1, h.2.2.1.1]
theorem m_doI {w v : z_Wd} (h : r_mi w v) {x : Int} (h0 : 0 ≤ x) (h1 : x < w 0 29) : F_M_dropsOf w x = dv_d v x.toNat := by
  obtain ⟨n, rfl⟩ := Int.eq_ofNat_of_zero_le h0
  exact m_do h h1
theorem m_inj {w v : z_Wd} {T : Nat → Bool} (hp : r_pl w v T) {a i j : Nat} (ha : a < 4) (hi : (i : Int) < w 19 a) (hj : (j : Int) < w 19 a) (e : w 19 (4 + 7 * a + i) = w 19 (4 + 7 * a + j)) : i = j := by
  rcases Nat.lt_trichotomy i j with c | c | c
  · have := hp.2.2.2.1 a i j ha c hj
    rw [e] at this
    omega
  · exact c
  · have := hp.2.2.2.1 a j i ha c hi
    rw [e] at this
    omega
theorem m_din {w v : z_Wd} {T : Nat → Bool} (h : r_mi w v) (hp : r_pl w v T) {a : Nat} (ha : a < 4) : F_M_dropsIn w (a : Int) = zsum (fun n => if T n && v 42 n == (a : Int) then dv_d v n else 0) (w 0 29).toNat := by
  unfold F_M_dropsIn
  rw [Int.toNat_natCast]
  have e0 := (hp.2.1 a ha).1
  rw [← su_bij (p := fun i => (w 19 (4 + 7 * a + i)).toNat) (q := fun n => T n && v 42 n == (a : Int)) (g := dv_d v) (m := (w 19 a).toNat) (n := (w 0 29).toNat)]
  · refine zsum_c _ (fun i hi => ?_)
    have e1 := (hp.2.2.1 a i ha (by omega)).1
    rw [m_ix, m_doI h e1.1 e1.2]
  · intro i hi
    obtain ⟨e1, e2, e3⟩ := hp.2.2.1 a i ha (by omega)
    exact ⟨by omega, by simp [e2, e3]⟩
  · intro i j hi hj e
    have e1 := (hp.2.2.1 a i ha (by omega)).1
    have e2 := (hp.2.2.1 a j ha (by omega)).1
    exact m_inj hp ha (by omega) (by omega) (by omega)
  · intro k hk hq
    simp only [Bool.and_eq_true, beq_iff_eq] at hq
    obtain ⟨i, h1, h2⟩ := hp.2.2.2.2 k (by omega) hq.1 (by omega)
    rw [hq.2, Int.toNat_natCast] at h1 h2
    exact ⟨i, by omega, by omega⟩
theorem m_aab {w v : z_Wd} {T : Nat → Bool} (h : r_mi w v) (hp : r_pl w v T) {a i0 : Nat} (ha : a < 4) (hi0 : (i0 : Int) < w 19 a) : F_M_aboveAt w (a : Int) (i0 : Int) = zsum (fun n => if T n && dv_o v n (w 19 (4 + 7 * a + i0)).toNat then dv_d v n else 0) (w 0 29).toNat := by
  unfold F_M_aboveAt
  rw [Int.toNat_natCast]
  have e0 := (hp.2.1 a ha).1
  obtain ⟨f1, f2, f3⟩ := hp.2.2.1 a i0 ha hi0
  have ix : ∀ i : Nat, (4 + 7 * (a : Int) + ((i0 : Int) + 1 + (i : Int))).toNat = 4 + 7 * a + (i0 + 1 + i) := fun i => by omega
  have key : ∀ n : Nat, (n : Int) < w 0 29 → (T n && dv_o v n (w 19 (4 + 7 * a + i0)).toNat) = (T n && (v 42 n == (a : Int) && decide (v 43 (w 19 (4 + 7 * a + i0)).toNat < v 43 n))) := by
    intro n hn
    unfold dv_o
    rw [f3]
    by_cases c : v 42 n = (a : Int)
    · have h8 : ¬ v 42 n = -1 := by omega
      have h9 : (v 42 n != -1) = true := bne_iff_ne.mpr h8
      rw [h9, Bool.true_and]
    · have h9 : (v 42 n == (a : Int)) = false := beq_eq_false_iff_ne.mpr c
      rw [h9, Bool.false_and, Bool.and_false]
  rw [← su_bij (p := fun i => (w 19 (4 + 7 * a + (i0 + 1 + i))).toNat) (q := fun n => T n && dv_o v n (w 19 (4 + 7 * a + i0)).toNat) (g := dv_d v) (m := (w 19 a - ((i0 : Int) + 1)).toNat) (n := (w 0 29).toNat)]
  · refine zsum_c _ (fun i hi => ?_)
    have e1 := (hp.2.2.1 a (i0 + 1 + i) ha (by omega)).1
    rw [ix, m_doI h e1.1 e1.2]
  · intro i hi
    obtain ⟨e1, e2, e3⟩ := hp.2.2.1 a (i0 + 1 + i) ha (by omega)
    have e4 := hp.2.2.2.1 a i0 (i0 + 1 + i) ha (by omega) (by omega)
    refine ⟨by omega, ?_⟩
    rw [key _ (by omega), e2, e3]
    simp [e4]
  · intro i j hi hj e
    have e1 := (hp.2.2.1 a (i0 + 1 + i) ha (by omega)).1
    have e2 := (hp.2.2.1 a (i0 + 1 + j) ha (by omega)).1
    have := m_inj hp (i := i0 + 1 + i) (j := i0 + 1 + j) ha (by omega) (by omega) (by omega)
    omega
  · intro k hk hq
    rw [key k (by omega)] at hq
    simp only [Bool.and_eq_true, beq_iff_eq, decide_eq_true_eq] at hq
    obtain ⟨j, h1, h2⟩ := hp.2.2.2.2 k (by omega) hq.1 (by omega)
    rw [hq.2.1, Int.toNat_natCast] at h1 h2
    have hj : i0 < j := by
      rcases Nat.lt_trichotomy i0 j with c | c | c
      · exact c
      · subst c
        rw [h2, Int.toNat_natCast] at hq
        omega
      · have := hp.2.2.2.1 a j i0 ha c hi0
        rw [h2, Int.toNat_natCast] at this
        omega
    refine ⟨j - i0 - 1, by omega, ?_⟩
    rw [show i0 + 1 + (j - i0 - 1) = j by omega, h2, Int.toNat_natCast]
theorem m_ly1 {w v : z_Wd} {T : Nat → Bool} (hp : r_pl w v T) {a i : Nat} {n : Int} (ha : a < 4) (hi : (i : Int) < w 19 a) (e : w 19 (4 + 7 * a + i) = n) : F_M_layerOf w (a : Int) n = (i : Int) := by
  unfold F_M_layerOf
  rw [Int.toNat_natCast]
  refine zfind_least (by omega) ?_ (fun j hj => ?_)
  · simp only [m_ix, beq_iff_eq]
    exact e
  · have : ¬ w 19 (4 + 7 * a + j) = n := fun z => by
      have := m_inj hp (i := j) (j := i) ha (by omega) hi (by rw [z, e])
      omega
    simpa [m_ix] using this
theorem m_ly0 {w : z_Wd} {a : Nat} {n : Int} (e : ∀ i : Nat, (i : Int) < w 19 a → w 19 (4 + 7 * a + i) ≠ n) : F_M_layerOf w (a : Int) n = -1 := by
  unfold F_M_layerOf
  rw [Int.toNat_natCast]
  refine fi_no _ (fun j hj => ?_)
  simpa [m_ix] using e j (by omega)
theorem m_lyN {w v : z_Wd} {T : Nat → Bool} (hp : r_pl w v T) {a n : Nat} (ha : a < 4) (hT : ¬ (T n = true ∧ v 42 n = a)) : F_M_layerOf w (a : Int) (n : Int) = -1 := by
  refine m_ly0 (fun i hi z => hT ?_)
  obtain ⟨-, e2, e3⟩ := hp.2.2.1 a i ha hi
  rw [z, Int.toNat_natCast] at e2 e3
  exact ⟨e2, e3⟩
theorem m_lyY {w v : z_Wd} {T : Nat → Bool} (hp : r_pl w v T) {a n : Nat} (ha : a < 4) (hn : (n : Int) < w 0 29) (hT : T n = true) (hw : v 42 n = a) : ∃ i : Nat, (i : Int) < w 19 a ∧ w 19 (4 + 7 * a + i) = n ∧ F_M_layerOf w (a : Int) (n : Int) = (i : Int) := by
  obtain ⟨i, h1, h2⟩ := hp.2.2.2.2 n hn hT (by omega)
  rw [hw, Int.toNat_natCast] at h1 h2
  exact ⟨i, h1, h2, m_ly1 hp ha h1 h2⟩
theorem m_wo {w v : z_Wd} {T : Nat → Bool} (h : r_mi w v) (hp : r_pl w v T) {n : Nat} (hn : (n : Int) < w 0 29) : F_M_wellOf w (n : Int) = if T n then v 42 n else -1 := by
  have hw := h.2.1.1
  have hr := hp.1 n hn
  unfold F_M_wellOf
  have none : ¬ (T n = true ∧ v 42 n ≠ -1) → zfind (fun a => F_M_layerOf w (a : Int) (n : Int) != -1) (w 0 28).toNat = -1 := by
    intro c
    refine fi_no _ (fun a ha => ?_)
    rw [m_lyN hp (by omega) (fun z => c ⟨z.1, by omega⟩)]
    rfl
  by_cases c : T n = true
  · rw [if_pos c]
    by_cases c2 : v 42 n = -1
    · rw [none (fun z => z.2 c2), c2]
    · obtain ⟨a, ea⟩ : ∃ a : Nat, v 42 n = a := ⟨(v 42 n).toNat, by omega⟩
      obtain ⟨i, h1, h2, h3⟩ := m_lyY hp (a := a) (by omega) hn c ea
      rw [ea]
      refine zfind_least (by omega) ?_ (fun j hj => ?_)
      · simp only [h3]
        simp only [bne_iff_ne, ne_eq]
        omega
      · rw [m_lyN hp (by omega) (fun z => by omega)]
        rfl
  · rw [if_neg c]
    exact none (fun z => c z.1)
theorem m_fr {w v : z_Wd} {T : Nat → Bool} (h : r_mi w v) (hp : r_pl w v T) {n : Nat} (hn : (n : Int) < w 0 29) : F_M_isFree w (n : Int) = if T n && v 42 n != -1 then 0 else 1 := by
  unfold F_M_isFree
  rw [m_wo h hp hn]
  by_cases c : T n = true
  · by_cases c2 : v 42 n = -1 <;> simp [c, c2]
  · simp [c]
theorem m_drA {w v : z_Wd} {T : Nat → Bool} (h : r_mi w v) (hp : r_pl w v T) : ∀ n : Nat, (n : Int) ≤ w 0 29 → A_M_drowned_4 w n = ((zbits (fun i => T i && v 42 i != -1) n : Nat) : Int)
  | 0, _ => rfl
  | n + 1, hn => by
    have h7 := h.2.1.2.1
    simp only [A_M_drowned_4]
    rw [m_drA h hp n (by omega), m_fr h hp (by omega)]
    by_cases c : (T n && v 42 n != -1) = true
    · rw [if_pos c, if_pos rfl]
      exact bt_stepY (p := fun i => T i && v 42 i != -1) (by omega) c
    · rw [if_neg c, if_neg (by decide)]
      exact bt_step0 (p := fun i => T i && v 42 i != -1) (by omega) (by simpa using c)
theorem m_dr {w v : z_Wd} {T : Nat → Bool} (h : r_mi w v) (hp : r_pl w v T) : F_M_drowned w = ((zbits (fun i => T i && v 42 i != -1) (w 0 29).toNat : Nat) : Int) := by
  have h7 := h.2.1.2.1
  exact m_drA h hp _ (by omega)
/-- whom a pen reaches is who comes up -/
theorem m_rb {w v : z_Wd} {T : Nat → Bool} (h : r_mi w v) (hd : d_ok v) (hp : r_pl w v T) {a : Nat} {d : Int} (ha : a < 4) : (F_M_reachedBy w (a : Int) d = -1 ∧ F_K_comesUp v (a : Int) d ((zbits T (v 32 2).toNat : Nat) : Int) = -1) ∨ ∃ i c : Nat, F_M_reachedBy w (a : Int) d = (i : Int) ∧ F_K_comesUp v (a : Int) d ((zbits T (v 32 2).toNat : Nat) : Int) = (c : Int) ∧ (i : Int) < w 19 a ∧ w 19 (4 + 7 * a + i) = c ∧ (c : Int) < w 0 29 ∧ T c = true ∧ v 42 c = a := by
  have hnn : v 32 2 = w 0 29 := h.1.2.1
  have e0 := (hp.2.1 a ha).1
  have con : ∀ i : Nat, (i : Int) < w 19 a → (F_M_dropsOf w (w 19 (4 + 7 * a + i)) + F_M_aboveAt w (a : Int) (i : Int) ≤ d ↔ dv_c v T (a : Int) d (w 19 (4 + 7 * a + i)).toNat) := by
    intro i hi
    obtain ⟨e1, e2, e3⟩ := hp.2.2.1 a i ha hi
    rw [m_aab h hp ha hi, m_doI h e1.1 e1.2]
    unfold dv_c
    rw [hnn]
    constructor
    · intro z
      exact ⟨e2, e3, by omega⟩
    · intro z
      have := z.2.2
      omega
  unfold F_K_comesUp F_M_reachedBy
  rw [Int.toNat_natCast]
  rcases d_cuA hd T (a := (a : Int)) (d := d) (by omega) (v 32 2).toNat (Nat.le_refl _) with ⟨e, hno⟩ | ⟨c, e, hc, hdc, hmin⟩
  · refine Or.inl ⟨fi_no _ (fun i hi => ?_), e⟩
    obtain ⟨e1, e2, e3⟩ := hp.2.2.1 a i ha (by omega)
    have := hno (w 19 (4 + 7 * a + i)).toNat (by omega)
    rw [← con i (by omega)] at this
    simp only [m_ix, decide_eq_false_iff_not]
    exact this
  · obtain ⟨i, h1, h2⟩ := hp.2.2.2.2 c (by omega) hdc.1 (by have := hdc.2.1; omega)
    rw [hdc.2.1, Int.toNat_natCast] at h1 h2
    refine Or.inr ⟨i, c, zfind_least (by omega) ?_ (fun j hj => ?_), e, h1, h2, by omega, hdc.1, hdc.2.1⟩
    · simp only [m_ix, decide_eq_true_eq]
      rw [con i h1, h2, Int.toNat_natCast]
      exact hdc
    · simp only [m_ix, decide_eq_false_iff_not]
      rw [con j (by omega)]
      intro z
      have e1 := (hp.2.2.1 a j ha (by omega)).1
      have e3 := hmin _ (by omega) z
      have e4 := hp.2.2.2.1 a j i ha hj h1
      rw [h2, Int.toNat_natCast] at e4
      omega
