/-! reading: the tape -/
theorem zfind_bef {p : Nat → Bool} : ∀ n, zfind p n ≠ -1 → ∀ i : Nat, (i : Int) < zfind p n → p i = false
  | 0, h, _, _ => absurd rfl h
  | n + 1, h, i, hi => by
    simp only [zfind] at h hi
    by_cases c : zfind p n = -1
    · rw [if_pos c] at h hi
      by_cases d : p n = true
      · rw [if_pos d] at hi
        exact zfind_none c i (by omega)
      · rw [if_neg d] at h
        exact absurd rfl h
    · rw [if_neg c] at h hi
      exact zfind_bef n c i hi
theorem t_max {w : z_Wd} {a : Int} (h : 0 ≤ a) : F_J_max_7cf53 w 0 a = a := by
  unfold F_J_max_7cf53
  split <;> omega
/-- where the blanks end -/
theorem t_bb {v : z_Wd} {p : Int} (h : 0 ≤ p) : ∃ k : Nat, F_T_behindBlanks v p = p + (k : Int) ∧ (∀ i : Nat, i < k → v 29 (p + (i : Int)).toNat = 32 ∧ p + (i : Int) < v 28 1) ∧ (p + (k : Int) < v 28 1 → v 29 (p + (k : Int)).toNat ≠ 32) := by
  unfold F_T_behindBlanks
  rw [t_max h]
  by_cases c : zfind (E_T_behindBlanks_6 v p) (v 28 1 - p).toNat = -1
  · rw [if_pos c]
    refine ⟨(v 28 1 - p).toNat, rfl, fun i hi => ?_, fun z => by omega⟩
    have z := zfind_none c i hi
    unfold E_T_behindBlanks_6 at z
    rw [t_max h] at z
    refine ⟨?_, by omega⟩
    by_cases y : v 29 (p + (i : Int)).toNat = 32
    · exact y
    · rw [if_neg y] at z
      cases z
  · rw [if_neg c]
    have z1 := zfind_r (E_T_behindBlanks_6 v p) (v 28 1 - p).toNat
    have z2 := zfind_spec c
    have z3 := zfind_bef _ c
    generalize zfind (E_T_behindBlanks_6 v p) (v 28 1 - p).toNat = j at *
    obtain ⟨k, rfl⟩ := Int.eq_ofNat_of_zero_le (show 0 ≤ j by omega)
    rw [Int.toNat_natCast] at z2 ⊢
    unfold E_T_behindBlanks_6 at z2
    rw [t_max h] at z2
    have y : ¬ v 29 (p + (k : Int)).toNat = 32 := fun y => by
      rw [if_pos y] at z2
      cases z2
    refine ⟨k, ?_, fun i hi => ?_, fun _ => y⟩
    · unfold R_T_behindBlanks_6
      rw [t_max h, if_neg y]
    · have z := z3 i (by omega)
      unfold E_T_behindBlanks_6 at z
      rw [t_max h] at z
      refine ⟨?_, by omega⟩
      by_cases x : v 29 (p + (i : Int)).toNat = 32
      · exact x
      · rw [if_neg x] at z
        cases z
theorem t_bbu {v : z_Wd} {p : Int} (h : 0 ≤ p) {k : Nat} (h1 : ∀ i : Nat, i < k → v 29 (p + (i : Int)).toNat = 32 ∧ p + (i : Int) < v 28 1) (h2 : p + (k : Int) < v 28 1 → v 29 (p + (k : Int)).toNat ≠ 32) : F_T_behindBlanks v p = p + (k : Int) := by
  obtain ⟨j, e, g1, g2⟩ := t_bb (v := v) h
  rw [e]
  rcases Nat.lt_trichotomy j k with c | c | c
  · exact absurd (h1 j c).1 (g2 (h1 j c).2)
  · rw [c]
  · exact absurd (g1 k c).1 (h2 (g1 k c).2)
theorem t_at {v : z_Wd} {p : Int} (h : 0 ≤ p) : F_T_at v p = if p < v 28 1 then v 29 p.toNat else 0 := by
  unfold F_T_at
  rw [if_neg (by omega)]
  by_cases c : p < v 28 1
  · rw [if_neg (by omega), if_pos c]
  · rw [if_pos (by omega), if_neg c]
theorem t_bb32 {v : z_Wd} {p : Int} (h : 0 ≤ p) (h32 : F_T_at v p = 32) : F_T_behindBlanks v p = F_T_behindBlanks v (p + 1) := by
  rw [t_at h] at h32
  have c : p < v 28 1 := by
    by_cases c : p < v 28 1
    · exact c
    · rw [if_neg c] at h32
      cases h32
  rw [if_pos c] at h32
  obtain ⟨k, e, g1, g2⟩ := t_bb (v := v) (show 0 ≤ p + 1 by omega)
  rw [e, t_bbu (k := k + 1) h]
  · omega
  · intro i hi
    rcases Nat.eq_zero_or_pos i with z | z
    · subst z
      rw [show p + ((0 : Nat) : Int) = p by omega]
      exact ⟨h32, c⟩
    · have := g1 (i - 1) (by omega)
      rw [show p + 1 + ((i - 1 : Nat) : Int) = p + (i : Int) by omega] at this
      exact this
  · rw [show p + ((k + 1 : Nat) : Int) = p + 1 + (k : Int) by omega]
    exact g2
theorem t_bbno {v : z_Wd} {p : Int} (h : 0 ≤ p) (h32 : ¬ F_T_at v p = 32) : F_T_behindBlanks v p = p := by
  rw [t_at h] at h32
  rw [t_bbu (k := 0) h]
  · omega
  · intro i hi
    omega
  · rw [show p + ((0 : Nat) : Int) = p by omega]
    intro c
    rw [if_pos c] at h32
    exact h32
theorem t_bbr {v : z_Wd} {p : Int} (h : 0 ≤ p) : p ≤ F_T_behindBlanks v p ∧ (p ≤ v 28 1 → F_T_behindBlanks v p ≤ v 28 1) ∧ ¬ F_T_at v (F_T_behindBlanks v p) = 32 ∧ F_T_behindBlanks v (F_T_behindBlanks v p) = F_T_behindBlanks v p := by
  obtain ⟨k, e, g1, g2⟩ := t_bb (v := v) h
  have n : ¬ F_T_at v (F_T_behindBlanks v p) = 32 := by
    rw [e, t_at (by omega)]
    by_cases c : p + (k : Int) < v 28 1
    · rw [if_pos c]
      exact g2 c
    · rw [if_neg c]
      decide
  refine ⟨by omega, fun z => ?_, n, t_bbno (by omega) n⟩
  rw [e]
  rcases Nat.eq_zero_or_pos k with c | c
  · omega
  · have := (g1 (k - 1) (by omega)).2
    omega
/-- what both tapes are -/
def t_ok (v : z_Wd) : Prop := (0 ≤ v 28 1 ∧ v 28 1 ≤ 240) ∧ ∀ i : Nat, (i : Int) < v 28 1 → 1 ≤ v 29 i ∧ v 29 i ≤ 255
theorem t_ta {w v : z_Wd} (h : r_ta w v) : t_ok v := ⟨h.2.1, fun i hi => (h.2.2 i hi).2⟩
theorem t_atr {v : z_Wd} (h : t_ok v) {p : Int} (h0 : 0 ≤ p) : (0 ≤ F_T_at v p ∧ F_T_at v p ≤ 255) ∧ (F_T_at v p = 0 ↔ v 28 1 ≤ p) := by
  rw [t_at h0]
  by_cases c : p < v 28 1
  · rw [if_pos c]
    have := h.2 p.toNat (by omega)
    omega
  · rw [if_neg c]
    omega
theorem t_pat {v : z_Wd} (h : t_ok v) {p : Int} (h0 : -1000000 ≤ p ∧ p ≤ 1000000) : P_T_at v p := by
  have := h.1
  exact ⟨by omega, fun _ => trivial, fun _ => ⟨by omega, fun _ => trivial, fun _ => by omega⟩⟩
theorem t_pbb {v : z_Wd} (h : t_ok v) {p : Int} (h0 : 0 ≤ p ∧ p ≤ 1000000) : P_T_behindBlanks v p := by
  have h1 := h.1
  unfold P_T_behindBlanks
  rw [t_max h0.1]
  refine ⟨⟨by omega, by omega⟩, fun i hi _ => ?_, by omega, by omega⟩
  have := h.2 (p + (i : Int)).toNat (by omega)
  omega
def t_mc (x : Int) : Int := if x = 0 then -1 else x
theorem t_here {w v : z_Wd} (h : r_ta w v) (h0 : 0 ≤ w 0 3 ∧ w 0 3 ≤ 1000000) : F_M_here w = t_mc (F_T_at v (w 0 3)) ∧ P_M_here w ∧ (-1 ≤ F_M_here w ∧ F_M_here w ≤ 255) := by
  have h1 := h.2.1
  have hr := (t_atr (t_ta h) h0.1).1
  have e : F_M_here w = t_mc (F_T_at v (w 0 3)) := by
    rw [t_at h0.1]
    unfold F_M_here t_mc
    rw [h.1]
    by_cases c : w 0 3 < v 28 1
    · have := h.2.2 (w 0 3).toNat (by omega)
      rw [if_neg (show ¬ w 0 3 ≥ v 28 1 by omega), if_pos c, if_neg (by omega)]
      exact this.1
    · rw [if_pos (show w 0 3 ≥ v 28 1 by omega), if_neg c, if_pos rfl]
  refine ⟨e, ?_, ?_⟩
  · unfold P_M_here
    rw [h.1]
    exact ⟨by omega, by omega, fun _ => trivial, fun _ => by omega⟩
  · rw [e]
    unfold t_mc
    split <;> omega
theorem z_self {w : z_Wd} {k j : Nat} {x : Int} (h : x = w k j) : z_up w k j x = w := by
  subst h
  funext a b
  by_cases c : a = k
  · subst c
    by_cases d : b = j
    · subst d
      exact z_up_at
    · exact z_up_ne d
  · rw [z_up_other c]
theorem z_twice {w : z_Wd} {k j : Nat} {x y : Int} : z_up (z_up w k j x) k j y = z_up w k j y := by
  funext a b
  by_cases c : a = k
  · subst c
    by_cases d : b = j
    · subst d
      rw [z_up_at, z_up_at]
    · rw [z_up_ne d, z_up_ne d, z_up_ne d]
  · rw [z_up_other c, z_up_other c, z_up_other c]
theorem t_tac {w v w' v' : z_Wd} (h : r_ta w v) (a : w' 0 2 = w 0 2) (b : w' 1 = w 1) (c : v' 28 1 = v 28 1) (d : v' 29 = v 29) : r_ta w' v' := by
  unfold r_ta
  rw [a, b, c, d]
  exact h
theorem t_lookL {u v : z_Wd} : ∀ (n : Nat) (w : z_Wd), r_ta w v → (0 ≤ w 0 3 ∧ w 0 3 ≤ 100000) → v 28 1 - w 0 3 < n → 1 ≤ n → PL_M_look_0 u n w ∧ L_M_look_0 u n w = (t_mc (F_T_at v (F_T_behindBlanks v (w 0 3))), z_up w 0 3 (F_T_behindBlanks v (w 0 3)))
  | 0, w, _, _, _, h1 => absurd h1 (by decide)
  | n + 1, w, h, h0, hn, _ => by
    obtain ⟨e, p, r⟩ := t_here h (by omega)
    have ar := (t_atr (t_ta h) h0.1)
    have hl := h.2.1
    simp only [PL_M_look_0, L_M_look_0]
    by_cases c : F_T_at v (w 0 3) = 32
    · have c2 : F_M_here w = 32 := by
        rw [e, c]
        rfl
      have lt : ¬ v 28 1 ≤ w 0 3 := fun z => by
        rw [ar.2.mpr z] at c
        cases c
      obtain ⟨i1, i2⟩ := t_lookL (u := u) n (z_up w 0 3 (w 0 3 + 1)) (t_tac h (z_up_ne (by decide)) (z_up_other (by decide)) rfl rfl) (by rw [z_up_at]; omega) (by rw [z_up_at]; omega) (by omega)
      rw [if_pos c2, i2, z_up_at, z_twice, t_bb32 h0.1 c]
      exact ⟨⟨p, by omega, fun _ => i1, fun z => absurd c2 z⟩, rfl⟩
    · have c2 : ¬ F_M_here w = 32 := by
        rw [e]
        unfold t_mc
        split
        · decide
        · exact c
      rw [if_neg c2, t_bbno h0.1 c, z_self rfl, e]
      exact ⟨⟨p, by rw [← e]; omega, fun z => absurd (by rw [e]; exact z) c2, fun _ => trivial⟩, rfl⟩
theorem t_look {w v : z_Wd} (h : r_ta w v) (h0 : 0 ≤ w 0 3 ∧ w 0 3 ≤ 100000) : P_M_look w ∧ F_M_look w = (t_mc (F_T_at v (F_T_behindBlanks v (w 0 3))), z_up w 0 3 (F_T_behindBlanks v (w 0 3))) := by
  have := h.2.1
  exact t_lookL 300 w h h0 (by omega) (by decide)
theorem t_mcr {x : Int} (h : 0 ≤ x ∧ x ≤ 255) : -1 ≤ t_mc x ∧ t_mc x ≤ 255 := by
  unfold t_mc
  split <;> omega
