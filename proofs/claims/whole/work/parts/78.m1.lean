/-! how much one is missed -/
theorem l_evs {c v le : Nat → Int} {b a : Nat} : ∀ n, l_ev (fun k => c (b + k)) (fun k => v (b + k)) le a n = l_ev c v le (b + a) n
  | 0 => rfl
  | n + 1 => by
    simp only [l_ev]
    rw [l_evs n, Nat.add_assoc]
theorem l_runs {c : Nat → Int} {b a : Nat} : ∀ n s, l_run (fun k => c (b + k)) a n s = l_run c (b + a) n s
  | 0, _ => rfl
  | n + 1, s => by
    simp only [l_run]
    rw [l_runs n s, Nat.add_assoc]
theorem l_opc {c x : Int} {le le' : Nat → Int} {s : List Int} (hv : l_va c x) (e : ∀ i, i < 6 → le i = le' i) : l_op c x le s = l_op c x le' s := by
  obtain ⟨v1, v2, v3, v4⟩ := hv
  unfold l_op
  split
  · rfl
  · split
    · rename_i h
      have := v3 h
      rw [e _ (by omega)]
    · rfl
theorem l_evc {c v le le' : Nat → Int} {a : Nat} (e : ∀ i, i < 6 → le i = le' i) : ∀ n, (∀ i, i < n → l_va (c (a + i)) (v (a + i))) → l_ev c v le a n = l_ev c v le' a n
  | 0, _ => rfl
  | n + 1, h => by
    simp only [l_ev]
    rw [l_evc e n (fun i hi => h i (by omega)), l_opc (h n (by omega)) e]
theorem l_resc {code val le le' tf sf st row : Nat → Int} {ncl len : Int} (h : l_one code val tf sf st ncl row len) (e : ∀ i, i < 6 → le i = le' i) : ∀ n c : Nat, (c : Int) + n = ncl → l_res code val le tf sf st n c = l_res code val le' tf sf st n c
  | 0, _, _ => rfl
  | n + 1, c, hc => by
    obtain ⟨o1, o2, K, K0, Kn, Kc⟩ := id h
    obtain ⟨b1, b2, b3, b4, b5, b6⟩ := Kc c (by omega)
    simp only [l_res]
    rw [l_evc e _ (fun i hi => (b2 i hi).1), l_resc h e n (c + 1) (by omega)]
    by_cases ct : tf c = sf c
    · rw [if_pos (Or.inl ct), if_pos (Or.inl ct)]
    · rw [l_evc e _ (fun i hi => ((b6 ct).1 i hi).1)]
/-- the reference's law -/
theorem m_worth {w : z_Wd} {n : Nat} {row : Nat → Int} {len : Int} (hn : n < 5) (h : l_one (fun k => w 2 (520 * n + k)) (fun k => w 3 (520 * n + k)) (fun k => w 6 (140 * n + k)) (fun k => w 7 (140 * n + k)) (fun k => w 8 (140 * n + k)) (w 5 n) row len) (hle : ∀ i, i < 6 → -1000000 ≤ w 9 i ∧ w 9 i ≤ 1000000) : (F_M_worthOf w (n : Int)).1 = l_res (fun k => w 2 (520 * n + k)) (fun k => w 3 (520 * n + k)) (w 9) (fun k => w 6 (140 * n + k)) (fun k => w 7 (140 * n + k)) (fun k => w 8 (140 * n + k)) (w 5 n).toNat 0 ∧ P_M_worthOf w (n : Int) := by
  obtain ⟨o1, o2, K, K0, Kn, Kc⟩ := id h
  dsimp only at Kc
  have fA : ∀ c, z_fr [10] [] w (A_M_worthOf_6 w (n : Int) c) := fun c => fr_A_M_worthOf_6
  have ix : ∀ c : Nat, (140 * (n : Int) + (c : Int)).toNat = 140 * n + c := fun c => by omega
  have en : (140 * (n : Int) + w 5 n - 140 * (n : Int)).toNat = (w 5 n).toNat := by omega
  -- the sum and the test of a clause in any world with another stack
  have sum : ∀ (u : z_Wd) (c : Nat), z_fr [10] [] w u → (c : Int) < w 5 n → P_M_workOut u (n : Int) (w 7 (140 * n + c)) (w 8 (140 * n + c)) ∧ (F_M_workOut u (n : Int) (w 7 (140 * n + c)) (w 8 (140 * n + c))).1 = l_hd (l_ev (fun k => w 2 (520 * n + k)) (fun k => w 3 (520 * n + k)) (w 9) (w 7 (140 * n + c)).toNat (w 8 (140 * n + c) - w 7 (140 * n + c)).toNat) := by
    intro u c fu hc
    obtain ⟨b1, b2, b3, b4, b5, b6⟩ := Kc c hc
    rw [l_runs] at b3
    obtain ⟨p1, p2, p3⟩ := l_Mp (w := u) (m := (n : Int)) (t := w 7 (140 * n + c)) (e := w 8 (140 * n + c)) (a := 520 * n + (w 7 (140 * n + c)).toNat) (ts := [false]) (by omega) (by omega) (by omega) (by rw [fr_c fu 9 rfl rfl]; exact hle) (fun i hi => by rw [fr_c fu 2 rfl rfl, fr_c fu 3 rfl rfl, Nat.add_assoc]; exact (b2 i hi).1) (by rw [fr_c fu 2 rfl rfl]; exact b3)
    refine ⟨p1, ?_⟩
    rw [p2 rfl, fr_c fu 2 rfl rfl, fr_c fu 3 rfl rfl, fr_c fu 9 rfl rfl, l_evs]
  have tst : ∀ (u : z_Wd) (c : Nat), z_fr [10] [] w u → (c : Int) < w 5 n → ¬ w 6 (140 * n + c) = w 7 (140 * n + c) → P_M_workOut u (n : Int) (w 6 (140 * n + c)) (w 7 (140 * n + c)) ∧ (F_M_workOut u (n : Int) (w 6 (140 * n + c)) (w 7 (140 * n + c))).1 = l_hd (l_ev (fun k => w 2 (520 * n + k)) (fun k => w 3 (520 * n + k)) (w 9) (w 6 (140 * n + c)).toNat (w 7 (140 * n + c) - w 6 (140 * n + c)).toNat) ∧ (-1000000 ≤ (F_M_workOut u (n : Int) (w 6 (140 * n + c)) (w 7 (140 * n + c))).1 ∧ (F_M_workOut u (n : Int) (w 6 (140 * n + c)) (w 7 (140 * n + c))).1 ≤ 1000000) ∧ z_fr [10] [] w (F_M_workOut u (n : Int) (w 6 (140 * n + c)) (w 7 (140 * n + c))).2 := by
    intro u c fu hc ct
    obtain ⟨b1, b2, b3, b4, b5, b6⟩ := Kc c hc
    obtain ⟨t1, t2, t3⟩ := b6 ct
    have hso := l_ok (val := fun k => w 3 (520 * n + k)) hle (fun i hi => (t1 i hi).1) t2
    rw [l_runs] at t2
    obtain ⟨p1, p2, p3⟩ := l_Mp (w := u) (m := (n : Int)) (t := w 6 (140 * n + c)) (e := w 7 (140 * n + c)) (a := 520 * n + (w 6 (140 * n + c)).toNat) (ts := [true]) (by omega) (by omega) (by omega) (by rw [fr_c fu 9 rfl rfl]; exact hle) (fun i hi => by rw [fr_c fu 2 rfl rfl, fr_c fu 3 rfl rfl, Nat.add_assoc]; exact (t1 i hi).1) (by rw [fr_c fu 2 rfl rfl]; exact t2)
    have e : (F_M_workOut u (n : Int) (w 6 (140 * n + c)) (w 7 (140 * n + c))).1 = l_hd (l_ev (fun k => w 2 (520 * n + k)) (fun k => w 3 (520 * n + k)) (w 9) (w 6 (140 * n + c)).toNat (w 7 (140 * n + c) - w 6 (140 * n + c)).toNat) := by
      rw [p2 rfl, fr_c fu 2 rfl rfl, fr_c fu 3 rfl rfl, fr_c fu 9 rfl rfl, l_evs]
    refine ⟨p1, e, ?_, fr_tr fu p3⟩
    rw [e]
    generalize l_ev (fun k => w 2 (520 * n + k)) (fun k => w 3 (520 * n + k)) (w 9) (w 6 (140 * n + c)).toNat (w 7 (140 * n + c) - w 6 (140 * n + c)).toNat = s at *
    match s, hso with
    | [x], hso => exact hso.1
  have eE : ∀ c : Nat, (c : Int) < w 5 n → (E_M_worthOf_6 w (n : Int) c = true ↔ (w 6 (140 * n + c) = w 7 (140 * n + c) ∨ l_hd (l_ev (fun k => w 2 (520 * n + k)) (fun k => w 3 (520 * n + k)) (w 9) (w 6 (140 * n + c)).toNat (w 7 (140 * n + c) - w 6 (140 * n + c)).toNat) ≠ 0)) := by
    intro c hc
    unfold E_M_worthOf_6
    rw [ix, fr_c (fA c) 6 rfl rfl, fr_c (fA c) 7 rfl rfl]
    by_cases ct : w 6 (140 * n + c) = w 7 (140 * n + c)
    · rw [if_pos ct]
      exact ⟨fun _ => Or.inl ct, fun _ => rfl⟩
    · rw [if_neg ct, (tst _ c (fA c) hc ct).2.1]
      split
      · rename_i z
        refine ⟨(fun y => by cases y), fun y => ?_⟩
        rcases y with y | y
        · exact absurd y ct
        · exact absurd z y
      · rename_i z
        exact ⟨fun _ => Or.inr z, fun _ => rfl⟩
  constructor
  · have main : ∀ k c : Nat, c + k = (w 5 n).toNat → (∀ j, j < c → E_M_worthOf_6 w (n : Int) j = false) → (F_M_worthOf w (n : Int)).1 = l_res (fun k => w 2 (520 * n + k)) (fun k => w 3 (520 * n + k)) (w 9) (fun k => w 6 (140 * n + k)) (fun k => w 7 (140 * n + k)) (fun k => w 8 (140 * n + k)) k c := by
      intro k
      induction k with
      | zero =>
        intro c hc hj
        unfold F_M_worthOf
        rw [Int.toNat_natCast, en, show (w 5 n).toNat = c by omega, fi_no c hj, if_pos rfl]
        rfl
      | succ k ih =>
        intro c hc hj
        simp only [l_res]
        by_cases ce : E_M_worthOf_6 w (n : Int) c = true
        · have ce2 := (eE c (by omega)).mp ce
          rw [if_pos ce2]
          unfold F_M_worthOf
          rw [Int.toNat_natCast, en, zfind_least (i := c) (by omega) ce hj, if_neg (by omega), Int.toNat_natCast]
          unfold R_M_worthOf_6
          rw [ix, fr_c (fA c) 6 rfl rfl, fr_c (fA c) 7 rfl rfl, fr_c (fA c) 8 rfl rfl]
          by_cases ct : w 6 (140 * n + c) = w 7 (140 * n + c)
          · rw [if_pos ct]
            exact (sum _ c (fA c) (by omega)).2
          · obtain ⟨s1, s2, s3, s4⟩ := tst _ c (fA c) (by omega) ct
            rw [if_neg ct, if_neg (by
              rw [s2]
              rcases ce2 with z | z
              · exact absurd z ct
              · exact z), fr_c s4 7 rfl rfl, fr_c s4 8 rfl rfl]
            exact (sum _ c s4 (by omega)).2
        · rw [if_neg (fun z => ce ((eE c (by omega)).mpr z))]
          refine ih (c + 1) (by omega) (fun j hj2 => ?_)
          by_cases e : j = c
          · rw [e]
            simpa using ce
          · exact hj j (by omega)
    exact main (w 5 n).toNat 0 (by omega) (fun j hj => absurd hj (Nat.not_lt_zero j))
  · unfold P_M_worthOf
    rw [Int.toNat_natCast, en]
    refine ⟨fun c hc _ => ?_, by omega, by omega, ?_, ?_⟩
    · obtain ⟨b1, -⟩ := Kc c (by omega)
      have f := fA c
      rw [ix, fr_c f 5 rfl rfl, fr_c f 6 rfl rfl, fr_c f 7 rfl rfl, fr_c f 8 rfl rfl]
      refine ⟨by omega, by omega, by omega, rfl, by omega, by omega, by omega, fun _ => (sum _ c f (by omega)).1, fun ct => ?_⟩
      obtain ⟨s1, s2, s3, s4⟩ := tst _ c f (by omega) ct
      rw [fr_c s4 7 rfl rfl, fr_c s4 8 rfl rfl]
      exact ⟨s1, by omega, fun _ => trivial, fun _ => (sum _ c s4 (by omega)).1⟩
    · rw [fr_c (fA _) 5 rfl rfl]
      omega
    · rw [fr_c (fA _) 5 rfl rfl]
def m_LE (v : z_Wd) (n : Nat) (kn b a : Int) : Nat → Int := fun i => if i = 0 then v 31 (15 + 3 * n) else if i = 1 then kn else if i = 2 then b else if i = 3 then v 31 (15 + 3 * n + 2) else if i = 4 then a else v 41 8
def m_MS (w v : z_Wd) (n : Nat) (kn b a : Int) : Int := if w 0 33 = -1 then v 31 (15 + 3 * n) + 2 * kn else F_J_max_7cf53 w 0 (F_J_min_7cf53 w 30 (l_res (fun k => w 2 (520 * (w 0 33).toNat + k)) (fun k => w 3 (520 * (w 0 33).toNat + k)) (m_LE v n kn b a) (fun k => w 6 (140 * (w 0 33).toNat + k)) (fun k => w 7 (140 * (w 0 33).toNat + k)) (fun k => w 8 (140 * (w 0 33).toNat + k)) (w 5 (w 0 33).toNat).toNat 0))
theorem m_LEr {w v : z_Wd} (h2 : r_mi w v) (hy : 0 ≤ v 41 8 ∧ v 41 8 ≤ 999) {n : Nat} (hn : (n : Int) < w 0 29) {kn b a : Int} (hk : 0 ≤ kn ∧ kn ≤ 7) (hb : 0 ≤ b ∧ b ≤ 68607) (ha : 0 ≤ a ∧ a ≤ 4) : ∀ i, i < 6 → -1000000 ≤ m_LE v n kn b a i ∧ m_LE v n kn b a i ≤ 1000000 := by
  intro i hi
  have q := h2.2.2.2.2.1 n hn
  unfold m_LE
  repeat' split
  all_goals omega
theorem m_MSr {w v : z_Wd} (h2 : r_mi w v) {n : Nat} (hn : (n : Int) < w 0 29) {kn b a : Int} (hk : 0 ≤ kn ∧ kn ≤ 7) : 0 ≤ m_MS w v n kn b a ∧ m_MS w v n kn b a ≤ 30 := by
  have q := h2.2.2.2.2.1 n hn
  unfold m_MS
  split
  · omega
  · unfold F_J_max_7cf53 F_J_min_7cf53
    split <;> split <;> omega
theorem x_MS {w v w' v' : z_Wd} {n : Nat} {kn b a : Int} (e0 : w' 0 33 = w 0 33) (e2 : w' 2 = w 2) (e3 : w' 3 = w 3) (e5 : w' 5 = w 5) (e6 : w' 6 = w 6) (e7 : w' 7 = w 7) (e8 : w' 8 = w 8) (f1 : v' 31 = v 31) (f2 : v' 41 8 = v 41 8) : m_MS w' v' n kn b a = m_MS w v n kn b a := by
  unfold m_MS m_LE
  rw [e0, e2, e3, e5, e6, e7, e8, f1, f2]
  rfl
