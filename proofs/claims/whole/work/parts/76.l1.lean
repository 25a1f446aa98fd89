/-! how a law is worked out, by a stack -/
def l_op (c x : Int) (le : Nat → Int) (s : List Int) : List Int :=
  if c = 0 then x :: s else if c = 1 then le x.toNat :: s
  else if c = 9 then (match s with
    | a :: r => (1 - a) :: r
    | [] => [])
  else (match s with
    | b :: a :: r => F_M_worked (fun _ _ => 0) c a b :: r
    | _ => [])
def l_ev (code val le : Nat → Int) (a : Nat) : Nat → List Int
  | 0 => []
  | n + 1 => l_op (code (a + n)) (val (a + n)) le (l_ev code val le a n)
def l_so : List Bool → List Int → Prop
  | [], [] => True
  | b :: bs, x :: xs => (-1000000 ≤ x ∧ x ≤ 1000000) ∧ (b = true → x = 0 ∨ x = 1) ∧ l_so bs xs
  | _, _ => False
def l_at (f : Nat → Int) : List Int → Prop
  | [] => True
  | x :: r => f r.length = x ∧ l_at f r
def l_hd (s : List Int) : Int := match s with
  | x :: _ => x
  | [] => 0
theorem l_solen : ∀ {bs : List Bool} {s : List Int}, l_so bs s → bs.length = s.length
  | [], [], _ => rfl
  | [], _ :: _, h => False.elim h
  | _ :: _, [], h => False.elim h
  | _ :: bs, _ :: s, h => by
    have := l_solen h.2.2
    simp [this]
theorem l_atc {f g : Nat → Int} : ∀ {s : List Int}, l_at f s → (∀ i, i < s.length → g i = f i) → l_at g s
  | [], _, _ => trivial
  | x :: r, h, e => ⟨by rw [e _ (by simp)]; exact h.1, l_atc h.2 (fun i hi => e i (by simp; omega))⟩
theorem z_cmp0 {x y : Int} : (z_cmp x y = 0) = (x = y) := by
  unfold z_cmp
  apply propext
  split
  · constructor
    · intro z; omega
    · intro z; omega
  · split
    · simp [*]
    · simp [*]
theorem z_cmpn {x y : Int} : (z_cmp x y < 0) = (x < y) ∧ (z_cmp x y > 0) = (y < x) ∧ (z_cmp x y ≥ 0) = (y ≤ x) ∧ (z_cmp x y ≤ 0) = (x ≤ y) := by
  unfold z_cmp
  split
  · refine ⟨?_, ?_, ?_, ?_⟩ <;> (apply propext; omega)
  · split
    · refine ⟨?_, ?_, ?_, ?_⟩ <;> (apply propext; omega)
    · refine ⟨?_, ?_, ?_, ?_⟩ <;> (apply propext; omega)
theorem l_bd {w : z_Wd} {x : Int} : -1000000 ≤ F_J_max_f86c9 w (-1000000) (F_J_min_f86c9 w 1000000 x) ∧ F_J_max_f86c9 w (-1000000) (F_J_min_f86c9 w 1000000 x) ≤ 1000000 ∧ (-1000000 ≤ x ∧ x ≤ 1000000 → F_J_max_f86c9 w (-1000000) (F_J_min_f86c9 w 1000000 x) = x) := by
  unfold F_J_max_f86c9 F_J_min_f86c9
  simp only [z_cmpn.1, z_cmpn.2.1]
  split <;> split <;> omega
theorem l_bp {w : z_Wd} {x : Int} (h : -9223372036854775808 ≤ x ∧ x < 9223372036854775808) : P_J_min_f86c9 w 1000000 x ∧ P_J_max_f86c9 w (-1000000) (F_J_min_f86c9 w 1000000 x) := by
  unfold P_J_min_f86c9 P_J_max_f86c9 F_J_min_f86c9
  simp only [z_cmpn.2.1]
  refine ⟨⟨by omega, h⟩, by omega, ?_⟩
  split <;> omega
theorem l_mul {a b : Int} (ha : -1000000 ≤ a ∧ a ≤ 1000000) (hb : -1000000 ≤ b ∧ b ≤ 1000000) : -1000000000000 ≤ a * b ∧ a * b ≤ 1000000000000 := by
  have h1 : (1000000 - a) * (1000000 - b) ≥ 0 := Int.mul_nonneg (by omega) (by omega)
  have h2 : (1000000 + a) * (1000000 + b) ≥ 0 := Int.mul_nonneg (by omega) (by omega)
  have h3 : (1000000 - a) * (1000000 + b) ≥ 0 := Int.mul_nonneg (by omega) (by omega)
  have h4 : (1000000 + a) * (1000000 - b) ≥ 0 := Int.mul_nonneg (by omega) (by omega)
  simp only [Int.sub_mul, Int.add_mul, Int.mul_sub, Int.mul_add] at h1 h2 h3 h4
  omega
theorem l_div {a b : Int} (ha : -1000000 ≤ a ∧ a ≤ 1000000) : -1000000 ≤ Int.tdiv a b ∧ Int.tdiv a b ≤ 1000000 := by
  have h : (Int.tdiv a b).natAbs = a.natAbs / b.natAbs := Int.natAbs_tdiv a b
  have h2 : a.natAbs / b.natAbs ≤ a.natAbs := Nat.div_le_self _ _
  omega
/-- what two are worked to keeps the bounds -/
theorem l_wk {w : z_Wd} {c a b : Int} (ha : -1000000 ≤ a ∧ a ≤ 1000000) (hb : -1000000 ≤ b ∧ b ≤ 1000000) : (-1000000 ≤ F_M_worked w c a b ∧ F_M_worked w c a b ≤ 1000000) ∧ (6 ≤ c → F_M_worked w c a b = 0 ∨ F_M_worked w c a b = 1) := by
  unfold F_M_worked
  refine ⟨?_, fun hc => ?_⟩
  · have b1 := l_bd (w := w) (x := a + b)
    have b2 := l_bd (w := w) (x := a - b)
    have b3 := l_bd (w := w) (x := a * b)
    have b4 := l_bd (w := w) (x := Int.tdiv a b)
    repeat' split
    all_goals first | omega | exact ⟨b1.1, b1.2.1⟩ | exact ⟨b2.1, b2.2.1⟩ | exact ⟨b3.1, b3.2.1⟩ | exact ⟨b4.1, b4.2.1⟩
  · rw [if_neg (by omega), if_neg (by omega), if_neg (by omega), if_neg (by omega)]
    repeat' split
    all_goals first | exact Or.inl rfl | exact Or.inr rfl
theorem l_wp {w : z_Wd} {c a b : Int} (hc : 0 ≤ c ∧ c ≤ 11) (ha : -1000000 ≤ a ∧ a ≤ 1000000) (hb : -1000000 ≤ b ∧ b ≤ 1000000) : P_M_worked w c a b := by
  have m := l_mul ha hb
  have d := l_div (b := b) ha
  unfold P_M_worked
  simp only [z_cmp0]
  refine ⟨by omega, fun _ => l_bp (by omega), fun _ => ⟨fun _ => l_bp (by omega), fun _ => ⟨fun _ => l_bp (by omega), fun _ => ⟨fun _ => ⟨by omega, fun _ => trivial, fun z => ⟨z, by omega, l_bp (by omega)⟩⟩, fun _ => ⟨fun _ => ⟨by omega, by omega⟩, fun _ => ⟨fun _ => ⟨by omega, by omega⟩, fun _ => ⟨fun _ => ⟨by omega, by omega⟩, fun _ => ⟨fun _ => ⟨by omega, fun _ => by omega, fun _ => trivial⟩, fun _ => ⟨fun _ => ⟨by omega, fun _ => trivial, fun _ => by omega⟩, fun _ => ⟨by omega, fun _ => by omega, fun _ => trivial⟩⟩⟩⟩⟩⟩⟩⟩⟩⟩
/-- one sign -/
theorem l_st {c x : Int} {le : Nat → Int} {ts ts' : List Bool} {s : List Int} (hv : l_va c x) (hle : ∀ i, i < 6 → -1000000 ≤ le i ∧ le i ≤ 1000000) (ht : l_ty c ts = some ts') (hs : l_so ts s) : l_so ts' (l_op c x le s) ∧ (c = 0 ∨ c = 1 → s.length < 60) ∧ (c = 9 → ∃ a r, s = a :: r ∧ (a = 0 ∨ a = 1)) ∧ (c ≠ 0 → c ≠ 1 → c ≠ 9 → ∃ b a r, s = b :: a :: r ∧ (-1000000 ≤ a ∧ a ≤ 1000000) ∧ (-1000000 ≤ b ∧ b ≤ 1000000) ∧ (10 ≤ c → (a = 0 ∨ a = 1) ∧ (b = 0 ∨ b = 1))) := by
  obtain ⟨v0, v1, v2, v3⟩ := hv
  have hl := l_solen hs
  unfold l_ty at ht
  unfold l_op
  by_cases c01 : c = 0 ∨ c = 1
  · rw [if_pos c01] at ht
    by_cases h60 : ts.length < 60
    · rw [if_pos h60] at ht
      cases ht
      refine ⟨?_, fun _ => by omega, fun z => by omega, fun z1 z2 => by omega⟩
      by_cases c0 : c = 0
      · rw [if_pos c0]
        have := v1 c0
        exact ⟨by omega, (fun z => by cases z), hs⟩
      · rw [if_neg c0, if_pos (by omega)]
        have := v2 (by omega)
        exact ⟨hle _ (by omega), (fun z => by cases z), hs⟩
    · rw [if_neg h60] at ht
      cases ht
  · rw [if_neg c01] at ht
    rw [if_neg (by omega), if_neg (by omega)]
    by_cases c9 : c = 9
    · rw [if_pos c9] at ht ⊢
      match ts, s, hs, ht with
      | true :: r, a :: q, hs, ht =>
        cases ht
        obtain ⟨k1, k2, k3⟩ := hs
        have k4 := k2 rfl
        exact ⟨⟨by omega, fun _ => by omega, k3⟩, fun z => absurd z c01, fun _ => ⟨a, q, rfl, k4⟩, fun _ _ z => absurd c9 z⟩
      | false :: r, a :: q, hs, ht => cases ht
      | [], [], hs, ht => cases ht
    · rw [if_neg c9] at ht ⊢
      by_cases c5 : c ≤ 5
      · rw [if_pos c5] at ht
        match ts, s, hs, ht with
        | false :: false :: r, b :: a :: q, hs, ht =>
          cases ht
          obtain ⟨k1, k2, k3, k4, k5⟩ := hs
          exact ⟨⟨(l_wk k3 k1).1, (fun z => by cases z), k5⟩, fun z => absurd z c01, fun z => absurd z c9, fun _ _ _ => ⟨b, a, q, rfl, k3, k1, fun z => by omega⟩⟩
        | true :: r, b :: q, hs, ht => cases ht
        | [false], [b], hs, ht => cases ht
        | false :: true :: r, b :: a :: q, hs, ht => cases ht
        | [], [], hs, ht => cases ht
      · rw [if_neg c5] at ht
        by_cases c8 : c ≤ 8
        · rw [if_pos c8] at ht
          match ts, s, hs, ht with
          | false :: false :: r, b :: a :: q, hs, ht =>
            cases ht
            obtain ⟨k1, k2, k3, k4, k5⟩ := hs
            exact ⟨⟨(l_wk k3 k1).1, fun _ => (l_wk k3 k1).2 (by omega), k5⟩, fun z => absurd z c01, fun z => absurd z c9, fun _ _ _ => ⟨b, a, q, rfl, k3, k1, fun z => by omega⟩⟩
          | true :: r, b :: q, hs, ht => cases ht
          | [false], [b], hs, ht => cases ht
          | false :: true :: r, b :: a :: q, hs, ht => cases ht
          | [], [], hs, ht => cases ht
        · rw [if_neg c8] at ht
          match ts, s, hs, ht with
          | true :: true :: r, b :: a :: q, hs, ht =>
            cases ht
            obtain ⟨k1, k2, k3, k4, k5⟩ := hs
            exact ⟨⟨(l_wk k3 k1).1, fun _ => (l_wk k3 k1).2 (by omega), k5⟩, fun z => absurd z c01, fun z => absurd z c9, fun _ _ _ => ⟨b, a, q, rfl, k3, k1, fun _ => ⟨k4 rfl, k2 rfl⟩⟩⟩
          | false :: r, b :: q, hs, ht => cases ht
          | [true], [b], hs, ht => cases ht
          | true :: false :: r, b :: a :: q, hs, ht => cases ht
          | [], [], hs, ht => cases ht
theorem l_rn {code : Nat → Int} {a n : Nat} {ts : List Bool} (h : l_run code a (n + 1) [] = some ts) : ∃ ts', l_run code a n [] = some ts' ∧ l_ty (code (a + n)) ts' = some ts := by
  simp only [l_run] at h
  split at h
  · rename_i ts' e
    exact ⟨ts', e, h⟩
  · cases h
/-- what holds of the stack behind n signs -/
theorem l_ok {code val le : Nat → Int} {a : Nat} (hle : ∀ i, i < 6 → -1000000 ≤ le i ∧ le i ≤ 1000000) : ∀ {n : Nat} {ts : List Bool}, (∀ i, i < n → l_va (code (a + i)) (val (a + i))) → l_run code a n [] = some ts → l_so ts (l_ev code val le a n)
  | 0, ts, _, h => by
    cases h
    trivial
  | n + 1, ts, hv, h => by
    obtain ⟨ts', h1, h2⟩ := l_rn h
    exact (l_st (hv n (by omega)) hle h2 (l_ok hle (fun i hi => hv i (by omega)) h1)).1
theorem l_tyl {c : Int} {ts ts' : List Bool} (h : l_ty c ts = some ts') (hl : ts.length ≤ 60) : ts'.length ≤ 60 := by
  unfold l_ty at h
  split at h
  · split at h
    · cases h
      simp only [List.length_cons]
      omega
    · cases h
  · split at h
    · split at h
      · cases h
        exact hl
      · cases h
    · split at h
      · split at h
        · cases h
          simp only [List.length_cons] at hl ⊢
          omega
        · cases h
      · split at h
        · split at h
          · cases h
            simp only [List.length_cons] at hl ⊢
            omega
          · cases h
        · split at h
          · cases h
            simp only [List.length_cons] at hl ⊢
            omega
          · cases h
theorem l_len {code : Nat → Int} {a : Nat} : ∀ {n : Nat} {ts : List Bool}, l_run code a n [] = some ts → ts.length ≤ 60
  | 0, ts, h => by
    cases h
    simp
  | n + 1, ts, h => by
    obtain ⟨ts', h1, h2⟩ := l_rn h
    exact l_tyl h2 (l_len h1)
/-! the reference -/
theorem l_M {w : z_Wd} {m t e : Int} {a : Nat} (ha : (520 * m + t) = (a : Int)) (hle : ∀ i, i < 6 → -1000000 ≤ w 9 i ∧ w 9 i ≤ 1000000) : ∀ {n : Nat} {ts : List Bool}, (∀ i, i < n → l_va (w 2 (a + i)) (w 3 (a + i))) → l_run (w 2) a n [] = some ts → z_fr [10] [] w (A_M_workOut_12 w m t e n).2 ∧ (A_M_workOut_12 w m t e n).1 = ((l_ev (w 2) (w 3) (w 9) a n).length : Int) ∧ l_at ((A_M_workOut_12 w m t e n).2 10) (l_ev (w 2) (w 3) (w 9) a n)
  | 0, _, _, _ => ⟨fr_rf, rfl, trivial⟩
  | n + 1, ts, hv, h => by
    obtain ⟨ts', h1, h2⟩ := l_rn h
    obtain ⟨i1, i2, i3⟩ := l_M ha hle (n := n) (fun i hi => hv i (by omega)) h1
    have hso := l_ok (val := w 3) hle (fun i hi => hv i (by omega)) h1
    obtain ⟨q1, q2, q3, q4⟩ := l_st (hv n (by omega)) hle h2 hso
    simp only [A_M_workOut_12, l_ev]
    have ix : (520 * m + t + (n : Int)).toNat = a + n := by omega
    rw [ix]
    generalize l_ev (w 2) (w 3) (w 9) a n = s at *
    generalize A_M_workOut_12 w m t e n = u at *
    rw [fr_c i1 2 rfl rfl, fr_c i1 3 rfl rfl, fr_c i1 9 rfl rfl, i2]
    by_cases c0 : w 2 (a + n) = 0
    · have eO : l_op (w 2 (a + n)) (w 3 (a + n)) (w 9) s = w 3 (a + n) :: s := by
        unfold l_op
        rw [if_pos c0]
      rw [eO, if_pos c0, if_pos c0]
      dsimp only
      rw [Int.toNat_natCast]
      exact ⟨fr_up rfl i1, by simp only [List.length_cons]; omega, z_up_at, l_atc i3 (fun i hi => z_up_ne (show i ≠ s.length by omega))⟩
    · by_cases c1 : w 2 (a + n) = 1
      · have eO : l_op (w 2 (a + n)) (w 3 (a + n)) (w 9) s = w 9 (w 3 (a + n)).toNat :: s := by
          unfold l_op
          rw [if_neg c0, if_pos c1]
        rw [eO, if_neg c0, if_pos c1, if_neg c0]
        dsimp only
        rw [Int.toNat_natCast]
        exact ⟨fr_up rfl i1, by simp only [List.length_cons]; omega, z_up_at, l_atc i3 (fun i hi => z_up_ne (show i ≠ s.length by omega))⟩
      · by_cases c9 : w 2 (a + n) = 9
        · obtain ⟨x, r, rfl, hx⟩ := q3 c9
          have eO : l_op (w 2 (a + n)) (w 3 (a + n)) (w 9) (x :: r) = (1 - x) :: r := by
            unfold l_op
            rw [if_neg c0, if_neg c1, if_pos c9]
          have e1 : (((x :: r).length : Int) - 1).toNat = r.length := by simp only [List.length_cons]; omega
          rw [eO, if_neg c0, if_neg c1, if_pos c9, e1]
          dsimp only
          have i31 : u.2 10 r.length = x := i3.1
          rw [i31]
          exact ⟨fr_up rfl i1, by simp only [List.length_cons], z_up_at, l_atc i3.2 (fun i hi => z_up_ne (show i ≠ r.length by omega))⟩
        · obtain ⟨y, x, r, rfl, hx, hy, -⟩ := q4 c0 c1 c9
          have eO : l_op (w 2 (a + n)) (w 3 (a + n)) (w 9) (y :: x :: r) = F_M_worked u.2 (w 2 (a + n)) x y :: r := by
            unfold l_op
            rw [if_neg c0, if_neg c1, if_neg c9]
            rfl
          have e1 : (((y :: x :: r).length : Int) + (-1) - 1).toNat = r.length := by simp only [List.length_cons]; omega
          have e2 : (((y :: x :: r).length : Int) + (-1)).toNat = r.length + 1 := by simp only [List.length_cons]; omega
          rw [eO, if_neg c0, if_neg c1, if_neg c9, e1, e2]
          dsimp only
          obtain ⟨j1, j2, j3⟩ := i3
          have j1' : u.2 10 (r.length + 1) = y := j1
          have j2' : u.2 10 r.length = x := j2
          rw [j1', j2']
          exact ⟨fr_up rfl i1, by simp only [List.length_cons]; omega, z_up_at, l_atc j3 (fun i hi => z_up_ne (show i ≠ r.length by omega))⟩
theorem l_Mp {w : z_Wd} {m t e : Int} {a : Nat} (hm : 0 ≤ m ∧ m ≤ 4) (ht : 0 ≤ t ∧ t ≤ e ∧ e ≤ 520) (ha : (520 * m + t) = (a : Int)) (hle : ∀ i, i < 6 → -1000000 ≤ w 9 i ∧ w 9 i ≤ 1000000) {ts : List Bool} (hv : ∀ i, i < (e - t).toNat → l_va (w 2 (a + i)) (w 3 (a + i))) (h : l_run (w 2) a (e - t).toNat [] = some ts) : P_M_workOut w m t e ∧ (ts.length = 1 → (F_M_workOut w m t e).1 = l_hd (l_ev (w 2) (w 3) (w 9) a (e - t).toNat)) ∧ z_fr [10] [] w (F_M_workOut w m t e).2 := by
  have en : (520 * m + e - (520 * m + t)).toNat = (e - t).toNat := by omega
  have pre : ∀ n, n ≤ (e - t).toNat → ∃ ts', l_run (w 2) a n [] = some ts' := by
    intro n hn
    have st : ∀ k, k ≤ (e - t).toNat → ∃ ts', l_run (w 2) a ((e - t).toNat - k) [] = some ts' := by
      intro k
      induction k with
      | zero => intro _; exact ⟨ts, h⟩
      | succ k ih =>
        intro hk
        obtain ⟨ts1, h1⟩ := ih (by omega)
        rw [show (e - t).toNat - k = (e - t).toNat - (k + 1) + 1 by omega] at h1
        obtain ⟨ts2, h2, -⟩ := l_rn h1
        exact ⟨ts2, h2⟩
    have := st ((e - t).toNat - n) (by omega)
    rw [show (e - t).toNat - ((e - t).toNat - n) = n by omega] at this
    exact this
  refine ⟨?_, ?_, ?_⟩
  · unfold P_M_workOut
    rw [en]
    refine ⟨fun i hi => ?_, by omega, by omega⟩
    have g1 : -2147483648 ≤ 520 * m + t + (i : Int) ∧ 520 * m + t + (i : Int) < 2147483648 := by omega
    have g2 : -2147483648 ≤ 520 * m + e ∧ 520 * m + e < 2147483648 := by omega
    have g3 : 0 ≤ 520 * m + t + (i : Int) ∧ 520 * m + t + (i : Int) < 2600 := by omega
    obtain ⟨ts', h1⟩ := pre i (by omega)
    obtain ⟨ts2, h2⟩ := pre (i + 1) (by omega)
    obtain ⟨ts3, h3, h4⟩ := l_rn h2
    rw [h1] at h3
    cases h3
    obtain ⟨i1, i2, i3⟩ := l_M (e := e) ha hle (n := i) (fun j hj => hv j (by omega)) h1
    have hso := l_ok (val := w 3) hle (fun j hj => hv j (by omega)) h1
    obtain ⟨q1, q2, q3, q4⟩ := l_st (hv i hi) hle h4 hso
    have v0 := hv i hi
    obtain ⟨v1, v2, v3, v4⟩ := v0
    have ix : (520 * m + t + (i : Int)).toNat = a + i := by omega
    rw [ix]
    generalize l_ev (w 2) (w 3) (w 9) a i = s at *
    generalize A_M_workOut_12 w m t e i = u at *
    rw [fr_c i1 2 rfl rfl, fr_c i1 3 rfl rfl, i2]
    refine ⟨g1, g2, g3, by omega, fun c0 => ⟨fun _ => ?_, fun z => absurd c0 z⟩, fun c0 => ⟨fun c1 => ⟨fun z => absurd z c0, fun _ => ?_⟩, fun c1 => ⟨fun c9 => ?_, fun c9 => ?_⟩⟩⟩
    · have := q2 (Or.inl c0)
      omega
    · have := q2 (Or.inr c1)
      have := v3 c1
      omega
    · obtain ⟨x, r, rfl, hx⟩ := q3 c9
      have l60 := l_len h1
      have := l_solen hso
      simp only [List.length_cons] at this ⊢
      omega
    · obtain ⟨y, x, r, rfl, hx, hy, -⟩ := q4 c0 c1 c9
      have e1 : (((y :: x :: r).length : Int) + (-1) - 1).toNat = r.length := by simp only [List.length_cons]; omega
      have e2 : (((y :: x :: r).length : Int) + (-1)).toNat = r.length + 1 := by simp only [List.length_cons]; omega
      rw [e1, e2]
      obtain ⟨j1, j2, j3⟩ := i3
      have j1' : u.2 10 (r.length + 1) = y := j1
      have j2' : u.2 10 r.length = x := j2
      rw [j1', j2']
      have l60 := l_len h1
      have := l_solen hso
      simp only [List.length_cons] at this ⊢
      refine ⟨by omega, by omega, by omega, by omega, l_wp v1 hx hy⟩
  · intro h1
    obtain ⟨i1, i2, i3⟩ := l_M (e := e) ha hle hv h
    have hso := l_ok (val := w 3) hle hv h
    have hl := l_solen hso
    unfold F_M_workOut
    rw [en]
    generalize l_ev (w 2) (w 3) (w 9) a (e - t).toNat = s at *
    match s, i3, hl with
    | [x], i3, _ => exact i3.1
    | [], _, hl => simp [h1] at hl
    | x :: y :: r, _, hl => simp [h1] at hl
  · unfold F_M_workOut
    rw [en]
    exact (l_M (e := e) ha hle hv h).1
