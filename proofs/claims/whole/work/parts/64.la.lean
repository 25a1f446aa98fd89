/-! laws: the reference's rows of signs against the class's -/
def l_sg (c : Int) : Int := if c = 0 then 0 else if c = 1 then 1 else if c = 2 then 43 else if c = 3 then 45 else if c = 4 then 42 else if c = 5 then 47 else if c = 6 then 61 else if c = 7 then 60 else if c = 8 then 62 else if c = 9 then 33 else if c = 10 then 38 else 124
def l_va (c x : Int) : Prop := (0 ≤ c ∧ c ≤ 11) ∧ (c = 0 → 0 ≤ x ∧ x ≤ 9999) ∧ (c = 1 → 0 ≤ x ∧ x ≤ 5) ∧ (2 ≤ c → x = 0)
def l_sq (code val row : Nat → Int) (a k n : Nat) : Prop := ∀ i, i < n → l_va (code (a + i)) (val (a + i)) ∧ row (k + i) = l_sg (code (a + i)) * 10000 + val (a + i)
/-- what a sign does to the sorts of what is open: a truth (true), a number (false) -/
def l_ty (c : Int) (s : List Bool) : Option (List Bool) :=
  if c = 0 ∨ c = 1 then (if s.length < 60 then some (false :: s) else none)
  else if c = 9 then (match s with
    | true :: r => some (true :: r)
    | _ => none)
  else if c ≤ 5 then (match s with
    | false :: false :: r => some (false :: r)
    | _ => none)
  else if c ≤ 8 then (match s with
    | false :: false :: r => some (true :: r)
    | _ => none)
  else (match s with
    | true :: true :: r => some (true :: r)
    | _ => none)
def l_run (code : Nat → Int) (a : Nat) : Nat → List Bool → Option (List Bool)
  | 0, s => some s
  | n + 1, s => match l_run code a n s with
    | some s' => l_ty (code (a + n)) s'
    | none => none
def l_cla (code val row : Nat → Int) (t s e : Int) (k k' : Nat) : Prop := (0 ≤ t ∧ t ≤ s ∧ s ≤ e ∧ e ≤ 520) ∧ l_sq code val row s.toNat (k + (if t = s then 0 else (s - t).toNat + 1)) (e - s).toNat ∧ l_run code s.toNat (e - s).toNat [] = some [false] ∧ k' = k + (if t = s then 0 else (s - t).toNat + 1) + (e - s).toNat + 1 ∧ row (k' - 1) = 20000
  ∧ (t ≠ s → l_sq code val row t.toNat k (s - t).toNat ∧ l_run code t.toNat (s - t).toNat [] = some [true] ∧ row (k + (s - t).toNat) = 30000 + k')
def l_one (code val tf sf st : Nat → Int) (ncl : Int) (row : Nat → Int) (len : Int) : Prop := (0 ≤ ncl ∧ ncl ≤ 140) ∧ (0 ≤ len ∧ len ≤ 240) ∧ ∃ K : Nat → Nat, K 0 = 0 ∧ ((K ncl.toNat : Nat) : Int) = len ∧ ∀ c : Nat, (c : Int) < ncl → l_cla code val row (tf c) (sf c) (st c) (K c) (K (c + 1))
def r_la (w v : z_Wd) : Prop := w 0 13 = v 55 4 ∧ (0 ≤ v 55 4 ∧ v 55 4 ≤ 4) ∧ (w 0 33 = v 55 5 ∧ -1 ≤ v 55 5 ∧ v 55 5 < v 55 4) ∧ ∀ n : Nat, (n : Int) < v 55 4 → l_one (fun k => w 2 (520 * n + k)) (fun k => w 3 (520 * n + k)) (fun k => w 6 (140 * n + k)) (fun k => w 7 (140 * n + k)) (fun k => w 8 (140 * n + k)) (w 5 n) (v (59 + 3 * n)) (v (58 + 3 * n) 2)
/-! all of it -/
def r_all (w v : z_Wd) : Prop := r_ta w v ∧ r_mi w v ∧ r_no w v ∧ r_ac w v ∧ r_im w v ∧ r_la w v ∧ r_cl w v ∧ r_re w v ∧ r_fl w v ∧ r_rd w v
def Rl (w : z_Wd) : Prop := r_all w w
theorem x_ta {w v w' v' : z_Wd} (h : r_ta w v) (a1 : w' 1 = w 1) (a2 : w' 0 2 = w 0 2) (b1 : v' 28 1 = v 28 1) (b2 : v' 29 = v 29) : r_ta w' v' := by
  unfold r_ta
  rw [a1, a2, b1, b2]
  exact h
theorem x_mi {w v w' v' : z_Wd} (h : r_mi w v) (a1 : w' 0 28 = w 0 28) (a2 : w' 0 29 = w 0 29) (a3 : w' 0 30 = w 0 30) (a4 : w' 15 = w 15) (a5 : w' 16 = w 16) (a6 : w' 17 = w 17) (a7 : w' 18 = w 18) (b1 : v' 31 = v 31) (b2 : v' 32 = v 32) : r_mi w' v' := by
  unfold r_mi
  rw [a1, a2, a3, a4, a5, a6, a7, b1, b2]
  exact h
theorem x_no {w v w' v' : z_Wd} (h : r_no w v) (a1 : w' 0 28 = w 0 28) (a2 : w' 0 29 = w 0 29) (a3 : w' 19 = w 19) (b1 : v' 42 = v 42) (b2 : v' 43 = v 43) (b3 : v' 44 = v 44) (b4 : v' 41 6 = v 41 6) (b5 : v' 41 7 = v 41 7) (b6 : v' 41 8 = v 41 8) (b7 : v' 45 = v 45) (b8 : v' 46 = v 46) : r_no w' v' := by
  unfold r_no
  rw [a1, a2, a3, b1, b2, b3, b4, b5, b6, b7, b8]
  exact h
theorem x_ac {w v w' v' : z_Wd} (h : r_ac w v) (a1 : w' 0 28 = w 0 28) (a2 : w' 0 29 = w 0 29) (a3 : w' 0 36 = w 0 36) (a4 : w' 21 = w 21) (b1 : v' 53 1 = v 53 1) (b2 : v' 53 2 = v 53 2) (b3 : v' 54 = v 54) (b4 : v' 41 8 = v 41 8) (b5 : v' 45 = v 45) (b6 : v' 46 = v 46) : r_ac w' v' := by
  unfold r_ac
  rw [a1, a2, a3, a4, b1, b2, b3, b4, b5, b6]
  exact h
theorem x_im {w v w' v' : z_Wd} (h : r_im w v) (a1 : w' 0 28 = w 0 28) (a2 : w' 0 29 = w 0 29) (a3 : w' 0 45 = w 0 45) (a4 : w' 25 = w 25) (b1 : v' 27 13 = v 27 13) (b2 : v' 48 = v 48) (b3 : v' 49 = v 49) (b4 : v' 50 = v 50) (b5 : v' 51 = v 51) (b6 : v' 52 = v 52) (b7 : v' 47 6 = v 47 6) (b8 : v' 47 7 = v 47 7) (b9 : v' 47 8 = v 47 8) : r_im w' v' := by
  unfold r_im
  rw [a1, a2, a3, a4, b1, b2, b3, b4, b5, b6, b7, b8, b9]
  exact h
theorem x_la {w v w' v' : z_Wd} (h : r_la w v) (a1 : w' 0 13 = w 0 13) (a2 : w' 0 33 = w 0 33) (a3 : w' 2 = w 2) (a4 : w' 3 = w 3) (a5 : w' 5 = w 5) (a6 : w' 6 = w 6) (a7 : w' 7 = w 7) (a8 : w' 8 = w 8) (b1 : v' 55 4 = v 55 4) (b2 : v' 55 5 = v 55 5) (b3 : ∀ n, n < 4 → v' (59 + 3 * n) = v (59 + 3 * n)) (b4 : ∀ n, n < 4 → v' (58 + 3 * n) 2 = v (58 + 3 * n) 2) : r_la w' v' := by
  obtain ⟨h1, h2, h3, h4⟩ := h
  unfold r_la
  rw [a1, a2, a3, a4, a5, a6, a7, a8, b1, b2]
  refine ⟨h1, h2, h3, fun n hn => ?_⟩
  rw [b3 n (by omega), b4 n (by omega)]
  exact h4 n hn
theorem x_cl {w v w' v' : z_Wd} (h : r_cl w v) (a1 : w' 0 43 = w 0 43) (a2 : w' 0 30 = w 0 30) (a3 : w' 23 = w 23) (a4 : w' 24 = w 24) (b1 : v' 72 4 = v 72 4) (b2 : v' 73 = v 73) (b3 : v' 74 = v 74) : r_cl w' v' := by
  unfold r_cl
  rw [a1, a2, a3, a4, b1, b2, b3]
  exact h
theorem x_re {w v w' v' : z_Wd} (h : r_re w v) (a1 : w' 20 = w 20) (b1 : v' 78 = v 78) : r_re w' v' := by
  unfold r_re
  rw [a1, b1]
  exact h
theorem x_fl {w v w' v' : z_Wd} (h : r_fl w v) (a1 : w' 0 34 = w 0 34) (b1 : v' 27 12 = v 27 12) : r_fl w' v' := by
  unfold r_fl
  rw [a1, b1]
  exact h
theorem x_rd {w v w' v' : z_Wd} (h : r_rd w v) (a1 : w' 13 = w 13) (b1 : v' 35 = v 35) : r_rd w' v' := by
  unfold r_rd
  rw [a1, b1]
  exact h
/-! cells that no part of the relation reads -/
abbrev zSX : List Nat := [4, 9, 10, 11, 12, 14, 22, 26, 36, 39, 40, 57, 60, 63, 66, 69, 71, 75, 77]
abbrev zSY : List (Nat × Nat) := [(0, 0), (0, 3), (0, 4), (0, 5), (0, 14), (0, 21), (0, 22), (0, 23), (0, 37), (0, 39), (0, 40), (27, 14), (33, 2), (37, 2), (38, 2), (38, 3), (58, 3), (61, 3), (64, 3), (67, 3), (70, 3), (70, 4)]
theorem x_law {w w' : z_Wd} (hf : z_fr zSX zSY w w') : (∀ n, n < 4 → w' (59 + 3 * n) = w (59 + 3 * n)) ∧ (∀ n, n < 4 → w' (58 + 3 * n) 2 = w (58 + 3 * n) 2) := by
  refine ⟨fun n hn => ?_, fun n hn => ?_⟩
  · match n, hn with
    | 0, _ => exact fr_c hf 59 rfl rfl
    | 1, _ => exact fr_c hf 62 rfl rfl
    | 2, _ => exact fr_c hf 65 rfl rfl
    | 3, _ => exact fr_c hf 68 rfl rfl
    | n + 4, h => exact absurd h (by omega)
  · match n, hn with
    | 0, _ => exact fr_f hf 58 2 rfl rfl
    | 1, _ => exact fr_f hf 61 2 rfl rfl
    | 2, _ => exact fr_f hf 64 2 rfl rfl
    | 3, _ => exact fr_f hf 67 2 rfl rfl
    | n + 4, h => exact absurd h (by omega)
theorem rl_fr2 {w v w' v' : z_Wd} (h : r_all w v) (hf : z_fr zSX zSY w w') (hg : z_fr zSX zSY v v') : r_all w' v' := by
  obtain ⟨h1, h2, h3, h4, h5, h6, h7, h8, h9, h10⟩ := h
  refine ⟨x_ta h1 (fr_c hf 1 rfl rfl) (fr_f hf 0 2 rfl rfl) (fr_f hg 28 1 rfl rfl) (fr_c hg 29 rfl rfl), ?_, ?_, ?_, ?_, ?_, ?_, x_re h8 (fr_c hf 20 rfl rfl) (fr_c hg 78 rfl rfl), x_fl h9 (fr_f hf 0 34 rfl rfl) (fr_f hg 27 12 rfl rfl), x_rd h10 (fr_c hf 13 rfl rfl) (fr_c hg 35 rfl rfl)⟩
  · exact x_mi h2 (fr_f hf 0 28 rfl rfl) (fr_f hf 0 29 rfl rfl) (fr_f hf 0 30 rfl rfl) (fr_c hf 15 rfl rfl) (fr_c hf 16 rfl rfl) (fr_c hf 17 rfl rfl) (fr_c hf 18 rfl rfl) (fr_c hg 31 rfl rfl) (fr_c hg 32 rfl rfl)
  · exact x_no h3 (fr_f hf 0 28 rfl rfl) (fr_f hf 0 29 rfl rfl) (fr_c hf 19 rfl rfl) (fr_c hg 42 rfl rfl) (fr_c hg 43 rfl rfl) (fr_c hg 44 rfl rfl) (fr_f hg 41 6 rfl rfl) (fr_f hg 41 7 rfl rfl) (fr_f hg 41 8 rfl rfl) (fr_c hg 45 rfl rfl) (fr_c hg 46 rfl rfl)
  · exact x_ac h4 (fr_f hf 0 28 rfl rfl) (fr_f hf 0 29 rfl rfl) (fr_f hf 0 36 rfl rfl) (fr_c hf 21 rfl rfl) (fr_f hg 53 1 rfl rfl) (fr_f hg 53 2 rfl rfl) (fr_c hg 54 rfl rfl) (fr_f hg 41 8 rfl rfl) (fr_c hg 45 rfl rfl) (fr_c hg 46 rfl rfl)
  · exact x_im h5 (fr_f hf 0 28 rfl rfl) (fr_f hf 0 29 rfl rfl) (fr_f hf 0 45 rfl rfl) (fr_c hf 25 rfl rfl) (fr_f hg 27 13 rfl rfl) (fr_c hg 48 rfl rfl) (fr_c hg 49 rfl rfl) (fr_c hg 50 rfl rfl) (fr_c hg 51 rfl rfl) (fr_c hg 52 rfl rfl) (fr_f hg 47 6 rfl rfl) (fr_f hg 47 7 rfl rfl) (fr_f hg 47 8 rfl rfl)
  · exact x_la h6 (fr_f hf 0 13 rfl rfl) (fr_f hf 0 33 rfl rfl) (fr_c hf 2 rfl rfl) (fr_c hf 3 rfl rfl) (fr_c hf 5 rfl rfl) (fr_c hf 6 rfl rfl) (fr_c hf 7 rfl rfl) (fr_c hf 8 rfl rfl) (fr_f hg 55 4 rfl rfl) (fr_f hg 55 5 rfl rfl) (x_law hg).1 (x_law hg).2
  · exact x_cl h7 (fr_f hf 0 43 rfl rfl) (fr_f hf 0 30 rfl rfl) (fr_c hf 23 rfl rfl) (fr_c hf 24 rfl rfl) (fr_f hg 72 4 rfl rfl) (fr_c hg 73 rfl rfl) (fr_c hg 74 rfl rfl)
theorem rl_fr {w w' : z_Wd} (h : Rl w) (hf : z_fr zSX zSY w w') : Rl w' := rl_fr2 h hf hf
/-! what the relation gives -/
theorem g_ok {w v : z_Wd} (h : r_mi w v) (h3 : r_no w v) : d_ok v := by
  obtain ⟨a1, a2, -, -, -, -, -, a8⟩ := h
  obtain ⟨b1, b2, b3, -, -⟩ := a2
  exact ⟨by omega, by omega, by omega, a8, h3.1.1⟩
/-- the drowned ones -/
def g_T (v : z_Wd) : Nat → Bool := fun n => v 42 n != -1
theorem g_pl {w v : z_Wd} (h : r_mi w v) (h3 : r_no w v) : r_pl w v (g_T v) := by
  obtain ⟨s1, s2, s3, s4, s5, s6, -⟩ := h3.1
  have hn := h.2.1.2.1
  refine ⟨fun n hn2 => ⟨(s1 n (by omega)).1.1, s2 n hn2⟩, s3, fun a i ha hi => ?_, fun a i j ha hij hj => ?_, fun n hn2 _ hw => ?_⟩
  · obtain ⟨e1, e2, e3⟩ := s4 a i ha hi
    refine ⟨e1, ?_, e2⟩
    unfold g_T
    rw [e2]
    exact bne_iff_ne.mpr (by omega)
  · rw [(s4 a i ha (by omega)).2.2, (s4 a j ha hj).2.2]
    omega
  · have e := s5 n hn2 hw
    have r := s1 n (by omega)
    exact ⟨(v 43 n).toNat, by omega, e.2⟩
