/-! the class's signs -/
theorem l_sgr {c : Int} (h : 0 ≤ c ∧ c ≤ 11) : 0 ≤ l_sg c ∧ l_sg c ≤ 124 ∧ (c = 0 → l_sg c = 0) ∧ (c = 1 → l_sg c = 1) ∧ (c = 9 → l_sg c = 33) ∧ (c ≠ 0 → c ≠ 1 → c ≠ 9 → 38 ≤ l_sg c) := by
  have : c = 0 ∨ c = 1 ∨ c = 2 ∨ c = 3 ∨ c = 4 ∨ c = 5 ∨ c = 6 ∨ c = 7 ∨ c = 8 ∨ c = 9 ∨ c = 10 ∨ c = 11 := by omega
  rcases this with rfl | rfl | rfl | rfl | rfl | rfl | rfl | rfl | rfl | rfl | rfl | rfl <;> decide
theorem l_dm {s x : Int} (hs : 0 ≤ s) (hx : 0 ≤ x ∧ x < 10000) : Int.tdiv (s * 10000 + x) 10000 = s ∧ Int.tmod (s * 10000 + x) 10000 = x := by
  rw [Int.tdiv_eq_ediv_of_nonneg (by omega), Int.tmod_eq_emod_of_nonneg (by omega)]
  omega
theorem l_jn {u w : z_Wd} {c a b : Int} (hc : 0 ≤ c ∧ c ≤ 11) (h0 : c ≠ 0) (h1 : c ≠ 1) (h9 : c ≠ 9) (ha : -1000000 ≤ a ∧ a ≤ 1000000) (hb : -1000000 ≤ b ∧ b ≤ 1000000) (ht : 10 ≤ c → (a = 0 ∨ a = 1) ∧ (b = 0 ∨ b = 1)) : F_W_join u (l_sg c) a b = F_M_worked w c a b ∧ P_W_join u (l_sg c) a b := by
  have m := l_mul ha hb
  have d := l_div (b := b) ha
  have cc : c = 2 ∨ c = 3 ∨ c = 4 ∨ c = 5 ∨ c = 6 ∨ c = 7 ∨ c = 8 ∨ c = 10 ∨ c = 11 := by omega
  have r := l_sgr hc
  constructor
  · rcases cc with rfl | rfl | rfl | rfl | rfl | rfl | rfl | rfl | rfl
    · rfl
    · rfl
    · rfl
    · show (if b = 0 then 0 else Int.tdiv a b) = if z_cmp b 0 = 0 then 0 else F_J_max_f86c9 w (-1000000) (F_J_min_f86c9 w 1000000 (Int.tdiv a b))
      simp only [z_cmp0]
      rw [l_bd.2.2 d]
    · show (if a = b then 1 else 0) = if z_cmp a b = 0 then 1 else 0
      simp only [z_cmp0]
    · show (if a ≥ b then 0 else 1) = if z_cmp a b ≥ 0 then 0 else 1
      simp only [z_cmpn.2.2.1]
    · show (if a ≤ b then 0 else 1) = if z_cmp a b ≤ 0 then 0 else 1
      simp only [z_cmpn.2.2.2]
    · show zz_and a b = if z_cmp a 0 = 0 then 0 else if z_cmp b 0 = 0 then 0 else 1
      obtain ⟨t1, t2⟩ := ht (by omega)
      rcases t1 with rfl | rfl <;> rcases t2 with rfl | rfl <;> decide
    · show zz_or a b = if z_cmp a 0 = 0 then if z_cmp b 0 = 0 then 0 else 1 else 1
      obtain ⟨t1, t2⟩ := ht (by omega)
      rcases t1 with rfl | rfl <;> rcases t2 with rfl | rfl <;> decide
  · unfold P_W_join
    refine ⟨by omega, fun _ => trivial, fun _ => ⟨fun _ => ⟨by omega, by omega, l_bp (by omega)⟩, fun _ => ⟨fun _ => ⟨by omega, l_bp (by omega)⟩, fun _ => ⟨fun _ => ⟨by omega, l_bp (by omega)⟩, fun _ => ⟨fun _ => ⟨by omega, fun _ => trivial, fun z => ⟨z, by omega⟩⟩, fun _ => ⟨fun _ => ⟨by omega, by omega⟩, fun _ => ⟨fun _ => ⟨by omega, by omega⟩, fun _ => ⟨fun _ => ⟨by omega, by omega⟩, fun _ => ⟨fun _ => trivial, fun _ => trivial⟩⟩⟩⟩⟩⟩⟩⟩⟩
/-- what a law is worked to, from a clause on -/
def l_res (code val le tf sf st : Nat → Int) : Nat → Nat → Int
  | 0, _ => 0
  | n + 1, c => if tf c = sf c ∨ l_hd (l_ev code val le (tf c).toNat (sf c - tf c).toNat) ≠ 0 then l_hd (l_ev code val le (sf c).toNat (st c - sf c).toNat) else l_res code val le tf sf st n (c + 1)
theorem w58_pu {wu : z_Wd} {s : List Int} {x : Int} (h3 : wu 58 3 = (s.length : Int)) (hl : s.length < 64) (hat : l_at (wu 60) s) : P_W_push_58 wu x ∧ F_W_push_58 wu x 58 3 = ((x :: s).length : Int) ∧ l_at (F_W_push_58 wu x 60) (x :: s) ∧ z_fr [60] [(58, 3)] wu (F_W_push_58 wu x) := by
  have e : F_W_push_58 wu x = z_up (z_up wu 60 s.length x) 58 3 ((s.length : Int) + 1) := by
    unfold F_W_push_58
    rw [h3, if_neg (by omega), Int.toNat_natCast]
  rw [e]
  refine ⟨⟨by omega, fun _ => trivial, fun _ => by omega⟩, ?_, ?_, fr_uf rfl (fr_up rfl fr_rf)⟩
  · rw [z_up_at]
    simp only [List.length_cons]
    omega
  · rw [z_up_other (by decide)]
    exact ⟨z_up_at, l_atc hat (fun i hi => z_up_ne (show i ≠ s.length by omega))⟩
theorem w58_po {wu : z_Wd} {s : List Int} {x : Int} (h3 : wu 58 3 = ((x :: s).length : Int)) (hl : s.length < 64) (hat : l_at (wu 60) (x :: s)) : P_W_pop_58 wu ∧ (F_W_pop_58 wu).1 = x ∧ (F_W_pop_58 wu).2 58 3 = (s.length : Int) ∧ l_at ((F_W_pop_58 wu).2 60) s ∧ z_fr [60] [(58, 3)] wu (F_W_pop_58 wu).2 := by
  simp only [List.length_cons] at h3
  have e : F_W_pop_58 wu = (wu 60 s.length, z_up wu 58 3 (s.length : Int)) := by
    unfold F_W_pop_58
    rw [h3, if_pos (by omega), show (((s.length + 1 : Nat) : Int) - 1).toNat = s.length by omega, show ((s.length + 1 : Nat) : Int) - 1 = (s.length : Int) by omega]
  rw [e]
  refine ⟨⟨by omega, fun _ => by omega, fun _ => trivial⟩, hat.1, (show z_up wu 58 3 (s.length : Int) 58 3 = (s.length : Int) from z_up_at), ?_, fr_uf rfl fr_rf⟩
  dsimp only
  rw [z_up_other (by decide)]
  exact hat.2
theorem w58_st {w wu : z_Wd} {c x : Int} {ts ts' : List Bool} {s : List Int} {k : Nat} (h3 : wu 58 3 = (s.length : Int)) (hat : l_at (wu 60) s) (hv : l_va c x) (hle : ∀ i, i < 6 → -1000000 ≤ wu 57 i ∧ wu 57 i ≤ 1000000) (ht : l_ty c ts = some ts') (hs : l_so ts s) (hl : ts.length ≤ 60) (hk : k < 240) (hk2 : (k : Int) < wu 58 2) (h240 : wu 58 2 ≤ 240) (hc : wu 59 k = l_sg c * 10000 + x) : ∃ wu' : z_Wd, z_fr [60] [(58, 3)] wu wu' ∧ wu' 58 3 = ((l_op c x (wu 57) s).length : Int) ∧ l_at (wu' 60) (l_op c x (wu 57) s) ∧ ∀ m, L_W_weigh_58_57_7 w (m + 1) (k : Int) wu = L_W_weigh_58_57_7 w m ((k : Int) + 1) wu' ∧ (PL_W_weigh_58_57_7 w m ((k : Int) + 1) wu' → PL_W_weigh_58_57_7 w (m + 1) (k : Int) wu) := by
  obtain ⟨q1, q2, q3, q4⟩ := l_st hv hle ht hs
  have hsl := l_solen hs
  obtain ⟨v1, v2, v3, v4⟩ := hv
  have r := l_sgr v1
  have hx : 0 ≤ x ∧ x < 10000 := by
    by_cases z0 : c = 0
    · have := v2 z0; omega
    · by_cases z1 : c = 1
      · have := v3 z1; omega
      · have := v4 (by omega); omega
  obtain ⟨d1, d2⟩ := l_dm r.1 hx
  rw [← hc] at d1 d2
  have rr : -2147483648 ≤ wu 59 k ∧ wu 59 k < 2147483648 := by omega
  by_cases c0 : c = 0
  · have s0 := r.2.2.1 c0
    have eO : l_op c x (wu 57) s = x :: s := by
      unfold l_op
      rw [if_pos c0]
    obtain ⟨p1, p2, p3, p4⟩ := w58_pu (x := x) h3 (by have := q2 (Or.inl c0); omega) hat
    rw [eO]
    refine ⟨F_W_push_58 wu x, p4, p2, p3, fun m => ⟨?_, fun hp => ?_⟩⟩
    · simp only [L_W_weigh_58_57_7]
      rw [if_neg (by omega), Int.toNat_natCast, d1, d2, if_pos s0]
    · simp only [PL_W_weigh_58_57_7]
      rw [Int.toNat_natCast, d1, d2]
      exact ⟨by omega, by omega, fun z => absurd z (by omega), fun _ => ⟨by omega, rr, by omega, fun _ => ⟨p1, hp⟩, fun z => absurd s0 z⟩⟩
  · by_cases c1 : c = 1
    · have s1 := r.2.2.2.1 c1
      have x5 := v3 c1
      have eO : l_op c x (wu 57) s = wu 57 x.toNat :: s := by
        unfold l_op
        rw [if_neg c0, if_pos c1]
      obtain ⟨p1, p2, p3, p4⟩ := w58_pu (x := wu 57 x.toNat) h3 (by have := q2 (Or.inr c1); omega) hat
      rw [eO]
      refine ⟨F_W_push_58 wu (wu 57 x.toNat), p4, p2, p3, fun m => ⟨?_, fun hp => ?_⟩⟩
      · simp only [L_W_weigh_58_57_7]
        rw [if_neg (by omega), Int.toNat_natCast, d1, d2, if_neg (by omega), if_pos s1, if_neg (by omega)]
      · simp only [PL_W_weigh_58_57_7]
        rw [Int.toNat_natCast, d1, d2]
        exact ⟨by omega, by omega, fun z => absurd z (by omega), fun _ => ⟨by omega, rr, by omega, fun z => absurd z (by omega), fun _ => ⟨fun _ => ⟨by omega, fun z => absurd z (by omega), fun _ => ⟨by omega, p1, hp⟩⟩, fun z => absurd s1 z⟩⟩⟩
    · by_cases c9 : c = 9
      · have s9 := r.2.2.2.2.1 c9
        obtain ⟨y, q, rfl, hy⟩ := q3 c9
        simp only [List.length_cons] at hsl
        have eO : l_op c x (wu 57) (y :: q) = (1 - y) :: q := by
          unfold l_op
          rw [if_neg c0, if_neg c1, if_pos c9]
        obtain ⟨o1, o2, o3, o4, o5⟩ := w58_po h3 (by omega) hat
        obtain ⟨p1, p2, p3, p4⟩ := w58_pu (x := 1 - y) o3 (by omega) o4
        have g1 : ∀ m, L_W_weigh_58_57_7 w (m + 1) (k : Int) wu = L_W_weigh_58_57_7 w m ((k : Int) + 1) (F_W_push_58 (F_W_pop_58 wu).2 (1 - y)) ∧ (PL_W_weigh_58_57_7 w m ((k : Int) + 1) (F_W_push_58 (F_W_pop_58 wu).2 (1 - y)) → PL_W_weigh_58_57_7 w (m + 1) (k : Int) wu) := by
          intro m
          simp only [L_W_weigh_58_57_7, PL_W_weigh_58_57_7]
          rw [if_neg (by omega), Int.toNat_natCast, d1, o2, if_neg (by omega), if_neg (by omega), if_neg (by omega), if_neg (by omega), if_pos s9]
          rcases hy with rfl | rfl
          · rw [if_pos rfl]
            exact ⟨rfl, fun hp => ⟨by omega, by omega, fun z => absurd z (by omega), fun _ => ⟨by omega, rr, by omega, fun z => absurd z (by omega), fun _ => ⟨fun z => absurd z (by omega), fun _ => ⟨fun z => absurd z (by omega), fun _ => ⟨fun z => absurd z (by omega), fun _ => ⟨fun _ => ⟨o1, by omega, fun _ => ⟨p1, hp⟩, fun z => absurd rfl z⟩, fun z => absurd s9 z⟩⟩⟩⟩⟩⟩⟩
          · rw [if_neg (by decide)]
            exact ⟨rfl, fun hp => ⟨by omega, by omega, fun z => absurd z (by omega), fun _ => ⟨by omega, rr, by omega, fun z => absurd z (by omega), fun _ => ⟨fun z => absurd z (by omega), fun _ => ⟨fun z => absurd z (by omega), fun _ => ⟨fun z => absurd z (by omega), fun _ => ⟨fun _ => ⟨o1, by omega, fun z => absurd z (by decide), fun _ => ⟨p1, hp⟩⟩, fun z => absurd s9 z⟩⟩⟩⟩⟩⟩⟩
        rw [eO]
        exact ⟨_, fr_tr o5 p4, p2, p3, g1⟩
      · have s38 := r.2.2.2.2.2 c0 c1 c9
        obtain ⟨y, z, q, rfl, hz, hy, ht2⟩ := q4 c0 c1 c9
        simp only [List.length_cons] at hsl
        obtain ⟨o1, o2, o3, o4, o5⟩ := w58_po h3 (by simp only [List.length_cons]; omega) hat
        obtain ⟨n1, n2, n3, n4, n5⟩ := w58_po o3 (by omega) o4
        obtain ⟨j1, j2⟩ := l_jn (u := (F_W_pop_58 (F_W_pop_58 wu).2).2) (w := fun _ _ => 0) v1 c0 c1 c9 hz hy ht2
        have eO : l_op c x (wu 57) (y :: z :: q) = F_W_join (F_W_pop_58 (F_W_pop_58 wu).2).2 (l_sg c) z y :: q := by
          unfold l_op
          rw [if_neg c0, if_neg c1, if_neg c9, j1]
        obtain ⟨p1, p2, p3, p4⟩ := w58_pu (x := F_W_join (F_W_pop_58 (F_W_pop_58 wu).2).2 (l_sg c) z y) n3 (by omega) n4
        rw [eO]
        refine ⟨_, fr_tr (fr_tr o5 n5) p4, p2, p3, fun m => ⟨?_, fun hp => ?_⟩⟩
        · simp only [L_W_weigh_58_57_7]
          rw [if_neg (by omega), Int.toNat_natCast, d1, o2, n2, if_neg (by omega), if_neg (by omega), if_neg (by omega), if_neg (by omega), if_neg (by intro e9; rcases (by omega : c = 2 ∨ c = 3 ∨ c = 4 ∨ c = 5 ∨ c = 6 ∨ c = 7 ∨ c = 8 ∨ c = 10 ∨ c = 11) with rfl | rfl | rfl | rfl | rfl | rfl | rfl | rfl | rfl <;> revert e9 <;> decide)]
        · simp only [PL_W_weigh_58_57_7]
          rw [Int.toNat_natCast, d1, o2, n2]
          exact ⟨by omega, by omega, fun z => absurd z (by omega), fun _ => ⟨by omega, rr, by omega, fun z => absurd z (by omega), fun _ => ⟨fun z => absurd z (by omega), fun _ => ⟨fun z => absurd z (by omega), fun _ => ⟨fun z => absurd z (by omega), fun _ => ⟨fun z => absurd z (by omega), fun _ => ⟨o1, n1, j2, p1, hp⟩⟩⟩⟩⟩⟩⟩
theorem w58_bl {w wu : z_Wd} {code val : Nat → Int} {a k : Nat} (h3 : wu 58 3 = 0) (hle : ∀ i, i < 6 → -1000000 ≤ wu 57 i ∧ wu 57 i ≤ 1000000) (h240 : wu 58 2 ≤ 240) : ∀ {n : Nat} {ts : List Bool}, l_sq code val (wu 59) a k n → l_run code a n [] = some ts → ((k + n : Nat) : Int) ≤ wu 58 2 → ∃ wu' : z_Wd, z_fr [60] [(58, 3)] wu wu' ∧ wu' 58 3 = ((l_ev code val (wu 57) a n).length : Int) ∧ l_at (wu' 60) (l_ev code val (wu 57) a n) ∧ ∀ m, L_W_weigh_58_57_7 w (n + m) (k : Int) wu = L_W_weigh_58_57_7 w m ((k : Int) + (n : Int)) wu' ∧ (PL_W_weigh_58_57_7 w m ((k : Int) + (n : Int)) wu' → PL_W_weigh_58_57_7 w (n + m) (k : Int) wu)
  | 0, ts, _, _, _ => ⟨wu, fr_rf, h3, trivial, fun m => by
      rw [Nat.zero_add, show (k : Int) + ((0 : Nat) : Int) = (k : Int) by omega]
      exact ⟨rfl, fun z => z⟩⟩
  | n + 1, ts, hq, hr, hk => by
    obtain ⟨ts', r1, r2⟩ := l_rn hr
    obtain ⟨u, f, t, at1, g⟩ := w58_bl (w := w) h3 hle h240 (n := n) (fun i hi => hq i (by omega)) r1 (by omega)
    have hso := l_ok (val := val) hle (fun i hi => (hq i (by omega)).1) r1
    have q := hq n (by omega)
    have e57 := fr_c f 57 rfl rfl
    have e59 := fr_c f 59 rfl rfl
    have e2 := fr_f f 58 2 rfl rfl
    obtain ⟨u', f', t', at2, g'⟩ := w58_st (w := w) (k := k + n) t at1 q.1 (by rw [e57]; exact hle) r2 hso (l_len r1) (by omega) (by rw [e2]; omega) (by rw [e2]; exact h240) (by rw [e59]; exact q.2)
    rw [e57] at t' at2
    refine ⟨u', fr_tr f f', t', at2, fun m => ?_⟩
    obtain ⟨g1, g2⟩ := g (m + 1)
    obtain ⟨k1, k2⟩ := g' m
    rw [show n + 1 + m = n + (m + 1) by omega, show (k : Int) + ((n + 1 : Nat) : Int) = ((k + n : Nat) : Int) + 1 by omega]
    rw [show ((k + n : Nat) : Int) = (k : Int) + (n : Int) by omega] at k1 k2 ⊢
    exact ⟨by rw [g1, k1], fun hp => g2 (k2 hp)⟩
theorem w58_law {w : z_Wd} {code val tf sf st row : Nat → Int} {ncl len : Int} (h : l_one code val tf sf st ncl row len) (le : Nat → Int) (hle : ∀ i, i < 6 → -1000000 ≤ le i ∧ le i ≤ 1000000) : ∃ K : Nat → Nat, K 0 = 0 ∧ ∀ (n c : Nat) (wu : z_Wd) (f : Nat), (c : Int) + n = ncl → wu 58 2 = len → wu 59 = row → wu 57 = le → wu 58 3 = 0 → len - K c < f → (L_W_weigh_58_57_7 w f (K c : Int) wu).1 = l_res code val le tf sf st n c ∧ PL_W_weigh_58_57_7 w f (K c : Int) wu := by
  obtain ⟨o1, o2, K, K0, Kn, Kc⟩ := h
  have mono : ∀ c : Nat, (c : Int) ≤ ncl → ∀ j, c + j = ncl.toNat → K c ≤ K ncl.toNat := by
    intro c hc j
    induction j generalizing c with
    | zero => intro e; rw [show c = ncl.toNat by omega]; exact Nat.le_refl _
    | succ j ih =>
      intro e
      have q := (Kc c (by omega)).2.2.2.1
      have := ih (c + 1) (by omega) (by omega)
      omega
  refine ⟨K, K0, fun n => ?_⟩
  induction n with
  | zero =>
    intro c wu f hc h2 hB h57 h3 hf
    obtain ⟨g, rfl⟩ : ∃ g, f = g + 1 := ⟨f - 1, by have := mono c (by omega) 0 (by omega); omega⟩
    have ek : (K c : Int) = len := by rw [show c = ncl.toNat by omega]; exact Kn
    simp only [L_W_weigh_58_57_7, PL_W_weigh_58_57_7, l_res]
    rw [ek, h2, if_pos (by omega)]
    exact ⟨rfl, by omega, by omega, fun _ => trivial, fun z => absurd (by omega) z⟩
  | succ n ih =>
    intro c wu f hc h2 hB h57 h3 hf
    obtain ⟨b1, b2, b3, b4, b5, b6⟩ := Kc c (by omega)
    have kn := mono (c + 1) (by omega) n (by omega)
    rw [← hB] at b2 b5 b6
    have hle' : ∀ i, i < 6 → -1000000 ≤ wu 57 i ∧ wu 57 i ≤ 1000000 := by rw [h57]; exact hle
    -- a sum from k on
    have sum : ∀ (u : z_Wd) (k g : Nat), u 58 2 = len → u 59 = wu 59 → u 57 = le → u 58 3 = 0 → k + (st c - sf c).toNat + 1 = K (c + 1) → l_sq code val (wu 59) (sf c).toNat k (st c - sf c).toNat → (st c - sf c).toNat + 1 ≤ g → (L_W_weigh_58_57_7 w g (k : Int) u).1 = l_hd (l_ev code val le (sf c).toNat (st c - sf c).toNat) ∧ PL_W_weigh_58_57_7 w g (k : Int) u := by
      intro u k g u2 uB u57 u3 hk hq hg
      obtain ⟨u', f', t', at', gg⟩ := w58_bl (w := w) (wu := u) (k := k) u3 (by rw [u57]; exact hle) (by omega) (by rw [uB]; exact hq) b3 (by omega)
      rw [u57] at t' at'
      obtain ⟨m, rfl⟩ : ∃ m, g = (st c - sf c).toNat + (m + 1) := ⟨g - (st c - sf c).toNat - 1, by omega⟩
      obtain ⟨g1, g2⟩ := gg (m + 1)
      have hso := l_ok (val := val) hle (fun i hi => (hq i hi).1) b3
      have ll := l_solen hso
      generalize l_ev code val le (sf c).toNat (st c - sf c).toNat = s at *
      match s, t', at', ll with
      | [x], t', at', _ =>
        obtain ⟨p1, p2, -⟩ := w58_po t' (by simp) at'
        have i2 : (k : Int) + ((st c - sf c).toNat : Int) = ((K (c + 1) - 1 : Nat) : Int) := by omega
        have eB : u' 59 (K (c + 1) - 1) = 20000 := by rw [fr_c f' 59 rfl rfl, uB]; exact b5
        have e2 : u' 58 2 = len := by rw [fr_f f' 58 2 rfl rfl]; exact u2
        have d1 : Int.tdiv 20000 10000 = 2 := by decide
        rw [i2] at g2 g1
        rw [g1]
        constructor
        · simp only [L_W_weigh_58_57_7]
          rw [e2, if_neg (by omega), Int.toNat_natCast, eB, d1, if_neg (by decide), if_neg (by decide), if_pos rfl]
          exact p2
        · apply g2
          simp only [PL_W_weigh_58_57_7]
          rw [e2, Int.toNat_natCast, eB, d1]
          exact ⟨by omega, by omega, fun z => absurd z (by omega), fun _ => ⟨by omega, by omega, by omega, fun z => absurd z (by decide), fun _ => ⟨fun z => absurd z (by decide), fun _ => ⟨fun _ => p1, fun z => absurd rfl z⟩⟩⟩⟩
      | [], _, _, ll => simp at ll
      | _ :: _ :: _, _, _, ll => simp at ll
    simp only [l_res]
    by_cases ct : tf c = sf c
    · rw [if_pos (Or.inl ct)]
      rw [if_pos ct] at b2 b4
      exact sum wu (K c) f h2 rfl h57 h3 (by omega) (by rw [Nat.add_zero] at b2; exact b2) (by omega)
    · obtain ⟨t1, t2, t3⟩ := b6 ct
      rw [if_neg ct] at b2 b4
      obtain ⟨u', f', t', at', gg⟩ := w58_bl (w := w) (k := K c) h3 hle' (by omega) t1 t2 (by omega)
      rw [h57] at t' at'
      have hso := l_ok (val := val) hle (fun i hi => (t1 i hi).1) t2
      have ll := l_solen hso
      obtain ⟨m, rfl⟩ : ∃ m, f = (sf c - tf c).toNat + (m + 1) := ⟨f - (sf c - tf c).toNat - 1, by omega⟩
      obtain ⟨g1, g2⟩ := gg (m + 1)
      generalize l_ev code val le (tf c).toNat (sf c - tf c).toNat = s at *
      match s, t', at', ll with
      | [x], t', at', _ =>
        obtain ⟨p1, p2, p3, p4, p5⟩ := w58_po t' (by simp) at'
        have i2 : (K c : Int) + ((sf c - tf c).toNat : Int) = ((K c + (sf c - tf c).toNat : Nat) : Int) := by omega
        have eB : u' 59 (K c + (sf c - tf c).toNat) = 3 * 10000 + (K (c + 1) : Int) := by rw [fr_c f' 59 rfl rfl, t3]; rfl
        have e2 : u' 58 2 = len := by rw [fr_f f' 58 2 rfl rfl]; exact h2
        obtain ⟨d1, d2⟩ := l_dm (s := 3) (x := (K (c + 1) : Int)) (by omega) (by omega)
        have f2 := fr_tr f' p5
        have v2 : (F_W_pop_58 u').2 58 2 = len := by rw [fr_f f2 58 2 rfl rfl]; exact h2
        have vB : (F_W_pop_58 u').2 59 = wu 59 := fr_c f2 59 rfl rfl
        have v57 : (F_W_pop_58 u').2 57 = le := by rw [fr_c f2 57 rfl rfl]; exact h57
        have mx : F_J_max_7cf53 (F_W_pop_58 u').2 ((K c + (sf c - tf c).toNat : Nat) : Int) ((K (c + 1) : Int) - 1) + 1 = (K (c + 1) : Int) := by
          unfold F_J_max_7cf53
          split <;> omega
        rw [i2] at g2 g1
        rw [g1]
        have hx : -1000000 ≤ x ∧ x ≤ 1000000 := hso.1
        simp only [L_W_weigh_58_57_7]
        rw [e2, if_neg (by omega), Int.toNat_natCast, eB, d1, d2, p2, if_neg (by decide), if_neg (by decide), if_neg (by decide), if_pos rfl]
        by_cases cx : x = 0
        · obtain ⟨k1, k2⟩ := ih (c + 1) (F_W_pop_58 u').2 m (by omega) v2 (by rw [vB]; exact hB) v57 p3 (by omega)
          rw [if_pos cx, mx, if_neg (by
            rintro (z | z)
            · exact ct z
            · exact z cx)]
          refine ⟨k1, g2 ?_⟩
          simp only [PL_W_weigh_58_57_7]
          rw [e2, Int.toNat_natCast, eB, d1, d2, p2, mx]
          exact ⟨by omega, by omega, fun z => absurd z (by omega), fun _ => ⟨by omega, by omega, by omega, fun z => absurd z (by decide), fun _ => ⟨fun z => absurd z (by decide), fun _ => ⟨fun z => absurd z (by decide), fun _ => ⟨fun _ => ⟨p1, by omega, fun _ => ⟨⟨by omega, by omega⟩, k2⟩, fun z => absurd cx z⟩, fun z => absurd rfl z⟩⟩⟩⟩⟩
        · obtain ⟨k1, k2⟩ := sum (F_W_pop_58 u').2 (K c + (sf c - tf c).toNat + 1) m v2 vB v57 p3 (by omega) (by rw [Nat.add_assoc]; exact b2) (by omega)
          rw [if_neg cx, if_pos (show tf c = sf c ∨ l_hd [x] ≠ 0 from Or.inr cx)]
          rw [show ((K c + (sf c - tf c).toNat + 1 : Nat) : Int) = ((K c + (sf c - tf c).toNat : Nat) : Int) + 1 by omega] at k1 k2
          refine ⟨k1, g2 ?_⟩
          simp only [PL_W_weigh_58_57_7]
          rw [e2, Int.toNat_natCast, eB, d1, d2, p2]
          exact ⟨by omega, by omega, fun z => absurd z (by omega), fun _ => ⟨by omega, by omega, by omega, fun z => absurd z (by decide), fun _ => ⟨fun z => absurd z (by decide), fun _ => ⟨fun z => absurd z (by decide), fun _ => ⟨fun _ => ⟨p1, by omega, fun z => absurd z cx, fun _ => k2⟩, fun z => absurd rfl z⟩⟩⟩⟩⟩
      | [], _, _, ll => simp at ll
      | _ :: _ :: _, _, _, ll => simp at ll
theorem w58_all {w : z_Wd} {code val tf sf st : Nat → Int} {ncl : Int} (h : l_one code val tf sf st ncl (w 59) (w 58 2)) (hle : ∀ i, i < 6 → -1000000 ≤ w 57 i ∧ w 57 i ≤ 1000000) : (F_W_weigh_58_57 w).1 = l_res code val (w 57) tf sf st ncl.toNat 0 ∧ P_W_weigh_58_57 w ∧ z_fr [60] [(58, 3)] w (F_W_weigh_58_57 w).2 := by
  have o1 := h.1
  have o2 := h.2.1
  obtain ⟨K, K0, g⟩ := w58_law (w := w) h (w 57) hle
  obtain ⟨k1, k2⟩ := g ncl.toNat 0 (z_up w 58 3 0) 300 (by omega) (z_up_ne (by decide)) (z_up_other (by decide)) (z_up_other (by decide)) z_up_at (by omega)
  rw [K0] at k1 k2
  exact ⟨k1, k2, fr_F_W_weigh_58_57⟩
