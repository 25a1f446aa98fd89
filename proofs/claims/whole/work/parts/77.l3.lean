theorem w61_pu {wu : z_Wd} {s : List Int} {x : Int} (h3 : wu 61 3 = (s.length : Int)) (hl : s.length < 64) (hat : l_at (wu 63) s) : P_W_push_61 wu x ∧ F_W_push_61 wu x 61 3 = ((x :: s).length : Int) ∧ l_at (F_W_push_61 wu x 63) (x :: s) ∧ z_fr [63] [(61, 3)] wu (F_W_push_61 wu x) := by
  have e : F_W_push_61 wu x = z_up (z_up wu 63 s.length x) 61 3 ((s.length : Int) + 1) := by
    unfold F_W_push_61
    rw [h3, if_neg (by omega), Int.toNat_natCast]
  rw [e]
  refine ⟨⟨by omega, fun _ => trivial, fun _ => by omega⟩, ?_, ?_, fr_uf rfl (fr_up rfl fr_rf)⟩
  · rw [z_up_at]
    simp only [List.length_cons]
    omega
  · rw [z_up_other (by decide)]
    exact ⟨z_up_at, l_atc hat (fun i hi => z_up_ne (show i ≠ s.length by omega))⟩
theorem w61_po {wu : z_Wd} {s : List Int} {x : Int} (h3 : wu 61 3 = ((x :: s).length : Int)) (hl : s.length < 64) (hat : l_at (wu 63) (x :: s)) : P_W_pop_61 wu ∧ (F_W_pop_61 wu).1 = x ∧ (F_W_pop_61 wu).2 61 3 = (s.length : Int) ∧ l_at ((F_W_pop_61 wu).2 63) s ∧ z_fr [63] [(61, 3)] wu (F_W_pop_61 wu).2 := by
  simp only [List.length_cons] at h3
  have e : F_W_pop_61 wu = (wu 63 s.length, z_up wu 61 3 (s.length : Int)) := by
    unfold F_W_pop_61
    rw [h3, if_pos (by omega), show (((s.length + 1 : Nat) : Int) - 1).toNat = s.length by omega, show ((s.length + 1 : Nat) : Int) - 1 = (s.length : Int) by omega]
  rw [e]
  refine ⟨⟨by omega, fun _ => by omega, fun _ => trivial⟩, hat.1, (show z_up wu 61 3 (s.length : Int) 61 3 = (s.length : Int) from z_up_at), ?_, fr_uf rfl fr_rf⟩
  dsimp only
  rw [z_up_other (by decide)]
  exact hat.2
theorem w61_st {w wu : z_Wd} {c x : Int} {ts ts' : List Bool} {s : List Int} {k : Nat} (h3 : wu 61 3 = (s.length : Int)) (hat : l_at (wu 63) s) (hv : l_va c x) (hle : ∀ i, i < 6 → -1000000 ≤ wu 57 i ∧ wu 57 i ≤ 1000000) (ht : l_ty c ts = some ts') (hs : l_so ts s) (hl : ts.length ≤ 60) (hk : k < 240) (hk2 : (k : Int) < wu 61 2) (h240 : wu 61 2 ≤ 240) (hc : wu 62 k = l_sg c * 10000 + x) : ∃ wu' : z_Wd, z_fr [63] [(61, 3)] wu wu' ∧ wu' 61 3 = ((l_op c x (wu 57) s).length : Int) ∧ l_at (wu' 63) (l_op c x (wu 57) s) ∧ ∀ m, L_W_weigh_61_57_7 w (m + 1) (k : Int) wu = L_W_weigh_61_57_7 w m ((k : Int) + 1) wu' ∧ (PL_W_weigh_61_57_7 w m ((k : Int) + 1) wu' → PL_W_weigh_61_57_7 w (m + 1) (k : Int) wu) := by
  obtain ⟨q1, q2, q3, q4⟩ := l_st hv hle ht hs
  have hsl := l_solen hs
  obtain ⟨v1, v2, v3, v4⟩ := hv
  have r := l_sgr v1
  have hx : 0 ≤ x ∧ x < 10000 := by
    by_cases z0 : c = 0
    · have := v2 z0; omega
    · by_cases z1 : c = 1
      · have := v3 z1; omega
      · have := v4 (by omega); omega
  obtain ⟨d1, d2⟩ := l_dm r.1 hx
  rw [← hc] at d1 d2
  have rr : -2147483648 ≤ wu 62 k ∧ wu 62 k < 2147483648 := by omega
  by_cases c0 : c = 0
  · have s0 := r.2.2.1 c0
    have eO : l_op c x (wu 57) s = x :: s := by
      unfold l_op
      rw [if_pos c0]
    obtain ⟨p1, p2, p3, p4⟩ := w61_pu (x := x) h3 (by have := q2 (Or.inl c0); omega) hat
    rw [eO]
    refine ⟨F_W_push_61 wu x, p4, p2, p3, fun m => ⟨?_, fun hp => ?_⟩⟩
    · simp only [L_W_weigh_61_57_7]
      rw [if_neg (by omega), Int.toNat_natCast, d1, d2, if_pos s0]
    · simp only [PL_W_weigh_61_57_7]
      rw [Int.toNat_natCast, d1, d2]
      exact ⟨by omega, by omega, fun z => absurd z (by omega), fun _ => ⟨by omega, rr, by omega, fun _ => ⟨p1, hp⟩, fun z => absurd s0 z⟩⟩
  · by_cases c1 : c = 1
    · have s1 := r.2.2.2.1 c1
      have x5 := v3 c1
      have eO : l_op c x (wu 57) s = wu 57 x.toNat :: s := by
        unfold l_op
        rw [if_neg c0, if_pos c1]
      obtain ⟨p1, p2, p3, p4⟩ := w61_pu (x := wu 57 x.toNat) h3 (by have := q2 (Or.inr c1); omega) hat
      rw [eO]
      refine ⟨F_W_push_61 wu (wu 57 x.toNat), p4, p2, p3, fun m => ⟨?_, fun hp => ?_⟩⟩
      · simp only [L_W_weigh_61_57_7]
        rw [if_neg (by omega), Int.toNat_natCast, d1, d2, if_neg (by omega), if_pos s1, if_neg (by omega)]
      · simp only [PL_W_weigh_61_57_7]
        rw [Int.toNat_natCast, d1, d2]
        exact ⟨by omega, by omega, fun z => absurd z (by omega), fun _ => ⟨by omega, rr, by omega, fun z => absurd z (by omega), fun _ => ⟨fun _ => ⟨by omega, fun z => absurd z (by omega), fun _ => ⟨by omega, p1, hp⟩⟩, fun z => absurd s1 z⟩⟩⟩
    · by_cases c9 : c = 9
      · have s9 := r.2.2.2.2.1 c9
        obtain ⟨y, q, rfl, hy⟩ := q3 c9
        simp only [List.length_cons] at hsl
        have eO : l_op c x (wu 57) (y :: q) = (1 - y) :: q := by
          unfold l_op
          rw [if_neg c0, if_neg c1, if_pos c9]
        obtain ⟨o1, o2, o3, o4, o5⟩ := w61_po h3 (by omega) hat
        obtain ⟨p1, p2, p3, p4⟩ := w61_pu (x := 1 - y) o3 (by omega) o4
        have g1 : ∀ m, L_W_weigh_61_57_7 w (m + 1) (k : Int) wu = L_W_weigh_61_57_7 w m ((k : Int) + 1) (F_W_push_61 (F_W_pop_61 wu).2 (1 - y)) ∧ (PL_W_weigh_61_57_7 w m ((k : Int) + 1) (F_W_push_61 (F_W_pop_61 wu).2 (1 - y)) → PL_W_weigh_61_57_7 w (m + 1) (k : Int) wu) := by
          intro m
          simp only [L_W_weigh_61_57_7, PL_W_weigh_61_57_7]
          rw [if_neg (by omega), Int.toNat_natCast, d1, o2, if_neg (by omega), if_neg (by omega), if_neg (by omega), if_neg (by omega), if_pos s9]
          rcases hy with rfl | rfl
          · rw [if_pos rfl]
            exact ⟨rfl, fun hp => ⟨by omega, by omega, fun z => absurd z (by omega), fun _ => ⟨by omega, rr, by omega, fun z => absurd z (by omega), fun _ => ⟨fun z => absurd z (by omega), fun _ => ⟨fun z => absurd z (by omega), fun _ => ⟨fun z => absurd z (by omega), fun _ => ⟨fun _ => ⟨o1, by omega, fun _ => ⟨p1, hp⟩, fun z => absurd rfl z⟩, fun z => absurd s9 z⟩⟩⟩⟩⟩⟩⟩
          · rw [if_neg (by decide)]
            exact ⟨rfl, fun hp => ⟨by omega, by omega, fun z => absurd z (by omega), fun _ => ⟨by omega, rr, by omega, fun z => absurd z (by omega), fun _ => ⟨fun z => absurd z (by omega), fun _ => ⟨fun z => absurd z (by omega), fun _ => ⟨fun z => absurd z (by omega), fun _ => ⟨fun _ => ⟨o1, by omega, fun z => absurd z (by decide), fun _ => ⟨p1, hp⟩⟩, fun z => absurd s9 z⟩⟩⟩⟩⟩⟩⟩
        rw [eO]
        exact ⟨_, fr_tr o5 p4, p2, p3, g1⟩
      · have s38 := r.2.2.2.2.2 c0 c1 c9
        obtain ⟨y, z, q, rfl, hz, hy, ht2⟩ := q4 c0 c1 c9
        simp only [List.length_cons] at hsl
        obtain ⟨o1, o2, o3, o4, o5⟩ := w61_po h3 (by simp only [List.length_cons]; omega) hat
        obtain ⟨n1, n2, n3, n4, n5⟩ := w61_po o3 (by omega) o4
        obtain ⟨j1, j2⟩ := l_jn (u := (F_W_pop_61 (F_W_pop_61 wu).2).2) (w := fun _ _ => 0) v1 c0 c1 c9 hz hy ht2
        have eO : l_op c x (wu 57) (y :: z :: q) = F_W_join (F_W_pop_61 (F_W_pop_61 wu).2).2 (l_sg c) z y :: q := by
          unfold l_op
          rw [if_neg c0, if_neg c1, if_neg c9, j1]
        obtain ⟨p1, p2, p3, p4⟩ := w61_pu (x := F_W_join (F_W_pop_61 (F_W_pop_61 wu).2).2 (l_sg c) z y) n3 (by omega) n4
        rw [eO]
        refine ⟨_, fr_tr (fr_tr o5 n5) p4, p2, p3, fun m => ⟨?_, fun hp => ?_⟩⟩
        · simp only [L_W_weigh_61_57_7]
          rw [if_neg (by omega), Int.toNat_natCast, d1, o2, n2, if_neg (by omega), if_neg (by omega), if_neg (by omega), if_neg (by omega), if_neg (by intro e9; rcases (by omega : c = 2 ∨ c = 3 ∨ c = 4 ∨ c = 5 ∨ c = 6 ∨ c = 7 ∨ c = 8 ∨ c = 10 ∨ c = 11) with rfl | rfl | rfl | rfl | rfl | rfl | rfl | rfl | rfl <;> revert e9 <;> decide)]
        · simp only [PL_W_weigh_61_57_7]
          rw [Int.toNat_natCast, d1, o2, n2]
          exact ⟨by omega, by omega, fun z => absurd z (by omega), fun _ => ⟨by omega, rr, by omega, fun z => absurd z (by omega), fun _ => ⟨fun z => absurd z (by omega), fun _ => ⟨fun z => absurd z (by omega), fun _ => ⟨fun z => absurd z (by omega), fun _ => ⟨fun z => absurd z (by omega), fun _ => ⟨o1, n1, j2, p1, hp⟩⟩⟩⟩⟩⟩⟩
theorem w61_bl {w wu : z_Wd} {code val : Nat → Int} {a k : Nat} (h3 : wu 61 3 = 0) (hle : ∀ i, i < 6 → -1000000 ≤ wu 57 i ∧ wu 57 i ≤ 1000000) (h240 : wu 61 2 ≤ 240) : ∀ {n : Nat} {ts : List Bool}, l_sq code val (wu 62) a k n → l_run code a n [] = some ts → ((k + n : Nat) : Int) ≤ wu 61 2 → ∃ wu' : z_Wd, z_fr [63] [(61, 3)] wu wu' ∧ wu' 61 3 = ((l_ev code val (wu 57) a n).length : Int) ∧ l_at (wu' 63) (l_ev code val (wu 57) a n) ∧ ∀ m, L_W_weigh_61_57_7 w (n + m) (k : Int) wu = L_W_weigh_61_57_7 w m ((k : Int) + (n : Int)) wu' ∧ (PL_W_weigh_61_57_7 w m ((k : Int) + (n : Int)) wu' → PL_W_weigh_61_57_7 w (n + m) (k : Int) wu)
  | 0, ts, _, _, _ => ⟨wu, fr_rf, h3, trivial, fun m => by
      rw [Nat.zero_add, show (k : Int) + ((0 : Nat) : Int) = (k : Int) by omega]
      exact ⟨rfl, fun z => z⟩⟩
  | n + 1, ts, hq, hr, hk => by
    obtain ⟨ts', r1, r2⟩ := l_rn hr
    obtain ⟨u, f, t, at1, g⟩ := w61_bl (w := w) h3 hle h240 (n := n) (fun i hi => hq i (by omega)) r1 (by omega)
    have hso := l_ok (val := val) hle (fun i hi => (hq i (by omega)).1) r1
    have q := hq n (by omega)
    have e57 := fr_c f 57 rfl rfl
    have e62 := fr_c f 62 rfl rfl
    have e2 := fr_f f 61 2 rfl rfl
    obtain ⟨u', f', t', at2, g'⟩ := w61_st (w := w) (k := k + n) t at1 q.1 (by rw [e57]; exact hle) r2 hso (l_len r1) (by omega) (by rw [e2]; omega) (by rw [e2]; exact h240) (by rw [e62]; exact q.2)
    rw [e57] at t' at2
    refine ⟨u', fr_tr f f', t', at2, fun m => ?_⟩
    obtain ⟨g1, g2⟩ := g (m + 1)
    obtain ⟨k1, k2⟩ := g' m
    rw [show n + 1 + m = n + (m + 1) by omega, show (k : Int) + ((n + 1 : Nat) : Int) = ((k + n : Nat) : Int) + 1 by omega]
    rw [show ((k + n : Nat) : Int) = (k : Int) + (n : Int) by omega] at k1 k2 ⊢
    exact ⟨by rw [g1, k1], fun hp => g2 (k2 hp)⟩
theorem w61_law {w : z_Wd} {code val tf sf st row : Nat → Int} {ncl len : Int} (h : l_one code val tf sf st ncl row len) (le : Nat → Int) (hle : ∀ i, i < 6 → -1000000 ≤ le i ∧ le i ≤ 1000000) : ∃ K : Nat → Nat, K 0 = 0 ∧ ∀ (n c : Nat) (wu : z_Wd) (f : Nat), (c : Int) + n = ncl → wu 61 2 = len → wu 62 = row → wu 57 = le → wu 61 3 = 0 → len - K c < f → (L_W_weigh_61_57_7 w f (K c : Int) wu).1 = l_res code val le tf sf st n c ∧ PL_W_weigh_61_57_7 w f (K c : Int) wu := by
  obtain ⟨o1, o2, K, K0, Kn, Kc⟩ := h
  have mono : ∀ c : Nat, (c : Int) ≤ ncl → ∀ j, c + j = ncl.toNat → K c ≤ K ncl.toNat := by
    intro c hc j
    induction j generalizing c with
    | zero => intro e; rw [show c = ncl.toNat by omega]; exact Nat.le_refl _
    | succ j ih =>
      intro e
      have q := (Kc c (by omega)).2.2.2.1
      have := ih (c + 1) (by omega) (by omega)
      omega
  refine ⟨K, K0, fun n => ?_⟩
  induction n with
  | zero =>
    intro c wu f hc h2 hB h57 h3 hf
    obtain ⟨g, rfl⟩ : ∃ g, f = g + 1 := ⟨f - 1, by have := mono c (by omega) 0 (by omega); omega⟩
    have ek : (K c : Int) = len := by rw [show c = ncl.toNat by omega]; exact Kn
    simp only [L_W_weigh_61_57_7, PL_W_weigh_61_57_7, l_res]
    rw [ek, h2, if_pos (by omega)]
    exact ⟨rfl, by omega, by omega, fun _ => trivial, fun z => absurd (by omega) z⟩
  | succ n ih =>
    intro c wu f hc h2 hB h57 h3 hf
    obtain ⟨b1, b2, b3, b4, b5, b6⟩ := Kc c (by omega)
    have kn := mono (c + 1) (by omega) n (by omega)
    rw [← hB] at b2 b5 b6
    have hle' : ∀ i, i < 6 → -1000000 ≤ wu 57 i ∧ wu 57 i ≤ 1000000 := by rw [h57]; exact hle
    -- a sum from k on
    have sum : ∀ (u : z_Wd) (k g : Nat), u 61 2 = len → u 62 = wu 62 → u 57 = le → u 61 3 = 0 → k + (st c - sf c).toNat + 1 = K (c + 1) → l_sq code val (wu 62) (sf c).toNat k (st c - sf c).toNat → (st c - sf c).toNat + 1 ≤ g → (L_W_weigh_61_57_7 w g (k : Int) u).1 = l_hd (l_ev code val le (sf c).toNat (st c - sf c).toNat) ∧ PL_W_weigh_61_57_7 w g (k : Int) u := by
      intro u k g u2 uB u57 u3 hk hq hg
      obtain ⟨u', f', t', at', gg⟩ := w61_bl (w := w) (wu := u) (k := k) u3 (by rw [u57]; exact hle) (by omega) (by rw [uB]; exact hq) b3 (by omega)
      rw [u57] at t' at'
      obtain ⟨m, rfl⟩ : ∃ m, g = (st c - sf c).toNat + (m + 1) := ⟨g - (st c - sf c).toNat - 1, by omega⟩
      obtain ⟨g1, g2⟩ := gg (m + 1)
      have hso := l_ok (val := val) hle (fun i hi => (hq i hi).1) b3
      have ll := l_solen hso
      generalize l_ev code val le (sf c).toNat (st c - sf c).toNat = s at *
      match s, t', at', ll with
      | [x], t', at', _ =>
        obtain ⟨p1, p2, -⟩ := w61_po t' (by simp) at'
        have i2 : (k : Int) + ((st c - sf c).toNat : Int) = ((K (c + 1) - 1 : Nat) : Int) := by omega
        have eB : u' 62 (K (c + 1) - 1) = 20000 := by rw [fr_c f' 62 rfl rfl, uB]; exact b5
        have e2 : u' 61 2 = len := by rw [fr_f f' 61 2 rfl rfl]; exact u2
        have d1 : Int.tdiv 20000 10000 = 2 := by decide
        rw [i2] at g2 g1
        rw [g1]
        constructor
        · simp only [L_W_weigh_61_57_7]
          rw [e2, if_neg (by omega), Int.toNat_natCast, eB, d1, if_neg (by decide), if_neg (by decide), if_pos rfl]
          exact p2
        · apply g2
          simp only [PL_W_weigh_61_57_7]
          rw [e2, Int.toNat_natCast, eB, d1]
          exact ⟨by omega, by omega, fun z => absurd z (by omega), fun _ => ⟨by omega, by omega, by omega, fun z => absurd z (by decide), fun _ => ⟨fun z => absurd z (by decide), fun _ => ⟨fun _ => p1, fun z => absurd rfl z⟩⟩⟩⟩
      | [], _, _, ll => simp at ll
      | _ :: _ :: _, _, _, ll => simp at ll
    simp only [l_res]
    by_cases ct : tf c = sf c
    · rw [if_pos (Or.inl ct)]
      rw [if_pos ct] at b2 b4
      exact sum wu (K c) f h2 rfl h57 h3 (by omega) (by rw [Nat.add_zero] at b2; exact b2) (by omega)
    · obtain ⟨t1, t2, t3⟩ := b6 ct
      rw [if_neg ct] at b2 b4
      obtain ⟨u', f', t', at', gg⟩ := w61_bl (w := w) (k := K c) h3 hle' (by omega) t1 t2 (by omega)
      rw [h57] at t' at'
      have hso := l_ok (val := val) hle (fun i hi => (t1 i hi).1) t2
      have ll := l_solen hso
      obtain ⟨m, rfl⟩ : ∃ m, f = (sf c - tf c).toNat + (m + 1) := ⟨f - (sf c - tf c).toNat - 1, by omega⟩
      obtain ⟨g1, g2⟩ := gg (m + 1)
      generalize l_ev code val le (tf c).toNat (sf c - tf c).toNat = s at *
      match s, t', at', ll with
      | [x], t', at', _ =>
        obtain ⟨p1, p2, p3, p4, p5⟩ := w61_po t' (by simp) at'
        have i2 : (K c : Int) + ((sf c - tf c).toNat : Int) = ((K c + (sf c - tf c).toNat : Nat) : Int) := by omega
        have eB : u' 62 (K c + (sf c - tf c).toNat) = 3 * 10000 + (K (c + 1) : Int) := by rw [fr_c f' 62 rfl rfl, t3]; rfl
        have e2 : u' 61 2 = len := by rw [fr_f f' 61 2 rfl rfl]; exact h2
        obtain ⟨d1, d2⟩ := l_dm (s := 3) (x := (K (c + 1) : Int)) (by omega) (by omega)
        have f2 := fr_tr f' p5
        have v2 : (F_W_pop_61 u').2 61 2 = len := by rw [fr_f f2 61 2 rfl rfl]; exact h2
        have vB : (F_W_pop_61 u').2 62 = wu 62 := fr_c f2 62 rfl rfl
        have v57 : (F_W_pop_61 u').2 57 = le := by rw [fr_c f2 57 rfl rfl]; exact h57
        have mx : F_J_max_7cf53 (F_W_pop_61 u').2 ((K c + (sf c - tf c).toNat : Nat) : Int) ((K (c + 1) : Int) - 1) + 1 = (K (c + 1) : Int) := by
          unfold F_J_max_7cf53
          split <;> omega
        rw [i2] at g2 g1
        rw [g1]
        have hx : -1000000 ≤ x ∧ x ≤ 1000000 := hso.1
        simp only [L_W_weigh_61_57_7]
        rw [e2, if_neg (by omega), Int.toNat_natCast, eB, d1, d2, p2, if_neg (by decide), if_neg (by decide), if_neg (by decide), if_pos rfl]
        by_cases cx : x = 0
        · obtain ⟨k1, k2⟩ := ih (c + 1) (F_W_pop_61 u').2 m (by omega) v2 (by rw [vB]; exact hB) v57 p3 (by omega)
          rw [if_pos cx, mx, if_neg (by
            rintro (z | z)
            · exact ct z
            · exact z cx)]
          refine ⟨k1, g2 ?_⟩
          simp only [PL_W_weigh_61_57_7]
          rw [e2, Int.toNat_natCast, eB, d1, d2, p2, mx]
          exact ⟨by omega, by omega, fun z => absurd z (by omega), fun _ => ⟨by omega, by omega, by omega, fun z => absurd z (by decide), fun _ => ⟨fun z => absurd z (by decide), fun _ => ⟨fun z => absurd z (by decide), fun _ => ⟨fun _ => ⟨p1, by omega, fun _ => ⟨⟨by omega, by omega⟩, k2⟩, fun z => absurd cx z⟩, fun z => absurd rfl z⟩⟩⟩⟩⟩
        · obtain ⟨k1, k2⟩ := sum (F_W_pop_61 u').2 (K c + (sf c - tf c).toNat + 1) m v2 vB v57 p3 (by omega) (by rw [Nat.add_assoc]; exact b2) (by omega)
          rw [if_neg cx, if_pos (show tf c = sf c ∨ l_hd [x] ≠ 0 from Or.inr cx)]
          rw [show ((K c + (sf c - tf c).toNat + 1 : Nat) : Int) = ((K c + (sf c - tf c).toNat : Nat) : Int) + 1 by omega] at k1 k2
          refine ⟨k1, g2 ?_⟩
          simp only [PL_W_weigh_61_57_7]
          rw [e2, Int.toNat_natCast, eB, d1, d2, p2]
          exact ⟨by omega, by omega, fun z => absurd z (by omega), fun _ => ⟨by omega, by omega, by omega, fun z => absurd z (by decide), fun _ => ⟨fun z => absurd z (by decide), fun _ => ⟨fun z => absurd z (by decide), fun _ => ⟨fun _ => ⟨p1, by omega, fun z => absurd z cx, fun _ => k2⟩, fun z => absurd rfl z⟩⟩⟩⟩⟩
      | [], _, _, ll => simp at ll
      | _ :: _ :: _, _, _, ll => simp at ll
theorem w61_all {w : z_Wd} {code val tf sf st : Nat → Int} {ncl : Int} (h : l_one code val tf sf st ncl (w 62) (w 61 2)) (hle : ∀ i, i < 6 → -1000000 ≤ w 57 i ∧ w 57 i ≤ 1000000) : (F_W_weigh_61_57 w).1 = l_res code val (w 57) tf sf st ncl.toNat 0 ∧ P_W_weigh_61_57 w ∧ z_fr [63] [(61, 3)] w (F_W_weigh_61_57 w).2 := by
  have o1 := h.1
  have o2 := h.2.1
  obtain ⟨K, K0, g⟩ := w61_law (w := w) h (w 57) hle
  obtain ⟨k1, k2⟩ := g ncl.toNat 0 (z_up w 61 3 0) 300 (by omega) (z_up_ne (by decide)) (z_up_other (by decide)) (z_up_other (by decide)) z_up_at (by omega)
  rw [K0] at k1 k2
  exact ⟨k1, k2, fr_F_W_weigh_61_57⟩
theorem w64_pu {wu : z_Wd} {s : List Int} {x : Int} (h3 : wu 64 3 = (s.length : Int)) (hl : s.length < 64) (hat : l_at (wu 66) s) : P_W_push_64 wu x ∧ F_W_push_64 wu x 64 3 = ((x :: s).length : Int) ∧ l_at (F_W_push_64 wu x 66) (x :: s) ∧ z_fr [66] [(64, 3)] wu (F_W_push_64 wu x) := by
  have e : F_W_push_64 wu x = z_up (z_up wu 66 s.length x) 64 3 ((s.length : Int) + 1) := by
    unfold F_W_push_64
    rw [h3, if_neg (by omega), Int.toNat_natCast]
  rw [e]
  refine ⟨⟨by omega, fun _ => trivial, fun _ => by omega⟩, ?_, ?_, fr_uf rfl (fr_up rfl fr_rf)⟩
  · rw [z_up_at]
    simp only [List.length_cons]
    omega
  · rw [z_up_other (by decide)]
    exact ⟨z_up_at, l_atc hat (fun i hi => z_up_ne (show i ≠ s.length by omega))⟩
theorem w64_po {wu : z_Wd} {s : List Int} {x : Int} (h3 : wu 64 3 = ((x :: s).length : Int)) (hl : s.length < 64) (hat : l_at (wu 66) (x :: s)) : P_W_pop_64 wu ∧ (F_W_pop_64 wu).1 = x ∧ (F_W_pop_64 wu).2 64 3 = (s.length : Int) ∧ l_at ((F_W_pop_64 wu).2 66) s ∧ z_fr [66] [(64, 3)] wu (F_W_pop_64 wu).2 := by
  simp only [List.length_cons] at h3
  have e : F_W_pop_64 wu = (wu 66 s.length, z_up wu 64 3 (s.length : Int)) := by
    unfold F_W_pop_64
    rw [h3, if_pos (by omega), show (((s.length + 1 : Nat) : Int) - 1).toNat = s.length by omega, show ((s.length + 1 : Nat) : Int) - 1 = (s.length : Int) by omega]
  rw [e]
  refine ⟨⟨by omega, fun _ => by omega, fun _ => trivial⟩, hat.1, (show z_up wu 64 3 (s.length : Int) 64 3 = (s.length : Int) from z_up_at), ?_, fr_uf rfl fr_rf⟩
  dsimp only
  rw [z_up_other (by decide)]
  exact hat.2
theorem w64_st {w wu : z_Wd} {c x : Int} {ts ts' : List Bool} {s : List Int} {k : Nat} (h3 : wu 64 3 = (s.length : Int)) (hat : l_at (wu 66) s) (hv : l_va c x) (hle : ∀ i, i < 6 → -1000000 ≤ wu 57 i ∧ wu 57 i ≤ 1000000) (ht : l_ty c ts = some ts') (hs : l_so ts s) (hl : ts.length ≤ 60) (hk : k < 240) (hk2 : (k : Int) < wu 64 2) (h240 : wu 64 2 ≤ 240) (hc : wu 65 k = l_sg c * 10000 + x) : ∃ wu' : z_Wd, z_fr [66] [(64, 3)] wu wu' ∧ wu' 64 3 = ((l_op c x (wu 57) s).length : Int) ∧ l_at (wu' 66) (l_op c x (wu 57) s) ∧ ∀ m, L_W_weigh_64_57_7 w (m + 1) (k : Int) wu = L_W_weigh_64_57_7 w m ((k : Int) + 1) wu' ∧ (PL_W_weigh_64_57_7 w m ((k : Int) + 1) wu' → PL_W_weigh_64_57_7 w (m + 1) (k : Int) wu) := by
  obtain ⟨q1, q2, q3, q4⟩ := l_st hv hle ht hs
  have hsl := l_solen hs
  obtain ⟨v1, v2, v3, v4⟩ := hv
  have r := l_sgr v1
  have hx : 0 ≤ x ∧ x < 10000 := by
    by_cases z0 : c = 0
    · have := v2 z0; omega
    · by_cases z1 : c = 1
      · have := v3 z1; omega
      · have := v4 (by omega); omega
  obtain ⟨d1, d2⟩ := l_dm r.1 hx
  rw [← hc] at d1 d2
  have rr : -2147483648 ≤ wu 65 k ∧ wu 65 k < 2147483648 := by omega
  by_cases c0 : c = 0
  · have s0 := r.2.2.1 c0
    have eO : l_op c x (wu 57) s = x :: s := by
      unfold l_op
      rw [if_pos c0]
    obtain ⟨p1, p2, p3, p4⟩ := w64_pu (x := x) h3 (by have := q2 (Or.inl c0); omega) hat
    rw [eO]
    refine ⟨F_W_push_64 wu x, p4, p2, p3, fun m => ⟨?_, fun hp => ?_⟩⟩
    · simp only [L_W_weigh_64_57_7]
      rw [if_neg (by omega), Int.toNat_natCast, d1, d2, if_pos s0]
    · simp only [PL_W_weigh_64_57_7]
      rw [Int.toNat_natCast, d1, d2]
      exact ⟨by omega, by omega, fun z => absurd z (by omega), fun _ => ⟨by omega, rr, by omega, fun _ => ⟨p1, hp⟩, fun z => absurd s0 z⟩⟩
  · by_cases c1 : c = 1
    · have s1 := r.2.2.2.1 c1
      have x5 := v3 c1
      have eO : l_op c x (wu 57) s = wu 57 x.toNat :: s := by
        unfold l_op
        rw [if_neg c0, if_pos c1]
      obtain ⟨p1, p2, p3, p4⟩ := w64_pu (x := wu 57 x.toNat) h3 (by have := q2 (Or.inr c1); omega) hat
      rw [eO]
      refine ⟨F_W_push_64 wu (wu 57 x.toNat), p4, p2, p3, fun m => ⟨?_, fun hp => ?_⟩⟩
      · simp only [L_W_weigh_64_57_7]
        rw [if_neg (by omega), Int.toNat_natCast, d1, d2, if_neg (by omega), if_pos s1, if_neg (by omega)]
      · simp only [PL_W_weigh_64_57_7]
        rw [Int.toNat_natCast, d1, d2]
        exact ⟨by omega, by omega, fun z => absurd z (by omega), fun _ => ⟨by omega, rr, by omega, fun z => absurd z (by omega), fun _ => ⟨fun _ => ⟨by omega, fun z => absurd z (by omega), fun _ => ⟨by omega, p1, hp⟩⟩, fun z => absurd s1 z⟩⟩⟩
    · by_cases c9 : c = 9
      · have s9 := r.2.2.2.2.1 c9
        obtain ⟨y, q, rfl, hy⟩ := q3 c9
        simp only [List.length_cons] at hsl
        have eO : l_op c x (wu 57) (y :: q) = (1 - y) :: q := by
          unfold l_op
          rw [if_neg c0, if_neg c1, if_pos c9]
        obtain ⟨o1, o2, o3, o4, o5⟩ := w64_po h3 (by omega) hat
        obtain ⟨p1, p2, p3, p4⟩ := w64_pu (x := 1 - y) o3 (by omega) o4
        have g1 : ∀ m, L_W_weigh_64_57_7 w (m + 1) (k : Int) wu = L_W_weigh_64_57_7 w m ((k : Int) + 1) (F_W_push_64 (F_W_pop_64 wu).2 (1 - y)) ∧ (PL_W_weigh_64_57_7 w m ((k : Int) + 1) (F_W_push_64 (F_W_pop_64 wu).2 (1 - y)) → PL_W_weigh_64_57_7 w (m + 1) (k : Int) wu) := by
          intro m
          simp only [L_W_weigh_64_57_7, PL_W_weigh_64_57_7]
          rw [if_neg (by omega), Int.toNat_natCast, d1, o2, if_neg (by omega), if_neg (by omega), if_neg (by omega), if_neg (by omega), if_pos s9]
          rcases hy with rfl | rfl
          · rw [if_pos rfl]
            exact ⟨rfl, fun hp => ⟨by omega, by omega, fun z => absurd z (by omega), fun _ => ⟨by omega, rr, by omega, fun z => absurd z (by omega), fun _ => ⟨fun z => absurd z (by omega), fun _ => ⟨fun z => absurd z (by omega), fun _ => ⟨fun z => absurd z (by omega), fun _ => ⟨fun _ => ⟨o1, by omega, fun _ => ⟨p1, hp⟩, fun z => absurd rfl z⟩, fun z => absurd s9 z⟩⟩⟩⟩⟩⟩⟩
          · rw [if_neg (by decide)]
            exact ⟨rfl, fun hp => ⟨by omega, by omega, fun z => absurd z (by omega), fun _ => ⟨by omega, rr, by omega, fun z => absurd z (by omega), fun _ => ⟨fun z => absurd z (by omega), fun _ => ⟨fun z => absurd z (by omega), fun _ => ⟨fun z => absurd z (by omega), fun _ => ⟨fun _ => ⟨o1, by omega, fun z => absurd z (by decide), fun _ => ⟨p1, hp⟩⟩, fun z => absurd s9 z⟩⟩⟩⟩⟩⟩⟩
        rw [eO]
        exact ⟨_, fr_tr o5 p4, p2, p3, g1⟩
      · have s38 := r.2.2.2.2.2 c0 c1 c9
        obtain ⟨y, z, q, rfl, hz, hy, ht2⟩ := q4 c0 c1 c9
        simp only [List.length_cons] at hsl
        obtain ⟨o1, o2, o3, o4, o5⟩ := w64_po h3 (by simp only [List.length_cons]; omega) hat
        obtain ⟨n1, n2, n3, n4, n5⟩ := w64_po o3 (by omega) o4
        obtain ⟨j1, j2⟩ := l_jn (u := (F_W_pop_64 (F_W_pop_64 wu).2).2) (w := fun _ _ => 0) v1 c0 c1 c9 hz hy ht2
        have eO : l_op c x (wu 57) (y :: z :: q) = F_W_join (F_W_pop_64 (F_W_pop_64 wu).2).2 (l_sg c) z y :: q := by
          unfold l_op
          rw [if_neg c0, if_neg c1, if_neg c9, j1]
        obtain ⟨p1, p2, p3, p4⟩ := w64_pu (x := F_W_join (F_W_pop_64 (F_W_pop_64 wu).2).2 (l_sg c) z y) n3 (by omega) n4
        rw [eO]
        refine ⟨_, fr_tr (fr_tr o5 n5) p4, p2, p3, fun m => ⟨?_, fun hp => ?_⟩⟩
        · simp only [L_W_weigh_64_57_7]
          rw [if_neg (by omega), Int.toNat_natCast, d1, o2, n2, if_neg (by omega), if_neg (by omega), if_neg (by omega), if_neg (by omega), if_neg (by intro e9; rcases (by omega : c = 2 ∨ c = 3 ∨ c = 4 ∨ c = 5 ∨ c = 6 ∨ c = 7 ∨ c = 8 ∨ c = 10 ∨ c = 11) with rfl | rfl | rfl | rfl | rfl | rfl | rfl | rfl | rfl <;> revert e9 <;> decide)]
        · simp only [PL_W_weigh_64_57_7]
          rw [Int.toNat_natCast, d1, o2, n2]
          exact ⟨by omega, by omega, fun z => absurd z (by omega), fun _ => ⟨by omega, rr, by omega, fun z => absurd z (by omega), fun _ => ⟨fun z => absurd z (by omega), fun _ => ⟨fun z => absurd z (by omega), fun _ => ⟨fun z => absurd z (by omega), fun _ => ⟨fun z => absurd z (by omega), fun _ => ⟨o1, n1, j2, p1, hp⟩⟩⟩⟩⟩⟩⟩
theorem w64_bl {w wu : z_Wd} {code val : Nat → Int} {a k : Nat} (h3 : wu 64 3 = 0) (hle : ∀ i, i < 6 → -1000000 ≤ wu 57 i ∧ wu 57 i ≤ 1000000) (h240 : wu 64 2 ≤ 240) : ∀ {n : Nat} {ts : List Bool}, l_sq code val (wu 65) a k n → l_run code a n [] = some ts → ((k + n : Nat) : Int) ≤ wu 64 2 → ∃ wu' : z_Wd, z_fr [66] [(64, 3)] wu wu' ∧ wu' 64 3 = ((l_ev code val (wu 57) a n).length : Int) ∧ l_at (wu' 66) (l_ev code val (wu 57) a n) ∧ ∀ m, L_W_weigh_64_57_7 w (n + m) (k : Int) wu = L_W_weigh_64_57_7 w m ((k : Int) + (n : Int)) wu' ∧ (PL_W_weigh_64_57_7 w m ((k : Int) + (n : Int)) wu' → PL_W_weigh_64_57_7 w (n + m) (k : Int) wu)
  | 0, ts, _, _, _ => ⟨wu, fr_rf, h3, trivial, fun m => by
      rw [Nat.zero_add, show (k : Int) + ((0 : Nat) : Int) = (k : Int) by omega]
      exact ⟨rfl, fun z => z⟩⟩
  | n + 1, ts, hq, hr, hk => by
    obtain ⟨ts', r1, r2⟩ := l_rn hr
    obtain ⟨u, f, t, at1, g⟩ := w64_bl (w := w) h3 hle h240 (n := n) (fun i hi => hq i (by omega)) r1 (by omega)
    have hso := l_ok (val := val) hle (fun i hi => (hq i (by omega)).1) r1
    have q := hq n (by omega)
    have e57 := fr_c f 57 rfl rfl
    have e65 := fr_c f 65 rfl rfl
    have e2 := fr_f f 64 2 rfl rfl
    obtain ⟨u', f', t', at2, g'⟩ := w64_st (w := w) (k := k + n) t at1 q.1 (by rw [e57]; exact hle) r2 hso (l_len r1) (by omega) (by rw [e2]; omega) (by rw [e2]; exact h240) (by rw [e65]; exact q.2)
    rw [e57] at t' at2
    refine ⟨u', fr_tr f f', t', at2, fun m => ?_⟩
    obtain ⟨g1, g2⟩ := g (m + 1)
    obtain ⟨k1, k2⟩ := g' m
    rw [show n + 1 + m = n + (m + 1) by omega, show (k : Int) + ((n + 1 : Nat) : Int) = ((k + n : Nat) : Int) + 1 by omega]
    rw [show ((k + n : Nat) : Int) = (k : Int) + (n : Int) by omega] at k1 k2 ⊢
    exact ⟨by rw [g1, k1], fun hp => g2 (k2 hp)⟩
theorem w64_law {w : z_Wd} {code val tf sf st row : Nat → Int} {ncl len : Int} (h : l_one code val tf sf st ncl row len) (le : Nat → Int) (hle : ∀ i, i < 6 → -1000000 ≤ le i ∧ le i ≤ 1000000) : ∃ K : Nat → Nat, K 0 = 0 ∧ ∀ (n c : Nat) (wu : z_Wd) (f : Nat), (c : Int) + n = ncl → wu 64 2 = len → wu 65 = row → wu 57 = le → wu 64 3 = 0 → len - K c < f → (L_W_weigh_64_57_7 w f (K c : Int) wu).1 = l_res code val le tf sf st n c ∧ PL_W_weigh_64_57_7 w f (K c : Int) wu := by
  obtain ⟨o1, o2, K, K0, Kn, Kc⟩ := h
  have mono : ∀ c : Nat, (c : Int) ≤ ncl → ∀ j, c + j = ncl.toNat → K c ≤ K ncl.toNat := by
    intro c hc j
    induction j generalizing c with
    | zero => intro e; rw [show c = ncl.toNat by omega]; exact Nat.le_refl _
    | succ j ih =>
      intro e
      have q := (Kc c (by omega)).2.2.2.1
      have := ih (c + 1) (by omega) (by omega)
      omega
  refine ⟨K, K0, fun n => ?_⟩
  induction n with
  | zero =>
    intro c wu f hc h2 hB h57 h3 hf
    obtain ⟨g, rfl⟩ : ∃ g, f = g + 1 := ⟨f - 1, by have := mono c (by omega) 0 (by omega); omega⟩
    have ek : (K c : Int) = len := by rw [show c = ncl.toNat by omega]; exact Kn
    simp only [L_W_weigh_64_57_7, PL_W_weigh_64_57_7, l_res]
    rw [ek, h2, if_pos (by omega)]
    exact ⟨rfl, by omega, by omega, fun _ => trivial, fun z => absurd (by omega) z⟩
  | succ n ih =>
    intro c wu f hc h2 hB h57 h3 hf
    obtain ⟨b1, b2, b3, b4, b5, b6⟩ := Kc c (by omega)
    have kn := mono (c + 1) (by omega) n (by omega)
    rw [← hB] at b2 b5 b6
    have hle' : ∀ i, i < 6 → -1000000 ≤ wu 57 i ∧ wu 57 i ≤ 1000000 := by rw [h57]; exact hle
    -- a sum from k on
    have sum : ∀ (u : z_Wd) (k g : Nat), u 64 2 = len → u 65 = wu 65 → u 57 = le → u 64 3 = 0 → k + (st c - sf c).toNat + 1 = K (c + 1) → l_sq code val (wu 65) (sf c).toNat k (st c - sf c).toNat → (st c - sf c).toNat + 1 ≤ g → (L_W_weigh_64_57_7 w g (k : Int) u).1 = l_hd (l_ev code val le (sf c).toNat (st c - sf c).toNat) ∧ PL_W_weigh_64_57_7 w g (k : Int) u := by
      intro u k g u2 uB u57 u3 hk hq hg
      obtain ⟨u', f', t', at', gg⟩ := w64_bl (w := w) (wu := u) (k := k) u3 (by rw [u57]; exact hle) (by omega) (by rw [uB]; exact hq) b3 (by omega)
      rw [u57] at t' at'
      obtain ⟨m, rfl⟩ : ∃ m, g = (st c - sf c).toNat + (m + 1) := ⟨g - (st c - sf c).toNat - 1, by omega⟩
      obtain ⟨g1, g2⟩ := gg (m + 1)
      have hso := l_ok (val := val) hle (fun i hi => (hq i hi).1) b3
      have ll := l_solen hso
      generalize l_ev code val le (sf c).toNat (st c - sf c).toNat = s at *
      match s, t', at', ll with
      | [x], t', at', _ =>
        obtain ⟨p1, p2, -⟩ := w64_po t' (by simp) at'
        have i2 : (k : Int) + ((st c - sf c).toNat : Int) = ((K (c + 1) - 1 : Nat) : Int) := by omega
        have eB : u' 65 (K (c + 1) - 1) = 20000 := by rw [fr_c f' 65 rfl rfl, uB]; exact b5
        have e2 : u' 64 2 = len := by rw [fr_f f' 64 2 rfl rfl]; exact u2
        have d1 : Int.tdiv 20000 10000 = 2 := by decide
        rw [i2] at g2 g1
        rw [g1]
        constructor
        · simp only [L_W_weigh_64_57_7]
          rw [e2, if_neg (by omega), Int.toNat_natCast, eB, d1, if_neg (by decide), if_neg (by decide), if_pos rfl]
          exact p2
        · apply g2
          simp only [PL_W_weigh_64_57_7]
          rw [e2, Int.toNat_natCast, eB, d1]
          exact ⟨by omega, by omega, fun z => absurd z (by omega), fun _ => ⟨by omega, by omega, by omega, fun z => absurd z (by decide), fun _ => ⟨fun z => absurd z (by decide), fun _ => ⟨fun _ => p1, fun z => absurd rfl z⟩⟩⟩⟩
      | [], _, _, ll => simp at ll
      | _ :: _ :: _, _, _, ll => simp at ll
    simp only [l_res]
    by_cases ct : tf c = sf c
    · rw [if_pos (Or.inl ct)]
      rw [if_pos ct] at b2 b4
      exact sum wu (K c) f h2 rfl h57 h3 (by omega) (by rw [Nat.add_zero] at b2; exact b2) (by omega)
    · obtain ⟨t1, t2, t3⟩ := b6 ct
      rw [if_neg ct] at b2 b4
      obtain ⟨u', f', t', at', gg⟩ := w64_bl (w := w) (k := K c) h3 hle' (by omega) t1 t2 (by omega)
      rw [h57] at t' at'
      have hso := l_ok (val := val) hle (fun i hi => (t1 i hi).1) t2
      have ll := l_solen hso
      obtain ⟨m, rfl⟩ : ∃ m, f = (sf c - tf c).toNat + (m + 1) := ⟨f - (sf c - tf c).toNat - 1, by omega⟩
      obtain ⟨g1, g2⟩ := gg (m + 1)
      generalize l_ev code val le (tf c).toNat (sf c - tf c).toNat = s at *
      match s, t', at', ll with
      | [x], t', at', _ =>
        obtain ⟨p1, p2, p3, p4, p5⟩ := w64_po t' (by simp) at'
        have i2 : (K c : Int) + ((sf c - tf c).toNat : Int) = ((K c + (sf c - tf c).toNat : Nat) : Int) := by omega
        have eB : u' 65 (K c + (sf c - tf c).toNat) = 3 * 10000 + (K (c + 1) : Int) := by rw [fr_c f' 65 rfl rfl, t3]; rfl
        have e2 : u' 64 2 = len := by rw [fr_f f' 64 2 rfl rfl]; exact h2
        obtain ⟨d1, d2⟩ := l_dm (s := 3) (x := (K (c + 1) : Int)) (by omega) (by omega)
        have f2 := fr_tr f' p5
        have v2 : (F_W_pop_64 u').2 64 2 = len := by rw [fr_f f2 64 2 rfl rfl]; exact h2
        have vB : (F_W_pop_64 u').2 65 = wu 65 := fr_c f2 65 rfl rfl
        have v57 : (F_W_pop_64 u').2 57 = le := by rw [fr_c f2 57 rfl rfl]; exact h57
        have mx : F_J_max_7cf53 (F_W_pop_64 u').2 ((K c + (sf c - tf c).toNat : Nat) : Int) ((K (c + 1) : Int) - 1) + 1 = (K (c + 1) : Int) := by
          unfold F_J_max_7cf53
          split <;> omega
        rw [i2] at g2 g1
        rw [g1]
        have hx : -1000000 ≤ x ∧ x ≤ 1000000 := hso.1
        simp only [L_W_weigh_64_57_7]
        rw [e2, if_neg (by omega), Int.toNat_natCast, eB, d1, d2, p2, if_neg (by decide), if_neg (by decide), if_neg (by decide), if_pos rfl]
        by_cases cx : x = 0
        · obtain ⟨k1, k2⟩ := ih (c + 1) (F_W_pop_64 u').2 m (by omega) v2 (by rw [vB]; exact hB) v57 p3 (by omega)
          rw [if_pos cx, mx, if_neg (by
            rintro (z | z)
            · exact ct z
            · exact z cx)]
          refine ⟨k1, g2 ?_⟩
          simp only [PL_W_weigh_64_57_7]
          rw [e2, Int.toNat_natCast, eB, d1, d2, p2, mx]
          exact ⟨by omega, by omega, fun z => absurd z (by omega), fun _ => ⟨by omega, by omega, by omega, fun z => absurd z (by decide), fun _ => ⟨fun z => absurd z (by decide), fun _ => ⟨fun z => absurd z (by decide), fun _ => ⟨fun _ => ⟨p1, by omega, fun _ => ⟨⟨by omega, by omega⟩, k2⟩, fun z => absurd cx z⟩, fun z => absurd rfl z⟩⟩⟩⟩⟩
        · obtain ⟨k1, k2⟩ := sum (F_W_pop_64 u').2 (K c + (sf c - tf c).toNat + 1) m v2 vB v57 p3 (by omega) (by rw [Nat.add_assoc]; exact b2) (by omega)
          rw [if_neg cx, if_pos (show tf c = sf c ∨ l_hd [x] ≠ 0 from Or.inr cx)]
          rw [show ((K c + (sf c - tf c).toNat + 1 : Nat) : Int) = ((K c + (sf c - tf c).toNat : Nat) : Int) + 1 by omega] at k1 k2
          refine ⟨k1, g2 ?_⟩
          simp only [PL_W_weigh_64_57_7]
          rw [e2, Int.toNat_natCast, eB, d1, d2, p2]
          exact ⟨by omega, by omega, fun z => absurd z (by omega), fun _ => ⟨by omega, by omega, by omega, fun z => absurd z (by decide), fun _ => ⟨fun z => absurd z (by decide), fun _ => ⟨fun z => absurd z (by decide), fun _ => ⟨fun _ => ⟨p1, by omega, fun z => absurd z cx, fun _ => k2⟩, fun z => absurd rfl z⟩⟩⟩⟩⟩
      | [], _, _, ll => simp at ll
      | _ :: _ :: _, _, _, ll => simp at ll
theorem w64_all {w : z_Wd} {code val tf sf st : Nat → Int} {ncl : Int} (h : l_one code val tf sf st ncl (w 65) (w 64 2)) (hle : ∀ i, i < 6 → -1000000 ≤ w 57 i ∧ w 57 i ≤ 1000000) : (F_W_weigh_64_57 w).1 = l_res code val (w 57) tf sf st ncl.toNat 0 ∧ P_W_weigh_64_57 w ∧ z_fr [66] [(64, 3)] w (F_W_weigh_64_57 w).2 := by
  have o1 := h.1
  have o2 := h.2.1
  obtain ⟨K, K0, g⟩ := w64_law (w := w) h (w 57) hle
  obtain ⟨k1, k2⟩ := g ncl.toNat 0 (z_up w 64 3 0) 300 (by omega) (z_up_ne (by decide)) (z_up_other (by decide)) (z_up_other (by decide)) z_up_at (by omega)
  rw [K0] at k1 k2
  exact ⟨k1, k2, fr_F_W_weigh_64_57⟩
theorem w67_pu {wu : z_Wd} {s : List Int} {x : Int} (h3 : wu 67 3 = (s.length : Int)) (hl : s.length < 64) (hat : l_at (wu 69) s) : P_W_push_67 wu x ∧ F_W_push_67 wu x 67 3 = ((x :: s).length : Int) ∧ l_at (F_W_push_67 wu x 69) (x :: s) ∧ z_fr [69] [(67, 3)] wu (F_W_push_67 wu x) := by
  have e : F_W_push_67 wu x = z_up (z_up wu 69 s.length x) 67 3 ((s.length : Int) + 1) := by
    unfold F_W_push_67
    rw [h3, if_neg (by omega), Int.toNat_natCast]
  rw [e]
  refine ⟨⟨by omega, fun _ => trivial, fun _ => by omega⟩, ?_, ?_, fr_uf rfl (fr_up rfl fr_rf)⟩
  · rw [z_up_at]
    simp only [List.length_cons]
    omega
  · rw [z_up_other (by decide)]
    exact ⟨z_up_at, l_atc hat (fun i hi => z_up_ne (show i ≠ s.length by omega))⟩
theorem w67_po {wu : z_Wd} {s : List Int} {x : Int} (h3 : wu 67 3 = ((x :: s).length : Int)) (hl : s.length < 64) (hat : l_at (wu 69) (x :: s)) : P_W_pop_67 wu ∧ (F_W_pop_67 wu).1 = x ∧ (F_W_pop_67 wu).2 67 3 = (s.length : Int) ∧ l_at ((F_W_pop_67 wu).2 69) s ∧ z_fr [69] [(67, 3)] wu (F_W_pop_67 wu).2 := by
  simp only [List.length_cons] at h3
  have e : F_W_pop_67 wu = (wu 69 s.length, z_up wu 67 3 (s.length : Int)) := by
    unfold F_W_pop_67
    rw [h3, if_pos (by omega), show (((s.length + 1 : Nat) : Int) - 1).toNat = s.length by omega, show ((s.length + 1 : Nat) : Int) - 1 = (s.length : Int) by omega]
  rw [e]
  refine ⟨⟨by omega, fun _ => by omega, fun _ => trivial⟩, hat.1, (show z_up wu 67 3 (s.length : Int) 67 3 = (s.length : Int) from z_up_at), ?_, fr_uf rfl fr_rf⟩
  dsimp only
  rw [z_up_other (by decide)]
  exact hat.2
theorem w67_st {w wu : z_Wd} {c x : Int} {ts ts' : List Bool} {s : List Int} {k : Nat} (h3 : wu 67 3 = (s.length : Int)) (hat : l_at (wu 69) s) (hv : l_va c x) (hle : ∀ i, i < 6 → -1000000 ≤ wu 57 i ∧ wu 57 i ≤ 1000000) (ht : l_ty c ts = some ts') (hs : l_so ts s) (hl : ts.length ≤ 60) (hk : k < 240) (hk2 : (k : Int) < wu 67 2) (h240 : wu 67 2 ≤ 240) (hc : wu 68 k = l_sg c * 10000 + x) : ∃ wu' : z_Wd, z_fr [69] [(67, 3)] wu wu' ∧ wu' 67 3 = ((l_op c x (wu 57) s).length : Int) ∧ l_at (wu' 69) (l_op c x (wu 57) s) ∧ ∀ m, L_W_weigh_67_57_7 w (m + 1) (k : Int) wu = L_W_weigh_67_57_7 w m ((k : Int) + 1) wu' ∧ (PL_W_weigh_67_57_7 w m ((k : Int) + 1) wu' → PL_W_weigh_67_57_7 w (m + 1) (k : Int) wu) := by
  obtain ⟨q1, q2, q3, q4⟩ := l_st hv hle ht hs
  have hsl := l_solen hs
  obtain ⟨v1, v2, v3, v4⟩ := hv
  have r := l_sgr v1
  have hx : 0 ≤ x ∧ x < 10000 := by
    by_cases z0 : c = 0
    · have := v2 z0; omega
    · by_cases z1 : c = 1
      · have := v3 z1; omega
      · have := v4 (by omega); omega
  obtain ⟨d1, d2⟩ := l_dm r.1 hx
  rw [← hc] at d1 d2
  have rr : -2147483648 ≤ wu 68 k ∧ wu 68 k < 2147483648 := by omega
  by_cases c0 : c = 0
  · have s0 := r.2.2.1 c0
    have eO : l_op c x (wu 57) s = x :: s := by
      unfold l_op
      rw [if_pos c0]
    obtain ⟨p1, p2, p3, p4⟩ := w67_pu (x := x) h3 (by have := q2 (Or.inl c0); omega) hat
    rw [eO]
    refine ⟨F_W_push_67 wu x, p4, p2, p3, fun m => ⟨?_, fun hp => ?_⟩⟩
    · simp only [L_W_weigh_67_57_7]
      rw [if_neg (by omega), Int.toNat_natCast, d1, d2, if_pos s0]
    · simp only [PL_W_weigh_67_57_7]
      rw [Int.toNat_natCast, d1, d2]
      exact ⟨by omega, by omega, fun z => absurd z (by omega), fun _ => ⟨by omega, rr, by omega, fun _ => ⟨p1, hp⟩, fun z => absurd s0 z⟩⟩
  · by_cases c1 : c = 1
    · have s1 := r.2.2.2.1 c1
      have x5 := v3 c1
      have eO : l_op c x (wu 57) s = wu 57 x.toNat :: s := by
        unfold l_op
        rw [if_neg c0, if_pos c1]
      obtain ⟨p1, p2, p3, p4⟩ := w67_pu (x := wu 57 x.toNat) h3 (by have := q2 (Or.inr c1); omega) hat
      rw [eO]
      refine ⟨F_W_push_67 wu (wu 57 x.toNat), p4, p2, p3, fun m => ⟨?_, fun hp => ?_⟩⟩
      · simp only [L_W_weigh_67_57_7]
        rw [if_neg (by omega), Int.toNat_natCast, d1, d2, if_neg (by omega), if_pos s1, if_neg (by omega)]
      · simp only [PL_W_weigh_67_57_7]
        rw [Int.toNat_natCast, d1, d2]
        exact ⟨by omega, by omega, fun z => absurd z (by omega), fun _ => ⟨by omega, rr, by omega, fun z => absurd z (by omega), fun _ => ⟨fun _ => ⟨by omega, fun z => absurd z (by omega), fun _ => ⟨by omega, p1, hp⟩⟩, fun z => absurd s1 z⟩⟩⟩
    · by_cases c9 : c = 9
      · have s9 := r.2.2.2.2.1 c9
        obtain ⟨y, q, rfl, hy⟩ := q3 c9
        simp only [List.length_cons] at hsl
        have eO : l_op c x (wu 57) (y :: q) = (1 - y) :: q := by
          unfold l_op
          rw [if_neg c0, if_neg c1, if_pos c9]
        obtain ⟨o1, o2, o3, o4, o5⟩ := w67_po h3 (by omega) hat
        obtain ⟨p1, p2, p3, p4⟩ := w67_pu (x := 1 - y) o3 (by omega) o4
        have g1 : ∀ m, L_W_weigh_67_57_7 w (m + 1) (k : Int) wu = L_W_weigh_67_57_7 w m ((k : Int) + 1) (F_W_push_67 (F_W_pop_67 wu).2 (1 - y)) ∧ (PL_W_weigh_67_57_7 w m ((k : Int) + 1) (F_W_push_67 (F_W_pop_67 wu).2 (1 - y)) → PL_W_weigh_67_57_7 w (m + 1) (k : Int) wu) := by
          intro m
          simp only [L_W_weigh_67_57_7, PL_W_weigh_67_57_7]
          rw [if_neg (by omega), Int.toNat_natCast, d1, o2, if_neg (by omega), if_neg (by omega), if_neg (by omega), if_neg (by omega), if_pos s9]
          rcases hy with rfl | rfl
          · rw [if_pos rfl]
            exact ⟨rfl, fun hp => ⟨by omega, by omega, fun z => absurd z (by omega), fun _ => ⟨by omega, rr, by omega, fun z => absurd z (by omega), fun _ => ⟨fun z => absurd z (by omega), fun _ => ⟨fun z => absurd z (by omega), fun _ => ⟨fun z => absurd z (by omega), fun _ => ⟨fun _ => ⟨o1, by omega, fun _ => ⟨p1, hp⟩, fun z => absurd rfl z⟩, fun z => absurd s9 z⟩⟩⟩⟩⟩⟩⟩
          · rw [if_neg (by decide)]
            exact ⟨rfl, fun hp => ⟨by omega, by omega, fun z => absurd z (by omega), fun _ => ⟨by omega, rr, by omega, fun z => absurd z (by omega), fun _ => ⟨fun z => absurd z (by omega), fun _ => ⟨fun z => absurd z (by omega), fun _ => ⟨fun z => absurd z (by omega), fun _ => ⟨fun _ => ⟨o1, by omega, fun z => absurd z (by decide), fun _ => ⟨p1, hp⟩⟩, fun z => absurd s9 z⟩⟩⟩⟩⟩⟩⟩
        rw [eO]
        exact ⟨_, fr_tr o5 p4, p2, p3, g1⟩
      · have s38 := r.2.2.2.2.2 c0 c1 c9
        obtain ⟨y, z, q, rfl, hz, hy, ht2⟩ := q4 c0 c1 c9
        simp only [List.length_cons] at hsl
        obtain ⟨o1, o2, o3, o4, o5⟩ := w67_po h3 (by simp only [List.length_cons]; omega) hat
        obtain ⟨n1, n2, n3, n4, n5⟩ := w67_po o3 (by omega) o4
        obtain ⟨j1, j2⟩ := l_jn (u := (F_W_pop_67 (F_W_pop_67 wu).2).2) (w := fun _ _ => 0) v1 c0 c1 c9 hz hy ht2
        have eO : l_op c x (wu 57) (y :: z :: q) = F_W_join (F_W_pop_67 (F_W_pop_67 wu).2).2 (l_sg c) z y :: q := by
          unfold l_op
          rw [if_neg c0, if_neg c1, if_neg c9, j1]
        obtain ⟨p1, p2, p3, p4⟩ := w67_pu (x := F_W_join (F_W_pop_67 (F_W_pop_67 wu).2).2 (l_sg c) z y) n3 (by omega) n4
        rw [eO]
        refine ⟨_, fr_tr (fr_tr o5 n5) p4, p2, p3, fun m => ⟨?_, fun hp => ?_⟩⟩
        · simp only [L_W_weigh_67_57_7]
          rw [if_neg (by omega), Int.toNat_natCast, d1, o2, n2, if_neg (by omega), if_neg (by omega), if_neg (by omega), if_neg (by omega), if_neg (by intro e9; rcases (by omega : c = 2 ∨ c = 3 ∨ c = 4 ∨ c = 5 ∨ c = 6 ∨ c = 7 ∨ c = 8 ∨ c = 10 ∨ c = 11) with rfl | rfl | rfl | rfl | rfl | rfl | rfl | rfl | rfl <;> revert e9 <;> decide)]
        · simp only [PL_W_weigh_67_57_7]
          rw [Int.toNat_natCast, d1, o2, n2]
          exact ⟨by omega, by omega, fun z => absurd z (by omega), fun _ => ⟨by omega, rr, by omega, fun z => absurd z (by omega), fun _ => ⟨fun z => absurd z (by omega), fun _ => ⟨fun z => absurd z (by omega), fun _ => ⟨fun z => absurd z (by omega), fun _ => ⟨fun z => absurd z (by omega), fun _ => ⟨o1, n1, j2, p1, hp⟩⟩⟩⟩⟩⟩⟩
theorem w67_bl {w wu : z_Wd} {code val : Nat → Int} {a k : Nat} (h3 : wu 67 3 = 0) (hle : ∀ i, i < 6 → -1000000 ≤ wu 57 i ∧ wu 57 i ≤ 1000000) (h240 : wu 67 2 ≤ 240) : ∀ {n : Nat} {ts : List Bool}, l_sq code val (wu 68) a k n → l_run code a n [] = some ts → ((k + n : Nat) : Int) ≤ wu 67 2 → ∃ wu' : z_Wd, z_fr [69] [(67, 3)] wu wu' ∧ wu' 67 3 = ((l_ev code val (wu 57) a n).length : Int) ∧ l_at (wu' 69) (l_ev code val (wu 57) a n) ∧ ∀ m, L_W_weigh_67_57_7 w (n + m) (k : Int) wu = L_W_weigh_67_57_7 w m ((k : Int) + (n : Int)) wu' ∧ (PL_W_weigh_67_57_7 w m ((k : Int) + (n : Int)) wu' → PL_W_weigh_67_57_7 w (n + m) (k : Int) wu)
  | 0, ts, _, _, _ => ⟨wu, fr_rf, h3, trivial, fun m => by
      rw [Nat.zero_add, show (k : Int) + ((0 : Nat) : Int) = (k : Int) by omega]
      exact ⟨rfl, fun z => z⟩⟩
  | n + 1, ts, hq, hr, hk => by
    obtain ⟨ts', r1, r2⟩ := l_rn hr
    obtain ⟨u, f, t, at1, g⟩ := w67_bl (w := w) h3 hle h240 (n := n) (fun i hi => hq i (by omega)) r1 (by omega)
    have hso := l_ok (val := val) hle (fun i hi => (hq i (by omega)).1) r1
    have q := hq n (by omega)
    have e57 := fr_c f 57 rfl rfl
    have e68 := fr_c f 68 rfl rfl
    have e2 := fr_f f 67 2 rfl rfl
    obtain ⟨u', f', t', at2, g'⟩ := w67_st (w := w) (k := k + n) t at1 q.1 (by rw [e57]; exact hle) r2 hso (l_len r1) (by omega) (by rw [e2]; omega) (by rw [e2]; exact h240) (by rw [e68]; exact q.2)
    rw [e57] at t' at2
    refine ⟨u', fr_tr f f', t', at2, fun m => ?_⟩
    obtain ⟨g1, g2⟩ := g (m + 1)
    obtain ⟨k1, k2⟩ := g' m
    rw [show n + 1 + m = n + (m + 1) by omega, show (k : Int) + ((n + 1 : Nat) : Int) = ((k + n : Nat) : Int) + 1 by omega]
    rw [show ((k + n : Nat) : Int) = (k : Int) + (n : Int) by omega] at k1 k2 ⊢
    exact ⟨by rw [g1, k1], fun hp => g2 (k2 hp)⟩
theorem w67_law {w : z_Wd} {code val tf sf st row : Nat → Int} {ncl len : Int} (h : l_one code val tf sf st ncl row len) (le : Nat → Int) (hle : ∀ i, i < 6 → -1000000 ≤ le i ∧ le i ≤ 1000000) : ∃ K : Nat → Nat, K 0 = 0 ∧ ∀ (n c : Nat) (wu : z_Wd) (f : Nat), (c : Int) + n = ncl → wu 67 2 = len → wu 68 = row → wu 57 = le → wu 67 3 = 0 → len - K c < f → (L_W_weigh_67_57_7 w f (K c : Int) wu).1 = l_res code val le tf sf st n c ∧ PL_W_weigh_67_57_7 w f (K c : Int) wu := by
  obtain ⟨o1, o2, K, K0, Kn, Kc⟩ := h
  have mono : ∀ c : Nat, (c : Int) ≤ ncl → ∀ j, c + j = ncl.toNat → K c ≤ K ncl.toNat := by
    intro c hc j
    induction j generalizing c with
    | zero => intro e; rw [show c = ncl.toNat by omega]; exact Nat.le_refl _
    | succ j ih =>
      intro e
      have q := (Kc c (by omega)).2.2.2.1
      have := ih (c + 1) (by omega) (by omega)
      omega
  refine ⟨K, K0, fun n => ?_⟩
  induction n with
  | zero =>
    intro c wu f hc h2 hB h57 h3 hf
    obtain ⟨g, rfl⟩ : ∃ g, f = g + 1 := ⟨f - 1, by have := mono c (by omega) 0 (by omega); omega⟩
    have ek : (K c : Int) = len := by rw [show c = ncl.toNat by omega]; exact Kn
    simp only [L_W_weigh_67_57_7, PL_W_weigh_67_57_7, l_res]
    rw [ek, h2, if_pos (by omega)]
    exact ⟨rfl, by omega, by omega, fun _ => trivial, fun z => absurd (by omega) z⟩
  | succ n ih =>
    intro c wu f hc h2 hB h57 h3 hf
    obtain ⟨b1, b2, b3, b4, b5, b6⟩ := Kc c (by omega)
    have kn := mono (c + 1) (by omega) n (by omega)
    rw [← hB] at b2 b5 b6
    have hle' : ∀ i, i < 6 → -1000000 ≤ wu 57 i ∧ wu 57 i ≤ 1000000 := by rw [h57]; exact hle
    -- a sum from k on
    have sum : ∀ (u : z_Wd) (k g : Nat), u 67 2 = len → u 68 = wu 68 → u 57 = le → u 67 3 = 0 → k + (st c - sf c).toNat + 1 = K (c + 1) → l_sq code val (wu 68) (sf c).toNat k (st c - sf c).toNat → (st c - sf c).toNat + 1 ≤ g → (L_W_weigh_67_57_7 w g (k : Int) u).1 = l_hd (l_ev code val le (sf c).toNat (st c - sf c).toNat) ∧ PL_W_weigh_67_57_7 w g (k : Int) u := by
      intro u k g u2 uB u57 u3 hk hq hg
      obtain ⟨u', f', t', at', gg⟩ := w67_bl (w := w) (wu := u) (k := k) u3 (by rw [u57]; exact hle) (by omega) (by rw [uB]; exact hq) b3 (by omega)
      rw [u57] at t' at'
      obtain ⟨m, rfl⟩ : ∃ m, g = (st c - sf c).toNat + (m + 1) := ⟨g - (st c - sf c).toNat - 1, by omega⟩
      obtain ⟨g1, g2⟩ := gg (m + 1)
      have hso := l_ok (val := val) hle (fun i hi => (hq i hi).1) b3
      have ll := l_solen hso
      generalize l_ev code val le (sf c).toNat (st c - sf c).toNat = s at *
      match s, t', at', ll with
      | [x], t', at', _ =>
        obtain ⟨p1, p2, -⟩ := w67_po t' (by simp) at'
        have i2 : (k : Int) + ((st c - sf c).toNat : Int) = ((K (c + 1) - 1 : Nat) : Int) := by omega
        have eB : u' 68 (K (c + 1) - 1) = 20000 := by rw [fr_c f' 68 rfl rfl, uB]; exact b5
        have e2 : u' 67 2 = len := by rw [fr_f f' 67 2 rfl rfl]; exact u2
        have d1 : Int.tdiv 20000 10000 = 2 := by decide
        rw [i2] at g2 g1
        rw [g1]
        constructor
        · simp only [L_W_weigh_67_57_7]
          rw [e2, if_neg (by omega), Int.toNat_natCast, eB, d1, if_neg (by decide), if_neg (by decide), if_pos rfl]
          exact p2
        · apply g2
          simp only [PL_W_weigh_67_57_7]
          rw [e2, Int.toNat_natCast, eB, d1]
          exact ⟨by omega, by omega, fun z => absurd z (by omega), fun _ => ⟨by omega, by omega, by omega, fun z => absurd z (by decide), fun _ => ⟨fun z => absurd z (by decide), fun _ => ⟨fun _ => p1, fun z => absurd rfl z⟩⟩⟩⟩
      | [], _, _, ll => simp at ll
      | _ :: _ :: _, _, _, ll => simp at ll
    simp only [l_res]
    by_cases ct : tf c = sf c
    · rw [if_pos (Or.inl ct)]
      rw [if_pos ct] at b2 b4
      exact sum wu (K c) f h2 rfl h57 h3 (by omega) (by rw [Nat.add_zero] at b2; exact b2) (by omega)
    · obtain ⟨t1, t2, t3⟩ := b6 ct
      rw [if_neg ct] at b2 b4
      obtain ⟨u', f', t', at', gg⟩ := w67_bl (w := w) (k := K c) h3 hle' (by omega) t1 t2 (by omega)
      rw [h57] at t' at'
      have hso := l_ok (val := val) hle (fun i hi => (t1 i hi).1) t2
      have ll := l_solen hso
      obtain ⟨m, rfl⟩ : ∃ m, f = (sf c - tf c).toNat + (m + 1) := ⟨f - (sf c - tf c).toNat - 1, by omega⟩
      obtain ⟨g1, g2⟩ := gg (m + 1)
      generalize l_ev code val le (tf c).toNat (sf c - tf c).toNat = s at *
      match s, t', at', ll with
      | [x], t', at', _ =>
        obtain ⟨p1, p2, p3, p4, p5⟩ := w67_po t' (by simp) at'
        have i2 : (K c : Int) + ((sf c - tf c).toNat : Int) = ((K c + (sf c - tf c).toNat : Nat) : Int) := by omega
        have eB : u' 68 (K c + (sf c - tf c).toNat) = 3 * 10000 + (K (c + 1) : Int) := by rw [fr_c f' 68 rfl rfl, t3]; rfl
        have e2 : u' 67 2 = len := by rw [fr_f f' 67 2 rfl rfl]; exact h2
        obtain ⟨d1, d2⟩ := l_dm (s := 3) (x := (K (c + 1) : Int)) (by omega) (by omega)
        have f2 := fr_tr f' p5
        have v2 : (F_W_pop_67 u').2 67 2 = len := by rw [fr_f f2 67 2 rfl rfl]; exact h2
        have vB : (F_W_pop_67 u').2 68 = wu 68 := fr_c f2 68 rfl rfl
        have v57 : (F_W_pop_67 u').2 57 = le := by rw [fr_c f2 57 rfl rfl]; exact h57
        have mx : F_J_max_7cf53 (F_W_pop_67 u').2 ((K c + (sf c - tf c).toNat : Nat) : Int) ((K (c + 1) : Int) - 1) + 1 = (K (c + 1) : Int) := by
          unfold F_J_max_7cf53
          split <;> omega
        rw [i2] at g2 g1
        rw [g1]
        have hx : -1000000 ≤ x ∧ x ≤ 1000000 := hso.1
        simp only [L_W_weigh_67_57_7]
        rw [e2, if_neg (by omega), Int.toNat_natCast, eB, d1, d2, p2, if_neg (by decide), if_neg (by decide), if_neg (by decide), if_pos rfl]
        by_cases cx : x = 0
        · obtain ⟨k1, k2⟩ := ih (c + 1) (F_W_pop_67 u').2 m (by omega) v2 (by rw [vB]; exact hB) v57 p3 (by omega)
          rw [if_pos cx, mx, if_neg (by
            rintro (z | z)
            · exact ct z
            · exact z cx)]
          refine ⟨k1, g2 ?_⟩
          simp only [PL_W_weigh_67_57_7]
          rw [e2, Int.toNat_natCast, eB, d1, d2, p2, mx]
          exact ⟨by omega, by omega, fun z => absurd z (by omega), fun _ => ⟨by omega, by omega, by omega, fun z => absurd z (by decide), fun _ => ⟨fun z => absurd z (by decide), fun _ => ⟨fun z => absurd z (by decide), fun _ => ⟨fun _ => ⟨p1, by omega, fun _ => ⟨⟨by omega, by omega⟩, k2⟩, fun z => absurd cx z⟩, fun z => absurd rfl z⟩⟩⟩⟩⟩
        · obtain ⟨k1, k2⟩ := sum (F_W_pop_67 u').2 (K c + (sf c - tf c).toNat + 1) m v2 vB v57 p3 (by omega) (by rw [Nat.add_assoc]; exact b2) (by omega)
          rw [if_neg cx, if_pos (show tf c = sf c ∨ l_hd [x] ≠ 0 from Or.inr cx)]
          rw [show ((K c + (sf c - tf c).toNat + 1 : Nat) : Int) = ((K c + (sf c - tf c).toNat : Nat) : Int) + 1 by omega] at k1 k2
          refine ⟨k1, g2 ?_⟩
          simp only [PL_W_weigh_67_57_7]
          rw [e2, Int.toNat_natCast, eB, d1, d2, p2]
          exact ⟨by omega, by omega, fun z => absurd z (by omega), fun _ => ⟨by omega, by omega, by omega, fun z => absurd z (by decide), fun _ => ⟨fun z => absurd z (by decide), fun _ => ⟨fun z => absurd z (by decide), fun _ => ⟨fun _ => ⟨p1, by omega, fun z => absurd z cx, fun _ => k2⟩, fun z => absurd rfl z⟩⟩⟩⟩⟩
      | [], _, _, ll => simp at ll
      | _ :: _ :: _, _, _, ll => simp at ll
theorem w67_all {w : z_Wd} {code val tf sf st : Nat → Int} {ncl : Int} (h : l_one code val tf sf st ncl (w 68) (w 67 2)) (hle : ∀ i, i < 6 → -1000000 ≤ w 57 i ∧ w 57 i ≤ 1000000) : (F_W_weigh_67_57 w).1 = l_res code val (w 57) tf sf st ncl.toNat 0 ∧ P_W_weigh_67_57 w ∧ z_fr [69] [(67, 3)] w (F_W_weigh_67_57 w).2 := by
  have o1 := h.1
  have o2 := h.2.1
  obtain ⟨K, K0, g⟩ := w67_law (w := w) h (w 57) hle
  obtain ⟨k1, k2⟩ := g ncl.toNat 0 (z_up w 67 3 0) 300 (by omega) (z_up_ne (by decide)) (z_up_other (by decide)) (z_up_other (by decide)) z_up_at (by omega)
  rw [K0] at k1 k2
  exact ⟨k1, k2, fr_F_W_weigh_67_57⟩
