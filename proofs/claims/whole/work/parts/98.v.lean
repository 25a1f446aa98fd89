/-! the law's units -/
set_option maxHeartbeats 2000000 in
theorem q_unit {k m m' : Nat} (hk : k ≤ 6) (hm : 3 * k + 3 ≤ m) (hm' : 3 * k + 3 ≤ m' + 1) (hu : ∀ j, k = j + 1 → q_R true (4 * j + 4) (q_B j + 4) j (F_MP (m + 1) 4) (P_MP (m + 1) 4) (fun v => F_LR m' 5 v (6 - (j : Int)) 0) (fun v => P_LR m' 5 v (6 - (j : Int)) 0)) (hc : ∀ j, k = j + 1 → q_R true (4 * j + 6) (q_B j + 6) j (F_MP (m + 1) 7) (P_MP (m + 1) 7) (fun v => F_LR m' 3 v (6 - (j : Int)) 0) (fun v => P_LR m' 3 v (6 - (j : Int)) 0)) : q_R true (4 * k + 4) (q_B k + 4) k (F_MP (m + 1 + 1) 4) (P_MP (m + 1 + 1) 4) (fun v => F_LR (m' + 1 + 1) 5 v (6 - (k : Int)) 0) (fun v => P_LR (m' + 1 + 1) 5 v (6 - (k : Int)) 0) := by
  intro w v hS
  obtain ⟨ht, hq, hat, hp⟩ := q_Sat hS
  obtain ⟨l1, l2⟩ := q_Sl hS
  obtain ⟨z1, z2⟩ := q_S0 hS
  have hx := t_mcr hat.1
  have hB : 241 ≤ q_B k ∧ q_B k ≤ 289 := by unfold q_B; omega
  have s4 : w 0 4 = -1 := hS.2.1
  obtain ⟨h1, h2, h3, h4, h5, h6, h7, h8⟩ := id hS
  dsimp only
  rw [F_MP, P_MP, F_LR, P_LR, l2]
  dsimp only
  rw [if_pos rfl]
  have e6 : ∀ (u : z_Wd) (b y : Int), F_LR (m' + 1) 6 u b y = (if y = 40 then if (F_LR m' 3 (F_LR_step u) b 0).1 = 0 then (0, (F_LR m' 3 (F_LR_step u) b 0).2) else if (F_LR_take ((F_LR m' 3 (F_LR_step u) b 0).2) 41).1 = 0 then (0, (F_LR_take ((F_LR m' 3 (F_LR_step u) b 0).2) 41).2) else (1, (F_LR_take ((F_LR m' 3 (F_LR_step u) b 0).2) 41).2) else if (F_LR m' 5 (F_LR_step u) b 0).1 = 0 then (0, (F_LR m' 5 (F_LR_step u) b 0).2) else (1, F_W_add ((F_LR m' 5 (F_LR_step u) b 0).2) 33 0)) := fun u b y => by rw [F_LR]
  by_cases x3 : F_T_at v (v 37 2) = 33
  · have em : t_mc (F_T_at v (v 37 2)) = 33 := by
      unfold t_mc
      rw [if_neg (by omega), x3]
    rw [if_pos em, if_pos x3]
    rcases Nat.eq_zero_or_pos k with k0 | k0
    · subst k0
      obtain ⟨o1, o2, o3⟩ := q_open0 (B := q_B 0 + 4) hS (by omega)
      rw [if_neg (by omega), if_pos (by omega)]
      exact ⟨⟨l1, by omega, fun _ => ⟨o1, by omega, fun z => by omega, fun _ => trivial⟩, fun z => absurd em z⟩, ⟨by omega, fun _ => ⟨hp, by omega, fun _ => ⟨by omega, fun _ => trivial, fun z => by omega⟩, fun z => absurd x3 z⟩, fun z => absurd rfl z⟩, Or.inr ⟨rfl, o3⟩⟩
    · obtain ⟨j, ej⟩ : ∃ j, k = j + 1 := ⟨k - 1, by omega⟩
      subst ej
      obtain ⟨o1, o2, o3, o4, o5, o6⟩ := q_open (by omega) hS (by omega)
      have ea : 6 - ((j + 1 : Nat) : Int) + 1 = 6 - (j : Int) := by omega
      have e7 : F_LR (m' + 1) 6 v (6 - (j : Int)) (F_T_at v (v 37 2)) = (if (F_LR m' 5 (F_LR_step v) (6 - (j : Int)) 0).1 = 0 then (0, (F_LR m' 5 (F_LR_step v) (6 - (j : Int)) 0).2) else (1, F_W_add ((F_LR m' 5 (F_LR_step v) (6 - (j : Int)) 0).2) 33 0)) := by
        rw [x3, e6, if_neg (by decide)]
      rw [if_pos o2, if_neg (by omega), ea, e7]
      obtain ⟨r1, r2, r3⟩ := hu j rfl _ _ o4
      dsimp only at r2 r3
      have hB' : q_B j + 8 = q_B (j + 1) := by unfold q_B; omega
      have pn : P_LR_step v → P_LR m' 5 (F_LR_step v) (6 - (j : Int)) 0 → (F_LR m' 5 (F_LR_step v) (6 - (j : Int)) 0).1 = 0 ∨ (F_LR m' 5 (F_LR_step v) (6 - (j : Int)) 0).1 = 1 → (¬ ((F_LR m' 5 (F_LR_step v) (6 - (j : Int)) 0).1 = 0) → P_W_add ((F_LR m' 5 (F_LR_step v) (6 - (j : Int)) 0).2) 33 0) → P_LR (m' + 1) 6 v (6 - (j : Int)) (F_T_at v (v 37 2)) := fun a b c d => by
        rw [x3, P_LR]
        exact ⟨a, by omega, fun z => absurd z (by decide), fun _ => ⟨b, by omega, fun _ => trivial, d⟩⟩
      have pn1 := pn o3 r2 (q_Or r3)
      clear pn
      generalize F_M_opens (z_up w 0 3 (v 37 2)) = w1 at *
      have v138 : F_LR_step v 38 = v 38 := fr_c o5.2.1 38 rfl rfl
      generalize F_LR_step v = v1 at *
      generalize F_MP (m + 1) 4 w1 = w2 at *
      generalize F_LR m' 5 v1 (6 - (j : Int)) 0 = r at *
      have Lw : w1 0 14 = w 0 14 := fr_f o5.1 0 14 rfl rfl
      rcases r3 with ⟨y1, ⟨n9, y2⟩, y3⟩ | ⟨y1, y2⟩
      · have yo : ¬ r.1 = 0 := by omega
        rw [if_neg yo]
        obtain ⟨f3, p3, c4, c38, c37, -⟩ := id y2
        rw [v138] at c38
        obtain ⟨u1, u2, u3, u4, u5, u6, u7, u8, u9, u10⟩ := q_Sput (c := 9) (s := 33) y3 (by omega)
        have L3 : w2 0 14 = w 0 14 := by rw [fr_f f3.1 0 14 rfl rfl, Lw]
        rw [L3] at u5 u6 u7
        have G := q_app (b' := true) (c := 9) h7.1 (by omega) (q_Gp o5 y2) u4 u5 u6 u7 u8 u9 (by rw [u10]; omega) (fun s => by simp [l_ty]) ⟨by decide, fun z => absurd z (by decide), fun z => absurd z (by decide), fun _ => rfl⟩
        obtain ⟨t1, t2⟩ := q_S5 u3
        dsimp only
        rw [if_neg (by decide)]
        exact ⟨⟨l1, by omega, fun _ => ⟨o1, by omega, fun _ => ⟨r1, u1⟩, fun z => absurd o2 z⟩, fun z => absurd em z⟩, ⟨by omega, fun _ => ⟨hp, by omega, fun _ => ⟨by omega, fun _ => trivial, fun _ => ⟨pn1 (fun _ => u2), by decide⟩⟩, fun z => absurd x3 z⟩, fun z => absurd rfl z⟩, Or.inl ⟨rfl, ⟨n9 + 1, q_Gn (q_Gq G t2) (by omega)⟩, t1⟩⟩
      · rw [if_pos y1]
        obtain ⟨u1, u2, u3⟩ := q_Fput (c := 9) (x := 0) h6 (q_Ff (q_mvf o5) y2) (by omega)
        dsimp only
        rw [if_pos rfl]
        refine ⟨⟨l1, by omega, fun _ => ⟨o1, by omega, fun _ => ⟨r1, u1⟩, fun z => absurd o2 z⟩, fun z => absurd em z⟩, ⟨by omega, fun _ => ⟨hp, by omega, fun _ => ⟨by omega, fun _ => trivial, fun _ => ⟨pn1 (fun z => absurd y1 z), by decide⟩⟩, fun z => absurd x3 z⟩, fun z => absurd rfl z⟩, Or.inr ⟨rfl, q_Fq u2 ?_ ?_ ?_⟩⟩
        · exact ⟨fr_uf rfl fr_rf, fr_rf, fun i _ => by rw [z_up_other (by decide)], fun i _ => by rw [z_up_other (by decide), z_up_other (by decide)]; exact ⟨rfl, rfl⟩⟩
        · rw [z_up_ne (by decide)]
        · rw [z_up_other (by decide)]
          have := u2.2.2.2
          omega
  · have em3 : ¬ t_mc (F_T_at v (v 37 2)) = 33 := by
      unfold t_mc
      by_cases z : F_T_at v (v 37 2) = 0
      · rw [if_pos z]; decide
      · rw [if_neg z]; exact x3
    rw [if_neg em3, if_neg x3]
    by_cases x4 : F_T_at v (v 37 2) = 40
    · have em : t_mc (F_T_at v (v 37 2)) = 40 := by
        unfold t_mc
        rw [if_neg (by omega), x4]
      rw [if_pos em, if_pos x4]
      rcases Nat.eq_zero_or_pos k with k0 | k0
      · subst k0
        obtain ⟨o1, o2, o3⟩ := q_open0 (B := q_B 0 + 4) hS (by omega)
        rw [if_neg (by omega), if_pos (by omega)]
        exact ⟨⟨l1, by omega, fun z => absurd z em3, fun _ => ⟨fun _ => ⟨o1, by omega, fun z => by omega, fun _ => trivial⟩, fun z => absurd em z⟩⟩, ⟨by omega, fun _ => ⟨hp, by omega, fun z => absurd z x3, fun _ => ⟨fun _ => ⟨by omega, fun _ => trivial, fun z => by omega⟩, fun z => absurd x4 z⟩⟩, fun z => absurd rfl z⟩, Or.inr ⟨rfl, o3⟩⟩
      · obtain ⟨j, ej⟩ : ∃ j, k = j + 1 := ⟨k - 1, by omega⟩
        subst ej
        obtain ⟨o1, o2, o3, o4, o5, o6⟩ := q_open (by omega) hS (by omega)
        have ea : 6 - ((j + 1 : Nat) : Int) + 1 = 6 - (j : Int) := by omega
        have e7 : F_LR (m' + 1) 6 v (6 - (j : Int)) (F_T_at v (v 37 2)) = (if (F_LR m' 3 (F_LR_step v) (6 - (j : Int)) 0).1 = 0 then (0, (F_LR m' 3 (F_LR_step v) (6 - (j : Int)) 0).2) else if (F_LR_take ((F_LR m' 3 (F_LR_step v) (6 - (j : Int)) 0).2) 41).1 = 0 then (0, (F_LR_take ((F_LR m' 3 (F_LR_step v) (6 - (j : Int)) 0).2) 41).2) else (1, (F_LR_take ((F_LR m' 3 (F_LR_step v) (6 - (j : Int)) 0).2) 41).2)) := by
          rw [x4, e6, if_pos rfl]
        rw [if_pos o2, if_neg (by omega), ea, e7]
        obtain ⟨r1, r2, r3⟩ := hc j rfl _ _ o4
        dsimp only at r2 r3
        have hB' : q_B j + 8 = q_B (j + 1) := by unfold q_B; omega
        have pn : P_LR_step v → P_LR m' 3 (F_LR_step v) (6 - (j : Int)) 0 → (F_LR m' 3 (F_LR_step v) (6 - (j : Int)) 0).1 = 0 ∨ (F_LR m' 3 (F_LR_step v) (6 - (j : Int)) 0).1 = 1 → (¬ ((F_LR m' 3 (F_LR_step v) (6 - (j : Int)) 0).1 = 0) → P_LR_take ((F_LR m' 3 (F_LR_step v) (6 - (j : Int)) 0).2) 41 ∧ (-2147483648 ≤ (F_LR_take ((F_LR m' 3 (F_LR_step v) (6 - (j : Int)) 0).2) 41).1 ∧ (F_LR_take ((F_LR m' 3 (F_LR_step v) (6 - (j : Int)) 0).2) 41).1 < 2147483648)) → P_LR (m' + 1) 6 v (6 - (j : Int)) (F_T_at v (v 37 2)) := fun a b c d => by
          rw [x4, P_LR]
          exact ⟨a, by omega, fun _ => ⟨b, by omega, fun _ => trivial, d⟩, fun z => absurd rfl z⟩
        have pn1 := pn o3 r2 (q_Or r3)
        clear pn
        generalize F_M_opens (z_up w 0 3 (v 37 2)) = w1 at *
        generalize F_LR_step v = v1 at *
        generalize F_MP (m + 1) 7 w1 = w2 at *
        generalize F_LR m' 3 v1 (6 - (j : Int)) 0 = r at *
        rcases r3 with ⟨y1, ⟨n9, y2⟩, y3⟩ | ⟨y1, y2⟩
        · have yo : ¬ r.1 = 0 := by omega
          rw [if_neg yo]
          obtain ⟨t1, t2, t3⟩ := q_close (B := q_B (j + 1) + 4) (c := 41) (by decide) (q_Gn (nd' := 4 * (j + 1) + 4) (q_Gp o5 y2) (by omega)) y3 (by omega)
          have tr := q_Or t3
          have pn2 := pn1 (fun _ => ⟨t2, by omega⟩)
          rcases t3 with t3 | t3
          · rw [if_neg (show ¬ (F_LR_take r.2 41).1 = 0 by omega)]
            dsimp only
            rw [if_neg (by decide)]
            exact ⟨⟨l1, by omega, fun z => absurd z em3, fun _ => ⟨fun _ => ⟨o1, by omega, fun _ => ⟨r1, t1⟩, fun z => absurd o2 z⟩, fun z => absurd em z⟩⟩, ⟨by omega, fun _ => ⟨hp, by omega, fun z => absurd z x3, fun _ => ⟨fun _ => ⟨by omega, fun _ => trivial, fun _ => ⟨pn2, by decide⟩⟩, fun z => absurd x4 z⟩⟩, fun z => absurd rfl z⟩, Or.inl ⟨rfl, t3.2⟩⟩
          · rw [if_pos t3.1]
            dsimp only
            rw [if_pos rfl]
            exact ⟨⟨l1, by omega, fun z => absurd z em3, fun _ => ⟨fun _ => ⟨o1, by omega, fun _ => ⟨r1, t1⟩, fun z => absurd o2 z⟩, fun z => absurd em z⟩⟩, ⟨by omega, fun _ => ⟨hp, by omega, fun z => absurd z x3, fun _ => ⟨fun _ => ⟨by omega, fun _ => trivial, fun _ => ⟨pn2, by decide⟩⟩, fun z => absurd x4 z⟩⟩, fun z => absurd rfl z⟩, Or.inr ⟨rfl, t3.2⟩⟩
        · rw [if_pos y1]
          obtain ⟨t1, t2⟩ := q_closeF (c := 41) (q_Ff (q_mvf o5) y2)
          dsimp only
          rw [if_pos rfl]
          exact ⟨⟨l1, by omega, fun z => absurd z em3, fun _ => ⟨fun _ => ⟨o1, by omega, fun _ => ⟨r1, t1⟩, fun z => absurd o2 z⟩, fun z => absurd em z⟩⟩, ⟨by omega, fun _ => ⟨hp, by omega, fun z => absurd z x3, fun _ => ⟨fun _ => ⟨by omega, fun _ => trivial, fun _ => ⟨pn1 (fun z => absurd y1 z), by decide⟩⟩, fun z => absurd x4 z⟩⟩, fun z => absurd rfl z⟩, Or.inr ⟨rfl, q_FB t2 (by omega)⟩⟩
    · have em4 : ¬ t_mc (F_T_at v (v 37 2)) = 40 := by
        unfold t_mc
        by_cases z : F_T_at v (v 37 2) = 0
        · rw [if_pos z]; decide
        · rw [if_neg z]; exact x4
      rw [if_neg em4, if_neg x4, if_pos rfl]
      obtain ⟨r1, r2, r3⟩ := q_sums k (m + 1) (m' + 1) hk (by omega) (by omega) _ _ z1
      dsimp only at r2 r3
      have rr := q_Or r3
      rcases r3 with ⟨y1, ⟨n9, y2⟩, y3⟩ | ⟨y1, y2⟩
      · have yo : ¬ (F_LR (m' + 1) 0 v (6 - (k : Int)) 0).1 = 0 := by omega
        have y4 : F_MP (m + 1) 2 (z_up w 0 3 (v 37 2)) 0 4 = -1 := y3.2.1
        rw [if_neg yo, if_pos y4]
        obtain ⟨c1, c2, c3⟩ := q_cmp (nd := 4 * k + 4) (q_sums k m (m' + 1) hk (by omega) (by omega)) h6 h7.1 (by omega) (q_Gn (q_Gp z2 y2) (by omega)) y3 (by omega) (by omega)
        have pa := (q_Sat y3).2.2.2
        refine ⟨⟨l1, by omega, fun z => absurd z em3, fun _ => ⟨fun z => absurd z em4, fun _ => ⟨r1, by omega, fun _ => c1, fun z => absurd y4 z⟩⟩⟩, ⟨by omega, fun _ => ⟨hp, by omega, fun z => absurd z x3, fun _ => ⟨fun z => absurd z x4, fun _ => ⟨fun _ => ⟨r2, by omega, fun z => absurd z yo, fun _ => ⟨pa, c2⟩⟩, fun z => absurd rfl z⟩⟩⟩, fun z => absurd rfl z⟩, ?_⟩
        rcases c3 with c3 | c3
        · exact Or.inl c3
        · exact Or.inr ⟨c3.1, q_FB c3.2 (by omega)⟩
      · have e4 := y2.2.1
        have er := y2.2.2.1
        have y4 : ¬ F_MP (m + 1) 2 (z_up w 0 3 (v 37 2)) 0 4 = -1 := by omega
        rw [if_pos y1, if_neg y4]
        exact ⟨⟨l1, by omega, fun z => absurd z em3, fun _ => ⟨fun z => absurd z em4, fun _ => ⟨r1, by omega, fun z => absurd z y4, fun _ => trivial⟩⟩⟩, ⟨by omega, fun _ => ⟨hp, by omega, fun z => absurd z x3, fun _ => ⟨fun z => absurd z x4, fun _ => ⟨fun _ => ⟨r2, by omega, fun _ => trivial, fun z => absurd y1 z⟩, fun z => absurd rfl z⟩⟩⟩, fun z => absurd rfl z⟩, Or.inr ⟨rfl, q_FB (q_Ff (q_mvf z2) y2) (by omega)⟩⟩
