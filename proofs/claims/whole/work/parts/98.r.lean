/-! the law's atoms: both sides -/
/-- a letter -/
theorem q_letter {k : Nat} {w v : z_Wd} (hS : q_S k w v) {l : Int} (hl : 0 ≤ l ∧ l ≤ 5) (hx : F_T_at v (v 37 2) ≠ 0) : P_M_put (z_up w 0 3 (v 37 2 + 1)) 1 l ∧ P_W_add v 1 l ∧ P_LR_step (F_W_add v 1 l) ∧ q_G false 1 w v (F_M_put (z_up w 0 3 (v 37 2 + 1)) 1 l) (F_LR_step (F_W_add v 1 l)) 1 ∧ q_S k (F_M_put (z_up w 0 3 (v 37 2 + 1)) 1 l) (F_LR_step (F_W_add v 1 l)) := by
  obtain ⟨ht, hq, hat, hp⟩ := q_Sat hS
  obtain ⟨h1, h2, h3, h4, h5, h6, h7, h8⟩ := id hS
  have lt : v 37 2 < v 28 1 := by omega
  have x14 : (z_up w 0 3 (v 37 2 + 1)) 0 14 = w 0 14 := z_up_ne (by decide)
  have x4 : (z_up w 0 3 (v 37 2 + 1)) 4 = w 4 := z_up_other (by decide)
  have x2 : (z_up w 0 3 (v 37 2 + 1)) 2 = w 2 := z_up_other (by decide)
  have x3 : (z_up w 0 3 (v 37 2 + 1)) 3 = w 3 := z_up_other (by decide)
  obtain ⟨u1, u2, u3, u4, u5, u6⟩ := q_put (w := z_up w 0 3 (v 37 2 + 1)) (v := v) (c := 1) (x := l) (by rw [x14]; exact h6) (by rw [x14, x4]; omega)
  obtain ⟨a1, a2, a3, a4⟩ := q_add (w := w) (v := v) (s := 1) (x := l) (by omega)
  have fA := a1.2.1
  have b2 := t_bbr (v := v) (p := v 37 2 + 1) (by omega)
  have a28 : F_W_add v 1 l 28 1 = v 28 1 := fr_f fA 28 1 rfl rfl
  have a29 : F_W_add v 1 l 29 = v 29 := fr_c fA 29 rfl rfl
  have eS : F_LR_step (F_W_add v 1 l) = z_up (F_W_add v 1 l) 37 2 (F_T_behindBlanks v (v 37 2 + 1)) := by
    unfold F_LR_step
    rw [a4, x_bb a28 a29 (by omega)]
  have pS : P_LR_step (F_W_add v 1 l) := by
    unfold P_LR_step
    rw [a4]
    exact t_pbb (x_tok ht a28 a29) (by omega)
  rw [eS]
  have f0 : q_fr w v (z_up w 0 3 (v 37 2 + 1)) v := ⟨fr_uf rfl fr_rf, fr_rf, fun j _ => by rw [z_up_other (by decide)], fun j _ => by rw [z_up_other (by decide), z_up_other (by decide)]; exact ⟨rfl, rfl⟩⟩
  have fD : z_fr [39] [(37, 2), (38, 2)] v (z_up (F_W_add v 1 l) 37 2 (F_T_behindBlanks v (v 37 2 + 1))) := fr_uf rfl fA
  have fW : q_fr w v (F_M_put (z_up w 0 3 (v 37 2 + 1)) 1 l) (z_up (F_W_add v 1 l) 37 2 (F_T_behindBlanks v (v 37 2 + 1))) := ⟨(q_frT f0 u2).1, fD, (q_frT f0 u2).2.2⟩
  rw [x14, x4] at u3
  rw [x14, x4, x2] at u4
  rw [x14, x4, x3] at u5
  have w03 : F_M_put (z_up w 0 3 (v 37 2 + 1)) 1 l 0 3 = v 37 2 + 1 := by rw [u6, z_up_at]
  have w0 : ∀ j, j ≠ 3 → F_M_put (z_up w 0 3 (v 37 2 + 1)) 1 l 0 j = w 0 j := fun j hj => by rw [u6, z_up_ne hj]
  have v28 : z_up (F_W_add v 1 l) 37 2 (F_T_behindBlanks v (v 37 2 + 1)) 28 1 = v 28 1 := fr_f fD 28 1 rfl rfl
  have v29 : z_up (F_W_add v 1 l) 37 2 (F_T_behindBlanks v (v 37 2 + 1)) 29 = v 29 := fr_c fD 29 rfl rfl
  refine ⟨u1, ⟨by omega, fun _ => trivial, fun _ => by omega⟩, pS, ?_, ?_⟩
  · refine q_one h6 (by omega) (by omega) (c := 1) (x := l) ⟨by omega, fun z => by omega, fun _ => hl, fun z => by omega⟩ (Or.inr rfl) fW u3 u4 u5 ?_ (fun i => ?_) ?_
    · rw [z_up_other (by decide), a2]
    · rw [z_up_other (by decide), a3]
      rfl
    · rw [z_up_at]
      omega
  · refine ⟨t_tac h1 (w0 2 (by decide)) (fr_c fW.1 1 rfl rfl) v28 v29, by rw [w0 4 (by decide)]; exact h2, by rw [w03, v28]; omega, ?_, by rw [w0 5 (by decide)]; exact h5, by rw [w0 14 (by decide)]; exact h6, ?_, ?_⟩
    · rw [w03, z_up_at, x_bb v28 v29 (by omega)]
    · rw [w0 14 (by decide), u3, z_up_other (by decide), a2]
      omega
    · rw [z_up_other (by decide), a2, z_up_at]
      omega
set_option maxHeartbeats 2000000 in
theorem q_atom {k n n' : Nat} (hs : ∀ j, k = j + 1 → q_R false (2 * j + 3) (q_B j + 2) j (F_MP n 2) (P_MP n 2) (fun v => F_LR n' 0 v (6 - (j : Int)) 0) (fun v => P_LR n' 0 v (6 - (j : Int)) 0)) (hk : k ≤ 6) : q_R false (2 * k + 1) (q_B k) k (F_MP (n + 1) 0) (P_MP (n + 1) 0) (fun v => F_LR (n' + 1) 2 v (6 - (k : Int)) 0) (fun v => P_LR (n' + 1) 2 v (6 - (k : Int)) 0) := by
  intro w v hS
  obtain ⟨ht, hq, hat, hp⟩ := q_Sat hS
  obtain ⟨l1, l2⟩ := q_Sl hS
  have hx := t_mcr hat.1
  have hB : 241 ≤ q_B k := by unfold q_B; omega
  obtain ⟨e1, e2, e3, e4⟩ := q_let (w := z_up w 0 3 (v 37 2)) (v := v) hat.1
  have s4 : w 0 4 = -1 := hS.2.1
  dsimp only
  rw [F_MP, P_MP, F_LR, P_LR, l2]
  dsimp only
  rw [z_up_at, z_twice]
  have er : -1 ≤ F_LR_letterOf v (F_T_at v (v 37 2)) ∧ F_LR_letterOf v (F_T_at v (v 37 2)) ≤ 5 := by
    rcases e4 with z | z <;> omega
  by_cases dg : t_dg (F_T_at v (v 37 2)) = true
  · -- a number
    have d9 := t_dgy.mp dg
    have em : t_mc (F_T_at v (v 37 2)) = F_T_at v (v 37 2) := by
      unfold t_mc
      rw [if_neg (by omega)]
    have i1 : ¬ F_M_isDigit (z_up w 0 3 (v 37 2)) (t_mc (F_T_at v (v 37 2))) = 0 := by
      unfold F_M_isDigit
      rw [em, if_neg (by omega), if_neg (by omega)]
      decide
    have le : F_LR_letterOf v (F_T_at v (v 37 2)) = -1 := by
      rcases e4 with z | z
      · exact z
      · rw [dg] at z
        exact absurd z.2.2.1 (by decide)
    obtain ⟨g1, g2, g3, g4⟩ := q_num hS dg
    rw [if_neg i1, if_neg (show ¬ F_T_at v (v 37 2) = 91 by omega), if_pos le]
    refine ⟨⟨l1, ⟨by omega, by omega⟩, fun z => absurd z i1, fun _ => ⟨g1, g2⟩⟩, ⟨hp, by omega, fun z => by omega, fun _ => ⟨e2, by omega, fun _ => ⟨g3, ?_⟩, fun z => absurd le z⟩⟩, ?_⟩
    · rcases g4 with z | z
      · exact Or.inr z.1
      · exact Or.inl z.1
    · rcases g4 with ⟨z1, z2, z3⟩ | ⟨z1, z2⟩
      · exact Or.inl ⟨z1, ⟨1, q_Gn z2 (by omega)⟩, z3⟩
      · exact Or.inr ⟨z1, q_FB z2 hB⟩
  · have i0 : F_M_isDigit (z_up w 0 3 (v 37 2)) (t_mc (F_T_at v (v 37 2))) = 0 := by
      have d9 : ¬ (48 ≤ F_T_at v (v 37 2) ∧ F_T_at v (v 37 2) ≤ 57) := fun z => dg (t_dgy.mpr z)
      unfold F_M_isDigit t_mc
      by_cases z : F_T_at v (v 37 2) = 0
      · rw [if_pos z, if_pos (by decide)]
      · rw [if_neg z]
        by_cases c : F_T_at v (v 37 2) < 48
        · rw [if_pos c]
        · rw [if_neg c, if_pos (by omega)]
    have pD : P_M_isDigit (z_up w 0 3 (v 37 2)) (t_mc (F_T_at v (v 37 2))) := ⟨by omega, by omega⟩
    have lM : F_M_letterOf (z_up w 0 3 (v 37 2 + 1)) (t_mc (F_T_at v (v 37 2))) = F_LR_letterOf v (F_T_at v (v 37 2)) := e1
    rw [if_pos i0, e1, lM]
    by_cases le : F_LR_letterOf v (F_T_at v (v 37 2)) = -1
    · rw [if_pos le, if_pos le]
      by_cases x9 : F_T_at v (v 37 2) = 91
      · have em : t_mc (F_T_at v (v 37 2)) = 91 := by
          unfold t_mc
          rw [if_neg (by omega), x9]
        rw [if_pos em, if_pos x9]
        rcases Nat.eq_zero_or_pos k with k0 | k0
        · subst k0
          obtain ⟨o1, o2, o3⟩ := q_open0 hS hB
          rw [if_neg (by omega), if_neg (by omega)]
          exact ⟨⟨l1, pD, fun _ => ⟨e3, by omega, fun _ => ⟨by omega, fun _ => ⟨o1, by omega, fun z => by omega, fun _ => trivial⟩, fun z => absurd em z⟩, fun z => absurd le z⟩, fun z => absurd i0 z⟩, ⟨hp, by omega, fun _ => ⟨by omega, fun z => by omega, fun _ => trivial⟩, fun z => absurd x9 z⟩, Or.inr ⟨rfl, o3⟩⟩
        · obtain ⟨j, ej⟩ : ∃ j, k = j + 1 := ⟨k - 1, by omega⟩
          subst ej
          obtain ⟨o1, o2, o3, o4, o5, o6⟩ := q_open (by omega) hS (by omega)
          rw [if_pos o2, if_pos (by omega)]
          have ea : 6 - ((j + 1 : Nat) : Int) + 1 = 6 - (j : Int) := by omega
          rw [ea]
          obtain ⟨r1, r2, r3⟩ := hs j rfl _ _ o4
          dsimp only at r2 r3
          have hB' : q_B j + 2 ≤ q_B (j + 1) := by unfold q_B; omega
          generalize F_M_opens (z_up w 0 3 (v 37 2)) = w1 at *
          generalize F_LR_step v = v1 at *
          generalize F_MP n 2 w1 = w2 at *
          generalize F_LR n' 0 v1 (6 - (j : Int)) 0 = r at *
          rcases r3 with ⟨y1, ⟨n9, y2⟩, y3⟩ | ⟨y1, y2⟩
          · have yo : ¬ r.1 = 0 := by omega
            rw [if_neg yo]
            obtain ⟨t1, t2, t3⟩ := q_close (c := 93) (by decide) (q_Gn (nd' := 2 * (j + 1) + 1) (q_Gp o5 y2) (by omega)) y3 hB
            have tr := q_Or t3
            refine ⟨⟨l1, pD, fun _ => ⟨e3, by omega, fun _ => ⟨by omega, fun _ => ⟨o1, by omega, fun _ => ⟨r1, t1⟩, fun z => absurd o2 z⟩, fun z => absurd em z⟩, fun z => absurd le z⟩, fun z => absurd i0 z⟩, ⟨hp, by omega, fun _ => ⟨by omega, fun _ => ⟨o3, r2, by omega, fun z => absurd z yo, fun _ => ⟨t2, by omega⟩⟩, fun z => by omega⟩, fun z => absurd x9 z⟩, ?_⟩
            rcases t3 with t3 | t3
            · rw [if_neg (by omega)]
              exact Or.inl ⟨rfl, t3.2⟩
            · rw [if_pos t3.1]
              exact Or.inr ⟨rfl, t3.2⟩
          · rw [if_pos y1]
            obtain ⟨t1, t2⟩ := q_closeF (c := 93) (q_Ff (q_mvf o5) y2)
            exact ⟨⟨l1, pD, fun _ => ⟨e3, by omega, fun _ => ⟨by omega, fun _ => ⟨o1, by omega, fun _ => ⟨r1, t1⟩, fun z => absurd o2 z⟩, fun z => absurd em z⟩, fun z => absurd le z⟩, fun z => absurd i0 z⟩, ⟨hp, by omega, fun _ => ⟨by omega, fun _ => ⟨o3, r2, by omega, fun _ => trivial, fun z => absurd y1 z⟩, fun z => by omega⟩, fun z => absurd x9 z⟩, Or.inr ⟨rfl, q_FB t2 hB'⟩⟩
      · have em : ¬ t_mc (F_T_at v (v 37 2)) = 91 := by
          unfold t_mc
          by_cases z : F_T_at v (v 37 2) = 0
          · rw [if_pos z]; decide
          · rw [if_neg z]; exact x9
        rw [if_neg em, if_neg x9]
        obtain ⟨d, y1, y2, y3, y4⟩ := t_digN (v := v) (q := v 37 2) (n := 5)
        have d0 : d = 0 := by
          rcases Nat.eq_zero_or_pos d with z | z
          · exact z
          · have := y3 0 z
            rw [show v 37 2 + ((0 : Nat) : Int) = v 37 2 by omega] at this
            exact absurd this dg
        have s8 := hS.2.2.2.2.2.2
        obtain ⟨g1, g2⟩ : P_LR_readNumber v ∧ F_LR_readNumber v = (0, v) := by
          have e5 : F_T_digitsFrom v (v 37 2) 5 = 0 := by rw [show (5 : Int) = ((5 : Nat) : Int) from rfl, y1, d0]; rfl
          unfold P_LR_readNumber F_LR_readNumber
          rw [e5]
          refine ⟨⟨t_pdig ht (by omega) (by omega), by omega, fun _ => trivial, fun z => absurd rfl z⟩, ?_⟩
          rw [if_pos rfl]
        rw [g2]
        refine ⟨⟨l1, pD, fun _ => ⟨e3, by omega, fun _ => ⟨by omega, fun z => absurd z em, fun _ => ?_⟩, fun z => absurd le z⟩, fun z => absurd i0 z⟩, ⟨hp, by omega, fun z => absurd z x9, fun _ => ⟨e2, by omega, fun _ => ⟨g1, Or.inl rfl⟩, fun z => absurd le z⟩⟩, Or.inr ⟨rfl, q_SF q_fr0 hS ?_ ?_ hB⟩⟩
        · unfold P_M_bad
          rw [z_up_ne (by decide)]
          omega
        · exact fr_tr (w' := z_up w 0 3 (v 37 2)) (fr_uf rfl fr_rf) (fr_wk fr_F_M_bad rfl rfl)
        · unfold F_M_bad
          rw [if_pos (by rw [z_up_ne (by decide)]; exact s4), z_up_at, z_up_at]
    · -- a letter
      rcases e4 with z | ⟨z1, z2, z3, z4⟩
      · exact absurd z le
      · obtain ⟨g1, g2, g3, g4, g5⟩ := q_letter hS z1 z4
        rw [if_neg le, if_neg le, if_neg z2]
        exact ⟨⟨l1, pD, fun _ => ⟨e3, by omega, fun z => absurd z le, fun _ => ⟨e3, g1⟩⟩, fun z => absurd i0 z⟩, ⟨hp, by omega, fun z => absurd z z2, fun _ => ⟨e2, by omega, fun z => absurd z le, fun _ => ⟨g2, g3⟩⟩⟩, Or.inl ⟨rfl, ⟨1, q_Gn g4 (by omega)⟩, g5⟩⟩
