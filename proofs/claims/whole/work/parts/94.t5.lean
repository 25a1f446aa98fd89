/-! reading: the loop over items -/
theorem t_J1 {c a2 B ni : Nat} {w0 v0 wu u x s : z_Wd} (hc : c ≠ 0) (h : t_J c a2 B ni w0 v0 wu u) (f : z_fr [c] [(0, 3), (0, 4)] wu x) (g : z_fr [35] [(33, 2)] u s) {i : Nat} (hi : i < ni) {y z : Int} (hy : 0 ≤ y ∧ y ≤ 99) (hz : 0 ≤ z ∧ z ≤ 99) (ex : ∀ j, x c j = if j = a2 + i then y else wu c j) (es : ∀ j, s 35 j = if j = B + i then z else u 35 j) : t_J c a2 B ni w0 v0 x s := by
  obtain ⟨h1, h2, h3, h4, h5⟩ := h
  refine ⟨fr_tr h1 f, fr_tr h2 g, fun j hj => ?_, fun j hj => ?_, fun m hm => ?_⟩
  · rw [ex, if_neg (by omega)]
    exact h3 j hj
  · rw [es, if_neg (by omega)]
    exact h4 j hj
  · have q := h5 m hm
    rw [ex, es]
    constructor
    · split
      · exact hy
      · exact q.1
    · split
      · exact hz
      · exact q.2
theorem fr_c0 {c : Nat} {Y : List (Nat × Nat)} {w w' : z_Wd} {i : Nat} {x : Int} (h : z_fr [c] Y w w') : z_fr [c] Y w (z_up w' c i x) := fr_up (by simp) h
set_option maxHeartbeats 4000000 in
theorem t_items {c k a2 B ni : Nat} {b : Int} {w w0 v0 : z_Wd} (hk : k < 4) (hni : ni = t_ni k) (hc : c ≠ 0 ∧ c ≠ 1) (hb : (a2 : Int) + ni ≤ b) (hm : 1 ≤ v0 36 k ∧ v0 36 k ≤ 7) (hB : ((z_sc 1 k + v0 36 k) - 1) * 3 = (B : Int)) (hB2 : B + 3 ≤ 54) : ∀ (j n : Nat) (T : Nat → Bool) (wu u : z_Wd), j + 1 ≤ n → j ≤ 3 → zcnt T 3 = 3 - j → t_I k c a2 B ni w0 v0 wu u → z_itP w c b (t_ch k) (a2 : Int) n ((zbits T 3 : Nat) : Int) (F_YR_itemOf u (k : Int) (F_T_at u (u 33 2))) wu ∧ t_clP (k : Int) j ((zbits T 3 : Nat) : Int) u ∧ t_O k c a2 B ni w0 v0 (z_it w c (t_ch k) (a2 : Int) n ((zbits T 3 : Nat) : Int) (F_YR_itemOf u (k : Int) (F_T_at u (u 33 2))) wu) (t_cl (k : Int) j ((zbits T 3 : Nat) : Int) u) := by
  have hni3 : ni ≤ 3 := by
    rw [hni]
    unfold t_ni
    split <;> omega
  intro j
  induction j with
  | zero =>
    intro n T wu u hn hj hT hI
    obtain ⟨n, rfl⟩ : ∃ m, n = m + 1 := ⟨n - 1, by omega⟩
    obtain ⟨i1, i2, i3, i4, i5, i6, i7⟩ := id hI
    have ht := t_ta i1
    have hat := t_atr ht (p := u 33 2) i4.1
    obtain ⟨o1, o2, o3, o4⟩ := t_io (w := wu) (v := u) hk hat.1
    simp only [z_itP, z_it, t_clP, t_cl]
    rw [if_pos i2]
    rcases o2 with z | ⟨i, z1, z2, z3, z4⟩
    · rw [z, if_pos rfl]
      exact ⟨⟨by omega, fun _ => ⟨by omega, fun _ => trivial, fun y => absurd rfl y⟩, fun y => absurd i2 y⟩, trivial, Or.inl ⟨rfl, hI⟩⟩
    · have hi3 : i < 3 := by omega
      obtain ⟨q1, q2, q3, q4⟩ := z_has (w := wu) (T := T) (N := 3) (n := i) (by decide) hi3
      have full := zc_full hT hi3
      have nh : ¬ F_M_has wu ((zbits T 3 : Nat) : Int) (i : Int) = 0 := by rw [q1, full]; decide
      rw [z2, if_neg (by omega), if_neg nh]
      exact ⟨⟨by omega, fun _ => ⟨by omega, fun _ => trivial, fun _ => ⟨q2, fun y => absurd y nh, fun _ => trivial⟩⟩, fun y => absurd i2 y⟩, trivial, Or.inl ⟨rfl, hI⟩⟩
  | succ j ih =>
    intro n T wu u hn hj hT hI
    obtain ⟨n, rfl⟩ : ∃ m, n = m + 1 := ⟨n - 1, by omega⟩
    obtain ⟨i1, i2, i3, i4, i5, i6, i7⟩ := id hI
    have ht := t_ta i1
    have hlen := ht.1
    have hat := t_atr ht (p := u 33 2) i4.1
    obtain ⟨o1, o2, o3, o4⟩ := t_io (w := wu) (v := u) hk hat.1
    have pa := t_pat ht (p := u 33 2) (by omega)
    rcases o2 with z | ⟨i, z1, z2, z3, z4⟩
    · simp only [z_itP, z_it, t_clP, t_cl]
      rw [if_pos i2, z, if_pos rfl]
      exact ⟨⟨by omega, fun _ => ⟨by omega, fun _ => trivial, fun y => absurd rfl y⟩, fun y => absurd i2 y⟩, ⟨pa, o3, by omega, fun y => absurd rfl y⟩, Or.inl ⟨rfl, hI⟩⟩
    · have hi3 : i < 3 := by omega
      obtain ⟨q1, q2, q3, q4⟩ := z_has (w := wu) (T := T) (N := 3) (n := i) (by decide) hi3
      have qb : zz_and (zz_shr ((zbits T 3 : Nat) : Int) (i : Int)) 1 = if T i then 1 else 0 := by
        rw [bt_bit (by decide) (by omega)]
        simp [hi3]
      by_cases cT : T i = true
      · have nh : ¬ F_M_has wu ((zbits T 3 : Nat) : Int) (i : Int) = 0 := by rw [q1, cT]; decide
        simp only [z_itP, z_it, t_clP, t_cl]
        rw [if_pos i2, z2, if_neg (by omega), if_neg nh, if_neg (by omega), qb, if_pos cT, if_pos rfl]
        refine ⟨⟨by omega, fun _ => ⟨by omega, fun _ => trivial, fun _ => ⟨q2, fun y => absurd y nh, fun _ => trivial⟩⟩, fun y => absurd i2 y⟩, ⟨pa, by rw [← z2] at *; exact o3, by omega, fun _ => ⟨by omega, fun y => absurd rfl y⟩⟩, Or.inr ⟨rfl, i6, Or.inr ⟨i2, i3, i4, z3, z4, i5⟩⟩⟩
      · have cF : T i = false := by
          cases hh : T i
          · rfl
          · exact absurd hh cT
        have zc1 : zcnt (fun m => T m || (m == i)) 3 = 3 - j := by
          rw [zc_add3 hi3 cF]
          omega
        have jn : j + 1 ≤ n := by omega
        have j3 : j ≤ 3 := by omega
        have yh : F_M_has wu ((zbits T 3 : Nat) : Int) (i : Int) = 0 := by rw [q1]; exact cF
        have lt : u 33 2 < u 28 1 := by
          have := hat.2
          omega
        -- the number
        have s28 : F_YR_step u 28 = u 28 := by
          unfold F_YR_step
          exact z_up_other (by decide)
        have s29 : F_YR_step u 29 = u 29 := by
          unfold F_YR_step
          exact z_up_other (by decide)
        have s36 : F_YR_step u 36 = u 36 := by
          unfold F_YR_step
          exact z_up_other (by decide)
        have s35 : F_YR_step u 35 = u 35 := by
          unfold F_YR_step
          exact z_up_other (by decide)
        have s33 : F_YR_step u 33 2 = F_T_behindBlanks u (u 33 2 + 1) := by
          unfold F_YR_step
          exact z_up_at
        have fs : z_fr [35] [(33, 2)] u (F_YR_step u) := fr_wk fr_F_YR_step rfl rfl
        have ps : P_YR_step u := t_pbb ht (by omega)
        have hx : r_ta (z_up wu 0 3 (wu 0 3 + 1)) (F_YR_step u) := t_tac i1 (z_up_ne (by decide)) (z_up_other (by decide)) (by rw [s28]) s29
        have u36 : u 36 = v0 36 := fr_c i6.2.1 36 rfl rfl
        obtain ⟨m1, m2, e, y, hy, m3⟩ := t_num2 hx (q := F_T_behindBlanks u (u 33 2 + 1)) (by rw [z_up_at]; omega) (by rw [z_up_ne (by decide)]; exact i2) (by rw [z_up_at, i3]; exact x_bb (by rw [s28]) s29 (by omega)) s33 hk z1 (ix := B + i) (by rw [s36, u36]; exact hm) (by rw [s36, u36, hB]; omega) (by omega)
        have pl := t_lh (w := z_up wu 0 3 (wu 0 3 + 1)) hk z1
        have ez : z_num wu (t_ch k) (i : Int) = F_M_number (z_up wu 0 3 (wu 0 3 + 1)) (F_M_lowest (z_up wu 0 3 (wu 0 3 + 1)) (t_ch k) (i : Int)) (F_M_highest (z_up wu 0 3 (wu 0 3 + 1)) (t_ch k) (i : Int)) := rfl
        have ea : ((a2 : Int) + (i : Int)).toNat = a2 + i := by omega
        have bbr := t_bbr (v := u) (p := u 33 2 + 1) (by omega)
        rcases m3 with ⟨n1, n2, n3, n4⟩ | ⟨n1, n2, n3, n4, n5, n6⟩
        · -- a fault
          have e1 : z_sto c wu (t_ch k) (a2 : Int) (i : Int) = z_up (z_up (z_up (z_up wu 0 3 (wu 0 3 + 1)) 0 3 e) 0 4 e) c (a2 + i) y := by
            unfold z_sto
            rw [ez, n1, ea]
          have e2 : (z_num wu (t_ch k) (i : Int)).2 0 4 = e := by
            rw [ez, n1]
            dsimp only
            exact z_up_at
          have e3 : z_sto c wu (t_ch k) (a2 : Int) (i : Int) 0 4 = e := by
            rw [e1, z_up_other (fun z => hc.1 z.symm), z_up_at]
          obtain ⟨n', rfl⟩ : ∃ m, n = m + 1 := ⟨n - 1, by omega⟩
          have r0 : (0 : Int) = 0 := rfl
          simp only [z_itP, z_it, t_clP, t_cl]
          rw [if_pos i2, z2, if_neg (show ¬ (i : Int) = -1 by omega), if_pos yh, e2, if_neg (show ¬ e = -1 by omega), e3, if_neg (show ¬ e = -1 by omega), if_neg (show ¬ (i : Int) = -1 by omega), qb, if_neg (show ¬ (if T i = true then (1 : Int) else 0) = 1 by rw [cF]; decide), n2, if_pos rfl]
          refine ⟨⟨by omega, fun _ => ⟨by omega, fun _ => trivial, fun _ => ⟨q2, fun _ => ⟨pl.2.2.2.2.1, pl.2.2.2.2.2, m1, by omega, by omega, fun z => absurd z (by omega), fun _ => ⟨by omega, fun z => absurd z (by omega), fun _ => trivial⟩⟩, fun z => absurd yh z⟩⟩, fun z => absurd i2 z⟩, ⟨pa, by rw [← z2] at *; exact o3, by omega, fun _ => ⟨by rw [cF]; decide, fun _ => ⟨ps, m2, rg0, fun z => absurd rfl z⟩⟩⟩, Or.inr ⟨rfl, ?_, Or.inl ⟨?_, ?_⟩⟩⟩
          · dsimp only
            rw [e1]
            refine t_J1 hc.1 i6 (fr_c0 (fr_uf rfl (fr_uf rfl (fr_uf rfl fr_rf)))) (fr_uf rfl fs) (i := i) (by omega) hy (i6.2.2.2.2 i (by omega)).2 (fun m => ?_) (fun m => ?_)
            · by_cases cm : m = a2 + i
              · rw [if_pos cm, cm, z_up_at]
              · rw [if_neg cm, z_up_ne cm, z_up_other hc.1, z_up_other hc.1, z_up_other hc.1]
            · rw [z_up_other (by decide), s35]
              split
              · rename_i cm
                rw [cm]
              · rfl
          · dsimp only
            rw [z_up_at]
            exact e3
          · dsimp only
            rw [z_up_at]
            exact ⟨n3, n4⟩
        · -- well
          have e1 : z_sto c wu (t_ch k) (a2 : Int) (i : Int) = z_up (z_up (z_up wu 0 3 (wu 0 3 + 1)) 0 3 e) c (a2 + i) y := by
            unfold z_sto
            rw [ez, n1, ea]
          have e2 : (z_num wu (t_ch k) (i : Int)).2 0 4 = -1 := by
            rw [ez, n1]
            dsimp only
            rw [z_up_ne (by decide), z_up_ne (by decide)]
            exact i2
          have w3 : z_sto c wu (t_ch k) (a2 : Int) (i : Int) 0 3 = e := by
            rw [e1, z_up_other (fun z => hc.1 z.symm), z_up_at]
          have w4 : z_sto c wu (t_ch k) (a2 : Int) (i : Int) 0 4 = -1 := by
            rw [e1, z_up_other (fun z => hc.1 z.symm), z_up_ne (by decide), z_up_ne (by decide)]
            exact i2
          have wc : ∀ m, z_sto c wu (t_ch k) (a2 : Int) (i : Int) c m = if m = a2 + i then y else wu c m := fun m => by
            rw [e1]
            by_cases cm : m = a2 + i
            · rw [if_pos cm, cm, z_up_at]
            · rw [if_neg cm, z_up_ne cm, z_up_other hc.1, z_up_other hc.1]
          have wf : z_fr [c] [(0, 3), (0, 4)] wu (z_sto c wu (t_ch k) (a2 : Int) (i : Int)) := by
            rw [e1]
            exact fr_c0 (fr_uf rfl (fr_uf rfl fr_rf))
          have wt : r_ta (z_sto c wu (t_ch k) (a2 : Int) (i : Int)) u := by
            rw [e1]
            exact t_tac i1 (by rw [z_up_other (fun z => hc.1 z.symm), z_up_ne (by decide), z_up_ne (by decide)]) (by rw [z_up_other (fun z => hc.2 z.symm), z_up_other (by decide), z_up_other (by decide)]) rfl rfl
          rw [s28] at n6
          have e0 : 0 ≤ e := by omega
          obtain ⟨k1, k2⟩ := t_look wt (by rw [w3]; omega)
          rw [w3] at k2
          have bbe := t_bbr (v := u) e0
          have ate := t_atr ht (p := F_T_behindBlanks u e) (by omega)
          rw [x_bb (v := u) (by rw [s28]) s29 e0] at n2
          have v33 : z_up (z_up (F_YR_step u) 35 (B + i) y) 33 2 (F_T_behindBlanks u e) 33 2 = F_T_behindBlanks u e := z_up_at
          have v28 : z_up (z_up (F_YR_step u) 35 (B + i) y) 33 2 (F_T_behindBlanks u e) 28 = u 28 := by rw [z_up_other (by decide), z_up_other (by decide), s28]
          have v29 : z_up (z_up (F_YR_step u) 35 (B + i) y) 33 2 (F_T_behindBlanks u e) 29 = u 29 := by rw [z_up_other (by decide), z_up_other (by decide), s29]
          have v35 : ∀ m, z_up (z_up (F_YR_step u) 35 (B + i) y) 33 2 (F_T_behindBlanks u e) 35 m = if m = B + i then y else u 35 m := fun m => by
            rw [z_up_other (by decide)]
            by_cases cm : m = B + i
            · rw [if_pos cm, cm, z_up_at]
            · rw [if_neg cm, z_up_ne cm, s35]
          have vf : z_fr [35] [(33, 2)] u (z_up (z_up (F_YR_step u) 35 (B + i) y) 33 2 (F_T_behindBlanks u e)) := fr_uf rfl (fr_up rfl fs)
          have ev : F_T_at (z_up (z_up (F_YR_step u) 35 (B + i) y) 33 2 (F_T_behindBlanks u e)) (F_T_behindBlanks u e) = F_T_at u (F_T_behindBlanks u e) := x_at (by rw [v28]) v29
          have io2 := t_io (w := z_up (z_sto c wu (t_ch k) (a2 : Int) (i : Int)) 0 3 (F_T_behindBlanks u e)) (v := z_up (z_up (F_YR_step u) 35 (B + i) y) 33 2 (F_T_behindBlanks u e)) hk ate.1
          have I2 : t_I k c a2 B ni w0 v0 (z_up (z_sto c wu (t_ch k) (a2 : Int) (i : Int)) 0 3 (F_T_behindBlanks u e)) (z_up (z_up (F_YR_step u) 35 (B + i) y) 33 2 (F_T_behindBlanks u e)) := by
            refine ⟨t_tac wt (z_up_ne (by decide)) (z_up_other (by decide)) (by rw [v28]) v29, by rw [z_up_ne (by decide)]; exact w4, by rw [z_up_at, v33], ?_, ?_, ?_, fun m hm2 => ?_⟩
            · rw [v33, v28]
              have := bbe.2.1 n6
              omega
            · rw [v33, ev]
              exact bbe.2.2.1
            · refine t_J1 hc.1 i6 (fr_uf rfl wf) vf (i := i) (by omega) hy hy (fun m => ?_) v35
              rw [z_up_other hc.1]
              exact wc m
            · rw [z_up_other hc.1, wc, v35]
              have q := i7 m hm2
              by_cases cm : m = i
              · subst cm
                rw [if_pos rfl, if_pos rfl]
                exact ⟨rfl, n3, n4⟩
              · rw [if_neg (by omega), if_neg (by omega)]
                exact q
          have nx := ih n (fun m => T m || (m == i)) _ _ jn j3 zc1 I2
          rw [← bt_add3 hi3, v33, ev] at nx
          simp only [z_itP, z_it, t_clP, t_cl]
          rw [if_pos i2, z2, if_neg (show ¬ (i : Int) = -1 by omega), if_pos yh, if_pos e2, if_neg (show ¬ (i : Int) = -1 by omega), qb, if_neg (show ¬ (if T i = true then (1 : Int) else 0) = 1 by rw [cF]; decide), n2, if_neg n10, k2]
          dsimp only
          rw [io2.1]
          obtain ⟨x1, x2, x3⟩ := nx
          exact ⟨⟨by omega, fun _ => ⟨by omega, fun _ => trivial, fun _ => ⟨q2, fun _ => ⟨pl.2.2.2.2.1, pl.2.2.2.2.2, m1, by omega, by omega, fun _ => ⟨k1, io2.2.2.2, x1⟩, fun z => absurd e2 z⟩, fun z => absurd yh z⟩⟩, fun z => absurd i2 z⟩, ⟨pa, by rw [← z2] at *; exact o3, by omega, fun _ => ⟨by rw [cF]; decide, fun _ => ⟨ps, m2, rg1, fun _ => x2⟩⟩⟩, x3⟩
