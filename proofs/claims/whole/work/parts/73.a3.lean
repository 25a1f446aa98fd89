/-! acts undone -/
theorem rH {v : z_Wd} {p : Nat} (hp : p < 40) : (∀ n, n < 7 → F_K_readFrom_54 v ((p : Int) * 21) 42 n = v 54 (21 * p + n)) ∧ (∀ n, n < 7 → F_K_readFrom_54 v ((p : Int) * 21) 43 n = v 54 (21 * p + (7 + n))) ∧ (∀ n, n < 4 → F_K_readFrom_54 v ((p : Int) * 21) 44 n = v 54 (21 * p + (14 + n))) ∧ F_K_readFrom_54 v ((p : Int) * 21) 41 6 = v 54 (21 * p + 18) ∧ F_K_readFrom_54 v ((p : Int) * 21) 41 7 = v 54 (21 * p + 19) ∧ F_K_readFrom_54 v ((p : Int) * 21) 41 8 = v 54 (21 * p + 20) := by
  unfold F_K_readFrom_54
  rw [if_neg (by omega), if_pos (by omega), show ((p : Int) * 21).toNat = 21 * p by omega, show ((p : Int) * 21 + 7).toNat = 21 * p + 7 by omega, show ((p : Int) * 21 + 14).toNat = 21 * p + 14 by omega, show ((p : Int) * 21 + 21 - 3).toNat = 21 * p + 18 by omega, show ((p : Int) * 21 + 21 - 2).toNat = 21 * p + 19 by omega, show ((p : Int) * 21 + 21 - 1).toNat = 21 * p + 20 by omega]
  have o : z_cpy (z_cpy (z_cpy v 54 (21 * p) 42 0 7) 54 (21 * p + 7) 43 0 7) 54 (21 * p + 14) 44 0 4 54 = v 54 := by rw [cp_ot (by decide), cp_ot (by decide), cp_ot (by decide)]
  rw [o]
  refine ⟨fun n hn => ?_, fun n hn => ?_, fun n hn => ?_, ?_, ?_, ?_⟩
  · rw [z_up_other (by decide), z_up_other (by decide), z_up_other (by decide), cp_ot (by decide), cp_ot (by decide), cp_in (by omega)]
    congr 1
  · rw [z_up_other (by decide), z_up_other (by decide), z_up_other (by decide), cp_ot (by decide), cp_in (by omega), cp_ot (by decide)]
    congr 1
    omega
  · rw [z_up_other (by decide), z_up_other (by decide), z_up_other (by decide), cp_in (by omega), cp_ot (by decide), cp_ot (by decide)]
    congr 1
    omega
  · rw [z_up_ne (by decide), z_up_ne (by decide), z_up_at]
  · rw [z_up_ne (by decide), z_up_at]
  · rw [z_up_at]
theorem rg0 : -2147483648 ≤ (0 : Int) ∧ (0 : Int) < 2147483648 := by decide
theorem rg1 : -2147483648 ≤ (1 : Int) ∧ (1 : Int) < 2147483648 := by decide
theorem n10 : ¬ (1 : Int) = 0 := by decide
theorem ok_undo : S_undo Rl := by
  intro w hr
  have key : ∀ w v, r_all w v → P_D_undo v ∧ P_M_undo w ∧ (F_D_undo v).1 = (F_M_undo w).1 ∧ r_all (F_M_undo w).2 (F_D_undo v).2 := by
    intro w v h
    obtain ⟨h1, h2, h3, h4, h5, h6, h7, h8, h9, h10⟩ := id h
    have e2 := h2.2.1
    unfold r_mn at e2
    obtain ⟨a0, a1, a2, a3⟩ := id h4
    obtain ⟨n, hn⟩ := Int.eq_ofNat_of_zero_le a2.1
    have et : Int.tmod (v 53 1 + 40 - 1) 40 = (((n + 39) % 40 : Nat) : Int) := by
      rw [Int.tmod_eq_emod_of_nonneg (by omega)]
      omega
    have hp : (n + 39) % 40 < 40 := Nat.mod_lt _ (by decide)
    by_cases c : v 53 2 = 0
    · have eH : F_H_takeBack_41 v = (0, v) := by
        unfold F_H_takeBack_41
        rw [if_pos c]
      have eD : F_D_undo v = (-1, v) := by
        unfold F_D_undo
        rw [eH, if_pos rfl]
      have eM : F_M_undo w = (-1, w) := by
        unfold F_M_undo
        rw [if_pos (by omega)]
      rw [eD, eM]
      refine ⟨?_, ?_, rfl, h⟩
      · unfold P_D_undo P_H_takeBack_41
        rw [eH]
        exact ⟨⟨by omega, fun _ => trivial, fun z => absurd c z⟩, rg0⟩
      · exact a1
    · have hgen : ∃ p, p = (n + 39) % 40 := ⟨_, rfl⟩
      obtain ⟨p, ep⟩ := hgen
      rw [← ep] at et hp
      have eH : F_H_takeBack_41 v = (1, F_K_readFrom_54 (z_up (z_up v 53 2 (v 53 2 - 1)) 53 1 (p : Int)) ((p : Int) * 21)) := by
        unfold F_H_takeBack_41
        rw [if_neg c, et]
      have fv : z_fr [] [(53, 1), (53, 2)] v (z_up (z_up v 53 2 (v 53 2 - 1)) 53 1 (p : Int)) := fr_uf rfl (fr_uf rfl fr_rf)
      have rr := rH (v := z_up (z_up v 53 2 (v 53 2 - 1)) 53 1 (p : Int)) hp
      have q1 : z_up (z_up v 53 2 (v 53 2 - 1)) 53 1 (p : Int) 53 1 = (p : Int) := z_up_at
      have q2 : z_up (z_up v 53 2 (v 53 2 - 1)) 53 1 (p : Int) 53 2 = v 53 2 - 1 := by rw [z_up_ne (by decide), z_up_at]
      have pR : P_K_readFrom_54 (z_up (z_up v 53 2 (v 53 2 - 1)) 53 1 (p : Int)) ((p : Int) * 21) := by
        unfold P_K_readFrom_54
        refine ⟨by omega, fun _ => trivial, fun _ => ⟨by omega, fun _ => ?_, fun _ => trivial⟩⟩
        refine ⟨by omega, by omega, by omega, by omega, by omega, by omega, by omega, by omega, by omega⟩
      have pD : P_D_undo v := by
        unfold P_D_undo P_H_takeBack_41
        rw [eH, et]
        exact ⟨⟨by omega, fun _ => trivial, fun _ => ⟨by omega, pR⟩⟩, rg1⟩
      generalize z_up (z_up v 53 2 (v 53 2 - 1)) 53 1 (p : Int) = u at *
      have fu : z_fr [42, 43, 44] [(41, 6), (41, 7), (41, 8)] u (F_K_readFrom_54 u ((p : Int) * 21)) := fr_F_K_readFrom_54
      have u53 := fr_f fu 53 2 rfl rfl
      have eD : F_D_undo v = (v 53 2 - 1, F_K_readFrom_54 u ((p : Int) * 21)) := by
        unfold F_D_undo
        rw [eH, if_neg n10]
        simp only [u53, q2]
      have eM : F_M_undo w = (w 0 36 - 1, z_cpy (z_up w 0 36 (w 0 36 - 1)) 21 (160 * (w 0 36 - 1)).toNat 19 0 160) := by
        unfold F_M_undo
        rw [if_neg (by omega)]
      have f : z_fr [19] [(0, 36)] w (z_cpy (z_up w 0 36 (w 0 36 - 1)) 21 (160 * (w 0 36 - 1)).toNat 19 0 160) := fr_cp rfl (fr_uf rfl fr_rf)
      have g : z_fr [42, 43, 44] [(41, 6), (41, 7), (41, 8), (53, 1), (53, 2)] v (F_K_readFrom_54 u ((p : Int) * 21)) := fr_tr (fr_wk fv rfl rfl) (fr_wk fu rfl rfl)
      have u54 := fr_c fv 54 rfl rfl
      rw [u54] at rr
      obtain ⟨r1, r2, r3, r4, r5, r6⟩ := rr
      obtain ⟨b1, b2, b3⟩ := a3 0 (by omega)
      have ep0 : ((v 53 1).toNat + 39 - 0) % 40 = p := by omega
      rw [ep0] at b1 b2
      have e19 : ∀ k, k < 160 → z_cpy (z_up w 0 36 (w 0 36 - 1)) 21 (160 * (w 0 36 - 1)).toNat 19 0 160 19 k = w 21 (160 * ((w 0 36).toNat - 1 - 0) + k) := fun k hk => by
        rw [cp_in (by omega), z_up_other (by decide), show (160 * (w 0 36 - 1)).toNat + (k - 0) = 160 * ((w 0 36).toNat - 1 - 0) + k by omega]
      have e36 : z_cpy (z_up w 0 36 (w 0 36 - 1)) 21 (160 * (w 0 36 - 1)).toNat 19 0 160 0 36 = w 0 36 - 1 := by
        rw [cp_ot (by decide), z_up_at]
      generalize z_cpy (z_up w 0 36 (w 0 36 - 1)) 21 (160 * (w 0 36 - 1)).toNat 19 0 160 = W2 at *
      rw [eD, eM]
      refine ⟨pD, a1, (show v 53 2 - 1 = w 0 36 - 1 by omega), ?_⟩
      dsimp only
      refine ⟨y_ta h1 f g rfl, y_mi h2 f g rfl, ?_, ?_, y_im h5 f g rfl, y_la h6 f g rfl, y_cl h7 f g rfl, y_re h8 f g rfl, y_fl h9 f g rfl, y_rd h10 f g rfl⟩
      · unfold r_no
        rw [fr_f f 0 28 rfl rfl, fr_f f 0 29 rfl rfl, r4, r5, r6, fr_c g 45 rfl rfl, fr_c g 46 rfl rfl]
        exact ⟨st_c b1 (by omega) (by omega) r1 r2 r3 (fun k hk => e19 k (by omega)), lg_n b2 (fun k _ hk => e19 k hk)⟩
      · unfold r_ac
        rw [fr_f f 0 28 rfl rfl, fr_f f 0 29 rfl rfl, fr_c f 21 rfl rfl, e36, u53, q2, fr_f fu 53 1 rfl rfl, q1, r6, fr_c g 45 rfl rfl, fr_c g 46 rfl rfl, fr_c g 54 rfl rfl]
        refine ⟨by omega, by omega, by omega, fun j hj => ?_⟩
        obtain ⟨d1, d2, d3⟩ := a3 (j + 1) (by omega)
        have hy : ∀ i, i ≤ 39 → r_hy (p : Int) (v 54 (21 * p + 20)) (v 54) i = r_hy (v 53 1) (v 41 8) (v 54) (i + 1) := by
          intro i hi
          cases i with
          | zero =>
            simp only [r_hy]
            rw [ep0]
          | succ i =>
            simp only [r_hy]
            rw [show ((p : Int).toNat + 39 - i) % 40 = ((v 53 1).toNat + 39 - (i + 1)) % 40 by omega]
        rw [hy (j + 1) (by omega), hy j (by omega), show ((p : Int).toNat + 39 - j) % 40 = ((v 53 1).toNat + 39 - (j + 1)) % 40 by omega, show (w 0 36 - 1).toNat - 1 - j = (w 0 36).toNat - 1 - (j + 1) by omega]
        exact ⟨d1, d2, d3⟩
  have t := s_two hr (fr_F_D_undo (w := w)) rfl (fr_F_M_undo (w := (F_D_undo w).2)) rfl
  obtain ⟨k1, k2, k3, k4⟩ := key _ _ t.1
  exact ⟨k1, k2, k3, t.2 k4⟩
/-! piles change -/
theorem st_dip {nn nw co un ye : Int} {wf lf dp wf' lf' now now' : Nat → Int} (h : r_st nn nw wf lf dp co un ye now) (hn7 : nn ≤ 7) (hw4 : nw ≤ 4) {n a : Nat} (hn : (n : Int) < nn) (hf : wf n = -1) (ha : (a : Int) < nw) (h6 : now a ≤ 6) (hw : ∀ i, wf' i = if i = n then (a : Int) else wf i) (hl : ∀ i, lf' i = if i = n then now a else lf i) (hN : ∀ k, now' k = if k = a then now a + 1 else if k = 4 + 7 * a + (now a).toNat then (n : Int) else now k) : r_st nn nw wf' lf' dp co un ye now' := by
  obtain ⟨s1, s2, s3, s4, s5, s6, s7, s8, s9⟩ := h
  have r0 := (s3 a (by omega)).1
  refine ⟨fun m hm => ?_, fun m hm => ?_, fun b hb => ?_, fun b i hb hi => ?_, fun m hm hne => ?_, fun k hk => ?_, ?_, ?_, ?_⟩
  · rw [hw, hl]
    have q := s1 m hm
    by_cases e : m = n
    · rw [if_pos e, if_pos e]
      omega
    · rw [if_neg e, if_neg e]
      exact q
  · rw [hw]
    by_cases e : m = n
    · rw [if_pos e]
      exact ha
    · rw [if_neg e]
      exact s2 m hm
  · rw [hN]
    by_cases e : b = a
    · rw [if_pos e]
      omega
    · rw [if_neg e, if_neg (by omega)]
      exact s3 b hb
  · rw [hN b] at hi
    by_cases e : b = a
    · subst e
      rw [if_pos rfl] at hi
      by_cases e2 : (i : Int) = now b
      · have ix : 4 + 7 * b + i = 4 + 7 * b + (now b).toNat := by omega
        rw [hN, if_neg (by omega), if_pos ix, Int.toNat_natCast, hw, hl, if_pos rfl, if_pos rfl]
        exact ⟨by omega, rfl, by omega⟩
      · rw [hN, if_neg (by omega), if_neg (by omega)]
        have q := s4 b i hb (by omega)
        have hne : (now (4 + 7 * b + i)).toNat ≠ n := fun z => by
          rw [z] at q
          omega
        rw [hw, hl, if_neg hne, if_neg hne]
        exact q
    · rw [if_neg e, if_neg (by omega)] at hi
      have r := (s3 b hb).1
      rw [hN, if_neg (by omega), if_neg (by omega)]
      have q := s4 b i hb hi
      have hne : (now (4 + 7 * b + i)).toNat ≠ n := fun z => by
        rw [z] at q
        omega
      rw [hw, hl, if_neg hne, if_neg hne]
      exact q
  · rw [hw] at hne ⊢
    rw [hl]
    by_cases e : m = n
    · rw [if_pos e, if_pos e, Int.toNat_natCast, hN, if_pos rfl, hN, if_neg (by omega), if_pos rfl]
      omega
    · rw [if_neg e] at hne
      rw [if_neg e, if_neg e]
      have q := s5 m hm hne
      have r1 := s1 m (by omega)
      have r2 := s2 m hm
      have r3 := (s3 (wf m).toNat (by omega)).1
      by_cases e2 : (wf m).toNat = a
      · rw [e2] at q r3 ⊢
        rw [hN, if_pos rfl, hN, if_neg (by omega), if_neg (by omega)]
        exact ⟨by omega, q.2⟩
      · rw [hN, if_neg e2, if_neg (by omega), hN, if_neg (by omega), if_neg (by omega)]
        exact q
  · rw [hN, if_neg (by omega), if_neg (by omega)]
    exact s6 k hk
  · rw [hN, if_neg (by omega), if_neg (by omega)]
    exact s7
  · rw [hN, if_neg (by omega), if_neg (by omega)]
    exact s8
  · rw [hN, if_neg (by omega), if_neg (by omega)]
    exact s9
theorem st_rise {nn nw co un ye : Int} {wf lf dp wf' lf' now now' : Nat → Int} (h : r_st nn nw wf lf dp co un ye now) (hn7 : nn ≤ 7) (hw4 : nw ≤ 4) {c a i0 : Nat} (ha : a < 4) (hi : (i0 : Int) < now a) (hc : now (4 + 7 * a + i0) = (c : Int)) (hw : ∀ m, wf' m = if m = c then -1 else wf m) (hl : ∀ m, m < 7 → lf' m = if m = c then 0 else if (m : Int) < nn ∧ wf m = (a : Int) ∧ (i0 : Int) < lf m then lf m - 1 else lf m) (hN : ∀ k, now' k = if k = a then now a - 1 else if 4 + 7 * a + i0 ≤ k ∧ (k : Int) < 4 + 7 * a + now a - 1 then now (k + 1) else now k) : r_st nn nw wf' lf' dp co un ye now' := by
  obtain ⟨s1, s2, s3, s4, s5, s6, s7, s8, s9⟩ := h
  have r0 := (s3 a ha).1
  have c0 := s4 a i0 ha hi
  rw [hc, Int.toNat_natCast] at c0
  refine ⟨fun m hm => ?_, fun m hm => ?_, fun b hb => ?_, fun b i hb hi2 => ?_, fun m hm hne => ?_, fun k hk => ?_, ?_, ?_, ?_⟩
  · rw [hw, hl m hm]
    have q := s1 m hm
    by_cases e : m = c
    · rw [if_pos e, if_pos e]
      omega
    · rw [if_neg e, if_neg e]
      split <;> omega
  · rw [hw]
    have q := s2 m hm
    have q2 := s2 c (by omega)
    split <;> omega
  · rw [hN]
    by_cases e : b = a
    · rw [if_pos e]
      have q := s3 b hb
      rw [e] at q ⊢
      omega
    · rw [if_neg e, if_neg (by omega)]
      exact s3 b hb
  · rw [hN b] at hi2
    by_cases e : b = a
    · subst e
      rw [if_pos rfl] at hi2
      by_cases e2 : i0 ≤ i
      · rw [hN, if_neg (by omega), if_pos (by omega)]
        have q := s4 b (i + 1) hb (by omega)
        rw [show 4 + 7 * b + (i + 1) = 4 + 7 * b + i + 1 by omega] at q
        have hne : (now (4 + 7 * b + i + 1)).toNat ≠ c := fun z => by
          rw [z] at q
          omega
        rw [hw, hl _ (by omega), if_neg hne, if_neg hne, if_pos (by omega)]
        omega
      · rw [hN, if_neg (by omega), if_neg (by omega)]
        have q := s4 b i hb (by omega)
        have hne : (now (4 + 7 * b + i)).toNat ≠ c := fun z => by
          rw [z] at q
          omega
        rw [hw, hl _ (by omega), if_neg hne, if_neg hne, if_neg (by omega)]
        exact q
    · rw [if_neg e, if_neg (by omega)] at hi2
      have r := (s3 b hb).1
      rw [hN, if_neg (by omega), if_neg (by omega)]
      have q := s4 b i hb hi2
      have hne : (now (4 + 7 * b + i)).toNat ≠ c := fun z => by
        rw [z] at q
        omega
      rw [hw, hl _ (by omega), if_neg hne, if_neg hne, if_neg (by omega)]
      exact q
  · rw [hw] at hne ⊢
    rw [hl m (by omega)]
    by_cases e : m = c
    · rw [if_pos e] at hne
      omega
    · rw [if_neg e] at hne
      rw [if_neg e, if_neg e]
      have q := s5 m hm hne
      have r1 := s1 m (by omega)
      have r3 := (s3 (wf m).toNat (by omega)).1
      by_cases e2 : wf m = (a : Int)
      · rw [e2, Int.toNat_natCast] at q r3 ⊢
        have hm2 : lf m ≠ (i0 : Int) := fun z => by
          rw [z, Int.toNat_natCast, hc] at q
          omega
        by_cases e3 : (i0 : Int) < lf m
        · rw [if_pos ⟨hm, rfl, e3⟩, hN, if_pos rfl, hN, if_neg (by omega), if_pos (by omega), show 4 + 7 * a + (lf m - 1).toNat + 1 = 4 + 7 * a + (lf m).toNat by omega]
          exact ⟨by omega, q.2⟩
        · rw [if_neg (by omega), hN, if_pos rfl, hN, if_neg (by omega), if_neg (by omega)]
          exact ⟨by omega, q.2⟩
      · rw [if_neg (by omega), hN, if_neg (by omega), if_neg (by omega), hN, if_neg (by omega), if_neg (by omega)]
        exact q
  · rw [hN, if_neg (by omega), if_neg (by omega)]
    exact s6 k hk
  · rw [hN, if_neg (by omega), if_neg (by omega)]
    exact s7
  · rw [hN, if_neg (by omega), if_neg (by omega)]
    exact s8
  · rw [hN, if_neg (by omega), if_neg (by omega)]
    exact s9
theorem st_wat {nn nw co un ye : Int} {wf lf dp wf' lf' now now' : Nat → Int} (h : r_st nn nw wf lf dp co un ye now) (hn7 : nn ≤ 7) (hw4 : nw ≤ 4) {a : Nat} (ha : a < 4) (hw : ∀ m, m < 7 → wf' m = if (m : Int) < nn ∧ wf m = (a : Int) then -1 else wf m) (hl : ∀ m, m < 7 → lf' m = if (m : Int) < nn ∧ wf m = (a : Int) then 0 else lf m) (hN : ∀ k, now' k = if k = a then 0 else now k) : r_st nn nw wf' lf' dp co un ye now' := by
  obtain ⟨s1, s2, s3, s4, s5, s6, s7, s8, s9⟩ := h
  refine ⟨fun m hm => ?_, fun m hm => ?_, fun b hb => ?_, fun b i hb hi2 => ?_, fun m hm hne => ?_, fun k hk => ?_, ?_, ?_, ?_⟩
  · rw [hw m hm, hl m hm]
    have q := s1 m hm
    by_cases e : (m : Int) < nn ∧ wf m = (a : Int)
    · rw [if_pos e, if_pos e]
      omega
    · rw [if_neg e, if_neg e]
      exact q
  · rw [hw m (by omega)]
    have q := s2 m hm
    have r := s1 0 (by omega)
    by_cases e : (m : Int) < nn ∧ wf m = (a : Int)
    · rw [if_pos e]
      omega
    · rw [if_neg e]
      exact q
  · rw [hN]
    by_cases e : b = a
    · rw [if_pos e]
      omega
    · rw [if_neg e]
      exact s3 b hb
  · rw [hN b] at hi2
    by_cases e : b = a
    · rw [if_pos e] at hi2
      omega
    · rw [if_neg e] at hi2
      have r := (s3 b hb).1
      have q := s4 b i hb hi2
      rw [hN, if_neg (by omega), hw _ (by omega), hl _ (by omega), if_neg (by omega), if_neg (by omega)]
      exact q
  · rw [hw m (by omega)] at hne ⊢
    rw [hl m (by omega)]
    by_cases e : (m : Int) < nn ∧ wf m = (a : Int)
    · rw [if_pos e] at hne
      omega
    · rw [if_neg e] at hne
      rw [if_neg e, if_neg e]
      have q := s5 m hm hne
      have r1 := s1 m (by omega)
      have r3 := (s3 (wf m).toNat (by omega)).1
      rw [hN, if_neg (by omega), hN, if_neg (by omega)]
      exact q
  · rw [hN, if_neg (by omega)]
    exact s6 k hk
  · rw [hN, if_neg (by omega)]
    exact s7
  · rw [hN, if_neg (by omega)]
    exact s8
  · rw [hN, if_neg (by omega)]
    exact s9
theorem cn_lt {p : Nat → Bool} {k : Nat} (hk : p k = false) : ∀ n, k < n → zcnt p n + 1 ≤ n
  | 0, h => absurd h (Nat.not_lt_zero k)
  | n + 1, h => by
    simp only [zcnt]
    by_cases e : k = n
    · subst e
      rw [hk]
      have := zcnt_le p k
      simp
      omega
    · have := cn_lt hk n (by omega)
      split <;> omega
/-- a well that does not hold one has room in the row -/
theorem g_lt7 {w v : z_Wd} (h2 : r_mi w v) (h3 : r_no w v) {a n : Nat} (ha : a < 4) (hn : (n : Int) < w 0 29) (hf : v 42 n ≠ (a : Int)) : w 19 a ≤ 6 := by
  have e := g_cnt h2 h3 ha
  have hn7 := h2.2.1.2.1
  rw [d_in (g_ok h2 h3), h2.1.2.1, bt_cnt (by omega)] at e
  have := cn_lt (p := fun i => v 42 i == (a : Int)) (k := n) (by simpa using hf) (w 0 29).toNat (by omega)
  omega
