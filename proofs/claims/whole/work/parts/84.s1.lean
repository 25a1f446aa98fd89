/-! the most and the least -/
theorem sim_net {w v : z_Wd} (h2 : r_mi w v) (h3 : r_no w v) : F_G_net v = F_M_net w ∧ P_G_net v ∧ P_M_net w := by
  have hd := g_ok h2 h3
  have hp := g_pl h2 h3
  have e1 := h2.1
  have e2 := h2.2.1.2.1
  have eD := g_dM h2 h3
  have hs : ∀ n : Nat, (n : Int) < w 0 29 → (F_M_has w (F_M_drowned w) (n : Int) = 0) = (v 42 n = -1) := fun n hn => by
    have hlt : n < (w 0 29).toNat := by omega
    unfold F_M_has
    rw [eD, bt_bit (by omega) (by omega)]
    unfold g_T
    apply propext
    by_cases c : v 42 n = -1
    · simp [c]
    · simp [c, hlt]
  have main : ∀ i : Nat, (i : Int) ≤ w 0 29 → A_G_net_4 v i = A_M_net_9 w i := by
    intro i
    induction i with
    | zero => intro _; rfl
    | succ i ih =>
      intro hi
      have q := (h2.2.2.2.2.1 i (by omega)).2.1
      obtain ⟨k, hk⟩ := Int.eq_ofNat_of_zero_le q.2.1
      have f1 := d_fr hd (n := i) (by omega)
      have f2 := d_fr hd (n := k) (by omega)
      simp only [A_G_net_4, A_M_net_9]
      rw [ih (by omega), (d_v2 (v := v) (n := i) (by omega)).2.1, show (3 * (i : Int) + 1).toNat = 3 * i + 1 by omega, q.1, hk]
      simp only [f1.2, f2.2, hs i (by omega), hs k (by omega)]
      by_cases c : v 42 i = -1
      · rw [if_neg (by omega), if_pos c]
        by_cases c2 : v 42 k = -1
        · rw [if_neg (by omega), if_pos c2]
        · rw [if_pos c2, if_neg c2]
      · rw [if_pos c, if_neg c]
  refine ⟨?_, ?_, ?_⟩
  · unfold F_G_net F_M_net
    rw [e1.2.1]
    exact main _ (by omega)
  · unfold P_G_net
    refine ⟨fun i hi => ?_, by omega, by omega⟩
    have r := d_rv hd (k := 2) (a := (i : Int)) (j := 1) (by omega) (by omega)
    exact ⟨by omega, by omega, p_fr hd (by omega), fun _ => trivial, fun _ => ⟨d_pv (by omega) (by omega) (by omega), p_fr hd (by omega)⟩⟩
  · unfold P_M_net
    refine ⟨p_Mdr h2 hp, fun i hi => ?_, by omega, by omega⟩
    have b1 := zb_bitr (F_M_drowned w) (i : Int)
    have b2 := zb_bitr (F_M_drowned w) (w 17 (3 * (i : Int) + 1).toNat)
    exact ⟨by omega, by omega, ⟨by omega, by omega⟩, fun _ => ⟨by omega, by omega, by omega⟩, fun _ => trivial⟩
theorem sim_top {w v : z_Wd} (h2 : r_mi w v) (h3 : r_no w v) (hn : w 0 29 ≠ 0) : (F_K_deepest v = F_M_topWell w 1 ∧ P_K_deepest v ∧ P_M_topWell w 1) ∧ (F_K_fullest v = F_M_topWell w 0 ∧ P_K_fullest v ∧ P_M_topWell w 0) := by
  have hd := g_ok h2 h3
  have hp := g_pl h2 h3
  have e1 := h2.1
  have e2 := h2.2.1
  unfold r_mn at e2
  have rg : ∀ (x : Int) (i : Nat), 0 ≤ A_M_topWell_4 w x i ∧ A_M_topWell_4 w x i ≤ i := by
    intro x i
    induction i with
    | zero => simp [A_M_topWell_4]
    | succ i ih =>
      simp only [A_M_topWell_4]
      split <;> split <;> omega
  have m1 : ∀ i : Nat, (i : Int) + 1 ≤ w 0 28 → A_K_deepest_4 v i = A_M_topWell_4 w 1 i := by
    intro i
    induction i with
    | zero => intro _; rfl
    | succ i ih =>
      intro hi
      have r := rg 1 i
      obtain ⟨k, hk⟩ := Int.eq_ofNat_of_zero_le r.1
      simp only [A_K_deepest_4, A_M_topWell_4]
      rw [ih (by omega), hk, if_neg (show ¬ (1 : Int) = 0 by decide), show (1 + (i : Int)) = ((i + 1 : Nat) : Int) by omega, (g_room h2 h3 (a := i + 1) (by omega)).1, (g_room h2 h3 (a := k) (by omega)).1, show (32 + ((i + 1 : Nat) : Int)).toNat = 32 + (i + 1) by omega, show (32 + (k : Int)).toNat = 32 + k by omega]
      split
      · rw [if_pos (by omega)]
      · rw [if_neg (by omega)]
  have m0 : ∀ i : Nat, (i : Int) + 1 ≤ w 0 28 → A_K_fullest_4 v i = A_M_topWell_4 w 0 i := by
    intro i
    induction i with
    | zero => intro _; rfl
    | succ i ih =>
      intro hi
      have r := rg 0 i
      obtain ⟨k, hk⟩ := Int.eq_ofNat_of_zero_le r.1
      simp only [A_K_fullest_4, A_M_topWell_4]
      rw [ih (by omega), hk, if_pos trivial, show (1 + (i : Int)) = ((i + 1 : Nat) : Int) by omega, (g_room h2 h3 (a := i + 1) (by omega)).2.1, (g_room h2 h3 (a := k) (by omega)).2.1]
      split
      · rw [if_pos (by omega)]
      · rw [if_neg (by omega)]
  refine ⟨⟨?_, ?_, ?_⟩, ⟨?_, ?_, ?_⟩⟩
  · unfold F_K_deepest F_M_topWell
    rw [e1.1]
    exact m1 _ (by omega)
  · unfold P_K_deepest
    refine ⟨fun i hi => ?_, by omega, by omega⟩
    have r := rg 1 i
    rw [← m1 i (by omega)] at r
    obtain ⟨k, hk⟩ := Int.eq_ofNat_of_zero_le r.1
    have g1 := g_room h2 h3 (a := i + 1) (by omega)
    have g2 := g_room h2 h3 (a := k) (by omega)
    rw [show ((i + 1 : Nat) : Int) = 1 + (i : Int) by omega] at g1
    rw [hk, g1.1, g2.1]
    exact ⟨by omega, by omega, ⟨⟨by omega, fun _ => trivial, fun _ => by omega⟩, fun _ => trivial, fun _ => by omega⟩, ⟨⟨by omega, fun _ => trivial, fun _ => by omega⟩, fun _ => trivial, fun _ => by omega⟩, by omega, by omega⟩
  · unfold P_M_topWell
    refine ⟨fun i hi => ?_, by omega, by omega⟩
    have r := rg 1 i
    obtain ⟨k, hk⟩ := Int.eq_ofNat_of_zero_le r.1
    have g1 := g_room h2 h3 (a := i + 1) (by omega)
    have g2 := g_room h2 h3 (a := k) (by omega)
    rw [hk, show (32 + (1 + (i : Int))).toNat = 32 + (i + 1) by omega, show (32 + (k : Int)).toNat = 32 + k by omega]
    exact ⟨by omega, by omega, by omega, fun z => by omega, fun _ => ⟨by omega, by omega, by omega⟩⟩
  · unfold F_K_fullest F_M_topWell
    rw [e1.1]
    exact m0 _ (by omega)
  · unfold P_K_fullest
    refine ⟨fun i hi => ?_, by omega, by omega⟩
    have r := rg 0 i
    rw [← m0 i (by omega)] at r
    obtain ⟨k, hk⟩ := Int.eq_ofNat_of_zero_le r.1
    have g1 := g_room h2 h3 (a := i + 1) (by omega)
    have g2 := g_room h2 h3 (a := k) (by omega)
    rw [show ((i + 1 : Nat) : Int) = 1 + (i : Int) by omega] at g1
    rw [hk, g1.2.1, g2.2.1]
    exact ⟨by omega, by omega, p_in hd (by omega), p_do hd, p_in hd (by omega), p_do hd, by omega, by omega⟩
  · unfold P_M_topWell
    refine ⟨fun i hi => ?_, by omega, by omega⟩
    have r := rg 0 i
    obtain ⟨k, hk⟩ := Int.eq_ofNat_of_zero_le r.1
    have g1 := g_room h2 h3 (a := i + 1) (by omega)
    have g2 := g_room h2 h3 (a := k) (by omega)
    rw [show ((i + 1 : Nat) : Int) = 1 + (i : Int) by omega] at g1
    rw [hk]
    exact ⟨by omega, by omega, by omega, fun _ => ⟨⟨m_MO h2, m_PO h2 hp, by omega, by omega⟩, ⟨m_MO h2, m_PO h2 hp, by omega, by omega⟩, by omega⟩, fun z => absurd rfl z⟩
theorem sim_long {w v : z_Wd} (h2 : r_mi w v) (h3 : r_no w v) (hn : w 0 29 ≠ 0) : F_Y_longest v = F_M_longest w ∧ P_Y_longest v ∧ P_M_longest w := by
  have hd := g_ok h2 h3
  have e1 := h2.1
  have e2 := h2.2.1.2.1
  have q17 := h2.2.2.2.2.2.2.1
  have rg : ∀ i : Nat, 0 ≤ A_M_longest_4 w i ∧ A_M_longest_4 w i ≤ i := by
    intro i
    induction i with
    | zero => simp [A_M_longest_4]
    | succ i ih =>
      simp only [A_M_longest_4]
      split <;> omega
  have m1 : ∀ i : Nat, (i : Int) + 1 ≤ w 0 29 → A_Y_longest_4 v i = A_M_longest_4 w i := by
    intro i
    induction i with
    | zero => intro _; rfl
    | succ i ih =>
      intro hi
      have r := rg i
      obtain ⟨k, hk⟩ := Int.eq_ofNat_of_zero_le r.1
      have q1 := (h2.2.2.2.2.1 (i + 1) (by omega)).1
      have q2 := (h2.2.2.2.2.1 k (by omega)).1
      simp only [A_Y_longest_4, A_M_longest_4]
      rw [ih (by omega), hk, show (1 + (i : Int)) = ((i + 1 : Nat) : Int) by omega, (d_v2 (v := v) (n := i + 1) (by omega)).1, (d_v2 (v := v) (n := k) (by omega)).1, show (3 * ((i + 1 : Nat) : Int)).toNat = 3 * (i + 1) by omega, show (3 * (k : Int)).toNat = 3 * k by omega, q1.1, q2.1]
  refine ⟨?_, ?_, ?_⟩
  · unfold F_Y_longest F_M_longest
    rw [e1.2.1]
    exact m1 _ (by omega)
  · unfold P_Y_longest
    refine ⟨fun i hi => ?_, by omega, by omega⟩
    have r := rg i
    rw [← m1 i (by omega)] at r
    have r1 := d_rv hd (k := 2) (a := 1 + (i : Int)) (j := 0) (by omega) (by omega)
    have r2 := d_rv hd (k := 2) (a := A_Y_longest_4 v i) (j := 0) (by omega) (by omega)
    exact ⟨by omega, by omega, d_pv (by omega) (by omega) (by omega), d_pv (by omega) (by omega) (by omega), by omega, by omega⟩
  · unfold P_M_longest
    refine ⟨fun i hi => ?_, by omega, by omega⟩
    have r := rg i
    have r1 := q17 (3 * (1 + (i : Int))).toNat (by omega)
    have r2 := q17 (3 * A_M_longest_4 w i).toNat (by omega)
    exact ⟨by omega, by omega, by omega, by omega, by omega, by omega⟩
theorem sim_dear {w v : z_Wd} (h2 : r_mi w v) (h3 : r_no w v) : F_G_dearest v = F_M_dearest w ∧ P_G_dearest v ∧ P_M_dearest w := by
  have hd := g_ok h2 h3
  have hp := g_pl h2 h3
  have e1 := h2.1
  have e2 := h2.2.1.2.1
  have eI : F_K_inside v (-1) = ((zbits (fun i => v 42 i == -1) (w 0 29).toNat : Nat) : Int) := by rw [d_in hd, e1.2.1]
  have ek : ∀ n : Int, F_J_bitCount_0f7a4 v (zz_and (F_Y_knownBy v n) (F_K_inside v (-1))) = m_kn w n (fun i => g_T v i && v 42 i != -1) := fun n => by
    rw [eI]
    refine g_kno (v := v) h2 h2 (fun i _ => ?_)
    unfold g_T
    by_cases z : v 42 i = -1
    · simp [z]
    · have z2 : (v 42 i == -1) = false := beq_eq_false_iff_ne.mpr z
      simp [z2, bne]
  have em : ∀ n : Int, F_J_bitCount_0f7a4 w (zz_and (F_M_knownBy w n) (zz_xor (F_M_drowned w) (-1))) = m_kn w n (fun i => g_T v i && v 42 i != -1) := fun n => m_fri h2 hp
  have rk : ∀ n : Int, 0 ≤ m_kn w n (fun i => g_T v i && v 42 i != -1) ∧ m_kn w n (fun i => g_T v i && v 42 i != -1) ≤ 7 := fun n => m_knr h2
  have main : ∀ i : Nat, (i : Int) ≤ w 0 29 → (A_G_dearest_6 v i).1 = A_M_dearest_4 w i ∧ (-1 ≤ A_M_dearest_4 w i ∧ A_M_dearest_4 w i < i) ∧ (A_M_dearest_4 w i = -1 → (A_G_dearest_6 v i).2 = -1) ∧ (A_M_dearest_4 w i ≠ -1 → (A_G_dearest_6 v i).2 = m_kn w (A_M_dearest_4 w i) (fun i => g_T v i && v 42 i != -1)) := by
    intro i
    induction i with
    | zero => intro _; exact ⟨rfl, by simp [A_M_dearest_4], fun _ => rfl, fun z => absurd rfl z⟩
    | succ i ih =>
      intro hi
      obtain ⟨i1, i2, i3, i4⟩ := ih (by omega)
      have f1 := d_fr hd (n := i) (by omega)
      have f2 := g_frM h2 h3 (n := i) (by omega)
      have rki := rk (i : Int)
      simp only [A_G_dearest_6, A_M_dearest_4]
      rw [ek, em, em]
      simp only [f1.2, f2]
      by_cases c : v 42 i = -1
      · rw [if_neg (show ¬ v 42 i ≠ -1 by omega), if_neg (show ¬ v 42 i ≠ -1 by omega)]
        by_cases c2 : A_M_dearest_4 w i = -1
        · have := i3 c2
          rw [if_pos c2, if_neg (by omega)]
          exact ⟨rfl, by omega, fun z => by omega, fun _ => rfl⟩
        · have := i4 c2
          rw [if_neg c2, this]
          split
          · exact ⟨i1, by omega, fun z => absurd z c2, fun _ => rfl⟩
          · exact ⟨rfl, by omega, fun z => by omega, fun _ => rfl⟩
      · rw [if_pos c, if_pos c]
        exact ⟨i1, by omega, i3, i4⟩
  refine ⟨?_, ?_, ?_⟩
  · unfold F_G_dearest F_M_dearest
    rw [e1.2.1]
    exact (main _ (by omega)).1
  · unfold P_G_dearest
    refine ⟨fun i hi => ?_, by omega, by omega⟩
    obtain ⟨i1, i2, i3, i4⟩ := main i (by omega)
    have r1 := rk (i : Int)
    have r2 := rk (A_M_dearest_4 w i)
    rw [ek]
    refine ⟨by omega, by omega, p_kn hd (by omega), p_in hd (by omega), p_fr hd (by omega), fun _ => trivial, fun _ => ⟨by omega, ?_⟩⟩
    by_cases c : A_M_dearest_4 w i = -1
    · rw [i3 c]
      omega
    · rw [i4 c]
      omega
  · unfold P_M_dearest
    refine ⟨fun i hi => ?_, by omega, by omega⟩
    obtain ⟨i1, i2, i3, i4⟩ := main i (by omega)
    have r1 := rk (i : Int)
    have r2 := rk (A_M_dearest_4 w i)
    rw [em, em]
    exact ⟨by omega, by omega, p_Mfr h2 hp (by omega), fun _ => trivial, fun _ => ⟨by omega, fun _ => trivial, fun _ => ⟨⟨⟨m_MO h2, by omega⟩, p_Mdr h2 hp⟩, ⟨⟨m_MO h2, by omega⟩, p_Mdr h2 hp⟩, by omega, by omega⟩⟩⟩
/-! amnesty -/
theorem pl_wat {w v : z_Wd} {T : Nat → Bool} (h2 : r_mi w v) (hp : r_pl w v T) {a : Nat} (ha : a < 4) : r_pl (z_up w 19 a 0) v (fun i => T i && !(v 42 i == (a : Int))) := by
  obtain ⟨p1, p2, p3, p4, p5⟩ := hp
  have e28 : z_up w 19 a 0 0 28 = w 0 28 := by rw [z_up_other (by decide)]
  have e29 : z_up w 19 a 0 0 29 = w 0 29 := by rw [z_up_other (by decide)]
  have len : ∀ b, z_up w 19 a 0 19 b = if b = a then 0 else w 19 b := fun b => by
    by_cases e : b = a
    · rw [if_pos e, e, z_up_at]
    · rw [if_neg e, z_up_ne e]
  refine ⟨?_, ?_, ?_, ?_, ?_⟩
  · rw [e28, e29]
    exact p1
  · intro b hb
    rw [len b, e28]
    split
    · omega
    · exact p2 b hb
  · intro b i hb hi
    rw [len b] at hi
    by_cases e : b = a
    · rw [if_pos e] at hi
      omega
    · rw [if_neg e] at hi
      rw [len (4 + 7 * b + i), if_neg (by omega), e29]
      have q := p3 b i hb hi
      refine ⟨q.1, ?_, q.2.2⟩
      have : (v 42 (w 19 (4 + 7 * b + i)).toNat == (a : Int)) = false := beq_eq_false_iff_ne.mpr (by omega)
      show (T (w 19 (4 + 7 * b + i)).toNat && !(v 42 (w 19 (4 + 7 * b + i)).toNat == (a : Int))) = true
      rw [q.2.1, this]
      rfl
  · intro b i j hb hij hj
    rw [len b] at hj
    by_cases e : b = a
    · rw [if_pos e] at hj
      omega
    · rw [if_neg e] at hj
      rw [len (4 + 7 * b + i), len (4 + 7 * b + j), if_neg (by omega), if_neg (by omega)]
      exact p4 b i j hb hij hj
  · intro n hn hT hw
    rw [e29] at hn
    simp only [Bool.and_eq_true, Bool.not_eq_true', beq_eq_false_iff_ne] at hT
    obtain ⟨i, hi, ei⟩ := p5 n hn hT.1 hw
    have r := p1 n hn
    refine ⟨i, ?_, ?_⟩
    · rw [len, if_neg (by omega)]
      exact hi
    · rw [len, if_neg (by omega)]
      exact ei
theorem fr_19 {X : List Nat} {x x' : z_Wd} (f : z_fr X [] x x') (e : x' 19 = x 19) : z_fr (X.filter (fun k => k != 19)) [] x x' := fun k j a b => by
  by_cases c : k = 19
  · rw [c, e]
  · refine f k j ?_ b
    cases q : X.contains k with
    | false => rfl
    | true =>
      have : (X.filter (fun k => k != 19)).contains k = true := by
        rw [List.contains_iff_mem, List.mem_filter]
        exact ⟨List.contains_iff_mem.mp q, bne_iff_ne.mpr c⟩
      rw [this] at a
      cases a
theorem sim_am {w v : z_Wd} (h : r_all w v) (hn : w 0 29 ≠ 0) : (F_G_amnesty v).1 = (F_M_amnesty w).1 ∧ P_G_amnesty v ∧ P_M_amnesty w ∧ r_all (F_M_amnesty w).2 (F_G_amnesty v).2 := by
  obtain ⟨h1, h2, h3, h4, h5, h6, h7, h8, h9, h10⟩ := id h
  have e1 := h2.1
  have e2 := h2.2.1
  unfold r_mn at e2
  have one : ∀ (x u : z_Wd) (a : Nat), r_all x u → (a : Int) < x 0 28 → x 0 28 ≤ 4 → (P_K_inside u (a : Int) ∧ P_G_withoutThese u (F_K_inside u (a : Int))) ∧ P_M_missedAll (z_up x 19 a 0) ∧ (F_G_withoutThese u (F_K_inside u (a : Int))).1 = (F_M_missedAll (z_up x 19 a 0)).1 ∧ (0 ≤ (F_M_missedAll (z_up x 19 a 0)).1 ∧ (F_M_missedAll (z_up x 19 a 0)).1 ≤ 210) ∧ r_all (z_up (F_M_missedAll (z_up x 19 a 0)).2 19 a (x 19 a)) (F_G_withoutThese u (F_K_inside u (a : Int))).2 ∧ z_up (F_M_missedAll (z_up x 19 a 0)).2 19 a (x 19 a) 0 28 = x 0 28 ∧ (F_G_withoutThese u (F_K_inside u (a : Int))).2 32 1 = u 32 1 := by
    intro x u a hx ha h4
    obtain ⟨g1, g2, g3, g4, g5, g6, g7, g8, g9, g10⟩ := id hx
    have hd := g_ok g2 g3
    have hp := g_pl g2 g3
    have e9 := g3.1.2.2.2.2.2.2.2.2
    have f0 : z_fr [19] [] x (z_up x 19 a 0) := fr_up rfl fr_rf
    have m0 := y_mi g2 f0 fr_0 rfl
    have l0 := y_la g6 f0 fr_0 rfl
    have e29 : z_up x 19 a 0 0 29 = x 0 29 := by rw [z_up_other (by decide)]
    have eI : F_K_inside u (a : Int) = ((zbits (fun i => u 42 i == (a : Int)) (z_up x 19 a 0 0 29).toNat : Nat) : Int) := by rw [d_in hd, g2.1.2.1, e29]
    obtain ⟨s1, s2, s3, s4⟩ := sim_ma (T := fun i => g_T u i && !(u 42 i == (a : Int))) (U := fun i => u 42 i == (a : Int)) m0 l0 hd (pl_wat g2 hp (by omega)) e9.2 (by rw [z_up_ne (by omega)]; exact e9.1) (fun i => rfl)
    rw [← eI] at s1 s3
    have fM : z_fr [9, 10] [] (z_up x 19 a 0) (F_M_missedAll (z_up x 19 a 0)).2 := fr_F_M_missedAll
    have fA : z_fr [9, 10, 19] [] x (z_up (F_M_missedAll (z_up x 19 a 0)).2 19 a (x 19 a)) := fr_up rfl (fr_tr (fr_wk f0 rfl rfl) (fr_wk fM rfl rfl))
    have c19 : z_up (F_M_missedAll (z_up x 19 a 0)).2 19 a (x 19 a) 19 = x 19 := by
      funext j
      by_cases c : j = a
      · rw [c, z_up_at]
      · rw [z_up_ne c, fr_c fM 19 rfl rfl, z_up_ne c]
    have fG : z_fr [57, 60, 63, 66, 69] [(58, 3), (61, 3), (64, 3), (67, 3)] u (F_G_withoutThese u (F_K_inside u (a : Int))).2 := fr_F_G_withoutThese
    exact ⟨⟨p_in hd (by omega), s1⟩, s2, s3, s4, rl_fr2 hx (fr_wk (fr_19 fA c19) rfl rfl) (fr_wk fG rfl rfl), fr_f fA 0 28 rfl rfl, fr_f fG 32 1 rfl rfl⟩
  have main : ∀ i : Nat, (i : Int) + 1 ≤ w 0 28 → (A_G_amnesty_17 v i).1 = (A_M_amnesty_6 w (i + 1)).1 ∧ (A_G_amnesty_17 v i).2.1 = (A_M_amnesty_6 w (i + 1)).2.1 ∧ r_all (A_M_amnesty_6 w (i + 1)).2.2 (A_G_amnesty_17 v i).2.2 ∧ (0 ≤ (A_M_amnesty_6 w (i + 1)).1 ∧ (A_M_amnesty_6 w (i + 1)).1 ≤ i) ∧ (0 ≤ (A_M_amnesty_6 w (i + 1)).2.1 ∧ (A_M_amnesty_6 w (i + 1)).2.1 ≤ 210) ∧ (A_M_amnesty_6 w (i + 1)).2.2 0 28 = w 0 28 ∧ (A_G_amnesty_17 v i).2.2 32 1 = v 32 1 := by
    intro i
    induction i with
    | zero =>
      intro hi
      obtain ⟨o1, o2, o3, o4, o5, o6, o7⟩ := one w v 0 h (by omega) (by omega)
      simp only [A_G_amnesty_17, A_M_amnesty_6]
      rw [if_pos trivial]
      exact ⟨rfl, o3, o5, ⟨by simp, by simp⟩, o4, o6, o7⟩
    | succ i ih =>
      intro hi
      obtain ⟨i1, i2, i3, i4, i5, i6, i7⟩ := ih (by omega)
      obtain ⟨o1, o2, o3, o4, o5, o6, o7⟩ := one _ _ (i + 1) i3 (by rw [i6]; omega) (by rw [i6]; omega)
      have eA : A_M_amnesty_6 w (i + 1 + 1) = if (A_M_amnesty_6 w (i + 1)).1 = (-1) then (((i + 1 : Nat) : Int), (F_M_missedAll (z_up ((A_M_amnesty_6 w (i + 1)).2.2) 19 (((i + 1 : Nat) : Int).toNat) 0)).1, z_up ((F_M_missedAll (z_up ((A_M_amnesty_6 w (i + 1)).2.2) 19 (((i + 1 : Nat) : Int).toNat) 0)).2) 19 (((i + 1 : Nat) : Int).toNat) (((A_M_amnesty_6 w (i + 1)).2.2) 19 (((i + 1 : Nat) : Int).toNat))) else if (F_M_missedAll (z_up ((A_M_amnesty_6 w (i + 1)).2.2) 19 (((i + 1 : Nat) : Int).toNat) 0)).1 ≥ (A_M_amnesty_6 w (i + 1)).2.1 then ((A_M_amnesty_6 w (i + 1)).1, (A_M_amnesty_6 w (i + 1)).2.1, z_up ((F_M_missedAll (z_up ((A_M_amnesty_6 w (i + 1)).2.2) 19 (((i + 1 : Nat) : Int).toNat) 0)).2) 19 (((i + 1 : Nat) : Int).toNat) (((A_M_amnesty_6 w (i + 1)).2.2) 19 (((i + 1 : Nat) : Int).toNat))) else (((i + 1 : Nat) : Int), (F_M_missedAll (z_up ((A_M_amnesty_6 w (i + 1)).2.2) 19 (((i + 1 : Nat) : Int).toNat) 0)).1, z_up ((F_M_missedAll (z_up ((A_M_amnesty_6 w (i + 1)).2.2) 19 (((i + 1 : Nat) : Int).toNat) 0)).2) 19 (((i + 1 : Nat) : Int).toNat) (((A_M_amnesty_6 w (i + 1)).2.2) 19 (((i + 1 : Nat) : Int).toNat))) := rfl
      rw [eA]
      simp only [A_G_amnesty_17]
      generalize A_M_amnesty_6 w (i + 1) = M at *
      generalize A_G_amnesty_17 v i = G at *
      rw [Int.toNat_natCast, show (1 + (i : Int)) = ((i + 1 : Nat) : Int) by omega, o3, i1, i2, if_neg (show ¬ M.1 = -1 by omega)]
      split
      · exact ⟨rfl, rfl, o5, by dsimp only; omega, i5, by dsimp only; rw [o6, i6], by dsimp only; rw [o7, i7]⟩
      · exact ⟨rfl, rfl, o5, by dsimp only; omega, o4, by dsimp only; rw [o6, i6], by dsimp only; rw [o7, i7]⟩
  obtain ⟨z1, z2, z3, z4, z5, z6, z7⟩ := one w v 0 h (by omega) (by omega)
  have v0 : (F_G_withoutThese v (F_K_inside v 0)).2 32 1 = w 0 28 := by
    have := z7
    rw [e1.1] at this
    exact this
  obtain ⟨n, hn1⟩ : ∃ n : Nat, (w 0 28).toNat = n + 1 := ⟨(w 0 28).toNat - 1, by omega⟩
  have hm := main n (by omega)
  refine ⟨?_, ?_, ?_, ?_⟩
  · unfold F_G_amnesty F_M_amnesty
    rw [v0, hn1, show (w 0 28 - 1).toNat = n by omega]
    exact hm.1
  · unfold P_G_amnesty
    rw [v0]
    refine ⟨z1.1, z1.2, fun i hi => ?_, by omega, ?_, ?_⟩
    · obtain ⟨i1, i2, i3, i4, i5, i6, i7⟩ := main i (by omega)
      obtain ⟨o1, o2, o3, o4, o5, o6, o7⟩ := one _ _ (i + 1) i3 (by rw [i6]; omega) (by rw [i6]; omega)
      rw [show ((i + 1 : Nat) : Int) = 1 + (i : Int) by omega] at o1 o3
      rw [i7, i2, o3]
      exact ⟨by omega, by omega, by omega, o1.1, o1.2, by omega, by omega⟩
    · rw [show (w 0 28 - 1).toNat = n by omega, hm.2.2.2.2.2.2]
      omega
    · rw [show (w 0 28 - 1).toNat = n by omega, hm.2.2.2.2.2.2]
      omega
  · unfold P_M_amnesty
    refine ⟨fun i hi => ?_, by omega, ?_, ?_⟩
    · cases i with
      | zero =>
        have e0 : A_M_amnesty_6 w 0 = ((-1), 0, w) := rfl
        rw [e0, Int.toNat_natCast]
        exact ⟨by omega, by dsimp only; omega, rfl, by omega, z2, (show -2147483648 ≤ (-1 : Int) ∧ (-1 : Int) < 2147483648 by decide), fun _ => trivial, fun z => absurd rfl z⟩
      | succ i =>
        obtain ⟨i1, i2, i3, i4, i5, i6, i7⟩ := main i (by omega)
        obtain ⟨o1, o2, o3, o4, o5, o6, o7⟩ := one _ _ (i + 1) i3 (by rw [i6]; omega) (by rw [i6]; omega)
        rw [Int.toNat_natCast, i6]
        exact ⟨by omega, by omega, rfl, by omega, o2, by omega, fun _ => trivial, fun _ => ⟨by omega, by omega⟩⟩
    · rw [hn1, hm.2.2.2.2.2.1]
      omega
    · rw [hn1, hm.2.2.2.2.2.1]
  · unfold F_G_amnesty F_M_amnesty
    rw [v0, hn1, show (w 0 28 - 1).toNat = n by omega]
    exact hm.2.2.1
