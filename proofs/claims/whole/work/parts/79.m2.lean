/-! missed: the class -/
theorem mx_r {u : z_Wd} {x : Int} (h : -1000000 ≤ x ∧ x ≤ 1000000) : P_J_min_7cf53 u 30 x ∧ P_J_max_7cf53 u 0 (F_J_min_7cf53 u 30 x) := by
  unfold P_J_min_7cf53 P_J_max_7cf53 F_J_min_7cf53
  refine ⟨⟨by omega, by omega⟩, by omega, ?_⟩
  split <;> omega
theorem l_hdr {bs : List Bool} {s : List Int} (h : l_so bs s) : -1000000 ≤ l_hd s ∧ l_hd s ≤ 1000000 := by
  match bs, s, h with
  | [], [], _ => exact ⟨by decide, by decide⟩
  | _ :: _, x :: _, h => exact h.1
theorem l_resr {code val le tf sf st row : Nat → Int} {ncl len : Int} (h : l_one code val tf sf st ncl row len) (hle : ∀ i, i < 6 → -1000000 ≤ le i ∧ le i ≤ 1000000) : ∀ n c : Nat, (c : Int) + n = ncl → -1000000 ≤ l_res code val le tf sf st n c ∧ l_res code val le tf sf st n c ≤ 1000000
  | 0, _, _ => ⟨by simp [l_res], by simp [l_res]⟩
  | n + 1, c, hc => by
    obtain ⟨o1, o2, K, K0, Kn, Kc⟩ := id h
    obtain ⟨b1, b2, b3, b4, b5, b6⟩ := Kc c (by omega)
    simp only [l_res]
    split
    · exact l_hdr (l_ok (val := val) hle (fun i hi => (b2 i hi).1) b3)
    · exact l_resr h hle n (c + 1) (by omega)
theorem G_key {w v V : z_Wd} {n : Nat} {kn b a : Int} (h6 : r_la w v) (hle : ∀ i, i < 6 → -1000000 ≤ m_LE v n kn b a i ∧ m_LE v n kn b a i ≤ 1000000) (hV : ∀ i, i < 6 → V 57 i = m_LE v n kn b a i) (f : z_fr [57] [] v V) (h0 : 0 ≤ w 0 33) : (-1000000 ≤ (l_res (fun k => w 2 (520 * (w 0 33).toNat + k)) (fun k => w 3 (520 * (w 0 33).toNat + k)) (m_LE v n kn b a) (fun k => w 6 (140 * (w 0 33).toNat + k)) (fun k => w 7 (140 * (w 0 33).toNat + k)) (fun k => w 8 (140 * (w 0 33).toNat + k)) (w 5 (w 0 33).toNat).toNat 0) ∧ (l_res (fun k => w 2 (520 * (w 0 33).toNat + k)) (fun k => w 3 (520 * (w 0 33).toNat + k)) (m_LE v n kn b a) (fun k => w 6 (140 * (w 0 33).toNat + k)) (fun k => w 7 (140 * (w 0 33).toNat + k)) (fun k => w 8 (140 * (w 0 33).toNat + k)) (w 5 (w 0 33).toNat).toNat 0) ≤ 1000000) ∧ (v 55 5 = 0 → (F_W_weigh_58_57 V).1 = (l_res (fun k => w 2 (520 * (w 0 33).toNat + k)) (fun k => w 3 (520 * (w 0 33).toNat + k)) (m_LE v n kn b a) (fun k => w 6 (140 * (w 0 33).toNat + k)) (fun k => w 7 (140 * (w 0 33).toNat + k)) (fun k => w 8 (140 * (w 0 33).toNat + k)) (w 5 (w 0 33).toNat).toNat 0) ∧ P_W_weigh_58_57 V) ∧ (v 55 5 = 1 → (F_W_weigh_61_57 V).1 = (l_res (fun k => w 2 (520 * (w 0 33).toNat + k)) (fun k => w 3 (520 * (w 0 33).toNat + k)) (m_LE v n kn b a) (fun k => w 6 (140 * (w 0 33).toNat + k)) (fun k => w 7 (140 * (w 0 33).toNat + k)) (fun k => w 8 (140 * (w 0 33).toNat + k)) (w 5 (w 0 33).toNat).toNat 0) ∧ P_W_weigh_61_57 V) ∧ (v 55 5 = 2 → (F_W_weigh_64_57 V).1 = (l_res (fun k => w 2 (520 * (w 0 33).toNat + k)) (fun k => w 3 (520 * (w 0 33).toNat + k)) (m_LE v n kn b a) (fun k => w 6 (140 * (w 0 33).toNat + k)) (fun k => w 7 (140 * (w 0 33).toNat + k)) (fun k => w 8 (140 * (w 0 33).toNat + k)) (w 5 (w 0 33).toNat).toNat 0) ∧ P_W_weigh_64_57 V) ∧ (v 55 5 = 3 → (F_W_weigh_67_57 V).1 = (l_res (fun k => w 2 (520 * (w 0 33).toNat + k)) (fun k => w 3 (520 * (w 0 33).toNat + k)) (m_LE v n kn b a) (fun k => w 6 (140 * (w 0 33).toNat + k)) (fun k => w 7 (140 * (w 0 33).toNat + k)) (fun k => w 8 (140 * (w 0 33).toNat + k)) (w 5 (w 0 33).toNat).toNat 0) ∧ P_W_weigh_67_57 V) := by
  obtain ⟨a1, a2, a3, a4⟩ := h6
  have hVr : ∀ i, i < 6 → -1000000 ≤ V 57 i ∧ V 57 i ≤ 1000000 := fun i hi => by rw [hV i hi]; exact hle i hi
  have hL := a4 (w 0 33).toNat (by omega)
  have hN := hL.1
  refine ⟨l_resr hL hle _ 0 (by omega), fun z => ?_, fun z => ?_, fun z => ?_, fun z => ?_⟩
  · have e : (w 0 33).toNat = 0 := by omega
    rw [e] at hL hN ⊢
    have hL' : l_one (fun k => w 2 (520 * 0 + k)) (fun k => w 3 (520 * 0 + k)) (fun k => w 6 (140 * 0 + k)) (fun k => w 7 (140 * 0 + k)) (fun k => w 8 (140 * 0 + k)) (w 5 0) (V 59) (V 58 2) := by
      rw [fr_c f 59 rfl rfl, fr_f f 58 2 rfl rfl]
      exact hL
    obtain ⟨p1, p2, -⟩ := w58_all hL' hVr
    refine ⟨?_, p2⟩
    rw [p1]
    exact l_resc hL hV _ 0 (by omega)
  · have e : (w 0 33).toNat = 1 := by omega
    rw [e] at hL hN ⊢
    have hL' : l_one (fun k => w 2 (520 * 1 + k)) (fun k => w 3 (520 * 1 + k)) (fun k => w 6 (140 * 1 + k)) (fun k => w 7 (140 * 1 + k)) (fun k => w 8 (140 * 1 + k)) (w 5 1) (V 62) (V 61 2) := by
      rw [fr_c f 62 rfl rfl, fr_f f 61 2 rfl rfl]
      exact hL
    obtain ⟨p1, p2, -⟩ := w61_all hL' hVr
    refine ⟨?_, p2⟩
    rw [p1]
    exact l_resc hL hV _ 0 (by omega)
  · have e : (w 0 33).toNat = 2 := by omega
    rw [e] at hL hN ⊢
    have hL' : l_one (fun k => w 2 (520 * 2 + k)) (fun k => w 3 (520 * 2 + k)) (fun k => w 6 (140 * 2 + k)) (fun k => w 7 (140 * 2 + k)) (fun k => w 8 (140 * 2 + k)) (w 5 2) (V 65) (V 64 2) := by
      rw [fr_c f 65 rfl rfl, fr_f f 64 2 rfl rfl]
      exact hL
    obtain ⟨p1, p2, -⟩ := w64_all hL' hVr
    refine ⟨?_, p2⟩
    rw [p1]
    exact l_resc hL hV _ 0 (by omega)
  · have e : (w 0 33).toNat = 3 := by omega
    rw [e] at hL hN ⊢
    have hL' : l_one (fun k => w 2 (520 * 3 + k)) (fun k => w 3 (520 * 3 + k)) (fun k => w 6 (140 * 3 + k)) (fun k => w 7 (140 * 3 + k)) (fun k => w 8 (140 * 3 + k)) (w 5 3) (V 68) (V 67 2) := by
      rw [fr_c f 68 rfl rfl, fr_f f 67 2 rfl rfl]
      exact hL
    obtain ⟨p1, p2, -⟩ := w67_all hL' hVr
    refine ⟨?_, p2⟩
    rw [p1]
    exact l_resc hL hV _ 0 (by omega)
theorem G_mi {w v : z_Wd} (h2 : r_mi w v) (h6 : r_la w v) (hd : d_ok v) (hy : 0 ≤ v 41 8 ∧ v 41 8 ≤ 999) {n : Nat} (hn : (n : Int) < w 0 29) {kn b a f : Int} (ekn : F_J_bitCount_0f7a4 v (zz_and (F_Y_knownBy v (n : Int)) f) = kn) (hk : 0 ≤ kn ∧ kn ≤ 7) (hb : 0 ≤ b ∧ b ≤ 68607) (ha : 0 ≤ a ∧ a ≤ 4) : (F_G_missedIn v a (n : Int) b f).1 = m_MS w v n kn b a ∧ P_G_missedIn v a (n : Int) b f := by
  have e7 := h2.2.1.2.1
  have hle := m_LEr h2 hy hn hk hb ha
  obtain ⟨a1, a2, a3, a4⟩ := id h6
  have q := h2.2.2.2.2.1 n hn
  have v2 := d_v2 (v := v) (n := n) (by omega)
  have pk : P_Y_knownBy v (n : Int) := p_kn hd (by omega)
  have pv : P_Y_value v 2 (n : Int) 0 := d_pv (by omega) (by omega) (by omega)
  unfold F_G_missedIn P_G_missedIn m_MS
  rw [ekn]
  by_cases c : v 55 5 < 0
  · rw [if_pos c, if_pos (by omega), v2.1]
    exact ⟨rfl, pk, by omega, fun _ => pv, fun z => absurd c z⟩
  · rw [if_neg c, if_pos (show v 55 5 < 4 by omega), if_neg (show ¬ w 0 33 = -1 by omega)]
    have fo : ∀ V : z_Wd, V 31 = v 31 → F_Y_isForeign V (n : Int) = v 31 (15 + 3 * n + 2) ∧ P_Y_isForeign V (n : Int) := fun V e => by
      unfold F_Y_isForeign P_Y_isForeign
      rw [x_val e, v2.2.2]
      refine ⟨?_, d_pv (by omega) (by omega) (by omega), by omega⟩
      rcases q.2.2.2 with z | z <;> rw [z] <;> decide
    obtain ⟨fo1, fo2⟩ := fo (z_up (z_up (z_up v 57 0 (F_Y_value v 2 (n : Int) 0)) 57 1 kn) 57 2 b) (by rw [z_up_other (by decide), z_up_other (by decide), z_up_other (by decide)])
    rw [fo1]
    have fin : ∀ V : z_Wd, (∀ i, i < 6 → V 57 i = m_LE v n kn b a i) → z_fr [57] [] v V → ((v 55 5 = 0 → F_J_max_7cf53 (F_W_weigh_58_57 V).2 0 (F_J_min_7cf53 (F_W_weigh_58_57 V).2 30 (F_W_weigh_58_57 V).1) = F_J_max_7cf53 w 0 (F_J_min_7cf53 w 30 (l_res (fun k => w 2 (520 * (w 0 33).toNat + k)) (fun k => w 3 (520 * (w 0 33).toNat + k)) (m_LE v n kn b a) (fun k => w 6 (140 * (w 0 33).toNat + k)) (fun k => w 7 (140 * (w 0 33).toNat + k)) (fun k => w 8 (140 * (w 0 33).toNat + k)) (w 5 (w 0 33).toNat).toNat 0)) ∧ P_W_weigh_58_57 V ∧ P_J_min_7cf53 (F_W_weigh_58_57 V).2 30 (F_W_weigh_58_57 V).1 ∧ P_J_max_7cf53 (F_W_weigh_58_57 V).2 0 (F_J_min_7cf53 (F_W_weigh_58_57 V).2 30 (F_W_weigh_58_57 V).1)) ∧ (v 55 5 = 1 → F_J_max_7cf53 (F_W_weigh_61_57 V).2 0 (F_J_min_7cf53 (F_W_weigh_61_57 V).2 30 (F_W_weigh_61_57 V).1) = F_J_max_7cf53 w 0 (F_J_min_7cf53 w 30 (l_res (fun k => w 2 (520 * (w 0 33).toNat + k)) (fun k => w 3 (520 * (w 0 33).toNat + k)) (m_LE v n kn b a) (fun k => w 6 (140 * (w 0 33).toNat + k)) (fun k => w 7 (140 * (w 0 33).toNat + k)) (fun k => w 8 (140 * (w 0 33).toNat + k)) (w 5 (w 0 33).toNat).toNat 0)) ∧ P_W_weigh_61_57 V ∧ P_J_min_7cf53 (F_W_weigh_61_57 V).2 30 (F_W_weigh_61_57 V).1 ∧ P_J_max_7cf53 (F_W_weigh_61_57 V).2 0 (F_J_min_7cf53 (F_W_weigh_61_57 V).2 30 (F_W_weigh_61_57 V).1)) ∧ (v 55 5 = 2 → F_J_max_7cf53 (F_W_weigh_64_57 V).2 0 (F_J_min_7cf53 (F_W_weigh_64_57 V).2 30 (F_W_weigh_64_57 V).1) = F_J_max_7cf53 w 0 (F_J_min_7cf53 w 30 (l_res (fun k => w 2 (520 * (w 0 33).toNat + k)) (fun k => w 3 (520 * (w 0 33).toNat + k)) (m_LE v n kn b a) (fun k => w 6 (140 * (w 0 33).toNat + k)) (fun k => w 7 (140 * (w 0 33).toNat + k)) (fun k => w 8 (140 * (w 0 33).toNat + k)) (w 5 (w 0 33).toNat).toNat 0)) ∧ P_W_weigh_64_57 V ∧ P_J_min_7cf53 (F_W_weigh_64_57 V).2 30 (F_W_weigh_64_57 V).1 ∧ P_J_max_7cf53 (F_W_weigh_64_57 V).2 0 (F_J_min_7cf53 (F_W_weigh_64_57 V).2 30 (F_W_weigh_64_57 V).1)) ∧ (v 55 5 = 3 → F_J_max_7cf53 (F_W_weigh_67_57 V).2 0 (F_J_min_7cf53 (F_W_weigh_67_57 V).2 30 (F_W_weigh_67_57 V).1) = F_J_max_7cf53 w 0 (F_J_min_7cf53 w 30 (l_res (fun k => w 2 (520 * (w 0 33).toNat + k)) (fun k => w 3 (520 * (w 0 33).toNat + k)) (m_LE v n kn b a) (fun k => w 6 (140 * (w 0 33).toNat + k)) (fun k => w 7 (140 * (w 0 33).toNat + k)) (fun k => w 8 (140 * (w 0 33).toNat + k)) (w 5 (w 0 33).toNat).toNat 0)) ∧ P_W_weigh_67_57 V ∧ P_J_min_7cf53 (F_W_weigh_67_57 V).2 30 (F_W_weigh_67_57 V).1 ∧ P_J_max_7cf53 (F_W_weigh_67_57 V).2 0 (F_J_min_7cf53 (F_W_weigh_67_57 V).2 30 (F_W_weigh_67_57 V).1))) := by
      intro V hV fV
      obtain ⟨r, k0, k1, k2, k3⟩ := G_key h6 hle hV fV (by omega)
      refine ⟨fun z => ?_, fun z => ?_, fun z => ?_, fun z => ?_⟩
      · obtain ⟨e, p⟩ := k0 z
        rw [e]
        exact ⟨rfl, p, mx_r r⟩
      · obtain ⟨e, p⟩ := k1 z
        rw [e]
        exact ⟨rfl, p, mx_r r⟩
      · obtain ⟨e, p⟩ := k2 z
        rw [e]
        exact ⟨rfl, p, mx_r r⟩
      · obtain ⟨e, p⟩ := k3 z
        rw [e]
        exact ⟨rfl, p, mx_r r⟩
    have six : ∀ x : Int, x = v 31 (15 + 3 * n + 2) → ∀ i, i < 6 → (z_up (z_up (z_up (z_up (z_up (z_up v 57 0 (F_Y_value v 2 (n : Int) 0)) 57 1 kn) 57 2 b) 57 3 x) 57 4 a) 57 5 (v 41 8)) 57 i = m_LE v n kn b a i := by
      intro x hx i hi
      have : i = 0 ∨ i = 1 ∨ i = 2 ∨ i = 3 ∨ i = 4 ∨ i = 5 := by omega
      unfold m_LE
      rcases this with rfl | rfl | rfl | rfl | rfl | rfl
      · simp [z_up, v2.1]
      · simp [z_up]
      · simp [z_up]
      · simp [z_up, hx]
      · simp [z_up]
      · simp [z_up]
    have frm : ∀ x : Int, z_fr [57] [] v (z_up (z_up (z_up (z_up (z_up (z_up v 57 0 (F_Y_value v 2 (n : Int) 0)) 57 1 kn) 57 2 b) 57 3 x) 57 4 a) 57 5 (v 41 8)) := fun x => fr_up rfl (fr_up rfl (fr_up rfl (fr_up rfl (fr_up rfl (fr_up rfl fr_rf)))))
    rcases q.2.2.2 with z0 | z0
    · obtain ⟨t0, t1, t2, t3⟩ := fin _ (six 0 z0.symm) (frm 0)
      rw [z0, if_pos rfl]
      refine ⟨?_, pk, by omega, fun z => absurd z c, fun _ => ⟨fun _ => ⟨pv, fo2, fun _ => ⟨by omega, fun y => (t0 y).2, fun y0 => ⟨fun y => (t1 y).2, fun y1 => ⟨fun y => (t2 y).2, fun y2 => (t3 (by omega)).2⟩⟩⟩, fun z => absurd rfl z⟩, fun z => absurd (show v 55 5 < 4 by omega) z⟩⟩
      split
      · rename_i y
        exact (t0 y).1
      · split
        · rename_i y
          exact (t1 y).1
        · split
          · rename_i y
            exact (t2 y).1
          · exact (t3 (by omega)).1
    · obtain ⟨t0, t1, t2, t3⟩ := fin _ (six 1 z0.symm) (frm 1)
      rw [z0, if_neg (by decide)]
      refine ⟨?_, pk, by omega, fun z => absurd z c, fun _ => ⟨fun _ => ⟨pv, fo2, fun z => absurd z (by decide), fun _ => ⟨by omega, fun y => (t0 y).2, fun y0 => ⟨fun y => (t1 y).2, fun y1 => ⟨fun y => (t2 y).2, fun y2 => (t3 (by omega)).2⟩⟩⟩⟩, fun z => absurd (show v 55 5 < 4 by omega) z⟩⟩
      split
      · rename_i y
        exact (t0 y).1
      · split
        · rename_i y
          exact (t1 y).1
        · split
          · rename_i y
            exact (t2 y).1
          · exact (t3 (by omega)).1
/-! missed: the reference -/
def m_kn (w : z_Wd) (n : Int) (D : Nat → Bool) : Int := ((zcnt (fun i => B_M_knownBy w n i && !D i) (w 0 29).toNat : Nat) : Int)
def m_ab (v : z_Wd) (n : Nat) (T : Nat → Bool) (nn : Int) : Int := zsum (fun i => if T i && dv_o v i n then dv_d v i else 0) nn.toNat
theorem m_abr {w v : z_Wd} (h2 : r_mi w v) (hd : d_ok v) {n : Nat} {T : Nat → Bool} : 0 ≤ m_ab v n T (w 0 29) ∧ m_ab v n T (w 0 29) ≤ 68607 := by
  have := d_sr hd (fun i => T i && dv_o v i n)
  rw [h2.1.2.1] at this
  exact this
theorem m_knr {w v : z_Wd} (h2 : r_mi w v) {n : Int} {D : Nat → Bool} : 0 ≤ m_kn w n D ∧ m_kn w n D ≤ 7 := by
  have h7 := h2.2.1.2.1
  have := zcnt_le (fun i => B_M_knownBy w n i && !D i) (w 0 29).toNat
  unfold m_kn
  omega
theorem m_fri {w u v : z_Wd} {T : Nat → Bool} (h2 : r_mi w v) (hp : r_pl w v T) {n : Int} : F_J_bitCount_0f7a4 u (zz_and (F_M_knownBy w n) (zz_xor (F_M_drowned w) (-1))) = m_kn w n (fun i => T i && v 42 i != -1) := by
  have h7 := h2.2.1.2.1
  rw [m_dr h2 hp]
  unfold F_M_knownBy m_kn
  rw [bt_not (by omega) (by omega), bt_cnt (by omega)]
  congr 1
  refine zcnt_c _ (fun i hi => ?_)
  simp [hi]
theorem m_abO {w v : z_Wd} {T : Nat → Bool} (h2 : r_mi w v) (hp : r_pl w v T) {n : Nat} (hn : (n : Int) < w 0 29) (hT : T n = true ∨ v 42 n = -1) : F_M_aboveOf w (n : Int) = m_ab v n T (w 0 29) ∧ P_M_aboveOf w (n : Int) := by
  have h7 := h2.2.1.2.1
  have r := r_Mwo (w := w) h2.2.1.1 (a := (n : Int))
  have ew := m_wo h2 hp hn
  have pw : P_M_wellOf w (n : Int) := p_Mwo h2 hp (by omega)
  unfold F_M_aboveOf P_M_aboveOf
  by_cases c : v 42 n = -1
  · have ew1 : F_M_wellOf w (n : Int) = -1 := by
      rw [ew]
      split
      · exact c
      · rfl
    rw [ew1, if_pos rfl]
    refine ⟨?_, pw, by omega, fun _ => trivial, fun z => absurd rfl z⟩
    unfold m_ab
    symm
    refine su_none _ (fun i _ => ?_)
    have : dv_o v i n = false := by
      unfold dv_o
      rw [c]
      by_cases z : v 42 i = -1
      · simp [z]
      · simp [z]
    rw [this, Bool.and_false]
    rfl
  · have hT2 : T n = true := hT.resolve_right c
    rw [if_pos hT2] at ew
    have rn := hp.1 n hn
    obtain ⟨a, ha⟩ := Int.eq_ofNat_of_zero_le (by omega : 0 ≤ v 42 n)
    obtain ⟨i, hi, ei, el⟩ := m_lyY hp (a := a) (by have := h2.2.1.1; omega) hn hT2 ha
    have a4 : a < 4 := by have := h2.2.1.1; omega
    rw [ew, ha, if_neg (by omega), el, m_aab h2 hp a4 hi, ei, Int.toNat_natCast]
    refine ⟨rfl, pw, by omega, fun z => by omega, fun _ => ⟨⟨m_PO h2 hp, by omega, by omega⟩, m_MO h2, m_PO h2 hp, by omega, by omega, ?_⟩⟩
    rw [Int.toNat_natCast]
    exact hi
theorem M_mi {w v : z_Wd} {T : Nat → Bool} (h2 : r_mi w v) (h6 : r_la w v) (hd : d_ok v) (hp : r_pl w v T) (hy : 0 ≤ v 41 8 ∧ v 41 8 ≤ 999) (hye : w 19 38 = v 41 8) {n : Nat} (hn : (n : Int) < w 0 29) (hT : T n = true ∨ v 42 n = -1) : (F_M_missedOf w (n : Int)).1 = m_MS w v n (m_kn w (n : Int) (fun i => T i && v 42 i != -1)) (m_ab v n T (w 0 29)) (if v 42 n = -1 then w 0 28 else v 42 n) ∧ P_M_missedOf w (n : Int) := by
  have e7 := h2.2.1
  unfold r_mn at e7
  obtain ⟨a1, a2, a3, a4⟩ := id h6
  have q := h2.2.2.2.2.1 n hn
  have rk := m_knr h2 (n := (n : Int)) (D := fun i => T i && v 42 i != -1)
  have rb := m_abr h2 hd (n := n) (T := T)
  have rn := hp.1 n hn
  have ra : 0 ≤ (if v 42 n = -1 then w 0 28 else v 42 n) ∧ (if v 42 n = -1 then w 0 28 else v 42 n) ≤ 4 := by split <;> omega
  have hle := m_LEr h2 hy hn rk rb ra
  have x0 : (3 * (n : Int)).toNat = 3 * n := by omega
  have x2 : (3 * (n : Int) + 2).toNat = 3 * n + 2 := by omega
  have wld : ∀ u : z_Wd, z_fr [9] [] w u → r_mi u v ∧ r_pl u v T ∧ r_la u v := fun u fu => ⟨y_mi h2 fu fr_0 rfl, pl_c hp (fr_f fu 0 28 rfl rfl) (fr_f fu 0 29 rfl rfl) (fr_c fu 19 rfl rfl), y_la h6 fu fr_0 rfl⟩
  have kn9 : ∀ u : z_Wd, z_fr [9] [] w u → m_kn u (n : Int) (fun i => T i && v 42 i != -1) = m_kn w (n : Int) (fun i => T i && v 42 i != -1) := fun u fu => by
    unfold m_kn B_M_knownBy
    rw [fr_c fu 17 rfl rfl, fr_f fu 0 29 rfl rfl]
  unfold F_M_missedOf P_M_missedOf
  rw [x0, x2, q.1.1, q.2.2.1, hye]
  rw [m_fri h2 hp]
  generalize hkn : m_kn w (n : Int) (fun i => T i && v 42 i != -1) = kn at *
  generalize hab : m_ab v n T (w 0 29) = b at *
  have pk : P_M_knownBy w (n : Int) ∧ P_M_drowned w := ⟨⟨m_MO h2, by omega⟩, p_Mdr h2 hp⟩
  by_cases c : w 0 33 = -1
  · rw [if_pos c]
    unfold m_MS
    rw [if_pos c]
    refine ⟨?_, by omega, pk, by omega, fun _ => mx_r (by omega), fun z => absurd c z⟩
    have c1 : F_J_min_7cf53 w 30 (v 31 (15 + 3 * n) + 2 * kn) = v 31 (15 + 3 * n) + 2 * kn := by
      unfold F_J_min_7cf53
      rw [if_pos (by omega)]
    have c2 : F_J_max_7cf53 w 0 (v 31 (15 + 3 * n) + 2 * kn) = v 31 (15 + 3 * n) + 2 * kn := by
      unfold F_J_max_7cf53
      rw [if_pos (by omega)]
    dsimp only
    rw [c1, c2]
  · rw [if_neg c]
    have f0 : z_fr [9] [] w (z_up w 9 0 (v 31 (15 + 3 * n))) := fr_up rfl fr_rf
    obtain ⟨m0, p0, l0⟩ := wld _ f0
    rw [m_fri m0 p0, kn9 _ f0]
    have f1 : z_fr [9] [] w (z_up (z_up w 9 0 (v 31 (15 + 3 * n))) 9 1 kn) := fr_up rfl f0
    obtain ⟨m1, p1, l1⟩ := wld _ f1
    have e29 : (z_up (z_up w 9 0 (v 31 (15 + 3 * n))) 9 1 kn) 0 29 = w 0 29 := fr_f f1 0 29 rfl rfl
    obtain ⟨ab1, ab2⟩ := m_abO m1 p1 (n := n) (by rw [e29]; exact hn) hT
    rw [e29, hab] at ab1
    rw [ab1]
    have f3 : z_fr [9] [] w (z_up (z_up (z_up (z_up w 9 0 (v 31 (15 + 3 * n))) 9 1 kn) 9 2 b) 9 3 (v 31 (15 + 3 * n + 2))) := fr_up rfl (fr_up rfl f1)
    obtain ⟨m3, p3, l3⟩ := wld _ f3
    have e293 : (z_up (z_up (z_up (z_up w 9 0 (v 31 (15 + 3 * n))) 9 1 kn) 9 2 b) 9 3 (v 31 (15 + 3 * n + 2))) 0 29 = w 0 29 := fr_f f3 0 29 rfl rfl
    have fr3 := m_fr m3 p3 (n := n) (by rw [e293]; exact hn)
    have wo3 := m_wo m3 p3 (n := n) (by rw [e293]; exact hn)
    have pf3 : P_M_isFree (z_up (z_up (z_up (z_up w 9 0 (v 31 (15 + 3 * n))) 9 1 kn) 9 2 b) 9 3 (v 31 (15 + 3 * n + 2))) (n : Int) := p_Mfr m3 p3 (by omega)
    have pw3 : P_M_wellOf (z_up (z_up (z_up (z_up w 9 0 (v 31 (15 + 3 * n))) 9 1 kn) 9 2 b) 9 3 (v 31 (15 + 3 * n + 2))) (n : Int) := p_Mwo m3 p3 (by omega)
    have mw : ∀ U : z_Wd, z_fr [9] [] w U → (∀ i, i < 6 → U 9 i = m_LE v n kn b (if v 42 n = -1 then w 0 28 else v 42 n) i) → F_J_max_7cf53 (F_M_worthOf U (w 0 33)).2 0 (F_J_min_7cf53 (F_M_worthOf U (w 0 33)).2 30 (F_M_worthOf U (w 0 33)).1) = m_MS w v n kn b (if v 42 n = -1 then w 0 28 else v 42 n) ∧ P_M_worthOf U (w 0 33) ∧ P_J_min_7cf53 (F_M_worthOf U (w 0 33)).2 30 (F_M_worthOf U (w 0 33)).1 ∧ P_J_max_7cf53 (F_M_worthOf U (w 0 33)).2 0 (F_J_min_7cf53 (F_M_worthOf U (w 0 33)).2 30 (F_M_worthOf U (w 0 33)).1) := by
      intro U fU hU
      have hL := a4 (w 0 33).toNat (by omega)
      have hN := hL.1
      have hL' : l_one (fun k => U 2 (520 * (w 0 33).toNat + k)) (fun k => U 3 (520 * (w 0 33).toNat + k)) (fun k => U 6 (140 * (w 0 33).toNat + k)) (fun k => U 7 (140 * (w 0 33).toNat + k)) (fun k => U 8 (140 * (w 0 33).toNat + k)) (U 5 (w 0 33).toNat) (v (59 + 3 * (w 0 33).toNat)) (v (58 + 3 * (w 0 33).toNat) 2) := by
        rw [fr_c fU 2 rfl rfl, fr_c fU 3 rfl rfl, fr_c fU 5 rfl rfl, fr_c fU 6 rfl rfl, fr_c fU 7 rfl rfl, fr_c fU 8 rfl rfl]
        exact hL
      obtain ⟨w1, w2⟩ := m_worth (w := U) (n := (w 0 33).toNat) (by omega) hL' (fun i hi => by rw [hU i hi]; exact hle i hi)
      rw [show (((w 0 33).toNat : Nat) : Int) = w 0 33 by omega] at w1 w2
      rw [fr_c fU 2 rfl rfl, fr_c fU 3 rfl rfl, fr_c fU 5 rfl rfl, fr_c fU 6 rfl rfl, fr_c fU 7 rfl rfl, fr_c fU 8 rfl rfl, l_resc hL hU _ 0 (by omega)] at w1
      have r := l_resr hL hle (w 5 (w 0 33).toNat).toNat 0 (by omega)
      rw [w1]
      refine ⟨?_, w2, mx_r r⟩
      unfold m_MS
      rw [if_neg c]
      rfl
    have six : ∀ x : Int, x = (if v 42 n = -1 then w 0 28 else v 42 n) → ∀ i, i < 6 → (z_up (z_up (z_up (z_up (z_up (z_up w 9 0 (v 31 (15 + 3 * n))) 9 1 kn) 9 2 b) 9 3 (v 31 (15 + 3 * n + 2))) 9 4 x) 9 5 (v 41 8)) 9 i = m_LE v n kn b (if v 42 n = -1 then w 0 28 else v 42 n) i := by
      intro x hx i hi
      have : i = 0 ∨ i = 1 ∨ i = 2 ∨ i = 3 ∨ i = 4 ∨ i = 5 := by omega
      unfold m_LE
      rcases this with rfl | rfl | rfl | rfl | rfl | rfl
      · simp [z_up]
      · simp [z_up]
      · simp [z_up]
      · simp [z_up]
      · simp [z_up, hx]
      · simp [z_up]
    have frm : ∀ x : Int, z_fr [9] [] w (z_up (z_up (z_up (z_up (z_up (z_up w 9 0 (v 31 (15 + 3 * n))) 9 1 kn) 9 2 b) 9 3 (v 31 (15 + 3 * n + 2))) 9 4 x) 9 5 (v 41 8)) := fun x => fr_up rfl (fr_up rfl f3)
    have base : (0 ≤ 3 * (n : Int) + 0 ∧ 3 * (n : Int) + 0 < 21) ∧ (0 ≤ 3 * (n : Int) + 2 ∧ 3 * (n : Int) + 2 < 21) := by omega
    have pk0 : P_M_knownBy (z_up w 9 0 (v 31 (15 + 3 * n))) (n : Int) ∧ P_M_drowned (z_up w 9 0 (v 31 (15 + 3 * n))) := ⟨⟨m_MO m0, by omega⟩, p_Mdr m0 p0⟩
    by_cases cf : v 42 n = -1
    · have fz : ¬ F_M_isFree (z_up (z_up (z_up (z_up w 9 0 (v 31 (15 + 3 * n))) 9 1 kn) 9 2 b) 9 3 (v 31 (15 + 3 * n + 2))) (n : Int) = 0 := by
        rw [fr3, cf]
        simp
      obtain ⟨g1, g2, g3, g4⟩ := mw _ (frm (w 0 28)) (six _ (by rw [if_pos cf]))
      rw [if_neg fz]
      exact ⟨g1, base.1, pk, by omega, fun z => absurd z c, fun _ => ⟨pk0, ab2, base.2, pf3, fun z => absurd z fz, fun _ => ⟨g2, g3, g4⟩⟩⟩
    · have hT2 : T n = true := hT.resolve_right cf
      have fz : F_M_isFree (z_up (z_up (z_up (z_up w 9 0 (v 31 (15 + 3 * n))) 9 1 kn) 9 2 b) 9 3 (v 31 (15 + 3 * n + 2))) (n : Int) = 0 := by
        rw [fr3, hT2]
        simp [cf]
      rw [if_pos hT2] at wo3
      obtain ⟨g1, g2, g3, g4⟩ := mw _ (frm (v 42 n)) (six _ (by rw [if_neg cf]))
      rw [if_pos fz, wo3]
      exact ⟨g1, base.1, pk, by omega, fun z => absurd z c, fun _ => ⟨pk0, ab2, base.2, pf3, fun _ => ⟨pw3, g2, g3, g4⟩, fun z => absurd fz z⟩⟩
