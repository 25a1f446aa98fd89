/-! the law from its entry to its end -/
theorem s_rng {X : va_W} {y : Nat × va_E} {n : Nat} (h : X.length = n) : (List.range n).map (fun i => (X ++ [y])[i]?) = X.map some ∧ (X ++ [y])[n]? = some y := by
  subst h
  constructor
  · apply List.ext_getElem?
    intro i
    rw [List.getElem?_map, List.getElem?_map]
    by_cases hi : i < X.length
    · rw [List.getElem?_range hi]
      show some ((X ++ [y])[i]?) = _
      rw [List.getElem?_append_left hi, List.getElem?_eq_getElem hi]
      rfl
    · rw [List.getElem?_eq_none (by rw [List.length_range]; omega), List.getElem?_eq_none (by omega)]
      rfl
  · rw [List.getElem?_append_right (Nat.le_refl _), Nat.sub_self]
    rfl
theorem s_st2 {D : x_D} {ad : List Nat} {b : Nat} {st : Nat → Nat} {i : Nat} (hi : i < 8) : (s_E D.1 ad b st D.2.1 D.2.2.1 D.2.2.2).2.1 (200 + i) = st i := by
  show (if 200 + i = 300 then b else if 200 ≤ 200 + i then st (200 + i - 200) else _) = _
  rw [if_neg (by omega), if_pos (by omega), Nat.add_sub_cancel_left]
set_option maxHeartbeats 2000000 in
set_option maxRecDepth 4000 in
theorem s_go {p : Program} {e : Env} {s : State} {m : MethodId} {below : List Frame} {meth : Method} {c : Code} (l : Launch) (hst : l.stackTraces = false) {b L : Nat} {xs : Nat → Int32} (hL : L ≤ 3584) (C0 : lw_At p s m meth c b L xs) {D : x_D} (hK : x_K D s) {st : Nat → Nat} (hG : ∀ (i : Nat) (q : z_T), z_sts[i]? = some q → va_Z q.1 q.2.1 q.2.2.1 (.ref (st i)) (fun q => s.heap.size ≤ q) s s.heap ∧ va_T q.2.2.2.1 (st i) q.2.2.2.2.length (fun j => .int (Int32.ofInt (q.2.2.2.2.getD j 0))) (fun q => s.heap.size ≤ q) s s.heap) {T : Nat × Nat} (hN : q_N (fun q => s.heap.size ≤ q) T s) {ad : List Nat} {kc ks : Nat} (hkc : kc ≤ 1000) (hks : ks ≤ 100000) {H : Heap} {locs : List Loc} {lz : Array Slot}
    (hP : va_P D.1 classes (z_cw (s_E D.1 ad b st D.2.1 D.2.2.1 D.2.2.2) s_w) H) (hD : va_D (fun q => s.heap.size ≤ q) (z_cw (s_E D.1 ad b st D.2.1 D.2.2.1 D.2.2.2) s_w)) (hS : va_S (fun q => s.heap.size ≤ q) s.heap H locs)
    (hl : lv_has lz 7 ([(0, zR 300), (1, zR 27), (2, zR 0), (3, zR 26), (4, zI 0)].map (z_cl (s_E D.1 ad b st D.2.1 D.2.2.1 D.2.2.2)))) : W p l e room_1 s m #[Value.ref b] below meth c H locs kc ks (lw_Z below #[Value.ref b] s) (F0 m 23 lz []) := by
  obtain ⟨hx, hb, hr, hml, hown, hts, hX, hbl, hlocks, hgv⟩ := id C0
  have key := l_loop s_all (B := (b, L, xs)) (T := T) hL 512 kc ks 0 s_w s_Rl (by decide) (by decide) (by show (L : Int) - 0 < 7 * ((512 + 1 : Nat) : Int); omega) (by omega) (by omega)
  have hg : ∀ k, k < z_N → (z_cw (s_E D.1 ad b st D.2.1 D.2.2.1 D.2.2.2) s_w)[k]? = some ((s_E D.1 ad b st D.2.1 D.2.2.1 D.2.2.2).2.1 k, z_ce (s_E D.1 ad b st D.2.1 D.2.2.1 D.2.2.2) (s_w k) (z_sh k)) := fun k hk => z_cw_get hk
  have hGG : z_G (s_E D.1 ad b st D.2.1 D.2.2.1 D.2.2.2) (fun q => s.heap.size ≤ q) s := by
    refine ⟨hK.1, fun i q hq => ?_⟩
    have hi : i < 8 := (List.getElem?_eq_some_iff.mp hq).1
    rw [s_st2 hi]
    exact hG i q hq
  exact key (s_E D.1 ad b st D.2.1 D.2.2.1 D.2.2.2) p l e s m #[Value.ref b] below meth c H locs lz ⟨hx, hb, hr, hml, hown, fun w hw => hts w (s_zt hw), hGG, ⟨fun i j hi hj he => hD.1 i j _ _ (hg i hi) (hg j hj) he, fun k hk => hD.2 k _ (hg k hk), fun q h => h⟩, hlocks, rfl, hX, hbl, rfl, hst, hN⟩ hP hS hl
set_option maxHeartbeats 4000000 in
set_option maxRecDepth 4000 in
theorem whole_start {p : Program} {e : Env} {s : State} {m : MethodId} {below : List Frame} {meth : Method} {c : Code} (l : Launch) (hst : l.stackTraces = false) {b L : Nat} {xs : Nat → Int32} (hL : L ≤ 3584) (C0 : lw_At p s m meth c b L xs) : W p l e room_1 s m #[Value.ref b] below meth c s.heap [] 0 0 (lw_Z below #[Value.ref b] s) (entryFrame m ([Value.ref b] : List Value).toArray 7) := by
  obtain ⟨hx, hb, hr, hml, hown, hts, hX, hbl, hlocks, hgv⟩ := id C0
  have hs := flat_of_before _ hgv
  obtain ⟨D, hK⟩ := s_K hts
  obtain ⟨st, hG⟩ := s_G hts hs
  obtain ⟨T, hN⟩ := s_N hts hs
  have htz : ∀ w ∈ z_tb, w.before #[Value.ref b] s = true := fun w hw => hts w (s_zt hw)
  have hS : va_S (fun q : Nat => s.heap.size ≤ q) s.heap s.heap [] := va_S.rf
  have hP : va_P D.1 classes [] s.heap := fun k q h => by simp at h
  have hD : va_D (fun q : Nat => s.heap.size ≤ q) [] := ⟨fun i j p q h => by simp at h, fun k q h => by simp at h⟩
  have hl := lv_entry ([.ref b]) (n := 7) (Nat.le_of_ble_eq_true rfl)
  rw [lg_entry_eq]
  generalize (lg_sl ([.ref b]) ++ List.replicate (7 - (lg_sl ([.ref b])).length) Slot.unset).toArray = lz at hl ⊢
  have hl : lv_has lz 7 [(0, .ref b)] := hl
  refine s_new (C := RX11) hx hb hown htz hK ⟨TX11, rfl⟩ n_X11 u_1_21 (by decide) (by decide) dL_law_0 hP hD hS (fun q0 H hP hD hS => ?_)
  refine lv_dup hx hb dL_law_3 rfl ?_
  refine s_ini (C := m_X11_init) (h0 := q0) (wr := []) 0 [] hx hb hml hown htz hK dL_law_4 u_1_23 i_X11_init (Nat.le_of_ble_eq_true rfl) rfl rfl rfl (fun j hj => absurd hj List.not_mem_nil) ⟨by decide, by decide⟩ (by decide) e_X11 hP hD hS hl (fun u H locs hq hP hD hS => ?_)
  obtain ⟨q1, q2, q3, q4, q5, q6, q7, q8, q9, q10, q11, q12, q13, q14, q15, q16, q17, q18, q19, q20, q21, q22, q23, q24, q25, q26, q27, q28, q29, q30, q31, q32, q33, q34, q35, q36, q37, q38, q39, q40, q41, q42, q43, q44, q45, q46, q47, q48, q49, q50, q51, eu⟩ := hq
  rw [List.nil_append] at hP hD
  have el : u.length = 52 := by rw [eu]; rfl
  refine lv_astore_n (lv' := [(1, .ref q0), (0, .ref b)]) hx hb dL_law_7 rfl hl (by decide) rfl (fun lz hl => ?_)
  refine s_new (C := RX12) hx hb hown htz hK ⟨TX12, rfl⟩ n_X12 u_6_47 (by decide) (by decide) dL_law_8 hP hD hS (fun p0 H hP hD hS => ?_)
  refine lv_dup hx hb dL_law_11 rfl ?_
  refine s_ini (C := m_X12_init) (h0 := p0) (wr := u) 52 (List.range 52) hx hb hml hown htz hK dL_law_12 u_6_49 i_X12_init (Nat.le_of_ble_eq_true rfl) (s_rng el).2 (s_rng el).1 (by decide) (by decide) ⟨by decide, by decide⟩ (by decide) e_X12 hP hD hS hl (fun u2 H locs hq hP hD hS => ?_)
  obtain ⟨p1, p2, p3, p4, p5, p6, p7, p8, p9, p10, p11, p12, p13, p14, p15, p16, p17, p18, p19, p20, p21, p22, p23, p24, p25, eu2⟩ := hq
  refine lv_astore_n (lv' := [(2, .ref p0), (1, .ref q0), (0, .ref b)]) hx hb dL_law_15 rfl hl (by decide) rfl (fun lz hl => ?_)
  refine lv_iconst (v := 1) hx hb dL_law_16 (by decide) ?_
  refine s_newJ hx hb htz hK (by decide) (by decide) dL_law_17 hP hD hS (fun o H hP hD hS => ?_)
  refine lv_astore_n (lv' := [(3, .ref o), (2, .ref p0), (1, .ref q0), (0, .ref b)]) hx hb dL_law_19 rfl hl (by decide) rfl (fun lz hl => ?_)
  refine lv_iconst (v := 0) hx hb dL_law_20 (by decide) ?_
  refine lv_istore (lv' := [(4, .int 0), (3, .ref o), (2, .ref p0), (1, .ref q0), (0, .ref b)]) hx hb dL_law_21 hl (by decide) rfl (fun lz hl => ?_)
  rw [eu, eu2] at hP hD
  obtain ⟨hP, hD⟩ := s_PD (E := s_E D.1 [p0, p1, p2, p3, p4, p5, p6, p7, p8, p9, p10, p11, p12, p13, p14, p15, p16, p17, p18, p19, p20, p21, p22, p23, p24, p25, o, q0, q1, q2, q3, q4, q5, q6, q7, q8, q9, q10, q11, q12, q13, q14, q15, q16, q17, q18, q19, q20, q21, q22, q23, q24, q25, q26, q27, q28, q29, q30, q31, q32, q33, q34, q35, q36, q37, q38, q39, q40, q41, q42, q43, q44, q45, q46, q47, q48, q49, q50, q51] b st D.2.1 D.2.2.1 D.2.2.2) rfl rfl rfl rfl rfl rfl rfl rfl rfl rfl rfl rfl rfl rfl rfl rfl rfl rfl rfl rfl rfl rfl rfl rfl rfl rfl rfl rfl rfl rfl rfl rfl rfl rfl rfl rfl rfl rfl rfl rfl rfl rfl rfl rfl rfl rfl rfl rfl rfl rfl rfl rfl rfl rfl rfl rfl rfl rfl rfl rfl rfl rfl rfl rfl rfl rfl rfl rfl rfl rfl rfl rfl rfl rfl rfl rfl rfl rfl rfl hP hD
  exact s_go l hst hL C0 hK hG hN (by decide) (by decide) hP hD hS (lv_sub hl [4, 3, 2, 1, 0] rfl)
