/-! the law's name: what DrownedNames.name throws is caught -/
abbrev m_L_name : z_M := (yL_name, cL_name, 5, some .int)
def n_X (kc ks : Nat) (S : Nat × Nat) (Q : Option z_V → z_Wd → Prop) : y_X := (q_rm 8, (kc, ks), fun E s => z_A E s.heap.size, fun E l s _ c => l.stackTraces = false ∧ q_N (z_A E s.heap.size) S s ∧ c.exceptionTable.toList = tableOf [(0, 10, 13, 13)], fun E below args s => MQ below (z_Q E s.heap.size Q) args s 1 6 (z_A E s.heap.size))
def n_Wc (as : List z_V) (S : Nat × Nat) (w : z_Wd) (Q : Option z_V → z_Wd → Prop) : Prop := ∀ (l : Launch) (E : z_E) (sz : Nat), l.stackTraces = false → z_inj E →
  Met l yL_name (Cond.codeWith yL_name cL_name 5 (some .int) [(0, 10, 13, 13)] :: z_tb) (q_rm 8) (q_Pc E sz S as w) (z_Q E sz Q) 1 6 (z_A E sz)
theorem n_enter {as : List z_V} {S : Nat × Nat} {w : z_Wd} {Q : Option z_V → z_Wd → Prop} (hn : (as.map z_wd).sum ≤ 5) (k : y_Wp m_L_name 0 0 (z_la 0 as) [] w (n_X 0 0 S Q)) : n_Wc as S w Q := by
  intro l E sz htr hinj
  refine va_MetW (cc := cL_name) (maxL := 5) (ret := some .int) (hh := [(0, 10, 13, 13)]) (by decide) rfl ?_
  intro p e s m args below meth c s₁ B hml hv
  obtain ⟨rfl, hsz, hP, hG, hN⟩ := hv
  subst hsz
  have hts := atoms_spec (ws := Cond.codeWith yL_name cL_name 5 (some .int) [(0, 10, 13, 13)] :: z_tb) B.pre
  have hown : s.vm.findClass yL_name.cls = some m.cls := findClass_of_methodNamed B.named
  have htab := vx_table (x := yL_name) B (hts _ List.mem_cons_self)
  have hl := lv_entry (as.map (z_cv E)) (n := 5) (by rw [z_sl_len]; exact hn)
  rw [lg_entry_eq]
  rw [z_la_eq] at hl
  exact k E p l e s m _ below meth c s.heap [] _ ⟨B.exec, B.bytes, B.returns, hml, hown, fun w hw => hts w (List.mem_cons_of_mem _ hw), hG, ⟨hinj, fun k hk => Or.inl ⟨k, hk, rfl⟩, fun q hq => Or.inr hq⟩, B.notSynchronized, htr, hN, htab⟩ hP va_S.rf hl
theorem n_iret {pc : Nat} {ls : List (Nat × z_V)} {S : Nat × Nat} {w : z_Wd} {Q : Option z_V → z_Wd → Prop} {x : Int} (hd : decode cL_name pc = .ok (.ireturn, 1)) (k : Q (some (zI x)) w) : y_Wp m_L_name 0 pc ls [zI x] w (n_X 1 6 S Q) := by
  intro E p l e s m args below meth c H locs lz CX hP hS hl
  exact W.iret (v := Int32.ofInt x) CX.1 CX.2.1 CX.2.2.1 (fun t ht hW => ⟨⟨some (zI x), w, rfl, k, by rw [ht]; exact hP⟩, hS.F ht⟩) hS.2.2 hd (hlocks := CX.2.2.2.2.2.2.2.2.1)
set_option maxHeartbeats 2000000 in
theorem n_call {as : List z_V} {ls : List (Nat × z_V)} {S : Nat × Nat} {w : z_Wd} {Q : Option z_V → z_Wd → Prop} {St st : List z_V} (hn : as.length = 2) (hS0 : St = as.reverse ++ zR 27 :: st) (hst : (st.map z_wd).sum ≤ 8)
    (kk : q_Wc 7 m_X11_name (zR 27 :: as) S w (fun r w' => y_Wp m_L_name 0 8 ls (r.toList ++ st) w' (n_X 1 6 S Q)) (fun w' => Q (some (zI 1)) w')) : y_Wp m_L_name 0 5 ls St w (n_X 0 0 S Q) := by
  subst hS0
  intro E p l e s m args below meth c H locs lz CX hP hS hl2
  obtain ⟨hx, hb, hr, hml, hown, hts, hG, hinj, hlk, htr, hN, htab⟩ := id CX
  have hget : (z_cw E w)[27]? = some (E.2.1 27, .inr (11, [30, 32, 35, 39, 43, 49, 55, 57, 72, 74, 78, 80, 0, 0, 1].mapIdx (fun j c => z_fv E (w 27) j c))) := by
    rw [z_cw_get (by decide)]
    rfl
  have hA := y_in CX hS
  have hrun := vx_runV (As := as.map (z_cv E)) (rest := st.map (z_cv E)) (b := E.2.1 27) (C := RX11) (cells := 0) (slots := 0) (below := below) (meth := meth) (e := e) (locs := locs) (R := q_rm 8) (g := F0 m 5 lz ((as.reverse ++ zR 27 :: st).map (z_cv E))) ⟨hx, hb, hml, hown, hts⟩ (kk l E H.size htr hinj.1)
    ⟨callB_of 2 hts (x_goodC k_X11_name.1.1) rfl rfl rfl (hts _ k_X11_name.1.2.1) (hts _ t_5_207) k_X11_name.1.2.2.1 ⟨Nat.le_of_ble_eq_true rfl, Nat.le_of_ble_eq_true rfl⟩, hts _ k_X11_name.2.1, hts _ k_X11_name.2.2⟩
    ⟨fun a U g mk q => by obtain ⟨q0, q1, qP, qG, qN⟩ := q; exact ⟨q0, q1, qP, qG.blind, qN.blind⟩, va_recv hG.1 hP (q := (RX11, TX11, 15)) rfl hget, fun U hU hW => ⟨rfl, by rw [hU], by rw [hU]; exact hP, y_at hG hA hS hU hW, hN.at hA hS hU hW⟩⟩
    rfl (by rw [List.length_map]; exact hn) hl2.1 (by simp [z_cv]) (lv_room (by rw [z_sum]; exact hst)) dL_name_5 ⟨Nat.le_of_ble_eq_true rfl, Nat.le_of_ble_eq_true rfl⟩
  intro T hT X
  rcases hrun T hT X with ⟨v, st₀, t, T', L, h0, X', hL, e1, e2, ⟨⟨r, w', hv, hp, hbb⟩, hz, hk⟩, stp⟩ | ⟨q, st₀, t, T', L, Ex, ce, h0, X', hL, e1, e2, ⟨hEx, ⟨w', hq, hP1⟩, hz, hk⟩, hce, hcv, hcl, stp⟩
  · have hv' : v = r.map (z_cv E) := by injection hv
    subst hv'
    rw [h0] at hz hk
    have hS1 : va_S (z_A E s.heap.size) s.heap T'.heap (locs ++ L) := ⟨Nat.le_trans hS.1 (by rw [e1]; exact hz), fun q h1 h2 => by rw [e1, hk q (Nat.lt_of_lt_of_le h1 hS.1) (fun z => h2 (hA q z))]; exact hS.2.1 q h1 h2, fun q hq => by
      rcases List.mem_append.mp hq with h | h
      · exact hS.2.2 q h
      · exact hA _ (hL q h)⟩
    have h4 := hp E p l e s m args below meth c T'.heap (locs ++ L) lz CX (by rw [e1]; exact hbb) hS1 hl2
    have e4 : (r.toList ++ st).map (z_cv E) = (r.map (z_cv E)).toList ++ st.map (z_cv E) := by
      cases r <;> simp
    rw [e4] at h4
    obtain ⟨t2, a1, b1⟩ := h4 T' rfl X'
    exact ⟨t2, stp t2 a1, b1⟩
  · subst hEx
    rw [h0] at hz hk
    have hS1 : va_S (z_A E s.heap.size) s.heap T'.heap (locs ++ L) := ⟨Nat.le_trans hS.1 (by rw [e1]; exact hz), fun q h1 h2 => by rw [e1, hk q (Nat.lt_of_lt_of_le h1 hS.1) (fun z => h2 (hA q z))]; exact hS.2.1 q h1 h2, fun q hq => by
      rcases List.mem_append.mp hq with h | h
      · exact hS.2.2 q h
      · exact hA _ (hL q h)⟩
    have hc : vx_W p l e (q_rm 8) s m args below meth c T'.heap (locs ++ L) (0 + 1) (0 + 6) (MQ below (z_Q E s.heap.size Q) args s 1 6 (z_A E s.heap.size)) (F0 m 5 lz (st.map (z_cv E))) q := by
      refine vx_catch (own := RL) (name := "java/util/NoSuchElementException") (E := "java/util/NoSuchElementException") (ce := ce) hown [] { startPc := 0, endPc := 10, handlerPc := 13, catchType := 13 } [] (by rw [htab]; rfl) (fun z hz => nomatch hz) (by decide) (by decide) (hts _ t_5_206) (va_Nw.use rfl hN.1.1) (by rw [e1]; exact hce) hcv hcl ?_
      refine lv_astore (lv := ls.map (z_cl E)) (nL := 5) hx hb dL_name_13 hl2 (by decide) rfl (fun lz2 hl3 => ?_)
      refine lv_iconst (v := Int32.ofInt 1) hx hb dL_name_15 rfl ?_
      exact W.iret (v := Int32.ofInt 1) hx hb hr (fun t ht hW => ⟨⟨some (zI 1), w', rfl, hq, by rw [ht, e1]; exact hP1⟩, hS1.F ht⟩) hS1.2.2 dL_name_16 (hlocks := hlk)
    obtain ⟨t2, a1, b1⟩ := hc T' rfl X'
    exact ⟨t2, stp.trans a1, b1⟩
set_option maxRecDepth 4000 in
theorem n_name {S : Nat × Nat} {w : z_Wd} {a b : Int} {Q : Option z_V → z_Wd → Prop} (h : P_D_name w a b) (hr : ¬ T_D_name w a b → -2147483648 ≤ (F_D_name w a b).1 ∧ (F_D_name w a b).1 < 2147483648) (k0 : ¬ T_D_name w a b → Q (some (zI 0)) (z_up (F_D_name w a b).2 26 0 (F_D_name w a b).1)) (k1 : T_D_name w a b → Q (some (zI 1)) w) : n_Wc [zR 27, zI a, zI b, zR 26] S w Q := by
  refine n_enter (Nat.le_of_ble_eq_true rfl) ?_
  show y_Wp m_L_name 0 0 [(0, zR 27), (1, zI a), (2, zI b), (3, zR 26)] [] w _
  refine y_aload_n (pc' := 1) 3 rfl rfl dL_name_0 rfl ?_
  refine y_iconst (pc' := 2) dL_name_1 rfl ?_
  refine y_aload_n (pc' := 3) 0 rfl rfl dL_name_2 rfl ?_
  refine y_iload_n (pc' := 4) 1 rfl rfl dL_name_3 rfl ?_
  refine y_iload_n (pc' := 5) 2 rfl rfl dL_name_4 rfl ?_
  refine n_call (as := [zI a, zI b]) (st := [zI 0, zR 26]) rfl rfl (Nat.le_of_ble_eq_true rfl) ?_
  refine q_name h (fun c => ?_) k1
  show y_Wp m_L_name 0 8 [(0, zR 27), (1, zI a), (2, zI b), (3, zR 26)] [zI (F_D_name w a b).1, zI 0, zR 26] (F_D_name w a b).2 _
  refine y_i2l (pc' := 9) (hr c) dL_name_8 rfl ?_
  refine y_last (pc' := 10) (n := 1) (rs := []) (by decide) rfl (by decide) (by decide) dL_name_9 rfl ?_
  refine y_goto 17 dL_name_10 (by decide) ?_
  refine y_iconst (pc' := 18) dL_name_17 rfl ?_
  exact n_iret dL_name_18 (k0 c)
