/-! DrownedNames.name, which throws, and the law's name, which catches -/
theorem t_5_203 : Cond.methodLink RL 42 yL_name ∈ z_tb := z_tm5 203 (by decide +kernel) rfl
theorem t_5_204 : Cond.static yL_name ∈ z_tb := z_tm5 204 (by decide +kernel) rfl
theorem t_5_205 : Cond.codeWith yL_name cL_name 5 (some .int) [(0, 10, 13, 13)] ∈ z_tb := z_tm5 205 (by decide +kernel) rfl
theorem t_5_206 : Cond.classLink RL 13 "java/util/NoSuchElementException" ∈ z_tb := z_tm5 206 (by decide +kernel) rfl
theorem t_5_207 : Cond.methodLink RL 7 yX11_name ∈ z_tb := z_tm5 207 (by decide +kernel) rfl
theorem t_5_211 : Cond.classLink RX11 166 "java/util/NoSuchElementException" ∈ z_tb := z_tm5 211 (by decide +kernel) rfl
theorem t_1_18 : Cond.initialized "java/util/NoSuchElementException" ∈ z_tb := z_tm1 18 (by decide +kernel) rfl
theorem t_1_0 : Cond.initialized RL ∈ z_tb := z_tm1 0 (by decide +kernel) rfl
def q_N0 (U : State) : Prop := va_Nw (.castable "java/util/NoSuchElementException" "java/util/NoSuchElementException") U ∧ va_Nw (.declares ⟨"java/lang/RuntimeException", "<init>", "(Ljava/lang/String;)V"⟩) U ∧ va_Nw (.declares ⟨"java/lang/Exception", "<init>", "(Ljava/lang/String;)V"⟩) U ∧ va_Nw (.declares ⟨"java/lang/Throwable", "<init>", "(Ljava/lang/String;)V"⟩) U
def q_N (A : Nat → Prop) (S : Nat × Nat) (U : State) : Prop := q_N0 U ∧ vk_R RX11 168 "no such name" S.1 U ∧ vk_R RX11 195 "no such what" S.2 U ∧ vx_Zq Bundle.tN "UNASSIGNED_STACK" Bundle.steD A U U.heap ∧ vx_Zq Bundle.tN "SUPPRESSED_SENTINEL" Bundle.listD A U U.heap
theorem q_N0.warm {s U : State} (hW : s.WarmedH U.vm) (h : q_N0 s) : q_N0 U := ⟨va_Nw.warmC hW h.1, va_Nw.warmD hW h.2.1, va_Nw.warmD hW h.2.2.1, va_Nw.warmD hW h.2.2.2⟩
theorem q_N.at {A B : Nat → Prop} {S : Nat × Nat} {s U : State} {H : Heap} {locs : List Loc} (h : q_N A S s) (hA : ∀ q, B q → A q) (hS : va_S A s.heap H locs) (hU : U.heap = H) (hW : s.WarmedH U.vm) : q_N B S U := by
  obtain ⟨h0, h1, h2, h3, h4⟩ := h
  have hk : ∀ a : Nat, a < s.heap.size → ¬ A a → U.heap[a]? = s.heap[a]? := fun a x y => by rw [hU]; exact hS.2.1 a x y
  exact ⟨h0.warm hW, vk_R.warm hW h1, vk_R.warm hW h2, vx_Zq.moved hW.alike ((h3.kept hk).narrow hA), vx_Zq.moved hW.alike ((h4.kept hk).narrow hA)⟩
theorem q_N.blind {A : Nat → Prop} {S : Nat × Nat} {U : State} {g : JFrame} {mk : MethodId} {a : Array Value} (h : q_N A S U) : q_N A S (U.calling g mk a) := by
  obtain ⟨h0, h1, h2, h3, h4⟩ := h
  have e : U.vm = (U.calling g mk a).vm := rfl
  exact ⟨⟨va_Nw.same rfl e h0.1, va_Nw.same rfl e h0.2.1, va_Nw.same rfl e h0.2.2.1, va_Nw.same rfl e h0.2.2.2⟩, vk_R.same e.symm h1, vk_R.same e.symm h2, vx_Zq.moved (u := U) (U := U.calling g mk a) (Vm.Alike.refl U.vm) h3, vx_Zq.moved (u := U) (U := U.calling g mk a) (Vm.Alike.refl U.vm) h4⟩
def q_rm (d : Nat) : Room := { frames := d + 1, cells := 1, slots := 6, locals := 64 * (d + 1) }
def q_XC (E : z_E) (sz : Nat) (Qx : z_Wd → Prop) : String → State → State → Prop := fun X st t => X = "java/util/NoSuchElementException" ∧ (∃ w', Qx w' ∧ va_P E.1 classes (z_cw E w') t.heap) ∧ va_F (z_A E sz) st t
def q_Pc (E : z_E) (sz : Nat) (S : Nat × Nat) (as : List z_V) (w : z_Wd) : Array Value → State → Prop := va_Pc (as.map (z_cv E)) (fun U => U.heap.size = sz ∧ va_P E.1 classes (z_cw E w) U.heap ∧ z_G E (z_A E sz) U ∧ q_N (z_A E sz) S U)
def q_Wc (d : Nat) (M : z_M) (as : List z_V) (S : Nat × Nat) (w : z_Wd) (Qr : Option z_V → z_Wd → Prop) (Qx : z_Wd → Prop) : Prop := ∀ (l : Launch) (E : z_E) (sz : Nat), l.stackTraces = false → z_inj E →
  vx_Met l M.1 (Cond.code M.1 M.2.1 M.2.2.1 M.2.2.2 :: z_tb) (q_rm d) (q_Pc E sz S as w) (z_Q E sz Qr) (q_XC E sz Qx) 1 6 (z_A E sz)
def q_X (d : Nat) (S : Nat × Nat) (Qr : Option z_V → z_Wd → Prop) (Qx : z_Wd → Prop) : y_X := (q_rm d, (0, 0), fun E s => z_A E s.heap.size, fun E l s _ c => l.stackTraces = false ∧ q_N (z_A E s.heap.size) S s ∧ (∀ x ∈ c.exceptionTable.toList, False), fun E below args s => vx_MQ below (z_Q E s.heap.size Qr) (q_XC E s.heap.size Qx) args s 1 6 (z_A E s.heap.size))
theorem q_enter {d : Nat} {M : z_M} {as : List z_V} {S : Nat × Nat} {w : z_Wd} {Qr : Option z_V → z_Wd → Prop} {Qx : z_Wd → Prop} (hy : plainName M.1.cls = true) (hn : (as.map z_wd).sum ≤ M.2.2.1) (k : y_Wp M 0 0 (z_la 0 as) [] w (q_X d S Qr Qx)) : q_Wc d M as S w Qr Qx := by
  intro l E sz htr hinj
  refine vx_ofW (cc := M.2.1) (maxL := M.2.2.1) (ret := M.2.2.2) hy rfl ?_
  intro p e s m args below meth c s₁ B hml htab hv
  obtain ⟨rfl, hsz, hP, hG, hN⟩ := hv
  subst hsz
  have hts := atoms_spec (ws := Cond.code M.1 M.2.1 M.2.2.1 M.2.2.2 :: z_tb) B.pre
  have hown : s.vm.findClass M.1.cls = some m.cls := findClass_of_methodNamed B.named
  have hl := lv_entry (as.map (z_cv E)) (n := M.2.2.1) (by rw [z_sl_len]; exact hn)
  rw [lg_entry_eq]
  rw [z_la_eq] at hl
  exact k E p l e s m _ below meth c s.heap [] _ ⟨B.exec, B.bytes, B.returns, hml, hown, fun w hw => hts w (List.mem_cons_of_mem _ hw), hG, ⟨hinj, fun k hk => Or.inl ⟨k, hk, rfl⟩, fun q hq => Or.inr hq⟩, B.notSynchronized, htr, hN, htab⟩ hP va_S.rf hl
theorem q_iret {d pc : Nat} {M : z_M} {ls : List (Nat × z_V)} {S : Nat × Nat} {w : z_Wd} {Qr : Option z_V → z_Wd → Prop} {Qx : z_Wd → Prop} {x : Int} (hr : M.2.2.2 = some .int) (hd : decode M.2.1 pc = .ok (.ireturn, 1)) (k : Qr (some (zI x)) w) : y_Wp M 0 pc ls [zI x] w (q_X d S Qr Qx) := by
  intro E p l e s m args below meth c H locs lz CX hP hS hl
  refine vx_ret (W.widen (k := 1) (n := 6) (Nat.zero_le _) (Nat.zero_le _) ?_)
  exact W.iret (v := Int32.ofInt x) CX.1 CX.2.1 (CX.2.2.1.trans hr) (fun t ht hW => ⟨⟨some (zI x), w, rfl, k, by rw [ht]; exact hP⟩, hS.F ht⟩) hS.2.2 hd (hlocks := CX.2.2.2.2.2.2.2.2.1)
theorem q_at_good : ∀ w ∈ (q_at RX11 170).filter goodWord, w ∈ lw_tbl := by decide +kernel
def q_NB : List Cond := [.castable "java/util/NoSuchElementException" "java/util/NoSuchElementException", .declares ⟨"java/lang/RuntimeException", "<init>", "(Ljava/lang/String;)V"⟩, .declares ⟨"java/lang/Exception", "<init>", "(Ljava/lang/String;)V"⟩, .declares ⟨"java/lang/Throwable", "<init>", "(Ljava/lang/String;)V"⟩]
theorem q_at_bad : ∀ w ∈ (q_at RX11 170).filter (fun w => !goodWord w), w ∈ q_NB := by decide +kernel
theorem q_at_ot : ∀ w ∈ Cond.classLink RX11 166 "java/util/NoSuchElementException" :: Cond.initialized "java/util/NoSuchElementException" :: q_at RX11 170, vx_ot w = true := by decide +kernel
theorem q_thr {d pc is : Nat} {text : String} {ls : List (Nat × z_V)} {S : Nat × Nat} {w : z_Wd} {Qr : Option z_V → z_Wd → Prop} {Qx : z_Wd → Prop} (hd : 7 ≤ d) (hstr : ∀ (A : Nat → Prop) (U : State), q_N A S U → ∃ sa, vk_R RX11 is text sa U)
    (d0 : decode cX11_name pc = .ok (.new 166, 3)) (d3 : decode cX11_name (pc + 3) = .ok (.dup, 1)) (d4 : decode cX11_name (pc + 4) = .ok (.ldc is, 2)) (d6 : decode cX11_name (pc + 6) = .ok (.invokespecial 170, 3)) (d9 : decode cX11_name (pc + 9) = .ok (.athrow, 1)) (k : Qx w) :
    y_Wp m_X11_name 0 pc ls [] w (q_X d S Qr Qx) := by
  intro E p l e s m args below meth c H locs lz CX hP hS hl
  obtain ⟨hx, hb, hr, hml, hown, hts, hG, hinj, hlk, htr, hN, htab⟩ := id CX
  obtain ⟨sa, hsa⟩ := hstr _ _ hN
  refine q_throw (own := RX11) (sa := sa) (A := z_A E s.heap.size) hx hb htr hown (hts _ t_5_211) (hts _ t_1_18) hsa ?_ q_at_ot hN.2.2.2.1 hN.2.2.2.2 hS (by rw [hml]; exact hl.1) d0 d3 d4 d6 d9 (fun x hx => absurd (htab x hx) id) (by show 5 < d + 1; omega) (by show 0 + 82 ≤ 64 * (d + 1); omega) (Nat.le_refl _) (Nat.le_refl _) hlk ?_ hS.2.2 (Nat.le_refl _) (Nat.le_refl _)
  · refine vx_hat (B := q_NB) (fun w hw => hts w (z_in (q_at_good w hw) (List.mem_filter.mp hw).2)) q_at_bad ?_
    exact vx_c (va_Nw.use rfl hN.1.1) (vx_c (va_Nw.use rfl hN.1.2.1) (vx_c (va_Nw.use rfl hN.1.2.2.1) (vx_c (va_Nw.use rfl hN.1.2.2.2) vx_n)))
  · intro t hal hsz hkp
    refine ⟨rfl, ⟨w, k, fun i q hq => ?_⟩, Nat.le_trans hS.1 hsz, fun q h1 h2 => by rw [hkp q (Nat.lt_of_lt_of_le h1 hS.1)]; exact hS.2.1 q h1 h2⟩
    exact (hP.kept (H1 := t.heap) (fun k x hx => hkp x.1 ((hP k x hx).lt))) i q hq
def T_D_name (w : z_Wd) (a b : Int) : Prop := F_Y_hasName w a = 0 ∨ b < 0 ∨ 5 < b
def F_D_name (w : z_Wd) (a b : Int) : Int × z_Wd := if b = 0 then (F_Y_syllables w a, w) else if b = 1 then (F_Y_knows w a, w) else if b = 2 then (F_Y_isForeign w a, w) else if b = 3 then (F_K_wellOf w a, w) else if b = 4 then (F_K_above w a (F_K_drowned w), w) else F_G_missed w a
def P_D_name (w : z_Wd) (a b : Int) : Prop := P_Y_hasName w a ∧ (-2147483648 ≤ b ∧ b < 2147483648) ∧ (¬ F_Y_hasName w a = 0 → (b = 0 → P_Y_syllables w a) ∧ (b = 1 → P_Y_knows w a) ∧ (b = 2 → P_Y_isForeign w a) ∧ (b = 3 → P_K_wellOf w a) ∧ (b = 4 → P_K_drowned w ∧ P_K_above w a (F_K_drowned w)) ∧ (b = 5 → P_G_missed w a))
set_option maxRecDepth 4000 in
set_option maxHeartbeats 2000000 in
theorem q_name {S : Nat × Nat} {w : z_Wd} {a b : Int} {Qr : Option z_V → z_Wd → Prop} {Qx : z_Wd → Prop} (h : P_D_name w a b) (kr : ¬ T_D_name w a b → Qr (some (zI (F_D_name w a b).1)) (F_D_name w a b).2) (kx : T_D_name w a b → Qx w) : q_Wc 7 m_X11_name [zR 27, zI a, zI b] S w Qr Qx := by
  obtain ⟨h1, hb, h2⟩ := h
  refine q_enter (by decide) (Nat.le_of_ble_eq_true rfl) ?_
  show y_Wp m_X11_name 0 0 [(0, zR 27), (1, zI a), (2, zI b)] [] w _
  refine y_aload_n (pc' := 1) 0 rfl rfl dX11_name_0 rfl ?_
  refine y_getR (t := 30) (fs := [30, 32, 35, 39, 43, 49, 55, 57, 72, 74, 78, 80, 0, 0, 1]) (pc' := 4) g_X11_19 (by decide) rfl rfl dX11_name_1 rfl ?_
  refine y_iload_n (pc' := 5) 1 rfl rfl dX11_name_4 rfl ?_
  refine y_invV (as := [zI a]) (st := []) (C := m_X6_hasName) (d' := 0) (fs := [33, 34]) (pc' := 8) dX11_name_5 rfl t_3_178 k_X6_hasName rfl (by decide) rfl rfl rfl rfl (Nat.le_of_ble_eq_true rfl) ⟨Nat.le_of_ble_eq_true rfl, Nat.le_of_ble_eq_true rfl⟩ ⟨Nat.le_of_ble_eq_true rfl, Nat.le_of_ble_eq_true rfl⟩ ?_
  refine c_Y_hasName h1 ?_
  show y_Wp m_X11_name 0 8 [(0, zR 27), (1, zI a), (2, zI b)] [zI (F_Y_hasName w a)] w _
  refine y_if_ne 21 dX11_name_8 (by decide) (pc' := 11) rfl (z_rb b_Y_hasName) (fun c => ?_) (fun c => ?_)
  · obtain ⟨p0, p1, p2, p3, p4, p5⟩ := h2 c
    refine y_iload_n (pc' := 22) 2 rfl rfl dX11_name_21 rfl ?_
    refine y_table dX11_name_22 rfl hb ?_
    refine ⟨fun c0 => ⟨60, by decide, ?_⟩, fun n0 => ⟨fun c1 => ⟨69, by decide, ?_⟩, fun n1 => ⟨fun c2 => ⟨78, by decide, ?_⟩, fun n2 => ⟨fun c3 => ⟨95, by decide, ?_⟩, fun n3 => ⟨fun c4 => ⟨104, by decide, ?_⟩, fun n4 => ⟨fun c5 => ⟨120, by decide, ?_⟩, fun n5 => ⟨129, by decide, ?_⟩⟩⟩⟩⟩⟩⟩
    · have kr := kr (by unfold T_D_name; omega)
      unfold F_D_name at kr
      rw [if_pos c0] at kr
      refine y_aload_n (pc' := 61) 0 rfl rfl dX11_name_60 rfl ?_
      refine y_getR (t := 30) (fs := [30, 32, 35, 39, 43, 49, 55, 57, 72, 74, 78, 80, 0, 0, 1]) (pc' := 64) g_X11_19 (by decide) rfl rfl dX11_name_61 rfl ?_
      refine y_iload_n (pc' := 65) 1 rfl rfl dX11_name_64 rfl ?_
      refine y_invV (as := [zI a]) (st := []) (C := m_X6_syllables) (d' := 1) (fs := [33, 34]) (pc' := 68) dX11_name_65 rfl t_6_37 k_X6_syllables rfl (by decide) rfl rfl rfl rfl (Nat.le_of_ble_eq_true rfl) ⟨Nat.le_of_ble_eq_true rfl, Nat.le_of_ble_eq_true rfl⟩ ⟨Nat.le_of_ble_eq_true rfl, Nat.le_of_ble_eq_true rfl⟩ ?_
      exact c_Y_syllables (d := 0) (p0 c0) (q_iret rfl dX11_name_68 kr)
    · have kr := kr (by unfold T_D_name; omega)
      unfold F_D_name at kr
      rw [if_neg n0, if_pos (by omega)] at kr
      refine y_aload_n (pc' := 70) 0 rfl rfl dX11_name_69 rfl ?_
      refine y_getR (t := 30) (fs := [30, 32, 35, 39, 43, 49, 55, 57, 72, 74, 78, 80, 0, 0, 1]) (pc' := 73) g_X11_19 (by decide) rfl rfl dX11_name_70 rfl ?_
      refine y_iload_n (pc' := 74) 1 rfl rfl dX11_name_73 rfl ?_
      refine y_invV (as := [zI a]) (st := []) (C := m_X6_knows) (d' := 1) (fs := [33, 34]) (pc' := 77) dX11_name_74 rfl t_6_38 k_X6_knows rfl (by decide) rfl rfl rfl rfl (Nat.le_of_ble_eq_true rfl) ⟨Nat.le_of_ble_eq_true rfl, Nat.le_of_ble_eq_true rfl⟩ ⟨Nat.le_of_ble_eq_true rfl, Nat.le_of_ble_eq_true rfl⟩ ?_
      exact c_Y_knows (d := 0) (p1 (by omega)) (q_iret rfl dX11_name_77 kr)
    · have kr := kr (by unfold T_D_name; omega)
      unfold F_D_name at kr
      rw [if_neg n0, if_neg (by omega), if_pos (by omega)] at kr
      refine y_aload_n (pc' := 79) 0 rfl rfl dX11_name_78 rfl ?_
      refine y_getR (t := 30) (fs := [30, 32, 35, 39, 43, 49, 55, 57, 72, 74, 78, 80, 0, 0, 1]) (pc' := 82) g_X11_19 (by decide) rfl rfl dX11_name_79 rfl ?_
      refine y_iload_n (pc' := 83) 1 rfl rfl dX11_name_82 rfl ?_
      refine y_invV (as := [zI a]) (st := []) (C := m_X6_isForeign) (d' := 1) (fs := [33, 34]) (pc' := 86) dX11_name_83 rfl t_6_39 k_X6_isForeign rfl (by decide) rfl rfl rfl rfl (Nat.le_of_ble_eq_true rfl) ⟨Nat.le_of_ble_eq_true rfl, Nat.le_of_ble_eq_true rfl⟩ ⟨Nat.le_of_ble_eq_true rfl, Nat.le_of_ble_eq_true rfl⟩ ?_
      refine c_Y_isForeign (d := 0) (p2 (by omega)) ?_
      show y_Wp m_X11_name 0 86 [(0, zR 27), (1, zI a), (2, zI b)] [zI (F_Y_isForeign w a)] w _
      refine y_if_eq 93 dX11_name_86 (by decide) (pc' := 89) rfl (z_rb b_Y_isForeign) (fun c9 => ?_) (fun c9 => ?_)
      · rw [c9] at kr
        exact y_iconst (pc' := 94) dX11_name_93 rfl (q_iret rfl dX11_name_94 kr)
      · have c8 : F_Y_isForeign w a = 1 := by
          rcases b_Y_isForeign (w := w) (a0 := a) with z | z
          · exact absurd z c9
          · exact z
        rw [c8] at kr
        exact y_iconst (pc' := 90) dX11_name_89 rfl (y_goto 94 dX11_name_90 (by decide) (q_iret rfl dX11_name_94 kr))
    · have kr := kr (by unfold T_D_name; omega)
      unfold F_D_name at kr
      rw [if_neg n0, if_neg (by omega), if_neg (by omega), if_pos (by omega)] at kr
      refine y_aload_n (pc' := 96) 0 rfl rfl dX11_name_95 rfl ?_
      refine y_getR (t := 41) (fs := [30, 32, 35, 39, 43, 49, 55, 57, 72, 74, 78, 80, 0, 0, 1]) (pc' := 99) g_X11_44 (by decide) rfl rfl dX11_name_96 rfl ?_
      refine y_iload_n (pc' := 100) 1 rfl rfl dX11_name_99 rfl ?_
      refine y_invV (as := [zI a]) (st := []) (C := m_X3_wellOf) (d' := 1) (fs := [32, 44, 45, 46, 47, 48, 0, 0, 0]) (pc' := 103) dX11_name_100 rfl t_6_40 k_X3_wellOf rfl (by decide) rfl rfl rfl rfl (Nat.le_of_ble_eq_true rfl) ⟨Nat.le_of_ble_eq_true rfl, Nat.le_of_ble_eq_true rfl⟩ ⟨Nat.le_of_ble_eq_true rfl, Nat.le_of_ble_eq_true rfl⟩ ?_
      exact c_K_wellOf (d := 0) (p3 (by omega)) (q_iret rfl dX11_name_103 kr)
    · have kr := kr (by unfold T_D_name; omega)
      unfold F_D_name at kr
      rw [if_neg n0, if_neg (by omega), if_neg (by omega), if_neg (by omega), if_pos (by omega)] at kr
      obtain ⟨r1, r2⟩ := p4 (by omega)
      refine y_aload_n (pc' := 105) 0 rfl rfl dX11_name_104 rfl ?_
      refine y_getR (t := 41) (fs := [30, 32, 35, 39, 43, 49, 55, 57, 72, 74, 78, 80, 0, 0, 1]) (pc' := 108) g_X11_44 (by decide) rfl rfl dX11_name_105 rfl ?_
      refine y_iload_n (pc' := 109) 1 rfl rfl dX11_name_108 rfl ?_
      refine y_aload_n (pc' := 110) 0 rfl rfl dX11_name_109 rfl ?_
      refine y_getR (t := 41) (fs := [30, 32, 35, 39, 43, 49, 55, 57, 72, 74, 78, 80, 0, 0, 1]) (pc' := 113) g_X11_44 (by decide) rfl rfl dX11_name_110 rfl ?_
      refine y_invV (as := []) (st := [zI a, zR 41]) (C := m_X3_drowned) (d' := 2) (fs := [32, 44, 45, 46, 47, 48, 0, 0, 0]) (pc' := 116) dX11_name_113 rfl t_3_154 k_X3_drowned rfl (by decide) rfl rfl rfl rfl (Nat.le_of_ble_eq_true rfl) ⟨Nat.le_of_ble_eq_true rfl, Nat.le_of_ble_eq_true rfl⟩ ⟨Nat.le_of_ble_eq_true rfl, Nat.le_of_ble_eq_true rfl⟩ ?_
      refine c_K_drowned (d := 0) r1 ?_
      show y_Wp m_X11_name 0 116 [(0, zR 27), (1, zI a), (2, zI b)] [zI (F_K_drowned w), zI a, zR 41] w _
      refine y_invV (as := [zI a, zI (F_K_drowned w)]) (st := []) (C := m_X3_above) (d' := 2) (fs := [32, 44, 45, 46, 47, 48, 0, 0, 0]) (pc' := 119) dX11_name_116 rfl t_6_41 k_X3_above rfl (by decide) rfl rfl rfl rfl (Nat.le_of_ble_eq_true rfl) ⟨Nat.le_of_ble_eq_true rfl, Nat.le_of_ble_eq_true rfl⟩ ⟨Nat.le_of_ble_eq_true rfl, Nat.le_of_ble_eq_true rfl⟩ ?_
      exact c_K_above (d := 0) r2 (q_iret rfl dX11_name_119 kr)
    · have kr := kr (by unfold T_D_name; omega)
      unfold F_D_name at kr
      rw [if_neg n0, if_neg (by omega), if_neg (by omega), if_neg (by omega), if_neg (by omega)] at kr
      refine y_aload_n (pc' := 121) 0 rfl rfl dX11_name_120 rfl ?_
      refine y_getR (t := 55) (fs := [30, 32, 35, 39, 43, 49, 55, 57, 72, 74, 78, 80, 0, 0, 1]) (pc' := 124) g_X11_63 (by decide) rfl rfl dX11_name_121 rfl ?_
      refine y_iload_n (pc' := 125) 1 rfl rfl dX11_name_124 rfl ?_
      refine y_invV (as := [zI a]) (st := []) (C := m_X1_missed) (d' := 5) (fs := [32, 43, 58, 59, 0, 0]) (pc' := 128) dX11_name_125 rfl t_6_42 k_X1_missed rfl (by decide) rfl rfl rfl rfl (Nat.le_of_ble_eq_true rfl) ⟨Nat.le_of_ble_eq_true rfl, Nat.le_of_ble_eq_true rfl⟩ ⟨Nat.le_of_ble_eq_true rfl, Nat.le_of_ble_eq_true rfl⟩ ?_
      exact c_G_missed (d := 0) (p5 (by omega)) (q_iret rfl dX11_name_128 kr)
    · exact q_thr (is := 195) (text := "no such what") (by decide) (fun A U hN => ⟨S.2, hN.2.2.1⟩) dX11_name_129 dX11_name_132 dX11_name_133 dX11_name_135 dX11_name_138 (kx (by unfold T_D_name; omega))
  · exact q_thr (is := 168) (text := "no such name") (by decide) (fun A U hN => ⟨S.1, hN.2.1⟩) dX11_name_11 dX11_name_14 dX11_name_15 dX11_name_17 dX11_name_20 (kx (Or.inl (by omega)))
