section ZM2
variable {M : z_M} {d pc pc' : Nat} {ls : List (Nat × z_V)} {st : List z_V} {w w' : z_Wd} {Q : Option z_V → z_Wd → Prop}
theorem z_getI2 {idx k ci j : Nat} {fs : List Nat} {v : Int} (hF : z_FD M.1.cls idx ci j) (hk : k < z_N) (hsh : z_sh k = .inl (ci, fs)) (hf : fs[j]? = some 0) (hv : w k j = v) (hd : decode M.2.1 pc = .ok (.getfield idx, 3)) (hp : pc + 3 = pc') (kk : z_Wp M d pc' ls (zI v :: st) w Q) : z_Wp M d pc ls (zR k :: st) w Q := by
  subst hv
  exact z_getI hF hk hsh hf hd hp kk
theorem z_getJ2 {idx k ci j : Nat} {fs : List Nat} {v : Int} (hF : z_FD M.1.cls idx ci j) (hk : k < z_N) (hsh : z_sh k = .inl (ci, fs)) (hf : fs[j]? = some 1) (hv : w k j = v) (hd : decode M.2.1 pc = .ok (.getfield idx, 3)) (hp : pc + 3 = pc') (kk : z_Wp M d pc' ls (zJ v :: st) w Q) : z_Wp M d pc ls (zR k :: st) w Q := by
  subst hv
  exact z_getJ hF hk hsh hf hd hp kk
theorem z_iald2 {k n : Nat} {i v : Int} {rs : List Nat} (hk : k < z_N) (hsh : z_sh k = .inr (0, n, rs)) (hi : 0 ≤ i ∧ i < n) (hn : n ≤ 100000) (hv : w k i.toNat = v) (hd : decode M.2.1 pc = .ok (.iaload, 1)) (hp : pc + 1 = pc') (kk : z_Wp M d pc' ls (zI v :: st) w Q) : z_Wp M d pc ls (zI i :: zR k :: st) w Q := by
  subst hv
  exact z_iald hk hsh hi hn hd hp kk
theorem z_lald2 {k n : Nat} {i v : Int} {rs : List Nat} (hk : k < z_N) (hsh : z_sh k = .inr (2, n, rs)) (hi : 0 ≤ i ∧ i < n) (hn : n ≤ 100000) (hv : w k i.toNat = v) (hd : decode M.2.1 pc = .ok (.laload, 1)) (hp : pc + 1 = pc') (kk : z_Wp M d pc' ls (zJ v :: st) w Q) : z_Wp M d pc ls (zI i :: zR k :: st) w Q := by
  subst hv
  exact z_lald hk hsh hi hn hd hp kk
theorem z_ials2 {i : Nat} {x v : Int} {q : z_T} (hq : z_sts[i]? = some q) (ht : q.2.2.2.1 = .int) (hi : 0 ≤ x ∧ x < q.2.2.2.2.length) (hn : q.2.2.2.2.length ≤ 100000) (hv : z_sc i x.toNat = v) (hd : decode M.2.1 pc = .ok (.iaload, 1)) (hp : pc + 1 = pc') (kk : z_Wp M d pc' ls (zI v :: st) w Q) : z_Wp M d pc ls (zI x :: zR (200 + i) :: st) w Q := by
  subst hv
  exact z_ials hq ht hi hn hd hp kk
theorem z_cals2 {i : Nat} {x v : Int} {q : z_T} (hq : z_sts[i]? = some q) (ht : q.2.2.2.1 = .char) (hi : 0 ≤ x ∧ x < q.2.2.2.2.length) (hn : q.2.2.2.2.length ≤ 100000) (hv : z_sc i x.toNat = v) (hd : decode M.2.1 pc = .ok (.caload, 1)) (hp : pc + 1 = pc') (kk : z_Wp M d pc' ls (zI v :: st) w Q) : z_Wp M d pc ls (zI x :: zR (200 + i) :: st) w Q := by
  subst hv
  exact z_cals hq ht hi hn hd hp kk
theorem z_iast2 {k n : Nat} {i x : Int} {rs : List Nat} (hk : k < z_N) (hsh : z_sh k = .inr (0, n, rs)) (hi : 0 ≤ i ∧ i < n) (hn : n ≤ 100000) (hw : z_up w k i.toNat x = w') (hd : decode M.2.1 pc = .ok (.iastore, 1)) (hp : pc + 1 = pc') (kk : z_Wp M d pc' ls st w' Q) : z_Wp M d pc ls (zI x :: zI i :: zR k :: st) w Q := by
  subst hw
  exact z_iast hk hsh hi hn hd hp kk
theorem z_last2 {k n : Nat} {i x : Int} {rs : List Nat} (hk : k < z_N) (hsh : z_sh k = .inr (2, n, rs)) (hi : 0 ≤ i ∧ i < n) (hn : n ≤ 100000) (hw : z_up w k i.toNat x = w') (hd : decode M.2.1 pc = .ok (.lastore, 1)) (hp : pc + 1 = pc') (kk : z_Wp M d pc' ls st w' Q) : z_Wp M d pc ls (zJ x :: zI i :: zR k :: st) w Q := by
  subst hw
  exact z_last hk hsh hi hn hd hp kk
theorem z_copy2 {idx k0 k1 n0 n1 : Nat} {rs0 rs1 : List Nat} {sp dp n : Int} (hl : Cond.methodLink M.1.cls idx arraycopyName ∈ z_tb) (hna : Cond.native arraycopyName ∈ z_tb) (hst : Cond.static arraycopyName ∈ z_tb) (hin : Cond.initialized "java/lang/System" ∈ z_tb) (hk0 : k0 < z_N) (hk1 : k1 < z_N) (hs0 : z_sh k0 = .inr (0, n0, rs0)) (hs1 : z_sh k1 = .inr (0, n1, rs1)) (h0 : n0 ≤ 100000) (h1 : n1 ≤ 100000) (hsp : 0 ≤ sp) (hdp : 0 ≤ dp) (hn : 0 ≤ n) (hb0 : sp + n ≤ n0) (hb1 : dp + n ≤ n1) (hw : (st.map z_wd).sum ≤ 8) (hw2 : z_cpy w k0 sp.toNat k1 dp.toNat n.toNat = w') (hd : decode M.2.1 pc = .ok (.invokestatic idx, 3)) (hp : pc + 3 = pc')
    (kk : z_Wp M d pc' ls st w' Q) : z_Wp M d pc ls (zI n :: zI dp :: zR k1 :: zI sp :: zR k0 :: st) w Q := by
  subst hw2
  exact z_copy hl hna hst hin hk0 hk1 hs0 hs1 h0 h1 hsp hdp hn hb0 hb1 hw hd hp kk
theorem z_eqI {x y : Int} (h : x = y) (k : z_Wp M d pc ls (zI y :: st) w Q) : z_Wp M d pc ls (zI x :: st) w Q := h ▸ k
theorem z_eqJ {x y : Int} (h : x = y) (k : z_Wp M d pc ls (zJ y :: st) w Q) : z_Wp M d pc ls (zJ x :: st) w Q := h ▸ k
theorem z_cmp_r (x y : Int) : -2147483648 ≤ z_cmp x y ∧ z_cmp x y < 2147483648 := by
  unfold z_cmp
  split
  · omega
  · split <;> omega
theorem z_rb {x : Int} (h : x = 0 ∨ x = 1) : -2147483648 ≤ x ∧ x < 2147483648 := by omega
theorem z_nb {x : Int} (h : x = 0 ∨ x = 1) : narrow .boolean (.int (Int32.ofInt x)) = .int (Int32.ofInt x) := by rcases h with rfl | rfl <;> rfl
theorem z_fb {x : Int} (h : x = 0 ∨ x = 1) : fits .boolean (.int (Int32.ofInt x)) = true := by rcases h with rfl | rfl <;> rfl
theorem z_sub_of {ls ls' : List (Nat × z_V)} (ks : List Nat) (h : ks.filterMap (fun k => ls[k]?) = ls') : ∀ q ∈ ls', q ∈ ls := by
  intro q hq
  subst h
  obtain ⟨i, -, hi⟩ := List.mem_filterMap.mp hq
  exact List.mem_of_getElem? hi
end ZM2
theorem z_ofWF {l : Launch} {y : MethodName} {ws ws' : List Cond} {rm : Room} {Pc : Array Value → State → Prop} {Qc : Array Value → State → Outcome → State → Prop} {mc ms : Nat} {free : Addr → Prop} {cc : ByteArray} {maxL : Nat} {ret : Option FieldType}
    (hy : plainFor y = true) (hw : ws = Cond.code y cc maxL ret :: ws')
    (body : ∀ p e s m args below meth c s₁, BodyLoose p l y (headSpec ws rm) cc maxL ret e s m args below meth c s₁ → c.maxLocals = maxL → Pc args s →
      W p l e (headSpec ws rm).room s m args below meth c s.heap [] 0 0 (MQ below Qc args s mc ms free) (entryFrame m args maxL)) : Met l y ws rm Pc Qc mc ms free := by
  refine MetFree.of_bodySF (code := cc) (maxLocals := maxL) (ret := ret) hy ?_ ?_
  · intro args s m h hn
    obtain ⟨meth, c, h1, h2, h3, h4, h5, h6, -, -⟩ := Cond.code_spec hn (atoms_spec (ws := ws) h _ (by rw [hw]; exact List.mem_cons_self))
    exact ⟨meth, c, h1, h2, h3, h4, h5, h6⟩
  · intro p e s m args below meth c s₁ B hml hP _
    have hh0 : s₁.heap = s.heap := by rw [B.state]; rfl
    obtain ⟨t, a1, o, b1, b2, b3⟩ := body p e s m args below meth c s₁ B hml hP s₁ hh0 (Stand.of_body B)
    exact ⟨t, o, a1, b1, b2, ⟨b3.1, b3.2⟩⟩
theorem z_enterF {M : z_M} {d : Nat} {as : List z_V} {w : z_Wd} {Q : Option z_V → z_Wd → Prop} (hy : plainFor M.1 = true) (hn : (as.map z_wd).sum ≤ M.2.2.1) (k : z_Wp M d 0 (z_la 0 as) [] w Q) : z_Wc d M as w Q := by
  intro l E sz hinj
  refine z_ofWF (cc := M.2.1) (maxL := M.2.2.1) (ret := M.2.2.2) hy rfl ?_
  intro p e s m args below meth c s₁ B hml hv
  obtain ⟨rfl, hsz, hP, hG⟩ := hv
  subst hsz
  have hts := atoms_spec (ws := Cond.code M.1 M.2.1 M.2.2.1 M.2.2.2 :: z_tb) B.pre
  have hown : s.vm.findClass M.1.cls = some m.cls := findClass_of_methodNamed B.named
  have hl := lv_entry (as.map (z_cv E)) (n := M.2.2.1) (by rw [z_sl_len]; exact hn)
  rw [lg_entry_eq]
  rw [z_la_eq] at hl
  exact k E p l e s m _ below meth c s.heap [] _ ⟨B.exec, B.bytes, B.returns, hml, hown, fun w hw => hts w (List.mem_cons_of_mem _ hw), hG, hinj, B.notSynchronized⟩ hP va_S.rf hl
