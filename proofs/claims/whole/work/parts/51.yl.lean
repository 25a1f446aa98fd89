/-! the same rows for methods that make things, throw, or are the law itself: any room, any end -/
abbrev y_X : Type := Room × (Nat × Nat) × (z_E → State → Nat → Prop) × (z_E → Launch → State → Array Value → Code → Prop) × (z_E → List Frame → Array Value → State → State → Prop)
def y_C (M : z_M) (X : y_X) (E : z_E) (p : Program) (l : Launch) (s : State) (m : MethodId) (args : Array Value) (meth : Method) (c : Code) : Prop :=
  p.tables.exec = Jvm.exec ∧ c.code = M.2.1 ∧ meth.sig.returnType = M.2.2.2 ∧ c.maxLocals = M.2.2.1 ∧ s.vm.findClass M.1.cls = some m.cls ∧ (∀ w ∈ z_tb, w.before args s = true) ∧ z_G E (X.2.2.1 E s) s ∧ (z_inj E ∧ (∀ k, k < z_N → X.2.2.1 E s (E.2.1 k)) ∧ ∀ q, s.heap.size ≤ q → X.2.2.1 E s q) ∧ meth.locks = false ∧ X.2.2.2.1 E l s args c
def y_Wp (M : z_M) (d pc : Nat) (ls : List (Nat × z_V)) (st : List z_V) (w : z_Wd) (Q : y_X) : Prop :=
  ∀ (E : z_E) (p : Program) (l : Launch) (e : Env) (s : State) (m : MethodId) (args : Array Value) (below : List Frame) (meth : Method) (c : Code) (H : Heap) (locs : List Loc) (lz : Array Slot),
    y_C M Q E p l s m args meth c → va_P E.1 classes (z_cw E w) H → va_S (Q.2.2.1 E s) s.heap H locs → lv_has lz M.2.2.1 (ls.map (z_cl E)) →
    W p l e Q.1 s m args below meth c H locs Q.2.1.1 Q.2.1.2 (Q.2.2.2.2 E below args s) (F0 m pc lz (st.map (z_cv E)))
theorem y_iconst {M : z_M} {d pc pc' : Nat} {ls : List (Nat × z_V)} {st : List z_V} {w : z_Wd} {Q : y_X} {n : Int} (hd : decode M.2.1 pc = .ok (.iconst n, 1)) (hp : pc + 1 = pc') (k : y_Wp M d pc' ls (zI n :: st) (w) Q) : y_Wp M d pc ls (st) w Q := by
  subst hp
  intro E p l e s m args below meth c H locs lz CX hP hS hl
  exact lv_iconst CX.1 CX.2.1 hd rfl (k E p l e s m args below meth c H locs lz CX hP hS hl)
theorem y_bipush {M : z_M} {d pc pc' : Nat} {ls : List (Nat × z_V)} {st : List z_V} {w : z_Wd} {Q : y_X} {n : Int} (hv : (Int8.ofInt n).toInt32 = Int32.ofInt n) (hd : decode M.2.1 pc = .ok (.bipush n, 2)) (hp : pc + 2 = pc') (k : y_Wp M d pc' ls (zI n :: st) (w) Q) : y_Wp M d pc ls (st) w Q := by
  subst hp
  intro E p l e s m args below meth c H locs lz CX hP hS hl
  exact lv_bipush CX.1 CX.2.1 hd hv (k E p l e s m args below meth c H locs lz CX hP hS hl)
theorem y_sipush {M : z_M} {d pc pc' : Nat} {ls : List (Nat × z_V)} {st : List z_V} {w : z_Wd} {Q : y_X} {n : Int} (hv : (Int16.ofInt n).toInt32 = Int32.ofInt n) (hd : decode M.2.1 pc = .ok (.sipush n, 3)) (hp : pc + 3 = pc') (k : y_Wp M d pc' ls (zI n :: st) (w) Q) : y_Wp M d pc ls (st) w Q := by
  subst hp
  intro E p l e s m args below meth c H locs lz CX hP hS hl
  exact lv_sipush CX.1 CX.2.1 hd hv (k E p l e s m args below meth c H locs lz CX hP hS hl)
theorem y_lconst {M : z_M} {d pc pc' : Nat} {ls : List (Nat × z_V)} {st : List z_V} {w : z_Wd} {Q : y_X} {n : Fin 2} {v : Int} (hv : Int64.ofNat (n : Nat) = Int64.ofInt v) (hd : decode M.2.1 pc = .ok (.lconst n, 1)) (hp : pc + 1 = pc') (k : y_Wp M d pc' ls (zJ v :: st) (w) Q) : y_Wp M d pc ls (st) w Q := by
  subst hp
  intro E p l e s m args below meth c H locs lz CX hP hS hl
  exact lv_lconst CX.1 CX.2.1 hd hv (k E p l e s m args below meth c H locs lz CX hP hS hl)
theorem y_ldc {M : z_M} {d pc pc' : Nat} {ls : List (Nat × z_V)} {st : List z_V} {w : z_Wd} {Q : y_X} {idx : Nat} {n : Int} {v : Int32} (hc : Cond.constant M.1.cls idx v ∈ z_tb) (hv : v = Int32.ofInt n) (hd : decode M.2.1 pc = .ok (.ldc idx, 2)) (hp : pc + 2 = pc') (k : y_Wp M d pc' ls (zI n :: st) (w) Q) : y_Wp M d pc ls (st) w Q := by
  subst hp
  intro E p l e s m args below meth c H locs lz CX hP hS hl
  subst hv
  exact lv_ldc CX.1 CX.2.1 CX.2.2.2.2.1 (CX.2.2.2.2.2.1 _ hc) hd (k E p l e s m args below meth c H locs lz CX hP hS hl)
theorem y_ldcw {M : z_M} {d pc pc' : Nat} {ls : List (Nat × z_V)} {st : List z_V} {w : z_Wd} {Q : y_X} {idx : Nat} {n : Int} {v : Int32} (hc : Cond.constant M.1.cls idx v ∈ z_tb) (hv : v = Int32.ofInt n) (hd : decode M.2.1 pc = .ok (.ldc_w idx, 3)) (hp : pc + 3 = pc') (k : y_Wp M d pc' ls (zI n :: st) (w) Q) : y_Wp M d pc ls (st) w Q := by
  subst hp
  intro E p l e s m args below meth c H locs lz CX hP hS hl
  subst hv
  exact lv_ldcw CX.1 CX.2.1 CX.2.2.2.2.1 (CX.2.2.2.2.2.1 _ hc) hd (k E p l e s m args below meth c H locs lz CX hP hS hl)
theorem y_ldc2 {M : z_M} {d pc pc' : Nat} {ls : List (Nat × z_V)} {st : List z_V} {w : z_Wd} {Q : y_X} {idx : Nat} {n : Int} {v : Int64} (hc : Cond.constantLong M.1.cls idx v ∈ z_tb) (hv : v = Int64.ofInt n) (hd : decode M.2.1 pc = .ok (.ldc2_w idx, 3)) (hp : pc + 3 = pc') (k : y_Wp M d pc' ls (zJ n :: st) (w) Q) : y_Wp M d pc ls (st) w Q := by
  subst hp
  intro E p l e s m args below meth c H locs lz CX hP hS hl
  subst hv
  exact lv_ldc2 CX.1 CX.2.1 CX.2.2.2.2.1 (CX.2.2.2.2.2.1 _ hc) hd (k E p l e s m args below meth c H locs lz CX hP hS hl)
theorem y_iload_n {M : z_M} {d pc pc' : Nat} {ls : List (Nat × z_V)} {st : List z_V} {w : z_Wd} {Q : y_X} {f : Fin 4} {i : Nat} {x : Int} (j : Nat) (hi : (f : Nat) = i) (hj : ls[j]? = some (i, zI x)) (hd : decode M.2.1 pc = .ok (.iload_n f, 1)) (hp : pc + 1 = pc') (k : y_Wp M d pc' ls (zI x :: st) (w) Q) : y_Wp M d pc ls (st) w Q := by
  subst hp
  intro E p l e s m args below meth c H locs lz CX hP hS hl
  exact lv_iload_n CX.1 CX.2.1 hd hi (z_look hl hj) (k E p l e s m args below meth c H locs lz CX hP hS hl)
theorem y_iload {M : z_M} {d pc pc' : Nat} {ls : List (Nat × z_V)} {st : List z_V} {w : z_Wd} {Q : y_X} {i : Nat} {x : Int} (j : Nat) (hj : ls[j]? = some (i, zI x)) (hd : decode M.2.1 pc = .ok (.iload i, 2)) (hp : pc + 2 = pc') (k : y_Wp M d pc' ls (zI x :: st) (w) Q) : y_Wp M d pc ls (st) w Q := by
  subst hp
  intro E p l e s m args below meth c H locs lz CX hP hS hl
  exact lv_iload CX.1 CX.2.1 hd (z_look hl hj) (k E p l e s m args below meth c H locs lz CX hP hS hl)
theorem y_aload_n {M : z_M} {d pc pc' : Nat} {ls : List (Nat × z_V)} {st : List z_V} {w : z_Wd} {Q : y_X} {f : Fin 4} {i : Nat} {x : Nat} (j : Nat) (hi : (f : Nat) = i) (hj : ls[j]? = some (i, zR x)) (hd : decode M.2.1 pc = .ok (.aload_n f, 1)) (hp : pc + 1 = pc') (k : y_Wp M d pc' ls (zR x :: st) (w) Q) : y_Wp M d pc ls (st) w Q := by
  subst hp
  intro E p l e s m args below meth c H locs lz CX hP hS hl
  exact lv_aload_n CX.1 CX.2.1 hd hi (z_look hl hj) (k E p l e s m args below meth c H locs lz CX hP hS hl)
theorem y_aload {M : z_M} {d pc pc' : Nat} {ls : List (Nat × z_V)} {st : List z_V} {w : z_Wd} {Q : y_X} {i : Nat} {x : Nat} (j : Nat) (hj : ls[j]? = some (i, zR x)) (hd : decode M.2.1 pc = .ok (.aload i, 2)) (hp : pc + 2 = pc') (k : y_Wp M d pc' ls (zR x :: st) (w) Q) : y_Wp M d pc ls (st) w Q := by
  subst hp
  intro E p l e s m args below meth c H locs lz CX hP hS hl
  exact lv_aload CX.1 CX.2.1 hd (z_look hl hj) (k E p l e s m args below meth c H locs lz CX hP hS hl)
theorem y_lload_n {M : z_M} {d pc pc' : Nat} {ls : List (Nat × z_V)} {st : List z_V} {w : z_Wd} {Q : y_X} {f : Fin 4} {i : Nat} {x : Int} (j : Nat) (hi : (f : Nat) = i) (hj : ls[j]? = some (i, zJ x)) (hd : decode M.2.1 pc = .ok (.lload_n f, 1)) (hp : pc + 1 = pc') (k : y_Wp M d pc' ls (zJ x :: st) (w) Q) : y_Wp M d pc ls (st) w Q := by
  subst hp
  intro E p l e s m args below meth c H locs lz CX hP hS hl
  exact lv_lload_n CX.1 CX.2.1 hd hi (z_look hl hj) (k E p l e s m args below meth c H locs lz CX hP hS hl)
theorem y_lload {M : z_M} {d pc pc' : Nat} {ls : List (Nat × z_V)} {st : List z_V} {w : z_Wd} {Q : y_X} {i : Nat} {x : Int} (j : Nat) (hj : ls[j]? = some (i, zJ x)) (hd : decode M.2.1 pc = .ok (.lload i, 2)) (hp : pc + 2 = pc') (k : y_Wp M d pc' ls (zJ x :: st) (w) Q) : y_Wp M d pc ls (st) w Q := by
  subst hp
  intro E p l e s m args below meth c H locs lz CX hP hS hl
  exact lv_lload CX.1 CX.2.1 hd (z_look hl hj) (k E p l e s m args below meth c H locs lz CX hP hS hl)
theorem y_istore_n {M : z_M} {d pc pc' : Nat} {ls : List (Nat × z_V)} {st : List z_V} {w : z_Wd} {Q : y_X} {f : Fin 4} {i : Nat} {x : Int} {ls' : List (Nat × z_V)} (hi : (f : Nat) = i) (hn : i < M.2.2.1) (hls : z_stl i (zI x) ls = ls') (hc : ls.all (fun q => !(Nat.beq (q.1 + 1) i && Nat.beq (z_wd q.2) 2)) = true) (hd : decode M.2.1 pc = .ok (.istore_n f, 1)) (hp : pc + 1 = pc') (k : y_Wp M d pc' ls' (st) (w) Q) : y_Wp M d pc ls (zI x :: st) w Q := by
  subst hp
  intro E p l e s m args below meth c H locs lz CX hP hS hl
  exact lv_istore_n CX.1 CX.2.1 hd hi hl hn rfl (fun ls2 h2 => k E p l e s m args below meth c H locs ls2 CX hP hS (z_keep rfl hls hc h2))
theorem y_istore {M : z_M} {d pc pc' : Nat} {ls : List (Nat × z_V)} {st : List z_V} {w : z_Wd} {Q : y_X} {i : Nat} {x : Int} {ls' : List (Nat × z_V)} (hn : i < M.2.2.1) (hls : z_stl i (zI x) ls = ls') (hc : ls.all (fun q => !(Nat.beq (q.1 + 1) i && Nat.beq (z_wd q.2) 2)) = true) (hd : decode M.2.1 pc = .ok (.istore i, 2)) (hp : pc + 2 = pc') (k : y_Wp M d pc' ls' (st) (w) Q) : y_Wp M d pc ls (zI x :: st) w Q := by
  subst hp
  intro E p l e s m args below meth c H locs lz CX hP hS hl
  exact lv_istore CX.1 CX.2.1 hd hl hn rfl (fun ls2 h2 => k E p l e s m args below meth c H locs ls2 CX hP hS (z_keep rfl hls hc h2))
theorem y_astore_n {M : z_M} {d pc pc' : Nat} {ls : List (Nat × z_V)} {st : List z_V} {w : z_Wd} {Q : y_X} {f : Fin 4} {i : Nat} {x : Nat} {ls' : List (Nat × z_V)} (hi : (f : Nat) = i) (hn : i < M.2.2.1) (hls : z_stl i (zR x) ls = ls') (hc : ls.all (fun q => !(Nat.beq (q.1 + 1) i && Nat.beq (z_wd q.2) 2)) = true) (hd : decode M.2.1 pc = .ok (.astore_n f, 1)) (hp : pc + 1 = pc') (k : y_Wp M d pc' ls' (st) (w) Q) : y_Wp M d pc ls (zR x :: st) w Q := by
  subst hp
  intro E p l e s m args below meth c H locs lz CX hP hS hl
  exact lv_astore_n CX.1 CX.2.1 hd hi hl hn rfl (fun ls2 h2 => k E p l e s m args below meth c H locs ls2 CX hP hS (z_keep rfl hls hc h2))
theorem y_astore {M : z_M} {d pc pc' : Nat} {ls : List (Nat × z_V)} {st : List z_V} {w : z_Wd} {Q : y_X} {i : Nat} {x : Nat} {ls' : List (Nat × z_V)} (hn : i < M.2.2.1) (hls : z_stl i (zR x) ls = ls') (hc : ls.all (fun q => !(Nat.beq (q.1 + 1) i && Nat.beq (z_wd q.2) 2)) = true) (hd : decode M.2.1 pc = .ok (.astore i, 2)) (hp : pc + 2 = pc') (k : y_Wp M d pc' ls' (st) (w) Q) : y_Wp M d pc ls (zR x :: st) w Q := by
  subst hp
  intro E p l e s m args below meth c H locs lz CX hP hS hl
  exact lv_astore CX.1 CX.2.1 hd hl hn rfl (fun ls2 h2 => k E p l e s m args below meth c H locs ls2 CX hP hS (z_keep rfl hls hc h2))
theorem y_iinc {M : z_M} {d pc pc' : Nat} {ls : List (Nat × z_V)} {st : List z_V} {w : z_Wd} {Q : y_X} {i : Nat} {n x : Int} {ls' : List (Nat × z_V)} (j : Nat) (hj : ls[j]? = some (i, zI x)) (hn : i < M.2.2.1) (hls : z_stl i (zI (x + n)) ls = ls') (hc : ls.all (fun q => !(Nat.beq (q.1 + 1) i && Nat.beq (z_wd q.2) 2)) = true) (hd : decode M.2.1 pc = .ok (.iinc i n, 3)) (hp : pc + 3 = pc') (k : y_Wp M d pc' ls' (st) (w) Q) : y_Wp M d pc ls (st) w Q := by
  subst hp
  intro E p l e s m args below meth c H locs lz CX hP hS hl
  exact lv_iinc (k := j) CX.1 CX.2.1 hd hl (by rw [List.getElem?_map, hj]; rfl) (show Int32.ofInt x + Int32.ofInt n = Int32.ofInt (x + n) by rw [Int32.ofInt_add]) hn rfl (fun ls2 h2 => k E p l e s m args below meth c H locs ls2 CX hP hS (z_keep rfl hls hc h2))
theorem y_iadd {M : z_M} {d pc pc' : Nat} {ls : List (Nat × z_V)} {st : List z_V} {w : z_Wd} {Q : y_X} {x y : Int} (hd : decode M.2.1 pc = .ok (.iadd, 1)) (hp : pc + 1 = pc') (k : y_Wp M d pc' ls (zI (x + y) :: st) (w) Q) : y_Wp M d pc ls (zI y :: zI x :: st) w Q := by
  subst hp
  intro E p l e s m args below meth c H locs lz CX hP hS hl
  refine lv_iadd CX.1 CX.2.1 hd ?_
  rw [← Int32.ofInt_add]
  exact k E p l e s m args below meth c H locs lz CX hP hS hl
theorem y_isub {M : z_M} {d pc pc' : Nat} {ls : List (Nat × z_V)} {st : List z_V} {w : z_Wd} {Q : y_X} {x y : Int} (hd : decode M.2.1 pc = .ok (.isub, 1)) (hp : pc + 1 = pc') (k : y_Wp M d pc' ls (zI (x - y) :: st) (w) Q) : y_Wp M d pc ls (zI y :: zI x :: st) w Q := by
  subst hp
  intro E p l e s m args below meth c H locs lz CX hP hS hl
  refine lv_isub CX.1 CX.2.1 hd ?_
  rw [← Int32.ofInt_sub]
  exact k E p l e s m args below meth c H locs lz CX hP hS hl
theorem y_imul {M : z_M} {d pc pc' : Nat} {ls : List (Nat × z_V)} {st : List z_V} {w : z_Wd} {Q : y_X} {x y : Int} (hd : decode M.2.1 pc = .ok (.imul, 1)) (hp : pc + 1 = pc') (k : y_Wp M d pc' ls (zI (x * y) :: st) (w) Q) : y_Wp M d pc ls (zI y :: zI x :: st) w Q := by
  subst hp
  intro E p l e s m args below meth c H locs lz CX hP hS hl
  refine lv_imul CX.1 CX.2.1 hd ?_
  rw [← Int32.ofInt_mul]
  exact k E p l e s m args below meth c H locs lz CX hP hS hl
theorem y_ladd {M : z_M} {d pc pc' : Nat} {ls : List (Nat × z_V)} {st : List z_V} {w : z_Wd} {Q : y_X} {x y : Int} (hd : decode M.2.1 pc = .ok (.ladd, 1)) (hp : pc + 1 = pc') (k : y_Wp M d pc' ls (zJ (x + y) :: st) (w) Q) : y_Wp M d pc ls (zJ y :: zJ x :: st) w Q := by
  subst hp
  intro E p l e s m args below meth c H locs lz CX hP hS hl
  refine lv_ladd CX.1 CX.2.1 hd ?_
  rw [← Int64.ofInt_add]
  exact k E p l e s m args below meth c H locs lz CX hP hS hl
theorem y_lsub {M : z_M} {d pc pc' : Nat} {ls : List (Nat × z_V)} {st : List z_V} {w : z_Wd} {Q : y_X} {x y : Int} (hd : decode M.2.1 pc = .ok (.lsub, 1)) (hp : pc + 1 = pc') (k : y_Wp M d pc' ls (zJ (x - y) :: st) (w) Q) : y_Wp M d pc ls (zJ y :: zJ x :: st) w Q := by
  subst hp
  intro E p l e s m args below meth c H locs lz CX hP hS hl
  refine lv_lsub CX.1 CX.2.1 hd ?_
  rw [← Int64.ofInt_sub]
  exact k E p l e s m args below meth c H locs lz CX hP hS hl
theorem y_lmul {M : z_M} {d pc pc' : Nat} {ls : List (Nat × z_V)} {st : List z_V} {w : z_Wd} {Q : y_X} {x y : Int} (hd : decode M.2.1 pc = .ok (.lmul, 1)) (hp : pc + 1 = pc') (k : y_Wp M d pc' ls (zJ (x * y) :: st) (w) Q) : y_Wp M d pc ls (zJ y :: zJ x :: st) w Q := by
  subst hp
  intro E p l e s m args below meth c H locs lz CX hP hS hl
  refine lv_lmul CX.1 CX.2.1 hd ?_
  rw [← Int64.ofInt_mul]
  exact k E p l e s m args below meth c H locs lz CX hP hS hl
theorem y_iand {M : z_M} {d pc pc' : Nat} {ls : List (Nat × z_V)} {st : List z_V} {w : z_Wd} {Q : y_X} {x y : Int} (hd : decode M.2.1 pc = .ok (.iand, 1)) (hp : pc + 1 = pc') (k : y_Wp M d pc' ls (zI (zz_and x y) :: st) (w) Q) : y_Wp M d pc ls (zI y :: zI x :: st) w Q := by
  subst hp
  intro E p l e s m args below meth c H locs lz CX hP hS hl
  refine lv_iand CX.1 CX.2.1 hd ?_
  have h := k E p l e s m args below meth c H locs lz CX hP hS hl
  simp only [zz_and, List.map_cons, z_cv, Int32.ofInt_toInt] at h
  exact h
theorem y_ior {M : z_M} {d pc pc' : Nat} {ls : List (Nat × z_V)} {st : List z_V} {w : z_Wd} {Q : y_X} {x y : Int} (hd : decode M.2.1 pc = .ok (.ior, 1)) (hp : pc + 1 = pc') (k : y_Wp M d pc' ls (zI (zz_or x y) :: st) (w) Q) : y_Wp M d pc ls (zI y :: zI x :: st) w Q := by
  subst hp
  intro E p l e s m args below meth c H locs lz CX hP hS hl
  refine lv_ior CX.1 CX.2.1 hd ?_
  have h := k E p l e s m args below meth c H locs lz CX hP hS hl
  simp only [zz_or, List.map_cons, z_cv, Int32.ofInt_toInt] at h
  exact h
theorem y_ixor {M : z_M} {d pc pc' : Nat} {ls : List (Nat × z_V)} {st : List z_V} {w : z_Wd} {Q : y_X} {x y : Int} (hd : decode M.2.1 pc = .ok (.ixor, 1)) (hp : pc + 1 = pc') (k : y_Wp M d pc' ls (zI (zz_xor x y) :: st) (w) Q) : y_Wp M d pc ls (zI y :: zI x :: st) w Q := by
  subst hp
  intro E p l e s m args below meth c H locs lz CX hP hS hl
  refine lv_ixor CX.1 CX.2.1 hd ?_
  have h := k E p l e s m args below meth c H locs lz CX hP hS hl
  simp only [zz_xor, List.map_cons, z_cv, Int32.ofInt_toInt] at h
  exact h
theorem y_ishl {M : z_M} {d pc pc' : Nat} {ls : List (Nat × z_V)} {st : List z_V} {w : z_Wd} {Q : y_X} {x y : Int} (hd : decode M.2.1 pc = .ok (.ishl, 1)) (hp : pc + 1 = pc') (k : y_Wp M d pc' ls (zI (zz_shl x y) :: st) (w) Q) : y_Wp M d pc ls (zI y :: zI x :: st) w Q := by
  subst hp
  intro E p l e s m args below meth c H locs lz CX hP hS hl
  refine lv_ishl CX.1 CX.2.1 hd ?_
  have h := k E p l e s m args below meth c H locs lz CX hP hS hl
  simp only [zz_shl, List.map_cons, z_cv, Int32.ofInt_toInt] at h
  exact h
theorem y_ishr {M : z_M} {d pc pc' : Nat} {ls : List (Nat × z_V)} {st : List z_V} {w : z_Wd} {Q : y_X} {x y : Int} (hd : decode M.2.1 pc = .ok (.ishr, 1)) (hp : pc + 1 = pc') (k : y_Wp M d pc' ls (zI (zz_shr x y) :: st) (w) Q) : y_Wp M d pc ls (zI y :: zI x :: st) w Q := by
  subst hp
  intro E p l e s m args below meth c H locs lz CX hP hS hl
  refine lv_ishr CX.1 CX.2.1 hd ?_
  have h := k E p l e s m args below meth c H locs lz CX hP hS hl
  simp only [zz_shr, List.map_cons, z_cv, Int32.ofInt_toInt] at h
  exact h
theorem y_iushr {M : z_M} {d pc pc' : Nat} {ls : List (Nat × z_V)} {st : List z_V} {w : z_Wd} {Q : y_X} {x y : Int} (hd : decode M.2.1 pc = .ok (.iushr, 1)) (hp : pc + 1 = pc') (k : y_Wp M d pc' ls (zI (zz_ushr x y) :: st) (w) Q) : y_Wp M d pc ls (zI y :: zI x :: st) w Q := by
  subst hp
  intro E p l e s m args below meth c H locs lz CX hP hS hl
  refine lv_iushr CX.1 CX.2.1 hd rfl ?_
  have h := k E p l e s m args below meth c H locs lz CX hP hS hl
  simp only [zz_ushr, List.map_cons, z_cv, Int32.ofInt_toInt] at h
  exact h
theorem y_land {M : z_M} {d pc pc' : Nat} {ls : List (Nat × z_V)} {st : List z_V} {w : z_Wd} {Q : y_X} {x y : Int} (hd : decode M.2.1 pc = .ok (.land, 1)) (hp : pc + 1 = pc') (k : y_Wp M d pc' ls (zJ (zz_land x y) :: st) (w) Q) : y_Wp M d pc ls (zJ y :: zJ x :: st) w Q := by
  subst hp
  intro E p l e s m args below meth c H locs lz CX hP hS hl
  refine lv_land CX.1 CX.2.1 hd ?_
  have h := k E p l e s m args below meth c H locs lz CX hP hS hl
  simp only [zz_land, List.map_cons, z_cv, Int64.ofInt_toInt] at h
  exact h
theorem y_lor {M : z_M} {d pc pc' : Nat} {ls : List (Nat × z_V)} {st : List z_V} {w : z_Wd} {Q : y_X} {x y : Int} (hd : decode M.2.1 pc = .ok (.lor, 1)) (hp : pc + 1 = pc') (k : y_Wp M d pc' ls (zJ (zz_lor x y) :: st) (w) Q) : y_Wp M d pc ls (zJ y :: zJ x :: st) w Q := by
  subst hp
  intro E p l e s m args below meth c H locs lz CX hP hS hl
  refine lv_lor CX.1 CX.2.1 hd ?_
  have h := k E p l e s m args below meth c H locs lz CX hP hS hl
  simp only [zz_lor, List.map_cons, z_cv, Int64.ofInt_toInt] at h
  exact h
theorem y_lushr {M : z_M} {d pc pc' : Nat} {ls : List (Nat × z_V)} {st : List z_V} {w : z_Wd} {Q : y_X} {x y : Int} (hd : decode M.2.1 pc = .ok (.lushr, 1)) (hp : pc + 1 = pc') (k : y_Wp M d pc' ls (zJ (zz_lushr x y) :: st) (w) Q) : y_Wp M d pc ls (zI y :: zJ x :: st) w Q := by
  subst hp
  intro E p l e s m args below meth c H locs lz CX hP hS hl
  refine lv_lushr CX.1 CX.2.1 hd rfl ?_
  have h := k E p l e s m args below meth c H locs lz CX hP hS hl
  simp only [zz_lushr, List.map_cons, z_cv, Int64.ofInt_toInt] at h
  exact h
theorem y_lshl {M : z_M} {d pc pc' : Nat} {ls : List (Nat × z_V)} {st : List z_V} {w : z_Wd} {Q : y_X} {x y : Int} (hd : decode M.2.1 pc = .ok (.lshl, 1)) (hp : pc + 1 = pc') (k : y_Wp M d pc' ls (zJ (zz_lshl x y) :: st) (w) Q) : y_Wp M d pc ls (zI y :: zJ x :: st) w Q := by
  subst hp
  intro E p l e s m args below meth c H locs lz CX hP hS hl
  refine lv_lshl CX.1 CX.2.1 hd rfl ?_
  have h := k E p l e s m args below meth c H locs lz CX hP hS hl
  simp only [zz_lshl, List.map_cons, z_cv, Int64.ofInt_toInt] at h
  exact h
theorem y_idiv {M : z_M} {d pc pc' : Nat} {ls : List (Nat × z_V)} {st : List z_V} {w : z_Wd} {Q : y_X} {x y : Int} (hx : (-2147483648 ≤ x ∧ x < 2147483648)) (hy : (-2147483648 ≤ y ∧ y < 2147483648)) (h0 : y ≠ 0) (hd : decode M.2.1 pc = .ok (.idiv, 1)) (hp : pc + 1 = pc') (k : y_Wp M d pc' ls (zI (x.tdiv y) :: st) (w) Q) : y_Wp M d pc ls (zI y :: zI x :: st) w Q := by
  subst hp
  intro E p l e s m args below meth c H locs lz CX hP hS hl
  refine lv_idiv CX.1 CX.2.1 hd (z_ne0 hy h0) ?_
  rw [z_div hx hy]
  exact k E p l e s m args below meth c H locs lz CX hP hS hl
theorem y_irem {M : z_M} {d pc pc' : Nat} {ls : List (Nat × z_V)} {st : List z_V} {w : z_Wd} {Q : y_X} {x y : Int} (hx : (-2147483648 ≤ x ∧ x < 2147483648)) (hy : (-2147483648 ≤ y ∧ y < 2147483648)) (h0 : y ≠ 0) (hd : decode M.2.1 pc = .ok (.irem, 1)) (hp : pc + 1 = pc') (k : y_Wp M d pc' ls (zI (x.tmod y) :: st) (w) Q) : y_Wp M d pc ls (zI y :: zI x :: st) w Q := by
  subst hp
  intro E p l e s m args below meth c H locs lz CX hP hS hl
  refine lv_irem CX.1 CX.2.1 hd (z_ne0 hy h0) ?_
  rw [z_div hx hy, ← Int32.ofInt_mul, ← Int32.ofInt_sub, z_mod']
  exact k E p l e s m args below meth c H locs lz CX hP hS hl
theorem y_ldiv {M : z_M} {d pc pc' : Nat} {ls : List (Nat × z_V)} {st : List z_V} {w : z_Wd} {Q : y_X} {x y : Int} (hx : (-9223372036854775808 ≤ x ∧ x < 9223372036854775808)) (hy : (-9223372036854775808 ≤ y ∧ y < 9223372036854775808)) (h0 : y ≠ 0) (hd : decode M.2.1 pc = .ok (.ldiv, 1)) (hp : pc + 1 = pc') (k : y_Wp M d pc' ls (zJ (x.tdiv y) :: st) (w) Q) : y_Wp M d pc ls (zJ y :: zJ x :: st) w Q := by
  subst hp
  intro E p l e s m args below meth c H locs lz CX hP hS hl
  refine lv_ldiv CX.1 CX.2.1 hd (z_lne0 hy h0) ?_
  rw [z_ldiv' hx hy]
  exact k E p l e s m args below meth c H locs lz CX hP hS hl
theorem y_lrem {M : z_M} {d pc pc' : Nat} {ls : List (Nat × z_V)} {st : List z_V} {w : z_Wd} {Q : y_X} {x y : Int} (hx : (-9223372036854775808 ≤ x ∧ x < 9223372036854775808)) (hy : (-9223372036854775808 ≤ y ∧ y < 9223372036854775808)) (h0 : y ≠ 0) (hd : decode M.2.1 pc = .ok (.lrem, 1)) (hp : pc + 1 = pc') (k : y_Wp M d pc' ls (zJ (x.tmod y) :: st) (w) Q) : y_Wp M d pc ls (zJ y :: zJ x :: st) w Q := by
  subst hp
  intro E p l e s m args below meth c H locs lz CX hP hS hl
  refine lv_lrem CX.1 CX.2.1 hd (z_lne0 hy h0) ?_
  rw [z_ldiv' hx hy, ← Int64.ofInt_mul, ← Int64.ofInt_sub, z_mod']
  exact k E p l e s m args below meth c H locs lz CX hP hS hl
theorem y_i2l {M : z_M} {d pc pc' : Nat} {ls : List (Nat × z_V)} {st : List z_V} {w : z_Wd} {Q : y_X} {x : Int} (hx : (-2147483648 ≤ x ∧ x < 2147483648)) (hd : decode M.2.1 pc = .ok (.i2l, 1)) (hp : pc + 1 = pc') (k : y_Wp M d pc' ls (zJ x :: st) (w) Q) : y_Wp M d pc ls (zI x :: st) w Q := by
  subst hp
  intro E p l e s m args below meth c H locs lz CX hP hS hl
  exact lv_i2l CX.1 CX.2.1 hd (by rw [← Int64.toInt_inj, Int32.toInt_toInt64, z_ti hx, z_tj (by omega)]) (k E p l e s m args below meth c H locs lz CX hP hS hl)
theorem y_l2i {M : z_M} {d pc pc' : Nat} {ls : List (Nat × z_V)} {st : List z_V} {w : z_Wd} {Q : y_X} {x : Int} (hd : decode M.2.1 pc = .ok (.l2i, 1)) (hp : pc + 1 = pc') (k : y_Wp M d pc' ls (zI x :: st) (w) Q) : y_Wp M d pc ls (zJ x :: st) w Q := by
  subst hp
  intro E p l e s m args below meth c H locs lz CX hP hS hl
  exact lv_l2i CX.1 CX.2.1 hd Int64.toInt32_ofInt (k E p l e s m args below meth c H locs lz CX hP hS hl)
theorem y_lcmp {M : z_M} {d pc pc' : Nat} {ls : List (Nat × z_V)} {st : List z_V} {w : z_Wd} {Q : y_X} {x y : Int} (hx : (-9223372036854775808 ≤ x ∧ x < 9223372036854775808)) (hy : (-9223372036854775808 ≤ y ∧ y < 9223372036854775808)) (hd : decode M.2.1 pc = .ok (.lcmp, 1)) (hp : pc + 1 = pc') (k : y_Wp M d pc' ls (zI (z_cmp x y) :: st) (w) Q) : y_Wp M d pc ls (zJ y :: zJ x :: st) w Q := by
  subst hp
  intro E p l e s m args below meth c H locs lz CX hP hS hl
  refine W.lcmp CX.1 CX.2.1 hd ?_
  rw [z_cmp' hx hy]
  exact k E p l e s m args below meth c H locs lz CX hP hS hl
theorem y_dup {M : z_M} {d pc pc' : Nat} {ls : List (Nat × z_V)} {st : List z_V} {w : z_Wd} {Q : y_X} {v : z_V} (hv : z_wd v = 1) (hd : decode M.2.1 pc = .ok (.dup, 1)) (hp : pc + 1 = pc') (k : y_Wp M d pc' ls (v :: v :: st) w Q) : y_Wp M d pc ls (v :: st) w Q := by
  subst hp
  intro E p l e s m args below meth c H locs lz CX hP hS hl
  exact lv_dup CX.1 CX.2.1 hd (by rw [z_cat]; exact hv) (k E p l e s m args below meth c H locs lz CX hP hS hl)
theorem y_pop {M : z_M} {d pc pc' : Nat} {ls : List (Nat × z_V)} {st : List z_V} {w : z_Wd} {Q : y_X} {v : z_V} (hv : z_wd v = 1) (hd : decode M.2.1 pc = .ok (.pop, 1)) (hp : pc + 1 = pc') (k : y_Wp M d pc' ls st w Q) : y_Wp M d pc ls (v :: st) w Q := by
  subst hp
  intro E p l e s m args below meth c H locs lz CX hP hS hl
  exact lv_pop CX.1 CX.2.1 hd (by rw [z_cat]; exact hv) (k E p l e s m args below meth c H locs lz CX hP hS hl)
theorem y_dup2 {M : z_M} {d pc pc' : Nat} {ls : List (Nat × z_V)} {st : List z_V} {w : z_Wd} {Q : y_X} {v u : z_V} (hv : z_wd v = 1) (hu : z_wd u = 1) (hd : decode M.2.1 pc = .ok (.dup2, 1)) (hp : pc + 1 = pc') (k : y_Wp M d pc' ls (v :: u :: v :: u :: st) w Q) : y_Wp M d pc ls (v :: u :: st) w Q := by
  subst hp
  intro E p l e s m args below meth c H locs lz CX hP hS hl
  exact lv_dup2_11 CX.1 CX.2.1 hd (by rw [z_cat]; exact hv) (by rw [z_cat]; exact hu) (k E p l e s m args below meth c H locs lz CX hP hS hl)
theorem y_if_eq {M : z_M} {d pc pc' : Nat} {ls : List (Nat × z_V)} {st : List z_V} {w : z_Wd} {Q : y_X} {x : Int} {off : Int} (tgt : Nat) (hd : decode M.2.1 pc = .ok (.ifCond .eq off, 3)) (ht : (pc : Int) + off = (tgt : Int)) (hp : pc + 3 = pc') (hx : (-2147483648 ≤ x ∧ x < 2147483648)) (kt : x = 0 → y_Wp M d tgt ls st w Q) (kf : ¬ x = 0 → y_Wp M d pc' ls st w Q) : y_Wp M d pc ls (zI x :: st) w Q := by
  subst hp
  intro E p l e s m args below meth c H locs lz CX hP hS hl
  refine lv_if_eq (tgt := tgt) CX.1 CX.2.1 hd ht (fun q => ?_) (fun q => ?_)
  · exact kt (by have h9 := z_eq hx z_r0; exact h9.mp q) E p l e s m args below meth c H locs lz CX hP hS hl
  · exact kf (by have h9 := z_eq hx z_r0; exact fun z => q (h9.mpr z)) E p l e s m args below meth c H locs lz CX hP hS hl
theorem y_icmp_eq {M : z_M} {d pc pc' : Nat} {ls : List (Nat × z_V)} {st : List z_V} {w : z_Wd} {Q : y_X} {x y : Int} {off : Int} (tgt : Nat) (hd : decode M.2.1 pc = .ok (.if_icmp .eq off, 3)) (ht : (pc : Int) + off = (tgt : Int)) (hp : pc + 3 = pc') (hx : (-2147483648 ≤ x ∧ x < 2147483648)) (hy : (-2147483648 ≤ y ∧ y < 2147483648)) (kt : x = y → y_Wp M d tgt ls st w Q) (kf : ¬ x = y → y_Wp M d pc' ls st w Q) : y_Wp M d pc ls (zI y :: zI x :: st) w Q := by
  subst hp
  intro E p l e s m args below meth c H locs lz CX hP hS hl
  refine lv_icmp_eq (tgt := tgt) CX.1 CX.2.1 hd ht (fun q => ?_) (fun q => ?_)
  · exact kt (by have h9 := z_eq hx hy; exact h9.mp q) E p l e s m args below meth c H locs lz CX hP hS hl
  · exact kf (by have h9 := z_eq hx hy; exact fun z => q (h9.mpr z)) E p l e s m args below meth c H locs lz CX hP hS hl
theorem y_if_ne {M : z_M} {d pc pc' : Nat} {ls : List (Nat × z_V)} {st : List z_V} {w : z_Wd} {Q : y_X} {x : Int} {off : Int} (tgt : Nat) (hd : decode M.2.1 pc = .ok (.ifCond .ne off, 3)) (ht : (pc : Int) + off = (tgt : Int)) (hp : pc + 3 = pc') (hx : (-2147483648 ≤ x ∧ x < 2147483648)) (kt : ¬ x = 0 → y_Wp M d tgt ls st w Q) (kf : x = 0 → y_Wp M d pc' ls st w Q) : y_Wp M d pc ls (zI x :: st) w Q := by
  subst hp
  intro E p l e s m args below meth c H locs lz CX hP hS hl
  refine lv_if_ne (tgt := tgt) CX.1 CX.2.1 hd ht (fun q => ?_) (fun q => ?_)
  · exact kt (by have h9 := z_eq hx z_r0; exact fun z => q (h9.mpr z)) E p l e s m args below meth c H locs lz CX hP hS hl
  · exact kf (by have h9 := z_eq hx z_r0; exact h9.mp q) E p l e s m args below meth c H locs lz CX hP hS hl
theorem y_icmp_ne {M : z_M} {d pc pc' : Nat} {ls : List (Nat × z_V)} {st : List z_V} {w : z_Wd} {Q : y_X} {x y : Int} {off : Int} (tgt : Nat) (hd : decode M.2.1 pc = .ok (.if_icmp .ne off, 3)) (ht : (pc : Int) + off = (tgt : Int)) (hp : pc + 3 = pc') (hx : (-2147483648 ≤ x ∧ x < 2147483648)) (hy : (-2147483648 ≤ y ∧ y < 2147483648)) (kt : ¬ x = y → y_Wp M d tgt ls st w Q) (kf : x = y → y_Wp M d pc' ls st w Q) : y_Wp M d pc ls (zI y :: zI x :: st) w Q := by
  subst hp
  intro E p l e s m args below meth c H locs lz CX hP hS hl
  refine lv_icmp_ne (tgt := tgt) CX.1 CX.2.1 hd ht (fun q => ?_) (fun q => ?_)
  · exact kt (by have h9 := z_eq hx hy; exact fun z => q (h9.mpr z)) E p l e s m args below meth c H locs lz CX hP hS hl
  · exact kf (by have h9 := z_eq hx hy; exact h9.mp q) E p l e s m args below meth c H locs lz CX hP hS hl
theorem y_if_lt {M : z_M} {d pc pc' : Nat} {ls : List (Nat × z_V)} {st : List z_V} {w : z_Wd} {Q : y_X} {x : Int} {off : Int} (tgt : Nat) (hd : decode M.2.1 pc = .ok (.ifCond .lt off, 3)) (ht : (pc : Int) + off = (tgt : Int)) (hp : pc + 3 = pc') (hx : (-2147483648 ≤ x ∧ x < 2147483648)) (kt : x < 0 → y_Wp M d tgt ls st w Q) (kf : ¬ x < 0 → y_Wp M d pc' ls st w Q) : y_Wp M d pc ls (zI x :: st) w Q := by
  subst hp
  intro E p l e s m args below meth c H locs lz CX hP hS hl
  refine lv_if_lt (tgt := tgt) CX.1 CX.2.1 hd ht (fun q => ?_) (fun q => ?_)
  · exact kt (by have h9 := z_lt hx z_r0; exact h9.mp q) E p l e s m args below meth c H locs lz CX hP hS hl
  · exact kf (by have h9 := z_lt hx z_r0; exact fun z => q (h9.mpr z)) E p l e s m args below meth c H locs lz CX hP hS hl
theorem y_icmp_lt {M : z_M} {d pc pc' : Nat} {ls : List (Nat × z_V)} {st : List z_V} {w : z_Wd} {Q : y_X} {x y : Int} {off : Int} (tgt : Nat) (hd : decode M.2.1 pc = .ok (.if_icmp .lt off, 3)) (ht : (pc : Int) + off = (tgt : Int)) (hp : pc + 3 = pc') (hx : (-2147483648 ≤ x ∧ x < 2147483648)) (hy : (-2147483648 ≤ y ∧ y < 2147483648)) (kt : x < y → y_Wp M d tgt ls st w Q) (kf : ¬ x < y → y_Wp M d pc' ls st w Q) : y_Wp M d pc ls (zI y :: zI x :: st) w Q := by
  subst hp
  intro E p l e s m args below meth c H locs lz CX hP hS hl
  refine lv_icmp_lt (tgt := tgt) CX.1 CX.2.1 hd ht (fun q => ?_) (fun q => ?_)
  · exact kt (by have h9 := z_lt hx hy; exact h9.mp q) E p l e s m args below meth c H locs lz CX hP hS hl
  · exact kf (by have h9 := z_lt hx hy; exact fun z => q (h9.mpr z)) E p l e s m args below meth c H locs lz CX hP hS hl
theorem y_if_ge {M : z_M} {d pc pc' : Nat} {ls : List (Nat × z_V)} {st : List z_V} {w : z_Wd} {Q : y_X} {x : Int} {off : Int} (tgt : Nat) (hd : decode M.2.1 pc = .ok (.ifCond .ge off, 3)) (ht : (pc : Int) + off = (tgt : Int)) (hp : pc + 3 = pc') (hx : (-2147483648 ≤ x ∧ x < 2147483648)) (kt : x ≥ 0 → y_Wp M d tgt ls st w Q) (kf : ¬ x ≥ 0 → y_Wp M d pc' ls st w Q) : y_Wp M d pc ls (zI x :: st) w Q := by
  subst hp
  intro E p l e s m args below meth c H locs lz CX hP hS hl
  refine lv_if_ge (tgt := tgt) CX.1 CX.2.1 hd ht (fun q => ?_) (fun q => ?_)
  · exact kt (by have h9 := z_le z_r0 hx; exact h9.mp q) E p l e s m args below meth c H locs lz CX hP hS hl
  · exact kf (by have h9 := z_le z_r0 hx; exact fun z => q (h9.mpr z)) E p l e s m args below meth c H locs lz CX hP hS hl
theorem y_icmp_ge {M : z_M} {d pc pc' : Nat} {ls : List (Nat × z_V)} {st : List z_V} {w : z_Wd} {Q : y_X} {x y : Int} {off : Int} (tgt : Nat) (hd : decode M.2.1 pc = .ok (.if_icmp .ge off, 3)) (ht : (pc : Int) + off = (tgt : Int)) (hp : pc + 3 = pc') (hx : (-2147483648 ≤ x ∧ x < 2147483648)) (hy : (-2147483648 ≤ y ∧ y < 2147483648)) (kt : x ≥ y → y_Wp M d tgt ls st w Q) (kf : ¬ x ≥ y → y_Wp M d pc' ls st w Q) : y_Wp M d pc ls (zI y :: zI x :: st) w Q := by
  subst hp
  intro E p l e s m args below meth c H locs lz CX hP hS hl
  refine lv_icmp_ge (tgt := tgt) CX.1 CX.2.1 hd ht (fun q => ?_) (fun q => ?_)
  · exact kt (by have h9 := z_le hy hx; exact h9.mp q) E p l e s m args below meth c H locs lz CX hP hS hl
  · exact kf (by have h9 := z_le hy hx; exact fun z => q (h9.mpr z)) E p l e s m args below meth c H locs lz CX hP hS hl
theorem y_if_gt {M : z_M} {d pc pc' : Nat} {ls : List (Nat × z_V)} {st : List z_V} {w : z_Wd} {Q : y_X} {x : Int} {off : Int} (tgt : Nat) (hd : decode M.2.1 pc = .ok (.ifCond .gt off, 3)) (ht : (pc : Int) + off = (tgt : Int)) (hp : pc + 3 = pc') (hx : (-2147483648 ≤ x ∧ x < 2147483648)) (kt : x > 0 → y_Wp M d tgt ls st w Q) (kf : ¬ x > 0 → y_Wp M d pc' ls st w Q) : y_Wp M d pc ls (zI x :: st) w Q := by
  subst hp
  intro E p l e s m args below meth c H locs lz CX hP hS hl
  refine lv_if_gt (tgt := tgt) CX.1 CX.2.1 hd ht (fun q => ?_) (fun q => ?_)
  · exact kt (by have h9 := z_lt z_r0 hx; exact h9.mp q) E p l e s m args below meth c H locs lz CX hP hS hl
  · exact kf (by have h9 := z_lt z_r0 hx; exact fun z => q (h9.mpr z)) E p l e s m args below meth c H locs lz CX hP hS hl
theorem y_icmp_gt {M : z_M} {d pc pc' : Nat} {ls : List (Nat × z_V)} {st : List z_V} {w : z_Wd} {Q : y_X} {x y : Int} {off : Int} (tgt : Nat) (hd : decode M.2.1 pc = .ok (.if_icmp .gt off, 3)) (ht : (pc : Int) + off = (tgt : Int)) (hp : pc + 3 = pc') (hx : (-2147483648 ≤ x ∧ x < 2147483648)) (hy : (-2147483648 ≤ y ∧ y < 2147483648)) (kt : x > y → y_Wp M d tgt ls st w Q) (kf : ¬ x > y → y_Wp M d pc' ls st w Q) : y_Wp M d pc ls (zI y :: zI x :: st) w Q := by
  subst hp
  intro E p l e s m args below meth c H locs lz CX hP hS hl
  refine lv_icmp_gt (tgt := tgt) CX.1 CX.2.1 hd ht (fun q => ?_) (fun q => ?_)
  · exact kt (by have h9 := z_lt hy hx; exact h9.mp q) E p l e s m args below meth c H locs lz CX hP hS hl
  · exact kf (by have h9 := z_lt hy hx; exact fun z => q (h9.mpr z)) E p l e s m args below meth c H locs lz CX hP hS hl
theorem y_if_le {M : z_M} {d pc pc' : Nat} {ls : List (Nat × z_V)} {st : List z_V} {w : z_Wd} {Q : y_X} {x : Int} {off : Int} (tgt : Nat) (hd : decode M.2.1 pc = .ok (.ifCond .le off, 3)) (ht : (pc : Int) + off = (tgt : Int)) (hp : pc + 3 = pc') (hx : (-2147483648 ≤ x ∧ x < 2147483648)) (kt : x ≤ 0 → y_Wp M d tgt ls st w Q) (kf : ¬ x ≤ 0 → y_Wp M d pc' ls st w Q) : y_Wp M d pc ls (zI x :: st) w Q := by
  subst hp
  intro E p l e s m args below meth c H locs lz CX hP hS hl
  refine lv_if_le (tgt := tgt) CX.1 CX.2.1 hd ht (fun q => ?_) (fun q => ?_)
  · exact kt (by have h9 := z_le hx z_r0; exact h9.mp q) E p l e s m args below meth c H locs lz CX hP hS hl
  · exact kf (by have h9 := z_le hx z_r0; exact fun z => q (h9.mpr z)) E p l e s m args below meth c H locs lz CX hP hS hl
theorem y_icmp_le {M : z_M} {d pc pc' : Nat} {ls : List (Nat × z_V)} {st : List z_V} {w : z_Wd} {Q : y_X} {x y : Int} {off : Int} (tgt : Nat) (hd : decode M.2.1 pc = .ok (.if_icmp .le off, 3)) (ht : (pc : Int) + off = (tgt : Int)) (hp : pc + 3 = pc') (hx : (-2147483648 ≤ x ∧ x < 2147483648)) (hy : (-2147483648 ≤ y ∧ y < 2147483648)) (kt : x ≤ y → y_Wp M d tgt ls st w Q) (kf : ¬ x ≤ y → y_Wp M d pc' ls st w Q) : y_Wp M d pc ls (zI y :: zI x :: st) w Q := by
  subst hp
  intro E p l e s m args below meth c H locs lz CX hP hS hl
  refine lv_icmp_le (tgt := tgt) CX.1 CX.2.1 hd ht (fun q => ?_) (fun q => ?_)
  · exact kt (by have h9 := z_le hx hy; exact h9.mp q) E p l e s m args below meth c H locs lz CX hP hS hl
  · exact kf (by have h9 := z_le hx hy; exact fun z => q (h9.mpr z)) E p l e s m args below meth c H locs lz CX hP hS hl
theorem y_goto {M : z_M} {d pc : Nat} {ls : List (Nat × z_V)} {st : List z_V} {w : z_Wd} {Q : y_X} {off : Int} (tgt : Nat) (hd : decode M.2.1 pc = .ok (.goto off, 3)) (ht : (pc : Int) + off = (tgt : Int)) (k : y_Wp M d tgt ls st w Q) : y_Wp M d pc ls st w Q := by
  intro E p l e s m args below meth c H locs lz CX hP hS hl
  exact lv_goto (tgt := tgt) CX.1 CX.2.1 hd ht (k E p l e s m args below meth c H locs lz CX hP hS hl)
theorem y_lookup {M : z_M} {d pc len : Nat} {ls : List (Nat × z_V)} {st : List z_V} {w : z_Wd} {Q : y_X} {dflt x : Int} {ps : Array (Int × Int)} (hd : decode M.2.1 pc = .ok (.lookupswitch dflt ps, len)) (hso : (ps.toList.zip (ps.toList.drop 1)).all (fun (a, next) => a.1 < next.1) = true) (hx : (-2147483648 ≤ x ∧ x < 2147483648)) (k : z_sw pc dflt x (fun tgt => y_Wp M d tgt ls st w Q) ps.toList) : y_Wp M d pc ls (zI x :: st) w Q := by
  intro E p l e s m args below meth c H locs lz CX hP hS hl
  obtain ⟨tgt, h1, h2⟩ := z_sw_off _ k
  exact lv_lookup (off := Op.lookupswitch.offset ps.toList dflt x) (tgt := tgt) CX.1 CX.2.1 hd hso (by rw [z_ti hx]) h1 (h2 E p l e s m args below meth c H locs lz CX hP hS hl)
theorem y_table {M : z_M} {d pc len : Nat} {ls : List (Nat × z_V)} {st : List z_V} {w : z_Wd} {Q : y_X} {dflt lo hi x : Int} {offs : Array Int} (hd : decode M.2.1 pc = .ok (.tableswitch dflt lo hi offs, len)) (hlen : lo + offs.toList.length = hi + 1) (hx : (-2147483648 ≤ x ∧ x < 2147483648)) (k : z_ts pc dflt x (fun tgt => y_Wp M d tgt ls st w Q) lo offs.toList) : y_Wp M d pc ls (zI x :: st) w Q := by
  intro E p l e s m args below meth c H locs lz CX hP hS hl
  obtain ⟨h1, h2⟩ := z_ts_in _ _ k
  by_cases c9 : lo ≤ x ∧ x < lo + offs.toList.length
  · obtain ⟨o, tgt, e1, e2, e3⟩ := h1 c9.1 c9.2
    exact lv_tableIn (off := o) (tgt := tgt) CX.1 CX.2.1 hd (by rw [z_ti hx]; omega) (by rw [z_ti hx]; omega) (by rw [z_ti hx, ← Array.getElem?_toList]; exact e1) e2 (e3 E p l e s m args below meth c H locs lz CX hP hS hl)
  · obtain ⟨tgt, e2, e3⟩ := h2 c9
    exact lv_tableOut (tgt := tgt) CX.1 CX.2.1 hd (by rw [z_ti hx]; omega) e2 (e3 E p l e s m args below meth c H locs lz CX hP hS hl)
section YL
variable {M : z_M} {d pc pc' : Nat} {ls : List (Nat × z_V)} {st : List z_V} {w w' : z_Wd} {Q : y_X}
theorem y_getI {idx k ci j : Nat} {fs : List Nat} (hF : z_FD M.1.cls idx ci j) (hk : k < z_N) (hsh : z_sh k = .inl (ci, fs)) (hf : fs[j]? = some 0) (hd : decode M.2.1 pc = .ok (.getfield idx, 3)) (hp : pc + 3 = pc') (kk : y_Wp M d pc' ls (zI (w k j) :: st) w Q) : y_Wp M d pc ls (zR k :: st) w Q := by
  subst hp
  intro E p l e s m args below meth c H locs lz CX hP hS hl
  obtain ⟨hx, hb, hr, hml, hown, hts, hG, hinj, hlk⟩ := id CX
  obtain ⟨C, T, N, h1, h2, h3, h4⟩ := hF
  exact va_get (D := E.1) (v := .int (Int32.ofInt (w k j))) hx hb hts h2 hown hG.1 hP k (z_oget hk hsh) h1 j h3 (hts _ h4) (fun _ h => h) (by rw [List.getElem?_mapIdx, hf]; rfl) hd (kk E p l e s m args below meth c H locs lz CX hP hS hl)
theorem y_getR {idx k ci j t : Nat} {fs : List Nat} (hF : z_FD M.1.cls idx ci j) (hk : k < z_N) (hsh : z_sh k = .inl (ci, fs)) (hf : fs[j]? = some (t + 2)) (hd : decode M.2.1 pc = .ok (.getfield idx, 3)) (hp : pc + 3 = pc') (kk : y_Wp M d pc' ls (zR t :: st) w Q) : y_Wp M d pc ls (zR k :: st) w Q := by
  subst hp
  intro E p l e s m args below meth c H locs lz CX hP hS hl
  obtain ⟨hx, hb, hr, hml, hown, hts, hG, hinj, hlk⟩ := id CX
  obtain ⟨C, T, N, h1, h2, h3, h4⟩ := hF
  exact va_get (D := E.1) (v := .ref (E.2.1 t)) hx hb hts h2 hown hG.1 hP k (z_oget hk hsh) h1 j h3 (hts _ h4) (fun _ h => h) (by rw [List.getElem?_mapIdx, hf]; rfl) hd (kk E p l e s m args below meth c H locs lz CX hP hS hl)
theorem y_lald {k n : Nat} {i : Int} {rs : List Nat} (hk : k < z_N) (hsh : z_sh k = .inr (2, n, rs)) (hi : 0 ≤ i ∧ i < n) (hn : n ≤ 100000) (hd : decode M.2.1 pc = .ok (.laload, 1)) (hp : pc + 1 = pc') (kk : y_Wp M d pc' ls (zJ (w k i.toNat) :: st) w Q) : y_Wp M d pc ls (zI i :: zR k :: st) w Q := by
  subst hp
  intro E p l e s m args below meth c H locs lz CX hP hS hl
  obtain ⟨hx, hb, hr, hml, hown, hts, hG, hinj, hlk⟩ := id CX
  have hg : (z_cw E w)[k]? = some (E.2.1 k, .inl (E.2.2 2, n, .inr (.inl (fun j => Int64.ofInt (w k j))))) := by
    rw [z_cw_get hk, hsh]
    rfl
  obtain ⟨h1, h2⟩ := z_inn hi hn
  refine va_lald (D := E.1) hx hb hG.1 hP k 2 hg rfl h1 hd ?_
  rw [h2]
  exact kk E p l e s m args below meth c H locs lz CX hP hS hl
theorem y_last {k n : Nat} {i x : Int} {rs : List Nat} (hk : k < z_N) (hsh : z_sh k = .inr (2, n, rs)) (hi : 0 ≤ i ∧ i < n) (hn : n ≤ 100000) (hd : decode M.2.1 pc = .ok (.lastore, 1)) (hp : pc + 1 = pc') (kk : y_Wp M d pc' ls st (z_up w k i.toNat x) Q) : y_Wp M d pc ls (zJ x :: zI i :: zR k :: st) w Q := by
  subst hp
  intro E p l e s m args below meth c H locs lz CX hP hS hl
  obtain ⟨hx, hb, hr, hml, hown, hts, hG, hinj, hlk⟩ := id CX
  have hg : (z_cw E w)[k]? = some (E.2.1 k, .inl (E.2.2 2, n, .inr (.inl (fun j => Int64.ofInt (w k j))))) := by
    rw [z_cw_get hk, hsh]
    rfl
  obtain ⟨h1, h2⟩ := z_inn hi hn
  refine va_last (D := E.1) hx hb hG.1 hP (z_D hinj.1 hinj.2.1) hS k 2 hg rfl h1 hd (fun H1 locs1 hP1 hD1 hS1 => ?_)
  rw [h2, z_cw_set (w' := z_up w k i.toNat x) hk (by
    rw [hsh]
    show (Sum.inl (E.2.2 2, n, .inr (.inl (fun j => Int64.ofInt (z_up w k i.toNat x k j)))) : va_E) = _
    congr 5
    funext q
    by_cases hq : q = i.toNat
    · subst hq
      simp [vp_updL, z_up]
    · simp [vp_updL, z_up, hq]) (fun a ha => z_up_other ha)] at hP1
  exact kk E p l e s m args below meth c H1 locs1 lz CX hP1 hS1 hl
theorem y_in {M : z_M} {X : y_X} {E : z_E} {p : Program} {l : Launch} {s : State} {m : MethodId} {args : Array Value} {meth : Method} {c : Code} {H : Heap} {locs : List Loc} (CX : y_C M X E p l s m args meth c) (hS : va_S (X.2.2.1 E s) s.heap H locs) : ∀ q, z_A E H.size q → X.2.2.1 E s q := by
  obtain ⟨hx, hb, hr, hml, hown, hts, hG, hinj, hlk⟩ := id CX
  intro q hq
  rcases hq with ⟨k, hk, rfl⟩ | h
  · exact hinj.2.1 k hk
  · exact hinj.2.2 q (Nat.le_trans hS.1 h)
theorem y_at {E : z_E} {A : Nat → Prop} {s U : State} {H : Heap} {locs : List Loc} (h : z_G E A s) (hA : ∀ q, z_A E H.size q → A q) (hS : va_S A s.heap H locs) (hU : U.heap = H) (hW : s.WarmedH U.vm) : z_G E (z_A E H.size) U := by
  refine ⟨va_K.moved hW.alike h.1, fun i q hq => ?_⟩
  obtain ⟨h1, h2⟩ := h.2 i q hq
  have hk : ∀ a : Nat, a < s.heap.size → ¬ A a → U.heap[a]? = s.heap[a]? := fun a x y => by rw [hU]; exact hS.2.1 a x y
  exact ⟨va_Z.moved hW.alike ((h1.kept hk).narrow hA), va_T.moved hW.alike ((h2.kept hk).narrow hA)⟩
theorem y_run {p : Program} {l : Launch} {e : Env} {R : Room} {s : State} {m : MethodId} {args a : Array Value} {below : List Frame} {meth : Method} {c : Code} {H : Heap} {locs : List Loc} {kc ks : Nat} {Qf : State → Prop} {pc : Nat} {lz : Array Slot} {st0 rest : List Value} {E : z_E} {A : Nat → Prop} {Q : Option z_V → z_Wd → Prop}
    (hr : va_Run p l e R s m args below meth c H locs kc ks 0 0 (F0 m pc lz st0) rest (z_Q E H.size Q a) (z_A E H.size)) (hA : ∀ q, z_A E H.size q → A q) (hS : va_S A s.heap H locs)
    (kk : ∀ (r : Option z_V) (w' : z_Wd) (H1 : Heap) (locs1 : List Loc), Q r w' → va_P E.1 classes (z_cw E w') H1 → va_S A s.heap H1 locs1 → W p l e R s m args below meth c H1 locs1 kc ks Qf (F0 m (pc + 3) lz ((r.map (z_cv E)).toList ++ rest))) :
    W p l e R s m args below meth c H locs kc ks Qf (F0 m pc lz st0) := by
  intro T hT X
  obtain ⟨v, st₀, t, T', L, h0, X', hL, e1, e2, ⟨⟨r, w', hv, hp, hb⟩, hz, hk⟩, st⟩ := hr T hT X
  have hv' : v = r.map (z_cv E) := by injection hv
  subst hv'
  rw [h0] at hz hk
  obtain ⟨t2, a1, b1⟩ := kk r w' T'.heap (locs ++ L) hp (by rw [e1]; exact hb)
    ⟨Nat.le_trans hS.1 (by rw [e1]; exact hz), fun q h1 h2 => by rw [e1, hk q (Nat.lt_of_lt_of_le h1 hS.1) (fun z => h2 (hA q z))]; exact hS.2.1 q h1 h2, fun q hq => by
      rcases List.mem_append.mp hq with h | h
      · exact hS.2.2 q h
      · exact hA _ (hL q h)⟩ T' rfl X'
  exact ⟨t2, st t2 a1, b1⟩
theorem y_callB {R : Room} {s : State} {args : Array Value} {own : String} {index n d : Nat} {C : z_M} (hts : ∀ w ∈ z_tb, w.before args s = true) (hl : Cond.methodLink own index C.1 ∈ z_tb) (hC : z_MB C n) (hR : d + 2 ≤ R.frames ∧ 8 + (C.2.2.1 + 11) + 64 * (d + 1) ≤ R.locals) :
    CallB R s args own index C.1 C.2.1 C.2.2.1 C.2.2.2 (Cond.code C.1 C.2.1 C.2.2.1 C.2.2.2 :: z_tb) (z_rm d) 0 0 n :=
  callB_of n hts (x_goodC hC.1) rfl rfl rfl (hts _ hC.2.1) (hts _ hl) hC.2.2.1 hR
theorem y_invV {C : z_M} {d' idx n k ci : Nat} {S as : List z_V} {fs : List Nat} {q : vw_C} (hd : decode M.2.1 pc = .ok (.invokevirtual idx, 3)) (hp : pc + 3 = pc') (hl : Cond.methodLink M.1.cls idx C.1 ∈ z_tb) (hC : z_MV C n) (hn : as.length = n) (hk : k < z_N) (hsh : z_sh k = .inl (ci, fs)) (hci : classes[ci]? = some q) (hq : q.1 = C.1.cls) (hS0 : S = as.reverse ++ zR k :: st) (hst : (st.map z_wd).sum ≤ 8) (hR : d' + 2 ≤ Q.1.frames ∧ 8 + (C.2.2.1 + 11) + 64 * (d' + 1) ≤ Q.1.locals) (hro : Q.2.1.1 ≤ Q.1.cells ∧ Q.2.1.2 ≤ Q.1.slots)
    (kk : z_Wc d' C (zR k :: as) w (fun r w' => y_Wp M d pc' ls (r.toList ++ st) w' Q)) : y_Wp M d pc ls S w Q := by
  subst hp
  subst hS0
  intro E p l e s m args below meth c H locs lz CX hP hS hl2
  obtain ⟨hx, hb, hr, hml, hown, hts, hG, hinj, hlk⟩ := id CX
  have hget : (z_cw E w)[k]? = some (E.2.1 k, .inr (ci, fs.mapIdx (fun j c => z_fv E (w k) j c))) := by
    rw [z_cw_get hk, hsh]
    rfl
  have hA := y_in CX hS
  refine y_run (E := E) (Q := fun r w' => y_Wp M d (pc + 3) ls (r.toList ++ st) w' Q) (rest := st.map (z_cv E))
    (va_runV (As := as.map (z_cv E)) (b := E.2.1 k) (C := C.1.cls) ⟨hx, hb, hml, hown, hts⟩ (kk l E H.size hinj.1) ⟨y_callB hts hl hC.1 hR, hts _ hC.2.1, hts _ hC.2.2⟩
      ⟨z_blind, by have h9 := va_recv hG.1 hP hci hget; rw [hq] at h9; exact h9, fun U hU hW => ⟨rfl, by rw [hU], by rw [hU]; exact hP, y_at hG hA hS hU hW⟩⟩
      rfl (by rw [List.length_map]; exact hn) hl2.1 (by simp [z_cv]) (lv_room (by rw [z_sum]; exact hst)) hd hro) hA hS ?_
  intro r w' H1 locs1 h1 h2 h3
  have h4 := h1 E p l e s m args below meth c H1 locs1 lz CX h2 h3 hl2
  have e4 : (r.toList ++ st).map (z_cv E) = (r.map (z_cv E)).toList ++ st.map (z_cv E) := by
    cases r <;> simp
  rw [e4] at h4
  exact h4
/-- two answers that are one: the branch is taken -/
theorem y_icmp_same {x : Int} {off : Int} (tgt : Nat) (hd : decode M.2.1 pc = .ok (.if_icmp .eq off, 3)) (ht : (pc : Int) + off = (tgt : Int)) (k : y_Wp M d tgt ls st w Q) : y_Wp M d pc ls (zI x :: zI x :: st) w Q := by
  intro E p l e s m args below meth c H locs lz CX hP hS hl
  exact lv_icmp_eq (tgt := tgt) CX.1 CX.2.1 hd ht (fun _ => k E p l e s m args below meth c H locs lz CX hP hS hl) (fun h => absurd rfl h)
end YL
