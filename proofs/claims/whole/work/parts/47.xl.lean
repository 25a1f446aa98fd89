/-! constructors: worlds that grow -/
abbrev x_D : Type := va_G × ClassId × ClassId × ClassId
def x_T (D : x_D) : List (ClassId × FieldType) := [(D.2.1, .int), (D.2.2.1, .object "DrownedNames$Law"), (D.2.2.2, .long)]
def x_nest : List (String × Nat × MethodName × String) := [("DrownedNames", 9, yX10_init, "DrownedNames"), ("DrownedNames", 18, yX6_init, "DrownedNames"), ("DrownedNames$MinistryReader", 11, yX6_init, "DrownedNames"), ("DrownedNames$LawReader", 11, yX4_init, "DrownedNames"), ("DrownedNames", 53, yX2_init, "DrownedNames"), ("DrownedNames$Grief", 33, yX4_init, "DrownedNames")]
def x_K (D : x_D) (U : State) : Prop := va_K D.1 classes (x_T D) U ∧ (∀ q ∈ x_nest, va_Nw (.methodLinkNest q.1 q.2.1 q.2.2.1 q.2.2.2) U) ∧ va_AO "DrownedNames$Law" U
theorem x_K.moved {D : x_D} {s U : State} (hW : s.WarmedH U.vm) (h : x_K D s) : x_K D U := ⟨va_K.moved hW.alike h.1, fun q hq => va_Nw.warmM hW (h.2.1 q hq), va_AO.moved hW.alike h.2.2⟩
theorem x_K.blind {D : x_D} {U : State} {g : JFrame} {mk : MethodId} {a : Array Value} (h : x_K D U) : x_K D (U.calling g mk a) := ⟨va_K.moved (u := U) (U := U.calling g mk a) (Vm.Alike.refl U.vm) h.1, fun q hq => va_Nw.same rfl (rfl : U.vm = (U.calling g mk a).vm) (h.2.1 q hq), va_AO.moved (u := U) (U := U.calling g mk a) (Vm.Alike.refl U.vm) h.2.2⟩
def x_rm (d mc ms : Nat) : Room := { frames := d + 1, cells := mc, slots := ms, locals := 64 * (d + 1) }
def x_Q (D : x_D) (ws0 : va_W) (sz : Nat) (Q : va_W → Prop) : Array Value → State → Outcome → State → Prop := va_Qv (fun u : va_W => Q u) (fun u t => va_P D.1 classes u t.heap ∧ va_D (va_A ws0 sz) u) (va_A ws0 sz)
def x_Pc (D : x_D) (as : List Value) (ws0 : va_W) (sz : Nat) : Array Value → State → Prop := va_Pc as (fun U => U.heap.size = sz ∧ va_P D.1 classes ws0 U.heap ∧ x_K D U ∧ va_D (fun _ => True) ws0)
def x_Wc (d mc ms : Nat) (M : z_M) (D : x_D) (as : List Value) (ws0 : va_W) (Q : va_W → Prop) : Prop := ∀ (l : Launch) (sz : Nat),
  Met l M.1 (Cond.code M.1 M.2.1 M.2.2.1 M.2.2.2 :: z_tb) (x_rm d mc ms) (x_Pc D as ws0 sz) (x_Q D ws0 sz Q) mc ms (va_A ws0 sz)
def x_C (M : z_M) (D : x_D) (p : Program) (s : State) (m : MethodId) (args : Array Value) (meth : Method) (c : Code) : Prop :=
  p.tables.exec = Jvm.exec ∧ c.code = M.2.1 ∧ meth.sig.returnType = M.2.2.2 ∧ c.maxLocals = M.2.2.1 ∧ s.vm.findClass M.1.cls = some m.cls ∧ (∀ w ∈ z_tb, w.before args s = true) ∧ x_K D s ∧ meth.name = "<init>" ∧ meth.locks = false
def x_Wp (d mc ms : Nat) (M : z_M) (D : x_D) (kc ks pc : Nat) (ls : List (Nat × Value)) (st : List Value) (ws0 ws : va_W) (Q : va_W → Prop) : Prop :=
  ∀ (p : Program) (l : Launch) (e : Env) (s : State) (m : MethodId) (args : Array Value) (below : List Frame) (meth : Method) (c : Code) (H : Heap) (locs : List Loc) (lz : Array Slot),
    x_C M D p s m args meth c → va_P D.1 classes ws H → va_D (va_A ws0 s.heap.size) ws → va_S (va_A ws0 s.heap.size) s.heap H locs → lv_has lz M.2.2.1 ls →
    W p l e (x_rm d mc ms) s m args below meth c H locs kc ks (MQ below (x_Q D ws0 s.heap.size Q) args s mc ms (va_A ws0 s.heap.size)) (F0 m pc lz st)
theorem x_enter {d mc ms : Nat} {M : z_M} {D : x_D} {as : List Value} {ws0 : va_W} {Q : va_W → Prop} (hy : plainName M.1.cls = true) (hi : M.1.name = "<init>") (hn : (lg_sl as).length ≤ M.2.2.1) (k : x_Wp d mc ms M D 0 0 0 (lv_args 0 as) [] ws0 ws0 Q) : x_Wc d mc ms M D as ws0 Q := by
  intro l sz
  refine Met.ofW (cc := M.2.1) (maxL := M.2.2.1) (ret := M.2.2.2) hy rfl ?_
  intro p e s m args below meth c s₁ B hml hv
  obtain ⟨rfl, hsz, hP, hK, hD⟩ := hv
  subst hsz
  have hts := atoms_spec (ws := Cond.code M.1 M.2.1 M.2.2.1 M.2.2.2 :: z_tb) B.pre
  have hown : s.vm.findClass M.1.cls = some m.cls := findClass_of_methodNamed B.named
  have hl := lv_entry as (n := M.2.2.1) hn
  rw [lg_entry_eq]
  exact k p l e s m _ below meth c s.heap [] _ ⟨B.exec, B.bytes, B.returns, hml, hown, fun w hw => hts w (List.mem_cons_of_mem _ hw), hK, (name_of_methodNamed B.named B.method).1.trans hi, B.notSynchronized⟩ hP hD.self va_S.rf hl
section XL
variable {d mc ms : Nat} {M : z_M} {D : x_D} {kc ks pc pc' : Nat} {ls : List (Nat × Value)} {st : List Value} {ws0 ws : va_W} {Q : va_W → Prop}
theorem x_A {ws0 : va_W} {n : Nat} : ∀ q, n ≤ q → va_A ws0 n q := fun _ h => Or.inr h
theorem x_aload_n {f : Fin 4} {i x : Nat} (j : Nat) (hi : (f : Nat) = i) (hj : ls[j]? = some (i, .ref x)) (hd : decode M.2.1 pc = .ok (.aload_n f, 1)) (hp : pc + 1 = pc') (k : x_Wp d mc ms M D kc ks pc' ls (.ref x :: st) ws0 ws Q) : x_Wp d mc ms M D kc ks pc ls st ws0 ws Q := by
  subst hp
  intro p l e s m args below meth c H locs lz CX hP hD hS hl
  exact lv_aload_n CX.1 CX.2.1 hd hi (lv_at hl j hj) (k p l e s m args below meth c H locs lz CX hP hD hS hl)
theorem x_iload_n {f : Fin 4} {i : Nat} {x : Int32} (j : Nat) (hi : (f : Nat) = i) (hj : ls[j]? = some (i, .int x)) (hd : decode M.2.1 pc = .ok (.iload_n f, 1)) (hp : pc + 1 = pc') (k : x_Wp d mc ms M D kc ks pc' ls (.int x :: st) ws0 ws Q) : x_Wp d mc ms M D kc ks pc ls st ws0 ws Q := by
  subst hp
  intro p l e s m args below meth c H locs lz CX hP hD hS hl
  exact lv_iload_n CX.1 CX.2.1 hd hi (lv_at hl j hj) (k p l e s m args below meth c H locs lz CX hP hD hS hl)
theorem x_iconst {n : Int} {v : Int32} (hv : Int32.ofInt n = v) (hd : decode M.2.1 pc = .ok (.iconst n, 1)) (hp : pc + 1 = pc') (k : x_Wp d mc ms M D kc ks pc' ls (.int v :: st) ws0 ws Q) : x_Wp d mc ms M D kc ks pc ls st ws0 ws Q := by
  subst hp
  intro p l e s m args below meth c H locs lz CX hP hD hS hl
  exact lv_iconst CX.1 CX.2.1 hd hv (k p l e s m args below meth c H locs lz CX hP hD hS hl)
theorem x_bipush {n : Int} {v : Int32} (hv : (Int8.ofInt n).toInt32 = v) (hd : decode M.2.1 pc = .ok (.bipush n, 2)) (hp : pc + 2 = pc') (k : x_Wp d mc ms M D kc ks pc' ls (.int v :: st) ws0 ws Q) : x_Wp d mc ms M D kc ks pc ls st ws0 ws Q := by
  subst hp
  intro p l e s m args below meth c H locs lz CX hP hD hS hl
  exact lv_bipush CX.1 CX.2.1 hd hv (k p l e s m args below meth c H locs lz CX hP hD hS hl)
theorem x_sipush {n : Int} {v : Int32} (hv : (Int16.ofInt n).toInt32 = v) (hd : decode M.2.1 pc = .ok (.sipush n, 3)) (hp : pc + 3 = pc') (k : x_Wp d mc ms M D kc ks pc' ls (.int v :: st) ws0 ws Q) : x_Wp d mc ms M D kc ks pc ls st ws0 ws Q := by
  subst hp
  intro p l e s m args below meth c H locs lz CX hP hD hS hl
  exact lv_sipush CX.1 CX.2.1 hd hv (k p l e s m args below meth c H locs lz CX hP hD hS hl)
theorem x_dup {v : Value} (hv : v.category = 1) (hd : decode M.2.1 pc = .ok (.dup, 1)) (hp : pc + 1 = pc') (k : x_Wp d mc ms M D kc ks pc' ls (v :: v :: st) ws0 ws Q) : x_Wp d mc ms M D kc ks pc ls (v :: st) ws0 ws Q := by
  subst hp
  intro p l e s m args below meth c H locs lz CX hP hD hS hl
  exact lv_dup CX.1 CX.2.1 hd hv (k p l e s m args below meth c H locs lz CX hP hD hS hl)
theorem x_istore_n {f : Fin 4} {i : Nat} {x : Int32} {ls' : List (Nat × Value)} (hi : (f : Nat) = i) (hn : i < M.2.2.1) (hl' : (i, Value.int x) :: ls.filter (fun q => !(q.1 == i) && !(q.1 + 1 == i && q.2.category == 2)) = ls') (hd : decode M.2.1 pc = .ok (.istore_n f, 1)) (hp : pc + 1 = pc') (k : x_Wp d mc ms M D kc ks pc' ls' st ws0 ws Q) : x_Wp d mc ms M D kc ks pc ls (.int x :: st) ws0 ws Q := by
  subst hp
  intro p l e s m args below meth c H locs lz CX hP hD hS hl
  exact lv_istore_n CX.1 CX.2.1 hd hi hl hn hl' (fun ls2 h2 => k p l e s m args below meth c H locs ls2 CX hP hD hS h2)
theorem x_iinc {i : Nat} {n : Int} {x v : Int32} {ls' : List (Nat × Value)} (j : Nat) (hj : ls[j]? = some (i, .int x)) (hv : x + Int32.ofInt n = v) (hn : i < M.2.2.1) (hl' : (i, Value.int v) :: ls.filter (fun q => !(q.1 == i) && !(q.1 + 1 == i && q.2.category == 2)) = ls') (hd : decode M.2.1 pc = .ok (.iinc i n, 3)) (hp : pc + 3 = pc') (k : x_Wp d mc ms M D kc ks pc' ls' st ws0 ws Q) : x_Wp d mc ms M D kc ks pc ls st ws0 ws Q := by
  subst hp
  intro p l e s m args below meth c H locs lz CX hP hD hS hl
  exact lv_iinc (k := j) CX.1 CX.2.1 hd hl hj hv hn hl' (fun ls2 h2 => k p l e s m args below meth c H locs ls2 CX hP hD hS h2)
theorem x_goto {off : Int} (tgt : Nat) (hd : decode M.2.1 pc = .ok (.goto off, 3)) (ht : (pc : Int) + off = (tgt : Int)) (k : x_Wp d mc ms M D kc ks tgt ls st ws0 ws Q) : x_Wp d mc ms M D kc ks pc ls st ws0 ws Q := by
  intro p l e s m args below meth c H locs lz CX hP hD hS hl
  exact lv_goto (tgt := tgt) CX.1 CX.2.1 hd ht (k p l e s m args below meth c H locs lz CX hP hD hS hl)
theorem x_ge_y {off : Int} {x y : Int32} (tgt : Nat) (hc : y ≤ x) (hd : decode M.2.1 pc = .ok (.if_icmp .ge off, 3)) (ht : (pc : Int) + off = (tgt : Int)) (k : x_Wp d mc ms M D kc ks tgt ls st ws0 ws Q) : x_Wp d mc ms M D kc ks pc ls (.int y :: .int x :: st) ws0 ws Q := by
  intro p l e s m args below meth c H locs lz CX hP hD hS hl
  exact lv_icmp_ge (tgt := tgt) CX.1 CX.2.1 hd ht (fun _ => k p l e s m args below meth c H locs lz CX hP hD hS hl) (fun h => absurd hc h)
theorem x_ge_n {off : Int} {x y : Int32} (tgt : Nat) (hc : ¬ y ≤ x) (hd : decode M.2.1 pc = .ok (.if_icmp .ge off, 3)) (ht : (pc : Int) + off = (tgt : Int)) (hp : pc + 3 = pc') (k : x_Wp d mc ms M D kc ks pc' ls st ws0 ws Q) : x_Wp d mc ms M D kc ks pc ls (.int y :: .int x :: st) ws0 ws Q := by
  subst hp
  intro p l e s m args below meth c H locs lz CX hP hD hS hl
  exact lv_icmp_ge (tgt := tgt) CX.1 CX.2.1 hd ht (fun h => absurd h hc) (fun _ => k p l e s m args below meth c H locs lz CX hP hD hS hl)
theorem x_obj {idx x : Nat} (hl : Cond.methodLink M.1.cls idx objectInit ∈ z_tb) (hi : Cond.instanceMethod objectInit ∈ z_tb) (hc : Cond.code objectInit ⟨#[0xb1]⟩ 1 none ∈ z_tb) (hs : (st.map fun v => v.category).sum ≤ 8) (hd : decode M.2.1 pc = .ok (.invokespecial idx, 3)) (hp : pc + 3 = pc') (k : x_Wp d mc ms M D kc ks pc' ls st ws0 ws Q) : x_Wp d mc ms M D kc ks pc ls (.ref x :: st) ws0 ws Q := by
  subst hp
  intro p l e s m args below meth c H locs lz CX hP hD hS hl2
  obtain ⟨hx, hb, hr, hml, hown, hts, hK, hin, hlk⟩ := id CX
  refine W.objInit hx hb hown (hts _ hl) (hts _ hi) (hts _ hc) rfl (by rw [hml]; exact hl2.1) rfl hd (Nat.le_add_left 1 d) ?_ ?_
  · show 2 * 0 + (st.map fun v => v.category).sum + 12 ≤ 64 * (d + 1)
    omega
  · exact W.eq (g2 := F0 m (pc + 3) lz st) rfl (k p l e s m args below meth c H locs lz CX hP hD hS hl2)
theorem x_newI {n : Int32} {N : Nat} (ha : Cond.arrayClass .int ∈ z_tb) (hn : ¬ n < 0) (hN : n.toNatClampNeg = N) (hb9 : N ≤ 100000) (hc : kc + 1 ≤ mc) (hs : ks + N ≤ ms) (hd : decode M.2.1 pc = .ok (.newarray .int, 2)) (hp : pc + 2 = pc') (k : ∀ q : Nat, x_Wp d mc ms M D (kc + 1) (ks + N) pc' ls (.ref q :: st) ws0 (ws ++ [(q, .inl (D.2.1, N, .inl (fun _ => 0)))]) Q) : x_Wp d mc ms M D kc ks pc ls (.int n :: st) ws0 ws Q := by
  subst hp
  intro p l e s m args below meth c H locs lz CX hP hD hS hl2
  obtain ⟨hx, hb, hr, hml, hown, hts, hK, hin, hlk⟩ := id CX
  refine va_newa (atype := .int) (a0 := (N, .inl (fun _ => 0))) hx hb (hts _ ha) (ty := .int) rfl hK.1 hP hD hS x_A (fun _ => rfl) hn hN (show N * 4 ≤ 536870912 by omega) hc hs hd (fun q cA H1 hK1 hP1 hD1 hS1 => ?_)
  have h1 := (hK1.2 3 (cA, .int) rfl).2
  have h2 := (hK.1.2 0 (D.2.1, .int) rfl).2
  have e1 : cA = D.2.1 := Option.some.inj (Eq.trans (Eq.symm (show s.vm.findClass ("[" ++ (FieldType.int).toString) = some cA from h1)) h2)
  subst e1
  exact k q p l e s m args below meth c H1 locs lz CX hP1 hD1 hS1 hl2
theorem x_newL {idx : Nat} {n : Int32} {N : Nat} (hcl : Cond.classLink M.1.cls idx "DrownedNames$Law" ∈ z_tb) (hn : ¬ n < 0) (hN : n.toNatClampNeg = N) (hb9 : N ≤ 100000) (hc : kc + 1 ≤ mc) (hs : ks + N ≤ ms) (hd : decode M.2.1 pc = .ok (.anewarray idx, 3)) (hp : pc + 3 = pc') (k : ∀ q : Nat, x_Wp d mc ms M D (kc + 1) (ks + N) pc' ls (.ref q :: st) ws0 (ws ++ [(q, .inl (D.2.2.1, N, .inr (.inr (.inr (.inr (fun _ => none))))))]) Q) : x_Wp d mc ms M D kc ks pc ls (.int n :: st) ws0 ws Q := by
  subst hp
  intro p l e s m args below meth c H locs lz CX hP hD hS hl2
  obtain ⟨hx, hb, hr, hml, hown, hts, hK, hin, hlk⟩ := id CX
  refine va_newq hx hb hown (hts _ hcl) hK.2.2 hK.1 hP hD hS x_A hn hN (by omega) hc hs hd (fun q cA H1 hK1 hP1 hD1 hS1 => ?_)
  obtain ⟨-, -, -, -, -, h1⟩ := (hK1.2 3 (cA, .object "DrownedNames$Law") rfl).2
  obtain ⟨-, -, -, -, -, h2⟩ := (hK.1.2 1 (D.2.2.1, .object "DrownedNames$Law") rfl).2
  have e1 : cA = D.2.2.1 := Option.some.inj (h1.symm.trans h2)
  subst e1
  exact k q p l e s m args below meth c H1 locs lz CX hP1 hD1 hS1 hl2
/-- a class that can be made: its number, its fields' first values -/
def x_NC (ci N : Nat) (fs : List Value) : Prop := ∃ (C : String) (T : u_T) (ty : Nat → FieldType), classes[ci]? = some (C, T, N) ∧ (∀ w ∈ u_ws C T N, w ∈ z_tb) ∧ (∀ k, k < N → parseFieldDescriptor (T k).2.2.1 = some (ty k)) ∧ Cond.instantiable C N ∈ z_tb ∧ Cond.initialized C ∈ z_tb ∧ ∀ j, j < N → defaultValue (ty j) = vp_V fs j
theorem x_new {idx ci N : Nat} {fs : List Value} {C : String} (hC : ∃ (T : u_T), classes[ci]? = some (C, T, N)) (h : x_NC ci N fs) (hcl : Cond.classLink M.1.cls idx C ∈ z_tb) (hc : kc + 1 ≤ mc) (hs : ks + N ≤ ms) (hd : decode M.2.1 pc = .ok (.new idx, 3)) (hp : pc + 3 = pc') (k : ∀ q : Nat, x_Wp d mc ms M D (kc + 1) (ks + N) pc' ls (.ref q :: st) ws0 (ws ++ [(q, .inr (ci, fs))]) Q) : x_Wp d mc ms M D kc ks pc ls st ws0 ws Q := by
  subst hp
  intro p l e s m args below meth c H locs lz CX hP hD hS hl2
  obtain ⟨hx, hb, hr, hml, hown, hts, hK, hin, hlk⟩ := id CX
  obtain ⟨T0, h0⟩ := hC
  obtain ⟨C1, T, ty, h1, h2, h3, h4, h5, h6⟩ := h
  have e0 : (C1, T, N) = (C, T0, N) := Option.some.inj (h1.symm.trans h0)
  injection e0 with e1 e2
  subst e1
  exact va_new hx hb hts h2 ty h3 hown (hts _ hcl) (hts _ h4) (hts _ h5) hK.1 hP hD hS x_A h1 h6 hc hs hd (fun q H1 hP1 hD1 hS1 => k q p l e s m args below meth c H1 locs lz CX hP1 hD1 hS1 hl2)
/-- a final field, written in its constructor -/
def x_FF (own : String) (idx ci j : Nat) (ty : FieldType) : Prop := ∃ (C : String) (T : u_T) (N : Nat) (ty0 : Nat → FieldType), classes[ci]? = some (C, T, N) ∧ (∀ w ∈ u_ws C T N, w ∈ z_tb) ∧ j < N ∧ Cond.fieldLink own idx (T j).1 (T j).2.1 (T j).2.2.1 ∈ z_tb ∧ (∀ k, k < N → parseFieldDescriptor (T k).2.2.1 = some (ty0 k)) ∧ (∀ a, a < N → ∀ b, b < N → a ≠ b → (T a).2.1 ≠ (T b).2.1) ∧ (T j).2.2.2 = true ∧ (T j).1 = own ∧ ty0 j = ty
theorem x_putF {idx ci j a : Nat} {fs : List Value} {v : Value} {ty : FieldType} (hF : x_FF M.1.cls idx ci j ty) (q0 : Nat) (he : ws[q0]? = some (a, .inr (ci, fs))) (hn : narrow ty v = v) (hfit : fits ty v = true) (hj : j < fs.length) (hd : decode M.2.1 pc = .ok (.putfield idx, 3)) (hp : pc + 3 = pc') (k : x_Wp d mc ms M D kc ks pc' ls st ws0 (ws.set q0 (a, .inr (ci, fs.set j v))) Q) : x_Wp d mc ms M D kc ks pc ls (v :: .ref a :: st) ws0 ws Q := by
  subst hp
  intro p l e s m args below meth c H locs lz CX hP hD hS hl2
  obtain ⟨hx, hb, hr, hml, hown, hts, hK, hin, hlk⟩ := id CX
  obtain ⟨C, T, N, ty0, h1, h2, h3, h4, h5, h6, h7, h8, rfl⟩ := hF
  exact va_putF hx hb hts h2 ty0 h5 h6 hown hK.1 hP hD hS q0 he h1 j h3 (hts _ h4) (fun _ h9 => h9) h7 hin h8 (h5 j h3) hn hfit hj hd (fun H1 locs1 hP1 hD1 hS1 => k p l e s m args below meth c H1 locs1 lz CX hP1 hD1 hS1 hl2)
theorem x_put {idx ci j a : Nat} {fs : List Value} {v : Value} {ty : FieldType} (hF : z_FP M.1.cls idx ci j ty) (q0 : Nat) (he : ws[q0]? = some (a, .inr (ci, fs))) (hn : narrow ty v = v) (hfit : fits ty v = true) (hj : j < fs.length) (hd : decode M.2.1 pc = .ok (.putfield idx, 3)) (hp : pc + 3 = pc') (k : x_Wp d mc ms M D kc ks pc' ls st ws0 (ws.set q0 (a, .inr (ci, fs.set j v))) Q) : x_Wp d mc ms M D kc ks pc ls (v :: .ref a :: st) ws0 ws Q := by
  subst hp
  intro p l e s m args below meth c H locs lz CX hP hD hS hl2
  obtain ⟨hx, hb, hr, hml, hown, hts, hK, hin, hlk⟩ := id CX
  obtain ⟨C, T, N, ty0, h1, h2, h3, h4, h5, h6, h7, rfl⟩ := hF
  exact va_put hx hb hts h2 ty0 h5 h6 hown hK.1 hP hD hS q0 he h1 j h3 (hts _ h4) (fun _ h9 => h9) h7 (h5 j h3) hn hfit hj hd (fun H1 locs1 hP1 hD1 hS1 => k p l e s m args below meth c H1 locs1 lz CX hP1 hD1 hS1 hl2)
theorem x_get {idx ci j a : Nat} {fs : List Value} {v : Value} (hF : z_FD M.1.cls idx ci j) (q0 : Nat) (he : ws[q0]? = some (a, .inr (ci, fs))) (hv : fs[j]? = some v) (hd : decode M.2.1 pc = .ok (.getfield idx, 3)) (hp : pc + 3 = pc') (k : x_Wp d mc ms M D kc ks pc' ls (v :: st) ws0 ws Q) : x_Wp d mc ms M D kc ks pc ls (.ref a :: st) ws0 ws Q := by
  subst hp
  intro p l e s m args below meth c H locs lz CX hP hD hS hl2
  obtain ⟨hx, hb, hr, hml, hown, hts, hK, hin, hlk⟩ := id CX
  obtain ⟨C, T, N, h1, h2, h3, h4⟩ := hF
  exact va_get hx hb hts h2 hown hK.1 hP q0 he h1 j h3 (hts _ h4) (fun _ h9 => h9) hv hd (k p l e s m args below meth c H locs lz CX hP hD hS hl2)
theorem x_aast {a n v : Nat} {vs : List Value} {f : Nat → Option Nat} {i : Int32} (q0 qk : Nat) (ha : ws[q0]? = some (a, .inl (D.2.2.1, n, .inr (.inr (.inr (.inr f)))))) (hv : ws[qk]? = some (v, .inr (4, vs))) (hi : vp_in i n) (hd : decode M.2.1 pc = .ok (.aastore, 1)) (hp : pc + 1 = pc') (k : x_Wp d mc ms M D kc ks pc' ls st ws0 (ws.set q0 (a, .inl (D.2.2.1, n, .inr (.inr (.inr (.inr (va_up f i.toNatClampNeg (some v)))))))) Q) : x_Wp d mc ms M D kc ks pc ls (.ref v :: .int i :: .ref a :: st) ws0 ws Q := by
  subst hp
  intro p l e s m args below meth c H locs lz CX hP hD hS hl2
  obtain ⟨hx, hb, hr, hml, hown, hts, hK, hin, hlk⟩ := id CX
  exact va_astq (r := (RX4, TX4, 4)) hx hb hK.1 hP hD hS q0 1 qk 4 ha rfl hv rfl hi hd (fun H1 locs1 hP1 hD1 hS1 => k p l e s m args below meth c H1 locs1 lz CX hP1 hD1 hS1 hl2)
theorem x_ret (hr : M.2.2.2 = none) (hd : decode M.2.1 pc = .ok (.return_, 1)) (hc : kc ≤ mc) (hs : ks ≤ ms) (k : Q ws) : x_Wp d mc ms M D kc ks pc ls [] ws0 ws Q := by
  intro p l e s m args below meth c H locs lz CX hP hD hS hl2
  obtain ⟨hx, hb, hr2, hml, hown, hts, hK, hin, hlk⟩ := id CX
  refine W.widen (k := mc) (n := ms) hc hs ?_
  exact W.vret hx hb (hr2.trans hr) (fun t ht hW => ⟨⟨ws, rfl, k, by rw [ht]; exact hP, hD⟩, hS.F ht⟩) hS.2.2 hd
/-- a constructor that can be called -/
def x_MI (C : z_M) (n : Nat) : Prop := Cond.code C.1 C.2.1 C.2.2.1 C.2.2.2 ∈ z_tb ∧ Cond.initialized C.1.cls ∈ z_tb ∧ (C.1.cls ≠ "java/lang/invoke/MethodHandle" ∧ C.1.cls ≠ "java/lang/invoke/VarHandle" ∧ (parseMethodDescriptor C.1.desc).map (fun d => d.parameters.length) = some n) ∧ C.2.2.1 ≤ 40 ∧ C.2.2.2 = none ∧ C.1.name = "<init>" ∧ Cond.instanceMethod C.1 ∈ z_tb
theorem x_goodC {C : z_M} (h : Cond.code C.1 C.2.1 C.2.2.1 C.2.2.2 ∈ z_tb) : GoodIn z_tb (Cond.code C.1 C.2.1 C.2.2.1 C.2.2.2 :: z_tb) := fun w hw => by
  rcases List.mem_cons.mp hw with rfl | h2
  · exact z_good _ h
  · exact z_good _ h2
theorem x_call0 {C : z_M} {d' mc' ms' idx : Nat} {As S : List Value} {b i : Nat} {en : va_E} {wr : va_W} {Qc : va_W → Prop} (isR : List Nat)
    (hrun : ∀ (p : Program) (l : Launch) (e : Env) (s : State) (m : MethodId) (args : Array Value) (below : List Frame) (meth : Method) (c : Code) (H : Heap) (locs : List Loc) (lz : Array Slot), x_C M D p s m args meth c → lv_has lz M.2.2.1 ls → PreS s H (x_Pc D (.ref b :: As) [(b, en)] H.size) (.ref b :: As) → Met l C.1 (Cond.code C.1 C.2.1 C.2.2.1 C.2.2.2 :: z_tb) (x_rm d' mc' ms') (x_Pc D (.ref b :: As) [(b, en)] H.size) (x_Q D [(b, en)] H.size Qc) mc' ms' (va_A [(b, en)] H.size) →
      va_Run p l e (x_rm d mc ms) s m args below meth c H locs kc ks mc' ms' (F0 m pc lz S) st (x_Q D [(b, en)] H.size Qc (Value.ref b :: As).toArray) (va_A [(b, en)] H.size))
    (hp : pc + 3 = pc') (hi : ws[i]? = some (b, en)) (hR : isR.map (fun i => ws[i]?) = wr.map some) (hnd : va_nd isR = true) (hdis : ∀ j ∈ isR, j ∉ [i])
    (hc : x_Wc d' mc' ms' C D (.ref b :: As) [(b, en)] Qc)
    (kk : ∀ u, Qc u → x_Wp d mc ms M D (kc + mc') (ks + ms') pc' ls st ws0 (wr ++ u) Q) : x_Wp d mc ms M D kc ks pc ls S ws0 ws Q := by
  subst hp
  intro p l e s m args below meth c H locs lz CX hP hDD hS hl2
  obtain ⟨hx, hb, hr, hml, hown, hts, hK, hin, hlk⟩ := id CX
  have e1 : [i].filterMap (fun i => ws[i]?) = [(b, en)] := by simp [hi]
  have e2 : [i].map (fun i => ws[i]?) = [(b, en)].map some := by simp [hi]
  have hPc := hP.sub (ws' := [(b, en)]) [i] e1
  have hDc := hDD.sub (ws' := [(b, en)]) [i] rfl e2
  have hFc := va_free (wc := [(b, en)]) hDD hS x_A [i] e2
  refine va_callv (hrun p l e s m args below meth c H locs lz CX hl2 ⟨fun a U g mk q => by obtain ⟨q0, q1, qP, qK, qD⟩ := q; exact ⟨q0, q1, qP, qK.blind, qD⟩, fun U hU hW => ⟨rfl, by rw [hU], by rw [hU]; exact hPc, hK.moved hW, hDc.weaken (fun _ _ _ _ => trivial)⟩⟩ (hc l H.size)) hS (fun q _ h => hFc q h) hFc (fun u t H1 locs1 ht hvm hq hB hz1 hk1 hS1 => ?_)
  obtain ⟨hP1, hD1⟩ := hB
  rw [ht] at hP1
  obtain ⟨hP2, hD2⟩ := va_join (wr := wr) (w1 := u) hP hDD [i] isR e2 hR hnd hdis hk1 hFc hP1 hD1
  exact kk u hq p l e s m args below meth c H1 locs1 lz CX hP2 hD2 hS1 hl2
theorem x_call {C : z_M} {d' mc' ms' idx n : Nat} {As S : List Value} {b : Nat} {en : va_E} {wr : va_W} {Qc : va_W → Prop} (i : Nat) (isR : List Nat)
    (hd : decode M.2.1 pc = .ok (.invokespecial idx, 3)) (hp : pc + 3 = pc') (hl : Cond.methodLink M.1.cls idx C.1 ∈ z_tb) (hC : x_MI C n) (hn : As.length = n) (hS0 : S = As.reverse ++ .ref b :: st) (hst : (st.map fun v => v.category).sum ≤ 8)
    (hi : ws[i]? = some (b, en)) (hR : isR.map (fun i => ws[i]?) = wr.map some) (hnd : va_nd isR = true) (hdis : ∀ j ∈ isR, j ∉ [i]) (hro : kc + mc' ≤ mc ∧ ks + ms' ≤ ms) (hdd : d' + 1 ≤ d)
    (hc : x_Wc d' mc' ms' C D (.ref b :: As) [(b, en)] Qc)
    (kk : ∀ u, Qc u → x_Wp d mc ms M D (kc + mc') (ks + ms') pc' ls st ws0 (wr ++ u) Q) : x_Wp d mc ms M D kc ks pc ls S ws0 ws Q := by
  refine x_call0 (C := C) (d' := d') (idx := idx) (i := i) isR (fun p l e s m args below meth c H locs lz CX hl2 hpre hM => ?_) hp hi hR hnd hdis hc kk
  obtain ⟨hx, hb, hr, hml, hown, hts, hK, hin, hlk⟩ := id CX
  obtain ⟨c1, c2, c3, c4, c5, c6, c7⟩ := hC
  subst hS0
  rw [c5] at hM c1
  exact va_runI (As := As) (b := b) (maxL := C.2.2.1) (bytes := C.2.1) (n := n) ⟨hx, hb, hml, hown, hts⟩ hM (cwI n hts (by have h9 := x_goodC (C := (C.1, C.2.1, C.2.2.1, none)) c1; exact h9) rfl rfl rfl (hts _ c2) (hts _ hl) (hts _ c7) c6 c3 ⟨by show d' + 1 + 1 ≤ d + 1; omega, by show 8 + (C.2.2.1 + 11) + 64 * (d' + 1) ≤ 64 * (d + 1); omega⟩) hpre rfl hn hl2.1 rfl (lv_room hst) hd hro
theorem x_callN {C : z_M} {d' mc' ms' idx n : Nat} {As S : List Value} {b : Nat} {en : va_E} {wr : va_W} {host : String} {Qc : va_W → Prop} (i : Nat) (isR : List Nat)
    (hd : decode M.2.1 pc = .ok (.invokespecial idx, 3)) (hp : pc + 3 = pc') (hl : (M.1.cls, idx, C.1, host) ∈ x_nest) (hC : x_MI C n) (hn : As.length = n) (hS0 : S = As.reverse ++ .ref b :: st) (hst : (st.map fun v => v.category).sum ≤ 8)
    (hi : ws[i]? = some (b, en)) (hR : isR.map (fun i => ws[i]?) = wr.map some) (hnd : va_nd isR = true) (hdis : ∀ j ∈ isR, j ∉ [i]) (hro : kc + mc' ≤ mc ∧ ks + ms' ≤ ms) (hdd : d' + 1 ≤ d)
    (hc : x_Wc d' mc' ms' C D (.ref b :: As) [(b, en)] Qc)
    (kk : ∀ u, Qc u → x_Wp d mc ms M D (kc + mc') (ks + ms') pc' ls st ws0 (wr ++ u) Q) : x_Wp d mc ms M D kc ks pc ls S ws0 ws Q := by
  refine x_call0 (C := C) (d' := d') (idx := idx) (i := i) isR (fun p l e s m args below meth c H locs lz CX hl2 hpre hM => ?_) hp hi hR hnd hdis hc kk
  obtain ⟨hx, hb, hr, hml, hown, hts, hK, hin, hlk⟩ := id CX
  obtain ⟨c1, c2, c3, c4, c5, c6, c7⟩ := hC
  subst hS0
  rw [c5] at hM c1
  exact va_runIN (As := As) (b := b) (maxL := C.2.2.1) (bytes := C.2.1) (n := n) (host := host) ⟨hx, hb, hml, hown, hts⟩ hM ⟨va_cnB n hts (by have h9 := x_goodC (C := (C.1, C.2.1, C.2.2.1, none)) c1; exact h9) rfl rfl rfl (hK.2.1 _ hl) (hts _ c2) c3 ⟨by show d' + 1 + 1 ≤ d + 1; omega, by show 8 + (C.2.2.1 + 11) + 64 * (d' + 1) ≤ 64 * (d + 1); omega⟩, c6, hts _ c7⟩ hpre rfl hn hl2.1 rfl (lv_room hst) hd hro
end XL
