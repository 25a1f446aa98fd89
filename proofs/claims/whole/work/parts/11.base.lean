abbrev zI (x : Int) : z_V := Sum.inl x
abbrev zJ (x : Int) : z_V := Sum.inr (Sum.inl x)
abbrev zR (k : Nat) : z_V := Sum.inr (Sum.inr k)
def z_cv (E : z_E) (v : z_V) : Value := match v with
  | .inl x => .int (Int32.ofInt x)
  | .inr (.inl x) => .long (Int64.ofInt x)
  | .inr (.inr k) => .ref (E.2.1 k)
def z_cl (E : z_E) (q : Nat × z_V) : Nat × Value := (q.1, z_cv E q.2)
def z_wd (v : z_V) : Nat := match v with
  | .inr (.inl _) => 2
  | _ => 1
theorem z_cat (E : z_E) (v : z_V) : (z_cv E v).category = z_wd v := by
  rcases v with x | x | k <;> rfl
def z_fv (E : z_E) (g : Nat → Int) (j c : Nat) : Value := match c with
  | 0 => .int (Int32.ofInt (g j))
  | 1 => .long (Int64.ofInt (g j))
  | k + 2 => .ref (E.2.1 k)
def z_ce (E : z_E) (g : Nat → Int) (s : z_S) : va_E := match s with
  | .inl (ci, fs) => .inr (ci, fs.mapIdx (fun j c => z_fv E g j c))
  | .inr (0, n, _) => .inl (E.2.2 0, n, .inl (fun j => Int32.ofInt (g j)))
  | .inr (1, n, rs) => .inl (E.2.2 1, n, .inr (.inr (.inr (.inr (fun j => (rs[j]?).map E.2.1)))))
  | .inr (_, n, _) => .inl (E.2.2 2, n, .inr (.inl (fun j => Int64.ofInt (g j))))
def z_cw (E : z_E) (w : z_Wd) : va_W := (List.range z_N).map (fun k => (E.2.1 k, z_ce E (w k) (z_sh k)))
theorem z_cw_get {E : z_E} {w : z_Wd} {k : Nat} (h : k < z_N) : (z_cw E w)[k]? = some (E.2.1 k, z_ce E (w k) (z_sh k)) := by
  unfold z_cw
  rw [List.getElem?_map, List.getElem?_range h]
  rfl
theorem z_cw_no {E : z_E} {w : z_Wd} {k : Nat} (h : ¬ k < z_N) : (z_cw E w)[k]? = none := by
  apply List.getElem?_eq_none
  unfold z_cw
  rw [List.length_map, List.length_range]
  exact Nat.not_lt.mp h
theorem z_cw_len {E : z_E} {w : z_Wd} : (z_cw E w).length = z_N := by
  unfold z_cw
  rw [List.length_map, List.length_range]
def z_up (w : z_Wd) (k j : Nat) (x : Int) : z_Wd := fun a b => if a = k then (if b = j then x else w a b) else w a b
theorem z_up_other {w : z_Wd} {k j : Nat} {x : Int} {a : Nat} (h : a ≠ k) : z_up w k j x a = w a := by
  funext b
  simp [z_up, h]
theorem z_cw_set {E : z_E} {w w' : z_Wd} {k : Nat} (h : k < z_N) {e : va_E} (he : z_ce E (w' k) (z_sh k) = e) (ho : ∀ a, a ≠ k → w' a = w a) : (z_cw E w).set k (E.2.1 k, e) = z_cw E w' := by
  apply List.ext_getElem?
  intro i
  rw [List.getElem?_set]
  by_cases hi : k = i
  · subst hi
    rw [if_pos rfl, if_pos (by rw [z_cw_len]; exact h), z_cw_get h, he]
  · rw [if_neg hi]
    by_cases hn : i < z_N
    · rw [z_cw_get hn, z_cw_get hn, ho i (fun q => hi q.symm)]
    · rw [z_cw_no hn, z_cw_no hn]
def z_A (E : z_E) (sz : Nat) : Nat → Prop := fun q => (∃ k, k < z_N ∧ q = E.2.1 k) ∨ sz ≤ q
def z_inj (E : z_E) : Prop := ∀ i j, i < z_N → j < z_N → E.2.1 i = E.2.1 j → i = j
def z_tys (E : z_E) : List (ClassId × FieldType) := [(E.2.2 0, .int), (E.2.2 1, .object "DrownedNames$Law"), (E.2.2 2, .long)]
def z_G (E : z_E) (A : Nat → Prop) (U : State) : Prop := va_K E.1 classes (z_tys E) U ∧ ∀ (i : Nat) (q : z_T), z_sts[i]? = some q →
  va_Z q.1 q.2.1 q.2.2.1 (.ref (E.2.1 (200 + i))) A U U.heap ∧ va_T q.2.2.2.1 (E.2.1 (200 + i)) q.2.2.2.2.length (fun j => .int (Int32.ofInt (q.2.2.2.2.getD j 0))) A U U.heap
theorem z_D {E : z_E} {w : z_Wd} {A : Nat → Prop} (hi : z_inj E) (hA : ∀ k, k < z_N → A (E.2.1 k)) : va_D A (z_cw E w) := by
  have key : ∀ (k : Nat) (q : Nat × va_E), (z_cw E w)[k]? = some q → k < z_N ∧ q.1 = E.2.1 k := by
    intro k q hk
    by_cases hn : k < z_N
    · rw [z_cw_get hn] at hk
      cases hk
      exact ⟨hn, rfl⟩
    · rw [z_cw_no hn] at hk
      cases hk
  refine ⟨fun i j p q hp hq hpq => ?_, fun k q hk => ?_⟩
  · obtain ⟨h1, e1⟩ := key i p hp
    obtain ⟨h2, e2⟩ := key j q hq
    exact hi i j h1 h2 (by rw [← e1, ← e2]; exact hpq)
  · obtain ⟨h1, e1⟩ := key k q hk
    rw [e1]
    exact hA k h1
def z_tb : List Cond := lw_tbl.filter goodWord
theorem z_in {w : Cond} (h : w ∈ lw_tbl) (g : goodWord w = true) : w ∈ z_tb := List.mem_filter.mpr ⟨h, g⟩
theorem z_good : GoodIn z_tb z_tb := fun w h => ⟨h, good_of_word (List.mem_filter.mp h).2⟩
def z_rm (d : Nat) : Room := { frames := d + 1, cells := 0, slots := 0, locals := 64 * (d + 1) }
def z_Q (E : z_E) (sz : Nat) (Q : Option z_V → z_Wd → Prop) : Array Value → State → Outcome → State → Prop := fun _ st oc t =>
  (∃ (r : Option z_V) (w' : z_Wd), oc = .returned (r.map (z_cv E)) ∧ Q r w' ∧ va_P E.1 classes (z_cw E w') t.heap) ∧ va_F (z_A E sz) st t
/-- a method's contract: from every heap that holds w, with these arguments, it returns, and Q holds of what it answers and of the world behind it -/
def z_Wc (d : Nat) (M : z_M) (as : List z_V) (w : z_Wd) (Q : Option z_V → z_Wd → Prop) : Prop := ∀ (l : Launch) (E : z_E) (sz : Nat), z_inj E →
  Met l M.1 (Cond.code M.1 M.2.1 M.2.2.1 M.2.2.2 :: z_tb) (z_rm d) (va_Pc (as.map (z_cv E)) (fun U => U.heap.size = sz ∧ va_P E.1 classes (z_cw E w) U.heap ∧ z_G E (z_A E sz) U)) (z_Q E sz Q) 0 0 (z_A E sz)
def z_C (M : z_M) (E : z_E) (p : Program) (s : State) (m : MethodId) (args : Array Value) (meth : Method) (c : Code) : Prop :=
  p.tables.exec = Jvm.exec ∧ c.code = M.2.1 ∧ meth.sig.returnType = M.2.2.2 ∧ c.maxLocals = M.2.2.1 ∧ s.vm.findClass M.1.cls = some m.cls ∧ (∀ w ∈ z_tb, w.before args s = true) ∧ z_G E (z_A E s.heap.size) s ∧ z_inj E ∧ meth.locks = false
/-- within a method: from this place, with these locals and this stack, it returns, and Q holds -/
def z_Wp (M : z_M) (d pc : Nat) (ls : List (Nat × z_V)) (st : List z_V) (w : z_Wd) (Q : Option z_V → z_Wd → Prop) : Prop :=
  ∀ (E : z_E) (p : Program) (l : Launch) (e : Env) (s : State) (m : MethodId) (args : Array Value) (below : List Frame) (meth : Method) (c : Code) (H : Heap) (locs : List Loc) (lz : Array Slot),
    z_C M E p s m args meth c → va_P E.1 classes (z_cw E w) H → va_S (z_A E s.heap.size) s.heap H locs → lv_has lz M.2.2.1 (ls.map (z_cl E)) →
    W p l e (z_rm d) s m args below meth c H locs 0 0 (MQ below (z_Q E s.heap.size Q) args s 0 0 (z_A E s.heap.size)) (F0 m pc lz (st.map (z_cv E)))
theorem z_G.blind {E : z_E} {A : Nat → Prop} {U : State} {g : JFrame} {mk : MethodId} {a : Array Value} (h : z_G E A U) : z_G E A (U.calling g mk a) :=
  ⟨va_K.moved (u := U) (U := U.calling g mk a) (Vm.Alike.refl U.vm) h.1, fun i q hq => ⟨va_Z.moved (u := U) (U := U.calling g mk a) (Vm.Alike.refl U.vm) (h.2 i q hq).1, va_T.moved (u := U) (U := U.calling g mk a) (Vm.Alike.refl U.vm) (h.2 i q hq).2⟩⟩
theorem z_A.mono {E : z_E} {a b : Nat} (h : a ≤ b) : ∀ q, z_A E b q → z_A E a q := fun q hq => hq.elim Or.inl (fun x => Or.inr (Nat.le_trans h x))
theorem z_G.at {E : z_E} {s U : State} {H : Heap} {locs : List Loc} (h : z_G E (z_A E s.heap.size) s) (hS : va_S (z_A E s.heap.size) s.heap H locs) (hU : U.heap = H) (hW : s.WarmedH U.vm) : z_G E (z_A E H.size) U := by
  refine ⟨va_K.moved hW.alike h.1, fun i q hq => ?_⟩
  obtain ⟨h1, h2⟩ := h.2 i q hq
  have hk : ∀ a : Nat, a < s.heap.size → ¬ z_A E s.heap.size a → U.heap[a]? = s.heap[a]? := fun a x y => by rw [hU]; exact hS.2.1 a x y
  exact ⟨va_Z.moved hW.alike ((h1.kept hk).narrow (z_A.mono hS.1)), va_T.moved hW.alike ((h2.kept hk).narrow (z_A.mono hS.1))⟩
def z_la : Nat → List z_V → List (Nat × z_V)
  | _, [] => []
  | i, v :: vs => (i, v) :: z_la (i + z_wd v) vs
theorem z_la_eq (E : z_E) : ∀ (vs : List z_V) (i : Nat), lv_args i (vs.map (z_cv E)) = (z_la i vs).map (z_cl E)
  | [], _ => rfl
  | v :: vs, i => by
    show (i, z_cv E v) :: lv_args (if (z_cv E v).category = 2 then i + 2 else i + 1) (vs.map (z_cv E)) = (i, z_cv E v) :: (z_la (i + z_wd v) vs).map (z_cl E)
    rw [z_la_eq E vs, z_cat]
    rcases v with x | x | k <;> rfl
theorem z_sl_len (E : z_E) : ∀ (vs : List z_V), (lg_sl (vs.map (z_cv E))).length = (vs.map z_wd).sum
  | [] => rfl
  | v :: vs => by
    have ih := z_sl_len E vs
    have e : lg_sl ((v :: vs).map (z_cv E)) = (if (z_cv E v).category = 2 then [Slot.val (z_cv E v), .second] else [.val (z_cv E v)]) ++ lg_sl (vs.map (z_cv E)) := by
      simp [lg_sl]
    rw [e, List.length_append, ih, z_cat, List.map_cons, List.sum_cons]
    rcases v with x | x | k <;> simp [z_wd]
theorem z_enter {M : z_M} {d : Nat} {as : List z_V} {w : z_Wd} {Q : Option z_V → z_Wd → Prop} (hy : plainName M.1.cls = true) (hn : (as.map z_wd).sum ≤ M.2.2.1) (k : z_Wp M d 0 (z_la 0 as) [] w Q) : z_Wc d M as w Q := by
  intro l E sz hinj
  refine Met.ofW (cc := M.2.1) (maxL := M.2.2.1) (ret := M.2.2.2) hy rfl ?_
  intro p e s m args below meth c s₁ B hml hv
  obtain ⟨rfl, hsz, hP, hG⟩ := hv
  subst hsz
  have hts := atoms_spec (ws := Cond.code M.1 M.2.1 M.2.2.1 M.2.2.2 :: z_tb) B.pre
  have hown : s.vm.findClass M.1.cls = some m.cls := findClass_of_methodNamed B.named
  have hl := lv_entry (as.map (z_cv E)) (n := M.2.2.1) (by rw [z_sl_len]; exact hn)
  rw [lg_entry_eq]
  rw [z_la_eq] at hl
  exact k E p l e s m _ below meth c s.heap [] _ ⟨B.exec, B.bytes, B.returns, hml, hown, fun w hw => hts w (List.mem_cons_of_mem _ hw), hG, hinj, B.notSynchronized⟩ hP va_S.rf hl
theorem z_run {p : Program} {l : Launch} {e : Env} {R : Room} {s : State} {m : MethodId} {args a : Array Value} {below : List Frame} {meth : Method} {c : Code} {H : Heap} {locs : List Loc} {Qf : State → Prop} {pc : Nat} {lz : Array Slot} {st0 rest : List Value} {E : z_E} {Q : Option z_V → z_Wd → Prop}
    (hr : va_Run p l e R s m args below meth c H locs 0 0 0 0 (F0 m pc lz st0) rest (z_Q E H.size Q a) (z_A E H.size)) (hS : va_S (z_A E s.heap.size) s.heap H locs)
    (kk : ∀ (r : Option z_V) (w' : z_Wd) (H1 : Heap) (locs1 : List Loc), Q r w' → va_P E.1 classes (z_cw E w') H1 → va_S (z_A E s.heap.size) s.heap H1 locs1 → W p l e R s m args below meth c H1 locs1 0 0 Qf (F0 m (pc + 3) lz ((r.map (z_cv E)).toList ++ rest))) :
    W p l e R s m args below meth c H locs 0 0 Qf (F0 m pc lz st0) := by
  intro T hT X
  obtain ⟨v, st₀, t, T', L, h0, X', hL, e1, e2, ⟨⟨r, w', hv, hp, hb⟩, hz, hk⟩, st⟩ := hr T hT X
  have hv' : v = r.map (z_cv E) := by injection hv
  subst hv'
  rw [h0] at hz hk
  obtain ⟨t2, a1, b1⟩ := kk r w' T'.heap (locs ++ L) hp (by rw [e1]; exact hb)
    ⟨Nat.le_trans hS.1 (by rw [e1]; exact hz), fun q h1 h2 => by rw [e1, hk q (Nat.lt_of_lt_of_le h1 hS.1) (fun z => h2 (z_A.mono hS.1 q z))]; exact hS.2.1 q h1 h2, fun q hq => by
      rcases List.mem_append.mp hq with h | h
      · exact hS.2.2 q h
      · exact z_A.mono hS.1 _ (hL q h)⟩ T' rfl X'
  exact ⟨t2, st t2 a1, b1⟩
/-- a method that can be called: its words -/
def z_MB (C : z_M) (n : Nat) : Prop := Cond.code C.1 C.2.1 C.2.2.1 C.2.2.2 ∈ z_tb ∧ Cond.initialized C.1.cls ∈ z_tb ∧ (C.1.cls ≠ "java/lang/invoke/MethodHandle" ∧ C.1.cls ≠ "java/lang/invoke/VarHandle" ∧ (parseMethodDescriptor C.1.desc).map (fun d => d.parameters.length) = some n) ∧ C.2.2.1 ≤ 40
def z_MV (C : z_M) (n : Nat) : Prop := z_MB C n ∧ Cond.instanceMethod C.1 ∈ z_tb ∧ Cond.selects C.1.cls C.1 C.1 ∈ z_tb
def z_MS (C : z_M) (n : Nat) : Prop := z_MB C n ∧ Cond.static C.1 ∈ z_tb
theorem z_callB {R : Room} {s : State} {args : Array Value} {own : String} {index n d : Nat} {C : z_M} (hts : ∀ w ∈ z_tb, w.before args s = true) (hl : Cond.methodLink own index C.1 ∈ z_tb) (hC : z_MB C n) (hR : R = z_rm (d + 1)) :
    CallB R s args own index C.1 C.2.1 C.2.2.1 C.2.2.2 (Cond.code C.1 C.2.1 C.2.2.1 C.2.2.2 :: z_tb) (z_rm d) 0 0 n := by
  refine callB_of n hts (fun w hw => ?_) rfl rfl rfl (hts _ hC.2.1) (hts _ hl) hC.2.2.1 ?_
  · rcases List.mem_cons.mp hw with rfl | h
    · exact z_good _ hC.1
    · exact z_good _ h
  · subst hR
    have := hC.2.2.2
    constructor
    · show d + 1 + 1 ≤ d + 1 + 1
      exact Nat.le_refl _
    · show 8 + (C.2.2.1 + 11) + 64 * (d + 1) ≤ 64 * (d + 1 + 1)
      omega
theorem z_blind {as : List Value} {E : z_E} {w : z_Wd} {sz : Nat} : FrameBlind (va_Pc as (fun U => U.heap.size = sz ∧ va_P E.1 classes (z_cw E w) U.heap ∧ z_G E (z_A E sz) U)) :=
  fun a U g mk q => by obtain ⟨q0, q1, qP, qG⟩ := q; exact ⟨q0, q1, qP, qG.blind⟩
theorem z_sum (E : z_E) (st : List z_V) : ((st.map (z_cv E)).map fun v => v.category).sum = (st.map z_wd).sum := by
  rw [List.map_map]
  congr 1
  apply List.map_congr_left
  intro v _
  exact z_cat E v
theorem z_invV {M C : z_M} {d pc pc' idx n k ci : Nat} {ls : List (Nat × z_V)} {st S as fs : List _} {w : z_Wd} {Q : Option z_V → z_Wd → Prop} {q : vw_C} (hd : decode M.2.1 pc = .ok (.invokevirtual idx, 3)) (hp : pc + 3 = pc') (hl : Cond.methodLink M.1.cls idx C.1 ∈ z_tb) (hC : z_MV C n) (hn : as.length = n) (hk : k < z_N) (hsh : z_sh k = .inl (ci, fs)) (hci : classes[ci]? = some q) (hq : q.1 = C.1.cls) (hS0 : S = as.reverse ++ zR k :: st) (hst : (st.map z_wd).sum ≤ 8)
    (kk : z_Wc d C (zR k :: as) w (fun r w' => z_Wp M (d + 1) pc' ls (r.toList ++ st) w' Q)) : z_Wp M (d + 1) pc ls S w Q := by
  subst hp
  subst hS0
  intro E p l e s m args below meth c H locs lz CX hP hS hl2
  obtain ⟨hx, hb, hr, hml, hown, hts, hG, hinj, hlk⟩ := id CX
  have hget : (z_cw E w)[k]? = some (E.2.1 k, .inr (ci, fs.mapIdx (fun j c => z_fv E (w k) j c))) := by
    rw [z_cw_get hk, hsh]
    rfl
  refine z_run (E := E) (Q := fun r w' => z_Wp M (d + 1) (pc + 3) ls (r.toList ++ st) w' Q) (rest := st.map (z_cv E))
    (va_runV (As := as.map (z_cv E)) (b := E.2.1 k) (C := C.1.cls) ⟨hx, hb, hml, hown, hts⟩ (kk l E H.size hinj) ⟨z_callB hts hl hC.1 rfl, hts _ hC.2.1, hts _ hC.2.2⟩
      ⟨z_blind, by have h9 := va_recv hG.1 hP hci hget; rw [hq] at h9; exact h9, fun U hU hW => ⟨rfl, by rw [hU], by rw [hU]; exact hP, hG.at hS hU hW⟩⟩
      rfl (by rw [List.length_map]; exact hn) hl2.1 (by simp [z_cv]) (lv_room (by rw [z_sum]; exact hst)) hd ⟨Nat.le_refl _, Nat.le_refl _⟩) hS ?_
  intro r w' H1 locs1 h1 h2 h3
  have h4 := h1 E p l e s m args below meth c H1 locs1 lz CX h2 h3 hl2
  have e4 : (r.toList ++ st).map (z_cv E) = (r.map (z_cv E)).toList ++ st.map (z_cv E) := by
    cases r <;> simp
  rw [e4] at h4
  exact h4
theorem z_invS {M C : z_M} {d pc pc' idx n : Nat} {ls : List (Nat × z_V)} {st S as : List z_V} {w : z_Wd} {Q : Option z_V → z_Wd → Prop} (hd : decode M.2.1 pc = .ok (.invokestatic idx, 3)) (hp : pc + 3 = pc') (hl : Cond.methodLink M.1.cls idx C.1 ∈ z_tb) (hC : z_MS C n) (hn : as.length = n) (hS0 : S = as.reverse ++ st) (hst : (st.map z_wd).sum ≤ 8)
    (kk : z_Wc d C as w (fun r w' => z_Wp M (d + 1) pc' ls (r.toList ++ st) w' Q)) : z_Wp M (d + 1) pc ls S w Q := by
  subst hp
  subst hS0
  intro E p l e s m args below meth c H locs lz CX hP hS hl2
  obtain ⟨hx, hb, hr, hml, hown, hts, hG, hinj, hlk⟩ := id CX
  refine z_run (E := E) (Q := fun r w' => z_Wp M (d + 1) (pc + 3) ls (r.toList ++ st) w' Q) (rest := st.map (z_cv E))
    (va_runS (As := as.map (z_cv E)) ⟨hx, hb, hml, hown, hts⟩ (kk l E H.size hinj) ⟨z_callB hts hl hC.1 rfl, hts _ hC.2⟩
      ⟨z_blind, fun U hU hW => ⟨rfl, by rw [hU], by rw [hU]; exact hP, hG.at hS hU hW⟩⟩
      rfl (by rw [List.length_map]; exact hn) hl2.1 (by simp) (lv_room (by rw [z_sum]; exact hst)) hd ⟨Nat.le_refl _, Nat.le_refl _⟩) hS ?_
  intro r w' H1 locs1 h1 h2 h3
  have h4 := h1 E p l e s m args below meth c H1 locs1 lz CX h2 h3 hl2
  have e4 : (r.toList ++ st).map (z_cv E) = (r.map (z_cv E)).toList ++ st.map (z_cv E) := by
    cases r <;> simp
  rw [e4] at h4
  exact h4
theorem z_Wc.mono {d : Nat} {M : z_M} {as : List z_V} {w : z_Wd} {Q Q' : Option z_V → z_Wd → Prop} (h : z_Wc d M as w Q) (hq : ∀ r w', Q r w' → Q' r w') : z_Wc d M as w Q' := by
  intro l E sz hi p e ha hc hk s m args below hf happ hP hK
  obtain ⟨k, o, h1, h2, h3, h4, h5⟩ := h l E sz hi p e ha hc hk s m args below hf happ hP hK
  obtain ⟨⟨r, w', e1, e2, e3⟩, e4⟩ := h4
  exact ⟨k, o, h1, h2, h3, ⟨⟨r, w', e1, hq r w' e2, e3⟩, e4⟩, h5⟩
theorem z_Wp.sub {M : z_M} {d pc : Nat} {ls ls' : List (Nat × z_V)} {st : List z_V} {w : z_Wd} {Q : Option z_V → z_Wd → Prop} (k : z_Wp M d pc ls' st w Q) (h : ∀ q ∈ ls', q ∈ ls) : z_Wp M d pc ls st w Q := by
  intro E p l e s m args below meth c H locs lz CX hP hS hl
  refine k E p l e s m args below meth c H locs lz CX hP hS ⟨hl.1, hl.2.1, fun q hq => hl.2.2 q ?_⟩
  obtain ⟨a, ha, rfl⟩ := List.mem_map.mp hq
  exact List.mem_map.mpr ⟨a, h a ha, rfl⟩
