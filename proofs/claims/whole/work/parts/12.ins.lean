theorem z_ti {x : Int} (h : -2147483648 ≤ x ∧ x < 2147483648) : (Int32.ofInt x).toInt = x := Int32.toInt_ofInt_of_le (by omega) (by omega)
theorem z_tj {x : Int} (h : -9223372036854775808 ≤ x ∧ x < 9223372036854775808) : (Int64.ofInt x).toInt = x := Int64.toInt_ofInt_of_le (by omega) (by omega)
theorem z_eq {x y : Int} (hx : -2147483648 ≤ x ∧ x < 2147483648) (hy : -2147483648 ≤ y ∧ y < 2147483648) : Int32.ofInt x = Int32.ofInt y ↔ x = y := by
  rw [← Int32.toInt_inj, z_ti hx, z_ti hy]
theorem z_lt {x y : Int} (hx : -2147483648 ≤ x ∧ x < 2147483648) (hy : -2147483648 ≤ y ∧ y < 2147483648) : Int32.ofInt x < Int32.ofInt y ↔ x < y := by
  rw [Int32.lt_iff_toInt_lt, z_ti hx, z_ti hy]
theorem z_le {x y : Int} (hx : -2147483648 ≤ x ∧ x < 2147483648) (hy : -2147483648 ≤ y ∧ y < 2147483648) : Int32.ofInt x ≤ Int32.ofInt y ↔ x ≤ y := by
  rw [Int32.le_iff_toInt_le, z_ti hx, z_ti hy]
theorem z_r0 : (-2147483648 : Int) ≤ 0 ∧ (0 : Int) < 2147483648 := by decide
theorem z_inn {i : Int} {n : Nat} (h : 0 ≤ i ∧ i < n) (hn : n ≤ 100000) : vp_in (Int32.ofInt i) n ∧ (Int32.ofInt i).toNatClampNeg = i.toNat := by
  have h1 : (Int32.ofInt i).toInt = i := z_ti (by omega)
  refine ⟨vp_in_iff.mpr (by rw [h1]; exact h), ?_⟩
  show (Int32.ofInt i).toInt.toNat = i.toNat
  rw [h1]
def zz_and (x y : Int) : Int := (Int32.ofInt x &&& Int32.ofInt y).toInt
def zz_or (x y : Int) : Int := (Int32.ofInt x ||| Int32.ofInt y).toInt
def zz_xor (x y : Int) : Int := (Int32.ofInt x ^^^ Int32.ofInt y).toInt
def zz_shl (x y : Int) : Int := (Int32.ofInt x <<< (Int32.ofInt y &&& 31)).toInt
def zz_shr (x y : Int) : Int := (Int32.ofInt x >>> (Int32.ofInt y &&& 31)).toInt
def zz_ushr (x y : Int) : Int := ((Int32.ofInt x).toUInt32 >>> ((Int32.ofInt y).toUInt32 &&& Int32.toUInt32 31)).toInt32.toInt
def zz_lushr (x y : Int) : Int := ((Int64.ofInt x).toUInt64 >>> ((Int32.ofInt y).toInt64.toUInt64 &&& Int64.toUInt64 63)).toInt64.toInt
def zz_lshl (x y : Int) : Int := (Int64.ofInt x <<< ((Int32.ofInt y).toInt64 &&& 63)).toInt
def zz_land (x y : Int) : Int := (Int64.ofInt x &&& Int64.ofInt y).toInt
def zz_lor (x y : Int) : Int := (Int64.ofInt x ||| Int64.ofInt y).toInt
def z_ins (q : Nat × z_V) : List (Nat × z_V) → List (Nat × z_V)
  | [] => [q]
  | a :: t => cond (Nat.blt q.1 a.1) (q :: a :: t) (a :: z_ins q t)
def z_stl (i : Nat) (v : z_V) (ls : List (Nat × z_V)) : List (Nat × z_V) := z_ins (i, v) (ls.filter (fun q => !(Nat.beq q.1 i)))
theorem z_ins_mem {q a : Nat × z_V} : ∀ {t : List (Nat × z_V)}, a ∈ z_ins q t → a = q ∨ a ∈ t
  | [], h => by simp [z_ins] at h; exact Or.inl h
  | b :: t, h => by
    unfold z_ins at h
    cases hb : Nat.blt q.1 b.1 with
    | true => rw [hb] at h; rcases List.mem_cons.mp h with h | h; exact Or.inl h; exact Or.inr h
    | false =>
      rw [hb] at h
      rcases List.mem_cons.mp h with h | h
      · exact Or.inr (by rw [h]; exact List.mem_cons_self)
      · rcases z_ins_mem h with h | h
        · exact Or.inl h
        · exact Or.inr (List.mem_cons_of_mem _ h)
theorem z_iconst {M : z_M} {d pc pc' : Nat} {ls : List (Nat × z_V)} {st : List z_V} {w : z_Wd} {Q : Option z_V → z_Wd → Prop} {n : Int} (hd : decode M.2.1 pc = .ok (.iconst n, 1)) (hp : pc + 1 = pc') (k : z_Wp M d pc' ls (zI n :: st) (w) Q) : z_Wp M d pc ls (st) w Q := by
  subst hp
  intro E p l e s m args below meth c H locs lz CX hP hS hl
  exact lv_iconst CX.1 CX.2.1 hd rfl (k E p l e s m args below meth c H locs lz CX hP hS hl)
theorem z_bipush {M : z_M} {d pc pc' : Nat} {ls : List (Nat × z_V)} {st : List z_V} {w : z_Wd} {Q : Option z_V → z_Wd → Prop} {n : Int} (hv : (Int8.ofInt n).toInt32 = Int32.ofInt n) (hd : decode M.2.1 pc = .ok (.bipush n, 2)) (hp : pc + 2 = pc') (k : z_Wp M d pc' ls (zI n :: st) (w) Q) : z_Wp M d pc ls (st) w Q := by
  subst hp
  intro E p l e s m args below meth c H locs lz CX hP hS hl
  exact lv_bipush CX.1 CX.2.1 hd hv (k E p l e s m args below meth c H locs lz CX hP hS hl)
theorem z_sipush {M : z_M} {d pc pc' : Nat} {ls : List (Nat × z_V)} {st : List z_V} {w : z_Wd} {Q : Option z_V → z_Wd → Prop} {n : Int} (hv : (Int16.ofInt n).toInt32 = Int32.ofInt n) (hd : decode M.2.1 pc = .ok (.sipush n, 3)) (hp : pc + 3 = pc') (k : z_Wp M d pc' ls (zI n :: st) (w) Q) : z_Wp M d pc ls (st) w Q := by
  subst hp
  intro E p l e s m args below meth c H locs lz CX hP hS hl
  exact lv_sipush CX.1 CX.2.1 hd hv (k E p l e s m args below meth c H locs lz CX hP hS hl)
theorem z_lconst {M : z_M} {d pc pc' : Nat} {ls : List (Nat × z_V)} {st : List z_V} {w : z_Wd} {Q : Option z_V → z_Wd → Prop} {n : Fin 2} {v : Int} (hv : Int64.ofNat (n : Nat) = Int64.ofInt v) (hd : decode M.2.1 pc = .ok (.lconst n, 1)) (hp : pc + 1 = pc') (k : z_Wp M d pc' ls (zJ v :: st) (w) Q) : z_Wp M d pc ls (st) w Q := by
  subst hp
  intro E p l e s m args below meth c H locs lz CX hP hS hl
  exact lv_lconst CX.1 CX.2.1 hd hv (k E p l e s m args below meth c H locs lz CX hP hS hl)
theorem z_ldc {M : z_M} {d pc pc' : Nat} {ls : List (Nat × z_V)} {st : List z_V} {w : z_Wd} {Q : Option z_V → z_Wd → Prop} {idx : Nat} {n : Int} {v : Int32} (hc : Cond.constant M.1.cls idx v ∈ z_tb) (hv : v = Int32.ofInt n) (hd : decode M.2.1 pc = .ok (.ldc idx, 2)) (hp : pc + 2 = pc') (k : z_Wp M d pc' ls (zI n :: st) (w) Q) : z_Wp M d pc ls (st) w Q := by
  subst hp
  intro E p l e s m args below meth c H locs lz CX hP hS hl
  subst hv
  exact lv_ldc CX.1 CX.2.1 CX.2.2.2.2.1 (CX.2.2.2.2.2.1 _ hc) hd (k E p l e s m args below meth c H locs lz CX hP hS hl)
theorem z_ldcw {M : z_M} {d pc pc' : Nat} {ls : List (Nat × z_V)} {st : List z_V} {w : z_Wd} {Q : Option z_V → z_Wd → Prop} {idx : Nat} {n : Int} {v : Int32} (hc : Cond.constant M.1.cls idx v ∈ z_tb) (hv : v = Int32.ofInt n) (hd : decode M.2.1 pc = .ok (.ldc_w idx, 3)) (hp : pc + 3 = pc') (k : z_Wp M d pc' ls (zI n :: st) (w) Q) : z_Wp M d pc ls (st) w Q := by
  subst hp
  intro E p l e s m args below meth c H locs lz CX hP hS hl
  subst hv
  exact lv_ldcw CX.1 CX.2.1 CX.2.2.2.2.1 (CX.2.2.2.2.2.1 _ hc) hd (k E p l e s m args below meth c H locs lz CX hP hS hl)
theorem z_ldc2 {M : z_M} {d pc pc' : Nat} {ls : List (Nat × z_V)} {st : List z_V} {w : z_Wd} {Q : Option z_V → z_Wd → Prop} {idx : Nat} {n : Int} {v : Int64} (hc : Cond.constantLong M.1.cls idx v ∈ z_tb) (hv : v = Int64.ofInt n) (hd : decode M.2.1 pc = .ok (.ldc2_w idx, 3)) (hp : pc + 3 = pc') (k : z_Wp M d pc' ls (zJ n :: st) (w) Q) : z_Wp M d pc ls (st) w Q := by
  subst hp
  intro E p l e s m args below meth c H locs lz CX hP hS hl
  subst hv
  exact lv_ldc2 CX.1 CX.2.1 CX.2.2.2.2.1 (CX.2.2.2.2.2.1 _ hc) hd (k E p l e s m args below meth c H locs lz CX hP hS hl)
theorem z_look {E : z_E} {lz : Array Slot} {n i j : Nat} {ls : List (Nat × z_V)} {v : z_V} (hl : lv_has lz n (ls.map (z_cl E))) (hj : ls[j]? = some (i, v)) : lz[i]? = some (.val (z_cv E v)) :=
  hl.2.2 (i, z_cv E v) (List.mem_map.mpr ⟨(i, v), List.mem_of_getElem? hj, rfl⟩)
theorem z_iload_n {M : z_M} {d pc pc' : Nat} {ls : List (Nat × z_V)} {st : List z_V} {w : z_Wd} {Q : Option z_V → z_Wd → Prop} {f : Fin 4} {i : Nat} {x : Int} (j : Nat) (hi : (f : Nat) = i) (hj : ls[j]? = some (i, zI x)) (hd : decode M.2.1 pc = .ok (.iload_n f, 1)) (hp : pc + 1 = pc') (k : z_Wp M d pc' ls (zI x :: st) (w) Q) : z_Wp M d pc ls (st) w Q := by
  subst hp
  intro E p l e s m args below meth c H locs lz CX hP hS hl
  exact lv_iload_n CX.1 CX.2.1 hd hi (z_look hl hj) (k E p l e s m args below meth c H locs lz CX hP hS hl)
theorem z_iload {M : z_M} {d pc pc' : Nat} {ls : List (Nat × z_V)} {st : List z_V} {w : z_Wd} {Q : Option z_V → z_Wd → Prop} {i : Nat} {x : Int} (j : Nat) (hj : ls[j]? = some (i, zI x)) (hd : decode M.2.1 pc = .ok (.iload i, 2)) (hp : pc + 2 = pc') (k : z_Wp M d pc' ls (zI x :: st) (w) Q) : z_Wp M d pc ls (st) w Q := by
  subst hp
  intro E p l e s m args below meth c H locs lz CX hP hS hl
  exact lv_iload CX.1 CX.2.1 hd (z_look hl hj) (k E p l e s m args below meth c H locs lz CX hP hS hl)
theorem z_aload_n {M : z_M} {d pc pc' : Nat} {ls : List (Nat × z_V)} {st : List z_V} {w : z_Wd} {Q : Option z_V → z_Wd → Prop} {f : Fin 4} {i : Nat} {x : Nat} (j : Nat) (hi : (f : Nat) = i) (hj : ls[j]? = some (i, zR x)) (hd : decode M.2.1 pc = .ok (.aload_n f, 1)) (hp : pc + 1 = pc') (k : z_Wp M d pc' ls (zR x :: st) (w) Q) : z_Wp M d pc ls (st) w Q := by
  subst hp
  intro E p l e s m args below meth c H locs lz CX hP hS hl
  exact lv_aload_n CX.1 CX.2.1 hd hi (z_look hl hj) (k E p l e s m args below meth c H locs lz CX hP hS hl)
theorem z_aload {M : z_M} {d pc pc' : Nat} {ls : List (Nat × z_V)} {st : List z_V} {w : z_Wd} {Q : Option z_V → z_Wd → Prop} {i : Nat} {x : Nat} (j : Nat) (hj : ls[j]? = some (i, zR x)) (hd : decode M.2.1 pc = .ok (.aload i, 2)) (hp : pc + 2 = pc') (k : z_Wp M d pc' ls (zR x :: st) (w) Q) : z_Wp M d pc ls (st) w Q := by
  subst hp
  intro E p l e s m args below meth c H locs lz CX hP hS hl
  exact lv_aload CX.1 CX.2.1 hd (z_look hl hj) (k E p l e s m args below meth c H locs lz CX hP hS hl)
theorem z_lload_n {M : z_M} {d pc pc' : Nat} {ls : List (Nat × z_V)} {st : List z_V} {w : z_Wd} {Q : Option z_V → z_Wd → Prop} {f : Fin 4} {i : Nat} {x : Int} (j : Nat) (hi : (f : Nat) = i) (hj : ls[j]? = some (i, zJ x)) (hd : decode M.2.1 pc = .ok (.lload_n f, 1)) (hp : pc + 1 = pc') (k : z_Wp M d pc' ls (zJ x :: st) (w) Q) : z_Wp M d pc ls (st) w Q := by
  subst hp
  intro E p l e s m args below meth c H locs lz CX hP hS hl
  exact lv_lload_n CX.1 CX.2.1 hd hi (z_look hl hj) (k E p l e s m args below meth c H locs lz CX hP hS hl)
theorem z_lload {M : z_M} {d pc pc' : Nat} {ls : List (Nat × z_V)} {st : List z_V} {w : z_Wd} {Q : Option z_V → z_Wd → Prop} {i : Nat} {x : Int} (j : Nat) (hj : ls[j]? = some (i, zJ x)) (hd : decode M.2.1 pc = .ok (.lload i, 2)) (hp : pc + 2 = pc') (k : z_Wp M d pc' ls (zJ x :: st) (w) Q) : z_Wp M d pc ls (st) w Q := by
  subst hp
  intro E p l e s m args below meth c H locs lz CX hP hS hl
  exact lv_lload CX.1 CX.2.1 hd (z_look hl hj) (k E p l e s m args below meth c H locs lz CX hP hS hl)
theorem z_keep {E : z_E} {lz : Array Slot} {n i : Nat} {ls ls' : List (Nat × z_V)} {v : z_V} {u : Value} (hu : z_cv E v = u) (hls : z_stl i v ls = ls') (hc : ls.all (fun q => !(Nat.beq (q.1 + 1) i && Nat.beq (z_wd q.2) 2)) = true)
    (h : lv_has lz n ((i, u) :: (ls.map (z_cl E)).filter (fun q => !(q.1 == i) && !(q.1 + 1 == i && q.2.category == 2)))) : lv_has lz n (ls'.map (z_cl E)) := by
  subst hls
  subst hu
  refine ⟨h.1, h.2.1, fun q hq => h.2.2 q ?_⟩
  clear h
  obtain ⟨a, ha, rfl⟩ := List.mem_map.mp hq
  rcases z_ins_mem ha with h | h
  · rw [h]
    exact List.mem_cons_self
  · obtain ⟨h1, h2⟩ := List.mem_filter.mp h
    refine List.mem_cons_of_mem _ (List.mem_filter.mpr ⟨List.mem_map.mpr ⟨a, h1, rfl⟩, ?_⟩)
    have h3 := List.all_eq_true.mp hc a h1
    simp only [Bool.not_eq_true', Bool.and_eq_false_imp] at h2 h3
    have e1 : ¬ a.1 = i := fun e => by rw [e] at h2; simp at h2
    have e2 : a.1 + 1 = i → ¬ z_wd a.2 = 2 := fun e => by
      have h4 := h3 (by rw [e]; simp)
      intro e5
      rw [e5] at h4
      simp at h4
    show (!((z_cl E a).1 == i) && !((z_cl E a).1 + 1 == i && (z_cl E a).2.category == 2)) = true
    simp only [z_cl, z_cat]
    simp [e1]
    exact (Nat.decEq (a.1 + 1) i).byCases (fun h => Or.inr (e2 h)) Or.inl
theorem z_istore_n {M : z_M} {d pc pc' : Nat} {ls : List (Nat × z_V)} {st : List z_V} {w : z_Wd} {Q : Option z_V → z_Wd → Prop} {f : Fin 4} {i : Nat} {x : Int} {ls' : List (Nat × z_V)} (hi : (f : Nat) = i) (hn : i < M.2.2.1) (hls : z_stl i (zI x) ls = ls') (hc : ls.all (fun q => !(Nat.beq (q.1 + 1) i && Nat.beq (z_wd q.2) 2)) = true) (hd : decode M.2.1 pc = .ok (.istore_n f, 1)) (hp : pc + 1 = pc') (k : z_Wp M d pc' ls' (st) (w) Q) : z_Wp M d pc ls (zI x :: st) w Q := by
  subst hp
  intro E p l e s m args below meth c H locs lz CX hP hS hl
  exact lv_istore_n CX.1 CX.2.1 hd hi hl hn rfl (fun ls2 h2 => k E p l e s m args below meth c H locs ls2 CX hP hS (z_keep rfl hls hc h2))
theorem z_istore {M : z_M} {d pc pc' : Nat} {ls : List (Nat × z_V)} {st : List z_V} {w : z_Wd} {Q : Option z_V → z_Wd → Prop} {i : Nat} {x : Int} {ls' : List (Nat × z_V)} (hn : i < M.2.2.1) (hls : z_stl i (zI x) ls = ls') (hc : ls.all (fun q => !(Nat.beq (q.1 + 1) i && Nat.beq (z_wd q.2) 2)) = true) (hd : decode M.2.1 pc = .ok (.istore i, 2)) (hp : pc + 2 = pc') (k : z_Wp M d pc' ls' (st) (w) Q) : z_Wp M d pc ls (zI x :: st) w Q := by
  subst hp
  intro E p l e s m args below meth c H locs lz CX hP hS hl
  exact lv_istore CX.1 CX.2.1 hd hl hn rfl (fun ls2 h2 => k E p l e s m args below meth c H locs ls2 CX hP hS (z_keep rfl hls hc h2))
theorem z_astore_n {M : z_M} {d pc pc' : Nat} {ls : List (Nat × z_V)} {st : List z_V} {w : z_Wd} {Q : Option z_V → z_Wd → Prop} {f : Fin 4} {i : Nat} {x : Nat} {ls' : List (Nat × z_V)} (hi : (f : Nat) = i) (hn : i < M.2.2.1) (hls : z_stl i (zR x) ls = ls') (hc : ls.all (fun q => !(Nat.beq (q.1 + 1) i && Nat.beq (z_wd q.2) 2)) = true) (hd : decode M.2.1 pc = .ok (.astore_n f, 1)) (hp : pc + 1 = pc') (k : z_Wp M d pc' ls' (st) (w) Q) : z_Wp M d pc ls (zR x :: st) w Q := by
  subst hp
  intro E p l e s m args below meth c H locs lz CX hP hS hl
  exact lv_astore_n CX.1 CX.2.1 hd hi hl hn rfl (fun ls2 h2 => k E p l e s m args below meth c H locs ls2 CX hP hS (z_keep rfl hls hc h2))
theorem z_astore {M : z_M} {d pc pc' : Nat} {ls : List (Nat × z_V)} {st : List z_V} {w : z_Wd} {Q : Option z_V → z_Wd → Prop} {i : Nat} {x : Nat} {ls' : List (Nat × z_V)} (hn : i < M.2.2.1) (hls : z_stl i (zR x) ls = ls') (hc : ls.all (fun q => !(Nat.beq (q.1 + 1) i && Nat.beq (z_wd q.2) 2)) = true) (hd : decode M.2.1 pc = .ok (.astore i, 2)) (hp : pc + 2 = pc') (k : z_Wp M d pc' ls' (st) (w) Q) : z_Wp M d pc ls (zR x :: st) w Q := by
  subst hp
  intro E p l e s m args below meth c H locs lz CX hP hS hl
  exact lv_astore CX.1 CX.2.1 hd hl hn rfl (fun ls2 h2 => k E p l e s m args below meth c H locs ls2 CX hP hS (z_keep rfl hls hc h2))
theorem z_iinc {M : z_M} {d pc pc' : Nat} {ls : List (Nat × z_V)} {st : List z_V} {w : z_Wd} {Q : Option z_V → z_Wd → Prop} {i : Nat} {n x : Int} {ls' : List (Nat × z_V)} (j : Nat) (hj : ls[j]? = some (i, zI x)) (hn : i < M.2.2.1) (hls : z_stl i (zI (x + n)) ls = ls') (hc : ls.all (fun q => !(Nat.beq (q.1 + 1) i && Nat.beq (z_wd q.2) 2)) = true) (hd : decode M.2.1 pc = .ok (.iinc i n, 3)) (hp : pc + 3 = pc') (k : z_Wp M d pc' ls' (st) (w) Q) : z_Wp M d pc ls (st) w Q := by
  subst hp
  intro E p l e s m args below meth c H locs lz CX hP hS hl
  exact lv_iinc (k := j) CX.1 CX.2.1 hd hl (by rw [List.getElem?_map, hj]; rfl) (show Int32.ofInt x + Int32.ofInt n = Int32.ofInt (x + n) by rw [Int32.ofInt_add]) hn rfl (fun ls2 h2 => k E p l e s m args below meth c H locs ls2 CX hP hS (z_keep rfl hls hc h2))
theorem z_iadd {M : z_M} {d pc pc' : Nat} {ls : List (Nat × z_V)} {st : List z_V} {w : z_Wd} {Q : Option z_V → z_Wd → Prop} {x y : Int} (hd : decode M.2.1 pc = .ok (.iadd, 1)) (hp : pc + 1 = pc') (k : z_Wp M d pc' ls (zI (x + y) :: st) (w) Q) : z_Wp M d pc ls (zI y :: zI x :: st) w Q := by
  subst hp
  intro E p l e s m args below meth c H locs lz CX hP hS hl
  refine lv_iadd CX.1 CX.2.1 hd ?_
  rw [← Int32.ofInt_add]
  exact k E p l e s m args below meth c H locs lz CX hP hS hl
theorem z_isub {M : z_M} {d pc pc' : Nat} {ls : List (Nat × z_V)} {st : List z_V} {w : z_Wd} {Q : Option z_V → z_Wd → Prop} {x y : Int} (hd : decode M.2.1 pc = .ok (.isub, 1)) (hp : pc + 1 = pc') (k : z_Wp M d pc' ls (zI (x - y) :: st) (w) Q) : z_Wp M d pc ls (zI y :: zI x :: st) w Q := by
  subst hp
  intro E p l e s m args below meth c H locs lz CX hP hS hl
  refine lv_isub CX.1 CX.2.1 hd ?_
  rw [← Int32.ofInt_sub]
  exact k E p l e s m args below meth c H locs lz CX hP hS hl
theorem z_imul {M : z_M} {d pc pc' : Nat} {ls : List (Nat × z_V)} {st : List z_V} {w : z_Wd} {Q : Option z_V → z_Wd → Prop} {x y : Int} (hd : decode M.2.1 pc = .ok (.imul, 1)) (hp : pc + 1 = pc') (k : z_Wp M d pc' ls (zI (x * y) :: st) (w) Q) : z_Wp M d pc ls (zI y :: zI x :: st) w Q := by
  subst hp
  intro E p l e s m args below meth c H locs lz CX hP hS hl
  refine lv_imul CX.1 CX.2.1 hd ?_
  rw [← Int32.ofInt_mul]
  exact k E p l e s m args below meth c H locs lz CX hP hS hl
theorem z_ladd {M : z_M} {d pc pc' : Nat} {ls : List (Nat × z_V)} {st : List z_V} {w : z_Wd} {Q : Option z_V → z_Wd → Prop} {x y : Int} (hd : decode M.2.1 pc = .ok (.ladd, 1)) (hp : pc + 1 = pc') (k : z_Wp M d pc' ls (zJ (x + y) :: st) (w) Q) : z_Wp M d pc ls (zJ y :: zJ x :: st) w Q := by
  subst hp
  intro E p l e s m args below meth c H locs lz CX hP hS hl
  refine lv_ladd CX.1 CX.2.1 hd ?_
  rw [← Int64.ofInt_add]
  exact k E p l e s m args below meth c H locs lz CX hP hS hl
theorem z_lsub {M : z_M} {d pc pc' : Nat} {ls : List (Nat × z_V)} {st : List z_V} {w : z_Wd} {Q : Option z_V → z_Wd → Prop} {x y : Int} (hd : decode M.2.1 pc = .ok (.lsub, 1)) (hp : pc + 1 = pc') (k : z_Wp M d pc' ls (zJ (x - y) :: st) (w) Q) : z_Wp M d pc ls (zJ y :: zJ x :: st) w Q := by
  subst hp
  intro E p l e s m args below meth c H locs lz CX hP hS hl
  refine lv_lsub CX.1 CX.2.1 hd ?_
  rw [← Int64.ofInt_sub]
  exact k E p l e s m args below meth c H locs lz CX hP hS hl
theorem z_lmul {M : z_M} {d pc pc' : Nat} {ls : List (Nat × z_V)} {st : List z_V} {w : z_Wd} {Q : Option z_V → z_Wd → Prop} {x y : Int} (hd : decode M.2.1 pc = .ok (.lmul, 1)) (hp : pc + 1 = pc') (k : z_Wp M d pc' ls (zJ (x * y) :: st) (w) Q) : z_Wp M d pc ls (zJ y :: zJ x :: st) w Q := by
  subst hp
  intro E p l e s m args below meth c H locs lz CX hP hS hl
  refine lv_lmul CX.1 CX.2.1 hd ?_
  rw [← Int64.ofInt_mul]
  exact k E p l e s m args below meth c H locs lz CX hP hS hl
theorem z_iand {M : z_M} {d pc pc' : Nat} {ls : List (Nat × z_V)} {st : List z_V} {w : z_Wd} {Q : Option z_V → z_Wd → Prop} {x y : Int} (hd : decode M.2.1 pc = .ok (.iand, 1)) (hp : pc + 1 = pc') (k : z_Wp M d pc' ls (zI (zz_and x y) :: st) (w) Q) : z_Wp M d pc ls (zI y :: zI x :: st) w Q := by
  subst hp
  intro E p l e s m args below meth c H locs lz CX hP hS hl
  refine lv_iand CX.1 CX.2.1 hd ?_
  have h := k E p l e s m args below meth c H locs lz CX hP hS hl
  simp only [zz_and, List.map_cons, z_cv, Int32.ofInt_toInt] at h
  exact h
theorem z_ior {M : z_M} {d pc pc' : Nat} {ls : List (Nat × z_V)} {st : List z_V} {w : z_Wd} {Q : Option z_V → z_Wd → Prop} {x y : Int} (hd : decode M.2.1 pc = .ok (.ior, 1)) (hp : pc + 1 = pc') (k : z_Wp M d pc' ls (zI (zz_or x y) :: st) (w) Q) : z_Wp M d pc ls (zI y :: zI x :: st) w Q := by
  subst hp
  intro E p l e s m args below meth c H locs lz CX hP hS hl
  refine lv_ior CX.1 CX.2.1 hd ?_
  have h := k E p l e s m args below meth c H locs lz CX hP hS hl
  simp only [zz_or, List.map_cons, z_cv, Int32.ofInt_toInt] at h
  exact h
theorem z_ixor {M : z_M} {d pc pc' : Nat} {ls : List (Nat × z_V)} {st : List z_V} {w : z_Wd} {Q : Option z_V → z_Wd → Prop} {x y : Int} (hd : decode M.2.1 pc = .ok (.ixor, 1)) (hp : pc + 1 = pc') (k : z_Wp M d pc' ls (zI (zz_xor x y) :: st) (w) Q) : z_Wp M d pc ls (zI y :: zI x :: st) w Q := by
  subst hp
  intro E p l e s m args below meth c H locs lz CX hP hS hl
  refine lv_ixor CX.1 CX.2.1 hd ?_
  have h := k E p l e s m args below meth c H locs lz CX hP hS hl
  simp only [zz_xor, List.map_cons, z_cv, Int32.ofInt_toInt] at h
  exact h
theorem z_ishl {M : z_M} {d pc pc' : Nat} {ls : List (Nat × z_V)} {st : List z_V} {w : z_Wd} {Q : Option z_V → z_Wd → Prop} {x y : Int} (hd : decode M.2.1 pc = .ok (.ishl, 1)) (hp : pc + 1 = pc') (k : z_Wp M d pc' ls (zI (zz_shl x y) :: st) (w) Q) : z_Wp M d pc ls (zI y :: zI x :: st) w Q := by
  subst hp
  intro E p l e s m args below meth c H locs lz CX hP hS hl
  refine lv_ishl CX.1 CX.2.1 hd ?_
  have h := k E p l e s m args below meth c H locs lz CX hP hS hl
  simp only [zz_shl, List.map_cons, z_cv, Int32.ofInt_toInt] at h
  exact h
theorem z_ishr {M : z_M} {d pc pc' : Nat} {ls : List (Nat × z_V)} {st : List z_V} {w : z_Wd} {Q : Option z_V → z_Wd → Prop} {x y : Int} (hd : decode M.2.1 pc = .ok (.ishr, 1)) (hp : pc + 1 = pc') (k : z_Wp M d pc' ls (zI (zz_shr x y) :: st) (w) Q) : z_Wp M d pc ls (zI y :: zI x :: st) w Q := by
  subst hp
  intro E p l e s m args below meth c H locs lz CX hP hS hl
  refine lv_ishr CX.1 CX.2.1 hd ?_
  have h := k E p l e s m args below meth c H locs lz CX hP hS hl
  simp only [zz_shr, List.map_cons, z_cv, Int32.ofInt_toInt] at h
  exact h
theorem z_iushr {M : z_M} {d pc pc' : Nat} {ls : List (Nat × z_V)} {st : List z_V} {w : z_Wd} {Q : Option z_V → z_Wd → Prop} {x y : Int} (hd : decode M.2.1 pc = .ok (.iushr, 1)) (hp : pc + 1 = pc') (k : z_Wp M d pc' ls (zI (zz_ushr x y) :: st) (w) Q) : z_Wp M d pc ls (zI y :: zI x :: st) w Q := by
  subst hp
  intro E p l e s m args below meth c H locs lz CX hP hS hl
  refine lv_iushr CX.1 CX.2.1 hd rfl ?_
  have h := k E p l e s m args below meth c H locs lz CX hP hS hl
  simp only [zz_ushr, List.map_cons, z_cv, Int32.ofInt_toInt] at h
  exact h
theorem z_land {M : z_M} {d pc pc' : Nat} {ls : List (Nat × z_V)} {st : List z_V} {w : z_Wd} {Q : Option z_V → z_Wd → Prop} {x y : Int} (hd : decode M.2.1 pc = .ok (.land, 1)) (hp : pc + 1 = pc') (k : z_Wp M d pc' ls (zJ (zz_land x y) :: st) (w) Q) : z_Wp M d pc ls (zJ y :: zJ x :: st) w Q := by
  subst hp
  intro E p l e s m args below meth c H locs lz CX hP hS hl
  refine lv_land CX.1 CX.2.1 hd ?_
  have h := k E p l e s m args below meth c H locs lz CX hP hS hl
  simp only [zz_land, List.map_cons, z_cv, Int64.ofInt_toInt] at h
  exact h
theorem z_lor {M : z_M} {d pc pc' : Nat} {ls : List (Nat × z_V)} {st : List z_V} {w : z_Wd} {Q : Option z_V → z_Wd → Prop} {x y : Int} (hd : decode M.2.1 pc = .ok (.lor, 1)) (hp : pc + 1 = pc') (k : z_Wp M d pc' ls (zJ (zz_lor x y) :: st) (w) Q) : z_Wp M d pc ls (zJ y :: zJ x :: st) w Q := by
  subst hp
  intro E p l e s m args below meth c H locs lz CX hP hS hl
  refine lv_lor CX.1 CX.2.1 hd ?_
  have h := k E p l e s m args below meth c H locs lz CX hP hS hl
  simp only [zz_lor, List.map_cons, z_cv, Int64.ofInt_toInt] at h
  exact h
theorem z_lushr {M : z_M} {d pc pc' : Nat} {ls : List (Nat × z_V)} {st : List z_V} {w : z_Wd} {Q : Option z_V → z_Wd → Prop} {x y : Int} (hd : decode M.2.1 pc = .ok (.lushr, 1)) (hp : pc + 1 = pc') (k : z_Wp M d pc' ls (zJ (zz_lushr x y) :: st) (w) Q) : z_Wp M d pc ls (zI y :: zJ x :: st) w Q := by
  subst hp
  intro E p l e s m args below meth c H locs lz CX hP hS hl
  refine lv_lushr CX.1 CX.2.1 hd rfl ?_
  have h := k E p l e s m args below meth c H locs lz CX hP hS hl
  simp only [zz_lushr, List.map_cons, z_cv, Int64.ofInt_toInt] at h
  exact h
theorem z_lshl {M : z_M} {d pc pc' : Nat} {ls : List (Nat × z_V)} {st : List z_V} {w : z_Wd} {Q : Option z_V → z_Wd → Prop} {x y : Int} (hd : decode M.2.1 pc = .ok (.lshl, 1)) (hp : pc + 1 = pc') (k : z_Wp M d pc' ls (zJ (zz_lshl x y) :: st) (w) Q) : z_Wp M d pc ls (zI y :: zJ x :: st) w Q := by
  subst hp
  intro E p l e s m args below meth c H locs lz CX hP hS hl
  refine lv_lshl CX.1 CX.2.1 hd rfl ?_
  have h := k E p l e s m args below meth c H locs lz CX hP hS hl
  simp only [zz_lshl, List.map_cons, z_cv, Int64.ofInt_toInt] at h
  exact h
theorem z_ne0 {y : Int} (hy : -2147483648 ≤ y ∧ y < 2147483648) (h0 : y ≠ 0) : ¬ Int32.ofInt y = 0 := fun h => h0 ((z_eq hy z_r0).mp h)
theorem z_lne0 {y : Int} (hy : -9223372036854775808 ≤ y ∧ y < 9223372036854775808) (h0 : y ≠ 0) : ¬ Int64.ofInt y = 0 := fun h => h0 (by
  have h2 : (Int64.ofInt y).toInt = (0 : Int64).toInt := by rw [h]
  rw [z_tj hy] at h2
  exact h2)
theorem z_div {x y : Int} (hx : -2147483648 ≤ x ∧ x < 2147483648) (hy : -2147483648 ≤ y ∧ y < 2147483648) : Int32.ofInt x / Int32.ofInt y = Int32.ofInt (x.tdiv y) := by
  rw [← Int32.toInt_inj, Int32.toInt_div, z_ti hx, z_ti hy, Int32.toInt_ofInt]
theorem z_ldiv' {x y : Int} (hx : -9223372036854775808 ≤ x ∧ x < 9223372036854775808) (hy : -9223372036854775808 ≤ y ∧ y < 9223372036854775808) : Int64.ofInt x / Int64.ofInt y = Int64.ofInt (x.tdiv y) := by
  rw [← Int64.toInt_inj, Int64.toInt_div, z_tj hx, z_tj hy, Int64.toInt_ofInt]
theorem z_mod' {x y : Int} : x - x.tdiv y * y = x.tmod y := by
  have := Int.tmod_add_tdiv_mul x y
  omega
theorem z_idiv {M : z_M} {d pc pc' : Nat} {ls : List (Nat × z_V)} {st : List z_V} {w : z_Wd} {Q : Option z_V → z_Wd → Prop} {x y : Int} (hx : (-2147483648 ≤ x ∧ x < 2147483648)) (hy : (-2147483648 ≤ y ∧ y < 2147483648)) (h0 : y ≠ 0) (hd : decode M.2.1 pc = .ok (.idiv, 1)) (hp : pc + 1 = pc') (k : z_Wp M d pc' ls (zI (x.tdiv y) :: st) (w) Q) : z_Wp M d pc ls (zI y :: zI x :: st) w Q := by
  subst hp
  intro E p l e s m args below meth c H locs lz CX hP hS hl
  refine lv_idiv CX.1 CX.2.1 hd (z_ne0 hy h0) ?_
  rw [z_div hx hy]
  exact k E p l e s m args below meth c H locs lz CX hP hS hl
theorem z_irem {M : z_M} {d pc pc' : Nat} {ls : List (Nat × z_V)} {st : List z_V} {w : z_Wd} {Q : Option z_V → z_Wd → Prop} {x y : Int} (hx : (-2147483648 ≤ x ∧ x < 2147483648)) (hy : (-2147483648 ≤ y ∧ y < 2147483648)) (h0 : y ≠ 0) (hd : decode M.2.1 pc = .ok (.irem, 1)) (hp : pc + 1 = pc') (k : z_Wp M d pc' ls (zI (x.tmod y) :: st) (w) Q) : z_Wp M d pc ls (zI y :: zI x :: st) w Q := by
  subst hp
  intro E p l e s m args below meth c H locs lz CX hP hS hl
  refine lv_irem CX.1 CX.2.1 hd (z_ne0 hy h0) ?_
  rw [z_div hx hy, ← Int32.ofInt_mul, ← Int32.ofInt_sub, z_mod']
  exact k E p l e s m args below meth c H locs lz CX hP hS hl
theorem z_ldiv {M : z_M} {d pc pc' : Nat} {ls : List (Nat × z_V)} {st : List z_V} {w : z_Wd} {Q : Option z_V → z_Wd → Prop} {x y : Int} (hx : (-9223372036854775808 ≤ x ∧ x < 9223372036854775808)) (hy : (-9223372036854775808 ≤ y ∧ y < 9223372036854775808)) (h0 : y ≠ 0) (hd : decode M.2.1 pc = .ok (.ldiv, 1)) (hp : pc + 1 = pc') (k : z_Wp M d pc' ls (zJ (x.tdiv y) :: st) (w) Q) : z_Wp M d pc ls (zJ y :: zJ x :: st) w Q := by
  subst hp
  intro E p l e s m args below meth c H locs lz CX hP hS hl
  refine lv_ldiv CX.1 CX.2.1 hd (z_lne0 hy h0) ?_
  rw [z_ldiv' hx hy]
  exact k E p l e s m args below meth c H locs lz CX hP hS hl
theorem z_lrem {M : z_M} {d pc pc' : Nat} {ls : List (Nat × z_V)} {st : List z_V} {w : z_Wd} {Q : Option z_V → z_Wd → Prop} {x y : Int} (hx : (-9223372036854775808 ≤ x ∧ x < 9223372036854775808)) (hy : (-9223372036854775808 ≤ y ∧ y < 9223372036854775808)) (h0 : y ≠ 0) (hd : decode M.2.1 pc = .ok (.lrem, 1)) (hp : pc + 1 = pc') (k : z_Wp M d pc' ls (zJ (x.tmod y) :: st) (w) Q) : z_Wp M d pc ls (zJ y :: zJ x :: st) w Q := by
  subst hp
  intro E p l e s m args below meth c H locs lz CX hP hS hl
  refine lv_lrem CX.1 CX.2.1 hd (z_lne0 hy h0) ?_
  rw [z_ldiv' hx hy, ← Int64.ofInt_mul, ← Int64.ofInt_sub, z_mod']
  exact k E p l e s m args below meth c H locs lz CX hP hS hl
theorem z_i2l {M : z_M} {d pc pc' : Nat} {ls : List (Nat × z_V)} {st : List z_V} {w : z_Wd} {Q : Option z_V → z_Wd → Prop} {x : Int} (hx : (-2147483648 ≤ x ∧ x < 2147483648)) (hd : decode M.2.1 pc = .ok (.i2l, 1)) (hp : pc + 1 = pc') (k : z_Wp M d pc' ls (zJ x :: st) (w) Q) : z_Wp M d pc ls (zI x :: st) w Q := by
  subst hp
  intro E p l e s m args below meth c H locs lz CX hP hS hl
  exact lv_i2l CX.1 CX.2.1 hd (by rw [← Int64.toInt_inj, Int32.toInt_toInt64, z_ti hx, z_tj (by omega)]) (k E p l e s m args below meth c H locs lz CX hP hS hl)
theorem z_l2i {M : z_M} {d pc pc' : Nat} {ls : List (Nat × z_V)} {st : List z_V} {w : z_Wd} {Q : Option z_V → z_Wd → Prop} {x : Int} (hd : decode M.2.1 pc = .ok (.l2i, 1)) (hp : pc + 1 = pc') (k : z_Wp M d pc' ls (zI x :: st) (w) Q) : z_Wp M d pc ls (zJ x :: st) w Q := by
  subst hp
  intro E p l e s m args below meth c H locs lz CX hP hS hl
  exact lv_l2i CX.1 CX.2.1 hd Int64.toInt32_ofInt (k E p l e s m args below meth c H locs lz CX hP hS hl)
def z_cmp (x y : Int) : Int := if y < x then 1 else if x = y then 0 else -1
theorem z_cmp' {x y : Int} (hx : -9223372036854775808 ≤ x ∧ x < 9223372036854775808) (hy : -9223372036854775808 ≤ y ∧ y < 9223372036854775808) : lg_cmp (Int64.ofInt x) (Int64.ofInt y) = Int32.ofInt (z_cmp x y) := by
  have h1 : Int64.ofInt y < Int64.ofInt x ↔ y < x := by rw [Int64.lt_iff_toInt_lt, z_tj hx, z_tj hy]
  have h2 : Int64.ofInt x = Int64.ofInt y ↔ x = y := by rw [← Int64.toInt_inj, z_tj hx, z_tj hy]
  unfold lg_cmp z_cmp
  by_cases c1 : y < x
  · simp [c1, h1]
  · by_cases c2 : x = y
    · subst c2
      simp [Int64.lt_irrefl]
    · simp [c1, c2, h1, h2]
theorem z_lcmp {M : z_M} {d pc pc' : Nat} {ls : List (Nat × z_V)} {st : List z_V} {w : z_Wd} {Q : Option z_V → z_Wd → Prop} {x y : Int} (hx : (-9223372036854775808 ≤ x ∧ x < 9223372036854775808)) (hy : (-9223372036854775808 ≤ y ∧ y < 9223372036854775808)) (hd : decode M.2.1 pc = .ok (.lcmp, 1)) (hp : pc + 1 = pc') (k : z_Wp M d pc' ls (zI (z_cmp x y) :: st) (w) Q) : z_Wp M d pc ls (zJ y :: zJ x :: st) w Q := by
  subst hp
  intro E p l e s m args below meth c H locs lz CX hP hS hl
  refine W.lcmp CX.1 CX.2.1 hd ?_
  rw [z_cmp' hx hy]
  exact k E p l e s m args below meth c H locs lz CX hP hS hl
theorem z_dup {M : z_M} {d pc pc' : Nat} {ls : List (Nat × z_V)} {st : List z_V} {w : z_Wd} {Q : Option z_V → z_Wd → Prop} {v : z_V} (hv : z_wd v = 1) (hd : decode M.2.1 pc = .ok (.dup, 1)) (hp : pc + 1 = pc') (k : z_Wp M d pc' ls (v :: v :: st) w Q) : z_Wp M d pc ls (v :: st) w Q := by
  subst hp
  intro E p l e s m args below meth c H locs lz CX hP hS hl
  exact lv_dup CX.1 CX.2.1 hd (by rw [z_cat]; exact hv) (k E p l e s m args below meth c H locs lz CX hP hS hl)
theorem z_pop {M : z_M} {d pc pc' : Nat} {ls : List (Nat × z_V)} {st : List z_V} {w : z_Wd} {Q : Option z_V → z_Wd → Prop} {v : z_V} (hv : z_wd v = 1) (hd : decode M.2.1 pc = .ok (.pop, 1)) (hp : pc + 1 = pc') (k : z_Wp M d pc' ls st w Q) : z_Wp M d pc ls (v :: st) w Q := by
  subst hp
  intro E p l e s m args below meth c H locs lz CX hP hS hl
  exact lv_pop CX.1 CX.2.1 hd (by rw [z_cat]; exact hv) (k E p l e s m args below meth c H locs lz CX hP hS hl)
theorem z_dup2 {M : z_M} {d pc pc' : Nat} {ls : List (Nat × z_V)} {st : List z_V} {w : z_Wd} {Q : Option z_V → z_Wd → Prop} {v u : z_V} (hv : z_wd v = 1) (hu : z_wd u = 1) (hd : decode M.2.1 pc = .ok (.dup2, 1)) (hp : pc + 1 = pc') (k : z_Wp M d pc' ls (v :: u :: v :: u :: st) w Q) : z_Wp M d pc ls (v :: u :: st) w Q := by
  subst hp
  intro E p l e s m args below meth c H locs lz CX hP hS hl
  exact lv_dup2_11 CX.1 CX.2.1 hd (by rw [z_cat]; exact hv) (by rw [z_cat]; exact hu) (k E p l e s m args below meth c H locs lz CX hP hS hl)
theorem z_if_eq {M : z_M} {d pc pc' : Nat} {ls : List (Nat × z_V)} {st : List z_V} {w : z_Wd} {Q : Option z_V → z_Wd → Prop} {x : Int} {off : Int} (tgt : Nat) (hd : decode M.2.1 pc = .ok (.ifCond .eq off, 3)) (ht : (pc : Int) + off = (tgt : Int)) (hp : pc + 3 = pc') (hx : (-2147483648 ≤ x ∧ x < 2147483648)) (kt : x = 0 → z_Wp M d tgt ls st w Q) (kf : ¬ x = 0 → z_Wp M d pc' ls st w Q) : z_Wp M d pc ls (zI x :: st) w Q := by
  subst hp
  intro E p l e s m args below meth c H locs lz CX hP hS hl
  refine lv_if_eq (tgt := tgt) CX.1 CX.2.1 hd ht (fun q => ?_) (fun q => ?_)
  · exact kt (by have h9 := z_eq hx z_r0; exact h9.mp q) E p l e s m args below meth c H locs lz CX hP hS hl
  · exact kf (by have h9 := z_eq hx z_r0; exact fun z => q (h9.mpr z)) E p l e s m args below meth c H locs lz CX hP hS hl
theorem z_icmp_eq {M : z_M} {d pc pc' : Nat} {ls : List (Nat × z_V)} {st : List z_V} {w : z_Wd} {Q : Option z_V → z_Wd → Prop} {x y : Int} {off : Int} (tgt : Nat) (hd : decode M.2.1 pc = .ok (.if_icmp .eq off, 3)) (ht : (pc : Int) + off = (tgt : Int)) (hp : pc + 3 = pc') (hx : (-2147483648 ≤ x ∧ x < 2147483648)) (hy : (-2147483648 ≤ y ∧ y < 2147483648)) (kt : x = y → z_Wp M d tgt ls st w Q) (kf : ¬ x = y → z_Wp M d pc' ls st w Q) : z_Wp M d pc ls (zI y :: zI x :: st) w Q := by
  subst hp
  intro E p l e s m args below meth c H locs lz CX hP hS hl
  refine lv_icmp_eq (tgt := tgt) CX.1 CX.2.1 hd ht (fun q => ?_) (fun q => ?_)
  · exact kt (by have h9 := z_eq hx hy; exact h9.mp q) E p l e s m args below meth c H locs lz CX hP hS hl
  · exact kf (by have h9 := z_eq hx hy; exact fun z => q (h9.mpr z)) E p l e s m args below meth c H locs lz CX hP hS hl
theorem z_if_ne {M : z_M} {d pc pc' : Nat} {ls : List (Nat × z_V)} {st : List z_V} {w : z_Wd} {Q : Option z_V → z_Wd → Prop} {x : Int} {off : Int} (tgt : Nat) (hd : decode M.2.1 pc = .ok (.ifCond .ne off, 3)) (ht : (pc : Int) + off = (tgt : Int)) (hp : pc + 3 = pc') (hx : (-2147483648 ≤ x ∧ x < 2147483648)) (kt : ¬ x = 0 → z_Wp M d tgt ls st w Q) (kf : x = 0 → z_Wp M d pc' ls st w Q) : z_Wp M d pc ls (zI x :: st) w Q := by
  subst hp
  intro E p l e s m args below meth c H locs lz CX hP hS hl
  refine lv_if_ne (tgt := tgt) CX.1 CX.2.1 hd ht (fun q => ?_) (fun q => ?_)
  · exact kt (by have h9 := z_eq hx z_r0; exact fun z => q (h9.mpr z)) E p l e s m args below meth c H locs lz CX hP hS hl
  · exact kf (by have h9 := z_eq hx z_r0; exact h9.mp q) E p l e s m args below meth c H locs lz CX hP hS hl
theorem z_icmp_ne {M : z_M} {d pc pc' : Nat} {ls : List (Nat × z_V)} {st : List z_V} {w : z_Wd} {Q : Option z_V → z_Wd → Prop} {x y : Int} {off : Int} (tgt : Nat) (hd : decode M.2.1 pc = .ok (.if_icmp .ne off, 3)) (ht : (pc : Int) + off = (tgt : Int)) (hp : pc + 3 = pc') (hx : (-2147483648 ≤ x ∧ x < 2147483648)) (hy : (-2147483648 ≤ y ∧ y < 2147483648)) (kt : ¬ x = y → z_Wp M d tgt ls st w Q) (kf : x = y → z_Wp M d pc' ls st w Q) : z_Wp M d pc ls (zI y :: zI x :: st) w Q := by
  subst hp
  intro E p l e s m args below meth c H locs lz CX hP hS hl
  refine lv_icmp_ne (tgt := tgt) CX.1 CX.2.1 hd ht (fun q => ?_) (fun q => ?_)
  · exact kt (by have h9 := z_eq hx hy; exact fun z => q (h9.mpr z)) E p l e s m args below meth c H locs lz CX hP hS hl
  · exact kf (by have h9 := z_eq hx hy; exact h9.mp q) E p l e s m args below meth c H locs lz CX hP hS hl
theorem z_if_lt {M : z_M} {d pc pc' : Nat} {ls : List (Nat × z_V)} {st : List z_V} {w : z_Wd} {Q : Option z_V → z_Wd → Prop} {x : Int} {off : Int} (tgt : Nat) (hd : decode M.2.1 pc = .ok (.ifCond .lt off, 3)) (ht : (pc : Int) + off = (tgt : Int)) (hp : pc + 3 = pc') (hx : (-2147483648 ≤ x ∧ x < 2147483648)) (kt : x < 0 → z_Wp M d tgt ls st w Q) (kf : ¬ x < 0 → z_Wp M d pc' ls st w Q) : z_Wp M d pc ls (zI x :: st) w Q := by
  subst hp
  intro E p l e s m args below meth c H locs lz CX hP hS hl
  refine lv_if_lt (tgt := tgt) CX.1 CX.2.1 hd ht (fun q => ?_) (fun q => ?_)
  · exact kt (by have h9 := z_lt hx z_r0; exact h9.mp q) E p l e s m args below meth c H locs lz CX hP hS hl
  · exact kf (by have h9 := z_lt hx z_r0; exact fun z => q (h9.mpr z)) E p l e s m args below meth c H locs lz CX hP hS hl
theorem z_icmp_lt {M : z_M} {d pc pc' : Nat} {ls : List (Nat × z_V)} {st : List z_V} {w : z_Wd} {Q : Option z_V → z_Wd → Prop} {x y : Int} {off : Int} (tgt : Nat) (hd : decode M.2.1 pc = .ok (.if_icmp .lt off, 3)) (ht : (pc : Int) + off = (tgt : Int)) (hp : pc + 3 = pc') (hx : (-2147483648 ≤ x ∧ x < 2147483648)) (hy : (-2147483648 ≤ y ∧ y < 2147483648)) (kt : x < y → z_Wp M d tgt ls st w Q) (kf : ¬ x < y → z_Wp M d pc' ls st w Q) : z_Wp M d pc ls (zI y :: zI x :: st) w Q := by
  subst hp
  intro E p l e s m args below meth c H locs lz CX hP hS hl
  refine lv_icmp_lt (tgt := tgt) CX.1 CX.2.1 hd ht (fun q => ?_) (fun q => ?_)
  · exact kt (by have h9 := z_lt hx hy; exact h9.mp q) E p l e s m args below meth c H locs lz CX hP hS hl
  · exact kf (by have h9 := z_lt hx hy; exact fun z => q (h9.mpr z)) E p l e s m args below meth c H locs lz CX hP hS hl
theorem z_if_ge {M : z_M} {d pc pc' : Nat} {ls : List (Nat × z_V)} {st : List z_V} {w : z_Wd} {Q : Option z_V → z_Wd → Prop} {x : Int} {off : Int} (tgt : Nat) (hd : decode M.2.1 pc = .ok (.ifCond .ge off, 3)) (ht : (pc : Int) + off = (tgt : Int)) (hp : pc + 3 = pc') (hx : (-2147483648 ≤ x ∧ x < 2147483648)) (kt : x ≥ 0 → z_Wp M d tgt ls st w Q) (kf : ¬ x ≥ 0 → z_Wp M d pc' ls st w Q) : z_Wp M d pc ls (zI x :: st) w Q := by
  subst hp
  intro E p l e s m args below meth c H locs lz CX hP hS hl
  refine lv_if_ge (tgt := tgt) CX.1 CX.2.1 hd ht (fun q => ?_) (fun q => ?_)
  · exact kt (by have h9 := z_le z_r0 hx; exact h9.mp q) E p l e s m args below meth c H locs lz CX hP hS hl
  · exact kf (by have h9 := z_le z_r0 hx; exact fun z => q (h9.mpr z)) E p l e s m args below meth c H locs lz CX hP hS hl
theorem z_icmp_ge {M : z_M} {d pc pc' : Nat} {ls : List (Nat × z_V)} {st : List z_V} {w : z_Wd} {Q : Option z_V → z_Wd → Prop} {x y : Int} {off : Int} (tgt : Nat) (hd : decode M.2.1 pc = .ok (.if_icmp .ge off, 3)) (ht : (pc : Int) + off = (tgt : Int)) (hp : pc + 3 = pc') (hx : (-2147483648 ≤ x ∧ x < 2147483648)) (hy : (-2147483648 ≤ y ∧ y < 2147483648)) (kt : x ≥ y → z_Wp M d tgt ls st w Q) (kf : ¬ x ≥ y → z_Wp M d pc' ls st w Q) : z_Wp M d pc ls (zI y :: zI x :: st) w Q := by
  subst hp
  intro E p l e s m args below meth c H locs lz CX hP hS hl
  refine lv_icmp_ge (tgt := tgt) CX.1 CX.2.1 hd ht (fun q => ?_) (fun q => ?_)
  · exact kt (by have h9 := z_le hy hx; exact h9.mp q) E p l e s m args below meth c H locs lz CX hP hS hl
  · exact kf (by have h9 := z_le hy hx; exact fun z => q (h9.mpr z)) E p l e s m args below meth c H locs lz CX hP hS hl
theorem z_if_gt {M : z_M} {d pc pc' : Nat} {ls : List (Nat × z_V)} {st : List z_V} {w : z_Wd} {Q : Option z_V → z_Wd → Prop} {x : Int} {off : Int} (tgt : Nat) (hd : decode M.2.1 pc = .ok (.ifCond .gt off, 3)) (ht : (pc : Int) + off = (tgt : Int)) (hp : pc + 3 = pc') (hx : (-2147483648 ≤ x ∧ x < 2147483648)) (kt : x > 0 → z_Wp M d tgt ls st w Q) (kf : ¬ x > 0 → z_Wp M d pc' ls st w Q) : z_Wp M d pc ls (zI x :: st) w Q := by
  subst hp
  intro E p l e s m args below meth c H locs lz CX hP hS hl
  refine lv_if_gt (tgt := tgt) CX.1 CX.2.1 hd ht (fun q => ?_) (fun q => ?_)
  · exact kt (by have h9 := z_lt z_r0 hx; exact h9.mp q) E p l e s m args below meth c H locs lz CX hP hS hl
  · exact kf (by have h9 := z_lt z_r0 hx; exact fun z => q (h9.mpr z)) E p l e s m args below meth c H locs lz CX hP hS hl
theorem z_icmp_gt {M : z_M} {d pc pc' : Nat} {ls : List (Nat × z_V)} {st : List z_V} {w : z_Wd} {Q : Option z_V → z_Wd → Prop} {x y : Int} {off : Int} (tgt : Nat) (hd : decode M.2.1 pc = .ok (.if_icmp .gt off, 3)) (ht : (pc : Int) + off = (tgt : Int)) (hp : pc + 3 = pc') (hx : (-2147483648 ≤ x ∧ x < 2147483648)) (hy : (-2147483648 ≤ y ∧ y < 2147483648)) (kt : x > y → z_Wp M d tgt ls st w Q) (kf : ¬ x > y → z_Wp M d pc' ls st w Q) : z_Wp M d pc ls (zI y :: zI x :: st) w Q := by
  subst hp
  intro E p l e s m args below meth c H locs lz CX hP hS hl
  refine lv_icmp_gt (tgt := tgt) CX.1 CX.2.1 hd ht (fun q => ?_) (fun q => ?_)
  · exact kt (by have h9 := z_lt hy hx; exact h9.mp q) E p l e s m args below meth c H locs lz CX hP hS hl
  · exact kf (by have h9 := z_lt hy hx; exact fun z => q (h9.mpr z)) E p l e s m args below meth c H locs lz CX hP hS hl
theorem z_if_le {M : z_M} {d pc pc' : Nat} {ls : List (Nat × z_V)} {st : List z_V} {w : z_Wd} {Q : Option z_V → z_Wd → Prop} {x : Int} {off : Int} (tgt : Nat) (hd : decode M.2.1 pc = .ok (.ifCond .le off, 3)) (ht : (pc : Int) + off = (tgt : Int)) (hp : pc + 3 = pc') (hx : (-2147483648 ≤ x ∧ x < 2147483648)) (kt : x ≤ 0 → z_Wp M d tgt ls st w Q) (kf : ¬ x ≤ 0 → z_Wp M d pc' ls st w Q) : z_Wp M d pc ls (zI x :: st) w Q := by
  subst hp
  intro E p l e s m args below meth c H locs lz CX hP hS hl
  refine lv_if_le (tgt := tgt) CX.1 CX.2.1 hd ht (fun q => ?_) (fun q => ?_)
  · exact kt (by have h9 := z_le hx z_r0; exact h9.mp q) E p l e s m args below meth c H locs lz CX hP hS hl
  · exact kf (by have h9 := z_le hx z_r0; exact fun z => q (h9.mpr z)) E p l e s m args below meth c H locs lz CX hP hS hl
theorem z_icmp_le {M : z_M} {d pc pc' : Nat} {ls : List (Nat × z_V)} {st : List z_V} {w : z_Wd} {Q : Option z_V → z_Wd → Prop} {x y : Int} {off : Int} (tgt : Nat) (hd : decode M.2.1 pc = .ok (.if_icmp .le off, 3)) (ht : (pc : Int) + off = (tgt : Int)) (hp : pc + 3 = pc') (hx : (-2147483648 ≤ x ∧ x < 2147483648)) (hy : (-2147483648 ≤ y ∧ y < 2147483648)) (kt : x ≤ y → z_Wp M d tgt ls st w Q) (kf : ¬ x ≤ y → z_Wp M d pc' ls st w Q) : z_Wp M d pc ls (zI y :: zI x :: st) w Q := by
  subst hp
  intro E p l e s m args below meth c H locs lz CX hP hS hl
  refine lv_icmp_le (tgt := tgt) CX.1 CX.2.1 hd ht (fun q => ?_) (fun q => ?_)
  · exact kt (by have h9 := z_le hx hy; exact h9.mp q) E p l e s m args below meth c H locs lz CX hP hS hl
  · exact kf (by have h9 := z_le hx hy; exact fun z => q (h9.mpr z)) E p l e s m args below meth c H locs lz CX hP hS hl
theorem z_goto {M : z_M} {d pc : Nat} {ls : List (Nat × z_V)} {st : List z_V} {w : z_Wd} {Q : Option z_V → z_Wd → Prop} {off : Int} (tgt : Nat) (hd : decode M.2.1 pc = .ok (.goto off, 3)) (ht : (pc : Int) + off = (tgt : Int)) (k : z_Wp M d tgt ls st w Q) : z_Wp M d pc ls st w Q := by
  intro E p l e s m args below meth c H locs lz CX hP hS hl
  exact lv_goto (tgt := tgt) CX.1 CX.2.1 hd ht (k E p l e s m args below meth c H locs lz CX hP hS hl)
def z_sw (pc : Nat) (dflt x : Int) (P : Nat → Prop) : List (Int × Int) → Prop
  | [] => ∃ tgt : Nat, (pc : Int) + dflt = (tgt : Int) ∧ P tgt
  | (a, o) :: r => (x = a → ∃ tgt : Nat, (pc : Int) + o = (tgt : Int) ∧ P tgt) ∧ (x ≠ a → z_sw pc dflt x P r)
theorem z_sw_off {pc : Nat} {dflt x : Int} {P : Nat → Prop} : ∀ (ps : List (Int × Int)), z_sw pc dflt x P ps → ∃ tgt : Nat, (pc : Int) + Op.lookupswitch.offset ps dflt x = (tgt : Int) ∧ P tgt
  | [], h => h
  | (a, o) :: r, h => by
    by_cases c : x = a
    · have e : Op.lookupswitch.offset ((a, o) :: r) dflt x = o := by simp [Op.lookupswitch.offset, c]
      rw [e]
      exact h.1 c
    · have e : Op.lookupswitch.offset ((a, o) :: r) dflt x = Op.lookupswitch.offset r dflt x := by simp [Op.lookupswitch.offset, Ne.symm c]
      rw [e]
      exact z_sw_off r (h.2 c)
theorem z_lookup {M : z_M} {d pc len : Nat} {ls : List (Nat × z_V)} {st : List z_V} {w : z_Wd} {Q : Option z_V → z_Wd → Prop} {dflt x : Int} {ps : Array (Int × Int)} (hd : decode M.2.1 pc = .ok (.lookupswitch dflt ps, len)) (hso : (ps.toList.zip (ps.toList.drop 1)).all (fun (a, next) => a.1 < next.1) = true) (hx : (-2147483648 ≤ x ∧ x < 2147483648)) (k : z_sw pc dflt x (fun tgt => z_Wp M d tgt ls st w Q) ps.toList) : z_Wp M d pc ls (zI x :: st) w Q := by
  intro E p l e s m args below meth c H locs lz CX hP hS hl
  obtain ⟨tgt, h1, h2⟩ := z_sw_off _ k
  exact lv_lookup (off := Op.lookupswitch.offset ps.toList dflt x) (tgt := tgt) CX.1 CX.2.1 hd hso (by rw [z_ti hx]) h1 (h2 E p l e s m args below meth c H locs lz CX hP hS hl)
def z_ts (pc : Nat) (dflt x : Int) (P : Nat → Prop) : Int → List Int → Prop
  | _, [] => ∃ tgt : Nat, (pc : Int) + dflt = (tgt : Int) ∧ P tgt
  | a, o :: r => (x = a → ∃ tgt : Nat, (pc : Int) + o = (tgt : Int) ∧ P tgt) ∧ (x ≠ a → z_ts pc dflt x P (a + 1) r)
theorem z_ts_in {pc : Nat} {dflt x : Int} {P : Nat → Prop} : ∀ (r : List Int) (a : Int), z_ts pc dflt x P a r → (a ≤ x → x < a + r.length → ∃ (o : Int) (tgt : Nat), r[(x - a).toNat]? = some o ∧ (pc : Int) + o = (tgt : Int) ∧ P tgt) ∧ (¬ (a ≤ x ∧ x < a + r.length) → ∃ tgt : Nat, (pc : Int) + dflt = (tgt : Int) ∧ P tgt)
  | [], a, h => ⟨fun h1 h2 => absurd h2 (by simp; omega), fun _ => h⟩
  | o :: r, a, h => by
    obtain ⟨g1, g2⟩ := h
    by_cases c : x = a
    · refine ⟨fun _ _ => ?_, fun z => absurd ⟨by omega, by simp; omega⟩ z⟩
      obtain ⟨tgt, e1, e2⟩ := g1 c
      exact ⟨o, tgt, by rw [c]; simp, e1, e2⟩
    · obtain ⟨i1, i2⟩ := z_ts_in r (a + 1) (g2 c)
      refine ⟨fun h1 h2 => ?_, fun z => i2 (fun y => z ⟨by omega, by simp; omega⟩)⟩
      simp at h2
      obtain ⟨o2, tgt, e1, e2⟩ := i1 (by omega) (by omega)
      refine ⟨o2, tgt, ?_, e2⟩
      have e3 : (x - a).toNat = (x - (a + 1)).toNat + 1 := by omega
      rw [e3, List.getElem?_cons_succ]
      exact e1
theorem z_table {M : z_M} {d pc len : Nat} {ls : List (Nat × z_V)} {st : List z_V} {w : z_Wd} {Q : Option z_V → z_Wd → Prop} {dflt lo hi x : Int} {offs : Array Int} (hd : decode M.2.1 pc = .ok (.tableswitch dflt lo hi offs, len)) (hlen : lo + offs.toList.length = hi + 1) (hx : (-2147483648 ≤ x ∧ x < 2147483648)) (k : z_ts pc dflt x (fun tgt => z_Wp M d tgt ls st w Q) lo offs.toList) : z_Wp M d pc ls (zI x :: st) w Q := by
  intro E p l e s m args below meth c H locs lz CX hP hS hl
  obtain ⟨h1, h2⟩ := z_ts_in _ _ k
  by_cases c9 : lo ≤ x ∧ x < lo + offs.toList.length
  · obtain ⟨o, tgt, e1, e2, e3⟩ := h1 c9.1 c9.2
    exact lv_tableIn (off := o) (tgt := tgt) CX.1 CX.2.1 hd (by rw [z_ti hx]; omega) (by rw [z_ti hx]; omega) (by rw [z_ti hx, ← Array.getElem?_toList]; exact e1) e2 (e3 E p l e s m args below meth c H locs lz CX hP hS hl)
  · obtain ⟨tgt, e2, e3⟩ := h2 c9
    exact lv_tableOut (tgt := tgt) CX.1 CX.2.1 hd (by rw [z_ti hx]; omega) e2 (e3 E p l e s m args below meth c H locs lz CX hP hS hl)
