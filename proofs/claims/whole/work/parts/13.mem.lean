section ZMEM
variable {M : z_M} {d pc pc' : Nat} {ls : List (Nat × z_V)} {st : List z_V} {w : z_Wd} {Q : Option z_V → z_Wd → Prop}
def z_FD (own : String) (idx ci j : Nat) : Prop := ∃ (C : String) (T : u_T) (N : Nat), classes[ci]? = some (C, T, N) ∧ (∀ w ∈ u_ws C T N, w ∈ z_tb) ∧ j < N ∧ Cond.fieldLink own idx (T j).1 (T j).2.1 (T j).2.2.1 ∈ z_tb
def z_FP (own : String) (idx ci j : Nat) (ty : FieldType) : Prop := ∃ (C : String) (T : u_T) (N : Nat) (ty0 : Nat → FieldType), classes[ci]? = some (C, T, N) ∧ (∀ w ∈ u_ws C T N, w ∈ z_tb) ∧ j < N ∧ Cond.fieldLink own idx (T j).1 (T j).2.1 (T j).2.2.1 ∈ z_tb ∧ (∀ k, k < N → parseFieldDescriptor (T k).2.2.1 = some (ty0 k)) ∧ (∀ a, a < N → ∀ b, b < N → a ≠ b → (T a).2.1 ≠ (T b).2.1) ∧ (T j).2.2.2 = false ∧ ty0 j = ty
theorem z_oget {E : z_E} {w : z_Wd} {k ci : Nat} {fs : List Nat} (hk : k < z_N) (hsh : z_sh k = .inl (ci, fs)) : (z_cw E w)[k]? = some (E.2.1 k, .inr (ci, fs.mapIdx (fun j c => z_fv E (w k) j c))) := by
  rw [z_cw_get hk, hsh]
  rfl
theorem z_getI {idx k ci j : Nat} {fs : List Nat} (hF : z_FD M.1.cls idx ci j) (hk : k < z_N) (hsh : z_sh k = .inl (ci, fs)) (hf : fs[j]? = some 0) (hd : decode M.2.1 pc = .ok (.getfield idx, 3)) (hp : pc + 3 = pc') (kk : z_Wp M d pc' ls (zI (w k j) :: st) w Q) : z_Wp M d pc ls (zR k :: st) w Q := by
  subst hp
  intro E p l e s m args below meth c H locs lz CX hP hS hl
  obtain ⟨hx, hb, hr, hml, hown, hts, hG, hinj, hlk⟩ := id CX
  obtain ⟨C, T, N, h1, h2, h3, h4⟩ := hF
  exact va_get (D := E.1) (v := .int (Int32.ofInt (w k j))) hx hb hts h2 hown hG.1 hP k (z_oget hk hsh) h1 j h3 (hts _ h4) (fun _ h => h) (by rw [List.getElem?_mapIdx, hf]; rfl) hd (kk E p l e s m args below meth c H locs lz CX hP hS hl)
theorem z_getJ {idx k ci j : Nat} {fs : List Nat} (hF : z_FD M.1.cls idx ci j) (hk : k < z_N) (hsh : z_sh k = .inl (ci, fs)) (hf : fs[j]? = some 1) (hd : decode M.2.1 pc = .ok (.getfield idx, 3)) (hp : pc + 3 = pc') (kk : z_Wp M d pc' ls (zJ (w k j) :: st) w Q) : z_Wp M d pc ls (zR k :: st) w Q := by
  subst hp
  intro E p l e s m args below meth c H locs lz CX hP hS hl
  obtain ⟨hx, hb, hr, hml, hown, hts, hG, hinj, hlk⟩ := id CX
  obtain ⟨C, T, N, h1, h2, h3, h4⟩ := hF
  exact va_get (D := E.1) (v := .long (Int64.ofInt (w k j))) hx hb hts h2 hown hG.1 hP k (z_oget hk hsh) h1 j h3 (hts _ h4) (fun _ h => h) (by rw [List.getElem?_mapIdx, hf]; rfl) hd (kk E p l e s m args below meth c H locs lz CX hP hS hl)
theorem z_getR {idx k ci j t : Nat} {fs : List Nat} (hF : z_FD M.1.cls idx ci j) (hk : k < z_N) (hsh : z_sh k = .inl (ci, fs)) (hf : fs[j]? = some (t + 2)) (hd : decode M.2.1 pc = .ok (.getfield idx, 3)) (hp : pc + 3 = pc') (kk : z_Wp M d pc' ls (zR t :: st) w Q) : z_Wp M d pc ls (zR k :: st) w Q := by
  subst hp
  intro E p l e s m args below meth c H locs lz CX hP hS hl
  obtain ⟨hx, hb, hr, hml, hown, hts, hG, hinj, hlk⟩ := id CX
  obtain ⟨C, T, N, h1, h2, h3, h4⟩ := hF
  exact va_get (D := E.1) (v := .ref (E.2.1 t)) hx hb hts h2 hown hG.1 hP k (z_oget hk hsh) h1 j h3 (hts _ h4) (fun _ h => h) (by rw [List.getElem?_mapIdx, hf]; rfl) hd (kk E p l e s m args below meth c H locs lz CX hP hS hl)
theorem z_fset {E : z_E} {w : z_Wd} {k j c : Nat} {x : Int} {fs : List Nat} {v : Value} (hf : fs[j]? = some c) (hv : z_fv E (z_up w k j x k) j c = v) : fs.mapIdx (fun j c => z_fv E (z_up w k j x k) j c) = (fs.mapIdx (fun j c => z_fv E (w k) j c)).set j v → True := fun _ => trivial
theorem z_fset' {E : z_E} {g g' : Nat → Int} {j c : Nat} {fs : List Nat} {v : Value} (hf : fs[j]? = some c) (hv : z_fv E g' j c = v) (ho : ∀ i, i ≠ j → g' i = g i) : fs.mapIdx (fun j c => z_fv E g' j c) = (fs.mapIdx (fun j c => z_fv E g j c)).set j v := by
  apply List.ext_getElem?
  intro i
  rw [List.getElem?_set, List.getElem?_mapIdx, List.getElem?_mapIdx]
  by_cases hi : j = i
  · subst hi
    have hlt : j < fs.length := (List.getElem?_eq_some_iff.mp hf).1
    rw [if_pos rfl, if_pos (by rw [List.length_mapIdx]; exact hlt), hf]
    show some (z_fv E g' j c) = some v
    rw [hv]
  · rw [if_neg hi]
    cases h : fs[i]? with
    | none => rfl
    | some c2 =>
      show some (z_fv E g' i c2) = some (z_fv E g i c2)
      have e : g' i = g i := ho i (fun q => hi q.symm)
      congr 1
      unfold z_fv
      split
      · rw [e]
      · rw [e]
      · rfl
theorem z_up_at {w : z_Wd} {k j : Nat} {x : Int} : z_up w k j x k j = x := by simp [z_up]
theorem z_up_ne {w : z_Wd} {k j : Nat} {x : Int} {i : Nat} (h : i ≠ j) : z_up w k j x k i = w k i := by simp [z_up, h]
theorem z_putI {idx k ci j : Nat} {x : Int} {fs : List Nat} {ty : FieldType} (hF : z_FP M.1.cls idx ci j ty) (hk : k < z_N) (hsh : z_sh k = .inl (ci, fs)) (hf : fs[j]? = some 0) (hn : narrow ty (.int (Int32.ofInt x)) = .int (Int32.ofInt x)) (hfit : fits ty (.int (Int32.ofInt x)) = true) (hd : decode M.2.1 pc = .ok (.putfield idx, 3)) (hp : pc + 3 = pc') (kk : z_Wp M d pc' ls st (z_up w k j x) Q) : z_Wp M d pc ls (zI x :: zR k :: st) w Q := by
  subst hp
  intro E p l e s m args below meth c H locs lz CX hP hS hl
  obtain ⟨hx, hb, hr, hml, hown, hts, hG, hinj, hlk⟩ := id CX
  obtain ⟨C, T, N, ty0, h1, h2, h3, h4, h5, h6, h7, h8⟩ := hF
  have hlt : j < fs.length := (List.getElem?_eq_some_iff.mp hf).1
  refine va_put (D := E.1) (ty := ty) (v := .int (Int32.ofInt x)) hx hb hts h2 ty0 h5 h6 hown hG.1 hP (z_D hinj (fun k h => Or.inl ⟨k, h, rfl⟩)) hS k (z_oget hk hsh) h1 j h3 (hts _ h4) (fun _ h => h) h7 (by rw [h5 j h3, h8]) hn hfit (by rw [List.length_mapIdx]; exact hlt) hd (fun H1 locs1 hP1 hD1 hS1 => ?_)
  rw [z_cw_set (w' := z_up w k j x) hk (by rw [hsh]; show (Sum.inr (ci, fs.mapIdx _) : va_E) = _; rw [z_fset' (g := w k) hf (v := .int (Int32.ofInt x)) (by show Value.int (Int32.ofInt (z_up w k j x k j)) = _; rw [z_up_at]) (fun i hi => z_up_ne hi)]) (fun a ha => z_up_other ha)] at hP1
  exact kk E p l e s m args below meth c H1 locs1 lz CX hP1 hS1 hl
theorem z_putJ {idx k ci j : Nat} {x : Int} {fs : List Nat} (hF : z_FP M.1.cls idx ci j .long) (hk : k < z_N) (hsh : z_sh k = .inl (ci, fs)) (hf : fs[j]? = some 1) (hd : decode M.2.1 pc = .ok (.putfield idx, 3)) (hp : pc + 3 = pc') (kk : z_Wp M d pc' ls st (z_up w k j x) Q) : z_Wp M d pc ls (zJ x :: zR k :: st) w Q := by
  subst hp
  intro E p l e s m args below meth c H locs lz CX hP hS hl
  obtain ⟨hx, hb, hr, hml, hown, hts, hG, hinj, hlk⟩ := id CX
  obtain ⟨C, T, N, ty0, h1, h2, h3, h4, h5, h6, h7, h8⟩ := hF
  have hlt : j < fs.length := (List.getElem?_eq_some_iff.mp hf).1
  refine va_put (D := E.1) (ty := .long) (v := .long (Int64.ofInt x)) hx hb hts h2 ty0 h5 h6 hown hG.1 hP (z_D hinj (fun k h => Or.inl ⟨k, h, rfl⟩)) hS k (z_oget hk hsh) h1 j h3 (hts _ h4) (fun _ h => h) h7 (by rw [h5 j h3, h8]) rfl rfl (by rw [List.length_mapIdx]; exact hlt) hd (fun H1 locs1 hP1 hD1 hS1 => ?_)
  rw [z_cw_set (w' := z_up w k j x) hk (by rw [hsh]; show (Sum.inr (ci, fs.mapIdx _) : va_E) = _; rw [z_fset' (g := w k) hf (v := .long (Int64.ofInt x)) (by show Value.long (Int64.ofInt (z_up w k j x k j)) = _; rw [z_up_at]) (fun i hi => z_up_ne hi)]) (fun a ha => z_up_other ha)] at hP1
  exact kk E p l e s m args below meth c H1 locs1 lz CX hP1 hS1 hl
theorem z_iald {k n : Nat} {i : Int} {rs : List Nat} (hk : k < z_N) (hsh : z_sh k = .inr (0, n, rs)) (hi : 0 ≤ i ∧ i < n) (hn : n ≤ 100000) (hd : decode M.2.1 pc = .ok (.iaload, 1)) (hp : pc + 1 = pc') (kk : z_Wp M d pc' ls (zI (w k i.toNat) :: st) w Q) : z_Wp M d pc ls (zI i :: zR k :: st) w Q := by
  subst hp
  intro E p l e s m args below meth c H locs lz CX hP hS hl
  obtain ⟨hx, hb, hr, hml, hown, hts, hG, hinj, hlk⟩ := id CX
  have hg : (z_cw E w)[k]? = some (E.2.1 k, .inl (E.2.2 0, n, .inl (fun j => Int32.ofInt (w k j)))) := by
    rw [z_cw_get hk, hsh]
    rfl
  obtain ⟨h1, h2⟩ := z_inn hi hn
  refine va_iald (D := E.1) hx hb hG.1 hP k 0 hg rfl h1 hd ?_
  rw [h2]
  exact kk E p l e s m args below meth c H locs lz CX hP hS hl
theorem z_lald {k n : Nat} {i : Int} {rs : List Nat} (hk : k < z_N) (hsh : z_sh k = .inr (2, n, rs)) (hi : 0 ≤ i ∧ i < n) (hn : n ≤ 100000) (hd : decode M.2.1 pc = .ok (.laload, 1)) (hp : pc + 1 = pc') (kk : z_Wp M d pc' ls (zJ (w k i.toNat) :: st) w Q) : z_Wp M d pc ls (zI i :: zR k :: st) w Q := by
  subst hp
  intro E p l e s m args below meth c H locs lz CX hP hS hl
  obtain ⟨hx, hb, hr, hml, hown, hts, hG, hinj, hlk⟩ := id CX
  have hg : (z_cw E w)[k]? = some (E.2.1 k, .inl (E.2.2 2, n, .inr (.inl (fun j => Int64.ofInt (w k j))))) := by
    rw [z_cw_get hk, hsh]
    rfl
  obtain ⟨h1, h2⟩ := z_inn hi hn
  refine va_lald (D := E.1) hx hb hG.1 hP k 2 hg rfl h1 hd ?_
  rw [h2]
  exact kk E p l e s m args below meth c H locs lz CX hP hS hl
theorem z_aald {k n t : Nat} {i : Int} {rs : List Nat} (hk : k < z_N) (hsh : z_sh k = .inr (1, n, rs)) (hi : 0 ≤ i ∧ i < n) (hn : n ≤ 100000) (ht : rs[i.toNat]? = some t) (hd : decode M.2.1 pc = .ok (.aaload, 1)) (hp : pc + 1 = pc') (kk : z_Wp M d pc' ls (zR t :: st) w Q) : z_Wp M d pc ls (zI i :: zR k :: st) w Q := by
  subst hp
  intro E p l e s m args below meth c H locs lz CX hP hS hl
  obtain ⟨hx, hb, hr, hml, hown, hts, hG, hinj, hlk⟩ := id CX
  have hg : (z_cw E w)[k]? = some (E.2.1 k, .inl (E.2.2 1, n, .inr (.inr (.inr (.inr (fun j => (rs[j]?).map E.2.1)))))) := by
    rw [z_cw_get hk, hsh]
    rfl
  obtain ⟨h1, h2⟩ := z_inn hi hn
  refine va_aldq (D := E.1) hx hb hG.1 hP k 1 hg rfl h1 hd ?_
  rw [h2, ht]
  exact kk E p l e s m args below meth c H locs lz CX hP hS hl
theorem z_alen {k n : Nat} {rs : List Nat} (hk : k < z_N) (hsh : z_sh k = .inr (0, n, rs)) (hd : decode M.2.1 pc = .ok (.arraylength, 1)) (hp : pc + 1 = pc') (kk : z_Wp M d pc' ls (zI (n : Int) :: st) w Q) : z_Wp M d pc ls (zR k :: st) w Q := by
  subst hp
  intro E p l e s m args below meth c H locs lz CX hP hS hl
  obtain ⟨hx, hb, hr, hml, hown, hts, hG, hinj, hlk⟩ := id CX
  have hg : (z_cw E w)[k]? = some (E.2.1 k, .inl (E.2.2 0, n, .inl (fun j => Int32.ofInt (w k j)))) := by
    rw [z_cw_get hk, hsh]
    rfl
  exact va_alen (D := E.1) hx hb hG.1 hP k 0 hg rfl (v := Int32.ofInt (n : Int)) (by rw [Int32.ofInt_eq_ofNat]) hd (kk E p l e s m args below meth c H locs lz CX hP hS hl)
theorem z_iast {k n : Nat} {i x : Int} {rs : List Nat} (hk : k < z_N) (hsh : z_sh k = .inr (0, n, rs)) (hi : 0 ≤ i ∧ i < n) (hn : n ≤ 100000) (hd : decode M.2.1 pc = .ok (.iastore, 1)) (hp : pc + 1 = pc') (kk : z_Wp M d pc' ls st (z_up w k i.toNat x) Q) : z_Wp M d pc ls (zI x :: zI i :: zR k :: st) w Q := by
  subst hp
  intro E p l e s m args below meth c H locs lz CX hP hS hl
  obtain ⟨hx, hb, hr, hml, hown, hts, hG, hinj, hlk⟩ := id CX
  have hg : (z_cw E w)[k]? = some (E.2.1 k, .inl (E.2.2 0, n, .inl (fun j => Int32.ofInt (w k j)))) := by
    rw [z_cw_get hk, hsh]
    rfl
  obtain ⟨h1, h2⟩ := z_inn hi hn
  refine va_iast (D := E.1) hx hb hG.1 hP (z_D hinj (fun k h => Or.inl ⟨k, h, rfl⟩)) hS k 0 hg rfl h1 hd (fun H1 locs1 hP1 hD1 hS1 => ?_)
  rw [h2, z_cw_set (w' := z_up w k i.toNat x) hk (by
    rw [hsh]
    show (Sum.inl (E.2.2 0, n, .inl (fun j => Int32.ofInt (z_up w k i.toNat x k j))) : va_E) = _
    congr 4
    funext q
    by_cases hq : q = i.toNat
    · subst hq
      simp [upd, z_up]
    · simp [upd, z_up, hq]) (fun a ha => z_up_other ha)] at hP1
  exact kk E p l e s m args below meth c H1 locs1 lz CX hP1 hS1 hl
theorem z_last {k n : Nat} {i x : Int} {rs : List Nat} (hk : k < z_N) (hsh : z_sh k = .inr (2, n, rs)) (hi : 0 ≤ i ∧ i < n) (hn : n ≤ 100000) (hd : decode M.2.1 pc = .ok (.lastore, 1)) (hp : pc + 1 = pc') (kk : z_Wp M d pc' ls st (z_up w k i.toNat x) Q) : z_Wp M d pc ls (zJ x :: zI i :: zR k :: st) w Q := by
  subst hp
  intro E p l e s m args below meth c H locs lz CX hP hS hl
  obtain ⟨hx, hb, hr, hml, hown, hts, hG, hinj, hlk⟩ := id CX
  have hg : (z_cw E w)[k]? = some (E.2.1 k, .inl (E.2.2 2, n, .inr (.inl (fun j => Int64.ofInt (w k j))))) := by
    rw [z_cw_get hk, hsh]
    rfl
  obtain ⟨h1, h2⟩ := z_inn hi hn
  refine va_last (D := E.1) hx hb hG.1 hP (z_D hinj (fun k h => Or.inl ⟨k, h, rfl⟩)) hS k 2 hg rfl h1 hd (fun H1 locs1 hP1 hD1 hS1 => ?_)
  rw [h2, z_cw_set (w' := z_up w k i.toNat x) hk (by
    rw [hsh]
    show (Sum.inl (E.2.2 2, n, .inr (.inl (fun j => Int64.ofInt (z_up w k i.toNat x k j)))) : va_E) = _
    congr 5
    funext q
    by_cases hq : q = i.toNat
    · subst hq
      simp [vp_updL, z_up]
    · simp [vp_updL, z_up, hq]) (fun a ha => z_up_other ha)] at hP1
  exact kk E p l e s m args below meth c H1 locs1 lz CX hP1 hS1 hl
/-- a static array's contents -/
def z_sc (i j : Nat) : Int := match z_sts[i]? with
  | some q => q.2.2.2.2.getD j 0
  | none => 0
theorem z_gets {idx i : Nat} {q : z_T} (hq : z_sts[i]? = some q) (hl : Cond.fieldLink M.1.cls idx q.1 q.2.1 q.2.2.1 ∈ z_tb) (hd : decode M.2.1 pc = .ok (.getstatic idx, 3)) (hp : pc + 3 = pc') (kk : z_Wp M d pc' ls (zR (200 + i) :: st) w Q) : z_Wp M d pc ls st w Q := by
  subst hp
  intro E p l e s m args below meth c H locs lz CX hP hS hl2
  obtain ⟨hx, hb, hr, hml, hown, hts, hG, hinj, hlk⟩ := id CX
  exact va_gets hx hb (hG.2 i q hq).1 hS hown (hts _ hl) (fun _ h => h) hd (kk E p l e s m args below meth c H locs lz CX hP hS hl2)
theorem z_ials {i : Nat} {x : Int} {q : z_T} (hq : z_sts[i]? = some q) (ht : q.2.2.2.1 = .int) (hi : 0 ≤ x ∧ x < q.2.2.2.2.length) (hn : q.2.2.2.2.length ≤ 100000) (hd : decode M.2.1 pc = .ok (.iaload, 1)) (hp : pc + 1 = pc') (kk : z_Wp M d pc' ls (zI (z_sc i x.toNat) :: st) w Q) : z_Wp M d pc ls (zI x :: zR (200 + i) :: st) w Q := by
  subst hp
  intro E p l e s m args below meth c H locs lz CX hP hS hl2
  obtain ⟨hx, hb, hr, hml, hown, hts, hG, hinj, hlk⟩ := id CX
  obtain ⟨h1, h2⟩ := z_inn hi hn
  have hT := (hG.2 i q hq).2
  rw [ht] at hT
  exact va_ti hx hb hT hS h1 (v := .int (Int32.ofInt (z_sc i x.toNat))) (by rw [h2]; unfold z_sc; rw [hq]) hd (kk E p l e s m args below meth c H locs lz CX hP hS hl2)
theorem z_cals {i : Nat} {x : Int} {q : z_T} (hq : z_sts[i]? = some q) (ht : q.2.2.2.1 = .char) (hi : 0 ≤ x ∧ x < q.2.2.2.2.length) (hn : q.2.2.2.2.length ≤ 100000) (hd : decode M.2.1 pc = .ok (.caload, 1)) (hp : pc + 1 = pc') (kk : z_Wp M d pc' ls (zI (z_sc i x.toNat) :: st) w Q) : z_Wp M d pc ls (zI x :: zR (200 + i) :: st) w Q := by
  subst hp
  intro E p l e s m args below meth c H locs lz CX hP hS hl2
  obtain ⟨hx, hb, hr, hml, hown, hts, hG, hinj, hlk⟩ := id CX
  obtain ⟨h1, h2⟩ := z_inn hi hn
  have hT := (hG.2 i q hq).2
  rw [ht] at hT
  exact va_tc hx hb hT hS h1 (v := .int (Int32.ofInt (z_sc i x.toNat))) (by rw [h2]; unfold z_sc; rw [hq]) hd (kk E p l e s m args below meth c H locs lz CX hP hS hl2)
theorem z_alens {i : Nat} {q : z_T} {v : Int} (hq : z_sts[i]? = some q) (hv : ((q.2.2.2.2.length : Nat) : Int) = v) (hd : decode M.2.1 pc = .ok (.arraylength, 1)) (hp : pc + 1 = pc') (kk : z_Wp M d pc' ls (zI v :: st) w Q) : z_Wp M d pc ls (zR (200 + i) :: st) w Q := by
  subst hp
  subst hv
  intro E p l e s m args below meth c H locs lz CX hP hS hl2
  obtain ⟨hx, hb, hr, hml, hown, hts, hG, hinj, hlk⟩ := id CX
  exact va_tlen hx hb (hG.2 i q hq).2 hS (v := Int32.ofInt ((q.2.2.2.2.length : Nat) : Int)) (by rw [Int32.ofInt_eq_ofNat]) hd (kk E p l e s m args below meth c H locs lz CX hP hS hl2)
theorem z_iret {x : Int} (hr : M.2.2.2 = some .int) (hd : decode M.2.1 pc = .ok (.ireturn, 1)) (k : Q (some (zI x)) w) : z_Wp M d pc ls [zI x] w Q := by
  intro E p l e s m args below meth c H locs lz CX hP hS hl
  exact W.iret (v := Int32.ofInt x) CX.1 CX.2.1 (CX.2.2.1.trans hr) (fun t ht hW => ⟨⟨some (zI x), w, rfl, k, by rw [ht]; exact hP⟩, hS.F ht⟩) hS.2.2 hd (hlocks := CX.2.2.2.2.2.2.2.2)
theorem z_zret {x : Int} (hr : M.2.2.2 = some .boolean) (hx : x = 0 ∨ x = 1) (hd : decode M.2.1 pc = .ok (.ireturn, 1)) (k : Q (some (zI x)) w) : z_Wp M d pc ls [zI x] w Q := by
  intro E p l e s m args below meth c H locs lz CX hP hS hl
  exact W.zret (v := Int32.ofInt x) CX.1 CX.2.1 (CX.2.2.1.trans hr) (by rcases hx with rfl | rfl <;> rfl) (fun t ht hW => ⟨⟨some (zI x), w, rfl, k, by rw [ht]; exact hP⟩, hS.F ht⟩) hS.2.2 hd (hlocks := CX.2.2.2.2.2.2.2.2)
theorem z_lret {x : Int} (hr : M.2.2.2 = some .long) (hd : decode M.2.1 pc = .ok (.lreturn, 1)) (k : Q (some (zJ x)) w) : z_Wp M d pc ls [zJ x] w Q := by
  intro E p l e s m args below meth c H locs lz CX hP hS hl
  exact W.lret (v := Int64.ofInt x) CX.1 CX.2.1 (CX.2.2.1.trans hr) (fun t ht hW => ⟨⟨some (zJ x), w, rfl, k, by rw [ht]; exact hP⟩, hS.F ht⟩) hS.2.2 hd (hlocks := CX.2.2.2.2.2.2.2.2)
theorem z_vret (hr : M.2.2.2 = none) (hd : decode M.2.1 pc = .ok (.return_, 1)) (k : Q none w) : z_Wp M d pc ls [] w Q := by
  intro E p l e s m args below meth c H locs lz CX hP hS hl
  exact W.vret CX.1 CX.2.1 (CX.2.2.1.trans hr) (fun t ht hW => ⟨⟨none, w, rfl, k, by rw [ht]; exact hP⟩, hS.F ht⟩) hS.2.2 hd (hlocks := CX.2.2.2.2.2.2.2.2)
theorem z_aret {x : Nat} {C : String} (hr : M.2.2.2 = some (.object C)) (hd : decode M.2.1 pc = .ok (.areturn, 1)) (k : Q (some (zR x)) w) : z_Wp M d pc ls [zR x] w Q := by
  intro E p l e s m args below meth c H locs lz CX hP hS hl
  exact W.aret (v := .ref (E.2.1 x)) CX.1 CX.2.1 (CX.2.2.1.trans hr) (Or.inl ⟨C, rfl⟩) (Or.inr ⟨_, rfl⟩) (fun t ht hW => ⟨⟨some (zR x), w, rfl, k, by rw [ht]; exact hP⟩, hS.F ht⟩) hS.2.2 hd (hlocks := CX.2.2.2.2.2.2.2.2)
def z_cpy (w : z_Wd) (k0 sp k1 dp n : Nat) : z_Wd := fun a b => if a = k1 then (if dp ≤ b ∧ b < dp + n then w k0 (sp + (b - dp)) else w a b) else w a b
theorem z_copy {idx k0 k1 n0 n1 : Nat} {rs0 rs1 : List Nat} {sp dp n : Int} (hl : Cond.methodLink M.1.cls idx arraycopyName ∈ z_tb) (hna : Cond.native arraycopyName ∈ z_tb) (hst : Cond.static arraycopyName ∈ z_tb) (hin : Cond.initialized "java/lang/System" ∈ z_tb) (hk0 : k0 < z_N) (hk1 : k1 < z_N) (hs0 : z_sh k0 = .inr (0, n0, rs0)) (hs1 : z_sh k1 = .inr (0, n1, rs1)) (h0 : n0 ≤ 100000) (h1 : n1 ≤ 100000) (hsp : 0 ≤ sp) (hdp : 0 ≤ dp) (hn : 0 ≤ n) (hb0 : sp + n ≤ n0) (hb1 : dp + n ≤ n1) (hw : (st.map z_wd).sum ≤ 8) (hd : decode M.2.1 pc = .ok (.invokestatic idx, 3)) (hp : pc + 3 = pc')
    (kk : z_Wp M d pc' ls st (z_cpy w k0 sp.toNat k1 dp.toNat n.toNat) Q) : z_Wp M d pc ls (zI n :: zI dp :: zR k1 :: zI sp :: zR k0 :: st) w Q := by
  subst hp
  intro E p l e s m args below meth c H locs lz CX hP hS hl2
  obtain ⟨hx, hb, hr, hml, hown, hts, hG, hinj, hlk⟩ := id CX
  have t1 : (Int32.ofInt sp).toInt = sp := z_ti (by omega)
  have t2 : (Int32.ofInt dp).toInt = dp := z_ti (by omega)
  have t3 : (Int32.ofInt n).toInt = n := z_ti (by omega)
  have c1 : (Int32.ofInt sp).toNatClampNeg = sp.toNat := by show (Int32.ofInt sp).toInt.toNat = _; rw [t1]
  have c2 : (Int32.ofInt dp).toNatClampNeg = dp.toNat := by show (Int32.ofInt dp).toInt.toNat = _; rw [t2]
  have c3 : (Int32.ofInt n).toNatClampNeg = n.toNat := by show (Int32.ofInt n).toInt.toNat = _; rw [t3]
  have neg : ∀ z : Int, (Int32.ofInt z).toInt = z → 0 ≤ z → ¬ Int32.ofInt z < 0 := fun z e1 e2 h => by
    have h3 := Int32.lt_iff_toInt_lt.mp h
    rw [e1] at h3
    have : (0 : Int32).toInt = 0 := rfl
    omega
  have hg0 : (z_cw E w)[k0]? = some (E.2.1 k0, .inl (E.2.2 0, n0, .inl (fun j => Int32.ofInt (w k0 j)))) := by
    rw [z_cw_get hk0, hs0]
    rfl
  have hg1 : (z_cw E w)[k1]? = some (E.2.1 k1, .inl (E.2.2 0, n1, .inl (fun j => Int32.ofInt (w k1 j)))) := by
    rw [z_cw_get hk1, hs1]
    rfl
  have hnw : nativeFrameWords "java/lang/System" "arraycopy" 5 + 11 ≤ 56 := by decide
  refine va_copyi (D := E.1) (ty := .int) hx hb (hml.trans hl2.1.symm) hown (hts _ hl) (hts _ hna) (hts _ hst) (hts _ hin) hG.1 hP (z_D hinj (fun k h => Or.inl ⟨k, h, rfl⟩)) hS k0 k1 0 0 hg0 hg1 rfl rfl rfl (neg sp t1 hsp) (neg dp t2 hdp) (neg n t3 hn) (by rw [c1, c3]; omega) (by rw [c2, c3]; omega) (fun i _ => rfl) (by show 1 ≤ d + 1; omega) (by rw [z_sum]; show _ ≤ 64 * (d + 1); omega) hd (fun H1 locs1 hP1 hD1 hS1 => ?_)
  rw [c1, c2, c3, z_cw_set (w' := z_cpy w k0 sp.toNat k1 dp.toNat n.toNat) hk1 (by
    rw [hs1]
    show (Sum.inl (E.2.2 0, n1, .inl (fun j => Int32.ofInt (z_cpy w k0 sp.toNat k1 dp.toNat n.toNat k1 j))) : va_E) = _
    congr 4
    funext q
    by_cases hq : dp.toNat ≤ q ∧ q < dp.toNat + n.toNat
    · simp [va_cpy, z_cpy, hq]
    · simp only [va_cpy, z_cpy, hq, if_true, if_false]) (fun a ha => by funext b; simp [z_cpy, ha])] at hP1
  exact kk E p l e s m args below meth c H1 locs1 lz CX hP1 hS1 hl2
end ZMEM
