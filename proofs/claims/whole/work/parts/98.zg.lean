/-! the start: what the Statement gives -/
theorem s_t1 {w : Cond} (i : Nat) (h : tables_1_1[i]? = some w) : w ∈ lw_tbl := List.mem_append_right _ (show w ∈ tables_1 from List.mem_append_left _ (List.mem_of_getElem? h))
theorem s_t5 {w : Cond} (i : Nat) (h : tables_1_5[i]? = some w) : w ∈ lw_tbl := List.mem_append_right _ (show w ∈ tables_1 from List.mem_append_right _ (List.mem_append_right _ (List.mem_append_right _ (List.mem_append_right _ (List.mem_append_left _ (List.mem_of_getElem? h))))))
theorem s_t6 {w : Cond} (i : Nat) (h : tables_1_6[i]? = some w) : w ∈ lw_tbl := List.mem_append_right _ (show w ∈ tables_1 from List.mem_append_right _ (List.mem_append_right _ (List.mem_append_right _ (List.mem_append_right _ (List.mem_append_right _ (List.mem_append_left _ (List.mem_of_getElem? h)))))))
theorem s_t8 {w : Cond} (i : Nat) (h : tables_1_8[i]? = some w) : w ∈ lw_tbl := List.mem_append_right _ (show w ∈ tables_1 from List.mem_append_right _ (List.mem_append_right _ (List.mem_append_right _ (List.mem_append_right _ (List.mem_append_right _ (List.mem_append_right _ (List.mem_append_right _ (List.mem_append_left _ (List.mem_of_getElem? h)))))))))
theorem s_zt {w : Cond} (h : w ∈ z_tb) : w ∈ lw_tbl := (List.mem_filter.mp h).1
theorem s_kn {b : Nat} {s : State} (hts : ∀ w ∈ lw_tbl, w.before #[Value.ref b] s = true) {ci N : Nat} {fs : List Value} (h : x_NC ci N fs) : ∃ r : ClassId × (Nat → Nat), ∀ q : vw_C, classes[ci]? = some q → u_Kn s q.1 q.2.1 q.2.2 r.1 r.2 := by
  obtain ⟨C, T, ty, h1, h2, h3, h4, h5, h6⟩ := h
  obtain ⟨cC, iS, hk⟩ := u_known (C := C) (T := T) (N := N) (n := N) hts (fun w hw => s_zt (h2 w hw)) (hts _ (s_zt h4))
  refine ⟨(cC, iS), fun q hq => ?_⟩
  have e : (C, T, N) = q := Option.some.inj (h1.symm.trans hq)
  subst e
  exact hk
theorem s_kns {b : Nat} {s : State} (hts : ∀ w ∈ lw_tbl, w.before #[Value.ref b] s = true) : ∀ k : Nat, ∃ r : ClassId × (Nat → Nat), ∀ q : vw_C, classes[k]? = some q → u_Kn s q.1 q.2.1 q.2.2 r.1 r.2 := by
  intro k
  match k with
  | 0 => exact s_kn hts n_X0
  | 1 => exact s_kn hts n_X1
  | 2 => exact s_kn hts n_X2
  | 3 => exact s_kn hts n_X3
  | 4 => exact s_kn hts n_X4
  | 5 => exact s_kn hts n_X5
  | 6 => exact s_kn hts n_X6
  | 7 => exact s_kn hts n_X7
  | 8 => exact s_kn hts n_X8
  | 9 => exact s_kn hts n_X9
  | 10 => exact s_kn hts n_X10
  | 11 => exact s_kn hts n_X11
  | 12 => exact s_kn hts n_X12
  | k + 13 =>
    obtain ⟨r, -⟩ := s_kn hts n_X0
    exact ⟨r, fun q hq => by simp [classes] at hq⟩
theorem s_K {b : Nat} {s : State} (hts : ∀ w ∈ lw_tbl, w.before #[Value.ref b] s = true) : ∃ D : x_D, x_K D s := by
  obtain ⟨f, hf⟩ := Classical.axiomOfChoice (s_kns hts)
  obtain ⟨cI, kI, pI, i1, i2, i3⟩ := Cond.arrayClass_spec (hts (.arrayClass .int) (s_t1 42 (by decide +kernel)))
  obtain ⟨cJ, kJ, pJ, j1, j2, j3⟩ := Cond.arrayClass_spec (hts (.arrayClass .long) (s_t8 225 (by decide +kernel)))
  have hO := hts (.arrayOver (.object "DrownedNames$Law")) (s_t1 166 (by decide +kernel))
  obtain ⟨comp, cL, kL, o1, o2, o3, o4, o5⟩ := Cond.arrayOver_spec hO
  refine ⟨((fun k => (f k).1, fun k => (f k).2), cI, cL, cJ), ⟨fun c q hq => hf c q hq, fun k q hq => ?_⟩, fun q hq => ?_, va_AO.of hO⟩
  · match k, hq with
    | 0, hq =>
      cases hq
      exact ⟨fun n z => ⟨fun k h => (by cases h), kI, i2, pI, i3⟩, i1⟩
    | 1, hq =>
      cases hq
      exact ⟨fun n z => ⟨fun k h => (by cases h), kL, o3, comp, o4⟩, kL, comp, o3, o4, o1, o5⟩
    | 2, hq =>
      cases hq
      exact ⟨fun n z => ⟨fun k h => (by cases h), kJ, j2, pJ, j3⟩, j1⟩
    | k + 3, hq => simp [x_T] at hq
  · have m : ∀ q ∈ x_nest, Cond.methodLinkNest q.1 q.2.1 q.2.2.1 q.2.2.2 ∈ lw_tbl := by decide +kernel
    exact va_Nw.of rfl (hts _ (m q hq))
theorem s_fl : ∀ q ∈ z_sts, Cond.arrayOf (.static q.1 q.2.1 q.2.2.1) q.2.2.2.1 ∈ flatC (Cond.and given_1 narrow_1) ∧ Cond.eq (.length (.static q.1 q.2.1 q.2.2.1)) (.int (Int32.ofNat q.2.2.2.2.length)) ∈ flatC (Cond.and given_1 narrow_1) ∧ ∀ j, j < q.2.2.2.2.length → Cond.eq (.elem (.static q.1 q.2.1 q.2.2.1) (.int (Int32.ofNat j))) (.int (Int32.ofInt (q.2.2.2.2.getD j 0))) ∈ flatC (Cond.and given_1 narrow_1) := by decide +kernel
theorem s_ly : ∀ q ∈ z_sts, Cond.laysStatic q.1 q.2.1 q.2.2.1 ∈ lw_tbl ∧ Cond.initialized q.1 ∈ lw_tbl ∧ q.2.2.2.2.length < 2 ^ 31 := by decide +kernel
theorem s_G {b : Nat} {s : State} (hts : ∀ w ∈ lw_tbl, w.before #[Value.ref b] s = true) (hs : ∀ w ∈ flatC (Cond.and given_1 narrow_1), w.before #[Value.ref b] s = true) : ∃ st : Nat → Nat, ∀ (i : Nat) (q : z_T), z_sts[i]? = some q →
    va_Z q.1 q.2.1 q.2.2.1 (.ref (st i)) (fun q => s.heap.size ≤ q) s s.heap ∧ va_T q.2.2.2.1 (st i) q.2.2.2.2.length (fun j => .int (Int32.ofInt (q.2.2.2.2.getD j 0))) (fun q => s.heap.size ≤ q) s s.heap := by
  have key : ∀ i : Nat, ∃ t : Nat, ∀ q : z_T, z_sts[i]? = some q → va_Z q.1 q.2.1 q.2.2.1 (.ref t) (fun q => s.heap.size ≤ q) s s.heap ∧ va_T q.2.2.2.1 t q.2.2.2.2.length (fun j => .int (Int32.ofInt (q.2.2.2.2.getD j 0))) (fun q => s.heap.size ≤ q) s s.heap := by
    intro i
    cases h : z_sts[i]? with
    | none => exact ⟨0, fun q hq => by cases hq⟩
    | some q0 =>
      have hm := List.mem_of_getElem? h
      obtain ⟨f1, f2, f3⟩ := s_fl q0 hm
      obtain ⟨l1, l2, l3⟩ := s_ly q0 hm
      have hA : ∀ a : Nat, a < s.heap.size → ¬ (fun q => s.heap.size ≤ q) a := fun a ha => Nat.not_le.mpr ha
      obtain ⟨t, e1, e2⟩ := va_Tof (tm := .static q0.1 q0.2.1 q0.2.2.1) (f := fun j => .int (Int32.ofInt (q0.2.2.2.2.getD j 0))) l3 (hs _ f1) (va_eqt (hs _ f2)) (fun j hj => va_eqt (hs _ (f3 j hj))) hA
      refine ⟨t, fun q hq => ?_⟩
      cases hq
      exact ⟨va_Zref (hts _ l1) (hts _ l2) e1 hA, e2⟩
  obtain ⟨st, h⟩ := Classical.axiomOfChoice key
  exact ⟨st, fun i q hq => h i q hq⟩
theorem s_N {b : Nat} {s : State} (hts : ∀ w ∈ lw_tbl, w.before #[Value.ref b] s = true) (hs : ∀ w ∈ flatC (Cond.and given_1 narrow_1), w.before #[Value.ref b] s = true) : ∃ T : Nat × Nat, q_N (fun q => s.heap.size ≤ q) T s := by
  have hA : ∀ a : Nat, a < s.heap.size → ¬ (fun q => s.heap.size ≤ q) a := fun a ha => Nat.not_le.mpr ha
  have x1 : Cond.exactly (.string "DrownedNames" 168) "java/lang/String" ∈ flatC (Cond.and given_1 narrow_1) := by decide +kernel
  have x2 : Cond.exactly (.string "DrownedNames" 195) "java/lang/String" ∈ flatC (Cond.and given_1 narrow_1) := by decide +kernel
  have x3 : Cond.isRef (.static Bundle.tN "UNASSIGNED_STACK" Bundle.steD) ∈ flatC (Cond.and given_1 narrow_1) := by decide +kernel
  have x4 : Cond.isRef (.static Bundle.tN "SUPPRESSED_SENTINEL" Bundle.listD) ∈ flatC (Cond.and given_1 narrow_1) := by decide +kernel
  obtain ⟨a1, -, -, -, e1, -⟩ := Cond.exactly_spec (hs _ x1)
  obtain ⟨a2, -, -, -, e2, -⟩ := Cond.exactly_spec (hs _ x2)
  have hini : (Cond.initialized Bundle.tN).before #[Value.ref b] s = true := hts _ (s_t1 15 (by decide +kernel))
  refine ⟨(a1, a2), ⟨va_Nw.of rfl (hts _ (s_t5 213 (by decide +kernel))), va_Nw.of rfl (hts _ (s_t5 215 (by decide +kernel))), va_Nw.of rfl (hts _ (s_t5 217 (by decide +kernel))), va_Nw.of rfl (hts _ (s_t5 219 (by decide +kernel)))⟩, vk_R.of (hts _ (s_t6 10 (by decide +kernel))) e1, vk_R.of (hts _ (s_t6 46 (by decide +kernel))) e2, vx_Zqof (hts _ (s_t5 238 (by decide +kernel))) hini (hs _ x3) hA, vx_Zqof (hts _ (s_t6 0 (by decide +kernel))) hini (hs _ x4) hA⟩
