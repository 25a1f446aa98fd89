/-! the start: the law's body from its entry -/
theorem u_1_21 : Cond.classLink RL 8 RX11 ∈ z_tb := z_tm1 21 (by decide +kernel) rfl
theorem u_1_23 : Cond.methodLink RL 15 yX11_init ∈ z_tb := z_tm1 23 (by decide +kernel) rfl
theorem u_6_47 : Cond.classLink RL 16 RX12 ∈ z_tb := z_tm6 47 (by decide +kernel) rfl
theorem u_6_49 : Cond.methodLink RL 18 yX12_init ∈ z_tb := z_tm6 49 (by decide +kernel) rfl
theorem u_8_225 : Cond.arrayClass .long ∈ z_tb := z_tm8 225 (by decide +kernel) rfl
section SW
variable {p : Program} {l : Launch} {e : Env} {s : State} {m : MethodId} {below : List Frame} {meth : Method} {c : Code} {b : Nat} {D : x_D} {kc ks pc : Nat} {H : Heap} {locs : List Loc} {lz : Array Slot} {st : List Value} {ws : va_W} {Q : State → Prop}
theorem s_new {idx ci N : Nat} {fs : List Value} {C : String} (hx : p.tables.exec = Jvm.exec) (hb : c.code = cL_law) (hown : s.vm.findClass RL = some m.cls) (htz : ∀ w ∈ z_tb, w.before #[Value.ref b] s = true) (hK : x_K D s) (hC : ∃ (T : u_T), classes[ci]? = some (C, T, N)) (h : x_NC ci N fs) (hcl : Cond.classLink RL idx C ∈ z_tb) (hc : kc + 1 ≤ 601024) (hs : ks + N ≤ 7293034) (hd : decode cL_law pc = .ok (.new idx, 3)) (hP : va_P D.1 classes ws H) (hD : va_D (fun q => s.heap.size ≤ q) ws) (hS : va_S (fun q => s.heap.size ≤ q) s.heap H locs)
    (k : ∀ (q : Nat) (H1 : Heap), va_P D.1 classes (ws ++ [(q, .inr (ci, fs))]) H1 → va_D (fun q => s.heap.size ≤ q) (ws ++ [(q, .inr (ci, fs))]) → va_S (fun q => s.heap.size ≤ q) s.heap H1 locs → W p l e room_1 s m #[Value.ref b] below meth c H1 locs (kc + 1) (ks + N) Q (F0 m (pc + 3) lz (.ref q :: st))) : W p l e room_1 s m #[Value.ref b] below meth c H locs kc ks Q (F0 m pc lz st) := by
  obtain ⟨T0, h0⟩ := hC
  obtain ⟨C1, T, ty, h1, h2, h3, h4, h5, h6⟩ := h
  have e0 : (C1, T, N) = (C, T0, N) := Option.some.inj (h1.symm.trans h0)
  injection e0 with e1 e2
  subst e1
  exact va_new hx hb htz h2 ty h3 hown (htz _ hcl) (htz _ h4) (htz _ h5) hK.1 hP hD hS (fun _ h => h) h1 h6 hc hs hd (fun q H1 hP1 hD1 hS1 => k q H1 hP1 hD1 hS1)
theorem s_ini {C : z_M} {d' mc' ms' idx h0 : Nat} {en : va_E} {wr : va_W} {ls : List (Nat × Value)} {Qc : va_W → Prop} (i : Nat) (isR : List Nat) (hx : p.tables.exec = Jvm.exec) (hb : c.code = cL_law) (hml : c.maxLocals = 7) (hown : s.vm.findClass RL = some m.cls) (htz : ∀ w ∈ z_tb, w.before #[Value.ref b] s = true) (hK : x_K D s) (hd : decode cL_law pc = .ok (.invokespecial idx, 3)) (hl : Cond.methodLink RL idx C.1 ∈ z_tb) (hC : x_MI C 0) (hst : (st.map fun v => v.category).sum ≤ 8)
    (hi : ws[i]? = some (h0, en)) (hR : isR.map (fun i => ws[i]?) = wr.map some) (hnd : va_nd isR = true) (hdis : ∀ j ∈ isR, j ∉ [i]) (hro : kc + mc' ≤ 601024 ∧ ks + ms' ≤ 7293034) (hdd : d' ≤ 10)
    (hc : x_Wc d' mc' ms' C D [.ref h0] [(h0, en)] Qc) (hP : va_P D.1 classes ws H) (hDD : va_D (fun q => s.heap.size ≤ q) ws) (hS : va_S (fun q => s.heap.size ≤ q) s.heap H locs) (hl2 : lv_has lz 7 ls)
    (kk : ∀ (u : va_W) (H1 : Heap) (locs1 : List Loc), Qc u → va_P D.1 classes (wr ++ u) H1 → va_D (fun q => s.heap.size ≤ q) (wr ++ u) → va_S (fun q => s.heap.size ≤ q) s.heap H1 locs1 → W p l e room_1 s m #[Value.ref b] below meth c H1 locs1 (kc + mc') (ks + ms') Q (F0 m (pc + 3) lz st)) : W p l e room_1 s m #[Value.ref b] below meth c H locs kc ks Q (F0 m pc lz (.ref h0 :: st)) := by
  have e1 : [i].filterMap (fun i => ws[i]?) = [(h0, en)] := by simp [hi]
  have e2 : [i].map (fun i => ws[i]?) = [(h0, en)].map some := by simp [hi]
  have hPc := hP.sub (ws' := [(h0, en)]) [i] e1
  have hDc := hDD.sub (ws' := [(h0, en)]) [i] rfl e2
  have hFc := va_free (wc := [(h0, en)]) hDD hS (fun _ h => h) [i] e2
  obtain ⟨c1, c2, c3, c4, c5, c6, c7⟩ := hC
  have hM := hc l H.size
  rw [c5] at hM c1
  refine va_callv (va_runI (As := []) (b := h0) (maxL := C.2.2.1) (bytes := C.2.1) (n := 0) ⟨hx, hb, hml, hown, htz⟩ hM (cwI 0 htz (by have h9 := x_goodC (C := (C.1, C.2.1, C.2.2.1, none)) c1; exact h9) rfl rfl rfl (htz _ c2) (htz _ hl) (htz _ c7) c6 c3 ⟨by show d' + 1 + 1 ≤ 2048; omega, by show 8 + (C.2.2.1 + 11) + 64 * (d' + 1) ≤ 84000; omega⟩) ⟨fun a U g mk q => by obtain ⟨q0, q1, qP, qK, qD⟩ := q; exact ⟨q0, q1, qP, qK.blind, qD⟩, fun U hU hW => ⟨rfl, by rw [hU], by rw [hU]; exact hPc, hK.moved hW, hDc.weaken (fun _ _ _ _ => trivial)⟩⟩ rfl rfl hl2.1 rfl (lv_room hst) hd hro) hS (fun q _ h => hFc q h) hFc (fun u t H1 locs1 ht hvm hq hB hz1 hk1 hS1 => ?_)
  obtain ⟨hP1, hD1⟩ := hB
  rw [ht] at hP1
  obtain ⟨hP2, hD2⟩ := va_join (wr := wr) (w1 := u) hP hDD [i] isR e2 hR hnd hdis hk1 hFc hP1 hD1
  exact kk u H1 locs1 hq hP2 hD2 hS1
theorem s_newJ (hx : p.tables.exec = Jvm.exec) (hb : c.code = cL_law) (htz : ∀ w ∈ z_tb, w.before #[Value.ref b] s = true) (hK : x_K D s) (hc : kc + 1 ≤ 601024) (hs : ks + 1 ≤ 7293034) (hd : decode cL_law pc = .ok (.newarray .long, 2)) (hP : va_P D.1 classes ws H) (hD : va_D (fun q => s.heap.size ≤ q) ws) (hS : va_S (fun q => s.heap.size ≤ q) s.heap H locs)
    (k : ∀ (q : Nat) (H1 : Heap), va_P D.1 classes (ws ++ [(q, .inl (D.2.2.2, 1, .inr (.inl (fun _ => 0))))]) H1 → va_D (fun q => s.heap.size ≤ q) (ws ++ [(q, .inl (D.2.2.2, 1, .inr (.inl (fun _ => 0))))]) → va_S (fun q => s.heap.size ≤ q) s.heap H1 locs → W p l e room_1 s m #[Value.ref b] below meth c H1 locs (kc + 1) (ks + 1) Q (F0 m (pc + 2) lz (.ref q :: st))) : W p l e room_1 s m #[Value.ref b] below meth c H locs kc ks Q (F0 m pc lz (.int 1 :: st)) := by
  refine va_newa (atype := .long) (a0 := (1, .inr (.inl (fun _ => 0)))) hx hb (htz _ u_8_225) (ty := .long) rfl hK.1 hP hD hS (fun _ h => h) (fun _ => rfl) (by decide) (show (1 : Int32).toNatClampNeg = 1 by decide) (by decide) hc hs hd (fun q cA H1 hK1 hP1 hD1 hS1 => ?_)
  have h1 := (hK1.2 3 (cA, .long) rfl).2
  have h2 := (hK.1.2 2 (D.2.2.2, .long) rfl).2
  have e1 : cA = D.2.2.2 := Option.some.inj (Eq.trans (Eq.symm (show s.vm.findClass ("[" ++ (FieldType.long).toString) = some cA from h1)) h2)
  subst e1
  exact k q H1 hP1 hD1 hS1
end SW
