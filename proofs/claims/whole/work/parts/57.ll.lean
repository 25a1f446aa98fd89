theorem t_7_106 : Cond.methodLink RL 47 yX12_name ∈ z_tb := z_tm7 106 (by decide +kernel) rfl
theorem t_6_192 : Cond.methodLink RL 48 yX12_thrown ∈ z_tb := z_tm6 192 (by decide +kernel) rfl
set_option maxRecDepth 8000 in
set_option maxHeartbeats 2000000 in
theorem l_name {Rl : z_Wd → Prop} {B : Nat × Nat × (Nat → Int32)} {T : Nat × Nat} {kc ks : Nat} {i : Int} {w : z_Wd} (hs : S_name Rl) (hw : Rl w) (hi : 0 ≤ i ∧ i + 7 ≤ B.2.1) (hL : B.2.1 ≤ 3584) (hk : kc + 1 ≤ 601024 ∧ ks + 6 ≤ 7293034) (k : ∀ w', Rl w' → y_Wp m_L_law 0 1516 [(0, zR 300), (1, zR 27), (2, zR 0), (3, zR 26), (4, zI i)] [] w' (l_X B T (kc + 1) (ks + 6))) : y_Wp m_L_law 0 385 [(0, zR 300), (1, zR 27), (2, zR 0), (3, zR 26), (4, zI i)] [] w (l_X B T kc ks) := by
  obtain ⟨p1, pr, pt, pn⟩ := hs w ((B.2.2 (i + 1).toNat).toInt) ((B.2.2 (i + 2).toNat).toInt) (z_r32 _) (z_r32 _) hw
  refine y_aload_n (pc' := 386) 1 rfl rfl dL_law_385 rfl ?_
  refine y_aload_n (pc' := 387) 0 rfl rfl dL_law_386 rfl ?_
  refine y_iload (pc' := 389) 4 rfl dL_law_387 rfl ?_
  refine y_iconst (pc' := 390) dL_law_389 rfl ?_
  refine y_iadd (pc' := 391) dL_law_390 rfl ?_
  refine l_sld (pc' := 392) (by omega) hL dL_law_391 rfl ?_
  refine y_aload_n (pc' := 393) 0 rfl rfl dL_law_392 rfl ?_
  refine y_iload (pc' := 395) 4 rfl dL_law_393 rfl ?_
  refine y_iconst (pc' := 396) dL_law_395 rfl ?_
  refine y_iadd (pc' := 397) dL_law_396 rfl ?_
  refine l_sld (pc' := 398) (by omega) hL dL_law_397 rfl ?_
  refine y_aload_n (pc' := 399) 3 rfl rfl dL_law_398 rfl ?_
  refine l_invN (as := [zR 27, zI (B.2.2 (i + 1).toNat).toInt, zI (B.2.2 (i + 2).toNat).toInt, zR 26]) (st := []) rfl rfl (Nat.le_of_ble_eq_true rfl) hk ?_
  refine n_name p1 pr (fun c => ?_) (fun c => ?_)
  · obtain ⟨q1, q2, q3, q4, q5⟩ := pn c
    show y_Wp m_L_law 0 402 [(0, zR 300), (1, zR 27), (2, zR 0), (3, zR 26), (4, zI i)] [zI 0] (z_up (F_D_name w ((B.2.2 (i + 1).toNat).toInt) ((B.2.2 (i + 2).toNat).toInt)).2 26 0 (F_D_name w ((B.2.2 (i + 1).toNat).toInt) ((B.2.2 (i + 2).toNat).toInt)).1) _
    refine y_istore (pc' := 404) (ls' := [(0, zR 300), (1, zR 27), (2, zR 0), (3, zR 26), (4, zI i), (5, zI 0)]) (by decide) rfl rfl dL_law_402 rfl ?_
    refine y_aload_n (pc' := 405) 2 rfl rfl dL_law_404 rfl ?_
    refine y_aload_n (pc' := 406) 0 rfl rfl dL_law_405 rfl ?_
    refine y_iload (pc' := 408) 4 rfl dL_law_406 rfl ?_
    refine y_iconst (pc' := 409) dL_law_408 rfl ?_
    refine y_iadd (pc' := 410) dL_law_409 rfl ?_
    refine l_sld (pc' := 411) (by omega) hL dL_law_410 rfl ?_
    refine y_aload_n (pc' := 412) 0 rfl rfl dL_law_411 rfl ?_
    refine y_iload (pc' := 414) 4 rfl dL_law_412 rfl ?_
    refine y_iconst (pc' := 415) dL_law_414 rfl ?_
    refine y_iadd (pc' := 416) dL_law_415 rfl ?_
    refine l_sld (pc' := 417) (by omega) hL dL_law_416 rfl ?_
    refine y_invV (as := [zI (B.2.2 (i + 1).toNat).toInt, zI (B.2.2 (i + 2).toNat).toInt]) (st := []) (C := m_X12_name) (d' := 7) (fs := [0, 3, 0, 0, 0, 0, 4, 5, 6, 7, 8, 9, 10, 0, 0, 11, 12, 13, 14, 15, 16, 0, 0, 0, 17, 18, 19, 20, 0, 0, 0, 21, 22, 0, 0, 23, 0, 1, 24, 0, 0, 25, 26, 0, 27, 0]) (pc' := 420) dL_law_417 rfl t_7_106 k_X12_name rfl (by decide) rfl rfl rfl rfl (Nat.le_of_ble_eq_true rfl) ⟨Nat.le_of_ble_eq_true rfl, Nat.le_of_ble_eq_true rfl⟩ hk ?_
    refine c_M_name (d := 0) q1 ?_
    show y_Wp m_L_law 0 420 [(0, zR 300), (1, zR 27), (2, zR 0), (3, zR 26), (4, zI i), (5, zI 0)] [zI (F_M_name (z_up (F_D_name w ((B.2.2 (i + 1).toNat).toInt) ((B.2.2 (i + 2).toNat).toInt)).2 26 0 (F_D_name w ((B.2.2 (i + 1).toNat).toInt) ((B.2.2 (i + 2).toNat).toInt)).1) ((B.2.2 (i + 1).toNat).toInt) ((B.2.2 (i + 2).toNat).toInt)).1] (F_M_name (z_up (F_D_name w ((B.2.2 (i + 1).toNat).toInt) ((B.2.2 (i + 2).toNat).toInt)).2 26 0 (F_D_name w ((B.2.2 (i + 1).toNat).toInt) ((B.2.2 (i + 2).toNat).toInt)).1) ((B.2.2 (i + 1).toNat).toInt) ((B.2.2 (i + 2).toNat).toInt)).2 _
    refine y_istore (pc' := 422) (ls' := [(0, zR 300), (1, zR 27), (2, zR 0), (3, zR 26), (4, zI i), (5, zI 0), (6, zI (F_M_name (z_up (F_D_name w ((B.2.2 (i + 1).toNat).toInt) ((B.2.2 (i + 2).toNat).toInt)).2 26 0 (F_D_name w ((B.2.2 (i + 1).toNat).toInt) ((B.2.2 (i + 2).toNat).toInt)).1) ((B.2.2 (i + 1).toNat).toInt) ((B.2.2 (i + 2).toNat).toInt)).1)]) (by decide) rfl rfl dL_law_420 rfl ?_
    refine y_aload_n (pc' := 423) 2 rfl rfl dL_law_422 rfl ?_
    refine y_invV (as := []) (st := []) (C := m_X12_thrown) (d' := 0) (fs := [0, 3, 0, 0, 0, 0, 4, 5, 6, 7, 8, 9, 10, 0, 0, 11, 12, 13, 14, 15, 16, 0, 0, 0, 17, 18, 19, 20, 0, 0, 0, 21, 22, 0, 0, 23, 0, 1, 24, 0, 0, 25, 26, 0, 27, 0]) (pc' := 426) dL_law_423 rfl t_6_192 k_X12_thrown rfl (by decide) rfl rfl rfl rfl (Nat.le_of_ble_eq_true rfl) ⟨Nat.le_of_ble_eq_true rfl, Nat.le_of_ble_eq_true rfl⟩ hk ?_
    refine c_M_thrown (d := 0) ?_
    show y_Wp m_L_law 0 426 [(0, zR 300), (1, zR 27), (2, zR 0), (3, zR 26), (4, zI i), (5, zI 0), (6, zI (F_M_name (z_up (F_D_name w ((B.2.2 (i + 1).toNat).toInt) ((B.2.2 (i + 2).toNat).toInt)).2 26 0 (F_D_name w ((B.2.2 (i + 1).toNat).toInt) ((B.2.2 (i + 2).toNat).toInt)).1) ((B.2.2 (i + 1).toNat).toInt) ((B.2.2 (i + 2).toNat).toInt)).1)] [zI ((F_M_name (z_up (F_D_name w ((B.2.2 (i + 1).toNat).toInt) ((B.2.2 (i + 2).toNat).toInt)).2 26 0 (F_D_name w ((B.2.2 (i + 1).toNat).toInt) ((B.2.2 (i + 2).toNat).toInt)).1) ((B.2.2 (i + 1).toNat).toInt) ((B.2.2 (i + 2).toNat).toInt)).2 0 0)] (F_M_name (z_up (F_D_name w ((B.2.2 (i + 1).toNat).toInt) ((B.2.2 (i + 2).toNat).toInt)).2 26 0 (F_D_name w ((B.2.2 (i + 1).toNat).toInt) ((B.2.2 (i + 2).toNat).toInt)).1) ((B.2.2 (i + 1).toNat).toInt) ((B.2.2 (i + 2).toNat).toInt)).2 _
    rw [q2]
    refine y_iload (pc' := 428) 5 rfl dL_law_426 rfl ?_
    refine y_icmp_same 433 dL_law_428 (by decide) ?_
    refine y_iload (pc' := 435) 5 rfl dL_law_433 rfl ?_
    refine y_if_ne 450 dL_law_435 (by decide) (pc' := 438) rfl (by decide) (fun c9 => absurd rfl c9) (fun _ => ?_)
    refine y_aload_n (pc' := 439) 3 rfl rfl dL_law_438 rfl ?_
    refine y_iconst (pc' := 440) dL_law_439 rfl ?_
    refine y_lald (pc' := 441) (n := 1) (rs := []) (by decide) rfl (by decide) (by decide) dL_law_440 rfl ?_
    show y_Wp m_L_law 0 441 [(0, zR 300), (1, zR 27), (2, zR 0), (3, zR 26), (4, zI i), (5, zI 0), (6, zI (F_M_name (z_up (F_D_name w ((B.2.2 (i + 1).toNat).toInt) ((B.2.2 (i + 2).toNat).toInt)).2 26 0 (F_D_name w ((B.2.2 (i + 1).toNat).toInt) ((B.2.2 (i + 2).toNat).toInt)).1) ((B.2.2 (i + 1).toNat).toInt) ((B.2.2 (i + 2).toNat).toInt)).1)] [zJ ((F_M_name (z_up (F_D_name w ((B.2.2 (i + 1).toNat).toInt) ((B.2.2 (i + 2).toNat).toInt)).2 26 0 (F_D_name w ((B.2.2 (i + 1).toNat).toInt) ((B.2.2 (i + 2).toNat).toInt)).1) ((B.2.2 (i + 1).toNat).toInt) ((B.2.2 (i + 2).toNat).toInt)).2 26 0)] (F_M_name (z_up (F_D_name w ((B.2.2 (i + 1).toNat).toInt) ((B.2.2 (i + 2).toNat).toInt)).2 26 0 (F_D_name w ((B.2.2 (i + 1).toNat).toInt) ((B.2.2 (i + 2).toNat).toInt)).1) ((B.2.2 (i + 1).toNat).toInt) ((B.2.2 (i + 2).toNat).toInt)).2 _
    refine y_iload (pc' := 443) 6 rfl dL_law_441 rfl ?_
    rw [q4, q3]
    refine y_i2l (pc' := 444) (pr c) dL_law_443 rfl ?_
    have pc9 := pr c
    refine y_lcmp (pc' := 445) (by omega) (by omega) dL_law_444 rfl ?_
    rw [show z_cmp (F_D_name w ((B.2.2 (i + 1).toNat).toInt) ((B.2.2 (i + 2).toNat).toInt)).1 (F_D_name w ((B.2.2 (i + 1).toNat).toInt) ((B.2.2 (i + 2).toNat).toInt)).1 = 0 from by unfold z_cmp; simp]
    refine y_if_eq 450 dL_law_445 (by decide) (pc' := 448) rfl (by decide) (fun _ => ?_) (fun c9 => absurd rfl c9)
    exact y_goto 1516 dL_law_450 (by decide) (l_sub (k _ q5) (z_sub_of [0, 1, 2, 3, 4] rfl))
  · obtain ⟨q1, q2, q3⟩ := pt c
    show y_Wp m_L_law 0 402 [(0, zR 300), (1, zR 27), (2, zR 0), (3, zR 26), (4, zI i)] [zI 1] (w) _
    refine y_istore (pc' := 404) (ls' := [(0, zR 300), (1, zR 27), (2, zR 0), (3, zR 26), (4, zI i), (5, zI 1)]) (by decide) rfl rfl dL_law_402 rfl ?_
    refine y_aload_n (pc' := 405) 2 rfl rfl dL_law_404 rfl ?_
    refine y_aload_n (pc' := 406) 0 rfl rfl dL_law_405 rfl ?_
    refine y_iload (pc' := 408) 4 rfl dL_law_406 rfl ?_
    refine y_iconst (pc' := 409) dL_law_408 rfl ?_
    refine y_iadd (pc' := 410) dL_law_409 rfl ?_
    refine l_sld (pc' := 411) (by omega) hL dL_law_410 rfl ?_
    refine y_aload_n (pc' := 412) 0 rfl rfl dL_law_411 rfl ?_
    refine y_iload (pc' := 414) 4 rfl dL_law_412 rfl ?_
    refine y_iconst (pc' := 415) dL_law_414 rfl ?_
    refine y_iadd (pc' := 416) dL_law_415 rfl ?_
    refine l_sld (pc' := 417) (by omega) hL dL_law_416 rfl ?_
    refine y_invV (as := [zI (B.2.2 (i + 1).toNat).toInt, zI (B.2.2 (i + 2).toNat).toInt]) (st := []) (C := m_X12_name) (d' := 7) (fs := [0, 3, 0, 0, 0, 0, 4, 5, 6, 7, 8, 9, 10, 0, 0, 11, 12, 13, 14, 15, 16, 0, 0, 0, 17, 18, 19, 20, 0, 0, 0, 21, 22, 0, 0, 23, 0, 1, 24, 0, 0, 25, 26, 0, 27, 0]) (pc' := 420) dL_law_417 rfl t_7_106 k_X12_name rfl (by decide) rfl rfl rfl rfl (Nat.le_of_ble_eq_true rfl) ⟨Nat.le_of_ble_eq_true rfl, Nat.le_of_ble_eq_true rfl⟩ hk ?_
    refine c_M_name (d := 0) q1 ?_
    show y_Wp m_L_law 0 420 [(0, zR 300), (1, zR 27), (2, zR 0), (3, zR 26), (4, zI i), (5, zI 1)] [zI (F_M_name (w) ((B.2.2 (i + 1).toNat).toInt) ((B.2.2 (i + 2).toNat).toInt)).1] (F_M_name (w) ((B.2.2 (i + 1).toNat).toInt) ((B.2.2 (i + 2).toNat).toInt)).2 _
    refine y_istore (pc' := 422) (ls' := [(0, zR 300), (1, zR 27), (2, zR 0), (3, zR 26), (4, zI i), (5, zI 1), (6, zI (F_M_name (w) ((B.2.2 (i + 1).toNat).toInt) ((B.2.2 (i + 2).toNat).toInt)).1)]) (by decide) rfl rfl dL_law_420 rfl ?_
    refine y_aload_n (pc' := 423) 2 rfl rfl dL_law_422 rfl ?_
    refine y_invV (as := []) (st := []) (C := m_X12_thrown) (d' := 0) (fs := [0, 3, 0, 0, 0, 0, 4, 5, 6, 7, 8, 9, 10, 0, 0, 11, 12, 13, 14, 15, 16, 0, 0, 0, 17, 18, 19, 20, 0, 0, 0, 21, 22, 0, 0, 23, 0, 1, 24, 0, 0, 25, 26, 0, 27, 0]) (pc' := 426) dL_law_423 rfl t_6_192 k_X12_thrown rfl (by decide) rfl rfl rfl rfl (Nat.le_of_ble_eq_true rfl) ⟨Nat.le_of_ble_eq_true rfl, Nat.le_of_ble_eq_true rfl⟩ hk ?_
    refine c_M_thrown (d := 0) ?_
    show y_Wp m_L_law 0 426 [(0, zR 300), (1, zR 27), (2, zR 0), (3, zR 26), (4, zI i), (5, zI 1), (6, zI (F_M_name (w) ((B.2.2 (i + 1).toNat).toInt) ((B.2.2 (i + 2).toNat).toInt)).1)] [zI ((F_M_name (w) ((B.2.2 (i + 1).toNat).toInt) ((B.2.2 (i + 2).toNat).toInt)).2 0 0)] (F_M_name (w) ((B.2.2 (i + 1).toNat).toInt) ((B.2.2 (i + 2).toNat).toInt)).2 _
    rw [q2]
    refine y_iload (pc' := 428) 5 rfl dL_law_426 rfl ?_
    refine y_icmp_same 433 dL_law_428 (by decide) ?_
    refine y_iload (pc' := 435) 5 rfl dL_law_433 rfl ?_
    refine y_if_ne 450 dL_law_435 (by decide) (pc' := 438) rfl (by decide) (fun _ => ?_) (fun c9 => absurd c9 (by decide))
    exact y_goto 1516 dL_law_450 (by decide) (l_sub (k _ q3) (z_sub_of [0, 1, 2, 3, 4] rfl))
/-- every call of the document owes its part -/
def S_all (Rl : z_Wd → Prop) : Prop := S_feed Rl ∧ S_end Rl ∧ S_fault Rl ∧ S_text Rl ∧ S_rule Rl ∧ S_name Rl ∧ S_well Rl ∧ S_file Rl ∧ S_law Rl ∧ S_dip Rl ∧ S_scratch Rl ∧ S_blot Rl ∧ S_water Rl ∧ S_fill Rl ∧ S_give Rl ∧ S_years Rl ∧ S_flies Rl ∧ S_decades Rl ∧ S_status Rl ∧ S_undo Rl ∧ S_log Rl ∧ S_layer Rl ∧ S_reach Rl ∧ S_faction Rl ∧ S_silence Rl ∧ S_seen Rl ∧ S_gone Rl ∧ S_sure Rl ∧ S_ask Rl ∧ S_game Rl ∧ S_rests Rl ∧ S_odds Rl ∧ S_shares Rl ∧ S_most Rl ∧ S_known Rl ∧ S_quiet Rl ∧ S_image Rl ∧ S_back Rl ∧ S_count Rl
set_option maxRecDepth 8000 in
set_option maxHeartbeats 4000000 in
theorem l_turn {Rl : z_Wd → Prop} (hs : S_all Rl) {B : Nat × Nat × (Nat → Int32)} {T : Nat × Nat} {kc ks : Nat} {i : Int} {w : z_Wd} (hw : Rl w) (hi : 0 ≤ i ∧ i + 7 ≤ B.2.1) (hL : B.2.1 ≤ 3584) (hk : kc + 1 ≤ 601024 ∧ ks + 6 ≤ 7293034) (k : ∀ (w' : z_Wd) (kc' ks' : Nat), Rl w' → kc' ≤ kc + 1 → ks' ≤ ks + 6 → y_Wp m_L_law 0 1516 [(0, zR 300), (1, zR 27), (2, zR 0), (3, zR 26), (4, zI i)] [] w' (l_X B T kc' ks')) : y_Wp m_L_law 0 33 [(0, zR 300), (1, zR 27), (2, zR 0), (3, zR 26), (4, zI i)] [] w (l_X B T kc ks) := by
  have hk2 : kc ≤ 601024 ∧ ks ≤ 7293034 := by omega
  have k0 : ∀ w', Rl w' → y_Wp m_L_law 0 1516 [(0, zR 300), (1, zR 27), (2, zR 0), (3, zR 26), (4, zI i)] [] w' (l_X B T kc ks) := fun w' h => k w' kc ks h (by omega) (by omega)
  have k1 : ∀ w', Rl w' → y_Wp m_L_law 0 1516 [(0, zR 300), (1, zR 27), (2, zR 0), (3, zR 26), (4, zI i)] [] w' (l_X B T (kc + 1) (ks + 6)) := fun w' h => k w' (kc + 1) (ks + 6) h (Nat.le_refl _) (Nat.le_refl _)
  refine y_aload_n (pc' := 34) 0 rfl rfl dL_law_33 rfl ?_
  refine y_iload (pc' := 36) 4 rfl dL_law_34 rfl ?_
  refine l_sld (pc' := 37) (by omega) hL dL_law_36 rfl ?_
  refine y_bipush (pc' := 39) (by decide) dL_law_37 rfl ?_
  refine y_iand (pc' := 40) dL_law_39 rfl ?_
  have hr : -2147483648 ≤ zz_and (B.2.2 i.toNat).toInt 63 ∧ zz_and (B.2.2 i.toNat).toInt 63 < 2147483648 := ⟨Int32.le_toInt _, Int32.toInt_lt _⟩
  generalize zz_and (B.2.2 i.toNat).toInt 63 = x at hr ⊢
  refine y_table dL_law_40 rfl hr ?_
  exact ⟨fun _ => ⟨212, by decide, l_feed (hs.1) hw hi hL hk2 k0⟩, fun _ => ⟨fun _ => ⟨285, by decide, l_end (hs.2.1) hw hi hL hk2 k0⟩, fun _ => ⟨fun _ => ⟨310, by decide, l_fault (hs.2.2.1) hw hi hL hk2 k0⟩, fun _ => ⟨fun _ => ⟨335, by decide, l_text (hs.2.2.2.1) hw hi hL hk2 k0⟩, fun _ => ⟨fun _ => ⟨360, by decide, l_rule (hs.2.2.2.2.1) hw hi hL hk2 k0⟩, fun _ => ⟨fun _ => ⟨385, by decide, l_name (hs.2.2.2.2.2.1) hw hi hL hk k1⟩, fun _ => ⟨fun _ => ⟨453, by decide, l_well (hs.2.2.2.2.2.2.1) hw hi hL hk2 k0⟩, fun _ => ⟨fun _ => ⟨490, by decide, l_file (hs.2.2.2.2.2.2.2.1) hw hi hL hk2 k0⟩, fun _ => ⟨fun _ => ⟨527, by decide, l_law (hs.2.2.2.2.2.2.2.2.1) hw hi hL hk2 k0⟩, fun _ => ⟨fun _ => ⟨552, by decide, l_dip (hs.2.2.2.2.2.2.2.2.2.1) hw hi hL hk2 k0⟩, fun _ => ⟨fun _ => ⟨589, by decide, l_scratch (hs.2.2.2.2.2.2.2.2.2.2.1) hw hi hL hk2 k0⟩, fun _ => ⟨fun _ => ⟨626, by decide, l_blot (hs.2.2.2.2.2.2.2.2.2.2.2.1) hw hi hL hk2 k0⟩, fun _ => ⟨fun _ => ⟨651, by decide, l_water (hs.2.2.2.2.2.2.2.2.2.2.2.2.1) hw hi hL hk2 k0⟩, fun _ => ⟨fun _ => ⟨676, by decide, l_fill (hs.2.2.2.2.2.2.2.2.2.2.2.2.2.1) hw hi hL hk2 k0⟩, fun _ => ⟨fun _ => ⟨701, by decide, l_give (hs.2.2.2.2.2.2.2.2.2.2.2.2.2.2.1) hw hi hL hk2 k0⟩, fun _ => ⟨fun _ => ⟨726, by decide, l_years (hs.2.2.2.2.2.2.2.2.2.2.2.2.2.2.2.1) hw hi hL hk2 k0⟩, fun _ => ⟨fun _ => ⟨751, by decide, l_flies (hs.2.2.2.2.2.2.2.2.2.2.2.2.2.2.2.2.1) hw hi hL hk2 k0⟩, fun _ => ⟨fun _ => ⟨776, by decide, l_decades (hs.2.2.2.2.2.2.2.2.2.2.2.2.2.2.2.2.2.1) hw hi hL hk2 k0⟩, fun _ => ⟨fun _ => ⟨845, by decide, l_status (hs.2.2.2.2.2.2.2.2.2.2.2.2.2.2.2.2.2.2.1) hw hi hL hk2 k0⟩, fun _ => ⟨fun _ => ⟨870, by decide, l_undo (hs.2.2.2.2.2.2.2.2.2.2.2.2.2.2.2.2.2.2.2.1) hw hi hL hk2 k0⟩, fun _ => ⟨fun _ => ⟨883, by decide, l_log (hs.2.2.2.2.2.2.2.2.2.2.2.2.2.2.2.2.2.2.2.2.1) hw hi hL hk2 k0⟩, fun _ => ⟨fun _ => ⟨920, by decide, l_layer (hs.2.2.2.2.2.2.2.2.2.2.2.2.2.2.2.2.2.2.2.2.2.1) hw hi hL hk2 k0⟩, fun _ => ⟨fun _ => ⟨957, by decide, l_reach (hs.2.2.2.2.2.2.2.2.2.2.2.2.2.2.2.2.2.2.2.2.2.2.1) hw hi hL hk2 k0⟩, fun _ => ⟨fun _ => ⟨982, by decide, l_faction (hs.2.2.2.2.2.2.2.2.2.2.2.2.2.2.2.2.2.2.2.2.2.2.2.1) hw hi hL hk2 k0⟩, fun _ => ⟨fun _ => ⟨1019, by decide, l_silence (hs.2.2.2.2.2.2.2.2.2.2.2.2.2.2.2.2.2.2.2.2.2.2.2.2.1) hw hi hL hk2 k0⟩, fun _ => ⟨fun _ => ⟨1044, by decide, l_seen (hs.2.2.2.2.2.2.2.2.2.2.2.2.2.2.2.2.2.2.2.2.2.2.2.2.2.1) hw hi hL hk2 k0⟩, fun _ => ⟨fun _ => ⟨1081, by decide, l_gone (hs.2.2.2.2.2.2.2.2.2.2.2.2.2.2.2.2.2.2.2.2.2.2.2.2.2.2.1) hw hi hL hk2 k0⟩, fun _ => ⟨fun _ => ⟨1118, by decide, l_sure (hs.2.2.2.2.2.2.2.2.2.2.2.2.2.2.2.2.2.2.2.2.2.2.2.2.2.2.2.1) hw hi hL hk2 k0⟩, fun _ => ⟨fun _ => ⟨1143, by decide, l_ask (hs.2.2.2.2.2.2.2.2.2.2.2.2.2.2.2.2.2.2.2.2.2.2.2.2.2.2.2.2.1) hw hi hL hk2 k0⟩, fun _ => ⟨fun _ => ⟨1168, by decide, l_game (hs.2.2.2.2.2.2.2.2.2.2.2.2.2.2.2.2.2.2.2.2.2.2.2.2.2.2.2.2.2.1) hw hi hL hk2 k0⟩, fun _ => ⟨fun _ => ⟨1255, by decide, l_rests (hs.2.2.2.2.2.2.2.2.2.2.2.2.2.2.2.2.2.2.2.2.2.2.2.2.2.2.2.2.2.2.1) hw hi hL hk2 k0⟩, fun _ => ⟨fun _ => ⟨1316, by decide, l_odds (hs.2.2.2.2.2.2.2.2.2.2.2.2.2.2.2.2.2.2.2.2.2.2.2.2.2.2.2.2.2.2.2.1) hw hi hL hk2 k0⟩, fun _ => ⟨fun _ => ⟨1353, by decide, l_shares (hs.2.2.2.2.2.2.2.2.2.2.2.2.2.2.2.2.2.2.2.2.2.2.2.2.2.2.2.2.2.2.2.2.1) hw hi hL hk2 k0⟩, fun _ => ⟨fun _ => ⟨1390, by decide, l_most (hs.2.2.2.2.2.2.2.2.2.2.2.2.2.2.2.2.2.2.2.2.2.2.2.2.2.2.2.2.2.2.2.2.2.1) hw hi hL hk2 k0⟩, fun _ => ⟨fun _ => ⟨1415, by decide, l_known (hs.2.2.2.2.2.2.2.2.2.2.2.2.2.2.2.2.2.2.2.2.2.2.2.2.2.2.2.2.2.2.2.2.2.2.1) hw hi hL hk2 k0⟩, fun _ => ⟨fun _ => ⟨1440, by decide, l_quiet (hs.2.2.2.2.2.2.2.2.2.2.2.2.2.2.2.2.2.2.2.2.2.2.2.2.2.2.2.2.2.2.2.2.2.2.2.1) hw hi hL hk2 k0⟩, fun _ => ⟨fun _ => ⟨1465, by decide, l_image (hs.2.2.2.2.2.2.2.2.2.2.2.2.2.2.2.2.2.2.2.2.2.2.2.2.2.2.2.2.2.2.2.2.2.2.2.2.1) hw hi hL hk2 k0⟩, fun _ => ⟨fun _ => ⟨1478, by decide, l_back (hs.2.2.2.2.2.2.2.2.2.2.2.2.2.2.2.2.2.2.2.2.2.2.2.2.2.2.2.2.2.2.2.2.2.2.2.2.2.1) hw hi hL hk2 k0⟩, fun _ => ⟨fun _ => ⟨1491, by decide, l_count (hs.2.2.2.2.2.2.2.2.2.2.2.2.2.2.2.2.2.2.2.2.2.2.2.2.2.2.2.2.2.2.2.2.2.2.2.2.2.2) hw hi hL hk2 k0⟩, fun _ => ⟨1516, by decide, k0 w hw⟩⟩⟩⟩⟩⟩⟩⟩⟩⟩⟩⟩⟩⟩⟩⟩⟩⟩⟩⟩⟩⟩⟩⟩⟩⟩⟩⟩⟩⟩⟩⟩⟩⟩⟩⟩⟩⟩⟩⟩
theorem l_loop {Rl : z_Wd → Prop} (hs : S_all Rl) {B : Nat × Nat × (Nat → Int32)} {T : Nat × Nat} (hL : B.2.1 ≤ 3584) : ∀ (n : Nat) (kc ks : Nat) (i : Int) (w : z_Wd), Rl w → 0 ≤ i → i ≤ 4000 → (B.2.1 : Int) - i < 7 * (n + 1 : Nat) → kc + n ≤ 601024 → ks + 6 * n ≤ 7293034 → y_Wp m_L_law 0 23 [(0, zR 300), (1, zR 27), (2, zR 0), (3, zR 26), (4, zI i)] [] w (l_X B T kc ks) := by
  intro n
  induction n with
  | zero =>
    intro kc ks i w hw h0 h4 hb hc hs2
    refine y_iload (pc' := 25) 4 rfl dL_law_23 rfl ?_
    refine y_aload_n (pc' := 26) 0 rfl rfl dL_law_25 rfl ?_
    refine l_slen (pc' := 27) hL dL_law_26 rfl ?_
    refine y_bipush (pc' := 29) (by decide) dL_law_27 rfl ?_
    refine y_isub (pc' := 30) dL_law_29 rfl ?_
    refine y_icmp_gt 1522 dL_law_30 (by decide) (pc' := 33) rfl (by omega) (by omega) (fun _ => ?_) (fun c => absurd c (by omega))
    exact y_iconst (pc' := 1523) dL_law_1522 rfl (l_ret (by omega) dL_law_1523)
  | succ n ih =>
    intro kc ks i w hw h0 h4 hb hc hs2
    refine y_iload (pc' := 25) 4 rfl dL_law_23 rfl ?_
    refine y_aload_n (pc' := 26) 0 rfl rfl dL_law_25 rfl ?_
    refine l_slen (pc' := 27) hL dL_law_26 rfl ?_
    refine y_bipush (pc' := 29) (by decide) dL_law_27 rfl ?_
    refine y_isub (pc' := 30) dL_law_29 rfl ?_
    refine y_icmp_gt 1522 dL_law_30 (by decide) (pc' := 33) rfl (by omega) (by omega) (fun _ => ?_) (fun c => ?_)
    · exact y_iconst (pc' := 1523) dL_law_1522 rfl (l_ret (by omega) dL_law_1523)
    · refine l_turn hs hw (by omega) hL (by omega) (fun w' kc' ks' hw' h1 h2 => ?_)
      refine y_iinc (pc' := 1519) (ls' := [(0, zR 300), (1, zR 27), (2, zR 0), (3, zR 26), (4, zI (i + 7))]) 4 rfl (by decide) rfl rfl dL_law_1516 rfl ?_
      exact y_goto 23 dL_law_1519 (by decide) (ih kc' ks' (i + 7) w' hw' (by omega) (by omega) (by omega) (by omega) (by omega))
