set_option maxRecDepth 8000 in
set_option maxHeartbeats 2000000 in
theorem l_back {Rl : z_Wd → Prop} {B : Nat × Nat × (Nat → Int32)} {T : Nat × Nat} {kc ks : Nat} {i : Int} {w : z_Wd} (hs : S_back Rl) (hw : Rl w) (hi : 0 ≤ i ∧ i + 7 ≤ B.2.1) (hL : B.2.1 ≤ 3584) (hk : kc ≤ 601024 ∧ ks ≤ 7293034) (k : ∀ w', Rl w' → y_Wp m_L_law 0 1516 [(0, zR 300), (1, zR 27), (2, zR 0), (3, zR 26), (4, zI i)] [] w' (l_X B T kc ks)) : y_Wp m_L_law 0 1478 [(0, zR 300), (1, zR 27), (2, zR 0), (3, zR 26), (4, zI i)] [] w (l_X B T kc ks) := by
  obtain ⟨p1, p2, p3, p4⟩ := hs w hw
  refine y_aload_n (pc' := 1479) 1 rfl rfl dL_law_1478 rfl ?_
  refine y_invV (as := []) (st := []) (C := m_X11_back) (d' := 1) (fs := [30, 32, 35, 39, 43, 49, 55, 57, 72, 74, 78, 80, 0, 0, 1]) (pc' := 1482) dL_law_1479 rfl t_5_185 k_X11_back rfl (by decide) rfl rfl rfl rfl (Nat.le_of_ble_eq_true rfl) ⟨Nat.le_of_ble_eq_true rfl, Nat.le_of_ble_eq_true rfl⟩ hk ?_
  refine c_D_back (d := 0) p1 ?_
  show y_Wp m_L_law 0 1482 [(0, zR 300), (1, zR 27), (2, zR 0), (3, zR 26), (4, zI i)] [zI ((F_D_back (w)).1)] ((F_D_back (w)).2) _
  refine y_aload_n (pc' := 1483) 2 rfl rfl dL_law_1482 rfl ?_
  refine y_invV (as := []) (st := [zI ((F_D_back (w)).1)]) (C := m_X12_back) (d' := 0) (fs := [0, 3, 0, 0, 0, 0, 4, 5, 6, 7, 8, 9, 10, 0, 0, 11, 12, 13, 14, 15, 16, 0, 0, 0, 17, 18, 19, 20, 0, 0, 0, 21, 22, 0, 0, 23, 0, 1, 24, 0, 0, 25, 26, 0, 27, 0]) (pc' := 1486) dL_law_1483 rfl t_8_216 k_X12_back rfl (by decide) rfl rfl rfl rfl (Nat.le_of_ble_eq_true rfl) ⟨Nat.le_of_ble_eq_true rfl, Nat.le_of_ble_eq_true rfl⟩ hk ?_
  refine c_M_back (d := 0) p2 ?_
  show y_Wp m_L_law 0 1486 [(0, zR 300), (1, zR 27), (2, zR 0), (3, zR 26), (4, zI i)] [zI ((F_M_back ((F_D_back (w)).2)).1), zI ((F_D_back (w)).1)] ((F_M_back ((F_D_back (w)).2)).2) _
  rw [← p3]
  exact y_icmp_same 1516 dL_law_1486 (by decide) (k _ p4)
set_option maxRecDepth 8000 in
set_option maxHeartbeats 2000000 in
theorem l_count {Rl : z_Wd → Prop} {B : Nat × Nat × (Nat → Int32)} {T : Nat × Nat} {kc ks : Nat} {i : Int} {w : z_Wd} (hs : S_count Rl) (hw : Rl w) (hi : 0 ≤ i ∧ i + 7 ≤ B.2.1) (hL : B.2.1 ≤ 3584) (hk : kc ≤ 601024 ∧ ks ≤ 7293034) (k : ∀ w', Rl w' → y_Wp m_L_law 0 1516 [(0, zR 300), (1, zR 27), (2, zR 0), (3, zR 26), (4, zI i)] [] w' (l_X B T kc ks)) : y_Wp m_L_law 0 1491 [(0, zR 300), (1, zR 27), (2, zR 0), (3, zR 26), (4, zI i)] [] w (l_X B T kc ks) := by
  obtain ⟨p1, p2, p3, p4⟩ := hs w ((B.2.2 (i + 1).toNat).toInt) (z_r32 _) hw
  refine y_aload_n (pc' := 1492) 1 rfl rfl dL_law_1491 rfl ?_
  refine y_aload_n (pc' := 1493) 0 rfl rfl dL_law_1492 rfl ?_
  refine y_iload (pc' := 1495) 4 rfl dL_law_1493 rfl ?_
  refine y_iconst (pc' := 1496) dL_law_1495 rfl ?_
  refine y_iadd (pc' := 1497) dL_law_1496 rfl ?_
  refine l_sld (pc' := 1498) (by omega) hL dL_law_1497 rfl ?_
  refine y_invV (as := [zI (B.2.2 (i + 1).toNat).toInt]) (st := []) (C := m_X11_count) (d' := 3) (fs := [30, 32, 35, 39, 43, 49, 55, 57, 72, 74, 78, 80, 0, 0, 1]) (pc' := 1501) dL_law_1498 rfl t_5_189 k_X11_count rfl (by decide) rfl rfl rfl rfl (Nat.le_of_ble_eq_true rfl) ⟨Nat.le_of_ble_eq_true rfl, Nat.le_of_ble_eq_true rfl⟩ hk ?_
  refine c_D_count (d := 0) p1 ?_
  show y_Wp m_L_law 0 1501 [(0, zR 300), (1, zR 27), (2, zR 0), (3, zR 26), (4, zI i)] [zI (F_D_count (w) ((B.2.2 (i + 1).toNat).toInt))] (w) _
  refine y_aload_n (pc' := 1502) 2 rfl rfl dL_law_1501 rfl ?_
  refine y_aload_n (pc' := 1503) 0 rfl rfl dL_law_1502 rfl ?_
  refine y_iload (pc' := 1505) 4 rfl dL_law_1503 rfl ?_
  refine y_iconst (pc' := 1506) dL_law_1505 rfl ?_
  refine y_iadd (pc' := 1507) dL_law_1506 rfl ?_
  refine l_sld (pc' := 1508) (by omega) hL dL_law_1507 rfl ?_
  refine y_invV (as := [zI (B.2.2 (i + 1).toNat).toInt]) (st := [zI (F_D_count (w) ((B.2.2 (i + 1).toNat).toInt))]) (C := m_X12_count) (d' := 5) (fs := [0, 3, 0, 0, 0, 0, 4, 5, 6, 7, 8, 9, 10, 0, 0, 11, 12, 13, 14, 15, 16, 0, 0, 0, 17, 18, 19, 20, 0, 0, 0, 21, 22, 0, 0, 23, 0, 1, 24, 0, 0, 25, 26, 0, 27, 0]) (pc' := 1511) dL_law_1508 rfl t_8_220 k_X12_count rfl (by decide) rfl rfl rfl rfl (Nat.le_of_ble_eq_true rfl) ⟨Nat.le_of_ble_eq_true rfl, Nat.le_of_ble_eq_true rfl⟩ hk ?_
  refine c_M_count (d := 0) p2 ?_
  show y_Wp m_L_law 0 1511 [(0, zR 300), (1, zR 27), (2, zR 0), (3, zR 26), (4, zI i)] [zI (F_M_count (w) ((B.2.2 (i + 1).toNat).toInt)), zI (F_D_count (w) ((B.2.2 (i + 1).toNat).toInt))] (w) _
  rw [← p3]
  exact y_icmp_same 1516 dL_law_1511 (by decide) (k _ p4)
