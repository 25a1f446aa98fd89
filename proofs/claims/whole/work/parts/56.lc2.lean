set_option maxRecDepth 8000 in
set_option maxHeartbeats 2000000 in
theorem l_fill {Rl : z_Wd → Prop} {B : Nat × Nat × (Nat → Int32)} {T : Nat × Nat} {kc ks : Nat} {i : Int} {w : z_Wd} (hs : S_fill Rl) (hw : Rl w) (hi : 0 ≤ i ∧ i + 7 ≤ B.2.1) (hL : B.2.1 ≤ 3584) (hk : kc ≤ 601024 ∧ ks ≤ 7293034) (k : ∀ w', Rl w' → y_Wp m_L_law 0 1516 [(0, zR 300), (1, zR 27), (2, zR 0), (3, zR 26), (4, zI i)] [] w' (l_X B T kc ks)) : y_Wp m_L_law 0 676 [(0, zR 300), (1, zR 27), (2, zR 0), (3, zR 26), (4, zI i)] [] w (l_X B T kc ks) := by
  obtain ⟨p1, p2, p3, p4⟩ := hs w ((B.2.2 (i + 1).toNat).toInt) (z_r32 _) hw
  refine y_aload_n (pc' := 677) 1 rfl rfl dL_law_676 rfl ?_
  refine y_aload_n (pc' := 678) 0 rfl rfl dL_law_677 rfl ?_
  refine y_iload (pc' := 680) 4 rfl dL_law_678 rfl ?_
  refine y_iconst (pc' := 681) dL_law_680 rfl ?_
  refine y_iadd (pc' := 682) dL_law_681 rfl ?_
  refine l_sld (pc' := 683) (by omega) hL dL_law_682 rfl ?_
  refine y_invV (as := [zI (B.2.2 (i + 1).toNat).toInt]) (st := []) (C := m_X11_fill) (d' := 2) (fs := [30, 32, 35, 39, 43, 49, 55, 57, 72, 74, 78, 80, 0, 0, 1]) (pc' := 686) dL_law_683 rfl t_4_37 k_X11_fill rfl (by decide) rfl rfl rfl rfl (Nat.le_of_ble_eq_true rfl) ⟨Nat.le_of_ble_eq_true rfl, Nat.le_of_ble_eq_true rfl⟩ hk ?_
  refine c_D_fill (d := 0) p1 ?_
  show y_Wp m_L_law 0 686 [(0, zR 300), (1, zR 27), (2, zR 0), (3, zR 26), (4, zI i)] [zI ((F_D_fill (w) ((B.2.2 (i + 1).toNat).toInt)).1)] ((F_D_fill (w) ((B.2.2 (i + 1).toNat).toInt)).2) _
  refine y_aload_n (pc' := 687) 2 rfl rfl dL_law_686 rfl ?_
  refine y_aload_n (pc' := 688) 0 rfl rfl dL_law_687 rfl ?_
  refine y_iload (pc' := 690) 4 rfl dL_law_688 rfl ?_
  refine y_iconst (pc' := 691) dL_law_690 rfl ?_
  refine y_iadd (pc' := 692) dL_law_691 rfl ?_
  refine l_sld (pc' := 693) (by omega) hL dL_law_692 rfl ?_
  refine y_invV (as := [zI (B.2.2 (i + 1).toNat).toInt]) (st := [zI ((F_D_fill (w) ((B.2.2 (i + 1).toNat).toInt)).1)]) (C := m_X12_fill) (d' := 2) (fs := [0, 3, 0, 0, 0, 0, 4, 5, 6, 7, 8, 9, 10, 0, 0, 11, 12, 13, 14, 15, 16, 0, 0, 0, 17, 18, 19, 20, 0, 0, 0, 21, 22, 0, 0, 23, 0, 1, 24, 0, 0, 25, 26, 0, 27, 0]) (pc' := 696) dL_law_693 rfl t_8_27 k_X12_fill rfl (by decide) rfl rfl rfl rfl (Nat.le_of_ble_eq_true rfl) ⟨Nat.le_of_ble_eq_true rfl, Nat.le_of_ble_eq_true rfl⟩ hk ?_
  refine c_M_fill (d := 0) p2 ?_
  show y_Wp m_L_law 0 696 [(0, zR 300), (1, zR 27), (2, zR 0), (3, zR 26), (4, zI i)] [zI ((F_M_fill ((F_D_fill (w) ((B.2.2 (i + 1).toNat).toInt)).2) ((B.2.2 (i + 1).toNat).toInt)).1), zI ((F_D_fill (w) ((B.2.2 (i + 1).toNat).toInt)).1)] ((F_M_fill ((F_D_fill (w) ((B.2.2 (i + 1).toNat).toInt)).2) ((B.2.2 (i + 1).toNat).toInt)).2) _
  rw [← p3]
  exact y_icmp_same 1516 dL_law_696 (by decide) (k _ p4)
set_option maxRecDepth 8000 in
set_option maxHeartbeats 2000000 in
theorem l_give {Rl : z_Wd → Prop} {B : Nat × Nat × (Nat → Int32)} {T : Nat × Nat} {kc ks : Nat} {i : Int} {w : z_Wd} (hs : S_give Rl) (hw : Rl w) (hi : 0 ≤ i ∧ i + 7 ≤ B.2.1) (hL : B.2.1 ≤ 3584) (hk : kc ≤ 601024 ∧ ks ≤ 7293034) (k : ∀ w', Rl w' → y_Wp m_L_law 0 1516 [(0, zR 300), (1, zR 27), (2, zR 0), (3, zR 26), (4, zI i)] [] w' (l_X B T kc ks)) : y_Wp m_L_law 0 701 [(0, zR 300), (1, zR 27), (2, zR 0), (3, zR 26), (4, zI i)] [] w (l_X B T kc ks) := by
  obtain ⟨p1, p2, p3, p4⟩ := hs w ((B.2.2 (i + 1).toNat).toInt) (z_r32 _) hw
  refine y_aload_n (pc' := 702) 1 rfl rfl dL_law_701 rfl ?_
  refine y_aload_n (pc' := 703) 0 rfl rfl dL_law_702 rfl ?_
  refine y_iload (pc' := 705) 4 rfl dL_law_703 rfl ?_
  refine y_iconst (pc' := 706) dL_law_705 rfl ?_
  refine y_iadd (pc' := 707) dL_law_706 rfl ?_
  refine l_sld (pc' := 708) (by omega) hL dL_law_707 rfl ?_
  refine y_invV (as := [zI (B.2.2 (i + 1).toNat).toInt]) (st := []) (C := m_X11_give) (d' := 2) (fs := [30, 32, 35, 39, 43, 49, 55, 57, 72, 74, 78, 80, 0, 0, 1]) (pc' := 711) dL_law_708 rfl t_4_45 k_X11_give rfl (by decide) rfl rfl rfl rfl (Nat.le_of_ble_eq_true rfl) ⟨Nat.le_of_ble_eq_true rfl, Nat.le_of_ble_eq_true rfl⟩ hk ?_
  refine c_D_give (d := 0) p1 ?_
  show y_Wp m_L_law 0 711 [(0, zR 300), (1, zR 27), (2, zR 0), (3, zR 26), (4, zI i)] [zI ((F_D_give (w) ((B.2.2 (i + 1).toNat).toInt)).1)] ((F_D_give (w) ((B.2.2 (i + 1).toNat).toInt)).2) _
  refine y_aload_n (pc' := 712) 2 rfl rfl dL_law_711 rfl ?_
  refine y_aload_n (pc' := 713) 0 rfl rfl dL_law_712 rfl ?_
  refine y_iload (pc' := 715) 4 rfl dL_law_713 rfl ?_
  refine y_iconst (pc' := 716) dL_law_715 rfl ?_
  refine y_iadd (pc' := 717) dL_law_716 rfl ?_
  refine l_sld (pc' := 718) (by omega) hL dL_law_717 rfl ?_
  refine y_invV (as := [zI (B.2.2 (i + 1).toNat).toInt]) (st := [zI ((F_D_give (w) ((B.2.2 (i + 1).toNat).toInt)).1)]) (C := m_X12_give) (d' := 1) (fs := [0, 3, 0, 0, 0, 0, 4, 5, 6, 7, 8, 9, 10, 0, 0, 11, 12, 13, 14, 15, 16, 0, 0, 0, 17, 18, 19, 20, 0, 0, 0, 21, 22, 0, 0, 23, 0, 1, 24, 0, 0, 25, 26, 0, 27, 0]) (pc' := 721) dL_law_718 rfl t_8_31 k_X12_give rfl (by decide) rfl rfl rfl rfl (Nat.le_of_ble_eq_true rfl) ⟨Nat.le_of_ble_eq_true rfl, Nat.le_of_ble_eq_true rfl⟩ hk ?_
  refine c_M_give (d := 0) p2 ?_
  show y_Wp m_L_law 0 721 [(0, zR 300), (1, zR 27), (2, zR 0), (3, zR 26), (4, zI i)] [zI ((F_M_give ((F_D_give (w) ((B.2.2 (i + 1).toNat).toInt)).2) ((B.2.2 (i + 1).toNat).toInt)).1), zI ((F_D_give (w) ((B.2.2 (i + 1).toNat).toInt)).1)] ((F_M_give ((F_D_give (w) ((B.2.2 (i + 1).toNat).toInt)).2) ((B.2.2 (i + 1).toNat).toInt)).2) _
  rw [← p3]
  exact y_icmp_same 1516 dL_law_721 (by decide) (k _ p4)
set_option maxRecDepth 8000 in
set_option maxHeartbeats 2000000 in
theorem l_years {Rl : z_Wd → Prop} {B : Nat × Nat × (Nat → Int32)} {T : Nat × Nat} {kc ks : Nat} {i : Int} {w : z_Wd} (hs : S_years Rl) (hw : Rl w) (hi : 0 ≤ i ∧ i + 7 ≤ B.2.1) (hL : B.2.1 ≤ 3584) (hk : kc ≤ 601024 ∧ ks ≤ 7293034) (k : ∀ w', Rl w' → y_Wp m_L_law 0 1516 [(0, zR 300), (1, zR 27), (2, zR 0), (3, zR 26), (4, zI i)] [] w' (l_X B T kc ks)) : y_Wp m_L_law 0 726 [(0, zR 300), (1, zR 27), (2, zR 0), (3, zR 26), (4, zI i)] [] w (l_X B T kc ks) := by
  obtain ⟨p1, p2, p3, p4⟩ := hs w ((B.2.2 (i + 1).toNat).toInt) (z_r32 _) hw
  refine y_aload_n (pc' := 727) 1 rfl rfl dL_law_726 rfl ?_
  refine y_aload_n (pc' := 728) 0 rfl rfl dL_law_727 rfl ?_
  refine y_iload (pc' := 730) 4 rfl dL_law_728 rfl ?_
  refine y_iconst (pc' := 731) dL_law_730 rfl ?_
  refine y_iadd (pc' := 732) dL_law_731 rfl ?_
  refine l_sld (pc' := 733) (by omega) hL dL_law_732 rfl ?_
  refine y_invV (as := [zI (B.2.2 (i + 1).toNat).toInt]) (st := []) (C := m_X11_years) (d' := 7) (fs := [30, 32, 35, 39, 43, 49, 55, 57, 72, 74, 78, 80, 0, 0, 1]) (pc' := 736) dL_law_733 rfl t_4_54 k_X11_years rfl (by decide) rfl rfl rfl rfl (Nat.le_of_ble_eq_true rfl) ⟨Nat.le_of_ble_eq_true rfl, Nat.le_of_ble_eq_true rfl⟩ hk ?_
  refine c_D_years (d := 0) p1 ?_
  show y_Wp m_L_law 0 736 [(0, zR 300), (1, zR 27), (2, zR 0), (3, zR 26), (4, zI i)] [zI ((F_D_years (w) ((B.2.2 (i + 1).toNat).toInt)).1)] ((F_D_years (w) ((B.2.2 (i + 1).toNat).toInt)).2) _
  refine y_aload_n (pc' := 737) 2 rfl rfl dL_law_736 rfl ?_
  refine y_aload_n (pc' := 738) 0 rfl rfl dL_law_737 rfl ?_
  refine y_iload (pc' := 740) 4 rfl dL_law_738 rfl ?_
  refine y_iconst (pc' := 741) dL_law_740 rfl ?_
  refine y_iadd (pc' := 742) dL_law_741 rfl ?_
  refine l_sld (pc' := 743) (by omega) hL dL_law_742 rfl ?_
  refine y_invV (as := [zI (B.2.2 (i + 1).toNat).toInt]) (st := [zI ((F_D_years (w) ((B.2.2 (i + 1).toNat).toInt)).1)]) (C := m_X12_years) (d' := 9) (fs := [0, 3, 0, 0, 0, 0, 4, 5, 6, 7, 8, 9, 10, 0, 0, 11, 12, 13, 14, 15, 16, 0, 0, 0, 17, 18, 19, 20, 0, 0, 0, 21, 22, 0, 0, 23, 0, 1, 24, 0, 0, 25, 26, 0, 27, 0]) (pc' := 746) dL_law_743 rfl t_8_35 k_X12_years rfl (by decide) rfl rfl rfl rfl (Nat.le_of_ble_eq_true rfl) ⟨Nat.le_of_ble_eq_true rfl, Nat.le_of_ble_eq_true rfl⟩ hk ?_
  refine c_M_years (d := 0) p2 ?_
  show y_Wp m_L_law 0 746 [(0, zR 300), (1, zR 27), (2, zR 0), (3, zR 26), (4, zI i)] [zI ((F_M_years ((F_D_years (w) ((B.2.2 (i + 1).toNat).toInt)).2) ((B.2.2 (i + 1).toNat).toInt)).1), zI ((F_D_years (w) ((B.2.2 (i + 1).toNat).toInt)).1)] ((F_M_years ((F_D_years (w) ((B.2.2 (i + 1).toNat).toInt)).2) ((B.2.2 (i + 1).toNat).toInt)).2) _
  rw [← p3]
  exact y_icmp_same 1516 dL_law_746 (by decide) (k _ p4)
set_option maxRecDepth 8000 in
set_option maxHeartbeats 2000000 in
theorem l_flies {Rl : z_Wd → Prop} {B : Nat × Nat × (Nat → Int32)} {T : Nat × Nat} {kc ks : Nat} {i : Int} {w : z_Wd} (hs : S_flies Rl) (hw : Rl w) (hi : 0 ≤ i ∧ i + 7 ≤ B.2.1) (hL : B.2.1 ≤ 3584) (hk : kc ≤ 601024 ∧ ks ≤ 7293034) (k : ∀ w', Rl w' → y_Wp m_L_law 0 1516 [(0, zR 300), (1, zR 27), (2, zR 0), (3, zR 26), (4, zI i)] [] w' (l_X B T kc ks)) : y_Wp m_L_law 0 751 [(0, zR 300), (1, zR 27), (2, zR 0), (3, zR 26), (4, zI i)] [] w (l_X B T kc ks) := by
  obtain ⟨p1, p2, p3, p4⟩ := hs w ((B.2.2 (i + 1).toNat).toInt) (z_r32 _) hw
  refine y_aload_n (pc' := 752) 1 rfl rfl dL_law_751 rfl ?_
  refine y_aload_n (pc' := 753) 0 rfl rfl dL_law_752 rfl ?_
  refine y_iload (pc' := 755) 4 rfl dL_law_753 rfl ?_
  refine y_iconst (pc' := 756) dL_law_755 rfl ?_
  refine y_iadd (pc' := 757) dL_law_756 rfl ?_
  refine l_sld (pc' := 758) (by omega) hL dL_law_757 rfl ?_
  refine y_invV (as := [zI (B.2.2 (i + 1).toNat).toInt]) (st := []) (C := m_X11_flies) (d' := 0) (fs := [30, 32, 35, 39, 43, 49, 55, 57, 72, 74, 78, 80, 0, 0, 1]) (pc' := 761) dL_law_758 rfl t_4_131 k_X11_flies rfl (by decide) rfl rfl rfl rfl (Nat.le_of_ble_eq_true rfl) ⟨Nat.le_of_ble_eq_true rfl, Nat.le_of_ble_eq_true rfl⟩ hk ?_
  refine c_D_flies (d := 0) p1 ?_
  show y_Wp m_L_law 0 761 [(0, zR 300), (1, zR 27), (2, zR 0), (3, zR 26), (4, zI i)] [zI ((F_D_flies (w) ((B.2.2 (i + 1).toNat).toInt)).1)] ((F_D_flies (w) ((B.2.2 (i + 1).toNat).toInt)).2) _
  refine y_aload_n (pc' := 762) 2 rfl rfl dL_law_761 rfl ?_
  refine y_aload_n (pc' := 763) 0 rfl rfl dL_law_762 rfl ?_
  refine y_iload (pc' := 765) 4 rfl dL_law_763 rfl ?_
  refine y_iconst (pc' := 766) dL_law_765 rfl ?_
  refine y_iadd (pc' := 767) dL_law_766 rfl ?_
  refine l_sld (pc' := 768) (by omega) hL dL_law_767 rfl ?_
  refine y_invV (as := [zI (B.2.2 (i + 1).toNat).toInt]) (st := [zI ((F_D_flies (w) ((B.2.2 (i + 1).toNat).toInt)).1)]) (C := m_X12_flies) (d' := 1) (fs := [0, 3, 0, 0, 0, 0, 4, 5, 6, 7, 8, 9, 10, 0, 0, 11, 12, 13, 14, 15, 16, 0, 0, 0, 17, 18, 19, 20, 0, 0, 0, 21, 22, 0, 0, 23, 0, 1, 24, 0, 0, 25, 26, 0, 27, 0]) (pc' := 771) dL_law_768 rfl t_8_51 k_X12_flies rfl (by decide) rfl rfl rfl rfl (Nat.le_of_ble_eq_true rfl) ⟨Nat.le_of_ble_eq_true rfl, Nat.le_of_ble_eq_true rfl⟩ hk ?_
  refine c_M_flies (d := 0) p2 ?_
  show y_Wp m_L_law 0 771 [(0, zR 300), (1, zR 27), (2, zR 0), (3, zR 26), (4, zI i)] [zI ((F_M_flies ((F_D_flies (w) ((B.2.2 (i + 1).toNat).toInt)).2) ((B.2.2 (i + 1).toNat).toInt)).1), zI ((F_D_flies (w) ((B.2.2 (i + 1).toNat).toInt)).1)] ((F_M_flies ((F_D_flies (w) ((B.2.2 (i + 1).toNat).toInt)).2) ((B.2.2 (i + 1).toNat).toInt)).2) _
  rw [← p3]
  exact y_icmp_same 1516 dL_law_771 (by decide) (k _ p4)
set_option maxRecDepth 8000 in
set_option maxHeartbeats 2000000 in
theorem l_decades {Rl : z_Wd → Prop} {B : Nat × Nat × (Nat → Int32)} {T : Nat × Nat} {kc ks : Nat} {i : Int} {w : z_Wd} (hs : S_decades Rl) (hw : Rl w) (hi : 0 ≤ i ∧ i + 7 ≤ B.2.1) (hL : B.2.1 ≤ 3584) (hk : kc ≤ 601024 ∧ ks ≤ 7293034) (k : ∀ w', Rl w' → y_Wp m_L_law 0 1516 [(0, zR 300), (1, zR 27), (2, zR 0), (3, zR 26), (4, zI i)] [] w' (l_X B T kc ks)) : y_Wp m_L_law 0 776 [(0, zR 300), (1, zR 27), (2, zR 0), (3, zR 26), (4, zI i)] [] w (l_X B T kc ks) := by
  obtain ⟨p1, p2, p3, p4⟩ := hs w ((B.2.2 (i + 1).toNat).toInt) ((zz_lor (zz_lshl (B.2.2 (i + 2).toNat).toInt 32) (zz_land (B.2.2 (i + 3).toNat).toInt 4294967295))) (z_r32 _) (z_rlor _ _) hw
  refine y_aload_n (pc' := 777) 1 rfl rfl dL_law_776 rfl ?_
  refine y_aload_n (pc' := 778) 0 rfl rfl dL_law_777 rfl ?_
  refine y_iload (pc' := 780) 4 rfl dL_law_778 rfl ?_
  refine y_iconst (pc' := 781) dL_law_780 rfl ?_
  refine y_iadd (pc' := 782) dL_law_781 rfl ?_
  refine l_sld (pc' := 783) (by omega) hL dL_law_782 rfl ?_
  refine y_aload_n (pc' := 784) 0 rfl rfl dL_law_783 rfl ?_
  refine y_iload (pc' := 786) 4 rfl dL_law_784 rfl ?_
  refine y_iconst (pc' := 787) dL_law_786 rfl ?_
  refine y_iadd (pc' := 788) dL_law_787 rfl ?_
  refine l_sld (pc' := 789) (by omega) hL dL_law_788 rfl ?_
  refine y_i2l (pc' := 790) (z_r32 _) dL_law_789 rfl ?_
  refine y_bipush (pc' := 792) (by decide) dL_law_790 rfl ?_
  refine y_lshl (pc' := 793) dL_law_792 rfl ?_
  refine y_aload_n (pc' := 794) 0 rfl rfl dL_law_793 rfl ?_
  refine y_iload (pc' := 796) 4 rfl dL_law_794 rfl ?_
  refine y_iconst (pc' := 797) dL_law_796 rfl ?_
  refine y_iadd (pc' := 798) dL_law_797 rfl ?_
  refine l_sld (pc' := 799) (by omega) hL dL_law_798 rfl ?_
  refine y_i2l (pc' := 800) (z_r32 _) dL_law_799 rfl ?_
  refine y_ldc2 (n := 4294967295) (pc' := 803) t_8_224 (by decide) dL_law_800 rfl ?_
  refine y_land (pc' := 804) dL_law_803 rfl ?_
  refine y_lor (pc' := 805) dL_law_804 rfl ?_
  refine y_invV (as := [zI (B.2.2 (i + 1).toNat).toInt, zJ (zz_lor (zz_lshl (B.2.2 (i + 2).toNat).toInt 32) (zz_land (B.2.2 (i + 3).toNat).toInt 4294967295))]) (st := []) (C := m_X11_decades) (d' := 7) (fs := [30, 32, 35, 39, 43, 49, 55, 57, 72, 74, 78, 80, 0, 0, 1]) (pc' := 808) dL_law_805 rfl t_4_135 k_X11_decades rfl (by decide) rfl rfl rfl rfl (Nat.le_of_ble_eq_true rfl) ⟨Nat.le_of_ble_eq_true rfl, Nat.le_of_ble_eq_true rfl⟩ hk ?_
  refine c_D_decades (d := 0) p1 ?_
  show y_Wp m_L_law 0 808 [(0, zR 300), (1, zR 27), (2, zR 0), (3, zR 26), (4, zI i)] [zI ((F_D_decades (w) ((B.2.2 (i + 1).toNat).toInt) ((zz_lor (zz_lshl (B.2.2 (i + 2).toNat).toInt 32) (zz_land (B.2.2 (i + 3).toNat).toInt 4294967295)))).1)] ((F_D_decades (w) ((B.2.2 (i + 1).toNat).toInt) ((zz_lor (zz_lshl (B.2.2 (i + 2).toNat).toInt 32) (zz_land (B.2.2 (i + 3).toNat).toInt 4294967295)))).2) _
  refine y_aload_n (pc' := 809) 2 rfl rfl dL_law_808 rfl ?_
  refine y_aload_n (pc' := 810) 0 rfl rfl dL_law_809 rfl ?_
  refine y_iload (pc' := 812) 4 rfl dL_law_810 rfl ?_
  refine y_iconst (pc' := 813) dL_law_812 rfl ?_
  refine y_iadd (pc' := 814) dL_law_813 rfl ?_
  refine l_sld (pc' := 815) (by omega) hL dL_law_814 rfl ?_
  refine y_aload_n (pc' := 816) 0 rfl rfl dL_law_815 rfl ?_
  refine y_iload (pc' := 818) 4 rfl dL_law_816 rfl ?_
  refine y_iconst (pc' := 819) dL_law_818 rfl ?_
  refine y_iadd (pc' := 820) dL_law_819 rfl ?_
  refine l_sld (pc' := 821) (by omega) hL dL_law_820 rfl ?_
  refine y_i2l (pc' := 822) (z_r32 _) dL_law_821 rfl ?_
  refine y_bipush (pc' := 824) (by decide) dL_law_822 rfl ?_
  refine y_lshl (pc' := 825) dL_law_824 rfl ?_
  refine y_aload_n (pc' := 826) 0 rfl rfl dL_law_825 rfl ?_
  refine y_iload (pc' := 828) 4 rfl dL_law_826 rfl ?_
  refine y_iconst (pc' := 829) dL_law_828 rfl ?_
  refine y_iadd (pc' := 830) dL_law_829 rfl ?_
  refine l_sld (pc' := 831) (by omega) hL dL_law_830 rfl ?_
  refine y_i2l (pc' := 832) (z_r32 _) dL_law_831 rfl ?_
  refine y_ldc2 (n := 4294967295) (pc' := 835) t_8_224 (by decide) dL_law_832 rfl ?_
  refine y_land (pc' := 836) dL_law_835 rfl ?_
  refine y_lor (pc' := 837) dL_law_836 rfl ?_
  refine y_invV (as := [zI (B.2.2 (i + 1).toNat).toInt, zJ (zz_lor (zz_lshl (B.2.2 (i + 2).toNat).toInt 32) (zz_land (B.2.2 (i + 3).toNat).toInt 4294967295))]) (st := [zI ((F_D_decades (w) ((B.2.2 (i + 1).toNat).toInt) ((zz_lor (zz_lshl (B.2.2 (i + 2).toNat).toInt 32) (zz_land (B.2.2 (i + 3).toNat).toInt 4294967295)))).1)]) (C := m_X12_decades) (d' := 9) (fs := [0, 3, 0, 0, 0, 0, 4, 5, 6, 7, 8, 9, 10, 0, 0, 11, 12, 13, 14, 15, 16, 0, 0, 0, 17, 18, 19, 20, 0, 0, 0, 21, 22, 0, 0, 23, 0, 1, 24, 0, 0, 25, 26, 0, 27, 0]) (pc' := 840) dL_law_837 rfl t_8_55 k_X12_decades rfl (by decide) rfl rfl rfl rfl (Nat.le_of_ble_eq_true rfl) ⟨Nat.le_of_ble_eq_true rfl, Nat.le_of_ble_eq_true rfl⟩ hk ?_
  refine c_M_decades (d := 0) p2 ?_
  show y_Wp m_L_law 0 840 [(0, zR 300), (1, zR 27), (2, zR 0), (3, zR 26), (4, zI i)] [zI ((F_M_decades ((F_D_decades (w) ((B.2.2 (i + 1).toNat).toInt) ((zz_lor (zz_lshl (B.2.2 (i + 2).toNat).toInt 32) (zz_land (B.2.2 (i + 3).toNat).toInt 4294967295)))).2) ((B.2.2 (i + 1).toNat).toInt) ((zz_lor (zz_lshl (B.2.2 (i + 2).toNat).toInt 32) (zz_land (B.2.2 (i + 3).toNat).toInt 4294967295)))).1), zI ((F_D_decades (w) ((B.2.2 (i + 1).toNat).toInt) ((zz_lor (zz_lshl (B.2.2 (i + 2).toNat).toInt 32) (zz_land (B.2.2 (i + 3).toNat).toInt 4294967295)))).1)] ((F_M_decades ((F_D_decades (w) ((B.2.2 (i + 1).toNat).toInt) ((zz_lor (zz_lshl (B.2.2 (i + 2).toNat).toInt 32) (zz_land (B.2.2 (i + 3).toNat).toInt 4294967295)))).2) ((B.2.2 (i + 1).toNat).toInt) ((zz_lor (zz_lshl (B.2.2 (i + 2).toNat).toInt 32) (zz_land (B.2.2 (i + 3).toNat).toInt 4294967295)))).2) _
  rw [← p3]
  exact y_icmp_same 1516 dL_law_840 (by decide) (k _ p4)
set_option maxRecDepth 8000 in
set_option maxHeartbeats 2000000 in
theorem l_status {Rl : z_Wd → Prop} {B : Nat × Nat × (Nat → Int32)} {T : Nat × Nat} {kc ks : Nat} {i : Int} {w : z_Wd} (hs : S_status Rl) (hw : Rl w) (hi : 0 ≤ i ∧ i + 7 ≤ B.2.1) (hL : B.2.1 ≤ 3584) (hk : kc ≤ 601024 ∧ ks ≤ 7293034) (k : ∀ w', Rl w' → y_Wp m_L_law 0 1516 [(0, zR 300), (1, zR 27), (2, zR 0), (3, zR 26), (4, zI i)] [] w' (l_X B T kc ks)) : y_Wp m_L_law 0 845 [(0, zR 300), (1, zR 27), (2, zR 0), (3, zR 26), (4, zI i)] [] w (l_X B T kc ks) := by
  obtain ⟨p1, p2, p3, p4⟩ := hs w ((B.2.2 (i + 1).toNat).toInt) (z_r32 _) hw
  refine y_aload_n (pc' := 846) 1 rfl rfl dL_law_845 rfl ?_
  refine y_aload_n (pc' := 847) 0 rfl rfl dL_law_846 rfl ?_
  refine y_iload (pc' := 849) 4 rfl dL_law_847 rfl ?_
  refine y_iconst (pc' := 850) dL_law_849 rfl ?_
  refine y_iadd (pc' := 851) dL_law_850 rfl ?_
  refine l_sld (pc' := 852) (by omega) hL dL_law_851 rfl ?_
  refine y_invV (as := [zI (B.2.2 (i + 1).toNat).toInt]) (st := []) (C := m_X11_status) (d' := 0) (fs := [30, 32, 35, 39, 43, 49, 55, 57, 72, 74, 78, 80, 0, 0, 1]) (pc' := 855) dL_law_852 rfl t_4_154 k_X11_status rfl (by decide) rfl rfl rfl rfl (Nat.le_of_ble_eq_true rfl) ⟨Nat.le_of_ble_eq_true rfl, Nat.le_of_ble_eq_true rfl⟩ hk ?_
  refine c_D_status (d := 0) p1 ?_
  show y_Wp m_L_law 0 855 [(0, zR 300), (1, zR 27), (2, zR 0), (3, zR 26), (4, zI i)] [zI (F_D_status (w) ((B.2.2 (i + 1).toNat).toInt))] (w) _
  refine y_aload_n (pc' := 856) 2 rfl rfl dL_law_855 rfl ?_
  refine y_aload_n (pc' := 857) 0 rfl rfl dL_law_856 rfl ?_
  refine y_iload (pc' := 859) 4 rfl dL_law_857 rfl ?_
  refine y_iconst (pc' := 860) dL_law_859 rfl ?_
  refine y_iadd (pc' := 861) dL_law_860 rfl ?_
  refine l_sld (pc' := 862) (by omega) hL dL_law_861 rfl ?_
  refine y_invV (as := [zI (B.2.2 (i + 1).toNat).toInt]) (st := [zI (F_D_status (w) ((B.2.2 (i + 1).toNat).toInt))]) (C := m_X12_status) (d' := 1) (fs := [0, 3, 0, 0, 0, 0, 4, 5, 6, 7, 8, 9, 10, 0, 0, 11, 12, 13, 14, 15, 16, 0, 0, 0, 17, 18, 19, 20, 0, 0, 0, 21, 22, 0, 0, 23, 0, 1, 24, 0, 0, 25, 26, 0, 27, 0]) (pc' := 865) dL_law_862 rfl t_8_69 k_X12_status rfl (by decide) rfl rfl rfl rfl (Nat.le_of_ble_eq_true rfl) ⟨Nat.le_of_ble_eq_true rfl, Nat.le_of_ble_eq_true rfl⟩ hk ?_
  refine c_M_status (d := 0) p2 ?_
  show y_Wp m_L_law 0 865 [(0, zR 300), (1, zR 27), (2, zR 0), (3, zR 26), (4, zI i)] [zI (F_M_status (w) ((B.2.2 (i + 1).toNat).toInt)), zI (F_D_status (w) ((B.2.2 (i + 1).toNat).toInt))] (w) _
  rw [← p3]
  exact y_icmp_same 1516 dL_law_865 (by decide) (k _ p4)
set_option maxRecDepth 8000 in
set_option maxHeartbeats 2000000 in
theorem l_undo {Rl : z_Wd → Prop} {B : Nat × Nat × (Nat → Int32)} {T : Nat × Nat} {kc ks : Nat} {i : Int} {w : z_Wd} (hs : S_undo Rl) (hw : Rl w) (hi : 0 ≤ i ∧ i + 7 ≤ B.2.1) (hL : B.2.1 ≤ 3584) (hk : kc ≤ 601024 ∧ ks ≤ 7293034) (k : ∀ w', Rl w' → y_Wp m_L_law 0 1516 [(0, zR 300), (1, zR 27), (2, zR 0), (3, zR 26), (4, zI i)] [] w' (l_X B T kc ks)) : y_Wp m_L_law 0 870 [(0, zR 300), (1, zR 27), (2, zR 0), (3, zR 26), (4, zI i)] [] w (l_X B T kc ks) := by
  obtain ⟨p1, p2, p3, p4⟩ := hs w hw
  refine y_aload_n (pc' := 871) 1 rfl rfl dL_law_870 rfl ?_
  refine y_invV (as := []) (st := []) (C := m_X11_undo) (d' := 2) (fs := [30, 32, 35, 39, 43, 49, 55, 57, 72, 74, 78, 80, 0, 0, 1]) (pc' := 874) dL_law_871 rfl t_4_158 k_X11_undo rfl (by decide) rfl rfl rfl rfl (Nat.le_of_ble_eq_true rfl) ⟨Nat.le_of_ble_eq_true rfl, Nat.le_of_ble_eq_true rfl⟩ hk ?_
  refine c_D_undo (d := 0) p1 ?_
  show y_Wp m_L_law 0 874 [(0, zR 300), (1, zR 27), (2, zR 0), (3, zR 26), (4, zI i)] [zI ((F_D_undo (w)).1)] ((F_D_undo (w)).2) _
  refine y_aload_n (pc' := 875) 2 rfl rfl dL_law_874 rfl ?_
  refine y_invV (as := []) (st := [zI ((F_D_undo (w)).1)]) (C := m_X12_undo) (d' := 0) (fs := [0, 3, 0, 0, 0, 0, 4, 5, 6, 7, 8, 9, 10, 0, 0, 11, 12, 13, 14, 15, 16, 0, 0, 0, 17, 18, 19, 20, 0, 0, 0, 21, 22, 0, 0, 23, 0, 1, 24, 0, 0, 25, 26, 0, 27, 0]) (pc' := 878) dL_law_875 rfl t_8_73 k_X12_undo rfl (by decide) rfl rfl rfl rfl (Nat.le_of_ble_eq_true rfl) ⟨Nat.le_of_ble_eq_true rfl, Nat.le_of_ble_eq_true rfl⟩ hk ?_
  refine c_M_undo (d := 0) p2 ?_
  show y_Wp m_L_law 0 878 [(0, zR 300), (1, zR 27), (2, zR 0), (3, zR 26), (4, zI i)] [zI ((F_M_undo ((F_D_undo (w)).2)).1), zI ((F_D_undo (w)).1)] ((F_M_undo ((F_D_undo (w)).2)).2) _
  rw [← p3]
  exact y_icmp_same 1516 dL_law_878 (by decide) (k _ p4)
set_option maxRecDepth 8000 in
set_option maxHeartbeats 2000000 in
theorem l_log {Rl : z_Wd → Prop} {B : Nat × Nat × (Nat → Int32)} {T : Nat × Nat} {kc ks : Nat} {i : Int} {w : z_Wd} (hs : S_log Rl) (hw : Rl w) (hi : 0 ≤ i ∧ i + 7 ≤ B.2.1) (hL : B.2.1 ≤ 3584) (hk : kc ≤ 601024 ∧ ks ≤ 7293034) (k : ∀ w', Rl w' → y_Wp m_L_law 0 1516 [(0, zR 300), (1, zR 27), (2, zR 0), (3, zR 26), (4, zI i)] [] w' (l_X B T kc ks)) : y_Wp m_L_law 0 883 [(0, zR 300), (1, zR 27), (2, zR 0), (3, zR 26), (4, zI i)] [] w (l_X B T kc ks) := by
  obtain ⟨p1, p2, p3, p4⟩ := hs w ((B.2.2 (i + 1).toNat).toInt) ((B.2.2 (i + 2).toNat).toInt) (z_r32 _) (z_r32 _) hw
  refine y_aload_n (pc' := 884) 1 rfl rfl dL_law_883 rfl ?_
  refine y_aload_n (pc' := 885) 0 rfl rfl dL_law_884 rfl ?_
  refine y_iload (pc' := 887) 4 rfl dL_law_885 rfl ?_
  refine y_iconst (pc' := 888) dL_law_887 rfl ?_
  refine y_iadd (pc' := 889) dL_law_888 rfl ?_
  refine l_sld (pc' := 890) (by omega) hL dL_law_889 rfl ?_
  refine y_aload_n (pc' := 891) 0 rfl rfl dL_law_890 rfl ?_
  refine y_iload (pc' := 893) 4 rfl dL_law_891 rfl ?_
  refine y_iconst (pc' := 894) dL_law_893 rfl ?_
  refine y_iadd (pc' := 895) dL_law_894 rfl ?_
  refine l_sld (pc' := 896) (by omega) hL dL_law_895 rfl ?_
  refine y_invV (as := [zI (B.2.2 (i + 1).toNat).toInt, zI (B.2.2 (i + 2).toNat).toInt]) (st := []) (C := m_X11_log) (d' := 3) (fs := [30, 32, 35, 39, 43, 49, 55, 57, 72, 74, 78, 80, 0, 0, 1]) (pc' := 899) dL_law_896 rfl t_4_174 k_X11_log rfl (by decide) rfl rfl rfl rfl (Nat.le_of_ble_eq_true rfl) ⟨Nat.le_of_ble_eq_true rfl, Nat.le_of_ble_eq_true rfl⟩ hk ?_
  refine c_D_log (d := 0) p1 ?_
  show y_Wp m_L_law 0 899 [(0, zR 300), (1, zR 27), (2, zR 0), (3, zR 26), (4, zI i)] [zI (F_D_log (w) ((B.2.2 (i + 1).toNat).toInt) ((B.2.2 (i + 2).toNat).toInt))] (w) _
  refine y_aload_n (pc' := 900) 2 rfl rfl dL_law_899 rfl ?_
  refine y_aload_n (pc' := 901) 0 rfl rfl dL_law_900 rfl ?_
  refine y_iload (pc' := 903) 4 rfl dL_law_901 rfl ?_
  refine y_iconst (pc' := 904) dL_law_903 rfl ?_
  refine y_iadd (pc' := 905) dL_law_904 rfl ?_
  refine l_sld (pc' := 906) (by omega) hL dL_law_905 rfl ?_
  refine y_aload_n (pc' := 907) 0 rfl rfl dL_law_906 rfl ?_
  refine y_iload (pc' := 909) 4 rfl dL_law_907 rfl ?_
  refine y_iconst (pc' := 910) dL_law_909 rfl ?_
  refine y_iadd (pc' := 911) dL_law_910 rfl ?_
  refine l_sld (pc' := 912) (by omega) hL dL_law_911 rfl ?_
  refine y_invV (as := [zI (B.2.2 (i + 1).toNat).toInt, zI (B.2.2 (i + 2).toNat).toInt]) (st := [zI (F_D_log (w) ((B.2.2 (i + 1).toNat).toInt) ((B.2.2 (i + 2).toNat).toInt))]) (C := m_X12_log) (d' := 1) (fs := [0, 3, 0, 0, 0, 0, 4, 5, 6, 7, 8, 9, 10, 0, 0, 11, 12, 13, 14, 15, 16, 0, 0, 0, 17, 18, 19, 20, 0, 0, 0, 21, 22, 0, 0, 23, 0, 1, 24, 0, 0, 25, 26, 0, 27, 0]) (pc' := 915) dL_law_912 rfl t_8_77 k_X12_log rfl (by decide) rfl rfl rfl rfl (Nat.le_of_ble_eq_true rfl) ⟨Nat.le_of_ble_eq_true rfl, Nat.le_of_ble_eq_true rfl⟩ hk ?_
  refine c_M_log (d := 0) p2 ?_
  show y_Wp m_L_law 0 915 [(0, zR 300), (1, zR 27), (2, zR 0), (3, zR 26), (4, zI i)] [zI (F_M_log (w) ((B.2.2 (i + 1).toNat).toInt) ((B.2.2 (i + 2).toNat).toInt)), zI (F_D_log (w) ((B.2.2 (i + 1).toNat).toInt) ((B.2.2 (i + 2).toNat).toInt))] (w) _
  rw [← p3]
  exact y_icmp_same 1516 dL_law_915 (by decide) (k _ p4)
set_option maxRecDepth 8000 in
set_option maxHeartbeats 2000000 in
theorem l_layer {Rl : z_Wd → Prop} {B : Nat × Nat × (Nat → Int32)} {T : Nat × Nat} {kc ks : Nat} {i : Int} {w : z_Wd} (hs : S_layer Rl) (hw : Rl w) (hi : 0 ≤ i ∧ i + 7 ≤ B.2.1) (hL : B.2.1 ≤ 3584) (hk : kc ≤ 601024 ∧ ks ≤ 7293034) (k : ∀ w', Rl w' → y_Wp m_L_law 0 1516 [(0, zR 300), (1, zR 27), (2, zR 0), (3, zR 26), (4, zI i)] [] w' (l_X B T kc ks)) : y_Wp m_L_law 0 920 [(0, zR 300), (1, zR 27), (2, zR 0), (3, zR 26), (4, zI i)] [] w (l_X B T kc ks) := by
  obtain ⟨p1, p2, p3, p4⟩ := hs w ((B.2.2 (i + 1).toNat).toInt) ((B.2.2 (i + 2).toNat).toInt) (z_r32 _) (z_r32 _) hw
  refine y_aload_n (pc' := 921) 1 rfl rfl dL_law_920 rfl ?_
  refine y_aload_n (pc' := 922) 0 rfl rfl dL_law_921 rfl ?_
  refine y_iload (pc' := 924) 4 rfl dL_law_922 rfl ?_
  refine y_iconst (pc' := 925) dL_law_924 rfl ?_
  refine y_iadd (pc' := 926) dL_law_925 rfl ?_
  refine l_sld (pc' := 927) (by omega) hL dL_law_926 rfl ?_
  refine y_aload_n (pc' := 928) 0 rfl rfl dL_law_927 rfl ?_
  refine y_iload (pc' := 930) 4 rfl dL_law_928 rfl ?_
  refine y_iconst (pc' := 931) dL_law_930 rfl ?_
  refine y_iadd (pc' := 932) dL_law_931 rfl ?_
  refine l_sld (pc' := 933) (by omega) hL dL_law_932 rfl ?_
  refine y_invV (as := [zI (B.2.2 (i + 1).toNat).toInt, zI (B.2.2 (i + 2).toNat).toInt]) (st := []) (C := m_X11_layer) (d' := 2) (fs := [30, 32, 35, 39, 43, 49, 55, 57, 72, 74, 78, 80, 0, 0, 1]) (pc' := 936) dL_law_933 rfl t_4_190 k_X11_layer rfl (by decide) rfl rfl rfl rfl (Nat.le_of_ble_eq_true rfl) ⟨Nat.le_of_ble_eq_true rfl, Nat.le_of_ble_eq_true rfl⟩ hk ?_
  refine c_D_layer (d := 0) p1 ?_
  show y_Wp m_L_law 0 936 [(0, zR 300), (1, zR 27), (2, zR 0), (3, zR 26), (4, zI i)] [zI (F_D_layer (w) ((B.2.2 (i + 1).toNat).toInt) ((B.2.2 (i + 2).toNat).toInt))] (w) _
  refine y_aload_n (pc' := 937) 2 rfl rfl dL_law_936 rfl ?_
  refine y_aload_n (pc' := 938) 0 rfl rfl dL_law_937 rfl ?_
  refine y_iload (pc' := 940) 4 rfl dL_law_938 rfl ?_
  refine y_iconst (pc' := 941) dL_law_940 rfl ?_
  refine y_iadd (pc' := 942) dL_law_941 rfl ?_
  refine l_sld (pc' := 943) (by omega) hL dL_law_942 rfl ?_
  refine y_aload_n (pc' := 944) 0 rfl rfl dL_law_943 rfl ?_
  refine y_iload (pc' := 946) 4 rfl dL_law_944 rfl ?_
  refine y_iconst (pc' := 947) dL_law_946 rfl ?_
  refine y_iadd (pc' := 948) dL_law_947 rfl ?_
  refine l_sld (pc' := 949) (by omega) hL dL_law_948 rfl ?_
  refine y_invV (as := [zI (B.2.2 (i + 1).toNat).toInt, zI (B.2.2 (i + 2).toNat).toInt]) (st := [zI (F_D_layer (w) ((B.2.2 (i + 1).toNat).toInt) ((B.2.2 (i + 2).toNat).toInt))]) (C := m_X12_layer) (d' := 2) (fs := [0, 3, 0, 0, 0, 0, 4, 5, 6, 7, 8, 9, 10, 0, 0, 11, 12, 13, 14, 15, 16, 0, 0, 0, 17, 18, 19, 20, 0, 0, 0, 21, 22, 0, 0, 23, 0, 1, 24, 0, 0, 25, 26, 0, 27, 0]) (pc' := 952) dL_law_949 rfl t_8_81 k_X12_layer rfl (by decide) rfl rfl rfl rfl (Nat.le_of_ble_eq_true rfl) ⟨Nat.le_of_ble_eq_true rfl, Nat.le_of_ble_eq_true rfl⟩ hk ?_
  refine c_M_layer (d := 0) p2 ?_
  show y_Wp m_L_law 0 952 [(0, zR 300), (1, zR 27), (2, zR 0), (3, zR 26), (4, zI i)] [zI (F_M_layer (w) ((B.2.2 (i + 1).toNat).toInt) ((B.2.2 (i + 2).toNat).toInt)), zI (F_D_layer (w) ((B.2.2 (i + 1).toNat).toInt) ((B.2.2 (i + 2).toNat).toInt))] (w) _
  rw [← p3]
  exact y_icmp_same 1516 dL_law_952 (by decide) (k _ p4)
set_option maxRecDepth 8000 in
set_option maxHeartbeats 2000000 in
theorem l_reach {Rl : z_Wd → Prop} {B : Nat × Nat × (Nat → Int32)} {T : Nat × Nat} {kc ks : Nat} {i : Int} {w : z_Wd} (hs : S_reach Rl) (hw : Rl w) (hi : 0 ≤ i ∧ i + 7 ≤ B.2.1) (hL : B.2.1 ≤ 3584) (hk : kc ≤ 601024 ∧ ks ≤ 7293034) (k : ∀ w', Rl w' → y_Wp m_L_law 0 1516 [(0, zR 300), (1, zR 27), (2, zR 0), (3, zR 26), (4, zI i)] [] w' (l_X B T kc ks)) : y_Wp m_L_law 0 957 [(0, zR 300), (1, zR 27), (2, zR 0), (3, zR 26), (4, zI i)] [] w (l_X B T kc ks) := by
  obtain ⟨p1, p2, p3, p4⟩ := hs w ((B.2.2 (i + 1).toNat).toInt) (z_r32 _) hw
  refine y_aload_n (pc' := 958) 1 rfl rfl dL_law_957 rfl ?_
  refine y_aload_n (pc' := 959) 0 rfl rfl dL_law_958 rfl ?_
  refine y_iload (pc' := 961) 4 rfl dL_law_959 rfl ?_
  refine y_iconst (pc' := 962) dL_law_961 rfl ?_
  refine y_iadd (pc' := 963) dL_law_962 rfl ?_
  refine l_sld (pc' := 964) (by omega) hL dL_law_963 rfl ?_
  refine y_invV (as := [zI (B.2.2 (i + 1).toNat).toInt]) (st := []) (C := m_X11_reach) (d' := 4) (fs := [30, 32, 35, 39, 43, 49, 55, 57, 72, 74, 78, 80, 0, 0, 1]) (pc' := 967) dL_law_964 rfl t_4_195 k_X11_reach rfl (by decide) rfl rfl rfl rfl (Nat.le_of_ble_eq_true rfl) ⟨Nat.le_of_ble_eq_true rfl, Nat.le_of_ble_eq_true rfl⟩ hk ?_
  refine c_D_reach (d := 0) p1 ?_
  show y_Wp m_L_law 0 967 [(0, zR 300), (1, zR 27), (2, zR 0), (3, zR 26), (4, zI i)] [zI (F_D_reach (w) ((B.2.2 (i + 1).toNat).toInt))] (w) _
  refine y_aload_n (pc' := 968) 2 rfl rfl dL_law_967 rfl ?_
  refine y_aload_n (pc' := 969) 0 rfl rfl dL_law_968 rfl ?_
  refine y_iload (pc' := 971) 4 rfl dL_law_969 rfl ?_
  refine y_iconst (pc' := 972) dL_law_971 rfl ?_
  refine y_iadd (pc' := 973) dL_law_972 rfl ?_
  refine l_sld (pc' := 974) (by omega) hL dL_law_973 rfl ?_
  refine y_invV (as := [zI (B.2.2 (i + 1).toNat).toInt]) (st := [zI (F_D_reach (w) ((B.2.2 (i + 1).toNat).toInt))]) (C := m_X12_reach) (d' := 4) (fs := [0, 3, 0, 0, 0, 0, 4, 5, 6, 7, 8, 9, 10, 0, 0, 11, 12, 13, 14, 15, 16, 0, 0, 0, 17, 18, 19, 20, 0, 0, 0, 21, 22, 0, 0, 23, 0, 1, 24, 0, 0, 25, 26, 0, 27, 0]) (pc' := 977) dL_law_974 rfl t_8_85 k_X12_reach rfl (by decide) rfl rfl rfl rfl (Nat.le_of_ble_eq_true rfl) ⟨Nat.le_of_ble_eq_true rfl, Nat.le_of_ble_eq_true rfl⟩ hk ?_
  refine c_M_reach (d := 0) p2 ?_
  show y_Wp m_L_law 0 977 [(0, zR 300), (1, zR 27), (2, zR 0), (3, zR 26), (4, zI i)] [zI (F_M_reach (w) ((B.2.2 (i + 1).toNat).toInt)), zI (F_D_reach (w) ((B.2.2 (i + 1).toNat).toInt))] (w) _
  rw [← p3]
  exact y_icmp_same 1516 dL_law_977 (by decide) (k _ p4)
set_option maxRecDepth 8000 in
set_option maxHeartbeats 2000000 in
theorem l_faction {Rl : z_Wd → Prop} {B : Nat × Nat × (Nat → Int32)} {T : Nat × Nat} {kc ks : Nat} {i : Int} {w : z_Wd} (hs : S_faction Rl) (hw : Rl w) (hi : 0 ≤ i ∧ i + 7 ≤ B.2.1) (hL : B.2.1 ≤ 3584) (hk : kc ≤ 601024 ∧ ks ≤ 7293034) (k : ∀ w', Rl w' → y_Wp m_L_law 0 1516 [(0, zR 300), (1, zR 27), (2, zR 0), (3, zR 26), (4, zI i)] [] w' (l_X B T kc ks)) : y_Wp m_L_law 0 982 [(0, zR 300), (1, zR 27), (2, zR 0), (3, zR 26), (4, zI i)] [] w (l_X B T kc ks) := by
  obtain ⟨p1, p2, p3, p4⟩ := hs w ((B.2.2 (i + 1).toNat).toInt) ((B.2.2 (i + 2).toNat).toInt) (z_r32 _) (z_r32 _) hw
  refine y_aload_n (pc' := 983) 1 rfl rfl dL_law_982 rfl ?_
  refine y_aload_n (pc' := 984) 0 rfl rfl dL_law_983 rfl ?_
  refine y_iload (pc' := 986) 4 rfl dL_law_984 rfl ?_
  refine y_iconst (pc' := 987) dL_law_986 rfl ?_
  refine y_iadd (pc' := 988) dL_law_987 rfl ?_
  refine l_sld (pc' := 989) (by omega) hL dL_law_988 rfl ?_
  refine y_aload_n (pc' := 990) 0 rfl rfl dL_law_989 rfl ?_
  refine y_iload (pc' := 992) 4 rfl dL_law_990 rfl ?_
  refine y_iconst (pc' := 993) dL_law_992 rfl ?_
  refine y_iadd (pc' := 994) dL_law_993 rfl ?_
  refine l_sld (pc' := 995) (by omega) hL dL_law_994 rfl ?_
  refine y_invV (as := [zI (B.2.2 (i + 1).toNat).toInt, zI (B.2.2 (i + 2).toNat).toInt]) (st := []) (C := m_X11_faction) (d' := 14) (fs := [30, 32, 35, 39, 43, 49, 55, 57, 72, 74, 78, 80, 0, 0, 1]) (pc' := 998) dL_law_995 rfl t_4_207 k_X11_faction rfl (by decide) rfl rfl rfl rfl (Nat.le_of_ble_eq_true rfl) ⟨Nat.le_of_ble_eq_true rfl, Nat.le_of_ble_eq_true rfl⟩ hk ?_
  refine c_D_faction (d := 0) p1 ?_
  show y_Wp m_L_law 0 998 [(0, zR 300), (1, zR 27), (2, zR 0), (3, zR 26), (4, zI i)] [zI ((F_D_faction (w) ((B.2.2 (i + 1).toNat).toInt) ((B.2.2 (i + 2).toNat).toInt)).1)] ((F_D_faction (w) ((B.2.2 (i + 1).toNat).toInt) ((B.2.2 (i + 2).toNat).toInt)).2) _
  refine y_aload_n (pc' := 999) 2 rfl rfl dL_law_998 rfl ?_
  refine y_aload_n (pc' := 1000) 0 rfl rfl dL_law_999 rfl ?_
  refine y_iload (pc' := 1002) 4 rfl dL_law_1000 rfl ?_
  refine y_iconst (pc' := 1003) dL_law_1002 rfl ?_
  refine y_iadd (pc' := 1004) dL_law_1003 rfl ?_
  refine l_sld (pc' := 1005) (by omega) hL dL_law_1004 rfl ?_
  refine y_aload_n (pc' := 1006) 0 rfl rfl dL_law_1005 rfl ?_
  refine y_iload (pc' := 1008) 4 rfl dL_law_1006 rfl ?_
  refine y_iconst (pc' := 1009) dL_law_1008 rfl ?_
  refine y_iadd (pc' := 1010) dL_law_1009 rfl ?_
  refine l_sld (pc' := 1011) (by omega) hL dL_law_1010 rfl ?_
  refine y_invV (as := [zI (B.2.2 (i + 1).toNat).toInt, zI (B.2.2 (i + 2).toNat).toInt]) (st := [zI ((F_D_faction (w) ((B.2.2 (i + 1).toNat).toInt) ((B.2.2 (i + 2).toNat).toInt)).1)]) (C := m_X12_faction) (d' := 15) (fs := [0, 3, 0, 0, 0, 0, 4, 5, 6, 7, 8, 9, 10, 0, 0, 11, 12, 13, 14, 15, 16, 0, 0, 0, 17, 18, 19, 20, 0, 0, 0, 21, 22, 0, 0, 23, 0, 1, 24, 0, 0, 25, 26, 0, 27, 0]) (pc' := 1014) dL_law_1011 rfl t_8_89 k_X12_faction rfl (by decide) rfl rfl rfl rfl (Nat.le_of_ble_eq_true rfl) ⟨Nat.le_of_ble_eq_true rfl, Nat.le_of_ble_eq_true rfl⟩ hk ?_
  refine c_M_faction (d := 0) p2 ?_
  show y_Wp m_L_law 0 1014 [(0, zR 300), (1, zR 27), (2, zR 0), (3, zR 26), (4, zI i)] [zI ((F_M_faction ((F_D_faction (w) ((B.2.2 (i + 1).toNat).toInt) ((B.2.2 (i + 2).toNat).toInt)).2) ((B.2.2 (i + 1).toNat).toInt) ((B.2.2 (i + 2).toNat).toInt)).1), zI ((F_D_faction (w) ((B.2.2 (i + 1).toNat).toInt) ((B.2.2 (i + 2).toNat).toInt)).1)] ((F_M_faction ((F_D_faction (w) ((B.2.2 (i + 1).toNat).toInt) ((B.2.2 (i + 2).toNat).toInt)).2) ((B.2.2 (i + 1).toNat).toInt) ((B.2.2 (i + 2).toNat).toInt)).2) _
  rw [← p3]
  exact y_icmp_same 1516 dL_law_1014 (by decide) (k _ p4)
set_option maxRecDepth 8000 in
set_option maxHeartbeats 2000000 in
theorem l_silence {Rl : z_Wd → Prop} {B : Nat × Nat × (Nat → Int32)} {T : Nat × Nat} {kc ks : Nat} {i : Int} {w : z_Wd} (hs : S_silence Rl) (hw : Rl w) (hi : 0 ≤ i ∧ i + 7 ≤ B.2.1) (hL : B.2.1 ≤ 3584) (hk : kc ≤ 601024 ∧ ks ≤ 7293034) (k : ∀ w', Rl w' → y_Wp m_L_law 0 1516 [(0, zR 300), (1, zR 27), (2, zR 0), (3, zR 26), (4, zI i)] [] w' (l_X B T kc ks)) : y_Wp m_L_law 0 1019 [(0, zR 300), (1, zR 27), (2, zR 0), (3, zR 26), (4, zI i)] [] w (l_X B T kc ks) := by
  obtain ⟨p1, p2, p3, p4⟩ := hs w ((B.2.2 (i + 1).toNat).toInt) (z_r32 _) hw
  refine y_aload_n (pc' := 1020) 1 rfl rfl dL_law_1019 rfl ?_
  refine y_aload_n (pc' := 1021) 0 rfl rfl dL_law_1020 rfl ?_
  refine y_iload (pc' := 1023) 4 rfl dL_law_1021 rfl ?_
  refine y_iconst (pc' := 1024) dL_law_1023 rfl ?_
  refine y_iadd (pc' := 1025) dL_law_1024 rfl ?_
  refine l_sld (pc' := 1026) (by omega) hL dL_law_1025 rfl ?_
  refine y_invV (as := [zI (B.2.2 (i + 1).toNat).toInt]) (st := []) (C := m_X11_silence) (d' := 3) (fs := [30, 32, 35, 39, 43, 49, 55, 57, 72, 74, 78, 80, 0, 0, 1]) (pc' := 1029) dL_law_1026 rfl t_4_234 k_X11_silence rfl (by decide) rfl rfl rfl rfl (Nat.le_of_ble_eq_true rfl) ⟨Nat.le_of_ble_eq_true rfl, Nat.le_of_ble_eq_true rfl⟩ hk ?_
  refine c_D_silence (d := 0) p1 ?_
  show y_Wp m_L_law 0 1029 [(0, zR 300), (1, zR 27), (2, zR 0), (3, zR 26), (4, zI i)] [zI (F_D_silence (w) ((B.2.2 (i + 1).toNat).toInt))] (w) _
  refine y_aload_n (pc' := 1030) 2 rfl rfl dL_law_1029 rfl ?_
  refine y_aload_n (pc' := 1031) 0 rfl rfl dL_law_1030 rfl ?_
  refine y_iload (pc' := 1033) 4 rfl dL_law_1031 rfl ?_
  refine y_iconst (pc' := 1034) dL_law_1033 rfl ?_
  refine y_iadd (pc' := 1035) dL_law_1034 rfl ?_
  refine l_sld (pc' := 1036) (by omega) hL dL_law_1035 rfl ?_
  refine y_invV (as := [zI (B.2.2 (i + 1).toNat).toInt]) (st := [zI (F_D_silence (w) ((B.2.2 (i + 1).toNat).toInt))]) (C := m_X12_silence) (d' := 5) (fs := [0, 3, 0, 0, 0, 0, 4, 5, 6, 7, 8, 9, 10, 0, 0, 11, 12, 13, 14, 15, 16, 0, 0, 0, 17, 18, 19, 20, 0, 0, 0, 21, 22, 0, 0, 23, 0, 1, 24, 0, 0, 25, 26, 0, 27, 0]) (pc' := 1039) dL_law_1036 rfl t_8_105 k_X12_silence rfl (by decide) rfl rfl rfl rfl (Nat.le_of_ble_eq_true rfl) ⟨Nat.le_of_ble_eq_true rfl, Nat.le_of_ble_eq_true rfl⟩ hk ?_
  refine c_M_silence (d := 0) p2 ?_
  show y_Wp m_L_law 0 1039 [(0, zR 300), (1, zR 27), (2, zR 0), (3, zR 26), (4, zI i)] [zI (F_M_silence (w) ((B.2.2 (i + 1).toNat).toInt)), zI (F_D_silence (w) ((B.2.2 (i + 1).toNat).toInt))] (w) _
  rw [← p3]
  exact y_icmp_same 1516 dL_law_1039 (by decide) (k _ p4)
set_option maxRecDepth 8000 in
set_option maxHeartbeats 2000000 in
theorem l_seen {Rl : z_Wd → Prop} {B : Nat × Nat × (Nat → Int32)} {T : Nat × Nat} {kc ks : Nat} {i : Int} {w : z_Wd} (hs : S_seen Rl) (hw : Rl w) (hi : 0 ≤ i ∧ i + 7 ≤ B.2.1) (hL : B.2.1 ≤ 3584) (hk : kc ≤ 601024 ∧ ks ≤ 7293034) (k : ∀ w', Rl w' → y_Wp m_L_law 0 1516 [(0, zR 300), (1, zR 27), (2, zR 0), (3, zR 26), (4, zI i)] [] w' (l_X B T kc ks)) : y_Wp m_L_law 0 1044 [(0, zR 300), (1, zR 27), (2, zR 0), (3, zR 26), (4, zI i)] [] w (l_X B T kc ks) := by
  obtain ⟨p1, p2, p3, p4⟩ := hs w ((B.2.2 (i + 1).toNat).toInt) ((B.2.2 (i + 2).toNat).toInt) (z_r32 _) (z_r32 _) hw
  refine y_aload_n (pc' := 1045) 1 rfl rfl dL_law_1044 rfl ?_
  refine y_aload_n (pc' := 1046) 0 rfl rfl dL_law_1045 rfl ?_
  refine y_iload (pc' := 1048) 4 rfl dL_law_1046 rfl ?_
  refine y_iconst (pc' := 1049) dL_law_1048 rfl ?_
  refine y_iadd (pc' := 1050) dL_law_1049 rfl ?_
  refine l_sld (pc' := 1051) (by omega) hL dL_law_1050 rfl ?_
  refine y_aload_n (pc' := 1052) 0 rfl rfl dL_law_1051 rfl ?_
  refine y_iload (pc' := 1054) 4 rfl dL_law_1052 rfl ?_
  refine y_iconst (pc' := 1055) dL_law_1054 rfl ?_
  refine y_iadd (pc' := 1056) dL_law_1055 rfl ?_
  refine l_sld (pc' := 1057) (by omega) hL dL_law_1056 rfl ?_
  refine y_invV (as := [zI (B.2.2 (i + 1).toNat).toInt, zI (B.2.2 (i + 2).toNat).toInt]) (st := []) (C := m_X11_seen) (d' := 2) (fs := [30, 32, 35, 39, 43, 49, 55, 57, 72, 74, 78, 80, 0, 0, 1]) (pc' := 1060) dL_law_1057 rfl t_5_3 k_X11_seen rfl (by decide) rfl rfl rfl rfl (Nat.le_of_ble_eq_true rfl) ⟨Nat.le_of_ble_eq_true rfl, Nat.le_of_ble_eq_true rfl⟩ hk ?_
  refine c_D_seen (d := 0) p1 ?_
  show y_Wp m_L_law 0 1060 [(0, zR 300), (1, zR 27), (2, zR 0), (3, zR 26), (4, zI i)] [zI ((F_D_seen (w) ((B.2.2 (i + 1).toNat).toInt) ((B.2.2 (i + 2).toNat).toInt)).1)] ((F_D_seen (w) ((B.2.2 (i + 1).toNat).toInt) ((B.2.2 (i + 2).toNat).toInt)).2) _
  refine y_aload_n (pc' := 1061) 2 rfl rfl dL_law_1060 rfl ?_
  refine y_aload_n (pc' := 1062) 0 rfl rfl dL_law_1061 rfl ?_
  refine y_iload (pc' := 1064) 4 rfl dL_law_1062 rfl ?_
  refine y_iconst (pc' := 1065) dL_law_1064 rfl ?_
  refine y_iadd (pc' := 1066) dL_law_1065 rfl ?_
  refine l_sld (pc' := 1067) (by omega) hL dL_law_1066 rfl ?_
  refine y_aload_n (pc' := 1068) 0 rfl rfl dL_law_1067 rfl ?_
  refine y_iload (pc' := 1070) 4 rfl dL_law_1068 rfl ?_
  refine y_iconst (pc' := 1071) dL_law_1070 rfl ?_
  refine y_iadd (pc' := 1072) dL_law_1071 rfl ?_
  refine l_sld (pc' := 1073) (by omega) hL dL_law_1072 rfl ?_
  refine y_invV (as := [zI (B.2.2 (i + 1).toNat).toInt, zI (B.2.2 (i + 2).toNat).toInt]) (st := [zI ((F_D_seen (w) ((B.2.2 (i + 1).toNat).toInt) ((B.2.2 (i + 2).toNat).toInt)).1)]) (C := m_X12_seen) (d' := 2) (fs := [0, 3, 0, 0, 0, 0, 4, 5, 6, 7, 8, 9, 10, 0, 0, 11, 12, 13, 14, 15, 16, 0, 0, 0, 17, 18, 19, 20, 0, 0, 0, 21, 22, 0, 0, 23, 0, 1, 24, 0, 0, 25, 26, 0, 27, 0]) (pc' := 1076) dL_law_1073 rfl t_8_109 k_X12_seen rfl (by decide) rfl rfl rfl rfl (Nat.le_of_ble_eq_true rfl) ⟨Nat.le_of_ble_eq_true rfl, Nat.le_of_ble_eq_true rfl⟩ hk ?_
  refine c_M_seen (d := 0) p2 ?_
  show y_Wp m_L_law 0 1076 [(0, zR 300), (1, zR 27), (2, zR 0), (3, zR 26), (4, zI i)] [zI ((F_M_seen ((F_D_seen (w) ((B.2.2 (i + 1).toNat).toInt) ((B.2.2 (i + 2).toNat).toInt)).2) ((B.2.2 (i + 1).toNat).toInt) ((B.2.2 (i + 2).toNat).toInt)).1), zI ((F_D_seen (w) ((B.2.2 (i + 1).toNat).toInt) ((B.2.2 (i + 2).toNat).toInt)).1)] ((F_M_seen ((F_D_seen (w) ((B.2.2 (i + 1).toNat).toInt) ((B.2.2 (i + 2).toNat).toInt)).2) ((B.2.2 (i + 1).toNat).toInt) ((B.2.2 (i + 2).toNat).toInt)).2) _
  rw [← p3]
  exact y_icmp_same 1516 dL_law_1076 (by decide) (k _ p4)
