def F_J_bitCount_0f7a4 (w : z_Wd) (a0 : Int) : Int := zz_and (((zz_and (((zz_and (a0 - (zz_and (zz_ushr a0 1) 1431655765)) 858993459) + (zz_and (zz_ushr (a0 - (zz_and (zz_ushr a0 1) 1431655765)) 2) 858993459)) + (zz_ushr ((zz_and (a0 - (zz_and (zz_ushr a0 1) 1431655765)) 858993459) + (zz_and (zz_ushr (a0 - (zz_and (zz_ushr a0 1) 1431655765)) 2) 858993459)) 4)) 252645135) + (zz_ushr (zz_and (((zz_and (a0 - (zz_and (zz_ushr a0 1) 1431655765)) 858993459) + (zz_and (zz_ushr (a0 - (zz_and (zz_ushr a0 1) 1431655765)) 2) 858993459)) + (zz_ushr ((zz_and (a0 - (zz_and (zz_ushr a0 1) 1431655765)) 858993459) + (zz_and (zz_ushr (a0 - (zz_and (zz_ushr a0 1) 1431655765)) 2) 858993459)) 4)) 252645135) 8)) + (zz_ushr ((zz_and (((zz_and (a0 - (zz_and (zz_ushr a0 1) 1431655765)) 858993459) + (zz_and (zz_ushr (a0 - (zz_and (zz_ushr a0 1) 1431655765)) 2) 858993459)) + (zz_ushr ((zz_and (a0 - (zz_and (zz_ushr a0 1) 1431655765)) 858993459) + (zz_and (zz_ushr (a0 - (zz_and (zz_ushr a0 1) 1431655765)) 2) 858993459)) 4)) 252645135) + (zz_ushr (zz_and (((zz_and (a0 - (zz_and (zz_ushr a0 1) 1431655765)) 858993459) + (zz_and (zz_ushr (a0 - (zz_and (zz_ushr a0 1) 1431655765)) 2) 858993459)) + (zz_ushr ((zz_and (a0 - (zz_and (zz_ushr a0 1) 1431655765)) 858993459) + (zz_and (zz_ushr (a0 - (zz_and (zz_ushr a0 1) 1431655765)) 2) 858993459)) 4)) 252645135) 8)) 16)) 63
set_option maxRecDepth 4000 in
theorem c_J_bitCount_0f7a4 {d : Nat} {w : z_Wd} {a0 : Int} {Q : Option z_V → z_Wd → Prop} (k : Q (some (zI (F_J_bitCount_0f7a4 w a0))) w) : z_Wc d m_J6_bitCount_0f7a4 [zI a0] w Q := by
  unfold F_J_bitCount_0f7a4 at k
  refine z_enterF (by decide +kernel) (Nat.le_of_ble_eq_true rfl) ?_
  show z_Wp m_J6_bitCount_0f7a4 _ 0 [(0, zI a0)] [] w _
  refine z_iload_n (pc' := 1) 0 rfl rfl dJ6_bitCount_0f7a4_0 rfl ?_
  refine z_iload_n (pc' := 2) 0 rfl rfl dJ6_bitCount_0f7a4_1 rfl ?_
  refine z_iconst (pc' := 3) dJ6_bitCount_0f7a4_2 rfl ?_
  refine z_iushr (pc' := 4) dJ6_bitCount_0f7a4_3 rfl ?_
  refine z_ldcw (n := 1431655765) (pc' := 7) t_3_142 (by decide) dJ6_bitCount_0f7a4_4 rfl ?_
  refine z_iand (pc' := 8) dJ6_bitCount_0f7a4_7 rfl ?_
  refine z_isub (pc' := 9) dJ6_bitCount_0f7a4_8 rfl ?_
  refine z_istore_n (pc' := 10) (ls' := [(0, zI (a0 - (zz_and (zz_ushr a0 1) 1431655765)))]) rfl (by decide) rfl rfl dJ6_bitCount_0f7a4_9 rfl ?_
  refine z_iload_n (pc' := 11) 0 rfl rfl dJ6_bitCount_0f7a4_10 rfl ?_
  refine z_ldcw (n := 858993459) (pc' := 14) t_3_143 (by decide) dJ6_bitCount_0f7a4_11 rfl ?_
  refine z_iand (pc' := 15) dJ6_bitCount_0f7a4_14 rfl ?_
  refine z_iload_n (pc' := 16) 0 rfl rfl dJ6_bitCount_0f7a4_15 rfl ?_
  refine z_iconst (pc' := 17) dJ6_bitCount_0f7a4_16 rfl ?_
  refine z_iushr (pc' := 18) dJ6_bitCount_0f7a4_17 rfl ?_
  refine z_ldcw (n := 858993459) (pc' := 21) t_3_143 (by decide) dJ6_bitCount_0f7a4_18 rfl ?_
  refine z_iand (pc' := 22) dJ6_bitCount_0f7a4_21 rfl ?_
  refine z_iadd (pc' := 23) dJ6_bitCount_0f7a4_22 rfl ?_
  refine z_istore_n (pc' := 24) (ls' := [(0, zI ((zz_and (a0 - (zz_and (zz_ushr a0 1) 1431655765)) 858993459) + (zz_and (zz_ushr (a0 - (zz_and (zz_ushr a0 1) 1431655765)) 2) 858993459)))]) rfl (by decide) rfl rfl dJ6_bitCount_0f7a4_23 rfl ?_
  refine z_iload_n (pc' := 25) 0 rfl rfl dJ6_bitCount_0f7a4_24 rfl ?_
  refine z_iload_n (pc' := 26) 0 rfl rfl dJ6_bitCount_0f7a4_25 rfl ?_
  refine z_iconst (pc' := 27) dJ6_bitCount_0f7a4_26 rfl ?_
  refine z_iushr (pc' := 28) dJ6_bitCount_0f7a4_27 rfl ?_
  refine z_iadd (pc' := 29) dJ6_bitCount_0f7a4_28 rfl ?_
  refine z_ldcw (n := 252645135) (pc' := 32) t_3_144 (by decide) dJ6_bitCount_0f7a4_29 rfl ?_
  refine z_iand (pc' := 33) dJ6_bitCount_0f7a4_32 rfl ?_
  refine z_istore_n (pc' := 34) (ls' := [(0, zI (zz_and (((zz_and (a0 - (zz_and (zz_ushr a0 1) 1431655765)) 858993459) + (zz_and (zz_ushr (a0 - (zz_and (zz_ushr a0 1) 1431655765)) 2) 858993459)) + (zz_ushr ((zz_and (a0 - (zz_and (zz_ushr a0 1) 1431655765)) 858993459) + (zz_and (zz_ushr (a0 - (zz_and (zz_ushr a0 1) 1431655765)) 2) 858993459)) 4)) 252645135))]) rfl (by decide) rfl rfl dJ6_bitCount_0f7a4_33 rfl ?_
  refine z_iload_n (pc' := 35) 0 rfl rfl dJ6_bitCount_0f7a4_34 rfl ?_
  refine z_iload_n (pc' := 36) 0 rfl rfl dJ6_bitCount_0f7a4_35 rfl ?_
  refine z_bipush (pc' := 38) (by decide) dJ6_bitCount_0f7a4_36 rfl ?_
  refine z_iushr (pc' := 39) dJ6_bitCount_0f7a4_38 rfl ?_
  refine z_iadd (pc' := 40) dJ6_bitCount_0f7a4_39 rfl ?_
  refine z_istore_n (pc' := 41) (ls' := [(0, zI ((zz_and (((zz_and (a0 - (zz_and (zz_ushr a0 1) 1431655765)) 858993459) + (zz_and (zz_ushr (a0 - (zz_and (zz_ushr a0 1) 1431655765)) 2) 858993459)) + (zz_ushr ((zz_and (a0 - (zz_and (zz_ushr a0 1) 1431655765)) 858993459) + (zz_and (zz_ushr (a0 - (zz_and (zz_ushr a0 1) 1431655765)) 2) 858993459)) 4)) 252645135) + (zz_ushr (zz_and (((zz_and (a0 - (zz_and (zz_ushr a0 1) 1431655765)) 858993459) + (zz_and (zz_ushr (a0 - (zz_and (zz_ushr a0 1) 1431655765)) 2) 858993459)) + (zz_ushr ((zz_and (a0 - (zz_and (zz_ushr a0 1) 1431655765)) 858993459) + (zz_and (zz_ushr (a0 - (zz_and (zz_ushr a0 1) 1431655765)) 2) 858993459)) 4)) 252645135) 8)))]) rfl (by decide) rfl rfl dJ6_bitCount_0f7a4_40 rfl ?_
  refine z_iload_n (pc' := 42) 0 rfl rfl dJ6_bitCount_0f7a4_41 rfl ?_
  refine z_iload_n (pc' := 43) 0 rfl rfl dJ6_bitCount_0f7a4_42 rfl ?_
  refine z_bipush (pc' := 45) (by decide) dJ6_bitCount_0f7a4_43 rfl ?_
  refine z_iushr (pc' := 46) dJ6_bitCount_0f7a4_45 rfl ?_
  refine z_iadd (pc' := 47) dJ6_bitCount_0f7a4_46 rfl ?_
  refine z_istore_n (pc' := 48) (ls' := [(0, zI (((zz_and (((zz_and (a0 - (zz_and (zz_ushr a0 1) 1431655765)) 858993459) + (zz_and (zz_ushr (a0 - (zz_and (zz_ushr a0 1) 1431655765)) 2) 858993459)) + (zz_ushr ((zz_and (a0 - (zz_and (zz_ushr a0 1) 1431655765)) 858993459) + (zz_and (zz_ushr (a0 - (zz_and (zz_ushr a0 1) 1431655765)) 2) 858993459)) 4)) 252645135) + (zz_ushr (zz_and (((zz_and (a0 - (zz_and (zz_ushr a0 1) 1431655765)) 858993459) + (zz_and (zz_ushr (a0 - (zz_and (zz_ushr a0 1) 1431655765)) 2) 858993459)) + (zz_ushr ((zz_and (a0 - (zz_and (zz_ushr a0 1) 1431655765)) 858993459) + (zz_and (zz_ushr (a0 - (zz_and (zz_ushr a0 1) 1431655765)) 2) 858993459)) 4)) 252645135) 8)) + (zz_ushr ((zz_and (((zz_and (a0 - (zz_and (zz_ushr a0 1) 1431655765)) 858993459) + (zz_and (zz_ushr (a0 - (zz_and (zz_ushr a0 1) 1431655765)) 2) 858993459)) + (zz_ushr ((zz_and (a0 - (zz_and (zz_ushr a0 1) 1431655765)) 858993459) + (zz_and (zz_ushr (a0 - (zz_and (zz_ushr a0 1) 1431655765)) 2) 858993459)) 4)) 252645135) + (zz_ushr (zz_and (((zz_and (a0 - (zz_and (zz_ushr a0 1) 1431655765)) 858993459) + (zz_and (zz_ushr (a0 - (zz_and (zz_ushr a0 1) 1431655765)) 2) 858993459)) + (zz_ushr ((zz_and (a0 - (zz_and (zz_ushr a0 1) 1431655765)) 858993459) + (zz_and (zz_ushr (a0 - (zz_and (zz_ushr a0 1) 1431655765)) 2) 858993459)) 4)) 252645135) 8)) 16)))]) rfl (by decide) rfl rfl dJ6_bitCount_0f7a4_47 rfl ?_
  refine z_iload_n (pc' := 49) 0 rfl rfl dJ6_bitCount_0f7a4_48 rfl ?_
  refine z_bipush (pc' := 51) (by decide) dJ6_bitCount_0f7a4_49 rfl ?_
  refine z_iand (pc' := 52) dJ6_bitCount_0f7a4_51 rfl ?_
  refine z_iret rfl dJ6_bitCount_0f7a4_52 ?_
  exact k
def P_J_floorMod_7cf53 (w : z_Wd) (a0 : Int) (a1 : Int) : Prop := (a1 ≠ 0) ∧ (-2147483648 ≤ a0 ∧ a0 < 2147483648) ∧ (-2147483648 ≤ a1 ∧ a1 < 2147483648) ∧ (-2147483648 ≤ zz_xor a0 a1 ∧ zz_xor a0 a1 < 2147483648) ∧ ((zz_xor a0 a1 ≥ 0 → True) ∧ (¬ (zz_xor a0 a1 ≥ 0) → -2147483648 ≤ Int.tmod a0 a1 ∧ Int.tmod a0 a1 < 2147483648))
def F_J_floorMod_7cf53 (w : z_Wd) (a0 : Int) (a1 : Int) : Int := if zz_xor a0 a1 ≥ 0 then Int.tmod a0 a1 else if Int.tmod a0 a1 = 0 then Int.tmod a0 a1 else (Int.tmod a0 a1) + a1
set_option maxRecDepth 4000 in
theorem c_J_floorMod_7cf53 {d : Nat} {w : z_Wd} {a0 a1 : Int} {Q : Option z_V → z_Wd → Prop} (h : P_J_floorMod_7cf53 w a0 a1) (k : Q (some (zI (F_J_floorMod_7cf53 w a0 a1))) w) : z_Wc d m_J9_floorMod_7cf53 [zI a0, zI a1] w Q := by
  unfold P_J_floorMod_7cf53 at h
  unfold F_J_floorMod_7cf53 at k
  refine z_enterF (by decide +kernel) (Nat.le_of_ble_eq_true rfl) ?_
  show z_Wp m_J9_floorMod_7cf53 _ 0 [(0, zI a0), (1, zI a1)] [] w _
  refine z_iload_n (pc' := 1) 0 rfl rfl dJ9_floorMod_7cf53_0 rfl ?_
  refine z_iload_n (pc' := 2) 1 rfl rfl dJ9_floorMod_7cf53_1 rfl ?_
  obtain ⟨r1, h⟩ := h
  obtain ⟨r2, h⟩ := h
  obtain ⟨r3, h⟩ := h
  refine z_irem (pc' := 3) r2 r3 r1 dJ9_floorMod_7cf53_2 rfl ?_
  refine z_istore_n (pc' := 4) (ls' := [(0, zI a0), (1, zI a1), (2, zI (Int.tmod a0 a1))]) rfl (by decide) rfl rfl dJ9_floorMod_7cf53_3 rfl ?_
  refine z_iload_n (pc' := 5) 0 rfl rfl dJ9_floorMod_7cf53_4 rfl ?_
  refine z_iload_n (pc' := 6) 1 rfl rfl dJ9_floorMod_7cf53_5 rfl ?_
  refine z_ixor (pc' := 7) dJ9_floorMod_7cf53_6 rfl ?_
  obtain ⟨r4, h⟩ := h
  refine z_if_ge 18 dJ9_floorMod_7cf53_7 (by decide) (pc' := 10) rfl r4 (fun c => ?_) (fun c => ?_)
  · have h := h.1 c
    rw [if_pos c] at k
    refine z_iload_n (pc' := 19) 2 rfl rfl dJ9_floorMod_7cf53_18 rfl ?_
    refine z_iret rfl dJ9_floorMod_7cf53_19 ?_
    exact k
  · have h := h.2 c
    rw [if_neg c] at k
    refine z_iload_n (pc' := 11) 2 rfl rfl dJ9_floorMod_7cf53_10 rfl ?_
    have r5 := h
    refine z_if_eq 18 dJ9_floorMod_7cf53_11 (by decide) (pc' := 14) rfl r5 (fun c => ?_) (fun c => ?_)
    · skip
      rw [if_pos c] at k
      refine z_iload_n (pc' := 19) 2 rfl rfl dJ9_floorMod_7cf53_18 rfl ?_
      refine z_iret rfl dJ9_floorMod_7cf53_19 ?_
      exact k
    · skip
      rw [if_neg c] at k
      refine z_iload_n (pc' := 15) 2 rfl rfl dJ9_floorMod_7cf53_14 rfl ?_
      refine z_iload_n (pc' := 16) 1 rfl rfl dJ9_floorMod_7cf53_15 rfl ?_
      refine z_iadd (pc' := 17) dJ9_floorMod_7cf53_16 rfl ?_
      refine z_iret rfl dJ9_floorMod_7cf53_17 ?_
      exact k
def P_J_max_7cf53 (w : z_Wd) (a0 : Int) (a1 : Int) : Prop := (-2147483648 ≤ a0 ∧ a0 < 2147483648) ∧ (-2147483648 ≤ a1 ∧ a1 < 2147483648)
def F_J_max_7cf53 (w : z_Wd) (a0 : Int) (a1 : Int) : Int := if a0 < a1 then a1 else a0
set_option maxRecDepth 4000 in
theorem c_J_max_7cf53 {d : Nat} {w : z_Wd} {a0 a1 : Int} {Q : Option z_V → z_Wd → Prop} (h : P_J_max_7cf53 w a0 a1) (k : Q (some (zI (F_J_max_7cf53 w a0 a1))) w) : z_Wc d m_J9_max_7cf53 [zI a0, zI a1] w Q := by
  unfold P_J_max_7cf53 at h
  unfold F_J_max_7cf53 at k
  refine z_enterF (by decide +kernel) (Nat.le_of_ble_eq_true rfl) ?_
  show z_Wp m_J9_max_7cf53 _ 0 [(0, zI a0), (1, zI a1)] [] w _
  refine z_iload_n (pc' := 1) 0 rfl rfl dJ9_max_7cf53_0 rfl ?_
  refine z_iload_n (pc' := 2) 1 rfl rfl dJ9_max_7cf53_1 rfl ?_
  obtain ⟨r1, h⟩ := h
  have r2 := h
  refine z_icmp_lt 9 dJ9_max_7cf53_2 (by decide) (pc' := 5) rfl r1 r2 (fun c => ?_) (fun c => ?_)
  · skip
    rw [if_pos c] at k
    refine z_iload_n (pc' := 10) 1 rfl rfl dJ9_max_7cf53_9 rfl ?_
    refine z_iret rfl dJ9_max_7cf53_10 ?_
    exact k
  · skip
    rw [if_neg c] at k
    refine z_iload_n (pc' := 6) 0 rfl rfl dJ9_max_7cf53_5 rfl ?_
    refine z_goto 10 dJ9_max_7cf53_6 (by decide) ?_
    refine z_iret rfl dJ9_max_7cf53_10 ?_
    exact k
def P_J_min_7cf53 (w : z_Wd) (a0 : Int) (a1 : Int) : Prop := (-2147483648 ≤ a0 ∧ a0 < 2147483648) ∧ (-2147483648 ≤ a1 ∧ a1 < 2147483648)
def F_J_min_7cf53 (w : z_Wd) (a0 : Int) (a1 : Int) : Int := if a0 > a1 then a1 else a0
set_option maxRecDepth 4000 in
theorem c_J_min_7cf53 {d : Nat} {w : z_Wd} {a0 a1 : Int} {Q : Option z_V → z_Wd → Prop} (h : P_J_min_7cf53 w a0 a1) (k : Q (some (zI (F_J_min_7cf53 w a0 a1))) w) : z_Wc d m_J9_min_7cf53 [zI a0, zI a1] w Q := by
  unfold P_J_min_7cf53 at h
  unfold F_J_min_7cf53 at k
  refine z_enterF (by decide +kernel) (Nat.le_of_ble_eq_true rfl) ?_
  show z_Wp m_J9_min_7cf53 _ 0 [(0, zI a0), (1, zI a1)] [] w _
  refine z_iload_n (pc' := 1) 0 rfl rfl dJ9_min_7cf53_0 rfl ?_
  refine z_iload_n (pc' := 2) 1 rfl rfl dJ9_min_7cf53_1 rfl ?_
  obtain ⟨r1, h⟩ := h
  have r2 := h
  refine z_icmp_gt 9 dJ9_min_7cf53_2 (by decide) (pc' := 5) rfl r1 r2 (fun c => ?_) (fun c => ?_)
  · skip
    rw [if_pos c] at k
    refine z_iload_n (pc' := 10) 1 rfl rfl dJ9_min_7cf53_9 rfl ?_
    refine z_iret rfl dJ9_min_7cf53_10 ?_
    exact k
  · skip
    rw [if_neg c] at k
    refine z_iload_n (pc' := 6) 0 rfl rfl dJ9_min_7cf53_5 rfl ?_
    refine z_goto 10 dJ9_min_7cf53_6 (by decide) ?_
    refine z_iret rfl dJ9_min_7cf53_10 ?_
    exact k
def P_J_max_f86c9 (w : z_Wd) (a0 : Int) (a1 : Int) : Prop := (-9223372036854775808 ≤ a0 ∧ a0 < 9223372036854775808) ∧ (-9223372036854775808 ≤ a1 ∧ a1 < 9223372036854775808)
def F_J_max_f86c9 (w : z_Wd) (a0 : Int) (a1 : Int) : Int := if z_cmp a0 a1 < 0 then a1 else a0
set_option maxRecDepth 4000 in
theorem c_J_max_f86c9 {d : Nat} {w : z_Wd} {a0 a1 : Int} {Q : Option z_V → z_Wd → Prop} (h : P_J_max_f86c9 w a0 a1) (k : Q (some (zJ (F_J_max_f86c9 w a0 a1))) w) : z_Wc d m_J9_max_f86c9 [zJ a0, zJ a1] w Q := by
  unfold P_J_max_f86c9 at h
  unfold F_J_max_f86c9 at k
  refine z_enterF (by decide +kernel) (Nat.le_of_ble_eq_true rfl) ?_
  show z_Wp m_J9_max_f86c9 _ 0 [(0, zJ a0), (2, zJ a1)] [] w _
  refine z_lload_n (pc' := 1) 0 rfl rfl dJ9_max_f86c9_0 rfl ?_
  refine z_lload_n (pc' := 2) 1 rfl rfl dJ9_max_f86c9_1 rfl ?_
  obtain ⟨r1, h⟩ := h
  have r2 := h
  refine z_lcmp (pc' := 3) r1 r2 dJ9_max_f86c9_2 rfl ?_
  refine z_if_lt 10 dJ9_max_f86c9_3 (by decide) (pc' := 6) rfl (z_cmp_r _ _) (fun c => ?_) (fun c => ?_)
  · skip
    rw [if_pos c] at k
    refine z_lload_n (pc' := 11) 1 rfl rfl dJ9_max_f86c9_10 rfl ?_
    refine z_lret rfl dJ9_max_f86c9_11 ?_
    exact k
  · skip
    rw [if_neg c] at k
    refine z_lload_n (pc' := 7) 0 rfl rfl dJ9_max_f86c9_6 rfl ?_
    refine z_goto 11 dJ9_max_f86c9_7 (by decide) ?_
    refine z_lret rfl dJ9_max_f86c9_11 ?_
    exact k
def P_J_min_f86c9 (w : z_Wd) (a0 : Int) (a1 : Int) : Prop := (-9223372036854775808 ≤ a0 ∧ a0 < 9223372036854775808) ∧ (-9223372036854775808 ≤ a1 ∧ a1 < 9223372036854775808)
def F_J_min_f86c9 (w : z_Wd) (a0 : Int) (a1 : Int) : Int := if z_cmp a0 a1 > 0 then a1 else a0
set_option maxRecDepth 4000 in
theorem c_J_min_f86c9 {d : Nat} {w : z_Wd} {a0 a1 : Int} {Q : Option z_V → z_Wd → Prop} (h : P_J_min_f86c9 w a0 a1) (k : Q (some (zJ (F_J_min_f86c9 w a0 a1))) w) : z_Wc d m_J9_min_f86c9 [zJ a0, zJ a1] w Q := by
  unfold P_J_min_f86c9 at h
  unfold F_J_min_f86c9 at k
  refine z_enterF (by decide +kernel) (Nat.le_of_ble_eq_true rfl) ?_
  show z_Wp m_J9_min_f86c9 _ 0 [(0, zJ a0), (2, zJ a1)] [] w _
  refine z_lload_n (pc' := 1) 0 rfl rfl dJ9_min_f86c9_0 rfl ?_
  refine z_lload_n (pc' := 2) 1 rfl rfl dJ9_min_f86c9_1 rfl ?_
  obtain ⟨r1, h⟩ := h
  have r2 := h
  refine z_lcmp (pc' := 3) r1 r2 dJ9_min_f86c9_2 rfl ?_
  refine z_if_gt 10 dJ9_min_f86c9_3 (by decide) (pc' := 6) rfl (z_cmp_r _ _) (fun c => ?_) (fun c => ?_)
  · skip
    rw [if_pos c] at k
    refine z_lload_n (pc' := 11) 1 rfl rfl dJ9_min_f86c9_10 rfl ?_
    refine z_lret rfl dJ9_min_f86c9_11 ?_
    exact k
  · skip
    rw [if_neg c] at k
    refine z_lload_n (pc' := 7) 0 rfl rfl dJ9_min_f86c9_6 rfl ?_
    refine z_goto 11 dJ9_min_f86c9_7 (by decide) ?_
    refine z_lret rfl dJ9_min_f86c9_11 ?_
    exact k
def P_M_in (w : z_Wd) (a0 : Int) (a1 : Int) (a2 : Int) : Prop := (-2147483648 ≤ a0 ∧ a0 < 2147483648) ∧ (-2147483648 ≤ a1 ∧ a1 < 2147483648) ∧ ((a0 < a1 → True) ∧ (¬ (a0 < a1) → -2147483648 ≤ a2 ∧ a2 < 2147483648))
def F_M_in (w : z_Wd) (a0 : Int) (a1 : Int) (a2 : Int) : Int := if a0 < a1 then 0 else if a0 > a2 then 0 else 1
set_option maxRecDepth 4000 in
theorem c_M_in {d : Nat} {w : z_Wd} {a0 a1 a2 : Int} {Q : Option z_V → z_Wd → Prop} (h : P_M_in w a0 a1 a2) (k : Q (some (zI (F_M_in w a0 a1 a2))) w) : z_Wc d m_X12_in [zI a0, zI a1, zI a2] w Q := by
  unfold P_M_in at h
  unfold F_M_in at k
  refine z_enter rfl (Nat.le_of_ble_eq_true rfl) ?_
  show z_Wp m_X12_in _ 0 [(0, zI a0), (1, zI a1), (2, zI a2)] [] w _
  refine z_iload_n (pc' := 1) 0 rfl rfl dX12_in_0 rfl ?_
  refine z_iload_n (pc' := 2) 1 rfl rfl dX12_in_1 rfl ?_
  obtain ⟨r1, h⟩ := h
  obtain ⟨r2, h⟩ := h
  refine z_icmp_lt 14 dX12_in_2 (by decide) (pc' := 5) rfl r1 r2 (fun c => ?_) (fun c => ?_)
  · have h := h.1 c
    rw [if_pos c] at k
    refine z_iconst (pc' := 15) dX12_in_14 rfl ?_
    refine z_zret rfl (by decide) dX12_in_15 ?_
    exact k
  · have h := h.2 c
    rw [if_neg c] at k
    refine z_iload_n (pc' := 6) 0 rfl rfl dX12_in_5 rfl ?_
    refine z_iload_n (pc' := 7) 2 rfl rfl dX12_in_6 rfl ?_
    have r3 := h
    refine z_icmp_gt 14 dX12_in_7 (by decide) (pc' := 10) rfl r1 r3 (fun c => ?_) (fun c => ?_)
    · skip
      rw [if_pos c] at k
      refine z_iconst (pc' := 15) dX12_in_14 rfl ?_
      refine z_zret rfl (by decide) dX12_in_15 ?_
      exact k
    · skip
      rw [if_neg c] at k
      refine z_iconst (pc' := 11) dX12_in_10 rfl ?_
      refine z_goto 15 dX12_in_11 (by decide) ?_
      refine z_zret rfl (by decide) dX12_in_15 ?_
      exact k
theorem b_M_in {w : z_Wd} {a0 a1 a2 : Int} : F_M_in w a0 a1 a2 = 0 ∨ F_M_in w a0 a1 a2 = 1 := by
  unfold F_M_in
  (repeat' split) <;> first | exact Or.inl rfl | exact Or.inr rfl
def P_M_has (w : z_Wd) (a0 : Int) (a1 : Int) : Prop := -2147483648 ≤ zz_and (zz_shr a0 a1) 1 ∧ zz_and (zz_shr a0 a1) 1 < 2147483648
def F_M_has (w : z_Wd) (a0 : Int) (a1 : Int) : Int := if zz_and (zz_shr a0 a1) 1 = 1 then 1 else 0
set_option maxRecDepth 4000 in
theorem c_M_has {d : Nat} {w : z_Wd} {a0 a1 : Int} {Q : Option z_V → z_Wd → Prop} (h : P_M_has w a0 a1) (k : Q (some (zI (F_M_has w a0 a1))) w) : z_Wc d m_X12_has [zI a0, zI a1] w Q := by
  unfold P_M_has at h
  unfold F_M_has at k
  refine z_enter rfl (Nat.le_of_ble_eq_true rfl) ?_
  show z_Wp m_X12_has _ 0 [(0, zI a0), (1, zI a1)] [] w _
  refine z_iload_n (pc' := 1) 0 rfl rfl dX12_has_0 rfl ?_
  refine z_iload_n (pc' := 2) 1 rfl rfl dX12_has_1 rfl ?_
  refine z_ishr (pc' := 3) dX12_has_2 rfl ?_
  refine z_iconst (pc' := 4) dX12_has_3 rfl ?_
  refine z_iand (pc' := 5) dX12_has_4 rfl ?_
  refine z_iconst (pc' := 6) dX12_has_5 rfl ?_
  have r1 := h
  refine z_icmp_ne 13 dX12_has_6 (by decide) (pc' := 9) rfl r1 (by decide) (fun c => ?_) (fun c => ?_)
  · skip
    rw [if_neg c] at k
    refine z_iconst (pc' := 14) dX12_has_13 rfl ?_
    refine z_zret rfl (by decide) dX12_has_14 ?_
    exact k
  · skip
    rw [if_pos c] at k
    refine z_iconst (pc' := 10) dX12_has_9 rfl ?_
    refine z_goto 14 dX12_has_10 (by decide) ?_
    refine z_zret rfl (by decide) dX12_has_14 ?_
    exact k
theorem b_M_has {w : z_Wd} {a0 a1 : Int} : F_M_has w a0 a1 = 0 ∨ F_M_has w a0 a1 = 1 := by
  unfold F_M_has
  (repeat' split) <;> first | exact Or.inl rfl | exact Or.inr rfl
def F_M_thrown (w : z_Wd)  : Int := w 0 0
set_option maxRecDepth 4000 in
theorem c_M_thrown {d : Nat} {w : z_Wd} {Q : Option z_V → z_Wd → Prop} (k : Q (some (zI (F_M_thrown w ))) w) : z_Wc d m_X12_thrown [zR 0] w Q := by
  unfold F_M_thrown at k
  refine z_enter rfl (Nat.le_of_ble_eq_true rfl) ?_
  show z_Wp m_X12_thrown _ 0 [(0, zR 0)] [] w _
  refine z_aload_n (pc' := 1) 0 rfl rfl dX12_thrown_0 rfl ?_
  refine z_getI2 (v := w 0 0) (pc' := 4) g_X12_92 (by decide) rfl rfl rfl dX12_thrown_1 rfl ?_
  refine z_iret rfl dX12_thrown_4 ?_
  exact k
def P_M_byteOf (w : z_Wd) (a0 : Int) (a1 : Int) (a2 : Int) (a3 : Int) (a4 : Int) (a5 : Int) : Prop := -2147483648 ≤ a5 ∧ a5 < 2147483648
def F_M_byteOf (w : z_Wd) (a0 : Int) (a1 : Int) (a2 : Int) (a3 : Int) (a4 : Int) (a5 : Int) : Int := if a5 ≥ 4 then if a5 ≥ 8 then if a5 ≥ 12 then if a5 ≥ 16 then zz_and (zz_shr a4 (24 - (8 * (Int.tmod a5 4)))) 255 else zz_and (zz_shr a3 (24 - (8 * (Int.tmod a5 4)))) 255 else zz_and (zz_shr a2 (24 - (8 * (Int.tmod a5 4)))) 255 else zz_and (zz_shr a1 (24 - (8 * (Int.tmod a5 4)))) 255 else zz_and (zz_shr a0 (24 - (8 * (Int.tmod a5 4)))) 255
set_option maxRecDepth 4000 in
theorem c_M_byteOf {d : Nat} {w : z_Wd} {a0 a1 a2 a3 a4 a5 : Int} {Q : Option z_V → z_Wd → Prop} (h : P_M_byteOf w a0 a1 a2 a3 a4 a5) (k : Q (some (zI (F_M_byteOf w a0 a1 a2 a3 a4 a5))) w) : z_Wc d m_X12_byteOf [zI a0, zI a1, zI a2, zI a3, zI a4, zI a5] w Q := by
  unfold P_M_byteOf at h
  unfold F_M_byteOf at k
  refine z_enter rfl (Nat.le_of_ble_eq_true rfl) ?_
  show z_Wp m_X12_byteOf _ 0 [(0, zI a0), (1, zI a1), (2, zI a2), (3, zI a3), (4, zI a4), (5, zI a5)] [] w _
  refine z_iload (pc' := 2) 5 rfl dX12_byteOf_0 rfl ?_
  refine z_iconst (pc' := 3) dX12_byteOf_2 rfl ?_
  have r1 := h
  refine z_icmp_ge 10 dX12_byteOf_3 (by decide) (pc' := 6) rfl r1 (by decide) (fun c => ?_) (fun c => ?_)
  · skip
    rw [if_pos c] at k
    refine z_iload (pc' := 12) 5 rfl dX12_byteOf_10 rfl ?_
    refine z_bipush (pc' := 14) (by decide) dX12_byteOf_12 rfl ?_
    refine z_icmp_ge 21 dX12_byteOf_14 (by decide) (pc' := 17) rfl r1 (by decide) (fun c => ?_) (fun c => ?_)
    · skip
      rw [if_pos c] at k
      refine z_iload (pc' := 23) 5 rfl dX12_byteOf_21 rfl ?_
      refine z_bipush (pc' := 25) (by decide) dX12_byteOf_23 rfl ?_
      refine z_icmp_ge 32 dX12_byteOf_25 (by decide) (pc' := 28) rfl r1 (by decide) (fun c => ?_) (fun c => ?_)
      · skip
        rw [if_pos c] at k
        refine z_iload (pc' := 34) 5 rfl dX12_byteOf_32 rfl ?_
        refine z_bipush (pc' := 36) (by decide) dX12_byteOf_34 rfl ?_
        refine z_icmp_ge 43 dX12_byteOf_36 (by decide) (pc' := 39) rfl r1 (by decide) (fun c => ?_) (fun c => ?_)
        · skip
          rw [if_pos c] at k
          refine z_iload (pc' := 45) 4 rfl dX12_byteOf_43 rfl ?_
          refine z_istore (pc' := 47) (ls' := [(0, zI a0), (1, zI a1), (2, zI a2), (3, zI a3), (4, zI a4), (5, zI a5), (6, zI a4)]) (by decide) rfl rfl dX12_byteOf_45 rfl ?_
          refine z_iload (pc' := 49) 6 rfl dX12_byteOf_47 rfl ?_
          refine z_bipush (pc' := 51) (by decide) dX12_byteOf_49 rfl ?_
          refine z_bipush (pc' := 53) (by decide) dX12_byteOf_51 rfl ?_
          refine z_iload (pc' := 55) 5 rfl dX12_byteOf_53 rfl ?_
          refine z_iconst (pc' := 56) dX12_byteOf_55 rfl ?_
          refine z_irem (pc' := 57) r1 (by decide) (by decide) dX12_byteOf_56 rfl ?_
          refine z_imul (pc' := 58) dX12_byteOf_57 rfl ?_
          refine z_isub (pc' := 59) dX12_byteOf_58 rfl ?_
          refine z_ishr (pc' := 60) dX12_byteOf_59 rfl ?_
          refine z_sipush (pc' := 63) (by decide) dX12_byteOf_60 rfl ?_
          refine z_iand (pc' := 64) dX12_byteOf_63 rfl ?_
          refine z_iret rfl dX12_byteOf_64 ?_
          exact k
        · skip
          rw [if_neg c] at k
          refine z_iload_n (pc' := 40) 3 rfl rfl dX12_byteOf_39 rfl ?_
          refine z_goto 45 dX12_byteOf_40 (by decide) ?_
          refine z_istore (pc' := 47) (ls' := [(0, zI a0), (1, zI a1), (2, zI a2), (3, zI a3), (4, zI a4), (5, zI a5), (6, zI a3)]) (by decide) rfl rfl dX12_byteOf_45 rfl ?_
          refine z_iload (pc' := 49) 6 rfl dX12_byteOf_47 rfl ?_
          refine z_bipush (pc' := 51) (by decide) dX12_byteOf_49 rfl ?_
          refine z_bipush (pc' := 53) (by decide) dX12_byteOf_51 rfl ?_
          refine z_iload (pc' := 55) 5 rfl dX12_byteOf_53 rfl ?_
          refine z_iconst (pc' := 56) dX12_byteOf_55 rfl ?_
          refine z_irem (pc' := 57) r1 (by decide) (by decide) dX12_byteOf_56 rfl ?_
          refine z_imul (pc' := 58) dX12_byteOf_57 rfl ?_
          refine z_isub (pc' := 59) dX12_byteOf_58 rfl ?_
          refine z_ishr (pc' := 60) dX12_byteOf_59 rfl ?_
          refine z_sipush (pc' := 63) (by decide) dX12_byteOf_60 rfl ?_
          refine z_iand (pc' := 64) dX12_byteOf_63 rfl ?_
          refine z_iret rfl dX12_byteOf_64 ?_
          exact k
      · skip
        rw [if_neg c] at k
        refine z_iload_n (pc' := 29) 2 rfl rfl dX12_byteOf_28 rfl ?_
        refine z_goto 45 dX12_byteOf_29 (by decide) ?_
        refine z_istore (pc' := 47) (ls' := [(0, zI a0), (1, zI a1), (2, zI a2), (3, zI a3), (4, zI a4), (5, zI a5), (6, zI a2)]) (by decide) rfl rfl dX12_byteOf_45 rfl ?_
        refine z_iload (pc' := 49) 6 rfl dX12_byteOf_47 rfl ?_
        refine z_bipush (pc' := 51) (by decide) dX12_byteOf_49 rfl ?_
        refine z_bipush (pc' := 53) (by decide) dX12_byteOf_51 rfl ?_
        refine z_iload (pc' := 55) 5 rfl dX12_byteOf_53 rfl ?_
        refine z_iconst (pc' := 56) dX12_byteOf_55 rfl ?_
        refine z_irem (pc' := 57) r1 (by decide) (by decide) dX12_byteOf_56 rfl ?_
        refine z_imul (pc' := 58) dX12_byteOf_57 rfl ?_
        refine z_isub (pc' := 59) dX12_byteOf_58 rfl ?_
        refine z_ishr (pc' := 60) dX12_byteOf_59 rfl ?_
        refine z_sipush (pc' := 63) (by decide) dX12_byteOf_60 rfl ?_
        refine z_iand (pc' := 64) dX12_byteOf_63 rfl ?_
        refine z_iret rfl dX12_byteOf_64 ?_
        exact k
    · skip
      rw [if_neg c] at k
      refine z_iload_n (pc' := 18) 1 rfl rfl dX12_byteOf_17 rfl ?_
      refine z_goto 45 dX12_byteOf_18 (by decide) ?_
      refine z_istore (pc' := 47) (ls' := [(0, zI a0), (1, zI a1), (2, zI a2), (3, zI a3), (4, zI a4), (5, zI a5), (6, zI a1)]) (by decide) rfl rfl dX12_byteOf_45 rfl ?_
      refine z_iload (pc' := 49) 6 rfl dX12_byteOf_47 rfl ?_
      refine z_bipush (pc' := 51) (by decide) dX12_byteOf_49 rfl ?_
      refine z_bipush (pc' := 53) (by decide) dX12_byteOf_51 rfl ?_
      refine z_iload (pc' := 55) 5 rfl dX12_byteOf_53 rfl ?_
      refine z_iconst (pc' := 56) dX12_byteOf_55 rfl ?_
      refine z_irem (pc' := 57) r1 (by decide) (by decide) dX12_byteOf_56 rfl ?_
      refine z_imul (pc' := 58) dX12_byteOf_57 rfl ?_
      refine z_isub (pc' := 59) dX12_byteOf_58 rfl ?_
      refine z_ishr (pc' := 60) dX12_byteOf_59 rfl ?_
      refine z_sipush (pc' := 63) (by decide) dX12_byteOf_60 rfl ?_
      refine z_iand (pc' := 64) dX12_byteOf_63 rfl ?_
      refine z_iret rfl dX12_byteOf_64 ?_
      exact k
  · skip
    rw [if_neg c] at k
    refine z_iload_n (pc' := 7) 0 rfl rfl dX12_byteOf_6 rfl ?_
    refine z_goto 45 dX12_byteOf_7 (by decide) ?_
    refine z_istore (pc' := 47) (ls' := [(0, zI a0), (1, zI a1), (2, zI a2), (3, zI a3), (4, zI a4), (5, zI a5), (6, zI a0)]) (by decide) rfl rfl dX12_byteOf_45 rfl ?_
    refine z_iload (pc' := 49) 6 rfl dX12_byteOf_47 rfl ?_
    refine z_bipush (pc' := 51) (by decide) dX12_byteOf_49 rfl ?_
    refine z_bipush (pc' := 53) (by decide) dX12_byteOf_51 rfl ?_
    refine z_iload (pc' := 55) 5 rfl dX12_byteOf_53 rfl ?_
    refine z_iconst (pc' := 56) dX12_byteOf_55 rfl ?_
    refine z_irem (pc' := 57) r1 (by decide) (by decide) dX12_byteOf_56 rfl ?_
    refine z_imul (pc' := 58) dX12_byteOf_57 rfl ?_
    refine z_isub (pc' := 59) dX12_byteOf_58 rfl ?_
    refine z_ishr (pc' := 60) dX12_byteOf_59 rfl ?_
    refine z_sipush (pc' := 63) (by decide) dX12_byteOf_60 rfl ?_
    refine z_iand (pc' := 64) dX12_byteOf_63 rfl ?_
    refine z_iret rfl dX12_byteOf_64 ?_
    exact k
def P_M_end (w : z_Wd) (a0 : Int) : Prop := (-2147483648 ≤ a0 ∧ a0 < 2147483648) ∧ ((a0 < 0 → True) ∧ (¬ (a0 < 0) → -2147483648 ≤ w 0 2 ∧ w 0 2 < 2147483648))
def F_M_end (w : z_Wd) (a0 : Int) : Int × z_Wd := if a0 < 0 then (0, w) else if a0 ≤ w 0 2 then (1, z_up w 0 2 a0) else (0, w)
set_option maxRecDepth 4000 in
theorem c_M_end {d : Nat} {w : z_Wd} {a0 : Int} {Q : Option z_V → z_Wd → Prop} (h : P_M_end w a0) (k : Q (some (zI (F_M_end w a0).1)) (F_M_end w a0).2) : z_Wc d m_X12_end [zR 0, zI a0] w Q := by
  unfold P_M_end at h
  unfold F_M_end at k
  refine z_enter rfl (Nat.le_of_ble_eq_true rfl) ?_
  show z_Wp m_X12_end _ 0 [(0, zR 0), (1, zI a0)] [] w _
  refine z_iload_n (pc' := 1) 1 rfl rfl dX12_end_0 rfl ?_
  obtain ⟨r1, h⟩ := h
  refine z_if_lt 12 dX12_end_1 (by decide) (pc' := 4) rfl r1 (fun c => ?_) (fun c => ?_)
  · have h := h.1 c
    rw [if_pos c] at k
    refine z_iconst (pc' := 13) dX12_end_12 rfl ?_
    refine z_zret rfl (by decide) dX12_end_13 ?_
    exact k
  · have h := h.2 c
    rw [if_neg c] at k
    refine z_iload_n (pc' := 5) 1 rfl rfl dX12_end_4 rfl ?_
    refine z_aload_n (pc' := 6) 0 rfl rfl dX12_end_5 rfl ?_
    refine z_getI2 (v := w 0 2) (pc' := 9) g_X12_99 (by decide) rfl rfl rfl dX12_end_6 rfl ?_
    have r2 := h
    refine z_icmp_le 14 dX12_end_9 (by decide) (pc' := 12) rfl r1 r2 (fun c => ?_) (fun c => ?_)
    · skip
      rw [if_pos c] at k
      refine z_aload_n (pc' := 15) 0 rfl rfl dX12_end_14 rfl ?_
      refine z_iload_n (pc' := 16) 1 rfl rfl dX12_end_15 rfl ?_
      refine z_putI (pc' := 19) p_X12_99 (by decide) rfl rfl rfl rfl dX12_end_16 rfl ?_
      refine z_iconst (pc' := 20) dX12_end_19 rfl ?_
      refine z_zret rfl (by decide) dX12_end_20 ?_
      exact k
    · skip
      rw [if_neg c] at k
      refine z_iconst (pc' := 13) dX12_end_12 rfl ?_
      refine z_zret rfl (by decide) dX12_end_13 ?_
      exact k
def P_M_here (w : z_Wd)  : Prop := (-2147483648 ≤ w 0 3 ∧ w 0 3 < 2147483648) ∧ (-2147483648 ≤ w 0 2 ∧ w 0 2 < 2147483648) ∧ ((w 0 3 ≥ w 0 2 → True) ∧ (¬ (w 0 3 ≥ w 0 2) → 0 ≤ w 0 3 ∧ w 0 3 < 240))
def F_M_here (w : z_Wd)  : Int := if w 0 3 ≥ w 0 2 then (-1) else w 1 ((w 0 3).toNat)
set_option maxRecDepth 4000 in
theorem c_M_here {d : Nat} {w : z_Wd} {Q : Option z_V → z_Wd → Prop} (h : P_M_here w ) (k : Q (some (zI (F_M_here w ))) w) : z_Wc d m_X12_here [zR 0] w Q := by
  unfold P_M_here at h
  unfold F_M_here at k
  refine z_enter rfl (Nat.le_of_ble_eq_true rfl) ?_
  show z_Wp m_X12_here _ 0 [(0, zR 0)] [] w _
  refine z_aload_n (pc' := 1) 0 rfl rfl dX12_here_0 rfl ?_
  refine z_getI2 (v := w 0 3) (pc' := 4) g_X12_102 (by decide) rfl rfl rfl dX12_here_1 rfl ?_
  refine z_aload_n (pc' := 5) 0 rfl rfl dX12_here_4 rfl ?_
  refine z_getI2 (v := w 0 2) (pc' := 8) g_X12_99 (by decide) rfl rfl rfl dX12_here_5 rfl ?_
  obtain ⟨r1, h⟩ := h
  obtain ⟨r2, h⟩ := h
  refine z_icmp_ge 23 dX12_here_8 (by decide) (pc' := 11) rfl r1 r2 (fun c => ?_) (fun c => ?_)
  · have h := h.1 c
    rw [if_pos c] at k
    refine z_iconst (pc' := 24) dX12_here_23 rfl ?_
    refine z_iret rfl dX12_here_24 ?_
    exact k
  · have h := h.2 c
    rw [if_neg c] at k
    refine z_aload_n (pc' := 12) 0 rfl rfl dX12_here_11 rfl ?_
    refine z_getR (t := 1) (pc' := 15) g_X12_9 (by decide) rfl rfl dX12_here_12 rfl ?_
    refine z_aload_n (pc' := 16) 0 rfl rfl dX12_here_15 rfl ?_
    refine z_getI2 (v := w 0 3) (pc' := 19) g_X12_102 (by decide) rfl rfl rfl dX12_here_16 rfl ?_
    have r3 := h
    refine z_iald2 (v := w 1 ((w 0 3).toNat)) (pc' := 20) (by decide) rfl r3 (by decide) rfl dX12_here_19 rfl ?_
    refine z_goto 24 dX12_here_20 (by decide) ?_
    refine z_iret rfl dX12_here_24 ?_
    exact k
def P_M_bad (w : z_Wd)  : Prop := -2147483648 ≤ w 0 4 ∧ w 0 4 < 2147483648
def F_M_bad (w : z_Wd)  : z_Wd := if w 0 4 = (-1) then z_up w 0 4 (w 0 3) else z_up w 0 4 (w 0 4)
set_option maxRecDepth 4000 in
theorem c_M_bad {d : Nat} {w : z_Wd} {Q : Option z_V → z_Wd → Prop} (h : P_M_bad w ) (k : Q none (F_M_bad w )) : z_Wc d m_X12_bad [zR 0] w Q := by
  unfold P_M_bad at h
  unfold F_M_bad at k
  refine z_enter rfl (Nat.le_of_ble_eq_true rfl) ?_
  show z_Wp m_X12_bad _ 0 [(0, zR 0)] [] w _
  refine z_aload_n (pc' := 1) 0 rfl rfl dX12_bad_0 rfl ?_
  refine z_aload_n (pc' := 2) 0 rfl rfl dX12_bad_1 rfl ?_
  refine z_getI2 (v := w 0 4) (pc' := 5) g_X12_109 (by decide) rfl rfl rfl dX12_bad_2 rfl ?_
  refine z_iconst (pc' := 6) dX12_bad_5 rfl ?_
  have r1 := h
  refine z_icmp_ne 16 dX12_bad_6 (by decide) (pc' := 9) rfl r1 (by decide) (fun c => ?_) (fun c => ?_)
  · skip
    rw [if_neg c] at k
    refine z_aload_n (pc' := 17) 0 rfl rfl dX12_bad_16 rfl ?_
    refine z_getI2 (v := w 0 4) (pc' := 20) g_X12_109 (by decide) rfl rfl rfl dX12_bad_17 rfl ?_
    refine z_putI (pc' := 23) p_X12_109 (by decide) rfl rfl rfl rfl dX12_bad_20 rfl ?_
    refine z_vret rfl dX12_bad_23 ?_
    exact k
  · skip
    rw [if_pos c] at k
    refine z_aload_n (pc' := 10) 0 rfl rfl dX12_bad_9 rfl ?_
    refine z_getI2 (v := w 0 3) (pc' := 13) g_X12_102 (by decide) rfl rfl rfl dX12_bad_10 rfl ?_
    refine z_goto 20 dX12_bad_13 (by decide) ?_
    refine z_putI (pc' := 23) p_X12_109 (by decide) rfl rfl rfl rfl dX12_bad_20 rfl ?_
    refine z_vret rfl dX12_bad_23 ?_
    exact k
def P_M_isDigit (w : z_Wd) (a0 : Int) : Prop := -2147483648 ≤ a0 ∧ a0 < 2147483648
def F_M_isDigit (w : z_Wd) (a0 : Int) : Int := if a0 < 48 then 0 else if a0 > 57 then 0 else 1
set_option maxRecDepth 4000 in
theorem c_M_isDigit {d : Nat} {w : z_Wd} {a0 : Int} {Q : Option z_V → z_Wd → Prop} (h : P_M_isDigit w a0) (k : Q (some (zI (F_M_isDigit w a0))) w) : z_Wc d m_X12_isDigit [zI a0] w Q := by
  unfold P_M_isDigit at h
  unfold F_M_isDigit at k
  refine z_enter rfl (Nat.le_of_ble_eq_true rfl) ?_
  show z_Wp m_X12_isDigit _ 0 [(0, zI a0)] [] w _
  refine z_iload_n (pc' := 1) 0 rfl rfl dX12_isDigit_0 rfl ?_
  refine z_bipush (pc' := 3) (by decide) dX12_isDigit_1 rfl ?_
  have r1 := h
  refine z_icmp_lt 16 dX12_isDigit_3 (by decide) (pc' := 6) rfl r1 (by decide) (fun c => ?_) (fun c => ?_)
  · skip
    rw [if_pos c] at k
    refine z_iconst (pc' := 17) dX12_isDigit_16 rfl ?_
    refine z_zret rfl (by decide) dX12_isDigit_17 ?_
    exact k
  · skip
    rw [if_neg c] at k
    refine z_iload_n (pc' := 7) 0 rfl rfl dX12_isDigit_6 rfl ?_
    refine z_bipush (pc' := 9) (by decide) dX12_isDigit_7 rfl ?_
    refine z_icmp_gt 16 dX12_isDigit_9 (by decide) (pc' := 12) rfl r1 (by decide) (fun c => ?_) (fun c => ?_)
    · skip
      rw [if_pos c] at k
      refine z_iconst (pc' := 17) dX12_isDigit_16 rfl ?_
      refine z_zret rfl (by decide) dX12_isDigit_17 ?_
      exact k
    · skip
      rw [if_neg c] at k
      refine z_iconst (pc' := 13) dX12_isDigit_12 rfl ?_
      refine z_goto 17 dX12_isDigit_13 (by decide) ?_
      refine z_zret rfl (by decide) dX12_isDigit_17 ?_
      exact k
theorem b_M_isDigit {w : z_Wd} {a0 : Int} : F_M_isDigit w a0 = 0 ∨ F_M_isDigit w a0 = 1 := by
  unfold F_M_isDigit
  (repeat' split) <;> first | exact Or.inl rfl | exact Or.inr rfl
def P_M_put (w : z_Wd) (a0 : Int) (a1 : Int) : Prop := (0 ≤ w 0 14 ∧ w 0 14 < 5) ∧ (0 ≤ (520 * (w 0 14)) + (w 4 ((w 0 14).toNat)) ∧ (520 * (w 0 14)) + (w 4 ((w 0 14).toNat)) < 2600)
def F_M_put (w : z_Wd) (a0 : Int) (a1 : Int) : z_Wd := z_up (z_up (z_up w 2 (((520 * (w 0 14)) + (w 4 ((w 0 14).toNat))).toNat) a0) 3 (((520 * (w 0 14)) + (w 4 ((w 0 14).toNat))).toNat) a1) 4 ((w 0 14).toNat) ((w 4 ((w 0 14).toNat)) + 1)
set_option maxRecDepth 4000 in
theorem c_M_put {d : Nat} {w : z_Wd} {a0 a1 : Int} {Q : Option z_V → z_Wd → Prop} (h : P_M_put w a0 a1) (k : Q none (F_M_put w a0 a1)) : z_Wc d m_X12_put [zR 0, zI a0, zI a1] w Q := by
  unfold P_M_put at h
  unfold F_M_put at k
  refine z_enter rfl (Nat.le_of_ble_eq_true rfl) ?_
  show z_Wp m_X12_put _ 0 [(0, zR 0), (1, zI a0), (2, zI a1)] [] w _
  refine z_aload_n (pc' := 1) 0 rfl rfl dX12_put_0 rfl ?_
  refine z_getR (t := 2) (pc' := 4) g_X12_13 (by decide) rfl rfl dX12_put_1 rfl ?_
  refine z_sipush (pc' := 7) (by decide) dX12_put_4 rfl ?_
  refine z_aload_n (pc' := 8) 0 rfl rfl dX12_put_7 rfl ?_
  refine z_getI2 (v := w 0 14) (pc' := 11) g_X12_112 (by decide) rfl rfl rfl dX12_put_8 rfl ?_
  refine z_imul (pc' := 12) dX12_put_11 rfl ?_
  refine z_aload_n (pc' := 13) 0 rfl rfl dX12_put_12 rfl ?_
  refine z_getR (t := 4) (pc' := 16) g_X12_19 (by decide) rfl rfl dX12_put_13 rfl ?_
  refine z_aload_n (pc' := 17) 0 rfl rfl dX12_put_16 rfl ?_
  refine z_getI2 (v := w 0 14) (pc' := 20) g_X12_112 (by decide) rfl rfl rfl dX12_put_17 rfl ?_
  obtain ⟨r1, h⟩ := h
  refine z_iald2 (v := w 4 ((w 0 14).toNat)) (pc' := 21) (by decide) rfl r1 (by decide) rfl dX12_put_20 rfl ?_
  refine z_iadd (pc' := 22) dX12_put_21 rfl ?_
  refine z_iload_n (pc' := 23) 1 rfl rfl dX12_put_22 rfl ?_
  have r2 := h
  refine z_iast2 (w' := z_up w 2 (((520 * (w 0 14)) + (w 4 ((w 0 14).toNat))).toNat) a0) (pc' := 24) (by decide) rfl r2 (by decide) rfl dX12_put_23 rfl ?_
  refine z_aload_n (pc' := 25) 0 rfl rfl dX12_put_24 rfl ?_
  refine z_getR (t := 3) (pc' := 28) g_X12_16 (by decide) rfl rfl dX12_put_25 rfl ?_
  refine z_sipush (pc' := 31) (by decide) dX12_put_28 rfl ?_
  refine z_aload_n (pc' := 32) 0 rfl rfl dX12_put_31 rfl ?_
  refine z_getI2 (v := w 0 14) (pc' := 35) g_X12_112 (by decide) rfl rfl rfl dX12_put_32 rfl ?_
  refine z_imul (pc' := 36) dX12_put_35 rfl ?_
  refine z_aload_n (pc' := 37) 0 rfl rfl dX12_put_36 rfl ?_
  refine z_getR (t := 4) (pc' := 40) g_X12_19 (by decide) rfl rfl dX12_put_37 rfl ?_
  refine z_aload_n (pc' := 41) 0 rfl rfl dX12_put_40 rfl ?_
  refine z_getI2 (v := w 0 14) (pc' := 44) g_X12_112 (by decide) rfl rfl rfl dX12_put_41 rfl ?_
  refine z_iald2 (v := w 4 ((w 0 14).toNat)) (pc' := 45) (by decide) rfl r1 (by decide) rfl dX12_put_44 rfl ?_
  refine z_iadd (pc' := 46) dX12_put_45 rfl ?_
  refine z_iload_n (pc' := 47) 2 rfl rfl dX12_put_46 rfl ?_
  refine z_iast2 (w' := z_up (z_up w 2 (((520 * (w 0 14)) + (w 4 ((w 0 14).toNat))).toNat) a0) 3 (((520 * (w 0 14)) + (w 4 ((w 0 14).toNat))).toNat) a1) (pc' := 48) (by decide) rfl r2 (by decide) rfl dX12_put_47 rfl ?_
  refine z_aload_n (pc' := 49) 0 rfl rfl dX12_put_48 rfl ?_
  refine z_getR (t := 4) (pc' := 52) g_X12_19 (by decide) rfl rfl dX12_put_49 rfl ?_
  refine z_aload_n (pc' := 53) 0 rfl rfl dX12_put_52 rfl ?_
  refine z_getI2 (v := w 0 14) (pc' := 56) g_X12_112 (by decide) rfl rfl rfl dX12_put_53 rfl ?_
  refine z_dup2 (pc' := 57) rfl rfl dX12_put_56 rfl ?_
  refine z_iald2 (v := w 4 ((w 0 14).toNat)) (pc' := 58) (by decide) rfl r1 (by decide) rfl dX12_put_57 rfl ?_
  refine z_iconst (pc' := 59) dX12_put_58 rfl ?_
  refine z_iadd (pc' := 60) dX12_put_59 rfl ?_
  refine z_iast2 (w' := z_up (z_up (z_up w 2 (((520 * (w 0 14)) + (w 4 ((w 0 14).toNat))).toNat) a0) 3 (((520 * (w 0 14)) + (w 4 ((w 0 14).toNat))).toNat) a1) 4 ((w 0 14).toNat) ((w 4 ((w 0 14).toNat)) + 1)) (pc' := 61) (by decide) rfl r1 (by decide) rfl dX12_put_60 rfl ?_
  refine z_vret rfl dX12_put_61 ?_
  exact k
def P_M_letterOf (w : z_Wd) (a0 : Int) : Prop := -2147483648 ≤ a0 ∧ a0 < 2147483648
def F_M_letterOf (w : z_Wd) (a0 : Int) : Int := if a0 = 115 then 0 else if a0 = 107 then 1 else if a0 = 97 then 2 else if a0 = 111 then 3 else if a0 = 119 then 4 else if a0 = 121 then 5 else (-1)
set_option maxRecDepth 4000 in
theorem c_M_letterOf {d : Nat} {w : z_Wd} {a0 : Int} {Q : Option z_V → z_Wd → Prop} (h : P_M_letterOf w a0) (k : Q (some (zI (F_M_letterOf w a0))) w) : z_Wc d m_X12_letterOf [zI a0] w Q := by
  unfold P_M_letterOf at h
  unfold F_M_letterOf at k
  refine z_enter rfl (Nat.le_of_ble_eq_true rfl) ?_
  show z_Wp m_X12_letterOf _ 0 [(0, zI a0)] [] w _
  refine z_iload_n (pc' := 1) 0 rfl rfl dX12_letterOf_0 rfl ?_
  refine z_bipush (pc' := 3) (by decide) dX12_letterOf_1 rfl ?_
  have r1 := h
  refine z_icmp_ne 10 dX12_letterOf_3 (by decide) (pc' := 6) rfl r1 (by decide) (fun c => ?_) (fun c => ?_)
  · skip
    rw [if_neg c] at k
    refine z_iload_n (pc' := 11) 0 rfl rfl dX12_letterOf_10 rfl ?_
    refine z_bipush (pc' := 13) (by decide) dX12_letterOf_11 rfl ?_
    refine z_icmp_ne 20 dX12_letterOf_13 (by decide) (pc' := 16) rfl r1 (by decide) (fun c => ?_) (fun c => ?_)
    · skip
      rw [if_neg c] at k
      refine z_iload_n (pc' := 21) 0 rfl rfl dX12_letterOf_20 rfl ?_
      refine z_bipush (pc' := 23) (by decide) dX12_letterOf_21 rfl ?_
      refine z_icmp_ne 30 dX12_letterOf_23 (by decide) (pc' := 26) rfl r1 (by decide) (fun c => ?_) (fun c => ?_)
      · skip
        rw [if_neg c] at k
        refine z_iload_n (pc' := 31) 0 rfl rfl dX12_letterOf_30 rfl ?_
        refine z_bipush (pc' := 33) (by decide) dX12_letterOf_31 rfl ?_
        refine z_icmp_ne 40 dX12_letterOf_33 (by decide) (pc' := 36) rfl r1 (by decide) (fun c => ?_) (fun c => ?_)
        · skip
          rw [if_neg c] at k
          refine z_iload_n (pc' := 41) 0 rfl rfl dX12_letterOf_40 rfl ?_
          refine z_bipush (pc' := 43) (by decide) dX12_letterOf_41 rfl ?_
          refine z_icmp_ne 50 dX12_letterOf_43 (by decide) (pc' := 46) rfl r1 (by decide) (fun c => ?_) (fun c => ?_)
          · skip
            rw [if_neg c] at k
            refine z_iload_n (pc' := 51) 0 rfl rfl dX12_letterOf_50 rfl ?_
            refine z_bipush (pc' := 53) (by decide) dX12_letterOf_51 rfl ?_
            refine z_icmp_ne 60 dX12_letterOf_53 (by decide) (pc' := 56) rfl r1 (by decide) (fun c => ?_) (fun c => ?_)
            · skip
              rw [if_neg c] at k
              refine z_iconst (pc' := 61) dX12_letterOf_60 rfl ?_
              refine z_iret rfl dX12_letterOf_61 ?_
              exact k
            · skip
              rw [if_pos c] at k
              refine z_iconst (pc' := 57) dX12_letterOf_56 rfl ?_
              refine z_goto 61 dX12_letterOf_57 (by decide) ?_
              refine z_iret rfl dX12_letterOf_61 ?_
              exact k
          · skip
            rw [if_pos c] at k
            refine z_iconst (pc' := 47) dX12_letterOf_46 rfl ?_
            refine z_goto 61 dX12_letterOf_47 (by decide) ?_
            refine z_iret rfl dX12_letterOf_61 ?_
            exact k
        · skip
          rw [if_pos c] at k
          refine z_iconst (pc' := 37) dX12_letterOf_36 rfl ?_
          refine z_goto 61 dX12_letterOf_37 (by decide) ?_
          refine z_iret rfl dX12_letterOf_61 ?_
          exact k
      · skip
        rw [if_pos c] at k
        refine z_iconst (pc' := 27) dX12_letterOf_26 rfl ?_
        refine z_goto 61 dX12_letterOf_27 (by decide) ?_
        refine z_iret rfl dX12_letterOf_61 ?_
        exact k
    · skip
      rw [if_pos c] at k
      refine z_iconst (pc' := 17) dX12_letterOf_16 rfl ?_
      refine z_goto 61 dX12_letterOf_17 (by decide) ?_
      refine z_iret rfl dX12_letterOf_61 ?_
      exact k
  · skip
    rw [if_pos c] at k
    refine z_iconst (pc' := 7) dX12_letterOf_6 rfl ?_
    refine z_goto 61 dX12_letterOf_7 (by decide) ?_
    refine z_iret rfl dX12_letterOf_61 ?_
    exact k
def P_M_opens (w : z_Wd)  : Prop := (-2147483648 ≤ w 0 5 ∧ w 0 5 < 2147483648) ∧ ((w 0 5 = 6 → P_M_bad w) ∧ (¬ (w 0 5 = 6) → True))
def F_M_opens (w : z_Wd)  : z_Wd := if w 0 5 = 6 then z_up (z_up (F_M_bad w) 0 5 (((F_M_bad w) 0 5) + 1)) 0 3 (((F_M_bad w) 0 3) + 1) else z_up (z_up w 0 5 ((w 0 5) + 1)) 0 3 ((w 0 3) + 1)
set_option maxRecDepth 4000 in
theorem c_M_opens {d : Nat} {w : z_Wd} {Q : Option z_V → z_Wd → Prop} (h : P_M_opens w ) (k : Q none (F_M_opens w )) : z_Wc (d + 1) m_X12_opens [zR 0] w Q := by
  unfold P_M_opens at h
  unfold F_M_opens at k
  refine z_enter rfl (Nat.le_of_ble_eq_true rfl) ?_
  show z_Wp m_X12_opens _ 0 [(0, zR 0)] [] w _
  refine z_aload_n (pc' := 1) 0 rfl rfl dX12_opens_0 rfl ?_
  refine z_getI2 (v := w 0 5) (pc' := 4) g_X12_115 (by decide) rfl rfl rfl dX12_opens_1 rfl ?_
  refine z_bipush (pc' := 6) (by decide) dX12_opens_4 rfl ?_
  obtain ⟨r1, h⟩ := h
  refine z_icmp_ne 13 dX12_opens_6 (by decide) (pc' := 9) rfl r1 (by decide) (fun c => ?_) (fun c => ?_)
  · have h := h.2 c
    rw [if_neg c] at k
    refine z_aload_n (pc' := 14) 0 rfl rfl dX12_opens_13 rfl ?_
    refine z_dup (pc' := 15) rfl dX12_opens_14 rfl ?_
    refine z_getI2 (v := w 0 5) (pc' := 18) g_X12_115 (by decide) rfl rfl rfl dX12_opens_15 rfl ?_
    refine z_iconst (pc' := 19) dX12_opens_18 rfl ?_
    refine z_iadd (pc' := 20) dX12_opens_19 rfl ?_
    refine z_putI (pc' := 23) p_X12_115 (by decide) rfl rfl rfl rfl dX12_opens_20 rfl ?_
    refine z_aload_n (pc' := 24) 0 rfl rfl dX12_opens_23 rfl ?_
    refine z_dup (pc' := 25) rfl dX12_opens_24 rfl ?_
    refine z_getI2 (v := w 0 3) (pc' := 28) g_X12_102 (by decide) rfl rfl rfl dX12_opens_25 rfl ?_
    refine z_iconst (pc' := 29) dX12_opens_28 rfl ?_
    refine z_iadd (pc' := 30) dX12_opens_29 rfl ?_
    refine z_putI (pc' := 33) p_X12_102 (by decide) rfl rfl rfl rfl dX12_opens_30 rfl ?_
    refine z_vret rfl dX12_opens_33 ?_
    exact k
  · have h := h.1 c
    rw [if_pos c] at k
    refine z_aload_n (pc' := 10) 0 rfl rfl dX12_opens_9 rfl ?_
    refine z_invV (as := []) (st := []) (C := m_X12_bad) (fs := [0, 3, 0, 0, 0, 0, 4, 5, 6, 7, 8, 9, 10, 0, 0, 11, 12, 13, 14, 15, 16, 0, 0, 0, 17, 18, 19, 20, 0, 0, 0, 21, 22, 0, 0, 23, 0, 1, 24, 0, 0, 25, 26, 0, 27, 0]) (pc' := 13) dX12_opens_10 rfl t_7_13 k_X12_bad rfl (by decide) rfl rfl rfl rfl (Nat.le_of_ble_eq_true rfl) ?_
    have r2 := h
    refine c_M_bad r2 ?_
    show z_Wp m_X12_opens _ 13 [(0, zR 0)] [] (F_M_bad w) _
    refine z_aload_n (pc' := 14) 0 rfl rfl dX12_opens_13 rfl ?_
    refine z_dup (pc' := 15) rfl dX12_opens_14 rfl ?_
    refine z_getI2 (v := (F_M_bad w) 0 5) (pc' := 18) g_X12_115 (by decide) rfl rfl rfl dX12_opens_15 rfl ?_
    refine z_iconst (pc' := 19) dX12_opens_18 rfl ?_
    refine z_iadd (pc' := 20) dX12_opens_19 rfl ?_
    refine z_putI (pc' := 23) p_X12_115 (by decide) rfl rfl rfl rfl dX12_opens_20 rfl ?_
    refine z_aload_n (pc' := 24) 0 rfl rfl dX12_opens_23 rfl ?_
    refine z_dup (pc' := 25) rfl dX12_opens_24 rfl ?_
    refine z_getI2 (v := (F_M_bad w) 0 3) (pc' := 28) g_X12_102 (by decide) rfl rfl rfl dX12_opens_25 rfl ?_
    refine z_iconst (pc' := 29) dX12_opens_28 rfl ?_
    refine z_iadd (pc' := 30) dX12_opens_29 rfl ?_
    refine z_putI (pc' := 33) p_X12_102 (by decide) rfl rfl rfl rfl dX12_opens_30 rfl ?_
    refine z_vret rfl dX12_opens_33 ?_
    exact k
def P_M_isSign (w : z_Wd) (a0 : Int) : Prop := -2147483648 ≤ a0 ∧ a0 < 2147483648
def F_M_isSign (w : z_Wd) (a0 : Int) : Int := if a0 = 61 then 1 else if a0 = 60 then 1 else if a0 = 62 then 1 else 0
set_option maxRecDepth 4000 in
theorem c_M_isSign {d : Nat} {w : z_Wd} {a0 : Int} {Q : Option z_V → z_Wd → Prop} (h : P_M_isSign w a0) (k : Q (some (zI (F_M_isSign w a0))) w) : z_Wc d m_X12_isSign [zI a0] w Q := by
  unfold P_M_isSign at h
  unfold F_M_isSign at k
  refine z_enter rfl (Nat.le_of_ble_eq_true rfl) ?_
  show z_Wp m_X12_isSign _ 0 [(0, zI a0)] [] w _
  refine z_iload_n (pc' := 1) 0 rfl rfl dX12_isSign_0 rfl ?_
  refine z_bipush (pc' := 3) (by decide) dX12_isSign_1 rfl ?_
  have r1 := h
  refine z_icmp_eq 18 dX12_isSign_3 (by decide) (pc' := 6) rfl r1 (by decide) (fun c => ?_) (fun c => ?_)
  · skip
    rw [if_pos c] at k
    refine z_iconst (pc' := 19) dX12_isSign_18 rfl ?_
    refine z_goto 23 dX12_isSign_19 (by decide) ?_
    refine z_zret rfl (by decide) dX12_isSign_23 ?_
    exact k
  · skip
    rw [if_neg c] at k
    refine z_iload_n (pc' := 7) 0 rfl rfl dX12_isSign_6 rfl ?_
    refine z_bipush (pc' := 9) (by decide) dX12_isSign_7 rfl ?_
    refine z_icmp_eq 18 dX12_isSign_9 (by decide) (pc' := 12) rfl r1 (by decide) (fun c => ?_) (fun c => ?_)
    · skip
      rw [if_pos c] at k
      refine z_iconst (pc' := 19) dX12_isSign_18 rfl ?_
      refine z_goto 23 dX12_isSign_19 (by decide) ?_
      refine z_zret rfl (by decide) dX12_isSign_23 ?_
      exact k
    · skip
      rw [if_neg c] at k
      refine z_iload_n (pc' := 13) 0 rfl rfl dX12_isSign_12 rfl ?_
      refine z_bipush (pc' := 15) (by decide) dX12_isSign_13 rfl ?_
      refine z_icmp_ne 22 dX12_isSign_15 (by decide) (pc' := 18) rfl r1 (by decide) (fun c => ?_) (fun c => ?_)
      · skip
        rw [if_neg c] at k
        refine z_iconst (pc' := 23) dX12_isSign_22 rfl ?_
        refine z_zret rfl (by decide) dX12_isSign_23 ?_
        exact k
      · skip
        rw [if_pos c] at k
        refine z_iconst (pc' := 19) dX12_isSign_18 rfl ?_
        refine z_goto 23 dX12_isSign_19 (by decide) ?_
        refine z_zret rfl (by decide) dX12_isSign_23 ?_
        exact k
theorem b_M_isSign {w : z_Wd} {a0 : Int} : F_M_isSign w a0 = 0 ∨ F_M_isSign w a0 = 1 := by
  unfold F_M_isSign
  (repeat' split) <;> first | exact Or.inl rfl | exact Or.inr rfl
def P_M_open (w : z_Wd) (a0 : Int) : Prop := 0 ≤ a0 ∧ a0 < 5
def F_M_open (w : z_Wd) (a0 : Int) : z_Wd := z_up (z_up (z_up (z_up (z_up (z_up w 0 14 a0) 0 3 0) 0 4 (-1)) 0 5 0) 4 a0.toNat 0) 5 a0.toNat 0
set_option maxRecDepth 4000 in
theorem c_M_open {d : Nat} {w : z_Wd} {a0 : Int} {Q : Option z_V → z_Wd → Prop} (h : P_M_open w a0) (k : Q none (F_M_open w a0)) : z_Wc d m_X12_open [zR 0, zI a0] w Q := by
  unfold P_M_open at h
  unfold F_M_open at k
  refine z_enter rfl (Nat.le_of_ble_eq_true rfl) ?_
  show z_Wp m_X12_open _ 0 [(0, zR 0), (1, zI a0)] [] w _
  refine z_aload_n (pc' := 1) 0 rfl rfl dX12_open_0 rfl ?_
  refine z_iload_n (pc' := 2) 1 rfl rfl dX12_open_1 rfl ?_
  refine z_putI (pc' := 5) p_X12_112 (by decide) rfl rfl rfl rfl dX12_open_2 rfl ?_
  refine z_aload_n (pc' := 6) 0 rfl rfl dX12_open_5 rfl ?_
  refine z_iconst (pc' := 7) dX12_open_6 rfl ?_
  refine z_putI (pc' := 10) p_X12_102 (by decide) rfl rfl rfl rfl dX12_open_7 rfl ?_
  refine z_aload_n (pc' := 11) 0 rfl rfl dX12_open_10 rfl ?_
  refine z_iconst (pc' := 12) dX12_open_11 rfl ?_
  refine z_putI (pc' := 15) p_X12_109 (by decide) rfl rfl rfl rfl dX12_open_12 rfl ?_
  refine z_aload_n (pc' := 16) 0 rfl rfl dX12_open_15 rfl ?_
  refine z_iconst (pc' := 17) dX12_open_16 rfl ?_
  refine z_putI (pc' := 20) p_X12_115 (by decide) rfl rfl rfl rfl dX12_open_17 rfl ?_
  refine z_aload_n (pc' := 21) 0 rfl rfl dX12_open_20 rfl ?_
  refine z_getR (t := 4) (pc' := 24) g_X12_19 (by decide) rfl rfl dX12_open_21 rfl ?_
  refine z_iload_n (pc' := 25) 1 rfl rfl dX12_open_24 rfl ?_
  refine z_iconst (pc' := 26) dX12_open_25 rfl ?_
  have r1 := h
  refine z_iast2 (w' := z_up (z_up (z_up (z_up (z_up w 0 14 a0) 0 3 0) 0 4 (-1)) 0 5 0) 4 a0.toNat 0) (pc' := 27) (by decide) rfl r1 (by decide) rfl dX12_open_26 rfl ?_
  refine z_aload_n (pc' := 28) 0 rfl rfl dX12_open_27 rfl ?_
  refine z_getR (t := 5) (pc' := 31) g_X12_22 (by decide) rfl rfl dX12_open_28 rfl ?_
  refine z_iload_n (pc' := 32) 1 rfl rfl dX12_open_31 rfl ?_
  refine z_iconst (pc' := 33) dX12_open_32 rfl ?_
  refine z_iast2 (w' := z_up (z_up (z_up (z_up (z_up (z_up w 0 14 a0) 0 3 0) 0 4 (-1)) 0 5 0) 4 a0.toNat 0) 5 a0.toNat 0) (pc' := 34) (by decide) rfl r1 (by decide) rfl dX12_open_33 rfl ?_
  refine z_vret rfl dX12_open_34 ?_
  exact k
def P_M_itemOf (w : z_Wd) (a0 : Int) (a1 : Int) : Prop := (-2147483648 ≤ a0 ∧ a0 < 2147483648) ∧ ((a0 = 110 → -2147483648 ≤ a1 ∧ a1 < 2147483648) ∧ (¬ a0 = 110 → (a0 = 115 → -2147483648 ≤ a1 ∧ a1 < 2147483648) ∧ (¬ a0 = 115 → (a0 = 119 → -2147483648 ≤ a1 ∧ a1 < 2147483648) ∧ (¬ a0 = 119 → -2147483648 ≤ a1 ∧ a1 < 2147483648))))
def F_M_itemOf (w : z_Wd) (a0 : Int) (a1 : Int) : Int := if a0 = 110 then if a1 = 115 then 0 else if a1 = 102 then 1 else if a1 = 111 then 2 else (-1) else if a0 = 115 then if a1 = 100 then 0 else if a1 = 99 then 1 else (-1) else if a0 = 119 then if a1 = 100 then 0 else if a1 = 114 then 1 else (-1) else if a1 = 97 then 0 else if a1 = 98 then 1 else (-1)
set_option maxRecDepth 4000 in
theorem c_M_itemOf {d : Nat} {w : z_Wd} {a0 a1 : Int} {Q : Option z_V → z_Wd → Prop} (h : P_M_itemOf w a0 a1) (k : Q (some (zI (F_M_itemOf w a0 a1))) w) : z_Wc d m_X12_itemOf [zI a0, zI a1] w Q := by
  unfold P_M_itemOf at h
  unfold F_M_itemOf at k
  refine z_enter rfl (Nat.le_of_ble_eq_true rfl) ?_
  show z_Wp m_X12_itemOf _ 0 [(0, zI a0), (1, zI a1)] [] w _
  refine z_iload_n (pc' := 1) 0 rfl rfl dX12_itemOf_0 rfl ?_
  obtain ⟨r1, h⟩ := h
  refine z_lookup dX12_itemOf_1 (by decide) r1 ⟨fun c0 => ⟨80, by decide, ?_⟩, fun c0 => ⟨fun c1 => ⟨36, by decide, ?_⟩, fun c1 => ⟨fun c2 => ⟨58, by decide, ?_⟩, fun c2 => ⟨112, by decide, ?_⟩⟩⟩⟩
  · skip
    have c0 : a0 = 110 := c0
    have h := h.1 c0
    rw [if_pos c0] at k
    refine z_iload_n (pc' := 81) 1 rfl rfl dX12_itemOf_80 rfl ?_
    refine z_bipush (pc' := 83) (by decide) dX12_itemOf_81 rfl ?_
    have r2 := h
    refine z_icmp_ne 90 dX12_itemOf_83 (by decide) (pc' := 86) rfl r2 (by decide) (fun c => ?_) (fun c => ?_)
    · skip
      rw [if_neg c] at k
      refine z_iload_n (pc' := 91) 1 rfl rfl dX12_itemOf_90 rfl ?_
      refine z_bipush (pc' := 93) (by decide) dX12_itemOf_91 rfl ?_
      refine z_icmp_ne 100 dX12_itemOf_93 (by decide) (pc' := 96) rfl r2 (by decide) (fun c => ?_) (fun c => ?_)
      · skip
        rw [if_neg c] at k
        refine z_iload_n (pc' := 101) 1 rfl rfl dX12_itemOf_100 rfl ?_
        refine z_bipush (pc' := 103) (by decide) dX12_itemOf_101 rfl ?_
        refine z_icmp_ne 110 dX12_itemOf_103 (by decide) (pc' := 106) rfl r2 (by decide) (fun c => ?_) (fun c => ?_)
        · skip
          rw [if_neg c] at k
          refine z_iconst (pc' := 111) dX12_itemOf_110 rfl ?_
          refine z_iret rfl dX12_itemOf_111 ?_
          exact k
        · skip
          rw [if_pos c] at k
          refine z_iconst (pc' := 107) dX12_itemOf_106 rfl ?_
          refine z_goto 111 dX12_itemOf_107 (by decide) ?_
          refine z_iret rfl dX12_itemOf_111 ?_
          exact k
      · skip
        rw [if_pos c] at k
        refine z_iconst (pc' := 97) dX12_itemOf_96 rfl ?_
        refine z_goto 111 dX12_itemOf_97 (by decide) ?_
        refine z_iret rfl dX12_itemOf_111 ?_
        exact k
    · skip
      rw [if_pos c] at k
      refine z_iconst (pc' := 87) dX12_itemOf_86 rfl ?_
      refine z_goto 111 dX12_itemOf_87 (by decide) ?_
      refine z_iret rfl dX12_itemOf_111 ?_
      exact k
  · skip
    have c0 : ¬ a0 = 110 := c0
    have h := h.2 c0
    rw [if_neg c0] at k
    have c1 : a0 = 115 := c1
    have h := h.1 c1
    rw [if_pos c1] at k
    refine z_iload_n (pc' := 37) 1 rfl rfl dX12_itemOf_36 rfl ?_
    refine z_bipush (pc' := 39) (by decide) dX12_itemOf_37 rfl ?_
    have r3 := h
    refine z_icmp_ne 46 dX12_itemOf_39 (by decide) (pc' := 42) rfl r3 (by decide) (fun c => ?_) (fun c => ?_)
    · skip
      rw [if_neg c] at k
      refine z_iload_n (pc' := 47) 1 rfl rfl dX12_itemOf_46 rfl ?_
      refine z_bipush (pc' := 49) (by decide) dX12_itemOf_47 rfl ?_
      refine z_icmp_ne 56 dX12_itemOf_49 (by decide) (pc' := 52) rfl r3 (by decide) (fun c => ?_) (fun c => ?_)
      · skip
        rw [if_neg c] at k
        refine z_iconst (pc' := 57) dX12_itemOf_56 rfl ?_
        refine z_iret rfl dX12_itemOf_57 ?_
        exact k
      · skip
        rw [if_pos c] at k
        refine z_iconst (pc' := 53) dX12_itemOf_52 rfl ?_
        refine z_goto 57 dX12_itemOf_53 (by decide) ?_
        refine z_iret rfl dX12_itemOf_57 ?_
        exact k
    · skip
      rw [if_pos c] at k
      refine z_iconst (pc' := 43) dX12_itemOf_42 rfl ?_
      refine z_goto 57 dX12_itemOf_43 (by decide) ?_
      refine z_iret rfl dX12_itemOf_57 ?_
      exact k
  · skip
    have c0 : ¬ a0 = 110 := c0
    have h := h.2 c0
    rw [if_neg c0] at k
    have c1 : ¬ a0 = 115 := c1
    have h := h.2 c1
    rw [if_neg c1] at k
    have c2 : a0 = 119 := c2
    have h := h.1 c2
    rw [if_pos c2] at k
    refine z_iload_n (pc' := 59) 1 rfl rfl dX12_itemOf_58 rfl ?_
    refine z_bipush (pc' := 61) (by decide) dX12_itemOf_59 rfl ?_
    have r4 := h
    refine z_icmp_ne 68 dX12_itemOf_61 (by decide) (pc' := 64) rfl r4 (by decide) (fun c => ?_) (fun c => ?_)
    · skip
      rw [if_neg c] at k
      refine z_iload_n (pc' := 69) 1 rfl rfl dX12_itemOf_68 rfl ?_
      refine z_bipush (pc' := 71) (by decide) dX12_itemOf_69 rfl ?_
      refine z_icmp_ne 78 dX12_itemOf_71 (by decide) (pc' := 74) rfl r4 (by decide) (fun c => ?_) (fun c => ?_)
      · skip
        rw [if_neg c] at k
        refine z_iconst (pc' := 79) dX12_itemOf_78 rfl ?_
        refine z_iret rfl dX12_itemOf_79 ?_
        exact k
      · skip
        rw [if_pos c] at k
        refine z_iconst (pc' := 75) dX12_itemOf_74 rfl ?_
        refine z_goto 79 dX12_itemOf_75 (by decide) ?_
        refine z_iret rfl dX12_itemOf_79 ?_
        exact k
    · skip
      rw [if_pos c] at k
      refine z_iconst (pc' := 65) dX12_itemOf_64 rfl ?_
      refine z_goto 79 dX12_itemOf_65 (by decide) ?_
      refine z_iret rfl dX12_itemOf_79 ?_
      exact k
  · skip
    have c0 : ¬ a0 = 110 := c0
    have h := h.2 c0
    rw [if_neg c0] at k
    have c1 : ¬ a0 = 115 := c1
    have h := h.2 c1
    rw [if_neg c1] at k
    have c2 : ¬ a0 = 119 := c2
    have h := h.2 c2
    rw [if_neg c2] at k
    refine z_iload_n (pc' := 113) 1 rfl rfl dX12_itemOf_112 rfl ?_
    refine z_bipush (pc' := 115) (by decide) dX12_itemOf_113 rfl ?_
    have r5 := h
    refine z_icmp_ne 122 dX12_itemOf_115 (by decide) (pc' := 118) rfl r5 (by decide) (fun c => ?_) (fun c => ?_)
    · skip
      rw [if_neg c] at k
      refine z_iload_n (pc' := 123) 1 rfl rfl dX12_itemOf_122 rfl ?_
      refine z_bipush (pc' := 125) (by decide) dX12_itemOf_123 rfl ?_
      refine z_icmp_ne 132 dX12_itemOf_125 (by decide) (pc' := 128) rfl r5 (by decide) (fun c => ?_) (fun c => ?_)
      · skip
        rw [if_neg c] at k
        refine z_iconst (pc' := 133) dX12_itemOf_132 rfl ?_
        refine z_iret rfl dX12_itemOf_133 ?_
        exact k
      · skip
        rw [if_pos c] at k
        refine z_iconst (pc' := 129) dX12_itemOf_128 rfl ?_
        refine z_goto 133 dX12_itemOf_129 (by decide) ?_
        refine z_iret rfl dX12_itemOf_133 ?_
        exact k
    · skip
      rw [if_pos c] at k
      refine z_iconst (pc' := 119) dX12_itemOf_118 rfl ?_
      refine z_goto 133 dX12_itemOf_119 (by decide) ?_
      refine z_iret rfl dX12_itemOf_133 ?_
      exact k
def P_M_lowest (w : z_Wd) (a0 : Int) (a1 : Int) : Prop := (-2147483648 ≤ a0 ∧ a0 < 2147483648) ∧ ((a0 = 115 → -2147483648 ≤ a1 ∧ a1 < 2147483648) ∧ (¬ (a0 = 115) → (a0 = 110 → -2147483648 ≤ a1 ∧ a1 < 2147483648) ∧ (¬ (a0 = 110) → True)))
def F_M_lowest (w : z_Wd) (a0 : Int) (a1 : Int) : Int := if a0 = 115 then if a1 = 0 then 1 else if a0 = 110 then if a1 = 0 then 1 else 0 else 0 else if a0 = 110 then if a1 = 0 then 1 else 0 else 0
set_option maxRecDepth 4000 in
theorem c_M_lowest {d : Nat} {w : z_Wd} {a0 a1 : Int} {Q : Option z_V → z_Wd → Prop} (h : P_M_lowest w a0 a1) (k : Q (some (zI (F_M_lowest w a0 a1))) w) : z_Wc d m_X12_lowest [zI a0, zI a1] w Q := by
  unfold P_M_lowest at h
  unfold F_M_lowest at k
  refine z_enter rfl (Nat.le_of_ble_eq_true rfl) ?_
  show z_Wp m_X12_lowest _ 0 [(0, zI a0), (1, zI a1)] [] w _
  refine z_iload_n (pc' := 1) 0 rfl rfl dX12_lowest_0 rfl ?_
  refine z_bipush (pc' := 3) (by decide) dX12_lowest_1 rfl ?_
  obtain ⟨r1, h⟩ := h
  refine z_icmp_ne 10 dX12_lowest_3 (by decide) (pc' := 6) rfl r1 (by decide) (fun c => ?_) (fun c => ?_)
  · have h := h.2 c
    rw [if_neg c] at k
    refine z_iload_n (pc' := 11) 0 rfl rfl dX12_lowest_10 rfl ?_
    refine z_bipush (pc' := 13) (by decide) dX12_lowest_11 rfl ?_
    refine z_icmp_ne 24 dX12_lowest_13 (by decide) (pc' := 16) rfl r1 (by decide) (fun c => ?_) (fun c => ?_)
    · have h := h.2 c
      rw [if_neg c] at k
      refine z_iconst (pc' := 25) dX12_lowest_24 rfl ?_
      refine z_iret rfl dX12_lowest_25 ?_
      exact k
    · have h := h.1 c
      rw [if_pos c] at k
      refine z_iload_n (pc' := 17) 1 rfl rfl dX12_lowest_16 rfl ?_
      have r2 := h
      refine z_if_ne 24 dX12_lowest_17 (by decide) (pc' := 20) rfl r2 (fun c => ?_) (fun c => ?_)
      · skip
        rw [if_neg c] at k
        refine z_iconst (pc' := 25) dX12_lowest_24 rfl ?_
        refine z_iret rfl dX12_lowest_25 ?_
        exact k
      · skip
        rw [if_pos c] at k
        refine z_iconst (pc' := 21) dX12_lowest_20 rfl ?_
        refine z_goto 25 dX12_lowest_21 (by decide) ?_
        refine z_iret rfl dX12_lowest_25 ?_
        exact k
  · have h := h.1 c
    rw [if_pos c] at k
    refine z_iload_n (pc' := 7) 1 rfl rfl dX12_lowest_6 rfl ?_
    have r3 := h
    refine z_if_eq 20 dX12_lowest_7 (by decide) (pc' := 10) rfl r3 (fun c => ?_) (fun c => ?_)
    · skip
      rw [if_pos c] at k
      refine z_iconst (pc' := 21) dX12_lowest_20 rfl ?_
      refine z_goto 25 dX12_lowest_21 (by decide) ?_
      refine z_iret rfl dX12_lowest_25 ?_
      exact k
    · skip
      rw [if_neg c] at k
      refine z_iload_n (pc' := 11) 0 rfl rfl dX12_lowest_10 rfl ?_
      refine z_bipush (pc' := 13) (by decide) dX12_lowest_11 rfl ?_
      refine z_icmp_ne 24 dX12_lowest_13 (by decide) (pc' := 16) rfl r1 (by decide) (fun c => ?_) (fun c => ?_)
      · skip
        rw [if_neg c] at k
        refine z_iconst (pc' := 25) dX12_lowest_24 rfl ?_
        refine z_iret rfl dX12_lowest_25 ?_
        exact k
      · skip
        rw [if_pos c] at k
        refine z_iload_n (pc' := 17) 1 rfl rfl dX12_lowest_16 rfl ?_
        refine z_if_ne 24 dX12_lowest_17 (by decide) (pc' := 20) rfl r3 (fun c => ?_) (fun c => ?_)
        · skip
          rw [if_neg c] at k
          refine z_iconst (pc' := 25) dX12_lowest_24 rfl ?_
          refine z_iret rfl dX12_lowest_25 ?_
          exact k
        · skip
          rw [if_pos c] at k
          refine z_iconst (pc' := 21) dX12_lowest_20 rfl ?_
          refine z_goto 25 dX12_lowest_21 (by decide) ?_
          refine z_iret rfl dX12_lowest_25 ?_
          exact k
def P_M_highest (w : z_Wd) (a0 : Int) (a1 : Int) : Prop := (-2147483648 ≤ a0 ∧ a0 < 2147483648) ∧ ((a0 = 110 → -2147483648 ≤ a1 ∧ a1 < 2147483648) ∧ (¬ a0 = 110 → (a0 = 115 → -2147483648 ≤ a1 ∧ a1 < 2147483648) ∧ (¬ a0 = 115 → (a0 = 119 → -2147483648 ≤ a1 ∧ a1 < 2147483648) ∧ (¬ a0 = 119 → True))))
def F_M_highest (w : z_Wd) (a0 : Int) (a1 : Int) : Int := if a0 = 110 then if a1 = 0 then 5 else if a1 = 1 then 6 else 1 else if a0 = 115 then if a1 = 0 then 3 else 99 else if a0 = 119 then if a1 = 0 then 30 else 1 else 6
set_option maxRecDepth 4000 in
theorem c_M_highest {d : Nat} {w : z_Wd} {a0 a1 : Int} {Q : Option z_V → z_Wd → Prop} (h : P_M_highest w a0 a1) (k : Q (some (zI (F_M_highest w a0 a1))) w) : z_Wc d m_X12_highest [zI a0, zI a1] w Q := by
  unfold P_M_highest at h
  unfold F_M_highest at k
  refine z_enter rfl (Nat.le_of_ble_eq_true rfl) ?_
  show z_Wp m_X12_highest _ 0 [(0, zI a0), (1, zI a1)] [] w _
  refine z_iload_n (pc' := 1) 0 rfl rfl dX12_highest_0 rfl ?_
  obtain ⟨r1, h⟩ := h
  refine z_lookup dX12_highest_1 (by decide) r1 ⟨fun c0 => ⟨58, by decide, ?_⟩, fun c0 => ⟨fun c1 => ⟨36, by decide, ?_⟩, fun c1 => ⟨fun c2 => ⟨47, by decide, ?_⟩, fun c2 => ⟨78, by decide, ?_⟩⟩⟩⟩
  · skip
    have c0 : a0 = 110 := c0
    have h := h.1 c0
    rw [if_pos c0] at k
    refine z_iload_n (pc' := 59) 1 rfl rfl dX12_highest_58 rfl ?_
    have r2 := h
    refine z_if_ne 66 dX12_highest_59 (by decide) (pc' := 62) rfl r2 (fun c => ?_) (fun c => ?_)
    · skip
      rw [if_neg c] at k
      refine z_iload_n (pc' := 67) 1 rfl rfl dX12_highest_66 rfl ?_
      refine z_iconst (pc' := 68) dX12_highest_67 rfl ?_
      refine z_icmp_ne 76 dX12_highest_68 (by decide) (pc' := 71) rfl r2 (by decide) (fun c => ?_) (fun c => ?_)
      · skip
        rw [if_neg c] at k
        refine z_iconst (pc' := 77) dX12_highest_76 rfl ?_
        refine z_iret rfl dX12_highest_77 ?_
        exact k
      · skip
        rw [if_pos c] at k
        refine z_bipush (pc' := 73) (by decide) dX12_highest_71 rfl ?_
        refine z_goto 77 dX12_highest_73 (by decide) ?_
        refine z_iret rfl dX12_highest_77 ?_
        exact k
    · skip
      rw [if_pos c] at k
      refine z_iconst (pc' := 63) dX12_highest_62 rfl ?_
      refine z_goto 77 dX12_highest_63 (by decide) ?_
      refine z_iret rfl dX12_highest_77 ?_
      exact k
  · skip
    have c0 : ¬ a0 = 110 := c0
    have h := h.2 c0
    rw [if_neg c0] at k
    have c1 : a0 = 115 := c1
    have h := h.1 c1
    rw [if_pos c1] at k
    refine z_iload_n (pc' := 37) 1 rfl rfl dX12_highest_36 rfl ?_
    have r3 := h
    refine z_if_ne 44 dX12_highest_37 (by decide) (pc' := 40) rfl r3 (fun c => ?_) (fun c => ?_)
    · skip
      rw [if_neg c] at k
      refine z_bipush (pc' := 46) (by decide) dX12_highest_44 rfl ?_
      refine z_iret rfl dX12_highest_46 ?_
      exact k
    · skip
      rw [if_pos c] at k
      refine z_iconst (pc' := 41) dX12_highest_40 rfl ?_
      refine z_goto 46 dX12_highest_41 (by decide) ?_
      refine z_iret rfl dX12_highest_46 ?_
      exact k
  · skip
    have c0 : ¬ a0 = 110 := c0
    have h := h.2 c0
    rw [if_neg c0] at k
    have c1 : ¬ a0 = 115 := c1
    have h := h.2 c1
    rw [if_neg c1] at k
    have c2 : a0 = 119 := c2
    have h := h.1 c2
    rw [if_pos c2] at k
    refine z_iload_n (pc' := 48) 1 rfl rfl dX12_highest_47 rfl ?_
    have r4 := h
    refine z_if_ne 56 dX12_highest_48 (by decide) (pc' := 51) rfl r4 (fun c => ?_) (fun c => ?_)
    · skip
      rw [if_neg c] at k
      refine z_iconst (pc' := 57) dX12_highest_56 rfl ?_
      refine z_iret rfl dX12_highest_57 ?_
      exact k
    · skip
      rw [if_pos c] at k
      refine z_bipush (pc' := 53) (by decide) dX12_highest_51 rfl ?_
      refine z_goto 57 dX12_highest_53 (by decide) ?_
      refine z_iret rfl dX12_highest_57 ?_
      exact k
  · skip
    have c0 : ¬ a0 = 110 := c0
    have h := h.2 c0
    rw [if_neg c0] at k
    have c1 : ¬ a0 = 115 := c1
    have h := h.2 c1
    rw [if_neg c1] at k
    have c2 : ¬ a0 = 119 := c2
    have h := h.2 c2
    rw [if_neg c2] at k
    refine z_bipush (pc' := 80) (by decide) dX12_highest_78 rfl ?_
    refine z_iret rfl dX12_highest_80 ?_
    exact k
def P_M_usual (w : z_Wd) (a0 : Int) (a1 : Int) : Prop := (-2147483648 ≤ a0 ∧ a0 < 2147483648) ∧ ((a0 = 110 → -2147483648 ≤ a1 ∧ a1 < 2147483648) ∧ (¬ a0 = 110 → (a0 = 115 → -2147483648 ≤ a1 ∧ a1 < 2147483648) ∧ (¬ a0 = 115 → (a0 = 119 → -2147483648 ≤ a1 ∧ a1 < 2147483648) ∧ (¬ a0 = 119 → True))))
def F_M_usual (w : z_Wd) (a0 : Int) (a1 : Int) : Int := if a0 = 110 then if a1 = 0 then 2 else 0 else if a0 = 115 then if a1 = 0 then 1 else 20 else if a0 = 119 then if a1 = 0 then 8 else 0 else a1
set_option maxRecDepth 4000 in
theorem c_M_usual {d : Nat} {w : z_Wd} {a0 a1 : Int} {Q : Option z_V → z_Wd → Prop} (h : P_M_usual w a0 a1) (k : Q (some (zI (F_M_usual w a0 a1))) w) : z_Wc d m_X12_usual [zI a0, zI a1] w Q := by
  unfold P_M_usual at h
  unfold F_M_usual at k
  refine z_enter rfl (Nat.le_of_ble_eq_true rfl) ?_
  show z_Wp m_X12_usual _ 0 [(0, zI a0), (1, zI a1)] [] w _
  refine z_iload_n (pc' := 1) 0 rfl rfl dX12_usual_0 rfl ?_
  obtain ⟨r1, h⟩ := h
  refine z_lookup dX12_usual_1 (by decide) r1 ⟨fun c0 => ⟨58, by decide, ?_⟩, fun c0 => ⟨fun c1 => ⟨36, by decide, ?_⟩, fun c1 => ⟨fun c2 => ⟨47, by decide, ?_⟩, fun c2 => ⟨68, by decide, ?_⟩⟩⟩⟩
  · skip
    have c0 : a0 = 110 := c0
    have h := h.1 c0
    rw [if_pos c0] at k
    refine z_iload_n (pc' := 59) 1 rfl rfl dX12_usual_58 rfl ?_
    have r2 := h
    refine z_if_ne 66 dX12_usual_59 (by decide) (pc' := 62) rfl r2 (fun c => ?_) (fun c => ?_)
    · skip
      rw [if_neg c] at k
      refine z_iconst (pc' := 67) dX12_usual_66 rfl ?_
      refine z_iret rfl dX12_usual_67 ?_
      exact k
    · skip
      rw [if_pos c] at k
      refine z_iconst (pc' := 63) dX12_usual_62 rfl ?_
      refine z_goto 67 dX12_usual_63 (by decide) ?_
      refine z_iret rfl dX12_usual_67 ?_
      exact k
  · skip
    have c0 : ¬ a0 = 110 := c0
    have h := h.2 c0
    rw [if_neg c0] at k
    have c1 : a0 = 115 := c1
    have h := h.1 c1
    rw [if_pos c1] at k
    refine z_iload_n (pc' := 37) 1 rfl rfl dX12_usual_36 rfl ?_
    have r3 := h
    refine z_if_ne 44 dX12_usual_37 (by decide) (pc' := 40) rfl r3 (fun c => ?_) (fun c => ?_)
    · skip
      rw [if_neg c] at k
      refine z_bipush (pc' := 46) (by decide) dX12_usual_44 rfl ?_
      refine z_iret rfl dX12_usual_46 ?_
      exact k
    · skip
      rw [if_pos c] at k
      refine z_iconst (pc' := 41) dX12_usual_40 rfl ?_
      refine z_goto 46 dX12_usual_41 (by decide) ?_
      refine z_iret rfl dX12_usual_46 ?_
      exact k
  · skip
    have c0 : ¬ a0 = 110 := c0
    have h := h.2 c0
    rw [if_neg c0] at k
    have c1 : ¬ a0 = 115 := c1
    have h := h.2 c1
    rw [if_neg c1] at k
    have c2 : a0 = 119 := c2
    have h := h.1 c2
    rw [if_pos c2] at k
    refine z_iload_n (pc' := 48) 1 rfl rfl dX12_usual_47 rfl ?_
    have r4 := h
    refine z_if_ne 56 dX12_usual_48 (by decide) (pc' := 51) rfl r4 (fun c => ?_) (fun c => ?_)
    · skip
      rw [if_neg c] at k
      refine z_iconst (pc' := 57) dX12_usual_56 rfl ?_
      refine z_iret rfl dX12_usual_57 ?_
      exact k
    · skip
      rw [if_pos c] at k
      refine z_bipush (pc' := 53) (by decide) dX12_usual_51 rfl ?_
      refine z_goto 57 dX12_usual_53 (by decide) ?_
      refine z_iret rfl dX12_usual_57 ?_
      exact k
  · skip
    have c0 : ¬ a0 = 110 := c0
    have h := h.2 c0
    rw [if_neg c0] at k
    have c1 : ¬ a0 = 115 := c1
    have h := h.2 c1
    rw [if_neg c1] at k
    have c2 : ¬ a0 = 119 := c2
    have h := h.2 c2
    rw [if_neg c2] at k
    refine z_iload_n (pc' := 69) 1 rfl rfl dX12_usual_68 rfl ?_
    refine z_iret rfl dX12_usual_69 ?_
    exact k
def P_M_of (w : z_Wd) (a0 : Int) (a1 : Int) : Prop := 0 ≤ (3 * a0) + a1 ∧ (3 * a0) + a1 < 21
def F_M_of (w : z_Wd) (a0 : Int) (a1 : Int) : Int := w 17 (((3 * a0) + a1).toNat)
set_option maxRecDepth 4000 in
theorem c_M_of {d : Nat} {w : z_Wd} {a0 a1 : Int} {Q : Option z_V → z_Wd → Prop} (h : P_M_of w a0 a1) (k : Q (some (zI (F_M_of w a0 a1))) w) : z_Wc d m_X12_of [zR 0, zI a0, zI a1] w Q := by
  unfold P_M_of at h
  unfold F_M_of at k
  refine z_enter rfl (Nat.le_of_ble_eq_true rfl) ?_
  show z_Wp m_X12_of _ 0 [(0, zR 0), (1, zI a0), (2, zI a1)] [] w _
  refine z_aload_n (pc' := 1) 0 rfl rfl dX12_of_0 rfl ?_
  refine z_getR (t := 17) (pc' := 4) g_X12_58 (by decide) rfl rfl dX12_of_1 rfl ?_
  refine z_iconst (pc' := 5) dX12_of_4 rfl ?_
  refine z_iload_n (pc' := 6) 1 rfl rfl dX12_of_5 rfl ?_
  refine z_imul (pc' := 7) dX12_of_6 rfl ?_
  refine z_iload_n (pc' := 8) 2 rfl rfl dX12_of_7 rfl ?_
  refine z_iadd (pc' := 9) dX12_of_8 rfl ?_
  have r1 := h
  refine z_iald2 (v := w 17 (((3 * a0) + a1).toNat)) (pc' := 10) (by decide) rfl r1 (by decide) rfl dX12_of_9 rfl ?_
  refine z_iret rfl dX12_of_10 ?_
  exact k
def P_M_isName (w : z_Wd) (a0 : Int) : Prop := P_M_in w a0 0 ((w 0 29) - 1)
def F_M_isName (w : z_Wd) (a0 : Int) : Int := F_M_in w a0 0 ((w 0 29) - 1)
set_option maxRecDepth 4000 in
theorem c_M_isName {d : Nat} {w : z_Wd} {a0 : Int} {Q : Option z_V → z_Wd → Prop} (h : P_M_isName w a0) (k : Q (some (zI (F_M_isName w a0))) w) : z_Wc (d + 1) m_X12_isName [zR 0, zI a0] w Q := by
  unfold P_M_isName at h
  unfold F_M_isName at k
  refine z_enter rfl (Nat.le_of_ble_eq_true rfl) ?_
  show z_Wp m_X12_isName _ 0 [(0, zR 0), (1, zI a0)] [] w _
  refine z_iload_n (pc' := 1) 1 rfl rfl dX12_isName_0 rfl ?_
  refine z_iconst (pc' := 2) dX12_isName_1 rfl ?_
  refine z_aload_n (pc' := 3) 0 rfl rfl dX12_isName_2 rfl ?_
  refine z_getI2 (v := w 0 29) (pc' := 6) g_X12_260 (by decide) rfl rfl rfl dX12_isName_3 rfl ?_
  refine z_iconst (pc' := 7) dX12_isName_6 rfl ?_
  refine z_isub (pc' := 8) dX12_isName_7 rfl ?_
  refine z_invS (as := [zI a0, zI 0, zI ((w 0 29) - 1)]) (st := []) (C := m_X12_in) (pc' := 11) dX12_isName_8 rfl t_7_17 k_X12_in rfl rfl (Nat.le_of_ble_eq_true rfl) ?_
  have r1 := h
  refine c_M_in r1 ?_
  show z_Wp m_X12_isName _ 11 [(0, zR 0), (1, zI a0)] [zI (F_M_in w a0 0 ((w 0 29) - 1))] w _
  refine z_zret rfl b_M_in dX12_isName_11 ?_
  exact k
theorem b_M_isName {w : z_Wd} {a0 : Int} : F_M_isName w a0 = 0 ∨ F_M_isName w a0 = 1 := by
  unfold F_M_isName
  (repeat' split) <;> first | exact Or.inl rfl | exact Or.inr rfl | exact b_M_in
def P_M_isWell (w : z_Wd) (a0 : Int) : Prop := P_M_in w a0 0 ((w 0 28) - 1)
def F_M_isWell (w : z_Wd) (a0 : Int) : Int := F_M_in w a0 0 ((w 0 28) - 1)
set_option maxRecDepth 4000 in
theorem c_M_isWell {d : Nat} {w : z_Wd} {a0 : Int} {Q : Option z_V → z_Wd → Prop} (h : P_M_isWell w a0) (k : Q (some (zI (F_M_isWell w a0))) w) : z_Wc (d + 1) m_X12_isWell [zR 0, zI a0] w Q := by
  unfold P_M_isWell at h
  unfold F_M_isWell at k
  refine z_enter rfl (Nat.le_of_ble_eq_true rfl) ?_
  show z_Wp m_X12_isWell _ 0 [(0, zR 0), (1, zI a0)] [] w _
  refine z_iload_n (pc' := 1) 1 rfl rfl dX12_isWell_0 rfl ?_
  refine z_iconst (pc' := 2) dX12_isWell_1 rfl ?_
  refine z_aload_n (pc' := 3) 0 rfl rfl dX12_isWell_2 rfl ?_
  refine z_getI2 (v := w 0 28) (pc' := 6) g_X12_257 (by decide) rfl rfl rfl dX12_isWell_3 rfl ?_
  refine z_iconst (pc' := 7) dX12_isWell_6 rfl ?_
  refine z_isub (pc' := 8) dX12_isWell_7 rfl ?_
  refine z_invS (as := [zI a0, zI 0, zI ((w 0 28) - 1)]) (st := []) (C := m_X12_in) (pc' := 11) dX12_isWell_8 rfl t_7_17 k_X12_in rfl rfl (Nat.le_of_ble_eq_true rfl) ?_
  have r1 := h
  refine c_M_in r1 ?_
  show z_Wp m_X12_isWell _ 11 [(0, zR 0), (1, zI a0)] [zI (F_M_in w a0 0 ((w 0 28) - 1))] w _
  refine z_zret rfl b_M_in dX12_isWell_11 ?_
  exact k
theorem b_M_isWell {w : z_Wd} {a0 : Int} : F_M_isWell w a0 = 0 ∨ F_M_isWell w a0 = 1 := by
  unfold F_M_isWell
  (repeat' split) <;> first | exact Or.inl rfl | exact Or.inr rfl | exact b_M_in
def P_M_isFile (w : z_Wd) (a0 : Int) : Prop := P_M_in w a0 0 ((w 0 30) - 1)
def F_M_isFile (w : z_Wd) (a0 : Int) : Int := F_M_in w a0 0 ((w 0 30) - 1)
set_option maxRecDepth 4000 in
theorem c_M_isFile {d : Nat} {w : z_Wd} {a0 : Int} {Q : Option z_V → z_Wd → Prop} (h : P_M_isFile w a0) (k : Q (some (zI (F_M_isFile w a0))) w) : z_Wc (d + 1) m_X12_isFile [zR 0, zI a0] w Q := by
  unfold P_M_isFile at h
  unfold F_M_isFile at k
  refine z_enter rfl (Nat.le_of_ble_eq_true rfl) ?_
  show z_Wp m_X12_isFile _ 0 [(0, zR 0), (1, zI a0)] [] w _
  refine z_iload_n (pc' := 1) 1 rfl rfl dX12_isFile_0 rfl ?_
  refine z_iconst (pc' := 2) dX12_isFile_1 rfl ?_
  refine z_aload_n (pc' := 3) 0 rfl rfl dX12_isFile_2 rfl ?_
  refine z_getI2 (v := w 0 30) (pc' := 6) g_X12_263 (by decide) rfl rfl rfl dX12_isFile_3 rfl ?_
  refine z_iconst (pc' := 7) dX12_isFile_6 rfl ?_
  refine z_isub (pc' := 8) dX12_isFile_7 rfl ?_
  refine z_invS (as := [zI a0, zI 0, zI ((w 0 30) - 1)]) (st := []) (C := m_X12_in) (pc' := 11) dX12_isFile_8 rfl t_7_17 k_X12_in rfl rfl (Nat.le_of_ble_eq_true rfl) ?_
  have r1 := h
  refine c_M_in r1 ?_
  show z_Wp m_X12_isFile _ 11 [(0, zR 0), (1, zI a0)] [zI (F_M_in w a0 0 ((w 0 30) - 1))] w _
  refine z_zret rfl b_M_in dX12_isFile_11 ?_
  exact k
theorem b_M_isFile {w : z_Wd} {a0 : Int} : F_M_isFile w a0 = 0 ∨ F_M_isFile w a0 = 1 := by
  unfold F_M_isFile
  (repeat' split) <;> first | exact Or.inl rfl | exact Or.inr rfl | exact b_M_in
def P_M_lies (w : z_Wd) (a0 : Int) (a1 : Int) : Prop := 0 ≤ (4 + (7 * a0)) + a1 ∧ (4 + (7 * a0)) + a1 < 160
def F_M_lies (w : z_Wd) (a0 : Int) (a1 : Int) : Int := w 19 (((4 + (7 * a0)) + a1).toNat)
set_option maxRecDepth 4000 in
theorem c_M_lies {d : Nat} {w : z_Wd} {a0 a1 : Int} {Q : Option z_V → z_Wd → Prop} (h : P_M_lies w a0 a1) (k : Q (some (zI (F_M_lies w a0 a1))) w) : z_Wc d m_X12_lies [zR 0, zI a0, zI a1] w Q := by
  unfold P_M_lies at h
  unfold F_M_lies at k
  refine z_enter rfl (Nat.le_of_ble_eq_true rfl) ?_
  show z_Wp m_X12_lies _ 0 [(0, zR 0), (1, zI a0), (2, zI a1)] [] w _
  refine z_aload_n (pc' := 1) 0 rfl rfl dX12_lies_0 rfl ?_
  refine z_getR (t := 19) (pc' := 4) g_X12_64 (by decide) rfl rfl dX12_lies_1 rfl ?_
  refine z_iconst (pc' := 5) dX12_lies_4 rfl ?_
  refine z_bipush (pc' := 7) (by decide) dX12_lies_5 rfl ?_
  refine z_iload_n (pc' := 8) 1 rfl rfl dX12_lies_7 rfl ?_
  refine z_imul (pc' := 9) dX12_lies_8 rfl ?_
  refine z_iadd (pc' := 10) dX12_lies_9 rfl ?_
  refine z_iload_n (pc' := 11) 2 rfl rfl dX12_lies_10 rfl ?_
  refine z_iadd (pc' := 12) dX12_lies_11 rfl ?_
  have r1 := h
  refine z_iald2 (v := w 19 (((4 + (7 * a0)) + a1).toNat)) (pc' := 13) (by decide) rfl r1 (by decide) rfl dX12_lies_12 rfl ?_
  refine z_iret rfl dX12_lies_13 ?_
  exact k
def P_M_dropsOf (w : z_Wd) (a0 : Int) : Prop := 0 ≤ (3 * a0) + 0 ∧ (3 * a0) + 0 < 21
def F_M_dropsOf (w : z_Wd) (a0 : Int) : Int := (w 17 ((3 * a0).toNat)) * (w 15 0)
set_option maxRecDepth 4000 in
theorem c_M_dropsOf {d : Nat} {w : z_Wd} {a0 : Int} {Q : Option z_V → z_Wd → Prop} (h : P_M_dropsOf w a0) (k : Q (some (zI (F_M_dropsOf w a0))) w) : z_Wc (d + 1) m_X12_dropsOf [zR 0, zI a0] w Q := by
  unfold P_M_dropsOf at h
  unfold F_M_dropsOf at k
  refine z_enter rfl (Nat.le_of_ble_eq_true rfl) ?_
  show z_Wp m_X12_dropsOf _ 0 [(0, zR 0), (1, zI a0)] [] w _
  refine z_aload_n (pc' := 1) 0 rfl rfl dX12_dropsOf_0 rfl ?_
  refine z_iload_n (pc' := 2) 1 rfl rfl dX12_dropsOf_1 rfl ?_
  refine z_iconst (pc' := 3) dX12_dropsOf_2 rfl ?_
  refine z_invV (as := [zI a0, zI 0]) (st := []) (C := m_X12_of) (fs := [0, 3, 0, 0, 0, 0, 4, 5, 6, 7, 8, 9, 10, 0, 0, 11, 12, 13, 14, 15, 16, 0, 0, 0, 17, 18, 19, 20, 0, 0, 0, 21, 22, 0, 0, 23, 0, 1, 24, 0, 0, 25, 26, 0, 27, 0]) (pc' := 6) dX12_dropsOf_3 rfl t_7_138 k_X12_of rfl (by decide) rfl rfl rfl rfl (Nat.le_of_ble_eq_true rfl) ?_
  have r1 := h
  refine c_M_of r1 ?_
  show z_Wp m_X12_dropsOf _ 6 [(0, zR 0), (1, zI a0)] [zI (w 17 (((3 * a0) + 0).toNat))] w _
  refine z_eqI (y := w 17 ((3 * a0).toNat)) (by simp) ?_
  refine z_aload_n (pc' := 7) 0 rfl rfl dX12_dropsOf_6 rfl ?_
  refine z_getR (t := 15) (pc' := 10) g_X12_52 (by decide) rfl rfl dX12_dropsOf_7 rfl ?_
  refine z_iconst (pc' := 11) dX12_dropsOf_10 rfl ?_
  refine z_iald2 (v := w 15 0) (pc' := 12) (by decide) rfl (by decide) (by decide) rfl dX12_dropsOf_11 rfl ?_
  refine z_imul (pc' := 13) dX12_dropsOf_12 rfl ?_
  refine z_iret rfl dX12_dropsOf_13 ?_
  exact k
def P_M_rule (w : z_Wd) (a0 : Int) : Prop := (-2147483648 ≤ w 0 29 ∧ w 0 29 < 2147483648) ∧ ((w 0 29 = 0 → True) ∧ (¬ (w 0 29 = 0) → (P_M_in w a0 0 1) ∧ ((F_M_in w a0 0 1 = 0 → True) ∧ (¬ (F_M_in w a0 0 1 = 0) → -2147483648 ≤ a0 ∧ a0 < 2147483648))))
def F_M_rule (w : z_Wd) (a0 : Int) : Int := if w 0 29 = 0 then (-1) else if F_M_in w a0 0 1 = 0 then (-1) else if a0 = 0 then w 15 0 else w 19 36
set_option maxRecDepth 4000 in
theorem c_M_rule {d : Nat} {w : z_Wd} {a0 : Int} {Q : Option z_V → z_Wd → Prop} (h : P_M_rule w a0) (k : Q (some (zI (F_M_rule w a0))) w) : z_Wc (d + 1) m_X12_rule [zR 0, zI a0] w Q := by
  unfold P_M_rule at h
  unfold F_M_rule at k
  refine z_enter rfl (Nat.le_of_ble_eq_true rfl) ?_
  show z_Wp m_X12_rule _ 0 [(0, zR 0), (1, zI a0)] [] w _
  refine z_aload_n (pc' := 1) 0 rfl rfl dX12_rule_0 rfl ?_
  refine z_getI2 (v := w 0 29) (pc' := 4) g_X12_260 (by decide) rfl rfl rfl dX12_rule_1 rfl ?_
  obtain ⟨r1, h⟩ := h
  refine z_if_eq 16 dX12_rule_4 (by decide) (pc' := 7) rfl r1 (fun c => ?_) (fun c => ?_)
  · have h := h.1 c
    rw [if_pos c] at k
    refine z_iconst (pc' := 17) dX12_rule_16 rfl ?_
    refine z_goto 40 dX12_rule_17 (by decide) ?_
    refine z_iret rfl dX12_rule_40 ?_
    exact k
  · have h := h.2 c
    rw [if_neg c] at k
    refine z_iload_n (pc' := 8) 1 rfl rfl dX12_rule_7 rfl ?_
    refine z_iconst (pc' := 9) dX12_rule_8 rfl ?_
    refine z_iconst (pc' := 10) dX12_rule_9 rfl ?_
    refine z_invS (as := [zI a0, zI 0, zI 1]) (st := []) (C := m_X12_in) (pc' := 13) dX12_rule_10 rfl t_7_17 k_X12_in rfl rfl (Nat.le_of_ble_eq_true rfl) ?_
    obtain ⟨r2, h⟩ := h
    refine c_M_in r2 ?_
    show z_Wp m_X12_rule _ 13 [(0, zR 0), (1, zI a0)] [zI (F_M_in w a0 0 1)] w _
    refine z_if_ne 20 dX12_rule_13 (by decide) (pc' := 16) rfl (z_rb b_M_in) (fun c => ?_) (fun c => ?_)
    · have h := h.2 c
      rw [if_neg c] at k
      refine z_iload_n (pc' := 21) 1 rfl rfl dX12_rule_20 rfl ?_
      have r3 := h
      refine z_if_ne 33 dX12_rule_21 (by decide) (pc' := 24) rfl r3 (fun c => ?_) (fun c => ?_)
      · skip
        rw [if_neg c] at k
        refine z_aload_n (pc' := 34) 0 rfl rfl dX12_rule_33 rfl ?_
        refine z_getR (t := 19) (pc' := 37) g_X12_64 (by decide) rfl rfl dX12_rule_34 rfl ?_
        refine z_bipush (pc' := 39) (by decide) dX12_rule_37 rfl ?_
        refine z_iald2 (v := w 19 36) (pc' := 40) (by decide) rfl (by decide) (by decide) rfl dX12_rule_39 rfl ?_
        refine z_iret rfl dX12_rule_40 ?_
        exact k
      · skip
        rw [if_pos c] at k
        refine z_aload_n (pc' := 25) 0 rfl rfl dX12_rule_24 rfl ?_
        refine z_getR (t := 15) (pc' := 28) g_X12_52 (by decide) rfl rfl dX12_rule_25 rfl ?_
        refine z_iconst (pc' := 29) dX12_rule_28 rfl ?_
        refine z_iald2 (v := w 15 0) (pc' := 30) (by decide) rfl (by decide) (by decide) rfl dX12_rule_29 rfl ?_
        refine z_goto 40 dX12_rule_30 (by decide) ?_
        refine z_iret rfl dX12_rule_40 ?_
        exact k
    · have h := h.1 c
      rw [if_pos c] at k
      refine z_iconst (pc' := 17) dX12_rule_16 rfl ?_
      refine z_goto 40 dX12_rule_17 (by decide) ?_
      refine z_iret rfl dX12_rule_40 ?_
      exact k
def P_M_gapsBy (w : z_Wd) (a0 : Int) (a1 : Int) : Prop := (0 ≤ 2 * a0 ∧ 2 * a0 < 12) ∧ (0 ≤ (2 * a0) + 1 ∧ (2 * a0) + 1 < 12)
def F_M_gapsBy (w : z_Wd) (a0 : Int) (a1 : Int) : Int := (zz_and (zz_shr a1 (w 18 ((2 * a0).toNat))) 1) + (zz_and (zz_shr a1 (w 18 (((2 * a0) + 1).toNat))) 1)
set_option maxRecDepth 4000 in
theorem c_M_gapsBy {d : Nat} {w : z_Wd} {a0 a1 : Int} {Q : Option z_V → z_Wd → Prop} (h : P_M_gapsBy w a0 a1) (k : Q (some (zI (F_M_gapsBy w a0 a1))) w) : z_Wc d m_X12_gapsBy [zR 0, zI a0, zI a1] w Q := by
  unfold P_M_gapsBy at h
  unfold F_M_gapsBy at k
  refine z_enter rfl (Nat.le_of_ble_eq_true rfl) ?_
  show z_Wp m_X12_gapsBy _ 0 [(0, zR 0), (1, zI a0), (2, zI a1)] [] w _
  refine z_iload_n (pc' := 1) 2 rfl rfl dX12_gapsBy_0 rfl ?_
  refine z_aload_n (pc' := 2) 0 rfl rfl dX12_gapsBy_1 rfl ?_
  refine z_getR (t := 18) (pc' := 5) g_X12_61 (by decide) rfl rfl dX12_gapsBy_2 rfl ?_
  refine z_iconst (pc' := 6) dX12_gapsBy_5 rfl ?_
  refine z_iload_n (pc' := 7) 1 rfl rfl dX12_gapsBy_6 rfl ?_
  refine z_imul (pc' := 8) dX12_gapsBy_7 rfl ?_
  obtain ⟨r1, h⟩ := h
  refine z_iald2 (v := w 18 ((2 * a0).toNat)) (pc' := 9) (by decide) rfl r1 (by decide) rfl dX12_gapsBy_8 rfl ?_
  refine z_ishr (pc' := 10) dX12_gapsBy_9 rfl ?_
  refine z_iconst (pc' := 11) dX12_gapsBy_10 rfl ?_
  refine z_iand (pc' := 12) dX12_gapsBy_11 rfl ?_
  refine z_iload_n (pc' := 13) 2 rfl rfl dX12_gapsBy_12 rfl ?_
  refine z_aload_n (pc' := 14) 0 rfl rfl dX12_gapsBy_13 rfl ?_
  refine z_getR (t := 18) (pc' := 17) g_X12_61 (by decide) rfl rfl dX12_gapsBy_14 rfl ?_
  refine z_iconst (pc' := 18) dX12_gapsBy_17 rfl ?_
  refine z_iload_n (pc' := 19) 1 rfl rfl dX12_gapsBy_18 rfl ?_
  refine z_imul (pc' := 20) dX12_gapsBy_19 rfl ?_
  refine z_iconst (pc' := 21) dX12_gapsBy_20 rfl ?_
  refine z_iadd (pc' := 22) dX12_gapsBy_21 rfl ?_
  have r2 := h
  refine z_iald2 (v := w 18 (((2 * a0) + 1).toNat)) (pc' := 23) (by decide) rfl r2 (by decide) rfl dX12_gapsBy_22 rfl ?_
  refine z_ishr (pc' := 24) dX12_gapsBy_23 rfl ?_
  refine z_iconst (pc' := 25) dX12_gapsBy_24 rfl ?_
  refine z_iand (pc' := 26) dX12_gapsBy_25 rfl ?_
  refine z_iadd (pc' := 27) dX12_gapsBy_26 rfl ?_
  refine z_iret rfl dX12_gapsBy_27 ?_
  exact k
def P_M_law (w : z_Wd) (a0 : Int) : Prop := P_M_in w a0 (-1) ((w 0 13) - 1)
def F_M_law (w : z_Wd) (a0 : Int) : Int × z_Wd := if F_M_in w a0 (-1) ((w 0 13) - 1) = 0 then (0, w) else (1, z_up w 0 33 a0)
set_option maxRecDepth 4000 in
theorem c_M_law {d : Nat} {w : z_Wd} {a0 : Int} {Q : Option z_V → z_Wd → Prop} (h : P_M_law w a0) (k : Q (some (zI (F_M_law w a0).1)) (F_M_law w a0).2) : z_Wc (d + 1) m_X12_law [zR 0, zI a0] w Q := by
  unfold P_M_law at h
  unfold F_M_law at k
  refine z_enter rfl (Nat.le_of_ble_eq_true rfl) ?_
  show z_Wp m_X12_law _ 0 [(0, zR 0), (1, zI a0)] [] w _
  refine z_iload_n (pc' := 1) 1 rfl rfl dX12_law_0 rfl ?_
  refine z_iconst (pc' := 2) dX12_law_1 rfl ?_
  refine z_aload_n (pc' := 3) 0 rfl rfl dX12_law_2 rfl ?_
  refine z_getI2 (v := w 0 13) (pc' := 6) g_X12_279 (by decide) rfl rfl rfl dX12_law_3 rfl ?_
  refine z_iconst (pc' := 7) dX12_law_6 rfl ?_
  refine z_isub (pc' := 8) dX12_law_7 rfl ?_
  refine z_invS (as := [zI a0, zI (-1), zI ((w 0 13) - 1)]) (st := []) (C := m_X12_in) (pc' := 11) dX12_law_8 rfl t_7_17 k_X12_in rfl rfl (Nat.le_of_ble_eq_true rfl) ?_
  have r1 := h
  refine c_M_in r1 ?_
  show z_Wp m_X12_law _ 11 [(0, zR 0), (1, zI a0)] [zI (F_M_in w a0 (-1) ((w 0 13) - 1))] w _
  refine z_if_ne 16 dX12_law_11 (by decide) (pc' := 14) rfl (z_rb b_M_in) (fun c => ?_) (fun c => ?_)
  · skip
    rw [if_neg c] at k
    refine z_aload_n (pc' := 17) 0 rfl rfl dX12_law_16 rfl ?_
    refine z_iload_n (pc' := 18) 1 rfl rfl dX12_law_17 rfl ?_
    refine z_putI (pc' := 21) p_X12_70 (by decide) rfl rfl rfl rfl dX12_law_18 rfl ?_
    refine z_iconst (pc' := 22) dX12_law_21 rfl ?_
    refine z_zret rfl (by decide) dX12_law_22 ?_
    exact k
  · skip
    rw [if_pos c] at k
    refine z_iconst (pc' := 15) dX12_law_14 rfl ?_
    refine z_zret rfl (by decide) dX12_law_15 ?_
    exact k
def P_M_isRefused (w : z_Wd) (a0 : Int) : Prop := (-2147483648 ≤ a0 ∧ a0 < 2147483648) ∧ ((a0 = (-1) → True) ∧ (¬ (a0 = (-1)) → 0 ≤ a0 ∧ a0 < 5))
def F_M_isRefused (w : z_Wd) (a0 : Int) : Int × z_Wd := if a0 = (-1) then if a0 = (-1) then (0, w) else (1, w) else if a0 = (-1) then (0, z_up w 20 a0.toNat ((w 20 a0.toNat) + 1)) else (1, z_up w 20 a0.toNat ((w 20 a0.toNat) + 1))
set_option maxRecDepth 4000 in
theorem c_M_isRefused {d : Nat} {w : z_Wd} {a0 : Int} {Q : Option z_V → z_Wd → Prop} (h : P_M_isRefused w a0) (k : Q (some (zI (F_M_isRefused w a0).1)) (F_M_isRefused w a0).2) : z_Wc d m_X12_isRefused [zR 0, zI a0] w Q := by
  unfold P_M_isRefused at h
  unfold F_M_isRefused at k
  refine z_enter rfl (Nat.le_of_ble_eq_true rfl) ?_
  show z_Wp m_X12_isRefused _ 0 [(0, zR 0), (1, zI a0)] [] w _
  refine z_iload_n (pc' := 1) 1 rfl rfl dX12_isRefused_0 rfl ?_
  refine z_iconst (pc' := 2) dX12_isRefused_1 rfl ?_
  obtain ⟨r1, h⟩ := h
  refine z_icmp_eq 15 dX12_isRefused_2 (by decide) (pc' := 5) rfl r1 (by decide) (fun c => ?_) (fun c => ?_)
  · have h := h.1 c
    rw [if_pos c] at k
    refine z_iload_n (pc' := 16) 1 rfl rfl dX12_isRefused_15 rfl ?_
    refine z_iconst (pc' := 17) dX12_isRefused_16 rfl ?_
    refine z_icmp_eq 24 dX12_isRefused_17 (by decide) (pc' := 20) rfl r1 (by decide) (fun c => ?_) (fun c => ?_)
    · skip
      rw [if_pos c] at k
      refine z_iconst (pc' := 25) dX12_isRefused_24 rfl ?_
      refine z_zret rfl (by decide) dX12_isRefused_25 ?_
      exact k
    · skip
      rw [if_neg c] at k
      refine z_iconst (pc' := 21) dX12_isRefused_20 rfl ?_
      refine z_goto 25 dX12_isRefused_21 (by decide) ?_
      refine z_zret rfl (by decide) dX12_isRefused_25 ?_
      exact k
  · have h := h.2 c
    rw [if_neg c] at k
    refine z_aload_n (pc' := 6) 0 rfl rfl dX12_isRefused_5 rfl ?_
    refine z_getR (t := 20) (pc' := 9) g_X12_67 (by decide) rfl rfl dX12_isRefused_6 rfl ?_
    refine z_iload_n (pc' := 10) 1 rfl rfl dX12_isRefused_9 rfl ?_
    refine z_dup2 (pc' := 11) rfl rfl dX12_isRefused_10 rfl ?_
    have r2 := h
    refine z_iald2 (v := w 20 a0.toNat) (pc' := 12) (by decide) rfl r2 (by decide) rfl dX12_isRefused_11 rfl ?_
    refine z_iconst (pc' := 13) dX12_isRefused_12 rfl ?_
    refine z_iadd (pc' := 14) dX12_isRefused_13 rfl ?_
    refine z_iast2 (w' := z_up w 20 a0.toNat ((w 20 a0.toNat) + 1)) (pc' := 15) (by decide) rfl r2 (by decide) rfl dX12_isRefused_14 rfl ?_
    refine z_iload_n (pc' := 16) 1 rfl rfl dX12_isRefused_15 rfl ?_
    refine z_iconst (pc' := 17) dX12_isRefused_16 rfl ?_
    refine z_icmp_eq 24 dX12_isRefused_17 (by decide) (pc' := 20) rfl r1 (by decide) (fun c => ?_) (fun c => ?_)
    · skip
      rw [if_pos c] at k
      refine z_iconst (pc' := 25) dX12_isRefused_24 rfl ?_
      refine z_zret rfl (by decide) dX12_isRefused_25 ?_
      exact k
    · skip
      rw [if_neg c] at k
      refine z_iconst (pc' := 21) dX12_isRefused_20 rfl ?_
      refine z_goto 25 dX12_isRefused_21 (by decide) ?_
      refine z_zret rfl (by decide) dX12_isRefused_25 ?_
      exact k
def P_M_dipNow (w : z_Wd) (a0 : Int) (a1 : Int) : Prop := (0 ≤ a1 ∧ a1 < 160) ∧ (0 ≤ (4 + (7 * a1)) + (w 19 a1.toNat) ∧ (4 + (7 * a1)) + (w 19 a1.toNat) < 160)
def F_M_dipNow (w : z_Wd) (a0 : Int) (a1 : Int) : z_Wd := z_up (z_up w 19 (((4 + (7 * a1)) + (w 19 a1.toNat)).toNat) a0) 19 a1.toNat (((z_up w 19 (((4 + (7 * a1)) + (w 19 a1.toNat)).toNat) a0) 19 a1.toNat) + 1)
set_option maxRecDepth 4000 in
theorem c_M_dipNow {d : Nat} {w : z_Wd} {a0 a1 : Int} {Q : Option z_V → z_Wd → Prop} (h : P_M_dipNow w a0 a1) (k : Q none (F_M_dipNow w a0 a1)) : z_Wc d m_X12_dipNow [zR 0, zI a0, zI a1] w Q := by
  unfold P_M_dipNow at h
  unfold F_M_dipNow at k
  refine z_enter rfl (Nat.le_of_ble_eq_true rfl) ?_
  show z_Wp m_X12_dipNow _ 0 [(0, zR 0), (1, zI a0), (2, zI a1)] [] w _
  refine z_aload_n (pc' := 1) 0 rfl rfl dX12_dipNow_0 rfl ?_
  refine z_getR (t := 19) (pc' := 4) g_X12_64 (by decide) rfl rfl dX12_dipNow_1 rfl ?_
  refine z_iconst (pc' := 5) dX12_dipNow_4 rfl ?_
  refine z_bipush (pc' := 7) (by decide) dX12_dipNow_5 rfl ?_
  refine z_iload_n (pc' := 8) 2 rfl rfl dX12_dipNow_7 rfl ?_
  refine z_imul (pc' := 9) dX12_dipNow_8 rfl ?_
  refine z_iadd (pc' := 10) dX12_dipNow_9 rfl ?_
  refine z_aload_n (pc' := 11) 0 rfl rfl dX12_dipNow_10 rfl ?_
  refine z_getR (t := 19) (pc' := 14) g_X12_64 (by decide) rfl rfl dX12_dipNow_11 rfl ?_
  refine z_iconst (pc' := 15) dX12_dipNow_14 rfl ?_
  refine z_iload_n (pc' := 16) 2 rfl rfl dX12_dipNow_15 rfl ?_
  refine z_iadd (pc' := 17) dX12_dipNow_16 rfl ?_
  refine z_eqI (y := a1) (by omega) ?_
  obtain ⟨r1, h⟩ := h
  refine z_iald2 (v := w 19 a1.toNat) (pc' := 18) (by decide) rfl r1 (by decide) rfl dX12_dipNow_17 rfl ?_
  refine z_iadd (pc' := 19) dX12_dipNow_18 rfl ?_
  refine z_iload_n (pc' := 20) 1 rfl rfl dX12_dipNow_19 rfl ?_
  have r2 := h
  refine z_iast2 (w' := z_up w 19 (((4 + (7 * a1)) + (w 19 a1.toNat)).toNat) a0) (pc' := 21) (by decide) rfl r2 (by decide) rfl dX12_dipNow_20 rfl ?_
  refine z_aload_n (pc' := 22) 0 rfl rfl dX12_dipNow_21 rfl ?_
  refine z_getR (t := 19) (pc' := 25) g_X12_64 (by decide) rfl rfl dX12_dipNow_22 rfl ?_
  refine z_iconst (pc' := 26) dX12_dipNow_25 rfl ?_
  refine z_iload_n (pc' := 27) 2 rfl rfl dX12_dipNow_26 rfl ?_
  refine z_iadd (pc' := 28) dX12_dipNow_27 rfl ?_
  refine z_eqI (y := a1) (by omega) ?_
  refine z_dup2 (pc' := 29) rfl rfl dX12_dipNow_28 rfl ?_
  refine z_iald2 (v := (z_up w 19 (((4 + (7 * a1)) + (w 19 a1.toNat)).toNat) a0) 19 a1.toNat) (pc' := 30) (by decide) rfl r1 (by decide) rfl dX12_dipNow_29 rfl ?_
  refine z_iconst (pc' := 31) dX12_dipNow_30 rfl ?_
  refine z_iadd (pc' := 32) dX12_dipNow_31 rfl ?_
  refine z_iast2 (w' := z_up (z_up w 19 (((4 + (7 * a1)) + (w 19 a1.toNat)).toNat) a0) 19 a1.toNat (((z_up w 19 (((4 + (7 * a1)) + (w 19 a1.toNat)).toNat) a0) 19 a1.toNat) + 1)) (pc' := 33) (by decide) rfl r1 (by decide) rfl dX12_dipNow_32 rfl ?_
  refine z_vret rfl dX12_dipNow_33 ?_
  exact k
def P_M_whyNot (w : z_Wd) (a0 : Int) (a1 : Int) : Prop := (P_M_in w a0 0 ((w 0 28) - 1)) ∧ ((F_M_in w a0 0 ((w 0 28) - 1) = 0 → True) ∧ (¬ (F_M_in w a0 0 ((w 0 28) - 1) = 0) → (0 ≤ a0 ∧ a0 < 160) ∧ (-2147483648 ≤ w 19 a0.toNat ∧ w 19 a0.toNat < 2147483648) ∧ ((w 19 a0.toNat = 0 → True) ∧ (¬ (w 19 a0.toNat = 0) → (-2147483648 ≤ w 19 36 ∧ w 19 36 < 2147483648) ∧ (-2147483648 ≤ a1 ∧ a1 < 2147483648)))))
def F_M_whyNot (w : z_Wd) (a0 : Int) (a1 : Int) : Int := if F_M_in w a0 0 ((w 0 28) - 1) = 0 then 0 else if w 19 a0.toNat = 0 then 2 else if w 19 36 ≥ a1 then (-1) else 4
set_option maxRecDepth 4000 in
theorem c_M_whyNot {d : Nat} {w : z_Wd} {a0 a1 : Int} {Q : Option z_V → z_Wd → Prop} (h : P_M_whyNot w a0 a1) (k : Q (some (zI (F_M_whyNot w a0 a1))) w) : z_Wc (d + 2) m_X12_whyNot [zR 0, zI a0, zI a1] w Q := by
  unfold P_M_whyNot at h
  unfold F_M_whyNot at k
  refine z_enter rfl (Nat.le_of_ble_eq_true rfl) ?_
  show z_Wp m_X12_whyNot _ 0 [(0, zR 0), (1, zI a0), (2, zI a1)] [] w _
  refine z_aload_n (pc' := 1) 0 rfl rfl dX12_whyNot_0 rfl ?_
  refine z_iload_n (pc' := 2) 1 rfl rfl dX12_whyNot_1 rfl ?_
  refine z_invV (as := [zI a0]) (st := []) (C := m_X12_isWell) (fs := [0, 3, 0, 0, 0, 0, 4, 5, 6, 7, 8, 9, 10, 0, 0, 11, 12, 13, 14, 15, 16, 0, 0, 0, 17, 18, 19, 20, 0, 0, 0, 21, 22, 0, 0, 23, 0, 1, 24, 0, 0, 25, 26, 0, 27, 0]) (pc' := 5) dX12_whyNot_2 rfl t_7_191 k_X12_isWell rfl (by decide) rfl rfl rfl rfl (Nat.le_of_ble_eq_true rfl) ?_
  obtain ⟨r1, h⟩ := h
  refine c_M_isWell r1 ?_
  show z_Wp m_X12_whyNot _ 5 [(0, zR 0), (1, zI a0), (2, zI a1)] [zI (F_M_in w a0 0 ((w 0 28) - 1))] w _
  refine z_if_ne 12 dX12_whyNot_5 (by decide) (pc' := 8) rfl (z_rb b_M_in) (fun c => ?_) (fun c => ?_)
  · have h := h.2 c
    rw [if_neg c] at k
    refine z_aload_n (pc' := 13) 0 rfl rfl dX12_whyNot_12 rfl ?_
    refine z_getR (t := 19) (pc' := 16) g_X12_64 (by decide) rfl rfl dX12_whyNot_13 rfl ?_
    refine z_iconst (pc' := 17) dX12_whyNot_16 rfl ?_
    refine z_iload_n (pc' := 18) 1 rfl rfl dX12_whyNot_17 rfl ?_
    refine z_iadd (pc' := 19) dX12_whyNot_18 rfl ?_
    refine z_eqI (y := a0) (by omega) ?_
    obtain ⟨r2, h⟩ := h
    refine z_iald2 (v := w 19 a0.toNat) (pc' := 20) (by decide) rfl r2 (by decide) rfl dX12_whyNot_19 rfl ?_
    obtain ⟨r3, h⟩ := h
    refine z_if_ne 27 dX12_whyNot_20 (by decide) (pc' := 23) rfl r3 (fun c => ?_) (fun c => ?_)
    · have h := h.2 c
      rw [if_neg c] at k
      refine z_aload_n (pc' := 28) 0 rfl rfl dX12_whyNot_27 rfl ?_
      refine z_getR (t := 19) (pc' := 31) g_X12_64 (by decide) rfl rfl dX12_whyNot_28 rfl ?_
      refine z_bipush (pc' := 33) (by decide) dX12_whyNot_31 rfl ?_
      refine z_iald2 (v := w 19 36) (pc' := 34) (by decide) rfl (by decide) (by decide) rfl dX12_whyNot_33 rfl ?_
      refine z_iload_n (pc' := 35) 2 rfl rfl dX12_whyNot_34 rfl ?_
      obtain ⟨r4, h⟩ := h
      have r5 := h
      refine z_icmp_ge 42 dX12_whyNot_35 (by decide) (pc' := 38) rfl r4 r5 (fun c => ?_) (fun c => ?_)
      · skip
        rw [if_pos c] at k
        refine z_iconst (pc' := 43) dX12_whyNot_42 rfl ?_
        refine z_iret rfl dX12_whyNot_43 ?_
        exact k
      · skip
        rw [if_neg c] at k
        refine z_iconst (pc' := 39) dX12_whyNot_38 rfl ?_
        refine z_goto 43 dX12_whyNot_39 (by decide) ?_
        refine z_iret rfl dX12_whyNot_43 ?_
        exact k
    · have h := h.1 c
      rw [if_pos c] at k
      refine z_iconst (pc' := 24) dX12_whyNot_23 rfl ?_
      refine z_goto 43 dX12_whyNot_24 (by decide) ?_
      refine z_iret rfl dX12_whyNot_43 ?_
      exact k
  · have h := h.1 c
    rw [if_pos c] at k
    refine z_iconst (pc' := 9) dX12_whyNot_8 rfl ?_
    refine z_goto 43 dX12_whyNot_9 (by decide) ?_
    refine z_iret rfl dX12_whyNot_43 ?_
    exact k
def P_M_areYears (w : z_Wd) (a0 : Int) : Prop := (P_M_in w a0 1 60) ∧ ((F_M_in w a0 1 60 = 0 → True) ∧ (¬ (F_M_in w a0 1 60 = 0) → -2147483648 ≤ (w 19 38) + a0 ∧ (w 19 38) + a0 < 2147483648))
def F_M_areYears (w : z_Wd) (a0 : Int) : Int := if F_M_in w a0 1 60 = 0 then 0 else if (w 19 38) + a0 > 999 then 0 else 1
set_option maxRecDepth 4000 in
theorem c_M_areYears {d : Nat} {w : z_Wd} {a0 : Int} {Q : Option z_V → z_Wd → Prop} (h : P_M_areYears w a0) (k : Q (some (zI (F_M_areYears w a0))) w) : z_Wc (d + 1) m_X12_areYears [zR 0, zI a0] w Q := by
  unfold P_M_areYears at h
  unfold F_M_areYears at k
  refine z_enter rfl (Nat.le_of_ble_eq_true rfl) ?_
  show z_Wp m_X12_areYears _ 0 [(0, zR 0), (1, zI a0)] [] w _
  refine z_iload_n (pc' := 1) 1 rfl rfl dX12_areYears_0 rfl ?_
  refine z_iconst (pc' := 2) dX12_areYears_1 rfl ?_
  refine z_bipush (pc' := 4) (by decide) dX12_areYears_2 rfl ?_
  refine z_invS (as := [zI a0, zI 1, zI 60]) (st := []) (C := m_X12_in) (pc' := 7) dX12_areYears_4 rfl t_7_17 k_X12_in rfl rfl (Nat.le_of_ble_eq_true rfl) ?_
  obtain ⟨r1, h⟩ := h
  refine c_M_in r1 ?_
  show z_Wp m_X12_areYears _ 7 [(0, zR 0), (1, zI a0)] [zI (F_M_in w a0 1 60)] w _
  refine z_if_eq 29 dX12_areYears_7 (by decide) (pc' := 10) rfl (z_rb b_M_in) (fun c => ?_) (fun c => ?_)
  · have h := h.1 c
    rw [if_pos c] at k
    refine z_iconst (pc' := 30) dX12_areYears_29 rfl ?_
    refine z_zret rfl (by decide) dX12_areYears_30 ?_
    exact k
  · have h := h.2 c
    rw [if_neg c] at k
    refine z_aload_n (pc' := 11) 0 rfl rfl dX12_areYears_10 rfl ?_
    refine z_getR (t := 19) (pc' := 14) g_X12_64 (by decide) rfl rfl dX12_areYears_11 rfl ?_
    refine z_bipush (pc' := 16) (by decide) dX12_areYears_14 rfl ?_
    refine z_iald2 (v := w 19 38) (pc' := 17) (by decide) rfl (by decide) (by decide) rfl dX12_areYears_16 rfl ?_
    refine z_iload_n (pc' := 18) 1 rfl rfl dX12_areYears_17 rfl ?_
    refine z_iadd (pc' := 19) dX12_areYears_18 rfl ?_
    refine z_sipush (pc' := 22) (by decide) dX12_areYears_19 rfl ?_
    have r2 := h
    refine z_icmp_gt 29 dX12_areYears_22 (by decide) (pc' := 25) rfl r2 (by decide) (fun c => ?_) (fun c => ?_)
    · skip
      rw [if_pos c] at k
      refine z_iconst (pc' := 30) dX12_areYears_29 rfl ?_
      refine z_zret rfl (by decide) dX12_areYears_30 ?_
      exact k
    · skip
      rw [if_neg c] at k
      refine z_iconst (pc' := 26) dX12_areYears_25 rfl ?_
      refine z_goto 30 dX12_areYears_26 (by decide) ?_
      refine z_zret rfl (by decide) dX12_areYears_30 ?_
      exact k
theorem b_M_areYears {w : z_Wd} {a0 : Int} : F_M_areYears w a0 = 0 ∨ F_M_areYears w a0 = 1 := by
  unfold F_M_areYears
  (repeat' split) <;> first | exact Or.inl rfl | exact Or.inr rfl
def P_M_flies (w : z_Wd) (a0 : Int) : Prop := (P_M_in w a0 0 9) ∧ ((F_M_in w a0 0 9 = 0 → True) ∧ (¬ (F_M_in w a0 0 9 = 0) → (-2147483648 ≤ a0 ∧ a0 < 2147483648) ∧ (-2147483648 ≤ w 0 34 ∧ w 0 34 < 2147483648)))
def F_M_flies (w : z_Wd) (a0 : Int) : Int × z_Wd := if F_M_in w a0 0 9 = 0 then (0, w) else if a0 = w 0 34 then (0, w) else (1, z_up w 0 34 a0)
set_option maxRecDepth 4000 in
theorem c_M_flies {d : Nat} {w : z_Wd} {a0 : Int} {Q : Option z_V → z_Wd → Prop} (h : P_M_flies w a0) (k : Q (some (zI (F_M_flies w a0).1)) (F_M_flies w a0).2) : z_Wc (d + 1) m_X12_flies [zR 0, zI a0] w Q := by
  unfold P_M_flies at h
  unfold F_M_flies at k
  refine z_enter rfl (Nat.le_of_ble_eq_true rfl) ?_
  show z_Wp m_X12_flies _ 0 [(0, zR 0), (1, zI a0)] [] w _
  refine z_iload_n (pc' := 1) 1 rfl rfl dX12_flies_0 rfl ?_
  refine z_iconst (pc' := 2) dX12_flies_1 rfl ?_
  refine z_bipush (pc' := 4) (by decide) dX12_flies_2 rfl ?_
  refine z_invS (as := [zI a0, zI 0, zI 9]) (st := []) (C := m_X12_in) (pc' := 7) dX12_flies_4 rfl t_7_17 k_X12_in rfl rfl (Nat.le_of_ble_eq_true rfl) ?_
  obtain ⟨r1, h⟩ := h
  refine c_M_in r1 ?_
  show z_Wp m_X12_flies _ 7 [(0, zR 0), (1, zI a0)] [zI (F_M_in w a0 0 9)] w _
  refine z_if_eq 18 dX12_flies_7 (by decide) (pc' := 10) rfl (z_rb b_M_in) (fun c => ?_) (fun c => ?_)
  · have h := h.1 c
    rw [if_pos c] at k
    refine z_iconst (pc' := 19) dX12_flies_18 rfl ?_
    refine z_zret rfl (by decide) dX12_flies_19 ?_
    exact k
  · have h := h.2 c
    rw [if_neg c] at k
    refine z_iload_n (pc' := 11) 1 rfl rfl dX12_flies_10 rfl ?_
    refine z_aload_n (pc' := 12) 0 rfl rfl dX12_flies_11 rfl ?_
    refine z_getI2 (v := w 0 34) (pc' := 15) g_X12_74 (by decide) rfl rfl rfl dX12_flies_12 rfl ?_
    obtain ⟨r2, h⟩ := h
    have r3 := h
    refine z_icmp_ne 20 dX12_flies_15 (by decide) (pc' := 18) rfl r2 r3 (fun c => ?_) (fun c => ?_)
    · skip
      rw [if_neg c] at k
      refine z_aload_n (pc' := 21) 0 rfl rfl dX12_flies_20 rfl ?_
      refine z_iload_n (pc' := 22) 1 rfl rfl dX12_flies_21 rfl ?_
      refine z_putI (pc' := 25) p_X12_74 (by decide) rfl rfl rfl rfl dX12_flies_22 rfl ?_
      refine z_iconst (pc' := 26) dX12_flies_25 rfl ?_
      refine z_zret rfl (by decide) dX12_flies_26 ?_
      exact k
    · skip
      rw [if_pos c] at k
      refine z_iconst (pc' := 19) dX12_flies_18 rfl ?_
      refine z_zret rfl (by decide) dX12_flies_19 ?_
      exact k
def P_M_draw (w : z_Wd) (a0 : Int) : Prop := (-2147483648 ≤ a0 ∧ a0 < 2147483648) ∧ (a0 ≠ 0) ∧ (-9223372036854775808 ≤ zz_lushr (((w 0 37) * 6364136223846793005) + 1442695040888963407) 33 ∧ zz_lushr (((w 0 37) * 6364136223846793005) + 1442695040888963407) 33 < 9223372036854775808) ∧ (-9223372036854775808 ≤ a0 ∧ a0 < 9223372036854775808)
def F_M_draw (w : z_Wd) (a0 : Int) : Int × z_Wd := (Int.tmod (zz_lushr (((w 0 37) * 6364136223846793005) + 1442695040888963407) 33) a0, z_up w 0 37 (((w 0 37) * 6364136223846793005) + 1442695040888963407))
set_option maxRecDepth 4000 in
theorem c_M_draw {d : Nat} {w : z_Wd} {a0 : Int} {Q : Option z_V → z_Wd → Prop} (h : P_M_draw w a0) (k : Q (some (zI (F_M_draw w a0).1)) (F_M_draw w a0).2) : z_Wc d m_X12_draw [zR 0, zI a0] w Q := by
  unfold P_M_draw at h
  unfold F_M_draw at k
  refine z_enter rfl (Nat.le_of_ble_eq_true rfl) ?_
  show z_Wp m_X12_draw _ 0 [(0, zR 0), (1, zI a0)] [] w _
  refine z_aload_n (pc' := 1) 0 rfl rfl dX12_draw_0 rfl ?_
  refine z_aload_n (pc' := 2) 0 rfl rfl dX12_draw_1 rfl ?_
  refine z_getJ2 (v := w 0 37) (pc' := 5) g_X12_381 (by decide) rfl rfl rfl dX12_draw_2 rfl ?_
  refine z_ldc2 (n := 6364136223846793005) (pc' := 8) t_8_67 (by decide) dX12_draw_5 rfl ?_
  refine z_lmul (pc' := 9) dX12_draw_8 rfl ?_
  refine z_ldc2 (n := 1442695040888963407) (pc' := 12) t_8_68 (by decide) dX12_draw_9 rfl ?_
  refine z_ladd (pc' := 13) dX12_draw_12 rfl ?_
  refine z_putJ (pc' := 16) p_X12_381 (by decide) rfl rfl dX12_draw_13 rfl ?_
  refine z_aload_n (pc' := 17) 0 rfl rfl dX12_draw_16 rfl ?_
  refine z_getJ2 (v := ((w 0 37) * 6364136223846793005) + 1442695040888963407) (pc' := 20) g_X12_381 (by decide) rfl rfl rfl dX12_draw_17 rfl ?_
  refine z_bipush (pc' := 22) (by decide) dX12_draw_20 rfl ?_
  refine z_lushr (pc' := 23) dX12_draw_22 rfl ?_
  refine z_iload_n (pc' := 24) 1 rfl rfl dX12_draw_23 rfl ?_
  obtain ⟨r1, h⟩ := h
  refine z_i2l (pc' := 25) r1 dX12_draw_24 rfl ?_
  obtain ⟨r2, h⟩ := h
  obtain ⟨r3, h⟩ := h
  have r4 := h
  refine z_lrem (pc' := 26) r3 r4 r2 dX12_draw_25 rfl ?_
  refine z_l2i (pc' := 27) dX12_draw_26 rfl ?_
  refine z_iret rfl dX12_draw_27 ?_
  exact k
def P_M_status (w : z_Wd) (a0 : Int) : Prop := (P_M_in w a0 0 4) ∧ ((F_M_in w a0 0 4 = 0 → True) ∧ (¬ (F_M_in w a0 0 4 = 0) → 0 ≤ a0 ∧ a0 < 5))
def F_M_status (w : z_Wd) (a0 : Int) : Int := if F_M_in w a0 0 4 = 0 then (-1) else w 20 a0.toNat
set_option maxRecDepth 4000 in
theorem c_M_status {d : Nat} {w : z_Wd} {a0 : Int} {Q : Option z_V → z_Wd → Prop} (h : P_M_status w a0) (k : Q (some (zI (F_M_status w a0))) w) : z_Wc (d + 1) m_X12_status [zR 0, zI a0] w Q := by
  unfold P_M_status at h
  unfold F_M_status at k
  refine z_enter rfl (Nat.le_of_ble_eq_true rfl) ?_
  show z_Wp m_X12_status _ 0 [(0, zR 0), (1, zI a0)] [] w _
  refine z_iload_n (pc' := 1) 1 rfl rfl dX12_status_0 rfl ?_
  refine z_iconst (pc' := 2) dX12_status_1 rfl ?_
  refine z_iconst (pc' := 3) dX12_status_2 rfl ?_
  refine z_invS (as := [zI a0, zI 0, zI 4]) (st := []) (C := m_X12_in) (pc' := 6) dX12_status_3 rfl t_7_17 k_X12_in rfl rfl (Nat.le_of_ble_eq_true rfl) ?_
  obtain ⟨r1, h⟩ := h
  refine c_M_in r1 ?_
  show z_Wp m_X12_status _ 6 [(0, zR 0), (1, zI a0)] [zI (F_M_in w a0 0 4)] w _
  refine z_if_eq 18 dX12_status_6 (by decide) (pc' := 9) rfl (z_rb b_M_in) (fun c => ?_) (fun c => ?_)
  · have h := h.1 c
    rw [if_pos c] at k
    refine z_iconst (pc' := 19) dX12_status_18 rfl ?_
    refine z_iret rfl dX12_status_19 ?_
    exact k
  · have h := h.2 c
    rw [if_neg c] at k
    refine z_aload_n (pc' := 10) 0 rfl rfl dX12_status_9 rfl ?_
    refine z_getR (t := 20) (pc' := 13) g_X12_67 (by decide) rfl rfl dX12_status_10 rfl ?_
    refine z_iload_n (pc' := 14) 1 rfl rfl dX12_status_13 rfl ?_
    have r2 := h
    refine z_iald2 (v := w 20 a0.toNat) (pc' := 15) (by decide) rfl r2 (by decide) rfl dX12_status_14 rfl ?_
    refine z_goto 19 dX12_status_15 (by decide) ?_
    refine z_iret rfl dX12_status_19 ?_
    exact k
def P_M_log (w : z_Wd) (a0 : Int) (a1 : Int) : Prop := (P_M_in w a0 0 ((w 19 39) - 1)) ∧ ((F_M_in w a0 0 ((w 19 39) - 1) = 0 → True) ∧ (¬ (F_M_in w a0 0 ((w 19 39) - 1) = 0) → (P_M_in w a1 0 1) ∧ ((F_M_in w a1 0 1 = 0 → True) ∧ (¬ (F_M_in w a1 0 1 = 0) → 0 ≤ (40 + (2 * (((w 19 39) - 1) - a0))) + a1 ∧ (40 + (2 * (((w 19 39) - 1) - a0))) + a1 < 160))))
def F_M_log (w : z_Wd) (a0 : Int) (a1 : Int) : Int := if F_M_in w a0 0 ((w 19 39) - 1) = 0 then (-1) else if F_M_in w a1 0 1 = 0 then (-1) else w 19 (((40 + (2 * (((w 19 39) - 1) - a0))) + a1).toNat)
set_option maxRecDepth 4000 in
theorem c_M_log {d : Nat} {w : z_Wd} {a0 a1 : Int} {Q : Option z_V → z_Wd → Prop} (h : P_M_log w a0 a1) (k : Q (some (zI (F_M_log w a0 a1))) w) : z_Wc (d + 1) m_X12_log [zR 0, zI a0, zI a1] w Q := by
  unfold P_M_log at h
  unfold F_M_log at k
  refine z_enter rfl (Nat.le_of_ble_eq_true rfl) ?_
  show z_Wp m_X12_log _ 0 [(0, zR 0), (1, zI a0), (2, zI a1)] [] w _
  refine z_iload_n (pc' := 1) 1 rfl rfl dX12_log_0 rfl ?_
  refine z_iconst (pc' := 2) dX12_log_1 rfl ?_
  refine z_aload_n (pc' := 3) 0 rfl rfl dX12_log_2 rfl ?_
  refine z_getR (t := 19) (pc' := 6) g_X12_64 (by decide) rfl rfl dX12_log_3 rfl ?_
  refine z_bipush (pc' := 8) (by decide) dX12_log_6 rfl ?_
  refine z_iald2 (v := w 19 39) (pc' := 9) (by decide) rfl (by decide) (by decide) rfl dX12_log_8 rfl ?_
  refine z_iconst (pc' := 10) dX12_log_9 rfl ?_
  refine z_isub (pc' := 11) dX12_log_10 rfl ?_
  refine z_invS (as := [zI a0, zI 0, zI ((w 19 39) - 1)]) (st := []) (C := m_X12_in) (pc' := 14) dX12_log_11 rfl t_7_17 k_X12_in rfl rfl (Nat.le_of_ble_eq_true rfl) ?_
  obtain ⟨r1, h⟩ := h
  refine c_M_in r1 ?_
  show z_Wp m_X12_log _ 14 [(0, zR 0), (1, zI a0), (2, zI a1)] [zI (F_M_in w a0 0 ((w 19 39) - 1))] w _
  refine z_if_eq 52 dX12_log_14 (by decide) (pc' := 17) rfl (z_rb b_M_in) (fun c => ?_) (fun c => ?_)
  · have h := h.1 c
    rw [if_pos c] at k
    refine z_iconst (pc' := 53) dX12_log_52 rfl ?_
    refine z_iret rfl dX12_log_53 ?_
    exact k
  · have h := h.2 c
    rw [if_neg c] at k
    refine z_iload_n (pc' := 18) 2 rfl rfl dX12_log_17 rfl ?_
    refine z_iconst (pc' := 19) dX12_log_18 rfl ?_
    refine z_iconst (pc' := 20) dX12_log_19 rfl ?_
    refine z_invS (as := [zI a1, zI 0, zI 1]) (st := []) (C := m_X12_in) (pc' := 23) dX12_log_20 rfl t_7_17 k_X12_in rfl rfl (Nat.le_of_ble_eq_true rfl) ?_
    obtain ⟨r2, h⟩ := h
    refine c_M_in r2 ?_
    show z_Wp m_X12_log _ 23 [(0, zR 0), (1, zI a0), (2, zI a1)] [zI (F_M_in w a1 0 1)] w _
    refine z_if_eq 52 dX12_log_23 (by decide) (pc' := 26) rfl (z_rb b_M_in) (fun c => ?_) (fun c => ?_)
    · have h := h.1 c
      rw [if_pos c] at k
      refine z_iconst (pc' := 53) dX12_log_52 rfl ?_
      refine z_iret rfl dX12_log_53 ?_
      exact k
    · have h := h.2 c
      rw [if_neg c] at k
      refine z_aload_n (pc' := 27) 0 rfl rfl dX12_log_26 rfl ?_
      refine z_getR (t := 19) (pc' := 30) g_X12_64 (by decide) rfl rfl dX12_log_27 rfl ?_
      refine z_bipush (pc' := 32) (by decide) dX12_log_30 rfl ?_
      refine z_iconst (pc' := 33) dX12_log_32 rfl ?_
      refine z_aload_n (pc' := 34) 0 rfl rfl dX12_log_33 rfl ?_
      refine z_getR (t := 19) (pc' := 37) g_X12_64 (by decide) rfl rfl dX12_log_34 rfl ?_
      refine z_bipush (pc' := 39) (by decide) dX12_log_37 rfl ?_
      refine z_iald2 (v := w 19 39) (pc' := 40) (by decide) rfl (by decide) (by decide) rfl dX12_log_39 rfl ?_
      refine z_iconst (pc' := 41) dX12_log_40 rfl ?_
      refine z_isub (pc' := 42) dX12_log_41 rfl ?_
      refine z_iload_n (pc' := 43) 1 rfl rfl dX12_log_42 rfl ?_
      refine z_isub (pc' := 44) dX12_log_43 rfl ?_
      refine z_imul (pc' := 45) dX12_log_44 rfl ?_
      refine z_iadd (pc' := 46) dX12_log_45 rfl ?_
      refine z_iload_n (pc' := 47) 2 rfl rfl dX12_log_46 rfl ?_
      refine z_iadd (pc' := 48) dX12_log_47 rfl ?_
      have r3 := h
      refine z_iald2 (v := w 19 (((40 + (2 * (((w 19 39) - 1) - a0))) + a1).toNat)) (pc' := 49) (by decide) rfl r3 (by decide) rfl dX12_log_48 rfl ?_
      refine z_goto 53 dX12_log_49 (by decide) ?_
      refine z_iret rfl dX12_log_53 ?_
      exact k
def P_M_layer (w : z_Wd) (a0 : Int) (a1 : Int) : Prop := (P_M_in w a0 0 ((w 0 28) - 1)) ∧ ((F_M_in w a0 0 ((w 0 28) - 1) = 0 → True) ∧ (¬ (F_M_in w a0 0 ((w 0 28) - 1) = 0) → (0 ≤ a0 ∧ a0 < 160) ∧ (P_M_in w a1 0 ((w 19 a0.toNat) - 1)) ∧ ((F_M_in w a1 0 ((w 19 a0.toNat) - 1) = 0 → True) ∧ (¬ (F_M_in w a1 0 ((w 19 a0.toNat) - 1) = 0) → 0 ≤ (4 + (7 * a0)) + a1 ∧ (4 + (7 * a0)) + a1 < 160))))
def F_M_layer (w : z_Wd) (a0 : Int) (a1 : Int) : Int := if F_M_in w a0 0 ((w 0 28) - 1) = 0 then (-1) else if F_M_in w a1 0 ((w 19 a0.toNat) - 1) = 0 then (-1) else w 19 (((4 + (7 * a0)) + a1).toNat)
set_option maxRecDepth 4000 in
theorem c_M_layer {d : Nat} {w : z_Wd} {a0 a1 : Int} {Q : Option z_V → z_Wd → Prop} (h : P_M_layer w a0 a1) (k : Q (some (zI (F_M_layer w a0 a1))) w) : z_Wc (d + 2) m_X12_layer [zR 0, zI a0, zI a1] w Q := by
  unfold P_M_layer at h
  unfold F_M_layer at k
  refine z_enter rfl (Nat.le_of_ble_eq_true rfl) ?_
  show z_Wp m_X12_layer _ 0 [(0, zR 0), (1, zI a0), (2, zI a1)] [] w _
  refine z_aload_n (pc' := 1) 0 rfl rfl dX12_layer_0 rfl ?_
  refine z_iload_n (pc' := 2) 1 rfl rfl dX12_layer_1 rfl ?_
  refine z_invV (as := [zI a0]) (st := []) (C := m_X12_isWell) (fs := [0, 3, 0, 0, 0, 0, 4, 5, 6, 7, 8, 9, 10, 0, 0, 11, 12, 13, 14, 15, 16, 0, 0, 0, 17, 18, 19, 20, 0, 0, 0, 21, 22, 0, 0, 23, 0, 1, 24, 0, 0, 25, 26, 0, 27, 0]) (pc' := 5) dX12_layer_2 rfl t_7_191 k_X12_isWell rfl (by decide) rfl rfl rfl rfl (Nat.le_of_ble_eq_true rfl) ?_
  obtain ⟨r1, h⟩ := h
  refine c_M_isWell r1 ?_
  show z_Wp m_X12_layer _ 5 [(0, zR 0), (1, zI a0), (2, zI a1)] [zI (F_M_in w a0 0 ((w 0 28) - 1))] w _
  refine z_if_eq 35 dX12_layer_5 (by decide) (pc' := 8) rfl (z_rb b_M_in) (fun c => ?_) (fun c => ?_)
  · have h := h.1 c
    rw [if_pos c] at k
    refine z_iconst (pc' := 36) dX12_layer_35 rfl ?_
    refine z_iret rfl dX12_layer_36 ?_
    exact k
  · have h := h.2 c
    rw [if_neg c] at k
    refine z_iload_n (pc' := 9) 2 rfl rfl dX12_layer_8 rfl ?_
    refine z_iconst (pc' := 10) dX12_layer_9 rfl ?_
    refine z_aload_n (pc' := 11) 0 rfl rfl dX12_layer_10 rfl ?_
    refine z_getR (t := 19) (pc' := 14) g_X12_64 (by decide) rfl rfl dX12_layer_11 rfl ?_
    refine z_iconst (pc' := 15) dX12_layer_14 rfl ?_
    refine z_iload_n (pc' := 16) 1 rfl rfl dX12_layer_15 rfl ?_
    refine z_iadd (pc' := 17) dX12_layer_16 rfl ?_
    refine z_eqI (y := a0) (by omega) ?_
    obtain ⟨r2, h⟩ := h
    refine z_iald2 (v := w 19 a0.toNat) (pc' := 18) (by decide) rfl r2 (by decide) rfl dX12_layer_17 rfl ?_
    refine z_iconst (pc' := 19) dX12_layer_18 rfl ?_
    refine z_isub (pc' := 20) dX12_layer_19 rfl ?_
    refine z_invS (as := [zI a1, zI 0, zI ((w 19 a0.toNat) - 1)]) (st := []) (C := m_X12_in) (pc' := 23) dX12_layer_20 rfl t_7_17 k_X12_in rfl rfl (Nat.le_of_ble_eq_true rfl) ?_
    obtain ⟨r3, h⟩ := h
    refine c_M_in r3 ?_
    show z_Wp m_X12_layer _ 23 [(0, zR 0), (1, zI a0), (2, zI a1)] [zI (F_M_in w a1 0 ((w 19 a0.toNat) - 1))] w _
    refine z_if_eq 35 dX12_layer_23 (by decide) (pc' := 26) rfl (z_rb b_M_in) (fun c => ?_) (fun c => ?_)
    · have h := h.1 c
      rw [if_pos c] at k
      refine z_iconst (pc' := 36) dX12_layer_35 rfl ?_
      refine z_iret rfl dX12_layer_36 ?_
      exact k
    · have h := h.2 c
      rw [if_neg c] at k
      refine z_aload_n (pc' := 27) 0 rfl rfl dX12_layer_26 rfl ?_
      refine z_iload_n (pc' := 28) 1 rfl rfl dX12_layer_27 rfl ?_
      refine z_iload_n (pc' := 29) 2 rfl rfl dX12_layer_28 rfl ?_
      refine z_invV (as := [zI a0, zI a1]) (st := []) (C := m_X12_lies) (fs := [0, 3, 0, 0, 0, 0, 4, 5, 6, 7, 8, 9, 10, 0, 0, 11, 12, 13, 14, 15, 16, 0, 0, 0, 17, 18, 19, 20, 0, 0, 0, 21, 22, 0, 0, 23, 0, 1, 24, 0, 0, 25, 26, 0, 27, 0]) (pc' := 32) dX12_layer_29 rfl t_7_122 k_X12_lies rfl (by decide) rfl rfl rfl rfl (Nat.le_of_ble_eq_true rfl) ?_
      have r4 := h
      refine c_M_lies r4 ?_
      show z_Wp m_X12_layer _ 32 [(0, zR 0), (1, zI a0), (2, zI a1)] [zI (w 19 (((4 + (7 * a0)) + a1).toNat))] w _
      refine z_goto 36 dX12_layer_32 (by decide) ?_
      refine z_iret rfl dX12_layer_36 ?_
      exact k
def P_M_seen (w : z_Wd) (a0 : Int) (a1 : Int) : Prop := (P_M_in w a0 0 ((w 0 30) - 1)) ∧ ((F_M_in w a0 0 ((w 0 30) - 1) = 0 → True) ∧ (¬ (F_M_in w a0 0 ((w 0 30) - 1) = 0) → (P_M_in w a1 0 2) ∧ ((F_M_in w a1 0 2 = 0 → True) ∧ (¬ (F_M_in w a1 0 2 = 0) → (-2147483648 ≤ w 0 43 ∧ w 0 43 < 2147483648) ∧ ((w 0 43 = 10 → True) ∧ (¬ (w 0 43 = 10) → 0 ≤ w 0 43 ∧ w 0 43 < 10))))))
def F_M_seen (w : z_Wd) (a0 : Int) (a1 : Int) : Int × z_Wd := if F_M_in w a0 0 ((w 0 30) - 1) = 0 then ((-1), w) else if F_M_in w a1 0 2 = 0 then ((-1), w) else if w 0 43 = 10 then ((-1), w) else ((w 0 43) + 1, z_up (z_up (z_up w 23 ((w 0 43).toNat) a0) 24 ((w 0 43).toNat) a1) 0 43 ((w 0 43) + 1))
set_option maxRecDepth 4000 in
theorem c_M_seen {d : Nat} {w : z_Wd} {a0 a1 : Int} {Q : Option z_V → z_Wd → Prop} (h : P_M_seen w a0 a1) (k : Q (some (zI (F_M_seen w a0 a1).1)) (F_M_seen w a0 a1).2) : z_Wc (d + 2) m_X12_seen [zR 0, zI a0, zI a1] w Q := by
  unfold P_M_seen at h
  unfold F_M_seen at k
  refine z_enter rfl (Nat.le_of_ble_eq_true rfl) ?_
  show z_Wp m_X12_seen _ 0 [(0, zR 0), (1, zI a0), (2, zI a1)] [] w _
  refine z_aload_n (pc' := 1) 0 rfl rfl dX12_seen_0 rfl ?_
  refine z_iload_n (pc' := 2) 1 rfl rfl dX12_seen_1 rfl ?_
  refine z_invV (as := [zI a0]) (st := []) (C := m_X12_isFile) (fs := [0, 3, 0, 0, 0, 0, 4, 5, 6, 7, 8, 9, 10, 0, 0, 11, 12, 13, 14, 15, 16, 0, 0, 0, 17, 18, 19, 20, 0, 0, 0, 21, 22, 0, 0, 23, 0, 1, 24, 0, 0, 25, 26, 0, 27, 0]) (pc' := 5) dX12_seen_2 rfl t_7_207 k_X12_isFile rfl (by decide) rfl rfl rfl rfl (Nat.le_of_ble_eq_true rfl) ?_
  obtain ⟨r1, h⟩ := h
  refine c_M_isFile r1 ?_
  show z_Wp m_X12_seen _ 5 [(0, zR 0), (1, zI a0), (2, zI a1)] [zI (F_M_in w a0 0 ((w 0 30) - 1))] w _
  refine z_if_eq 26 dX12_seen_5 (by decide) (pc' := 8) rfl (z_rb b_M_in) (fun c => ?_) (fun c => ?_)
  · have h := h.1 c
    rw [if_pos c] at k
    refine z_iconst (pc' := 27) dX12_seen_26 rfl ?_
    refine z_iret rfl dX12_seen_27 ?_
    exact k
  · have h := h.2 c
    rw [if_neg c] at k
    refine z_iload_n (pc' := 9) 2 rfl rfl dX12_seen_8 rfl ?_
    refine z_iconst (pc' := 10) dX12_seen_9 rfl ?_
    refine z_iconst (pc' := 11) dX12_seen_10 rfl ?_
    refine z_invS (as := [zI a1, zI 0, zI 2]) (st := []) (C := m_X12_in) (pc' := 14) dX12_seen_11 rfl t_7_17 k_X12_in rfl rfl (Nat.le_of_ble_eq_true rfl) ?_
    obtain ⟨r2, h⟩ := h
    refine c_M_in r2 ?_
    show z_Wp m_X12_seen _ 14 [(0, zR 0), (1, zI a0), (2, zI a1)] [zI (F_M_in w a1 0 2)] w _
    refine z_if_eq 26 dX12_seen_14 (by decide) (pc' := 17) rfl (z_rb b_M_in) (fun c => ?_) (fun c => ?_)
    · have h := h.1 c
      rw [if_pos c] at k
      refine z_iconst (pc' := 27) dX12_seen_26 rfl ?_
      refine z_iret rfl dX12_seen_27 ?_
      exact k
    · have h := h.2 c
      rw [if_neg c] at k
      refine z_aload_n (pc' := 18) 0 rfl rfl dX12_seen_17 rfl ?_
      refine z_getI2 (v := w 0 43) (pc' := 21) g_X12_266 (by decide) rfl rfl rfl dX12_seen_18 rfl ?_
      refine z_bipush (pc' := 23) (by decide) dX12_seen_21 rfl ?_
      obtain ⟨r3, h⟩ := h
      refine z_icmp_ne 28 dX12_seen_23 (by decide) (pc' := 26) rfl r3 (by decide) (fun c => ?_) (fun c => ?_)
      · have h := h.2 c
        rw [if_neg c] at k
        refine z_aload_n (pc' := 29) 0 rfl rfl dX12_seen_28 rfl ?_
        refine z_getR (t := 23) (pc' := 32) g_X12_83 (by decide) rfl rfl dX12_seen_29 rfl ?_
        refine z_aload_n (pc' := 33) 0 rfl rfl dX12_seen_32 rfl ?_
        refine z_getI2 (v := w 0 43) (pc' := 36) g_X12_266 (by decide) rfl rfl rfl dX12_seen_33 rfl ?_
        refine z_iload_n (pc' := 37) 1 rfl rfl dX12_seen_36 rfl ?_
        have r4 := h
        refine z_iast2 (w' := z_up w 23 ((w 0 43).toNat) a0) (pc' := 38) (by decide) rfl r4 (by decide) rfl dX12_seen_37 rfl ?_
        refine z_aload_n (pc' := 39) 0 rfl rfl dX12_seen_38 rfl ?_
        refine z_getR (t := 24) (pc' := 42) g_X12_86 (by decide) rfl rfl dX12_seen_39 rfl ?_
        refine z_aload_n (pc' := 43) 0 rfl rfl dX12_seen_42 rfl ?_
        refine z_getI2 (v := w 0 43) (pc' := 46) g_X12_266 (by decide) rfl rfl rfl dX12_seen_43 rfl ?_
        refine z_iload_n (pc' := 47) 2 rfl rfl dX12_seen_46 rfl ?_
        refine z_iast2 (w' := z_up (z_up w 23 ((w 0 43).toNat) a0) 24 ((w 0 43).toNat) a1) (pc' := 48) (by decide) rfl r4 (by decide) rfl dX12_seen_47 rfl ?_
        refine z_aload_n (pc' := 49) 0 rfl rfl dX12_seen_48 rfl ?_
        refine z_dup (pc' := 50) rfl dX12_seen_49 rfl ?_
        refine z_getI2 (v := w 0 43) (pc' := 53) g_X12_266 (by decide) rfl rfl rfl dX12_seen_50 rfl ?_
        refine z_iconst (pc' := 54) dX12_seen_53 rfl ?_
        refine z_iadd (pc' := 55) dX12_seen_54 rfl ?_
        refine z_putI (pc' := 58) p_X12_266 (by decide) rfl rfl rfl rfl dX12_seen_55 rfl ?_
        refine z_aload_n (pc' := 59) 0 rfl rfl dX12_seen_58 rfl ?_
        refine z_getI2 (v := (w 0 43) + 1) (pc' := 62) g_X12_266 (by decide) rfl rfl rfl dX12_seen_59 rfl ?_
        refine z_iret rfl dX12_seen_62 ?_
        exact k
      · have h := h.1 c
        rw [if_pos c] at k
        refine z_iconst (pc' := 27) dX12_seen_26 rfl ?_
        refine z_iret rfl dX12_seen_27 ?_
        exact k
def P_M_isAsked (w : z_Wd) (a0 : Int) : Prop := (-2147483648 ≤ w 0 29 ∧ w 0 29 < 2147483648) ∧ ((w 0 29 ≤ 0 → True) ∧ (¬ (w 0 29 ≤ 0) → P_M_in w a0 0 7))
def F_M_isAsked (w : z_Wd) (a0 : Int) : Int := if w 0 29 ≤ 0 then 0 else if F_M_in w a0 0 7 = 0 then 0 else 1
set_option maxRecDepth 4000 in
theorem c_M_isAsked {d : Nat} {w : z_Wd} {a0 : Int} {Q : Option z_V → z_Wd → Prop} (h : P_M_isAsked w a0) (k : Q (some (zI (F_M_isAsked w a0))) w) : z_Wc (d + 1) m_X12_isAsked [zR 0, zI a0] w Q := by
  unfold P_M_isAsked at h
  unfold F_M_isAsked at k
  refine z_enter rfl (Nat.le_of_ble_eq_true rfl) ?_
  show z_Wp m_X12_isAsked _ 0 [(0, zR 0), (1, zI a0)] [] w _
  refine z_aload_n (pc' := 1) 0 rfl rfl dX12_isAsked_0 rfl ?_
  refine z_getI2 (v := w 0 29) (pc' := 4) g_X12_260 (by decide) rfl rfl rfl dX12_isAsked_1 rfl ?_
  obtain ⟨r1, h⟩ := h
  refine z_if_le 21 dX12_isAsked_4 (by decide) (pc' := 7) rfl r1 (fun c => ?_) (fun c => ?_)
  · have h := h.1 c
    rw [if_pos c] at k
    refine z_iconst (pc' := 22) dX12_isAsked_21 rfl ?_
    refine z_zret rfl (by decide) dX12_isAsked_22 ?_
    exact k
  · have h := h.2 c
    rw [if_neg c] at k
    refine z_iload_n (pc' := 8) 1 rfl rfl dX12_isAsked_7 rfl ?_
    refine z_iconst (pc' := 9) dX12_isAsked_8 rfl ?_
    refine z_bipush (pc' := 11) (by decide) dX12_isAsked_9 rfl ?_
    refine z_invS (as := [zI a0, zI 0, zI 7]) (st := []) (C := m_X12_in) (pc' := 14) dX12_isAsked_11 rfl t_7_17 k_X12_in rfl rfl (Nat.le_of_ble_eq_true rfl) ?_
    have r2 := h
    refine c_M_in r2 ?_
    show z_Wp m_X12_isAsked _ 14 [(0, zR 0), (1, zI a0)] [zI (F_M_in w a0 0 7)] w _
    refine z_if_eq 21 dX12_isAsked_14 (by decide) (pc' := 17) rfl (z_rb b_M_in) (fun c => ?_) (fun c => ?_)
    · skip
      rw [if_pos c] at k
      refine z_iconst (pc' := 22) dX12_isAsked_21 rfl ?_
      refine z_zret rfl (by decide) dX12_isAsked_22 ?_
      exact k
    · skip
      rw [if_neg c] at k
      refine z_iconst (pc' := 18) dX12_isAsked_17 rfl ?_
      refine z_goto 22 dX12_isAsked_18 (by decide) ?_
      refine z_zret rfl (by decide) dX12_isAsked_22 ?_
      exact k
theorem b_M_isAsked {w : z_Wd} {a0 : Int} : F_M_isAsked w a0 = 0 ∨ F_M_isAsked w a0 = 1 := by
  unfold F_M_isAsked
  (repeat' split) <;> first | exact Or.inl rfl | exact Or.inr rfl
def P_M_areTwo (w : z_Wd) (a0 : Int) (a1 : Int) (a2 : Int) : Prop := (P_M_in w a0 0 ((w 0 29) - 1)) ∧ ((F_M_in w a0 0 ((w 0 29) - 1) = 0 → True) ∧ (¬ (F_M_in w a0 0 ((w 0 29) - 1) = 0) → (P_M_in w a1 0 ((w 0 29) - 1)) ∧ ((F_M_in w a1 0 ((w 0 29) - 1) = 0 → True) ∧ (¬ (F_M_in w a1 0 ((w 0 29) - 1) = 0) → (-2147483648 ≤ a0 ∧ a0 < 2147483648) ∧ (-2147483648 ≤ a1 ∧ a1 < 2147483648) ∧ ((a0 = a1 → True) ∧ (¬ (a0 = a1) → P_M_in w a2 0 ((w 0 28) - 1)))))))
def F_M_areTwo (w : z_Wd) (a0 : Int) (a1 : Int) (a2 : Int) : Int := if F_M_in w a0 0 ((w 0 29) - 1) = 0 then 0 else if F_M_in w a1 0 ((w 0 29) - 1) = 0 then 0 else if a0 = a1 then 0 else if F_M_in w a2 0 ((w 0 28) - 1) = 0 then 0 else 1
set_option maxRecDepth 4000 in
theorem c_M_areTwo {d : Nat} {w : z_Wd} {a0 a1 a2 : Int} {Q : Option z_V → z_Wd → Prop} (h : P_M_areTwo w a0 a1 a2) (k : Q (some (zI (F_M_areTwo w a0 a1 a2))) w) : z_Wc (d + 2) m_X12_areTwo [zR 0, zI a0, zI a1, zI a2] w Q := by
  unfold P_M_areTwo at h
  unfold F_M_areTwo at k
  refine z_enter rfl (Nat.le_of_ble_eq_true rfl) ?_
  show z_Wp m_X12_areTwo _ 0 [(0, zR 0), (1, zI a0), (2, zI a1), (3, zI a2)] [] w _
  refine z_aload_n (pc' := 1) 0 rfl rfl dX12_areTwo_0 rfl ?_
  refine z_iload_n (pc' := 2) 1 rfl rfl dX12_areTwo_1 rfl ?_
  refine z_invV (as := [zI a0]) (st := []) (C := m_X12_isName) (fs := [0, 3, 0, 0, 0, 0, 4, 5, 6, 7, 8, 9, 10, 0, 0, 11, 12, 13, 14, 15, 16, 0, 0, 0, 17, 18, 19, 20, 0, 0, 0, 21, 22, 0, 0, 23, 0, 1, 24, 0, 0, 25, 26, 0, 27, 0]) (pc' := 5) dX12_areTwo_2 rfl t_7_110 k_X12_isName rfl (by decide) rfl rfl rfl rfl (Nat.le_of_ble_eq_true rfl) ?_
  obtain ⟨r1, h⟩ := h
  refine c_M_isName r1 ?_
  show z_Wp m_X12_areTwo _ 5 [(0, zR 0), (1, zI a0), (2, zI a1), (3, zI a2)] [zI (F_M_in w a0 0 ((w 0 29) - 1))] w _
  refine z_if_eq 33 dX12_areTwo_5 (by decide) (pc' := 8) rfl (z_rb b_M_in) (fun c => ?_) (fun c => ?_)
  · have h := h.1 c
    rw [if_pos c] at k
    refine z_iconst (pc' := 34) dX12_areTwo_33 rfl ?_
    refine z_zret rfl (by decide) dX12_areTwo_34 ?_
    exact k
  · have h := h.2 c
    rw [if_neg c] at k
    refine z_aload_n (pc' := 9) 0 rfl rfl dX12_areTwo_8 rfl ?_
    refine z_iload_n (pc' := 10) 2 rfl rfl dX12_areTwo_9 rfl ?_
    refine z_invV (as := [zI a1]) (st := []) (C := m_X12_isName) (fs := [0, 3, 0, 0, 0, 0, 4, 5, 6, 7, 8, 9, 10, 0, 0, 11, 12, 13, 14, 15, 16, 0, 0, 0, 17, 18, 19, 20, 0, 0, 0, 21, 22, 0, 0, 23, 0, 1, 24, 0, 0, 25, 26, 0, 27, 0]) (pc' := 13) dX12_areTwo_10 rfl t_7_110 k_X12_isName rfl (by decide) rfl rfl rfl rfl (Nat.le_of_ble_eq_true rfl) ?_
    obtain ⟨r2, h⟩ := h
    refine c_M_isName r2 ?_
    show z_Wp m_X12_areTwo _ 13 [(0, zR 0), (1, zI a0), (2, zI a1), (3, zI a2)] [zI (F_M_in w a1 0 ((w 0 29) - 1))] w _
    refine z_if_eq 33 dX12_areTwo_13 (by decide) (pc' := 16) rfl (z_rb b_M_in) (fun c => ?_) (fun c => ?_)
    · have h := h.1 c
      rw [if_pos c] at k
      refine z_iconst (pc' := 34) dX12_areTwo_33 rfl ?_
      refine z_zret rfl (by decide) dX12_areTwo_34 ?_
      exact k
    · have h := h.2 c
      rw [if_neg c] at k
      refine z_iload_n (pc' := 17) 1 rfl rfl dX12_areTwo_16 rfl ?_
      refine z_iload_n (pc' := 18) 2 rfl rfl dX12_areTwo_17 rfl ?_
      obtain ⟨r3, h⟩ := h
      obtain ⟨r4, h⟩ := h
      refine z_icmp_eq 33 dX12_areTwo_18 (by decide) (pc' := 21) rfl r3 r4 (fun c => ?_) (fun c => ?_)
      · have h := h.1 c
        rw [if_pos c] at k
        refine z_iconst (pc' := 34) dX12_areTwo_33 rfl ?_
        refine z_zret rfl (by decide) dX12_areTwo_34 ?_
        exact k
      · have h := h.2 c
        rw [if_neg c] at k
        refine z_aload_n (pc' := 22) 0 rfl rfl dX12_areTwo_21 rfl ?_
        refine z_iload_n (pc' := 23) 3 rfl rfl dX12_areTwo_22 rfl ?_
        refine z_invV (as := [zI a2]) (st := []) (C := m_X12_isWell) (fs := [0, 3, 0, 0, 0, 0, 4, 5, 6, 7, 8, 9, 10, 0, 0, 11, 12, 13, 14, 15, 16, 0, 0, 0, 17, 18, 19, 20, 0, 0, 0, 21, 22, 0, 0, 23, 0, 1, 24, 0, 0, 25, 26, 0, 27, 0]) (pc' := 26) dX12_areTwo_23 rfl t_7_191 k_X12_isWell rfl (by decide) rfl rfl rfl rfl (Nat.le_of_ble_eq_true rfl) ?_
        have r5 := h
        refine c_M_isWell r5 ?_
        show z_Wp m_X12_areTwo _ 26 [(0, zR 0), (1, zI a0), (2, zI a1), (3, zI a2)] [zI (F_M_in w a2 0 ((w 0 28) - 1))] w _
        refine z_if_eq 33 dX12_areTwo_26 (by decide) (pc' := 29) rfl (z_rb b_M_in) (fun c => ?_) (fun c => ?_)
        · skip
          rw [if_pos c] at k
          refine z_iconst (pc' := 34) dX12_areTwo_33 rfl ?_
          refine z_zret rfl (by decide) dX12_areTwo_34 ?_
          exact k
        · skip
          rw [if_neg c] at k
          refine z_iconst (pc' := 30) dX12_areTwo_29 rfl ?_
          refine z_goto 34 dX12_areTwo_30 (by decide) ?_
          refine z_zret rfl (by decide) dX12_areTwo_34 ?_
          exact k
theorem b_M_areTwo {w : z_Wd} {a0 a1 a2 : Int} : F_M_areTwo w a0 a1 a2 = 0 ∨ F_M_areTwo w a0 a1 a2 = 1 := by
  unfold F_M_areTwo
  (repeat' split) <;> first | exact Or.inl rfl | exact Or.inr rfl
def P_M_bounded (w : z_Wd) (a0 : Int) : Prop := (P_J_min_f86c9 w 1000000 a0) ∧ (P_J_max_f86c9 w (-1000000) (F_J_min_f86c9 w 1000000 a0))
def F_M_bounded (w : z_Wd) (a0 : Int) : Int := F_J_max_f86c9 w (-1000000) (F_J_min_f86c9 w 1000000 a0)
set_option maxRecDepth 4000 in
theorem c_M_bounded {d : Nat} {w : z_Wd} {a0 : Int} {Q : Option z_V → z_Wd → Prop} (h : P_M_bounded w a0) (k : Q (some (zI (F_M_bounded w a0))) w) : z_Wc (d + 1) m_X12_bounded [zJ a0] w Q := by
  unfold P_M_bounded at h
  unfold F_M_bounded at k
  refine z_enter rfl (Nat.le_of_ble_eq_true rfl) ?_
  show z_Wp m_X12_bounded _ 0 [(0, zJ a0)] [] w _
  refine z_ldc2 (n := (-1000000)) (pc' := 3) t_7_177 (by decide) dX12_bounded_0 rfl ?_
  refine z_ldc2 (n := 1000000) (pc' := 6) t_7_178 (by decide) dX12_bounded_3 rfl ?_
  refine z_lload_n (pc' := 7) 0 rfl rfl dX12_bounded_6 rfl ?_
  refine z_invS (as := [zJ 1000000, zJ a0]) (st := [zJ (-1000000)]) (C := m_J9_min_f86c9) (pc' := 10) dX12_bounded_7 rfl t_7_179 k_J9_min_f86c9 rfl rfl (Nat.le_of_ble_eq_true rfl) ?_
  obtain ⟨r1, h⟩ := h
  refine c_J_min_f86c9 r1 ?_
  show z_Wp m_X12_bounded _ 10 [(0, zJ a0)] [zJ (F_J_min_f86c9 w 1000000 a0), zJ (-1000000)] w _
  refine z_invS (as := [zJ (-1000000), zJ (F_J_min_f86c9 w 1000000 a0)]) (st := []) (C := m_J9_max_f86c9) (pc' := 13) dX12_bounded_10 rfl t_7_182 k_J9_max_f86c9 rfl rfl (Nat.le_of_ble_eq_true rfl) ?_
  have r2 := h
  refine c_J_max_f86c9 r2 ?_
  show z_Wp m_X12_bounded _ 13 [(0, zJ a0)] [zJ (F_J_max_f86c9 w (-1000000) (F_J_min_f86c9 w 1000000 a0))] w _
  refine z_l2i (pc' := 14) dX12_bounded_13 rfl ?_
  refine z_iret rfl dX12_bounded_14 ?_
  exact k
def P_M_worked (w : z_Wd) (a0 : Int) (a1 : Int) (a2 : Int) : Prop := (-2147483648 ≤ a0 ∧ a0 < 2147483648) ∧ ((a0 = 2 → (P_J_min_f86c9 w 1000000 (a1 + a2)) ∧ (P_J_max_f86c9 w (-1000000) (F_J_min_f86c9 w 1000000 (a1 + a2)))) ∧ (¬ a0 = 2 → (a0 = 3 → (P_J_min_f86c9 w 1000000 (a1 - a2)) ∧ (P_J_max_f86c9 w (-1000000) (F_J_min_f86c9 w 1000000 (a1 - a2)))) ∧ (¬ a0 = 3 → (a0 = 4 → (P_J_min_f86c9 w 1000000 (a1 * a2)) ∧ (P_J_max_f86c9 w (-1000000) (F_J_min_f86c9 w 1000000 (a1 * a2)))) ∧ (¬ a0 = 4 → (a0 = 5 → (-9223372036854775808 ≤ a2 ∧ a2 < 9223372036854775808) ∧ ((z_cmp a2 0 = 0 → True) ∧ (¬ (z_cmp a2 0 = 0) → (a2 ≠ 0) ∧ (-9223372036854775808 ≤ a1 ∧ a1 < 9223372036854775808) ∧ ((P_J_min_f86c9 w 1000000 (Int.tdiv a1 a2)) ∧ (P_J_max_f86c9 w (-1000000) (F_J_min_f86c9 w 1000000 (Int.tdiv a1 a2))))))) ∧ (¬ a0 = 5 → (a0 = 6 → (-9223372036854775808 ≤ a1 ∧ a1 < 9223372036854775808) ∧ (-9223372036854775808 ≤ a2 ∧ a2 < 9223372036854775808)) ∧ (¬ a0 = 6 → (a0 = 7 → (-9223372036854775808 ≤ a1 ∧ a1 < 9223372036854775808) ∧ (-9223372036854775808 ≤ a2 ∧ a2 < 9223372036854775808)) ∧ (¬ a0 = 7 → (a0 = 8 → (-9223372036854775808 ≤ a1 ∧ a1 < 9223372036854775808) ∧ (-9223372036854775808 ≤ a2 ∧ a2 < 9223372036854775808)) ∧ (¬ a0 = 8 → (a0 = 9 → (-9223372036854775808 ≤ a1 ∧ a1 < 9223372036854775808) ∧ ((z_cmp a1 0 = 0 → -9223372036854775808 ≤ a2 ∧ a2 < 9223372036854775808) ∧ (¬ (z_cmp a1 0 = 0) → True))) ∧ (¬ a0 = 9 → (a0 = 10 → (-9223372036854775808 ≤ a1 ∧ a1 < 9223372036854775808) ∧ ((z_cmp a1 0 = 0 → True) ∧ (¬ (z_cmp a1 0 = 0) → -9223372036854775808 ≤ a2 ∧ a2 < 9223372036854775808))) ∧ (¬ a0 = 10 → (-9223372036854775808 ≤ a1 ∧ a1 < 9223372036854775808) ∧ ((z_cmp a1 0 = 0 → -9223372036854775808 ≤ a2 ∧ a2 < 9223372036854775808) ∧ (¬ (z_cmp a1 0 = 0) → True))))))))))))
def F_M_worked (w : z_Wd) (a0 : Int) (a1 : Int) (a2 : Int) : Int := if a0 = 2 then F_J_max_f86c9 w (-1000000) (F_J_min_f86c9 w 1000000 (a1 + a2)) else if a0 = 3 then F_J_max_f86c9 w (-1000000) (F_J_min_f86c9 w 1000000 (a1 - a2)) else if a0 = 4 then F_J_max_f86c9 w (-1000000) (F_J_min_f86c9 w 1000000 (a1 * a2)) else if a0 = 5 then if z_cmp a2 0 = 0 then 0 else F_J_max_f86c9 w (-1000000) (F_J_min_f86c9 w 1000000 (Int.tdiv a1 a2)) else if a0 = 6 then if z_cmp a1 a2 = 0 then 1 else 0 else if a0 = 7 then if z_cmp a1 a2 ≥ 0 then 0 else 1 else if a0 = 8 then if z_cmp a1 a2 ≤ 0 then 0 else 1 else if a0 = 9 then if z_cmp a1 0 = 0 then if z_cmp a2 0 = 0 then 0 else 1 else 1 else if a0 = 10 then if z_cmp a1 0 = 0 then 0 else if z_cmp a2 0 = 0 then 0 else 1 else if z_cmp a1 0 = 0 then if z_cmp a2 0 = 0 then 0 else 1 else 1
set_option maxRecDepth 4000 in
theorem c_M_worked {d : Nat} {w : z_Wd} {a0 a1 a2 : Int} {Q : Option z_V → z_Wd → Prop} (h : P_M_worked w a0 a1 a2) (k : Q (some (zI (F_M_worked w a0 a1 a2))) w) : z_Wc (d + 2) m_X12_worked [zI a0, zJ a1, zJ a2] w Q := by
  unfold P_M_worked at h
  unfold F_M_worked at k
  refine z_enter rfl (Nat.le_of_ble_eq_true rfl) ?_
  show z_Wp m_X12_worked _ 0 [(0, zI a0), (1, zJ a1), (3, zJ a2)] [] w _
  refine z_iload_n (pc' := 1) 0 rfl rfl dX12_worked_0 rfl ?_
  obtain ⟨r1, h⟩ := h
  refine z_table dX12_worked_1 (by decide) r1 ⟨fun c0 => ⟨52, by decide, ?_⟩, fun c0 => ⟨fun c1 => ⟨59, by decide, ?_⟩, fun c1 => ⟨fun c2 => ⟨66, by decide, ?_⟩, fun c2 => ⟨fun c3 => ⟨73, by decide, ?_⟩, fun c3 => ⟨fun c4 => ⟨90, by decide, ?_⟩, fun c4 => ⟨fun c5 => ⟨102, by decide, ?_⟩, fun c5 => ⟨fun c6 => ⟨114, by decide, ?_⟩, fun c6 => ⟨fun c7 => ⟨144, by decide, ?_⟩, fun c7 => ⟨fun c8 => ⟨126, by decide, ?_⟩, fun c8 => ⟨144, by decide, ?_⟩⟩⟩⟩⟩⟩⟩⟩⟩⟩
  · skip
    have c0 : a0 = 2 := c0
    have h := h.1 c0
    rw [if_pos c0] at k
    refine z_lload_n (pc' := 53) 1 rfl rfl dX12_worked_52 rfl ?_
    refine z_lload_n (pc' := 54) 2 rfl rfl dX12_worked_53 rfl ?_
    refine z_ladd (pc' := 55) dX12_worked_54 rfl ?_
    refine z_invS (as := [zJ (a1 + a2)]) (st := []) (C := m_X12_bounded) (pc' := 58) dX12_worked_55 rfl t_7_174 k_X12_bounded rfl rfl (Nat.le_of_ble_eq_true rfl) ?_
    have r2 := h
    refine c_M_bounded r2 ?_
    show z_Wp m_X12_worked _ 58 [(0, zI a0), (1, zJ a1), (3, zJ a2)] [zI (F_J_max_f86c9 w (-1000000) (F_J_min_f86c9 w 1000000 (a1 + a2)))] w _
    refine z_iret rfl dX12_worked_58 ?_
    exact k
  · skip
    have c0 : ¬ a0 = 2 := c0
    have h := h.2 c0
    rw [if_neg c0] at k
    have c1 : a0 = 3 := c1
    have h := h.1 c1
    rw [if_pos c1] at k
    refine z_lload_n (pc' := 60) 1 rfl rfl dX12_worked_59 rfl ?_
    refine z_lload_n (pc' := 61) 2 rfl rfl dX12_worked_60 rfl ?_
    refine z_lsub (pc' := 62) dX12_worked_61 rfl ?_
    refine z_invS (as := [zJ (a1 - a2)]) (st := []) (C := m_X12_bounded) (pc' := 65) dX12_worked_62 rfl t_7_174 k_X12_bounded rfl rfl (Nat.le_of_ble_eq_true rfl) ?_
    have r3 := h
    refine c_M_bounded r3 ?_
    show z_Wp m_X12_worked _ 65 [(0, zI a0), (1, zJ a1), (3, zJ a2)] [zI (F_J_max_f86c9 w (-1000000) (F_J_min_f86c9 w 1000000 (a1 - a2)))] w _
    refine z_iret rfl dX12_worked_65 ?_
    exact k
  · skip
    have c0 : ¬ a0 = 2 := c0
    have h := h.2 c0
    rw [if_neg c0] at k
    have c1 : ¬ a0 = 3 := c1
    have h := h.2 c1
    rw [if_neg c1] at k
    have c2 : a0 = 4 := c2
    have h := h.1 c2
    rw [if_pos c2] at k
    refine z_lload_n (pc' := 67) 1 rfl rfl dX12_worked_66 rfl ?_
    refine z_lload_n (pc' := 68) 2 rfl rfl dX12_worked_67 rfl ?_
    refine z_lmul (pc' := 69) dX12_worked_68 rfl ?_
    refine z_invS (as := [zJ (a1 * a2)]) (st := []) (C := m_X12_bounded) (pc' := 72) dX12_worked_69 rfl t_7_174 k_X12_bounded rfl rfl (Nat.le_of_ble_eq_true rfl) ?_
    have r4 := h
    refine c_M_bounded r4 ?_
    show z_Wp m_X12_worked _ 72 [(0, zI a0), (1, zJ a1), (3, zJ a2)] [zI (F_J_max_f86c9 w (-1000000) (F_J_min_f86c9 w 1000000 (a1 * a2)))] w _
    refine z_iret rfl dX12_worked_72 ?_
    exact k
  · skip
    have c0 : ¬ a0 = 2 := c0
    have h := h.2 c0
    rw [if_neg c0] at k
    have c1 : ¬ a0 = 3 := c1
    have h := h.2 c1
    rw [if_neg c1] at k
    have c2 : ¬ a0 = 4 := c2
    have h := h.2 c2
    rw [if_neg c2] at k
    have c3 : a0 = 5 := c3
    have h := h.1 c3
    rw [if_pos c3] at k
    refine z_lload_n (pc' := 74) 2 rfl rfl dX12_worked_73 rfl ?_
    refine z_lconst (v := 0) (pc' := 75) (by decide) dX12_worked_74 rfl ?_
    obtain ⟨r5, h⟩ := h
    refine z_lcmp (pc' := 76) r5 (by decide) dX12_worked_75 rfl ?_
    refine z_if_ne 83 dX12_worked_76 (by decide) (pc' := 79) rfl (z_cmp_r _ _) (fun c => ?_) (fun c => ?_)
    · have h := h.2 c
      rw [if_neg c] at k
      refine z_lload_n (pc' := 84) 1 rfl rfl dX12_worked_83 rfl ?_
      refine z_lload_n (pc' := 85) 2 rfl rfl dX12_worked_84 rfl ?_
      obtain ⟨r6, h⟩ := h
      obtain ⟨r7, h⟩ := h
      refine z_ldiv (pc' := 86) r7 r5 r6 dX12_worked_85 rfl ?_
      refine z_invS (as := [zJ (Int.tdiv a1 a2)]) (st := []) (C := m_X12_bounded) (pc' := 89) dX12_worked_86 rfl t_7_174 k_X12_bounded rfl rfl (Nat.le_of_ble_eq_true rfl) ?_
      have r8 := h
      refine c_M_bounded r8 ?_
      show z_Wp m_X12_worked _ 89 [(0, zI a0), (1, zJ a1), (3, zJ a2)] [zI (F_J_max_f86c9 w (-1000000) (F_J_min_f86c9 w 1000000 (Int.tdiv a1 a2)))] w _
      refine z_iret rfl dX12_worked_89 ?_
      exact k
    · have h := h.1 c
      rw [if_pos c] at k
      refine z_iconst (pc' := 80) dX12_worked_79 rfl ?_
      refine z_goto 89 dX12_worked_80 (by decide) ?_
      refine z_iret rfl dX12_worked_89 ?_
      exact k
  · skip
    have c0 : ¬ a0 = 2 := c0
    have h := h.2 c0
    rw [if_neg c0] at k
    have c1 : ¬ a0 = 3 := c1
    have h := h.2 c1
    rw [if_neg c1] at k
    have c2 : ¬ a0 = 4 := c2
    have h := h.2 c2
    rw [if_neg c2] at k
    have c3 : ¬ a0 = 5 := c3
    have h := h.2 c3
    rw [if_neg c3] at k
    have c4 : a0 = 6 := c4
    have h := h.1 c4
    rw [if_pos c4] at k
    refine z_lload_n (pc' := 91) 1 rfl rfl dX12_worked_90 rfl ?_
    refine z_lload_n (pc' := 92) 2 rfl rfl dX12_worked_91 rfl ?_
    obtain ⟨r9, h⟩ := h
    have r10 := h
    refine z_lcmp (pc' := 93) r9 r10 dX12_worked_92 rfl ?_
    refine z_if_ne 100 dX12_worked_93 (by decide) (pc' := 96) rfl (z_cmp_r _ _) (fun c => ?_) (fun c => ?_)
    · skip
      rw [if_neg c] at k
      refine z_iconst (pc' := 101) dX12_worked_100 rfl ?_
      refine z_iret rfl dX12_worked_101 ?_
      exact k
    · skip
      rw [if_pos c] at k
      refine z_iconst (pc' := 97) dX12_worked_96 rfl ?_
      refine z_goto 101 dX12_worked_97 (by decide) ?_
      refine z_iret rfl dX12_worked_101 ?_
      exact k
  · skip
    have c0 : ¬ a0 = 2 := c0
    have h := h.2 c0
    rw [if_neg c0] at k
    have c1 : ¬ a0 = 3 := c1
    have h := h.2 c1
    rw [if_neg c1] at k
    have c2 : ¬ a0 = 4 := c2
    have h := h.2 c2
    rw [if_neg c2] at k
    have c3 : ¬ a0 = 5 := c3
    have h := h.2 c3
    rw [if_neg c3] at k
    have c4 : ¬ a0 = 6 := c4
    have h := h.2 c4
    rw [if_neg c4] at k
    have c5 : a0 = 7 := c5
    have h := h.1 c5
    rw [if_pos c5] at k
    refine z_lload_n (pc' := 103) 1 rfl rfl dX12_worked_102 rfl ?_
    refine z_lload_n (pc' := 104) 2 rfl rfl dX12_worked_103 rfl ?_
    obtain ⟨r11, h⟩ := h
    have r12 := h
    refine z_lcmp (pc' := 105) r11 r12 dX12_worked_104 rfl ?_
    refine z_if_ge 112 dX12_worked_105 (by decide) (pc' := 108) rfl (z_cmp_r _ _) (fun c => ?_) (fun c => ?_)
    · skip
      rw [if_pos c] at k
      refine z_iconst (pc' := 113) dX12_worked_112 rfl ?_
      refine z_iret rfl dX12_worked_113 ?_
      exact k
    · skip
      rw [if_neg c] at k
      refine z_iconst (pc' := 109) dX12_worked_108 rfl ?_
      refine z_goto 113 dX12_worked_109 (by decide) ?_
      refine z_iret rfl dX12_worked_113 ?_
      exact k
  · skip
    have c0 : ¬ a0 = 2 := c0
    have h := h.2 c0
    rw [if_neg c0] at k
    have c1 : ¬ a0 = 3 := c1
    have h := h.2 c1
    rw [if_neg c1] at k
    have c2 : ¬ a0 = 4 := c2
    have h := h.2 c2
    rw [if_neg c2] at k
    have c3 : ¬ a0 = 5 := c3
    have h := h.2 c3
    rw [if_neg c3] at k
    have c4 : ¬ a0 = 6 := c4
    have h := h.2 c4
    rw [if_neg c4] at k
    have c5 : ¬ a0 = 7 := c5
    have h := h.2 c5
    rw [if_neg c5] at k
    have c6 : a0 = 8 := c6
    have h := h.1 c6
    rw [if_pos c6] at k
    refine z_lload_n (pc' := 115) 1 rfl rfl dX12_worked_114 rfl ?_
    refine z_lload_n (pc' := 116) 2 rfl rfl dX12_worked_115 rfl ?_
    obtain ⟨r13, h⟩ := h
    have r14 := h
    refine z_lcmp (pc' := 117) r13 r14 dX12_worked_116 rfl ?_
    refine z_if_le 124 dX12_worked_117 (by decide) (pc' := 120) rfl (z_cmp_r _ _) (fun c => ?_) (fun c => ?_)
    · skip
      rw [if_pos c] at k
      refine z_iconst (pc' := 125) dX12_worked_124 rfl ?_
      refine z_iret rfl dX12_worked_125 ?_
      exact k
    · skip
      rw [if_neg c] at k
      refine z_iconst (pc' := 121) dX12_worked_120 rfl ?_
      refine z_goto 125 dX12_worked_121 (by decide) ?_
      refine z_iret rfl dX12_worked_125 ?_
      exact k
  · skip
    have c0 : ¬ a0 = 2 := c0
    have h := h.2 c0
    rw [if_neg c0] at k
    have c1 : ¬ a0 = 3 := c1
    have h := h.2 c1
    rw [if_neg c1] at k
    have c2 : ¬ a0 = 4 := c2
    have h := h.2 c2
    rw [if_neg c2] at k
    have c3 : ¬ a0 = 5 := c3
    have h := h.2 c3
    rw [if_neg c3] at k
    have c4 : ¬ a0 = 6 := c4
    have h := h.2 c4
    rw [if_neg c4] at k
    have c5 : ¬ a0 = 7 := c5
    have h := h.2 c5
    rw [if_neg c5] at k
    have c6 : ¬ a0 = 8 := c6
    have h := h.2 c6
    rw [if_neg c6] at k
    have c7 : a0 = 9 := c7
    have h := h.1 c7
    rw [if_pos c7] at k
    refine z_lload_n (pc' := 145) 1 rfl rfl dX12_worked_144 rfl ?_
    refine z_lconst (v := 0) (pc' := 146) (by decide) dX12_worked_145 rfl ?_
    obtain ⟨r15, h⟩ := h
    refine z_lcmp (pc' := 147) r15 (by decide) dX12_worked_146 rfl ?_
    refine z_if_ne 156 dX12_worked_147 (by decide) (pc' := 150) rfl (z_cmp_r _ _) (fun c => ?_) (fun c => ?_)
    · have h := h.2 c
      rw [if_neg c] at k
      refine z_iconst (pc' := 157) dX12_worked_156 rfl ?_
      refine z_goto 161 dX12_worked_157 (by decide) ?_
      refine z_iret rfl dX12_worked_161 ?_
      exact k
    · have h := h.1 c
      rw [if_pos c] at k
      refine z_lload_n (pc' := 151) 2 rfl rfl dX12_worked_150 rfl ?_
      refine z_lconst (v := 0) (pc' := 152) (by decide) dX12_worked_151 rfl ?_
      have r16 := h
      refine z_lcmp (pc' := 153) r16 (by decide) dX12_worked_152 rfl ?_
      refine z_if_eq 160 dX12_worked_153 (by decide) (pc' := 156) rfl (z_cmp_r _ _) (fun c => ?_) (fun c => ?_)
      · skip
        rw [if_pos c] at k
        refine z_iconst (pc' := 161) dX12_worked_160 rfl ?_
        refine z_iret rfl dX12_worked_161 ?_
        exact k
      · skip
        rw [if_neg c] at k
        refine z_iconst (pc' := 157) dX12_worked_156 rfl ?_
        refine z_goto 161 dX12_worked_157 (by decide) ?_
        refine z_iret rfl dX12_worked_161 ?_
        exact k
  · skip
    have c0 : ¬ a0 = 2 := c0
    have h := h.2 c0
    rw [if_neg c0] at k
    have c1 : ¬ a0 = 3 := c1
    have h := h.2 c1
    rw [if_neg c1] at k
    have c2 : ¬ a0 = 4 := c2
    have h := h.2 c2
    rw [if_neg c2] at k
    have c3 : ¬ a0 = 5 := c3
    have h := h.2 c3
    rw [if_neg c3] at k
    have c4 : ¬ a0 = 6 := c4
    have h := h.2 c4
    rw [if_neg c4] at k
    have c5 : ¬ a0 = 7 := c5
    have h := h.2 c5
    rw [if_neg c5] at k
    have c6 : ¬ a0 = 8 := c6
    have h := h.2 c6
    rw [if_neg c6] at k
    have c7 : ¬ a0 = 9 := c7
    have h := h.2 c7
    rw [if_neg c7] at k
    have c8 : a0 = 10 := c8
    have h := h.1 c8
    rw [if_pos c8] at k
    refine z_lload_n (pc' := 127) 1 rfl rfl dX12_worked_126 rfl ?_
    refine z_lconst (v := 0) (pc' := 128) (by decide) dX12_worked_127 rfl ?_
    obtain ⟨r17, h⟩ := h
    refine z_lcmp (pc' := 129) r17 (by decide) dX12_worked_128 rfl ?_
    refine z_if_eq 142 dX12_worked_129 (by decide) (pc' := 132) rfl (z_cmp_r _ _) (fun c => ?_) (fun c => ?_)
    · have h := h.1 c
      rw [if_pos c] at k
      refine z_iconst (pc' := 143) dX12_worked_142 rfl ?_
      refine z_iret rfl dX12_worked_143 ?_
      exact k
    · have h := h.2 c
      rw [if_neg c] at k
      refine z_lload_n (pc' := 133) 2 rfl rfl dX12_worked_132 rfl ?_
      refine z_lconst (v := 0) (pc' := 134) (by decide) dX12_worked_133 rfl ?_
      have r18 := h
      refine z_lcmp (pc' := 135) r18 (by decide) dX12_worked_134 rfl ?_
      refine z_if_eq 142 dX12_worked_135 (by decide) (pc' := 138) rfl (z_cmp_r _ _) (fun c => ?_) (fun c => ?_)
      · skip
        rw [if_pos c] at k
        refine z_iconst (pc' := 143) dX12_worked_142 rfl ?_
        refine z_iret rfl dX12_worked_143 ?_
        exact k
      · skip
        rw [if_neg c] at k
        refine z_iconst (pc' := 139) dX12_worked_138 rfl ?_
        refine z_goto 143 dX12_worked_139 (by decide) ?_
        refine z_iret rfl dX12_worked_143 ?_
        exact k
  · skip
    have c0 : ¬ a0 = 2 := c0
    have h := h.2 c0
    rw [if_neg c0] at k
    have c1 : ¬ a0 = 3 := c1
    have h := h.2 c1
    rw [if_neg c1] at k
    have c2 : ¬ a0 = 4 := c2
    have h := h.2 c2
    rw [if_neg c2] at k
    have c3 : ¬ a0 = 5 := c3
    have h := h.2 c3
    rw [if_neg c3] at k
    have c4 : ¬ a0 = 6 := c4
    have h := h.2 c4
    rw [if_neg c4] at k
    have c5 : ¬ a0 = 7 := c5
    have h := h.2 c5
    rw [if_neg c5] at k
    have c6 : ¬ a0 = 8 := c6
    have h := h.2 c6
    rw [if_neg c6] at k
    have c7 : ¬ a0 = 9 := c7
    have h := h.2 c7
    rw [if_neg c7] at k
    have c8 : ¬ a0 = 10 := c8
    have h := h.2 c8
    rw [if_neg c8] at k
    refine z_lload_n (pc' := 145) 1 rfl rfl dX12_worked_144 rfl ?_
    refine z_lconst (v := 0) (pc' := 146) (by decide) dX12_worked_145 rfl ?_
    obtain ⟨r19, h⟩ := h
    refine z_lcmp (pc' := 147) r19 (by decide) dX12_worked_146 rfl ?_
    refine z_if_ne 156 dX12_worked_147 (by decide) (pc' := 150) rfl (z_cmp_r _ _) (fun c => ?_) (fun c => ?_)
    · have h := h.2 c
      rw [if_neg c] at k
      refine z_iconst (pc' := 157) dX12_worked_156 rfl ?_
      refine z_goto 161 dX12_worked_157 (by decide) ?_
      refine z_iret rfl dX12_worked_161 ?_
      exact k
    · have h := h.1 c
      rw [if_pos c] at k
      refine z_lload_n (pc' := 151) 2 rfl rfl dX12_worked_150 rfl ?_
      refine z_lconst (v := 0) (pc' := 152) (by decide) dX12_worked_151 rfl ?_
      have r20 := h
      refine z_lcmp (pc' := 153) r20 (by decide) dX12_worked_152 rfl ?_
      refine z_if_eq 160 dX12_worked_153 (by decide) (pc' := 156) rfl (z_cmp_r _ _) (fun c => ?_) (fun c => ?_)
      · skip
        rw [if_pos c] at k
        refine z_iconst (pc' := 161) dX12_worked_160 rfl ?_
        refine z_iret rfl dX12_worked_161 ?_
        exact k
      · skip
        rw [if_neg c] at k
        refine z_iconst (pc' := 157) dX12_worked_156 rfl ?_
        refine z_goto 161 dX12_worked_157 (by decide) ?_
        refine z_iret rfl dX12_worked_161 ?_
        exact k
