def A_M_worthOf_6 (w : z_Wd) (a0 : Int) : Nat → z_Wd
  | 0 => w
  | i11 + 1 => if (A_M_worthOf_6 w a0 i11) 6 (((140 * a0) + (i11 : Int)).toNat) = (A_M_worthOf_6 w a0 i11) 7 (((140 * a0) + (i11 : Int)).toNat) then A_M_worthOf_6 w a0 i11 else if (F_M_workOut (A_M_worthOf_6 w a0 i11) a0 ((A_M_worthOf_6 w a0 i11) 6 (((140 * a0) + (i11 : Int)).toNat)) ((A_M_worthOf_6 w a0 i11) 7 (((140 * a0) + (i11 : Int)).toNat))).1 = 0 then (F_M_workOut (A_M_worthOf_6 w a0 i11) a0 ((A_M_worthOf_6 w a0 i11) 6 (((140 * a0) + (i11 : Int)).toNat)) ((A_M_worthOf_6 w a0 i11) 7 (((140 * a0) + (i11 : Int)).toNat))).2 else A_M_worthOf_6 w a0 i11
def E_M_worthOf_6 (w : z_Wd) (a0 : Int) (i11 : Nat) : Bool := if (A_M_worthOf_6 w a0 i11) 6 (((140 * a0) + (i11 : Int)).toNat) = (A_M_worthOf_6 w a0 i11) 7 (((140 * a0) + (i11 : Int)).toNat) then true else if (F_M_workOut (A_M_worthOf_6 w a0 i11) a0 ((A_M_worthOf_6 w a0 i11) 6 (((140 * a0) + (i11 : Int)).toNat)) ((A_M_worthOf_6 w a0 i11) 7 (((140 * a0) + (i11 : Int)).toNat))).1 = 0 then false else true
def R_M_worthOf_6 (w : z_Wd) (a0 : Int) (i11 : Nat) : Int × z_Wd := if (A_M_worthOf_6 w a0 i11) 6 (((140 * a0) + (i11 : Int)).toNat) = (A_M_worthOf_6 w a0 i11) 7 (((140 * a0) + (i11 : Int)).toNat) then ((F_M_workOut (A_M_worthOf_6 w a0 i11) a0 ((A_M_worthOf_6 w a0 i11) 7 (((140 * a0) + (i11 : Int)).toNat)) ((A_M_worthOf_6 w a0 i11) 8 (((140 * a0) + (i11 : Int)).toNat))).1, (F_M_workOut (A_M_worthOf_6 w a0 i11) a0 ((A_M_worthOf_6 w a0 i11) 7 (((140 * a0) + (i11 : Int)).toNat)) ((A_M_worthOf_6 w a0 i11) 8 (((140 * a0) + (i11 : Int)).toNat))).2) else if (F_M_workOut (A_M_worthOf_6 w a0 i11) a0 ((A_M_worthOf_6 w a0 i11) 6 (((140 * a0) + (i11 : Int)).toNat)) ((A_M_worthOf_6 w a0 i11) 7 (((140 * a0) + (i11 : Int)).toNat))).1 = 0 then (0, w) else ((F_M_workOut ((F_M_workOut (A_M_worthOf_6 w a0 i11) a0 ((A_M_worthOf_6 w a0 i11) 6 (((140 * a0) + (i11 : Int)).toNat)) ((A_M_worthOf_6 w a0 i11) 7 (((140 * a0) + (i11 : Int)).toNat))).2) a0 (((F_M_workOut (A_M_worthOf_6 w a0 i11) a0 ((A_M_worthOf_6 w a0 i11) 6 (((140 * a0) + (i11 : Int)).toNat)) ((A_M_worthOf_6 w a0 i11) 7 (((140 * a0) + (i11 : Int)).toNat))).2) 7 (((140 * a0) + (i11 : Int)).toNat)) (((F_M_workOut (A_M_worthOf_6 w a0 i11) a0 ((A_M_worthOf_6 w a0 i11) 6 (((140 * a0) + (i11 : Int)).toNat)) ((A_M_worthOf_6 w a0 i11) 7 (((140 * a0) + (i11 : Int)).toNat))).2) 8 (((140 * a0) + (i11 : Int)).toNat))).1, (F_M_workOut ((F_M_workOut (A_M_worthOf_6 w a0 i11) a0 ((A_M_worthOf_6 w a0 i11) 6 (((140 * a0) + (i11 : Int)).toNat)) ((A_M_worthOf_6 w a0 i11) 7 (((140 * a0) + (i11 : Int)).toNat))).2) a0 (((F_M_workOut (A_M_worthOf_6 w a0 i11) a0 ((A_M_worthOf_6 w a0 i11) 6 (((140 * a0) + (i11 : Int)).toNat)) ((A_M_worthOf_6 w a0 i11) 7 (((140 * a0) + (i11 : Int)).toNat))).2) 7 (((140 * a0) + (i11 : Int)).toNat)) (((F_M_workOut (A_M_worthOf_6 w a0 i11) a0 ((A_M_worthOf_6 w a0 i11) 6 (((140 * a0) + (i11 : Int)).toNat)) ((A_M_worthOf_6 w a0 i11) 7 (((140 * a0) + (i11 : Int)).toNat))).2) 8 (((140 * a0) + (i11 : Int)).toNat))).2)
def P_M_worthOf (w : z_Wd) (a0 : Int) : Prop := (∀ i11 : Nat, i11 < ((((140 * a0) + (w 5 a0.toNat)) - (140 * a0)).toNat) → zfind (E_M_worthOf_6 w a0) i11 = -1 → (0 ≤ a0 ∧ a0 < 5) ∧ (-2147483648 ≤ (140 * a0) + (i11 : Int) ∧ (140 * a0) + (i11 : Int) < 2147483648) ∧ (-2147483648 ≤ (140 * a0) + ((A_M_worthOf_6 w a0 i11) 5 a0.toNat) ∧ (140 * a0) + ((A_M_worthOf_6 w a0 i11) 5 a0.toNat) < 2147483648) ∧ ((140 * a0) + ((A_M_worthOf_6 w a0 i11) 5 a0.toNat) = (140 * a0) + (w 5 a0.toNat)) ∧ (0 ≤ (140 * a0) + (i11 : Int) ∧ (140 * a0) + (i11 : Int) < 700) ∧ (-2147483648 ≤ (A_M_worthOf_6 w a0 i11) 6 (((140 * a0) + (i11 : Int)).toNat) ∧ (A_M_worthOf_6 w a0 i11) 6 (((140 * a0) + (i11 : Int)).toNat) < 2147483648) ∧ (-2147483648 ≤ (A_M_worthOf_6 w a0 i11) 7 (((140 * a0) + (i11 : Int)).toNat) ∧ (A_M_worthOf_6 w a0 i11) 7 (((140 * a0) + (i11 : Int)).toNat) < 2147483648) ∧ (((A_M_worthOf_6 w a0 i11) 6 (((140 * a0) + (i11 : Int)).toNat) = (A_M_worthOf_6 w a0 i11) 7 (((140 * a0) + (i11 : Int)).toNat) → P_M_workOut (A_M_worthOf_6 w a0 i11) a0 ((A_M_worthOf_6 w a0 i11) 7 (((140 * a0) + (i11 : Int)).toNat)) ((A_M_worthOf_6 w a0 i11) 8 (((140 * a0) + (i11 : Int)).toNat))) ∧ (¬ ((A_M_worthOf_6 w a0 i11) 6 (((140 * a0) + (i11 : Int)).toNat) = (A_M_worthOf_6 w a0 i11) 7 (((140 * a0) + (i11 : Int)).toNat)) → (P_M_workOut (A_M_worthOf_6 w a0 i11) a0 ((A_M_worthOf_6 w a0 i11) 6 (((140 * a0) + (i11 : Int)).toNat)) ((A_M_worthOf_6 w a0 i11) 7 (((140 * a0) + (i11 : Int)).toNat))) ∧ (-2147483648 ≤ (F_M_workOut (A_M_worthOf_6 w a0 i11) a0 ((A_M_worthOf_6 w a0 i11) 6 (((140 * a0) + (i11 : Int)).toNat)) ((A_M_worthOf_6 w a0 i11) 7 (((140 * a0) + (i11 : Int)).toNat))).1 ∧ (F_M_workOut (A_M_worthOf_6 w a0 i11) a0 ((A_M_worthOf_6 w a0 i11) 6 (((140 * a0) + (i11 : Int)).toNat)) ((A_M_worthOf_6 w a0 i11) 7 (((140 * a0) + (i11 : Int)).toNat))).1 < 2147483648) ∧ (((F_M_workOut (A_M_worthOf_6 w a0 i11) a0 ((A_M_worthOf_6 w a0 i11) 6 (((140 * a0) + (i11 : Int)).toNat)) ((A_M_worthOf_6 w a0 i11) 7 (((140 * a0) + (i11 : Int)).toNat))).1 = 0 → True) ∧ (¬ ((F_M_workOut (A_M_worthOf_6 w a0 i11) a0 ((A_M_worthOf_6 w a0 i11) 6 (((140 * a0) + (i11 : Int)).toNat)) ((A_M_worthOf_6 w a0 i11) 7 (((140 * a0) + (i11 : Int)).toNat))).1 = 0) → P_M_workOut ((F_M_workOut (A_M_worthOf_6 w a0 i11) a0 ((A_M_worthOf_6 w a0 i11) 6 (((140 * a0) + (i11 : Int)).toNat)) ((A_M_worthOf_6 w a0 i11) 7 (((140 * a0) + (i11 : Int)).toNat))).2) a0 (((F_M_workOut (A_M_worthOf_6 w a0 i11) a0 ((A_M_worthOf_6 w a0 i11) 6 (((140 * a0) + (i11 : Int)).toNat)) ((A_M_worthOf_6 w a0 i11) 7 (((140 * a0) + (i11 : Int)).toNat))).2) 7 (((140 * a0) + (i11 : Int)).toNat)) (((F_M_workOut (A_M_worthOf_6 w a0 i11) a0 ((A_M_worthOf_6 w a0 i11) 6 (((140 * a0) + (i11 : Int)).toNat)) ((A_M_worthOf_6 w a0 i11) 7 (((140 * a0) + (i11 : Int)).toNat))).2) 8 (((140 * a0) + (i11 : Int)).toNat))))))) ∧ ((0 ≤ a0 ∧ a0 < 5) ∧ (-2147483648 ≤ (140 * a0) + (((((140 * a0) + (w 5 a0.toNat)) - (140 * a0)).toNat : Nat) : Int) ∧ (140 * a0) + (((((140 * a0) + (w 5 a0.toNat)) - (140 * a0)).toNat : Nat) : Int) < 2147483648) ∧ (-2147483648 ≤ (140 * a0) + ((A_M_worthOf_6 w a0 (((140 * a0) + (w 5 a0.toNat)) - (140 * a0)).toNat) 5 a0.toNat) ∧ (140 * a0) + ((A_M_worthOf_6 w a0 (((140 * a0) + (w 5 a0.toNat)) - (140 * a0)).toNat) 5 a0.toNat) < 2147483648) ∧ ((140 * a0) + ((A_M_worthOf_6 w a0 (((140 * a0) + (w 5 a0.toNat)) - (140 * a0)).toNat) 5 a0.toNat) = (140 * a0) + (w 5 a0.toNat)))
def F_M_worthOf (w : z_Wd) (a0 : Int) : Int × z_Wd := if zfind (E_M_worthOf_6 w a0) ((((140 * a0) + (w 5 a0.toNat)) - (140 * a0)).toNat) = -1 then (0, A_M_worthOf_6 w a0 (((140 * a0) + (w 5 a0.toNat)) - (140 * a0)).toNat) else R_M_worthOf_6 w a0 (zfind (E_M_worthOf_6 w a0) ((((140 * a0) + (w 5 a0.toNat)) - (140 * a0)).toNat)).toNat
set_option maxRecDepth 4000 in
theorem c_M_worthOf {d : Nat} {w : z_Wd} {a0 : Int} {Q : Option z_V → z_Wd → Prop} (h : P_M_worthOf w a0) (k : Q (some (zI (F_M_worthOf w a0).1)) (F_M_worthOf w a0).2) : z_Wc (d + 4) m_X12_worthOf [zR 0, zI a0] w Q := by
  unfold P_M_worthOf at h
  unfold F_M_worthOf at k
  refine z_enter rfl (Nat.le_of_ble_eq_true rfl) ?_
  show z_Wp m_X12_worthOf _ 0 [(0, zR 0), (1, zI a0)] [] w _
  refine z_sipush (pc' := 3) (by decide) dX12_worthOf_0 rfl ?_
  refine z_iload_n (pc' := 4) 1 rfl rfl dX12_worthOf_3 rfl ?_
  refine z_imul (pc' := 5) dX12_worthOf_4 rfl ?_
  refine z_istore_n (pc' := 6) (ls' := [(0, zR 0), (1, zI a0), (2, zI (140 * a0))]) rfl (by decide) rfl rfl dX12_worthOf_5 rfl ?_
  refine z_lcast (ls' := [(0, zR 0), (1, zI a0), (2, zI ((140 * a0) + ((0 : Nat) : Int)))]) (by simp only [Int.natCast_zero, Int.add_zero]) ?_
  refine z_upto ((((140 * a0) + (w 5 a0.toNat)) - (140 * a0)).toNat) (fun i11 => zfind (E_M_worthOf_6 w a0) i11 = -1 → z_Wp m_X12_worthOf (d + 4) 6 [(0, zR 0), (1, zI a0), (2, zI ((140 * a0) + (i11 : Int)))] [] (A_M_worthOf_6 w a0 i11) Q) ?_ ?_ rfl
  · intro hf
    rw [if_pos hf] at k
    have h := h.2
    refine z_iload_n (pc' := 7) 2 rfl rfl dX12_worthOf_6 rfl ?_
    refine z_sipush (pc' := 10) (by decide) dX12_worthOf_7 rfl ?_
    refine z_iload_n (pc' := 11) 1 rfl rfl dX12_worthOf_10 rfl ?_
    refine z_imul (pc' := 12) dX12_worthOf_11 rfl ?_
    refine z_aload_n (pc' := 13) 0 rfl rfl dX12_worthOf_12 rfl ?_
    refine z_getR (t := 5) (pc' := 16) g_X12_22 (by decide) rfl rfl dX12_worthOf_13 rfl ?_
    refine z_iload_n (pc' := 17) 1 rfl rfl dX12_worthOf_16 rfl ?_
    obtain ⟨r23, h⟩ := h
    refine z_iald2 (v := (A_M_worthOf_6 w a0 (((140 * a0) + (w 5 a0.toNat)) - (140 * a0)).toNat) 5 a0.toNat) (pc' := 18) (by decide) rfl r23 (by decide) rfl dX12_worthOf_17 rfl ?_
    refine z_iadd (pc' := 19) dX12_worthOf_18 rfl ?_
    obtain ⟨r24, h⟩ := h
    obtain ⟨r25, h⟩ := h
    have r26 := h
    refine z_icmp_ge 81 dX12_worthOf_19 (by decide) (pc' := 22) rfl r24 r25 (fun _ => ?_) (fun c => absurd c (by first | omega | (rw [r26]; first | exact z_exitgt | exact z_exitge | omega)))
    refine z_iconst (pc' := 82) dX12_worthOf_81 rfl ?_
    refine z_iret rfl dX12_worthOf_82 ?_
    exact k
  · intro i11 hi ih hf
    have h := h.1 i11 hi hf
    have ih : zfind (E_M_worthOf_6 w a0) (i11 + 1) = -1 → z_Wp m_X12_worthOf (d + 4) 6 [(0, zR 0), (1, zI a0), (2, zI ((140 * a0) + ((i11 + 1 : Nat) : Int)))] [] (if (A_M_worthOf_6 w a0 i11) 6 (((140 * a0) + (i11 : Int)).toNat) = (A_M_worthOf_6 w a0 i11) 7 (((140 * a0) + (i11 : Int)).toNat) then A_M_worthOf_6 w a0 i11 else if (F_M_workOut (A_M_worthOf_6 w a0 i11) a0 ((A_M_worthOf_6 w a0 i11) 6 (((140 * a0) + (i11 : Int)).toNat)) ((A_M_worthOf_6 w a0 i11) 7 (((140 * a0) + (i11 : Int)).toNat))).1 = 0 then (F_M_workOut (A_M_worthOf_6 w a0 i11) a0 ((A_M_worthOf_6 w a0 i11) 6 (((140 * a0) + (i11 : Int)).toNat)) ((A_M_worthOf_6 w a0 i11) 7 (((140 * a0) + (i11 : Int)).toNat))).2 else A_M_worthOf_6 w a0 i11) Q := ih
    have hE : E_M_worthOf_6 w a0 i11 = (if (A_M_worthOf_6 w a0 i11) 6 (((140 * a0) + (i11 : Int)).toNat) = (A_M_worthOf_6 w a0 i11) 7 (((140 * a0) + (i11 : Int)).toNat) then true else if (F_M_workOut (A_M_worthOf_6 w a0 i11) a0 ((A_M_worthOf_6 w a0 i11) 6 (((140 * a0) + (i11 : Int)).toNat)) ((A_M_worthOf_6 w a0 i11) 7 (((140 * a0) + (i11 : Int)).toNat))).1 = 0 then false else true) := rfl
    refine z_iload_n (pc' := 7) 2 rfl rfl dX12_worthOf_6 rfl ?_
    refine z_sipush (pc' := 10) (by decide) dX12_worthOf_7 rfl ?_
    refine z_iload_n (pc' := 11) 1 rfl rfl dX12_worthOf_10 rfl ?_
    refine z_imul (pc' := 12) dX12_worthOf_11 rfl ?_
    refine z_aload_n (pc' := 13) 0 rfl rfl dX12_worthOf_12 rfl ?_
    refine z_getR (t := 5) (pc' := 16) g_X12_22 (by decide) rfl rfl dX12_worthOf_13 rfl ?_
    refine z_iload_n (pc' := 17) 1 rfl rfl dX12_worthOf_16 rfl ?_
    obtain ⟨r12, h⟩ := h
    refine z_iald2 (v := (A_M_worthOf_6 w a0 i11) 5 a0.toNat) (pc' := 18) (by decide) rfl r12 (by decide) rfl dX12_worthOf_17 rfl ?_
    refine z_iadd (pc' := 19) dX12_worthOf_18 rfl ?_
    obtain ⟨r13, h⟩ := h
    obtain ⟨r14, h⟩ := h
    obtain ⟨r15, h⟩ := h
    refine z_icmp_ge 81 dX12_worthOf_19 (by decide) (pc' := 22) rfl r13 r14 (fun c => absurd c (by first | omega | (rw [r15]; first | exact z_exitgt | exact z_exitge | omega))) (fun _ => ?_)
    refine z_aload_n (pc' := 23) 0 rfl rfl dX12_worthOf_22 rfl ?_
    refine z_getR (t := 6) (pc' := 26) g_X12_25 (by decide) rfl rfl dX12_worthOf_23 rfl ?_
    refine z_iload_n (pc' := 27) 2 rfl rfl dX12_worthOf_26 rfl ?_
    obtain ⟨r16, h⟩ := h
    refine z_iald2 (v := (A_M_worthOf_6 w a0 i11) 6 (((140 * a0) + (i11 : Int)).toNat)) (pc' := 28) (by decide) rfl r16 (by decide) rfl dX12_worthOf_27 rfl ?_
    refine z_aload_n (pc' := 29) 0 rfl rfl dX12_worthOf_28 rfl ?_
    refine z_getR (t := 7) (pc' := 32) g_X12_28 (by decide) rfl rfl dX12_worthOf_29 rfl ?_
    refine z_iload_n (pc' := 33) 2 rfl rfl dX12_worthOf_32 rfl ?_
    refine z_iald2 (v := (A_M_worthOf_6 w a0 i11) 7 (((140 * a0) + (i11 : Int)).toNat)) (pc' := 34) (by decide) rfl r16 (by decide) rfl dX12_worthOf_33 rfl ?_
    obtain ⟨r17, h⟩ := h
    obtain ⟨r18, h⟩ := h
    refine z_icmp_eq 57 dX12_worthOf_34 (by decide) (pc' := 37) rfl r17 r18 (fun c59 => ?_) (fun c59 => ?_)
    · have h := h.1 c59
      rw [if_pos c59] at ih
      rw [if_pos c59] at hE
      refine z_aload_n (pc' := 58) 0 rfl rfl dX12_worthOf_57 rfl ?_
      refine z_iload_n (pc' := 59) 1 rfl rfl dX12_worthOf_58 rfl ?_
      refine z_aload_n (pc' := 60) 0 rfl rfl dX12_worthOf_59 rfl ?_
      refine z_getR (t := 7) (pc' := 63) g_X12_28 (by decide) rfl rfl dX12_worthOf_60 rfl ?_
      refine z_iload_n (pc' := 64) 2 rfl rfl dX12_worthOf_63 rfl ?_
      refine z_iald2 (v := (A_M_worthOf_6 w a0 i11) 7 (((140 * a0) + (i11 : Int)).toNat)) (pc' := 65) (by decide) rfl r16 (by decide) rfl dX12_worthOf_64 rfl ?_
      refine z_aload_n (pc' := 66) 0 rfl rfl dX12_worthOf_65 rfl ?_
      refine z_getR (t := 8) (pc' := 69) g_X12_31 (by decide) rfl rfl dX12_worthOf_66 rfl ?_
      refine z_iload_n (pc' := 70) 2 rfl rfl dX12_worthOf_69 rfl ?_
      refine z_iald2 (v := (A_M_worthOf_6 w a0 i11) 8 (((140 * a0) + (i11 : Int)).toNat)) (pc' := 71) (by decide) rfl r16 (by decide) rfl dX12_worthOf_70 rfl ?_
      refine z_invV (as := [zI a0, zI ((A_M_worthOf_6 w a0 i11) 7 (((140 * a0) + (i11 : Int)).toNat)), zI ((A_M_worthOf_6 w a0 i11) 8 (((140 * a0) + (i11 : Int)).toNat))]) (st := []) (C := m_X12_workOut) (fs := [0, 3, 0, 0, 0, 0, 4, 5, 6, 7, 8, 9, 10, 0, 0, 11, 12, 13, 14, 15, 16, 0, 0, 0, 17, 18, 19, 20, 0, 0, 0, 21, 22, 0, 0, 23, 0, 1, 24, 0, 0, 25, 26, 0, 27, 0]) (pc' := 74) dX12_worthOf_71 rfl t_7_167 k_X12_workOut rfl (by decide) rfl rfl rfl rfl (Nat.le_of_ble_eq_true rfl) ?_
      have r19 := h
      refine c_M_workOut r19 ?_
      show z_Wp m_X12_worthOf _ 74 [(0, zR 0), (1, zI a0), (2, zI ((140 * a0) + (i11 : Int)))] [zI ((F_M_workOut (A_M_worthOf_6 w a0 i11) a0 ((A_M_worthOf_6 w a0 i11) 7 (((140 * a0) + (i11 : Int)).toNat)) ((A_M_worthOf_6 w a0 i11) 8 (((140 * a0) + (i11 : Int)).toNat))).1)] ((F_M_workOut (A_M_worthOf_6 w a0 i11) a0 ((A_M_worthOf_6 w a0 i11) 7 (((140 * a0) + (i11 : Int)).toNat)) ((A_M_worthOf_6 w a0 i11) 8 (((140 * a0) + (i11 : Int)).toNat))).2) _
      refine z_iret rfl dX12_worthOf_74 ?_
      have hz := zfind_hit hf hE _ hi
      rw [hz, if_neg (by omega), Int.toNat_natCast] at k
      unfold R_M_worthOf_6 at k
      rw [if_pos c59] at k
      exact k
    · have h := h.2 c59
      rw [if_neg c59] at ih
      rw [if_neg c59] at hE
      refine z_aload_n (pc' := 38) 0 rfl rfl dX12_worthOf_37 rfl ?_
      refine z_iload_n (pc' := 39) 1 rfl rfl dX12_worthOf_38 rfl ?_
      refine z_aload_n (pc' := 40) 0 rfl rfl dX12_worthOf_39 rfl ?_
      refine z_getR (t := 6) (pc' := 43) g_X12_25 (by decide) rfl rfl dX12_worthOf_40 rfl ?_
      refine z_iload_n (pc' := 44) 2 rfl rfl dX12_worthOf_43 rfl ?_
      refine z_iald2 (v := (A_M_worthOf_6 w a0 i11) 6 (((140 * a0) + (i11 : Int)).toNat)) (pc' := 45) (by decide) rfl r16 (by decide) rfl dX12_worthOf_44 rfl ?_
      refine z_aload_n (pc' := 46) 0 rfl rfl dX12_worthOf_45 rfl ?_
      refine z_getR (t := 7) (pc' := 49) g_X12_28 (by decide) rfl rfl dX12_worthOf_46 rfl ?_
      refine z_iload_n (pc' := 50) 2 rfl rfl dX12_worthOf_49 rfl ?_
      refine z_iald2 (v := (A_M_worthOf_6 w a0 i11) 7 (((140 * a0) + (i11 : Int)).toNat)) (pc' := 51) (by decide) rfl r16 (by decide) rfl dX12_worthOf_50 rfl ?_
      refine z_invV (as := [zI a0, zI ((A_M_worthOf_6 w a0 i11) 6 (((140 * a0) + (i11 : Int)).toNat)), zI ((A_M_worthOf_6 w a0 i11) 7 (((140 * a0) + (i11 : Int)).toNat))]) (st := []) (C := m_X12_workOut) (fs := [0, 3, 0, 0, 0, 0, 4, 5, 6, 7, 8, 9, 10, 0, 0, 11, 12, 13, 14, 15, 16, 0, 0, 0, 17, 18, 19, 20, 0, 0, 0, 21, 22, 0, 0, 23, 0, 1, 24, 0, 0, 25, 26, 0, 27, 0]) (pc' := 54) dX12_worthOf_51 rfl t_7_167 k_X12_workOut rfl (by decide) rfl rfl rfl rfl (Nat.le_of_ble_eq_true rfl) ?_
      obtain ⟨r20, h⟩ := h
      refine c_M_workOut r20 ?_
      show z_Wp m_X12_worthOf _ 54 [(0, zR 0), (1, zI a0), (2, zI ((140 * a0) + (i11 : Int)))] [zI ((F_M_workOut (A_M_worthOf_6 w a0 i11) a0 ((A_M_worthOf_6 w a0 i11) 6 (((140 * a0) + (i11 : Int)).toNat)) ((A_M_worthOf_6 w a0 i11) 7 (((140 * a0) + (i11 : Int)).toNat))).1)] ((F_M_workOut (A_M_worthOf_6 w a0 i11) a0 ((A_M_worthOf_6 w a0 i11) 6 (((140 * a0) + (i11 : Int)).toNat)) ((A_M_worthOf_6 w a0 i11) 7 (((140 * a0) + (i11 : Int)).toNat))).2) _
      obtain ⟨r21, h⟩ := h
      refine z_if_eq 75 dX12_worthOf_54 (by decide) (pc' := 57) rfl r21 (fun c60 => ?_) (fun c60 => ?_)
      · have h := h.1 c60
        rw [if_pos c60] at ih
        rw [if_pos c60] at hE
        refine z_iinc (pc' := 78) (ls' := [(0, zR 0), (1, zI a0), (2, zI (((140 * a0) + (i11 : Int)) + 1))]) 2 rfl (by decide) rfl rfl dX12_worthOf_75 rfl ?_
        refine z_goto 6 dX12_worthOf_78 (by decide) ?_
        exact (z_lcast (by rw [z_ci]) (ih (zfind_miss hf (by rw [hE]; decide))))
      · have h := h.2 c60
        rw [if_neg c60] at ih
        rw [if_neg c60] at hE
        refine z_aload_n (pc' := 58) 0 rfl rfl dX12_worthOf_57 rfl ?_
        refine z_iload_n (pc' := 59) 1 rfl rfl dX12_worthOf_58 rfl ?_
        refine z_aload_n (pc' := 60) 0 rfl rfl dX12_worthOf_59 rfl ?_
        refine z_getR (t := 7) (pc' := 63) g_X12_28 (by decide) rfl rfl dX12_worthOf_60 rfl ?_
        refine z_iload_n (pc' := 64) 2 rfl rfl dX12_worthOf_63 rfl ?_
        refine z_iald2 (v := ((F_M_workOut (A_M_worthOf_6 w a0 i11) a0 ((A_M_worthOf_6 w a0 i11) 6 (((140 * a0) + (i11 : Int)).toNat)) ((A_M_worthOf_6 w a0 i11) 7 (((140 * a0) + (i11 : Int)).toNat))).2) 7 (((140 * a0) + (i11 : Int)).toNat)) (pc' := 65) (by decide) rfl r16 (by decide) rfl dX12_worthOf_64 rfl ?_
        refine z_aload_n (pc' := 66) 0 rfl rfl dX12_worthOf_65 rfl ?_
        refine z_getR (t := 8) (pc' := 69) g_X12_31 (by decide) rfl rfl dX12_worthOf_66 rfl ?_
        refine z_iload_n (pc' := 70) 2 rfl rfl dX12_worthOf_69 rfl ?_
        refine z_iald2 (v := ((F_M_workOut (A_M_worthOf_6 w a0 i11) a0 ((A_M_worthOf_6 w a0 i11) 6 (((140 * a0) + (i11 : Int)).toNat)) ((A_M_worthOf_6 w a0 i11) 7 (((140 * a0) + (i11 : Int)).toNat))).2) 8 (((140 * a0) + (i11 : Int)).toNat)) (pc' := 71) (by decide) rfl r16 (by decide) rfl dX12_worthOf_70 rfl ?_
        refine z_invV (as := [zI a0, zI (((F_M_workOut (A_M_worthOf_6 w a0 i11) a0 ((A_M_worthOf_6 w a0 i11) 6 (((140 * a0) + (i11 : Int)).toNat)) ((A_M_worthOf_6 w a0 i11) 7 (((140 * a0) + (i11 : Int)).toNat))).2) 7 (((140 * a0) + (i11 : Int)).toNat)), zI (((F_M_workOut (A_M_worthOf_6 w a0 i11) a0 ((A_M_worthOf_6 w a0 i11) 6 (((140 * a0) + (i11 : Int)).toNat)) ((A_M_worthOf_6 w a0 i11) 7 (((140 * a0) + (i11 : Int)).toNat))).2) 8 (((140 * a0) + (i11 : Int)).toNat))]) (st := []) (C := m_X12_workOut) (fs := [0, 3, 0, 0, 0, 0, 4, 5, 6, 7, 8, 9, 10, 0, 0, 11, 12, 13, 14, 15, 16, 0, 0, 0, 17, 18, 19, 20, 0, 0, 0, 21, 22, 0, 0, 23, 0, 1, 24, 0, 0, 25, 26, 0, 27, 0]) (pc' := 74) dX12_worthOf_71 rfl t_7_167 k_X12_workOut rfl (by decide) rfl rfl rfl rfl (Nat.le_of_ble_eq_true rfl) ?_
        have r22 := h
        refine c_M_workOut r22 ?_
        show z_Wp m_X12_worthOf _ 74 [(0, zR 0), (1, zI a0), (2, zI ((140 * a0) + (i11 : Int)))] [zI ((F_M_workOut ((F_M_workOut (A_M_worthOf_6 w a0 i11) a0 ((A_M_worthOf_6 w a0 i11) 6 (((140 * a0) + (i11 : Int)).toNat)) ((A_M_worthOf_6 w a0 i11) 7 (((140 * a0) + (i11 : Int)).toNat))).2) a0 (((F_M_workOut (A_M_worthOf_6 w a0 i11) a0 ((A_M_worthOf_6 w a0 i11) 6 (((140 * a0) + (i11 : Int)).toNat)) ((A_M_worthOf_6 w a0 i11) 7 (((140 * a0) + (i11 : Int)).toNat))).2) 7 (((140 * a0) + (i11 : Int)).toNat)) (((F_M_workOut (A_M_worthOf_6 w a0 i11) a0 ((A_M_worthOf_6 w a0 i11) 6 (((140 * a0) + (i11 : Int)).toNat)) ((A_M_worthOf_6 w a0 i11) 7 (((140 * a0) + (i11 : Int)).toNat))).2) 8 (((140 * a0) + (i11 : Int)).toNat))).1)] ((F_M_workOut ((F_M_workOut (A_M_worthOf_6 w a0 i11) a0 ((A_M_worthOf_6 w a0 i11) 6 (((140 * a0) + (i11 : Int)).toNat)) ((A_M_worthOf_6 w a0 i11) 7 (((140 * a0) + (i11 : Int)).toNat))).2) a0 (((F_M_workOut (A_M_worthOf_6 w a0 i11) a0 ((A_M_worthOf_6 w a0 i11) 6 (((140 * a0) + (i11 : Int)).toNat)) ((A_M_worthOf_6 w a0 i11) 7 (((140 * a0) + (i11 : Int)).toNat))).2) 7 (((140 * a0) + (i11 : Int)).toNat)) (((F_M_workOut (A_M_worthOf_6 w a0 i11) a0 ((A_M_worthOf_6 w a0 i11) 6 (((140 * a0) + (i11 : Int)).toNat)) ((A_M_worthOf_6 w a0 i11) 7 (((140 * a0) + (i11 : Int)).toNat))).2) 8 (((140 * a0) + (i11 : Int)).toNat))).2) _
        refine z_iret rfl dX12_worthOf_74 ?_
        have hz := zfind_hit hf hE _ hi
        rw [hz, if_neg (by omega), Int.toNat_natCast] at k
        unfold R_M_worthOf_6 at k
        rw [if_neg c59] at k
        rw [if_neg c60] at k
        exact k
def P_M_missedOf (w : z_Wd) (a0 : Int) : Prop := (0 ≤ (3 * a0) + 0 ∧ (3 * a0) + 0 < 21) ∧ ((P_M_knownBy w a0) ∧ (P_M_drowned w)) ∧ (-2147483648 ≤ w 0 33 ∧ w 0 33 < 2147483648) ∧ ((w 0 33 = (-1) → (P_J_min_7cf53 w 30 ((w 17 ((3 * a0).toNat)) + (2 * (F_J_bitCount_0f7a4 w (zz_and (F_M_knownBy w a0) (zz_xor (F_M_drowned w) (-1))))))) ∧ (P_J_max_7cf53 w 0 (F_J_min_7cf53 w 30 ((w 17 ((3 * a0).toNat)) + (2 * (F_J_bitCount_0f7a4 w (zz_and (F_M_knownBy w a0) (zz_xor (F_M_drowned w) (-1))))))))) ∧ (¬ (w 0 33 = (-1)) → ((P_M_knownBy (z_up w 9 0 (w 17 ((3 * a0).toNat))) a0) ∧ (P_M_drowned (z_up w 9 0 (w 17 ((3 * a0).toNat))))) ∧ (P_M_aboveOf (z_up (z_up w 9 0 (w 17 ((3 * a0).toNat))) 9 1 (F_J_bitCount_0f7a4 (z_up w 9 0 (w 17 ((3 * a0).toNat))) (zz_and (F_M_knownBy (z_up w 9 0 (w 17 ((3 * a0).toNat))) a0) (zz_xor (F_M_drowned (z_up w 9 0 (w 17 ((3 * a0).toNat)))) (-1))))) a0) ∧ (0 ≤ (3 * a0) + 2 ∧ (3 * a0) + 2 < 21) ∧ (P_M_isFree (z_up (z_up (z_up (z_up w 9 0 (w 17 ((3 * a0).toNat))) 9 1 (F_J_bitCount_0f7a4 (z_up w 9 0 (w 17 ((3 * a0).toNat))) (zz_and (F_M_knownBy (z_up w 9 0 (w 17 ((3 * a0).toNat))) a0) (zz_xor (F_M_drowned (z_up w 9 0 (w 17 ((3 * a0).toNat)))) (-1))))) 9 2 (F_M_aboveOf (z_up (z_up w 9 0 (w 17 ((3 * a0).toNat))) 9 1 (F_J_bitCount_0f7a4 (z_up w 9 0 (w 17 ((3 * a0).toNat))) (zz_and (F_M_knownBy (z_up w 9 0 (w 17 ((3 * a0).toNat))) a0) (zz_xor (F_M_drowned (z_up w 9 0 (w 17 ((3 * a0).toNat)))) (-1))))) a0)) 9 3 (w 17 (((3 * a0) + 2).toNat))) a0) ∧ ((F_M_isFree (z_up (z_up (z_up (z_up w 9 0 (w 17 ((3 * a0).toNat))) 9 1 (F_J_bitCount_0f7a4 (z_up w 9 0 (w 17 ((3 * a0).toNat))) (zz_and (F_M_knownBy (z_up w 9 0 (w 17 ((3 * a0).toNat))) a0) (zz_xor (F_M_drowned (z_up w 9 0 (w 17 ((3 * a0).toNat)))) (-1))))) 9 2 (F_M_aboveOf (z_up (z_up w 9 0 (w 17 ((3 * a0).toNat))) 9 1 (F_J_bitCount_0f7a4 (z_up w 9 0 (w 17 ((3 * a0).toNat))) (zz_and (F_M_knownBy (z_up w 9 0 (w 17 ((3 * a0).toNat))) a0) (zz_xor (F_M_drowned (z_up w 9 0 (w 17 ((3 * a0).toNat)))) (-1))))) a0)) 9 3 (w 17 (((3 * a0) + 2).toNat))) a0 = 0 → (P_M_wellOf (z_up (z_up (z_up (z_up w 9 0 (w 17 ((3 * a0).toNat))) 9 1 (F_J_bitCount_0f7a4 (z_up w 9 0 (w 17 ((3 * a0).toNat))) (zz_and (F_M_knownBy (z_up w 9 0 (w 17 ((3 * a0).toNat))) a0) (zz_xor (F_M_drowned (z_up w 9 0 (w 17 ((3 * a0).toNat)))) (-1))))) 9 2 (F_M_aboveOf (z_up (z_up w 9 0 (w 17 ((3 * a0).toNat))) 9 1 (F_J_bitCount_0f7a4 (z_up w 9 0 (w 17 ((3 * a0).toNat))) (zz_and (F_M_knownBy (z_up w 9 0 (w 17 ((3 * a0).toNat))) a0) (zz_xor (F_M_drowned (z_up w 9 0 (w 17 ((3 * a0).toNat)))) (-1))))) a0)) 9 3 (w 17 (((3 * a0) + 2).toNat))) a0) ∧ (P_M_worthOf (z_up (z_up (z_up (z_up (z_up (z_up w 9 0 (w 17 ((3 * a0).toNat))) 9 1 (F_J_bitCount_0f7a4 (z_up w 9 0 (w 17 ((3 * a0).toNat))) (zz_and (F_M_knownBy (z_up w 9 0 (w 17 ((3 * a0).toNat))) a0) (zz_xor (F_M_drowned (z_up w 9 0 (w 17 ((3 * a0).toNat)))) (-1))))) 9 2 (F_M_aboveOf (z_up (z_up w 9 0 (w 17 ((3 * a0).toNat))) 9 1 (F_J_bitCount_0f7a4 (z_up w 9 0 (w 17 ((3 * a0).toNat))) (zz_and (F_M_knownBy (z_up w 9 0 (w 17 ((3 * a0).toNat))) a0) (zz_xor (F_M_drowned (z_up w 9 0 (w 17 ((3 * a0).toNat)))) (-1))))) a0)) 9 3 (w 17 (((3 * a0) + 2).toNat))) 9 4 (F_M_wellOf (z_up (z_up (z_up (z_up w 9 0 (w 17 ((3 * a0).toNat))) 9 1 (F_J_bitCount_0f7a4 (z_up w 9 0 (w 17 ((3 * a0).toNat))) (zz_and (F_M_knownBy (z_up w 9 0 (w 17 ((3 * a0).toNat))) a0) (zz_xor (F_M_drowned (z_up w 9 0 (w 17 ((3 * a0).toNat)))) (-1))))) 9 2 (F_M_aboveOf (z_up (z_up w 9 0 (w 17 ((3 * a0).toNat))) 9 1 (F_J_bitCount_0f7a4 (z_up w 9 0 (w 17 ((3 * a0).toNat))) (zz_and (F_M_knownBy (z_up w 9 0 (w 17 ((3 * a0).toNat))) a0) (zz_xor (F_M_drowned (z_up w 9 0 (w 17 ((3 * a0).toNat)))) (-1))))) a0)) 9 3 (w 17 (((3 * a0) + 2).toNat))) a0)) 9 5 (w 19 38)) (w 0 33)) ∧ (P_J_min_7cf53 ((F_M_worthOf (z_up (z_up (z_up (z_up (z_up (z_up w 9 0 (w 17 ((3 * a0).toNat))) 9 1 (F_J_bitCount_0f7a4 (z_up w 9 0 (w 17 ((3 * a0).toNat))) (zz_and (F_M_knownBy (z_up w 9 0 (w 17 ((3 * a0).toNat))) a0) (zz_xor (F_M_drowned (z_up w 9 0 (w 17 ((3 * a0).toNat)))) (-1))))) 9 2 (F_M_aboveOf (z_up (z_up w 9 0 (w 17 ((3 * a0).toNat))) 9 1 (F_J_bitCount_0f7a4 (z_up w 9 0 (w 17 ((3 * a0).toNat))) (zz_and (F_M_knownBy (z_up w 9 0 (w 17 ((3 * a0).toNat))) a0) (zz_xor (F_M_drowned (z_up w 9 0 (w 17 ((3 * a0).toNat)))) (-1))))) a0)) 9 3 (w 17 (((3 * a0) + 2).toNat))) 9 4 (F_M_wellOf (z_up (z_up (z_up (z_up w 9 0 (w 17 ((3 * a0).toNat))) 9 1 (F_J_bitCount_0f7a4 (z_up w 9 0 (w 17 ((3 * a0).toNat))) (zz_and (F_M_knownBy (z_up w 9 0 (w 17 ((3 * a0).toNat))) a0) (zz_xor (F_M_drowned (z_up w 9 0 (w 17 ((3 * a0).toNat)))) (-1))))) 9 2 (F_M_aboveOf (z_up (z_up w 9 0 (w 17 ((3 * a0).toNat))) 9 1 (F_J_bitCount_0f7a4 (z_up w 9 0 (w 17 ((3 * a0).toNat))) (zz_and (F_M_knownBy (z_up w 9 0 (w 17 ((3 * a0).toNat))) a0) (zz_xor (F_M_drowned (z_up w 9 0 (w 17 ((3 * a0).toNat)))) (-1))))) a0)) 9 3 (w 17 (((3 * a0) + 2).toNat))) a0)) 9 5 (w 19 38)) (w 0 33)).2) 30 ((F_M_worthOf (z_up (z_up (z_up (z_up (z_up (z_up w 9 0 (w 17 ((3 * a0).toNat))) 9 1 (F_J_bitCount_0f7a4 (z_up w 9 0 (w 17 ((3 * a0).toNat))) (zz_and (F_M_knownBy (z_up w 9 0 (w 17 ((3 * a0).toNat))) a0) (zz_xor (F_M_drowned (z_up w 9 0 (w 17 ((3 * a0).toNat)))) (-1))))) 9 2 (F_M_aboveOf (z_up (z_up w 9 0 (w 17 ((3 * a0).toNat))) 9 1 (F_J_bitCount_0f7a4 (z_up w 9 0 (w 17 ((3 * a0).toNat))) (zz_and (F_M_knownBy (z_up w 9 0 (w 17 ((3 * a0).toNat))) a0) (zz_xor (F_M_drowned (z_up w 9 0 (w 17 ((3 * a0).toNat)))) (-1))))) a0)) 9 3 (w 17 (((3 * a0) + 2).toNat))) 9 4 (F_M_wellOf (z_up (z_up (z_up (z_up w 9 0 (w 17 ((3 * a0).toNat))) 9 1 (F_J_bitCount_0f7a4 (z_up w 9 0 (w 17 ((3 * a0).toNat))) (zz_and (F_M_knownBy (z_up w 9 0 (w 17 ((3 * a0).toNat))) a0) (zz_xor (F_M_drowned (z_up w 9 0 (w 17 ((3 * a0).toNat)))) (-1))))) 9 2 (F_M_aboveOf (z_up (z_up w 9 0 (w 17 ((3 * a0).toNat))) 9 1 (F_J_bitCount_0f7a4 (z_up w 9 0 (w 17 ((3 * a0).toNat))) (zz_and (F_M_knownBy (z_up w 9 0 (w 17 ((3 * a0).toNat))) a0) (zz_xor (F_M_drowned (z_up w 9 0 (w 17 ((3 * a0).toNat)))) (-1))))) a0)) 9 3 (w 17 (((3 * a0) + 2).toNat))) a0)) 9 5 (w 19 38)) (w 0 33)).1)) ∧ (P_J_max_7cf53 ((F_M_worthOf (z_up (z_up (z_up (z_up (z_up (z_up w 9 0 (w 17 ((3 * a0).toNat))) 9 1 (F_J_bitCount_0f7a4 (z_up w 9 0 (w 17 ((3 * a0).toNat))) (zz_and (F_M_knownBy (z_up w 9 0 (w 17 ((3 * a0).toNat))) a0) (zz_xor (F_M_drowned (z_up w 9 0 (w 17 ((3 * a0).toNat)))) (-1))))) 9 2 (F_M_aboveOf (z_up (z_up w 9 0 (w 17 ((3 * a0).toNat))) 9 1 (F_J_bitCount_0f7a4 (z_up w 9 0 (w 17 ((3 * a0).toNat))) (zz_and (F_M_knownBy (z_up w 9 0 (w 17 ((3 * a0).toNat))) a0) (zz_xor (F_M_drowned (z_up w 9 0 (w 17 ((3 * a0).toNat)))) (-1))))) a0)) 9 3 (w 17 (((3 * a0) + 2).toNat))) 9 4 (F_M_wellOf (z_up (z_up (z_up (z_up w 9 0 (w 17 ((3 * a0).toNat))) 9 1 (F_J_bitCount_0f7a4 (z_up w 9 0 (w 17 ((3 * a0).toNat))) (zz_and (F_M_knownBy (z_up w 9 0 (w 17 ((3 * a0).toNat))) a0) (zz_xor (F_M_drowned (z_up w 9 0 (w 17 ((3 * a0).toNat)))) (-1))))) 9 2 (F_M_aboveOf (z_up (z_up w 9 0 (w 17 ((3 * a0).toNat))) 9 1 (F_J_bitCount_0f7a4 (z_up w 9 0 (w 17 ((3 * a0).toNat))) (zz_and (F_M_knownBy (z_up w 9 0 (w 17 ((3 * a0).toNat))) a0) (zz_xor (F_M_drowned (z_up w 9 0 (w 17 ((3 * a0).toNat)))) (-1))))) a0)) 9 3 (w 17 (((3 * a0) + 2).toNat))) a0)) 9 5 (w 19 38)) (w 0 33)).2) 0 (F_J_min_7cf53 ((F_M_worthOf (z_up (z_up (z_up (z_up (z_up (z_up w 9 0 (w 17 ((3 * a0).toNat))) 9 1 (F_J_bitCount_0f7a4 (z_up w 9 0 (w 17 ((3 * a0).toNat))) (zz_and (F_M_knownBy (z_up w 9 0 (w 17 ((3 * a0).toNat))) a0) (zz_xor (F_M_drowned (z_up w 9 0 (w 17 ((3 * a0).toNat)))) (-1))))) 9 2 (F_M_aboveOf (z_up (z_up w 9 0 (w 17 ((3 * a0).toNat))) 9 1 (F_J_bitCount_0f7a4 (z_up w 9 0 (w 17 ((3 * a0).toNat))) (zz_and (F_M_knownBy (z_up w 9 0 (w 17 ((3 * a0).toNat))) a0) (zz_xor (F_M_drowned (z_up w 9 0 (w 17 ((3 * a0).toNat)))) (-1))))) a0)) 9 3 (w 17 (((3 * a0) + 2).toNat))) 9 4 (F_M_wellOf (z_up (z_up (z_up (z_up w 9 0 (w 17 ((3 * a0).toNat))) 9 1 (F_J_bitCount_0f7a4 (z_up w 9 0 (w 17 ((3 * a0).toNat))) (zz_and (F_M_knownBy (z_up w 9 0 (w 17 ((3 * a0).toNat))) a0) (zz_xor (F_M_drowned (z_up w 9 0 (w 17 ((3 * a0).toNat)))) (-1))))) 9 2 (F_M_aboveOf (z_up (z_up w 9 0 (w 17 ((3 * a0).toNat))) 9 1 (F_J_bitCount_0f7a4 (z_up w 9 0 (w 17 ((3 * a0).toNat))) (zz_and (F_M_knownBy (z_up w 9 0 (w 17 ((3 * a0).toNat))) a0) (zz_xor (F_M_drowned (z_up w 9 0 (w 17 ((3 * a0).toNat)))) (-1))))) a0)) 9 3 (w 17 (((3 * a0) + 2).toNat))) a0)) 9 5 (w 19 38)) (w 0 33)).2) 30 ((F_M_worthOf (z_up (z_up (z_up (z_up (z_up (z_up w 9 0 (w 17 ((3 * a0).toNat))) 9 1 (F_J_bitCount_0f7a4 (z_up w 9 0 (w 17 ((3 * a0).toNat))) (zz_and (F_M_knownBy (z_up w 9 0 (w 17 ((3 * a0).toNat))) a0) (zz_xor (F_M_drowned (z_up w 9 0 (w 17 ((3 * a0).toNat)))) (-1))))) 9 2 (F_M_aboveOf (z_up (z_up w 9 0 (w 17 ((3 * a0).toNat))) 9 1 (F_J_bitCount_0f7a4 (z_up w 9 0 (w 17 ((3 * a0).toNat))) (zz_and (F_M_knownBy (z_up w 9 0 (w 17 ((3 * a0).toNat))) a0) (zz_xor (F_M_drowned (z_up w 9 0 (w 17 ((3 * a0).toNat)))) (-1))))) a0)) 9 3 (w 17 (((3 * a0) + 2).toNat))) 9 4 (F_M_wellOf (z_up (z_up (z_up (z_up w 9 0 (w 17 ((3 * a0).toNat))) 9 1 (F_J_bitCount_0f7a4 (z_up w 9 0 (w 17 ((3 * a0).toNat))) (zz_and (F_M_knownBy (z_up w 9 0 (w 17 ((3 * a0).toNat))) a0) (zz_xor (F_M_drowned (z_up w 9 0 (w 17 ((3 * a0).toNat)))) (-1))))) 9 2 (F_M_aboveOf (z_up (z_up w 9 0 (w 17 ((3 * a0).toNat))) 9 1 (F_J_bitCount_0f7a4 (z_up w 9 0 (w 17 ((3 * a0).toNat))) (zz_and (F_M_knownBy (z_up w 9 0 (w 17 ((3 * a0).toNat))) a0) (zz_xor (F_M_drowned (z_up w 9 0 (w 17 ((3 * a0).toNat)))) (-1))))) a0)) 9 3 (w 17 (((3 * a0) + 2).toNat))) a0)) 9 5 (w 19 38)) (w 0 33)).1)))) ∧ (¬ (F_M_isFree (z_up (z_up (z_up (z_up w 9 0 (w 17 ((3 * a0).toNat))) 9 1 (F_J_bitCount_0f7a4 (z_up w 9 0 (w 17 ((3 * a0).toNat))) (zz_and (F_M_knownBy (z_up w 9 0 (w 17 ((3 * a0).toNat))) a0) (zz_xor (F_M_drowned (z_up w 9 0 (w 17 ((3 * a0).toNat)))) (-1))))) 9 2 (F_M_aboveOf (z_up (z_up w 9 0 (w 17 ((3 * a0).toNat))) 9 1 (F_J_bitCount_0f7a4 (z_up w 9 0 (w 17 ((3 * a0).toNat))) (zz_and (F_M_knownBy (z_up w 9 0 (w 17 ((3 * a0).toNat))) a0) (zz_xor (F_M_drowned (z_up w 9 0 (w 17 ((3 * a0).toNat)))) (-1))))) a0)) 9 3 (w 17 (((3 * a0) + 2).toNat))) a0 = 0) → (P_M_worthOf (z_up (z_up (z_up (z_up (z_up (z_up w 9 0 (w 17 ((3 * a0).toNat))) 9 1 (F_J_bitCount_0f7a4 (z_up w 9 0 (w 17 ((3 * a0).toNat))) (zz_and (F_M_knownBy (z_up w 9 0 (w 17 ((3 * a0).toNat))) a0) (zz_xor (F_M_drowned (z_up w 9 0 (w 17 ((3 * a0).toNat)))) (-1))))) 9 2 (F_M_aboveOf (z_up (z_up w 9 0 (w 17 ((3 * a0).toNat))) 9 1 (F_J_bitCount_0f7a4 (z_up w 9 0 (w 17 ((3 * a0).toNat))) (zz_and (F_M_knownBy (z_up w 9 0 (w 17 ((3 * a0).toNat))) a0) (zz_xor (F_M_drowned (z_up w 9 0 (w 17 ((3 * a0).toNat)))) (-1))))) a0)) 9 3 (w 17 (((3 * a0) + 2).toNat))) 9 4 (w 0 28)) 9 5 (w 19 38)) (w 0 33)) ∧ (P_J_min_7cf53 ((F_M_worthOf (z_up (z_up (z_up (z_up (z_up (z_up w 9 0 (w 17 ((3 * a0).toNat))) 9 1 (F_J_bitCount_0f7a4 (z_up w 9 0 (w 17 ((3 * a0).toNat))) (zz_and (F_M_knownBy (z_up w 9 0 (w 17 ((3 * a0).toNat))) a0) (zz_xor (F_M_drowned (z_up w 9 0 (w 17 ((3 * a0).toNat)))) (-1))))) 9 2 (F_M_aboveOf (z_up (z_up w 9 0 (w 17 ((3 * a0).toNat))) 9 1 (F_J_bitCount_0f7a4 (z_up w 9 0 (w 17 ((3 * a0).toNat))) (zz_and (F_M_knownBy (z_up w 9 0 (w 17 ((3 * a0).toNat))) a0) (zz_xor (F_M_drowned (z_up w 9 0 (w 17 ((3 * a0).toNat)))) (-1))))) a0)) 9 3 (w 17 (((3 * a0) + 2).toNat))) 9 4 (w 0 28)) 9 5 (w 19 38)) (w 0 33)).2) 30 ((F_M_worthOf (z_up (z_up (z_up (z_up (z_up (z_up w 9 0 (w 17 ((3 * a0).toNat))) 9 1 (F_J_bitCount_0f7a4 (z_up w 9 0 (w 17 ((3 * a0).toNat))) (zz_and (F_M_knownBy (z_up w 9 0 (w 17 ((3 * a0).toNat))) a0) (zz_xor (F_M_drowned (z_up w 9 0 (w 17 ((3 * a0).toNat)))) (-1))))) 9 2 (F_M_aboveOf (z_up (z_up w 9 0 (w 17 ((3 * a0).toNat))) 9 1 (F_J_bitCount_0f7a4 (z_up w 9 0 (w 17 ((3 * a0).toNat))) (zz_and (F_M_knownBy (z_up w 9 0 (w 17 ((3 * a0).toNat))) a0) (zz_xor (F_M_drowned (z_up w 9 0 (w 17 ((3 * a0).toNat)))) (-1))))) a0)) 9 3 (w 17 (((3 * a0) + 2).toNat))) 9 4 (w 0 28)) 9 5 (w 19 38)) (w 0 33)).1)) ∧ (P_J_max_7cf53 ((F_M_worthOf (z_up (z_up (z_up (z_up (z_up (z_up w 9 0 (w 17 ((3 * a0).toNat))) 9 1 (F_J_bitCount_0f7a4 (z_up w 9 0 (w 17 ((3 * a0).toNat))) (zz_and (F_M_knownBy (z_up w 9 0 (w 17 ((3 * a0).toNat))) a0) (zz_xor (F_M_drowned (z_up w 9 0 (w 17 ((3 * a0).toNat)))) (-1))))) 9 2 (F_M_aboveOf (z_up (z_up w 9 0 (w 17 ((3 * a0).toNat))) 9 1 (F_J_bitCount_0f7a4 (z_up w 9 0 (w 17 ((3 * a0).toNat))) (zz_and (F_M_knownBy (z_up w 9 0 (w 17 ((3 * a0).toNat))) a0) (zz_xor (F_M_drowned (z_up w 9 0 (w 17 ((3 * a0).toNat)))) (-1))))) a0)) 9 3 (w 17 (((3 * a0) + 2).toNat))) 9 4 (w 0 28)) 9 5 (w 19 38)) (w 0 33)).2) 0 (F_J_min_7cf53 ((F_M_worthOf (z_up (z_up (z_up (z_up (z_up (z_up w 9 0 (w 17 ((3 * a0).toNat))) 9 1 (F_J_bitCount_0f7a4 (z_up w 9 0 (w 17 ((3 * a0).toNat))) (zz_and (F_M_knownBy (z_up w 9 0 (w 17 ((3 * a0).toNat))) a0) (zz_xor (F_M_drowned (z_up w 9 0 (w 17 ((3 * a0).toNat)))) (-1))))) 9 2 (F_M_aboveOf (z_up (z_up w 9 0 (w 17 ((3 * a0).toNat))) 9 1 (F_J_bitCount_0f7a4 (z_up w 9 0 (w 17 ((3 * a0).toNat))) (zz_and (F_M_knownBy (z_up w 9 0 (w 17 ((3 * a0).toNat))) a0) (zz_xor (F_M_drowned (z_up w 9 0 (w 17 ((3 * a0).toNat)))) (-1))))) a0)) 9 3 (w 17 (((3 * a0) + 2).toNat))) 9 4 (w 0 28)) 9 5 (w 19 38)) (w 0 33)).2) 30 ((F_M_worthOf (z_up (z_up (z_up (z_up (z_up (z_up w 9 0 (w 17 ((3 * a0).toNat))) 9 1 (F_J_bitCount_0f7a4 (z_up w 9 0 (w 17 ((3 * a0).toNat))) (zz_and (F_M_knownBy (z_up w 9 0 (w 17 ((3 * a0).toNat))) a0) (zz_xor (F_M_drowned (z_up w 9 0 (w 17 ((3 * a0).toNat)))) (-1))))) 9 2 (F_M_aboveOf (z_up (z_up w 9 0 (w 17 ((3 * a0).toNat))) 9 1 (F_J_bitCount_0f7a4 (z_up w 9 0 (w 17 ((3 * a0).toNat))) (zz_and (F_M_knownBy (z_up w 9 0 (w 17 ((3 * a0).toNat))) a0) (zz_xor (F_M_drowned (z_up w 9 0 (w 17 ((3 * a0).toNat)))) (-1))))) a0)) 9 3 (w 17 (((3 * a0) + 2).toNat))) 9 4 (w 0 28)) 9 5 (w 19 38)) (w 0 33)).1)))))))
def F_M_missedOf (w : z_Wd) (a0 : Int) : Int × z_Wd := if w 0 33 = (-1) then (F_J_max_7cf53 w 0 (F_J_min_7cf53 w 30 ((w 17 ((3 * a0).toNat)) + (2 * (F_J_bitCount_0f7a4 w (zz_and (F_M_knownBy w a0) (zz_xor (F_M_drowned w) (-1))))))), w) else if F_M_isFree (z_up (z_up (z_up (z_up w 9 0 (w 17 ((3 * a0).toNat))) 9 1 (F_J_bitCount_0f7a4 (z_up w 9 0 (w 17 ((3 * a0).toNat))) (zz_and (F_M_knownBy (z_up w 9 0 (w 17 ((3 * a0).toNat))) a0) (zz_xor (F_M_drowned (z_up w 9 0 (w 17 ((3 * a0).toNat)))) (-1))))) 9 2 (F_M_aboveOf (z_up (z_up w 9 0 (w 17 ((3 * a0).toNat))) 9 1 (F_J_bitCount_0f7a4 (z_up w 9 0 (w 17 ((3 * a0).toNat))) (zz_and (F_M_knownBy (z_up w 9 0 (w 17 ((3 * a0).toNat))) a0) (zz_xor (F_M_drowned (z_up w 9 0 (w 17 ((3 * a0).toNat)))) (-1))))) a0)) 9 3 (w 17 (((3 * a0) + 2).toNat))) a0 = 0 then (F_J_max_7cf53 ((F_M_worthOf (z_up (z_up (z_up (z_up (z_up (z_up w 9 0 (w 17 ((3 * a0).toNat))) 9 1 (F_J_bitCount_0f7a4 (z_up w 9 0 (w 17 ((3 * a0).toNat))) (zz_and (F_M_knownBy (z_up w 9 0 (w 17 ((3 * a0).toNat))) a0) (zz_xor (F_M_drowned (z_up w 9 0 (w 17 ((3 * a0).toNat)))) (-1))))) 9 2 (F_M_aboveOf (z_up (z_up w 9 0 (w 17 ((3 * a0).toNat))) 9 1 (F_J_bitCount_0f7a4 (z_up w 9 0 (w 17 ((3 * a0).toNat))) (zz_and (F_M_knownBy (z_up w 9 0 (w 17 ((3 * a0).toNat))) a0) (zz_xor (F_M_drowned (z_up w 9 0 (w 17 ((3 * a0).toNat)))) (-1))))) a0)) 9 3 (w 17 (((3 * a0) + 2).toNat))) 9 4 (F_M_wellOf (z_up (z_up (z_up (z_up w 9 0 (w 17 ((3 * a0).toNat))) 9 1 (F_J_bitCount_0f7a4 (z_up w 9 0 (w 17 ((3 * a0).toNat))) (zz_and (F_M_knownBy (z_up w 9 0 (w 17 ((3 * a0).toNat))) a0) (zz_xor (F_M_drowned (z_up w 9 0 (w 17 ((3 * a0).toNat)))) (-1))))) 9 2 (F_M_aboveOf (z_up (z_up w 9 0 (w 17 ((3 * a0).toNat))) 9 1 (F_J_bitCount_0f7a4 (z_up w 9 0 (w 17 ((3 * a0).toNat))) (zz_and (F_M_knownBy (z_up w 9 0 (w 17 ((3 * a0).toNat))) a0) (zz_xor (F_M_drowned (z_up w 9 0 (w 17 ((3 * a0).toNat)))) (-1))))) a0)) 9 3 (w 17 (((3 * a0) + 2).toNat))) a0)) 9 5 (w 19 38)) (w 0 33)).2) 0 (F_J_min_7cf53 ((F_M_worthOf (z_up (z_up (z_up (z_up (z_up (z_up w 9 0 (w 17 ((3 * a0).toNat))) 9 1 (F_J_bitCount_0f7a4 (z_up w 9 0 (w 17 ((3 * a0).toNat))) (zz_and (F_M_knownBy (z_up w 9 0 (w 17 ((3 * a0).toNat))) a0) (zz_xor (F_M_drowned (z_up w 9 0 (w 17 ((3 * a0).toNat)))) (-1))))) 9 2 (F_M_aboveOf (z_up (z_up w 9 0 (w 17 ((3 * a0).toNat))) 9 1 (F_J_bitCount_0f7a4 (z_up w 9 0 (w 17 ((3 * a0).toNat))) (zz_and (F_M_knownBy (z_up w 9 0 (w 17 ((3 * a0).toNat))) a0) (zz_xor (F_M_drowned (z_up w 9 0 (w 17 ((3 * a0).toNat)))) (-1))))) a0)) 9 3 (w 17 (((3 * a0) + 2).toNat))) 9 4 (F_M_wellOf (z_up (z_up (z_up (z_up w 9 0 (w 17 ((3 * a0).toNat))) 9 1 (F_J_bitCount_0f7a4 (z_up w 9 0 (w 17 ((3 * a0).toNat))) (zz_and (F_M_knownBy (z_up w 9 0 (w 17 ((3 * a0).toNat))) a0) (zz_xor (F_M_drowned (z_up w 9 0 (w 17 ((3 * a0).toNat)))) (-1))))) 9 2 (F_M_aboveOf (z_up (z_up w 9 0 (w 17 ((3 * a0).toNat))) 9 1 (F_J_bitCount_0f7a4 (z_up w 9 0 (w 17 ((3 * a0).toNat))) (zz_and (F_M_knownBy (z_up w 9 0 (w 17 ((3 * a0).toNat))) a0) (zz_xor (F_M_drowned (z_up w 9 0 (w 17 ((3 * a0).toNat)))) (-1))))) a0)) 9 3 (w 17 (((3 * a0) + 2).toNat))) a0)) 9 5 (w 19 38)) (w 0 33)).2) 30 ((F_M_worthOf (z_up (z_up (z_up (z_up (z_up (z_up w 9 0 (w 17 ((3 * a0).toNat))) 9 1 (F_J_bitCount_0f7a4 (z_up w 9 0 (w 17 ((3 * a0).toNat))) (zz_and (F_M_knownBy (z_up w 9 0 (w 17 ((3 * a0).toNat))) a0) (zz_xor (F_M_drowned (z_up w 9 0 (w 17 ((3 * a0).toNat)))) (-1))))) 9 2 (F_M_aboveOf (z_up (z_up w 9 0 (w 17 ((3 * a0).toNat))) 9 1 (F_J_bitCount_0f7a4 (z_up w 9 0 (w 17 ((3 * a0).toNat))) (zz_and (F_M_knownBy (z_up w 9 0 (w 17 ((3 * a0).toNat))) a0) (zz_xor (F_M_drowned (z_up w 9 0 (w 17 ((3 * a0).toNat)))) (-1))))) a0)) 9 3 (w 17 (((3 * a0) + 2).toNat))) 9 4 (F_M_wellOf (z_up (z_up (z_up (z_up w 9 0 (w 17 ((3 * a0).toNat))) 9 1 (F_J_bitCount_0f7a4 (z_up w 9 0 (w 17 ((3 * a0).toNat))) (zz_and (F_M_knownBy (z_up w 9 0 (w 17 ((3 * a0).toNat))) a0) (zz_xor (F_M_drowned (z_up w 9 0 (w 17 ((3 * a0).toNat)))) (-1))))) 9 2 (F_M_aboveOf (z_up (z_up w 9 0 (w 17 ((3 * a0).toNat))) 9 1 (F_J_bitCount_0f7a4 (z_up w 9 0 (w 17 ((3 * a0).toNat))) (zz_and (F_M_knownBy (z_up w 9 0 (w 17 ((3 * a0).toNat))) a0) (zz_xor (F_M_drowned (z_up w 9 0 (w 17 ((3 * a0).toNat)))) (-1))))) a0)) 9 3 (w 17 (((3 * a0) + 2).toNat))) a0)) 9 5 (w 19 38)) (w 0 33)).1)), (F_M_worthOf (z_up (z_up (z_up (z_up (z_up (z_up w 9 0 (w 17 ((3 * a0).toNat))) 9 1 (F_J_bitCount_0f7a4 (z_up w 9 0 (w 17 ((3 * a0).toNat))) (zz_and (F_M_knownBy (z_up w 9 0 (w 17 ((3 * a0).toNat))) a0) (zz_xor (F_M_drowned (z_up w 9 0 (w 17 ((3 * a0).toNat)))) (-1))))) 9 2 (F_M_aboveOf (z_up (z_up w 9 0 (w 17 ((3 * a0).toNat))) 9 1 (F_J_bitCount_0f7a4 (z_up w 9 0 (w 17 ((3 * a0).toNat))) (zz_and (F_M_knownBy (z_up w 9 0 (w 17 ((3 * a0).toNat))) a0) (zz_xor (F_M_drowned (z_up w 9 0 (w 17 ((3 * a0).toNat)))) (-1))))) a0)) 9 3 (w 17 (((3 * a0) + 2).toNat))) 9 4 (F_M_wellOf (z_up (z_up (z_up (z_up w 9 0 (w 17 ((3 * a0).toNat))) 9 1 (F_J_bitCount_0f7a4 (z_up w 9 0 (w 17 ((3 * a0).toNat))) (zz_and (F_M_knownBy (z_up w 9 0 (w 17 ((3 * a0).toNat))) a0) (zz_xor (F_M_drowned (z_up w 9 0 (w 17 ((3 * a0).toNat)))) (-1))))) 9 2 (F_M_aboveOf (z_up (z_up w 9 0 (w 17 ((3 * a0).toNat))) 9 1 (F_J_bitCount_0f7a4 (z_up w 9 0 (w 17 ((3 * a0).toNat))) (zz_and (F_M_knownBy (z_up w 9 0 (w 17 ((3 * a0).toNat))) a0) (zz_xor (F_M_drowned (z_up w 9 0 (w 17 ((3 * a0).toNat)))) (-1))))) a0)) 9 3 (w 17 (((3 * a0) + 2).toNat))) a0)) 9 5 (w 19 38)) (w 0 33)).2) else (F_J_max_7cf53 ((F_M_worthOf (z_up (z_up (z_up (z_up (z_up (z_up w 9 0 (w 17 ((3 * a0).toNat))) 9 1 (F_J_bitCount_0f7a4 (z_up w 9 0 (w 17 ((3 * a0).toNat))) (zz_and (F_M_knownBy (z_up w 9 0 (w 17 ((3 * a0).toNat))) a0) (zz_xor (F_M_drowned (z_up w 9 0 (w 17 ((3 * a0).toNat)))) (-1))))) 9 2 (F_M_aboveOf (z_up (z_up w 9 0 (w 17 ((3 * a0).toNat))) 9 1 (F_J_bitCount_0f7a4 (z_up w 9 0 (w 17 ((3 * a0).toNat))) (zz_and (F_M_knownBy (z_up w 9 0 (w 17 ((3 * a0).toNat))) a0) (zz_xor (F_M_drowned (z_up w 9 0 (w 17 ((3 * a0).toNat)))) (-1))))) a0)) 9 3 (w 17 (((3 * a0) + 2).toNat))) 9 4 (w 0 28)) 9 5 (w 19 38)) (w 0 33)).2) 0 (F_J_min_7cf53 ((F_M_worthOf (z_up (z_up (z_up (z_up (z_up (z_up w 9 0 (w 17 ((3 * a0).toNat))) 9 1 (F_J_bitCount_0f7a4 (z_up w 9 0 (w 17 ((3 * a0).toNat))) (zz_and (F_M_knownBy (z_up w 9 0 (w 17 ((3 * a0).toNat))) a0) (zz_xor (F_M_drowned (z_up w 9 0 (w 17 ((3 * a0).toNat)))) (-1))))) 9 2 (F_M_aboveOf (z_up (z_up w 9 0 (w 17 ((3 * a0).toNat))) 9 1 (F_J_bitCount_0f7a4 (z_up w 9 0 (w 17 ((3 * a0).toNat))) (zz_and (F_M_knownBy (z_up w 9 0 (w 17 ((3 * a0).toNat))) a0) (zz_xor (F_M_drowned (z_up w 9 0 (w 17 ((3 * a0).toNat)))) (-1))))) a0)) 9 3 (w 17 (((3 * a0) + 2).toNat))) 9 4 (w 0 28)) 9 5 (w 19 38)) (w 0 33)).2) 30 ((F_M_worthOf (z_up (z_up (z_up (z_up (z_up (z_up w 9 0 (w 17 ((3 * a0).toNat))) 9 1 (F_J_bitCount_0f7a4 (z_up w 9 0 (w 17 ((3 * a0).toNat))) (zz_and (F_M_knownBy (z_up w 9 0 (w 17 ((3 * a0).toNat))) a0) (zz_xor (F_M_drowned (z_up w 9 0 (w 17 ((3 * a0).toNat)))) (-1))))) 9 2 (F_M_aboveOf (z_up (z_up w 9 0 (w 17 ((3 * a0).toNat))) 9 1 (F_J_bitCount_0f7a4 (z_up w 9 0 (w 17 ((3 * a0).toNat))) (zz_and (F_M_knownBy (z_up w 9 0 (w 17 ((3 * a0).toNat))) a0) (zz_xor (F_M_drowned (z_up w 9 0 (w 17 ((3 * a0).toNat)))) (-1))))) a0)) 9 3 (w 17 (((3 * a0) + 2).toNat))) 9 4 (w 0 28)) 9 5 (w 19 38)) (w 0 33)).1)), (F_M_worthOf (z_up (z_up (z_up (z_up (z_up (z_up w 9 0 (w 17 ((3 * a0).toNat))) 9 1 (F_J_bitCount_0f7a4 (z_up w 9 0 (w 17 ((3 * a0).toNat))) (zz_and (F_M_knownBy (z_up w 9 0 (w 17 ((3 * a0).toNat))) a0) (zz_xor (F_M_drowned (z_up w 9 0 (w 17 ((3 * a0).toNat)))) (-1))))) 9 2 (F_M_aboveOf (z_up (z_up w 9 0 (w 17 ((3 * a0).toNat))) 9 1 (F_J_bitCount_0f7a4 (z_up w 9 0 (w 17 ((3 * a0).toNat))) (zz_and (F_M_knownBy (z_up w 9 0 (w 17 ((3 * a0).toNat))) a0) (zz_xor (F_M_drowned (z_up w 9 0 (w 17 ((3 * a0).toNat)))) (-1))))) a0)) 9 3 (w 17 (((3 * a0) + 2).toNat))) 9 4 (w 0 28)) 9 5 (w 19 38)) (w 0 33)).2)
set_option maxRecDepth 4000 in
theorem c_M_missedOf {d : Nat} {w : z_Wd} {a0 : Int} {Q : Option z_V → z_Wd → Prop} (h : P_M_missedOf w a0) (k : Q (some (zI (F_M_missedOf w a0).1)) (F_M_missedOf w a0).2) : z_Wc (d + 6) m_X12_missedOf [zR 0, zI a0] w Q := by
  unfold P_M_missedOf at h
  unfold F_M_missedOf at k
  refine z_enter rfl (Nat.le_of_ble_eq_true rfl) ?_
  show z_Wp m_X12_missedOf _ 0 [(0, zR 0), (1, zI a0)] [] w _
  refine z_aload_n (pc' := 1) 0 rfl rfl dX12_missedOf_0 rfl ?_
  refine z_iload_n (pc' := 2) 1 rfl rfl dX12_missedOf_1 rfl ?_
  refine z_iconst (pc' := 3) dX12_missedOf_2 rfl ?_
  refine z_invV (as := [zI a0, zI 0]) (st := []) (C := m_X12_of) (fs := [0, 3, 0, 0, 0, 0, 4, 5, 6, 7, 8, 9, 10, 0, 0, 11, 12, 13, 14, 15, 16, 0, 0, 0, 17, 18, 19, 20, 0, 0, 0, 21, 22, 0, 0, 23, 0, 1, 24, 0, 0, 25, 26, 0, 27, 0]) (pc' := 6) dX12_missedOf_3 rfl t_7_138 k_X12_of rfl (by decide) rfl rfl rfl rfl (Nat.le_of_ble_eq_true rfl) ?_
  obtain ⟨r1, h⟩ := h
  refine c_M_of r1 ?_
  show z_Wp m_X12_missedOf _ 6 [(0, zR 0), (1, zI a0)] [zI (w 17 (((3 * a0) + 0).toNat))] w _
  refine z_eqI (y := w 17 ((3 * a0).toNat)) (by simp) ?_
  refine z_iconst (pc' := 7) dX12_missedOf_6 rfl ?_
  refine z_aload_n (pc' := 8) 0 rfl rfl dX12_missedOf_7 rfl ?_
  refine z_iload_n (pc' := 9) 1 rfl rfl dX12_missedOf_8 rfl ?_
  refine z_invV (as := [zI a0]) (st := [zI 2, zI (w 17 ((3 * a0).toNat))]) (C := m_X12_friendsOf) (fs := [0, 3, 0, 0, 0, 0, 4, 5, 6, 7, 8, 9, 10, 0, 0, 11, 12, 13, 14, 15, 16, 0, 0, 0, 17, 18, 19, 20, 0, 0, 0, 21, 22, 0, 0, 23, 0, 1, 24, 0, 0, 25, 26, 0, 27, 0]) (pc' := 12) dX12_missedOf_9 rfl t_7_146 k_X12_friendsOf rfl (by decide) rfl rfl rfl rfl (Nat.le_of_ble_eq_true rfl) ?_
  obtain ⟨r2, h⟩ := h
  refine c_M_friendsOf r2 ?_
  show z_Wp m_X12_missedOf _ 12 [(0, zR 0), (1, zI a0)] [zI (F_J_bitCount_0f7a4 w (zz_and (F_M_knownBy w a0) (zz_xor (F_M_drowned w) (-1)))), zI 2, zI (w 17 ((3 * a0).toNat))] w _
  refine z_imul (pc' := 13) dX12_missedOf_12 rfl ?_
  refine z_iadd (pc' := 14) dX12_missedOf_13 rfl ?_
  refine z_istore_n (pc' := 15) (ls' := [(0, zR 0), (1, zI a0), (2, zI ((w 17 ((3 * a0).toNat)) + (2 * (F_J_bitCount_0f7a4 w (zz_and (F_M_knownBy w a0) (zz_xor (F_M_drowned w) (-1)))))))]) rfl (by decide) rfl rfl dX12_missedOf_14 rfl ?_
  refine z_aload_n (pc' := 16) 0 rfl rfl dX12_missedOf_15 rfl ?_
  refine z_getI2 (v := w 0 33) (pc' := 19) g_X12_70 (by decide) rfl rfl rfl dX12_missedOf_16 rfl ?_
  refine z_iconst (pc' := 20) dX12_missedOf_19 rfl ?_
  obtain ⟨r3, h⟩ := h
  refine z_icmp_eq 117 dX12_missedOf_20 (by decide) (pc' := 23) rfl r3 (by decide) (fun c => ?_) (fun c => ?_)
  · have h := h.1 c
    rw [if_pos c] at k
    refine z_iconst (pc' := 118) dX12_missedOf_117 rfl ?_
    refine z_bipush (pc' := 120) (by decide) dX12_missedOf_118 rfl ?_
    refine z_iload_n (pc' := 121) 2 rfl rfl dX12_missedOf_120 rfl ?_
    refine z_invS (as := [zI 30, zI ((w 17 ((3 * a0).toNat)) + (2 * (F_J_bitCount_0f7a4 w (zz_and (F_M_knownBy w a0) (zz_xor (F_M_drowned w) (-1))))))]) (st := [zI 0]) (C := m_J9_min_7cf53) (pc' := 124) dX12_missedOf_121 rfl t_7_185 k_J9_min_7cf53 rfl rfl (Nat.le_of_ble_eq_true rfl) ?_
    obtain ⟨r4, h⟩ := h
    refine c_J_min_7cf53 r4 ?_
    show z_Wp m_X12_missedOf _ 124 [(0, zR 0), (1, zI a0), (2, zI ((w 17 ((3 * a0).toNat)) + (2 * (F_J_bitCount_0f7a4 w (zz_and (F_M_knownBy w a0) (zz_xor (F_M_drowned w) (-1)))))))] [zI (F_J_min_7cf53 w 30 ((w 17 ((3 * a0).toNat)) + (2 * (F_J_bitCount_0f7a4 w (zz_and (F_M_knownBy w a0) (zz_xor (F_M_drowned w) (-1))))))), zI 0] w _
    refine z_invS (as := [zI 0, zI (F_J_min_7cf53 w 30 ((w 17 ((3 * a0).toNat)) + (2 * (F_J_bitCount_0f7a4 w (zz_and (F_M_knownBy w a0) (zz_xor (F_M_drowned w) (-1)))))))]) (st := []) (C := m_J9_max_7cf53) (pc' := 127) dX12_missedOf_124 rfl t_7_186 k_J9_max_7cf53 rfl rfl (Nat.le_of_ble_eq_true rfl) ?_
    have r5 := h
    refine c_J_max_7cf53 r5 ?_
    show z_Wp m_X12_missedOf _ 127 [(0, zR 0), (1, zI a0), (2, zI ((w 17 ((3 * a0).toNat)) + (2 * (F_J_bitCount_0f7a4 w (zz_and (F_M_knownBy w a0) (zz_xor (F_M_drowned w) (-1)))))))] [zI (F_J_max_7cf53 w 0 (F_J_min_7cf53 w 30 ((w 17 ((3 * a0).toNat)) + (2 * (F_J_bitCount_0f7a4 w (zz_and (F_M_knownBy w a0) (zz_xor (F_M_drowned w) (-1))))))))] w _
    refine z_iret rfl dX12_missedOf_127 ?_
    exact k
  · have h := h.2 c
    rw [if_neg c] at k
    refine z_aload_n (pc' := 24) 0 rfl rfl dX12_missedOf_23 rfl ?_
    refine z_getR (t := 9) (pc' := 27) g_X12_34 (by decide) rfl rfl dX12_missedOf_24 rfl ?_
    refine z_iconst (pc' := 28) dX12_missedOf_27 rfl ?_
    refine z_aload_n (pc' := 29) 0 rfl rfl dX12_missedOf_28 rfl ?_
    refine z_iload_n (pc' := 30) 1 rfl rfl dX12_missedOf_29 rfl ?_
    refine z_iconst (pc' := 31) dX12_missedOf_30 rfl ?_
    refine z_invV (as := [zI a0, zI 0]) (st := [zI 0, zR 9]) (C := m_X12_of) (fs := [0, 3, 0, 0, 0, 0, 4, 5, 6, 7, 8, 9, 10, 0, 0, 11, 12, 13, 14, 15, 16, 0, 0, 0, 17, 18, 19, 20, 0, 0, 0, 21, 22, 0, 0, 23, 0, 1, 24, 0, 0, 25, 26, 0, 27, 0]) (pc' := 34) dX12_missedOf_31 rfl t_7_138 k_X12_of rfl (by decide) rfl rfl rfl rfl (Nat.le_of_ble_eq_true rfl) ?_
    refine c_M_of r1 ?_
    show z_Wp m_X12_missedOf _ 34 [(0, zR 0), (1, zI a0), (2, zI ((w 17 ((3 * a0).toNat)) + (2 * (F_J_bitCount_0f7a4 w (zz_and (F_M_knownBy w a0) (zz_xor (F_M_drowned w) (-1)))))))] [zI (w 17 (((3 * a0) + 0).toNat)), zI 0, zR 9] w _
    refine z_eqI (y := w 17 ((3 * a0).toNat)) (by simp) ?_
    refine z_iast2 (w' := z_up w 9 0 (w 17 ((3 * a0).toNat))) (pc' := 35) (by decide) rfl (by decide) (by decide) rfl dX12_missedOf_34 rfl ?_
    refine z_aload_n (pc' := 36) 0 rfl rfl dX12_missedOf_35 rfl ?_
    refine z_getR (t := 9) (pc' := 39) g_X12_34 (by decide) rfl rfl dX12_missedOf_36 rfl ?_
    refine z_iconst (pc' := 40) dX12_missedOf_39 rfl ?_
    refine z_aload_n (pc' := 41) 0 rfl rfl dX12_missedOf_40 rfl ?_
    refine z_iload_n (pc' := 42) 1 rfl rfl dX12_missedOf_41 rfl ?_
    refine z_invV (as := [zI a0]) (st := [zI 1, zR 9]) (C := m_X12_friendsOf) (fs := [0, 3, 0, 0, 0, 0, 4, 5, 6, 7, 8, 9, 10, 0, 0, 11, 12, 13, 14, 15, 16, 0, 0, 0, 17, 18, 19, 20, 0, 0, 0, 21, 22, 0, 0, 23, 0, 1, 24, 0, 0, 25, 26, 0, 27, 0]) (pc' := 45) dX12_missedOf_42 rfl t_7_146 k_X12_friendsOf rfl (by decide) rfl rfl rfl rfl (Nat.le_of_ble_eq_true rfl) ?_
    obtain ⟨r6, h⟩ := h
    refine c_M_friendsOf r6 ?_
    show z_Wp m_X12_missedOf _ 45 [(0, zR 0), (1, zI a0), (2, zI ((w 17 ((3 * a0).toNat)) + (2 * (F_J_bitCount_0f7a4 w (zz_and (F_M_knownBy w a0) (zz_xor (F_M_drowned w) (-1)))))))] [zI (F_J_bitCount_0f7a4 (z_up w 9 0 (w 17 ((3 * a0).toNat))) (zz_and (F_M_knownBy (z_up w 9 0 (w 17 ((3 * a0).toNat))) a0) (zz_xor (F_M_drowned (z_up w 9 0 (w 17 ((3 * a0).toNat)))) (-1)))), zI 1, zR 9] (z_up w 9 0 (w 17 ((3 * a0).toNat))) _
    refine z_iast2 (w' := z_up (z_up w 9 0 (w 17 ((3 * a0).toNat))) 9 1 (F_J_bitCount_0f7a4 (z_up w 9 0 (w 17 ((3 * a0).toNat))) (zz_and (F_M_knownBy (z_up w 9 0 (w 17 ((3 * a0).toNat))) a0) (zz_xor (F_M_drowned (z_up w 9 0 (w 17 ((3 * a0).toNat)))) (-1))))) (pc' := 46) (by decide) rfl (by decide) (by decide) rfl dX12_missedOf_45 rfl ?_
    refine z_aload_n (pc' := 47) 0 rfl rfl dX12_missedOf_46 rfl ?_
    refine z_getR (t := 9) (pc' := 50) g_X12_34 (by decide) rfl rfl dX12_missedOf_47 rfl ?_
    refine z_iconst (pc' := 51) dX12_missedOf_50 rfl ?_
    refine z_aload_n (pc' := 52) 0 rfl rfl dX12_missedOf_51 rfl ?_
    refine z_iload_n (pc' := 53) 1 rfl rfl dX12_missedOf_52 rfl ?_
    refine z_invV (as := [zI a0]) (st := [zI 2, zR 9]) (C := m_X12_aboveOf) (fs := [0, 3, 0, 0, 0, 0, 4, 5, 6, 7, 8, 9, 10, 0, 0, 11, 12, 13, 14, 15, 16, 0, 0, 0, 17, 18, 19, 20, 0, 0, 0, 21, 22, 0, 0, 23, 0, 1, 24, 0, 0, 25, 26, 0, 27, 0]) (pc' := 56) dX12_missedOf_53 rfl t_7_126 k_X12_aboveOf rfl (by decide) rfl rfl rfl rfl (Nat.le_of_ble_eq_true rfl) ?_
    obtain ⟨r7, h⟩ := h
    refine c_M_aboveOf r7 ?_
    show z_Wp m_X12_missedOf _ 56 [(0, zR 0), (1, zI a0), (2, zI ((w 17 ((3 * a0).toNat)) + (2 * (F_J_bitCount_0f7a4 w (zz_and (F_M_knownBy w a0) (zz_xor (F_M_drowned w) (-1)))))))] [zI (F_M_aboveOf (z_up (z_up w 9 0 (w 17 ((3 * a0).toNat))) 9 1 (F_J_bitCount_0f7a4 (z_up w 9 0 (w 17 ((3 * a0).toNat))) (zz_and (F_M_knownBy (z_up w 9 0 (w 17 ((3 * a0).toNat))) a0) (zz_xor (F_M_drowned (z_up w 9 0 (w 17 ((3 * a0).toNat)))) (-1))))) a0), zI 2, zR 9] (z_up (z_up w 9 0 (w 17 ((3 * a0).toNat))) 9 1 (F_J_bitCount_0f7a4 (z_up w 9 0 (w 17 ((3 * a0).toNat))) (zz_and (F_M_knownBy (z_up w 9 0 (w 17 ((3 * a0).toNat))) a0) (zz_xor (F_M_drowned (z_up w 9 0 (w 17 ((3 * a0).toNat)))) (-1))))) _
    refine z_iast2 (w' := z_up (z_up (z_up w 9 0 (w 17 ((3 * a0).toNat))) 9 1 (F_J_bitCount_0f7a4 (z_up w 9 0 (w 17 ((3 * a0).toNat))) (zz_and (F_M_knownBy (z_up w 9 0 (w 17 ((3 * a0).toNat))) a0) (zz_xor (F_M_drowned (z_up w 9 0 (w 17 ((3 * a0).toNat)))) (-1))))) 9 2 (F_M_aboveOf (z_up (z_up w 9 0 (w 17 ((3 * a0).toNat))) 9 1 (F_J_bitCount_0f7a4 (z_up w 9 0 (w 17 ((3 * a0).toNat))) (zz_and (F_M_knownBy (z_up w 9 0 (w 17 ((3 * a0).toNat))) a0) (zz_xor (F_M_drowned (z_up w 9 0 (w 17 ((3 * a0).toNat)))) (-1))))) a0)) (pc' := 57) (by decide) rfl (by decide) (by decide) rfl dX12_missedOf_56 rfl ?_
    refine z_aload_n (pc' := 58) 0 rfl rfl dX12_missedOf_57 rfl ?_
    refine z_getR (t := 9) (pc' := 61) g_X12_34 (by decide) rfl rfl dX12_missedOf_58 rfl ?_
    refine z_iconst (pc' := 62) dX12_missedOf_61 rfl ?_
    refine z_aload_n (pc' := 63) 0 rfl rfl dX12_missedOf_62 rfl ?_
    refine z_iload_n (pc' := 64) 1 rfl rfl dX12_missedOf_63 rfl ?_
    refine z_iconst (pc' := 65) dX12_missedOf_64 rfl ?_
    refine z_invV (as := [zI a0, zI 2]) (st := [zI 3, zR 9]) (C := m_X12_of) (fs := [0, 3, 0, 0, 0, 0, 4, 5, 6, 7, 8, 9, 10, 0, 0, 11, 12, 13, 14, 15, 16, 0, 0, 0, 17, 18, 19, 20, 0, 0, 0, 21, 22, 0, 0, 23, 0, 1, 24, 0, 0, 25, 26, 0, 27, 0]) (pc' := 68) dX12_missedOf_65 rfl t_7_138 k_X12_of rfl (by decide) rfl rfl rfl rfl (Nat.le_of_ble_eq_true rfl) ?_
    obtain ⟨r8, h⟩ := h
    refine c_M_of r8 ?_
    show z_Wp m_X12_missedOf _ 68 [(0, zR 0), (1, zI a0), (2, zI ((w 17 ((3 * a0).toNat)) + (2 * (F_J_bitCount_0f7a4 w (zz_and (F_M_knownBy w a0) (zz_xor (F_M_drowned w) (-1)))))))] [zI (w 17 (((3 * a0) + 2).toNat)), zI 3, zR 9] (z_up (z_up (z_up w 9 0 (w 17 ((3 * a0).toNat))) 9 1 (F_J_bitCount_0f7a4 (z_up w 9 0 (w 17 ((3 * a0).toNat))) (zz_and (F_M_knownBy (z_up w 9 0 (w 17 ((3 * a0).toNat))) a0) (zz_xor (F_M_drowned (z_up w 9 0 (w 17 ((3 * a0).toNat)))) (-1))))) 9 2 (F_M_aboveOf (z_up (z_up w 9 0 (w 17 ((3 * a0).toNat))) 9 1 (F_J_bitCount_0f7a4 (z_up w 9 0 (w 17 ((3 * a0).toNat))) (zz_and (F_M_knownBy (z_up w 9 0 (w 17 ((3 * a0).toNat))) a0) (zz_xor (F_M_drowned (z_up w 9 0 (w 17 ((3 * a0).toNat)))) (-1))))) a0)) _
    refine z_iast2 (w' := z_up (z_up (z_up (z_up w 9 0 (w 17 ((3 * a0).toNat))) 9 1 (F_J_bitCount_0f7a4 (z_up w 9 0 (w 17 ((3 * a0).toNat))) (zz_and (F_M_knownBy (z_up w 9 0 (w 17 ((3 * a0).toNat))) a0) (zz_xor (F_M_drowned (z_up w 9 0 (w 17 ((3 * a0).toNat)))) (-1))))) 9 2 (F_M_aboveOf (z_up (z_up w 9 0 (w 17 ((3 * a0).toNat))) 9 1 (F_J_bitCount_0f7a4 (z_up w 9 0 (w 17 ((3 * a0).toNat))) (zz_and (F_M_knownBy (z_up w 9 0 (w 17 ((3 * a0).toNat))) a0) (zz_xor (F_M_drowned (z_up w 9 0 (w 17 ((3 * a0).toNat)))) (-1))))) a0)) 9 3 (w 17 (((3 * a0) + 2).toNat))) (pc' := 69) (by decide) rfl (by decide) (by decide) rfl dX12_missedOf_68 rfl ?_
    refine z_aload_n (pc' := 70) 0 rfl rfl dX12_missedOf_69 rfl ?_
    refine z_getR (t := 9) (pc' := 73) g_X12_34 (by decide) rfl rfl dX12_missedOf_70 rfl ?_
    refine z_iconst (pc' := 74) dX12_missedOf_73 rfl ?_
    refine z_aload_n (pc' := 75) 0 rfl rfl dX12_missedOf_74 rfl ?_
    refine z_iload_n (pc' := 76) 1 rfl rfl dX12_missedOf_75 rfl ?_
    refine z_invV (as := [zI a0]) (st := [zI 4, zR 9]) (C := m_X12_isFree) (fs := [0, 3, 0, 0, 0, 0, 4, 5, 6, 7, 8, 9, 10, 0, 0, 11, 12, 13, 14, 15, 16, 0, 0, 0, 17, 18, 19, 20, 0, 0, 0, 21, 22, 0, 0, 23, 0, 1, 24, 0, 0, 25, 26, 0, 27, 0]) (pc' := 79) dX12_missedOf_76 rfl t_7_158 k_X12_isFree rfl (by decide) rfl rfl rfl rfl (Nat.le_of_ble_eq_true rfl) ?_
    obtain ⟨r9, h⟩ := h
    refine c_M_isFree r9 ?_
    show z_Wp m_X12_missedOf _ 79 [(0, zR 0), (1, zI a0), (2, zI ((w 17 ((3 * a0).toNat)) + (2 * (F_J_bitCount_0f7a4 w (zz_and (F_M_knownBy w a0) (zz_xor (F_M_drowned w) (-1)))))))] [zI (F_M_isFree (z_up (z_up (z_up (z_up w 9 0 (w 17 ((3 * a0).toNat))) 9 1 (F_J_bitCount_0f7a4 (z_up w 9 0 (w 17 ((3 * a0).toNat))) (zz_and (F_M_knownBy (z_up w 9 0 (w 17 ((3 * a0).toNat))) a0) (zz_xor (F_M_drowned (z_up w 9 0 (w 17 ((3 * a0).toNat)))) (-1))))) 9 2 (F_M_aboveOf (z_up (z_up w 9 0 (w 17 ((3 * a0).toNat))) 9 1 (F_J_bitCount_0f7a4 (z_up w 9 0 (w 17 ((3 * a0).toNat))) (zz_and (F_M_knownBy (z_up w 9 0 (w 17 ((3 * a0).toNat))) a0) (zz_xor (F_M_drowned (z_up w 9 0 (w 17 ((3 * a0).toNat)))) (-1))))) a0)) 9 3 (w 17 (((3 * a0) + 2).toNat))) a0), zI 4, zR 9] (z_up (z_up (z_up (z_up w 9 0 (w 17 ((3 * a0).toNat))) 9 1 (F_J_bitCount_0f7a4 (z_up w 9 0 (w 17 ((3 * a0).toNat))) (zz_and (F_M_knownBy (z_up w 9 0 (w 17 ((3 * a0).toNat))) a0) (zz_xor (F_M_drowned (z_up w 9 0 (w 17 ((3 * a0).toNat)))) (-1))))) 9 2 (F_M_aboveOf (z_up (z_up w 9 0 (w 17 ((3 * a0).toNat))) 9 1 (F_J_bitCount_0f7a4 (z_up w 9 0 (w 17 ((3 * a0).toNat))) (zz_and (F_M_knownBy (z_up w 9 0 (w 17 ((3 * a0).toNat))) a0) (zz_xor (F_M_drowned (z_up w 9 0 (w 17 ((3 * a0).toNat)))) (-1))))) a0)) 9 3 (w 17 (((3 * a0) + 2).toNat))) _
    refine z_if_eq 89 dX12_missedOf_79 (by decide) (pc' := 82) rfl (z_rb b_M_isFree) (fun c => ?_) (fun c => ?_)
    · have h := h.1 c
      rw [if_pos c] at k
      refine z_aload_n (pc' := 90) 0 rfl rfl dX12_missedOf_89 rfl ?_
      refine z_iload_n (pc' := 91) 1 rfl rfl dX12_missedOf_90 rfl ?_
      refine z_invV (as := [zI a0]) (st := [zI 4, zR 9]) (C := m_X12_wellOf) (fs := [0, 3, 0, 0, 0, 0, 4, 5, 6, 7, 8, 9, 10, 0, 0, 11, 12, 13, 14, 15, 16, 0, 0, 0, 17, 18, 19, 20, 0, 0, 0, 21, 22, 0, 0, 23, 0, 1, 24, 0, 0, 25, 26, 0, 27, 0]) (pc' := 94) dX12_missedOf_91 rfl t_7_114 k_X12_wellOf rfl (by decide) rfl rfl rfl rfl (Nat.le_of_ble_eq_true rfl) ?_
      obtain ⟨r10, h⟩ := h
      refine c_M_wellOf r10 ?_
      show z_Wp m_X12_missedOf _ 94 [(0, zR 0), (1, zI a0), (2, zI ((w 17 ((3 * a0).toNat)) + (2 * (F_J_bitCount_0f7a4 w (zz_and (F_M_knownBy w a0) (zz_xor (F_M_drowned w) (-1)))))))] [zI (F_M_wellOf (z_up (z_up (z_up (z_up w 9 0 (w 17 ((3 * a0).toNat))) 9 1 (F_J_bitCount_0f7a4 (z_up w 9 0 (w 17 ((3 * a0).toNat))) (zz_and (F_M_knownBy (z_up w 9 0 (w 17 ((3 * a0).toNat))) a0) (zz_xor (F_M_drowned (z_up w 9 0 (w 17 ((3 * a0).toNat)))) (-1))))) 9 2 (F_M_aboveOf (z_up (z_up w 9 0 (w 17 ((3 * a0).toNat))) 9 1 (F_J_bitCount_0f7a4 (z_up w 9 0 (w 17 ((3 * a0).toNat))) (zz_and (F_M_knownBy (z_up w 9 0 (w 17 ((3 * a0).toNat))) a0) (zz_xor (F_M_drowned (z_up w 9 0 (w 17 ((3 * a0).toNat)))) (-1))))) a0)) 9 3 (w 17 (((3 * a0) + 2).toNat))) a0), zI 4, zR 9] (z_up (z_up (z_up (z_up w 9 0 (w 17 ((3 * a0).toNat))) 9 1 (F_J_bitCount_0f7a4 (z_up w 9 0 (w 17 ((3 * a0).toNat))) (zz_and (F_M_knownBy (z_up w 9 0 (w 17 ((3 * a0).toNat))) a0) (zz_xor (F_M_drowned (z_up w 9 0 (w 17 ((3 * a0).toNat)))) (-1))))) 9 2 (F_M_aboveOf (z_up (z_up w 9 0 (w 17 ((3 * a0).toNat))) 9 1 (F_J_bitCount_0f7a4 (z_up w 9 0 (w 17 ((3 * a0).toNat))) (zz_and (F_M_knownBy (z_up w 9 0 (w 17 ((3 * a0).toNat))) a0) (zz_xor (F_M_drowned (z_up w 9 0 (w 17 ((3 * a0).toNat)))) (-1))))) a0)) 9 3 (w 17 (((3 * a0) + 2).toNat))) _
      refine z_iast2 (w' := z_up (z_up (z_up (z_up (z_up w 9 0 (w 17 ((3 * a0).toNat))) 9 1 (F_J_bitCount_0f7a4 (z_up w 9 0 (w 17 ((3 * a0).toNat))) (zz_and (F_M_knownBy (z_up w 9 0 (w 17 ((3 * a0).toNat))) a0) (zz_xor (F_M_drowned (z_up w 9 0 (w 17 ((3 * a0).toNat)))) (-1))))) 9 2 (F_M_aboveOf (z_up (z_up w 9 0 (w 17 ((3 * a0).toNat))) 9 1 (F_J_bitCount_0f7a4 (z_up w 9 0 (w 17 ((3 * a0).toNat))) (zz_and (F_M_knownBy (z_up w 9 0 (w 17 ((3 * a0).toNat))) a0) (zz_xor (F_M_drowned (z_up w 9 0 (w 17 ((3 * a0).toNat)))) (-1))))) a0)) 9 3 (w 17 (((3 * a0) + 2).toNat))) 9 4 (F_M_wellOf (z_up (z_up (z_up (z_up w 9 0 (w 17 ((3 * a0).toNat))) 9 1 (F_J_bitCount_0f7a4 (z_up w 9 0 (w 17 ((3 * a0).toNat))) (zz_and (F_M_knownBy (z_up w 9 0 (w 17 ((3 * a0).toNat))) a0) (zz_xor (F_M_drowned (z_up w 9 0 (w 17 ((3 * a0).toNat)))) (-1))))) 9 2 (F_M_aboveOf (z_up (z_up w 9 0 (w 17 ((3 * a0).toNat))) 9 1 (F_J_bitCount_0f7a4 (z_up w 9 0 (w 17 ((3 * a0).toNat))) (zz_and (F_M_knownBy (z_up w 9 0 (w 17 ((3 * a0).toNat))) a0) (zz_xor (F_M_drowned (z_up w 9 0 (w 17 ((3 * a0).toNat)))) (-1))))) a0)) 9 3 (w 17 (((3 * a0) + 2).toNat))) a0)) (pc' := 95) (by decide) rfl (by decide) (by decide) rfl dX12_missedOf_94 rfl ?_
      refine z_aload_n (pc' := 96) 0 rfl rfl dX12_missedOf_95 rfl ?_
      refine z_getR (t := 9) (pc' := 99) g_X12_34 (by decide) rfl rfl dX12_missedOf_96 rfl ?_
      refine z_iconst (pc' := 100) dX12_missedOf_99 rfl ?_
      refine z_aload_n (pc' := 101) 0 rfl rfl dX12_missedOf_100 rfl ?_
      refine z_getR (t := 19) (pc' := 104) g_X12_64 (by decide) rfl rfl dX12_missedOf_101 rfl ?_
      refine z_bipush (pc' := 106) (by decide) dX12_missedOf_104 rfl ?_
      refine z_iald2 (v := w 19 38) (pc' := 107) (by decide) rfl (by decide) (by decide) rfl dX12_missedOf_106 rfl ?_
      refine z_iast2 (w' := z_up (z_up (z_up (z_up (z_up (z_up w 9 0 (w 17 ((3 * a0).toNat))) 9 1 (F_J_bitCount_0f7a4 (z_up w 9 0 (w 17 ((3 * a0).toNat))) (zz_and (F_M_knownBy (z_up w 9 0 (w 17 ((3 * a0).toNat))) a0) (zz_xor (F_M_drowned (z_up w 9 0 (w 17 ((3 * a0).toNat)))) (-1))))) 9 2 (F_M_aboveOf (z_up (z_up w 9 0 (w 17 ((3 * a0).toNat))) 9 1 (F_J_bitCount_0f7a4 (z_up w 9 0 (w 17 ((3 * a0).toNat))) (zz_and (F_M_knownBy (z_up w 9 0 (w 17 ((3 * a0).toNat))) a0) (zz_xor (F_M_drowned (z_up w 9 0 (w 17 ((3 * a0).toNat)))) (-1))))) a0)) 9 3 (w 17 (((3 * a0) + 2).toNat))) 9 4 (F_M_wellOf (z_up (z_up (z_up (z_up w 9 0 (w 17 ((3 * a0).toNat))) 9 1 (F_J_bitCount_0f7a4 (z_up w 9 0 (w 17 ((3 * a0).toNat))) (zz_and (F_M_knownBy (z_up w 9 0 (w 17 ((3 * a0).toNat))) a0) (zz_xor (F_M_drowned (z_up w 9 0 (w 17 ((3 * a0).toNat)))) (-1))))) 9 2 (F_M_aboveOf (z_up (z_up w 9 0 (w 17 ((3 * a0).toNat))) 9 1 (F_J_bitCount_0f7a4 (z_up w 9 0 (w 17 ((3 * a0).toNat))) (zz_and (F_M_knownBy (z_up w 9 0 (w 17 ((3 * a0).toNat))) a0) (zz_xor (F_M_drowned (z_up w 9 0 (w 17 ((3 * a0).toNat)))) (-1))))) a0)) 9 3 (w 17 (((3 * a0) + 2).toNat))) a0)) 9 5 (w 19 38)) (pc' := 108) (by decide) rfl (by decide) (by decide) rfl dX12_missedOf_107 rfl ?_
      refine z_aload_n (pc' := 109) 0 rfl rfl dX12_missedOf_108 rfl ?_
      refine z_aload_n (pc' := 110) 0 rfl rfl dX12_missedOf_109 rfl ?_
      refine z_getI2 (v := w 0 33) (pc' := 113) g_X12_70 (by decide) rfl rfl rfl dX12_missedOf_110 rfl ?_
      refine z_invV (as := [zI (w 0 33)]) (st := []) (C := m_X12_worthOf) (fs := [0, 3, 0, 0, 0, 0, 4, 5, 6, 7, 8, 9, 10, 0, 0, 11, 12, 13, 14, 15, 16, 0, 0, 0, 17, 18, 19, 20, 0, 0, 0, 21, 22, 0, 0, 23, 0, 1, 24, 0, 0, 25, 26, 0, 27, 0]) (pc' := 116) dX12_missedOf_113 rfl t_7_163 k_X12_worthOf rfl (by decide) rfl rfl rfl rfl (Nat.le_of_ble_eq_true rfl) ?_
      obtain ⟨r11, h⟩ := h
      refine c_M_worthOf r11 ?_
      show z_Wp m_X12_missedOf _ 116 [(0, zR 0), (1, zI a0), (2, zI ((w 17 ((3 * a0).toNat)) + (2 * (F_J_bitCount_0f7a4 w (zz_and (F_M_knownBy w a0) (zz_xor (F_M_drowned w) (-1)))))))] [zI ((F_M_worthOf (z_up (z_up (z_up (z_up (z_up (z_up w 9 0 (w 17 ((3 * a0).toNat))) 9 1 (F_J_bitCount_0f7a4 (z_up w 9 0 (w 17 ((3 * a0).toNat))) (zz_and (F_M_knownBy (z_up w 9 0 (w 17 ((3 * a0).toNat))) a0) (zz_xor (F_M_drowned (z_up w 9 0 (w 17 ((3 * a0).toNat)))) (-1))))) 9 2 (F_M_aboveOf (z_up (z_up w 9 0 (w 17 ((3 * a0).toNat))) 9 1 (F_J_bitCount_0f7a4 (z_up w 9 0 (w 17 ((3 * a0).toNat))) (zz_and (F_M_knownBy (z_up w 9 0 (w 17 ((3 * a0).toNat))) a0) (zz_xor (F_M_drowned (z_up w 9 0 (w 17 ((3 * a0).toNat)))) (-1))))) a0)) 9 3 (w 17 (((3 * a0) + 2).toNat))) 9 4 (F_M_wellOf (z_up (z_up (z_up (z_up w 9 0 (w 17 ((3 * a0).toNat))) 9 1 (F_J_bitCount_0f7a4 (z_up w 9 0 (w 17 ((3 * a0).toNat))) (zz_and (F_M_knownBy (z_up w 9 0 (w 17 ((3 * a0).toNat))) a0) (zz_xor (F_M_drowned (z_up w 9 0 (w 17 ((3 * a0).toNat)))) (-1))))) 9 2 (F_M_aboveOf (z_up (z_up w 9 0 (w 17 ((3 * a0).toNat))) 9 1 (F_J_bitCount_0f7a4 (z_up w 9 0 (w 17 ((3 * a0).toNat))) (zz_and (F_M_knownBy (z_up w 9 0 (w 17 ((3 * a0).toNat))) a0) (zz_xor (F_M_drowned (z_up w 9 0 (w 17 ((3 * a0).toNat)))) (-1))))) a0)) 9 3 (w 17 (((3 * a0) + 2).toNat))) a0)) 9 5 (w 19 38)) (w 0 33)).1)] ((F_M_worthOf (z_up (z_up (z_up (z_up (z_up (z_up w 9 0 (w 17 ((3 * a0).toNat))) 9 1 (F_J_bitCount_0f7a4 (z_up w 9 0 (w 17 ((3 * a0).toNat))) (zz_and (F_M_knownBy (z_up w 9 0 (w 17 ((3 * a0).toNat))) a0) (zz_xor (F_M_drowned (z_up w 9 0 (w 17 ((3 * a0).toNat)))) (-1))))) 9 2 (F_M_aboveOf (z_up (z_up w 9 0 (w 17 ((3 * a0).toNat))) 9 1 (F_J_bitCount_0f7a4 (z_up w 9 0 (w 17 ((3 * a0).toNat))) (zz_and (F_M_knownBy (z_up w 9 0 (w 17 ((3 * a0).toNat))) a0) (zz_xor (F_M_drowned (z_up w 9 0 (w 17 ((3 * a0).toNat)))) (-1))))) a0)) 9 3 (w 17 (((3 * a0) + 2).toNat))) 9 4 (F_M_wellOf (z_up (z_up (z_up (z_up w 9 0 (w 17 ((3 * a0).toNat))) 9 1 (F_J_bitCount_0f7a4 (z_up w 9 0 (w 17 ((3 * a0).toNat))) (zz_and (F_M_knownBy (z_up w 9 0 (w 17 ((3 * a0).toNat))) a0) (zz_xor (F_M_drowned (z_up w 9 0 (w 17 ((3 * a0).toNat)))) (-1))))) 9 2 (F_M_aboveOf (z_up (z_up w 9 0 (w 17 ((3 * a0).toNat))) 9 1 (F_J_bitCount_0f7a4 (z_up w 9 0 (w 17 ((3 * a0).toNat))) (zz_and (F_M_knownBy (z_up w 9 0 (w 17 ((3 * a0).toNat))) a0) (zz_xor (F_M_drowned (z_up w 9 0 (w 17 ((3 * a0).toNat)))) (-1))))) a0)) 9 3 (w 17 (((3 * a0) + 2).toNat))) a0)) 9 5 (w 19 38)) (w 0 33)).2) _
      refine z_istore_n (pc' := 117) (ls' := [(0, zR 0), (1, zI a0), (2, zI ((F_M_worthOf (z_up (z_up (z_up (z_up (z_up (z_up w 9 0 (w 17 ((3 * a0).toNat))) 9 1 (F_J_bitCount_0f7a4 (z_up w 9 0 (w 17 ((3 * a0).toNat))) (zz_and (F_M_knownBy (z_up w 9 0 (w 17 ((3 * a0).toNat))) a0) (zz_xor (F_M_drowned (z_up w 9 0 (w 17 ((3 * a0).toNat)))) (-1))))) 9 2 (F_M_aboveOf (z_up (z_up w 9 0 (w 17 ((3 * a0).toNat))) 9 1 (F_J_bitCount_0f7a4 (z_up w 9 0 (w 17 ((3 * a0).toNat))) (zz_and (F_M_knownBy (z_up w 9 0 (w 17 ((3 * a0).toNat))) a0) (zz_xor (F_M_drowned (z_up w 9 0 (w 17 ((3 * a0).toNat)))) (-1))))) a0)) 9 3 (w 17 (((3 * a0) + 2).toNat))) 9 4 (F_M_wellOf (z_up (z_up (z_up (z_up w 9 0 (w 17 ((3 * a0).toNat))) 9 1 (F_J_bitCount_0f7a4 (z_up w 9 0 (w 17 ((3 * a0).toNat))) (zz_and (F_M_knownBy (z_up w 9 0 (w 17 ((3 * a0).toNat))) a0) (zz_xor (F_M_drowned (z_up w 9 0 (w 17 ((3 * a0).toNat)))) (-1))))) 9 2 (F_M_aboveOf (z_up (z_up w 9 0 (w 17 ((3 * a0).toNat))) 9 1 (F_J_bitCount_0f7a4 (z_up w 9 0 (w 17 ((3 * a0).toNat))) (zz_and (F_M_knownBy (z_up w 9 0 (w 17 ((3 * a0).toNat))) a0) (zz_xor (F_M_drowned (z_up w 9 0 (w 17 ((3 * a0).toNat)))) (-1))))) a0)) 9 3 (w 17 (((3 * a0) + 2).toNat))) a0)) 9 5 (w 19 38)) (w 0 33)).1))]) rfl (by decide) rfl rfl dX12_missedOf_116 rfl ?_
      refine z_iconst (pc' := 118) dX12_missedOf_117 rfl ?_
      refine z_bipush (pc' := 120) (by decide) dX12_missedOf_118 rfl ?_
      refine z_iload_n (pc' := 121) 2 rfl rfl dX12_missedOf_120 rfl ?_
      refine z_invS (as := [zI 30, zI ((F_M_worthOf (z_up (z_up (z_up (z_up (z_up (z_up w 9 0 (w 17 ((3 * a0).toNat))) 9 1 (F_J_bitCount_0f7a4 (z_up w 9 0 (w 17 ((3 * a0).toNat))) (zz_and (F_M_knownBy (z_up w 9 0 (w 17 ((3 * a0).toNat))) a0) (zz_xor (F_M_drowned (z_up w 9 0 (w 17 ((3 * a0).toNat)))) (-1))))) 9 2 (F_M_aboveOf (z_up (z_up w 9 0 (w 17 ((3 * a0).toNat))) 9 1 (F_J_bitCount_0f7a4 (z_up w 9 0 (w 17 ((3 * a0).toNat))) (zz_and (F_M_knownBy (z_up w 9 0 (w 17 ((3 * a0).toNat))) a0) (zz_xor (F_M_drowned (z_up w 9 0 (w 17 ((3 * a0).toNat)))) (-1))))) a0)) 9 3 (w 17 (((3 * a0) + 2).toNat))) 9 4 (F_M_wellOf (z_up (z_up (z_up (z_up w 9 0 (w 17 ((3 * a0).toNat))) 9 1 (F_J_bitCount_0f7a4 (z_up w 9 0 (w 17 ((3 * a0).toNat))) (zz_and (F_M_knownBy (z_up w 9 0 (w 17 ((3 * a0).toNat))) a0) (zz_xor (F_M_drowned (z_up w 9 0 (w 17 ((3 * a0).toNat)))) (-1))))) 9 2 (F_M_aboveOf (z_up (z_up w 9 0 (w 17 ((3 * a0).toNat))) 9 1 (F_J_bitCount_0f7a4 (z_up w 9 0 (w 17 ((3 * a0).toNat))) (zz_and (F_M_knownBy (z_up w 9 0 (w 17 ((3 * a0).toNat))) a0) (zz_xor (F_M_drowned (z_up w 9 0 (w 17 ((3 * a0).toNat)))) (-1))))) a0)) 9 3 (w 17 (((3 * a0) + 2).toNat))) a0)) 9 5 (w 19 38)) (w 0 33)).1)]) (st := [zI 0]) (C := m_J9_min_7cf53) (pc' := 124) dX12_missedOf_121 rfl t_7_185 k_J9_min_7cf53 rfl rfl (Nat.le_of_ble_eq_true rfl) ?_
      obtain ⟨r12, h⟩ := h
      refine c_J_min_7cf53 r12 ?_
      show z_Wp m_X12_missedOf _ 124 [(0, zR 0), (1, zI a0), (2, zI ((F_M_worthOf (z_up (z_up (z_up (z_up (z_up (z_up w 9 0 (w 17 ((3 * a0).toNat))) 9 1 (F_J_bitCount_0f7a4 (z_up w 9 0 (w 17 ((3 * a0).toNat))) (zz_and (F_M_knownBy (z_up w 9 0 (w 17 ((3 * a0).toNat))) a0) (zz_xor (F_M_drowned (z_up w 9 0 (w 17 ((3 * a0).toNat)))) (-1))))) 9 2 (F_M_aboveOf (z_up (z_up w 9 0 (w 17 ((3 * a0).toNat))) 9 1 (F_J_bitCount_0f7a4 (z_up w 9 0 (w 17 ((3 * a0).toNat))) (zz_and (F_M_knownBy (z_up w 9 0 (w 17 ((3 * a0).toNat))) a0) (zz_xor (F_M_drowned (z_up w 9 0 (w 17 ((3 * a0).toNat)))) (-1))))) a0)) 9 3 (w 17 (((3 * a0) + 2).toNat))) 9 4 (F_M_wellOf (z_up (z_up (z_up (z_up w 9 0 (w 17 ((3 * a0).toNat))) 9 1 (F_J_bitCount_0f7a4 (z_up w 9 0 (w 17 ((3 * a0).toNat))) (zz_and (F_M_knownBy (z_up w 9 0 (w 17 ((3 * a0).toNat))) a0) (zz_xor (F_M_drowned (z_up w 9 0 (w 17 ((3 * a0).toNat)))) (-1))))) 9 2 (F_M_aboveOf (z_up (z_up w 9 0 (w 17 ((3 * a0).toNat))) 9 1 (F_J_bitCount_0f7a4 (z_up w 9 0 (w 17 ((3 * a0).toNat))) (zz_and (F_M_knownBy (z_up w 9 0 (w 17 ((3 * a0).toNat))) a0) (zz_xor (F_M_drowned (z_up w 9 0 (w 17 ((3 * a0).toNat)))) (-1))))) a0)) 9 3 (w 17 (((3 * a0) + 2).toNat))) a0)) 9 5 (w 19 38)) (w 0 33)).1))] [zI (F_J_min_7cf53 ((F_M_worthOf (z_up (z_up (z_up (z_up (z_up (z_up w 9 0 (w 17 ((3 * a0).toNat))) 9 1 (F_J_bitCount_0f7a4 (z_up w 9 0 (w 17 ((3 * a0).toNat))) (zz_and (F_M_knownBy (z_up w 9 0 (w 17 ((3 * a0).toNat))) a0) (zz_xor (F_M_drowned (z_up w 9 0 (w 17 ((3 * a0).toNat)))) (-1))))) 9 2 (F_M_aboveOf (z_up (z_up w 9 0 (w 17 ((3 * a0).toNat))) 9 1 (F_J_bitCount_0f7a4 (z_up w 9 0 (w 17 ((3 * a0).toNat))) (zz_and (F_M_knownBy (z_up w 9 0 (w 17 ((3 * a0).toNat))) a0) (zz_xor (F_M_drowned (z_up w 9 0 (w 17 ((3 * a0).toNat)))) (-1))))) a0)) 9 3 (w 17 (((3 * a0) + 2).toNat))) 9 4 (F_M_wellOf (z_up (z_up (z_up (z_up w 9 0 (w 17 ((3 * a0).toNat))) 9 1 (F_J_bitCount_0f7a4 (z_up w 9 0 (w 17 ((3 * a0).toNat))) (zz_and (F_M_knownBy (z_up w 9 0 (w 17 ((3 * a0).toNat))) a0) (zz_xor (F_M_drowned (z_up w 9 0 (w 17 ((3 * a0).toNat)))) (-1))))) 9 2 (F_M_aboveOf (z_up (z_up w 9 0 (w 17 ((3 * a0).toNat))) 9 1 (F_J_bitCount_0f7a4 (z_up w 9 0 (w 17 ((3 * a0).toNat))) (zz_and (F_M_knownBy (z_up w 9 0 (w 17 ((3 * a0).toNat))) a0) (zz_xor (F_M_drowned (z_up w 9 0 (w 17 ((3 * a0).toNat)))) (-1))))) a0)) 9 3 (w 17 (((3 * a0) + 2).toNat))) a0)) 9 5 (w 19 38)) (w 0 33)).2) 30 ((F_M_worthOf (z_up (z_up (z_up (z_up (z_up (z_up w 9 0 (w 17 ((3 * a0).toNat))) 9 1 (F_J_bitCount_0f7a4 (z_up w 9 0 (w 17 ((3 * a0).toNat))) (zz_and (F_M_knownBy (z_up w 9 0 (w 17 ((3 * a0).toNat))) a0) (zz_xor (F_M_drowned (z_up w 9 0 (w 17 ((3 * a0).toNat)))) (-1))))) 9 2 (F_M_aboveOf (z_up (z_up w 9 0 (w 17 ((3 * a0).toNat))) 9 1 (F_J_bitCount_0f7a4 (z_up w 9 0 (w 17 ((3 * a0).toNat))) (zz_and (F_M_knownBy (z_up w 9 0 (w 17 ((3 * a0).toNat))) a0) (zz_xor (F_M_drowned (z_up w 9 0 (w 17 ((3 * a0).toNat)))) (-1))))) a0)) 9 3 (w 17 (((3 * a0) + 2).toNat))) 9 4 (F_M_wellOf (z_up (z_up (z_up (z_up w 9 0 (w 17 ((3 * a0).toNat))) 9 1 (F_J_bitCount_0f7a4 (z_up w 9 0 (w 17 ((3 * a0).toNat))) (zz_and (F_M_knownBy (z_up w 9 0 (w 17 ((3 * a0).toNat))) a0) (zz_xor (F_M_drowned (z_up w 9 0 (w 17 ((3 * a0).toNat)))) (-1))))) 9 2 (F_M_aboveOf (z_up (z_up w 9 0 (w 17 ((3 * a0).toNat))) 9 1 (F_J_bitCount_0f7a4 (z_up w 9 0 (w 17 ((3 * a0).toNat))) (zz_and (F_M_knownBy (z_up w 9 0 (w 17 ((3 * a0).toNat))) a0) (zz_xor (F_M_drowned (z_up w 9 0 (w 17 ((3 * a0).toNat)))) (-1))))) a0)) 9 3 (w 17 (((3 * a0) + 2).toNat))) a0)) 9 5 (w 19 38)) (w 0 33)).1)), zI 0] ((F_M_worthOf (z_up (z_up (z_up (z_up (z_up (z_up w 9 0 (w 17 ((3 * a0).toNat))) 9 1 (F_J_bitCount_0f7a4 (z_up w 9 0 (w 17 ((3 * a0).toNat))) (zz_and (F_M_knownBy (z_up w 9 0 (w 17 ((3 * a0).toNat))) a0) (zz_xor (F_M_drowned (z_up w 9 0 (w 17 ((3 * a0).toNat)))) (-1))))) 9 2 (F_M_aboveOf (z_up (z_up w 9 0 (w 17 ((3 * a0).toNat))) 9 1 (F_J_bitCount_0f7a4 (z_up w 9 0 (w 17 ((3 * a0).toNat))) (zz_and (F_M_knownBy (z_up w 9 0 (w 17 ((3 * a0).toNat))) a0) (zz_xor (F_M_drowned (z_up w 9 0 (w 17 ((3 * a0).toNat)))) (-1))))) a0)) 9 3 (w 17 (((3 * a0) + 2).toNat))) 9 4 (F_M_wellOf (z_up (z_up (z_up (z_up w 9 0 (w 17 ((3 * a0).toNat))) 9 1 (F_J_bitCount_0f7a4 (z_up w 9 0 (w 17 ((3 * a0).toNat))) (zz_and (F_M_knownBy (z_up w 9 0 (w 17 ((3 * a0).toNat))) a0) (zz_xor (F_M_drowned (z_up w 9 0 (w 17 ((3 * a0).toNat)))) (-1))))) 9 2 (F_M_aboveOf (z_up (z_up w 9 0 (w 17 ((3 * a0).toNat))) 9 1 (F_J_bitCount_0f7a4 (z_up w 9 0 (w 17 ((3 * a0).toNat))) (zz_and (F_M_knownBy (z_up w 9 0 (w 17 ((3 * a0).toNat))) a0) (zz_xor (F_M_drowned (z_up w 9 0 (w 17 ((3 * a0).toNat)))) (-1))))) a0)) 9 3 (w 17 (((3 * a0) + 2).toNat))) a0)) 9 5 (w 19 38)) (w 0 33)).2) _
      refine z_invS (as := [zI 0, zI (F_J_min_7cf53 ((F_M_worthOf (z_up (z_up (z_up (z_up (z_up (z_up w 9 0 (w 17 ((3 * a0).toNat))) 9 1 (F_J_bitCount_0f7a4 (z_up w 9 0 (w 17 ((3 * a0).toNat))) (zz_and (F_M_knownBy (z_up w 9 0 (w 17 ((3 * a0).toNat))) a0) (zz_xor (F_M_drowned (z_up w 9 0 (w 17 ((3 * a0).toNat)))) (-1))))) 9 2 (F_M_aboveOf (z_up (z_up w 9 0 (w 17 ((3 * a0).toNat))) 9 1 (F_J_bitCount_0f7a4 (z_up w 9 0 (w 17 ((3 * a0).toNat))) (zz_and (F_M_knownBy (z_up w 9 0 (w 17 ((3 * a0).toNat))) a0) (zz_xor (F_M_drowned (z_up w 9 0 (w 17 ((3 * a0).toNat)))) (-1))))) a0)) 9 3 (w 17 (((3 * a0) + 2).toNat))) 9 4 (F_M_wellOf (z_up (z_up (z_up (z_up w 9 0 (w 17 ((3 * a0).toNat))) 9 1 (F_J_bitCount_0f7a4 (z_up w 9 0 (w 17 ((3 * a0).toNat))) (zz_and (F_M_knownBy (z_up w 9 0 (w 17 ((3 * a0).toNat))) a0) (zz_xor (F_M_drowned (z_up w 9 0 (w 17 ((3 * a0).toNat)))) (-1))))) 9 2 (F_M_aboveOf (z_up (z_up w 9 0 (w 17 ((3 * a0).toNat))) 9 1 (F_J_bitCount_0f7a4 (z_up w 9 0 (w 17 ((3 * a0).toNat))) (zz_and (F_M_knownBy (z_up w 9 0 (w 17 ((3 * a0).toNat))) a0) (zz_xor (F_M_drowned (z_up w 9 0 (w 17 ((3 * a0).toNat)))) (-1))))) a0)) 9 3 (w 17 (((3 * a0) + 2).toNat))) a0)) 9 5 (w 19 38)) (w 0 33)).2) 30 ((F_M_worthOf (z_up (z_up (z_up (z_up (z_up (z_up w 9 0 (w 17 ((3 * a0).toNat))) 9 1 (F_J_bitCount_0f7a4 (z_up w 9 0 (w 17 ((3 * a0).toNat))) (zz_and (F_M_knownBy (z_up w 9 0 (w 17 ((3 * a0).toNat))) a0) (zz_xor (F_M_drowned (z_up w 9 0 (w 17 ((3 * a0).toNat)))) (-1))))) 9 2 (F_M_aboveOf (z_up (z_up w 9 0 (w 17 ((3 * a0).toNat))) 9 1 (F_J_bitCount_0f7a4 (z_up w 9 0 (w 17 ((3 * a0).toNat))) (zz_and (F_M_knownBy (z_up w 9 0 (w 17 ((3 * a0).toNat))) a0) (zz_xor (F_M_drowned (z_up w 9 0 (w 17 ((3 * a0).toNat)))) (-1))))) a0)) 9 3 (w 17 (((3 * a0) + 2).toNat))) 9 4 (F_M_wellOf (z_up (z_up (z_up (z_up w 9 0 (w 17 ((3 * a0).toNat))) 9 1 (F_J_bitCount_0f7a4 (z_up w 9 0 (w 17 ((3 * a0).toNat))) (zz_and (F_M_knownBy (z_up w 9 0 (w 17 ((3 * a0).toNat))) a0) (zz_xor (F_M_drowned (z_up w 9 0 (w 17 ((3 * a0).toNat)))) (-1))))) 9 2 (F_M_aboveOf (z_up (z_up w 9 0 (w 17 ((3 * a0).toNat))) 9 1 (F_J_bitCount_0f7a4 (z_up w 9 0 (w 17 ((3 * a0).toNat))) (zz_and (F_M_knownBy (z_up w 9 0 (w 17 ((3 * a0).toNat))) a0) (zz_xor (F_M_drowned (z_up w 9 0 (w 17 ((3 * a0).toNat)))) (-1))))) a0)) 9 3 (w 17 (((3 * a0) + 2).toNat))) a0)) 9 5 (w 19 38)) (w 0 33)).1))]) (st := []) (C := m_J9_max_7cf53) (pc' := 127) dX12_missedOf_124 rfl t_7_186 k_J9_max_7cf53 rfl rfl (Nat.le_of_ble_eq_true rfl) ?_
      have r13 := h
      refine c_J_max_7cf53 r13 ?_
      show z_Wp m_X12_missedOf _ 127 [(0, zR 0), (1, zI a0), (2, zI ((F_M_worthOf (z_up (z_up (z_up (z_up (z_up (z_up w 9 0 (w 17 ((3 * a0).toNat))) 9 1 (F_J_bitCount_0f7a4 (z_up w 9 0 (w 17 ((3 * a0).toNat))) (zz_and (F_M_knownBy (z_up w 9 0 (w 17 ((3 * a0).toNat))) a0) (zz_xor (F_M_drowned (z_up w 9 0 (w 17 ((3 * a0).toNat)))) (-1))))) 9 2 (F_M_aboveOf (z_up (z_up w 9 0 (w 17 ((3 * a0).toNat))) 9 1 (F_J_bitCount_0f7a4 (z_up w 9 0 (w 17 ((3 * a0).toNat))) (zz_and (F_M_knownBy (z_up w 9 0 (w 17 ((3 * a0).toNat))) a0) (zz_xor (F_M_drowned (z_up w 9 0 (w 17 ((3 * a0).toNat)))) (-1))))) a0)) 9 3 (w 17 (((3 * a0) + 2).toNat))) 9 4 (F_M_wellOf (z_up (z_up (z_up (z_up w 9 0 (w 17 ((3 * a0).toNat))) 9 1 (F_J_bitCount_0f7a4 (z_up w 9 0 (w 17 ((3 * a0).toNat))) (zz_and (F_M_knownBy (z_up w 9 0 (w 17 ((3 * a0).toNat))) a0) (zz_xor (F_M_drowned (z_up w 9 0 (w 17 ((3 * a0).toNat)))) (-1))))) 9 2 (F_M_aboveOf (z_up (z_up w 9 0 (w 17 ((3 * a0).toNat))) 9 1 (F_J_bitCount_0f7a4 (z_up w 9 0 (w 17 ((3 * a0).toNat))) (zz_and (F_M_knownBy (z_up w 9 0 (w 17 ((3 * a0).toNat))) a0) (zz_xor (F_M_drowned (z_up w 9 0 (w 17 ((3 * a0).toNat)))) (-1))))) a0)) 9 3 (w 17 (((3 * a0) + 2).toNat))) a0)) 9 5 (w 19 38)) (w 0 33)).1))] [zI (F_J_max_7cf53 ((F_M_worthOf (z_up (z_up (z_up (z_up (z_up (z_up w 9 0 (w 17 ((3 * a0).toNat))) 9 1 (F_J_bitCount_0f7a4 (z_up w 9 0 (w 17 ((3 * a0).toNat))) (zz_and (F_M_knownBy (z_up w 9 0 (w 17 ((3 * a0).toNat))) a0) (zz_xor (F_M_drowned (z_up w 9 0 (w 17 ((3 * a0).toNat)))) (-1))))) 9 2 (F_M_aboveOf (z_up (z_up w 9 0 (w 17 ((3 * a0).toNat))) 9 1 (F_J_bitCount_0f7a4 (z_up w 9 0 (w 17 ((3 * a0).toNat))) (zz_and (F_M_knownBy (z_up w 9 0 (w 17 ((3 * a0).toNat))) a0) (zz_xor (F_M_drowned (z_up w 9 0 (w 17 ((3 * a0).toNat)))) (-1))))) a0)) 9 3 (w 17 (((3 * a0) + 2).toNat))) 9 4 (F_M_wellOf (z_up (z_up (z_up (z_up w 9 0 (w 17 ((3 * a0).toNat))) 9 1 (F_J_bitCount_0f7a4 (z_up w 9 0 (w 17 ((3 * a0).toNat))) (zz_and (F_M_knownBy (z_up w 9 0 (w 17 ((3 * a0).toNat))) a0) (zz_xor (F_M_drowned (z_up w 9 0 (w 17 ((3 * a0).toNat)))) (-1))))) 9 2 (F_M_aboveOf (z_up (z_up w 9 0 (w 17 ((3 * a0).toNat))) 9 1 (F_J_bitCount_0f7a4 (z_up w 9 0 (w 17 ((3 * a0).toNat))) (zz_and (F_M_knownBy (z_up w 9 0 (w 17 ((3 * a0).toNat))) a0) (zz_xor (F_M_drowned (z_up w 9 0 (w 17 ((3 * a0).toNat)))) (-1))))) a0)) 9 3 (w 17 (((3 * a0) + 2).toNat))) a0)) 9 5 (w 19 38)) (w 0 33)).2) 0 (F_J_min_7cf53 ((F_M_worthOf (z_up (z_up (z_up (z_up (z_up (z_up w 9 0 (w 17 ((3 * a0).toNat))) 9 1 (F_J_bitCount_0f7a4 (z_up w 9 0 (w 17 ((3 * a0).toNat))) (zz_and (F_M_knownBy (z_up w 9 0 (w 17 ((3 * a0).toNat))) a0) (zz_xor (F_M_drowned (z_up w 9 0 (w 17 ((3 * a0).toNat)))) (-1))))) 9 2 (F_M_aboveOf (z_up (z_up w 9 0 (w 17 ((3 * a0).toNat))) 9 1 (F_J_bitCount_0f7a4 (z_up w 9 0 (w 17 ((3 * a0).toNat))) (zz_and (F_M_knownBy (z_up w 9 0 (w 17 ((3 * a0).toNat))) a0) (zz_xor (F_M_drowned (z_up w 9 0 (w 17 ((3 * a0).toNat)))) (-1))))) a0)) 9 3 (w 17 (((3 * a0) + 2).toNat))) 9 4 (F_M_wellOf (z_up (z_up (z_up (z_up w 9 0 (w 17 ((3 * a0).toNat))) 9 1 (F_J_bitCount_0f7a4 (z_up w 9 0 (w 17 ((3 * a0).toNat))) (zz_and (F_M_knownBy (z_up w 9 0 (w 17 ((3 * a0).toNat))) a0) (zz_xor (F_M_drowned (z_up w 9 0 (w 17 ((3 * a0).toNat)))) (-1))))) 9 2 (F_M_aboveOf (z_up (z_up w 9 0 (w 17 ((3 * a0).toNat))) 9 1 (F_J_bitCount_0f7a4 (z_up w 9 0 (w 17 ((3 * a0).toNat))) (zz_and (F_M_knownBy (z_up w 9 0 (w 17 ((3 * a0).toNat))) a0) (zz_xor (F_M_drowned (z_up w 9 0 (w 17 ((3 * a0).toNat)))) (-1))))) a0)) 9 3 (w 17 (((3 * a0) + 2).toNat))) a0)) 9 5 (w 19 38)) (w 0 33)).2) 30 ((F_M_worthOf (z_up (z_up (z_up (z_up (z_up (z_up w 9 0 (w 17 ((3 * a0).toNat))) 9 1 (F_J_bitCount_0f7a4 (z_up w 9 0 (w 17 ((3 * a0).toNat))) (zz_and (F_M_knownBy (z_up w 9 0 (w 17 ((3 * a0).toNat))) a0) (zz_xor (F_M_drowned (z_up w 9 0 (w 17 ((3 * a0).toNat)))) (-1))))) 9 2 (F_M_aboveOf (z_up (z_up w 9 0 (w 17 ((3 * a0).toNat))) 9 1 (F_J_bitCount_0f7a4 (z_up w 9 0 (w 17 ((3 * a0).toNat))) (zz_and (F_M_knownBy (z_up w 9 0 (w 17 ((3 * a0).toNat))) a0) (zz_xor (F_M_drowned (z_up w 9 0 (w 17 ((3 * a0).toNat)))) (-1))))) a0)) 9 3 (w 17 (((3 * a0) + 2).toNat))) 9 4 (F_M_wellOf (z_up (z_up (z_up (z_up w 9 0 (w 17 ((3 * a0).toNat))) 9 1 (F_J_bitCount_0f7a4 (z_up w 9 0 (w 17 ((3 * a0).toNat))) (zz_and (F_M_knownBy (z_up w 9 0 (w 17 ((3 * a0).toNat))) a0) (zz_xor (F_M_drowned (z_up w 9 0 (w 17 ((3 * a0).toNat)))) (-1))))) 9 2 (F_M_aboveOf (z_up (z_up w 9 0 (w 17 ((3 * a0).toNat))) 9 1 (F_J_bitCount_0f7a4 (z_up w 9 0 (w 17 ((3 * a0).toNat))) (zz_and (F_M_knownBy (z_up w 9 0 (w 17 ((3 * a0).toNat))) a0) (zz_xor (F_M_drowned (z_up w 9 0 (w 17 ((3 * a0).toNat)))) (-1))))) a0)) 9 3 (w 17 (((3 * a0) + 2).toNat))) a0)) 9 5 (w 19 38)) (w 0 33)).1)))] ((F_M_worthOf (z_up (z_up (z_up (z_up (z_up (z_up w 9 0 (w 17 ((3 * a0).toNat))) 9 1 (F_J_bitCount_0f7a4 (z_up w 9 0 (w 17 ((3 * a0).toNat))) (zz_and (F_M_knownBy (z_up w 9 0 (w 17 ((3 * a0).toNat))) a0) (zz_xor (F_M_drowned (z_up w 9 0 (w 17 ((3 * a0).toNat)))) (-1))))) 9 2 (F_M_aboveOf (z_up (z_up w 9 0 (w 17 ((3 * a0).toNat))) 9 1 (F_J_bitCount_0f7a4 (z_up w 9 0 (w 17 ((3 * a0).toNat))) (zz_and (F_M_knownBy (z_up w 9 0 (w 17 ((3 * a0).toNat))) a0) (zz_xor (F_M_drowned (z_up w 9 0 (w 17 ((3 * a0).toNat)))) (-1))))) a0)) 9 3 (w 17 (((3 * a0) + 2).toNat))) 9 4 (F_M_wellOf (z_up (z_up (z_up (z_up w 9 0 (w 17 ((3 * a0).toNat))) 9 1 (F_J_bitCount_0f7a4 (z_up w 9 0 (w 17 ((3 * a0).toNat))) (zz_and (F_M_knownBy (z_up w 9 0 (w 17 ((3 * a0).toNat))) a0) (zz_xor (F_M_drowned (z_up w 9 0 (w 17 ((3 * a0).toNat)))) (-1))))) 9 2 (F_M_aboveOf (z_up (z_up w 9 0 (w 17 ((3 * a0).toNat))) 9 1 (F_J_bitCount_0f7a4 (z_up w 9 0 (w 17 ((3 * a0).toNat))) (zz_and (F_M_knownBy (z_up w 9 0 (w 17 ((3 * a0).toNat))) a0) (zz_xor (F_M_drowned (z_up w 9 0 (w 17 ((3 * a0).toNat)))) (-1))))) a0)) 9 3 (w 17 (((3 * a0) + 2).toNat))) a0)) 9 5 (w 19 38)) (w 0 33)).2) _
      refine z_iret rfl dX12_missedOf_127 ?_
      exact k
    · have h := h.2 c
      rw [if_neg c] at k
      refine z_aload_n (pc' := 83) 0 rfl rfl dX12_missedOf_82 rfl ?_
      refine z_getI2 (v := w 0 28) (pc' := 86) g_X12_257 (by decide) rfl rfl rfl dX12_missedOf_83 rfl ?_
      refine z_goto 94 dX12_missedOf_86 (by decide) ?_
      refine z_iast2 (w' := z_up (z_up (z_up (z_up (z_up w 9 0 (w 17 ((3 * a0).toNat))) 9 1 (F_J_bitCount_0f7a4 (z_up w 9 0 (w 17 ((3 * a0).toNat))) (zz_and (F_M_knownBy (z_up w 9 0 (w 17 ((3 * a0).toNat))) a0) (zz_xor (F_M_drowned (z_up w 9 0 (w 17 ((3 * a0).toNat)))) (-1))))) 9 2 (F_M_aboveOf (z_up (z_up w 9 0 (w 17 ((3 * a0).toNat))) 9 1 (F_J_bitCount_0f7a4 (z_up w 9 0 (w 17 ((3 * a0).toNat))) (zz_and (F_M_knownBy (z_up w 9 0 (w 17 ((3 * a0).toNat))) a0) (zz_xor (F_M_drowned (z_up w 9 0 (w 17 ((3 * a0).toNat)))) (-1))))) a0)) 9 3 (w 17 (((3 * a0) + 2).toNat))) 9 4 (w 0 28)) (pc' := 95) (by decide) rfl (by decide) (by decide) rfl dX12_missedOf_94 rfl ?_
      refine z_aload_n (pc' := 96) 0 rfl rfl dX12_missedOf_95 rfl ?_
      refine z_getR (t := 9) (pc' := 99) g_X12_34 (by decide) rfl rfl dX12_missedOf_96 rfl ?_
      refine z_iconst (pc' := 100) dX12_missedOf_99 rfl ?_
      refine z_aload_n (pc' := 101) 0 rfl rfl dX12_missedOf_100 rfl ?_
      refine z_getR (t := 19) (pc' := 104) g_X12_64 (by decide) rfl rfl dX12_missedOf_101 rfl ?_
      refine z_bipush (pc' := 106) (by decide) dX12_missedOf_104 rfl ?_
      refine z_iald2 (v := w 19 38) (pc' := 107) (by decide) rfl (by decide) (by decide) rfl dX12_missedOf_106 rfl ?_
      refine z_iast2 (w' := z_up (z_up (z_up (z_up (z_up (z_up w 9 0 (w 17 ((3 * a0).toNat))) 9 1 (F_J_bitCount_0f7a4 (z_up w 9 0 (w 17 ((3 * a0).toNat))) (zz_and (F_M_knownBy (z_up w 9 0 (w 17 ((3 * a0).toNat))) a0) (zz_xor (F_M_drowned (z_up w 9 0 (w 17 ((3 * a0).toNat)))) (-1))))) 9 2 (F_M_aboveOf (z_up (z_up w 9 0 (w 17 ((3 * a0).toNat))) 9 1 (F_J_bitCount_0f7a4 (z_up w 9 0 (w 17 ((3 * a0).toNat))) (zz_and (F_M_knownBy (z_up w 9 0 (w 17 ((3 * a0).toNat))) a0) (zz_xor (F_M_drowned (z_up w 9 0 (w 17 ((3 * a0).toNat)))) (-1))))) a0)) 9 3 (w 17 (((3 * a0) + 2).toNat))) 9 4 (w 0 28)) 9 5 (w 19 38)) (pc' := 108) (by decide) rfl (by decide) (by decide) rfl dX12_missedOf_107 rfl ?_
      refine z_aload_n (pc' := 109) 0 rfl rfl dX12_missedOf_108 rfl ?_
      refine z_aload_n (pc' := 110) 0 rfl rfl dX12_missedOf_109 rfl ?_
      refine z_getI2 (v := w 0 33) (pc' := 113) g_X12_70 (by decide) rfl rfl rfl dX12_missedOf_110 rfl ?_
      refine z_invV (as := [zI (w 0 33)]) (st := []) (C := m_X12_worthOf) (fs := [0, 3, 0, 0, 0, 0, 4, 5, 6, 7, 8, 9, 10, 0, 0, 11, 12, 13, 14, 15, 16, 0, 0, 0, 17, 18, 19, 20, 0, 0, 0, 21, 22, 0, 0, 23, 0, 1, 24, 0, 0, 25, 26, 0, 27, 0]) (pc' := 116) dX12_missedOf_113 rfl t_7_163 k_X12_worthOf rfl (by decide) rfl rfl rfl rfl (Nat.le_of_ble_eq_true rfl) ?_
      obtain ⟨r14, h⟩ := h
      refine c_M_worthOf r14 ?_
      show z_Wp m_X12_missedOf _ 116 [(0, zR 0), (1, zI a0), (2, zI ((w 17 ((3 * a0).toNat)) + (2 * (F_J_bitCount_0f7a4 w (zz_and (F_M_knownBy w a0) (zz_xor (F_M_drowned w) (-1)))))))] [zI ((F_M_worthOf (z_up (z_up (z_up (z_up (z_up (z_up w 9 0 (w 17 ((3 * a0).toNat))) 9 1 (F_J_bitCount_0f7a4 (z_up w 9 0 (w 17 ((3 * a0).toNat))) (zz_and (F_M_knownBy (z_up w 9 0 (w 17 ((3 * a0).toNat))) a0) (zz_xor (F_M_drowned (z_up w 9 0 (w 17 ((3 * a0).toNat)))) (-1))))) 9 2 (F_M_aboveOf (z_up (z_up w 9 0 (w 17 ((3 * a0).toNat))) 9 1 (F_J_bitCount_0f7a4 (z_up w 9 0 (w 17 ((3 * a0).toNat))) (zz_and (F_M_knownBy (z_up w 9 0 (w 17 ((3 * a0).toNat))) a0) (zz_xor (F_M_drowned (z_up w 9 0 (w 17 ((3 * a0).toNat)))) (-1))))) a0)) 9 3 (w 17 (((3 * a0) + 2).toNat))) 9 4 (w 0 28)) 9 5 (w 19 38)) (w 0 33)).1)] ((F_M_worthOf (z_up (z_up (z_up (z_up (z_up (z_up w 9 0 (w 17 ((3 * a0).toNat))) 9 1 (F_J_bitCount_0f7a4 (z_up w 9 0 (w 17 ((3 * a0).toNat))) (zz_and (F_M_knownBy (z_up w 9 0 (w 17 ((3 * a0).toNat))) a0) (zz_xor (F_M_drowned (z_up w 9 0 (w 17 ((3 * a0).toNat)))) (-1))))) 9 2 (F_M_aboveOf (z_up (z_up w 9 0 (w 17 ((3 * a0).toNat))) 9 1 (F_J_bitCount_0f7a4 (z_up w 9 0 (w 17 ((3 * a0).toNat))) (zz_and (F_M_knownBy (z_up w 9 0 (w 17 ((3 * a0).toNat))) a0) (zz_xor (F_M_drowned (z_up w 9 0 (w 17 ((3 * a0).toNat)))) (-1))))) a0)) 9 3 (w 17 (((3 * a0) + 2).toNat))) 9 4 (w 0 28)) 9 5 (w 19 38)) (w 0 33)).2) _
      refine z_istore_n (pc' := 117) (ls' := [(0, zR 0), (1, zI a0), (2, zI ((F_M_worthOf (z_up (z_up (z_up (z_up (z_up (z_up w 9 0 (w 17 ((3 * a0).toNat))) 9 1 (F_J_bitCount_0f7a4 (z_up w 9 0 (w 17 ((3 * a0).toNat))) (zz_and (F_M_knownBy (z_up w 9 0 (w 17 ((3 * a0).toNat))) a0) (zz_xor (F_M_drowned (z_up w 9 0 (w 17 ((3 * a0).toNat)))) (-1))))) 9 2 (F_M_aboveOf (z_up (z_up w 9 0 (w 17 ((3 * a0).toNat))) 9 1 (F_J_bitCount_0f7a4 (z_up w 9 0 (w 17 ((3 * a0).toNat))) (zz_and (F_M_knownBy (z_up w 9 0 (w 17 ((3 * a0).toNat))) a0) (zz_xor (F_M_drowned (z_up w 9 0 (w 17 ((3 * a0).toNat)))) (-1))))) a0)) 9 3 (w 17 (((3 * a0) + 2).toNat))) 9 4 (w 0 28)) 9 5 (w 19 38)) (w 0 33)).1))]) rfl (by decide) rfl rfl dX12_missedOf_116 rfl ?_
      refine z_iconst (pc' := 118) dX12_missedOf_117 rfl ?_
      refine z_bipush (pc' := 120) (by decide) dX12_missedOf_118 rfl ?_
      refine z_iload_n (pc' := 121) 2 rfl rfl dX12_missedOf_120 rfl ?_
      refine z_invS (as := [zI 30, zI ((F_M_worthOf (z_up (z_up (z_up (z_up (z_up (z_up w 9 0 (w 17 ((3 * a0).toNat))) 9 1 (F_J_bitCount_0f7a4 (z_up w 9 0 (w 17 ((3 * a0).toNat))) (zz_and (F_M_knownBy (z_up w 9 0 (w 17 ((3 * a0).toNat))) a0) (zz_xor (F_M_drowned (z_up w 9 0 (w 17 ((3 * a0).toNat)))) (-1))))) 9 2 (F_M_aboveOf (z_up (z_up w 9 0 (w 17 ((3 * a0).toNat))) 9 1 (F_J_bitCount_0f7a4 (z_up w 9 0 (w 17 ((3 * a0).toNat))) (zz_and (F_M_knownBy (z_up w 9 0 (w 17 ((3 * a0).toNat))) a0) (zz_xor (F_M_drowned (z_up w 9 0 (w 17 ((3 * a0).toNat)))) (-1))))) a0)) 9 3 (w 17 (((3 * a0) + 2).toNat))) 9 4 (w 0 28)) 9 5 (w 19 38)) (w 0 33)).1)]) (st := [zI 0]) (C := m_J9_min_7cf53) (pc' := 124) dX12_missedOf_121 rfl t_7_185 k_J9_min_7cf53 rfl rfl (Nat.le_of_ble_eq_true rfl) ?_
      obtain ⟨r15, h⟩ := h
      refine c_J_min_7cf53 r15 ?_
      show z_Wp m_X12_missedOf _ 124 [(0, zR 0), (1, zI a0), (2, zI ((F_M_worthOf (z_up (z_up (z_up (z_up (z_up (z_up w 9 0 (w 17 ((3 * a0).toNat))) 9 1 (F_J_bitCount_0f7a4 (z_up w 9 0 (w 17 ((3 * a0).toNat))) (zz_and (F_M_knownBy (z_up w 9 0 (w 17 ((3 * a0).toNat))) a0) (zz_xor (F_M_drowned (z_up w 9 0 (w 17 ((3 * a0).toNat)))) (-1))))) 9 2 (F_M_aboveOf (z_up (z_up w 9 0 (w 17 ((3 * a0).toNat))) 9 1 (F_J_bitCount_0f7a4 (z_up w 9 0 (w 17 ((3 * a0).toNat))) (zz_and (F_M_knownBy (z_up w 9 0 (w 17 ((3 * a0).toNat))) a0) (zz_xor (F_M_drowned (z_up w 9 0 (w 17 ((3 * a0).toNat)))) (-1))))) a0)) 9 3 (w 17 (((3 * a0) + 2).toNat))) 9 4 (w 0 28)) 9 5 (w 19 38)) (w 0 33)).1))] [zI (F_J_min_7cf53 ((F_M_worthOf (z_up (z_up (z_up (z_up (z_up (z_up w 9 0 (w 17 ((3 * a0).toNat))) 9 1 (F_J_bitCount_0f7a4 (z_up w 9 0 (w 17 ((3 * a0).toNat))) (zz_and (F_M_knownBy (z_up w 9 0 (w 17 ((3 * a0).toNat))) a0) (zz_xor (F_M_drowned (z_up w 9 0 (w 17 ((3 * a0).toNat)))) (-1))))) 9 2 (F_M_aboveOf (z_up (z_up w 9 0 (w 17 ((3 * a0).toNat))) 9 1 (F_J_bitCount_0f7a4 (z_up w 9 0 (w 17 ((3 * a0).toNat))) (zz_and (F_M_knownBy (z_up w 9 0 (w 17 ((3 * a0).toNat))) a0) (zz_xor (F_M_drowned (z_up w 9 0 (w 17 ((3 * a0).toNat)))) (-1))))) a0)) 9 3 (w 17 (((3 * a0) + 2).toNat))) 9 4 (w 0 28)) 9 5 (w 19 38)) (w 0 33)).2) 30 ((F_M_worthOf (z_up (z_up (z_up (z_up (z_up (z_up w 9 0 (w 17 ((3 * a0).toNat))) 9 1 (F_J_bitCount_0f7a4 (z_up w 9 0 (w 17 ((3 * a0).toNat))) (zz_and (F_M_knownBy (z_up w 9 0 (w 17 ((3 * a0).toNat))) a0) (zz_xor (F_M_drowned (z_up w 9 0 (w 17 ((3 * a0).toNat)))) (-1))))) 9 2 (F_M_aboveOf (z_up (z_up w 9 0 (w 17 ((3 * a0).toNat))) 9 1 (F_J_bitCount_0f7a4 (z_up w 9 0 (w 17 ((3 * a0).toNat))) (zz_and (F_M_knownBy (z_up w 9 0 (w 17 ((3 * a0).toNat))) a0) (zz_xor (F_M_drowned (z_up w 9 0 (w 17 ((3 * a0).toNat)))) (-1))))) a0)) 9 3 (w 17 (((3 * a0) + 2).toNat))) 9 4 (w 0 28)) 9 5 (w 19 38)) (w 0 33)).1)), zI 0] ((F_M_worthOf (z_up (z_up (z_up (z_up (z_up (z_up w 9 0 (w 17 ((3 * a0).toNat))) 9 1 (F_J_bitCount_0f7a4 (z_up w 9 0 (w 17 ((3 * a0).toNat))) (zz_and (F_M_knownBy (z_up w 9 0 (w 17 ((3 * a0).toNat))) a0) (zz_xor (F_M_drowned (z_up w 9 0 (w 17 ((3 * a0).toNat)))) (-1))))) 9 2 (F_M_aboveOf (z_up (z_up w 9 0 (w 17 ((3 * a0).toNat))) 9 1 (F_J_bitCount_0f7a4 (z_up w 9 0 (w 17 ((3 * a0).toNat))) (zz_and (F_M_knownBy (z_up w 9 0 (w 17 ((3 * a0).toNat))) a0) (zz_xor (F_M_drowned (z_up w 9 0 (w 17 ((3 * a0).toNat)))) (-1))))) a0)) 9 3 (w 17 (((3 * a0) + 2).toNat))) 9 4 (w 0 28)) 9 5 (w 19 38)) (w 0 33)).2) _
      refine z_invS (as := [zI 0, zI (F_J_min_7cf53 ((F_M_worthOf (z_up (z_up (z_up (z_up (z_up (z_up w 9 0 (w 17 ((3 * a0).toNat))) 9 1 (F_J_bitCount_0f7a4 (z_up w 9 0 (w 17 ((3 * a0).toNat))) (zz_and (F_M_knownBy (z_up w 9 0 (w 17 ((3 * a0).toNat))) a0) (zz_xor (F_M_drowned (z_up w 9 0 (w 17 ((3 * a0).toNat)))) (-1))))) 9 2 (F_M_aboveOf (z_up (z_up w 9 0 (w 17 ((3 * a0).toNat))) 9 1 (F_J_bitCount_0f7a4 (z_up w 9 0 (w 17 ((3 * a0).toNat))) (zz_and (F_M_knownBy (z_up w 9 0 (w 17 ((3 * a0).toNat))) a0) (zz_xor (F_M_drowned (z_up w 9 0 (w 17 ((3 * a0).toNat)))) (-1))))) a0)) 9 3 (w 17 (((3 * a0) + 2).toNat))) 9 4 (w 0 28)) 9 5 (w 19 38)) (w 0 33)).2) 30 ((F_M_worthOf (z_up (z_up (z_up (z_up (z_up (z_up w 9 0 (w 17 ((3 * a0).toNat))) 9 1 (F_J_bitCount_0f7a4 (z_up w 9 0 (w 17 ((3 * a0).toNat))) (zz_and (F_M_knownBy (z_up w 9 0 (w 17 ((3 * a0).toNat))) a0) (zz_xor (F_M_drowned (z_up w 9 0 (w 17 ((3 * a0).toNat)))) (-1))))) 9 2 (F_M_aboveOf (z_up (z_up w 9 0 (w 17 ((3 * a0).toNat))) 9 1 (F_J_bitCount_0f7a4 (z_up w 9 0 (w 17 ((3 * a0).toNat))) (zz_and (F_M_knownBy (z_up w 9 0 (w 17 ((3 * a0).toNat))) a0) (zz_xor (F_M_drowned (z_up w 9 0 (w 17 ((3 * a0).toNat)))) (-1))))) a0)) 9 3 (w 17 (((3 * a0) + 2).toNat))) 9 4 (w 0 28)) 9 5 (w 19 38)) (w 0 33)).1))]) (st := []) (C := m_J9_max_7cf53) (pc' := 127) dX12_missedOf_124 rfl t_7_186 k_J9_max_7cf53 rfl rfl (Nat.le_of_ble_eq_true rfl) ?_
      have r16 := h
      refine c_J_max_7cf53 r16 ?_
      show z_Wp m_X12_missedOf _ 127 [(0, zR 0), (1, zI a0), (2, zI ((F_M_worthOf (z_up (z_up (z_up (z_up (z_up (z_up w 9 0 (w 17 ((3 * a0).toNat))) 9 1 (F_J_bitCount_0f7a4 (z_up w 9 0 (w 17 ((3 * a0).toNat))) (zz_and (F_M_knownBy (z_up w 9 0 (w 17 ((3 * a0).toNat))) a0) (zz_xor (F_M_drowned (z_up w 9 0 (w 17 ((3 * a0).toNat)))) (-1))))) 9 2 (F_M_aboveOf (z_up (z_up w 9 0 (w 17 ((3 * a0).toNat))) 9 1 (F_J_bitCount_0f7a4 (z_up w 9 0 (w 17 ((3 * a0).toNat))) (zz_and (F_M_knownBy (z_up w 9 0 (w 17 ((3 * a0).toNat))) a0) (zz_xor (F_M_drowned (z_up w 9 0 (w 17 ((3 * a0).toNat)))) (-1))))) a0)) 9 3 (w 17 (((3 * a0) + 2).toNat))) 9 4 (w 0 28)) 9 5 (w 19 38)) (w 0 33)).1))] [zI (F_J_max_7cf53 ((F_M_worthOf (z_up (z_up (z_up (z_up (z_up (z_up w 9 0 (w 17 ((3 * a0).toNat))) 9 1 (F_J_bitCount_0f7a4 (z_up w 9 0 (w 17 ((3 * a0).toNat))) (zz_and (F_M_knownBy (z_up w 9 0 (w 17 ((3 * a0).toNat))) a0) (zz_xor (F_M_drowned (z_up w 9 0 (w 17 ((3 * a0).toNat)))) (-1))))) 9 2 (F_M_aboveOf (z_up (z_up w 9 0 (w 17 ((3 * a0).toNat))) 9 1 (F_J_bitCount_0f7a4 (z_up w 9 0 (w 17 ((3 * a0).toNat))) (zz_and (F_M_knownBy (z_up w 9 0 (w 17 ((3 * a0).toNat))) a0) (zz_xor (F_M_drowned (z_up w 9 0 (w 17 ((3 * a0).toNat)))) (-1))))) a0)) 9 3 (w 17 (((3 * a0) + 2).toNat))) 9 4 (w 0 28)) 9 5 (w 19 38)) (w 0 33)).2) 0 (F_J_min_7cf53 ((F_M_worthOf (z_up (z_up (z_up (z_up (z_up (z_up w 9 0 (w 17 ((3 * a0).toNat))) 9 1 (F_J_bitCount_0f7a4 (z_up w 9 0 (w 17 ((3 * a0).toNat))) (zz_and (F_M_knownBy (z_up w 9 0 (w 17 ((3 * a0).toNat))) a0) (zz_xor (F_M_drowned (z_up w 9 0 (w 17 ((3 * a0).toNat)))) (-1))))) 9 2 (F_M_aboveOf (z_up (z_up w 9 0 (w 17 ((3 * a0).toNat))) 9 1 (F_J_bitCount_0f7a4 (z_up w 9 0 (w 17 ((3 * a0).toNat))) (zz_and (F_M_knownBy (z_up w 9 0 (w 17 ((3 * a0).toNat))) a0) (zz_xor (F_M_drowned (z_up w 9 0 (w 17 ((3 * a0).toNat)))) (-1))))) a0)) 9 3 (w 17 (((3 * a0) + 2).toNat))) 9 4 (w 0 28)) 9 5 (w 19 38)) (w 0 33)).2) 30 ((F_M_worthOf (z_up (z_up (z_up (z_up (z_up (z_up w 9 0 (w 17 ((3 * a0).toNat))) 9 1 (F_J_bitCount_0f7a4 (z_up w 9 0 (w 17 ((3 * a0).toNat))) (zz_and (F_M_knownBy (z_up w 9 0 (w 17 ((3 * a0).toNat))) a0) (zz_xor (F_M_drowned (z_up w 9 0 (w 17 ((3 * a0).toNat)))) (-1))))) 9 2 (F_M_aboveOf (z_up (z_up w 9 0 (w 17 ((3 * a0).toNat))) 9 1 (F_J_bitCount_0f7a4 (z_up w 9 0 (w 17 ((3 * a0).toNat))) (zz_and (F_M_knownBy (z_up w 9 0 (w 17 ((3 * a0).toNat))) a0) (zz_xor (F_M_drowned (z_up w 9 0 (w 17 ((3 * a0).toNat)))) (-1))))) a0)) 9 3 (w 17 (((3 * a0) + 2).toNat))) 9 4 (w 0 28)) 9 5 (w 19 38)) (w 0 33)).1)))] ((F_M_worthOf (z_up (z_up (z_up (z_up (z_up (z_up w 9 0 (w 17 ((3 * a0).toNat))) 9 1 (F_J_bitCount_0f7a4 (z_up w 9 0 (w 17 ((3 * a0).toNat))) (zz_and (F_M_knownBy (z_up w 9 0 (w 17 ((3 * a0).toNat))) a0) (zz_xor (F_M_drowned (z_up w 9 0 (w 17 ((3 * a0).toNat)))) (-1))))) 9 2 (F_M_aboveOf (z_up (z_up w 9 0 (w 17 ((3 * a0).toNat))) 9 1 (F_J_bitCount_0f7a4 (z_up w 9 0 (w 17 ((3 * a0).toNat))) (zz_and (F_M_knownBy (z_up w 9 0 (w 17 ((3 * a0).toNat))) a0) (zz_xor (F_M_drowned (z_up w 9 0 (w 17 ((3 * a0).toNat)))) (-1))))) a0)) 9 3 (w 17 (((3 * a0) + 2).toNat))) 9 4 (w 0 28)) 9 5 (w 19 38)) (w 0 33)).2) _
      refine z_iret rfl dX12_missedOf_127 ?_
      exact k
def A_M_missedAll_4 (w : z_Wd)  : Nat → Int × z_Wd
  | 0 => (0, w)
  | i5 + 1 => if F_M_isFree ((A_M_missedAll_4 w i5).2) (i5 : Int) = 0 then (((A_M_missedAll_4 w i5).1) + ((F_M_missedOf ((A_M_missedAll_4 w i5).2) (i5 : Int)).1), (F_M_missedOf ((A_M_missedAll_4 w i5).2) (i5 : Int)).2) else ((A_M_missedAll_4 w i5).1, (A_M_missedAll_4 w i5).2)
def P_M_missedAll (w : z_Wd)  : Prop := (∀ i5 : Nat, i5 < ((w 0 29).toNat) → (-2147483648 ≤ (i5 : Int) ∧ (i5 : Int) < 2147483648) ∧ (-2147483648 ≤ ((A_M_missedAll_4 w i5).2) 0 29 ∧ ((A_M_missedAll_4 w i5).2) 0 29 < 2147483648) ∧ (((A_M_missedAll_4 w i5).2) 0 29 = w 0 29) ∧ (P_M_isFree ((A_M_missedAll_4 w i5).2) (i5 : Int)) ∧ ((F_M_isFree ((A_M_missedAll_4 w i5).2) (i5 : Int) = 0 → P_M_missedOf ((A_M_missedAll_4 w i5).2) (i5 : Int)) ∧ (¬ (F_M_isFree ((A_M_missedAll_4 w i5).2) (i5 : Int) = 0) → True))) ∧ ((-2147483648 ≤ (((w 0 29).toNat : Nat) : Int) ∧ (((w 0 29).toNat : Nat) : Int) < 2147483648) ∧ (-2147483648 ≤ ((A_M_missedAll_4 w (w 0 29).toNat).2) 0 29 ∧ ((A_M_missedAll_4 w (w 0 29).toNat).2) 0 29 < 2147483648) ∧ (((A_M_missedAll_4 w (w 0 29).toNat).2) 0 29 = w 0 29))
def F_M_missedAll (w : z_Wd)  : Int × z_Wd := ((A_M_missedAll_4 w (w 0 29).toNat).1, (A_M_missedAll_4 w (w 0 29).toNat).2)
set_option maxRecDepth 4000 in
theorem c_M_missedAll {d : Nat} {w : z_Wd} {Q : Option z_V → z_Wd → Prop} (h : P_M_missedAll w ) (k : Q (some (zI (F_M_missedAll w ).1)) (F_M_missedAll w ).2) : z_Wc (d + 7) m_X12_missedAll [zR 0] w Q := by
  unfold P_M_missedAll at h
  unfold F_M_missedAll at k
  refine z_enter rfl (Nat.le_of_ble_eq_true rfl) ?_
  show z_Wp m_X12_missedAll _ 0 [(0, zR 0)] [] w _
  refine z_iconst (pc' := 1) dX12_missedAll_0 rfl ?_
  refine z_istore_n (pc' := 2) (ls' := [(0, zR 0), (1, zI 0)]) rfl (by decide) rfl rfl dX12_missedAll_1 rfl ?_
  refine z_iconst (pc' := 3) dX12_missedAll_2 rfl ?_
  refine z_istore_n (pc' := 4) (ls' := [(0, zR 0), (1, zI 0), (2, zI 0)]) rfl (by decide) rfl rfl dX12_missedAll_3 rfl ?_
  refine z_upto ((w 0 29).toNat) (fun i5 => z_Wp m_X12_missedAll (d + 7) 4 [(0, zR 0), (1, zI ((A_M_missedAll_4 w i5).1)), (2, zI (i5 : Int))] [] ((A_M_missedAll_4 w i5).2) Q) ?_ ?_
  · skip
    have h := h.2
    refine z_iload_n (pc' := 5) 2 rfl rfl dX12_missedAll_4 rfl ?_
    refine z_aload_n (pc' := 6) 0 rfl rfl dX12_missedAll_5 rfl ?_
    refine z_getI2 (v := ((A_M_missedAll_4 w (w 0 29).toNat).2) 0 29) (pc' := 9) g_X12_260 (by decide) rfl rfl rfl dX12_missedAll_6 rfl ?_
    obtain ⟨r11, h⟩ := h
    obtain ⟨r12, h⟩ := h
    have r13 := h
    refine z_icmp_ge 38 dX12_missedAll_9 (by decide) (pc' := 12) rfl r11 r12 (fun _ => ?_) (fun c => absurd c (by first | omega | (rw [r13]; first | exact z_exitgt | exact z_exitge | omega)))
    refine z_iload_n (pc' := 39) 1 rfl rfl dX12_missedAll_38 rfl ?_
    refine z_iret rfl dX12_missedAll_39 ?_
    exact k
  · intro i5 hi ih
    have h := h.1 i5 hi
    have ih : z_Wp m_X12_missedAll (d + 7) 4 [(0, zR 0), (1, zI ((if F_M_isFree ((A_M_missedAll_4 w i5).2) (i5 : Int) = 0 then (((A_M_missedAll_4 w i5).1) + ((F_M_missedOf ((A_M_missedAll_4 w i5).2) (i5 : Int)).1), (F_M_missedOf ((A_M_missedAll_4 w i5).2) (i5 : Int)).2) else ((A_M_missedAll_4 w i5).1, (A_M_missedAll_4 w i5).2)).1)), (2, zI ((i5 + 1 : Nat) : Int))] [] ((if F_M_isFree ((A_M_missedAll_4 w i5).2) (i5 : Int) = 0 then (((A_M_missedAll_4 w i5).1) + ((F_M_missedOf ((A_M_missedAll_4 w i5).2) (i5 : Int)).1), (F_M_missedOf ((A_M_missedAll_4 w i5).2) (i5 : Int)).2) else ((A_M_missedAll_4 w i5).1, (A_M_missedAll_4 w i5).2)).2) Q := ih
    refine z_iload_n (pc' := 5) 2 rfl rfl dX12_missedAll_4 rfl ?_
    refine z_aload_n (pc' := 6) 0 rfl rfl dX12_missedAll_5 rfl ?_
    refine z_getI2 (v := ((A_M_missedAll_4 w i5).2) 0 29) (pc' := 9) g_X12_260 (by decide) rfl rfl rfl dX12_missedAll_6 rfl ?_
    obtain ⟨r6, h⟩ := h
    obtain ⟨r7, h⟩ := h
    obtain ⟨r8, h⟩ := h
    refine z_icmp_ge 38 dX12_missedAll_9 (by decide) (pc' := 12) rfl r6 r7 (fun c => absurd c (by first | omega | (rw [r8]; first | exact z_exitgt | exact z_exitge | omega))) (fun _ => ?_)
    refine z_iload_n (pc' := 13) 1 rfl rfl dX12_missedAll_12 rfl ?_
    refine z_aload_n (pc' := 14) 0 rfl rfl dX12_missedAll_13 rfl ?_
    refine z_iload_n (pc' := 15) 2 rfl rfl dX12_missedAll_14 rfl ?_
    refine z_invV (as := [zI (i5 : Int)]) (st := [zI ((A_M_missedAll_4 w i5).1)]) (C := m_X12_isFree) (fs := [0, 3, 0, 0, 0, 0, 4, 5, 6, 7, 8, 9, 10, 0, 0, 11, 12, 13, 14, 15, 16, 0, 0, 0, 17, 18, 19, 20, 0, 0, 0, 21, 22, 0, 0, 23, 0, 1, 24, 0, 0, 25, 26, 0, 27, 0]) (pc' := 18) dX12_missedAll_15 rfl t_7_158 k_X12_isFree rfl (by decide) rfl rfl rfl rfl (Nat.le_of_ble_eq_true rfl) ?_
    obtain ⟨r9, h⟩ := h
    refine c_M_isFree r9 ?_
    show z_Wp m_X12_missedAll _ 18 [(0, zR 0), (1, zI ((A_M_missedAll_4 w i5).1)), (2, zI (i5 : Int))] [zI (F_M_isFree ((A_M_missedAll_4 w i5).2) (i5 : Int)), zI ((A_M_missedAll_4 w i5).1)] ((A_M_missedAll_4 w i5).2) _
    refine z_if_eq 25 dX12_missedAll_18 (by decide) (pc' := 21) rfl (z_rb b_M_isFree) (fun c61 => ?_) (fun c61 => ?_)
    · have h := h.1 c61
      rw [if_pos c61] at ih
      refine z_aload_n (pc' := 26) 0 rfl rfl dX12_missedAll_25 rfl ?_
      refine z_iload_n (pc' := 27) 2 rfl rfl dX12_missedAll_26 rfl ?_
      refine z_invV (as := [zI (i5 : Int)]) (st := [zI ((A_M_missedAll_4 w i5).1)]) (C := m_X12_missedOf) (fs := [0, 3, 0, 0, 0, 0, 4, 5, 6, 7, 8, 9, 10, 0, 0, 11, 12, 13, 14, 15, 16, 0, 0, 0, 17, 18, 19, 20, 0, 0, 0, 21, 22, 0, 0, 23, 0, 1, 24, 0, 0, 25, 26, 0, 27, 0]) (pc' := 30) dX12_missedAll_27 rfl t_7_142 k_X12_missedOf rfl (by decide) rfl rfl rfl rfl (Nat.le_of_ble_eq_true rfl) ?_
      have r10 := h
      refine c_M_missedOf r10 ?_
      show z_Wp m_X12_missedAll _ 30 [(0, zR 0), (1, zI ((A_M_missedAll_4 w i5).1)), (2, zI (i5 : Int))] [zI ((F_M_missedOf ((A_M_missedAll_4 w i5).2) (i5 : Int)).1), zI ((A_M_missedAll_4 w i5).1)] ((F_M_missedOf ((A_M_missedAll_4 w i5).2) (i5 : Int)).2) _
      refine z_iadd (pc' := 31) dX12_missedAll_30 rfl ?_
      refine z_istore_n (pc' := 32) (ls' := [(0, zR 0), (1, zI (((A_M_missedAll_4 w i5).1) + ((F_M_missedOf ((A_M_missedAll_4 w i5).2) (i5 : Int)).1))), (2, zI (i5 : Int))]) rfl (by decide) rfl rfl dX12_missedAll_31 rfl ?_
      refine z_iinc (pc' := 35) (ls' := [(0, zR 0), (1, zI (((A_M_missedAll_4 w i5).1) + ((F_M_missedOf ((A_M_missedAll_4 w i5).2) (i5 : Int)).1))), (2, zI ((i5 : Int) + 1))]) 2 rfl (by decide) rfl rfl dX12_missedAll_32 rfl ?_
      refine z_goto 4 dX12_missedAll_35 (by decide) ?_
      exact ih
    · have h := h.2 c61
      rw [if_neg c61] at ih
      refine z_iconst (pc' := 22) dX12_missedAll_21 rfl ?_
      refine z_goto 30 dX12_missedAll_22 (by decide) ?_
      refine z_iadd (pc' := 31) dX12_missedAll_30 rfl ?_
      refine z_eqI (y := (A_M_missedAll_4 w i5).1) (by omega) ?_
      refine z_istore_n (pc' := 32) (ls' := [(0, zR 0), (1, zI ((A_M_missedAll_4 w i5).1)), (2, zI (i5 : Int))]) rfl (by decide) rfl rfl dX12_missedAll_31 rfl ?_
      refine z_iinc (pc' := 35) (ls' := [(0, zR 0), (1, zI ((A_M_missedAll_4 w i5).1)), (2, zI ((i5 : Int) + 1))]) 2 rfl (by decide) rfl rfl dX12_missedAll_32 rfl ?_
      refine z_goto 4 dX12_missedAll_35 (by decide) ?_
      exact ih
def A_M_leastMissed_6 (w : z_Wd)  : Nat → Int × Int × z_Wd
  | 0 => ((-1), 0, w)
  | i14 + 1 => if F_M_isFree ((A_M_leastMissed_6 w i14).2.2) (i14 : Int) = 0 then ((A_M_leastMissed_6 w i14).1, (A_M_leastMissed_6 w i14).2.1, (A_M_leastMissed_6 w i14).2.2) else if F_M_firstWell ((A_M_leastMissed_6 w i14).2.2) (i14 : Int) = (-1) then ((A_M_leastMissed_6 w i14).1, (A_M_leastMissed_6 w i14).2.1, (A_M_leastMissed_6 w i14).2.2) else if (A_M_leastMissed_6 w i14).1 = (-1) then ((i14 : Int), (F_M_missedOf (F_M_dipNow (F_M_putAside ((A_M_leastMissed_6 w i14).2.2) 0) (i14 : Int) (F_M_firstWell (F_M_putAside ((A_M_leastMissed_6 w i14).2.2) 0) (i14 : Int))) (i14 : Int)).1, F_M_takeBack ((F_M_missedOf (F_M_dipNow (F_M_putAside ((A_M_leastMissed_6 w i14).2.2) 0) (i14 : Int) (F_M_firstWell (F_M_putAside ((A_M_leastMissed_6 w i14).2.2) 0) (i14 : Int))) (i14 : Int)).2) 0) else if (F_M_missedOf (F_M_dipNow (F_M_putAside ((A_M_leastMissed_6 w i14).2.2) 0) (i14 : Int) (F_M_firstWell (F_M_putAside ((A_M_leastMissed_6 w i14).2.2) 0) (i14 : Int))) (i14 : Int)).1 ≥ (A_M_leastMissed_6 w i14).2.1 then ((A_M_leastMissed_6 w i14).1, (A_M_leastMissed_6 w i14).2.1, F_M_takeBack ((F_M_missedOf (F_M_dipNow (F_M_putAside ((A_M_leastMissed_6 w i14).2.2) 0) (i14 : Int) (F_M_firstWell (F_M_putAside ((A_M_leastMissed_6 w i14).2.2) 0) (i14 : Int))) (i14 : Int)).2) 0) else ((i14 : Int), (F_M_missedOf (F_M_dipNow (F_M_putAside ((A_M_leastMissed_6 w i14).2.2) 0) (i14 : Int) (F_M_firstWell (F_M_putAside ((A_M_leastMissed_6 w i14).2.2) 0) (i14 : Int))) (i14 : Int)).1, F_M_takeBack ((F_M_missedOf (F_M_dipNow (F_M_putAside ((A_M_leastMissed_6 w i14).2.2) 0) (i14 : Int) (F_M_firstWell (F_M_putAside ((A_M_leastMissed_6 w i14).2.2) 0) (i14 : Int))) (i14 : Int)).2) 0)
def P_M_leastMissed (w : z_Wd)  : Prop := (∀ i14 : Nat, i14 < ((w 0 29).toNat) → (-2147483648 ≤ (i14 : Int) ∧ (i14 : Int) < 2147483648) ∧ (-2147483648 ≤ ((A_M_leastMissed_6 w i14).2.2) 0 29 ∧ ((A_M_leastMissed_6 w i14).2.2) 0 29 < 2147483648) ∧ (((A_M_leastMissed_6 w i14).2.2) 0 29 = w 0 29) ∧ (P_M_isFree ((A_M_leastMissed_6 w i14).2.2) (i14 : Int)) ∧ ((F_M_isFree ((A_M_leastMissed_6 w i14).2.2) (i14 : Int) = 0 → True) ∧ (¬ (F_M_isFree ((A_M_leastMissed_6 w i14).2.2) (i14 : Int) = 0) → (P_M_firstWell ((A_M_leastMissed_6 w i14).2.2) (i14 : Int)) ∧ (-2147483648 ≤ F_M_firstWell ((A_M_leastMissed_6 w i14).2.2) (i14 : Int) ∧ F_M_firstWell ((A_M_leastMissed_6 w i14).2.2) (i14 : Int) < 2147483648) ∧ ((F_M_firstWell ((A_M_leastMissed_6 w i14).2.2) (i14 : Int) = (-1) → True) ∧ (¬ (F_M_firstWell ((A_M_leastMissed_6 w i14).2.2) (i14 : Int) = (-1)) → (P_M_putAside ((A_M_leastMissed_6 w i14).2.2) 0) ∧ (P_M_firstWell (F_M_putAside ((A_M_leastMissed_6 w i14).2.2) 0) (i14 : Int)) ∧ (P_M_dipNow (F_M_putAside ((A_M_leastMissed_6 w i14).2.2) 0) (i14 : Int) (F_M_firstWell (F_M_putAside ((A_M_leastMissed_6 w i14).2.2) 0) (i14 : Int))) ∧ (P_M_missedOf (F_M_dipNow (F_M_putAside ((A_M_leastMissed_6 w i14).2.2) 0) (i14 : Int) (F_M_firstWell (F_M_putAside ((A_M_leastMissed_6 w i14).2.2) 0) (i14 : Int))) (i14 : Int)) ∧ (P_M_takeBack ((F_M_missedOf (F_M_dipNow (F_M_putAside ((A_M_leastMissed_6 w i14).2.2) 0) (i14 : Int) (F_M_firstWell (F_M_putAside ((A_M_leastMissed_6 w i14).2.2) 0) (i14 : Int))) (i14 : Int)).2) 0) ∧ (-2147483648 ≤ (A_M_leastMissed_6 w i14).1 ∧ (A_M_leastMissed_6 w i14).1 < 2147483648) ∧ (((A_M_leastMissed_6 w i14).1 = (-1) → True) ∧ (¬ ((A_M_leastMissed_6 w i14).1 = (-1)) → (-2147483648 ≤ (F_M_missedOf (F_M_dipNow (F_M_putAside ((A_M_leastMissed_6 w i14).2.2) 0) (i14 : Int) (F_M_firstWell (F_M_putAside ((A_M_leastMissed_6 w i14).2.2) 0) (i14 : Int))) (i14 : Int)).1 ∧ (F_M_missedOf (F_M_dipNow (F_M_putAside ((A_M_leastMissed_6 w i14).2.2) 0) (i14 : Int) (F_M_firstWell (F_M_putAside ((A_M_leastMissed_6 w i14).2.2) 0) (i14 : Int))) (i14 : Int)).1 < 2147483648) ∧ (-2147483648 ≤ (A_M_leastMissed_6 w i14).2.1 ∧ (A_M_leastMissed_6 w i14).2.1 < 2147483648)))))))) ∧ ((-2147483648 ≤ (((w 0 29).toNat : Nat) : Int) ∧ (((w 0 29).toNat : Nat) : Int) < 2147483648) ∧ (-2147483648 ≤ ((A_M_leastMissed_6 w (w 0 29).toNat).2.2) 0 29 ∧ ((A_M_leastMissed_6 w (w 0 29).toNat).2.2) 0 29 < 2147483648) ∧ (((A_M_leastMissed_6 w (w 0 29).toNat).2.2) 0 29 = w 0 29))
def F_M_leastMissed (w : z_Wd)  : Int × z_Wd := ((A_M_leastMissed_6 w (w 0 29).toNat).1, (A_M_leastMissed_6 w (w 0 29).toNat).2.2)
set_option maxRecDepth 4000 in
theorem c_M_leastMissed {d : Nat} {w : z_Wd} {Q : Option z_V → z_Wd → Prop} (h : P_M_leastMissed w ) (k : Q (some (zI (F_M_leastMissed w ).1)) (F_M_leastMissed w ).2) : z_Wc (d + 7) m_X12_leastMissed [zR 0] w Q := by
  unfold P_M_leastMissed at h
  unfold F_M_leastMissed at k
  refine z_enter rfl (Nat.le_of_ble_eq_true rfl) ?_
  show z_Wp m_X12_leastMissed _ 0 [(0, zR 0)] [] w _
  refine z_iconst (pc' := 1) dX12_leastMissed_0 rfl ?_
  refine z_istore_n (pc' := 2) (ls' := [(0, zR 0), (1, zI (-1))]) rfl (by decide) rfl rfl dX12_leastMissed_1 rfl ?_
  refine z_iconst (pc' := 3) dX12_leastMissed_2 rfl ?_
  refine z_istore_n (pc' := 4) (ls' := [(0, zR 0), (1, zI (-1)), (2, zI 0)]) rfl (by decide) rfl rfl dX12_leastMissed_3 rfl ?_
  refine z_iconst (pc' := 5) dX12_leastMissed_4 rfl ?_
  refine z_istore_n (pc' := 6) (ls' := [(0, zR 0), (1, zI (-1)), (2, zI 0), (3, zI 0)]) rfl (by decide) rfl rfl dX12_leastMissed_5 rfl ?_
  refine z_upto ((w 0 29).toNat) (fun i14 => z_Wp m_X12_leastMissed (d + 7) 6 [(0, zR 0), (1, zI ((A_M_leastMissed_6 w i14).1)), (2, zI ((A_M_leastMissed_6 w i14).2.1)), (3, zI (i14 : Int))] [] ((A_M_leastMissed_6 w i14).2.2) Q) ?_ ?_
  · skip
    have h := h.2
    refine z_iload_n (pc' := 7) 3 rfl rfl dX12_leastMissed_6 rfl ?_
    refine z_aload_n (pc' := 8) 0 rfl rfl dX12_leastMissed_7 rfl ?_
    refine z_getI2 (v := ((A_M_leastMissed_6 w (w 0 29).toNat).2.2) 0 29) (pc' := 11) g_X12_260 (by decide) rfl rfl rfl dX12_leastMissed_8 rfl ?_
    obtain ⟨r29, h⟩ := h
    obtain ⟨r30, h⟩ := h
    have r31 := h
    refine z_icmp_ge 80 dX12_leastMissed_11 (by decide) (pc' := 14) rfl r29 r30 (fun _ => ?_) (fun c => absurd c (by first | omega | (rw [r31]; first | exact z_exitgt | exact z_exitge | omega)))
    refine z_iload_n (pc' := 81) 1 rfl rfl dX12_leastMissed_80 rfl ?_
    refine z_iret rfl dX12_leastMissed_81 ?_
    exact k
  · intro i14 hi ih
    have h := h.1 i14 hi
    have ih : z_Wp m_X12_leastMissed (d + 7) 6 [(0, zR 0), (1, zI ((if F_M_isFree ((A_M_leastMissed_6 w i14).2.2) (i14 : Int) = 0 then ((A_M_leastMissed_6 w i14).1, (A_M_leastMissed_6 w i14).2.1, (A_M_leastMissed_6 w i14).2.2) else if F_M_firstWell ((A_M_leastMissed_6 w i14).2.2) (i14 : Int) = (-1) then ((A_M_leastMissed_6 w i14).1, (A_M_leastMissed_6 w i14).2.1, (A_M_leastMissed_6 w i14).2.2) else if (A_M_leastMissed_6 w i14).1 = (-1) then ((i14 : Int), (F_M_missedOf (F_M_dipNow (F_M_putAside ((A_M_leastMissed_6 w i14).2.2) 0) (i14 : Int) (F_M_firstWell (F_M_putAside ((A_M_leastMissed_6 w i14).2.2) 0) (i14 : Int))) (i14 : Int)).1, F_M_takeBack ((F_M_missedOf (F_M_dipNow (F_M_putAside ((A_M_leastMissed_6 w i14).2.2) 0) (i14 : Int) (F_M_firstWell (F_M_putAside ((A_M_leastMissed_6 w i14).2.2) 0) (i14 : Int))) (i14 : Int)).2) 0) else if (F_M_missedOf (F_M_dipNow (F_M_putAside ((A_M_leastMissed_6 w i14).2.2) 0) (i14 : Int) (F_M_firstWell (F_M_putAside ((A_M_leastMissed_6 w i14).2.2) 0) (i14 : Int))) (i14 : Int)).1 ≥ (A_M_leastMissed_6 w i14).2.1 then ((A_M_leastMissed_6 w i14).1, (A_M_leastMissed_6 w i14).2.1, F_M_takeBack ((F_M_missedOf (F_M_dipNow (F_M_putAside ((A_M_leastMissed_6 w i14).2.2) 0) (i14 : Int) (F_M_firstWell (F_M_putAside ((A_M_leastMissed_6 w i14).2.2) 0) (i14 : Int))) (i14 : Int)).2) 0) else ((i14 : Int), (F_M_missedOf (F_M_dipNow (F_M_putAside ((A_M_leastMissed_6 w i14).2.2) 0) (i14 : Int) (F_M_firstWell (F_M_putAside ((A_M_leastMissed_6 w i14).2.2) 0) (i14 : Int))) (i14 : Int)).1, F_M_takeBack ((F_M_missedOf (F_M_dipNow (F_M_putAside ((A_M_leastMissed_6 w i14).2.2) 0) (i14 : Int) (F_M_firstWell (F_M_putAside ((A_M_leastMissed_6 w i14).2.2) 0) (i14 : Int))) (i14 : Int)).2) 0)).1)), (2, zI ((if F_M_isFree ((A_M_leastMissed_6 w i14).2.2) (i14 : Int) = 0 then ((A_M_leastMissed_6 w i14).1, (A_M_leastMissed_6 w i14).2.1, (A_M_leastMissed_6 w i14).2.2) else if F_M_firstWell ((A_M_leastMissed_6 w i14).2.2) (i14 : Int) = (-1) then ((A_M_leastMissed_6 w i14).1, (A_M_leastMissed_6 w i14).2.1, (A_M_leastMissed_6 w i14).2.2) else if (A_M_leastMissed_6 w i14).1 = (-1) then ((i14 : Int), (F_M_missedOf (F_M_dipNow (F_M_putAside ((A_M_leastMissed_6 w i14).2.2) 0) (i14 : Int) (F_M_firstWell (F_M_putAside ((A_M_leastMissed_6 w i14).2.2) 0) (i14 : Int))) (i14 : Int)).1, F_M_takeBack ((F_M_missedOf (F_M_dipNow (F_M_putAside ((A_M_leastMissed_6 w i14).2.2) 0) (i14 : Int) (F_M_firstWell (F_M_putAside ((A_M_leastMissed_6 w i14).2.2) 0) (i14 : Int))) (i14 : Int)).2) 0) else if (F_M_missedOf (F_M_dipNow (F_M_putAside ((A_M_leastMissed_6 w i14).2.2) 0) (i14 : Int) (F_M_firstWell (F_M_putAside ((A_M_leastMissed_6 w i14).2.2) 0) (i14 : Int))) (i14 : Int)).1 ≥ (A_M_leastMissed_6 w i14).2.1 then ((A_M_leastMissed_6 w i14).1, (A_M_leastMissed_6 w i14).2.1, F_M_takeBack ((F_M_missedOf (F_M_dipNow (F_M_putAside ((A_M_leastMissed_6 w i14).2.2) 0) (i14 : Int) (F_M_firstWell (F_M_putAside ((A_M_leastMissed_6 w i14).2.2) 0) (i14 : Int))) (i14 : Int)).2) 0) else ((i14 : Int), (F_M_missedOf (F_M_dipNow (F_M_putAside ((A_M_leastMissed_6 w i14).2.2) 0) (i14 : Int) (F_M_firstWell (F_M_putAside ((A_M_leastMissed_6 w i14).2.2) 0) (i14 : Int))) (i14 : Int)).1, F_M_takeBack ((F_M_missedOf (F_M_dipNow (F_M_putAside ((A_M_leastMissed_6 w i14).2.2) 0) (i14 : Int) (F_M_firstWell (F_M_putAside ((A_M_leastMissed_6 w i14).2.2) 0) (i14 : Int))) (i14 : Int)).2) 0)).2.1)), (3, zI ((i14 + 1 : Nat) : Int))] [] ((if F_M_isFree ((A_M_leastMissed_6 w i14).2.2) (i14 : Int) = 0 then ((A_M_leastMissed_6 w i14).1, (A_M_leastMissed_6 w i14).2.1, (A_M_leastMissed_6 w i14).2.2) else if F_M_firstWell ((A_M_leastMissed_6 w i14).2.2) (i14 : Int) = (-1) then ((A_M_leastMissed_6 w i14).1, (A_M_leastMissed_6 w i14).2.1, (A_M_leastMissed_6 w i14).2.2) else if (A_M_leastMissed_6 w i14).1 = (-1) then ((i14 : Int), (F_M_missedOf (F_M_dipNow (F_M_putAside ((A_M_leastMissed_6 w i14).2.2) 0) (i14 : Int) (F_M_firstWell (F_M_putAside ((A_M_leastMissed_6 w i14).2.2) 0) (i14 : Int))) (i14 : Int)).1, F_M_takeBack ((F_M_missedOf (F_M_dipNow (F_M_putAside ((A_M_leastMissed_6 w i14).2.2) 0) (i14 : Int) (F_M_firstWell (F_M_putAside ((A_M_leastMissed_6 w i14).2.2) 0) (i14 : Int))) (i14 : Int)).2) 0) else if (F_M_missedOf (F_M_dipNow (F_M_putAside ((A_M_leastMissed_6 w i14).2.2) 0) (i14 : Int) (F_M_firstWell (F_M_putAside ((A_M_leastMissed_6 w i14).2.2) 0) (i14 : Int))) (i14 : Int)).1 ≥ (A_M_leastMissed_6 w i14).2.1 then ((A_M_leastMissed_6 w i14).1, (A_M_leastMissed_6 w i14).2.1, F_M_takeBack ((F_M_missedOf (F_M_dipNow (F_M_putAside ((A_M_leastMissed_6 w i14).2.2) 0) (i14 : Int) (F_M_firstWell (F_M_putAside ((A_M_leastMissed_6 w i14).2.2) 0) (i14 : Int))) (i14 : Int)).2) 0) else ((i14 : Int), (F_M_missedOf (F_M_dipNow (F_M_putAside ((A_M_leastMissed_6 w i14).2.2) 0) (i14 : Int) (F_M_firstWell (F_M_putAside ((A_M_leastMissed_6 w i14).2.2) 0) (i14 : Int))) (i14 : Int)).1, F_M_takeBack ((F_M_missedOf (F_M_dipNow (F_M_putAside ((A_M_leastMissed_6 w i14).2.2) 0) (i14 : Int) (F_M_firstWell (F_M_putAside ((A_M_leastMissed_6 w i14).2.2) 0) (i14 : Int))) (i14 : Int)).2) 0)).2.2) Q := ih
    refine z_iload_n (pc' := 7) 3 rfl rfl dX12_leastMissed_6 rfl ?_
    refine z_aload_n (pc' := 8) 0 rfl rfl dX12_leastMissed_7 rfl ?_
    refine z_getI2 (v := ((A_M_leastMissed_6 w i14).2.2) 0 29) (pc' := 11) g_X12_260 (by decide) rfl rfl rfl dX12_leastMissed_8 rfl ?_
    obtain ⟨r15, h⟩ := h
    obtain ⟨r16, h⟩ := h
    obtain ⟨r17, h⟩ := h
    refine z_icmp_ge 80 dX12_leastMissed_11 (by decide) (pc' := 14) rfl r15 r16 (fun c => absurd c (by first | omega | (rw [r17]; first | exact z_exitgt | exact z_exitge | omega))) (fun _ => ?_)
    refine z_aload_n (pc' := 15) 0 rfl rfl dX12_leastMissed_14 rfl ?_
    refine z_iload_n (pc' := 16) 3 rfl rfl dX12_leastMissed_15 rfl ?_
    refine z_invV (as := [zI (i14 : Int)]) (st := []) (C := m_X12_isFree) (fs := [0, 3, 0, 0, 0, 0, 4, 5, 6, 7, 8, 9, 10, 0, 0, 11, 12, 13, 14, 15, 16, 0, 0, 0, 17, 18, 19, 20, 0, 0, 0, 21, 22, 0, 0, 23, 0, 1, 24, 0, 0, 25, 26, 0, 27, 0]) (pc' := 19) dX12_leastMissed_16 rfl t_7_158 k_X12_isFree rfl (by decide) rfl rfl rfl rfl (Nat.le_of_ble_eq_true rfl) ?_
    obtain ⟨r18, h⟩ := h
    refine c_M_isFree r18 ?_
    show z_Wp m_X12_leastMissed _ 19 [(0, zR 0), (1, zI ((A_M_leastMissed_6 w i14).1)), (2, zI ((A_M_leastMissed_6 w i14).2.1)), (3, zI (i14 : Int))] [zI (F_M_isFree ((A_M_leastMissed_6 w i14).2.2) (i14 : Int))] ((A_M_leastMissed_6 w i14).2.2) _
    refine z_if_eq 74 dX12_leastMissed_19 (by decide) (pc' := 22) rfl (z_rb b_M_isFree) (fun c62 => ?_) (fun c62 => ?_)
    · have h := h.1 c62
      rw [if_pos c62] at ih
      refine z_iinc (pc' := 77) (ls' := [(0, zR 0), (1, zI ((A_M_leastMissed_6 w i14).1)), (2, zI ((A_M_leastMissed_6 w i14).2.1)), (3, zI ((i14 : Int) + 1))]) 3 rfl (by decide) rfl rfl dX12_leastMissed_74 rfl ?_
      refine z_goto 6 dX12_leastMissed_77 (by decide) ?_
      exact ih
    · have h := h.2 c62
      rw [if_neg c62] at ih
      refine z_aload_n (pc' := 23) 0 rfl rfl dX12_leastMissed_22 rfl ?_
      refine z_iload_n (pc' := 24) 3 rfl rfl dX12_leastMissed_23 rfl ?_
      refine z_invV (as := [zI (i14 : Int)]) (st := []) (C := m_X12_firstWell) (fs := [0, 3, 0, 0, 0, 0, 4, 5, 6, 7, 8, 9, 10, 0, 0, 11, 12, 13, 14, 15, 16, 0, 0, 0, 17, 18, 19, 20, 0, 0, 0, 21, 22, 0, 0, 23, 0, 1, 24, 0, 0, 25, 26, 0, 27, 0]) (pc' := 27) dX12_leastMissed_24 rfl t_8_180 k_X12_firstWell rfl (by decide) rfl rfl rfl rfl (Nat.le_of_ble_eq_true rfl) ?_
      obtain ⟨r19, h⟩ := h
      refine c_M_firstWell r19 ?_
      show z_Wp m_X12_leastMissed _ 27 [(0, zR 0), (1, zI ((A_M_leastMissed_6 w i14).1)), (2, zI ((A_M_leastMissed_6 w i14).2.1)), (3, zI (i14 : Int))] [zI (F_M_firstWell ((A_M_leastMissed_6 w i14).2.2) (i14 : Int))] ((A_M_leastMissed_6 w i14).2.2) _
      refine z_iconst (pc' := 28) dX12_leastMissed_27 rfl ?_
      obtain ⟨r20, h⟩ := h
      refine z_icmp_eq 74 dX12_leastMissed_28 (by decide) (pc' := 31) rfl r20 (by decide) (fun c63 => ?_) (fun c63 => ?_)
      · have h := h.1 c63
        rw [if_pos c63] at ih
        refine z_iinc (pc' := 77) (ls' := [(0, zR 0), (1, zI ((A_M_leastMissed_6 w i14).1)), (2, zI ((A_M_leastMissed_6 w i14).2.1)), (3, zI ((i14 : Int) + 1))]) 3 rfl (by decide) rfl rfl dX12_leastMissed_74 rfl ?_
        refine z_goto 6 dX12_leastMissed_77 (by decide) ?_
        exact ih
      · have h := h.2 c63
        rw [if_neg c63] at ih
        refine z_aload_n (pc' := 32) 0 rfl rfl dX12_leastMissed_31 rfl ?_
        refine z_iconst (pc' := 33) dX12_leastMissed_32 rfl ?_
        refine z_invV (as := [zI 0]) (st := []) (C := m_X12_putAside) (fs := [0, 3, 0, 0, 0, 0, 4, 5, 6, 7, 8, 9, 10, 0, 0, 11, 12, 13, 14, 15, 16, 0, 0, 0, 17, 18, 19, 20, 0, 0, 0, 21, 22, 0, 0, 23, 0, 1, 24, 0, 0, 25, 26, 0, 27, 0]) (pc' := 36) dX12_leastMissed_33 rfl t_8_97 k_X12_putAside rfl (by decide) rfl rfl rfl rfl (Nat.le_of_ble_eq_true rfl) ?_
        obtain ⟨r21, h⟩ := h
        refine c_M_putAside r21 ?_
        show z_Wp m_X12_leastMissed _ 36 [(0, zR 0), (1, zI ((A_M_leastMissed_6 w i14).1)), (2, zI ((A_M_leastMissed_6 w i14).2.1)), (3, zI (i14 : Int))] [] (F_M_putAside ((A_M_leastMissed_6 w i14).2.2) 0) _
        refine z_aload_n (pc' := 37) 0 rfl rfl dX12_leastMissed_36 rfl ?_
        refine z_iload_n (pc' := 38) 3 rfl rfl dX12_leastMissed_37 rfl ?_
        refine z_aload_n (pc' := 39) 0 rfl rfl dX12_leastMissed_38 rfl ?_
        refine z_iload_n (pc' := 40) 3 rfl rfl dX12_leastMissed_39 rfl ?_
        refine z_invV (as := [zI (i14 : Int)]) (st := [zI (i14 : Int), zR 0]) (C := m_X12_firstWell) (fs := [0, 3, 0, 0, 0, 0, 4, 5, 6, 7, 8, 9, 10, 0, 0, 11, 12, 13, 14, 15, 16, 0, 0, 0, 17, 18, 19, 20, 0, 0, 0, 21, 22, 0, 0, 23, 0, 1, 24, 0, 0, 25, 26, 0, 27, 0]) (pc' := 43) dX12_leastMissed_40 rfl t_8_180 k_X12_firstWell rfl (by decide) rfl rfl rfl rfl (Nat.le_of_ble_eq_true rfl) ?_
        obtain ⟨r22, h⟩ := h
        refine c_M_firstWell r22 ?_
        show z_Wp m_X12_leastMissed _ 43 [(0, zR 0), (1, zI ((A_M_leastMissed_6 w i14).1)), (2, zI ((A_M_leastMissed_6 w i14).2.1)), (3, zI (i14 : Int))] [zI (F_M_firstWell (F_M_putAside ((A_M_leastMissed_6 w i14).2.2) 0) (i14 : Int)), zI (i14 : Int), zR 0] (F_M_putAside ((A_M_leastMissed_6 w i14).2.2) 0) _
        refine z_invV (as := [zI (i14 : Int), zI (F_M_firstWell (F_M_putAside ((A_M_leastMissed_6 w i14).2.2) 0) (i14 : Int))]) (st := []) (C := m_X12_dipNow) (fs := [0, 3, 0, 0, 0, 0, 4, 5, 6, 7, 8, 9, 10, 0, 0, 11, 12, 13, 14, 15, 16, 0, 0, 0, 17, 18, 19, 20, 0, 0, 0, 21, 22, 0, 0, 23, 0, 1, 24, 0, 0, 25, 26, 0, 27, 0]) (pc' := 46) dX12_leastMissed_43 rfl t_7_235 k_X12_dipNow rfl (by decide) rfl rfl rfl rfl (Nat.le_of_ble_eq_true rfl) ?_
        obtain ⟨r23, h⟩ := h
        refine c_M_dipNow r23 ?_
        show z_Wp m_X12_leastMissed _ 46 [(0, zR 0), (1, zI ((A_M_leastMissed_6 w i14).1)), (2, zI ((A_M_leastMissed_6 w i14).2.1)), (3, zI (i14 : Int))] [] (F_M_dipNow (F_M_putAside ((A_M_leastMissed_6 w i14).2.2) 0) (i14 : Int) (F_M_firstWell (F_M_putAside ((A_M_leastMissed_6 w i14).2.2) 0) (i14 : Int))) _
        refine z_aload_n (pc' := 47) 0 rfl rfl dX12_leastMissed_46 rfl ?_
        refine z_iload_n (pc' := 48) 3 rfl rfl dX12_leastMissed_47 rfl ?_
        refine z_invV (as := [zI (i14 : Int)]) (st := []) (C := m_X12_missedOf) (fs := [0, 3, 0, 0, 0, 0, 4, 5, 6, 7, 8, 9, 10, 0, 0, 11, 12, 13, 14, 15, 16, 0, 0, 0, 17, 18, 19, 20, 0, 0, 0, 21, 22, 0, 0, 23, 0, 1, 24, 0, 0, 25, 26, 0, 27, 0]) (pc' := 51) dX12_leastMissed_48 rfl t_7_142 k_X12_missedOf rfl (by decide) rfl rfl rfl rfl (Nat.le_of_ble_eq_true rfl) ?_
        obtain ⟨r24, h⟩ := h
        refine c_M_missedOf r24 ?_
        show z_Wp m_X12_leastMissed _ 51 [(0, zR 0), (1, zI ((A_M_leastMissed_6 w i14).1)), (2, zI ((A_M_leastMissed_6 w i14).2.1)), (3, zI (i14 : Int))] [zI ((F_M_missedOf (F_M_dipNow (F_M_putAside ((A_M_leastMissed_6 w i14).2.2) 0) (i14 : Int) (F_M_firstWell (F_M_putAside ((A_M_leastMissed_6 w i14).2.2) 0) (i14 : Int))) (i14 : Int)).1)] ((F_M_missedOf (F_M_dipNow (F_M_putAside ((A_M_leastMissed_6 w i14).2.2) 0) (i14 : Int) (F_M_firstWell (F_M_putAside ((A_M_leastMissed_6 w i14).2.2) 0) (i14 : Int))) (i14 : Int)).2) _
        refine z_istore (pc' := 53) (ls' := [(0, zR 0), (1, zI ((A_M_leastMissed_6 w i14).1)), (2, zI ((A_M_leastMissed_6 w i14).2.1)), (3, zI (i14 : Int)), (4, zI ((F_M_missedOf (F_M_dipNow (F_M_putAside ((A_M_leastMissed_6 w i14).2.2) 0) (i14 : Int) (F_M_firstWell (F_M_putAside ((A_M_leastMissed_6 w i14).2.2) 0) (i14 : Int))) (i14 : Int)).1))]) (by decide) rfl rfl dX12_leastMissed_51 rfl ?_
        refine z_aload_n (pc' := 54) 0 rfl rfl dX12_leastMissed_53 rfl ?_
        refine z_iconst (pc' := 55) dX12_leastMissed_54 rfl ?_
        refine z_invV (as := [zI 0]) (st := []) (C := m_X12_takeBack) (fs := [0, 3, 0, 0, 0, 0, 4, 5, 6, 7, 8, 9, 10, 0, 0, 11, 12, 13, 14, 15, 16, 0, 0, 0, 17, 18, 19, 20, 0, 0, 0, 21, 22, 0, 0, 23, 0, 1, 24, 0, 0, 25, 26, 0, 27, 0]) (pc' := 58) dX12_leastMissed_55 rfl t_8_101 k_X12_takeBack rfl (by decide) rfl rfl rfl rfl (Nat.le_of_ble_eq_true rfl) ?_
        obtain ⟨r25, h⟩ := h
        refine c_M_takeBack r25 ?_
        show z_Wp m_X12_leastMissed _ 58 [(0, zR 0), (1, zI ((A_M_leastMissed_6 w i14).1)), (2, zI ((A_M_leastMissed_6 w i14).2.1)), (3, zI (i14 : Int)), (4, zI ((F_M_missedOf (F_M_dipNow (F_M_putAside ((A_M_leastMissed_6 w i14).2.2) 0) (i14 : Int) (F_M_firstWell (F_M_putAside ((A_M_leastMissed_6 w i14).2.2) 0) (i14 : Int))) (i14 : Int)).1))] [] (F_M_takeBack ((F_M_missedOf (F_M_dipNow (F_M_putAside ((A_M_leastMissed_6 w i14).2.2) 0) (i14 : Int) (F_M_firstWell (F_M_putAside ((A_M_leastMissed_6 w i14).2.2) 0) (i14 : Int))) (i14 : Int)).2) 0) _
        refine z_iload_n (pc' := 59) 1 rfl rfl dX12_leastMissed_58 rfl ?_
        refine z_iconst (pc' := 60) dX12_leastMissed_59 rfl ?_
        obtain ⟨r26, h⟩ := h
        refine z_icmp_eq 69 dX12_leastMissed_60 (by decide) (pc' := 63) rfl r26 (by decide) (fun c64 => ?_) (fun c64 => ?_)
        · have h := h.1 c64
          rw [if_pos c64] at ih
          refine z_iload_n (pc' := 70) 3 rfl rfl dX12_leastMissed_69 rfl ?_
          refine z_istore_n (pc' := 71) (ls' := [(0, zR 0), (1, zI (i14 : Int)), (2, zI ((A_M_leastMissed_6 w i14).2.1)), (3, zI (i14 : Int)), (4, zI ((F_M_missedOf (F_M_dipNow (F_M_putAside ((A_M_leastMissed_6 w i14).2.2) 0) (i14 : Int) (F_M_firstWell (F_M_putAside ((A_M_leastMissed_6 w i14).2.2) 0) (i14 : Int))) (i14 : Int)).1))]) rfl (by decide) rfl rfl dX12_leastMissed_70 rfl ?_
          refine z_iload (pc' := 73) 4 rfl dX12_leastMissed_71 rfl ?_
          refine z_istore_n (pc' := 74) (ls' := [(0, zR 0), (1, zI (i14 : Int)), (2, zI ((F_M_missedOf (F_M_dipNow (F_M_putAside ((A_M_leastMissed_6 w i14).2.2) 0) (i14 : Int) (F_M_firstWell (F_M_putAside ((A_M_leastMissed_6 w i14).2.2) 0) (i14 : Int))) (i14 : Int)).1)), (3, zI (i14 : Int)), (4, zI ((F_M_missedOf (F_M_dipNow (F_M_putAside ((A_M_leastMissed_6 w i14).2.2) 0) (i14 : Int) (F_M_firstWell (F_M_putAside ((A_M_leastMissed_6 w i14).2.2) 0) (i14 : Int))) (i14 : Int)).1))]) rfl (by decide) rfl rfl dX12_leastMissed_73 rfl ?_
          refine z_iinc (pc' := 77) (ls' := [(0, zR 0), (1, zI (i14 : Int)), (2, zI ((F_M_missedOf (F_M_dipNow (F_M_putAside ((A_M_leastMissed_6 w i14).2.2) 0) (i14 : Int) (F_M_firstWell (F_M_putAside ((A_M_leastMissed_6 w i14).2.2) 0) (i14 : Int))) (i14 : Int)).1)), (3, zI ((i14 : Int) + 1)), (4, zI ((F_M_missedOf (F_M_dipNow (F_M_putAside ((A_M_leastMissed_6 w i14).2.2) 0) (i14 : Int) (F_M_firstWell (F_M_putAside ((A_M_leastMissed_6 w i14).2.2) 0) (i14 : Int))) (i14 : Int)).1))]) 3 rfl (by decide) rfl rfl dX12_leastMissed_74 rfl ?_
          refine z_goto 6 dX12_leastMissed_77 (by decide) ?_
          exact z_Wp.sub (ls' := [(0, zR 0), (1, zI (i14 : Int)), (2, zI ((F_M_missedOf (F_M_dipNow (F_M_putAside ((A_M_leastMissed_6 w i14).2.2) 0) (i14 : Int) (F_M_firstWell (F_M_putAside ((A_M_leastMissed_6 w i14).2.2) 0) (i14 : Int))) (i14 : Int)).1)), (3, zI ((i14 : Int) + 1))]) (z_lcast (by rw [z_c0 i14]) ih) (z_sub_of [0, 1, 2, 3] rfl)
        · have h := h.2 c64
          rw [if_neg c64] at ih
          refine z_iload (pc' := 65) 4 rfl dX12_leastMissed_63 rfl ?_
          refine z_iload_n (pc' := 66) 2 rfl rfl dX12_leastMissed_65 rfl ?_
          obtain ⟨r27, h⟩ := h
          have r28 := h
          refine z_icmp_ge 74 dX12_leastMissed_66 (by decide) (pc' := 69) rfl r27 r28 (fun c65 => ?_) (fun c65 => ?_)
          · skip
            rw [if_pos c65] at ih
            refine z_iinc (pc' := 77) (ls' := [(0, zR 0), (1, zI ((A_M_leastMissed_6 w i14).1)), (2, zI ((A_M_leastMissed_6 w i14).2.1)), (3, zI ((i14 : Int) + 1)), (4, zI ((F_M_missedOf (F_M_dipNow (F_M_putAside ((A_M_leastMissed_6 w i14).2.2) 0) (i14 : Int) (F_M_firstWell (F_M_putAside ((A_M_leastMissed_6 w i14).2.2) 0) (i14 : Int))) (i14 : Int)).1))]) 3 rfl (by decide) rfl rfl dX12_leastMissed_74 rfl ?_
            refine z_goto 6 dX12_leastMissed_77 (by decide) ?_
            exact z_Wp.sub (ls' := [(0, zR 0), (1, zI ((A_M_leastMissed_6 w i14).1)), (2, zI ((A_M_leastMissed_6 w i14).2.1)), (3, zI ((i14 : Int) + 1))]) (z_lcast (by rw [z_c0 i14]) ih) (z_sub_of [0, 1, 2, 3] rfl)
          · skip
            rw [if_neg c65] at ih
            refine z_iload_n (pc' := 70) 3 rfl rfl dX12_leastMissed_69 rfl ?_
            refine z_istore_n (pc' := 71) (ls' := [(0, zR 0), (1, zI (i14 : Int)), (2, zI ((A_M_leastMissed_6 w i14).2.1)), (3, zI (i14 : Int)), (4, zI ((F_M_missedOf (F_M_dipNow (F_M_putAside ((A_M_leastMissed_6 w i14).2.2) 0) (i14 : Int) (F_M_firstWell (F_M_putAside ((A_M_leastMissed_6 w i14).2.2) 0) (i14 : Int))) (i14 : Int)).1))]) rfl (by decide) rfl rfl dX12_leastMissed_70 rfl ?_
            refine z_iload (pc' := 73) 4 rfl dX12_leastMissed_71 rfl ?_
            refine z_istore_n (pc' := 74) (ls' := [(0, zR 0), (1, zI (i14 : Int)), (2, zI ((F_M_missedOf (F_M_dipNow (F_M_putAside ((A_M_leastMissed_6 w i14).2.2) 0) (i14 : Int) (F_M_firstWell (F_M_putAside ((A_M_leastMissed_6 w i14).2.2) 0) (i14 : Int))) (i14 : Int)).1)), (3, zI (i14 : Int)), (4, zI ((F_M_missedOf (F_M_dipNow (F_M_putAside ((A_M_leastMissed_6 w i14).2.2) 0) (i14 : Int) (F_M_firstWell (F_M_putAside ((A_M_leastMissed_6 w i14).2.2) 0) (i14 : Int))) (i14 : Int)).1))]) rfl (by decide) rfl rfl dX12_leastMissed_73 rfl ?_
            refine z_iinc (pc' := 77) (ls' := [(0, zR 0), (1, zI (i14 : Int)), (2, zI ((F_M_missedOf (F_M_dipNow (F_M_putAside ((A_M_leastMissed_6 w i14).2.2) 0) (i14 : Int) (F_M_firstWell (F_M_putAside ((A_M_leastMissed_6 w i14).2.2) 0) (i14 : Int))) (i14 : Int)).1)), (3, zI ((i14 : Int) + 1)), (4, zI ((F_M_missedOf (F_M_dipNow (F_M_putAside ((A_M_leastMissed_6 w i14).2.2) 0) (i14 : Int) (F_M_firstWell (F_M_putAside ((A_M_leastMissed_6 w i14).2.2) 0) (i14 : Int))) (i14 : Int)).1))]) 3 rfl (by decide) rfl rfl dX12_leastMissed_74 rfl ?_
            refine z_goto 6 dX12_leastMissed_77 (by decide) ?_
            exact z_Wp.sub (ls' := [(0, zR 0), (1, zI (i14 : Int)), (2, zI ((F_M_missedOf (F_M_dipNow (F_M_putAside ((A_M_leastMissed_6 w i14).2.2) 0) (i14 : Int) (F_M_firstWell (F_M_putAside ((A_M_leastMissed_6 w i14).2.2) 0) (i14 : Int))) (i14 : Int)).1)), (3, zI ((i14 : Int) + 1))]) (z_lcast (by rw [z_c0 i14]) ih) (z_sub_of [0, 1, 2, 3] rfl)
def A_M_amnesty_6 (w : z_Wd)  : Nat → Int × Int × z_Wd
  | 0 => ((-1), 0, w)
  | i8 + 1 => if (A_M_amnesty_6 w i8).1 = (-1) then ((i8 : Int), (F_M_missedAll (z_up ((A_M_amnesty_6 w i8).2.2) 19 ((i8 : Int).toNat) 0)).1, z_up ((F_M_missedAll (z_up ((A_M_amnesty_6 w i8).2.2) 19 ((i8 : Int).toNat) 0)).2) 19 ((i8 : Int).toNat) (((A_M_amnesty_6 w i8).2.2) 19 ((i8 : Int).toNat))) else if (F_M_missedAll (z_up ((A_M_amnesty_6 w i8).2.2) 19 ((i8 : Int).toNat) 0)).1 ≥ (A_M_amnesty_6 w i8).2.1 then ((A_M_amnesty_6 w i8).1, (A_M_amnesty_6 w i8).2.1, z_up ((F_M_missedAll (z_up ((A_M_amnesty_6 w i8).2.2) 19 ((i8 : Int).toNat) 0)).2) 19 ((i8 : Int).toNat) (((A_M_amnesty_6 w i8).2.2) 19 ((i8 : Int).toNat))) else ((i8 : Int), (F_M_missedAll (z_up ((A_M_amnesty_6 w i8).2.2) 19 ((i8 : Int).toNat) 0)).1, z_up ((F_M_missedAll (z_up ((A_M_amnesty_6 w i8).2.2) 19 ((i8 : Int).toNat) 0)).2) 19 ((i8 : Int).toNat) (((A_M_amnesty_6 w i8).2.2) 19 ((i8 : Int).toNat)))
def P_M_amnesty (w : z_Wd)  : Prop := (∀ i8 : Nat, i8 < ((w 0 28).toNat) → (-2147483648 ≤ (i8 : Int) ∧ (i8 : Int) < 2147483648) ∧ (-2147483648 ≤ ((A_M_amnesty_6 w i8).2.2) 0 28 ∧ ((A_M_amnesty_6 w i8).2.2) 0 28 < 2147483648) ∧ (((A_M_amnesty_6 w i8).2.2) 0 28 = w 0 28) ∧ (0 ≤ (i8 : Int) ∧ (i8 : Int) < 160) ∧ (P_M_missedAll (z_up ((A_M_amnesty_6 w i8).2.2) 19 ((i8 : Int).toNat) 0)) ∧ (-2147483648 ≤ (A_M_amnesty_6 w i8).1 ∧ (A_M_amnesty_6 w i8).1 < 2147483648) ∧ (((A_M_amnesty_6 w i8).1 = (-1) → True) ∧ (¬ ((A_M_amnesty_6 w i8).1 = (-1)) → (-2147483648 ≤ (F_M_missedAll (z_up ((A_M_amnesty_6 w i8).2.2) 19 ((i8 : Int).toNat) 0)).1 ∧ (F_M_missedAll (z_up ((A_M_amnesty_6 w i8).2.2) 19 ((i8 : Int).toNat) 0)).1 < 2147483648) ∧ (-2147483648 ≤ (A_M_amnesty_6 w i8).2.1 ∧ (A_M_amnesty_6 w i8).2.1 < 2147483648)))) ∧ ((-2147483648 ≤ (((w 0 28).toNat : Nat) : Int) ∧ (((w 0 28).toNat : Nat) : Int) < 2147483648) ∧ (-2147483648 ≤ ((A_M_amnesty_6 w (w 0 28).toNat).2.2) 0 28 ∧ ((A_M_amnesty_6 w (w 0 28).toNat).2.2) 0 28 < 2147483648) ∧ (((A_M_amnesty_6 w (w 0 28).toNat).2.2) 0 28 = w 0 28))
def F_M_amnesty (w : z_Wd)  : Int × z_Wd := ((A_M_amnesty_6 w (w 0 28).toNat).1, (A_M_amnesty_6 w (w 0 28).toNat).2.2)
set_option maxRecDepth 4000 in
theorem c_M_amnesty {d : Nat} {w : z_Wd} {Q : Option z_V → z_Wd → Prop} (h : P_M_amnesty w ) (k : Q (some (zI (F_M_amnesty w ).1)) (F_M_amnesty w ).2) : z_Wc (d + 8) m_X12_amnesty [zR 0] w Q := by
  unfold P_M_amnesty at h
  unfold F_M_amnesty at k
  refine z_enter rfl (Nat.le_of_ble_eq_true rfl) ?_
  show z_Wp m_X12_amnesty _ 0 [(0, zR 0)] [] w _
  refine z_iconst (pc' := 1) dX12_amnesty_0 rfl ?_
  refine z_istore_n (pc' := 2) (ls' := [(0, zR 0), (1, zI (-1))]) rfl (by decide) rfl rfl dX12_amnesty_1 rfl ?_
  refine z_iconst (pc' := 3) dX12_amnesty_2 rfl ?_
  refine z_istore_n (pc' := 4) (ls' := [(0, zR 0), (1, zI (-1)), (2, zI 0)]) rfl (by decide) rfl rfl dX12_amnesty_3 rfl ?_
  refine z_iconst (pc' := 5) dX12_amnesty_4 rfl ?_
  refine z_istore_n (pc' := 6) (ls' := [(0, zR 0), (1, zI (-1)), (2, zI 0), (3, zI 0)]) rfl (by decide) rfl rfl dX12_amnesty_5 rfl ?_
  refine z_upto ((w 0 28).toNat) (fun i8 => z_Wp m_X12_amnesty (d + 8) 6 [(0, zR 0), (1, zI ((A_M_amnesty_6 w i8).1)), (2, zI ((A_M_amnesty_6 w i8).2.1)), (3, zI (i8 : Int))] [] ((A_M_amnesty_6 w i8).2.2) Q) ?_ ?_
  · skip
    have h := h.2
    refine z_iload_n (pc' := 7) 3 rfl rfl dX12_amnesty_6 rfl ?_
    refine z_aload_n (pc' := 8) 0 rfl rfl dX12_amnesty_7 rfl ?_
    refine z_getI2 (v := ((A_M_amnesty_6 w (w 0 28).toNat).2.2) 0 28) (pc' := 11) g_X12_257 (by decide) rfl rfl rfl dX12_amnesty_8 rfl ?_
    obtain ⟨r17, h⟩ := h
    obtain ⟨r18, h⟩ := h
    have r19 := h
    refine z_icmp_ge 71 dX12_amnesty_11 (by decide) (pc' := 14) rfl r17 r18 (fun _ => ?_) (fun c => absurd c (by first | omega | (rw [r19]; first | exact z_exitgt | exact z_exitge | omega)))
    refine z_iload_n (pc' := 72) 1 rfl rfl dX12_amnesty_71 rfl ?_
    refine z_iret rfl dX12_amnesty_72 ?_
    exact k
  · intro i8 hi ih
    have h := h.1 i8 hi
    have ih : z_Wp m_X12_amnesty (d + 8) 6 [(0, zR 0), (1, zI ((if (A_M_amnesty_6 w i8).1 = (-1) then ((i8 : Int), (F_M_missedAll (z_up ((A_M_amnesty_6 w i8).2.2) 19 ((i8 : Int).toNat) 0)).1, z_up ((F_M_missedAll (z_up ((A_M_amnesty_6 w i8).2.2) 19 ((i8 : Int).toNat) 0)).2) 19 ((i8 : Int).toNat) (((A_M_amnesty_6 w i8).2.2) 19 ((i8 : Int).toNat))) else if (F_M_missedAll (z_up ((A_M_amnesty_6 w i8).2.2) 19 ((i8 : Int).toNat) 0)).1 ≥ (A_M_amnesty_6 w i8).2.1 then ((A_M_amnesty_6 w i8).1, (A_M_amnesty_6 w i8).2.1, z_up ((F_M_missedAll (z_up ((A_M_amnesty_6 w i8).2.2) 19 ((i8 : Int).toNat) 0)).2) 19 ((i8 : Int).toNat) (((A_M_amnesty_6 w i8).2.2) 19 ((i8 : Int).toNat))) else ((i8 : Int), (F_M_missedAll (z_up ((A_M_amnesty_6 w i8).2.2) 19 ((i8 : Int).toNat) 0)).1, z_up ((F_M_missedAll (z_up ((A_M_amnesty_6 w i8).2.2) 19 ((i8 : Int).toNat) 0)).2) 19 ((i8 : Int).toNat) (((A_M_amnesty_6 w i8).2.2) 19 ((i8 : Int).toNat)))).1)), (2, zI ((if (A_M_amnesty_6 w i8).1 = (-1) then ((i8 : Int), (F_M_missedAll (z_up ((A_M_amnesty_6 w i8).2.2) 19 ((i8 : Int).toNat) 0)).1, z_up ((F_M_missedAll (z_up ((A_M_amnesty_6 w i8).2.2) 19 ((i8 : Int).toNat) 0)).2) 19 ((i8 : Int).toNat) (((A_M_amnesty_6 w i8).2.2) 19 ((i8 : Int).toNat))) else if (F_M_missedAll (z_up ((A_M_amnesty_6 w i8).2.2) 19 ((i8 : Int).toNat) 0)).1 ≥ (A_M_amnesty_6 w i8).2.1 then ((A_M_amnesty_6 w i8).1, (A_M_amnesty_6 w i8).2.1, z_up ((F_M_missedAll (z_up ((A_M_amnesty_6 w i8).2.2) 19 ((i8 : Int).toNat) 0)).2) 19 ((i8 : Int).toNat) (((A_M_amnesty_6 w i8).2.2) 19 ((i8 : Int).toNat))) else ((i8 : Int), (F_M_missedAll (z_up ((A_M_amnesty_6 w i8).2.2) 19 ((i8 : Int).toNat) 0)).1, z_up ((F_M_missedAll (z_up ((A_M_amnesty_6 w i8).2.2) 19 ((i8 : Int).toNat) 0)).2) 19 ((i8 : Int).toNat) (((A_M_amnesty_6 w i8).2.2) 19 ((i8 : Int).toNat)))).2.1)), (3, zI ((i8 + 1 : Nat) : Int))] [] ((if (A_M_amnesty_6 w i8).1 = (-1) then ((i8 : Int), (F_M_missedAll (z_up ((A_M_amnesty_6 w i8).2.2) 19 ((i8 : Int).toNat) 0)).1, z_up ((F_M_missedAll (z_up ((A_M_amnesty_6 w i8).2.2) 19 ((i8 : Int).toNat) 0)).2) 19 ((i8 : Int).toNat) (((A_M_amnesty_6 w i8).2.2) 19 ((i8 : Int).toNat))) else if (F_M_missedAll (z_up ((A_M_amnesty_6 w i8).2.2) 19 ((i8 : Int).toNat) 0)).1 ≥ (A_M_amnesty_6 w i8).2.1 then ((A_M_amnesty_6 w i8).1, (A_M_amnesty_6 w i8).2.1, z_up ((F_M_missedAll (z_up ((A_M_amnesty_6 w i8).2.2) 19 ((i8 : Int).toNat) 0)).2) 19 ((i8 : Int).toNat) (((A_M_amnesty_6 w i8).2.2) 19 ((i8 : Int).toNat))) else ((i8 : Int), (F_M_missedAll (z_up ((A_M_amnesty_6 w i8).2.2) 19 ((i8 : Int).toNat) 0)).1, z_up ((F_M_missedAll (z_up ((A_M_amnesty_6 w i8).2.2) 19 ((i8 : Int).toNat) 0)).2) 19 ((i8 : Int).toNat) (((A_M_amnesty_6 w i8).2.2) 19 ((i8 : Int).toNat)))).2.2) Q := ih
    refine z_iload_n (pc' := 7) 3 rfl rfl dX12_amnesty_6 rfl ?_
    refine z_aload_n (pc' := 8) 0 rfl rfl dX12_amnesty_7 rfl ?_
    refine z_getI2 (v := ((A_M_amnesty_6 w i8).2.2) 0 28) (pc' := 11) g_X12_257 (by decide) rfl rfl rfl dX12_amnesty_8 rfl ?_
    obtain ⟨r9, h⟩ := h
    obtain ⟨r10, h⟩ := h
    obtain ⟨r11, h⟩ := h
    refine z_icmp_ge 71 dX12_amnesty_11 (by decide) (pc' := 14) rfl r9 r10 (fun c => absurd c (by first | omega | (rw [r11]; first | exact z_exitgt | exact z_exitge | omega))) (fun _ => ?_)
    refine z_aload_n (pc' := 15) 0 rfl rfl dX12_amnesty_14 rfl ?_
    refine z_getR (t := 19) (pc' := 18) g_X12_64 (by decide) rfl rfl dX12_amnesty_15 rfl ?_
    refine z_iconst (pc' := 19) dX12_amnesty_18 rfl ?_
    refine z_iload_n (pc' := 20) 3 rfl rfl dX12_amnesty_19 rfl ?_
    refine z_iadd (pc' := 21) dX12_amnesty_20 rfl ?_
    refine z_eqI (y := (i8 : Int)) (by omega) ?_
    obtain ⟨r12, h⟩ := h
    refine z_iald2 (v := ((A_M_amnesty_6 w i8).2.2) 19 ((i8 : Int).toNat)) (pc' := 22) (by decide) rfl r12 (by decide) rfl dX12_amnesty_21 rfl ?_
    refine z_istore (pc' := 24) (ls' := [(0, zR 0), (1, zI ((A_M_amnesty_6 w i8).1)), (2, zI ((A_M_amnesty_6 w i8).2.1)), (3, zI (i8 : Int)), (4, zI (((A_M_amnesty_6 w i8).2.2) 19 ((i8 : Int).toNat)))]) (by decide) rfl rfl dX12_amnesty_22 rfl ?_
    refine z_aload_n (pc' := 25) 0 rfl rfl dX12_amnesty_24 rfl ?_
    refine z_getR (t := 19) (pc' := 28) g_X12_64 (by decide) rfl rfl dX12_amnesty_25 rfl ?_
    refine z_iconst (pc' := 29) dX12_amnesty_28 rfl ?_
    refine z_iload_n (pc' := 30) 3 rfl rfl dX12_amnesty_29 rfl ?_
    refine z_iadd (pc' := 31) dX12_amnesty_30 rfl ?_
    refine z_eqI (y := (i8 : Int)) (by omega) ?_
    refine z_iconst (pc' := 32) dX12_amnesty_31 rfl ?_
    refine z_iast2 (w' := z_up ((A_M_amnesty_6 w i8).2.2) 19 ((i8 : Int).toNat) 0) (pc' := 33) (by decide) rfl r12 (by decide) rfl dX12_amnesty_32 rfl ?_
    refine z_aload_n (pc' := 34) 0 rfl rfl dX12_amnesty_33 rfl ?_
    refine z_invV (as := []) (st := []) (C := m_X12_missedAll) (fs := [0, 3, 0, 0, 0, 0, 4, 5, 6, 7, 8, 9, 10, 0, 0, 11, 12, 13, 14, 15, 16, 0, 0, 0, 17, 18, 19, 20, 0, 0, 0, 21, 22, 0, 0, 23, 0, 1, 24, 0, 0, 25, 26, 0, 27, 0]) (pc' := 37) dX12_amnesty_34 rfl t_8_47 k_X12_missedAll rfl (by decide) rfl rfl rfl rfl (Nat.le_of_ble_eq_true rfl) ?_
    obtain ⟨r13, h⟩ := h
    refine c_M_missedAll r13 ?_
    show z_Wp m_X12_amnesty _ 37 [(0, zR 0), (1, zI ((A_M_amnesty_6 w i8).1)), (2, zI ((A_M_amnesty_6 w i8).2.1)), (3, zI (i8 : Int)), (4, zI (((A_M_amnesty_6 w i8).2.2) 19 ((i8 : Int).toNat)))] [zI ((F_M_missedAll (z_up ((A_M_amnesty_6 w i8).2.2) 19 ((i8 : Int).toNat) 0)).1)] ((F_M_missedAll (z_up ((A_M_amnesty_6 w i8).2.2) 19 ((i8 : Int).toNat) 0)).2) _
    refine z_istore (pc' := 39) (ls' := [(0, zR 0), (1, zI ((A_M_amnesty_6 w i8).1)), (2, zI ((A_M_amnesty_6 w i8).2.1)), (3, zI (i8 : Int)), (4, zI (((A_M_amnesty_6 w i8).2.2) 19 ((i8 : Int).toNat))), (5, zI ((F_M_missedAll (z_up ((A_M_amnesty_6 w i8).2.2) 19 ((i8 : Int).toNat) 0)).1))]) (by decide) rfl rfl dX12_amnesty_37 rfl ?_
    refine z_aload_n (pc' := 40) 0 rfl rfl dX12_amnesty_39 rfl ?_
    refine z_getR (t := 19) (pc' := 43) g_X12_64 (by decide) rfl rfl dX12_amnesty_40 rfl ?_
    refine z_iconst (pc' := 44) dX12_amnesty_43 rfl ?_
    refine z_iload_n (pc' := 45) 3 rfl rfl dX12_amnesty_44 rfl ?_
    refine z_iadd (pc' := 46) dX12_amnesty_45 rfl ?_
    refine z_eqI (y := (i8 : Int)) (by omega) ?_
    refine z_iload (pc' := 48) 4 rfl dX12_amnesty_46 rfl ?_
    refine z_iast2 (w' := z_up ((F_M_missedAll (z_up ((A_M_amnesty_6 w i8).2.2) 19 ((i8 : Int).toNat) 0)).2) 19 ((i8 : Int).toNat) (((A_M_amnesty_6 w i8).2.2) 19 ((i8 : Int).toNat))) (pc' := 49) (by decide) rfl r12 (by decide) rfl dX12_amnesty_48 rfl ?_
    refine z_iload_n (pc' := 50) 1 rfl rfl dX12_amnesty_49 rfl ?_
    refine z_iconst (pc' := 51) dX12_amnesty_50 rfl ?_
    obtain ⟨r14, h⟩ := h
    refine z_icmp_eq 60 dX12_amnesty_51 (by decide) (pc' := 54) rfl r14 (by decide) (fun c66 => ?_) (fun c66 => ?_)
    · have h := h.1 c66
      rw [if_pos c66] at ih
      refine z_iload_n (pc' := 61) 3 rfl rfl dX12_amnesty_60 rfl ?_
      refine z_istore_n (pc' := 62) (ls' := [(0, zR 0), (1, zI (i8 : Int)), (2, zI ((A_M_amnesty_6 w i8).2.1)), (3, zI (i8 : Int)), (4, zI (((A_M_amnesty_6 w i8).2.2) 19 ((i8 : Int).toNat))), (5, zI ((F_M_missedAll (z_up ((A_M_amnesty_6 w i8).2.2) 19 ((i8 : Int).toNat) 0)).1))]) rfl (by decide) rfl rfl dX12_amnesty_61 rfl ?_
      refine z_iload (pc' := 64) 5 rfl dX12_amnesty_62 rfl ?_
      refine z_istore_n (pc' := 65) (ls' := [(0, zR 0), (1, zI (i8 : Int)), (2, zI ((F_M_missedAll (z_up ((A_M_amnesty_6 w i8).2.2) 19 ((i8 : Int).toNat) 0)).1)), (3, zI (i8 : Int)), (4, zI (((A_M_amnesty_6 w i8).2.2) 19 ((i8 : Int).toNat))), (5, zI ((F_M_missedAll (z_up ((A_M_amnesty_6 w i8).2.2) 19 ((i8 : Int).toNat) 0)).1))]) rfl (by decide) rfl rfl dX12_amnesty_64 rfl ?_
      refine z_iinc (pc' := 68) (ls' := [(0, zR 0), (1, zI (i8 : Int)), (2, zI ((F_M_missedAll (z_up ((A_M_amnesty_6 w i8).2.2) 19 ((i8 : Int).toNat) 0)).1)), (3, zI ((i8 : Int) + 1)), (4, zI (((A_M_amnesty_6 w i8).2.2) 19 ((i8 : Int).toNat))), (5, zI ((F_M_missedAll (z_up ((A_M_amnesty_6 w i8).2.2) 19 ((i8 : Int).toNat) 0)).1))]) 3 rfl (by decide) rfl rfl dX12_amnesty_65 rfl ?_
      refine z_goto 6 dX12_amnesty_68 (by decide) ?_
      exact z_Wp.sub (ls' := [(0, zR 0), (1, zI (i8 : Int)), (2, zI ((F_M_missedAll (z_up ((A_M_amnesty_6 w i8).2.2) 19 ((i8 : Int).toNat) 0)).1)), (3, zI ((i8 : Int) + 1))]) (z_lcast (by rw [z_c0 i8]) ih) (z_sub_of [0, 1, 2, 3] rfl)
    · have h := h.2 c66
      rw [if_neg c66] at ih
      refine z_iload (pc' := 56) 5 rfl dX12_amnesty_54 rfl ?_
      refine z_iload_n (pc' := 57) 2 rfl rfl dX12_amnesty_56 rfl ?_
      obtain ⟨r15, h⟩ := h
      have r16 := h
      refine z_icmp_ge 65 dX12_amnesty_57 (by decide) (pc' := 60) rfl r15 r16 (fun c67 => ?_) (fun c67 => ?_)
      · skip
        rw [if_pos c67] at ih
        refine z_iinc (pc' := 68) (ls' := [(0, zR 0), (1, zI ((A_M_amnesty_6 w i8).1)), (2, zI ((A_M_amnesty_6 w i8).2.1)), (3, zI ((i8 : Int) + 1)), (4, zI (((A_M_amnesty_6 w i8).2.2) 19 ((i8 : Int).toNat))), (5, zI ((F_M_missedAll (z_up ((A_M_amnesty_6 w i8).2.2) 19 ((i8 : Int).toNat) 0)).1))]) 3 rfl (by decide) rfl rfl dX12_amnesty_65 rfl ?_
        refine z_goto 6 dX12_amnesty_68 (by decide) ?_
        exact z_Wp.sub (ls' := [(0, zR 0), (1, zI ((A_M_amnesty_6 w i8).1)), (2, zI ((A_M_amnesty_6 w i8).2.1)), (3, zI ((i8 : Int) + 1))]) (z_lcast (by rw [z_c0 i8]) ih) (z_sub_of [0, 1, 2, 3] rfl)
      · skip
        rw [if_neg c67] at ih
        refine z_iload_n (pc' := 61) 3 rfl rfl dX12_amnesty_60 rfl ?_
        refine z_istore_n (pc' := 62) (ls' := [(0, zR 0), (1, zI (i8 : Int)), (2, zI ((A_M_amnesty_6 w i8).2.1)), (3, zI (i8 : Int)), (4, zI (((A_M_amnesty_6 w i8).2.2) 19 ((i8 : Int).toNat))), (5, zI ((F_M_missedAll (z_up ((A_M_amnesty_6 w i8).2.2) 19 ((i8 : Int).toNat) 0)).1))]) rfl (by decide) rfl rfl dX12_amnesty_61 rfl ?_
        refine z_iload (pc' := 64) 5 rfl dX12_amnesty_62 rfl ?_
        refine z_istore_n (pc' := 65) (ls' := [(0, zR 0), (1, zI (i8 : Int)), (2, zI ((F_M_missedAll (z_up ((A_M_amnesty_6 w i8).2.2) 19 ((i8 : Int).toNat) 0)).1)), (3, zI (i8 : Int)), (4, zI (((A_M_amnesty_6 w i8).2.2) 19 ((i8 : Int).toNat))), (5, zI ((F_M_missedAll (z_up ((A_M_amnesty_6 w i8).2.2) 19 ((i8 : Int).toNat) 0)).1))]) rfl (by decide) rfl rfl dX12_amnesty_64 rfl ?_
        refine z_iinc (pc' := 68) (ls' := [(0, zR 0), (1, zI (i8 : Int)), (2, zI ((F_M_missedAll (z_up ((A_M_amnesty_6 w i8).2.2) 19 ((i8 : Int).toNat) 0)).1)), (3, zI ((i8 : Int) + 1)), (4, zI (((A_M_amnesty_6 w i8).2.2) 19 ((i8 : Int).toNat))), (5, zI ((F_M_missedAll (z_up ((A_M_amnesty_6 w i8).2.2) 19 ((i8 : Int).toNat) 0)).1))]) 3 rfl (by decide) rfl rfl dX12_amnesty_65 rfl ?_
        refine z_goto 6 dX12_amnesty_68 (by decide) ?_
        exact z_Wp.sub (ls' := [(0, zR 0), (1, zI (i8 : Int)), (2, zI ((F_M_missedAll (z_up ((A_M_amnesty_6 w i8).2.2) 19 ((i8 : Int).toNat) 0)).1)), (3, zI ((i8 : Int) + 1))]) (z_lcast (by rw [z_c0 i8]) ih) (z_sub_of [0, 1, 2, 3] rfl)
def P_M_most (w : z_Wd) (a0 : Int) : Prop := (-2147483648 ≤ w 0 29 ∧ w 0 29 < 2147483648) ∧ ((w 0 29 = 0 → True) ∧ (¬ (w 0 29 = 0) → (-2147483648 ≤ a0 ∧ a0 < 2147483648) ∧ ((a0 = 0 → P_M_leastMissed w) ∧ (¬ a0 = 0 → (a0 = 1 → P_M_net w) ∧ (¬ a0 = 1 → (a0 = 2 → P_M_amnesty w) ∧ (¬ a0 = 2 → (a0 = 3 → P_M_topWell w 1) ∧ (¬ a0 = 3 → (a0 = 4 → P_M_topWell w 0) ∧ (¬ a0 = 4 → (a0 = 5 → P_M_longest w) ∧ (¬ a0 = 5 → (a0 = 6 → P_M_dearest w) ∧ (¬ a0 = 6 → (a0 = 7 → P_M_drowned w) ∧ (¬ a0 = 7 → True)))))))))))
def F_M_most (w : z_Wd) (a0 : Int) : Int × z_Wd := if w 0 29 = 0 then ((-1), w) else if a0 = 0 then ((F_M_leastMissed w).1, (F_M_leastMissed w).2) else if a0 = 1 then (F_M_net w, w) else if a0 = 2 then ((F_M_amnesty w).1, (F_M_amnesty w).2) else if a0 = 3 then (F_M_topWell w 1, w) else if a0 = 4 then (F_M_topWell w 0, w) else if a0 = 5 then (F_M_longest w, w) else if a0 = 6 then (F_M_dearest w, w) else if a0 = 7 then (F_J_bitCount_0f7a4 w (F_M_drowned w), w) else ((-1), w)
set_option maxRecDepth 4000 in
theorem c_M_most {d : Nat} {w : z_Wd} {a0 : Int} {Q : Option z_V → z_Wd → Prop} (h : P_M_most w a0) (k : Q (some (zI (F_M_most w a0).1)) (F_M_most w a0).2) : z_Wc (d + 9) m_X12_most [zR 0, zI a0] w Q := by
  unfold P_M_most at h
  unfold F_M_most at k
  refine z_enter rfl (Nat.le_of_ble_eq_true rfl) ?_
  show z_Wp m_X12_most _ 0 [(0, zR 0), (1, zI a0)] [] w _
  refine z_aload_n (pc' := 1) 0 rfl rfl dX12_most_0 rfl ?_
  refine z_getI2 (v := w 0 29) (pc' := 4) g_X12_260 (by decide) rfl rfl rfl dX12_most_1 rfl ?_
  obtain ⟨r1, h⟩ := h
  refine z_if_ne 9 dX12_most_4 (by decide) (pc' := 7) rfl r1 (fun c => ?_) (fun c => ?_)
  · have h := h.2 c
    rw [if_neg c] at k
    refine z_iload_n (pc' := 10) 1 rfl rfl dX12_most_9 rfl ?_
    obtain ⟨r2, h⟩ := h
    refine z_table dX12_most_10 (by decide) r2 ⟨fun c0 => ⟨56, by decide, ?_⟩, fun c0 => ⟨fun c1 => ⟨61, by decide, ?_⟩, fun c1 => ⟨fun c2 => ⟨66, by decide, ?_⟩, fun c2 => ⟨fun c3 => ⟨71, by decide, ?_⟩, fun c3 => ⟨fun c4 => ⟨77, by decide, ?_⟩, fun c4 => ⟨fun c5 => ⟨83, by decide, ?_⟩, fun c5 => ⟨fun c6 => ⟨88, by decide, ?_⟩, fun c6 => ⟨fun c7 => ⟨93, by decide, ?_⟩, fun c7 => ⟨101, by decide, ?_⟩⟩⟩⟩⟩⟩⟩⟩⟩
    · skip
      have c0 : a0 = 0 := c0
      have h := h.1 c0
      rw [if_pos c0] at k
      refine z_aload_n (pc' := 57) 0 rfl rfl dX12_most_56 rfl ?_
      refine z_invV (as := []) (st := []) (C := m_X12_leastMissed) (fs := [0, 3, 0, 0, 0, 0, 4, 5, 6, 7, 8, 9, 10, 0, 0, 11, 12, 13, 14, 15, 16, 0, 0, 0, 17, 18, 19, 20, 0, 0, 0, 21, 22, 0, 0, 23, 0, 1, 24, 0, 0, 25, 26, 0, 27, 0]) (pc' := 60) dX12_most_57 rfl t_8_176 k_X12_leastMissed rfl (by decide) rfl rfl rfl rfl (Nat.le_of_ble_eq_true rfl) ?_
      have r3 := h
      refine c_M_leastMissed r3 ?_
      show z_Wp m_X12_most _ 60 [(0, zR 0), (1, zI a0)] [zI ((F_M_leastMissed w).1)] ((F_M_leastMissed w).2) _
      refine z_iret rfl dX12_most_60 ?_
      exact k
    · skip
      have c0 : ¬ a0 = 0 := c0
      have h := h.2 c0
      rw [if_neg c0] at k
      have c1 : a0 = 1 := c1
      have h := h.1 c1
      rw [if_pos c1] at k
      refine z_aload_n (pc' := 62) 0 rfl rfl dX12_most_61 rfl ?_
      refine z_invV (as := []) (st := []) (C := m_X12_net) (fs := [0, 3, 0, 0, 0, 0, 4, 5, 6, 7, 8, 9, 10, 0, 0, 11, 12, 13, 14, 15, 16, 0, 0, 0, 17, 18, 19, 20, 0, 0, 0, 21, 22, 0, 0, 23, 0, 1, 24, 0, 0, 25, 26, 0, 27, 0]) (pc' := 65) dX12_most_62 rfl t_8_184 k_X12_net rfl (by decide) rfl rfl rfl rfl (Nat.le_of_ble_eq_true rfl) ?_
      have r4 := h
      refine c_M_net r4 ?_
      show z_Wp m_X12_most _ 65 [(0, zR 0), (1, zI a0)] [zI (F_M_net w)] w _
      refine z_iret rfl dX12_most_65 ?_
      exact k
    · skip
      have c0 : ¬ a0 = 0 := c0
      have h := h.2 c0
      rw [if_neg c0] at k
      have c1 : ¬ a0 = 1 := c1
      have h := h.2 c1
      rw [if_neg c1] at k
      have c2 : a0 = 2 := c2
      have h := h.1 c2
      rw [if_pos c2] at k
      refine z_aload_n (pc' := 67) 0 rfl rfl dX12_most_66 rfl ?_
      refine z_invV (as := []) (st := []) (C := m_X12_amnesty) (fs := [0, 3, 0, 0, 0, 0, 4, 5, 6, 7, 8, 9, 10, 0, 0, 11, 12, 13, 14, 15, 16, 0, 0, 0, 17, 18, 19, 20, 0, 0, 0, 21, 22, 0, 0, 23, 0, 1, 24, 0, 0, 25, 26, 0, 27, 0]) (pc' := 70) dX12_most_67 rfl t_8_188 k_X12_amnesty rfl (by decide) rfl rfl rfl rfl (Nat.le_of_ble_eq_true rfl) ?_
      have r5 := h
      refine c_M_amnesty r5 ?_
      show z_Wp m_X12_most _ 70 [(0, zR 0), (1, zI a0)] [zI ((F_M_amnesty w).1)] ((F_M_amnesty w).2) _
      refine z_iret rfl dX12_most_70 ?_
      exact k
    · skip
      have c0 : ¬ a0 = 0 := c0
      have h := h.2 c0
      rw [if_neg c0] at k
      have c1 : ¬ a0 = 1 := c1
      have h := h.2 c1
      rw [if_neg c1] at k
      have c2 : ¬ a0 = 2 := c2
      have h := h.2 c2
      rw [if_neg c2] at k
      have c3 : a0 = 3 := c3
      have h := h.1 c3
      rw [if_pos c3] at k
      refine z_aload_n (pc' := 72) 0 rfl rfl dX12_most_71 rfl ?_
      refine z_iconst (pc' := 73) dX12_most_72 rfl ?_
      refine z_invV (as := [zI 1]) (st := []) (C := m_X12_topWell) (fs := [0, 3, 0, 0, 0, 0, 4, 5, 6, 7, 8, 9, 10, 0, 0, 11, 12, 13, 14, 15, 16, 0, 0, 0, 17, 18, 19, 20, 0, 0, 0, 21, 22, 0, 0, 23, 0, 1, 24, 0, 0, 25, 26, 0, 27, 0]) (pc' := 76) dX12_most_73 rfl t_8_192 k_X12_topWell rfl (by decide) rfl rfl rfl rfl (Nat.le_of_ble_eq_true rfl) ?_
      have r6 := h
      refine c_M_topWell r6 ?_
      show z_Wp m_X12_most _ 76 [(0, zR 0), (1, zI a0)] [zI (F_M_topWell w 1)] w _
      refine z_iret rfl dX12_most_76 ?_
      exact k
    · skip
      have c0 : ¬ a0 = 0 := c0
      have h := h.2 c0
      rw [if_neg c0] at k
      have c1 : ¬ a0 = 1 := c1
      have h := h.2 c1
      rw [if_neg c1] at k
      have c2 : ¬ a0 = 2 := c2
      have h := h.2 c2
      rw [if_neg c2] at k
      have c3 : ¬ a0 = 3 := c3
      have h := h.2 c3
      rw [if_neg c3] at k
      have c4 : a0 = 4 := c4
      have h := h.1 c4
      rw [if_pos c4] at k
      refine z_aload_n (pc' := 78) 0 rfl rfl dX12_most_77 rfl ?_
      refine z_iconst (pc' := 79) dX12_most_78 rfl ?_
      refine z_invV (as := [zI 0]) (st := []) (C := m_X12_topWell) (fs := [0, 3, 0, 0, 0, 0, 4, 5, 6, 7, 8, 9, 10, 0, 0, 11, 12, 13, 14, 15, 16, 0, 0, 0, 17, 18, 19, 20, 0, 0, 0, 21, 22, 0, 0, 23, 0, 1, 24, 0, 0, 25, 26, 0, 27, 0]) (pc' := 82) dX12_most_79 rfl t_8_192 k_X12_topWell rfl (by decide) rfl rfl rfl rfl (Nat.le_of_ble_eq_true rfl) ?_
      have r7 := h
      refine c_M_topWell r7 ?_
      show z_Wp m_X12_most _ 82 [(0, zR 0), (1, zI a0)] [zI (F_M_topWell w 0)] w _
      refine z_iret rfl dX12_most_82 ?_
      exact k
    · skip
      have c0 : ¬ a0 = 0 := c0
      have h := h.2 c0
      rw [if_neg c0] at k
      have c1 : ¬ a0 = 1 := c1
      have h := h.2 c1
      rw [if_neg c1] at k
      have c2 : ¬ a0 = 2 := c2
      have h := h.2 c2
      rw [if_neg c2] at k
      have c3 : ¬ a0 = 3 := c3
      have h := h.2 c3
      rw [if_neg c3] at k
      have c4 : ¬ a0 = 4 := c4
      have h := h.2 c4
      rw [if_neg c4] at k
      have c5 : a0 = 5 := c5
      have h := h.1 c5
      rw [if_pos c5] at k
      refine z_aload_n (pc' := 84) 0 rfl rfl dX12_most_83 rfl ?_
      refine z_invV (as := []) (st := []) (C := m_X12_longest) (fs := [0, 3, 0, 0, 0, 0, 4, 5, 6, 7, 8, 9, 10, 0, 0, 11, 12, 13, 14, 15, 16, 0, 0, 0, 17, 18, 19, 20, 0, 0, 0, 21, 22, 0, 0, 23, 0, 1, 24, 0, 0, 25, 26, 0, 27, 0]) (pc' := 87) dX12_most_84 rfl t_8_196 k_X12_longest rfl (by decide) rfl rfl rfl rfl (Nat.le_of_ble_eq_true rfl) ?_
      have r8 := h
      refine c_M_longest r8 ?_
      show z_Wp m_X12_most _ 87 [(0, zR 0), (1, zI a0)] [zI (F_M_longest w)] w _
      refine z_iret rfl dX12_most_87 ?_
      exact k
    · skip
      have c0 : ¬ a0 = 0 := c0
      have h := h.2 c0
      rw [if_neg c0] at k
      have c1 : ¬ a0 = 1 := c1
      have h := h.2 c1
      rw [if_neg c1] at k
      have c2 : ¬ a0 = 2 := c2
      have h := h.2 c2
      rw [if_neg c2] at k
      have c3 : ¬ a0 = 3 := c3
      have h := h.2 c3
      rw [if_neg c3] at k
      have c4 : ¬ a0 = 4 := c4
      have h := h.2 c4
      rw [if_neg c4] at k
      have c5 : ¬ a0 = 5 := c5
      have h := h.2 c5
      rw [if_neg c5] at k
      have c6 : a0 = 6 := c6
      have h := h.1 c6
      rw [if_pos c6] at k
      refine z_aload_n (pc' := 89) 0 rfl rfl dX12_most_88 rfl ?_
      refine z_invV (as := []) (st := []) (C := m_X12_dearest) (fs := [0, 3, 0, 0, 0, 0, 4, 5, 6, 7, 8, 9, 10, 0, 0, 11, 12, 13, 14, 15, 16, 0, 0, 0, 17, 18, 19, 20, 0, 0, 0, 21, 22, 0, 0, 23, 0, 1, 24, 0, 0, 25, 26, 0, 27, 0]) (pc' := 92) dX12_most_89 rfl t_8_200 k_X12_dearest rfl (by decide) rfl rfl rfl rfl (Nat.le_of_ble_eq_true rfl) ?_
      have r9 := h
      refine c_M_dearest r9 ?_
      show z_Wp m_X12_most _ 92 [(0, zR 0), (1, zI a0)] [zI (F_M_dearest w)] w _
      refine z_iret rfl dX12_most_92 ?_
      exact k
    · skip
      have c0 : ¬ a0 = 0 := c0
      have h := h.2 c0
      rw [if_neg c0] at k
      have c1 : ¬ a0 = 1 := c1
      have h := h.2 c1
      rw [if_neg c1] at k
      have c2 : ¬ a0 = 2 := c2
      have h := h.2 c2
      rw [if_neg c2] at k
      have c3 : ¬ a0 = 3 := c3
      have h := h.2 c3
      rw [if_neg c3] at k
      have c4 : ¬ a0 = 4 := c4
      have h := h.2 c4
      rw [if_neg c4] at k
      have c5 : ¬ a0 = 5 := c5
      have h := h.2 c5
      rw [if_neg c5] at k
      have c6 : ¬ a0 = 6 := c6
      have h := h.2 c6
      rw [if_neg c6] at k
      have c7 : a0 = 7 := c7
      have h := h.1 c7
      rw [if_pos c7] at k
      refine z_aload_n (pc' := 94) 0 rfl rfl dX12_most_93 rfl ?_
      refine z_invV (as := []) (st := []) (C := m_X12_drowned) (fs := [0, 3, 0, 0, 0, 0, 4, 5, 6, 7, 8, 9, 10, 0, 0, 11, 12, 13, 14, 15, 16, 0, 0, 0, 17, 18, 19, 20, 0, 0, 0, 21, 22, 0, 0, 23, 0, 1, 24, 0, 0, 25, 26, 0, 27, 0]) (pc' := 97) dX12_most_94 rfl t_7_154 k_X12_drowned rfl (by decide) rfl rfl rfl rfl (Nat.le_of_ble_eq_true rfl) ?_
      have r10 := h
      refine c_M_drowned r10 ?_
      show z_Wp m_X12_most _ 97 [(0, zR 0), (1, zI a0)] [zI (F_M_drowned w)] w _
      refine z_invS (as := [zI (F_M_drowned w)]) (st := []) (C := m_J6_bitCount_0f7a4) (pc' := 100) dX12_most_97 rfl t_7_162 k_J6_bitCount_0f7a4 rfl rfl (Nat.le_of_ble_eq_true rfl) ?_
      refine c_J_bitCount_0f7a4 ?_
      show z_Wp m_X12_most _ 100 [(0, zR 0), (1, zI a0)] [zI (F_J_bitCount_0f7a4 w (F_M_drowned w))] w _
      refine z_iret rfl dX12_most_100 ?_
      exact k
    · skip
      have c0 : ¬ a0 = 0 := c0
      have h := h.2 c0
      rw [if_neg c0] at k
      have c1 : ¬ a0 = 1 := c1
      have h := h.2 c1
      rw [if_neg c1] at k
      have c2 : ¬ a0 = 2 := c2
      have h := h.2 c2
      rw [if_neg c2] at k
      have c3 : ¬ a0 = 3 := c3
      have h := h.2 c3
      rw [if_neg c3] at k
      have c4 : ¬ a0 = 4 := c4
      have h := h.2 c4
      rw [if_neg c4] at k
      have c5 : ¬ a0 = 5 := c5
      have h := h.2 c5
      rw [if_neg c5] at k
      have c6 : ¬ a0 = 6 := c6
      have h := h.2 c6
      rw [if_neg c6] at k
      have c7 : ¬ a0 = 7 := c7
      have h := h.2 c7
      rw [if_neg c7] at k
      refine z_iconst (pc' := 102) dX12_most_101 rfl ?_
      refine z_iret rfl dX12_most_102 ?_
      exact k
  · have h := h.1 c
    rw [if_pos c] at k
    refine z_iconst (pc' := 8) dX12_most_7 rfl ?_
    refine z_iret rfl dX12_most_8 ?_
    exact k
def E_M_quiet_27 (w : z_Wd) (a0 : Int) (i7 : Nat) : Bool := if (((F_M_missedAll w).2) 19 37) + ((i7 : Int) * ((F_M_missedAll w).1)) < a0 then false else true
def R_M_quiet_27 (w : z_Wd) (a0 : Int) (i7 : Nat) : Int × z_Wd := if (((F_M_missedAll w).2) 19 37) + ((i7 : Int) * ((F_M_missedAll w).1)) < a0 then (0, w) else ((i7 : Int), (F_M_missedAll w).2)
def P_M_quiet (w : z_Wd) (a0 : Int) : Prop := (-2147483648 ≤ w 0 29 ∧ w 0 29 < 2147483648) ∧ ((w 0 29 = 0 → True) ∧ (¬ (w 0 29 = 0) → (P_M_in w a0 1 9999) ∧ ((F_M_in w a0 1 9999 = 0 → True) ∧ (¬ (F_M_in w a0 1 9999 = 0) → (P_M_missedAll w) ∧ ((∀ i7 : Nat, i7 < 1000 → zfind (E_M_quiet_27 w a0) i7 = -1 → (-2147483648 ≤ (i7 : Int) ∧ (i7 : Int) < 2147483648) ∧ (-2147483648 ≤ (((F_M_missedAll w).2) 19 37) + ((i7 : Int) * ((F_M_missedAll w).1)) ∧ (((F_M_missedAll w).2) 19 37) + ((i7 : Int) * ((F_M_missedAll w).1)) < 2147483648) ∧ (-2147483648 ≤ a0 ∧ a0 < 2147483648)) ∧ (True))))))
def F_M_quiet (w : z_Wd) (a0 : Int) : Int × z_Wd := if w 0 29 = 0 then ((-1), w) else if F_M_in w a0 1 9999 = 0 then ((-1), w) else if zfind (E_M_quiet_27 w a0) 1000 = -1 then ((-1), (F_M_missedAll w).2) else R_M_quiet_27 w a0 (zfind (E_M_quiet_27 w a0) 1000).toNat
set_option maxRecDepth 4000 in
theorem c_M_quiet {d : Nat} {w : z_Wd} {a0 : Int} {Q : Option z_V → z_Wd → Prop} (h : P_M_quiet w a0) (k : Q (some (zI (F_M_quiet w a0).1)) (F_M_quiet w a0).2) : z_Wc (d + 8) m_X12_quiet [zR 0, zI a0] w Q := by
  unfold P_M_quiet at h
  unfold F_M_quiet at k
  refine z_enter rfl (Nat.le_of_ble_eq_true rfl) ?_
  show z_Wp m_X12_quiet _ 0 [(0, zR 0), (1, zI a0)] [] w _
  refine z_aload_n (pc' := 1) 0 rfl rfl dX12_quiet_0 rfl ?_
  refine z_getI2 (v := w 0 29) (pc' := 4) g_X12_260 (by decide) rfl rfl rfl dX12_quiet_1 rfl ?_
  obtain ⟨r1, h⟩ := h
  refine z_if_eq 18 dX12_quiet_4 (by decide) (pc' := 7) rfl r1 (fun c => ?_) (fun c => ?_)
  · have h := h.1 c
    rw [if_pos c] at k
    refine z_iconst (pc' := 19) dX12_quiet_18 rfl ?_
    refine z_iret rfl dX12_quiet_19 ?_
    exact k
  · have h := h.2 c
    rw [if_neg c] at k
    refine z_iload_n (pc' := 8) 1 rfl rfl dX12_quiet_7 rfl ?_
    refine z_iconst (pc' := 9) dX12_quiet_8 rfl ?_
    refine z_sipush (pc' := 12) (by decide) dX12_quiet_9 rfl ?_
    refine z_invS (as := [zI a0, zI 1, zI 9999]) (st := []) (C := m_X12_in) (pc' := 15) dX12_quiet_12 rfl t_7_17 k_X12_in rfl rfl (Nat.le_of_ble_eq_true rfl) ?_
    obtain ⟨r2, h⟩ := h
    refine c_M_in r2 ?_
    show z_Wp m_X12_quiet _ 15 [(0, zR 0), (1, zI a0)] [zI (F_M_in w a0 1 9999)] w _
    refine z_if_ne 20 dX12_quiet_15 (by decide) (pc' := 18) rfl (z_rb b_M_in) (fun c => ?_) (fun c => ?_)
    · have h := h.2 c
      rw [if_neg c] at k
      refine z_aload_n (pc' := 21) 0 rfl rfl dX12_quiet_20 rfl ?_
      refine z_invV (as := []) (st := []) (C := m_X12_missedAll) (fs := [0, 3, 0, 0, 0, 0, 4, 5, 6, 7, 8, 9, 10, 0, 0, 11, 12, 13, 14, 15, 16, 0, 0, 0, 17, 18, 19, 20, 0, 0, 0, 21, 22, 0, 0, 23, 0, 1, 24, 0, 0, 25, 26, 0, 27, 0]) (pc' := 24) dX12_quiet_21 rfl t_8_47 k_X12_missedAll rfl (by decide) rfl rfl rfl rfl (Nat.le_of_ble_eq_true rfl) ?_
      obtain ⟨r3, h⟩ := h
      refine c_M_missedAll r3 ?_
      show z_Wp m_X12_quiet _ 24 [(0, zR 0), (1, zI a0)] [zI ((F_M_missedAll w).1)] ((F_M_missedAll w).2) _
      refine z_istore_n (pc' := 25) (ls' := [(0, zR 0), (1, zI a0), (2, zI ((F_M_missedAll w).1))]) rfl (by decide) rfl rfl dX12_quiet_24 rfl ?_
      refine z_iconst (pc' := 26) dX12_quiet_25 rfl ?_
      refine z_istore_n (pc' := 27) (ls' := [(0, zR 0), (1, zI a0), (2, zI ((F_M_missedAll w).1)), (3, zI 0)]) rfl (by decide) rfl rfl dX12_quiet_26 rfl ?_
      refine z_upto 1000 (fun i7 => zfind (E_M_quiet_27 w a0) i7 = -1 → z_Wp m_X12_quiet (d + 8) 27 [(0, zR 0), (1, zI a0), (2, zI ((F_M_missedAll w).1)), (3, zI (i7 : Int))] [] ((F_M_missedAll w).2) Q) ?_ ?_ rfl
      · intro hf
        rw [if_pos hf] at k
        have h := h.2
        refine z_iload_n (pc' := 28) 3 rfl rfl dX12_quiet_27 rfl ?_
        refine z_sipush (pc' := 31) (by decide) dX12_quiet_28 rfl ?_
        refine z_icmp_gt 57 dX12_quiet_31 (by decide) (pc' := 34) rfl (by decide) (by decide) (fun _ => ?_) (fun c => absurd c (by decide))
        refine z_iconst (pc' := 58) dX12_quiet_57 rfl ?_
        refine z_iret rfl dX12_quiet_58 ?_
        exact k
      · intro i7 hi ih hf
        have h := h.1 i7 hi hf
        have hE : E_M_quiet_27 w a0 i7 = (if (((F_M_missedAll w).2) 19 37) + ((i7 : Int) * ((F_M_missedAll w).1)) < a0 then false else true) := rfl
        refine z_iload_n (pc' := 28) 3 rfl rfl dX12_quiet_27 rfl ?_
        refine z_sipush (pc' := 31) (by decide) dX12_quiet_28 rfl ?_
        obtain ⟨r8, h⟩ := h
        refine z_icmp_gt 57 dX12_quiet_31 (by decide) (pc' := 34) rfl r8 (by decide) (fun c => absurd c (by omega)) (fun _ => ?_)
        refine z_aload_n (pc' := 35) 0 rfl rfl dX12_quiet_34 rfl ?_
        refine z_getR (t := 19) (pc' := 38) g_X12_64 (by decide) rfl rfl dX12_quiet_35 rfl ?_
        refine z_bipush (pc' := 40) (by decide) dX12_quiet_38 rfl ?_
        refine z_iald2 (v := ((F_M_missedAll w).2) 19 37) (pc' := 41) (by decide) rfl (by decide) (by decide) rfl dX12_quiet_40 rfl ?_
        refine z_iload_n (pc' := 42) 3 rfl rfl dX12_quiet_41 rfl ?_
        refine z_iload_n (pc' := 43) 2 rfl rfl dX12_quiet_42 rfl ?_
        refine z_imul (pc' := 44) dX12_quiet_43 rfl ?_
        refine z_iadd (pc' := 45) dX12_quiet_44 rfl ?_
        refine z_iload_n (pc' := 46) 1 rfl rfl dX12_quiet_45 rfl ?_
        obtain ⟨r9, h⟩ := h
        have r10 := h
        refine z_icmp_lt 51 dX12_quiet_46 (by decide) (pc' := 49) rfl r9 r10 (fun c68 => ?_) (fun c68 => ?_)
        · skip
          rw [if_pos c68] at hE
          refine z_iinc (pc' := 54) (ls' := [(0, zR 0), (1, zI a0), (2, zI ((F_M_missedAll w).1)), (3, zI ((i7 : Int) + 1))]) 3 rfl (by decide) rfl rfl dX12_quiet_51 rfl ?_
          refine z_goto 27 dX12_quiet_54 (by decide) ?_
          exact (ih (zfind_miss hf (by rw [hE]; decide)))
        · skip
          rw [if_neg c68] at hE
          refine z_iload_n (pc' := 50) 3 rfl rfl dX12_quiet_49 rfl ?_
          refine z_iret rfl dX12_quiet_50 ?_
          have hz := zfind_hit hf hE _ hi
          rw [hz, if_neg (by omega), Int.toNat_natCast] at k
          unfold R_M_quiet_27 at k
          rw [if_neg c68] at k
          exact k
    · have h := h.1 c
      rw [if_pos c] at k
      refine z_iconst (pc' := 19) dX12_quiet_18 rfl ?_
      refine z_iret rfl dX12_quiet_19 ?_
      exact k
def P_M_name (w : z_Wd) (a0 : Int) (a1 : Int) : Prop := (P_M_in w a0 0 ((w 0 29) - 1)) ∧ ((F_M_in w a0 0 ((w 0 29) - 1) = 0 → True) ∧ (¬ (F_M_in w a0 0 ((w 0 29) - 1) = 0) → (P_M_in w a1 0 5) ∧ ((F_M_in w a1 0 5 = 0 → True) ∧ (¬ (F_M_in w a1 0 5 = 0) → (-2147483648 ≤ a1 ∧ a1 < 2147483648) ∧ ((a1 = 3 → P_M_wellOf (z_up w 0 0 0) a0) ∧ (¬ a1 = 3 → (a1 = 4 → P_M_aboveOf (z_up w 0 0 0) a0) ∧ (¬ a1 = 4 → (a1 = 5 → P_M_missedOf (z_up w 0 0 0) a0) ∧ (¬ a1 = 5 → 0 ≤ (3 * a0) + a1 ∧ (3 * a0) + a1 < 21))))))))
def F_M_name (w : z_Wd) (a0 : Int) (a1 : Int) : Int × z_Wd := if F_M_in w a0 0 ((w 0 29) - 1) = 0 then (0, z_up w 0 0 1) else if F_M_in w a1 0 5 = 0 then (0, z_up w 0 0 1) else if a1 = 3 then (F_M_wellOf (z_up w 0 0 0) a0, z_up w 0 0 0) else if a1 = 4 then (F_M_aboveOf (z_up w 0 0 0) a0, z_up w 0 0 0) else if a1 = 5 then ((F_M_missedOf (z_up w 0 0 0) a0).1, (F_M_missedOf (z_up w 0 0 0) a0).2) else (w 17 (((3 * a0) + a1).toNat), z_up w 0 0 0)
set_option maxRecDepth 4000 in
theorem c_M_name {d : Nat} {w : z_Wd} {a0 a1 : Int} {Q : Option z_V → z_Wd → Prop} (h : P_M_name w a0 a1) (k : Q (some (zI (F_M_name w a0 a1).1)) (F_M_name w a0 a1).2) : z_Wc (d + 7) m_X12_name [zR 0, zI a0, zI a1] w Q := by
  unfold P_M_name at h
  unfold F_M_name at k
  refine z_enter rfl (Nat.le_of_ble_eq_true rfl) ?_
  show z_Wp m_X12_name _ 0 [(0, zR 0), (1, zI a0), (2, zI a1)] [] w _
  refine z_aload_n (pc' := 1) 0 rfl rfl dX12_name_0 rfl ?_
  refine z_aload_n (pc' := 2) 0 rfl rfl dX12_name_1 rfl ?_
  refine z_iload_n (pc' := 3) 1 rfl rfl dX12_name_2 rfl ?_
  refine z_invV (as := [zI a0]) (st := [zR 0]) (C := m_X12_isName) (fs := [0, 3, 0, 0, 0, 0, 4, 5, 6, 7, 8, 9, 10, 0, 0, 11, 12, 13, 14, 15, 16, 0, 0, 0, 17, 18, 19, 20, 0, 0, 0, 21, 22, 0, 0, 23, 0, 1, 24, 0, 0, 25, 26, 0, 27, 0]) (pc' := 6) dX12_name_3 rfl t_7_110 k_X12_isName rfl (by decide) rfl rfl rfl rfl (Nat.le_of_ble_eq_true rfl) ?_
  obtain ⟨r1, h⟩ := h
  refine c_M_isName r1 ?_
  show z_Wp m_X12_name _ 6 [(0, zR 0), (1, zI a0), (2, zI a1)] [zI (F_M_in w a0 0 ((w 0 29) - 1)), zR 0] w _
  refine z_if_eq 22 dX12_name_6 (by decide) (pc' := 9) rfl (z_rb b_M_in) (fun c => ?_) (fun c => ?_)
  · have h := h.1 c
    rw [if_pos c] at k
    refine z_iconst (pc' := 23) dX12_name_22 rfl ?_
    refine z_putI (pc' := 26) p_X12_92 (by decide) rfl rfl rfl rfl dX12_name_23 rfl ?_
    refine z_aload_n (pc' := 27) 0 rfl rfl dX12_name_26 rfl ?_
    refine z_getI2 (v := 1) (pc' := 30) g_X12_92 (by decide) rfl rfl rfl dX12_name_27 rfl ?_
    refine z_iconst (pc' := 31) dX12_name_30 rfl ?_
    refine z_icmp_ne 36 dX12_name_31 (by decide) (pc' := 34) rfl (by decide) (by decide) (fun c => absurd c (by decide)) (fun _ => ?_)
    refine z_iconst (pc' := 35) dX12_name_34 rfl ?_
    refine z_iret rfl dX12_name_35 ?_
    exact k
  · have h := h.2 c
    rw [if_neg c] at k
    refine z_iload_n (pc' := 10) 2 rfl rfl dX12_name_9 rfl ?_
    refine z_iconst (pc' := 11) dX12_name_10 rfl ?_
    refine z_iconst (pc' := 12) dX12_name_11 rfl ?_
    refine z_invS (as := [zI a1, zI 0, zI 5]) (st := [zR 0]) (C := m_X12_in) (pc' := 15) dX12_name_12 rfl t_7_17 k_X12_in rfl rfl (Nat.le_of_ble_eq_true rfl) ?_
    obtain ⟨r2, h⟩ := h
    refine c_M_in r2 ?_
    show z_Wp m_X12_name _ 15 [(0, zR 0), (1, zI a0), (2, zI a1)] [zI (F_M_in w a1 0 5), zR 0] w _
    refine z_if_eq 22 dX12_name_15 (by decide) (pc' := 18) rfl (z_rb b_M_in) (fun c => ?_) (fun c => ?_)
    · have h := h.1 c
      rw [if_pos c] at k
      refine z_iconst (pc' := 23) dX12_name_22 rfl ?_
      refine z_putI (pc' := 26) p_X12_92 (by decide) rfl rfl rfl rfl dX12_name_23 rfl ?_
      refine z_aload_n (pc' := 27) 0 rfl rfl dX12_name_26 rfl ?_
      refine z_getI2 (v := 1) (pc' := 30) g_X12_92 (by decide) rfl rfl rfl dX12_name_27 rfl ?_
      refine z_iconst (pc' := 31) dX12_name_30 rfl ?_
      refine z_icmp_ne 36 dX12_name_31 (by decide) (pc' := 34) rfl (by decide) (by decide) (fun c => absurd c (by decide)) (fun _ => ?_)
      refine z_iconst (pc' := 35) dX12_name_34 rfl ?_
      refine z_iret rfl dX12_name_35 ?_
      exact k
    · have h := h.2 c
      rw [if_neg c] at k
      refine z_iconst (pc' := 19) dX12_name_18 rfl ?_
      refine z_goto 23 dX12_name_19 (by decide) ?_
      refine z_putI (pc' := 26) p_X12_92 (by decide) rfl rfl rfl rfl dX12_name_23 rfl ?_
      refine z_aload_n (pc' := 27) 0 rfl rfl dX12_name_26 rfl ?_
      refine z_getI2 (v := 0) (pc' := 30) g_X12_92 (by decide) rfl rfl rfl dX12_name_27 rfl ?_
      refine z_iconst (pc' := 31) dX12_name_30 rfl ?_
      refine z_icmp_ne 36 dX12_name_31 (by decide) (pc' := 34) rfl (by decide) (by decide) (fun _ => ?_) (fun c => absurd c (by decide))
      refine z_iload_n (pc' := 37) 2 rfl rfl dX12_name_36 rfl ?_
      obtain ⟨r3, h⟩ := h
      refine z_table dX12_name_37 (by decide) r3 ⟨fun c0 => ⟨64, by decide, ?_⟩, fun c0 => ⟨fun c1 => ⟨70, by decide, ?_⟩, fun c1 => ⟨fun c2 => ⟨76, by decide, ?_⟩, fun c2 => ⟨82, by decide, ?_⟩⟩⟩⟩
      · skip
        have c0 : a1 = 3 := c0
        have h := h.1 c0
        rw [if_pos c0] at k
        refine z_aload_n (pc' := 65) 0 rfl rfl dX12_name_64 rfl ?_
        refine z_iload_n (pc' := 66) 1 rfl rfl dX12_name_65 rfl ?_
        refine z_invV (as := [zI a0]) (st := []) (C := m_X12_wellOf) (fs := [0, 3, 0, 0, 0, 0, 4, 5, 6, 7, 8, 9, 10, 0, 0, 11, 12, 13, 14, 15, 16, 0, 0, 0, 17, 18, 19, 20, 0, 0, 0, 21, 22, 0, 0, 23, 0, 1, 24, 0, 0, 25, 26, 0, 27, 0]) (pc' := 69) dX12_name_66 rfl t_7_114 k_X12_wellOf rfl (by decide) rfl rfl rfl rfl (Nat.le_of_ble_eq_true rfl) ?_
        have r4 := h
        refine c_M_wellOf r4 ?_
        show z_Wp m_X12_name _ 69 [(0, zR 0), (1, zI a0), (2, zI a1)] [zI (F_M_wellOf (z_up w 0 0 0) a0)] (z_up w 0 0 0) _
        refine z_iret rfl dX12_name_69 ?_
        exact k
      · skip
        have c0 : ¬ a1 = 3 := c0
        have h := h.2 c0
        rw [if_neg c0] at k
        have c1 : a1 = 4 := c1
        have h := h.1 c1
        rw [if_pos c1] at k
        refine z_aload_n (pc' := 71) 0 rfl rfl dX12_name_70 rfl ?_
        refine z_iload_n (pc' := 72) 1 rfl rfl dX12_name_71 rfl ?_
        refine z_invV (as := [zI a0]) (st := []) (C := m_X12_aboveOf) (fs := [0, 3, 0, 0, 0, 0, 4, 5, 6, 7, 8, 9, 10, 0, 0, 11, 12, 13, 14, 15, 16, 0, 0, 0, 17, 18, 19, 20, 0, 0, 0, 21, 22, 0, 0, 23, 0, 1, 24, 0, 0, 25, 26, 0, 27, 0]) (pc' := 75) dX12_name_72 rfl t_7_126 k_X12_aboveOf rfl (by decide) rfl rfl rfl rfl (Nat.le_of_ble_eq_true rfl) ?_
        have r5 := h
        refine c_M_aboveOf r5 ?_
        show z_Wp m_X12_name _ 75 [(0, zR 0), (1, zI a0), (2, zI a1)] [zI (F_M_aboveOf (z_up w 0 0 0) a0)] (z_up w 0 0 0) _
        refine z_iret rfl dX12_name_75 ?_
        exact k
      · skip
        have c0 : ¬ a1 = 3 := c0
        have h := h.2 c0
        rw [if_neg c0] at k
        have c1 : ¬ a1 = 4 := c1
        have h := h.2 c1
        rw [if_neg c1] at k
        have c2 : a1 = 5 := c2
        have h := h.1 c2
        rw [if_pos c2] at k
        refine z_aload_n (pc' := 77) 0 rfl rfl dX12_name_76 rfl ?_
        refine z_iload_n (pc' := 78) 1 rfl rfl dX12_name_77 rfl ?_
        refine z_invV (as := [zI a0]) (st := []) (C := m_X12_missedOf) (fs := [0, 3, 0, 0, 0, 0, 4, 5, 6, 7, 8, 9, 10, 0, 0, 11, 12, 13, 14, 15, 16, 0, 0, 0, 17, 18, 19, 20, 0, 0, 0, 21, 22, 0, 0, 23, 0, 1, 24, 0, 0, 25, 26, 0, 27, 0]) (pc' := 81) dX12_name_78 rfl t_7_142 k_X12_missedOf rfl (by decide) rfl rfl rfl rfl (Nat.le_of_ble_eq_true rfl) ?_
        have r6 := h
        refine c_M_missedOf r6 ?_
        show z_Wp m_X12_name _ 81 [(0, zR 0), (1, zI a0), (2, zI a1)] [zI ((F_M_missedOf (z_up w 0 0 0) a0).1)] ((F_M_missedOf (z_up w 0 0 0) a0).2) _
        refine z_iret rfl dX12_name_81 ?_
        exact k
      · skip
        have c0 : ¬ a1 = 3 := c0
        have h := h.2 c0
        rw [if_neg c0] at k
        have c1 : ¬ a1 = 4 := c1
        have h := h.2 c1
        rw [if_neg c1] at k
        have c2 : ¬ a1 = 5 := c2
        have h := h.2 c2
        rw [if_neg c2] at k
        refine z_aload_n (pc' := 83) 0 rfl rfl dX12_name_82 rfl ?_
        refine z_iload_n (pc' := 84) 1 rfl rfl dX12_name_83 rfl ?_
        refine z_iload_n (pc' := 85) 2 rfl rfl dX12_name_84 rfl ?_
        refine z_invV (as := [zI a0, zI a1]) (st := []) (C := m_X12_of) (fs := [0, 3, 0, 0, 0, 0, 4, 5, 6, 7, 8, 9, 10, 0, 0, 11, 12, 13, 14, 15, 16, 0, 0, 0, 17, 18, 19, 20, 0, 0, 0, 21, 22, 0, 0, 23, 0, 1, 24, 0, 0, 25, 26, 0, 27, 0]) (pc' := 88) dX12_name_85 rfl t_7_138 k_X12_of rfl (by decide) rfl rfl rfl rfl (Nat.le_of_ble_eq_true rfl) ?_
        have r7 := h
        refine c_M_of r7 ?_
        show z_Wp m_X12_name _ 88 [(0, zR 0), (1, zI a0), (2, zI a1)] [zI (w 17 (((3 * a0) + a1).toNat))] (z_up w 0 0 0) _
        refine z_iret rfl dX12_name_88 ?_
        exact k
set_option maxRecDepth 4000 in
theorem v_M_passYear {d : Nat} {w : z_Wd} {Q : Option z_V → z_Wd → Prop} (h : (P_M_missedAll w) ∧ (P_M_drowned ((F_M_missedAll w).2)) ∧ (P_J_min_7cf53 ((F_M_missedAll w).2) 9999 ((((F_M_missedAll w).2) 19 37) + ((F_M_missedAll w).1))) ∧ (P_J_min_7cf53 (z_up ((F_M_missedAll w).2) 19 37 (F_J_min_7cf53 ((F_M_missedAll w).2) 9999 ((((F_M_missedAll w).2) 19 37) + ((F_M_missedAll w).1)))) 999 (((((F_M_missedAll w).2) 19 36) + (((F_M_missedAll w).2) 0 29)) - (F_J_bitCount_0f7a4 (z_up ((F_M_missedAll w).2) 19 37 (F_J_min_7cf53 ((F_M_missedAll w).2) 9999 ((((F_M_missedAll w).2) 19 37) + ((F_M_missedAll w).1)))) (F_M_drowned ((F_M_missedAll w).2))))) ∧ (z_Wp m_X12_passYear (d + 8) 62 [(0, zR 0), (1, zI ((F_M_missedAll w).1)), (2, zI (F_M_drowned ((F_M_missedAll w).2)))] [] (z_up (z_up ((F_M_missedAll w).2) 19 37 (F_J_min_7cf53 ((F_M_missedAll w).2) 9999 ((((F_M_missedAll w).2) 19 37) + ((F_M_missedAll w).1)))) 19 36 (F_J_min_7cf53 (z_up ((F_M_missedAll w).2) 19 37 (F_J_min_7cf53 ((F_M_missedAll w).2) 9999 ((((F_M_missedAll w).2) 19 37) + ((F_M_missedAll w).1)))) 999 (((((F_M_missedAll w).2) 19 36) + (((F_M_missedAll w).2) 0 29)) - (F_J_bitCount_0f7a4 (z_up ((F_M_missedAll w).2) 19 37 (F_J_min_7cf53 ((F_M_missedAll w).2) 9999 ((((F_M_missedAll w).2) 19 37) + ((F_M_missedAll w).1)))) (F_M_drowned ((F_M_missedAll w).2)))))) Q)) : z_Wc (d + 8) m_X12_passYear [zR 0] w Q := by
  refine z_enter rfl (Nat.le_of_ble_eq_true rfl) ?_
  show z_Wp m_X12_passYear _ 0 [(0, zR 0)] [] w _
  refine z_aload_n (pc' := 1) 0 rfl rfl dX12_passYear_0 rfl ?_
  refine z_invV (as := []) (st := []) (C := m_X12_missedAll) (fs := [0, 3, 0, 0, 0, 0, 4, 5, 6, 7, 8, 9, 10, 0, 0, 11, 12, 13, 14, 15, 16, 0, 0, 0, 17, 18, 19, 20, 0, 0, 0, 21, 22, 0, 0, 23, 0, 1, 24, 0, 0, 25, 26, 0, 27, 0]) (pc' := 4) dX12_passYear_1 rfl t_8_47 k_X12_missedAll rfl (by decide) rfl rfl rfl rfl (Nat.le_of_ble_eq_true rfl) ?_
  obtain ⟨r1, h⟩ := h
  refine c_M_missedAll r1 ?_
  show z_Wp m_X12_passYear _ 4 [(0, zR 0)] [zI ((F_M_missedAll w).1)] ((F_M_missedAll w).2) _
  refine z_istore_n (pc' := 5) (ls' := [(0, zR 0), (1, zI ((F_M_missedAll w).1))]) rfl (by decide) rfl rfl dX12_passYear_4 rfl ?_
  refine z_aload_n (pc' := 6) 0 rfl rfl dX12_passYear_5 rfl ?_
  refine z_invV (as := []) (st := []) (C := m_X12_drowned) (fs := [0, 3, 0, 0, 0, 0, 4, 5, 6, 7, 8, 9, 10, 0, 0, 11, 12, 13, 14, 15, 16, 0, 0, 0, 17, 18, 19, 20, 0, 0, 0, 21, 22, 0, 0, 23, 0, 1, 24, 0, 0, 25, 26, 0, 27, 0]) (pc' := 9) dX12_passYear_6 rfl t_7_154 k_X12_drowned rfl (by decide) rfl rfl rfl rfl (Nat.le_of_ble_eq_true rfl) ?_
  obtain ⟨r2, h⟩ := h
  refine c_M_drowned r2 ?_
  show z_Wp m_X12_passYear _ 9 [(0, zR 0), (1, zI ((F_M_missedAll w).1))] [zI (F_M_drowned ((F_M_missedAll w).2))] ((F_M_missedAll w).2) _
  refine z_istore_n (pc' := 10) (ls' := [(0, zR 0), (1, zI ((F_M_missedAll w).1)), (2, zI (F_M_drowned ((F_M_missedAll w).2)))]) rfl (by decide) rfl rfl dX12_passYear_9 rfl ?_
  refine z_aload_n (pc' := 11) 0 rfl rfl dX12_passYear_10 rfl ?_
  refine z_getR (t := 19) (pc' := 14) g_X12_64 (by decide) rfl rfl dX12_passYear_11 rfl ?_
  refine z_bipush (pc' := 16) (by decide) dX12_passYear_14 rfl ?_
  refine z_sipush (pc' := 19) (by decide) dX12_passYear_16 rfl ?_
  refine z_aload_n (pc' := 20) 0 rfl rfl dX12_passYear_19 rfl ?_
  refine z_getR (t := 19) (pc' := 23) g_X12_64 (by decide) rfl rfl dX12_passYear_20 rfl ?_
  refine z_bipush (pc' := 25) (by decide) dX12_passYear_23 rfl ?_
  refine z_iald2 (v := ((F_M_missedAll w).2) 19 37) (pc' := 26) (by decide) rfl (by decide) (by decide) rfl dX12_passYear_25 rfl ?_
  refine z_iload_n (pc' := 27) 1 rfl rfl dX12_passYear_26 rfl ?_
  refine z_iadd (pc' := 28) dX12_passYear_27 rfl ?_
  refine z_invS (as := [zI 9999, zI ((((F_M_missedAll w).2) 19 37) + ((F_M_missedAll w).1))]) (st := [zI 37, zR 19]) (C := m_J9_min_7cf53) (pc' := 31) dX12_passYear_28 rfl t_7_185 k_J9_min_7cf53 rfl rfl (Nat.le_of_ble_eq_true rfl) ?_
  obtain ⟨r3, h⟩ := h
  refine c_J_min_7cf53 r3 ?_
  show z_Wp m_X12_passYear _ 31 [(0, zR 0), (1, zI ((F_M_missedAll w).1)), (2, zI (F_M_drowned ((F_M_missedAll w).2)))] [zI (F_J_min_7cf53 ((F_M_missedAll w).2) 9999 ((((F_M_missedAll w).2) 19 37) + ((F_M_missedAll w).1))), zI 37, zR 19] ((F_M_missedAll w).2) _
  refine z_iast2 (w' := z_up ((F_M_missedAll w).2) 19 37 (F_J_min_7cf53 ((F_M_missedAll w).2) 9999 ((((F_M_missedAll w).2) 19 37) + ((F_M_missedAll w).1)))) (pc' := 32) (by decide) rfl (by decide) (by decide) rfl dX12_passYear_31 rfl ?_
  refine z_aload_n (pc' := 33) 0 rfl rfl dX12_passYear_32 rfl ?_
  refine z_getR (t := 19) (pc' := 36) g_X12_64 (by decide) rfl rfl dX12_passYear_33 rfl ?_
  refine z_bipush (pc' := 38) (by decide) dX12_passYear_36 rfl ?_
  refine z_sipush (pc' := 41) (by decide) dX12_passYear_38 rfl ?_
  refine z_aload_n (pc' := 42) 0 rfl rfl dX12_passYear_41 rfl ?_
  refine z_getR (t := 19) (pc' := 45) g_X12_64 (by decide) rfl rfl dX12_passYear_42 rfl ?_
  refine z_bipush (pc' := 47) (by decide) dX12_passYear_45 rfl ?_
  refine z_iald2 (v := ((F_M_missedAll w).2) 19 36) (pc' := 48) (by decide) rfl (by decide) (by decide) rfl dX12_passYear_47 rfl ?_
  refine z_aload_n (pc' := 49) 0 rfl rfl dX12_passYear_48 rfl ?_
  refine z_getI2 (v := ((F_M_missedAll w).2) 0 29) (pc' := 52) g_X12_260 (by decide) rfl rfl rfl dX12_passYear_49 rfl ?_
  refine z_iadd (pc' := 53) dX12_passYear_52 rfl ?_
  refine z_iload_n (pc' := 54) 2 rfl rfl dX12_passYear_53 rfl ?_
  refine z_invS (as := [zI (F_M_drowned ((F_M_missedAll w).2))]) (st := [zI ((((F_M_missedAll w).2) 19 36) + (((F_M_missedAll w).2) 0 29)), zI 999, zI 36, zR 19]) (C := m_J6_bitCount_0f7a4) (pc' := 57) dX12_passYear_54 rfl t_7_162 k_J6_bitCount_0f7a4 rfl rfl (Nat.le_of_ble_eq_true rfl) ?_
  refine c_J_bitCount_0f7a4 ?_
  show z_Wp m_X12_passYear _ 57 [(0, zR 0), (1, zI ((F_M_missedAll w).1)), (2, zI (F_M_drowned ((F_M_missedAll w).2)))] [zI (F_J_bitCount_0f7a4 (z_up ((F_M_missedAll w).2) 19 37 (F_J_min_7cf53 ((F_M_missedAll w).2) 9999 ((((F_M_missedAll w).2) 19 37) + ((F_M_missedAll w).1)))) (F_M_drowned ((F_M_missedAll w).2))), zI ((((F_M_missedAll w).2) 19 36) + (((F_M_missedAll w).2) 0 29)), zI 999, zI 36, zR 19] (z_up ((F_M_missedAll w).2) 19 37 (F_J_min_7cf53 ((F_M_missedAll w).2) 9999 ((((F_M_missedAll w).2) 19 37) + ((F_M_missedAll w).1)))) _
  refine z_isub (pc' := 58) dX12_passYear_57 rfl ?_
  refine z_invS (as := [zI 999, zI (((((F_M_missedAll w).2) 19 36) + (((F_M_missedAll w).2) 0 29)) - (F_J_bitCount_0f7a4 (z_up ((F_M_missedAll w).2) 19 37 (F_J_min_7cf53 ((F_M_missedAll w).2) 9999 ((((F_M_missedAll w).2) 19 37) + ((F_M_missedAll w).1)))) (F_M_drowned ((F_M_missedAll w).2))))]) (st := [zI 36, zR 19]) (C := m_J9_min_7cf53) (pc' := 61) dX12_passYear_58 rfl t_7_185 k_J9_min_7cf53 rfl rfl (Nat.le_of_ble_eq_true rfl) ?_
  obtain ⟨r4, h⟩ := h
  refine c_J_min_7cf53 r4 ?_
  show z_Wp m_X12_passYear _ 61 [(0, zR 0), (1, zI ((F_M_missedAll w).1)), (2, zI (F_M_drowned ((F_M_missedAll w).2)))] [zI (F_J_min_7cf53 (z_up ((F_M_missedAll w).2) 19 37 (F_J_min_7cf53 ((F_M_missedAll w).2) 9999 ((((F_M_missedAll w).2) 19 37) + ((F_M_missedAll w).1)))) 999 (((((F_M_missedAll w).2) 19 36) + (((F_M_missedAll w).2) 0 29)) - (F_J_bitCount_0f7a4 (z_up ((F_M_missedAll w).2) 19 37 (F_J_min_7cf53 ((F_M_missedAll w).2) 9999 ((((F_M_missedAll w).2) 19 37) + ((F_M_missedAll w).1)))) (F_M_drowned ((F_M_missedAll w).2))))), zI 36, zR 19] (z_up ((F_M_missedAll w).2) 19 37 (F_J_min_7cf53 ((F_M_missedAll w).2) 9999 ((((F_M_missedAll w).2) 19 37) + ((F_M_missedAll w).1)))) _
  refine z_iast2 (w' := z_up (z_up ((F_M_missedAll w).2) 19 37 (F_J_min_7cf53 ((F_M_missedAll w).2) 9999 ((((F_M_missedAll w).2) 19 37) + ((F_M_missedAll w).1)))) 19 36 (F_J_min_7cf53 (z_up ((F_M_missedAll w).2) 19 37 (F_J_min_7cf53 ((F_M_missedAll w).2) 9999 ((((F_M_missedAll w).2) 19 37) + ((F_M_missedAll w).1)))) 999 (((((F_M_missedAll w).2) 19 36) + (((F_M_missedAll w).2) 0 29)) - (F_J_bitCount_0f7a4 (z_up ((F_M_missedAll w).2) 19 37 (F_J_min_7cf53 ((F_M_missedAll w).2) 9999 ((((F_M_missedAll w).2) 19 37) + ((F_M_missedAll w).1)))) (F_M_drowned ((F_M_missedAll w).2)))))) (pc' := 62) (by decide) rfl (by decide) (by decide) rfl dX12_passYear_61 rfl ?_
  exact h
set_option maxRecDepth 4000 in
theorem v_M_passYear_62 {d : Nat} {w : z_Wd} {l1 l2 : Int} {Q : Option z_V → z_Wd → Prop} (h : (-2147483648 ≤ w 19 39 ∧ w 19 39 < 2147483648) ∧ ((w 19 39 = 60 → z_Wp m_X12_passYear (d + 8) 76 [(0, zR 0), (1, zI l1), (2, zI l2), (3, zI 2)] [] w Q) ∧ (¬ (w 19 39 = 60) → z_Wp m_X12_passYear (d + 8) 119 [(0, zR 0), (1, zI l1), (2, zI l2)] [] w Q))) : z_Wp m_X12_passYear (d + 8) 62 [(0, zR 0), (1, zI l1), (2, zI l2)] [] w Q := by
  refine z_aload_n (pc' := 63) 0 rfl rfl dX12_passYear_62 rfl ?_
  refine z_getR (t := 19) (pc' := 66) g_X12_64 (by decide) rfl rfl dX12_passYear_63 rfl ?_
  refine z_bipush (pc' := 68) (by decide) dX12_passYear_66 rfl ?_
  refine z_iald2 (v := w 19 39) (pc' := 69) (by decide) rfl (by decide) (by decide) rfl dX12_passYear_68 rfl ?_
  refine z_bipush (pc' := 71) (by decide) dX12_passYear_69 rfl ?_
  obtain ⟨r1, h⟩ := h
  refine z_icmp_ne 119 dX12_passYear_71 (by decide) (pc' := 74) rfl r1 (by decide) (fun c => ?_) (fun c => ?_)
  · have h := h.2 c
    exact h
  · have h := h.1 c
    refine z_iconst (pc' := 75) dX12_passYear_74 rfl ?_
    refine z_istore_n (pc' := 76) (ls' := [(0, zR 0), (1, zI l1), (2, zI l2), (3, zI 2)]) rfl (by decide) rfl rfl dX12_passYear_75 rfl ?_
    exact h
set_option maxRecDepth 4000 in
theorem v_M_passYear_76 {d : Nat} {w : z_Wd} {l1 l2 l3 : Int} {Q : Option z_V → z_Wd → Prop} (h : (-2147483648 ≤ l3 ∧ l3 < 2147483648) ∧ ((l3 ≥ 120 → z_Wp m_X12_passYear (d + 8) 119 [(0, zR 0), (1, zI l1), (2, zI l2)] [] (z_up w 19 39 ((w 19 39) - 1)) Q) ∧ (¬ (l3 ≥ 120) → (0 ≤ 40 + l3 ∧ 40 + l3 < 160) ∧ (0 ≤ (40 + l3) - 2 ∧ (40 + l3) - 2 < 160) ∧ (z_Wp m_X12_passYear (d + 8) 76 [(0, zR 0), (1, zI l1), (2, zI l2), (3, zI (l3 + 1))] [] (z_up w 19 (((40 + l3) - 2).toNat) (w 19 ((40 + l3).toNat))) Q)))) : z_Wp m_X12_passYear (d + 8) 76 [(0, zR 0), (1, zI l1), (2, zI l2), (3, zI l3)] [] w Q := by
  refine z_iload_n (pc' := 77) 3 rfl rfl dX12_passYear_76 rfl ?_
  refine z_bipush (pc' := 79) (by decide) dX12_passYear_77 rfl ?_
  obtain ⟨r1, h⟩ := h
  refine z_icmp_ge 108 dX12_passYear_79 (by decide) (pc' := 82) rfl r1 (by decide) (fun c => ?_) (fun c => ?_)
  · have h := h.1 c
    refine z_aload_n (pc' := 109) 0 rfl rfl dX12_passYear_108 rfl ?_
    refine z_getR (t := 19) (pc' := 112) g_X12_64 (by decide) rfl rfl dX12_passYear_109 rfl ?_
    refine z_bipush (pc' := 114) (by decide) dX12_passYear_112 rfl ?_
    refine z_dup2 (pc' := 115) rfl rfl dX12_passYear_114 rfl ?_
    refine z_iald2 (v := w 19 39) (pc' := 116) (by decide) rfl (by decide) (by decide) rfl dX12_passYear_115 rfl ?_
    refine z_iconst (pc' := 117) dX12_passYear_116 rfl ?_
    refine z_isub (pc' := 118) dX12_passYear_117 rfl ?_
    refine z_iast2 (w' := z_up w 19 39 ((w 19 39) - 1)) (pc' := 119) (by decide) rfl (by decide) (by decide) rfl dX12_passYear_118 rfl ?_
    exact z_Wp.sub h (z_sub_of [0, 1, 2] rfl)
  · have h := h.2 c
    refine z_aload_n (pc' := 83) 0 rfl rfl dX12_passYear_82 rfl ?_
    refine z_getR (t := 19) (pc' := 86) g_X12_64 (by decide) rfl rfl dX12_passYear_83 rfl ?_
    refine z_bipush (pc' := 88) (by decide) dX12_passYear_86 rfl ?_
    refine z_iload_n (pc' := 89) 3 rfl rfl dX12_passYear_88 rfl ?_
    refine z_iadd (pc' := 90) dX12_passYear_89 rfl ?_
    refine z_iconst (pc' := 91) dX12_passYear_90 rfl ?_
    refine z_isub (pc' := 92) dX12_passYear_91 rfl ?_
    refine z_aload_n (pc' := 93) 0 rfl rfl dX12_passYear_92 rfl ?_
    refine z_getR (t := 19) (pc' := 96) g_X12_64 (by decide) rfl rfl dX12_passYear_93 rfl ?_
    refine z_bipush (pc' := 98) (by decide) dX12_passYear_96 rfl ?_
    refine z_iload_n (pc' := 99) 3 rfl rfl dX12_passYear_98 rfl ?_
    refine z_iadd (pc' := 100) dX12_passYear_99 rfl ?_
    obtain ⟨r2, h⟩ := h
    refine z_iald2 (v := w 19 ((40 + l3).toNat)) (pc' := 101) (by decide) rfl r2 (by decide) rfl dX12_passYear_100 rfl ?_
    obtain ⟨r3, h⟩ := h
    refine z_iast2 (w' := z_up w 19 (((40 + l3) - 2).toNat) (w 19 ((40 + l3).toNat))) (pc' := 102) (by decide) rfl r3 (by decide) rfl dX12_passYear_101 rfl ?_
    refine z_iinc (pc' := 105) (ls' := [(0, zR 0), (1, zI l1), (2, zI l2), (3, zI (l3 + 1))]) 3 rfl (by decide) rfl rfl dX12_passYear_102 rfl ?_
    refine z_goto 76 dX12_passYear_105 (by decide) ?_
    exact h
set_option maxRecDepth 4000 in
theorem v_M_passYear_119 {d : Nat} {w : z_Wd} {l1 l2 : Int} {Q : Option z_V → z_Wd → Prop} (h : (0 ≤ 40 + (2 * (w 19 39)) ∧ 40 + (2 * (w 19 39)) < 160) ∧ (0 ≤ (40 + (2 * ((z_up w 19 ((40 + (2 * (w 19 39))).toNat) l2) 19 39))) + 1 ∧ (40 + (2 * ((z_up w 19 ((40 + (2 * (w 19 39))).toNat) l2) 19 39))) + 1 < 160) ∧ (Q (none) (z_up (z_up (z_up (z_up w 19 ((40 + (2 * (w 19 39))).toNat) l2) 19 (((40 + (2 * ((z_up w 19 ((40 + (2 * (w 19 39))).toNat) l2) 19 39))) + 1).toNat) l1) 19 39 (((z_up (z_up w 19 ((40 + (2 * (w 19 39))).toNat) l2) 19 (((40 + (2 * ((z_up w 19 ((40 + (2 * (w 19 39))).toNat) l2) 19 39))) + 1).toNat) l1) 19 39) + 1)) 19 38 (((z_up (z_up w 19 ((40 + (2 * (w 19 39))).toNat) l2) 19 (((40 + (2 * ((z_up w 19 ((40 + (2 * (w 19 39))).toNat) l2) 19 39))) + 1).toNat) l1) 19 38) + 1)))) : z_Wp m_X12_passYear (d + 8) 119 [(0, zR 0), (1, zI l1), (2, zI l2)] [] w Q := by
  refine z_aload_n (pc' := 120) 0 rfl rfl dX12_passYear_119 rfl ?_
  refine z_getR (t := 19) (pc' := 123) g_X12_64 (by decide) rfl rfl dX12_passYear_120 rfl ?_
  refine z_bipush (pc' := 125) (by decide) dX12_passYear_123 rfl ?_
  refine z_iconst (pc' := 126) dX12_passYear_125 rfl ?_
  refine z_aload_n (pc' := 127) 0 rfl rfl dX12_passYear_126 rfl ?_
  refine z_getR (t := 19) (pc' := 130) g_X12_64 (by decide) rfl rfl dX12_passYear_127 rfl ?_
  refine z_bipush (pc' := 132) (by decide) dX12_passYear_130 rfl ?_
  refine z_iald2 (v := w 19 39) (pc' := 133) (by decide) rfl (by decide) (by decide) rfl dX12_passYear_132 rfl ?_
  refine z_imul (pc' := 134) dX12_passYear_133 rfl ?_
  refine z_iadd (pc' := 135) dX12_passYear_134 rfl ?_
  refine z_iload_n (pc' := 136) 2 rfl rfl dX12_passYear_135 rfl ?_
  obtain ⟨r1, h⟩ := h
  refine z_iast2 (w' := z_up w 19 ((40 + (2 * (w 19 39))).toNat) l2) (pc' := 137) (by decide) rfl r1 (by decide) rfl dX12_passYear_136 rfl ?_
  refine z_aload_n (pc' := 138) 0 rfl rfl dX12_passYear_137 rfl ?_
  refine z_getR (t := 19) (pc' := 141) g_X12_64 (by decide) rfl rfl dX12_passYear_138 rfl ?_
  refine z_bipush (pc' := 143) (by decide) dX12_passYear_141 rfl ?_
  refine z_iconst (pc' := 144) dX12_passYear_143 rfl ?_
  refine z_aload_n (pc' := 145) 0 rfl rfl dX12_passYear_144 rfl ?_
  refine z_getR (t := 19) (pc' := 148) g_X12_64 (by decide) rfl rfl dX12_passYear_145 rfl ?_
  refine z_bipush (pc' := 150) (by decide) dX12_passYear_148 rfl ?_
  refine z_iald2 (v := (z_up w 19 ((40 + (2 * (w 19 39))).toNat) l2) 19 39) (pc' := 151) (by decide) rfl (by decide) (by decide) rfl dX12_passYear_150 rfl ?_
  refine z_imul (pc' := 152) dX12_passYear_151 rfl ?_
  refine z_iadd (pc' := 153) dX12_passYear_152 rfl ?_
  refine z_iconst (pc' := 154) dX12_passYear_153 rfl ?_
  refine z_iadd (pc' := 155) dX12_passYear_154 rfl ?_
  refine z_iload_n (pc' := 156) 1 rfl rfl dX12_passYear_155 rfl ?_
  obtain ⟨r2, h⟩ := h
  refine z_iast2 (w' := z_up (z_up w 19 ((40 + (2 * (w 19 39))).toNat) l2) 19 (((40 + (2 * ((z_up w 19 ((40 + (2 * (w 19 39))).toNat) l2) 19 39))) + 1).toNat) l1) (pc' := 157) (by decide) rfl r2 (by decide) rfl dX12_passYear_156 rfl ?_
  refine z_aload_n (pc' := 158) 0 rfl rfl dX12_passYear_157 rfl ?_
  refine z_getR (t := 19) (pc' := 161) g_X12_64 (by decide) rfl rfl dX12_passYear_158 rfl ?_
  refine z_bipush (pc' := 163) (by decide) dX12_passYear_161 rfl ?_
  refine z_dup2 (pc' := 164) rfl rfl dX12_passYear_163 rfl ?_
  refine z_iald2 (v := (z_up (z_up w 19 ((40 + (2 * (w 19 39))).toNat) l2) 19 (((40 + (2 * ((z_up w 19 ((40 + (2 * (w 19 39))).toNat) l2) 19 39))) + 1).toNat) l1) 19 39) (pc' := 165) (by decide) rfl (by decide) (by decide) rfl dX12_passYear_164 rfl ?_
  refine z_iconst (pc' := 166) dX12_passYear_165 rfl ?_
  refine z_iadd (pc' := 167) dX12_passYear_166 rfl ?_
  refine z_iast2 (w' := z_up (z_up (z_up w 19 ((40 + (2 * (w 19 39))).toNat) l2) 19 (((40 + (2 * ((z_up w 19 ((40 + (2 * (w 19 39))).toNat) l2) 19 39))) + 1).toNat) l1) 19 39 (((z_up (z_up w 19 ((40 + (2 * (w 19 39))).toNat) l2) 19 (((40 + (2 * ((z_up w 19 ((40 + (2 * (w 19 39))).toNat) l2) 19 39))) + 1).toNat) l1) 19 39) + 1)) (pc' := 168) (by decide) rfl (by decide) (by decide) rfl dX12_passYear_167 rfl ?_
  refine z_aload_n (pc' := 169) 0 rfl rfl dX12_passYear_168 rfl ?_
  refine z_getR (t := 19) (pc' := 172) g_X12_64 (by decide) rfl rfl dX12_passYear_169 rfl ?_
  refine z_bipush (pc' := 174) (by decide) dX12_passYear_172 rfl ?_
  refine z_dup2 (pc' := 175) rfl rfl dX12_passYear_174 rfl ?_
  refine z_iald2 (v := (z_up (z_up w 19 ((40 + (2 * (w 19 39))).toNat) l2) 19 (((40 + (2 * ((z_up w 19 ((40 + (2 * (w 19 39))).toNat) l2) 19 39))) + 1).toNat) l1) 19 38) (pc' := 176) (by decide) rfl (by decide) (by decide) rfl dX12_passYear_175 rfl ?_
  refine z_iconst (pc' := 177) dX12_passYear_176 rfl ?_
  refine z_iadd (pc' := 178) dX12_passYear_177 rfl ?_
  refine z_iast2 (w' := z_up (z_up (z_up (z_up w 19 ((40 + (2 * (w 19 39))).toNat) l2) 19 (((40 + (2 * ((z_up w 19 ((40 + (2 * (w 19 39))).toNat) l2) 19 39))) + 1).toNat) l1) 19 39 (((z_up (z_up w 19 ((40 + (2 * (w 19 39))).toNat) l2) 19 (((40 + (2 * ((z_up w 19 ((40 + (2 * (w 19 39))).toNat) l2) 19 39))) + 1).toNat) l1) 19 39) + 1)) 19 38 (((z_up (z_up w 19 ((40 + (2 * (w 19 39))).toNat) l2) 19 (((40 + (2 * ((z_up w 19 ((40 + (2 * (w 19 39))).toNat) l2) 19 39))) + 1).toNat) l1) 19 38) + 1)) (pc' := 179) (by decide) rfl (by decide) (by decide) rfl dX12_passYear_178 rfl ?_
  refine z_vret rfl dX12_passYear_179 ?_
  exact h
