theorem z_c0 (i : Nat) : (i : Int) + 1 = ((i + 1 : Nat) : Int) := rfl
theorem z_exitgt {B : Int} : ¬ ¬ ((((B + 1).toNat : Nat) : Int) > B) := by omega
theorem z_exitge {B : Int} : ¬ ¬ (((B.toNat : Nat) : Int) ≥ B) := by omega
def A_M_drowned_4 (w : z_Wd)  : Nat → Int
  | 0 => 0
  | i4 + 1 => if F_M_isFree w (i4 : Int) = 0 then zz_or (A_M_drowned_4 w i4) (zz_shl 1 (i4 : Int)) else zz_or (A_M_drowned_4 w i4) 0
def P_M_drowned (w : z_Wd)  : Prop := (∀ i4 : Nat, i4 < ((w 0 29).toNat) → (-2147483648 ≤ (i4 : Int) ∧ (i4 : Int) < 2147483648) ∧ (-2147483648 ≤ w 0 29 ∧ w 0 29 < 2147483648) ∧ (P_M_isFree w (i4 : Int))) ∧ ((-2147483648 ≤ (((w 0 29).toNat : Nat) : Int) ∧ (((w 0 29).toNat : Nat) : Int) < 2147483648) ∧ (-2147483648 ≤ w 0 29 ∧ w 0 29 < 2147483648))
def F_M_drowned (w : z_Wd)  : Int := A_M_drowned_4 w (w 0 29).toNat
set_option maxRecDepth 4000 in
theorem c_M_drowned {d : Nat} {w : z_Wd} {Q : Option z_V → z_Wd → Prop} (h : P_M_drowned w ) (k : Q (some (zI (F_M_drowned w ))) w) : z_Wc (d + 4) m_X12_drowned [zR 0] w Q := by
  unfold P_M_drowned at h
  unfold F_M_drowned at k
  refine z_enter rfl (Nat.le_of_ble_eq_true rfl) ?_
  show z_Wp m_X12_drowned _ 0 [(0, zR 0)] [] w _
  refine z_iconst (pc' := 1) dX12_drowned_0 rfl ?_
  refine z_istore_n (pc' := 2) (ls' := [(0, zR 0), (1, zI 0)]) rfl (by decide) rfl rfl dX12_drowned_1 rfl ?_
  refine z_iconst (pc' := 3) dX12_drowned_2 rfl ?_
  refine z_istore_n (pc' := 4) (ls' := [(0, zR 0), (1, zI 0), (2, zI 0)]) rfl (by decide) rfl rfl dX12_drowned_3 rfl ?_
  refine z_upto ((w 0 29).toNat) (fun i4 => z_Wp m_X12_drowned (d + 4) 4 [(0, zR 0), (1, zI (A_M_drowned_4 w i4)), (2, zI (i4 : Int))] [] w Q) ?_ ?_
  · skip
    have h := h.2
    refine z_iload_n (pc' := 5) 2 rfl rfl dX12_drowned_4 rfl ?_
    refine z_aload_n (pc' := 6) 0 rfl rfl dX12_drowned_5 rfl ?_
    refine z_getI2 (v := w 0 29) (pc' := 9) g_X12_260 (by decide) rfl rfl rfl dX12_drowned_6 rfl ?_
    obtain ⟨r8, h⟩ := h
    have r9 := h
    refine z_icmp_ge 36 dX12_drowned_9 (by decide) (pc' := 12) rfl r8 r9 (fun _ => ?_) (fun c => absurd c (by omega))
    refine z_iload_n (pc' := 37) 1 rfl rfl dX12_drowned_36 rfl ?_
    refine z_iret rfl dX12_drowned_37 ?_
    exact k
  · intro i4 hi ih
    have h := h.1 i4 hi
    have ih : z_Wp m_X12_drowned (d + 4) 4 [(0, zR 0), (1, zI (if F_M_isFree w (i4 : Int) = 0 then zz_or (A_M_drowned_4 w i4) (zz_shl 1 (i4 : Int)) else zz_or (A_M_drowned_4 w i4) 0)), (2, zI ((i4 + 1 : Nat) : Int))] [] w Q := ih
    refine z_iload_n (pc' := 5) 2 rfl rfl dX12_drowned_4 rfl ?_
    refine z_aload_n (pc' := 6) 0 rfl rfl dX12_drowned_5 rfl ?_
    refine z_getI2 (v := w 0 29) (pc' := 9) g_X12_260 (by decide) rfl rfl rfl dX12_drowned_6 rfl ?_
    obtain ⟨r5, h⟩ := h
    obtain ⟨r6, h⟩ := h
    refine z_icmp_ge 36 dX12_drowned_9 (by decide) (pc' := 12) rfl r5 r6 (fun c => absurd c (by omega)) (fun _ => ?_)
    refine z_iload_n (pc' := 13) 1 rfl rfl dX12_drowned_12 rfl ?_
    refine z_aload_n (pc' := 14) 0 rfl rfl dX12_drowned_13 rfl ?_
    refine z_iload_n (pc' := 15) 2 rfl rfl dX12_drowned_14 rfl ?_
    refine z_invV (as := [zI (i4 : Int)]) (st := [zI (A_M_drowned_4 w i4)]) (C := m_X12_isFree) (fs := [0, 3, 0, 0, 0, 0, 4, 5, 6, 7, 8, 9, 10, 0, 0, 11, 12, 13, 14, 15, 16, 0, 0, 0, 17, 18, 19, 20, 0, 0, 0, 21, 22, 0, 0, 23, 0, 1, 24, 0, 0, 25, 26, 0, 27, 0]) (pc' := 18) dX12_drowned_15 rfl t_7_158 k_X12_isFree rfl (by decide) rfl rfl rfl rfl (Nat.le_of_ble_eq_true rfl) ?_
    have r7 := h
    refine c_M_isFree r7 ?_
    show z_Wp m_X12_drowned _ 18 [(0, zR 0), (1, zI (A_M_drowned_4 w i4)), (2, zI (i4 : Int))] [zI (F_M_isFree w (i4 : Int)), zI (A_M_drowned_4 w i4)] w _
    refine z_if_eq 25 dX12_drowned_18 (by decide) (pc' := 21) rfl (z_rb b_M_isFree) (fun c1 => ?_) (fun c1 => ?_)
    · skip
      rw [if_pos c1] at ih
      refine z_iconst (pc' := 26) dX12_drowned_25 rfl ?_
      refine z_iload_n (pc' := 27) 2 rfl rfl dX12_drowned_26 rfl ?_
      refine z_ishl (pc' := 28) dX12_drowned_27 rfl ?_
      refine z_ior (pc' := 29) dX12_drowned_28 rfl ?_
      refine z_istore_n (pc' := 30) (ls' := [(0, zR 0), (1, zI (zz_or (A_M_drowned_4 w i4) (zz_shl 1 (i4 : Int)))), (2, zI (i4 : Int))]) rfl (by decide) rfl rfl dX12_drowned_29 rfl ?_
      refine z_iinc (pc' := 33) (ls' := [(0, zR 0), (1, zI (zz_or (A_M_drowned_4 w i4) (zz_shl 1 (i4 : Int)))), (2, zI ((i4 : Int) + 1))]) 2 rfl (by decide) rfl rfl dX12_drowned_30 rfl ?_
      refine z_goto 4 dX12_drowned_33 (by decide) ?_
      exact ih
    · skip
      rw [if_neg c1] at ih
      refine z_iconst (pc' := 22) dX12_drowned_21 rfl ?_
      refine z_goto 28 dX12_drowned_22 (by decide) ?_
      refine z_ior (pc' := 29) dX12_drowned_28 rfl ?_
      refine z_istore_n (pc' := 30) (ls' := [(0, zR 0), (1, zI (zz_or (A_M_drowned_4 w i4) 0)), (2, zI (i4 : Int))]) rfl (by decide) rfl rfl dX12_drowned_29 rfl ?_
      refine z_iinc (pc' := 33) (ls' := [(0, zR 0), (1, zI (zz_or (A_M_drowned_4 w i4) 0)), (2, zI ((i4 : Int) + 1))]) 2 rfl (by decide) rfl rfl dX12_drowned_30 rfl ?_
      refine z_goto 4 dX12_drowned_33 (by decide) ?_
      exact ih
def E_M_firstWell_2 (w : z_Wd) (a0 : Int) (i4 : Nat) : Bool := if F_M_fits w a0 (i4 : Int) = 0 then false else true
def R_M_firstWell_2 (w : z_Wd) (a0 : Int) (i4 : Nat) : Int := if F_M_fits w a0 (i4 : Int) = 0 then 0 else (i4 : Int)
def P_M_firstWell (w : z_Wd) (a0 : Int) : Prop := (∀ i4 : Nat, i4 < ((w 0 28).toNat) → zfind (E_M_firstWell_2 w a0) i4 = -1 → (-2147483648 ≤ (i4 : Int) ∧ (i4 : Int) < 2147483648) ∧ (-2147483648 ≤ w 0 28 ∧ w 0 28 < 2147483648) ∧ (P_M_fits w a0 (i4 : Int))) ∧ ((-2147483648 ≤ (((w 0 28).toNat : Nat) : Int) ∧ (((w 0 28).toNat : Nat) : Int) < 2147483648) ∧ (-2147483648 ≤ w 0 28 ∧ w 0 28 < 2147483648))
def F_M_firstWell (w : z_Wd) (a0 : Int) : Int := if zfind (E_M_firstWell_2 w a0) ((w 0 28).toNat) = -1 then (-1) else R_M_firstWell_2 w a0 (zfind (E_M_firstWell_2 w a0) ((w 0 28).toNat)).toNat
set_option maxRecDepth 4000 in
theorem c_M_firstWell {d : Nat} {w : z_Wd} {a0 : Int} {Q : Option z_V → z_Wd → Prop} (h : P_M_firstWell w a0) (k : Q (some (zI (F_M_firstWell w a0))) w) : z_Wc (d + 5) m_X12_firstWell [zR 0, zI a0] w Q := by
  unfold P_M_firstWell at h
  unfold F_M_firstWell at k
  refine z_enter rfl (Nat.le_of_ble_eq_true rfl) ?_
  show z_Wp m_X12_firstWell _ 0 [(0, zR 0), (1, zI a0)] [] w _
  refine z_iconst (pc' := 1) dX12_firstWell_0 rfl ?_
  refine z_istore_n (pc' := 2) (ls' := [(0, zR 0), (1, zI a0), (2, zI 0)]) rfl (by decide) rfl rfl dX12_firstWell_1 rfl ?_
  refine z_upto ((w 0 28).toNat) (fun i4 => zfind (E_M_firstWell_2 w a0) i4 = -1 → z_Wp m_X12_firstWell (d + 5) 2 [(0, zR 0), (1, zI a0), (2, zI (i4 : Int))] [] w Q) ?_ ?_ rfl
  · intro hf
    rw [if_pos hf] at k
    have h := h.2
    refine z_iload_n (pc' := 3) 2 rfl rfl dX12_firstWell_2 rfl ?_
    refine z_aload_n (pc' := 4) 0 rfl rfl dX12_firstWell_3 rfl ?_
    refine z_getI2 (v := w 0 28) (pc' := 7) g_X12_257 (by decide) rfl rfl rfl dX12_firstWell_4 rfl ?_
    obtain ⟨r8, h⟩ := h
    have r9 := h
    refine z_icmp_ge 27 dX12_firstWell_7 (by decide) (pc' := 10) rfl r8 r9 (fun _ => ?_) (fun c => absurd c (by omega))
    refine z_iconst (pc' := 28) dX12_firstWell_27 rfl ?_
    refine z_iret rfl dX12_firstWell_28 ?_
    exact k
  · intro i4 hi ih hf
    have h := h.1 i4 hi hf
    have hE : E_M_firstWell_2 w a0 i4 = (if F_M_fits w a0 (i4 : Int) = 0 then false else true) := rfl
    refine z_iload_n (pc' := 3) 2 rfl rfl dX12_firstWell_2 rfl ?_
    refine z_aload_n (pc' := 4) 0 rfl rfl dX12_firstWell_3 rfl ?_
    refine z_getI2 (v := w 0 28) (pc' := 7) g_X12_257 (by decide) rfl rfl rfl dX12_firstWell_4 rfl ?_
    obtain ⟨r5, h⟩ := h
    obtain ⟨r6, h⟩ := h
    refine z_icmp_ge 27 dX12_firstWell_7 (by decide) (pc' := 10) rfl r5 r6 (fun c => absurd c (by omega)) (fun _ => ?_)
    refine z_aload_n (pc' := 11) 0 rfl rfl dX12_firstWell_10 rfl ?_
    refine z_iload_n (pc' := 12) 1 rfl rfl dX12_firstWell_11 rfl ?_
    refine z_iload_n (pc' := 13) 2 rfl rfl dX12_firstWell_12 rfl ?_
    refine z_invV (as := [zI a0, zI (i4 : Int)]) (st := []) (C := m_X12_fits) (fs := [0, 3, 0, 0, 0, 0, 4, 5, 6, 7, 8, 9, 10, 0, 0, 11, 12, 13, 14, 15, 16, 0, 0, 0, 17, 18, 19, 20, 0, 0, 0, 21, 22, 0, 0, 23, 0, 1, 24, 0, 0, 25, 26, 0, 27, 0]) (pc' := 16) dX12_firstWell_13 rfl t_7_223 k_X12_fits rfl (by decide) rfl rfl rfl rfl (Nat.le_of_ble_eq_true rfl) ?_
    have r7 := h
    refine c_M_fits r7 ?_
    show z_Wp m_X12_firstWell _ 16 [(0, zR 0), (1, zI a0), (2, zI (i4 : Int))] [zI (F_M_fits w a0 (i4 : Int))] w _
    refine z_if_eq 21 dX12_firstWell_16 (by decide) (pc' := 19) rfl (z_rb b_M_fits) (fun c2 => ?_) (fun c2 => ?_)
    · skip
      rw [if_pos c2] at hE
      refine z_iinc (pc' := 24) (ls' := [(0, zR 0), (1, zI a0), (2, zI ((i4 : Int) + 1))]) 2 rfl (by decide) rfl rfl dX12_firstWell_21 rfl ?_
      refine z_goto 2 dX12_firstWell_24 (by decide) ?_
      exact (ih (zfind_miss hf (by rw [hE]; decide)))
    · skip
      rw [if_neg c2] at hE
      refine z_iload_n (pc' := 20) 2 rfl rfl dX12_firstWell_19 rfl ?_
      refine z_iret rfl dX12_firstWell_20 ?_
      have hz := zfind_hit hf hE _ hi
      rw [hz, if_neg (by omega), Int.toNat_natCast] at k
      unfold R_M_firstWell_2 at k
      rw [if_neg c2] at k
      exact k
def E_M_reach_20 (w : z_Wd) (a0 : Int) (i9 : Nat) : Bool := true
def R_M_reach_20 (w : z_Wd) (a0 : Int) (i9 : Nat) : Int := (-1)
def E_M_reach_20x2 (w : z_Wd) (a0 : Int) (i19 : Nat) : Bool := if F_M_wellOf w a0 = (-1) then true else if F_M_reachedBy w (F_M_wellOf w a0) (1 + (i19 : Int)) = (-1) then false else if w 19 (((4 + (7 * (F_M_wellOf w a0))) + (F_M_reachedBy w (F_M_wellOf w a0) (1 + (i19 : Int)))).toNat) = a0 then true else false
def R_M_reach_20x2 (w : z_Wd) (a0 : Int) (i19 : Nat) : Int := if F_M_wellOf w a0 = (-1) then (-1) else if F_M_reachedBy w (F_M_wellOf w a0) (1 + (i19 : Int)) = (-1) then 0 else if w 19 (((4 + (7 * (F_M_wellOf w a0))) + (F_M_reachedBy w (F_M_wellOf w a0) (1 + (i19 : Int)))).toNat) = a0 then 1 + (i19 : Int) else 0
def P_M_reach (w : z_Wd) (a0 : Int) : Prop := (P_M_in w a0 0 ((w 0 29) - 1)) ∧ ((F_M_in w a0 0 ((w 0 29) - 1) = 0 → (∀ i9 : Nat, i9 < 9 → zfind (E_M_reach_20 w a0) i9 = -1 → -2147483648 ≤ 1 + (i9 : Int) ∧ 1 + (i9 : Int) < 2147483648) ∧ (True)) ∧ (¬ (F_M_in w a0 0 ((w 0 29) - 1) = 0) → (P_M_wellOf w a0) ∧ ((∀ i19 : Nat, i19 < 9 → zfind (E_M_reach_20x2 w a0) i19 = -1 → (-2147483648 ≤ 1 + (i19 : Int) ∧ 1 + (i19 : Int) < 2147483648) ∧ (-2147483648 ≤ F_M_wellOf w a0 ∧ F_M_wellOf w a0 < 2147483648) ∧ ((F_M_wellOf w a0 = (-1) → True) ∧ (¬ (F_M_wellOf w a0 = (-1)) → (P_M_reachedBy w (F_M_wellOf w a0) (1 + (i19 : Int))) ∧ (-2147483648 ≤ F_M_reachedBy w (F_M_wellOf w a0) (1 + (i19 : Int)) ∧ F_M_reachedBy w (F_M_wellOf w a0) (1 + (i19 : Int)) < 2147483648) ∧ ((F_M_reachedBy w (F_M_wellOf w a0) (1 + (i19 : Int)) = (-1) → True) ∧ (¬ (F_M_reachedBy w (F_M_wellOf w a0) (1 + (i19 : Int)) = (-1)) → (0 ≤ (4 + (7 * (F_M_wellOf w a0))) + (F_M_reachedBy w (F_M_wellOf w a0) (1 + (i19 : Int))) ∧ (4 + (7 * (F_M_wellOf w a0))) + (F_M_reachedBy w (F_M_wellOf w a0) (1 + (i19 : Int))) < 160) ∧ (-2147483648 ≤ w 19 (((4 + (7 * (F_M_wellOf w a0))) + (F_M_reachedBy w (F_M_wellOf w a0) (1 + (i19 : Int)))).toNat) ∧ w 19 (((4 + (7 * (F_M_wellOf w a0))) + (F_M_reachedBy w (F_M_wellOf w a0) (1 + (i19 : Int)))).toNat) < 2147483648) ∧ (-2147483648 ≤ a0 ∧ a0 < 2147483648)))))) ∧ (True))))
def F_M_reach (w : z_Wd) (a0 : Int) : Int := if F_M_in w a0 0 ((w 0 29) - 1) = 0 then if zfind (E_M_reach_20 w a0) 9 = -1 then (-1) else R_M_reach_20 w a0 (zfind (E_M_reach_20 w a0) 9).toNat else if zfind (E_M_reach_20x2 w a0) 9 = -1 then (-1) else R_M_reach_20x2 w a0 (zfind (E_M_reach_20x2 w a0) 9).toNat
set_option maxRecDepth 4000 in
theorem c_M_reach {d : Nat} {w : z_Wd} {a0 : Int} {Q : Option z_V → z_Wd → Prop} (h : P_M_reach w a0) (k : Q (some (zI (F_M_reach w a0))) w) : z_Wc (d + 4) m_X12_reach [zR 0, zI a0] w Q := by
  unfold P_M_reach at h
  unfold F_M_reach at k
  refine z_enter rfl (Nat.le_of_ble_eq_true rfl) ?_
  show z_Wp m_X12_reach _ 0 [(0, zR 0), (1, zI a0)] [] w _
  refine z_aload_n (pc' := 1) 0 rfl rfl dX12_reach_0 rfl ?_
  refine z_iload_n (pc' := 2) 1 rfl rfl dX12_reach_1 rfl ?_
  refine z_invV (as := [zI a0]) (st := []) (C := m_X12_isName) (fs := [0, 3, 0, 0, 0, 0, 4, 5, 6, 7, 8, 9, 10, 0, 0, 11, 12, 13, 14, 15, 16, 0, 0, 0, 17, 18, 19, 20, 0, 0, 0, 21, 22, 0, 0, 23, 0, 1, 24, 0, 0, 25, 26, 0, 27, 0]) (pc' := 5) dX12_reach_2 rfl t_7_110 k_X12_isName rfl (by decide) rfl rfl rfl rfl (Nat.le_of_ble_eq_true rfl) ?_
  obtain ⟨r1, h⟩ := h
  refine c_M_isName r1 ?_
  show z_Wp m_X12_reach _ 5 [(0, zR 0), (1, zI a0)] [zI (F_M_in w a0 0 ((w 0 29) - 1))] w _
  refine z_if_eq 16 dX12_reach_5 (by decide) (pc' := 8) rfl (z_rb b_M_in) (fun c => ?_) (fun c => ?_)
  · have h := h.1 c
    rw [if_pos c] at k
    refine z_iconst (pc' := 17) dX12_reach_16 rfl ?_
    refine z_istore_n (pc' := 18) (ls' := [(0, zR 0), (1, zI a0), (2, zI (-1))]) rfl (by decide) rfl rfl dX12_reach_17 rfl ?_
    refine z_iconst (pc' := 19) dX12_reach_18 rfl ?_
    refine z_istore_n (pc' := 20) (ls' := [(0, zR 0), (1, zI a0), (2, zI (-1)), (3, zI 1)]) rfl (by decide) rfl rfl dX12_reach_19 rfl ?_
    refine z_upto 9 (fun i9 => zfind (E_M_reach_20 w a0) i9 = -1 → z_Wp m_X12_reach (d + 4) 20 [(0, zR 0), (1, zI a0), (2, zI (-1)), (3, zI (1 + (i9 : Int)))] [] w Q) ?_ ?_ rfl
    · intro hf
      rw [if_pos hf] at k
      have h := h.2
      refine z_iload_n (pc' := 21) 3 rfl rfl dX12_reach_20 rfl ?_
      refine z_bipush (pc' := 23) (by decide) dX12_reach_21 rfl ?_
      refine z_icmp_gt 64 dX12_reach_23 (by decide) (pc' := 26) rfl (by decide) (by decide) (fun _ => ?_) (fun c => absurd c (by decide))
      refine z_iconst (pc' := 65) dX12_reach_64 rfl ?_
      refine z_iret rfl dX12_reach_65 ?_
      exact k
    · intro i9 hi ih hf
      have h := h.1 i9 hi hf
      have hE : E_M_reach_20 w a0 i9 = (true) := rfl
      refine z_iload_n (pc' := 21) 3 rfl rfl dX12_reach_20 rfl ?_
      refine z_bipush (pc' := 23) (by decide) dX12_reach_21 rfl ?_
      have r10 := h
      refine z_icmp_gt 64 dX12_reach_23 (by decide) (pc' := 26) rfl r10 (by decide) (fun c => absurd c (by omega)) (fun _ => ?_)
      refine z_iload_n (pc' := 27) 2 rfl rfl dX12_reach_26 rfl ?_
      refine z_iconst (pc' := 28) dX12_reach_27 rfl ?_
      refine z_icmp_eq 64 dX12_reach_28 (by decide) (pc' := 31) rfl (by decide) (by decide) (fun _ => ?_) (fun c => absurd c (by decide))
      refine z_iconst (pc' := 65) dX12_reach_64 rfl ?_
      refine z_iret rfl dX12_reach_65 ?_
      have hz := zfind_hit hf hE _ hi
      rw [hz, if_neg (by omega), Int.toNat_natCast] at k
      unfold R_M_reach_20 at k
      exact k
  · have h := h.2 c
    rw [if_neg c] at k
    refine z_aload_n (pc' := 9) 0 rfl rfl dX12_reach_8 rfl ?_
    refine z_iload_n (pc' := 10) 1 rfl rfl dX12_reach_9 rfl ?_
    refine z_invV (as := [zI a0]) (st := []) (C := m_X12_wellOf) (fs := [0, 3, 0, 0, 0, 0, 4, 5, 6, 7, 8, 9, 10, 0, 0, 11, 12, 13, 14, 15, 16, 0, 0, 0, 17, 18, 19, 20, 0, 0, 0, 21, 22, 0, 0, 23, 0, 1, 24, 0, 0, 25, 26, 0, 27, 0]) (pc' := 13) dX12_reach_10 rfl t_7_114 k_X12_wellOf rfl (by decide) rfl rfl rfl rfl (Nat.le_of_ble_eq_true rfl) ?_
    obtain ⟨r11, h⟩ := h
    refine c_M_wellOf r11 ?_
    show z_Wp m_X12_reach _ 13 [(0, zR 0), (1, zI a0)] [zI (F_M_wellOf w a0)] w _
    refine z_goto 17 dX12_reach_13 (by decide) ?_
    refine z_istore_n (pc' := 18) (ls' := [(0, zR 0), (1, zI a0), (2, zI (F_M_wellOf w a0))]) rfl (by decide) rfl rfl dX12_reach_17 rfl ?_
    refine z_iconst (pc' := 19) dX12_reach_18 rfl ?_
    refine z_istore_n (pc' := 20) (ls' := [(0, zR 0), (1, zI a0), (2, zI (F_M_wellOf w a0)), (3, zI 1)]) rfl (by decide) rfl rfl dX12_reach_19 rfl ?_
    refine z_upto 9 (fun i19 => zfind (E_M_reach_20x2 w a0) i19 = -1 → z_Wp m_X12_reach (d + 4) 20 [(0, zR 0), (1, zI a0), (2, zI (F_M_wellOf w a0)), (3, zI (1 + (i19 : Int)))] [] w Q) ?_ ?_ rfl
    · intro hf
      rw [if_pos hf] at k
      have h := h.2
      refine z_iload_n (pc' := 21) 3 rfl rfl dX12_reach_20 rfl ?_
      refine z_bipush (pc' := 23) (by decide) dX12_reach_21 rfl ?_
      refine z_icmp_gt 64 dX12_reach_23 (by decide) (pc' := 26) rfl (by decide) (by decide) (fun _ => ?_) (fun c => absurd c (by decide))
      refine z_iconst (pc' := 65) dX12_reach_64 rfl ?_
      refine z_iret rfl dX12_reach_65 ?_
      exact k
    · intro i19 hi ih hf
      have h := h.1 i19 hi hf
      have hE : E_M_reach_20x2 w a0 i19 = (if F_M_wellOf w a0 = (-1) then true else if F_M_reachedBy w (F_M_wellOf w a0) (1 + (i19 : Int)) = (-1) then false else if w 19 (((4 + (7 * (F_M_wellOf w a0))) + (F_M_reachedBy w (F_M_wellOf w a0) (1 + (i19 : Int)))).toNat) = a0 then true else false) := rfl
      refine z_iload_n (pc' := 21) 3 rfl rfl dX12_reach_20 rfl ?_
      refine z_bipush (pc' := 23) (by decide) dX12_reach_21 rfl ?_
      obtain ⟨r20, h⟩ := h
      refine z_icmp_gt 64 dX12_reach_23 (by decide) (pc' := 26) rfl r20 (by decide) (fun c => absurd c (by omega)) (fun _ => ?_)
      refine z_iload_n (pc' := 27) 2 rfl rfl dX12_reach_26 rfl ?_
      refine z_iconst (pc' := 28) dX12_reach_27 rfl ?_
      obtain ⟨r21, h⟩ := h
      refine z_icmp_eq 64 dX12_reach_28 (by decide) (pc' := 31) rfl r21 (by decide) (fun c3 => ?_) (fun c3 => ?_)
      · have h := h.1 c3
        rw [if_pos c3] at hE
        refine z_iconst (pc' := 65) dX12_reach_64 rfl ?_
        refine z_iret rfl dX12_reach_65 ?_
        have hz := zfind_hit hf hE _ hi
        rw [hz, if_neg (by omega), Int.toNat_natCast] at k
        unfold R_M_reach_20x2 at k
        rw [if_pos c3] at k
        exact k
      · have h := h.2 c3
        rw [if_neg c3] at hE
        refine z_aload_n (pc' := 32) 0 rfl rfl dX12_reach_31 rfl ?_
        refine z_iload_n (pc' := 33) 2 rfl rfl dX12_reach_32 rfl ?_
        refine z_iload_n (pc' := 34) 3 rfl rfl dX12_reach_33 rfl ?_
        refine z_invV (as := [zI (F_M_wellOf w a0), zI (1 + (i19 : Int))]) (st := []) (C := m_X12_reachedBy) (fs := [0, 3, 0, 0, 0, 0, 4, 5, 6, 7, 8, 9, 10, 0, 0, 11, 12, 13, 14, 15, 16, 0, 0, 0, 17, 18, 19, 20, 0, 0, 0, 21, 22, 0, 0, 23, 0, 1, 24, 0, 0, 25, 26, 0, 27, 0]) (pc' := 37) dX12_reach_34 rfl t_8_7 k_X12_reachedBy rfl (by decide) rfl rfl rfl rfl (Nat.le_of_ble_eq_true rfl) ?_
        obtain ⟨r22, h⟩ := h
        refine c_M_reachedBy r22 ?_
        show z_Wp m_X12_reach _ 37 [(0, zR 0), (1, zI a0), (2, zI (F_M_wellOf w a0)), (3, zI (1 + (i19 : Int)))] [zI (F_M_reachedBy w (F_M_wellOf w a0) (1 + (i19 : Int)))] w _
        refine z_istore (pc' := 39) (ls' := [(0, zR 0), (1, zI a0), (2, zI (F_M_wellOf w a0)), (3, zI (1 + (i19 : Int))), (4, zI (F_M_reachedBy w (F_M_wellOf w a0) (1 + (i19 : Int))))]) (by decide) rfl rfl dX12_reach_37 rfl ?_
        refine z_iload (pc' := 41) 4 rfl dX12_reach_39 rfl ?_
        refine z_iconst (pc' := 42) dX12_reach_41 rfl ?_
        obtain ⟨r23, h⟩ := h
        refine z_icmp_eq 58 dX12_reach_42 (by decide) (pc' := 45) rfl r23 (by decide) (fun c4 => ?_) (fun c4 => ?_)
        · have h := h.1 c4
          rw [if_pos c4] at hE
          refine z_iinc (pc' := 61) (ls' := [(0, zR 0), (1, zI a0), (2, zI (F_M_wellOf w a0)), (3, zI ((1 + (i19 : Int)) + 1)), (4, zI (F_M_reachedBy w (F_M_wellOf w a0) (1 + (i19 : Int))))]) 3 rfl (by decide) rfl rfl dX12_reach_58 rfl ?_
          refine z_goto 20 dX12_reach_61 (by decide) ?_
          exact z_Wp.sub (ls' := [(0, zR 0), (1, zI a0), (2, zI (F_M_wellOf w a0)), (3, zI ((1 + (i19 : Int)) + 1))]) (z_lcast (by rw [z_ci]) (ih (zfind_miss hf (by rw [hE]; decide)))) (z_sub_of [0, 1, 2, 3] rfl)
        · have h := h.2 c4
          rw [if_neg c4] at hE
          refine z_aload_n (pc' := 46) 0 rfl rfl dX12_reach_45 rfl ?_
          refine z_iload_n (pc' := 47) 2 rfl rfl dX12_reach_46 rfl ?_
          refine z_iload (pc' := 49) 4 rfl dX12_reach_47 rfl ?_
          refine z_invV (as := [zI (F_M_wellOf w a0), zI (F_M_reachedBy w (F_M_wellOf w a0) (1 + (i19 : Int)))]) (st := []) (C := m_X12_lies) (fs := [0, 3, 0, 0, 0, 0, 4, 5, 6, 7, 8, 9, 10, 0, 0, 11, 12, 13, 14, 15, 16, 0, 0, 0, 17, 18, 19, 20, 0, 0, 0, 21, 22, 0, 0, 23, 0, 1, 24, 0, 0, 25, 26, 0, 27, 0]) (pc' := 52) dX12_reach_49 rfl t_7_122 k_X12_lies rfl (by decide) rfl rfl rfl rfl (Nat.le_of_ble_eq_true rfl) ?_
          obtain ⟨r24, h⟩ := h
          refine c_M_lies r24 ?_
          show z_Wp m_X12_reach _ 52 [(0, zR 0), (1, zI a0), (2, zI (F_M_wellOf w a0)), (3, zI (1 + (i19 : Int))), (4, zI (F_M_reachedBy w (F_M_wellOf w a0) (1 + (i19 : Int))))] [zI (w 19 (((4 + (7 * (F_M_wellOf w a0))) + (F_M_reachedBy w (F_M_wellOf w a0) (1 + (i19 : Int)))).toNat))] w _
          refine z_iload_n (pc' := 53) 1 rfl rfl dX12_reach_52 rfl ?_
          obtain ⟨r25, h⟩ := h
          have r26 := h
          refine z_icmp_ne 58 dX12_reach_53 (by decide) (pc' := 56) rfl r25 r26 (fun c5 => ?_) (fun c5 => ?_)
          · skip
            rw [if_neg c5] at hE
            refine z_iinc (pc' := 61) (ls' := [(0, zR 0), (1, zI a0), (2, zI (F_M_wellOf w a0)), (3, zI ((1 + (i19 : Int)) + 1)), (4, zI (F_M_reachedBy w (F_M_wellOf w a0) (1 + (i19 : Int))))]) 3 rfl (by decide) rfl rfl dX12_reach_58 rfl ?_
            refine z_goto 20 dX12_reach_61 (by decide) ?_
            exact z_Wp.sub (ls' := [(0, zR 0), (1, zI a0), (2, zI (F_M_wellOf w a0)), (3, zI ((1 + (i19 : Int)) + 1))]) (z_lcast (by rw [z_ci]) (ih (zfind_miss hf (by rw [hE]; decide)))) (z_sub_of [0, 1, 2, 3] rfl)
          · skip
            rw [if_pos c5] at hE
            refine z_iload_n (pc' := 57) 3 rfl rfl dX12_reach_56 rfl ?_
            refine z_iret rfl dX12_reach_57 ?_
            have hz := zfind_hit hf hE _ hi
            rw [hz, if_neg (by omega), Int.toNat_natCast] at k
            unfold R_M_reach_20x2 at k
            rw [if_neg c3] at k
            rw [if_neg c4] at k
            rw [if_pos c5] at k
            exact k
def E_M_isRest_3 (w : z_Wd) (a0 : Int) (a1 : Int) (a2 : Int) (a3 : Int) (a4 : Int) (i10 : Nat) : Bool := if F_M_gameOf w a0 a2 (i10 : Int) a4 > F_M_gameOf w a0 a2 a3 a4 then true else if F_M_gameOf w a1 a2 (i10 : Int) a3 ≤ F_M_gameOf w a1 a2 a4 a3 then false else true
def R_M_isRest_3 (w : z_Wd) (a0 : Int) (a1 : Int) (a2 : Int) (a3 : Int) (a4 : Int) (i10 : Nat) : Int := if F_M_gameOf w a0 a2 (i10 : Int) a4 > F_M_gameOf w a0 a2 a3 a4 then 0 else if F_M_gameOf w a1 a2 (i10 : Int) a3 ≤ F_M_gameOf w a1 a2 a4 a3 then 0 else 0
def P_M_isRest (w : z_Wd) (a0 : Int) (a1 : Int) (a2 : Int) (a3 : Int) (a4 : Int) : Prop := (∀ i10 : Nat, i10 < 10 → zfind (E_M_isRest_3 w a0 a1 a2 a3 a4) i10 = -1 → (-2147483648 ≤ (i10 : Int) ∧ (i10 : Int) < 2147483648) ∧ (P_M_gameOf w a0 a2 (i10 : Int) a4) ∧ (P_M_gameOf w a0 a2 a3 a4) ∧ (-2147483648 ≤ F_M_gameOf w a0 a2 (i10 : Int) a4 ∧ F_M_gameOf w a0 a2 (i10 : Int) a4 < 2147483648) ∧ (-2147483648 ≤ F_M_gameOf w a0 a2 a3 a4 ∧ F_M_gameOf w a0 a2 a3 a4 < 2147483648) ∧ ((F_M_gameOf w a0 a2 (i10 : Int) a4 > F_M_gameOf w a0 a2 a3 a4 → True) ∧ (¬ (F_M_gameOf w a0 a2 (i10 : Int) a4 > F_M_gameOf w a0 a2 a3 a4) → (P_M_gameOf w a1 a2 (i10 : Int) a3) ∧ (P_M_gameOf w a1 a2 a4 a3) ∧ (-2147483648 ≤ F_M_gameOf w a1 a2 (i10 : Int) a3 ∧ F_M_gameOf w a1 a2 (i10 : Int) a3 < 2147483648) ∧ (-2147483648 ≤ F_M_gameOf w a1 a2 a4 a3 ∧ F_M_gameOf w a1 a2 a4 a3 < 2147483648)))) ∧ (True)
def F_M_isRest (w : z_Wd) (a0 : Int) (a1 : Int) (a2 : Int) (a3 : Int) (a4 : Int) : Int := if zfind (E_M_isRest_3 w a0 a1 a2 a3 a4) 10 = -1 then 1 else R_M_isRest_3 w a0 a1 a2 a3 a4 (zfind (E_M_isRest_3 w a0 a1 a2 a3 a4) 10).toNat
set_option maxRecDepth 4000 in
theorem c_M_isRest {d : Nat} {w : z_Wd} {a0 a1 a2 a3 a4 : Int} {Q : Option z_V → z_Wd → Prop} (h : P_M_isRest w a0 a1 a2 a3 a4) (k : Q (some (zI (F_M_isRest w a0 a1 a2 a3 a4))) w) : z_Wc (d + 5) m_X12_isRest [zR 0, zI a0, zI a1, zI a2, zI a3, zI a4] w Q := by
  unfold P_M_isRest at h
  unfold F_M_isRest at k
  refine z_enter rfl (Nat.le_of_ble_eq_true rfl) ?_
  show z_Wp m_X12_isRest _ 0 [(0, zR 0), (1, zI a0), (2, zI a1), (3, zI a2), (4, zI a3), (5, zI a4)] [] w _
  refine z_iconst (pc' := 1) dX12_isRest_0 rfl ?_
  refine z_istore (pc' := 3) (ls' := [(0, zR 0), (1, zI a0), (2, zI a1), (3, zI a2), (4, zI a3), (5, zI a4), (6, zI 0)]) (by decide) rfl rfl dX12_isRest_1 rfl ?_
  refine z_upto 10 (fun i10 => zfind (E_M_isRest_3 w a0 a1 a2 a3 a4) i10 = -1 → z_Wp m_X12_isRest (d + 5) 3 [(0, zR 0), (1, zI a0), (2, zI a1), (3, zI a2), (4, zI a3), (5, zI a4), (6, zI (i10 : Int))] [] w Q) ?_ ?_ rfl
  · intro hf
    rw [if_pos hf] at k
    have h := h.2
    refine z_iload (pc' := 5) 6 rfl dX12_isRest_3 rfl ?_
    refine z_bipush (pc' := 7) (by decide) dX12_isRest_5 rfl ?_
    refine z_icmp_ge 64 dX12_isRest_7 (by decide) (pc' := 10) rfl (by decide) (by decide) (fun _ => ?_) (fun c => absurd c (by decide))
    refine z_iconst (pc' := 65) dX12_isRest_64 rfl ?_
    refine z_zret rfl (by decide) dX12_isRest_65 ?_
    exact k
  · intro i10 hi ih hf
    have h := h.1 i10 hi hf
    have hE : E_M_isRest_3 w a0 a1 a2 a3 a4 i10 = (if F_M_gameOf w a0 a2 (i10 : Int) a4 > F_M_gameOf w a0 a2 a3 a4 then true else if F_M_gameOf w a1 a2 (i10 : Int) a3 ≤ F_M_gameOf w a1 a2 a4 a3 then false else true) := rfl
    refine z_iload (pc' := 5) 6 rfl dX12_isRest_3 rfl ?_
    refine z_bipush (pc' := 7) (by decide) dX12_isRest_5 rfl ?_
    obtain ⟨r11, h⟩ := h
    refine z_icmp_ge 64 dX12_isRest_7 (by decide) (pc' := 10) rfl r11 (by decide) (fun c => absurd c (by omega)) (fun _ => ?_)
    refine z_aload_n (pc' := 11) 0 rfl rfl dX12_isRest_10 rfl ?_
    refine z_iload_n (pc' := 12) 1 rfl rfl dX12_isRest_11 rfl ?_
    refine z_iload_n (pc' := 13) 3 rfl rfl dX12_isRest_12 rfl ?_
    refine z_iload (pc' := 15) 6 rfl dX12_isRest_13 rfl ?_
    refine z_iload (pc' := 17) 5 rfl dX12_isRest_15 rfl ?_
    refine z_invV (as := [zI a0, zI a2, zI (i10 : Int), zI a4]) (st := []) (C := m_X12_gameOf) (fs := [0, 3, 0, 0, 0, 0, 4, 5, 6, 7, 8, 9, 10, 0, 0, 11, 12, 13, 14, 15, 16, 0, 0, 0, 17, 18, 19, 20, 0, 0, 0, 21, 22, 0, 0, 23, 0, 1, 24, 0, 0, 25, 26, 0, 27, 0]) (pc' := 20) dX12_isRest_17 rfl t_8_147 k_X12_gameOf rfl (by decide) rfl rfl rfl rfl (Nat.le_of_ble_eq_true rfl) ?_
    obtain ⟨r12, h⟩ := h
    refine c_M_gameOf r12 ?_
    show z_Wp m_X12_isRest _ 20 [(0, zR 0), (1, zI a0), (2, zI a1), (3, zI a2), (4, zI a3), (5, zI a4), (6, zI (i10 : Int))] [zI (F_M_gameOf w a0 a2 (i10 : Int) a4)] w _
    refine z_aload_n (pc' := 21) 0 rfl rfl dX12_isRest_20 rfl ?_
    refine z_iload_n (pc' := 22) 1 rfl rfl dX12_isRest_21 rfl ?_
    refine z_iload_n (pc' := 23) 3 rfl rfl dX12_isRest_22 rfl ?_
    refine z_iload (pc' := 25) 4 rfl dX12_isRest_23 rfl ?_
    refine z_iload (pc' := 27) 5 rfl dX12_isRest_25 rfl ?_
    refine z_invV (as := [zI a0, zI a2, zI a3, zI a4]) (st := [zI (F_M_gameOf w a0 a2 (i10 : Int) a4)]) (C := m_X12_gameOf) (fs := [0, 3, 0, 0, 0, 0, 4, 5, 6, 7, 8, 9, 10, 0, 0, 11, 12, 13, 14, 15, 16, 0, 0, 0, 17, 18, 19, 20, 0, 0, 0, 21, 22, 0, 0, 23, 0, 1, 24, 0, 0, 25, 26, 0, 27, 0]) (pc' := 30) dX12_isRest_27 rfl t_8_147 k_X12_gameOf rfl (by decide) rfl rfl rfl rfl (Nat.le_of_ble_eq_true rfl) ?_
    obtain ⟨r13, h⟩ := h
    refine c_M_gameOf r13 ?_
    show z_Wp m_X12_isRest _ 30 [(0, zR 0), (1, zI a0), (2, zI a1), (3, zI a2), (4, zI a3), (5, zI a4), (6, zI (i10 : Int))] [zI (F_M_gameOf w a0 a2 a3 a4), zI (F_M_gameOf w a0 a2 (i10 : Int) a4)] w _
    obtain ⟨r14, h⟩ := h
    obtain ⟨r15, h⟩ := h
    refine z_icmp_gt 56 dX12_isRest_30 (by decide) (pc' := 33) rfl r14 r15 (fun c6 => ?_) (fun c6 => ?_)
    · have h := h.1 c6
      rw [if_pos c6] at hE
      refine z_iconst (pc' := 57) dX12_isRest_56 rfl ?_
      refine z_zret rfl (by decide) dX12_isRest_57 ?_
      have hz := zfind_hit hf hE _ hi
      rw [hz, if_neg (by omega), Int.toNat_natCast] at k
      unfold R_M_isRest_3 at k
      rw [if_pos c6] at k
      exact k
    · have h := h.2 c6
      rw [if_neg c6] at hE
      refine z_aload_n (pc' := 34) 0 rfl rfl dX12_isRest_33 rfl ?_
      refine z_iload_n (pc' := 35) 2 rfl rfl dX12_isRest_34 rfl ?_
      refine z_iload_n (pc' := 36) 3 rfl rfl dX12_isRest_35 rfl ?_
      refine z_iload (pc' := 38) 6 rfl dX12_isRest_36 rfl ?_
      refine z_iload (pc' := 40) 4 rfl dX12_isRest_38 rfl ?_
      refine z_invV (as := [zI a1, zI a2, zI (i10 : Int), zI a3]) (st := []) (C := m_X12_gameOf) (fs := [0, 3, 0, 0, 0, 0, 4, 5, 6, 7, 8, 9, 10, 0, 0, 11, 12, 13, 14, 15, 16, 0, 0, 0, 17, 18, 19, 20, 0, 0, 0, 21, 22, 0, 0, 23, 0, 1, 24, 0, 0, 25, 26, 0, 27, 0]) (pc' := 43) dX12_isRest_40 rfl t_8_147 k_X12_gameOf rfl (by decide) rfl rfl rfl rfl (Nat.le_of_ble_eq_true rfl) ?_
      obtain ⟨r16, h⟩ := h
      refine c_M_gameOf r16 ?_
      show z_Wp m_X12_isRest _ 43 [(0, zR 0), (1, zI a0), (2, zI a1), (3, zI a2), (4, zI a3), (5, zI a4), (6, zI (i10 : Int))] [zI (F_M_gameOf w a1 a2 (i10 : Int) a3)] w _
      refine z_aload_n (pc' := 44) 0 rfl rfl dX12_isRest_43 rfl ?_
      refine z_iload_n (pc' := 45) 2 rfl rfl dX12_isRest_44 rfl ?_
      refine z_iload_n (pc' := 46) 3 rfl rfl dX12_isRest_45 rfl ?_
      refine z_iload (pc' := 48) 5 rfl dX12_isRest_46 rfl ?_
      refine z_iload (pc' := 50) 4 rfl dX12_isRest_48 rfl ?_
      refine z_invV (as := [zI a1, zI a2, zI a4, zI a3]) (st := [zI (F_M_gameOf w a1 a2 (i10 : Int) a3)]) (C := m_X12_gameOf) (fs := [0, 3, 0, 0, 0, 0, 4, 5, 6, 7, 8, 9, 10, 0, 0, 11, 12, 13, 14, 15, 16, 0, 0, 0, 17, 18, 19, 20, 0, 0, 0, 21, 22, 0, 0, 23, 0, 1, 24, 0, 0, 25, 26, 0, 27, 0]) (pc' := 53) dX12_isRest_50 rfl t_8_147 k_X12_gameOf rfl (by decide) rfl rfl rfl rfl (Nat.le_of_ble_eq_true rfl) ?_
      obtain ⟨r17, h⟩ := h
      refine c_M_gameOf r17 ?_
      show z_Wp m_X12_isRest _ 53 [(0, zR 0), (1, zI a0), (2, zI a1), (3, zI a2), (4, zI a3), (5, zI a4), (6, zI (i10 : Int))] [zI (F_M_gameOf w a1 a2 a4 a3), zI (F_M_gameOf w a1 a2 (i10 : Int) a3)] w _
      obtain ⟨r18, h⟩ := h
      have r19 := h
      refine z_icmp_le 58 dX12_isRest_53 (by decide) (pc' := 56) rfl r18 r19 (fun c7 => ?_) (fun c7 => ?_)
      · skip
        rw [if_pos c7] at hE
        refine z_iinc (pc' := 61) (ls' := [(0, zR 0), (1, zI a0), (2, zI a1), (3, zI a2), (4, zI a3), (5, zI a4), (6, zI ((i10 : Int) + 1))]) 6 rfl (by decide) rfl rfl dX12_isRest_58 rfl ?_
        refine z_goto 3 dX12_isRest_61 (by decide) ?_
        exact (ih (zfind_miss hf (by rw [hE]; decide)))
      · skip
        rw [if_neg c7] at hE
        refine z_iconst (pc' := 57) dX12_isRest_56 rfl ?_
        refine z_zret rfl (by decide) dX12_isRest_57 ?_
        have hz := zfind_hit hf hE _ hi
        rw [hz, if_neg (by omega), Int.toNat_natCast] at k
        unfold R_M_isRest_3 at k
        rw [if_neg c6] at k
        rw [if_neg c7] at k
        exact k
theorem b_M_isRest {w : z_Wd} {a0 a1 a2 a3 a4 : Int} : F_M_isRest w a0 a1 a2 a3 a4 = 0 ∨ F_M_isRest w a0 a1 a2 a3 a4 = 1 := by
  unfold F_M_isRest
  (repeat' split) <;> first | exact Or.inl rfl | exact Or.inr rfl | (unfold R_M_isRest_3; (repeat' split) <;> first | exact Or.inl rfl | exact Or.inr rfl)
def A_M_topWell_4 (w : z_Wd) (a0 : Int) : Nat → Int
  | 0 => 0
  | i10 + 1 => if a0 = 0 then if (F_M_dropsIn w (1 + (i10 : Int))) - (F_M_dropsIn w (A_M_topWell_4 w a0 i10)) ≤ 0 then A_M_topWell_4 w a0 i10 else 1 + (i10 : Int) else if (w 19 ((32 + (1 + (i10 : Int))).toNat)) - (w 19 ((32 + (A_M_topWell_4 w a0 i10)).toNat)) ≤ 0 then A_M_topWell_4 w a0 i10 else 1 + (i10 : Int)
def P_M_topWell (w : z_Wd) (a0 : Int) : Prop := (∀ i10 : Nat, i10 < (((w 0 28) - 1).toNat) → (-2147483648 ≤ 1 + (i10 : Int) ∧ 1 + (i10 : Int) < 2147483648) ∧ (-2147483648 ≤ w 0 28 ∧ w 0 28 < 2147483648) ∧ (-2147483648 ≤ a0 ∧ a0 < 2147483648) ∧ ((a0 = 0 → (P_M_dropsIn w (1 + (i10 : Int))) ∧ (P_M_dropsIn w (A_M_topWell_4 w a0 i10)) ∧ (-2147483648 ≤ (F_M_dropsIn w (1 + (i10 : Int))) - (F_M_dropsIn w (A_M_topWell_4 w a0 i10)) ∧ (F_M_dropsIn w (1 + (i10 : Int))) - (F_M_dropsIn w (A_M_topWell_4 w a0 i10)) < 2147483648)) ∧ (¬ (a0 = 0) → (0 ≤ 32 + (1 + (i10 : Int)) ∧ 32 + (1 + (i10 : Int)) < 160) ∧ (0 ≤ 32 + (A_M_topWell_4 w a0 i10) ∧ 32 + (A_M_topWell_4 w a0 i10) < 160) ∧ (-2147483648 ≤ (w 19 ((32 + (1 + (i10 : Int))).toNat)) - (w 19 ((32 + (A_M_topWell_4 w a0 i10)).toNat)) ∧ (w 19 ((32 + (1 + (i10 : Int))).toNat)) - (w 19 ((32 + (A_M_topWell_4 w a0 i10)).toNat)) < 2147483648)))) ∧ ((-2147483648 ≤ 1 + ((((w 0 28) - 1).toNat : Nat) : Int) ∧ 1 + ((((w 0 28) - 1).toNat : Nat) : Int) < 2147483648) ∧ (-2147483648 ≤ w 0 28 ∧ w 0 28 < 2147483648))
def F_M_topWell (w : z_Wd) (a0 : Int) : Int := A_M_topWell_4 w a0 ((w 0 28) - 1).toNat
set_option maxRecDepth 4000 in
theorem c_M_topWell {d : Nat} {w : z_Wd} {a0 : Int} {Q : Option z_V → z_Wd → Prop} (h : P_M_topWell w a0) (k : Q (some (zI (F_M_topWell w a0))) w) : z_Wc (d + 3) m_X12_topWell [zR 0, zI a0] w Q := by
  unfold P_M_topWell at h
  unfold F_M_topWell at k
  refine z_enter rfl (Nat.le_of_ble_eq_true rfl) ?_
  show z_Wp m_X12_topWell _ 0 [(0, zR 0), (1, zI a0)] [] w _
  refine z_iconst (pc' := 1) dX12_topWell_0 rfl ?_
  refine z_istore_n (pc' := 2) (ls' := [(0, zR 0), (1, zI a0), (2, zI 0)]) rfl (by decide) rfl rfl dX12_topWell_1 rfl ?_
  refine z_iconst (pc' := 3) dX12_topWell_2 rfl ?_
  refine z_istore_n (pc' := 4) (ls' := [(0, zR 0), (1, zI a0), (2, zI 0), (3, zI 1)]) rfl (by decide) rfl rfl dX12_topWell_3 rfl ?_
  refine z_upto (((w 0 28) - 1).toNat) (fun i10 => z_Wp m_X12_topWell (d + 3) 4 [(0, zR 0), (1, zI a0), (2, zI (A_M_topWell_4 w a0 i10)), (3, zI (1 + (i10 : Int)))] [] w Q) ?_ ?_
  · skip
    have h := h.2
    refine z_iload_n (pc' := 5) 3 rfl rfl dX12_topWell_4 rfl ?_
    refine z_aload_n (pc' := 6) 0 rfl rfl dX12_topWell_5 rfl ?_
    refine z_getI2 (v := w 0 28) (pc' := 9) g_X12_257 (by decide) rfl rfl rfl dX12_topWell_6 rfl ?_
    obtain ⟨r20, h⟩ := h
    have r21 := h
    refine z_icmp_ge 68 dX12_topWell_9 (by decide) (pc' := 12) rfl r20 r21 (fun _ => ?_) (fun c => absurd c (by omega))
    refine z_iload_n (pc' := 69) 2 rfl rfl dX12_topWell_68 rfl ?_
    refine z_iret rfl dX12_topWell_69 ?_
    exact k
  · intro i10 hi ih
    have h := h.1 i10 hi
    have ih : z_Wp m_X12_topWell (d + 3) 4 [(0, zR 0), (1, zI a0), (2, zI (if a0 = 0 then if (F_M_dropsIn w (1 + (i10 : Int))) - (F_M_dropsIn w (A_M_topWell_4 w a0 i10)) ≤ 0 then A_M_topWell_4 w a0 i10 else 1 + (i10 : Int) else if (w 19 ((32 + (1 + (i10 : Int))).toNat)) - (w 19 ((32 + (A_M_topWell_4 w a0 i10)).toNat)) ≤ 0 then A_M_topWell_4 w a0 i10 else 1 + (i10 : Int))), (3, zI (1 + ((i10 + 1 : Nat) : Int)))] [] w Q := ih
    refine z_iload_n (pc' := 5) 3 rfl rfl dX12_topWell_4 rfl ?_
    refine z_aload_n (pc' := 6) 0 rfl rfl dX12_topWell_5 rfl ?_
    refine z_getI2 (v := w 0 28) (pc' := 9) g_X12_257 (by decide) rfl rfl rfl dX12_topWell_6 rfl ?_
    obtain ⟨r11, h⟩ := h
    obtain ⟨r12, h⟩ := h
    refine z_icmp_ge 68 dX12_topWell_9 (by decide) (pc' := 12) rfl r11 r12 (fun c => absurd c (by omega)) (fun _ => ?_)
    refine z_iload_n (pc' := 13) 1 rfl rfl dX12_topWell_12 rfl ?_
    obtain ⟨r13, h⟩ := h
    refine z_if_eq 38 dX12_topWell_13 (by decide) (pc' := 16) rfl r13 (fun c8 => ?_) (fun c8 => ?_)
    · have h := h.1 c8
      rw [if_pos c8] at ih
      refine z_aload_n (pc' := 39) 0 rfl rfl dX12_topWell_38 rfl ?_
      refine z_iload_n (pc' := 40) 3 rfl rfl dX12_topWell_39 rfl ?_
      refine z_invV (as := [zI (1 + (i10 : Int))]) (st := []) (C := m_X12_dropsIn) (fs := [0, 3, 0, 0, 0, 0, 4, 5, 6, 7, 8, 9, 10, 0, 0, 11, 12, 13, 14, 15, 16, 0, 0, 0, 17, 18, 19, 20, 0, 0, 0, 21, 22, 0, 0, 23, 0, 1, 24, 0, 0, 25, 26, 0, 27, 0]) (pc' := 43) dX12_topWell_40 rfl t_7_199 k_X12_dropsIn rfl (by decide) rfl rfl rfl rfl (Nat.le_of_ble_eq_true rfl) ?_
      obtain ⟨r14, h⟩ := h
      refine c_M_dropsIn r14 ?_
      show z_Wp m_X12_topWell _ 43 [(0, zR 0), (1, zI a0), (2, zI (A_M_topWell_4 w a0 i10)), (3, zI (1 + (i10 : Int)))] [zI (F_M_dropsIn w (1 + (i10 : Int)))] w _
      refine z_aload_n (pc' := 44) 0 rfl rfl dX12_topWell_43 rfl ?_
      refine z_iload_n (pc' := 45) 2 rfl rfl dX12_topWell_44 rfl ?_
      refine z_invV (as := [zI (A_M_topWell_4 w a0 i10)]) (st := [zI (F_M_dropsIn w (1 + (i10 : Int)))]) (C := m_X12_dropsIn) (fs := [0, 3, 0, 0, 0, 0, 4, 5, 6, 7, 8, 9, 10, 0, 0, 11, 12, 13, 14, 15, 16, 0, 0, 0, 17, 18, 19, 20, 0, 0, 0, 21, 22, 0, 0, 23, 0, 1, 24, 0, 0, 25, 26, 0, 27, 0]) (pc' := 48) dX12_topWell_45 rfl t_7_199 k_X12_dropsIn rfl (by decide) rfl rfl rfl rfl (Nat.le_of_ble_eq_true rfl) ?_
      obtain ⟨r15, h⟩ := h
      refine c_M_dropsIn r15 ?_
      show z_Wp m_X12_topWell _ 48 [(0, zR 0), (1, zI a0), (2, zI (A_M_topWell_4 w a0 i10)), (3, zI (1 + (i10 : Int)))] [zI (F_M_dropsIn w (A_M_topWell_4 w a0 i10)), zI (F_M_dropsIn w (1 + (i10 : Int)))] w _
      refine z_isub (pc' := 49) dX12_topWell_48 rfl ?_
      refine z_istore (pc' := 51) (ls' := [(0, zR 0), (1, zI a0), (2, zI (A_M_topWell_4 w a0 i10)), (3, zI (1 + (i10 : Int))), (4, zI ((F_M_dropsIn w (1 + (i10 : Int))) - (F_M_dropsIn w (A_M_topWell_4 w a0 i10))))]) (by decide) rfl rfl dX12_topWell_49 rfl ?_
      refine z_iload (pc' := 53) 4 rfl dX12_topWell_51 rfl ?_
      have r16 := h
      refine z_if_le 60 dX12_topWell_53 (by decide) (pc' := 56) rfl r16 (fun c9 => ?_) (fun c9 => ?_)
      · skip
        rw [if_pos c9] at ih
        refine z_iload_n (pc' := 61) 2 rfl rfl dX12_topWell_60 rfl ?_
        refine z_istore_n (pc' := 62) (ls' := [(0, zR 0), (1, zI a0), (2, zI (A_M_topWell_4 w a0 i10)), (3, zI (1 + (i10 : Int))), (4, zI ((F_M_dropsIn w (1 + (i10 : Int))) - (F_M_dropsIn w (A_M_topWell_4 w a0 i10))))]) rfl (by decide) rfl rfl dX12_topWell_61 rfl ?_
        refine z_iinc (pc' := 65) (ls' := [(0, zR 0), (1, zI a0), (2, zI (A_M_topWell_4 w a0 i10)), (3, zI ((1 + (i10 : Int)) + 1)), (4, zI ((F_M_dropsIn w (1 + (i10 : Int))) - (F_M_dropsIn w (A_M_topWell_4 w a0 i10))))]) 3 rfl (by decide) rfl rfl dX12_topWell_62 rfl ?_
        refine z_goto 4 dX12_topWell_65 (by decide) ?_
        exact z_Wp.sub (ls' := [(0, zR 0), (1, zI a0), (2, zI (A_M_topWell_4 w a0 i10)), (3, zI ((1 + (i10 : Int)) + 1))]) (z_lcast (by rw [z_ci]) ih) (z_sub_of [0, 1, 2, 3] rfl)
      · skip
        rw [if_neg c9] at ih
        refine z_iload_n (pc' := 57) 3 rfl rfl dX12_topWell_56 rfl ?_
        refine z_goto 61 dX12_topWell_57 (by decide) ?_
        refine z_istore_n (pc' := 62) (ls' := [(0, zR 0), (1, zI a0), (2, zI (1 + (i10 : Int))), (3, zI (1 + (i10 : Int))), (4, zI ((F_M_dropsIn w (1 + (i10 : Int))) - (F_M_dropsIn w (A_M_topWell_4 w a0 i10))))]) rfl (by decide) rfl rfl dX12_topWell_61 rfl ?_
        refine z_iinc (pc' := 65) (ls' := [(0, zR 0), (1, zI a0), (2, zI (1 + (i10 : Int))), (3, zI ((1 + (i10 : Int)) + 1)), (4, zI ((F_M_dropsIn w (1 + (i10 : Int))) - (F_M_dropsIn w (A_M_topWell_4 w a0 i10))))]) 3 rfl (by decide) rfl rfl dX12_topWell_62 rfl ?_
        refine z_goto 4 dX12_topWell_65 (by decide) ?_
        exact z_Wp.sub (ls' := [(0, zR 0), (1, zI a0), (2, zI (1 + (i10 : Int))), (3, zI ((1 + (i10 : Int)) + 1))]) (z_lcast (by rw [z_ci]) ih) (z_sub_of [0, 1, 2, 3] rfl)
    · have h := h.2 c8
      rw [if_neg c8] at ih
      refine z_aload_n (pc' := 17) 0 rfl rfl dX12_topWell_16 rfl ?_
      refine z_getR (t := 19) (pc' := 20) g_X12_64 (by decide) rfl rfl dX12_topWell_17 rfl ?_
      refine z_bipush (pc' := 22) (by decide) dX12_topWell_20 rfl ?_
      refine z_iload_n (pc' := 23) 3 rfl rfl dX12_topWell_22 rfl ?_
      refine z_iadd (pc' := 24) dX12_topWell_23 rfl ?_
      obtain ⟨r17, h⟩ := h
      refine z_iald2 (v := w 19 ((32 + (1 + (i10 : Int))).toNat)) (pc' := 25) (by decide) rfl r17 (by decide) rfl dX12_topWell_24 rfl ?_
      refine z_aload_n (pc' := 26) 0 rfl rfl dX12_topWell_25 rfl ?_
      refine z_getR (t := 19) (pc' := 29) g_X12_64 (by decide) rfl rfl dX12_topWell_26 rfl ?_
      refine z_bipush (pc' := 31) (by decide) dX12_topWell_29 rfl ?_
      refine z_iload_n (pc' := 32) 2 rfl rfl dX12_topWell_31 rfl ?_
      refine z_iadd (pc' := 33) dX12_topWell_32 rfl ?_
      obtain ⟨r18, h⟩ := h
      refine z_iald2 (v := w 19 ((32 + (A_M_topWell_4 w a0 i10)).toNat)) (pc' := 34) (by decide) rfl r18 (by decide) rfl dX12_topWell_33 rfl ?_
      refine z_isub (pc' := 35) dX12_topWell_34 rfl ?_
      refine z_goto 49 dX12_topWell_35 (by decide) ?_
      refine z_istore (pc' := 51) (ls' := [(0, zR 0), (1, zI a0), (2, zI (A_M_topWell_4 w a0 i10)), (3, zI (1 + (i10 : Int))), (4, zI ((w 19 ((32 + (1 + (i10 : Int))).toNat)) - (w 19 ((32 + (A_M_topWell_4 w a0 i10)).toNat))))]) (by decide) rfl rfl dX12_topWell_49 rfl ?_
      refine z_iload (pc' := 53) 4 rfl dX12_topWell_51 rfl ?_
      have r19 := h
      refine z_if_le 60 dX12_topWell_53 (by decide) (pc' := 56) rfl r19 (fun c10 => ?_) (fun c10 => ?_)
      · skip
        rw [if_pos c10] at ih
        refine z_iload_n (pc' := 61) 2 rfl rfl dX12_topWell_60 rfl ?_
        refine z_istore_n (pc' := 62) (ls' := [(0, zR 0), (1, zI a0), (2, zI (A_M_topWell_4 w a0 i10)), (3, zI (1 + (i10 : Int))), (4, zI ((w 19 ((32 + (1 + (i10 : Int))).toNat)) - (w 19 ((32 + (A_M_topWell_4 w a0 i10)).toNat))))]) rfl (by decide) rfl rfl dX12_topWell_61 rfl ?_
        refine z_iinc (pc' := 65) (ls' := [(0, zR 0), (1, zI a0), (2, zI (A_M_topWell_4 w a0 i10)), (3, zI ((1 + (i10 : Int)) + 1)), (4, zI ((w 19 ((32 + (1 + (i10 : Int))).toNat)) - (w 19 ((32 + (A_M_topWell_4 w a0 i10)).toNat))))]) 3 rfl (by decide) rfl rfl dX12_topWell_62 rfl ?_
        refine z_goto 4 dX12_topWell_65 (by decide) ?_
        exact z_Wp.sub (ls' := [(0, zR 0), (1, zI a0), (2, zI (A_M_topWell_4 w a0 i10)), (3, zI ((1 + (i10 : Int)) + 1))]) (z_lcast (by rw [z_ci]) ih) (z_sub_of [0, 1, 2, 3] rfl)
      · skip
        rw [if_neg c10] at ih
        refine z_iload_n (pc' := 57) 3 rfl rfl dX12_topWell_56 rfl ?_
        refine z_goto 61 dX12_topWell_57 (by decide) ?_
        refine z_istore_n (pc' := 62) (ls' := [(0, zR 0), (1, zI a0), (2, zI (1 + (i10 : Int))), (3, zI (1 + (i10 : Int))), (4, zI ((w 19 ((32 + (1 + (i10 : Int))).toNat)) - (w 19 ((32 + (A_M_topWell_4 w a0 i10)).toNat))))]) rfl (by decide) rfl rfl dX12_topWell_61 rfl ?_
        refine z_iinc (pc' := 65) (ls' := [(0, zR 0), (1, zI a0), (2, zI (1 + (i10 : Int))), (3, zI ((1 + (i10 : Int)) + 1)), (4, zI ((w 19 ((32 + (1 + (i10 : Int))).toNat)) - (w 19 ((32 + (A_M_topWell_4 w a0 i10)).toNat))))]) 3 rfl (by decide) rfl rfl dX12_topWell_62 rfl ?_
        refine z_goto 4 dX12_topWell_65 (by decide) ?_
        exact z_Wp.sub (ls' := [(0, zR 0), (1, zI a0), (2, zI (1 + (i10 : Int))), (3, zI ((1 + (i10 : Int)) + 1))]) (z_lcast (by rw [z_ci]) ih) (z_sub_of [0, 1, 2, 3] rfl)
def A_M_shares_26 (w : z_Wd) (a0 : Int) (a1 : Int) : Nat → Int
  | 0 => 0
  | i10 + 1 => (A_M_shares_26 w a0 a1 i10) + (F_M_dropsIn w (i10 : Int))
def P_M_shares (w : z_Wd) (a0 : Int) (a1 : Int) : Prop := (P_M_in w a0 0 ((w 0 28) - 1)) ∧ ((F_M_in w a0 0 ((w 0 28) - 1) = 0 → True) ∧ (¬ (F_M_in w a0 0 ((w 0 28) - 1) = 0) → (P_M_in w a1 0 999) ∧ ((F_M_in w a1 0 999 = 0 → True) ∧ (¬ (F_M_in w a1 0 999 = 0) → (∀ i10 : Nat, i10 < ((w 0 28).toNat) → (-2147483648 ≤ (i10 : Int) ∧ (i10 : Int) < 2147483648) ∧ (-2147483648 ≤ w 0 28 ∧ w 0 28 < 2147483648) ∧ (P_M_dropsIn w (i10 : Int))) ∧ ((-2147483648 ≤ (((w 0 28).toNat : Nat) : Int) ∧ (((w 0 28).toNat : Nat) : Int) < 2147483648) ∧ (-2147483648 ≤ w 0 28 ∧ w 0 28 < 2147483648) ∧ (-2147483648 ≤ A_M_shares_26 w a0 a1 (w 0 28).toNat ∧ A_M_shares_26 w a0 a1 (w 0 28).toNat < 2147483648) ∧ ((A_M_shares_26 w a0 a1 (w 0 28).toNat = 0 → True) ∧ (¬ (A_M_shares_26 w a0 a1 (w 0 28).toNat = 0) → (P_M_dropsIn w a0) ∧ ((A_M_shares_26 w a0 a1 (w 0 28).toNat) ≠ 0) ∧ (-2147483648 ≤ a1 * (F_M_dropsIn w a0) ∧ a1 * (F_M_dropsIn w a0) < 2147483648))))))))
def F_M_shares (w : z_Wd) (a0 : Int) (a1 : Int) : Int := if F_M_in w a0 0 ((w 0 28) - 1) = 0 then (-1) else if F_M_in w a1 0 999 = 0 then (-1) else if A_M_shares_26 w a0 a1 (w 0 28).toNat = 0 then 0 else Int.tdiv (a1 * (F_M_dropsIn w a0)) (A_M_shares_26 w a0 a1 (w 0 28).toNat)
set_option maxRecDepth 4000 in
theorem c_M_shares {d : Nat} {w : z_Wd} {a0 a1 : Int} {Q : Option z_V → z_Wd → Prop} (h : P_M_shares w a0 a1) (k : Q (some (zI (F_M_shares w a0 a1))) w) : z_Wc (d + 3) m_X12_shares [zR 0, zI a0, zI a1] w Q := by
  unfold P_M_shares at h
  unfold F_M_shares at k
  refine z_enter rfl (Nat.le_of_ble_eq_true rfl) ?_
  show z_Wp m_X12_shares _ 0 [(0, zR 0), (1, zI a0), (2, zI a1)] [] w _
  refine z_aload_n (pc' := 1) 0 rfl rfl dX12_shares_0 rfl ?_
  refine z_iload_n (pc' := 2) 1 rfl rfl dX12_shares_1 rfl ?_
  refine z_invV (as := [zI a0]) (st := []) (C := m_X12_isWell) (fs := [0, 3, 0, 0, 0, 0, 4, 5, 6, 7, 8, 9, 10, 0, 0, 11, 12, 13, 14, 15, 16, 0, 0, 0, 17, 18, 19, 20, 0, 0, 0, 21, 22, 0, 0, 23, 0, 1, 24, 0, 0, 25, 26, 0, 27, 0]) (pc' := 5) dX12_shares_2 rfl t_7_191 k_X12_isWell rfl (by decide) rfl rfl rfl rfl (Nat.le_of_ble_eq_true rfl) ?_
  obtain ⟨r1, h⟩ := h
  refine c_M_isWell r1 ?_
  show z_Wp m_X12_shares _ 5 [(0, zR 0), (1, zI a0), (2, zI a1)] [zI (F_M_in w a0 0 ((w 0 28) - 1))] w _
  refine z_if_eq 19 dX12_shares_5 (by decide) (pc' := 8) rfl (z_rb b_M_in) (fun c => ?_) (fun c => ?_)
  · have h := h.1 c
    rw [if_pos c] at k
    refine z_iconst (pc' := 20) dX12_shares_19 rfl ?_
    refine z_iret rfl dX12_shares_20 ?_
    exact k
  · have h := h.2 c
    rw [if_neg c] at k
    refine z_iload_n (pc' := 9) 2 rfl rfl dX12_shares_8 rfl ?_
    refine z_iconst (pc' := 10) dX12_shares_9 rfl ?_
    refine z_sipush (pc' := 13) (by decide) dX12_shares_10 rfl ?_
    refine z_invS (as := [zI a1, zI 0, zI 999]) (st := []) (C := m_X12_in) (pc' := 16) dX12_shares_13 rfl t_7_17 k_X12_in rfl rfl (Nat.le_of_ble_eq_true rfl) ?_
    obtain ⟨r2, h⟩ := h
    refine c_M_in r2 ?_
    show z_Wp m_X12_shares _ 16 [(0, zR 0), (1, zI a0), (2, zI a1)] [zI (F_M_in w a1 0 999)] w _
    refine z_if_ne 21 dX12_shares_16 (by decide) (pc' := 19) rfl (z_rb b_M_in) (fun c => ?_) (fun c => ?_)
    · have h := h.2 c
      rw [if_neg c] at k
      refine z_iconst (pc' := 22) dX12_shares_21 rfl ?_
      refine z_istore_n (pc' := 23) (ls' := [(0, zR 0), (1, zI a0), (2, zI a1), (3, zI 0)]) rfl (by decide) rfl rfl dX12_shares_22 rfl ?_
      refine z_iconst (pc' := 24) dX12_shares_23 rfl ?_
      refine z_istore (pc' := 26) (ls' := [(0, zR 0), (1, zI a0), (2, zI a1), (3, zI 0), (4, zI 0)]) (by decide) rfl rfl dX12_shares_24 rfl ?_
      refine z_upto ((w 0 28).toNat) (fun i10 => z_Wp m_X12_shares (d + 3) 26 [(0, zR 0), (1, zI a0), (2, zI a1), (3, zI (A_M_shares_26 w a0 a1 i10)), (4, zI (i10 : Int))] [] w Q) ?_ ?_
      · skip
        have h := h.2
        refine z_iload (pc' := 28) 4 rfl dX12_shares_26 rfl ?_
        refine z_aload_n (pc' := 29) 0 rfl rfl dX12_shares_28 rfl ?_
        refine z_getI2 (v := w 0 28) (pc' := 32) g_X12_257 (by decide) rfl rfl rfl dX12_shares_29 rfl ?_
        obtain ⟨r14, h⟩ := h
        obtain ⟨r15, h⟩ := h
        refine z_icmp_ge 50 dX12_shares_32 (by decide) (pc' := 35) rfl r14 r15 (fun _ => ?_) (fun c => absurd c (by omega))
        refine z_iload_n (pc' := 51) 3 rfl rfl dX12_shares_50 rfl ?_
        obtain ⟨r16, h⟩ := h
        refine z_if_ne 58 dX12_shares_51 (by decide) (pc' := 54) rfl r16 (fun c => ?_) (fun c => ?_)
        · have h := h.2 c
          rw [if_neg c] at k
          refine z_iload_n (pc' := 59) 2 rfl rfl dX12_shares_58 rfl ?_
          refine z_aload_n (pc' := 60) 0 rfl rfl dX12_shares_59 rfl ?_
          refine z_iload_n (pc' := 61) 1 rfl rfl dX12_shares_60 rfl ?_
          refine z_invV (as := [zI a0]) (st := [zI a1]) (C := m_X12_dropsIn) (fs := [0, 3, 0, 0, 0, 0, 4, 5, 6, 7, 8, 9, 10, 0, 0, 11, 12, 13, 14, 15, 16, 0, 0, 0, 17, 18, 19, 20, 0, 0, 0, 21, 22, 0, 0, 23, 0, 1, 24, 0, 0, 25, 26, 0, 27, 0]) (pc' := 64) dX12_shares_61 rfl t_7_199 k_X12_dropsIn rfl (by decide) rfl rfl rfl rfl (Nat.le_of_ble_eq_true rfl) ?_
          obtain ⟨r17, h⟩ := h
          refine c_M_dropsIn r17 ?_
          show z_Wp m_X12_shares _ 64 [(0, zR 0), (1, zI a0), (2, zI a1), (3, zI (A_M_shares_26 w a0 a1 (w 0 28).toNat)), (4, zI (((w 0 28).toNat : Nat) : Int))] [zI (F_M_dropsIn w a0), zI a1] w _
          refine z_imul (pc' := 65) dX12_shares_64 rfl ?_
          refine z_iload_n (pc' := 66) 3 rfl rfl dX12_shares_65 rfl ?_
          obtain ⟨r18, h⟩ := h
          have r19 := h
          refine z_idiv (pc' := 67) r19 r16 r18 dX12_shares_66 rfl ?_
          refine z_iret rfl dX12_shares_67 ?_
          exact k
        · have h := h.1 c
          rw [if_pos c] at k
          refine z_iconst (pc' := 55) dX12_shares_54 rfl ?_
          refine z_goto 67 dX12_shares_55 (by decide) ?_
          refine z_iret rfl dX12_shares_67 ?_
          exact k
      · intro i10 hi ih
        have h := h.1 i10 hi
        have ih : z_Wp m_X12_shares (d + 3) 26 [(0, zR 0), (1, zI a0), (2, zI a1), (3, zI ((A_M_shares_26 w a0 a1 i10) + (F_M_dropsIn w (i10 : Int)))), (4, zI ((i10 + 1 : Nat) : Int))] [] w Q := ih
        refine z_iload (pc' := 28) 4 rfl dX12_shares_26 rfl ?_
        refine z_aload_n (pc' := 29) 0 rfl rfl dX12_shares_28 rfl ?_
        refine z_getI2 (v := w 0 28) (pc' := 32) g_X12_257 (by decide) rfl rfl rfl dX12_shares_29 rfl ?_
        obtain ⟨r11, h⟩ := h
        obtain ⟨r12, h⟩ := h
        refine z_icmp_ge 50 dX12_shares_32 (by decide) (pc' := 35) rfl r11 r12 (fun c => absurd c (by omega)) (fun _ => ?_)
        refine z_iload_n (pc' := 36) 3 rfl rfl dX12_shares_35 rfl ?_
        refine z_aload_n (pc' := 37) 0 rfl rfl dX12_shares_36 rfl ?_
        refine z_iload (pc' := 39) 4 rfl dX12_shares_37 rfl ?_
        refine z_invV (as := [zI (i10 : Int)]) (st := [zI (A_M_shares_26 w a0 a1 i10)]) (C := m_X12_dropsIn) (fs := [0, 3, 0, 0, 0, 0, 4, 5, 6, 7, 8, 9, 10, 0, 0, 11, 12, 13, 14, 15, 16, 0, 0, 0, 17, 18, 19, 20, 0, 0, 0, 21, 22, 0, 0, 23, 0, 1, 24, 0, 0, 25, 26, 0, 27, 0]) (pc' := 42) dX12_shares_39 rfl t_7_199 k_X12_dropsIn rfl (by decide) rfl rfl rfl rfl (Nat.le_of_ble_eq_true rfl) ?_
        have r13 := h
        refine c_M_dropsIn r13 ?_
        show z_Wp m_X12_shares _ 42 [(0, zR 0), (1, zI a0), (2, zI a1), (3, zI (A_M_shares_26 w a0 a1 i10)), (4, zI (i10 : Int))] [zI (F_M_dropsIn w (i10 : Int)), zI (A_M_shares_26 w a0 a1 i10)] w _
        refine z_iadd (pc' := 43) dX12_shares_42 rfl ?_
        refine z_istore_n (pc' := 44) (ls' := [(0, zR 0), (1, zI a0), (2, zI a1), (3, zI ((A_M_shares_26 w a0 a1 i10) + (F_M_dropsIn w (i10 : Int)))), (4, zI (i10 : Int))]) rfl (by decide) rfl rfl dX12_shares_43 rfl ?_
        refine z_iinc (pc' := 47) (ls' := [(0, zR 0), (1, zI a0), (2, zI a1), (3, zI ((A_M_shares_26 w a0 a1 i10) + (F_M_dropsIn w (i10 : Int)))), (4, zI ((i10 : Int) + 1))]) 4 rfl (by decide) rfl rfl dX12_shares_44 rfl ?_
        refine z_goto 26 dX12_shares_47 (by decide) ?_
        exact ih
    · have h := h.1 c
      rw [if_pos c] at k
      refine z_iconst (pc' := 20) dX12_shares_19 rfl ?_
      refine z_iret rfl dX12_shares_20 ?_
      exact k
def A_M_longest_4 (w : z_Wd)  : Nat → Int
  | 0 => 0
  | i7 + 1 => if w 17 ((3 * (1 + (i7 : Int))).toNat) ≤ w 17 ((3 * (A_M_longest_4 w i7)).toNat) then A_M_longest_4 w i7 else 1 + (i7 : Int)
def P_M_longest (w : z_Wd)  : Prop := (∀ i7 : Nat, i7 < (((w 0 29) - 1).toNat) → (-2147483648 ≤ 1 + (i7 : Int) ∧ 1 + (i7 : Int) < 2147483648) ∧ (-2147483648 ≤ w 0 29 ∧ w 0 29 < 2147483648) ∧ (0 ≤ (3 * (1 + (i7 : Int))) + 0 ∧ (3 * (1 + (i7 : Int))) + 0 < 21) ∧ (0 ≤ (3 * (A_M_longest_4 w i7)) + 0 ∧ (3 * (A_M_longest_4 w i7)) + 0 < 21) ∧ (-2147483648 ≤ w 17 ((3 * (1 + (i7 : Int))).toNat) ∧ w 17 ((3 * (1 + (i7 : Int))).toNat) < 2147483648) ∧ (-2147483648 ≤ w 17 ((3 * (A_M_longest_4 w i7)).toNat) ∧ w 17 ((3 * (A_M_longest_4 w i7)).toNat) < 2147483648)) ∧ ((-2147483648 ≤ 1 + ((((w 0 29) - 1).toNat : Nat) : Int) ∧ 1 + ((((w 0 29) - 1).toNat : Nat) : Int) < 2147483648) ∧ (-2147483648 ≤ w 0 29 ∧ w 0 29 < 2147483648))
def F_M_longest (w : z_Wd)  : Int := A_M_longest_4 w ((w 0 29) - 1).toNat
set_option maxRecDepth 4000 in
theorem c_M_longest {d : Nat} {w : z_Wd} {Q : Option z_V → z_Wd → Prop} (h : P_M_longest w ) (k : Q (some (zI (F_M_longest w ))) w) : z_Wc (d + 1) m_X12_longest [zR 0] w Q := by
  unfold P_M_longest at h
  unfold F_M_longest at k
  refine z_enter rfl (Nat.le_of_ble_eq_true rfl) ?_
  show z_Wp m_X12_longest _ 0 [(0, zR 0)] [] w _
  refine z_iconst (pc' := 1) dX12_longest_0 rfl ?_
  refine z_istore_n (pc' := 2) (ls' := [(0, zR 0), (1, zI 0)]) rfl (by decide) rfl rfl dX12_longest_1 rfl ?_
  refine z_iconst (pc' := 3) dX12_longest_2 rfl ?_
  refine z_istore_n (pc' := 4) (ls' := [(0, zR 0), (1, zI 0), (2, zI 1)]) rfl (by decide) rfl rfl dX12_longest_3 rfl ?_
  refine z_upto (((w 0 29) - 1).toNat) (fun i7 => z_Wp m_X12_longest (d + 1) 4 [(0, zR 0), (1, zI (A_M_longest_4 w i7)), (2, zI (1 + (i7 : Int)))] [] w Q) ?_ ?_
  · skip
    have h := h.2
    refine z_iload_n (pc' := 5) 2 rfl rfl dX12_longest_4 rfl ?_
    refine z_aload_n (pc' := 6) 0 rfl rfl dX12_longest_5 rfl ?_
    refine z_getI2 (v := w 0 29) (pc' := 9) g_X12_260 (by decide) rfl rfl rfl dX12_longest_6 rfl ?_
    obtain ⟨r14, h⟩ := h
    have r15 := h
    refine z_icmp_ge 39 dX12_longest_9 (by decide) (pc' := 12) rfl r14 r15 (fun _ => ?_) (fun c => absurd c (by omega))
    refine z_iload_n (pc' := 40) 1 rfl rfl dX12_longest_39 rfl ?_
    refine z_iret rfl dX12_longest_40 ?_
    exact k
  · intro i7 hi ih
    have h := h.1 i7 hi
    have ih : z_Wp m_X12_longest (d + 1) 4 [(0, zR 0), (1, zI (if w 17 ((3 * (1 + (i7 : Int))).toNat) ≤ w 17 ((3 * (A_M_longest_4 w i7)).toNat) then A_M_longest_4 w i7 else 1 + (i7 : Int))), (2, zI (1 + ((i7 + 1 : Nat) : Int)))] [] w Q := ih
    refine z_iload_n (pc' := 5) 2 rfl rfl dX12_longest_4 rfl ?_
    refine z_aload_n (pc' := 6) 0 rfl rfl dX12_longest_5 rfl ?_
    refine z_getI2 (v := w 0 29) (pc' := 9) g_X12_260 (by decide) rfl rfl rfl dX12_longest_6 rfl ?_
    obtain ⟨r8, h⟩ := h
    obtain ⟨r9, h⟩ := h
    refine z_icmp_ge 39 dX12_longest_9 (by decide) (pc' := 12) rfl r8 r9 (fun c => absurd c (by omega)) (fun _ => ?_)
    refine z_aload_n (pc' := 13) 0 rfl rfl dX12_longest_12 rfl ?_
    refine z_iload_n (pc' := 14) 2 rfl rfl dX12_longest_13 rfl ?_
    refine z_iconst (pc' := 15) dX12_longest_14 rfl ?_
    refine z_invV (as := [zI (1 + (i7 : Int)), zI 0]) (st := []) (C := m_X12_of) (fs := [0, 3, 0, 0, 0, 0, 4, 5, 6, 7, 8, 9, 10, 0, 0, 11, 12, 13, 14, 15, 16, 0, 0, 0, 17, 18, 19, 20, 0, 0, 0, 21, 22, 0, 0, 23, 0, 1, 24, 0, 0, 25, 26, 0, 27, 0]) (pc' := 18) dX12_longest_15 rfl t_7_138 k_X12_of rfl (by decide) rfl rfl rfl rfl (Nat.le_of_ble_eq_true rfl) ?_
    obtain ⟨r10, h⟩ := h
    refine c_M_of r10 ?_
    show z_Wp m_X12_longest _ 18 [(0, zR 0), (1, zI (A_M_longest_4 w i7)), (2, zI (1 + (i7 : Int)))] [zI (w 17 (((3 * (1 + (i7 : Int))) + 0).toNat))] w _
    refine z_eqI (y := w 17 ((3 * (1 + (i7 : Int))).toNat)) (by simp) ?_
    refine z_aload_n (pc' := 19) 0 rfl rfl dX12_longest_18 rfl ?_
    refine z_iload_n (pc' := 20) 1 rfl rfl dX12_longest_19 rfl ?_
    refine z_iconst (pc' := 21) dX12_longest_20 rfl ?_
    refine z_invV (as := [zI (A_M_longest_4 w i7), zI 0]) (st := [zI (w 17 ((3 * (1 + (i7 : Int))).toNat))]) (C := m_X12_of) (fs := [0, 3, 0, 0, 0, 0, 4, 5, 6, 7, 8, 9, 10, 0, 0, 11, 12, 13, 14, 15, 16, 0, 0, 0, 17, 18, 19, 20, 0, 0, 0, 21, 22, 0, 0, 23, 0, 1, 24, 0, 0, 25, 26, 0, 27, 0]) (pc' := 24) dX12_longest_21 rfl t_7_138 k_X12_of rfl (by decide) rfl rfl rfl rfl (Nat.le_of_ble_eq_true rfl) ?_
    obtain ⟨r11, h⟩ := h
    refine c_M_of r11 ?_
    show z_Wp m_X12_longest _ 24 [(0, zR 0), (1, zI (A_M_longest_4 w i7)), (2, zI (1 + (i7 : Int)))] [zI (w 17 (((3 * (A_M_longest_4 w i7)) + 0).toNat)), zI (w 17 ((3 * (1 + (i7 : Int))).toNat))] w _
    refine z_eqI (y := w 17 ((3 * (A_M_longest_4 w i7)).toNat)) (by simp) ?_
    obtain ⟨r12, h⟩ := h
    have r13 := h
    refine z_icmp_le 31 dX12_longest_24 (by decide) (pc' := 27) rfl r12 r13 (fun c11 => ?_) (fun c11 => ?_)
    · skip
      rw [if_pos c11] at ih
      refine z_iload_n (pc' := 32) 1 rfl rfl dX12_longest_31 rfl ?_
      refine z_istore_n (pc' := 33) (ls' := [(0, zR 0), (1, zI (A_M_longest_4 w i7)), (2, zI (1 + (i7 : Int)))]) rfl (by decide) rfl rfl dX12_longest_32 rfl ?_
      refine z_iinc (pc' := 36) (ls' := [(0, zR 0), (1, zI (A_M_longest_4 w i7)), (2, zI ((1 + (i7 : Int)) + 1))]) 2 rfl (by decide) rfl rfl dX12_longest_33 rfl ?_
      refine z_goto 4 dX12_longest_36 (by decide) ?_
      exact (z_lcast (by rw [z_ci]) ih)
    · skip
      rw [if_neg c11] at ih
      refine z_iload_n (pc' := 28) 2 rfl rfl dX12_longest_27 rfl ?_
      refine z_goto 32 dX12_longest_28 (by decide) ?_
      refine z_istore_n (pc' := 33) (ls' := [(0, zR 0), (1, zI (1 + (i7 : Int))), (2, zI (1 + (i7 : Int)))]) rfl (by decide) rfl rfl dX12_longest_32 rfl ?_
      refine z_iinc (pc' := 36) (ls' := [(0, zR 0), (1, zI (1 + (i7 : Int))), (2, zI ((1 + (i7 : Int)) + 1))]) 2 rfl (by decide) rfl rfl dX12_longest_33 rfl ?_
      refine z_goto 4 dX12_longest_36 (by decide) ?_
      exact (z_lcast (by rw [z_ci]) ih)
def A_M_silence_45 (w : z_Wd) (i15 : Nat) (s0 : Int): Nat → Int
  | 0 => s0
  | i21 + 1 => if F_M_has w (A_M_silence_45 w i15 s0 i21) (w 17 (((3 * (i21 : Int)) + 1).toNat)) = 0 then zz_or (A_M_silence_45 w i15 s0 i21) 0 else zz_or (A_M_silence_45 w i15 s0 i21) (zz_shl 1 (i21 : Int))
def A_M_silence_34 (w : z_Wd) (a0 : Int) : Nat → Int
  | 0 => zz_or a0 (F_M_drowned w)
  | i15 + 1 => A_M_silence_45 w i15 (A_M_silence_34 w a0 i15) (w 0 29).toNat
def P_M_silence (w : z_Wd) (a0 : Int) : Prop := (-2147483648 ≤ w 0 29 ∧ w 0 29 < 2147483648) ∧ ((w 0 29 = 0 → True) ∧ (¬ (w 0 29 = 0) → (P_M_in w a0 0 ((zz_shl 1 (w 0 29)) - 1)) ∧ ((F_M_in w a0 0 ((zz_shl 1 (w 0 29)) - 1) = 0 → True) ∧ (¬ (F_M_in w a0 0 ((zz_shl 1 (w 0 29)) - 1) = 0) → (P_M_drowned w) ∧ ((∀ i15 : Nat, i15 < ((w 0 29).toNat) → (-2147483648 ≤ (i15 : Int) ∧ (i15 : Int) < 2147483648) ∧ ((∀ i21 : Nat, i21 < ((w 0 29).toNat) → (-2147483648 ≤ (i21 : Int) ∧ (i21 : Int) < 2147483648) ∧ (0 ≤ (3 * (i21 : Int)) + 1 ∧ (3 * (i21 : Int)) + 1 < 21) ∧ (P_M_has w (A_M_silence_45 w i15 (A_M_silence_34 w a0 i15) i21) (w 17 (((3 * (i21 : Int)) + 1).toNat)))) ∧ (-2147483648 ≤ (((w 0 29).toNat : Nat) : Int) ∧ (((w 0 29).toNat : Nat) : Int) < 2147483648))) ∧ (-2147483648 ≤ (((w 0 29).toNat : Nat) : Int) ∧ (((w 0 29).toNat : Nat) : Int) < 2147483648))))))
def F_M_silence (w : z_Wd) (a0 : Int) : Int := if w 0 29 = 0 then (-1) else if F_M_in w a0 0 ((zz_shl 1 (w 0 29)) - 1) = 0 then (-1) else A_M_silence_34 w a0 (w 0 29).toNat
set_option maxRecDepth 4000 in
theorem c_M_silence {d : Nat} {w : z_Wd} {a0 : Int} {Q : Option z_V → z_Wd → Prop} (h : P_M_silence w a0) (k : Q (some (zI (F_M_silence w a0))) w) : z_Wc (d + 5) m_X12_silence [zR 0, zI a0] w Q := by
  unfold P_M_silence at h
  unfold F_M_silence at k
  refine z_enter rfl (Nat.le_of_ble_eq_true rfl) ?_
  show z_Wp m_X12_silence _ 0 [(0, zR 0), (1, zI a0)] [] w _
  refine z_aload_n (pc' := 1) 0 rfl rfl dX12_silence_0 rfl ?_
  refine z_getI2 (v := w 0 29) (pc' := 4) g_X12_260 (by decide) rfl rfl rfl dX12_silence_1 rfl ?_
  obtain ⟨r1, h⟩ := h
  refine z_if_eq 23 dX12_silence_4 (by decide) (pc' := 7) rfl r1 (fun c => ?_) (fun c => ?_)
  · have h := h.1 c
    rw [if_pos c] at k
    refine z_iconst (pc' := 24) dX12_silence_23 rfl ?_
    refine z_iret rfl dX12_silence_24 ?_
    exact k
  · have h := h.2 c
    rw [if_neg c] at k
    refine z_iload_n (pc' := 8) 1 rfl rfl dX12_silence_7 rfl ?_
    refine z_iconst (pc' := 9) dX12_silence_8 rfl ?_
    refine z_iconst (pc' := 10) dX12_silence_9 rfl ?_
    refine z_aload_n (pc' := 11) 0 rfl rfl dX12_silence_10 rfl ?_
    refine z_getI2 (v := w 0 29) (pc' := 14) g_X12_260 (by decide) rfl rfl rfl dX12_silence_11 rfl ?_
    refine z_ishl (pc' := 15) dX12_silence_14 rfl ?_
    refine z_iconst (pc' := 16) dX12_silence_15 rfl ?_
    refine z_isub (pc' := 17) dX12_silence_16 rfl ?_
    refine z_invS (as := [zI a0, zI 0, zI ((zz_shl 1 (w 0 29)) - 1)]) (st := []) (C := m_X12_in) (pc' := 20) dX12_silence_17 rfl t_7_17 k_X12_in rfl rfl (Nat.le_of_ble_eq_true rfl) ?_
    obtain ⟨r2, h⟩ := h
    refine c_M_in r2 ?_
    show z_Wp m_X12_silence _ 20 [(0, zR 0), (1, zI a0)] [zI (F_M_in w a0 0 ((zz_shl 1 (w 0 29)) - 1))] w _
    refine z_if_ne 25 dX12_silence_20 (by decide) (pc' := 23) rfl (z_rb b_M_in) (fun c => ?_) (fun c => ?_)
    · have h := h.2 c
      rw [if_neg c] at k
      refine z_iload_n (pc' := 26) 1 rfl rfl dX12_silence_25 rfl ?_
      refine z_aload_n (pc' := 27) 0 rfl rfl dX12_silence_26 rfl ?_
      refine z_invV (as := []) (st := [zI a0]) (C := m_X12_drowned) (fs := [0, 3, 0, 0, 0, 0, 4, 5, 6, 7, 8, 9, 10, 0, 0, 11, 12, 13, 14, 15, 16, 0, 0, 0, 17, 18, 19, 20, 0, 0, 0, 21, 22, 0, 0, 23, 0, 1, 24, 0, 0, 25, 26, 0, 27, 0]) (pc' := 30) dX12_silence_27 rfl t_7_154 k_X12_drowned rfl (by decide) rfl rfl rfl rfl (Nat.le_of_ble_eq_true rfl) ?_
      obtain ⟨r3, h⟩ := h
      refine c_M_drowned r3 ?_
      show z_Wp m_X12_silence _ 30 [(0, zR 0), (1, zI a0)] [zI (F_M_drowned w), zI a0] w _
      refine z_ior (pc' := 31) dX12_silence_30 rfl ?_
      refine z_istore_n (pc' := 32) (ls' := [(0, zR 0), (1, zI a0), (2, zI (zz_or a0 (F_M_drowned w)))]) rfl (by decide) rfl rfl dX12_silence_31 rfl ?_
      refine z_iconst (pc' := 33) dX12_silence_32 rfl ?_
      refine z_istore_n (pc' := 34) (ls' := [(0, zR 0), (1, zI a0), (2, zI (zz_or a0 (F_M_drowned w))), (3, zI 0)]) rfl (by decide) rfl rfl dX12_silence_33 rfl ?_
      refine z_Wp.sub (ls' := [(0, zR 0), (2, zI (zz_or a0 (F_M_drowned w))), (3, zI 0)]) ?_ (z_sub_of [0, 2, 3] rfl)
      refine z_upto ((w 0 29).toNat) (fun i15 => z_Wp m_X12_silence (d + 5) 34 [(0, zR 0), (2, zI (A_M_silence_34 w a0 i15)), (3, zI (i15 : Int))] [] w Q) ?_ ?_
      · skip
        have h := h.2
        refine z_iload_n (pc' := 35) 2 rfl rfl dX12_silence_34 rfl ?_
        refine z_aload_n (pc' := 36) 0 rfl rfl dX12_silence_35 rfl ?_
        refine z_getI2 (v := w 0 29) (pc' := 39) g_X12_260 (by decide) rfl rfl rfl dX12_silence_36 rfl ?_
        have r26 := h
        refine z_icmp_ge 91 dX12_silence_39 (by decide) (pc' := 42) rfl r26 r1 (fun _ => ?_) (fun c => absurd c (by omega))
        refine z_iload_n (pc' := 92) 1 rfl rfl dX12_silence_91 rfl ?_
        refine z_iret rfl dX12_silence_92 ?_
        exact k
      · intro i15 hi ih
        have h := h.1 i15 hi
        have ih : z_Wp m_X12_silence (d + 5) 34 [(0, zR 0), (2, zI (A_M_silence_45 w i15 (A_M_silence_34 w a0 i15) (w 0 29).toNat)), (3, zI ((i15 + 1 : Nat) : Int))] [] w Q := ih
        refine z_iload_n (pc' := 35) 2 rfl rfl dX12_silence_34 rfl ?_
        refine z_aload_n (pc' := 36) 0 rfl rfl dX12_silence_35 rfl ?_
        refine z_getI2 (v := w 0 29) (pc' := 39) g_X12_260 (by decide) rfl rfl rfl dX12_silence_36 rfl ?_
        obtain ⟨r16, h⟩ := h
        refine z_icmp_ge 91 dX12_silence_39 (by decide) (pc' := 42) rfl r16 r1 (fun c => absurd c (by omega)) (fun _ => ?_)
        refine z_iconst (pc' := 43) dX12_silence_42 rfl ?_
        refine z_istore (pc' := 45) (ls' := [(0, zR 0), (2, zI (A_M_silence_34 w a0 i15)), (3, zI (i15 : Int)), (4, zI 0)]) (by decide) rfl rfl dX12_silence_43 rfl ?_
        refine z_upto ((w 0 29).toNat) (fun i21 => z_Wp m_X12_silence (d + 5) 45 [(0, zR 0), (2, zI (A_M_silence_45 w i15 (A_M_silence_34 w a0 i15) i21)), (3, zI (i15 : Int)), (4, zI (i21 : Int))] [] w Q) ?_ ?_
        · skip
          have h := h.2
          refine z_iload (pc' := 47) 3 rfl dX12_silence_45 rfl ?_
          refine z_aload_n (pc' := 48) 0 rfl rfl dX12_silence_47 rfl ?_
          refine z_getI2 (v := w 0 29) (pc' := 51) g_X12_260 (by decide) rfl rfl rfl dX12_silence_48 rfl ?_
          have r25 := h
          refine z_icmp_ge 85 dX12_silence_51 (by decide) (pc' := 54) rfl r25 r1 (fun _ => ?_) (fun c => absurd c (by omega))
          refine z_iinc (pc' := 88) (ls' := [(0, zR 0), (2, zI (A_M_silence_45 w i15 (A_M_silence_34 w a0 i15) (w 0 29).toNat)), (3, zI ((i15 : Int) + 1)), (4, zI (((w 0 29).toNat : Nat) : Int))]) 2 rfl (by decide) rfl rfl dX12_silence_85 rfl ?_
          refine z_goto 34 dX12_silence_88 (by decide) ?_
          exact z_Wp.sub (ls' := [(0, zR 0), (2, zI (A_M_silence_45 w i15 (A_M_silence_34 w a0 i15) (w 0 29).toNat)), (3, zI ((i15 : Int) + 1))]) (z_lcast (by rw [z_c0 i15]) ih) (z_sub_of [0, 1, 2] rfl)
        · intro i21 hi ih
          have h := h.1 i21 hi
          have ih : z_Wp m_X12_silence (d + 5) 45 [(0, zR 0), (2, zI (if F_M_has w (A_M_silence_45 w i15 (A_M_silence_34 w a0 i15) i21) (w 17 (((3 * (i21 : Int)) + 1).toNat)) = 0 then zz_or (A_M_silence_45 w i15 (A_M_silence_34 w a0 i15) i21) 0 else zz_or (A_M_silence_45 w i15 (A_M_silence_34 w a0 i15) i21) (zz_shl 1 (i21 : Int)))), (3, zI (i15 : Int)), (4, zI ((i21 + 1 : Nat) : Int))] [] w Q := ih
          refine z_iload (pc' := 47) 3 rfl dX12_silence_45 rfl ?_
          refine z_aload_n (pc' := 48) 0 rfl rfl dX12_silence_47 rfl ?_
          refine z_getI2 (v := w 0 29) (pc' := 51) g_X12_260 (by decide) rfl rfl rfl dX12_silence_48 rfl ?_
          obtain ⟨r22, h⟩ := h
          refine z_icmp_ge 85 dX12_silence_51 (by decide) (pc' := 54) rfl r22 r1 (fun c => absurd c (by omega)) (fun _ => ?_)
          refine z_iload_n (pc' := 55) 1 rfl rfl dX12_silence_54 rfl ?_
          refine z_iload_n (pc' := 56) 1 rfl rfl dX12_silence_55 rfl ?_
          refine z_aload_n (pc' := 57) 0 rfl rfl dX12_silence_56 rfl ?_
          refine z_iload (pc' := 59) 3 rfl dX12_silence_57 rfl ?_
          refine z_iconst (pc' := 60) dX12_silence_59 rfl ?_
          refine z_invV (as := [zI (i21 : Int), zI 1]) (st := [zI (A_M_silence_45 w i15 (A_M_silence_34 w a0 i15) i21), zI (A_M_silence_45 w i15 (A_M_silence_34 w a0 i15) i21)]) (C := m_X12_of) (fs := [0, 3, 0, 0, 0, 0, 4, 5, 6, 7, 8, 9, 10, 0, 0, 11, 12, 13, 14, 15, 16, 0, 0, 0, 17, 18, 19, 20, 0, 0, 0, 21, 22, 0, 0, 23, 0, 1, 24, 0, 0, 25, 26, 0, 27, 0]) (pc' := 63) dX12_silence_60 rfl t_7_138 k_X12_of rfl (by decide) rfl rfl rfl rfl (Nat.le_of_ble_eq_true rfl) ?_
          obtain ⟨r23, h⟩ := h
          refine c_M_of r23 ?_
          show z_Wp m_X12_silence _ 63 [(0, zR 0), (2, zI (A_M_silence_45 w i15 (A_M_silence_34 w a0 i15) i21)), (3, zI (i15 : Int)), (4, zI (i21 : Int))] [zI (w 17 (((3 * (i21 : Int)) + 1).toNat)), zI (A_M_silence_45 w i15 (A_M_silence_34 w a0 i15) i21), zI (A_M_silence_45 w i15 (A_M_silence_34 w a0 i15) i21)] w _
          refine z_invS (as := [zI (A_M_silence_45 w i15 (A_M_silence_34 w a0 i15) i21), zI (w 17 (((3 * (i21 : Int)) + 1).toNat))]) (st := [zI (A_M_silence_45 w i15 (A_M_silence_34 w a0 i15) i21)]) (C := m_X12_has) (pc' := 66) dX12_silence_63 rfl t_6_237 k_X12_has rfl rfl (Nat.le_of_ble_eq_true rfl) ?_
          have r24 := h
          refine c_M_has r24 ?_
          show z_Wp m_X12_silence _ 66 [(0, zR 0), (2, zI (A_M_silence_45 w i15 (A_M_silence_34 w a0 i15) i21)), (3, zI (i15 : Int)), (4, zI (i21 : Int))] [zI (F_M_has w (A_M_silence_45 w i15 (A_M_silence_34 w a0 i15) i21) (w 17 (((3 * (i21 : Int)) + 1).toNat))), zI (A_M_silence_45 w i15 (A_M_silence_34 w a0 i15) i21)] w _
          refine z_if_eq 76 dX12_silence_66 (by decide) (pc' := 69) rfl (z_rb b_M_has) (fun c12 => ?_) (fun c12 => ?_)
          · skip
            rw [if_pos c12] at ih
            refine z_iconst (pc' := 77) dX12_silence_76 rfl ?_
            refine z_ior (pc' := 78) dX12_silence_77 rfl ?_
            refine z_istore_n (pc' := 79) (ls' := [(0, zR 0), (2, zI (zz_or (A_M_silence_45 w i15 (A_M_silence_34 w a0 i15) i21) 0)), (3, zI (i15 : Int)), (4, zI (i21 : Int))]) rfl (by decide) rfl rfl dX12_silence_78 rfl ?_
            refine z_iinc (pc' := 82) (ls' := [(0, zR 0), (2, zI (zz_or (A_M_silence_45 w i15 (A_M_silence_34 w a0 i15) i21) 0)), (3, zI (i15 : Int)), (4, zI ((i21 : Int) + 1))]) 3 rfl (by decide) rfl rfl dX12_silence_79 rfl ?_
            refine z_goto 45 dX12_silence_82 (by decide) ?_
            exact ih
          · skip
            rw [if_neg c12] at ih
            refine z_iconst (pc' := 70) dX12_silence_69 rfl ?_
            refine z_iload (pc' := 72) 3 rfl dX12_silence_70 rfl ?_
            refine z_ishl (pc' := 73) dX12_silence_72 rfl ?_
            refine z_goto 77 dX12_silence_73 (by decide) ?_
            refine z_ior (pc' := 78) dX12_silence_77 rfl ?_
            refine z_istore_n (pc' := 79) (ls' := [(0, zR 0), (2, zI (zz_or (A_M_silence_45 w i15 (A_M_silence_34 w a0 i15) i21) (zz_shl 1 (i21 : Int)))), (3, zI (i15 : Int)), (4, zI (i21 : Int))]) rfl (by decide) rfl rfl dX12_silence_78 rfl ?_
            refine z_iinc (pc' := 82) (ls' := [(0, zR 0), (2, zI (zz_or (A_M_silence_45 w i15 (A_M_silence_34 w a0 i15) i21) (zz_shl 1 (i21 : Int)))), (3, zI (i15 : Int)), (4, zI ((i21 : Int) + 1))]) 3 rfl (by decide) rfl rfl dX12_silence_79 rfl ?_
            refine z_goto 45 dX12_silence_82 (by decide) ?_
            exact ih
    · have h := h.1 c
      rw [if_pos c] at k
      refine z_iconst (pc' := 24) dX12_silence_23 rfl ?_
      refine z_iret rfl dX12_silence_24 ?_
      exact k
def A_M_net_9 (w : z_Wd)  : Nat → Int
  | 0 => 0
  | i7 + 1 => if F_M_has w (F_M_drowned w) (i7 : Int) = 0 then if F_M_has w (F_M_drowned w) (w 17 (((3 * (i7 : Int)) + 1).toNat)) = 0 then A_M_net_9 w i7 else (A_M_net_9 w i7) + 1 else A_M_net_9 w i7
def P_M_net (w : z_Wd)  : Prop := (P_M_drowned w) ∧ ((∀ i7 : Nat, i7 < ((w 0 29).toNat) → (-2147483648 ≤ (i7 : Int) ∧ (i7 : Int) < 2147483648) ∧ (-2147483648 ≤ w 0 29 ∧ w 0 29 < 2147483648) ∧ (P_M_has w (F_M_drowned w) (i7 : Int)) ∧ ((F_M_has w (F_M_drowned w) (i7 : Int) = 0 → (0 ≤ (3 * (i7 : Int)) + 1 ∧ (3 * (i7 : Int)) + 1 < 21) ∧ (P_M_has w (F_M_drowned w) (w 17 (((3 * (i7 : Int)) + 1).toNat)))) ∧ (¬ (F_M_has w (F_M_drowned w) (i7 : Int) = 0) → True))) ∧ ((-2147483648 ≤ (((w 0 29).toNat : Nat) : Int) ∧ (((w 0 29).toNat : Nat) : Int) < 2147483648) ∧ (-2147483648 ≤ w 0 29 ∧ w 0 29 < 2147483648)))
def F_M_net (w : z_Wd)  : Int := A_M_net_9 w (w 0 29).toNat
set_option maxRecDepth 4000 in
theorem c_M_net {d : Nat} {w : z_Wd} {Q : Option z_V → z_Wd → Prop} (h : P_M_net w ) (k : Q (some (zI (F_M_net w ))) w) : z_Wc (d + 5) m_X12_net [zR 0] w Q := by
  unfold P_M_net at h
  unfold F_M_net at k
  refine z_enter rfl (Nat.le_of_ble_eq_true rfl) ?_
  show z_Wp m_X12_net _ 0 [(0, zR 0)] [] w _
  refine z_aload_n (pc' := 1) 0 rfl rfl dX12_net_0 rfl ?_
  refine z_invV (as := []) (st := []) (C := m_X12_drowned) (fs := [0, 3, 0, 0, 0, 0, 4, 5, 6, 7, 8, 9, 10, 0, 0, 11, 12, 13, 14, 15, 16, 0, 0, 0, 17, 18, 19, 20, 0, 0, 0, 21, 22, 0, 0, 23, 0, 1, 24, 0, 0, 25, 26, 0, 27, 0]) (pc' := 4) dX12_net_1 rfl t_7_154 k_X12_drowned rfl (by decide) rfl rfl rfl rfl (Nat.le_of_ble_eq_true rfl) ?_
  obtain ⟨r1, h⟩ := h
  refine c_M_drowned r1 ?_
  show z_Wp m_X12_net _ 4 [(0, zR 0)] [zI (F_M_drowned w)] w _
  refine z_istore_n (pc' := 5) (ls' := [(0, zR 0), (1, zI (F_M_drowned w))]) rfl (by decide) rfl rfl dX12_net_4 rfl ?_
  refine z_iconst (pc' := 6) dX12_net_5 rfl ?_
  refine z_istore_n (pc' := 7) (ls' := [(0, zR 0), (1, zI (F_M_drowned w)), (2, zI 0)]) rfl (by decide) rfl rfl dX12_net_6 rfl ?_
  refine z_iconst (pc' := 8) dX12_net_7 rfl ?_
  refine z_istore_n (pc' := 9) (ls' := [(0, zR 0), (1, zI (F_M_drowned w)), (2, zI 0), (3, zI 0)]) rfl (by decide) rfl rfl dX12_net_8 rfl ?_
  refine z_upto ((w 0 29).toNat) (fun i7 => z_Wp m_X12_net (d + 5) 9 [(0, zR 0), (1, zI (F_M_drowned w)), (2, zI (A_M_net_9 w i7)), (3, zI (i7 : Int))] [] w Q) ?_ ?_
  · skip
    have h := h.2
    refine z_iload_n (pc' := 10) 3 rfl rfl dX12_net_9 rfl ?_
    refine z_aload_n (pc' := 11) 0 rfl rfl dX12_net_10 rfl ?_
    refine z_getI2 (v := w 0 29) (pc' := 14) g_X12_260 (by decide) rfl rfl rfl dX12_net_11 rfl ?_
    obtain ⟨r13, h⟩ := h
    have r14 := h
    refine z_icmp_ge 52 dX12_net_14 (by decide) (pc' := 17) rfl r13 r14 (fun _ => ?_) (fun c => absurd c (by omega))
    refine z_iload_n (pc' := 53) 2 rfl rfl dX12_net_52 rfl ?_
    refine z_iret rfl dX12_net_53 ?_
    exact k
  · intro i7 hi ih
    have h := h.1 i7 hi
    have ih : z_Wp m_X12_net (d + 5) 9 [(0, zR 0), (1, zI (F_M_drowned w)), (2, zI (if F_M_has w (F_M_drowned w) (i7 : Int) = 0 then if F_M_has w (F_M_drowned w) (w 17 (((3 * (i7 : Int)) + 1).toNat)) = 0 then A_M_net_9 w i7 else (A_M_net_9 w i7) + 1 else A_M_net_9 w i7)), (3, zI ((i7 + 1 : Nat) : Int))] [] w Q := ih
    refine z_iload_n (pc' := 10) 3 rfl rfl dX12_net_9 rfl ?_
    refine z_aload_n (pc' := 11) 0 rfl rfl dX12_net_10 rfl ?_
    refine z_getI2 (v := w 0 29) (pc' := 14) g_X12_260 (by decide) rfl rfl rfl dX12_net_11 rfl ?_
    obtain ⟨r8, h⟩ := h
    obtain ⟨r9, h⟩ := h
    refine z_icmp_ge 52 dX12_net_14 (by decide) (pc' := 17) rfl r8 r9 (fun c => absurd c (by omega)) (fun _ => ?_)
    refine z_iload_n (pc' := 18) 2 rfl rfl dX12_net_17 rfl ?_
    refine z_iload_n (pc' := 19) 1 rfl rfl dX12_net_18 rfl ?_
    refine z_iload_n (pc' := 20) 3 rfl rfl dX12_net_19 rfl ?_
    refine z_invS (as := [zI (F_M_drowned w), zI (i7 : Int)]) (st := [zI (A_M_net_9 w i7)]) (C := m_X12_has) (pc' := 23) dX12_net_20 rfl t_6_237 k_X12_has rfl rfl (Nat.le_of_ble_eq_true rfl) ?_
    obtain ⟨r10, h⟩ := h
    refine c_M_has r10 ?_
    show z_Wp m_X12_net _ 23 [(0, zR 0), (1, zI (F_M_drowned w)), (2, zI (A_M_net_9 w i7)), (3, zI (i7 : Int))] [zI (F_M_has w (F_M_drowned w) (i7 : Int)), zI (A_M_net_9 w i7)] w _
    refine z_if_ne 43 dX12_net_23 (by decide) (pc' := 26) rfl (z_rb b_M_has) (fun c13 => ?_) (fun c13 => ?_)
    · have h := h.2 c13
      rw [if_neg c13] at ih
      refine z_iconst (pc' := 44) dX12_net_43 rfl ?_
      refine z_iadd (pc' := 45) dX12_net_44 rfl ?_
      refine z_eqI (y := A_M_net_9 w i7) (by omega) ?_
      refine z_istore_n (pc' := 46) (ls' := [(0, zR 0), (1, zI (F_M_drowned w)), (2, zI (A_M_net_9 w i7)), (3, zI (i7 : Int))]) rfl (by decide) rfl rfl dX12_net_45 rfl ?_
      refine z_iinc (pc' := 49) (ls' := [(0, zR 0), (1, zI (F_M_drowned w)), (2, zI (A_M_net_9 w i7)), (3, zI ((i7 : Int) + 1))]) 3 rfl (by decide) rfl rfl dX12_net_46 rfl ?_
      refine z_goto 9 dX12_net_49 (by decide) ?_
      exact ih
    · have h := h.1 c13
      rw [if_pos c13] at ih
      refine z_iload_n (pc' := 27) 1 rfl rfl dX12_net_26 rfl ?_
      refine z_aload_n (pc' := 28) 0 rfl rfl dX12_net_27 rfl ?_
      refine z_iload_n (pc' := 29) 3 rfl rfl dX12_net_28 rfl ?_
      refine z_iconst (pc' := 30) dX12_net_29 rfl ?_
      refine z_invV (as := [zI (i7 : Int), zI 1]) (st := [zI (F_M_drowned w), zI (A_M_net_9 w i7)]) (C := m_X12_of) (fs := [0, 3, 0, 0, 0, 0, 4, 5, 6, 7, 8, 9, 10, 0, 0, 11, 12, 13, 14, 15, 16, 0, 0, 0, 17, 18, 19, 20, 0, 0, 0, 21, 22, 0, 0, 23, 0, 1, 24, 0, 0, 25, 26, 0, 27, 0]) (pc' := 33) dX12_net_30 rfl t_7_138 k_X12_of rfl (by decide) rfl rfl rfl rfl (Nat.le_of_ble_eq_true rfl) ?_
      obtain ⟨r11, h⟩ := h
      refine c_M_of r11 ?_
      show z_Wp m_X12_net _ 33 [(0, zR 0), (1, zI (F_M_drowned w)), (2, zI (A_M_net_9 w i7)), (3, zI (i7 : Int))] [zI (w 17 (((3 * (i7 : Int)) + 1).toNat)), zI (F_M_drowned w), zI (A_M_net_9 w i7)] w _
      refine z_invS (as := [zI (F_M_drowned w), zI (w 17 (((3 * (i7 : Int)) + 1).toNat))]) (st := [zI (A_M_net_9 w i7)]) (C := m_X12_has) (pc' := 36) dX12_net_33 rfl t_6_237 k_X12_has rfl rfl (Nat.le_of_ble_eq_true rfl) ?_
      have r12 := h
      refine c_M_has r12 ?_
      show z_Wp m_X12_net _ 36 [(0, zR 0), (1, zI (F_M_drowned w)), (2, zI (A_M_net_9 w i7)), (3, zI (i7 : Int))] [zI (F_M_has w (F_M_drowned w) (w 17 (((3 * (i7 : Int)) + 1).toNat))), zI (A_M_net_9 w i7)] w _
      refine z_if_eq 43 dX12_net_36 (by decide) (pc' := 39) rfl (z_rb b_M_has) (fun c14 => ?_) (fun c14 => ?_)
      · skip
        rw [if_pos c14] at ih
        refine z_iconst (pc' := 44) dX12_net_43 rfl ?_
        refine z_iadd (pc' := 45) dX12_net_44 rfl ?_
        refine z_eqI (y := A_M_net_9 w i7) (by omega) ?_
        refine z_istore_n (pc' := 46) (ls' := [(0, zR 0), (1, zI (F_M_drowned w)), (2, zI (A_M_net_9 w i7)), (3, zI (i7 : Int))]) rfl (by decide) rfl rfl dX12_net_45 rfl ?_
        refine z_iinc (pc' := 49) (ls' := [(0, zR 0), (1, zI (F_M_drowned w)), (2, zI (A_M_net_9 w i7)), (3, zI ((i7 : Int) + 1))]) 3 rfl (by decide) rfl rfl dX12_net_46 rfl ?_
        refine z_goto 9 dX12_net_49 (by decide) ?_
        exact ih
      · skip
        rw [if_neg c14] at ih
        refine z_iconst (pc' := 40) dX12_net_39 rfl ?_
        refine z_goto 44 dX12_net_40 (by decide) ?_
        refine z_iadd (pc' := 45) dX12_net_44 rfl ?_
        refine z_istore_n (pc' := 46) (ls' := [(0, zR 0), (1, zI (F_M_drowned w)), (2, zI ((A_M_net_9 w i7) + 1)), (3, zI (i7 : Int))]) rfl (by decide) rfl rfl dX12_net_45 rfl ?_
        refine z_iinc (pc' := 49) (ls' := [(0, zR 0), (1, zI (F_M_drowned w)), (2, zI ((A_M_net_9 w i7) + 1)), (3, zI ((i7 : Int) + 1))]) 3 rfl (by decide) rfl rfl dX12_net_46 rfl ?_
        refine z_goto 9 dX12_net_49 (by decide) ?_
        exact ih
def A_M_areGone_17 (w : z_Wd) (a0 : Int) : Nat → Int
  | 0 => 0
  | i12 + 1 => if A_M_areGone_17 w a0 i12 = 0 then A_M_areGone_17 w a0 i12 else if F_M_gapsBy w (w 23 ((i12 : Int).toNat)) a0 = w 24 ((i12 : Int).toNat) then 1 else 0
def E_M_areGone_17 (w : z_Wd) (a0 : Int) (i12 : Nat) : Bool := if A_M_areGone_17 w a0 i12 = 0 then true else if F_M_gapsBy w (w 23 ((i12 : Int).toNat)) a0 = w 24 ((i12 : Int).toNat) then false else false
def R_M_areGone_17 (w : z_Wd) (a0 : Int) (i12 : Nat) : Int := if A_M_areGone_17 w a0 i12 = 0 then A_M_areGone_17 w a0 i12 else if F_M_gapsBy w (w 23 ((i12 : Int).toNat)) a0 = w 24 ((i12 : Int).toNat) then 0 else 0
def A_M_areGone_17x2 (w : z_Wd) (a0 : Int) : Nat → Int
  | 0 => 1
  | i33 + 1 => if A_M_areGone_17x2 w a0 i33 = 0 then A_M_areGone_17x2 w a0 i33 else if F_M_gapsBy w (w 23 ((i33 : Int).toNat)) a0 = w 24 ((i33 : Int).toNat) then 1 else 0
def E_M_areGone_17x2 (w : z_Wd) (a0 : Int) (i33 : Nat) : Bool := if A_M_areGone_17x2 w a0 i33 = 0 then true else if F_M_gapsBy w (w 23 ((i33 : Int).toNat)) a0 = w 24 ((i33 : Int).toNat) then false else false
def R_M_areGone_17x2 (w : z_Wd) (a0 : Int) (i33 : Nat) : Int := if A_M_areGone_17x2 w a0 i33 = 0 then A_M_areGone_17x2 w a0 i33 else if F_M_gapsBy w (w 23 ((i33 : Int).toNat)) a0 = w 24 ((i33 : Int).toNat) then 0 else 0
def P_M_areGone (w : z_Wd) (a0 : Int) (a1 : Int) : Prop := (-2147483648 ≤ F_J_bitCount_0f7a4 w a0 ∧ F_J_bitCount_0f7a4 w a0 < 2147483648) ∧ (-2147483648 ≤ a1 ∧ a1 < 2147483648) ∧ ((F_J_bitCount_0f7a4 w a0 = a1 → (∀ i33 : Nat, i33 < ((w 0 43).toNat) → zfind (E_M_areGone_17x2 w a0) i33 = -1 → (-2147483648 ≤ (i33 : Int) ∧ (i33 : Int) < 2147483648) ∧ (-2147483648 ≤ w 0 43 ∧ w 0 43 < 2147483648) ∧ (-2147483648 ≤ A_M_areGone_17x2 w a0 i33 ∧ A_M_areGone_17x2 w a0 i33 < 2147483648) ∧ ((A_M_areGone_17x2 w a0 i33 = 0 → A_M_areGone_17x2 w a0 i33 = 0 ∨ A_M_areGone_17x2 w a0 i33 = 1) ∧ (¬ (A_M_areGone_17x2 w a0 i33 = 0) → (0 ≤ (i33 : Int) ∧ (i33 : Int) < 10) ∧ (P_M_gapsBy w (w 23 ((i33 : Int).toNat)) a0) ∧ (-2147483648 ≤ F_M_gapsBy w (w 23 ((i33 : Int).toNat)) a0 ∧ F_M_gapsBy w (w 23 ((i33 : Int).toNat)) a0 < 2147483648) ∧ (-2147483648 ≤ w 24 ((i33 : Int).toNat) ∧ w 24 ((i33 : Int).toNat) < 2147483648)))) ∧ ((-2147483648 ≤ (((w 0 43).toNat : Nat) : Int) ∧ (((w 0 43).toNat : Nat) : Int) < 2147483648) ∧ (-2147483648 ≤ w 0 43 ∧ w 0 43 < 2147483648) ∧ (A_M_areGone_17x2 w a0 (w 0 43).toNat = 0 ∨ A_M_areGone_17x2 w a0 (w 0 43).toNat = 1))) ∧ (¬ (F_J_bitCount_0f7a4 w a0 = a1) → (∀ i12 : Nat, i12 < ((w 0 43).toNat) → zfind (E_M_areGone_17 w a0) i12 = -1 → (-2147483648 ≤ (i12 : Int) ∧ (i12 : Int) < 2147483648) ∧ (-2147483648 ≤ w 0 43 ∧ w 0 43 < 2147483648) ∧ (-2147483648 ≤ A_M_areGone_17 w a0 i12 ∧ A_M_areGone_17 w a0 i12 < 2147483648) ∧ ((A_M_areGone_17 w a0 i12 = 0 → A_M_areGone_17 w a0 i12 = 0 ∨ A_M_areGone_17 w a0 i12 = 1) ∧ (¬ (A_M_areGone_17 w a0 i12 = 0) → (0 ≤ (i12 : Int) ∧ (i12 : Int) < 10) ∧ (P_M_gapsBy w (w 23 ((i12 : Int).toNat)) a0) ∧ (-2147483648 ≤ F_M_gapsBy w (w 23 ((i12 : Int).toNat)) a0 ∧ F_M_gapsBy w (w 23 ((i12 : Int).toNat)) a0 < 2147483648) ∧ (-2147483648 ≤ w 24 ((i12 : Int).toNat) ∧ w 24 ((i12 : Int).toNat) < 2147483648)))) ∧ ((-2147483648 ≤ (((w 0 43).toNat : Nat) : Int) ∧ (((w 0 43).toNat : Nat) : Int) < 2147483648) ∧ (-2147483648 ≤ w 0 43 ∧ w 0 43 < 2147483648) ∧ (A_M_areGone_17 w a0 (w 0 43).toNat = 0 ∨ A_M_areGone_17 w a0 (w 0 43).toNat = 1))))
def F_M_areGone (w : z_Wd) (a0 : Int) (a1 : Int) : Int := if F_J_bitCount_0f7a4 w a0 = a1 then if zfind (E_M_areGone_17x2 w a0) ((w 0 43).toNat) = -1 then A_M_areGone_17x2 w a0 (w 0 43).toNat else R_M_areGone_17x2 w a0 (zfind (E_M_areGone_17x2 w a0) ((w 0 43).toNat)).toNat else if zfind (E_M_areGone_17 w a0) ((w 0 43).toNat) = -1 then A_M_areGone_17 w a0 (w 0 43).toNat else R_M_areGone_17 w a0 (zfind (E_M_areGone_17 w a0) ((w 0 43).toNat)).toNat
set_option maxRecDepth 4000 in
theorem c_M_areGone {d : Nat} {w : z_Wd} {a0 a1 : Int} {Q : Option z_V → z_Wd → Prop} (h : P_M_areGone w a0 a1) (k : Q (some (zI (F_M_areGone w a0 a1))) w) : z_Wc (d + 1) m_X12_areGone [zR 0, zI a0, zI a1] w Q := by
  unfold P_M_areGone at h
  unfold F_M_areGone at k
  refine z_enter rfl (Nat.le_of_ble_eq_true rfl) ?_
  show z_Wp m_X12_areGone _ 0 [(0, zR 0), (1, zI a0), (2, zI a1)] [] w _
  refine z_iload_n (pc' := 1) 1 rfl rfl dX12_areGone_0 rfl ?_
  refine z_invS (as := [zI a0]) (st := []) (C := m_J6_bitCount_0f7a4) (pc' := 4) dX12_areGone_1 rfl t_7_162 k_J6_bitCount_0f7a4 rfl rfl (Nat.le_of_ble_eq_true rfl) ?_
  refine c_J_bitCount_0f7a4 ?_
  show z_Wp m_X12_areGone _ 4 [(0, zR 0), (1, zI a0), (2, zI a1)] [zI (F_J_bitCount_0f7a4 w a0)] w _
  refine z_iload_n (pc' := 5) 2 rfl rfl dX12_areGone_4 rfl ?_
  obtain ⟨r1, h⟩ := h
  obtain ⟨r2, h⟩ := h
  refine z_icmp_ne 12 dX12_areGone_5 (by decide) (pc' := 8) rfl r1 r2 (fun c => ?_) (fun c => ?_)
  · have h := h.2 c
    rw [if_neg c] at k
    refine z_iconst (pc' := 13) dX12_areGone_12 rfl ?_
    refine z_istore_n (pc' := 14) (ls' := [(0, zR 0), (1, zI a0), (2, zI a1), (3, zI 0)]) rfl (by decide) rfl rfl dX12_areGone_13 rfl ?_
    refine z_iconst (pc' := 15) dX12_areGone_14 rfl ?_
    refine z_istore (pc' := 17) (ls' := [(0, zR 0), (1, zI a0), (2, zI a1), (3, zI 0), (4, zI 0)]) (by decide) rfl rfl dX12_areGone_15 rfl ?_
    refine z_Wp.sub (ls' := [(0, zR 0), (1, zI a0), (3, zI 0), (4, zI 0)]) ?_ (z_sub_of [0, 1, 3, 4] rfl)
    refine z_upto ((w 0 43).toNat) (fun i12 => zfind (E_M_areGone_17 w a0) i12 = -1 → z_Wp m_X12_areGone (d + 1) 17 [(0, zR 0), (1, zI a0), (3, zI (A_M_areGone_17 w a0 i12)), (4, zI (i12 : Int))] [] w Q) ?_ ?_ rfl
    · intro hf
      rw [if_pos hf] at k
      have h := h.2
      refine z_iload (pc' := 19) 3 rfl dX12_areGone_17 rfl ?_
      refine z_aload_n (pc' := 20) 0 rfl rfl dX12_areGone_19 rfl ?_
      refine z_getI2 (v := w 0 43) (pc' := 23) g_X12_266 (by decide) rfl rfl rfl dX12_areGone_20 rfl ?_
      obtain ⟨r21, h⟩ := h
      obtain ⟨r22, h⟩ := h
      refine z_icmp_ge 64 dX12_areGone_23 (by decide) (pc' := 26) rfl r21 r22 (fun _ => ?_) (fun c => absurd c (by omega))
      refine z_iload_n (pc' := 65) 2 rfl rfl dX12_areGone_64 rfl ?_
      have r23 := h
      refine z_zret rfl r23 dX12_areGone_65 ?_
      exact k
    · intro i12 hi ih hf
      have h := h.1 i12 hi hf
      have ih : zfind (E_M_areGone_17 w a0) (i12 + 1) = -1 → z_Wp m_X12_areGone (d + 1) 17 [(0, zR 0), (1, zI a0), (3, zI (if A_M_areGone_17 w a0 i12 = 0 then A_M_areGone_17 w a0 i12 else if F_M_gapsBy w (w 23 ((i12 : Int).toNat)) a0 = w 24 ((i12 : Int).toNat) then 1 else 0)), (4, zI ((i12 + 1 : Nat) : Int))] [] w Q := ih
      have hE : E_M_areGone_17 w a0 i12 = (if A_M_areGone_17 w a0 i12 = 0 then true else if F_M_gapsBy w (w 23 ((i12 : Int).toNat)) a0 = w 24 ((i12 : Int).toNat) then false else false) := rfl
      refine z_iload (pc' := 19) 3 rfl dX12_areGone_17 rfl ?_
      refine z_aload_n (pc' := 20) 0 rfl rfl dX12_areGone_19 rfl ?_
      refine z_getI2 (v := w 0 43) (pc' := 23) g_X12_266 (by decide) rfl rfl rfl dX12_areGone_20 rfl ?_
      obtain ⟨r13, h⟩ := h
      obtain ⟨r14, h⟩ := h
      refine z_icmp_ge 64 dX12_areGone_23 (by decide) (pc' := 26) rfl r13 r14 (fun c => absurd c (by omega)) (fun _ => ?_)
      refine z_iload_n (pc' := 27) 2 rfl rfl dX12_areGone_26 rfl ?_
      obtain ⟨r15, h⟩ := h
      refine z_if_eq 64 dX12_areGone_27 (by decide) (pc' := 30) rfl r15 (fun c15 => ?_) (fun c15 => ?_)
      · have h := h.1 c15
        rw [if_pos c15] at ih
        rw [if_pos c15] at hE
        refine z_iload_n (pc' := 65) 2 rfl rfl dX12_areGone_64 rfl ?_
        have r16 := h
        refine z_zret rfl r16 dX12_areGone_65 ?_
        have hz := zfind_hit hf hE _ hi
        rw [hz, if_neg (by omega), Int.toNat_natCast] at k
        unfold R_M_areGone_17 at k
        rw [if_pos c15] at k
        exact k
      · have h := h.2 c15
        rw [if_neg c15] at ih
        rw [if_neg c15] at hE
        refine z_aload_n (pc' := 31) 0 rfl rfl dX12_areGone_30 rfl ?_
        refine z_aload_n (pc' := 32) 0 rfl rfl dX12_areGone_31 rfl ?_
        refine z_getR (t := 23) (pc' := 35) g_X12_83 (by decide) rfl rfl dX12_areGone_32 rfl ?_
        refine z_iload (pc' := 37) 3 rfl dX12_areGone_35 rfl ?_
        obtain ⟨r17, h⟩ := h
        refine z_iald2 (v := w 23 ((i12 : Int).toNat)) (pc' := 38) (by decide) rfl r17 (by decide) rfl dX12_areGone_37 rfl ?_
        refine z_iload_n (pc' := 39) 1 rfl rfl dX12_areGone_38 rfl ?_
        refine z_invV (as := [zI (w 23 ((i12 : Int).toNat)), zI a0]) (st := []) (C := m_X12_gapsBy) (fs := [0, 3, 0, 0, 0, 0, 4, 5, 6, 7, 8, 9, 10, 0, 0, 11, 12, 13, 14, 15, 16, 0, 0, 0, 17, 18, 19, 20, 0, 0, 0, 21, 22, 0, 0, 23, 0, 1, 24, 0, 0, 25, 26, 0, 27, 0]) (pc' := 42) dX12_areGone_39 rfl t_7_211 k_X12_gapsBy rfl (by decide) rfl rfl rfl rfl (Nat.le_of_ble_eq_true rfl) ?_
        obtain ⟨r18, h⟩ := h
        refine c_M_gapsBy r18 ?_
        show z_Wp m_X12_areGone _ 42 [(0, zR 0), (1, zI a0), (3, zI (A_M_areGone_17 w a0 i12)), (4, zI (i12 : Int))] [zI (F_M_gapsBy w (w 23 ((i12 : Int).toNat)) a0)] w _
        refine z_aload_n (pc' := 43) 0 rfl rfl dX12_areGone_42 rfl ?_
        refine z_getR (t := 24) (pc' := 46) g_X12_86 (by decide) rfl rfl dX12_areGone_43 rfl ?_
        refine z_iload (pc' := 48) 3 rfl dX12_areGone_46 rfl ?_
        refine z_iald2 (v := w 24 ((i12 : Int).toNat)) (pc' := 49) (by decide) rfl r17 (by decide) rfl dX12_areGone_48 rfl ?_
        obtain ⟨r19, h⟩ := h
        have r20 := h
        refine z_icmp_ne 56 dX12_areGone_49 (by decide) (pc' := 52) rfl r19 r20 (fun c16 => ?_) (fun c16 => ?_)
        · skip
          rw [if_neg c16] at ih
          rw [if_neg c16] at hE
          refine z_iconst (pc' := 57) dX12_areGone_56 rfl ?_
          refine z_istore_n (pc' := 58) (ls' := [(0, zR 0), (1, zI a0), (3, zI 0), (4, zI (i12 : Int))]) rfl (by decide) rfl rfl dX12_areGone_57 rfl ?_
          refine z_iinc (pc' := 61) (ls' := [(0, zR 0), (1, zI a0), (3, zI 0), (4, zI ((i12 : Int) + 1))]) 3 rfl (by decide) rfl rfl dX12_areGone_58 rfl ?_
          refine z_goto 17 dX12_areGone_61 (by decide) ?_
          exact (ih (zfind_miss hf (by rw [hE]; decide)))
        · skip
          rw [if_pos c16] at ih
          rw [if_pos c16] at hE
          refine z_iconst (pc' := 53) dX12_areGone_52 rfl ?_
          refine z_goto 57 dX12_areGone_53 (by decide) ?_
          refine z_istore_n (pc' := 58) (ls' := [(0, zR 0), (1, zI a0), (3, zI 1), (4, zI (i12 : Int))]) rfl (by decide) rfl rfl dX12_areGone_57 rfl ?_
          refine z_iinc (pc' := 61) (ls' := [(0, zR 0), (1, zI a0), (3, zI 1), (4, zI ((i12 : Int) + 1))]) 3 rfl (by decide) rfl rfl dX12_areGone_58 rfl ?_
          refine z_goto 17 dX12_areGone_61 (by decide) ?_
          exact (ih (zfind_miss hf (by rw [hE]; decide)))
  · have h := h.1 c
    rw [if_pos c] at k
    refine z_iconst (pc' := 9) dX12_areGone_8 rfl ?_
    refine z_goto 13 dX12_areGone_9 (by decide) ?_
    refine z_istore_n (pc' := 14) (ls' := [(0, zR 0), (1, zI a0), (2, zI a1), (3, zI 1)]) rfl (by decide) rfl rfl dX12_areGone_13 rfl ?_
    refine z_iconst (pc' := 15) dX12_areGone_14 rfl ?_
    refine z_istore (pc' := 17) (ls' := [(0, zR 0), (1, zI a0), (2, zI a1), (3, zI 1), (4, zI 0)]) (by decide) rfl rfl dX12_areGone_15 rfl ?_
    refine z_Wp.sub (ls' := [(0, zR 0), (1, zI a0), (3, zI 1), (4, zI 0)]) ?_ (z_sub_of [0, 1, 3, 4] rfl)
    refine z_upto ((w 0 43).toNat) (fun i33 => zfind (E_M_areGone_17x2 w a0) i33 = -1 → z_Wp m_X12_areGone (d + 1) 17 [(0, zR 0), (1, zI a0), (3, zI (A_M_areGone_17x2 w a0 i33)), (4, zI (i33 : Int))] [] w Q) ?_ ?_ rfl
    · intro hf
      rw [if_pos hf] at k
      have h := h.2
      refine z_iload (pc' := 19) 3 rfl dX12_areGone_17 rfl ?_
      refine z_aload_n (pc' := 20) 0 rfl rfl dX12_areGone_19 rfl ?_
      refine z_getI2 (v := w 0 43) (pc' := 23) g_X12_266 (by decide) rfl rfl rfl dX12_areGone_20 rfl ?_
      obtain ⟨r42, h⟩ := h
      obtain ⟨r43, h⟩ := h
      refine z_icmp_ge 64 dX12_areGone_23 (by decide) (pc' := 26) rfl r42 r43 (fun _ => ?_) (fun c => absurd c (by omega))
      refine z_iload_n (pc' := 65) 2 rfl rfl dX12_areGone_64 rfl ?_
      have r44 := h
      refine z_zret rfl r44 dX12_areGone_65 ?_
      exact k
    · intro i33 hi ih hf
      have h := h.1 i33 hi hf
      have ih : zfind (E_M_areGone_17x2 w a0) (i33 + 1) = -1 → z_Wp m_X12_areGone (d + 1) 17 [(0, zR 0), (1, zI a0), (3, zI (if A_M_areGone_17x2 w a0 i33 = 0 then A_M_areGone_17x2 w a0 i33 else if F_M_gapsBy w (w 23 ((i33 : Int).toNat)) a0 = w 24 ((i33 : Int).toNat) then 1 else 0)), (4, zI ((i33 + 1 : Nat) : Int))] [] w Q := ih
      have hE : E_M_areGone_17x2 w a0 i33 = (if A_M_areGone_17x2 w a0 i33 = 0 then true else if F_M_gapsBy w (w 23 ((i33 : Int).toNat)) a0 = w 24 ((i33 : Int).toNat) then false else false) := rfl
      refine z_iload (pc' := 19) 3 rfl dX12_areGone_17 rfl ?_
      refine z_aload_n (pc' := 20) 0 rfl rfl dX12_areGone_19 rfl ?_
      refine z_getI2 (v := w 0 43) (pc' := 23) g_X12_266 (by decide) rfl rfl rfl dX12_areGone_20 rfl ?_
      obtain ⟨r34, h⟩ := h
      obtain ⟨r35, h⟩ := h
      refine z_icmp_ge 64 dX12_areGone_23 (by decide) (pc' := 26) rfl r34 r35 (fun c => absurd c (by omega)) (fun _ => ?_)
      refine z_iload_n (pc' := 27) 2 rfl rfl dX12_areGone_26 rfl ?_
      obtain ⟨r36, h⟩ := h
      refine z_if_eq 64 dX12_areGone_27 (by decide) (pc' := 30) rfl r36 (fun c17 => ?_) (fun c17 => ?_)
      · have h := h.1 c17
        rw [if_pos c17] at ih
        rw [if_pos c17] at hE
        refine z_iload_n (pc' := 65) 2 rfl rfl dX12_areGone_64 rfl ?_
        have r37 := h
        refine z_zret rfl r37 dX12_areGone_65 ?_
        have hz := zfind_hit hf hE _ hi
        rw [hz, if_neg (by omega), Int.toNat_natCast] at k
        unfold R_M_areGone_17x2 at k
        rw [if_pos c17] at k
        exact k
      · have h := h.2 c17
        rw [if_neg c17] at ih
        rw [if_neg c17] at hE
        refine z_aload_n (pc' := 31) 0 rfl rfl dX12_areGone_30 rfl ?_
        refine z_aload_n (pc' := 32) 0 rfl rfl dX12_areGone_31 rfl ?_
        refine z_getR (t := 23) (pc' := 35) g_X12_83 (by decide) rfl rfl dX12_areGone_32 rfl ?_
        refine z_iload (pc' := 37) 3 rfl dX12_areGone_35 rfl ?_
        obtain ⟨r38, h⟩ := h
        refine z_iald2 (v := w 23 ((i33 : Int).toNat)) (pc' := 38) (by decide) rfl r38 (by decide) rfl dX12_areGone_37 rfl ?_
        refine z_iload_n (pc' := 39) 1 rfl rfl dX12_areGone_38 rfl ?_
        refine z_invV (as := [zI (w 23 ((i33 : Int).toNat)), zI a0]) (st := []) (C := m_X12_gapsBy) (fs := [0, 3, 0, 0, 0, 0, 4, 5, 6, 7, 8, 9, 10, 0, 0, 11, 12, 13, 14, 15, 16, 0, 0, 0, 17, 18, 19, 20, 0, 0, 0, 21, 22, 0, 0, 23, 0, 1, 24, 0, 0, 25, 26, 0, 27, 0]) (pc' := 42) dX12_areGone_39 rfl t_7_211 k_X12_gapsBy rfl (by decide) rfl rfl rfl rfl (Nat.le_of_ble_eq_true rfl) ?_
        obtain ⟨r39, h⟩ := h
        refine c_M_gapsBy r39 ?_
        show z_Wp m_X12_areGone _ 42 [(0, zR 0), (1, zI a0), (3, zI (A_M_areGone_17x2 w a0 i33)), (4, zI (i33 : Int))] [zI (F_M_gapsBy w (w 23 ((i33 : Int).toNat)) a0)] w _
        refine z_aload_n (pc' := 43) 0 rfl rfl dX12_areGone_42 rfl ?_
        refine z_getR (t := 24) (pc' := 46) g_X12_86 (by decide) rfl rfl dX12_areGone_43 rfl ?_
        refine z_iload (pc' := 48) 3 rfl dX12_areGone_46 rfl ?_
        refine z_iald2 (v := w 24 ((i33 : Int).toNat)) (pc' := 49) (by decide) rfl r38 (by decide) rfl dX12_areGone_48 rfl ?_
        obtain ⟨r40, h⟩ := h
        have r41 := h
        refine z_icmp_ne 56 dX12_areGone_49 (by decide) (pc' := 52) rfl r40 r41 (fun c18 => ?_) (fun c18 => ?_)
        · skip
          rw [if_neg c18] at ih
          rw [if_neg c18] at hE
          refine z_iconst (pc' := 57) dX12_areGone_56 rfl ?_
          refine z_istore_n (pc' := 58) (ls' := [(0, zR 0), (1, zI a0), (3, zI 0), (4, zI (i33 : Int))]) rfl (by decide) rfl rfl dX12_areGone_57 rfl ?_
          refine z_iinc (pc' := 61) (ls' := [(0, zR 0), (1, zI a0), (3, zI 0), (4, zI ((i33 : Int) + 1))]) 3 rfl (by decide) rfl rfl dX12_areGone_58 rfl ?_
          refine z_goto 17 dX12_areGone_61 (by decide) ?_
          exact (ih (zfind_miss hf (by rw [hE]; decide)))
        · skip
          rw [if_pos c18] at ih
          rw [if_pos c18] at hE
          refine z_iconst (pc' := 53) dX12_areGone_52 rfl ?_
          refine z_goto 57 dX12_areGone_53 (by decide) ?_
          refine z_istore_n (pc' := 58) (ls' := [(0, zR 0), (1, zI a0), (3, zI 1), (4, zI (i33 : Int))]) rfl (by decide) rfl rfl dX12_areGone_57 rfl ?_
          refine z_iinc (pc' := 61) (ls' := [(0, zR 0), (1, zI a0), (3, zI 1), (4, zI ((i33 : Int) + 1))]) 3 rfl (by decide) rfl rfl dX12_areGone_58 rfl ?_
          refine z_goto 17 dX12_areGone_61 (by decide) ?_
          exact (ih (zfind_miss hf (by rw [hE]; decide)))
