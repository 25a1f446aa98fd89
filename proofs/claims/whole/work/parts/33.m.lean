theorem z_dcast {d d' : Nat} {M : z_M} {as : List z_V} {w : z_Wd} {Q : Option z_V → z_Wd → Prop} (h : d = d') (k : z_Wc d' M as w Q) : z_Wc d M as w Q := h ▸ k
def F_M_oddsFrom : Nat → z_Wd → Int → Int → Int → Int → Int → Int × z_Wd
  | 0, w, _, _, _, _, _ => (0, w)
  | n9 + 1, w, a0, a1, a2, a3, a4 => if F_M_layerOf w a2 a1 = (-1) then (a4, w) else if a3 = 0 then (0, w) else ((((F_M_oddsFrom n9 ((F_M_scratchNow (F_M_putAside w a0) a2 3).2) (a0 + 1) a1 a2 (a3 - 1) (Int.tdiv a4 3)).1) + ((F_M_oddsFrom n9 ((F_M_scratchNow (F_M_takeBack ((F_M_oddsFrom n9 ((F_M_scratchNow (F_M_putAside w a0) a2 3).2) (a0 + 1) a1 a2 (a3 - 1) (Int.tdiv a4 3)).2) a0) a2 5).2) (a0 + 1) a1 a2 (a3 - 1) (Int.tdiv a4 3)).1)) + ((F_M_oddsFrom n9 ((F_M_scratchNow (F_M_takeBack ((F_M_oddsFrom n9 ((F_M_scratchNow (F_M_takeBack ((F_M_oddsFrom n9 ((F_M_scratchNow (F_M_putAside w a0) a2 3).2) (a0 + 1) a1 a2 (a3 - 1) (Int.tdiv a4 3)).2) a0) a2 5).2) (a0 + 1) a1 a2 (a3 - 1) (Int.tdiv a4 3)).2) a0) a2 7).2) (a0 + 1) a1 a2 (a3 - 1) (a4 - (2 * (Int.tdiv a4 3)))).1), F_M_takeBack ((F_M_oddsFrom n9 ((F_M_scratchNow (F_M_takeBack ((F_M_oddsFrom n9 ((F_M_scratchNow (F_M_takeBack ((F_M_oddsFrom n9 ((F_M_scratchNow (F_M_putAside w a0) a2 3).2) (a0 + 1) a1 a2 (a3 - 1) (Int.tdiv a4 3)).2) a0) a2 5).2) (a0 + 1) a1 a2 (a3 - 1) (Int.tdiv a4 3)).2) a0) a2 7).2) (a0 + 1) a1 a2 (a3 - 1) (a4 - (2 * (Int.tdiv a4 3)))).2) a0)
def P_M_oddsFrom : Nat → z_Wd → Int → Int → Int → Int → Int → Prop
  | 0, w, _, _, _, _, _ => False
  | n9 + 1, w, a0, a1, a2, a3, a4 => (P_M_layerOf w a2 a1) ∧ (-2147483648 ≤ F_M_layerOf w a2 a1 ∧ F_M_layerOf w a2 a1 < 2147483648) ∧ ((F_M_layerOf w a2 a1 = (-1) → True) ∧ (¬ (F_M_layerOf w a2 a1 = (-1)) → (-2147483648 ≤ a3 ∧ a3 < 2147483648) ∧ ((a3 = 0 → True) ∧ (¬ (a3 = 0) → (-2147483648 ≤ a4 ∧ a4 < 2147483648) ∧ (P_M_putAside w a0) ∧ (P_M_scratchNow (F_M_putAside w a0) a2 3) ∧ (P_M_oddsFrom n9 ((F_M_scratchNow (F_M_putAside w a0) a2 3).2) (a0 + 1) a1 a2 (a3 - 1) (Int.tdiv a4 3)) ∧ (P_M_takeBack ((F_M_oddsFrom n9 ((F_M_scratchNow (F_M_putAside w a0) a2 3).2) (a0 + 1) a1 a2 (a3 - 1) (Int.tdiv a4 3)).2) a0) ∧ (P_M_scratchNow (F_M_takeBack ((F_M_oddsFrom n9 ((F_M_scratchNow (F_M_putAside w a0) a2 3).2) (a0 + 1) a1 a2 (a3 - 1) (Int.tdiv a4 3)).2) a0) a2 5) ∧ (P_M_oddsFrom n9 ((F_M_scratchNow (F_M_takeBack ((F_M_oddsFrom n9 ((F_M_scratchNow (F_M_putAside w a0) a2 3).2) (a0 + 1) a1 a2 (a3 - 1) (Int.tdiv a4 3)).2) a0) a2 5).2) (a0 + 1) a1 a2 (a3 - 1) (Int.tdiv a4 3)) ∧ (P_M_takeBack ((F_M_oddsFrom n9 ((F_M_scratchNow (F_M_takeBack ((F_M_oddsFrom n9 ((F_M_scratchNow (F_M_putAside w a0) a2 3).2) (a0 + 1) a1 a2 (a3 - 1) (Int.tdiv a4 3)).2) a0) a2 5).2) (a0 + 1) a1 a2 (a3 - 1) (Int.tdiv a4 3)).2) a0) ∧ (P_M_scratchNow (F_M_takeBack ((F_M_oddsFrom n9 ((F_M_scratchNow (F_M_takeBack ((F_M_oddsFrom n9 ((F_M_scratchNow (F_M_putAside w a0) a2 3).2) (a0 + 1) a1 a2 (a3 - 1) (Int.tdiv a4 3)).2) a0) a2 5).2) (a0 + 1) a1 a2 (a3 - 1) (Int.tdiv a4 3)).2) a0) a2 7) ∧ (P_M_oddsFrom n9 ((F_M_scratchNow (F_M_takeBack ((F_M_oddsFrom n9 ((F_M_scratchNow (F_M_takeBack ((F_M_oddsFrom n9 ((F_M_scratchNow (F_M_putAside w a0) a2 3).2) (a0 + 1) a1 a2 (a3 - 1) (Int.tdiv a4 3)).2) a0) a2 5).2) (a0 + 1) a1 a2 (a3 - 1) (Int.tdiv a4 3)).2) a0) a2 7).2) (a0 + 1) a1 a2 (a3 - 1) (a4 - (2 * (Int.tdiv a4 3)))) ∧ (P_M_takeBack ((F_M_oddsFrom n9 ((F_M_scratchNow (F_M_takeBack ((F_M_oddsFrom n9 ((F_M_scratchNow (F_M_takeBack ((F_M_oddsFrom n9 ((F_M_scratchNow (F_M_putAside w a0) a2 3).2) (a0 + 1) a1 a2 (a3 - 1) (Int.tdiv a4 3)).2) a0) a2 5).2) (a0 + 1) a1 a2 (a3 - 1) (Int.tdiv a4 3)).2) a0) a2 7).2) (a0 + 1) a1 a2 (a3 - 1) (a4 - (2 * (Int.tdiv a4 3)))).2) a0)))))
set_option maxHeartbeats 2000000 in
set_option maxRecDepth 4000 in
theorem c_M_oddsFrom {d : Nat} : ∀ {n9 : Nat} {w : z_Wd} {a0 a1 a2 a3 a4 : Int} {Q : Option z_V → z_Wd → Prop} (h : P_M_oddsFrom n9 w a0 a1 a2 a3 a4) (k : Q (some (zI (F_M_oddsFrom n9 w a0 a1 a2 a3 a4).1)) (F_M_oddsFrom n9 w a0 a1 a2 a3 a4).2), z_Wc (d + n9 + 5) m_X12_oddsFrom [zR 0, zI a0, zI a1, zI a2, zI a3, zI a4] w Q := by
  intro n9
  induction n9 with
  | zero => intro w a0 a1 a2 a3 a4 Q h k; exact False.elim h
  | succ n9 ihr =>
    intro w a0 a1 a2 a3 a4 Q h k
    have h : (P_M_layerOf w a2 a1) ∧ (-2147483648 ≤ F_M_layerOf w a2 a1 ∧ F_M_layerOf w a2 a1 < 2147483648) ∧ ((F_M_layerOf w a2 a1 = (-1) → True) ∧ (¬ (F_M_layerOf w a2 a1 = (-1)) → (-2147483648 ≤ a3 ∧ a3 < 2147483648) ∧ ((a3 = 0 → True) ∧ (¬ (a3 = 0) → (-2147483648 ≤ a4 ∧ a4 < 2147483648) ∧ (P_M_putAside w a0) ∧ (P_M_scratchNow (F_M_putAside w a0) a2 3) ∧ (P_M_oddsFrom n9 ((F_M_scratchNow (F_M_putAside w a0) a2 3).2) (a0 + 1) a1 a2 (a3 - 1) (Int.tdiv a4 3)) ∧ (P_M_takeBack ((F_M_oddsFrom n9 ((F_M_scratchNow (F_M_putAside w a0) a2 3).2) (a0 + 1) a1 a2 (a3 - 1) (Int.tdiv a4 3)).2) a0) ∧ (P_M_scratchNow (F_M_takeBack ((F_M_oddsFrom n9 ((F_M_scratchNow (F_M_putAside w a0) a2 3).2) (a0 + 1) a1 a2 (a3 - 1) (Int.tdiv a4 3)).2) a0) a2 5) ∧ (P_M_oddsFrom n9 ((F_M_scratchNow (F_M_takeBack ((F_M_oddsFrom n9 ((F_M_scratchNow (F_M_putAside w a0) a2 3).2) (a0 + 1) a1 a2 (a3 - 1) (Int.tdiv a4 3)).2) a0) a2 5).2) (a0 + 1) a1 a2 (a3 - 1) (Int.tdiv a4 3)) ∧ (P_M_takeBack ((F_M_oddsFrom n9 ((F_M_scratchNow (F_M_takeBack ((F_M_oddsFrom n9 ((F_M_scratchNow (F_M_putAside w a0) a2 3).2) (a0 + 1) a1 a2 (a3 - 1) (Int.tdiv a4 3)).2) a0) a2 5).2) (a0 + 1) a1 a2 (a3 - 1) (Int.tdiv a4 3)).2) a0) ∧ (P_M_scratchNow (F_M_takeBack ((F_M_oddsFrom n9 ((F_M_scratchNow (F_M_takeBack ((F_M_oddsFrom n9 ((F_M_scratchNow (F_M_putAside w a0) a2 3).2) (a0 + 1) a1 a2 (a3 - 1) (Int.tdiv a4 3)).2) a0) a2 5).2) (a0 + 1) a1 a2 (a3 - 1) (Int.tdiv a4 3)).2) a0) a2 7) ∧ (P_M_oddsFrom n9 ((F_M_scratchNow (F_M_takeBack ((F_M_oddsFrom n9 ((F_M_scratchNow (F_M_takeBack ((F_M_oddsFrom n9 ((F_M_scratchNow (F_M_putAside w a0) a2 3).2) (a0 + 1) a1 a2 (a3 - 1) (Int.tdiv a4 3)).2) a0) a2 5).2) (a0 + 1) a1 a2 (a3 - 1) (Int.tdiv a4 3)).2) a0) a2 7).2) (a0 + 1) a1 a2 (a3 - 1) (a4 - (2 * (Int.tdiv a4 3)))) ∧ (P_M_takeBack ((F_M_oddsFrom n9 ((F_M_scratchNow (F_M_takeBack ((F_M_oddsFrom n9 ((F_M_scratchNow (F_M_takeBack ((F_M_oddsFrom n9 ((F_M_scratchNow (F_M_putAside w a0) a2 3).2) (a0 + 1) a1 a2 (a3 - 1) (Int.tdiv a4 3)).2) a0) a2 5).2) (a0 + 1) a1 a2 (a3 - 1) (Int.tdiv a4 3)).2) a0) a2 7).2) (a0 + 1) a1 a2 (a3 - 1) (a4 - (2 * (Int.tdiv a4 3)))).2) a0))))) := h
    have k : Q (some (zI (if F_M_layerOf w a2 a1 = (-1) then (a4, w) else if a3 = 0 then (0, w) else ((((F_M_oddsFrom n9 ((F_M_scratchNow (F_M_putAside w a0) a2 3).2) (a0 + 1) a1 a2 (a3 - 1) (Int.tdiv a4 3)).1) + ((F_M_oddsFrom n9 ((F_M_scratchNow (F_M_takeBack ((F_M_oddsFrom n9 ((F_M_scratchNow (F_M_putAside w a0) a2 3).2) (a0 + 1) a1 a2 (a3 - 1) (Int.tdiv a4 3)).2) a0) a2 5).2) (a0 + 1) a1 a2 (a3 - 1) (Int.tdiv a4 3)).1)) + ((F_M_oddsFrom n9 ((F_M_scratchNow (F_M_takeBack ((F_M_oddsFrom n9 ((F_M_scratchNow (F_M_takeBack ((F_M_oddsFrom n9 ((F_M_scratchNow (F_M_putAside w a0) a2 3).2) (a0 + 1) a1 a2 (a3 - 1) (Int.tdiv a4 3)).2) a0) a2 5).2) (a0 + 1) a1 a2 (a3 - 1) (Int.tdiv a4 3)).2) a0) a2 7).2) (a0 + 1) a1 a2 (a3 - 1) (a4 - (2 * (Int.tdiv a4 3)))).1), F_M_takeBack ((F_M_oddsFrom n9 ((F_M_scratchNow (F_M_takeBack ((F_M_oddsFrom n9 ((F_M_scratchNow (F_M_takeBack ((F_M_oddsFrom n9 ((F_M_scratchNow (F_M_putAside w a0) a2 3).2) (a0 + 1) a1 a2 (a3 - 1) (Int.tdiv a4 3)).2) a0) a2 5).2) (a0 + 1) a1 a2 (a3 - 1) (Int.tdiv a4 3)).2) a0) a2 7).2) (a0 + 1) a1 a2 (a3 - 1) (a4 - (2 * (Int.tdiv a4 3)))).2) a0)).1)) (if F_M_layerOf w a2 a1 = (-1) then (a4, w) else if a3 = 0 then (0, w) else ((((F_M_oddsFrom n9 ((F_M_scratchNow (F_M_putAside w a0) a2 3).2) (a0 + 1) a1 a2 (a3 - 1) (Int.tdiv a4 3)).1) + ((F_M_oddsFrom n9 ((F_M_scratchNow (F_M_takeBack ((F_M_oddsFrom n9 ((F_M_scratchNow (F_M_putAside w a0) a2 3).2) (a0 + 1) a1 a2 (a3 - 1) (Int.tdiv a4 3)).2) a0) a2 5).2) (a0 + 1) a1 a2 (a3 - 1) (Int.tdiv a4 3)).1)) + ((F_M_oddsFrom n9 ((F_M_scratchNow (F_M_takeBack ((F_M_oddsFrom n9 ((F_M_scratchNow (F_M_takeBack ((F_M_oddsFrom n9 ((F_M_scratchNow (F_M_putAside w a0) a2 3).2) (a0 + 1) a1 a2 (a3 - 1) (Int.tdiv a4 3)).2) a0) a2 5).2) (a0 + 1) a1 a2 (a3 - 1) (Int.tdiv a4 3)).2) a0) a2 7).2) (a0 + 1) a1 a2 (a3 - 1) (a4 - (2 * (Int.tdiv a4 3)))).1), F_M_takeBack ((F_M_oddsFrom n9 ((F_M_scratchNow (F_M_takeBack ((F_M_oddsFrom n9 ((F_M_scratchNow (F_M_takeBack ((F_M_oddsFrom n9 ((F_M_scratchNow (F_M_putAside w a0) a2 3).2) (a0 + 1) a1 a2 (a3 - 1) (Int.tdiv a4 3)).2) a0) a2 5).2) (a0 + 1) a1 a2 (a3 - 1) (Int.tdiv a4 3)).2) a0) a2 7).2) (a0 + 1) a1 a2 (a3 - 1) (a4 - (2 * (Int.tdiv a4 3)))).2) a0)).2 := k
    refine z_enter rfl (Nat.le_of_ble_eq_true rfl) ?_
    show z_Wp m_X12_oddsFrom _ 0 [(0, zR 0), (1, zI a0), (2, zI a1), (3, zI a2), (4, zI a3), (5, zI a4)] [] w _
    refine z_aload_n (pc' := 1) 0 rfl rfl dX12_oddsFrom_0 rfl ?_
    refine z_iload_n (pc' := 2) 3 rfl rfl dX12_oddsFrom_1 rfl ?_
    refine z_iload_n (pc' := 3) 2 rfl rfl dX12_oddsFrom_2 rfl ?_
    refine z_invV (as := [zI a2, zI a1]) (st := []) (C := m_X12_layerOf) (fs := [0, 3, 0, 0, 0, 0, 4, 5, 6, 7, 8, 9, 10, 0, 0, 11, 12, 13, 14, 15, 16, 0, 0, 0, 17, 18, 19, 20, 0, 0, 0, 21, 22, 0, 0, 23, 0, 1, 24, 0, 0, 25, 26, 0, 27, 0]) (pc' := 6) dX12_oddsFrom_3 rfl t_7_118 k_X12_layerOf rfl (by decide) rfl rfl rfl rfl (Nat.le_of_ble_eq_true rfl) ?_
    obtain ⟨r1, h⟩ := h
    refine c_M_layerOf r1 ?_
    show z_Wp m_X12_oddsFrom _ 6 [(0, zR 0), (1, zI a0), (2, zI a1), (3, zI a2), (4, zI a3), (5, zI a4)] [zI (F_M_layerOf w a2 a1)] w _
    refine z_iconst (pc' := 7) dX12_oddsFrom_6 rfl ?_
    obtain ⟨r2, h⟩ := h
    refine z_icmp_ne 13 dX12_oddsFrom_7 (by decide) (pc' := 10) rfl r2 (by decide) (fun c => ?_) (fun c => ?_)
    · have h := h.2 c
      rw [if_neg c] at k
      refine z_iload (pc' := 15) 4 rfl dX12_oddsFrom_13 rfl ?_
      obtain ⟨r3, h⟩ := h
      refine z_if_ne 20 dX12_oddsFrom_15 (by decide) (pc' := 18) rfl r3 (fun c => ?_) (fun c => ?_)
      · have h := h.2 c
        rw [if_neg c] at k
        refine z_iload (pc' := 22) 5 rfl dX12_oddsFrom_20 rfl ?_
        refine z_iconst (pc' := 23) dX12_oddsFrom_22 rfl ?_
        obtain ⟨r4, h⟩ := h
        refine z_idiv (pc' := 24) r4 (by decide) (by decide) dX12_oddsFrom_23 rfl ?_
        refine z_istore (pc' := 26) (ls' := [(0, zR 0), (1, zI a0), (2, zI a1), (3, zI a2), (4, zI a3), (5, zI a4), (6, zI (Int.tdiv a4 3))]) (by decide) rfl rfl dX12_oddsFrom_24 rfl ?_
        refine z_iconst (pc' := 27) dX12_oddsFrom_26 rfl ?_
        refine z_istore (pc' := 29) (ls' := [(0, zR 0), (1, zI a0), (2, zI a1), (3, zI a2), (4, zI a3), (5, zI a4), (6, zI (Int.tdiv a4 3)), (7, zI 0)]) (by decide) rfl rfl dX12_oddsFrom_27 rfl ?_
        refine z_aload_n (pc' := 30) 0 rfl rfl dX12_oddsFrom_29 rfl ?_
        refine z_iload_n (pc' := 31) 1 rfl rfl dX12_oddsFrom_30 rfl ?_
        refine z_invV (as := [zI a0]) (st := []) (C := m_X12_putAside) (fs := [0, 3, 0, 0, 0, 0, 4, 5, 6, 7, 8, 9, 10, 0, 0, 11, 12, 13, 14, 15, 16, 0, 0, 0, 17, 18, 19, 20, 0, 0, 0, 21, 22, 0, 0, 23, 0, 1, 24, 0, 0, 25, 26, 0, 27, 0]) (pc' := 34) dX12_oddsFrom_31 rfl t_8_97 k_X12_putAside rfl (by decide) rfl rfl rfl rfl (Nat.le_of_ble_eq_true rfl) ?_
        obtain ⟨r5, h⟩ := h
        refine c_M_putAside r5 ?_
        show z_Wp m_X12_oddsFrom _ 34 [(0, zR 0), (1, zI a0), (2, zI a1), (3, zI a2), (4, zI a3), (5, zI a4), (6, zI (Int.tdiv a4 3)), (7, zI 0)] [] (F_M_putAside w a0) _
        refine z_iconst (pc' := 35) dX12_oddsFrom_34 rfl ?_
        refine z_istore (pc' := 37) (ls' := [(0, zR 0), (1, zI a0), (2, zI a1), (3, zI a2), (4, zI a3), (5, zI a4), (6, zI (Int.tdiv a4 3)), (7, zI 0), (8, zI 3)]) (by decide) rfl rfl dX12_oddsFrom_35 rfl ?_
        refine z_iload (pc' := 39) 8 rfl dX12_oddsFrom_37 rfl ?_
        refine z_bipush (pc' := 41) (by decide) dX12_oddsFrom_39 rfl ?_
        refine z_icmp_gt 100 dX12_oddsFrom_41 (by decide) (pc' := 44) rfl (by decide) (by decide) (fun c => absurd c (by decide)) (fun _ => ?_)
        refine z_aload_n (pc' := 45) 0 rfl rfl dX12_oddsFrom_44 rfl ?_
        refine z_iload_n (pc' := 46) 3 rfl rfl dX12_oddsFrom_45 rfl ?_
        refine z_iload (pc' := 48) 8 rfl dX12_oddsFrom_46 rfl ?_
        refine z_invV (as := [zI a2, zI 3]) (st := []) (C := m_X12_scratchNow) (fs := [0, 3, 0, 0, 0, 0, 4, 5, 6, 7, 8, 9, 10, 0, 0, 11, 12, 13, 14, 15, 16, 0, 0, 0, 17, 18, 19, 20, 0, 0, 0, 21, 22, 0, 0, 23, 0, 1, 24, 0, 0, 25, 26, 0, 27, 0]) (pc' := 51) dX12_oddsFrom_48 rfl t_8_3 k_X12_scratchNow rfl (by decide) rfl rfl rfl rfl (Nat.le_of_ble_eq_true rfl) ?_
        obtain ⟨r6, h⟩ := h
        refine c_M_scratchNow r6 ?_
        show z_Wp m_X12_oddsFrom _ 51 [(0, zR 0), (1, zI a0), (2, zI a1), (3, zI a2), (4, zI a3), (5, zI a4), (6, zI (Int.tdiv a4 3)), (7, zI 0), (8, zI 3)] [zI ((F_M_scratchNow (F_M_putAside w a0) a2 3).1)] ((F_M_scratchNow (F_M_putAside w a0) a2 3).2) _
        refine z_pop (pc' := 52) rfl dX12_oddsFrom_51 rfl ?_
        refine z_iload (pc' := 54) 7 rfl dX12_oddsFrom_52 rfl ?_
        refine z_aload_n (pc' := 55) 0 rfl rfl dX12_oddsFrom_54 rfl ?_
        refine z_iload_n (pc' := 56) 1 rfl rfl dX12_oddsFrom_55 rfl ?_
        refine z_iconst (pc' := 57) dX12_oddsFrom_56 rfl ?_
        refine z_iadd (pc' := 58) dX12_oddsFrom_57 rfl ?_
        refine z_iload_n (pc' := 59) 2 rfl rfl dX12_oddsFrom_58 rfl ?_
        refine z_iload_n (pc' := 60) 3 rfl rfl dX12_oddsFrom_59 rfl ?_
        refine z_iload (pc' := 62) 4 rfl dX12_oddsFrom_60 rfl ?_
        refine z_iconst (pc' := 63) dX12_oddsFrom_62 rfl ?_
        refine z_isub (pc' := 64) dX12_oddsFrom_63 rfl ?_
        refine z_iload (pc' := 66) 8 rfl dX12_oddsFrom_64 rfl ?_
        refine z_bipush (pc' := 68) (by decide) dX12_oddsFrom_66 rfl ?_
        refine z_icmp_ne 81 dX12_oddsFrom_68 (by decide) (pc' := 71) rfl (by decide) (by decide) (fun _ => ?_) (fun c => absurd c (by decide))
        refine z_iload (pc' := 83) 6 rfl dX12_oddsFrom_81 rfl ?_
        refine z_invV (as := [zI (a0 + 1), zI a1, zI a2, zI (a3 - 1), zI (Int.tdiv a4 3)]) (st := [zI 0]) (C := m_X12_oddsFrom) (fs := [0, 3, 0, 0, 0, 0, 4, 5, 6, 7, 8, 9, 10, 0, 0, 11, 12, 13, 14, 15, 16, 0, 0, 0, 17, 18, 19, 20, 0, 0, 0, 21, 22, 0, 0, 23, 0, 1, 24, 0, 0, 25, 26, 0, 27, 0]) (pc' := 86) dX12_oddsFrom_83 rfl t_8_164 k_X12_oddsFrom rfl (by decide) rfl rfl rfl rfl (Nat.le_of_ble_eq_true rfl) ?_
        obtain ⟨r7, h⟩ := h
        refine z_dcast (d' := d + n9 + 5) (by omega) (ihr r7 ?_)
        show z_Wp m_X12_oddsFrom _ 86 [(0, zR 0), (1, zI a0), (2, zI a1), (3, zI a2), (4, zI a3), (5, zI a4), (6, zI (Int.tdiv a4 3)), (7, zI 0), (8, zI 3)] [zI ((F_M_oddsFrom n9 ((F_M_scratchNow (F_M_putAside w a0) a2 3).2) (a0 + 1) a1 a2 (a3 - 1) (Int.tdiv a4 3)).1), zI 0] ((F_M_oddsFrom n9 ((F_M_scratchNow (F_M_putAside w a0) a2 3).2) (a0 + 1) a1 a2 (a3 - 1) (Int.tdiv a4 3)).2) _
        refine z_iadd (pc' := 87) dX12_oddsFrom_86 rfl ?_
        refine z_eqI (y := (F_M_oddsFrom n9 ((F_M_scratchNow (F_M_putAside w a0) a2 3).2) (a0 + 1) a1 a2 (a3 - 1) (Int.tdiv a4 3)).1) (by omega) ?_
        refine z_istore (pc' := 89) (ls' := [(0, zR 0), (1, zI a0), (2, zI a1), (3, zI a2), (4, zI a3), (5, zI a4), (6, zI (Int.tdiv a4 3)), (7, zI ((F_M_oddsFrom n9 ((F_M_scratchNow (F_M_putAside w a0) a2 3).2) (a0 + 1) a1 a2 (a3 - 1) (Int.tdiv a4 3)).1)), (8, zI 3)]) (by decide) rfl rfl dX12_oddsFrom_87 rfl ?_
        refine z_aload_n (pc' := 90) 0 rfl rfl dX12_oddsFrom_89 rfl ?_
        refine z_iload_n (pc' := 91) 1 rfl rfl dX12_oddsFrom_90 rfl ?_
        refine z_invV (as := [zI a0]) (st := []) (C := m_X12_takeBack) (fs := [0, 3, 0, 0, 0, 0, 4, 5, 6, 7, 8, 9, 10, 0, 0, 11, 12, 13, 14, 15, 16, 0, 0, 0, 17, 18, 19, 20, 0, 0, 0, 21, 22, 0, 0, 23, 0, 1, 24, 0, 0, 25, 26, 0, 27, 0]) (pc' := 94) dX12_oddsFrom_91 rfl t_8_101 k_X12_takeBack rfl (by decide) rfl rfl rfl rfl (Nat.le_of_ble_eq_true rfl) ?_
        obtain ⟨r8, h⟩ := h
        refine c_M_takeBack r8 ?_
        show z_Wp m_X12_oddsFrom _ 94 [(0, zR 0), (1, zI a0), (2, zI a1), (3, zI a2), (4, zI a3), (5, zI a4), (6, zI (Int.tdiv a4 3)), (7, zI ((F_M_oddsFrom n9 ((F_M_scratchNow (F_M_putAside w a0) a2 3).2) (a0 + 1) a1 a2 (a3 - 1) (Int.tdiv a4 3)).1)), (8, zI 3)] [] (F_M_takeBack ((F_M_oddsFrom n9 ((F_M_scratchNow (F_M_putAside w a0) a2 3).2) (a0 + 1) a1 a2 (a3 - 1) (Int.tdiv a4 3)).2) a0) _
        refine z_iinc (pc' := 97) (ls' := [(0, zR 0), (1, zI a0), (2, zI a1), (3, zI a2), (4, zI a3), (5, zI a4), (6, zI (Int.tdiv a4 3)), (7, zI ((F_M_oddsFrom n9 ((F_M_scratchNow (F_M_putAside w a0) a2 3).2) (a0 + 1) a1 a2 (a3 - 1) (Int.tdiv a4 3)).1)), (8, zI 5)]) 8 rfl (by decide) rfl rfl dX12_oddsFrom_94 rfl ?_
        refine z_goto 37 dX12_oddsFrom_97 (by decide) ?_
        refine z_iload (pc' := 39) 8 rfl dX12_oddsFrom_37 rfl ?_
        refine z_bipush (pc' := 41) (by decide) dX12_oddsFrom_39 rfl ?_
        refine z_icmp_gt 100 dX12_oddsFrom_41 (by decide) (pc' := 44) rfl (by decide) (by decide) (fun c => absurd c (by decide)) (fun _ => ?_)
        refine z_aload_n (pc' := 45) 0 rfl rfl dX12_oddsFrom_44 rfl ?_
        refine z_iload_n (pc' := 46) 3 rfl rfl dX12_oddsFrom_45 rfl ?_
        refine z_iload (pc' := 48) 8 rfl dX12_oddsFrom_46 rfl ?_
        refine z_invV (as := [zI a2, zI 5]) (st := []) (C := m_X12_scratchNow) (fs := [0, 3, 0, 0, 0, 0, 4, 5, 6, 7, 8, 9, 10, 0, 0, 11, 12, 13, 14, 15, 16, 0, 0, 0, 17, 18, 19, 20, 0, 0, 0, 21, 22, 0, 0, 23, 0, 1, 24, 0, 0, 25, 26, 0, 27, 0]) (pc' := 51) dX12_oddsFrom_48 rfl t_8_3 k_X12_scratchNow rfl (by decide) rfl rfl rfl rfl (Nat.le_of_ble_eq_true rfl) ?_
        obtain ⟨r9, h⟩ := h
        refine c_M_scratchNow r9 ?_
        show z_Wp m_X12_oddsFrom _ 51 [(0, zR 0), (1, zI a0), (2, zI a1), (3, zI a2), (4, zI a3), (5, zI a4), (6, zI (Int.tdiv a4 3)), (7, zI ((F_M_oddsFrom n9 ((F_M_scratchNow (F_M_putAside w a0) a2 3).2) (a0 + 1) a1 a2 (a3 - 1) (Int.tdiv a4 3)).1)), (8, zI 5)] [zI ((F_M_scratchNow (F_M_takeBack ((F_M_oddsFrom n9 ((F_M_scratchNow (F_M_putAside w a0) a2 3).2) (a0 + 1) a1 a2 (a3 - 1) (Int.tdiv a4 3)).2) a0) a2 5).1)] ((F_M_scratchNow (F_M_takeBack ((F_M_oddsFrom n9 ((F_M_scratchNow (F_M_putAside w a0) a2 3).2) (a0 + 1) a1 a2 (a3 - 1) (Int.tdiv a4 3)).2) a0) a2 5).2) _
        refine z_pop (pc' := 52) rfl dX12_oddsFrom_51 rfl ?_
        refine z_iload (pc' := 54) 7 rfl dX12_oddsFrom_52 rfl ?_
        refine z_aload_n (pc' := 55) 0 rfl rfl dX12_oddsFrom_54 rfl ?_
        refine z_iload_n (pc' := 56) 1 rfl rfl dX12_oddsFrom_55 rfl ?_
        refine z_iconst (pc' := 57) dX12_oddsFrom_56 rfl ?_
        refine z_iadd (pc' := 58) dX12_oddsFrom_57 rfl ?_
        refine z_iload_n (pc' := 59) 2 rfl rfl dX12_oddsFrom_58 rfl ?_
        refine z_iload_n (pc' := 60) 3 rfl rfl dX12_oddsFrom_59 rfl ?_
        refine z_iload (pc' := 62) 4 rfl dX12_oddsFrom_60 rfl ?_
        refine z_iconst (pc' := 63) dX12_oddsFrom_62 rfl ?_
        refine z_isub (pc' := 64) dX12_oddsFrom_63 rfl ?_
        refine z_iload (pc' := 66) 8 rfl dX12_oddsFrom_64 rfl ?_
        refine z_bipush (pc' := 68) (by decide) dX12_oddsFrom_66 rfl ?_
        refine z_icmp_ne 81 dX12_oddsFrom_68 (by decide) (pc' := 71) rfl (by decide) (by decide) (fun _ => ?_) (fun c => absurd c (by decide))
        refine z_iload (pc' := 83) 6 rfl dX12_oddsFrom_81 rfl ?_
        refine z_invV (as := [zI (a0 + 1), zI a1, zI a2, zI (a3 - 1), zI (Int.tdiv a4 3)]) (st := [zI ((F_M_oddsFrom n9 ((F_M_scratchNow (F_M_putAside w a0) a2 3).2) (a0 + 1) a1 a2 (a3 - 1) (Int.tdiv a4 3)).1)]) (C := m_X12_oddsFrom) (fs := [0, 3, 0, 0, 0, 0, 4, 5, 6, 7, 8, 9, 10, 0, 0, 11, 12, 13, 14, 15, 16, 0, 0, 0, 17, 18, 19, 20, 0, 0, 0, 21, 22, 0, 0, 23, 0, 1, 24, 0, 0, 25, 26, 0, 27, 0]) (pc' := 86) dX12_oddsFrom_83 rfl t_8_164 k_X12_oddsFrom rfl (by decide) rfl rfl rfl rfl (Nat.le_of_ble_eq_true rfl) ?_
        obtain ⟨r10, h⟩ := h
        refine z_dcast (d' := d + n9 + 5) (by omega) (ihr r10 ?_)
        show z_Wp m_X12_oddsFrom _ 86 [(0, zR 0), (1, zI a0), (2, zI a1), (3, zI a2), (4, zI a3), (5, zI a4), (6, zI (Int.tdiv a4 3)), (7, zI ((F_M_oddsFrom n9 ((F_M_scratchNow (F_M_putAside w a0) a2 3).2) (a0 + 1) a1 a2 (a3 - 1) (Int.tdiv a4 3)).1)), (8, zI 5)] [zI ((F_M_oddsFrom n9 ((F_M_scratchNow (F_M_takeBack ((F_M_oddsFrom n9 ((F_M_scratchNow (F_M_putAside w a0) a2 3).2) (a0 + 1) a1 a2 (a3 - 1) (Int.tdiv a4 3)).2) a0) a2 5).2) (a0 + 1) a1 a2 (a3 - 1) (Int.tdiv a4 3)).1), zI ((F_M_oddsFrom n9 ((F_M_scratchNow (F_M_putAside w a0) a2 3).2) (a0 + 1) a1 a2 (a3 - 1) (Int.tdiv a4 3)).1)] ((F_M_oddsFrom n9 ((F_M_scratchNow (F_M_takeBack ((F_M_oddsFrom n9 ((F_M_scratchNow (F_M_putAside w a0) a2 3).2) (a0 + 1) a1 a2 (a3 - 1) (Int.tdiv a4 3)).2) a0) a2 5).2) (a0 + 1) a1 a2 (a3 - 1) (Int.tdiv a4 3)).2) _
        refine z_iadd (pc' := 87) dX12_oddsFrom_86 rfl ?_
        refine z_istore (pc' := 89) (ls' := [(0, zR 0), (1, zI a0), (2, zI a1), (3, zI a2), (4, zI a3), (5, zI a4), (6, zI (Int.tdiv a4 3)), (7, zI (((F_M_oddsFrom n9 ((F_M_scratchNow (F_M_putAside w a0) a2 3).2) (a0 + 1) a1 a2 (a3 - 1) (Int.tdiv a4 3)).1) + ((F_M_oddsFrom n9 ((F_M_scratchNow (F_M_takeBack ((F_M_oddsFrom n9 ((F_M_scratchNow (F_M_putAside w a0) a2 3).2) (a0 + 1) a1 a2 (a3 - 1) (Int.tdiv a4 3)).2) a0) a2 5).2) (a0 + 1) a1 a2 (a3 - 1) (Int.tdiv a4 3)).1))), (8, zI 5)]) (by decide) rfl rfl dX12_oddsFrom_87 rfl ?_
        refine z_aload_n (pc' := 90) 0 rfl rfl dX12_oddsFrom_89 rfl ?_
        refine z_iload_n (pc' := 91) 1 rfl rfl dX12_oddsFrom_90 rfl ?_
        refine z_invV (as := [zI a0]) (st := []) (C := m_X12_takeBack) (fs := [0, 3, 0, 0, 0, 0, 4, 5, 6, 7, 8, 9, 10, 0, 0, 11, 12, 13, 14, 15, 16, 0, 0, 0, 17, 18, 19, 20, 0, 0, 0, 21, 22, 0, 0, 23, 0, 1, 24, 0, 0, 25, 26, 0, 27, 0]) (pc' := 94) dX12_oddsFrom_91 rfl t_8_101 k_X12_takeBack rfl (by decide) rfl rfl rfl rfl (Nat.le_of_ble_eq_true rfl) ?_
        obtain ⟨r11, h⟩ := h
        refine c_M_takeBack r11 ?_
        show z_Wp m_X12_oddsFrom _ 94 [(0, zR 0), (1, zI a0), (2, zI a1), (3, zI a2), (4, zI a3), (5, zI a4), (6, zI (Int.tdiv a4 3)), (7, zI (((F_M_oddsFrom n9 ((F_M_scratchNow (F_M_putAside w a0) a2 3).2) (a0 + 1) a1 a2 (a3 - 1) (Int.tdiv a4 3)).1) + ((F_M_oddsFrom n9 ((F_M_scratchNow (F_M_takeBack ((F_M_oddsFrom n9 ((F_M_scratchNow (F_M_putAside w a0) a2 3).2) (a0 + 1) a1 a2 (a3 - 1) (Int.tdiv a4 3)).2) a0) a2 5).2) (a0 + 1) a1 a2 (a3 - 1) (Int.tdiv a4 3)).1))), (8, zI 5)] [] (F_M_takeBack ((F_M_oddsFrom n9 ((F_M_scratchNow (F_M_takeBack ((F_M_oddsFrom n9 ((F_M_scratchNow (F_M_putAside w a0) a2 3).2) (a0 + 1) a1 a2 (a3 - 1) (Int.tdiv a4 3)).2) a0) a2 5).2) (a0 + 1) a1 a2 (a3 - 1) (Int.tdiv a4 3)).2) a0) _
        refine z_iinc (pc' := 97) (ls' := [(0, zR 0), (1, zI a0), (2, zI a1), (3, zI a2), (4, zI a3), (5, zI a4), (6, zI (Int.tdiv a4 3)), (7, zI (((F_M_oddsFrom n9 ((F_M_scratchNow (F_M_putAside w a0) a2 3).2) (a0 + 1) a1 a2 (a3 - 1) (Int.tdiv a4 3)).1) + ((F_M_oddsFrom n9 ((F_M_scratchNow (F_M_takeBack ((F_M_oddsFrom n9 ((F_M_scratchNow (F_M_putAside w a0) a2 3).2) (a0 + 1) a1 a2 (a3 - 1) (Int.tdiv a4 3)).2) a0) a2 5).2) (a0 + 1) a1 a2 (a3 - 1) (Int.tdiv a4 3)).1))), (8, zI 7)]) 8 rfl (by decide) rfl rfl dX12_oddsFrom_94 rfl ?_
        refine z_goto 37 dX12_oddsFrom_97 (by decide) ?_
        refine z_iload (pc' := 39) 8 rfl dX12_oddsFrom_37 rfl ?_
        refine z_bipush (pc' := 41) (by decide) dX12_oddsFrom_39 rfl ?_
        refine z_icmp_gt 100 dX12_oddsFrom_41 (by decide) (pc' := 44) rfl (by decide) (by decide) (fun c => absurd c (by decide)) (fun _ => ?_)
        refine z_aload_n (pc' := 45) 0 rfl rfl dX12_oddsFrom_44 rfl ?_
        refine z_iload_n (pc' := 46) 3 rfl rfl dX12_oddsFrom_45 rfl ?_
        refine z_iload (pc' := 48) 8 rfl dX12_oddsFrom_46 rfl ?_
        refine z_invV (as := [zI a2, zI 7]) (st := []) (C := m_X12_scratchNow) (fs := [0, 3, 0, 0, 0, 0, 4, 5, 6, 7, 8, 9, 10, 0, 0, 11, 12, 13, 14, 15, 16, 0, 0, 0, 17, 18, 19, 20, 0, 0, 0, 21, 22, 0, 0, 23, 0, 1, 24, 0, 0, 25, 26, 0, 27, 0]) (pc' := 51) dX12_oddsFrom_48 rfl t_8_3 k_X12_scratchNow rfl (by decide) rfl rfl rfl rfl (Nat.le_of_ble_eq_true rfl) ?_
        obtain ⟨r12, h⟩ := h
        refine c_M_scratchNow r12 ?_
        show z_Wp m_X12_oddsFrom _ 51 [(0, zR 0), (1, zI a0), (2, zI a1), (3, zI a2), (4, zI a3), (5, zI a4), (6, zI (Int.tdiv a4 3)), (7, zI (((F_M_oddsFrom n9 ((F_M_scratchNow (F_M_putAside w a0) a2 3).2) (a0 + 1) a1 a2 (a3 - 1) (Int.tdiv a4 3)).1) + ((F_M_oddsFrom n9 ((F_M_scratchNow (F_M_takeBack ((F_M_oddsFrom n9 ((F_M_scratchNow (F_M_putAside w a0) a2 3).2) (a0 + 1) a1 a2 (a3 - 1) (Int.tdiv a4 3)).2) a0) a2 5).2) (a0 + 1) a1 a2 (a3 - 1) (Int.tdiv a4 3)).1))), (8, zI 7)] [zI ((F_M_scratchNow (F_M_takeBack ((F_M_oddsFrom n9 ((F_M_scratchNow (F_M_takeBack ((F_M_oddsFrom n9 ((F_M_scratchNow (F_M_putAside w a0) a2 3).2) (a0 + 1) a1 a2 (a3 - 1) (Int.tdiv a4 3)).2) a0) a2 5).2) (a0 + 1) a1 a2 (a3 - 1) (Int.tdiv a4 3)).2) a0) a2 7).1)] ((F_M_scratchNow (F_M_takeBack ((F_M_oddsFrom n9 ((F_M_scratchNow (F_M_takeBack ((F_M_oddsFrom n9 ((F_M_scratchNow (F_M_putAside w a0) a2 3).2) (a0 + 1) a1 a2 (a3 - 1) (Int.tdiv a4 3)).2) a0) a2 5).2) (a0 + 1) a1 a2 (a3 - 1) (Int.tdiv a4 3)).2) a0) a2 7).2) _
        refine z_pop (pc' := 52) rfl dX12_oddsFrom_51 rfl ?_
        refine z_iload (pc' := 54) 7 rfl dX12_oddsFrom_52 rfl ?_
        refine z_aload_n (pc' := 55) 0 rfl rfl dX12_oddsFrom_54 rfl ?_
        refine z_iload_n (pc' := 56) 1 rfl rfl dX12_oddsFrom_55 rfl ?_
        refine z_iconst (pc' := 57) dX12_oddsFrom_56 rfl ?_
        refine z_iadd (pc' := 58) dX12_oddsFrom_57 rfl ?_
        refine z_iload_n (pc' := 59) 2 rfl rfl dX12_oddsFrom_58 rfl ?_
        refine z_iload_n (pc' := 60) 3 rfl rfl dX12_oddsFrom_59 rfl ?_
        refine z_iload (pc' := 62) 4 rfl dX12_oddsFrom_60 rfl ?_
        refine z_iconst (pc' := 63) dX12_oddsFrom_62 rfl ?_
        refine z_isub (pc' := 64) dX12_oddsFrom_63 rfl ?_
        refine z_iload (pc' := 66) 8 rfl dX12_oddsFrom_64 rfl ?_
        refine z_bipush (pc' := 68) (by decide) dX12_oddsFrom_66 rfl ?_
        refine z_icmp_ne 81 dX12_oddsFrom_68 (by decide) (pc' := 71) rfl (by decide) (by decide) (fun c => absurd c (by decide)) (fun _ => ?_)
        refine z_iload (pc' := 73) 5 rfl dX12_oddsFrom_71 rfl ?_
        refine z_iconst (pc' := 74) dX12_oddsFrom_73 rfl ?_
        refine z_iload (pc' := 76) 6 rfl dX12_oddsFrom_74 rfl ?_
        refine z_imul (pc' := 77) dX12_oddsFrom_76 rfl ?_
        refine z_isub (pc' := 78) dX12_oddsFrom_77 rfl ?_
        refine z_goto 83 dX12_oddsFrom_78 (by decide) ?_
        refine z_invV (as := [zI (a0 + 1), zI a1, zI a2, zI (a3 - 1), zI (a4 - (2 * (Int.tdiv a4 3)))]) (st := [zI (((F_M_oddsFrom n9 ((F_M_scratchNow (F_M_putAside w a0) a2 3).2) (a0 + 1) a1 a2 (a3 - 1) (Int.tdiv a4 3)).1) + ((F_M_oddsFrom n9 ((F_M_scratchNow (F_M_takeBack ((F_M_oddsFrom n9 ((F_M_scratchNow (F_M_putAside w a0) a2 3).2) (a0 + 1) a1 a2 (a3 - 1) (Int.tdiv a4 3)).2) a0) a2 5).2) (a0 + 1) a1 a2 (a3 - 1) (Int.tdiv a4 3)).1))]) (C := m_X12_oddsFrom) (fs := [0, 3, 0, 0, 0, 0, 4, 5, 6, 7, 8, 9, 10, 0, 0, 11, 12, 13, 14, 15, 16, 0, 0, 0, 17, 18, 19, 20, 0, 0, 0, 21, 22, 0, 0, 23, 0, 1, 24, 0, 0, 25, 26, 0, 27, 0]) (pc' := 86) dX12_oddsFrom_83 rfl t_8_164 k_X12_oddsFrom rfl (by decide) rfl rfl rfl rfl (Nat.le_of_ble_eq_true rfl) ?_
        obtain ⟨r13, h⟩ := h
        refine z_dcast (d' := d + n9 + 5) (by omega) (ihr r13 ?_)
        show z_Wp m_X12_oddsFrom _ 86 [(0, zR 0), (1, zI a0), (2, zI a1), (3, zI a2), (4, zI a3), (5, zI a4), (6, zI (Int.tdiv a4 3)), (7, zI (((F_M_oddsFrom n9 ((F_M_scratchNow (F_M_putAside w a0) a2 3).2) (a0 + 1) a1 a2 (a3 - 1) (Int.tdiv a4 3)).1) + ((F_M_oddsFrom n9 ((F_M_scratchNow (F_M_takeBack ((F_M_oddsFrom n9 ((F_M_scratchNow (F_M_putAside w a0) a2 3).2) (a0 + 1) a1 a2 (a3 - 1) (Int.tdiv a4 3)).2) a0) a2 5).2) (a0 + 1) a1 a2 (a3 - 1) (Int.tdiv a4 3)).1))), (8, zI 7)] [zI ((F_M_oddsFrom n9 ((F_M_scratchNow (F_M_takeBack ((F_M_oddsFrom n9 ((F_M_scratchNow (F_M_takeBack ((F_M_oddsFrom n9 ((F_M_scratchNow (F_M_putAside w a0) a2 3).2) (a0 + 1) a1 a2 (a3 - 1) (Int.tdiv a4 3)).2) a0) a2 5).2) (a0 + 1) a1 a2 (a3 - 1) (Int.tdiv a4 3)).2) a0) a2 7).2) (a0 + 1) a1 a2 (a3 - 1) (a4 - (2 * (Int.tdiv a4 3)))).1), zI (((F_M_oddsFrom n9 ((F_M_scratchNow (F_M_putAside w a0) a2 3).2) (a0 + 1) a1 a2 (a3 - 1) (Int.tdiv a4 3)).1) + ((F_M_oddsFrom n9 ((F_M_scratchNow (F_M_takeBack ((F_M_oddsFrom n9 ((F_M_scratchNow (F_M_putAside w a0) a2 3).2) (a0 + 1) a1 a2 (a3 - 1) (Int.tdiv a4 3)).2) a0) a2 5).2) (a0 + 1) a1 a2 (a3 - 1) (Int.tdiv a4 3)).1))] ((F_M_oddsFrom n9 ((F_M_scratchNow (F_M_takeBack ((F_M_oddsFrom n9 ((F_M_scratchNow (F_M_takeBack ((F_M_oddsFrom n9 ((F_M_scratchNow (F_M_putAside w a0) a2 3).2) (a0 + 1) a1 a2 (a3 - 1) (Int.tdiv a4 3)).2) a0) a2 5).2) (a0 + 1) a1 a2 (a3 - 1) (Int.tdiv a4 3)).2) a0) a2 7).2) (a0 + 1) a1 a2 (a3 - 1) (a4 - (2 * (Int.tdiv a4 3)))).2) _
        refine z_iadd (pc' := 87) dX12_oddsFrom_86 rfl ?_
        refine z_istore (pc' := 89) (ls' := [(0, zR 0), (1, zI a0), (2, zI a1), (3, zI a2), (4, zI a3), (5, zI a4), (6, zI (Int.tdiv a4 3)), (7, zI ((((F_M_oddsFrom n9 ((F_M_scratchNow (F_M_putAside w a0) a2 3).2) (a0 + 1) a1 a2 (a3 - 1) (Int.tdiv a4 3)).1) + ((F_M_oddsFrom n9 ((F_M_scratchNow (F_M_takeBack ((F_M_oddsFrom n9 ((F_M_scratchNow (F_M_putAside w a0) a2 3).2) (a0 + 1) a1 a2 (a3 - 1) (Int.tdiv a4 3)).2) a0) a2 5).2) (a0 + 1) a1 a2 (a3 - 1) (Int.tdiv a4 3)).1)) + ((F_M_oddsFrom n9 ((F_M_scratchNow (F_M_takeBack ((F_M_oddsFrom n9 ((F_M_scratchNow (F_M_takeBack ((F_M_oddsFrom n9 ((F_M_scratchNow (F_M_putAside w a0) a2 3).2) (a0 + 1) a1 a2 (a3 - 1) (Int.tdiv a4 3)).2) a0) a2 5).2) (a0 + 1) a1 a2 (a3 - 1) (Int.tdiv a4 3)).2) a0) a2 7).2) (a0 + 1) a1 a2 (a3 - 1) (a4 - (2 * (Int.tdiv a4 3)))).1))), (8, zI 7)]) (by decide) rfl rfl dX12_oddsFrom_87 rfl ?_
        refine z_aload_n (pc' := 90) 0 rfl rfl dX12_oddsFrom_89 rfl ?_
        refine z_iload_n (pc' := 91) 1 rfl rfl dX12_oddsFrom_90 rfl ?_
        refine z_invV (as := [zI a0]) (st := []) (C := m_X12_takeBack) (fs := [0, 3, 0, 0, 0, 0, 4, 5, 6, 7, 8, 9, 10, 0, 0, 11, 12, 13, 14, 15, 16, 0, 0, 0, 17, 18, 19, 20, 0, 0, 0, 21, 22, 0, 0, 23, 0, 1, 24, 0, 0, 25, 26, 0, 27, 0]) (pc' := 94) dX12_oddsFrom_91 rfl t_8_101 k_X12_takeBack rfl (by decide) rfl rfl rfl rfl (Nat.le_of_ble_eq_true rfl) ?_
        have r14 := h
        refine c_M_takeBack r14 ?_
        show z_Wp m_X12_oddsFrom _ 94 [(0, zR 0), (1, zI a0), (2, zI a1), (3, zI a2), (4, zI a3), (5, zI a4), (6, zI (Int.tdiv a4 3)), (7, zI ((((F_M_oddsFrom n9 ((F_M_scratchNow (F_M_putAside w a0) a2 3).2) (a0 + 1) a1 a2 (a3 - 1) (Int.tdiv a4 3)).1) + ((F_M_oddsFrom n9 ((F_M_scratchNow (F_M_takeBack ((F_M_oddsFrom n9 ((F_M_scratchNow (F_M_putAside w a0) a2 3).2) (a0 + 1) a1 a2 (a3 - 1) (Int.tdiv a4 3)).2) a0) a2 5).2) (a0 + 1) a1 a2 (a3 - 1) (Int.tdiv a4 3)).1)) + ((F_M_oddsFrom n9 ((F_M_scratchNow (F_M_takeBack ((F_M_oddsFrom n9 ((F_M_scratchNow (F_M_takeBack ((F_M_oddsFrom n9 ((F_M_scratchNow (F_M_putAside w a0) a2 3).2) (a0 + 1) a1 a2 (a3 - 1) (Int.tdiv a4 3)).2) a0) a2 5).2) (a0 + 1) a1 a2 (a3 - 1) (Int.tdiv a4 3)).2) a0) a2 7).2) (a0 + 1) a1 a2 (a3 - 1) (a4 - (2 * (Int.tdiv a4 3)))).1))), (8, zI 7)] [] (F_M_takeBack ((F_M_oddsFrom n9 ((F_M_scratchNow (F_M_takeBack ((F_M_oddsFrom n9 ((F_M_scratchNow (F_M_takeBack ((F_M_oddsFrom n9 ((F_M_scratchNow (F_M_putAside w a0) a2 3).2) (a0 + 1) a1 a2 (a3 - 1) (Int.tdiv a4 3)).2) a0) a2 5).2) (a0 + 1) a1 a2 (a3 - 1) (Int.tdiv a4 3)).2) a0) a2 7).2) (a0 + 1) a1 a2 (a3 - 1) (a4 - (2 * (Int.tdiv a4 3)))).2) a0) _
        refine z_iinc (pc' := 97) (ls' := [(0, zR 0), (1, zI a0), (2, zI a1), (3, zI a2), (4, zI a3), (5, zI a4), (6, zI (Int.tdiv a4 3)), (7, zI ((((F_M_oddsFrom n9 ((F_M_scratchNow (F_M_putAside w a0) a2 3).2) (a0 + 1) a1 a2 (a3 - 1) (Int.tdiv a4 3)).1) + ((F_M_oddsFrom n9 ((F_M_scratchNow (F_M_takeBack ((F_M_oddsFrom n9 ((F_M_scratchNow (F_M_putAside w a0) a2 3).2) (a0 + 1) a1 a2 (a3 - 1) (Int.tdiv a4 3)).2) a0) a2 5).2) (a0 + 1) a1 a2 (a3 - 1) (Int.tdiv a4 3)).1)) + ((F_M_oddsFrom n9 ((F_M_scratchNow (F_M_takeBack ((F_M_oddsFrom n9 ((F_M_scratchNow (F_M_takeBack ((F_M_oddsFrom n9 ((F_M_scratchNow (F_M_putAside w a0) a2 3).2) (a0 + 1) a1 a2 (a3 - 1) (Int.tdiv a4 3)).2) a0) a2 5).2) (a0 + 1) a1 a2 (a3 - 1) (Int.tdiv a4 3)).2) a0) a2 7).2) (a0 + 1) a1 a2 (a3 - 1) (a4 - (2 * (Int.tdiv a4 3)))).1))), (8, zI 9)]) 8 rfl (by decide) rfl rfl dX12_oddsFrom_94 rfl ?_
        refine z_goto 37 dX12_oddsFrom_97 (by decide) ?_
        refine z_iload (pc' := 39) 8 rfl dX12_oddsFrom_37 rfl ?_
        refine z_bipush (pc' := 41) (by decide) dX12_oddsFrom_39 rfl ?_
        refine z_icmp_gt 100 dX12_oddsFrom_41 (by decide) (pc' := 44) rfl (by decide) (by decide) (fun _ => ?_) (fun c => absurd c (by decide))
        refine z_iload (pc' := 102) 7 rfl dX12_oddsFrom_100 rfl ?_
        refine z_iret rfl dX12_oddsFrom_102 ?_
        exact k
      · have h := h.1 c
        rw [if_pos c] at k
        refine z_iconst (pc' := 19) dX12_oddsFrom_18 rfl ?_
        refine z_iret rfl dX12_oddsFrom_19 ?_
        exact k
    · have h := h.1 c
      rw [if_pos c] at k
      refine z_iload (pc' := 12) 5 rfl dX12_oddsFrom_10 rfl ?_
      refine z_iret rfl dX12_oddsFrom_12 ?_
      exact k
def A_M_tryFaction_93 (w : z_Wd) (a0 : Int) (a1 : Int) (a2 : Int) (a3 : Int) (a4 : Int) (fr : z_Wd → Int → Int → Int → Int → Int → z_Wd): Nat → z_Wd
  | 0 => F_M_putAside w a0
  | i11 + 1 => if F_M_fits (A_M_tryFaction_93 w a0 a1 a2 a3 a4 fr i11) a1 (i11 : Int) = 0 then A_M_tryFaction_93 w a0 a1 a2 a3 a4 fr i11 else F_M_takeBack (fr (F_M_dipNow (A_M_tryFaction_93 w a0 a1 a2 a3 a4 fr i11) a1 (i11 : Int)) (a0 + 1) (a1 + 1) a2 (zz_or a3 (zz_shl 1 (i11 : Int))) ((10 * a4) + (i11 : Int))) a0
def F_M_tryFaction : Nat → z_Wd → Int → Int → Int → Int → Int → z_Wd
  | 0, w, _, _, _, _, _ => w
  | n9 + 1, w, a0, a1, a2, a3, a4 => if a1 = w 0 29 then if w 0 39 = (-1) then z_up (z_up w 0 39 a4) 0 40 (F_J_bitCount_0f7a4 w a3) else if F_J_bitCount_0f7a4 w a3 < w 0 40 then z_up (z_up w 0 39 a4) 0 40 (F_J_bitCount_0f7a4 w a3) else if F_J_bitCount_0f7a4 w a3 = w 0 40 then if a4 ≥ w 0 39 then w else z_up (z_up w 0 39 a4) 0 40 (F_J_bitCount_0f7a4 w a3) else w else if F_M_has w a2 a1 = 0 then F_M_tryFaction n9 w a0 (a1 + 1) a2 a3 a4 else A_M_tryFaction_93 w a0 a1 a2 a3 a4 (F_M_tryFaction n9) ((F_M_putAside w a0) 0 28).toNat
def P_M_tryFaction : Nat → z_Wd → Int → Int → Int → Int → Int → Prop
  | 0, w, _, _, _, _, _ => False
  | n9 + 1, w, a0, a1, a2, a3, a4 => (-2147483648 ≤ a1 ∧ a1 < 2147483648) ∧ (-2147483648 ≤ w 0 29 ∧ w 0 29 < 2147483648) ∧ ((a1 = w 0 29 → (-2147483648 ≤ w 0 39 ∧ w 0 39 < 2147483648) ∧ ((w 0 39 = (-1) → True) ∧ (¬ (w 0 39 = (-1)) → (-2147483648 ≤ F_J_bitCount_0f7a4 w a3 ∧ F_J_bitCount_0f7a4 w a3 < 2147483648) ∧ (-2147483648 ≤ w 0 40 ∧ w 0 40 < 2147483648) ∧ ((F_J_bitCount_0f7a4 w a3 < w 0 40 → True) ∧ (¬ (F_J_bitCount_0f7a4 w a3 < w 0 40) → (F_J_bitCount_0f7a4 w a3 = w 0 40 → -2147483648 ≤ a4 ∧ a4 < 2147483648) ∧ (¬ (F_J_bitCount_0f7a4 w a3 = w 0 40) → True)))))) ∧ (¬ (a1 = w 0 29) → (P_M_has w a2 a1) ∧ ((F_M_has w a2 a1 = 0 → P_M_tryFaction n9 w a0 (a1 + 1) a2 a3 a4) ∧ (¬ (F_M_has w a2 a1 = 0) → (P_M_putAside w a0) ∧ ((∀ i11 : Nat, i11 < (((F_M_putAside w a0) 0 28).toNat) → (-2147483648 ≤ (i11 : Int) ∧ (i11 : Int) < 2147483648) ∧ (-2147483648 ≤ (A_M_tryFaction_93 w a0 a1 a2 a3 a4 (F_M_tryFaction n9) i11) 0 28 ∧ (A_M_tryFaction_93 w a0 a1 a2 a3 a4 (F_M_tryFaction n9) i11) 0 28 < 2147483648) ∧ ((A_M_tryFaction_93 w a0 a1 a2 a3 a4 (F_M_tryFaction n9) i11) 0 28 = (F_M_putAside w a0) 0 28) ∧ (P_M_fits (A_M_tryFaction_93 w a0 a1 a2 a3 a4 (F_M_tryFaction n9) i11) a1 (i11 : Int)) ∧ ((F_M_fits (A_M_tryFaction_93 w a0 a1 a2 a3 a4 (F_M_tryFaction n9) i11) a1 (i11 : Int) = 0 → True) ∧ (¬ (F_M_fits (A_M_tryFaction_93 w a0 a1 a2 a3 a4 (F_M_tryFaction n9) i11) a1 (i11 : Int) = 0) → (P_M_dipNow (A_M_tryFaction_93 w a0 a1 a2 a3 a4 (F_M_tryFaction n9) i11) a1 (i11 : Int)) ∧ (P_M_tryFaction n9 (F_M_dipNow (A_M_tryFaction_93 w a0 a1 a2 a3 a4 (F_M_tryFaction n9) i11) a1 (i11 : Int)) (a0 + 1) (a1 + 1) a2 (zz_or a3 (zz_shl 1 (i11 : Int))) ((10 * a4) + (i11 : Int))) ∧ (P_M_takeBack (F_M_tryFaction n9 (F_M_dipNow (A_M_tryFaction_93 w a0 a1 a2 a3 a4 (F_M_tryFaction n9) i11) a1 (i11 : Int)) (a0 + 1) (a1 + 1) a2 (zz_or a3 (zz_shl 1 (i11 : Int))) ((10 * a4) + (i11 : Int))) a0)))) ∧ ((-2147483648 ≤ ((((F_M_putAside w a0) 0 28).toNat : Nat) : Int) ∧ ((((F_M_putAside w a0) 0 28).toNat : Nat) : Int) < 2147483648) ∧ (-2147483648 ≤ (A_M_tryFaction_93 w a0 a1 a2 a3 a4 (F_M_tryFaction n9) ((F_M_putAside w a0) 0 28).toNat) 0 28 ∧ (A_M_tryFaction_93 w a0 a1 a2 a3 a4 (F_M_tryFaction n9) ((F_M_putAside w a0) 0 28).toNat) 0 28 < 2147483648) ∧ ((A_M_tryFaction_93 w a0 a1 a2 a3 a4 (F_M_tryFaction n9) ((F_M_putAside w a0) 0 28).toNat) 0 28 = (F_M_putAside w a0) 0 28)))))))
set_option maxHeartbeats 2000000 in
set_option maxRecDepth 4000 in
theorem c_M_tryFaction {d : Nat} : ∀ {n9 : Nat} {w : z_Wd} {a0 a1 a2 a3 a4 : Int} {Q : Option z_V → z_Wd → Prop} (h : P_M_tryFaction n9 w a0 a1 a2 a3 a4) (k : Q none (F_M_tryFaction n9 w a0 a1 a2 a3 a4)), z_Wc (d + n9 + 5) m_X12_tryFaction [zR 0, zI a0, zI a1, zI a2, zI a3, zI a4] w Q := by
  intro n9
  induction n9 with
  | zero => intro w a0 a1 a2 a3 a4 Q h k; exact False.elim h
  | succ n9 ihr =>
    intro w a0 a1 a2 a3 a4 Q h k
    have h : (-2147483648 ≤ a1 ∧ a1 < 2147483648) ∧ (-2147483648 ≤ w 0 29 ∧ w 0 29 < 2147483648) ∧ ((a1 = w 0 29 → (-2147483648 ≤ w 0 39 ∧ w 0 39 < 2147483648) ∧ ((w 0 39 = (-1) → True) ∧ (¬ (w 0 39 = (-1)) → (-2147483648 ≤ F_J_bitCount_0f7a4 w a3 ∧ F_J_bitCount_0f7a4 w a3 < 2147483648) ∧ (-2147483648 ≤ w 0 40 ∧ w 0 40 < 2147483648) ∧ ((F_J_bitCount_0f7a4 w a3 < w 0 40 → True) ∧ (¬ (F_J_bitCount_0f7a4 w a3 < w 0 40) → (F_J_bitCount_0f7a4 w a3 = w 0 40 → -2147483648 ≤ a4 ∧ a4 < 2147483648) ∧ (¬ (F_J_bitCount_0f7a4 w a3 = w 0 40) → True)))))) ∧ (¬ (a1 = w 0 29) → (P_M_has w a2 a1) ∧ ((F_M_has w a2 a1 = 0 → P_M_tryFaction n9 w a0 (a1 + 1) a2 a3 a4) ∧ (¬ (F_M_has w a2 a1 = 0) → (P_M_putAside w a0) ∧ ((∀ i11 : Nat, i11 < (((F_M_putAside w a0) 0 28).toNat) → (-2147483648 ≤ (i11 : Int) ∧ (i11 : Int) < 2147483648) ∧ (-2147483648 ≤ (A_M_tryFaction_93 w a0 a1 a2 a3 a4 (F_M_tryFaction n9) i11) 0 28 ∧ (A_M_tryFaction_93 w a0 a1 a2 a3 a4 (F_M_tryFaction n9) i11) 0 28 < 2147483648) ∧ ((A_M_tryFaction_93 w a0 a1 a2 a3 a4 (F_M_tryFaction n9) i11) 0 28 = (F_M_putAside w a0) 0 28) ∧ (P_M_fits (A_M_tryFaction_93 w a0 a1 a2 a3 a4 (F_M_tryFaction n9) i11) a1 (i11 : Int)) ∧ ((F_M_fits (A_M_tryFaction_93 w a0 a1 a2 a3 a4 (F_M_tryFaction n9) i11) a1 (i11 : Int) = 0 → True) ∧ (¬ (F_M_fits (A_M_tryFaction_93 w a0 a1 a2 a3 a4 (F_M_tryFaction n9) i11) a1 (i11 : Int) = 0) → (P_M_dipNow (A_M_tryFaction_93 w a0 a1 a2 a3 a4 (F_M_tryFaction n9) i11) a1 (i11 : Int)) ∧ (P_M_tryFaction n9 (F_M_dipNow (A_M_tryFaction_93 w a0 a1 a2 a3 a4 (F_M_tryFaction n9) i11) a1 (i11 : Int)) (a0 + 1) (a1 + 1) a2 (zz_or a3 (zz_shl 1 (i11 : Int))) ((10 * a4) + (i11 : Int))) ∧ (P_M_takeBack (F_M_tryFaction n9 (F_M_dipNow (A_M_tryFaction_93 w a0 a1 a2 a3 a4 (F_M_tryFaction n9) i11) a1 (i11 : Int)) (a0 + 1) (a1 + 1) a2 (zz_or a3 (zz_shl 1 (i11 : Int))) ((10 * a4) + (i11 : Int))) a0)))) ∧ ((-2147483648 ≤ ((((F_M_putAside w a0) 0 28).toNat : Nat) : Int) ∧ ((((F_M_putAside w a0) 0 28).toNat : Nat) : Int) < 2147483648) ∧ (-2147483648 ≤ (A_M_tryFaction_93 w a0 a1 a2 a3 a4 (F_M_tryFaction n9) ((F_M_putAside w a0) 0 28).toNat) 0 28 ∧ (A_M_tryFaction_93 w a0 a1 a2 a3 a4 (F_M_tryFaction n9) ((F_M_putAside w a0) 0 28).toNat) 0 28 < 2147483648) ∧ ((A_M_tryFaction_93 w a0 a1 a2 a3 a4 (F_M_tryFaction n9) ((F_M_putAside w a0) 0 28).toNat) 0 28 = (F_M_putAside w a0) 0 28))))))) := h
    have k : Q none (if a1 = w 0 29 then if w 0 39 = (-1) then z_up (z_up w 0 39 a4) 0 40 (F_J_bitCount_0f7a4 w a3) else if F_J_bitCount_0f7a4 w a3 < w 0 40 then z_up (z_up w 0 39 a4) 0 40 (F_J_bitCount_0f7a4 w a3) else if F_J_bitCount_0f7a4 w a3 = w 0 40 then if a4 ≥ w 0 39 then w else z_up (z_up w 0 39 a4) 0 40 (F_J_bitCount_0f7a4 w a3) else w else if F_M_has w a2 a1 = 0 then F_M_tryFaction n9 w a0 (a1 + 1) a2 a3 a4 else A_M_tryFaction_93 w a0 a1 a2 a3 a4 (F_M_tryFaction n9) ((F_M_putAside w a0) 0 28).toNat) := k
    refine z_enter rfl (Nat.le_of_ble_eq_true rfl) ?_
    show z_Wp m_X12_tryFaction _ 0 [(0, zR 0), (1, zI a0), (2, zI a1), (3, zI a2), (4, zI a3), (5, zI a4)] [] w _
    refine z_iload_n (pc' := 1) 2 rfl rfl dX12_tryFaction_0 rfl ?_
    refine z_aload_n (pc' := 2) 0 rfl rfl dX12_tryFaction_1 rfl ?_
    refine z_getI2 (v := w 0 29) (pc' := 5) g_X12_260 (by decide) rfl rfl rfl dX12_tryFaction_2 rfl ?_
    obtain ⟨r1, h⟩ := h
    obtain ⟨r2, h⟩ := h
    refine z_icmp_ne 63 dX12_tryFaction_5 (by decide) (pc' := 8) rfl r1 r2 (fun c => ?_) (fun c => ?_)
    · have h := h.2 c
      rw [if_neg c] at k
      refine z_iload_n (pc' := 64) 3 rfl rfl dX12_tryFaction_63 rfl ?_
      refine z_iload_n (pc' := 65) 2 rfl rfl dX12_tryFaction_64 rfl ?_
      refine z_invS (as := [zI a2, zI a1]) (st := []) (C := m_X12_has) (pc' := 68) dX12_tryFaction_65 rfl t_6_237 k_X12_has rfl rfl (Nat.le_of_ble_eq_true rfl) ?_
      obtain ⟨r3, h⟩ := h
      refine c_M_has r3 ?_
      show z_Wp m_X12_tryFaction _ 68 [(0, zR 0), (1, zI a0), (2, zI a1), (3, zI a2), (4, zI a3), (5, zI a4)] [zI (F_M_has w a2 a1)] w _
      refine z_if_ne 85 dX12_tryFaction_68 (by decide) (pc' := 71) rfl (z_rb b_M_has) (fun c => ?_) (fun c => ?_)
      · have h := h.2 c
        rw [if_neg c] at k
        refine z_aload_n (pc' := 86) 0 rfl rfl dX12_tryFaction_85 rfl ?_
        refine z_iload_n (pc' := 87) 1 rfl rfl dX12_tryFaction_86 rfl ?_
        refine z_invV (as := [zI a0]) (st := []) (C := m_X12_putAside) (fs := [0, 3, 0, 0, 0, 0, 4, 5, 6, 7, 8, 9, 10, 0, 0, 11, 12, 13, 14, 15, 16, 0, 0, 0, 17, 18, 19, 20, 0, 0, 0, 21, 22, 0, 0, 23, 0, 1, 24, 0, 0, 25, 26, 0, 27, 0]) (pc' := 90) dX12_tryFaction_87 rfl t_8_97 k_X12_putAside rfl (by decide) rfl rfl rfl rfl (Nat.le_of_ble_eq_true rfl) ?_
        obtain ⟨r4, h⟩ := h
        refine c_M_putAside r4 ?_
        show z_Wp m_X12_tryFaction _ 90 [(0, zR 0), (1, zI a0), (2, zI a1), (3, zI a2), (4, zI a3), (5, zI a4)] [] (F_M_putAside w a0) _
        refine z_iconst (pc' := 91) dX12_tryFaction_90 rfl ?_
        refine z_istore (pc' := 93) (ls' := [(0, zR 0), (1, zI a0), (2, zI a1), (3, zI a2), (4, zI a3), (5, zI a4), (6, zI 0)]) (by decide) rfl rfl dX12_tryFaction_91 rfl ?_
        refine z_upto (((F_M_putAside w a0) 0 28).toNat) (fun i11 => z_Wp m_X12_tryFaction (d + (n9 + 1) + 5) 93 [(0, zR 0), (1, zI a0), (2, zI a1), (3, zI a2), (4, zI a3), (5, zI a4), (6, zI (i11 : Int))] [] (A_M_tryFaction_93 w a0 a1 a2 a3 a4 (F_M_tryFaction n9) i11) Q) ?_ ?_
        · skip
          have h := h.2
          refine z_iload (pc' := 95) 6 rfl dX12_tryFaction_93 rfl ?_
          refine z_aload_n (pc' := 96) 0 rfl rfl dX12_tryFaction_95 rfl ?_
          refine z_getI2 (v := (A_M_tryFaction_93 w a0 a1 a2 a3 a4 (F_M_tryFaction n9) ((F_M_putAside w a0) 0 28).toNat) 0 28) (pc' := 99) g_X12_257 (by decide) rfl rfl rfl dX12_tryFaction_96 rfl ?_
          obtain ⟨r19, h⟩ := h
          obtain ⟨r20, h⟩ := h
          have r21 := h
          refine z_icmp_ge 156 dX12_tryFaction_99 (by decide) (pc' := 102) rfl r19 r20 (fun _ => ?_) (fun c => absurd c (by first | omega | (rw [r21]; first | exact z_exitgt | exact z_exitge | omega)))
          refine z_vret rfl dX12_tryFaction_156 ?_
          exact k
        · intro i11 hi ih
          have h := h.1 i11 hi
          have ih : z_Wp m_X12_tryFaction (d + (n9 + 1) + 5) 93 [(0, zR 0), (1, zI a0), (2, zI a1), (3, zI a2), (4, zI a3), (5, zI a4), (6, zI ((i11 + 1 : Nat) : Int))] [] (if F_M_fits (A_M_tryFaction_93 w a0 a1 a2 a3 a4 (F_M_tryFaction n9) i11) a1 (i11 : Int) = 0 then A_M_tryFaction_93 w a0 a1 a2 a3 a4 (F_M_tryFaction n9) i11 else F_M_takeBack (F_M_tryFaction n9 (F_M_dipNow (A_M_tryFaction_93 w a0 a1 a2 a3 a4 (F_M_tryFaction n9) i11) a1 (i11 : Int)) (a0 + 1) (a1 + 1) a2 (zz_or a3 (zz_shl 1 (i11 : Int))) ((10 * a4) + (i11 : Int))) a0) Q := ih
          refine z_iload (pc' := 95) 6 rfl dX12_tryFaction_93 rfl ?_
          refine z_aload_n (pc' := 96) 0 rfl rfl dX12_tryFaction_95 rfl ?_
          refine z_getI2 (v := (A_M_tryFaction_93 w a0 a1 a2 a3 a4 (F_M_tryFaction n9) i11) 0 28) (pc' := 99) g_X12_257 (by decide) rfl rfl rfl dX12_tryFaction_96 rfl ?_
          obtain ⟨r12, h⟩ := h
          obtain ⟨r13, h⟩ := h
          obtain ⟨r14, h⟩ := h
          refine z_icmp_ge 156 dX12_tryFaction_99 (by decide) (pc' := 102) rfl r12 r13 (fun c => absurd c (by first | omega | (rw [r14]; first | exact z_exitgt | exact z_exitge | omega))) (fun _ => ?_)
          refine z_aload_n (pc' := 103) 0 rfl rfl dX12_tryFaction_102 rfl ?_
          refine z_iload_n (pc' := 104) 2 rfl rfl dX12_tryFaction_103 rfl ?_
          refine z_iload (pc' := 106) 6 rfl dX12_tryFaction_104 rfl ?_
          refine z_invV (as := [zI a1, zI (i11 : Int)]) (st := []) (C := m_X12_fits) (fs := [0, 3, 0, 0, 0, 0, 4, 5, 6, 7, 8, 9, 10, 0, 0, 11, 12, 13, 14, 15, 16, 0, 0, 0, 17, 18, 19, 20, 0, 0, 0, 21, 22, 0, 0, 23, 0, 1, 24, 0, 0, 25, 26, 0, 27, 0]) (pc' := 109) dX12_tryFaction_106 rfl t_7_223 k_X12_fits rfl (by decide) rfl rfl rfl rfl (Nat.le_of_ble_eq_true rfl) ?_
          obtain ⟨r15, h⟩ := h
          refine c_M_fits r15 ?_
          show z_Wp m_X12_tryFaction _ 109 [(0, zR 0), (1, zI a0), (2, zI a1), (3, zI a2), (4, zI a3), (5, zI a4), (6, zI (i11 : Int))] [zI (F_M_fits (A_M_tryFaction_93 w a0 a1 a2 a3 a4 (F_M_tryFaction n9) i11) a1 (i11 : Int))] (A_M_tryFaction_93 w a0 a1 a2 a3 a4 (F_M_tryFaction n9) i11) _
          refine z_if_eq 150 dX12_tryFaction_109 (by decide) (pc' := 112) rfl (z_rb b_M_fits) (fun c69 => ?_) (fun c69 => ?_)
          · have h := h.1 c69
            rw [if_pos c69] at ih
            refine z_iinc (pc' := 153) (ls' := [(0, zR 0), (1, zI a0), (2, zI a1), (3, zI a2), (4, zI a3), (5, zI a4), (6, zI ((i11 : Int) + 1))]) 6 rfl (by decide) rfl rfl dX12_tryFaction_150 rfl ?_
            refine z_goto 93 dX12_tryFaction_153 (by decide) ?_
            exact ih
          · have h := h.2 c69
            rw [if_neg c69] at ih
            refine z_aload_n (pc' := 113) 0 rfl rfl dX12_tryFaction_112 rfl ?_
            refine z_iload_n (pc' := 114) 2 rfl rfl dX12_tryFaction_113 rfl ?_
            refine z_iload (pc' := 116) 6 rfl dX12_tryFaction_114 rfl ?_
            refine z_invV (as := [zI a1, zI (i11 : Int)]) (st := []) (C := m_X12_dipNow) (fs := [0, 3, 0, 0, 0, 0, 4, 5, 6, 7, 8, 9, 10, 0, 0, 11, 12, 13, 14, 15, 16, 0, 0, 0, 17, 18, 19, 20, 0, 0, 0, 21, 22, 0, 0, 23, 0, 1, 24, 0, 0, 25, 26, 0, 27, 0]) (pc' := 119) dX12_tryFaction_116 rfl t_7_235 k_X12_dipNow rfl (by decide) rfl rfl rfl rfl (Nat.le_of_ble_eq_true rfl) ?_
            obtain ⟨r16, h⟩ := h
            refine c_M_dipNow r16 ?_
            show z_Wp m_X12_tryFaction _ 119 [(0, zR 0), (1, zI a0), (2, zI a1), (3, zI a2), (4, zI a3), (5, zI a4), (6, zI (i11 : Int))] [] (F_M_dipNow (A_M_tryFaction_93 w a0 a1 a2 a3 a4 (F_M_tryFaction n9) i11) a1 (i11 : Int)) _
            refine z_aload_n (pc' := 120) 0 rfl rfl dX12_tryFaction_119 rfl ?_
            refine z_iload_n (pc' := 121) 1 rfl rfl dX12_tryFaction_120 rfl ?_
            refine z_iconst (pc' := 122) dX12_tryFaction_121 rfl ?_
            refine z_iadd (pc' := 123) dX12_tryFaction_122 rfl ?_
            refine z_iload_n (pc' := 124) 2 rfl rfl dX12_tryFaction_123 rfl ?_
            refine z_iconst (pc' := 125) dX12_tryFaction_124 rfl ?_
            refine z_iadd (pc' := 126) dX12_tryFaction_125 rfl ?_
            refine z_iload_n (pc' := 127) 3 rfl rfl dX12_tryFaction_126 rfl ?_
            refine z_iload (pc' := 129) 4 rfl dX12_tryFaction_127 rfl ?_
            refine z_iconst (pc' := 130) dX12_tryFaction_129 rfl ?_
            refine z_iload (pc' := 132) 6 rfl dX12_tryFaction_130 rfl ?_
            refine z_ishl (pc' := 133) dX12_tryFaction_132 rfl ?_
            refine z_ior (pc' := 134) dX12_tryFaction_133 rfl ?_
            refine z_bipush (pc' := 136) (by decide) dX12_tryFaction_134 rfl ?_
            refine z_iload (pc' := 138) 5 rfl dX12_tryFaction_136 rfl ?_
            refine z_imul (pc' := 139) dX12_tryFaction_138 rfl ?_
            refine z_iload (pc' := 141) 6 rfl dX12_tryFaction_139 rfl ?_
            refine z_iadd (pc' := 142) dX12_tryFaction_141 rfl ?_
            refine z_invV (as := [zI (a0 + 1), zI (a1 + 1), zI a2, zI (zz_or a3 (zz_shl 1 (i11 : Int))), zI ((10 * a4) + (i11 : Int))]) (st := []) (C := m_X12_tryFaction) (fs := [0, 3, 0, 0, 0, 0, 4, 5, 6, 7, 8, 9, 10, 0, 0, 11, 12, 13, 14, 15, 16, 0, 0, 0, 17, 18, 19, 20, 0, 0, 0, 21, 22, 0, 0, 23, 0, 1, 24, 0, 0, 25, 26, 0, 27, 0]) (pc' := 145) dX12_tryFaction_142 rfl t_8_93 k_X12_tryFaction rfl (by decide) rfl rfl rfl rfl (Nat.le_of_ble_eq_true rfl) ?_
            obtain ⟨r17, h⟩ := h
            refine z_dcast (d' := d + n9 + 5) (by omega) (ihr r17 ?_)
            show z_Wp m_X12_tryFaction _ 145 [(0, zR 0), (1, zI a0), (2, zI a1), (3, zI a2), (4, zI a3), (5, zI a4), (6, zI (i11 : Int))] [] (F_M_tryFaction n9 (F_M_dipNow (A_M_tryFaction_93 w a0 a1 a2 a3 a4 (F_M_tryFaction n9) i11) a1 (i11 : Int)) (a0 + 1) (a1 + 1) a2 (zz_or a3 (zz_shl 1 (i11 : Int))) ((10 * a4) + (i11 : Int))) _
            refine z_aload_n (pc' := 146) 0 rfl rfl dX12_tryFaction_145 rfl ?_
            refine z_iload_n (pc' := 147) 1 rfl rfl dX12_tryFaction_146 rfl ?_
            refine z_invV (as := [zI a0]) (st := []) (C := m_X12_takeBack) (fs := [0, 3, 0, 0, 0, 0, 4, 5, 6, 7, 8, 9, 10, 0, 0, 11, 12, 13, 14, 15, 16, 0, 0, 0, 17, 18, 19, 20, 0, 0, 0, 21, 22, 0, 0, 23, 0, 1, 24, 0, 0, 25, 26, 0, 27, 0]) (pc' := 150) dX12_tryFaction_147 rfl t_8_101 k_X12_takeBack rfl (by decide) rfl rfl rfl rfl (Nat.le_of_ble_eq_true rfl) ?_
            have r18 := h
            refine c_M_takeBack r18 ?_
            show z_Wp m_X12_tryFaction _ 150 [(0, zR 0), (1, zI a0), (2, zI a1), (3, zI a2), (4, zI a3), (5, zI a4), (6, zI (i11 : Int))] [] (F_M_takeBack (F_M_tryFaction n9 (F_M_dipNow (A_M_tryFaction_93 w a0 a1 a2 a3 a4 (F_M_tryFaction n9) i11) a1 (i11 : Int)) (a0 + 1) (a1 + 1) a2 (zz_or a3 (zz_shl 1 (i11 : Int))) ((10 * a4) + (i11 : Int))) a0) _
            refine z_iinc (pc' := 153) (ls' := [(0, zR 0), (1, zI a0), (2, zI a1), (3, zI a2), (4, zI a3), (5, zI a4), (6, zI ((i11 : Int) + 1))]) 6 rfl (by decide) rfl rfl dX12_tryFaction_150 rfl ?_
            refine z_goto 93 dX12_tryFaction_153 (by decide) ?_
            exact ih
      · have h := h.1 c
        rw [if_pos c] at k
        refine z_aload_n (pc' := 72) 0 rfl rfl dX12_tryFaction_71 rfl ?_
        refine z_iload_n (pc' := 73) 1 rfl rfl dX12_tryFaction_72 rfl ?_
        refine z_iload_n (pc' := 74) 2 rfl rfl dX12_tryFaction_73 rfl ?_
        refine z_iconst (pc' := 75) dX12_tryFaction_74 rfl ?_
        refine z_iadd (pc' := 76) dX12_tryFaction_75 rfl ?_
        refine z_iload_n (pc' := 77) 3 rfl rfl dX12_tryFaction_76 rfl ?_
        refine z_iload (pc' := 79) 4 rfl dX12_tryFaction_77 rfl ?_
        refine z_iload (pc' := 81) 5 rfl dX12_tryFaction_79 rfl ?_
        refine z_invV (as := [zI a0, zI (a1 + 1), zI a2, zI a3, zI a4]) (st := []) (C := m_X12_tryFaction) (fs := [0, 3, 0, 0, 0, 0, 4, 5, 6, 7, 8, 9, 10, 0, 0, 11, 12, 13, 14, 15, 16, 0, 0, 0, 17, 18, 19, 20, 0, 0, 0, 21, 22, 0, 0, 23, 0, 1, 24, 0, 0, 25, 26, 0, 27, 0]) (pc' := 84) dX12_tryFaction_81 rfl t_8_93 k_X12_tryFaction rfl (by decide) rfl rfl rfl rfl (Nat.le_of_ble_eq_true rfl) ?_
        have r22 := h
        refine z_dcast (d' := d + n9 + 5) (by omega) (ihr r22 ?_)
        show z_Wp m_X12_tryFaction _ 84 [(0, zR 0), (1, zI a0), (2, zI a1), (3, zI a2), (4, zI a3), (5, zI a4)] [] (F_M_tryFaction n9 w a0 (a1 + 1) a2 a3 a4) _
        refine z_vret rfl dX12_tryFaction_84 ?_
        exact k
    · have h := h.1 c
      rw [if_pos c] at k
      refine z_iload (pc' := 10) 4 rfl dX12_tryFaction_8 rfl ?_
      refine z_invS (as := [zI a3]) (st := []) (C := m_J6_bitCount_0f7a4) (pc' := 13) dX12_tryFaction_10 rfl t_7_162 k_J6_bitCount_0f7a4 rfl rfl (Nat.le_of_ble_eq_true rfl) ?_
      refine c_J_bitCount_0f7a4 ?_
      show z_Wp m_X12_tryFaction _ 13 [(0, zR 0), (1, zI a0), (2, zI a1), (3, zI a2), (4, zI a3), (5, zI a4)] [zI (F_J_bitCount_0f7a4 w a3)] w _
      refine z_istore (pc' := 15) (ls' := [(0, zR 0), (1, zI a0), (2, zI a1), (3, zI a2), (4, zI a3), (5, zI a4), (6, zI (F_J_bitCount_0f7a4 w a3))]) (by decide) rfl rfl dX12_tryFaction_13 rfl ?_
      refine z_aload_n (pc' := 16) 0 rfl rfl dX12_tryFaction_15 rfl ?_
      refine z_getI2 (v := w 0 39) (pc' := 19) g_X12_404 (by decide) rfl rfl rfl dX12_tryFaction_16 rfl ?_
      refine z_iconst (pc' := 20) dX12_tryFaction_19 rfl ?_
      obtain ⟨r23, h⟩ := h
      refine z_icmp_eq 50 dX12_tryFaction_20 (by decide) (pc' := 23) rfl r23 (by decide) (fun c => ?_) (fun c => ?_)
      · have h := h.1 c
        rw [if_pos c] at k
        refine z_aload_n (pc' := 51) 0 rfl rfl dX12_tryFaction_50 rfl ?_
        refine z_iload (pc' := 53) 5 rfl dX12_tryFaction_51 rfl ?_
        refine z_putI (pc' := 56) p_X12_404 (by decide) rfl rfl rfl rfl dX12_tryFaction_53 rfl ?_
        refine z_aload_n (pc' := 57) 0 rfl rfl dX12_tryFaction_56 rfl ?_
        refine z_iload (pc' := 59) 6 rfl dX12_tryFaction_57 rfl ?_
        refine z_putI (pc' := 62) p_X12_407 (by decide) rfl rfl rfl rfl dX12_tryFaction_59 rfl ?_
        refine z_vret rfl dX12_tryFaction_62 ?_
        exact k
      · have h := h.2 c
        rw [if_neg c] at k
        refine z_iload (pc' := 25) 6 rfl dX12_tryFaction_23 rfl ?_
        refine z_aload_n (pc' := 26) 0 rfl rfl dX12_tryFaction_25 rfl ?_
        refine z_getI2 (v := w 0 40) (pc' := 29) g_X12_407 (by decide) rfl rfl rfl dX12_tryFaction_26 rfl ?_
        obtain ⟨r24, h⟩ := h
        obtain ⟨r25, h⟩ := h
        refine z_icmp_lt 50 dX12_tryFaction_29 (by decide) (pc' := 32) rfl r24 r25 (fun c => ?_) (fun c => ?_)
        · have h := h.1 c
          rw [if_pos c] at k
          refine z_aload_n (pc' := 51) 0 rfl rfl dX12_tryFaction_50 rfl ?_
          refine z_iload (pc' := 53) 5 rfl dX12_tryFaction_51 rfl ?_
          refine z_putI (pc' := 56) p_X12_404 (by decide) rfl rfl rfl rfl dX12_tryFaction_53 rfl ?_
          refine z_aload_n (pc' := 57) 0 rfl rfl dX12_tryFaction_56 rfl ?_
          refine z_iload (pc' := 59) 6 rfl dX12_tryFaction_57 rfl ?_
          refine z_putI (pc' := 62) p_X12_407 (by decide) rfl rfl rfl rfl dX12_tryFaction_59 rfl ?_
          refine z_vret rfl dX12_tryFaction_62 ?_
          exact k
        · have h := h.2 c
          rw [if_neg c] at k
          refine z_iload (pc' := 34) 6 rfl dX12_tryFaction_32 rfl ?_
          refine z_aload_n (pc' := 35) 0 rfl rfl dX12_tryFaction_34 rfl ?_
          refine z_getI2 (v := w 0 40) (pc' := 38) g_X12_407 (by decide) rfl rfl rfl dX12_tryFaction_35 rfl ?_
          refine z_icmp_ne 62 dX12_tryFaction_38 (by decide) (pc' := 41) rfl r24 r25 (fun c => ?_) (fun c => ?_)
          · have h := h.2 c
            rw [if_neg c] at k
            refine z_vret rfl dX12_tryFaction_62 ?_
            exact k
          · have h := h.1 c
            rw [if_pos c] at k
            refine z_iload (pc' := 43) 5 rfl dX12_tryFaction_41 rfl ?_
            refine z_aload_n (pc' := 44) 0 rfl rfl dX12_tryFaction_43 rfl ?_
            refine z_getI2 (v := w 0 39) (pc' := 47) g_X12_404 (by decide) rfl rfl rfl dX12_tryFaction_44 rfl ?_
            have r26 := h
            refine z_icmp_ge 62 dX12_tryFaction_47 (by decide) (pc' := 50) rfl r26 r23 (fun c => ?_) (fun c => ?_)
            · skip
              rw [if_pos c] at k
              refine z_vret rfl dX12_tryFaction_62 ?_
              exact k
            · skip
              rw [if_neg c] at k
              refine z_aload_n (pc' := 51) 0 rfl rfl dX12_tryFaction_50 rfl ?_
              refine z_iload (pc' := 53) 5 rfl dX12_tryFaction_51 rfl ?_
              refine z_putI (pc' := 56) p_X12_404 (by decide) rfl rfl rfl rfl dX12_tryFaction_53 rfl ?_
              refine z_aload_n (pc' := 57) 0 rfl rfl dX12_tryFaction_56 rfl ?_
              refine z_iload (pc' := 59) 6 rfl dX12_tryFaction_57 rfl ?_
              refine z_putI (pc' := 62) p_X12_407 (by decide) rfl rfl rfl rfl dX12_tryFaction_59 rfl ?_
              refine z_vret rfl dX12_tryFaction_62 ?_
              exact k
def P_M_odds (w : z_Wd) (a0 : Int) (a1 : Int) : Prop := (P_M_in w a0 0 ((w 0 29) - 1)) ∧ ((F_M_in w a0 0 ((w 0 29) - 1) = 0 → True) ∧ (¬ (F_M_in w a0 0 ((w 0 29) - 1) = 0) → (P_M_isFree w a0) ∧ ((F_M_isFree w a0 = 0 → (P_M_in w a1 0 4) ∧ ((F_M_in w a1 0 4 = 0 → True) ∧ (¬ (F_M_in w a1 0 4 = 0) → (P_M_wellOf w a0) ∧ (P_M_oddsFrom 6 w 0 a0 (F_M_wellOf w a0) a1 1000000000)))) ∧ (¬ (F_M_isFree w a0 = 0) → True))))
def F_M_odds (w : z_Wd) (a0 : Int) (a1 : Int) : Int × z_Wd := if F_M_in w a0 0 ((w 0 29) - 1) = 0 then ((-1), w) else if F_M_isFree w a0 = 0 then if F_M_in w a1 0 4 = 0 then ((-1), w) else ((F_M_oddsFrom 6 w 0 a0 (F_M_wellOf w a0) a1 1000000000).1, (F_M_oddsFrom 6 w 0 a0 (F_M_wellOf w a0) a1 1000000000).2) else ((-1), w)
set_option maxRecDepth 4000 in
theorem c_M_odds {d : Nat} {w : z_Wd} {a0 a1 : Int} {Q : Option z_V → z_Wd → Prop} (h : P_M_odds w a0 a1) (k : Q (some (zI (F_M_odds w a0 a1).1)) (F_M_odds w a0 a1).2) : z_Wc (d + 12) m_X12_odds [zR 0, zI a0, zI a1] w Q := by
  unfold P_M_odds at h
  unfold F_M_odds at k
  refine z_enter rfl (Nat.le_of_ble_eq_true rfl) ?_
  show z_Wp m_X12_odds _ 0 [(0, zR 0), (1, zI a0), (2, zI a1)] [] w _
  refine z_aload_n (pc' := 1) 0 rfl rfl dX12_odds_0 rfl ?_
  refine z_iload_n (pc' := 2) 1 rfl rfl dX12_odds_1 rfl ?_
  refine z_invV (as := [zI a0]) (st := []) (C := m_X12_isName) (fs := [0, 3, 0, 0, 0, 0, 4, 5, 6, 7, 8, 9, 10, 0, 0, 11, 12, 13, 14, 15, 16, 0, 0, 0, 17, 18, 19, 20, 0, 0, 0, 21, 22, 0, 0, 23, 0, 1, 24, 0, 0, 25, 26, 0, 27, 0]) (pc' := 5) dX12_odds_2 rfl t_7_110 k_X12_isName rfl (by decide) rfl rfl rfl rfl (Nat.le_of_ble_eq_true rfl) ?_
  obtain ⟨r1, h⟩ := h
  refine c_M_isName r1 ?_
  show z_Wp m_X12_odds _ 5 [(0, zR 0), (1, zI a0), (2, zI a1)] [zI (F_M_in w a0 0 ((w 0 29) - 1))] w _
  refine z_if_eq 25 dX12_odds_5 (by decide) (pc' := 8) rfl (z_rb b_M_in) (fun c => ?_) (fun c => ?_)
  · have h := h.1 c
    rw [if_pos c] at k
    refine z_iconst (pc' := 26) dX12_odds_25 rfl ?_
    refine z_iret rfl dX12_odds_26 ?_
    exact k
  · have h := h.2 c
    rw [if_neg c] at k
    refine z_aload_n (pc' := 9) 0 rfl rfl dX12_odds_8 rfl ?_
    refine z_iload_n (pc' := 10) 1 rfl rfl dX12_odds_9 rfl ?_
    refine z_invV (as := [zI a0]) (st := []) (C := m_X12_isFree) (fs := [0, 3, 0, 0, 0, 0, 4, 5, 6, 7, 8, 9, 10, 0, 0, 11, 12, 13, 14, 15, 16, 0, 0, 0, 17, 18, 19, 20, 0, 0, 0, 21, 22, 0, 0, 23, 0, 1, 24, 0, 0, 25, 26, 0, 27, 0]) (pc' := 13) dX12_odds_10 rfl t_7_158 k_X12_isFree rfl (by decide) rfl rfl rfl rfl (Nat.le_of_ble_eq_true rfl) ?_
    obtain ⟨r2, h⟩ := h
    refine c_M_isFree r2 ?_
    show z_Wp m_X12_odds _ 13 [(0, zR 0), (1, zI a0), (2, zI a1)] [zI (F_M_isFree w a0)] w _
    refine z_if_ne 25 dX12_odds_13 (by decide) (pc' := 16) rfl (z_rb b_M_isFree) (fun c => ?_) (fun c => ?_)
    · have h := h.2 c
      rw [if_neg c] at k
      refine z_iconst (pc' := 26) dX12_odds_25 rfl ?_
      refine z_iret rfl dX12_odds_26 ?_
      exact k
    · have h := h.1 c
      rw [if_pos c] at k
      refine z_iload_n (pc' := 17) 2 rfl rfl dX12_odds_16 rfl ?_
      refine z_iconst (pc' := 18) dX12_odds_17 rfl ?_
      refine z_iconst (pc' := 19) dX12_odds_18 rfl ?_
      refine z_invS (as := [zI a1, zI 0, zI 4]) (st := []) (C := m_X12_in) (pc' := 22) dX12_odds_19 rfl t_7_17 k_X12_in rfl rfl (Nat.le_of_ble_eq_true rfl) ?_
      obtain ⟨r3, h⟩ := h
      refine c_M_in r3 ?_
      show z_Wp m_X12_odds _ 22 [(0, zR 0), (1, zI a0), (2, zI a1)] [zI (F_M_in w a1 0 4)] w _
      refine z_if_ne 27 dX12_odds_22 (by decide) (pc' := 25) rfl (z_rb b_M_in) (fun c => ?_) (fun c => ?_)
      · have h := h.2 c
        rw [if_neg c] at k
        refine z_aload_n (pc' := 28) 0 rfl rfl dX12_odds_27 rfl ?_
        refine z_iconst (pc' := 29) dX12_odds_28 rfl ?_
        refine z_iload_n (pc' := 30) 1 rfl rfl dX12_odds_29 rfl ?_
        refine z_aload_n (pc' := 31) 0 rfl rfl dX12_odds_30 rfl ?_
        refine z_iload_n (pc' := 32) 1 rfl rfl dX12_odds_31 rfl ?_
        refine z_invV (as := [zI a0]) (st := [zI a0, zI 0, zR 0]) (C := m_X12_wellOf) (fs := [0, 3, 0, 0, 0, 0, 4, 5, 6, 7, 8, 9, 10, 0, 0, 11, 12, 13, 14, 15, 16, 0, 0, 0, 17, 18, 19, 20, 0, 0, 0, 21, 22, 0, 0, 23, 0, 1, 24, 0, 0, 25, 26, 0, 27, 0]) (pc' := 35) dX12_odds_32 rfl t_7_114 k_X12_wellOf rfl (by decide) rfl rfl rfl rfl (Nat.le_of_ble_eq_true rfl) ?_
        obtain ⟨r4, h⟩ := h
        refine c_M_wellOf r4 ?_
        show z_Wp m_X12_odds _ 35 [(0, zR 0), (1, zI a0), (2, zI a1)] [zI (F_M_wellOf w a0), zI a0, zI 0, zR 0] w _
        refine z_iload_n (pc' := 36) 2 rfl rfl dX12_odds_35 rfl ?_
        refine z_ldcw (n := 1000000000) (pc' := 39) t_8_163 (by decide) dX12_odds_36 rfl ?_
        refine z_invV (as := [zI 0, zI a0, zI (F_M_wellOf w a0), zI a1, zI 1000000000]) (st := []) (C := m_X12_oddsFrom) (fs := [0, 3, 0, 0, 0, 0, 4, 5, 6, 7, 8, 9, 10, 0, 0, 11, 12, 13, 14, 15, 16, 0, 0, 0, 17, 18, 19, 20, 0, 0, 0, 21, 22, 0, 0, 23, 0, 1, 24, 0, 0, 25, 26, 0, 27, 0]) (pc' := 42) dX12_odds_39 rfl t_8_164 k_X12_oddsFrom rfl (by decide) rfl rfl rfl rfl (Nat.le_of_ble_eq_true rfl) ?_
        have r5 := h
        refine (c_M_oddsFrom (n9 := 6)) r5 ?_
        show z_Wp m_X12_odds _ 42 [(0, zR 0), (1, zI a0), (2, zI a1)] [zI ((F_M_oddsFrom 6 w 0 a0 (F_M_wellOf w a0) a1 1000000000).1)] ((F_M_oddsFrom 6 w 0 a0 (F_M_wellOf w a0) a1 1000000000).2) _
        refine z_iret rfl dX12_odds_42 ?_
        exact k
      · have h := h.1 c
        rw [if_pos c] at k
        refine z_iconst (pc' := 26) dX12_odds_25 rfl ?_
        refine z_iret rfl dX12_odds_26 ?_
        exact k
def P_M_faction (w : z_Wd) (a0 : Int) (a1 : Int) : Prop := (-2147483648 ≤ w 0 29 ∧ w 0 29 < 2147483648) ∧ ((w 0 29 = 0 → True) ∧ (¬ (w 0 29 = 0) → (P_M_in w a0 1 ((zz_shl 1 (w 0 29)) - 1)) ∧ ((F_M_in w a0 1 ((zz_shl 1 (w 0 29)) - 1) = 0 → True) ∧ (¬ (F_M_in w a0 1 ((zz_shl 1 (w 0 29)) - 1) = 0) → (P_M_drowned w) ∧ (-2147483648 ≤ zz_and a0 (F_M_drowned w) ∧ zz_and a0 (F_M_drowned w) < 2147483648) ∧ ((zz_and a0 (F_M_drowned w) = 0 → (P_M_in w a1 0 1) ∧ ((F_M_in w a1 0 1 = 0 → True) ∧ (¬ (F_M_in w a1 0 1 = 0) → (P_M_tryFaction 9 (z_up w 0 39 (-1)) 0 0 a0 0 0) ∧ (-2147483648 ≤ (F_M_tryFaction 9 (z_up w 0 39 (-1)) 0 0 a0 0 0) 0 39 ∧ (F_M_tryFaction 9 (z_up w 0 39 (-1)) 0 0 a0 0 0) 0 39 < 2147483648) ∧ (((F_M_tryFaction 9 (z_up w 0 39 (-1)) 0 0 a0 0 0) 0 39 = (-1) → True) ∧ (¬ ((F_M_tryFaction 9 (z_up w 0 39 (-1)) 0 0 a0 0 0) 0 39 = (-1)) → -2147483648 ≤ a1 ∧ a1 < 2147483648))))) ∧ (¬ (zz_and a0 (F_M_drowned w) = 0) → True))))))
def F_M_faction (w : z_Wd) (a0 : Int) (a1 : Int) : Int × z_Wd := if w 0 29 = 0 then ((-1), w) else if F_M_in w a0 1 ((zz_shl 1 (w 0 29)) - 1) = 0 then ((-1), w) else if zz_and a0 (F_M_drowned w) = 0 then if F_M_in w a1 0 1 = 0 then ((-1), w) else if (F_M_tryFaction 9 (z_up w 0 39 (-1)) 0 0 a0 0 0) 0 39 = (-1) then ((F_M_tryFaction 9 (z_up w 0 39 (-1)) 0 0 a0 0 0) 0 39, F_M_tryFaction 9 (z_up w 0 39 (-1)) 0 0 a0 0 0) else if a1 = 0 then ((F_M_tryFaction 9 (z_up w 0 39 (-1)) 0 0 a0 0 0) 0 39, F_M_tryFaction 9 (z_up w 0 39 (-1)) 0 0 a0 0 0) else ((F_M_tryFaction 9 (z_up w 0 39 (-1)) 0 0 a0 0 0) 0 40, F_M_tryFaction 9 (z_up w 0 39 (-1)) 0 0 a0 0 0) else ((-1), w)
set_option maxRecDepth 4000 in
theorem c_M_faction {d : Nat} {w : z_Wd} {a0 a1 : Int} {Q : Option z_V → z_Wd → Prop} (h : P_M_faction w a0 a1) (k : Q (some (zI (F_M_faction w a0 a1).1)) (F_M_faction w a0 a1).2) : z_Wc (d + 15) m_X12_faction [zR 0, zI a0, zI a1] w Q := by
  unfold P_M_faction at h
  unfold F_M_faction at k
  refine z_enter rfl (Nat.le_of_ble_eq_true rfl) ?_
  show z_Wp m_X12_faction _ 0 [(0, zR 0), (1, zI a0), (2, zI a1)] [] w _
  refine z_aload_n (pc' := 1) 0 rfl rfl dX12_faction_0 rfl ?_
  refine z_getI2 (v := w 0 29) (pc' := 4) g_X12_260 (by decide) rfl rfl rfl dX12_faction_1 rfl ?_
  obtain ⟨r1, h⟩ := h
  refine z_if_eq 41 dX12_faction_4 (by decide) (pc' := 7) rfl r1 (fun c => ?_) (fun c => ?_)
  · have h := h.1 c
    rw [if_pos c] at k
    refine z_iconst (pc' := 42) dX12_faction_41 rfl ?_
    refine z_iret rfl dX12_faction_42 ?_
    exact k
  · have h := h.2 c
    rw [if_neg c] at k
    refine z_iload_n (pc' := 8) 1 rfl rfl dX12_faction_7 rfl ?_
    refine z_iconst (pc' := 9) dX12_faction_8 rfl ?_
    refine z_iconst (pc' := 10) dX12_faction_9 rfl ?_
    refine z_aload_n (pc' := 11) 0 rfl rfl dX12_faction_10 rfl ?_
    refine z_getI2 (v := w 0 29) (pc' := 14) g_X12_260 (by decide) rfl rfl rfl dX12_faction_11 rfl ?_
    refine z_ishl (pc' := 15) dX12_faction_14 rfl ?_
    refine z_iconst (pc' := 16) dX12_faction_15 rfl ?_
    refine z_isub (pc' := 17) dX12_faction_16 rfl ?_
    refine z_invS (as := [zI a0, zI 1, zI ((zz_shl 1 (w 0 29)) - 1)]) (st := []) (C := m_X12_in) (pc' := 20) dX12_faction_17 rfl t_7_17 k_X12_in rfl rfl (Nat.le_of_ble_eq_true rfl) ?_
    obtain ⟨r2, h⟩ := h
    refine c_M_in r2 ?_
    show z_Wp m_X12_faction _ 20 [(0, zR 0), (1, zI a0), (2, zI a1)] [zI (F_M_in w a0 1 ((zz_shl 1 (w 0 29)) - 1))] w _
    refine z_if_eq 41 dX12_faction_20 (by decide) (pc' := 23) rfl (z_rb b_M_in) (fun c => ?_) (fun c => ?_)
    · have h := h.1 c
      rw [if_pos c] at k
      refine z_iconst (pc' := 42) dX12_faction_41 rfl ?_
      refine z_iret rfl dX12_faction_42 ?_
      exact k
    · have h := h.2 c
      rw [if_neg c] at k
      refine z_iload_n (pc' := 24) 1 rfl rfl dX12_faction_23 rfl ?_
      refine z_aload_n (pc' := 25) 0 rfl rfl dX12_faction_24 rfl ?_
      refine z_invV (as := []) (st := [zI a0]) (C := m_X12_drowned) (fs := [0, 3, 0, 0, 0, 0, 4, 5, 6, 7, 8, 9, 10, 0, 0, 11, 12, 13, 14, 15, 16, 0, 0, 0, 17, 18, 19, 20, 0, 0, 0, 21, 22, 0, 0, 23, 0, 1, 24, 0, 0, 25, 26, 0, 27, 0]) (pc' := 28) dX12_faction_25 rfl t_7_154 k_X12_drowned rfl (by decide) rfl rfl rfl rfl (Nat.le_of_ble_eq_true rfl) ?_
      obtain ⟨r3, h⟩ := h
      refine c_M_drowned r3 ?_
      show z_Wp m_X12_faction _ 28 [(0, zR 0), (1, zI a0), (2, zI a1)] [zI (F_M_drowned w), zI a0] w _
      refine z_iand (pc' := 29) dX12_faction_28 rfl ?_
      obtain ⟨r4, h⟩ := h
      refine z_if_ne 41 dX12_faction_29 (by decide) (pc' := 32) rfl r4 (fun c => ?_) (fun c => ?_)
      · have h := h.2 c
        rw [if_neg c] at k
        refine z_iconst (pc' := 42) dX12_faction_41 rfl ?_
        refine z_iret rfl dX12_faction_42 ?_
        exact k
      · have h := h.1 c
        rw [if_pos c] at k
        refine z_iload_n (pc' := 33) 2 rfl rfl dX12_faction_32 rfl ?_
        refine z_iconst (pc' := 34) dX12_faction_33 rfl ?_
        refine z_iconst (pc' := 35) dX12_faction_34 rfl ?_
        refine z_invS (as := [zI a1, zI 0, zI 1]) (st := []) (C := m_X12_in) (pc' := 38) dX12_faction_35 rfl t_7_17 k_X12_in rfl rfl (Nat.le_of_ble_eq_true rfl) ?_
        obtain ⟨r5, h⟩ := h
        refine c_M_in r5 ?_
        show z_Wp m_X12_faction _ 38 [(0, zR 0), (1, zI a0), (2, zI a1)] [zI (F_M_in w a1 0 1)] w _
        refine z_if_ne 43 dX12_faction_38 (by decide) (pc' := 41) rfl (z_rb b_M_in) (fun c => ?_) (fun c => ?_)
        · have h := h.2 c
          rw [if_neg c] at k
          refine z_aload_n (pc' := 44) 0 rfl rfl dX12_faction_43 rfl ?_
          refine z_iconst (pc' := 45) dX12_faction_44 rfl ?_
          refine z_putI (pc' := 48) p_X12_404 (by decide) rfl rfl rfl rfl dX12_faction_45 rfl ?_
          refine z_aload_n (pc' := 49) 0 rfl rfl dX12_faction_48 rfl ?_
          refine z_iconst (pc' := 50) dX12_faction_49 rfl ?_
          refine z_iconst (pc' := 51) dX12_faction_50 rfl ?_
          refine z_iload_n (pc' := 52) 1 rfl rfl dX12_faction_51 rfl ?_
          refine z_iconst (pc' := 53) dX12_faction_52 rfl ?_
          refine z_iconst (pc' := 54) dX12_faction_53 rfl ?_
          refine z_invV (as := [zI 0, zI 0, zI a0, zI 0, zI 0]) (st := []) (C := m_X12_tryFaction) (fs := [0, 3, 0, 0, 0, 0, 4, 5, 6, 7, 8, 9, 10, 0, 0, 11, 12, 13, 14, 15, 16, 0, 0, 0, 17, 18, 19, 20, 0, 0, 0, 21, 22, 0, 0, 23, 0, 1, 24, 0, 0, 25, 26, 0, 27, 0]) (pc' := 57) dX12_faction_54 rfl t_8_93 k_X12_tryFaction rfl (by decide) rfl rfl rfl rfl (Nat.le_of_ble_eq_true rfl) ?_
          obtain ⟨r6, h⟩ := h
          refine (c_M_tryFaction (n9 := 9)) r6 ?_
          show z_Wp m_X12_faction _ 57 [(0, zR 0), (1, zI a0), (2, zI a1)] [] (F_M_tryFaction 9 (z_up w 0 39 (-1)) 0 0 a0 0 0) _
          refine z_aload_n (pc' := 58) 0 rfl rfl dX12_faction_57 rfl ?_
          refine z_getI2 (v := (F_M_tryFaction 9 (z_up w 0 39 (-1)) 0 0 a0 0 0) 0 39) (pc' := 61) g_X12_404 (by decide) rfl rfl rfl dX12_faction_58 rfl ?_
          refine z_iconst (pc' := 62) dX12_faction_61 rfl ?_
          obtain ⟨r7, h⟩ := h
          refine z_icmp_eq 69 dX12_faction_62 (by decide) (pc' := 65) rfl r7 (by decide) (fun c => ?_) (fun c => ?_)
          · have h := h.1 c
            rw [if_pos c] at k
            refine z_aload_n (pc' := 70) 0 rfl rfl dX12_faction_69 rfl ?_
            refine z_getI2 (v := (F_M_tryFaction 9 (z_up w 0 39 (-1)) 0 0 a0 0 0) 0 39) (pc' := 73) g_X12_404 (by decide) rfl rfl rfl dX12_faction_70 rfl ?_
            refine z_goto 80 dX12_faction_73 (by decide) ?_
            refine z_iret rfl dX12_faction_80 ?_
            exact k
          · have h := h.2 c
            rw [if_neg c] at k
            refine z_iload_n (pc' := 66) 2 rfl rfl dX12_faction_65 rfl ?_
            have r8 := h
            refine z_if_ne 76 dX12_faction_66 (by decide) (pc' := 69) rfl r8 (fun c => ?_) (fun c => ?_)
            · skip
              rw [if_neg c] at k
              refine z_aload_n (pc' := 77) 0 rfl rfl dX12_faction_76 rfl ?_
              refine z_getI2 (v := (F_M_tryFaction 9 (z_up w 0 39 (-1)) 0 0 a0 0 0) 0 40) (pc' := 80) g_X12_407 (by decide) rfl rfl rfl dX12_faction_77 rfl ?_
              refine z_iret rfl dX12_faction_80 ?_
              exact k
            · skip
              rw [if_pos c] at k
              refine z_aload_n (pc' := 70) 0 rfl rfl dX12_faction_69 rfl ?_
              refine z_getI2 (v := (F_M_tryFaction 9 (z_up w 0 39 (-1)) 0 0 a0 0 0) 0 39) (pc' := 73) g_X12_404 (by decide) rfl rfl rfl dX12_faction_70 rfl ?_
              refine z_goto 80 dX12_faction_73 (by decide) ?_
              refine z_iret rfl dX12_faction_80 ?_
              exact k
        · have h := h.1 c
          rw [if_pos c] at k
          refine z_iconst (pc' := 42) dX12_faction_41 rfl ?_
          refine z_iret rfl dX12_faction_42 ?_
          exact k
