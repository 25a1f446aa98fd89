/-! the reference's reading of a ministry -/
def z_rmB (w : z_Wd) (c l1 : Int) : Prop := (c = 115 ∧ l1 = 0) ∨ (c = 119 ∧ w 0 21 < 4) ∨ (c = 110 ∧ w 0 22 < 7) ∨ (c = 102 ∧ w 0 23 < 6)
theorem z_rmB_dec (w : z_Wd) (c l1 : Int) : z_rmB w c l1 ∨ ¬ z_rmB w c l1 := Classical.em _
def z_rmI (w : z_Wd) (c l1 : Int) : Int := if c = 115 then (if l1 = 0 then 1 else 0) else if c = 119 then (if w 0 21 < 4 then 1 else 0) else if c = 110 then (if w 0 22 < 7 then 1 else 0) else if c = 102 then (if w 0 23 < 6 then 1 else 0) else 0
theorem z_rmI_1 {w : z_Wd} {c l1 : Int} (h : z_rmB w c l1) : z_rmI w c l1 = 1 := by
  unfold z_rmB at h
  unfold z_rmI
  repeat' split
  all_goals omega
theorem z_rmI_0 {w : z_Wd} {c l1 : Int} (h : ¬ z_rmB w c l1) : z_rmI w c l1 = 0 := by
  unfold z_rmB at h
  unfold z_rmI
  repeat' split
  all_goals omega
/-- behind a clause's text: whether a ; stands there -/
def z_rmT (w : z_Wd) : Int × z_Wd := if w 0 4 = -1 then (if (F_M_look w).1 = 59 then (1, z_up (F_M_look w).2 0 3 ((F_M_look w).2 0 3 + 1)) else (0, z_up (F_M_look w).2 0 3 ((F_M_look w).2 0 3))) else (0, z_up w 0 3 (w 0 3))
def z_rmTP (w : z_Wd) : Prop := (-2147483648 ≤ w 0 4 ∧ w 0 4 < 2147483648) ∧ (w 0 4 = -1 → P_M_look w ∧ (-2147483648 ≤ (F_M_look w).1 ∧ (F_M_look w).1 < 2147483648))
def z_rmR (l1 c : Int) : Int := if l1 = 0 then (if c = 115 then 1 else 0) else 1
/-- what one clause does: the flag of a rule, the world -/
def z_rmC (w : z_Wd) (c l1 : Int) : Int × z_Wd := if z_rmI w c l1 = 0 then (l1, F_M_bad w) else (z_rmR l1 c, F_M_clauseText w c)
def z_rmCP (w : z_Wd) (c l1 : Int) : Prop := (-2147483648 ≤ c ∧ c < 2147483648) ∧ (-2147483648 ≤ l1 ∧ l1 < 2147483648) ∧ (z_rmI w c l1 = 0 → P_M_bad w) ∧ (¬ z_rmI w c l1 = 0 → P_M_clauseText w c) ∧ z_rmTP (z_rmC w c l1).2
/-- the end -/
def z_rmE (w : z_Wd) : Int × z_Wd := if w 0 4 = -1 then (if (F_M_look w).1 = -1 then (if F_M_isWhole (F_M_look w).2 = 0 then (F_M_bad (F_M_look w).2 0 4, F_M_bad (F_M_look w).2) else ((F_M_look w).2 0 4, (F_M_look w).2)) else (F_M_bad (F_M_look w).2 0 4, F_M_bad (F_M_look w).2)) else (w 0 4, w)
def z_rmEP (w : z_Wd) : Prop := (-2147483648 ≤ w 0 4 ∧ w 0 4 < 2147483648) ∧ (w 0 4 = -1 → P_M_look w ∧ (-2147483648 ≤ (F_M_look w).1 ∧ (F_M_look w).1 < 2147483648) ∧ P_M_isWhole (F_M_look w).2 ∧ (-2147483648 ≤ F_M_isWhole (F_M_look w).2 ∧ F_M_isWhole (F_M_look w).2 < 2147483648) ∧ P_M_bad (F_M_look w).2)
def z_rmL : Nat → z_Wd → Int → Int → Int × z_Wd
  | 0, w, _, _ => (0, w)
  | n + 1, w, l1, l2 => if l2 = 0 then z_rmE w else if w 0 4 = -1 then z_rmL n (z_rmT (z_rmC (F_M_look w).2 (F_M_look w).1 l1).2).2 (z_rmC (F_M_look w).2 (F_M_look w).1 l1).1 (z_rmT (z_rmC (F_M_look w).2 (F_M_look w).1 l1).2).1 else z_rmE w
def z_rmLP : Nat → z_Wd → Int → Int → Prop
  | 0, _, _, _ => False
  | n + 1, w, l1, l2 => (-2147483648 ≤ l2 ∧ l2 < 2147483648) ∧ (-2147483648 ≤ w 0 4 ∧ w 0 4 < 2147483648) ∧ (l2 = 0 → z_rmEP w) ∧ (¬ l2 = 0 → (¬ w 0 4 = -1 → z_rmEP w) ∧ (w 0 4 = -1 → P_M_look w ∧ ((-2147483648 ≤ (F_M_look w).2 0 21 ∧ (F_M_look w).2 0 21 < 2147483648) ∧ (-2147483648 ≤ (F_M_look w).2 0 22 ∧ (F_M_look w).2 0 22 < 2147483648) ∧ (-2147483648 ≤ (F_M_look w).2 0 23 ∧ (F_M_look w).2 0 23 < 2147483648)) ∧ z_rmCP (F_M_look w).2 (F_M_look w).1 l1 ∧ z_rmLP n (z_rmT (z_rmC (F_M_look w).2 (F_M_look w).1 l1).2).2 (z_rmC (F_M_look w).2 (F_M_look w).1 l1).1 (z_rmT (z_rmC (F_M_look w).2 (F_M_look w).1 l1).2).1))
theorem z_rm209 {d : Nat} {w : z_Wd} {Q : Option z_V → z_Wd → Prop} (h : z_rmEP w) (k : Q (some (zI (z_rmE w).1)) (z_rmE w).2) : z_Wp m_X12_readMinistry (d + 5) 209 [(0, zR 0)] [] w Q := by
  obtain ⟨h1, h2⟩ := h
  unfold z_rmE at k
  refine v_M_readMinistry_209 ⟨h1, fun c => ?_, fun c => ?_⟩
  · obtain ⟨g1, g2, g3, g4, g5⟩ := h2 c
    rw [if_pos c] at k
    refine ⟨g1, g2, fun c2 => ?_, fun c2 => ?_⟩
    · rw [if_pos c2] at k
      refine ⟨g3, g4, fun c3 => ?_, fun c3 => ?_⟩
      · rw [if_pos c3] at k
        exact ⟨g5, k⟩
      · rw [if_neg c3] at k
        exact k
    · rw [if_neg c2] at k
      exact ⟨g5, k⟩
  · rw [if_neg c] at k
    exact k
theorem z_rm165 {d : Nat} {w : z_Wd} {l1 : Int} {Q : Option z_V → z_Wd → Prop} (h : z_rmTP w) (k : z_Wp m_X12_readMinistry (d + 5) 54 [(0, zR 0), (1, zI l1), (2, zI (z_rmT w).1)] [] (z_rmT w).2 Q) : z_Wp m_X12_readMinistry (d + 5) 165 [(0, zR 0), (1, zI l1)] [] w Q := by
  obtain ⟨h1, h2⟩ := h
  unfold z_rmT at k
  refine v_M_readMinistry_165 ⟨h1, fun c => ?_, fun c => ?_⟩
  · obtain ⟨g1, g2⟩ := h2 c
    rw [if_pos c] at k
    refine ⟨g1, g2, fun c2 => ?_, fun c2 => ?_⟩
    · rw [if_pos c2] at k
      exact k
    · rw [if_neg c2] at k
      exact k
  · rw [if_neg c] at k
    exact k
theorem z_rm132 {d : Nat} {w : z_Wd} {c l1 : Int} {Q : Option z_V → z_Wd → Prop} (h : z_rmCP w c l1) (k : z_Wp m_X12_readMinistry (d + 5) 54 [(0, zR 0), (1, zI (z_rmC w c l1).1), (2, zI (z_rmT (z_rmC w c l1).2).1)] [] (z_rmT (z_rmC w c l1).2).2 Q) : z_Wp m_X12_readMinistry (d + 5) 132 [(0, zR 0), (1, zI l1), (3, zI c), (4, zI (z_rmI w c l1))] [] w Q := by
  obtain ⟨h1, h2, h3, h4, h5⟩ := h
  have k := z_rm165 h5 k
  have hi : z_rmI w c l1 = 0 ∨ z_rmI w c l1 = 1 := (z_rmB_dec w c l1).elim (fun q => Or.inr (z_rmI_1 q)) (fun q => Or.inl (z_rmI_0 q))
  refine v_M_readMinistry_132 ⟨by omega, fun c1 => ?_, fun c1 => ?_⟩
  · unfold z_rmC at k
    rw [if_pos c1] at k
    exact ⟨h3 c1, k⟩
  · unfold z_rmC z_rmR at k
    rw [if_neg c1] at k
    refine ⟨h2, fun c2 => ⟨h1, fun c3 => ?_, fun c3 => ?_⟩, fun c2 => ?_⟩
    · rw [if_pos c2, if_pos c3] at k
      exact v_M_readMinistry_153 ⟨h4 c1, k⟩
    · rw [if_pos c2, if_neg c3] at k
      exact v_M_readMinistry_153 ⟨h4 c1, k⟩
    · rw [if_neg c2] at k
      exact v_M_readMinistry_153 ⟨h4 c1, k⟩
theorem z_rm54 {d : Nat} {Q : Option z_V → z_Wd → Prop} : ∀ (n : Nat) (w : z_Wd) (l1 l2 : Int), z_rmLP n w l1 l2 → Q (some (zI (z_rmL n w l1 l2).1)) (z_rmL n w l1 l2).2 → z_Wp m_X12_readMinistry (d + 5) 54 [(0, zR 0), (1, zI l1), (2, zI l2)] [] w Q
  | 0, _, _, _, h, _ => False.elim h
  | n + 1, w, l1, l2, h, k => by
    obtain ⟨h1, h2, h3, h4⟩ := h
    rw [z_rmL] at k
    by_cases c : l2 = 0
    · rw [if_pos c] at k
      exact v_M_readMinistry_54 ⟨h1, fun _ => z_rm209 (h3 c) k, fun c2 => absurd c c2⟩
    · rw [if_neg c] at k
      by_cases c2 : w 0 4 = -1
      · rw [if_pos c2] at k
        obtain ⟨g1, g2, g3, g4⟩ := (h4 c).2 c2
        have k := z_rm132 (d := d) g3 (z_rm54 (d := d) n _ _ _ g4 k)
        have e1 : ∀ (hb : z_rmB (F_M_look w).2 (F_M_look w).1 l1), z_Wp m_X12_readMinistry (d + 5) 132 [(0, zR 0), (1, zI l1), (3, zI (F_M_look w).1), (4, zI 1)] [] (F_M_look w).2 Q := fun hb => by
          rw [z_rmI_1 hb] at k
          exact k
        have e0 : ∀ (hb : ¬ z_rmB (F_M_look w).2 (F_M_look w).1 l1), z_Wp m_X12_readMinistry (d + 5) 132 [(0, zR 0), (1, zI l1), (3, zI (F_M_look w).1), (4, zI 0)] [] (F_M_look w).2 Q := fun hb => by
          rw [z_rmI_0 hb] at k
          exact k
        have hc := g3.1
        have hl := g3.2.1
        clear k g3 g4 h3 h4
        unfold z_rmB at e1 e0
        refine v_M_readMinistry_54 ⟨h1, fun c3 => absurd c3 c, fun _ => ⟨h2, fun _ => ⟨g1, hc, ?_⟩, fun c3 => absurd c2 c3⟩⟩
        repeat' (first | exact hl | exact g2.1 | exact g2.2.1 | exact g2.2.2 | exact e1 (by omega) | exact e0 (by omega) | (refine ⟨?_, ?_⟩) | (intro _))
      · rw [if_neg c2] at k
        exact v_M_readMinistry_54 ⟨h1, fun c3 => absurd c3 c, fun _ => ⟨h2, fun c3 => absurd c3 c2, fun _ => z_rm209 ((h4 c).1 c2) k⟩⟩
def z_rm0 (w : z_Wd) : z_Wd := z_up (z_up (z_up (z_up (z_up (z_up (z_up w 0 3 0) 0 4 (-1)) 0 21 0) 0 22 0) 0 23 0) 11 0 1) 11 1 20
def F_M_readMinistry (w : z_Wd) : Int × z_Wd := z_rmL 300 (z_rm0 w) 0 1
def P_M_readMinistry (w : z_Wd) : Prop := z_rmLP 300 (z_rm0 w) 0 1
theorem c_M_readMinistry {d : Nat} {w : z_Wd} {Q : Option z_V → z_Wd → Prop} (h : P_M_readMinistry w) (k : Q (some (zI (F_M_readMinistry w).1)) (F_M_readMinistry w).2) : z_Wc (d + 5) m_X12_readMinistry [zR 0] w Q := by
  have k := z_rm54 (d := d) 300 (z_rm0 w) 0 1 h k
  have hu : ∀ (v : z_Wd) (j : Int), 0 ≤ j → j < 2 → P_M_usual v 115 j := fun v j h0 h1 => by
    unfold P_M_usual
    refine ⟨by omega, fun c => absurd c (by decide), fun _ => ⟨fun _ => by omega, fun c => absurd rfl c⟩⟩
  refine v_M_readMinistry (v_M_readMinistry_29 ⟨by omega, fun c => absurd c (by omega), fun _ => ⟨hu _ 0 (by omega) (by omega), by omega, ?_⟩⟩)
  refine v_M_readMinistry_29 ⟨by omega, fun c => absurd c (by omega), fun _ => ⟨hu _ _ (by omega) (by omega), by omega, ?_⟩⟩
  refine v_M_readMinistry_29 ⟨by omega, fun _ => ?_, fun c => absurd c (by omega)⟩
  exact k
