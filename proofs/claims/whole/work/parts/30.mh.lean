def z_py0 (w : z_Wd) : z_Wd := z_up (z_up (F_M_missedAll w).2 19 37 (F_J_min_7cf53 (F_M_missedAll w).2 9999 (((F_M_missedAll w).2 19 37) + ((F_M_missedAll w).1)))) 19 36 (F_J_min_7cf53 (z_up (F_M_missedAll w).2 19 37 (F_J_min_7cf53 (F_M_missedAll w).2 9999 (((F_M_missedAll w).2 19 37) + ((F_M_missedAll w).1)))) 999 ((((F_M_missedAll w).2 19 36) + ((F_M_missedAll w).2 0 29)) - (F_J_bitCount_0f7a4 (z_up (F_M_missedAll w).2 19 37 (F_J_min_7cf53 (F_M_missedAll w).2 9999 (((F_M_missedAll w).2 19 37) + ((F_M_missedAll w).1)))) (F_M_drowned (F_M_missedAll w).2))))
def z_py1 (w : z_Wd) : z_Wd := if w 19 39 = 60 then z_up (z_cpy w 19 42 19 40 118) 19 39 (w 19 39 - 1) else w
def z_py2 (w : z_Wd) (mi st : Int) : z_Wd := z_up (z_up (z_up (z_up w 19 (40 + 2 * w 19 39).toNat st) 19 (40 + 2 * w 19 39 + 1).toNat mi) 19 39 (w 19 39 + 1)) 19 38 (w 19 38 + 1)
def F_M_passYear (w : z_Wd) : z_Wd := z_py2 (z_py1 (z_py0 w)) (F_M_missedAll w).1 (F_M_drowned (F_M_missedAll w).2)
def P_M_passYear (w : z_Wd) : Prop := P_M_missedAll w ∧ P_M_drowned (F_M_missedAll w).2 ∧ P_J_min_7cf53 (F_M_missedAll w).2 9999 (((F_M_missedAll w).2 19 37) + ((F_M_missedAll w).1)) ∧ P_J_min_7cf53 (z_up (F_M_missedAll w).2 19 37 (F_J_min_7cf53 (F_M_missedAll w).2 9999 (((F_M_missedAll w).2 19 37) + ((F_M_missedAll w).1)))) 999 ((((F_M_missedAll w).2 19 36) + ((F_M_missedAll w).2 0 29)) - (F_J_bitCount_0f7a4 (z_up (F_M_missedAll w).2 19 37 (F_J_min_7cf53 (F_M_missedAll w).2 9999 (((F_M_missedAll w).2 19 37) + ((F_M_missedAll w).1)))) (F_M_drowned (F_M_missedAll w).2))) ∧ (0 ≤ (F_M_missedAll w).2 19 39 ∧ (F_M_missedAll w).2 19 39 ≤ 60)
theorem z_py3 {d : Nat} {w : z_Wd} {l1 l2 : Int} {Q : Option z_V → z_Wd → Prop} (h : 0 ≤ w 19 39 ∧ w 19 39 < 60) (k : Q none (z_py2 w l1 l2)) : z_Wp m_X12_passYear (d + 8) 119 [(0, zR 0), (1, zI l1), (2, zI l2)] [] w Q := by
  have e1 : ∀ x, z_up w 19 (40 + 2 * w 19 39).toNat x 19 39 = w 19 39 := fun x => z_up_ne (by omega)
  have e3 : ∀ x, z_up w 19 (40 + 2 * w 19 39).toNat x 19 38 = w 19 38 := fun x => z_up_ne (by omega)
  have e2 : ∀ x y, z_up (z_up w 19 (40 + 2 * w 19 39).toNat x) 19 (40 + 2 * w 19 39 + 1).toNat y 19 39 = w 19 39 := fun x y => by rw [z_up_ne (by omega), e1]
  have e4 : ∀ x y, z_up (z_up w 19 (40 + 2 * w 19 39).toNat x) 19 (40 + 2 * w 19 39 + 1).toNat y 19 38 = w 19 38 := fun x y => by rw [z_up_ne (by omega), e3]
  refine v_M_passYear_119 ?_
  rw [e1, e2, e4]
  exact ⟨by omega, by omega, k⟩
theorem z_py4 {d : Nat} {w : z_Wd} {l1 l2 : Int} {Q : Option z_V → z_Wd → Prop} (h : 0 ≤ w 19 39 ∧ w 19 39 ≤ 60) (k : Q none (z_py2 (z_py1 w) l1 l2)) : z_Wp m_X12_passYear (d + 8) 62 [(0, zR 0), (1, zI l1), (2, zI l2)] [] w Q := by
  refine v_M_passYear_62 ⟨by omega, fun c => ?_, fun c => ?_⟩
  · unfold z_py1 at k
    rw [if_pos c] at k
    have hb : ∀ i, z_cpy w 19 42 19 40 i 19 39 = w 19 39 := fun i => z_cpy_at (by omega)
    have key := z_upto 118 (fun i => z_Wp m_X12_passYear (d + 8) 76 [(0, zR 0), (1, zI l1), (2, zI l2), (3, zI (2 + (i : Int)))] [] (z_cpy w 19 42 19 40 i) Q) ?_ ?_
    · rw [z_cpy_0] at key
      exact key
    · refine v_M_passYear_76 ⟨by omega, fun _ => ?_, fun c => absurd c (by omega)⟩
      rw [hb]
      exact z_py3 (by rw [z_up_at]; omega) k
    · intro i hi ih
      refine v_M_passYear_76 ⟨by omega, fun c => absurd c (by omega), fun _ => ⟨by omega, by omega, ?_⟩⟩
      rw [z_cpy_s (Or.inr (by omega)) (by omega) (by omega), show 2 + (i : Int) + 1 = 2 + ((i + 1 : Nat) : Int) by omega]
      exact ih
  · unfold z_py1 at k
    rw [if_neg c] at k
    exact z_py3 (by omega) k
theorem c_M_passYear {d : Nat} {w : z_Wd} {Q : Option z_V → z_Wd → Prop} (h : P_M_passYear w) (k : Q none (F_M_passYear w)) : z_Wc (d + 8) m_X12_passYear [zR 0] w Q := by
  obtain ⟨h1, h2, h3, h4, h5⟩ := h
  exact v_M_passYear ⟨h1, h2, h3, h4, z_py4 (w := z_py0 w) h5 k⟩
