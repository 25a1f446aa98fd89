/-- one byte more on the class's tape -/
def z_ap1 (w : z_Wd) (b : Int) : z_Wd := if b = 0 then w else if w 28 1 ≥ 240 then w else z_up (z_up w 29 (w 28 1).toNat b) 28 1 (w 28 1 + 1)
def F_T_append (w : z_Wd) (a0 : Int) : z_Wd := z_ap1 (z_ap1 (z_ap1 (z_ap1 w (zz_and (zz_ushr a0 24) 255)) (zz_and (zz_ushr a0 16) 255)) (zz_and (zz_ushr a0 8) 255)) (zz_and (zz_ushr a0 0) 255)
def P_T_append (w : z_Wd) (a0 : Int) : Prop := 0 ≤ w 28 1 ∧ w 28 1 ≤ 240
theorem zb_255 (x : Int) : 0 ≤ zz_and x 255 ∧ zz_and x 255 ≤ 255 := by
  unfold zz_and
  have e := pk_and (Int32.ofInt x) (m := 255) 8 (by decide)
  have e1 : Int32.ofInt 255 = (255 : Int32) := by decide
  rw [e1, e, nI_toInt (by omega)]
  omega
theorem z_ap1_r {w : z_Wd} {b : Int} (h : 0 ≤ w 28 1 ∧ w 28 1 ≤ 240) : 0 ≤ z_ap1 w b 28 1 ∧ z_ap1 w b 28 1 ≤ 240 := by
  unfold z_ap1
  split
  · exact h
  · split
    · exact h
    · rw [z_up_at]
      omega
theorem z_ap_step {d : Nat} {w : z_Wd} {l1 l2 l3 : Int} {Q : Option z_V → z_Wd → Prop} (h : 0 ≤ w 28 1 ∧ w 28 1 ≤ 240) (hl : 0 ≤ l2 ∧ l2 ≤ 24) (e : l2 + (-8) = l3) (k : z_Wp m_X10_append d 3 [(0, zR 28), (1, zI l1), (2, zI l3)] [] (z_ap1 w (zz_and (zz_ushr l1 l2) 255)) Q) : z_Wp m_X10_append d 3 [(0, zR 28), (1, zI l1), (2, zI l2)] [] w Q := by
  have hb := zb_255 (zz_ushr l1 l2)
  unfold z_ap1 at k
  refine v_T_append_3 ⟨by omega, fun c => absurd c (by omega), fun _ => ⟨by omega, fun c => ?_, fun c => ⟨by omega, fun c2 => ?_, fun c2 => ⟨by omega, ?_⟩⟩⟩⟩
  · rw [if_pos c] at k
    rw [e]
    exact k
  · rw [if_neg c, if_pos c2] at k
    rw [e]
    exact k
  · rw [if_neg c, if_neg c2] at k
    rw [e]
    exact k
theorem c_T_append {d : Nat} {w : z_Wd} {a0 : Int} {Q : Option z_V → z_Wd → Prop} (h : P_T_append w a0) (k : Q none (F_T_append w a0)) : z_Wc d m_X10_append [zR 28, zI a0] w Q := by
  have h1 := z_ap1_r (b := zz_and (zz_ushr a0 24) 255) h
  have h2 := z_ap1_r (b := zz_and (zz_ushr a0 16) 255) h1
  have h3 := z_ap1_r (b := zz_and (zz_ushr a0 8) 255) h2
  refine v_T_append (z_ap_step h (by omega) (l3 := 16) (by omega) (z_ap_step h1 (by omega) (l3 := 8) (by omega) (z_ap_step h2 (by omega) (l3 := 0) (by omega) (z_ap_step h3 (by omega) (l3 := -8) (by omega) ?_))))
  exact v_T_append_3 ⟨by omega, fun _ => k, fun c => absurd c (by omega)⟩
