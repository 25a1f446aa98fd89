/-! the law's pieces: places moved, outcomes -/
/-- only the places move -/
def q_mv (w v w' v' : z_Wd) : Prop := z_fr [] [(0, 3), (0, 5)] w w' ∧ z_fr [] [(37, 2)] v v' ∧ v 37 2 ≤ v' 37 2
theorem q_mvf {w v w' v' : z_Wd} (h : q_mv w v w' v') : q_fr w v w' v' := by
  refine ⟨fr_wk h.1 rfl rfl, fr_wk h.2.1 rfl rfl, fun j _ => ?_, fun j _ => ?_⟩
  · rw [fr_c h.1 4 rfl rfl]
  · rw [fr_c h.1 2 rfl rfl, fr_c h.1 3 rfl rfl]
    exact ⟨rfl, rfl⟩
theorem q_Gp {b : Bool} {nd n : Nat} {w v w1 v1 w2 v2 : z_Wd} (m : q_mv w v w1 v1) (h : q_G b nd w1 v1 w2 v2 n) : q_G b nd w v w2 v2 n := by
  obtain ⟨f, p, a4, a38, a37, asq, arun, apre, ap39⟩ := h
  have e14 : w1 0 14 = w 0 14 := fr_f m.1 0 14 rfl rfl
  have e4 : w1 4 = w 4 := fr_c m.1 4 rfl rfl
  have e2 : w1 2 = w 2 := fr_c m.1 2 rfl rfl
  have e3 : w1 3 = w 3 := fr_c m.1 3 rfl rfl
  have e38 : v1 38 = v 38 := fr_c m.2.1 38 rfl rfl
  have e39 : v1 39 = v 39 := fr_c m.2.1 39 rfl rfl
  have e37 := m.2.2
  rw [e14, e4] at a4
  rw [e38] at a38
  rw [e14, e4, e38] at asq
  rw [e14, e4] at arun
  rw [e14, e4, e2, e3] at apre
  rw [e38, e39] at ap39
  exact ⟨q_frT (q_mvf m) f, p, a4, a38, by omega, asq, arun, apre, ap39⟩
theorem q_Gq {b : Bool} {nd n : Nat} {w v w1 v1 w2 v2 : z_Wd} (h : q_G b nd w v w1 v1 n) (m : q_mv w1 v1 w2 v2) : q_G b nd w v w2 v2 n := by
  obtain ⟨f, p, a4, a38, a37, asq, arun, apre, ap39⟩ := h
  have e4 : w2 4 = w1 4 := fr_c m.1 4 rfl rfl
  have e2 : w2 2 = w1 2 := fr_c m.1 2 rfl rfl
  have e3 : w2 3 = w1 3 := fr_c m.1 3 rfl rfl
  have e38 : v2 38 = v1 38 := fr_c m.2.1 38 rfl rfl
  have e39 : v2 39 = v1 39 := fr_c m.2.1 39 rfl rfl
  have e37 := m.2.2
  rw [← e4] at a4
  rw [← e38] at a38
  rw [← e2, ← e3, ← e39] at asq
  rw [← e2] at arun
  rw [← e2, ← e3] at apre
  rw [← e39] at ap39
  exact ⟨q_frT f (q_mvf m), p, a4, a38, by omega, asq, arun, apre, ap39⟩
theorem q_Gn {b : Bool} {nd nd' n : Nat} {w v w1 v1 : z_Wd} (h : q_G b nd w v w1 v1 n) (hn : nd ≤ nd') : q_G b nd' w v w1 v1 n := by
  obtain ⟨f, p, a4, a38, a37, asq, arun, apre, ap39⟩ := h
  exact ⟨f, p, a4, a38, a37, asq, fun s hs => arun s (by omega), apre, ap39⟩
theorem q_Ff {B : Int} {w v w1 v1 w2 v2 : z_Wd} (m : q_fr w v w1 v1) (h : q_F B w1 v1 w2 v2) : q_F B w v w2 v2 := by
  obtain ⟨f, a, b, c⟩ := h
  rw [fr_f m.1 0 14 rfl rfl] at c
  exact ⟨q_frT m f, a, b, c⟩
/-- behind a fault the reference may go on -/
theorem q_Fq {B B' : Int} {w v w1 v1 w2 : z_Wd} (h : q_F B w v w1 v1) (m : q_fr w1 v1 w2 v1) (e : w2 0 4 = w1 0 4) (hb : 0 ≤ w2 4 (w 0 14).toNat ∧ w2 4 (w 0 14).toNat ≤ B') : q_F B' w v w2 v1 := by
  obtain ⟨f, a, b, c⟩ := h
  exact ⟨q_frT f m, by rw [e, a], b, hb⟩
theorem q_FB {B B' : Int} {w v w1 v1 : z_Wd} (h : q_F B w v w1 v1) (hb : B ≤ B') : q_F B' w v w1 v1 := by
  obtain ⟨f, a, b, c⟩ := h
  exact ⟨f, a, b, c.1, by omega⟩
/-- a put behind a fault -/
theorem q_Fput {B : Int} {c x : Int} {w v w1 v1 : z_Wd} (hL : 0 ≤ w 0 14 ∧ w 0 14 < 5) (h : q_F B w v w1 v1) (hB : B < 520) : P_M_put w1 c x ∧ q_F (B + 1) w v (F_M_put w1 c x) v1 ∧ F_M_put w1 c x 0 = w1 0 := by
  have e14 : w1 0 14 = w 0 14 := fr_f h.1.1 0 14 rfl rfl
  have hb := h.2.2.2
  obtain ⟨u1, u2, u3, u4, u5, u6⟩ := q_put (w := w1) (v := v1) (c := c) (x := x) (by rw [e14]; exact hL) (by rw [e14]; omega)
  rw [e14] at u3
  exact ⟨u1, q_Fq h u2 (by rw [u6]) (by rw [u3]; omega), u6⟩
/-- what a piece gives: well read, or a fault -/
def q_O (b : Bool) (nd : Nat) (B : Int) (k : Nat) (w v w' : z_Wd) (r : Int × z_Wd) : Prop := (r.1 = 1 ∧ (∃ n, q_G b nd w v w' r.2 n) ∧ q_S k w' r.2) ∨ (r.1 = 0 ∧ q_F B w v w' r.2)
def q_R (b : Bool) (nd : Nat) (B : Int) (k : Nat) (fM : z_Wd → z_Wd) (pM : z_Wd → Prop) (fD : z_Wd → Int × z_Wd) (pD : z_Wd → Prop) : Prop := ∀ w v, q_S k w v → pM w ∧ pD v ∧ q_O b nd B k w v (fM w) (fD v)
theorem q_Or {b : Bool} {nd : Nat} {B : Int} {k : Nat} {w v w' : z_Wd} {r : Int × z_Wd} (h : q_O b nd B k w v w' r) : r.1 = 0 ∨ r.1 = 1 := by
  rcases h with h | h
  · exact Or.inr h.1
  · exact Or.inl h.1
theorem q_Sat {k : Nat} {w v : z_Wd} (h : q_S k w v) : t_ok v ∧ (0 ≤ v 37 2 ∧ v 37 2 ≤ v 28 1 ∧ v 28 1 ≤ 240) ∧ ((0 ≤ F_T_at v (v 37 2) ∧ F_T_at v (v 37 2) ≤ 255) ∧ (F_T_at v (v 37 2) = 0 ↔ v 28 1 ≤ v 37 2)) ∧ P_T_at v (v 37 2) := by
  obtain ⟨h1, h2, h3, h4, h5, h6, h7, h8⟩ := h
  have ht := t_ta h1
  have br := t_bbr (v := v) h3.1
  rw [← h4] at br
  have b1 := br.2.1 h3.2
  have hl := ht.1
  exact ⟨ht, by omega, t_atr ht (by omega), t_pat ht (by omega)⟩
theorem q_Sl {k : Nat} {w v : z_Wd} (h : q_S k w v) : P_M_look w ∧ F_M_look w = (t_mc (F_T_at v (v 37 2)), z_up w 0 3 (v 37 2)) := by
  have hl := (q_Sat h).2.1
  obtain ⟨h1, h2, h3, h4, h5, h6, h7, h8⟩ := h
  have q := t_look h1 (by omega)
  rw [← h4] at q
  exact q
/-- the reference has looked -/
theorem q_S0 {k : Nat} {w v : z_Wd} (h : q_S k w v) : q_S k (z_up w 0 3 (v 37 2)) v ∧ q_mv w v (z_up w 0 3 (v 37 2)) v := by
  have hl := (q_Sat h).2.1
  obtain ⟨h1, h2, h3, h4, h5, h6, h7, h8⟩ := h
  have br := t_bbr (v := v) h3.1
  refine ⟨⟨t_tac h1 (z_up_ne (by decide)) (z_up_other (by decide)) rfl rfl, by rw [z_up_ne (by decide)]; exact h2, by rw [z_up_at]; omega, ?_, by rw [z_up_ne (by decide)]; exact h5, by rw [z_up_ne (by decide)]; exact h6, ?_, h8⟩, fr_uf rfl fr_rf, fr_rf, Int.le_refl _⟩
  · rw [z_up_at, h4, br.2.2.2]
  · rw [z_up_ne (by decide), z_up_other (by decide)]
    exact h7
/-- one byte further, on both sides -/
theorem q_Sn {k k' : Nat} {w v w1 : z_Wd} (h : q_S k w v) (hx : F_T_at v (v 37 2) ≠ 0) (f : z_fr [] [(0, 3), (0, 5)] w w1) (e3 : w1 0 3 = v 37 2 + 1) (e5 : w1 0 5 = 6 - (k' : Int)) : P_LR_step v ∧ q_S k' w1 (F_LR_step v) ∧ q_mv w v w1 (F_LR_step v) ∧ v 37 2 + 1 ≤ F_LR_step v 37 2 := by
  obtain ⟨ht, hl, ha, hp⟩ := q_Sat h
  obtain ⟨h1, h2, h3, h4, h5, h6, h7, h8⟩ := h
  have br := t_bbr (v := v) (p := v 37 2 + 1) (by omega)
  have lt : v 37 2 < v 28 1 := by omega
  have s37 : F_LR_step v 37 2 = F_T_behindBlanks v (v 37 2 + 1) := by
    unfold F_LR_step
    rw [z_up_at]
  have fD : z_fr [] [(37, 2)] v (F_LR_step v) := by
    unfold F_LR_step
    exact fr_uf rfl fr_rf
  have v28 : F_LR_step v 28 1 = v 28 1 := fr_f fD 28 1 rfl rfl
  have v29 : F_LR_step v 29 = v 29 := fr_c fD 29 rfl rfl
  have v38 : F_LR_step v 38 = v 38 := fr_c fD 38 rfl rfl
  have w14 : w1 0 14 = w 0 14 := fr_f f 0 14 rfl rfl
  refine ⟨t_pbb ht (by omega), ⟨t_tac h1 (fr_f f 0 2 rfl rfl) (fr_c f 1 rfl rfl) v28 v29, by rw [fr_f f 0 4 rfl rfl]; exact h2, by rw [e3, v28]; omega, ?_, e5, by rw [w14]; exact h6, ?_, ?_⟩, ⟨f, fD, by rw [s37]; omega⟩, by rw [s37]; exact br.1⟩
  · rw [s37, e3, x_bb v28 v29 (by omega)]
  · rw [w14, fr_c f 4 rfl rfl, v38]
    exact h7
  · rw [v38, s37]
    omega
