/-! the law's clauses: what is said of them -/
theorem q_Sw {k : Nat} {w v w' : z_Wd} (S : q_S k w v) (e0 : w' 0 = w 0) (e1 : w' 1 = w 1) (e4 : w' 4 = w 4) : q_S k w' v := by
  refine ⟨t_tac S.1 (by rw [e0]) e1 rfl rfl, ?_⟩
  rw [e0, e4]
  exact S.2
theorem q_Sadd {k : Nat} {w v : z_Wd} {s x : Int} (S : q_S k w v) (hl : v 38 2 + 1 ≤ v 37 2) : P_W_add v s x ∧ q_S k w (F_W_add v s x) ∧ F_W_add v s x 38 2 = v 38 2 + 1 ∧ (∀ i : Nat, F_W_add v s x 39 i = if (i : Int) = v 38 2 then s * 10000 + x else v 39 i) ∧ F_W_add v s x 37 = v 37 ∧ z_fr [39] [(37, 2), (38, 2)] v (F_W_add v s x) := by
  obtain ⟨ht, hq, ha, hp⟩ := q_Sat S
  obtain ⟨h1, h2, h3, h4, h5, h6, h7, h8⟩ := S
  obtain ⟨a1, a2, a3, a4⟩ := q_add (w := w) (v := v) (s := s) (x := x) (by omega)
  have f := a1.2.1
  have v28 : F_W_add v s x 28 1 = v 28 1 := fr_f f 28 1 rfl rfl
  have v29 : F_W_add v s x 29 = v 29 := fr_c f 29 rfl rfl
  refine ⟨⟨by omega, fun _ => trivial, fun _ => by omega⟩, ⟨t_tac h1 rfl rfl v28 v29, h2, by rw [v28]; exact h3, by rw [a4, x_bb v28 v29 (by omega)]; exact h4, h5, h6, by rw [a2]; omega, by rw [a2, a4]; exact hl⟩, a2, a3, a4, f⟩
/-- what a clause leaves -/
def q_fc (l1 : Int) (w v w' v' : z_Wd) : Prop := z_fr [2, 3, 4, 5, 6, 7, 8] [(0, 3), (0, 4), (0, 5)] w w' ∧ z_fr [39] [(37, 2), (38, 2)] v v' ∧ (∀ j, j ≠ (w 0 14).toNat → w' 4 j = w 4 j ∧ w' 5 j = w 5 j) ∧ (∀ j : Nat, (j : Int) < 520 * w 0 14 → w' 2 j = w 2 j ∧ w' 3 j = w 3 j) ∧ ∀ j : Nat, (j : Int) < l1 → w' 6 j = w 6 j ∧ w' 7 j = w 7 j ∧ w' 8 j = w 8 j
theorem q_fcT {l1 : Int} {w v w1 v1 w2 v2 : z_Wd} (h1 : q_fc l1 w v w1 v1) (h2 : q_fc l1 w1 v1 w2 v2) : q_fc l1 w v w2 v2 := by
  obtain ⟨a1, a2, a3, a4, a5⟩ := h1
  obtain ⟨b1, b2, b3, b4, b5⟩ := h2
  have e : w1 0 14 = w 0 14 := fr_f a1 0 14 rfl rfl
  rw [e] at b3 b4
  exact ⟨fr_tr a1 b1, fr_tr a2 b2, fun j hj => ⟨by rw [(b3 j hj).1, (a3 j hj).1], by rw [(b3 j hj).2, (a3 j hj).2]⟩, fun j hj => ⟨by rw [(b4 j hj).1, (a4 j hj).1], by rw [(b4 j hj).2, (a4 j hj).2]⟩, fun j hj => ⟨by rw [(b5 j hj).1, (a5 j hj).1], by rw [(b5 j hj).2.1, (a5 j hj).2.1], by rw [(b5 j hj).2.2, (a5 j hj).2.2]⟩⟩
theorem q_fcf {l1 : Int} {w v w' v' : z_Wd} (h : q_fr w v w' v') : q_fc l1 w v w' v' := by
  obtain ⟨a1, a2, a3, a4⟩ := h
  exact ⟨fr_wk a1 rfl rfl, a2, fun j hj => ⟨a3 j hj, by rw [fr_c a1 5 rfl rfl]⟩, a4, fun j hj => ⟨by rw [fr_c a1 6 rfl rfl], by rw [fr_c a1 7 rfl rfl], by rw [fr_c a1 8 rfl rfl]⟩⟩
theorem q_fc6 {l1 : Int} (h0 : 0 ≤ l1) {w v : z_Wd} {c : Nat} (hc : c = 6 ∨ c = 7 ∨ c = 8) {x : Int} : q_fc l1 w v (z_up w c l1.toNat x) v := by
  rcases hc with rfl | rfl | rfl
  · exact ⟨fr_up rfl fr_rf, fr_rf, fun j _ => by rw [z_up_other (by decide), z_up_other (by decide)]; exact ⟨rfl, rfl⟩, fun j _ => by rw [z_up_other (by decide), z_up_other (by decide)]; exact ⟨rfl, rfl⟩, fun j hj => by rw [z_up_ne (by omega), z_up_other (by decide), z_up_other (by decide)]; exact ⟨rfl, rfl, rfl⟩⟩
  · exact ⟨fr_up rfl fr_rf, fr_rf, fun j _ => by rw [z_up_other (by decide), z_up_other (by decide)]; exact ⟨rfl, rfl⟩, fun j _ => by rw [z_up_other (by decide), z_up_other (by decide)]; exact ⟨rfl, rfl⟩, fun j hj => by rw [z_up_ne (by omega), z_up_other (by decide), z_up_other (by decide)]; exact ⟨rfl, rfl, rfl⟩⟩
  · exact ⟨fr_up rfl fr_rf, fr_rf, fun j _ => by rw [z_up_other (by decide), z_up_other (by decide)]; exact ⟨rfl, rfl⟩, fun j _ => by rw [z_up_other (by decide), z_up_other (by decide)]; exact ⟨rfl, rfl⟩, fun j hj => by rw [z_up_ne (by omega), z_up_other (by decide), z_up_other (by decide)]; exact ⟨rfl, rfl, rfl⟩⟩
theorem q_fc5 {l1 : Int} {w v : z_Wd} {x : Int} : q_fc l1 w v (z_up w 5 (w 0 14).toNat x) v := ⟨fr_up rfl fr_rf, fr_rf, fun j hj => by rw [z_up_other (by decide), z_up_ne hj]; exact ⟨rfl, rfl⟩, fun j _ => by rw [z_up_other (by decide), z_up_other (by decide)]; exact ⟨rfl, rfl⟩, fun j hj => by rw [z_up_other (by decide), z_up_other (by decide), z_up_other (by decide)]; exact ⟨rfl, rfl, rfl⟩⟩
theorem q_fcK {l1 : Int} (h0 : 0 ≤ l1) {w v : z_Wd} : q_fc l1 w v (K_M_clause_251 w l1) v := by
  unfold K_M_clause_251
  have h := q_fcT (q_fc6 (w := w) (v := v) h0 (Or.inr (Or.inr rfl)) (x := w 4 ((w 0 14).toNat))) (q_fc5 (x := w 5 ((w 0 14).toNat) + 1))
  rw [z_up_other (show (0 : Nat) ≠ 8 by decide)] at h
  exact h
/-- only places, and the fault's -/
theorem q_fc0 {l1 : Int} {w v w' : z_Wd} (f : z_fr [] [(0, 3), (0, 4), (0, 5)] w w') : q_fc l1 w v w' v := ⟨fr_wk f rfl rfl, fr_rf, fun j _ => by rw [fr_c f 4 rfl rfl, fr_c f 5 rfl rfl]; exact ⟨rfl, rfl⟩, fun j _ => by rw [fr_c f 2 rfl rfl, fr_c f 3 rfl rfl]; exact ⟨rfl, rfl⟩, fun j _ => by rw [fr_c f 6 rfl rfl, fr_c f 7 rfl rfl, fr_c f 8 rfl rfl]; exact ⟨rfl, rfl, rfl⟩⟩
def q_CF (l1 : Int) (w v w' v' : z_Wd) : Prop := q_fc l1 w v w' v' ∧ w' 0 4 = v' 37 2 ∧ 0 ≤ v' 37 2 ∧ v' 37 2 ≤ 1000
def q_CG (g l1 : Int) (w v w' v' : z_Wd) : Prop := q_fc l1 w v w' v' ∧ q_S 6 w' v' ∧ w' 5 (w 0 14).toNat = w 5 (w 0 14).toNat + 1 ∧ v 37 2 + g ≤ v' 37 2 ∧ v 38 2 ≤ v' 38 2 ∧ w 4 (w 0 14).toNat ≤ w' 4 (w 0 14).toNat ∧ (∀ i : Nat, (i : Int) < w 4 (w 0 14).toNat → w' 2 (520 * (w 0 14).toNat + i) = w 2 (520 * (w 0 14).toNat + i) ∧ w' 3 (520 * (w 0 14).toNat + i) = w 3 (520 * (w 0 14).toNat + i)) ∧ (∀ i : Nat, (i : Int) < v 38 2 → v' 39 i = v 39 i) ∧ w' 8 l1.toNat ≤ w' 4 (w 0 14).toNat ∧ l_cla (fun k => w' 2 (520 * (w 0 14).toNat + k)) (fun k => w' 3 (520 * (w 0 14).toNat + k)) (v' 39) (w' 6 l1.toNat) (w' 7 l1.toNat) (w' 8 l1.toNat) (v 38 2).toNat (v' 38 2).toNat
/-- ahead of a clause's first sum or condition -/
def q_pre (l1 : Int) (w v wA vA : z_Wd) : Prop := q_fc l1 w v wA vA ∧ wA 4 = w 4 ∧ wA 2 = w 2 ∧ wA 3 = w 3 ∧ wA 5 = w 5 ∧ vA 39 = v 39 ∧ vA 38 2 = v 38 2 ∧ v 37 2 + 2 ≤ vA 37 2
theorem q_preG {l1 : Int} {w v wA vA w' v' : z_Wd} (p : q_pre l1 w v wA vA) (h : q_CG 1 l1 wA vA w' v') : q_CG 3 l1 w v w' v' := by
  obtain ⟨p1, p2, p3, p4, p5, p6, p7, p8⟩ := p
  obtain ⟨h1, h2, h3, h4, h5, h6, h7, h8, h9, h10⟩ := h
  have e : wA 0 14 = w 0 14 := fr_f p1.1 0 14 rfl rfl
  rw [e, p5] at h3
  rw [e, p2] at h6
  rw [e, p2, p3, p4] at h7
  rw [p7, p6] at h8
  rw [e] at h9
  rw [e, p7] at h10
  exact ⟨q_fcT p1 h1, h2, h3, by omega, by omega, h6, h7, h8, h9, h10⟩
theorem q_preF {l1 : Int} {w v wA vA w' v' : z_Wd} (p : q_pre l1 w v wA vA) (h : q_CF l1 wA vA w' v') : q_CF l1 w v w' v' := ⟨q_fcT p.1 h.1, h.2⟩
