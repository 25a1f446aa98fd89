/-! the law's atoms -/
def q_B (k : Nat) : Int := 241 + 8 * (k : Int)
theorem q_SF {j : Nat} {B : Int} {w v w2 v2 w3 : z_Wd} (f : q_fr w v w2 v2) (S : q_S j w2 v2) (f3 : z_fr [] [(0, 3), (0, 4), (0, 5)] w2 w3) (e : w3 0 4 = v2 37 2) (hB : 241 ≤ B) : q_F B w v w3 v2 := by
  obtain ⟨ht, hq, hat, hp⟩ := q_Sat S
  have e14 : w2 0 14 = w 0 14 := fr_f f.1 0 14 rfl rfl
  have s7 := S.2.2.2.2.2.2
  rw [e14] at s7
  refine ⟨q_frT f ⟨fr_wk f3 rfl rfl, fr_rf, fun j _ => by rw [fr_c f3 4 rfl rfl], fun j _ => by rw [fr_c f3 2 rfl rfl, fr_c f3 3 rfl rfl]; exact ⟨rfl, rfl⟩⟩, e, by omega, ?_⟩
  rw [fr_c f3 4 rfl rfl]
  omega
theorem q_close {b : Bool} {nd n : Nat} {B : Int} {j : Nat} {c : Int} (hc : 1 ≤ c ∧ c ≤ 255) {w v w2 v2 : z_Wd} (G : q_G b nd w v w2 v2 n) (S : q_S j w2 v2) (hB : 241 ≤ B) : P_M_closes w2 c ∧ P_LR_take v2 c ∧ q_O b nd B (j + 1) w v (F_M_closes w2 c) (F_LR_take v2 c) := by
  obtain ⟨ht, hq, hat, hp⟩ := q_Sat S
  obtain ⟨l1, l2⟩ := q_Sl S
  have s4 : w2 0 4 = -1 := S.2.1
  have s5 : w2 0 5 = 6 - (j : Int) := S.2.2.2.2.1
  have hx := t_mcr hat.1
  unfold P_M_closes P_LR_take F_M_closes F_LR_take
  rw [l2, if_pos s4]
  dsimp only
  by_cases x : F_T_at v2 (v2 37 2) = c
  · have e : t_mc (F_T_at v2 (v2 37 2)) = c := by
      unfold t_mc
      rw [if_neg (by omega), x]
    rw [if_pos e, if_pos x, z_up_at, z_twice, z_up_ne (show (5 : Nat) ≠ 3 by decide)]
    obtain ⟨n1, n2, n3, n4⟩ := q_Sn (k' := j + 1) (w1 := z_up (z_up w2 0 3 (v2 37 2 + 1)) 0 5 (w2 0 5 - 1)) S (by omega) (fr_uf rfl (fr_uf rfl fr_rf)) (by rw [z_up_ne (by decide), z_up_at]) (by rw [z_up_at]; omega)
    exact ⟨⟨by omega, fun _ => ⟨l1, by omega, by omega, fun _ => trivial, fun z => absurd e z⟩, fun z => absurd s4 z⟩, ⟨hp, by omega, by omega, fun _ => n1, fun z => absurd x z⟩, Or.inl ⟨rfl, ⟨n, q_Gq G n3⟩, n2⟩⟩
  · have e : ¬ t_mc (F_T_at v2 (v2 37 2)) = c := by
      unfold t_mc
      by_cases z : F_T_at v2 (v2 37 2) = 0
      · rw [if_pos z]; omega
      · rw [if_neg z]; exact x
    rw [if_neg e, if_neg x]
    refine ⟨⟨by omega, fun _ => ⟨l1, by omega, by omega, fun z => absurd z e, fun _ => ?_⟩, fun z => absurd s4 z⟩, ⟨hp, by omega, by omega, fun z => absurd z x, fun _ => trivial⟩, Or.inr ⟨rfl, q_SF G.1 S ?_ ?_ hB⟩⟩
    · unfold P_M_bad
      rw [z_up_ne (by decide)]
      omega
    · exact fr_uf rfl (fr_uf rfl (fr_tr (w' := z_up w2 0 3 (v2 37 2)) (fr_uf rfl fr_rf) (fr_wk fr_F_M_bad rfl rfl)))
    · rw [z_up_ne (by decide), z_up_ne (by decide)]
      unfold F_M_bad
      rw [if_pos (by rw [z_up_ne (by decide)]; exact s4), z_up_at, z_up_at]
theorem q_closeF {B : Int} {c : Int} {w v w2 v2 : z_Wd} (h : q_F B w v w2 v2) : P_M_closes w2 c ∧ q_F B w v (F_M_closes w2 c) v2 := by
  obtain ⟨f, a, b, d⟩ := id h
  have ne : ¬ w2 0 4 = -1 := by omega
  unfold P_M_closes F_M_closes
  rw [if_neg ne]
  refine ⟨⟨by omega, fun z => absurd z ne, fun _ => trivial⟩, q_Fq h ?_ ?_ ?_⟩
  · exact ⟨fr_uf rfl (fr_uf rfl fr_rf), fr_rf, fun j _ => by rw [z_up_other (by decide), z_up_other (by decide)], fun j _ => by rw [z_up_other (by decide), z_up_other (by decide), z_up_other (by decide), z_up_other (by decide)]; exact ⟨rfl, rfl⟩⟩
  · rw [z_up_ne (by decide), z_up_ne (by decide)]
  · rw [z_up_other (by decide), z_up_other (by decide)]
    exact d
/-- a bracket opens, a level free -/
theorem q_open {j : Nat} {w v : z_Wd} (hj : j ≤ 6) (S : q_S (j + 1) w v) (hx : F_T_at v (v 37 2) ≠ 0) : P_M_opens (z_up w 0 3 (v 37 2)) ∧ F_M_opens (z_up w 0 3 (v 37 2)) 0 4 = -1 ∧ P_LR_step v ∧ q_S j (F_M_opens (z_up w 0 3 (v 37 2))) (F_LR_step v) ∧ q_mv w v (F_M_opens (z_up w 0 3 (v 37 2))) (F_LR_step v) ∧ v 37 2 + 1 ≤ F_LR_step v 37 2 := by
  have s4 : w 0 4 = -1 := S.2.1
  have s5 : w 0 5 = 6 - ((j + 1 : Nat) : Int) := S.2.2.2.2.1
  have ne : ¬ (z_up w 0 3 (v 37 2)) 0 5 = 6 := by rw [z_up_ne (by decide)]; omega
  have e : F_M_opens (z_up w 0 3 (v 37 2)) = z_up (z_up (z_up w 0 3 (v 37 2)) 0 5 (w 0 5 + 1)) 0 3 (v 37 2 + 1) := by
    unfold F_M_opens
    rw [if_neg ne, z_up_at, z_up_ne (show (5 : Nat) ≠ 3 by decide)]
  have p : P_M_opens (z_up w 0 3 (v 37 2)) := ⟨by rw [z_up_ne (by decide)]; omega, fun z => absurd z ne, fun _ => trivial⟩
  rw [e]
  obtain ⟨n1, n2, n3, n4⟩ := q_Sn (k' := j) (w1 := z_up (z_up (z_up w 0 3 (v 37 2)) 0 5 (w 0 5 + 1)) 0 3 (v 37 2 + 1)) S hx (fr_uf rfl (fr_uf rfl (fr_uf rfl fr_rf))) (by rw [z_up_at]) (by rw [z_up_ne (by decide), z_up_at]; omega)
  refine ⟨p, ?_, n1, n2, n3, n4⟩
  rw [z_up_ne (by decide), z_up_ne (by decide), z_up_ne (by decide)]
  exact s4
/-- a bracket opens, no level free -/
theorem q_open0 {B : Int} {w v : z_Wd} (S : q_S 0 w v) (hB : 241 ≤ B) : P_M_opens (z_up w 0 3 (v 37 2)) ∧ F_M_opens (z_up w 0 3 (v 37 2)) 0 4 = v 37 2 ∧ q_F B w v (F_M_opens (z_up w 0 3 (v 37 2))) v := by
  have s4 : w 0 4 = -1 := S.2.1
  have s5 : w 0 5 = 6 - ((0 : Nat) : Int) := S.2.2.2.2.1
  have ne : (z_up w 0 3 (v 37 2)) 0 5 = 6 := by rw [z_up_ne (by decide)]; omega
  have p : P_M_opens (z_up w 0 3 (v 37 2)) := ⟨by rw [z_up_ne (by decide)]; omega, fun z => by unfold P_M_bad; rw [z_up_ne (by decide)]; omega, fun z => absurd ne z⟩
  have e4 : F_M_opens (z_up w 0 3 (v 37 2)) 0 4 = v 37 2 := by
    unfold F_M_opens
    rw [if_pos ne, z_up_ne (by decide), z_up_ne (by decide)]
    unfold F_M_bad
    rw [if_pos (by rw [z_up_ne (by decide)]; exact s4), z_up_at, z_up_at]
  exact ⟨p, e4, q_SF q_fr0 S (fr_tr (w' := z_up w 0 3 (v 37 2)) (fr_uf rfl fr_rf) fr_F_M_opens) e4 hB⟩
