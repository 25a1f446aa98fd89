/-! the start: the world that the constructors make, and that both sides agree there -/
def s_w : z_Wd := z_up (z_up (z_up (z_up (fun _ _ => 0) 0 33 (-1)) 0 34 3) 27 12 3) 55 5 (-1)
theorem s_c {k : Nat} (h0 : k ≠ 0) (h27 : k ≠ 27) (h55 : k ≠ 55) : s_w k = fun _ => 0 := by
  unfold s_w
  rw [z_up_other h55, z_up_other h27, z_up_other h0, z_up_other h0]
theorem s_0 {j : Nat} (h3 : j ≠ 33) (h4 : j ≠ 34) : s_w 0 j = 0 := by
  unfold s_w
  rw [z_up_other (by decide), z_up_other (by decide), z_up_ne h4, z_up_ne h3]
theorem s_33 : s_w 0 33 = -1 := by
  unfold s_w
  rw [z_up_other (by decide), z_up_other (by decide), z_up_ne (by decide), z_up_at]
theorem s_34 : s_w 0 34 = 3 := by
  unfold s_w
  rw [z_up_other (by decide), z_up_other (by decide), z_up_at]
theorem s_27 : s_w 27 12 = 3 := by
  unfold s_w
  rw [z_up_other (by decide), z_up_at]
theorem s_27b : s_w 27 13 = 0 := by
  unfold s_w
  rw [z_up_other (by decide), z_up_ne (by decide), z_up_other (by decide), z_up_other (by decide)]
theorem s_55 : s_w 55 4 = 0 := by
  unfold s_w
  rw [z_up_ne (by decide), z_up_other (by decide), z_up_other (by decide), z_up_other (by decide)]
theorem s_55b : s_w 55 5 = -1 := by
  unfold s_w
  rw [z_up_at]
theorem s_st : r_st 0 0 (fun _ => 0) (fun _ => 0) (fun _ => 0) 0 0 0 (fun _ => 0) := by
  unfold r_st
  refine ⟨fun n hn => (by (try dsimp only at *); omega), fun n hn => (by (try dsimp only at *); omega), fun a ha => ⟨(by (try dsimp only at *); omega), fun _ => rfl⟩, fun a i ha hi => (by (try dsimp only at *); omega), fun n hn => (by (try dsimp only at *); omega), fun k hk => (by (try dsimp only at *); omega), by decide, by decide, by decide⟩
theorem s_lg : r_lg 0 (fun _ => 0) (fun _ => 0) (fun _ => 0) := by
  unfold r_lg
  exact ⟨by decide, fun i hi => (by (try dsimp only at *); omega)⟩
theorem s_Rl : Rl s_w := by
  have c : ∀ k, k ≠ 0 → k ≠ 27 → k ≠ 55 → s_w k = fun _ => 0 := fun k a b d => s_c a b d
  unfold Rl r_all r_ta r_mi r_no r_ac r_im r_la r_cl r_re r_fl r_rd
  rw [c 28 (by decide) (by decide) (by decide), c 32 (by decide) (by decide) (by decide), c 31 (by decide) (by decide) (by decide), c 15 (by decide) (by decide) (by decide), c 16 (by decide) (by decide) (by decide), c 17 (by decide) (by decide) (by decide), c 18 (by decide) (by decide) (by decide), c 19 (by decide) (by decide) (by decide), c 20 (by decide) (by decide) (by decide), c 21 (by decide) (by decide) (by decide), c 13 (by decide) (by decide) (by decide), c 35 (by decide) (by decide) (by decide), c 41 (by decide) (by decide) (by decide), c 42 (by decide) (by decide) (by decide), c 43 (by decide) (by decide) (by decide), c 44 (by decide) (by decide) (by decide), c 45 (by decide) (by decide) (by decide), c 46 (by decide) (by decide) (by decide), c 53 (by decide) (by decide) (by decide), c 54 (by decide) (by decide) (by decide), c 72 (by decide) (by decide) (by decide), c 78 (by decide) (by decide) (by decide)]
  rw [s_0 (j := 2) (by decide) (by decide), s_0 (j := 28) (by decide) (by decide), s_0 (j := 29) (by decide) (by decide), s_0 (j := 30) (by decide) (by decide), s_0 (j := 36) (by decide) (by decide), s_0 (j := 45) (by decide) (by decide), s_0 (j := 13) (by decide) (by decide), s_0 (j := 43) (by decide) (by decide), s_33, s_34, s_27, s_27b, s_55, s_55b]
  refine ⟨⟨rfl, by decide, fun i hi => (by (try dsimp only at *); omega)⟩, ⟨⟨rfl, rfl, rfl⟩, ?_, ⟨rfl, by decide, fun z => absurd rfl z⟩, fun k hk => (by (try dsimp only at *); omega), fun k hk => (by (try dsimp only at *); omega), fun k hk => (by (try dsimp only at *); omega), fun i _ => (by (try dsimp only at *); omega), fun i _ => (by (try dsimp only at *); omega)⟩, ⟨s_st, s_lg⟩, ⟨rfl, by decide, by decide, fun j hj => (by (try dsimp only at *); omega)⟩, ⟨rfl, Or.inl rfl, fun z => absurd rfl z⟩, ⟨rfl, by decide, ⟨rfl, by decide, by decide⟩, fun n hn => (by (try dsimp only at *); omega)⟩, ⟨rfl, by decide, fun i hi => (by (try dsimp only at *); omega)⟩, fun i _ => rfl, ⟨rfl, by decide, by decide⟩, fun i _ => (by (try dsimp only at *); omega), fun i _ => (by (try dsimp only at *); omega)⟩
  unfold r_mn
  decide
theorem s_all : S_all Rl := ⟨ok_feed, ok_end, ok_fault, ok_text, ok_rule, ok_name, ok_well, ok_file, ok_law, ok_dip, ok_scratch, ok_blot, ok_water, ok_fill, ok_give, ok_years, ok_flies, ok_decades, ok_status, ok_undo, ok_log, ok_layer, ok_reach, ok_faction, ok_silence, ok_seen, ok_gone, ok_sure, ok_ask, ok_game, ok_rests, ok_odds, ok_shares, ok_most, ok_known, ok_quiet, ok_image, ok_back, ok_count⟩
