/-! frames, by program -/
theorem fr_F_M_end {w : z_Wd} {a0 : Int} : z_fr [] [(0, 2)] w (F_M_end w a0).2 := by
  unfold F_M_end
  repeat' (first | (with_reducible exact fr_rf) | (with_reducible refine fr_up (by decide) ?_) | (with_reducible refine fr_uf (by decide) ?_) | (with_reducible refine fr_cp (by decide) ?_) | split | (dsimp only))
theorem fr_F_M_bad {w : z_Wd} : z_fr [] [(0, 4)] w (F_M_bad w) := by
  unfold F_M_bad
  repeat' (first | (with_reducible exact fr_rf) | (with_reducible refine fr_up (by decide) ?_) | (with_reducible refine fr_uf (by decide) ?_) | (with_reducible refine fr_cp (by decide) ?_) | split | (dsimp only))
theorem fr_F_M_put {w : z_Wd} {a0 : Int} {a1 : Int} : z_fr [2, 3, 4] [] w (F_M_put w a0 a1) := by
  unfold F_M_put
  repeat' (first | (with_reducible exact fr_rf) | (with_reducible refine fr_up (by decide) ?_) | (with_reducible refine fr_uf (by decide) ?_) | (with_reducible refine fr_cp (by decide) ?_) | split | (dsimp only))
theorem fr_F_M_opens {w : z_Wd} : z_fr [] [(0, 3), (0, 4), (0, 5)] w (F_M_opens w) := by
  unfold F_M_opens
  repeat' (first | (with_reducible exact fr_rf) | (with_reducible refine fr_up (by decide) ?_) | (with_reducible refine fr_uf (by decide) ?_) | (with_reducible refine fr_cp (by decide) ?_) | (with_reducible refine fr_tr ?_ (fr_wk fr_F_M_bad (by decide) (by decide))) | split | (dsimp only))
theorem fr_F_M_open {w : z_Wd} {a0 : Int} : z_fr [4, 5] [(0, 3), (0, 4), (0, 5), (0, 14)] w (F_M_open w a0) := by
  unfold F_M_open
  repeat' (first | (with_reducible exact fr_rf) | (with_reducible refine fr_up (by decide) ?_) | (with_reducible refine fr_uf (by decide) ?_) | (with_reducible refine fr_cp (by decide) ?_) | split | (dsimp only))
theorem fr_F_M_law {w : z_Wd} {a0 : Int} : z_fr [] [(0, 33)] w (F_M_law w a0).2 := by
  unfold F_M_law
  repeat' (first | (with_reducible exact fr_rf) | (with_reducible refine fr_up (by decide) ?_) | (with_reducible refine fr_uf (by decide) ?_) | (with_reducible refine fr_cp (by decide) ?_) | split | (dsimp only))
theorem fr_F_M_isRefused {w : z_Wd} {a0 : Int} : z_fr [20] [] w (F_M_isRefused w a0).2 := by
  unfold F_M_isRefused
  repeat' (first | (with_reducible exact fr_rf) | (with_reducible refine fr_up (by decide) ?_) | (with_reducible refine fr_uf (by decide) ?_) | (with_reducible refine fr_cp (by decide) ?_) | split | (dsimp only))
theorem fr_F_M_dipNow {w : z_Wd} {a0 : Int} {a1 : Int} : z_fr [19] [] w (F_M_dipNow w a0 a1) := by
  unfold F_M_dipNow
  repeat' (first | (with_reducible exact fr_rf) | (with_reducible refine fr_up (by decide) ?_) | (with_reducible refine fr_uf (by decide) ?_) | (with_reducible refine fr_cp (by decide) ?_) | split | (dsimp only))
theorem fr_F_M_flies {w : z_Wd} {a0 : Int} : z_fr [] [(0, 34)] w (F_M_flies w a0).2 := by
  unfold F_M_flies
  repeat' (first | (with_reducible exact fr_rf) | (with_reducible refine fr_up (by decide) ?_) | (with_reducible refine fr_uf (by decide) ?_) | (with_reducible refine fr_cp (by decide) ?_) | split | (dsimp only))
theorem fr_F_M_draw {w : z_Wd} {a0 : Int} : z_fr [] [(0, 37)] w (F_M_draw w a0).2 := by
  unfold F_M_draw
  repeat' (first | (with_reducible exact fr_rf) | (with_reducible refine fr_up (by decide) ?_) | (with_reducible refine fr_uf (by decide) ?_) | (with_reducible refine fr_cp (by decide) ?_) | split | (dsimp only))
theorem fr_F_M_seen {w : z_Wd} {a0 : Int} {a1 : Int} : z_fr [23, 24] [(0, 43)] w (F_M_seen w a0 a1).2 := by
  unfold F_M_seen
  repeat' (first | (with_reducible exact fr_rf) | (with_reducible refine fr_up (by decide) ?_) | (with_reducible refine fr_uf (by decide) ?_) | (with_reducible refine fr_cp (by decide) ?_) | split | (dsimp only))
theorem fr_F_M_riseNow {w : z_Wd} {a0 : Int} {a1 : Int} : z_fr [19] [] w (F_M_riseNow w a0 a1).2 := by
  unfold F_M_riseNow
  repeat' (first | (with_reducible exact fr_rf) | (with_reducible refine fr_up (by decide) ?_) | (with_reducible refine fr_uf (by decide) ?_) | (with_reducible refine fr_cp (by decide) ?_) | split | (dsimp only))
theorem fr_F_M_putAside {w : z_Wd} {a0 : Int} : z_fr [22] [] w (F_M_putAside w a0) := by
  unfold F_M_putAside
  repeat' (first | (with_reducible exact fr_rf) | (with_reducible refine fr_up (by decide) ?_) | (with_reducible refine fr_uf (by decide) ?_) | (with_reducible refine fr_cp (by decide) ?_) | split | (dsimp only))
theorem fr_F_M_takeBack {w : z_Wd} {a0 : Int} : z_fr [19] [] w (F_M_takeBack w a0) := by
  unfold F_M_takeBack
  repeat' (first | (with_reducible exact fr_rf) | (with_reducible refine fr_up (by decide) ?_) | (with_reducible refine fr_uf (by decide) ?_) | (with_reducible refine fr_cp (by decide) ?_) | split | (dsimp only))
theorem fr_z_kept {w : z_Wd} : z_fr [21] [(0, 36)] w (z_kept w) := by
  unfold z_kept
  repeat' (first | (with_reducible exact fr_rf) | (with_reducible refine fr_up (by decide) ?_) | (with_reducible refine fr_uf (by decide) ?_) | (with_reducible refine fr_cp (by decide) ?_) | split | (dsimp only))
theorem fr_F_M_keep {w : z_Wd} : z_fr [21] [(0, 36)] w (F_M_keep w) := by
  unfold F_M_keep
  repeat' (first | (with_reducible exact fr_rf) | (with_reducible refine fr_up (by decide) ?_) | (with_reducible refine fr_uf (by decide) ?_) | (with_reducible refine fr_cp (by decide) ?_) | (with_reducible refine fr_tr ?_ (fr_wk fr_z_kept (by decide) (by decide))) | split | (dsimp only))
theorem fr_F_M_undo {w : z_Wd} : z_fr [19] [(0, 36)] w (F_M_undo w).2 := by
  unfold F_M_undo
  repeat' (first | (with_reducible exact fr_rf) | (with_reducible refine fr_up (by decide) ?_) | (with_reducible refine fr_uf (by decide) ?_) | (with_reducible refine fr_cp (by decide) ?_) | split | (dsimp only))
theorem fr_F_M_image {w : z_Wd} : z_fr [25] [(0, 45)] w (F_M_image w).2 := by
  unfold F_M_image
  repeat' (first | (with_reducible exact fr_rf) | (with_reducible refine fr_up (by decide) ?_) | (with_reducible refine fr_uf (by decide) ?_) | (with_reducible refine fr_cp (by decide) ?_) | split | (dsimp only))
theorem fr_F_M_back {w : z_Wd} : z_fr [19] [(0, 36)] w (F_M_back w).2 := by
  unfold F_M_back
  repeat' (first | (with_reducible exact fr_rf) | (with_reducible refine fr_up (by decide) ?_) | (with_reducible refine fr_uf (by decide) ?_) | (with_reducible refine fr_cp (by decide) ?_) | split | (dsimp only))
theorem fr_F_M_scratchNow {w : z_Wd} {a0 : Int} {a1 : Int} : z_fr [19] [] w (F_M_scratchNow w a0 a1).2 := by
  unfold F_M_scratchNow
  repeat' (first | (with_reducible exact fr_rf) | (with_reducible refine fr_up (by decide) ?_) | (with_reducible refine fr_uf (by decide) ?_) | (with_reducible refine fr_cp (by decide) ?_) | (with_reducible refine fr_tr ?_ (fr_wk fr_F_M_riseNow (by decide) (by decide))) | split | (dsimp only))
theorem fr_F_M_blot {w : z_Wd} {a0 : Int} : z_fr [19, 20, 21] [(0, 36)] w (F_M_blot w a0).2 := by
  unfold F_M_blot
  repeat' (first | (with_reducible exact fr_rf) | (with_reducible refine fr_up (by decide) ?_) | (with_reducible refine fr_uf (by decide) ?_) | (with_reducible refine fr_cp (by decide) ?_) | (with_reducible refine fr_tr ?_ (fr_wk fr_F_M_isRefused (by decide) (by decide))) | (with_reducible refine fr_tr ?_ (fr_wk fr_F_M_keep (by decide) (by decide))) | (with_reducible refine fr_tr ?_ (fr_wk fr_F_M_riseNow (by decide) (by decide))) | split | (dsimp only))
theorem fr_F_M_water {w : z_Wd} {a0 : Int} : z_fr [19, 20, 21] [(0, 36)] w (F_M_water w a0).2 := by
  unfold F_M_water
  repeat' (first | (with_reducible exact fr_rf) | (with_reducible refine fr_up (by decide) ?_) | (with_reducible refine fr_uf (by decide) ?_) | (with_reducible refine fr_cp (by decide) ?_) | (with_reducible refine fr_tr ?_ (fr_wk fr_F_M_isRefused (by decide) (by decide))) | (with_reducible refine fr_tr ?_ (fr_wk fr_F_M_keep (by decide) (by decide))) | split | (dsimp only))
theorem fr_F_M_fill {w : z_Wd} {a0 : Int} : z_fr [19, 20, 21] [(0, 36)] w (F_M_fill w a0).2 := by
  unfold F_M_fill
  repeat' (first | (with_reducible exact fr_rf) | (with_reducible refine fr_up (by decide) ?_) | (with_reducible refine fr_uf (by decide) ?_) | (with_reducible refine fr_cp (by decide) ?_) | (with_reducible refine fr_tr ?_ (fr_wk fr_F_M_isRefused (by decide) (by decide))) | (with_reducible refine fr_tr ?_ (fr_wk fr_F_M_keep (by decide) (by decide))) | split | (dsimp only))
theorem fr_F_M_give {w : z_Wd} {a0 : Int} : z_fr [19, 20, 21] [(0, 36)] w (F_M_give w a0).2 := by
  unfold F_M_give
  repeat' (first | (with_reducible exact fr_rf) | (with_reducible refine fr_up (by decide) ?_) | (with_reducible refine fr_uf (by decide) ?_) | (with_reducible refine fr_cp (by decide) ?_) | (with_reducible refine fr_tr ?_ (fr_wk fr_F_M_isRefused (by decide) (by decide))) | (with_reducible refine fr_tr ?_ (fr_wk fr_F_M_keep (by decide) (by decide))) | split | (dsimp only))
theorem fr_F_M_scratch {w : z_Wd} {a0 : Int} {a1 : Int} : z_fr [19, 20, 21] [(0, 36)] w (F_M_scratch w a0 a1).2 := by
  unfold F_M_scratch
  repeat' (first | (with_reducible exact fr_rf) | (with_reducible refine fr_up (by decide) ?_) | (with_reducible refine fr_uf (by decide) ?_) | (with_reducible refine fr_cp (by decide) ?_) | (with_reducible refine fr_tr ?_ (fr_wk fr_F_M_isRefused (by decide) (by decide))) | (with_reducible refine fr_tr ?_ (fr_wk fr_F_M_keep (by decide) (by decide))) | (with_reducible refine fr_tr ?_ (fr_wk fr_F_M_scratchNow (by decide) (by decide))) | split | (dsimp only))
theorem fr_F_M_dip {w : z_Wd} {a0 : Int} {a1 : Int} : z_fr [19, 20, 21] [(0, 36)] w (F_M_dip w a0 a1).2 := by
  unfold F_M_dip
  repeat' (first | (with_reducible exact fr_rf) | (with_reducible refine fr_up (by decide) ?_) | (with_reducible refine fr_uf (by decide) ?_) | (with_reducible refine fr_cp (by decide) ?_) | (with_reducible refine fr_tr ?_ (fr_wk fr_F_M_dipNow (by decide) (by decide))) | (with_reducible refine fr_tr ?_ (fr_wk fr_F_M_isRefused (by decide) (by decide))) | (with_reducible refine fr_tr ?_ (fr_wk fr_F_M_keep (by decide) (by decide))) | split | (dsimp only))
theorem fr_F_M_drawYear {w : z_Wd} : z_fr [19] [(0, 37)] w (F_M_drawYear w) := by
  unfold F_M_drawYear
  repeat' (first | (with_reducible exact fr_rf) | (with_reducible refine fr_up (by decide) ?_) | (with_reducible refine fr_uf (by decide) ?_) | (with_reducible refine fr_cp (by decide) ?_) | (with_reducible refine fr_tr ?_ (fr_wk fr_F_M_dipNow (by decide) (by decide))) | (with_reducible refine fr_tr ?_ (fr_wk fr_F_M_draw (by decide) (by decide))) | (with_reducible refine fr_tr ?_ (fr_wk fr_F_M_scratchNow (by decide) (by decide))) | split | (dsimp only))
theorem fr_A_M_workOut_12 {w : z_Wd} {a0 : Int} {a1 : Int} {a2 : Int} {n : Nat} : z_fr [10] [] w (A_M_workOut_12 w a0 a1 a2 n).2 := by
  induction n with
  | zero =>
    simp only [A_M_workOut_12]
    repeat' (first | (with_reducible exact fr_rf) | (with_reducible refine fr_up (by decide) ?_) | (with_reducible refine fr_uf (by decide) ?_) | (with_reducible refine fr_cp (by decide) ?_) | split | (dsimp only))
  | succ n ih =>
    simp only [A_M_workOut_12]
    repeat' (first | (with_reducible exact fr_rf) | (with_reducible exact ih) | (with_reducible refine fr_up (by decide) ?_) | (with_reducible refine fr_uf (by decide) ?_) | (with_reducible refine fr_cp (by decide) ?_) | split | (dsimp only))
theorem fr_F_M_workOut {w : z_Wd} {a0 : Int} {a1 : Int} {a2 : Int} : z_fr [10] [] w (F_M_workOut w a0 a1 a2).2 := by
  unfold F_M_workOut
  repeat' (first | (with_reducible exact fr_rf) | (with_reducible refine fr_up (by decide) ?_) | (with_reducible refine fr_uf (by decide) ?_) | (with_reducible refine fr_cp (by decide) ?_) | (with_reducible refine fr_tr ?_ (fr_wk fr_A_M_workOut_12 (by decide) (by decide))) | split | (dsimp only))
theorem fr_A_M_feed_62 {w : z_Wd} {a0 : Int} {a1 : Int} {a2 : Int} {a3 : Int} {a4 : Int} {n : Nat} : z_fr [1] [(0, 2)] w (A_M_feed_62 w a0 a1 a2 a3 a4 n) := by
  induction n with
  | zero =>
    simp only [A_M_feed_62]
    repeat' (first | (with_reducible exact fr_rf) | (with_reducible refine fr_up (by decide) ?_) | (with_reducible refine fr_uf (by decide) ?_) | (with_reducible refine fr_cp (by decide) ?_) | split | (dsimp only))
  | succ n ih =>
    simp only [A_M_feed_62]
    repeat' (first | (with_reducible exact fr_rf) | (with_reducible exact ih) | (with_reducible refine fr_up (by decide) ?_) | (with_reducible refine fr_uf (by decide) ?_) | (with_reducible refine fr_cp (by decide) ?_) | split | (dsimp only))
theorem fr_F_M_feed {w : z_Wd} {a0 : Int} {a1 : Int} {a2 : Int} {a3 : Int} {a4 : Int} : z_fr [1] [(0, 2)] w (F_M_feed w a0 a1 a2 a3 a4).2 := by
  unfold F_M_feed
  repeat' (first | (with_reducible exact fr_rf) | (with_reducible refine fr_up (by decide) ?_) | (with_reducible refine fr_uf (by decide) ?_) | (with_reducible refine fr_cp (by decide) ?_) | (with_reducible refine fr_tr ?_ (fr_wk fr_A_M_feed_62 (by decide) (by decide))) | split | (dsimp only))
theorem fr_A_M_worthOf_6 {w : z_Wd} {a0 : Int} {n : Nat} : z_fr [10] [] w (A_M_worthOf_6 w a0 n) := by
  induction n with
  | zero =>
    simp only [A_M_worthOf_6]
    repeat' (first | (with_reducible exact fr_rf) | (with_reducible refine fr_up (by decide) ?_) | (with_reducible refine fr_uf (by decide) ?_) | (with_reducible refine fr_cp (by decide) ?_) | (with_reducible refine fr_tr ?_ (fr_wk fr_F_M_workOut (by decide) (by decide))) | split | (dsimp only))
  | succ n ih =>
    simp only [A_M_worthOf_6]
    repeat' (first | (with_reducible exact fr_rf) | (with_reducible exact ih) | (with_reducible refine fr_up (by decide) ?_) | (with_reducible refine fr_uf (by decide) ?_) | (with_reducible refine fr_cp (by decide) ?_) | (with_reducible refine fr_tr ?_ (fr_wk fr_F_M_workOut (by decide) (by decide))) | split | (dsimp only))
theorem fr_R_M_worthOf_6 {w : z_Wd} {a0 : Int} {i11 : Nat} : z_fr [10] [] w (R_M_worthOf_6 w a0 i11).2 := by
  unfold R_M_worthOf_6
  repeat' (first | (with_reducible exact fr_rf) | (with_reducible refine fr_up (by decide) ?_) | (with_reducible refine fr_uf (by decide) ?_) | (with_reducible refine fr_cp (by decide) ?_) | (with_reducible refine fr_tr ?_ (fr_wk fr_A_M_worthOf_6 (by decide) (by decide))) | (with_reducible refine fr_tr ?_ (fr_wk fr_F_M_workOut (by decide) (by decide))) | split | (dsimp only))
theorem fr_F_M_worthOf {w : z_Wd} {a0 : Int} : z_fr [10] [] w (F_M_worthOf w a0).2 := by
  unfold F_M_worthOf
  repeat' (first | (with_reducible exact fr_rf) | (with_reducible refine fr_up (by decide) ?_) | (with_reducible refine fr_uf (by decide) ?_) | (with_reducible refine fr_cp (by decide) ?_) | (with_reducible refine fr_tr ?_ (fr_wk fr_A_M_worthOf_6 (by decide) (by decide))) | (with_reducible refine fr_tr ?_ (fr_wk fr_R_M_worthOf_6 (by decide) (by decide))) | split | (dsimp only))
theorem fr_F_M_missedOf {w : z_Wd} {a0 : Int} : z_fr [9, 10] [] w (F_M_missedOf w a0).2 := by
  unfold F_M_missedOf
  repeat' (first | (with_reducible exact fr_rf) | (with_reducible refine fr_up (by decide) ?_) | (with_reducible refine fr_uf (by decide) ?_) | (with_reducible refine fr_cp (by decide) ?_) | (with_reducible refine fr_tr ?_ (fr_wk fr_F_M_worthOf (by decide) (by decide))) | split | (dsimp only))
theorem fr_A_M_missedAll_4 {w : z_Wd} {n : Nat} : z_fr [9, 10] [] w (A_M_missedAll_4 w n).2 := by
  induction n with
  | zero =>
    simp only [A_M_missedAll_4]
    repeat' (first | (with_reducible exact fr_rf) | (with_reducible refine fr_up (by decide) ?_) | (with_reducible refine fr_uf (by decide) ?_) | (with_reducible refine fr_cp (by decide) ?_) | (with_reducible refine fr_tr ?_ (fr_wk fr_F_M_missedOf (by decide) (by decide))) | split | (dsimp only))
  | succ n ih =>
    simp only [A_M_missedAll_4]
    repeat' (first | (with_reducible exact fr_rf) | (with_reducible exact ih) | (with_reducible refine fr_up (by decide) ?_) | (with_reducible refine fr_uf (by decide) ?_) | (with_reducible refine fr_cp (by decide) ?_) | (with_reducible refine fr_tr ?_ (fr_wk fr_F_M_missedOf (by decide) (by decide))) | split | (dsimp only))
theorem fr_F_M_missedAll {w : z_Wd} : z_fr [9, 10] [] w (F_M_missedAll w).2 := by
  unfold F_M_missedAll
  repeat' (first | (with_reducible exact fr_rf) | (with_reducible refine fr_up (by decide) ?_) | (with_reducible refine fr_uf (by decide) ?_) | (with_reducible refine fr_cp (by decide) ?_) | (with_reducible refine fr_tr ?_ (fr_wk fr_A_M_missedAll_4 (by decide) (by decide))) | split | (dsimp only))
theorem fr_A_M_leastMissed_6 {w : z_Wd} {n : Nat} : z_fr [9, 10, 19, 22] [] w (A_M_leastMissed_6 w n).2.2 := by
  induction n with
  | zero =>
    simp only [A_M_leastMissed_6]
    repeat' (first | (with_reducible exact fr_rf) | (with_reducible refine fr_up (by decide) ?_) | (with_reducible refine fr_uf (by decide) ?_) | (with_reducible refine fr_cp (by decide) ?_) | (with_reducible refine fr_tr ?_ (fr_wk fr_F_M_dipNow (by decide) (by decide))) | (with_reducible refine fr_tr ?_ (fr_wk fr_F_M_missedOf (by decide) (by decide))) | (with_reducible refine fr_tr ?_ (fr_wk fr_F_M_putAside (by decide) (by decide))) | (with_reducible refine fr_tr ?_ (fr_wk fr_F_M_takeBack (by decide) (by decide))) | split | (dsimp only))
  | succ n ih =>
    simp only [A_M_leastMissed_6]
    repeat' (first | (with_reducible exact fr_rf) | (with_reducible exact ih) | (with_reducible refine fr_up (by decide) ?_) | (with_reducible refine fr_uf (by decide) ?_) | (with_reducible refine fr_cp (by decide) ?_) | (with_reducible refine fr_tr ?_ (fr_wk fr_F_M_dipNow (by decide) (by decide))) | (with_reducible refine fr_tr ?_ (fr_wk fr_F_M_missedOf (by decide) (by decide))) | (with_reducible refine fr_tr ?_ (fr_wk fr_F_M_putAside (by decide) (by decide))) | (with_reducible refine fr_tr ?_ (fr_wk fr_F_M_takeBack (by decide) (by decide))) | split | (dsimp only))
theorem fr_F_M_leastMissed {w : z_Wd} : z_fr [9, 10, 19, 22] [] w (F_M_leastMissed w).2 := by
  unfold F_M_leastMissed
  repeat' (first | (with_reducible exact fr_rf) | (with_reducible refine fr_up (by decide) ?_) | (with_reducible refine fr_uf (by decide) ?_) | (with_reducible refine fr_cp (by decide) ?_) | (with_reducible refine fr_tr ?_ (fr_wk fr_A_M_leastMissed_6 (by decide) (by decide))) | split | (dsimp only))
theorem fr_A_M_amnesty_6 {w : z_Wd} {n : Nat} : z_fr [9, 10, 19] [] w (A_M_amnesty_6 w n).2.2 := by
  induction n with
  | zero =>
    simp only [A_M_amnesty_6]
    repeat' (first | (with_reducible exact fr_rf) | (with_reducible refine fr_up (by decide) ?_) | (with_reducible refine fr_uf (by decide) ?_) | (with_reducible refine fr_cp (by decide) ?_) | (with_reducible refine fr_tr ?_ (fr_wk fr_F_M_missedAll (by decide) (by decide))) | split | (dsimp only))
  | succ n ih =>
    simp only [A_M_amnesty_6]
    repeat' (first | (with_reducible exact fr_rf) | (with_reducible exact ih) | (with_reducible refine fr_up (by decide) ?_) | (with_reducible refine fr_uf (by decide) ?_) | (with_reducible refine fr_cp (by decide) ?_) | (with_reducible refine fr_tr ?_ (fr_wk fr_F_M_missedAll (by decide) (by decide))) | split | (dsimp only))
theorem fr_F_M_amnesty {w : z_Wd} : z_fr [9, 10, 19] [] w (F_M_amnesty w).2 := by
  unfold F_M_amnesty
  repeat' (first | (with_reducible exact fr_rf) | (with_reducible refine fr_up (by decide) ?_) | (with_reducible refine fr_uf (by decide) ?_) | (with_reducible refine fr_cp (by decide) ?_) | (with_reducible refine fr_tr ?_ (fr_wk fr_A_M_amnesty_6 (by decide) (by decide))) | split | (dsimp only))
theorem fr_F_M_most {w : z_Wd} {a0 : Int} : z_fr [9, 10, 19, 22] [] w (F_M_most w a0).2 := by
  unfold F_M_most
  repeat' (first | (with_reducible exact fr_rf) | (with_reducible refine fr_up (by decide) ?_) | (with_reducible refine fr_uf (by decide) ?_) | (with_reducible refine fr_cp (by decide) ?_) | (with_reducible refine fr_tr ?_ (fr_wk fr_F_M_amnesty (by decide) (by decide))) | (with_reducible refine fr_tr ?_ (fr_wk fr_F_M_leastMissed (by decide) (by decide))) | split | (dsimp only))
theorem fr_R_M_quiet_27 {w : z_Wd} {a0 : Int} {i7 : Nat} : z_fr [9, 10] [] w (R_M_quiet_27 w a0 i7).2 := by
  unfold R_M_quiet_27
  repeat' (first | (with_reducible exact fr_rf) | (with_reducible refine fr_up (by decide) ?_) | (with_reducible refine fr_uf (by decide) ?_) | (with_reducible refine fr_cp (by decide) ?_) | (with_reducible refine fr_tr ?_ (fr_wk fr_F_M_missedAll (by decide) (by decide))) | split | (dsimp only))
theorem fr_F_M_quiet {w : z_Wd} {a0 : Int} : z_fr [9, 10] [] w (F_M_quiet w a0).2 := by
  unfold F_M_quiet
  repeat' (first | (with_reducible exact fr_rf) | (with_reducible refine fr_up (by decide) ?_) | (with_reducible refine fr_uf (by decide) ?_) | (with_reducible refine fr_cp (by decide) ?_) | (with_reducible refine fr_tr ?_ (fr_wk fr_F_M_missedAll (by decide) (by decide))) | (with_reducible refine fr_tr ?_ (fr_wk fr_R_M_quiet_27 (by decide) (by decide))) | split | (dsimp only))
theorem fr_F_M_name {w : z_Wd} {a0 : Int} {a1 : Int} : z_fr [9, 10] [(0, 0)] w (F_M_name w a0 a1).2 := by
  unfold F_M_name
  repeat' (first | (with_reducible exact fr_rf) | (with_reducible refine fr_up (by decide) ?_) | (with_reducible refine fr_uf (by decide) ?_) | (with_reducible refine fr_cp (by decide) ?_) | (with_reducible refine fr_tr ?_ (fr_wk fr_F_M_missedOf (by decide) (by decide))) | split | (dsimp only))
theorem fr_z_py0 {w : z_Wd} : z_fr [9, 10, 19] [] w (z_py0 w) := by
  unfold z_py0
  repeat' (first | (with_reducible exact fr_rf) | (with_reducible refine fr_up (by decide) ?_) | (with_reducible refine fr_uf (by decide) ?_) | (with_reducible refine fr_cp (by decide) ?_) | (with_reducible refine fr_tr ?_ (fr_wk fr_F_M_missedAll (by decide) (by decide))) | split | (dsimp only))
theorem fr_z_py1 {w : z_Wd} : z_fr [19] [] w (z_py1 w) := by
  unfold z_py1
  repeat' (first | (with_reducible exact fr_rf) | (with_reducible refine fr_up (by decide) ?_) | (with_reducible refine fr_uf (by decide) ?_) | (with_reducible refine fr_cp (by decide) ?_) | split | (dsimp only))
theorem fr_z_py2 {w : z_Wd} {mi : Int} {st : Int} : z_fr [19] [] w (z_py2 w mi st) := by
  unfold z_py2
  repeat' (first | (with_reducible exact fr_rf) | (with_reducible refine fr_up (by decide) ?_) | (with_reducible refine fr_uf (by decide) ?_) | (with_reducible refine fr_cp (by decide) ?_) | split | (dsimp only))
theorem fr_F_M_passYear {w : z_Wd} : z_fr [9, 10, 19] [] w (F_M_passYear w) := by
  unfold F_M_passYear
  repeat' (first | (with_reducible exact fr_rf) | (with_reducible refine fr_up (by decide) ?_) | (with_reducible refine fr_uf (by decide) ?_) | (with_reducible refine fr_cp (by decide) ?_) | (with_reducible refine fr_tr ?_ (fr_wk fr_F_M_missedAll (by decide) (by decide))) | (with_reducible refine fr_tr ?_ (fr_wk fr_z_py0 (by decide) (by decide))) | (with_reducible refine fr_tr ?_ (fr_wk fr_z_py1 (by decide) (by decide))) | (with_reducible refine fr_tr ?_ (fr_wk fr_z_py2 (by decide) (by decide))) | split | (dsimp only))
theorem fr_A_M_years_49 {w : z_Wd} {a0 : Int} {n : Nat} : z_fr [9, 10, 19, 20, 21] [(0, 36)] w (A_M_years_49 w a0 n) := by
  induction n with
  | zero =>
    simp only [A_M_years_49]
    repeat' (first | (with_reducible exact fr_rf) | (with_reducible refine fr_up (by decide) ?_) | (with_reducible refine fr_uf (by decide) ?_) | (with_reducible refine fr_cp (by decide) ?_) | (with_reducible refine fr_tr ?_ (fr_wk fr_F_M_isRefused (by decide) (by decide))) | (with_reducible refine fr_tr ?_ (fr_wk fr_F_M_keep (by decide) (by decide))) | (with_reducible refine fr_tr ?_ (fr_wk fr_F_M_passYear (by decide) (by decide))) | split | (dsimp only))
  | succ n ih =>
    simp only [A_M_years_49]
    repeat' (first | (with_reducible exact fr_rf) | (with_reducible exact ih) | (with_reducible refine fr_up (by decide) ?_) | (with_reducible refine fr_uf (by decide) ?_) | (with_reducible refine fr_cp (by decide) ?_) | (with_reducible refine fr_tr ?_ (fr_wk fr_F_M_isRefused (by decide) (by decide))) | (with_reducible refine fr_tr ?_ (fr_wk fr_F_M_keep (by decide) (by decide))) | (with_reducible refine fr_tr ?_ (fr_wk fr_F_M_passYear (by decide) (by decide))) | split | (dsimp only))
theorem fr_A_M_years_49x2 {w : z_Wd} {a0 : Int} {n : Nat} : z_fr [9, 10, 19, 20, 21] [(0, 36)] w (A_M_years_49x2 w a0 n) := by
  induction n with
  | zero =>
    simp only [A_M_years_49x2]
    repeat' (first | (with_reducible exact fr_rf) | (with_reducible refine fr_up (by decide) ?_) | (with_reducible refine fr_uf (by decide) ?_) | (with_reducible refine fr_cp (by decide) ?_) | (with_reducible refine fr_tr ?_ (fr_wk fr_F_M_isRefused (by decide) (by decide))) | (with_reducible refine fr_tr ?_ (fr_wk fr_F_M_keep (by decide) (by decide))) | (with_reducible refine fr_tr ?_ (fr_wk fr_F_M_passYear (by decide) (by decide))) | split | (dsimp only))
  | succ n ih =>
    simp only [A_M_years_49x2]
    repeat' (first | (with_reducible exact fr_rf) | (with_reducible exact ih) | (with_reducible refine fr_up (by decide) ?_) | (with_reducible refine fr_uf (by decide) ?_) | (with_reducible refine fr_cp (by decide) ?_) | (with_reducible refine fr_tr ?_ (fr_wk fr_F_M_isRefused (by decide) (by decide))) | (with_reducible refine fr_tr ?_ (fr_wk fr_F_M_keep (by decide) (by decide))) | (with_reducible refine fr_tr ?_ (fr_wk fr_F_M_passYear (by decide) (by decide))) | split | (dsimp only))
theorem fr_A_M_years_49x3 {w : z_Wd} {a0 : Int} {n : Nat} : z_fr [9, 10, 19, 20, 21] [(0, 36)] w (A_M_years_49x3 w a0 n) := by
  induction n with
  | zero =>
    simp only [A_M_years_49x3]
    repeat' (first | (with_reducible exact fr_rf) | (with_reducible refine fr_up (by decide) ?_) | (with_reducible refine fr_uf (by decide) ?_) | (with_reducible refine fr_cp (by decide) ?_) | (with_reducible refine fr_tr ?_ (fr_wk fr_F_M_isRefused (by decide) (by decide))) | (with_reducible refine fr_tr ?_ (fr_wk fr_F_M_keep (by decide) (by decide))) | (with_reducible refine fr_tr ?_ (fr_wk fr_F_M_passYear (by decide) (by decide))) | split | (dsimp only))
  | succ n ih =>
    simp only [A_M_years_49x3]
    repeat' (first | (with_reducible exact fr_rf) | (with_reducible exact ih) | (with_reducible refine fr_up (by decide) ?_) | (with_reducible refine fr_uf (by decide) ?_) | (with_reducible refine fr_cp (by decide) ?_) | (with_reducible refine fr_tr ?_ (fr_wk fr_F_M_isRefused (by decide) (by decide))) | (with_reducible refine fr_tr ?_ (fr_wk fr_F_M_keep (by decide) (by decide))) | (with_reducible refine fr_tr ?_ (fr_wk fr_F_M_passYear (by decide) (by decide))) | split | (dsimp only))
theorem fr_A_M_years_49x4 {w : z_Wd} {a0 : Int} {n : Nat} : z_fr [9, 10, 19, 20, 21] [(0, 36)] w (A_M_years_49x4 w a0 n) := by
  induction n with
  | zero =>
    simp only [A_M_years_49x4]
    repeat' (first | (with_reducible exact fr_rf) | (with_reducible refine fr_up (by decide) ?_) | (with_reducible refine fr_uf (by decide) ?_) | (with_reducible refine fr_cp (by decide) ?_) | (with_reducible refine fr_tr ?_ (fr_wk fr_F_M_isRefused (by decide) (by decide))) | (with_reducible refine fr_tr ?_ (fr_wk fr_F_M_keep (by decide) (by decide))) | (with_reducible refine fr_tr ?_ (fr_wk fr_F_M_passYear (by decide) (by decide))) | split | (dsimp only))
  | succ n ih =>
    simp only [A_M_years_49x4]
    repeat' (first | (with_reducible exact fr_rf) | (with_reducible exact ih) | (with_reducible refine fr_up (by decide) ?_) | (with_reducible refine fr_uf (by decide) ?_) | (with_reducible refine fr_cp (by decide) ?_) | (with_reducible refine fr_tr ?_ (fr_wk fr_F_M_isRefused (by decide) (by decide))) | (with_reducible refine fr_tr ?_ (fr_wk fr_F_M_keep (by decide) (by decide))) | (with_reducible refine fr_tr ?_ (fr_wk fr_F_M_passYear (by decide) (by decide))) | split | (dsimp only))
theorem fr_F_M_years {w : z_Wd} {a0 : Int} : z_fr [9, 10, 19, 20, 21] [(0, 36)] w (F_M_years w a0).2 := by
  unfold F_M_years
  repeat' (first | (with_reducible exact fr_rf) | (with_reducible refine fr_up (by decide) ?_) | (with_reducible refine fr_uf (by decide) ?_) | (with_reducible refine fr_cp (by decide) ?_) | (with_reducible refine fr_tr ?_ (fr_wk fr_A_M_years_49 (by decide) (by decide))) | (with_reducible refine fr_tr ?_ (fr_wk fr_A_M_years_49x2 (by decide) (by decide))) | (with_reducible refine fr_tr ?_ (fr_wk fr_A_M_years_49x3 (by decide) (by decide))) | (with_reducible refine fr_tr ?_ (fr_wk fr_A_M_years_49x4 (by decide) (by decide))) | (with_reducible refine fr_tr ?_ (fr_wk fr_F_M_isRefused (by decide) (by decide))) | split | (dsimp only))
theorem fr_A_M_decades_25 {w : z_Wd} {a0 : Int} {a1 : Int} {n : Nat} : z_fr [9, 10, 19, 21] [(0, 36), (0, 37)] w (A_M_decades_25 w a0 a1 n) := by
  induction n with
  | zero =>
    simp only [A_M_decades_25]
    repeat' (first | (with_reducible exact fr_rf) | (with_reducible refine fr_up (by decide) ?_) | (with_reducible refine fr_uf (by decide) ?_) | (with_reducible refine fr_cp (by decide) ?_) | (with_reducible refine fr_tr ?_ (fr_wk fr_F_M_drawYear (by decide) (by decide))) | (with_reducible refine fr_tr ?_ (fr_wk fr_F_M_keep (by decide) (by decide))) | (with_reducible refine fr_tr ?_ (fr_wk fr_F_M_passYear (by decide) (by decide))) | split | (dsimp only))
  | succ n ih =>
    simp only [A_M_decades_25]
    repeat' (first | (with_reducible exact fr_rf) | (with_reducible exact ih) | (with_reducible refine fr_up (by decide) ?_) | (with_reducible refine fr_uf (by decide) ?_) | (with_reducible refine fr_cp (by decide) ?_) | (with_reducible refine fr_tr ?_ (fr_wk fr_F_M_drawYear (by decide) (by decide))) | (with_reducible refine fr_tr ?_ (fr_wk fr_F_M_keep (by decide) (by decide))) | (with_reducible refine fr_tr ?_ (fr_wk fr_F_M_passYear (by decide) (by decide))) | split | (dsimp only))
theorem fr_F_M_decades {w : z_Wd} {a0 : Int} {a1 : Int} : z_fr [9, 10, 19, 21] [(0, 36), (0, 37)] w (F_M_decades w a0 a1).2 := by
  unfold F_M_decades
  repeat' (first | (with_reducible exact fr_rf) | (with_reducible refine fr_up (by decide) ?_) | (with_reducible refine fr_uf (by decide) ?_) | (with_reducible refine fr_cp (by decide) ?_) | (with_reducible refine fr_tr ?_ (fr_wk fr_A_M_decades_25 (by decide) (by decide))) | split | (dsimp only))
theorem fr_A_M_takeMinistry_151 {w : z_Wd} {sw : z_Wd} {n : Nat} : z_fr [19] [] sw (A_M_takeMinistry_151 w sw n) := by
  induction n with
  | zero =>
    simp only [A_M_takeMinistry_151]
    repeat' (first | (with_reducible exact fr_rf) | (with_reducible refine fr_up (by decide) ?_) | (with_reducible refine fr_uf (by decide) ?_) | (with_reducible refine fr_cp (by decide) ?_) | split | (dsimp only))
  | succ n ih =>
    simp only [A_M_takeMinistry_151]
    repeat' (first | (with_reducible exact fr_rf) | (with_reducible exact ih) | (with_reducible refine fr_up (by decide) ?_) | (with_reducible refine fr_uf (by decide) ?_) | (with_reducible refine fr_cp (by decide) ?_) | split | (dsimp only))
theorem fr_A_M_takeMinistry_129 {w : z_Wd} {sw : z_Wd} {n : Nat} : z_fr [19] [] sw (A_M_takeMinistry_129 w sw n) := by
  induction n with
  | zero =>
    simp only [A_M_takeMinistry_129]
    repeat' (first | (with_reducible exact fr_rf) | (with_reducible refine fr_up (by decide) ?_) | (with_reducible refine fr_uf (by decide) ?_) | (with_reducible refine fr_cp (by decide) ?_) | split | (dsimp only))
  | succ n ih =>
    simp only [A_M_takeMinistry_129]
    repeat' (first | (with_reducible exact fr_rf) | (with_reducible exact ih) | (with_reducible refine fr_up (by decide) ?_) | (with_reducible refine fr_uf (by decide) ?_) | (with_reducible refine fr_cp (by decide) ?_) | split | (dsimp only))
theorem fr_A_M_takeMinistry_103 {w : z_Wd} {sw : z_Wd} {n : Nat} : z_fr [18] [] sw (A_M_takeMinistry_103 w sw n) := by
  induction n with
  | zero =>
    simp only [A_M_takeMinistry_103]
    repeat' (first | (with_reducible exact fr_rf) | (with_reducible refine fr_up (by decide) ?_) | (with_reducible refine fr_uf (by decide) ?_) | (with_reducible refine fr_cp (by decide) ?_) | split | (dsimp only))
  | succ n ih =>
    simp only [A_M_takeMinistry_103]
    repeat' (first | (with_reducible exact fr_rf) | (with_reducible exact ih) | (with_reducible refine fr_up (by decide) ?_) | (with_reducible refine fr_uf (by decide) ?_) | (with_reducible refine fr_cp (by decide) ?_) | split | (dsimp only))
theorem fr_A_M_takeMinistry_77 {w : z_Wd} {sw : z_Wd} {n : Nat} : z_fr [17] [] sw (A_M_takeMinistry_77 w sw n) := by
  induction n with
  | zero =>
    simp only [A_M_takeMinistry_77]
    repeat' (first | (with_reducible exact fr_rf) | (with_reducible refine fr_up (by decide) ?_) | (with_reducible refine fr_uf (by decide) ?_) | (with_reducible refine fr_cp (by decide) ?_) | split | (dsimp only))
  | succ n ih =>
    simp only [A_M_takeMinistry_77]
    repeat' (first | (with_reducible exact fr_rf) | (with_reducible exact ih) | (with_reducible refine fr_up (by decide) ?_) | (with_reducible refine fr_uf (by decide) ?_) | (with_reducible refine fr_cp (by decide) ?_) | split | (dsimp only))
theorem fr_A_M_takeMinistry_51 {w : z_Wd} {sw : z_Wd} {n : Nat} : z_fr [16] [] sw (A_M_takeMinistry_51 w sw n) := by
  induction n with
  | zero =>
    simp only [A_M_takeMinistry_51]
    repeat' (first | (with_reducible exact fr_rf) | (with_reducible refine fr_up (by decide) ?_) | (with_reducible refine fr_uf (by decide) ?_) | (with_reducible refine fr_cp (by decide) ?_) | split | (dsimp only))
  | succ n ih =>
    simp only [A_M_takeMinistry_51]
    repeat' (first | (with_reducible exact fr_rf) | (with_reducible exact ih) | (with_reducible refine fr_up (by decide) ?_) | (with_reducible refine fr_uf (by decide) ?_) | (with_reducible refine fr_cp (by decide) ?_) | split | (dsimp only))
theorem fr_A_M_takeMinistry_26 {w : z_Wd} {n : Nat} : z_fr [15] [(0, 28), (0, 29), (0, 30)] w (A_M_takeMinistry_26 w n) := by
  induction n with
  | zero =>
    simp only [A_M_takeMinistry_26]
    repeat' (first | (with_reducible exact fr_rf) | (with_reducible refine fr_up (by decide) ?_) | (with_reducible refine fr_uf (by decide) ?_) | (with_reducible refine fr_cp (by decide) ?_) | split | (dsimp only))
  | succ n ih =>
    simp only [A_M_takeMinistry_26]
    repeat' (first | (with_reducible exact fr_rf) | (with_reducible exact ih) | (with_reducible refine fr_up (by decide) ?_) | (with_reducible refine fr_uf (by decide) ?_) | (with_reducible refine fr_cp (by decide) ?_) | split | (dsimp only))
theorem fr_F_M_takeMinistry {w : z_Wd} : z_fr [15, 16, 17, 18, 19] [(0, 28), (0, 29), (0, 30), (0, 36), (0, 43), (0, 45)] w (F_M_takeMinistry w).2 := by
  unfold F_M_takeMinistry
  repeat' (first | (with_reducible exact fr_rf) | (with_reducible refine fr_up (by decide) ?_) | (with_reducible refine fr_uf (by decide) ?_) | (with_reducible refine fr_cp (by decide) ?_) | (with_reducible refine fr_tr ?_ (fr_wk fr_A_M_takeMinistry_103 (by decide) (by decide))) | (with_reducible refine fr_tr ?_ (fr_wk fr_A_M_takeMinistry_129 (by decide) (by decide))) | (with_reducible refine fr_tr ?_ (fr_wk fr_A_M_takeMinistry_151 (by decide) (by decide))) | (with_reducible refine fr_tr ?_ (fr_wk fr_A_M_takeMinistry_26 (by decide) (by decide))) | (with_reducible refine fr_tr ?_ (fr_wk fr_A_M_takeMinistry_51 (by decide) (by decide))) | (with_reducible refine fr_tr ?_ (fr_wk fr_A_M_takeMinistry_77 (by decide) (by decide))) | split | (dsimp only))
theorem fr_L_M_look_0 {w : z_Wd} : ∀ {n : Nat} {wu : z_Wd}, z_fr [] [(0, 3)] w wu → z_fr [] [(0, 3)] w (L_M_look_0 w n wu).2 := by
  intro n
  induction n with
  | zero =>
    intro  wu h
    simp only [L_M_look_0]
    exact fr_rf
  | succ n ih =>
    intro  wu h
    simp only [L_M_look_0]
    repeat' (first | (with_reducible refine ih ?_) | (with_reducible exact fr_rf) | (with_reducible exact h) | (with_reducible refine fr_up (by decide) ?_) | (with_reducible refine fr_uf (by decide) ?_) | (with_reducible refine fr_cp (by decide) ?_) | split | (dsimp only))
theorem fr_F_M_look {w : z_Wd} : z_fr [] [(0, 3)] w (F_M_look w).2 := by
  unfold F_M_look
  repeat' (first | (with_reducible exact fr_rf) | (with_reducible refine fr_up (by decide) ?_) | (with_reducible refine fr_uf (by decide) ?_) | (with_reducible refine fr_cp (by decide) ?_) | (with_reducible refine fr_L_M_look_0 (fun _ _ => ih _ _) ?_) | split | (dsimp only))
theorem fr_L_M_plainNumber_4 {w : z_Wd} : ∀ {n : Nat} {u0 : Int} {u1 : Int} {wu : z_Wd}, z_fr [] [(0, 3), (0, 4)] w wu → z_fr [] [(0, 3), (0, 4)] w (L_M_plainNumber_4 w n u0 u1 wu).2 := by
  intro n
  induction n with
  | zero =>
    intro u0 u1 wu h
    simp only [L_M_plainNumber_4]
    exact fr_rf
  | succ n ih =>
    intro u0 u1 wu h
    simp only [L_M_plainNumber_4]
    repeat' (first | (with_reducible refine ih ?_) | (with_reducible exact fr_rf) | (with_reducible exact h) | (with_reducible refine fr_up (by decide) ?_) | (with_reducible refine fr_uf (by decide) ?_) | (with_reducible refine fr_cp (by decide) ?_) | (with_reducible refine fr_tr ?_ (fr_wk fr_F_M_bad (by decide) (by decide))) | split | (dsimp only))
theorem fr_F_M_plainNumber {w : z_Wd} : z_fr [] [(0, 3), (0, 4)] w (F_M_plainNumber w).2 := by
  unfold F_M_plainNumber
  repeat' (first | (with_reducible exact fr_rf) | (with_reducible refine fr_up (by decide) ?_) | (with_reducible refine fr_uf (by decide) ?_) | (with_reducible refine fr_cp (by decide) ?_) | (with_reducible refine fr_L_M_plainNumber_4 (fun _ _ => ih _ _) ?_) | split | (dsimp only))
theorem fr_F_M_closes {w : z_Wd} {a0 : Int} : z_fr [] [(0, 3), (0, 4), (0, 5)] w (F_M_closes w a0) := by
  unfold F_M_closes
  repeat' (first | (with_reducible exact fr_rf) | (with_reducible refine fr_up (by decide) ?_) | (with_reducible refine fr_uf (by decide) ?_) | (with_reducible refine fr_cp (by decide) ?_) | (with_reducible refine fr_tr ?_ (fr_wk fr_F_M_bad (by decide) (by decide))) | (with_reducible refine fr_tr ?_ (fr_wk fr_F_M_look (by decide) (by decide))) | split | (dsimp only))
theorem fr_F_M_number {w : z_Wd} {a0 : Int} {a1 : Int} : z_fr [] [(0, 3), (0, 4)] w (F_M_number w a0 a1).2 := by
  unfold F_M_number
  repeat' (first | (with_reducible exact fr_rf) | (with_reducible refine fr_up (by decide) ?_) | (with_reducible refine fr_uf (by decide) ?_) | (with_reducible refine fr_cp (by decide) ?_) | (with_reducible refine fr_tr ?_ (fr_wk fr_F_M_bad (by decide) (by decide))) | (with_reducible refine fr_tr ?_ (fr_wk fr_F_M_look (by decide) (by decide))) | split | (dsimp only))
theorem fr_F_M_atEnd {w : z_Wd} : z_fr [] [(0, 3), (0, 4)] w (F_M_atEnd w).2 := by
  unfold F_M_atEnd
  repeat' (first | (with_reducible exact fr_rf) | (with_reducible refine fr_up (by decide) ?_) | (with_reducible refine fr_uf (by decide) ?_) | (with_reducible refine fr_cp (by decide) ?_) | (with_reducible refine fr_tr ?_ (fr_wk fr_F_M_bad (by decide) (by decide))) | (with_reducible refine fr_tr ?_ (fr_wk fr_F_M_look (by decide) (by decide))) | split | (dsimp only))
theorem fr_L_M_items_11_41 {w : z_Wd} {a0 : Int} {a2 : Int} : ∀ {n : Nat} {u0 : Int} {u1 : Int} {wu : z_Wd}, z_fr [11] [(0, 3), (0, 4)] w wu → z_fr [11] [(0, 3), (0, 4)] w (L_M_items_11_41 w a0 a2 n u0 u1 wu) := by
  intro n
  induction n with
  | zero =>
    intro u0 u1 wu h
    simp only [L_M_items_11_41]
    exact fr_rf
  | succ n ih =>
    intro u0 u1 wu h
    simp only [L_M_items_11_41]
    repeat' (first | (with_reducible refine ih ?_) | (with_reducible exact fr_rf) | (with_reducible exact h) | (with_reducible refine fr_up (by decide) ?_) | (with_reducible refine fr_uf (by decide) ?_) | (with_reducible refine fr_cp (by decide) ?_) | (with_reducible refine fr_tr ?_ (fr_wk fr_F_M_look (by decide) (by decide))) | (with_reducible refine fr_tr ?_ (fr_wk fr_F_M_number (by decide) (by decide))) | split | (dsimp only))
theorem fr_A_M_items_11_3 {w : z_Wd} {a0 : Int} {a2 : Int} {a3 : Int} {n : Nat} : z_fr [11] [] w (A_M_items_11_3 w a0 a2 a3 n) := by
  induction n with
  | zero =>
    simp only [A_M_items_11_3]
    repeat' (first | (with_reducible exact fr_rf) | (with_reducible refine fr_up (by decide) ?_) | (with_reducible refine fr_uf (by decide) ?_) | (with_reducible refine fr_cp (by decide) ?_) | split | (dsimp only))
  | succ n ih =>
    simp only [A_M_items_11_3]
    repeat' (first | (with_reducible exact fr_rf) | (with_reducible exact ih) | (with_reducible refine fr_up (by decide) ?_) | (with_reducible refine fr_uf (by decide) ?_) | (with_reducible refine fr_cp (by decide) ?_) | split | (dsimp only))
theorem fr_F_M_items_11 {w : z_Wd} {a0 : Int} {a2 : Int} {a3 : Int} : z_fr [11] [(0, 3), (0, 4)] w (F_M_items_11 w a0 a2 a3) := by
  unfold F_M_items_11
  repeat' (first | (with_reducible exact fr_rf) | (with_reducible refine fr_up (by decide) ?_) | (with_reducible refine fr_uf (by decide) ?_) | (with_reducible refine fr_cp (by decide) ?_) | (with_reducible refine fr_tr ?_ (fr_wk fr_A_M_items_11_3 (by decide) (by decide))) | (with_reducible refine fr_tr ?_ (fr_wk fr_F_M_look (by decide) (by decide))) | (with_reducible refine fr_L_M_items_11_41 (fun _ _ => ih _ _) ?_) | split | (dsimp only))
theorem fr_L_M_items_12_41 {w : z_Wd} {a0 : Int} {a2 : Int} : ∀ {n : Nat} {u0 : Int} {u1 : Int} {wu : z_Wd}, z_fr [12] [(0, 3), (0, 4)] w wu → z_fr [12] [(0, 3), (0, 4)] w (L_M_items_12_41 w a0 a2 n u0 u1 wu) := by
  intro n
  induction n with
  | zero =>
    intro u0 u1 wu h
    simp only [L_M_items_12_41]
    exact fr_rf
  | succ n ih =>
    intro u0 u1 wu h
    simp only [L_M_items_12_41]
    repeat' (first | (with_reducible refine ih ?_) | (with_reducible exact fr_rf) | (with_reducible exact h) | (with_reducible refine fr_up (by decide) ?_) | (with_reducible refine fr_uf (by decide) ?_) | (with_reducible refine fr_cp (by decide) ?_) | (with_reducible refine fr_tr ?_ (fr_wk fr_F_M_look (by decide) (by decide))) | (with_reducible refine fr_tr ?_ (fr_wk fr_F_M_number (by decide) (by decide))) | split | (dsimp only))
theorem fr_A_M_items_12_3 {w : z_Wd} {a0 : Int} {a2 : Int} {a3 : Int} {n : Nat} : z_fr [12] [] w (A_M_items_12_3 w a0 a2 a3 n) := by
  induction n with
  | zero =>
    simp only [A_M_items_12_3]
    repeat' (first | (with_reducible exact fr_rf) | (with_reducible refine fr_up (by decide) ?_) | (with_reducible refine fr_uf (by decide) ?_) | (with_reducible refine fr_cp (by decide) ?_) | split | (dsimp only))
  | succ n ih =>
    simp only [A_M_items_12_3]
    repeat' (first | (with_reducible exact fr_rf) | (with_reducible exact ih) | (with_reducible refine fr_up (by decide) ?_) | (with_reducible refine fr_uf (by decide) ?_) | (with_reducible refine fr_cp (by decide) ?_) | split | (dsimp only))
theorem fr_F_M_items_12 {w : z_Wd} {a0 : Int} {a2 : Int} {a3 : Int} : z_fr [12] [(0, 3), (0, 4)] w (F_M_items_12 w a0 a2 a3) := by
  unfold F_M_items_12
  repeat' (first | (with_reducible exact fr_rf) | (with_reducible refine fr_up (by decide) ?_) | (with_reducible refine fr_uf (by decide) ?_) | (with_reducible refine fr_cp (by decide) ?_) | (with_reducible refine fr_tr ?_ (fr_wk fr_A_M_items_12_3 (by decide) (by decide))) | (with_reducible refine fr_tr ?_ (fr_wk fr_F_M_look (by decide) (by decide))) | (with_reducible refine fr_L_M_items_12_41 (fun _ _ => ih _ _) ?_) | split | (dsimp only))
theorem fr_L_M_items_13_41 {w : z_Wd} {a0 : Int} {a2 : Int} : ∀ {n : Nat} {u0 : Int} {u1 : Int} {wu : z_Wd}, z_fr [13] [(0, 3), (0, 4)] w wu → z_fr [13] [(0, 3), (0, 4)] w (L_M_items_13_41 w a0 a2 n u0 u1 wu) := by
  intro n
  induction n with
  | zero =>
    intro u0 u1 wu h
    simp only [L_M_items_13_41]
    exact fr_rf
  | succ n ih =>
    intro u0 u1 wu h
    simp only [L_M_items_13_41]
    repeat' (first | (with_reducible refine ih ?_) | (with_reducible exact fr_rf) | (with_reducible exact h) | (with_reducible refine fr_up (by decide) ?_) | (with_reducible refine fr_uf (by decide) ?_) | (with_reducible refine fr_cp (by decide) ?_) | (with_reducible refine fr_tr ?_ (fr_wk fr_F_M_look (by decide) (by decide))) | (with_reducible refine fr_tr ?_ (fr_wk fr_F_M_number (by decide) (by decide))) | split | (dsimp only))
theorem fr_A_M_items_13_3 {w : z_Wd} {a0 : Int} {a2 : Int} {a3 : Int} {n : Nat} : z_fr [13] [] w (A_M_items_13_3 w a0 a2 a3 n) := by
  induction n with
  | zero =>
    simp only [A_M_items_13_3]
    repeat' (first | (with_reducible exact fr_rf) | (with_reducible refine fr_up (by decide) ?_) | (with_reducible refine fr_uf (by decide) ?_) | (with_reducible refine fr_cp (by decide) ?_) | split | (dsimp only))
  | succ n ih =>
    simp only [A_M_items_13_3]
    repeat' (first | (with_reducible exact fr_rf) | (with_reducible exact ih) | (with_reducible refine fr_up (by decide) ?_) | (with_reducible refine fr_uf (by decide) ?_) | (with_reducible refine fr_cp (by decide) ?_) | split | (dsimp only))
theorem fr_F_M_items_13 {w : z_Wd} {a0 : Int} {a2 : Int} {a3 : Int} : z_fr [13] [(0, 3), (0, 4)] w (F_M_items_13 w a0 a2 a3) := by
  unfold F_M_items_13
  repeat' (first | (with_reducible exact fr_rf) | (with_reducible refine fr_up (by decide) ?_) | (with_reducible refine fr_uf (by decide) ?_) | (with_reducible refine fr_cp (by decide) ?_) | (with_reducible refine fr_tr ?_ (fr_wk fr_A_M_items_13_3 (by decide) (by decide))) | (with_reducible refine fr_tr ?_ (fr_wk fr_F_M_look (by decide) (by decide))) | (with_reducible refine fr_L_M_items_13_41 (fun _ _ => ih _ _) ?_) | split | (dsimp only))
theorem fr_L_M_items_14_41 {w : z_Wd} {a0 : Int} {a2 : Int} : ∀ {n : Nat} {u0 : Int} {u1 : Int} {wu : z_Wd}, z_fr [14] [(0, 3), (0, 4)] w wu → z_fr [14] [(0, 3), (0, 4)] w (L_M_items_14_41 w a0 a2 n u0 u1 wu) := by
  intro n
  induction n with
  | zero =>
    intro u0 u1 wu h
    simp only [L_M_items_14_41]
    exact fr_rf
  | succ n ih =>
    intro u0 u1 wu h
    simp only [L_M_items_14_41]
    repeat' (first | (with_reducible refine ih ?_) | (with_reducible exact fr_rf) | (with_reducible exact h) | (with_reducible refine fr_up (by decide) ?_) | (with_reducible refine fr_uf (by decide) ?_) | (with_reducible refine fr_cp (by decide) ?_) | (with_reducible refine fr_tr ?_ (fr_wk fr_F_M_look (by decide) (by decide))) | (with_reducible refine fr_tr ?_ (fr_wk fr_F_M_number (by decide) (by decide))) | split | (dsimp only))
theorem fr_A_M_items_14_3 {w : z_Wd} {a0 : Int} {a2 : Int} {a3 : Int} {n : Nat} : z_fr [14] [] w (A_M_items_14_3 w a0 a2 a3 n) := by
  induction n with
  | zero =>
    simp only [A_M_items_14_3]
    repeat' (first | (with_reducible exact fr_rf) | (with_reducible refine fr_up (by decide) ?_) | (with_reducible refine fr_uf (by decide) ?_) | (with_reducible refine fr_cp (by decide) ?_) | split | (dsimp only))
  | succ n ih =>
    simp only [A_M_items_14_3]
    repeat' (first | (with_reducible exact fr_rf) | (with_reducible exact ih) | (with_reducible refine fr_up (by decide) ?_) | (with_reducible refine fr_uf (by decide) ?_) | (with_reducible refine fr_cp (by decide) ?_) | split | (dsimp only))
theorem fr_F_M_items_14 {w : z_Wd} {a0 : Int} {a2 : Int} {a3 : Int} : z_fr [14] [(0, 3), (0, 4)] w (F_M_items_14 w a0 a2 a3) := by
  unfold F_M_items_14
  repeat' (first | (with_reducible exact fr_rf) | (with_reducible refine fr_up (by decide) ?_) | (with_reducible refine fr_uf (by decide) ?_) | (with_reducible refine fr_cp (by decide) ?_) | (with_reducible refine fr_tr ?_ (fr_wk fr_A_M_items_14_3 (by decide) (by decide))) | (with_reducible refine fr_tr ?_ (fr_wk fr_F_M_look (by decide) (by decide))) | (with_reducible refine fr_L_M_items_14_41 (fun _ _ => ih _ _) ?_) | split | (dsimp only))
theorem fr_F_M_clauseText {w : z_Wd} {a0 : Int} : z_fr [11, 12, 13, 14] [(0, 3), (0, 4), (0, 21), (0, 22), (0, 23)] w (F_M_clauseText w a0) := by
  unfold F_M_clauseText
  repeat' (first | (with_reducible exact fr_rf) | (with_reducible refine fr_up (by decide) ?_) | (with_reducible refine fr_uf (by decide) ?_) | (with_reducible refine fr_cp (by decide) ?_) | (with_reducible refine fr_tr ?_ (fr_wk fr_F_M_items_11 (by decide) (by decide))) | (with_reducible refine fr_tr ?_ (fr_wk fr_F_M_items_12 (by decide) (by decide))) | (with_reducible refine fr_tr ?_ (fr_wk fr_F_M_items_13 (by decide) (by decide))) | (with_reducible refine fr_tr ?_ (fr_wk fr_F_M_items_14 (by decide) (by decide))) | split | (dsimp only))
theorem fr_F_M_oddsFrom : ∀ (n : Nat) (w : z_Wd) (a0 a1 a2 a3 a4 : Int), z_fr [19, 22] [] w (F_M_oddsFrom n w a0 a1 a2 a3 a4).2 := by
  intro n
  induction n with
  | zero =>
    intro w a0 a1 a2 a3 a4
    simp only [F_M_oddsFrom]
    exact fr_rf
  | succ n ih =>
    intro w a0 a1 a2 a3 a4
    unfold F_M_oddsFrom
    repeat' (first | (with_reducible exact fr_rf) | (with_reducible refine fr_up (by decide) ?_) | (with_reducible refine fr_uf (by decide) ?_) | (with_reducible refine fr_cp (by decide) ?_) | (with_reducible refine fr_tr ?_ (fr_wk fr_F_M_putAside (by decide) (by decide))) | (with_reducible refine fr_tr ?_ (fr_wk fr_F_M_scratchNow (by decide) (by decide))) | (with_reducible refine fr_tr ?_ (fr_wk fr_F_M_takeBack (by decide) (by decide))) | (with_reducible refine fr_tr ?_ (ih _ _ _ _ _ _)) | split | (dsimp only))
theorem fr_A_M_tryFaction_93 {w : z_Wd} {a0 : Int} {a1 : Int} {a2 : Int} {a3 : Int} {a4 : Int} {fr : z_Wd → Int → Int → Int → Int → Int → z_Wd} (hf : ∀ (v : z_Wd) (x1 x2 x3 x4 x5 : Int), z_fr [19, 22] [(0, 39), (0, 40)] v (fr v x1 x2 x3 x4 x5)) {n : Nat} : z_fr [19, 22] [(0, 39), (0, 40)] w (A_M_tryFaction_93 w a0 a1 a2 a3 a4 fr n) := by
  induction n with
  | zero =>
    simp only [A_M_tryFaction_93]
    repeat' (first | (with_reducible exact fr_rf) | (with_reducible refine fr_up (by decide) ?_) | (with_reducible refine fr_uf (by decide) ?_) | (with_reducible refine fr_cp (by decide) ?_) | (with_reducible refine fr_tr ?_ (fr_wk fr_F_M_dipNow (by decide) (by decide))) | (with_reducible refine fr_tr ?_ (fr_wk fr_F_M_putAside (by decide) (by decide))) | (with_reducible refine fr_tr ?_ (fr_wk fr_F_M_takeBack (by decide) (by decide))) | (with_reducible refine fr_tr ?_ (hf _ _ _ _ _ _)) | split | (dsimp only))
  | succ n ih =>
    simp only [A_M_tryFaction_93]
    repeat' (first | (with_reducible exact fr_rf) | (with_reducible exact ih) | (with_reducible refine fr_up (by decide) ?_) | (with_reducible refine fr_uf (by decide) ?_) | (with_reducible refine fr_cp (by decide) ?_) | (with_reducible refine fr_tr ?_ (fr_wk fr_F_M_dipNow (by decide) (by decide))) | (with_reducible refine fr_tr ?_ (fr_wk fr_F_M_putAside (by decide) (by decide))) | (with_reducible refine fr_tr ?_ (fr_wk fr_F_M_takeBack (by decide) (by decide))) | (with_reducible refine fr_tr ?_ (hf _ _ _ _ _ _)) | split | (dsimp only))
theorem fr_F_M_tryFaction : ∀ (n : Nat) (w : z_Wd) (a0 a1 a2 a3 a4 : Int), z_fr [19, 22] [(0, 39), (0, 40)] w (F_M_tryFaction n w a0 a1 a2 a3 a4) := by
  intro n
  induction n with
  | zero =>
    intro w a0 a1 a2 a3 a4
    simp only [F_M_tryFaction]
    exact fr_rf
  | succ n ih =>
    intro w a0 a1 a2 a3 a4
    unfold F_M_tryFaction
    repeat' (first | (with_reducible exact fr_rf) | (with_reducible refine fr_up (by decide) ?_) | (with_reducible refine fr_uf (by decide) ?_) | (with_reducible refine fr_cp (by decide) ?_) | (with_reducible refine fr_tr ?_ (fr_A_M_tryFaction_93 (fun _ _ _ _ _ _ => ih _ _ _ _ _ _))) | (with_reducible refine fr_tr ?_ (fr_wk fr_F_M_putAside (by decide) (by decide))) | (with_reducible refine fr_tr ?_ (ih _ _ _ _ _ _)) | split | (dsimp only))
theorem fr_F_M_odds {w : z_Wd} {a0 : Int} {a1 : Int} : z_fr [19, 22] [] w (F_M_odds w a0 a1).2 := by
  unfold F_M_odds
  repeat' (first | (with_reducible exact fr_rf) | (with_reducible refine fr_up (by decide) ?_) | (with_reducible refine fr_uf (by decide) ?_) | (with_reducible refine fr_cp (by decide) ?_) | (with_reducible refine fr_tr ?_ (fr_wk (fr_F_M_oddsFrom _ _ _ _ _ _ _) (by decide) (by decide))) | split | (dsimp only))
theorem fr_F_M_faction {w : z_Wd} {a0 : Int} {a1 : Int} : z_fr [19, 22] [(0, 39), (0, 40)] w (F_M_faction w a0 a1).2 := by
  unfold F_M_faction
  repeat' (first | (with_reducible exact fr_rf) | (with_reducible refine fr_up (by decide) ?_) | (with_reducible refine fr_uf (by decide) ?_) | (with_reducible refine fr_cp (by decide) ?_) | (with_reducible refine fr_tr ?_ (fr_wk (fr_F_M_tryFaction _ _ _ _ _ _ _) (by decide) (by decide))) | split | (dsimp only))
theorem fr_L_M_term_21 {w : z_Wd} {fr : Nat → z_Wd → z_Wd} (hf : ∀ (t : Nat) (v : z_Wd), z_fr [2, 3, 4] [(0, 3), (0, 4), (0, 5)] v (fr t v)) : ∀ {n : Nat} {u0 : Int} {wu : z_Wd}, z_fr [2, 3, 4] [(0, 3), (0, 4), (0, 5)] w wu → z_fr [2, 3, 4] [(0, 3), (0, 4), (0, 5)] w (L_M_term_21 w fr n u0 wu) := by
  intro n
  induction n with
  | zero =>
    intro u0 wu h
    simp only [L_M_term_21]
    exact fr_rf
  | succ n ih =>
    intro u0 wu h
    simp only [L_M_term_21]
    repeat' (first | (with_reducible refine ih ?_) | (with_reducible exact fr_rf) | (with_reducible exact h) | (with_reducible refine fr_up (by decide) ?_) | (with_reducible refine fr_uf (by decide) ?_) | (with_reducible refine fr_cp (by decide) ?_) | (with_reducible refine fr_tr ?_ (fr_wk fr_F_M_look (by decide) (by decide))) | (with_reducible refine fr_tr ?_ (fr_wk fr_F_M_put (by decide) (by decide))) | (with_reducible refine fr_tr ?_ (hf _ _)) | split | (dsimp only))
theorem fr_L_M_term_21x2 {w : z_Wd} {fr : Nat → z_Wd → z_Wd} (hf : ∀ (t : Nat) (v : z_Wd), z_fr [2, 3, 4] [(0, 3), (0, 4), (0, 5)] v (fr t v)) : ∀ {n : Nat} {u0 : Int} {wu : z_Wd}, z_fr [2, 3, 4] [(0, 3), (0, 4), (0, 5)] w wu → z_fr [2, 3, 4] [(0, 3), (0, 4), (0, 5)] w (L_M_term_21x2 w fr n u0 wu) := by
  intro n
  induction n with
  | zero =>
    intro u0 wu h
    simp only [L_M_term_21x2]
    exact fr_rf
  | succ n ih =>
    intro u0 wu h
    simp only [L_M_term_21x2]
    repeat' (first | (with_reducible refine ih ?_) | (with_reducible exact fr_rf) | (with_reducible exact h) | (with_reducible refine fr_up (by decide) ?_) | (with_reducible refine fr_uf (by decide) ?_) | (with_reducible refine fr_cp (by decide) ?_) | (with_reducible refine fr_tr ?_ (fr_wk fr_F_M_look (by decide) (by decide))) | (with_reducible refine fr_tr ?_ (fr_wk fr_F_M_put (by decide) (by decide))) | (with_reducible refine fr_tr ?_ (hf _ _)) | split | (dsimp only))
theorem fr_L_M_sum_21 {w : z_Wd} {fr : Nat → z_Wd → z_Wd} (hf : ∀ (t : Nat) (v : z_Wd), z_fr [2, 3, 4] [(0, 3), (0, 4), (0, 5)] v (fr t v)) : ∀ {n : Nat} {u0 : Int} {wu : z_Wd}, z_fr [2, 3, 4] [(0, 3), (0, 4), (0, 5)] w wu → z_fr [2, 3, 4] [(0, 3), (0, 4), (0, 5)] w (L_M_sum_21 w fr n u0 wu) := by
  intro n
  induction n with
  | zero =>
    intro u0 wu h
    simp only [L_M_sum_21]
    exact fr_rf
  | succ n ih =>
    intro u0 wu h
    simp only [L_M_sum_21]
    repeat' (first | (with_reducible refine ih ?_) | (with_reducible exact fr_rf) | (with_reducible exact h) | (with_reducible refine fr_up (by decide) ?_) | (with_reducible refine fr_uf (by decide) ?_) | (with_reducible refine fr_cp (by decide) ?_) | (with_reducible refine fr_tr ?_ (fr_wk fr_F_M_look (by decide) (by decide))) | (with_reducible refine fr_tr ?_ (fr_wk fr_F_M_put (by decide) (by decide))) | (with_reducible refine fr_tr ?_ (hf _ _)) | split | (dsimp only))
theorem fr_L_M_sum_21x2 {w : z_Wd} {fr : Nat → z_Wd → z_Wd} (hf : ∀ (t : Nat) (v : z_Wd), z_fr [2, 3, 4] [(0, 3), (0, 4), (0, 5)] v (fr t v)) : ∀ {n : Nat} {u0 : Int} {wu : z_Wd}, z_fr [2, 3, 4] [(0, 3), (0, 4), (0, 5)] w wu → z_fr [2, 3, 4] [(0, 3), (0, 4), (0, 5)] w (L_M_sum_21x2 w fr n u0 wu) := by
  intro n
  induction n with
  | zero =>
    intro u0 wu h
    simp only [L_M_sum_21x2]
    exact fr_rf
  | succ n ih =>
    intro u0 wu h
    simp only [L_M_sum_21x2]
    repeat' (first | (with_reducible refine ih ?_) | (with_reducible exact fr_rf) | (with_reducible exact h) | (with_reducible refine fr_up (by decide) ?_) | (with_reducible refine fr_uf (by decide) ?_) | (with_reducible refine fr_cp (by decide) ?_) | (with_reducible refine fr_tr ?_ (fr_wk fr_F_M_look (by decide) (by decide))) | (with_reducible refine fr_tr ?_ (fr_wk fr_F_M_put (by decide) (by decide))) | (with_reducible refine fr_tr ?_ (hf _ _)) | split | (dsimp only))
theorem fr_L_M_goOnAnd_0 {w : z_Wd} {fr : Nat → z_Wd → z_Wd} (hf : ∀ (t : Nat) (v : z_Wd), z_fr [2, 3, 4] [(0, 3), (0, 4), (0, 5)] v (fr t v)) : ∀ {n : Nat} {wu : z_Wd}, z_fr [2, 3, 4] [(0, 3), (0, 4), (0, 5)] w wu → z_fr [2, 3, 4] [(0, 3), (0, 4), (0, 5)] w (L_M_goOnAnd_0 w fr n wu) := by
  intro n
  induction n with
  | zero =>
    intro  wu h
    simp only [L_M_goOnAnd_0]
    exact fr_rf
  | succ n ih =>
    intro  wu h
    simp only [L_M_goOnAnd_0]
    repeat' (first | (with_reducible refine ih ?_) | (with_reducible exact fr_rf) | (with_reducible exact h) | (with_reducible refine fr_up (by decide) ?_) | (with_reducible refine fr_uf (by decide) ?_) | (with_reducible refine fr_cp (by decide) ?_) | (with_reducible refine fr_tr ?_ (fr_wk fr_F_M_look (by decide) (by decide))) | (with_reducible refine fr_tr ?_ (fr_wk fr_F_M_put (by decide) (by decide))) | (with_reducible refine fr_tr ?_ (hf _ _)) | split | (dsimp only))
theorem fr_L_M_goOnOr_0 {w : z_Wd} {fr : Nat → z_Wd → z_Wd} (hf : ∀ (t : Nat) (v : z_Wd), z_fr [2, 3, 4] [(0, 3), (0, 4), (0, 5)] v (fr t v)) : ∀ {n : Nat} {wu : z_Wd}, z_fr [2, 3, 4] [(0, 3), (0, 4), (0, 5)] w wu → z_fr [2, 3, 4] [(0, 3), (0, 4), (0, 5)] w (L_M_goOnOr_0 w fr n wu) := by
  intro n
  induction n with
  | zero =>
    intro  wu h
    simp only [L_M_goOnOr_0]
    exact fr_rf
  | succ n ih =>
    intro  wu h
    simp only [L_M_goOnOr_0]
    repeat' (first | (with_reducible refine ih ?_) | (with_reducible exact fr_rf) | (with_reducible exact h) | (with_reducible refine fr_up (by decide) ?_) | (with_reducible refine fr_uf (by decide) ?_) | (with_reducible refine fr_cp (by decide) ?_) | (with_reducible refine fr_tr ?_ (fr_wk fr_F_M_look (by decide) (by decide))) | (with_reducible refine fr_tr ?_ (fr_wk fr_F_M_put (by decide) (by decide))) | (with_reducible refine fr_tr ?_ (hf _ _)) | split | (dsimp only))
theorem fr_F_MP : ∀ (n t : Nat) (w : z_Wd), z_fr [2, 3, 4] [(0, 3), (0, 4), (0, 5)] w (F_MP n t w) := by
  intro n
  induction n with
  | zero =>
    intro t w
    simp only [F_MP]
    exact fr_rf
  | succ n ih =>
    intro t w
    unfold F_MP
    repeat' (first | (with_reducible exact fr_rf) | (with_reducible refine fr_up (by decide) ?_) | (with_reducible refine fr_uf (by decide) ?_) | (with_reducible refine fr_cp (by decide) ?_) | (with_reducible refine fr_tr ?_ (fr_wk fr_F_M_bad (by decide) (by decide))) | (with_reducible refine fr_tr ?_ (fr_wk fr_F_M_closes (by decide) (by decide))) | (with_reducible refine fr_tr ?_ (fr_wk fr_F_M_look (by decide) (by decide))) | (with_reducible refine fr_tr ?_ (fr_wk fr_F_M_opens (by decide) (by decide))) | (with_reducible refine fr_tr ?_ (fr_wk fr_F_M_plainNumber (by decide) (by decide))) | (with_reducible refine fr_tr ?_ (fr_wk fr_F_M_put (by decide) (by decide))) | (with_reducible refine fr_L_M_goOnAnd_0 (fun _ _ => ih _ _) ?_) | (with_reducible refine fr_L_M_goOnOr_0 (fun _ _ => ih _ _) ?_) | (with_reducible refine fr_L_M_sum_21 (fun _ _ => ih _ _) ?_) | (with_reducible refine fr_L_M_sum_21x2 (fun _ _ => ih _ _) ?_) | (with_reducible refine fr_L_M_term_21 (fun _ _ => ih _ _) ?_) | (with_reducible refine fr_L_M_term_21x2 (fun _ _ => ih _ _) ?_) | (with_reducible refine fr_tr ?_ (ih _ _)) | split | (dsimp only))
theorem fr_F_M_atom {w : z_Wd} : z_fr [2, 3, 4] [(0, 3), (0, 4), (0, 5)] w (F_M_atom w) := by
  unfold F_M_atom
  repeat' (first | (with_reducible exact fr_rf) | (with_reducible refine fr_up (by decide) ?_) | (with_reducible refine fr_uf (by decide) ?_) | (with_reducible refine fr_cp (by decide) ?_) | (with_reducible refine fr_tr ?_ (fr_wk (fr_F_MP _ _ _) (by decide) (by decide))) | split | (dsimp only))
theorem fr_F_M_term {w : z_Wd} : z_fr [2, 3, 4] [(0, 3), (0, 4), (0, 5)] w (F_M_term w) := by
  unfold F_M_term
  repeat' (first | (with_reducible exact fr_rf) | (with_reducible refine fr_up (by decide) ?_) | (with_reducible refine fr_uf (by decide) ?_) | (with_reducible refine fr_cp (by decide) ?_) | (with_reducible refine fr_tr ?_ (fr_wk (fr_F_MP _ _ _) (by decide) (by decide))) | split | (dsimp only))
theorem fr_F_M_sum {w : z_Wd} : z_fr [2, 3, 4] [(0, 3), (0, 4), (0, 5)] w (F_M_sum w) := by
  unfold F_M_sum
  repeat' (first | (with_reducible exact fr_rf) | (with_reducible refine fr_up (by decide) ?_) | (with_reducible refine fr_uf (by decide) ?_) | (with_reducible refine fr_cp (by decide) ?_) | (with_reducible refine fr_tr ?_ (fr_wk (fr_F_MP _ _ _) (by decide) (by decide))) | split | (dsimp only))
theorem fr_F_M_compare {w : z_Wd} : z_fr [2, 3, 4] [(0, 3), (0, 4), (0, 5)] w (F_M_compare w) := by
  unfold F_M_compare
  repeat' (first | (with_reducible exact fr_rf) | (with_reducible refine fr_up (by decide) ?_) | (with_reducible refine fr_uf (by decide) ?_) | (with_reducible refine fr_cp (by decide) ?_) | (with_reducible refine fr_tr ?_ (fr_wk (fr_F_MP _ _ _) (by decide) (by decide))) | split | (dsimp only))
theorem fr_F_M_unit {w : z_Wd} : z_fr [2, 3, 4] [(0, 3), (0, 4), (0, 5)] w (F_M_unit w) := by
  unfold F_M_unit
  repeat' (first | (with_reducible exact fr_rf) | (with_reducible refine fr_up (by decide) ?_) | (with_reducible refine fr_uf (by decide) ?_) | (with_reducible refine fr_cp (by decide) ?_) | (with_reducible refine fr_tr ?_ (fr_wk (fr_F_MP _ _ _) (by decide) (by decide))) | split | (dsimp only))
theorem fr_F_M_goOnAnd {w : z_Wd} : z_fr [2, 3, 4] [(0, 3), (0, 4), (0, 5)] w (F_M_goOnAnd w) := by
  unfold F_M_goOnAnd
  repeat' (first | (with_reducible exact fr_rf) | (with_reducible refine fr_up (by decide) ?_) | (with_reducible refine fr_uf (by decide) ?_) | (with_reducible refine fr_cp (by decide) ?_) | (with_reducible refine fr_tr ?_ (fr_wk (fr_F_MP _ _ _) (by decide) (by decide))) | split | (dsimp only))
theorem fr_F_M_goOnOr {w : z_Wd} : z_fr [2, 3, 4] [(0, 3), (0, 4), (0, 5)] w (F_M_goOnOr w) := by
  unfold F_M_goOnOr
  repeat' (first | (with_reducible exact fr_rf) | (with_reducible refine fr_up (by decide) ?_) | (with_reducible refine fr_uf (by decide) ?_) | (with_reducible refine fr_cp (by decide) ?_) | (with_reducible refine fr_tr ?_ (fr_wk (fr_F_MP _ _ _) (by decide) (by decide))) | split | (dsimp only))
theorem fr_F_M_condition {w : z_Wd} : z_fr [2, 3, 4] [(0, 3), (0, 4), (0, 5)] w (F_M_condition w) := by
  unfold F_M_condition
  repeat' (first | (with_reducible exact fr_rf) | (with_reducible refine fr_up (by decide) ?_) | (with_reducible refine fr_uf (by decide) ?_) | (with_reducible refine fr_cp (by decide) ?_) | (with_reducible refine fr_tr ?_ (fr_wk (fr_F_MP _ _ _) (by decide) (by decide))) | split | (dsimp only))
theorem fr_K_M_clause_251 {w : z_Wd} {l1 : Int} : z_fr [5, 8] [] w (K_M_clause_251 w l1) := by
  unfold K_M_clause_251
  repeat' (first | (with_reducible exact fr_rf) | (with_reducible refine fr_up (by decide) ?_) | (with_reducible refine fr_uf (by decide) ?_) | (with_reducible refine fr_cp (by decide) ?_) | split | (dsimp only))
theorem fr_K_M_clause_184 {w : z_Wd} {l1 : Int} {l2 : Int} : z_fr [2, 3, 4, 5, 7, 8] [(0, 3), (0, 4), (0, 5)] w (K_M_clause_184 w l1 l2) := by
  unfold K_M_clause_184
  repeat' (first | (with_reducible exact fr_rf) | (with_reducible refine fr_up (by decide) ?_) | (with_reducible refine fr_uf (by decide) ?_) | (with_reducible refine fr_cp (by decide) ?_) | (with_reducible refine fr_tr ?_ (fr_wk fr_F_M_bad (by decide) (by decide))) | (with_reducible refine fr_tr ?_ (fr_wk fr_F_M_look (by decide) (by decide))) | (with_reducible refine fr_tr ?_ (fr_wk fr_F_M_sum (by decide) (by decide))) | (with_reducible refine fr_tr ?_ (fr_wk fr_K_M_clause_251 (by decide) (by decide))) | split | (dsimp only))
theorem fr_K_M_clause_168 {w : z_Wd} {l1 : Int} {l2 : Int} : z_fr [2, 3, 4, 5, 7, 8] [(0, 3), (0, 4), (0, 5)] w (K_M_clause_168 w l1 l2) := by
  unfold K_M_clause_168
  repeat' (first | (with_reducible exact fr_rf) | (with_reducible refine fr_up (by decide) ?_) | (with_reducible refine fr_uf (by decide) ?_) | (with_reducible refine fr_cp (by decide) ?_) | (with_reducible refine fr_tr ?_ (fr_wk fr_F_M_compare (by decide) (by decide))) | (with_reducible refine fr_tr ?_ (fr_wk fr_F_M_goOnAnd (by decide) (by decide))) | (with_reducible refine fr_tr ?_ (fr_wk fr_F_M_goOnOr (by decide) (by decide))) | (with_reducible refine fr_tr ?_ (fr_wk fr_K_M_clause_184 (by decide) (by decide))) | split | (dsimp only))
theorem fr_K_M_clause_129 {w : z_Wd} {l1 : Int} {l2 : Int} : z_fr [2, 3, 4, 5, 7, 8] [(0, 3), (0, 4), (0, 5)] w (K_M_clause_129 w l1 l2) := by
  unfold K_M_clause_129
  repeat' (first | (with_reducible exact fr_rf) | (with_reducible refine fr_up (by decide) ?_) | (with_reducible refine fr_uf (by decide) ?_) | (with_reducible refine fr_cp (by decide) ?_) | (with_reducible refine fr_tr ?_ (fr_wk fr_F_M_condition (by decide) (by decide))) | (with_reducible refine fr_tr ?_ (fr_wk fr_F_M_look (by decide) (by decide))) | (with_reducible refine fr_tr ?_ (fr_wk fr_F_M_sum (by decide) (by decide))) | (with_reducible refine fr_tr ?_ (fr_wk fr_K_M_clause_168 (by decide) (by decide))) | (with_reducible refine fr_tr ?_ (fr_wk fr_K_M_clause_184 (by decide) (by decide))) | split | (dsimp only))
theorem fr_K_M_clause_90 {w : z_Wd} {l1 : Int} : z_fr [2, 3, 4, 5, 6, 7, 8] [(0, 3), (0, 4), (0, 5)] w (K_M_clause_90 w l1) := by
  unfold K_M_clause_90
  repeat' (first | (with_reducible exact fr_rf) | (with_reducible refine fr_up (by decide) ?_) | (with_reducible refine fr_uf (by decide) ?_) | (with_reducible refine fr_cp (by decide) ?_) | (with_reducible refine fr_tr ?_ (fr_wk fr_F_M_look (by decide) (by decide))) | (with_reducible refine fr_tr ?_ (fr_wk fr_K_M_clause_129 (by decide) (by decide))) | split | (dsimp only))
theorem fr_K_M_clause_71 {w : z_Wd} {l1 : Int} : z_fr [2, 3, 4, 5, 6, 7, 8] [(0, 3), (0, 4), (0, 5)] w (K_M_clause_71 w l1) := by
  unfold K_M_clause_71
  repeat' (first | (with_reducible exact fr_rf) | (with_reducible refine fr_up (by decide) ?_) | (with_reducible refine fr_uf (by decide) ?_) | (with_reducible refine fr_cp (by decide) ?_) | (with_reducible refine fr_tr ?_ (fr_wk fr_K_M_clause_90 (by decide) (by decide))) | split | (dsimp only))
theorem fr_K_M_clause_40 {w : z_Wd} {l1 : Int} : z_fr [2, 3, 4, 5, 6, 7, 8] [(0, 3), (0, 4), (0, 5)] w (K_M_clause_40 w l1) := by
  unfold K_M_clause_40
  repeat' (first | (with_reducible exact fr_rf) | (with_reducible refine fr_up (by decide) ?_) | (with_reducible refine fr_uf (by decide) ?_) | (with_reducible refine fr_cp (by decide) ?_) | (with_reducible refine fr_tr ?_ (fr_wk fr_F_M_bad (by decide) (by decide))) | (with_reducible refine fr_tr ?_ (fr_wk fr_F_M_look (by decide) (by decide))) | (with_reducible refine fr_tr ?_ (fr_wk fr_K_M_clause_71 (by decide) (by decide))) | split | (dsimp only))
theorem fr_F_M_clause {w : z_Wd} : z_fr [2, 3, 4, 5, 6, 7, 8] [(0, 3), (0, 4), (0, 5)] w (F_M_clause w) := by
  unfold F_M_clause
  repeat' (first | (with_reducible exact fr_rf) | (with_reducible refine fr_up (by decide) ?_) | (with_reducible refine fr_uf (by decide) ?_) | (with_reducible refine fr_cp (by decide) ?_) | (with_reducible refine fr_tr ?_ (fr_wk fr_F_M_bad (by decide) (by decide))) | (with_reducible refine fr_tr ?_ (fr_wk fr_F_M_look (by decide) (by decide))) | (with_reducible refine fr_tr ?_ (fr_wk fr_K_M_clause_40 (by decide) (by decide))) | split | (dsimp only))
theorem fr_L_M_readLaw_9 {w : z_Wd} : ∀ {n : Nat} {wu : z_Wd}, z_fr [2, 3, 4, 5, 6, 7, 8] [(0, 3), (0, 4), (0, 5), (0, 14)] w wu → z_fr [2, 3, 4, 5, 6, 7, 8] [(0, 3), (0, 4), (0, 5), (0, 14)] w (L_M_readLaw_9 w n wu).2 := by
  intro n
  induction n with
  | zero =>
    intro  wu h
    simp only [L_M_readLaw_9]
    exact fr_rf
  | succ n ih =>
    intro  wu h
    simp only [L_M_readLaw_9]
    repeat' (first | (with_reducible refine ih ?_) | (with_reducible exact fr_rf) | (with_reducible exact h) | (with_reducible refine fr_up (by decide) ?_) | (with_reducible refine fr_uf (by decide) ?_) | (with_reducible refine fr_cp (by decide) ?_) | (with_reducible refine fr_tr ?_ (fr_wk fr_F_M_atEnd (by decide) (by decide))) | (with_reducible refine fr_tr ?_ (fr_wk fr_F_M_clause (by decide) (by decide))) | (with_reducible refine fr_tr ?_ (fr_wk fr_F_M_look (by decide) (by decide))) | split | (dsimp only))
theorem fr_F_M_readLaw {w : z_Wd} {a0 : Int} : z_fr [2, 3, 4, 5, 6, 7, 8] [(0, 3), (0, 4), (0, 5), (0, 14)] w (F_M_readLaw w a0).2 := by
  unfold F_M_readLaw
  repeat' (first | (with_reducible exact fr_rf) | (with_reducible refine fr_up (by decide) ?_) | (with_reducible refine fr_uf (by decide) ?_) | (with_reducible refine fr_cp (by decide) ?_) | (with_reducible refine fr_tr ?_ (fr_wk fr_F_M_clause (by decide) (by decide))) | (with_reducible refine fr_tr ?_ (fr_wk fr_F_M_open (by decide) (by decide))) | (with_reducible refine fr_L_M_readLaw_9 (fun _ _ => ih _ _) ?_) | split | (dsimp only))
theorem fr_z_rmT {w : z_Wd} : z_fr [] [(0, 3)] w (z_rmT w).2 := by
  unfold z_rmT
  repeat' (first | (with_reducible exact fr_rf) | (with_reducible refine fr_up (by decide) ?_) | (with_reducible refine fr_uf (by decide) ?_) | (with_reducible refine fr_cp (by decide) ?_) | (with_reducible refine fr_tr ?_ (fr_wk fr_F_M_look (by decide) (by decide))) | split | (dsimp only))
theorem fr_z_rmC {w : z_Wd} {c : Int} {l1 : Int} : z_fr [11, 12, 13, 14] [(0, 3), (0, 4), (0, 21), (0, 22), (0, 23)] w (z_rmC w c l1).2 := by
  unfold z_rmC
  repeat' (first | (with_reducible exact fr_rf) | (with_reducible refine fr_up (by decide) ?_) | (with_reducible refine fr_uf (by decide) ?_) | (with_reducible refine fr_cp (by decide) ?_) | (with_reducible refine fr_tr ?_ (fr_wk fr_F_M_bad (by decide) (by decide))) | (with_reducible refine fr_tr ?_ (fr_wk fr_F_M_clauseText (by decide) (by decide))) | split | (dsimp only))
theorem fr_z_rmE {w : z_Wd} : z_fr [] [(0, 3), (0, 4)] w (z_rmE w).2 := by
  unfold z_rmE
  repeat' (first | (with_reducible exact fr_rf) | (with_reducible refine fr_up (by decide) ?_) | (with_reducible refine fr_uf (by decide) ?_) | (with_reducible refine fr_cp (by decide) ?_) | (with_reducible refine fr_tr ?_ (fr_wk fr_F_M_bad (by decide) (by decide))) | (with_reducible refine fr_tr ?_ (fr_wk fr_F_M_look (by decide) (by decide))) | split | (dsimp only))
theorem fr_z_rmL : ∀ (n : Nat) (w : z_Wd) (a0 a1 : Int), z_fr [11, 12, 13, 14] [(0, 3), (0, 4), (0, 21), (0, 22), (0, 23)] w (z_rmL n w a0 a1).2 := by
  intro n
  induction n with
  | zero =>
    intro w a0 a1
    simp only [z_rmL]
    exact fr_rf
  | succ n ih =>
    intro w a0 a1
    simp only [z_rmL]
    repeat' (first | (with_reducible exact fr_rf) | (with_reducible refine fr_up (by decide) ?_) | (with_reducible refine fr_uf (by decide) ?_) | (with_reducible refine fr_cp (by decide) ?_) | (with_reducible refine fr_tr ?_ (fr_wk fr_F_M_look (by decide) (by decide))) | (with_reducible refine fr_tr ?_ (fr_wk fr_z_rmC (by decide) (by decide))) | (with_reducible refine fr_tr ?_ (fr_wk fr_z_rmE (by decide) (by decide))) | (with_reducible refine fr_tr ?_ (fr_wk fr_z_rmT (by decide) (by decide))) | (with_reducible refine fr_tr ?_ (ih _ _ _)) | split | (dsimp only))
theorem fr_z_rm0 {w : z_Wd} : z_fr [11] [(0, 3), (0, 4), (0, 21), (0, 22), (0, 23)] w (z_rm0 w) := by
  unfold z_rm0
  repeat' (first | (with_reducible exact fr_rf) | (with_reducible refine fr_up (by decide) ?_) | (with_reducible refine fr_uf (by decide) ?_) | (with_reducible refine fr_cp (by decide) ?_) | split | (dsimp only))
theorem fr_F_M_readMinistry {w : z_Wd} : z_fr [11, 12, 13, 14] [(0, 3), (0, 4), (0, 21), (0, 22), (0, 23)] w (F_M_readMinistry w).2 := by
  unfold F_M_readMinistry
  repeat' (first | (with_reducible exact fr_rf) | (with_reducible refine fr_up (by decide) ?_) | (with_reducible refine fr_uf (by decide) ?_) | (with_reducible refine fr_cp (by decide) ?_) | (with_reducible refine fr_tr ?_ (fr_wk fr_z_rm0 (by decide) (by decide))) | (with_reducible refine fr_tr ?_ (fr_wk (fr_z_rmL _ _ _ _) (by decide) (by decide))) | split | (dsimp only))
theorem fr_F_M_fault {w : z_Wd} {a0 : Int} : z_fr [2, 3, 4, 5, 6, 7, 8, 11, 12, 13, 14] [(0, 3), (0, 4), (0, 5), (0, 14), (0, 21), (0, 22), (0, 23)] w (F_M_fault w a0).2 := by
  unfold F_M_fault
  repeat' (first | (with_reducible exact fr_rf) | (with_reducible refine fr_up (by decide) ?_) | (with_reducible refine fr_uf (by decide) ?_) | (with_reducible refine fr_cp (by decide) ?_) | (with_reducible refine fr_tr ?_ (fr_wk fr_F_M_readLaw (by decide) (by decide))) | (with_reducible refine fr_tr ?_ (fr_wk fr_F_M_readMinistry (by decide) (by decide))) | split | (dsimp only))
theorem fr_F_M_text {w : z_Wd} {a0 : Int} : z_fr [2, 3, 4, 5, 6, 7, 8, 11, 12, 13, 14, 15, 16, 17, 18, 19] [(0, 2), (0, 3), (0, 4), (0, 5), (0, 13), (0, 14), (0, 21), (0, 22), (0, 23), (0, 28), (0, 29), (0, 30), (0, 36), (0, 43), (0, 45)] w (F_M_text w a0).2 := by
  unfold F_M_text
  repeat' (first | (with_reducible exact fr_rf) | (with_reducible refine fr_up (by decide) ?_) | (with_reducible refine fr_uf (by decide) ?_) | (with_reducible refine fr_cp (by decide) ?_) | (with_reducible refine fr_tr ?_ (fr_wk fr_F_M_readLaw (by decide) (by decide))) | (with_reducible refine fr_tr ?_ (fr_wk fr_F_M_readMinistry (by decide) (by decide))) | (with_reducible refine fr_tr ?_ (fr_wk fr_F_M_takeMinistry (by decide) (by decide))) | split | (dsimp only))
theorem fr_F_C_forget {w : z_Wd} : z_fr [] [(72, 4)] w (F_C_forget w) := by
  unfold F_C_forget
  repeat' (first | (with_reducible exact fr_rf) | (with_reducible refine fr_up (by decide) ?_) | (with_reducible refine fr_uf (by decide) ?_) | (with_reducible refine fr_cp (by decide) ?_) | split | (dsimp only))
theorem fr_F_G_hold {w : z_Wd} {a0 : Int} : z_fr [] [(55, 5)] w (F_G_hold w a0).2 := by
  unfold F_G_hold
  repeat' (first | (with_reducible exact fr_rf) | (with_reducible refine fr_up (by decide) ?_) | (with_reducible refine fr_uf (by decide) ?_) | (with_reducible refine fr_cp (by decide) ?_) | split | (dsimp only))
theorem fr_F_H_forget {w : z_Wd} : z_fr [] [(53, 2)] w (F_H_forget w) := by
  unfold F_H_forget
  repeat' (first | (with_reducible exact fr_rf) | (with_reducible refine fr_up (by decide) ?_) | (with_reducible refine fr_uf (by decide) ?_) | (with_reducible refine fr_cp (by decide) ?_) | split | (dsimp only))
theorem fr_F_K_pay {w : z_Wd} {a0 : Int} : z_fr [] [(41, 6)] w (F_K_pay w a0) := by
  unfold F_K_pay
  repeat' (first | (with_reducible exact fr_rf) | (with_reducible refine fr_up (by decide) ?_) | (with_reducible refine fr_uf (by decide) ?_) | (with_reducible refine fr_cp (by decide) ?_) | split | (dsimp only))
theorem fr_F_K_earn {w : z_Wd} {a0 : Int} : z_fr [] [(41, 6)] w (F_K_earn w a0) := by
  unfold F_K_earn
  repeat' (first | (with_reducible exact fr_rf) | (with_reducible refine fr_up (by decide) ?_) | (with_reducible refine fr_uf (by decide) ?_) | (with_reducible refine fr_cp (by decide) ?_) | split | (dsimp only))
theorem fr_F_W_clear {w : z_Wd} : z_fr [] [(38, 2)] w (F_W_clear w) := by
  unfold F_W_clear
  repeat' (first | (with_reducible exact fr_rf) | (with_reducible refine fr_up (by decide) ?_) | (with_reducible refine fr_uf (by decide) ?_) | (with_reducible refine fr_cp (by decide) ?_) | split | (dsimp only))
theorem fr_F_W_add {w : z_Wd} {a0 : Int} {a1 : Int} : z_fr [39] [(38, 2)] w (F_W_add w a0 a1) := by
  unfold F_W_add
  repeat' (first | (with_reducible exact fr_rf) | (with_reducible refine fr_up (by decide) ?_) | (with_reducible refine fr_uf (by decide) ?_) | (with_reducible refine fr_cp (by decide) ?_) | split | (dsimp only))
theorem fr_F_W_goOnHere {w : z_Wd} {a0 : Int} : z_fr [39] [] w (F_W_goOnHere w a0) := by
  unfold F_W_goOnHere
  repeat' (first | (with_reducible exact fr_rf) | (with_reducible refine fr_up (by decide) ?_) | (with_reducible refine fr_uf (by decide) ?_) | (with_reducible refine fr_cp (by decide) ?_) | split | (dsimp only))
theorem fr_F_W_push {w : z_Wd} {a0 : Int} : z_fr [40] [(38, 3)] w (F_W_push w a0) := by
  unfold F_W_push
  repeat' (first | (with_reducible exact fr_rf) | (with_reducible refine fr_up (by decide) ?_) | (with_reducible refine fr_uf (by decide) ?_) | (with_reducible refine fr_cp (by decide) ?_) | split | (dsimp only))
theorem fr_F_W_pop {w : z_Wd} : z_fr [] [(38, 3)] w (F_W_pop w).2 := by
  unfold F_W_pop
  repeat' (first | (with_reducible exact fr_rf) | (with_reducible refine fr_up (by decide) ?_) | (with_reducible refine fr_uf (by decide) ?_) | (with_reducible refine fr_cp (by decide) ?_) | split | (dsimp only))
theorem fr_A_Y_setUsual_2 {w : z_Wd} {a0 : Int} {a1 : Int} {n : Nat} : z_fr [31] [] w (A_Y_setUsual_2 w a0 a1 n) := by
  induction n with
  | zero =>
    simp only [A_Y_setUsual_2]
    repeat' (first | (with_reducible exact fr_rf) | (with_reducible refine fr_up (by decide) ?_) | (with_reducible refine fr_uf (by decide) ?_) | (with_reducible refine fr_cp (by decide) ?_) | split | (dsimp only))
  | succ n ih =>
    simp only [A_Y_setUsual_2]
    repeat' (first | (with_reducible exact fr_rf) | (with_reducible exact ih) | (with_reducible refine fr_up (by decide) ?_) | (with_reducible refine fr_uf (by decide) ?_) | (with_reducible refine fr_cp (by decide) ?_) | split | (dsimp only))
theorem fr_F_Y_setUsual {w : z_Wd} {a0 : Int} {a1 : Int} : z_fr [31] [] w (F_Y_setUsual w a0 a1) := by
  unfold F_Y_setUsual
  repeat' (first | (with_reducible exact fr_rf) | (with_reducible refine fr_up (by decide) ?_) | (with_reducible refine fr_uf (by decide) ?_) | (with_reducible refine fr_cp (by decide) ?_) | (with_reducible refine fr_tr ?_ (fr_wk fr_A_Y_setUsual_2 (by decide) (by decide))) | split | (dsimp only))
theorem fr_F_Y_tellLatest {w : z_Wd} {a0 : Int} {a1 : Int} {a2 : Int} : z_fr [31] [] w (F_Y_tellLatest w a0 a1 a2) := by
  unfold F_Y_tellLatest
  repeat' (first | (with_reducible exact fr_rf) | (with_reducible refine fr_up (by decide) ?_) | (with_reducible refine fr_uf (by decide) ?_) | (with_reducible refine fr_cp (by decide) ?_) | split | (dsimp only))
theorem fr_F_T_cut {w : z_Wd} {a0 : Int} : z_fr [] [(28, 1)] w (F_T_cut w a0) := by
  unfold F_T_cut
  repeat' (first | (with_reducible exact fr_rf) | (with_reducible refine fr_up (by decide) ?_) | (with_reducible refine fr_uf (by decide) ?_) | (with_reducible refine fr_cp (by decide) ?_) | split | (dsimp only))
theorem fr_F_D_end {w : z_Wd} {a0 : Int} : z_fr [] [(28, 1)] w (F_D_end w a0).2 := by
  unfold F_D_end
  repeat' (first | (with_reducible exact fr_rf) | (with_reducible refine fr_up (by decide) ?_) | (with_reducible refine fr_uf (by decide) ?_) | (with_reducible refine fr_cp (by decide) ?_) | (with_reducible refine fr_tr ?_ (fr_wk fr_F_T_cut (by decide) (by decide))) | split | (dsimp only))
theorem fr_F_D_law {w : z_Wd} {a0 : Int} : z_fr [] [(55, 5)] w (F_D_law w a0).2 := by
  unfold F_D_law
  repeat' (first | (with_reducible exact fr_rf) | (with_reducible refine fr_up (by decide) ?_) | (with_reducible refine fr_uf (by decide) ?_) | (with_reducible refine fr_cp (by decide) ?_) | (with_reducible refine fr_tr ?_ (fr_wk fr_F_G_hold (by decide) (by decide))) | split | (dsimp only))
theorem fr_F_D_flies {w : z_Wd} {a0 : Int} : z_fr [] [(27, 12)] w (F_D_flies w a0).2 := by
  unfold F_D_flies
  repeat' (first | (with_reducible exact fr_rf) | (with_reducible refine fr_up (by decide) ?_) | (with_reducible refine fr_uf (by decide) ?_) | (with_reducible refine fr_cp (by decide) ?_) | split | (dsimp only))
theorem fr_F_D_draw {w : z_Wd} {a0 : Int} : z_fr [] [(27, 14)] w (F_D_draw w a0).2 := by
  unfold F_D_draw
  repeat' (first | (with_reducible exact fr_rf) | (with_reducible refine fr_up (by decide) ?_) | (with_reducible refine fr_uf (by decide) ?_) | (with_reducible refine fr_cp (by decide) ?_) | split | (dsimp only))
theorem fr_F_D_refuse {w : z_Wd} {a0 : Int} {a1 : Int} : z_fr [78] [] w (F_D_refuse w a0 a1).2 := by
  unfold F_D_refuse
  repeat' (first | (with_reducible exact fr_rf) | (with_reducible refine fr_up (by decide) ?_) | (with_reducible refine fr_uf (by decide) ?_) | (with_reducible refine fr_cp (by decide) ?_) | split | (dsimp only))
theorem fr_A_Y_setUsual_34_2 {w : z_Wd} {a0 : Int} {a1 : Int} {n : Nat} : z_fr [35] [] w (A_Y_setUsual_34_2 w a0 a1 n) := by
  induction n with
  | zero =>
    simp only [A_Y_setUsual_34_2]
    repeat' (first | (with_reducible exact fr_rf) | (with_reducible refine fr_up (by decide) ?_) | (with_reducible refine fr_uf (by decide) ?_) | (with_reducible refine fr_cp (by decide) ?_) | split | (dsimp only))
  | succ n ih =>
    simp only [A_Y_setUsual_34_2]
    repeat' (first | (with_reducible exact fr_rf) | (with_reducible exact ih) | (with_reducible refine fr_up (by decide) ?_) | (with_reducible refine fr_uf (by decide) ?_) | (with_reducible refine fr_cp (by decide) ?_) | split | (dsimp only))
theorem fr_F_Y_setUsual_34 {w : z_Wd} {a0 : Int} {a1 : Int} : z_fr [35] [] w (F_Y_setUsual_34 w a0 a1) := by
  unfold F_Y_setUsual_34
  repeat' (first | (with_reducible exact fr_rf) | (with_reducible refine fr_up (by decide) ?_) | (with_reducible refine fr_uf (by decide) ?_) | (with_reducible refine fr_cp (by decide) ?_) | (with_reducible refine fr_tr ?_ (fr_wk fr_A_Y_setUsual_34_2 (by decide) (by decide))) | split | (dsimp only))
theorem fr_F_Y_tellLatest_34 {w : z_Wd} {a0 : Int} {a1 : Int} {a2 : Int} : z_fr [35] [] w (F_Y_tellLatest_34 w a0 a1 a2) := by
  unfold F_Y_tellLatest_34
  repeat' (first | (with_reducible exact fr_rf) | (with_reducible refine fr_up (by decide) ?_) | (with_reducible refine fr_uf (by decide) ?_) | (with_reducible refine fr_cp (by decide) ?_) | split | (dsimp only))
theorem fr_F_Y_copyFrom_34 {w : z_Wd} : z_fr [31, 32] [] w (F_Y_copyFrom_34 w) := by
  unfold F_Y_copyFrom_34
  repeat' (first | (with_reducible exact fr_rf) | (with_reducible refine fr_up (by decide) ?_) | (with_reducible refine fr_uf (by decide) ?_) | (with_reducible refine fr_cp (by decide) ?_) | split | (dsimp only))
theorem fr_F_K_copyFrom_47_41 {w : z_Wd} : z_fr [48, 49, 50, 51, 52] [(47, 6), (47, 7), (47, 8)] w (F_K_copyFrom_47_41 w) := by
  unfold F_K_copyFrom_47_41
  repeat' (first | (with_reducible exact fr_rf) | (with_reducible refine fr_up (by decide) ?_) | (with_reducible refine fr_uf (by decide) ?_) | (with_reducible refine fr_cp (by decide) ?_) | split | (dsimp only))
theorem fr_F_K_copyFrom_47 {w : z_Wd} : z_fr [42, 43, 44, 45, 46] [(41, 6), (41, 7), (41, 8)] w (F_K_copyFrom_47 w) := by
  unfold F_K_copyFrom_47
  repeat' (first | (with_reducible exact fr_rf) | (with_reducible refine fr_up (by decide) ?_) | (with_reducible refine fr_uf (by decide) ?_) | (with_reducible refine fr_cp (by decide) ?_) | split | (dsimp only))
theorem fr_F_K_writeTo_54 {w : z_Wd} {a1 : Int} : z_fr [54] [] w (F_K_writeTo_54 w a1) := by
  unfold F_K_writeTo_54
  repeat' (first | (with_reducible exact fr_rf) | (with_reducible refine fr_up (by decide) ?_) | (with_reducible refine fr_uf (by decide) ?_) | (with_reducible refine fr_cp (by decide) ?_) | split | (dsimp only))
theorem fr_F_K_readFrom_54 {w : z_Wd} {a1 : Int} : z_fr [42, 43, 44] [(41, 6), (41, 7), (41, 8)] w (F_K_readFrom_54 w a1) := by
  unfold F_K_readFrom_54
  repeat' (first | (with_reducible exact fr_rf) | (with_reducible refine fr_up (by decide) ?_) | (with_reducible refine fr_uf (by decide) ?_) | (with_reducible refine fr_cp (by decide) ?_) | split | (dsimp only))
theorem fr_F_H_keep_41 {w : z_Wd} : z_fr [54] [(53, 1), (53, 2)] w (F_H_keep_41 w) := by
  unfold F_H_keep_41
  repeat' (first | (with_reducible exact fr_rf) | (with_reducible refine fr_up (by decide) ?_) | (with_reducible refine fr_uf (by decide) ?_) | (with_reducible refine fr_cp (by decide) ?_) | (with_reducible refine fr_tr ?_ (fr_wk fr_F_K_writeTo_54 (by decide) (by decide))) | split | (dsimp only))
theorem fr_F_H_takeBack_41 {w : z_Wd} : z_fr [42, 43, 44] [(41, 6), (41, 7), (41, 8), (53, 1), (53, 2)] w (F_H_takeBack_41 w).2 := by
  unfold F_H_takeBack_41
  repeat' (first | (with_reducible exact fr_rf) | (with_reducible refine fr_up (by decide) ?_) | (with_reducible refine fr_uf (by decide) ?_) | (with_reducible refine fr_cp (by decide) ?_) | (with_reducible refine fr_tr ?_ (fr_wk fr_F_K_readFrom_54 (by decide) (by decide))) | split | (dsimp only))
theorem fr_F_W_copyFrom_58_38 {w : z_Wd} : z_fr [59] [(58, 2)] w (F_W_copyFrom_58_38 w) := by
  unfold F_W_copyFrom_58_38
  repeat' (first | (with_reducible exact fr_rf) | (with_reducible refine fr_up (by decide) ?_) | (with_reducible refine fr_uf (by decide) ?_) | (with_reducible refine fr_cp (by decide) ?_) | split | (dsimp only))
theorem fr_F_W_push_58 {w : z_Wd} {a0 : Int} : z_fr [60] [(58, 3)] w (F_W_push_58 w a0) := by
  unfold F_W_push_58
  repeat' (first | (with_reducible exact fr_rf) | (with_reducible refine fr_up (by decide) ?_) | (with_reducible refine fr_uf (by decide) ?_) | (with_reducible refine fr_cp (by decide) ?_) | split | (dsimp only))
theorem fr_F_W_pop_58 {w : z_Wd} : z_fr [] [(58, 3)] w (F_W_pop_58 w).2 := by
  unfold F_W_pop_58
  repeat' (first | (with_reducible exact fr_rf) | (with_reducible refine fr_up (by decide) ?_) | (with_reducible refine fr_uf (by decide) ?_) | (with_reducible refine fr_cp (by decide) ?_) | split | (dsimp only))
theorem fr_F_W_copyFrom_61_38 {w : z_Wd} : z_fr [62] [(61, 2)] w (F_W_copyFrom_61_38 w) := by
  unfold F_W_copyFrom_61_38
  repeat' (first | (with_reducible exact fr_rf) | (with_reducible refine fr_up (by decide) ?_) | (with_reducible refine fr_uf (by decide) ?_) | (with_reducible refine fr_cp (by decide) ?_) | split | (dsimp only))
theorem fr_F_W_push_61 {w : z_Wd} {a0 : Int} : z_fr [63] [(61, 3)] w (F_W_push_61 w a0) := by
  unfold F_W_push_61
  repeat' (first | (with_reducible exact fr_rf) | (with_reducible refine fr_up (by decide) ?_) | (with_reducible refine fr_uf (by decide) ?_) | (with_reducible refine fr_cp (by decide) ?_) | split | (dsimp only))
theorem fr_F_W_pop_61 {w : z_Wd} : z_fr [] [(61, 3)] w (F_W_pop_61 w).2 := by
  unfold F_W_pop_61
  repeat' (first | (with_reducible exact fr_rf) | (with_reducible refine fr_up (by decide) ?_) | (with_reducible refine fr_uf (by decide) ?_) | (with_reducible refine fr_cp (by decide) ?_) | split | (dsimp only))
theorem fr_F_W_copyFrom_64_38 {w : z_Wd} : z_fr [65] [(64, 2)] w (F_W_copyFrom_64_38 w) := by
  unfold F_W_copyFrom_64_38
  repeat' (first | (with_reducible exact fr_rf) | (with_reducible refine fr_up (by decide) ?_) | (with_reducible refine fr_uf (by decide) ?_) | (with_reducible refine fr_cp (by decide) ?_) | split | (dsimp only))
theorem fr_F_W_push_64 {w : z_Wd} {a0 : Int} : z_fr [66] [(64, 3)] w (F_W_push_64 w a0) := by
  unfold F_W_push_64
  repeat' (first | (with_reducible exact fr_rf) | (with_reducible refine fr_up (by decide) ?_) | (with_reducible refine fr_uf (by decide) ?_) | (with_reducible refine fr_cp (by decide) ?_) | split | (dsimp only))
theorem fr_F_W_pop_64 {w : z_Wd} : z_fr [] [(64, 3)] w (F_W_pop_64 w).2 := by
  unfold F_W_pop_64
  repeat' (first | (with_reducible exact fr_rf) | (with_reducible refine fr_up (by decide) ?_) | (with_reducible refine fr_uf (by decide) ?_) | (with_reducible refine fr_cp (by decide) ?_) | split | (dsimp only))
theorem fr_F_W_copyFrom_67_38 {w : z_Wd} : z_fr [68] [(67, 2)] w (F_W_copyFrom_67_38 w) := by
  unfold F_W_copyFrom_67_38
  repeat' (first | (with_reducible exact fr_rf) | (with_reducible refine fr_up (by decide) ?_) | (with_reducible refine fr_uf (by decide) ?_) | (with_reducible refine fr_cp (by decide) ?_) | split | (dsimp only))
theorem fr_F_W_push_67 {w : z_Wd} {a0 : Int} : z_fr [69] [(67, 3)] w (F_W_push_67 w a0) := by
  unfold F_W_push_67
  repeat' (first | (with_reducible exact fr_rf) | (with_reducible refine fr_up (by decide) ?_) | (with_reducible refine fr_uf (by decide) ?_) | (with_reducible refine fr_cp (by decide) ?_) | split | (dsimp only))
theorem fr_F_W_pop_67 {w : z_Wd} : z_fr [] [(67, 3)] w (F_W_pop_67 w).2 := by
  unfold F_W_pop_67
  repeat' (first | (with_reducible exact fr_rf) | (with_reducible refine fr_up (by decide) ?_) | (with_reducible refine fr_uf (by decide) ?_) | (with_reducible refine fr_cp (by decide) ?_) | split | (dsimp only))
theorem fr_F_C_note {w : z_Wd} {a0 : Int} {a1 : Int} : z_fr [73, 74] [(72, 4)] w (F_C_note w a0 a1).2 := by
  unfold F_C_note
  repeat' (first | (with_reducible exact fr_rf) | (with_reducible refine fr_up (by decide) ?_) | (with_reducible refine fr_uf (by decide) ?_) | (with_reducible refine fr_cp (by decide) ?_) | split | (dsimp only))
theorem fr_A_C_mostOfASort_22 {w : z_Wd} {a0 : Int} {a1 : Int} {n : Nat} : z_fr [75] [] w (A_C_mostOfASort_22 w a0 a1 n) := by
  induction n with
  | zero =>
    simp only [A_C_mostOfASort_22]
    repeat' (first | (with_reducible exact fr_rf) | (with_reducible refine fr_up (by decide) ?_) | (with_reducible refine fr_uf (by decide) ?_) | (with_reducible refine fr_cp (by decide) ?_) | split | (dsimp only))
  | succ n ih =>
    simp only [A_C_mostOfASort_22]
    repeat' (first | (with_reducible exact fr_rf) | (with_reducible exact ih) | (with_reducible refine fr_up (by decide) ?_) | (with_reducible refine fr_uf (by decide) ?_) | (with_reducible refine fr_cp (by decide) ?_) | split | (dsimp only))
theorem fr_F_C_mostOfASort {w : z_Wd} {a0 : Int} {a1 : Int} : z_fr [75] [] w (F_C_mostOfASort w a0 a1).2 := by
  unfold F_C_mostOfASort
  repeat' (first | (with_reducible exact fr_rf) | (with_reducible refine fr_up (by decide) ?_) | (with_reducible refine fr_uf (by decide) ?_) | (with_reducible refine fr_cp (by decide) ?_) | (with_reducible refine fr_tr ?_ (fr_wk fr_A_C_mostOfASort_22 (by decide) (by decide))) | split | (dsimp only))
theorem fr_A_K_start_30 {w : z_Wd} {sw : z_Wd} {n : Nat} : z_fr [44] [] sw (A_K_start_30 w sw n) := by
  induction n with
  | zero =>
    simp only [A_K_start_30]
    repeat' (first | (with_reducible exact fr_rf) | (with_reducible refine fr_up (by decide) ?_) | (with_reducible refine fr_uf (by decide) ?_) | (with_reducible refine fr_cp (by decide) ?_) | split | (dsimp only))
  | succ n ih =>
    simp only [A_K_start_30]
    repeat' (first | (with_reducible exact fr_rf) | (with_reducible exact ih) | (with_reducible refine fr_up (by decide) ?_) | (with_reducible refine fr_uf (by decide) ?_) | (with_reducible refine fr_cp (by decide) ?_) | split | (dsimp only))
theorem fr_A_K_start_2 {w : z_Wd} {n : Nat} : z_fr [42, 43] [] w (A_K_start_2 w n) := by
  induction n with
  | zero =>
    simp only [A_K_start_2]
    repeat' (first | (with_reducible exact fr_rf) | (with_reducible refine fr_up (by decide) ?_) | (with_reducible refine fr_uf (by decide) ?_) | (with_reducible refine fr_cp (by decide) ?_) | split | (dsimp only))
  | succ n ih =>
    simp only [A_K_start_2]
    repeat' (first | (with_reducible exact fr_rf) | (with_reducible exact ih) | (with_reducible refine fr_up (by decide) ?_) | (with_reducible refine fr_uf (by decide) ?_) | (with_reducible refine fr_cp (by decide) ?_) | split | (dsimp only))
theorem fr_F_K_start {w : z_Wd} : z_fr [42, 43, 44] [(41, 6), (41, 7), (41, 8)] w (F_K_start w) := by
  unfold F_K_start
  repeat' (first | (with_reducible exact fr_rf) | (with_reducible refine fr_up (by decide) ?_) | (with_reducible refine fr_uf (by decide) ?_) | (with_reducible refine fr_cp (by decide) ?_) | (with_reducible refine fr_tr ?_ (fr_wk fr_A_K_start_2 (by decide) (by decide))) | (with_reducible refine fr_tr ?_ (fr_wk fr_A_K_start_30 (by decide) (by decide))) | split | (dsimp only))
theorem fr_F_K_drown {w : z_Wd} {a0 : Int} {a1 : Int} : z_fr [42, 43] [] w (F_K_drown w a0 a1) := by
  unfold F_K_drown
  repeat' (first | (with_reducible exact fr_rf) | (with_reducible refine fr_up (by decide) ?_) | (with_reducible refine fr_uf (by decide) ?_) | (with_reducible refine fr_cp (by decide) ?_) | split | (dsimp only))
theorem fr_A_K_lift_11 {w : z_Wd} {a0 : Int} {n : Nat} : z_fr [43] [] w (A_K_lift_11 w a0 n) := by
  induction n with
  | zero =>
    simp only [A_K_lift_11]
    repeat' (first | (with_reducible exact fr_rf) | (with_reducible refine fr_up (by decide) ?_) | (with_reducible refine fr_uf (by decide) ?_) | (with_reducible refine fr_cp (by decide) ?_) | split | (dsimp only))
  | succ n ih =>
    simp only [A_K_lift_11]
    repeat' (first | (with_reducible exact fr_rf) | (with_reducible exact ih) | (with_reducible refine fr_up (by decide) ?_) | (with_reducible refine fr_uf (by decide) ?_) | (with_reducible refine fr_cp (by decide) ?_) | split | (dsimp only))
theorem fr_F_K_lift {w : z_Wd} {a0 : Int} : z_fr [42, 43] [] w (F_K_lift w a0) := by
  unfold F_K_lift
  repeat' (first | (with_reducible exact fr_rf) | (with_reducible refine fr_up (by decide) ?_) | (with_reducible refine fr_uf (by decide) ?_) | (with_reducible refine fr_cp (by decide) ?_) | (with_reducible refine fr_tr ?_ (fr_wk fr_A_K_lift_11 (by decide) (by decide))) | split | (dsimp only))
theorem fr_F_K_deepen {w : z_Wd} {a0 : Int} : z_fr [44] [] w (F_K_deepen w a0) := by
  unfold F_K_deepen
  repeat' (first | (with_reducible exact fr_rf) | (with_reducible refine fr_up (by decide) ?_) | (with_reducible refine fr_uf (by decide) ?_) | (with_reducible refine fr_cp (by decide) ?_) | split | (dsimp only))
theorem fr_F_K_passYear {w : z_Wd} {a0 : Int} : z_fr [45, 46] [(41, 6), (41, 7), (41, 8)] w (F_K_passYear w a0) := by
  unfold F_K_passYear
  repeat' (first | (with_reducible exact fr_rf) | (with_reducible refine fr_up (by decide) ?_) | (with_reducible refine fr_uf (by decide) ?_) | (with_reducible refine fr_cp (by decide) ?_) | (with_reducible refine fr_tr ?_ (fr_wk fr_F_K_earn (by decide) (by decide))) | split | (dsimp only))
theorem fr_F_LR_step {w : z_Wd} : z_fr [] [(37, 2)] w (F_LR_step w) := by
  unfold F_LR_step
  repeat' (first | (with_reducible exact fr_rf) | (with_reducible refine fr_up (by decide) ?_) | (with_reducible refine fr_uf (by decide) ?_) | (with_reducible refine fr_cp (by decide) ?_) | split | (dsimp only))
theorem fr_F_LR_take {w : z_Wd} {a0 : Int} : z_fr [] [(37, 2)] w (F_LR_take w a0).2 := by
  unfold F_LR_take
  repeat' (first | (with_reducible exact fr_rf) | (with_reducible refine fr_up (by decide) ?_) | (with_reducible refine fr_uf (by decide) ?_) | (with_reducible refine fr_cp (by decide) ?_) | (with_reducible refine fr_tr ?_ (fr_wk fr_F_LR_step (by decide) (by decide))) | split | (dsimp only))
theorem fr_F_LR_readNumber {w : z_Wd} : z_fr [39] [(37, 2), (38, 2)] w (F_LR_readNumber w).2 := by
  unfold F_LR_readNumber
  repeat' (first | (with_reducible exact fr_rf) | (with_reducible refine fr_up (by decide) ?_) | (with_reducible refine fr_uf (by decide) ?_) | (with_reducible refine fr_cp (by decide) ?_) | (with_reducible refine fr_tr ?_ (fr_wk fr_F_LR_step (by decide) (by decide))) | (with_reducible refine fr_tr ?_ (fr_wk fr_F_W_add (by decide) (by decide))) | split | (dsimp only))
theorem fr_A_Y_clear_2 {w : z_Wd} {n : Nat} : z_fr [32] [] w (A_Y_clear_2 w n) := by
  induction n with
  | zero =>
    simp only [A_Y_clear_2]
    repeat' (first | (with_reducible exact fr_rf) | (with_reducible refine fr_up (by decide) ?_) | (with_reducible refine fr_uf (by decide) ?_) | (with_reducible refine fr_cp (by decide) ?_) | split | (dsimp only))
  | succ n ih =>
    simp only [A_Y_clear_2]
    repeat' (first | (with_reducible exact fr_rf) | (with_reducible exact ih) | (with_reducible refine fr_up (by decide) ?_) | (with_reducible refine fr_uf (by decide) ?_) | (with_reducible refine fr_cp (by decide) ?_) | split | (dsimp only))
theorem fr_F_Y_clear {w : z_Wd} : z_fr [31, 32] [] w (F_Y_clear w) := by
  unfold F_Y_clear
  repeat' (first | (with_reducible exact fr_rf) | (with_reducible refine fr_up (by decide) ?_) | (with_reducible refine fr_uf (by decide) ?_) | (with_reducible refine fr_cp (by decide) ?_) | (with_reducible refine fr_tr ?_ (fr_wk fr_A_Y_clear_2 (by decide) (by decide))) | (with_reducible refine fr_tr ?_ (fr_wk fr_F_Y_setUsual (by decide) (by decide))) | split | (dsimp only))
theorem fr_F_Y_open {w : z_Wd} {a0 : Int} : z_fr [31, 32] [] w (F_Y_open w a0).2 := by
  unfold F_Y_open
  repeat' (first | (with_reducible exact fr_rf) | (with_reducible refine fr_up (by decide) ?_) | (with_reducible refine fr_uf (by decide) ?_) | (with_reducible refine fr_cp (by decide) ?_) | (with_reducible refine fr_tr ?_ (fr_wk fr_F_Y_setUsual (by decide) (by decide))) | split | (dsimp only))
theorem fr_F_YR_step {w : z_Wd} : z_fr [] [(33, 2)] w (F_YR_step w) := by
  unfold F_YR_step
  repeat' (first | (with_reducible exact fr_rf) | (with_reducible refine fr_up (by decide) ?_) | (with_reducible refine fr_uf (by decide) ?_) | (with_reducible refine fr_cp (by decide) ?_) | split | (dsimp only))
theorem fr_F_YR_readNumber {w : z_Wd} {a0 : Int} {a1 : Int} : z_fr [35] [(33, 2)] w (F_YR_readNumber w a0 a1).2 := by
  unfold F_YR_readNumber
  repeat' (first | (with_reducible exact fr_rf) | (with_reducible refine fr_up (by decide) ?_) | (with_reducible refine fr_uf (by decide) ?_) | (with_reducible refine fr_cp (by decide) ?_) | (with_reducible refine fr_tr ?_ (fr_wk fr_F_YR_step (by decide) (by decide))) | (with_reducible refine fr_tr ?_ (fr_wk fr_F_Y_tellLatest_34 (by decide) (by decide))) | split | (dsimp only))
theorem fr_A_N_setUp_2 {w : z_Wd} {a0 : Int} {n : Nat} : z_fr [77] [] w (A_N_setUp_2 w a0 n) := by
  induction n with
  | zero =>
    simp only [A_N_setUp_2]
    repeat' (first | (with_reducible exact fr_rf) | (with_reducible refine fr_up (by decide) ?_) | (with_reducible refine fr_uf (by decide) ?_) | (with_reducible refine fr_cp (by decide) ?_) | split | (dsimp only))
  | succ n ih =>
    simp only [A_N_setUp_2]
    repeat' (first | (with_reducible exact fr_rf) | (with_reducible exact ih) | (with_reducible refine fr_up (by decide) ?_) | (with_reducible refine fr_uf (by decide) ?_) | (with_reducible refine fr_cp (by decide) ?_) | split | (dsimp only))
theorem fr_F_N_setUp {w : z_Wd} {a0 : Int} : z_fr [77] [] w (F_N_setUp w a0) := by
  unfold F_N_setUp
  repeat' (first | (with_reducible exact fr_rf) | (with_reducible refine fr_up (by decide) ?_) | (with_reducible refine fr_uf (by decide) ?_) | (with_reducible refine fr_cp (by decide) ?_) | (with_reducible refine fr_tr ?_ (fr_wk fr_A_N_setUp_2 (by decide) (by decide))) | split | (dsimp only))
theorem fr_F_D_dip {w : z_Wd} {a0 : Int} {a1 : Int} : z_fr [42, 43, 54, 78] [(53, 1), (53, 2)] w (F_D_dip w a0 a1).2 := by
  unfold F_D_dip
  repeat' (first | (with_reducible exact fr_rf) | (with_reducible refine fr_up (by decide) ?_) | (with_reducible refine fr_uf (by decide) ?_) | (with_reducible refine fr_cp (by decide) ?_) | (with_reducible refine fr_tr ?_ (fr_wk fr_F_D_refuse (by decide) (by decide))) | (with_reducible refine fr_tr ?_ (fr_wk fr_F_H_keep_41 (by decide) (by decide))) | (with_reducible refine fr_tr ?_ (fr_wk fr_F_K_drown (by decide) (by decide))) | split | (dsimp only))
theorem fr_F_D_fill {w : z_Wd} {a0 : Int} : z_fr [44, 54, 78] [(41, 6), (53, 1), (53, 2)] w (F_D_fill w a0).2 := by
  unfold F_D_fill
  repeat' (first | (with_reducible exact fr_rf) | (with_reducible refine fr_up (by decide) ?_) | (with_reducible refine fr_uf (by decide) ?_) | (with_reducible refine fr_cp (by decide) ?_) | (with_reducible refine fr_tr ?_ (fr_wk fr_F_D_refuse (by decide) (by decide))) | (with_reducible refine fr_tr ?_ (fr_wk fr_F_H_keep_41 (by decide) (by decide))) | (with_reducible refine fr_tr ?_ (fr_wk fr_F_K_deepen (by decide) (by decide))) | (with_reducible refine fr_tr ?_ (fr_wk fr_F_K_pay (by decide) (by decide))) | split | (dsimp only))
theorem fr_F_D_give {w : z_Wd} {a0 : Int} : z_fr [54, 78] [(41, 6), (53, 1), (53, 2)] w (F_D_give w a0).2 := by
  unfold F_D_give
  repeat' (first | (with_reducible exact fr_rf) | (with_reducible refine fr_up (by decide) ?_) | (with_reducible refine fr_uf (by decide) ?_) | (with_reducible refine fr_cp (by decide) ?_) | (with_reducible refine fr_tr ?_ (fr_wk fr_F_D_refuse (by decide) (by decide))) | (with_reducible refine fr_tr ?_ (fr_wk fr_F_H_keep_41 (by decide) (by decide))) | (with_reducible refine fr_tr ?_ (fr_wk fr_F_K_earn (by decide) (by decide))) | split | (dsimp only))
theorem fr_F_D_dipByDraws {w : z_Wd} : z_fr [42, 43] [(27, 14)] w (F_D_dipByDraws w) := by
  unfold F_D_dipByDraws
  repeat' (first | (with_reducible exact fr_rf) | (with_reducible refine fr_up (by decide) ?_) | (with_reducible refine fr_uf (by decide) ?_) | (with_reducible refine fr_cp (by decide) ?_) | (with_reducible refine fr_tr ?_ (fr_wk fr_F_D_draw (by decide) (by decide))) | (with_reducible refine fr_tr ?_ (fr_wk fr_F_K_drown (by decide) (by decide))) | split | (dsimp only))
theorem fr_F_D_undo {w : z_Wd} : z_fr [42, 43, 44] [(41, 6), (41, 7), (41, 8), (53, 1), (53, 2)] w (F_D_undo w).2 := by
  unfold F_D_undo
  repeat' (first | (with_reducible exact fr_rf) | (with_reducible refine fr_up (by decide) ?_) | (with_reducible refine fr_uf (by decide) ?_) | (with_reducible refine fr_cp (by decide) ?_) | (with_reducible refine fr_tr ?_ (fr_wk fr_F_H_takeBack_41 (by decide) (by decide))) | split | (dsimp only))
theorem fr_F_D_seen {w : z_Wd} {a0 : Int} {a1 : Int} : z_fr [73, 74] [(72, 4)] w (F_D_seen w a0 a1).2 := by
  unfold F_D_seen
  repeat' (first | (with_reducible exact fr_rf) | (with_reducible refine fr_up (by decide) ?_) | (with_reducible refine fr_uf (by decide) ?_) | (with_reducible refine fr_cp (by decide) ?_) | (with_reducible refine fr_tr ?_ (fr_wk fr_F_C_note (by decide) (by decide))) | split | (dsimp only))
theorem fr_F_D_game {w : z_Wd} {a0 : Int} {a1 : Int} {a2 : Int} {a3 : Int} {a4 : Int} {a5 : Int} : z_fr [77] [] w (F_D_game w a0 a1 a2 a3 a4 a5).2 := by
  unfold F_D_game
  repeat' (first | (with_reducible exact fr_rf) | (with_reducible refine fr_up (by decide) ?_) | (with_reducible refine fr_uf (by decide) ?_) | (with_reducible refine fr_cp (by decide) ?_) | (with_reducible refine fr_tr ?_ (fr_wk fr_F_N_setUp (by decide) (by decide))) | split | (dsimp only))
theorem fr_F_D_image {w : z_Wd} : z_fr [48, 49, 50, 51, 52] [(27, 13), (47, 6), (47, 7), (47, 8)] w (F_D_image w).2 := by
  unfold F_D_image
  repeat' (first | (with_reducible exact fr_rf) | (with_reducible refine fr_up (by decide) ?_) | (with_reducible refine fr_uf (by decide) ?_) | (with_reducible refine fr_cp (by decide) ?_) | (with_reducible refine fr_tr ?_ (fr_wk fr_F_K_copyFrom_47_41 (by decide) (by decide))) | split | (dsimp only))
theorem fr_F_D_back {w : z_Wd} : z_fr [42, 43, 44, 45, 46] [(41, 6), (41, 7), (41, 8), (53, 2)] w (F_D_back w).2 := by
  unfold F_D_back
  repeat' (first | (with_reducible exact fr_rf) | (with_reducible refine fr_up (by decide) ?_) | (with_reducible refine fr_uf (by decide) ?_) | (with_reducible refine fr_cp (by decide) ?_) | (with_reducible refine fr_tr ?_ (fr_wk fr_F_H_forget (by decide) (by decide))) | (with_reducible refine fr_tr ?_ (fr_wk fr_F_K_copyFrom_47 (by decide) (by decide))) | split | (dsimp only))
theorem fr_A_Y_clear_34_2 {w : z_Wd} {n : Nat} : z_fr [36] [] w (A_Y_clear_34_2 w n) := by
  induction n with
  | zero =>
    simp only [A_Y_clear_34_2]
    repeat' (first | (with_reducible exact fr_rf) | (with_reducible refine fr_up (by decide) ?_) | (with_reducible refine fr_uf (by decide) ?_) | (with_reducible refine fr_cp (by decide) ?_) | split | (dsimp only))
  | succ n ih =>
    simp only [A_Y_clear_34_2]
    repeat' (first | (with_reducible exact fr_rf) | (with_reducible exact ih) | (with_reducible refine fr_up (by decide) ?_) | (with_reducible refine fr_uf (by decide) ?_) | (with_reducible refine fr_cp (by decide) ?_) | split | (dsimp only))
theorem fr_F_Y_clear_34 {w : z_Wd} : z_fr [35, 36] [] w (F_Y_clear_34 w) := by
  unfold F_Y_clear_34
  repeat' (first | (with_reducible exact fr_rf) | (with_reducible refine fr_up (by decide) ?_) | (with_reducible refine fr_uf (by decide) ?_) | (with_reducible refine fr_cp (by decide) ?_) | (with_reducible refine fr_tr ?_ (fr_wk fr_A_Y_clear_34_2 (by decide) (by decide))) | (with_reducible refine fr_tr ?_ (fr_wk fr_F_Y_setUsual_34 (by decide) (by decide))) | split | (dsimp only))
theorem fr_F_Y_open_34 {w : z_Wd} {a0 : Int} : z_fr [35, 36] [] w (F_Y_open_34 w a0).2 := by
  unfold F_Y_open_34
  repeat' (first | (with_reducible exact fr_rf) | (with_reducible refine fr_up (by decide) ?_) | (with_reducible refine fr_uf (by decide) ?_) | (with_reducible refine fr_cp (by decide) ?_) | (with_reducible refine fr_tr ?_ (fr_wk fr_F_Y_setUsual_34 (by decide) (by decide))) | split | (dsimp only))
theorem fr_F_G_pass_38 {w : z_Wd} : z_fr [59, 62, 65, 68] [(55, 4), (58, 2), (61, 2), (64, 2), (67, 2)] w (F_G_pass_38 w).2 := by
  unfold F_G_pass_38
  repeat' (first | (with_reducible exact fr_rf) | (with_reducible refine fr_up (by decide) ?_) | (with_reducible refine fr_uf (by decide) ?_) | (with_reducible refine fr_cp (by decide) ?_) | (with_reducible refine fr_tr ?_ (fr_wk fr_F_W_copyFrom_58_38 (by decide) (by decide))) | (with_reducible refine fr_tr ?_ (fr_wk fr_F_W_copyFrom_61_38 (by decide) (by decide))) | (with_reducible refine fr_tr ?_ (fr_wk fr_F_W_copyFrom_64_38 (by decide) (by decide))) | (with_reducible refine fr_tr ?_ (fr_wk fr_F_W_copyFrom_67_38 (by decide) (by decide))) | split | (dsimp only))
theorem fr_L_W_weigh_58_57_7 {w : z_Wd} : ∀ {n : Nat} {u0 : Int} {wu : z_Wd}, z_fr [60] [(58, 3)] w wu → z_fr [60] [(58, 3)] w (L_W_weigh_58_57_7 w n u0 wu).2 := by
  intro n
  induction n with
  | zero =>
    intro u0 wu h
    simp only [L_W_weigh_58_57_7]
    exact fr_rf
  | succ n ih =>
    intro u0 wu h
    simp only [L_W_weigh_58_57_7]
    repeat' (first | (with_reducible refine ih ?_) | (with_reducible exact fr_rf) | (with_reducible exact h) | (with_reducible refine fr_up (by decide) ?_) | (with_reducible refine fr_uf (by decide) ?_) | (with_reducible refine fr_cp (by decide) ?_) | (with_reducible refine fr_tr ?_ (fr_wk fr_F_W_pop_58 (by decide) (by decide))) | (with_reducible refine fr_tr ?_ (fr_wk fr_F_W_push_58 (by decide) (by decide))) | split | (dsimp only))
theorem fr_F_W_weigh_58_57 {w : z_Wd} : z_fr [60] [(58, 3)] w (F_W_weigh_58_57 w).2 := by
  unfold F_W_weigh_58_57
  repeat' (first | (with_reducible exact fr_rf) | (with_reducible refine fr_up (by decide) ?_) | (with_reducible refine fr_uf (by decide) ?_) | (with_reducible refine fr_cp (by decide) ?_) | (with_reducible refine fr_L_W_weigh_58_57_7 (fun _ _ => ih _ _) ?_) | split | (dsimp only))
theorem fr_L_W_weigh_61_57_7 {w : z_Wd} : ∀ {n : Nat} {u0 : Int} {wu : z_Wd}, z_fr [63] [(61, 3)] w wu → z_fr [63] [(61, 3)] w (L_W_weigh_61_57_7 w n u0 wu).2 := by
  intro n
  induction n with
  | zero =>
    intro u0 wu h
    simp only [L_W_weigh_61_57_7]
    exact fr_rf
  | succ n ih =>
    intro u0 wu h
    simp only [L_W_weigh_61_57_7]
    repeat' (first | (with_reducible refine ih ?_) | (with_reducible exact fr_rf) | (with_reducible exact h) | (with_reducible refine fr_up (by decide) ?_) | (with_reducible refine fr_uf (by decide) ?_) | (with_reducible refine fr_cp (by decide) ?_) | (with_reducible refine fr_tr ?_ (fr_wk fr_F_W_pop_61 (by decide) (by decide))) | (with_reducible refine fr_tr ?_ (fr_wk fr_F_W_push_61 (by decide) (by decide))) | split | (dsimp only))
theorem fr_F_W_weigh_61_57 {w : z_Wd} : z_fr [63] [(61, 3)] w (F_W_weigh_61_57 w).2 := by
  unfold F_W_weigh_61_57
  repeat' (first | (with_reducible exact fr_rf) | (with_reducible refine fr_up (by decide) ?_) | (with_reducible refine fr_uf (by decide) ?_) | (with_reducible refine fr_cp (by decide) ?_) | (with_reducible refine fr_L_W_weigh_61_57_7 (fun _ _ => ih _ _) ?_) | split | (dsimp only))
theorem fr_L_W_weigh_64_57_7 {w : z_Wd} : ∀ {n : Nat} {u0 : Int} {wu : z_Wd}, z_fr [66] [(64, 3)] w wu → z_fr [66] [(64, 3)] w (L_W_weigh_64_57_7 w n u0 wu).2 := by
  intro n
  induction n with
  | zero =>
    intro u0 wu h
    simp only [L_W_weigh_64_57_7]
    exact fr_rf
  | succ n ih =>
    intro u0 wu h
    simp only [L_W_weigh_64_57_7]
    repeat' (first | (with_reducible refine ih ?_) | (with_reducible exact fr_rf) | (with_reducible exact h) | (with_reducible refine fr_up (by decide) ?_) | (with_reducible refine fr_uf (by decide) ?_) | (with_reducible refine fr_cp (by decide) ?_) | (with_reducible refine fr_tr ?_ (fr_wk fr_F_W_pop_64 (by decide) (by decide))) | (with_reducible refine fr_tr ?_ (fr_wk fr_F_W_push_64 (by decide) (by decide))) | split | (dsimp only))
theorem fr_F_W_weigh_64_57 {w : z_Wd} : z_fr [66] [(64, 3)] w (F_W_weigh_64_57 w).2 := by
  unfold F_W_weigh_64_57
  repeat' (first | (with_reducible exact fr_rf) | (with_reducible refine fr_up (by decide) ?_) | (with_reducible refine fr_uf (by decide) ?_) | (with_reducible refine fr_cp (by decide) ?_) | (with_reducible refine fr_L_W_weigh_64_57_7 (fun _ _ => ih _ _) ?_) | split | (dsimp only))
theorem fr_L_W_weigh_67_57_7 {w : z_Wd} : ∀ {n : Nat} {u0 : Int} {wu : z_Wd}, z_fr [69] [(67, 3)] w wu → z_fr [69] [(67, 3)] w (L_W_weigh_67_57_7 w n u0 wu).2 := by
  intro n
  induction n with
  | zero =>
    intro u0 wu h
    simp only [L_W_weigh_67_57_7]
    exact fr_rf
  | succ n ih =>
    intro u0 wu h
    simp only [L_W_weigh_67_57_7]
    repeat' (first | (with_reducible refine ih ?_) | (with_reducible exact fr_rf) | (with_reducible exact h) | (with_reducible refine fr_up (by decide) ?_) | (with_reducible refine fr_uf (by decide) ?_) | (with_reducible refine fr_cp (by decide) ?_) | (with_reducible refine fr_tr ?_ (fr_wk fr_F_W_pop_67 (by decide) (by decide))) | (with_reducible refine fr_tr ?_ (fr_wk fr_F_W_push_67 (by decide) (by decide))) | split | (dsimp only))
theorem fr_F_W_weigh_67_57 {w : z_Wd} : z_fr [69] [(67, 3)] w (F_W_weigh_67_57 w).2 := by
  unfold F_W_weigh_67_57
  repeat' (first | (with_reducible exact fr_rf) | (with_reducible refine fr_up (by decide) ?_) | (with_reducible refine fr_uf (by decide) ?_) | (with_reducible refine fr_cp (by decide) ?_) | (with_reducible refine fr_L_W_weigh_67_57_7 (fun _ _ => ih _ _) ?_) | split | (dsimp only))
theorem fr_A_C_bestFile_7 {w : z_Wd} {a0 : Int} {n : Nat} : z_fr [75] [] w (A_C_bestFile_7 w a0 n).2.2 := by
  induction n with
  | zero =>
    simp only [A_C_bestFile_7]
    repeat' (first | (with_reducible exact fr_rf) | (with_reducible refine fr_up (by decide) ?_) | (with_reducible refine fr_uf (by decide) ?_) | (with_reducible refine fr_cp (by decide) ?_) | (with_reducible refine fr_tr ?_ (fr_wk fr_F_C_mostOfASort (by decide) (by decide))) | split | (dsimp only))
  | succ n ih =>
    simp only [A_C_bestFile_7]
    repeat' (first | (with_reducible exact fr_rf) | (with_reducible exact ih) | (with_reducible refine fr_up (by decide) ?_) | (with_reducible refine fr_uf (by decide) ?_) | (with_reducible refine fr_cp (by decide) ?_) | (with_reducible refine fr_tr ?_ (fr_wk fr_F_C_mostOfASort (by decide) (by decide))) | split | (dsimp only))
theorem fr_F_C_bestFile {w : z_Wd} {a0 : Int} : z_fr [75] [] w (F_C_bestFile w a0).2 := by
  unfold F_C_bestFile
  repeat' (first | (with_reducible exact fr_rf) | (with_reducible refine fr_up (by decide) ?_) | (with_reducible refine fr_uf (by decide) ?_) | (with_reducible refine fr_cp (by decide) ?_) | (with_reducible refine fr_tr ?_ (fr_wk fr_A_C_bestFile_7 (by decide) (by decide))) | split | (dsimp only))
theorem fr_F_G_missedIn {w : z_Wd} {a0 : Int} {a1 : Int} {a2 : Int} {a3 : Int} : z_fr [57, 60, 63, 66, 69] [(58, 3), (61, 3), (64, 3), (67, 3)] w (F_G_missedIn w a0 a1 a2 a3).2 := by
  unfold F_G_missedIn
  repeat' (first | (with_reducible exact fr_rf) | (with_reducible refine fr_up (by decide) ?_) | (with_reducible refine fr_uf (by decide) ?_) | (with_reducible refine fr_cp (by decide) ?_) | (with_reducible refine fr_tr ?_ (fr_wk fr_F_W_weigh_58_57 (by decide) (by decide))) | (with_reducible refine fr_tr ?_ (fr_wk fr_F_W_weigh_61_57 (by decide) (by decide))) | (with_reducible refine fr_tr ?_ (fr_wk fr_F_W_weigh_64_57 (by decide) (by decide))) | (with_reducible refine fr_tr ?_ (fr_wk fr_F_W_weigh_67_57 (by decide) (by decide))) | split | (dsimp only))
theorem fr_A_G_withoutThese_28 {w : z_Wd} {a0 : Int} {n : Nat} : z_fr [57, 60, 63, 66, 69] [(58, 3), (61, 3), (64, 3), (67, 3)] w (A_G_withoutThese_28 w a0 n).2 := by
  induction n with
  | zero =>
    simp only [A_G_withoutThese_28]
    repeat' (first | (with_reducible exact fr_rf) | (with_reducible refine fr_up (by decide) ?_) | (with_reducible refine fr_uf (by decide) ?_) | (with_reducible refine fr_cp (by decide) ?_) | (with_reducible refine fr_tr ?_ (fr_wk fr_F_G_missedIn (by decide) (by decide))) | split | (dsimp only))
  | succ n ih =>
    simp only [A_G_withoutThese_28]
    repeat' (first | (with_reducible exact fr_rf) | (with_reducible exact ih) | (with_reducible refine fr_up (by decide) ?_) | (with_reducible refine fr_uf (by decide) ?_) | (with_reducible refine fr_cp (by decide) ?_) | (with_reducible refine fr_tr ?_ (fr_wk fr_F_G_missedIn (by decide) (by decide))) | split | (dsimp only))
theorem fr_F_G_withoutThese {w : z_Wd} {a0 : Int} : z_fr [57, 60, 63, 66, 69] [(58, 3), (61, 3), (64, 3), (67, 3)] w (F_G_withoutThese w a0).2 := by
  unfold F_G_withoutThese
  repeat' (first | (with_reducible exact fr_rf) | (with_reducible refine fr_up (by decide) ?_) | (with_reducible refine fr_uf (by decide) ?_) | (with_reducible refine fr_cp (by decide) ?_) | (with_reducible refine fr_tr ?_ (fr_wk fr_A_G_withoutThese_28 (by decide) (by decide))) | split | (dsimp only))
theorem fr_A_G_amnesty_17 {w : z_Wd} {n : Nat} : z_fr [57, 60, 63, 66, 69] [(58, 3), (61, 3), (64, 3), (67, 3)] w (A_G_amnesty_17 w n).2.2 := by
  induction n with
  | zero =>
    simp only [A_G_amnesty_17]
    repeat' (first | (with_reducible exact fr_rf) | (with_reducible refine fr_up (by decide) ?_) | (with_reducible refine fr_uf (by decide) ?_) | (with_reducible refine fr_cp (by decide) ?_) | (with_reducible refine fr_tr ?_ (fr_wk fr_F_G_withoutThese (by decide) (by decide))) | split | (dsimp only))
  | succ n ih =>
    simp only [A_G_amnesty_17]
    repeat' (first | (with_reducible exact fr_rf) | (with_reducible exact ih) | (with_reducible refine fr_up (by decide) ?_) | (with_reducible refine fr_uf (by decide) ?_) | (with_reducible refine fr_cp (by decide) ?_) | (with_reducible refine fr_tr ?_ (fr_wk fr_F_G_withoutThese (by decide) (by decide))) | split | (dsimp only))
theorem fr_F_G_amnesty {w : z_Wd} : z_fr [57, 60, 63, 66, 69] [(58, 3), (61, 3), (64, 3), (67, 3)] w (F_G_amnesty w).2 := by
  unfold F_G_amnesty
  repeat' (first | (with_reducible exact fr_rf) | (with_reducible refine fr_up (by decide) ?_) | (with_reducible refine fr_uf (by decide) ?_) | (with_reducible refine fr_cp (by decide) ?_) | (with_reducible refine fr_tr ?_ (fr_wk fr_A_G_amnesty_17 (by decide) (by decide))) | (with_reducible refine fr_tr ?_ (fr_wk fr_F_G_withoutThese (by decide) (by decide))) | split | (dsimp only))
theorem fr_F_K_scratchUp {w : z_Wd} {a0 : Int} {a1 : Int} : z_fr [42, 43] [] w (F_K_scratchUp w a0 a1).2 := by
  unfold F_K_scratchUp
  repeat' (first | (with_reducible exact fr_rf) | (with_reducible refine fr_up (by decide) ?_) | (with_reducible refine fr_uf (by decide) ?_) | (with_reducible refine fr_cp (by decide) ?_) | (with_reducible refine fr_tr ?_ (fr_wk fr_F_K_lift (by decide) (by decide))) | split | (dsimp only))
theorem fr_F_K_liftUppermost {w : z_Wd} {a0 : Int} : z_fr [42, 43] [] w (F_K_liftUppermost w a0).2 := by
  unfold F_K_liftUppermost
  repeat' (first | (with_reducible exact fr_rf) | (with_reducible refine fr_up (by decide) ?_) | (with_reducible refine fr_uf (by decide) ?_) | (with_reducible refine fr_cp (by decide) ?_) | (with_reducible refine fr_tr ?_ (fr_wk fr_F_K_lift (by decide) (by decide))) | split | (dsimp only))
theorem fr_A_K_liftAll_4 {w : z_Wd} {a0 : Int} {n : Nat} : z_fr [42, 43] [] w (A_K_liftAll_4 w a0 n).2 := by
  induction n with
  | zero =>
    simp only [A_K_liftAll_4]
    repeat' (first | (with_reducible exact fr_rf) | (with_reducible refine fr_up (by decide) ?_) | (with_reducible refine fr_uf (by decide) ?_) | (with_reducible refine fr_cp (by decide) ?_) | (with_reducible refine fr_tr ?_ (fr_wk fr_F_K_lift (by decide) (by decide))) | split | (dsimp only))
  | succ n ih =>
    simp only [A_K_liftAll_4]
    repeat' (first | (with_reducible exact fr_rf) | (with_reducible exact ih) | (with_reducible refine fr_up (by decide) ?_) | (with_reducible refine fr_uf (by decide) ?_) | (with_reducible refine fr_cp (by decide) ?_) | (with_reducible refine fr_tr ?_ (fr_wk fr_F_K_lift (by decide) (by decide))) | split | (dsimp only))
theorem fr_F_K_liftAll {w : z_Wd} {a0 : Int} : z_fr [42, 43] [] w (F_K_liftAll w a0).2 := by
  unfold F_K_liftAll
  repeat' (first | (with_reducible exact fr_rf) | (with_reducible refine fr_up (by decide) ?_) | (with_reducible refine fr_uf (by decide) ?_) | (with_reducible refine fr_cp (by decide) ?_) | (with_reducible refine fr_tr ?_ (fr_wk fr_A_K_liftAll_4 (by decide) (by decide))) | split | (dsimp only))
theorem fr_A_YR_readClause_41 {w : z_Wd} {n : Nat} : z_fr [35, 36] [(33, 2)] w (A_YR_readClause_41 w n).2 := by
  induction n with
  | zero =>
    simp only [A_YR_readClause_41]
    repeat' (first | (with_reducible exact fr_rf) | (with_reducible refine fr_up (by decide) ?_) | (with_reducible refine fr_uf (by decide) ?_) | (with_reducible refine fr_cp (by decide) ?_) | (with_reducible refine fr_tr ?_ (fr_wk fr_F_YR_readNumber (by decide) (by decide))) | (with_reducible refine fr_tr ?_ (fr_wk fr_F_YR_step (by decide) (by decide))) | (with_reducible refine fr_tr ?_ (fr_wk fr_F_Y_open_34 (by decide) (by decide))) | split | (dsimp only))
  | succ n ih =>
    simp only [A_YR_readClause_41]
    repeat' (first | (with_reducible exact fr_rf) | (with_reducible exact ih) | (with_reducible refine fr_up (by decide) ?_) | (with_reducible refine fr_uf (by decide) ?_) | (with_reducible refine fr_cp (by decide) ?_) | (with_reducible refine fr_tr ?_ (fr_wk fr_F_YR_readNumber (by decide) (by decide))) | (with_reducible refine fr_tr ?_ (fr_wk fr_F_YR_step (by decide) (by decide))) | (with_reducible refine fr_tr ?_ (fr_wk fr_F_Y_open_34 (by decide) (by decide))) | split | (dsimp only))
theorem fr_R_YR_readClause_41 {w : z_Wd} {i15 : Nat} : z_fr [35, 36] [(33, 2)] w (R_YR_readClause_41 w i15).2 := by
  unfold R_YR_readClause_41
  repeat' (first | (with_reducible exact fr_rf) | (with_reducible refine fr_up (by decide) ?_) | (with_reducible refine fr_uf (by decide) ?_) | (with_reducible refine fr_cp (by decide) ?_) | (with_reducible refine fr_tr ?_ (fr_wk fr_A_YR_readClause_41 (by decide) (by decide))) | (with_reducible refine fr_tr ?_ (fr_wk fr_F_YR_readNumber (by decide) (by decide))) | (with_reducible refine fr_tr ?_ (fr_wk fr_F_YR_step (by decide) (by decide))) | split | (dsimp only))
theorem fr_F_YR_readClause {w : z_Wd} : z_fr [35, 36] [(33, 2)] w (F_YR_readClause w).2 := by
  unfold F_YR_readClause
  repeat' (first | (with_reducible exact fr_rf) | (with_reducible refine fr_up (by decide) ?_) | (with_reducible refine fr_uf (by decide) ?_) | (with_reducible refine fr_cp (by decide) ?_) | (with_reducible refine fr_tr ?_ (fr_wk fr_A_YR_readClause_41 (by decide) (by decide))) | (with_reducible refine fr_tr ?_ (fr_wk fr_F_Y_open_34 (by decide) (by decide))) | (with_reducible refine fr_tr ?_ (fr_wk fr_R_YR_readClause_41 (by decide) (by decide))) | split | (dsimp only))
theorem fr_F_D_scratch {w : z_Wd} {a0 : Int} {a1 : Int} : z_fr [42, 43, 54, 78] [(53, 1), (53, 2)] w (F_D_scratch w a0 a1).2 := by
  unfold F_D_scratch
  repeat' (first | (with_reducible exact fr_rf) | (with_reducible refine fr_up (by decide) ?_) | (with_reducible refine fr_uf (by decide) ?_) | (with_reducible refine fr_cp (by decide) ?_) | (with_reducible refine fr_tr ?_ (fr_wk fr_F_D_refuse (by decide) (by decide))) | (with_reducible refine fr_tr ?_ (fr_wk fr_F_H_keep_41 (by decide) (by decide))) | (with_reducible refine fr_tr ?_ (fr_wk fr_F_K_scratchUp (by decide) (by decide))) | split | (dsimp only))
theorem fr_F_D_blot {w : z_Wd} {a0 : Int} : z_fr [42, 43, 54, 78] [(41, 6), (53, 1), (53, 2)] w (F_D_blot w a0).2 := by
  unfold F_D_blot
  repeat' (first | (with_reducible exact fr_rf) | (with_reducible refine fr_up (by decide) ?_) | (with_reducible refine fr_uf (by decide) ?_) | (with_reducible refine fr_cp (by decide) ?_) | (with_reducible refine fr_tr ?_ (fr_wk fr_F_D_refuse (by decide) (by decide))) | (with_reducible refine fr_tr ?_ (fr_wk fr_F_H_keep_41 (by decide) (by decide))) | (with_reducible refine fr_tr ?_ (fr_wk fr_F_K_liftUppermost (by decide) (by decide))) | (with_reducible refine fr_tr ?_ (fr_wk fr_F_K_pay (by decide) (by decide))) | split | (dsimp only))
theorem fr_F_D_water {w : z_Wd} {a0 : Int} : z_fr [42, 43, 54, 78] [(41, 6), (53, 1), (53, 2)] w (F_D_water w a0).2 := by
  unfold F_D_water
  repeat' (first | (with_reducible exact fr_rf) | (with_reducible refine fr_up (by decide) ?_) | (with_reducible refine fr_uf (by decide) ?_) | (with_reducible refine fr_cp (by decide) ?_) | (with_reducible refine fr_tr ?_ (fr_wk fr_F_D_refuse (by decide) (by decide))) | (with_reducible refine fr_tr ?_ (fr_wk fr_F_H_keep_41 (by decide) (by decide))) | (with_reducible refine fr_tr ?_ (fr_wk fr_F_K_liftAll (by decide) (by decide))) | (with_reducible refine fr_tr ?_ (fr_wk fr_F_K_pay (by decide) (by decide))) | split | (dsimp only))
theorem fr_F_D_scratchByDraws {w : z_Wd} : z_fr [42, 43] [(27, 14)] w (F_D_scratchByDraws w) := by
  unfold F_D_scratchByDraws
  repeat' (first | (with_reducible exact fr_rf) | (with_reducible refine fr_up (by decide) ?_) | (with_reducible refine fr_uf (by decide) ?_) | (with_reducible refine fr_cp (by decide) ?_) | (with_reducible refine fr_tr ?_ (fr_wk fr_F_D_draw (by decide) (by decide))) | (with_reducible refine fr_tr ?_ (fr_wk fr_F_K_scratchUp (by decide) (by decide))) | split | (dsimp only))
theorem fr_F_D_ask {w : z_Wd} {a0 : Int} : z_fr [75] [] w (F_D_ask w a0).2 := by
  unfold F_D_ask
  repeat' (first | (with_reducible exact fr_rf) | (with_reducible refine fr_up (by decide) ?_) | (with_reducible refine fr_uf (by decide) ?_) | (with_reducible refine fr_cp (by decide) ?_) | (with_reducible refine fr_tr ?_ (fr_wk fr_F_C_bestFile (by decide) (by decide))) | split | (dsimp only))
theorem fr_F_G_missed {w : z_Wd} {a0 : Int} : z_fr [57, 60, 63, 66, 69] [(58, 3), (61, 3), (64, 3), (67, 3)] w (F_G_missed w a0).2 := by
  unfold F_G_missed
  repeat' (first | (with_reducible exact fr_rf) | (with_reducible refine fr_up (by decide) ?_) | (with_reducible refine fr_uf (by decide) ?_) | (with_reducible refine fr_cp (by decide) ?_) | (with_reducible refine fr_tr ?_ (fr_wk fr_F_G_missedIn (by decide) (by decide))) | split | (dsimp only))
theorem fr_F_G_ofDrowned {w : z_Wd} : z_fr [57, 60, 63, 66, 69] [(58, 3), (61, 3), (64, 3), (67, 3)] w (F_G_ofDrowned w).2 := by
  unfold F_G_ofDrowned
  repeat' (first | (with_reducible exact fr_rf) | (with_reducible refine fr_up (by decide) ?_) | (with_reducible refine fr_uf (by decide) ?_) | (with_reducible refine fr_cp (by decide) ?_) | (with_reducible refine fr_tr ?_ (fr_wk fr_F_G_withoutThese (by decide) (by decide))) | split | (dsimp only))
theorem fr_A_G_leastMissed_6 {w : z_Wd} {n : Nat} : z_fr [57, 60, 63, 66, 69] [(58, 3), (61, 3), (64, 3), (67, 3)] w (A_G_leastMissed_6 w n).2.2 := by
  induction n with
  | zero =>
    simp only [A_G_leastMissed_6]
    repeat' (first | (with_reducible exact fr_rf) | (with_reducible refine fr_up (by decide) ?_) | (with_reducible refine fr_uf (by decide) ?_) | (with_reducible refine fr_cp (by decide) ?_) | (with_reducible refine fr_tr ?_ (fr_wk fr_F_G_missedIn (by decide) (by decide))) | split | (dsimp only))
  | succ n ih =>
    simp only [A_G_leastMissed_6]
    repeat' (first | (with_reducible exact fr_rf) | (with_reducible exact ih) | (with_reducible refine fr_up (by decide) ?_) | (with_reducible refine fr_uf (by decide) ?_) | (with_reducible refine fr_cp (by decide) ?_) | (with_reducible refine fr_tr ?_ (fr_wk fr_F_G_missedIn (by decide) (by decide))) | split | (dsimp only))
theorem fr_F_G_leastMissed {w : z_Wd} : z_fr [57, 60, 63, 66, 69] [(58, 3), (61, 3), (64, 3), (67, 3)] w (F_G_leastMissed w).2 := by
  unfold F_G_leastMissed
  repeat' (first | (with_reducible exact fr_rf) | (with_reducible refine fr_up (by decide) ?_) | (with_reducible refine fr_uf (by decide) ?_) | (with_reducible refine fr_cp (by decide) ?_) | (with_reducible refine fr_tr ?_ (fr_wk fr_A_G_leastMissed_6 (by decide) (by decide))) | split | (dsimp only))
theorem fr_F_G_yearsUntil {w : z_Wd} {a0 : Int} : z_fr [57, 60, 63, 66, 69] [(58, 3), (61, 3), (64, 3), (67, 3)] w (F_G_yearsUntil w a0).2 := by
  unfold F_G_yearsUntil
  repeat' (first | (with_reducible exact fr_rf) | (with_reducible refine fr_up (by decide) ?_) | (with_reducible refine fr_uf (by decide) ?_) | (with_reducible refine fr_cp (by decide) ?_) | (with_reducible refine fr_tr ?_ (fr_wk fr_F_G_ofDrowned (by decide) (by decide))) | split | (dsimp only))
theorem fr_L_YR_read_23 {w : z_Wd} : ∀ {n : Nat} {u0 : Int} {u1 : Int} {wu : z_Wd}, z_fr [35, 36] [(33, 2)] w wu → z_fr [35, 36] [(33, 2)] w (L_YR_read_23 w n u0 u1 wu).2 := by
  intro n
  induction n with
  | zero =>
    intro u0 u1 wu h
    simp only [L_YR_read_23]
    exact fr_rf
  | succ n ih =>
    intro u0 u1 wu h
    simp only [L_YR_read_23]
    repeat' (first | (with_reducible refine ih ?_) | (with_reducible exact fr_rf) | (with_reducible exact h) | (with_reducible refine fr_up (by decide) ?_) | (with_reducible refine fr_uf (by decide) ?_) | (with_reducible refine fr_cp (by decide) ?_) | (with_reducible refine fr_tr ?_ (fr_wk fr_F_YR_readClause (by decide) (by decide))) | (with_reducible refine fr_tr ?_ (fr_wk fr_F_YR_step (by decide) (by decide))) | split | (dsimp only))
theorem fr_F_YR_read {w : z_Wd} : z_fr [35, 36] [(33, 2)] w (F_YR_read w).2 := by
  unfold F_YR_read
  repeat' (first | (with_reducible exact fr_rf) | (with_reducible refine fr_up (by decide) ?_) | (with_reducible refine fr_uf (by decide) ?_) | (with_reducible refine fr_cp (by decide) ?_) | (with_reducible refine fr_tr ?_ (fr_wk fr_F_Y_clear_34 (by decide) (by decide))) | (with_reducible refine fr_L_YR_read_23 (fun _ _ => ih _ _) ?_) | split | (dsimp only))
theorem fr_F_D_foundMinistry {w : z_Wd} : z_fr [31, 32, 35, 36, 42, 43, 44] [(27, 13), (28, 1), (33, 2), (41, 6), (41, 7), (41, 8), (53, 2), (72, 4)] w (F_D_foundMinistry w).2 := by
  unfold F_D_foundMinistry
  repeat' (first | (with_reducible exact fr_rf) | (with_reducible refine fr_up (by decide) ?_) | (with_reducible refine fr_uf (by decide) ?_) | (with_reducible refine fr_cp (by decide) ?_) | (with_reducible refine fr_tr ?_ (fr_wk fr_F_C_forget (by decide) (by decide))) | (with_reducible refine fr_tr ?_ (fr_wk fr_F_H_forget (by decide) (by decide))) | (with_reducible refine fr_tr ?_ (fr_wk fr_F_K_start (by decide) (by decide))) | (with_reducible refine fr_tr ?_ (fr_wk fr_F_T_cut (by decide) (by decide))) | (with_reducible refine fr_tr ?_ (fr_wk fr_F_YR_read (by decide) (by decide))) | (with_reducible refine fr_tr ?_ (fr_wk fr_F_Y_copyFrom_34 (by decide) (by decide))) | split | (dsimp only))
theorem fr_A_D_years_59 {w : z_Wd} {a0 : Int} {n : Nat} : z_fr [45, 46, 54, 57, 60, 63, 66, 69] [(41, 6), (41, 7), (41, 8), (53, 1), (53, 2), (58, 3), (61, 3), (64, 3), (67, 3)] w (A_D_years_59 w a0 n) := by
  induction n with
  | zero =>
    simp only [A_D_years_59]
    repeat' (first | (with_reducible exact fr_rf) | (with_reducible refine fr_up (by decide) ?_) | (with_reducible refine fr_uf (by decide) ?_) | (with_reducible refine fr_cp (by decide) ?_) | (with_reducible refine fr_tr ?_ (fr_wk fr_F_G_ofDrowned (by decide) (by decide))) | (with_reducible refine fr_tr ?_ (fr_wk fr_F_H_keep_41 (by decide) (by decide))) | (with_reducible refine fr_tr ?_ (fr_wk fr_F_K_passYear (by decide) (by decide))) | split | (dsimp only))
  | succ n ih =>
    simp only [A_D_years_59]
    repeat' (first | (with_reducible exact fr_rf) | (with_reducible exact ih) | (with_reducible refine fr_up (by decide) ?_) | (with_reducible refine fr_uf (by decide) ?_) | (with_reducible refine fr_cp (by decide) ?_) | (with_reducible refine fr_tr ?_ (fr_wk fr_F_G_ofDrowned (by decide) (by decide))) | (with_reducible refine fr_tr ?_ (fr_wk fr_F_H_keep_41 (by decide) (by decide))) | (with_reducible refine fr_tr ?_ (fr_wk fr_F_K_passYear (by decide) (by decide))) | split | (dsimp only))
theorem fr_F_D_years {w : z_Wd} {a0 : Int} : z_fr [45, 46, 54, 57, 60, 63, 66, 69, 78] [(41, 6), (41, 7), (41, 8), (53, 1), (53, 2), (58, 3), (61, 3), (64, 3), (67, 3)] w (F_D_years w a0).2 := by
  unfold F_D_years
  repeat' (first | (with_reducible exact fr_rf) | (with_reducible refine fr_up (by decide) ?_) | (with_reducible refine fr_uf (by decide) ?_) | (with_reducible refine fr_cp (by decide) ?_) | (with_reducible refine fr_tr ?_ (fr_wk fr_A_D_years_59 (by decide) (by decide))) | (with_reducible refine fr_tr ?_ (fr_wk fr_F_D_refuse (by decide) (by decide))) | split | (dsimp only))
theorem fr_A_D_decades_46 {w : z_Wd} {a0 : Int} {a1 : Int} {n : Nat} : z_fr [42, 43, 45, 46, 54, 57, 60, 63, 66, 69] [(27, 14), (41, 6), (41, 7), (41, 8), (53, 1), (53, 2), (58, 3), (61, 3), (64, 3), (67, 3)] w (A_D_decades_46 w a0 a1 n) := by
  induction n with
  | zero =>
    simp only [A_D_decades_46]
    repeat' (first | (with_reducible exact fr_rf) | (with_reducible refine fr_up (by decide) ?_) | (with_reducible refine fr_uf (by decide) ?_) | (with_reducible refine fr_cp (by decide) ?_) | (with_reducible refine fr_tr ?_ (fr_wk fr_F_D_dipByDraws (by decide) (by decide))) | (with_reducible refine fr_tr ?_ (fr_wk fr_F_D_scratchByDraws (by decide) (by decide))) | (with_reducible refine fr_tr ?_ (fr_wk fr_F_G_ofDrowned (by decide) (by decide))) | (with_reducible refine fr_tr ?_ (fr_wk fr_F_H_keep_41 (by decide) (by decide))) | (with_reducible refine fr_tr ?_ (fr_wk fr_F_K_passYear (by decide) (by decide))) | split | (dsimp only))
  | succ n ih =>
    simp only [A_D_decades_46]
    repeat' (first | (with_reducible exact fr_rf) | (with_reducible exact ih) | (with_reducible refine fr_up (by decide) ?_) | (with_reducible refine fr_uf (by decide) ?_) | (with_reducible refine fr_cp (by decide) ?_) | (with_reducible refine fr_tr ?_ (fr_wk fr_F_D_dipByDraws (by decide) (by decide))) | (with_reducible refine fr_tr ?_ (fr_wk fr_F_D_scratchByDraws (by decide) (by decide))) | (with_reducible refine fr_tr ?_ (fr_wk fr_F_G_ofDrowned (by decide) (by decide))) | (with_reducible refine fr_tr ?_ (fr_wk fr_F_H_keep_41 (by decide) (by decide))) | (with_reducible refine fr_tr ?_ (fr_wk fr_F_K_passYear (by decide) (by decide))) | split | (dsimp only))
theorem fr_F_D_decades {w : z_Wd} {a0 : Int} {a1 : Int} : z_fr [42, 43, 45, 46, 54, 57, 60, 63, 66, 69] [(27, 14), (41, 6), (41, 7), (41, 8), (53, 1), (53, 2), (58, 3), (61, 3), (64, 3), (67, 3)] w (F_D_decades w a0 a1).2 := by
  unfold F_D_decades
  repeat' (first | (with_reducible exact fr_rf) | (with_reducible refine fr_up (by decide) ?_) | (with_reducible refine fr_uf (by decide) ?_) | (with_reducible refine fr_cp (by decide) ?_) | (with_reducible refine fr_tr ?_ (fr_wk fr_A_D_decades_46 (by decide) (by decide))) | split | (dsimp only))
theorem fr_F_D_most {w : z_Wd} {a0 : Int} : z_fr [57, 60, 63, 66, 69] [(58, 3), (61, 3), (64, 3), (67, 3)] w (F_D_most w a0).2 := by
  unfold F_D_most
  repeat' (first | (with_reducible exact fr_rf) | (with_reducible refine fr_up (by decide) ?_) | (with_reducible refine fr_uf (by decide) ?_) | (with_reducible refine fr_cp (by decide) ?_) | (with_reducible refine fr_tr ?_ (fr_wk fr_F_G_amnesty (by decide) (by decide))) | (with_reducible refine fr_tr ?_ (fr_wk fr_F_G_leastMissed (by decide) (by decide))) | split | (dsimp only))
theorem fr_F_D_quiet {w : z_Wd} {a0 : Int} : z_fr [57, 60, 63, 66, 69] [(58, 3), (61, 3), (64, 3), (67, 3)] w (F_D_quiet w a0).2 := by
  unfold F_D_quiet
  repeat' (first | (with_reducible exact fr_rf) | (with_reducible refine fr_up (by decide) ?_) | (with_reducible refine fr_uf (by decide) ?_) | (with_reducible refine fr_cp (by decide) ?_) | (with_reducible refine fr_tr ?_ (fr_wk fr_F_G_yearsUntil (by decide) (by decide))) | split | (dsimp only))
theorem fr_z_ap1 {w : z_Wd} {b : Int} : z_fr [29] [(28, 1)] w (z_ap1 w b) := by
  unfold z_ap1
  repeat' (first | (with_reducible exact fr_rf) | (with_reducible refine fr_up (by decide) ?_) | (with_reducible refine fr_uf (by decide) ?_) | (with_reducible refine fr_cp (by decide) ?_) | split | (dsimp only))
theorem fr_F_T_append {w : z_Wd} {a0 : Int} : z_fr [29] [(28, 1)] w (F_T_append w a0) := by
  unfold F_T_append
  repeat' (first | (with_reducible exact fr_rf) | (with_reducible refine fr_up (by decide) ?_) | (with_reducible refine fr_uf (by decide) ?_) | (with_reducible refine fr_cp (by decide) ?_) | (with_reducible refine fr_tr ?_ (fr_wk fr_z_ap1 (by decide) (by decide))) | split | (dsimp only))
theorem fr_F_D_feed {w : z_Wd} {a0 : Int} {a1 : Int} {a2 : Int} {a3 : Int} {a4 : Int} : z_fr [29] [(28, 1)] w (F_D_feed w a0 a1 a2 a3 a4).2 := by
  unfold F_D_feed
  repeat' (first | (with_reducible exact fr_rf) | (with_reducible refine fr_up (by decide) ?_) | (with_reducible refine fr_uf (by decide) ?_) | (with_reducible refine fr_cp (by decide) ?_) | (with_reducible refine fr_tr ?_ (fr_wk fr_F_T_append (by decide) (by decide))) | split | (dsimp only))
theorem fr_A_P_placeFrom_72 {w : z_Wd} {a0 : Int} {a1 : Int} {a2 : Int} {a3 : Int} {fr : z_Wd → Int → Int → Int → Int → z_Wd} (hf : ∀ (v : z_Wd) (x1 x2 x3 x4 : Int), z_fr [71] [(70, 3), (70, 4)] v (fr v x1 x2 x3 x4)) {n : Nat} : z_fr [71] [(70, 3), (70, 4)] w (A_P_placeFrom_72 w a0 a1 a2 a3 fr n) := by
  induction n with
  | zero =>
    simp only [A_P_placeFrom_72]
    repeat' (first | (with_reducible exact fr_rf) | (with_reducible refine fr_up (by decide) ?_) | (with_reducible refine fr_uf (by decide) ?_) | (with_reducible refine fr_cp (by decide) ?_) | (with_reducible refine fr_tr ?_ (hf _ _ _ _ _)) | split | (dsimp only))
  | succ n ih =>
    simp only [A_P_placeFrom_72]
    repeat' (first | (with_reducible exact fr_rf) | (with_reducible exact ih) | (with_reducible refine fr_up (by decide) ?_) | (with_reducible refine fr_uf (by decide) ?_) | (with_reducible refine fr_cp (by decide) ?_) | (with_reducible refine fr_tr ?_ (hf _ _ _ _ _)) | split | (dsimp only))
theorem fr_R_P_placeFrom_72 {w : z_Wd} {a0 : Int} {a1 : Int} {a2 : Int} {a3 : Int} {fr : z_Wd → Int → Int → Int → Int → z_Wd} {i14 : Nat} (hf : ∀ (v : z_Wd) (x1 x2 x3 x4 : Int), z_fr [71] [(70, 3), (70, 4)] v (fr v x1 x2 x3 x4)) : z_fr [71] [(70, 3), (70, 4)] w (R_P_placeFrom_72 w a0 a1 a2 a3 fr i14) := by
  unfold R_P_placeFrom_72
  repeat' (first | (with_reducible exact fr_rf) | (with_reducible refine fr_up (by decide) ?_) | (with_reducible refine fr_uf (by decide) ?_) | (with_reducible refine fr_cp (by decide) ?_) | (with_reducible refine fr_tr ?_ (fr_A_P_placeFrom_72 (hf))) | (with_reducible refine fr_tr ?_ (hf _ _ _ _ _)) | split | (dsimp only))
theorem fr_F_P_placeFrom : ∀ (n : Nat) (w : z_Wd) (a0 a1 a2 a3 : Int), z_fr [71] [(70, 3), (70, 4)] w (F_P_placeFrom n w a0 a1 a2 a3) := by
  intro n
  induction n with
  | zero =>
    intro w a0 a1 a2 a3
    simp only [F_P_placeFrom]
    exact fr_rf
  | succ n ih =>
    intro w a0 a1 a2 a3
    unfold F_P_placeFrom
    repeat' (first | (with_reducible exact fr_rf) | (with_reducible refine fr_up (by decide) ?_) | (with_reducible refine fr_uf (by decide) ?_) | (with_reducible refine fr_cp (by decide) ?_) | (with_reducible refine fr_tr ?_ (fr_A_P_placeFrom_72 (fun _ _ _ _ _ => ih _ _ _ _ _))) | (with_reducible refine fr_tr ?_ (fr_R_P_placeFrom_72 (fun _ _ _ _ _ => ih _ _ _ _ _))) | (with_reducible refine fr_tr ?_ (ih _ _ _ _ _)) | split | (dsimp only))
theorem fr_A_LR_readSum_12 {w : z_Wd} {a0 : Int} {fr : Nat → z_Wd → Int → Int → Int × z_Wd} (hf : ∀ (t : Nat) (v : z_Wd) (x y : Int), z_fr [39] [(37, 2), (38, 2)] v (fr t v x y).2) {n : Nat} : z_fr [39] [(37, 2), (38, 2)] w (A_LR_readSum_12 w a0 fr n) := by
  induction n with
  | zero =>
    simp only [A_LR_readSum_12]
    repeat' (first | (with_reducible exact fr_rf) | (with_reducible refine fr_up (by decide) ?_) | (with_reducible refine fr_uf (by decide) ?_) | (with_reducible refine fr_cp (by decide) ?_) | (with_reducible refine fr_tr ?_ (fr_wk fr_F_LR_step (by decide) (by decide))) | (with_reducible refine fr_tr ?_ (fr_wk fr_F_W_add (by decide) (by decide))) | (with_reducible refine fr_tr ?_ (hf _ _ _ _)) | split | (dsimp only))
  | succ n ih =>
    simp only [A_LR_readSum_12]
    repeat' (first | (with_reducible exact fr_rf) | (with_reducible exact ih) | (with_reducible refine fr_up (by decide) ?_) | (with_reducible refine fr_uf (by decide) ?_) | (with_reducible refine fr_cp (by decide) ?_) | (with_reducible refine fr_tr ?_ (fr_wk fr_F_LR_step (by decide) (by decide))) | (with_reducible refine fr_tr ?_ (fr_wk fr_F_W_add (by decide) (by decide))) | (with_reducible refine fr_tr ?_ (hf _ _ _ _)) | split | (dsimp only))
theorem fr_R_LR_readSum_12 {w : z_Wd} {a0 : Int} {fr : Nat → z_Wd → Int → Int → Int × z_Wd} {i10 : Nat} (hf : ∀ (t : Nat) (v : z_Wd) (x y : Int), z_fr [39] [(37, 2), (38, 2)] v (fr t v x y).2) : z_fr [39] [(37, 2), (38, 2)] w (R_LR_readSum_12 w a0 fr i10).2 := by
  unfold R_LR_readSum_12
  repeat' (first | (with_reducible exact fr_rf) | (with_reducible refine fr_up (by decide) ?_) | (with_reducible refine fr_uf (by decide) ?_) | (with_reducible refine fr_cp (by decide) ?_) | (with_reducible refine fr_tr ?_ (fr_A_LR_readSum_12 (hf))) | (with_reducible refine fr_tr ?_ (fr_wk fr_F_LR_step (by decide) (by decide))) | (with_reducible refine fr_tr ?_ (hf _ _ _ _)) | split | (dsimp only))
theorem fr_A_LR_readTerm_12 {w : z_Wd} {a0 : Int} {fr : Nat → z_Wd → Int → Int → Int × z_Wd} (hf : ∀ (t : Nat) (v : z_Wd) (x y : Int), z_fr [39] [(37, 2), (38, 2)] v (fr t v x y).2) {n : Nat} : z_fr [39] [(37, 2), (38, 2)] w (A_LR_readTerm_12 w a0 fr n) := by
  induction n with
  | zero =>
    simp only [A_LR_readTerm_12]
    repeat' (first | (with_reducible exact fr_rf) | (with_reducible refine fr_up (by decide) ?_) | (with_reducible refine fr_uf (by decide) ?_) | (with_reducible refine fr_cp (by decide) ?_) | (with_reducible refine fr_tr ?_ (fr_wk fr_F_LR_step (by decide) (by decide))) | (with_reducible refine fr_tr ?_ (fr_wk fr_F_W_add (by decide) (by decide))) | (with_reducible refine fr_tr ?_ (hf _ _ _ _)) | split | (dsimp only))
  | succ n ih =>
    simp only [A_LR_readTerm_12]
    repeat' (first | (with_reducible exact fr_rf) | (with_reducible exact ih) | (with_reducible refine fr_up (by decide) ?_) | (with_reducible refine fr_uf (by decide) ?_) | (with_reducible refine fr_cp (by decide) ?_) | (with_reducible refine fr_tr ?_ (fr_wk fr_F_LR_step (by decide) (by decide))) | (with_reducible refine fr_tr ?_ (fr_wk fr_F_W_add (by decide) (by decide))) | (with_reducible refine fr_tr ?_ (hf _ _ _ _)) | split | (dsimp only))
theorem fr_R_LR_readTerm_12 {w : z_Wd} {a0 : Int} {fr : Nat → z_Wd → Int → Int → Int × z_Wd} {i10 : Nat} (hf : ∀ (t : Nat) (v : z_Wd) (x y : Int), z_fr [39] [(37, 2), (38, 2)] v (fr t v x y).2) : z_fr [39] [(37, 2), (38, 2)] w (R_LR_readTerm_12 w a0 fr i10).2 := by
  unfold R_LR_readTerm_12
  repeat' (first | (with_reducible exact fr_rf) | (with_reducible refine fr_up (by decide) ?_) | (with_reducible refine fr_uf (by decide) ?_) | (with_reducible refine fr_cp (by decide) ?_) | (with_reducible refine fr_tr ?_ (fr_A_LR_readTerm_12 (hf))) | (with_reducible refine fr_tr ?_ (fr_wk fr_F_LR_step (by decide) (by decide))) | (with_reducible refine fr_tr ?_ (hf _ _ _ _)) | split | (dsimp only))
theorem fr_A_LR_readCondition_13 {w : z_Wd} {a0 : Int} {a1 : Int} {fr : Nat → z_Wd → Int → Int → Int × z_Wd} (hf : ∀ (t : Nat) (v : z_Wd) (x y : Int), z_fr [39] [(37, 2), (38, 2)] v (fr t v x y).2) {n : Nat} : z_fr [39] [(37, 2), (38, 2)] w (A_LR_readCondition_13 w a0 a1 fr n) := by
  induction n with
  | zero =>
    simp only [A_LR_readCondition_13]
    repeat' (first | (with_reducible exact fr_rf) | (with_reducible refine fr_up (by decide) ?_) | (with_reducible refine fr_uf (by decide) ?_) | (with_reducible refine fr_cp (by decide) ?_) | (with_reducible refine fr_tr ?_ (fr_wk fr_F_LR_step (by decide) (by decide))) | (with_reducible refine fr_tr ?_ (fr_wk fr_F_W_add (by decide) (by decide))) | (with_reducible refine fr_tr ?_ (hf _ _ _ _)) | split | (dsimp only))
  | succ n ih =>
    simp only [A_LR_readCondition_13]
    repeat' (first | (with_reducible exact fr_rf) | (with_reducible exact ih) | (with_reducible refine fr_up (by decide) ?_) | (with_reducible refine fr_uf (by decide) ?_) | (with_reducible refine fr_cp (by decide) ?_) | (with_reducible refine fr_tr ?_ (fr_wk fr_F_LR_step (by decide) (by decide))) | (with_reducible refine fr_tr ?_ (fr_wk fr_F_W_add (by decide) (by decide))) | (with_reducible refine fr_tr ?_ (hf _ _ _ _)) | split | (dsimp only))
theorem fr_R_LR_readCondition_13 {w : z_Wd} {a0 : Int} {a1 : Int} {fr : Nat → z_Wd → Int → Int → Int × z_Wd} {i10 : Nat} (hf : ∀ (t : Nat) (v : z_Wd) (x y : Int), z_fr [39] [(37, 2), (38, 2)] v (fr t v x y).2) : z_fr [39] [(37, 2), (38, 2)] w (R_LR_readCondition_13 w a0 a1 fr i10).2 := by
  unfold R_LR_readCondition_13
  repeat' (first | (with_reducible exact fr_rf) | (with_reducible refine fr_up (by decide) ?_) | (with_reducible refine fr_uf (by decide) ?_) | (with_reducible refine fr_cp (by decide) ?_) | (with_reducible refine fr_tr ?_ (fr_A_LR_readCondition_13 (hf))) | (with_reducible refine fr_tr ?_ (fr_wk fr_F_LR_step (by decide) (by decide))) | (with_reducible refine fr_tr ?_ (hf _ _ _ _)) | split | (dsimp only))
theorem fr_A_LR_readTruth_13 {w : z_Wd} {a0 : Int} {a1 : Int} {fr : Nat → z_Wd → Int → Int → Int × z_Wd} (hf : ∀ (t : Nat) (v : z_Wd) (x y : Int), z_fr [39] [(37, 2), (38, 2)] v (fr t v x y).2) {n : Nat} : z_fr [39] [(37, 2), (38, 2)] w (A_LR_readTruth_13 w a0 a1 fr n) := by
  induction n with
  | zero =>
    simp only [A_LR_readTruth_13]
    repeat' (first | (with_reducible exact fr_rf) | (with_reducible refine fr_up (by decide) ?_) | (with_reducible refine fr_uf (by decide) ?_) | (with_reducible refine fr_cp (by decide) ?_) | (with_reducible refine fr_tr ?_ (fr_wk fr_F_LR_step (by decide) (by decide))) | (with_reducible refine fr_tr ?_ (fr_wk fr_F_W_add (by decide) (by decide))) | (with_reducible refine fr_tr ?_ (hf _ _ _ _)) | split | (dsimp only))
  | succ n ih =>
    simp only [A_LR_readTruth_13]
    repeat' (first | (with_reducible exact fr_rf) | (with_reducible exact ih) | (with_reducible refine fr_up (by decide) ?_) | (with_reducible refine fr_uf (by decide) ?_) | (with_reducible refine fr_cp (by decide) ?_) | (with_reducible refine fr_tr ?_ (fr_wk fr_F_LR_step (by decide) (by decide))) | (with_reducible refine fr_tr ?_ (fr_wk fr_F_W_add (by decide) (by decide))) | (with_reducible refine fr_tr ?_ (hf _ _ _ _)) | split | (dsimp only))
theorem fr_R_LR_readTruth_13 {w : z_Wd} {a0 : Int} {a1 : Int} {fr : Nat → z_Wd → Int → Int → Int × z_Wd} {i10 : Nat} (hf : ∀ (t : Nat) (v : z_Wd) (x y : Int), z_fr [39] [(37, 2), (38, 2)] v (fr t v x y).2) : z_fr [39] [(37, 2), (38, 2)] w (R_LR_readTruth_13 w a0 a1 fr i10).2 := by
  unfold R_LR_readTruth_13
  repeat' (first | (with_reducible exact fr_rf) | (with_reducible refine fr_up (by decide) ?_) | (with_reducible refine fr_uf (by decide) ?_) | (with_reducible refine fr_cp (by decide) ?_) | (with_reducible refine fr_tr ?_ (fr_A_LR_readTruth_13 (hf))) | (with_reducible refine fr_tr ?_ (fr_wk fr_F_LR_step (by decide) (by decide))) | (with_reducible refine fr_tr ?_ (hf _ _ _ _)) | split | (dsimp only))
theorem fr_F_LR : ∀ (n t : Nat) (w : z_Wd) (a0 a1 : Int), z_fr [39] [(37, 2), (38, 2)] w (F_LR n t w a0 a1).2 := by
  intro n
  induction n with
  | zero =>
    intro t w a0 a1
    simp only [F_LR]
    exact fr_rf
  | succ n ih =>
    intro t w a0 a1
    unfold F_LR
    repeat' (first | (with_reducible exact fr_rf) | (with_reducible refine fr_up (by decide) ?_) | (with_reducible refine fr_uf (by decide) ?_) | (with_reducible refine fr_cp (by decide) ?_) | (with_reducible refine fr_tr ?_ (fr_A_LR_readCondition_13 (fun _ _ _ _ => ih _ _ _ _))) | (with_reducible refine fr_tr ?_ (fr_A_LR_readSum_12 (fun _ _ _ _ => ih _ _ _ _))) | (with_reducible refine fr_tr ?_ (fr_A_LR_readTerm_12 (fun _ _ _ _ => ih _ _ _ _))) | (with_reducible refine fr_tr ?_ (fr_A_LR_readTruth_13 (fun _ _ _ _ => ih _ _ _ _))) | (with_reducible refine fr_tr ?_ (fr_wk fr_F_LR_readNumber (by decide) (by decide))) | (with_reducible refine fr_tr ?_ (fr_wk fr_F_LR_step (by decide) (by decide))) | (with_reducible refine fr_tr ?_ (fr_wk fr_F_LR_take (by decide) (by decide))) | (with_reducible refine fr_tr ?_ (fr_wk fr_F_W_add (by decide) (by decide))) | (with_reducible refine fr_tr ?_ (fr_R_LR_readCondition_13 (fun _ _ _ _ => ih _ _ _ _))) | (with_reducible refine fr_tr ?_ (fr_R_LR_readSum_12 (fun _ _ _ _ => ih _ _ _ _))) | (with_reducible refine fr_tr ?_ (fr_R_LR_readTerm_12 (fun _ _ _ _ => ih _ _ _ _))) | (with_reducible refine fr_tr ?_ (fr_R_LR_readTruth_13 (fun _ _ _ _ => ih _ _ _ _))) | (with_reducible refine fr_tr ?_ (ih _ _ _ _)) | split | (dsimp only))
theorem fr_F_LR_readSum {w : z_Wd} {a0 : Int} : z_fr [39] [(37, 2), (38, 2)] w (F_LR_readSum w a0).2 := by
  unfold F_LR_readSum
  repeat' (first | (with_reducible exact fr_rf) | (with_reducible refine fr_up (by decide) ?_) | (with_reducible refine fr_uf (by decide) ?_) | (with_reducible refine fr_cp (by decide) ?_) | (with_reducible refine fr_tr ?_ (fr_wk (fr_F_LR _ _ _ _ _) (by decide) (by decide))) | split | (dsimp only))
theorem fr_F_LR_readTerm {w : z_Wd} {a0 : Int} : z_fr [39] [(37, 2), (38, 2)] w (F_LR_readTerm w a0).2 := by
  unfold F_LR_readTerm
  repeat' (first | (with_reducible exact fr_rf) | (with_reducible refine fr_up (by decide) ?_) | (with_reducible refine fr_uf (by decide) ?_) | (with_reducible refine fr_cp (by decide) ?_) | (with_reducible refine fr_tr ?_ (fr_wk (fr_F_LR _ _ _ _ _) (by decide) (by decide))) | split | (dsimp only))
theorem fr_F_LR_readAtom {w : z_Wd} {a0 : Int} : z_fr [39] [(37, 2), (38, 2)] w (F_LR_readAtom w a0).2 := by
  unfold F_LR_readAtom
  repeat' (first | (with_reducible exact fr_rf) | (with_reducible refine fr_up (by decide) ?_) | (with_reducible refine fr_uf (by decide) ?_) | (with_reducible refine fr_cp (by decide) ?_) | (with_reducible refine fr_tr ?_ (fr_wk (fr_F_LR _ _ _ _ _) (by decide) (by decide))) | split | (dsimp only))
theorem fr_F_LR_readCondition {w : z_Wd} {a0 : Int} {a1 : Int} : z_fr [39] [(37, 2), (38, 2)] w (F_LR_readCondition w a0 a1).2 := by
  unfold F_LR_readCondition
  repeat' (first | (with_reducible exact fr_rf) | (with_reducible refine fr_up (by decide) ?_) | (with_reducible refine fr_uf (by decide) ?_) | (with_reducible refine fr_cp (by decide) ?_) | (with_reducible refine fr_tr ?_ (fr_wk (fr_F_LR _ _ _ _ _) (by decide) (by decide))) | split | (dsimp only))
theorem fr_F_LR_readTruth {w : z_Wd} {a0 : Int} {a1 : Int} : z_fr [39] [(37, 2), (38, 2)] w (F_LR_readTruth w a0 a1).2 := by
  unfold F_LR_readTruth
  repeat' (first | (with_reducible exact fr_rf) | (with_reducible refine fr_up (by decide) ?_) | (with_reducible refine fr_uf (by decide) ?_) | (with_reducible refine fr_cp (by decide) ?_) | (with_reducible refine fr_tr ?_ (fr_wk (fr_F_LR _ _ _ _ _) (by decide) (by decide))) | split | (dsimp only))
theorem fr_F_LR_readUnit {w : z_Wd} {a0 : Int} {a1 : Int} : z_fr [39] [(37, 2), (38, 2)] w (F_LR_readUnit w a0 a1).2 := by
  unfold F_LR_readUnit
  repeat' (first | (with_reducible exact fr_rf) | (with_reducible refine fr_up (by decide) ?_) | (with_reducible refine fr_uf (by decide) ?_) | (with_reducible refine fr_cp (by decide) ?_) | (with_reducible refine fr_tr ?_ (fr_wk (fr_F_LR _ _ _ _ _) (by decide) (by decide))) | split | (dsimp only))
theorem fr_F_LR_readNestedUnit {w : z_Wd} {a0 : Int} {a1 : Int} : z_fr [39] [(37, 2), (38, 2)] w (F_LR_readNestedUnit w a0 a1).2 := by
  unfold F_LR_readNestedUnit
  repeat' (first | (with_reducible exact fr_rf) | (with_reducible refine fr_up (by decide) ?_) | (with_reducible refine fr_uf (by decide) ?_) | (with_reducible refine fr_cp (by decide) ?_) | (with_reducible refine fr_tr ?_ (fr_wk (fr_F_LR _ _ _ _ _) (by decide) (by decide))) | split | (dsimp only))
theorem fr_F_LR_readClause {w : z_Wd} : z_fr [39] [(37, 2), (38, 2)] w (F_LR_readClause w).2 := by
  unfold F_LR_readClause
  repeat' (first | (with_reducible exact fr_rf) | (with_reducible refine fr_up (by decide) ?_) | (with_reducible refine fr_uf (by decide) ?_) | (with_reducible refine fr_cp (by decide) ?_) | (with_reducible refine fr_tr ?_ (fr_wk fr_F_LR_readCondition (by decide) (by decide))) | (with_reducible refine fr_tr ?_ (fr_wk fr_F_LR_readSum (by decide) (by decide))) | (with_reducible refine fr_tr ?_ (fr_wk fr_F_LR_take (by decide) (by decide))) | (with_reducible refine fr_tr ?_ (fr_wk fr_F_W_add (by decide) (by decide))) | (with_reducible refine fr_tr ?_ (fr_wk fr_F_W_goOnHere (by decide) (by decide))) | split | (dsimp only))
theorem fr_A_P_place_2 {w : z_Wd} {a0 : Int} {n : Nat} : z_fr [71] [] w (A_P_place_2 w a0 n) := by
  induction n with
  | zero =>
    simp only [A_P_place_2]
    repeat' (first | (with_reducible exact fr_rf) | (with_reducible refine fr_up (by decide) ?_) | (with_reducible refine fr_uf (by decide) ?_) | (with_reducible refine fr_cp (by decide) ?_) | split | (dsimp only))
  | succ n ih =>
    simp only [A_P_place_2]
    repeat' (first | (with_reducible exact fr_rf) | (with_reducible exact ih) | (with_reducible refine fr_up (by decide) ?_) | (with_reducible refine fr_uf (by decide) ?_) | (with_reducible refine fr_cp (by decide) ?_) | split | (dsimp only))
theorem fr_F_P_place {w : z_Wd} {a0 : Int} : z_fr [71] [(70, 3), (70, 4)] w (F_P_place w a0).2 := by
  unfold F_P_place
  repeat' (first | (with_reducible exact fr_rf) | (with_reducible refine fr_up (by decide) ?_) | (with_reducible refine fr_uf (by decide) ?_) | (with_reducible refine fr_cp (by decide) ?_) | (with_reducible refine fr_tr ?_ (fr_wk fr_A_P_place_2 (by decide) (by decide))) | (with_reducible refine fr_tr ?_ (fr_wk (fr_F_P_placeFrom _ _ _ _ _ _) (by decide) (by decide))) | split | (dsimp only))
theorem fr_F_D_faction {w : z_Wd} {a0 : Int} {a1 : Int} : z_fr [71] [(70, 3), (70, 4)] w (F_D_faction w a0 a1).2 := by
  unfold F_D_faction
  repeat' (first | (with_reducible exact fr_rf) | (with_reducible refine fr_up (by decide) ?_) | (with_reducible refine fr_uf (by decide) ?_) | (with_reducible refine fr_cp (by decide) ?_) | (with_reducible refine fr_tr ?_ (fr_wk fr_F_P_place (by decide) (by decide))) | split | (dsimp only))
theorem fr_L_LR_read_23 {w : z_Wd} : ∀ {n : Nat} {u0 : Int} {u1 : Int} {wu : z_Wd}, z_fr [39] [(37, 2), (38, 2)] w wu → z_fr [39] [(37, 2), (38, 2)] w (L_LR_read_23 w n u0 u1 wu).2 := by
  intro n
  induction n with
  | zero =>
    intro u0 u1 wu h
    simp only [L_LR_read_23]
    exact fr_rf
  | succ n ih =>
    intro u0 u1 wu h
    simp only [L_LR_read_23]
    repeat' (first | (with_reducible refine ih ?_) | (with_reducible exact fr_rf) | (with_reducible exact h) | (with_reducible refine fr_up (by decide) ?_) | (with_reducible refine fr_uf (by decide) ?_) | (with_reducible refine fr_cp (by decide) ?_) | (with_reducible refine fr_tr ?_ (fr_wk fr_F_LR_readClause (by decide) (by decide))) | (with_reducible refine fr_tr ?_ (fr_wk fr_F_LR_take (by decide) (by decide))) | split | (dsimp only))
theorem fr_F_LR_read {w : z_Wd} : z_fr [39] [(37, 2), (38, 2)] w (F_LR_read w).2 := by
  unfold F_LR_read
  repeat' (first | (with_reducible exact fr_rf) | (with_reducible refine fr_up (by decide) ?_) | (with_reducible refine fr_uf (by decide) ?_) | (with_reducible refine fr_cp (by decide) ?_) | (with_reducible refine fr_tr ?_ (fr_wk fr_F_W_clear (by decide) (by decide))) | (with_reducible refine fr_L_LR_read_23 (fun _ _ => ih _ _) ?_) | split | (dsimp only))
theorem fr_F_D_fault {w : z_Wd} {a0 : Int} : z_fr [35, 36, 39] [(33, 2), (37, 2), (38, 2)] w (F_D_fault w a0).2 := by
  unfold F_D_fault
  repeat' (first | (with_reducible exact fr_rf) | (with_reducible refine fr_up (by decide) ?_) | (with_reducible refine fr_uf (by decide) ?_) | (with_reducible refine fr_cp (by decide) ?_) | (with_reducible refine fr_tr ?_ (fr_wk fr_F_LR_read (by decide) (by decide))) | (with_reducible refine fr_tr ?_ (fr_wk fr_F_YR_read (by decide) (by decide))) | split | (dsimp only))
theorem fr_F_D_passLaw {w : z_Wd} : z_fr [39, 59, 62, 65, 68] [(28, 1), (37, 2), (38, 2), (55, 4), (58, 2), (61, 2), (64, 2), (67, 2)] w (F_D_passLaw w).2 := by
  unfold F_D_passLaw
  repeat' (first | (with_reducible exact fr_rf) | (with_reducible refine fr_up (by decide) ?_) | (with_reducible refine fr_uf (by decide) ?_) | (with_reducible refine fr_cp (by decide) ?_) | (with_reducible refine fr_tr ?_ (fr_wk fr_F_G_pass_38 (by decide) (by decide))) | (with_reducible refine fr_tr ?_ (fr_wk fr_F_LR_read (by decide) (by decide))) | (with_reducible refine fr_tr ?_ (fr_wk fr_F_T_cut (by decide) (by decide))) | split | (dsimp only))
theorem fr_F_D_text {w : z_Wd} {a0 : Int} : z_fr [31, 32, 35, 36, 39, 42, 43, 44, 59, 62, 65, 68] [(27, 13), (28, 1), (33, 2), (37, 2), (38, 2), (41, 6), (41, 7), (41, 8), (53, 2), (55, 4), (58, 2), (61, 2), (64, 2), (67, 2), (72, 4)] w (F_D_text w a0).2 := by
  unfold F_D_text
  repeat' (first | (with_reducible exact fr_rf) | (with_reducible refine fr_up (by decide) ?_) | (with_reducible refine fr_uf (by decide) ?_) | (with_reducible refine fr_cp (by decide) ?_) | (with_reducible refine fr_tr ?_ (fr_wk fr_F_D_foundMinistry (by decide) (by decide))) | (with_reducible refine fr_tr ?_ (fr_wk fr_F_D_passLaw (by decide) (by decide))) | split | (dsimp only))
theorem fr_F_D_rests {w : z_Wd} {a0 : Int} {a1 : Int} {a2 : Int} {a3 : Int} : z_fr [77] [] w (F_D_rests w a0 a1 a2 a3).2 := by
  unfold F_D_rests
  repeat' (first | (with_reducible exact fr_rf) | (with_reducible refine fr_up (by decide) ?_) | (with_reducible refine fr_uf (by decide) ?_) | (with_reducible refine fr_cp (by decide) ?_) | (with_reducible refine fr_tr ?_ (fr_wk fr_F_N_setUp (by decide) (by decide))) | split | (dsimp only))
theorem fr_F_D_name {w : z_Wd} {a : Int} {b : Int} : z_fr [57, 60, 63, 66, 69] [(58, 3), (61, 3), (64, 3), (67, 3)] w (F_D_name w a b).2 := by
  unfold F_D_name
  repeat' (first | (with_reducible exact fr_rf) | (with_reducible refine fr_up (by decide) ?_) | (with_reducible refine fr_uf (by decide) ?_) | (with_reducible refine fr_cp (by decide) ?_) | (with_reducible refine fr_tr ?_ (fr_wk fr_F_G_missed (by decide) (by decide))) | split | (dsimp only))
