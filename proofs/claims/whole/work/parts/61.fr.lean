/-! frames, by program -/
theorem fr_p1 {X : List Nat} {Y : List (Nat × Nat)} {w a : z_Wd} {x : Int} (h : z_fr X Y w a) : z_fr X Y w (x, a).2 := h
theorem fr_p2 {X : List Nat} {Y : List (Nat × Nat)} {w a : z_Wd} {x y : Int} (h : z_fr X Y w a) : z_fr X Y w (x, y, a).2.2 := h
theorem fr_i0 {X : List Nat} {Y : List (Nat × Nat)} {w a b : z_Wd} {c : Prop} {_ : Decidable c} (h1 : z_fr X Y w a) (h2 : z_fr X Y w b) : z_fr X Y w (if c then a else b) := by
  split
  · exact h1
  · exact h2
theorem fr_i1 {X : List Nat} {Y : List (Nat × Nat)} {w : z_Wd} {a b : Int × z_Wd} {c : Prop} {_ : Decidable c} (h1 : z_fr X Y w a.2) (h2 : z_fr X Y w b.2) : z_fr X Y w (if c then a else b).2 := by
  split
  · exact h1
  · exact h2
theorem fr_i2 {X : List Nat} {Y : List (Nat × Nat)} {w : z_Wd} {a b : Int × Int × z_Wd} {c : Prop} {_ : Decidable c} (h1 : z_fr X Y w a.2.2) (h2 : z_fr X Y w b.2.2) : z_fr X Y w (if c then a else b).2.2 := by
  split
  · exact h1
  · exact h2
theorem fr_F_M_end {w : z_Wd} {a0 : Int} : z_fr [] [(0, 2)] w (F_M_end w a0).2 := by
  unfold F_M_end
  exact (fr_i1 (fr_p1 fr_rf) (fr_i1 (fr_p1 (fr_uf rfl fr_rf)) (fr_p1 fr_rf)))
theorem fr_F_M_bad {w : z_Wd} : z_fr [] [(0, 4)] w (F_M_bad w) := by
  unfold F_M_bad
  exact (fr_i0 (fr_uf rfl fr_rf) (fr_uf rfl fr_rf))
theorem fr_F_M_put {w : z_Wd} {a0 : Int} {a1 : Int} : z_fr [2, 3, 4] [] w (F_M_put w a0 a1) := by
  unfold F_M_put
  exact (fr_up rfl (fr_up rfl (fr_up rfl fr_rf)))
theorem fr_F_M_opens {w : z_Wd} : z_fr [] [(0, 3), (0, 4), (0, 5)] w (F_M_opens w) := by
  unfold F_M_opens
  exact (fr_i0 (fr_uf rfl (fr_uf rfl (fr_tr fr_rf (fr_wk fr_F_M_bad rfl rfl)))) (fr_uf rfl (fr_uf rfl fr_rf)))
theorem fr_F_M_open {w : z_Wd} {a0 : Int} : z_fr [4, 5] [(0, 3), (0, 4), (0, 5), (0, 14)] w (F_M_open w a0) := by
  unfold F_M_open
  exact (fr_up rfl (fr_up rfl (fr_uf rfl (fr_uf rfl (fr_uf rfl (fr_uf rfl fr_rf))))))
theorem fr_F_M_law {w : z_Wd} {a0 : Int} : z_fr [] [(0, 33)] w (F_M_law w a0).2 := by
  unfold F_M_law
  exact (fr_i1 (fr_p1 fr_rf) (fr_p1 (fr_uf rfl fr_rf)))
theorem fr_F_M_isRefused {w : z_Wd} {a0 : Int} : z_fr [20] [] w (F_M_isRefused w a0).2 := by
  unfold F_M_isRefused
  exact (fr_i1 (fr_i1 (fr_p1 fr_rf) (fr_p1 fr_rf)) (fr_i1 (fr_p1 (fr_up rfl fr_rf)) (fr_p1 (fr_up rfl fr_rf))))
theorem fr_F_M_dipNow {w : z_Wd} {a0 : Int} {a1 : Int} : z_fr [19] [] w (F_M_dipNow w a0 a1) := by
  unfold F_M_dipNow
  exact (fr_up rfl (fr_up rfl fr_rf))
theorem fr_F_M_flies {w : z_Wd} {a0 : Int} : z_fr [] [(0, 34)] w (F_M_flies w a0).2 := by
  unfold F_M_flies
  exact (fr_i1 (fr_p1 fr_rf) (fr_i1 (fr_p1 fr_rf) (fr_p1 (fr_uf rfl fr_rf))))
theorem fr_F_M_draw {w : z_Wd} {a0 : Int} : z_fr [] [(0, 37)] w (F_M_draw w a0).2 := by
  unfold F_M_draw
  exact (fr_p1 (fr_uf rfl fr_rf))
theorem fr_F_M_seen {w : z_Wd} {a0 : Int} {a1 : Int} : z_fr [23, 24] [(0, 43)] w (F_M_seen w a0 a1).2 := by
  unfold F_M_seen
  exact (fr_i1 (fr_p1 fr_rf) (fr_i1 (fr_p1 fr_rf) (fr_i1 (fr_p1 fr_rf) (fr_p1 (fr_uf rfl (fr_up rfl (fr_up rfl fr_rf)))))))
theorem fr_F_M_riseNow {w : z_Wd} {a0 : Int} {a1 : Int} : z_fr [19] [] w (F_M_riseNow w a0 a1).2 := by
  unfold F_M_riseNow
  exact (fr_p1 (fr_up rfl (fr_cp rfl fr_rf)))
theorem fr_F_M_putAside {w : z_Wd} {a0 : Int} : z_fr [22] [] w (F_M_putAside w a0) := by
  unfold F_M_putAside
  exact (fr_cp rfl fr_rf)
theorem fr_F_M_takeBack {w : z_Wd} {a0 : Int} : z_fr [19] [] w (F_M_takeBack w a0) := by
  unfold F_M_takeBack
  exact (fr_cp rfl fr_rf)
theorem fr_z_kept {w : z_Wd} : z_fr [21] [(0, 36)] w (z_kept w) := by
  unfold z_kept
  exact (fr_i0 (fr_uf rfl (fr_cp rfl fr_rf)) fr_rf)
theorem fr_F_M_keep {w : z_Wd} : z_fr [21] [(0, 36)] w (F_M_keep w) := by
  unfold F_M_keep
  exact (fr_uf rfl (fr_cp rfl (fr_tr fr_rf (fr_wk fr_z_kept rfl rfl))))
theorem fr_F_M_undo {w : z_Wd} : z_fr [19] [(0, 36)] w (F_M_undo w).2 := by
  unfold F_M_undo
  exact (fr_i1 (fr_p1 fr_rf) (fr_p1 (fr_cp rfl (fr_uf rfl fr_rf))))
theorem fr_F_M_image {w : z_Wd} : z_fr [25] [(0, 45)] w (F_M_image w).2 := by
  unfold F_M_image
  exact (fr_i1 (fr_p1 fr_rf) (fr_p1 (fr_uf rfl (fr_cp rfl fr_rf))))
theorem fr_F_M_back {w : z_Wd} : z_fr [19] [(0, 36)] w (F_M_back w).2 := by
  unfold F_M_back
  exact (fr_i1 (fr_p1 fr_rf) (fr_p1 (fr_uf rfl (fr_cp rfl fr_rf))))
theorem fr_F_M_scratchNow {w : z_Wd} {a0 : Int} {a1 : Int} : z_fr [19] [] w (F_M_scratchNow w a0 a1).2 := by
  unfold F_M_scratchNow
  exact (fr_i1 (fr_p1 fr_rf) (fr_p1 (fr_tr fr_rf (fr_wk fr_F_M_riseNow rfl rfl))))
theorem fr_F_M_blot {w : z_Wd} {a0 : Int} : z_fr [19, 20, 21] [(0, 36)] w (F_M_blot w a0).2 := by
  unfold F_M_blot
  exact (fr_i1 (fr_p1 (fr_tr (fr_up rfl (fr_tr (fr_tr fr_rf (fr_wk fr_F_M_isRefused rfl rfl)) (fr_wk fr_F_M_keep rfl rfl))) (fr_wk fr_F_M_riseNow rfl rfl))) (fr_p1 (fr_tr fr_rf (fr_wk fr_F_M_isRefused rfl rfl))))
theorem fr_F_M_water {w : z_Wd} {a0 : Int} : z_fr [19, 20, 21] [(0, 36)] w (F_M_water w a0).2 := by
  unfold F_M_water
  exact (fr_i1 (fr_p1 (fr_up rfl (fr_up rfl (fr_tr (fr_tr fr_rf (fr_wk fr_F_M_isRefused rfl rfl)) (fr_wk fr_F_M_keep rfl rfl))))) (fr_p1 (fr_tr fr_rf (fr_wk fr_F_M_isRefused rfl rfl))))
theorem fr_F_M_fill {w : z_Wd} {a0 : Int} : z_fr [19, 20, 21] [(0, 36)] w (F_M_fill w a0).2 := by
  unfold F_M_fill
  exact (fr_i1 (fr_i1 (fr_p1 (fr_up rfl (fr_up rfl (fr_tr (fr_tr fr_rf (fr_wk fr_F_M_isRefused rfl rfl)) (fr_wk fr_F_M_keep rfl rfl))))) (fr_p1 (fr_tr fr_rf (fr_wk fr_F_M_isRefused rfl rfl)))) (fr_i1 (fr_i1 (fr_p1 (fr_up rfl (fr_up rfl (fr_tr (fr_tr fr_rf (fr_wk fr_F_M_isRefused rfl rfl)) (fr_wk fr_F_M_keep rfl rfl))))) (fr_p1 (fr_tr fr_rf (fr_wk fr_F_M_isRefused rfl rfl)))) (fr_i1 (fr_i1 (fr_p1 (fr_up rfl (fr_up rfl (fr_tr (fr_tr fr_rf (fr_wk fr_F_M_isRefused rfl rfl)) (fr_wk fr_F_M_keep rfl rfl))))) (fr_p1 (fr_tr fr_rf (fr_wk fr_F_M_isRefused rfl rfl)))) (fr_i1 (fr_p1 (fr_up rfl (fr_up rfl (fr_tr (fr_tr fr_rf (fr_wk fr_F_M_isRefused rfl rfl)) (fr_wk fr_F_M_keep rfl rfl))))) (fr_p1 (fr_tr fr_rf (fr_wk fr_F_M_isRefused rfl rfl)))))))
theorem fr_F_M_give {w : z_Wd} {a0 : Int} : z_fr [19, 20, 21] [(0, 36)] w (F_M_give w a0).2 := by
  unfold F_M_give
  exact (fr_i1 (fr_i1 (fr_p1 (fr_up rfl (fr_tr (fr_tr fr_rf (fr_wk fr_F_M_isRefused rfl rfl)) (fr_wk fr_F_M_keep rfl rfl)))) (fr_p1 (fr_tr fr_rf (fr_wk fr_F_M_isRefused rfl rfl)))) (fr_i1 (fr_i1 (fr_p1 (fr_up rfl (fr_tr (fr_tr fr_rf (fr_wk fr_F_M_isRefused rfl rfl)) (fr_wk fr_F_M_keep rfl rfl)))) (fr_p1 (fr_tr fr_rf (fr_wk fr_F_M_isRefused rfl rfl)))) (fr_i1 (fr_i1 (fr_p1 (fr_up rfl (fr_tr (fr_tr fr_rf (fr_wk fr_F_M_isRefused rfl rfl)) (fr_wk fr_F_M_keep rfl rfl)))) (fr_p1 (fr_tr fr_rf (fr_wk fr_F_M_isRefused rfl rfl)))) (fr_i1 (fr_p1 (fr_up rfl (fr_tr (fr_tr fr_rf (fr_wk fr_F_M_isRefused rfl rfl)) (fr_wk fr_F_M_keep rfl rfl)))) (fr_p1 (fr_tr fr_rf (fr_wk fr_F_M_isRefused rfl rfl)))))))
theorem fr_F_M_scratch {w : z_Wd} {a0 : Int} {a1 : Int} : z_fr [19, 20, 21] [(0, 36)] w (F_M_scratch w a0 a1).2 := by
  unfold F_M_scratch
  exact (fr_i1 (fr_i1 (fr_p1 (fr_tr (fr_tr (fr_tr fr_rf (fr_wk fr_F_M_isRefused rfl rfl)) (fr_wk fr_F_M_keep rfl rfl)) (fr_wk fr_F_M_scratchNow rfl rfl))) (fr_p1 (fr_tr fr_rf (fr_wk fr_F_M_isRefused rfl rfl)))) (fr_i1 (fr_i1 (fr_p1 (fr_tr (fr_tr (fr_tr fr_rf (fr_wk fr_F_M_isRefused rfl rfl)) (fr_wk fr_F_M_keep rfl rfl)) (fr_wk fr_F_M_scratchNow rfl rfl))) (fr_p1 (fr_tr fr_rf (fr_wk fr_F_M_isRefused rfl rfl)))) (fr_i1 (fr_i1 (fr_p1 (fr_tr (fr_tr (fr_tr fr_rf (fr_wk fr_F_M_isRefused rfl rfl)) (fr_wk fr_F_M_keep rfl rfl)) (fr_wk fr_F_M_scratchNow rfl rfl))) (fr_p1 (fr_tr fr_rf (fr_wk fr_F_M_isRefused rfl rfl)))) (fr_i1 (fr_p1 (fr_tr (fr_tr (fr_tr fr_rf (fr_wk fr_F_M_isRefused rfl rfl)) (fr_wk fr_F_M_keep rfl rfl)) (fr_wk fr_F_M_scratchNow rfl rfl))) (fr_p1 (fr_tr fr_rf (fr_wk fr_F_M_isRefused rfl rfl)))))))
theorem fr_F_M_dip {w : z_Wd} {a0 : Int} {a1 : Int} : z_fr [19, 20, 21] [(0, 36)] w (F_M_dip w a0 a1).2 := by
  unfold F_M_dip
  exact (fr_i1 (fr_i1 (fr_p1 (fr_tr (fr_tr (fr_tr fr_rf (fr_wk fr_F_M_isRefused rfl rfl)) (fr_wk fr_F_M_keep rfl rfl)) (fr_wk fr_F_M_dipNow rfl rfl))) (fr_p1 (fr_tr fr_rf (fr_wk fr_F_M_isRefused rfl rfl)))) (fr_i1 (fr_i1 (fr_p1 (fr_tr (fr_tr (fr_tr fr_rf (fr_wk fr_F_M_isRefused rfl rfl)) (fr_wk fr_F_M_keep rfl rfl)) (fr_wk fr_F_M_dipNow rfl rfl))) (fr_p1 (fr_tr fr_rf (fr_wk fr_F_M_isRefused rfl rfl)))) (fr_i1 (fr_i1 (fr_p1 (fr_tr (fr_tr (fr_tr fr_rf (fr_wk fr_F_M_isRefused rfl rfl)) (fr_wk fr_F_M_keep rfl rfl)) (fr_wk fr_F_M_dipNow rfl rfl))) (fr_p1 (fr_tr fr_rf (fr_wk fr_F_M_isRefused rfl rfl)))) (fr_i1 (fr_i1 (fr_p1 (fr_tr (fr_tr (fr_tr fr_rf (fr_wk fr_F_M_isRefused rfl rfl)) (fr_wk fr_F_M_keep rfl rfl)) (fr_wk fr_F_M_dipNow rfl rfl))) (fr_p1 (fr_tr fr_rf (fr_wk fr_F_M_isRefused rfl rfl)))) (fr_i1 (fr_p1 (fr_tr (fr_tr (fr_tr fr_rf (fr_wk fr_F_M_isRefused rfl rfl)) (fr_wk fr_F_M_keep rfl rfl)) (fr_wk fr_F_M_dipNow rfl rfl))) (fr_p1 (fr_tr fr_rf (fr_wk fr_F_M_isRefused rfl rfl))))))))
theorem fr_F_M_drawYear {w : z_Wd} : z_fr [19] [(0, 37)] w (F_M_drawYear w) := by
  unfold F_M_drawYear
  exact (fr_i0 (fr_i0 (fr_tr (fr_tr (fr_tr fr_rf (fr_wk fr_F_M_draw rfl rfl)) (fr_wk fr_F_M_draw rfl rfl)) (fr_wk fr_F_M_draw rfl rfl)) (fr_tr (fr_tr (fr_tr (fr_tr (fr_tr (fr_tr fr_rf (fr_wk fr_F_M_draw rfl rfl)) (fr_wk fr_F_M_draw rfl rfl)) (fr_wk fr_F_M_draw rfl rfl)) (fr_wk fr_F_M_draw rfl rfl)) (fr_wk fr_F_M_draw rfl rfl)) (fr_wk fr_F_M_scratchNow rfl rfl))) (fr_i0 (fr_i0 (fr_tr (fr_tr (fr_tr fr_rf (fr_wk fr_F_M_draw rfl rfl)) (fr_wk fr_F_M_draw rfl rfl)) (fr_wk fr_F_M_draw rfl rfl)) (fr_tr (fr_tr (fr_tr (fr_tr (fr_tr (fr_tr fr_rf (fr_wk fr_F_M_draw rfl rfl)) (fr_wk fr_F_M_draw rfl rfl)) (fr_wk fr_F_M_draw rfl rfl)) (fr_wk fr_F_M_draw rfl rfl)) (fr_wk fr_F_M_draw rfl rfl)) (fr_wk fr_F_M_scratchNow rfl rfl))) (fr_i0 (fr_tr (fr_tr (fr_tr (fr_tr fr_rf (fr_wk fr_F_M_draw rfl rfl)) (fr_wk fr_F_M_draw rfl rfl)) (fr_wk fr_F_M_dipNow rfl rfl)) (fr_wk fr_F_M_draw rfl rfl)) (fr_tr (fr_tr (fr_tr (fr_tr (fr_tr (fr_tr (fr_tr fr_rf (fr_wk fr_F_M_draw rfl rfl)) (fr_wk fr_F_M_draw rfl rfl)) (fr_wk fr_F_M_dipNow rfl rfl)) (fr_wk fr_F_M_draw rfl rfl)) (fr_wk fr_F_M_draw rfl rfl)) (fr_wk fr_F_M_draw rfl rfl)) (fr_wk fr_F_M_scratchNow rfl rfl)))))
theorem fr_A_M_workOut_12 {w : z_Wd} {a0 : Int} {a1 : Int} {a2 : Int} {n : Nat} : z_fr [10] [] w (A_M_workOut_12 w a0 a1 a2 n).2 := by
  induction n with
  | zero =>
    exact (fr_p1 fr_rf)
  | succ n ih =>
    show z_fr [10] [] w (if ((A_M_workOut_12 w a0 a1 a2 n).2) 2 ((((520 * a0) + a1) + (n : Int)).toNat) = 0 then if ((A_M_workOut_12 w a0 a1 a2 n).2) 2 ((((520 * a0) + a1) + (n : Int)).toNat) = 0 then (((A_M_workOut_12 w a0 a1 a2 n).1) + 1, z_up ((A_M_workOut_12 w a0 a1 a2 n).2) 10 (((A_M_workOut_12 w a0 a1 a2 n).1).toNat) (((A_M_workOut_12 w a0 a1 a2 n).2) 3 ((((520 * a0) + a1) + (n : Int)).toNat))) else (((A_M_workOut_12 w a0 a1 a2 n).1) + 1, z_up ((A_M_workOut_12 w a0 a1 a2 n).2) 10 (((A_M_workOut_12 w a0 a1 a2 n).1).toNat) (((A_M_workOut_12 w a0 a1 a2 n).2) 9 ((((A_M_workOut_12 w a0 a1 a2 n).2) 3 ((((520 * a0) + a1) + (n : Int)).toNat)).toNat))) else if ((A_M_workOut_12 w a0 a1 a2 n).2) 2 ((((520 * a0) + a1) + (n : Int)).toNat) = 1 then if ((A_M_workOut_12 w a0 a1 a2 n).2) 2 ((((520 * a0) + a1) + (n : Int)).toNat) = 0 then (((A_M_workOut_12 w a0 a1 a2 n).1) + 1, z_up ((A_M_workOut_12 w a0 a1 a2 n).2) 10 (((A_M_workOut_12 w a0 a1 a2 n).1).toNat) (((A_M_workOut_12 w a0 a1 a2 n).2) 3 ((((520 * a0) + a1) + (n : Int)).toNat))) else (((A_M_workOut_12 w a0 a1 a2 n).1) + 1, z_up ((A_M_workOut_12 w a0 a1 a2 n).2) 10 (((A_M_workOut_12 w a0 a1 a2 n).1).toNat) (((A_M_workOut_12 w a0 a1 a2 n).2) 9 ((((A_M_workOut_12 w a0 a1 a2 n).2) 3 ((((520 * a0) + a1) + (n : Int)).toNat)).toNat))) else if ((A_M_workOut_12 w a0 a1 a2 n).2) 2 ((((520 * a0) + a1) + (n : Int)).toNat) = 9 then ((A_M_workOut_12 w a0 a1 a2 n).1, z_up ((A_M_workOut_12 w a0 a1 a2 n).2) 10 ((((A_M_workOut_12 w a0 a1 a2 n).1) - 1).toNat) (1 - (((A_M_workOut_12 w a0 a1 a2 n).2) 10 ((((A_M_workOut_12 w a0 a1 a2 n).1) - 1).toNat)))) else (((A_M_workOut_12 w a0 a1 a2 n).1) + (-1), z_up ((A_M_workOut_12 w a0 a1 a2 n).2) 10 (((((A_M_workOut_12 w a0 a1 a2 n).1) + (-1)) - 1).toNat) (F_M_worked ((A_M_workOut_12 w a0 a1 a2 n).2) (((A_M_workOut_12 w a0 a1 a2 n).2) 2 ((((520 * a0) + a1) + (n : Int)).toNat)) (((A_M_workOut_12 w a0 a1 a2 n).2) 10 (((((A_M_workOut_12 w a0 a1 a2 n).1) + (-1)) - 1).toNat)) (((A_M_workOut_12 w a0 a1 a2 n).2) 10 ((((A_M_workOut_12 w a0 a1 a2 n).1) + (-1)).toNat))))).2
    exact (fr_i1 (fr_i1 (fr_p1 (fr_up rfl ih)) (fr_p1 (fr_up rfl ih))) (fr_i1 (fr_i1 (fr_p1 (fr_up rfl ih)) (fr_p1 (fr_up rfl ih))) (fr_i1 (fr_p1 (fr_up rfl ih)) (fr_p1 (fr_up rfl ih)))))
theorem fr_F_M_workOut {w : z_Wd} {a0 : Int} {a1 : Int} {a2 : Int} : z_fr [10] [] w (F_M_workOut w a0 a1 a2).2 := by
  unfold F_M_workOut
  exact (fr_p1 (fr_tr fr_rf (fr_wk fr_A_M_workOut_12 rfl rfl)))
theorem fr_A_M_feed_62 {w : z_Wd} {a0 : Int} {a1 : Int} {a2 : Int} {a3 : Int} {a4 : Int} {n : Nat} : z_fr [1] [(0, 2)] w (A_M_feed_62 w a0 a1 a2 a3 a4 n) := by
  induction n with
  | zero =>
    exact fr_rf
  | succ n ih =>
    show z_fr [1] [(0, 2)] w (if F_M_byteOf (A_M_feed_62 w a0 a1 a2 a3 a4 n) a0 a1 a2 a3 a4 (n : Int) = 0 then A_M_feed_62 w a0 a1 a2 a3 a4 n else z_up (z_up (A_M_feed_62 w a0 a1 a2 a3 a4 n) 1 (((A_M_feed_62 w a0 a1 a2 a3 a4 n) 0 2).toNat) (F_M_byteOf (A_M_feed_62 w a0 a1 a2 a3 a4 n) a0 a1 a2 a3 a4 (n : Int))) 0 2 (((A_M_feed_62 w a0 a1 a2 a3 a4 n) 0 2) + 1))
    exact (fr_i0 ih (fr_uf rfl (fr_up rfl ih)))
theorem fr_F_M_feed {w : z_Wd} {a0 : Int} {a1 : Int} {a2 : Int} {a3 : Int} {a4 : Int} : z_fr [1] [(0, 2)] w (F_M_feed w a0 a1 a2 a3 a4).2 := by
  unfold F_M_feed
  exact (fr_i1 (fr_p1 (fr_tr fr_rf (fr_wk fr_A_M_feed_62 rfl rfl))) (fr_p1 fr_rf))
theorem fr_A_M_worthOf_6 {w : z_Wd} {a0 : Int} {n : Nat} : z_fr [10] [] w (A_M_worthOf_6 w a0 n) := by
  induction n with
  | zero =>
    exact fr_rf
  | succ n ih =>
    show z_fr [10] [] w (if (A_M_worthOf_6 w a0 n) 6 (((140 * a0) + (n : Int)).toNat) = (A_M_worthOf_6 w a0 n) 7 (((140 * a0) + (n : Int)).toNat) then A_M_worthOf_6 w a0 n else if (F_M_workOut (A_M_worthOf_6 w a0 n) a0 ((A_M_worthOf_6 w a0 n) 6 (((140 * a0) + (n : Int)).toNat)) ((A_M_worthOf_6 w a0 n) 7 (((140 * a0) + (n : Int)).toNat))).1 = 0 then (F_M_workOut (A_M_worthOf_6 w a0 n) a0 ((A_M_worthOf_6 w a0 n) 6 (((140 * a0) + (n : Int)).toNat)) ((A_M_worthOf_6 w a0 n) 7 (((140 * a0) + (n : Int)).toNat))).2 else A_M_worthOf_6 w a0 n)
    exact (fr_i0 ih (fr_i0 (fr_tr ih (fr_wk fr_F_M_workOut rfl rfl)) ih))
theorem fr_R_M_worthOf_6 {w : z_Wd} {a0 : Int} {i11 : Nat} : z_fr [10] [] w (R_M_worthOf_6 w a0 i11).2 := by
  unfold R_M_worthOf_6
  exact (fr_i1 (fr_p1 (fr_tr (fr_tr fr_rf (fr_wk fr_A_M_worthOf_6 rfl rfl)) (fr_wk fr_F_M_workOut rfl rfl))) (fr_i1 (fr_p1 fr_rf) (fr_p1 (fr_tr (fr_tr (fr_tr fr_rf (fr_wk fr_A_M_worthOf_6 rfl rfl)) (fr_wk fr_F_M_workOut rfl rfl)) (fr_wk fr_F_M_workOut rfl rfl)))))
theorem fr_F_M_worthOf {w : z_Wd} {a0 : Int} : z_fr [10] [] w (F_M_worthOf w a0).2 := by
  unfold F_M_worthOf
  exact (fr_i1 (fr_p1 (fr_tr fr_rf (fr_wk fr_A_M_worthOf_6 rfl rfl))) (fr_tr fr_rf (fr_wk fr_R_M_worthOf_6 rfl rfl)))
theorem fr_F_M_missedOf {w : z_Wd} {a0 : Int} : z_fr [9, 10] [] w (F_M_missedOf w a0).2 := by
  unfold F_M_missedOf
  exact (fr_i1 (fr_p1 fr_rf) (fr_i1 (fr_p1 (fr_tr (fr_up rfl (fr_up rfl (fr_up rfl (fr_up rfl (fr_up rfl (fr_up rfl fr_rf)))))) (fr_wk fr_F_M_worthOf rfl rfl))) (fr_p1 (fr_tr (fr_up rfl (fr_up rfl (fr_up rfl (fr_up rfl (fr_up rfl (fr_up rfl fr_rf)))))) (fr_wk fr_F_M_worthOf rfl rfl)))))
theorem fr_A_M_missedAll_4 {w : z_Wd} {n : Nat} : z_fr [9, 10] [] w (A_M_missedAll_4 w n).2 := by
  induction n with
  | zero =>
    exact (fr_p1 fr_rf)
  | succ n ih =>
    show z_fr [9, 10] [] w (if F_M_isFree ((A_M_missedAll_4 w n).2) (n : Int) = 0 then (((A_M_missedAll_4 w n).1) + ((F_M_missedOf ((A_M_missedAll_4 w n).2) (n : Int)).1), (F_M_missedOf ((A_M_missedAll_4 w n).2) (n : Int)).2) else ((A_M_missedAll_4 w n).1, (A_M_missedAll_4 w n).2)).2
    exact (fr_i1 (fr_p1 (fr_tr ih (fr_wk fr_F_M_missedOf rfl rfl))) (fr_p1 ih))
theorem fr_F_M_missedAll {w : z_Wd} : z_fr [9, 10] [] w (F_M_missedAll w).2 := by
  unfold F_M_missedAll
  exact (fr_p1 (fr_tr fr_rf (fr_wk fr_A_M_missedAll_4 rfl rfl)))
theorem fr_A_M_leastMissed_6 {w : z_Wd} {n : Nat} : z_fr [9, 10, 19, 22] [] w (A_M_leastMissed_6 w n).2.2 := by
  induction n with
  | zero =>
    exact (fr_p2 fr_rf)
  | succ n ih =>
    show z_fr [9, 10, 19, 22] [] w (if F_M_isFree ((A_M_leastMissed_6 w n).2.2) (n : Int) = 0 then ((A_M_leastMissed_6 w n).1, (A_M_leastMissed_6 w n).2.1, (A_M_leastMissed_6 w n).2.2) else if F_M_firstWell ((A_M_leastMissed_6 w n).2.2) (n : Int) = (-1) then ((A_M_leastMissed_6 w n).1, (A_M_leastMissed_6 w n).2.1, (A_M_leastMissed_6 w n).2.2) else if (A_M_leastMissed_6 w n).1 = (-1) then ((n : Int), (F_M_missedOf (F_M_dipNow (F_M_putAside ((A_M_leastMissed_6 w n).2.2) 0) (n : Int) (F_M_firstWell (F_M_putAside ((A_M_leastMissed_6 w n).2.2) 0) (n : Int))) (n : Int)).1, F_M_takeBack ((F_M_missedOf (F_M_dipNow (F_M_putAside ((A_M_leastMissed_6 w n).2.2) 0) (n : Int) (F_M_firstWell (F_M_putAside ((A_M_leastMissed_6 w n).2.2) 0) (n : Int))) (n : Int)).2) 0) else if (F_M_missedOf (F_M_dipNow (F_M_putAside ((A_M_leastMissed_6 w n).2.2) 0) (n : Int) (F_M_firstWell (F_M_putAside ((A_M_leastMissed_6 w n).2.2) 0) (n : Int))) (n : Int)).1 ≥ (A_M_leastMissed_6 w n).2.1 then ((A_M_leastMissed_6 w n).1, (A_M_leastMissed_6 w n).2.1, F_M_takeBack ((F_M_missedOf (F_M_dipNow (F_M_putAside ((A_M_leastMissed_6 w n).2.2) 0) (n : Int) (F_M_firstWell (F_M_putAside ((A_M_leastMissed_6 w n).2.2) 0) (n : Int))) (n : Int)).2) 0) else ((n : Int), (F_M_missedOf (F_M_dipNow (F_M_putAside ((A_M_leastMissed_6 w n).2.2) 0) (n : Int) (F_M_firstWell (F_M_putAside ((A_M_leastMissed_6 w n).2.2) 0) (n : Int))) (n : Int)).1, F_M_takeBack ((F_M_missedOf (F_M_dipNow (F_M_putAside ((A_M_leastMissed_6 w n).2.2) 0) (n : Int) (F_M_firstWell (F_M_putAside ((A_M_leastMissed_6 w n).2.2) 0) (n : Int))) (n : Int)).2) 0)).2.2
    exact (fr_i2 (fr_p2 ih) (fr_i2 (fr_p2 ih) (fr_i2 (fr_p2 (fr_tr (fr_tr (fr_tr (fr_tr ih (fr_wk fr_F_M_putAside rfl rfl)) (fr_wk fr_F_M_dipNow rfl rfl)) (fr_wk fr_F_M_missedOf rfl rfl)) (fr_wk fr_F_M_takeBack rfl rfl))) (fr_i2 (fr_p2 (fr_tr (fr_tr (fr_tr (fr_tr ih (fr_wk fr_F_M_putAside rfl rfl)) (fr_wk fr_F_M_dipNow rfl rfl)) (fr_wk fr_F_M_missedOf rfl rfl)) (fr_wk fr_F_M_takeBack rfl rfl))) (fr_p2 (fr_tr (fr_tr (fr_tr (fr_tr ih (fr_wk fr_F_M_putAside rfl rfl)) (fr_wk fr_F_M_dipNow rfl rfl)) (fr_wk fr_F_M_missedOf rfl rfl)) (fr_wk fr_F_M_takeBack rfl rfl)))))))
theorem fr_F_M_leastMissed {w : z_Wd} : z_fr [9, 10, 19, 22] [] w (F_M_leastMissed w).2 := by
  unfold F_M_leastMissed
  exact (fr_p1 (fr_tr fr_rf (fr_wk fr_A_M_leastMissed_6 rfl rfl)))
theorem fr_A_M_amnesty_6 {w : z_Wd} {n : Nat} : z_fr [9, 10, 19] [] w (A_M_amnesty_6 w n).2.2 := by
  induction n with
  | zero =>
    exact (fr_p2 fr_rf)
  | succ n ih =>
    show z_fr [9, 10, 19] [] w (if (A_M_amnesty_6 w n).1 = (-1) then ((n : Int), (F_M_missedAll (z_up ((A_M_amnesty_6 w n).2.2) 19 ((n : Int).toNat) 0)).1, z_up ((F_M_missedAll (z_up ((A_M_amnesty_6 w n).2.2) 19 ((n : Int).toNat) 0)).2) 19 ((n : Int).toNat) (((A_M_amnesty_6 w n).2.2) 19 ((n : Int).toNat))) else if (F_M_missedAll (z_up ((A_M_amnesty_6 w n).2.2) 19 ((n : Int).toNat) 0)).1 ≥ (A_M_amnesty_6 w n).2.1 then ((A_M_amnesty_6 w n).1, (A_M_amnesty_6 w n).2.1, z_up ((F_M_missedAll (z_up ((A_M_amnesty_6 w n).2.2) 19 ((n : Int).toNat) 0)).2) 19 ((n : Int).toNat) (((A_M_amnesty_6 w n).2.2) 19 ((n : Int).toNat))) else ((n : Int), (F_M_missedAll (z_up ((A_M_amnesty_6 w n).2.2) 19 ((n : Int).toNat) 0)).1, z_up ((F_M_missedAll (z_up ((A_M_amnesty_6 w n).2.2) 19 ((n : Int).toNat) 0)).2) 19 ((n : Int).toNat) (((A_M_amnesty_6 w n).2.2) 19 ((n : Int).toNat)))).2.2
    exact (fr_i2 (fr_p2 (fr_up rfl (fr_tr (fr_up rfl ih) (fr_wk fr_F_M_missedAll rfl rfl)))) (fr_i2 (fr_p2 (fr_up rfl (fr_tr (fr_up rfl ih) (fr_wk fr_F_M_missedAll rfl rfl)))) (fr_p2 (fr_up rfl (fr_tr (fr_up rfl ih) (fr_wk fr_F_M_missedAll rfl rfl))))))
theorem fr_F_M_amnesty {w : z_Wd} : z_fr [9, 10, 19] [] w (F_M_amnesty w).2 := by
  unfold F_M_amnesty
  exact (fr_p1 (fr_tr fr_rf (fr_wk fr_A_M_amnesty_6 rfl rfl)))
theorem fr_F_M_most {w : z_Wd} {a0 : Int} : z_fr [9, 10, 19, 22] [] w (F_M_most w a0).2 := by
  unfold F_M_most
  exact (fr_i1 (fr_p1 fr_rf) (fr_i1 (fr_p1 (fr_tr fr_rf (fr_wk fr_F_M_leastMissed rfl rfl))) (fr_i1 (fr_p1 fr_rf) (fr_i1 (fr_p1 (fr_tr fr_rf (fr_wk fr_F_M_amnesty rfl rfl))) (fr_i1 (fr_p1 fr_rf) (fr_i1 (fr_p1 fr_rf) (fr_i1 (fr_p1 fr_rf) (fr_i1 (fr_p1 fr_rf) (fr_i1 (fr_p1 fr_rf) (fr_p1 fr_rf))))))))))
theorem fr_R_M_quiet_27 {w : z_Wd} {a0 : Int} {i7 : Nat} : z_fr [9, 10] [] w (R_M_quiet_27 w a0 i7).2 := by
  unfold R_M_quiet_27
  exact (fr_i1 (fr_p1 fr_rf) (fr_p1 (fr_tr fr_rf (fr_wk fr_F_M_missedAll rfl rfl))))
theorem fr_F_M_quiet {w : z_Wd} {a0 : Int} : z_fr [9, 10] [] w (F_M_quiet w a0).2 := by
  unfold F_M_quiet
  exact (fr_i1 (fr_p1 fr_rf) (fr_i1 (fr_p1 fr_rf) (fr_i1 (fr_p1 (fr_tr fr_rf (fr_wk fr_F_M_missedAll rfl rfl))) (fr_tr fr_rf (fr_wk fr_R_M_quiet_27 rfl rfl)))))
theorem fr_F_M_name {w : z_Wd} {a0 : Int} {a1 : Int} : z_fr [9, 10] [(0, 0)] w (F_M_name w a0 a1).2 := by
  unfold F_M_name
  exact (fr_i1 (fr_p1 (fr_uf rfl fr_rf)) (fr_i1 (fr_p1 (fr_uf rfl fr_rf)) (fr_i1 (fr_p1 (fr_uf rfl fr_rf)) (fr_i1 (fr_p1 (fr_uf rfl fr_rf)) (fr_i1 (fr_p1 (fr_tr (fr_uf rfl fr_rf) (fr_wk fr_F_M_missedOf rfl rfl))) (fr_p1 (fr_uf rfl fr_rf)))))))
theorem fr_z_py0 {w : z_Wd} : z_fr [9, 10, 19] [] w (z_py0 w) := by
  unfold z_py0
  exact (fr_up rfl (fr_up rfl (fr_tr fr_rf (fr_wk fr_F_M_missedAll rfl rfl))))
theorem fr_z_py1 {w : z_Wd} : z_fr [19] [] w (z_py1 w) := by
  unfold z_py1
  exact (fr_i0 (fr_up rfl (fr_cp rfl fr_rf)) fr_rf)
theorem fr_z_py2 {w : z_Wd} {mi : Int} {st : Int} : z_fr [19] [] w (z_py2 w mi st) := by
  unfold z_py2
  exact (fr_up rfl (fr_up rfl (fr_up rfl (fr_up rfl fr_rf))))
theorem fr_F_M_passYear {w : z_Wd} : z_fr [9, 10, 19] [] w (F_M_passYear w) := by
  unfold F_M_passYear
  exact (fr_tr (fr_tr (fr_tr fr_rf (fr_wk fr_z_py0 rfl rfl)) (fr_wk fr_z_py1 rfl rfl)) (fr_wk fr_z_py2 rfl rfl))
theorem fr_A_M_years_49 {w : z_Wd} {a0 : Int} {n : Nat} : z_fr [9, 10, 19, 20, 21] [(0, 36)] w (A_M_years_49 w a0 n) := by
  induction n with
  | zero =>
    exact (fr_tr fr_rf (fr_wk fr_F_M_isRefused rfl rfl))
  | succ n ih =>
    show z_fr [9, 10, 19, 20, 21] [(0, 36)] w (F_M_passYear (F_M_keep (A_M_years_49 w a0 n)))
    exact (fr_tr (fr_tr ih (fr_wk fr_F_M_keep rfl rfl)) (fr_wk fr_F_M_passYear rfl rfl))
theorem fr_A_M_years_49x2 {w : z_Wd} {a0 : Int} {n : Nat} : z_fr [9, 10, 19, 20, 21] [(0, 36)] w (A_M_years_49x2 w a0 n) := by
  induction n with
  | zero =>
    exact (fr_tr fr_rf (fr_wk fr_F_M_isRefused rfl rfl))
  | succ n ih =>
    show z_fr [9, 10, 19, 20, 21] [(0, 36)] w (F_M_passYear (F_M_keep (A_M_years_49x2 w a0 n)))
    exact (fr_tr (fr_tr ih (fr_wk fr_F_M_keep rfl rfl)) (fr_wk fr_F_M_passYear rfl rfl))
theorem fr_A_M_years_49x3 {w : z_Wd} {a0 : Int} {n : Nat} : z_fr [9, 10, 19, 20, 21] [(0, 36)] w (A_M_years_49x3 w a0 n) := by
  induction n with
  | zero =>
    exact (fr_tr fr_rf (fr_wk fr_F_M_isRefused rfl rfl))
  | succ n ih =>
    show z_fr [9, 10, 19, 20, 21] [(0, 36)] w (F_M_passYear (F_M_keep (A_M_years_49x3 w a0 n)))
    exact (fr_tr (fr_tr ih (fr_wk fr_F_M_keep rfl rfl)) (fr_wk fr_F_M_passYear rfl rfl))
theorem fr_A_M_years_49x4 {w : z_Wd} {a0 : Int} {n : Nat} : z_fr [9, 10, 19, 20, 21] [(0, 36)] w (A_M_years_49x4 w a0 n) := by
  induction n with
  | zero =>
    exact (fr_tr fr_rf (fr_wk fr_F_M_isRefused rfl rfl))
  | succ n ih =>
    show z_fr [9, 10, 19, 20, 21] [(0, 36)] w (F_M_passYear (F_M_keep (A_M_years_49x4 w a0 n)))
    exact (fr_tr (fr_tr ih (fr_wk fr_F_M_keep rfl rfl)) (fr_wk fr_F_M_passYear rfl rfl))
theorem fr_F_M_years {w : z_Wd} {a0 : Int} : z_fr [9, 10, 19, 20, 21] [(0, 36)] w (F_M_years w a0).2 := by
  unfold F_M_years
  exact (fr_i1 (fr_i1 (fr_p1 (fr_tr fr_rf (fr_wk fr_A_M_years_49x4 rfl rfl))) (fr_p1 (fr_tr fr_rf (fr_wk fr_F_M_isRefused rfl rfl)))) (fr_i1 (fr_i1 (fr_p1 (fr_tr fr_rf (fr_wk fr_A_M_years_49x3 rfl rfl))) (fr_p1 (fr_tr fr_rf (fr_wk fr_F_M_isRefused rfl rfl)))) (fr_i1 (fr_i1 (fr_p1 (fr_tr fr_rf (fr_wk fr_A_M_years_49x2 rfl rfl))) (fr_p1 (fr_tr fr_rf (fr_wk fr_F_M_isRefused rfl rfl)))) (fr_i1 (fr_p1 (fr_tr fr_rf (fr_wk fr_A_M_years_49 rfl rfl))) (fr_p1 (fr_tr fr_rf (fr_wk fr_F_M_isRefused rfl rfl)))))))
theorem fr_A_M_decades_25 {w : z_Wd} {a0 : Int} {a1 : Int} {n : Nat} : z_fr [9, 10, 19, 21] [(0, 36), (0, 37)] w (A_M_decades_25 w a0 a1 n) := by
  induction n with
  | zero =>
    exact (fr_uf rfl fr_rf)
  | succ n ih =>
    show z_fr [9, 10, 19, 21] [(0, 36), (0, 37)] w (F_M_passYear (F_M_drawYear (F_M_keep (A_M_decades_25 w a0 a1 n))))
    exact (fr_tr (fr_tr (fr_tr ih (fr_wk fr_F_M_keep rfl rfl)) (fr_wk fr_F_M_drawYear rfl rfl)) (fr_wk fr_F_M_passYear rfl rfl))
theorem fr_F_M_decades {w : z_Wd} {a0 : Int} {a1 : Int} : z_fr [9, 10, 19, 21] [(0, 36), (0, 37)] w (F_M_decades w a0 a1).2 := by
  unfold F_M_decades
  exact (fr_i1 (fr_p1 fr_rf) (fr_i1 (fr_p1 fr_rf) (fr_p1 (fr_tr fr_rf (fr_wk fr_A_M_decades_25 rfl rfl)))))
theorem fr_A_M_takeMinistry_151 {w : z_Wd} {sw : z_Wd} {n : Nat} : z_fr [19] [] sw (A_M_takeMinistry_151 w sw n) := by
  induction n with
  | zero =>
    exact fr_rf
  | succ n ih =>
    show z_fr [19] [] sw (z_up (A_M_takeMinistry_151 w sw n) 19 ((32 + (n : Int)).toNat) ((A_M_takeMinistry_151 w sw n) 16 ((2 * (n : Int)).toNat)))
    exact (fr_up rfl ih)
theorem fr_A_M_takeMinistry_129 {w : z_Wd} {sw : z_Wd} {n : Nat} : z_fr [19] [] sw (A_M_takeMinistry_129 w sw n) := by
  induction n with
  | zero =>
    exact fr_rf
  | succ n ih =>
    show z_fr [19] [] sw (z_up (A_M_takeMinistry_129 w sw n) 19 ((n : Int).toNat) 0)
    exact (fr_up rfl ih)
theorem fr_A_M_takeMinistry_103 {w : z_Wd} {sw : z_Wd} {n : Nat} : z_fr [18] [] sw (A_M_takeMinistry_103 w sw n) := by
  induction n with
  | zero =>
    exact fr_rf
  | succ n ih =>
    show z_fr [18] [] sw (z_up (A_M_takeMinistry_103 w sw n) 18 ((n : Int).toNat) ((A_M_takeMinistry_103 w sw n) 14 ((n : Int).toNat)))
    exact (fr_up rfl ih)
theorem fr_A_M_takeMinistry_77 {w : z_Wd} {sw : z_Wd} {n : Nat} : z_fr [17] [] sw (A_M_takeMinistry_77 w sw n) := by
  induction n with
  | zero =>
    exact fr_rf
  | succ n ih =>
    show z_fr [17] [] sw (z_up (A_M_takeMinistry_77 w sw n) 17 ((n : Int).toNat) ((A_M_takeMinistry_77 w sw n) 13 ((n : Int).toNat)))
    exact (fr_up rfl ih)
theorem fr_A_M_takeMinistry_51 {w : z_Wd} {sw : z_Wd} {n : Nat} : z_fr [16] [] sw (A_M_takeMinistry_51 w sw n) := by
  induction n with
  | zero =>
    exact fr_rf
  | succ n ih =>
    show z_fr [16] [] sw (z_up (A_M_takeMinistry_51 w sw n) 16 ((n : Int).toNat) ((A_M_takeMinistry_51 w sw n) 12 ((n : Int).toNat)))
    exact (fr_up rfl ih)
theorem fr_A_M_takeMinistry_26 {w : z_Wd} {n : Nat} : z_fr [15] [(0, 28), (0, 29), (0, 30)] w (A_M_takeMinistry_26 w n) := by
  induction n with
  | zero =>
    exact (fr_uf rfl (fr_uf rfl (fr_uf rfl fr_rf)))
  | succ n ih =>
    show z_fr [15] [(0, 28), (0, 29), (0, 30)] w (z_up (A_M_takeMinistry_26 w n) 15 ((n : Int).toNat) ((A_M_takeMinistry_26 w n) 11 ((n : Int).toNat)))
    exact (fr_up rfl ih)
theorem fr_F_M_takeMinistry {w : z_Wd} : z_fr [15, 16, 17, 18, 19] [(0, 28), (0, 29), (0, 30), (0, 36), (0, 43), (0, 45)] w (F_M_takeMinistry w).2 := by
  unfold F_M_takeMinistry
  exact (fr_p1 (fr_uf rfl (fr_uf rfl (fr_uf rfl (fr_up rfl (fr_tr (fr_tr (fr_tr (fr_tr (fr_tr (fr_tr fr_rf (fr_wk fr_A_M_takeMinistry_26 rfl rfl)) (fr_wk fr_A_M_takeMinistry_51 rfl rfl)) (fr_wk fr_A_M_takeMinistry_77 rfl rfl)) (fr_wk fr_A_M_takeMinistry_103 rfl rfl)) (fr_wk fr_A_M_takeMinistry_129 rfl rfl)) (fr_wk fr_A_M_takeMinistry_151 rfl rfl)))))))
theorem fr_L_M_look_0 {w : z_Wd} : ∀ {n : Nat} {wu : z_Wd}, z_fr [] [(0, 3)] w wu → z_fr [] [(0, 3)] w (L_M_look_0 w n wu).2 := by
  intro n
  induction n with
  | zero =>
    intro wu h
    exact fr_rf
  | succ n ih =>
    intro wu h
    show z_fr [] [(0, 3)] w (if F_M_here wu = 32 then L_M_look_0 w n (z_up wu 0 3 ((wu 0 3) + 1)) else (F_M_here wu, wu)).2
    exact (fr_i1 (ih (fr_uf rfl h)) (fr_p1 h))
theorem fr_F_M_look {w : z_Wd} : z_fr [] [(0, 3)] w (F_M_look w).2 := by
  unfold F_M_look
  exact (fr_L_M_look_0 fr_rf)
theorem fr_L_M_plainNumber_4 {w : z_Wd} : ∀ {n : Nat} {u1 : Int} {u2 : Int} {wu : z_Wd}, z_fr [] [(0, 3), (0, 4)] w wu → z_fr [] [(0, 3), (0, 4)] w (L_M_plainNumber_4 w n u1 u2 wu).2 := by
  intro n
  induction n with
  | zero =>
    intro u1 u2 wu h
    exact fr_rf
  | succ n ih =>
    intro u1 u2 wu h
    show z_fr [] [(0, 3), (0, 4)] w (if u2 ≥ 4 then if F_M_isDigit wu (F_M_here wu) = 0 then (u1, wu) else (u1, F_M_bad wu) else if F_M_isDigit wu (F_M_here wu) = 0 then if F_M_isDigit wu (F_M_here wu) = 0 then (u1, wu) else (u1, F_M_bad wu) else L_M_plainNumber_4 w n (((10 * u1) + (F_M_here wu)) - 48) (u2 + 1) (z_up wu 0 3 ((wu 0 3) + 1))).2
    exact (fr_i1 (fr_i1 (fr_p1 h) (fr_p1 (fr_tr h (fr_wk fr_F_M_bad rfl rfl)))) (fr_i1 (fr_i1 (fr_p1 h) (fr_p1 (fr_tr h (fr_wk fr_F_M_bad rfl rfl)))) (ih (fr_uf rfl h))))
theorem fr_F_M_plainNumber {w : z_Wd} : z_fr [] [(0, 3), (0, 4)] w (F_M_plainNumber w).2 := by
  unfold F_M_plainNumber
  exact (fr_L_M_plainNumber_4 fr_rf)
theorem fr_F_M_closes {w : z_Wd} {a0 : Int} : z_fr [] [(0, 3), (0, 4), (0, 5)] w (F_M_closes w a0) := by
  unfold F_M_closes
  exact (fr_i0 (fr_i0 (fr_uf rfl (fr_uf rfl (fr_tr fr_rf (fr_wk fr_F_M_look rfl rfl)))) (fr_uf rfl (fr_uf rfl (fr_tr (fr_tr fr_rf (fr_wk fr_F_M_look rfl rfl)) (fr_wk fr_F_M_bad rfl rfl))))) (fr_uf rfl (fr_uf rfl fr_rf)))
theorem fr_F_M_number {w : z_Wd} {a0 : Int} {a1 : Int} : z_fr [] [(0, 3), (0, 4)] w (F_M_number w a0 a1).2 := by
  unfold F_M_number
  exact (fr_i1 (fr_p1 (fr_tr (fr_tr fr_rf (fr_wk fr_F_M_look rfl rfl)) (fr_wk fr_F_M_bad rfl rfl))) (fr_i1 (fr_i1 (fr_i1 (fr_p1 (fr_tr (fr_uf rfl (fr_uf rfl (fr_tr fr_rf (fr_wk fr_F_M_look rfl rfl)))) (fr_wk fr_F_M_bad rfl rfl))) (fr_p1 (fr_uf rfl (fr_tr fr_rf (fr_wk fr_F_M_look rfl rfl))))) (fr_p1 (fr_tr (fr_uf rfl (fr_tr fr_rf (fr_wk fr_F_M_look rfl rfl))) (fr_wk fr_F_M_bad rfl rfl)))) (fr_i1 (fr_i1 (fr_p1 (fr_tr (fr_uf rfl (fr_uf rfl (fr_uf rfl (fr_tr fr_rf (fr_wk fr_F_M_look rfl rfl))))) (fr_wk fr_F_M_bad rfl rfl))) (fr_p1 (fr_uf rfl (fr_uf rfl (fr_tr fr_rf (fr_wk fr_F_M_look rfl rfl)))))) (fr_p1 (fr_tr (fr_uf rfl (fr_uf rfl (fr_tr fr_rf (fr_wk fr_F_M_look rfl rfl)))) (fr_wk fr_F_M_bad rfl rfl))))))
theorem fr_F_M_atEnd {w : z_Wd} : z_fr [] [(0, 3), (0, 4)] w (F_M_atEnd w).2 := by
  unfold F_M_atEnd
  exact (fr_i1 (fr_i1 (fr_p1 (fr_tr fr_rf (fr_wk fr_F_M_look rfl rfl))) (fr_p1 (fr_tr (fr_tr fr_rf (fr_wk fr_F_M_look rfl rfl)) (fr_wk fr_F_M_bad rfl rfl)))) (fr_p1 fr_rf))
theorem fr_L_M_items_11_41 {w : z_Wd} {a0 : Int} {a2 : Int} : ∀ {n : Nat} {u5 : Int} {u6 : Int} {wu : z_Wd}, z_fr [11] [(0, 3), (0, 4)] w wu → z_fr [11] [(0, 3), (0, 4)] w (L_M_items_11_41 w a0 a2 n u5 u6 wu) := by
  intro n
  induction n with
  | zero =>
    intro u5 u6 wu h
    exact fr_rf
  | succ n ih =>
    intro u5 u6 wu h
    show z_fr [11] [(0, 3), (0, 4)] w (if wu 0 4 = (-1) then if u6 = (-1) then wu else if F_M_has wu u5 u6 = 0 then if ((F_M_number (z_up wu 0 3 ((wu 0 3) + 1)) (F_M_lowest (z_up wu 0 3 ((wu 0 3) + 1)) a0 u6) (F_M_highest (z_up wu 0 3 ((wu 0 3) + 1)) a0 u6)).2) 0 4 = (-1) then L_M_items_11_41 w a0 a2 n (zz_or u5 (zz_shl 1 u6)) (F_M_itemOf ((F_M_look (z_up ((F_M_number (z_up wu 0 3 ((wu 0 3) + 1)) (F_M_lowest (z_up wu 0 3 ((wu 0 3) + 1)) a0 u6) (F_M_highest (z_up wu 0 3 ((wu 0 3) + 1)) a0 u6)).2) 11 ((a2 + u6).toNat) ((F_M_number (z_up wu 0 3 ((wu 0 3) + 1)) (F_M_lowest (z_up wu 0 3 ((wu 0 3) + 1)) a0 u6) (F_M_highest (z_up wu 0 3 ((wu 0 3) + 1)) a0 u6)).1))).2) a0 ((F_M_look (z_up ((F_M_number (z_up wu 0 3 ((wu 0 3) + 1)) (F_M_lowest (z_up wu 0 3 ((wu 0 3) + 1)) a0 u6) (F_M_highest (z_up wu 0 3 ((wu 0 3) + 1)) a0 u6)).2) 11 ((a2 + u6).toNat) ((F_M_number (z_up wu 0 3 ((wu 0 3) + 1)) (F_M_lowest (z_up wu 0 3 ((wu 0 3) + 1)) a0 u6) (F_M_highest (z_up wu 0 3 ((wu 0 3) + 1)) a0 u6)).1))).1)) ((F_M_look (z_up ((F_M_number (z_up wu 0 3 ((wu 0 3) + 1)) (F_M_lowest (z_up wu 0 3 ((wu 0 3) + 1)) a0 u6) (F_M_highest (z_up wu 0 3 ((wu 0 3) + 1)) a0 u6)).2) 11 ((a2 + u6).toNat) ((F_M_number (z_up wu 0 3 ((wu 0 3) + 1)) (F_M_lowest (z_up wu 0 3 ((wu 0 3) + 1)) a0 u6) (F_M_highest (z_up wu 0 3 ((wu 0 3) + 1)) a0 u6)).1))).2) else L_M_items_11_41 w a0 a2 n (zz_or u5 (zz_shl 1 u6)) (-1) (z_up ((F_M_number (z_up wu 0 3 ((wu 0 3) + 1)) (F_M_lowest (z_up wu 0 3 ((wu 0 3) + 1)) a0 u6) (F_M_highest (z_up wu 0 3 ((wu 0 3) + 1)) a0 u6)).2) 11 ((a2 + u6).toNat) ((F_M_number (z_up wu 0 3 ((wu 0 3) + 1)) (F_M_lowest (z_up wu 0 3 ((wu 0 3) + 1)) a0 u6) (F_M_highest (z_up wu 0 3 ((wu 0 3) + 1)) a0 u6)).1)) else wu else wu)
    exact (fr_i0 (fr_i0 h (fr_i0 (fr_i0 (ih (fr_tr (fr_up rfl (fr_tr (fr_uf rfl h) (fr_wk fr_F_M_number rfl rfl))) (fr_wk fr_F_M_look rfl rfl))) (ih (fr_up rfl (fr_tr (fr_uf rfl h) (fr_wk fr_F_M_number rfl rfl))))) h)) h)
theorem fr_A_M_items_11_3 {w : z_Wd} {a0 : Int} {a2 : Int} {a3 : Int} {n : Nat} : z_fr [11] [] w (A_M_items_11_3 w a0 a2 a3 n) := by
  induction n with
  | zero =>
    exact fr_rf
  | succ n ih =>
    show z_fr [11] [] w (z_up (A_M_items_11_3 w a0 a2 a3 n) 11 ((a2 + (n : Int)).toNat) (F_M_usual (A_M_items_11_3 w a0 a2 a3 n) a0 (n : Int)))
    exact (fr_up rfl ih)
theorem fr_F_M_items_11 {w : z_Wd} {a0 : Int} {a2 : Int} {a3 : Int} : z_fr [11] [(0, 3), (0, 4)] w (F_M_items_11 w a0 a2 a3) := by
  unfold F_M_items_11
  exact (fr_L_M_items_11_41 (fr_tr (fr_tr fr_rf (fr_wk fr_A_M_items_11_3 rfl rfl)) (fr_wk fr_F_M_look rfl rfl)))
theorem fr_L_M_items_12_41 {w : z_Wd} {a0 : Int} {a2 : Int} : ∀ {n : Nat} {u5 : Int} {u6 : Int} {wu : z_Wd}, z_fr [12] [(0, 3), (0, 4)] w wu → z_fr [12] [(0, 3), (0, 4)] w (L_M_items_12_41 w a0 a2 n u5 u6 wu) := by
  intro n
  induction n with
  | zero =>
    intro u5 u6 wu h
    exact fr_rf
  | succ n ih =>
    intro u5 u6 wu h
    show z_fr [12] [(0, 3), (0, 4)] w (if wu 0 4 = (-1) then if u6 = (-1) then wu else if F_M_has wu u5 u6 = 0 then if ((F_M_number (z_up wu 0 3 ((wu 0 3) + 1)) (F_M_lowest (z_up wu 0 3 ((wu 0 3) + 1)) a0 u6) (F_M_highest (z_up wu 0 3 ((wu 0 3) + 1)) a0 u6)).2) 0 4 = (-1) then L_M_items_12_41 w a0 a2 n (zz_or u5 (zz_shl 1 u6)) (F_M_itemOf ((F_M_look (z_up ((F_M_number (z_up wu 0 3 ((wu 0 3) + 1)) (F_M_lowest (z_up wu 0 3 ((wu 0 3) + 1)) a0 u6) (F_M_highest (z_up wu 0 3 ((wu 0 3) + 1)) a0 u6)).2) 12 ((a2 + u6).toNat) ((F_M_number (z_up wu 0 3 ((wu 0 3) + 1)) (F_M_lowest (z_up wu 0 3 ((wu 0 3) + 1)) a0 u6) (F_M_highest (z_up wu 0 3 ((wu 0 3) + 1)) a0 u6)).1))).2) a0 ((F_M_look (z_up ((F_M_number (z_up wu 0 3 ((wu 0 3) + 1)) (F_M_lowest (z_up wu 0 3 ((wu 0 3) + 1)) a0 u6) (F_M_highest (z_up wu 0 3 ((wu 0 3) + 1)) a0 u6)).2) 12 ((a2 + u6).toNat) ((F_M_number (z_up wu 0 3 ((wu 0 3) + 1)) (F_M_lowest (z_up wu 0 3 ((wu 0 3) + 1)) a0 u6) (F_M_highest (z_up wu 0 3 ((wu 0 3) + 1)) a0 u6)).1))).1)) ((F_M_look (z_up ((F_M_number (z_up wu 0 3 ((wu 0 3) + 1)) (F_M_lowest (z_up wu 0 3 ((wu 0 3) + 1)) a0 u6) (F_M_highest (z_up wu 0 3 ((wu 0 3) + 1)) a0 u6)).2) 12 ((a2 + u6).toNat) ((F_M_number (z_up wu 0 3 ((wu 0 3) + 1)) (F_M_lowest (z_up wu 0 3 ((wu 0 3) + 1)) a0 u6) (F_M_highest (z_up wu 0 3 ((wu 0 3) + 1)) a0 u6)).1))).2) else L_M_items_12_41 w a0 a2 n (zz_or u5 (zz_shl 1 u6)) (-1) (z_up ((F_M_number (z_up wu 0 3 ((wu 0 3) + 1)) (F_M_lowest (z_up wu 0 3 ((wu 0 3) + 1)) a0 u6) (F_M_highest (z_up wu 0 3 ((wu 0 3) + 1)) a0 u6)).2) 12 ((a2 + u6).toNat) ((F_M_number (z_up wu 0 3 ((wu 0 3) + 1)) (F_M_lowest (z_up wu 0 3 ((wu 0 3) + 1)) a0 u6) (F_M_highest (z_up wu 0 3 ((wu 0 3) + 1)) a0 u6)).1)) else wu else wu)
    exact (fr_i0 (fr_i0 h (fr_i0 (fr_i0 (ih (fr_tr (fr_up rfl (fr_tr (fr_uf rfl h) (fr_wk fr_F_M_number rfl rfl))) (fr_wk fr_F_M_look rfl rfl))) (ih (fr_up rfl (fr_tr (fr_uf rfl h) (fr_wk fr_F_M_number rfl rfl))))) h)) h)
theorem fr_A_M_items_12_3 {w : z_Wd} {a0 : Int} {a2 : Int} {a3 : Int} {n : Nat} : z_fr [12] [] w (A_M_items_12_3 w a0 a2 a3 n) := by
  induction n with
  | zero =>
    exact fr_rf
  | succ n ih =>
    show z_fr [12] [] w (z_up (A_M_items_12_3 w a0 a2 a3 n) 12 ((a2 + (n : Int)).toNat) (F_M_usual (A_M_items_12_3 w a0 a2 a3 n) a0 (n : Int)))
    exact (fr_up rfl ih)
theorem fr_F_M_items_12 {w : z_Wd} {a0 : Int} {a2 : Int} {a3 : Int} : z_fr [12] [(0, 3), (0, 4)] w (F_M_items_12 w a0 a2 a3) := by
  unfold F_M_items_12
  exact (fr_L_M_items_12_41 (fr_tr (fr_tr fr_rf (fr_wk fr_A_M_items_12_3 rfl rfl)) (fr_wk fr_F_M_look rfl rfl)))
theorem fr_L_M_items_13_41 {w : z_Wd} {a0 : Int} {a2 : Int} : ∀ {n : Nat} {u5 : Int} {u6 : Int} {wu : z_Wd}, z_fr [13] [(0, 3), (0, 4)] w wu → z_fr [13] [(0, 3), (0, 4)] w (L_M_items_13_41 w a0 a2 n u5 u6 wu) := by
  intro n
  induction n with
  | zero =>
    intro u5 u6 wu h
    exact fr_rf
  | succ n ih =>
    intro u5 u6 wu h
    show z_fr [13] [(0, 3), (0, 4)] w (if wu 0 4 = (-1) then if u6 = (-1) then wu else if F_M_has wu u5 u6 = 0 then if ((F_M_number (z_up wu 0 3 ((wu 0 3) + 1)) (F_M_lowest (z_up wu 0 3 ((wu 0 3) + 1)) a0 u6) (F_M_highest (z_up wu 0 3 ((wu 0 3) + 1)) a0 u6)).2) 0 4 = (-1) then L_M_items_13_41 w a0 a2 n (zz_or u5 (zz_shl 1 u6)) (F_M_itemOf ((F_M_look (z_up ((F_M_number (z_up wu 0 3 ((wu 0 3) + 1)) (F_M_lowest (z_up wu 0 3 ((wu 0 3) + 1)) a0 u6) (F_M_highest (z_up wu 0 3 ((wu 0 3) + 1)) a0 u6)).2) 13 ((a2 + u6).toNat) ((F_M_number (z_up wu 0 3 ((wu 0 3) + 1)) (F_M_lowest (z_up wu 0 3 ((wu 0 3) + 1)) a0 u6) (F_M_highest (z_up wu 0 3 ((wu 0 3) + 1)) a0 u6)).1))).2) a0 ((F_M_look (z_up ((F_M_number (z_up wu 0 3 ((wu 0 3) + 1)) (F_M_lowest (z_up wu 0 3 ((wu 0 3) + 1)) a0 u6) (F_M_highest (z_up wu 0 3 ((wu 0 3) + 1)) a0 u6)).2) 13 ((a2 + u6).toNat) ((F_M_number (z_up wu 0 3 ((wu 0 3) + 1)) (F_M_lowest (z_up wu 0 3 ((wu 0 3) + 1)) a0 u6) (F_M_highest (z_up wu 0 3 ((wu 0 3) + 1)) a0 u6)).1))).1)) ((F_M_look (z_up ((F_M_number (z_up wu 0 3 ((wu 0 3) + 1)) (F_M_lowest (z_up wu 0 3 ((wu 0 3) + 1)) a0 u6) (F_M_highest (z_up wu 0 3 ((wu 0 3) + 1)) a0 u6)).2) 13 ((a2 + u6).toNat) ((F_M_number (z_up wu 0 3 ((wu 0 3) + 1)) (F_M_lowest (z_up wu 0 3 ((wu 0 3) + 1)) a0 u6) (F_M_highest (z_up wu 0 3 ((wu 0 3) + 1)) a0 u6)).1))).2) else L_M_items_13_41 w a0 a2 n (zz_or u5 (zz_shl 1 u6)) (-1) (z_up ((F_M_number (z_up wu 0 3 ((wu 0 3) + 1)) (F_M_lowest (z_up wu 0 3 ((wu 0 3) + 1)) a0 u6) (F_M_highest (z_up wu 0 3 ((wu 0 3) + 1)) a0 u6)).2) 13 ((a2 + u6).toNat) ((F_M_number (z_up wu 0 3 ((wu 0 3) + 1)) (F_M_lowest (z_up wu 0 3 ((wu 0 3) + 1)) a0 u6) (F_M_highest (z_up wu 0 3 ((wu 0 3) + 1)) a0 u6)).1)) else wu else wu)
    exact (fr_i0 (fr_i0 h (fr_i0 (fr_i0 (ih (fr_tr (fr_up rfl (fr_tr (fr_uf rfl h) (fr_wk fr_F_M_number rfl rfl))) (fr_wk fr_F_M_look rfl rfl))) (ih (fr_up rfl (fr_tr (fr_uf rfl h) (fr_wk fr_F_M_number rfl rfl))))) h)) h)
theorem fr_A_M_items_13_3 {w : z_Wd} {a0 : Int} {a2 : Int} {a3 : Int} {n : Nat} : z_fr [13] [] w (A_M_items_13_3 w a0 a2 a3 n) := by
  induction n with
  | zero =>
    exact fr_rf
  | succ n ih =>
    show z_fr [13] [] w (z_up (A_M_items_13_3 w a0 a2 a3 n) 13 ((a2 + (n : Int)).toNat) (F_M_usual (A_M_items_13_3 w a0 a2 a3 n) a0 (n : Int)))
    exact (fr_up rfl ih)
theorem fr_F_M_items_13 {w : z_Wd} {a0 : Int} {a2 : Int} {a3 : Int} : z_fr [13] [(0, 3), (0, 4)] w (F_M_items_13 w a0 a2 a3) := by
  unfold F_M_items_13
  exact (fr_L_M_items_13_41 (fr_tr (fr_tr fr_rf (fr_wk fr_A_M_items_13_3 rfl rfl)) (fr_wk fr_F_M_look rfl rfl)))
theorem fr_L_M_items_14_41 {w : z_Wd} {a0 : Int} {a2 : Int} : ∀ {n : Nat} {u5 : Int} {u6 : Int} {wu : z_Wd}, z_fr [14] [(0, 3), (0, 4)] w wu → z_fr [14] [(0, 3), (0, 4)] w (L_M_items_14_41 w a0 a2 n u5 u6 wu) := by
  intro n
  induction n with
  | zero =>
    intro u5 u6 wu h
    exact fr_rf
  | succ n ih =>
    intro u5 u6 wu h
    show z_fr [14] [(0, 3), (0, 4)] w (if wu 0 4 = (-1) then if u6 = (-1) then wu else if F_M_has wu u5 u6 = 0 then if ((F_M_number (z_up wu 0 3 ((wu 0 3) + 1)) (F_M_lowest (z_up wu 0 3 ((wu 0 3) + 1)) a0 u6) (F_M_highest (z_up wu 0 3 ((wu 0 3) + 1)) a0 u6)).2) 0 4 = (-1) then L_M_items_14_41 w a0 a2 n (zz_or u5 (zz_shl 1 u6)) (F_M_itemOf ((F_M_look (z_up ((F_M_number (z_up wu 0 3 ((wu 0 3) + 1)) (F_M_lowest (z_up wu 0 3 ((wu 0 3) + 1)) a0 u6) (F_M_highest (z_up wu 0 3 ((wu 0 3) + 1)) a0 u6)).2) 14 ((a2 + u6).toNat) ((F_M_number (z_up wu 0 3 ((wu 0 3) + 1)) (F_M_lowest (z_up wu 0 3 ((wu 0 3) + 1)) a0 u6) (F_M_highest (z_up wu 0 3 ((wu 0 3) + 1)) a0 u6)).1))).2) a0 ((F_M_look (z_up ((F_M_number (z_up wu 0 3 ((wu 0 3) + 1)) (F_M_lowest (z_up wu 0 3 ((wu 0 3) + 1)) a0 u6) (F_M_highest (z_up wu 0 3 ((wu 0 3) + 1)) a0 u6)).2) 14 ((a2 + u6).toNat) ((F_M_number (z_up wu 0 3 ((wu 0 3) + 1)) (F_M_lowest (z_up wu 0 3 ((wu 0 3) + 1)) a0 u6) (F_M_highest (z_up wu 0 3 ((wu 0 3) + 1)) a0 u6)).1))).1)) ((F_M_look (z_up ((F_M_number (z_up wu 0 3 ((wu 0 3) + 1)) (F_M_lowest (z_up wu 0 3 ((wu 0 3) + 1)) a0 u6) (F_M_highest (z_up wu 0 3 ((wu 0 3) + 1)) a0 u6)).2) 14 ((a2 + u6).toNat) ((F_M_number (z_up wu 0 3 ((wu 0 3) + 1)) (F_M_lowest (z_up wu 0 3 ((wu 0 3) + 1)) a0 u6) (F_M_highest (z_up wu 0 3 ((wu 0 3) + 1)) a0 u6)).1))).2) else L_M_items_14_41 w a0 a2 n (zz_or u5 (zz_shl 1 u6)) (-1) (z_up ((F_M_number (z_up wu 0 3 ((wu 0 3) + 1)) (F_M_lowest (z_up wu 0 3 ((wu 0 3) + 1)) a0 u6) (F_M_highest (z_up wu 0 3 ((wu 0 3) + 1)) a0 u6)).2) 14 ((a2 + u6).toNat) ((F_M_number (z_up wu 0 3 ((wu 0 3) + 1)) (F_M_lowest (z_up wu 0 3 ((wu 0 3) + 1)) a0 u6) (F_M_highest (z_up wu 0 3 ((wu 0 3) + 1)) a0 u6)).1)) else wu else wu)
    exact (fr_i0 (fr_i0 h (fr_i0 (fr_i0 (ih (fr_tr (fr_up rfl (fr_tr (fr_uf rfl h) (fr_wk fr_F_M_number rfl rfl))) (fr_wk fr_F_M_look rfl rfl))) (ih (fr_up rfl (fr_tr (fr_uf rfl h) (fr_wk fr_F_M_number rfl rfl))))) h)) h)
theorem fr_A_M_items_14_3 {w : z_Wd} {a0 : Int} {a2 : Int} {a3 : Int} {n : Nat} : z_fr [14] [] w (A_M_items_14_3 w a0 a2 a3 n) := by
  induction n with
  | zero =>
    exact fr_rf
  | succ n ih =>
    show z_fr [14] [] w (z_up (A_M_items_14_3 w a0 a2 a3 n) 14 ((a2 + (n : Int)).toNat) (F_M_usual (A_M_items_14_3 w a0 a2 a3 n) a0 (n : Int)))
    exact (fr_up rfl ih)
theorem fr_F_M_items_14 {w : z_Wd} {a0 : Int} {a2 : Int} {a3 : Int} : z_fr [14] [(0, 3), (0, 4)] w (F_M_items_14 w a0 a2 a3) := by
  unfold F_M_items_14
  exact (fr_L_M_items_14_41 (fr_tr (fr_tr fr_rf (fr_wk fr_A_M_items_14_3 rfl rfl)) (fr_wk fr_F_M_look rfl rfl)))
theorem fr_F_M_clauseText {w : z_Wd} {a0 : Int} : z_fr [11, 12, 13, 14] [(0, 3), (0, 4), (0, 21), (0, 22), (0, 23)] w (F_M_clauseText w a0) := by
  unfold F_M_clauseText
  exact (fr_i0 (fr_uf rfl (fr_tr (fr_uf rfl fr_rf) (fr_wk fr_F_M_items_13 rfl rfl))) (fr_i0 (fr_tr (fr_uf rfl fr_rf) (fr_wk fr_F_M_items_11 rfl rfl)) (fr_i0 (fr_uf rfl (fr_tr (fr_uf rfl fr_rf) (fr_wk fr_F_M_items_12 rfl rfl))) (fr_uf rfl (fr_tr (fr_uf rfl fr_rf) (fr_wk fr_F_M_items_14 rfl rfl))))))
theorem fr_F_M_oddsFrom : ∀ (n : Nat) (w : z_Wd) (a0 : Int) (a1 : Int) (a2 : Int) (a3 : Int) (a4 : Int), z_fr [19, 22] [] w (F_M_oddsFrom n w a0 a1 a2 a3 a4).2 := by
  intro n
  induction n with
  | zero =>
    intro w a0 a1 a2 a3 a4
    exact fr_rf
  | succ n ih =>
    intro w a0 a1 a2 a3 a4
    show z_fr [19, 22] [] w (if F_M_layerOf w a2 a1 = (-1) then (a4, w) else if a3 = 0 then (0, w) else ((((F_M_oddsFrom n ((F_M_scratchNow (F_M_putAside w a0) a2 3).2) (a0 + 1) a1 a2 (a3 - 1) (Int.tdiv a4 3)).1) + ((F_M_oddsFrom n ((F_M_scratchNow (F_M_takeBack ((F_M_oddsFrom n ((F_M_scratchNow (F_M_putAside w a0) a2 3).2) (a0 + 1) a1 a2 (a3 - 1) (Int.tdiv a4 3)).2) a0) a2 5).2) (a0 + 1) a1 a2 (a3 - 1) (Int.tdiv a4 3)).1)) + ((F_M_oddsFrom n ((F_M_scratchNow (F_M_takeBack ((F_M_oddsFrom n ((F_M_scratchNow (F_M_takeBack ((F_M_oddsFrom n ((F_M_scratchNow (F_M_putAside w a0) a2 3).2) (a0 + 1) a1 a2 (a3 - 1) (Int.tdiv a4 3)).2) a0) a2 5).2) (a0 + 1) a1 a2 (a3 - 1) (Int.tdiv a4 3)).2) a0) a2 7).2) (a0 + 1) a1 a2 (a3 - 1) (a4 - (2 * (Int.tdiv a4 3)))).1), F_M_takeBack ((F_M_oddsFrom n ((F_M_scratchNow (F_M_takeBack ((F_M_oddsFrom n ((F_M_scratchNow (F_M_takeBack ((F_M_oddsFrom n ((F_M_scratchNow (F_M_putAside w a0) a2 3).2) (a0 + 1) a1 a2 (a3 - 1) (Int.tdiv a4 3)).2) a0) a2 5).2) (a0 + 1) a1 a2 (a3 - 1) (Int.tdiv a4 3)).2) a0) a2 7).2) (a0 + 1) a1 a2 (a3 - 1) (a4 - (2 * (Int.tdiv a4 3)))).2) a0)).2
    exact (fr_i1 (fr_p1 fr_rf) (fr_i1 (fr_p1 fr_rf) (fr_p1 (fr_tr (fr_tr (fr_tr (fr_tr (fr_tr (fr_tr (fr_tr (fr_tr (fr_tr (fr_tr fr_rf (fr_wk fr_F_M_putAside rfl rfl)) (fr_wk fr_F_M_scratchNow rfl rfl)) (ih _ _ _ _ _ _)) (fr_wk fr_F_M_takeBack rfl rfl)) (fr_wk fr_F_M_scratchNow rfl rfl)) (ih _ _ _ _ _ _)) (fr_wk fr_F_M_takeBack rfl rfl)) (fr_wk fr_F_M_scratchNow rfl rfl)) (ih _ _ _ _ _ _)) (fr_wk fr_F_M_takeBack rfl rfl)))))
theorem fr_A_M_tryFaction_93 {w : z_Wd} {a0 : Int} {a1 : Int} {a2 : Int} {a3 : Int} {a4 : Int} {fr : z_Wd → Int → Int → Int → Int → Int → z_Wd} (hf : ∀ (v : z_Wd) (x1 x2 x3 x4 x5 : Int), z_fr [19, 22] [(0, 39), (0, 40)] v (fr v x1 x2 x3 x4 x5)) {n : Nat} : z_fr [19, 22] [(0, 39), (0, 40)] w (A_M_tryFaction_93 w a0 a1 a2 a3 a4 fr n) := by
  induction n with
  | zero =>
    exact (fr_tr fr_rf (fr_wk fr_F_M_putAside rfl rfl))
  | succ n ih =>
    show z_fr [19, 22] [(0, 39), (0, 40)] w (if F_M_fits (A_M_tryFaction_93 w a0 a1 a2 a3 a4 fr n) a1 (n : Int) = 0 then A_M_tryFaction_93 w a0 a1 a2 a3 a4 fr n else F_M_takeBack (fr (F_M_dipNow (A_M_tryFaction_93 w a0 a1 a2 a3 a4 fr n) a1 (n : Int)) (a0 + 1) (a1 + 1) a2 (zz_or a3 (zz_shl 1 (n : Int))) ((10 * a4) + (n : Int))) a0)
    exact (fr_i0 ih (fr_tr (fr_tr (fr_tr ih (fr_wk fr_F_M_dipNow rfl rfl)) (hf _ _ _ _ _ _)) (fr_wk fr_F_M_takeBack rfl rfl)))
theorem fr_F_M_tryFaction : ∀ (n : Nat) (w : z_Wd) (a0 : Int) (a1 : Int) (a2 : Int) (a3 : Int) (a4 : Int), z_fr [19, 22] [(0, 39), (0, 40)] w (F_M_tryFaction n w a0 a1 a2 a3 a4) := by
  intro n
  induction n with
  | zero =>
    intro w a0 a1 a2 a3 a4
    exact fr_rf
  | succ n ih =>
    intro w a0 a1 a2 a3 a4
    show z_fr [19, 22] [(0, 39), (0, 40)] w (if a1 = w 0 29 then if w 0 39 = (-1) then z_up (z_up w 0 39 a4) 0 40 (F_J_bitCount_0f7a4 w a3) else if F_J_bitCount_0f7a4 w a3 < w 0 40 then z_up (z_up w 0 39 a4) 0 40 (F_J_bitCount_0f7a4 w a3) else if F_J_bitCount_0f7a4 w a3 = w 0 40 then if a4 ≥ w 0 39 then w else z_up (z_up w 0 39 a4) 0 40 (F_J_bitCount_0f7a4 w a3) else w else if F_M_has w a2 a1 = 0 then F_M_tryFaction n w a0 (a1 + 1) a2 a3 a4 else A_M_tryFaction_93 w a0 a1 a2 a3 a4 (F_M_tryFaction n) ((F_M_putAside w a0) 0 28).toNat)
    exact (fr_i0 (fr_i0 (fr_uf rfl (fr_uf rfl fr_rf)) (fr_i0 (fr_uf rfl (fr_uf rfl fr_rf)) (fr_i0 (fr_i0 fr_rf (fr_uf rfl (fr_uf rfl fr_rf))) fr_rf))) (fr_i0 (fr_tr fr_rf (ih _ _ _ _ _ _)) (fr_tr fr_rf (fr_wk (fr_A_M_tryFaction_93 (fun _ _ _ _ _ _ => ih _ _ _ _ _ _)) rfl rfl))))
theorem fr_F_M_odds {w : z_Wd} {a0 : Int} {a1 : Int} : z_fr [19, 22] [] w (F_M_odds w a0 a1).2 := by
  unfold F_M_odds
  exact (fr_i1 (fr_p1 fr_rf) (fr_i1 (fr_i1 (fr_p1 fr_rf) (fr_p1 (fr_tr fr_rf (fr_wk (fr_F_M_oddsFrom _ _ _ _ _ _ _) rfl rfl)))) (fr_p1 fr_rf)))
theorem fr_F_M_faction {w : z_Wd} {a0 : Int} {a1 : Int} : z_fr [19, 22] [(0, 39), (0, 40)] w (F_M_faction w a0 a1).2 := by
  unfold F_M_faction
  exact (fr_i1 (fr_p1 fr_rf) (fr_i1 (fr_p1 fr_rf) (fr_i1 (fr_i1 (fr_p1 fr_rf) (fr_i1 (fr_p1 (fr_tr (fr_uf rfl fr_rf) (fr_wk (fr_F_M_tryFaction _ _ _ _ _ _ _) rfl rfl))) (fr_i1 (fr_p1 (fr_tr (fr_uf rfl fr_rf) (fr_wk (fr_F_M_tryFaction _ _ _ _ _ _ _) rfl rfl))) (fr_p1 (fr_tr (fr_uf rfl fr_rf) (fr_wk (fr_F_M_tryFaction _ _ _ _ _ _ _) rfl rfl)))))) (fr_p1 fr_rf))))
theorem fr_L_M_term_21 {w : z_Wd} {fr : Nat → z_Wd → z_Wd} (hf : ∀ (t : Nat) (v : z_Wd), z_fr [2, 3, 4] [(0, 3), (0, 4), (0, 5)] v (fr t v)) : ∀ {n : Nat} {u1 : Int} {wu : z_Wd}, z_fr [2, 3, 4] [(0, 3), (0, 4), (0, 5)] w wu → z_fr [2, 3, 4] [(0, 3), (0, 4), (0, 5)] w (L_M_term_21 w fr n u1 wu) := by
  intro n
  induction n with
  | zero =>
    intro u1 wu h
    exact fr_rf
  | succ n ih =>
    intro u1 wu h
    show z_fr [2, 3, 4] [(0, 3), (0, 4), (0, 5)] w (if u1 = 42 then if u1 = 42 then if (F_M_put (fr 0 (z_up wu 0 3 ((wu 0 3) + 1))) 4 0) 0 4 = (-1) then L_M_term_21 w fr n ((F_M_look (F_M_put (fr 0 (z_up wu 0 3 ((wu 0 3) + 1))) 4 0)).1) ((F_M_look (F_M_put (fr 0 (z_up wu 0 3 ((wu 0 3) + 1))) 4 0)).2) else L_M_term_21 w fr n (-1) (F_M_put (fr 0 (z_up wu 0 3 ((wu 0 3) + 1))) 4 0) else if (F_M_put (fr 0 (z_up wu 0 3 ((wu 0 3) + 1))) 5 0) 0 4 = (-1) then L_M_term_21 w fr n ((F_M_look (F_M_put (fr 0 (z_up wu 0 3 ((wu 0 3) + 1))) 5 0)).1) ((F_M_look (F_M_put (fr 0 (z_up wu 0 3 ((wu 0 3) + 1))) 5 0)).2) else L_M_term_21 w fr n (-1) (F_M_put (fr 0 (z_up wu 0 3 ((wu 0 3) + 1))) 5 0) else if u1 = 47 then if u1 = 42 then if (F_M_put (fr 0 (z_up wu 0 3 ((wu 0 3) + 1))) 4 0) 0 4 = (-1) then L_M_term_21 w fr n ((F_M_look (F_M_put (fr 0 (z_up wu 0 3 ((wu 0 3) + 1))) 4 0)).1) ((F_M_look (F_M_put (fr 0 (z_up wu 0 3 ((wu 0 3) + 1))) 4 0)).2) else L_M_term_21 w fr n (-1) (F_M_put (fr 0 (z_up wu 0 3 ((wu 0 3) + 1))) 4 0) else if (F_M_put (fr 0 (z_up wu 0 3 ((wu 0 3) + 1))) 5 0) 0 4 = (-1) then L_M_term_21 w fr n ((F_M_look (F_M_put (fr 0 (z_up wu 0 3 ((wu 0 3) + 1))) 5 0)).1) ((F_M_look (F_M_put (fr 0 (z_up wu 0 3 ((wu 0 3) + 1))) 5 0)).2) else L_M_term_21 w fr n (-1) (F_M_put (fr 0 (z_up wu 0 3 ((wu 0 3) + 1))) 5 0) else wu)
    exact (fr_i0 (fr_i0 (fr_i0 (ih (fr_tr (fr_tr (fr_tr (fr_uf rfl h) (hf _ _)) (fr_wk fr_F_M_put rfl rfl)) (fr_wk fr_F_M_look rfl rfl))) (ih (fr_tr (fr_tr (fr_uf rfl h) (hf _ _)) (fr_wk fr_F_M_put rfl rfl)))) (fr_i0 (ih (fr_tr (fr_tr (fr_tr (fr_uf rfl h) (hf _ _)) (fr_wk fr_F_M_put rfl rfl)) (fr_wk fr_F_M_look rfl rfl))) (ih (fr_tr (fr_tr (fr_uf rfl h) (hf _ _)) (fr_wk fr_F_M_put rfl rfl))))) (fr_i0 (fr_i0 (fr_i0 (ih (fr_tr (fr_tr (fr_tr (fr_uf rfl h) (hf _ _)) (fr_wk fr_F_M_put rfl rfl)) (fr_wk fr_F_M_look rfl rfl))) (ih (fr_tr (fr_tr (fr_uf rfl h) (hf _ _)) (fr_wk fr_F_M_put rfl rfl)))) (fr_i0 (ih (fr_tr (fr_tr (fr_tr (fr_uf rfl h) (hf _ _)) (fr_wk fr_F_M_put rfl rfl)) (fr_wk fr_F_M_look rfl rfl))) (ih (fr_tr (fr_tr (fr_uf rfl h) (hf _ _)) (fr_wk fr_F_M_put rfl rfl))))) h))
theorem fr_L_M_term_21x2 {w : z_Wd} {fr : Nat → z_Wd → z_Wd} (hf : ∀ (t : Nat) (v : z_Wd), z_fr [2, 3, 4] [(0, 3), (0, 4), (0, 5)] v (fr t v)) : ∀ {n : Nat} {u1 : Int} {wu : z_Wd}, z_fr [2, 3, 4] [(0, 3), (0, 4), (0, 5)] w wu → z_fr [2, 3, 4] [(0, 3), (0, 4), (0, 5)] w (L_M_term_21x2 w fr n u1 wu) := by
  intro n
  induction n with
  | zero =>
    intro u1 wu h
    exact fr_rf
  | succ n ih =>
    intro u1 wu h
    show z_fr [2, 3, 4] [(0, 3), (0, 4), (0, 5)] w (if u1 = 42 then if u1 = 42 then if (F_M_put (fr 0 (z_up wu 0 3 ((wu 0 3) + 1))) 4 0) 0 4 = (-1) then L_M_term_21x2 w fr n ((F_M_look (F_M_put (fr 0 (z_up wu 0 3 ((wu 0 3) + 1))) 4 0)).1) ((F_M_look (F_M_put (fr 0 (z_up wu 0 3 ((wu 0 3) + 1))) 4 0)).2) else L_M_term_21x2 w fr n (-1) (F_M_put (fr 0 (z_up wu 0 3 ((wu 0 3) + 1))) 4 0) else if (F_M_put (fr 0 (z_up wu 0 3 ((wu 0 3) + 1))) 5 0) 0 4 = (-1) then L_M_term_21x2 w fr n ((F_M_look (F_M_put (fr 0 (z_up wu 0 3 ((wu 0 3) + 1))) 5 0)).1) ((F_M_look (F_M_put (fr 0 (z_up wu 0 3 ((wu 0 3) + 1))) 5 0)).2) else L_M_term_21x2 w fr n (-1) (F_M_put (fr 0 (z_up wu 0 3 ((wu 0 3) + 1))) 5 0) else if u1 = 47 then if u1 = 42 then if (F_M_put (fr 0 (z_up wu 0 3 ((wu 0 3) + 1))) 4 0) 0 4 = (-1) then L_M_term_21x2 w fr n ((F_M_look (F_M_put (fr 0 (z_up wu 0 3 ((wu 0 3) + 1))) 4 0)).1) ((F_M_look (F_M_put (fr 0 (z_up wu 0 3 ((wu 0 3) + 1))) 4 0)).2) else L_M_term_21x2 w fr n (-1) (F_M_put (fr 0 (z_up wu 0 3 ((wu 0 3) + 1))) 4 0) else if (F_M_put (fr 0 (z_up wu 0 3 ((wu 0 3) + 1))) 5 0) 0 4 = (-1) then L_M_term_21x2 w fr n ((F_M_look (F_M_put (fr 0 (z_up wu 0 3 ((wu 0 3) + 1))) 5 0)).1) ((F_M_look (F_M_put (fr 0 (z_up wu 0 3 ((wu 0 3) + 1))) 5 0)).2) else L_M_term_21x2 w fr n (-1) (F_M_put (fr 0 (z_up wu 0 3 ((wu 0 3) + 1))) 5 0) else wu)
    exact (fr_i0 (fr_i0 (fr_i0 (ih (fr_tr (fr_tr (fr_tr (fr_uf rfl h) (hf _ _)) (fr_wk fr_F_M_put rfl rfl)) (fr_wk fr_F_M_look rfl rfl))) (ih (fr_tr (fr_tr (fr_uf rfl h) (hf _ _)) (fr_wk fr_F_M_put rfl rfl)))) (fr_i0 (ih (fr_tr (fr_tr (fr_tr (fr_uf rfl h) (hf _ _)) (fr_wk fr_F_M_put rfl rfl)) (fr_wk fr_F_M_look rfl rfl))) (ih (fr_tr (fr_tr (fr_uf rfl h) (hf _ _)) (fr_wk fr_F_M_put rfl rfl))))) (fr_i0 (fr_i0 (fr_i0 (ih (fr_tr (fr_tr (fr_tr (fr_uf rfl h) (hf _ _)) (fr_wk fr_F_M_put rfl rfl)) (fr_wk fr_F_M_look rfl rfl))) (ih (fr_tr (fr_tr (fr_uf rfl h) (hf _ _)) (fr_wk fr_F_M_put rfl rfl)))) (fr_i0 (ih (fr_tr (fr_tr (fr_tr (fr_uf rfl h) (hf _ _)) (fr_wk fr_F_M_put rfl rfl)) (fr_wk fr_F_M_look rfl rfl))) (ih (fr_tr (fr_tr (fr_uf rfl h) (hf _ _)) (fr_wk fr_F_M_put rfl rfl))))) h))
theorem fr_L_M_sum_21 {w : z_Wd} {fr : Nat → z_Wd → z_Wd} (hf : ∀ (t : Nat) (v : z_Wd), z_fr [2, 3, 4] [(0, 3), (0, 4), (0, 5)] v (fr t v)) : ∀ {n : Nat} {u1 : Int} {wu : z_Wd}, z_fr [2, 3, 4] [(0, 3), (0, 4), (0, 5)] w wu → z_fr [2, 3, 4] [(0, 3), (0, 4), (0, 5)] w (L_M_sum_21 w fr n u1 wu) := by
  intro n
  induction n with
  | zero =>
    intro u1 wu h
    exact fr_rf
  | succ n ih =>
    intro u1 wu h
    show z_fr [2, 3, 4] [(0, 3), (0, 4), (0, 5)] w (if u1 = 43 then if u1 = 43 then if (F_M_put (fr 1 (z_up wu 0 3 ((wu 0 3) + 1))) 2 0) 0 4 = (-1) then L_M_sum_21 w fr n ((F_M_look (F_M_put (fr 1 (z_up wu 0 3 ((wu 0 3) + 1))) 2 0)).1) ((F_M_look (F_M_put (fr 1 (z_up wu 0 3 ((wu 0 3) + 1))) 2 0)).2) else L_M_sum_21 w fr n (-1) (F_M_put (fr 1 (z_up wu 0 3 ((wu 0 3) + 1))) 2 0) else if (F_M_put (fr 1 (z_up wu 0 3 ((wu 0 3) + 1))) 3 0) 0 4 = (-1) then L_M_sum_21 w fr n ((F_M_look (F_M_put (fr 1 (z_up wu 0 3 ((wu 0 3) + 1))) 3 0)).1) ((F_M_look (F_M_put (fr 1 (z_up wu 0 3 ((wu 0 3) + 1))) 3 0)).2) else L_M_sum_21 w fr n (-1) (F_M_put (fr 1 (z_up wu 0 3 ((wu 0 3) + 1))) 3 0) else if u1 = 45 then if u1 = 43 then if (F_M_put (fr 1 (z_up wu 0 3 ((wu 0 3) + 1))) 2 0) 0 4 = (-1) then L_M_sum_21 w fr n ((F_M_look (F_M_put (fr 1 (z_up wu 0 3 ((wu 0 3) + 1))) 2 0)).1) ((F_M_look (F_M_put (fr 1 (z_up wu 0 3 ((wu 0 3) + 1))) 2 0)).2) else L_M_sum_21 w fr n (-1) (F_M_put (fr 1 (z_up wu 0 3 ((wu 0 3) + 1))) 2 0) else if (F_M_put (fr 1 (z_up wu 0 3 ((wu 0 3) + 1))) 3 0) 0 4 = (-1) then L_M_sum_21 w fr n ((F_M_look (F_M_put (fr 1 (z_up wu 0 3 ((wu 0 3) + 1))) 3 0)).1) ((F_M_look (F_M_put (fr 1 (z_up wu 0 3 ((wu 0 3) + 1))) 3 0)).2) else L_M_sum_21 w fr n (-1) (F_M_put (fr 1 (z_up wu 0 3 ((wu 0 3) + 1))) 3 0) else wu)
    exact (fr_i0 (fr_i0 (fr_i0 (ih (fr_tr (fr_tr (fr_tr (fr_uf rfl h) (hf _ _)) (fr_wk fr_F_M_put rfl rfl)) (fr_wk fr_F_M_look rfl rfl))) (ih (fr_tr (fr_tr (fr_uf rfl h) (hf _ _)) (fr_wk fr_F_M_put rfl rfl)))) (fr_i0 (ih (fr_tr (fr_tr (fr_tr (fr_uf rfl h) (hf _ _)) (fr_wk fr_F_M_put rfl rfl)) (fr_wk fr_F_M_look rfl rfl))) (ih (fr_tr (fr_tr (fr_uf rfl h) (hf _ _)) (fr_wk fr_F_M_put rfl rfl))))) (fr_i0 (fr_i0 (fr_i0 (ih (fr_tr (fr_tr (fr_tr (fr_uf rfl h) (hf _ _)) (fr_wk fr_F_M_put rfl rfl)) (fr_wk fr_F_M_look rfl rfl))) (ih (fr_tr (fr_tr (fr_uf rfl h) (hf _ _)) (fr_wk fr_F_M_put rfl rfl)))) (fr_i0 (ih (fr_tr (fr_tr (fr_tr (fr_uf rfl h) (hf _ _)) (fr_wk fr_F_M_put rfl rfl)) (fr_wk fr_F_M_look rfl rfl))) (ih (fr_tr (fr_tr (fr_uf rfl h) (hf _ _)) (fr_wk fr_F_M_put rfl rfl))))) h))
theorem fr_L_M_sum_21x2 {w : z_Wd} {fr : Nat → z_Wd → z_Wd} (hf : ∀ (t : Nat) (v : z_Wd), z_fr [2, 3, 4] [(0, 3), (0, 4), (0, 5)] v (fr t v)) : ∀ {n : Nat} {u1 : Int} {wu : z_Wd}, z_fr [2, 3, 4] [(0, 3), (0, 4), (0, 5)] w wu → z_fr [2, 3, 4] [(0, 3), (0, 4), (0, 5)] w (L_M_sum_21x2 w fr n u1 wu) := by
  intro n
  induction n with
  | zero =>
    intro u1 wu h
    exact fr_rf
  | succ n ih =>
    intro u1 wu h
    show z_fr [2, 3, 4] [(0, 3), (0, 4), (0, 5)] w (if u1 = 43 then if u1 = 43 then if (F_M_put (fr 1 (z_up wu 0 3 ((wu 0 3) + 1))) 2 0) 0 4 = (-1) then L_M_sum_21x2 w fr n ((F_M_look (F_M_put (fr 1 (z_up wu 0 3 ((wu 0 3) + 1))) 2 0)).1) ((F_M_look (F_M_put (fr 1 (z_up wu 0 3 ((wu 0 3) + 1))) 2 0)).2) else L_M_sum_21x2 w fr n (-1) (F_M_put (fr 1 (z_up wu 0 3 ((wu 0 3) + 1))) 2 0) else if (F_M_put (fr 1 (z_up wu 0 3 ((wu 0 3) + 1))) 3 0) 0 4 = (-1) then L_M_sum_21x2 w fr n ((F_M_look (F_M_put (fr 1 (z_up wu 0 3 ((wu 0 3) + 1))) 3 0)).1) ((F_M_look (F_M_put (fr 1 (z_up wu 0 3 ((wu 0 3) + 1))) 3 0)).2) else L_M_sum_21x2 w fr n (-1) (F_M_put (fr 1 (z_up wu 0 3 ((wu 0 3) + 1))) 3 0) else if u1 = 45 then if u1 = 43 then if (F_M_put (fr 1 (z_up wu 0 3 ((wu 0 3) + 1))) 2 0) 0 4 = (-1) then L_M_sum_21x2 w fr n ((F_M_look (F_M_put (fr 1 (z_up wu 0 3 ((wu 0 3) + 1))) 2 0)).1) ((F_M_look (F_M_put (fr 1 (z_up wu 0 3 ((wu 0 3) + 1))) 2 0)).2) else L_M_sum_21x2 w fr n (-1) (F_M_put (fr 1 (z_up wu 0 3 ((wu 0 3) + 1))) 2 0) else if (F_M_put (fr 1 (z_up wu 0 3 ((wu 0 3) + 1))) 3 0) 0 4 = (-1) then L_M_sum_21x2 w fr n ((F_M_look (F_M_put (fr 1 (z_up wu 0 3 ((wu 0 3) + 1))) 3 0)).1) ((F_M_look (F_M_put (fr 1 (z_up wu 0 3 ((wu 0 3) + 1))) 3 0)).2) else L_M_sum_21x2 w fr n (-1) (F_M_put (fr 1 (z_up wu 0 3 ((wu 0 3) + 1))) 3 0) else wu)
    exact (fr_i0 (fr_i0 (fr_i0 (ih (fr_tr (fr_tr (fr_tr (fr_uf rfl h) (hf _ _)) (fr_wk fr_F_M_put rfl rfl)) (fr_wk fr_F_M_look rfl rfl))) (ih (fr_tr (fr_tr (fr_uf rfl h) (hf _ _)) (fr_wk fr_F_M_put rfl rfl)))) (fr_i0 (ih (fr_tr (fr_tr (fr_tr (fr_uf rfl h) (hf _ _)) (fr_wk fr_F_M_put rfl rfl)) (fr_wk fr_F_M_look rfl rfl))) (ih (fr_tr (fr_tr (fr_uf rfl h) (hf _ _)) (fr_wk fr_F_M_put rfl rfl))))) (fr_i0 (fr_i0 (fr_i0 (ih (fr_tr (fr_tr (fr_tr (fr_uf rfl h) (hf _ _)) (fr_wk fr_F_M_put rfl rfl)) (fr_wk fr_F_M_look rfl rfl))) (ih (fr_tr (fr_tr (fr_uf rfl h) (hf _ _)) (fr_wk fr_F_M_put rfl rfl)))) (fr_i0 (ih (fr_tr (fr_tr (fr_tr (fr_uf rfl h) (hf _ _)) (fr_wk fr_F_M_put rfl rfl)) (fr_wk fr_F_M_look rfl rfl))) (ih (fr_tr (fr_tr (fr_uf rfl h) (hf _ _)) (fr_wk fr_F_M_put rfl rfl))))) h))
theorem fr_L_M_goOnAnd_0 {w : z_Wd} {fr : Nat → z_Wd → z_Wd} (hf : ∀ (t : Nat) (v : z_Wd), z_fr [2, 3, 4] [(0, 3), (0, 4), (0, 5)] v (fr t v)) : ∀ {n : Nat} {wu : z_Wd}, z_fr [2, 3, 4] [(0, 3), (0, 4), (0, 5)] w wu → z_fr [2, 3, 4] [(0, 3), (0, 4), (0, 5)] w (L_M_goOnAnd_0 w fr n wu) := by
  intro n
  induction n with
  | zero =>
    intro wu h
    exact fr_rf
  | succ n ih =>
    intro wu h
    show z_fr [2, 3, 4] [(0, 3), (0, 4), (0, 5)] w (if wu 0 4 = (-1) then if (F_M_look wu).1 = 38 then L_M_goOnAnd_0 w fr n (F_M_put (fr 4 (z_up ((F_M_look wu).2) 0 3 ((((F_M_look wu).2) 0 3) + 1))) 10 0) else (F_M_look wu).2 else wu)
    exact (fr_i0 (fr_i0 (ih (fr_tr (fr_tr (fr_uf rfl (fr_tr h (fr_wk fr_F_M_look rfl rfl))) (hf _ _)) (fr_wk fr_F_M_put rfl rfl))) (fr_tr h (fr_wk fr_F_M_look rfl rfl))) h)
theorem fr_L_M_goOnOr_0 {w : z_Wd} {fr : Nat → z_Wd → z_Wd} (hf : ∀ (t : Nat) (v : z_Wd), z_fr [2, 3, 4] [(0, 3), (0, 4), (0, 5)] v (fr t v)) : ∀ {n : Nat} {wu : z_Wd}, z_fr [2, 3, 4] [(0, 3), (0, 4), (0, 5)] w wu → z_fr [2, 3, 4] [(0, 3), (0, 4), (0, 5)] w (L_M_goOnOr_0 w fr n wu) := by
  intro n
  induction n with
  | zero =>
    intro wu h
    exact fr_rf
  | succ n ih =>
    intro wu h
    show z_fr [2, 3, 4] [(0, 3), (0, 4), (0, 5)] w (if wu 0 4 = (-1) then if (F_M_look wu).1 = 124 then L_M_goOnOr_0 w fr n (F_M_put (fr 5 (fr 4 (z_up ((F_M_look wu).2) 0 3 ((((F_M_look wu).2) 0 3) + 1)))) 11 0) else (F_M_look wu).2 else wu)
    exact (fr_i0 (fr_i0 (ih (fr_tr (fr_tr (fr_tr (fr_uf rfl (fr_tr h (fr_wk fr_F_M_look rfl rfl))) (hf _ _)) (hf _ _)) (fr_wk fr_F_M_put rfl rfl))) (fr_tr h (fr_wk fr_F_M_look rfl rfl))) h)
theorem fr_F_MP : ∀ (n : Nat) (t : Nat) (w : z_Wd), z_fr [2, 3, 4] [(0, 3), (0, 4), (0, 5)] w (F_MP n t w) := by
  intro n
  induction n with
  | zero =>
    intro t w
    exact fr_rf
  | succ n ih =>
    intro t w
    match t with
    | 0 => show z_fr [2, 3, 4] [(0, 3), (0, 4), (0, 5)] w (if F_M_isDigit ((F_M_look w).2) ((F_M_look w).1) = 0 then if F_M_letterOf ((F_M_look w).2) ((F_M_look w).1) = (-1) then if (F_M_look w).1 = 91 then if (F_M_opens ((F_M_look w).2)) 0 4 = (-1) then F_M_closes (F_MP n 2 (F_M_opens ((F_M_look w).2))) 93 else F_M_opens ((F_M_look w).2) else F_M_bad ((F_M_look w).2) else F_M_put (z_up ((F_M_look w).2) 0 3 ((((F_M_look w).2) 0 3) + 1)) 1 (F_M_letterOf (z_up ((F_M_look w).2) 0 3 ((((F_M_look w).2) 0 3) + 1)) ((F_M_look w).1)) else F_M_put ((F_M_plainNumber ((F_M_look w).2)).2) 0 ((F_M_plainNumber ((F_M_look w).2)).1)); exact (fr_i0 (fr_i0 (fr_i0 (fr_i0 (fr_tr (fr_tr (fr_tr (fr_tr fr_rf (fr_wk fr_F_M_look rfl rfl)) (fr_wk fr_F_M_opens rfl rfl)) (ih _ _)) (fr_wk fr_F_M_closes rfl rfl)) (fr_tr (fr_tr fr_rf (fr_wk fr_F_M_look rfl rfl)) (fr_wk fr_F_M_opens rfl rfl))) (fr_tr (fr_tr fr_rf (fr_wk fr_F_M_look rfl rfl)) (fr_wk fr_F_M_bad rfl rfl))) (fr_tr (fr_uf rfl (fr_tr fr_rf (fr_wk fr_F_M_look rfl rfl))) (fr_wk fr_F_M_put rfl rfl))) (fr_tr (fr_tr (fr_tr fr_rf (fr_wk fr_F_M_look rfl rfl)) (fr_wk fr_F_M_plainNumber rfl rfl)) (fr_wk fr_F_M_put rfl rfl)))
    | 1 => show z_fr [2, 3, 4] [(0, 3), (0, 4), (0, 5)] w (if (F_MP n 0 w) 0 4 = (-1) then L_M_term_21x2 w (F_MP n) 300 ((F_M_look (F_MP n 0 w)).1) ((F_M_look (F_MP n 0 w)).2) else L_M_term_21 w (F_MP n) 300 (-1) (F_MP n 0 w)); exact (fr_i0 (fr_L_M_term_21x2 (fun _ _ => ih _ _) (fr_tr (fr_tr fr_rf (ih _ _)) (fr_wk fr_F_M_look rfl rfl))) (fr_L_M_term_21 (fun _ _ => ih _ _) (fr_tr fr_rf (ih _ _))))
    | 2 => show z_fr [2, 3, 4] [(0, 3), (0, 4), (0, 5)] w (if (F_MP n 1 w) 0 4 = (-1) then L_M_sum_21x2 w (F_MP n) 300 ((F_M_look (F_MP n 1 w)).1) ((F_M_look (F_MP n 1 w)).2) else L_M_sum_21 w (F_MP n) 300 (-1) (F_MP n 1 w)); exact (fr_i0 (fr_L_M_sum_21x2 (fun _ _ => ih _ _) (fr_tr (fr_tr fr_rf (ih _ _)) (fr_wk fr_F_M_look rfl rfl))) (fr_L_M_sum_21 (fun _ _ => ih _ _) (fr_tr fr_rf (ih _ _))))
    | 3 => show z_fr [2, 3, 4] [(0, 3), (0, 4), (0, 5)] w (if w 0 4 = (-1) then if F_M_isSign ((F_M_look w).2) ((F_M_look w).1) = 0 then F_M_bad ((F_M_look w).2) else if (F_M_look w).1 = 61 then F_M_put (F_MP n 2 (z_up ((F_M_look w).2) 0 3 ((((F_M_look w).2) 0 3) + 1))) 6 0 else if (F_M_look w).1 = 60 then F_M_put (F_MP n 2 (z_up ((F_M_look w).2) 0 3 ((((F_M_look w).2) 0 3) + 1))) 7 0 else F_M_put (F_MP n 2 (z_up ((F_M_look w).2) 0 3 ((((F_M_look w).2) 0 3) + 1))) 8 0 else if F_M_isSign w (-1) = 0 then F_M_bad w else F_M_put (F_MP n 2 (z_up w 0 3 ((w 0 3) + 1))) 8 0); exact (fr_i0 (fr_i0 (fr_tr (fr_tr fr_rf (fr_wk fr_F_M_look rfl rfl)) (fr_wk fr_F_M_bad rfl rfl)) (fr_i0 (fr_tr (fr_tr (fr_uf rfl (fr_tr fr_rf (fr_wk fr_F_M_look rfl rfl))) (ih _ _)) (fr_wk fr_F_M_put rfl rfl)) (fr_i0 (fr_tr (fr_tr (fr_uf rfl (fr_tr fr_rf (fr_wk fr_F_M_look rfl rfl))) (ih _ _)) (fr_wk fr_F_M_put rfl rfl)) (fr_tr (fr_tr (fr_uf rfl (fr_tr fr_rf (fr_wk fr_F_M_look rfl rfl))) (ih _ _)) (fr_wk fr_F_M_put rfl rfl))))) (fr_i0 (fr_tr fr_rf (fr_wk fr_F_M_bad rfl rfl)) (fr_tr (fr_tr (fr_uf rfl fr_rf) (ih _ _)) (fr_wk fr_F_M_put rfl rfl))))
    | 4 => show z_fr [2, 3, 4] [(0, 3), (0, 4), (0, 5)] w (if (F_M_look w).1 = 33 then if (F_M_opens ((F_M_look w).2)) 0 4 = (-1) then z_up (F_M_put (F_MP n 4 (F_M_opens ((F_M_look w).2))) 9 0) 0 5 (((F_M_put (F_MP n 4 (F_M_opens ((F_M_look w).2))) 9 0) 0 5) - 1) else F_M_opens ((F_M_look w).2) else if (F_M_look w).1 = 40 then if (F_M_opens ((F_M_look w).2)) 0 4 = (-1) then F_M_closes (F_MP n 7 (F_M_opens ((F_M_look w).2))) 41 else F_M_opens ((F_M_look w).2) else if (F_MP n 2 ((F_M_look w).2)) 0 4 = (-1) then F_MP n 3 (F_MP n 2 ((F_M_look w).2)) else F_MP n 2 ((F_M_look w).2)); exact (fr_i0 (fr_i0 (fr_uf rfl (fr_tr (fr_tr (fr_tr (fr_tr fr_rf (fr_wk fr_F_M_look rfl rfl)) (fr_wk fr_F_M_opens rfl rfl)) (ih _ _)) (fr_wk fr_F_M_put rfl rfl))) (fr_tr (fr_tr fr_rf (fr_wk fr_F_M_look rfl rfl)) (fr_wk fr_F_M_opens rfl rfl))) (fr_i0 (fr_i0 (fr_tr (fr_tr (fr_tr (fr_tr fr_rf (fr_wk fr_F_M_look rfl rfl)) (fr_wk fr_F_M_opens rfl rfl)) (ih _ _)) (fr_wk fr_F_M_closes rfl rfl)) (fr_tr (fr_tr fr_rf (fr_wk fr_F_M_look rfl rfl)) (fr_wk fr_F_M_opens rfl rfl))) (fr_i0 (fr_tr (fr_tr (fr_tr fr_rf (fr_wk fr_F_M_look rfl rfl)) (ih _ _)) (ih _ _)) (fr_tr (fr_tr fr_rf (fr_wk fr_F_M_look rfl rfl)) (ih _ _)))))
    | 5 => show z_fr [2, 3, 4] [(0, 3), (0, 4), (0, 5)] w (L_M_goOnAnd_0 w (F_MP n) 300 w); exact (fr_L_M_goOnAnd_0 (fun _ _ => ih _ _) fr_rf)
    | 6 => show z_fr [2, 3, 4] [(0, 3), (0, 4), (0, 5)] w (L_M_goOnOr_0 w (F_MP n) 300 w); exact (fr_L_M_goOnOr_0 (fun _ _ => ih _ _) fr_rf)
    | 7 => show z_fr [2, 3, 4] [(0, 3), (0, 4), (0, 5)] w (F_MP n 6 (F_MP n 5 (F_MP n 4 w))); exact (fr_tr (fr_tr (fr_tr fr_rf (ih _ _)) (ih _ _)) (ih _ _))
    | t + 8 => exact fr_rf
theorem fr_F_M_atom {w : z_Wd} : z_fr [2, 3, 4] [(0, 3), (0, 4), (0, 5)] w (F_M_atom w) := by
  unfold F_M_atom
  exact (fr_tr fr_rf (fr_wk (fr_F_MP _ _ _) rfl rfl))
theorem fr_F_M_term {w : z_Wd} : z_fr [2, 3, 4] [(0, 3), (0, 4), (0, 5)] w (F_M_term w) := by
  unfold F_M_term
  exact (fr_tr fr_rf (fr_wk (fr_F_MP _ _ _) rfl rfl))
theorem fr_F_M_sum {w : z_Wd} : z_fr [2, 3, 4] [(0, 3), (0, 4), (0, 5)] w (F_M_sum w) := by
  unfold F_M_sum
  exact (fr_tr fr_rf (fr_wk (fr_F_MP _ _ _) rfl rfl))
theorem fr_F_M_compare {w : z_Wd} : z_fr [2, 3, 4] [(0, 3), (0, 4), (0, 5)] w (F_M_compare w) := by
  unfold F_M_compare
  exact (fr_tr fr_rf (fr_wk (fr_F_MP _ _ _) rfl rfl))
theorem fr_F_M_unit {w : z_Wd} : z_fr [2, 3, 4] [(0, 3), (0, 4), (0, 5)] w (F_M_unit w) := by
  unfold F_M_unit
  exact (fr_tr fr_rf (fr_wk (fr_F_MP _ _ _) rfl rfl))
theorem fr_F_M_goOnAnd {w : z_Wd} : z_fr [2, 3, 4] [(0, 3), (0, 4), (0, 5)] w (F_M_goOnAnd w) := by
  unfold F_M_goOnAnd
  exact (fr_tr fr_rf (fr_wk (fr_F_MP _ _ _) rfl rfl))
theorem fr_F_M_goOnOr {w : z_Wd} : z_fr [2, 3, 4] [(0, 3), (0, 4), (0, 5)] w (F_M_goOnOr w) := by
  unfold F_M_goOnOr
  exact (fr_tr fr_rf (fr_wk (fr_F_MP _ _ _) rfl rfl))
theorem fr_F_M_condition {w : z_Wd} : z_fr [2, 3, 4] [(0, 3), (0, 4), (0, 5)] w (F_M_condition w) := by
  unfold F_M_condition
  exact (fr_tr fr_rf (fr_wk (fr_F_MP _ _ _) rfl rfl))
theorem fr_K_M_clause_251 {w : z_Wd} {l1 : Int} : z_fr [5, 8] [] w (K_M_clause_251 w l1) := by
  unfold K_M_clause_251
  exact (fr_up rfl (fr_up rfl fr_rf))
theorem fr_K_M_clause_184 {w : z_Wd} {l1 : Int} {l2 : Int} : z_fr [2, 3, 4, 5, 7, 8] [(0, 3), (0, 4), (0, 5)] w (K_M_clause_184 w l1 l2) := by
  unfold K_M_clause_184
  exact (fr_i0 (fr_tr (fr_up rfl fr_rf) (fr_wk fr_K_M_clause_251 rfl rfl)) (fr_i0 (fr_i0 (fr_tr (fr_tr (fr_up rfl (fr_uf rfl (fr_tr (fr_up rfl fr_rf) (fr_wk fr_F_M_look rfl rfl)))) (fr_wk fr_F_M_sum rfl rfl)) (fr_wk fr_K_M_clause_251 rfl rfl)) (fr_tr (fr_tr (fr_up rfl fr_rf) (fr_wk fr_F_M_look rfl rfl)) (fr_wk fr_F_M_bad rfl rfl))) (fr_tr (fr_up rfl fr_rf) (fr_wk fr_K_M_clause_251 rfl rfl))))
theorem fr_K_M_clause_168 {w : z_Wd} {l1 : Int} {l2 : Int} : z_fr [2, 3, 4, 5, 7, 8] [(0, 3), (0, 4), (0, 5)] w (K_M_clause_168 w l1 l2) := by
  unfold K_M_clause_168
  exact (fr_i0 (fr_tr fr_rf (fr_wk fr_K_M_clause_184 rfl rfl)) (fr_tr (fr_tr (fr_tr (fr_tr fr_rf (fr_wk fr_F_M_compare rfl rfl)) (fr_wk fr_F_M_goOnAnd rfl rfl)) (fr_wk fr_F_M_goOnOr rfl rfl)) (fr_wk fr_K_M_clause_184 rfl rfl)))
theorem fr_K_M_clause_129 {w : z_Wd} {l1 : Int} {l2 : Int} : z_fr [2, 3, 4, 5, 7, 8] [(0, 3), (0, 4), (0, 5)] w (K_M_clause_129 w l1 l2) := by
  unfold K_M_clause_129
  exact (fr_i0 (fr_i0 (fr_i0 (fr_tr (fr_tr (fr_tr fr_rf (fr_wk fr_F_M_sum rfl rfl)) (fr_wk fr_F_M_look rfl rfl)) (fr_wk fr_K_M_clause_168 rfl rfl)) (fr_tr (fr_tr (fr_tr fr_rf (fr_wk fr_F_M_sum rfl rfl)) (fr_wk fr_F_M_look rfl rfl)) (fr_wk fr_K_M_clause_168 rfl rfl))) (fr_tr (fr_tr fr_rf (fr_wk fr_F_M_sum rfl rfl)) (fr_wk fr_K_M_clause_168 rfl rfl))) (fr_tr (fr_tr fr_rf (fr_wk fr_F_M_condition rfl rfl)) (fr_wk fr_K_M_clause_184 rfl rfl)))
theorem fr_K_M_clause_90 {w : z_Wd} {l1 : Int} : z_fr [2, 3, 4, 5, 6, 7, 8] [(0, 3), (0, 4), (0, 5)] w (K_M_clause_90 w l1) := by
  unfold K_M_clause_90
  exact (fr_i0 (fr_tr (fr_tr (fr_up rfl fr_rf) (fr_wk fr_F_M_look rfl rfl)) (fr_wk fr_K_M_clause_129 rfl rfl)) (fr_i0 (fr_tr (fr_tr (fr_tr (fr_up rfl fr_rf) (fr_wk fr_F_M_look rfl rfl)) (fr_wk fr_F_M_look rfl rfl)) (fr_wk fr_K_M_clause_129 rfl rfl)) (fr_tr (fr_tr (fr_tr (fr_up rfl fr_rf) (fr_wk fr_F_M_look rfl rfl)) (fr_wk fr_F_M_look rfl rfl)) (fr_wk fr_K_M_clause_129 rfl rfl))))
theorem fr_K_M_clause_71 {w : z_Wd} {l1 : Int} : z_fr [2, 3, 4, 5, 6, 7, 8] [(0, 3), (0, 4), (0, 5)] w (K_M_clause_71 w l1) := by
  unfold K_M_clause_71
  exact (fr_i0 (fr_tr (fr_uf rfl fr_rf) (fr_wk fr_K_M_clause_90 rfl rfl)) (fr_uf rfl fr_rf))
theorem fr_K_M_clause_40 {w : z_Wd} {l1 : Int} : z_fr [2, 3, 4, 5, 6, 7, 8] [(0, 3), (0, 4), (0, 5)] w (K_M_clause_40 w l1) := by
  unfold K_M_clause_40
  exact (fr_i0 (fr_i0 (fr_tr (fr_tr (fr_uf rfl fr_rf) (fr_wk fr_F_M_look rfl rfl)) (fr_wk fr_K_M_clause_71 rfl rfl)) (fr_tr (fr_tr (fr_tr (fr_uf rfl fr_rf) (fr_wk fr_F_M_look rfl rfl)) (fr_wk fr_F_M_bad rfl rfl)) (fr_wk fr_K_M_clause_71 rfl rfl))) (fr_tr (fr_uf rfl fr_rf) (fr_wk fr_K_M_clause_71 rfl rfl)))
theorem fr_F_M_clause {w : z_Wd} : z_fr [2, 3, 4, 5, 6, 7, 8] [(0, 3), (0, 4), (0, 5)] w (F_M_clause w) := by
  unfold F_M_clause
  exact (fr_i0 (fr_i0 (fr_tr (fr_tr fr_rf (fr_wk fr_F_M_look rfl rfl)) (fr_wk fr_K_M_clause_40 rfl rfl)) (fr_tr (fr_tr (fr_tr fr_rf (fr_wk fr_F_M_look rfl rfl)) (fr_wk fr_F_M_bad rfl rfl)) (fr_wk fr_K_M_clause_40 rfl rfl))) (fr_tr fr_rf (fr_wk fr_K_M_clause_40 rfl rfl)))
theorem fr_L_M_readLaw_9 {w : z_Wd} : ∀ {n : Nat} {wu : z_Wd}, z_fr [2, 3, 4, 5, 6, 7, 8] [(0, 3), (0, 4), (0, 5), (0, 14)] w wu → z_fr [2, 3, 4, 5, 6, 7, 8] [(0, 3), (0, 4), (0, 5), (0, 14)] w (L_M_readLaw_9 w n wu).2 := by
  intro n
  induction n with
  | zero =>
    intro wu h
    exact fr_rf
  | succ n ih =>
    intro wu h
    show z_fr [2, 3, 4, 5, 6, 7, 8] [(0, 3), (0, 4), (0, 5), (0, 14)] w (if wu 0 4 = (-1) then if (F_M_look wu).1 = 59 then L_M_readLaw_9 w n (F_M_clause (z_up ((F_M_look wu).2) 0 3 ((((F_M_look wu).2) 0 3) + 1))) else ((F_M_atEnd ((F_M_look wu).2)).1, (F_M_atEnd ((F_M_look wu).2)).2) else ((F_M_atEnd wu).1, (F_M_atEnd wu).2)).2
    exact (fr_i1 (fr_i1 (ih (fr_tr (fr_uf rfl (fr_tr h (fr_wk fr_F_M_look rfl rfl))) (fr_wk fr_F_M_clause rfl rfl))) (fr_p1 (fr_tr (fr_tr h (fr_wk fr_F_M_look rfl rfl)) (fr_wk fr_F_M_atEnd rfl rfl)))) (fr_p1 (fr_tr h (fr_wk fr_F_M_atEnd rfl rfl))))
theorem fr_F_M_readLaw {w : z_Wd} {a0 : Int} : z_fr [2, 3, 4, 5, 6, 7, 8] [(0, 3), (0, 4), (0, 5), (0, 14)] w (F_M_readLaw w a0).2 := by
  unfold F_M_readLaw
  exact (fr_L_M_readLaw_9 (fr_tr (fr_tr fr_rf (fr_wk fr_F_M_open rfl rfl)) (fr_wk fr_F_M_clause rfl rfl)))
theorem fr_z_rmT {w : z_Wd} : z_fr [] [(0, 3)] w (z_rmT w).2 := by
  unfold z_rmT
  exact (fr_i1 (fr_i1 (fr_p1 (fr_uf rfl (fr_tr fr_rf (fr_wk fr_F_M_look rfl rfl)))) (fr_p1 (fr_uf rfl (fr_tr fr_rf (fr_wk fr_F_M_look rfl rfl))))) (fr_p1 (fr_uf rfl fr_rf)))
theorem fr_z_rmC {w : z_Wd} {c : Int} {l1 : Int} : z_fr [11, 12, 13, 14] [(0, 3), (0, 4), (0, 21), (0, 22), (0, 23)] w (z_rmC w c l1).2 := by
  unfold z_rmC
  exact (fr_i1 (fr_p1 (fr_tr fr_rf (fr_wk fr_F_M_bad rfl rfl))) (fr_p1 (fr_tr fr_rf (fr_wk fr_F_M_clauseText rfl rfl))))
theorem fr_z_rmE {w : z_Wd} : z_fr [] [(0, 3), (0, 4)] w (z_rmE w).2 := by
  unfold z_rmE
  exact (fr_i1 (fr_i1 (fr_i1 (fr_p1 (fr_tr (fr_tr fr_rf (fr_wk fr_F_M_look rfl rfl)) (fr_wk fr_F_M_bad rfl rfl))) (fr_p1 (fr_tr fr_rf (fr_wk fr_F_M_look rfl rfl)))) (fr_p1 (fr_tr (fr_tr fr_rf (fr_wk fr_F_M_look rfl rfl)) (fr_wk fr_F_M_bad rfl rfl)))) (fr_p1 fr_rf))
theorem fr_z_rmL : ∀ (n : Nat) (w : z_Wd) (a0 : Int) (a1 : Int), z_fr [11, 12, 13, 14] [(0, 3), (0, 4), (0, 21), (0, 22), (0, 23)] w (z_rmL n w a0 a1).2 := by
  intro n
  induction n with
  | zero =>
    intro w a0 a1
    exact fr_rf
  | succ n ih =>
    intro w l1 l2
    show z_fr [11, 12, 13, 14] [(0, 3), (0, 4), (0, 21), (0, 22), (0, 23)] w (if l2 = 0 then z_rmE w else if w 0 4 = -1 then z_rmL n (z_rmT (z_rmC (F_M_look w).2 (F_M_look w).1 l1).2).2 (z_rmC (F_M_look w).2 (F_M_look w).1 l1).1 (z_rmT (z_rmC (F_M_look w).2 (F_M_look w).1 l1).2).1 else z_rmE w).2
    exact (fr_i1 (fr_tr fr_rf (fr_wk fr_z_rmE rfl rfl)) (fr_i1 (fr_tr (fr_tr (fr_tr (fr_tr fr_rf (fr_wk fr_F_M_look rfl rfl)) (fr_wk fr_z_rmC rfl rfl)) (fr_wk fr_z_rmT rfl rfl)) (ih _ _ _)) (fr_tr fr_rf (fr_wk fr_z_rmE rfl rfl))))
theorem fr_z_rm0 {w : z_Wd} : z_fr [11] [(0, 3), (0, 4), (0, 21), (0, 22), (0, 23)] w (z_rm0 w) := by
  unfold z_rm0
  exact (fr_up rfl (fr_up rfl (fr_uf rfl (fr_uf rfl (fr_uf rfl (fr_uf rfl (fr_uf rfl fr_rf)))))))
theorem fr_F_M_readMinistry {w : z_Wd} : z_fr [11, 12, 13, 14] [(0, 3), (0, 4), (0, 21), (0, 22), (0, 23)] w (F_M_readMinistry w).2 := by
  unfold F_M_readMinistry
  exact (fr_tr (fr_tr fr_rf (fr_wk fr_z_rm0 rfl rfl)) (fr_wk (fr_z_rmL _ _ _ _) rfl rfl))
theorem fr_F_M_fault {w : z_Wd} {a0 : Int} : z_fr [2, 3, 4, 5, 6, 7, 8, 11, 12, 13, 14] [(0, 3), (0, 4), (0, 5), (0, 14), (0, 21), (0, 22), (0, 23)] w (F_M_fault w a0).2 := by
  unfold F_M_fault
  exact (fr_i1 (fr_p1 (fr_tr fr_rf (fr_wk fr_F_M_readMinistry rfl rfl))) (fr_i1 (fr_p1 (fr_tr fr_rf (fr_wk fr_F_M_readLaw rfl rfl))) (fr_p1 fr_rf)))
theorem fr_F_M_text {w : z_Wd} {a0 : Int} : z_fr [2, 3, 4, 5, 6, 7, 8, 11, 12, 13, 14, 15, 16, 17, 18, 19] [(0, 2), (0, 3), (0, 4), (0, 5), (0, 13), (0, 14), (0, 21), (0, 22), (0, 23), (0, 28), (0, 29), (0, 30), (0, 36), (0, 43), (0, 45)] w (F_M_text w a0).2 := by
  unfold F_M_text
  exact (fr_i1 (fr_i1 (fr_p1 (fr_tr (fr_uf rfl (fr_tr fr_rf (fr_wk fr_F_M_readMinistry rfl rfl))) (fr_wk fr_F_M_takeMinistry rfl rfl))) (fr_i1 (fr_i1 (fr_p1 (fr_tr fr_rf (fr_wk fr_F_M_readMinistry rfl rfl))) (fr_i1 (fr_p1 (fr_uf rfl (fr_uf rfl (fr_tr (fr_tr fr_rf (fr_wk fr_F_M_readMinistry rfl rfl)) (fr_wk fr_F_M_readLaw rfl rfl))))) (fr_p1 (fr_tr (fr_tr fr_rf (fr_wk fr_F_M_readMinistry rfl rfl)) (fr_wk fr_F_M_readLaw rfl rfl))))) (fr_p1 (fr_tr fr_rf (fr_wk fr_F_M_readMinistry rfl rfl))))) (fr_i1 (fr_i1 (fr_p1 fr_rf) (fr_i1 (fr_p1 (fr_uf rfl (fr_uf rfl (fr_tr fr_rf (fr_wk fr_F_M_readLaw rfl rfl))))) (fr_p1 (fr_tr fr_rf (fr_wk fr_F_M_readLaw rfl rfl))))) (fr_p1 fr_rf)))
theorem fr_F_C_forget {w : z_Wd} : z_fr [] [(72, 4)] w (F_C_forget w) := by
  unfold F_C_forget
  exact (fr_uf rfl fr_rf)
theorem fr_F_G_hold {w : z_Wd} {a0 : Int} : z_fr [] [(55, 5)] w (F_G_hold w a0).2 := by
  unfold F_G_hold
  exact (fr_i1 (fr_p1 fr_rf) (fr_i1 (fr_p1 (fr_uf rfl fr_rf)) (fr_p1 fr_rf)))
theorem fr_F_H_forget {w : z_Wd} : z_fr [] [(53, 2)] w (F_H_forget w) := by
  unfold F_H_forget
  exact (fr_uf rfl fr_rf)
theorem fr_F_K_pay {w : z_Wd} {a0 : Int} : z_fr [] [(41, 6)] w (F_K_pay w a0) := by
  unfold F_K_pay
  exact (fr_uf rfl fr_rf)
theorem fr_F_K_earn {w : z_Wd} {a0 : Int} : z_fr [] [(41, 6)] w (F_K_earn w a0) := by
  unfold F_K_earn
  exact (fr_uf rfl fr_rf)
theorem fr_F_W_clear {w : z_Wd} : z_fr [] [(38, 2)] w (F_W_clear w) := by
  unfold F_W_clear
  exact (fr_uf rfl fr_rf)
theorem fr_F_W_add {w : z_Wd} {a0 : Int} {a1 : Int} : z_fr [39] [(38, 2)] w (F_W_add w a0 a1) := by
  unfold F_W_add
  exact (fr_i0 fr_rf (fr_uf rfl (fr_up rfl fr_rf)))
theorem fr_F_W_goOnHere {w : z_Wd} {a0 : Int} : z_fr [39] [] w (F_W_goOnHere w a0) := by
  unfold F_W_goOnHere
  exact (fr_i0 fr_rf (fr_i0 fr_rf (fr_up rfl fr_rf)))
theorem fr_F_W_push {w : z_Wd} {a0 : Int} : z_fr [40] [(38, 3)] w (F_W_push w a0) := by
  unfold F_W_push
  exact (fr_i0 fr_rf (fr_uf rfl (fr_up rfl fr_rf)))
theorem fr_F_W_pop {w : z_Wd} : z_fr [] [(38, 3)] w (F_W_pop w).2 := by
  unfold F_W_pop
  exact (fr_i1 (fr_p1 (fr_uf rfl fr_rf)) (fr_p1 fr_rf))
theorem fr_A_Y_setUsual_2 {w : z_Wd} {a0 : Int} {a1 : Int} {n : Nat} : z_fr [31] [] w (A_Y_setUsual_2 w a0 a1 n) := by
  induction n with
  | zero =>
    exact fr_rf
  | succ n ih =>
    show z_fr [31] [] w (z_up (A_Y_setUsual_2 w a0 a1 n) 31 (((((z_sc 1 a0.toNat) + a1) * 3) + (n : Int)).toNat) (z_sc 2 (((a0 * 3) + (n : Int)).toNat)))
    exact (fr_up rfl ih)
theorem fr_F_Y_setUsual {w : z_Wd} {a0 : Int} {a1 : Int} : z_fr [31] [] w (F_Y_setUsual w a0 a1) := by
  unfold F_Y_setUsual
  exact (fr_tr fr_rf (fr_wk fr_A_Y_setUsual_2 rfl rfl))
theorem fr_F_Y_tellLatest {w : z_Wd} {a0 : Int} {a1 : Int} {a2 : Int} : z_fr [31] [] w (F_Y_tellLatest w a0 a1 a2) := by
  unfold F_Y_tellLatest
  exact (fr_i0 fr_rf (fr_up rfl fr_rf))
theorem fr_F_T_cut {w : z_Wd} {a0 : Int} : z_fr [] [(28, 1)] w (F_T_cut w a0) := by
  unfold F_T_cut
  exact (fr_i0 fr_rf (fr_i0 fr_rf (fr_uf rfl fr_rf)))
theorem fr_F_D_end {w : z_Wd} {a0 : Int} : z_fr [] [(28, 1)] w (F_D_end w a0).2 := by
  unfold F_D_end
  exact (fr_i1 (fr_p1 fr_rf) (fr_i1 (fr_p1 (fr_tr fr_rf (fr_wk fr_F_T_cut rfl rfl))) (fr_p1 fr_rf)))
theorem fr_F_D_law {w : z_Wd} {a0 : Int} : z_fr [] [(55, 5)] w (F_D_law w a0).2 := by
  unfold F_D_law
  exact (fr_p1 (fr_tr fr_rf (fr_wk fr_F_G_hold rfl rfl)))
theorem fr_F_D_flies {w : z_Wd} {a0 : Int} : z_fr [] [(27, 12)] w (F_D_flies w a0).2 := by
  unfold F_D_flies
  exact (fr_i1 (fr_p1 fr_rf) (fr_i1 (fr_p1 fr_rf) (fr_i1 (fr_p1 fr_rf) (fr_p1 (fr_uf rfl fr_rf)))))
theorem fr_F_D_draw {w : z_Wd} {a0 : Int} : z_fr [] [(27, 14)] w (F_D_draw w a0).2 := by
  unfold F_D_draw
  exact (fr_i1 (fr_p1 (fr_uf rfl fr_rf)) (fr_p1 (fr_uf rfl fr_rf)))
theorem fr_F_D_refuse {w : z_Wd} {a0 : Int} {a1 : Int} : z_fr [78] [] w (F_D_refuse w a0 a1).2 := by
  unfold F_D_refuse
  exact (fr_i1 (fr_p1 fr_rf) (fr_i1 (fr_p1 fr_rf) (fr_p1 (fr_up rfl fr_rf))))
theorem fr_A_Y_setUsual_34_2 {w : z_Wd} {a0 : Int} {a1 : Int} {n : Nat} : z_fr [35] [] w (A_Y_setUsual_34_2 w a0 a1 n) := by
  induction n with
  | zero =>
    exact fr_rf
  | succ n ih =>
    show z_fr [35] [] w (z_up (A_Y_setUsual_34_2 w a0 a1 n) 35 (((((z_sc 1 a0.toNat) + a1) * 3) + (n : Int)).toNat) (z_sc 2 (((a0 * 3) + (n : Int)).toNat)))
    exact (fr_up rfl ih)
theorem fr_F_Y_setUsual_34 {w : z_Wd} {a0 : Int} {a1 : Int} : z_fr [35] [] w (F_Y_setUsual_34 w a0 a1) := by
  unfold F_Y_setUsual_34
  exact (fr_tr fr_rf (fr_wk fr_A_Y_setUsual_34_2 rfl rfl))
theorem fr_F_Y_tellLatest_34 {w : z_Wd} {a0 : Int} {a1 : Int} {a2 : Int} : z_fr [35] [] w (F_Y_tellLatest_34 w a0 a1 a2) := by
  unfold F_Y_tellLatest_34
  exact (fr_i0 fr_rf (fr_up rfl fr_rf))
theorem fr_F_Y_copyFrom_34 {w : z_Wd} : z_fr [31, 32] [] w (F_Y_copyFrom_34 w) := by
  unfold F_Y_copyFrom_34
  exact (fr_cp rfl (fr_cp rfl fr_rf))
theorem fr_F_K_copyFrom_47_41 {w : z_Wd} : z_fr [48, 49, 50, 51, 52] [(47, 6), (47, 7), (47, 8)] w (F_K_copyFrom_47_41 w) := by
  unfold F_K_copyFrom_47_41
  exact (fr_uf rfl (fr_uf rfl (fr_uf rfl (fr_cp rfl (fr_cp rfl (fr_cp rfl (fr_cp rfl (fr_cp rfl fr_rf))))))))
theorem fr_F_K_copyFrom_47 {w : z_Wd} : z_fr [42, 43, 44, 45, 46] [(41, 6), (41, 7), (41, 8)] w (F_K_copyFrom_47 w) := by
  unfold F_K_copyFrom_47
  exact (fr_uf rfl (fr_uf rfl (fr_uf rfl (fr_cp rfl (fr_cp rfl (fr_cp rfl (fr_cp rfl (fr_cp rfl fr_rf))))))))
theorem fr_F_K_writeTo_54 {w : z_Wd} {a1 : Int} : z_fr [54] [] w (F_K_writeTo_54 w a1) := by
  unfold F_K_writeTo_54
  exact (fr_i0 fr_rf (fr_i0 (fr_up rfl (fr_up rfl (fr_up rfl (fr_cp rfl (fr_cp rfl (fr_cp rfl fr_rf)))))) fr_rf))
theorem fr_F_K_readFrom_54 {w : z_Wd} {a1 : Int} : z_fr [42, 43, 44] [(41, 6), (41, 7), (41, 8)] w (F_K_readFrom_54 w a1) := by
  unfold F_K_readFrom_54
  exact (fr_i0 fr_rf (fr_i0 (fr_uf rfl (fr_uf rfl (fr_uf rfl (fr_cp rfl (fr_cp rfl (fr_cp rfl fr_rf)))))) fr_rf))
theorem fr_F_H_keep_41 {w : z_Wd} : z_fr [54] [(53, 1), (53, 2)] w (F_H_keep_41 w) := by
  unfold F_H_keep_41
  exact (fr_uf rfl (fr_uf rfl (fr_tr fr_rf (fr_wk fr_F_K_writeTo_54 rfl rfl))))
theorem fr_F_H_takeBack_41 {w : z_Wd} : z_fr [42, 43, 44] [(41, 6), (41, 7), (41, 8), (53, 1), (53, 2)] w (F_H_takeBack_41 w).2 := by
  unfold F_H_takeBack_41
  exact (fr_i1 (fr_p1 fr_rf) (fr_p1 (fr_tr (fr_uf rfl (fr_uf rfl fr_rf)) (fr_wk fr_F_K_readFrom_54 rfl rfl))))
theorem fr_F_W_copyFrom_58_38 {w : z_Wd} : z_fr [59] [(58, 2)] w (F_W_copyFrom_58_38 w) := by
  unfold F_W_copyFrom_58_38
  exact (fr_uf rfl (fr_cp rfl fr_rf))
theorem fr_F_W_push_58 {w : z_Wd} {a0 : Int} : z_fr [60] [(58, 3)] w (F_W_push_58 w a0) := by
  unfold F_W_push_58
  exact (fr_i0 fr_rf (fr_uf rfl (fr_up rfl fr_rf)))
theorem fr_F_W_pop_58 {w : z_Wd} : z_fr [] [(58, 3)] w (F_W_pop_58 w).2 := by
  unfold F_W_pop_58
  exact (fr_i1 (fr_p1 (fr_uf rfl fr_rf)) (fr_p1 fr_rf))
theorem fr_F_W_copyFrom_61_38 {w : z_Wd} : z_fr [62] [(61, 2)] w (F_W_copyFrom_61_38 w) := by
  unfold F_W_copyFrom_61_38
  exact (fr_uf rfl (fr_cp rfl fr_rf))
theorem fr_F_W_push_61 {w : z_Wd} {a0 : Int} : z_fr [63] [(61, 3)] w (F_W_push_61 w a0) := by
  unfold F_W_push_61
  exact (fr_i0 fr_rf (fr_uf rfl (fr_up rfl fr_rf)))
theorem fr_F_W_pop_61 {w : z_Wd} : z_fr [] [(61, 3)] w (F_W_pop_61 w).2 := by
  unfold F_W_pop_61
  exact (fr_i1 (fr_p1 (fr_uf rfl fr_rf)) (fr_p1 fr_rf))
theorem fr_F_W_copyFrom_64_38 {w : z_Wd} : z_fr [65] [(64, 2)] w (F_W_copyFrom_64_38 w) := by
  unfold F_W_copyFrom_64_38
  exact (fr_uf rfl (fr_cp rfl fr_rf))
theorem fr_F_W_push_64 {w : z_Wd} {a0 : Int} : z_fr [66] [(64, 3)] w (F_W_push_64 w a0) := by
  unfold F_W_push_64
  exact (fr_i0 fr_rf (fr_uf rfl (fr_up rfl fr_rf)))
theorem fr_F_W_pop_64 {w : z_Wd} : z_fr [] [(64, 3)] w (F_W_pop_64 w).2 := by
  unfold F_W_pop_64
  exact (fr_i1 (fr_p1 (fr_uf rfl fr_rf)) (fr_p1 fr_rf))
theorem fr_F_W_copyFrom_67_38 {w : z_Wd} : z_fr [68] [(67, 2)] w (F_W_copyFrom_67_38 w) := by
  unfold F_W_copyFrom_67_38
  exact (fr_uf rfl (fr_cp rfl fr_rf))
theorem fr_F_W_push_67 {w : z_Wd} {a0 : Int} : z_fr [69] [(67, 3)] w (F_W_push_67 w a0) := by
  unfold F_W_push_67
  exact (fr_i0 fr_rf (fr_uf rfl (fr_up rfl fr_rf)))
theorem fr_F_W_pop_67 {w : z_Wd} : z_fr [] [(67, 3)] w (F_W_pop_67 w).2 := by
  unfold F_W_pop_67
  exact (fr_i1 (fr_p1 (fr_uf rfl fr_rf)) (fr_p1 fr_rf))
theorem fr_F_C_note {w : z_Wd} {a0 : Int} {a1 : Int} : z_fr [73, 74] [(72, 4)] w (F_C_note w a0 a1).2 := by
  unfold F_C_note
  exact (fr_i1 (fr_p1 fr_rf) (fr_i1 (fr_p1 fr_rf) (fr_i1 (fr_p1 fr_rf) (fr_i1 (fr_p1 (fr_uf rfl (fr_up rfl (fr_up rfl fr_rf)))) (fr_p1 fr_rf)))))
theorem fr_A_C_mostOfASort_22 {w : z_Wd} {a0 : Int} {a1 : Int} {n : Nat} : z_fr [75] [] w (A_C_mostOfASort_22 w a0 a1 n) := by
  induction n with
  | zero =>
    exact (fr_up rfl (fr_up rfl (fr_up rfl fr_rf)))
  | succ n ih =>
    show z_fr [75] [] w (if F_C_fits (A_C_mostOfASort_22 w a0 a1 n) (n : Int) a1 = 0 then A_C_mostOfASort_22 w a0 a1 n else z_up (A_C_mostOfASort_22 w a0 a1 n) 75 (((zz_and (zz_shr (n : Int) (F_Y_inFile (A_C_mostOfASort_22 w a0 a1 n) a0 0)) 1) + (zz_and (zz_shr (n : Int) (F_Y_inFile (A_C_mostOfASort_22 w a0 a1 n) a0 1)) 1)).toNat) (((A_C_mostOfASort_22 w a0 a1 n) 75 (((zz_and (zz_shr (n : Int) (F_Y_inFile (A_C_mostOfASort_22 w a0 a1 n) a0 0)) 1) + (zz_and (zz_shr (n : Int) (F_Y_inFile (A_C_mostOfASort_22 w a0 a1 n) a0 1)) 1)).toNat)) + 1))
    exact (fr_i0 ih (fr_up rfl ih))
theorem fr_F_C_mostOfASort {w : z_Wd} {a0 : Int} {a1 : Int} : z_fr [75] [] w (F_C_mostOfASort w a0 a1).2 := by
  unfold F_C_mostOfASort
  exact (fr_p1 (fr_tr fr_rf (fr_wk fr_A_C_mostOfASort_22 rfl rfl)))
theorem fr_A_K_start_30 {w : z_Wd} {sw : z_Wd} {n : Nat} : z_fr [44] [] sw (A_K_start_30 w sw n) := by
  induction n with
  | zero =>
    exact fr_rf
  | succ n ih =>
    show z_fr [44] [] sw (z_up (A_K_start_30 w sw n) 44 ((n : Int).toNat) (F_Y_value (A_K_start_30 w sw n) 1 (n : Int) 0))
    exact (fr_up rfl ih)
theorem fr_A_K_start_2 {w : z_Wd} {n : Nat} : z_fr [42, 43] [] w (A_K_start_2 w n) := by
  induction n with
  | zero =>
    exact fr_rf
  | succ n ih =>
    show z_fr [42, 43] [] w (z_up (z_up (A_K_start_2 w n) 42 ((n : Int).toNat) (-1)) 43 ((n : Int).toNat) 0)
    exact (fr_up rfl (fr_up rfl ih))
theorem fr_F_K_start {w : z_Wd} : z_fr [42, 43, 44] [(41, 6), (41, 7), (41, 8)] w (F_K_start w) := by
  unfold F_K_start
  exact (fr_uf rfl (fr_uf rfl (fr_uf rfl (fr_tr (fr_tr fr_rf (fr_wk fr_A_K_start_2 rfl rfl)) (fr_wk fr_A_K_start_30 rfl rfl)))))
theorem fr_F_K_drown {w : z_Wd} {a0 : Int} {a1 : Int} : z_fr [42, 43] [] w (F_K_drown w a0 a1) := by
  unfold F_K_drown
  exact (fr_i0 fr_rf (fr_up rfl (fr_up rfl fr_rf)))
theorem fr_A_K_lift_11 {w : z_Wd} {a0 : Int} {n : Nat} : z_fr [43] [] w (A_K_lift_11 w a0 n) := by
  induction n with
  | zero =>
    exact fr_rf
  | succ n ih =>
    show z_fr [43] [] w (if F_K_liesOver (A_K_lift_11 w a0 n) (n : Int) a0 = 0 then A_K_lift_11 w a0 n else z_up (A_K_lift_11 w a0 n) 43 ((n : Int).toNat) (((A_K_lift_11 w a0 n) 43 ((n : Int).toNat)) - 1))
    exact (fr_i0 ih (fr_up rfl ih))
theorem fr_F_K_lift {w : z_Wd} {a0 : Int} : z_fr [42, 43] [] w (F_K_lift w a0) := by
  unfold F_K_lift
  exact (fr_i0 (fr_up rfl (fr_up rfl (fr_tr fr_rf (fr_wk fr_A_K_lift_11 rfl rfl)))) fr_rf)
theorem fr_F_K_deepen {w : z_Wd} {a0 : Int} : z_fr [44] [] w (F_K_deepen w a0) := by
  unfold F_K_deepen
  exact (fr_i0 fr_rf (fr_up rfl fr_rf))
theorem fr_F_K_passYear {w : z_Wd} {a0 : Int} : z_fr [45, 46] [(41, 6), (41, 7), (41, 8)] w (F_K_passYear w a0) := by
  unfold F_K_passYear
  exact (fr_uf rfl (fr_up rfl (fr_up rfl (fr_tr (fr_uf rfl fr_rf) (fr_wk fr_F_K_earn rfl rfl)))))
theorem fr_F_LR_step {w : z_Wd} : z_fr [] [(37, 2)] w (F_LR_step w) := by
  unfold F_LR_step
  exact (fr_uf rfl fr_rf)
theorem fr_F_LR_take {w : z_Wd} {a0 : Int} : z_fr [] [(37, 2)] w (F_LR_take w a0).2 := by
  unfold F_LR_take
  exact (fr_i1 (fr_p1 (fr_tr fr_rf (fr_wk fr_F_LR_step rfl rfl))) (fr_p1 fr_rf))
theorem fr_F_LR_readNumber {w : z_Wd} : z_fr [39] [(37, 2), (38, 2)] w (F_LR_readNumber w).2 := by
  unfold F_LR_readNumber
  exact (fr_i1 (fr_p1 fr_rf) (fr_i1 (fr_p1 (fr_uf rfl (fr_tr fr_rf (fr_wk fr_F_W_add rfl rfl)))) (fr_p1 (fr_uf rfl fr_rf))))
theorem fr_A_Y_clear_2 {w : z_Wd} {n : Nat} : z_fr [32] [] w (A_Y_clear_2 w n) := by
  induction n with
  | zero =>
    exact fr_rf
  | succ n ih =>
    show z_fr [32] [] w (z_up (A_Y_clear_2 w n) 32 ((n : Int).toNat) 0)
    exact (fr_up rfl ih)
theorem fr_F_Y_clear {w : z_Wd} : z_fr [31, 32] [] w (F_Y_clear w) := by
  unfold F_Y_clear
  exact (fr_tr (fr_tr fr_rf (fr_wk fr_A_Y_clear_2 rfl rfl)) (fr_wk fr_F_Y_setUsual rfl rfl))
theorem fr_F_Y_open {w : z_Wd} {a0 : Int} : z_fr [31, 32] [] w (F_Y_open w a0).2 := by
  unfold F_Y_open
  exact (fr_i1 (fr_p1 (fr_up rfl (fr_tr fr_rf (fr_wk fr_F_Y_setUsual rfl rfl)))) (fr_p1 fr_rf))
theorem fr_F_YR_step {w : z_Wd} : z_fr [] [(33, 2)] w (F_YR_step w) := by
  unfold F_YR_step
  exact (fr_uf rfl fr_rf)
theorem fr_F_YR_readNumber {w : z_Wd} {a0 : Int} {a1 : Int} : z_fr [35] [(33, 2)] w (F_YR_readNumber w a0 a1).2 := by
  unfold F_YR_readNumber
  exact (fr_i1 (fr_p1 fr_rf) (fr_i1 (fr_i1 (fr_p1 (fr_uf rfl fr_rf)) (fr_i1 (fr_p1 (fr_tr (fr_tr (fr_uf rfl fr_rf) (fr_wk fr_F_Y_tellLatest_34 rfl rfl)) (fr_wk fr_F_YR_step rfl rfl))) (fr_p1 (fr_uf rfl fr_rf)))) (fr_p1 (fr_uf rfl fr_rf))))
theorem fr_A_N_setUp_2 {w : z_Wd} {a0 : Int} {n : Nat} : z_fr [77] [] w (A_N_setUp_2 w a0 n) := by
  induction n with
  | zero =>
    exact fr_rf
  | succ n ih =>
    show z_fr [77] [] w (z_up (A_N_setUp_2 w a0 n) 77 ((n : Int).toNat) (F_K_comesUp (A_N_setUp_2 w a0 n) a0 (n : Int) (zz_and ((zz_shl 1 ((A_N_setUp_2 w a0 n) 32 2)) - 1) (zz_xor (F_K_inside (A_N_setUp_2 w a0 n) (-1)) (-1)))))
    exact (fr_up rfl ih)
theorem fr_F_N_setUp {w : z_Wd} {a0 : Int} : z_fr [77] [] w (F_N_setUp w a0) := by
  unfold F_N_setUp
  exact (fr_tr fr_rf (fr_wk fr_A_N_setUp_2 rfl rfl))
theorem fr_F_D_dip {w : z_Wd} {a0 : Int} {a1 : Int} : z_fr [42, 43, 54, 78] [(53, 1), (53, 2)] w (F_D_dip w a0 a1).2 := by
  unfold F_D_dip
  exact (fr_i1 (fr_p1 (fr_tr fr_rf (fr_wk fr_F_D_refuse rfl rfl))) (fr_i1 (fr_p1 (fr_tr fr_rf (fr_wk fr_F_D_refuse rfl rfl))) (fr_i1 (fr_p1 (fr_tr fr_rf (fr_wk fr_F_D_refuse rfl rfl))) (fr_i1 (fr_p1 (fr_tr fr_rf (fr_wk fr_F_D_refuse rfl rfl))) (fr_p1 (fr_tr (fr_tr fr_rf (fr_wk fr_F_H_keep_41 rfl rfl)) (fr_wk fr_F_K_drown rfl rfl)))))))
theorem fr_F_D_fill {w : z_Wd} {a0 : Int} : z_fr [44, 54, 78] [(41, 6), (53, 1), (53, 2)] w (F_D_fill w a0).2 := by
  unfold F_D_fill
  exact (fr_i1 (fr_p1 (fr_tr fr_rf (fr_wk fr_F_D_refuse rfl rfl))) (fr_i1 (fr_i1 (fr_p1 (fr_tr (fr_tr (fr_tr fr_rf (fr_wk fr_F_H_keep_41 rfl rfl)) (fr_wk fr_F_K_pay rfl rfl)) (fr_wk fr_F_K_deepen rfl rfl))) (fr_p1 (fr_tr fr_rf (fr_wk fr_F_D_refuse rfl rfl)))) (fr_p1 (fr_tr fr_rf (fr_wk fr_F_D_refuse rfl rfl)))))
theorem fr_F_D_give {w : z_Wd} {a0 : Int} : z_fr [54, 78] [(41, 6), (53, 1), (53, 2)] w (F_D_give w a0).2 := by
  unfold F_D_give
  exact (fr_i1 (fr_p1 (fr_tr fr_rf (fr_wk fr_F_D_refuse rfl rfl))) (fr_i1 (fr_p1 (fr_tr fr_rf (fr_wk fr_F_D_refuse rfl rfl))) (fr_i1 (fr_p1 (fr_tr fr_rf (fr_wk fr_F_D_refuse rfl rfl))) (fr_i1 (fr_p1 (fr_tr (fr_tr fr_rf (fr_wk fr_F_H_keep_41 rfl rfl)) (fr_wk fr_F_K_earn rfl rfl))) (fr_p1 (fr_tr fr_rf (fr_wk fr_F_D_refuse rfl rfl)))))))
theorem fr_F_D_dipByDraws {w : z_Wd} : z_fr [42, 43] [(27, 14)] w (F_D_dipByDraws w) := by
  unfold F_D_dipByDraws
  exact (fr_i0 (fr_tr (fr_tr fr_rf (fr_wk fr_F_D_draw rfl rfl)) (fr_wk fr_F_D_draw rfl rfl)) (fr_i0 (fr_tr (fr_tr fr_rf (fr_wk fr_F_D_draw rfl rfl)) (fr_wk fr_F_D_draw rfl rfl)) (fr_tr (fr_tr (fr_tr fr_rf (fr_wk fr_F_D_draw rfl rfl)) (fr_wk fr_F_D_draw rfl rfl)) (fr_wk fr_F_K_drown rfl rfl))))
theorem fr_F_D_undo {w : z_Wd} : z_fr [42, 43, 44] [(41, 6), (41, 7), (41, 8), (53, 1), (53, 2)] w (F_D_undo w).2 := by
  unfold F_D_undo
  exact (fr_i1 (fr_p1 (fr_tr fr_rf (fr_wk fr_F_H_takeBack_41 rfl rfl))) (fr_p1 (fr_tr fr_rf (fr_wk fr_F_H_takeBack_41 rfl rfl))))
theorem fr_F_D_seen {w : z_Wd} {a0 : Int} {a1 : Int} : z_fr [73, 74] [(72, 4)] w (F_D_seen w a0 a1).2 := by
  unfold F_D_seen
  exact (fr_p1 (fr_tr fr_rf (fr_wk fr_F_C_note rfl rfl)))
theorem fr_F_D_game {w : z_Wd} {a0 : Int} {a1 : Int} {a2 : Int} {a3 : Int} {a4 : Int} {a5 : Int} : z_fr [77] [] w (F_D_game w a0 a1 a2 a3 a4 a5).2 := by
  unfold F_D_game
  exact (fr_i1 (fr_p1 fr_rf) (fr_i1 (fr_p1 fr_rf) (fr_i1 (fr_p1 fr_rf) (fr_i1 (fr_p1 fr_rf) (fr_i1 (fr_i1 (fr_p1 (fr_tr fr_rf (fr_wk fr_F_N_setUp rfl rfl))) (fr_i1 (fr_p1 (fr_tr fr_rf (fr_wk fr_F_N_setUp rfl rfl))) (fr_p1 (fr_tr fr_rf (fr_wk fr_F_N_setUp rfl rfl))))) (fr_p1 fr_rf))))))
theorem fr_F_D_image {w : z_Wd} : z_fr [48, 49, 50, 51, 52] [(27, 13), (47, 6), (47, 7), (47, 8)] w (F_D_image w).2 := by
  unfold F_D_image
  exact (fr_i1 (fr_p1 fr_rf) (fr_p1 (fr_uf rfl (fr_tr fr_rf (fr_wk fr_F_K_copyFrom_47_41 rfl rfl)))))
theorem fr_F_D_back {w : z_Wd} : z_fr [42, 43, 44, 45, 46] [(41, 6), (41, 7), (41, 8), (53, 2)] w (F_D_back w).2 := by
  unfold F_D_back
  exact (fr_i1 (fr_p1 fr_rf) (fr_p1 (fr_tr (fr_tr fr_rf (fr_wk fr_F_K_copyFrom_47 rfl rfl)) (fr_wk fr_F_H_forget rfl rfl))))
theorem fr_A_Y_clear_34_2 {w : z_Wd} {n : Nat} : z_fr [36] [] w (A_Y_clear_34_2 w n) := by
  induction n with
  | zero =>
    exact fr_rf
  | succ n ih =>
    show z_fr [36] [] w (z_up (A_Y_clear_34_2 w n) 36 ((n : Int).toNat) 0)
    exact (fr_up rfl ih)
theorem fr_F_Y_clear_34 {w : z_Wd} : z_fr [35, 36] [] w (F_Y_clear_34 w) := by
  unfold F_Y_clear_34
  exact (fr_tr (fr_tr fr_rf (fr_wk fr_A_Y_clear_34_2 rfl rfl)) (fr_wk fr_F_Y_setUsual_34 rfl rfl))
theorem fr_F_Y_open_34 {w : z_Wd} {a0 : Int} : z_fr [35, 36] [] w (F_Y_open_34 w a0).2 := by
  unfold F_Y_open_34
  exact (fr_i1 (fr_p1 (fr_up rfl (fr_tr fr_rf (fr_wk fr_F_Y_setUsual_34 rfl rfl)))) (fr_p1 fr_rf))
theorem fr_F_G_pass_38 {w : z_Wd} : z_fr [59, 62, 65, 68] [(55, 4), (58, 2), (61, 2), (64, 2), (67, 2)] w (F_G_pass_38 w).2 := by
  unfold F_G_pass_38
  exact (fr_i1 (fr_i1 (fr_p1 (fr_uf rfl (fr_tr fr_rf (fr_wk fr_F_W_copyFrom_58_38 rfl rfl)))) (fr_i1 (fr_p1 (fr_uf rfl (fr_tr fr_rf (fr_wk fr_F_W_copyFrom_61_38 rfl rfl)))) (fr_i1 (fr_p1 (fr_uf rfl (fr_tr fr_rf (fr_wk fr_F_W_copyFrom_64_38 rfl rfl)))) (fr_p1 (fr_uf rfl (fr_tr fr_rf (fr_wk fr_F_W_copyFrom_67_38 rfl rfl))))))) (fr_p1 fr_rf))
theorem fr_L_W_weigh_58_57_7 {w : z_Wd} : ∀ {n : Nat} {u2 : Int} {wu : z_Wd}, z_fr [60] [(58, 3)] w wu → z_fr [60] [(58, 3)] w (L_W_weigh_58_57_7 w n u2 wu).2 := by
  intro n
  induction n with
  | zero =>
    intro u2 wu h
    exact fr_rf
  | succ n ih =>
    intro u2 wu h
    show z_fr [60] [(58, 3)] w (if u2 ≥ wu 58 2 then (0, wu) else if Int.tdiv (wu 59 u2.toNat) 10000 = 0 then L_W_weigh_58_57_7 w n (u2 + 1) (F_W_push_58 wu (Int.tmod (wu 59 u2.toNat) 10000)) else if Int.tdiv (wu 59 u2.toNat) 10000 = 1 then if Int.tmod (wu 59 u2.toNat) 10000 ≥ 6 then L_W_weigh_58_57_7 w n (u2 + 1) (F_W_push_58 wu 0) else L_W_weigh_58_57_7 w n (u2 + 1) (F_W_push_58 wu (wu 57 ((Int.tmod (wu 59 u2.toNat) 10000).toNat))) else if Int.tdiv (wu 59 u2.toNat) 10000 = 2 then ((F_W_pop_58 wu).1, (F_W_pop_58 wu).2) else if Int.tdiv (wu 59 u2.toNat) 10000 = 3 then if (F_W_pop_58 wu).1 = 0 then L_W_weigh_58_57_7 w n ((F_J_max_7cf53 ((F_W_pop_58 wu).2) u2 ((Int.tmod (wu 59 u2.toNat) 10000) - 1)) + 1) ((F_W_pop_58 wu).2) else L_W_weigh_58_57_7 w n (u2 + 1) ((F_W_pop_58 wu).2) else if Int.tdiv (wu 59 u2.toNat) 10000 = 33 then if (F_W_pop_58 wu).1 = 0 then L_W_weigh_58_57_7 w n (u2 + 1) (F_W_push_58 ((F_W_pop_58 wu).2) 1) else L_W_weigh_58_57_7 w n (u2 + 1) (F_W_push_58 ((F_W_pop_58 wu).2) 0) else L_W_weigh_58_57_7 w n (u2 + 1) (F_W_push_58 ((F_W_pop_58 ((F_W_pop_58 wu).2)).2) (F_W_join ((F_W_pop_58 ((F_W_pop_58 wu).2)).2) (Int.tdiv (wu 59 u2.toNat) 10000) ((F_W_pop_58 ((F_W_pop_58 wu).2)).1) ((F_W_pop_58 wu).1)))).2
    exact (fr_i1 (fr_p1 h) (fr_i1 (ih (fr_tr h (fr_wk fr_F_W_push_58 rfl rfl))) (fr_i1 (fr_i1 (ih (fr_tr h (fr_wk fr_F_W_push_58 rfl rfl))) (ih (fr_tr h (fr_wk fr_F_W_push_58 rfl rfl)))) (fr_i1 (fr_p1 (fr_tr h (fr_wk fr_F_W_pop_58 rfl rfl))) (fr_i1 (fr_i1 (ih (fr_tr h (fr_wk fr_F_W_pop_58 rfl rfl))) (ih (fr_tr h (fr_wk fr_F_W_pop_58 rfl rfl)))) (fr_i1 (fr_i1 (ih (fr_tr (fr_tr h (fr_wk fr_F_W_pop_58 rfl rfl)) (fr_wk fr_F_W_push_58 rfl rfl))) (ih (fr_tr (fr_tr h (fr_wk fr_F_W_pop_58 rfl rfl)) (fr_wk fr_F_W_push_58 rfl rfl)))) (ih (fr_tr (fr_tr (fr_tr h (fr_wk fr_F_W_pop_58 rfl rfl)) (fr_wk fr_F_W_pop_58 rfl rfl)) (fr_wk fr_F_W_push_58 rfl rfl)))))))))
theorem fr_F_W_weigh_58_57 {w : z_Wd} : z_fr [60] [(58, 3)] w (F_W_weigh_58_57 w).2 := by
  unfold F_W_weigh_58_57
  exact (fr_L_W_weigh_58_57_7 (fr_uf rfl fr_rf))
theorem fr_L_W_weigh_61_57_7 {w : z_Wd} : ∀ {n : Nat} {u2 : Int} {wu : z_Wd}, z_fr [63] [(61, 3)] w wu → z_fr [63] [(61, 3)] w (L_W_weigh_61_57_7 w n u2 wu).2 := by
  intro n
  induction n with
  | zero =>
    intro u2 wu h
    exact fr_rf
  | succ n ih =>
    intro u2 wu h
    show z_fr [63] [(61, 3)] w (if u2 ≥ wu 61 2 then (0, wu) else if Int.tdiv (wu 62 u2.toNat) 10000 = 0 then L_W_weigh_61_57_7 w n (u2 + 1) (F_W_push_61 wu (Int.tmod (wu 62 u2.toNat) 10000)) else if Int.tdiv (wu 62 u2.toNat) 10000 = 1 then if Int.tmod (wu 62 u2.toNat) 10000 ≥ 6 then L_W_weigh_61_57_7 w n (u2 + 1) (F_W_push_61 wu 0) else L_W_weigh_61_57_7 w n (u2 + 1) (F_W_push_61 wu (wu 57 ((Int.tmod (wu 62 u2.toNat) 10000).toNat))) else if Int.tdiv (wu 62 u2.toNat) 10000 = 2 then ((F_W_pop_61 wu).1, (F_W_pop_61 wu).2) else if Int.tdiv (wu 62 u2.toNat) 10000 = 3 then if (F_W_pop_61 wu).1 = 0 then L_W_weigh_61_57_7 w n ((F_J_max_7cf53 ((F_W_pop_61 wu).2) u2 ((Int.tmod (wu 62 u2.toNat) 10000) - 1)) + 1) ((F_W_pop_61 wu).2) else L_W_weigh_61_57_7 w n (u2 + 1) ((F_W_pop_61 wu).2) else if Int.tdiv (wu 62 u2.toNat) 10000 = 33 then if (F_W_pop_61 wu).1 = 0 then L_W_weigh_61_57_7 w n (u2 + 1) (F_W_push_61 ((F_W_pop_61 wu).2) 1) else L_W_weigh_61_57_7 w n (u2 + 1) (F_W_push_61 ((F_W_pop_61 wu).2) 0) else L_W_weigh_61_57_7 w n (u2 + 1) (F_W_push_61 ((F_W_pop_61 ((F_W_pop_61 wu).2)).2) (F_W_join ((F_W_pop_61 ((F_W_pop_61 wu).2)).2) (Int.tdiv (wu 62 u2.toNat) 10000) ((F_W_pop_61 ((F_W_pop_61 wu).2)).1) ((F_W_pop_61 wu).1)))).2
    exact (fr_i1 (fr_p1 h) (fr_i1 (ih (fr_tr h (fr_wk fr_F_W_push_61 rfl rfl))) (fr_i1 (fr_i1 (ih (fr_tr h (fr_wk fr_F_W_push_61 rfl rfl))) (ih (fr_tr h (fr_wk fr_F_W_push_61 rfl rfl)))) (fr_i1 (fr_p1 (fr_tr h (fr_wk fr_F_W_pop_61 rfl rfl))) (fr_i1 (fr_i1 (ih (fr_tr h (fr_wk fr_F_W_pop_61 rfl rfl))) (ih (fr_tr h (fr_wk fr_F_W_pop_61 rfl rfl)))) (fr_i1 (fr_i1 (ih (fr_tr (fr_tr h (fr_wk fr_F_W_pop_61 rfl rfl)) (fr_wk fr_F_W_push_61 rfl rfl))) (ih (fr_tr (fr_tr h (fr_wk fr_F_W_pop_61 rfl rfl)) (fr_wk fr_F_W_push_61 rfl rfl)))) (ih (fr_tr (fr_tr (fr_tr h (fr_wk fr_F_W_pop_61 rfl rfl)) (fr_wk fr_F_W_pop_61 rfl rfl)) (fr_wk fr_F_W_push_61 rfl rfl)))))))))
theorem fr_F_W_weigh_61_57 {w : z_Wd} : z_fr [63] [(61, 3)] w (F_W_weigh_61_57 w).2 := by
  unfold F_W_weigh_61_57
  exact (fr_L_W_weigh_61_57_7 (fr_uf rfl fr_rf))
theorem fr_L_W_weigh_64_57_7 {w : z_Wd} : ∀ {n : Nat} {u2 : Int} {wu : z_Wd}, z_fr [66] [(64, 3)] w wu → z_fr [66] [(64, 3)] w (L_W_weigh_64_57_7 w n u2 wu).2 := by
  intro n
  induction n with
  | zero =>
    intro u2 wu h
    exact fr_rf
  | succ n ih =>
    intro u2 wu h
    show z_fr [66] [(64, 3)] w (if u2 ≥ wu 64 2 then (0, wu) else if Int.tdiv (wu 65 u2.toNat) 10000 = 0 then L_W_weigh_64_57_7 w n (u2 + 1) (F_W_push_64 wu (Int.tmod (wu 65 u2.toNat) 10000)) else if Int.tdiv (wu 65 u2.toNat) 10000 = 1 then if Int.tmod (wu 65 u2.toNat) 10000 ≥ 6 then L_W_weigh_64_57_7 w n (u2 + 1) (F_W_push_64 wu 0) else L_W_weigh_64_57_7 w n (u2 + 1) (F_W_push_64 wu (wu 57 ((Int.tmod (wu 65 u2.toNat) 10000).toNat))) else if Int.tdiv (wu 65 u2.toNat) 10000 = 2 then ((F_W_pop_64 wu).1, (F_W_pop_64 wu).2) else if Int.tdiv (wu 65 u2.toNat) 10000 = 3 then if (F_W_pop_64 wu).1 = 0 then L_W_weigh_64_57_7 w n ((F_J_max_7cf53 ((F_W_pop_64 wu).2) u2 ((Int.tmod (wu 65 u2.toNat) 10000) - 1)) + 1) ((F_W_pop_64 wu).2) else L_W_weigh_64_57_7 w n (u2 + 1) ((F_W_pop_64 wu).2) else if Int.tdiv (wu 65 u2.toNat) 10000 = 33 then if (F_W_pop_64 wu).1 = 0 then L_W_weigh_64_57_7 w n (u2 + 1) (F_W_push_64 ((F_W_pop_64 wu).2) 1) else L_W_weigh_64_57_7 w n (u2 + 1) (F_W_push_64 ((F_W_pop_64 wu).2) 0) else L_W_weigh_64_57_7 w n (u2 + 1) (F_W_push_64 ((F_W_pop_64 ((F_W_pop_64 wu).2)).2) (F_W_join ((F_W_pop_64 ((F_W_pop_64 wu).2)).2) (Int.tdiv (wu 65 u2.toNat) 10000) ((F_W_pop_64 ((F_W_pop_64 wu).2)).1) ((F_W_pop_64 wu).1)))).2
    exact (fr_i1 (fr_p1 h) (fr_i1 (ih (fr_tr h (fr_wk fr_F_W_push_64 rfl rfl))) (fr_i1 (fr_i1 (ih (fr_tr h (fr_wk fr_F_W_push_64 rfl rfl))) (ih (fr_tr h (fr_wk fr_F_W_push_64 rfl rfl)))) (fr_i1 (fr_p1 (fr_tr h (fr_wk fr_F_W_pop_64 rfl rfl))) (fr_i1 (fr_i1 (ih (fr_tr h (fr_wk fr_F_W_pop_64 rfl rfl))) (ih (fr_tr h (fr_wk fr_F_W_pop_64 rfl rfl)))) (fr_i1 (fr_i1 (ih (fr_tr (fr_tr h (fr_wk fr_F_W_pop_64 rfl rfl)) (fr_wk fr_F_W_push_64 rfl rfl))) (ih (fr_tr (fr_tr h (fr_wk fr_F_W_pop_64 rfl rfl)) (fr_wk fr_F_W_push_64 rfl rfl)))) (ih (fr_tr (fr_tr (fr_tr h (fr_wk fr_F_W_pop_64 rfl rfl)) (fr_wk fr_F_W_pop_64 rfl rfl)) (fr_wk fr_F_W_push_64 rfl rfl)))))))))
theorem fr_F_W_weigh_64_57 {w : z_Wd} : z_fr [66] [(64, 3)] w (F_W_weigh_64_57 w).2 := by
  unfold F_W_weigh_64_57
  exact (fr_L_W_weigh_64_57_7 (fr_uf rfl fr_rf))
theorem fr_L_W_weigh_67_57_7 {w : z_Wd} : ∀ {n : Nat} {u2 : Int} {wu : z_Wd}, z_fr [69] [(67, 3)] w wu → z_fr [69] [(67, 3)] w (L_W_weigh_67_57_7 w n u2 wu).2 := by
  intro n
  induction n with
  | zero =>
    intro u2 wu h
    exact fr_rf
  | succ n ih =>
    intro u2 wu h
    show z_fr [69] [(67, 3)] w (if u2 ≥ wu 67 2 then (0, wu) else if Int.tdiv (wu 68 u2.toNat) 10000 = 0 then L_W_weigh_67_57_7 w n (u2 + 1) (F_W_push_67 wu (Int.tmod (wu 68 u2.toNat) 10000)) else if Int.tdiv (wu 68 u2.toNat) 10000 = 1 then if Int.tmod (wu 68 u2.toNat) 10000 ≥ 6 then L_W_weigh_67_57_7 w n (u2 + 1) (F_W_push_67 wu 0) else L_W_weigh_67_57_7 w n (u2 + 1) (F_W_push_67 wu (wu 57 ((Int.tmod (wu 68 u2.toNat) 10000).toNat))) else if Int.tdiv (wu 68 u2.toNat) 10000 = 2 then ((F_W_pop_67 wu).1, (F_W_pop_67 wu).2) else if Int.tdiv (wu 68 u2.toNat) 10000 = 3 then if (F_W_pop_67 wu).1 = 0 then L_W_weigh_67_57_7 w n ((F_J_max_7cf53 ((F_W_pop_67 wu).2) u2 ((Int.tmod (wu 68 u2.toNat) 10000) - 1)) + 1) ((F_W_pop_67 wu).2) else L_W_weigh_67_57_7 w n (u2 + 1) ((F_W_pop_67 wu).2) else if Int.tdiv (wu 68 u2.toNat) 10000 = 33 then if (F_W_pop_67 wu).1 = 0 then L_W_weigh_67_57_7 w n (u2 + 1) (F_W_push_67 ((F_W_pop_67 wu).2) 1) else L_W_weigh_67_57_7 w n (u2 + 1) (F_W_push_67 ((F_W_pop_67 wu).2) 0) else L_W_weigh_67_57_7 w n (u2 + 1) (F_W_push_67 ((F_W_pop_67 ((F_W_pop_67 wu).2)).2) (F_W_join ((F_W_pop_67 ((F_W_pop_67 wu).2)).2) (Int.tdiv (wu 68 u2.toNat) 10000) ((F_W_pop_67 ((F_W_pop_67 wu).2)).1) ((F_W_pop_67 wu).1)))).2
    exact (fr_i1 (fr_p1 h) (fr_i1 (ih (fr_tr h (fr_wk fr_F_W_push_67 rfl rfl))) (fr_i1 (fr_i1 (ih (fr_tr h (fr_wk fr_F_W_push_67 rfl rfl))) (ih (fr_tr h (fr_wk fr_F_W_push_67 rfl rfl)))) (fr_i1 (fr_p1 (fr_tr h (fr_wk fr_F_W_pop_67 rfl rfl))) (fr_i1 (fr_i1 (ih (fr_tr h (fr_wk fr_F_W_pop_67 rfl rfl))) (ih (fr_tr h (fr_wk fr_F_W_pop_67 rfl rfl)))) (fr_i1 (fr_i1 (ih (fr_tr (fr_tr h (fr_wk fr_F_W_pop_67 rfl rfl)) (fr_wk fr_F_W_push_67 rfl rfl))) (ih (fr_tr (fr_tr h (fr_wk fr_F_W_pop_67 rfl rfl)) (fr_wk fr_F_W_push_67 rfl rfl)))) (ih (fr_tr (fr_tr (fr_tr h (fr_wk fr_F_W_pop_67 rfl rfl)) (fr_wk fr_F_W_pop_67 rfl rfl)) (fr_wk fr_F_W_push_67 rfl rfl)))))))))
theorem fr_F_W_weigh_67_57 {w : z_Wd} : z_fr [69] [(67, 3)] w (F_W_weigh_67_57 w).2 := by
  unfold F_W_weigh_67_57
  exact (fr_L_W_weigh_67_57_7 (fr_uf rfl fr_rf))
theorem fr_A_C_bestFile_7 {w : z_Wd} {a0 : Int} {n : Nat} : z_fr [75] [] w (A_C_bestFile_7 w a0 n).2.2 := by
  induction n with
  | zero =>
    exact (fr_p2 fr_rf)
  | succ n ih =>
    show z_fr [75] [] w (if (A_C_bestFile_7 w a0 n).1 = (-1) then ((n : Int), (F_C_mostOfASort ((A_C_bestFile_7 w a0 n).2.2) (n : Int) a0).1, (F_C_mostOfASort ((A_C_bestFile_7 w a0 n).2.2) (n : Int) a0).2) else if (F_C_mostOfASort ((A_C_bestFile_7 w a0 n).2.2) (n : Int) a0).1 ≥ (A_C_bestFile_7 w a0 n).2.1 then ((A_C_bestFile_7 w a0 n).1, (A_C_bestFile_7 w a0 n).2.1, (F_C_mostOfASort ((A_C_bestFile_7 w a0 n).2.2) (n : Int) a0).2) else ((n : Int), (F_C_mostOfASort ((A_C_bestFile_7 w a0 n).2.2) (n : Int) a0).1, (F_C_mostOfASort ((A_C_bestFile_7 w a0 n).2.2) (n : Int) a0).2)).2.2
    exact (fr_i2 (fr_p2 (fr_tr ih (fr_wk fr_F_C_mostOfASort rfl rfl))) (fr_i2 (fr_p2 (fr_tr ih (fr_wk fr_F_C_mostOfASort rfl rfl))) (fr_p2 (fr_tr ih (fr_wk fr_F_C_mostOfASort rfl rfl)))))
theorem fr_F_C_bestFile {w : z_Wd} {a0 : Int} : z_fr [75] [] w (F_C_bestFile w a0).2 := by
  unfold F_C_bestFile
  exact (fr_p1 (fr_tr fr_rf (fr_wk fr_A_C_bestFile_7 rfl rfl)))
theorem fr_F_G_missedIn {w : z_Wd} {a0 : Int} {a1 : Int} {a2 : Int} {a3 : Int} : z_fr [57, 60, 63, 66, 69] [(58, 3), (61, 3), (64, 3), (67, 3)] w (F_G_missedIn w a0 a1 a2 a3).2 := by
  unfold F_G_missedIn
  exact (fr_i1 (fr_p1 fr_rf) (fr_i1 (fr_i1 (fr_i1 (fr_p1 (fr_tr (fr_up rfl (fr_up rfl (fr_up rfl (fr_up rfl (fr_up rfl (fr_up rfl fr_rf)))))) (fr_wk fr_F_W_weigh_58_57 rfl rfl))) (fr_i1 (fr_p1 (fr_tr (fr_up rfl (fr_up rfl (fr_up rfl (fr_up rfl (fr_up rfl (fr_up rfl fr_rf)))))) (fr_wk fr_F_W_weigh_61_57 rfl rfl))) (fr_i1 (fr_p1 (fr_tr (fr_up rfl (fr_up rfl (fr_up rfl (fr_up rfl (fr_up rfl (fr_up rfl fr_rf)))))) (fr_wk fr_F_W_weigh_64_57 rfl rfl))) (fr_p1 (fr_tr (fr_up rfl (fr_up rfl (fr_up rfl (fr_up rfl (fr_up rfl (fr_up rfl fr_rf)))))) (fr_wk fr_F_W_weigh_67_57 rfl rfl)))))) (fr_i1 (fr_p1 (fr_tr (fr_up rfl (fr_up rfl (fr_up rfl (fr_up rfl (fr_up rfl (fr_up rfl fr_rf)))))) (fr_wk fr_F_W_weigh_58_57 rfl rfl))) (fr_i1 (fr_p1 (fr_tr (fr_up rfl (fr_up rfl (fr_up rfl (fr_up rfl (fr_up rfl (fr_up rfl fr_rf)))))) (fr_wk fr_F_W_weigh_61_57 rfl rfl))) (fr_i1 (fr_p1 (fr_tr (fr_up rfl (fr_up rfl (fr_up rfl (fr_up rfl (fr_up rfl (fr_up rfl fr_rf)))))) (fr_wk fr_F_W_weigh_64_57 rfl rfl))) (fr_p1 (fr_tr (fr_up rfl (fr_up rfl (fr_up rfl (fr_up rfl (fr_up rfl (fr_up rfl fr_rf)))))) (fr_wk fr_F_W_weigh_67_57 rfl rfl))))))) (fr_p1 fr_rf)))
theorem fr_A_G_withoutThese_28 {w : z_Wd} {a0 : Int} {n : Nat} : z_fr [57, 60, 63, 66, 69] [(58, 3), (61, 3), (64, 3), (67, 3)] w (A_G_withoutThese_28 w a0 n).2 := by
  induction n with
  | zero =>
    exact (fr_p1 fr_rf)
  | succ n ih =>
    show z_fr [57, 60, 63, 66, 69] [(58, 3), (61, 3), (64, 3), (67, 3)] w (if zz_and (zz_shr (zz_and (zz_and ((zz_shl 1 (w 32 2)) - 1) (zz_xor (F_K_inside w (-1)) (-1))) (zz_xor a0 (-1))) (n : Int)) 1 = 1 then (((A_G_withoutThese_28 w a0 n).1) + ((F_G_missedIn ((A_G_withoutThese_28 w a0 n).2) (F_K_wellOf ((A_G_withoutThese_28 w a0 n).2) (n : Int)) (n : Int) (F_K_above ((A_G_withoutThese_28 w a0 n).2) (n : Int) (zz_and (zz_and ((zz_shl 1 (w 32 2)) - 1) (zz_xor (F_K_inside w (-1)) (-1))) (zz_xor a0 (-1)))) (zz_or (F_K_inside w (-1)) a0)).1), (F_G_missedIn ((A_G_withoutThese_28 w a0 n).2) (F_K_wellOf ((A_G_withoutThese_28 w a0 n).2) (n : Int)) (n : Int) (F_K_above ((A_G_withoutThese_28 w a0 n).2) (n : Int) (zz_and (zz_and ((zz_shl 1 (w 32 2)) - 1) (zz_xor (F_K_inside w (-1)) (-1))) (zz_xor a0 (-1)))) (zz_or (F_K_inside w (-1)) a0)).2) else ((A_G_withoutThese_28 w a0 n).1, (A_G_withoutThese_28 w a0 n).2)).2
    exact (fr_i1 (fr_p1 (fr_tr ih (fr_wk fr_F_G_missedIn rfl rfl))) (fr_p1 ih))
theorem fr_F_G_withoutThese {w : z_Wd} {a0 : Int} : z_fr [57, 60, 63, 66, 69] [(58, 3), (61, 3), (64, 3), (67, 3)] w (F_G_withoutThese w a0).2 := by
  unfold F_G_withoutThese
  exact (fr_p1 (fr_tr fr_rf (fr_wk fr_A_G_withoutThese_28 rfl rfl)))
theorem fr_A_G_amnesty_17 {w : z_Wd} {n : Nat} : z_fr [57, 60, 63, 66, 69] [(58, 3), (61, 3), (64, 3), (67, 3)] w (A_G_amnesty_17 w n).2.2 := by
  induction n with
  | zero =>
    exact (fr_p2 (fr_tr fr_rf (fr_wk fr_F_G_withoutThese rfl rfl)))
  | succ n ih =>
    show z_fr [57, 60, 63, 66, 69] [(58, 3), (61, 3), (64, 3), (67, 3)] w (if (F_G_withoutThese ((A_G_amnesty_17 w n).2.2) (F_K_inside ((A_G_amnesty_17 w n).2.2) (1 + (n : Int)))).1 ≥ (A_G_amnesty_17 w n).2.1 then ((A_G_amnesty_17 w n).1, (A_G_amnesty_17 w n).2.1, (F_G_withoutThese ((A_G_amnesty_17 w n).2.2) (F_K_inside ((A_G_amnesty_17 w n).2.2) (1 + (n : Int)))).2) else (1 + (n : Int), (F_G_withoutThese ((A_G_amnesty_17 w n).2.2) (F_K_inside ((A_G_amnesty_17 w n).2.2) (1 + (n : Int)))).1, (F_G_withoutThese ((A_G_amnesty_17 w n).2.2) (F_K_inside ((A_G_amnesty_17 w n).2.2) (1 + (n : Int)))).2)).2.2
    exact (fr_i2 (fr_p2 (fr_tr ih (fr_wk fr_F_G_withoutThese rfl rfl))) (fr_p2 (fr_tr ih (fr_wk fr_F_G_withoutThese rfl rfl))))
theorem fr_F_G_amnesty {w : z_Wd} : z_fr [57, 60, 63, 66, 69] [(58, 3), (61, 3), (64, 3), (67, 3)] w (F_G_amnesty w).2 := by
  unfold F_G_amnesty
  exact (fr_p1 (fr_tr fr_rf (fr_wk fr_A_G_amnesty_17 rfl rfl)))
theorem fr_F_K_scratchUp {w : z_Wd} {a0 : Int} {a1 : Int} : z_fr [42, 43] [] w (F_K_scratchUp w a0 a1).2 := by
  unfold F_K_scratchUp
  exact (fr_p1 (fr_tr fr_rf (fr_wk fr_F_K_lift rfl rfl)))
theorem fr_F_K_liftUppermost {w : z_Wd} {a0 : Int} : z_fr [42, 43] [] w (F_K_liftUppermost w a0).2 := by
  unfold F_K_liftUppermost
  exact (fr_p1 (fr_tr fr_rf (fr_wk fr_F_K_lift rfl rfl)))
theorem fr_A_K_liftAll_4 {w : z_Wd} {a0 : Int} {n : Nat} : z_fr [42, 43] [] w (A_K_liftAll_4 w a0 n).2 := by
  induction n with
  | zero =>
    exact (fr_p1 fr_rf)
  | succ n ih =>
    show z_fr [42, 43] [] w (if ((A_K_liftAll_4 w a0 n).2) 42 ((n : Int).toNat) = a0 then (((A_K_liftAll_4 w a0 n).1) + 1, F_K_lift ((A_K_liftAll_4 w a0 n).2) (n : Int)) else ((A_K_liftAll_4 w a0 n).1, (A_K_liftAll_4 w a0 n).2)).2
    exact (fr_i1 (fr_p1 (fr_tr ih (fr_wk fr_F_K_lift rfl rfl))) (fr_p1 ih))
theorem fr_F_K_liftAll {w : z_Wd} {a0 : Int} : z_fr [42, 43] [] w (F_K_liftAll w a0).2 := by
  unfold F_K_liftAll
  exact (fr_p1 (fr_tr fr_rf (fr_wk fr_A_K_liftAll_4 rfl rfl)))
theorem fr_A_YR_readClause_41 {w : z_Wd} {n : Nat} : z_fr [35, 36] [(33, 2)] w (A_YR_readClause_41 w n).2 := by
  induction n with
  | zero =>
    exact (fr_p1 (fr_tr (fr_tr fr_rf (fr_wk fr_F_Y_open_34 rfl rfl)) (fr_wk fr_F_YR_step rfl rfl)))
  | succ n ih =>
    show z_fr [35, 36] [(33, 2)] w (if F_YR_itemOf ((A_YR_readClause_41 w n).2) (F_YR_kindOf w (F_T_at w (w 33 2))) (F_T_at ((A_YR_readClause_41 w n).2) (((A_YR_readClause_41 w n).2) 33 2)) = (-1) then A_YR_readClause_41 w n else if zz_and (zz_shr ((A_YR_readClause_41 w n).1) (F_YR_itemOf ((A_YR_readClause_41 w n).2) (F_YR_kindOf w (F_T_at w (w 33 2))) (F_T_at ((A_YR_readClause_41 w n).2) (((A_YR_readClause_41 w n).2) 33 2)))) 1 = 1 then A_YR_readClause_41 w n else if (F_YR_readNumber (F_YR_step ((A_YR_readClause_41 w n).2)) (F_YR_kindOf w (F_T_at w (w 33 2))) (F_YR_itemOf ((A_YR_readClause_41 w n).2) (F_YR_kindOf w (F_T_at w (w 33 2))) (F_T_at ((A_YR_readClause_41 w n).2) (((A_YR_readClause_41 w n).2) 33 2)))).1 = 0 then A_YR_readClause_41 w n else (zz_or ((A_YR_readClause_41 w n).1) (zz_shl 1 (F_YR_itemOf ((A_YR_readClause_41 w n).2) (F_YR_kindOf w (F_T_at w (w 33 2))) (F_T_at ((A_YR_readClause_41 w n).2) (((A_YR_readClause_41 w n).2) 33 2)))), (F_YR_readNumber (F_YR_step ((A_YR_readClause_41 w n).2)) (F_YR_kindOf w (F_T_at w (w 33 2))) (F_YR_itemOf ((A_YR_readClause_41 w n).2) (F_YR_kindOf w (F_T_at w (w 33 2))) (F_T_at ((A_YR_readClause_41 w n).2) (((A_YR_readClause_41 w n).2) 33 2)))).2)).2
    exact (fr_i1 ih (fr_i1 ih (fr_i1 ih (fr_p1 (fr_tr (fr_tr ih (fr_wk fr_F_YR_step rfl rfl)) (fr_wk fr_F_YR_readNumber rfl rfl))))))
theorem fr_R_YR_readClause_41 {w : z_Wd} {i15 : Nat} : z_fr [35, 36] [(33, 2)] w (R_YR_readClause_41 w i15).2 := by
  unfold R_YR_readClause_41
  exact (fr_i1 (fr_p1 (fr_tr fr_rf (fr_wk fr_A_YR_readClause_41 rfl rfl))) (fr_i1 (fr_p1 (fr_tr fr_rf (fr_wk fr_A_YR_readClause_41 rfl rfl))) (fr_i1 (fr_p1 (fr_tr (fr_tr (fr_tr fr_rf (fr_wk fr_A_YR_readClause_41 rfl rfl)) (fr_wk fr_F_YR_step rfl rfl)) (fr_wk fr_F_YR_readNumber rfl rfl))) (fr_p1 fr_rf))))
theorem fr_F_YR_readClause {w : z_Wd} : z_fr [35, 36] [(33, 2)] w (F_YR_readClause w).2 := by
  unfold F_YR_readClause
  exact (fr_i1 (fr_p1 fr_rf) (fr_i1 (fr_p1 (fr_tr fr_rf (fr_wk fr_F_Y_open_34 rfl rfl))) (fr_i1 (fr_p1 (fr_tr fr_rf (fr_wk fr_A_YR_readClause_41 rfl rfl))) (fr_tr fr_rf (fr_wk fr_R_YR_readClause_41 rfl rfl)))))
theorem fr_F_D_scratch {w : z_Wd} {a0 : Int} {a1 : Int} : z_fr [42, 43, 54, 78] [(53, 1), (53, 2)] w (F_D_scratch w a0 a1).2 := by
  unfold F_D_scratch
  exact (fr_i1 (fr_p1 (fr_tr fr_rf (fr_wk fr_F_D_refuse rfl rfl))) (fr_i1 (fr_p1 (fr_tr fr_rf (fr_wk fr_F_D_refuse rfl rfl))) (fr_i1 (fr_i1 (fr_p1 (fr_tr fr_rf (fr_wk fr_F_D_refuse rfl rfl))) (fr_p1 (fr_tr (fr_tr fr_rf (fr_wk fr_F_H_keep_41 rfl rfl)) (fr_wk fr_F_K_scratchUp rfl rfl)))) (fr_p1 (fr_tr fr_rf (fr_wk fr_F_D_refuse rfl rfl))))))
theorem fr_F_D_blot {w : z_Wd} {a0 : Int} : z_fr [42, 43, 54, 78] [(41, 6), (53, 1), (53, 2)] w (F_D_blot w a0).2 := by
  unfold F_D_blot
  exact (fr_i1 (fr_p1 (fr_tr fr_rf (fr_wk fr_F_D_refuse rfl rfl))) (fr_i1 (fr_p1 (fr_tr fr_rf (fr_wk fr_F_D_refuse rfl rfl))) (fr_i1 (fr_p1 (fr_tr (fr_tr (fr_tr fr_rf (fr_wk fr_F_H_keep_41 rfl rfl)) (fr_wk fr_F_K_pay rfl rfl)) (fr_wk fr_F_K_liftUppermost rfl rfl))) (fr_p1 (fr_tr fr_rf (fr_wk fr_F_D_refuse rfl rfl))))))
theorem fr_F_D_water {w : z_Wd} {a0 : Int} : z_fr [42, 43, 54, 78] [(41, 6), (53, 1), (53, 2)] w (F_D_water w a0).2 := by
  unfold F_D_water
  exact (fr_i1 (fr_p1 (fr_tr fr_rf (fr_wk fr_F_D_refuse rfl rfl))) (fr_i1 (fr_p1 (fr_tr fr_rf (fr_wk fr_F_D_refuse rfl rfl))) (fr_i1 (fr_p1 (fr_tr (fr_tr (fr_tr fr_rf (fr_wk fr_F_H_keep_41 rfl rfl)) (fr_wk fr_F_K_pay rfl rfl)) (fr_wk fr_F_K_liftAll rfl rfl))) (fr_p1 (fr_tr fr_rf (fr_wk fr_F_D_refuse rfl rfl))))))
theorem fr_F_D_scratchByDraws {w : z_Wd} : z_fr [42, 43] [(27, 14)] w (F_D_scratchByDraws w) := by
  unfold F_D_scratchByDraws
  exact (fr_i0 (fr_tr fr_rf (fr_wk fr_F_D_draw rfl rfl)) (fr_tr (fr_tr (fr_tr (fr_tr fr_rf (fr_wk fr_F_D_draw rfl rfl)) (fr_wk fr_F_D_draw rfl rfl)) (fr_wk fr_F_D_draw rfl rfl)) (fr_wk fr_F_K_scratchUp rfl rfl)))
theorem fr_F_D_ask {w : z_Wd} {a0 : Int} : z_fr [75] [] w (F_D_ask w a0).2 := by
  unfold F_D_ask
  exact (fr_i1 (fr_p1 fr_rf) (fr_i1 (fr_p1 fr_rf) (fr_p1 (fr_tr fr_rf (fr_wk fr_F_C_bestFile rfl rfl)))))
theorem fr_F_G_missed {w : z_Wd} {a0 : Int} : z_fr [57, 60, 63, 66, 69] [(58, 3), (61, 3), (64, 3), (67, 3)] w (F_G_missed w a0).2 := by
  unfold F_G_missed
  exact (fr_i1 (fr_p1 (fr_tr fr_rf (fr_wk fr_F_G_missedIn rfl rfl))) (fr_p1 (fr_tr fr_rf (fr_wk fr_F_G_missedIn rfl rfl))))
theorem fr_F_G_ofDrowned {w : z_Wd} : z_fr [57, 60, 63, 66, 69] [(58, 3), (61, 3), (64, 3), (67, 3)] w (F_G_ofDrowned w).2 := by
  unfold F_G_ofDrowned
  exact (fr_p1 (fr_tr fr_rf (fr_wk fr_F_G_withoutThese rfl rfl)))
theorem fr_A_G_leastMissed_6 {w : z_Wd} {n : Nat} : z_fr [57, 60, 63, 66, 69] [(58, 3), (61, 3), (64, 3), (67, 3)] w (A_G_leastMissed_6 w n).2.2 := by
  induction n with
  | zero =>
    exact (fr_p2 fr_rf)
  | succ n ih =>
    show z_fr [57, 60, 63, 66, 69] [(58, 3), (61, 3), (64, 3), (67, 3)] w (if F_K_isFree ((A_G_leastMissed_6 w n).2.2) (n : Int) = 0 then ((A_G_leastMissed_6 w n).1, (A_G_leastMissed_6 w n).2.1, (A_G_leastMissed_6 w n).2.2) else if F_G_lowestTaking ((A_G_leastMissed_6 w n).2.2) (n : Int) = (-1) then ((A_G_leastMissed_6 w n).1, (A_G_leastMissed_6 w n).2.1, (A_G_leastMissed_6 w n).2.2) else if (A_G_leastMissed_6 w n).1 = (-1) then ((n : Int), (F_G_missedIn ((A_G_leastMissed_6 w n).2.2) (F_G_lowestTaking ((A_G_leastMissed_6 w n).2.2) (n : Int)) (n : Int) 0 (zz_and (F_K_inside ((A_G_leastMissed_6 w n).2.2) (-1)) (zz_xor (zz_shl 1 (n : Int)) (-1)))).1, (F_G_missedIn ((A_G_leastMissed_6 w n).2.2) (F_G_lowestTaking ((A_G_leastMissed_6 w n).2.2) (n : Int)) (n : Int) 0 (zz_and (F_K_inside ((A_G_leastMissed_6 w n).2.2) (-1)) (zz_xor (zz_shl 1 (n : Int)) (-1)))).2) else if (F_G_missedIn ((A_G_leastMissed_6 w n).2.2) (F_G_lowestTaking ((A_G_leastMissed_6 w n).2.2) (n : Int)) (n : Int) 0 (zz_and (F_K_inside ((A_G_leastMissed_6 w n).2.2) (-1)) (zz_xor (zz_shl 1 (n : Int)) (-1)))).1 ≥ (A_G_leastMissed_6 w n).2.1 then ((A_G_leastMissed_6 w n).1, (A_G_leastMissed_6 w n).2.1, (F_G_missedIn ((A_G_leastMissed_6 w n).2.2) (F_G_lowestTaking ((A_G_leastMissed_6 w n).2.2) (n : Int)) (n : Int) 0 (zz_and (F_K_inside ((A_G_leastMissed_6 w n).2.2) (-1)) (zz_xor (zz_shl 1 (n : Int)) (-1)))).2) else ((n : Int), (F_G_missedIn ((A_G_leastMissed_6 w n).2.2) (F_G_lowestTaking ((A_G_leastMissed_6 w n).2.2) (n : Int)) (n : Int) 0 (zz_and (F_K_inside ((A_G_leastMissed_6 w n).2.2) (-1)) (zz_xor (zz_shl 1 (n : Int)) (-1)))).1, (F_G_missedIn ((A_G_leastMissed_6 w n).2.2) (F_G_lowestTaking ((A_G_leastMissed_6 w n).2.2) (n : Int)) (n : Int) 0 (zz_and (F_K_inside ((A_G_leastMissed_6 w n).2.2) (-1)) (zz_xor (zz_shl 1 (n : Int)) (-1)))).2)).2.2
    exact (fr_i2 (fr_p2 ih) (fr_i2 (fr_p2 ih) (fr_i2 (fr_p2 (fr_tr ih (fr_wk fr_F_G_missedIn rfl rfl))) (fr_i2 (fr_p2 (fr_tr ih (fr_wk fr_F_G_missedIn rfl rfl))) (fr_p2 (fr_tr ih (fr_wk fr_F_G_missedIn rfl rfl)))))))
theorem fr_F_G_leastMissed {w : z_Wd} : z_fr [57, 60, 63, 66, 69] [(58, 3), (61, 3), (64, 3), (67, 3)] w (F_G_leastMissed w).2 := by
  unfold F_G_leastMissed
  exact (fr_p1 (fr_tr fr_rf (fr_wk fr_A_G_leastMissed_6 rfl rfl)))
theorem fr_F_G_yearsUntil {w : z_Wd} {a0 : Int} : z_fr [57, 60, 63, 66, 69] [(58, 3), (61, 3), (64, 3), (67, 3)] w (F_G_yearsUntil w a0).2 := by
  unfold F_G_yearsUntil
  exact (fr_i1 (fr_i1 (fr_i1 (fr_p1 (fr_tr fr_rf (fr_wk fr_F_G_ofDrowned rfl rfl))) (fr_p1 (fr_tr fr_rf (fr_wk fr_F_G_ofDrowned rfl rfl)))) (fr_p1 (fr_tr fr_rf (fr_wk fr_F_G_ofDrowned rfl rfl)))) (fr_p1 (fr_tr fr_rf (fr_wk fr_F_G_ofDrowned rfl rfl))))
theorem fr_L_YR_read_23 {w : z_Wd} : ∀ {n : Nat} {u1 : Int} {u2 : Int} {wu : z_Wd}, z_fr [35, 36] [(33, 2)] w wu → z_fr [35, 36] [(33, 2)] w (L_YR_read_23 w n u1 u2 wu).2 := by
  intro n
  induction n with
  | zero =>
    intro u1 u2 wu h
    exact fr_rf
  | succ n ih =>
    intro u1 u2 wu h
    show z_fr [35, 36] [(33, 2)] w (if u1 = 0 then if wu 33 2 = wu 28 1 then if F_Y_isWhole_34 wu = 0 then (wu 33 2, wu) else ((-1), wu) else (wu 33 2, wu) else if u2 ≥ 240 then if wu 33 2 = wu 28 1 then if F_Y_isWhole_34 wu = 0 then (wu 33 2, wu) else ((-1), wu) else (wu 33 2, wu) else if (F_YR_readClause wu).1 = 0 then (((F_YR_readClause wu).2) 33 2, (F_YR_readClause wu).2) else if F_T_at ((F_YR_readClause wu).2) (((F_YR_readClause wu).2) 33 2) = 59 then L_YR_read_23 w n 1 (u2 + 1) (F_YR_step ((F_YR_readClause wu).2)) else L_YR_read_23 w n 0 (u2 + 1) ((F_YR_readClause wu).2)).2
    exact (fr_i1 (fr_i1 (fr_i1 (fr_p1 h) (fr_p1 h)) (fr_p1 h)) (fr_i1 (fr_i1 (fr_i1 (fr_p1 h) (fr_p1 h)) (fr_p1 h)) (fr_i1 (fr_p1 (fr_tr h (fr_wk fr_F_YR_readClause rfl rfl))) (fr_i1 (ih (fr_tr (fr_tr h (fr_wk fr_F_YR_readClause rfl rfl)) (fr_wk fr_F_YR_step rfl rfl))) (ih (fr_tr h (fr_wk fr_F_YR_readClause rfl rfl)))))))
theorem fr_F_YR_read {w : z_Wd} : z_fr [35, 36] [(33, 2)] w (F_YR_read w).2 := by
  unfold F_YR_read
  exact (fr_L_YR_read_23 (fr_uf rfl (fr_tr fr_rf (fr_wk fr_F_Y_clear_34 rfl rfl))))
theorem fr_F_D_foundMinistry {w : z_Wd} : z_fr [31, 32, 35, 36, 42, 43, 44] [(27, 13), (28, 1), (33, 2), (41, 6), (41, 7), (41, 8), (53, 2), (72, 4)] w (F_D_foundMinistry w).2 := by
  unfold F_D_foundMinistry
  exact (fr_i1 (fr_p1 (fr_tr (fr_uf rfl (fr_tr (fr_tr (fr_tr (fr_tr (fr_tr fr_rf (fr_wk fr_F_YR_read rfl rfl)) (fr_wk fr_F_Y_copyFrom_34 rfl rfl)) (fr_wk fr_F_K_start rfl rfl)) (fr_wk fr_F_H_forget rfl rfl)) (fr_wk fr_F_C_forget rfl rfl))) (fr_wk fr_F_T_cut rfl rfl))) (fr_p1 (fr_tr fr_rf (fr_wk fr_F_YR_read rfl rfl))))
theorem fr_A_D_years_59 {w : z_Wd} {a0 : Int} {n : Nat} : z_fr [45, 46, 54, 57, 60, 63, 66, 69] [(41, 6), (41, 7), (41, 8), (53, 1), (53, 2), (58, 3), (61, 3), (64, 3), (67, 3)] w (A_D_years_59 w a0 n) := by
  induction n with
  | zero =>
    exact fr_rf
  | succ n ih =>
    show z_fr [45, 46, 54, 57, 60, 63, 66, 69] [(41, 6), (41, 7), (41, 8), (53, 1), (53, 2), (58, 3), (61, 3), (64, 3), (67, 3)] w (F_K_passYear ((F_G_ofDrowned (F_H_keep_41 (A_D_years_59 w a0 n))).2) ((F_G_ofDrowned (F_H_keep_41 (A_D_years_59 w a0 n))).1))
    exact (fr_tr (fr_tr (fr_tr ih (fr_wk fr_F_H_keep_41 rfl rfl)) (fr_wk fr_F_G_ofDrowned rfl rfl)) (fr_wk fr_F_K_passYear rfl rfl))
theorem fr_F_D_years {w : z_Wd} {a0 : Int} : z_fr [45, 46, 54, 57, 60, 63, 66, 69, 78] [(41, 6), (41, 7), (41, 8), (53, 1), (53, 2), (58, 3), (61, 3), (64, 3), (67, 3)] w (F_D_years w a0).2 := by
  unfold F_D_years
  exact (fr_i1 (fr_p1 (fr_tr fr_rf (fr_wk fr_F_D_refuse rfl rfl))) (fr_i1 (fr_p1 (fr_tr fr_rf (fr_wk fr_F_D_refuse rfl rfl))) (fr_i1 (fr_i1 (fr_p1 (fr_tr fr_rf (fr_wk fr_A_D_years_59 rfl rfl))) (fr_p1 (fr_tr fr_rf (fr_wk fr_F_D_refuse rfl rfl)))) (fr_p1 (fr_tr fr_rf (fr_wk fr_F_D_refuse rfl rfl))))))
theorem fr_A_D_decades_46 {w : z_Wd} {a0 : Int} {a1 : Int} {n : Nat} : z_fr [42, 43, 45, 46, 54, 57, 60, 63, 66, 69] [(27, 14), (41, 6), (41, 7), (41, 8), (53, 1), (53, 2), (58, 3), (61, 3), (64, 3), (67, 3)] w (A_D_decades_46 w a0 a1 n) := by
  induction n with
  | zero =>
    exact (fr_uf rfl fr_rf)
  | succ n ih =>
    show z_fr [42, 43, 45, 46, 54, 57, 60, 63, 66, 69] [(27, 14), (41, 6), (41, 7), (41, 8), (53, 1), (53, 2), (58, 3), (61, 3), (64, 3), (67, 3)] w (F_K_passYear ((F_G_ofDrowned (F_D_scratchByDraws (F_D_dipByDraws (F_H_keep_41 (A_D_decades_46 w a0 a1 n))))).2) ((F_G_ofDrowned (F_D_scratchByDraws (F_D_dipByDraws (F_H_keep_41 (A_D_decades_46 w a0 a1 n))))).1))
    exact (fr_tr (fr_tr (fr_tr (fr_tr (fr_tr ih (fr_wk fr_F_H_keep_41 rfl rfl)) (fr_wk fr_F_D_dipByDraws rfl rfl)) (fr_wk fr_F_D_scratchByDraws rfl rfl)) (fr_wk fr_F_G_ofDrowned rfl rfl)) (fr_wk fr_F_K_passYear rfl rfl))
theorem fr_F_D_decades {w : z_Wd} {a0 : Int} {a1 : Int} : z_fr [42, 43, 45, 46, 54, 57, 60, 63, 66, 69] [(27, 14), (41, 6), (41, 7), (41, 8), (53, 1), (53, 2), (58, 3), (61, 3), (64, 3), (67, 3)] w (F_D_decades w a0 a1).2 := by
  unfold F_D_decades
  exact (fr_i1 (fr_p1 fr_rf) (fr_i1 (fr_p1 fr_rf) (fr_i1 (fr_p1 fr_rf) (fr_i1 (fr_p1 (fr_tr fr_rf (fr_wk fr_A_D_decades_46 rfl rfl))) (fr_p1 fr_rf)))))
theorem fr_F_D_most {w : z_Wd} {a0 : Int} : z_fr [57, 60, 63, 66, 69] [(58, 3), (61, 3), (64, 3), (67, 3)] w (F_D_most w a0).2 := by
  unfold F_D_most
  exact (fr_i1 (fr_p1 fr_rf) (fr_i1 (fr_p1 (fr_tr fr_rf (fr_wk fr_F_G_leastMissed rfl rfl))) (fr_i1 (fr_p1 fr_rf) (fr_i1 (fr_p1 (fr_tr fr_rf (fr_wk fr_F_G_amnesty rfl rfl))) (fr_i1 (fr_p1 fr_rf) (fr_i1 (fr_p1 fr_rf) (fr_i1 (fr_p1 fr_rf) (fr_i1 (fr_p1 fr_rf) (fr_i1 (fr_p1 fr_rf) (fr_p1 fr_rf))))))))))
theorem fr_F_D_quiet {w : z_Wd} {a0 : Int} : z_fr [57, 60, 63, 66, 69] [(58, 3), (61, 3), (64, 3), (67, 3)] w (F_D_quiet w a0).2 := by
  unfold F_D_quiet
  exact (fr_i1 (fr_p1 fr_rf) (fr_i1 (fr_p1 fr_rf) (fr_i1 (fr_p1 (fr_tr fr_rf (fr_wk fr_F_G_yearsUntil rfl rfl))) (fr_p1 fr_rf))))
theorem fr_z_ap1 {w : z_Wd} {b : Int} : z_fr [29] [(28, 1)] w (z_ap1 w b) := by
  unfold z_ap1
  exact (fr_i0 fr_rf (fr_i0 fr_rf (fr_uf rfl (fr_up rfl fr_rf))))
theorem fr_F_T_append {w : z_Wd} {a0 : Int} : z_fr [29] [(28, 1)] w (F_T_append w a0) := by
  unfold F_T_append
  exact (fr_tr (fr_tr (fr_tr (fr_tr fr_rf (fr_wk fr_z_ap1 rfl rfl)) (fr_wk fr_z_ap1 rfl rfl)) (fr_wk fr_z_ap1 rfl rfl)) (fr_wk fr_z_ap1 rfl rfl))
theorem fr_F_D_feed {w : z_Wd} {a0 : Int} {a1 : Int} {a2 : Int} {a3 : Int} {a4 : Int} : z_fr [29] [(28, 1)] w (F_D_feed w a0 a1 a2 a3 a4).2 := by
  unfold F_D_feed
  exact (fr_i1 (fr_p1 (fr_tr (fr_tr (fr_tr (fr_tr (fr_tr fr_rf (fr_wk fr_F_T_append rfl rfl)) (fr_wk fr_F_T_append rfl rfl)) (fr_wk fr_F_T_append rfl rfl)) (fr_wk fr_F_T_append rfl rfl)) (fr_wk fr_F_T_append rfl rfl))) (fr_p1 fr_rf))
theorem fr_A_P_placeFrom_72 {w : z_Wd} {a0 : Int} {a1 : Int} {a2 : Int} {a3 : Int} {fr : z_Wd → Int → Int → Int → Int → z_Wd} (hf : ∀ (v : z_Wd) (x1 x2 x3 x4 : Int), z_fr [71] [(70, 3), (70, 4)] v (fr v x1 x2 x3 x4)) {n : Nat} : z_fr [71] [(70, 3), (70, 4)] w (A_P_placeFrom_72 w a0 a1 a2 a3 fr n) := by
  induction n with
  | zero =>
    exact fr_rf
  | succ n ih =>
    show z_fr [71] [(70, 3), (70, 4)] w (if (n : Int) ≥ 4 then A_P_placeFrom_72 w a0 a1 a2 a3 fr n else if F_Y_isHisColour (A_P_placeFrom_72 w a0 a1 a2 a3 fr n) a0 (n : Int) = 0 then A_P_placeFrom_72 w a0 a1 a2 a3 fr n else if (F_Y_value w 2 a0 0) * (F_Y_value w 0 0 0) > (A_P_placeFrom_72 w a0 a1 a2 a3 fr n) 71 ((n : Int).toNat) then A_P_placeFrom_72 w a0 a1 a2 a3 fr n else z_up (fr (z_up (A_P_placeFrom_72 w a0 a1 a2 a3 fr n) 71 ((n : Int).toNat) (((A_P_placeFrom_72 w a0 a1 a2 a3 fr n) 71 ((n : Int).toNat)) - ((F_Y_value w 2 a0 0) * (F_Y_value w 0 0 0)))) (a0 + 1) a1 ((a2 * 10) + (n : Int)) (zz_or a3 (zz_shl 1 (n : Int)))) 71 ((n : Int).toNat) (((fr (z_up (A_P_placeFrom_72 w a0 a1 a2 a3 fr n) 71 ((n : Int).toNat) (((A_P_placeFrom_72 w a0 a1 a2 a3 fr n) 71 ((n : Int).toNat)) - ((F_Y_value w 2 a0 0) * (F_Y_value w 0 0 0)))) (a0 + 1) a1 ((a2 * 10) + (n : Int)) (zz_or a3 (zz_shl 1 (n : Int)))) 71 ((n : Int).toNat)) + ((F_Y_value w 2 a0 0) * (F_Y_value w 0 0 0))))
    exact (fr_i0 ih (fr_i0 ih (fr_i0 ih (fr_up rfl (fr_tr (fr_up rfl ih) (hf _ _ _ _ _))))))
theorem fr_R_P_placeFrom_72 {w : z_Wd} {a0 : Int} {a1 : Int} {a2 : Int} {a3 : Int} {fr : z_Wd → Int → Int → Int → Int → z_Wd} {i14 : Nat} (hf : ∀ (v : z_Wd) (x1 x2 x3 x4 : Int), z_fr [71] [(70, 3), (70, 4)] v (fr v x1 x2 x3 x4)) : z_fr [71] [(70, 3), (70, 4)] w (R_P_placeFrom_72 w a0 a1 a2 a3 fr i14) := by
  unfold R_P_placeFrom_72
  exact (fr_i0 (fr_tr fr_rf (fr_wk (fr_A_P_placeFrom_72 hf) rfl rfl)) (fr_i0 fr_rf (fr_i0 fr_rf fr_rf)))
theorem fr_F_P_placeFrom : ∀ (n : Nat) (w : z_Wd) (a0 : Int) (a1 : Int) (a2 : Int) (a3 : Int), z_fr [71] [(70, 3), (70, 4)] w (F_P_placeFrom n w a0 a1 a2 a3) := by
  intro n
  induction n with
  | zero =>
    intro w a0 a1 a2 a3
    exact fr_rf
  | succ n ih =>
    intro w a0 a1 a2 a3
    show z_fr [71] [(70, 3), (70, 4)] w (if F_J_bitCount_0f7a4 w a3 < w 70 3 then if a0 < w 32 2 then if zz_and (zz_shr a1 a0) 1 = 0 then F_P_placeFrom n w (a0 + 1) a1 a2 a3 else if zfind (E_P_placeFrom_72 w a0 a1 a2 a3 (F_P_placeFrom n)) ((w 32 1).toNat) = -1 then A_P_placeFrom_72 w a0 a1 a2 a3 (F_P_placeFrom n) (w 32 1).toNat else R_P_placeFrom_72 w a0 a1 a2 a3 (F_P_placeFrom n) (zfind (E_P_placeFrom_72 w a0 a1 a2 a3 (F_P_placeFrom n)) ((w 32 1).toNat)).toNat else z_up (z_up w 70 3 (F_J_bitCount_0f7a4 w a3)) 70 4 a2 else w)
    exact (fr_i0 (fr_i0 (fr_i0 (fr_tr fr_rf (ih _ _ _ _ _)) (fr_i0 (fr_tr fr_rf (fr_wk (fr_A_P_placeFrom_72 (fun _ _ _ _ _ => ih _ _ _ _ _)) rfl rfl)) (fr_tr fr_rf (fr_wk (fr_R_P_placeFrom_72 (fun _ _ _ _ _ => ih _ _ _ _ _)) rfl rfl)))) (fr_uf rfl (fr_uf rfl fr_rf))) fr_rf)
theorem fr_A_LR_readSum_12 {w : z_Wd} {a0 : Int} {fr : Nat → z_Wd → Int → Int → Int × z_Wd} (hf : ∀ (t : Nat) (v : z_Wd) (x y : Int), z_fr [39] [(37, 2), (38, 2)] v (fr t v x y).2) {n : Nat} : z_fr [39] [(37, 2), (38, 2)] w (A_LR_readSum_12 w a0 fr n) := by
  induction n with
  | zero =>
    exact (fr_tr fr_rf (hf _ _ _ _))
  | succ n ih =>
    show z_fr [39] [(37, 2), (38, 2)] w (if F_LR_isEither (A_LR_readSum_12 w a0 fr n) 43 45 = 0 then A_LR_readSum_12 w a0 fr n else if (fr 1 (F_LR_step (A_LR_readSum_12 w a0 fr n)) a0 0).1 = 0 then A_LR_readSum_12 w a0 fr n else F_W_add ((fr 1 (F_LR_step (A_LR_readSum_12 w a0 fr n)) a0 0).2) (F_T_at (A_LR_readSum_12 w a0 fr n) ((A_LR_readSum_12 w a0 fr n) 37 2)) 0)
    exact (fr_i0 ih (fr_i0 ih (fr_tr (fr_tr (fr_tr ih (fr_wk fr_F_LR_step rfl rfl)) (hf _ _ _ _)) (fr_wk fr_F_W_add rfl rfl))))
theorem fr_R_LR_readSum_12 {w : z_Wd} {a0 : Int} {fr : Nat → z_Wd → Int → Int → Int × z_Wd} {i10 : Nat} (hf : ∀ (t : Nat) (v : z_Wd) (x y : Int), z_fr [39] [(37, 2), (38, 2)] v (fr t v x y).2) : z_fr [39] [(37, 2), (38, 2)] w (R_LR_readSum_12 w a0 fr i10).2 := by
  unfold R_LR_readSum_12
  exact (fr_i1 (fr_p1 (fr_tr fr_rf (fr_wk (fr_A_LR_readSum_12 hf) rfl rfl))) (fr_i1 (fr_p1 (fr_tr (fr_tr (fr_tr fr_rf (fr_wk (fr_A_LR_readSum_12 hf) rfl rfl)) (fr_wk fr_F_LR_step rfl rfl)) (hf _ _ _ _))) (fr_p1 fr_rf)))
theorem fr_A_LR_readTerm_12 {w : z_Wd} {a0 : Int} {fr : Nat → z_Wd → Int → Int → Int × z_Wd} (hf : ∀ (t : Nat) (v : z_Wd) (x y : Int), z_fr [39] [(37, 2), (38, 2)] v (fr t v x y).2) {n : Nat} : z_fr [39] [(37, 2), (38, 2)] w (A_LR_readTerm_12 w a0 fr n) := by
  induction n with
  | zero =>
    exact (fr_tr fr_rf (hf _ _ _ _))
  | succ n ih =>
    show z_fr [39] [(37, 2), (38, 2)] w (if F_LR_isEither (A_LR_readTerm_12 w a0 fr n) 42 47 = 0 then A_LR_readTerm_12 w a0 fr n else if (fr 2 (F_LR_step (A_LR_readTerm_12 w a0 fr n)) a0 0).1 = 0 then A_LR_readTerm_12 w a0 fr n else F_W_add ((fr 2 (F_LR_step (A_LR_readTerm_12 w a0 fr n)) a0 0).2) (F_T_at (A_LR_readTerm_12 w a0 fr n) ((A_LR_readTerm_12 w a0 fr n) 37 2)) 0)
    exact (fr_i0 ih (fr_i0 ih (fr_tr (fr_tr (fr_tr ih (fr_wk fr_F_LR_step rfl rfl)) (hf _ _ _ _)) (fr_wk fr_F_W_add rfl rfl))))
theorem fr_R_LR_readTerm_12 {w : z_Wd} {a0 : Int} {fr : Nat → z_Wd → Int → Int → Int × z_Wd} {i10 : Nat} (hf : ∀ (t : Nat) (v : z_Wd) (x y : Int), z_fr [39] [(37, 2), (38, 2)] v (fr t v x y).2) : z_fr [39] [(37, 2), (38, 2)] w (R_LR_readTerm_12 w a0 fr i10).2 := by
  unfold R_LR_readTerm_12
  exact (fr_i1 (fr_p1 (fr_tr fr_rf (fr_wk (fr_A_LR_readTerm_12 hf) rfl rfl))) (fr_i1 (fr_p1 (fr_tr (fr_tr (fr_tr fr_rf (fr_wk (fr_A_LR_readTerm_12 hf) rfl rfl)) (fr_wk fr_F_LR_step rfl rfl)) (hf _ _ _ _))) (fr_p1 fr_rf)))
theorem fr_A_LR_readCondition_13 {w : z_Wd} {a0 : Int} {a1 : Int} {fr : Nat → z_Wd → Int → Int → Int × z_Wd} (hf : ∀ (t : Nat) (v : z_Wd) (x y : Int), z_fr [39] [(37, 2), (38, 2)] v (fr t v x y).2) {n : Nat} : z_fr [39] [(37, 2), (38, 2)] w (A_LR_readCondition_13 w a0 a1 fr n) := by
  induction n with
  | zero =>
    exact (fr_tr fr_rf (hf _ _ _ _))
  | succ n ih =>
    show z_fr [39] [(37, 2), (38, 2)] w (if F_T_at (A_LR_readCondition_13 w a0 a1 fr n) ((A_LR_readCondition_13 w a0 a1 fr n) 37 2) = 124 then if (fr 4 (F_LR_step (A_LR_readCondition_13 w a0 a1 fr n)) a0 0).1 = 0 then A_LR_readCondition_13 w a0 a1 fr n else F_W_add ((fr 4 (F_LR_step (A_LR_readCondition_13 w a0 a1 fr n)) a0 0).2) 124 0 else A_LR_readCondition_13 w a0 a1 fr n)
    exact (fr_i0 (fr_i0 ih (fr_tr (fr_tr (fr_tr ih (fr_wk fr_F_LR_step rfl rfl)) (hf _ _ _ _)) (fr_wk fr_F_W_add rfl rfl))) ih)
theorem fr_R_LR_readCondition_13 {w : z_Wd} {a0 : Int} {a1 : Int} {fr : Nat → z_Wd → Int → Int → Int × z_Wd} {i10 : Nat} (hf : ∀ (t : Nat) (v : z_Wd) (x y : Int), z_fr [39] [(37, 2), (38, 2)] v (fr t v x y).2) : z_fr [39] [(37, 2), (38, 2)] w (R_LR_readCondition_13 w a0 a1 fr i10).2 := by
  unfold R_LR_readCondition_13
  exact (fr_i1 (fr_i1 (fr_p1 (fr_tr (fr_tr (fr_tr fr_rf (fr_wk (fr_A_LR_readCondition_13 hf) rfl rfl)) (fr_wk fr_F_LR_step rfl rfl)) (hf _ _ _ _))) (fr_p1 fr_rf)) (fr_p1 (fr_tr fr_rf (fr_wk (fr_A_LR_readCondition_13 hf) rfl rfl))))
theorem fr_A_LR_readTruth_13 {w : z_Wd} {a0 : Int} {a1 : Int} {fr : Nat → z_Wd → Int → Int → Int × z_Wd} (hf : ∀ (t : Nat) (v : z_Wd) (x y : Int), z_fr [39] [(37, 2), (38, 2)] v (fr t v x y).2) {n : Nat} : z_fr [39] [(37, 2), (38, 2)] w (A_LR_readTruth_13 w a0 a1 fr n) := by
  induction n with
  | zero =>
    exact (fr_tr fr_rf (hf _ _ _ _))
  | succ n ih =>
    show z_fr [39] [(37, 2), (38, 2)] w (if F_T_at (A_LR_readTruth_13 w a0 a1 fr n) ((A_LR_readTruth_13 w a0 a1 fr n) 37 2) = 38 then if (fr 5 (F_LR_step (A_LR_readTruth_13 w a0 a1 fr n)) a0 0).1 = 0 then A_LR_readTruth_13 w a0 a1 fr n else F_W_add ((fr 5 (F_LR_step (A_LR_readTruth_13 w a0 a1 fr n)) a0 0).2) 38 0 else A_LR_readTruth_13 w a0 a1 fr n)
    exact (fr_i0 (fr_i0 ih (fr_tr (fr_tr (fr_tr ih (fr_wk fr_F_LR_step rfl rfl)) (hf _ _ _ _)) (fr_wk fr_F_W_add rfl rfl))) ih)
theorem fr_R_LR_readTruth_13 {w : z_Wd} {a0 : Int} {a1 : Int} {fr : Nat → z_Wd → Int → Int → Int × z_Wd} {i10 : Nat} (hf : ∀ (t : Nat) (v : z_Wd) (x y : Int), z_fr [39] [(37, 2), (38, 2)] v (fr t v x y).2) : z_fr [39] [(37, 2), (38, 2)] w (R_LR_readTruth_13 w a0 a1 fr i10).2 := by
  unfold R_LR_readTruth_13
  exact (fr_i1 (fr_i1 (fr_p1 (fr_tr (fr_tr (fr_tr fr_rf (fr_wk (fr_A_LR_readTruth_13 hf) rfl rfl)) (fr_wk fr_F_LR_step rfl rfl)) (hf _ _ _ _))) (fr_p1 fr_rf)) (fr_p1 (fr_tr fr_rf (fr_wk (fr_A_LR_readTruth_13 hf) rfl rfl))))
theorem fr_F_LR : ∀ (n : Nat) (t : Nat) (w : z_Wd) (a0 : Int) (a1 : Int), z_fr [39] [(37, 2), (38, 2)] w (F_LR n t w a0 a1).2 := by
  intro n
  induction n with
  | zero =>
    intro t w a0 a1
    exact fr_rf
  | succ n ih =>
    intro t w a0 a1
    match t with
    | 0 => show z_fr [39] [(37, 2), (38, 2)] w (if (F_LR n 1 w a0 0).1 = 0 then (0, (F_LR n 1 w a0 0).2) else if zfind (E_LR_readSum_12 w a0 (F_LR n)) 240 = -1 then (1, A_LR_readSum_12 w a0 (F_LR n) 240) else R_LR_readSum_12 w a0 (F_LR n) (zfind (E_LR_readSum_12 w a0 (F_LR n)) 240).toNat).2; exact (fr_i1 (fr_p1 (fr_tr fr_rf (ih _ _ _ _))) (fr_i1 (fr_p1 (fr_tr fr_rf (fr_wk (fr_A_LR_readSum_12 (fun _ _ _ _ => ih _ _ _ _)) rfl rfl))) (fr_tr fr_rf (fr_wk (fr_R_LR_readSum_12 (fun _ _ _ _ => ih _ _ _ _)) rfl rfl))))
    | 1 => show z_fr [39] [(37, 2), (38, 2)] w (if (F_LR n 2 w a0 0).1 = 0 then (0, (F_LR n 2 w a0 0).2) else if zfind (E_LR_readTerm_12 w a0 (F_LR n)) 240 = -1 then (1, A_LR_readTerm_12 w a0 (F_LR n) 240) else R_LR_readTerm_12 w a0 (F_LR n) (zfind (E_LR_readTerm_12 w a0 (F_LR n)) 240).toNat).2; exact (fr_i1 (fr_p1 (fr_tr fr_rf (ih _ _ _ _))) (fr_i1 (fr_p1 (fr_tr fr_rf (fr_wk (fr_A_LR_readTerm_12 (fun _ _ _ _ => ih _ _ _ _)) rfl rfl))) (fr_tr fr_rf (fr_wk (fr_R_LR_readTerm_12 (fun _ _ _ _ => ih _ _ _ _)) rfl rfl))))
    | 2 => show z_fr [39] [(37, 2), (38, 2)] w (if F_T_at w (w 37 2) = 91 then if a0 < 6 then if (F_LR n 0 (F_LR_step w) (a0 + 1) 0).1 = 0 then (0, (F_LR n 0 (F_LR_step w) (a0 + 1) 0).2) else if (F_LR_take ((F_LR n 0 (F_LR_step w) (a0 + 1) 0).2) 93).1 = 0 then (0, (F_LR_take ((F_LR n 0 (F_LR_step w) (a0 + 1) 0).2) 93).2) else (1, (F_LR_take ((F_LR n 0 (F_LR_step w) (a0 + 1) 0).2) 93).2) else (0, w) else if F_LR_letterOf w (F_T_at w (w 37 2)) = (-1) then ((F_LR_readNumber w).1, (F_LR_readNumber w).2) else (1, F_LR_step (F_W_add w 1 (F_LR_letterOf w (F_T_at w (w 37 2)))))).2; exact (fr_i1 (fr_i1 (fr_i1 (fr_p1 (fr_tr (fr_tr fr_rf (fr_wk fr_F_LR_step rfl rfl)) (ih _ _ _ _))) (fr_i1 (fr_p1 (fr_tr (fr_tr (fr_tr fr_rf (fr_wk fr_F_LR_step rfl rfl)) (ih _ _ _ _)) (fr_wk fr_F_LR_take rfl rfl))) (fr_p1 (fr_tr (fr_tr (fr_tr fr_rf (fr_wk fr_F_LR_step rfl rfl)) (ih _ _ _ _)) (fr_wk fr_F_LR_take rfl rfl))))) (fr_p1 fr_rf)) (fr_i1 (fr_p1 (fr_tr fr_rf (fr_wk fr_F_LR_readNumber rfl rfl))) (fr_p1 (fr_tr (fr_tr fr_rf (fr_wk fr_F_W_add rfl rfl)) (fr_wk fr_F_LR_step rfl rfl)))))
    | 3 => show z_fr [39] [(37, 2), (38, 2)] w (if (F_LR n 4 w a0 a1).1 = 0 then (0, (F_LR n 4 w a0 a1).2) else if zfind (E_LR_readCondition_13 w a0 a1 (F_LR n)) 240 = -1 then (1, A_LR_readCondition_13 w a0 a1 (F_LR n) 240) else R_LR_readCondition_13 w a0 a1 (F_LR n) (zfind (E_LR_readCondition_13 w a0 a1 (F_LR n)) 240).toNat).2; exact (fr_i1 (fr_p1 (fr_tr fr_rf (ih _ _ _ _))) (fr_i1 (fr_p1 (fr_tr fr_rf (fr_wk (fr_A_LR_readCondition_13 (fun _ _ _ _ => ih _ _ _ _)) rfl rfl))) (fr_tr fr_rf (fr_wk (fr_R_LR_readCondition_13 (fun _ _ _ _ => ih _ _ _ _)) rfl rfl))))
    | 4 => show z_fr [39] [(37, 2), (38, 2)] w (if (F_LR n 5 w a0 a1).1 = 0 then (0, (F_LR n 5 w a0 a1).2) else if zfind (E_LR_readTruth_13 w a0 a1 (F_LR n)) 240 = -1 then (1, A_LR_readTruth_13 w a0 a1 (F_LR n) 240) else R_LR_readTruth_13 w a0 a1 (F_LR n) (zfind (E_LR_readTruth_13 w a0 a1 (F_LR n)) 240).toNat).2; exact (fr_i1 (fr_p1 (fr_tr fr_rf (ih _ _ _ _))) (fr_i1 (fr_p1 (fr_tr fr_rf (fr_wk (fr_A_LR_readTruth_13 (fun _ _ _ _ => ih _ _ _ _)) rfl rfl))) (fr_tr fr_rf (fr_wk (fr_R_LR_readTruth_13 (fun _ _ _ _ => ih _ _ _ _)) rfl rfl))))
    | 5 => show z_fr [39] [(37, 2), (38, 2)] w (if a1 = 0 then if F_T_at w (w 37 2) = 33 then if a0 ≥ 6 then (0, w) else if (F_LR n 6 w (a0 + 1) (F_T_at w (w 37 2))).1 = 0 then (0, (F_LR n 6 w (a0 + 1) (F_T_at w (w 37 2))).2) else (1, (F_LR n 6 w (a0 + 1) (F_T_at w (w 37 2))).2) else if F_T_at w (w 37 2) = 40 then if a0 ≥ 6 then (0, w) else if (F_LR n 6 w (a0 + 1) (F_T_at w (w 37 2))).1 = 0 then (0, (F_LR n 6 w (a0 + 1) (F_T_at w (w 37 2))).2) else (1, (F_LR n 6 w (a0 + 1) (F_T_at w (w 37 2))).2) else if a1 = 0 then if (F_LR n 0 w a0 0).1 = 0 then (0, (F_LR n 0 w a0 0).2) else if F_LR_isComparison ((F_LR n 0 w a0 0).2) (F_T_at ((F_LR n 0 w a0 0).2) (((F_LR n 0 w a0 0).2) 37 2)) = 0 then (0, (F_LR n 0 w a0 0).2) else if (F_LR n 0 (F_LR_step ((F_LR n 0 w a0 0).2)) a0 0).1 = 0 then (0, (F_LR n 0 (F_LR_step ((F_LR n 0 w a0 0).2)) a0 0).2) else (1, F_W_add ((F_LR n 0 (F_LR_step ((F_LR n 0 w a0 0).2)) a0 0).2) (F_T_at ((F_LR n 0 w a0 0).2) (((F_LR n 0 w a0 0).2) 37 2)) 0) else if F_LR_isComparison w (F_T_at w (w 37 2)) = 0 then (0, w) else if (F_LR n 0 (F_LR_step w) a0 0).1 = 0 then (0, (F_LR n 0 (F_LR_step w) a0 0).2) else (1, F_W_add ((F_LR n 0 (F_LR_step w) a0 0).2) (F_T_at w (w 37 2)) 0) else if a1 = 0 then if (F_LR n 0 w a0 0).1 = 0 then (0, (F_LR n 0 w a0 0).2) else if F_LR_isComparison ((F_LR n 0 w a0 0).2) (F_T_at ((F_LR n 0 w a0 0).2) (((F_LR n 0 w a0 0).2) 37 2)) = 0 then (0, (F_LR n 0 w a0 0).2) else if (F_LR n 0 (F_LR_step ((F_LR n 0 w a0 0).2)) a0 0).1 = 0 then (0, (F_LR n 0 (F_LR_step ((F_LR n 0 w a0 0).2)) a0 0).2) else (1, F_W_add ((F_LR n 0 (F_LR_step ((F_LR n 0 w a0 0).2)) a0 0).2) (F_T_at ((F_LR n 0 w a0 0).2) (((F_LR n 0 w a0 0).2) 37 2)) 0) else if F_LR_isComparison w (F_T_at w (w 37 2)) = 0 then (0, w) else if (F_LR n 0 (F_LR_step w) a0 0).1 = 0 then (0, (F_LR n 0 (F_LR_step w) a0 0).2) else (1, F_W_add ((F_LR n 0 (F_LR_step w) a0 0).2) (F_T_at w (w 37 2)) 0)).2; exact (fr_i1 (fr_i1 (fr_i1 (fr_p1 fr_rf) (fr_i1 (fr_p1 (fr_tr fr_rf (ih _ _ _ _))) (fr_p1 (fr_tr fr_rf (ih _ _ _ _))))) (fr_i1 (fr_i1 (fr_p1 fr_rf) (fr_i1 (fr_p1 (fr_tr fr_rf (ih _ _ _ _))) (fr_p1 (fr_tr fr_rf (ih _ _ _ _))))) (fr_i1 (fr_i1 (fr_p1 (fr_tr fr_rf (ih _ _ _ _))) (fr_i1 (fr_p1 (fr_tr fr_rf (ih _ _ _ _))) (fr_i1 (fr_p1 (fr_tr (fr_tr (fr_tr fr_rf (ih _ _ _ _)) (fr_wk fr_F_LR_step rfl rfl)) (ih _ _ _ _))) (fr_p1 (fr_tr (fr_tr (fr_tr (fr_tr fr_rf (ih _ _ _ _)) (fr_wk fr_F_LR_step rfl rfl)) (ih _ _ _ _)) (fr_wk fr_F_W_add rfl rfl)))))) (fr_i1 (fr_p1 fr_rf) (fr_i1 (fr_p1 (fr_tr (fr_tr fr_rf (fr_wk fr_F_LR_step rfl rfl)) (ih _ _ _ _))) (fr_p1 (fr_tr (fr_tr (fr_tr fr_rf (fr_wk fr_F_LR_step rfl rfl)) (ih _ _ _ _)) (fr_wk fr_F_W_add rfl rfl)))))))) (fr_i1 (fr_i1 (fr_p1 (fr_tr fr_rf (ih _ _ _ _))) (fr_i1 (fr_p1 (fr_tr fr_rf (ih _ _ _ _))) (fr_i1 (fr_p1 (fr_tr (fr_tr (fr_tr fr_rf (ih _ _ _ _)) (fr_wk fr_F_LR_step rfl rfl)) (ih _ _ _ _))) (fr_p1 (fr_tr (fr_tr (fr_tr (fr_tr fr_rf (ih _ _ _ _)) (fr_wk fr_F_LR_step rfl rfl)) (ih _ _ _ _)) (fr_wk fr_F_W_add rfl rfl)))))) (fr_i1 (fr_p1 fr_rf) (fr_i1 (fr_p1 (fr_tr (fr_tr fr_rf (fr_wk fr_F_LR_step rfl rfl)) (ih _ _ _ _))) (fr_p1 (fr_tr (fr_tr (fr_tr fr_rf (fr_wk fr_F_LR_step rfl rfl)) (ih _ _ _ _)) (fr_wk fr_F_W_add rfl rfl)))))))
    | 6 => show z_fr [39] [(37, 2), (38, 2)] w (if a1 = 40 then if (F_LR n 3 (F_LR_step w) a0 0).1 = 0 then (0, (F_LR n 3 (F_LR_step w) a0 0).2) else if (F_LR_take ((F_LR n 3 (F_LR_step w) a0 0).2) 41).1 = 0 then (0, (F_LR_take ((F_LR n 3 (F_LR_step w) a0 0).2) 41).2) else (1, (F_LR_take ((F_LR n 3 (F_LR_step w) a0 0).2) 41).2) else if (F_LR n 5 (F_LR_step w) a0 0).1 = 0 then (0, (F_LR n 5 (F_LR_step w) a0 0).2) else (1, F_W_add ((F_LR n 5 (F_LR_step w) a0 0).2) 33 0)).2; exact (fr_i1 (fr_i1 (fr_p1 (fr_tr (fr_tr fr_rf (fr_wk fr_F_LR_step rfl rfl)) (ih _ _ _ _))) (fr_i1 (fr_p1 (fr_tr (fr_tr (fr_tr fr_rf (fr_wk fr_F_LR_step rfl rfl)) (ih _ _ _ _)) (fr_wk fr_F_LR_take rfl rfl))) (fr_p1 (fr_tr (fr_tr (fr_tr fr_rf (fr_wk fr_F_LR_step rfl rfl)) (ih _ _ _ _)) (fr_wk fr_F_LR_take rfl rfl))))) (fr_i1 (fr_p1 (fr_tr (fr_tr fr_rf (fr_wk fr_F_LR_step rfl rfl)) (ih _ _ _ _))) (fr_p1 (fr_tr (fr_tr (fr_tr fr_rf (fr_wk fr_F_LR_step rfl rfl)) (ih _ _ _ _)) (fr_wk fr_F_W_add rfl rfl)))))
    | t + 7 => exact fr_rf
theorem fr_F_LR_readSum {w : z_Wd} {a0 : Int} : z_fr [39] [(37, 2), (38, 2)] w (F_LR_readSum w a0).2 := by
  unfold F_LR_readSum
  exact (fr_tr fr_rf (fr_wk (fr_F_LR _ _ _ _ _) rfl rfl))
theorem fr_F_LR_readTerm {w : z_Wd} {a0 : Int} : z_fr [39] [(37, 2), (38, 2)] w (F_LR_readTerm w a0).2 := by
  unfold F_LR_readTerm
  exact (fr_tr fr_rf (fr_wk (fr_F_LR _ _ _ _ _) rfl rfl))
theorem fr_F_LR_readAtom {w : z_Wd} {a0 : Int} : z_fr [39] [(37, 2), (38, 2)] w (F_LR_readAtom w a0).2 := by
  unfold F_LR_readAtom
  exact (fr_tr fr_rf (fr_wk (fr_F_LR _ _ _ _ _) rfl rfl))
theorem fr_F_LR_readCondition {w : z_Wd} {a0 : Int} {a1 : Int} : z_fr [39] [(37, 2), (38, 2)] w (F_LR_readCondition w a0 a1).2 := by
  unfold F_LR_readCondition
  exact (fr_tr fr_rf (fr_wk (fr_F_LR _ _ _ _ _) rfl rfl))
theorem fr_F_LR_readTruth {w : z_Wd} {a0 : Int} {a1 : Int} : z_fr [39] [(37, 2), (38, 2)] w (F_LR_readTruth w a0 a1).2 := by
  unfold F_LR_readTruth
  exact (fr_tr fr_rf (fr_wk (fr_F_LR _ _ _ _ _) rfl rfl))
theorem fr_F_LR_readUnit {w : z_Wd} {a0 : Int} {a1 : Int} : z_fr [39] [(37, 2), (38, 2)] w (F_LR_readUnit w a0 a1).2 := by
  unfold F_LR_readUnit
  exact (fr_tr fr_rf (fr_wk (fr_F_LR _ _ _ _ _) rfl rfl))
theorem fr_F_LR_readNestedUnit {w : z_Wd} {a0 : Int} {a1 : Int} : z_fr [39] [(37, 2), (38, 2)] w (F_LR_readNestedUnit w a0 a1).2 := by
  unfold F_LR_readNestedUnit
  exact (fr_tr fr_rf (fr_wk (fr_F_LR _ _ _ _ _) rfl rfl))
theorem fr_F_LR_readClause {w : z_Wd} : z_fr [39] [(37, 2), (38, 2)] w (F_LR_readClause w).2 := by
  unfold F_LR_readClause
  exact (fr_i1 (fr_p1 (fr_tr fr_rf (fr_wk fr_F_LR_take rfl rfl))) (fr_i1 (fr_p1 (fr_tr (fr_tr fr_rf (fr_wk fr_F_LR_take rfl rfl)) (fr_wk fr_F_LR_take rfl rfl))) (fr_i1 (fr_i1 (fr_p1 (fr_tr (fr_tr (fr_tr fr_rf (fr_wk fr_F_LR_take rfl rfl)) (fr_wk fr_F_LR_take rfl rfl)) (fr_wk fr_F_LR_readCondition rfl rfl))) (fr_i1 (fr_p1 (fr_tr (fr_tr (fr_tr (fr_tr fr_rf (fr_wk fr_F_LR_take rfl rfl)) (fr_wk fr_F_LR_take rfl rfl)) (fr_wk fr_F_LR_readCondition rfl rfl)) (fr_wk fr_F_LR_take rfl rfl))) (fr_i1 (fr_p1 (fr_tr (fr_tr (fr_tr (fr_tr (fr_tr (fr_tr fr_rf (fr_wk fr_F_LR_take rfl rfl)) (fr_wk fr_F_LR_take rfl rfl)) (fr_wk fr_F_LR_readCondition rfl rfl)) (fr_wk fr_F_LR_take rfl rfl)) (fr_wk fr_F_W_add rfl rfl)) (fr_wk fr_F_LR_readSum rfl rfl))) (fr_p1 (fr_tr (fr_tr (fr_tr (fr_tr (fr_tr (fr_tr (fr_tr (fr_tr fr_rf (fr_wk fr_F_LR_take rfl rfl)) (fr_wk fr_F_LR_take rfl rfl)) (fr_wk fr_F_LR_readCondition rfl rfl)) (fr_wk fr_F_LR_take rfl rfl)) (fr_wk fr_F_W_add rfl rfl)) (fr_wk fr_F_LR_readSum rfl rfl)) (fr_wk fr_F_W_add rfl rfl)) (fr_wk fr_F_W_goOnHere rfl rfl)))))) (fr_i1 (fr_i1 (fr_p1 (fr_tr (fr_tr (fr_tr fr_rf (fr_wk fr_F_LR_take rfl rfl)) (fr_wk fr_F_LR_take rfl rfl)) (fr_wk fr_F_LR_readCondition rfl rfl))) (fr_i1 (fr_p1 (fr_tr (fr_tr (fr_tr (fr_tr fr_rf (fr_wk fr_F_LR_take rfl rfl)) (fr_wk fr_F_LR_take rfl rfl)) (fr_wk fr_F_LR_readCondition rfl rfl)) (fr_wk fr_F_LR_take rfl rfl))) (fr_i1 (fr_p1 (fr_tr (fr_tr (fr_tr (fr_tr (fr_tr (fr_tr fr_rf (fr_wk fr_F_LR_take rfl rfl)) (fr_wk fr_F_LR_take rfl rfl)) (fr_wk fr_F_LR_readCondition rfl rfl)) (fr_wk fr_F_LR_take rfl rfl)) (fr_wk fr_F_W_add rfl rfl)) (fr_wk fr_F_LR_readSum rfl rfl))) (fr_p1 (fr_tr (fr_tr (fr_tr (fr_tr (fr_tr (fr_tr (fr_tr (fr_tr fr_rf (fr_wk fr_F_LR_take rfl rfl)) (fr_wk fr_F_LR_take rfl rfl)) (fr_wk fr_F_LR_readCondition rfl rfl)) (fr_wk fr_F_LR_take rfl rfl)) (fr_wk fr_F_W_add rfl rfl)) (fr_wk fr_F_LR_readSum rfl rfl)) (fr_wk fr_F_W_add rfl rfl)) (fr_wk fr_F_W_goOnHere rfl rfl)))))) (fr_i1 (fr_p1 (fr_tr (fr_tr (fr_tr fr_rf (fr_wk fr_F_LR_take rfl rfl)) (fr_wk fr_F_LR_take rfl rfl)) (fr_wk fr_F_LR_readSum rfl rfl))) (fr_i1 (fr_p1 (fr_tr (fr_tr (fr_tr (fr_tr (fr_tr fr_rf (fr_wk fr_F_LR_take rfl rfl)) (fr_wk fr_F_LR_take rfl rfl)) (fr_wk fr_F_LR_readSum rfl rfl)) (fr_wk fr_F_W_add rfl rfl)) (fr_wk fr_F_W_goOnHere rfl rfl))) (fr_i1 (fr_p1 (fr_tr (fr_tr (fr_tr (fr_tr fr_rf (fr_wk fr_F_LR_take rfl rfl)) (fr_wk fr_F_LR_take rfl rfl)) (fr_wk fr_F_LR_readSum rfl rfl)) (fr_wk fr_F_LR_readCondition rfl rfl))) (fr_i1 (fr_p1 (fr_tr (fr_tr (fr_tr (fr_tr (fr_tr fr_rf (fr_wk fr_F_LR_take rfl rfl)) (fr_wk fr_F_LR_take rfl rfl)) (fr_wk fr_F_LR_readSum rfl rfl)) (fr_wk fr_F_LR_readCondition rfl rfl)) (fr_wk fr_F_LR_take rfl rfl))) (fr_i1 (fr_p1 (fr_tr (fr_tr (fr_tr (fr_tr (fr_tr (fr_tr (fr_tr fr_rf (fr_wk fr_F_LR_take rfl rfl)) (fr_wk fr_F_LR_take rfl rfl)) (fr_wk fr_F_LR_readSum rfl rfl)) (fr_wk fr_F_LR_readCondition rfl rfl)) (fr_wk fr_F_LR_take rfl rfl)) (fr_wk fr_F_W_add rfl rfl)) (fr_wk fr_F_LR_readSum rfl rfl))) (fr_p1 (fr_tr (fr_tr (fr_tr (fr_tr (fr_tr (fr_tr (fr_tr (fr_tr (fr_tr fr_rf (fr_wk fr_F_LR_take rfl rfl)) (fr_wk fr_F_LR_take rfl rfl)) (fr_wk fr_F_LR_readSum rfl rfl)) (fr_wk fr_F_LR_readCondition rfl rfl)) (fr_wk fr_F_LR_take rfl rfl)) (fr_wk fr_F_W_add rfl rfl)) (fr_wk fr_F_LR_readSum rfl rfl)) (fr_wk fr_F_W_add rfl rfl)) (fr_wk fr_F_W_goOnHere rfl rfl))))))))))))
theorem fr_A_P_place_2 {w : z_Wd} {a0 : Int} {n : Nat} : z_fr [71] [] w (A_P_place_2 w a0 n) := by
  induction n with
  | zero =>
    exact fr_rf
  | succ n ih =>
    show z_fr [71] [] w (z_up (A_P_place_2 w a0 n) 71 ((n : Int).toNat) ((F_K_depth (A_P_place_2 w a0 n) (n : Int)) - (F_Y_dropsOf (A_P_place_2 w a0 n) (F_K_inside (A_P_place_2 w a0 n) (n : Int)))))
    exact (fr_up rfl ih)
theorem fr_F_P_place {w : z_Wd} {a0 : Int} : z_fr [71] [(70, 3), (70, 4)] w (F_P_place w a0).2 := by
  unfold F_P_place
  exact (fr_i1 (fr_p1 (fr_tr (fr_uf rfl (fr_uf rfl (fr_tr fr_rf (fr_wk fr_A_P_place_2 rfl rfl)))) (fr_wk (fr_F_P_placeFrom _ _ _ _ _ _) rfl rfl))) (fr_p1 (fr_tr (fr_uf rfl (fr_uf rfl (fr_tr fr_rf (fr_wk fr_A_P_place_2 rfl rfl)))) (fr_wk (fr_F_P_placeFrom _ _ _ _ _ _) rfl rfl))))
theorem fr_F_D_faction {w : z_Wd} {a0 : Int} {a1 : Int} : z_fr [71] [(70, 3), (70, 4)] w (F_D_faction w a0 a1).2 := by
  unfold F_D_faction
  exact (fr_i1 (fr_p1 fr_rf) (fr_i1 (fr_p1 fr_rf) (fr_i1 (fr_i1 (fr_p1 (fr_tr fr_rf (fr_wk fr_F_P_place rfl rfl))) (fr_i1 (fr_p1 (fr_tr fr_rf (fr_wk fr_F_P_place rfl rfl))) (fr_i1 (fr_p1 (fr_tr fr_rf (fr_wk fr_F_P_place rfl rfl))) (fr_p1 (fr_tr fr_rf (fr_wk fr_F_P_place rfl rfl)))))) (fr_p1 fr_rf))))
theorem fr_L_LR_read_23 {w : z_Wd} : ∀ {n : Nat} {u1 : Int} {u2 : Int} {wu : z_Wd}, z_fr [39] [(37, 2), (38, 2)] w wu → z_fr [39] [(37, 2), (38, 2)] w (L_LR_read_23 w n u1 u2 wu).2 := by
  intro n
  induction n with
  | zero =>
    intro u1 u2 wu h
    exact fr_rf
  | succ n ih =>
    intro u1 u2 wu h
    show z_fr [39] [(37, 2), (38, 2)] w (if u1 = 0 then if wu 37 2 = wu 28 1 then ((-1), wu) else (wu 37 2, wu) else if u2 ≥ 240 then if wu 37 2 = wu 28 1 then ((-1), wu) else (wu 37 2, wu) else if (F_LR_readClause wu).1 = 0 then (((F_LR_readClause wu).2) 37 2, (F_LR_readClause wu).2) else L_LR_read_23 w n ((F_LR_take ((F_LR_readClause wu).2) 59).1) (u2 + 1) ((F_LR_take ((F_LR_readClause wu).2) 59).2)).2
    exact (fr_i1 (fr_i1 (fr_p1 h) (fr_p1 h)) (fr_i1 (fr_i1 (fr_p1 h) (fr_p1 h)) (fr_i1 (fr_p1 (fr_tr h (fr_wk fr_F_LR_readClause rfl rfl))) (ih (fr_tr (fr_tr h (fr_wk fr_F_LR_readClause rfl rfl)) (fr_wk fr_F_LR_take rfl rfl))))))
theorem fr_F_LR_read {w : z_Wd} : z_fr [39] [(37, 2), (38, 2)] w (F_LR_read w).2 := by
  unfold F_LR_read
  exact (fr_L_LR_read_23 (fr_uf rfl (fr_tr fr_rf (fr_wk fr_F_W_clear rfl rfl))))
theorem fr_F_D_fault {w : z_Wd} {a0 : Int} : z_fr [35, 36, 39] [(33, 2), (37, 2), (38, 2)] w (F_D_fault w a0).2 := by
  unfold F_D_fault
  exact (fr_i1 (fr_p1 (fr_tr fr_rf (fr_wk fr_F_YR_read rfl rfl))) (fr_i1 (fr_p1 (fr_tr fr_rf (fr_wk fr_F_LR_read rfl rfl))) (fr_p1 fr_rf)))
theorem fr_F_D_passLaw {w : z_Wd} : z_fr [39, 59, 62, 65, 68] [(28, 1), (37, 2), (38, 2), (55, 4), (58, 2), (61, 2), (64, 2), (67, 2)] w (F_D_passLaw w).2 := by
  unfold F_D_passLaw
  exact (fr_i1 (fr_p1 fr_rf) (fr_i1 (fr_p1 (fr_tr (fr_tr (fr_tr fr_rf (fr_wk fr_F_LR_read rfl rfl)) (fr_wk fr_F_T_cut rfl rfl)) (fr_wk fr_F_G_pass_38 rfl rfl))) (fr_p1 (fr_tr fr_rf (fr_wk fr_F_LR_read rfl rfl)))))
theorem fr_F_D_text {w : z_Wd} {a0 : Int} : z_fr [31, 32, 35, 36, 39, 42, 43, 44, 59, 62, 65, 68] [(27, 13), (28, 1), (33, 2), (37, 2), (38, 2), (41, 6), (41, 7), (41, 8), (53, 2), (55, 4), (58, 2), (61, 2), (64, 2), (67, 2), (72, 4)] w (F_D_text w a0).2 := by
  unfold F_D_text
  exact (fr_i1 (fr_p1 (fr_tr fr_rf (fr_wk fr_F_D_foundMinistry rfl rfl))) (fr_i1 (fr_p1 (fr_tr fr_rf (fr_wk fr_F_D_passLaw rfl rfl))) (fr_p1 fr_rf)))
theorem fr_F_D_rests {w : z_Wd} {a0 : Int} {a1 : Int} {a2 : Int} {a3 : Int} : z_fr [77] [] w (F_D_rests w a0 a1 a2 a3).2 := by
  unfold F_D_rests
  exact (fr_i1 (fr_p1 fr_rf) (fr_i1 (fr_p1 (fr_tr fr_rf (fr_wk fr_F_N_setUp rfl rfl))) (fr_p1 (fr_tr fr_rf (fr_wk fr_F_N_setUp rfl rfl)))))
theorem fr_F_D_name {w : z_Wd} {a : Int} {b : Int} : z_fr [57, 60, 63, 66, 69] [(58, 3), (61, 3), (64, 3), (67, 3)] w (F_D_name w a b).2 := by
  unfold F_D_name
  exact (fr_i1 (fr_p1 fr_rf) (fr_i1 (fr_p1 fr_rf) (fr_i1 (fr_p1 fr_rf) (fr_i1 (fr_p1 fr_rf) (fr_i1 (fr_p1 fr_rf) (fr_tr fr_rf (fr_wk fr_F_G_missed rfl rfl)))))))
