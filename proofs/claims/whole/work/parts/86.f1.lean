/-! bytes are fed -/
theorem by_r (x : Int) : 0 ≤ zz_and x 255 ∧ zz_and x 255 ≤ 255 := by
  unfold zz_and
  have e := pk_and (Int32.ofInt x) (m := 255) 8 (by decide)
  have e1 : Int32.ofInt 255 = (255 : Int32) := by decide
  rw [e1, e, nI_toInt (by omega)]
  omega
theorem by_bv (a : BitVec 32) (s : Nat) (hs : s ≤ 24) : a >>> s &&& 255#32 = a.sshiftRight s &&& 255#32 := by
  apply BitVec.eq_of_getLsbD_eq
  intro i hi
  rw [BitVec.getLsbD_and, BitVec.getLsbD_and, BitVec.getLsbD_ushiftRight, BitVec.getLsbD_sshiftRight]
  by_cases h8 : i < 8
  · have h32 : s + i < 32 := by omega
    have h3 : ¬ 32 ≤ i := by omega
    simp [h32, h3]
  · have : (255#32).getLsbD i = false := by
      rw [BitVec.getLsbD_ofNat]
      have : Nat.testBit 255 i = false := Nat.testBit_lt_two_pow (Nat.lt_of_lt_of_le (by decide : 255 < 2 ^ 8) (Nat.pow_le_pow_right (by decide) (by omega)))
      simp [this]
    rw [this, Bool.and_false, Bool.and_false]
theorem by_eq {x : Int} {s : Int} {n : Nat} (hn : n ≤ 24) (e1 : ((Int32.ofInt s).toUInt32 &&& Int32.toUInt32 31).toBitVec % 32 = BitVec.ofNat 32 n) (e2 : (Int32.ofInt s &&& 31).toBitVec.smod 32 = BitVec.ofNat 32 n) : zz_and (zz_ushr x s) 255 = zz_and (zz_shr x s) 255 := by
  unfold zz_and zz_ushr zz_shr
  rw [Int32.ofInt_toInt, Int32.ofInt_toInt]
  congr 1
  apply Int32.toBitVec.inj
  rw [Int32.toBitVec_and, Int32.toBitVec_and]
  generalize Int32.ofInt x = a
  have e255 : (Int32.ofInt 255).toBitVec = 255#32 := by decide
  rw [e255]
  have l1 : (a.toUInt32 >>> ((Int32.ofInt s).toUInt32 &&& Int32.toUInt32 31)).toInt32.toBitVec = a.toBitVec >>> n := by
    show (a.toUInt32 >>> ((Int32.ofInt s).toUInt32 &&& Int32.toUInt32 31)).toBitVec = a.toBitVec >>> n
    rw [UInt32.toBitVec_shiftRight, e1]
    show a.toBitVec >>> (BitVec.ofNat 32 n) = a.toBitVec >>> n
    rw [BitVec.ushiftRight_eq']
    congr 1
    rw [BitVec.toNat_ofNat]
    omega
  have l2 : (a >>> (Int32.ofInt s &&& 31)).toBitVec = a.toBitVec.sshiftRight n := by
    show a.toBitVec.sshiftRight' ((Int32.ofInt s &&& 31).toBitVec.smod 32) = a.toBitVec.sshiftRight n
    rw [e2]
    show a.toBitVec.sshiftRight (BitVec.ofNat 32 n).toNat = a.toBitVec.sshiftRight n
    congr 1
    rw [BitVec.toNat_ofNat]
    omega
  rw [l1, l2]
  exact by_bv _ n hn
theorem by_24 {x : Int} : zz_and (zz_ushr x 24) 255 = zz_and (zz_shr x 24) 255 := by_eq (n := 24) (by omega) (by decide) (by decide)
theorem by_16 {x : Int} : zz_and (zz_ushr x 16) 255 = zz_and (zz_shr x 16) 255 := by_eq (n := 16) (by omega) (by decide) (by decide)
theorem by_8 {x : Int} : zz_and (zz_ushr x 8) 255 = zz_and (zz_shr x 8) 255 := by_eq (n := 8) (by omega) (by decide) (by decide)
theorem by_0 {x : Int} : zz_and (zz_ushr x 0) 255 = zz_and (zz_shr x 0) 255 := by_eq (n := 0) (by omega) (by decide) (by decide)
def b_in (b : Int) : Int := if b = 0 then 0 else 1
/-- the reference's way with a byte -/
def b_ap (x : z_Wd) (b : Int) : z_Wd := if b = 0 then x else z_up (z_up x 1 (x 0 2).toNat b) 0 2 (x 0 2 + 1)
theorem sim_ap {x u : z_Wd} (h : r_ta x u) {b : Int} (hb : 0 ≤ b ∧ b ≤ 255) (hs : x 0 2 + b_in b ≤ 240) : r_ta (b_ap x b) (z_ap1 u b) ∧ b_ap x b 0 2 = x 0 2 + b_in b := by
  obtain ⟨t1, t2, t3⟩ := h
  unfold b_ap z_ap1 b_in at *
  by_cases c : b = 0
  · rw [if_pos c, if_pos c, if_pos c]
    exact ⟨⟨t1, t2, t3⟩, by omega⟩
  · rw [if_neg c] at hs
    rw [if_neg c, if_neg c, if_neg c, if_neg (by omega)]
    obtain ⟨n, hn⟩ := Int.eq_ofNat_of_zero_le t2.1
    rw [t1, hn, Int.toNat_natCast]
    refine ⟨⟨?_, ?_, fun i hi => ?_⟩, ?_⟩
    · rw [z_up_at, z_up_at]
    · rw [z_up_at]
      omega
    · rw [z_up_at] at hi
      rw [z_up_other (show (1 : Nat) ≠ 0 by decide), z_up_other (show (29 : Nat) ≠ 28 by decide)]
      by_cases e : i = n
      · rw [e, z_up_at, z_up_at]
        omega
      · rw [z_up_ne e, z_up_ne e]
        exact t3 i (by omega)
    · rw [z_up_at]
/-- four bytes -/
def b_w4 (x : z_Wd) (a : Int) : z_Wd := b_ap (b_ap (b_ap (b_ap x (zz_and (zz_shr a 24) 255)) (zz_and (zz_shr a 16) 255)) (zz_and (zz_shr a 8) 255)) (zz_and (zz_shr a 0) 255)
def b_n4 (a : Int) : Int := b_in (zz_and (zz_shr a 24) 255) + b_in (zz_and (zz_shr a 16) 255) + b_in (zz_and (zz_shr a 8) 255) + b_in (zz_and (zz_shr a 0) 255)
theorem b_inr {b : Int} : 0 ≤ b_in b ∧ b_in b ≤ 1 := by
  unfold b_in
  split <;> omega
theorem b_n4r {a : Int} : 0 ≤ b_n4 a ∧ b_n4 a ≤ 4 := by
  have h1 := b_inr (b := zz_and (zz_shr a 24) 255)
  have h2 := b_inr (b := zz_and (zz_shr a 16) 255)
  have h3 := b_inr (b := zz_and (zz_shr a 8) 255)
  have h4 := b_inr (b := zz_and (zz_shr a 0) 255)
  unfold b_n4
  omega
theorem sim_w4 {x u : z_Wd} (h : r_ta x u) {a : Int} (hs : x 0 2 + b_n4 a ≤ 240) : r_ta (b_w4 x a) (F_T_append u a) ∧ b_w4 x a 0 2 = x 0 2 + b_n4 a ∧ P_T_append u a := by
  have h1 := b_inr (b := zz_and (zz_shr a 24) 255)
  have h2 := b_inr (b := zz_and (zz_shr a 16) 255)
  have h3 := b_inr (b := zz_and (zz_shr a 8) 255)
  have h4 := b_inr (b := zz_and (zz_shr a 0) 255)
  unfold b_n4 at *
  unfold b_w4 F_T_append
  rw [by_24, by_16, by_8, by_0]
  obtain ⟨a1, a2⟩ := sim_ap h (by_r _) (b := zz_and (zz_shr a 24) 255) (by omega)
  obtain ⟨b1, b2⟩ := sim_ap a1 (by_r _) (b := zz_and (zz_shr a 16) 255) (by omega)
  obtain ⟨c1, c2⟩ := sim_ap b1 (by_r _) (b := zz_and (zz_shr a 8) 255) (by omega)
  obtain ⟨d1, d2⟩ := sim_ap c1 (by_r _) (b := zz_and (zz_shr a 0) 255) (by omega)
  exact ⟨d1, by omega, h.2.1⟩
theorem b_cnt {w : z_Wd} {a : Int} : F_T_bytesIn w a = b_n4 a ∧ P_T_bytesIn w a := by
  have r24 := by_r (zz_shr a 24)
  have r16 := by_r (zz_shr a 16)
  have r8 := by_r (zz_shr a 8)
  have r0 := by_r (zz_shr a 0)
  unfold F_T_bytesIn P_T_bytesIn b_n4 b_in
  rw [by_24, by_16, by_8, by_0]
  generalize zz_and (zz_shr a 24) 255 = p at *
  generalize zz_and (zz_shr a 16) 255 = q at *
  generalize zz_and (zz_shr a 8) 255 = r at *
  generalize zz_and (zz_shr a 0) 255 = s at *
  constructor
  · by_cases c1 : p = 0 <;> by_cases c2 : q = 0 <;> by_cases c3 : r = 0 <;> by_cases c4 : s = 0 <;> simp [c1, c2, c3, c4]
  · have x : ∀ y : Int, 0 ≤ y ∧ y ≤ 255 → -2147483648 ≤ y ∧ y < 2147483648 := fun y h => by omega
    have xs := x s r0
    have xr := x r r8
    have xq := x q r16
    exact ⟨x p r24, fun _ => ⟨xq, fun _ => ⟨xr, fun _ => xs, fun _ => xs⟩, fun _ => ⟨xr, fun _ => xs, fun _ => xs⟩⟩, fun _ => ⟨xq, fun _ => ⟨xr, fun _ => xs, fun _ => xs⟩, fun _ => ⟨xr, fun _ => xs, fun _ => xs⟩⟩⟩
theorem b_fd {w : z_Wd} {a b c d e : Int} : A_M_feed_62 w a b c d e 20 = b_w4 (b_w4 (b_w4 (b_w4 (b_w4 w a) b) c) d) e := by
  have st : ∀ (n : Nat) (y : Int), F_M_byteOf (A_M_feed_62 w a b c d e n) a b c d e (n : Int) = y → A_M_feed_62 w a b c d e (n + 1) = b_ap (A_M_feed_62 w a b c d e n) y := fun n y hy => by
    simp only [A_M_feed_62]
    rw [hy]
    rfl
  rw [st 19 (zz_and (zz_shr e 0) 255) rfl, st 18 (zz_and (zz_shr e 8) 255) rfl, st 17 (zz_and (zz_shr e 16) 255) rfl, st 16 (zz_and (zz_shr e 24) 255) rfl, st 15 (zz_and (zz_shr d 0) 255) rfl, st 14 (zz_and (zz_shr d 8) 255) rfl, st 13 (zz_and (zz_shr d 16) 255) rfl, st 12 (zz_and (zz_shr d 24) 255) rfl, st 11 (zz_and (zz_shr c 0) 255) rfl, st 10 (zz_and (zz_shr c 8) 255) rfl, st 9 (zz_and (zz_shr c 16) 255) rfl, st 8 (zz_and (zz_shr c 24) 255) rfl, st 7 (zz_and (zz_shr b 0) 255) rfl, st 6 (zz_and (zz_shr b 8) 255) rfl, st 5 (zz_and (zz_shr b 16) 255) rfl, st 4 (zz_and (zz_shr b 24) 255) rfl, st 3 (zz_and (zz_shr a 0) 255) rfl, st 2 (zz_and (zz_shr a 8) 255) rfl, st 1 (zz_and (zz_shr a 16) 255) rfl, st 0 (zz_and (zz_shr a 24) 255) rfl]
  have e0 : A_M_feed_62 w a b c d e 0 = w := rfl
  rw [e0]
  rfl
theorem b_fn {w : z_Wd} {a b c d e : Int} : A_M_feed_6 w a b c d e 20 = b_n4 a + b_n4 b + b_n4 c + b_n4 d + b_n4 e := by
  have st : ∀ (n : Nat) (y : Int), F_M_byteOf w a b c d e (n : Int) = y → A_M_feed_6 w a b c d e (n + 1) = A_M_feed_6 w a b c d e n + b_in y := fun n y hy => by
    simp only [A_M_feed_6]
    rw [hy]
    unfold b_in
    split <;> omega
  rw [st 19 (zz_and (zz_shr e 0) 255) rfl, st 18 (zz_and (zz_shr e 8) 255) rfl, st 17 (zz_and (zz_shr e 16) 255) rfl, st 16 (zz_and (zz_shr e 24) 255) rfl, st 15 (zz_and (zz_shr d 0) 255) rfl, st 14 (zz_and (zz_shr d 8) 255) rfl, st 13 (zz_and (zz_shr d 16) 255) rfl, st 12 (zz_and (zz_shr d 24) 255) rfl, st 11 (zz_and (zz_shr c 0) 255) rfl, st 10 (zz_and (zz_shr c 8) 255) rfl, st 9 (zz_and (zz_shr c 16) 255) rfl, st 8 (zz_and (zz_shr c 24) 255) rfl, st 7 (zz_and (zz_shr b 0) 255) rfl, st 6 (zz_and (zz_shr b 8) 255) rfl, st 5 (zz_and (zz_shr b 16) 255) rfl, st 4 (zz_and (zz_shr b 24) 255) rfl, st 3 (zz_and (zz_shr a 0) 255) rfl, st 2 (zz_and (zz_shr a 8) 255) rfl, st 1 (zz_and (zz_shr a 16) 255) rfl, st 0 (zz_and (zz_shr a 24) 255) rfl]
  have e0 : A_M_feed_6 w a b c d e 0 = 0 := rfl
  rw [e0]
  unfold b_n4
  omega
theorem b_br {w : z_Wd} {a b c d e x : Int} : 0 ≤ F_M_byteOf w a b c d e x ∧ F_M_byteOf w a b c d e x ≤ 255 := by
  unfold F_M_byteOf
  repeat' split
  all_goals exact by_r _
theorem ok_feed : S_feed Rl := by
  intro w a b c d e ha hb hc hd he hr
  have key : ∀ w v, r_all w v → P_D_feed v a b c d e ∧ P_M_feed w a b c d e ∧ (F_D_feed v a b c d e).1 = (F_M_feed w a b c d e).1 ∧ r_all (F_M_feed w a b c d e).2 (F_D_feed v a b c d e).2 := by
    intro w v h
    obtain ⟨h1, h2, h3, h4, h5, h6, h7, h8, h9, h10⟩ := id h
    obtain ⟨t1, t2, t3⟩ := id h1
    have na := b_n4r (a := a)
    have nb := b_n4r (a := b)
    have nc := b_n4r (a := c)
    have nd := b_n4r (a := d)
    have ne := b_n4r (a := e)
    have ca := b_cnt (w := v) (a := a)
    have cb := b_cnt (w := v) (a := b)
    have cc := b_cnt (w := v) (a := c)
    have cd := b_cnt (w := v) (a := d)
    have ce := b_cnt (w := v) (a := e)
    have sz : w 0 2 + A_M_feed_6 w a b c d e 20 ≤ 240 → ∀ i : Nat, i ≤ 20 → 0 ≤ A_M_feed_62 w a b c d e i 0 2 ∧ A_M_feed_62 w a b c d e i 0 2 = w 0 2 + A_M_feed_6 w a b c d e i ∧ 0 ≤ A_M_feed_6 w a b c d e i := by
      intro _ i
      induction i with
      | zero => intro _; exact ⟨by simp only [A_M_feed_62]; omega, by simp [A_M_feed_62, A_M_feed_6], by simp [A_M_feed_6]⟩
      | succ i ih =>
        intro hi
        obtain ⟨i1, i2, i3⟩ := ih (by omega)
        have eb : F_M_byteOf (A_M_feed_62 w a b c d e i) a b c d e (i : Int) = F_M_byteOf w a b c d e (i : Int) := rfl
        simp only [A_M_feed_62, A_M_feed_6]
        rw [eb]
        split
        · exact ⟨i1, i2, i3⟩
        · rw [z_up_at]
          omega
    have mono : ∀ i j : Nat, i ≤ j → A_M_feed_6 w a b c d e i ≤ A_M_feed_6 w a b c d e j := by
      intro i j hij
      induction j with
      | zero => rw [show i = 0 by omega]; exact Int.le_refl _
      | succ j ih =>
        by_cases e' : i = j + 1
        · rw [e']; exact Int.le_refl _
        · have := ih (by omega)
          simp only [A_M_feed_6]
          split <;> omega
    refine ⟨?_, ?_, ?_⟩
    · unfold P_D_feed
      rw [ca.1, cb.1, cc.1, cd.1, ce.1]
      refine ⟨ca.2, cb.2, cc.2, cd.2, ce.2, by omega, fun z => ?_, fun _ => trivial⟩
      obtain ⟨s1, s2, s3⟩ := sim_w4 h1 (a := a) (by omega)
      obtain ⟨s4, s5, s6⟩ := sim_w4 s1 (a := b) (by omega)
      obtain ⟨s7, s8, s9⟩ := sim_w4 s4 (a := c) (by omega)
      obtain ⟨s10, s11, s12⟩ := sim_w4 s7 (a := d) (by omega)
      obtain ⟨s13, s14, s15⟩ := sim_w4 s10 (a := e) (by omega)
      exact ⟨s3, s6, s9, s12, s15⟩
    · unfold P_M_feed
      have en := b_fn (w := w) (a := a) (b := b) (c := c) (d := d) (e := e)
      refine ⟨fun i hi => ⟨by omega, ⟨by omega, by omega⟩, ?_⟩, by omega, fun z => ⟨fun i hi => ⟨by omega, ⟨by omega, by omega⟩, ?_, fun _ => trivial, fun z2 => ?_⟩, trivial⟩, fun _ => trivial⟩
      · have := b_br (w := w) (a := a) (b := b) (c := c) (d := d) (e := e) (x := (i : Int))
        omega
      · have := b_br (w := A_M_feed_62 w a b c d e i) (a := a) (b := b) (c := c) (d := d) (e := e) (x := (i : Int))
        omega
      · obtain ⟨i1, i2, i3⟩ := sz z i (by omega)
        have m := mono (i + 1) 20 (by omega)
        have eb : F_M_byteOf (A_M_feed_62 w a b c d e i) a b c d e (i : Int) = F_M_byteOf w a b c d e (i : Int) := rfl
        rw [eb] at z2
        have es : A_M_feed_6 w a b c d e (i + 1) = A_M_feed_6 w a b c d e i + 1 := by
          simp only [A_M_feed_6]
          rw [if_neg z2]
        omega
    · unfold F_D_feed F_M_feed
      rw [ca.1, cb.1, cc.1, cd.1, ce.1, b_fn, b_fd]
      by_cases z : v 28 1 + (b_n4 a + b_n4 b + b_n4 c + b_n4 d + b_n4 e) ≤ 240
      · rw [if_pos z, if_pos (show w 0 2 + (b_n4 a + b_n4 b + b_n4 c + b_n4 d + b_n4 e) ≤ 240 by omega)]
        obtain ⟨s1, s2, s3⟩ := sim_w4 h1 (a := a) (by omega)
        obtain ⟨s4, s5, s6⟩ := sim_w4 s1 (a := b) (by omega)
        obtain ⟨s7, s8, s9⟩ := sim_w4 s4 (a := c) (by omega)
        obtain ⟨s10, s11, s12⟩ := sim_w4 s7 (a := d) (by omega)
        obtain ⟨s13, s14, s15⟩ := sim_w4 s10 (a := e) (by omega)
        have f : z_fr [1] [(0, 2)] w (b_w4 (b_w4 (b_w4 (b_w4 (b_w4 w a) b) c) d) e) := by
          have f1 : ∀ (x : z_Wd) (y : Int), z_fr [1] [(0, 2)] x (b_ap x y) := fun x y => by
            unfold b_ap
            split
            · exact fr_rf
            · exact fr_uf rfl (fr_up rfl fr_rf)
          have f4 : ∀ (x : z_Wd) (y : Int), z_fr [1] [(0, 2)] x (b_w4 x y) := fun x y => fr_tr (fr_tr (fr_tr (f1 _ _) (f1 _ _)) (f1 _ _)) (f1 _ _)
          exact fr_tr (fr_tr (fr_tr (fr_tr (f4 _ _) (f4 _ _)) (f4 _ _)) (f4 _ _)) (f4 _ _)
        have g1 : ∀ (u : z_Wd) (y : Int), z_fr [29] [(28, 1)] u (F_T_append u y) := fun u y => fr_F_T_append
        have g : z_fr [29] [(28, 1)] v (F_T_append (F_T_append (F_T_append (F_T_append (F_T_append v a) b) c) d) e) := fr_tr (fr_tr (fr_tr (fr_tr (g1 _ _) (g1 _ _)) (g1 _ _)) (g1 _ _)) (g1 _ _)
        exact ⟨s13.1.symm, s13, y_mi h2 f g rfl, y_no h3 f g rfl, y_ac h4 f g rfl, y_im h5 f g rfl, y_la h6 f g rfl, y_cl h7 f g rfl, y_re h8 f g rfl, y_fl h9 f g rfl, y_rd h10 f g rfl⟩
      · rw [if_neg z, if_neg (show ¬ w 0 2 + (b_n4 a + b_n4 b + b_n4 c + b_n4 d + b_n4 e) ≤ 240 by omega)]
        exact ⟨rfl, h⟩
  have t := s_two hr (fr_F_D_feed (a0 := a) (a1 := b) (a2 := c) (a3 := d) (a4 := e)) rfl (fr_F_M_feed (w := (F_D_feed w a b c d e).2) (a0 := a) (a1 := b) (a2 := c) (a3 := d) (a4 := e)) rfl
  obtain ⟨k1, k2, k3, k4⟩ := key _ _ t.1
  exact ⟨k1, k2, k3, t.2 k4⟩
