/-! the start: the constructors' cells are the world -/
def s_E (G : va_G) (ad : List Nat) (b : Nat) (st : Nat → Nat) (cI cL cJ : ClassId) : z_E := (G, fun k => if k = 300 then b else if 200 ≤ k then st (k - 200) else ad.getD k 0, fun k => if k = 0 then cI else if k = 1 then cL else cJ)
theorem s_up {a b c d : Nat} {f : Nat → Nat} (ha : f 58 = a) (hb : f 61 = b) (hc : f 64 = c) (hd : f 67 = d) : va_up (va_up (va_up (va_up (fun _ => none) 0 (some a)) 1 (some b)) 2 (some c)) 3 (some d) = fun j => (([58, 61, 64, 67] : List Nat)[j]?).map f := by
  subst ha hb hc hd
  funext j
  match j with
  | 0 => rfl
  | 1 => rfl
  | 2 => rfl
  | 3 => rfl
  | j + 4 => simp [va_up]
theorem s_ze0 {E : z_E} {k n : Nat} {rs : List Nat} (hs : z_sh k = .inr (0, n, rs)) (hw : s_w k = fun _ => 0) : z_ce E (s_w k) (z_sh k) = .inl (E.2.2 0, n, .inl (fun _ => 0)) := by
  rw [hs, hw]
  rfl
theorem s_e0 {E : z_E} : z_ce E (s_w 0) (z_sh 0) = .inr (12, [.int 0, .ref (E.2.1 1), .int 0, .int 0, .int 0, .int 0, .ref (E.2.1 2), .ref (E.2.1 3), .ref (E.2.1 4), .ref (E.2.1 5), .ref (E.2.1 6), .ref (E.2.1 7), .ref (E.2.1 8), .int 0, .int 0, .ref (E.2.1 9), .ref (E.2.1 10), .ref (E.2.1 11), .ref (E.2.1 12), .ref (E.2.1 13), .ref (E.2.1 14), .int 0, .int 0, .int 0, .ref (E.2.1 15), .ref (E.2.1 16), .ref (E.2.1 17), .ref (E.2.1 18), .int 0, .int 0, .int 0, .ref (E.2.1 19), .ref (E.2.1 20), .int (Int32.ofInt (-1)), .int (Int32.ofInt (3)), .ref (E.2.1 21), .int 0, .long 0, .ref (E.2.1 22), .int 0, .int 0, .ref (E.2.1 23), .ref (E.2.1 24), .int 0, .ref (E.2.1 25), .int 0]) := by
  have hs : z_sh 0 = .inl (12, [0, 3, 0, 0, 0, 0, 4, 5, 6, 7, 8, 9, 10, 0, 0, 11, 12, 13, 14, 15, 16, 0, 0, 0, 17, 18, 19, 20, 0, 0, 0, 21, 22, 0, 0, 23, 0, 1, 24, 0, 0, 25, 26, 0, 27, 0]) := rfl
  rw [hs]
  show (Sum.inr (12, List.mapIdx (fun j c => z_fv E (s_w 0) j c) [0, 3, 0, 0, 0, 0, 4, 5, 6, 7, 8, 9, 10, 0, 0, 11, 12, 13, 14, 15, 16, 0, 0, 0, 17, 18, 19, 20, 0, 0, 0, 21, 22, 0, 0, 23, 0, 1, 24, 0, 0, 25, 26, 0, 27, 0]) : va_E) = _
  simp only [List.mapIdx_cons, List.mapIdx_nil]
  show (Sum.inr (12, [.int (Int32.ofInt (s_w 0 0)), .ref (E.2.1 1), .int (Int32.ofInt (s_w 0 2)), .int (Int32.ofInt (s_w 0 3)), .int (Int32.ofInt (s_w 0 4)), .int (Int32.ofInt (s_w 0 5)), .ref (E.2.1 2), .ref (E.2.1 3), .ref (E.2.1 4), .ref (E.2.1 5), .ref (E.2.1 6), .ref (E.2.1 7), .ref (E.2.1 8), .int (Int32.ofInt (s_w 0 13)), .int (Int32.ofInt (s_w 0 14)), .ref (E.2.1 9), .ref (E.2.1 10), .ref (E.2.1 11), .ref (E.2.1 12), .ref (E.2.1 13), .ref (E.2.1 14), .int (Int32.ofInt (s_w 0 21)), .int (Int32.ofInt (s_w 0 22)), .int (Int32.ofInt (s_w 0 23)), .ref (E.2.1 15), .ref (E.2.1 16), .ref (E.2.1 17), .ref (E.2.1 18), .int (Int32.ofInt (s_w 0 28)), .int (Int32.ofInt (s_w 0 29)), .int (Int32.ofInt (s_w 0 30)), .ref (E.2.1 19), .ref (E.2.1 20), .int (Int32.ofInt (s_w 0 33)), .int (Int32.ofInt (s_w 0 34)), .ref (E.2.1 21), .int (Int32.ofInt (s_w 0 36)), .long (Int64.ofInt (s_w 0 37)), .ref (E.2.1 22), .int (Int32.ofInt (s_w 0 39)), .int (Int32.ofInt (s_w 0 40)), .ref (E.2.1 23), .ref (E.2.1 24), .int (Int32.ofInt (s_w 0 43)), .ref (E.2.1 25), .int (Int32.ofInt (s_w 0 45))]) : va_E) = _
  have v0 : s_w 0 0 = 0 := by decide
  have v2 : s_w 0 2 = 0 := by decide
  have v3 : s_w 0 3 = 0 := by decide
  have v4 : s_w 0 4 = 0 := by decide
  have v5 : s_w 0 5 = 0 := by decide
  have v13 : s_w 0 13 = 0 := by decide
  have v14 : s_w 0 14 = 0 := by decide
  have v21 : s_w 0 21 = 0 := by decide
  have v22 : s_w 0 22 = 0 := by decide
  have v23 : s_w 0 23 = 0 := by decide
  have v28 : s_w 0 28 = 0 := by decide
  have v29 : s_w 0 29 = 0 := by decide
  have v30 : s_w 0 30 = 0 := by decide
  have v33 : s_w 0 33 = -1 := by decide
  have v34 : s_w 0 34 = 3 := by decide
  have v36 : s_w 0 36 = 0 := by decide
  have v37 : s_w 0 37 = 0 := by decide
  have v39 : s_w 0 39 = 0 := by decide
  have v40 : s_w 0 40 = 0 := by decide
  have v43 : s_w 0 43 = 0 := by decide
  have v45 : s_w 0 45 = 0 := by decide
  rw [v0, v2, v3, v4, v5, v13, v14, v21, v22, v23, v28, v29, v30, v33, v34, v36, v37, v39, v40, v43, v45]
  rfl
theorem s_e1 {E : z_E} : z_ce E (s_w 1) (z_sh 1) = .inl ((E.2.2 0), 240, .inl (fun _ => 0)) := s_ze0 (k := 1) rfl (s_c (by decide) (by decide) (by decide))
theorem s_e2 {E : z_E} : z_ce E (s_w 2) (z_sh 2) = .inl ((E.2.2 0), 2600, .inl (fun _ => 0)) := s_ze0 (k := 2) rfl (s_c (by decide) (by decide) (by decide))
theorem s_e3 {E : z_E} : z_ce E (s_w 3) (z_sh 3) = .inl ((E.2.2 0), 2600, .inl (fun _ => 0)) := s_ze0 (k := 3) rfl (s_c (by decide) (by decide) (by decide))
theorem s_e4 {E : z_E} : z_ce E (s_w 4) (z_sh 4) = .inl ((E.2.2 0), 5, .inl (fun _ => 0)) := s_ze0 (k := 4) rfl (s_c (by decide) (by decide) (by decide))
theorem s_e5 {E : z_E} : z_ce E (s_w 5) (z_sh 5) = .inl ((E.2.2 0), 5, .inl (fun _ => 0)) := s_ze0 (k := 5) rfl (s_c (by decide) (by decide) (by decide))
theorem s_e6 {E : z_E} : z_ce E (s_w 6) (z_sh 6) = .inl ((E.2.2 0), 700, .inl (fun _ => 0)) := s_ze0 (k := 6) rfl (s_c (by decide) (by decide) (by decide))
theorem s_e7 {E : z_E} : z_ce E (s_w 7) (z_sh 7) = .inl ((E.2.2 0), 700, .inl (fun _ => 0)) := s_ze0 (k := 7) rfl (s_c (by decide) (by decide) (by decide))
theorem s_e8 {E : z_E} : z_ce E (s_w 8) (z_sh 8) = .inl ((E.2.2 0), 700, .inl (fun _ => 0)) := s_ze0 (k := 8) rfl (s_c (by decide) (by decide) (by decide))
theorem s_e9 {E : z_E} : z_ce E (s_w 9) (z_sh 9) = .inl ((E.2.2 0), 6, .inl (fun _ => 0)) := s_ze0 (k := 9) rfl (s_c (by decide) (by decide) (by decide))
theorem s_e10 {E : z_E} : z_ce E (s_w 10) (z_sh 10) = .inl ((E.2.2 0), 80, .inl (fun _ => 0)) := s_ze0 (k := 10) rfl (s_c (by decide) (by decide) (by decide))
theorem s_e11 {E : z_E} : z_ce E (s_w 11) (z_sh 11) = .inl ((E.2.2 0), 2, .inl (fun _ => 0)) := s_ze0 (k := 11) rfl (s_c (by decide) (by decide) (by decide))
theorem s_e12 {E : z_E} : z_ce E (s_w 12) (z_sh 12) = .inl ((E.2.2 0), 8, .inl (fun _ => 0)) := s_ze0 (k := 12) rfl (s_c (by decide) (by decide) (by decide))
theorem s_e13 {E : z_E} : z_ce E (s_w 13) (z_sh 13) = .inl ((E.2.2 0), 21, .inl (fun _ => 0)) := s_ze0 (k := 13) rfl (s_c (by decide) (by decide) (by decide))
theorem s_e14 {E : z_E} : z_ce E (s_w 14) (z_sh 14) = .inl ((E.2.2 0), 12, .inl (fun _ => 0)) := s_ze0 (k := 14) rfl (s_c (by decide) (by decide) (by decide))
theorem s_e15 {E : z_E} : z_ce E (s_w 15) (z_sh 15) = .inl ((E.2.2 0), 2, .inl (fun _ => 0)) := s_ze0 (k := 15) rfl (s_c (by decide) (by decide) (by decide))
theorem s_e16 {E : z_E} : z_ce E (s_w 16) (z_sh 16) = .inl ((E.2.2 0), 8, .inl (fun _ => 0)) := s_ze0 (k := 16) rfl (s_c (by decide) (by decide) (by decide))
theorem s_e17 {E : z_E} : z_ce E (s_w 17) (z_sh 17) = .inl ((E.2.2 0), 21, .inl (fun _ => 0)) := s_ze0 (k := 17) rfl (s_c (by decide) (by decide) (by decide))
theorem s_e18 {E : z_E} : z_ce E (s_w 18) (z_sh 18) = .inl ((E.2.2 0), 12, .inl (fun _ => 0)) := s_ze0 (k := 18) rfl (s_c (by decide) (by decide) (by decide))
theorem s_e19 {E : z_E} : z_ce E (s_w 19) (z_sh 19) = .inl ((E.2.2 0), 160, .inl (fun _ => 0)) := s_ze0 (k := 19) rfl (s_c (by decide) (by decide) (by decide))
theorem s_e20 {E : z_E} : z_ce E (s_w 20) (z_sh 20) = .inl ((E.2.2 0), 5, .inl (fun _ => 0)) := s_ze0 (k := 20) rfl (s_c (by decide) (by decide) (by decide))
theorem s_e21 {E : z_E} : z_ce E (s_w 21) (z_sh 21) = .inl ((E.2.2 0), 6400, .inl (fun _ => 0)) := s_ze0 (k := 21) rfl (s_c (by decide) (by decide) (by decide))
theorem s_e22 {E : z_E} : z_ce E (s_w 22) (z_sh 22) = .inl ((E.2.2 0), 351, .inl (fun _ => 0)) := s_ze0 (k := 22) rfl (s_c (by decide) (by decide) (by decide))
theorem s_e23 {E : z_E} : z_ce E (s_w 23) (z_sh 23) = .inl ((E.2.2 0), 10, .inl (fun _ => 0)) := s_ze0 (k := 23) rfl (s_c (by decide) (by decide) (by decide))
theorem s_e24 {E : z_E} : z_ce E (s_w 24) (z_sh 24) = .inl ((E.2.2 0), 10, .inl (fun _ => 0)) := s_ze0 (k := 24) rfl (s_c (by decide) (by decide) (by decide))
theorem s_e25 {E : z_E} : z_ce E (s_w 25) (z_sh 25) = .inl ((E.2.2 0), 160, .inl (fun _ => 0)) := s_ze0 (k := 25) rfl (s_c (by decide) (by decide) (by decide))
theorem s_e26 {E : z_E} : z_ce E (s_w 26) (z_sh 26) = .inl ((E.2.2 2), 1, .inr (.inl (fun _ => 0))) := by
  have hs : z_sh 26 = .inr (2, 1, []) := rfl
  rw [hs, s_c (k := 26) (by decide) (by decide) (by decide)]
  rfl
theorem s_e27 {E : z_E} : z_ce E (s_w 27) (z_sh 27) = .inr (11, [.ref (E.2.1 28), .ref (E.2.1 30), .ref (E.2.1 33), .ref (E.2.1 37), .ref (E.2.1 41), .ref (E.2.1 47), .ref (E.2.1 53), .ref (E.2.1 55), .ref (E.2.1 70), .ref (E.2.1 72), .ref (E.2.1 76), .ref (E.2.1 78), .int (Int32.ofInt (3)), .int 0, .long 0]) := by
  have hs : z_sh 27 = .inl (11, [30, 32, 35, 39, 43, 49, 55, 57, 72, 74, 78, 80, 0, 0, 1]) := rfl
  rw [hs]
  show (Sum.inr (11, List.mapIdx (fun j c => z_fv E (s_w 27) j c) [30, 32, 35, 39, 43, 49, 55, 57, 72, 74, 78, 80, 0, 0, 1]) : va_E) = _
  simp only [List.mapIdx_cons, List.mapIdx_nil]
  show (Sum.inr (11, [.ref (E.2.1 28), .ref (E.2.1 30), .ref (E.2.1 33), .ref (E.2.1 37), .ref (E.2.1 41), .ref (E.2.1 47), .ref (E.2.1 53), .ref (E.2.1 55), .ref (E.2.1 70), .ref (E.2.1 72), .ref (E.2.1 76), .ref (E.2.1 78), .int (Int32.ofInt (s_w 27 12)), .int (Int32.ofInt (s_w 27 13)), .long (Int64.ofInt (s_w 27 14))]) : va_E) = _
  have v12 : s_w 27 12 = 3 := by decide
  have v13 : s_w 27 13 = 0 := by decide
  have v14 : s_w 27 14 = 0 := by decide
  rw [v12, v13, v14]
  rfl
theorem s_e28 {E : z_E} : z_ce E (s_w 28) (z_sh 28) = .inr (10, [.ref (E.2.1 29), .int 0]) := by
  have hs : z_sh 28 = .inl (10, [31, 0]) := rfl
  rw [hs, s_c (k := 28) (by decide) (by decide) (by decide)]
  rfl
theorem s_e29 {E : z_E} : z_ce E (s_w 29) (z_sh 29) = .inl ((E.2.2 0), 240, .inl (fun _ => 0)) := s_ze0 (k := 29) rfl (s_c (by decide) (by decide) (by decide))
theorem s_e30 {E : z_E} : z_ce E (s_w 30) (z_sh 30) = .inr (6, [.ref (E.2.1 31), .ref (E.2.1 32)]) := by
  have hs : z_sh 30 = .inl (6, [33, 34]) := rfl
  rw [hs, s_c (k := 30) (by decide) (by decide) (by decide)]
  rfl
theorem s_e31 {E : z_E} : z_ce E (s_w 31) (z_sh 31) = .inl ((E.2.2 0), 54, .inl (fun _ => 0)) := s_ze0 (k := 31) rfl (s_c (by decide) (by decide) (by decide))
theorem s_e32 {E : z_E} : z_ce E (s_w 32) (z_sh 32) = .inl ((E.2.2 0), 4, .inl (fun _ => 0)) := s_ze0 (k := 32) rfl (s_c (by decide) (by decide) (by decide))
theorem s_e33 {E : z_E} : z_ce E (s_w 33) (z_sh 33) = .inr (7, [.ref (E.2.1 28), .ref (E.2.1 34), .int 0]) := by
  have hs : z_sh 33 = .inl (7, [30, 36, 0]) := rfl
  rw [hs, s_c (k := 33) (by decide) (by decide) (by decide)]
  rfl
theorem s_e34 {E : z_E} : z_ce E (s_w 34) (z_sh 34) = .inr (6, [.ref (E.2.1 35), .ref (E.2.1 36)]) := by
  have hs : z_sh 34 = .inl (6, [37, 38]) := rfl
  rw [hs, s_c (k := 34) (by decide) (by decide) (by decide)]
  rfl
theorem s_e35 {E : z_E} : z_ce E (s_w 35) (z_sh 35) = .inl ((E.2.2 0), 54, .inl (fun _ => 0)) := s_ze0 (k := 35) rfl (s_c (by decide) (by decide) (by decide))
theorem s_e36 {E : z_E} : z_ce E (s_w 36) (z_sh 36) = .inl ((E.2.2 0), 4, .inl (fun _ => 0)) := s_ze0 (k := 36) rfl (s_c (by decide) (by decide) (by decide))
theorem s_e37 {E : z_E} : z_ce E (s_w 37) (z_sh 37) = .inr (5, [.ref (E.2.1 28), .ref (E.2.1 38), .int 0]) := by
  have hs : z_sh 37 = .inl (5, [30, 40, 0]) := rfl
  rw [hs, s_c (k := 37) (by decide) (by decide) (by decide)]
  rfl
theorem s_e38 {E : z_E} : z_ce E (s_w 38) (z_sh 38) = .inr (4, [.ref (E.2.1 39), .ref (E.2.1 40), .int 0, .int 0]) := by
  have hs : z_sh 38 = .inl (4, [41, 42, 0, 0]) := rfl
  rw [hs, s_c (k := 38) (by decide) (by decide) (by decide)]
  rfl
theorem s_e39 {E : z_E} : z_ce E (s_w 39) (z_sh 39) = .inl ((E.2.2 0), 240, .inl (fun _ => 0)) := s_ze0 (k := 39) rfl (s_c (by decide) (by decide) (by decide))
theorem s_e40 {E : z_E} : z_ce E (s_w 40) (z_sh 40) = .inl ((E.2.2 0), 64, .inl (fun _ => 0)) := s_ze0 (k := 40) rfl (s_c (by decide) (by decide) (by decide))
theorem s_e41 {E : z_E} : z_ce E (s_w 41) (z_sh 41) = .inr (3, [.ref (E.2.1 30), .ref (E.2.1 42), .ref (E.2.1 43), .ref (E.2.1 44), .ref (E.2.1 45), .ref (E.2.1 46), .int 0, .int 0, .int 0]) := by
  have hs : z_sh 41 = .inl (3, [32, 44, 45, 46, 47, 48, 0, 0, 0]) := rfl
  rw [hs, s_c (k := 41) (by decide) (by decide) (by decide)]
  rfl
theorem s_e42 {E : z_E} : z_ce E (s_w 42) (z_sh 42) = .inl ((E.2.2 0), 7, .inl (fun _ => 0)) := s_ze0 (k := 42) rfl (s_c (by decide) (by decide) (by decide))
theorem s_e43 {E : z_E} : z_ce E (s_w 43) (z_sh 43) = .inl ((E.2.2 0), 7, .inl (fun _ => 0)) := s_ze0 (k := 43) rfl (s_c (by decide) (by decide) (by decide))
theorem s_e44 {E : z_E} : z_ce E (s_w 44) (z_sh 44) = .inl ((E.2.2 0), 4, .inl (fun _ => 0)) := s_ze0 (k := 44) rfl (s_c (by decide) (by decide) (by decide))
theorem s_e45 {E : z_E} : z_ce E (s_w 45) (z_sh 45) = .inl ((E.2.2 0), 100, .inl (fun _ => 0)) := s_ze0 (k := 45) rfl (s_c (by decide) (by decide) (by decide))
theorem s_e46 {E : z_E} : z_ce E (s_w 46) (z_sh 46) = .inl ((E.2.2 0), 100, .inl (fun _ => 0)) := s_ze0 (k := 46) rfl (s_c (by decide) (by decide) (by decide))
theorem s_e47 {E : z_E} : z_ce E (s_w 47) (z_sh 47) = .inr (3, [.ref (E.2.1 30), .ref (E.2.1 48), .ref (E.2.1 49), .ref (E.2.1 50), .ref (E.2.1 51), .ref (E.2.1 52), .int 0, .int 0, .int 0]) := by
  have hs : z_sh 47 = .inl (3, [32, 50, 51, 52, 53, 54, 0, 0, 0]) := rfl
  rw [hs, s_c (k := 47) (by decide) (by decide) (by decide)]
  rfl
theorem s_e48 {E : z_E} : z_ce E (s_w 48) (z_sh 48) = .inl ((E.2.2 0), 7, .inl (fun _ => 0)) := s_ze0 (k := 48) rfl (s_c (by decide) (by decide) (by decide))
theorem s_e49 {E : z_E} : z_ce E (s_w 49) (z_sh 49) = .inl ((E.2.2 0), 7, .inl (fun _ => 0)) := s_ze0 (k := 49) rfl (s_c (by decide) (by decide) (by decide))
theorem s_e50 {E : z_E} : z_ce E (s_w 50) (z_sh 50) = .inl ((E.2.2 0), 4, .inl (fun _ => 0)) := s_ze0 (k := 50) rfl (s_c (by decide) (by decide) (by decide))
theorem s_e51 {E : z_E} : z_ce E (s_w 51) (z_sh 51) = .inl ((E.2.2 0), 100, .inl (fun _ => 0)) := s_ze0 (k := 51) rfl (s_c (by decide) (by decide) (by decide))
theorem s_e52 {E : z_E} : z_ce E (s_w 52) (z_sh 52) = .inl ((E.2.2 0), 100, .inl (fun _ => 0)) := s_ze0 (k := 52) rfl (s_c (by decide) (by decide) (by decide))
theorem s_e53 {E : z_E} : z_ce E (s_w 53) (z_sh 53) = .inr (2, [.ref (E.2.1 54), .int 0, .int 0]) := by
  have hs : z_sh 53 = .inl (2, [56, 0, 0]) := rfl
  rw [hs, s_c (k := 53) (by decide) (by decide) (by decide)]
  rfl
theorem s_e54 {E : z_E} : z_ce E (s_w 54) (z_sh 54) = .inl ((E.2.2 0), 840, .inl (fun _ => 0)) := s_ze0 (k := 54) rfl (s_c (by decide) (by decide) (by decide))
theorem s_e55 {E : z_E} : z_ce E (s_w 55) (z_sh 55) = .inr (1, [.ref (E.2.1 30), .ref (E.2.1 41), .ref (E.2.1 56), .ref (E.2.1 57), .int 0, .int (Int32.ofInt (-1))]) := by
  have hs : z_sh 55 = .inl (1, [32, 43, 58, 59, 0, 0]) := rfl
  rw [hs]
  show (Sum.inr (1, List.mapIdx (fun j c => z_fv E (s_w 55) j c) [32, 43, 58, 59, 0, 0]) : va_E) = _
  simp only [List.mapIdx_cons, List.mapIdx_nil]
  show (Sum.inr (1, [.ref (E.2.1 30), .ref (E.2.1 41), .ref (E.2.1 56), .ref (E.2.1 57), .int (Int32.ofInt (s_w 55 4)), .int (Int32.ofInt (s_w 55 5))]) : va_E) = _
  have v4 : s_w 55 4 = 0 := by decide
  have v5 : s_w 55 5 = -1 := by decide
  rw [v4, v5]
  rfl
theorem s_e56 {E : z_E} : z_ce E (s_w 56) (z_sh 56) = .inl ((E.2.2 1), 4, .inr (.inr (.inr (.inr (fun j => (([58, 61, 64, 67] : List Nat)[j]?).map E.2.1))))) := by
  have hs : z_sh 56 = .inr (1, 4, [58, 61, 64, 67]) := rfl
  rw [hs, s_c (k := 56) (by decide) (by decide) (by decide)]
  rfl
theorem s_e57 {E : z_E} : z_ce E (s_w 57) (z_sh 57) = .inl ((E.2.2 0), 6, .inl (fun _ => 0)) := s_ze0 (k := 57) rfl (s_c (by decide) (by decide) (by decide))
theorem s_e58 {E : z_E} : z_ce E (s_w 58) (z_sh 58) = .inr (4, [.ref (E.2.1 59), .ref (E.2.1 60), .int 0, .int 0]) := by
  have hs : z_sh 58 = .inl (4, [61, 62, 0, 0]) := rfl
  rw [hs, s_c (k := 58) (by decide) (by decide) (by decide)]
  rfl
theorem s_e59 {E : z_E} : z_ce E (s_w 59) (z_sh 59) = .inl ((E.2.2 0), 240, .inl (fun _ => 0)) := s_ze0 (k := 59) rfl (s_c (by decide) (by decide) (by decide))
theorem s_e60 {E : z_E} : z_ce E (s_w 60) (z_sh 60) = .inl ((E.2.2 0), 64, .inl (fun _ => 0)) := s_ze0 (k := 60) rfl (s_c (by decide) (by decide) (by decide))
theorem s_e61 {E : z_E} : z_ce E (s_w 61) (z_sh 61) = .inr (4, [.ref (E.2.1 62), .ref (E.2.1 63), .int 0, .int 0]) := by
  have hs : z_sh 61 = .inl (4, [64, 65, 0, 0]) := rfl
  rw [hs, s_c (k := 61) (by decide) (by decide) (by decide)]
  rfl
theorem s_e62 {E : z_E} : z_ce E (s_w 62) (z_sh 62) = .inl ((E.2.2 0), 240, .inl (fun _ => 0)) := s_ze0 (k := 62) rfl (s_c (by decide) (by decide) (by decide))
theorem s_e63 {E : z_E} : z_ce E (s_w 63) (z_sh 63) = .inl ((E.2.2 0), 64, .inl (fun _ => 0)) := s_ze0 (k := 63) rfl (s_c (by decide) (by decide) (by decide))
theorem s_e64 {E : z_E} : z_ce E (s_w 64) (z_sh 64) = .inr (4, [.ref (E.2.1 65), .ref (E.2.1 66), .int 0, .int 0]) := by
  have hs : z_sh 64 = .inl (4, [67, 68, 0, 0]) := rfl
  rw [hs, s_c (k := 64) (by decide) (by decide) (by decide)]
  rfl
theorem s_e65 {E : z_E} : z_ce E (s_w 65) (z_sh 65) = .inl ((E.2.2 0), 240, .inl (fun _ => 0)) := s_ze0 (k := 65) rfl (s_c (by decide) (by decide) (by decide))
theorem s_e66 {E : z_E} : z_ce E (s_w 66) (z_sh 66) = .inl ((E.2.2 0), 64, .inl (fun _ => 0)) := s_ze0 (k := 66) rfl (s_c (by decide) (by decide) (by decide))
theorem s_e67 {E : z_E} : z_ce E (s_w 67) (z_sh 67) = .inr (4, [.ref (E.2.1 68), .ref (E.2.1 69), .int 0, .int 0]) := by
  have hs : z_sh 67 = .inl (4, [70, 71, 0, 0]) := rfl
  rw [hs, s_c (k := 67) (by decide) (by decide) (by decide)]
  rfl
theorem s_e68 {E : z_E} : z_ce E (s_w 68) (z_sh 68) = .inl ((E.2.2 0), 240, .inl (fun _ => 0)) := s_ze0 (k := 68) rfl (s_c (by decide) (by decide) (by decide))
theorem s_e69 {E : z_E} : z_ce E (s_w 69) (z_sh 69) = .inl ((E.2.2 0), 64, .inl (fun _ => 0)) := s_ze0 (k := 69) rfl (s_c (by decide) (by decide) (by decide))
theorem s_e70 {E : z_E} : z_ce E (s_w 70) (z_sh 70) = .inr (9, [.ref (E.2.1 30), .ref (E.2.1 41), .ref (E.2.1 71), .int 0, .int 0]) := by
  have hs : z_sh 70 = .inl (9, [32, 43, 73, 0, 0]) := rfl
  rw [hs, s_c (k := 70) (by decide) (by decide) (by decide)]
  rfl
theorem s_e71 {E : z_E} : z_ce E (s_w 71) (z_sh 71) = .inl ((E.2.2 0), 4, .inl (fun _ => 0)) := s_ze0 (k := 71) rfl (s_c (by decide) (by decide) (by decide))
theorem s_e72 {E : z_E} : z_ce E (s_w 72) (z_sh 72) = .inr (0, [.ref (E.2.1 30), .ref (E.2.1 73), .ref (E.2.1 74), .ref (E.2.1 75), .int 0]) := by
  have hs : z_sh 72 = .inl (0, [32, 75, 76, 77, 0]) := rfl
  rw [hs, s_c (k := 72) (by decide) (by decide) (by decide)]
  rfl
theorem s_e73 {E : z_E} : z_ce E (s_w 73) (z_sh 73) = .inl ((E.2.2 0), 10, .inl (fun _ => 0)) := s_ze0 (k := 73) rfl (s_c (by decide) (by decide) (by decide))
theorem s_e74 {E : z_E} : z_ce E (s_w 74) (z_sh 74) = .inl ((E.2.2 0), 10, .inl (fun _ => 0)) := s_ze0 (k := 74) rfl (s_c (by decide) (by decide) (by decide))
theorem s_e75 {E : z_E} : z_ce E (s_w 75) (z_sh 75) = .inl ((E.2.2 0), 3, .inl (fun _ => 0)) := s_ze0 (k := 75) rfl (s_c (by decide) (by decide) (by decide))
theorem s_e76 {E : z_E} : z_ce E (s_w 76) (z_sh 76) = .inr (8, [.ref (E.2.1 30), .ref (E.2.1 41), .ref (E.2.1 77)]) := by
  have hs : z_sh 76 = .inl (8, [32, 43, 79]) := rfl
  rw [hs, s_c (k := 76) (by decide) (by decide) (by decide)]
  rfl
theorem s_e77 {E : z_E} : z_ce E (s_w 77) (z_sh 77) = .inl ((E.2.2 0), 10, .inl (fun _ => 0)) := s_ze0 (k := 77) rfl (s_c (by decide) (by decide) (by decide))
theorem s_e78 {E : z_E} : z_ce E (s_w 78) (z_sh 78) = .inl ((E.2.2 0), 5, .inl (fun _ => 0)) := s_ze0 (k := 78) rfl (s_c (by decide) (by decide) (by decide))
def s_Z (E : z_E) : va_W := [((E.2.1 0), .inr (12, [.int 0, .ref (E.2.1 1), .int 0, .int 0, .int 0, .int 0, .ref (E.2.1 2), .ref (E.2.1 3), .ref (E.2.1 4), .ref (E.2.1 5), .ref (E.2.1 6), .ref (E.2.1 7), .ref (E.2.1 8), .int 0, .int 0, .ref (E.2.1 9), .ref (E.2.1 10), .ref (E.2.1 11), .ref (E.2.1 12), .ref (E.2.1 13), .ref (E.2.1 14), .int 0, .int 0, .int 0, .ref (E.2.1 15), .ref (E.2.1 16), .ref (E.2.1 17), .ref (E.2.1 18), .int 0, .int 0, .int 0, .ref (E.2.1 19), .ref (E.2.1 20), .int (Int32.ofInt (-1)), .int (Int32.ofInt (3)), .ref (E.2.1 21), .int 0, .long 0, .ref (E.2.1 22), .int 0, .int 0, .ref (E.2.1 23), .ref (E.2.1 24), .int 0, .ref (E.2.1 25), .int 0])), ((E.2.1 1), .inl ((E.2.2 0), 240, .inl (fun _ => 0))), ((E.2.1 2), .inl ((E.2.2 0), 2600, .inl (fun _ => 0))), ((E.2.1 3), .inl ((E.2.2 0), 2600, .inl (fun _ => 0))), ((E.2.1 4), .inl ((E.2.2 0), 5, .inl (fun _ => 0))), ((E.2.1 5), .inl ((E.2.2 0), 5, .inl (fun _ => 0))), ((E.2.1 6), .inl ((E.2.2 0), 700, .inl (fun _ => 0))), ((E.2.1 7), .inl ((E.2.2 0), 700, .inl (fun _ => 0))), ((E.2.1 8), .inl ((E.2.2 0), 700, .inl (fun _ => 0))), ((E.2.1 9), .inl ((E.2.2 0), 6, .inl (fun _ => 0))), ((E.2.1 10), .inl ((E.2.2 0), 80, .inl (fun _ => 0))), ((E.2.1 11), .inl ((E.2.2 0), 2, .inl (fun _ => 0))), ((E.2.1 12), .inl ((E.2.2 0), 8, .inl (fun _ => 0))), ((E.2.1 13), .inl ((E.2.2 0), 21, .inl (fun _ => 0))), ((E.2.1 14), .inl ((E.2.2 0), 12, .inl (fun _ => 0))), ((E.2.1 15), .inl ((E.2.2 0), 2, .inl (fun _ => 0))), ((E.2.1 16), .inl ((E.2.2 0), 8, .inl (fun _ => 0))), ((E.2.1 17), .inl ((E.2.2 0), 21, .inl (fun _ => 0))), ((E.2.1 18), .inl ((E.2.2 0), 12, .inl (fun _ => 0))), ((E.2.1 19), .inl ((E.2.2 0), 160, .inl (fun _ => 0))), ((E.2.1 20), .inl ((E.2.2 0), 5, .inl (fun _ => 0))), ((E.2.1 21), .inl ((E.2.2 0), 6400, .inl (fun _ => 0))), ((E.2.1 22), .inl ((E.2.2 0), 351, .inl (fun _ => 0))), ((E.2.1 23), .inl ((E.2.2 0), 10, .inl (fun _ => 0))), ((E.2.1 24), .inl ((E.2.2 0), 10, .inl (fun _ => 0))), ((E.2.1 25), .inl ((E.2.2 0), 160, .inl (fun _ => 0))), ((E.2.1 26), .inl ((E.2.2 2), 1, .inr (.inl (fun _ => 0)))), ((E.2.1 27), .inr (11, [.ref (E.2.1 28), .ref (E.2.1 30), .ref (E.2.1 33), .ref (E.2.1 37), .ref (E.2.1 41), .ref (E.2.1 47), .ref (E.2.1 53), .ref (E.2.1 55), .ref (E.2.1 70), .ref (E.2.1 72), .ref (E.2.1 76), .ref (E.2.1 78), .int (Int32.ofInt (3)), .int 0, .long 0])), ((E.2.1 28), .inr (10, [.ref (E.2.1 29), .int 0])), ((E.2.1 29), .inl ((E.2.2 0), 240, .inl (fun _ => 0))), ((E.2.1 30), .inr (6, [.ref (E.2.1 31), .ref (E.2.1 32)])), ((E.2.1 31), .inl ((E.2.2 0), 54, .inl (fun _ => 0))), ((E.2.1 32), .inl ((E.2.2 0), 4, .inl (fun _ => 0))), ((E.2.1 33), .inr (7, [.ref (E.2.1 28), .ref (E.2.1 34), .int 0])), ((E.2.1 34), .inr (6, [.ref (E.2.1 35), .ref (E.2.1 36)])), ((E.2.1 35), .inl ((E.2.2 0), 54, .inl (fun _ => 0))), ((E.2.1 36), .inl ((E.2.2 0), 4, .inl (fun _ => 0))), ((E.2.1 37), .inr (5, [.ref (E.2.1 28), .ref (E.2.1 38), .int 0])), ((E.2.1 38), .inr (4, [.ref (E.2.1 39), .ref (E.2.1 40), .int 0, .int 0])), ((E.2.1 39), .inl ((E.2.2 0), 240, .inl (fun _ => 0))), ((E.2.1 40), .inl ((E.2.2 0), 64, .inl (fun _ => 0))), ((E.2.1 41), .inr (3, [.ref (E.2.1 30), .ref (E.2.1 42), .ref (E.2.1 43), .ref (E.2.1 44), .ref (E.2.1 45), .ref (E.2.1 46), .int 0, .int 0, .int 0])), ((E.2.1 42), .inl ((E.2.2 0), 7, .inl (fun _ => 0))), ((E.2.1 43), .inl ((E.2.2 0), 7, .inl (fun _ => 0))), ((E.2.1 44), .inl ((E.2.2 0), 4, .inl (fun _ => 0))), ((E.2.1 45), .inl ((E.2.2 0), 100, .inl (fun _ => 0))), ((E.2.1 46), .inl ((E.2.2 0), 100, .inl (fun _ => 0))), ((E.2.1 47), .inr (3, [.ref (E.2.1 30), .ref (E.2.1 48), .ref (E.2.1 49), .ref (E.2.1 50), .ref (E.2.1 51), .ref (E.2.1 52), .int 0, .int 0, .int 0])), ((E.2.1 48), .inl ((E.2.2 0), 7, .inl (fun _ => 0))), ((E.2.1 49), .inl ((E.2.2 0), 7, .inl (fun _ => 0))), ((E.2.1 50), .inl ((E.2.2 0), 4, .inl (fun _ => 0))), ((E.2.1 51), .inl ((E.2.2 0), 100, .inl (fun _ => 0))), ((E.2.1 52), .inl ((E.2.2 0), 100, .inl (fun _ => 0))), ((E.2.1 53), .inr (2, [.ref (E.2.1 54), .int 0, .int 0])), ((E.2.1 54), .inl ((E.2.2 0), 840, .inl (fun _ => 0))), ((E.2.1 55), .inr (1, [.ref (E.2.1 30), .ref (E.2.1 41), .ref (E.2.1 56), .ref (E.2.1 57), .int 0, .int (Int32.ofInt (-1))])), ((E.2.1 56), .inl ((E.2.2 1), 4, .inr (.inr (.inr (.inr (fun j => (([58, 61, 64, 67] : List Nat)[j]?).map E.2.1)))))), ((E.2.1 57), .inl ((E.2.2 0), 6, .inl (fun _ => 0))), ((E.2.1 58), .inr (4, [.ref (E.2.1 59), .ref (E.2.1 60), .int 0, .int 0])), ((E.2.1 59), .inl ((E.2.2 0), 240, .inl (fun _ => 0))), ((E.2.1 60), .inl ((E.2.2 0), 64, .inl (fun _ => 0))), ((E.2.1 61), .inr (4, [.ref (E.2.1 62), .ref (E.2.1 63), .int 0, .int 0])), ((E.2.1 62), .inl ((E.2.2 0), 240, .inl (fun _ => 0))), ((E.2.1 63), .inl ((E.2.2 0), 64, .inl (fun _ => 0))), ((E.2.1 64), .inr (4, [.ref (E.2.1 65), .ref (E.2.1 66), .int 0, .int 0])), ((E.2.1 65), .inl ((E.2.2 0), 240, .inl (fun _ => 0))), ((E.2.1 66), .inl ((E.2.2 0), 64, .inl (fun _ => 0))), ((E.2.1 67), .inr (4, [.ref (E.2.1 68), .ref (E.2.1 69), .int 0, .int 0])), ((E.2.1 68), .inl ((E.2.2 0), 240, .inl (fun _ => 0))), ((E.2.1 69), .inl ((E.2.2 0), 64, .inl (fun _ => 0))), ((E.2.1 70), .inr (9, [.ref (E.2.1 30), .ref (E.2.1 41), .ref (E.2.1 71), .int 0, .int 0])), ((E.2.1 71), .inl ((E.2.2 0), 4, .inl (fun _ => 0))), ((E.2.1 72), .inr (0, [.ref (E.2.1 30), .ref (E.2.1 73), .ref (E.2.1 74), .ref (E.2.1 75), .int 0])), ((E.2.1 73), .inl ((E.2.2 0), 10, .inl (fun _ => 0))), ((E.2.1 74), .inl ((E.2.2 0), 10, .inl (fun _ => 0))), ((E.2.1 75), .inl ((E.2.2 0), 3, .inl (fun _ => 0))), ((E.2.1 76), .inr (8, [.ref (E.2.1 30), .ref (E.2.1 41), .ref (E.2.1 77)])), ((E.2.1 77), .inl ((E.2.2 0), 10, .inl (fun _ => 0))), ((E.2.1 78), .inl ((E.2.2 0), 5, .inl (fun _ => 0)))]
theorem s_zc {E : z_E} : z_cw E s_w = s_Z E := by
  have hr : List.range z_N = [0, 1, 2, 3, 4, 5, 6, 7, 8, 9, 10, 11, 12, 13, 14, 15, 16, 17, 18, 19, 20, 21, 22, 23, 24, 25, 26, 27, 28, 29, 30, 31, 32, 33, 34, 35, 36, 37, 38, 39, 40, 41, 42, 43, 44, 45, 46, 47, 48, 49, 50, 51, 52, 53, 54, 55, 56, 57, 58, 59, 60, 61, 62, 63, 64, 65, 66, 67, 68, 69, 70, 71, 72, 73, 74, 75, 76, 77, 78] := by decide
  unfold z_cw s_Z
  rw [hr]
  simp only [List.map_cons, List.map_nil, s_e0, s_e1, s_e2, s_e3, s_e4, s_e5, s_e6, s_e7, s_e8, s_e9, s_e10, s_e11, s_e12, s_e13, s_e14, s_e15, s_e16, s_e17, s_e18, s_e19, s_e20, s_e21, s_e22, s_e23, s_e24, s_e25, s_e26, s_e27, s_e28, s_e29, s_e30, s_e31, s_e32, s_e33, s_e34, s_e35, s_e36, s_e37, s_e38, s_e39, s_e40, s_e41, s_e42, s_e43, s_e44, s_e45, s_e46, s_e47, s_e48, s_e49, s_e50, s_e51, s_e52, s_e53, s_e54, s_e55, s_e56, s_e57, s_e58, s_e59, s_e60, s_e61, s_e62, s_e63, s_e64, s_e65, s_e66, s_e67, s_e68, s_e69, s_e70, s_e71, s_e72, s_e73, s_e74, s_e75, s_e76, s_e77, s_e78]
def s_pl : List Nat := [52, 53, 54, 55, 56, 57, 58, 59, 60, 61, 62, 63, 64, 65, 66, 67, 68, 69, 70, 71, 72, 73, 74, 75, 76, 77, 78, 0, 1, 2, 3, 4, 5, 6, 7, 8, 9, 10, 11, 12, 13, 14, 15, 16, 17, 18, 19, 20, 21, 22, 23, 24, 25, 26, 27, 28, 29, 30, 31, 32, 33, 34, 35, 36, 37, 38, 39, 40, 41, 42, 43, 44, 45, 46, 47, 48, 49, 50, 51]
set_option maxRecDepth 4000 in
set_option maxHeartbeats 2000000 in
theorem s_PD {E : z_E} {A : Nat → Prop} {H : Heap} {o q0 q1 q2 q3 q4 q5 q6 q7 q8 q9 q10 q11 q12 q13 q14 q15 q16 q17 q18 q19 q20 q21 q22 q23 q24 q25 q26 q27 q28 q29 q30 q31 q32 q33 q34 q35 q36 q37 q38 q39 q40 q41 q42 q43 q44 q45 q46 q47 q48 q49 q50 q51 p0 p1 p2 p3 p4 p5 p6 p7 p8 p9 p10 p11 p12 p13 p14 p15 p16 p17 p18 p19 p20 p21 p22 p23 p24 p25 : Nat} (a0 : E.2.1 0 = p0) (a1 : E.2.1 1 = p1) (a2 : E.2.1 2 = p2) (a3 : E.2.1 3 = p3) (a4 : E.2.1 4 = p4) (a5 : E.2.1 5 = p5) (a6 : E.2.1 6 = p6) (a7 : E.2.1 7 = p7) (a8 : E.2.1 8 = p8) (a9 : E.2.1 9 = p9) (a10 : E.2.1 10 = p10) (a11 : E.2.1 11 = p11) (a12 : E.2.1 12 = p12) (a13 : E.2.1 13 = p13) (a14 : E.2.1 14 = p14) (a15 : E.2.1 15 = p15) (a16 : E.2.1 16 = p16) (a17 : E.2.1 17 = p17) (a18 : E.2.1 18 = p18) (a19 : E.2.1 19 = p19) (a20 : E.2.1 20 = p20) (a21 : E.2.1 21 = p21) (a22 : E.2.1 22 = p22) (a23 : E.2.1 23 = p23) (a24 : E.2.1 24 = p24) (a25 : E.2.1 25 = p25) (a26 : E.2.1 26 = o) (a27 : E.2.1 27 = q0) (a28 : E.2.1 28 = q1) (a29 : E.2.1 29 = q2) (a30 : E.2.1 30 = q3) (a31 : E.2.1 31 = q4) (a32 : E.2.1 32 = q5) (a33 : E.2.1 33 = q6) (a34 : E.2.1 34 = q7) (a35 : E.2.1 35 = q8) (a36 : E.2.1 36 = q9) (a37 : E.2.1 37 = q10) (a38 : E.2.1 38 = q11) (a39 : E.2.1 39 = q12) (a40 : E.2.1 40 = q13) (a41 : E.2.1 41 = q14) (a42 : E.2.1 42 = q15) (a43 : E.2.1 43 = q16) (a44 : E.2.1 44 = q17) (a45 : E.2.1 45 = q18) (a46 : E.2.1 46 = q19) (a47 : E.2.1 47 = q20) (a48 : E.2.1 48 = q21) (a49 : E.2.1 49 = q22) (a50 : E.2.1 50 = q23) (a51 : E.2.1 51 = q24) (a52 : E.2.1 52 = q25) (a53 : E.2.1 53 = q26) (a54 : E.2.1 54 = q27) (a55 : E.2.1 55 = q28) (a56 : E.2.1 56 = q29) (a57 : E.2.1 57 = q30) (a58 : E.2.1 58 = q31) (a59 : E.2.1 59 = q32) (a60 : E.2.1 60 = q33) (a61 : E.2.1 61 = q34) (a62 : E.2.1 62 = q35) (a63 : E.2.1 63 = q36) (a64 : E.2.1 64 = q37) (a65 : E.2.1 65 = q38) (a66 : E.2.1 66 = q39) (a67 : E.2.1 67 = q40) (a68 : E.2.1 68 = q41) (a69 : E.2.1 69 = q42) (a70 : E.2.1 70 = q43) (a71 : E.2.1 71 = q44) (a72 : E.2.1 72 = q45) (a73 : E.2.1 73 = q46) (a74 : E.2.1 74 = q47) (a75 : E.2.1 75 = q48) (a76 : E.2.1 76 = q49) (a77 : E.2.1 77 = q50) (a78 : E.2.1 78 = q51) (hP : va_P E.1 classes (([(q0, .inr (11, [.ref q1, .ref q3, .ref q6, .ref q10, .ref q14, .ref q20, .ref q26, .ref q28, .ref q43, .ref q45, .ref q49, .ref q51, .int (Int32.ofInt (3)), .int 0, .long 0])), (q1, .inr (10, [.ref q2, .int 0])), (q2, .inl ((E.2.2 0), 240, .inl (fun _ => 0))), (q3, .inr (6, [.ref q4, .ref q5])), (q4, .inl ((E.2.2 0), 54, .inl (fun _ => 0))), (q5, .inl ((E.2.2 0), 4, .inl (fun _ => 0))), (q6, .inr (7, [.ref q1, .ref q7, .int 0])), (q7, .inr (6, [.ref q8, .ref q9])), (q8, .inl ((E.2.2 0), 54, .inl (fun _ => 0))), (q9, .inl ((E.2.2 0), 4, .inl (fun _ => 0))), (q10, .inr (5, [.ref q1, .ref q11, .int 0])), (q11, .inr (4, [.ref q12, .ref q13, .int 0, .int 0])), (q12, .inl ((E.2.2 0), 240, .inl (fun _ => 0))), (q13, .inl ((E.2.2 0), 64, .inl (fun _ => 0))), (q14, .inr (3, [.ref q3, .ref q15, .ref q16, .ref q17, .ref q18, .ref q19, .int 0, .int 0, .int 0])), (q15, .inl ((E.2.2 0), 7, .inl (fun _ => 0))), (q16, .inl ((E.2.2 0), 7, .inl (fun _ => 0))), (q17, .inl ((E.2.2 0), 4, .inl (fun _ => 0))), (q18, .inl ((E.2.2 0), 100, .inl (fun _ => 0))), (q19, .inl ((E.2.2 0), 100, .inl (fun _ => 0))), (q20, .inr (3, [.ref q3, .ref q21, .ref q22, .ref q23, .ref q24, .ref q25, .int 0, .int 0, .int 0])), (q21, .inl ((E.2.2 0), 7, .inl (fun _ => 0))), (q22, .inl ((E.2.2 0), 7, .inl (fun _ => 0))), (q23, .inl ((E.2.2 0), 4, .inl (fun _ => 0))), (q24, .inl ((E.2.2 0), 100, .inl (fun _ => 0))), (q25, .inl ((E.2.2 0), 100, .inl (fun _ => 0))), (q26, .inr (2, [.ref q27, .int 0, .int 0])), (q27, .inl ((E.2.2 0), 840, .inl (fun _ => 0))), (q28, .inr (1, [.ref q3, .ref q14, .ref q29, .ref q30, .int 0, .int (Int32.ofInt (-1))])), (q29, .inl ((E.2.2 1), 4, .inr (.inr (.inr (.inr (va_up (va_up (va_up (va_up (fun _ => none) 0 (some q31)) 1 (some q34)) 2 (some q37)) 3 (some q40))))))), (q30, .inl ((E.2.2 0), 6, .inl (fun _ => 0))), (q31, .inr (4, [.ref q32, .ref q33, .int 0, .int 0])), (q32, .inl ((E.2.2 0), 240, .inl (fun _ => 0))), (q33, .inl ((E.2.2 0), 64, .inl (fun _ => 0))), (q34, .inr (4, [.ref q35, .ref q36, .int 0, .int 0])), (q35, .inl ((E.2.2 0), 240, .inl (fun _ => 0))), (q36, .inl ((E.2.2 0), 64, .inl (fun _ => 0))), (q37, .inr (4, [.ref q38, .ref q39, .int 0, .int 0])), (q38, .inl ((E.2.2 0), 240, .inl (fun _ => 0))), (q39, .inl ((E.2.2 0), 64, .inl (fun _ => 0))), (q40, .inr (4, [.ref q41, .ref q42, .int 0, .int 0])), (q41, .inl ((E.2.2 0), 240, .inl (fun _ => 0))), (q42, .inl ((E.2.2 0), 64, .inl (fun _ => 0))), (q43, .inr (9, [.ref q3, .ref q14, .ref q44, .int 0, .int 0])), (q44, .inl ((E.2.2 0), 4, .inl (fun _ => 0))), (q45, .inr (0, [.ref q3, .ref q46, .ref q47, .ref q48, .int 0])), (q46, .inl ((E.2.2 0), 10, .inl (fun _ => 0))), (q47, .inl ((E.2.2 0), 10, .inl (fun _ => 0))), (q48, .inl ((E.2.2 0), 3, .inl (fun _ => 0))), (q49, .inr (8, [.ref q3, .ref q14, .ref q50])), (q50, .inl ((E.2.2 0), 10, .inl (fun _ => 0))), (q51, .inl ((E.2.2 0), 5, .inl (fun _ => 0)))] ++ [(p0, .inr (12, [.int 0, .ref p1, .int 0, .int 0, .int 0, .int 0, .ref p2, .ref p3, .ref p4, .ref p5, .ref p6, .ref p7, .ref p8, .int 0, .int 0, .ref p9, .ref p10, .ref p11, .ref p12, .ref p13, .ref p14, .int 0, .int 0, .int 0, .ref p15, .ref p16, .ref p17, .ref p18, .int 0, .int 0, .int 0, .ref p19, .ref p20, .int (Int32.ofInt (-1)), .int (Int32.ofInt (3)), .ref p21, .int 0, .long 0, .ref p22, .int 0, .int 0, .ref p23, .ref p24, .int 0, .ref p25, .int 0])), (p1, .inl ((E.2.2 0), 240, .inl (fun _ => 0))), (p2, .inl ((E.2.2 0), 2600, .inl (fun _ => 0))), (p3, .inl ((E.2.2 0), 2600, .inl (fun _ => 0))), (p4, .inl ((E.2.2 0), 5, .inl (fun _ => 0))), (p5, .inl ((E.2.2 0), 5, .inl (fun _ => 0))), (p6, .inl ((E.2.2 0), 700, .inl (fun _ => 0))), (p7, .inl ((E.2.2 0), 700, .inl (fun _ => 0))), (p8, .inl ((E.2.2 0), 700, .inl (fun _ => 0))), (p9, .inl ((E.2.2 0), 6, .inl (fun _ => 0))), (p10, .inl ((E.2.2 0), 80, .inl (fun _ => 0))), (p11, .inl ((E.2.2 0), 2, .inl (fun _ => 0))), (p12, .inl ((E.2.2 0), 8, .inl (fun _ => 0))), (p13, .inl ((E.2.2 0), 21, .inl (fun _ => 0))), (p14, .inl ((E.2.2 0), 12, .inl (fun _ => 0))), (p15, .inl ((E.2.2 0), 2, .inl (fun _ => 0))), (p16, .inl ((E.2.2 0), 8, .inl (fun _ => 0))), (p17, .inl ((E.2.2 0), 21, .inl (fun _ => 0))), (p18, .inl ((E.2.2 0), 12, .inl (fun _ => 0))), (p19, .inl ((E.2.2 0), 160, .inl (fun _ => 0))), (p20, .inl ((E.2.2 0), 5, .inl (fun _ => 0))), (p21, .inl ((E.2.2 0), 6400, .inl (fun _ => 0))), (p22, .inl ((E.2.2 0), 351, .inl (fun _ => 0))), (p23, .inl ((E.2.2 0), 10, .inl (fun _ => 0))), (p24, .inl ((E.2.2 0), 10, .inl (fun _ => 0))), (p25, .inl ((E.2.2 0), 160, .inl (fun _ => 0)))]) ++ [(o, .inl (E.2.2 2, 1, .inr (.inl (fun _ => 0))))]) H) (hD : va_D A (([(q0, .inr (11, [.ref q1, .ref q3, .ref q6, .ref q10, .ref q14, .ref q20, .ref q26, .ref q28, .ref q43, .ref q45, .ref q49, .ref q51, .int (Int32.ofInt (3)), .int 0, .long 0])), (q1, .inr (10, [.ref q2, .int 0])), (q2, .inl ((E.2.2 0), 240, .inl (fun _ => 0))), (q3, .inr (6, [.ref q4, .ref q5])), (q4, .inl ((E.2.2 0), 54, .inl (fun _ => 0))), (q5, .inl ((E.2.2 0), 4, .inl (fun _ => 0))), (q6, .inr (7, [.ref q1, .ref q7, .int 0])), (q7, .inr (6, [.ref q8, .ref q9])), (q8, .inl ((E.2.2 0), 54, .inl (fun _ => 0))), (q9, .inl ((E.2.2 0), 4, .inl (fun _ => 0))), (q10, .inr (5, [.ref q1, .ref q11, .int 0])), (q11, .inr (4, [.ref q12, .ref q13, .int 0, .int 0])), (q12, .inl ((E.2.2 0), 240, .inl (fun _ => 0))), (q13, .inl ((E.2.2 0), 64, .inl (fun _ => 0))), (q14, .inr (3, [.ref q3, .ref q15, .ref q16, .ref q17, .ref q18, .ref q19, .int 0, .int 0, .int 0])), (q15, .inl ((E.2.2 0), 7, .inl (fun _ => 0))), (q16, .inl ((E.2.2 0), 7, .inl (fun _ => 0))), (q17, .inl ((E.2.2 0), 4, .inl (fun _ => 0))), (q18, .inl ((E.2.2 0), 100, .inl (fun _ => 0))), (q19, .inl ((E.2.2 0), 100, .inl (fun _ => 0))), (q20, .inr (3, [.ref q3, .ref q21, .ref q22, .ref q23, .ref q24, .ref q25, .int 0, .int 0, .int 0])), (q21, .inl ((E.2.2 0), 7, .inl (fun _ => 0))), (q22, .inl ((E.2.2 0), 7, .inl (fun _ => 0))), (q23, .inl ((E.2.2 0), 4, .inl (fun _ => 0))), (q24, .inl ((E.2.2 0), 100, .inl (fun _ => 0))), (q25, .inl ((E.2.2 0), 100, .inl (fun _ => 0))), (q26, .inr (2, [.ref q27, .int 0, .int 0])), (q27, .inl ((E.2.2 0), 840, .inl (fun _ => 0))), (q28, .inr (1, [.ref q3, .ref q14, .ref q29, .ref q30, .int 0, .int (Int32.ofInt (-1))])), (q29, .inl ((E.2.2 1), 4, .inr (.inr (.inr (.inr (va_up (va_up (va_up (va_up (fun _ => none) 0 (some q31)) 1 (some q34)) 2 (some q37)) 3 (some q40))))))), (q30, .inl ((E.2.2 0), 6, .inl (fun _ => 0))), (q31, .inr (4, [.ref q32, .ref q33, .int 0, .int 0])), (q32, .inl ((E.2.2 0), 240, .inl (fun _ => 0))), (q33, .inl ((E.2.2 0), 64, .inl (fun _ => 0))), (q34, .inr (4, [.ref q35, .ref q36, .int 0, .int 0])), (q35, .inl ((E.2.2 0), 240, .inl (fun _ => 0))), (q36, .inl ((E.2.2 0), 64, .inl (fun _ => 0))), (q37, .inr (4, [.ref q38, .ref q39, .int 0, .int 0])), (q38, .inl ((E.2.2 0), 240, .inl (fun _ => 0))), (q39, .inl ((E.2.2 0), 64, .inl (fun _ => 0))), (q40, .inr (4, [.ref q41, .ref q42, .int 0, .int 0])), (q41, .inl ((E.2.2 0), 240, .inl (fun _ => 0))), (q42, .inl ((E.2.2 0), 64, .inl (fun _ => 0))), (q43, .inr (9, [.ref q3, .ref q14, .ref q44, .int 0, .int 0])), (q44, .inl ((E.2.2 0), 4, .inl (fun _ => 0))), (q45, .inr (0, [.ref q3, .ref q46, .ref q47, .ref q48, .int 0])), (q46, .inl ((E.2.2 0), 10, .inl (fun _ => 0))), (q47, .inl ((E.2.2 0), 10, .inl (fun _ => 0))), (q48, .inl ((E.2.2 0), 3, .inl (fun _ => 0))), (q49, .inr (8, [.ref q3, .ref q14, .ref q50])), (q50, .inl ((E.2.2 0), 10, .inl (fun _ => 0))), (q51, .inl ((E.2.2 0), 5, .inl (fun _ => 0)))] ++ [(p0, .inr (12, [.int 0, .ref p1, .int 0, .int 0, .int 0, .int 0, .ref p2, .ref p3, .ref p4, .ref p5, .ref p6, .ref p7, .ref p8, .int 0, .int 0, .ref p9, .ref p10, .ref p11, .ref p12, .ref p13, .ref p14, .int 0, .int 0, .int 0, .ref p15, .ref p16, .ref p17, .ref p18, .int 0, .int 0, .int 0, .ref p19, .ref p20, .int (Int32.ofInt (-1)), .int (Int32.ofInt (3)), .ref p21, .int 0, .long 0, .ref p22, .int 0, .int 0, .ref p23, .ref p24, .int 0, .ref p25, .int 0])), (p1, .inl ((E.2.2 0), 240, .inl (fun _ => 0))), (p2, .inl ((E.2.2 0), 2600, .inl (fun _ => 0))), (p3, .inl ((E.2.2 0), 2600, .inl (fun _ => 0))), (p4, .inl ((E.2.2 0), 5, .inl (fun _ => 0))), (p5, .inl ((E.2.2 0), 5, .inl (fun _ => 0))), (p6, .inl ((E.2.2 0), 700, .inl (fun _ => 0))), (p7, .inl ((E.2.2 0), 700, .inl (fun _ => 0))), (p8, .inl ((E.2.2 0), 700, .inl (fun _ => 0))), (p9, .inl ((E.2.2 0), 6, .inl (fun _ => 0))), (p10, .inl ((E.2.2 0), 80, .inl (fun _ => 0))), (p11, .inl ((E.2.2 0), 2, .inl (fun _ => 0))), (p12, .inl ((E.2.2 0), 8, .inl (fun _ => 0))), (p13, .inl ((E.2.2 0), 21, .inl (fun _ => 0))), (p14, .inl ((E.2.2 0), 12, .inl (fun _ => 0))), (p15, .inl ((E.2.2 0), 2, .inl (fun _ => 0))), (p16, .inl ((E.2.2 0), 8, .inl (fun _ => 0))), (p17, .inl ((E.2.2 0), 21, .inl (fun _ => 0))), (p18, .inl ((E.2.2 0), 12, .inl (fun _ => 0))), (p19, .inl ((E.2.2 0), 160, .inl (fun _ => 0))), (p20, .inl ((E.2.2 0), 5, .inl (fun _ => 0))), (p21, .inl ((E.2.2 0), 6400, .inl (fun _ => 0))), (p22, .inl ((E.2.2 0), 351, .inl (fun _ => 0))), (p23, .inl ((E.2.2 0), 10, .inl (fun _ => 0))), (p24, .inl ((E.2.2 0), 10, .inl (fun _ => 0))), (p25, .inl ((E.2.2 0), 160, .inl (fun _ => 0)))]) ++ [(o, .inl (E.2.2 2, 1, .inr (.inl (fun _ => 0))))])) : va_P E.1 classes (z_cw E s_w) H ∧ va_D A (z_cw E s_w) := by
  rw [s_up a58 a61 a64 a67] at hP hD
  subst a0 a1 a2 a3 a4 a5 a6 a7 a8 a9 a10 a11 a12 a13 a14 a15 a16 a17 a18 a19 a20 a21 a22 a23 a24 a25 a26 a27 a28 a29 a30 a31 a32 a33 a34 a35 a36 a37 a38 a39 a40 a41 a42 a43 a44 a45 a46 a47 a48 a49 a50 a51 a52 a53 a54 a55 a56 a57 a58 a59 a60 a61 a62 a63 a64 a65 a66 a67 a68 a69 a70 a71 a72 a73 a74 a75 a76 a77 a78
  rw [s_zc]
  exact ⟨hP.sub s_pl rfl, hD.sub s_pl (by decide) rfl⟩
