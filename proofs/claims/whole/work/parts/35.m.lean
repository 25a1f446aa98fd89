def K_M_clause_251 (w : z_Wd) (l1 : Int) : z_Wd := z_up (z_up w 8 l1.toNat (w 4 ((w 0 14).toNat))) 5 ((w 0 14).toNat) ((w 5 ((w 0 14).toNat)) + 1)
def PK_M_clause_251 (w : z_Wd) (l1 : Int) : Prop := (0 ≤ w 0 14 ∧ w 0 14 < 5) ∧ (0 ≤ l1 ∧ l1 < 700)
set_option maxHeartbeats 2000000 in
set_option maxRecDepth 4000 in
theorem ck_M_clause_251 {d : Nat} {w : z_Wd} {l1 : Int} {Q : Option z_V → z_Wd → Prop} (h : PK_M_clause_251 w l1) (k : Q none (K_M_clause_251 w l1)) : z_Wp m_X12_clause (d + 64) 251 [(0, zR 0), (1, zI l1)] [] w Q := by
  unfold PK_M_clause_251 at h
  unfold K_M_clause_251 at k
  refine z_aload_n (pc' := 252) 0 rfl rfl dX12_clause_251 rfl ?_
  refine z_getR (t := 8) (pc' := 255) g_X12_31 (by decide) rfl rfl dX12_clause_252 rfl ?_
  refine z_iload_n (pc' := 256) 1 rfl rfl dX12_clause_255 rfl ?_
  refine z_aload_n (pc' := 257) 0 rfl rfl dX12_clause_256 rfl ?_
  refine z_getR (t := 4) (pc' := 260) g_X12_19 (by decide) rfl rfl dX12_clause_257 rfl ?_
  refine z_aload_n (pc' := 261) 0 rfl rfl dX12_clause_260 rfl ?_
  refine z_getI2 (v := w 0 14) (pc' := 264) g_X12_112 (by decide) rfl rfl rfl dX12_clause_261 rfl ?_
  obtain ⟨r1, h⟩ := h
  refine z_iald2 (v := w 4 ((w 0 14).toNat)) (pc' := 265) (by decide) rfl r1 (by decide) rfl dX12_clause_264 rfl ?_
  have r2 := h
  refine z_iast2 (w' := z_up w 8 l1.toNat (w 4 ((w 0 14).toNat))) (pc' := 266) (by decide) rfl r2 (by decide) rfl dX12_clause_265 rfl ?_
  refine z_aload_n (pc' := 267) 0 rfl rfl dX12_clause_266 rfl ?_
  refine z_getR (t := 5) (pc' := 270) g_X12_22 (by decide) rfl rfl dX12_clause_267 rfl ?_
  refine z_aload_n (pc' := 271) 0 rfl rfl dX12_clause_270 rfl ?_
  refine z_getI2 (v := w 0 14) (pc' := 274) g_X12_112 (by decide) rfl rfl rfl dX12_clause_271 rfl ?_
  refine z_dup2 (pc' := 275) rfl rfl dX12_clause_274 rfl ?_
  refine z_iald2 (v := w 5 ((w 0 14).toNat)) (pc' := 276) (by decide) rfl r1 (by decide) rfl dX12_clause_275 rfl ?_
  refine z_iconst (pc' := 277) dX12_clause_276 rfl ?_
  refine z_iadd (pc' := 278) dX12_clause_277 rfl ?_
  refine z_iast2 (w' := z_up (z_up w 8 l1.toNat (w 4 ((w 0 14).toNat))) 5 ((w 0 14).toNat) ((w 5 ((w 0 14).toNat)) + 1)) (pc' := 279) (by decide) rfl r1 (by decide) rfl dX12_clause_278 rfl ?_
  refine z_vret rfl dX12_clause_279 ?_
  try dsimp only at k
  exact k
def K_M_clause_184 (w : z_Wd) (l1 : Int) (l2 : Int) : z_Wd := if l2 = 0 then K_M_clause_251 (z_up w 7 l1.toNat (w 6 l1.toNat)) l1 else if w 0 4 = (-1) then if (F_M_look (z_up w 7 l1.toNat (w 6 l1.toNat))).1 = 63 then K_M_clause_251 (F_M_sum (z_up (z_up ((F_M_look (z_up w 7 l1.toNat (w 6 l1.toNat))).2) 0 3 ((((F_M_look (z_up w 7 l1.toNat (w 6 l1.toNat))).2) 0 3) + 1)) 7 l1.toNat (((F_M_look (z_up w 7 l1.toNat (w 6 l1.toNat))).2) 4 ((((F_M_look (z_up w 7 l1.toNat (w 6 l1.toNat))).2) 0 14).toNat)))) l1 else F_M_bad ((F_M_look (z_up w 7 l1.toNat (w 6 l1.toNat))).2) else K_M_clause_251 (z_up w 7 l1.toNat (w 6 l1.toNat)) l1
def PK_M_clause_184 (w : z_Wd) (l1 : Int) (l2 : Int) : Prop := (0 ≤ l1 ∧ l1 < 700) ∧ (-2147483648 ≤ l2 ∧ l2 < 2147483648) ∧ ((l2 = 0 → PK_M_clause_251 (z_up w 7 l1.toNat (w 6 l1.toNat)) l1) ∧ (¬ (l2 = 0) → (-2147483648 ≤ w 0 4 ∧ w 0 4 < 2147483648) ∧ ((w 0 4 = (-1) → (P_M_look (z_up w 7 l1.toNat (w 6 l1.toNat))) ∧ (-2147483648 ≤ (F_M_look (z_up w 7 l1.toNat (w 6 l1.toNat))).1 ∧ (F_M_look (z_up w 7 l1.toNat (w 6 l1.toNat))).1 < 2147483648) ∧ (((F_M_look (z_up w 7 l1.toNat (w 6 l1.toNat))).1 = 63 → (0 ≤ ((F_M_look (z_up w 7 l1.toNat (w 6 l1.toNat))).2) 0 14 ∧ ((F_M_look (z_up w 7 l1.toNat (w 6 l1.toNat))).2) 0 14 < 5) ∧ (P_M_sum (z_up (z_up ((F_M_look (z_up w 7 l1.toNat (w 6 l1.toNat))).2) 0 3 ((((F_M_look (z_up w 7 l1.toNat (w 6 l1.toNat))).2) 0 3) + 1)) 7 l1.toNat (((F_M_look (z_up w 7 l1.toNat (w 6 l1.toNat))).2) 4 ((((F_M_look (z_up w 7 l1.toNat (w 6 l1.toNat))).2) 0 14).toNat)))) ∧ (PK_M_clause_251 (F_M_sum (z_up (z_up ((F_M_look (z_up w 7 l1.toNat (w 6 l1.toNat))).2) 0 3 ((((F_M_look (z_up w 7 l1.toNat (w 6 l1.toNat))).2) 0 3) + 1)) 7 l1.toNat (((F_M_look (z_up w 7 l1.toNat (w 6 l1.toNat))).2) 4 ((((F_M_look (z_up w 7 l1.toNat (w 6 l1.toNat))).2) 0 14).toNat)))) l1)) ∧ (¬ ((F_M_look (z_up w 7 l1.toNat (w 6 l1.toNat))).1 = 63) → P_M_bad ((F_M_look (z_up w 7 l1.toNat (w 6 l1.toNat))).2)))) ∧ (¬ (w 0 4 = (-1)) → PK_M_clause_251 (z_up w 7 l1.toNat (w 6 l1.toNat)) l1))))
set_option maxHeartbeats 2000000 in
set_option maxRecDepth 4000 in
theorem ck_M_clause_184 {d : Nat} {w : z_Wd} {l1 l2 : Int} {Q : Option z_V → z_Wd → Prop} (h : PK_M_clause_184 w l1 l2) (k : Q none (K_M_clause_184 w l1 l2)) : z_Wp m_X12_clause (d + 64) 184 [(0, zR 0), (1, zI l1), (2, zI l2)] [] w Q := by
  unfold PK_M_clause_184 at h
  unfold K_M_clause_184 at k
  refine z_aload_n (pc' := 185) 0 rfl rfl dX12_clause_184 rfl ?_
  refine z_getR (t := 7) (pc' := 188) g_X12_28 (by decide) rfl rfl dX12_clause_185 rfl ?_
  refine z_iload_n (pc' := 189) 1 rfl rfl dX12_clause_188 rfl ?_
  refine z_aload_n (pc' := 190) 0 rfl rfl dX12_clause_189 rfl ?_
  refine z_getR (t := 6) (pc' := 193) g_X12_25 (by decide) rfl rfl dX12_clause_190 rfl ?_
  refine z_iload_n (pc' := 194) 1 rfl rfl dX12_clause_193 rfl ?_
  obtain ⟨r1, h⟩ := h
  refine z_iald2 (v := w 6 l1.toNat) (pc' := 195) (by decide) rfl r1 (by decide) rfl dX12_clause_194 rfl ?_
  refine z_iast2 (w' := z_up w 7 l1.toNat (w 6 l1.toNat)) (pc' := 196) (by decide) rfl r1 (by decide) rfl dX12_clause_195 rfl ?_
  refine z_iload_n (pc' := 197) 2 rfl rfl dX12_clause_196 rfl ?_
  obtain ⟨r2, h⟩ := h
  refine z_if_eq 251 dX12_clause_197 (by decide) (pc' := 200) rfl r2 (fun c => ?_) (fun c => ?_)
  · have h := h.1 c
    rw [if_pos c] at k
    exact z_Wp.sub (ls' := [(0, zR 0), (1, zI l1)]) (ck_M_clause_251 h k) (z_sub_of [0, 1] rfl)
  · have h := h.2 c
    rw [if_neg c] at k
    refine z_aload_n (pc' := 201) 0 rfl rfl dX12_clause_200 rfl ?_
    refine z_getI2 (v := w 0 4) (pc' := 204) g_X12_109 (by decide) rfl rfl rfl dX12_clause_201 rfl ?_
    refine z_iconst (pc' := 205) dX12_clause_204 rfl ?_
    obtain ⟨r3, h⟩ := h
    refine z_icmp_ne 251 dX12_clause_205 (by decide) (pc' := 208) rfl r3 (by decide) (fun c => ?_) (fun c => ?_)
    · have h := h.2 c
      rw [if_neg c] at k
      exact z_Wp.sub (ls' := [(0, zR 0), (1, zI l1)]) (ck_M_clause_251 h k) (z_sub_of [0, 1] rfl)
    · have h := h.1 c
      rw [if_pos c] at k
      refine z_aload_n (pc' := 209) 0 rfl rfl dX12_clause_208 rfl ?_
      refine z_invV (as := []) (st := []) (C := m_X12_look) (fs := [0, 3, 0, 0, 0, 0, 4, 5, 6, 7, 8, 9, 10, 0, 0, 11, 12, 13, 14, 15, 16, 0, 0, 0, 17, 18, 19, 20, 0, 0, 0, 21, 22, 0, 0, 23, 0, 1, 24, 0, 0, 25, 26, 0, 27, 0]) (pc' := 212) dX12_clause_209 rfl t_6_218 k_X12_look rfl (by decide) rfl rfl rfl rfl (Nat.le_of_ble_eq_true rfl) ?_
      obtain ⟨r4, h⟩ := h
      refine c_M_look r4 ?_
      show z_Wp m_X12_clause _ 212 [(0, zR 0), (1, zI l1), (2, zI l2)] [zI ((F_M_look (z_up w 7 l1.toNat (w 6 l1.toNat))).1)] ((F_M_look (z_up w 7 l1.toNat (w 6 l1.toNat))).2) _
      refine z_bipush (pc' := 214) (by decide) dX12_clause_212 rfl ?_
      obtain ⟨r5, h⟩ := h
      refine z_icmp_eq 222 dX12_clause_214 (by decide) (pc' := 217) rfl r5 (by decide) (fun c => ?_) (fun c => ?_)
      · have h := h.1 c
        rw [if_pos c] at k
        refine z_aload_n (pc' := 223) 0 rfl rfl dX12_clause_222 rfl ?_
        refine z_dup (pc' := 224) rfl dX12_clause_223 rfl ?_
        refine z_getI2 (v := ((F_M_look (z_up w 7 l1.toNat (w 6 l1.toNat))).2) 0 3) (pc' := 227) g_X12_102 (by decide) rfl rfl rfl dX12_clause_224 rfl ?_
        refine z_iconst (pc' := 228) dX12_clause_227 rfl ?_
        refine z_iadd (pc' := 229) dX12_clause_228 rfl ?_
        refine z_putI (pc' := 232) p_X12_102 (by decide) rfl rfl rfl rfl dX12_clause_229 rfl ?_
        refine z_aload_n (pc' := 233) 0 rfl rfl dX12_clause_232 rfl ?_
        refine z_getR (t := 7) (pc' := 236) g_X12_28 (by decide) rfl rfl dX12_clause_233 rfl ?_
        refine z_iload_n (pc' := 237) 1 rfl rfl dX12_clause_236 rfl ?_
        refine z_aload_n (pc' := 238) 0 rfl rfl dX12_clause_237 rfl ?_
        refine z_getR (t := 4) (pc' := 241) g_X12_19 (by decide) rfl rfl dX12_clause_238 rfl ?_
        refine z_aload_n (pc' := 242) 0 rfl rfl dX12_clause_241 rfl ?_
        refine z_getI2 (v := ((F_M_look (z_up w 7 l1.toNat (w 6 l1.toNat))).2) 0 14) (pc' := 245) g_X12_112 (by decide) rfl rfl rfl dX12_clause_242 rfl ?_
        obtain ⟨r6, h⟩ := h
        refine z_iald2 (v := ((F_M_look (z_up w 7 l1.toNat (w 6 l1.toNat))).2) 4 ((((F_M_look (z_up w 7 l1.toNat (w 6 l1.toNat))).2) 0 14).toNat)) (pc' := 246) (by decide) rfl r6 (by decide) rfl dX12_clause_245 rfl ?_
        refine z_iast2 (w' := z_up (z_up ((F_M_look (z_up w 7 l1.toNat (w 6 l1.toNat))).2) 0 3 ((((F_M_look (z_up w 7 l1.toNat (w 6 l1.toNat))).2) 0 3) + 1)) 7 l1.toNat (((F_M_look (z_up w 7 l1.toNat (w 6 l1.toNat))).2) 4 ((((F_M_look (z_up w 7 l1.toNat (w 6 l1.toNat))).2) 0 14).toNat))) (pc' := 247) (by decide) rfl r1 (by decide) rfl dX12_clause_246 rfl ?_
        refine z_aload_n (pc' := 248) 0 rfl rfl dX12_clause_247 rfl ?_
        refine z_invV (as := []) (st := []) (C := m_X12_sum) (fs := [0, 3, 0, 0, 0, 0, 4, 5, 6, 7, 8, 9, 10, 0, 0, 11, 12, 13, 14, 15, 16, 0, 0, 0, 17, 18, 19, 20, 0, 0, 0, 21, 22, 0, 0, 23, 0, 1, 24, 0, 0, 25, 26, 0, 27, 0]) (pc' := 251) dX12_clause_248 rfl t_7_56 k_X12_sum rfl (by decide) rfl rfl rfl rfl (Nat.le_of_ble_eq_true rfl) ?_
        obtain ⟨r7, h⟩ := h
        refine c_M_sum r7 ?_
        show z_Wp m_X12_clause _ 251 [(0, zR 0), (1, zI l1), (2, zI l2)] [] (F_M_sum (z_up (z_up ((F_M_look (z_up w 7 l1.toNat (w 6 l1.toNat))).2) 0 3 ((((F_M_look (z_up w 7 l1.toNat (w 6 l1.toNat))).2) 0 3) + 1)) 7 l1.toNat (((F_M_look (z_up w 7 l1.toNat (w 6 l1.toNat))).2) 4 ((((F_M_look (z_up w 7 l1.toNat (w 6 l1.toNat))).2) 0 14).toNat)))) _
        exact z_Wp.sub (ls' := [(0, zR 0), (1, zI l1)]) (ck_M_clause_251 h k) (z_sub_of [0, 1] rfl)
      · have h := h.2 c
        rw [if_neg c] at k
        refine z_aload_n (pc' := 218) 0 rfl rfl dX12_clause_217 rfl ?_
        refine z_invV (as := []) (st := []) (C := m_X12_bad) (fs := [0, 3, 0, 0, 0, 0, 4, 5, 6, 7, 8, 9, 10, 0, 0, 11, 12, 13, 14, 15, 16, 0, 0, 0, 17, 18, 19, 20, 0, 0, 0, 21, 22, 0, 0, 23, 0, 1, 24, 0, 0, 25, 26, 0, 27, 0]) (pc' := 221) dX12_clause_218 rfl t_7_13 k_X12_bad rfl (by decide) rfl rfl rfl rfl (Nat.le_of_ble_eq_true rfl) ?_
        have r8 := h
        refine c_M_bad r8 ?_
        show z_Wp m_X12_clause _ 221 [(0, zR 0), (1, zI l1), (2, zI l2)] [] (F_M_bad ((F_M_look (z_up w 7 l1.toNat (w 6 l1.toNat))).2)) _
        refine z_vret rfl dX12_clause_221 ?_
        try dsimp only at k
        exact k
def K_M_clause_168 (w : z_Wd) (l1 : Int) (l2 : Int) : z_Wd := if l2 = 0 then K_M_clause_184 w l1 l2 else K_M_clause_184 (F_M_goOnOr (F_M_goOnAnd (F_M_compare w))) l1 l2
def PK_M_clause_168 (w : z_Wd) (l1 : Int) (l2 : Int) : Prop := (-2147483648 ≤ l2 ∧ l2 < 2147483648) ∧ ((l2 = 0 → PK_M_clause_184 w l1 l2) ∧ (¬ (l2 = 0) → (P_M_compare w) ∧ (P_M_goOnAnd (F_M_compare w)) ∧ (P_M_goOnOr (F_M_goOnAnd (F_M_compare w))) ∧ (PK_M_clause_184 (F_M_goOnOr (F_M_goOnAnd (F_M_compare w))) l1 l2)))
set_option maxHeartbeats 2000000 in
set_option maxRecDepth 4000 in
theorem ck_M_clause_168 {d : Nat} {w : z_Wd} {l1 l2 : Int} {Q : Option z_V → z_Wd → Prop} (h : PK_M_clause_168 w l1 l2) (k : Q none (K_M_clause_168 w l1 l2)) : z_Wp m_X12_clause (d + 64) 168 [(0, zR 0), (1, zI l1), (2, zI l2)] [] w Q := by
  unfold PK_M_clause_168 at h
  unfold K_M_clause_168 at k
  refine z_iload_n (pc' := 169) 2 rfl rfl dX12_clause_168 rfl ?_
  obtain ⟨r1, h⟩ := h
  refine z_if_eq 184 dX12_clause_169 (by decide) (pc' := 172) rfl r1 (fun c => ?_) (fun c => ?_)
  · have h := h.1 c
    rw [if_pos c] at k
    exact ck_M_clause_184 h k
  · have h := h.2 c
    rw [if_neg c] at k
    refine z_aload_n (pc' := 173) 0 rfl rfl dX12_clause_172 rfl ?_
    refine z_invV (as := []) (st := []) (C := m_X12_compare) (fs := [0, 3, 0, 0, 0, 0, 4, 5, 6, 7, 8, 9, 10, 0, 0, 11, 12, 13, 14, 15, 16, 0, 0, 0, 17, 18, 19, 20, 0, 0, 0, 21, 22, 0, 0, 23, 0, 1, 24, 0, 0, 25, 26, 0, 27, 0]) (pc' := 176) dX12_clause_173 rfl t_7_75 k_X12_compare rfl (by decide) rfl rfl rfl rfl (Nat.le_of_ble_eq_true rfl) ?_
    obtain ⟨r2, h⟩ := h
    refine c_M_compare r2 ?_
    show z_Wp m_X12_clause _ 176 [(0, zR 0), (1, zI l1), (2, zI l2)] [] (F_M_compare w) _
    refine z_aload_n (pc' := 177) 0 rfl rfl dX12_clause_176 rfl ?_
    refine z_invV (as := []) (st := []) (C := m_X12_goOnAnd) (fs := [0, 3, 0, 0, 0, 0, 4, 5, 6, 7, 8, 9, 10, 0, 0, 11, 12, 13, 14, 15, 16, 0, 0, 0, 17, 18, 19, 20, 0, 0, 0, 21, 22, 0, 0, 23, 0, 1, 24, 0, 0, 25, 26, 0, 27, 0]) (pc' := 180) dX12_clause_177 rfl t_7_82 k_X12_goOnAnd rfl (by decide) rfl rfl rfl rfl (Nat.le_of_ble_eq_true rfl) ?_
    obtain ⟨r3, h⟩ := h
    refine c_M_goOnAnd r3 ?_
    show z_Wp m_X12_clause _ 180 [(0, zR 0), (1, zI l1), (2, zI l2)] [] (F_M_goOnAnd (F_M_compare w)) _
    refine z_aload_n (pc' := 181) 0 rfl rfl dX12_clause_180 rfl ?_
    refine z_invV (as := []) (st := []) (C := m_X12_goOnOr) (fs := [0, 3, 0, 0, 0, 0, 4, 5, 6, 7, 8, 9, 10, 0, 0, 11, 12, 13, 14, 15, 16, 0, 0, 0, 17, 18, 19, 20, 0, 0, 0, 21, 22, 0, 0, 23, 0, 1, 24, 0, 0, 25, 26, 0, 27, 0]) (pc' := 184) dX12_clause_181 rfl t_7_86 k_X12_goOnOr rfl (by decide) rfl rfl rfl rfl (Nat.le_of_ble_eq_true rfl) ?_
    obtain ⟨r4, h⟩ := h
    refine c_M_goOnOr r4 ?_
    show z_Wp m_X12_clause _ 184 [(0, zR 0), (1, zI l1), (2, zI l2)] [] (F_M_goOnOr (F_M_goOnAnd (F_M_compare w))) _
    exact ck_M_clause_184 h k
def K_M_clause_129 (w : z_Wd) (l1 : Int) (l2 : Int) : z_Wd := if l2 = 0 then if (F_M_sum w) 0 4 = (-1) then if F_M_isSign ((F_M_look (F_M_sum w)).2) ((F_M_look (F_M_sum w)).1) = 0 then K_M_clause_168 ((F_M_look (F_M_sum w)).2) l1 0 else K_M_clause_168 ((F_M_look (F_M_sum w)).2) l1 1 else K_M_clause_168 (F_M_sum w) l1 0 else K_M_clause_184 (F_M_condition w) l1 l2
def PK_M_clause_129 (w : z_Wd) (l1 : Int) (l2 : Int) : Prop := (-2147483648 ≤ l2 ∧ l2 < 2147483648) ∧ ((l2 = 0 → (P_M_sum w) ∧ (-2147483648 ≤ (F_M_sum w) 0 4 ∧ (F_M_sum w) 0 4 < 2147483648) ∧ (((F_M_sum w) 0 4 = (-1) → (P_M_look (F_M_sum w)) ∧ (P_M_isSign ((F_M_look (F_M_sum w)).2) ((F_M_look (F_M_sum w)).1)) ∧ ((F_M_isSign ((F_M_look (F_M_sum w)).2) ((F_M_look (F_M_sum w)).1) = 0 → PK_M_clause_168 ((F_M_look (F_M_sum w)).2) l1 0) ∧ (¬ (F_M_isSign ((F_M_look (F_M_sum w)).2) ((F_M_look (F_M_sum w)).1) = 0) → PK_M_clause_168 ((F_M_look (F_M_sum w)).2) l1 1))) ∧ (¬ ((F_M_sum w) 0 4 = (-1)) → PK_M_clause_168 (F_M_sum w) l1 0))) ∧ (¬ (l2 = 0) → (P_M_condition w) ∧ (PK_M_clause_184 (F_M_condition w) l1 l2)))
set_option maxHeartbeats 2000000 in
set_option maxRecDepth 4000 in
theorem ck_M_clause_129 {d : Nat} {w : z_Wd} {l1 l2 : Int} {Q : Option z_V → z_Wd → Prop} (h : PK_M_clause_129 w l1 l2) (k : Q none (K_M_clause_129 w l1 l2)) : z_Wp m_X12_clause (d + 64) 129 [(0, zR 0), (1, zI l1), (2, zI l2)] [] w Q := by
  unfold PK_M_clause_129 at h
  unfold K_M_clause_129 at k
  refine z_iload_n (pc' := 130) 2 rfl rfl dX12_clause_129 rfl ?_
  obtain ⟨r1, h⟩ := h
  refine z_if_eq 140 dX12_clause_130 (by decide) (pc' := 133) rfl r1 (fun c => ?_) (fun c => ?_)
  · have h := h.1 c
    rw [if_pos c] at k
    refine z_aload_n (pc' := 141) 0 rfl rfl dX12_clause_140 rfl ?_
    refine z_invV (as := []) (st := []) (C := m_X12_sum) (fs := [0, 3, 0, 0, 0, 0, 4, 5, 6, 7, 8, 9, 10, 0, 0, 11, 12, 13, 14, 15, 16, 0, 0, 0, 17, 18, 19, 20, 0, 0, 0, 21, 22, 0, 0, 23, 0, 1, 24, 0, 0, 25, 26, 0, 27, 0]) (pc' := 144) dX12_clause_141 rfl t_7_56 k_X12_sum rfl (by decide) rfl rfl rfl rfl (Nat.le_of_ble_eq_true rfl) ?_
    obtain ⟨r2, h⟩ := h
    refine c_M_sum r2 ?_
    show z_Wp m_X12_clause _ 144 [(0, zR 0), (1, zI l1), (2, zI l2)] [] (F_M_sum w) _
    refine z_aload_n (pc' := 145) 0 rfl rfl dX12_clause_144 rfl ?_
    refine z_getI2 (v := (F_M_sum w) 0 4) (pc' := 148) g_X12_109 (by decide) rfl rfl rfl dX12_clause_145 rfl ?_
    refine z_iconst (pc' := 149) dX12_clause_148 rfl ?_
    obtain ⟨r3, h⟩ := h
    refine z_icmp_ne 166 dX12_clause_149 (by decide) (pc' := 152) rfl r3 (by decide) (fun c => ?_) (fun c => ?_)
    · have h := h.2 c
      rw [if_neg c] at k
      refine z_iconst (pc' := 167) dX12_clause_166 rfl ?_
      refine z_istore_n (pc' := 168) (ls' := [(0, zR 0), (1, zI l1), (2, zI 0)]) rfl (by decide) rfl rfl dX12_clause_167 rfl ?_
      exact ck_M_clause_168 h k
    · have h := h.1 c
      rw [if_pos c] at k
      refine z_aload_n (pc' := 153) 0 rfl rfl dX12_clause_152 rfl ?_
      refine z_invV (as := []) (st := []) (C := m_X12_look) (fs := [0, 3, 0, 0, 0, 0, 4, 5, 6, 7, 8, 9, 10, 0, 0, 11, 12, 13, 14, 15, 16, 0, 0, 0, 17, 18, 19, 20, 0, 0, 0, 21, 22, 0, 0, 23, 0, 1, 24, 0, 0, 25, 26, 0, 27, 0]) (pc' := 156) dX12_clause_153 rfl t_6_218 k_X12_look rfl (by decide) rfl rfl rfl rfl (Nat.le_of_ble_eq_true rfl) ?_
      obtain ⟨r4, h⟩ := h
      refine c_M_look r4 ?_
      show z_Wp m_X12_clause _ 156 [(0, zR 0), (1, zI l1), (2, zI l2)] [zI ((F_M_look (F_M_sum w)).1)] ((F_M_look (F_M_sum w)).2) _
      refine z_invS (as := [zI ((F_M_look (F_M_sum w)).1)]) (st := []) (C := m_X12_isSign) (pc' := 159) dX12_clause_156 rfl t_7_79 k_X12_isSign rfl rfl (Nat.le_of_ble_eq_true rfl) ?_
      obtain ⟨r5, h⟩ := h
      refine c_M_isSign r5 ?_
      show z_Wp m_X12_clause _ 159 [(0, zR 0), (1, zI l1), (2, zI l2)] [zI (F_M_isSign ((F_M_look (F_M_sum w)).2) ((F_M_look (F_M_sum w)).1))] ((F_M_look (F_M_sum w)).2) _
      refine z_if_eq 166 dX12_clause_159 (by decide) (pc' := 162) rfl (z_rb b_M_isSign) (fun c => ?_) (fun c => ?_)
      · have h := h.1 c
        rw [if_pos c] at k
        refine z_iconst (pc' := 167) dX12_clause_166 rfl ?_
        refine z_istore_n (pc' := 168) (ls' := [(0, zR 0), (1, zI l1), (2, zI 0)]) rfl (by decide) rfl rfl dX12_clause_167 rfl ?_
        exact ck_M_clause_168 h k
      · have h := h.2 c
        rw [if_neg c] at k
        refine z_iconst (pc' := 163) dX12_clause_162 rfl ?_
        refine z_goto 167 dX12_clause_163 (by decide) ?_
        refine z_istore_n (pc' := 168) (ls' := [(0, zR 0), (1, zI l1), (2, zI 1)]) rfl (by decide) rfl rfl dX12_clause_167 rfl ?_
        exact ck_M_clause_168 h k
  · have h := h.2 c
    rw [if_neg c] at k
    refine z_aload_n (pc' := 134) 0 rfl rfl dX12_clause_133 rfl ?_
    refine z_invV (as := []) (st := []) (C := m_X12_condition) (fs := [0, 3, 0, 0, 0, 0, 4, 5, 6, 7, 8, 9, 10, 0, 0, 11, 12, 13, 14, 15, 16, 0, 0, 0, 17, 18, 19, 20, 0, 0, 0, 21, 22, 0, 0, 23, 0, 1, 24, 0, 0, 25, 26, 0, 27, 0]) (pc' := 137) dX12_clause_134 rfl t_7_36 k_X12_condition rfl (by decide) rfl rfl rfl rfl (Nat.le_of_ble_eq_true rfl) ?_
    obtain ⟨r6, h⟩ := h
    refine c_M_condition r6 ?_
    show z_Wp m_X12_clause _ 137 [(0, zR 0), (1, zI l1), (2, zI l2)] [] (F_M_condition w) _
    refine z_goto 184 dX12_clause_137 (by decide) ?_
    exact ck_M_clause_184 h k
def K_M_clause_90 (w : z_Wd) (l1 : Int) : z_Wd := if (F_M_look (z_up w 6 l1.toNat (w 4 ((w 0 14).toNat)))).1 = 33 then K_M_clause_129 ((F_M_look (z_up w 6 l1.toNat (w 4 ((w 0 14).toNat)))).2) l1 1 else if (F_M_look ((F_M_look (z_up w 6 l1.toNat (w 4 ((w 0 14).toNat)))).2)).1 = 40 then K_M_clause_129 ((F_M_look ((F_M_look (z_up w 6 l1.toNat (w 4 ((w 0 14).toNat)))).2)).2) l1 1 else K_M_clause_129 ((F_M_look ((F_M_look (z_up w 6 l1.toNat (w 4 ((w 0 14).toNat)))).2)).2) l1 0
def PK_M_clause_90 (w : z_Wd) (l1 : Int) : Prop := (0 ≤ w 0 14 ∧ w 0 14 < 5) ∧ (0 ≤ l1 ∧ l1 < 700) ∧ (P_M_look (z_up w 6 l1.toNat (w 4 ((w 0 14).toNat)))) ∧ (-2147483648 ≤ (F_M_look (z_up w 6 l1.toNat (w 4 ((w 0 14).toNat)))).1 ∧ (F_M_look (z_up w 6 l1.toNat (w 4 ((w 0 14).toNat)))).1 < 2147483648) ∧ (((F_M_look (z_up w 6 l1.toNat (w 4 ((w 0 14).toNat)))).1 = 33 → PK_M_clause_129 ((F_M_look (z_up w 6 l1.toNat (w 4 ((w 0 14).toNat)))).2) l1 1) ∧ (¬ ((F_M_look (z_up w 6 l1.toNat (w 4 ((w 0 14).toNat)))).1 = 33) → (P_M_look ((F_M_look (z_up w 6 l1.toNat (w 4 ((w 0 14).toNat)))).2)) ∧ (-2147483648 ≤ (F_M_look ((F_M_look (z_up w 6 l1.toNat (w 4 ((w 0 14).toNat)))).2)).1 ∧ (F_M_look ((F_M_look (z_up w 6 l1.toNat (w 4 ((w 0 14).toNat)))).2)).1 < 2147483648) ∧ (((F_M_look ((F_M_look (z_up w 6 l1.toNat (w 4 ((w 0 14).toNat)))).2)).1 = 40 → PK_M_clause_129 ((F_M_look ((F_M_look (z_up w 6 l1.toNat (w 4 ((w 0 14).toNat)))).2)).2) l1 1) ∧ (¬ ((F_M_look ((F_M_look (z_up w 6 l1.toNat (w 4 ((w 0 14).toNat)))).2)).1 = 40) → PK_M_clause_129 ((F_M_look ((F_M_look (z_up w 6 l1.toNat (w 4 ((w 0 14).toNat)))).2)).2) l1 0))))
set_option maxHeartbeats 2000000 in
set_option maxRecDepth 4000 in
theorem ck_M_clause_90 {d : Nat} {w : z_Wd} {l1 : Int} {Q : Option z_V → z_Wd → Prop} (h : PK_M_clause_90 w l1) (k : Q none (K_M_clause_90 w l1)) : z_Wp m_X12_clause (d + 64) 90 [(0, zR 0), (1, zI l1)] [] w Q := by
  unfold PK_M_clause_90 at h
  unfold K_M_clause_90 at k
  refine z_aload_n (pc' := 91) 0 rfl rfl dX12_clause_90 rfl ?_
  refine z_getR (t := 6) (pc' := 94) g_X12_25 (by decide) rfl rfl dX12_clause_91 rfl ?_
  refine z_iload_n (pc' := 95) 1 rfl rfl dX12_clause_94 rfl ?_
  refine z_aload_n (pc' := 96) 0 rfl rfl dX12_clause_95 rfl ?_
  refine z_getR (t := 4) (pc' := 99) g_X12_19 (by decide) rfl rfl dX12_clause_96 rfl ?_
  refine z_aload_n (pc' := 100) 0 rfl rfl dX12_clause_99 rfl ?_
  refine z_getI2 (v := w 0 14) (pc' := 103) g_X12_112 (by decide) rfl rfl rfl dX12_clause_100 rfl ?_
  obtain ⟨r1, h⟩ := h
  refine z_iald2 (v := w 4 ((w 0 14).toNat)) (pc' := 104) (by decide) rfl r1 (by decide) rfl dX12_clause_103 rfl ?_
  obtain ⟨r2, h⟩ := h
  refine z_iast2 (w' := z_up w 6 l1.toNat (w 4 ((w 0 14).toNat))) (pc' := 105) (by decide) rfl r2 (by decide) rfl dX12_clause_104 rfl ?_
  refine z_aload_n (pc' := 106) 0 rfl rfl dX12_clause_105 rfl ?_
  refine z_invV (as := []) (st := []) (C := m_X12_look) (fs := [0, 3, 0, 0, 0, 0, 4, 5, 6, 7, 8, 9, 10, 0, 0, 11, 12, 13, 14, 15, 16, 0, 0, 0, 17, 18, 19, 20, 0, 0, 0, 21, 22, 0, 0, 23, 0, 1, 24, 0, 0, 25, 26, 0, 27, 0]) (pc' := 109) dX12_clause_106 rfl t_6_218 k_X12_look rfl (by decide) rfl rfl rfl rfl (Nat.le_of_ble_eq_true rfl) ?_
  obtain ⟨r3, h⟩ := h
  refine c_M_look r3 ?_
  show z_Wp m_X12_clause _ 109 [(0, zR 0), (1, zI l1)] [zI ((F_M_look (z_up w 6 l1.toNat (w 4 ((w 0 14).toNat)))).1)] ((F_M_look (z_up w 6 l1.toNat (w 4 ((w 0 14).toNat)))).2) _
  refine z_bipush (pc' := 111) (by decide) dX12_clause_109 rfl ?_
  obtain ⟨r4, h⟩ := h
  refine z_icmp_eq 123 dX12_clause_111 (by decide) (pc' := 114) rfl r4 (by decide) (fun c => ?_) (fun c => ?_)
  · have h := h.1 c
    rw [if_pos c] at k
    refine z_iconst (pc' := 124) dX12_clause_123 rfl ?_
    refine z_goto 128 dX12_clause_124 (by decide) ?_
    refine z_istore_n (pc' := 129) (ls' := [(0, zR 0), (1, zI l1), (2, zI 1)]) rfl (by decide) rfl rfl dX12_clause_128 rfl ?_
    exact ck_M_clause_129 h k
  · have h := h.2 c
    rw [if_neg c] at k
    refine z_aload_n (pc' := 115) 0 rfl rfl dX12_clause_114 rfl ?_
    refine z_invV (as := []) (st := []) (C := m_X12_look) (fs := [0, 3, 0, 0, 0, 0, 4, 5, 6, 7, 8, 9, 10, 0, 0, 11, 12, 13, 14, 15, 16, 0, 0, 0, 17, 18, 19, 20, 0, 0, 0, 21, 22, 0, 0, 23, 0, 1, 24, 0, 0, 25, 26, 0, 27, 0]) (pc' := 118) dX12_clause_115 rfl t_6_218 k_X12_look rfl (by decide) rfl rfl rfl rfl (Nat.le_of_ble_eq_true rfl) ?_
    obtain ⟨r5, h⟩ := h
    refine c_M_look r5 ?_
    show z_Wp m_X12_clause _ 118 [(0, zR 0), (1, zI l1)] [zI ((F_M_look ((F_M_look (z_up w 6 l1.toNat (w 4 ((w 0 14).toNat)))).2)).1)] ((F_M_look ((F_M_look (z_up w 6 l1.toNat (w 4 ((w 0 14).toNat)))).2)).2) _
    refine z_bipush (pc' := 120) (by decide) dX12_clause_118 rfl ?_
    obtain ⟨r6, h⟩ := h
    refine z_icmp_ne 127 dX12_clause_120 (by decide) (pc' := 123) rfl r6 (by decide) (fun c => ?_) (fun c => ?_)
    · have h := h.2 c
      rw [if_neg c] at k
      refine z_iconst (pc' := 128) dX12_clause_127 rfl ?_
      refine z_istore_n (pc' := 129) (ls' := [(0, zR 0), (1, zI l1), (2, zI 0)]) rfl (by decide) rfl rfl dX12_clause_128 rfl ?_
      exact ck_M_clause_129 h k
    · have h := h.1 c
      rw [if_pos c] at k
      refine z_iconst (pc' := 124) dX12_clause_123 rfl ?_
      refine z_goto 128 dX12_clause_124 (by decide) ?_
      refine z_istore_n (pc' := 129) (ls' := [(0, zR 0), (1, zI l1), (2, zI 1)]) rfl (by decide) rfl rfl dX12_clause_128 rfl ?_
      exact ck_M_clause_129 h k
def K_M_clause_71 (w : z_Wd) (l1 : Int) : z_Wd := if w 0 4 = (-1) then K_M_clause_90 (z_up w 0 3 ((w 0 3) + 1)) l1 else z_up w 0 3 ((w 0 3) + 1)
def PK_M_clause_71 (w : z_Wd) (l1 : Int) : Prop := (-2147483648 ≤ w 0 4 ∧ w 0 4 < 2147483648) ∧ ((w 0 4 = (-1) → PK_M_clause_90 (z_up w 0 3 ((w 0 3) + 1)) l1) ∧ (¬ (w 0 4 = (-1)) → True))
set_option maxHeartbeats 2000000 in
set_option maxRecDepth 4000 in
theorem ck_M_clause_71 {d : Nat} {w : z_Wd} {l1 : Int} {Q : Option z_V → z_Wd → Prop} (h : PK_M_clause_71 w l1) (k : Q none (K_M_clause_71 w l1)) : z_Wp m_X12_clause (d + 64) 71 [(0, zR 0), (1, zI l1)] [] w Q := by
  unfold PK_M_clause_71 at h
  unfold K_M_clause_71 at k
  refine z_aload_n (pc' := 72) 0 rfl rfl dX12_clause_71 rfl ?_
  refine z_dup (pc' := 73) rfl dX12_clause_72 rfl ?_
  refine z_getI2 (v := w 0 3) (pc' := 76) g_X12_102 (by decide) rfl rfl rfl dX12_clause_73 rfl ?_
  refine z_iconst (pc' := 77) dX12_clause_76 rfl ?_
  refine z_iadd (pc' := 78) dX12_clause_77 rfl ?_
  refine z_putI (pc' := 81) p_X12_102 (by decide) rfl rfl rfl rfl dX12_clause_78 rfl ?_
  refine z_aload_n (pc' := 82) 0 rfl rfl dX12_clause_81 rfl ?_
  refine z_getI2 (v := w 0 4) (pc' := 85) g_X12_109 (by decide) rfl rfl rfl dX12_clause_82 rfl ?_
  refine z_iconst (pc' := 86) dX12_clause_85 rfl ?_
  obtain ⟨r1, h⟩ := h
  refine z_icmp_eq 90 dX12_clause_86 (by decide) (pc' := 89) rfl r1 (by decide) (fun c => ?_) (fun c => ?_)
  · have h := h.1 c
    rw [if_pos c] at k
    exact ck_M_clause_90 h k
  · have h := h.2 c
    rw [if_neg c] at k
    refine z_vret rfl dX12_clause_89 ?_
    try dsimp only at k
    exact k
def K_M_clause_40 (w : z_Wd) (l1 : Int) : z_Wd := if w 0 4 = (-1) then if (F_M_look (z_up w 0 3 ((w 0 3) + 1))).1 = 58 then K_M_clause_71 ((F_M_look (z_up w 0 3 ((w 0 3) + 1))).2) l1 else K_M_clause_71 (F_M_bad ((F_M_look (z_up w 0 3 ((w 0 3) + 1))).2)) l1 else K_M_clause_71 (z_up w 0 3 ((w 0 3) + 1)) l1
def PK_M_clause_40 (w : z_Wd) (l1 : Int) : Prop := (-2147483648 ≤ w 0 4 ∧ w 0 4 < 2147483648) ∧ ((w 0 4 = (-1) → (P_M_look (z_up w 0 3 ((w 0 3) + 1))) ∧ (-2147483648 ≤ (F_M_look (z_up w 0 3 ((w 0 3) + 1))).1 ∧ (F_M_look (z_up w 0 3 ((w 0 3) + 1))).1 < 2147483648) ∧ (((F_M_look (z_up w 0 3 ((w 0 3) + 1))).1 = 58 → PK_M_clause_71 ((F_M_look (z_up w 0 3 ((w 0 3) + 1))).2) l1) ∧ (¬ ((F_M_look (z_up w 0 3 ((w 0 3) + 1))).1 = 58) → (P_M_bad ((F_M_look (z_up w 0 3 ((w 0 3) + 1))).2)) ∧ (PK_M_clause_71 (F_M_bad ((F_M_look (z_up w 0 3 ((w 0 3) + 1))).2)) l1)))) ∧ (¬ (w 0 4 = (-1)) → PK_M_clause_71 (z_up w 0 3 ((w 0 3) + 1)) l1))
set_option maxHeartbeats 2000000 in
set_option maxRecDepth 4000 in
theorem ck_M_clause_40 {d : Nat} {w : z_Wd} {l1 : Int} {Q : Option z_V → z_Wd → Prop} (h : PK_M_clause_40 w l1) (k : Q none (K_M_clause_40 w l1)) : z_Wp m_X12_clause (d + 64) 40 [(0, zR 0), (1, zI l1)] [] w Q := by
  unfold PK_M_clause_40 at h
  unfold K_M_clause_40 at k
  refine z_aload_n (pc' := 41) 0 rfl rfl dX12_clause_40 rfl ?_
  refine z_dup (pc' := 42) rfl dX12_clause_41 rfl ?_
  refine z_getI2 (v := w 0 3) (pc' := 45) g_X12_102 (by decide) rfl rfl rfl dX12_clause_42 rfl ?_
  refine z_iconst (pc' := 46) dX12_clause_45 rfl ?_
  refine z_iadd (pc' := 47) dX12_clause_46 rfl ?_
  refine z_putI (pc' := 50) p_X12_102 (by decide) rfl rfl rfl rfl dX12_clause_47 rfl ?_
  refine z_aload_n (pc' := 51) 0 rfl rfl dX12_clause_50 rfl ?_
  refine z_getI2 (v := w 0 4) (pc' := 54) g_X12_109 (by decide) rfl rfl rfl dX12_clause_51 rfl ?_
  refine z_iconst (pc' := 55) dX12_clause_54 rfl ?_
  obtain ⟨r1, h⟩ := h
  refine z_icmp_ne 71 dX12_clause_55 (by decide) (pc' := 58) rfl r1 (by decide) (fun c => ?_) (fun c => ?_)
  · have h := h.2 c
    rw [if_neg c] at k
    exact ck_M_clause_71 h k
  · have h := h.1 c
    rw [if_pos c] at k
    refine z_aload_n (pc' := 59) 0 rfl rfl dX12_clause_58 rfl ?_
    refine z_invV (as := []) (st := []) (C := m_X12_look) (fs := [0, 3, 0, 0, 0, 0, 4, 5, 6, 7, 8, 9, 10, 0, 0, 11, 12, 13, 14, 15, 16, 0, 0, 0, 17, 18, 19, 20, 0, 0, 0, 21, 22, 0, 0, 23, 0, 1, 24, 0, 0, 25, 26, 0, 27, 0]) (pc' := 62) dX12_clause_59 rfl t_6_218 k_X12_look rfl (by decide) rfl rfl rfl rfl (Nat.le_of_ble_eq_true rfl) ?_
    obtain ⟨r2, h⟩ := h
    refine c_M_look r2 ?_
    show z_Wp m_X12_clause _ 62 [(0, zR 0), (1, zI l1)] [zI ((F_M_look (z_up w 0 3 ((w 0 3) + 1))).1)] ((F_M_look (z_up w 0 3 ((w 0 3) + 1))).2) _
    refine z_bipush (pc' := 64) (by decide) dX12_clause_62 rfl ?_
    obtain ⟨r3, h⟩ := h
    refine z_icmp_eq 71 dX12_clause_64 (by decide) (pc' := 67) rfl r3 (by decide) (fun c => ?_) (fun c => ?_)
    · have h := h.1 c
      rw [if_pos c] at k
      exact ck_M_clause_71 h k
    · have h := h.2 c
      rw [if_neg c] at k
      refine z_aload_n (pc' := 68) 0 rfl rfl dX12_clause_67 rfl ?_
      refine z_invV (as := []) (st := []) (C := m_X12_bad) (fs := [0, 3, 0, 0, 0, 0, 4, 5, 6, 7, 8, 9, 10, 0, 0, 11, 12, 13, 14, 15, 16, 0, 0, 0, 17, 18, 19, 20, 0, 0, 0, 21, 22, 0, 0, 23, 0, 1, 24, 0, 0, 25, 26, 0, 27, 0]) (pc' := 71) dX12_clause_68 rfl t_7_13 k_X12_bad rfl (by decide) rfl rfl rfl rfl (Nat.le_of_ble_eq_true rfl) ?_
      obtain ⟨r4, h⟩ := h
      refine c_M_bad r4 ?_
      show z_Wp m_X12_clause _ 71 [(0, zR 0), (1, zI l1)] [] (F_M_bad ((F_M_look (z_up w 0 3 ((w 0 3) + 1))).2)) _
      exact ck_M_clause_71 h k
def F_M_clause (w : z_Wd)  : z_Wd := if w 0 4 = (-1) then if (F_M_look w).1 = 121 then K_M_clause_40 ((F_M_look w).2) ((140 * (w 0 14)) + (w 5 ((w 0 14).toNat))) else K_M_clause_40 (F_M_bad ((F_M_look w).2)) ((140 * (w 0 14)) + (w 5 ((w 0 14).toNat))) else K_M_clause_40 w ((140 * (w 0 14)) + (w 5 ((w 0 14).toNat)))
def P_M_clause (w : z_Wd)  : Prop := (0 ≤ w 0 14 ∧ w 0 14 < 5) ∧ (-2147483648 ≤ w 0 4 ∧ w 0 4 < 2147483648) ∧ ((w 0 4 = (-1) → (P_M_look w) ∧ (-2147483648 ≤ (F_M_look w).1 ∧ (F_M_look w).1 < 2147483648) ∧ (((F_M_look w).1 = 121 → PK_M_clause_40 ((F_M_look w).2) ((140 * (w 0 14)) + (w 5 ((w 0 14).toNat)))) ∧ (¬ ((F_M_look w).1 = 121) → (P_M_bad ((F_M_look w).2)) ∧ (PK_M_clause_40 (F_M_bad ((F_M_look w).2)) ((140 * (w 0 14)) + (w 5 ((w 0 14).toNat))))))) ∧ (¬ (w 0 4 = (-1)) → PK_M_clause_40 w ((140 * (w 0 14)) + (w 5 ((w 0 14).toNat)))))
set_option maxHeartbeats 2000000 in
set_option maxRecDepth 4000 in
theorem c_M_clause {d : Nat} {w : z_Wd} {Q : Option z_V → z_Wd → Prop} (h : P_M_clause w ) (k : Q none (F_M_clause w )) : z_Wc (d + 64) m_X12_clause [zR 0] w Q := by
  unfold P_M_clause at h
  unfold F_M_clause at k
  refine z_enter rfl (Nat.le_of_ble_eq_true rfl) ?_
  show z_Wp m_X12_clause _ 0 [(0, zR 0)] [] w _
  refine z_sipush (pc' := 3) (by decide) dX12_clause_0 rfl ?_
  refine z_aload_n (pc' := 4) 0 rfl rfl dX12_clause_3 rfl ?_
  refine z_getI2 (v := w 0 14) (pc' := 7) g_X12_112 (by decide) rfl rfl rfl dX12_clause_4 rfl ?_
  refine z_imul (pc' := 8) dX12_clause_7 rfl ?_
  refine z_aload_n (pc' := 9) 0 rfl rfl dX12_clause_8 rfl ?_
  refine z_getR (t := 5) (pc' := 12) g_X12_22 (by decide) rfl rfl dX12_clause_9 rfl ?_
  refine z_aload_n (pc' := 13) 0 rfl rfl dX12_clause_12 rfl ?_
  refine z_getI2 (v := w 0 14) (pc' := 16) g_X12_112 (by decide) rfl rfl rfl dX12_clause_13 rfl ?_
  obtain ⟨r1, h⟩ := h
  refine z_iald2 (v := w 5 ((w 0 14).toNat)) (pc' := 17) (by decide) rfl r1 (by decide) rfl dX12_clause_16 rfl ?_
  refine z_iadd (pc' := 18) dX12_clause_17 rfl ?_
  refine z_istore_n (pc' := 19) (ls' := [(0, zR 0), (1, zI ((140 * (w 0 14)) + (w 5 ((w 0 14).toNat))))]) rfl (by decide) rfl rfl dX12_clause_18 rfl ?_
  refine z_aload_n (pc' := 20) 0 rfl rfl dX12_clause_19 rfl ?_
  refine z_getI2 (v := w 0 4) (pc' := 23) g_X12_109 (by decide) rfl rfl rfl dX12_clause_20 rfl ?_
  refine z_iconst (pc' := 24) dX12_clause_23 rfl ?_
  obtain ⟨r2, h⟩ := h
  refine z_icmp_ne 40 dX12_clause_24 (by decide) (pc' := 27) rfl r2 (by decide) (fun c => ?_) (fun c => ?_)
  · have h := h.2 c
    rw [if_neg c] at k
    exact ck_M_clause_40 h k
  · have h := h.1 c
    rw [if_pos c] at k
    refine z_aload_n (pc' := 28) 0 rfl rfl dX12_clause_27 rfl ?_
    refine z_invV (as := []) (st := []) (C := m_X12_look) (fs := [0, 3, 0, 0, 0, 0, 4, 5, 6, 7, 8, 9, 10, 0, 0, 11, 12, 13, 14, 15, 16, 0, 0, 0, 17, 18, 19, 20, 0, 0, 0, 21, 22, 0, 0, 23, 0, 1, 24, 0, 0, 25, 26, 0, 27, 0]) (pc' := 31) dX12_clause_28 rfl t_6_218 k_X12_look rfl (by decide) rfl rfl rfl rfl (Nat.le_of_ble_eq_true rfl) ?_
    obtain ⟨r3, h⟩ := h
    refine c_M_look r3 ?_
    show z_Wp m_X12_clause _ 31 [(0, zR 0), (1, zI ((140 * (w 0 14)) + (w 5 ((w 0 14).toNat))))] [zI ((F_M_look w).1)] ((F_M_look w).2) _
    refine z_bipush (pc' := 33) (by decide) dX12_clause_31 rfl ?_
    obtain ⟨r4, h⟩ := h
    refine z_icmp_eq 40 dX12_clause_33 (by decide) (pc' := 36) rfl r4 (by decide) (fun c => ?_) (fun c => ?_)
    · have h := h.1 c
      rw [if_pos c] at k
      exact ck_M_clause_40 h k
    · have h := h.2 c
      rw [if_neg c] at k
      refine z_aload_n (pc' := 37) 0 rfl rfl dX12_clause_36 rfl ?_
      refine z_invV (as := []) (st := []) (C := m_X12_bad) (fs := [0, 3, 0, 0, 0, 0, 4, 5, 6, 7, 8, 9, 10, 0, 0, 11, 12, 13, 14, 15, 16, 0, 0, 0, 17, 18, 19, 20, 0, 0, 0, 21, 22, 0, 0, 23, 0, 1, 24, 0, 0, 25, 26, 0, 27, 0]) (pc' := 40) dX12_clause_37 rfl t_7_13 k_X12_bad rfl (by decide) rfl rfl rfl rfl (Nat.le_of_ble_eq_true rfl) ?_
      obtain ⟨r5, h⟩ := h
      refine c_M_bad r5 ?_
      show z_Wp m_X12_clause _ 40 [(0, zR 0), (1, zI ((140 * (w 0 14)) + (w 5 ((w 0 14).toNat))))] [] (F_M_bad ((F_M_look w).2)) _
      exact ck_M_clause_40 h k
def L_M_readLaw_9 (w : z_Wd)   : Nat → z_Wd → Int × z_Wd
  | 0, _ => (0, w)
  | m9 + 1, wu => if wu 0 4 = (-1) then if (F_M_look wu).1 = 59 then L_M_readLaw_9 w m9 (F_M_clause (z_up ((F_M_look wu).2) 0 3 ((((F_M_look wu).2) 0 3) + 1))) else ((F_M_atEnd ((F_M_look wu).2)).1, (F_M_atEnd ((F_M_look wu).2)).2) else ((F_M_atEnd wu).1, (F_M_atEnd wu).2)
def PL_M_readLaw_9 (w : z_Wd)   : Nat → z_Wd → Prop
  | 0, _ => False
  | m9 + 1, wu => (-2147483648 ≤ wu 0 4 ∧ wu 0 4 < 2147483648) ∧ ((wu 0 4 = (-1) → (P_M_look wu) ∧ (-2147483648 ≤ (F_M_look wu).1 ∧ (F_M_look wu).1 < 2147483648) ∧ (((F_M_look wu).1 = 59 → (P_M_clause (z_up ((F_M_look wu).2) 0 3 ((((F_M_look wu).2) 0 3) + 1))) ∧ (PL_M_readLaw_9 w m9 (F_M_clause (z_up ((F_M_look wu).2) 0 3 ((((F_M_look wu).2) 0 3) + 1))))) ∧ (¬ ((F_M_look wu).1 = 59) → P_M_atEnd ((F_M_look wu).2)))) ∧ (¬ (wu 0 4 = (-1)) → P_M_atEnd wu))
def P_M_readLaw (w : z_Wd) (a0 : Int) : Prop := (P_M_open w a0) ∧ (P_M_clause (F_M_open w a0)) ∧ (PL_M_readLaw_9 w 300 (F_M_clause (F_M_open w a0)))
def F_M_readLaw (w : z_Wd) (a0 : Int) : Int × z_Wd := L_M_readLaw_9 w 300 (F_M_clause (F_M_open w a0))
set_option maxRecDepth 4000 in
theorem c_M_readLaw {d : Nat} {w : z_Wd} {a0 : Int} {Q : Option z_V → z_Wd → Prop} (h : P_M_readLaw w a0) (k : Q (some (zI (F_M_readLaw w a0).1)) (F_M_readLaw w a0).2) : z_Wc (d + 65) m_X12_readLaw [zR 0, zI a0] w Q := by
  unfold P_M_readLaw at h
  unfold F_M_readLaw at k
  refine z_enter rfl (Nat.le_of_ble_eq_true rfl) ?_
  show z_Wp m_X12_readLaw _ 0 [(0, zR 0), (1, zI a0)] [] w _
  refine z_aload_n (pc' := 1) 0 rfl rfl dX12_readLaw_0 rfl ?_
  refine z_iload_n (pc' := 2) 1 rfl rfl dX12_readLaw_1 rfl ?_
  refine z_invV (as := [zI a0]) (st := []) (C := m_X12_open) (fs := [0, 3, 0, 0, 0, 0, 4, 5, 6, 7, 8, 9, 10, 0, 0, 11, 12, 13, 14, 15, 16, 0, 0, 0, 17, 18, 19, 20, 0, 0, 0, 21, 22, 0, 0, 23, 0, 1, 24, 0, 0, 25, 26, 0, 27, 0]) (pc' := 5) dX12_readLaw_2 rfl t_7_28 k_X12_open rfl (by decide) rfl rfl rfl rfl (Nat.le_of_ble_eq_true rfl) ?_
  obtain ⟨r1, h⟩ := h
  refine c_M_open r1 ?_
  show z_Wp m_X12_readLaw _ 5 [(0, zR 0), (1, zI a0)] [] (F_M_open w a0) _
  refine z_aload_n (pc' := 6) 0 rfl rfl dX12_readLaw_5 rfl ?_
  refine z_invV (as := []) (st := []) (C := m_X12_clause) (fs := [0, 3, 0, 0, 0, 0, 4, 5, 6, 7, 8, 9, 10, 0, 0, 11, 12, 13, 14, 15, 16, 0, 0, 0, 17, 18, 19, 20, 0, 0, 0, 21, 22, 0, 0, 23, 0, 1, 24, 0, 0, 25, 26, 0, 27, 0]) (pc' := 9) dX12_readLaw_6 rfl t_7_32 k_X12_clause rfl (by decide) rfl rfl rfl rfl (Nat.le_of_ble_eq_true rfl) ?_
  obtain ⟨r2, h⟩ := h
  refine c_M_clause r2 ?_
  show z_Wp m_X12_readLaw _ 9 [(0, zR 0), (1, zI a0)] [] (F_M_clause (F_M_open w a0)) _
  refine z_Wp.sub (ls' := [(0, zR 0)]) ?_ (z_sub_of [0] rfl)
  have hl : ∀ (m9 : Nat) (wu : z_Wd), PL_M_readLaw_9 w m9 wu → Q (some (zI (L_M_readLaw_9 w m9 wu).1)) (L_M_readLaw_9 w m9 wu).2 → z_Wp m_X12_readLaw (d + 65) 9 [(0, zR 0)] [] wu Q := by
    clear h k
    intro m9
    induction m9 with
    | zero => intro wu h k; exact False.elim h
    | succ m9 ih =>
      intro wu h k
      have h : (-2147483648 ≤ wu 0 4 ∧ wu 0 4 < 2147483648) ∧ ((wu 0 4 = (-1) → (P_M_look wu) ∧ (-2147483648 ≤ (F_M_look wu).1 ∧ (F_M_look wu).1 < 2147483648) ∧ (((F_M_look wu).1 = 59 → (P_M_clause (z_up ((F_M_look wu).2) 0 3 ((((F_M_look wu).2) 0 3) + 1))) ∧ (PL_M_readLaw_9 w m9 (F_M_clause (z_up ((F_M_look wu).2) 0 3 ((((F_M_look wu).2) 0 3) + 1))))) ∧ (¬ ((F_M_look wu).1 = 59) → P_M_atEnd ((F_M_look wu).2)))) ∧ (¬ (wu 0 4 = (-1)) → P_M_atEnd wu)) := h
      have k : Q (some (zI (if wu 0 4 = (-1) then if (F_M_look wu).1 = 59 then L_M_readLaw_9 w m9 (F_M_clause (z_up ((F_M_look wu).2) 0 3 ((((F_M_look wu).2) 0 3) + 1))) else ((F_M_atEnd ((F_M_look wu).2)).1, (F_M_atEnd ((F_M_look wu).2)).2) else ((F_M_atEnd wu).1, (F_M_atEnd wu).2)).1)) (if wu 0 4 = (-1) then if (F_M_look wu).1 = 59 then L_M_readLaw_9 w m9 (F_M_clause (z_up ((F_M_look wu).2) 0 3 ((((F_M_look wu).2) 0 3) + 1))) else ((F_M_atEnd ((F_M_look wu).2)).1, (F_M_atEnd ((F_M_look wu).2)).2) else ((F_M_atEnd wu).1, (F_M_atEnd wu).2)).2 := k
      refine z_aload_n (pc' := 10) 0 rfl rfl dX12_readLaw_9 rfl ?_
      refine z_getI2 (v := wu 0 4) (pc' := 13) g_X12_109 (by decide) rfl rfl rfl dX12_readLaw_10 rfl ?_
      refine z_iconst (pc' := 14) dX12_readLaw_13 rfl ?_
      obtain ⟨r9, h⟩ := h
      refine z_icmp_ne 43 dX12_readLaw_14 (by decide) (pc' := 17) rfl r9 (by decide) (fun c => ?_) (fun c => ?_)
      · have h := h.2 c
        rw [if_neg c] at k
        refine z_aload_n (pc' := 44) 0 rfl rfl dX12_readLaw_43 rfl ?_
        refine z_invV (as := []) (st := []) (C := m_X12_atEnd) (fs := [0, 3, 0, 0, 0, 0, 4, 5, 6, 7, 8, 9, 10, 0, 0, 11, 12, 13, 14, 15, 16, 0, 0, 0, 17, 18, 19, 20, 0, 0, 0, 21, 22, 0, 0, 23, 0, 1, 24, 0, 0, 25, 26, 0, 27, 0]) (pc' := 47) dX12_readLaw_44 rfl t_7_90 k_X12_atEnd rfl (by decide) rfl rfl rfl rfl (Nat.le_of_ble_eq_true rfl) ?_
        have r10 := h
        refine c_M_atEnd r10 ?_
        show z_Wp m_X12_readLaw _ 47 [(0, zR 0)] [zI ((F_M_atEnd wu).1)] ((F_M_atEnd wu).2) _
        refine z_iret rfl dX12_readLaw_47 ?_
        exact k
      · have h := h.1 c
        rw [if_pos c] at k
        refine z_aload_n (pc' := 18) 0 rfl rfl dX12_readLaw_17 rfl ?_
        refine z_invV (as := []) (st := []) (C := m_X12_look) (fs := [0, 3, 0, 0, 0, 0, 4, 5, 6, 7, 8, 9, 10, 0, 0, 11, 12, 13, 14, 15, 16, 0, 0, 0, 17, 18, 19, 20, 0, 0, 0, 21, 22, 0, 0, 23, 0, 1, 24, 0, 0, 25, 26, 0, 27, 0]) (pc' := 21) dX12_readLaw_18 rfl t_6_218 k_X12_look rfl (by decide) rfl rfl rfl rfl (Nat.le_of_ble_eq_true rfl) ?_
        obtain ⟨r11, h⟩ := h
        refine c_M_look r11 ?_
        show z_Wp m_X12_readLaw _ 21 [(0, zR 0)] [zI ((F_M_look wu).1)] ((F_M_look wu).2) _
        refine z_bipush (pc' := 23) (by decide) dX12_readLaw_21 rfl ?_
        obtain ⟨r12, h⟩ := h
        refine z_icmp_ne 43 dX12_readLaw_23 (by decide) (pc' := 26) rfl r12 (by decide) (fun c => ?_) (fun c => ?_)
        · have h := h.2 c
          rw [if_neg c] at k
          refine z_aload_n (pc' := 44) 0 rfl rfl dX12_readLaw_43 rfl ?_
          refine z_invV (as := []) (st := []) (C := m_X12_atEnd) (fs := [0, 3, 0, 0, 0, 0, 4, 5, 6, 7, 8, 9, 10, 0, 0, 11, 12, 13, 14, 15, 16, 0, 0, 0, 17, 18, 19, 20, 0, 0, 0, 21, 22, 0, 0, 23, 0, 1, 24, 0, 0, 25, 26, 0, 27, 0]) (pc' := 47) dX12_readLaw_44 rfl t_7_90 k_X12_atEnd rfl (by decide) rfl rfl rfl rfl (Nat.le_of_ble_eq_true rfl) ?_
          have r13 := h
          refine c_M_atEnd r13 ?_
          show z_Wp m_X12_readLaw _ 47 [(0, zR 0)] [zI ((F_M_atEnd ((F_M_look wu).2)).1)] ((F_M_atEnd ((F_M_look wu).2)).2) _
          refine z_iret rfl dX12_readLaw_47 ?_
          exact k
        · have h := h.1 c
          rw [if_pos c] at k
          refine z_aload_n (pc' := 27) 0 rfl rfl dX12_readLaw_26 rfl ?_
          refine z_dup (pc' := 28) rfl dX12_readLaw_27 rfl ?_
          refine z_getI2 (v := ((F_M_look wu).2) 0 3) (pc' := 31) g_X12_102 (by decide) rfl rfl rfl dX12_readLaw_28 rfl ?_
          refine z_iconst (pc' := 32) dX12_readLaw_31 rfl ?_
          refine z_iadd (pc' := 33) dX12_readLaw_32 rfl ?_
          refine z_putI (pc' := 36) p_X12_102 (by decide) rfl rfl rfl rfl dX12_readLaw_33 rfl ?_
          refine z_aload_n (pc' := 37) 0 rfl rfl dX12_readLaw_36 rfl ?_
          refine z_invV (as := []) (st := []) (C := m_X12_clause) (fs := [0, 3, 0, 0, 0, 0, 4, 5, 6, 7, 8, 9, 10, 0, 0, 11, 12, 13, 14, 15, 16, 0, 0, 0, 17, 18, 19, 20, 0, 0, 0, 21, 22, 0, 0, 23, 0, 1, 24, 0, 0, 25, 26, 0, 27, 0]) (pc' := 40) dX12_readLaw_37 rfl t_7_32 k_X12_clause rfl (by decide) rfl rfl rfl rfl (Nat.le_of_ble_eq_true rfl) ?_
          obtain ⟨r14, h⟩ := h
          refine c_M_clause r14 ?_
          show z_Wp m_X12_readLaw _ 40 [(0, zR 0)] [] (F_M_clause (z_up ((F_M_look wu).2) 0 3 ((((F_M_look wu).2) 0 3) + 1))) _
          refine z_goto 9 dX12_readLaw_40 (by decide) ?_
          exact ih _ h k
  exact hl 300 _ h k
