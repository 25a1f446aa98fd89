set_option maxRecDepth 8000 in
set_option maxHeartbeats 2000000 in
theorem l_feed {Rl : z_Wd → Prop} {B : Nat × Nat × (Nat → Int32)} {T : Nat × Nat} {kc ks : Nat} {i : Int} {w : z_Wd} (hs : S_feed Rl) (hw : Rl w) (hi : 0 ≤ i ∧ i + 7 ≤ B.2.1) (hL : B.2.1 ≤ 3584) (hk : kc ≤ 601024 ∧ ks ≤ 7293034) (k : ∀ w', Rl w' → y_Wp m_L_law 0 1516 [(0, zR 300), (1, zR 27), (2, zR 0), (3, zR 26), (4, zI i)] [] w' (l_X B T kc ks)) : y_Wp m_L_law 0 212 [(0, zR 300), (1, zR 27), (2, zR 0), (3, zR 26), (4, zI i)] [] w (l_X B T kc ks) := by
  obtain ⟨p1, p2, p3, p4⟩ := hs w ((B.2.2 (i + 1).toNat).toInt) ((B.2.2 (i + 2).toNat).toInt) ((B.2.2 (i + 3).toNat).toInt) ((B.2.2 (i + 4).toNat).toInt) ((B.2.2 (i + 5).toNat).toInt) (z_r32 _) (z_r32 _) (z_r32 _) (z_r32 _) (z_r32 _) hw
  refine y_aload_n (pc' := 213) 1 rfl rfl dL_law_212 rfl ?_
  refine y_aload_n (pc' := 214) 0 rfl rfl dL_law_213 rfl ?_
  refine y_iload (pc' := 216) 4 rfl dL_law_214 rfl ?_
  refine y_iconst (pc' := 217) dL_law_216 rfl ?_
  refine y_iadd (pc' := 218) dL_law_217 rfl ?_
  refine l_sld (pc' := 219) (by omega) hL dL_law_218 rfl ?_
  refine y_aload_n (pc' := 220) 0 rfl rfl dL_law_219 rfl ?_
  refine y_iload (pc' := 222) 4 rfl dL_law_220 rfl ?_
  refine y_iconst (pc' := 223) dL_law_222 rfl ?_
  refine y_iadd (pc' := 224) dL_law_223 rfl ?_
  refine l_sld (pc' := 225) (by omega) hL dL_law_224 rfl ?_
  refine y_aload_n (pc' := 226) 0 rfl rfl dL_law_225 rfl ?_
  refine y_iload (pc' := 228) 4 rfl dL_law_226 rfl ?_
  refine y_iconst (pc' := 229) dL_law_228 rfl ?_
  refine y_iadd (pc' := 230) dL_law_229 rfl ?_
  refine l_sld (pc' := 231) (by omega) hL dL_law_230 rfl ?_
  refine y_aload_n (pc' := 232) 0 rfl rfl dL_law_231 rfl ?_
  refine y_iload (pc' := 234) 4 rfl dL_law_232 rfl ?_
  refine y_iconst (pc' := 235) dL_law_234 rfl ?_
  refine y_iadd (pc' := 236) dL_law_235 rfl ?_
  refine l_sld (pc' := 237) (by omega) hL dL_law_236 rfl ?_
  refine y_aload_n (pc' := 238) 0 rfl rfl dL_law_237 rfl ?_
  refine y_iload (pc' := 240) 4 rfl dL_law_238 rfl ?_
  refine y_iconst (pc' := 241) dL_law_240 rfl ?_
  refine y_iadd (pc' := 242) dL_law_241 rfl ?_
  refine l_sld (pc' := 243) (by omega) hL dL_law_242 rfl ?_
  refine y_invV (as := [zI (B.2.2 (i + 1).toNat).toInt, zI (B.2.2 (i + 2).toNat).toInt, zI (B.2.2 (i + 3).toNat).toInt, zI (B.2.2 (i + 4).toNat).toInt, zI (B.2.2 (i + 5).toNat).toInt]) (st := []) (C := m_X11_feed) (d' := 1) (fs := [30, 32, 35, 39, 43, 49, 55, 57, 72, 74, 78, 80, 0, 0, 1]) (pc' := 246) dL_law_243 rfl t_2_53 k_X11_feed rfl (by decide) rfl rfl rfl rfl (Nat.le_of_ble_eq_true rfl) ⟨Nat.le_of_ble_eq_true rfl, Nat.le_of_ble_eq_true rfl⟩ hk ?_
  refine c_D_feed (d := 0) p1 ?_
  show y_Wp m_L_law 0 246 [(0, zR 300), (1, zR 27), (2, zR 0), (3, zR 26), (4, zI i)] [zI ((F_D_feed (w) ((B.2.2 (i + 1).toNat).toInt) ((B.2.2 (i + 2).toNat).toInt) ((B.2.2 (i + 3).toNat).toInt) ((B.2.2 (i + 4).toNat).toInt) ((B.2.2 (i + 5).toNat).toInt)).1)] ((F_D_feed (w) ((B.2.2 (i + 1).toNat).toInt) ((B.2.2 (i + 2).toNat).toInt) ((B.2.2 (i + 3).toNat).toInt) ((B.2.2 (i + 4).toNat).toInt) ((B.2.2 (i + 5).toNat).toInt)).2) _
  refine y_aload_n (pc' := 247) 2 rfl rfl dL_law_246 rfl ?_
  refine y_aload_n (pc' := 248) 0 rfl rfl dL_law_247 rfl ?_
  refine y_iload (pc' := 250) 4 rfl dL_law_248 rfl ?_
  refine y_iconst (pc' := 251) dL_law_250 rfl ?_
  refine y_iadd (pc' := 252) dL_law_251 rfl ?_
  refine l_sld (pc' := 253) (by omega) hL dL_law_252 rfl ?_
  refine y_aload_n (pc' := 254) 0 rfl rfl dL_law_253 rfl ?_
  refine y_iload (pc' := 256) 4 rfl dL_law_254 rfl ?_
  refine y_iconst (pc' := 257) dL_law_256 rfl ?_
  refine y_iadd (pc' := 258) dL_law_257 rfl ?_
  refine l_sld (pc' := 259) (by omega) hL dL_law_258 rfl ?_
  refine y_aload_n (pc' := 260) 0 rfl rfl dL_law_259 rfl ?_
  refine y_iload (pc' := 262) 4 rfl dL_law_260 rfl ?_
  refine y_iconst (pc' := 263) dL_law_262 rfl ?_
  refine y_iadd (pc' := 264) dL_law_263 rfl ?_
  refine l_sld (pc' := 265) (by omega) hL dL_law_264 rfl ?_
  refine y_aload_n (pc' := 266) 0 rfl rfl dL_law_265 rfl ?_
  refine y_iload (pc' := 268) 4 rfl dL_law_266 rfl ?_
  refine y_iconst (pc' := 269) dL_law_268 rfl ?_
  refine y_iadd (pc' := 270) dL_law_269 rfl ?_
  refine l_sld (pc' := 271) (by omega) hL dL_law_270 rfl ?_
  refine y_aload_n (pc' := 272) 0 rfl rfl dL_law_271 rfl ?_
  refine y_iload (pc' := 274) 4 rfl dL_law_272 rfl ?_
  refine y_iconst (pc' := 275) dL_law_274 rfl ?_
  refine y_iadd (pc' := 276) dL_law_275 rfl ?_
  refine l_sld (pc' := 277) (by omega) hL dL_law_276 rfl ?_
  refine y_invV (as := [zI (B.2.2 (i + 1).toNat).toInt, zI (B.2.2 (i + 2).toNat).toInt, zI (B.2.2 (i + 3).toNat).toInt, zI (B.2.2 (i + 4).toNat).toInt, zI (B.2.2 (i + 5).toNat).toInt]) (st := [zI ((F_D_feed (w) ((B.2.2 (i + 1).toNat).toInt) ((B.2.2 (i + 2).toNat).toInt) ((B.2.2 (i + 3).toNat).toInt) ((B.2.2 (i + 4).toNat).toInt) ((B.2.2 (i + 5).toNat).toInt)).1)]) (C := m_X12_feed) (d' := 1) (fs := [0, 3, 0, 0, 0, 0, 4, 5, 6, 7, 8, 9, 10, 0, 0, 11, 12, 13, 14, 15, 16, 0, 0, 0, 17, 18, 19, 20, 0, 0, 0, 21, 22, 0, 0, 23, 0, 1, 24, 0, 0, 25, 26, 0, 27, 0]) (pc' := 280) dL_law_277 rfl t_6_196 k_X12_feed rfl (by decide) rfl rfl rfl rfl (Nat.le_of_ble_eq_true rfl) ⟨Nat.le_of_ble_eq_true rfl, Nat.le_of_ble_eq_true rfl⟩ hk ?_
  refine c_M_feed (d := 0) p2 ?_
  show y_Wp m_L_law 0 280 [(0, zR 300), (1, zR 27), (2, zR 0), (3, zR 26), (4, zI i)] [zI ((F_M_feed ((F_D_feed (w) ((B.2.2 (i + 1).toNat).toInt) ((B.2.2 (i + 2).toNat).toInt) ((B.2.2 (i + 3).toNat).toInt) ((B.2.2 (i + 4).toNat).toInt) ((B.2.2 (i + 5).toNat).toInt)).2) ((B.2.2 (i + 1).toNat).toInt) ((B.2.2 (i + 2).toNat).toInt) ((B.2.2 (i + 3).toNat).toInt) ((B.2.2 (i + 4).toNat).toInt) ((B.2.2 (i + 5).toNat).toInt)).1), zI ((F_D_feed (w) ((B.2.2 (i + 1).toNat).toInt) ((B.2.2 (i + 2).toNat).toInt) ((B.2.2 (i + 3).toNat).toInt) ((B.2.2 (i + 4).toNat).toInt) ((B.2.2 (i + 5).toNat).toInt)).1)] ((F_M_feed ((F_D_feed (w) ((B.2.2 (i + 1).toNat).toInt) ((B.2.2 (i + 2).toNat).toInt) ((B.2.2 (i + 3).toNat).toInt) ((B.2.2 (i + 4).toNat).toInt) ((B.2.2 (i + 5).toNat).toInt)).2) ((B.2.2 (i + 1).toNat).toInt) ((B.2.2 (i + 2).toNat).toInt) ((B.2.2 (i + 3).toNat).toInt) ((B.2.2 (i + 4).toNat).toInt) ((B.2.2 (i + 5).toNat).toInt)).2) _
  rw [← p3]
  exact y_icmp_same 1516 dL_law_280 (by decide) (k _ p4)
set_option maxRecDepth 8000 in
set_option maxHeartbeats 2000000 in
theorem l_end {Rl : z_Wd → Prop} {B : Nat × Nat × (Nat → Int32)} {T : Nat × Nat} {kc ks : Nat} {i : Int} {w : z_Wd} (hs : S_end Rl) (hw : Rl w) (hi : 0 ≤ i ∧ i + 7 ≤ B.2.1) (hL : B.2.1 ≤ 3584) (hk : kc ≤ 601024 ∧ ks ≤ 7293034) (k : ∀ w', Rl w' → y_Wp m_L_law 0 1516 [(0, zR 300), (1, zR 27), (2, zR 0), (3, zR 26), (4, zI i)] [] w' (l_X B T kc ks)) : y_Wp m_L_law 0 285 [(0, zR 300), (1, zR 27), (2, zR 0), (3, zR 26), (4, zI i)] [] w (l_X B T kc ks) := by
  obtain ⟨p1, p2, p3, p4⟩ := hs w ((B.2.2 (i + 1).toNat).toInt) (z_r32 _) hw
  refine y_aload_n (pc' := 286) 1 rfl rfl dL_law_285 rfl ?_
  refine y_aload_n (pc' := 287) 0 rfl rfl dL_law_286 rfl ?_
  refine y_iload (pc' := 289) 4 rfl dL_law_287 rfl ?_
  refine y_iconst (pc' := 290) dL_law_289 rfl ?_
  refine y_iadd (pc' := 291) dL_law_290 rfl ?_
  refine l_sld (pc' := 292) (by omega) hL dL_law_291 rfl ?_
  refine y_invV (as := [zI (B.2.2 (i + 1).toNat).toInt]) (st := []) (C := m_X11_end) (d' := 1) (fs := [30, 32, 35, 39, 43, 49, 55, 57, 72, 74, 78, 80, 0, 0, 1]) (pc' := 295) dL_law_292 rfl t_2_68 k_X11_end rfl (by decide) rfl rfl rfl rfl (Nat.le_of_ble_eq_true rfl) ⟨Nat.le_of_ble_eq_true rfl, Nat.le_of_ble_eq_true rfl⟩ hk ?_
  refine c_D_end (d := 0) p1 ?_
  show y_Wp m_L_law 0 295 [(0, zR 300), (1, zR 27), (2, zR 0), (3, zR 26), (4, zI i)] [zI ((F_D_end (w) ((B.2.2 (i + 1).toNat).toInt)).1)] ((F_D_end (w) ((B.2.2 (i + 1).toNat).toInt)).2) _
  refine y_aload_n (pc' := 296) 2 rfl rfl dL_law_295 rfl ?_
  refine y_aload_n (pc' := 297) 0 rfl rfl dL_law_296 rfl ?_
  refine y_iload (pc' := 299) 4 rfl dL_law_297 rfl ?_
  refine y_iconst (pc' := 300) dL_law_299 rfl ?_
  refine y_iadd (pc' := 301) dL_law_300 rfl ?_
  refine l_sld (pc' := 302) (by omega) hL dL_law_301 rfl ?_
  refine y_invV (as := [zI (B.2.2 (i + 1).toNat).toInt]) (st := [zI ((F_D_end (w) ((B.2.2 (i + 1).toNat).toInt)).1)]) (C := m_X12_end) (d' := 0) (fs := [0, 3, 0, 0, 0, 0, 4, 5, 6, 7, 8, 9, 10, 0, 0, 11, 12, 13, 14, 15, 16, 0, 0, 0, 17, 18, 19, 20, 0, 0, 0, 21, 22, 0, 0, 23, 0, 1, 24, 0, 0, 25, 26, 0, 27, 0]) (pc' := 305) dL_law_302 rfl t_6_203 k_X12_end rfl (by decide) rfl rfl rfl rfl (Nat.le_of_ble_eq_true rfl) ⟨Nat.le_of_ble_eq_true rfl, Nat.le_of_ble_eq_true rfl⟩ hk ?_
  refine c_M_end (d := 0) p2 ?_
  show y_Wp m_L_law 0 305 [(0, zR 300), (1, zR 27), (2, zR 0), (3, zR 26), (4, zI i)] [zI ((F_M_end ((F_D_end (w) ((B.2.2 (i + 1).toNat).toInt)).2) ((B.2.2 (i + 1).toNat).toInt)).1), zI ((F_D_end (w) ((B.2.2 (i + 1).toNat).toInt)).1)] ((F_M_end ((F_D_end (w) ((B.2.2 (i + 1).toNat).toInt)).2) ((B.2.2 (i + 1).toNat).toInt)).2) _
  rw [← p3]
  exact y_icmp_same 1516 dL_law_305 (by decide) (k _ p4)
set_option maxRecDepth 8000 in
set_option maxHeartbeats 2000000 in
theorem l_fault {Rl : z_Wd → Prop} {B : Nat × Nat × (Nat → Int32)} {T : Nat × Nat} {kc ks : Nat} {i : Int} {w : z_Wd} (hs : S_fault Rl) (hw : Rl w) (hi : 0 ≤ i ∧ i + 7 ≤ B.2.1) (hL : B.2.1 ≤ 3584) (hk : kc ≤ 601024 ∧ ks ≤ 7293034) (k : ∀ w', Rl w' → y_Wp m_L_law 0 1516 [(0, zR 300), (1, zR 27), (2, zR 0), (3, zR 26), (4, zI i)] [] w' (l_X B T kc ks)) : y_Wp m_L_law 0 310 [(0, zR 300), (1, zR 27), (2, zR 0), (3, zR 26), (4, zI i)] [] w (l_X B T kc ks) := by
  obtain ⟨p1, p2, p3, p4⟩ := hs w ((B.2.2 (i + 1).toNat).toInt) (z_r32 _) hw
  refine y_aload_n (pc' := 311) 1 rfl rfl dL_law_310 rfl ?_
  refine y_aload_n (pc' := 312) 0 rfl rfl dL_law_311 rfl ?_
  refine y_iload (pc' := 314) 4 rfl dL_law_312 rfl ?_
  refine y_iconst (pc' := 315) dL_law_314 rfl ?_
  refine y_iadd (pc' := 316) dL_law_315 rfl ?_
  refine l_sld (pc' := 317) (by omega) hL dL_law_316 rfl ?_
  refine y_invV (as := [zI (B.2.2 (i + 1).toNat).toInt]) (st := []) (C := m_X11_fault) (d' := 67) (fs := [30, 32, 35, 39, 43, 49, 55, 57, 72, 74, 78, 80, 0, 0, 1]) (pc' := 320) dL_law_317 rfl t_2_76 k_X11_fault rfl (by decide) rfl rfl rfl rfl (Nat.le_of_ble_eq_true rfl) ⟨Nat.le_of_ble_eq_true rfl, Nat.le_of_ble_eq_true rfl⟩ hk ?_
  refine c_D_fault (d := 0) p1 ?_
  show y_Wp m_L_law 0 320 [(0, zR 300), (1, zR 27), (2, zR 0), (3, zR 26), (4, zI i)] [zI ((F_D_fault (w) ((B.2.2 (i + 1).toNat).toInt)).1)] ((F_D_fault (w) ((B.2.2 (i + 1).toNat).toInt)).2) _
  refine y_aload_n (pc' := 321) 2 rfl rfl dL_law_320 rfl ?_
  refine y_aload_n (pc' := 322) 0 rfl rfl dL_law_321 rfl ?_
  refine y_iload (pc' := 324) 4 rfl dL_law_322 rfl ?_
  refine y_iconst (pc' := 325) dL_law_324 rfl ?_
  refine y_iadd (pc' := 326) dL_law_325 rfl ?_
  refine l_sld (pc' := 327) (by omega) hL dL_law_326 rfl ?_
  refine y_invV (as := [zI (B.2.2 (i + 1).toNat).toInt]) (st := [zI ((F_D_fault (w) ((B.2.2 (i + 1).toNat).toInt)).1)]) (C := m_X12_fault) (d' := 66) (fs := [0, 3, 0, 0, 0, 0, 4, 5, 6, 7, 8, 9, 10, 0, 0, 11, 12, 13, 14, 15, 16, 0, 0, 0, 17, 18, 19, 20, 0, 0, 0, 21, 22, 0, 0, 23, 0, 1, 24, 0, 0, 25, 26, 0, 27, 0]) (pc' := 330) dL_law_327 rfl t_6_207 k_X12_fault rfl (by decide) rfl rfl rfl rfl (Nat.le_of_ble_eq_true rfl) ⟨Nat.le_of_ble_eq_true rfl, Nat.le_of_ble_eq_true rfl⟩ hk ?_
  refine c_M_fault (d := 0) p2 ?_
  show y_Wp m_L_law 0 330 [(0, zR 300), (1, zR 27), (2, zR 0), (3, zR 26), (4, zI i)] [zI ((F_M_fault ((F_D_fault (w) ((B.2.2 (i + 1).toNat).toInt)).2) ((B.2.2 (i + 1).toNat).toInt)).1), zI ((F_D_fault (w) ((B.2.2 (i + 1).toNat).toInt)).1)] ((F_M_fault ((F_D_fault (w) ((B.2.2 (i + 1).toNat).toInt)).2) ((B.2.2 (i + 1).toNat).toInt)).2) _
  rw [← p3]
  exact y_icmp_same 1516 dL_law_330 (by decide) (k _ p4)
set_option maxRecDepth 8000 in
set_option maxHeartbeats 2000000 in
theorem l_text {Rl : z_Wd → Prop} {B : Nat × Nat × (Nat → Int32)} {T : Nat × Nat} {kc ks : Nat} {i : Int} {w : z_Wd} (hs : S_text Rl) (hw : Rl w) (hi : 0 ≤ i ∧ i + 7 ≤ B.2.1) (hL : B.2.1 ≤ 3584) (hk : kc ≤ 601024 ∧ ks ≤ 7293034) (k : ∀ w', Rl w' → y_Wp m_L_law 0 1516 [(0, zR 300), (1, zR 27), (2, zR 0), (3, zR 26), (4, zI i)] [] w' (l_X B T kc ks)) : y_Wp m_L_law 0 335 [(0, zR 300), (1, zR 27), (2, zR 0), (3, zR 26), (4, zI i)] [] w (l_X B T kc ks) := by
  obtain ⟨p1, p2, p3, p4⟩ := hs w ((B.2.2 (i + 1).toNat).toInt) (z_r32 _) hw
  refine y_aload_n (pc' := 336) 1 rfl rfl dL_law_335 rfl ?_
  refine y_aload_n (pc' := 337) 0 rfl rfl dL_law_336 rfl ?_
  refine y_iload (pc' := 339) 4 rfl dL_law_337 rfl ?_
  refine y_iconst (pc' := 340) dL_law_339 rfl ?_
  refine y_iadd (pc' := 341) dL_law_340 rfl ?_
  refine l_sld (pc' := 342) (by omega) hL dL_law_341 rfl ?_
  refine y_invV (as := [zI (B.2.2 (i + 1).toNat).toInt]) (st := []) (C := m_X11_text) (d' := 68) (fs := [30, 32, 35, 39, 43, 49, 55, 57, 72, 74, 78, 80, 0, 0, 1]) (pc' := 345) dL_law_342 rfl t_3_30 k_X11_text rfl (by decide) rfl rfl rfl rfl (Nat.le_of_ble_eq_true rfl) ⟨Nat.le_of_ble_eq_true rfl, Nat.le_of_ble_eq_true rfl⟩ hk ?_
  refine c_D_text (d := 0) p1 ?_
  show y_Wp m_L_law 0 345 [(0, zR 300), (1, zR 27), (2, zR 0), (3, zR 26), (4, zI i)] [zI ((F_D_text (w) ((B.2.2 (i + 1).toNat).toInt)).1)] ((F_D_text (w) ((B.2.2 (i + 1).toNat).toInt)).2) _
  refine y_aload_n (pc' := 346) 2 rfl rfl dL_law_345 rfl ?_
  refine y_aload_n (pc' := 347) 0 rfl rfl dL_law_346 rfl ?_
  refine y_iload (pc' := 349) 4 rfl dL_law_347 rfl ?_
  refine y_iconst (pc' := 350) dL_law_349 rfl ?_
  refine y_iadd (pc' := 351) dL_law_350 rfl ?_
  refine l_sld (pc' := 352) (by omega) hL dL_law_351 rfl ?_
  refine y_invV (as := [zI (B.2.2 (i + 1).toNat).toInt]) (st := [zI ((F_D_text (w) ((B.2.2 (i + 1).toNat).toInt)).1)]) (C := m_X12_text) (d' := 66) (fs := [0, 3, 0, 0, 0, 0, 4, 5, 6, 7, 8, 9, 10, 0, 0, 11, 12, 13, 14, 15, 16, 0, 0, 0, 17, 18, 19, 20, 0, 0, 0, 21, 22, 0, 0, 23, 0, 1, 24, 0, 0, 25, 26, 0, 27, 0]) (pc' := 355) dL_law_352 rfl t_7_94 k_X12_text rfl (by decide) rfl rfl rfl rfl (Nat.le_of_ble_eq_true rfl) ⟨Nat.le_of_ble_eq_true rfl, Nat.le_of_ble_eq_true rfl⟩ hk ?_
  refine c_M_text (d := 0) p2 ?_
  show y_Wp m_L_law 0 355 [(0, zR 300), (1, zR 27), (2, zR 0), (3, zR 26), (4, zI i)] [zI ((F_M_text ((F_D_text (w) ((B.2.2 (i + 1).toNat).toInt)).2) ((B.2.2 (i + 1).toNat).toInt)).1), zI ((F_D_text (w) ((B.2.2 (i + 1).toNat).toInt)).1)] ((F_M_text ((F_D_text (w) ((B.2.2 (i + 1).toNat).toInt)).2) ((B.2.2 (i + 1).toNat).toInt)).2) _
  rw [← p3]
  exact y_icmp_same 1516 dL_law_355 (by decide) (k _ p4)
set_option maxRecDepth 8000 in
set_option maxHeartbeats 2000000 in
theorem l_rule {Rl : z_Wd → Prop} {B : Nat × Nat × (Nat → Int32)} {T : Nat × Nat} {kc ks : Nat} {i : Int} {w : z_Wd} (hs : S_rule Rl) (hw : Rl w) (hi : 0 ≤ i ∧ i + 7 ≤ B.2.1) (hL : B.2.1 ≤ 3584) (hk : kc ≤ 601024 ∧ ks ≤ 7293034) (k : ∀ w', Rl w' → y_Wp m_L_law 0 1516 [(0, zR 300), (1, zR 27), (2, zR 0), (3, zR 26), (4, zI i)] [] w' (l_X B T kc ks)) : y_Wp m_L_law 0 360 [(0, zR 300), (1, zR 27), (2, zR 0), (3, zR 26), (4, zI i)] [] w (l_X B T kc ks) := by
  obtain ⟨p1, p2, p3, p4⟩ := hs w ((B.2.2 (i + 1).toNat).toInt) (z_r32 _) hw
  refine y_aload_n (pc' := 361) 1 rfl rfl dL_law_360 rfl ?_
  refine y_aload_n (pc' := 362) 0 rfl rfl dL_law_361 rfl ?_
  refine y_iload (pc' := 364) 4 rfl dL_law_362 rfl ?_
  refine y_iconst (pc' := 365) dL_law_364 rfl ?_
  refine y_iadd (pc' := 366) dL_law_365 rfl ?_
  refine l_sld (pc' := 367) (by omega) hL dL_law_366 rfl ?_
  refine y_invV (as := [zI (B.2.2 (i + 1).toNat).toInt]) (st := []) (C := m_X11_rule) (d' := 2) (fs := [30, 32, 35, 39, 43, 49, 55, 57, 72, 74, 78, 80, 0, 0, 1]) (pc' := 370) dL_law_367 rfl t_3_91 k_X11_rule rfl (by decide) rfl rfl rfl rfl (Nat.le_of_ble_eq_true rfl) ⟨Nat.le_of_ble_eq_true rfl, Nat.le_of_ble_eq_true rfl⟩ hk ?_
  refine c_D_rule (d := 0) p1 ?_
  show y_Wp m_L_law 0 370 [(0, zR 300), (1, zR 27), (2, zR 0), (3, zR 26), (4, zI i)] [zI (F_D_rule (w) ((B.2.2 (i + 1).toNat).toInt))] (w) _
  refine y_aload_n (pc' := 371) 2 rfl rfl dL_law_370 rfl ?_
  refine y_aload_n (pc' := 372) 0 rfl rfl dL_law_371 rfl ?_
  refine y_iload (pc' := 374) 4 rfl dL_law_372 rfl ?_
  refine y_iconst (pc' := 375) dL_law_374 rfl ?_
  refine y_iadd (pc' := 376) dL_law_375 rfl ?_
  refine l_sld (pc' := 377) (by omega) hL dL_law_376 rfl ?_
  refine y_invV (as := [zI (B.2.2 (i + 1).toNat).toInt]) (st := [zI (F_D_rule (w) ((B.2.2 (i + 1).toNat).toInt))]) (C := m_X12_rule) (d' := 1) (fs := [0, 3, 0, 0, 0, 0, 4, 5, 6, 7, 8, 9, 10, 0, 0, 11, 12, 13, 14, 15, 16, 0, 0, 0, 17, 18, 19, 20, 0, 0, 0, 21, 22, 0, 0, 23, 0, 1, 24, 0, 0, 25, 26, 0, 27, 0]) (pc' := 380) dL_law_377 rfl t_7_102 k_X12_rule rfl (by decide) rfl rfl rfl rfl (Nat.le_of_ble_eq_true rfl) ⟨Nat.le_of_ble_eq_true rfl, Nat.le_of_ble_eq_true rfl⟩ hk ?_
  refine c_M_rule (d := 0) p2 ?_
  show y_Wp m_L_law 0 380 [(0, zR 300), (1, zR 27), (2, zR 0), (3, zR 26), (4, zI i)] [zI (F_M_rule (w) ((B.2.2 (i + 1).toNat).toInt)), zI (F_D_rule (w) ((B.2.2 (i + 1).toNat).toInt))] (w) _
  rw [← p3]
  exact y_icmp_same 1516 dL_law_380 (by decide) (k _ p4)
set_option maxRecDepth 8000 in
set_option maxHeartbeats 2000000 in
theorem l_well {Rl : z_Wd → Prop} {B : Nat × Nat × (Nat → Int32)} {T : Nat × Nat} {kc ks : Nat} {i : Int} {w : z_Wd} (hs : S_well Rl) (hw : Rl w) (hi : 0 ≤ i ∧ i + 7 ≤ B.2.1) (hL : B.2.1 ≤ 3584) (hk : kc ≤ 601024 ∧ ks ≤ 7293034) (k : ∀ w', Rl w' → y_Wp m_L_law 0 1516 [(0, zR 300), (1, zR 27), (2, zR 0), (3, zR 26), (4, zI i)] [] w' (l_X B T kc ks)) : y_Wp m_L_law 0 453 [(0, zR 300), (1, zR 27), (2, zR 0), (3, zR 26), (4, zI i)] [] w (l_X B T kc ks) := by
  obtain ⟨p1, p2, p3, p4⟩ := hs w ((B.2.2 (i + 1).toNat).toInt) ((B.2.2 (i + 2).toNat).toInt) (z_r32 _) (z_r32 _) hw
  refine y_aload_n (pc' := 454) 1 rfl rfl dL_law_453 rfl ?_
  refine y_aload_n (pc' := 455) 0 rfl rfl dL_law_454 rfl ?_
  refine y_iload (pc' := 457) 4 rfl dL_law_455 rfl ?_
  refine y_iconst (pc' := 458) dL_law_457 rfl ?_
  refine y_iadd (pc' := 459) dL_law_458 rfl ?_
  refine l_sld (pc' := 460) (by omega) hL dL_law_459 rfl ?_
  refine y_aload_n (pc' := 461) 0 rfl rfl dL_law_460 rfl ?_
  refine y_iload (pc' := 463) 4 rfl dL_law_461 rfl ?_
  refine y_iconst (pc' := 464) dL_law_463 rfl ?_
  refine y_iadd (pc' := 465) dL_law_464 rfl ?_
  refine l_sld (pc' := 466) (by omega) hL dL_law_465 rfl ?_
  refine y_invV (as := [zI (B.2.2 (i + 1).toNat).toInt, zI (B.2.2 (i + 2).toNat).toInt]) (st := []) (C := m_X11_well) (d' := 3) (fs := [30, 32, 35, 39, 43, 49, 55, 57, 72, 74, 78, 80, 0, 0, 1]) (pc' := 469) dL_law_466 rfl t_3_107 k_X11_well rfl (by decide) rfl rfl rfl rfl (Nat.le_of_ble_eq_true rfl) ⟨Nat.le_of_ble_eq_true rfl, Nat.le_of_ble_eq_true rfl⟩ hk ?_
  refine c_D_well (d := 0) p1 ?_
  show y_Wp m_L_law 0 469 [(0, zR 300), (1, zR 27), (2, zR 0), (3, zR 26), (4, zI i)] [zI (F_D_well (w) ((B.2.2 (i + 1).toNat).toInt) ((B.2.2 (i + 2).toNat).toInt))] (w) _
  refine y_aload_n (pc' := 470) 2 rfl rfl dL_law_469 rfl ?_
  refine y_aload_n (pc' := 471) 0 rfl rfl dL_law_470 rfl ?_
  refine y_iload (pc' := 473) 4 rfl dL_law_471 rfl ?_
  refine y_iconst (pc' := 474) dL_law_473 rfl ?_
  refine y_iadd (pc' := 475) dL_law_474 rfl ?_
  refine l_sld (pc' := 476) (by omega) hL dL_law_475 rfl ?_
  refine y_aload_n (pc' := 477) 0 rfl rfl dL_law_476 rfl ?_
  refine y_iload (pc' := 479) 4 rfl dL_law_477 rfl ?_
  refine y_iconst (pc' := 480) dL_law_479 rfl ?_
  refine y_iadd (pc' := 481) dL_law_480 rfl ?_
  refine l_sld (pc' := 482) (by omega) hL dL_law_481 rfl ?_
  refine y_invV (as := [zI (B.2.2 (i + 1).toNat).toInt, zI (B.2.2 (i + 2).toNat).toInt]) (st := [zI (F_D_well (w) ((B.2.2 (i + 1).toNat).toInt) ((B.2.2 (i + 2).toNat).toInt))]) (C := m_X12_well) (d' := 4) (fs := [0, 3, 0, 0, 0, 0, 4, 5, 6, 7, 8, 9, 10, 0, 0, 11, 12, 13, 14, 15, 16, 0, 0, 0, 17, 18, 19, 20, 0, 0, 0, 21, 22, 0, 0, 23, 0, 1, 24, 0, 0, 25, 26, 0, 27, 0]) (pc' := 485) dL_law_482 rfl t_7_187 k_X12_well rfl (by decide) rfl rfl rfl rfl (Nat.le_of_ble_eq_true rfl) ⟨Nat.le_of_ble_eq_true rfl, Nat.le_of_ble_eq_true rfl⟩ hk ?_
  refine c_M_well (d := 0) p2 ?_
  show y_Wp m_L_law 0 485 [(0, zR 300), (1, zR 27), (2, zR 0), (3, zR 26), (4, zI i)] [zI (F_M_well (w) ((B.2.2 (i + 1).toNat).toInt) ((B.2.2 (i + 2).toNat).toInt)), zI (F_D_well (w) ((B.2.2 (i + 1).toNat).toInt) ((B.2.2 (i + 2).toNat).toInt))] (w) _
  rw [← p3]
  exact y_icmp_same 1516 dL_law_485 (by decide) (k _ p4)
set_option maxRecDepth 8000 in
set_option maxHeartbeats 2000000 in
theorem l_file {Rl : z_Wd → Prop} {B : Nat × Nat × (Nat → Int32)} {T : Nat × Nat} {kc ks : Nat} {i : Int} {w : z_Wd} (hs : S_file Rl) (hw : Rl w) (hi : 0 ≤ i ∧ i + 7 ≤ B.2.1) (hL : B.2.1 ≤ 3584) (hk : kc ≤ 601024 ∧ ks ≤ 7293034) (k : ∀ w', Rl w' → y_Wp m_L_law 0 1516 [(0, zR 300), (1, zR 27), (2, zR 0), (3, zR 26), (4, zI i)] [] w' (l_X B T kc ks)) : y_Wp m_L_law 0 490 [(0, zR 300), (1, zR 27), (2, zR 0), (3, zR 26), (4, zI i)] [] w (l_X B T kc ks) := by
  obtain ⟨p1, p2, p3, p4⟩ := hs w ((B.2.2 (i + 1).toNat).toInt) ((B.2.2 (i + 2).toNat).toInt) (z_r32 _) (z_r32 _) hw
  refine y_aload_n (pc' := 491) 1 rfl rfl dL_law_490 rfl ?_
  refine y_aload_n (pc' := 492) 0 rfl rfl dL_law_491 rfl ?_
  refine y_iload (pc' := 494) 4 rfl dL_law_492 rfl ?_
  refine y_iconst (pc' := 495) dL_law_494 rfl ?_
  refine y_iadd (pc' := 496) dL_law_495 rfl ?_
  refine l_sld (pc' := 497) (by omega) hL dL_law_496 rfl ?_
  refine y_aload_n (pc' := 498) 0 rfl rfl dL_law_497 rfl ?_
  refine y_iload (pc' := 500) 4 rfl dL_law_498 rfl ?_
  refine y_iconst (pc' := 501) dL_law_500 rfl ?_
  refine y_iadd (pc' := 502) dL_law_501 rfl ?_
  refine l_sld (pc' := 503) (by omega) hL dL_law_502 rfl ?_
  refine y_invV (as := [zI (B.2.2 (i + 1).toNat).toInt, zI (B.2.2 (i + 2).toNat).toInt]) (st := []) (C := m_X11_file) (d' := 3) (fs := [30, 32, 35, 39, 43, 49, 55, 57, 72, 74, 78, 80, 0, 0, 1]) (pc' := 506) dL_law_503 rfl t_3_145 k_X11_file rfl (by decide) rfl rfl rfl rfl (Nat.le_of_ble_eq_true rfl) ⟨Nat.le_of_ble_eq_true rfl, Nat.le_of_ble_eq_true rfl⟩ hk ?_
  refine c_D_file (d := 0) p1 ?_
  show y_Wp m_L_law 0 506 [(0, zR 300), (1, zR 27), (2, zR 0), (3, zR 26), (4, zI i)] [zI (F_D_file (w) ((B.2.2 (i + 1).toNat).toInt) ((B.2.2 (i + 2).toNat).toInt))] (w) _
  refine y_aload_n (pc' := 507) 2 rfl rfl dL_law_506 rfl ?_
  refine y_aload_n (pc' := 508) 0 rfl rfl dL_law_507 rfl ?_
  refine y_iload (pc' := 510) 4 rfl dL_law_508 rfl ?_
  refine y_iconst (pc' := 511) dL_law_510 rfl ?_
  refine y_iadd (pc' := 512) dL_law_511 rfl ?_
  refine l_sld (pc' := 513) (by omega) hL dL_law_512 rfl ?_
  refine y_aload_n (pc' := 514) 0 rfl rfl dL_law_513 rfl ?_
  refine y_iload (pc' := 516) 4 rfl dL_law_514 rfl ?_
  refine y_iconst (pc' := 517) dL_law_516 rfl ?_
  refine y_iadd (pc' := 518) dL_law_517 rfl ?_
  refine l_sld (pc' := 519) (by omega) hL dL_law_518 rfl ?_
  refine y_invV (as := [zI (B.2.2 (i + 1).toNat).toInt, zI (B.2.2 (i + 2).toNat).toInt]) (st := [zI (F_D_file (w) ((B.2.2 (i + 1).toNat).toInt) ((B.2.2 (i + 2).toNat).toInt))]) (C := m_X12_file) (d' := 5) (fs := [0, 3, 0, 0, 0, 0, 4, 5, 6, 7, 8, 9, 10, 0, 0, 11, 12, 13, 14, 15, 16, 0, 0, 0, 17, 18, 19, 20, 0, 0, 0, 21, 22, 0, 0, 23, 0, 1, 24, 0, 0, 25, 26, 0, 27, 0]) (pc' := 522) dL_law_519 rfl t_7_203 k_X12_file rfl (by decide) rfl rfl rfl rfl (Nat.le_of_ble_eq_true rfl) ⟨Nat.le_of_ble_eq_true rfl, Nat.le_of_ble_eq_true rfl⟩ hk ?_
  refine c_M_file (d := 0) p2 ?_
  show y_Wp m_L_law 0 522 [(0, zR 300), (1, zR 27), (2, zR 0), (3, zR 26), (4, zI i)] [zI (F_M_file (w) ((B.2.2 (i + 1).toNat).toInt) ((B.2.2 (i + 2).toNat).toInt)), zI (F_D_file (w) ((B.2.2 (i + 1).toNat).toInt) ((B.2.2 (i + 2).toNat).toInt))] (w) _
  rw [← p3]
  exact y_icmp_same 1516 dL_law_522 (by decide) (k _ p4)
set_option maxRecDepth 8000 in
set_option maxHeartbeats 2000000 in
theorem l_law {Rl : z_Wd → Prop} {B : Nat × Nat × (Nat → Int32)} {T : Nat × Nat} {kc ks : Nat} {i : Int} {w : z_Wd} (hs : S_law Rl) (hw : Rl w) (hi : 0 ≤ i ∧ i + 7 ≤ B.2.1) (hL : B.2.1 ≤ 3584) (hk : kc ≤ 601024 ∧ ks ≤ 7293034) (k : ∀ w', Rl w' → y_Wp m_L_law 0 1516 [(0, zR 300), (1, zR 27), (2, zR 0), (3, zR 26), (4, zI i)] [] w' (l_X B T kc ks)) : y_Wp m_L_law 0 527 [(0, zR 300), (1, zR 27), (2, zR 0), (3, zR 26), (4, zI i)] [] w (l_X B T kc ks) := by
  obtain ⟨p1, p2, p3, p4⟩ := hs w ((B.2.2 (i + 1).toNat).toInt) (z_r32 _) hw
  refine y_aload_n (pc' := 528) 1 rfl rfl dL_law_527 rfl ?_
  refine y_aload_n (pc' := 529) 0 rfl rfl dL_law_528 rfl ?_
  refine y_iload (pc' := 531) 4 rfl dL_law_529 rfl ?_
  refine y_iconst (pc' := 532) dL_law_531 rfl ?_
  refine y_iadd (pc' := 533) dL_law_532 rfl ?_
  refine l_sld (pc' := 534) (by omega) hL dL_law_533 rfl ?_
  refine y_invV (as := [zI (B.2.2 (i + 1).toNat).toInt]) (st := []) (C := m_X11_law) (d' := 1) (fs := [30, 32, 35, 39, 43, 49, 55, 57, 72, 74, 78, 80, 0, 0, 1]) (pc' := 537) dL_law_534 rfl t_3_166 k_X11_law rfl (by decide) rfl rfl rfl rfl (Nat.le_of_ble_eq_true rfl) ⟨Nat.le_of_ble_eq_true rfl, Nat.le_of_ble_eq_true rfl⟩ hk ?_
  refine c_D_law (d := 0) p1 ?_
  show y_Wp m_L_law 0 537 [(0, zR 300), (1, zR 27), (2, zR 0), (3, zR 26), (4, zI i)] [zI ((F_D_law (w) ((B.2.2 (i + 1).toNat).toInt)).1)] ((F_D_law (w) ((B.2.2 (i + 1).toNat).toInt)).2) _
  refine y_aload_n (pc' := 538) 2 rfl rfl dL_law_537 rfl ?_
  refine y_aload_n (pc' := 539) 0 rfl rfl dL_law_538 rfl ?_
  refine y_iload (pc' := 541) 4 rfl dL_law_539 rfl ?_
  refine y_iconst (pc' := 542) dL_law_541 rfl ?_
  refine y_iadd (pc' := 543) dL_law_542 rfl ?_
  refine l_sld (pc' := 544) (by omega) hL dL_law_543 rfl ?_
  refine y_invV (as := [zI (B.2.2 (i + 1).toNat).toInt]) (st := [zI ((F_D_law (w) ((B.2.2 (i + 1).toNat).toInt)).1)]) (C := m_X12_law) (d' := 1) (fs := [0, 3, 0, 0, 0, 0, 4, 5, 6, 7, 8, 9, 10, 0, 0, 11, 12, 13, 14, 15, 16, 0, 0, 0, 17, 18, 19, 20, 0, 0, 0, 21, 22, 0, 0, 23, 0, 1, 24, 0, 0, 25, 26, 0, 27, 0]) (pc' := 547) dL_law_544 rfl t_7_215 k_X12_law rfl (by decide) rfl rfl rfl rfl (Nat.le_of_ble_eq_true rfl) ⟨Nat.le_of_ble_eq_true rfl, Nat.le_of_ble_eq_true rfl⟩ hk ?_
  refine c_M_law (d := 0) p2 ?_
  show y_Wp m_L_law 0 547 [(0, zR 300), (1, zR 27), (2, zR 0), (3, zR 26), (4, zI i)] [zI ((F_M_law ((F_D_law (w) ((B.2.2 (i + 1).toNat).toInt)).2) ((B.2.2 (i + 1).toNat).toInt)).1), zI ((F_D_law (w) ((B.2.2 (i + 1).toNat).toInt)).1)] ((F_M_law ((F_D_law (w) ((B.2.2 (i + 1).toNat).toInt)).2) ((B.2.2 (i + 1).toNat).toInt)).2) _
  rw [← p3]
  exact y_icmp_same 1516 dL_law_547 (by decide) (k _ p4)
set_option maxRecDepth 8000 in
set_option maxHeartbeats 2000000 in
theorem l_dip {Rl : z_Wd → Prop} {B : Nat × Nat × (Nat → Int32)} {T : Nat × Nat} {kc ks : Nat} {i : Int} {w : z_Wd} (hs : S_dip Rl) (hw : Rl w) (hi : 0 ≤ i ∧ i + 7 ≤ B.2.1) (hL : B.2.1 ≤ 3584) (hk : kc ≤ 601024 ∧ ks ≤ 7293034) (k : ∀ w', Rl w' → y_Wp m_L_law 0 1516 [(0, zR 300), (1, zR 27), (2, zR 0), (3, zR 26), (4, zI i)] [] w' (l_X B T kc ks)) : y_Wp m_L_law 0 552 [(0, zR 300), (1, zR 27), (2, zR 0), (3, zR 26), (4, zI i)] [] w (l_X B T kc ks) := by
  obtain ⟨p1, p2, p3, p4⟩ := hs w ((B.2.2 (i + 1).toNat).toInt) ((B.2.2 (i + 2).toNat).toInt) (z_r32 _) (z_r32 _) hw
  refine y_aload_n (pc' := 553) 1 rfl rfl dL_law_552 rfl ?_
  refine y_aload_n (pc' := 554) 0 rfl rfl dL_law_553 rfl ?_
  refine y_iload (pc' := 556) 4 rfl dL_law_554 rfl ?_
  refine y_iconst (pc' := 557) dL_law_556 rfl ?_
  refine y_iadd (pc' := 558) dL_law_557 rfl ?_
  refine l_sld (pc' := 559) (by omega) hL dL_law_558 rfl ?_
  refine y_aload_n (pc' := 560) 0 rfl rfl dL_law_559 rfl ?_
  refine y_iload (pc' := 562) 4 rfl dL_law_560 rfl ?_
  refine y_iconst (pc' := 563) dL_law_562 rfl ?_
  refine y_iadd (pc' := 564) dL_law_563 rfl ?_
  refine l_sld (pc' := 565) (by omega) hL dL_law_564 rfl ?_
  refine y_invV (as := [zI (B.2.2 (i + 1).toNat).toInt, zI (B.2.2 (i + 2).toNat).toInt]) (st := []) (C := m_X11_dip) (d' := 4) (fs := [30, 32, 35, 39, 43, 49, 55, 57, 72, 74, 78, 80, 0, 0, 1]) (pc' := 568) dL_law_565 rfl t_3_174 k_X11_dip rfl (by decide) rfl rfl rfl rfl (Nat.le_of_ble_eq_true rfl) ⟨Nat.le_of_ble_eq_true rfl, Nat.le_of_ble_eq_true rfl⟩ hk ?_
  refine c_D_dip (d := 0) p1 ?_
  show y_Wp m_L_law 0 568 [(0, zR 300), (1, zR 27), (2, zR 0), (3, zR 26), (4, zI i)] [zI ((F_D_dip (w) ((B.2.2 (i + 1).toNat).toInt) ((B.2.2 (i + 2).toNat).toInt)).1)] ((F_D_dip (w) ((B.2.2 (i + 1).toNat).toInt) ((B.2.2 (i + 2).toNat).toInt)).2) _
  refine y_aload_n (pc' := 569) 2 rfl rfl dL_law_568 rfl ?_
  refine y_aload_n (pc' := 570) 0 rfl rfl dL_law_569 rfl ?_
  refine y_iload (pc' := 572) 4 rfl dL_law_570 rfl ?_
  refine y_iconst (pc' := 573) dL_law_572 rfl ?_
  refine y_iadd (pc' := 574) dL_law_573 rfl ?_
  refine l_sld (pc' := 575) (by omega) hL dL_law_574 rfl ?_
  refine y_aload_n (pc' := 576) 0 rfl rfl dL_law_575 rfl ?_
  refine y_iload (pc' := 578) 4 rfl dL_law_576 rfl ?_
  refine y_iconst (pc' := 579) dL_law_578 rfl ?_
  refine y_iadd (pc' := 580) dL_law_579 rfl ?_
  refine l_sld (pc' := 581) (by omega) hL dL_law_580 rfl ?_
  refine y_invV (as := [zI (B.2.2 (i + 1).toNat).toInt, zI (B.2.2 (i + 2).toNat).toInt]) (st := [zI ((F_D_dip (w) ((B.2.2 (i + 1).toNat).toInt) ((B.2.2 (i + 2).toNat).toInt)).1)]) (C := m_X12_dip) (d' := 5) (fs := [0, 3, 0, 0, 0, 0, 4, 5, 6, 7, 8, 9, 10, 0, 0, 11, 12, 13, 14, 15, 16, 0, 0, 0, 17, 18, 19, 20, 0, 0, 0, 21, 22, 0, 0, 23, 0, 1, 24, 0, 0, 25, 26, 0, 27, 0]) (pc' := 584) dL_law_581 rfl t_7_219 k_X12_dip rfl (by decide) rfl rfl rfl rfl (Nat.le_of_ble_eq_true rfl) ⟨Nat.le_of_ble_eq_true rfl, Nat.le_of_ble_eq_true rfl⟩ hk ?_
  refine c_M_dip (d := 0) p2 ?_
  show y_Wp m_L_law 0 584 [(0, zR 300), (1, zR 27), (2, zR 0), (3, zR 26), (4, zI i)] [zI ((F_M_dip ((F_D_dip (w) ((B.2.2 (i + 1).toNat).toInt) ((B.2.2 (i + 2).toNat).toInt)).2) ((B.2.2 (i + 1).toNat).toInt) ((B.2.2 (i + 2).toNat).toInt)).1), zI ((F_D_dip (w) ((B.2.2 (i + 1).toNat).toInt) ((B.2.2 (i + 2).toNat).toInt)).1)] ((F_M_dip ((F_D_dip (w) ((B.2.2 (i + 1).toNat).toInt) ((B.2.2 (i + 2).toNat).toInt)).2) ((B.2.2 (i + 1).toNat).toInt) ((B.2.2 (i + 2).toNat).toInt)).2) _
  rw [← p3]
  exact y_icmp_same 1516 dL_law_584 (by decide) (k _ p4)
set_option maxRecDepth 8000 in
set_option maxHeartbeats 2000000 in
theorem l_scratch {Rl : z_Wd → Prop} {B : Nat × Nat × (Nat → Int32)} {T : Nat × Nat} {kc ks : Nat} {i : Int} {w : z_Wd} (hs : S_scratch Rl) (hw : Rl w) (hi : 0 ≤ i ∧ i + 7 ≤ B.2.1) (hL : B.2.1 ≤ 3584) (hk : kc ≤ 601024 ∧ ks ≤ 7293034) (k : ∀ w', Rl w' → y_Wp m_L_law 0 1516 [(0, zR 300), (1, zR 27), (2, zR 0), (3, zR 26), (4, zI i)] [] w' (l_X B T kc ks)) : y_Wp m_L_law 0 589 [(0, zR 300), (1, zR 27), (2, zR 0), (3, zR 26), (4, zI i)] [] w (l_X B T kc ks) := by
  obtain ⟨p1, p2, p3, p4⟩ := hs w ((B.2.2 (i + 1).toNat).toInt) ((B.2.2 (i + 2).toNat).toInt) (z_r32 _) (z_r32 _) hw
  refine y_aload_n (pc' := 590) 1 rfl rfl dL_law_589 rfl ?_
  refine y_aload_n (pc' := 591) 0 rfl rfl dL_law_590 rfl ?_
  refine y_iload (pc' := 593) 4 rfl dL_law_591 rfl ?_
  refine y_iconst (pc' := 594) dL_law_593 rfl ?_
  refine y_iadd (pc' := 595) dL_law_594 rfl ?_
  refine l_sld (pc' := 596) (by omega) hL dL_law_595 rfl ?_
  refine y_aload_n (pc' := 597) 0 rfl rfl dL_law_596 rfl ?_
  refine y_iload (pc' := 599) 4 rfl dL_law_597 rfl ?_
  refine y_iconst (pc' := 600) dL_law_599 rfl ?_
  refine y_iadd (pc' := 601) dL_law_600 rfl ?_
  refine l_sld (pc' := 602) (by omega) hL dL_law_601 rfl ?_
  refine y_invV (as := [zI (B.2.2 (i + 1).toNat).toInt, zI (B.2.2 (i + 2).toNat).toInt]) (st := []) (C := m_X11_scratch) (d' := 5) (fs := [30, 32, 35, 39, 43, 49, 55, 57, 72, 74, 78, 80, 0, 0, 1]) (pc' := 605) dL_law_602 rfl t_3_227 k_X11_scratch rfl (by decide) rfl rfl rfl rfl (Nat.le_of_ble_eq_true rfl) ⟨Nat.le_of_ble_eq_true rfl, Nat.le_of_ble_eq_true rfl⟩ hk ?_
  refine c_D_scratch (d := 0) p1 ?_
  show y_Wp m_L_law 0 605 [(0, zR 300), (1, zR 27), (2, zR 0), (3, zR 26), (4, zI i)] [zI ((F_D_scratch (w) ((B.2.2 (i + 1).toNat).toInt) ((B.2.2 (i + 2).toNat).toInt)).1)] ((F_D_scratch (w) ((B.2.2 (i + 1).toNat).toInt) ((B.2.2 (i + 2).toNat).toInt)).2) _
  refine y_aload_n (pc' := 606) 2 rfl rfl dL_law_605 rfl ?_
  refine y_aload_n (pc' := 607) 0 rfl rfl dL_law_606 rfl ?_
  refine y_iload (pc' := 609) 4 rfl dL_law_607 rfl ?_
  refine y_iconst (pc' := 610) dL_law_609 rfl ?_
  refine y_iadd (pc' := 611) dL_law_610 rfl ?_
  refine l_sld (pc' := 612) (by omega) hL dL_law_611 rfl ?_
  refine y_aload_n (pc' := 613) 0 rfl rfl dL_law_612 rfl ?_
  refine y_iload (pc' := 615) 4 rfl dL_law_613 rfl ?_
  refine y_iconst (pc' := 616) dL_law_615 rfl ?_
  refine y_iadd (pc' := 617) dL_law_616 rfl ?_
  refine l_sld (pc' := 618) (by omega) hL dL_law_617 rfl ?_
  refine y_invV (as := [zI (B.2.2 (i + 1).toNat).toInt, zI (B.2.2 (i + 2).toNat).toInt]) (st := [zI ((F_D_scratch (w) ((B.2.2 (i + 1).toNat).toInt) ((B.2.2 (i + 2).toNat).toInt)).1)]) (C := m_X12_scratch) (d' := 5) (fs := [0, 3, 0, 0, 0, 0, 4, 5, 6, 7, 8, 9, 10, 0, 0, 11, 12, 13, 14, 15, 16, 0, 0, 0, 17, 18, 19, 20, 0, 0, 0, 21, 22, 0, 0, 23, 0, 1, 24, 0, 0, 25, 26, 0, 27, 0]) (pc' := 621) dL_law_618 rfl t_7_239 k_X12_scratch rfl (by decide) rfl rfl rfl rfl (Nat.le_of_ble_eq_true rfl) ⟨Nat.le_of_ble_eq_true rfl, Nat.le_of_ble_eq_true rfl⟩ hk ?_
  refine c_M_scratch (d := 0) p2 ?_
  show y_Wp m_L_law 0 621 [(0, zR 300), (1, zR 27), (2, zR 0), (3, zR 26), (4, zI i)] [zI ((F_M_scratch ((F_D_scratch (w) ((B.2.2 (i + 1).toNat).toInt) ((B.2.2 (i + 2).toNat).toInt)).2) ((B.2.2 (i + 1).toNat).toInt) ((B.2.2 (i + 2).toNat).toInt)).1), zI ((F_D_scratch (w) ((B.2.2 (i + 1).toNat).toInt) ((B.2.2 (i + 2).toNat).toInt)).1)] ((F_M_scratch ((F_D_scratch (w) ((B.2.2 (i + 1).toNat).toInt) ((B.2.2 (i + 2).toNat).toInt)).2) ((B.2.2 (i + 1).toNat).toInt) ((B.2.2 (i + 2).toNat).toInt)).2) _
  rw [← p3]
  exact y_icmp_same 1516 dL_law_621 (by decide) (k _ p4)
set_option maxRecDepth 8000 in
set_option maxHeartbeats 2000000 in
theorem l_blot {Rl : z_Wd → Prop} {B : Nat × Nat × (Nat → Int32)} {T : Nat × Nat} {kc ks : Nat} {i : Int} {w : z_Wd} (hs : S_blot Rl) (hw : Rl w) (hi : 0 ≤ i ∧ i + 7 ≤ B.2.1) (hL : B.2.1 ≤ 3584) (hk : kc ≤ 601024 ∧ ks ≤ 7293034) (k : ∀ w', Rl w' → y_Wp m_L_law 0 1516 [(0, zR 300), (1, zR 27), (2, zR 0), (3, zR 26), (4, zI i)] [] w' (l_X B T kc ks)) : y_Wp m_L_law 0 626 [(0, zR 300), (1, zR 27), (2, zR 0), (3, zR 26), (4, zI i)] [] w (l_X B T kc ks) := by
  obtain ⟨p1, p2, p3, p4⟩ := hs w ((B.2.2 (i + 1).toNat).toInt) (z_r32 _) hw
  refine y_aload_n (pc' := 627) 1 rfl rfl dL_law_626 rfl ?_
  refine y_aload_n (pc' := 628) 0 rfl rfl dL_law_627 rfl ?_
  refine y_iload (pc' := 630) 4 rfl dL_law_628 rfl ?_
  refine y_iconst (pc' := 631) dL_law_630 rfl ?_
  refine y_iadd (pc' := 632) dL_law_631 rfl ?_
  refine l_sld (pc' := 633) (by omega) hL dL_law_632 rfl ?_
  refine y_invV (as := [zI (B.2.2 (i + 1).toNat).toInt]) (st := []) (C := m_X11_blot) (d' := 5) (fs := [30, 32, 35, 39, 43, 49, 55, 57, 72, 74, 78, 80, 0, 0, 1]) (pc' := 636) dL_law_633 rfl t_4_13 k_X11_blot rfl (by decide) rfl rfl rfl rfl (Nat.le_of_ble_eq_true rfl) ⟨Nat.le_of_ble_eq_true rfl, Nat.le_of_ble_eq_true rfl⟩ hk ?_
  refine c_D_blot (d := 0) p1 ?_
  show y_Wp m_L_law 0 636 [(0, zR 300), (1, zR 27), (2, zR 0), (3, zR 26), (4, zI i)] [zI ((F_D_blot (w) ((B.2.2 (i + 1).toNat).toInt)).1)] ((F_D_blot (w) ((B.2.2 (i + 1).toNat).toInt)).2) _
  refine y_aload_n (pc' := 637) 2 rfl rfl dL_law_636 rfl ?_
  refine y_aload_n (pc' := 638) 0 rfl rfl dL_law_637 rfl ?_
  refine y_iload (pc' := 640) 4 rfl dL_law_638 rfl ?_
  refine y_iconst (pc' := 641) dL_law_640 rfl ?_
  refine y_iadd (pc' := 642) dL_law_641 rfl ?_
  refine l_sld (pc' := 643) (by omega) hL dL_law_642 rfl ?_
  refine y_invV (as := [zI (B.2.2 (i + 1).toNat).toInt]) (st := [zI ((F_D_blot (w) ((B.2.2 (i + 1).toNat).toInt)).1)]) (C := m_X12_blot) (d' := 3) (fs := [0, 3, 0, 0, 0, 0, 4, 5, 6, 7, 8, 9, 10, 0, 0, 11, 12, 13, 14, 15, 16, 0, 0, 0, 17, 18, 19, 20, 0, 0, 0, 21, 22, 0, 0, 23, 0, 1, 24, 0, 0, 25, 26, 0, 27, 0]) (pc' := 646) dL_law_643 rfl t_8_15 k_X12_blot rfl (by decide) rfl rfl rfl rfl (Nat.le_of_ble_eq_true rfl) ⟨Nat.le_of_ble_eq_true rfl, Nat.le_of_ble_eq_true rfl⟩ hk ?_
  refine c_M_blot (d := 0) p2 ?_
  show y_Wp m_L_law 0 646 [(0, zR 300), (1, zR 27), (2, zR 0), (3, zR 26), (4, zI i)] [zI ((F_M_blot ((F_D_blot (w) ((B.2.2 (i + 1).toNat).toInt)).2) ((B.2.2 (i + 1).toNat).toInt)).1), zI ((F_D_blot (w) ((B.2.2 (i + 1).toNat).toInt)).1)] ((F_M_blot ((F_D_blot (w) ((B.2.2 (i + 1).toNat).toInt)).2) ((B.2.2 (i + 1).toNat).toInt)).2) _
  rw [← p3]
  exact y_icmp_same 1516 dL_law_646 (by decide) (k _ p4)
set_option maxRecDepth 8000 in
set_option maxHeartbeats 2000000 in
theorem l_water {Rl : z_Wd → Prop} {B : Nat × Nat × (Nat → Int32)} {T : Nat × Nat} {kc ks : Nat} {i : Int} {w : z_Wd} (hs : S_water Rl) (hw : Rl w) (hi : 0 ≤ i ∧ i + 7 ≤ B.2.1) (hL : B.2.1 ≤ 3584) (hk : kc ≤ 601024 ∧ ks ≤ 7293034) (k : ∀ w', Rl w' → y_Wp m_L_law 0 1516 [(0, zR 300), (1, zR 27), (2, zR 0), (3, zR 26), (4, zI i)] [] w' (l_X B T kc ks)) : y_Wp m_L_law 0 651 [(0, zR 300), (1, zR 27), (2, zR 0), (3, zR 26), (4, zI i)] [] w (l_X B T kc ks) := by
  obtain ⟨p1, p2, p3, p4⟩ := hs w ((B.2.2 (i + 1).toNat).toInt) (z_r32 _) hw
  refine y_aload_n (pc' := 652) 1 rfl rfl dL_law_651 rfl ?_
  refine y_aload_n (pc' := 653) 0 rfl rfl dL_law_652 rfl ?_
  refine y_iload (pc' := 655) 4 rfl dL_law_653 rfl ?_
  refine y_iconst (pc' := 656) dL_law_655 rfl ?_
  refine y_iadd (pc' := 657) dL_law_656 rfl ?_
  refine l_sld (pc' := 658) (by omega) hL dL_law_657 rfl ?_
  refine y_invV (as := [zI (B.2.2 (i + 1).toNat).toInt]) (st := []) (C := m_X11_water) (d' := 5) (fs := [30, 32, 35, 39, 43, 49, 55, 57, 72, 74, 78, 80, 0, 0, 1]) (pc' := 661) dL_law_658 rfl t_4_29 k_X11_water rfl (by decide) rfl rfl rfl rfl (Nat.le_of_ble_eq_true rfl) ⟨Nat.le_of_ble_eq_true rfl, Nat.le_of_ble_eq_true rfl⟩ hk ?_
  refine c_D_water (d := 0) p1 ?_
  show y_Wp m_L_law 0 661 [(0, zR 300), (1, zR 27), (2, zR 0), (3, zR 26), (4, zI i)] [zI ((F_D_water (w) ((B.2.2 (i + 1).toNat).toInt)).1)] ((F_D_water (w) ((B.2.2 (i + 1).toNat).toInt)).2) _
  refine y_aload_n (pc' := 662) 2 rfl rfl dL_law_661 rfl ?_
  refine y_aload_n (pc' := 663) 0 rfl rfl dL_law_662 rfl ?_
  refine y_iload (pc' := 665) 4 rfl dL_law_663 rfl ?_
  refine y_iconst (pc' := 666) dL_law_665 rfl ?_
  refine y_iadd (pc' := 667) dL_law_666 rfl ?_
  refine l_sld (pc' := 668) (by omega) hL dL_law_667 rfl ?_
  refine y_invV (as := [zI (B.2.2 (i + 1).toNat).toInt]) (st := [zI ((F_D_water (w) ((B.2.2 (i + 1).toNat).toInt)).1)]) (C := m_X12_water) (d' := 3) (fs := [0, 3, 0, 0, 0, 0, 4, 5, 6, 7, 8, 9, 10, 0, 0, 11, 12, 13, 14, 15, 16, 0, 0, 0, 17, 18, 19, 20, 0, 0, 0, 21, 22, 0, 0, 23, 0, 1, 24, 0, 0, 25, 26, 0, 27, 0]) (pc' := 671) dL_law_668 rfl t_8_23 k_X12_water rfl (by decide) rfl rfl rfl rfl (Nat.le_of_ble_eq_true rfl) ⟨Nat.le_of_ble_eq_true rfl, Nat.le_of_ble_eq_true rfl⟩ hk ?_
  refine c_M_water (d := 0) p2 ?_
  show y_Wp m_L_law 0 671 [(0, zR 300), (1, zR 27), (2, zR 0), (3, zR 26), (4, zI i)] [zI ((F_M_water ((F_D_water (w) ((B.2.2 (i + 1).toNat).toInt)).2) ((B.2.2 (i + 1).toNat).toInt)).1), zI ((F_D_water (w) ((B.2.2 (i + 1).toNat).toInt)).1)] ((F_M_water ((F_D_water (w) ((B.2.2 (i + 1).toNat).toInt)).2) ((B.2.2 (i + 1).toNat).toInt)).2) _
  rw [← p3]
  exact y_icmp_same 1516 dL_law_671 (by decide) (k _ p4)
