/-! the law's own body -/
abbrev m_L_law : z_M := (yL_law, cL_law, 7, ret)
def l_X (B : Nat × Nat × (Nat → Int32)) (T : Nat × Nat) (kc ks : Nat) : y_X := (room_1, (kc, ks), fun _ s q => s.heap.size ≤ q, fun E l s args _ => E.2.1 300 = B.1 ∧ va_X B.1 B.2.1 B.2.2 s s.heap ∧ B.1 < s.heap.size ∧ args = #[Value.ref B.1] ∧ l.stackTraces = false ∧ q_N (fun q => s.heap.size ≤ q) T s, fun _ below args s => lw_Z below args s)
theorem z_r32 (x : Int32) : -2147483648 ≤ x.toInt ∧ x.toInt < 2147483648 := ⟨Int32.le_toInt x, Int32.toInt_lt x⟩
theorem z_rlor (x y : Int) : -9223372036854775808 ≤ zz_lor x y ∧ zz_lor x y < 9223372036854775808 := ⟨Int64.le_toInt _, Int64.toInt_lt _⟩
section LL
variable {B : Nat × Nat × (Nat → Int32)} {T : Nat × Nat} {kc ks : Nat} {pc pc' : Nat} {ls : List (Nat × z_V)} {st : List z_V} {w : z_Wd}
theorem l_sld {i : Int} (hi : 0 ≤ i ∧ i < B.2.1) (hL : B.2.1 ≤ 3584) (hd : decode cL_law pc = .ok (.iaload, 1)) (hp : pc + 1 = pc') (kk : y_Wp m_L_law 0 pc' ls (zI (B.2.2 i.toNat).toInt :: st) w (l_X B T kc ks)) : y_Wp m_L_law 0 pc ls (zI i :: zR 300 :: st) w (l_X B T kc ks) := by
  subst hp
  intro E p l e s m args below meth c H locs lz CX hP hS hl
  obtain ⟨hx, hb, hr, hml, hown, hts, hG, hinj, hlk, h300, hX, hbl, hargs, htr, hN⟩ := id CX
  obtain ⟨h1, h2⟩ := z_inn hi (Nat.le_trans hL (by decide))
  have h3 := kk E p l e s m args below meth c H locs lz CX hP hS hl
  show W p l e _ s m args below meth c H locs _ _ _ (F0 m pc lz (.int (Int32.ofInt i) :: .ref (E.2.1 300) :: st.map (z_cv E)))
  rw [h300]
  refine va_sld (A := fun q => s.heap.size ≤ q) hx hb hX hbl (Nat.not_le.mpr hbl) hS h1 hd ?_
  rw [h2]
  have e4 : (zI (B.2.2 i.toNat).toInt :: st).map (z_cv E) = .int (B.2.2 i.toNat) :: st.map (z_cv E) := by
    show Value.int (Int32.ofInt (B.2.2 i.toNat).toInt) :: st.map (z_cv E) = _
    rw [Int32.ofInt_toInt]
  rw [e4] at h3
  exact h3
theorem l_slen (hL : B.2.1 ≤ 3584) (hd : decode cL_law pc = .ok (.arraylength, 1)) (hp : pc + 1 = pc') (kk : y_Wp m_L_law 0 pc' ls (zI (B.2.1 : Int) :: st) w (l_X B T kc ks)) : y_Wp m_L_law 0 pc ls (zR 300 :: st) w (l_X B T kc ks) := by
  subst hp
  intro E p l e s m args below meth c H locs lz CX hP hS hl
  obtain ⟨hx, hb, hr, hml, hown, hts, hG, hinj, hlk, h300, hX, hbl, hargs, htr, hN⟩ := id CX
  have h3 := kk E p l e s m args below meth c H locs lz CX hP hS hl
  show W p l e _ s m args below meth c H locs _ _ _ (F0 m pc lz (.ref (E.2.1 300) :: st.map (z_cv E)))
  rw [h300]
  refine va_slen (A := fun q => s.heap.size ≤ q) hx hb hX hbl (Nat.not_le.mpr hbl) hS hd ?_
  have e4 : (zI (B.2.1 : Int) :: st).map (z_cv E) = .int (Int32.ofNat B.2.1) :: st.map (z_cv E) := by
    show Value.int (Int32.ofInt (B.2.1 : Int)) :: st.map (z_cv E) = _
    rw [Int32.ofInt_eq_ofNat]
  rw [e4] at h3
  exact h3
theorem l_ret (hk : kc ≤ 601024 ∧ ks ≤ 7293034) (hd : decode cL_law pc = .ok (.ireturn, 1)) : y_Wp m_L_law 0 pc ls [zI 1] w (l_X B T kc ks) := by
  intro E p l e s m args below meth c H locs lz CX hP hS hl
  obtain ⟨hx, hb, hr, hml, hown, hts, hG, hinj, hlk, h300, hX, hbl, hargs, htr, hN⟩ := id CX
  subst hargs
  refine va_forget (fun q hq => hS.2.2 q hq) (W.widen (k := 601024) (n := 7293034) hk.1 hk.2 ?_)
  exact lw_ret hx hb hr hlk hd
theorem l_sub {d : Nat} {M : z_M} {ls' : List (Nat × z_V)} {X : y_X} (k : y_Wp M d pc ls' st w X) (h : ∀ q ∈ ls', q ∈ ls) : y_Wp M d pc ls st w X := by
  intro E p l e s m args below meth c H locs lz CX hP hS hl
  refine k E p l e s m args below meth c H locs lz CX hP hS ⟨hl.1, hl.2.1, fun q hq => hl.2.2 q ?_⟩
  obtain ⟨a, ha, rfl⟩ := List.mem_map.mp hq
  exact List.mem_map.mpr ⟨a, h a ha, rfl⟩
theorem l_invN {as : List z_V} {S : List z_V} (hn : as.length = 4) (hS0 : S = as.reverse ++ st) (hst : (st.map z_wd).sum ≤ 8) (hk : kc + 1 ≤ 601024 ∧ ks + 6 ≤ 7293034)
    (kk : n_Wc as T w (fun r w' => y_Wp m_L_law 0 402 ls (r.toList ++ st) w' (l_X B T (kc + 1) (ks + 6)))) : y_Wp m_L_law 0 399 ls S w (l_X B T kc ks) := by
  subst hS0
  intro E p l e s m args below meth c H locs lz CX hP hS hl2
  obtain ⟨hx, hb, hr, hml, hown, hts, hG, hinj, hlk, h300, hX, hbl, hargs, htr, hN⟩ := id CX
  have hA := y_in CX hS
  have hgood : GoodIn z_tb (Cond.codeWith yL_name cL_name 5 (some .int) [(0, 10, 13, 13)] :: z_tb) := fun w hw => by
    rcases List.mem_cons.mp hw with rfl | h2
    · exact z_good _ t_5_205
    · exact z_good _ h2
  have hrun := vx_runSW (As := as.map (z_cv E)) (rest := st.map (z_cv E)) (cells := kc) (slots := ks) (below := below) (meth := meth) (e := e) (locs := locs) (R := room_1) (g := F0 m 399 lz ((as.reverse ++ st).map (z_cv E))) ⟨hx, hb, hml, hown, hts⟩ (kk l E H.size htr hinj.1)
    (vx_cwSW (own := RL) (index := 42) (maxL := 5) (bytes := cL_name) (ret := some .int) (hh := [(0, 10, 13, 13)]) 4 hts (fun w hw => by
      unfold va_wsS at hw
      rcases List.mem_append.mp hw with h | h
      · simp only [List.mem_cons, List.not_mem_nil, or_false] at h
        rcases h with rfl | rfl | rfl
        all_goals first | exact z_good _ t_5_203 | exact z_good _ t_5_204 | exact z_good _ t_1_0
      · exact hgood w h) rfl rfl rfl (by decide +kernel) ⟨Nat.le_of_ble_eq_true rfl, Nat.le_of_ble_eq_true rfl⟩)
    ⟨fun a U g mk q => by obtain ⟨q0, q1, qP, qG, qN⟩ := q; exact ⟨q0, q1, qP, qG.blind, qN.blind⟩, fun U hU hW => ⟨rfl, by rw [hU], by rw [hU]; exact hP, y_at hG hA hS hU hW, hN.at hA hS hU hW⟩⟩
    rfl (by rw [List.length_map]; exact hn) hl2.1 (by simp) (lv_room (by rw [z_sum]; exact hst)) dL_law_399 hk
  intro T1 hT X
  obtain ⟨v, st₀, t, T', L, h0, X', hL, e1, e2, ⟨⟨r, w', hv, hp, hbb⟩, hz, hkk⟩, stp⟩ := hrun T1 hT X
  have hv' : v = r.map (z_cv E) := by injection hv
  subst hv'
  rw [h0] at hz hkk
  have hS1 : va_S (fun q => s.heap.size ≤ q) s.heap T'.heap (locs ++ L) := ⟨Nat.le_trans hS.1 (by rw [e1]; exact hz), fun q h1 h2 => by rw [e1, hkk q (Nat.lt_of_lt_of_le h1 hS.1) (fun z => h2 (hA q z))]; exact hS.2.1 q h1 h2, fun q hq => by
    rcases List.mem_append.mp hq with h | h
    · exact hS.2.2 q h
    · exact hA _ (hL q h)⟩
  have h4 := hp E p l e s m args below meth c T'.heap (locs ++ L) lz CX (by rw [e1]; exact hbb) hS1 hl2
  have e4 : (r.toList ++ st).map (z_cv E) = (r.map (z_cv E)).toList ++ st.map (z_cv E) := by
    cases r <;> simp
  rw [e4] at h4
  obtain ⟨t2, a1, b1⟩ := h4 T' rfl X'
  exact ⟨t2, stp t2 a1, b1⟩
end LL
theorem t_2_53 : Cond.methodLink RL 19 yX11_feed ∈ z_tb := z_tm2 53 (by decide +kernel) rfl
theorem t_6_196 : Cond.methodLink RL 23 yX12_feed ∈ z_tb := z_tm6 196 (by decide +kernel) rfl
theorem t_2_68 : Cond.methodLink RL 24 yX11_end ∈ z_tb := z_tm2 68 (by decide +kernel) rfl
theorem t_6_203 : Cond.methodLink RL 28 yX12_end ∈ z_tb := z_tm6 203 (by decide +kernel) rfl
theorem t_2_76 : Cond.methodLink RL 29 yX11_fault ∈ z_tb := z_tm2 76 (by decide +kernel) rfl
theorem t_6_207 : Cond.methodLink RL 33 yX12_fault ∈ z_tb := z_tm6 207 (by decide +kernel) rfl
theorem t_3_30 : Cond.methodLink RL 34 yX11_text ∈ z_tb := z_tm3 30 (by decide +kernel) rfl
theorem t_7_94 : Cond.methodLink RL 37 yX12_text ∈ z_tb := z_tm7 94 (by decide +kernel) rfl
theorem t_3_91 : Cond.methodLink RL 38 yX11_rule ∈ z_tb := z_tm3 91 (by decide +kernel) rfl
theorem t_7_102 : Cond.methodLink RL 41 yX12_rule ∈ z_tb := z_tm7 102 (by decide +kernel) rfl
theorem t_3_107 : Cond.methodLink RL 52 yX11_well ∈ z_tb := z_tm3 107 (by decide +kernel) rfl
theorem t_7_187 : Cond.methodLink RL 55 yX12_well ∈ z_tb := z_tm7 187 (by decide +kernel) rfl
theorem t_3_145 : Cond.methodLink RL 56 yX11_file ∈ z_tb := z_tm3 145 (by decide +kernel) rfl
theorem t_7_203 : Cond.methodLink RL 59 yX12_file ∈ z_tb := z_tm7 203 (by decide +kernel) rfl
theorem t_3_166 : Cond.methodLink RL 60 yX11_law ∈ z_tb := z_tm3 166 (by decide +kernel) rfl
theorem t_7_215 : Cond.methodLink RL 63 yX12_law ∈ z_tb := z_tm7 215 (by decide +kernel) rfl
theorem t_3_174 : Cond.methodLink RL 64 yX11_dip ∈ z_tb := z_tm3 174 (by decide +kernel) rfl
theorem t_7_219 : Cond.methodLink RL 67 yX12_dip ∈ z_tb := z_tm7 219 (by decide +kernel) rfl
theorem t_3_227 : Cond.methodLink RL 68 yX11_scratch ∈ z_tb := z_tm3 227 (by decide +kernel) rfl
theorem t_7_239 : Cond.methodLink RL 71 yX12_scratch ∈ z_tb := z_tm7 239 (by decide +kernel) rfl
theorem t_4_13 : Cond.methodLink RL 72 yX11_blot ∈ z_tb := z_tm4 13 (by decide +kernel) rfl
theorem t_8_15 : Cond.methodLink RL 75 yX12_blot ∈ z_tb := z_tm8 15 (by decide +kernel) rfl
theorem t_4_29 : Cond.methodLink RL 76 yX11_water ∈ z_tb := z_tm4 29 (by decide +kernel) rfl
theorem t_8_23 : Cond.methodLink RL 79 yX12_water ∈ z_tb := z_tm8 23 (by decide +kernel) rfl
theorem t_4_37 : Cond.methodLink RL 80 yX11_fill ∈ z_tb := z_tm4 37 (by decide +kernel) rfl
theorem t_8_27 : Cond.methodLink RL 83 yX12_fill ∈ z_tb := z_tm8 27 (by decide +kernel) rfl
theorem t_4_45 : Cond.methodLink RL 84 yX11_give ∈ z_tb := z_tm4 45 (by decide +kernel) rfl
theorem t_8_31 : Cond.methodLink RL 87 yX12_give ∈ z_tb := z_tm8 31 (by decide +kernel) rfl
theorem t_4_54 : Cond.methodLink RL 88 yX11_years ∈ z_tb := z_tm4 54 (by decide +kernel) rfl
theorem t_8_35 : Cond.methodLink RL 91 yX12_years ∈ z_tb := z_tm8 35 (by decide +kernel) rfl
theorem t_4_131 : Cond.methodLink RL 92 yX11_flies ∈ z_tb := z_tm4 131 (by decide +kernel) rfl
theorem t_8_51 : Cond.methodLink RL 95 yX12_flies ∈ z_tb := z_tm8 51 (by decide +kernel) rfl
theorem t_4_135 : Cond.methodLink RL 98 yX11_decades ∈ z_tb := z_tm4 135 (by decide +kernel) rfl
theorem t_8_55 : Cond.methodLink RL 102 yX12_decades ∈ z_tb := z_tm8 55 (by decide +kernel) rfl
theorem t_4_154 : Cond.methodLink RL 103 yX11_status ∈ z_tb := z_tm4 154 (by decide +kernel) rfl
theorem t_8_69 : Cond.methodLink RL 106 yX12_status ∈ z_tb := z_tm8 69 (by decide +kernel) rfl
theorem t_4_158 : Cond.methodLink RL 107 yX11_undo ∈ z_tb := z_tm4 158 (by decide +kernel) rfl
theorem t_8_73 : Cond.methodLink RL 110 yX12_undo ∈ z_tb := z_tm8 73 (by decide +kernel) rfl
theorem t_4_174 : Cond.methodLink RL 111 yX11_log ∈ z_tb := z_tm4 174 (by decide +kernel) rfl
theorem t_8_77 : Cond.methodLink RL 114 yX12_log ∈ z_tb := z_tm8 77 (by decide +kernel) rfl
theorem t_4_190 : Cond.methodLink RL 115 yX11_layer ∈ z_tb := z_tm4 190 (by decide +kernel) rfl
theorem t_8_81 : Cond.methodLink RL 118 yX12_layer ∈ z_tb := z_tm8 81 (by decide +kernel) rfl
theorem t_4_195 : Cond.methodLink RL 119 yX11_reach ∈ z_tb := z_tm4 195 (by decide +kernel) rfl
theorem t_8_85 : Cond.methodLink RL 122 yX12_reach ∈ z_tb := z_tm8 85 (by decide +kernel) rfl
theorem t_4_207 : Cond.methodLink RL 123 yX11_faction ∈ z_tb := z_tm4 207 (by decide +kernel) rfl
theorem t_8_89 : Cond.methodLink RL 126 yX12_faction ∈ z_tb := z_tm8 89 (by decide +kernel) rfl
theorem t_4_234 : Cond.methodLink RL 127 yX11_silence ∈ z_tb := z_tm4 234 (by decide +kernel) rfl
theorem t_8_105 : Cond.methodLink RL 130 yX12_silence ∈ z_tb := z_tm8 105 (by decide +kernel) rfl
theorem t_5_3 : Cond.methodLink RL 131 yX11_seen ∈ z_tb := z_tm5 3 (by decide +kernel) rfl
theorem t_8_109 : Cond.methodLink RL 134 yX12_seen ∈ z_tb := z_tm8 109 (by decide +kernel) rfl
theorem t_5_12 : Cond.methodLink RL 135 yX11_gone ∈ z_tb := z_tm5 12 (by decide +kernel) rfl
theorem t_8_113 : Cond.methodLink RL 138 yX12_gone ∈ z_tb := z_tm8 113 (by decide +kernel) rfl
theorem t_5_36 : Cond.methodLink RL 139 yX11_sure ∈ z_tb := z_tm5 36 (by decide +kernel) rfl
theorem t_8_125 : Cond.methodLink RL 142 yX12_sure ∈ z_tb := z_tm8 125 (by decide +kernel) rfl
theorem t_5_44 : Cond.methodLink RL 143 yX11_ask ∈ z_tb := z_tm5 44 (by decide +kernel) rfl
theorem t_8_129 : Cond.methodLink RL 146 yX12_ask ∈ z_tb := z_tm8 129 (by decide +kernel) rfl
theorem t_5_58 : Cond.methodLink RL 147 yX11_game ∈ z_tb := z_tm5 58 (by decide +kernel) rfl
theorem t_8_138 : Cond.methodLink RL 151 yX12_game ∈ z_tb := z_tm8 138 (by decide +kernel) rfl
theorem t_5_79 : Cond.methodLink RL 152 yX11_rests ∈ z_tb := z_tm5 79 (by decide +kernel) rfl
theorem t_8_151 : Cond.methodLink RL 156 yX12_rests ∈ z_tb := z_tm8 151 (by decide +kernel) rfl
theorem t_5_96 : Cond.methodLink RL 157 yX11_odds ∈ z_tb := z_tm5 96 (by decide +kernel) rfl
theorem t_8_159 : Cond.methodLink RL 160 yX12_odds ∈ z_tb := z_tm8 159 (by decide +kernel) rfl
theorem t_5_111 : Cond.methodLink RL 161 yX11_shares ∈ z_tb := z_tm5 111 (by decide +kernel) rfl
theorem t_8_168 : Cond.methodLink RL 164 yX12_shares ∈ z_tb := z_tm8 168 (by decide +kernel) rfl
theorem t_5_116 : Cond.methodLink RL 165 yX11_most ∈ z_tb := z_tm5 116 (by decide +kernel) rfl
theorem t_8_172 : Cond.methodLink RL 168 yX12_most ∈ z_tb := z_tm8 172 (by decide +kernel) rfl
theorem t_5_159 : Cond.methodLink RL 169 yX11_known ∈ z_tb := z_tm5 159 (by decide +kernel) rfl
theorem t_8_204 : Cond.methodLink RL 172 yX12_known ∈ z_tb := z_tm8 204 (by decide +kernel) rfl
theorem t_5_164 : Cond.methodLink RL 173 yX11_quiet ∈ z_tb := z_tm5 164 (by decide +kernel) rfl
theorem t_8_208 : Cond.methodLink RL 176 yX12_quiet ∈ z_tb := z_tm8 208 (by decide +kernel) rfl
theorem t_5_177 : Cond.methodLink RL 177 yX11_image ∈ z_tb := z_tm5 177 (by decide +kernel) rfl
theorem t_8_212 : Cond.methodLink RL 180 yX12_image ∈ z_tb := z_tm8 212 (by decide +kernel) rfl
theorem t_5_185 : Cond.methodLink RL 181 yX11_back ∈ z_tb := z_tm5 185 (by decide +kernel) rfl
theorem t_8_216 : Cond.methodLink RL 184 yX12_back ∈ z_tb := z_tm8 216 (by decide +kernel) rfl
theorem t_5_189 : Cond.methodLink RL 185 yX11_count ∈ z_tb := z_tm5 189 (by decide +kernel) rfl
theorem t_8_220 : Cond.methodLink RL 188 yX12_count ∈ z_tb := z_tm8 220 (by decide +kernel) rfl
/-- what feed owes: it needs no more than the relation gives, answers alike, and keeps the relation -/
def S_feed (Rl : z_Wd → Prop) : Prop := ∀ (w : z_Wd) (a b c d e : Int), (-2147483648 ≤ a ∧ a < 2147483648) → (-2147483648 ≤ b ∧ b < 2147483648) → (-2147483648 ≤ c ∧ c < 2147483648) → (-2147483648 ≤ d ∧ d < 2147483648) → (-2147483648 ≤ e ∧ e < 2147483648) → Rl w → P_D_feed w a b c d e ∧ P_M_feed ((F_D_feed w a b c d e).2) a b c d e ∧ (F_D_feed w a b c d e).1 = (F_M_feed ((F_D_feed w a b c d e).2) a b c d e).1 ∧ Rl ((F_M_feed ((F_D_feed w a b c d e).2) a b c d e).2)
/-- what end owes: it needs no more than the relation gives, answers alike, and keeps the relation -/
def S_end (Rl : z_Wd → Prop) : Prop := ∀ (w : z_Wd) (a : Int), (-2147483648 ≤ a ∧ a < 2147483648) → Rl w → P_D_end w a ∧ P_M_end ((F_D_end w a).2) a ∧ (F_D_end w a).1 = (F_M_end ((F_D_end w a).2) a).1 ∧ Rl ((F_M_end ((F_D_end w a).2) a).2)
/-- what fault owes: it needs no more than the relation gives, answers alike, and keeps the relation -/
def S_fault (Rl : z_Wd → Prop) : Prop := ∀ (w : z_Wd) (a : Int), (-2147483648 ≤ a ∧ a < 2147483648) → Rl w → P_D_fault w a ∧ P_M_fault ((F_D_fault w a).2) a ∧ (F_D_fault w a).1 = (F_M_fault ((F_D_fault w a).2) a).1 ∧ Rl ((F_M_fault ((F_D_fault w a).2) a).2)
/-- what text owes: it needs no more than the relation gives, answers alike, and keeps the relation -/
def S_text (Rl : z_Wd → Prop) : Prop := ∀ (w : z_Wd) (a : Int), (-2147483648 ≤ a ∧ a < 2147483648) → Rl w → P_D_text w a ∧ P_M_text ((F_D_text w a).2) a ∧ (F_D_text w a).1 = (F_M_text ((F_D_text w a).2) a).1 ∧ Rl ((F_M_text ((F_D_text w a).2) a).2)
/-- what rule owes: it needs no more than the relation gives, answers alike, and keeps the relation -/
def S_rule (Rl : z_Wd → Prop) : Prop := ∀ (w : z_Wd) (a : Int), (-2147483648 ≤ a ∧ a < 2147483648) → Rl w → P_D_rule w a ∧ P_M_rule w a ∧ F_D_rule w a = F_M_rule w a ∧ Rl (w)
/-- what well owes: it needs no more than the relation gives, answers alike, and keeps the relation -/
def S_well (Rl : z_Wd → Prop) : Prop := ∀ (w : z_Wd) (a b : Int), (-2147483648 ≤ a ∧ a < 2147483648) → (-2147483648 ≤ b ∧ b < 2147483648) → Rl w → P_D_well w a b ∧ P_M_well w a b ∧ F_D_well w a b = F_M_well w a b ∧ Rl (w)
/-- what file owes: it needs no more than the relation gives, answers alike, and keeps the relation -/
def S_file (Rl : z_Wd → Prop) : Prop := ∀ (w : z_Wd) (a b : Int), (-2147483648 ≤ a ∧ a < 2147483648) → (-2147483648 ≤ b ∧ b < 2147483648) → Rl w → P_D_file w a b ∧ P_M_file w a b ∧ F_D_file w a b = F_M_file w a b ∧ Rl (w)
/-- what law owes: it needs no more than the relation gives, answers alike, and keeps the relation -/
def S_law (Rl : z_Wd → Prop) : Prop := ∀ (w : z_Wd) (a : Int), (-2147483648 ≤ a ∧ a < 2147483648) → Rl w → P_D_law w a ∧ P_M_law ((F_D_law w a).2) a ∧ (F_D_law w a).1 = (F_M_law ((F_D_law w a).2) a).1 ∧ Rl ((F_M_law ((F_D_law w a).2) a).2)
/-- what dip owes: it needs no more than the relation gives, answers alike, and keeps the relation -/
def S_dip (Rl : z_Wd → Prop) : Prop := ∀ (w : z_Wd) (a b : Int), (-2147483648 ≤ a ∧ a < 2147483648) → (-2147483648 ≤ b ∧ b < 2147483648) → Rl w → P_D_dip w a b ∧ P_M_dip ((F_D_dip w a b).2) a b ∧ (F_D_dip w a b).1 = (F_M_dip ((F_D_dip w a b).2) a b).1 ∧ Rl ((F_M_dip ((F_D_dip w a b).2) a b).2)
/-- what scratch owes: it needs no more than the relation gives, answers alike, and keeps the relation -/
def S_scratch (Rl : z_Wd → Prop) : Prop := ∀ (w : z_Wd) (a b : Int), (-2147483648 ≤ a ∧ a < 2147483648) → (-2147483648 ≤ b ∧ b < 2147483648) → Rl w → P_D_scratch w a b ∧ P_M_scratch ((F_D_scratch w a b).2) a b ∧ (F_D_scratch w a b).1 = (F_M_scratch ((F_D_scratch w a b).2) a b).1 ∧ Rl ((F_M_scratch ((F_D_scratch w a b).2) a b).2)
/-- what blot owes: it needs no more than the relation gives, answers alike, and keeps the relation -/
def S_blot (Rl : z_Wd → Prop) : Prop := ∀ (w : z_Wd) (a : Int), (-2147483648 ≤ a ∧ a < 2147483648) → Rl w → P_D_blot w a ∧ P_M_blot ((F_D_blot w a).2) a ∧ (F_D_blot w a).1 = (F_M_blot ((F_D_blot w a).2) a).1 ∧ Rl ((F_M_blot ((F_D_blot w a).2) a).2)
/-- what water owes: it needs no more than the relation gives, answers alike, and keeps the relation -/
def S_water (Rl : z_Wd → Prop) : Prop := ∀ (w : z_Wd) (a : Int), (-2147483648 ≤ a ∧ a < 2147483648) → Rl w → P_D_water w a ∧ P_M_water ((F_D_water w a).2) a ∧ (F_D_water w a).1 = (F_M_water ((F_D_water w a).2) a).1 ∧ Rl ((F_M_water ((F_D_water w a).2) a).2)
/-- what fill owes: it needs no more than the relation gives, answers alike, and keeps the relation -/
def S_fill (Rl : z_Wd → Prop) : Prop := ∀ (w : z_Wd) (a : Int), (-2147483648 ≤ a ∧ a < 2147483648) → Rl w → P_D_fill w a ∧ P_M_fill ((F_D_fill w a).2) a ∧ (F_D_fill w a).1 = (F_M_fill ((F_D_fill w a).2) a).1 ∧ Rl ((F_M_fill ((F_D_fill w a).2) a).2)
/-- what give owes: it needs no more than the relation gives, answers alike, and keeps the relation -/
def S_give (Rl : z_Wd → Prop) : Prop := ∀ (w : z_Wd) (a : Int), (-2147483648 ≤ a ∧ a < 2147483648) → Rl w → P_D_give w a ∧ P_M_give ((F_D_give w a).2) a ∧ (F_D_give w a).1 = (F_M_give ((F_D_give w a).2) a).1 ∧ Rl ((F_M_give ((F_D_give w a).2) a).2)
/-- what years owes: it needs no more than the relation gives, answers alike, and keeps the relation -/
def S_years (Rl : z_Wd → Prop) : Prop := ∀ (w : z_Wd) (a : Int), (-2147483648 ≤ a ∧ a < 2147483648) → Rl w → P_D_years w a ∧ P_M_years ((F_D_years w a).2) a ∧ (F_D_years w a).1 = (F_M_years ((F_D_years w a).2) a).1 ∧ Rl ((F_M_years ((F_D_years w a).2) a).2)
/-- what flies owes: it needs no more than the relation gives, answers alike, and keeps the relation -/
def S_flies (Rl : z_Wd → Prop) : Prop := ∀ (w : z_Wd) (a : Int), (-2147483648 ≤ a ∧ a < 2147483648) → Rl w → P_D_flies w a ∧ P_M_flies ((F_D_flies w a).2) a ∧ (F_D_flies w a).1 = (F_M_flies ((F_D_flies w a).2) a).1 ∧ Rl ((F_M_flies ((F_D_flies w a).2) a).2)
/-- what decades owes: it needs no more than the relation gives, answers alike, and keeps the relation -/
def S_decades (Rl : z_Wd → Prop) : Prop := ∀ (w : z_Wd) (a b : Int), (-2147483648 ≤ a ∧ a < 2147483648) → (-9223372036854775808 ≤ b ∧ b < 9223372036854775808) → Rl w → P_D_decades w a b ∧ P_M_decades ((F_D_decades w a b).2) a b ∧ (F_D_decades w a b).1 = (F_M_decades ((F_D_decades w a b).2) a b).1 ∧ Rl ((F_M_decades ((F_D_decades w a b).2) a b).2)
/-- what status owes: it needs no more than the relation gives, answers alike, and keeps the relation -/
def S_status (Rl : z_Wd → Prop) : Prop := ∀ (w : z_Wd) (a : Int), (-2147483648 ≤ a ∧ a < 2147483648) → Rl w → P_D_status w a ∧ P_M_status w a ∧ F_D_status w a = F_M_status w a ∧ Rl (w)
/-- what undo owes: it needs no more than the relation gives, answers alike, and keeps the relation -/
def S_undo (Rl : z_Wd → Prop) : Prop := ∀ (w : z_Wd), Rl w → P_D_undo w ∧ P_M_undo ((F_D_undo w).2) ∧ (F_D_undo w).1 = (F_M_undo ((F_D_undo w).2)).1 ∧ Rl ((F_M_undo ((F_D_undo w).2)).2)
/-- what log owes: it needs no more than the relation gives, answers alike, and keeps the relation -/
def S_log (Rl : z_Wd → Prop) : Prop := ∀ (w : z_Wd) (a b : Int), (-2147483648 ≤ a ∧ a < 2147483648) → (-2147483648 ≤ b ∧ b < 2147483648) → Rl w → P_D_log w a b ∧ P_M_log w a b ∧ F_D_log w a b = F_M_log w a b ∧ Rl (w)
/-- what layer owes: it needs no more than the relation gives, answers alike, and keeps the relation -/
def S_layer (Rl : z_Wd → Prop) : Prop := ∀ (w : z_Wd) (a b : Int), (-2147483648 ≤ a ∧ a < 2147483648) → (-2147483648 ≤ b ∧ b < 2147483648) → Rl w → P_D_layer w a b ∧ P_M_layer w a b ∧ F_D_layer w a b = F_M_layer w a b ∧ Rl (w)
/-- what reach owes: it needs no more than the relation gives, answers alike, and keeps the relation -/
def S_reach (Rl : z_Wd → Prop) : Prop := ∀ (w : z_Wd) (a : Int), (-2147483648 ≤ a ∧ a < 2147483648) → Rl w → P_D_reach w a ∧ P_M_reach w a ∧ F_D_reach w a = F_M_reach w a ∧ Rl (w)
/-- what faction owes: it needs no more than the relation gives, answers alike, and keeps the relation -/
def S_faction (Rl : z_Wd → Prop) : Prop := ∀ (w : z_Wd) (a b : Int), (-2147483648 ≤ a ∧ a < 2147483648) → (-2147483648 ≤ b ∧ b < 2147483648) → Rl w → P_D_faction w a b ∧ P_M_faction ((F_D_faction w a b).2) a b ∧ (F_D_faction w a b).1 = (F_M_faction ((F_D_faction w a b).2) a b).1 ∧ Rl ((F_M_faction ((F_D_faction w a b).2) a b).2)
/-- what silence owes: it needs no more than the relation gives, answers alike, and keeps the relation -/
def S_silence (Rl : z_Wd → Prop) : Prop := ∀ (w : z_Wd) (a : Int), (-2147483648 ≤ a ∧ a < 2147483648) → Rl w → P_D_silence w a ∧ P_M_silence w a ∧ F_D_silence w a = F_M_silence w a ∧ Rl (w)
/-- what seen owes: it needs no more than the relation gives, answers alike, and keeps the relation -/
def S_seen (Rl : z_Wd → Prop) : Prop := ∀ (w : z_Wd) (a b : Int), (-2147483648 ≤ a ∧ a < 2147483648) → (-2147483648 ≤ b ∧ b < 2147483648) → Rl w → P_D_seen w a b ∧ P_M_seen ((F_D_seen w a b).2) a b ∧ (F_D_seen w a b).1 = (F_M_seen ((F_D_seen w a b).2) a b).1 ∧ Rl ((F_M_seen ((F_D_seen w a b).2) a b).2)
/-- what gone owes: it needs no more than the relation gives, answers alike, and keeps the relation -/
def S_gone (Rl : z_Wd → Prop) : Prop := ∀ (w : z_Wd) (a b : Int), (-2147483648 ≤ a ∧ a < 2147483648) → (-2147483648 ≤ b ∧ b < 2147483648) → Rl w → P_D_gone w a b ∧ P_M_gone w a b ∧ F_D_gone w a b = F_M_gone w a b ∧ Rl (w)
/-- what sure owes: it needs no more than the relation gives, answers alike, and keeps the relation -/
def S_sure (Rl : z_Wd → Prop) : Prop := ∀ (w : z_Wd) (a : Int), (-2147483648 ≤ a ∧ a < 2147483648) → Rl w → P_D_sure w a ∧ P_M_sure w a ∧ F_D_sure w a = F_M_sure w a ∧ Rl (w)
/-- what ask owes: it needs no more than the relation gives, answers alike, and keeps the relation -/
def S_ask (Rl : z_Wd → Prop) : Prop := ∀ (w : z_Wd) (a : Int), (-2147483648 ≤ a ∧ a < 2147483648) → Rl w → P_D_ask w a ∧ P_M_ask ((F_D_ask w a).2) a ∧ (F_D_ask w a).1 = F_M_ask ((F_D_ask w a).2) a ∧ Rl ((F_D_ask w a).2)
/-- what game owes: it needs no more than the relation gives, answers alike, and keeps the relation -/
def S_game (Rl : z_Wd → Prop) : Prop := ∀ (w : z_Wd) (a b c d e f : Int), (-2147483648 ≤ a ∧ a < 2147483648) → (-2147483648 ≤ b ∧ b < 2147483648) → (-2147483648 ≤ c ∧ c < 2147483648) → (-2147483648 ≤ d ∧ d < 2147483648) → (-2147483648 ≤ e ∧ e < 2147483648) → (-2147483648 ≤ f ∧ f < 2147483648) → Rl w → P_D_game w a b c d e f ∧ P_M_game ((F_D_game w a b c d e f).2) a b c d e f ∧ (F_D_game w a b c d e f).1 = F_M_game ((F_D_game w a b c d e f).2) a b c d e f ∧ Rl ((F_D_game w a b c d e f).2)
/-- what rests owes: it needs no more than the relation gives, answers alike, and keeps the relation -/
def S_rests (Rl : z_Wd → Prop) : Prop := ∀ (w : z_Wd) (a b c d : Int), (-2147483648 ≤ a ∧ a < 2147483648) → (-2147483648 ≤ b ∧ b < 2147483648) → (-2147483648 ≤ c ∧ c < 2147483648) → (-2147483648 ≤ d ∧ d < 2147483648) → Rl w → P_D_rests w a b c d ∧ P_M_rests ((F_D_rests w a b c d).2) a b c d ∧ (F_D_rests w a b c d).1 = F_M_rests ((F_D_rests w a b c d).2) a b c d ∧ Rl ((F_D_rests w a b c d).2)
/-- what odds owes: it needs no more than the relation gives, answers alike, and keeps the relation -/
def S_odds (Rl : z_Wd → Prop) : Prop := ∀ (w : z_Wd) (a b : Int), (-2147483648 ≤ a ∧ a < 2147483648) → (-2147483648 ≤ b ∧ b < 2147483648) → Rl w → P_D_odds w a b ∧ P_M_odds w a b ∧ F_D_odds w a b = (F_M_odds w a b).1 ∧ Rl ((F_M_odds w a b).2)
/-- what shares owes: it needs no more than the relation gives, answers alike, and keeps the relation -/
def S_shares (Rl : z_Wd → Prop) : Prop := ∀ (w : z_Wd) (a b : Int), (-2147483648 ≤ a ∧ a < 2147483648) → (-2147483648 ≤ b ∧ b < 2147483648) → Rl w → P_D_shares w a b ∧ P_M_shares w a b ∧ F_D_shares w a b = F_M_shares w a b ∧ Rl (w)
/-- what most owes: it needs no more than the relation gives, answers alike, and keeps the relation -/
def S_most (Rl : z_Wd → Prop) : Prop := ∀ (w : z_Wd) (a : Int), (-2147483648 ≤ a ∧ a < 2147483648) → Rl w → P_D_most w a ∧ P_M_most ((F_D_most w a).2) a ∧ (F_D_most w a).1 = (F_M_most ((F_D_most w a).2) a).1 ∧ Rl ((F_M_most ((F_D_most w a).2) a).2)
/-- what known owes: it needs no more than the relation gives, answers alike, and keeps the relation -/
def S_known (Rl : z_Wd → Prop) : Prop := ∀ (w : z_Wd) (a : Int), (-2147483648 ≤ a ∧ a < 2147483648) → Rl w → P_D_known w a ∧ P_M_known w a ∧ F_D_known w a = F_M_known w a ∧ Rl (w)
/-- what quiet owes: it needs no more than the relation gives, answers alike, and keeps the relation -/
def S_quiet (Rl : z_Wd → Prop) : Prop := ∀ (w : z_Wd) (a : Int), (-2147483648 ≤ a ∧ a < 2147483648) → Rl w → P_D_quiet w a ∧ P_M_quiet ((F_D_quiet w a).2) a ∧ (F_D_quiet w a).1 = (F_M_quiet ((F_D_quiet w a).2) a).1 ∧ Rl ((F_M_quiet ((F_D_quiet w a).2) a).2)
/-- what image owes: it needs no more than the relation gives, answers alike, and keeps the relation -/
def S_image (Rl : z_Wd → Prop) : Prop := ∀ (w : z_Wd), Rl w → P_D_image w ∧ P_M_image ((F_D_image w).2) ∧ (F_D_image w).1 = (F_M_image ((F_D_image w).2)).1 ∧ Rl ((F_M_image ((F_D_image w).2)).2)
/-- what back owes: it needs no more than the relation gives, answers alike, and keeps the relation -/
def S_back (Rl : z_Wd → Prop) : Prop := ∀ (w : z_Wd), Rl w → P_D_back w ∧ P_M_back ((F_D_back w).2) ∧ (F_D_back w).1 = (F_M_back ((F_D_back w).2)).1 ∧ Rl ((F_M_back ((F_D_back w).2)).2)
/-- what count owes: it needs no more than the relation gives, answers alike, and keeps the relation -/
def S_count (Rl : z_Wd → Prop) : Prop := ∀ (w : z_Wd) (a : Int), (-2147483648 ≤ a ∧ a < 2147483648) → Rl w → P_D_count w a ∧ P_M_count w a ∧ F_D_count w a = F_M_count w a ∧ Rl (w)
/-- what name owes -/
def S_name (Rl : z_Wd → Prop) : Prop := ∀ (w : z_Wd) (a b : Int), (-2147483648 ≤ a ∧ a < 2147483648) → (-2147483648 ≤ b ∧ b < 2147483648) → Rl w → P_D_name w a b ∧ (¬ T_D_name w a b → -2147483648 ≤ (F_D_name w a b).1 ∧ (F_D_name w a b).1 < 2147483648)
  ∧ (T_D_name w a b → P_M_name w a b ∧ (F_M_name w a b).2 0 0 = 1 ∧ Rl (F_M_name w a b).2)
  ∧ (¬ T_D_name w a b → P_M_name (z_up (F_D_name w a b).2 26 0 (F_D_name w a b).1) a b ∧ (F_M_name (z_up (F_D_name w a b).2 26 0 (F_D_name w a b).1) a b).2 0 0 = 0 ∧ (F_M_name (z_up (F_D_name w a b).2 26 0 (F_D_name w a b).1) a b).1 = (F_D_name w a b).1 ∧ (F_M_name (z_up (F_D_name w a b).2 26 0 (F_D_name w a b).1) a b).2 26 0 = (F_D_name w a b).1 ∧ Rl (F_M_name (z_up (F_D_name w a b).2 26 0 (F_D_name w a b).1) a b).2)
