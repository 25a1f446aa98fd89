set_option maxRecDepth 8000 in
set_option maxHeartbeats 2000000 in
theorem l_gone {Rl : z_Wd → Prop} {B : Nat × Nat × (Nat → Int32)} {T : Nat × Nat} {kc ks : Nat} {i : Int} {w : z_Wd} (hs : S_gone Rl) (hw : Rl w) (hi : 0 ≤ i ∧ i + 7 ≤ B.2.1) (hL : B.2.1 ≤ 3584) (hk : kc ≤ 601024 ∧ ks ≤ 7293034) (k : ∀ w', Rl w' → y_Wp m_L_law 0 1516 [(0, zR 300), (1, zR 27), (2, zR 0), (3, zR 26), (4, zI i)] [] w' (l_X B T kc ks)) : y_Wp m_L_law 0 1081 [(0, zR 300), (1, zR 27), (2, zR 0), (3, zR 26), (4, zI i)] [] w (l_X B T kc ks) := by
  obtain ⟨p1, p2, p3, p4⟩ := hs w ((B.2.2 (i + 1).toNat).toInt) ((B.2.2 (i + 2).toNat).toInt) (z_r32 _) (z_r32 _) hw
  refine y_aload_n (pc' := 1082) 1 rfl rfl dL_law_1081 rfl ?_
  refine y_aload_n (pc' := 1083) 0 rfl rfl dL_law_1082 rfl ?_
  refine y_iload (pc' := 1085) 4 rfl dL_law_1083 rfl ?_
  refine y_iconst (pc' := 1086) dL_law_1085 rfl ?_
  refine y_iadd (pc' := 1087) dL_law_1086 rfl ?_
  refine l_sld (pc' := 1088) (by omega) hL dL_law_1087 rfl ?_
  refine y_aload_n (pc' := 1089) 0 rfl rfl dL_law_1088 rfl ?_
  refine y_iload (pc' := 1091) 4 rfl dL_law_1089 rfl ?_
  refine y_iconst (pc' := 1092) dL_law_1091 rfl ?_
  refine y_iadd (pc' := 1093) dL_law_1092 rfl ?_
  refine l_sld (pc' := 1094) (by omega) hL dL_law_1093 rfl ?_
  refine y_invV (as := [zI (B.2.2 (i + 1).toNat).toInt, zI (B.2.2 (i + 2).toNat).toInt]) (st := []) (C := m_X11_gone) (d' := 5) (fs := [30, 32, 35, 39, 43, 49, 55, 57, 72, 74, 78, 80, 0, 0, 1]) (pc' := 1097) dL_law_1094 rfl t_5_12 k_X11_gone rfl (by decide) rfl rfl rfl rfl (Nat.le_of_ble_eq_true rfl) ⟨Nat.le_of_ble_eq_true rfl, Nat.le_of_ble_eq_true rfl⟩ hk ?_
  refine c_D_gone (d := 0) p1 ?_
  show y_Wp m_L_law 0 1097 [(0, zR 300), (1, zR 27), (2, zR 0), (3, zR 26), (4, zI i)] [zI (F_D_gone (w) ((B.2.2 (i + 1).toNat).toInt) ((B.2.2 (i + 2).toNat).toInt))] (w) _
  refine y_aload_n (pc' := 1098) 2 rfl rfl dL_law_1097 rfl ?_
  refine y_aload_n (pc' := 1099) 0 rfl rfl dL_law_1098 rfl ?_
  refine y_iload (pc' := 1101) 4 rfl dL_law_1099 rfl ?_
  refine y_iconst (pc' := 1102) dL_law_1101 rfl ?_
  refine y_iadd (pc' := 1103) dL_law_1102 rfl ?_
  refine l_sld (pc' := 1104) (by omega) hL dL_law_1103 rfl ?_
  refine y_aload_n (pc' := 1105) 0 rfl rfl dL_law_1104 rfl ?_
  refine y_iload (pc' := 1107) 4 rfl dL_law_1105 rfl ?_
  refine y_iconst (pc' := 1108) dL_law_1107 rfl ?_
  refine y_iadd (pc' := 1109) dL_law_1108 rfl ?_
  refine l_sld (pc' := 1110) (by omega) hL dL_law_1109 rfl ?_
  refine y_invV (as := [zI (B.2.2 (i + 1).toNat).toInt, zI (B.2.2 (i + 2).toNat).toInt]) (st := [zI (F_D_gone (w) ((B.2.2 (i + 1).toNat).toInt) ((B.2.2 (i + 2).toNat).toInt))]) (C := m_X12_gone) (d' := 2) (fs := [0, 3, 0, 0, 0, 0, 4, 5, 6, 7, 8, 9, 10, 0, 0, 11, 12, 13, 14, 15, 16, 0, 0, 0, 17, 18, 19, 20, 0, 0, 0, 21, 22, 0, 0, 23, 0, 1, 24, 0, 0, 25, 26, 0, 27, 0]) (pc' := 1113) dL_law_1110 rfl t_8_113 k_X12_gone rfl (by decide) rfl rfl rfl rfl (Nat.le_of_ble_eq_true rfl) ⟨Nat.le_of_ble_eq_true rfl, Nat.le_of_ble_eq_true rfl⟩ hk ?_
  refine c_M_gone (d := 0) p2 ?_
  show y_Wp m_L_law 0 1113 [(0, zR 300), (1, zR 27), (2, zR 0), (3, zR 26), (4, zI i)] [zI (F_M_gone (w) ((B.2.2 (i + 1).toNat).toInt) ((B.2.2 (i + 2).toNat).toInt)), zI (F_D_gone (w) ((B.2.2 (i + 1).toNat).toInt) ((B.2.2 (i + 2).toNat).toInt))] (w) _
  rw [← p3]
  exact y_icmp_same 1516 dL_law_1113 (by decide) (k _ p4)
set_option maxRecDepth 8000 in
set_option maxHeartbeats 2000000 in
theorem l_sure {Rl : z_Wd → Prop} {B : Nat × Nat × (Nat → Int32)} {T : Nat × Nat} {kc ks : Nat} {i : Int} {w : z_Wd} (hs : S_sure Rl) (hw : Rl w) (hi : 0 ≤ i ∧ i + 7 ≤ B.2.1) (hL : B.2.1 ≤ 3584) (hk : kc ≤ 601024 ∧ ks ≤ 7293034) (k : ∀ w', Rl w' → y_Wp m_L_law 0 1516 [(0, zR 300), (1, zR 27), (2, zR 0), (3, zR 26), (4, zI i)] [] w' (l_X B T kc ks)) : y_Wp m_L_law 0 1118 [(0, zR 300), (1, zR 27), (2, zR 0), (3, zR 26), (4, zI i)] [] w (l_X B T kc ks) := by
  obtain ⟨p1, p2, p3, p4⟩ := hs w ((B.2.2 (i + 1).toNat).toInt) (z_r32 _) hw
  refine y_aload_n (pc' := 1119) 1 rfl rfl dL_law_1118 rfl ?_
  refine y_aload_n (pc' := 1120) 0 rfl rfl dL_law_1119 rfl ?_
  refine y_iload (pc' := 1122) 4 rfl dL_law_1120 rfl ?_
  refine y_iconst (pc' := 1123) dL_law_1122 rfl ?_
  refine y_iadd (pc' := 1124) dL_law_1123 rfl ?_
  refine l_sld (pc' := 1125) (by omega) hL dL_law_1124 rfl ?_
  refine y_invV (as := [zI (B.2.2 (i + 1).toNat).toInt]) (st := []) (C := m_X11_sure) (d' := 5) (fs := [30, 32, 35, 39, 43, 49, 55, 57, 72, 74, 78, 80, 0, 0, 1]) (pc' := 1128) dL_law_1125 rfl t_5_36 k_X11_sure rfl (by decide) rfl rfl rfl rfl (Nat.le_of_ble_eq_true rfl) ⟨Nat.le_of_ble_eq_true rfl, Nat.le_of_ble_eq_true rfl⟩ hk ?_
  refine c_D_sure (d := 0) p1 ?_
  show y_Wp m_L_law 0 1128 [(0, zR 300), (1, zR 27), (2, zR 0), (3, zR 26), (4, zI i)] [zI (F_D_sure (w) ((B.2.2 (i + 1).toNat).toInt))] (w) _
  refine y_aload_n (pc' := 1129) 2 rfl rfl dL_law_1128 rfl ?_
  refine y_aload_n (pc' := 1130) 0 rfl rfl dL_law_1129 rfl ?_
  refine y_iload (pc' := 1132) 4 rfl dL_law_1130 rfl ?_
  refine y_iconst (pc' := 1133) dL_law_1132 rfl ?_
  refine y_iadd (pc' := 1134) dL_law_1133 rfl ?_
  refine l_sld (pc' := 1135) (by omega) hL dL_law_1134 rfl ?_
  refine y_invV (as := [zI (B.2.2 (i + 1).toNat).toInt]) (st := [zI (F_D_sure (w) ((B.2.2 (i + 1).toNat).toInt))]) (C := m_X12_sure) (d' := 2) (fs := [0, 3, 0, 0, 0, 0, 4, 5, 6, 7, 8, 9, 10, 0, 0, 11, 12, 13, 14, 15, 16, 0, 0, 0, 17, 18, 19, 20, 0, 0, 0, 21, 22, 0, 0, 23, 0, 1, 24, 0, 0, 25, 26, 0, 27, 0]) (pc' := 1138) dL_law_1135 rfl t_8_125 k_X12_sure rfl (by decide) rfl rfl rfl rfl (Nat.le_of_ble_eq_true rfl) ⟨Nat.le_of_ble_eq_true rfl, Nat.le_of_ble_eq_true rfl⟩ hk ?_
  refine c_M_sure (d := 0) p2 ?_
  show y_Wp m_L_law 0 1138 [(0, zR 300), (1, zR 27), (2, zR 0), (3, zR 26), (4, zI i)] [zI (F_M_sure (w) ((B.2.2 (i + 1).toNat).toInt)), zI (F_D_sure (w) ((B.2.2 (i + 1).toNat).toInt))] (w) _
  rw [← p3]
  exact y_icmp_same 1516 dL_law_1138 (by decide) (k _ p4)
set_option maxRecDepth 8000 in
set_option maxHeartbeats 2000000 in
theorem l_ask {Rl : z_Wd → Prop} {B : Nat × Nat × (Nat → Int32)} {T : Nat × Nat} {kc ks : Nat} {i : Int} {w : z_Wd} (hs : S_ask Rl) (hw : Rl w) (hi : 0 ≤ i ∧ i + 7 ≤ B.2.1) (hL : B.2.1 ≤ 3584) (hk : kc ≤ 601024 ∧ ks ≤ 7293034) (k : ∀ w', Rl w' → y_Wp m_L_law 0 1516 [(0, zR 300), (1, zR 27), (2, zR 0), (3, zR 26), (4, zI i)] [] w' (l_X B T kc ks)) : y_Wp m_L_law 0 1143 [(0, zR 300), (1, zR 27), (2, zR 0), (3, zR 26), (4, zI i)] [] w (l_X B T kc ks) := by
  obtain ⟨p1, p2, p3, p4⟩ := hs w ((B.2.2 (i + 1).toNat).toInt) (z_r32 _) hw
  refine y_aload_n (pc' := 1144) 1 rfl rfl dL_law_1143 rfl ?_
  refine y_aload_n (pc' := 1145) 0 rfl rfl dL_law_1144 rfl ?_
  refine y_iload (pc' := 1147) 4 rfl dL_law_1145 rfl ?_
  refine y_iconst (pc' := 1148) dL_law_1147 rfl ?_
  refine y_iadd (pc' := 1149) dL_law_1148 rfl ?_
  refine l_sld (pc' := 1150) (by omega) hL dL_law_1149 rfl ?_
  refine y_invV (as := [zI (B.2.2 (i + 1).toNat).toInt]) (st := []) (C := m_X11_ask) (d' := 6) (fs := [30, 32, 35, 39, 43, 49, 55, 57, 72, 74, 78, 80, 0, 0, 1]) (pc' := 1153) dL_law_1150 rfl t_5_44 k_X11_ask rfl (by decide) rfl rfl rfl rfl (Nat.le_of_ble_eq_true rfl) ⟨Nat.le_of_ble_eq_true rfl, Nat.le_of_ble_eq_true rfl⟩ hk ?_
  refine c_D_ask (d := 0) p1 ?_
  show y_Wp m_L_law 0 1153 [(0, zR 300), (1, zR 27), (2, zR 0), (3, zR 26), (4, zI i)] [zI ((F_D_ask (w) ((B.2.2 (i + 1).toNat).toInt)).1)] ((F_D_ask (w) ((B.2.2 (i + 1).toNat).toInt)).2) _
  refine y_aload_n (pc' := 1154) 2 rfl rfl dL_law_1153 rfl ?_
  refine y_aload_n (pc' := 1155) 0 rfl rfl dL_law_1154 rfl ?_
  refine y_iload (pc' := 1157) 4 rfl dL_law_1155 rfl ?_
  refine y_iconst (pc' := 1158) dL_law_1157 rfl ?_
  refine y_iadd (pc' := 1159) dL_law_1158 rfl ?_
  refine l_sld (pc' := 1160) (by omega) hL dL_law_1159 rfl ?_
  refine y_invV (as := [zI (B.2.2 (i + 1).toNat).toInt]) (st := [zI ((F_D_ask (w) ((B.2.2 (i + 1).toNat).toInt)).1)]) (C := m_X12_ask) (d' := 3) (fs := [0, 3, 0, 0, 0, 0, 4, 5, 6, 7, 8, 9, 10, 0, 0, 11, 12, 13, 14, 15, 16, 0, 0, 0, 17, 18, 19, 20, 0, 0, 0, 21, 22, 0, 0, 23, 0, 1, 24, 0, 0, 25, 26, 0, 27, 0]) (pc' := 1163) dL_law_1160 rfl t_8_129 k_X12_ask rfl (by decide) rfl rfl rfl rfl (Nat.le_of_ble_eq_true rfl) ⟨Nat.le_of_ble_eq_true rfl, Nat.le_of_ble_eq_true rfl⟩ hk ?_
  refine c_M_ask (d := 0) p2 ?_
  show y_Wp m_L_law 0 1163 [(0, zR 300), (1, zR 27), (2, zR 0), (3, zR 26), (4, zI i)] [zI (F_M_ask ((F_D_ask (w) ((B.2.2 (i + 1).toNat).toInt)).2) ((B.2.2 (i + 1).toNat).toInt)), zI ((F_D_ask (w) ((B.2.2 (i + 1).toNat).toInt)).1)] ((F_D_ask (w) ((B.2.2 (i + 1).toNat).toInt)).2) _
  rw [← p3]
  exact y_icmp_same 1516 dL_law_1163 (by decide) (k _ p4)
set_option maxRecDepth 8000 in
set_option maxHeartbeats 2000000 in
theorem l_game {Rl : z_Wd → Prop} {B : Nat × Nat × (Nat → Int32)} {T : Nat × Nat} {kc ks : Nat} {i : Int} {w : z_Wd} (hs : S_game Rl) (hw : Rl w) (hi : 0 ≤ i ∧ i + 7 ≤ B.2.1) (hL : B.2.1 ≤ 3584) (hk : kc ≤ 601024 ∧ ks ≤ 7293034) (k : ∀ w', Rl w' → y_Wp m_L_law 0 1516 [(0, zR 300), (1, zR 27), (2, zR 0), (3, zR 26), (4, zI i)] [] w' (l_X B T kc ks)) : y_Wp m_L_law 0 1168 [(0, zR 300), (1, zR 27), (2, zR 0), (3, zR 26), (4, zI i)] [] w (l_X B T kc ks) := by
  obtain ⟨p1, p2, p3, p4⟩ := hs w ((B.2.2 (i + 1).toNat).toInt) ((B.2.2 (i + 2).toNat).toInt) ((B.2.2 (i + 3).toNat).toInt) ((B.2.2 (i + 4).toNat).toInt) ((B.2.2 (i + 5).toNat).toInt) ((B.2.2 (i + 6).toNat).toInt) (z_r32 _) (z_r32 _) (z_r32 _) (z_r32 _) (z_r32 _) (z_r32 _) hw
  refine y_aload_n (pc' := 1169) 1 rfl rfl dL_law_1168 rfl ?_
  refine y_aload_n (pc' := 1170) 0 rfl rfl dL_law_1169 rfl ?_
  refine y_iload (pc' := 1172) 4 rfl dL_law_1170 rfl ?_
  refine y_iconst (pc' := 1173) dL_law_1172 rfl ?_
  refine y_iadd (pc' := 1174) dL_law_1173 rfl ?_
  refine l_sld (pc' := 1175) (by omega) hL dL_law_1174 rfl ?_
  refine y_aload_n (pc' := 1176) 0 rfl rfl dL_law_1175 rfl ?_
  refine y_iload (pc' := 1178) 4 rfl dL_law_1176 rfl ?_
  refine y_iconst (pc' := 1179) dL_law_1178 rfl ?_
  refine y_iadd (pc' := 1180) dL_law_1179 rfl ?_
  refine l_sld (pc' := 1181) (by omega) hL dL_law_1180 rfl ?_
  refine y_aload_n (pc' := 1182) 0 rfl rfl dL_law_1181 rfl ?_
  refine y_iload (pc' := 1184) 4 rfl dL_law_1182 rfl ?_
  refine y_iconst (pc' := 1185) dL_law_1184 rfl ?_
  refine y_iadd (pc' := 1186) dL_law_1185 rfl ?_
  refine l_sld (pc' := 1187) (by omega) hL dL_law_1186 rfl ?_
  refine y_aload_n (pc' := 1188) 0 rfl rfl dL_law_1187 rfl ?_
  refine y_iload (pc' := 1190) 4 rfl dL_law_1188 rfl ?_
  refine y_iconst (pc' := 1191) dL_law_1190 rfl ?_
  refine y_iadd (pc' := 1192) dL_law_1191 rfl ?_
  refine l_sld (pc' := 1193) (by omega) hL dL_law_1192 rfl ?_
  refine y_aload_n (pc' := 1194) 0 rfl rfl dL_law_1193 rfl ?_
  refine y_iload (pc' := 1196) 4 rfl dL_law_1194 rfl ?_
  refine y_iconst (pc' := 1197) dL_law_1196 rfl ?_
  refine y_iadd (pc' := 1198) dL_law_1197 rfl ?_
  refine l_sld (pc' := 1199) (by omega) hL dL_law_1198 rfl ?_
  refine y_aload_n (pc' := 1200) 0 rfl rfl dL_law_1199 rfl ?_
  refine y_iload (pc' := 1202) 4 rfl dL_law_1200 rfl ?_
  refine y_bipush (pc' := 1204) (by decide) dL_law_1202 rfl ?_
  refine y_iadd (pc' := 1205) dL_law_1204 rfl ?_
  refine l_sld (pc' := 1206) (by omega) hL dL_law_1205 rfl ?_
  refine y_invV (as := [zI (B.2.2 (i + 1).toNat).toInt, zI (B.2.2 (i + 2).toNat).toInt, zI (B.2.2 (i + 3).toNat).toInt, zI (B.2.2 (i + 4).toNat).toInt, zI (B.2.2 (i + 5).toNat).toInt, zI (B.2.2 (i + 6).toNat).toInt]) (st := []) (C := m_X11_game) (d' := 5) (fs := [30, 32, 35, 39, 43, 49, 55, 57, 72, 74, 78, 80, 0, 0, 1]) (pc' := 1209) dL_law_1206 rfl t_5_58 k_X11_game rfl (by decide) rfl rfl rfl rfl (Nat.le_of_ble_eq_true rfl) ⟨Nat.le_of_ble_eq_true rfl, Nat.le_of_ble_eq_true rfl⟩ hk ?_
  refine c_D_game (d := 0) p1 ?_
  show y_Wp m_L_law 0 1209 [(0, zR 300), (1, zR 27), (2, zR 0), (3, zR 26), (4, zI i)] [zI ((F_D_game (w) ((B.2.2 (i + 1).toNat).toInt) ((B.2.2 (i + 2).toNat).toInt) ((B.2.2 (i + 3).toNat).toInt) ((B.2.2 (i + 4).toNat).toInt) ((B.2.2 (i + 5).toNat).toInt) ((B.2.2 (i + 6).toNat).toInt)).1)] ((F_D_game (w) ((B.2.2 (i + 1).toNat).toInt) ((B.2.2 (i + 2).toNat).toInt) ((B.2.2 (i + 3).toNat).toInt) ((B.2.2 (i + 4).toNat).toInt) ((B.2.2 (i + 5).toNat).toInt) ((B.2.2 (i + 6).toNat).toInt)).2) _
  refine y_aload_n (pc' := 1210) 2 rfl rfl dL_law_1209 rfl ?_
  refine y_aload_n (pc' := 1211) 0 rfl rfl dL_law_1210 rfl ?_
  refine y_iload (pc' := 1213) 4 rfl dL_law_1211 rfl ?_
  refine y_iconst (pc' := 1214) dL_law_1213 rfl ?_
  refine y_iadd (pc' := 1215) dL_law_1214 rfl ?_
  refine l_sld (pc' := 1216) (by omega) hL dL_law_1215 rfl ?_
  refine y_aload_n (pc' := 1217) 0 rfl rfl dL_law_1216 rfl ?_
  refine y_iload (pc' := 1219) 4 rfl dL_law_1217 rfl ?_
  refine y_iconst (pc' := 1220) dL_law_1219 rfl ?_
  refine y_iadd (pc' := 1221) dL_law_1220 rfl ?_
  refine l_sld (pc' := 1222) (by omega) hL dL_law_1221 rfl ?_
  refine y_aload_n (pc' := 1223) 0 rfl rfl dL_law_1222 rfl ?_
  refine y_iload (pc' := 1225) 4 rfl dL_law_1223 rfl ?_
  refine y_iconst (pc' := 1226) dL_law_1225 rfl ?_
  refine y_iadd (pc' := 1227) dL_law_1226 rfl ?_
  refine l_sld (pc' := 1228) (by omega) hL dL_law_1227 rfl ?_
  refine y_aload_n (pc' := 1229) 0 rfl rfl dL_law_1228 rfl ?_
  refine y_iload (pc' := 1231) 4 rfl dL_law_1229 rfl ?_
  refine y_iconst (pc' := 1232) dL_law_1231 rfl ?_
  refine y_iadd (pc' := 1233) dL_law_1232 rfl ?_
  refine l_sld (pc' := 1234) (by omega) hL dL_law_1233 rfl ?_
  refine y_aload_n (pc' := 1235) 0 rfl rfl dL_law_1234 rfl ?_
  refine y_iload (pc' := 1237) 4 rfl dL_law_1235 rfl ?_
  refine y_iconst (pc' := 1238) dL_law_1237 rfl ?_
  refine y_iadd (pc' := 1239) dL_law_1238 rfl ?_
  refine l_sld (pc' := 1240) (by omega) hL dL_law_1239 rfl ?_
  refine y_aload_n (pc' := 1241) 0 rfl rfl dL_law_1240 rfl ?_
  refine y_iload (pc' := 1243) 4 rfl dL_law_1241 rfl ?_
  refine y_bipush (pc' := 1245) (by decide) dL_law_1243 rfl ?_
  refine y_iadd (pc' := 1246) dL_law_1245 rfl ?_
  refine l_sld (pc' := 1247) (by omega) hL dL_law_1246 rfl ?_
  refine y_invV (as := [zI (B.2.2 (i + 1).toNat).toInt, zI (B.2.2 (i + 2).toNat).toInt, zI (B.2.2 (i + 3).toNat).toInt, zI (B.2.2 (i + 4).toNat).toInt, zI (B.2.2 (i + 5).toNat).toInt, zI (B.2.2 (i + 6).toNat).toInt]) (st := [zI ((F_D_game (w) ((B.2.2 (i + 1).toNat).toInt) ((B.2.2 (i + 2).toNat).toInt) ((B.2.2 (i + 3).toNat).toInt) ((B.2.2 (i + 4).toNat).toInt) ((B.2.2 (i + 5).toNat).toInt) ((B.2.2 (i + 6).toNat).toInt)).1)]) (C := m_X12_game) (d' := 5) (fs := [0, 3, 0, 0, 0, 0, 4, 5, 6, 7, 8, 9, 10, 0, 0, 11, 12, 13, 14, 15, 16, 0, 0, 0, 17, 18, 19, 20, 0, 0, 0, 21, 22, 0, 0, 23, 0, 1, 24, 0, 0, 25, 26, 0, 27, 0]) (pc' := 1250) dL_law_1247 rfl t_8_138 k_X12_game rfl (by decide) rfl rfl rfl rfl (Nat.le_of_ble_eq_true rfl) ⟨Nat.le_of_ble_eq_true rfl, Nat.le_of_ble_eq_true rfl⟩ hk ?_
  refine c_M_game (d := 0) p2 ?_
  show y_Wp m_L_law 0 1250 [(0, zR 300), (1, zR 27), (2, zR 0), (3, zR 26), (4, zI i)] [zI (F_M_game ((F_D_game (w) ((B.2.2 (i + 1).toNat).toInt) ((B.2.2 (i + 2).toNat).toInt) ((B.2.2 (i + 3).toNat).toInt) ((B.2.2 (i + 4).toNat).toInt) ((B.2.2 (i + 5).toNat).toInt) ((B.2.2 (i + 6).toNat).toInt)).2) ((B.2.2 (i + 1).toNat).toInt) ((B.2.2 (i + 2).toNat).toInt) ((B.2.2 (i + 3).toNat).toInt) ((B.2.2 (i + 4).toNat).toInt) ((B.2.2 (i + 5).toNat).toInt) ((B.2.2 (i + 6).toNat).toInt)), zI ((F_D_game (w) ((B.2.2 (i + 1).toNat).toInt) ((B.2.2 (i + 2).toNat).toInt) ((B.2.2 (i + 3).toNat).toInt) ((B.2.2 (i + 4).toNat).toInt) ((B.2.2 (i + 5).toNat).toInt) ((B.2.2 (i + 6).toNat).toInt)).1)] ((F_D_game (w) ((B.2.2 (i + 1).toNat).toInt) ((B.2.2 (i + 2).toNat).toInt) ((B.2.2 (i + 3).toNat).toInt) ((B.2.2 (i + 4).toNat).toInt) ((B.2.2 (i + 5).toNat).toInt) ((B.2.2 (i + 6).toNat).toInt)).2) _
  rw [← p3]
  exact y_icmp_same 1516 dL_law_1250 (by decide) (k _ p4)
set_option maxRecDepth 8000 in
set_option maxHeartbeats 2000000 in
theorem l_rests {Rl : z_Wd → Prop} {B : Nat × Nat × (Nat → Int32)} {T : Nat × Nat} {kc ks : Nat} {i : Int} {w : z_Wd} (hs : S_rests Rl) (hw : Rl w) (hi : 0 ≤ i ∧ i + 7 ≤ B.2.1) (hL : B.2.1 ≤ 3584) (hk : kc ≤ 601024 ∧ ks ≤ 7293034) (k : ∀ w', Rl w' → y_Wp m_L_law 0 1516 [(0, zR 300), (1, zR 27), (2, zR 0), (3, zR 26), (4, zI i)] [] w' (l_X B T kc ks)) : y_Wp m_L_law 0 1255 [(0, zR 300), (1, zR 27), (2, zR 0), (3, zR 26), (4, zI i)] [] w (l_X B T kc ks) := by
  obtain ⟨p1, p2, p3, p4⟩ := hs w ((B.2.2 (i + 1).toNat).toInt) ((B.2.2 (i + 2).toNat).toInt) ((B.2.2 (i + 3).toNat).toInt) ((B.2.2 (i + 4).toNat).toInt) (z_r32 _) (z_r32 _) (z_r32 _) (z_r32 _) hw
  refine y_aload_n (pc' := 1256) 1 rfl rfl dL_law_1255 rfl ?_
  refine y_aload_n (pc' := 1257) 0 rfl rfl dL_law_1256 rfl ?_
  refine y_iload (pc' := 1259) 4 rfl dL_law_1257 rfl ?_
  refine y_iconst (pc' := 1260) dL_law_1259 rfl ?_
  refine y_iadd (pc' := 1261) dL_law_1260 rfl ?_
  refine l_sld (pc' := 1262) (by omega) hL dL_law_1261 rfl ?_
  refine y_aload_n (pc' := 1263) 0 rfl rfl dL_law_1262 rfl ?_
  refine y_iload (pc' := 1265) 4 rfl dL_law_1263 rfl ?_
  refine y_iconst (pc' := 1266) dL_law_1265 rfl ?_
  refine y_iadd (pc' := 1267) dL_law_1266 rfl ?_
  refine l_sld (pc' := 1268) (by omega) hL dL_law_1267 rfl ?_
  refine y_aload_n (pc' := 1269) 0 rfl rfl dL_law_1268 rfl ?_
  refine y_iload (pc' := 1271) 4 rfl dL_law_1269 rfl ?_
  refine y_iconst (pc' := 1272) dL_law_1271 rfl ?_
  refine y_iadd (pc' := 1273) dL_law_1272 rfl ?_
  refine l_sld (pc' := 1274) (by omega) hL dL_law_1273 rfl ?_
  refine y_aload_n (pc' := 1275) 0 rfl rfl dL_law_1274 rfl ?_
  refine y_iload (pc' := 1277) 4 rfl dL_law_1275 rfl ?_
  refine y_iconst (pc' := 1278) dL_law_1277 rfl ?_
  refine y_iadd (pc' := 1279) dL_law_1278 rfl ?_
  refine l_sld (pc' := 1280) (by omega) hL dL_law_1279 rfl ?_
  refine y_invV (as := [zI (B.2.2 (i + 1).toNat).toInt, zI (B.2.2 (i + 2).toNat).toInt, zI (B.2.2 (i + 3).toNat).toInt, zI (B.2.2 (i + 4).toNat).toInt]) (st := []) (C := m_X11_rests) (d' := 5) (fs := [30, 32, 35, 39, 43, 49, 55, 57, 72, 74, 78, 80, 0, 0, 1]) (pc' := 1283) dL_law_1280 rfl t_5_79 k_X11_rests rfl (by decide) rfl rfl rfl rfl (Nat.le_of_ble_eq_true rfl) ⟨Nat.le_of_ble_eq_true rfl, Nat.le_of_ble_eq_true rfl⟩ hk ?_
  refine c_D_rests (d := 0) p1 ?_
  show y_Wp m_L_law 0 1283 [(0, zR 300), (1, zR 27), (2, zR 0), (3, zR 26), (4, zI i)] [zI ((F_D_rests (w) ((B.2.2 (i + 1).toNat).toInt) ((B.2.2 (i + 2).toNat).toInt) ((B.2.2 (i + 3).toNat).toInt) ((B.2.2 (i + 4).toNat).toInt)).1)] ((F_D_rests (w) ((B.2.2 (i + 1).toNat).toInt) ((B.2.2 (i + 2).toNat).toInt) ((B.2.2 (i + 3).toNat).toInt) ((B.2.2 (i + 4).toNat).toInt)).2) _
  refine y_aload_n (pc' := 1284) 2 rfl rfl dL_law_1283 rfl ?_
  refine y_aload_n (pc' := 1285) 0 rfl rfl dL_law_1284 rfl ?_
  refine y_iload (pc' := 1287) 4 rfl dL_law_1285 rfl ?_
  refine y_iconst (pc' := 1288) dL_law_1287 rfl ?_
  refine y_iadd (pc' := 1289) dL_law_1288 rfl ?_
  refine l_sld (pc' := 1290) (by omega) hL dL_law_1289 rfl ?_
  refine y_aload_n (pc' := 1291) 0 rfl rfl dL_law_1290 rfl ?_
  refine y_iload (pc' := 1293) 4 rfl dL_law_1291 rfl ?_
  refine y_iconst (pc' := 1294) dL_law_1293 rfl ?_
  refine y_iadd (pc' := 1295) dL_law_1294 rfl ?_
  refine l_sld (pc' := 1296) (by omega) hL dL_law_1295 rfl ?_
  refine y_aload_n (pc' := 1297) 0 rfl rfl dL_law_1296 rfl ?_
  refine y_iload (pc' := 1299) 4 rfl dL_law_1297 rfl ?_
  refine y_iconst (pc' := 1300) dL_law_1299 rfl ?_
  refine y_iadd (pc' := 1301) dL_law_1300 rfl ?_
  refine l_sld (pc' := 1302) (by omega) hL dL_law_1301 rfl ?_
  refine y_aload_n (pc' := 1303) 0 rfl rfl dL_law_1302 rfl ?_
  refine y_iload (pc' := 1305) 4 rfl dL_law_1303 rfl ?_
  refine y_iconst (pc' := 1306) dL_law_1305 rfl ?_
  refine y_iadd (pc' := 1307) dL_law_1306 rfl ?_
  refine l_sld (pc' := 1308) (by omega) hL dL_law_1307 rfl ?_
  refine y_invV (as := [zI (B.2.2 (i + 1).toNat).toInt, zI (B.2.2 (i + 2).toNat).toInt, zI (B.2.2 (i + 3).toNat).toInt, zI (B.2.2 (i + 4).toNat).toInt]) (st := [zI ((F_D_rests (w) ((B.2.2 (i + 1).toNat).toInt) ((B.2.2 (i + 2).toNat).toInt) ((B.2.2 (i + 3).toNat).toInt) ((B.2.2 (i + 4).toNat).toInt)).1)]) (C := m_X12_rests) (d' := 6) (fs := [0, 3, 0, 0, 0, 0, 4, 5, 6, 7, 8, 9, 10, 0, 0, 11, 12, 13, 14, 15, 16, 0, 0, 0, 17, 18, 19, 20, 0, 0, 0, 21, 22, 0, 0, 23, 0, 1, 24, 0, 0, 25, 26, 0, 27, 0]) (pc' := 1311) dL_law_1308 rfl t_8_151 k_X12_rests rfl (by decide) rfl rfl rfl rfl (Nat.le_of_ble_eq_true rfl) ⟨Nat.le_of_ble_eq_true rfl, Nat.le_of_ble_eq_true rfl⟩ hk ?_
  refine c_M_rests (d := 0) p2 ?_
  show y_Wp m_L_law 0 1311 [(0, zR 300), (1, zR 27), (2, zR 0), (3, zR 26), (4, zI i)] [zI (F_M_rests ((F_D_rests (w) ((B.2.2 (i + 1).toNat).toInt) ((B.2.2 (i + 2).toNat).toInt) ((B.2.2 (i + 3).toNat).toInt) ((B.2.2 (i + 4).toNat).toInt)).2) ((B.2.2 (i + 1).toNat).toInt) ((B.2.2 (i + 2).toNat).toInt) ((B.2.2 (i + 3).toNat).toInt) ((B.2.2 (i + 4).toNat).toInt)), zI ((F_D_rests (w) ((B.2.2 (i + 1).toNat).toInt) ((B.2.2 (i + 2).toNat).toInt) ((B.2.2 (i + 3).toNat).toInt) ((B.2.2 (i + 4).toNat).toInt)).1)] ((F_D_rests (w) ((B.2.2 (i + 1).toNat).toInt) ((B.2.2 (i + 2).toNat).toInt) ((B.2.2 (i + 3).toNat).toInt) ((B.2.2 (i + 4).toNat).toInt)).2) _
  rw [← p3]
  exact y_icmp_same 1516 dL_law_1311 (by decide) (k _ p4)
set_option maxRecDepth 8000 in
set_option maxHeartbeats 2000000 in
theorem l_odds {Rl : z_Wd → Prop} {B : Nat × Nat × (Nat → Int32)} {T : Nat × Nat} {kc ks : Nat} {i : Int} {w : z_Wd} (hs : S_odds Rl) (hw : Rl w) (hi : 0 ≤ i ∧ i + 7 ≤ B.2.1) (hL : B.2.1 ≤ 3584) (hk : kc ≤ 601024 ∧ ks ≤ 7293034) (k : ∀ w', Rl w' → y_Wp m_L_law 0 1516 [(0, zR 300), (1, zR 27), (2, zR 0), (3, zR 26), (4, zI i)] [] w' (l_X B T kc ks)) : y_Wp m_L_law 0 1316 [(0, zR 300), (1, zR 27), (2, zR 0), (3, zR 26), (4, zI i)] [] w (l_X B T kc ks) := by
  obtain ⟨p1, p2, p3, p4⟩ := hs w ((B.2.2 (i + 1).toNat).toInt) ((B.2.2 (i + 2).toNat).toInt) (z_r32 _) (z_r32 _) hw
  refine y_aload_n (pc' := 1317) 1 rfl rfl dL_law_1316 rfl ?_
  refine y_aload_n (pc' := 1318) 0 rfl rfl dL_law_1317 rfl ?_
  refine y_iload (pc' := 1320) 4 rfl dL_law_1318 rfl ?_
  refine y_iconst (pc' := 1321) dL_law_1320 rfl ?_
  refine y_iadd (pc' := 1322) dL_law_1321 rfl ?_
  refine l_sld (pc' := 1323) (by omega) hL dL_law_1322 rfl ?_
  refine y_aload_n (pc' := 1324) 0 rfl rfl dL_law_1323 rfl ?_
  refine y_iload (pc' := 1326) 4 rfl dL_law_1324 rfl ?_
  refine y_iconst (pc' := 1327) dL_law_1326 rfl ?_
  refine y_iadd (pc' := 1328) dL_law_1327 rfl ?_
  refine l_sld (pc' := 1329) (by omega) hL dL_law_1328 rfl ?_
  refine y_invV (as := [zI (B.2.2 (i + 1).toNat).toInt, zI (B.2.2 (i + 2).toNat).toInt]) (st := []) (C := m_X11_odds) (d' := 18) (fs := [30, 32, 35, 39, 43, 49, 55, 57, 72, 74, 78, 80, 0, 0, 1]) (pc' := 1332) dL_law_1329 rfl t_5_96 k_X11_odds rfl (by decide) rfl rfl rfl rfl (Nat.le_of_ble_eq_true rfl) ⟨Nat.le_of_ble_eq_true rfl, Nat.le_of_ble_eq_true rfl⟩ hk ?_
  refine c_D_odds (d := 0) p1 ?_
  show y_Wp m_L_law 0 1332 [(0, zR 300), (1, zR 27), (2, zR 0), (3, zR 26), (4, zI i)] [zI (F_D_odds (w) ((B.2.2 (i + 1).toNat).toInt) ((B.2.2 (i + 2).toNat).toInt))] (w) _
  refine y_aload_n (pc' := 1333) 2 rfl rfl dL_law_1332 rfl ?_
  refine y_aload_n (pc' := 1334) 0 rfl rfl dL_law_1333 rfl ?_
  refine y_iload (pc' := 1336) 4 rfl dL_law_1334 rfl ?_
  refine y_iconst (pc' := 1337) dL_law_1336 rfl ?_
  refine y_iadd (pc' := 1338) dL_law_1337 rfl ?_
  refine l_sld (pc' := 1339) (by omega) hL dL_law_1338 rfl ?_
  refine y_aload_n (pc' := 1340) 0 rfl rfl dL_law_1339 rfl ?_
  refine y_iload (pc' := 1342) 4 rfl dL_law_1340 rfl ?_
  refine y_iconst (pc' := 1343) dL_law_1342 rfl ?_
  refine y_iadd (pc' := 1344) dL_law_1343 rfl ?_
  refine l_sld (pc' := 1345) (by omega) hL dL_law_1344 rfl ?_
  refine y_invV (as := [zI (B.2.2 (i + 1).toNat).toInt, zI (B.2.2 (i + 2).toNat).toInt]) (st := [zI (F_D_odds (w) ((B.2.2 (i + 1).toNat).toInt) ((B.2.2 (i + 2).toNat).toInt))]) (C := m_X12_odds) (d' := 12) (fs := [0, 3, 0, 0, 0, 0, 4, 5, 6, 7, 8, 9, 10, 0, 0, 11, 12, 13, 14, 15, 16, 0, 0, 0, 17, 18, 19, 20, 0, 0, 0, 21, 22, 0, 0, 23, 0, 1, 24, 0, 0, 25, 26, 0, 27, 0]) (pc' := 1348) dL_law_1345 rfl t_8_159 k_X12_odds rfl (by decide) rfl rfl rfl rfl (Nat.le_of_ble_eq_true rfl) ⟨Nat.le_of_ble_eq_true rfl, Nat.le_of_ble_eq_true rfl⟩ hk ?_
  refine c_M_odds (d := 0) p2 ?_
  show y_Wp m_L_law 0 1348 [(0, zR 300), (1, zR 27), (2, zR 0), (3, zR 26), (4, zI i)] [zI ((F_M_odds (w) ((B.2.2 (i + 1).toNat).toInt) ((B.2.2 (i + 2).toNat).toInt)).1), zI (F_D_odds (w) ((B.2.2 (i + 1).toNat).toInt) ((B.2.2 (i + 2).toNat).toInt))] ((F_M_odds (w) ((B.2.2 (i + 1).toNat).toInt) ((B.2.2 (i + 2).toNat).toInt)).2) _
  rw [← p3]
  exact y_icmp_same 1516 dL_law_1348 (by decide) (k _ p4)
set_option maxRecDepth 8000 in
set_option maxHeartbeats 2000000 in
theorem l_shares {Rl : z_Wd → Prop} {B : Nat × Nat × (Nat → Int32)} {T : Nat × Nat} {kc ks : Nat} {i : Int} {w : z_Wd} (hs : S_shares Rl) (hw : Rl w) (hi : 0 ≤ i ∧ i + 7 ≤ B.2.1) (hL : B.2.1 ≤ 3584) (hk : kc ≤ 601024 ∧ ks ≤ 7293034) (k : ∀ w', Rl w' → y_Wp m_L_law 0 1516 [(0, zR 300), (1, zR 27), (2, zR 0), (3, zR 26), (4, zI i)] [] w' (l_X B T kc ks)) : y_Wp m_L_law 0 1353 [(0, zR 300), (1, zR 27), (2, zR 0), (3, zR 26), (4, zI i)] [] w (l_X B T kc ks) := by
  obtain ⟨p1, p2, p3, p4⟩ := hs w ((B.2.2 (i + 1).toNat).toInt) ((B.2.2 (i + 2).toNat).toInt) (z_r32 _) (z_r32 _) hw
  refine y_aload_n (pc' := 1354) 1 rfl rfl dL_law_1353 rfl ?_
  refine y_aload_n (pc' := 1355) 0 rfl rfl dL_law_1354 rfl ?_
  refine y_iload (pc' := 1357) 4 rfl dL_law_1355 rfl ?_
  refine y_iconst (pc' := 1358) dL_law_1357 rfl ?_
  refine y_iadd (pc' := 1359) dL_law_1358 rfl ?_
  refine l_sld (pc' := 1360) (by omega) hL dL_law_1359 rfl ?_
  refine y_aload_n (pc' := 1361) 0 rfl rfl dL_law_1360 rfl ?_
  refine y_iload (pc' := 1363) 4 rfl dL_law_1361 rfl ?_
  refine y_iconst (pc' := 1364) dL_law_1363 rfl ?_
  refine y_iadd (pc' := 1365) dL_law_1364 rfl ?_
  refine l_sld (pc' := 1366) (by omega) hL dL_law_1365 rfl ?_
  refine y_invV (as := [zI (B.2.2 (i + 1).toNat).toInt, zI (B.2.2 (i + 2).toNat).toInt]) (st := []) (C := m_X11_shares) (d' := 3) (fs := [30, 32, 35, 39, 43, 49, 55, 57, 72, 74, 78, 80, 0, 0, 1]) (pc' := 1369) dL_law_1366 rfl t_5_111 k_X11_shares rfl (by decide) rfl rfl rfl rfl (Nat.le_of_ble_eq_true rfl) ⟨Nat.le_of_ble_eq_true rfl, Nat.le_of_ble_eq_true rfl⟩ hk ?_
  refine c_D_shares (d := 0) p1 ?_
  show y_Wp m_L_law 0 1369 [(0, zR 300), (1, zR 27), (2, zR 0), (3, zR 26), (4, zI i)] [zI (F_D_shares (w) ((B.2.2 (i + 1).toNat).toInt) ((B.2.2 (i + 2).toNat).toInt))] (w) _
  refine y_aload_n (pc' := 1370) 2 rfl rfl dL_law_1369 rfl ?_
  refine y_aload_n (pc' := 1371) 0 rfl rfl dL_law_1370 rfl ?_
  refine y_iload (pc' := 1373) 4 rfl dL_law_1371 rfl ?_
  refine y_iconst (pc' := 1374) dL_law_1373 rfl ?_
  refine y_iadd (pc' := 1375) dL_law_1374 rfl ?_
  refine l_sld (pc' := 1376) (by omega) hL dL_law_1375 rfl ?_
  refine y_aload_n (pc' := 1377) 0 rfl rfl dL_law_1376 rfl ?_
  refine y_iload (pc' := 1379) 4 rfl dL_law_1377 rfl ?_
  refine y_iconst (pc' := 1380) dL_law_1379 rfl ?_
  refine y_iadd (pc' := 1381) dL_law_1380 rfl ?_
  refine l_sld (pc' := 1382) (by omega) hL dL_law_1381 rfl ?_
  refine y_invV (as := [zI (B.2.2 (i + 1).toNat).toInt, zI (B.2.2 (i + 2).toNat).toInt]) (st := [zI (F_D_shares (w) ((B.2.2 (i + 1).toNat).toInt) ((B.2.2 (i + 2).toNat).toInt))]) (C := m_X12_shares) (d' := 3) (fs := [0, 3, 0, 0, 0, 0, 4, 5, 6, 7, 8, 9, 10, 0, 0, 11, 12, 13, 14, 15, 16, 0, 0, 0, 17, 18, 19, 20, 0, 0, 0, 21, 22, 0, 0, 23, 0, 1, 24, 0, 0, 25, 26, 0, 27, 0]) (pc' := 1385) dL_law_1382 rfl t_8_168 k_X12_shares rfl (by decide) rfl rfl rfl rfl (Nat.le_of_ble_eq_true rfl) ⟨Nat.le_of_ble_eq_true rfl, Nat.le_of_ble_eq_true rfl⟩ hk ?_
  refine c_M_shares (d := 0) p2 ?_
  show y_Wp m_L_law 0 1385 [(0, zR 300), (1, zR 27), (2, zR 0), (3, zR 26), (4, zI i)] [zI (F_M_shares (w) ((B.2.2 (i + 1).toNat).toInt) ((B.2.2 (i + 2).toNat).toInt)), zI (F_D_shares (w) ((B.2.2 (i + 1).toNat).toInt) ((B.2.2 (i + 2).toNat).toInt))] (w) _
  rw [← p3]
  exact y_icmp_same 1516 dL_law_1385 (by decide) (k _ p4)
set_option maxRecDepth 8000 in
set_option maxHeartbeats 2000000 in
theorem l_most {Rl : z_Wd → Prop} {B : Nat × Nat × (Nat → Int32)} {T : Nat × Nat} {kc ks : Nat} {i : Int} {w : z_Wd} (hs : S_most Rl) (hw : Rl w) (hi : 0 ≤ i ∧ i + 7 ≤ B.2.1) (hL : B.2.1 ≤ 3584) (hk : kc ≤ 601024 ∧ ks ≤ 7293034) (k : ∀ w', Rl w' → y_Wp m_L_law 0 1516 [(0, zR 300), (1, zR 27), (2, zR 0), (3, zR 26), (4, zI i)] [] w' (l_X B T kc ks)) : y_Wp m_L_law 0 1390 [(0, zR 300), (1, zR 27), (2, zR 0), (3, zR 26), (4, zI i)] [] w (l_X B T kc ks) := by
  obtain ⟨p1, p2, p3, p4⟩ := hs w ((B.2.2 (i + 1).toNat).toInt) (z_r32 _) hw
  refine y_aload_n (pc' := 1391) 1 rfl rfl dL_law_1390 rfl ?_
  refine y_aload_n (pc' := 1392) 0 rfl rfl dL_law_1391 rfl ?_
  refine y_iload (pc' := 1394) 4 rfl dL_law_1392 rfl ?_
  refine y_iconst (pc' := 1395) dL_law_1394 rfl ?_
  refine y_iadd (pc' := 1396) dL_law_1395 rfl ?_
  refine l_sld (pc' := 1397) (by omega) hL dL_law_1396 rfl ?_
  refine y_invV (as := [zI (B.2.2 (i + 1).toNat).toInt]) (st := []) (C := m_X11_most) (d' := 7) (fs := [30, 32, 35, 39, 43, 49, 55, 57, 72, 74, 78, 80, 0, 0, 1]) (pc' := 1400) dL_law_1397 rfl t_5_116 k_X11_most rfl (by decide) rfl rfl rfl rfl (Nat.le_of_ble_eq_true rfl) ⟨Nat.le_of_ble_eq_true rfl, Nat.le_of_ble_eq_true rfl⟩ hk ?_
  refine c_D_most (d := 0) p1 ?_
  show y_Wp m_L_law 0 1400 [(0, zR 300), (1, zR 27), (2, zR 0), (3, zR 26), (4, zI i)] [zI ((F_D_most (w) ((B.2.2 (i + 1).toNat).toInt)).1)] ((F_D_most (w) ((B.2.2 (i + 1).toNat).toInt)).2) _
  refine y_aload_n (pc' := 1401) 2 rfl rfl dL_law_1400 rfl ?_
  refine y_aload_n (pc' := 1402) 0 rfl rfl dL_law_1401 rfl ?_
  refine y_iload (pc' := 1404) 4 rfl dL_law_1402 rfl ?_
  refine y_iconst (pc' := 1405) dL_law_1404 rfl ?_
  refine y_iadd (pc' := 1406) dL_law_1405 rfl ?_
  refine l_sld (pc' := 1407) (by omega) hL dL_law_1406 rfl ?_
  refine y_invV (as := [zI (B.2.2 (i + 1).toNat).toInt]) (st := [zI ((F_D_most (w) ((B.2.2 (i + 1).toNat).toInt)).1)]) (C := m_X12_most) (d' := 9) (fs := [0, 3, 0, 0, 0, 0, 4, 5, 6, 7, 8, 9, 10, 0, 0, 11, 12, 13, 14, 15, 16, 0, 0, 0, 17, 18, 19, 20, 0, 0, 0, 21, 22, 0, 0, 23, 0, 1, 24, 0, 0, 25, 26, 0, 27, 0]) (pc' := 1410) dL_law_1407 rfl t_8_172 k_X12_most rfl (by decide) rfl rfl rfl rfl (Nat.le_of_ble_eq_true rfl) ⟨Nat.le_of_ble_eq_true rfl, Nat.le_of_ble_eq_true rfl⟩ hk ?_
  refine c_M_most (d := 0) p2 ?_
  show y_Wp m_L_law 0 1410 [(0, zR 300), (1, zR 27), (2, zR 0), (3, zR 26), (4, zI i)] [zI ((F_M_most ((F_D_most (w) ((B.2.2 (i + 1).toNat).toInt)).2) ((B.2.2 (i + 1).toNat).toInt)).1), zI ((F_D_most (w) ((B.2.2 (i + 1).toNat).toInt)).1)] ((F_M_most ((F_D_most (w) ((B.2.2 (i + 1).toNat).toInt)).2) ((B.2.2 (i + 1).toNat).toInt)).2) _
  rw [← p3]
  exact y_icmp_same 1516 dL_law_1410 (by decide) (k _ p4)
set_option maxRecDepth 8000 in
set_option maxHeartbeats 2000000 in
theorem l_known {Rl : z_Wd → Prop} {B : Nat × Nat × (Nat → Int32)} {T : Nat × Nat} {kc ks : Nat} {i : Int} {w : z_Wd} (hs : S_known Rl) (hw : Rl w) (hi : 0 ≤ i ∧ i + 7 ≤ B.2.1) (hL : B.2.1 ≤ 3584) (hk : kc ≤ 601024 ∧ ks ≤ 7293034) (k : ∀ w', Rl w' → y_Wp m_L_law 0 1516 [(0, zR 300), (1, zR 27), (2, zR 0), (3, zR 26), (4, zI i)] [] w' (l_X B T kc ks)) : y_Wp m_L_law 0 1415 [(0, zR 300), (1, zR 27), (2, zR 0), (3, zR 26), (4, zI i)] [] w (l_X B T kc ks) := by
  obtain ⟨p1, p2, p3, p4⟩ := hs w ((B.2.2 (i + 1).toNat).toInt) (z_r32 _) hw
  refine y_aload_n (pc' := 1416) 1 rfl rfl dL_law_1415 rfl ?_
  refine y_aload_n (pc' := 1417) 0 rfl rfl dL_law_1416 rfl ?_
  refine y_iload (pc' := 1419) 4 rfl dL_law_1417 rfl ?_
  refine y_iconst (pc' := 1420) dL_law_1419 rfl ?_
  refine y_iadd (pc' := 1421) dL_law_1420 rfl ?_
  refine l_sld (pc' := 1422) (by omega) hL dL_law_1421 rfl ?_
  refine y_invV (as := [zI (B.2.2 (i + 1).toNat).toInt]) (st := []) (C := m_X11_known) (d' := 2) (fs := [30, 32, 35, 39, 43, 49, 55, 57, 72, 74, 78, 80, 0, 0, 1]) (pc' := 1425) dL_law_1422 rfl t_5_159 k_X11_known rfl (by decide) rfl rfl rfl rfl (Nat.le_of_ble_eq_true rfl) ⟨Nat.le_of_ble_eq_true rfl, Nat.le_of_ble_eq_true rfl⟩ hk ?_
  refine c_D_known (d := 0) p1 ?_
  show y_Wp m_L_law 0 1425 [(0, zR 300), (1, zR 27), (2, zR 0), (3, zR 26), (4, zI i)] [zI (F_D_known (w) ((B.2.2 (i + 1).toNat).toInt))] (w) _
  refine y_aload_n (pc' := 1426) 2 rfl rfl dL_law_1425 rfl ?_
  refine y_aload_n (pc' := 1427) 0 rfl rfl dL_law_1426 rfl ?_
  refine y_iload (pc' := 1429) 4 rfl dL_law_1427 rfl ?_
  refine y_iconst (pc' := 1430) dL_law_1429 rfl ?_
  refine y_iadd (pc' := 1431) dL_law_1430 rfl ?_
  refine l_sld (pc' := 1432) (by omega) hL dL_law_1431 rfl ?_
  refine y_invV (as := [zI (B.2.2 (i + 1).toNat).toInt]) (st := [zI (F_D_known (w) ((B.2.2 (i + 1).toNat).toInt))]) (C := m_X12_known) (d' := 2) (fs := [0, 3, 0, 0, 0, 0, 4, 5, 6, 7, 8, 9, 10, 0, 0, 11, 12, 13, 14, 15, 16, 0, 0, 0, 17, 18, 19, 20, 0, 0, 0, 21, 22, 0, 0, 23, 0, 1, 24, 0, 0, 25, 26, 0, 27, 0]) (pc' := 1435) dL_law_1432 rfl t_8_204 k_X12_known rfl (by decide) rfl rfl rfl rfl (Nat.le_of_ble_eq_true rfl) ⟨Nat.le_of_ble_eq_true rfl, Nat.le_of_ble_eq_true rfl⟩ hk ?_
  refine c_M_known (d := 0) p2 ?_
  show y_Wp m_L_law 0 1435 [(0, zR 300), (1, zR 27), (2, zR 0), (3, zR 26), (4, zI i)] [zI (F_M_known (w) ((B.2.2 (i + 1).toNat).toInt)), zI (F_D_known (w) ((B.2.2 (i + 1).toNat).toInt))] (w) _
  rw [← p3]
  exact y_icmp_same 1516 dL_law_1435 (by decide) (k _ p4)
set_option maxRecDepth 8000 in
set_option maxHeartbeats 2000000 in
theorem l_quiet {Rl : z_Wd → Prop} {B : Nat × Nat × (Nat → Int32)} {T : Nat × Nat} {kc ks : Nat} {i : Int} {w : z_Wd} (hs : S_quiet Rl) (hw : Rl w) (hi : 0 ≤ i ∧ i + 7 ≤ B.2.1) (hL : B.2.1 ≤ 3584) (hk : kc ≤ 601024 ∧ ks ≤ 7293034) (k : ∀ w', Rl w' → y_Wp m_L_law 0 1516 [(0, zR 300), (1, zR 27), (2, zR 0), (3, zR 26), (4, zI i)] [] w' (l_X B T kc ks)) : y_Wp m_L_law 0 1440 [(0, zR 300), (1, zR 27), (2, zR 0), (3, zR 26), (4, zI i)] [] w (l_X B T kc ks) := by
  obtain ⟨p1, p2, p3, p4⟩ := hs w ((B.2.2 (i + 1).toNat).toInt) (z_r32 _) hw
  refine y_aload_n (pc' := 1441) 1 rfl rfl dL_law_1440 rfl ?_
  refine y_aload_n (pc' := 1442) 0 rfl rfl dL_law_1441 rfl ?_
  refine y_iload (pc' := 1444) 4 rfl dL_law_1442 rfl ?_
  refine y_iconst (pc' := 1445) dL_law_1444 rfl ?_
  refine y_iadd (pc' := 1446) dL_law_1445 rfl ?_
  refine l_sld (pc' := 1447) (by omega) hL dL_law_1446 rfl ?_
  refine y_invV (as := [zI (B.2.2 (i + 1).toNat).toInt]) (st := []) (C := m_X11_quiet) (d' := 8) (fs := [30, 32, 35, 39, 43, 49, 55, 57, 72, 74, 78, 80, 0, 0, 1]) (pc' := 1450) dL_law_1447 rfl t_5_164 k_X11_quiet rfl (by decide) rfl rfl rfl rfl (Nat.le_of_ble_eq_true rfl) ⟨Nat.le_of_ble_eq_true rfl, Nat.le_of_ble_eq_true rfl⟩ hk ?_
  refine c_D_quiet (d := 0) p1 ?_
  show y_Wp m_L_law 0 1450 [(0, zR 300), (1, zR 27), (2, zR 0), (3, zR 26), (4, zI i)] [zI ((F_D_quiet (w) ((B.2.2 (i + 1).toNat).toInt)).1)] ((F_D_quiet (w) ((B.2.2 (i + 1).toNat).toInt)).2) _
  refine y_aload_n (pc' := 1451) 2 rfl rfl dL_law_1450 rfl ?_
  refine y_aload_n (pc' := 1452) 0 rfl rfl dL_law_1451 rfl ?_
  refine y_iload (pc' := 1454) 4 rfl dL_law_1452 rfl ?_
  refine y_iconst (pc' := 1455) dL_law_1454 rfl ?_
  refine y_iadd (pc' := 1456) dL_law_1455 rfl ?_
  refine l_sld (pc' := 1457) (by omega) hL dL_law_1456 rfl ?_
  refine y_invV (as := [zI (B.2.2 (i + 1).toNat).toInt]) (st := [zI ((F_D_quiet (w) ((B.2.2 (i + 1).toNat).toInt)).1)]) (C := m_X12_quiet) (d' := 8) (fs := [0, 3, 0, 0, 0, 0, 4, 5, 6, 7, 8, 9, 10, 0, 0, 11, 12, 13, 14, 15, 16, 0, 0, 0, 17, 18, 19, 20, 0, 0, 0, 21, 22, 0, 0, 23, 0, 1, 24, 0, 0, 25, 26, 0, 27, 0]) (pc' := 1460) dL_law_1457 rfl t_8_208 k_X12_quiet rfl (by decide) rfl rfl rfl rfl (Nat.le_of_ble_eq_true rfl) ⟨Nat.le_of_ble_eq_true rfl, Nat.le_of_ble_eq_true rfl⟩ hk ?_
  refine c_M_quiet (d := 0) p2 ?_
  show y_Wp m_L_law 0 1460 [(0, zR 300), (1, zR 27), (2, zR 0), (3, zR 26), (4, zI i)] [zI ((F_M_quiet ((F_D_quiet (w) ((B.2.2 (i + 1).toNat).toInt)).2) ((B.2.2 (i + 1).toNat).toInt)).1), zI ((F_D_quiet (w) ((B.2.2 (i + 1).toNat).toInt)).1)] ((F_M_quiet ((F_D_quiet (w) ((B.2.2 (i + 1).toNat).toInt)).2) ((B.2.2 (i + 1).toNat).toInt)).2) _
  rw [← p3]
  exact y_icmp_same 1516 dL_law_1460 (by decide) (k _ p4)
set_option maxRecDepth 8000 in
set_option maxHeartbeats 2000000 in
theorem l_image {Rl : z_Wd → Prop} {B : Nat × Nat × (Nat → Int32)} {T : Nat × Nat} {kc ks : Nat} {i : Int} {w : z_Wd} (hs : S_image Rl) (hw : Rl w) (hi : 0 ≤ i ∧ i + 7 ≤ B.2.1) (hL : B.2.1 ≤ 3584) (hk : kc ≤ 601024 ∧ ks ≤ 7293034) (k : ∀ w', Rl w' → y_Wp m_L_law 0 1516 [(0, zR 300), (1, zR 27), (2, zR 0), (3, zR 26), (4, zI i)] [] w' (l_X B T kc ks)) : y_Wp m_L_law 0 1465 [(0, zR 300), (1, zR 27), (2, zR 0), (3, zR 26), (4, zI i)] [] w (l_X B T kc ks) := by
  obtain ⟨p1, p2, p3, p4⟩ := hs w hw
  refine y_aload_n (pc' := 1466) 1 rfl rfl dL_law_1465 rfl ?_
  refine y_invV (as := []) (st := []) (C := m_X11_image) (d' := 2) (fs := [30, 32, 35, 39, 43, 49, 55, 57, 72, 74, 78, 80, 0, 0, 1]) (pc' := 1469) dL_law_1466 rfl t_5_177 k_X11_image rfl (by decide) rfl rfl rfl rfl (Nat.le_of_ble_eq_true rfl) ⟨Nat.le_of_ble_eq_true rfl, Nat.le_of_ble_eq_true rfl⟩ hk ?_
  refine c_D_image (d := 0) p1 ?_
  show y_Wp m_L_law 0 1469 [(0, zR 300), (1, zR 27), (2, zR 0), (3, zR 26), (4, zI i)] [zI ((F_D_image (w)).1)] ((F_D_image (w)).2) _
  refine y_aload_n (pc' := 1470) 2 rfl rfl dL_law_1469 rfl ?_
  refine y_invV (as := []) (st := [zI ((F_D_image (w)).1)]) (C := m_X12_image) (d' := 0) (fs := [0, 3, 0, 0, 0, 0, 4, 5, 6, 7, 8, 9, 10, 0, 0, 11, 12, 13, 14, 15, 16, 0, 0, 0, 17, 18, 19, 20, 0, 0, 0, 21, 22, 0, 0, 23, 0, 1, 24, 0, 0, 25, 26, 0, 27, 0]) (pc' := 1473) dL_law_1470 rfl t_8_212 k_X12_image rfl (by decide) rfl rfl rfl rfl (Nat.le_of_ble_eq_true rfl) ⟨Nat.le_of_ble_eq_true rfl, Nat.le_of_ble_eq_true rfl⟩ hk ?_
  refine c_M_image (d := 0) p2 ?_
  show y_Wp m_L_law 0 1473 [(0, zR 300), (1, zR 27), (2, zR 0), (3, zR 26), (4, zI i)] [zI ((F_M_image ((F_D_image (w)).2)).1), zI ((F_D_image (w)).1)] ((F_M_image ((F_D_image (w)).2)).2) _
  rw [← p3]
  exact y_icmp_same 1516 dL_law_1473 (by decide) (k _ p4)
