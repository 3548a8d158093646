/-! the cases of the law -/
theorem l_pass {w : Wd} {x : Zc} {rt : Option FieldType} {nm : String} {μ : Mem} {k n : Nat} {Q : State → Prop} {b L : Nat} {xs : Nat → Int32} {G M : Nat → Nat} {o : Nat} {t N i : Int} {s : Sg}
    (C : Cx w x cL_law 7 RL rt room_1 nm) (S : cS w x b L xs) (hI : lI μ G M o t N s) (hi : 0 ≤ i ∧ i + 4 ≤ (L : Int)) (hN : N + 1 ≤ 512) (hk : k + 30 ≤ 601024) (hn : n + 1000 ≤ 7293034)
    (next : ∀ μ' t' s', lI μ' G M o t' (N + 1) s' → Z w x Q 7 1451 (lc0 b (G 0) (M 0) o i) [] μ' (k + 30) (n + 1000)) : Z w x Q 7 1065 (lc0 b (G 0) (M 0) o i) [] μ k n := by
  obtain ⟨r, hr⟩ : ∃ r, r = spPass (sv xs (i + 1)) s := ⟨_, rfl⟩
  have KH := h_pass w μ G N s o (sv xs (i + 1)) hI.1 hI.2.2.1 hI.2.2.2.2.1 (sv_in _ _)
  rw [← hr] at KH
  refine z_aload_n C dL_law_1065 rfl ?_
  refine z_aload_n C dL_law_1066 rfl ?_
  refine z_iload C dL_law_1067 rfl ?_
  refine z_iconst C dL_law_1069 ?_
  refine z_iadd C dL_law_1070 ?_
  refine z_sld C S dL_law_1071 ⟨by omega, by omega⟩ ?_
  refine z_aload_n C dL_law_1072 rfl ?_
  refine z_lawH C S KH qH_pass dL_law_1073 rfl (fun v μ1 h => ?_) (by omega) (by omega)
  obtain ⟨rfl, hR1, hF1, ho1, hr3, hA⟩ := h
  have KK : okS N r.2.2 := by
    rw [hr]
    exact kk_pass hI.2.2.1 _
  have hM1 := Rm_Fh hI.2.1 hI.2.2.2.1 hI.2.2.2.2.2 hF1
  have KM := m_pass w (sv xs (i + 1)) hM1 hI.2.2.1 (sv_in _ _)
  rw [← hr] at KM
  refine z_istore C dL_law_1076 ?_
  refine z_aload_n C dL_law_1078 rfl ?_
  refine z_aload_n C dL_law_1079 rfl ?_
  refine z_iload C dL_law_1080 rfl ?_
  refine z_iconst C dL_law_1082 ?_
  refine z_iadd C dL_law_1083 ?_
  refine z_sld C S dL_law_1084 ⟨by omega, by omega⟩ ?_
  refine z_lawV C KM qM_L_147 dL_law_1085 rfl (zRc_o (Rm_g0 hM1)) (fun v μ2 h => ?_) (by omega) (by omega)
  obtain ⟨⟨z, rfl, hz⟩, hR2, hF2⟩ := h
  refine z_istore C dL_law_1088 ?_
  obtain ⟨hI2, e2⟩ := lI_step hI hR1 hF1 ho1 hR2 hF2 (okS_1 KK hN)
  exact law_tail C hI2 hz (by rw [e2]; exact hA) hr3 dL_law_1090 dL_law_1091 dL_law_1094 dL_law_1096 dL_law_1101 dL_law_1103 dL_law_1106 dL_law_1107 dL_law_1108 dL_law_1109 dL_law_1111 dL_law_1112 dL_law_1113 dL_law_1118 (by decide) (by omega) (by omega) (next _ _ _ hI2)
theorem l_traps {w : Wd} {x : Zc} {rt : Option FieldType} {nm : String} {μ : Mem} {k n : Nat} {Q : State → Prop} {b L : Nat} {xs : Nat → Int32} {G M : Nat → Nat} {o : Nat} {t N i : Int} {s : Sg}
    (C : Cx w x cL_law 7 RL rt room_1 nm) (S : cS w x b L xs) (hI : lI μ G M o t N s) (hi : 0 ≤ i ∧ i + 4 ≤ (L : Int)) (hN : N + 1 ≤ 512) (hk : k + 30 ≤ 601024) (hn : n + 1000 ≤ 7293034)
    (next : ∀ μ' t' s', lI μ' G M o t' (N + 1) s' → Z w x Q 7 1451 (lc0 b (G 0) (M 0) o i) [] μ' (k + 30) (n + 1000)) : Z w x Q 7 1121 (lc0 b (G 0) (M 0) o i) [] μ k n := by
  obtain ⟨r, hr⟩ : ∃ r, r = spTraps s := ⟨_, rfl⟩
  have KH := c_traps w μ G N s hI.1 hI.2.2.1
  rw [← hr] at KH
  refine z_aload_n C dL_law_1121 rfl ?_
  refine z_lawV C KH qM_L_148 dL_law_1122 rfl (zRc_o (Rc_g0 hI.1)) (fun v μ1 h => ?_) (by omega) (by omega)
  obtain ⟨h9, rfl, hR1, hFc⟩ := h
  have hF1 : Fh μ μ1 G o := Fh_Fc hFc
  have ho1 := outS_Fc hI.2.2.2.2.1 hFc
  have KK : okS N r.2.2 := by
    rw [hr]
    exact kk_traps hI.2.2.1
  have hM1 := Rm_Fh hI.2.1 hI.2.2.2.1 hI.2.2.2.2.2 hF1
  have KM := m_traps w hM1 hI.2.2.1
  rw [← hr] at KM
  refine z_aload_n C dL_law_1125 rfl ?_
  refine z_lawV C KM qM_L_151 dL_law_1126 rfl (zRc_o (Rm_g0 hM1)) (fun v μ2 h => ?_) (by omega) (by omega)
  obtain ⟨⟨z, rfl, hz⟩, hR2, hF2⟩ := h
  obtain ⟨hI2, e2⟩ := lI_step hI hR1 hF1 ho1 hR2 hF2 (okS_1 KK hN)
  obtain ⟨y, hy, hy2⟩ := J_nm r.2.1
  rw [hz h9, hy]
  refine z_icmp_eq (tgt := 1451) C dL_law_1129 (by decide) ⟨hy2, hy2⟩ (fun _ => ?_) (fun h => absurd rfl h)
  exact next _ _ _ hI2
theorem l_trapOf {w : Wd} {x : Zc} {rt : Option FieldType} {nm : String} {μ : Mem} {k n : Nat} {Q : State → Prop} {b L : Nat} {xs : Nat → Int32} {G M : Nat → Nat} {o : Nat} {t N i : Int} {s : Sg}
    (C : Cx w x cL_law 7 RL rt room_1 nm) (S : cS w x b L xs) (hI : lI μ G M o t N s) (hi : 0 ≤ i ∧ i + 4 ≤ (L : Int)) (hN : N + 1 ≤ 512) (hk : k + 30 ≤ 601024) (hn : n + 1000 ≤ 7293034)
    (next : ∀ μ' t' s', lI μ' G M o t' (N + 1) s' → Z w x Q 7 1451 (lc0 b (G 0) (M 0) o i) [] μ' (k + 30) (n + 1000)) : Z w x Q 7 1134 (lc0 b (G 0) (M 0) o i) [] μ k n := by
  obtain ⟨r, hr⟩ : ∃ r, r = spTold (fun x => x.1) (sv xs (i + 1)) s := ⟨_, rfl⟩
  have KH := h_trapOf w μ G N s o (sv xs (i + 1)) hI.1 hI.2.2.1 hI.2.2.2.2.1 (sv_in _ _)
  rw [← hr] at KH
  refine z_aload_n C dL_law_1134 rfl ?_
  refine z_aload_n C dL_law_1135 rfl ?_
  refine z_iload C dL_law_1136 rfl ?_
  refine z_iconst C dL_law_1138 ?_
  refine z_iadd C dL_law_1139 ?_
  refine z_sld C S dL_law_1140 ⟨by omega, by omega⟩ ?_
  refine z_aload_n C dL_law_1141 rfl ?_
  refine z_lawH C S KH qH_trapOf dL_law_1142 rfl (fun v μ1 h => ?_) (by omega) (by omega)
  obtain ⟨rfl, hR1, hF1, ho1, hr3, hA⟩ := h
  have KK : okS N r.2.2 := by
    rw [hr]
    exact kk_told hI.2.2.1 _ _
  have hM1 := Rm_Fh hI.2.1 hI.2.2.2.1 hI.2.2.2.2.2 hF1
  have KM := m_trapOf w (sv xs (i + 1)) hM1 hI.2.2.1 (sv_in _ _)
  rw [← hr] at KM
  refine z_istore C dL_law_1145 ?_
  refine z_aload_n C dL_law_1147 rfl ?_
  refine z_aload_n C dL_law_1148 rfl ?_
  refine z_iload C dL_law_1149 rfl ?_
  refine z_iconst C dL_law_1151 ?_
  refine z_iadd C dL_law_1152 ?_
  refine z_sld C S dL_law_1153 ⟨by omega, by omega⟩ ?_
  refine z_lawV C KM qM_L_154 dL_law_1154 rfl (zRc_o (Rm_g0 hM1)) (fun v μ2 h => ?_) (by omega) (by omega)
  obtain ⟨⟨z, rfl, hz⟩, hR2, hF2⟩ := h
  refine z_istore C dL_law_1157 ?_
  obtain ⟨hI2, e2⟩ := lI_step hI hR1 hF1 ho1 hR2 hF2 (okS_1 KK hN)
  exact law_tail C hI2 hz (by rw [e2]; exact hA) hr3 dL_law_1159 dL_law_1160 dL_law_1163 dL_law_1165 dL_law_1170 dL_law_1172 dL_law_1175 dL_law_1176 dL_law_1177 dL_law_1178 dL_law_1180 dL_law_1181 dL_law_1182 dL_law_1187 (by decide) (by omega) (by omega) (next _ _ _ hI2)
theorem l_trapAt {w : Wd} {x : Zc} {rt : Option FieldType} {nm : String} {μ : Mem} {k n : Nat} {Q : State → Prop} {b L : Nat} {xs : Nat → Int32} {G M : Nat → Nat} {o : Nat} {t N i : Int} {s : Sg}
    (C : Cx w x cL_law 7 RL rt room_1 nm) (S : cS w x b L xs) (hI : lI μ G M o t N s) (hi : 0 ≤ i ∧ i + 4 ≤ (L : Int)) (hN : N + 1 ≤ 512) (hk : k + 30 ≤ 601024) (hn : n + 1000 ≤ 7293034)
    (next : ∀ μ' t' s', lI μ' G M o t' (N + 1) s' → Z w x Q 7 1451 (lc0 b (G 0) (M 0) o i) [] μ' (k + 30) (n + 1000)) : Z w x Q 7 1190 (lc0 b (G 0) (M 0) o i) [] μ k n := by
  obtain ⟨r, hr⟩ : ∃ r, r = spTold (fun x => x.2.2.1) (sv xs (i + 1)) s := ⟨_, rfl⟩
  have KH := h_trapAt w μ G N s o (sv xs (i + 1)) hI.1 hI.2.2.1 hI.2.2.2.2.1 (sv_in _ _)
  rw [← hr] at KH
  refine z_aload_n C dL_law_1190 rfl ?_
  refine z_aload_n C dL_law_1191 rfl ?_
  refine z_iload C dL_law_1192 rfl ?_
  refine z_iconst C dL_law_1194 ?_
  refine z_iadd C dL_law_1195 ?_
  refine z_sld C S dL_law_1196 ⟨by omega, by omega⟩ ?_
  refine z_aload_n C dL_law_1197 rfl ?_
  refine z_lawH C S KH qH_trapAt dL_law_1198 rfl (fun v μ1 h => ?_) (by omega) (by omega)
  obtain ⟨rfl, hR1, hF1, ho1, hr3, hA⟩ := h
  have KK : okS N r.2.2 := by
    rw [hr]
    exact kk_told hI.2.2.1 _ _
  have hM1 := Rm_Fh hI.2.1 hI.2.2.2.1 hI.2.2.2.2.2 hF1
  have KM := m_trapAt w (sv xs (i + 1)) hM1 hI.2.2.1 (sv_in _ _)
  rw [← hr] at KM
  refine z_istore C dL_law_1201 ?_
  refine z_aload_n C dL_law_1203 rfl ?_
  refine z_aload_n C dL_law_1204 rfl ?_
  refine z_iload C dL_law_1205 rfl ?_
  refine z_iconst C dL_law_1207 ?_
  refine z_iadd C dL_law_1208 ?_
  refine z_sld C S dL_law_1209 ⟨by omega, by omega⟩ ?_
  refine z_lawV C KM qM_L_157 dL_law_1210 rfl (zRc_o (Rm_g0 hM1)) (fun v μ2 h => ?_) (by omega) (by omega)
  obtain ⟨⟨z, rfl, hz⟩, hR2, hF2⟩ := h
  refine z_istore C dL_law_1213 ?_
  obtain ⟨hI2, e2⟩ := lI_step hI hR1 hF1 ho1 hR2 hF2 (okS_1 KK hN)
  exact law_tail C hI2 hz (by rw [e2]; exact hA) hr3 dL_law_1215 dL_law_1216 dL_law_1219 dL_law_1221 dL_law_1226 dL_law_1228 dL_law_1231 dL_law_1232 dL_law_1233 dL_law_1234 dL_law_1236 dL_law_1237 dL_law_1238 dL_law_1243 (by decide) (by omega) (by omega) (next _ _ _ hI2)
theorem l_repeats {w : Wd} {x : Zc} {rt : Option FieldType} {nm : String} {μ : Mem} {k n : Nat} {Q : State → Prop} {b L : Nat} {xs : Nat → Int32} {G M : Nat → Nat} {o : Nat} {t N i : Int} {s : Sg}
    (C : Cx w x cL_law 7 RL rt room_1 nm) (S : cS w x b L xs) (hI : lI μ G M o t N s) (hi : 0 ≤ i ∧ i + 4 ≤ (L : Int)) (hN : N + 1 ≤ 512) (hk : k + 30 ≤ 601024) (hn : n + 1000 ≤ 7293034)
    (next : ∀ μ' t' s', lI μ' G M o t' (N + 1) s' → Z w x Q 7 1451 (lc0 b (G 0) (M 0) o i) [] μ' (k + 30) (n + 1000)) : Z w x Q 7 1246 (lc0 b (G 0) (M 0) o i) [] μ k n := by
  obtain ⟨r, hr⟩ : ∃ r, r = spTold (fun x => x.2.2.2) (sv xs (i + 1)) s := ⟨_, rfl⟩
  have KH := h_repeats w μ G N s o (sv xs (i + 1)) hI.1 hI.2.2.1 hI.2.2.2.2.1 (sv_in _ _)
  rw [← hr] at KH
  refine z_aload_n C dL_law_1246 rfl ?_
  refine z_aload_n C dL_law_1247 rfl ?_
  refine z_iload C dL_law_1248 rfl ?_
  refine z_iconst C dL_law_1250 ?_
  refine z_iadd C dL_law_1251 ?_
  refine z_sld C S dL_law_1252 ⟨by omega, by omega⟩ ?_
  refine z_aload_n C dL_law_1253 rfl ?_
  refine z_lawH C S KH qH_repeats dL_law_1254 rfl (fun v μ1 h => ?_) (by omega) (by omega)
  obtain ⟨rfl, hR1, hF1, ho1, hr3, hA⟩ := h
  have KK : okS N r.2.2 := by
    rw [hr]
    exact kk_told hI.2.2.1 _ _
  have hM1 := Rm_Fh hI.2.1 hI.2.2.2.1 hI.2.2.2.2.2 hF1
  have KM := m_repeats w (sv xs (i + 1)) hM1 hI.2.2.1 (sv_in _ _)
  rw [← hr] at KM
  refine z_istore C dL_law_1257 ?_
  refine z_aload_n C dL_law_1259 rfl ?_
  refine z_aload_n C dL_law_1260 rfl ?_
  refine z_iload C dL_law_1261 rfl ?_
  refine z_iconst C dL_law_1263 ?_
  refine z_iadd C dL_law_1264 ?_
  refine z_sld C S dL_law_1265 ⟨by omega, by omega⟩ ?_
  refine z_lawV C KM qM_L_160 dL_law_1266 rfl (zRc_o (Rm_g0 hM1)) (fun v μ2 h => ?_) (by omega) (by omega)
  obtain ⟨⟨z, rfl, hz⟩, hR2, hF2⟩ := h
  refine z_istore C dL_law_1269 ?_
  obtain ⟨hI2, e2⟩ := lI_step hI hR1 hF1 ho1 hR2 hF2 (okS_1 KK hN)
  exact law_tail C hI2 hz (by rw [e2]; exact hA) hr3 dL_law_1271 dL_law_1272 dL_law_1275 dL_law_1277 dL_law_1282 dL_law_1284 dL_law_1287 dL_law_1288 dL_law_1289 dL_law_1290 dL_law_1292 dL_law_1293 dL_law_1294 dL_law_1299 (by decide) (by omega) (by omega) (next _ _ _ hI2)
theorem l_setNeighbour {w : Wd} {x : Zc} {rt : Option FieldType} {nm : String} {μ : Mem} {k n : Nat} {Q : State → Prop} {b L : Nat} {xs : Nat → Int32} {G M : Nat → Nat} {o : Nat} {t N i : Int} {s : Sg}
    (C : Cx w x cL_law 7 RL rt room_1 nm) (S : cS w x b L xs) (hI : lI μ G M o t N s) (hi : 0 ≤ i ∧ i + 4 ≤ (L : Int)) (hN : N + 1 ≤ 512) (hk : k + 30 ≤ 601024) (hn : n + 1000 ≤ 7293034)
    (next : ∀ μ' t' s', lI μ' G M o t' (N + 1) s' → Z w x Q 7 1451 (lc0 b (G 0) (M 0) o i) [] μ' (k + 30) (n + 1000)) : Z w x Q 7 1302 (lc0 b (G 0) (M 0) o i) [] μ k n := by
  obtain ⟨r, hr⟩ : ∃ r, r = spNb (sv xs (i + 1)) (sv xs (i + 2)) (sv xs (i + 3)) s := ⟨_, rfl⟩
  have KH := h_setNeighbour w μ G N s o (sv xs (i + 1)) (sv xs (i + 2)) (sv xs (i + 3)) hI.1 hI.2.2.1 hI.2.2.2.2.1 (sv_in _ _) (sv_in _ _) (sv_in _ _)
  rw [← hr] at KH
  refine z_aload_n C dL_law_1302 rfl ?_
  refine z_aload_n C dL_law_1303 rfl ?_
  refine z_iload C dL_law_1304 rfl ?_
  refine z_iconst C dL_law_1306 ?_
  refine z_iadd C dL_law_1307 ?_
  refine z_sld C S dL_law_1308 ⟨by omega, by omega⟩ ?_
  refine z_aload_n C dL_law_1309 rfl ?_
  refine z_iload C dL_law_1310 rfl ?_
  refine z_iconst C dL_law_1312 ?_
  refine z_iadd C dL_law_1313 ?_
  refine z_sld C S dL_law_1314 ⟨by omega, by omega⟩ ?_
  refine z_aload_n C dL_law_1315 rfl ?_
  refine z_iload C dL_law_1316 rfl ?_
  refine z_iconst C dL_law_1318 ?_
  refine z_iadd C dL_law_1319 ?_
  refine z_sld C S dL_law_1320 ⟨by omega, by omega⟩ ?_
  refine z_aload_n C dL_law_1321 rfl ?_
  refine z_lawH C S KH qH_setNeighbour dL_law_1322 rfl (fun v μ1 h => ?_) (by omega) (by omega)
  obtain ⟨rfl, hR1, hF1, ho1, hr3, hA⟩ := h
  have KK : okS N r.2.2 := by
    rw [hr]
    exact kk_nb hI.2.2.1 _ _ _
  have hM1 := Rm_Fh hI.2.1 hI.2.2.2.1 hI.2.2.2.2.2 hF1
  have KM := m_setNeighbour w (sv xs (i + 1)) (sv xs (i + 2)) (sv xs (i + 3)) hM1 hI.2.2.1 (sv_in _ _) (sv_in _ _) (sv_in _ _)
  rw [← hr] at KM
  refine z_istore C dL_law_1325 ?_
  refine z_aload_n C dL_law_1327 rfl ?_
  refine z_aload_n C dL_law_1328 rfl ?_
  refine z_iload C dL_law_1329 rfl ?_
  refine z_iconst C dL_law_1331 ?_
  refine z_iadd C dL_law_1332 ?_
  refine z_sld C S dL_law_1333 ⟨by omega, by omega⟩ ?_
  refine z_aload_n C dL_law_1334 rfl ?_
  refine z_iload C dL_law_1335 rfl ?_
  refine z_iconst C dL_law_1337 ?_
  refine z_iadd C dL_law_1338 ?_
  refine z_sld C S dL_law_1339 ⟨by omega, by omega⟩ ?_
  refine z_aload_n C dL_law_1340 rfl ?_
  refine z_iload C dL_law_1341 rfl ?_
  refine z_iconst C dL_law_1343 ?_
  refine z_iadd C dL_law_1344 ?_
  refine z_sld C S dL_law_1345 ⟨by omega, by omega⟩ ?_
  refine z_lawV C KM qM_L_163 dL_law_1346 rfl (zRc_o (Rm_g0 hM1)) (fun v μ2 h => ?_) (by omega) (by omega)
  obtain ⟨⟨z, rfl, hz⟩, hR2, hF2⟩ := h
  refine z_istore C dL_law_1349 ?_
  obtain ⟨hI2, e2⟩ := lI_step hI hR1 hF1 ho1 hR2 hF2 (okS_1 KK hN)
  exact law_tail C hI2 hz (by rw [e2]; exact hA) hr3 dL_law_1351 dL_law_1352 dL_law_1355 dL_law_1357 dL_law_1362 dL_law_1364 dL_law_1367 dL_law_1368 dL_law_1369 dL_law_1370 dL_law_1372 dL_law_1373 dL_law_1374 dL_law_1379 (by decide) (by omega) (by omega) (next _ _ _ hI2)
theorem l_reach {w : Wd} {x : Zc} {rt : Option FieldType} {nm : String} {μ : Mem} {k n : Nat} {Q : State → Prop} {b L : Nat} {xs : Nat → Int32} {G M : Nat → Nat} {o : Nat} {t N i : Int} {s : Sg}
    (C : Cx w x cL_law 7 RL rt room_1 nm) (S : cS w x b L xs) (hI : lI μ G M o t N s) (hi : 0 ≤ i ∧ i + 4 ≤ (L : Int)) (hN : N + 1 ≤ 512) (hk : k + 30 ≤ 601024) (hn : n + 1000 ≤ 7293034)
    (next : ∀ μ' t' s', lI μ' G M o t' (N + 1) s' → Z w x Q 7 1451 (lc0 b (G 0) (M 0) o i) [] μ' (k + 30) (n + 1000)) : Z w x Q 7 1382 (lc0 b (G 0) (M 0) o i) [] μ k n := by
  obtain ⟨r, hr⟩ : ∃ r, r = spReach (sv xs (i + 1)) s := ⟨_, rfl⟩
  have KH := h_reach w μ G N s o (sv xs (i + 1)) hI.1 hI.2.2.1 hI.2.2.2.2.1 (sv_in _ _)
  rw [← hr] at KH
  refine z_aload_n C dL_law_1382 rfl ?_
  refine z_aload_n C dL_law_1383 rfl ?_
  refine z_iload C dL_law_1384 rfl ?_
  refine z_iconst C dL_law_1386 ?_
  refine z_iadd C dL_law_1387 ?_
  refine z_sld C S dL_law_1388 ⟨by omega, by omega⟩ ?_
  refine z_aload_n C dL_law_1389 rfl ?_
  refine z_lawH C S KH qH_reach dL_law_1390 rfl (fun v μ1 h => ?_) (by omega) (by omega)
  obtain ⟨rfl, hR1, hF1, ho1, hr3, hA⟩ := h
  have KK : okS N r.2.2 := by
    rw [hr]
    exact kk_reach hI.2.2.1 _
  have hM1 := Rm_Fh hI.2.1 hI.2.2.2.1 hI.2.2.2.2.2 hF1
  have KM := m_reach w (sv xs (i + 1)) hM1 hI.2.2.1 (sv_in _ _)
  rw [← hr] at KM
  refine z_istore C dL_law_1393 ?_
  refine z_aload_n C dL_law_1395 rfl ?_
  refine z_aload_n C dL_law_1396 rfl ?_
  refine z_iload C dL_law_1397 rfl ?_
  refine z_iconst C dL_law_1399 ?_
  refine z_iadd C dL_law_1400 ?_
  refine z_sld C S dL_law_1401 ⟨by omega, by omega⟩ ?_
  refine z_lawV C KM qM_L_166 dL_law_1402 rfl (zRc_o (Rm_g0 hM1)) (fun v μ2 h => ?_) (by omega) (by omega)
  obtain ⟨⟨z, rfl, hz⟩, hR2, hF2⟩ := h
  refine z_istore C dL_law_1405 ?_
  obtain ⟨hI2, e2⟩ := lI_step hI hR1 hF1 ho1 hR2 hF2 (okS_1 KK hN)
  exact law_tail C hI2 hz (by rw [e2]; exact hA) hr3 dL_law_1407 dL_law_1408 dL_law_1411 dL_law_1413 dL_law_1418 dL_law_1420 dL_law_1423 dL_law_1424 dL_law_1425 dL_law_1426 dL_law_1428 dL_law_1429 dL_law_1430 dL_law_1435 (by decide) (by omega) (by omega) (next _ _ _ hI2)
theorem l_halves {w : Wd} {x : Zc} {rt : Option FieldType} {nm : String} {μ : Mem} {k n : Nat} {Q : State → Prop} {b L : Nat} {xs : Nat → Int32} {G M : Nat → Nat} {o : Nat} {t N i : Int} {s : Sg}
    (C : Cx w x cL_law 7 RL rt room_1 nm) (S : cS w x b L xs) (hI : lI μ G M o t N s) (hi : 0 ≤ i ∧ i + 4 ≤ (L : Int)) (hN : N + 1 ≤ 512) (hk : k + 30 ≤ 601024) (hn : n + 1000 ≤ 7293034)
    (next : ∀ μ' t' s', lI μ' G M o t' (N + 1) s' → Z w x Q 7 1451 (lc0 b (G 0) (M 0) o i) [] μ' (k + 30) (n + 1000)) : Z w x Q 7 1438 (lc0 b (G 0) (M 0) o i) [] μ k n := by
  obtain ⟨r, hr⟩ : ∃ r, r = spHalves s := ⟨_, rfl⟩
  have KH := c_halves w μ G N s hI.1 hI.2.2.1
  rw [← hr] at KH
  refine z_aload_n C dL_law_1438 rfl ?_
  refine z_lawV C KH qM_L_167 dL_law_1439 rfl (zRc_o (Rc_g0 hI.1)) (fun v μ1 h => ?_) (by omega) (by omega)
  obtain ⟨h9, rfl, hR1, hFc⟩ := h
  have hF1 : Fh μ μ1 G o := Fh_Fc hFc
  have ho1 := outS_Fc hI.2.2.2.2.1 hFc
  have KK : okS N r.2.2 := by
    rw [hr]
    exact kk_halves hI.2.2.1
  have hM1 := Rm_Fh hI.2.1 hI.2.2.2.1 hI.2.2.2.2.2 hF1
  have KM := m_halves w hM1 hI.2.2.1
  rw [← hr] at KM
  refine z_aload_n C dL_law_1442 rfl ?_
  refine z_lawV C KM qM_L_170 dL_law_1443 rfl (zRc_o (Rm_g0 hM1)) (fun v μ2 h => ?_) (by omega) (by omega)
  obtain ⟨⟨z, rfl, hz⟩, hR2, hF2⟩ := h
  obtain ⟨hI2, e2⟩ := lI_step hI hR1 hF1 ho1 hR2 hF2 (okS_1 KK hN)
  obtain ⟨y, hy, hy2⟩ := J_nm r.2.1
  rw [hz h9, hy]
  refine z_icmp_eq (tgt := 1451) C dL_law_1446 (by decide) ⟨hy2, hy2⟩ (fun _ => ?_) (fun h => absurd rfl h)
  exact next _ _ _ hI2
