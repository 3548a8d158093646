/-! the cases of the law -/
theorem kk_write {N : Int} {s : Sg} (h : okS N s) (n : Int) : okS N (spWrite n s).2.2 := by
  obtain ⟨q, clk, dm, ob, ru, rn, rs, nb, tr⟩ := s
  exact k_write h n
theorem kk_wipe {N : Int} {s : Sg} (h : okS N s) : okS N (spWipe s).2.2 := by
  obtain ⟨q, clk, dm, ob, ru, rn, rs, nb, tr⟩ := s
  exact k_wipe h 
theorem kk_num {N : Int} {s : Sg} (h : okS N s) (n : Int) : okS N (spNum n s).2.2 := by
  obtain ⟨q, clk, dm, ob, ru, rn, rs, nb, tr⟩ := s
  exact k_num h n
theorem kk_put {N : Int} {s : Sg} (h : okS N s) (a k v : Int) : okS N (spPut a k v s).2.2 := by
  obtain ⟨q, clk, dm, ob, ru, rn, rs, nb, tr⟩ := s
  exact k_put h a k v
theorem kk_remove {N : Int} {s : Sg} (h : okS N s) (a : Int) : okS N (spRemove a s).2.2 := by
  obtain ⟨q, clk, dm, ob, ru, rn, rs, nb, tr⟩ := s
  exact k_remove h a
theorem kk_change {N : Int} {s : Sg} (h : okS N s) (hN : N + 1 ≤ 512) (a m : Int) : okS (N + 1) (spChange a m s).2.2 := by
  obtain ⟨q, clk, dm, ob, ru, rn, rs, nb, tr⟩ := s
  exact k_change h hN a m
theorem kk_get {N : Int} {s : Sg} (h : okS N s) (a : Int) : okS N (spGet a s).2.2 := by
  obtain ⟨q, clk, dm, ob, ru, rn, rs, nb, tr⟩ := s
  exact k_get h a
theorem kk_next {N : Int} {s : Sg} (h : okS N s) (a : Int) : okS N (spNext a s).2.2 := by
  obtain ⟨q, clk, dm, ob, ru, rn, rs, nb, tr⟩ := s
  exact k_next h a
theorem kk_bulk {N : Int} {s : Sg} (h : okS N s) (a m : Int) : okS N (spBulk a m s).2.2 := by
  obtain ⟨q, clk, dm, ob, ru, rn, rs, nb, tr⟩ := s
  exact k_bulk h a m
theorem kk_sort {N : Int} {s : Sg} (h : okS N s) (a : Int) : okS N (spSort a s).2.2 := by
  obtain ⟨q, clk, dm, ob, ru, rn, rs, nb, tr⟩ := s
  exact k_sort h a
theorem kk_seen {N : Int} {s : Sg} (h : okS N s) (a : Int) : okS N (spSeen a s).2.2 := by
  obtain ⟨q, clk, dm, ob, ru, rn, rs, nb, tr⟩ := s
  exact k_seen h a
theorem kk_sample {N : Int} {s : Sg} (h : okS N s) (a : Int) : okS N (spSample a s).2.2 := by
  obtain ⟨q, clk, dm, ob, ru, rn, rs, nb, tr⟩ := s
  exact k_sample h a
theorem kk_rate {N : Int} {s : Sg} (h : okS N s) (a : Int) : okS N (spRate a s).2.2 := by
  obtain ⟨q, clk, dm, ob, ru, rn, rs, nb, tr⟩ := s
  exact k_rate h a
theorem kk_marks {N : Int} {s : Sg} (h : okS N s) (a lo hi : Int) : okS N (spMarks a lo hi s).2.2 := by
  obtain ⟨q, clk, dm, ob, ru, rn, rs, nb, tr⟩ := s
  exact k_marks h a lo hi
theorem kk_restart {N : Int} {s : Sg} (h : okS N s) (hN : N + 1 ≤ 512) (a : Int) : okS (N + 1) (spRestart a s).2.2 := by
  obtain ⟨q, clk, dm, ob, ru, rn, rs, nb, tr⟩ := s
  exact k_restart h hN a
theorem kk_pass {N : Int} {s : Sg} (h : okS N s) (m : Int) : okS N (spPass m s).2.2 := by
  obtain ⟨q, clk, dm, ob, ru, rn, rs, nb, tr⟩ := s
  exact k_pass h m
theorem kk_traps {N : Int} {s : Sg} (h : okS N s) : okS N (spTraps s).2.2 := by
  obtain ⟨q, clk, dm, ob, ru, rn, rs, nb, tr⟩ := s
  exact k_traps h 
theorem kk_nb {N : Int} {s : Sg} (h : okS N s) (a p o : Int) : okS N (spNb a p o s).2.2 := by
  obtain ⟨q, clk, dm, ob, ru, rn, rs, nb, tr⟩ := s
  exact k_nb h a p o
theorem kk_reach {N : Int} {s : Sg} (h : okS N s) (a : Int) : okS N (spReach a s).2.2 := by
  obtain ⟨q, clk, dm, ob, ru, rn, rs, nb, tr⟩ := s
  exact k_reach h a
theorem kk_halves {N : Int} {s : Sg} (h : okS N s) : okS N (spHalves s).2.2 := by
  obtain ⟨q, clk, dm, ob, ru, rn, rs, nb, tr⟩ := s
  exact k_halves h 
theorem kk_told {N : Int} {s : Sg} (h : okS N s) (f : Trp → Int) (t : Int) : okS N (spTold f t s).2.2 := by
  obtain ⟨q, clk, dm, ob, ru, rn, rs, nb, tr⟩ := s
  exact k_told h f t
theorem kk_hide {N : Int} {s : Sg} (h : okS N s) (a m : Int) (hrn : ∀ j, j < 4 → 0 ≤ (spHide a m s).2.2.2.2.2.2.2.1 j ∧ (spHide a m s).2.2.2.2.2.2.2.1 j ≤ 10) : okS N (spHide a m s).2.2 := by
  obtain ⟨q, clk, dm, ob, ru, rn, rs, nb, tr⟩ := s
  exact k_hide h a m hrn
theorem l_write {w : Wd} {x : Zc} {rt : Option FieldType} {nm : String} {μ : Mem} {k n : Nat} {Q : State → Prop} {b L : Nat} {xs : Nat → Int32} {G M : Nat → Nat} {o : Nat} {t N i : Int} {s : Sg}
    (C : Cx w x cL_law 7 RL rt room_1 nm) (S : cS w x b L xs) (hI : lI μ G M o t N s) (hi : 0 ≤ i ∧ i + 4 ≤ (L : Int)) (hN : N + 1 ≤ 512) (hk : k + 30 ≤ 601024) (hn : n + 1000 ≤ 7293034)
    (next : ∀ μ' t' s', lI μ' G M o t' (N + 1) s' → Z w x Q 7 1451 (lc0 b (G 0) (M 0) o i) [] μ' (k + 30) (n + 1000)) : Z w x Q 7 148 (lc0 b (G 0) (M 0) o i) [] μ k n := by
  obtain ⟨r, hr⟩ : ∃ r, r = spWrite (sv xs (i + 1)) s := ⟨_, rfl⟩
  have KH := h_write w μ G N s o (sv xs (i + 1)) hI.1 hI.2.2.1 hI.2.2.2.2.1 (sv_in _ _)
  rw [← hr] at KH
  refine z_aload_n C dL_law_148 rfl ?_
  refine z_aload_n C dL_law_149 rfl ?_
  refine z_iload C dL_law_150 rfl ?_
  refine z_iconst C dL_law_152 ?_
  refine z_iadd C dL_law_153 ?_
  refine z_sld C S dL_law_154 ⟨by omega, by omega⟩ ?_
  refine z_aload_n C dL_law_155 rfl ?_
  refine z_lawH C S KH qH_write dL_law_156 rfl (fun v μ1 h => ?_) (by omega) (by omega)
  obtain ⟨rfl, hR1, hF1, ho1, hr3, hA⟩ := h
  have KK : okS N r.2.2 := by
    rw [hr]
    exact kk_write hI.2.2.1 _
  have hM1 := Rm_Fh hI.2.1 hI.2.2.2.1 hI.2.2.2.2.2 hF1
  have KM := m_write w (sv xs (i + 1)) hM1 hI.2.2.1 (sv_in _ _)
  rw [← hr] at KM
  refine z_istore C dL_law_159 ?_
  refine z_aload_n C dL_law_161 rfl ?_
  refine z_aload_n C dL_law_162 rfl ?_
  refine z_iload C dL_law_163 rfl ?_
  refine z_iconst C dL_law_165 ?_
  refine z_iadd C dL_law_166 ?_
  refine z_sld C S dL_law_167 ⟨by omega, by omega⟩ ?_
  refine z_lawV C KM qM_L_91 dL_law_168 rfl (zRc_o (Rm_g0 hM1)) (fun v μ2 h => ?_) (by omega) (by omega)
  obtain ⟨⟨z, rfl, hz⟩, hR2, hF2⟩ := h
  refine z_istore C dL_law_171 ?_
  obtain ⟨hI2, e2⟩ := lI_step hI hR1 hF1 ho1 hR2 hF2 (okS_1 KK hN)
  exact law_tail C hI2 hz (by rw [e2]; exact hA) hr3 dL_law_173 dL_law_174 dL_law_177 dL_law_179 dL_law_184 dL_law_186 dL_law_189 dL_law_190 dL_law_191 dL_law_192 dL_law_194 dL_law_195 dL_law_196 dL_law_201 (by decide) (by omega) (by omega) (next _ _ _ hI2)
theorem l_wipe {w : Wd} {x : Zc} {rt : Option FieldType} {nm : String} {μ : Mem} {k n : Nat} {Q : State → Prop} {b L : Nat} {xs : Nat → Int32} {G M : Nat → Nat} {o : Nat} {t N i : Int} {s : Sg}
    (C : Cx w x cL_law 7 RL rt room_1 nm) (S : cS w x b L xs) (hI : lI μ G M o t N s) (hi : 0 ≤ i ∧ i + 4 ≤ (L : Int)) (hN : N + 1 ≤ 512) (hk : k + 30 ≤ 601024) (hn : n + 1000 ≤ 7293034)
    (next : ∀ μ' t' s', lI μ' G M o t' (N + 1) s' → Z w x Q 7 1451 (lc0 b (G 0) (M 0) o i) [] μ' (k + 30) (n + 1000)) : Z w x Q 7 204 (lc0 b (G 0) (M 0) o i) [] μ k n := by
  obtain ⟨r, hr⟩ : ∃ r, r = spWipe s := ⟨_, rfl⟩
  have KH := c_wipe w μ G N s hI.1 hI.2.2.1
  rw [← hr] at KH
  refine z_aload_n C dL_law_204 rfl ?_
  refine z_lawV C KH qM_L_96 dL_law_205 rfl (zRc_o (Rc_g0 hI.1)) (fun v μ1 h => ?_) (by omega) (by omega)
  obtain ⟨h9, rfl, hR1, hFc⟩ := h
  have hF1 : Fh μ μ1 G o := Fh_Fc hFc
  have ho1 := outS_Fc hI.2.2.2.2.1 hFc
  have KK : okS N r.2.2 := by
    rw [hr]
    exact kk_wipe hI.2.2.1
  have hM1 := Rm_Fh hI.2.1 hI.2.2.2.1 hI.2.2.2.2.2 hF1
  have KM := m_wipe w hM1 hI.2.2.1
  rw [← hr] at KM
  refine z_aload_n C dL_law_208 rfl ?_
  refine z_lawV C KM qM_L_99 dL_law_209 rfl (zRc_o (Rm_g0 hM1)) (fun v μ2 h => ?_) (by omega) (by omega)
  obtain ⟨⟨z, rfl, hz⟩, hR2, hF2⟩ := h
  obtain ⟨hI2, e2⟩ := lI_step hI hR1 hF1 ho1 hR2 hF2 (okS_1 KK hN)
  obtain ⟨y, hy, hy2⟩ := J_nm r.2.1
  rw [hz h9, hy]
  refine z_icmp_eq (tgt := 1451) C dL_law_212 (by decide) ⟨hy2, hy2⟩ (fun _ => ?_) (fun h => absurd rfl h)
  exact next _ _ _ hI2
theorem l_numberAt {w : Wd} {x : Zc} {rt : Option FieldType} {nm : String} {μ : Mem} {k n : Nat} {Q : State → Prop} {b L : Nat} {xs : Nat → Int32} {G M : Nat → Nat} {o : Nat} {t N i : Int} {s : Sg}
    (C : Cx w x cL_law 7 RL rt room_1 nm) (S : cS w x b L xs) (hI : lI μ G M o t N s) (hi : 0 ≤ i ∧ i + 4 ≤ (L : Int)) (hN : N + 1 ≤ 512) (hk : k + 30 ≤ 601024) (hn : n + 1000 ≤ 7293034)
    (next : ∀ μ' t' s', lI μ' G M o t' (N + 1) s' → Z w x Q 7 1451 (lc0 b (G 0) (M 0) o i) [] μ' (k + 30) (n + 1000)) : Z w x Q 7 217 (lc0 b (G 0) (M 0) o i) [] μ k n := by
  obtain ⟨r, hr⟩ : ∃ r, r = spNum (sv xs (i + 1)) s := ⟨_, rfl⟩
  have KH := h_numberAt w μ G N s o (sv xs (i + 1)) hI.1 hI.2.2.1 hI.2.2.2.2.1 (sv_in _ _)
  rw [← hr] at KH
  refine z_aload_n C dL_law_217 rfl ?_
  refine z_aload_n C dL_law_218 rfl ?_
  refine z_iload C dL_law_219 rfl ?_
  refine z_iconst C dL_law_221 ?_
  refine z_iadd C dL_law_222 ?_
  refine z_sld C S dL_law_223 ⟨by omega, by omega⟩ ?_
  refine z_aload_n C dL_law_224 rfl ?_
  refine z_lawH C S KH qH_numberAt dL_law_225 rfl (fun v μ1 h => ?_) (by omega) (by omega)
  obtain ⟨rfl, hR1, hF1, ho1, hr3, hA⟩ := h
  have KK : okS N r.2.2 := by
    rw [hr]
    exact kk_num hI.2.2.1 _
  have hM1 := Rm_Fh hI.2.1 hI.2.2.2.1 hI.2.2.2.2.2 hF1
  have KM := m_numberAt w (sv xs (i + 1)) hM1 hI.2.2.1 (sv_in _ _)
  rw [← hr] at KM
  refine z_istore C dL_law_228 ?_
  refine z_aload_n C dL_law_230 rfl ?_
  refine z_aload_n C dL_law_231 rfl ?_
  refine z_iload C dL_law_232 rfl ?_
  refine z_iconst C dL_law_234 ?_
  refine z_iadd C dL_law_235 ?_
  refine z_sld C S dL_law_236 ⟨by omega, by omega⟩ ?_
  refine z_lawV C KM qM_L_102 dL_law_237 rfl (zRc_o (Rm_g0 hM1)) (fun v μ2 h => ?_) (by omega) (by omega)
  obtain ⟨⟨z, rfl, hz⟩, hR2, hF2⟩ := h
  refine z_istore C dL_law_240 ?_
  obtain ⟨hI2, e2⟩ := lI_step hI hR1 hF1 ho1 hR2 hF2 (okS_1 KK hN)
  exact law_tail C hI2 hz (by rw [e2]; exact hA) hr3 dL_law_242 dL_law_243 dL_law_246 dL_law_248 dL_law_253 dL_law_255 dL_law_258 dL_law_259 dL_law_260 dL_law_261 dL_law_263 dL_law_264 dL_law_265 dL_law_270 (by decide) (by omega) (by omega) (next _ _ _ hI2)
theorem l_put {w : Wd} {x : Zc} {rt : Option FieldType} {nm : String} {μ : Mem} {k n : Nat} {Q : State → Prop} {b L : Nat} {xs : Nat → Int32} {G M : Nat → Nat} {o : Nat} {t N i : Int} {s : Sg}
    (C : Cx w x cL_law 7 RL rt room_1 nm) (S : cS w x b L xs) (hI : lI μ G M o t N s) (hi : 0 ≤ i ∧ i + 4 ≤ (L : Int)) (hN : N + 1 ≤ 512) (hk : k + 30 ≤ 601024) (hn : n + 1000 ≤ 7293034)
    (next : ∀ μ' t' s', lI μ' G M o t' (N + 1) s' → Z w x Q 7 1451 (lc0 b (G 0) (M 0) o i) [] μ' (k + 30) (n + 1000)) : Z w x Q 7 273 (lc0 b (G 0) (M 0) o i) [] μ k n := by
  obtain ⟨r, hr⟩ : ∃ r, r = spPut (sv xs (i + 1)) (sv xs (i + 2)) (sv xs (i + 3)) s := ⟨_, rfl⟩
  have KH := h_put w μ G N s o (sv xs (i + 1)) (sv xs (i + 2)) (sv xs (i + 3)) hI.1 hI.2.2.1 hI.2.2.2.2.1 (sv_in _ _) (sv_in _ _) (sv_in _ _)
  rw [← hr] at KH
  refine z_aload_n C dL_law_273 rfl ?_
  refine z_aload_n C dL_law_274 rfl ?_
  refine z_iload C dL_law_275 rfl ?_
  refine z_iconst C dL_law_277 ?_
  refine z_iadd C dL_law_278 ?_
  refine z_sld C S dL_law_279 ⟨by omega, by omega⟩ ?_
  refine z_aload_n C dL_law_280 rfl ?_
  refine z_iload C dL_law_281 rfl ?_
  refine z_iconst C dL_law_283 ?_
  refine z_iadd C dL_law_284 ?_
  refine z_sld C S dL_law_285 ⟨by omega, by omega⟩ ?_
  refine z_aload_n C dL_law_286 rfl ?_
  refine z_iload C dL_law_287 rfl ?_
  refine z_iconst C dL_law_289 ?_
  refine z_iadd C dL_law_290 ?_
  refine z_sld C S dL_law_291 ⟨by omega, by omega⟩ ?_
  refine z_aload_n C dL_law_292 rfl ?_
  refine z_lawH C S KH qH_put dL_law_293 rfl (fun v μ1 h => ?_) (by omega) (by omega)
  obtain ⟨rfl, hR1, hF1, ho1, hr3, hA⟩ := h
  have KK : okS N r.2.2 := by
    rw [hr]
    exact kk_put hI.2.2.1 _ _ _
  have hM1 := Rm_Fh hI.2.1 hI.2.2.2.1 hI.2.2.2.2.2 hF1
  have KM := m_put w (sv xs (i + 1)) (sv xs (i + 2)) (sv xs (i + 3)) hM1 hI.2.2.1 (sv_in _ _) (sv_in _ _) (sv_in _ _)
  rw [← hr] at KM
  refine z_istore C dL_law_296 ?_
  refine z_aload_n C dL_law_298 rfl ?_
  refine z_aload_n C dL_law_299 rfl ?_
  refine z_iload C dL_law_300 rfl ?_
  refine z_iconst C dL_law_302 ?_
  refine z_iadd C dL_law_303 ?_
  refine z_sld C S dL_law_304 ⟨by omega, by omega⟩ ?_
  refine z_aload_n C dL_law_305 rfl ?_
  refine z_iload C dL_law_306 rfl ?_
  refine z_iconst C dL_law_308 ?_
  refine z_iadd C dL_law_309 ?_
  refine z_sld C S dL_law_310 ⟨by omega, by omega⟩ ?_
  refine z_aload_n C dL_law_311 rfl ?_
  refine z_iload C dL_law_312 rfl ?_
  refine z_iconst C dL_law_314 ?_
  refine z_iadd C dL_law_315 ?_
  refine z_sld C S dL_law_316 ⟨by omega, by omega⟩ ?_
  refine z_lawV C KM qM_L_106 dL_law_317 rfl (zRc_o (Rm_g0 hM1)) (fun v μ2 h => ?_) (by omega) (by omega)
  obtain ⟨⟨z, rfl, hz⟩, hR2, hF2⟩ := h
  refine z_istore C dL_law_320 ?_
  obtain ⟨hI2, e2⟩ := lI_step hI hR1 hF1 ho1 hR2 hF2 (okS_1 KK hN)
  exact law_tail C hI2 hz (by rw [e2]; exact hA) hr3 dL_law_322 dL_law_323 dL_law_326 dL_law_328 dL_law_333 dL_law_335 dL_law_338 dL_law_339 dL_law_340 dL_law_341 dL_law_343 dL_law_344 dL_law_345 dL_law_350 (by decide) (by omega) (by omega) (next _ _ _ hI2)
theorem l_remove {w : Wd} {x : Zc} {rt : Option FieldType} {nm : String} {μ : Mem} {k n : Nat} {Q : State → Prop} {b L : Nat} {xs : Nat → Int32} {G M : Nat → Nat} {o : Nat} {t N i : Int} {s : Sg}
    (C : Cx w x cL_law 7 RL rt room_1 nm) (S : cS w x b L xs) (hI : lI μ G M o t N s) (hi : 0 ≤ i ∧ i + 4 ≤ (L : Int)) (hN : N + 1 ≤ 512) (hk : k + 30 ≤ 601024) (hn : n + 1000 ≤ 7293034)
    (next : ∀ μ' t' s', lI μ' G M o t' (N + 1) s' → Z w x Q 7 1451 (lc0 b (G 0) (M 0) o i) [] μ' (k + 30) (n + 1000)) : Z w x Q 7 353 (lc0 b (G 0) (M 0) o i) [] μ k n := by
  obtain ⟨r, hr⟩ : ∃ r, r = spRemove (sv xs (i + 1)) s := ⟨_, rfl⟩
  have KH := h_remove w μ G N s o (sv xs (i + 1)) hI.1 hI.2.2.1 hI.2.2.2.2.1 (sv_in _ _)
  rw [← hr] at KH
  refine z_aload_n C dL_law_353 rfl ?_
  refine z_aload_n C dL_law_354 rfl ?_
  refine z_iload C dL_law_355 rfl ?_
  refine z_iconst C dL_law_357 ?_
  refine z_iadd C dL_law_358 ?_
  refine z_sld C S dL_law_359 ⟨by omega, by omega⟩ ?_
  refine z_aload_n C dL_law_360 rfl ?_
  refine z_lawH C S KH qH_remove dL_law_361 rfl (fun v μ1 h => ?_) (by omega) (by omega)
  obtain ⟨rfl, hR1, hF1, ho1, hr3, hA⟩ := h
  have KK : okS N r.2.2 := by
    rw [hr]
    exact kk_remove hI.2.2.1 _
  have hM1 := Rm_Fh hI.2.1 hI.2.2.2.1 hI.2.2.2.2.2 hF1
  have KM := m_remove w (sv xs (i + 1)) hM1 hI.2.2.1 (sv_in _ _)
  rw [← hr] at KM
  refine z_istore C dL_law_364 ?_
  refine z_aload_n C dL_law_366 rfl ?_
  refine z_aload_n C dL_law_367 rfl ?_
  refine z_iload C dL_law_368 rfl ?_
  refine z_iconst C dL_law_370 ?_
  refine z_iadd C dL_law_371 ?_
  refine z_sld C S dL_law_372 ⟨by omega, by omega⟩ ?_
  refine z_lawV C KM qM_L_109 dL_law_373 rfl (zRc_o (Rm_g0 hM1)) (fun v μ2 h => ?_) (by omega) (by omega)
  obtain ⟨⟨z, rfl, hz⟩, hR2, hF2⟩ := h
  refine z_istore C dL_law_376 ?_
  obtain ⟨hI2, e2⟩ := lI_step hI hR1 hF1 ho1 hR2 hF2 (okS_1 KK hN)
  exact law_tail C hI2 hz (by rw [e2]; exact hA) hr3 dL_law_378 dL_law_379 dL_law_382 dL_law_384 dL_law_389 dL_law_391 dL_law_394 dL_law_395 dL_law_396 dL_law_397 dL_law_399 dL_law_400 dL_law_401 dL_law_406 (by decide) (by omega) (by omega) (next _ _ _ hI2)
theorem l_change {w : Wd} {x : Zc} {rt : Option FieldType} {nm : String} {μ : Mem} {k n : Nat} {Q : State → Prop} {b L : Nat} {xs : Nat → Int32} {G M : Nat → Nat} {o : Nat} {t N i : Int} {s : Sg}
    (C : Cx w x cL_law 7 RL rt room_1 nm) (S : cS w x b L xs) (hI : lI μ G M o t N s) (hi : 0 ≤ i ∧ i + 4 ≤ (L : Int)) (hN : N + 1 ≤ 512) (hk : k + 30 ≤ 601024) (hn : n + 1000 ≤ 7293034)
    (next : ∀ μ' t' s', lI μ' G M o t' (N + 1) s' → Z w x Q 7 1451 (lc0 b (G 0) (M 0) o i) [] μ' (k + 30) (n + 1000)) : Z w x Q 7 409 (lc0 b (G 0) (M 0) o i) [] μ k n := by
  obtain ⟨r, hr⟩ : ∃ r, r = spChange (sv xs (i + 1)) (sv xs (i + 2)) s := ⟨_, rfl⟩
  have KH := h_change w μ G N s o (sv xs (i + 1)) (sv xs (i + 2)) hI.1 hI.2.2.1 hI.2.2.2.2.1 (sv_in _ _) (sv_in _ _)
  rw [← hr] at KH
  refine z_aload_n C dL_law_409 rfl ?_
  refine z_aload_n C dL_law_410 rfl ?_
  refine z_iload C dL_law_411 rfl ?_
  refine z_iconst C dL_law_413 ?_
  refine z_iadd C dL_law_414 ?_
  refine z_sld C S dL_law_415 ⟨by omega, by omega⟩ ?_
  refine z_aload_n C dL_law_416 rfl ?_
  refine z_iload C dL_law_417 rfl ?_
  refine z_iconst C dL_law_419 ?_
  refine z_iadd C dL_law_420 ?_
  refine z_sld C S dL_law_421 ⟨by omega, by omega⟩ ?_
  refine z_aload_n C dL_law_422 rfl ?_
  refine z_lawH C S KH qH_change dL_law_423 rfl (fun v μ1 h => ?_) (by omega) (by omega)
  obtain ⟨rfl, hR1, hF1, ho1, hr3, hA⟩ := h
  have KK : okS (N + 1) r.2.2 := by
    rw [hr]
    exact kk_change hI.2.2.1 hN _ _
  have hM1 := Rm_Fh hI.2.1 hI.2.2.2.1 hI.2.2.2.2.2 hF1
  have KM := m_change w (sv xs (i + 1)) (sv xs (i + 2)) hM1 hI.2.2.1 hN (sv_in _ _) (sv_in _ _)
  rw [← hr] at KM
  refine z_istore C dL_law_426 ?_
  refine z_aload_n C dL_law_428 rfl ?_
  refine z_aload_n C dL_law_429 rfl ?_
  refine z_iload C dL_law_430 rfl ?_
  refine z_iconst C dL_law_432 ?_
  refine z_iadd C dL_law_433 ?_
  refine z_sld C S dL_law_434 ⟨by omega, by omega⟩ ?_
  refine z_aload_n C dL_law_435 rfl ?_
  refine z_iload C dL_law_436 rfl ?_
  refine z_iconst C dL_law_438 ?_
  refine z_iadd C dL_law_439 ?_
  refine z_sld C S dL_law_440 ⟨by omega, by omega⟩ ?_
  refine z_lawV C KM qM_L_113 dL_law_441 rfl (zRc_o (Rm_g0 hM1)) (fun v μ2 h => ?_) (by omega) (by omega)
  obtain ⟨⟨z, rfl, hz⟩, hR2, hF2⟩ := h
  refine z_istore C dL_law_444 ?_
  obtain ⟨hI2, e2⟩ := lI_step hI hR1 hF1 ho1 hR2 hF2 KK
  exact law_tail C hI2 hz (by rw [e2]; exact hA) hr3 dL_law_446 dL_law_447 dL_law_450 dL_law_452 dL_law_457 dL_law_459 dL_law_462 dL_law_463 dL_law_464 dL_law_465 dL_law_467 dL_law_468 dL_law_469 dL_law_474 (by decide) (by omega) (by omega) (next _ _ _ hI2)
theorem l_get {w : Wd} {x : Zc} {rt : Option FieldType} {nm : String} {μ : Mem} {k n : Nat} {Q : State → Prop} {b L : Nat} {xs : Nat → Int32} {G M : Nat → Nat} {o : Nat} {t N i : Int} {s : Sg}
    (C : Cx w x cL_law 7 RL rt room_1 nm) (S : cS w x b L xs) (hI : lI μ G M o t N s) (hi : 0 ≤ i ∧ i + 4 ≤ (L : Int)) (hN : N + 1 ≤ 512) (hk : k + 30 ≤ 601024) (hn : n + 1000 ≤ 7293034)
    (next : ∀ μ' t' s', lI μ' G M o t' (N + 1) s' → Z w x Q 7 1451 (lc0 b (G 0) (M 0) o i) [] μ' (k + 30) (n + 1000)) : Z w x Q 7 477 (lc0 b (G 0) (M 0) o i) [] μ k n := by
  obtain ⟨r, hr⟩ : ∃ r, r = spGet (sv xs (i + 1)) s := ⟨_, rfl⟩
  have KH := h_get w μ G N s o (sv xs (i + 1)) hI.1 hI.2.2.1 hI.2.2.2.2.1 (sv_in _ _)
  rw [← hr] at KH
  refine z_aload_n C dL_law_477 rfl ?_
  refine z_aload_n C dL_law_478 rfl ?_
  refine z_iload C dL_law_479 rfl ?_
  refine z_iconst C dL_law_481 ?_
  refine z_iadd C dL_law_482 ?_
  refine z_sld C S dL_law_483 ⟨by omega, by omega⟩ ?_
  refine z_aload_n C dL_law_484 rfl ?_
  refine z_lawH C S KH qH_get dL_law_485 rfl (fun v μ1 h => ?_) (by omega) (by omega)
  obtain ⟨rfl, hR1, hF1, ho1, hr3, hA⟩ := h
  have KK : okS N r.2.2 := by
    rw [hr]
    exact kk_get hI.2.2.1 _
  have hM1 := Rm_Fh hI.2.1 hI.2.2.2.1 hI.2.2.2.2.2 hF1
  have KM := m_get w (sv xs (i + 1)) hM1 hI.2.2.1 (sv_in _ _)
  rw [← hr] at KM
  refine z_istore C dL_law_488 ?_
  refine z_aload_n C dL_law_490 rfl ?_
  refine z_aload_n C dL_law_491 rfl ?_
  refine z_iload C dL_law_492 rfl ?_
  refine z_iconst C dL_law_494 ?_
  refine z_iadd C dL_law_495 ?_
  refine z_sld C S dL_law_496 ⟨by omega, by omega⟩ ?_
  refine z_lawV C KM qM_L_116 dL_law_497 rfl (zRc_o (Rm_g0 hM1)) (fun v μ2 h => ?_) (by omega) (by omega)
  obtain ⟨⟨z, rfl, hz⟩, hR2, hF2⟩ := h
  refine z_istore C dL_law_500 ?_
  obtain ⟨hI2, e2⟩ := lI_step hI hR1 hF1 ho1 hR2 hF2 (okS_1 KK hN)
  exact law_tail C hI2 hz (by rw [e2]; exact hA) hr3 dL_law_502 dL_law_503 dL_law_506 dL_law_508 dL_law_513 dL_law_515 dL_law_518 dL_law_519 dL_law_520 dL_law_521 dL_law_523 dL_law_524 dL_law_525 dL_law_530 (by decide) (by omega) (by omega) (next _ _ _ hI2)
theorem l_next {w : Wd} {x : Zc} {rt : Option FieldType} {nm : String} {μ : Mem} {k n : Nat} {Q : State → Prop} {b L : Nat} {xs : Nat → Int32} {G M : Nat → Nat} {o : Nat} {t N i : Int} {s : Sg}
    (C : Cx w x cL_law 7 RL rt room_1 nm) (S : cS w x b L xs) (hI : lI μ G M o t N s) (hi : 0 ≤ i ∧ i + 4 ≤ (L : Int)) (hN : N + 1 ≤ 512) (hk : k + 30 ≤ 601024) (hn : n + 1000 ≤ 7293034)
    (next : ∀ μ' t' s', lI μ' G M o t' (N + 1) s' → Z w x Q 7 1451 (lc0 b (G 0) (M 0) o i) [] μ' (k + 30) (n + 1000)) : Z w x Q 7 533 (lc0 b (G 0) (M 0) o i) [] μ k n := by
  obtain ⟨r, hr⟩ : ∃ r, r = spNext (sv xs (i + 1)) s := ⟨_, rfl⟩
  have KH := h_next w μ G N s o (sv xs (i + 1)) hI.1 hI.2.2.1 hI.2.2.2.2.1 (sv_in _ _)
  rw [← hr] at KH
  refine z_aload_n C dL_law_533 rfl ?_
  refine z_aload_n C dL_law_534 rfl ?_
  refine z_iload C dL_law_535 rfl ?_
  refine z_iconst C dL_law_537 ?_
  refine z_iadd C dL_law_538 ?_
  refine z_sld C S dL_law_539 ⟨by omega, by omega⟩ ?_
  refine z_aload_n C dL_law_540 rfl ?_
  refine z_lawH C S KH qH_next dL_law_541 rfl (fun v μ1 h => ?_) (by omega) (by omega)
  obtain ⟨rfl, hR1, hF1, ho1, hr3, hA⟩ := h
  have KK : okS N r.2.2 := by
    rw [hr]
    exact kk_next hI.2.2.1 _
  have hM1 := Rm_Fh hI.2.1 hI.2.2.2.1 hI.2.2.2.2.2 hF1
  have KM := m_next w (sv xs (i + 1)) hM1 hI.2.2.1 (sv_in _ _)
  rw [← hr] at KM
  refine z_istore C dL_law_544 ?_
  refine z_aload_n C dL_law_546 rfl ?_
  refine z_aload_n C dL_law_547 rfl ?_
  refine z_iload C dL_law_548 rfl ?_
  refine z_iconst C dL_law_550 ?_
  refine z_iadd C dL_law_551 ?_
  refine z_sld C S dL_law_552 ⟨by omega, by omega⟩ ?_
  refine z_lawV C KM qM_L_119 dL_law_553 rfl (zRc_o (Rm_g0 hM1)) (fun v μ2 h => ?_) (by omega) (by omega)
  obtain ⟨⟨z, rfl, hz⟩, hR2, hF2⟩ := h
  refine z_istore C dL_law_556 ?_
  obtain ⟨hI2, e2⟩ := lI_step hI hR1 hF1 ho1 hR2 hF2 (okS_1 KK hN)
  exact law_tail C hI2 hz (by rw [e2]; exact hA) hr3 dL_law_558 dL_law_559 dL_law_562 dL_law_564 dL_law_569 dL_law_571 dL_law_574 dL_law_575 dL_law_576 dL_law_577 dL_law_579 dL_law_580 dL_law_581 dL_law_586 (by decide) (by omega) (by omega) (next _ _ _ hI2)
