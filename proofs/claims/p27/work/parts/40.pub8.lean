/-! sample, setMarks -/
theorem ly2 : ∀ q ∈ u_ws RX2 TX2 3, q ∈ GT := i2
theorem ly3 : ∀ q ∈ u_ws RX3 TX3 3, q ∈ GT := i3
theorem c_sample (w : Wd) (μ : Mem) (G : Nat → Nat) (N : Int) (s : Sg) (a : Int) (hR : Rc μ G s) (hO : okS N s) (h32 : in32 a) : cM w yX5_sample cX5_sample 4 (some .int) 10 30 1000 [.ref (G 0), .int (J a)] μ (okP G μ (spSample a s)) (erP G μ (spSample a s) [(eX, 1), (eS, 2)]) := by
  obtain ⟨q, clk, dm, ob, ru, rn, rs, nb, tr⟩ := s
  have hS := hR.1
  have hq : μ.2.1 5 3 (G 0) = q := hR.2.2.1
  have hc : μ.2.1 5 4 (G 0) = clk := hR.2.2.2.1
  have hqk := hO.2.1
  have hqi := hqk.1
  have hci := hO.2.2.1
  have g0 := hS.1.1
  obtain ⟨r, hr⟩ : ∃ r, r = spSample a (q, clk, dm, ob, ru, rn, rs, nb, tr) := ⟨_, rfl⟩
  rw [← hr]
  refine cM_of (fun x C => ?_)
  refine z_aload_n C dX5_sample_0 rfl ?_
  refine z_iload_n C dX5_sample_1 rfl ?_
  refine z_callV C (c_agentNumbered w μ (G 0) (G 1) (G 2) (G 3) (gA G) a 1 6 (fun _ => by decide) hS.1 hS.2.1 h32) qM_X5_61 dX5_sample_2 rfl (zRc_o g0) (fun E μ' h => ?_) ?_
  · obtain ⟨rfl, hb, rfl⟩ := h
    rw [hr, spSample, if_pos hb]
    exact ⟨by simp, hR, Fc_rf _ _⟩
  rintro v μ2 ⟨ha, rfl, rfl⟩
  obtain ⟨j, rfl⟩ : ∃ j : Nat, a = (j : Int) := ⟨a.toNat, by omega⟩
  have hj : j < 4 := by omega
  rw [show ((j : Int)).toNat = j from rfl]
  have gAj := (hS.2.2 j hj).1
  obtain ⟨hI, hl20, hRu⟩ := Rc_its hR hO hj
  refine z_astore_n C dX5_sample_5 ?_
  refine z_aload_n C dX5_sample_6 rfl ?_
  refine z_aload_n C dX5_sample_7 rfl ?_
  refine z_callV C (c_itemNeeded w μ2 (G 0) (G 1) (G 2) (G 3) (gA G j) (gL G j) (gP G j) (gU G j) (gN G j) hS.1 (hS.2.2 j hj) hI (by rw [hq]; exact hqi)) qM_X5_102 dX5_sample_8 rfl (zRc_o g0) (fun E μ' h => ?_) ?_
  · obtain ⟨rfl, hb, rfl⟩ := h
    rw [hq] at hb
    obtain ⟨e1, e2, e3⟩ := Rc_at hR hj hb
    rw [hr, spSample, if_neg (by omega), show ((j : Int)).toNat = j from rfl, if_pos (Or.inl (e2.mp rfl))]
    exact ⟨by simp, hR, Fc_rf _ _⟩
  rintro v μ4 ⟨rfl, y, rfl, hy⟩
  rw [hq] at hy
  obtain ⟨e1, e2, e3⟩ := Rc_at hR hj hy
  obtain ⟨y1, y2, ⟨i1, i2, i3, i4, i5⟩, n0, hy0⟩ := e3 y rfl
  have hin : q ∈ dm j := Classical.byContradiction fun h => by cases e2.mpr h
  have hnd := (hO.2.2.2.1 j hj).1
  have i2' : μ4.2.1 1 2 y = (ob j q).2.1 := i2
  have h8 : μ4.2.1 0 4 (gA G j) = rs j := hR.2.2.2.2.2.2.2.1 j hj
  refine z_astore_n C dX5_sample_11 ?_
  refine z_aload_n C dX5_sample_12 rfl ?_
  refine z_aload_n C dX5_sample_13 rfl ?_
  refine z_geti C qF_X5_26 dX5_sample_14 (by assumption) ?_
  rw [hq]
  refine z_callV C (c_hides w μ4 (gA G j) (gL G j) (gP G j) (gU G j) (gN G j) q (hS.2.2 j hj) hRu hqi) qM_X5_116 dX5_sample_17 rfl (zRc_o gAj) (fun _ _ h => h.elim) ?_
  rintro v μ3 ⟨rfl, rfl⟩
  rw [Rc_hid hR hj]
  have hz := zB_in (hidK (ru j) q)
  refine z_if_eq (tgt := 33) C dX5_sample_20 (by decide) (by omega) (fun g => ?_) (fun g => ?_)
  · have hh : hidK (ru j) q = false := zB_eq.mp g
    have fin : r = (0, (ob j q).2.1, q, clk, dm, uO ob j q (smpO (ob j q) clk (rs j)), ru, rn, rs, nb, tr) := by
      rw [hr, spSample, if_neg (by omega), show ((j : Int)).toNat = j from rfl, if_neg (fun e => ?_)]
      rcases e with e | e
      · exact e hin
      · rw [hh] at e
        cases e
    refine z_aload_n C dX5_sample_33 rfl ?_
    refine z_aload_n C dX5_sample_34 rfl ?_
    refine z_getq C qF_X5_151 dX5_sample_35 hy0 ?_
    refine z_putq C qF_X5_155 qW_1_4 dX5_sample_38 hy0 ?_
    -- the last sample is now the one before
    obtain ⟨μ5, h5⟩ : ∃ μ5, μ5 = sR μ3 1 4 y (μ3.2.2.1 1 5 y) := ⟨_, rfl⟩
    rw [← h5]
    have hR5 : Rc μ5 G (q, clk, dm, uO ob j q ((ob j q).1, (ob j q).2.1, (ob j q).2.2.1, (ob j q).2.2.2.2, (ob j q).2.2.2.2), ru, rn, rs, nb, tr) := by
      have K := Rc_item (μ' := μ5) (o := ((ob j q).1, (ob j q).2.1, (ob j q).2.2.1, (ob j q).2.2.2.2, (ob j q).2.2.2.2)) hR hj y1 hnd (by rw [h5]) (fun _ _ _ => by rw [h5]) (by rw [h5]) (fun _ _ _ => by rw [h5]) (fun c c1 => by rw [h5]; exact sR_cf c1) (fun k z hz => by rw [h5]; exact sR_a 1 k hz) (by rw [h5]) (fun i z m _ _ _ _ k => by rw [h5]) ⟨?_, ?_, ?_, ?_, ?_⟩ (fun i z m hi hz hzy hm hm2 => ?_)
      · rw [y2] at K
        exact K
      · rw [h5]
        exact i1
      · rw [h5]
        exact i2
      · rw [h5, sR_k 1 y (by decide)]
        exact i3
      · rw [h5, sR_s]
        exact i5
      · rw [h5, sR_k 1 y (by decide)]
        exact i5
      · rw [h5, sR_k 1 y (by decide)] at hm
        exact hzy (hR.2.2.2.2.2.1.2 i j z y m hi hj hz y1 hm2 hm)
    have hF5 : Fc μ3 μ5 G := fun b hb => by rw [h5]; exact sm_R (oth_n hb hy0 (by decide))
    have hy5 : μ5.1 y = some (1, n0) := by rw [h5]; exact hy0
    have hc5 : μ5.2.1 5 4 (G 0) = clk := hR5.2.2.2.1
    have g05 := hR5.1.1.1
    have gA5 := (hR5.1.2.2 j hj).1
    have h85 : μ5.2.1 0 4 (gA G j) = rs j := hR5.2.2.2.2.2.2.2.1 j hj
    have i25 : μ5.2.1 1 2 y = (ob j q).2.1 := by rw [h5]; exact i2
    refine z_aload_n C dX5_sample_41 rfl ?_
    refine z_new C 3 tyX3 dX5_sample_42 rfl rfl ly3 tyX3_ok qC_X5_158 qN_3 qI_3 (by decide) (by decide) (by decide) (fun n hn hnb => ?_)
    have gn : G 0 ≠ n := ne_of_T g05 hn
    have yn : y ≠ n := ne_of_T hy5 hn
    have An : gA G j ≠ n := ne_of_T gA5 hn
    have s0 := sm_N (μ := μ5) (kd := (3, 0)) gn
    have sy := sm_N (μ := μ5) (kd := (3, 0)) yn
    have sA := sm_N (μ := μ5) (kd := (3, 0)) An
    have g06 : (sN μ5 n (3, 0)).1 (G 0) = some (5, 0) := s0.1.trans g05
    have gy6 : (sN μ5 n (3, 0)).1 y = some (1, n0) := sy.1.trans hy5
    have gA6 : (sN μ5 n (3, 0)).1 (gA G j) = some (0, 0) := sA.1.trans gA5
    refine z_dup C dX5_sample_45 ?_
    refine z_aload_n C dX5_sample_46 rfl ?_
    refine z_geti C qF_X5_30 dX5_sample_47 (by assumption) ?_
    refine z_aload_n C dX5_sample_50 rfl ?_
    refine z_geti C qF_X5_109 dX5_sample_51 gy6 ?_
    refine z_aload_n C dX5_sample_54 rfl ?_
    refine z_geti C qF_X5_160 dX5_sample_55 gA6 ?_
    rw [s0.2.1 5 4, sy.2.1 1 2, sA.2.1 0 4, hc5, i25, h85]
    refine z_callI C (c_X3_init w μ5 n clk (ob j q).2.1 (rs j) hn) qM_X5_163 dX5_sample_58 rfl ?_
    rintro _ μ6 ⟨rfl, hnw⟩
    obtain ⟨w1, w2, w3, w4, w5, w6⟩ := hnw
    have hR6 := Rc_off hR5 w1 w2
    have hy6 : μ6.1 y = some (1, n0) := (w2 y yn).1.trans hy5
    refine z_putq (v := some n) C qF_X5_151 qW_1_5 dX5_sample_61 hy6 ?_
    obtain ⟨μ7, h7⟩ : ∃ μ7, μ7 = sR μ6 1 5 y (some n) := ⟨_, rfl⟩
    rw [← h7]
    have y1' : y ∈ μ6.2.2.2.2.2 (gL G j) := by
      rw [(w2 _ (ne_of_T (hR5.1.2.2 j hj).2.2.2.2.2.1 hn)).2.2.2.2.2, h5]
      exact y1
    have y2' : μ6.2.1 1 0 y = q := by rw [(w2 y yn).2.1 1 0, h5]; exact y2
    obtain ⟨k1, k2, k3, k4, k5⟩ := (hR6.2.2.2.2.1 j hj).2.2 y y1'
    rw [show μ6.2.1 1 0 y = q from y2', uO_s] at k1 k2 k3 k4 k5
    have hR7 : Rc μ7 G (q, clk, dm, uO ob j q (smpO (ob j q) clk (rs j)), ru, rn, rs, nb, tr) := by
      have K := Rc_item (μ' := μ7) (o := smpO (ob j q) clk (rs j)) hR6 hj y1' hnd (by rw [h7]) (fun _ _ _ => by rw [h7]) (by rw [h7]) (fun _ _ _ => by rw [h7]) (fun c c1 => by rw [h7]; exact sR_cf c1) (fun k z hz => by rw [h7]; exact sR_a 1 k hz) (by rw [h7]) (fun i z m _ _ _ _ k => by rw [h7]) ⟨?_, ?_, ?_, ?_, ?_⟩ (fun i z m hi hz hzy hm hm2 => ?_)
      · rw [y2', uO_uO] at K
        exact K
      · rw [h7]
        exact k1
      · rw [h7]
        exact k2
      · rw [h7, sR_k 1 y (by decide)]
        exact k3
      · rw [h7, sR_k 1 y (by decide)]
        exact k4
      · rw [h7, sR_s]
        exact ⟨⟨0, w3⟩, w4, w5, w6⟩
      · rw [h7, sR_k 1 y (by decide)] at hm
        exact hzy (hR6.2.2.2.2.2.1.2 i j z y m hi hj hz y1' hm2 hm)
    have hF7 : Fc μ6 μ7 G := fun b hb => by rw [h7]; exact sm_R (oth_n hb hy6 (by decide))
    have hy7 : μ7.1 y = some (1, n0) := by rw [h7]; exact hy6
    refine z_aload_n C dX5_sample_64 rfl ?_
    refine z_geti C qF_X5_109 dX5_sample_65 hy7 ?_
    rw [show μ7.2.1 1 2 y = (ob j q).2.1 by rw [h7]; exact k2]
    exact z_iret C dX5_sample_68 (by rw [fin]; exact ⟨rfl, rfl, hR7, Fc_tr (Fc_tr hF5 (Fc_off w1 w2)) hF7⟩)
  · have hh : hidK (ru j) q = true := by cases h : hidK (ru j) q with | true => rfl | false => exact absurd (zB_eq.mpr h) g
    exact z_throw C qT_S qS_149 dX5_sample_23 dX5_sample_26 dX5_sample_27 dX5_sample_29 dX5_sample_32 (by rw [hr, spSample, if_neg (by omega), show ((j : Int)).toNat = j from rfl, if_pos (Or.inr hh)]; exact ⟨by simp, hR, Fc_rf _ _⟩)
theorem c_setMarks (w : Wd) (μ : Mem) (G : Nat → Nat) (N : Int) (s : Sg) (a lo hi : Int) (hR : Rc μ G s) (hO : okS N s) (h32 : in32 a) (hl32 : in32 lo) (hh32 : in32 hi) : cM w yX5_setMarks cX5_setMarks 5 none 10 30 1000 [.ref (G 0), .int (J a), .int (J lo), .int (J hi)] μ (fun v μ' => v = none ∧ (spMarks a lo hi s).1 = 0 ∧ Rc μ' G (spMarks a lo hi s).2.2 ∧ Fc μ μ' G) (erP G μ (spMarks a lo hi s) [(eX, 1), (eA, 2), (eS, 3)]) := by
  obtain ⟨l1, l2⟩ := hl32
  obtain ⟨u1', u2'⟩ := hh32
  obtain ⟨q, clk, dm, ob, ru, rn, rs, nb, tr⟩ := s
  have hS := hR.1
  have hq : μ.2.1 5 3 (G 0) = q := hR.2.2.1
  have hc : μ.2.1 5 4 (G 0) = clk := hR.2.2.2.1
  have hqk := hO.2.1
  have hqi := hqk.1
  have hci := hO.2.2.1
  have g0 := hS.1.1
  obtain ⟨r, hr⟩ : ∃ r, r = spMarks a lo hi (q, clk, dm, ob, ru, rn, rs, nb, tr) := ⟨_, rfl⟩
  rw [← hr]
  refine cM_of (fun x C => ?_)
  refine z_aload_n C dX5_setMarks_0 rfl ?_
  refine z_iload_n C dX5_setMarks_1 rfl ?_
  refine z_callV C (c_agentNumbered w μ (G 0) (G 1) (G 2) (G 3) (gA G) a 1 6 (fun _ => by decide) hS.1 hS.2.1 h32) qM_X5_61 dX5_setMarks_2 rfl (zRc_o g0) (fun E μ' h => ?_) ?_
  · obtain ⟨rfl, hb, rfl⟩ := h
    rw [hr, spMarks, if_pos hb]
    exact ⟨by simp, hR, Fc_rf _ _⟩
  rintro v μ2 ⟨ha, rfl, rfl⟩
  obtain ⟨j, rfl⟩ : ∃ j : Nat, a = (j : Int) := ⟨a.toNat, by omega⟩
  have hj : j < 4 := by omega
  rw [show ((j : Int)).toNat = j from rfl]
  have gAj := (hS.2.2 j hj).1
  obtain ⟨hI, hl20, hRu⟩ := Rc_its hR hO hj
  have bad : (lo < 0 ∨ 999 ≤ lo ∨ hi ≤ lo ∨ 999 < hi) → Z w x (zQ w x (fun v μ' => v = none ∧ r.1 = 0 ∧ Rc μ' G r.2.2 ∧ Fc μ2 μ' G) (erP G μ2 r [(eX, 1), (eA, 2), (eS, 3)]) 30 1000) 5 30 [] [] μ2 (0 + 1) (0 + 6) := fun h => z_throw C qT_A qS_168 dX5_setMarks_30 dX5_setMarks_33 dX5_setMarks_34 dX5_setMarks_36 dX5_setMarks_39 (by rw [hr, spMarks, if_neg (by omega), if_pos h]; exact ⟨by simp, hR, Fc_rf _ _⟩)
  refine z_astore C dX5_setMarks_5 ?_
  refine z_iload_n C dX5_setMarks_7 rfl ?_
  refine z_if_lt (tgt := 30) C dX5_setMarks_8 (by decide) (by omega) (fun g1 => ?_) (fun g1 => ?_)
  · exact z_ls _ (by exact trivial) (bad (by omega))
  refine z_iload_n C dX5_setMarks_11 rfl ?_
  refine z_sipush C dX5_setMarks_12 ?_
  refine z_icmp_ge (tgt := 30) C dX5_setMarks_15 (by decide) (by omega) (fun g2 => ?_) (fun g2 => ?_)
  · exact z_ls _ (by exact trivial) (bad (by omega))
  refine z_iload_n C dX5_setMarks_18 rfl ?_
  refine z_iload_n C dX5_setMarks_19 rfl ?_
  refine z_icmp_le (tgt := 30) C dX5_setMarks_20 (by decide) (by omega) (fun g3 => ?_) (fun g3 => ?_)
  · exact z_ls _ (by exact trivial) (bad (by omega))
  refine z_iload_n C dX5_setMarks_23 rfl ?_
  refine z_sipush C dX5_setMarks_24 ?_
  refine z_icmp_le (tgt := 40) C dX5_setMarks_27 (by decide) (by omega) (fun g4 => ?_) (fun g4 => ?_)
  · refine z_aload_n C dX5_setMarks_40 rfl ?_
    refine z_aload C dX5_setMarks_41 rfl ?_
    refine z_callV C (c_itemNeeded w μ2 (G 0) (G 1) (G 2) (G 3) (gA G j) (gL G j) (gP G j) (gU G j) (gN G j) hS.1 (hS.2.2 j hj) hI (by rw [hq]; exact hqi)) qM_X5_102 dX5_setMarks_43 rfl (zRc_o g0) (fun E μ' h => ?_) ?_
    · obtain ⟨rfl, hb, rfl⟩ := h
      rw [hq] at hb
      obtain ⟨e1, e2, e3⟩ := Rc_at hR hj hb
      rw [hr, spMarks, if_neg (by omega), if_neg (by omega), show ((j : Int)).toNat = j from rfl, if_pos (e2.mp rfl)]
      exact ⟨by simp, hR, Fc_rf _ _⟩
    rintro v μ4 ⟨rfl, y, rfl, hy⟩
    rw [hq] at hy
    obtain ⟨e1, e2, e3⟩ := Rc_at hR hj hy
    obtain ⟨y1, y2, ⟨i1, i2, i3, i4, i5⟩, n0, hy0⟩ := e3 y rfl
    have hin : q ∈ dm j := Classical.byContradiction fun h => by cases e2.mpr h
    have hnd := (hO.2.2.2.1 j hj).1
    have fin : r = (0, 0, q, clk, dm, uO ob j q (mrkO (ob j q) lo hi), ru, rn, rs, nb, tr) := by rw [hr, spMarks, if_neg (by omega), if_neg (by omega), show ((j : Int)).toNat = j from rfl, if_neg (fun h => h hin)]
    refine z_new C 2 tyX2 dX5_setMarks_46 rfl rfl ly2 tyX2_ok qC_X5_170 qN_2 qI_2 (by decide) (by decide) (by decide) (fun n hn hnb => ?_)
    have yn : y ≠ n := ne_of_T hy0 hn
    refine z_dup C dX5_setMarks_49 ?_
    refine z_iload_n C dX5_setMarks_50 rfl ?_
    refine z_iload_n C dX5_setMarks_51 rfl ?_
    refine z_callI C (c_X2_init w μ4 n lo hi hn) qM_X5_172 dX5_setMarks_52 rfl ?_
    rintro _ μ6 ⟨rfl, hnw⟩
    obtain ⟨w1, w2, w3, w4, w5, w6⟩ := hnw
    have hR6 := Rc_off hR w1 w2
    have hy6 : μ6.1 y = some (1, n0) := (w2 y yn).1.trans hy0
    refine z_putq (v := some n) C qF_X5_174 qW_1_3 dX5_setMarks_55 hy6 ?_
    obtain ⟨μ7, h7⟩ : ∃ μ7, μ7 = sR μ6 1 3 y (some n) := ⟨_, rfl⟩
    rw [← h7]
    have hLi : ∀ i, i < 4 → μ6.2.2.2.2.2 (gL G i) = μ4.2.2.2.2.2 (gL G i) := fun i hi => (w2 _ (ne_of_T (hS.2.2 i hi).2.2.2.2.2.1 hn)).2.2.2.2.2
    have y1' : y ∈ μ6.2.2.2.2.2 (gL G j) := by rw [hLi j hj]; exact y1
    have y2' : μ6.2.1 1 0 y = q := by rw [(w2 y yn).2.1 1 0]; exact y2
    obtain ⟨k1, k2, k3, k4, k5⟩ := (hR6.2.2.2.2.1 j hj).2.2 y y1'
    rw [show μ6.2.1 1 0 y = q from y2'] at k1 k2 k3 k4 k5
    -- nobody else has the new marks
    have hnew : ∀ i z m, i < 4 → z ∈ μ6.2.2.2.2.2 (gL G i) → μ6.2.2.1 1 3 z = some m → m ≠ n := by
      intro i z m hi hz hm e
      rw [hLi i hi] at hz
      obtain ⟨z0, hz0⟩ := (hR.2.2.2.2.1 i hi).1 z hz
      have zn : z ≠ n := ne_of_T hz0 hn
      rw [(w2 z zn).2.2.1 1 3] at hm
      have h9 := ((hR.2.2.2.2.1 i hi).2.2 z hz).2.2.1
      rw [show μ4.2.2.1 1 3 z = some m from hm] at h9
      obtain ⟨z1, hz1⟩ := mkM_T h9
      rw [e, hn] at hz1
      cases hz1
    have hR7 : Rc μ7 G (q, clk, dm, uO ob j q (mrkO (ob j q) lo hi), ru, rn, rs, nb, tr) := by
      have K := Rc_item (μ' := μ7) (o := mrkO (ob j q) lo hi) hR6 hj y1' hnd (by rw [h7]) (fun _ _ _ => by rw [h7]) (by rw [h7]) (fun _ _ _ => by rw [h7]) (fun c c1 => by rw [h7]; exact sR_cf c1) (fun k z hz => by rw [h7]; exact sR_a 1 k hz) (by rw [h7]) (fun i z m _ _ _ _ k => by rw [h7]) ⟨?_, ?_, ?_, ?_, ?_⟩ (fun i z m hi hz hzy hm hm2 => ?_)
      · rw [y2'] at K
        exact K
      · rw [h7]
        exact k1
      · rw [h7]
        exact k2
      · rw [h7, sR_s]
        exact ⟨⟨0, w3⟩, w4, w5, w6⟩
      · rw [h7, sR_k 1 y (by decide)]
        exact k4
      · rw [h7, sR_k 1 y (by decide)]
        exact k5
      · rw [h7, sR_s] at hm
        cases hm
        exact hnew i z _ hi hz hm2 rfl
    have hF7 : Fc μ6 μ7 G := fun b hb => by rw [h7]; exact sm_R (oth_n hb hy6 (by decide))
    exact z_vret C dX5_setMarks_58 ⟨rfl, by rw [fin], by rw [fin]; exact hR7, Fc_tr (Fc_off w1 w2) hF7⟩
  · exact z_ls _ (by exact trivial) (bad (by omega))
