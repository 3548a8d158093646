/-! the calls change, sample, setMarks, restart -/
section CMQ
variable {w : Wd} {μ : Mem} {G : Nat → Nat} {N q clk : Int} {dm : Nat → List Int} {ob : Nat → Int → Ob} {ru : Nat → Int → Int} {rn rs : Nat → Int} {nb : Nat → Int → Int} {tr : List Trp}
theorem frs_ok {o : Ob} (h : okO N clk o) : frs o 0 = false := by
  obtain ⟨o1, o2, o3, -⟩ := h
  unfold frs
  cases h9 : o.2.2.1 with
  | none => rfl
  | some x =>
    obtain ⟨lo, hi, ar⟩ := x
    have := o3 lo hi ar h9
    show decide (ar ≠ 0 ∧ hi ≤ 0) = false
    exact decide_eq_false (by omega)
/-- compareWithMarks once item y has the value v -/
theorem c_cmp (hR : Rc μ G (q, clk, dm, ob, ru, rn, rs, nb, tr)) (hO : okS N (q, clk, dm, ob, ru, rn, rs, nb, tr)) {j y : Nat} {v : Int} {mc ms : Nat} (hj : j < 4) (hy : y ∈ μ.2.2.2.2.2 (gL G j)) (hok : okO N clk (ob j (μ.2.1 1 0 y))) (hv : 0 ≤ v ∧ v ≤ 999) (hr : frs (ob j (μ.2.1 1 0 y)) v = true → 2 ≤ mc ∧ 900 ≤ ms) : cM w yX5_compareWithMarks cX5_compareWithMarks 3 none 9 mc ms [.ref (G 0), .int (J (j : Int)), .ref y] (sI μ 1 2 y v) (fun v' μ' => v' = none ∧ cmpP (sI μ 1 2 y v) (G 0) (G 2) (j : Int) y μ') (fun _ _ => False) := by
  obtain ⟨hTr, -⟩ := Rc_trS hR hO
  have h5 := hR.2.2.2.2.1
  obtain ⟨n0, hT⟩ := (h5 j hj).1 y hy
  obtain ⟨i1, i2, i3, i4, i5⟩ := (h5 j hj).2.2 y hy
  have hq : μ.2.1 5 4 (G 0) = clk := hR.2.2.2.1
  have hci := hO.2.2.1
  obtain ⟨hI, -⟩ := Rc_its hR hO hj
  have e10 : (sI μ 1 2 y v).2.1 1 0 y = μ.2.1 1 0 y := sI_k 1 y (by decide)
  have E2 : (sI μ 1 2 y v).2.1 2 = μ.2.1 2 := sI_cf (by decide)
  have E4 : (sI μ 1 2 y v).2.1 4 = μ.2.1 4 := sI_cf (by decide)
  have ev : (sI μ 1 2 y v).2.1 1 2 y = v := sI_s
  have mk : ∀ m, μ.2.2.1 1 3 y = some m → ∃ lo hi ar, (ob j (μ.2.1 1 0 y)).2.2.1 = some (lo, hi, ar) ∧ (∃ n1, μ.1 m = some (2, n1)) ∧ μ.2.1 2 0 m = lo ∧ μ.2.1 2 1 m = hi ∧ μ.2.1 2 2 m = ar := by
    intro m hm
    rw [hm] at i3
    cases h9 : (ob j (μ.2.1 1 0 y)).2.2.1 with
    | none => rw [h9] at i3; exact i3.elim
    | some x => rw [h9] at i3; exact ⟨x.1, x.2.1, x.2.2, rfl, i3⟩
  refine c_compare w (sI μ 1 2 y v) (G 0) (G 1) (G 2) (G 3) y (j : Int) mc ms hR.1.1 ?_ ⟨by omega, by omega⟩ ?_ ⟨n0, hT⟩ ?_ ?_ (fun m hm => ?_) (fun m hm hf => ?_)
  · show trS (sI μ 1 2 y v) (μ.2.2.2.2.2 (G 2))
    unfold trS
    rw [E4]
    exact hTr
  · rw [sI_c (c' := 5) _ _ (by decide), hq]
    exact hci
  · rw [e10]
    exact hI.2.2 y hy
  · rw [ev]
    exact hv
  · obtain ⟨lo, hi, ar, m0, m1, m2, m3, m4⟩ := mk m hm
    obtain ⟨-, -, o3, -⟩ := hok
    have := o3 lo hi ar m0
    refine ⟨m1, ?_, ?_, ?_⟩
    · rw [E2]
      omega
    · rw [E2]
      omega
    · rw [E2]
      omega
  · obtain ⟨lo, hi, ar, m0, m1, m2, m3, m4⟩ := mk m hm
    rw [ev] at hf
    refine hr ?_
    unfold frs
    rw [m0]
    unfold fires at hf
    rw [E2, m3, m4] at hf
    exact hf
end CMQ
theorem c_change (w : Wd) (μ : Mem) (G : Nat → Nat) (N : Int) (s : Sg) (a m : Int) (hR : Rc μ G s) (hO : okS N s) (h32 : in32 a) (hm32 : in32 m) : cM w yX5_change cX5_change 5 (some .int) 10 30 1000 [.ref (G 0), .int (J a), .int (J m)] μ (okP G μ (spChange a m s)) (erP G μ (spChange a m s) [(eX, 1), (eA, 2), (eS, 3)]) := by
  obtain ⟨q, clk, dm, ob, ru, rn, rs, nb, tr⟩ := s
  have hS := hR.1
  have hq : μ.2.1 5 3 (G 0) = q := hR.2.2.1
  have hc : μ.2.1 5 4 (G 0) = clk := hR.2.2.2.1
  have hqk := hO.2.1
  have hqi := hqk.1
  have hci := hO.2.2.1
  have g0 := hS.1.1
  obtain ⟨r, hr⟩ : ∃ r, r = spChange a m (q, clk, dm, ob, ru, rn, rs, nb, tr) := ⟨_, rfl⟩
  rw [← hr]
  refine cM_of (fun x C => ?_)
  refine z_aload_n C dX5_change_0 rfl ?_
  refine z_iload_n C dX5_change_1 rfl ?_
  refine z_callV C (c_agentNumbered w μ (G 0) (G 1) (G 2) (G 3) (gA G) a 1 6 (fun _ => by decide) hS.1 hS.2.1 h32) qM_X5_61 dX5_change_2 rfl (zRc_o g0) (fun E μ' h => ?_) ?_
  · obtain ⟨rfl, hb, rfl⟩ := h
    rw [hr, spChange, if_pos hb]
    exact ⟨by simp, hR, Fc_rf _ _⟩
  rintro v μ2 ⟨ha, rfl, rfl⟩
  obtain ⟨j, rfl⟩ : ∃ j : Nat, a = (j : Int) := ⟨a.toNat, by omega⟩
  have hj : j < 4 := by omega
  rw [show ((j : Int)).toNat = j from rfl]
  have gAj := (hS.2.2 j hj).1
  obtain ⟨hI, hl20, hRu⟩ := Rc_its hR hO hj
  refine z_astore_n C dX5_change_5 ?_
  refine z_iload_n C dX5_change_6 rfl ?_
  refine z_callS C (c_checkValue w μ2 m hm32) qM_X5_67 dX5_change_7 rfl (fun E μ' h => ?_) ?_
  · obtain ⟨rfl, hb, rfl⟩ := h
    rw [hr, spChange, if_neg (by omega), if_pos hb]
    exact ⟨by simp, hR, Fc_rf _ _⟩
  rintro _ μ3 ⟨hm, rfl, rfl⟩
  refine z_aload_n C dX5_change_10 rfl ?_
  refine z_aload_n C dX5_change_11 rfl ?_
  refine z_callV C (c_itemNeeded w μ3 (G 0) (G 1) (G 2) (G 3) (gA G j) (gL G j) (gP G j) (gU G j) (gN G j) hS.1 (hS.2.2 j hj) hI (by rw [hq]; exact hqi)) qM_X5_102 dX5_change_12 rfl (zRc_o g0) (fun E μ' h => ?_) ?_
  · obtain ⟨rfl, hb, rfl⟩ := h
    rw [hq] at hb
    obtain ⟨e1, e2, e3⟩ := Rc_at hR hj hb
    rw [hr, spChange, if_neg (by omega), if_neg (by omega), show ((j : Int)).toNat = j from rfl, if_pos (e2.mp rfl)]
    exact ⟨by simp, hR, Fc_rf _ _⟩
  rintro v μ4 ⟨rfl, y, rfl, hy⟩
  rw [hq] at hy
  obtain ⟨e1, e2, e3⟩ := Rc_at hR hj hy
  obtain ⟨y1, y2, ⟨i1, i2, i3, i4, i5⟩, n0, hy0⟩ := e3 y rfl
  have hin : q ∈ dm j := Classical.byContradiction fun h => by cases e2.mpr h
  have hok := ((hO.2.2.2.1 j hj).2.2.1 q hin).2
  have hnd := (hO.2.2.2.1 j hj).1
  have hkd := hok.1
  have hvl := hok.2.1
  obtain ⟨V, hV⟩ : ∃ V, V = chV (ob j q) m := ⟨_, rfl⟩
  have fin : r = (0, V, q, clk, dm, uO ob j q (hasO (ob j q) V), ru, rn, rs, nb, if frs (ob j q) V = true then sndT clk (j : Int) q tr else tr) := by rw [hr, spChange, if_neg (by omega), if_neg (by omega), if_neg (fun h => by cases e2.mpr h), hV]; rfl
  have i1' : μ4.2.1 1 1 y = (ob j q).1 := i1
  have i2' : μ4.2.1 1 2 y = (ob j q).2.1 := i2
  have hVr : 0 ≤ V ∧ V ≤ 999 := by
    rw [hV]
    unfold chV
    split <;> omega
  have fin2 : Z w x (zQ w x (okP G μ4 r) (erP G μ4 r [(eX, 1), (eA, 2), (eS, 3)]) 30 1000) 5 51 [(0, .ref (G 0)), (1, .int (J (j : Int))), (4, .ref y)] [] (sI μ4 1 2 y V) 3 18 := by
    refine z_aload_n C dX5_change_51 rfl ?_
    refine z_iload_n C dX5_change_52 rfl ?_
    refine z_aload C dX5_change_53 rfl ?_
    refine z_callV C (c_cmp (w := w) (mc := 2) (ms := 900) hR hO hj y1 (by rw [y2]; exact hok) hVr (fun _ => ⟨Nat.le_refl _, Nat.le_refl _⟩)) qM_X5_112 dX5_change_55 rfl (zRc_o g0) (fun _ _ h => h.elim) ?_
    rintro _ μ5 ⟨rfl, hcm⟩
    obtain ⟨r1, r2, r3, r4⟩ := Rc_cmp hR hj hnd y1 hcm
    rw [y2] at r1
    obtain ⟨n1, hT5⟩ := (r1.2.2.2.2.1 j hj).1 y (by
      -- y is still among the items
      have hmem := (pIt_mem (r1.2.2.2.2.1 j hj) (k := q)).mp hin
      obtain ⟨z, hz, ez⟩ := hmem
      have hL : y ∈ μ5.2.2.2.2.2 (gL G j) := by
        rw [show μ5.2.2.2.2.2 (gL G j) = μ4.2.2.2.2.2 (gL G j) from ?_]
        · exact y1
        · unfold cmpP at hcm
          cases h9 : (sI μ4 1 2 y V).2.2.1 1 3 y with
          | none =>
            rw [h9] at hcm
            rw [show μ5 = sI μ4 1 2 y V from hcm]
          | some mm =>
            rw [h9] at hcm
            have hcm' : (if fires (sI μ4 1 2 y V) mm ((sI μ4 1 2 y V).2.1 1 2 y) = true then sentP _ (G 0) (G 2) (j : Int) ((sI μ4 1 2 y V).2.1 1 0 y) μ5 else μ5 = _) := hcm
            split at hcm'
            · rcases hcm' with ⟨t, -, -, rfl⟩ | ⟨rr, -, -, qn, μ6, g3, rfl⟩
              · rfl
              · rw [sL_n (gne hR.2.1 (m := 5 + 5 * j) (m' := 2) (by omega) (by decide) (by omega))]
                exact (g3.2.1 _ (ne_of_T (hS.2.2 j hj).2.2.2.2.2.1 g3.1)).2.2.2.2.2
            · rw [hcm']
      exact hL)
    refine z_aload C dX5_change_58 rfl ?_
    refine z_geti C qF_X5_109 dX5_change_60 hT5 ?_
    rw [r3]
    exact z_iret C dX5_change_63 (by rw [fin]; exact ⟨rfl, rfl, r1, r2⟩)
  refine z_astore C dX5_change_15 ?_
  refine z_aload C dX5_change_17 rfl ?_
  refine z_geti C qF_X5_106 dX5_change_19 (by assumption) ?_
  refine z_iconst C dX5_change_22 ?_
  rw [i1']
  refine z_icmp_ne (tgt := 45) C dX5_change_23 (by decide) (by omega) (fun g => ?_) (fun g => ?_)
  · refine z_aload C dX5_change_45 rfl ?_
    refine z_iload_n C dX5_change_47 rfl ?_
    refine z_puti C qF_X5_109 qW_1_2 dX5_change_48 (by assumption) ?_
    have hVm : V = m := by rw [hV]; unfold chV; rw [if_neg g]
    rw [hVm] at fin2
    exact z_ls _ (by exact ⟨rfl, rfl, rfl, trivial⟩) (z_widen (by decide) (by decide) fin2)
  · refine z_aload C dX5_change_26 rfl ?_
    refine z_aload C dX5_change_28 rfl ?_
    refine z_geti C qF_X5_109 dX5_change_30 (by assumption) ?_
    refine z_iload_n C dX5_change_33 rfl ?_
    rw [i2']
    refine z_iadd C dX5_change_34 ?_
    refine z_sipush C dX5_change_35 ?_
    refine z_irem C dX5_change_38 (by omega) ?_
    refine z_puti C qF_X5_109 qW_1_2 dX5_change_39 (by assumption) ?_
    refine z_goto (tgt := 51) C dX5_change_42 (by decide) ?_
    have hVm : V = ((ob j q).2.1 + m) % 1000 := by rw [hV]; unfold chV; rw [if_pos g]
    rw [hVm] at fin2
    exact z_ls _ (by exact ⟨rfl, rfl, rfl, trivial⟩) (z_widen (by decide) (by decide) fin2)
