/-! THE LAW'S CASES, the rest -/
/-- setMarks() in order -/
theorem cM_n {w : Wd} {y : MethodName} {cc : ByteArray} {nL : Nat} {ret : Option FieldType} {d mc ms : Nat} {as : List Value} {μ : Mem} {G : Nat → Nat} {r : Rs} {el : List (String × Int)} {V : Int} {s' : Sg} (h : cM w y cc nL ret d mc ms as μ (fun v μ' => v = none ∧ r.1 = 0 ∧ Rc μ' G r.2.2 ∧ Fc μ μ' G) (erP G μ r el)) (e : r = (0, V, s')) (hel : ∀ p ∈ el, p.2 ≠ 0 := by simp) : cM w y cc nL ret d mc ms as μ (fun v μ' => v = none ∧ Rc μ' G s' ∧ Fc μ μ' G) (fun _ _ => False) := by
  subst e
  exact cM_mono h (fun v μ' h => ⟨h.1, h.2.2.1, h.2.2.2⟩) (fun E μ' hE => hel _ hE.1 rfl)
section CASES
variable {w : Wd} {x : Zc} {rt : Option FieldType} {nm : String} {Q : State → Prop} {b : Nat} {G : Nat → Nat} {am ar : Nat} {m r : Int → Int} {c T t0 v wt ze : Int} {k n j : Nat} {μ : Mem} {q clk : Int} {dm : Nat → List Int} {ob : Nat → Int → Ob} {ru : Nat → Int → Int} {rn rs : Nat → Int} {nb : Nat → Int → Int} {tr : List Trp}
theorem l_marks (C : Cx w x cL_law 14 RL rt room_1 nm) (hj : j < 2) (hR : Rc μ G (q, clk, dm, ob, ru, rn, rs, nb, tr)) (hA : aS μ G am ar m r) (hJ : lJ m r c T (q, clk, dm, ob, ru, rn, rs, nb, tr)) (hT : 0 ≤ T ∧ T < 70) (ht : t0 ≤ trL (q, clk, dm, ob, ru, rn, rs, nb, tr)) (hk : k + 100 ≤ 600130) (hn : n + 3100 ≤ 7301080) (next : hNx w x Q b G am ar T j t0 k n) : Z w x Q 14 301 (lcC b (G 0) am ar c T v wt j t0 ze) [] μ k n := by
  obtain ⟨V, e1, hV, hV2⟩ := e_get hJ.1 (show j < 4 by omega)
  refine z_aload_n C dL_law_301 rfl ?_
  refine z_iload C dL_law_302 rfl ?_
  refine z_lawV C (cM_v (c_get2 w μ G T (q, clk, dm, ob, ru, rn, rs, nb, tr) (j : Int) hR hJ.1 ⟨by omega, by omega⟩) e1) qM_L_40 dL_law_304 rfl (zRc_o (Rc_g0 hR)) (fun r1 μ1 h => ?_)
  obtain ⟨rfl, hR1, hF1⟩ := h
  have hA1 := aS_Fc hA hF1
  refine z_istore C dL_law_307 ?_
  refine z_iload C dL_law_309 rfl ?_
  refine z_if_lt (tgt := 375) C dL_law_311 (by decide) (by omega) (fun g => ?_) (fun g => ?_)
  · refine z_goto (tgt := 583) C dL_law_375 (by decide) ?_
    exact next _ _ _ _ _ _ _ _ (by exact ⟨rfl, rfl, rfl, rfl, rfl, rfl, rfl, rfl, rfl, trivial⟩) hR1 hA1 (lJ_up hJ ⟨by omega, by omega⟩) ht (by omega) (by omega)
  · obtain ⟨hq, hh, hVq⟩ := hV2 (by omega)
    refine z_aload_n C dL_law_314 rfl ?_
    refine z_iload C dL_law_315 rfl ?_
    refine z_iload C dL_law_317 rfl ?_
    refine z_bipush C dL_law_319 ?_
    obtain ⟨loz, loe, -⟩ := J_shrA (J v) (J 6)
    refine z_ishr C loz loe dL_law_321 ?_
    refine z_sipush C dL_law_322 ?_
    refine z_lawS C (c_low w μ1 loz 400 (by decide)) qM_L_14 dL_law_325 rfl (fun rvlo μlo h => ?_)
    obtain ⟨⟨lo, rfl, hlo⟩, h⟩ := h
    rw [h]
    clear h loe
    refine z_sipush C dL_law_328 ?_
    refine z_iload C dL_law_331 rfl ?_
    refine z_bipush C dL_law_333 ?_
    obtain ⟨hiz, hie, -⟩ := J_shrA (J v) (J 15)
    refine z_ishr C hiz hie dL_law_335 ?_
    refine z_sipush C dL_law_336 ?_
    refine z_lawS C (c_low w μ1 hiz 500 (by decide)) qM_L_14 dL_law_339 rfl (fun rvhi μhi h => ?_)
    obtain ⟨⟨hi, rfl, hhi⟩, h⟩ := h
    rw [h]
    clear h hie
    refine z_iadd C dL_law_342 ?_
    refine z_lawV C (cM_n (c_setMarks w μ1 G T (q, clk, dm, ob, ru, rn, rs, nb, tr) (j : Int) lo (400 + hi) hR1 hJ.1 ⟨by omega, by omega⟩ ⟨by omega, by omega⟩ ⟨by omega, by omega⟩) (e_marks (by omega) (by omega) (by omega) hq)) qM_L_74 dL_law_343 rfl (zRc_o (Rc_g0 hR1)) (fun r2 μ2 h => ?_)
    obtain ⟨rfl, hR2, hF2⟩ := h
    have hJ2 := lJ_marks (lo := lo) (hi := 400 + hi) hJ hj (by omega) (by omega) hq
    have hV3 : V = (uO ob j q (mrkO (ob j q) lo (400 + hi)) j q).2.1 := by
      rw [uO_s]
      exact hVq
    refine z_aload_n C dL_law_346 rfl ?_
    refine z_iload C dL_law_347 rfl ?_
    refine z_lawV C (cM_v (c_get2 w μ2 G T _ (j : Int) hR2 hJ2.1 ⟨by omega, by omega⟩) (e_got (by omega) hq hh hV3)) qM_L_40 dL_law_349 rfl (zRc_o (Rc_g0 hR2)) (fun r3 μ3 h => ?_)
    obtain ⟨rfl, hR3, hF3⟩ := h
    refine z_iload C dL_law_352 rfl ?_
    refine z_icmp_ne (tgt := 372) C dL_law_354 (by decide) (by omega) (fun g4 => ?_) (fun g4 => ?_)
    · exact absurd rfl g4
    · refine z_aload_n C dL_law_357 rfl ?_
      refine z_iload C dL_law_358 rfl ?_
      refine z_lawV C (cM_v (c_sample w μ3 G T _ (j : Int) hR3 hJ2.1 ⟨by omega, by omega⟩) (e_sample (by omega) hq hh hV3)) qM_L_78 dL_law_360 rfl (zRc_o (Rc_g0 hR3)) (fun r4 μ4 h => ?_)
      obtain ⟨rfl, hR4, hF4⟩ := h
      have hJ4 := lJ_sample hJ2 hj hq hh
      refine z_iload C dL_law_363 rfl ?_
      refine z_icmp_ne (tgt := 372) C dL_law_365 (by decide) (by omega) (fun g5 => ?_) (fun g5 => ?_)
      · exact absurd rfl g5
      · refine z_iconst C dL_law_368 ?_
        refine z_goto (tgt := 373) C dL_law_369 (by decide) ?_
        refine z_istore C dL_law_373 ?_
        refine z_goto (tgt := 583) C dL_law_375 (by decide) ?_
        exact next _ _ _ _ _ _ _ _ (by exact ⟨rfl, rfl, rfl, rfl, rfl, rfl, rfl, rfl, rfl, trivial⟩) hR4 (aS_Fc (aS_Fc (aS_Fc hA1 hF2) hF3) hF4) (lJ_up hJ4 ⟨by omega, by omega⟩) ht (by omega) (by omega)
theorem l_restart (C : Cx w x cL_law 14 RL rt room_1 nm) (hj : j < 2) (hR : Rc μ G (q, clk, dm, ob, ru, rn, rs, nb, tr)) (hA : aS μ G am ar m r) (hJ : lJ m r c T (q, clk, dm, ob, ru, rn, rs, nb, tr)) (hT : 0 ≤ T ∧ T < 70) (ht : t0 ≤ trL (q, clk, dm, ob, ru, rn, rs, nb, tr)) (hk : k + 100 ≤ 600130) (hn : n + 3100 ≤ 7301080) (next : hNx w x Q b G am ar T j t0 k n) : Z w x Q 14 385 (lcC b (G 0) am ar c T v wt j t0 ze) [] μ k n := by
  have hrs := (hJ.1.2.2.2.1 j (by omega)).2.2.2.2.2.1
  refine z_aload_n C dL_law_385 rfl ?_
  refine z_iload C dL_law_386 rfl ?_
  refine z_lawV C (cM_v (c_restart w μ G T (q, clk, dm, ob, ru, rn, rs, nb, tr) (j : Int) hR hJ.1 (by omega) ⟨by omega, by omega⟩) (e_restart (by omega))) qM_L_81 dL_law_388 rfl (zRc_o (Rc_g0 hR)) (fun r2 μ2 h => ?_)
  obtain ⟨rfl, hR2, hF2⟩ := h
  have hJ2 := lJ_restart hJ hj ⟨by omega, by omega⟩
  refine z_iconst C dL_law_391 ?_
  refine z_icmp_lt (tgt := 399) C dL_law_392 (by decide) (by omega) (fun g4 => ?_) (fun g4 => ?_)
  · omega
  · refine z_iconst C dL_law_395 ?_
    refine z_goto (tgt := 400) C dL_law_396 (by decide) ?_
    refine z_istore C dL_law_400 ?_
    refine z_goto (tgt := 583) C dL_law_402 (by decide) ?_
    exact next _ _ _ _ _ _ _ _ (by exact ⟨rfl, rfl, rfl, rfl, rfl, rfl, rfl, rfl, rfl, trivial⟩) hR2 (aS_Fc hA hF2) hJ2 ht (by omega) (by omega)
theorem l_pass (C : Cx w x cL_law 14 RL rt room_1 nm) (hj : j < 2) (hR : Rc μ G (q, clk, dm, ob, ru, rn, rs, nb, tr)) (hA : aS μ G am ar m r) (hJ : lJ m r c T (q, clk, dm, ob, ru, rn, rs, nb, tr)) (hT : 0 ≤ T ∧ T < 70) (ht : t0 ≤ trL (q, clk, dm, ob, ru, rn, rs, nb, tr)) (hk : k + 100 ≤ 600130) (hn : n + 3100 ≤ 7301080) (next : hNx w x Q b G am ar T j t0 k n) : Z w x Q 14 412 (lcC b (G 0) am ar c T v wt j t0 ze) [] μ k n := by
  have hc := hJ.2.1
  have hc0 := hJ.1.2.2.1
  refine z_iconst C dL_law_412 ?_
  refine z_iload C dL_law_413 rfl ?_
  refine z_bipush C dL_law_415 ?_
  obtain ⟨mnz, mne, -⟩ := J_shrA (J v) (J 6)
  refine z_ishr C mnz mne dL_law_417 ?_
  refine z_bipush C dL_law_418 ?_
  refine z_lawS C (c_low w μ mnz 20 (by decide)) qM_L_14 dL_law_420 rfl (fun rvmn μmn h => ?_)
  obtain ⟨⟨mn, rfl, hmn⟩, h⟩ := h
  rw [h]
  clear h mne
  refine z_iadd C dL_law_423 ?_
  refine z_istore C dL_law_424 ?_
  refine z_iload C dL_law_426 rfl ?_
  refine z_iload C dL_law_428 rfl ?_
  refine z_iadd C dL_law_430 ?_
  refine z_istore C dL_law_431 ?_
  refine z_aload_n C dL_law_433 rfl ?_
  refine z_iload C dL_law_434 rfl ?_
  have e2 := e_pass (mn := 1 + mn) hJ hT (by omega)
  refine z_lawV C (cM_v (c_pass w μ G T (q, clk, dm, ob, ru, rn, rs, nb, tr) (1 + mn) hR hJ.1 ⟨by omega, by omega⟩) e2) qM_L_84 dL_law_436 rfl (zRc_o (Rc_g0 hR)) (fun r2 μ2 h => ?_)
  obtain ⟨rfl, hR2, hF2⟩ := h
  have hJ2 := lJ_pass (mn := 1 + mn) hJ hT (by omega)
  refine z_iload C dL_law_439 rfl ?_
  refine z_icmp_ne (tgt := 448) C dL_law_441 (by decide) (by omega) (fun g4 => ?_) (fun g4 => ?_)
  · exact absurd rfl g4
  · refine z_iconst C dL_law_444 ?_
    refine z_goto (tgt := 449) C dL_law_445 (by decide) ?_
    refine z_istore C dL_law_449 ?_
    refine z_goto (tgt := 583) C dL_law_451 (by decide) ?_
    exact next _ _ _ _ _ _ _ _ (by exact ⟨rfl, rfl, rfl, rfl, rfl, rfl, rfl, rfl, rfl, trivial⟩) hR2 (aS_Fc hA hF2) hJ2 ht (by omega) (by omega)
theorem l_nb (C : Cx w x cL_law 14 RL rt room_1 nm) (hj : j < 2) (hR : Rc μ G (q, clk, dm, ob, ru, rn, rs, nb, tr)) (hA : aS μ G am ar m r) (hJ : lJ m r c T (q, clk, dm, ob, ru, rn, rs, nb, tr)) (hT : 0 ≤ T ∧ T < 70) (ht : t0 ≤ trL (q, clk, dm, ob, ru, rn, rs, nb, tr)) (hk : k + 100 ≤ 600130) (hn : n + 3100 ≤ 7301080) (next : hNx w x Q b G am ar T j t0 k n) : Z w x Q 14 461 (lcC b (G 0) am ar c T v wt j t0 ze) [] μ k n := by
  refine z_iload C dL_law_461 rfl ?_
  refine z_bipush C dL_law_463 ?_
  obtain ⟨otz, ote, -⟩ := J_shrA (J v) (J 6)
  refine z_ishr C otz ote dL_law_465 ?_
  refine z_iconst C dL_law_466 ?_
  refine z_lawS C (c_low w μ otz 4 (by decide)) qM_L_14 dL_law_467 rfl (fun rvot μot h => ?_)
  obtain ⟨⟨ot, rfl, hot⟩, h⟩ := h
  rw [h]
  clear h ote
  refine z_istore C dL_law_470 ?_
  refine z_iload C dL_law_472 rfl ?_
  refine z_iload C dL_law_474 rfl ?_
  refine z_icmp_eq (tgt := 516) C dL_law_476 (by decide) (by omega) (fun g => ?_) (fun g => ?_)
  · refine z_iconst C dL_law_516 ?_
    refine z_goto (tgt := 521) C dL_law_517 (by decide) ?_
    refine z_istore C dL_law_521 ?_
    refine z_goto (tgt := 583) C dL_law_523 (by decide) ?_
    exact next _ _ _ _ _ _ _ _ (by exact ⟨rfl, rfl, rfl, rfl, rfl, rfl, rfl, rfl, rfl, trivial⟩) hR hA (lJ_up hJ ⟨by omega, by omega⟩) ht (by omega) (by omega)
  · refine z_aload_n C dL_law_479 rfl ?_
    refine z_iload C dL_law_480 rfl ?_
    refine z_iload C dL_law_482 rfl ?_
    refine z_bipush C dL_law_484 ?_
    obtain ⟨ptz, pte, -⟩ := J_shrA (J v) (J 8)
    refine z_ishr C ptz pte dL_law_486 ?_
    refine z_iconst C dL_law_487 ?_
    refine z_lawS C (c_low w μ ptz 4 (by decide)) qM_L_14 dL_law_488 rfl (fun rvpt μpt h => ?_)
    obtain ⟨⟨pt, rfl, hpt⟩, h⟩ := h
    rw [h]
    clear h pte
    refine z_iload C dL_law_491 rfl ?_
    refine z_bipush C dL_law_493 ?_
    obtain ⟨zzz, zze, -⟩ := J_shrA (J v) (J 10)
    refine z_ishr C zzz zze dL_law_495 ?_
    refine z_iconst C dL_law_496 ?_
    refine z_lawS C (c_low w μ zzz 4 (by decide)) qM_L_14 dL_law_497 rfl (fun rvzz μzz h => ?_)
    obtain ⟨⟨zz, rfl, hzz⟩, h⟩ := h
    rw [h]
    clear h zze
    have fin : ∀ (o : Int) (ls : List (Nat × Value)), (-1 ≤ o ∧ o ≤ 3) → (j : Int) ≠ o → zsub ls (lcC b (G 0) am ar c T v wt j t0 ze) → Z w x Q 14 509 ls [.int (J o), .int (J pt), .int (J (j : Int)), .ref (G 0)] μ k n := by
      intro o ls ho hjo hls
      refine z_ls _ hls ?_
      have hnb := (hJ.1.2.2.2.1 j (by omega)).2.2.2.2.2.2.1 pt
      refine z_lawV C (cM_v (c_setNeighbour w μ G T (q, clk, dm, ob, ru, rn, rs, nb, tr) (j : Int) pt o hR hJ.1 ⟨by omega, by omega⟩ ⟨by omega, by omega⟩ ⟨by omega, by omega⟩) (e_nb (by omega) (by omega) ho hjo)) qM_L_87 dL_law_509 rfl (zRc_o (Rc_g0 hR)) (fun r2 μ2 h => ?_)
      obtain ⟨rfl, hR2, hF2⟩ := h
      have hJ2 := lJ_nb (p := pt) (o := o) hJ hj (by omega) ho hjo
      refine z_iconst C dL_law_512 ?_
      refine z_icmp_lt (tgt := 520) C dL_law_513 (by decide) (by omega) (fun g4 => ?_) (fun g4 => ?_)
      · omega
      · refine z_iconst C dL_law_516 ?_
        refine z_goto (tgt := 521) C dL_law_517 (by decide) ?_
        refine z_istore C dL_law_521 ?_
        refine z_goto (tgt := 583) C dL_law_523 (by decide) ?_
        exact next _ _ _ _ _ _ _ _ (by exact ⟨rfl, rfl, rfl, rfl, rfl, rfl, rfl, rfl, rfl, trivial⟩) hR2 (aS_Fc hA hF2) (lJ_up hJ2 ⟨by omega, by omega⟩) ht (by omega) (by omega)
    refine z_if_ne (tgt := 507) C dL_law_500 (by decide) (by omega) (fun g2 => ?_) (fun g2 => ?_)
    · refine z_iload C dL_law_507 rfl ?_
      exact fin ot _ (by omega) (by omega) (by exact ⟨rfl, rfl, rfl, rfl, rfl, rfl, rfl, rfl, rfl, rfl, rfl, rfl, trivial⟩)
    · refine z_iconst C dL_law_503 ?_
      refine z_goto (tgt := 509) C dL_law_504 (by decide) ?_
      exact fin (-1) _ (by omega) (by omega) (by exact ⟨rfl, rfl, rfl, rfl, rfl, rfl, rfl, rfl, rfl, rfl, rfl, rfl, trivial⟩)
theorem l_change (C : Cx w x cL_law 14 RL rt room_1 nm) (hj : j < 2) (hR : Rc μ G (q, clk, dm, ob, ru, rn, rs, nb, tr)) (hA : aS μ G am ar m r) (hJ : lJ m r c T (q, clk, dm, ob, ru, rn, rs, nb, tr)) (hT : 0 ≤ T ∧ T < 70) (ht : t0 = trL (q, clk, dm, ob, ru, rn, rs, nb, tr)) (hk : k + 100 ≤ 600130) (hn : n + 3100 ≤ 7301080) (next : hNx w x Q b G am ar T j t0 k n) : Z w x Q 14 526 (lcC b (G 0) am ar c T v wt j t0 ze) [] μ k n := by
  obtain ⟨V, e1, hV, hV2⟩ := e_get hJ.1 (show j < 4 by omega)
  have htr : 0 ≤ trL (q, clk, dm, ob, ru, rn, rs, nb, tr) ∧ trL (q, clk, dm, ob, ru, rn, rs, nb, tr) ≤ 512 := by
    have h1 : (tr.length : Int) ≤ T := hJ.1.2.2.2.2.1
    have h2 : trL (q, clk, dm, ob, ru, rn, rs, nb, tr) = (tr.length : Int) := rfl
    omega
  refine z_aload_n C dL_law_526 rfl ?_
  refine z_iload C dL_law_527 rfl ?_
  refine z_lawV C (cM_v (c_get2 w μ G T (q, clk, dm, ob, ru, rn, rs, nb, tr) (j : Int) hR hJ.1 ⟨by omega, by omega⟩) e1) qM_L_40 dL_law_529 rfl (zRc_o (Rc_g0 hR)) (fun r1 μ1 h => ?_)
  obtain ⟨rfl, hR1, hF1⟩ := h
  have hA1 := aS_Fc hA hF1
  refine z_if_lt (tgt := 583) C dL_law_532 (by decide) (by omega) (fun g => ?_) (fun g => ?_)
  · exact next _ _ _ _ _ _ _ _ (by exact ⟨rfl, rfl, rfl, rfl, rfl, rfl, rfl, rfl, rfl, trivial⟩) hR1 hA1 (lJ_up hJ ⟨by omega, by omega⟩) (by omega) (by omega) (by omega)
  · obtain ⟨hq, hh, hVq⟩ := hV2 (by omega)
    refine z_aload_n C dL_law_535 rfl ?_
    refine z_iload C dL_law_536 rfl ?_
    refine z_iload C dL_law_538 rfl ?_
    refine z_bipush C dL_law_540 ?_
    obtain ⟨aaz, aae, -⟩ := J_shrA (J v) (J 6)
    refine z_ishr C aaz aae dL_law_542 ?_
    refine z_sipush C dL_law_543 ?_
    refine z_lawS C (c_low w μ1 aaz 1000 (by decide)) qM_L_14 dL_law_546 rfl (fun rvaa μaa h => ?_)
    obtain ⟨⟨aa, rfl, haa⟩, h⟩ := h
    rw [h]
    clear h aae
    have hU := chV_in (a := aa) hJ.1 (show j < 4 by omega) (by omega) hq
    refine z_lawV C (cM_v (c_change w μ1 G T (q, clk, dm, ob, ru, rn, rs, nb, tr) (j : Int) aa hR1 hJ.1 ⟨by omega, by omega⟩ ⟨by omega, by omega⟩) (e_change (by omega) (by omega) hq)) qM_L_90 dL_law_549 rfl (zRc_o (Rc_g0 hR1)) (fun r2 μ2 h => ?_)
    obtain ⟨rfl, hR2, hF2⟩ := h
    obtain ⟨hJ2, ht1, ht2⟩ := lJ_change (a := aa) hJ hj ⟨by omega, by omega⟩ (by omega) hq
    have hA2 := aS_Fc hA1 hF2
    obtain ⟨U, hU9⟩ : ∃ U, U = chV (ob j q) aa := ⟨_, rfl⟩
    rw [← hU9] at hU ⊢
    refine z_istore C dL_law_552 ?_
    refine z_aload_n C dL_law_554 rfl ?_
    refine z_iload C dL_law_555 rfl ?_
    have e3 : spGet (j : Int) (chS j aa (q, clk, dm, ob, ru, rn, rs, nb, tr)) = (0, U, chS j aa (q, clk, dm, ob, ru, rn, rs, nb, tr)) := e_got (by omega) hq hh (by rw [uO_s]; exact hU9)
    refine z_lawV C (cM_v (c_get2 w μ2 G (T + 1) _ (j : Int) hR2 hJ2.1 ⟨by omega, by omega⟩) e3) qM_L_40 dL_law_557 rfl (zRc_o (Rc_g0 hR2)) (fun r3 μ3 h => ?_)
    obtain ⟨rfl, hR3, hF3⟩ := h
    refine z_iload C dL_law_560 rfl ?_
    refine z_icmp_ne (tgt := 580) C dL_law_562 (by decide) (by omega) (fun g4 => ?_) (fun g4 => ?_)
    · exact absurd rfl g4
    · refine z_aload_n C dL_law_565 rfl ?_
      have e4 : spTraps (chS j aa (q, clk, dm, ob, ru, rn, rs, nb, tr)) = (0, trL (chS j aa (q, clk, dm, ob, ru, rn, rs, nb, tr)), chS j aa (q, clk, dm, ob, ru, rn, rs, nb, tr)) := rfl
      refine z_lawV C (cM_v0 (c_traps w μ3 G (T + 1) _ hR3 hJ2.1) e4) qM_L_57 dL_law_566 rfl (zRc_o (Rc_g0 hR3)) (fun r4 μ4 h => ?_)
      obtain ⟨rfl, hR4, hF4⟩ := h
      refine z_iload C dL_law_569 rfl ?_
      refine z_iconst C dL_law_571 ?_
      refine z_iadd C dL_law_572 ?_
      refine z_icmp_gt (tgt := 580) C dL_law_573 (by decide) (by omega) (fun g5 => ?_) (fun g5 => ?_)
      · omega
      · refine z_iconst C dL_law_576 ?_
        refine z_goto (tgt := 581) C dL_law_577 (by decide) ?_
        refine z_istore C dL_law_581 ?_
        exact next _ _ _ _ _ _ _ _ (by exact ⟨rfl, rfl, rfl, rfl, rfl, rfl, rfl, rfl, rfl, trivial⟩) hR4 (aS_Fc (aS_Fc hA2 hF3) hF4) hJ2 (by omega) (by omega) (by omega)
end CASES
