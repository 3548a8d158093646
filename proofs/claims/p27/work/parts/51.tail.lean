/-! BEHIND A CASE: traps, the walk, the links -/
abbrev lcL (b g am ar : Nat) (c T : Int) : List (Nat × Value) := [(0, .ref b), (1, .ref g), (2, .ref am), (3, .ref ar), (4, .int (J c)), (5, .int (J T))]
section TAIL
variable {w : Wd} {x : Zc} {rt : Option FieldType} {nm : String} {Q : State → Prop} {b : Nat} {G : Nat → Nat} {am ar : Nat} {m r : Int → Int} {c T t0 : Int} {k n j : Nat} {μ : Mem} {q clk : Int} {dm : Nat → List Int} {ob : Nat → Int → Ob} {ru : Nat → Int → Int} {rn rs : Nat → Int} {nb : Nat → Int → Int} {tr : List Trp}
theorem l_tail (C : Cx w x cL_law 14 RL rt room_1 nm) (hj : j < 2) (hR : Rc μ G (q, clk, dm, ob, ru, rn, rs, nb, tr)) (hA : aS μ G am ar m r) (hJ : lJ m r c (T + 1) (q, clk, dm, ob, ru, rn, rs, nb, tr)) (hT : 0 ≤ T ∧ T < 70) (ht0 : 0 ≤ t0 ∧ t0 ≤ 512) (ht : t0 ≤ trL (q, clk, dm, ob, ru, rn, rs, nb, tr)) (hk : k + 970 ≤ 600130) (hn : n + 24700 ≤ 7301080) (next : ∀ (μ' : Mem) (q' : Int), Rc μ' G (q', clk, dm, ob, ru, rn, rs, nb, tr) → aS μ' G am ar m r → lJ m r c (T + 1) (q', clk, dm, ob, ru, rn, rs, nb, tr) → Z w x Q 14 22 (lcL b (G 0) am ar c (T + 1)) [] μ' (k + 970) (n + 24700)) : Z w x Q 14 583 (lcN b (G 0) am ar c T j t0) [] μ k n := by
  obtain ⟨hO, hc, hM, hP, hTr⟩ := id hJ
  have hci := hO.2.2.1
  have htl : (tr.length : Int) ≤ T + 1 := hO.2.2.2.2.1
  have hto := hO.2.2.2.2.2
  have ht : t0 ≤ (tr.length : Int) := ht
  have e0 : spTraps (q, clk, dm, ob, ru, rn, rs, nb, tr) = (0, (tr.length : Int), q, clk, dm, ob, ru, rn, rs, nb, tr) := rfl
  have join : ∀ (μ' : Mem) (ls : List (Nat × Value)) (k' n' : Nat), zsub ls (lcN b (G 0) am ar c T j t0) → Rc μ' G (q, clk, dm, ob, ru, rn, rs, nb, tr) → aS μ' G am ar m r → k' ≤ k + 4 → n' ≤ n + 40 → Z w x Q 14 633 ls [] μ' k' n' := by
    intro μ' ls k' n' hls hR' hA' hk' hn'
    refine z_ls _ hls ?_
    refine z_iconst C dL_law_633 ?_
    refine z_goto (tgt := 638) C dL_law_634 (by decide) ?_
    refine z_istore C dL_law_638 ?_
    refine z_iload C dL_law_640 rfl ?_
    refine z_if_eq (tgt := 661) C dL_law_642 (by decide) (by omega) (fun g1 => ?_) (fun g1 => ?_)
    · omega
    · refine z_aload_n C dL_law_645 rfl ?_
      refine z_iload C dL_law_646 rfl ?_
      refine z_lawS C (c_isWalk w μ' G (T + 1) q clk dm ob ru rn rs nb tr j (by omega) hR' hO (hP j (by omega))) qM_L_99 dL_law_648 rfl (fun r1 μ1 h => ?_)
      obtain ⟨rfl, ⟨q1, hq1, hR1⟩, hF1⟩ := h
      have hJ1 := lJ_q hJ hq1
      refine z_if_eq (tgt := 661) C dL_law_651 (by decide) (by omega) (fun g2 => ?_) (fun g2 => ?_)
      · omega
      · refine z_aload_n C dL_law_654 rfl ?_
        refine z_lawS C (c_areLinks w μ1 G (T + 1) q1 clk dm ob ru rn rs nb tr hR1 hJ1.1) qM_L_103 dL_law_655 rfl (fun r2 μ2 h => ?_)
        obtain ⟨rfl, hR2, hF2⟩ := h
        refine z_if_ne (tgt := 663) C dL_law_658 (by decide) (by omega) (fun g3 => ?_) (fun g3 => ?_)
        · refine z_iinc C dL_law_663 rfl ?_
          refine z_goto (tgt := 22) C dL_law_666 (by decide) ?_
          exact z_ls _ (by exact ⟨rfl, rfl, rfl, rfl, rfl, rfl, trivial⟩) (z_widen (by omega) (by omega) (next μ2 q1 hR2 (aS_Fc (aS_Fc hA' hF1) hF2) hJ1))
        · omega
  refine z_iload C dL_law_583 rfl ?_
  refine z_if_eq (tgt := 637) C dL_law_585 (by decide) (by omega) (fun g1 => ?_) (fun g1 => ?_)
  · omega
  · refine z_aload_n C dL_law_588 rfl ?_
    refine z_lawV C (cM_v0 (c_traps w μ G (T + 1) _ hR hO) e0) qM_L_57 dL_law_589 rfl (zRc_o (Rc_g0 hR)) (fun r1 μ1 h => ?_)
    obtain ⟨rfl, hR1, hF1⟩ := h
    have hA1 := aS_Fc hA hF1
    refine z_iload C dL_law_592 rfl ?_
    refine z_icmp_lt (tgt := 637) C dL_law_594 (by decide) (by omega) (fun g2 => ?_) (fun g2 => ?_)
    · omega
    · refine z_aload_n C dL_law_597 rfl ?_
      refine z_lawV C (cM_v0 (c_traps w μ1 G (T + 1) _ hR1 hO) e0) qM_L_57 dL_law_598 rfl (zRc_o (Rc_g0 hR1)) (fun r2 μ2 h => ?_)
      obtain ⟨rfl, hR2, hF2⟩ := h
      have hA2 := aS_Fc hA1 hF2
      refine z_if_eq (tgt := 633) C dL_law_601 (by decide) (by omega) (fun g3 => ?_) (fun g3 => ?_)
      · exact join _ _ _ _ (by exact ⟨rfl, rfl, rfl, rfl, rfl, rfl, rfl, rfl, rfl, trivial⟩) hR2 hA2 (by omega) (by omega)
      · refine z_aload_n C dL_law_604 rfl ?_
        refine z_aload_n C dL_law_605 rfl ?_
        refine z_lawV C (cM_v0 (c_traps w μ2 G (T + 1) _ hR2 hO) e0) qM_L_57 dL_law_606 rfl (zRc_o (Rc_g0 hR2)) (fun r3 μ3 h => ?_)
        obtain ⟨rfl, hR3, hF3⟩ := h
        have hA3 := aS_Fc hA2 hF3
        refine z_iconst C dL_law_609 ?_
        refine z_isub C dL_law_610 ?_
        obtain ⟨x1, hx1, e1⟩ := e_told (q := q) (clk := clk) (dm := dm) (ob := ob) (ru := ru) (rn := rn) (rs := rs) (nb := nb) (tr := tr) (f := fun x => x.2.2.1) (by omega)
        have hx1o := (hto x1 hx1).2.2.1
        refine z_lawV C (cM_v (c_trapAt w μ3 G (T + 1) _ ((tr.length : Int) - 1) hR3 hO ⟨by omega, by omega⟩) e1) qM_L_93 dL_law_611 rfl (zRc_o (Rc_g0 hR3)) (fun r4 μ4 h => ?_)
        obtain ⟨rfl, hR4, hF4⟩ := h
        have hA4 := aS_Fc hA3 hF4
        refine z_iload C dL_law_614 rfl ?_
        refine z_icmp_gt (tgt := 637) C dL_law_616 (by decide) (by omega) (fun g4 => ?_) (fun g4 => ?_)
        · omega
        · refine z_aload_n C dL_law_619 rfl ?_
          refine z_aload_n C dL_law_620 rfl ?_
          refine z_lawV C (cM_v0 (c_traps w μ4 G (T + 1) _ hR4 hO) e0) qM_L_57 dL_law_621 rfl (zRc_o (Rc_g0 hR4)) (fun r5 μ5 h => ?_)
          obtain ⟨rfl, hR5, hF5⟩ := h
          have hA5 := aS_Fc hA4 hF5
          refine z_iconst C dL_law_624 ?_
          refine z_isub C dL_law_625 ?_
          obtain ⟨x2, hx2, e2⟩ := e_told (q := q) (clk := clk) (dm := dm) (ob := ob) (ru := ru) (rn := rn) (rs := rs) (nb := nb) (tr := tr) (f := fun x => x.1) (by omega)
          have hx2o : 0 ≤ x2.1 ∧ x2.1 ≤ 3 := (hto x2 hx2).1
          have hx2t := hTr x2 hx2
          refine z_lawV C (cM_v (c_trapOf w μ5 G (T + 1) _ ((tr.length : Int) - 1) hR5 hO ⟨by omega, by omega⟩) e2) qM_L_96 dL_law_626 rfl (zRc_o (Rc_g0 hR5)) (fun r6 μ6 h => ?_)
          obtain ⟨rfl, hR6, hF6⟩ := h
          have hA6 := aS_Fc hA5 hF6
          refine z_iconst C dL_law_629 ?_
          refine z_icmp_gt (tgt := 637) C dL_law_630 (by decide) (by omega) (fun g5 => ?_) (fun g5 => ?_)
          · omega
          · exact join _ _ _ _ (by exact ⟨rfl, rfl, rfl, rfl, rfl, rfl, rfl, rfl, rfl, trivial⟩) hR6 hA6 (by omega) (by omega)
end TAIL
