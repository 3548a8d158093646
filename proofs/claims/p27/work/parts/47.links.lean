/-! LINKS: the same both ways -/
theorem c_areLinks (w : Wd) (μ : Mem) (G : Nat → Nat) (N q clk : Int) (dm : Nat → List Int) (ob : Nat → Int → Ob) (ru : Nat → Int → Int) (rn rs : Nat → Int) (nb : Nat → Int → Int) (tr : List Trp) (hR : Rc μ G (q, clk, dm, ob, ru, rn, rs, nb, tr)) (hO : okS N (q, clk, dm, ob, ru, rn, rs, nb, tr)) : cM w yL_areLinks cL_areLinks 5 (some .boolean) 11 60 600 [.ref (G 0)] μ (fun v μ' => v = some (.int (J 1)) ∧ Rc μ' G (q, clk, dm, ob, ru, rn, rs, nb, tr) ∧ Fc μ μ' G) (fun _ _ => False) := by
  obtain ⟨P, hP⟩ : ∃ P : Option Value → Mem → Prop, P = fun v μ' => v = some (.int (J 1)) ∧ Rc μ' G (q, clk, dm, ob, ru, rn, rs, nb, tr) ∧ Fc μ μ' G := ⟨_, rfl⟩
  rw [← hP]
  obtain ⟨ln, hln⟩ : ∃ ln, ln = nmS nb := ⟨_, rfl⟩
  have hno : ∀ i, i < 4 → ln i i = false := fun i hi => by
    rw [hln]
    exact nbF_no 4 0 (fun t h1 h2 => (hO.2.2.2.1 i hi).2.2.2.2.2.2.2 t h1 (by omega))
  obtain ⟨V, hV⟩ : ∃ V, V = hf ln 0 1 + hf ln 0 2 + hf ln 0 3 + hf ln 1 2 + hf ln 1 3 + hf ln 2 3 := ⟨_, rfl⟩
  have hV6 : 0 ≤ V ∧ V ≤ 6 := by
    have a1 := hf_in ln 0 1
    have a2 := hf_in ln 0 2
    have a3 := hf_in ln 0 3
    have a4 := hf_in ln 1 2
    have a5 := hf_in ln 1 3
    have a6 := hf_in ln 2 3
    omega
  have e0 : spHalves (q, clk, dm, ob, ru, rn, rs, nb, tr) = (0, V, q, clk, dm, ob, ru, rn, rs, nb, tr) := by rw [hV, hln]; rfl
  refine cM_of (fun x C => ?_)
  refine z_aload_n C dL_areLinks_0 rfl ?_
  refine z_hV C (cM_v0 (c_halves w μ G N (q, clk, dm, ob, ru, rn, rs, nb, tr) hR hO) e0) qM_L_46 dL_areLinks_1 rfl (zRc_o (Rc_g0 hR)) (fun r1 μ1 h => ?_)
  obtain ⟨rfl, hR1, hF1⟩ := h
  refine z_if_lt (tgt := 20) C dL_areLinks_4 (by decide) (by omega) (fun h => ?_) (fun h => ?_)
  · omega
  · refine z_aload_n C dL_areLinks_7 rfl ?_
    refine z_hV C (cM_v0 (c_halves w μ1 G N (q, clk, dm, ob, ru, rn, rs, nb, tr) hR1 hO) e0) qM_L_46 dL_areLinks_8 rfl (zRc_o (Rc_g0 hR1)) (fun r2 μ2 h => ?_)
    obtain ⟨rfl, hR2, hF2⟩ := h
    refine z_bipush C dL_areLinks_11 ?_
    refine z_icmp_gt (tgt := 20) C dL_areLinks_13 (by decide) (by omega) (fun h => ?_) (fun h => ?_)
    · omega
    · refine z_iconst C dL_areLinks_16 ?_
      refine z_goto (tgt := 21) C dL_areLinks_17 (by decide) ?_
      refine z_istore_n C dL_areLinks_21 ?_
      refine z_iconst C dL_areLinks_22 ?_
      refine z_istore_n C dL_areLinks_23 ?_
      have er : ∀ i : Nat, i < 4 → spReach (i : Int) (q, clk, dm, ob, ru, rn, rs, nb, tr) = (0, rch ln i, q, clk, dm, ob, ru, rn, rs, nb, tr) := fun i hi => by
        rw [spReach, if_neg (by omega), hln]
        rfl
      have loop : ∀ (f i : Nat) (μ' : Mem), i + f = 4 → Rc μ' G (q, clk, dm, ob, ru, rn, rs, nb, tr) → Fc μ μ' G → Z w x (zQ w x P (fun _ _ => False) 60 600) 5 24 [(0, .ref (G 0)), (1, .int (J 1)), (2, .int (J (i : Int)))] [] μ' (10 * i) (100 * i) := by
        intro f
        induction f with
        | zero =>
          intro i μ' hi hR' hF'
          refine z_iload_n C dL_areLinks_24 rfl ?_
          refine z_iconst C dL_areLinks_25 ?_
          refine z_icmp_ge (tgt := 104) C dL_areLinks_26 (by decide) (by omega) (fun h => ?_) (fun h => ?_)
          · refine z_iload_n C dL_areLinks_104 rfl ?_
            refine z_zret C (v := 1) dL_areLinks_105 (Or.inr rfl) ?_
            rw [hP]
            exact ⟨rfl, hR', hF'⟩
          · omega
        | succ f ih =>
          intro i μ' hi hR' hF'
          have hi4 : i < 4 := by omega
          obtain ⟨r1, r2, r3⟩ := rch_of hno hi4
          obtain ⟨B, hB⟩ : ∃ B, B = rch ln i := ⟨_, rfl⟩
          rw [← hB] at r1 r2 r3
          refine z_iload_n C dL_areLinks_24 rfl ?_
          refine z_iconst C dL_areLinks_25 ?_
          refine z_icmp_ge (tgt := 104) C dL_areLinks_26 (by decide) (by omega) (fun h => ?_) (fun h => ?_)
          · omega
          · refine z_iload_n C dL_areLinks_29 rfl ?_
            refine z_if_eq (tgt := 104) C dL_areLinks_30 (by decide) (by omega) (fun h1 => ?_) (fun h1 => ?_)
            · omega
            · refine z_aload_n C dL_areLinks_33 rfl ?_
              refine z_iload_n C dL_areLinks_34 rfl ?_
              refine z_hV C (cM_v (c_reach w μ' G N (q, clk, dm, ob, ru, rn, rs, nb, tr) (i : Int) hR' hO ⟨by omega, by omega⟩) (er i hi4)) qM_L_49 dL_areLinks_35 rfl (zRc_o (Rc_g0 hR')) (fun r1 μ3 h => ?_)
              obtain ⟨rfl, hR3, hF3⟩ := h
              rw [← hB]
              refine z_istore_n C dL_areLinks_38 ?_
              refine z_iload_n C dL_areLinks_39 rfl ?_
              refine z_iload_n C dL_areLinks_40 rfl ?_
              refine z_ishr C (B / ((2 ^ i : Nat) : Int)) (J_ishr i (by omega) (by omega) (by omega)) dL_areLinks_41 ?_
              refine z_iconst C dL_areLinks_42 ?_
              refine z_iand C (B / ((2 ^ i : Nat) : Int) % 2) (J_and _ 1 (by decide) (by decide)) dL_areLinks_43 ?_
              rw [r1]
              refine z_iconst C dL_areLinks_44 ?_
              refine z_icmp_ne (tgt := 52) C dL_areLinks_45 (by decide) (by omega) (fun h2 => ?_) (fun h2 => ?_)
              · exact absurd rfl h2
              · refine z_iconst C dL_areLinks_48 ?_
                refine z_goto (tgt := 53) C dL_areLinks_49 (by decide) ?_
                refine z_istore_n C dL_areLinks_53 ?_
                refine z_iconst C dL_areLinks_54 ?_
                refine z_istore C dL_areLinks_55 ?_
                have inner : ∀ (f2 b : Nat) (μ4 : Mem), b + f2 = 4 → Rc μ4 G (q, clk, dm, ob, ru, rn, rs, nb, tr) → Fc μ μ4 G → Z w x (zQ w x P (fun _ _ => False) 60 600) 5 57 [(0, .ref (G 0)), (1, .int (J 1)), (2, .int (J (i : Int))), (3, .int (J B)), (4, .int (J (b : Int)))] [] μ4 (10 * i + 2 + 2 * b) (100 * i + 20 + 20 * b) := by
                  intro f2
                  induction f2 with
                  | zero =>
                    intro b μ4 hb hR4 hF4
                    refine z_iload C dL_areLinks_57 rfl ?_
                    refine z_iconst C dL_areLinks_59 ?_
                    refine z_icmp_ge (tgt := 98) C dL_areLinks_60 (by decide) (by omega) (fun h => ?_) (fun h => ?_)
                    · refine z_iinc C dL_areLinks_98 rfl ?_
                      refine z_goto (tgt := 24) C dL_areLinks_101 (by decide) ?_
                      have K := ih (i + 1) μ4 (by omega) hR4 hF4
                      rw [show ((i + 1 : Nat) : Int) = (i : Int) + 1 from by omega] at K
                      exact z_ls _ (by exact ⟨rfl, rfl, rfl, trivial⟩) (z_widen (by omega) (by omega) K)
                    · omega
                  | succ f2 ih2 =>
                    intro b μ4 hb hR4 hF4
                    have hb4 : b < 4 := by omega
                    have next : ∀ (μ5 : Mem) (k n : Nat), Rc μ5 G (q, clk, dm, ob, ru, rn, rs, nb, tr) → Fc μ μ5 G → k ≤ 10 * i + 2 + 2 * b + 2 → n ≤ 100 * i + 20 + 20 * b + 20 → Z w x (zQ w x P (fun _ _ => False) 60 600) 5 86 [(0, .ref (G 0)), (1, .int (J 1)), (2, .int (J (i : Int))), (3, .int (J B)), (4, .int (J (b : Int)))] [] μ5 k n := by
                      intro μ5 k n hR5 hF5 hk hn
                      refine z_iconst C dL_areLinks_86 ?_
                      refine z_goto (tgt := 91) C dL_areLinks_87 (by decide) ?_
                      refine z_istore_n C dL_areLinks_91 ?_
                      refine z_iinc C dL_areLinks_92 rfl ?_
                      refine z_goto (tgt := 57) C dL_areLinks_95 (by decide) ?_
                      have K := ih2 (b + 1) μ5 (by omega) hR5 hF5
                      rw [show ((b + 1 : Nat) : Int) = (b : Int) + 1 from by omega] at K
                      exact z_ls _ (by exact ⟨rfl, rfl, rfl, rfl, rfl, trivial⟩) (z_widen (by omega) (by omega) K)
                    refine z_iload C dL_areLinks_57 rfl ?_
                    refine z_iconst C dL_areLinks_59 ?_
                    refine z_icmp_ge (tgt := 98) C dL_areLinks_60 (by decide) (by omega) (fun h => ?_) (fun h => ?_)
                    · omega
                    · refine z_iload_n C dL_areLinks_63 rfl ?_
                      refine z_if_eq (tgt := 98) C dL_areLinks_64 (by decide) (by omega) (fun h1 => ?_) (fun h1 => ?_)
                      · omega
                      · refine z_iload_n C dL_areLinks_67 rfl ?_
                        refine z_iload C dL_areLinks_68 rfl ?_
                        refine z_ishr C (B / ((2 ^ b : Nat) : Int)) (J_ishr b (by omega) (by omega) (by omega)) dL_areLinks_70 ?_
                        refine z_iconst C dL_areLinks_71 ?_
                        refine z_iand C (B / ((2 ^ b : Nat) : Int) % 2) (J_and _ 1 (by decide) (by decide)) dL_areLinks_72 ?_
                        have r3b := r3 b hb4
                        obtain ⟨t, ht⟩ : ∃ t, t = B / ((2 ^ b : Nat) : Int) % 2 := ⟨_, rfl⟩
                        rw [← ht] at r3b ⊢
                        have ht2 : 0 ≤ t ∧ t < 2 := by
                          rw [ht]
                          exact ⟨Int.emod_nonneg _ (by decide), Int.emod_lt_of_pos _ (by decide)⟩
                        clear ht
                        refine z_if_eq (tgt := 86) C dL_areLinks_73 (by decide) (by omega) (fun h2 => ?_) (fun h2 => ?_)
                        · exact next _ _ _ hR4 hF4 (by omega) (by omega)
                        · have eB : rch ln b = B := by
                            rcases r3b with e | e
                            · exact absurd e h2
                            · exact e
                          refine z_aload_n C dL_areLinks_76 rfl ?_
                          refine z_iload C dL_areLinks_77 rfl ?_
                          refine z_hV C (cM_v (c_reach w μ4 G N (q, clk, dm, ob, ru, rn, rs, nb, tr) (b : Int) hR4 hO ⟨by omega, by omega⟩) (er b hb4)) qM_L_49 dL_areLinks_79 rfl (zRc_o (Rc_g0 hR4)) (fun r1 μ5 h => ?_)
                          obtain ⟨rfl, hR5, hF5⟩ := h
                          rw [eB]
                          refine z_iload_n C dL_areLinks_82 rfl ?_
                          refine z_icmp_ne (tgt := 90) C dL_areLinks_83 (by decide) (by omega) (fun h3 => ?_) (fun h3 => ?_)
                          · exact absurd rfl h3
                          · exact next _ _ _ hR5 (Fc_tr hF4 hF5) (by omega) (by omega)
                exact z_ls _ (by exact ⟨rfl, rfl, rfl, rfl, rfl, trivial⟩) (z_widen (by omega) (by omega) (inner 4 0 μ3 rfl hR3 (Fc_tr hF' hF3)))
      exact z_ls _ (by exact ⟨rfl, rfl, rfl, trivial⟩) (z_widen (by omega) (by omega) (loop 4 0 μ2 rfl hR2 (Fc_tr hF1 hF2)))
