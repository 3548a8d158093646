/-! THE LAW'S LOOP -/
section LOOP
variable {w : Wd} {x : Zc} {rt : Option FieldType} {nm : String} {Q : State → Prop} {b L : Nat} {xs : Nat → Int32} {G : Nat → Nat} {am ar : Nat} {m r : Int → Int} {c T : Int} {k n : Nat} {μ : Mem} {q clk : Int} {dm : Nat → List Int} {ob : Nat → Int → Ob} {ru : Nat → Int → Int} {rn rs : Nat → Int} {nb : Nat → Int → Int} {tr : List Trp}
/-- which case -/
theorem l_disp {v wt t0 ze : Int} {j : Nat} (C : Cx w x cL_law 14 RL rt room_1 nm) (hj : j < 2) (hR : Rc μ G (q, clk, dm, ob, ru, rn, rs, nb, tr)) (hA : aS μ G am ar m r) (hJ : lJ m r c T (q, clk, dm, ob, ru, rn, rs, nb, tr)) (hT : 0 ≤ T ∧ T < 70) (ht : t0 = trL (q, clk, dm, ob, ru, rn, rs, nb, tr)) (hw : 0 ≤ wt ∧ wt < 13) (hz1 : ze = 0 → q ≠ 0) (hz2 : ze = 0 ∨ ze = 1) (hk : k + 100 ≤ 600130) (hn : n + 3100 ≤ 7301080) (next : hNx w x Q b G am ar T j t0 k n) : Z w x Q 14 101 (lcC b (G 0) am ar c T v wt j t0 ze) [] μ k n := by
  have hle : t0 ≤ trL (q, clk, dm, ob, ru, rn, rs, nb, tr) := by omega
  refine z_iload C dL_law_101 rfl ?_
  refine z_iconst C dL_law_103 ?_
  refine z_icmp_ge (tgt := 179) C dL_law_104 (by decide) (by omega) (fun g1 => ?_) (fun g1 => ?_)
  · refine z_iload C dL_law_179 rfl ?_
    refine z_iconst C dL_law_181 ?_
    refine z_icmp_ne (tgt := 212) C dL_law_182 (by decide) (by omega) (fun g2 => ?_) (fun g2 => ?_)
    · refine z_iload C dL_law_212 rfl ?_
      refine z_bipush C dL_law_214 ?_
      refine z_icmp_ne (tgt := 294) C dL_law_216 (by decide) (by omega) (fun g3 => ?_) (fun g3 => ?_)
      · refine z_iload C dL_law_294 rfl ?_
        refine z_bipush C dL_law_296 ?_
        refine z_icmp_ge (tgt := 378) C dL_law_298 (by decide) (by omega) (fun g4 => ?_) (fun g4 => ?_)
        · refine z_iload C dL_law_378 rfl ?_
          refine z_bipush C dL_law_380 ?_
          refine z_icmp_ne (tgt := 405) C dL_law_382 (by decide) (by omega) (fun g5 => ?_) (fun g5 => ?_)
          · refine z_iload C dL_law_405 rfl ?_
            refine z_bipush C dL_law_407 ?_
            refine z_icmp_ne (tgt := 454) C dL_law_409 (by decide) (by omega) (fun g6 => ?_) (fun g6 => ?_)
            · refine z_iload C dL_law_454 rfl ?_
              refine z_bipush C dL_law_456 ?_
              refine z_icmp_ne (tgt := 526) C dL_law_458 (by decide) (by omega) (fun g7 => ?_) (fun g7 => ?_)
              · exact l_change C hj hR hA hJ hT ht hk hn next
              · exact l_nb C hj hR hA hJ hT hle hk hn next
            · exact l_pass C hj hR hA hJ hT hle hk hn next
          · exact l_restart C hj hR hA hJ hT hle hk hn next
        · exact l_marks C hj hR hA hJ hT hle hk hn next
      · exact l_hide C hj hR hA hJ hT hle hk hn next
    · exact l_rem C hj hR hA hJ hT hle hk hn next
  · exact l_put C hj hR hA hJ hT hle hz1 hz2 hk hn next
theorem l_turn (C : Cx w x cL_law 14 RL rt room_1 nm) (S : cS w x b L xs) (hR : Rc μ G (q, clk, dm, ob, ru, rn, rs, nb, tr)) (hAa : aS μ G am ar m r) (hJ : lJ m r c T (q, clk, dm, ob, ru, rn, rs, nb, tr)) (hT : 0 ≤ T ∧ T < 70) (hk : k + 1100 ≤ 600130) (hn : n + 28000 ≤ 7301080) (next : ∀ (μ' : Mem) (s' : Sg) (m' r' : Int → Int) (c' : Int), Rc μ' G s' → aS μ' G am ar m' r' → lJ m' r' c' (T + 1) s' → Z w x Q 14 22 (lcL b (G 0) am ar c' (T + 1)) [] μ' (k + 1100) (n + 28000)) : Z w x Q 14 22 (lcL b (G 0) am ar c T) [] μ k n := by
  have hO := hJ.1
  refine z_iload C dL_law_22 rfl ?_
  refine z_bipush C dL_law_24 ?_
  refine z_icmp_ge (tgt := 669) C dL_law_26 (by decide) (by omega) (fun g1 => ?_) (fun g1 => ?_)
  · omega
  · refine z_aload_n C dL_law_29 rfl ?_
    refine z_iconst C dL_law_30 ?_
    refine z_iload C dL_law_31 rfl ?_
    refine z_imul C dL_law_33 ?_
    refine z_lawX C S (c_cell w μ b L xs (2 * T) ⟨by omega, by omega⟩) qM_L_53 dL_law_34 rfl (fun rv μ1 h => ?_)
    obtain ⟨⟨v, rfl, hv⟩, h⟩ := h
    rw [h]
    clear h
    refine z_istore C dL_law_37 ?_
    refine z_aload_n C dL_law_39 rfl ?_
    refine z_iconst C dL_law_40 ?_
    refine z_iload C dL_law_41 rfl ?_
    refine z_imul C dL_law_43 ?_
    refine z_iconst C dL_law_44 ?_
    refine z_iadd C dL_law_45 ?_
    refine z_lawX C S (c_cell w μ b L xs (2 * T + 1) ⟨by omega, by omega⟩) qM_L_53 dL_law_46 rfl (fun rv μ2 h => ?_)
    obtain ⟨⟨v2, rfl, hv2⟩, h⟩ := h
    rw [h]
    clear h
    refine z_istore C dL_law_49 ?_
    refine z_iload C dL_law_51 rfl ?_
    refine z_bipush C dL_law_53 ?_
    refine z_lawS C (c_low w μ v 13 (by decide)) qM_L_14 dL_law_55 rfl (fun rv μ3 h => ?_)
    obtain ⟨⟨wt, rfl, hwt⟩, h⟩ := h
    rw [h]
    clear h
    refine z_istore C dL_law_58 ?_
    refine z_iload C dL_law_60 rfl ?_
    refine z_iconst C dL_law_62 ?_
    obtain ⟨aaz, aae, -⟩ := J_shrA (J v) (J 4)
    refine z_ishr C aaz aae dL_law_63 ?_
    refine z_iconst C dL_law_64 ?_
    refine z_lawS C (c_low w μ aaz 2 (by decide)) qM_L_14 dL_law_65 rfl (fun rvaa μaa h => ?_)
    obtain ⟨⟨aa, rfl, haa⟩, h⟩ := h
    rw [h]
    clear h aae
    obtain ⟨j, rfl⟩ : ∃ j : Nat, aa = (j : Int) := ⟨aa.toNat, by omega⟩
    have hj : j < 2 := by omega
    refine z_istore C dL_law_68 ?_
    refine z_iconst C dL_law_70 ?_
    refine z_istore C dL_law_71 ?_
    refine z_aload_n C dL_law_73 rfl ?_
    refine z_lawV C (cM_v0 (c_traps w μ G T _ hR hO) (show spTraps (q, clk, dm, ob, ru, rn, rs, nb, tr) = (0, (tr.length : Int), q, clk, dm, ob, ru, rn, rs, nb, tr) from rfl)) qM_L_57 dL_law_74 rfl (zRc_o (Rc_g0 hR)) (fun r1 μ4 h => ?_)
    obtain ⟨rfl, hR4, hF4⟩ := h
    have hA4 := aS_Fc hAa hF4
    refine z_istore C dL_law_77 ?_
    refine z_aload_n C dL_law_79 rfl ?_
    refine z_iload C dL_law_80 rfl ?_
    refine z_lawS C (c_writes w μ4 G T q _ v2 hR4 hO) qM_L_60 dL_law_82 rfl (fun r2 μ5 h => ?_)
    obtain ⟨rfl, ⟨q1, hq1, hR5⟩, hF5⟩ := h
    have hA5 := aS_Fc hA4 hF5
    have hJ5 := lJ_q hJ hq1
    refine z_aload_n C dL_law_85 rfl ?_
    refine z_iconst C dL_law_86 ?_
    have e1 : spNum 0 (q1, clk, dm, ob, ru, rn, rs, nb, tr) = (0, hA q1 0 - 1, q1, clk, dm, ob, ru, rn, rs, nb, tr) := by rw [spNum, if_pos (by decide)]
    have hh : 0 ≤ hA q1 0 ∧ hA q1 0 ≤ 10 := ⟨by unfold hA; omega, hq1.2.1.1⟩
    refine z_lawV C (cM_v (c_numberAt w μ5 G T (q1, clk, dm, ob, ru, rn, rs, nb, tr) 0 hR5 hJ5.1 ⟨by omega, by omega⟩) e1) qM_L_24 dL_law_87 rfl (zRc_o (Rc_g0 hR5)) (fun r3 μ6 h => ?_)
    obtain ⟨rfl, hR6, hF6⟩ := h
    have hA6 := aS_Fc hA5 hF6
    have htl : (tr.length : Int) ≤ T := hO.2.2.2.2.1
    have nx : hNx w x Q b G am ar T j (tr.length : Int) (k + 12) (n + 120) := by
      intro μ' s' m' r' c' ls k' n' hls hR' hA' hJ' ht' hk' hn'
      obtain ⟨q', clk, dm, ob, ru, rn, rs, nb, tr⟩ := s'
      refine z_ls _ hls (z_widen hk' hn' (l_tail C hj hR' hA' hJ' hT (by omega) ht' (by omega) (by omega) (fun μ9 q9 hR9 hA9 hJ9 => ?_)))
      exact z_widen (by omega) (by omega) (next μ9 _ m' r' c' hR9 hA9 hJ9)
    have disp : ∀ (ze : Int) (ls : List (Nat × Value)) (k' n' : Nat), (ze = 0 → q1 ≠ 0) → (ze = 0 ∨ ze = 1) → zsub ls (lcC b (G 0) am ar c T v wt j (tr.length : Int) ze) → k' ≤ k + 12 → n' ≤ n + 120 → Z w x Q 14 101 ls [] μ6 k' n' := by
      intro ze ls k' n' hz1 hz2 hls hk' hn'
      exact z_ls _ hls (z_widen hk' hn' (l_disp C hj hR6 hA6 hJ5 hT rfl hwt hz1 hz2 (by omega) (by omega) nx))
    refine z_iconst C dL_law_90 ?_
    refine z_icmp_ne (tgt := 98) C dL_law_91 (by decide) (by omega) (fun g2 => ?_) (fun g2 => ?_)
    · refine z_iconst C dL_law_98 ?_
      refine z_istore C dL_law_99 ?_
      refine disp 0 _ _ _ (fun _ e => ?_) (Or.inl rfl) (by exact ⟨rfl, rfl, rfl, rfl, rfl, rfl, rfl, rfl, rfl, rfl, rfl, rfl, trivial⟩) (by omega) (by omega)
      rw [e] at g2
      exact g2 rfl
    · refine z_iconst C dL_law_94 ?_
      refine z_goto (tgt := 99) C dL_law_95 (by decide) ?_
      refine z_istore C dL_law_99 ?_
      exact disp 1 _ _ _ (fun e => absurd e (by decide)) (Or.inr rfl) (by exact ⟨rfl, rfl, rfl, rfl, rfl, rfl, rfl, rfl, rfl, rfl, rfl, rfl, trivial⟩) (by omega) (by omega)
theorem law_loop (C : Cx w x cL_law 14 RL rt room_1 nm) (S : cS w x b L xs) (fin : ∀ (μ : Mem) (k n : Nat) (ls : List (Nat × Value)), k ≤ 600130 → n ≤ 7301080 → Z w x Q 14 669 ls [] μ k n) :
    ∀ (f i : Nat) (μ : Mem) (s : Sg) (m r : Int → Int) (c : Int), i + f = 70 → Rc μ G s → aS μ G am ar m r → lJ m r c (i : Int) s → Z w x Q 14 22 (lcL b (G 0) am ar c (i : Int)) [] μ (50 + 1100 * i) (8000 + 28000 * i) := by
  intro f
  induction f with
  | zero =>
    intro i μ s m r c hi hR hA hJ
    refine z_iload C dL_law_22 rfl ?_
    refine z_bipush C dL_law_24 ?_
    refine z_icmp_ge (tgt := 669) C dL_law_26 (by decide) (by omega) (fun g1 => ?_) (fun g1 => ?_)
    · exact fin _ _ _ _ (by omega) (by omega)
    · omega
  | succ f ih =>
    intro i μ s m r c hi hR hA hJ
    obtain ⟨q, clk, dm, ob, ru, rn, rs, nb, tr⟩ := s
    refine l_turn C S hR hA hJ ⟨by omega, by omega⟩ (by omega) (by omega) (fun μ' s' m' r' c' hR' hA' hJ' => ?_)
    have K := ih (i + 1) μ' s' m' r' c' (by omega) hR' hA' (by rw [show ((i + 1 : Nat) : Int) = (i : Int) + 1 from by omega]; exact hJ')
    rw [show ((i + 1 : Nat) : Int) = (i : Int) + 1 from by omega] at K
    exact z_widen (by omega) (by omega) K
end LOOP
