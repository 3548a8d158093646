/-! bulk, rate -/
section MOP
variable {N t : Int} {s : Sg} {M : Nat → Nat} {μ : Mem}
theorem m_rate (w : Wd) (a : Int) (hR : Rm μ M t s) (hO : okS N s) (h32 : in32 a) : cM w yX6_rate cX6_rate 6 (some .int) 8 0 0 [.ref (M 0), .int (J a)] μ (okM M μ (spRate a s)) (fun _ _ => False) := by
  obtain ⟨q, clk, dm, ob, ru, rn, rs, nb, tr⟩ := s
  obtain ⟨A, hm, hI, hRu, hRs, hNb, hTr, h9⟩ := hR
  have hF := Fm_rf μ M
  have hqk := hO.2.1
  have hqi := k11_in hqk
  have hci := hO.2.2.1
  have g0 := hm.1.1
  obtain ⟨r, hr⟩ : ∃ r, r = spRate a (q, clk, dm, ob, ru, rn, rs, nb, tr) := ⟨_, rfl⟩
  rw [← hr]
  refine cM_of (fun x C => ?_)
  obtain ⟨P0, hP0⟩ : ∃ P0, P0 = okM M μ r := ⟨_, rfl⟩
  obtain ⟨μs, hμs⟩ : ∃ μs, μs = μ := ⟨_, rfl⟩
  rw [← hP0]
  rw [← hμs] at hP0 hF
  have hN := hO.1
  refine z_aload_n C dX6_rate_0 rfl ?_
  refine z_iload_n C dX6_rate_1 rfl ?_
  refine z_callV C (c_isAgent w μ a h32 hm) qM_X6_99 dX6_rate_2 rfl (zRc_o g0) (fun _ _ h => h.elim) ?_
  rintro v μ1 ⟨rfl, hm, hF1⟩
  rw [← hμs] at hF1
  have hF := hF1
  have g0 := hm.1.1
  have fail : ∀ (code : Int) (t' : Int) (μ : Mem), 0 < code ∧ code ≤ 3 → r = (code, 0, q, clk, dm, ob, ru, rn, rs, nb, tr) → mS μ M t' clk (k11 q) (tr.length : Int) A → Fm μs μ M → ∀ ls, zsub ls [(0, .ref (M 0))] → Z w x (zQ w x P0 (fun _ _ => False) 0 0) 6 40 ls [.int (J code), .ref (M 0)] μ 0 0 := by
    intro code t' μ hc he hm hF ls hls
    refine z_ls _ hls ?_
    refine z_mp0 C hm hF qF_X6_71 dX6_rate_40 (fun μ hm hF => ?_)
    refine z_aload_n C dX6_rate_43 rfl ?_
    refine z_mg0 C hm qF_X6_71 dX6_rate_44 ?_
    refine z_if_le (tgt := 52) C dX6_rate_47 (by decide) (by omega) (fun g => ?_) (fun g => ?_)
    · omega
    · refine z_iconst C dX6_rate_50 ?_
      exact z_iret C dX6_rate_51 (by rw [hP0, he]; exact ⟨⟨0, rfl, fun _ => rfl⟩, ⟨A, hm, hI, hRu, hRs, hNb, hTr, h9⟩, hF⟩)
  by_cases ha : 0 ≤ a ∧ a ≤ 3
  · rw [if_pos ha] at hm
    rw [decide_eq_true ha, show zB true = 1 from rfl]
    obtain ⟨j, rfl⟩ : ∃ j : Nat, a = (j : Int) := ⟨a.toNat, by omega⟩
    have hj : j < 4 := by omega
    obtain ⟨l, hl, hp, ho⟩ := hI j hj
    have hJ := hO.2.2.2.1 j hj
    refine z_if_eq (tgt := 16) C dX6_rate_5 (by decide) (by omega) (fun g => ?_) (fun g => ?_)
    · exact absurd g (by decide)
    · refine z_aload_n C dX6_rate_8 rfl ?_
      refine z_iload_n C dX6_rate_9 rfl ?_
      refine z_callV C (c_slot w μ1 j l q hj hqk hl hm) qM_X6_96 dX6_rate_10 rfl (zRc_o g0) (fun _ _ h => h.elim) ?_
      rintro v μ2 ⟨⟨z, rfl, hz⟩, rfl⟩
      have hzr := slP_in hz hl.2.1 hj
      refine z_goto (tgt := 17) C dX6_rate_13 (by decide) ?_
      refine z_istore_n C dX6_rate_17 ?_
      refine z_aload_n C dX6_rate_18 rfl ?_
      refine z_aload_n C dX6_rate_19 rfl ?_
      refine z_mg0 C hm qF_X6_71 dX6_rate_20 ?_
      refine z_if_le (tgt := 30) C dX6_rate_23 (by decide) (by omega) (fun g2 => ?_) (fun g2 => ?_)
      · refine z_iload_n C dX6_rate_30 rfl ?_
        refine z_iconst C dX6_rate_31 ?_
        refine z_icmp_ne (tgt := 39) C dX6_rate_32 (by decide) (by omega) (fun g3 => ?_) (fun g3 => ?_)
        · obtain ⟨i, h1, h2⟩ : ∃ i : Nat, l[i]? = some q ∧ z = 20 * (j : Int) + (i : Int) := by
            rcases hz with ⟨h1, -⟩ | h
            · exact absurd h1 g3
            · exact h
          have hin : q ∈ dm j := hp.mem_iff.mp (List.mem_of_getElem? h1)
          have hoo := ho i q h1
          rw [← h2] at hoo
          obtain ⟨o1, o2, o3, o4, o5, o6⟩ := (hJ.2.2.1 q hin).2
          obtain ⟨V, hV⟩ : ∃ V, V = if (ob j q).1 = 1 then rtO (ob j q).2.2.2.1 (ob j q).2.2.2.2 else -1 := ⟨_, rfl⟩
          have fin : r = (0, V, q, clk, dm, ob, ru, rn, rs, nb, tr) := by rw [hr, spRate, if_neg (by omega), show ((j : Int)).toNat = j from rfl, if_neg (fun h => h hin), hV]
          have h10 : A 10 z = smN (ob j q) := hoo.2.2.2.2.1
          refine z_iconst C dX6_rate_39 ?_
          refine z_mp0 C hm hF qF_X6_71 dX6_rate_40 (fun μ hm hF => ?_)
          refine z_aload_n C dX6_rate_43 rfl ?_
          refine z_mg0 C hm qF_X6_71 dX6_rate_44 ?_
          refine z_if_le (tgt := 52) C dX6_rate_47 (by decide) (by omega) (fun g4 => ?_) (fun g4 => ?_)
          · refine z_aload_n C dX6_rate_52 rfl ?_
            refine z_mgf C hm qF_X6_35 dX6_rate_53 ?_
            refine z_iconst C dX6_rate_56 ?_
            refine z_iload_n C dX6_rate_57 rfl ?_
            refine z_imul C dX6_rate_58 ?_
            refine z_iconst C dX6_rate_59 ?_
            refine z_iadd C dX6_rate_60 ?_
            refine z_mld C hm dX6_rate_61 (by simp only [mln]; omega) ?_
            refine z_aload_n C dX6_rate_62 rfl ?_
            refine z_mgf C hm qF_X6_35 dX6_rate_63 ?_
            refine z_iconst C dX6_rate_66 ?_
            refine z_iload_n C dX6_rate_67 rfl ?_
            refine z_imul C dX6_rate_68 ?_
            refine z_mld C hm dX6_rate_69 (by simp only [mln]; omega) ?_
            refine z_isub C dX6_rate_70 ?_
            refine z_istore_n C dX6_rate_71 ?_
            refine z_aload_n C dX6_rate_72 rfl ?_
            refine z_mgf C hm qF_X6_38 dX6_rate_73 ?_
            refine z_iconst C dX6_rate_76 ?_
            refine z_iload_n C dX6_rate_77 rfl ?_
            refine z_imul C dX6_rate_78 ?_
            refine z_iconst C dX6_rate_79 ?_
            refine z_iadd C dX6_rate_80 ?_
            refine z_mld C hm dX6_rate_81 (by simp only [mln]; omega) ?_
            refine z_aload_n C dX6_rate_82 rfl ?_
            refine z_mgf C hm qF_X6_38 dX6_rate_83 ?_
            refine z_iconst C dX6_rate_86 ?_
            refine z_iload_n C dX6_rate_87 rfl ?_
            refine z_imul C dX6_rate_88 ?_
            refine z_mld C hm dX6_rate_89 (by simp only [mln]; omega) ?_
            refine z_isub C dX6_rate_90 ?_
            refine z_istore C dX6_rate_91 ?_
            have out : V = -1 → ∀ ls, Z w x (zQ w x P0 (fun _ _ => False) 0 0) 6 138 ls [] μ 0 0 := by
              intro hv ls
              refine z_ls [] (by exact trivial) ?_
              refine z_iconst C dX6_rate_138 ?_
              refine z_goto (tgt := 143) C dX6_rate_139 (by decide) ?_
              refine z_istore C dX6_rate_143 ?_
              refine z_iload C dX6_rate_145 rfl ?_
              refine z_if_eq (tgt := 154) C dX6_rate_147 (by decide) (by omega) (fun g5 => ?_) (fun g5 => ?_)
              · exact absurd g5 (by decide)
              · refine z_iconst C dX6_rate_150 ?_
                refine z_goto (tgt := 175) C dX6_rate_151 (by decide) ?_
                refine z_iret C dX6_rate_175 ?_
                rw [hP0, fin, hv]
                exact ⟨⟨_, rfl, fun _ => rfl⟩, ⟨A, hm, hI, hRu, hRs, hNb, hTr, h9⟩, hF⟩
            refine z_aload_n C dX6_rate_93 rfl ?_
            refine z_mgf C hm qF_X6_16 dX6_rate_94 ?_
            refine z_iload_n C dX6_rate_97 rfl ?_
            refine z_mld C hm dX6_rate_98 (by simp only [mln]; omega) ?_
            rw [hoo.1]
            refine z_iconst C dX6_rate_99 ?_
            refine z_icmp_ne (tgt := 138) C dX6_rate_100 (by decide) (by omega) (fun g5 => ?_) (fun g5 => ?_)
            · exact out (by rw [hV, if_neg g5]) _
            · refine z_aload_n C dX6_rate_103 rfl ?_
              refine z_mgf C hm qF_X6_32 dX6_rate_104 ?_
              refine z_iload_n C dX6_rate_107 rfl ?_
              refine z_mld C hm dX6_rate_108 (by simp only [mln]; omega) ?_
              rw [h10]
              have hsm : 0 ≤ smN (ob j q) ∧ smN (ob j q) ≤ 2 := by
                unfold smN
                split
                · decide
                · split <;> decide
              refine z_iconst C dX6_rate_109 ?_
              refine z_icmp_lt (tgt := 138) C dX6_rate_110 (by decide) (by omega) (fun g6 => ?_) (fun g6 => ?_)
              · refine out ?_ _
                rw [hV, if_pos g5]
                unfold smN at g6
                cases h4 : (ob j q).2.2.2.2 with
                | none =>
                  cases h5 : (ob j q).2.2.2.1 with
                  | none => rfl
                  | some e => rfl
                | some f =>
                  cases h5 : (ob j q).2.2.2.1 with
                  | none => rfl
                  | some e =>
                    rw [h4, h5] at g6
                    exact absurd (show (2 : Int) < 2 from g6) (by decide)
              · obtain ⟨e, f, he, hf⟩ : ∃ e f : Smp, (ob j q).2.2.2.1 = some e ∧ (ob j q).2.2.2.2 = some f := by
                  unfold smN at g6
                  cases h4 : (ob j q).2.2.2.2 with
                  | none => rw [h4] at g6; exact absurd (show (2 : Int) ≤ 0 from g6) (by decide)
                  | some f =>
                    cases h5 : (ob j q).2.2.2.1 with
                    | none => rw [h4, h5] at g6; exact absurd (show (2 : Int) ≤ 1 from g6) (by decide)
                    | some e => exact ⟨e, f, rfl, rfl⟩
                obtain ⟨e1, e2, e3⟩ := o4 e he
                obtain ⟨f1, f2, f3⟩ := o5 f hf
                obtain ⟨f', hf', hle⟩ := o6 e he
                rw [hf] at hf'
                cases hf'
                obtain ⟨b1, b2, b3⟩ := hoo.2.2.2.2.2.1 f hf
                obtain ⟨c1, c2, c3⟩ := hoo.2.2.2.2.2.2 e he
                have hV2 : V = if e.2.2 = f.2.2 then (if f.1 - e.1 ≤ 0 then -1 else (if f.2.1 - e.2.1 < 0 then (f.2.1 - e.2.1 + 1000) * 60 / (f.1 - e.1) else (f.2.1 - e.2.1) * 60 / (f.1 - e.1))) else -1 := by
                  rw [hV, if_pos g5, he, hf]
                  rfl
                rw [b1, b2, c1, c2]
                refine z_iload_n C dX6_rate_113 rfl ?_
                refine z_if_eq (tgt := 138) C dX6_rate_114 (by decide) (by omega) (fun g7 => ?_) (fun g7 => ?_)
                · refine out ?_ _
                  rw [hV2]
                  split
                  · rw [if_pos (by omega)]
                  · rfl
                · refine z_aload_n C dX6_rate_117 rfl ?_
                  refine z_mgf C hm qF_X6_41 dX6_rate_118 ?_
                  refine z_iconst C dX6_rate_121 ?_
                  refine z_iload_n C dX6_rate_122 rfl ?_
                  refine z_imul C dX6_rate_123 ?_
                  refine z_mld C hm dX6_rate_124 (by simp only [mln]; omega) ?_
                  refine z_aload_n C dX6_rate_125 rfl ?_
                  refine z_mgf C hm qF_X6_41 dX6_rate_126 ?_
                  refine z_iconst C dX6_rate_129 ?_
                  refine z_iload_n C dX6_rate_130 rfl ?_
                  refine z_imul C dX6_rate_131 ?_
                  refine z_iconst C dX6_rate_132 ?_
                  refine z_iadd C dX6_rate_133 ?_
                  refine z_mld C hm dX6_rate_134 (by simp only [mln]; omega) ?_
                  rw [c3, b3]
                  refine z_icmp_eq (tgt := 142) C dX6_rate_135 (by decide) (by omega) (fun g8 => ?_) (fun g8 => ?_)
                  · have fin2 : ∀ mo : Int, 0 ≤ mo ∧ mo ≤ 1000 → V = mo * 60 / (f.1 - e.1) → ∀ ls, zsub ls [(3, .int (J (f.1 - e.1)))] → Z w x (zQ w x P0 (fun _ _ => False) 0 0) 6 170 ls [.int (J mo)] μ 0 0 := by
                      intro mo hm0 hv ls hls
                      refine z_ls _ hls ?_
                      refine z_bipush C dX6_rate_170 ?_
                      refine z_imul C dX6_rate_172 ?_
                      refine z_iload_n C dX6_rate_173 rfl ?_
                      refine z_idiv C dX6_rate_174 (by omega) ?_
                      refine z_iret C dX6_rate_175 ?_
                      rw [hP0, fin, hv]
                      exact ⟨⟨_, rfl, fun _ => rfl⟩, ⟨A, hm, hI, hRu, hRs, hNb, hTr, h9⟩, hF⟩
                    refine z_iconst C dX6_rate_142 ?_
                    refine z_istore C dX6_rate_143 ?_
                    refine z_iload C dX6_rate_145 rfl ?_
                    refine z_if_eq (tgt := 154) C dX6_rate_147 (by decide) (by omega) (fun g9 => ?_) (fun g9 => ?_)
                    · refine z_iload C dX6_rate_154 rfl ?_
                      refine z_if_ge (tgt := 168) C dX6_rate_156 (by decide) (by omega) (fun g10 => ?_) (fun g10 => ?_)
                      · refine z_iload C dX6_rate_168 rfl ?_
                        exact fin2 _ (by omega) (by rw [hV2, if_pos g8, if_neg (by omega), if_neg (by omega)]) _ (by exact ⟨rfl, trivial⟩)
                      · refine z_iload C dX6_rate_159 rfl ?_
                        refine z_sipush C dX6_rate_161 ?_
                        refine z_iadd C dX6_rate_164 ?_
                        refine z_goto (tgt := 170) C dX6_rate_165 (by decide) ?_
                        exact fin2 _ (by omega) (by rw [hV2, if_pos g8, if_neg (by omega), if_pos (by omega)]) _ (by exact ⟨rfl, trivial⟩)
                    · exact absurd rfl g9
                  · exact out (by rw [hV2, if_neg g8]) _
          · omega
        · have hnot : q ∉ dm j := by
            rcases hz with ⟨h1, h2⟩ | ⟨i, h1, h2⟩
            · exact fun h => h2 (hp.mem_iff.mpr h)
            · omega
          refine z_iconst C dX6_rate_35 ?_
          refine z_goto (tgt := 40) C dX6_rate_36 (by decide) ?_
          exact fail 2 0 _ (by decide) (by rw [hr, spRate, if_neg (by omega), show ((j : Int)).toNat = j from rfl, if_pos hnot]) hm hF _ (by exact ⟨rfl, trivial⟩)
      · omega
  · rw [if_neg ha] at hm
    rw [decide_eq_false ha, show zB false = 0 from rfl]
    refine z_if_eq (tgt := 16) C dX6_rate_5 (by decide) (by omega) (fun g => ?_) (fun g => ?_)
    · refine z_iconst C dX6_rate_16 ?_
      refine z_istore_n C dX6_rate_17 ?_
      refine z_aload_n C dX6_rate_18 rfl ?_
      refine z_aload_n C dX6_rate_19 rfl ?_
      refine z_mg0 C hm qF_X6_71 dX6_rate_20 ?_
      refine z_if_le (tgt := 30) C dX6_rate_23 (by decide) (by omega) (fun g2 => ?_) (fun g2 => ?_)
      · omega
      · refine z_iconst C dX6_rate_26 ?_
        refine z_goto (tgt := 40) C dX6_rate_27 (by decide) ?_
        exact fail 1 1 _ (by decide) (by rw [hr, spRate, if_pos ha]) hm hF _ (by exact ⟨rfl, trivial⟩)
    · exact absurd rfl g
theorem m_bulk (w : Wd) (a m : Int) (hR : Rm μ M t s) (hO : okS N s) (h32 : in32 a) (hm32 : in32 m) : cM w yX6_bulk cX6_bulk 6 (some .int) 8 0 0 [.ref (M 0), .int (J a), .int (J m)] μ (okM M μ (spBulk a m s)) (fun _ _ => False) := by
  obtain ⟨m1, m2⟩ := id hm32
  obtain ⟨q, clk, dm, ob, ru, rn, rs, nb, tr⟩ := s
  obtain ⟨A, hm, hI, hRu, hRs, hNb, hTr, h9⟩ := hR
  have hF := Fm_rf μ M
  have hqk := hO.2.1
  have hqi := k11_in hqk
  have hci := hO.2.2.1
  have g0 := hm.1.1
  obtain ⟨r, hr⟩ : ∃ r, r = spBulk a m (q, clk, dm, ob, ru, rn, rs, nb, tr) := ⟨_, rfl⟩
  rw [← hr]
  refine cM_of (fun x C => ?_)
  obtain ⟨P0, hP0⟩ : ∃ P0, P0 = okM M μ r := ⟨_, rfl⟩
  obtain ⟨μs, hμs⟩ : ∃ μs, μs = μ := ⟨_, rfl⟩
  rw [← hP0]
  rw [← hμs] at hP0
  have hF : Fm μs μ M := by rw [hμs]; exact Fm_rf _ _
  have fail : ∀ (code : Int) (μ : Mem), 0 < code ∧ code ≤ 3 → r = (code, 0, q, clk, dm, ob, ru, rn, rs, nb, tr) → mS μ M t clk (k11 q) (tr.length : Int) A → Fm μs μ M → ∀ ls, zsub ls [(0, .ref (M 0))] → Z w x (zQ w x P0 (fun _ _ => False) 0 0) 6 29 ls [.int (J code), .ref (M 0)] μ 0 0 := by
    intro code μ hc he hm hF ls hls
    refine z_ls _ hls ?_
    refine z_mp0 C hm hF qF_X6_71 dX6_bulk_29 (fun μ hm hF => ?_)
    refine z_iconst C dX6_bulk_32 ?_
    refine z_istore_n C dX6_bulk_33 ?_
    refine z_aload_n C dX6_bulk_34 rfl ?_
    refine z_mg0 C hm qF_X6_71 dX6_bulk_35 ?_
    refine z_if_ne (tgt := 45) C dX6_bulk_38 (by decide) (by omega) (fun g => ?_) (fun g => ?_)
    · refine z_iconst C dX6_bulk_45 ?_
      refine z_istore C dX6_bulk_46 ?_
      refine z_iload C dX6_bulk_48 rfl ?_
      refine z_if_eq (tgt := 117) C dX6_bulk_50 (by decide) (by omega) (fun g2 => ?_) (fun g2 => ?_)
      · refine z_iload_n C dX6_bulk_117 rfl ?_
        exact z_iret C dX6_bulk_118 (by rw [hP0, he]; exact ⟨⟨0, rfl, fun _ => rfl⟩, ⟨A, hm, hI, hRu, hRs, hNb, hTr, h9⟩, hF⟩)
      · exact absurd rfl g2
    · omega
  refine z_aload_n C dX6_bulk_0 rfl ?_
  refine z_iload_n C dX6_bulk_1 rfl ?_
  refine z_iconst C dX6_bulk_2 ?_
  refine z_iconst C dX6_bulk_3 ?_
  refine z_callS C (c_in w μ a 0 3 h32 ⟨by decide, by decide⟩ ⟨by decide, by decide⟩) qM_X6_75 dX6_bulk_4 rfl (fun _ _ h => h.elim) ?_
  rintro v μ2 ⟨rfl, rfl⟩
  by_cases ha : 0 ≤ a ∧ a ≤ 3
  case neg =>
    rw [decide_eq_false ha, show zB false = 0 from rfl]
    refine z_if_ne (tgt := 14) C dX6_bulk_7 (by decide) (by omega) (fun g => ?_) (fun g => ?_)
    · exact absurd rfl g
    · refine z_iconst C dX6_bulk_10 ?_
      refine z_goto (tgt := 29) C dX6_bulk_11 (by decide) ?_
      exact fail 1 _ (by decide) (by rw [hr, spBulk, if_pos ha]) hm hF _ (by exact ⟨rfl, trivial⟩)
  rw [decide_eq_true ha, show zB true = 1 from rfl]
  refine z_if_ne (tgt := 14) C dX6_bulk_7 (by decide) (by omega) (fun g => ?_) (fun g => ?_)
  · refine z_iload_n C dX6_bulk_14 rfl ?_
    refine z_iconst C dX6_bulk_15 ?_
    refine z_bipush C dX6_bulk_16 ?_
    refine z_callS C (c_in w _ m 1 30 hm32 ⟨by decide, by decide⟩ ⟨by decide, by decide⟩) qM_X6_75 dX6_bulk_18 rfl (fun _ _ h => h.elim) ?_
    rintro v μ3 ⟨rfl, rfl⟩
    by_cases hmm : 1 ≤ m ∧ m ≤ 30
    case neg =>
      rw [decide_eq_false hmm, show zB false = 0 from rfl]
      refine z_if_eq (tgt := 28) C dX6_bulk_21 (by decide) (by omega) (fun g2 => ?_) (fun g2 => ?_)
      · refine z_iconst C dX6_bulk_28 ?_
        exact fail 2 _ (by decide) (by rw [hr, spBulk, if_neg (by omega), if_pos hmm]) hm hF _ (by exact ⟨rfl, trivial⟩)
      · exact absurd rfl g2
    rw [decide_eq_true hmm, show zB true = 1 from rfl]
    refine z_if_eq (tgt := 28) C dX6_bulk_21 (by decide) (by omega) (fun g2 => ?_) (fun g2 => ?_)
    · exact absurd g2 (by decide)
    obtain ⟨j, rfl⟩ : ∃ j : Nat, a = (j : Int) := ⟨a.toNat, by omega⟩
    have hj : j < 4 := by omega
    obtain ⟨l, hl, hp, ho⟩ := hI j hj
    obtain ⟨rl, hrl, hrn⟩ := hRu j hj
    have hJ := hO.2.2.2.1 j hj
    have hl20 := hl.2.1
    obtain ⟨B, hB⟩ : ∃ B, B = blk (dm j) (ru j) m.toNat 0 q := ⟨_, rfl⟩
    have fin : r = (0, B.1, B.2, clk, dm, ob, ru, rn, rs, nb, tr) := by rw [hr, spBulk, if_neg (by omega), if_neg (by omega), hB]; rfl
    have ret : ∀ (cnt q' : Int) (μ : Mem), B = (cnt, q') → mS μ M 0 clk (k11 q') (tr.length : Int) A → Fm μs μ M → ∀ ls, zsub ls [(3, .int (J cnt))] → Z w x (zQ w x P0 (fun _ _ => False) 0 0) 6 117 ls [] μ 0 0 := by
      intro cnt q' μ hb hm hF ls hls
      refine z_ls _ hls ?_
      refine z_iload_n C dX6_bulk_117 rfl ?_
      refine z_iret C dX6_bulk_118 ?_
      rw [hP0, fin, hb]
      exact ⟨⟨_, rfl, fun _ => rfl⟩, ⟨A, hm, hI, hRu, hRs, hNb, hTr, h9⟩, hF⟩
    have loop : ∀ (f : Nat) (cnt q' : Int) (μ : Mem), cnt + (f : Int) = m → 0 ≤ cnt → okK q' → mS μ M 0 clk (k11 q') (tr.length : Int) A → Fm μs μ M → B = blk (dm j) (ru j) f cnt q' → Z w x (zQ w x P0 (fun _ _ => False) 0 0) 6 48 [(0, .ref (M 0)), (1, .int (J (j : Int))), (2, .int (J m)), (3, .int (J cnt)), (4, .int (J 1))] [] μ 0 0 := by
      intro f
      induction f with
      | zero =>
        intro cnt q' μ hc h0 hq' hm hF hb
        refine z_iload C dX6_bulk_48 rfl ?_
        refine z_if_eq (tgt := 117) C dX6_bulk_50 (by decide) (by omega) (fun g3 => ?_) (fun g3 => ?_)
        · exact absurd g3 (by decide)
        · refine z_iload_n C dX6_bulk_53 rfl ?_
          refine z_iload_n C dX6_bulk_54 rfl ?_
          refine z_icmp_ge (tgt := 117) C dX6_bulk_55 (by decide) (by omega) (fun g4 => ?_) (fun g4 => ?_)
          · exact ret cnt q' μ hb hm hF _ (by exact ⟨rfl, trivial⟩)
          · omega
      | succ f ih =>
        intro cnt q' μ hc h0 hq' hm hF hb
        refine z_iload C dX6_bulk_48 rfl ?_
        refine z_if_eq (tgt := 117) C dX6_bulk_50 (by decide) (by omega) (fun g3 => ?_) (fun g3 => ?_)
        · exact absurd g3 (by decide)
        · refine z_iload_n C dX6_bulk_53 rfl ?_
          refine z_iload_n C dX6_bulk_54 rfl ?_
          refine z_icmp_ge (tgt := 117) C dX6_bulk_55 (by decide) (by omega) (fun g4 => ?_) (fun g4 => ?_)
          · omega
          · refine z_aload_n C dX6_bulk_58 rfl ?_
            refine z_iload_n C dX6_bulk_59 rfl ?_
            refine z_callV C (c_behind w μ j l rl (dm j) (ru j) q' hj hq' hl hp hrl (fun k => (hJ.2.2.2.1 k).1) hm) qM_X6_130 dX6_bulk_60 rfl (zRc_o hm.1.1) (fun _ _ h => h.elim) ?_
            rintro v μ5 ⟨⟨z, rfl, hz⟩, rfl⟩
            rw [blk] at hb
            rcases hz with ⟨h1, h2⟩ | ⟨i, k, h1, h2, h3⟩
            · subst h1
              rw [h2] at hb
              refine z_istore C dX6_bulk_63 ?_
              refine z_iload C dX6_bulk_65 rfl ?_
              refine z_iconst C dX6_bulk_67 ?_
              refine z_icmp_eq (tgt := 75) C dX6_bulk_68 (by decide) (by omega) (fun g5 => ?_) (fun g5 => ?_)
              · refine z_iconst C dX6_bulk_75 ?_
                refine z_istore C dX6_bulk_76 ?_
                refine z_aload_n C dX6_bulk_78 rfl ?_
                refine z_iload C dX6_bulk_79 rfl ?_
                refine z_if_eq (tgt := 94) C dX6_bulk_81 (by decide) (by omega) (fun g6 => ?_) (fun g6 => ?_)
                · refine z_aload_n C dX6_bulk_94 rfl ?_
                  refine z_mg2 C hm qF_X6_90 dX6_bulk_95 ?_
                  refine z_mp2 C hm hF qF_X6_90 dX6_bulk_98 (fun μ hm hF => ?_)
                  refine z_iload_n C dX6_bulk_101 rfl ?_
                  refine z_iload C dX6_bulk_102 rfl ?_
                  refine z_if_eq (tgt := 111) C dX6_bulk_104 (by decide) (by omega) (fun g7 => ?_) (fun g7 => ?_)
                  · refine z_iconst C dX6_bulk_111 ?_
                    refine z_iadd C dX6_bulk_112 ?_
                    refine z_istore_n C dX6_bulk_113 ?_
                    refine z_goto (tgt := 48) C dX6_bulk_114 (by decide) ?_
                    refine z_iload C dX6_bulk_48 rfl ?_
                    rw [Int.add_zero]
                    refine z_if_eq (tgt := 117) C dX6_bulk_50 (by decide) (by omega) (fun g8 => ?_) (fun g8 => ?_)
                    · exact ret cnt q' _ hb hm hF _ (by exact ⟨rfl, trivial⟩)
                    · exact absurd rfl g8
                  · exact absurd rfl g7
                · exact absurd rfl g6
              · exact absurd rfl g5
            · rw [h3] at hb
              obtain ⟨e1, e2⟩ := hl.2.2 i k h1
              have hi := (List.getElem?_eq_some_iff.mp h1).1
              refine z_istore C dX6_bulk_63 ?_
              refine z_iload C dX6_bulk_65 rfl ?_
              refine z_iconst C dX6_bulk_67 ?_
              refine z_icmp_eq (tgt := 75) C dX6_bulk_68 (by decide) (by omega) (fun g5 => ?_) (fun g5 => ?_)
              · omega
              · refine z_iconst C dX6_bulk_71 ?_
                refine z_goto (tgt := 76) C dX6_bulk_72 (by decide) ?_
                refine z_istore C dX6_bulk_76 ?_
                refine z_aload_n C dX6_bulk_78 rfl ?_
                refine z_iload C dX6_bulk_79 rfl ?_
                refine z_if_eq (tgt := 94) C dX6_bulk_81 (by decide) (by omega) (fun g6 => ?_) (fun g6 => ?_)
                · exact absurd g6 (by decide)
                · refine z_aload_n C dX6_bulk_84 rfl ?_
                  refine z_mgf C hm qF_X6_13 dX6_bulk_85 ?_
                  refine z_iload C dX6_bulk_88 rfl ?_
                  refine z_mld C hm dX6_bulk_90 (by simp only [mln]; omega) ?_
                  rw [h2, e2]
                  refine z_goto (tgt := 98) C dX6_bulk_91 (by decide) ?_
                  refine z_mp2 C hm hF qF_X6_90 dX6_bulk_98 (fun μ hm hF => ?_)
                  refine z_iload_n C dX6_bulk_101 rfl ?_
                  refine z_iload C dX6_bulk_102 rfl ?_
                  refine z_if_eq (tgt := 111) C dX6_bulk_104 (by decide) (by omega) (fun g7 => ?_) (fun g7 => ?_)
                  · exact absurd g7 (by decide)
                  · refine z_iconst C dX6_bulk_107 ?_
                    refine z_goto (tgt := 112) C dX6_bulk_108 (by decide) ?_
                    refine z_iadd C dX6_bulk_112 ?_
                    refine z_istore_n C dX6_bulk_113 ?_
                    refine z_goto (tgt := 48) C dX6_bulk_114 (by decide) ?_
                    exact z_ls _ (by exact ⟨rfl, rfl, rfl, rfl, rfl, trivial⟩) (ih (cnt + 1) k _ (by omega) (by omega) e1 hm hF hb)
    refine z_iconst C dX6_bulk_24 ?_
    refine z_goto (tgt := 29) C dX6_bulk_25 (by decide) ?_
    refine z_mp0 C hm hF qF_X6_71 dX6_bulk_29 (fun μ hm hF => ?_)
    refine z_iconst C dX6_bulk_32 ?_
    refine z_istore_n C dX6_bulk_33 ?_
    refine z_aload_n C dX6_bulk_34 rfl ?_
    refine z_mg0 C hm qF_X6_71 dX6_bulk_35 ?_
    refine z_if_ne (tgt := 45) C dX6_bulk_38 (by decide) (by omega) (fun g3 => ?_) (fun g3 => ?_)
    · exact absurd rfl g3
    · refine z_iconst C dX6_bulk_41 ?_
      refine z_goto (tgt := 46) C dX6_bulk_42 (by decide) ?_
      refine z_istore C dX6_bulk_46 ?_
      exact z_ls _ (by exact ⟨rfl, rfl, rfl, rfl, rfl, trivial⟩) (loop m.toNat 0 q _ (by omega) (by omega) hqk hm hF hB)
  · exact absurd g (by decide)
end MOP
