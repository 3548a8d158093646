/-! sample -/
section MON
variable {N t : Int} {s : Sg} {M : Nat → Nat} {μ : Mem}
theorem m_sample (w : Wd) (a : Int) (hR : Rm μ M t s) (hO : okS N s) (h32 : in32 a) : cM w yX6_sample cX6_sample 3 (some .int) 8 0 0 [.ref (M 0), .int (J a)] μ (okM M μ (spSample a s)) (fun _ _ => False) := by
  obtain ⟨q, clk, dm, ob, ru, rn, rs, nb, tr⟩ := s
  obtain ⟨A, hm, hI, hRu, hRs, hNb, hTr, h9⟩ := hR
  have hF := Fm_rf μ M
  have hqk := hO.2.1
  have hqi := k11_in hqk
  have hci := hO.2.2.1
  have g0 := hm.1.1
  obtain ⟨r, hr⟩ : ∃ r, r = spSample a (q, clk, dm, ob, ru, rn, rs, nb, tr) := ⟨_, rfl⟩
  rw [← hr]
  refine cM_of (fun x C => ?_)
  obtain ⟨P0, hP0⟩ : ∃ P0, P0 = okM M μ r := ⟨_, rfl⟩
  obtain ⟨μs, hμs⟩ : ∃ μs, μs = μ := ⟨_, rfl⟩
  rw [← hP0]
  rw [← hμs] at hP0 hF
  refine z_aload_n C dX6_sample_0 rfl ?_
  refine z_iload_n C dX6_sample_1 rfl ?_
  refine z_callV C (c_isAgent w μ a h32 hm) qM_X6_99 dX6_sample_2 rfl (zRc_o g0) (fun _ _ h => h.elim) ?_
  rintro v μ1 ⟨rfl, hm, hF1⟩
  rw [← hμs] at hF1
  have hF := hF1
  have g0 := hm.1.1
  have fail : ∀ (code : Int) (t' : Int) (μ : Mem), 0 < code ∧ code ≤ 3 → r = (code, 0, q, clk, dm, ob, ru, rn, rs, nb, tr) → mS μ M t' clk (k11 q) (tr.length : Int) A → Fm μs μ M → ∀ ls, zsub ls [(0, .ref (M 0))] → Z w x (zQ w x P0 (fun _ _ => False) 0 0) 3 52 ls [.int (J code), .ref (M 0)] μ 0 0 := by
    intro code t' μ hc he hm hF ls hls
    refine z_ls _ hls ?_
    refine z_mp0 C hm hF qF_X6_71 dX6_sample_52 (fun μ hm hF => ?_)
    refine z_aload_n C dX6_sample_55 rfl ?_
    refine z_mg0 C hm qF_X6_71 dX6_sample_56 ?_
    refine z_if_le (tgt := 64) C dX6_sample_59 (by decide) (by omega) (fun g => ?_) (fun g => ?_)
    · omega
    · refine z_iconst C dX6_sample_62 ?_
      exact z_iret C dX6_sample_63 (by rw [hP0, he]; exact ⟨⟨0, rfl, fun _ => rfl⟩, ⟨A, hm, hI, hRu, hRs, hNb, hTr, h9⟩, hF⟩)
  by_cases ha : 0 ≤ a ∧ a ≤ 3
  · rw [if_pos ha] at hm
    rw [decide_eq_true ha, show zB true = 1 from rfl]
    obtain ⟨j, rfl⟩ : ∃ j : Nat, a = (j : Int) := ⟨a.toNat, by omega⟩
    have hj : j < 4 := by omega
    obtain ⟨l, hl, hp, ho⟩ := hI j hj
    obtain ⟨rl, hrl, hrn⟩ := hRu j hj
    have hJ := hO.2.2.2.1 j hj
    refine z_if_eq (tgt := 16) C dX6_sample_5 (by decide) (by omega) (fun g => ?_) (fun g => ?_)
    · exact absurd g (by decide)
    · refine z_aload_n C dX6_sample_8 rfl ?_
      refine z_iload_n C dX6_sample_9 rfl ?_
      refine z_callV C (c_slot w μ1 j l q hj hqk hl hm) qM_X6_96 dX6_sample_10 rfl (zRc_o g0) (fun _ _ h => h.elim) ?_
      rintro v μ2 ⟨⟨z, rfl, hz⟩, rfl⟩
      have hzr := slP_in hz hl.2.1 hj
      refine z_goto (tgt := 17) C dX6_sample_13 (by decide) ?_
      refine z_istore_n C dX6_sample_17 ?_
      refine z_aload_n C dX6_sample_18 rfl ?_
      refine z_aload_n C dX6_sample_19 rfl ?_
      refine z_mg0 C hm qF_X6_71 dX6_sample_20 ?_
      refine z_if_le (tgt := 30) C dX6_sample_23 (by decide) (by omega) (fun g2 => ?_) (fun g2 => ?_)
      · refine z_iload_n C dX6_sample_30 rfl ?_
        refine z_iconst C dX6_sample_31 ?_
        refine z_icmp_eq (tgt := 47) C dX6_sample_32 (by decide) (by omega) (fun g3 => ?_) (fun g3 => ?_)
        · have hnot : q ∉ dm j := by
            rcases hz with ⟨h1, h2⟩ | ⟨i, h1, h2⟩
            · exact fun h => h2 (hp.mem_iff.mpr h)
            · omega
          refine z_iconst C dX6_sample_47 ?_
          refine z_goto (tgt := 52) C dX6_sample_48 (by decide) ?_
          exact fail 2 0 _ (by decide) (by rw [hr, spSample, if_neg (by omega), show ((j : Int)).toNat = j from rfl, if_pos (Or.inl hnot)]) hm hF _ (by exact ⟨rfl, trivial⟩)
        · obtain ⟨i, h1, h2⟩ : ∃ i : Nat, l[i]? = some q ∧ z = 20 * (j : Int) + (i : Int) := by
            rcases hz with ⟨h1, -⟩ | h
            · exact absurd h1 g3
            · exact h
          subst h2
          have hin : q ∈ dm j := hp.mem_iff.mp (List.mem_of_getElem? h1)
          have hoo := ho i q h1
          refine z_aload_n C dX6_sample_35 rfl ?_
          refine z_iload_n C dX6_sample_36 rfl ?_
          refine z_aload_n C dX6_sample_37 rfl ?_
          refine z_mg2 C hm qF_X6_90 dX6_sample_38 ?_
          refine z_callV C (c_isHidden w μ2 j rl (ru j) q hj hqk hrl (fun k => (hJ.2.2.2.1 k).1) hm) qM_X6_127 dX6_sample_41 rfl (zRc_o g0) (fun _ _ h => h.elim) ?_
          rintro v μ3 ⟨rfl, rfl⟩
          have hzb := zB_in (hidK (ru j) q)
          refine z_if_eq (tgt := 51) C dX6_sample_44 (by decide) (by omega) (fun g4 => ?_) (fun g4 => ?_)
          · have hh := zB_eq.mp g4
            have fin : r = (0, (ob j q).2.1, q, clk, dm, uO ob j q (smpO (ob j q) clk (rs j)), ru, rn, rs, nb, tr) := by
              rw [hr, spSample, if_neg (by omega), show ((j : Int)).toNat = j from rfl, if_neg (fun e => ?_)]
              rcases e with e | e
              · exact e hin
              · rw [hh] at e
                cases e
            obtain ⟨Z0, hZ0⟩ : ∃ Z0 : Int, Z0 = 20 * (j : Int) + (i : Int) := ⟨_, rfl⟩
            rw [← hZ0] at hzr hoo ⊢
            have h10 : A 10 Z0 = smN (ob j q) := hoo.2.2.2.2.1
            have hsm : 0 ≤ smN (ob j q) ∧ smN (ob j q) ≤ 2 := by
              unfold smN
              split
              · decide
              · split <;> decide
            refine z_iconst C dX6_sample_51 ?_
            refine z_mp0 C hm hF qF_X6_71 dX6_sample_52 (fun μ hm hF => ?_)
            refine z_aload_n C dX6_sample_55 rfl ?_
            refine z_mg0 C hm qF_X6_71 dX6_sample_56 ?_
            refine z_if_le (tgt := 64) C dX6_sample_59 (by decide) (by omega) (fun g5 => ?_) (fun g5 => ?_)
            · refine z_aload_n C dX6_sample_64 rfl ?_
              refine z_mgf C hm qF_X6_35 dX6_sample_65 ?_
              refine z_iconst C dX6_sample_68 ?_
              refine z_iload_n C dX6_sample_69 rfl ?_
              refine z_imul C dX6_sample_70 ?_
              refine z_aload_n C dX6_sample_71 rfl ?_
              refine z_mgf C hm qF_X6_35 dX6_sample_72 ?_
              refine z_iconst C dX6_sample_75 ?_
              refine z_iload_n C dX6_sample_76 rfl ?_
              refine z_imul C dX6_sample_77 ?_
              refine z_iconst C dX6_sample_78 ?_
              refine z_iadd C dX6_sample_79 ?_
              refine z_mld C hm dX6_sample_80 (by simp only [mln]; omega) ?_
              refine z_mst C hm hF dX6_sample_81 (by simp only [mln]; omega) (fun μ hm hF => ?_)
              obtain ⟨A1, e1⟩ : ∃ A1, A1 = u2 A 11 (2 * Z0) (A 11 (2 * Z0 + 1)) := ⟨_, rfl⟩
              rw [← e1] at hm
              refine z_aload_n C dX6_sample_82 rfl ?_
              refine z_mgf C hm qF_X6_38 dX6_sample_83 ?_
              refine z_iconst C dX6_sample_86 ?_
              refine z_iload_n C dX6_sample_87 rfl ?_
              refine z_imul C dX6_sample_88 ?_
              refine z_aload_n C dX6_sample_89 rfl ?_
              refine z_mgf C hm qF_X6_38 dX6_sample_90 ?_
              refine z_iconst C dX6_sample_93 ?_
              refine z_iload_n C dX6_sample_94 rfl ?_
              refine z_imul C dX6_sample_95 ?_
              refine z_iconst C dX6_sample_96 ?_
              refine z_iadd C dX6_sample_97 ?_
              refine z_mld C hm dX6_sample_98 (by simp only [mln]; omega) ?_
              refine z_mst C hm hF dX6_sample_99 (by simp only [mln]; omega) (fun μ hm hF => ?_)
              obtain ⟨A2, e2⟩ : ∃ A2, A2 = u2 A1 12 (2 * Z0) (A1 12 (2 * Z0 + 1)) := ⟨_, rfl⟩
              rw [← e2] at hm
              refine z_aload_n C dX6_sample_100 rfl ?_
              refine z_mgf C hm qF_X6_41 dX6_sample_101 ?_
              refine z_iconst C dX6_sample_104 ?_
              refine z_iload_n C dX6_sample_105 rfl ?_
              refine z_imul C dX6_sample_106 ?_
              refine z_aload_n C dX6_sample_107 rfl ?_
              refine z_mgf C hm qF_X6_41 dX6_sample_108 ?_
              refine z_iconst C dX6_sample_111 ?_
              refine z_iload_n C dX6_sample_112 rfl ?_
              refine z_imul C dX6_sample_113 ?_
              refine z_iconst C dX6_sample_114 ?_
              refine z_iadd C dX6_sample_115 ?_
              refine z_mld C hm dX6_sample_116 (by simp only [mln]; omega) ?_
              refine z_mst C hm hF dX6_sample_117 (by simp only [mln]; omega) (fun μ hm hF => ?_)
              obtain ⟨A3, e3⟩ : ∃ A3, A3 = u2 A2 13 (2 * Z0) (A2 13 (2 * Z0 + 1)) := ⟨_, rfl⟩
              rw [← e3] at hm
              refine z_aload_n C dX6_sample_118 rfl ?_
              refine z_mgf C hm qF_X6_35 dX6_sample_119 ?_
              refine z_iconst C dX6_sample_122 ?_
              refine z_iload_n C dX6_sample_123 rfl ?_
              refine z_imul C dX6_sample_124 ?_
              refine z_iconst C dX6_sample_125 ?_
              refine z_iadd C dX6_sample_126 ?_
              refine z_aload_n C dX6_sample_127 rfl ?_
              refine z_mg1 C hm qF_X6_113 dX6_sample_128 ?_
              refine z_mst C hm hF dX6_sample_131 (by simp only [mln]; omega) (fun μ hm hF => ?_)
              obtain ⟨A4, e4⟩ : ∃ A4, A4 = u2 A3 11 (2 * Z0 + 1) clk := ⟨_, rfl⟩
              rw [← e4] at hm
              refine z_aload_n C dX6_sample_132 rfl ?_
              refine z_mgf C hm qF_X6_38 dX6_sample_133 ?_
              refine z_iconst C dX6_sample_136 ?_
              refine z_iload_n C dX6_sample_137 rfl ?_
              refine z_imul C dX6_sample_138 ?_
              refine z_iconst C dX6_sample_139 ?_
              refine z_iadd C dX6_sample_140 ?_
              refine z_aload_n C dX6_sample_141 rfl ?_
              refine z_mgf C hm qF_X6_19 dX6_sample_142 ?_
              refine z_iload_n C dX6_sample_145 rfl ?_
              refine z_mld C hm dX6_sample_146 (by simp only [mln]; omega) ?_
              refine z_mst C hm hF dX6_sample_147 (by simp only [mln]; omega) (fun μ hm hF => ?_)
              obtain ⟨A5, e5⟩ : ∃ A5, A5 = u2 A4 12 (2 * Z0 + 1) (A4 6 Z0) := ⟨_, rfl⟩
              rw [← e5] at hm
              refine z_aload_n C dX6_sample_148 rfl ?_
              refine z_mgf C hm qF_X6_41 dX6_sample_149 ?_
              refine z_iconst C dX6_sample_152 ?_
              refine z_iload_n C dX6_sample_153 rfl ?_
              refine z_imul C dX6_sample_154 ?_
              refine z_iconst C dX6_sample_155 ?_
              refine z_iadd C dX6_sample_156 ?_
              refine z_aload_n C dX6_sample_157 rfl ?_
              refine z_mgf C hm qF_X6_44 dX6_sample_158 ?_
              refine z_iload_n C dX6_sample_161 rfl ?_
              refine z_mld C hm dX6_sample_162 (by simp only [mln]; omega) ?_
              refine z_mst C hm hF dX6_sample_163 (by simp only [mln]; omega) (fun μ hm hF => ?_)
              obtain ⟨A6, e6⟩ : ∃ A6, A6 = u2 A5 13 (2 * Z0 + 1) (A5 14 (j : Int)) := ⟨_, rfl⟩
              rw [← e6] at hm
              have k6 : ∀ k, k ≠ 11 → k ≠ 12 → k ≠ 13 → A6 k = A k := fun k a b c => by rw [e6, u2_k c, e5, u2_k b, e4, u2_k a, e3, u2_k c, e2, u2_k b, e1, u2_k a]
              have x6 : ∀ k x, x ≠ 2 * Z0 → x ≠ 2 * Z0 + 1 → A6 k x = A k x := fun k x a b => by rw [e6, u2_i _ _ _ _ b, e5, u2_i _ _ _ _ b, e4, u2_i _ _ _ _ b, e3, u2_i _ _ _ _ a, e2, u2_i _ _ _ _ a, e1, u2_i _ _ _ _ a]
              have a11 : A6 11 (2 * Z0) = A 11 (2 * Z0 + 1) := by rw [e6, u2_k (by decide), e5, u2_k (by decide), e4, u2_i _ _ _ _ (by omega), e3, u2_k (by decide), e2, u2_k (by decide), e1, u2_s]
              have b11 : A6 11 (2 * Z0 + 1) = clk := by rw [e6, u2_k (by decide), e5, u2_k (by decide), e4, u2_s]
              have a12 : A6 12 (2 * Z0) = A 12 (2 * Z0 + 1) := by rw [e6, u2_k (by decide), e5, u2_i _ _ _ _ (by omega), e4, u2_k (by decide), e3, u2_k (by decide), e2, u2_s, e1, u2_k (by decide)]
              have b12 : A6 12 (2 * Z0 + 1) = (ob j q).2.1 := by rw [e6, u2_k (by decide), e5, u2_s, e4, u2_k (by decide), e3, u2_k (by decide), e2, u2_k (by decide), e1, u2_k (by decide)]; exact hoo.2.1
              have a13 : A6 13 (2 * Z0) = A 13 (2 * Z0 + 1) := by rw [e6, u2_i _ _ _ _ (by omega), e5, u2_k (by decide), e4, u2_k (by decide), e3, u2_s, e2, u2_k (by decide), e1, u2_k (by decide)]
              have b13 : A6 13 (2 * Z0 + 1) = rs j := by rw [e6, u2_s, e5, u2_k (by decide), e4, u2_k (by decide), e3, u2_k (by decide), e2, u2_k (by decide), e1, u2_k (by decide)]; exact hRs j hj
              have last : ∀ (nn : Int), nn = smN (smpO (ob j q) clk (rs j)) → ∀ ls, zsub ls [(0, .ref (M 0)), (2, .int (J Z0))] → Z w x (zQ w x P0 (fun _ _ => False) 0 0) 3 191 ls [.int (J nn), .int (J Z0), .ref (M 10)] μ 0 0 := by
                intro nn hnn ls hls
                refine z_ls _ hls ?_
                refine z_mst C hm hF dX6_sample_191 (by simp only [mln]; omega) (fun μ hm hF => ?_)
                refine z_aload_n C dX6_sample_192 rfl ?_
                refine z_mgf C hm qF_X6_19 dX6_sample_193 ?_
                refine z_iload_n C dX6_sample_196 rfl ?_
                refine z_mld C hm dX6_sample_197 (by simp only [mln]; omega) ?_
                obtain ⟨B, hB⟩ : ∃ B, B = u2 A6 10 Z0 nn := ⟨_, rfl⟩
                rw [← hB] at hm ⊢
                have Bk : ∀ k, k ≠ 10 → B k = A6 k := fun k a => by rw [hB, u2_k a]
                have B6 : B 6 Z0 = (ob j q).2.1 := by rw [Bk 6 (by decide), k6 6 (by decide) (by decide) (by decide)]; exact hoo.2.1
                rw [B6]
                refine z_iret C dX6_sample_198 ?_
                rw [hP0, fin]
                rw [hZ0] at hoo
                refine ⟨⟨_, rfl, fun _ => rfl⟩, ⟨B, hm, mI_upd (A' := B) hj hI hJ.1 hl hp ho h1 ?_ (by rw [Bk 3 (by decide), k6 3 (by decide) (by decide) (by decide)]) (by rw [Bk 4 (by decide), k6 4 (by decide) (by decide) (by decide)]) (fun z hz o h => mO_cg h (fun k a b => ?_) (fun k a b => ?_)), fun i hi => mR_cg (hRu i hi) (by rw [Bk 15 (by decide), k6 15 (by decide) (by decide) (by decide)]) (by rw [Bk 16 (by decide), k6 16 (by decide) (by decide) (by decide)]) (by rw [Bk 17 (by decide), k6 17 (by decide) (by decide) (by decide)]), fun i hi => by rw [Bk 14 (by decide), k6 14 (by decide) (by decide) (by decide)]; exact hRs i hi, fun i hi p' a b => by rw [Bk 23 (by decide), k6 23 (by decide) (by decide) (by decide)]; exact hNb i hi p' a b, mTr_cg hTr (fun k a b => by rw [Bk k (by omega), k6 k (by omega) (by omega) (by omega)]), fun c => by rw [Bk 9 (by decide), k6 9 (by decide) (by decide) (by decide)]; exact h9 c⟩, hF⟩
                · rw [← hZ0] at hoo ⊢
                  refine ⟨by rw [Bk 5 (by decide), k6 5 (by decide) (by decide) (by decide)]; exact hoo.1, B6, fun h => by rw [Bk 8 (by decide), k6 8 (by decide) (by decide) (by decide)]; exact hoo.2.2.1 h, fun l' u' ar' h => by rw [Bk 7 (by decide), k6 7 (by decide) (by decide) (by decide), Bk 8 (by decide), k6 8 (by decide) (by decide) (by decide), Bk 9 (by decide), k6 9 (by decide) (by decide) (by decide)]; exact hoo.2.2.2.1 l' u' ar' h, by rw [hB, u2_s]; exact hnn, fun e he => ?_, fun e he => ?_⟩
                  · have he' : some (clk, (ob j q).2.1, rs j) = some e := he
                    cases he'
                    rw [Bk 11 (by decide), Bk 12 (by decide), Bk 13 (by decide)]
                    exact ⟨b11, b12, b13⟩
                  · have := hoo.2.2.2.2.2.1 e he
                    rw [Bk 11 (by decide), Bk 12 (by decide), Bk 13 (by decide), a11, a12, a13]
                    exact this
                · by_cases k10 : k = 10
                  · rw [k10, hB, u2_i _ _ _ _ (by omega), k6 10 (by decide) (by decide) (by decide)]
                  · rw [Bk k k10, k6 k (by omega) (by omega) (by omega)]
                · rw [Bk k (by omega)]
                  exact ⟨x6 k _ (by omega) (by omega), x6 k _ (by omega) (by omega)⟩
              have sm2 : smN (smpO (ob j q) clk (rs j)) = if smN (ob j q) < 2 then smN (ob j q) + 1 else 2 := by
                have o6 := ((hJ.2.2.1 q hin).2).2.2.2.2.2
                unfold smN smpO
                cases h4 : (ob j q).2.2.2.2 with
                | none => simp
                | some f =>
                  cases h5 : (ob j q).2.2.2.1 with
                  | none => simp
                  | some e => simp
              refine z_aload_n C dX6_sample_164 rfl ?_
              refine z_mgf C hm qF_X6_32 dX6_sample_165 ?_
              refine z_iload_n C dX6_sample_168 rfl ?_
              refine z_aload_n C dX6_sample_169 rfl ?_
              refine z_mgf C hm qF_X6_32 dX6_sample_170 ?_
              refine z_iload_n C dX6_sample_173 rfl ?_
              refine z_mld C hm dX6_sample_174 (by simp only [mln]; omega) ?_
              rw [k6 10 (by decide) (by decide) (by decide), h10]
              refine z_iconst C dX6_sample_175 ?_
              refine z_icmp_ge (tgt := 190) C dX6_sample_176 (by decide) (by omega) (fun g6 => ?_) (fun g6 => ?_)
              · refine z_iconst C dX6_sample_190 ?_
                exact last 2 (by rw [sm2, if_neg (by omega)]) _ (by exact ⟨rfl, rfl, trivial⟩)
              · refine z_aload_n C dX6_sample_179 rfl ?_
                refine z_mgf C hm qF_X6_32 dX6_sample_180 ?_
                refine z_iload_n C dX6_sample_183 rfl ?_
                refine z_mld C hm dX6_sample_184 (by simp only [mln]; omega) ?_
                rw [k6 10 (by decide) (by decide) (by decide), h10]
                refine z_iconst C dX6_sample_185 ?_
                refine z_iadd C dX6_sample_186 ?_
                refine z_goto (tgt := 191) C dX6_sample_187 (by decide) ?_
                exact last _ (by rw [sm2, if_pos (by omega)]) _ (by exact ⟨rfl, rfl, trivial⟩)
            · omega
          · have hh : hidK (ru j) q = true := by cases h : hidK (ru j) q with | true => rfl | false => exact absurd (zB_eq.mpr h) g4
            refine z_iconst C dX6_sample_47 ?_
            refine z_goto (tgt := 52) C dX6_sample_48 (by decide) ?_
            exact fail 2 0 _ (by decide) (by rw [hr, spSample, if_neg (by omega), show ((j : Int)).toNat = j from rfl, if_pos (Or.inr hh)]) hm hF _ (by exact ⟨rfl, trivial⟩)
      · omega
  · rw [if_neg ha] at hm
    rw [decide_eq_false ha, show zB false = 0 from rfl]
    refine z_if_eq (tgt := 16) C dX6_sample_5 (by decide) (by omega) (fun g => ?_) (fun g => ?_)
    · refine z_iconst C dX6_sample_16 ?_
      refine z_istore_n C dX6_sample_17 ?_
      refine z_aload_n C dX6_sample_18 rfl ?_
      refine z_aload_n C dX6_sample_19 rfl ?_
      refine z_mg0 C hm qF_X6_71 dX6_sample_20 ?_
      refine z_if_le (tgt := 30) C dX6_sample_23 (by decide) (by omega) (fun g2 => ?_) (fun g2 => ?_)
      · omega
      · refine z_iconst C dX6_sample_26 ?_
        refine z_goto (tgt := 52) C dX6_sample_27 (by decide) ?_
        exact fail 1 1 _ (by decide) (by rw [hr, spSample, if_pos ha]) hm hF _ (by exact ⟨rfl, trivial⟩)
    · exact absurd rfl g
end MON
