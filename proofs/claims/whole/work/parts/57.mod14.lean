/-! lays, remove -/
section MOQ
variable {N t : Int} {s : Sg} {M : Nat → Nat} {μ : Mem} {c p n : Int} {A : Nat → Int → Int}
theorem c_lays (w : Wd) (d f : Int) (hd : 0 ≤ d ∧ d < 80) (hf : 0 ≤ f ∧ f < 80) (h9 : ∀ c, A 9 c = 0 ∨ A 9 c = 1) (hm : mS μ M t c p n A) : cM w yX6_lays cX6_lays 4 none 1 0 0 [.ref (M 0), .int (J d), .int (J f)] μ (fun r μ' => r = none ∧ Fm μ μ' M ∧ ∃ A', mS μ' M t c p n A' ∧ (∀ k, k < 4 ∨ 13 < k → A' k = A k) ∧ (∀ k, 4 ≤ k → k ≤ 10 → A' k = uI (A k) d (A k f)) ∧ (∀ k, 11 ≤ k → k ≤ 13 → A' k = uI (uI (A k) (2 * d + 0) (A k (2 * f + 0))) (2 * d + 1) (A k (2 * f + 1)))) (fun _ _ => False) := by
  have hF := Fm_rf μ M
  obtain ⟨P, hP⟩ : ∃ P, P = fun (r : Option Value) (μ' : Mem) => r = none ∧ Fm μ μ' M ∧ ∃ A', mS μ' M t c p n A' ∧ (∀ k, k < 4 ∨ 13 < k → A' k = A k) ∧ (∀ k, 4 ≤ k → k ≤ 10 → A' k = uI (A k) d (A k f)) ∧ (∀ k, 11 ≤ k → k ≤ 13 → A' k = uI (uI (A k) (2 * d + 0) (A k (2 * f + 0))) (2 * d + 1) (A k (2 * f + 1))) := ⟨_, rfl⟩
  rw [← hP]
  refine cM_of (fun x C => ?_)
  refine z_aload_n C dX6_lays_0 rfl ?_
  refine z_mgf C hm qF_X6_13 dX6_lays_1 ?_
  refine z_iload_n C dX6_lays_4 rfl ?_
  refine z_aload_n C dX6_lays_5 rfl ?_
  refine z_mgf C hm qF_X6_13 dX6_lays_6 ?_
  refine z_iload_n C dX6_lays_9 rfl ?_
  refine z_mld C hm dX6_lays_10 (by simp only [mln]; omega) ?_
  refine z_mst C hm hF dX6_lays_11 (by simp only [mln]; omega) (fun μ hm hF => ?_)
  obtain ⟨A1, e1⟩ : ∃ A1, A1 = u2 A 4 d (A 4 f) := ⟨_, rfl⟩
  rw [← e1] at hm
  refine z_aload_n C dX6_lays_12 rfl ?_
  refine z_mgf C hm qF_X6_16 dX6_lays_13 ?_
  refine z_iload_n C dX6_lays_16 rfl ?_
  refine z_aload_n C dX6_lays_17 rfl ?_
  refine z_mgf C hm qF_X6_16 dX6_lays_18 ?_
  refine z_iload_n C dX6_lays_21 rfl ?_
  refine z_mld C hm dX6_lays_22 (by simp only [mln]; omega) ?_
  refine z_mst C hm hF dX6_lays_23 (by simp only [mln]; omega) (fun μ hm hF => ?_)
  obtain ⟨A2, e2⟩ : ∃ A2, A2 = u2 A1 5 d (A1 5 f) := ⟨_, rfl⟩
  rw [← e2] at hm
  refine z_aload_n C dX6_lays_24 rfl ?_
  refine z_mgf C hm qF_X6_19 dX6_lays_25 ?_
  refine z_iload_n C dX6_lays_28 rfl ?_
  refine z_aload_n C dX6_lays_29 rfl ?_
  refine z_mgf C hm qF_X6_19 dX6_lays_30 ?_
  refine z_iload_n C dX6_lays_33 rfl ?_
  refine z_mld C hm dX6_lays_34 (by simp only [mln]; omega) ?_
  refine z_mst C hm hF dX6_lays_35 (by simp only [mln]; omega) (fun μ hm hF => ?_)
  obtain ⟨A3, e3⟩ : ∃ A3, A3 = u2 A2 6 d (A2 6 f) := ⟨_, rfl⟩
  rw [← e3] at hm
  refine z_aload_n C dX6_lays_36 rfl ?_
  refine z_mgf C hm qF_X6_22 dX6_lays_37 ?_
  refine z_iload_n C dX6_lays_40 rfl ?_
  refine z_aload_n C dX6_lays_41 rfl ?_
  refine z_mgf C hm qF_X6_22 dX6_lays_42 ?_
  refine z_iload_n C dX6_lays_45 rfl ?_
  refine z_mld C hm dX6_lays_46 (by simp only [mln]; omega) ?_
  refine z_mst C hm hF dX6_lays_47 (by simp only [mln]; omega) (fun μ hm hF => ?_)
  obtain ⟨A4, e4⟩ : ∃ A4, A4 = u2 A3 7 d (A3 7 f) := ⟨_, rfl⟩
  rw [← e4] at hm
  refine z_aload_n C dX6_lays_48 rfl ?_
  refine z_mgf C hm qF_X6_25 dX6_lays_49 ?_
  refine z_iload_n C dX6_lays_52 rfl ?_
  refine z_aload_n C dX6_lays_53 rfl ?_
  refine z_mgf C hm qF_X6_25 dX6_lays_54 ?_
  refine z_iload_n C dX6_lays_57 rfl ?_
  refine z_mld C hm dX6_lays_58 (by simp only [mln]; omega) ?_
  refine z_mst C hm hF dX6_lays_59 (by simp only [mln]; omega) (fun μ hm hF => ?_)
  obtain ⟨A5, e5⟩ : ∃ A5, A5 = u2 A4 8 d (A4 8 f) := ⟨_, rfl⟩
  rw [← e5] at hm
  have k5 : ∀ k, 8 < k → A5 k = A k := fun k hk => by rw [e5, u2_k (by omega), e4, u2_k (by omega), e3, u2_k (by omega), e2, u2_k (by omega), e1, u2_k (by omega)]
  have h95 : A5 9 f = 0 ∨ A5 9 f = 1 := by rw [k5 9 (by decide)]; exact h9 f
  refine z_aload_n C dX6_lays_60 rfl ?_
  refine z_mgf C hm qF_X6_28 dX6_lays_61 ?_
  refine z_iload_n C dX6_lays_64 rfl ?_
  refine z_aload_n C dX6_lays_65 rfl ?_
  refine z_mgf C hm qF_X6_28 dX6_lays_66 ?_
  refine z_iload_n C dX6_lays_69 rfl ?_
  refine z_mldb C hm dX6_lays_70 (by simp only [mln]; omega) ?_
  refine z_mstb C hm hF dX6_lays_71 h95 (by simp only [mln]; omega) (fun μ hm hF => ?_)
  obtain ⟨A6, e6⟩ : ∃ A6, A6 = u2 A5 9 d (A5 9 f) := ⟨_, rfl⟩
  rw [← e6] at hm
  refine z_aload_n C dX6_lays_72 rfl ?_
  refine z_mgf C hm qF_X6_32 dX6_lays_73 ?_
  refine z_iload_n C dX6_lays_76 rfl ?_
  refine z_aload_n C dX6_lays_77 rfl ?_
  refine z_mgf C hm qF_X6_32 dX6_lays_78 ?_
  refine z_iload_n C dX6_lays_81 rfl ?_
  refine z_mld C hm dX6_lays_82 (by simp only [mln]; omega) ?_
  refine z_mst C hm hF dX6_lays_83 (by simp only [mln]; omega) (fun μ hm hF => ?_)
  obtain ⟨A7, e7⟩ : ∃ A7, A7 = u2 A6 10 d (A6 10 f) := ⟨_, rfl⟩
  rw [← e7] at hm
  have k7a : ∀ k, k < 4 ∨ 10 < k → A7 k = A k := fun k hk => by rw [e7, u2_k (by omega), e6, u2_k (by omega), e5, u2_k (by omega), e4, u2_k (by omega), e3, u2_k (by omega), e2, u2_k (by omega), e1, u2_k (by omega)]
  have k7b : ∀ k, 4 ≤ k → k ≤ 10 → A7 k = uI (A k) d (A k f) := by
    intro k a b
    rcases (by omega : k = 4 ∨ k = 5 ∨ k = 6 ∨ k = 7 ∨ k = 8 ∨ k = 9 ∨ k = 10) with rfl | rfl | rfl | rfl | rfl | rfl | rfl
    · rw [e7, u2_k (by decide), e6, u2_k (by decide), e5, u2_k (by decide), e4, u2_k (by decide), e3, u2_k (by decide), e2, u2_k (by decide), e1, u2_e]
    · rw [e7, u2_k (by decide), e6, u2_k (by decide), e5, u2_k (by decide), e4, u2_k (by decide), e3, u2_k (by decide), e2, u2_e, e1, u2_k (by decide)]
    · rw [e7, u2_k (by decide), e6, u2_k (by decide), e5, u2_k (by decide), e4, u2_k (by decide), e3, u2_e, e2, u2_k (by decide), e1, u2_k (by decide)]
    · rw [e7, u2_k (by decide), e6, u2_k (by decide), e5, u2_k (by decide), e4, u2_e, e3, u2_k (by decide), e2, u2_k (by decide), e1, u2_k (by decide)]
    · rw [e7, u2_k (by decide), e6, u2_k (by decide), e5, u2_e, e4, u2_k (by decide), e3, u2_k (by decide), e2, u2_k (by decide), e1, u2_k (by decide)]
    · rw [e7, u2_k (by decide), e6, u2_e, k5 9 (by decide)]
    · rw [e7, u2_e, e6, u2_k (by decide), k5 10 (by decide)]
  refine z_iconst C dX6_lays_84 ?_
  refine z_istore_n C dX6_lays_85 ?_
  refine z_iload_n C dX6_lays_86 rfl ?_
  refine z_iconst C dX6_lays_87 ?_
  refine z_icmp_ge (tgt := 157) C dX6_lays_88 (by decide) (by omega) (fun g => ?_) (fun g => ?_)
  · exact absurd g (by decide)
  refine z_aload_n C dX6_lays_91 rfl ?_
  refine z_mgf C hm qF_X6_35 dX6_lays_92 ?_
  refine z_iconst C dX6_lays_95 ?_
  refine z_iload_n C dX6_lays_96 rfl ?_
  refine z_imul C dX6_lays_97 ?_
  refine z_iload_n C dX6_lays_98 rfl ?_
  refine z_iadd C dX6_lays_99 ?_
  refine z_aload_n C dX6_lays_100 rfl ?_
  refine z_mgf C hm qF_X6_35 dX6_lays_101 ?_
  refine z_iconst C dX6_lays_104 ?_
  refine z_iload_n C dX6_lays_105 rfl ?_
  refine z_imul C dX6_lays_106 ?_
  refine z_iload_n C dX6_lays_107 rfl ?_
  refine z_iadd C dX6_lays_108 ?_
  refine z_mld C hm dX6_lays_109 (by simp only [mln]; omega) ?_
  refine z_mst C hm hF dX6_lays_110 (by simp only [mln]; omega) (fun μ hm hF => ?_)
  obtain ⟨A8, e8⟩ : ∃ A8, A8 = u2 A7 11 (2 * d + 0) (A7 11 (2 * f + 0)) := ⟨_, rfl⟩
  rw [← e8] at hm
  refine z_aload_n C dX6_lays_111 rfl ?_
  refine z_mgf C hm qF_X6_38 dX6_lays_112 ?_
  refine z_iconst C dX6_lays_115 ?_
  refine z_iload_n C dX6_lays_116 rfl ?_
  refine z_imul C dX6_lays_117 ?_
  refine z_iload_n C dX6_lays_118 rfl ?_
  refine z_iadd C dX6_lays_119 ?_
  refine z_aload_n C dX6_lays_120 rfl ?_
  refine z_mgf C hm qF_X6_38 dX6_lays_121 ?_
  refine z_iconst C dX6_lays_124 ?_
  refine z_iload_n C dX6_lays_125 rfl ?_
  refine z_imul C dX6_lays_126 ?_
  refine z_iload_n C dX6_lays_127 rfl ?_
  refine z_iadd C dX6_lays_128 ?_
  refine z_mld C hm dX6_lays_129 (by simp only [mln]; omega) ?_
  refine z_mst C hm hF dX6_lays_130 (by simp only [mln]; omega) (fun μ hm hF => ?_)
  obtain ⟨A9, e9⟩ : ∃ A9, A9 = u2 A8 12 (2 * d + 0) (A8 12 (2 * f + 0)) := ⟨_, rfl⟩
  rw [← e9] at hm
  refine z_aload_n C dX6_lays_131 rfl ?_
  refine z_mgf C hm qF_X6_41 dX6_lays_132 ?_
  refine z_iconst C dX6_lays_135 ?_
  refine z_iload_n C dX6_lays_136 rfl ?_
  refine z_imul C dX6_lays_137 ?_
  refine z_iload_n C dX6_lays_138 rfl ?_
  refine z_iadd C dX6_lays_139 ?_
  refine z_aload_n C dX6_lays_140 rfl ?_
  refine z_mgf C hm qF_X6_41 dX6_lays_141 ?_
  refine z_iconst C dX6_lays_144 ?_
  refine z_iload_n C dX6_lays_145 rfl ?_
  refine z_imul C dX6_lays_146 ?_
  refine z_iload_n C dX6_lays_147 rfl ?_
  refine z_iadd C dX6_lays_148 ?_
  refine z_mld C hm dX6_lays_149 (by simp only [mln]; omega) ?_
  refine z_mst C hm hF dX6_lays_150 (by simp only [mln]; omega) (fun μ hm hF => ?_)
  obtain ⟨A10, e10⟩ : ∃ A10, A10 = u2 A9 13 (2 * d + 0) (A9 13 (2 * f + 0)) := ⟨_, rfl⟩
  rw [← e10] at hm
  refine z_iinc C dX6_lays_151 rfl ?_
  refine z_goto (tgt := 86) C dX6_lays_154 (by decide) ?_
  refine z_iload_n C dX6_lays_86 rfl ?_
  refine z_iconst C dX6_lays_87 ?_
  refine z_icmp_ge (tgt := 157) C dX6_lays_88 (by decide) (by omega) (fun g => ?_) (fun g => ?_)
  · exact absurd g (by decide)
  refine z_aload_n C dX6_lays_91 rfl ?_
  refine z_mgf C hm qF_X6_35 dX6_lays_92 ?_
  refine z_iconst C dX6_lays_95 ?_
  refine z_iload_n C dX6_lays_96 rfl ?_
  refine z_imul C dX6_lays_97 ?_
  refine z_iload_n C dX6_lays_98 rfl ?_
  refine z_iadd C dX6_lays_99 ?_
  refine z_aload_n C dX6_lays_100 rfl ?_
  refine z_mgf C hm qF_X6_35 dX6_lays_101 ?_
  refine z_iconst C dX6_lays_104 ?_
  refine z_iload_n C dX6_lays_105 rfl ?_
  refine z_imul C dX6_lays_106 ?_
  refine z_iload_n C dX6_lays_107 rfl ?_
  refine z_iadd C dX6_lays_108 ?_
  refine z_mld C hm dX6_lays_109 (by simp only [mln]; omega) ?_
  refine z_mst C hm hF dX6_lays_110 (by simp only [mln]; omega) (fun μ hm hF => ?_)
  rw [show (0 : Int) + 1 = 1 from rfl] at *
  obtain ⟨A11, e11⟩ : ∃ A11, A11 = u2 A10 11 (2 * d + 1) (A10 11 (2 * f + 1)) := ⟨_, rfl⟩
  rw [← e11] at hm
  refine z_aload_n C dX6_lays_111 rfl ?_
  refine z_mgf C hm qF_X6_38 dX6_lays_112 ?_
  refine z_iconst C dX6_lays_115 ?_
  refine z_iload_n C dX6_lays_116 rfl ?_
  refine z_imul C dX6_lays_117 ?_
  refine z_iload_n C dX6_lays_118 rfl ?_
  refine z_iadd C dX6_lays_119 ?_
  refine z_aload_n C dX6_lays_120 rfl ?_
  refine z_mgf C hm qF_X6_38 dX6_lays_121 ?_
  refine z_iconst C dX6_lays_124 ?_
  refine z_iload_n C dX6_lays_125 rfl ?_
  refine z_imul C dX6_lays_126 ?_
  refine z_iload_n C dX6_lays_127 rfl ?_
  refine z_iadd C dX6_lays_128 ?_
  refine z_mld C hm dX6_lays_129 (by simp only [mln]; omega) ?_
  refine z_mst C hm hF dX6_lays_130 (by simp only [mln]; omega) (fun μ hm hF => ?_)
  obtain ⟨A12, e12⟩ : ∃ A12, A12 = u2 A11 12 (2 * d + 1) (A11 12 (2 * f + 1)) := ⟨_, rfl⟩
  rw [← e12] at hm
  refine z_aload_n C dX6_lays_131 rfl ?_
  refine z_mgf C hm qF_X6_41 dX6_lays_132 ?_
  refine z_iconst C dX6_lays_135 ?_
  refine z_iload_n C dX6_lays_136 rfl ?_
  refine z_imul C dX6_lays_137 ?_
  refine z_iload_n C dX6_lays_138 rfl ?_
  refine z_iadd C dX6_lays_139 ?_
  refine z_aload_n C dX6_lays_140 rfl ?_
  refine z_mgf C hm qF_X6_41 dX6_lays_141 ?_
  refine z_iconst C dX6_lays_144 ?_
  refine z_iload_n C dX6_lays_145 rfl ?_
  refine z_imul C dX6_lays_146 ?_
  refine z_iload_n C dX6_lays_147 rfl ?_
  refine z_iadd C dX6_lays_148 ?_
  refine z_mld C hm dX6_lays_149 (by simp only [mln]; omega) ?_
  refine z_mst C hm hF dX6_lays_150 (by simp only [mln]; omega) (fun μ hm hF => ?_)
  obtain ⟨A13, e13⟩ : ∃ A13, A13 = u2 A12 13 (2 * d + 1) (A12 13 (2 * f + 1)) := ⟨_, rfl⟩
  rw [← e13] at hm
  refine z_iinc C dX6_lays_151 rfl ?_
  refine z_goto (tgt := 86) C dX6_lays_154 (by decide) ?_
  refine z_iload_n C dX6_lays_86 rfl ?_
  refine z_iconst C dX6_lays_87 ?_
  refine z_icmp_ge (tgt := 157) C dX6_lays_88 (by decide) (by omega) (fun g => ?_) (fun g => ?_)
  · refine z_vret C dX6_lays_157 ?_
    rw [hP]
    refine ⟨rfl, hF, A13, hm, fun k hk => ?_, fun k a b => ?_, fun k a b => ?_⟩
    · rw [e13, u2_k (by omega), e12, u2_k (by omega), e11, u2_k (by omega), e10, u2_k (by omega), e9, u2_k (by omega), e8, u2_k (by omega)]
      exact k7a k (by omega)
    · rw [e13, u2_k (by omega), e12, u2_k (by omega), e11, u2_k (by omega), e10, u2_k (by omega), e9, u2_k (by omega), e8, u2_k (by omega)]
      exact k7b k a b
    · rcases (by omega : k = 11 ∨ k = 12 ∨ k = 13) with rfl | rfl | rfl
      · rw [e13, u2_k (by decide), e12, u2_k (by decide), e11, u2_e, e10, u2_k (by decide), e9, u2_k (by decide), e8, u2_e, k7a 11 (by decide), uI_n _ _ (show 2 * f + 1 ≠ 2 * d + 0 by omega)]
      · rw [e13, u2_k (by decide), e12, u2_e, e11, u2_k (by decide), e10, u2_k (by decide), e9, u2_e, e8, u2_k (by decide), k7a 12 (by decide), uI_n _ _ (show 2 * f + 1 ≠ 2 * d + 0 by omega)]
      · rw [e13, u2_e, e12, u2_k (by decide), e11, u2_k (by decide), e10, u2_e, e9, u2_k (by decide), e8, u2_k (by decide), k7a 13 (by decide), uI_n _ _ (show 2 * f + 1 ≠ 2 * d + 0 by omega)]
  · exact absurd g (by decide)
end MOQ
