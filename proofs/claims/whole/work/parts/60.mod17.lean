/-! hide -/
section MOT
variable {N t : Int} {s : Sg} {M : Nat → Nat} {μ : Mem}
theorem m_hide (w : Wd) (a h : Int) (hR : Rm μ M t s) (hO : okS N s) (h32 : in32 a) (hh32 : in32 h) : cM w yX6_hide cX6_hide 6 (some .int) 8 0 0 [.ref (M 0), .int (J a), .int (J h)] μ (okM M μ (spHide a h s)) (fun _ _ => False) := by
  obtain ⟨q, clk, dm, ob, ru, rn, rs, nb, tr⟩ := s
  obtain ⟨A, hm, hI, hRu, hRs, hNb, hTr, h9⟩ := hR
  have hF := Fm_rf μ M
  have hqk := hO.2.1
  have hqi := k11_in hqk
  have hci := hO.2.2.1
  have g0 := hm.1.1
  obtain ⟨r, hr⟩ : ∃ r, r = spHide a h (q, clk, dm, ob, ru, rn, rs, nb, tr) := ⟨_, rfl⟩
  rw [← hr]
  refine cM_of (fun x C => ?_)
  obtain ⟨P0, hP0⟩ : ∃ P0, P0 = okM M μ r := ⟨_, rfl⟩
  obtain ⟨μs, hμs⟩ : ∃ μs, μs = μ := ⟨_, rfl⟩
  rw [← hP0]
  rw [← hμs] at hP0
  have hF : Fm μs μ M := by rw [hμs]; exact Fm_rf _ _
  have bad : (¬ (0 ≤ a ∧ a ≤ 3) ∨ ¬ (0 ≤ h ∧ h ≤ 2)) → ∀ ls, zsub ls [(0, .ref (M 0))] → Z w x (zQ w x P0 (fun _ _ => False) 0 0) 6 18 ls [] μ 0 0 := by
    intro hb ls hls
    refine z_ls _ hls ?_
    refine z_aload_n C dX6_hide_18 rfl ?_
    refine z_iconst C dX6_hide_19 ?_
    refine z_callV C (c_fails w μ 1 hm) qM_X6_93 dX6_hide_20 rfl (zRc_o hm.1.1) (fun _ _ h => h.elim) ?_
    rintro _ μ5 ⟨rfl, hm, hF2⟩
    refine z_iret C dX6_hide_23 ?_
    rw [hP0, hr, spHide, if_pos hb]
    exact ⟨⟨_, rfl, fun h => by cases h⟩, ⟨A, hm, hI, hRu, hRs, hNb, hTr, h9⟩, Fm_tr hF hF2⟩
  refine z_iload_n C dX6_hide_0 rfl ?_
  refine z_iconst C dX6_hide_1 ?_
  refine z_iconst C dX6_hide_2 ?_
  refine z_callS C (c_in w μ a 0 3 h32 ⟨by decide, by decide⟩ ⟨by decide, by decide⟩) qM_X6_75 dX6_hide_3 rfl (fun _ _ h => h.elim) ?_
  rintro _ μ2 ⟨rfl, rfl⟩
  by_cases ha : 0 ≤ a ∧ a ≤ 3
  case neg =>
    rw [decide_eq_false ha, show zB false = 0 from rfl]
    refine z_if_eq (tgt := 18) C dX6_hide_6 (by decide) (by omega) (fun g => ?_) (fun g => ?_)
    · exact bad (Or.inl ha) _ (by exact ⟨rfl, trivial⟩)
    · exact absurd rfl g
  rw [decide_eq_true ha, show zB true = 1 from rfl]
  refine z_if_eq (tgt := 18) C dX6_hide_6 (by decide) (by omega) (fun g => ?_) (fun g => ?_)
  · exact absurd g (by decide)
  refine z_iload_n C dX6_hide_9 rfl ?_
  refine z_iconst C dX6_hide_10 ?_
  refine z_iconst C dX6_hide_11 ?_
  refine z_callS C (c_in w _ h 0 2 hh32 ⟨by decide, by decide⟩ ⟨by decide, by decide⟩) qM_X6_75 dX6_hide_12 rfl (fun _ _ h => h.elim) ?_
  rintro _ μ3 ⟨rfl, rfl⟩
  by_cases hh : 0 ≤ h ∧ h ≤ 2
  case neg =>
    rw [decide_eq_false hh, show zB false = 0 from rfl]
    refine z_if_ne (tgt := 24) C dX6_hide_15 (by decide) (by omega) (fun g => ?_) (fun g => ?_)
    · exact absurd rfl g
    · exact bad (Or.inr hh) _ (by exact ⟨rfl, trivial⟩)
  rw [decide_eq_true hh, show zB true = 1 from rfl]
  refine z_if_ne (tgt := 24) C dX6_hide_15 (by decide) (by omega) (fun g => ?_) (fun g => ?_)
  · obtain ⟨j, rfl⟩ : ∃ j : Nat, a = (j : Int) := ⟨a.toNat, by omega⟩
    have hj : j < 4 := by omega
    obtain ⟨l, ⟨r1, r2, r3, r4, r5⟩, r6⟩ := hRu j hj
    have hJ := hO.2.2.2.1 j hj
    have hruq := (hJ.2.2.2.1 q).1
    -- what is left at the end: the new row of rules
    have fin : ¬ (ru j q = 0 ∧ h ≠ 0 ∧ 10 ≤ rn j) → r = (0, ru j q, q, clk, dm, ob, u1 ru j (uI (ru j) q h), u1 rn j (rn j + nz h - nz (ru j q)), rs, nb, tr) := fun hno => by rw [hr, spHide, if_neg (by omega), show ((j : Int)).toNat = j from rfl, if_neg hno]
    have done : ∀ (B : Nat → Int → Int) (μ : Mem) (l2 : List Int), ¬ (ru j q = 0 ∧ h ≠ 0 ∧ 10 ≤ rn j) → (∀ k, k ≠ 15 → k ≠ 16 → k ≠ 17 → B k = A k) → ruP B j (uI (ru j) q h) l2 → rn j + nz h - nz (ru j q) = (l2.length : Int) → (∀ y : Int, y ≠ (j : Int) → B 15 y = A 15 y) → (∀ k y, k = 16 ∨ k = 17 → (y < 10 * (j : Int) ∨ 10 * (j : Int) + 9 < y) → B k y = A k y) → mS μ M 0 clk (k11 q) (tr.length : Int) B → Fm μs μ M → ∀ ls, zsub ls [(5, .int (J (ru j q)))] → Z w x (zQ w x P0 (fun _ _ => False) 0 0) 6 219 ls [] μ 0 0 := by
      intro B μ l2 hno hB hl2 hrn hB15 hB16 hm hF ls hls
      refine z_ls _ hls ?_
      refine z_iload C dX6_hide_219 rfl ?_
      refine z_iret C dX6_hide_221 ?_
      rw [hP0, fin hno]
      refine ⟨⟨_, rfl, fun _ => rfl⟩, ⟨B, hm, fun i' hi' => ?_, fun i' hi' => ?_, fun i' hi' => by rw [hB 14 (by decide) (by decide) (by decide)]; exact hRs i' hi', fun i' hi' p' a b => by rw [hB 23 (by decide) (by decide) (by decide)]; exact hNb i' hi' p' a b, mTr_cg hTr (fun k' a b => hB k' (by omega) (by omega) (by omega)), fun c => by rw [hB 9 (by decide) (by decide) (by decide)]; exact h9 c⟩, hF⟩
      · obtain ⟨l', ⟨c1, c2, c3⟩, c4, c5⟩ := hI i' hi'
        exact ⟨l', ⟨by rw [hB 3 (by decide) (by decide) (by decide)]; exact c1, c2, fun x k' hx => by rw [hB 4 (by decide) (by decide) (by decide)]; exact c3 x k' hx⟩, c4, fun x k' hx => mO_cg (c5 x k' hx) (fun k2 a b => by rw [hB k2 (by omega) (by omega) (by omega)]) (fun k2 a b => by rw [hB k2 (by omega) (by omega) (by omega)]; exact ⟨rfl, rfl⟩)⟩
      · by_cases hij : i' = j
        · subst hij
          rw [u1_s, u1_s]
          exact ⟨l2, hl2, hrn⟩
        · rw [u1_n _ _ hij, u1_n _ _ hij]
          obtain ⟨l', ⟨c1, c2, c3, c4, c5⟩, c6⟩ := hRu i' hi'
          refine ⟨l', ⟨by rw [hB15 _ (by omega)]; exact c1, c2, c3, fun x k' hx => ?_, c5⟩, c6⟩
          have := (List.getElem?_eq_some_iff.mp hx).1
          rw [hB16 16 _ (Or.inl rfl) (by omega), hB16 17 _ (Or.inr rfl) (by omega)]
          exact c4 x k' hx
    refine z_bipush C dX6_hide_24 ?_
    refine z_iload_n C dX6_hide_26 rfl ?_
    refine z_imul C dX6_hide_27 ?_
    refine z_aload_n C dX6_hide_28 rfl ?_
    refine z_mgf C hm qF_X6_47 dX6_hide_29 ?_
    refine z_iload_n C dX6_hide_32 rfl ?_
    refine z_mld C hm dX6_hide_33 (by simp only [mln]; omega) ?_
    rw [r1]
    refine z_iadd C dX6_hide_34 ?_
    refine z_istore_n C dX6_hide_35 ?_
    refine z_bipush C dX6_hide_36 ?_
    refine z_iload_n C dX6_hide_38 rfl ?_
    refine z_imul C dX6_hide_39 ?_
    refine z_istore C dX6_hide_40 ?_
    -- after the search: i the place of q, or the end
    have after : ∀ i : Nat, ((l[i]? = some q) ∨ (i = l.length ∧ q ∉ l)) → Z w x (zQ w x P0 (fun _ _ => False) 0 0) 6 68 [(0, .ref (M 0)), (1, .int (J (j : Int))), (2, .int (J h)), (3, .int (J (10 * (j : Int) + (l.length : Int)))), (4, .int (J (10 * (j : Int) + (i : Int))))] [] μ3 0 0 := by
      intro i hi
      have hil : i ≤ l.length := by
        rcases hi with h1 | h1
        · have := (List.getElem?_eq_some_iff.mp h1).1
          omega
        · omega
      -- past the check
      have past : ¬ (ru j q = 0 ∧ h ≠ 0 ∧ 10 ≤ rn j) → ∀ ls, zsub ls [(0, .ref (M 0)), (1, .int (J (j : Int))), (2, .int (J h)), (3, .int (J (10 * (j : Int) + (l.length : Int)))), (4, .int (J (10 * (j : Int) + (i : Int))))] → Z w x (zQ w x P0 (fun _ _ => False) 0 0) 6 94 ls [.ref (M 0)] μ3 0 0 := by
        intro hno ls hls
        refine z_ls _ hls ?_
        refine z_iconst C dX6_hide_94 ?_
        refine z_mp0 C hm hF qF_X6_71 dX6_hide_95 (fun μ hm hF => ?_)
        refine z_aload_n C dX6_hide_98 rfl ?_
        refine z_mg0 C hm qF_X6_71 dX6_hide_99 ?_
        refine z_if_le (tgt := 107) C dX6_hide_102 (by decide) (by omega) (fun g2 => ?_) (fun g2 => ?_)
        · refine z_iload C dX6_hide_107 rfl ?_
          refine z_iload_n C dX6_hide_109 rfl ?_
          rcases hi with h1 | ⟨h1, h1'⟩
          · obtain ⟨q1, q2, q3, q4⟩ := r4 i q h1
            have hi2 := (List.getElem?_eq_some_iff.mp h1).1
            refine z_icmp_ne (tgt := 117) C dX6_hide_110 (by decide) (by omega) (fun g3 => ?_) (fun g3 => ?_)
            · refine z_aload_n C dX6_hide_117 rfl ?_
              refine z_mgf C hm qF_X6_53 dX6_hide_118 ?_
              refine z_iload C dX6_hide_121 rfl ?_
              refine z_mld C hm dX6_hide_123 (by simp only [mln]; omega) ?_
              rw [q3]
              refine z_istore C dX6_hide_124 ?_
              refine z_iload_n C dX6_hide_126 rfl ?_
              refine z_if_ne (tgt := 176) C dX6_hide_127 (by decide) (by omega) (fun g4 => ?_) (fun g4 => ?_)
              · -- another rule
                have h0 : h ≠ 0 := g4
                refine z_iload_n C dX6_hide_176 rfl ?_
                refine z_if_le (tgt := 219) C dX6_hide_177 (by decide) (by omega) (fun g5 => ?_) (fun g5 => ?_)
                · omega
                · refine z_aload_n C dX6_hide_180 rfl ?_
                  refine z_mgf C hm qF_X6_50 dX6_hide_181 ?_
                  refine z_iload C dX6_hide_184 rfl ?_
                  refine z_aload_n C dX6_hide_186 rfl ?_
                  refine z_mg2 C hm qF_X6_90 dX6_hide_187 ?_
                  refine z_mst C hm hF dX6_hide_190 (by simp only [mln]; omega) (fun μ hm hF => ?_)
                  refine z_aload_n C dX6_hide_191 rfl ?_
                  refine z_mgf C hm qF_X6_53 dX6_hide_192 ?_
                  refine z_iload C dX6_hide_195 rfl ?_
                  refine z_iload_n C dX6_hide_197 rfl ?_
                  refine z_mst C hm hF dX6_hide_198 (by simp only [mln]; omega) (fun μ hm hF => ?_)
                  refine z_aload_n C dX6_hide_199 rfl ?_
                  refine z_mgf C hm qF_X6_47 dX6_hide_200 ?_
                  refine z_iload_n C dX6_hide_203 rfl ?_
                  refine z_dup2 C dX6_hide_204 ?_
                  refine z_mld C hm dX6_hide_205 (by simp only [mln]; omega) ?_
                  rw [u2_k (show (15 : Nat) ≠ 17 by decide), u2_k (show (15 : Nat) ≠ 16 by decide), r1]
                  refine z_iload C dX6_hide_206 rfl ?_
                  refine z_iload_n C dX6_hide_208 rfl ?_
                  refine z_icmp_ne (tgt := 216) C dX6_hide_209 (by decide) (by omega) (fun g6 => ?_) (fun g6 => ?_)
                  · refine z_iconst C dX6_hide_216 ?_
                    refine z_iadd C dX6_hide_217 ?_
                    refine z_mst C hm hF dX6_hide_218 (by simp only [mln]; omega) (fun μ hm hF => ?_)
                    refine done _ _ l hno (fun k a b c => by rw [u2_k a, u2_k c, u2_k b]) ⟨by rw [u2_s]; omega, r2, r3, fun x k hx => ?_, fun k hk => ?_⟩ (by unfold nz; rw [if_pos h0, if_pos q4, r6]; omega) (fun y hy => by rw [u2_i _ _ _ _ hy, u2_k (by decide), u2_k (by decide)]) (fun k y hk hy => ?_) hm hF _ (by exact ⟨rfl, trivial⟩)
                    · obtain ⟨v1, v2, v3, v4⟩ := r4 x k hx
                      have hxl := (List.getElem?_eq_some_iff.mp hx).1
                      by_cases hxi : x = i
                      · subst hxi
                        rw [h1] at hx
                        cases hx
                        refine ⟨v1, ?_, ?_, ?_⟩
                        · rw [u2_k (by decide), u2_k (by decide), u2_s]
                        · rw [u2_k (by decide), u2_s, uI_s]
                        · rw [uI_s]; exact h0
                      · have hkq : k ≠ q := fun e => hxi (by
                          subst e
                          obtain ⟨x1, x2⟩ := List.getElem?_eq_some_iff.mp hx
                          obtain ⟨y1, y2⟩ := List.getElem?_eq_some_iff.mp h1
                          rcases Nat.lt_trichotomy x i with hlt | he | hgt
                          · exact absurd (x2.trans y2.symm) (List.pairwise_iff_getElem.mp r3 x i x1 y1 hlt)
                          · exact he
                          · exact absurd (y2.trans x2.symm) (List.pairwise_iff_getElem.mp r3 i x y1 x1 hgt))
                        refine ⟨v1, ?_, ?_, ?_⟩
                        · rw [u2_k (by decide), u2_k (by decide), u2_i _ _ _ _ (by omega)]; exact v2
                        · rw [u2_k (by decide), u2_i _ _ _ _ (by omega), u2_k (by decide), uI_n _ _ hkq]; exact v3
                        · rw [uI_n _ _ hkq]; exact v4
                    · by_cases hkq : k = q
                      · rw [hkq]; exact List.mem_of_getElem? h1
                      · rw [uI_n _ _ hkq] at hk
                        exact r5 k hk
                    · rcases hk with rfl | rfl
                      · rw [u2_k (by decide), u2_k (by decide), u2_i _ _ _ _ (by omega)]
                      · rw [u2_k (by decide), u2_i _ _ _ _ (by omega), u2_k (by decide)]
                  · omega
              · -- the rule goes
                obtain ⟨e, he⟩ : ∃ e, l[l.length - 1]? = some e := ⟨_, List.getElem?_eq_getElem (by omega)⟩
                have hperm := swap_perm h1 he
                have hnd2 := hperm.nodup_iff.mp r3
                obtain ⟨w1, w2, w3, w4⟩ := r4 _ _ he
                have hget : ∀ x k, ((l.set i e).dropLast)[x]? = some k → x < l.length - 1 ∧ ((x = i ∧ k = e) ∨ (x ≠ i ∧ l[x]? = some k)) := by
                  intro x k hx
                  have hxl := (List.getElem?_eq_some_iff.mp hx).1
                  rw [List.length_dropLast, List.length_set] at hxl
                  rw [List.getElem?_dropLast, List.length_set, if_pos hxl, List.getElem?_set] at hx
                  refine ⟨hxl, ?_⟩
                  by_cases hxi : i = x
                  · rw [if_pos hxi, if_pos (by omega)] at hx
                    cases hx
                    exact Or.inl ⟨hxi.symm, rfl⟩
                  · rw [if_neg hxi] at hx
                    exact Or.inr ⟨fun e => hxi e.symm, hx⟩
                refine z_iload C dX6_hide_130 rfl ?_
                refine z_iload_n C dX6_hide_132 rfl ?_
                refine z_icmp_ge (tgt := 176) C dX6_hide_133 (by decide) (by omega) (fun g5 => ?_) (fun g5 => ?_)
                · omega
                · refine z_aload_n C dX6_hide_136 rfl ?_
                  refine z_mgf C hm qF_X6_47 dX6_hide_137 ?_
                  refine z_iload_n C dX6_hide_140 rfl ?_
                  refine z_dup2 C dX6_hide_141 ?_
                  refine z_mld C hm dX6_hide_142 (by simp only [mln]; omega) ?_
                  rw [r1]
                  refine z_iconst C dX6_hide_143 ?_
                  refine z_isub C dX6_hide_144 ?_
                  refine z_mst C hm hF dX6_hide_145 (by simp only [mln]; omega) (fun μ hm hF => ?_)
                  obtain ⟨A1, e1⟩ : ∃ A1, A1 = u2 A 15 (j : Int) ((l.length : Int) - 1) := ⟨_, rfl⟩
                  rw [← e1] at hm
                  refine z_aload_n C dX6_hide_146 rfl ?_
                  refine z_mgf C hm qF_X6_50 dX6_hide_147 ?_
                  refine z_iload C dX6_hide_150 rfl ?_
                  refine z_aload_n C dX6_hide_152 rfl ?_
                  refine z_mgf C hm qF_X6_50 dX6_hide_153 ?_
                  refine z_iload_n C dX6_hide_156 rfl ?_
                  refine z_iconst C dX6_hide_157 ?_
                  refine z_isub C dX6_hide_158 ?_
                  refine z_mld C hm dX6_hide_159 (by simp only [mln]; omega) ?_
                  refine z_mst C hm hF dX6_hide_160 (by simp only [mln]; omega) (fun μ hm hF => ?_)
                  obtain ⟨A2, e2⟩ : ∃ A2, A2 = u2 A1 16 (10 * (j : Int) + (i : Int)) (A1 16 (10 * (j : Int) + (l.length : Int) - 1)) := ⟨_, rfl⟩
                  rw [← e2] at hm
                  refine z_aload_n C dX6_hide_161 rfl ?_
                  refine z_mgf C hm qF_X6_53 dX6_hide_162 ?_
                  refine z_iload C dX6_hide_165 rfl ?_
                  refine z_aload_n C dX6_hide_167 rfl ?_
                  refine z_mgf C hm qF_X6_53 dX6_hide_168 ?_
                  refine z_iload_n C dX6_hide_171 rfl ?_
                  refine z_iconst C dX6_hide_172 ?_
                  refine z_isub C dX6_hide_173 ?_
                  refine z_mld C hm dX6_hide_174 (by simp only [mln]; omega) ?_
                  refine z_mst C hm hF dX6_hide_175 (by simp only [mln]; omega) (fun μ hm hF => ?_)
                  obtain ⟨A3, e3⟩ : ∃ A3, A3 = u2 A2 17 (10 * (j : Int) + (i : Int)) (A2 17 (10 * (j : Int) + (l.length : Int) - 1)) := ⟨_, rfl⟩
                  rw [← e3] at hm
                  refine z_iload_n C dX6_hide_176 rfl ?_
                  refine z_if_le (tgt := 219) C dX6_hide_177 (by decide) (by omega) (fun g6 => ?_) (fun g6 => ?_)
                  · refine done A3 _ ((l.set i e).dropLast) hno (fun k a b c => by rw [e3, u2_k c, e2, u2_k b, e1, u2_k a]) ⟨by rw [e3, u2_k (by decide), e2, u2_k (by decide), e1, u2_s, List.length_dropLast, List.length_set]; omega, by rw [List.length_dropLast, List.length_set]; omega, (List.nodup_cons.mp hnd2).2, fun x k hx => ?_, fun k hk => ?_⟩ (by unfold nz; rw [if_neg (by omega), if_pos q4, r6, List.length_dropLast, List.length_set]; omega) (fun y hy => by rw [e3, u2_k (by decide), e2, u2_k (by decide), e1, u2_i _ _ _ _ hy]) (fun k y hk hy => ?_) hm hF _ (by exact ⟨rfl, trivial⟩)
                    · have hkq : k ≠ q := fun e' => (List.nodup_cons.mp hnd2).1 (by rw [← e']; exact List.mem_of_getElem? hx)
                      obtain ⟨x1, x2⟩ := hget x k hx
                      rw [uI_n _ _ hkq]
                      rcases x2 with ⟨rfl, rfl⟩ | ⟨x3, x4⟩
                      · refine ⟨w1, ?_, ?_, w4⟩
                        · rw [e3, u2_k (by decide), e2, u2_s, e1, u2_k (by decide), ← w2]
                          congr 1
                          omega
                        · rw [e3, u2_s, e2, u2_k (by decide), e1, u2_k (by decide), ← w3]
                          congr 1
                          omega
                      · obtain ⟨v1, v2, v3, v4⟩ := r4 x k x4
                        refine ⟨v1, ?_, ?_, v4⟩
                        · rw [e3, u2_k (by decide), e2, u2_i _ _ _ _ (by omega), e1, u2_k (by decide)]; exact v2
                        · rw [e3, u2_i _ _ _ _ (by omega), e2, u2_k (by decide), e1, u2_k (by decide)]; exact v3
                    · by_cases hkq : k = q
                      · rw [hkq, uI_s] at hk
                        omega
                      · rw [uI_n _ _ hkq] at hk
                        rcases List.mem_cons.mp (hperm.mem_iff.mp (r5 k hk)) with e' | e'
                        · exact absurd e' hkq
                        · exact e'
                    · rcases hk with rfl | rfl
                      · rw [e3, u2_k (by decide), e2, u2_i _ _ _ _ (by omega), e1, u2_k (by decide)]
                      · rw [e3, u2_i _ _ _ _ (by omega), e2, u2_k (by decide), e1, u2_k (by decide)]
                  · omega
            · omega
          · -- no rule was there
            subst h1
            have hru0 : ru j q = 0 := Classical.byContradiction fun e => h1' (r5 q e)
            rw [hru0] at done hno
            refine z_icmp_ne (tgt := 117) C dX6_hide_110 (by decide) (by omega) (fun g3 => ?_) (fun g3 => ?_)
            · exact absurd rfl g3
            · refine z_iconst C dX6_hide_113 ?_
              refine z_goto (tgt := 124) C dX6_hide_114 (by decide) ?_
              refine z_istore C dX6_hide_124 ?_
              refine z_iload_n C dX6_hide_126 rfl ?_
              refine z_if_ne (tgt := 176) C dX6_hide_127 (by decide) (by omega) (fun g4 => ?_) (fun g4 => ?_)
              · have h0 : h ≠ 0 := g4
                have hlt : l.length < 10 := Classical.byContradiction fun e => hno ⟨rfl, h0, by omega⟩
                refine z_iload_n C dX6_hide_176 rfl ?_
                refine z_if_le (tgt := 219) C dX6_hide_177 (by decide) (by omega) (fun g5 => ?_) (fun g5 => ?_)
                · omega
                · refine z_aload_n C dX6_hide_180 rfl ?_
                  refine z_mgf C hm qF_X6_50 dX6_hide_181 ?_
                  refine z_iload C dX6_hide_184 rfl ?_
                  refine z_aload_n C dX6_hide_186 rfl ?_
                  refine z_mg2 C hm qF_X6_90 dX6_hide_187 ?_
                  refine z_mst C hm hF dX6_hide_190 (by simp only [mln]; omega) (fun μ hm hF => ?_)
                  refine z_aload_n C dX6_hide_191 rfl ?_
                  refine z_mgf C hm qF_X6_53 dX6_hide_192 ?_
                  refine z_iload C dX6_hide_195 rfl ?_
                  refine z_iload_n C dX6_hide_197 rfl ?_
                  refine z_mst C hm hF dX6_hide_198 (by simp only [mln]; omega) (fun μ hm hF => ?_)
                  refine z_aload_n C dX6_hide_199 rfl ?_
                  refine z_mgf C hm qF_X6_47 dX6_hide_200 ?_
                  refine z_iload_n C dX6_hide_203 rfl ?_
                  refine z_dup2 C dX6_hide_204 ?_
                  refine z_mld C hm dX6_hide_205 (by simp only [mln]; omega) ?_
                  rw [u2_k (show (15 : Nat) ≠ 17 by decide), u2_k (show (15 : Nat) ≠ 16 by decide), r1]
                  refine z_iload C dX6_hide_206 rfl ?_
                  refine z_iload_n C dX6_hide_208 rfl ?_
                  refine z_icmp_ne (tgt := 216) C dX6_hide_209 (by decide) (by omega) (fun g6 => ?_) (fun g6 => ?_)
                  · exact absurd rfl g6
                  · refine z_iconst C dX6_hide_212 ?_
                    refine z_goto (tgt := 217) C dX6_hide_213 (by decide) ?_
                    refine z_iadd C dX6_hide_217 ?_
                    refine z_mst C hm hF dX6_hide_218 (by simp only [mln]; omega) (fun μ hm hF => ?_)
                    refine done _ _ (l ++ [q]) hno (fun k a b c => by rw [u2_k a, u2_k c, u2_k b]) ⟨by rw [u2_s, List.length_append]; rfl, by rw [List.length_append]; simp; omega, List.nodup_append.mpr ⟨r3, by simp, fun b hb c hc e => h1' (by rw [← List.mem_singleton.mp hc, ← e]; exact hb)⟩, fun x k hx => ?_, fun k hk => ?_⟩ (by unfold nz; rw [if_pos h0, if_neg (by decide), r6, List.length_append]; simp) (fun y hy => by rw [u2_i _ _ _ _ hy, u2_k (by decide), u2_k (by decide)]) (fun k y hk hy => ?_) hm hF _ (by exact ⟨rfl, trivial⟩)
                    · by_cases hxl : x < l.length
                      · rw [List.getElem?_append_left hxl] at hx
                        obtain ⟨v1, v2, v3, v4⟩ := r4 x k hx
                        have hkq : k ≠ q := fun e => h1' (by rw [← e]; exact List.mem_of_getElem? hx)
                        refine ⟨v1, ?_, ?_, ?_⟩
                        · rw [u2_k (by decide), u2_k (by decide), u2_i _ _ _ _ (by omega)]; exact v2
                        · rw [u2_k (by decide), u2_i _ _ _ _ (by omega), u2_k (by decide), uI_n _ _ hkq]; exact v3
                        · rw [uI_n _ _ hkq]; exact v4
                      · rw [List.getElem?_append_right (by omega)] at hx
                        have hx0 : x = l.length := by
                          have := (List.getElem?_eq_some_iff.mp hx).1
                          simp at this
                          omega
                        subst hx0
                        rw [Nat.sub_self] at hx
                        cases hx
                        refine ⟨hqk, ?_, ?_, ?_⟩
                        · rw [u2_k (by decide), u2_k (by decide), u2_s]
                        · rw [u2_k (by decide), u2_s, uI_s]
                        · rw [uI_s]; exact h0
                    · by_cases hkq : k = q
                      · rw [hkq]; exact List.mem_append_right _ (List.mem_singleton.mpr rfl)
                      · rw [uI_n _ _ hkq] at hk
                        exact List.mem_append_left _ (r5 k hk)
                    · rcases hk with rfl | rfl
                      · rw [u2_k (by decide), u2_k (by decide), u2_i _ _ _ _ (by omega)]
                      · rw [u2_k (by decide), u2_i _ _ _ _ (by omega), u2_k (by decide)]
              · have h0 : h = 0 := by omega
                refine z_iload C dX6_hide_130 rfl ?_
                refine z_iload_n C dX6_hide_132 rfl ?_
                refine z_icmp_ge (tgt := 176) C dX6_hide_133 (by decide) (by omega) (fun g5 => ?_) (fun g5 => ?_)
                · refine z_iload_n C dX6_hide_176 rfl ?_
                  refine z_if_le (tgt := 219) C dX6_hide_177 (by decide) (by omega) (fun g6 => ?_) (fun g6 => ?_)
                  · refine done A _ l hno (fun _ _ _ _ => rfl) ?_ (by rw [h0, r6]; unfold nz; simp) (fun _ _ => rfl) (fun _ _ _ _ => rfl) hm hF _ (by exact ⟨rfl, trivial⟩)
                    rw [h0, show uI (ru j) q 0 = ru j by rw [← hru0]; exact uI_self _ _]
                    exact ⟨r1, r2, r3, r4, r5⟩
                  · omega
                · omega
        · omega
      refine z_aload_n C dX6_hide_68 rfl ?_
      refine z_iload C dX6_hide_69 rfl ?_
      refine z_iload_n C dX6_hide_71 rfl ?_
      rcases hi with h1 | ⟨h1, h1'⟩
      · have hi2 := (List.getElem?_eq_some_iff.mp h1).1
        have q4 := (r4 i q h1).2.2.2
        refine z_icmp_ne (tgt := 94) C dX6_hide_72 (by decide) (by omega) (fun g3 => ?_) (fun g3 => ?_)
        · exact past (fun e => q4 e.1) _ (by exact ⟨rfl, rfl, rfl, rfl, rfl, trivial⟩)
        · omega
      · subst h1
        have hru0 : ru j q = 0 := Classical.byContradiction fun e => h1' (r5 q e)
        refine z_icmp_ne (tgt := 94) C dX6_hide_72 (by decide) (by omega) (fun g3 => ?_) (fun g3 => ?_)
        · exact absurd rfl g3
        · refine z_aload_n C dX6_hide_75 rfl ?_
          refine z_mgf C hm qF_X6_47 dX6_hide_76 ?_
          refine z_iload_n C dX6_hide_79 rfl ?_
          refine z_mld C hm dX6_hide_80 (by simp only [mln]; omega) ?_
          rw [r1]
          refine z_bipush C dX6_hide_81 ?_
          refine z_icmp_ne (tgt := 94) C dX6_hide_83 (by decide) (by omega) (fun g4 => ?_) (fun g4 => ?_)
          · exact past (fun e => by omega) _ (by exact ⟨rfl, rfl, rfl, rfl, rfl, trivial⟩)
          · refine z_iload_n C dX6_hide_86 rfl ?_
            refine z_if_eq (tgt := 94) C dX6_hide_87 (by decide) (by omega) (fun g5 => ?_) (fun g5 => ?_)
            · exact past (fun e => e.2.1 g5) _ (by exact ⟨rfl, rfl, rfl, rfl, rfl, trivial⟩)
            · refine z_iconst C dX6_hide_90 ?_
              refine z_goto (tgt := 95) C dX6_hide_91 (by decide) ?_
              refine z_mp0 C hm hF qF_X6_71 dX6_hide_95 (fun μ hm hF => ?_)
              refine z_aload_n C dX6_hide_98 rfl ?_
              refine z_mg0 C hm qF_X6_71 dX6_hide_99 ?_
              refine z_if_le (tgt := 107) C dX6_hide_102 (by decide) (by omega) (fun g6 => ?_) (fun g6 => ?_)
              · omega
              · refine z_iconst C dX6_hide_105 ?_
                refine z_iret C dX6_hide_106 ?_
                rw [hP0, hr, spHide, if_neg (by omega), show ((j : Int)).toNat = j from rfl, if_pos ⟨hru0, g5, by omega⟩]
                exact ⟨⟨0, rfl, fun _ => rfl⟩, ⟨A, hm, hI, hRu, hRs, hNb, hTr, h9⟩, hF⟩
    have loop : ∀ (m i : Nat), i + m = l.length → q ∉ l.take i → Z w x (zQ w x P0 (fun _ _ => False) 0 0) 6 42 [(0, .ref (M 0)), (1, .int (J (j : Int))), (2, .int (J h)), (3, .int (J (10 * (j : Int) + (l.length : Int)))), (4, .int (J (10 * (j : Int) + (i : Int))))] [] μ3 0 0 := by
      intro m
      induction m with
      | zero =>
        intro i hi hq
        refine z_iload C dX6_hide_42 rfl ?_
        refine z_iload_n C dX6_hide_44 rfl ?_
        refine z_icmp_ge (tgt := 68) C dX6_hide_45 (by decide) (by omega) (fun g2 => ?_) (fun g2 => ?_)
        · rw [List.take_of_length_le (by omega)] at hq
          exact after i (Or.inr ⟨by omega, hq⟩)
        · omega
      | succ m ih =>
        intro i hi hq
        obtain ⟨k, hk⟩ : ∃ k, l[i]? = some k := ⟨_, List.getElem?_eq_getElem (by omega)⟩
        obtain ⟨k1, k2, -⟩ := r4 i k hk
        have k3 := k11_in k1
        refine z_iload C dX6_hide_42 rfl ?_
        refine z_iload_n C dX6_hide_44 rfl ?_
        refine z_icmp_ge (tgt := 68) C dX6_hide_45 (by decide) (by omega) (fun g2 => ?_) (fun g2 => ?_)
        · omega
        · refine z_aload_n C dX6_hide_48 rfl ?_
          refine z_mgf C hm qF_X6_50 dX6_hide_49 ?_
          refine z_iload C dX6_hide_52 rfl ?_
          refine z_mld C hm dX6_hide_54 (by simp only [mln]; omega) ?_
          rw [k2]
          refine z_aload_n C dX6_hide_55 rfl ?_
          refine z_mg2 C hm qF_X6_90 dX6_hide_56 ?_
          refine z_icmp_eq (tgt := 68) C dX6_hide_59 (by decide) (by omega) (fun g3 => ?_) (fun g3 => ?_)
          · exact after i (Or.inl (by rw [hk, (k11_inj k1 hqk).mp g3]))
          · refine z_iinc C dX6_hide_62 rfl ?_
            refine z_goto (tgt := 42) C dX6_hide_65 (by decide) ?_
            have K := ih (i + 1) (by omega) (fun hc => by
              rw [List.take_add_one, hk] at hc
              rcases List.mem_append.mp hc with hc | hc
              · exact hq hc
              · have : q = k := by simpa using hc
                exact g3 (by rw [this]))
            rw [show 10 * (j : Int) + ((i + 1 : Nat) : Int) = 10 * (j : Int) + (i : Int) + 1 by omega] at K
            exact z_ls _ (by exact ⟨rfl, rfl, rfl, rfl, rfl, trivial⟩) K
    have K := loop l.length 0 (by omega) (by simp)
    rw [show 10 * (j : Int) + ((0 : Nat) : Int) = 10 * (j : Int) by omega] at K
    exact z_ls _ (by exact ⟨rfl, rfl, rfl, rfl, rfl, trivial⟩) K
  · exact absurd g (by decide)
end MOT
