/-! put -/
section MOS
variable {N t : Int} {s : Sg} {M : Nat → Nat} {μ : Mem}
theorem put_perm {l dm : List Int} {q : Int} (hp : l.Perm dm) (hnd : dm.Nodup) (hin : q ∈ dm) : l.Perm (q :: dm.filter (fun z => !decide (z = q))) := by
  obtain ⟨i, hi⟩ := List.getElem?_of_mem (hp.mem_iff.mpr hin)
  have h1 := er_perm hi
  exact h1.trans (List.Perm.cons q (filt_perm h1 hp hnd))
theorem m_put (w : Wd) (a k v : Int) (hR : Rm μ M t s) (hO : okS N s) (h32 : in32 a) (hk32 : in32 k) (hv32 : in32 v) : cM w yX6_put cX6_put 6 (some .int) 8 0 0 [.ref (M 0), .int (J a), .int (J k), .int (J v)] μ (okM M μ (spPut a k v s)) (fun _ _ => False) := by
  obtain ⟨q, clk, dm, ob, ru, rn, rs, nb, tr⟩ := s
  obtain ⟨A, hm, hI, hRu, hRs, hNb, hTr, h9⟩ := hR
  have hF := Fm_rf μ M
  have hqk := hO.2.1
  have hqi := k11_in hqk
  have hci := hO.2.2.1
  have g0 := hm.1.1
  obtain ⟨r, hr⟩ : ∃ r, r = spPut a k v (q, clk, dm, ob, ru, rn, rs, nb, tr) := ⟨_, rfl⟩
  rw [← hr]
  refine cM_of (fun x C => ?_)
  obtain ⟨P0, hP0⟩ : ∃ P0, P0 = okM M μ r := ⟨_, rfl⟩
  obtain ⟨μs, hμs⟩ : ∃ μs, μs = μ := ⟨_, rfl⟩
  rw [← hP0]
  rw [← hμs] at hP0
  have hF : Fm μs μ M := by rw [hμs]; exact Fm_rf _ _
  have bad : (¬ (0 ≤ a ∧ a ≤ 3) ∨ ¬ (k = 0 ∨ k = 1)) → ∀ ls, zsub ls [(0, .ref (M 0))] → Z w x (zQ w x P0 (fun _ _ => False) 0 0) 6 18 ls [] μ 0 0 := by
    intro h ls hls
    refine z_ls _ hls ?_
    refine z_aload_n C dX6_put_18 rfl ?_
    refine z_iconst C dX6_put_19 ?_
    refine z_callV C (c_fails w μ 1 hm) qM_X6_93 dX6_put_20 rfl (zRc_o hm.1.1) (fun _ _ h => h.elim) ?_
    rintro _ μ5 ⟨rfl, hm, hF2⟩
    refine z_iret C dX6_put_23 ?_
    rw [hP0, hr, spPut, if_pos h]
    exact ⟨⟨_, rfl, fun h => by cases h⟩, ⟨A, hm, hI, hRu, hRs, hNb, hTr, h9⟩, Fm_tr hF hF2⟩
  have fail : ∀ (code : Int) (μ : Mem), 0 < code ∧ code ≤ 3 → r = (code, 0, q, clk, dm, ob, ru, rn, rs, nb, tr) → mS μ M t clk (k11 q) (tr.length : Int) A → Fm μs μ M → ∀ ls, zsub ls [(0, .ref (M 0))] → Z w x (zQ w x P0 (fun _ _ => False) 0 0) 6 76 ls [.int (J code), .ref (M 0)] μ 0 0 := by
    intro code μ hc he hm hF ls hls
    refine z_ls _ hls ?_
    refine z_mp0 C hm hF qF_X6_71 dX6_put_76 (fun μ hm hF => ?_)
    refine z_aload_n C dX6_put_79 rfl ?_
    refine z_mg0 C hm qF_X6_71 dX6_put_80 ?_
    refine z_if_le (tgt := 88) C dX6_put_83 (by decide) (by omega) (fun g => ?_) (fun g => ?_)
    · omega
    · refine z_iconst C dX6_put_86 ?_
      exact z_iret C dX6_put_87 (by rw [hP0, he]; exact ⟨⟨0, rfl, fun _ => rfl⟩, ⟨A, hm, hI, hRu, hRs, hNb, hTr, h9⟩, hF⟩)
  refine z_iload_n C dX6_put_0 rfl ?_
  refine z_iconst C dX6_put_1 ?_
  refine z_iconst C dX6_put_2 ?_
  refine z_callS C (c_in w μ a 0 3 h32 ⟨by decide, by decide⟩ ⟨by decide, by decide⟩) qM_X6_75 dX6_put_3 rfl (fun _ _ h => h.elim) ?_
  rintro _ μ2 ⟨rfl, rfl⟩
  by_cases ha : 0 ≤ a ∧ a ≤ 3
  case neg =>
    rw [decide_eq_false ha, show zB false = 0 from rfl]
    refine z_if_eq (tgt := 18) C dX6_put_6 (by decide) (by omega) (fun g => ?_) (fun g => ?_)
    · exact bad (Or.inl ha) _ (by exact ⟨rfl, trivial⟩)
    · exact absurd rfl g
  rw [decide_eq_true ha, show zB true = 1 from rfl]
  refine z_if_eq (tgt := 18) C dX6_put_6 (by decide) (by omega) (fun g => ?_) (fun g => ?_)
  · exact absurd g (by decide)
  refine z_iload_n C dX6_put_9 rfl ?_
  refine z_iconst C dX6_put_10 ?_
  refine z_iconst C dX6_put_11 ?_
  refine z_callS C (c_in w _ k 0 1 hk32 ⟨by decide, by decide⟩ ⟨by decide, by decide⟩) qM_X6_75 dX6_put_12 rfl (fun _ _ h => h.elim) ?_
  rintro _ μ3 ⟨rfl, rfl⟩
  by_cases hk : 0 ≤ k ∧ k ≤ 1
  case neg =>
    rw [decide_eq_false hk, show zB false = 0 from rfl]
    refine z_if_ne (tgt := 24) C dX6_put_15 (by decide) (by omega) (fun g => ?_) (fun g => ?_)
    · exact absurd rfl g
    · exact bad (Or.inr (by omega)) _ (by exact ⟨rfl, trivial⟩)
  rw [decide_eq_true hk, show zB true = 1 from rfl]
  refine z_if_ne (tgt := 24) C dX6_put_15 (by decide) (by omega) (fun g => ?_) (fun g => ?_)
  · obtain ⟨j, rfl⟩ : ∃ j : Nat, a = (j : Int) := ⟨a.toNat, by omega⟩
    have hj : j < 4 := by omega
    obtain ⟨l, hl, hp, ho⟩ := hI j hj
    have hJ := hO.2.2.2.1 j hj
    obtain ⟨hl1, hl2, hl3⟩ := id hl
    have hlen := hp.length_eq
    refine z_aload_n C dX6_put_24 rfl ?_
    refine z_iload_n C dX6_put_25 rfl ?_
    refine z_callV C (c_slot w _ j l q hj hqk hl hm) qM_X6_96 dX6_put_26 rfl (zRc_o hm.1.1) (fun _ _ h => h.elim) ?_
    rintro _ μ4 ⟨⟨z, rfl, hz⟩, rfl⟩
    have hzr := slP_in hz hl.2.1 hj
    refine z_istore C dX6_put_29 ?_
    refine z_aload_n C dX6_put_31 rfl ?_
    refine z_iload_n C dX6_put_32 rfl ?_
    refine z_iconst C dX6_put_33 ?_
    refine z_sipush C dX6_put_34 ?_
    refine z_callS C (c_in w _ v 0 999 hv32 ⟨by decide, by decide⟩ ⟨by decide, by decide⟩) qM_X6_75 dX6_put_37 rfl (fun _ _ h => h.elim) ?_
    rintro _ μ5 ⟨rfl, rfl⟩
    by_cases hv : 0 ≤ v ∧ v ≤ 999
    case neg =>
      rw [decide_eq_false hv, show zB false = 0 from rfl]
      refine z_if_ne (tgt := 47) C dX6_put_40 (by decide) (by omega) (fun g2 => ?_) (fun g2 => ?_)
      · exact absurd rfl g2
      · refine z_iconst C dX6_put_43 ?_
        refine z_goto (tgt := 76) C dX6_put_44 (by decide) ?_
        exact fail 2 _ (by decide) (by rw [hr, spPut, if_neg (by omega), if_pos hv]) hm hF _ (by exact ⟨rfl, trivial⟩)
    rw [decide_eq_true hv, show zB true = 1 from rfl]
    refine z_if_ne (tgt := 47) C dX6_put_40 (by decide) (by omega) (fun g2 => ?_) (fun g2 => ?_)
    · have k110 : k11 q = 0 ↔ q = 0 := by
        have := k11_inj hqk okK_0
        rw [show k11 0 = 0 from by decide] at this
        exact this
      have three : (q = 0 ∨ (q ∉ dm j ∧ 20 ≤ (dm j).length)) → ∀ ls, zsub ls [(0, .ref (M 0))] → Z w x (zQ w x P0 (fun _ _ => False) 0 0) 6 71 ls [.ref (M 0)] μ5 0 0 := by
        intro h ls hls
        refine z_ls _ hls ?_
        refine z_iconst C dX6_put_71 ?_
        refine z_goto (tgt := 76) C dX6_put_72 (by decide) ?_
        exact fail 3 _ (by decide) (by rw [hr, spPut, if_neg (by omega), if_neg (by omega), show ((j : Int)).toNat = j from rfl, if_pos h]) hm hF _ (by exact ⟨rfl, trivial⟩)
      -- the slot d is written; the row's list is l2 after
      have lay : ∀ (had d : Int) (l2 : List Int) (i0 : Nat) (B : Nat → Int → Int) (μ : Mem), ¬ (q = 0 ∨ (q ∉ dm j ∧ 20 ≤ (dm j).length)) → had = vK (dm j) (ob j) q → d = 20 * (j : Int) + (i0 : Int) → l2[i0]? = some q → l2.length ≤ 20 → (∀ x k', l2[x]? = some k' → x ≠ i0 → l[x]? = some k') → (∀ x k', l2[x]? = some k' → x ≠ i0 → k' ≠ q) → l2.Perm (q :: (dm j).filter (fun z => !decide (z = q))) → B 3 (j : Int) = (l2.length : Int) → (∀ y : Int, y ≠ (j : Int) → B 3 y = A 3 y) → (∀ k', k' ≠ 3 → B k' = A k') → mS μ M 0 clk (k11 q) (tr.length : Int) B → Fm μs μ M → ∀ ls, zsub ls [(0, .ref (M 0)), (2, .int (J k)), (3, .int (J v)), (4, .int (J d)), (5, .int (J had))] → Z w x (zQ w x P0 (fun _ _ => False) 0 0) 6 136 ls [] μ 0 0 := by
        intro had d l2 i0 B μ hno hhad hd hi0 hl2 hold hne hperm hB3 hB3o hBk hm hF ls hls
        refine z_ls _ hls ?_
        have hi0l := (List.getElem?_eq_some_iff.mp hi0).1
        have fin : r = (0, vK (dm j) (ob j) q, q, clk, u1 dm j (q :: (dm j).filter (fun z => !decide (z = q))), uO ob j q (k, v, none, none, none), ru, rn, rs, nb, tr) := by rw [hr, spPut, if_neg (by omega), if_neg (by omega), show ((j : Int)).toNat = j from rfl, if_neg hno]
        refine z_aload_n C dX6_put_136 rfl ?_
        refine z_mgf C hm qF_X6_13 dX6_put_137 ?_
        refine z_iload C dX6_put_140 rfl ?_
        refine z_aload_n C dX6_put_142 rfl ?_
        refine z_mg2 C hm qF_X6_90 dX6_put_143 ?_
        refine z_mst C hm hF dX6_put_146 (by simp only [mln]; omega) (fun μ hm hF => ?_)
        refine z_aload_n C dX6_put_147 rfl ?_
        refine z_mgf C hm qF_X6_16 dX6_put_148 ?_
        refine z_iload C dX6_put_151 rfl ?_
        refine z_iload_n C dX6_put_153 rfl ?_
        refine z_mst C hm hF dX6_put_154 (by simp only [mln]; omega) (fun μ hm hF => ?_)
        refine z_aload_n C dX6_put_155 rfl ?_
        refine z_mgf C hm qF_X6_19 dX6_put_156 ?_
        refine z_iload C dX6_put_159 rfl ?_
        refine z_iload_n C dX6_put_161 rfl ?_
        refine z_mst C hm hF dX6_put_162 (by simp only [mln]; omega) (fun μ hm hF => ?_)
        refine z_aload_n C dX6_put_163 rfl ?_
        refine z_mgf C hm qF_X6_25 dX6_put_164 ?_
        refine z_iload C dX6_put_167 rfl ?_
        refine z_iconst C dX6_put_169 ?_
        refine z_mst C hm hF dX6_put_170 (by simp only [mln]; omega) (fun μ hm hF => ?_)
        refine z_aload_n C dX6_put_171 rfl ?_
        refine z_mgf C hm qF_X6_32 dX6_put_172 ?_
        refine z_iload C dX6_put_175 rfl ?_
        refine z_iconst C dX6_put_177 ?_
        refine z_mst C hm hF dX6_put_178 (by simp only [mln]; omega) (fun μ hm hF => ?_)
        refine z_iload C dX6_put_179 rfl ?_
        obtain ⟨E, hE⟩ : ∃ E, E = u2 (u2 (u2 (u2 (u2 B 4 d (k11 q)) 5 d k) 6 d v) 8 d 0) 10 d 0 := ⟨_, rfl⟩
        rw [← hE] at hm
        have Ek : ∀ k', k' ≠ 4 → k' ≠ 5 → k' ≠ 6 → k' ≠ 8 → k' ≠ 10 → E k' = B k' := fun k' a b c d' e => by rw [hE, u2_k e, u2_k d', u2_k c, u2_k b, u2_k a]
        have Ez : ∀ k' y, y ≠ d → E k' y = B k' y := fun k' y hy => by rw [hE, u2_i _ _ _ _ hy, u2_i _ _ _ _ hy, u2_i _ _ _ _ hy, u2_i _ _ _ _ hy, u2_i _ _ _ _ hy]
        have Ea : ∀ k', k' ≠ 3 → k' ≠ 4 → k' ≠ 5 → k' ≠ 6 → k' ≠ 8 → k' ≠ 10 → E k' = A k' := fun k' a0 a b c d' e => (Ek k' a b c d' e).trans (hBk k' a0)
        refine z_iret C dX6_put_181 ?_
        rw [hP0, fin]
        refine ⟨⟨_, rfl, fun _ => hhad⟩, ⟨E, hm, fun i' hi' => ?_, fun i' hi' => mR_cg (hRu i' hi') (Ea 15 (by decide) (by decide) (by decide) (by decide) (by decide) (by decide)) (Ea 16 (by decide) (by decide) (by decide) (by decide) (by decide) (by decide)) (Ea 17 (by decide) (by decide) (by decide) (by decide) (by decide) (by decide)), fun i' hi' => by rw [Ea 14 (by decide) (by decide) (by decide) (by decide) (by decide) (by decide)]; exact hRs i' hi', fun i' hi' p' a b => by rw [Ea 23 (by decide) (by decide) (by decide) (by decide) (by decide) (by decide)]; exact hNb i' hi' p' a b, mTr_cg hTr (fun k' a b => Ea k' (by omega) (by omega) (by omega) (by omega) (by omega) (by omega)), fun c => by rw [Ea 9 (by decide) (by decide) (by decide) (by decide) (by decide) (by decide)]; exact h9 c⟩, hF⟩
        have keep : ∀ (y : Int) (o : Ob), y ≠ d → mO A y o → mO E y o := fun y o hy h => mO_cg h (fun k' a b => by rw [Ez k' y hy, hBk k' (by omega)]) (fun k' a b => by rw [Ea k' (by omega) (by omega) (by omega) (by omega) (by omega) (by omega)]; exact ⟨rfl, rfl⟩)
        by_cases hij : i' = j
        · subst hij
          rw [u1_s]
          refine ⟨l2, ⟨by rw [Ek 3 (by decide) (by decide) (by decide) (by decide) (by decide)]; exact hB3, hl2, fun x k' hx => ?_⟩, hperm, fun x k' hx => ?_⟩
          · by_cases hxi : x = i0
            · subst hxi
              rw [hi0] at hx
              cases hx
              refine ⟨hqk, ?_⟩
              rw [← hd, hE, u2_k (by decide), u2_k (by decide), u2_k (by decide), u2_k (by decide), u2_s]
            · obtain ⟨q1, q2⟩ := hl3 x k' (hold x k' hx hxi)
              refine ⟨q1, ?_⟩
              rw [Ez 4 _ (by omega), hBk 4 (by decide)]
              exact q2
          · by_cases hxi : x = i0
            · subst hxi
              rw [hi0] at hx
              cases hx
              rw [uO_s, ← hd]
              refine ⟨?_, ?_, fun _ => ?_, fun lo hi ar h => by (cases h), ?_, fun e h => by (cases h), fun e h => by (cases h)⟩
              · rw [hE, u2_k (by decide), u2_k (by decide), u2_k (by decide), u2_s]
              · rw [hE, u2_k (by decide), u2_k (by decide), u2_s]
              · rw [hE, u2_k (by decide), u2_s]
              · rw [hE, u2_s]
                rfl
            · have h8 := ho x k' (hold x k' hx hxi)
              unfold uO
              rw [u1_s, uI_n _ _ (hne x k' hx hxi)]
              exact keep _ _ (by omega) h8
        · obtain ⟨l', ⟨c1, c2, c3⟩, c4, c5⟩ := hI i' hi'
          rw [u1_n _ _ hij, uO_n hij]
          have hne2 : ∀ (x : Nat) (k' : Int), l'[x]? = some k' → 20 * (i' : Int) + (x : Int) ≠ d := fun x k' hx => by
            have := (List.getElem?_eq_some_iff.mp hx).1
            omega
          refine ⟨l', ⟨?_, c2, fun x k' hx => ⟨(c3 x k' hx).1, by rw [Ez 4 _ (hne2 x k' hx), hBk 4 (by decide)]; exact (c3 x k' hx).2⟩⟩, c4, fun x k' hx => keep _ _ (hne2 x k' hx) (c5 x k' hx)⟩
          rw [Ek 3 (by decide) (by decide) (by decide) (by decide) (by decide), hB3o _ (by omega)]
          exact c1
      have goon : ¬ (q = 0 ∨ (q ∉ dm j ∧ 20 ≤ (dm j).length)) → ∀ ls, zsub ls [(0, .ref (M 0)), (1, .int (J (j : Int))), (2, .int (J k)), (3, .int (J v)), (4, .int (J z))] → Z w x (zQ w x P0 (fun _ _ => False) 0 0) 6 75 ls [.ref (M 0)] μ5 0 0 := by
        intro hno ls hls
        refine z_ls _ hls ?_
        refine z_iconst C dX6_put_75 ?_
        refine z_mp0 C hm hF qF_X6_71 dX6_put_76 (fun μ hm hF => ?_)
        refine z_aload_n C dX6_put_79 rfl ?_
        refine z_mg0 C hm qF_X6_71 dX6_put_80 ?_
        refine z_if_le (tgt := 88) C dX6_put_83 (by decide) (by omega) (fun g3 => ?_) (fun g3 => ?_)
        · refine z_iload C dX6_put_88 rfl ?_
          refine z_iconst C dX6_put_90 ?_
          refine z_icmp_ne (tgt := 98) C dX6_put_91 (by decide) (by omega) (fun g4 => ?_) (fun g4 => ?_)
          · obtain ⟨i, h1, h2⟩ : ∃ i : Nat, l[i]? = some q ∧ z = 20 * (j : Int) + (i : Int) := by
              rcases hz with ⟨h1, -⟩ | h
              · exact absurd h1 g4
              · exact h
            have hin : q ∈ dm j := hp.mem_iff.mp (List.mem_of_getElem? h1)
            have hoo := ho i q h1
            rw [← h2] at hoo
            refine z_aload_n C dX6_put_98 rfl ?_
            refine z_mgf C hm qF_X6_19 dX6_put_99 ?_
            refine z_iload C dX6_put_102 rfl ?_
            refine z_mld C hm dX6_put_104 (by simp only [mln]; omega) ?_
            rw [hoo.2.1]
            refine z_istore C dX6_put_105 ?_
            refine z_iload C dX6_put_107 rfl ?_
            refine z_iconst C dX6_put_109 ?_
            refine z_icmp_ne (tgt := 136) C dX6_put_110 (by decide) (by omega) (fun g5 => ?_) (fun g5 => ?_)
            · refine lay (ob j q).2.1 z l i A _ hno (vK_in hin).symm h2 h1 hl2 (fun x k' hx _ => hx) (fun x k' hx hxi e => hxi ?_) (put_perm hp hJ.1 hin) hl1 (fun _ _ => rfl) (fun _ _ => rfl) hm hF _ (by exact ⟨rfl, rfl, rfl, rfl, rfl, trivial⟩)
              subst e
              obtain ⟨x1, x2⟩ := List.getElem?_eq_some_iff.mp hx
              obtain ⟨y1, y2⟩ := List.getElem?_eq_some_iff.mp h1
              have hlnd : l.Nodup := hp.nodup_iff.mpr hJ.1
              rcases Nat.lt_trichotomy x i with hlt | he | hgt
              · exact absurd (x2.trans y2.symm) (List.pairwise_iff_getElem.mp hlnd x i x1 y1 hlt)
              · exact he
              · exact absurd (y2.trans x2.symm) (List.pairwise_iff_getElem.mp hlnd i x y1 x1 hgt)
            · exact absurd g5 g4
          · have hnl : q ∉ l := by
              rcases hz with ⟨h1, h2⟩ | ⟨i, h1, h2⟩
              · exact h2
              · omega
            have hnot : q ∉ dm j := fun h => hnl (hp.mem_iff.mpr h)
            have hlt : l.length < 20 := Classical.byContradiction fun h => hno (Or.inr ⟨hnot, by omega⟩)
            refine z_iconst C dX6_put_94 ?_
            refine z_goto (tgt := 105) C dX6_put_95 (by decide) ?_
            refine z_istore C dX6_put_105 ?_
            refine z_iload C dX6_put_107 rfl ?_
            refine z_iconst C dX6_put_109 ?_
            refine z_icmp_ne (tgt := 136) C dX6_put_110 (by decide) (by omega) (fun g5 => ?_) (fun g5 => ?_)
            · exact absurd g4 g5
            · refine z_bipush C dX6_put_113 ?_
              refine z_iload_n C dX6_put_115 rfl ?_
              refine z_imul C dX6_put_116 ?_
              refine z_aload_n C dX6_put_117 rfl ?_
              refine z_mgf C hm qF_X6_7 dX6_put_118 ?_
              refine z_iload_n C dX6_put_121 rfl ?_
              refine z_mld C hm dX6_put_122 (by simp only [mln]; omega) ?_
              rw [hl1]
              refine z_iadd C dX6_put_123 ?_
              refine z_istore C dX6_put_124 ?_
              refine z_aload_n C dX6_put_126 rfl ?_
              refine z_mgf C hm qF_X6_7 dX6_put_127 ?_
              refine z_iload_n C dX6_put_130 rfl ?_
              refine z_dup2 C dX6_put_131 ?_
              refine z_mld C hm dX6_put_132 (by simp only [mln]; omega) ?_
              rw [hl1]
              refine z_iconst C dX6_put_133 ?_
              refine z_iadd C dX6_put_134 ?_
              refine z_mst C hm hF dX6_put_135 (by simp only [mln]; omega) (fun μ hm hF => ?_)
              refine lay (-1) (20 * (j : Int) + (l.length : Int)) (l ++ [q]) l.length _ _ hno (vK_out hnot).symm rfl (by rw [List.getElem?_append_right (Nat.le_refl _), Nat.sub_self]; rfl) (by rw [List.length_append]; simp; omega) (fun x k' hx hxi => ?_) (fun x k' hx hxi e => ?_) ?_ (by rw [u2_s, List.length_append]; rfl) (fun y hy => u2_i _ _ _ _ hy) (fun k' hk' => u2_k hk') hm hF _ (by exact ⟨rfl, rfl, rfl, rfl, rfl, trivial⟩)
              · have hxl := (List.getElem?_eq_some_iff.mp hx).1
                rw [List.length_append] at hxl
                simp at hxl
                rw [List.getElem?_append_left (by omega)] at hx
                exact hx
              · have hxl := (List.getElem?_eq_some_iff.mp hx).1
                rw [List.length_append] at hxl
                simp at hxl
                rw [List.getElem?_append_left (by omega)] at hx
                exact hnl (by rw [← e]; exact List.mem_of_getElem? hx)
              · rw [List.filter_eq_self.mpr (fun y hy => by
                  have : y ≠ q := fun e => hnot (by rw [← e]; exact hy)
                  simp [this])]
                exact List.perm_append_comm.trans (List.Perm.cons q hp)
        · omega
      refine z_aload_n C dX6_put_47 rfl ?_
      refine z_mg2 C hm qF_X6_90 dX6_put_48 ?_
      refine z_if_eq (tgt := 71) C dX6_put_51 (by decide) (by omega) (fun g3 => ?_) (fun g3 => ?_)
      · exact three (Or.inl (k110.mp g3)) _ (by exact ⟨rfl, trivial⟩)
      · have hq0 : q ≠ 0 := fun e => g3 (k110.mpr e)
        refine z_iload C dX6_put_54 rfl ?_
        refine z_iconst C dX6_put_56 ?_
        refine z_icmp_ne (tgt := 75) C dX6_put_57 (by decide) (by omega) (fun g4 => ?_) (fun g4 => ?_)
        · refine goon (fun e => ?_) _ (by exact ⟨rfl, rfl, rfl, rfl, rfl, trivial⟩)
          rcases e with e | ⟨e, -⟩
          · exact hq0 e
          · rcases hz with ⟨h1, h2⟩ | ⟨i, h1, h2⟩
            · exact g4 h1
            · exact e (hp.mem_iff.mp (List.mem_of_getElem? h1))
        · refine z_aload_n C dX6_put_60 rfl ?_
          refine z_mgf C hm qF_X6_7 dX6_put_61 ?_
          refine z_iload_n C dX6_put_64 rfl ?_
          refine z_mld C hm dX6_put_65 (by simp only [mln]; omega) ?_
          rw [hl1]
          refine z_bipush C dX6_put_66 ?_
          refine z_icmp_ne (tgt := 75) C dX6_put_68 (by decide) (by omega) (fun g5 => ?_) (fun g5 => ?_)
          · refine goon (fun e => ?_) _ (by exact ⟨rfl, rfl, rfl, rfl, rfl, trivial⟩)
            rcases e with e | ⟨-, e⟩
            · exact hq0 e
            · omega
          · refine three (Or.inr ⟨?_, by omega⟩) _ (by exact ⟨rfl, trivial⟩)
            rcases hz with ⟨h1, h2⟩ | ⟨i, h1, h2⟩
            · exact fun h => h2 (hp.mem_iff.mpr h)
            · omega
    · exact absurd g2 (by decide)
  · exact absurd g (by decide)
end MOS
