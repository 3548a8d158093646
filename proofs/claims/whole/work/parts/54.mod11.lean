/-! setMarks, sample -/
section MOM
variable {N t : Int} {s : Sg} {M : Nat → Nat} {μ : Mem}
/-- the slot's place -/
theorem slP_in {l : List Int} {j : Nat} {q z : Int} (h : slP l j q z) (hl : l.length ≤ 20) (hj : j < 4) : -1 ≤ z ∧ z ≤ 79 := by
  rcases h with ⟨h1, -⟩ | ⟨i, h1, h2⟩
  · omega
  · have := (List.getElem?_eq_some_iff.mp h1).1
    omega
theorem mTr_cg {A A' : Nat → Int → Int} {tr : List Trp} (h : mTr A tr) (e : ∀ k, 19 ≤ k → k ≤ 22 → A' k = A k) : mTr A' tr := by
  refine ⟨fun x y hxy => ?_, fun x hx => ?_⟩
  · rw [e 19 (by decide) (by decide), e 20 (by decide) (by decide), e 21 (by decide) (by decide), e 22 (by decide) (by decide)]
    exact h.1 x y hxy
  · rw [e 22 (by decide) (by decide)]
    exact h.2 x hx
theorem m_setMarks (w : Wd) (a lo hi : Int) (hR : Rm μ M t s) (hO : okS N s) (h32 : in32 a) (hl32 : in32 lo) (hh32 : in32 hi) : cM w yX6_setMarks cX6_setMarks 6 none 8 0 0 [.ref (M 0), .int (J a), .int (J lo), .int (J hi)] μ (fun v μ' => v = none ∧ Rm μ' M (spMarks a lo hi s).1 (spMarks a lo hi s).2.2 ∧ Fm μ μ' M) (fun _ _ => False) := by
  obtain ⟨lo1, lo2⟩ := id hl32
  obtain ⟨hi1, hi2⟩ := id hh32
  obtain ⟨q, clk, dm, ob, ru, rn, rs, nb, tr⟩ := s
  obtain ⟨A, hm, hI, hRu, hRs, hNb, hTr, h9⟩ := hR
  have hF := Fm_rf μ M
  have hqk := hO.2.1
  have hqi := k11_in hqk
  have hci := hO.2.2.1
  have g0 := hm.1.1
  obtain ⟨r, hr⟩ : ∃ r, r = spMarks a lo hi (q, clk, dm, ob, ru, rn, rs, nb, tr) := ⟨_, rfl⟩
  rw [← hr]
  refine cM_of (fun x C => ?_)
  obtain ⟨P0, hP0⟩ : ∃ P0, P0 = fun (v : Option Value) (μ' : Mem) => v = none ∧ Rm μ' M r.1 r.2.2 ∧ Fm μ μ' M := ⟨_, rfl⟩
  obtain ⟨μs, hμs⟩ : ∃ μs, μs = μ := ⟨_, rfl⟩
  rw [← hP0]
  rw [← hμs] at hP0 hF
  refine z_aload_n C dX6_setMarks_0 rfl ?_
  refine z_iload_n C dX6_setMarks_1 rfl ?_
  refine z_callV C (c_isAgent w μ a h32 hm) qM_X6_99 dX6_setMarks_2 rfl (zRc_o g0) (fun _ _ h => h.elim) ?_
  rintro v μ1 ⟨rfl, hm, hF1⟩
  rw [← hμs] at hF1
  have hF := hF1
  have g0 := hm.1.1
  have fail : ∀ (code : Int) (t' : Int) (μ : Mem), 0 < code ∧ code ≤ 3 → r = (code, 0, q, clk, dm, ob, ru, rn, rs, nb, tr) → mS μ M t' clk (k11 q) (tr.length : Int) A → Fm μs μ M → ∀ ls, zsub ls [(0, .ref (M 0))] → Z w x (zQ w x P0 (fun _ _ => False) 0 0) 6 85 ls [.int (J code), .ref (M 0)] μ 0 0 := by
    intro code t' μ hc he hm hF ls hls
    refine z_ls _ hls ?_
    refine z_mp0 C hm hF qF_X6_71 dX6_setMarks_85 (fun μ hm hF => ?_)
    refine z_aload_n C dX6_setMarks_88 rfl ?_
    refine z_mg0 C hm qF_X6_71 dX6_setMarks_89 ?_
    refine z_if_ne (tgt := 119) C dX6_setMarks_92 (by decide) (by omega) (fun g => ?_) (fun g => ?_)
    · exact z_vret C dX6_setMarks_119 (by rw [hP0, he]; exact ⟨rfl, ⟨A, hm, hI, hRu, hRs, hNb, hTr, h9⟩, hF⟩)
    · omega
  -- the range, from 19 on to 53
  have range : ∀ (z t' : Int) (μ : Mem), (∀ b : Bool, b = decide (¬ (lo < 0 ∨ 999 ≤ lo ∨ hi ≤ lo ∨ 999 < hi)) → mS μ M t' clk (k11 q) (tr.length : Int) A → Fm μs μ M → Z w x (zQ w x P0 (fun _ _ => False) 0 0) 6 53 [(0, .ref (M 0)), (1, .int (J a)), (2, .int (J lo)), (3, .int (J hi)), (4, .int (J z)), (5, .int (J (zB b)))] [] μ 0 0) → mS μ M t' clk (k11 q) (tr.length : Int) A → Fm μs μ M → ∀ ls, zsub ls [(0, .ref (M 0)), (1, .int (J a)), (2, .int (J lo)), (3, .int (J hi)), (4, .int (J z))] → Z w x (zQ w x P0 (fun _ _ => False) 0 0) 6 19 ls [] μ 0 0 := by
    intro z t' μ kk hm hF ls hls
    refine z_ls _ hls ?_
    have no : (lo < 0 ∨ 999 ≤ lo ∨ hi ≤ lo ∨ 999 < hi) → ∀ ls, zsub ls [(0, .ref (M 0)), (1, .int (J a)), (2, .int (J lo)), (3, .int (J hi)), (4, .int (J z))] → Z w x (zQ w x P0 (fun _ _ => False) 0 0) 6 50 ls [] μ 0 0 := by
      intro h ls hls
      refine z_ls _ hls ?_
      refine z_iconst C dX6_setMarks_50 ?_
      refine z_istore C dX6_setMarks_51 ?_
      exact z_ls _ (by exact ⟨rfl, rfl, rfl, rfl, rfl, rfl, trivial⟩) (kk false (by rw [decide_eq_false (fun e => e h)]) hm hF)
    refine z_iload_n C dX6_setMarks_19 rfl ?_
    refine z_iconst C dX6_setMarks_20 ?_
    refine z_sipush C dX6_setMarks_21 ?_
    refine z_callS C (c_in w μ lo 0 998 hl32 ⟨by decide, by decide⟩ ⟨by decide, by decide⟩) qM_X6_75 dX6_setMarks_24 rfl (fun _ _ h => h.elim) ?_
    rintro v μ3 ⟨rfl, rfl⟩
    by_cases h1 : 0 ≤ lo ∧ lo ≤ 998
    case neg =>
      rw [decide_eq_false h1, show zB false = 0 from rfl]
      refine z_if_eq (tgt := 50) C dX6_setMarks_27 (by decide) (by omega) (fun g => ?_) (fun g => ?_)
      · exact no (by omega) _ (by exact ⟨rfl, rfl, rfl, rfl, rfl, trivial⟩)
      · exact absurd rfl g
    rw [decide_eq_true h1, show zB true = 1 from rfl]
    refine z_if_eq (tgt := 50) C dX6_setMarks_27 (by decide) (by omega) (fun g => ?_) (fun g => ?_)
    · exact absurd g (by decide)
    refine z_iload_n C dX6_setMarks_30 rfl ?_
    refine z_iconst C dX6_setMarks_31 ?_
    refine z_sipush C dX6_setMarks_32 ?_
    refine z_callS C (c_in w _ hi 1 999 hh32 ⟨by decide, by decide⟩ ⟨by decide, by decide⟩) qM_X6_75 dX6_setMarks_35 rfl (fun _ _ h => h.elim) ?_
    rintro v μ4 ⟨rfl, rfl⟩
    by_cases h2 : 1 ≤ hi ∧ hi ≤ 999
    case neg =>
      rw [decide_eq_false h2, show zB false = 0 from rfl]
      refine z_if_eq (tgt := 50) C dX6_setMarks_38 (by decide) (by omega) (fun g => ?_) (fun g => ?_)
      · exact no (by omega) _ (by exact ⟨rfl, rfl, rfl, rfl, rfl, trivial⟩)
      · exact absurd rfl g
    rw [decide_eq_true h2, show zB true = 1 from rfl]
    refine z_if_eq (tgt := 50) C dX6_setMarks_38 (by decide) (by omega) (fun g => ?_) (fun g => ?_)
    · exact absurd g (by decide)
    refine z_iload_n C dX6_setMarks_41 rfl ?_
    refine z_iload_n C dX6_setMarks_42 rfl ?_
    refine z_icmp_le (tgt := 50) C dX6_setMarks_43 (by decide) (by omega) (fun g => ?_) (fun g => ?_)
    · exact no (by omega) _ (by exact ⟨rfl, rfl, rfl, rfl, rfl, trivial⟩)
    · refine z_iconst C dX6_setMarks_46 ?_
      refine z_goto (tgt := 51) C dX6_setMarks_47 (by decide) ?_
      refine z_istore C dX6_setMarks_51 ?_
      exact z_ls _ (by exact ⟨rfl, rfl, rfl, rfl, rfl, rfl, trivial⟩) (kk true (by rw [decide_eq_true (by omega)]) hm hF)
  by_cases ha : 0 ≤ a ∧ a ≤ 3
  · rw [if_pos ha] at hm
    rw [decide_eq_true ha, show zB true = 1 from rfl]
    obtain ⟨j, rfl⟩ : ∃ j : Nat, a = (j : Int) := ⟨a.toNat, by omega⟩
    have hj : j < 4 := by omega
    obtain ⟨l, hl, hp, ho⟩ := hI j hj
    have hJ := hO.2.2.2.1 j hj
    refine z_if_eq (tgt := 16) C dX6_setMarks_5 (by decide) (by omega) (fun g => ?_) (fun g => ?_)
    · exact absurd g (by decide)
    · refine z_aload_n C dX6_setMarks_8 rfl ?_
      refine z_iload_n C dX6_setMarks_9 rfl ?_
      refine z_callV C (c_slot w μ1 j l q hj hqk hl hm) qM_X6_96 dX6_setMarks_10 rfl (zRc_o g0) (fun _ _ h => h.elim) ?_
      rintro v μ2 ⟨⟨z, rfl, hz⟩, rfl⟩
      have hzr := slP_in hz hl.2.1 hj
      refine z_goto (tgt := 17) C dX6_setMarks_13 (by decide) ?_
      refine z_istore C dX6_setMarks_17 ?_
      refine range z 0 μ2 (fun b hb hm hF => ?_) hm hF _ (by exact ⟨rfl, rfl, rfl, rfl, rfl, trivial⟩)
      refine z_aload_n C dX6_setMarks_53 rfl ?_
      refine z_aload_n C dX6_setMarks_54 rfl ?_
      refine z_mg0 C hm qF_X6_71 dX6_setMarks_55 ?_
      refine z_if_le (tgt := 65) C dX6_setMarks_58 (by decide) (by omega) (fun g2 => ?_) (fun g2 => ?_)
      · refine z_iload C dX6_setMarks_65 rfl ?_
        have hzb := zB_in b
        refine z_if_ne (tgt := 74) C dX6_setMarks_67 (by decide) (by omega) (fun g3 => ?_) (fun g3 => ?_)
        · have hbt : b = true := by cases h : b with | true => rfl | false => exact absurd (by rw [h]; rfl) g3
          have hgood : ¬ (lo < 0 ∨ 999 ≤ lo ∨ hi ≤ lo ∨ 999 < hi) := by rw [hbt] at hb; exact of_decide_eq_true hb.symm
          refine z_iload C dX6_setMarks_74 rfl ?_
          refine z_iconst C dX6_setMarks_76 ?_
          refine z_icmp_ne (tgt := 84) C dX6_setMarks_77 (by decide) (by omega) (fun g4 => ?_) (fun g4 => ?_)
          · obtain ⟨i, h1, h2⟩ : ∃ i : Nat, l[i]? = some q ∧ z = 20 * (j : Int) + (i : Int) := by
              rcases hz with ⟨h1, -⟩ | h
              · exact absurd h1 g4
              · exact h
            subst h2
            have hin : q ∈ dm j := hp.mem_iff.mp (List.mem_of_getElem? h1)
            have hoo := ho i q h1
            have fin : r = (0, 0, q, clk, dm, uO ob j q (mrkO (ob j q) lo hi), ru, rn, rs, nb, tr) := by rw [hr, spMarks, if_neg (by omega), if_neg hgood, show ((j : Int)).toNat = j from rfl, if_neg (fun h => h hin)]
            refine z_iconst C dX6_setMarks_84 ?_
            refine z_mp0 C hm hF qF_X6_71 dX6_setMarks_85 (fun μ hm hF => ?_)
            refine z_aload_n C dX6_setMarks_88 rfl ?_
            refine z_mg0 C hm qF_X6_71 dX6_setMarks_89 ?_
            refine z_if_ne (tgt := 119) C dX6_setMarks_92 (by decide) (by omega) (fun g5 => ?_) (fun g5 => ?_)
            · exact absurd rfl g5
            · refine z_aload_n C dX6_setMarks_95 rfl ?_
              refine z_mgf C hm qF_X6_22 dX6_setMarks_96 ?_
              refine z_iload C dX6_setMarks_99 rfl ?_
              refine z_iload_n C dX6_setMarks_101 rfl ?_
              refine z_mst C hm hF dX6_setMarks_102 (by simp only [mln]; omega) (fun μ hm hF => ?_)
              refine z_aload_n C dX6_setMarks_103 rfl ?_
              refine z_mgf C hm qF_X6_25 dX6_setMarks_104 ?_
              refine z_iload C dX6_setMarks_107 rfl ?_
              refine z_iload_n C dX6_setMarks_109 rfl ?_
              refine z_mst C hm hF dX6_setMarks_110 (by simp only [mln]; omega) (fun μ hm hF => ?_)
              refine z_aload_n C dX6_setMarks_111 rfl ?_
              refine z_mgf C hm qF_X6_28 dX6_setMarks_112 ?_
              refine z_iload C dX6_setMarks_115 rfl ?_
              refine z_iconst C dX6_setMarks_117 ?_
              refine z_mstb C hm hF dX6_setMarks_118 (Or.inr rfl) (by simp only [mln]; omega) (fun μ hm hF => ?_)
              refine z_vret C dX6_setMarks_119 ?_
              rw [hP0, fin]
              obtain ⟨B, hB⟩ : ∃ B, B = u2 (u2 (u2 A 7 (20 * (j : Int) + (i : Int)) lo) 8 (20 * (j : Int) + (i : Int)) hi) 9 (20 * (j : Int) + (i : Int)) 1 := ⟨_, rfl⟩
              rw [← hB] at hm
              have Bk : ∀ k, k ≠ 7 → k ≠ 8 → k ≠ 9 → B k = A k := fun k a b c => by rw [hB, u2_k c, u2_k b, u2_k a]
              have Bz : ∀ k z, z ≠ 20 * (j : Int) + (i : Int) → B k z = A k z := fun k z hz => by
                rw [hB, u2_i _ _ _ _ hz, u2_i _ _ _ _ hz, u2_i _ _ _ _ hz]
              have hmB := hm
              refine ⟨rfl, ⟨B, hmB, mI_upd hj hI hJ.1 hl hp ho h1 ⟨?_, ?_, fun h => by (cases h), fun l' u' ar' h => ?_, ?_, fun e he => ?_, fun e he => ?_⟩ (Bk 3 (by decide) (by decide) (by decide)) (Bk 4 (by decide) (by decide) (by decide)) (fun z hz o h => mO_cg h (fun k a b => Bz k z hz) (fun k a b => by rw [Bk k (by omega) (by omega) (by omega)]; exact ⟨rfl, rfl⟩)), fun i hi => mR_cg (hRu i hi) (Bk 15 (by decide) (by decide) (by decide)) (Bk 16 (by decide) (by decide) (by decide)) (Bk 17 (by decide) (by decide) (by decide)), fun i hi => by rw [Bk 14 (by decide) (by decide) (by decide)]; exact hRs i hi, fun i hi p' a b => by rw [Bk 23 (by decide) (by decide) (by decide)]; exact hNb i hi p' a b, mTr_cg hTr (fun k a b => Bk k (by omega) (by omega) (by omega)), fun c => ?_⟩, hF⟩
              · rw [Bk 5 (by decide) (by decide) (by decide)]; exact hoo.1
              · rw [Bk 6 (by decide) (by decide) (by decide)]; exact hoo.2.1
              · have h' : some (lo, hi, (1 : Int)) = some (l', u', ar') := h
                cases h'
                rw [hB]
                refine ⟨?_, ?_, u2_s _ _ _ _⟩
                · rw [u2_k (by decide), u2_k (by decide)]
                  exact u2_s _ _ _ _
                · rw [u2_k (by decide)]
                  exact u2_s _ _ _ _
              · rw [Bk 10 (by decide) (by decide) (by decide)]; exact hoo.2.2.2.2.1
              · rw [Bk 11 (by decide) (by decide) (by decide), Bk 12 (by decide) (by decide) (by decide), Bk 13 (by decide) (by decide) (by decide)]
                exact hoo.2.2.2.2.2.1 e he
              · rw [Bk 11 (by decide) (by decide) (by decide), Bk 12 (by decide) (by decide) (by decide), Bk 13 (by decide) (by decide) (by decide)]
                exact hoo.2.2.2.2.2.2 e he
              · by_cases hc : c = 20 * (j : Int) + (i : Int)
                · subst hc
                  rw [hB, u2_s]
                  exact Or.inr rfl
                · rw [Bz 9 c hc]
                  exact h9 c
          · have hnot : q ∉ dm j := by
              rcases hz with ⟨h1, h2⟩ | ⟨i, h1, h2⟩
              · exact fun h => h2 (hp.mem_iff.mpr h)
              · omega
            refine z_iconst C dX6_setMarks_80 ?_
            refine z_goto (tgt := 85) C dX6_setMarks_81 (by decide) ?_
            exact fail 3 0 _ (by decide) (by rw [hr, spMarks, if_neg (by omega), if_neg hgood, show ((j : Int)).toNat = j from rfl, if_pos hnot]) hm hF _ (by exact ⟨rfl, trivial⟩)
        · have hbf : b = false := zB_eq.mp g3
          have hbad : lo < 0 ∨ 999 ≤ lo ∨ hi ≤ lo ∨ 999 < hi := by rw [hbf] at hb; exact Classical.byContradiction fun h => of_decide_eq_false hb.symm h
          refine z_iconst C dX6_setMarks_70 ?_
          refine z_goto (tgt := 85) C dX6_setMarks_71 (by decide) ?_
          exact fail 2 0 _ (by decide) (by rw [hr, spMarks, if_neg (by omega), if_pos hbad]) hm hF _ (by exact ⟨rfl, trivial⟩)
      · omega
  · rw [if_neg ha] at hm
    rw [decide_eq_false ha, show zB false = 0 from rfl]
    refine z_if_eq (tgt := 16) C dX6_setMarks_5 (by decide) (by omega) (fun g => ?_) (fun g => ?_)
    · refine z_iconst C dX6_setMarks_16 ?_
      refine z_istore C dX6_setMarks_17 ?_
      refine range (-1) 1 μ1 (fun b hb hm hF => ?_) hm hF _ (by exact ⟨rfl, rfl, rfl, rfl, rfl, trivial⟩)
      refine z_aload_n C dX6_setMarks_53 rfl ?_
      refine z_aload_n C dX6_setMarks_54 rfl ?_
      refine z_mg0 C hm qF_X6_71 dX6_setMarks_55 ?_
      refine z_if_le (tgt := 65) C dX6_setMarks_58 (by decide) (by omega) (fun g2 => ?_) (fun g2 => ?_)
      · omega
      · refine z_iconst C dX6_setMarks_61 ?_
        refine z_goto (tgt := 85) C dX6_setMarks_62 (by decide) ?_
        exact fail 1 1 _ (by decide) (by rw [hr, spMarks, if_pos ha]) hm hF _ (by exact ⟨rfl, trivial⟩)
    · exact absurd rfl g
end MOM
