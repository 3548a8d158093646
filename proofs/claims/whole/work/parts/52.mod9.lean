/-! change, restart, bulk, rate -/
section MOK
variable {N t : Int} {s : Sg} {M : Nat → Nat} {μ : Mem}
/-- one slot of agent j's row is another -/
theorem mI_upd {A A' : Nat → Int → Int} {dm : Nat → List Int} {ob : Nat → Int → Ob} {j : Nat} {l : List Int} {i0 : Nat} {k0 : Int} {o : Ob} (hj : j < 4) (hI : ∀ j, j < 4 → mI A j (dm j) (ob j)) (hnd : (dm j).Nodup) (hl : rwP A j l) (hp : l.Perm (dm j)) (ho : ∀ (i : Nat) (k : Int), l[i]? = some k → mO A (20 * (j : Int) + (i : Int)) (ob j k)) (hi : l[i0]? = some k0) (hnew : mO A' (20 * (j : Int) + (i0 : Int)) o) (h3 : A' 3 = A 3) (h4 : A' 4 = A 4) (hoth : ∀ z, z ≠ 20 * (j : Int) + (i0 : Int) → ∀ o, mO A z o → mO A' z o) : ∀ j', j' < 4 → mI A' j' (dm j') (uO ob j k0 o j') := by
  have hlnd : l.Nodup := hp.nodup_iff.mpr hnd
  have inj : ∀ i, l[i]? = some k0 → i = i0 := fun i h => by
    obtain ⟨i1, i2⟩ := List.getElem?_eq_some_iff.mp h
    obtain ⟨j1, j2⟩ := List.getElem?_eq_some_iff.mp hi
    rcases Nat.lt_trichotomy i i0 with hlt | he | hgt
    · exact absurd (i2.trans j2.symm) (List.pairwise_iff_getElem.mp hlnd i i0 i1 j1 hlt)
    · exact he
    · exact absurd (j2.trans i2.symm) (List.pairwise_iff_getElem.mp hlnd i0 i j1 i1 hgt)
  intro j' hj'
  by_cases hjj : j' = j
  · subst hjj
    refine ⟨l, ⟨by rw [h3]; exact hl.1, hl.2.1, fun i k hk => by rw [h4]; exact hl.2.2 i k hk⟩, hp, fun i k hk => ?_⟩
    by_cases hik : i = i0
    · subst hik
      rw [hi] at hk
      cases hk
      rw [uO_s]
      exact hnew
    · have hkk : k ≠ k0 := fun e => hik (inj i (by rw [← e]; exact hk))
      unfold uO
      rw [u1_s, uI_n _ _ hkk]
      exact hoth _ (by omega) _ (ho i k hk)
  · obtain ⟨l', hl', hp', ho'⟩ := hI j' hj'
    rw [uO_n hjj]
    refine ⟨l', ⟨by rw [h3]; exact hl'.1, hl'.2.1, fun i k hk => by rw [h4]; exact hl'.2.2 i k hk⟩, hp', fun i k hk => ?_⟩
    have := (List.getElem?_eq_some_iff.mp hk).1
    have := hl'.2.1
    have := (List.getElem?_eq_some_iff.mp hi).1
    have := hl.2.1
    exact hoth _ (by omega) _ (ho' i k hk)
theorem mO_cg {A A' : Nat → Int → Int} {z : Int} {o : Ob} (h : mO A z o) (h1 : ∀ k, 5 ≤ k → k ≤ 10 → A' k z = A k z) (h2 : ∀ k, 11 ≤ k → k ≤ 13 → A' k (2 * z) = A k (2 * z) ∧ A' k (2 * z + 1) = A k (2 * z + 1)) : mO A' z o := by
  obtain ⟨o1, o2, o3, o4, o5, o6, o7⟩ := h
  refine ⟨(h1 5 (by decide) (by decide)).trans o1, (h1 6 (by decide) (by decide)).trans o2, fun h => (h1 8 (by decide) (by decide)).trans (o3 h), fun lo hi ar h => ?_, (h1 10 (by decide) (by decide)).trans o5, fun e he => ?_, fun e he => ?_⟩
  · obtain ⟨q1, q2, q3⟩ := o4 lo hi ar h
    exact ⟨(h1 7 (by decide) (by decide)).trans q1, (h1 8 (by decide) (by decide)).trans q2, (h1 9 (by decide) (by decide)).trans q3⟩
  · obtain ⟨q1, q2, q3⟩ := o6 e he
    exact ⟨(h2 11 (by decide) (by decide)).2.trans q1, (h2 12 (by decide) (by decide)).2.trans q2, (h2 13 (by decide) (by decide)).2.trans q3⟩
  · obtain ⟨q1, q2, q3⟩ := o7 e he
    exact ⟨(h2 11 (by decide) (by decide)).1.trans q1, (h2 12 (by decide) (by decide)).1.trans q2, (h2 13 (by decide) (by decide)).1.trans q3⟩
theorem mR_cg {A A' : Nat → Int → Int} {j : Nat} {ru : Int → Int} {rn : Int} (h : mR A j ru rn) (h1 : A' 15 = A 15) (h2 : A' 16 = A 16) (h3 : A' 17 = A 17) : mR A' j ru rn := by
  obtain ⟨l, ⟨a, b, c, d, e⟩, f⟩ := h
  exact ⟨l, ⟨by rw [h1]; exact a, b, c, fun i k hk => by rw [h2, h3]; exact d i k hk, e⟩, f⟩
theorem m_change (w : Wd) (a m : Int) (hR : Rm μ M t s) (hO : okS N s) (hN1 : N + 1 ≤ 512) (h32 : in32 a) (hm32 : in32 m) : cM w yX6_change cX6_change 4 (some .int) 8 0 0 [.ref (M 0), .int (J a), .int (J m)] μ (okM M μ (spChange a m s)) (fun _ _ => False) := by
  obtain ⟨q, clk, dm, ob, ru, rn, rs, nb, tr⟩ := s
  obtain ⟨A, hm, hI, hRu, hRs, hNb, hTr, h9⟩ := hR
  have hF := Fm_rf μ M
  have hqk := hO.2.1
  have hqi := k11_in hqk
  have hci := hO.2.2.1
  have g0 := hm.1.1
  obtain ⟨r, hr⟩ : ∃ r, r = spChange a m (q, clk, dm, ob, ru, rn, rs, nb, tr) := ⟨_, rfl⟩
  rw [← hr]
  refine cM_of (fun x C => ?_)
  obtain ⟨P0, hP0⟩ : ∃ P0, P0 = okM M μ r := ⟨_, rfl⟩
  rw [← hP0]
  refine z_aload_n C dX6_change_0 rfl ?_
  refine z_iload_n C dX6_change_1 rfl ?_
  refine z_callV C (c_isAgent w μ a h32 hm) qM_X6_99 dX6_change_2 rfl (zRc_o g0) (fun _ _ h => h.elim) ?_
  rintro v μ1 ⟨rfl, hm, hF⟩
  have g0 := hm.1.1
  have fail : ∀ (code : Int) (μ' : Mem) (t' : Int), 0 < code ∧ code ≤ 3 → r = (code, 0, q, clk, dm, ob, ru, rn, rs, nb, tr) → mS μ' M t' clk (k11 q) (tr.length : Int) A → Fm μ μ' M → ∀ ls, zsub ls [(0, .ref (M 0))] → Z w x (zQ w x P0 (fun _ _ => False) 0 0) 4 55 ls [.int (J code), .ref (M 0)] μ' 0 0 := by
    intro code μ' t' hc he hm hF ls hls
    refine z_ls _ hls ?_
    refine z_mp0 C hm hF qF_X6_71 dX6_change_55 (fun μ hm hF => ?_)
    refine z_aload_n C dX6_change_58 rfl ?_
    refine z_mg0 C hm qF_X6_71 dX6_change_59 ?_
    refine z_if_le (tgt := 67) C dX6_change_62 (by decide) (by omega) (fun g => ?_) (fun g => ?_)
    · omega
    · refine z_iconst C dX6_change_65 ?_
      refine z_iret C dX6_change_66 ?_
      rw [hP0, he]
      exact ⟨⟨0, rfl, fun _ => rfl⟩, ⟨A, hm, hI, hRu, hRs, hNb, hTr, h9⟩, hF⟩
  by_cases ha : 0 ≤ a ∧ a ≤ 3
  · rw [if_pos ha] at hm
    rw [decide_eq_true ha, show zB true = 1 from rfl]
    obtain ⟨j, rfl⟩ : ∃ j : Nat, a = (j : Int) := ⟨a.toNat, by omega⟩
    have hj : j < 4 := by omega
    obtain ⟨l, hl, hp, ho⟩ := hI j hj
    have hJ := hO.2.2.2.1 j hj
    refine z_if_eq (tgt := 16) C dX6_change_5 (by decide) (by omega) (fun g => ?_) (fun g => ?_)
    · exact absurd g (by decide)
    · refine z_aload_n C dX6_change_8 rfl ?_
      refine z_iload_n C dX6_change_9 rfl ?_
      refine z_callV C (c_slot w μ1 j l q hj hqk hl hm) qM_X6_96 dX6_change_10 rfl (zRc_o g0) (fun _ _ h => h.elim) ?_
      rintro v μ2 ⟨⟨z, rfl, hz⟩, rfl⟩
      refine z_goto (tgt := 17) C dX6_change_13 (by decide) ?_
      refine z_istore_n C dX6_change_17 ?_
      refine z_aload_n C dX6_change_18 rfl ?_
      refine z_aload_n C dX6_change_19 rfl ?_
      refine z_mg0 C hm qF_X6_71 dX6_change_20 ?_
      refine z_if_le (tgt := 30) C dX6_change_23 (by decide) (by omega) (fun g2 => ?_) (fun g2 => ?_)
      · refine z_iload_n C dX6_change_30 rfl ?_
        refine z_iconst C dX6_change_31 ?_
        refine z_sipush C dX6_change_32 ?_
        refine z_callS C (c_in w μ2 m 0 999 hm32 ⟨by decide, by decide⟩ ⟨by decide, by decide⟩) qM_X6_75 dX6_change_35 rfl (fun _ _ h => h.elim) ?_
        rintro v μ3 ⟨rfl, rfl⟩
        by_cases hmm : 0 ≤ m ∧ m ≤ 999
        · rw [decide_eq_true hmm, show zB true = 1 from rfl]
          refine z_if_ne (tgt := 45) C dX6_change_38 (by decide) (by omega) (fun g3 => ?_) (fun g3 => ?_)
          · refine z_iload_n C dX6_change_45 rfl ?_
            refine z_iconst C dX6_change_46 ?_
            have hzr : -1 ≤ z ∧ z ≤ 79 := by
              rcases hz with ⟨h1, -⟩ | ⟨i, h1, h2⟩
              · omega
              · have := (List.getElem?_eq_some_iff.mp h1).1
                have := hl.2.1
                omega
            refine z_icmp_ne (tgt := 54) C dX6_change_47 (by decide) (by omega) (fun g4 => ?_) (fun g4 => ?_)
            · obtain ⟨i, h1, h2⟩ : ∃ i : Nat, l[i]? = some q ∧ z = 20 * (j : Int) + (i : Int) := by
                rcases hz with ⟨h1, -⟩ | h
                · exact absurd h1 g4
                · exact h
              subst h2
              have hin : q ∈ dm j := hp.mem_iff.mp (List.mem_of_getElem? h1)
              have hoo := ho i q h1
              have hok := (hJ.2.2.1 q hin).2
              obtain ⟨V, hV⟩ : ∃ V, V = chV (ob j q) m := ⟨_, rfl⟩
              have fin : r = (0, V, q, clk, dm, uO ob j q (hasO (ob j q) V), ru, rn, rs, nb, if frs (ob j q) V = true then sndT clk (j : Int) q tr else tr) := by rw [hr, spChange, if_neg (by omega), if_neg (by omega), show ((j : Int)).toNat = j from rfl, if_neg (fun h => h hin), hV]
              have hkd := hok.1
              have hvl := hok.2.1
              have hVr : 0 ≤ V ∧ V ≤ 999 := by
                rw [hV]
                unfold chV
                split <;> omega
              refine z_iconst C dX6_change_54 ?_
              refine z_mp0 C hm hF qF_X6_71 dX6_change_55 (fun μ hm hF => ?_)
              refine z_aload_n C dX6_change_58 rfl ?_
              refine z_mg0 C hm qF_X6_71 dX6_change_59 ?_
              refine z_if_le (tgt := 67) C dX6_change_62 (by decide) (by omega) (fun g5 => ?_) (fun g5 => ?_)
              · refine z_aload_n C dX6_change_67 rfl ?_
                refine z_iload_n C dX6_change_68 rfl ?_
                refine z_iload_n C dX6_change_69 rfl ?_
                have go : ∀ ls, zsub ls [(0, .ref (M 0)), (3, .int (J (20 * (j : Int) + (i : Int))))] → Z w x (zQ w x P0 (fun _ _ => False) 0 0) 4 96 ls [.int (J V), .int (J (20 * (j : Int) + (i : Int))), .int (J (j : Int)), .ref (M 0)] μ 0 0 := by
                  intro ls hls
                  refine z_ls _ hls ?_
                  refine z_callV C (c_has w j (20 * (j : Int) + (i : Int)) V q (ob j q) hj ⟨by omega, by omega⟩ hVr hqk (hl.2.2 i q h1).2 hoo hok h9 hTr hO.2.2.2.2 hN1 hci hm) qM_X6_119 dX6_change_96 rfl (zRc_o hm.1.1) (fun _ _ h => h.elim) ?_
                  rintro _ μ5 ⟨rfl, hF5, A5, hm5, hT5, ho5, h95, hx5, hk5⟩
                  have hv5 : A5 6 (20 * (j : Int) + (i : Int)) = V := ho5.2.1
                  have hm := hm5
                  refine z_aload_n C dX6_change_99 rfl ?_
                  refine z_mgf C hm qF_X6_19 dX6_change_100 ?_
                  refine z_iload_n C dX6_change_103 rfl ?_
                  refine z_mld C hm dX6_change_104 (by simp only [mln]; omega) ?_
                  rw [hv5]
                  refine z_iret C dX6_change_105 ?_
                  rw [hP0, fin]
                  refine ⟨⟨_, rfl, fun _ => rfl⟩, ⟨A5, hm5, mI_upd hj hI hJ.1 hl hp ho h1 ho5 (hk5 3 (by decide) (by decide) (by decide)) (hk5 4 (by decide) (by decide) (by decide)) (fun z hz o h => mO_cg h (fun k a b => ?_) (fun k a b => by rw [hk5 k (by omega) (by omega) (by omega)]; exact ⟨rfl, rfl⟩)), fun i hi => mR_cg (hRu i hi) (hk5 15 (by decide) (by decide) (by decide)) (hk5 16 (by decide) (by decide) (by decide)) (hk5 17 (by decide) (by decide) (by decide)), fun i hi => by rw [hk5 14 (by decide) (by decide) (by decide)]; exact hRs i hi, fun i hi p' a b => by rw [hk5 23 (by decide) (by decide) (by decide)]; exact hNb i hi p' a b, hT5, h95⟩, Fm_tr hF hF5⟩
                  by_cases k6 : k = 6
                  · rw [k6]; exact (hx5 z hz).1
                  · by_cases k9 : k = 9
                    · rw [k9]; exact (hx5 z hz).2
                    · rw [hk5 k k6 k9 (by omega)]
                refine z_aload_n C dX6_change_70 rfl ?_
                refine z_mgf C hm qF_X6_16 dX6_change_71 ?_
                refine z_iload_n C dX6_change_74 rfl ?_
                refine z_mld C hm dX6_change_75 (by simp only [mln]; omega) ?_
                rw [hoo.1]
                refine z_iconst C dX6_change_76 ?_
                refine z_icmp_ne (tgt := 95) C dX6_change_77 (by decide) (by omega) (fun g6 => ?_) (fun g6 => ?_)
                · refine z_iload_n C dX6_change_95 rfl ?_
                  have hVm : V = m := by rw [hV]; unfold chV; rw [if_neg g6]
                  rw [hVm] at go
                  exact go _ (by exact ⟨rfl, rfl, trivial⟩)
                · refine z_aload_n C dX6_change_80 rfl ?_
                  refine z_mgf C hm qF_X6_19 dX6_change_81 ?_
                  refine z_iload_n C dX6_change_84 rfl ?_
                  refine z_mld C hm dX6_change_85 (by simp only [mln]; omega) ?_
                  rw [hoo.2.1]
                  refine z_iload_n C dX6_change_86 rfl ?_
                  refine z_iadd C dX6_change_87 ?_
                  refine z_sipush C dX6_change_88 ?_
                  refine z_irem C dX6_change_91 (by omega) ?_
                  refine z_goto (tgt := 96) C dX6_change_92 (by decide) ?_
                  have hVm : V = ((ob j q).2.1 + m) % 1000 := by rw [hV]; unfold chV; rw [if_pos g6]
                  rw [hVm] at go
                  exact go _ (by exact ⟨rfl, rfl, trivial⟩)
              · omega
            · have hnot : q ∉ dm j := by
                rcases hz with ⟨h1, h2⟩ | ⟨i, h1, h2⟩
                · exact fun h => h2 (hp.mem_iff.mpr h)
                · omega
              refine z_iconst C dX6_change_50 ?_
              refine z_goto (tgt := 55) C dX6_change_51 (by decide) ?_
              exact fail 3 _ _ (by decide) (by rw [hr, spChange, if_neg (by omega), if_neg (by omega), show ((j : Int)).toNat = j from rfl, if_pos hnot]) hm hF _ (by exact ⟨rfl, trivial⟩)
          · exact absurd g3 (by decide)
        · rw [decide_eq_false hmm, show zB false = 0 from rfl]
          refine z_if_ne (tgt := 45) C dX6_change_38 (by decide) (by omega) (fun g3 => ?_) (fun g3 => ?_)
          · exact absurd rfl g3
          · refine z_iconst C dX6_change_41 ?_
            refine z_goto (tgt := 55) C dX6_change_42 (by decide) ?_
            exact fail 2 _ _ (by decide) (by rw [hr, spChange, if_neg (by omega), if_pos hmm]) hm hF _ (by exact ⟨rfl, trivial⟩)
      · omega
  · rw [if_neg ha] at hm
    rw [decide_eq_false ha, show zB false = 0 from rfl]
    refine z_if_eq (tgt := 16) C dX6_change_5 (by decide) (by omega) (fun g => ?_) (fun g => ?_)
    · refine z_iconst C dX6_change_16 ?_
      refine z_istore_n C dX6_change_17 ?_
      refine z_aload_n C dX6_change_18 rfl ?_
      refine z_aload_n C dX6_change_19 rfl ?_
      refine z_mg0 C hm qF_X6_71 dX6_change_20 ?_
      refine z_if_le (tgt := 30) C dX6_change_23 (by decide) (by omega) (fun g2 => ?_) (fun g2 => ?_)
      · omega
      · refine z_iconst C dX6_change_26 ?_
        refine z_goto (tgt := 55) C dX6_change_27 (by decide) ?_
        exact fail 1 _ _ (by decide) (by rw [hr, spChange, if_pos ha]) hm hF _ (by exact ⟨rfl, trivial⟩)
    · exact absurd rfl g
end MOK
