/-! get, next, bulk, nextBySorting, seen, pass -/
section MOG
variable {N t : Int} {s : Sg} {M : Nat → Nat} {μ : Mem}
theorem vK_in {dm : List Int} {ob : Int → Ob} {q : Int} (h : q ∈ dm) : vK dm ob q = (ob q).2.1 := if_pos h
theorem vK_out {dm : List Int} {ob : Int → Ob} {q : Int} (h : q ∉ dm) : vK dm ob q = -1 := if_neg h
theorem m_get (w : Wd) (a : Int) (hR : Rm μ M t s) (hO : okS N s) (h32 : in32 a) : cM w yX6_get cX6_get 3 (some .int) 8 0 0 [.ref (M 0), .int (J a)] μ (okM M μ (spGet a s)) (fun _ _ => False) := by
  obtain ⟨q, clk, dm, ob, ru, rn, rs, nb, tr⟩ := s
  obtain ⟨A, hm, hI, hRu, hRs, hNb, hTr, h9⟩ := hR
  have hF := Fm_rf μ M
  have hqk := hO.2.1
  have hqi := k11_in hqk
  have hci := hO.2.2.1
  have g0 := hm.1.1
  obtain ⟨r, hr⟩ : ∃ r, r = spGet a (q, clk, dm, ob, ru, rn, rs, nb, tr) := ⟨_, rfl⟩
  rw [← hr]
  refine cM_of (fun x C => ?_)
  refine z_aload_n C dX6_get_0 rfl ?_
  refine z_iload_n C dX6_get_1 rfl ?_
  refine z_callV C (c_isAgent w μ a h32 hm) qM_X6_99 dX6_get_2 rfl (zRc_o g0) (fun _ _ h => h.elim) ?_
  rintro v μ1 ⟨rfl, hm, hF⟩
  have g0 := hm.1.1
  by_cases ha : 0 ≤ a ∧ a ≤ 3
  · rw [if_pos ha] at hm
    rw [decide_eq_true ha, show zB true = 1 from rfl]
    obtain ⟨j, rfl⟩ : ∃ j : Nat, a = (j : Int) := ⟨a.toNat, by omega⟩
    have hj : j < 4 := by omega
    obtain ⟨l, hl, hp, ho⟩ := hI j hj
    obtain ⟨rl, hrl, hrn⟩ := hRu j hj
    have hJ := hO.2.2.2.1 j hj
    have fin : r = (0, if hidK (ru j) q = true then -1 else vK (dm j) (ob j) q, q, clk, dm, ob, ru, rn, rs, nb, tr) := by rw [hr, spGet, if_neg (by omega)]; rfl
    refine z_if_eq (tgt := 16) C dX6_get_5 (by decide) (by omega) (fun g => ?_) (fun g => ?_)
    · exact absurd g (by decide)
    · refine z_aload_n C dX6_get_8 rfl ?_
      refine z_iload_n C dX6_get_9 rfl ?_
      refine z_callV C (c_slot w μ1 j l q hj hqk hl hm) qM_X6_96 dX6_get_10 rfl (zRc_o g0) (fun _ _ h => h.elim) ?_
      rintro v μ2 ⟨⟨z, rfl, hz⟩, rfl⟩
      refine z_goto (tgt := 17) C dX6_get_13 (by decide) ?_
      refine z_istore_n C dX6_get_17 ?_
      refine z_aload_n C dX6_get_18 rfl ?_
      refine z_mg0 C hm qF_X6_71 dX6_get_19 ?_
      refine z_if_le (tgt := 29) C dX6_get_22 (by decide) (by omega) (fun g2 => ?_) (fun g2 => ?_)
      · have hzr : -1 ≤ z ∧ z ≤ 79 := by
          rcases hz with ⟨h1, -⟩ | ⟨i, h1, h2⟩
          · omega
          · have := (List.getElem?_eq_some_iff.mp h1).1
            have := hl.2.1
            omega
        refine z_iload_n C dX6_get_29 rfl ?_
        refine z_iconst C dX6_get_30 ?_
        refine z_icmp_eq (tgt := 46) C dX6_get_31 (by decide) (by omega) (fun g3 => ?_) (fun g3 => ?_)
        · -- nothing there
          have hnot : q ∉ dm j := by
            rcases hz with ⟨h1, h2⟩ | ⟨i, h1, h2⟩
            · exact fun h => h2 (hp.mem_iff.mpr h)
            · omega
          refine z_iconst C dX6_get_46 ?_
          refine z_goto (tgt := 56) C dX6_get_47 (by decide) ?_
          refine z_iret C dX6_get_56 ?_
          rw [fin, vK_out hnot]
          exact ⟨⟨_, rfl, fun _ => by show (-1 : Int) = if _ then _ else _; split <;> rfl⟩, ⟨A, hm, hI, hRu, hRs, hNb, hTr, h9⟩, hF⟩
        · obtain ⟨i, h1, h2⟩ : ∃ i : Nat, l[i]? = some q ∧ z = 20 * (j : Int) + (i : Int) := by
            rcases hz with ⟨h1, -⟩ | h
            · exact absurd h1 g3
            · exact h
          have hin : q ∈ dm j := hp.mem_iff.mp (List.mem_of_getElem? h1)
          have hoo := ho i q h1
          refine z_aload_n C dX6_get_34 rfl ?_
          refine z_iload_n C dX6_get_35 rfl ?_
          refine z_aload_n C dX6_get_36 rfl ?_
          refine z_mg2 C hm qF_X6_90 dX6_get_37 ?_
          refine z_callV C (c_isHidden w μ2 j rl (ru j) q hj hqk hrl (fun k => (hJ.2.2.2.1 k).1) hm) qM_X6_127 dX6_get_40 rfl (zRc_o g0) (fun _ _ h => h.elim) ?_
          rintro v μ3 ⟨rfl, rfl⟩
          have hzb := zB_in (hidK (ru j) q)
          refine z_if_eq (tgt := 50) C dX6_get_43 (by decide) (by omega) (fun g4 => ?_) (fun g4 => ?_)
          · have hh := zB_eq.mp g4
            refine z_aload_n C dX6_get_50 rfl ?_
            refine z_mgf C hm qF_X6_19 dX6_get_51 ?_
            refine z_iload_n C dX6_get_54 rfl ?_
            refine z_mld C hm dX6_get_55 (by simp only [mln]; omega) ?_
            rw [h2, hoo.2.1]
            refine z_iret C dX6_get_56 ?_
            rw [fin, hh, vK_in hin]
            exact ⟨⟨_, rfl, fun _ => rfl⟩, ⟨A, hm, hI, hRu, hRs, hNb, hTr, h9⟩, hF⟩
          · have hh : hidK (ru j) q = true := by cases h : hidK (ru j) q with | true => rfl | false => exact absurd (zB_eq.mpr h) g4
            refine z_iconst C dX6_get_46 ?_
            refine z_goto (tgt := 56) C dX6_get_47 (by decide) ?_
            refine z_iret C dX6_get_56 ?_
            rw [fin, hh]
            exact ⟨⟨_, rfl, fun _ => rfl⟩, ⟨A, hm, hI, hRu, hRs, hNb, hTr, h9⟩, hF⟩
      · omega
  · rw [if_neg ha] at hm
    rw [decide_eq_false ha, show zB false = 0 from rfl]
    refine z_if_eq (tgt := 16) C dX6_get_5 (by decide) (by omega) (fun g => ?_) (fun g => ?_)
    · refine z_iconst C dX6_get_16 ?_
      refine z_istore_n C dX6_get_17 ?_
      refine z_aload_n C dX6_get_18 rfl ?_
      refine z_mg0 C hm qF_X6_71 dX6_get_19 ?_
      refine z_if_le (tgt := 29) C dX6_get_22 (by decide) (by omega) (fun g2 => ?_) (fun g2 => ?_)
      · omega
      · refine z_iconst C dX6_get_25 ?_
        refine z_goto (tgt := 56) C dX6_get_26 (by decide) ?_
        refine z_iret C dX6_get_56 ?_
        rw [hr, spGet, if_pos ha]
        exact ⟨⟨_, rfl, fun h => by cases h⟩, ⟨A, hm, hI, hRu, hRs, hNb, hTr, h9⟩, hF⟩
    · exact absurd rfl g
theorem m_next (w : Wd) (a : Int) (hR : Rm μ M t s) (hO : okS N s) (h32 : in32 a) : cM w yX6_next cX6_next 3 (some .int) 8 0 0 [.ref (M 0), .int (J a)] μ (okM M μ (spNext a s)) (fun _ _ => False) := by
  obtain ⟨q, clk, dm, ob, ru, rn, rs, nb, tr⟩ := s
  obtain ⟨A, hm, hI, hRu, hRs, hNb, hTr, h9⟩ := hR
  have hF := Fm_rf μ M
  have hqk := hO.2.1
  have hqi := k11_in hqk
  have hci := hO.2.2.1
  have g0 := hm.1.1
  obtain ⟨r, hr⟩ : ∃ r, r = spNext a (q, clk, dm, ob, ru, rn, rs, nb, tr) := ⟨_, rfl⟩
  rw [← hr]
  refine cM_of (fun x C => ?_)
  refine z_aload_n C dX6_next_0 rfl ?_
  refine z_iload_n C dX6_next_1 rfl ?_
  refine z_callV C (c_isAgent w μ a h32 hm) qM_X6_99 dX6_next_2 rfl (zRc_o g0) (fun _ _ h => h.elim) ?_
  rintro v μ1 ⟨rfl, hm, hF⟩
  have g0 := hm.1.1
  by_cases ha : 0 ≤ a ∧ a ≤ 3
  · rw [if_pos ha] at hm
    rw [decide_eq_true ha, show zB true = 1 from rfl]
    obtain ⟨j, rfl⟩ : ∃ j : Nat, a = (j : Int) := ⟨a.toNat, by omega⟩
    have hj : j < 4 := by omega
    obtain ⟨l, hl, hp, ho⟩ := hI j hj
    obtain ⟨rl, hrl, hrn⟩ := hRu j hj
    have hJ := hO.2.2.2.1 j hj
    have fin : r = (0, vO (ob j) (nx (dm j) (ru j) q), (nx (dm j) (ru j) q).getD q, clk, dm, ob, ru, rn, rs, nb, tr) := by rw [hr, spNext, if_neg (by omega)]; rfl
    refine z_if_eq (tgt := 16) C dX6_next_5 (by decide) (by omega) (fun g => ?_) (fun g => ?_)
    · exact absurd g (by decide)
    · refine z_aload_n C dX6_next_8 rfl ?_
      refine z_iload_n C dX6_next_9 rfl ?_
      refine z_callV C (c_behind w μ1 j l rl (dm j) (ru j) q hj hqk hl hp hrl (fun k => (hJ.2.2.2.1 k).1) hm) qM_X6_130 dX6_next_10 rfl (zRc_o g0) (fun _ _ h => h.elim) ?_
      rintro v μ2 ⟨⟨z, rfl, hz⟩, rfl⟩
      refine z_goto (tgt := 17) C dX6_next_13 (by decide) ?_
      rcases hz with ⟨h1, h2⟩ | ⟨i, k, h1, h2, h3⟩
      · subst h1
        refine z_istore_n C dX6_next_17 ?_
        refine z_iload_n C dX6_next_18 rfl ?_
        refine z_iconst C dX6_next_19 ?_
        refine z_icmp_eq (tgt := 33) C dX6_next_20 (by decide) (by omega) (fun g2 => ?_) (fun g2 => ?_)
        · refine z_aload_n C dX6_next_33 rfl ?_
          refine z_mg0 C hm qF_X6_71 dX6_next_34 ?_
          refine z_if_le (tgt := 44) C dX6_next_37 (by decide) (by omega) (fun g3 => ?_) (fun g3 => ?_)
          · refine z_iload_n C dX6_next_44 rfl ?_
            refine z_iconst C dX6_next_45 ?_
            refine z_icmp_ne (tgt := 53) C dX6_next_46 (by decide) (by omega) (fun g4 => ?_) (fun g4 => ?_)
            · exact absurd rfl g4
            · refine z_iconst C dX6_next_49 ?_
              refine z_goto (tgt := 59) C dX6_next_50 (by decide) ?_
              refine z_iret C dX6_next_59 ?_
              rw [fin, h2]
              exact ⟨⟨_, rfl, fun _ => rfl⟩, ⟨A, hm, hI, hRu, hRs, hNb, hTr, h9⟩, hF⟩
          · omega
        · exact absurd rfl g2
      · obtain ⟨e1, e2⟩ := hl.2.2 i k h1
        have hoo := ho i k h1
        have hi := (List.getElem?_eq_some_iff.mp h1).1
        have hl20 := hl.2.1
        refine z_istore_n C dX6_next_17 ?_
        refine z_iload_n C dX6_next_18 rfl ?_
        refine z_iconst C dX6_next_19 ?_
        refine z_icmp_eq (tgt := 33) C dX6_next_20 (by decide) (by omega) (fun g2 => ?_) (fun g2 => ?_)
        · omega
        · refine z_aload_n C dX6_next_23 rfl ?_
          refine z_aload_n C dX6_next_24 rfl ?_
          refine z_mgf C hm qF_X6_13 dX6_next_25 ?_
          refine z_iload_n C dX6_next_28 rfl ?_
          refine z_mld C hm dX6_next_29 (by simp only [mln]; omega) ?_
          rw [h2, e2]
          refine z_mp2 C hm hF qF_X6_90 dX6_next_30 (fun μ hm hF => ?_)
          refine z_aload_n C dX6_next_33 rfl ?_
          refine z_mg0 C hm qF_X6_71 dX6_next_34 ?_
          refine z_if_le (tgt := 44) C dX6_next_37 (by decide) (by omega) (fun g3 => ?_) (fun g3 => ?_)
          · refine z_iload_n C dX6_next_44 rfl ?_
            refine z_iconst C dX6_next_45 ?_
            refine z_icmp_ne (tgt := 53) C dX6_next_46 (by decide) (by omega) (fun g4 => ?_) (fun g4 => ?_)
            · refine z_aload_n C dX6_next_53 rfl ?_
              refine z_mgf C hm qF_X6_19 dX6_next_54 ?_
              refine z_iload_n C dX6_next_57 rfl ?_
              refine z_mld C hm dX6_next_58 (by simp only [mln]; omega) ?_
              rw [hoo.2.1]
              refine z_iret C dX6_next_59 ?_
              rw [fin, h3]
              exact ⟨⟨_, rfl, fun _ => rfl⟩, ⟨A, hm, hI, hRu, hRs, hNb, hTr, h9⟩, hF⟩
            · omega
          · omega
  · rw [if_neg ha] at hm
    rw [decide_eq_false ha, show zB false = 0 from rfl]
    refine z_if_eq (tgt := 16) C dX6_next_5 (by decide) (by omega) (fun g => ?_) (fun g => ?_)
    · refine z_iconst C dX6_next_16 ?_
      refine z_istore_n C dX6_next_17 ?_
      refine z_iload_n C dX6_next_18 rfl ?_
      refine z_iconst C dX6_next_19 ?_
      refine z_icmp_eq (tgt := 33) C dX6_next_20 (by decide) (by omega) (fun g2 => ?_) (fun g2 => ?_)
      · refine z_aload_n C dX6_next_33 rfl ?_
        refine z_mg0 C hm qF_X6_71 dX6_next_34 ?_
        refine z_if_le (tgt := 44) C dX6_next_37 (by decide) (by omega) (fun g3 => ?_) (fun g3 => ?_)
        · omega
        · refine z_iconst C dX6_next_40 ?_
          refine z_goto (tgt := 59) C dX6_next_41 (by decide) ?_
          refine z_iret C dX6_next_59 ?_
          rw [hr, spNext, if_pos ha]
          exact ⟨⟨_, rfl, fun h => by cases h⟩, ⟨A, hm, hI, hRu, hRs, hNb, hTr, h9⟩, hF⟩
      · exact absurd rfl g2
    · exact absurd rfl g
theorem m_sort (w : Wd) (a : Int) (hR : Rm μ M t s) (hO : okS N s) (h32 : in32 a) : cM w yX6_nextBySorting cX6_nextBySorting 3 (some .int) 8 0 0 [.ref (M 0), .int (J a)] μ (okM M μ (spSort a s)) (fun _ _ => False) := by
  obtain ⟨q, clk, dm, ob, ru, rn, rs, nb, tr⟩ := s
  obtain ⟨A, hm, hI, hRu, hRs, hNb, hTr, h9⟩ := hR
  have hF := Fm_rf μ M
  have hqk := hO.2.1
  have hqi := k11_in hqk
  have hci := hO.2.2.1
  have g0 := hm.1.1
  obtain ⟨r, hr⟩ : ∃ r, r = spSort a (q, clk, dm, ob, ru, rn, rs, nb, tr) := ⟨_, rfl⟩
  rw [← hr]
  refine cM_of (fun x C => ?_)
  refine z_aload_n C dX6_nextBySorting_0 rfl ?_
  refine z_iload_n C dX6_nextBySorting_1 rfl ?_
  refine z_callV C (c_isAgent w μ a h32 hm) qM_X6_99 dX6_nextBySorting_2 rfl (zRc_o g0) (fun _ _ h => h.elim) ?_
  rintro v μ1 ⟨rfl, hm, hF⟩
  have g0 := hm.1.1
  by_cases ha : 0 ≤ a ∧ a ≤ 3
  · rw [if_pos ha] at hm
    rw [decide_eq_true ha, show zB true = 1 from rfl]
    obtain ⟨j, rfl⟩ : ∃ j : Nat, a = (j : Int) := ⟨a.toNat, by omega⟩
    have hj : j < 4 := by omega
    obtain ⟨l, hl, hp, ho⟩ := hI j hj
    obtain ⟨rl, hrl, hrn⟩ := hRu j hj
    have hJ := hO.2.2.2.1 j hj
    have fin : r = (0, vO (ob j) (nx (dm j) (ru j) q), q, clk, dm, ob, ru, rn, rs, nb, tr) := by rw [hr, spSort, if_neg (by omega)]; rfl
    refine z_if_eq (tgt := 16) C dX6_nextBySorting_5 (by decide) (by omega) (fun g => ?_) (fun g => ?_)
    · exact absurd g (by decide)
    · refine z_aload_n C dX6_nextBySorting_8 rfl ?_
      refine z_iload_n C dX6_nextBySorting_9 rfl ?_
      refine z_callV C (c_behind w μ1 j l rl (dm j) (ru j) q hj hqk hl hp hrl (fun k => (hJ.2.2.2.1 k).1) hm) qM_X6_130 dX6_nextBySorting_10 rfl (zRc_o g0) (fun _ _ h => h.elim) ?_
      rintro v μ2 ⟨⟨z, rfl, hz⟩, rfl⟩
      refine z_goto (tgt := 17) C dX6_nextBySorting_13 (by decide) ?_
      refine z_istore_n C dX6_nextBySorting_17 ?_
      refine z_aload_n C dX6_nextBySorting_18 rfl ?_
      refine z_mg0 C hm qF_X6_71 dX6_nextBySorting_19 ?_
      refine z_if_le (tgt := 29) C dX6_nextBySorting_22 (by decide) (by omega) (fun g2 => ?_) (fun g2 => ?_)
      · rcases hz with ⟨h1, h2⟩ | ⟨i, k, h1, h2, h3⟩
        · subst h1
          refine z_iload_n C dX6_nextBySorting_29 rfl ?_
          refine z_iconst C dX6_nextBySorting_30 ?_
          refine z_icmp_ne (tgt := 38) C dX6_nextBySorting_31 (by decide) (by omega) (fun g4 => ?_) (fun g4 => ?_)
          · exact absurd rfl g4
          · refine z_iconst C dX6_nextBySorting_34 ?_
            refine z_goto (tgt := 44) C dX6_nextBySorting_35 (by decide) ?_
            refine z_iret C dX6_nextBySorting_44 ?_
            rw [fin, h2]
            exact ⟨⟨_, rfl, fun _ => rfl⟩, ⟨A, hm, hI, hRu, hRs, hNb, hTr, h9⟩, hF⟩
        · obtain ⟨e1, e2⟩ := hl.2.2 i k h1
          have hoo := ho i k h1
          have hi := (List.getElem?_eq_some_iff.mp h1).1
          have hl20 := hl.2.1
          refine z_iload_n C dX6_nextBySorting_29 rfl ?_
          refine z_iconst C dX6_nextBySorting_30 ?_
          refine z_icmp_ne (tgt := 38) C dX6_nextBySorting_31 (by decide) (by omega) (fun g4 => ?_) (fun g4 => ?_)
          · refine z_aload_n C dX6_nextBySorting_38 rfl ?_
            refine z_mgf C hm qF_X6_19 dX6_nextBySorting_39 ?_
            refine z_iload_n C dX6_nextBySorting_42 rfl ?_
            refine z_mld C hm dX6_nextBySorting_43 (by simp only [mln]; omega) ?_
            rw [h2, hoo.2.1]
            refine z_iret C dX6_nextBySorting_44 ?_
            rw [fin, h3]
            exact ⟨⟨_, rfl, fun _ => rfl⟩, ⟨A, hm, hI, hRu, hRs, hNb, hTr, h9⟩, hF⟩
          · omega
      · omega
  · rw [if_neg ha] at hm
    rw [decide_eq_false ha, show zB false = 0 from rfl]
    refine z_if_eq (tgt := 16) C dX6_nextBySorting_5 (by decide) (by omega) (fun g => ?_) (fun g => ?_)
    · refine z_iconst C dX6_nextBySorting_16 ?_
      refine z_istore_n C dX6_nextBySorting_17 ?_
      refine z_aload_n C dX6_nextBySorting_18 rfl ?_
      refine z_mg0 C hm qF_X6_71 dX6_nextBySorting_19 ?_
      refine z_if_le (tgt := 29) C dX6_nextBySorting_22 (by decide) (by omega) (fun g2 => ?_) (fun g2 => ?_)
      · omega
      · refine z_iconst C dX6_nextBySorting_25 ?_
        refine z_goto (tgt := 44) C dX6_nextBySorting_26 (by decide) ?_
        refine z_iret C dX6_nextBySorting_44 ?_
        rw [hr, spSort, if_pos ha]
        exact ⟨⟨_, rfl, fun h => by cases h⟩, ⟨A, hm, hI, hRu, hRs, hNb, hTr, h9⟩, hF⟩
    · exact absurd rfl g
theorem m_pass (w : Wd) (m : Int) (hR : Rm μ M t s) (hO : okS N s) (h32 : in32 m) : cM w yX6_pass cX6_pass 2 (some .int) 8 0 0 [.ref (M 0), .int (J m)] μ (okM M μ (spPass m s)) (fun _ _ => False) := by
  obtain ⟨q, clk, dm, ob, ru, rn, rs, nb, tr⟩ := s
  obtain ⟨A, hm, hI, hRu, hRs, hNb, hTr, h9⟩ := hR
  have hF := Fm_rf μ M
  have hqk := hO.2.1
  have hqi := k11_in hqk
  have hci := hO.2.2.1
  have g0 := hm.1.1
  obtain ⟨r, hr⟩ : ∃ r, r = spPass m (q, clk, dm, ob, ru, rn, rs, nb, tr) := ⟨_, rfl⟩
  rw [← hr]
  refine cM_of (fun x C => ?_)
  refine z_aload_n C dX6_pass_0 rfl ?_
  refine z_iload_n C dX6_pass_1 rfl ?_
  refine z_iconst C dX6_pass_2 ?_
  refine z_sipush C dX6_pass_3 ?_
  refine z_callS C (c_in w _ m 1 1000 h32 ⟨by decide, by decide⟩ ⟨by decide, by decide⟩) qM_X6_75 dX6_pass_6 rfl (fun _ _ h => h.elim) ?_
  rintro v μ ⟨rfl, rfl⟩
  have fail : ∀ code : Int, 0 < code ∧ code ≤ 2 → r = (code, 0, q, clk, dm, ob, ru, rn, rs, nb, tr) → Z w x (zQ w x (okM M μ r) (fun _ _ => False) 0 0) 2 32 [(0, .ref (M 0)), (1, .int (J m))] [.int (J code), .ref (M 0)] μ 0 0 := by
    intro code hc he
    refine z_mp0 C hm hF qF_X6_71 dX6_pass_32 (fun μ hm hF => ?_)
    refine z_aload_n C dX6_pass_35 rfl ?_
    refine z_dup C dX6_pass_36 ?_
    refine z_mg1 C hm qF_X6_113 dX6_pass_37 ?_
    refine z_aload_n C dX6_pass_40 rfl ?_
    refine z_mg0 C hm qF_X6_71 dX6_pass_41 ?_
    refine z_if_ne (tgt := 51) C dX6_pass_44 (by decide) (by omega) (fun g => ?_) (fun g => ?_)
    · refine z_iconst C dX6_pass_51 ?_
      refine z_iadd C dX6_pass_52 ?_
      refine z_mp1 C hm hF qF_X6_113 dX6_pass_53 (fun μ hm hF => ?_)
      refine z_aload_n C dX6_pass_56 rfl ?_
      refine z_mg0 C hm qF_X6_71 dX6_pass_57 ?_
      refine z_if_le (tgt := 67) C dX6_pass_60 (by decide) (by omega) (fun g2 => ?_) (fun g2 => ?_)
      · omega
      · refine z_iconst C dX6_pass_63 ?_
        refine z_goto (tgt := 71) C dX6_pass_64 (by decide) ?_
        refine z_iret C dX6_pass_71 ?_
        rw [he]
        rw [Int.add_zero] at hm
        exact ⟨⟨0, rfl, fun _ => rfl⟩, ⟨A, hm, hI, hRu, hRs, hNb, hTr, h9⟩, hF⟩
    · omega
  by_cases hn : 1 ≤ m ∧ m ≤ 1000
  · rw [decide_eq_true hn, show zB true = 1 from rfl]
    refine z_if_ne (tgt := 16) C dX6_pass_9 (by decide) (by omega) (fun g => ?_) (fun g => ?_)
    · refine z_aload_n C dX6_pass_16 rfl ?_
      refine z_mg1 C hm qF_X6_113 dX6_pass_17 ?_
      refine z_iload_n C dX6_pass_20 rfl ?_
      refine z_iadd C dX6_pass_21 ?_
      refine z_ldc C dX6_pass_22 qK_X6_133 ?_
      refine z_icmp_le (tgt := 31) C dX6_pass_24 (by decide) (by omega) (fun g2 => ?_) (fun g2 => ?_)
      · refine z_iconst C dX6_pass_31 ?_
        refine z_mp0 C hm hF qF_X6_71 dX6_pass_32 (fun μ hm hF => ?_)
        refine z_aload_n C dX6_pass_35 rfl ?_
        refine z_dup C dX6_pass_36 ?_
        refine z_mg1 C hm qF_X6_113 dX6_pass_37 ?_
        refine z_aload_n C dX6_pass_40 rfl ?_
        refine z_mg0 C hm qF_X6_71 dX6_pass_41 ?_
        refine z_if_ne (tgt := 51) C dX6_pass_44 (by decide) (by omega) (fun g3 => ?_) (fun g3 => ?_)
        · omega
        · refine z_iload_n C dX6_pass_47 rfl ?_
          refine z_goto (tgt := 52) C dX6_pass_48 (by decide) ?_
          refine z_iadd C dX6_pass_52 ?_
          refine z_mp1 C hm hF qF_X6_113 dX6_pass_53 (fun μ hm hF => ?_)
          refine z_aload_n C dX6_pass_56 rfl ?_
          refine z_mg0 C hm qF_X6_71 dX6_pass_57 ?_
          refine z_if_le (tgt := 67) C dX6_pass_60 (by decide) (by omega) (fun g4 => ?_) (fun g4 => ?_)
          · refine z_aload_n C dX6_pass_67 rfl ?_
            refine z_mg1 C hm qF_X6_113 dX6_pass_68 ?_
            refine z_iret C dX6_pass_71 ?_
            rw [hr, spPass, if_neg (by omega), if_neg (by omega)]
            exact ⟨⟨_, rfl, fun _ => rfl⟩, ⟨A, hm, hI, hRu, hRs, hNb, hTr, h9⟩, hF⟩
          · omega
      · refine z_iconst C dX6_pass_27 ?_
        refine z_goto (tgt := 32) C dX6_pass_28 (by decide) ?_
        exact z_ls _ (by exact ⟨rfl, rfl, trivial⟩) (fail 2 (by decide) (by rw [hr, spPass, if_neg (by omega), if_pos (by omega)]))
    · exact absurd g (by decide)
  · rw [decide_eq_false hn, show zB false = 0 from rfl]
    refine z_if_ne (tgt := 16) C dX6_pass_9 (by decide) (by omega) (fun g => ?_) (fun g => ?_)
    · exact absurd rfl g
    · refine z_iconst C dX6_pass_12 ?_
      refine z_goto (tgt := 32) C dX6_pass_13 (by decide) ?_
      exact z_ls _ (by exact ⟨rfl, rfl, trivial⟩) (fail 1 (by decide) (by rw [hr, spPass, if_pos (by omega)]))
theorem m_seen (w : Wd) (a : Int) (hR : Rm μ M t s) (hO : okS N s) (h32 : in32 a) : cM w yX6_seen cX6_seen 5 (some .int) 8 0 0 [.ref (M 0), .int (J a)] μ (okM M μ (spSeen a s)) (fun _ _ => False) := by
  obtain ⟨q, clk, dm, ob, ru, rn, rs, nb, tr⟩ := s
  obtain ⟨A, hm, hI, hRu, hRs, hNb, hTr, h9⟩ := hR
  have hF := Fm_rf μ M
  have hqk := hO.2.1
  have hqi := k11_in hqk
  have hci := hO.2.2.1
  have g0 := hm.1.1
  obtain ⟨r, hr⟩ : ∃ r, r = spSeen a (q, clk, dm, ob, ru, rn, rs, nb, tr) := ⟨_, rfl⟩
  rw [← hr]
  refine cM_of (fun x C => ?_)
  refine z_iconst C dX6_seen_0 ?_
  refine z_istore_n C dX6_seen_1 ?_
  refine z_aload_n C dX6_seen_2 rfl ?_
  refine z_iload_n C dX6_seen_3 rfl ?_
  refine z_callV C (c_isAgent w μ a h32 hm) qM_X6_99 dX6_seen_4 rfl (zRc_o g0) (fun _ _ h => h.elim) ?_
  rintro v μ1 ⟨rfl, hm, hF⟩
  have g0 := hm.1.1
  by_cases ha : 0 ≤ a ∧ a ≤ 3
  · rw [if_pos ha] at hm
    rw [decide_eq_true ha, show zB true = 1 from rfl]
    obtain ⟨j, rfl⟩ : ∃ j : Nat, a = (j : Int) := ⟨a.toNat, by omega⟩
    have hj : j < 4 := by omega
    obtain ⟨l, hl, hp, ho⟩ := hI j hj
    obtain ⟨rl, hrl, hrn⟩ := hRu j hj
    have hJ := hO.2.2.2.1 j hj
    obtain ⟨hl1, hl2, hl3⟩ := hl
    have fin : r = (0, ((l.countP (fun k => !hidK (ru j) k) : Nat) : Int), q, clk, dm, ob, ru, rn, rs, nb, tr) := by rw [hr, spSeen, if_neg (by omega), hp.countP_eq]; rfl
    have loop : ∀ (m i : Nat), i + m = l.length → Z w x (zQ w x (okM M μ r) (fun _ _ => False) 0 0) 5 14 [(0, .ref (M 0)), (1, .int (J (j : Int))), (2, .int (J (((l.take i).countP (fun k => !hidK (ru j) k) : Nat) : Int))), (3, .int (J 1)), (4, .int (J (20 * (j : Int) + (i : Int))))] [] μ1 0 0 := by
      intro m
      induction m with
      | zero =>
        intro i hi
        refine z_iload_n C dX6_seen_14 rfl ?_
        refine z_if_eq (tgt := 63) C dX6_seen_15 (by decide) (by omega) (fun g => ?_) (fun g => ?_)
        · exact absurd g (by decide)
        · refine z_iload C dX6_seen_18 rfl ?_
          refine z_bipush C dX6_seen_20 ?_
          refine z_iload_n C dX6_seen_22 rfl ?_
          refine z_imul C dX6_seen_23 ?_
          refine z_aload_n C dX6_seen_24 rfl ?_
          refine z_mgf C hm qF_X6_7 dX6_seen_25 ?_
          refine z_iload_n C dX6_seen_28 rfl ?_
          refine z_mld C hm dX6_seen_29 (by simp only [mln]; omega) ?_
          rw [hl1]
          refine z_iadd C dX6_seen_30 ?_
          refine z_icmp_ge (tgt := 63) C dX6_seen_31 (by decide) (by omega) (fun g2 => ?_) (fun g2 => ?_)
          · refine z_iload_n C dX6_seen_63 rfl ?_
            refine z_iret C dX6_seen_64 ?_
            rw [fin, List.take_of_length_le (by omega)]
            exact ⟨⟨_, rfl, fun _ => rfl⟩, ⟨A, hm, hI, hRu, hRs, hNb, hTr, h9⟩, hF⟩
          · omega
      | succ m ih =>
        intro i hi
        obtain ⟨k, hk⟩ : ∃ k, l[i]? = some k := ⟨_, List.getElem?_eq_getElem (by omega)⟩
        obtain ⟨k1, k2⟩ := hl3 i k hk
        have hsn : l.take (i + 1) = l.take i ++ [k] := by rw [List.take_add_one, hk]; rfl
        refine z_iload_n C dX6_seen_14 rfl ?_
        refine z_if_eq (tgt := 63) C dX6_seen_15 (by decide) (by omega) (fun g => ?_) (fun g => ?_)
        · exact absurd g (by decide)
        · refine z_iload C dX6_seen_18 rfl ?_
          refine z_bipush C dX6_seen_20 ?_
          refine z_iload_n C dX6_seen_22 rfl ?_
          refine z_imul C dX6_seen_23 ?_
          refine z_aload_n C dX6_seen_24 rfl ?_
          refine z_mgf C hm qF_X6_7 dX6_seen_25 ?_
          refine z_iload_n C dX6_seen_28 rfl ?_
          refine z_mld C hm dX6_seen_29 (by simp only [mln]; omega) ?_
          rw [hl1]
          refine z_iadd C dX6_seen_30 ?_
          refine z_icmp_ge (tgt := 63) C dX6_seen_31 (by decide) (by omega) (fun g2 => ?_) (fun g2 => ?_)
          · omega
          · refine z_iload_n C dX6_seen_34 rfl ?_
            refine z_aload_n C dX6_seen_35 rfl ?_
            refine z_iload_n C dX6_seen_36 rfl ?_
            refine z_aload_n C dX6_seen_37 rfl ?_
            refine z_mgf C hm qF_X6_13 dX6_seen_38 ?_
            refine z_iload C dX6_seen_41 rfl ?_
            refine z_mld C hm dX6_seen_43 (by simp only [mln]; omega) ?_
            rw [k2]
            refine z_callV C (c_isHidden w μ1 j rl (ru j) k hj k1 hrl (fun k => (hJ.2.2.2.1 k).1) hm) qM_X6_127 dX6_seen_44 rfl (zRc_o g0) (fun _ _ h => h.elim) ?_
            rintro v μ3 ⟨rfl, rfl⟩
            have hzb := zB_in (hidK (ru j) k)
            have K := ih (i + 1) (by omega)
            rw [show 20 * (j : Int) + ((i + 1 : Nat) : Int) = 20 * (j : Int) + (i : Int) + 1 by omega, hsn, List.countP_append] at K
            refine z_if_eq (tgt := 54) C dX6_seen_47 (by decide) (by omega) (fun g4 => ?_) (fun g4 => ?_)
            · have hh := zB_eq.mp g4
              rw [show List.countP (fun k => !hidK (ru j) k) [k] = 1 by simp [hh]] at K
              refine z_iconst C dX6_seen_54 ?_
              refine z_iadd C dX6_seen_55 ?_
              refine z_istore_n C dX6_seen_56 ?_
              refine z_iinc C dX6_seen_57 rfl ?_
              refine z_goto (tgt := 14) C dX6_seen_60 (by decide) ?_
              exact z_ls _ (by exact ⟨rfl, rfl, rfl, rfl, rfl, trivial⟩) K
            · have hh : hidK (ru j) k = true := by cases h : hidK (ru j) k with | true => rfl | false => exact absurd (zB_eq.mpr h) g4
              rw [show List.countP (fun k => !hidK (ru j) k) [k] = 0 by simp [hh]] at K
              refine z_iconst C dX6_seen_50 ?_
              refine z_goto (tgt := 55) C dX6_seen_51 (by decide) ?_
              refine z_iadd C dX6_seen_55 ?_
              refine z_istore_n C dX6_seen_56 ?_
              refine z_iinc C dX6_seen_57 rfl ?_
              refine z_goto (tgt := 14) C dX6_seen_60 (by decide) ?_
              rw [Int.add_zero]
              exact z_ls _ (by exact ⟨rfl, rfl, rfl, rfl, rfl, trivial⟩) K
    refine z_istore_n C dX6_seen_7 ?_
    refine z_bipush C dX6_seen_8 ?_
    refine z_iload_n C dX6_seen_10 rfl ?_
    refine z_imul C dX6_seen_11 ?_
    refine z_istore C dX6_seen_12 ?_
    have K := loop l.length 0 (by omega)
    rw [show 20 * (j : Int) + ((0 : Nat) : Int) = 20 * (j : Int) by omega] at K
    exact z_ls _ (by exact ⟨rfl, rfl, rfl, rfl, rfl, trivial⟩) K
  · rw [if_neg ha] at hm
    rw [decide_eq_false ha, show zB false = 0 from rfl]
    refine z_istore_n C dX6_seen_7 ?_
    refine z_bipush C dX6_seen_8 ?_
    refine z_iload_n C dX6_seen_10 rfl ?_
    refine z_imul C dX6_seen_11 ?_
    refine z_istore C dX6_seen_12 ?_
    refine z_iload_n C dX6_seen_14 rfl ?_
    refine z_if_eq (tgt := 63) C dX6_seen_15 (by decide) (by omega) (fun g => ?_) (fun g => ?_)
    · refine z_iload_n C dX6_seen_63 rfl ?_
      refine z_iret C dX6_seen_64 ?_
      rw [hr, spSeen, if_pos ha]
      exact ⟨⟨_, rfl, fun h => by cases h⟩, ⟨A, hm, hI, hRu, hRs, hNb, hTr, h9⟩, hF⟩
    · exact absurd rfl g
end MOG
