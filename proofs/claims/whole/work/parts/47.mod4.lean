/-! the reference's calls that look -/
def okM (M : Nat → Nat) (μ : Mem) (r : Rs) (v : Option Value) (μ' : Mem) : Prop := (∃ z, v = some (.int (J z)) ∧ (r.1 = 0 → z = r.2.1)) ∧ Rm μ' M r.1 r.2.2 ∧ Fm μ μ' M
theorem wr_new {q n : Int} (h : okK q) (hn : 0 ≤ n ∧ n ≤ 9) (h4 : ln16 q ≠ 4) : k11 (q + (n + 1) * pw16 (ln16 q)) = k11 q + (n + 1) * un11 (ln16 q) ∧ ln16 (q + (n + 1) * pw16 (ln16 q)) = ln16 q + 1 ∧ okK (q + (n + 1) * pw16 (ln16 q)) := by
  obtain ⟨a, b, c, d, ha, hb, hc, hd, h1, h2, h3, rfl⟩ := okK_un h
  rw [ln16_mk ha hb hc hd] at h4 ⊢
  have key : ∀ (L a' b' c' d' : Int), (0 ≤ a' ∧ a' ≤ 10) → (0 ≤ b' ∧ b' ≤ 10) → (0 ≤ c' ∧ c' ≤ 10) → (0 ≤ d' ∧ d' ≤ 10) → (a' = 0 → b' = 0) → (b' = 0 → c' = 0) → (c' = 0 → d' = 0) → mkp a b c d + (n + 1) * pw16 L = mkp a' b' c' d' → (1331 * a' + 121 * b' + 11 * c' + d' = 1331 * a + 121 * b + 11 * c + d + (n + 1) * un11 L) → (if a' = 0 then (0 : Int) else if b' = 0 then 1 else if c' = 0 then 2 else if d' = 0 then 3 else 4) = L + 1 → k11 (mkp a b c d + (n + 1) * pw16 L) = k11 (mkp a b c d) + (n + 1) * un11 L ∧ ln16 (mkp a b c d + (n + 1) * pw16 L) = L + 1 ∧ okK (mkp a b c d + (n + 1) * pw16 L) := by
    intro L a' b' c' d' ga gb gc gd g1 g2 g3 ge gk gl
    rw [ge, k11_mk ga gb gc gd, k11_mk ha hb hc hd, ln16_mk ga gb gc gd]
    exact ⟨gk, gl, okK_mk ga gb gc gd g1 g2 g3⟩
  by_cases ea : a = 0
  · have e2 := h1 ea; have e3 := h2 e2; have e4 := h3 e3
    rw [if_pos ea]
    refine key 0 (n + 1) 0 0 0 (by omega) z10 z10 z10 (by omega) (by omega) (by omega) ?_ ?_ ?_
    · show mkp a b c d + (n + 1) * 4096 = _
      unfold mkp
      omega
    · show _ = _ + (n + 1) * 1331
      omega
    · rw [if_neg (by omega), if_pos rfl]; rfl
  rw [if_neg ea] at h4 ⊢
  by_cases eb : b = 0
  · have e3 := h2 eb; have e4 := h3 e3
    rw [if_pos eb]
    refine key 1 a (n + 1) 0 0 ha (by omega) z10 z10 (by omega) (by omega) (by omega) ?_ ?_ ?_
    · show mkp a b c d + (n + 1) * 256 = _
      unfold mkp
      omega
    · show _ = _ + (n + 1) * 121
      omega
    · rw [if_neg ea, if_neg (by omega), if_pos rfl]; rfl
  rw [if_neg eb] at h4 ⊢
  by_cases ec : c = 0
  · have e4 := h3 ec
    rw [if_pos ec]
    refine key 2 a b (n + 1) 0 ha hb (by omega) z10 (by omega) (by omega) (by omega) ?_ ?_ ?_
    · show mkp a b c d + (n + 1) * 16 = _
      unfold mkp
      omega
    · show _ = _ + (n + 1) * 11
      omega
    · rw [if_neg ea, if_neg eb, if_neg (by omega), if_pos rfl]; rfl
  rw [if_neg ec] at h4 ⊢
  by_cases ed : d = 0
  · rw [if_pos ed]
    refine key 3 a b c (n + 1) ha hb hc (by omega) (by omega) (by omega) (by omega) ?_ ?_ ?_
    · show mkp a b c d + (n + 1) * 1 = _
      unfold mkp
      omega
    · show _ = _ + (n + 1) * 1
      omega
    · rw [if_neg ea, if_neg eb, if_neg ec, if_neg (by omega)]; rfl
  · rw [if_neg ed] at h4
    exact absurd rfl h4
section MOF
variable {N t : Int} {s : Sg} {M : Nat → Nat} {μ : Mem}
theorem m_write (w : Wd) (n : Int) (hR : Rm μ M t s) (hO : okS N s) (h32 : in32 n) : cM w yX6_write cX6_write 2 (some .int) 8 0 0 [.ref (M 0), .int (J n)] μ (okM M μ (spWrite n s)) (fun _ _ => False) := by
  obtain ⟨q, clk, dm, ob, ru, rn, rs, nb, tr⟩ := s
  obtain ⟨A, hm, hI, hRu, hRs, hNb, hTr, h9⟩ := hR
  have hF := Fm_rf μ M
  have hqk := hO.2.1
  have hqi := k11_in hqk
  have hci := hO.2.2.1
  have g0 := hm.1.1
  obtain ⟨r, hr⟩ : ∃ r, r = spWrite n (q, clk, dm, ob, ru, rn, rs, nb, tr) := ⟨_, rfl⟩
  rw [← hr]
  refine cM_of (fun x C => ?_)
  have hln := ln16_in q
  refine z_aload_n C dX6_write_0 rfl ?_
  refine z_iload_n C dX6_write_1 rfl ?_
  refine z_iconst C dX6_write_2 ?_
  refine z_bipush C dX6_write_3 ?_
  refine z_callS C (c_in w μ n 0 9 h32 ⟨by decide, by decide⟩ ⟨by decide, by decide⟩) qM_X6_75 dX6_write_5 rfl (fun _ _ h => h.elim) ?_
  rintro v μ ⟨rfl, rfl⟩
  have fail : ∀ code : Int, 0 < code ∧ code ≤ 2 → r = (code, 0, q, clk, dm, ob, ru, rn, rs, nb, tr) → Z w x (zQ w x (okM M μ r) (fun _ _ => False) 0 0) 2 31 [(0, .ref (M 0)), (1, .int (J n))] [.int (J code), .ref (M 0)] μ 0 0 := by
    intro code hc he
    refine z_mp0 C hm hF qF_X6_71 dX6_write_31 (fun μ hm hF => ?_)
    refine z_aload_n C dX6_write_34 rfl ?_
    refine z_mg0 C hm qF_X6_71 dX6_write_35 ?_
    refine z_if_le (tgt := 43) C dX6_write_38 (by decide) (by omega) (fun g => ?_) (fun g => ?_)
    · omega
    · refine z_iconst C dX6_write_41 ?_
      refine z_iret C dX6_write_42 ?_
      rw [he]
      exact ⟨⟨0, rfl, fun _ => rfl⟩, ⟨A, hm, hI, hRu, hRs, hNb, hTr, h9⟩, hF⟩
  by_cases hn : 0 ≤ n ∧ n ≤ 9
  · rw [decide_eq_true hn, show zB true = 1 from rfl]
    refine z_if_ne (tgt := 15) C dX6_write_8 (by decide) (by omega) (fun g => ?_) (fun g => ?_)
    · refine z_aload_n C dX6_write_15 rfl ?_
      refine z_mg2 C hm qF_X6_90 dX6_write_16 ?_
      refine z_callS C (c_length w μ q hqk) qM_X6_87 dX6_write_19 rfl (fun _ _ h => h.elim) ?_
      rintro v μ ⟨rfl, rfl⟩
      refine z_iconst C dX6_write_22 ?_
      refine z_icmp_ne (tgt := 30) C dX6_write_23 (by decide) (by omega) (fun g2 => ?_) (fun g2 => ?_)
      · obtain ⟨w1, w2, w3⟩ := wr_new hqk hn g2
        have un := un11_in (ln16 q)
        refine z_iconst C dX6_write_30 ?_
        refine z_mp0 C hm hF qF_X6_71 dX6_write_31 (fun μ hm hF => ?_)
        refine z_aload_n C dX6_write_34 rfl ?_
        refine z_mg0 C hm qF_X6_71 dX6_write_35 ?_
        refine z_if_le (tgt := 43) C dX6_write_38 (by decide) (by omega) (fun g3 => ?_) (fun g3 => ?_)
        · refine z_aload_n C dX6_write_43 rfl ?_
          refine z_dup C dX6_write_44 ?_
          refine z_mg2 C hm qF_X6_90 dX6_write_45 ?_
          refine z_iload_n C dX6_write_48 rfl ?_
          refine z_iconst C dX6_write_49 ?_
          refine z_iadd C dX6_write_50 ?_
          refine z_aload_n C dX6_write_51 rfl ?_
          refine z_mg2 C hm qF_X6_90 dX6_write_52 ?_
          refine z_callS C (c_length w _ q hqk) qM_X6_87 dX6_write_55 rfl (fun _ _ h => h.elim) ?_
          rintro v μ ⟨rfl, rfl⟩
          refine z_callS C (c_unit w μ (ln16 q) (by omega)) qM_X6_79 dX6_write_58 rfl (fun _ _ h => h.elim) ?_
          rintro v μ ⟨rfl, rfl⟩
          refine z_imul C dX6_write_61 ?_
          refine z_iadd C dX6_write_62 ?_
          rw [← w1]
          refine z_mp2 C hm hF qF_X6_90 dX6_write_63 (fun μ hm hF => ?_)
          refine z_aload_n C dX6_write_66 rfl ?_
          refine z_mg2 C hm qF_X6_90 dX6_write_67 ?_
          refine z_callS C (c_length w _ _ w3) qM_X6_87 dX6_write_70 rfl (fun _ _ h => h.elim) ?_
          rintro v μ ⟨rfl, rfl⟩
          refine z_iret C dX6_write_73 ?_
          rw [w2, hr, spWrite, if_neg (by omega), if_neg g2]
          exact ⟨⟨_, rfl, fun _ => rfl⟩, ⟨A, hm, hI, hRu, hRs, hNb, hTr, h9⟩, hF⟩
        · omega
      · refine z_iconst C dX6_write_26 ?_
        refine z_goto (tgt := 31) C dX6_write_27 (by decide) ?_
        exact z_ls _ (by exact ⟨rfl, rfl, trivial⟩) (fail 2 (by decide) (by rw [hr, spWrite, if_neg (by omega), if_pos g2]))
    · exact absurd g (by decide)
  · rw [decide_eq_false hn, show zB false = 0 from rfl]
    refine z_if_ne (tgt := 15) C dX6_write_8 (by decide) (by omega) (fun g => ?_) (fun g => ?_)
    · exact absurd rfl g
    · refine z_iconst C dX6_write_11 ?_
      refine z_goto (tgt := 31) C dX6_write_12 (by decide) ?_
      exact z_ls _ (by exact ⟨rfl, rfl, trivial⟩) (fail 1 (by decide) (by rw [hr, spWrite, if_pos (by omega)]))
theorem m_wipe (w : Wd) (hR : Rm μ M t s) (hO : okS N s) : cM w yX6_wipe cX6_wipe 2 (some .int) 8 0 0 [.ref (M 0)] μ (okM M μ (spWipe s)) (fun _ _ => False) := by
  obtain ⟨q, clk, dm, ob, ru, rn, rs, nb, tr⟩ := s
  obtain ⟨A, hm, hI, hRu, hRs, hNb, hTr, h9⟩ := hR
  have hF := Fm_rf μ M
  have hqk := hO.2.1
  have hqi := k11_in hqk
  have hci := hO.2.2.1
  have g0 := hm.1.1
  obtain ⟨r, hr⟩ : ∃ r, r = spWipe (q, clk, dm, ob, ru, rn, rs, nb, tr) := ⟨_, rfl⟩
  rw [← hr]
  refine cM_of (fun x C => ?_)
  refine z_aload_n C dX6_wipe_0 rfl ?_
  refine z_iconst C dX6_wipe_1 ?_
  refine z_mp0 C hm hF qF_X6_71 dX6_wipe_2 (fun μ hm hF => ?_)
  refine z_aload_n C dX6_wipe_5 rfl ?_
  refine z_mg2 C hm qF_X6_90 dX6_wipe_6 ?_
  refine z_callS C (c_length w _ q hqk) qM_X6_87 dX6_wipe_9 rfl (fun _ _ h => h.elim) ?_
  rintro v μ ⟨rfl, rfl⟩
  refine z_istore_n C dX6_wipe_12 ?_
  refine z_aload_n C dX6_wipe_13 rfl ?_
  refine z_iconst C dX6_wipe_14 ?_
  refine z_mp2 C hm hF qF_X6_90 dX6_wipe_15 (fun μ hm hF => ?_)
  refine z_iload_n C dX6_wipe_18 rfl ?_
  refine z_iret C dX6_wipe_19 ?_
  rw [hr]
  exact ⟨⟨_, rfl, fun _ => rfl⟩, ⟨A, hm, hI, hRu, hRs, hNb, hTr, h9⟩, hF⟩
theorem m_numberAt (w : Wd) (i : Int) (hR : Rm μ M t s) (hO : okS N s) (h32 : in32 i) : cM w yX6_numberAt cX6_numberAt 2 (some .int) 8 0 0 [.ref (M 0), .int (J i)] μ (okM M μ (spNum i s)) (fun _ _ => False) := by
  obtain ⟨q, clk, dm, ob, ru, rn, rs, nb, tr⟩ := s
  obtain ⟨A, hm, hI, hRu, hRs, hNb, hTr, h9⟩ := hR
  have hF := Fm_rf μ M
  have hqk := hO.2.1
  have hqi := k11_in hqk
  have hci := hO.2.2.1
  have g0 := hm.1.1
  obtain ⟨r, hr⟩ : ∃ r, r = spNum i (q, clk, dm, ob, ru, rn, rs, nb, tr) := ⟨_, rfl⟩
  rw [← hr]
  refine cM_of (fun x C => ?_)
  refine z_aload_n C dX6_numberAt_0 rfl ?_
  refine z_iconst C dX6_numberAt_1 ?_
  refine z_mp0 C hm hF qF_X6_71 dX6_numberAt_2 (fun μ hm hF => ?_)
  refine z_iload_n C dX6_numberAt_5 rfl ?_
  refine z_iconst C dX6_numberAt_6 ?_
  refine z_iconst C dX6_numberAt_7 ?_
  refine z_callS C (c_in w _ i 0 3 h32 ⟨by decide, by decide⟩ ⟨by decide, by decide⟩) qM_X6_75 dX6_numberAt_8 rfl (fun _ _ h => h.elim) ?_
  rintro v μ ⟨rfl, rfl⟩
  by_cases hn : 0 ≤ i ∧ i ≤ 3
  · rw [decide_eq_true hn, show zB true = 1 from rfl]
    refine z_if_eq (tgt := 27) C dX6_numberAt_11 (by decide) (by omega) (fun g => ?_) (fun g => ?_)
    · exact absurd g (by decide)
    · refine z_aload_n C dX6_numberAt_14 rfl ?_
      refine z_mg2 C hm qF_X6_90 dX6_numberAt_15 ?_
      refine z_iload_n C dX6_numberAt_18 rfl ?_
      refine z_callS C (c_digit w μ q i hqk (by omega)) qM_X6_83 dX6_numberAt_19 rfl (fun _ _ h => h.elim) ?_
      rintro v μ ⟨rfl, rfl⟩
      refine z_iconst C dX6_numberAt_22 ?_
      refine z_isub C dX6_numberAt_23 ?_
      refine z_goto (tgt := 32) C dX6_numberAt_24 (by decide) ?_
      refine z_iret C dX6_numberAt_32 ?_
      rw [hr, spNum, if_pos hn]
      exact ⟨⟨_, rfl, fun _ => rfl⟩, ⟨A, hm, hI, hRu, hRs, hNb, hTr, h9⟩, hF⟩
  · rw [decide_eq_false hn, show zB false = 0 from rfl]
    refine z_if_eq (tgt := 27) C dX6_numberAt_11 (by decide) (by omega) (fun g => ?_) (fun g => ?_)
    · refine z_aload_n C dX6_numberAt_27 rfl ?_
      refine z_iconst C dX6_numberAt_28 ?_
      refine z_callV C (c_fails w μ 1 hm) qM_X6_93 dX6_numberAt_29 rfl (zRc_o hm.1.1) (fun _ _ h => h.elim) ?_
      rintro v μ ⟨rfl, hm, hF2⟩
      refine z_iret C dX6_numberAt_32 ?_
      rw [hr, spNum, if_neg hn]
      exact ⟨⟨_, rfl, fun h => by cases h⟩, ⟨A, hm, hI, hRu, hRs, hNb, hTr, h9⟩, Fm_tr hF hF2⟩
    · exact absurd rfl g
theorem m_traps (w : Wd) (hR : Rm μ M t s) (hO : okS N s) : cM w yX6_traps cX6_traps 1 (some .int) 8 0 0 [.ref (M 0)] μ (okM M μ (spTraps s)) (fun _ _ => False) := by
  obtain ⟨q, clk, dm, ob, ru, rn, rs, nb, tr⟩ := s
  obtain ⟨A, hm, hI, hRu, hRs, hNb, hTr, h9⟩ := hR
  have hF := Fm_rf μ M
  have hqk := hO.2.1
  have hqi := k11_in hqk
  have hci := hO.2.2.1
  have g0 := hm.1.1
  obtain ⟨r, hr⟩ : ∃ r, r = spTraps (q, clk, dm, ob, ru, rn, rs, nb, tr) := ⟨_, rfl⟩
  rw [← hr]
  refine cM_of (fun x C => ?_)
  refine z_aload_n C dX6_traps_0 rfl ?_
  refine z_iconst C dX6_traps_1 ?_
  refine z_mp0 C hm hF qF_X6_71 dX6_traps_2 (fun μ hm hF => ?_)
  refine z_aload_n C dX6_traps_5 rfl ?_
  refine z_mg18 C hm qF_X6_107 dX6_traps_6 ?_
  refine z_iret C dX6_traps_9 ?_
  rw [hr]
  exact ⟨⟨_, rfl, fun _ => rfl⟩, ⟨A, hm, hI, hRu, hRs, hNb, hTr, h9⟩, hF⟩
theorem c_told (w : Wd) (tt : Int) (k : Nat) (f : Trp → Int) (hk : mA k = true) (h9k : k ≠ 9) (hl : mln k = 1024) (hf : ∀ A tr, mTr A tr → ∀ (i : Nat) (x : Trp), tr[i]? = some x → A k (i : Int) = f x) (hR : Rm μ M t s) (hO : okS N s) (h32 : in32 tt) : cM w yX6_told cX6_told 3 (some .int) 7 0 0 [.ref (M 0), .ref (M k), .int (J tt)] μ (okM M μ (spTold f tt s)) (fun _ _ => False) := by
  obtain ⟨q, clk, dm, ob, ru, rn, rs, nb, tr⟩ := s
  obtain ⟨A, hm, hI, hRu, hRs, hNb, hTr, h9⟩ := hR
  have hF := Fm_rf μ M
  have hqk := hO.2.1
  have hqi := k11_in hqk
  have hci := hO.2.2.1
  have g0 := hm.1.1
  obtain ⟨r, hr⟩ : ∃ r, r = spTold f tt (q, clk, dm, ob, ru, rn, rs, nb, tr) := ⟨_, rfl⟩
  rw [← hr]
  refine cM_of (fun x C => ?_)
  have hT1 := hO.2.2.2.2.1
  have hN := hO.1
  refine z_aload_n C dX6_told_0 rfl ?_
  refine z_iconst C dX6_told_1 ?_
  refine z_mp0 C hm hF qF_X6_71 dX6_told_2 (fun μ hm hF => ?_)
  refine z_iload_n C dX6_told_5 rfl ?_
  refine z_iconst C dX6_told_6 ?_
  refine z_aload_n C dX6_told_7 rfl ?_
  refine z_mg18 C hm qF_X6_107 dX6_told_8 ?_
  refine z_iconst C dX6_told_11 ?_
  refine z_isub C dX6_told_12 ?_
  refine z_callS C (c_in w _ tt 0 ((tr.length : Int) - 1) h32 ⟨by decide, by decide⟩ ⟨by omega, by omega⟩) qM_X6_75 dX6_told_13 rfl (fun _ _ h => h.elim) ?_
  rintro v μ ⟨rfl, rfl⟩
  by_cases hn : 0 ≤ tt ∧ tt ≤ (tr.length : Int) - 1
  · rw [decide_eq_true hn, show zB true = 1 from rfl]
    refine z_if_eq (tgt := 25) C dX6_told_16 (by decide) (by omega) (fun g => ?_) (fun g => ?_)
    · exact absurd g (by decide)
    · obtain ⟨x0, hx⟩ : ∃ x, tr[tt.toNat]? = some x := ⟨_, List.getElem?_eq_getElem (by omega)⟩
      have e := hf A tr hTr tt.toNat x0 hx
      rw [show ((tt.toNat : Nat) : Int) = tt by omega] at e
      refine z_aload_n C dX6_told_19 rfl ?_
      refine z_iload_n C dX6_told_20 rfl ?_
      refine z_mld C hm dX6_told_21 (by rw [hl]; omega) ?_ hk h9k
      rw [e]
      refine z_goto (tgt := 30) C dX6_told_22 (by decide) ?_
      refine z_iret C dX6_told_30 ?_
      rw [hr, spTold, if_pos (by omega), hx]
      exact ⟨⟨_, rfl, fun _ => rfl⟩, ⟨A, hm, hI, hRu, hRs, hNb, hTr, h9⟩, hF⟩
  · rw [decide_eq_false hn, show zB false = 0 from rfl]
    refine z_if_eq (tgt := 25) C dX6_told_16 (by decide) (by omega) (fun g => ?_) (fun g => ?_)
    · refine z_aload_n C dX6_told_25 rfl ?_
      refine z_iconst C dX6_told_26 ?_
      refine z_callV C (c_fails w μ 1 hm) qM_X6_93 dX6_told_27 rfl (zRc_o hm.1.1) (fun _ _ h => h.elim) ?_
      rintro v μ ⟨rfl, hm, hF2⟩
      refine z_iret C dX6_told_30 ?_
      rw [hr, spTold, if_neg (by omega)]
      exact ⟨⟨_, rfl, fun h => by cases h⟩, ⟨A, hm, hI, hRu, hRs, hNb, hTr, h9⟩, Fm_tr hF hF2⟩
    · exact absurd rfl g
theorem m_trapOf (w : Wd) (tt : Int) (hR : Rm μ M t s) (hO : okS N s) (h32 : in32 tt) : cM w yX6_trapOf cX6_trapOf 2 (some .int) 8 0 0 [.ref (M 0), .int (J tt)] μ (okM M μ (spTold (fun x => x.1) tt s)) (fun _ _ => False) := by
  have hR0 := hR
  obtain ⟨q, clk, dm, ob, ru, rn, rs, nb, tr⟩ := s
  obtain ⟨A, hm, hI, hRu, hRs, hNb, hTr, h9⟩ := hR
  refine cM_of (fun x C => ?_)
  refine z_aload_n C dX6_trapOf_0 rfl ?_
  refine z_aload_n C dX6_trapOf_1 rfl ?_
  refine z_mgf C hm qF_X6_56 dX6_trapOf_2 ?_
  refine z_iload_n C dX6_trapOf_5 rfl ?_
  refine z_callV C (c_told w tt 19 (fun x => x.1) rfl (by decide) rfl (fun A tr h i x hx => (h.1 i x hx).1) hR0 hO h32) qM_X6_134 dX6_trapOf_6 rfl (zRc_o hm.1.1) (fun _ _ h => h.elim) ?_
  rintro v μ' ⟨⟨z, rfl, hz⟩, h2⟩
  exact z_iret C dX6_trapOf_9 ⟨⟨z, rfl, hz⟩, h2⟩
theorem m_trapAt (w : Wd) (tt : Int) (hR : Rm μ M t s) (hO : okS N s) (h32 : in32 tt) : cM w yX6_trapAt cX6_trapAt 2 (some .int) 8 0 0 [.ref (M 0), .int (J tt)] μ (okM M μ (spTold (fun x => x.2.2.1) tt s)) (fun _ _ => False) := by
  have hR0 := hR
  obtain ⟨q, clk, dm, ob, ru, rn, rs, nb, tr⟩ := s
  obtain ⟨A, hm, hI, hRu, hRs, hNb, hTr, h9⟩ := hR
  refine cM_of (fun x C => ?_)
  refine z_aload_n C dX6_trapAt_0 rfl ?_
  refine z_aload_n C dX6_trapAt_1 rfl ?_
  refine z_mgf C hm qF_X6_62 dX6_trapAt_2 ?_
  refine z_iload_n C dX6_trapAt_5 rfl ?_
  refine z_callV C (c_told w tt 21 (fun x => x.2.2.1) rfl (by decide) rfl (fun A tr h i x hx => (h.1 i x hx).2.2.1) hR0 hO h32) qM_X6_134 dX6_trapAt_6 rfl (zRc_o hm.1.1) (fun _ _ h => h.elim) ?_
  rintro v μ' ⟨⟨z, rfl, hz⟩, h2⟩
  exact z_iret C dX6_trapAt_9 ⟨⟨z, rfl, hz⟩, h2⟩
theorem m_repeats (w : Wd) (tt : Int) (hR : Rm μ M t s) (hO : okS N s) (h32 : in32 tt) : cM w yX6_repeats cX6_repeats 2 (some .int) 8 0 0 [.ref (M 0), .int (J tt)] μ (okM M μ (spTold (fun x => x.2.2.2) tt s)) (fun _ _ => False) := by
  have hR0 := hR
  obtain ⟨q, clk, dm, ob, ru, rn, rs, nb, tr⟩ := s
  obtain ⟨A, hm, hI, hRu, hRs, hNb, hTr, h9⟩ := hR
  refine cM_of (fun x C => ?_)
  refine z_aload_n C dX6_repeats_0 rfl ?_
  refine z_aload_n C dX6_repeats_1 rfl ?_
  refine z_mgf C hm qF_X6_65 dX6_repeats_2 ?_
  refine z_iload_n C dX6_repeats_5 rfl ?_
  refine z_callV C (c_told w tt 22 (fun x => x.2.2.2) rfl (by decide) rfl (fun A tr h i x hx => (h.1 i x hx).2.2.2) hR0 hO h32) qM_X6_134 dX6_repeats_6 rfl (zRc_o hm.1.1) (fun _ _ h => h.elim) ?_
  rintro v μ' ⟨⟨z, rfl, hz⟩, h2⟩
  exact z_iret C dX6_repeats_9 ⟨⟨z, rfl, hz⟩, h2⟩
end MOF
