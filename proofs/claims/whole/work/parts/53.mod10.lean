/-! restart, setMarks, sample -/
section MOL
variable {N t : Int} {s : Sg} {M : Nat → Nat} {μ : Mem}
theorem m_restart (w : Wd) (a : Int) (hR : Rm μ M t s) (hO : okS N s) (hN1 : N + 1 ≤ 512) (h32 : in32 a) : cM w yX6_restart cX6_restart 3 (some .int) 8 0 0 [.ref (M 0), .int (J a)] μ (okM M μ (spRestart a s)) (fun _ _ => False) := by
  obtain ⟨q, clk, dm, ob, ru, rn, rs, nb, tr⟩ := s
  obtain ⟨A, hm, hI, hRu, hRs, hNb, hTr, h9⟩ := hR
  have hF := Fm_rf μ M
  have hqk := hO.2.1
  have hqi := k11_in hqk
  have hci := hO.2.2.1
  have g0 := hm.1.1
  obtain ⟨r, hr⟩ : ∃ r, r = spRestart a (q, clk, dm, ob, ru, rn, rs, nb, tr) := ⟨_, rfl⟩
  rw [← hr]
  refine cM_of (fun x C => ?_)
  obtain ⟨P0, hP0⟩ : ∃ P0, P0 = okM M μ r := ⟨_, rfl⟩
  obtain ⟨μs, hμs⟩ : ∃ μs, μs = μ := ⟨_, rfl⟩
  rw [← hP0]
  rw [← hμs] at hP0
  rw [← hμs] at hF
  refine z_aload_n C dX6_restart_0 rfl ?_
  refine z_iload_n C dX6_restart_1 rfl ?_
  refine z_callV C (c_isAgent w μ a h32 hm) qM_X6_99 dX6_restart_2 rfl (zRc_o g0) (fun _ _ h => h.elim) ?_
  rintro v μ1 ⟨rfl, hm, hF1⟩
  rw [← hμs] at hF1
  have hF := hF1
  have g0 := hm.1.1
  by_cases ha : 0 ≤ a ∧ a ≤ 3
  · rw [if_pos ha] at hm
    rw [decide_eq_true ha, show zB true = 1 from rfl]
    obtain ⟨j, rfl⟩ : ∃ j : Nat, a = (j : Int) := ⟨a.toNat, by omega⟩
    have hj : j < 4 := by omega
    obtain ⟨l, hl, hp, ho⟩ := hI j hj
    have hJ := hO.2.2.2.1 j hj
    have hrs := hJ.2.2.2.2.2.1
    have hlnd : l.Nodup := hp.nodup_iff.mpr hJ.1
    have hl20' := hl.2.1
    have fin : r = (0, rs j + 1, q, clk, dm, u1 ob j (fun k => rstO (ob j k)), ru, rn, u1 rs j (rs j + 1), nb, tr) := by rw [hr, spRestart, if_neg (by omega)]; rfl
    refine z_if_ne (tgt := 10) C dX6_restart_5 (by decide) (by omega) (fun g => ?_) (fun g => ?_)
    · refine z_aload_n C dX6_restart_10 rfl ?_
      refine z_mgf C hm qF_X6_44 dX6_restart_11 ?_
      refine z_iload_n C dX6_restart_14 rfl ?_
      refine z_dup2 C dX6_restart_15 ?_
      refine z_mld C hm dX6_restart_16 (by simp only [mln]; omega) ?_
      rw [hRs j hj]
      refine z_iconst C dX6_restart_17 ?_
      refine z_iadd C dX6_restart_18 ?_
      refine z_mst C hm hF dX6_restart_19 (by simp only [mln]; omega) (fun μ hm hF => ?_)
      refine z_bipush C dX6_restart_20 ?_
      refine z_iload_n C dX6_restart_22 rfl ?_
      refine z_imul C dX6_restart_23 ?_
      refine z_istore_n C dX6_restart_24 ?_
      obtain ⟨A0, hA0⟩ : ∃ A0, A0 = u2 A 14 (j : Int) (rs j + 1) := ⟨_, rfl⟩
      rw [← hA0] at hm
      have hA0k : ∀ k, k ≠ 14 → A0 k = A k := fun k hk => by rw [hA0]; exact u2_k hk
      have loop : ∀ (m i : Nat) (μ : Mem) (B : Nat → Int → Int), i + m = l.length → mS μ M 0 clk (k11 q) (tr.length : Int) B → Fm μs μ M → (∀ k, k ≠ 6 → k ≠ 9 → k < 19 ∨ 22 < k → B k = A0 k) → mTr B tr → (∀ c, B 9 c = 0 ∨ B 9 c = 1) → (∀ (x : Nat) (k : Int), l[x]? = some k → mO B (20 * (j : Int) + (x : Int)) (if x < i then rstO (ob j k) else ob j k)) → (∀ z, (∀ x : Nat, x < l.length → z ≠ 20 * (j : Int) + (x : Int)) → B 6 z = A 6 z ∧ B 9 z = A 9 z) → Z w x (zQ w x P0 (fun _ _ => False) 0 0) 3 25 [(0, .ref (M 0)), (1, .int (J (j : Int))), (2, .int (J (20 * (j : Int) + (i : Int))))] [] μ 0 0 := by
        intro m
        induction m with
        | zero =>
          intro i μ B hi hm hF hB hTB hB9 hBo hBz
          refine z_iload_n C dX6_restart_25 rfl ?_
          refine z_bipush C dX6_restart_26 ?_
          refine z_iload_n C dX6_restart_28 rfl ?_
          refine z_imul C dX6_restart_29 ?_
          refine z_aload_n C dX6_restart_30 rfl ?_
          refine z_mgf C hm qF_X6_7 dX6_restart_31 ?_
          refine z_iload_n C dX6_restart_34 rfl ?_
          refine z_mld C hm dX6_restart_35 (by simp only [mln]; omega) ?_
          rw [show B 3 (j : Int) = (l.length : Int) by rw [hB 3 (by decide) (by decide) (by decide), hA0k 3 (by decide)]; exact hl.1]
          refine z_iadd C dX6_restart_36 ?_
          refine z_icmp_ge (tgt := 63) C dX6_restart_37 (by decide) (by omega) (fun g2 => ?_) (fun g2 => ?_)
          · refine z_aload_n C dX6_restart_63 rfl ?_
            refine z_mgf C hm qF_X6_44 dX6_restart_64 ?_
            refine z_iload_n C dX6_restart_67 rfl ?_
            refine z_mld C hm dX6_restart_68 (by simp only [mln]; omega) ?_
            rw [show B 14 (j : Int) = rs j + 1 by rw [hB 14 (by decide) (by decide) (by decide), hA0]; exact u2_s _ _ _ _]
            refine z_iret C dX6_restart_69 ?_
            rw [hP0, fin]
            refine ⟨⟨_, rfl, fun _ => rfl⟩, ⟨B, hm, fun i' hi' => ?_, fun i' hi' => mR_cg (hRu i' hi') (by rw [hB 15 (by decide) (by decide) (by decide), hA0k 15 (by decide)]) (by rw [hB 16 (by decide) (by decide) (by decide), hA0k 16 (by decide)]) (by rw [hB 17 (by decide) (by decide) (by decide), hA0k 17 (by decide)]), fun i' hi' => ?_, fun i' hi' p' a b => by rw [hB 23 (by decide) (by decide) (by decide), hA0k 23 (by decide)]; exact hNb i' hi' p' a b, ?_, hB9⟩, hF⟩
            · by_cases hij : i' = j
              · subst hij
                refine ⟨l, ⟨by rw [hB 3 (by decide) (by decide) (by decide), hA0k 3 (by decide)]; exact hl.1, hl.2.1, fun x k hk => by rw [hB 4 (by decide) (by decide) (by decide), hA0k 4 (by decide)]; exact hl.2.2 x k hk⟩, hp, fun x k hk => ?_⟩
                have := hBo x k hk
                rw [if_pos (by have := (List.getElem?_eq_some_iff.mp hk).1; omega)] at this
                rw [u1_s]
                exact this
              · obtain ⟨l', hl', hp', ho'⟩ := hI i' hi'
                rw [u1_n _ _ hij]
                refine ⟨l', ⟨by rw [hB 3 (by decide) (by decide) (by decide), hA0k 3 (by decide)]; exact hl'.1, hl'.2.1, fun x k hk => by rw [hB 4 (by decide) (by decide) (by decide), hA0k 4 (by decide)]; exact hl'.2.2 x k hk⟩, hp', fun x k hk => mO_cg (ho' x k hk) (fun k' a b => ?_) (fun k' a b => by rw [hB k' (by omega) (by omega) (by omega), hA0k k' (by omega)]; exact ⟨rfl, rfl⟩)⟩
                have hz := hBz (20 * (i' : Int) + (x : Int)) (fun y hy => by
                  have := (List.getElem?_eq_some_iff.mp hk).1
                  have := hl'.2.1
                  have := hl.2.1
                  omega)
                by_cases k6 : k' = 6
                · rw [k6]; exact hz.1
                · by_cases k9 : k' = 9
                  · rw [k9]; exact hz.2
                  · rw [hB k' k6 k9 (by omega), hA0k k' (by omega)]
            · rw [hB 14 (by decide) (by decide) (by decide), hA0]
              by_cases hij : i' = j
              · subst hij
                rw [u1_s]
                exact u2_s _ _ _ _
              · rw [u1_n _ _ hij, u2_i _ _ _ _ (by omega)]
                exact hRs i' hi'
            · exact hTB
          · omega
        | succ m ih =>
          intro i μ B hi hm hF hB hTB hB9 hBo hBz
          obtain ⟨k, hk⟩ : ∃ k, l[i]? = some k := ⟨_, List.getElem?_eq_getElem (by omega)⟩
          have hl20 := hl.2.1
          have hoi := hBo i k hk
          rw [if_neg (by omega)] at hoi
          have hok := (hJ.2.2.1 k (hp.mem_iff.mp (List.mem_of_getElem? hk))).2
          have hkd := hok.1
          refine z_iload_n C dX6_restart_25 rfl ?_
          refine z_bipush C dX6_restart_26 ?_
          refine z_iload_n C dX6_restart_28 rfl ?_
          refine z_imul C dX6_restart_29 ?_
          refine z_aload_n C dX6_restart_30 rfl ?_
          refine z_mgf C hm qF_X6_7 dX6_restart_31 ?_
          refine z_iload_n C dX6_restart_34 rfl ?_
          refine z_mld C hm dX6_restart_35 (by simp only [mln]; omega) ?_
          rw [show B 3 (j : Int) = (l.length : Int) by rw [hB 3 (by decide) (by decide) (by decide), hA0k 3 (by decide)]; exact hl.1]
          refine z_iadd C dX6_restart_36 ?_
          refine z_icmp_ge (tgt := 63) C dX6_restart_37 (by decide) (by omega) (fun g2 => ?_) (fun g2 => ?_)
          · omega
          · refine z_aload_n C dX6_restart_40 rfl ?_
            refine z_mgf C hm qF_X6_16 dX6_restart_41 ?_
            refine z_iload_n C dX6_restart_44 rfl ?_
            refine z_mld C hm dX6_restart_45 (by simp only [mln]; omega) ?_
            rw [hoi.1]
            refine z_iconst C dX6_restart_46 ?_
            refine z_icmp_ne (tgt := 57) C dX6_restart_47 (by decide) (by omega) (fun g3 => ?_) (fun g3 => ?_)
            · refine z_iinc C dX6_restart_57 rfl ?_
              refine z_goto (tgt := 25) C dX6_restart_60 (by decide) ?_
              have K := ih (i + 1) _ B (by omega) hm hF hB hTB hB9 (fun x k' hk' => by
                have h8 := hBo x k' hk'
                by_cases hx : x = i
                · subst hx
                  rw [hk] at hk'
                  cases hk'
                  rw [if_neg (by omega)] at h8
                  rw [if_pos (by omega)]
                  unfold rstO
                  rw [if_neg g3]
                  exact h8
                · by_cases hlt : x < i
                  · rw [if_pos hlt] at h8
                    rw [if_pos (by omega)]
                    exact h8
                  · rw [if_neg hlt] at h8
                    rw [if_neg (by omega)]
                    exact h8) hBz
              rw [show 20 * (j : Int) + ((i + 1 : Nat) : Int) = 20 * (j : Int) + (i : Int) + 1 by omega] at K
              exact z_ls _ (by exact ⟨rfl, rfl, rfl, trivial⟩) K
            · refine z_aload_n C dX6_restart_50 rfl ?_
              refine z_iload_n C dX6_restart_51 rfl ?_
              refine z_iload_n C dX6_restart_52 rfl ?_
              refine z_iconst C dX6_restart_53 ?_
              have hfr := frs_ok hok
              refine z_callV C (c_has w j (20 * (j : Int) + (i : Int)) 0 k (ob j k) hj ⟨by omega, by omega⟩ (by decide) (hl.2.2 i k hk).1 (by rw [hB 4 (by decide) (by decide) (by decide), hA0k 4 (by decide)]; exact (hl.2.2 i k hk).2) hoi hok hB9 hTB hO.2.2.2.2 hN1 hci hm) qM_X6_119 dX6_restart_54 rfl (zRc_o hm.1.1) (fun _ _ h => h.elim) ?_
              rintro _ μ5 ⟨rfl, hF5, A5, hm5, hT5, ho5, h95, hx5, hk5⟩
              rw [hfr, if_neg (by decide)] at hm5 hT5
              have K := ih (i + 1) μ5 A5 (by omega) hm5 (Fm_tr hF hF5) (fun k' a b c' => (hk5 k' a b c').trans (hB k' a b c')) hT5 h95 (fun x k' hk' => by
                have h8 := hBo x k' hk'
                by_cases hx : x = i
                · subst hx
                  rw [hk] at hk'
                  cases hk'
                  rw [if_pos (by omega)]
                  unfold rstO
                  rw [if_pos g3]
                  exact ho5
                · have hcg : mO A5 (20 * (j : Int) + (x : Int)) (if x < i then rstO (ob j k') else ob j k') := mO_cg h8 (fun k2 a b => by
                    by_cases k6 : k2 = 6
                    · rw [k6]; exact (hx5 _ (by omega)).1
                    · by_cases k9 : k2 = 9
                      · rw [k9]; exact (hx5 _ (by omega)).2
                      · rw [hk5 k2 k6 k9 (by omega)]) (fun k2 a b => by rw [hk5 k2 (by omega) (by omega) (by omega)]; exact ⟨rfl, rfl⟩)
                  by_cases hlt : x < i
                  · rw [if_pos hlt] at hcg
                    rw [if_pos (by omega)]
                    exact hcg
                  · rw [if_neg hlt] at hcg
                    rw [if_neg (by omega)]
                    exact hcg) (fun z hz => by
                  have h1 := hx5 z (hz i (by omega))
                  have h2 := hBz z hz
                  exact ⟨h1.1.trans h2.1, h1.2.trans h2.2⟩)
              rw [show 20 * (j : Int) + ((i + 1 : Nat) : Int) = 20 * (j : Int) + (i : Int) + 1 by omega] at K
              refine z_iinc C dX6_restart_57 rfl ?_
              refine z_goto (tgt := 25) C dX6_restart_60 (by decide) ?_
              exact z_ls _ (by exact ⟨rfl, rfl, rfl, trivial⟩) K
      have K := loop l.length 0 _ A0 (by omega) hm hF (fun _ _ _ _ => rfl) (by
        refine ⟨fun x y hxy => ?_, fun x hx => ?_⟩
        · rw [hA0k 19 (by decide), hA0k 20 (by decide), hA0k 21 (by decide), hA0k 22 (by decide)]
          exact hTr.1 x y hxy
        · rw [hA0k 22 (by decide)]
          exact hTr.2 x hx) (fun c' => by rw [hA0k 9 (by decide)]; exact h9 c') (fun x k' hk' => by
        rw [if_neg (by omega)]
        exact mO_cg (ho x k' hk') (fun k2 a b => by rw [hA0k k2 (by omega)]) (fun k2 a b => by rw [hA0k k2 (by omega)]; exact ⟨rfl, rfl⟩)) (fun z _ => by rw [hA0k 6 (by decide), hA0k 9 (by decide)]; exact ⟨rfl, rfl⟩)
      rw [show 20 * (j : Int) + ((0 : Nat) : Int) = 20 * (j : Int) by omega] at K
      exact z_ls _ (by exact ⟨rfl, rfl, rfl, trivial⟩) K
    · exact absurd g (by decide)
  · rw [if_neg ha] at hm
    rw [decide_eq_false ha, show zB false = 0 from rfl]
    refine z_if_ne (tgt := 10) C dX6_restart_5 (by decide) (by omega) (fun g => ?_) (fun g => ?_)
    · exact absurd rfl g
    · refine z_iconst C dX6_restart_8 ?_
      refine z_iret C dX6_restart_9 ?_
      rw [hP0, hr, spRestart, if_pos ha]
      exact ⟨⟨_, rfl, fun h => by cases h⟩, ⟨A, hm, hI, hRu, hRs, hNb, hTr, h9⟩, hF⟩
end MOL
