/-! THE LAW'S SMALL HELPERS -/
abbrev Sr : Type := Int × (Nat → List Int) × (Nat → Int → Ob) × (Nat → Int → Int) × (Nat → Int) × (Nat → Int) × (Nat → Int → Int) × List Trp
theorem okS_p {N q q2 : Int} {R : Sr} (h : okS N (q, R)) (h2 : okK q2) : okS N (q2, R) := by
  obtain ⟨clk, r⟩ := R
  exact okS_q h h2
theorem okS_k {N q : Int} {R : Sr} (h : okS N (q, R)) : okK q := by
  obtain ⟨clk, dm, ob, ru, rn, rs, nb, tr⟩ := R
  exact h.2.1
theorem c_low (w : Wd) (μ : Mem) (a n : Int) (hn : 0 < n ∧ n ≤ 1000) : cM w yL_low cL_low 2 (some .int) 1 0 0 [.int (J a), .int (J n)] μ (fun v μ' => (∃ z, v = some (.int (J z)) ∧ 0 ≤ z ∧ z < n) ∧ μ' = μ) (fun _ _ => False) := by
  refine cM_of (fun x C => ?_)
  refine z_iload_n C dL_low_0 rfl ?_
  refine z_ldc C dL_low_1 qK_L_7 ?_
  refine z_iand C (a % ((2 ^ 31 : Nat) : Int)) (J_andM _ 31 (by decide) (by decide)) dL_low_3 ?_
  obtain ⟨m, hm⟩ : ∃ m : Int, m = a % ((2 ^ 31 : Nat) : Int) := ⟨_, rfl⟩
  have h0 : 0 ≤ m ∧ m < 2147483648 := by
    rw [hm]
    exact ⟨Int.emod_nonneg _ (by decide), Int.emod_lt_of_pos _ (by decide)⟩
  rw [← hm]
  refine z_iload_n C dL_low_4 rfl ?_
  refine z_irem C dL_low_5 ⟨by omega, by omega, by omega, by omega⟩ ?_
  exact z_iret C dL_low_6 ⟨⟨m % n, rfl, Int.emod_nonneg _ (by omega), Int.emod_lt_of_pos _ (by omega)⟩, rfl⟩
theorem c_cell (w : Wd) (μ : Mem) (b L : Nat) (xs : Nat → Int32) (i : Int) (hi : 0 ≤ i ∧ i ≤ 1000) : cX w b L xs yL_cell cL_cell 2 (some .int) 1 0 0 [.ref b, .int (J i)] μ (fun v μ' => (∃ z, v = some (.int (J z)) ∧ in32 z) ∧ μ' = μ) := by
  refine cX_of (fun x C S => ?_)
  have hL8 : L ≤ 260 := by
    obtain ⟨p, e, R, s, m, args, below, meth, c⟩ := x
    exact S.2.2.2
  refine z_iload_n C dL_cell_0 rfl ?_
  refine z_aload_n C dL_cell_1 rfl ?_
  refine z_slen C S dL_cell_2 ?_
  refine z_icmp_ge (tgt := 12) C dL_cell_3 (by decide) (by omega) (fun h => ?_) (fun h => ?_)
  · refine z_sipush C dL_cell_12 ?_
    refine z_iload_n C dL_cell_15 rfl ?_
    refine z_iconst C dL_cell_16 ?_
    refine z_iadd C dL_cell_17 ?_
    refine z_imul C dL_cell_18 ?_
    refine z_iload_n C dL_cell_19 rfl ?_
    refine z_bipush C dL_cell_20 ?_
    refine z_iadd C dL_cell_22 ?_
    refine z_imul C dL_cell_23 ?_
    obtain ⟨z, hz, hz2⟩ := J_nm (7919 * (i + 3) * (i + 11))
    exact z_iret C dL_cell_24 ⟨⟨z, by rw [hz], hz2⟩, rfl⟩
  · refine z_aload_n C dL_cell_6 rfl ?_
    refine z_iload_n C dL_cell_7 rfl ?_
    refine z_sld C S dL_cell_8 ⟨hi.1, by omega⟩ ?_
    refine z_goto (tgt := 24) C dL_cell_9 (by decide) ?_
    exact z_iret C dL_cell_24 ⟨⟨sv xs i, rfl, sv_in _ _⟩, rfl⟩
theorem c_writes (w : Wd) (μ : Mem) (G : Nat → Nat) (N : Int) (q : Int) (R : Sr) (v : Int) (hR : Rc μ G (q, R)) (hO : okS N (q, R)) : cM w yL_writes cL_writes 4 none 11 10 100 [.ref (G 0), .int (J v)] μ (fun r μ' => r = none ∧ (∃ q', okK q' ∧ Rc μ' G (q', R)) ∧ Fc μ μ' G) (fun _ _ => False) := by
  refine cM_of (fun x C => ?_)
  refine z_aload_n C dL_writes_0 rfl ?_
  refine z_hV C (c_wipe w μ G N (q, R) hR hO) qM_L_8 dL_writes_1 rfl (zRc_o (Rc_g0 hR)) (fun r1 μ1 h => ?_)
  obtain ⟨-, rfl, hR1, hF1⟩ := h
  have hR1 : Rc μ1 G (0, R) := hR1
  refine z_pop C dL_writes_4 ?_
  refine z_iload_n C dL_writes_5 rfl ?_
  refine z_iconst C dL_writes_6 ?_
  refine z_hS C (c_low w μ1 v 5 (by decide)) qM_L_14 dL_writes_7 rfl (fun r2 μ2 h => ?_)
  obtain ⟨⟨m, rfl, hm⟩, rfl⟩ := h
  refine z_istore_n C dL_writes_10 ?_
  refine z_iconst C dL_writes_11 ?_
  refine z_istore_n C dL_writes_12 ?_
  have loop : ∀ (f i : Nat) (μ' : Mem) (q' : Int), i + f = 4 → (i : Int) ≤ m → Rc μ' G (q', R) → okK q' → ln16 q' = (i : Int) → Fc μ μ' G → Z w x (zQ w x (fun r μ' => r = none ∧ (∃ q', okK q' ∧ Rc μ' G (q', R)) ∧ Fc μ μ' G) (fun _ _ => False) 10 100) 4 13 [(0, .ref (G 0)), (1, .int (J v)), (2, .int (J m)), (3, .int (J (i : Int)))] [] μ' (2 * i) (20 * i) := by
    intro f
    induction f with
    | zero =>
      intro i μ' q' hi him hR' hk' hl' hF'
      refine z_iload_n C dL_writes_13 rfl ?_
      refine z_iload_n C dL_writes_14 rfl ?_
      refine z_icmp_ge (tgt := 40) C dL_writes_15 (by decide) (by omega) (fun h => ?_) (fun h => ?_)
      · exact z_vret C dL_writes_40 ⟨rfl, ⟨q', hk', hR'⟩, hF'⟩
      · omega
    | succ f ih =>
      intro i μ' q' hi him hR' hk' hl' hF'
      refine z_iload_n C dL_writes_13 rfl ?_
      refine z_iload_n C dL_writes_14 rfl ?_
      refine z_icmp_ge (tgt := 40) C dL_writes_15 (by decide) (by omega) (fun h => ?_) (fun h => ?_)
      · exact z_vret C dL_writes_40 ⟨rfl, ⟨q', hk', hR'⟩, hF'⟩
      · refine z_aload_n C dL_writes_18 rfl ?_
        refine z_iload_n C dL_writes_19 rfl ?_
        refine z_iconst C dL_writes_20 ?_
        refine z_iconst C dL_writes_21 ?_
        refine z_iload_n C dL_writes_22 rfl ?_
        refine z_imul C dL_writes_23 ?_
        refine z_iadd C dL_writes_24 ?_
        obtain ⟨z1, e1, -⟩ := J_shrA (J v) (J (3 + 4 * (i : Int)))
        refine z_ishr C z1 e1 dL_writes_25 ?_
        refine z_iconst C dL_writes_26 ?_
        refine z_hS C (c_low w μ' z1 3 (by decide)) qM_L_14 dL_writes_27 rfl (fun r3 μ3 h => ?_)
        obtain ⟨⟨n, rfl, hn⟩, rfl⟩ := h
        obtain ⟨w1, w2⟩ := wr_in hk' (n := n) (by omega) (by omega)
        have e : spWrite n (q', R) = (0, ln16 q' + 1, q' + (n + 1) * pw16 (ln16 q'), R) := by rw [spWrite, if_neg (by omega), if_neg (by show ¬ ln16 q' = 4; omega)]
        have K := cM_ok (c_write w μ3 G N (q', R) n hR' (okS_p hO hk') ⟨by omega, by omega⟩) (by rw [e])
        rw [e] at K
        refine z_hV C K qM_L_20 dL_writes_30 rfl (zRc_o (Rc_g0 hR')) (fun r4 μ4 h => ?_)
        obtain ⟨-, rfl, hR4, hF4⟩ := h
        refine z_pop C dL_writes_33 ?_
        refine z_iinc C dL_writes_34 rfl ?_
        refine z_goto (tgt := 13) C dL_writes_37 (by decide) ?_
        have K2 := ih (i + 1) μ4 _ (by omega) (by omega) hR4 w1 (by rw [w2, hl']; omega) (Fc_tr hF' hF4)
        rw [show ((i + 1 : Nat) : Int) = (i : Int) + 1 from by omega] at K2
        exact z_ls _ (by exact ⟨rfl, rfl, rfl, rfl, trivial⟩) (z_widen (by omega) (by omega) K2)
  exact z_ls _ (by exact ⟨rfl, rfl, rfl, rfl, trivial⟩) (z_widen (by omega) (by omega) (loop 4 0 μ2 0 rfl (by omega) hR1 okK_0 ln16_0 hF1))
theorem c_order (w : Wd) (μ : Mem) (G : Nat → Nat) (N : Int) (q : Int) (R : Sr) (hR : Rc μ G (q, R)) (hO : okS N (q, R)) : cM w yL_order cL_order 3 (some .int) 10 8 80 [.ref (G 0)] μ (fun v μ' => v = some (.int (J (od q))) ∧ Rc μ' G (q, R) ∧ Fc μ μ' G) (fun _ _ => False) := by
  refine cM_of (fun x C => ?_)
  refine z_iconst C dL_order_0 ?_
  refine z_istore_n C dL_order_1 ?_
  refine z_iconst C dL_order_2 ?_
  refine z_istore_n C dL_order_3 ?_
  have step : ∀ (i a : Int) (μ' : Mem) (k n : Nat), 0 ≤ i ∧ i ≤ 3 → Rc μ' G (q, R) → k + 2 ≤ 8 → n + 20 ≤ 80 → (∀ μ2 : Mem, Rc μ2 G (q, R) → Fc μ' μ2 G → Z w x (zQ w x (fun v μ' => v = some (.int (J (od q))) ∧ Rc μ' G (q, R) ∧ Fc μ μ' G) (fun _ _ => False) 8 80) 3 4 [(0, .ref (G 0)), (1, .int (J (11 * a + hA q i))), (2, .int (J (i + 1)))] [] μ2 (k + 2) (n + 20)) → Z w x (zQ w x (fun v μ' => v = some (.int (J (od q))) ∧ Rc μ' G (q, R) ∧ Fc μ μ' G) (fun _ _ => False) 8 80) 3 4 [(0, .ref (G 0)), (1, .int (J a)), (2, .int (J i))] [] μ' k n := by
    intro i a μ' k n hi hR' hk hn next
    refine z_iload_n C dL_order_4 rfl ?_
    refine z_iconst C dL_order_5 ?_
    refine z_icmp_ge (tgt := 28) C dL_order_6 (by decide) (by omega) (fun h => ?_) (fun h => ?_)
    · omega
    · refine z_bipush C dL_order_9 ?_
      refine z_iload_n C dL_order_11 rfl ?_
      refine z_imul C dL_order_12 ?_
      refine z_aload_n C dL_order_13 rfl ?_
      refine z_iload_n C dL_order_14 rfl ?_
      have e : spNum i (q, R) = (0, hA q i - 1, (q, R)) := by rw [spNum, if_pos (by omega)]
      have K := cM_ok (c_numberAt w μ' G N (q, R) i hR' hO ⟨by omega, by omega⟩) (by rw [e])
      rw [e] at K
      refine z_hV C K qM_L_24 dL_order_15 rfl (zRc_o (Rc_g0 hR')) (fun r4 μ4 h => ?_)
      obtain ⟨-, rfl, hR4, hF4⟩ := h
      refine z_iadd C dL_order_18 ?_
      refine z_iconst C dL_order_19 ?_
      refine z_iadd C dL_order_20 ?_
      rw [show 11 * a + (hA q i - 1) + 1 = 11 * a + hA q i by omega]
      refine z_istore_n C dL_order_21 ?_
      refine z_iinc C dL_order_22 rfl ?_
      refine z_goto (tgt := 4) C dL_order_25 (by decide) ?_
      exact z_ls _ (by exact ⟨rfl, rfl, rfl, trivial⟩) (next μ4 hR4 hF4)
  refine z_ls [(0, .ref (G 0)), (1, .int (J 0)), (2, .int (J 0))] ⟨rfl, rfl, rfl, trivial⟩ ?_
  refine step 0 0 μ 0 0 (by decide) hR (by decide) (by decide) (fun μ1 hR1 hF1 => ?_)
  refine step 1 _ μ1 2 20 (by decide) hR1 (by decide) (by decide) (fun μ2 hR2 hF2 => ?_)
  refine step 2 _ μ2 4 40 (by decide) hR2 (by decide) (by decide) (fun μ3 hR3 hF3 => ?_)
  refine step 3 _ μ3 6 60 (by decide) hR3 (by decide) (by decide) (fun μ4 hR4 hF4 => ?_)
  refine z_iload_n C dL_order_4 rfl ?_
  refine z_iconst C dL_order_5 ?_
  refine z_icmp_ge (tgt := 28) C dL_order_6 (by decide) (by omega) (fun h => ?_) (fun h => ?_)
  · refine z_iload_n C dL_order_28 rfl ?_
    refine z_iret C dL_order_29 ⟨?_, hR4, Fc_tr (Fc_tr (Fc_tr hF1 hF2) hF3) hF4⟩
    rw [show 11 * (11 * (11 * (11 * 0 + hA q 0) + hA q 1) + hA q 2) + hA q 3 = od q by unfold od; omega]
  · omega
