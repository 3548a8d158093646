/-! bulk, rate, neighbours -/
section MOH
variable {N t : Int} {s : Sg} {M : Nat → Nat} {μ : Mem}
theorem c_names6 (w : Wd) {tt c p n : Int} {A : Nat → Int → Int} (i j : Nat) (nb : Nat → Int → Int) (hi : i < 4) (hj : j < 4) (hN : mN A i (nb i)) (hnb : ∀ k, -1 ≤ nb i k ∧ nb i k ≤ 3) (hm : mS μ M tt c p n A) : cM w yX6_names cX6_names 5 (some .boolean) 1 0 0 [.ref (M 0), .int (J (i : Int)), .int (J (j : Int))] μ (fun r μ' => r = some (.int (J (zB (nmS nb i j)))) ∧ μ' = μ) (fun _ _ => False) := by
  refine cM_of (fun x C => ?_)
  have loop : ∀ (m k : Nat) (b : Bool), k + m = 4 → nmS nb i j = (b || nbF (nb i) (j : Int) m (k : Int)) → Z w x (zQ w x (fun r μ' => r = some (.int (J (zB (nmS nb i j)))) ∧ μ' = μ) (fun _ _ => False) 0 0) 5 5 [(0, .ref (M 0)), (1, .int (J (i : Int))), (2, .int (J (j : Int))), (3, .int (J (zB b))), (4, .int (J (k : Int)))] [] μ 0 0 := by
    intro m
    induction m with
    | zero =>
      intro k b hk he
      refine z_iload C dX6_names_5 rfl ?_
      refine z_iconst C dX6_names_7 ?_
      refine z_icmp_ge (tgt := 44) C dX6_names_8 (by decide) (by omega) (fun g => ?_) (fun g => ?_)
      · refine z_iload_n C dX6_names_44 rfl ?_
        refine z_zret C (v := zB b) dX6_names_45 (by cases b <;> simp [zB]) ⟨?_, rfl⟩
        rw [he]
        show _ = some (Value.int (J (zB (b || false))))
        rw [Bool.or_false]
      · omega
    | succ m ih =>
      intro k b hk he
      have hzb := zB_in b
      have go : ∀ b2 : Bool, nmS nb i j = (b2 || nbF (nb i) (j : Int) m ((k + 1 : Nat) : Int)) → ∀ ls, zsub ls [(0, .ref (M 0)), (1, .int (J (i : Int))), (2, .int (J (j : Int))), (4, .int (J (k : Int)))] → Z w x (zQ w x (fun r μ' => r = some (.int (J (zB (nmS nb i j)))) ∧ μ' = μ) (fun _ _ => False) 0 0) 5 37 ls [.int (J (zB b2))] μ 0 0 := by
        intro b2 hb ls hls
        refine z_ls _ hls ?_
        refine z_istore_n C dX6_names_37 ?_
        refine z_iinc C dX6_names_38 rfl ?_
        refine z_goto (tgt := 5) C dX6_names_41 (by decide) ?_
        exact z_ls _ (by exact ⟨rfl, rfl, rfl, rfl, rfl, trivial⟩) (ih (k + 1) b2 (by omega) hb)
      rw [show nbF (nb i) (j : Int) (m + 1) (k : Int) = (decide (nb i (k : Int) = (j : Int)) || nbF (nb i) (j : Int) m ((k + 1 : Nat) : Int)) from rfl] at he
      refine z_iload C dX6_names_5 rfl ?_
      refine z_iconst C dX6_names_7 ?_
      refine z_icmp_ge (tgt := 44) C dX6_names_8 (by decide) (by omega) (fun g => ?_) (fun g => ?_)
      · omega
      · refine z_iload_n C dX6_names_11 rfl ?_
        refine z_if_ne (tgt := 32) C dX6_names_12 (by decide) (by omega) (fun g2 => ?_) (fun g2 => ?_)
        · have hb : b = true := by cases h : b with | true => rfl | false => exact absurd (by rw [h]; rfl) g2
          refine z_iconst C dX6_names_32 ?_
          refine z_goto (tgt := 37) C dX6_names_33 (by decide) ?_
          exact go true (by rw [he, hb]; rfl) _ (by exact ⟨rfl, rfl, rfl, rfl, trivial⟩)
        · have hb : b = false := zB_eq.mp g2
          have hnk := hnb (k : Int)
          refine z_aload_n C dX6_names_15 rfl ?_
          refine z_mgf C hm qF_X6_68 dX6_names_16 ?_
          refine z_iconst C dX6_names_19 ?_
          refine z_iload_n C dX6_names_20 rfl ?_
          refine z_imul C dX6_names_21 ?_
          refine z_iload C dX6_names_22 rfl ?_
          refine z_iadd C dX6_names_24 ?_
          refine z_mld C hm dX6_names_25 (by simp only [mln]; omega) ?_
          rw [hN (k : Int) (by omega) (by omega)]
          refine z_iload_n C dX6_names_26 rfl ?_
          refine z_iconst C dX6_names_27 ?_
          refine z_iadd C dX6_names_28 ?_
          refine z_icmp_ne (tgt := 36) C dX6_names_29 (by decide) (by omega) (fun g3 => ?_) (fun g3 => ?_)
          · refine z_iconst C dX6_names_36 ?_
            exact go false (by rw [he, hb, decide_eq_false (by omega)]; rfl) _ (by exact ⟨rfl, rfl, rfl, rfl, trivial⟩)
          · refine z_iconst C dX6_names_32 ?_
            refine z_goto (tgt := 37) C dX6_names_33 (by decide) ?_
            exact go true (by rw [he, hb, decide_eq_true (by omega)]; rfl) _ (by exact ⟨rfl, rfl, rfl, rfl, trivial⟩)
  refine z_iconst C dX6_names_0 ?_
  refine z_istore_n C dX6_names_1 ?_
  refine z_iconst C dX6_names_2 ?_
  refine z_istore C dX6_names_3 ?_
  exact z_ls _ (by exact ⟨rfl, rfl, rfl, rfl, rfl, trivial⟩) (loop 4 0 false rfl rfl)
theorem m_halves (w : Wd) (hR : Rm μ M t s) (hO : okS N s) : cM w yX6_halves cX6_halves 4 (some .int) 8 0 0 [.ref (M 0)] μ (okM M μ (spHalves s)) (fun _ _ => False) := by
  obtain ⟨q, clk, dm, ob, ru, rn, rs, nb, tr⟩ := s
  obtain ⟨A, hm, hI, hRu, hRs, hNb, hTr, h9⟩ := hR
  have hF := Fm_rf μ M
  have hqk := hO.2.1
  have hqi := k11_in hqk
  have hci := hO.2.2.1
  have g0 := hm.1.1
  obtain ⟨r, hr⟩ : ∃ r, r = spHalves (q, clk, dm, ob, ru, rn, rs, nb, tr) := ⟨_, rfl⟩
  rw [← hr]
  refine cM_of (fun x C => ?_)
  have hnb : ∀ i, i < 4 → ∀ k, -1 ≤ nb i k ∧ nb i k ≤ 3 := fun i hi => (hO.2.2.2.1 i hi).2.2.2.2.2.2.1
  obtain ⟨V, hV⟩ : ∃ V, V = hf (nmS nb) 0 1 + hf (nmS nb) 0 2 + hf (nmS nb) 0 3 + hf (nmS nb) 1 2 + hf (nmS nb) 1 3 + hf (nmS nb) 2 3 := ⟨_, rfl⟩
  have fin : r = (0, V, q, clk, dm, ob, ru, rn, rs, nb, tr) := by rw [hr, hV, spHalves]
  have hfi : ∀ i j, 0 ≤ hf (nmS nb) i j ∧ hf (nmS nb) i j ≤ 1 := fun i j => by unfold hf; split <;> omega
  have sym : ∀ i j, hf (nmS nb) i j = hf (nmS nb) j i := fun i j => by
    unfold hf
    by_cases h : nmS nb i j = nmS nb j i
    · rw [if_pos h, if_pos h.symm]
    · rw [if_neg h, if_neg (fun e => h e.symm)]
  obtain ⟨Q, hQ⟩ : ∃ Q, Q = zQ w x (okM M μ r) (fun _ _ => False) 0 0 := ⟨_, rfl⟩
  have ret : ∀ μ', mS μ' M 0 clk (k11 q) (tr.length : Int) A → Fm μ μ' M → okM M μ r (some (.int (J V))) μ' := fun μ' hm hF => by
    rw [fin]
    exact ⟨⟨_, rfl, fun _ => rfl⟩, ⟨A, hm, hI, hRu, hRs, hNb, hTr, h9⟩, hF⟩
  obtain ⟨P0, hP0⟩ : ∃ P0, P0 = okM M μ r := ⟨_, rfl⟩
  rw [← hP0] at ret ⊢
  refine z_aload_n C dX6_halves_0 rfl ?_
  refine z_iconst C dX6_halves_1 ?_
  refine z_mp0 C hm hF qF_X6_71 dX6_halves_2 (fun μ hm hF => ?_)
  refine z_iconst C dX6_halves_5 ?_
  refine z_istore_n C dX6_halves_6 ?_
  refine z_iconst C dX6_halves_7 ?_
  refine z_istore_n C dX6_halves_8 ?_
  have hr2 := ret _ hm hF
  -- one step of the inner loop
  have step : ∀ (i o : Nat) (c : Int), i < 4 → o < i → Z w x (zQ w x P0 (fun _ _ => False) 0 0) 4 16 [(0, .ref (M 0)), (1, .int (J (c + hf (nmS nb) i o))), (2, .int (J (i : Int))), (3, .int (J ((o + 1 : Nat) : Int)))] [] μ 0 0 → Z w x (zQ w x P0 (fun _ _ => False) 0 0) 4 16 [(0, .ref (M 0)), (1, .int (J c)), (2, .int (J (i : Int))), (3, .int (J (o : Int)))] [] μ 0 0 := by
    intro i o c hi ho K
    refine z_iload_n C dX6_halves_16 rfl ?_
    refine z_iload_n C dX6_halves_17 rfl ?_
    refine z_icmp_ge (tgt := 50) C dX6_halves_18 (by decide) (by omega) (fun g => ?_) (fun g => ?_)
    · omega
    · refine z_iload_n C dX6_halves_21 rfl ?_
      refine z_aload_n C dX6_halves_22 rfl ?_
      refine z_iload_n C dX6_halves_23 rfl ?_
      refine z_iload_n C dX6_halves_24 rfl ?_
      refine z_callV C (c_names6 w i o nb hi (by omega) (hNb i hi) (hnb i hi) hm) qM_X6_138 dX6_halves_25 rfl (zRc_o hm.1.1) (fun _ _ h => h.elim) ?_
      rintro v μ2 ⟨rfl, rfl⟩
      refine z_aload_n C dX6_halves_28 rfl ?_
      refine z_iload_n C dX6_halves_29 rfl ?_
      refine z_iload_n C dX6_halves_30 rfl ?_
      refine z_callV C (c_names6 w o i nb (by omega) hi (hNb o (by omega)) (hnb o (by omega)) hm) qM_X6_138 dX6_halves_31 rfl (zRc_o hm.1.1) (fun _ _ h => h.elim) ?_
      rintro v μ3 ⟨rfl, rfl⟩
      have z1 := zB_in (nmS nb i o)
      have z2 := zB_in (nmS nb o i)
      have hinj : zB (nmS nb i o) = zB (nmS nb o i) ↔ nmS nb i o = nmS nb o i := by cases nmS nb i o <;> cases nmS nb o i <;> decide
      refine z_icmp_ne (tgt := 41) C dX6_halves_34 (by decide) (by omega) (fun g3 => ?_) (fun g3 => ?_)
      · rw [show hf (nmS nb) i o = 1 from if_neg (fun h => g3 (hinj.mpr h))] at K
        refine z_iconst C dX6_halves_41 ?_
        refine z_iadd C dX6_halves_42 ?_
        refine z_istore_n C dX6_halves_43 ?_
        refine z_iinc C dX6_halves_44 rfl ?_
        refine z_goto (tgt := 16) C dX6_halves_47 (by decide) ?_
        exact z_ls _ (by exact ⟨rfl, rfl, rfl, rfl, trivial⟩) K
      · rw [show hf (nmS nb) i o = 0 from if_pos (hinj.mp g3)] at K
        refine z_iconst C dX6_halves_37 ?_
        refine z_goto (tgt := 42) C dX6_halves_38 (by decide) ?_
        refine z_iadd C dX6_halves_42 ?_
        refine z_istore_n C dX6_halves_43 ?_
        refine z_iinc C dX6_halves_44 rfl ?_
        refine z_goto (tgt := 16) C dX6_halves_47 (by decide) ?_
        exact z_ls _ (by exact ⟨rfl, rfl, rfl, rfl, trivial⟩) K
  have enter : ∀ (i : Nat) (c : Int), i < 4 → Z w x (zQ w x P0 (fun _ _ => False) 0 0) 4 16 [(0, .ref (M 0)), (1, .int (J c)), (2, .int (J (i : Int))), (3, .int (J ((0 : Nat) : Int)))] [] μ 0 0 → Z w x (zQ w x P0 (fun _ _ => False) 0 0) 4 9 [(0, .ref (M 0)), (1, .int (J c)), (2, .int (J (i : Int)))] [] μ 0 0 := by
    intro i c hi kk
    refine z_iload_n C dX6_halves_9 rfl ?_
    refine z_iconst C dX6_halves_10 ?_
    refine z_icmp_ge (tgt := 56) C dX6_halves_11 (by decide) (by omega) (fun g => ?_) (fun g => ?_)
    · omega
    · refine z_iconst C dX6_halves_14 ?_
      refine z_istore_n C dX6_halves_15 ?_
      exact z_ls _ (by exact ⟨rfl, rfl, rfl, rfl, trivial⟩) kk
  have leave : ∀ (i : Nat) (c : Int), Z w x (zQ w x P0 (fun _ _ => False) 0 0) 4 9 [(0, .ref (M 0)), (1, .int (J c)), (2, .int (J ((i + 1 : Nat) : Int)))] [] μ 0 0 → i < 4 → Z w x (zQ w x P0 (fun _ _ => False) 0 0) 4 16 [(0, .ref (M 0)), (1, .int (J c)), (2, .int (J (i : Int))), (3, .int (J (i : Int)))] [] μ 0 0 := by
    intro i c kk hi
    refine z_iload_n C dX6_halves_16 rfl ?_
    refine z_iload_n C dX6_halves_17 rfl ?_
    refine z_icmp_ge (tgt := 50) C dX6_halves_18 (by decide) (by omega) (fun g => ?_) (fun g => ?_)
    · refine z_iinc C dX6_halves_50 rfl ?_
      refine z_goto (tgt := 9) C dX6_halves_53 (by decide) ?_
      exact z_ls _ (by exact ⟨rfl, rfl, rfl, trivial⟩) kk
    · omega
  have done : ∀ (c : Int), c = V → Z w x (zQ w x P0 (fun _ _ => False) 0 0) 4 9 [(0, .ref (M 0)), (1, .int (J c)), (2, .int (J ((4 : Nat) : Int)))] [] μ 0 0 := by
    intro c hc
    refine z_iload_n C dX6_halves_9 rfl ?_
    refine z_iconst C dX6_halves_10 ?_
    refine z_icmp_ge (tgt := 56) C dX6_halves_11 (by decide) (by omega) (fun g => ?_) (fun g => ?_)
    · refine z_iload_n C dX6_halves_56 rfl ?_
      refine z_iret C dX6_halves_57 ?_
      rw [hc]
      exact hr2
    · exact absurd g (by decide)
  refine z_ls _ (by exact ⟨rfl, rfl, rfl, trivial⟩) (enter 0 0 (by decide) (leave 0 _ (enter 1 _ (by decide) (step 1 0 _ (by decide) (by decide) (leave 1 _ (enter 2 _ (by decide) (step 2 0 _ (by decide) (by decide) (step 2 1 _ (by decide) (by decide) (leave 2 _ (enter 3 _ (by decide) (step 3 0 _ (by decide) (by decide) (step 3 1 _ (by decide) (by decide) (step 3 2 _ (by decide) (by decide) (leave 3 _ (done _ ?_) (by decide)))))) (by decide))))) (by decide)))) (by decide)))
  rw [hV, sym 1 0, sym 2 0, sym 2 1, sym 3 0, sym 3 1, sym 3 2]
  omega
theorem m_setNeighbour (w : Wd) (a p o : Int) (hR : Rm μ M t s) (hO : okS N s) (h32 : in32 a) (hp32 : in32 p) (ho32 : in32 o) : cM w yX6_setNeighbour cX6_setNeighbour 6 (some .int) 8 0 0 [.ref (M 0), .int (J a), .int (J p), .int (J o)] μ (okM M μ (spNb a p o s)) (fun _ _ => False) := by
  obtain ⟨a1, a2⟩ := id h32
  obtain ⟨o1, o2⟩ := id ho32
  obtain ⟨q, clk, dm, ob, ru, rn, rs, nb, tr⟩ := s
  obtain ⟨A, hm, hI, hRu, hRs, hNb, hTr, h9⟩ := hR
  have hF := Fm_rf μ M
  have hqk := hO.2.1
  have hqi := k11_in hqk
  have hci := hO.2.2.1
  have g0 := hm.1.1
  obtain ⟨r, hr⟩ : ∃ r, r = spNb a p o (q, clk, dm, ob, ru, rn, rs, nb, tr) := ⟨_, rfl⟩
  rw [← hr]
  refine cM_of (fun x C => ?_)
  have fail : ∀ code : Int, 0 < code ∧ code ≤ 2 → r = (code, 0, q, clk, dm, ob, ru, rn, rs, nb, tr) → ∀ ls, zsub ls [(0, .ref (M 0))] → Z w x (zQ w x (okM M μ r) (fun _ _ => False) 0 0) 6 54 ls [.int (J code), .ref (M 0)] μ 0 0 := by
    intro code hc he ls hls
    refine z_ls _ hls ?_
    refine z_mp0 C hm hF qF_X6_71 dX6_setNeighbour_54 (fun μ hm hF => ?_)
    refine z_aload_n C dX6_setNeighbour_57 rfl ?_
    refine z_mg0 C hm qF_X6_71 dX6_setNeighbour_58 ?_
    refine z_if_le (tgt := 66) C dX6_setNeighbour_61 (by decide) (by omega) (fun g => ?_) (fun g => ?_)
    · omega
    · refine z_iconst C dX6_setNeighbour_64 ?_
      refine z_iret C dX6_setNeighbour_65 ?_
      rw [he]
      exact ⟨⟨0, rfl, fun _ => rfl⟩, ⟨A, hm, hI, hRu, hRs, hNb, hTr, h9⟩, hF⟩
  have bad : (¬ (0 ≤ a ∧ a ≤ 3) ∨ ¬ (0 ≤ p ∧ p ≤ 3) ∨ ¬ (-1 ≤ o ∧ o ≤ 3)) → ∀ ls, zsub ls [(0, .ref (M 0))] → Z w x (zQ w x (okM M μ r) (fun _ _ => False) 0 0) 6 31 ls [] μ 0 0 := by
    intro h ls hls
    refine z_ls _ hls ?_
    refine z_iconst C dX6_setNeighbour_31 ?_
    refine z_istore C dX6_setNeighbour_32 ?_
    refine z_aload_n C dX6_setNeighbour_34 rfl ?_
    refine z_iload C dX6_setNeighbour_35 rfl ?_
    refine z_if_ne (tgt := 44) C dX6_setNeighbour_37 (by decide) (by omega) (fun g => ?_) (fun g => ?_)
    · exact absurd rfl g
    · refine z_iconst C dX6_setNeighbour_40 ?_
      refine z_goto (tgt := 54) C dX6_setNeighbour_41 (by decide) ?_
      exact fail 1 (by decide) (by rw [hr, spNb, if_pos h]) _ (by exact ⟨rfl, trivial⟩)
  refine z_iload_n C dX6_setNeighbour_0 rfl ?_
  refine z_iconst C dX6_setNeighbour_1 ?_
  refine z_iconst C dX6_setNeighbour_2 ?_
  refine z_callS C (c_in w μ a 0 3 h32 ⟨by decide, by decide⟩ ⟨by decide, by decide⟩) qM_X6_75 dX6_setNeighbour_3 rfl (fun _ _ h => h.elim) ?_
  rintro v μ2 ⟨rfl, rfl⟩
  by_cases ha : 0 ≤ a ∧ a ≤ 3
  case neg =>
    rw [decide_eq_false ha, show zB false = 0 from rfl]
    refine z_if_eq (tgt := 31) C dX6_setNeighbour_6 (by decide) (by omega) (fun g => ?_) (fun g => ?_)
    · exact bad (Or.inl ha) _ (by exact ⟨rfl, trivial⟩)
    · exact absurd rfl g
  rw [decide_eq_true ha, show zB true = 1 from rfl]
  refine z_if_eq (tgt := 31) C dX6_setNeighbour_6 (by decide) (by omega) (fun g => ?_) (fun g => ?_)
  · exact absurd g (by decide)
  refine z_iload_n C dX6_setNeighbour_9 rfl ?_
  refine z_iconst C dX6_setNeighbour_10 ?_
  refine z_iconst C dX6_setNeighbour_11 ?_
  refine z_callS C (c_in w _ p 0 3 hp32 ⟨by decide, by decide⟩ ⟨by decide, by decide⟩) qM_X6_75 dX6_setNeighbour_12 rfl (fun _ _ h => h.elim) ?_
  rintro v μ3 ⟨rfl, rfl⟩
  by_cases hp : 0 ≤ p ∧ p ≤ 3
  case neg =>
    rw [decide_eq_false hp, show zB false = 0 from rfl]
    refine z_if_eq (tgt := 31) C dX6_setNeighbour_15 (by decide) (by omega) (fun g => ?_) (fun g => ?_)
    · exact bad (Or.inr (Or.inl hp)) _ (by exact ⟨rfl, trivial⟩)
    · exact absurd rfl g
  rw [decide_eq_true hp, show zB true = 1 from rfl]
  refine z_if_eq (tgt := 31) C dX6_setNeighbour_15 (by decide) (by omega) (fun g => ?_) (fun g => ?_)
  · exact absurd g (by decide)
  refine z_iload_n C dX6_setNeighbour_18 rfl ?_
  refine z_iconst C dX6_setNeighbour_19 ?_
  refine z_iconst C dX6_setNeighbour_20 ?_
  refine z_callS C (c_in w _ o (-1) 3 ho32 ⟨by decide, by decide⟩ ⟨by decide, by decide⟩) qM_X6_75 dX6_setNeighbour_21 rfl (fun _ _ h => h.elim) ?_
  rintro v μ4 ⟨rfl, rfl⟩
  by_cases ho : -1 ≤ o ∧ o ≤ 3
  case neg =>
    rw [decide_eq_false ho, show zB false = 0 from rfl]
    refine z_if_eq (tgt := 31) C dX6_setNeighbour_24 (by decide) (by omega) (fun g => ?_) (fun g => ?_)
    · exact bad (Or.inr (Or.inr ho)) _ (by exact ⟨rfl, trivial⟩)
    · exact absurd rfl g
  rw [decide_eq_true ho, show zB true = 1 from rfl]
  refine z_if_eq (tgt := 31) C dX6_setNeighbour_24 (by decide) (by omega) (fun g => ?_) (fun g => ?_)
  · exact absurd g (by decide)
  refine z_iconst C dX6_setNeighbour_27 ?_
  refine z_goto (tgt := 32) C dX6_setNeighbour_28 (by decide) ?_
  refine z_istore C dX6_setNeighbour_32 ?_
  refine z_aload_n C dX6_setNeighbour_34 rfl ?_
  refine z_iload C dX6_setNeighbour_35 rfl ?_
  refine z_if_ne (tgt := 44) C dX6_setNeighbour_37 (by decide) (by omega) (fun g => ?_) (fun g => ?_)
  · refine z_iload_n C dX6_setNeighbour_44 rfl ?_
    refine z_iload_n C dX6_setNeighbour_45 rfl ?_
    refine z_icmp_ne (tgt := 53) C dX6_setNeighbour_46 (by decide) (by omega) (fun g2 => ?_) (fun g2 => ?_)
    · obtain ⟨j, rfl⟩ : ∃ j : Nat, a = (j : Int) := ⟨a.toNat, by omega⟩
      have hj : j < 4 := by omega
      refine z_iconst C dX6_setNeighbour_53 ?_
      refine z_mp0 C hm hF qF_X6_71 dX6_setNeighbour_54 (fun μ hm hF => ?_)
      refine z_aload_n C dX6_setNeighbour_57 rfl ?_
      refine z_mg0 C hm qF_X6_71 dX6_setNeighbour_58 ?_
      refine z_if_le (tgt := 66) C dX6_setNeighbour_61 (by decide) (by omega) (fun g3 => ?_) (fun g3 => ?_)
      · refine z_aload_n C dX6_setNeighbour_66 rfl ?_
        refine z_mgf C hm qF_X6_68 dX6_setNeighbour_67 ?_
        refine z_iconst C dX6_setNeighbour_70 ?_
        refine z_iload_n C dX6_setNeighbour_71 rfl ?_
        refine z_imul C dX6_setNeighbour_72 ?_
        refine z_iload_n C dX6_setNeighbour_73 rfl ?_
        refine z_iadd C dX6_setNeighbour_74 ?_
        refine z_mld C hm dX6_setNeighbour_75 (by simp only [mln]; omega) ?_
        rw [hNb j hj p hp.1 (by omega)]
        refine z_iconst C dX6_setNeighbour_76 ?_
        refine z_isub C dX6_setNeighbour_77 ?_
        refine z_istore C dX6_setNeighbour_78 ?_
        refine z_aload_n C dX6_setNeighbour_80 rfl ?_
        refine z_mgf C hm qF_X6_68 dX6_setNeighbour_81 ?_
        refine z_iconst C dX6_setNeighbour_84 ?_
        refine z_iload_n C dX6_setNeighbour_85 rfl ?_
        refine z_imul C dX6_setNeighbour_86 ?_
        refine z_iload_n C dX6_setNeighbour_87 rfl ?_
        refine z_iadd C dX6_setNeighbour_88 ?_
        refine z_iload_n C dX6_setNeighbour_89 rfl ?_
        refine z_iconst C dX6_setNeighbour_90 ?_
        refine z_iadd C dX6_setNeighbour_91 ?_
        refine z_mst C hm hF dX6_setNeighbour_92 (by simp only [mln]; omega) (fun μ hm hF => ?_)
        refine z_iload C dX6_setNeighbour_93 rfl ?_
        refine z_iret C dX6_setNeighbour_95 ?_
        rw [hr, spNb, if_neg (by omega), if_neg g2, show ((j : Int)).toNat = j from rfl]
        refine ⟨⟨_, rfl, fun _ => by show nb j p + 1 - 1 = nb j p; omega⟩, ⟨_, hm, fun i hi => ?_, fun i hi => ?_, fun i hi => ?_, fun i hi p' p0 p4 => ?_, ?_, ?_⟩, hF⟩
        · exact hI i hi
        · exact hRu i hi
        · exact hRs i hi
        · by_cases hij : i = j
          · subst hij
            rw [u1_s]
            by_cases hpp : p' = p
            · subst hpp
              rw [uI_s, u2_s]
            · rw [uI_n _ _ hpp, u2_i _ _ _ _ (by omega)]
              exact hNb i hi p' p0 p4
          · rw [u1_n _ _ hij, u2_i _ _ _ _ (by omega)]
            exact hNb i hi p' p0 p4
        · exact hTr
        · exact h9
      · omega
    · refine z_iconst C dX6_setNeighbour_49 ?_
      refine z_goto (tgt := 54) C dX6_setNeighbour_50 (by decide) ?_
      exact fail 2 (by decide) (by rw [hr, spNb, if_neg (by omega), if_pos g2]) _ (by exact ⟨rfl, trivial⟩)
  · exact absurd g (by decide)
end MOH
