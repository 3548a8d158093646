/-! remove, clear, add(int, E) -/
theorem oY_shrink {w : Wd} {μ μo μ' : Mem} {a ed cap : Nat} {l l' : List Nat} (h : oY w μ μo a l ed cap) (hl : l'.length ≤ l.length) (e1 : μ'.1 = μo.1) (e2 : μ'.2.1 = u3 μo.2.1 7 2 a (l'.length : Int)) (e3 : μ'.2.2.1 = μo.2.2.1) (e4 : μ'.2.2.2.1 = μo.2.2.2.1) (e5 : μ'.2.2.2.2.2 = μo.2.2.2.2.2) (e6 : ∀ b, b ≠ ed → μ'.2.2.2.2.1 b = μo.2.2.2.2.1 b) (hc : ∀ i : Nat, i < l'.length → μ'.2.2.2.2.1 ed (i : Int) = l'[i]?) : oY w μ μ' a l' ed cap := by
  obtain ⟨g1, g2, g3, g4, g5, g6, g7, g8, g9, g10⟩ := h
  refine ⟨fun b kb hb hT => ?_, by rw [e1]; exact g2, ?_, by show μ'.2.2.1 7 1 a = _; rw [e3]; exact g4, by rw [e1]; exact g5, g6, by omega, g8, g9, hc⟩
  · obtain ⟨h1, h2, h3, h4, h5, h6⟩ := g1 b kb hb hT
    have hbe : b ≠ ed := fun e => by rw [e, g6] at hT; cases hT
    exact ⟨by rw [e1]; exact h1, fun c k => by show μ'.2.1 c k b = _; rw [e2, u3_a _ _ _ _ _ hb]; exact h2 c k, fun c k => by show μ'.2.2.1 c k b = _; rw [e3]; exact h3 c k, by show μ'.2.2.2.1 b = _; rw [e4]; exact h4, by show μ'.2.2.2.2.1 b = _; rw [e6 b hbe]; exact h5, by show μ'.2.2.2.2.2 b = _; rw [e5]; exact h6⟩
  · show μ'.2.1 7 2 a = _
    rw [e2, u3_s]
theorem c_fastRemove (w : Wd) (μ μo : Mem) (a ci n0 ed cap i : Nat) (l : List Nat) (hT : μ.1 a = some (24, n0)) (he : zEl ci) (hA : zAll μ ci l) (h : oY w μ μo a l ed cap) (hi : i < l.length) : cM w yJx4a65c_fastRemove_b59b0 cJx4a65c_fastRemove_b59b0 4 none 2 0 0 [.ref a, .ref ed, .int (J (i : Int))] μo (fun r μ' => r = none ∧ oY w μ μ' a (l.eraseIdx i) ed cap) (fun _ _ => False) := by
  refine cM_of (fun x C => ?_)
  have hTa := h.2.1
  refine z_aload_n C dJx4a65c_fastRemove_b59b0_0 rfl ?_
  refine z_dup C dJx4a65c_fastRemove_b59b0_1 ?_
  refine z_geti C qF_Jx4a65c_63 dJx4a65c_fastRemove_b59b0_2 (by assumption) ?_
  refine z_iconst C dJx4a65c_fastRemove_b59b0_5 ?_
  refine z_iadd C dJx4a65c_fastRemove_b59b0_6 ?_
  refine z_puti C qF_Jx4a65c_63 qW_7_0 dJx4a65c_fastRemove_b59b0_7 (by assumption) ?_
  obtain ⟨m, hm⟩ : ∃ m, m = μo.2.1 7 0 a + 1 := ⟨_, rfl⟩
  rw [← hm]
  have h2 := oY_mod (v := m) h
  obtain ⟨μ2, hμ2⟩ : ∃ μ2, μ2 = sI μo 7 0 a m := ⟨_, rfl⟩
  rw [← hμ2] at h2 ⊢
  obtain ⟨g1, g2, g3, g4, g5, g6, g7, g8, g9, g10⟩ := id h2
  refine z_aload_n C dJx4a65c_fastRemove_b59b0_10 rfl ?_
  refine z_geti C qF_Jx4a65c_48 dJx4a65c_fastRemove_b59b0_11 (by assumption) ?_
  rw [show μ2.2.1 7 2 a = _ from g3]
  refine z_iconst C dJx4a65c_fastRemove_b59b0_14 ?_
  refine z_isub C dJx4a65c_fastRemove_b59b0_15 ?_
  refine z_dup C dJx4a65c_fastRemove_b59b0_16 ?_
  refine z_istore_n C dJx4a65c_fastRemove_b59b0_17 ?_
  refine z_iload_n C dJx4a65c_fastRemove_b59b0_18 rfl ?_
  have hlen : (l.eraseIdx i).length = l.length - 1 := by rw [List.length_eraseIdx]; simp [hi]
  have fin : ∀ (μ3 : Mem) (hc3 : μ3.1 = μ2.1) (f3 : μ3.2.1 = μ2.2.1) (f4 : μ3.2.2.1 = μ2.2.2.1) (f5 : μ3.2.2.2.1 = μ2.2.2.2.1) (f6 : μ3.2.2.2.2.2 = μ2.2.2.2.2.2) (f7 : ∀ b, b ≠ ed → μ3.2.2.2.2.1 b = μ2.2.2.2.2.1 b) (f8 : ∀ j : Nat, j < l.length - 1 → μ3.2.2.2.2.1 ed (j : Int) = (l.eraseIdx i)[j]?), Z w x (zQ w x (fun r μ' => r = none ∧ oY w μ μ' a (l.eraseIdx i) ed cap) (fun _ _ => False) 0 0) 4 34 [(0, .ref a), (1, .ref ed), (2, .int (J (i : Int))), (3, .int (J ((l.length : Int) - 1)))] [] μ3 0 0 := by
    intro μ3 hc3 f3 f4 f5 f6 f7 f8
    have hTa3 : μ3.1 a = some (7, 0) := by rw [hc3]; exact g2
    refine z_aload_n C dJx4a65c_fastRemove_b59b0_34 rfl ?_
    refine z_aload_n C dJx4a65c_fastRemove_b59b0_35 rfl ?_
    refine z_iload_n C dJx4a65c_fastRemove_b59b0_36 rfl ?_
    refine z_dup_x1 C dJx4a65c_fastRemove_b59b0_37 ?_
    refine z_puti C qF_Jx4a65c_48 qW_7_2 dJx4a65c_fastRemove_b59b0_38 (by assumption) ?_
    refine z_null C dJx4a65c_fastRemove_b59b0_41 ?_
    have hT4 : (sI μ3 7 2 a ((l.length : Int) - 1)).1 ed = some (25, cap) := by show μ3.1 ed = _; rw [hc3]; exact g5
    refine z_aastoreN C dJx4a65c_fastRemove_b59b0_42 hT4 (by omega) ?_
    refine z_vret C dJx4a65c_fastRemove_b59b0_43 ⟨rfl, ?_⟩
    refine oY_shrink h2 (by omega) hc3 ?_ f4 f5 f6 (fun b hb => ?_) (fun j hj => ?_)
    · show u3 μ3.2.1 7 2 a _ = _
      rw [f3, hlen, show ((l.length - 1 : Nat) : Int) = (l.length : Int) - 1 by omega]
    · show u2 μ3.2.2.2.2.1 ed _ none b = _
      rw [u2_af _ _ _ hb]
      exact f7 b hb
    · show u2 μ3.2.2.2.2.1 ed _ none ed (j : Int) = _
      rw [u2_i _ _ _ _ (by omega)]
      exact f8 j (by omega)
  refine z_icmp_le (tgt := 34) C dJx4a65c_fastRemove_b59b0_19 (by decide) (by omega) (fun g => ?_) (fun g => ?_)
  · refine fin μ2 rfl rfl rfl rfl rfl (fun _ _ => rfl) (fun j hj => ?_)
    rw [g10 j (by omega), List.getElem?_eraseIdx]
    rw [if_pos (by omega)]
  · refine z_aload_n C dJx4a65c_fastRemove_b59b0_22 rfl ?_
    refine z_iload_n C dJx4a65c_fastRemove_b59b0_23 rfl ?_
    refine z_iconst C dJx4a65c_fastRemove_b59b0_24 ?_
    refine z_iadd C dJx4a65c_fastRemove_b59b0_25 ?_
    refine z_aload_n C dJx4a65c_fastRemove_b59b0_26 rfl ?_
    refine z_iload_n C dJx4a65c_fastRemove_b59b0_27 rfl ?_
    refine z_iload_n C dJx4a65c_fastRemove_b59b0_28 rfl ?_
    refine z_iload_n C dJx4a65c_fastRemove_b59b0_29 rfl ?_
    refine z_isub C dJx4a65c_fastRemove_b59b0_30 ?_
    refine z_arraycopy C (ci := ci) qJ_cpyA dJx4a65c_fastRemove_b59b0_31 g5 g5 (by omega) (by omega) he (fun j h1 h3 y hy => oY_el h2 hA hT he j (by omega) (by omega) y hy) ?_
    refine fin _ rfl rfl rfl rfl rfl (fun b hb => u1_n _ _ hb) (fun j hj => ?_)
    show u1 μ2.2.2.2.2.1 ed _ ed (j : Int) = _
    rw [u1_s, List.getElem?_eraseIdx]
    unfold uC
    by_cases hji : j < i
    · rw [if_neg (by omega), if_pos hji]
      exact g10 j (by omega)
    · rw [if_pos (by omega), if_neg hji, show (i : Int) + 1 + ((j : Int) - (i : Int)) = ((j + 1 : Nat) : Int) by omega]
      exact g10 (j + 1) (by omega)
theorem c_remove (w : Wd) (μ : Mem) (a ci n0 i : Nat) (hT : μ.1 a = some (24, n0)) (he : zEl ci) (hA : zAll μ ci (μ.2.2.2.2.2 a)) (hi : i < (μ.2.2.2.2.2 a).length) (hl : (μ.2.2.2.2.2 a).length ≤ 100000) : cM w yJx4a65c_remove_915e3 cJx4a65c_remove_915e3 4 (some (.object "java/lang/Object")) 3 0 0 [.ref a, .int (J (i : Int))] μ (fun r μ' => r = some (va_rf (μ.2.2.2.2.2 a)[i]?) ∧ μ' = sL μ a ((μ.2.2.2.2.2 a).eraseIdx i)) (fun _ _ => False) := by
  refine cM_of (fun x C => ?_)
  refine z_iload_n C dJx4a65c_remove_915e3_0 rfl ?_
  refine z_aload_n C dJx4a65c_remove_915e3_1 rfl ?_
  refine z_openY hT (fun μo hl0 h => ?_) (fun μo ed cap h => ?_)
  · rw [hl0] at hi
    exact absurd hi (Nat.not_lt_zero _)
  · obtain ⟨g1, g2, g3, g4, g5, g6, g7, g8, g9, g10⟩ := id h
    refine z_geti C qF_Jx4a65c_48 dJx4a65c_remove_915e3_2 (by assumption) ?_
    rw [show μo.2.1 7 2 a = _ from g3]
    refine z_callS C (c_checkIndex w μo (i : Int) ((μ.2.2.2.2.2 a).length : Int) (by omega)) qM_Jx4a65c_118 dJx4a65c_remove_915e3_5 rfl (fun _ _ h => h.elim) ?_
    rintro v μ' ⟨rfl, rfl⟩
    refine z_pop C dJx4a65c_remove_915e3_8 ?_
    refine z_aload_n C dJx4a65c_remove_915e3_9 rfl ?_
    refine z_getr C _ qF_Jx4a65c_9 dJx4a65c_remove_915e3_10 (by assumption) (by assumption) ?_
    refine z_astore_n C dJx4a65c_remove_915e3_13 ?_
    refine z_aload_n C dJx4a65c_remove_915e3_14 rfl ?_
    refine z_iload_n C dJx4a65c_remove_915e3_15 rfl ?_
    refine z_aaloadO C dJx4a65c_remove_915e3_16 g5 (by omega) ?_
    rw [show μ'.2.2.2.2.1 ed (i : Int) = _ from g10 i hi]
    refine z_astore_n C dJx4a65c_remove_915e3_17 ?_
    refine z_aload_n C dJx4a65c_remove_915e3_18 rfl ?_
    refine z_aload_n C dJx4a65c_remove_915e3_19 rfl ?_
    refine z_iload_n C dJx4a65c_remove_915e3_20 rfl ?_
    refine z_callV C (c_fastRemove w μ μ' a ci n0 ed cap i (μ.2.2.2.2.2 a) hT he hA h hi) qM_Jx4a65c_144 dJx4a65c_remove_915e3_21 rfl (zRc_o g2) (fun _ _ h => h.elim) ?_
    rintro v μ2 ⟨rfl, h2⟩
    refine z_aload_n C dJx4a65c_remove_915e3_24 rfl ?_
    refine z_closeY C hT h2 ?_
    exact z_aret C dJx4a65c_remove_915e3_25 ⟨rfl, rfl⟩
theorem c_clear (w : Wd) (μ : Mem) (a n0 : Nat) (hT : μ.1 a = some (24, n0)) (hl : (μ.2.2.2.2.2 a).length ≤ 100000) : cM w yJx4a65c_clear_da8c8 cJx4a65c_clear_da8c8 4 none 1 0 0 [.ref a] μ (fun r μ' => r = none ∧ μ' = sL μ a []) (fun _ _ => False) := by
  refine cM_of (fun x C => ?_)
  refine z_aload_n C dJx4a65c_clear_da8c8_0 rfl ?_
  refine z_dup C dJx4a65c_clear_da8c8_1 ?_
  refine z_openY hT (fun μo hl0 h => ?_) (fun μo ed cap h => ?_)
  · have hTa := h.2.1
    refine z_geti C qF_Jx4a65c_63 dJx4a65c_clear_da8c8_2 (by assumption) ?_
    refine z_iconst C dJx4a65c_clear_da8c8_5 ?_
    refine z_iadd C dJx4a65c_clear_da8c8_6 ?_
    refine z_puti C qF_Jx4a65c_63 qW_7_0 dJx4a65c_clear_da8c8_7 (by assumption) ?_
    obtain ⟨m, hm⟩ : ∃ m, m = μo.2.1 7 0 a + 1 := ⟨_, rfl⟩
    rw [← hm]
    have h2 := oZ_mod (v := m) h
    obtain ⟨μ2, hμ2⟩ : ∃ μ2, μ2 = sI μo 7 0 a m := ⟨_, rfl⟩
    rw [← hμ2] at h2 ⊢
    obtain ⟨g1, g2, g3, g4, g5⟩ := id h2
    refine z_aload_n C dJx4a65c_clear_da8c8_10 rfl ?_
    refine z_getr C _ qF_Jx4a65c_9 dJx4a65c_clear_da8c8_11 (by assumption) (by assumption) ?_
    refine z_astore_n C dJx4a65c_clear_da8c8_14 ?_
    refine z_aload_n C dJx4a65c_clear_da8c8_15 rfl ?_
    refine z_geti C qF_Jx4a65c_48 dJx4a65c_clear_da8c8_16 (by assumption) ?_
    rw [show μ2.2.1 7 2 a = _ from g3]
    refine z_istore_n C dJx4a65c_clear_da8c8_19 ?_
    refine z_aload_n C dJx4a65c_clear_da8c8_20 rfl ?_
    refine z_iconst C dJx4a65c_clear_da8c8_21 ?_
    refine z_dup_x1 C dJx4a65c_clear_da8c8_22 ?_
    refine z_puti C qF_Jx4a65c_48 qW_7_2 dJx4a65c_clear_da8c8_23 (by assumption) ?_
    refine z_istore_n C dJx4a65c_clear_da8c8_26 ?_
    refine z_iload_n C dJx4a65c_clear_da8c8_27 rfl ?_
    refine z_iload_n C dJx4a65c_clear_da8c8_28 rfl ?_
    have h3 : oZ w μ (sI μ2 7 2 a 0) a [] := ⟨ag_I g1, g2, u3_s μ2.2.1 7 2 a 0, g4, rfl⟩
    refine z_icmp_ge (tgt := 42) C dJx4a65c_clear_da8c8_29 (by decide) (by omega) (fun g => ?_) (fun g => ?_)
    · refine z_closeZ C hT h3 ?_
      exact z_vret C dJx4a65c_clear_da8c8_42 ⟨rfl, rfl⟩
    · omega
  · have hTa := h.2.1
    refine z_geti C qF_Jx4a65c_63 dJx4a65c_clear_da8c8_2 (by assumption) ?_
    refine z_iconst C dJx4a65c_clear_da8c8_5 ?_
    refine z_iadd C dJx4a65c_clear_da8c8_6 ?_
    refine z_puti C qF_Jx4a65c_63 qW_7_0 dJx4a65c_clear_da8c8_7 (by assumption) ?_
    obtain ⟨m, hm⟩ : ∃ m, m = μo.2.1 7 0 a + 1 := ⟨_, rfl⟩
    rw [← hm]
    have h2 := oY_mod (v := m) h
    obtain ⟨μ2, hμ2⟩ : ∃ μ2, μ2 = sI μo 7 0 a m := ⟨_, rfl⟩
    rw [← hμ2] at h2 ⊢
    obtain ⟨g1, g2, g3, g4, g5, g6, g7, g8, g9, g10⟩ := id h2
    refine z_aload_n C dJx4a65c_clear_da8c8_10 rfl ?_
    refine z_getr C _ qF_Jx4a65c_9 dJx4a65c_clear_da8c8_11 (by assumption) (by assumption) ?_
    refine z_astore_n C dJx4a65c_clear_da8c8_14 ?_
    refine z_aload_n C dJx4a65c_clear_da8c8_15 rfl ?_
    refine z_geti C qF_Jx4a65c_48 dJx4a65c_clear_da8c8_16 (by assumption) ?_
    rw [show μ2.2.1 7 2 a = _ from g3]
    refine z_istore_n C dJx4a65c_clear_da8c8_19 ?_
    refine z_aload_n C dJx4a65c_clear_da8c8_20 rfl ?_
    refine z_iconst C dJx4a65c_clear_da8c8_21 ?_
    refine z_dup_x1 C dJx4a65c_clear_da8c8_22 ?_
    refine z_puti C qF_Jx4a65c_48 qW_7_2 dJx4a65c_clear_da8c8_23 (by assumption) ?_
    refine z_istore_n C dJx4a65c_clear_da8c8_26 ?_
    have loop : ∀ (r i : Nat) (μ3 : Mem), i + r = (μ.2.2.2.2.2 a).length → oY w μ μ3 a [] ed cap → Z w x (zQ w x (fun r μ' => r = none ∧ μ' = sL μ a []) (fun _ _ => False) 0 0) 4 27 [(1, .ref ed), (2, .int (J ((μ.2.2.2.2.2 a).length : Int))), (3, .int (J (i : Int)))] [] μ3 0 0 := by
      intro r
      induction r with
      | zero =>
        intro i μ3 hr h3
        refine z_iload_n C dJx4a65c_clear_da8c8_27 rfl ?_
        refine z_iload_n C dJx4a65c_clear_da8c8_28 rfl ?_
        refine z_icmp_ge (tgt := 42) C dJx4a65c_clear_da8c8_29 (by decide) (by omega) (fun g => ?_) (fun g => ?_)
        · refine z_closeY C hT h3 ?_
          exact z_vret C dJx4a65c_clear_da8c8_42 ⟨rfl, rfl⟩
        · omega
      | succ r ih =>
        intro i μ3 hr h3
        refine z_iload_n C dJx4a65c_clear_da8c8_27 rfl ?_
        refine z_iload_n C dJx4a65c_clear_da8c8_28 rfl ?_
        refine z_icmp_ge (tgt := 42) C dJx4a65c_clear_da8c8_29 (by decide) (by omega) (fun g => ?_) (fun g => ?_)
        · omega
        · refine z_aload_n C dJx4a65c_clear_da8c8_32 rfl ?_
          refine z_iload_n C dJx4a65c_clear_da8c8_33 rfl ?_
          refine z_null C dJx4a65c_clear_da8c8_34 ?_
          have g5' := h3.2.2.2.2.1
          refine z_aastoreN C dJx4a65c_clear_da8c8_35 g5' (by omega) ?_
          refine z_iinc C dJx4a65c_clear_da8c8_36 rfl ?_
          refine z_goto (tgt := 27) C dJx4a65c_clear_da8c8_39 (by decide) ?_
          refine ih (i + 1) _ (by omega) ?_
          obtain ⟨k1, k2, k3, k4, k5, k6, k7, k8, k9, -⟩ := h3
          exact ⟨ag_Q k1 k6, k2, k3, k4, k5, k6, k7, k8, k9, fun j hj => absurd hj (Nat.not_lt_zero _)⟩
    refine z_ls [(1, .ref ed), (2, .int (J ((μ.2.2.2.2.2 a).length : Int))), (3, .int (J 0))] ⟨rfl, rfl, rfl, trivial⟩ ?_
    refine loop (μ.2.2.2.2.2 a).length 0 _ (by omega) ?_
    exact ⟨ag_I g1, g2, u3_s μ2.2.1 7 2 a 0, g4, g5, g6, Nat.zero_le _, g8, g9, fun j hj => absurd hj (Nat.not_lt_zero _)⟩
theorem c_rangeCheck (w : Wd) (μ : Mem) (a i : Nat) (l : Int) (hT : μ.1 a = some (7, 0)) (hz : μ.2.1 7 2 a = l) (hi : (i : Int) ≤ l ∧ l ≤ 100000) : cM w yJx4a65c_rangeCheckForAdd_d00df cJx4a65c_rangeCheckForAdd_d00df 2 none 1 0 0 [.ref a, .int (J (i : Int))] μ (fun r μ' => r = none ∧ μ' = μ) (fun _ _ => False) := by
  refine cM_of (fun x C => ?_)
  refine z_iload_n C dJx4a65c_rangeCheckForAdd_d00df_0 rfl ?_
  refine z_aload_n C dJx4a65c_rangeCheckForAdd_d00df_1 rfl ?_
  refine z_geti C qF_Jx4a65c_48 dJx4a65c_rangeCheckForAdd_d00df_2 (by assumption) ?_
  rw [show μ.2.1 7 2 a = _ from hz]
  refine z_icmp_gt (tgt := 12) C dJx4a65c_rangeCheckForAdd_d00df_5 (by decide) (by omega) (fun g => ?_) (fun g => ?_)
  · omega
  · refine z_iload_n C dJx4a65c_rangeCheckForAdd_d00df_8 rfl ?_
    refine z_if_ge (tgt := 25) C dJx4a65c_rangeCheckForAdd_d00df_9 (by decide) (by omega) (fun g2 => ?_) (fun g2 => ?_)
    · exact z_vret C dJx4a65c_rangeCheckForAdd_d00df_25 ⟨rfl, rfl⟩
    · omega
theorem oY_ins {w : Wd} {μ μo : Mem} {a ed cap v i : Nat} {l : List Nat} (h : oY w μ μo a l ed cap) (hc : l.length < cap) (hi : i ≤ l.length) : oY w μ (sI (sQ (μo.1, μo.2.1, μo.2.2.1, μo.2.2.2.1, u1 μo.2.2.2.2.1 ed (uC (μo.2.2.2.2.1 ed) (μo.2.2.2.2.1 ed) (i : Int) ((i : Int) + 1) ((l.length : Int) - (i : Int))), μo.2.2.2.2.2) ed (i : Int) (some v)) 7 2 a ((l.length : Int) + 1)) a (l.insertIdx i v) ed cap := by
  obtain ⟨g1, g2, g3, g4, g5, g6, g7, g8, g9, g10⟩ := h
  have hlen : (l.insertIdx i v).length = l.length + 1 := by rw [List.length_insertIdx]; simp [hi]
  refine ⟨ag_I (ag_Q (ag_U g1 g6) g6), g2, ?_, g4, g5, g6, by omega, g8, g9, fun j hj => ?_⟩
  · show u3 μo.2.1 7 2 a _ 7 2 a = _
    rw [u3_s, hlen]
    omega
  · show u2 (u1 μo.2.2.2.2.1 ed _) ed (i : Int) (some v) ed (j : Int) = _
    rw [hlen] at hj
    rw [List.getElem?_insertIdx]
    by_cases e : j = i
    · subst e
      rw [u2_s]
      simp
      omega
    · rw [u2_i _ _ _ _ (by omega), u1_s]
      unfold uC
      by_cases hji : j < i
      · rw [if_neg (by omega), if_pos hji]
        exact g10 j (by omega)
      · rw [if_pos (by omega), if_neg hji, if_neg e, show (i : Int) + ((j : Int) - ((i : Int) + 1)) = ((j - 1 : Nat) : Int) by omega]
        exact g10 (j - 1) (by omega)
theorem c_addAt (S : Nat) (w : Wd) (μ : Mem) (a v ci n0 n1 i : Nat) (hT : μ.1 a = some (24, n0)) (hv : μ.1 v = some (ci, n1)) (he : zEl ci) (hA : zAll μ ci (μ.2.2.2.2.2 a)) (hl : (μ.2.2.2.2.2 a).length + (μ.2.2.2.2.2 a).length / 2 + 10 ≤ S ∧ S ≤ 1600) (hi : i ≤ (μ.2.2.2.2.2 a).length) : cM w yJx4a65c_add_7a177 cJx4a65c_add_7a177 5 none 6 1 S [.ref a, .int (J (i : Int)), .ref v] μ (fun r μ' => r = none ∧ μ' = sL μ a ((μ.2.2.2.2.2 a).insertIdx i v)) (fun _ _ => False) := by
  have hva : v ≠ a := fun e => by
    rw [e, hT] at hv
    cases hv
    rcases he with h | h <;> cases h
  refine cM_of (fun x C => ?_)
  have tail : ∀ (μ2 : Mem) (e2 c2 k n : Nat), oY w μ μ2 a (μ.2.2.2.2.2 a) e2 c2 → (μ.2.2.2.2.2 a).length < c2 → k ≤ 1 → n ≤ S → Z w x (zQ w x (fun r μ' => r = none ∧ μ' = sL μ a ((μ.2.2.2.2.2 a).insertIdx i v)) (fun _ _ => False) 1 S) 5 38 [(0, .ref a), (1, .int (J (i : Int))), (2, .ref v), (3, .int (J ((μ.2.2.2.2.2 a).length : Int))), (4, .ref e2)] [] μ2 k n := by
    intro μ2 e2 c2 k n h2 hc hk hn
    obtain ⟨g1, g2, g3, g4, g5, g6, g7, g8, g9, g10⟩ := id h2
    refine z_aload C dJx4a65c_add_7a177_38 rfl ?_
    refine z_iload_n C dJx4a65c_add_7a177_40 rfl ?_
    refine z_aload C dJx4a65c_add_7a177_41 rfl ?_
    refine z_iload_n C dJx4a65c_add_7a177_43 rfl ?_
    refine z_iconst C dJx4a65c_add_7a177_44 ?_
    refine z_iadd C dJx4a65c_add_7a177_45 ?_
    refine z_iload_n C dJx4a65c_add_7a177_46 rfl ?_
    refine z_iload_n C dJx4a65c_add_7a177_47 rfl ?_
    refine z_isub C dJx4a65c_add_7a177_48 ?_
    refine z_arraycopy C (ci := ci) qJ_cpyA dJx4a65c_add_7a177_49 g5 g5 (by omega) (by omega) he (fun j h1 h3 y hy => oY_el h2 hA hT he j (by omega) (by omega) y hy) ?_ (hd := ⟨Nat.le_of_ble_eq_true rfl, Nat.le_of_ble_eq_true rfl⟩)
    refine z_aload C dJx4a65c_add_7a177_52 rfl ?_
    refine z_iload_n C dJx4a65c_add_7a177_54 rfl ?_
    refine z_aload_n C dJx4a65c_add_7a177_55 rfl ?_
    have hv2 : μ2.1 v = some (ci, n1) := (g1 v _ hva hv).1
    refine z_aastore C dJx4a65c_add_7a177_56 g5 (by omega) he hv2 ?_
    have hT1 : (sQ (μ2.1, μ2.2.1, μ2.2.2.1, μ2.2.2.2.1, u1 μ2.2.2.2.2.1 e2 (uC (μ2.2.2.2.2.1 e2) (μ2.2.2.2.2.1 e2) (i : Int) ((i : Int) + 1) (((μ.2.2.2.2.2 a).length : Int) - (i : Int))), μ2.2.2.2.2.2) e2 (i : Int) (some v)).1 a = some (7, 0) := g2
    refine z_aload_n C dJx4a65c_add_7a177_57 rfl ?_
    refine z_iload_n C dJx4a65c_add_7a177_58 rfl ?_
    refine z_iconst C dJx4a65c_add_7a177_59 ?_
    refine z_iadd C dJx4a65c_add_7a177_60 ?_
    refine z_puti C qF_Jx4a65c_48 qW_7_2 dJx4a65c_add_7a177_61 (by assumption) ?_
    refine z_closeY C hT (oY_ins h2 hc hi) ?_
    exact z_vret C dJx4a65c_add_7a177_64 ⟨rfl, rfl⟩
  refine z_openY hT (fun μo hl0 h => ?_) (fun μo ed cap h => ?_)
  · obtain ⟨g1, g2, g3, g4, g5⟩ := id h
    have hi0 : i = 0 := by rw [hl0] at hi; exact Nat.le_zero.mp hi
    subst hi0
    refine z_aload_n C dJx4a65c_add_7a177_0 rfl ?_
    refine z_iload_n C dJx4a65c_add_7a177_1 rfl ?_
    refine z_callV C (c_rangeCheck w μo a 0 0 g2 g3 (by omega)) qM_Jx4a65c_135 dJx4a65c_add_7a177_2 rfl (zRc_o g2) (fun _ _ h => h.elim) ?_
    rintro r μ' ⟨rfl, rfl⟩
    refine z_aload_n C dJx4a65c_add_7a177_5 rfl ?_
    refine z_dup C dJx4a65c_add_7a177_6 ?_
    refine z_geti C qF_Jx4a65c_63 dJx4a65c_add_7a177_7 (by assumption) ?_
    refine z_iconst C dJx4a65c_add_7a177_10 ?_
    refine z_iadd C dJx4a65c_add_7a177_11 ?_
    refine z_puti C qF_Jx4a65c_63 qW_7_0 dJx4a65c_add_7a177_12 (by assumption) ?_
    obtain ⟨m, hm⟩ : ∃ m, m = μ'.2.1 7 0 a + 1 := ⟨_, rfl⟩
    rw [← hm]
    have h2 := oZ_mod (v := m) h
    obtain ⟨μ2, hμ2⟩ : ∃ μ2, μ2 = sI μ' 7 0 a m := ⟨_, rfl⟩
    rw [← hμ2] at h2 ⊢
    obtain ⟨k1, k2, k3, k4, -⟩ := id h2
    refine z_aload_n C dJx4a65c_add_7a177_15 rfl ?_
    refine z_geti C qF_Jx4a65c_48 dJx4a65c_add_7a177_16 (by assumption) ?_
    rw [show μ2.2.1 7 2 a = _ from k3]
    refine z_dup C dJx4a65c_add_7a177_19 ?_
    refine z_istore_n C dJx4a65c_add_7a177_20 ?_
    refine z_aload_n C dJx4a65c_add_7a177_21 rfl ?_
    refine z_getr C _ qF_Jx4a65c_9 dJx4a65c_add_7a177_22 (by assumption) (by assumption) ?_
    refine z_dup C dJx4a65c_add_7a177_25 ?_
    refine z_astore C dJx4a65c_add_7a177_26 ?_
    refine z_alenE C dJx4a65c_add_7a177_28 ?_
    refine z_icmp_ne (tgt := 38) C dJx4a65c_add_7a177_29 (by decide) (by omega) (fun g => ?_) (fun g => ?_)
    · exact absurd rfl g
    · refine z_aload_n C dJx4a65c_add_7a177_32 rfl ?_
      refine z_callV C (c_grow0Z S (by omega) w μ2 a k2 k4 k3) qM_Jx4a65c_129 dJx4a65c_add_7a177_33 rfl (zRc_o k2) (fun _ _ h => h.elim) ?_
      rintro r μ3 ⟨q, hq, hb, rfl, rfl⟩
      refine z_astore C dJx4a65c_add_7a177_36 ?_
      have h3 := oZ_grow h2 hq
      rw [← hl0] at h3
      have K := tail _ q 10 (0 + 0 + 1) (0 + 0 + S) h3 (by rw [hl0]; decide) (by decide) (by omega)
      rw [show ((μ.2.2.2.2.2 a).length : Int) = 0 by rw [hl0]; rfl] at K
      exact K
  · obtain ⟨g1, g2, g3, g4, g5, g6, g7, g8, g9, g10⟩ := id h
    refine z_aload_n C dJx4a65c_add_7a177_0 rfl ?_
    refine z_iload_n C dJx4a65c_add_7a177_1 rfl ?_
    refine z_callV C (c_rangeCheck w μo a i ((μ.2.2.2.2.2 a).length : Int) g2 g3 (by omega)) qM_Jx4a65c_135 dJx4a65c_add_7a177_2 rfl (zRc_o g2) (fun _ _ h => h.elim) ?_
    rintro r μ' ⟨rfl, rfl⟩
    refine z_aload_n C dJx4a65c_add_7a177_5 rfl ?_
    refine z_dup C dJx4a65c_add_7a177_6 ?_
    refine z_geti C qF_Jx4a65c_63 dJx4a65c_add_7a177_7 (by assumption) ?_
    refine z_iconst C dJx4a65c_add_7a177_10 ?_
    refine z_iadd C dJx4a65c_add_7a177_11 ?_
    refine z_puti C qF_Jx4a65c_63 qW_7_0 dJx4a65c_add_7a177_12 (by assumption) ?_
    obtain ⟨m, hm⟩ : ∃ m, m = μ'.2.1 7 0 a + 1 := ⟨_, rfl⟩
    rw [← hm]
    have h2 := oY_mod (v := m) h
    obtain ⟨μ2, hμ2⟩ : ∃ μ2, μ2 = sI μ' 7 0 a m := ⟨_, rfl⟩
    rw [← hμ2] at h2 ⊢
    obtain ⟨k1, k2, k3, k4, k5, k6, k7, k8, k9, k10⟩ := id h2
    refine z_aload_n C dJx4a65c_add_7a177_15 rfl ?_
    refine z_geti C qF_Jx4a65c_48 dJx4a65c_add_7a177_16 (by assumption) ?_
    rw [show μ2.2.1 7 2 a = _ from k3]
    refine z_dup C dJx4a65c_add_7a177_19 ?_
    refine z_istore_n C dJx4a65c_add_7a177_20 ?_
    refine z_aload_n C dJx4a65c_add_7a177_21 rfl ?_
    refine z_getr C _ qF_Jx4a65c_9 dJx4a65c_add_7a177_22 (by assumption) (by assumption) ?_
    refine z_dup C dJx4a65c_add_7a177_25 ?_
    refine z_astore C dJx4a65c_add_7a177_26 ?_
    refine z_alen C dJx4a65c_add_7a177_28 k5 (by omega) ?_
    refine z_icmp_ne (tgt := 38) C dJx4a65c_add_7a177_29 (by decide) (by omega) (fun g => ?_) (fun g => ?_)
    · refine tail μ2 ed cap _ _ h2 (by omega) (by decide) (by omega)
    · have hc : cap = (μ.2.2.2.2.2 a).length := by omega
      refine z_aload_n C dJx4a65c_add_7a177_32 rfl ?_
      refine z_callV C (c_grow0Y S w μ2 a ed cap ci k2 k4 k5 (by rw [hc]; exact k3) (by omega) he (by rw [hc]; exact oY_el h2 hA hT he)) qM_Jx4a65c_129 dJx4a65c_add_7a177_33 rfl (zRc_o k2) (fun _ _ h => h.elim) ?_
      rintro r μ3 ⟨q, N, hq, hb, rfl, hN, hN2, rfl⟩
      refine z_astore C dJx4a65c_add_7a177_36 ?_
      refine tail _ q N _ _ (oY_growY h2 hc hq ⟨hN, hN2, by omega⟩) (by omega) (by omega) (by omega)
