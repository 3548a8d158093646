/-! ArrayList's own code -/
theorem c_AC_init (w : Wd) (μ : Mem) (a : Nat) : cM w yJxa1e45_init_da8c8 cJxa1e45_init_da8c8 1 none 1 0 0 [.ref a] μ (fun v μ' => v = none ∧ μ' = μ) (fun _ _ => False) := by
  refine cM_of (fun x C => ?_)
  refine z_aload_n C dJxa1e45_init_da8c8_0 rfl ?_
  refine z_objInit C qM_Jxa1e45_1 qO_1 qO_2 dJxa1e45_init_da8c8_1 ?_
  exact z_vret C dJxa1e45_init_da8c8_4 ⟨rfl, rfl⟩
theorem c_AbL_init (w : Wd) (μ : Mem) (a : Nat) (hT : μ.1 a = some (7, 0)) : cM w yJxc12de_init_da8c8 cJxc12de_init_da8c8 1 none 2 0 0 [.ref a] μ (fun v μ' => v = none ∧ μ' = sI μ 7 0 a 0) (fun _ _ => False) := by
  refine cM_of (fun x C => ?_)
  refine z_aload_n C dJxc12de_init_da8c8_0 rfl ?_
  refine z_callI C (c_AC_init w μ a) qM_Jxc12de_1 dJxc12de_init_da8c8_1 rfl ?_
  rintro v μ' ⟨rfl, rfl⟩
  refine z_aload_n C dJxc12de_init_da8c8_4 rfl ?_
  refine z_iconst C dJxc12de_init_da8c8_5 ?_
  refine z_puti C qF_Jxc12de_7 qW_7_0 dJxc12de_init_da8c8_6 (by assumption) ?_
  exact z_vret C dJxc12de_init_da8c8_9 ⟨rfl, rfl⟩
/-- a new list: empty -/
theorem c_AL_init (w : Wd) (μ : Mem) (a : Nat) (hT : μ.1 a = some (7, 0)) (hz : μ.2.1 7 2 a = 0) : cM w yJx4a65c_init_da8c8 cJx4a65c_init_da8c8 1 none 3 0 0 [.ref a] μ (fun v μ' => v = none ∧ μ' = sT (sL μ a []) a (some (24, 0))) (fun _ _ => False) := by
  refine cM_of (fun x C => ?_)
  refine z_aload_n C dJx4a65c_init_da8c8_0 rfl ?_
  refine z_callI C (c_AbL_init w μ a hT) qM_Jx4a65c_1 dJx4a65c_init_da8c8_1 rfl ?_
  rintro v μ' ⟨rfl, rfl⟩
  have hT1 : (sI μ 7 0 a 0).1 a = some (7, 0) := hT
  refine z_aload_n C dJx4a65c_init_da8c8_4 rfl ?_
  refine z_gets C dJx4a65c_init_da8c8_5 ?_
  refine z_putq (v := some (wE w)) C qF_Jx4a65c_9 qW_7_1 dJx4a65c_init_da8c8_8 hT1 ?_
  refine z_close (n0 := 0) C (sT (sL μ a []) a (some (24, 0))) (wE w) 0 (u1_s _ _ _) hT (fun b kb hb hTb => ?_) (u3_s μ.2.2.1 7 1 a (some (wE w))) ?_ (Or.inl ⟨rfl, u1_s _ _ _⟩) (fun b kb hb hTb => ⟨fun c k => ?_, fun c k => ?_, rfl, rfl, u1_n _ _ hb⟩) ?_
  · rw [← u1_n μ.1 (some (24, 0)) hb]
    exact hTb
  · have e1 : (sT (sL μ a []) a (some (24, 0))).2.2.2.2.2 a = [] := u1_s _ _ _
    rw [e1]
    show u3 μ.2.1 7 0 a 0 7 2 a = _
    rw [u3_k _ _ _ _ _ _ _ (by decide)]
    exact hz
  · exact (u3_a _ _ _ _ _ hb).symm
  · exact (u3_a _ _ _ _ _ hb).symm
  · exact z_vret C dJx4a65c_init_da8c8_11 ⟨rfl, rfl⟩
theorem c_size (w : Wd) (μ : Mem) (a n0 : Nat) (hT : μ.1 a = some (24, n0)) : cM w yJx4a65c_size_8abf5 cJx4a65c_size_8abf5 1 (some .int) 1 0 0 [.ref a] μ (fun v μ' => v = some (.int (J ((μ.2.2.2.2.2 a).length : Int))) ∧ μ' = μ) (fun _ _ => False) := by
  refine cM_of (fun x C => ?_)
  refine z_aload_n C dJx4a65c_size_8abf5_0 rfl ?_
  refine z_openY hT (fun μo hl h => ?_) (fun μo ed cap h => ?_)
  · have h2 := h.2.1
    refine z_geti C qF_Jx4a65c_48 dJx4a65c_size_8abf5_1 (by assumption) ?_
    have e : μo.2.1 7 2 a = ((μ.2.2.2.2.2 a).length : Int) := by rw [hl]; exact h.2.2.1
    rw [show μo.2.1 7 2 a = _ from e]
    refine z_closeZ C hT h ?_
    refine z_iret C dJx4a65c_size_8abf5_4 ⟨rfl, ?_⟩
    rw [← hl]
    exact sL_self
  · have h2 := h.2.1
    refine z_geti C qF_Jx4a65c_48 dJx4a65c_size_8abf5_1 (by assumption) ?_
    rw [show μo.2.1 7 2 a = _ from h.2.2.1]
    refine z_closeY C hT h ?_
    exact z_iret C dJx4a65c_size_8abf5_4 ⟨rfl, sL_self⟩
theorem c_elementData (w : Wd) (μ : Mem) (a ed cap : Nat) (i : Int) (hT : μ.1 a = some (7, 0)) (hr : μ.2.2.1 7 1 a = some ed) (hT2 : μ.1 ed = some (25, cap)) (hi : 0 ≤ i ∧ i < (cap : Int) ∧ cap ≤ 100000) : cM w yJx4a65c_elementData_915e3 cJx4a65c_elementData_915e3 2 (some (.object "java/lang/Object")) 1 0 0 [.ref a, .int (J i)] μ (fun v μ' => v = some (va_rf (μ.2.2.2.2.1 ed i)) ∧ μ' = μ) (fun _ _ => False) := by
  refine cM_of (fun x C => ?_)
  refine z_aload_n C dJx4a65c_elementData_915e3_0 rfl ?_
  refine z_getr C _ qF_Jx4a65c_9 dJx4a65c_elementData_915e3_1 (by assumption) (by assumption) ?_
  refine z_iload_n C dJx4a65c_elementData_915e3_4 rfl ?_
  refine z_aaloadO C dJx4a65c_elementData_915e3_5 hT2 (by omega) ?_
  exact z_aret C dJx4a65c_elementData_915e3_6 ⟨rfl, rfl⟩
theorem c_get (w : Wd) (μ : Mem) (a n0 : Nat) (i : Nat) (hT : μ.1 a = some (24, n0)) (hi : i < (μ.2.2.2.2.2 a).length) (hl : (μ.2.2.2.2.2 a).length ≤ 100000) : cM w yJx4a65c_get_915e3 cJx4a65c_get_915e3 2 (some (.object "java/lang/Object")) 3 0 0 [.ref a, .int (J (i : Int))] μ (fun v μ' => v = some (va_rf (μ.2.2.2.2.2 a)[i]?) ∧ μ' = μ) (fun _ _ => False) := by
  refine cM_of (fun x C => ?_)
  refine z_iload_n C dJx4a65c_get_915e3_0 rfl ?_
  refine z_aload_n C dJx4a65c_get_915e3_1 rfl ?_
  refine z_openY hT (fun μo hl h => ?_) (fun μo ed cap h => ?_)
  · rw [hl] at hi
    exact absurd hi (Nat.not_lt_zero _)
  · have h2 := h.2.1
    refine z_geti C qF_Jx4a65c_48 dJx4a65c_get_915e3_2 (by assumption) ?_
    rw [show μo.2.1 7 2 a = _ from h.2.2.1]
    refine z_callS C (c_checkIndex w μo (i : Int) ((μ.2.2.2.2.2 a).length : Int) (by omega)) qM_Jx4a65c_118 dJx4a65c_get_915e3_5 rfl (fun _ _ h => h.elim) ?_
    rintro v μ' ⟨rfl, rfl⟩
    refine z_pop C dJx4a65c_get_915e3_8 ?_
    refine z_aload_n C dJx4a65c_get_915e3_9 rfl ?_
    refine z_iload_n C dJx4a65c_get_915e3_10 rfl ?_
    obtain ⟨g1, g2, g3, g4, g5, g6, g7, g8, g9, g10⟩ := id h
    refine z_callV C (c_elementData w μ' a ed cap (i : Int) g2 g4 g5 (by omega)) qM_Jx4a65c_123 dJx4a65c_get_915e3_11 rfl (zRc_o g2) (fun _ _ h => h.elim) ?_
    rintro v μ2 ⟨rfl, rfl⟩
    rw [g10 i hi]
    refine z_closeY C hT h ?_
    exact z_aret C dJx4a65c_get_915e3_14 ⟨rfl, sL_self⟩

/-- grow(int), the shared empty array -/
theorem c_growZ (S : Nat) (hS : 10 ≤ S ∧ S ≤ 1600) (w : Wd) (μ : Mem) (a : Nat) (hT : μ.1 a = some (7, 0)) (hr : μ.2.2.1 7 1 a = some (wE w)) : cM w yJx4a65c_grow_92f84 cJx4a65c_grow_92f84 4 (some (.array (.object "java/lang/Object"))) 4 1 S [.ref a, .int (J 1)] μ (fun v μ' => ∃ q, μ.1 q = none ∧ wb w ≤ q ∧ v = some (.ref q) ∧ μ' = sR (sN μ q (25, 10)) 7 1 a (some q)) (fun _ _ => False) := by
  refine cM_of (fun x C => ?_)
  refine z_aload_n C dJx4a65c_grow_92f84_0 rfl ?_
  refine z_getr C _ qF_Jx4a65c_9 dJx4a65c_grow_92f84_1 (by assumption) (by assumption) ?_
  refine z_alenE C dJx4a65c_grow_92f84_4 ?_
  refine z_istore_n C dJx4a65c_grow_92f84_5 ?_
  refine z_iload_n C dJx4a65c_grow_92f84_6 rfl ?_
  refine z_if_gt (tgt := 20) C dJx4a65c_grow_92f84_7 (by decide) (by omega) (fun g => ?_) (fun g => ?_)
  · omega
  · refine z_aload_n C dJx4a65c_grow_92f84_10 rfl ?_
    refine z_getr C _ qF_Jx4a65c_9 dJx4a65c_grow_92f84_11 (by assumption) (by assumption) ?_
    refine z_gets C dJx4a65c_grow_92f84_14 ?_
    refine z_acmp_eq (a := some (wE w)) (b := some (wE w)) (tgt := 45) C dJx4a65c_grow_92f84_17 (by decide) (fun _ => ?_) (fun g => absurd rfl g)
    refine z_aload_n C dJx4a65c_grow_92f84_45 rfl ?_
    refine z_bipush C dJx4a65c_grow_92f84_46 ?_
    refine z_iload_n C dJx4a65c_grow_92f84_48 rfl ?_
    refine z_max C qJ_m3 dJx4a65c_grow_92f84_49 (by omega) ⟨Nat.le_of_ble_eq_true rfl, Nat.zero_le _⟩ ?_ (hd := ⟨Nat.le_of_ble_eq_true rfl, Nat.le_of_ble_eq_true rfl⟩)
    refine z_newO C 10 dJx4a65c_grow_92f84_52 rfl (by decide) qC_Jx4a65c_7 (Nat.le_of_ble_eq_true rfl) (by show 0 + 10 ≤ S; omega) (fun q hq hb => ?_)
    have hqa : a ≠ q := fun e => by rw [e, hq] at hT; cases hT
    have hT1 : (sN μ q (25, 10)).1 a = some (7, 0) := by
      show u1 μ.1 q _ a = _
      rw [u1_n _ _ hqa]
      exact hT
    refine z_dup_x1 C dJx4a65c_grow_92f84_55 ?_
    refine z_putq (v := some q) C qF_Jx4a65c_9 qW_7_1 dJx4a65c_grow_92f84_56 hT1 ?_
    exact z_aret C dJx4a65c_grow_92f84_59 ⟨q, hq, hb, rfl, rfl⟩
/-- grow(int), a full array: another, half as large again -/
theorem c_growY (S : Nat) (w : Wd) (μ : Mem) (a ed cap ci : Nat) (hT : μ.1 a = some (7, 0)) (hr : μ.2.2.1 7 1 a = some ed) (hT2 : μ.1 ed = some (25, cap)) (hc : 1 ≤ cap ∧ cap + cap / 2 + 1 ≤ S ∧ S ≤ 1600) (he : zEl ci) (hel : ∀ j : Int, 0 ≤ j → j < (cap : Int) → ∀ y, μ.2.2.2.2.1 ed j = some y → ∃ n0, μ.1 y = some (ci, n0)) : cM w yJx4a65c_grow_92f84 cJx4a65c_grow_92f84 4 (some (.array (.object "java/lang/Object"))) 4 1 S [.ref a, .int (J ((cap : Int) + 1))] μ (fun v μ' => ∃ q N, μ.1 q = none ∧ wb w ≤ q ∧ v = some (.ref q) ∧ cap < N ∧ N ≤ S ∧ μ' = sR (nG μ q N (uC (μ.2.2.2.2.1 ed) (fun _ => none) 0 0 cap)) 7 1 a (some q)) (fun _ _ => False) := by
  refine cM_of (fun x C => ?_)
  refine z_aload_n C dJx4a65c_grow_92f84_0 rfl ?_
  refine z_getr C _ qF_Jx4a65c_9 dJx4a65c_grow_92f84_1 (by assumption) (by assumption) ?_
  refine z_alen C dJx4a65c_grow_92f84_4 hT2 (by omega) ?_
  refine z_istore_n C dJx4a65c_grow_92f84_5 ?_
  refine z_iload_n C dJx4a65c_grow_92f84_6 rfl ?_
  refine z_if_gt (tgt := 20) C dJx4a65c_grow_92f84_7 (by decide) (by omega) (fun g => ?_) (fun g => ?_)
  · refine z_iload_n C dJx4a65c_grow_92f84_20 rfl ?_
    refine z_iload_n C dJx4a65c_grow_92f84_21 rfl ?_
    refine z_iload_n C dJx4a65c_grow_92f84_22 rfl ?_
    refine z_isub C dJx4a65c_grow_92f84_23 ?_
    refine z_iload_n C dJx4a65c_grow_92f84_24 rfl ?_
    refine z_iconst C dJx4a65c_grow_92f84_25 ?_
    refine z_ishr C ((cap : Int) / 2) ?_ dJx4a65c_grow_92f84_26 ?_
    · exact J_ishr 1 (by decide) (by omega) (by omega)
    refine z_callS C (c_newLength w μ (cap : Int) ((cap : Int) + 1 - (cap : Int)) ((cap : Int) / 2) (by omega) (by omega) (by omega)) qM_Jx4a65c_73 dJx4a65c_grow_92f84_27 rfl (fun _ _ h => h.elim) ?_
    rintro v μ' ⟨rfl, rfl⟩
    obtain ⟨N, hN⟩ : ∃ N : Nat, (N : Int) = (cap : Int) + if (cap : Int) + 1 - (cap : Int) < (cap : Int) / 2 then (cap : Int) / 2 else (cap : Int) + 1 - (cap : Int) := ⟨cap + if 1 < cap / 2 then cap / 2 else 1, by split <;> split <;> omega⟩
    rw [← hN]
    have hN2 : cap < N ∧ N ≤ S := by
      split at hN <;> omega
    refine z_istore_n C dJx4a65c_grow_92f84_30 ?_
    refine z_aload_n C dJx4a65c_grow_92f84_31 rfl ?_
    refine z_aload_n C dJx4a65c_grow_92f84_32 rfl ?_
    refine z_getr C _ qF_Jx4a65c_9 dJx4a65c_grow_92f84_33 (by assumption) (by assumption) ?_
    refine z_iload_n C dJx4a65c_grow_92f84_36 rfl ?_
    refine z_callS C (c_copyOf2 S w μ' ed cap N ci hT2 (by omega) he hel) qM_Jx4a65c_66 dJx4a65c_grow_92f84_37 rfl (fun _ _ h => h.elim) ?_
    rintro v μ2 ⟨q, hq, hb, rfl, rfl⟩
    have hqa : a ≠ q := fun e => by rw [e, hq] at hT; cases hT
    have hT1 : (nG μ' q N (uC (μ'.2.2.2.2.1 ed) (fun _ => none) 0 0 cap)).1 a = some (7, 0) := by
      show u1 μ'.1 q _ a = _
      rw [u1_n _ _ hqa]
      exact hT
    refine z_dup_x1 C dJx4a65c_grow_92f84_40 ?_
    refine z_putq (v := some q) C qF_Jx4a65c_9 qW_7_1 dJx4a65c_grow_92f84_41 hT1 ?_
    exact z_aret C dJx4a65c_grow_92f84_44 ⟨q, N, hq, hb, rfl, hN2.1, hN2.2, rfl⟩
  · omega
