/-! the class's paths: ints of four bits a place -/
def hA (p i : Int) : Int := if i = 0 then p / 4096 % 16 else if i = 1 then p / 256 % 16 else if i = 2 then p / 16 % 16 else p % 16
def ln16 (p : Int) : Int := if hA p 0 = 0 then 0 else if hA p 1 = 0 then 1 else if hA p 2 = 0 then 2 else if hA p 3 = 0 then 3 else 4
/-- the first i places -/
def hd16 (p i : Int) : Int := if i = 0 then 0 else if i = 1 then p / 4096 * 4096 else if i = 2 then p / 256 * 256 else if i = 3 then p / 16 * 16 else p
theorem hA_in (p i : Int) : 0 ≤ hA p i ∧ hA p i < 16 := by
  unfold hA
  split
  · omega
  split
  · omega
  split
  · omega
  · omega
set_option maxRecDepth 20000 in
theorem c_bitsBehind (w : Wd) (μ : Mem) (z : Int) : cM w yX5_bitsBehind cX5_bitsBehind 1 (some .int) 1 0 0 [.int (J z)] μ (fun v μ' => v = some (.int (J (4 * (4 - z)))) ∧ μ' = μ) (fun _ _ => False) := by
  refine cM_of (fun x C => ?_)
  refine z_iconst C dX5_bitsBehind_0 ?_
  refine z_iconst C dX5_bitsBehind_1 ?_
  refine z_iload_n C dX5_bitsBehind_2 rfl ?_
  refine z_isub C dX5_bitsBehind_3 ?_
  refine z_imul C dX5_bitsBehind_4 ?_
  exact z_iret C dX5_bitsBehind_5 ⟨rfl, rfl⟩
theorem c_heldAt (w : Wd) (μ : Mem) (p i : Int) (hp : 0 ≤ p ∧ p < 65536) (hi : 0 ≤ i ∧ i < 4) : cM w yX5_heldAt cX5_heldAt 2 (some .int) 2 0 0 [.int (J p), .int (J i)] μ (fun v μ' => v = some (.int (J (hA p i))) ∧ μ' = μ) (fun _ _ => False) := by
  refine cM_of (fun x C => ?_)
  refine z_iload_n C dX5_heldAt_0 rfl ?_
  refine z_iload_n C dX5_heldAt_1 rfl ?_
  refine z_iconst C dX5_heldAt_2 ?_
  refine z_iadd C dX5_heldAt_3 ?_
  refine z_callS C (c_bitsBehind w μ _) qM_X5_49 dX5_heldAt_4 rfl (fun _ _ h => h.elim) ?_
  rintro v μ' ⟨rfl, rfl⟩
  have hs : J p >>> (J (4 * (4 - (i + 1))) &&& 31) = J (if i = 0 then p / 4096 else if i = 1 then p / 256 else if i = 2 then p / 16 else p) := by
    rcases (by omega : i = 0 ∨ i = 1 ∨ i = 2 ∨ i = 3) with rfl | rfl | rfl | rfl
    · exact J_ishr 12 (by decide) (by omega) (by omega)
    · exact J_ishr 8 (by decide) (by omega) (by omega)
    · exact J_ishr 4 (by decide) (by omega) (by omega)
    · rw [show J (4 * (4 - (3 + 1))) = J ((0 : Nat) : Int) from rfl, J_ishr 0 (by decide) (by omega) (by omega)]
      congr 1
      omega
  refine z_ishr C _ hs dX5_heldAt_7 ?_
  refine z_bipush C dX5_heldAt_8 ?_
  have hs2 : J (if i = 0 then p / 4096 else if i = 1 then p / 256 else if i = 2 then p / 16 else p) &&& J 15 = J (hA p i) := by
    rw [J_and _ 4 (by decide) (by decide)]
    congr 1
    unfold hA
    rcases (by omega : i = 0 ∨ i = 1 ∨ i = 2 ∨ i = 3) with rfl | rfl | rfl | rfl <;> simp
  refine z_iand C _ hs2 dX5_heldAt_10 ?_
  exact z_iret C dX5_heldAt_11 ⟨rfl, rfl⟩
theorem c_lengthOf (w : Wd) (μ : Mem) (p : Int) (hp : 0 ≤ p ∧ p < 65536) : cM w yX5_lengthOf cX5_lengthOf 2 (some .int) 3 0 0 [.int (J p)] μ (fun v μ' => v = some (.int (J (ln16 p))) ∧ μ' = μ) (fun _ _ => False) := by
  refine cM_of (fun x C => ?_)
  refine z_iconst C dX5_lengthOf_0 ?_
  refine z_istore_n C dX5_lengthOf_1 ?_
  have loop : ∀ (m : Nat) (i : Int), 0 ≤ i → i + m = 4 → (∀ j, 0 ≤ j → j < i → hA p j ≠ 0) → Z w x (zQ w x (fun v μ' => v = some (.int (J (ln16 p))) ∧ μ' = μ) (fun _ _ => False) 0 0) 2 2 [(0, .int (J p)), (1, .int (J i))] [] μ 0 0 := by
    intro m
    induction m with
    | zero =>
      intro i h0 h1 h2
      refine z_iload_n C dX5_lengthOf_2 rfl ?_
      refine z_iconst C dX5_lengthOf_3 ?_
      refine z_icmp_ge (tgt := 21) C dX5_lengthOf_4 (by decide) (by omega) (fun h => ?_) (fun h => ?_)
      · refine z_iload_n C dX5_lengthOf_21 rfl ?_
        refine z_iret C dX5_lengthOf_22 ⟨?_, rfl⟩
        have e : ln16 p = i := by
          unfold ln16
          rw [if_neg (h2 0 (by omega) (by omega)), if_neg (h2 1 (by omega) (by omega)), if_neg (h2 2 (by omega) (by omega)), if_neg (h2 3 (by omega) (by omega))]
          omega
        rw [e]
      · omega
    | succ m ih =>
      intro i h0 h1 h2
      refine z_iload_n C dX5_lengthOf_2 rfl ?_
      refine z_iconst C dX5_lengthOf_3 ?_
      refine z_icmp_ge (tgt := 21) C dX5_lengthOf_4 (by decide) (by omega) (fun h => ?_) (fun h => ?_)
      · omega
      · refine z_iload_n C dX5_lengthOf_7 rfl ?_
        refine z_iload_n C dX5_lengthOf_8 rfl ?_
        refine z_callS C (c_heldAt w μ p i hp (by omega)) qM_X5_57 dX5_lengthOf_9 rfl (fun _ _ h => h.elim) ?_
        rintro v μ' ⟨rfl, rfl⟩
        have hb := hA_in p i
        refine z_if_eq (tgt := 21) C dX5_lengthOf_12 (by decide) (by omega) (fun h3 => ?_) (fun h3 => ?_)
        · refine z_iload_n C dX5_lengthOf_21 rfl ?_
          refine z_iret C dX5_lengthOf_22 ⟨?_, rfl⟩
          have e : ln16 p = i := by
            unfold ln16
            rcases (by omega : i = 0 ∨ i = 1 ∨ i = 2 ∨ i = 3) with rfl | rfl | rfl | rfl
            · rw [if_pos h3]
            · rw [if_neg (h2 0 (by omega) (by omega)), if_pos h3]
            · rw [if_neg (h2 0 (by omega) (by omega)), if_neg (h2 1 (by omega) (by omega)), if_pos h3]
            · rw [if_neg (h2 0 (by omega) (by omega)), if_neg (h2 1 (by omega) (by omega)), if_neg (h2 2 (by omega) (by omega)), if_pos h3]
          rw [e]
        · refine z_iinc C dX5_lengthOf_15 rfl ?_
          refine z_goto (tgt := 2) C dX5_lengthOf_18 (by decide) ?_
          refine ih (i + 1) (by omega) (by omega) (fun j g1 g2 => ?_)
          by_cases e : j = i
          · rw [e]; exact h3
          · exact h2 j g1 (by omega)
  exact loop 4 0 (by omega) (by omega) (fun j g1 g2 => by omega)
theorem c_headOf (w : Wd) (μ : Mem) (p i : Int) (hp : 0 ≤ p ∧ p < 65536) (hi : 0 ≤ i ∧ i ≤ 4) : cM w yX5_headOf cX5_headOf 3 (some .int) 2 0 0 [.int (J p), .int (J i)] μ (fun v μ' => v = some (.int (J (hd16 p i))) ∧ μ' = μ) (fun _ _ => False) := by
  refine cM_of (fun x C => ?_)
  refine z_iload_n C dX5_headOf_0 rfl ?_
  refine z_callS C (c_bitsBehind w μ _) qM_X5_49 dX5_headOf_1 rfl (fun _ _ h => h.elim) ?_
  rintro v μ' ⟨rfl, rfl⟩
  refine z_istore_n C dX5_headOf_4 ?_
  refine z_iload_n C dX5_headOf_5 rfl ?_
  refine z_iload_n C dX5_headOf_6 rfl ?_
  have hs : J p >>> (J (4 * (4 - i)) &&& 31) = J (if i = 0 then 0 else if i = 1 then p / 4096 else if i = 2 then p / 256 else if i = 3 then p / 16 else p) := by
    rcases (by omega : i = 0 ∨ i = 1 ∨ i = 2 ∨ i = 3 ∨ i = 4) with rfl | rfl | rfl | rfl | rfl
    · rw [show J (4 * (4 - 0)) = J ((16 : Nat) : Int) from rfl, J_ishr 16 (by decide) (by omega) (by omega)]
      congr 1
      simp
      omega
    · exact J_ishr 12 (by decide) (by omega) (by omega)
    · exact J_ishr 8 (by decide) (by omega) (by omega)
    · exact J_ishr 4 (by decide) (by omega) (by omega)
    · rw [show J (4 * (4 - 4)) = J ((0 : Nat) : Int) from rfl, J_ishr 0 (by decide) (by omega) (by omega)]
      congr 1
      omega
  refine z_ishr C _ hs dX5_headOf_7 ?_
  refine z_iload_n C dX5_headOf_8 rfl ?_
  have hs2 : J (if i = 0 then 0 else if i = 1 then p / 4096 else if i = 2 then p / 256 else if i = 3 then p / 16 else p) <<< (J (4 * (4 - i)) &&& 31) = J (hd16 p i) := by
    unfold hd16
    rcases (by omega : i = 0 ∨ i = 1 ∨ i = 2 ∨ i = 3 ∨ i = 4) with rfl | rfl | rfl | rfl | rfl
    · exact J_ishl 16 (by decide) (by simp) (by simp)
    · exact J_ishl 12 (by decide) (by simp; omega) (by simp; omega)
    · exact J_ishl 8 (by decide) (by simp; omega) (by simp; omega)
    · exact J_ishl 4 (by decide) (by simp; omega) (by simp; omega)
    · rw [show J (4 * (4 - 4)) = J ((0 : Nat) : Int) from rfl, J_ishl 0 (by decide) (by simp; omega) (by simp; omega)]
      congr 1
      simp
  refine z_ishl C _ hs2 dX5_headOf_9 ?_
  exact z_iret C dX5_headOf_10 ⟨rfl, rfl⟩
