/-! what is made anew: items, marks, samples, traps -/
/-- all but the cell q is as it was -/
def off (q : Nat) (μ μ' : Mem) : Prop := ∀ a, a ≠ q → μ'.1 a = μ.1 a ∧ (∀ c k, μ'.2.1 c k a = μ.2.1 c k a) ∧ (∀ c k, μ'.2.2.1 c k a = μ.2.2.1 c k a) ∧ μ'.2.2.2.1 a = μ.2.2.2.1 a ∧ μ'.2.2.2.2.1 a = μ.2.2.2.2.1 a ∧ μ'.2.2.2.2.2 a = μ.2.2.2.2.2 a
theorem off_N {μ : Mem} {q : Nat} {kd : Nat × Nat} : off q μ (sN μ q kd) := fun a h => ⟨u1_n _ _ h, fun _ _ => u0_n _ _ _ _ h, fun _ _ => u0_n _ _ _ _ h, u1_n _ _ h, u1_n _ _ h, rfl⟩
theorem off_I {μ μ' : Mem} {q c k : Nat} {v : Int} (h : off q μ μ') : off q μ (sI μ' c k q v) := fun a ha => ⟨(h a ha).1, fun _ _ => (u3_a _ _ _ _ _ ha).trans ((h a ha).2.1 _ _), (h a ha).2.2⟩
theorem off_R {μ μ' : Mem} {q c k : Nat} {v : Option Nat} (h : off q μ μ') : off q μ (sR μ' c k q v) := fun a ha => ⟨(h a ha).1, (h a ha).2.1, fun _ _ => (u3_a _ _ _ _ _ ha).trans ((h a ha).2.2.1 _ _), (h a ha).2.2.2⟩
/-- a new item at q -/
def nwI (μ μ' : Mem) (q : Nat) (p k v : Int) : Prop := μ.1 q = none ∧ off q μ μ' ∧ μ'.1 q = some (1, 0) ∧ μ'.2.1 1 0 q = p ∧ μ'.2.1 1 1 q = k ∧ μ'.2.1 1 2 q = v ∧ μ'.2.2.1 1 3 q = none ∧ μ'.2.2.1 1 4 q = none ∧ μ'.2.2.1 1 5 q = none
/-- new marks, a new sample, a new trap at q -/
def nwM (μ μ' : Mem) (q : Nat) (lo hi : Int) : Prop := μ.1 q = none ∧ off q μ μ' ∧ μ'.1 q = some (2, 0) ∧ μ'.2.1 2 0 q = lo ∧ μ'.2.1 2 1 q = hi ∧ μ'.2.1 2 2 q = 1
def nwS (μ μ' : Mem) (q : Nat) (a b c : Int) : Prop := μ.1 q = none ∧ off q μ μ' ∧ μ'.1 q = some (3, 0) ∧ μ'.2.1 3 0 q = a ∧ μ'.2.1 3 1 q = b ∧ μ'.2.1 3 2 q = c
def nwT (μ μ' : Mem) (q : Nat) (a p m : Int) : Prop := μ.1 q = none ∧ off q μ μ' ∧ μ'.1 q = some (4, 0) ∧ μ'.2.1 4 0 q = a ∧ μ'.2.1 4 1 q = p ∧ μ'.2.1 4 2 q = m ∧ μ'.2.1 4 3 q = 0
theorem c_X1_init (w : Wd) (μ : Mem) (q : Nat) (p k v : Int) (hq : μ.1 q = none) : cM w yX1_init cX1_init 4 none 1 0 0 [.ref q, .int (J p), .int (J k), .int (J v)] (sN μ q (1, 0)) (fun r μ' => r = none ∧ nwI μ μ' q p k v) (fun _ _ => False) := by
  have hT : (sN μ q (1, 0)).1 q = some (1, 0) := u1_s _ _ _
  refine cM_of (fun x C => ?_)
  refine z_aload_n C dX1_init_0 rfl ?_
  refine z_objInit C qM_X1_1 (gt_t (by decide +kernel) rfl) (gt_t (by decide +kernel) rfl) dX1_init_1 ?_
  refine z_aload_n C dX1_init_4 rfl ?_
  refine z_iload_n C dX1_init_5 rfl ?_
  refine z_puti C qF_X1_7 qW_1_0 dX1_init_6 (by assumption) ?_
  refine z_aload_n C dX1_init_9 rfl ?_
  refine z_iload_n C dX1_init_10 rfl ?_
  refine z_puti C qF_X1_13 qW_1_1 dX1_init_11 (by assumption) ?_
  refine z_aload_n C dX1_init_14 rfl ?_
  refine z_iload_n C dX1_init_15 rfl ?_
  refine z_puti C qF_X1_16 qW_1_2 dX1_init_16 (by assumption) ?_
  refine z_aload_n C dX1_init_19 rfl ?_
  refine z_null C dX1_init_20 ?_
  refine z_putq (v := none) C qF_X1_19 qW_1_3 dX1_init_21 hT ?_
  refine z_aload_n C dX1_init_24 rfl ?_
  refine z_null C dX1_init_25 ?_
  refine z_putq (v := none) C qF_X1_23 qW_1_4 dX1_init_26 hT ?_
  refine z_aload_n C dX1_init_29 rfl ?_
  refine z_null C dX1_init_30 ?_
  refine z_putq (v := none) C qF_X1_27 qW_1_5 dX1_init_31 hT ?_
  refine z_vret C dX1_init_34 ⟨rfl, hq, off_R (off_R (off_R (off_I (off_I (off_I off_N))))), hT, ?_⟩
  simp [u3, u0]
theorem c_X2_init (w : Wd) (μ : Mem) (q : Nat) (lo hi : Int) (hq : μ.1 q = none) : cM w yX2_init cX2_init 3 none 1 0 0 [.ref q, .int (J lo), .int (J hi)] (sN μ q (2, 0)) (fun r μ' => r = none ∧ nwM μ μ' q lo hi) (fun _ _ => False) := by
  have hT : (sN μ q (2, 0)).1 q = some (2, 0) := u1_s _ _ _
  refine cM_of (fun x C => ?_)
  refine z_aload_n C dX2_init_0 rfl ?_
  refine z_objInit C qM_X2_1 (gt_t (by decide +kernel) rfl) (gt_t (by decide +kernel) rfl) dX2_init_1 ?_
  refine z_aload_n C dX2_init_4 rfl ?_
  refine z_iload_n C dX2_init_5 rfl ?_
  refine z_puti C qF_X2_7 qW_2_0 dX2_init_6 (by assumption) ?_
  refine z_aload_n C dX2_init_9 rfl ?_
  refine z_iload_n C dX2_init_10 rfl ?_
  refine z_puti C qF_X2_13 qW_2_1 dX2_init_11 (by assumption) ?_
  refine z_aload_n C dX2_init_14 rfl ?_
  refine z_iconst C dX2_init_15 ?_
  refine z_putz (v := 1) C qF_X2_16 qW_2_2 dX2_init_16 hT (Or.inr rfl) ?_
  refine z_vret C dX2_init_19 ⟨rfl, hq, off_I (off_I (off_I off_N)), hT, ?_⟩
  simp [u3, u0]
theorem c_X3_init (w : Wd) (μ : Mem) (q : Nat) (a b c : Int) (hq : μ.1 q = none) : cM w yX3_init cX3_init 4 none 1 0 0 [.ref q, .int (J a), .int (J b), .int (J c)] (sN μ q (3, 0)) (fun r μ' => r = none ∧ nwS μ μ' q a b c) (fun _ _ => False) := by
  have hT : (sN μ q (3, 0)).1 q = some (3, 0) := u1_s _ _ _
  refine cM_of (fun x C => ?_)
  refine z_aload_n C dX3_init_0 rfl ?_
  refine z_objInit C qM_X3_1 (gt_t (by decide +kernel) rfl) (gt_t (by decide +kernel) rfl) dX3_init_1 ?_
  refine z_aload_n C dX3_init_4 rfl ?_
  refine z_iload_n C dX3_init_5 rfl ?_
  refine z_puti C qF_X3_7 qW_3_0 dX3_init_6 (by assumption) ?_
  refine z_aload_n C dX3_init_9 rfl ?_
  refine z_iload_n C dX3_init_10 rfl ?_
  refine z_puti C qF_X3_13 qW_3_1 dX3_init_11 (by assumption) ?_
  refine z_aload_n C dX3_init_14 rfl ?_
  refine z_iload_n C dX3_init_15 rfl ?_
  refine z_puti C qF_X3_16 qW_3_2 dX3_init_16 (by assumption) ?_
  refine z_vret C dX3_init_19 ⟨rfl, hq, off_I (off_I (off_I off_N)), hT, ?_⟩
  simp [u3, u0]
theorem c_X4_init (w : Wd) (μ : Mem) (q : Nat) (a b c : Int) (hq : μ.1 q = none) : cM w yX4_init cX4_init 4 none 1 0 0 [.ref q, .int (J a), .int (J b), .int (J c)] (sN μ q (4, 0)) (fun r μ' => r = none ∧ nwT μ μ' q a b c) (fun _ _ => False) := by
  have hT : (sN μ q (4, 0)).1 q = some (4, 0) := u1_s _ _ _
  refine cM_of (fun x C => ?_)
  refine z_aload_n C dX4_init_0 rfl ?_
  refine z_objInit C qM_X4_1 (gt_t (by decide +kernel) rfl) (gt_t (by decide +kernel) rfl) dX4_init_1 ?_
  refine z_aload_n C dX4_init_4 rfl ?_
  refine z_iload_n C dX4_init_5 rfl ?_
  refine z_puti C qF_X4_7 qW_4_0 dX4_init_6 (by assumption) ?_
  refine z_aload_n C dX4_init_9 rfl ?_
  refine z_iload_n C dX4_init_10 rfl ?_
  refine z_puti C qF_X4_13 qW_4_1 dX4_init_11 (by assumption) ?_
  refine z_aload_n C dX4_init_14 rfl ?_
  refine z_iload_n C dX4_init_15 rfl ?_
  refine z_puti C qF_X4_16 qW_4_2 dX4_init_16 (by assumption) ?_
  refine z_aload_n C dX4_init_19 rfl ?_
  refine z_iconst C dX4_init_20 ?_
  refine z_puti C qF_X4_19 qW_4_3 dX4_init_21 hT ?_
  refine z_vret C dX4_init_24 ⟨rfl, hq, off_I (off_I (off_I (off_I off_N))), hT, ?_⟩
  simp [u3, u0]
/-- Marks.fireAt -/
def mkS (μ : Mem) (m : Nat) : Prop := (∃ n0, μ.1 m = some (2, n0)) ∧ (0 ≤ μ.2.1 2 0 m ∧ μ.2.1 2 0 m ≤ 999) ∧ (0 ≤ μ.2.1 2 1 m ∧ μ.2.1 2 1 m ≤ 999) ∧ (μ.2.1 2 2 m = 0 ∨ μ.2.1 2 2 m = 1)
def fires (μ : Mem) (m : Nat) (v : Int) : Bool := decide (μ.2.1 2 2 m ≠ 0 ∧ μ.2.1 2 1 m ≤ v)
def arms (μ : Mem) (m : Nat) (v : Int) : Int := if fires μ m v = true then 0 else if v ≤ μ.2.1 2 0 m then 1 else μ.2.1 2 2 m
theorem sI_self {μ : Mem} {c k a : Nat} : sI μ c k a (μ.2.1 c k a) = μ := by
  show (_, _, _) = μ
  rw [show u3 μ.2.1 c k a (μ.2.1 c k a) = μ.2.1 by funext c' k' a'; simp only [u3]; split <;> rename_i h1; split <;> rename_i h2; split <;> rename_i h3; subst h1; subst h2; subst h3; rfl; rfl; rfl; rfl]
theorem c_fireAt (w : Wd) (μ : Mem) (m : Nat) (v : Int) (hM : mkS μ m) (hv : 0 ≤ v ∧ v ≤ 999) : cM w yX2_fireAt cX2_fireAt 2 (some .boolean) 1 0 0 [.ref m, .int (J v)] μ (fun r μ' => r = some (.int (J (zB (fires μ m v)))) ∧ μ' = sI μ 2 2 m (arms μ m v)) (fun _ _ => False) := by
  obtain ⟨⟨n0, h1⟩, h2, h3, h4⟩ := hM
  refine cM_of (fun x C => ?_)
  have low : fires μ m v = false → Z w x (zQ w x (fun r μ' => r = some (.int (J (zB (fires μ m v)))) ∧ μ' = sI μ 2 2 m (arms μ m v)) (fun _ _ => False) 0 0) 2 22 [(0, .ref m), (1, .int (J v))] [] μ 0 0 := by
    intro hf
    refine z_iload_n C dX2_fireAt_22 rfl ?_
    refine z_aload_n C dX2_fireAt_23 rfl ?_
    refine z_geti C qF_X2_7 dX2_fireAt_24 (by assumption) ?_
    refine z_icmp_gt (tgt := 35) C dX2_fireAt_27 (by decide) (by omega) (fun g => ?_) (fun g => ?_)
    · refine z_iconst C dX2_fireAt_35 ?_
      refine z_zret C (v := 0) dX2_fireAt_36 (Or.inl rfl) ⟨by rw [hf]; rfl, ?_⟩
      rw [show arms μ m v = μ.2.1 2 2 m by unfold arms; rw [hf, if_neg (by decide), if_neg (by omega)]]
      exact sI_self.symm
    · refine z_aload_n C dX2_fireAt_30 rfl ?_
      refine z_iconst C dX2_fireAt_31 ?_
      refine z_putz (v := 1) C qF_X2_16 qW_2_2 dX2_fireAt_32 h1 (Or.inr rfl) ?_
      refine z_iconst C dX2_fireAt_35 ?_
      refine z_zret C (v := 0) dX2_fireAt_36 (Or.inl rfl) ⟨by rw [hf]; rfl, ?_⟩
      rw [show arms μ m v = 1 by unfold arms; rw [hf, if_neg (by decide), if_pos g]]
  refine z_aload_n C dX2_fireAt_0 rfl ?_
  refine z_geti C qF_X2_16 dX2_fireAt_1 (by assumption) ?_
  refine z_if_eq (tgt := 22) C dX2_fireAt_4 (by decide) (by omega) (fun g => ?_) (fun g => ?_)
  · exact low (by simp [fires, g])
  · refine z_iload_n C dX2_fireAt_7 rfl ?_
    refine z_aload_n C dX2_fireAt_8 rfl ?_
    refine z_geti C qF_X2_13 dX2_fireAt_9 (by assumption) ?_
    refine z_icmp_lt (tgt := 22) C dX2_fireAt_12 (by decide) (by omega) (fun g2 => ?_) (fun g2 => ?_)
    · refine low ?_
      simp only [fires]
      rw [decide_eq_false]
      omega
    · refine z_aload_n C dX2_fireAt_15 rfl ?_
      refine z_iconst C dX2_fireAt_16 ?_
      have hf : fires μ m v = true := decide_eq_true ⟨g, g2⟩
      refine z_putz (v := 0) C qF_X2_16 qW_2_2 dX2_fireAt_17 h1 (Or.inl rfl) ?_
      refine z_iconst C dX2_fireAt_20 ?_
      refine z_zret C (v := 1) dX2_fireAt_21 (Or.inr rfl) ⟨by rw [hf]; rfl, ?_⟩
      rw [show arms μ m v = 0 by unfold arms; rw [hf, if_pos rfl]]
