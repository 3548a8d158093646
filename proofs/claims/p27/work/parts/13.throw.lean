theorem zth_of {L : List Cond} (h : L.all (fun q => decide (q ∈ tables_1) && (goodWord q || zoW q)) = true) : ∀ q ∈ L, q ∈ GT ∨ q ∈ OT := by
  intro q hq
  have h1 := List.all_eq_true.mp h q hq
  simp only [Bool.and_eq_true, Bool.or_eq_true, decide_eq_true_eq] at h1
  rcases h1.2 with g | g
  · exact Or.inl (gt_t h1.1 g)
  · exact Or.inr (ot_t h1.1 g)
theorem zth_ot {L : List Cond} (h : L.all vx_ot = true) : ∀ q ∈ L, vx_ot q = true := fun q hq => List.all_eq_true.mp h q hq
theorem qT_X : zTh RX5 52 56 "java/lang/IndexOutOfBoundsException" := ⟨qC_X5_52, gt_t (by decide +kernel) rfl, zth_of (by decide +kernel), zth_ot (by decide +kernel), by decide +kernel⟩
theorem qT_A : zTh RX5 33 37 "java/lang/IllegalArgumentException" := ⟨qC_X5_33, gt_t (by decide +kernel) rfl, zth_of (by decide +kernel), zth_ot (by decide +kernel), by decide +kernel⟩
theorem qT_S : zTh RX5 44 48 "java/lang/IllegalStateException" := ⟨qC_X5_44, gt_t (by decide +kernel) rfl, zth_of (by decide +kernel), zth_ot (by decide +kernel), by decide +kernel⟩
