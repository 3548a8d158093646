/-! the helpers, one by one -/
theorem h_write (w : Wd) (μ : Mem) (G : Nat → Nat) (N : Int) (s : Sg) (o : Nat) (p : Int) (hR : Rc μ G s) (hO : okS N s) (ho : outS μ G o) (h0 : in32 p) : cH w yL_write cL_write 4 (some .int) 9 [(eA, 13, 12), (eS, 15, 15)] 13 30 1000 [.ref (G 0), .int (J p), .ref o] μ (hP G o μ (spWrite p s)) := by
  obtain ⟨r, hr⟩ : ∃ r, r = spWrite p s := ⟨_, rfl⟩
  have K := c_write w μ G N s p hR hO h0
  rw [← hr] at K ⊢
  refine cH_of (fun x C hT => ?_)
  refine z_aload_n C dL_write_0 rfl ?_
  refine z_iconst C dL_write_1 ?_
  refine z_aload_n C dL_write_2 rfl ?_
  refine z_iload_n C dL_write_3 rfl ?_
  refine z_callVH C hT K qM_L_7 dL_write_4 rfl (zRc_o (Rc_g0 hR)) (hk_cons (hk_A _) (hk_cons (hk_S _) hk_nil)) (by decide) (fun E μ' hE => ?_) ?_
  · obtain ⟨hE, hR', hF⟩ := hE
    simp only [List.mem_cons, Prod.mk.injEq, List.not_mem_nil, or_false] at hE
    rcases hE with ⟨rfl, hc⟩ | ⟨rfl, hc⟩
    · refine ⟨12, by decide, fun q => ?_⟩
      refine z_astore_n C dL_write_12 ?_
      refine z_iconst C dL_write_13 ?_
      exact z_iret C dL_write_14 (hP_er ho hc (by decide) hR' hF)
    · refine ⟨15, by decide, fun q => ?_⟩
      refine z_astore_n C dL_write_15 ?_
      refine z_iconst C dL_write_16 ?_
      exact z_iret C dL_write_17 (hP_er ho hc (by decide) hR' hF)
  · rintro v μ1 ⟨h9, rfl, hR1, hF1⟩
    obtain ⟨z, hz, hz2⟩ := J_nm r.2.1
    have ho1 := outS_Fc ho hF1
    rw [hz]
    refine z_i2l C dL_write_7 hz2 ?_
    refine z_lastore (i := 0) C dL_write_8 ho1.1 (by decide) ?_
    refine z_goto (tgt := 18) C dL_write_9 (by decide) ?_
    refine z_iconst C dL_write_18 ?_
    exact z_iret C dL_write_19 (hP_ok ho h9 hz hz2 hR1 hF1)
theorem h_numberAt (w : Wd) (μ : Mem) (G : Nat → Nat) (N : Int) (s : Sg) (o : Nat) (p : Int) (hR : Rc μ G s) (hO : okS N s) (ho : outS μ G o) (h0 : in32 p) : cH w yL_numberAt cL_numberAt 4 (some .int) 9 [(eX, 20, 12)] 13 30 1000 [.ref (G 0), .int (J p), .ref o] μ (hP G o μ (spNum p s)) := by
  obtain ⟨r, hr⟩ : ∃ r, r = spNum p s := ⟨_, rfl⟩
  have K := c_numberAt w μ G N s p hR hO h0
  rw [← hr] at K ⊢
  refine cH_of (fun x C hT => ?_)
  refine z_aload_n C dL_numberAt_0 rfl ?_
  refine z_iconst C dL_numberAt_1 ?_
  refine z_aload_n C dL_numberAt_2 rfl ?_
  refine z_iload_n C dL_numberAt_3 rfl ?_
  refine z_callVH C hT K qM_L_17 dL_numberAt_4 rfl (zRc_o (Rc_g0 hR)) (hk_cons (hk_X _) hk_nil) (by decide) (fun E μ' hE => ?_) ?_
  · obtain ⟨hE, hR', hF⟩ := hE
    simp only [List.mem_cons, Prod.mk.injEq, List.not_mem_nil, or_false] at hE
    obtain ⟨rfl, hc⟩ := hE
    refine ⟨12, by decide, fun q => ?_⟩
    refine z_astore_n C dL_numberAt_12 ?_
    refine z_iconst C dL_numberAt_13 ?_
    exact z_iret C dL_numberAt_14 (hP_er ho hc (by decide) hR' hF)
  · rintro v μ1 ⟨h9, rfl, hR1, hF1⟩
    obtain ⟨z, hz, hz2⟩ := J_nm r.2.1
    have ho1 := outS_Fc ho hF1
    rw [hz]
    refine z_i2l C dL_numberAt_7 hz2 ?_
    refine z_lastore (i := 0) C dL_numberAt_8 ho1.1 (by decide) ?_
    refine z_goto (tgt := 15) C dL_numberAt_9 (by decide) ?_
    refine z_iconst C dL_numberAt_15 ?_
    exact z_iret C dL_numberAt_16 (hP_ok ho h9 hz hz2 hR1 hF1)
theorem h_put (w : Wd) (μ : Mem) (G : Nat → Nat) (N : Int) (s : Sg) (o : Nat) (p p1 p2 : Int) (hR : Rc μ G s) (hO : okS N s) (ho : outS μ G o) (h0 : in32 p) (h1 : in32 p1) (h2 : in32 p2) : cH w yL_put cL_put 6 (some .int) 12 [(eX, 20, 15), (eA, 13, 19), (eS, 15, 23)] 13 30 1000 [.ref (G 0), .int (J p), .int (J p1), .int (J p2), .ref o] μ (hP G o μ (spPut p p1 p2 s)) := by
  obtain ⟨r, hr⟩ : ∃ r, r = spPut p p1 p2 s := ⟨_, rfl⟩
  have K := c_put w μ G N s p p1 p2 hR hO h0 h1 h2
  rw [← hr] at K ⊢
  refine cH_of (fun x C hT => ?_)
  refine z_aload C dL_put_0 rfl ?_
  refine z_iconst C dL_put_2 ?_
  refine z_aload_n C dL_put_3 rfl ?_
  refine z_iload_n C dL_put_4 rfl ?_
  refine z_iload_n C dL_put_5 rfl ?_
  refine z_iload_n C dL_put_6 rfl ?_
  refine z_callVH C hT K qM_L_22 dL_put_7 rfl (zRc_o (Rc_g0 hR)) (hk_cons (hk_X _) (hk_cons (hk_A _) (hk_cons (hk_S _) hk_nil))) (by decide) (fun E μ' hE => ?_) ?_
  · obtain ⟨hE, hR', hF⟩ := hE
    simp only [List.mem_cons, Prod.mk.injEq, List.not_mem_nil, or_false] at hE
    rcases hE with ⟨rfl, hc⟩ | ⟨rfl, hc⟩ | ⟨rfl, hc⟩
    · refine ⟨15, by decide, fun q => ?_⟩
      refine z_astore C dL_put_15 ?_
      refine z_iconst C dL_put_17 ?_
      exact z_iret C dL_put_18 (hP_er ho hc (by decide) hR' hF)
    · refine ⟨19, by decide, fun q => ?_⟩
      refine z_astore C dL_put_19 ?_
      refine z_iconst C dL_put_21 ?_
      exact z_iret C dL_put_22 (hP_er ho hc (by decide) hR' hF)
    · refine ⟨23, by decide, fun q => ?_⟩
      refine z_astore C dL_put_23 ?_
      refine z_iconst C dL_put_25 ?_
      exact z_iret C dL_put_26 (hP_er ho hc (by decide) hR' hF)
  · rintro v μ1 ⟨h9, rfl, hR1, hF1⟩
    obtain ⟨z, hz, hz2⟩ := J_nm r.2.1
    have ho1 := outS_Fc ho hF1
    rw [hz]
    refine z_i2l C dL_put_10 hz2 ?_
    refine z_lastore (i := 0) C dL_put_11 ho1.1 (by decide) ?_
    refine z_goto (tgt := 27) C dL_put_12 (by decide) ?_
    refine z_iconst C dL_put_27 ?_
    exact z_iret C dL_put_28 (hP_ok ho h9 hz hz2 hR1 hF1)
theorem h_remove (w : Wd) (μ : Mem) (G : Nat → Nat) (N : Int) (s : Sg) (o : Nat) (p : Int) (hR : Rc μ G s) (hO : okS N s) (ho : outS μ G o) (h0 : in32 p) : cH w yL_remove cL_remove 4 (some .int) 9 [(eX, 20, 12)] 13 30 1000 [.ref (G 0), .int (J p), .ref o] μ (hP G o μ (spRemove p s)) := by
  obtain ⟨r, hr⟩ : ∃ r, r = spRemove p s := ⟨_, rfl⟩
  have K := c_remove2 w μ G N s p hR hO h0
  rw [← hr] at K ⊢
  refine cH_of (fun x C hT => ?_)
  refine z_aload_n C dL_remove_0 rfl ?_
  refine z_iconst C dL_remove_1 ?_
  refine z_aload_n C dL_remove_2 rfl ?_
  refine z_iload_n C dL_remove_3 rfl ?_
  refine z_callVH C hT K qM_L_26 dL_remove_4 rfl (zRc_o (Rc_g0 hR)) (hk_cons (hk_X _) hk_nil) (by decide) (fun E μ' hE => ?_) ?_
  · obtain ⟨hE, hR', hF⟩ := hE
    simp only [List.mem_cons, Prod.mk.injEq, List.not_mem_nil, or_false] at hE
    obtain ⟨rfl, hc⟩ := hE
    refine ⟨12, by decide, fun q => ?_⟩
    refine z_astore_n C dL_remove_12 ?_
    refine z_iconst C dL_remove_13 ?_
    exact z_iret C dL_remove_14 (hP_er ho hc (by decide) hR' hF)
  · rintro v μ1 ⟨h9, rfl, hR1, hF1⟩
    obtain ⟨z, hz, hz2⟩ := J_nm r.2.1
    have ho1 := outS_Fc ho hF1
    rw [hz]
    refine z_i2l C dL_remove_7 hz2 ?_
    refine z_lastore (i := 0) C dL_remove_8 ho1.1 (by decide) ?_
    refine z_goto (tgt := 15) C dL_remove_9 (by decide) ?_
    refine z_iconst C dL_remove_15 ?_
    exact z_iret C dL_remove_16 (hP_ok ho h9 hz hz2 hR1 hF1)
theorem h_change (w : Wd) (μ : Mem) (G : Nat → Nat) (N : Int) (s : Sg) (o : Nat) (p p1 : Int) (hR : Rc μ G s) (hO : okS N s) (ho : outS μ G o) (h0 : in32 p) (h1 : in32 p1) : cH w yL_change cL_change 5 (some .int) 10 [(eX, 20, 13), (eA, 13, 17), (eS, 15, 21)] 13 30 1000 [.ref (G 0), .int (J p), .int (J p1), .ref o] μ (hP G o μ (spChange p p1 s)) := by
  obtain ⟨r, hr⟩ : ∃ r, r = spChange p p1 s := ⟨_, rfl⟩
  have K := c_change w μ G N s p p1 hR hO h0 h1
  rw [← hr] at K ⊢
  refine cH_of (fun x C hT => ?_)
  refine z_aload_n C dL_change_0 rfl ?_
  refine z_iconst C dL_change_1 ?_
  refine z_aload_n C dL_change_2 rfl ?_
  refine z_iload_n C dL_change_3 rfl ?_
  refine z_iload_n C dL_change_4 rfl ?_
  refine z_callVH C hT K qM_L_29 dL_change_5 rfl (zRc_o (Rc_g0 hR)) (hk_cons (hk_X _) (hk_cons (hk_A _) (hk_cons (hk_S _) hk_nil))) (by decide) (fun E μ' hE => ?_) ?_
  · obtain ⟨hE, hR', hF⟩ := hE
    simp only [List.mem_cons, Prod.mk.injEq, List.not_mem_nil, or_false] at hE
    rcases hE with ⟨rfl, hc⟩ | ⟨rfl, hc⟩ | ⟨rfl, hc⟩
    · refine ⟨13, by decide, fun q => ?_⟩
      refine z_astore C dL_change_13 ?_
      refine z_iconst C dL_change_15 ?_
      exact z_iret C dL_change_16 (hP_er ho hc (by decide) hR' hF)
    · refine ⟨17, by decide, fun q => ?_⟩
      refine z_astore C dL_change_17 ?_
      refine z_iconst C dL_change_19 ?_
      exact z_iret C dL_change_20 (hP_er ho hc (by decide) hR' hF)
    · refine ⟨21, by decide, fun q => ?_⟩
      refine z_astore C dL_change_21 ?_
      refine z_iconst C dL_change_23 ?_
      exact z_iret C dL_change_24 (hP_er ho hc (by decide) hR' hF)
  · rintro v μ1 ⟨h9, rfl, hR1, hF1⟩
    obtain ⟨z, hz, hz2⟩ := J_nm r.2.1
    have ho1 := outS_Fc ho hF1
    rw [hz]
    refine z_i2l C dL_change_8 hz2 ?_
    refine z_lastore (i := 0) C dL_change_9 ho1.1 (by decide) ?_
    refine z_goto (tgt := 25) C dL_change_10 (by decide) ?_
    refine z_iconst C dL_change_25 ?_
    exact z_iret C dL_change_26 (hP_ok ho h9 hz hz2 hR1 hF1)
theorem h_get (w : Wd) (μ : Mem) (G : Nat → Nat) (N : Int) (s : Sg) (o : Nat) (p : Int) (hR : Rc μ G s) (hO : okS N s) (ho : outS μ G o) (h0 : in32 p) : cH w yL_get cL_get 4 (some .int) 9 [(eX, 20, 12)] 13 30 1000 [.ref (G 0), .int (J p), .ref o] μ (hP G o μ (spGet p s)) := by
  obtain ⟨r, hr⟩ : ∃ r, r = spGet p s := ⟨_, rfl⟩
  have K := c_get2 w μ G N s p hR hO h0
  rw [← hr] at K ⊢
  refine cH_of (fun x C hT => ?_)
  refine z_aload_n C dL_get_0 rfl ?_
  refine z_iconst C dL_get_1 ?_
  refine z_aload_n C dL_get_2 rfl ?_
  refine z_iload_n C dL_get_3 rfl ?_
  refine z_callVH C hT K qM_L_33 dL_get_4 rfl (zRc_o (Rc_g0 hR)) (hk_cons (hk_X _) hk_nil) (by decide) (fun E μ' hE => ?_) ?_
  · obtain ⟨hE, hR', hF⟩ := hE
    simp only [List.mem_cons, Prod.mk.injEq, List.not_mem_nil, or_false] at hE
    obtain ⟨rfl, hc⟩ := hE
    refine ⟨12, by decide, fun q => ?_⟩
    refine z_astore_n C dL_get_12 ?_
    refine z_iconst C dL_get_13 ?_
    exact z_iret C dL_get_14 (hP_er ho hc (by decide) hR' hF)
  · rintro v μ1 ⟨h9, rfl, hR1, hF1⟩
    obtain ⟨z, hz, hz2⟩ := J_nm r.2.1
    have ho1 := outS_Fc ho hF1
    rw [hz]
    refine z_i2l C dL_get_7 hz2 ?_
    refine z_lastore (i := 0) C dL_get_8 ho1.1 (by decide) ?_
    refine z_goto (tgt := 15) C dL_get_9 (by decide) ?_
    refine z_iconst C dL_get_15 ?_
    exact z_iret C dL_get_16 (hP_ok ho h9 hz hz2 hR1 hF1)
theorem h_next (w : Wd) (μ : Mem) (G : Nat → Nat) (N : Int) (s : Sg) (o : Nat) (p : Int) (hR : Rc μ G s) (hO : okS N s) (ho : outS μ G o) (h0 : in32 p) : cH w yL_next cL_next 4 (some .int) 9 [(eX, 20, 12)] 13 30 1000 [.ref (G 0), .int (J p), .ref o] μ (hP G o μ (spNext p s)) := by
  obtain ⟨r, hr⟩ : ∃ r, r = spNext p s := ⟨_, rfl⟩
  have K := c_next w μ G N s p hR hO h0
  rw [← hr] at K ⊢
  refine cH_of (fun x C hT => ?_)
  refine z_aload_n C dL_next_0 rfl ?_
  refine z_iconst C dL_next_1 ?_
  refine z_aload_n C dL_next_2 rfl ?_
  refine z_iload_n C dL_next_3 rfl ?_
  refine z_callVH C hT K qM_L_36 dL_next_4 rfl (zRc_o (Rc_g0 hR)) (hk_cons (hk_X _) hk_nil) (by decide) (fun E μ' hE => ?_) ?_
  · obtain ⟨hE, hR', hF⟩ := hE
    simp only [List.mem_cons, Prod.mk.injEq, List.not_mem_nil, or_false] at hE
    obtain ⟨rfl, hc⟩ := hE
    refine ⟨12, by decide, fun q => ?_⟩
    refine z_astore_n C dL_next_12 ?_
    refine z_iconst C dL_next_13 ?_
    exact z_iret C dL_next_14 (hP_er ho hc (by decide) hR' hF)
  · rintro v μ1 ⟨h9, rfl, hR1, hF1⟩
    obtain ⟨z, hz, hz2⟩ := J_nm r.2.1
    have ho1 := outS_Fc ho hF1
    rw [hz]
    refine z_i2l C dL_next_7 hz2 ?_
    refine z_lastore (i := 0) C dL_next_8 ho1.1 (by decide) ?_
    refine z_goto (tgt := 15) C dL_next_9 (by decide) ?_
    refine z_iconst C dL_next_15 ?_
    exact z_iret C dL_next_16 (hP_ok ho h9 hz hz2 hR1 hF1)
theorem h_bulk (w : Wd) (μ : Mem) (G : Nat → Nat) (N : Int) (s : Sg) (o : Nat) (p p1 : Int) (hR : Rc μ G s) (hO : okS N s) (ho : outS μ G o) (h0 : in32 p) (h1 : in32 p1) : cH w yL_bulk cL_bulk 5 (some .int) 10 [(eX, 20, 13), (eA, 13, 17)] 13 30 1000 [.ref (G 0), .int (J p), .int (J p1), .ref o] μ (hP G o μ (spBulk p p1 s)) := by
  obtain ⟨r, hr⟩ : ∃ r, r = spBulk p p1 s := ⟨_, rfl⟩
  have K := c_bulk w μ G N s p p1 hR hO h0 h1
  rw [← hr] at K ⊢
  refine cH_of (fun x C hT => ?_)
  refine z_aload_n C dL_bulk_0 rfl ?_
  refine z_iconst C dL_bulk_1 ?_
  refine z_aload_n C dL_bulk_2 rfl ?_
  refine z_iload_n C dL_bulk_3 rfl ?_
  refine z_iload_n C dL_bulk_4 rfl ?_
  refine z_callVH C hT K qM_L_39 dL_bulk_5 rfl (zRc_o (Rc_g0 hR)) (hk_cons (hk_X _) (hk_cons (hk_A _) hk_nil)) (by decide) (fun E μ' hE => ?_) ?_
  · obtain ⟨hE, hR', hF⟩ := hE
    simp only [List.mem_cons, Prod.mk.injEq, List.not_mem_nil, or_false] at hE
    rcases hE with ⟨rfl, hc⟩ | ⟨rfl, hc⟩
    · refine ⟨13, by decide, fun q => ?_⟩
      refine z_astore C dL_bulk_13 ?_
      refine z_iconst C dL_bulk_15 ?_
      exact z_iret C dL_bulk_16 (hP_er ho hc (by decide) hR' hF)
    · refine ⟨17, by decide, fun q => ?_⟩
      refine z_astore C dL_bulk_17 ?_
      refine z_iconst C dL_bulk_19 ?_
      exact z_iret C dL_bulk_20 (hP_er ho hc (by decide) hR' hF)
  · rintro v μ1 ⟨h9, rfl, hR1, hF1⟩
    obtain ⟨z, hz, hz2⟩ := J_nm r.2.1
    have ho1 := outS_Fc ho hF1
    rw [hz]
    refine z_i2l C dL_bulk_8 hz2 ?_
    refine z_lastore (i := 0) C dL_bulk_9 ho1.1 (by decide) ?_
    refine z_goto (tgt := 21) C dL_bulk_10 (by decide) ?_
    refine z_iconst C dL_bulk_21 ?_
    exact z_iret C dL_bulk_22 (hP_ok ho h9 hz hz2 hR1 hF1)
theorem h_nextBySorting (w : Wd) (μ : Mem) (G : Nat → Nat) (N : Int) (s : Sg) (o : Nat) (p : Int) (hR : Rc μ G s) (hO : okS N s) (ho : outS μ G o) (h0 : in32 p) : cH w yL_nextBySorting cL_nextBySorting 4 (some .int) 9 [(eX, 20, 12)] 13 30 1000 [.ref (G 0), .int (J p), .ref o] μ (hP G o μ (spSort p s)) := by
  obtain ⟨r, hr⟩ : ∃ r, r = spSort p s := ⟨_, rfl⟩
  have K := c_nextBySorting w μ G N s p hR hO h0
  rw [← hr] at K ⊢
  refine cH_of (fun x C hT => ?_)
  refine z_aload_n C dL_nextBySorting_0 rfl ?_
  refine z_iconst C dL_nextBySorting_1 ?_
  refine z_aload_n C dL_nextBySorting_2 rfl ?_
  refine z_iload_n C dL_nextBySorting_3 rfl ?_
  refine z_callVH C hT K qM_L_42 dL_nextBySorting_4 rfl (zRc_o (Rc_g0 hR)) (hk_cons (hk_X _) hk_nil) (by decide) (fun E μ' hE => ?_) ?_
  · obtain ⟨hE, hR', hF⟩ := hE
    simp only [List.mem_cons, Prod.mk.injEq, List.not_mem_nil, or_false] at hE
    obtain ⟨rfl, hc⟩ := hE
    refine ⟨12, by decide, fun q => ?_⟩
    refine z_astore_n C dL_nextBySorting_12 ?_
    refine z_iconst C dL_nextBySorting_13 ?_
    exact z_iret C dL_nextBySorting_14 (hP_er ho hc (by decide) hR' hF)
  · rintro v μ1 ⟨h9, rfl, hR1, hF1⟩
    obtain ⟨z, hz, hz2⟩ := J_nm r.2.1
    have ho1 := outS_Fc ho hF1
    rw [hz]
    refine z_i2l C dL_nextBySorting_7 hz2 ?_
    refine z_lastore (i := 0) C dL_nextBySorting_8 ho1.1 (by decide) ?_
    refine z_goto (tgt := 15) C dL_nextBySorting_9 (by decide) ?_
    refine z_iconst C dL_nextBySorting_15 ?_
    exact z_iret C dL_nextBySorting_16 (hP_ok ho h9 hz hz2 hR1 hF1)
theorem h_hide (w : Wd) (μ : Mem) (G : Nat → Nat) (N : Int) (s : Sg) (o : Nat) (p p1 : Int) (hR : Rc μ G s) (hO : okS N s) (ho : outS μ G o) (h0 : in32 p) (h1 : in32 p1) : cH w yL_hide cL_hide 5 (some .int) 10 [(eX, 20, 13), (eS, 15, 17)] 13 30 1000 [.ref (G 0), .int (J p), .int (J p1), .ref o] μ (hP G o μ (spHide p p1 s)) := by
  obtain ⟨r, hr⟩ : ∃ r, r = spHide p p1 s := ⟨_, rfl⟩
  have K := c_hide w μ G N s p p1 hR hO h0 h1
  rw [← hr] at K ⊢
  refine cH_of (fun x C hT => ?_)
  refine z_aload_n C dL_hide_0 rfl ?_
  refine z_iconst C dL_hide_1 ?_
  refine z_aload_n C dL_hide_2 rfl ?_
  refine z_iload_n C dL_hide_3 rfl ?_
  refine z_iload_n C dL_hide_4 rfl ?_
  refine z_callVH C hT K qM_L_45 dL_hide_5 rfl (zRc_o (Rc_g0 hR)) (hk_cons (hk_X _) (hk_cons (hk_S _) hk_nil)) (by decide) (fun E μ' hE => ?_) ?_
  · obtain ⟨hE, hR', hF⟩ := hE
    simp only [List.mem_cons, Prod.mk.injEq, List.not_mem_nil, or_false] at hE
    rcases hE with ⟨rfl, hc⟩ | ⟨rfl, hc⟩
    · refine ⟨13, by decide, fun q => ?_⟩
      refine z_astore C dL_hide_13 ?_
      refine z_iconst C dL_hide_15 ?_
      exact z_iret C dL_hide_16 (hP_er ho hc (by decide) hR' hF)
    · refine ⟨17, by decide, fun q => ?_⟩
      refine z_astore C dL_hide_17 ?_
      refine z_iconst C dL_hide_19 ?_
      exact z_iret C dL_hide_20 (hP_er ho hc (by decide) hR' hF)
  · rintro v μ1 ⟨h9, rfl, hR1, hF1⟩
    obtain ⟨z, hz, hz2⟩ := J_nm r.2.1
    have ho1 := outS_Fc ho hF1
    rw [hz]
    refine z_i2l C dL_hide_8 hz2 ?_
    refine z_lastore (i := 0) C dL_hide_9 ho1.1 (by decide) ?_
    refine z_goto (tgt := 21) C dL_hide_10 (by decide) ?_
    refine z_iconst C dL_hide_21 ?_
    exact z_iret C dL_hide_22 (hP_ok ho h9 hz hz2 hR1 hF1)
