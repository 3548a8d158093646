theorem h_seen (w : Wd) (μ : Mem) (G : Nat → Nat) (N : Int) (s : Sg) (o : Nat) (p : Int) (hR : Rc μ G s) (hO : okS N s) (ho : outS μ G o) (h0 : in32 p) : cH w yL_seen cL_seen 4 (some .int) 9 [(eX, 20, 12)] 13 30 1000 [.ref (G 0), .int (J p), .ref o] μ (hP G o μ (spSeen p s)) := by
  obtain ⟨r, hr⟩ : ∃ r, r = spSeen p s := ⟨_, rfl⟩
  have K := c_seen w μ G N s p hR hO h0
  rw [← hr] at K ⊢
  refine cH_of (fun x C hT => ?_)
  refine z_aload_n C dL_seen_0 rfl ?_
  refine z_iconst C dL_seen_1 ?_
  refine z_aload_n C dL_seen_2 rfl ?_
  refine z_iload_n C dL_seen_3 rfl ?_
  refine z_callVH C hT K qM_L_48 dL_seen_4 rfl (zRc_o (Rc_g0 hR)) (hk_cons (hk_X _) hk_nil) (by decide) (fun E μ' hE => ?_) ?_
  · obtain ⟨hE, hR', hF⟩ := hE
    simp only [List.mem_cons, Prod.mk.injEq, List.not_mem_nil, or_false] at hE
    obtain ⟨rfl, hc⟩ := hE
    refine ⟨12, by decide, fun q => ?_⟩
    refine z_astore_n C dL_seen_12 ?_
    refine z_iconst C dL_seen_13 ?_
    exact z_iret C dL_seen_14 (hP_er ho hc (by decide) hR' hF)
  · rintro v μ1 ⟨h9, rfl, hR1, hF1⟩
    obtain ⟨z, hz, hz2⟩ := J_nm r.2.1
    have ho1 := outS_Fc ho hF1
    rw [hz]
    refine z_i2l C dL_seen_7 hz2 ?_
    refine z_lastore (i := 0) C dL_seen_8 ho1.1 (by decide) ?_
    refine z_goto (tgt := 15) C dL_seen_9 (by decide) ?_
    refine z_iconst C dL_seen_15 ?_
    exact z_iret C dL_seen_16 (hP_ok ho h9 hz hz2 hR1 hF1)
theorem h_sample (w : Wd) (μ : Mem) (G : Nat → Nat) (N : Int) (s : Sg) (o : Nat) (p : Int) (hR : Rc μ G s) (hO : okS N s) (ho : outS μ G o) (h0 : in32 p) : cH w yL_sample cL_sample 4 (some .int) 9 [(eX, 20, 12), (eS, 15, 15)] 13 30 1000 [.ref (G 0), .int (J p), .ref o] μ (hP G o μ (spSample p s)) := by
  obtain ⟨r, hr⟩ : ∃ r, r = spSample p s := ⟨_, rfl⟩
  have K := c_sample w μ G N s p hR hO h0
  rw [← hr] at K ⊢
  refine cH_of (fun x C hT => ?_)
  refine z_aload_n C dL_sample_0 rfl ?_
  refine z_iconst C dL_sample_1 ?_
  refine z_aload_n C dL_sample_2 rfl ?_
  refine z_iload_n C dL_sample_3 rfl ?_
  refine z_callVH C hT K qM_L_51 dL_sample_4 rfl (zRc_o (Rc_g0 hR)) (hk_cons (hk_X _) (hk_cons (hk_S _) hk_nil)) (by decide) (fun E μ' hE => ?_) ?_
  · obtain ⟨hE, hR', hF⟩ := hE
    simp only [List.mem_cons, Prod.mk.injEq, List.not_mem_nil, or_false] at hE
    rcases hE with ⟨rfl, hc⟩ | ⟨rfl, hc⟩
    · refine ⟨12, by decide, fun q => ?_⟩
      refine z_astore_n C dL_sample_12 ?_
      refine z_iconst C dL_sample_13 ?_
      exact z_iret C dL_sample_14 (hP_er ho hc (by decide) hR' hF)
    · refine ⟨15, by decide, fun q => ?_⟩
      refine z_astore_n C dL_sample_15 ?_
      refine z_iconst C dL_sample_16 ?_
      exact z_iret C dL_sample_17 (hP_er ho hc (by decide) hR' hF)
  · rintro v μ1 ⟨h9, rfl, hR1, hF1⟩
    obtain ⟨z, hz, hz2⟩ := J_nm r.2.1
    have ho1 := outS_Fc ho hF1
    rw [hz]
    refine z_i2l C dL_sample_7 hz2 ?_
    refine z_lastore (i := 0) C dL_sample_8 ho1.1 (by decide) ?_
    refine z_goto (tgt := 18) C dL_sample_9 (by decide) ?_
    refine z_iconst C dL_sample_18 ?_
    exact z_iret C dL_sample_19 (hP_ok ho h9 hz hz2 hR1 hF1)
theorem h_rate (w : Wd) (μ : Mem) (G : Nat → Nat) (N : Int) (s : Sg) (o : Nat) (p : Int) (hR : Rc μ G s) (hO : okS N s) (ho : outS μ G o) (h0 : in32 p) : cH w yL_rate cL_rate 4 (some .int) 9 [(eX, 20, 12), (eS, 15, 15)] 13 30 1000 [.ref (G 0), .int (J p), .ref o] μ (hP G o μ (spRate p s)) := by
  obtain ⟨r, hr⟩ : ∃ r, r = spRate p s := ⟨_, rfl⟩
  have K := c_rate w μ G N s p hR hO h0
  rw [← hr] at K ⊢
  refine cH_of (fun x C hT => ?_)
  refine z_aload_n C dL_rate_0 rfl ?_
  refine z_iconst C dL_rate_1 ?_
  refine z_aload_n C dL_rate_2 rfl ?_
  refine z_iload_n C dL_rate_3 rfl ?_
  refine z_callVH C hT K qM_L_54 dL_rate_4 rfl (zRc_o (Rc_g0 hR)) (hk_cons (hk_X _) (hk_cons (hk_S _) hk_nil)) (by decide) (fun E μ' hE => ?_) ?_
  · obtain ⟨hE, hR', hF⟩ := hE
    simp only [List.mem_cons, Prod.mk.injEq, List.not_mem_nil, or_false] at hE
    rcases hE with ⟨rfl, hc⟩ | ⟨rfl, hc⟩
    · refine ⟨12, by decide, fun q => ?_⟩
      refine z_astore_n C dL_rate_12 ?_
      refine z_iconst C dL_rate_13 ?_
      exact z_iret C dL_rate_14 (hP_er ho hc (by decide) hR' hF)
    · refine ⟨15, by decide, fun q => ?_⟩
      refine z_astore_n C dL_rate_15 ?_
      refine z_iconst C dL_rate_16 ?_
      exact z_iret C dL_rate_17 (hP_er ho hc (by decide) hR' hF)
  · rintro v μ1 ⟨h9, rfl, hR1, hF1⟩
    obtain ⟨z, hz, hz2⟩ := J_nm r.2.1
    have ho1 := outS_Fc ho hF1
    rw [hz]
    refine z_i2l C dL_rate_7 hz2 ?_
    refine z_lastore (i := 0) C dL_rate_8 ho1.1 (by decide) ?_
    refine z_goto (tgt := 18) C dL_rate_9 (by decide) ?_
    refine z_iconst C dL_rate_18 ?_
    exact z_iret C dL_rate_19 (hP_ok ho h9 hz hz2 hR1 hF1)
theorem h_restart (w : Wd) (μ : Mem) (G : Nat → Nat) (N : Int) (s : Sg) (o : Nat) (p : Int) (hR : Rc μ G s) (hO : okS N s) (ho : outS μ G o) (hN : N + 1 ≤ 512) (h0 : in32 p) : cH w yL_restart cL_restart 4 (some .int) 9 [(eX, 20, 12)] 13 30 1000 [.ref (G 0), .int (J p), .ref o] μ (hP G o μ (spRestart p s)) := by
  obtain ⟨r, hr⟩ : ∃ r, r = spRestart p s := ⟨_, rfl⟩
  have K := c_restart w μ G N s p hR hO hN h0
  rw [← hr] at K ⊢
  refine cH_of (fun x C hT => ?_)
  refine z_aload_n C dL_restart_0 rfl ?_
  refine z_iconst C dL_restart_1 ?_
  refine z_aload_n C dL_restart_2 rfl ?_
  refine z_iload_n C dL_restart_3 rfl ?_
  refine z_callVH C hT K qM_L_61 dL_restart_4 rfl (zRc_o (Rc_g0 hR)) (hk_cons (hk_X _) hk_nil) (by decide) (fun E μ' hE => ?_) ?_
  · obtain ⟨hE, hR', hF⟩ := hE
    simp only [List.mem_cons, Prod.mk.injEq, List.not_mem_nil, or_false] at hE
    obtain ⟨rfl, hc⟩ := hE
    refine ⟨12, by decide, fun q => ?_⟩
    refine z_astore_n C dL_restart_12 ?_
    refine z_iconst C dL_restart_13 ?_
    exact z_iret C dL_restart_14 (hP_er ho hc (by decide) hR' hF)
  · rintro v μ1 ⟨h9, rfl, hR1, hF1⟩
    obtain ⟨z, hz, hz2⟩ := J_nm r.2.1
    have ho1 := outS_Fc ho hF1
    rw [hz]
    refine z_i2l C dL_restart_7 hz2 ?_
    refine z_lastore (i := 0) C dL_restart_8 ho1.1 (by decide) ?_
    refine z_goto (tgt := 15) C dL_restart_9 (by decide) ?_
    refine z_iconst C dL_restart_15 ?_
    exact z_iret C dL_restart_16 (hP_ok ho h9 hz hz2 hR1 hF1)
theorem h_pass (w : Wd) (μ : Mem) (G : Nat → Nat) (N : Int) (s : Sg) (o : Nat) (p : Int) (hR : Rc μ G s) (hO : okS N s) (ho : outS μ G o) (h0 : in32 p) : cH w yL_pass cL_pass 4 (some .int) 9 [(eA, 13, 12), (eS, 15, 15)] 13 30 1000 [.ref (G 0), .int (J p), .ref o] μ (hP G o μ (spPass p s)) := by
  obtain ⟨r, hr⟩ : ∃ r, r = spPass p s := ⟨_, rfl⟩
  have K := c_pass w μ G N s p hR hO h0
  rw [← hr] at K ⊢
  refine cH_of (fun x C hT => ?_)
  refine z_aload_n C dL_pass_0 rfl ?_
  refine z_iconst C dL_pass_1 ?_
  refine z_aload_n C dL_pass_2 rfl ?_
  refine z_iload_n C dL_pass_3 rfl ?_
  refine z_callVH C hT K qM_L_64 dL_pass_4 rfl (zRc_o (Rc_g0 hR)) (hk_cons (hk_A _) (hk_cons (hk_S _) hk_nil)) (by decide) (fun E μ' hE => ?_) ?_
  · obtain ⟨hE, hR', hF⟩ := hE
    simp only [List.mem_cons, Prod.mk.injEq, List.not_mem_nil, or_false] at hE
    rcases hE with ⟨rfl, hc⟩ | ⟨rfl, hc⟩
    · refine ⟨12, by decide, fun q => ?_⟩
      refine z_astore_n C dL_pass_12 ?_
      refine z_iconst C dL_pass_13 ?_
      exact z_iret C dL_pass_14 (hP_er ho hc (by decide) hR' hF)
    · refine ⟨15, by decide, fun q => ?_⟩
      refine z_astore_n C dL_pass_15 ?_
      refine z_iconst C dL_pass_16 ?_
      exact z_iret C dL_pass_17 (hP_er ho hc (by decide) hR' hF)
  · rintro v μ1 ⟨h9, rfl, hR1, hF1⟩
    obtain ⟨z, hz, hz2⟩ := J_nm r.2.1
    have ho1 := outS_Fc ho hF1
    rw [hz]
    refine z_i2l C dL_pass_7 hz2 ?_
    refine z_lastore (i := 0) C dL_pass_8 ho1.1 (by decide) ?_
    refine z_goto (tgt := 18) C dL_pass_9 (by decide) ?_
    refine z_iconst C dL_pass_18 ?_
    exact z_iret C dL_pass_19 (hP_ok ho h9 hz hz2 hR1 hF1)
theorem h_trapOf (w : Wd) (μ : Mem) (G : Nat → Nat) (N : Int) (s : Sg) (o : Nat) (p : Int) (hR : Rc μ G s) (hO : okS N s) (ho : outS μ G o) (h0 : in32 p) : cH w yL_trapOf cL_trapOf 4 (some .int) 9 [(eX, 20, 12)] 13 30 1000 [.ref (G 0), .int (J p), .ref o] μ (hP G o μ (spTold (fun x => x.1) p s)) := by
  obtain ⟨r, hr⟩ : ∃ r, r = spTold (fun x => x.1) p s := ⟨_, rfl⟩
  have K := c_trapOf w μ G N s p hR hO h0
  rw [← hr] at K ⊢
  refine cH_of (fun x C hT => ?_)
  refine z_aload_n C dL_trapOf_0 rfl ?_
  refine z_iconst C dL_trapOf_1 ?_
  refine z_aload_n C dL_trapOf_2 rfl ?_
  refine z_iload_n C dL_trapOf_3 rfl ?_
  refine z_callVH C hT K qM_L_67 dL_trapOf_4 rfl (zRc_o (Rc_g0 hR)) (hk_cons (hk_X _) hk_nil) (by decide) (fun E μ' hE => ?_) ?_
  · obtain ⟨hE, hR', hF⟩ := hE
    simp only [List.mem_cons, Prod.mk.injEq, List.not_mem_nil, or_false] at hE
    obtain ⟨rfl, hc⟩ := hE
    refine ⟨12, by decide, fun q => ?_⟩
    refine z_astore_n C dL_trapOf_12 ?_
    refine z_iconst C dL_trapOf_13 ?_
    exact z_iret C dL_trapOf_14 (hP_er ho hc (by decide) hR' hF)
  · rintro v μ1 ⟨h9, rfl, hR1, hF1⟩
    obtain ⟨z, hz, hz2⟩ := J_nm r.2.1
    have ho1 := outS_Fc ho hF1
    rw [hz]
    refine z_i2l C dL_trapOf_7 hz2 ?_
    refine z_lastore (i := 0) C dL_trapOf_8 ho1.1 (by decide) ?_
    refine z_goto (tgt := 15) C dL_trapOf_9 (by decide) ?_
    refine z_iconst C dL_trapOf_15 ?_
    exact z_iret C dL_trapOf_16 (hP_ok ho h9 hz hz2 hR1 hF1)
theorem h_trapAt (w : Wd) (μ : Mem) (G : Nat → Nat) (N : Int) (s : Sg) (o : Nat) (p : Int) (hR : Rc μ G s) (hO : okS N s) (ho : outS μ G o) (h0 : in32 p) : cH w yL_trapAt cL_trapAt 4 (some .int) 9 [(eX, 20, 12)] 13 30 1000 [.ref (G 0), .int (J p), .ref o] μ (hP G o μ (spTold (fun x => x.2.2.1) p s)) := by
  obtain ⟨r, hr⟩ : ∃ r, r = spTold (fun x => x.2.2.1) p s := ⟨_, rfl⟩
  have K := c_trapAt w μ G N s p hR hO h0
  rw [← hr] at K ⊢
  refine cH_of (fun x C hT => ?_)
  refine z_aload_n C dL_trapAt_0 rfl ?_
  refine z_iconst C dL_trapAt_1 ?_
  refine z_aload_n C dL_trapAt_2 rfl ?_
  refine z_iload_n C dL_trapAt_3 rfl ?_
  refine z_callVH C hT K qM_L_70 dL_trapAt_4 rfl (zRc_o (Rc_g0 hR)) (hk_cons (hk_X _) hk_nil) (by decide) (fun E μ' hE => ?_) ?_
  · obtain ⟨hE, hR', hF⟩ := hE
    simp only [List.mem_cons, Prod.mk.injEq, List.not_mem_nil, or_false] at hE
    obtain ⟨rfl, hc⟩ := hE
    refine ⟨12, by decide, fun q => ?_⟩
    refine z_astore_n C dL_trapAt_12 ?_
    refine z_iconst C dL_trapAt_13 ?_
    exact z_iret C dL_trapAt_14 (hP_er ho hc (by decide) hR' hF)
  · rintro v μ1 ⟨h9, rfl, hR1, hF1⟩
    obtain ⟨z, hz, hz2⟩ := J_nm r.2.1
    have ho1 := outS_Fc ho hF1
    rw [hz]
    refine z_i2l C dL_trapAt_7 hz2 ?_
    refine z_lastore (i := 0) C dL_trapAt_8 ho1.1 (by decide) ?_
    refine z_goto (tgt := 15) C dL_trapAt_9 (by decide) ?_
    refine z_iconst C dL_trapAt_15 ?_
    exact z_iret C dL_trapAt_16 (hP_ok ho h9 hz hz2 hR1 hF1)
theorem h_repeats (w : Wd) (μ : Mem) (G : Nat → Nat) (N : Int) (s : Sg) (o : Nat) (p : Int) (hR : Rc μ G s) (hO : okS N s) (ho : outS μ G o) (h0 : in32 p) : cH w yL_repeats cL_repeats 4 (some .int) 9 [(eX, 20, 12)] 13 30 1000 [.ref (G 0), .int (J p), .ref o] μ (hP G o μ (spTold (fun x => x.2.2.2) p s)) := by
  obtain ⟨r, hr⟩ : ∃ r, r = spTold (fun x => x.2.2.2) p s := ⟨_, rfl⟩
  have K := c_repeats w μ G N s p hR hO h0
  rw [← hr] at K ⊢
  refine cH_of (fun x C hT => ?_)
  refine z_aload_n C dL_repeats_0 rfl ?_
  refine z_iconst C dL_repeats_1 ?_
  refine z_aload_n C dL_repeats_2 rfl ?_
  refine z_iload_n C dL_repeats_3 rfl ?_
  refine z_callVH C hT K qM_L_73 dL_repeats_4 rfl (zRc_o (Rc_g0 hR)) (hk_cons (hk_X _) hk_nil) (by decide) (fun E μ' hE => ?_) ?_
  · obtain ⟨hE, hR', hF⟩ := hE
    simp only [List.mem_cons, Prod.mk.injEq, List.not_mem_nil, or_false] at hE
    obtain ⟨rfl, hc⟩ := hE
    refine ⟨12, by decide, fun q => ?_⟩
    refine z_astore_n C dL_repeats_12 ?_
    refine z_iconst C dL_repeats_13 ?_
    exact z_iret C dL_repeats_14 (hP_er ho hc (by decide) hR' hF)
  · rintro v μ1 ⟨h9, rfl, hR1, hF1⟩
    obtain ⟨z, hz, hz2⟩ := J_nm r.2.1
    have ho1 := outS_Fc ho hF1
    rw [hz]
    refine z_i2l C dL_repeats_7 hz2 ?_
    refine z_lastore (i := 0) C dL_repeats_8 ho1.1 (by decide) ?_
    refine z_goto (tgt := 15) C dL_repeats_9 (by decide) ?_
    refine z_iconst C dL_repeats_15 ?_
    exact z_iret C dL_repeats_16 (hP_ok ho h9 hz hz2 hR1 hF1)
theorem h_setNeighbour (w : Wd) (μ : Mem) (G : Nat → Nat) (N : Int) (s : Sg) (o : Nat) (p p1 p2 : Int) (hR : Rc μ G s) (hO : okS N s) (ho : outS μ G o) (h0 : in32 p) (h1 : in32 p1) (h2 : in32 p2) : cH w yL_setNeighbour cL_setNeighbour 6 (some .int) 12 [(eX, 20, 15), (eA, 13, 19)] 13 30 1000 [.ref (G 0), .int (J p), .int (J p1), .int (J p2), .ref o] μ (hP G o μ (spNb p p1 p2 s)) := by
  obtain ⟨r, hr⟩ : ∃ r, r = spNb p p1 p2 s := ⟨_, rfl⟩
  have K := c_setNeighbour w μ G N s p p1 p2 hR hO h0 h1 h2
  rw [← hr] at K ⊢
  refine cH_of (fun x C hT => ?_)
  refine z_aload C dL_setNeighbour_0 rfl ?_
  refine z_iconst C dL_setNeighbour_2 ?_
  refine z_aload_n C dL_setNeighbour_3 rfl ?_
  refine z_iload_n C dL_setNeighbour_4 rfl ?_
  refine z_iload_n C dL_setNeighbour_5 rfl ?_
  refine z_iload_n C dL_setNeighbour_6 rfl ?_
  refine z_callVH C hT K qM_L_76 dL_setNeighbour_7 rfl (zRc_o (Rc_g0 hR)) (hk_cons (hk_X _) (hk_cons (hk_A _) hk_nil)) (by decide) (fun E μ' hE => ?_) ?_
  · obtain ⟨hE, hR', hF⟩ := hE
    simp only [List.mem_cons, Prod.mk.injEq, List.not_mem_nil, or_false] at hE
    rcases hE with ⟨rfl, hc⟩ | ⟨rfl, hc⟩
    · refine ⟨15, by decide, fun q => ?_⟩
      refine z_astore C dL_setNeighbour_15 ?_
      refine z_iconst C dL_setNeighbour_17 ?_
      exact z_iret C dL_setNeighbour_18 (hP_er ho hc (by decide) hR' hF)
    · refine ⟨19, by decide, fun q => ?_⟩
      refine z_astore C dL_setNeighbour_19 ?_
      refine z_iconst C dL_setNeighbour_21 ?_
      exact z_iret C dL_setNeighbour_22 (hP_er ho hc (by decide) hR' hF)
  · rintro v μ1 ⟨h9, rfl, hR1, hF1⟩
    obtain ⟨z, hz, hz2⟩ := J_nm r.2.1
    have ho1 := outS_Fc ho hF1
    rw [hz]
    refine z_i2l C dL_setNeighbour_10 hz2 ?_
    refine z_lastore (i := 0) C dL_setNeighbour_11 ho1.1 (by decide) ?_
    refine z_goto (tgt := 23) C dL_setNeighbour_12 (by decide) ?_
    refine z_iconst C dL_setNeighbour_23 ?_
    exact z_iret C dL_setNeighbour_24 (hP_ok ho h9 hz hz2 hR1 hF1)
theorem h_reach (w : Wd) (μ : Mem) (G : Nat → Nat) (N : Int) (s : Sg) (o : Nat) (p : Int) (hR : Rc μ G s) (hO : okS N s) (ho : outS μ G o) (h0 : in32 p) : cH w yL_reach cL_reach 4 (some .int) 9 [(eX, 20, 12)] 13 30 1000 [.ref (G 0), .int (J p), .ref o] μ (hP G o μ (spReach p s)) := by
  obtain ⟨r, hr⟩ : ∃ r, r = spReach p s := ⟨_, rfl⟩
  have K := c_reach w μ G N s p hR hO h0
  rw [← hr] at K ⊢
  refine cH_of (fun x C hT => ?_)
  refine z_aload_n C dL_reach_0 rfl ?_
  refine z_iconst C dL_reach_1 ?_
  refine z_aload_n C dL_reach_2 rfl ?_
  refine z_iload_n C dL_reach_3 rfl ?_
  refine z_callVH C hT K qM_L_79 dL_reach_4 rfl (zRc_o (Rc_g0 hR)) (hk_cons (hk_X _) hk_nil) (by decide) (fun E μ' hE => ?_) ?_
  · obtain ⟨hE, hR', hF⟩ := hE
    simp only [List.mem_cons, Prod.mk.injEq, List.not_mem_nil, or_false] at hE
    obtain ⟨rfl, hc⟩ := hE
    refine ⟨12, by decide, fun q => ?_⟩
    refine z_astore_n C dL_reach_12 ?_
    refine z_iconst C dL_reach_13 ?_
    exact z_iret C dL_reach_14 (hP_er ho hc (by decide) hR' hF)
  · rintro v μ1 ⟨h9, rfl, hR1, hF1⟩
    obtain ⟨z, hz, hz2⟩ := J_nm r.2.1
    have ho1 := outS_Fc ho hF1
    rw [hz]
    refine z_i2l C dL_reach_7 hz2 ?_
    refine z_lastore (i := 0) C dL_reach_8 ho1.1 (by decide) ?_
    refine z_goto (tgt := 15) C dL_reach_9 (by decide) ?_
    refine z_iconst C dL_reach_15 ?_
    exact z_iret C dL_reach_16 (hP_ok ho h9 hz hz2 hR1 hF1)
/-- setMarks: it has no out -/
def hQ (G : Nat → Nat) (μ : Mem) (r : Rs) (v : Option Value) (μ' : Mem) : Prop := v = some (.int (J r.1)) ∧ Rc μ' G r.2.2 ∧ Fc μ μ' G ∧ 0 ≤ r.1 ∧ r.1 ≤ 3
theorem h_setMarks (w : Wd) (μ : Mem) (G : Nat → Nat) (N : Int) (s : Sg) (p p1 p2 : Int) (hR : Rc μ G s) (hO : okS N s) (h0 : in32 p) (h1 : in32 p1) (h2 : in32 p2) : cH w yL_setMarks cL_setMarks 5 (some .int) 7 [(eX, 20, 10), (eA, 13, 14), (eS, 15, 18)] 13 30 1000 [.ref (G 0), .int (J p), .int (J p1), .int (J p2)] μ (hQ G μ (spMarks p p1 p2 s)) := by
  obtain ⟨r, hr⟩ : ∃ r, r = spMarks p p1 p2 s := ⟨_, rfl⟩
  have K := c_setMarks w μ G N s p p1 p2 hR hO h0 h1 h2
  rw [← hr] at K ⊢
  refine cH_of (fun x C hT => ?_)
  refine z_aload_n C dL_setMarks_0 rfl ?_
  refine z_iload_n C dL_setMarks_1 rfl ?_
  refine z_iload_n C dL_setMarks_2 rfl ?_
  refine z_iload_n C dL_setMarks_3 rfl ?_
  refine z_callVH C hT K qM_L_57 dL_setMarks_4 rfl (zRc_o (Rc_g0 hR)) (hk_cons (hk_X _) (hk_cons (hk_A _) (hk_cons (hk_S _) hk_nil))) (by decide) (fun E μ' hE => ?_) ?_
  · obtain ⟨hE, hR', hF⟩ := hE
    simp only [List.mem_cons, Prod.mk.injEq, List.not_mem_nil, or_false] at hE
    rcases hE with ⟨rfl, hc⟩ | ⟨rfl, hc⟩ | ⟨rfl, hc⟩
    · refine ⟨10, by decide, fun q => ?_⟩
      refine z_astore C dL_setMarks_10 ?_
      refine z_iconst C dL_setMarks_12 ?_
      exact z_iret C dL_setMarks_13 ⟨by rw [hc], hR', hF, by omega, by omega⟩
    · refine ⟨14, by decide, fun q => ?_⟩
      refine z_astore C dL_setMarks_14 ?_
      refine z_iconst C dL_setMarks_16 ?_
      exact z_iret C dL_setMarks_17 ⟨by rw [hc], hR', hF, by omega, by omega⟩
    · refine ⟨18, by decide, fun q => ?_⟩
      refine z_astore C dL_setMarks_18 ?_
      refine z_iconst C dL_setMarks_20 ?_
      exact z_iret C dL_setMarks_21 ⟨by rw [hc], hR', hF, by omega, by omega⟩
  · rintro v μ1 ⟨rfl, h9, hR1, hF1⟩
    refine z_goto (tgt := 22) C dL_setMarks_7 (by decide) ?_
    refine z_iconst C dL_setMarks_22 ?_
    exact z_iret C dL_setMarks_23 ⟨by rw [h9], hR1, hF1, by omega, by omega⟩
