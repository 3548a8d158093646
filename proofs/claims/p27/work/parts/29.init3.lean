/-- the whole new object -/
def new0 (μ μ' : Mem) (g : Nat) (G : Nat → Nat) : Prop := G 0 = g ∧ csS μ' G ∧ (∀ j : Nat, j < 4 → ag0 μ' G j) ∧ (∀ m m', m < 24 → m' < 24 → G m = G m' → m = m') ∧ (∀ a, μ.1 a ≠ none → a ≠ g → sm μ μ' a) ∧ (∀ m, m < 24 → m ≠ 0 → μ.1 (G m) = none) ∧ μ'.2.2.2.2.2 (G 2) = [] ∧ μ'.2.2.2.2.2 (G 3) = [] ∧ μ'.2.1 5 3 g = 0 ∧ μ'.2.1 5 4 g = 0 ∧ (∀ a, μ'.1 a = none → μ.1 a = none)
theorem new0_of {μ μ1 : Mem} {g q2 q3 : Nat} {G : Nat → Nat} (h : inG μ μ1 g 4 G) (hg0 : μ.1 g = some (5, 0)) (h2 : μ1.1 q2 = none) (h3 : (sR (nLs μ1 q2) 5 1 g (some q2)).1 q3 = none) : ∃ G', new0 μ (sI (sI (sR (nLs (sR (nLs μ1 q2) 5 1 g (some q2)) q3) 5 2 g (some q3)) 5 3 g 0) 5 4 g 0) g G' := by
  obtain ⟨h0, hg, hr, hT, hA, hsm, hd, hinj, hfr, hno⟩ := h
  have h3' : (nLs μ1 q2).1 q3 = none := h3
  have n23 : q2 ≠ q3 := ne_of_T (nLs_T μ1 q2) h3'
  have h31 : μ1.1 q3 = none := by rw [← (sm_nLs n23.symm).1]; exact h3'
  obtain ⟨F, hF⟩ : ∃ F, F = sI (sI (sR (nLs (sR (nLs μ1 q2) 5 1 g (some q2)) q3) 5 2 g (some q3)) 5 3 g 0) 5 4 g 0 := ⟨_, rfl⟩
  rw [← hF]
  have g2 : g ≠ q2 := ne_of_T hg h2
  have g3 : g ≠ q3 := ne_of_T hg h31
  have old : ∀ a, μ1.1 a ≠ none → a ≠ g → sm μ1 F a := fun a ha hag => by
    have b2 : a ≠ q2 := fun e => ha (e ▸ h2)
    have b3 : a ≠ q3 := fun e => ha (e ▸ h31)
    rw [hF]
    exact sm_tr (sm_tr (sm_tr (sm_tr (sm_tr (sm_nLs b2) (sm_R hag)) (sm_nLs b3)) (sm_R hag)) (sm_I hag)) (sm_I hag)
  have s2 : sm (nLs μ1 q2) F q2 := by
    rw [hF]
    exact sm_tr (sm_tr (sm_tr (sm_tr (sm_R g2.symm) (sm_nLs n23)) (sm_R g2.symm)) (sm_I g2.symm)) (sm_I g2.symm)
  have s3 : sm (nLs (sR (nLs μ1 q2) 5 1 g (some q2)) q3) F q3 := by
    rw [hF]
    exact sm_tr (sm_tr (sm_R g3.symm) (sm_I g3.symm)) (sm_I g3.symm)
  have Fg : F.1 g = some (5, 0) := by
    rw [hF]
    show (nLs (sR (nLs μ1 q2) 5 1 g (some q2)) q3).1 g = _
    rw [(sm_nLs g3).1]
    show (nLs μ1 q2).1 g = _
    rw [(sm_nLs g2).1]
    exact hg
  have F0 : fR F 5 0 g = some (G 1) := by
    rw [hF]
    show (sR (nLs (sR (nLs μ1 q2) 5 1 g (some q2)) q3) 5 2 g (some q3)).2.2.1 5 0 g = _
    rw [sR_k 5 g (by decide), (sm_nLs g3).2.2.1, sR_k 5 g (by decide), (sm_nLs g2).2.2.1]
    exact hr
  have F1 : fR F 5 1 g = some q2 := by
    rw [hF]
    show (sR (nLs (sR (nLs μ1 q2) 5 1 g (some q2)) q3) 5 2 g (some q3)).2.2.1 5 1 g = _
    rw [sR_k 5 g (by decide), (sm_nLs g3).2.2.1, sR_s]
  have F2 : fR F 5 2 g = some q3 := by
    rw [hF]
    show (sR (nLs (sR (nLs μ1 q2) 5 1 g (some q2)) q3) 5 2 g (some q3)).2.2.1 5 2 g = _
    rw [sR_s]
  have hT1 : μ1.1 (G 1) ≠ none := by rw [hT]; intro h; cases h
  have g1g : G 1 ≠ g := fun e => by have := hinj 0 1 (Or.inl (by decide)) (Or.inl (by decide)) (h0.trans e.symm); cases this
  have o1 := old _ hT1 g1g
  obtain ⟨G', hG'⟩ : ∃ G' : Nat → Nat, G' = fun m => if m = 2 then q2 else if m = 3 then q3 else G m := ⟨_, rfl⟩
  have Gold : ∀ m, m ≠ 2 → m ≠ 3 → G' m = G m := fun m m2 m3 => by rw [hG']; show (if _ then _ else _) = _; rw [if_neg m2, if_neg m3]
  have G2 : G' 2 = q2 := by rw [hG']; rfl
  have G3 : G' 3 = q3 := by rw [hG']; rfl
  have hag : ∀ j : Nat, j < 4 → ag0 F G' j := fun j hj => by
    refine ag0_sm (μ := μ1) (ag0_G (hA j hj).2 (fun m m1 m2 => Gold m (by omega) (by omega))) (fun m m1 m2 => ?_)
    rw [Gold m (by omega) (by omega)]
    exact old _ (hd m (Or.inr ⟨by omega, by omega⟩)) (fun e => by have := hinj m 0 (Or.inr ⟨by omega, by omega⟩) (Or.inl (by decide)) (e.trans h0.symm); omega)
  have dm : ∀ m, m < 24 → m ≠ 2 → m ≠ 3 → dG 4 m := fun m h1 h2 h3 => by unfold dG; omega
  refine ⟨G', ?_, ⟨⟨?_, ?_, ?_, ?_, ?_, ?_, ?_⟩, ?_, ?_⟩, hag, ?_, ?_, ?_, ?_, ?_, ?_, ?_, ?_⟩
  · rw [Gold 0 (by decide) (by decide)]; exact h0
  · rw [Gold 0 (by decide) (by decide), h0]; exact Fg
  · rw [Gold 0 (by decide) (by decide), Gold 1 (by decide) (by decide), h0]; exact F0
  · rw [Gold 0 (by decide) (by decide), G2, h0]; exact F1
  · rw [Gold 0 (by decide) (by decide), G3, h0]; exact F2
  · rw [Gold 1 (by decide) (by decide)]; exact o1.1.trans hT
  · rw [G2, s2.1]; exact nLs_T _ _
  · rw [G3, s3.1]; exact nLs_T _ _
  · intro j hj
    rw [Gold 1 (by decide) (by decide), congrFun o1.2.2.2.2.1 (j : Int), (hA j hj).1]
    show some (G (4 + 5 * j)) = some (G' (4 + 5 * j))
    rw [Gold _ (by omega) (by omega)]
  · exact fun j hj => (hag j hj).1
  · intro m m' hm hm' he
    by_cases m2 : m = 2
    · subst m2
      rw [G2] at he
      by_cases m2' : m' = 2
      · exact m2'.symm
      · by_cases m3' : m' = 3
        · subst m3'
          rw [G3] at he
          exact absurd he n23
        · rw [Gold m' m2' m3'] at he
          exact absurd h2 (by rw [he]; exact hd m' (dm m' hm' m2' m3'))
    · by_cases m3 : m = 3
      · subst m3
        rw [G3] at he
        by_cases m2' : m' = 2
        · subst m2'
          rw [G2] at he
          exact absurd he.symm n23
        · by_cases m3' : m' = 3
          · exact m3'.symm
          · rw [Gold m' m2' m3'] at he
            exact absurd h31 (by rw [he]; exact hd m' (dm m' hm' m2' m3'))
      · rw [Gold m m2 m3] at he
        by_cases m2' : m' = 2
        · subst m2'
          rw [G2] at he
          exact absurd h2 (by rw [← he]; exact hd m (dm m hm m2 m3))
        · by_cases m3' : m' = 3
          · subst m3'
            rw [G3] at he
            exact absurd h31 (by rw [← he]; exact hd m (dm m hm m2 m3))
          · rw [Gold m' m2' m3'] at he
            exact hinj m m' (dm m hm m2 m3) (dm m' hm' m2' m3') he
  · intro a ha hag2
    have s := hsm a ha hag2
    exact sm_tr s (old a (by rw [s.1]; exact ha) hag2)
  · intro m hm m0
    by_cases m2 : m = 2
    · subst m2
      rw [G2]
      exact hno _ h2
    · by_cases m3 : m = 3
      · subst m3
        rw [G3]
        exact hno _ h31
      · rw [Gold m m2 m3]
        exact hfr m (dm m hm m2 m3) m0
  · rw [G2, s2.2.2.2.2.2]; exact nLs_L _ _
  · rw [G3, s3.2.2.2.2.2]; exact nLs_L _ _
  · rw [hF]
    rw [sI_k 5 g (by decide), sI_s]
  · rw [hF, sI_s]
  · intro a ha
    refine hno a ?_
    cases h9 : μ1.1 a with
    | none => rfl
    | some kd =>
      by_cases hag : a = g
      · subst hag
        rw [Fg] at ha
        cases ha
      · have := (old a (by rw [h9]; intro h; cases h) hag).1.trans h9
        rw [this] at ha
        cases ha
theorem c_X5_init (w : Wd) (μ : Mem) (g : Nat) (hg : μ.1 g = some (5, 0)) : cM w yX5_init cX5_init 2 none 7 23 138 [.ref g] μ (fun v μ' => v = none ∧ ∃ G, new0 μ μ' g G) (fun _ _ => False) := by
  refine cM_of (fun x C => ?_)
  refine z_aload_n C dX5_init_0 rfl ?_
  refine z_objInit C qM_X5_1 qO_1 qO_2 dX5_init_1 ?_
  refine z_aload_n C dX5_init_4 rfl ?_
  refine z_iconst C dX5_init_5 ?_
  refine z_newG C 4 dX5_init_6 rfl (by decide) qC_X5_9 (by decide) (by decide) (fun r hr hb => ?_)
  have gr := ne_of_T hg hr
  have T1 : (sN μ r (23, 4)).1 g = some (5, 0) := by rw [(sm_N gr).1]; exact hg
  refine z_putq (v := some r) C qF_X5_11 qW_5_0 dX5_init_9 T1 ?_
  obtain ⟨μ0, e0⟩ : ∃ μ0, μ0 = sR (sN μ r (23, 4)) 5 0 g (some r) := ⟨_, rfl⟩
  rw [← e0]
  have i0' : inG μ μ0 g 0 (fun m => if m = 0 then g else r) := by
    refine ⟨rfl, by rw [e0]; exact T1, by rw [e0]; exact sR_s, by rw [e0]; exact u1_s _ _ _, fun j hj => absurd hj (by omega), ?_, ?_, ?_, ?_, ?_⟩
    · intro a ha hag
      rw [e0]
      exact sm_tr (sm_N (fun e => ha (e ▸ hr))) (sm_R hag)
    · intro m hm
      rw [e0]
      show u1 μ.1 r _ (if m = 0 then g else r) ≠ none
      split
      · rw [u1_n _ _ gr, hg]; intro h; cases h
      · rw [u1_s]; intro h; cases h
    · intro m m' hm hm' he
      unfold dG at hm hm'
      have he' : (if m = 0 then g else r) = (if m' = 0 then g else r) := he
      split at he' <;> split at he'
      · omega
      · exact absurd he' gr
      · exact absurd he'.symm gr
      · omega
    · intro m hm m0
      show μ.1 (if m = 0 then g else r) = none
      rw [if_neg m0]
      exact hr
    · intro a ha
      by_cases har : a = r
      · rw [har]; exact hr
      · have h9 : u1 μ.1 r (some (23, 4)) a = none := by
          rw [e0] at ha
          exact ha
        rw [u1_n _ _ har] at h9
        exact h9
  have loop : ∀ (m i : Nat) (μ1 : Mem) (G : Nat → Nat) (k n : Nat), i + m = 4 → k = 1 + 5 * i → n = 4 + 32 * i → inG μ μ1 g i G → Z w x (zQ w x (fun v μ' => v = none ∧ ∃ G, new0 μ μ' g G) (fun _ _ => False) 23 138) 2 14 [(0, .ref g), (1, .int (J (i : Int)))] [] μ1 k n := by
    intro m
    induction m with
    | zero =>
      intro i μ1 G k n hi hk hn hG
      have hG0 := hG
      obtain ⟨h0, hg1, hr1, hT, -⟩ := hG
      have hi4 : i = 4 := by omega
      subst hi4
      refine z_iload_n C dX5_init_14 rfl ?_
      refine z_iconst C dX5_init_15 ?_
      refine z_icmp_ge (tgt := 38) C dX5_init_16 (by decide) (by omega) (fun q => ?_) (fun q => ?_)
      · refine z_aload_n C dX5_init_38 rfl ?_
        refine z_new C 7 tyJx4a65c dX5_init_39 rfl rfl i7 tyJx4a65c_ok qC_X5_16 qN_7 qI_7 (by decide) (by show k + 1 ≤ 23; omega) (by show n + 3 ≤ 138; omega) (fun q2 hq2 hb2 => ?_)
        refine z_dup C dX5_init_42 ?_
        refine z_callI C (c_AL_init w (sN μ1 q2 (7, 0)) q2 (u1_s _ _ _) (u0_s _ _ _ _ _)) qM_X5_18 dX5_init_43 rfl ?_
        rintro v μ2 ⟨rfl, rfl⟩
        have g2 := ne_of_T hg1 hq2
        have T2 : (nLs μ1 q2).1 g = some (5, 0) := by rw [(sm_nLs g2).1]; exact hg1
        refine z_putq (v := some q2) C qF_X5_19 qW_5_1 dX5_init_46 T2 ?_
        refine z_aload_n C dX5_init_49 rfl ?_
        refine z_new C 7 tyJx4a65c dX5_init_50 rfl rfl i7 tyJx4a65c_ok qC_X5_16 qN_7 qI_7 (by decide) (by show k + 1 + 0 + 1 ≤ 23; omega) (by show n + 3 + 0 + 3 ≤ 138; omega) (fun q3 hq3 hb3 => ?_)
        refine z_dup C dX5_init_53 ?_
        refine z_callI C (c_AL_init w (sN (sR (nLs μ1 q2) 5 1 g (some q2)) q3 (7, 0)) q3 (u1_s _ _ _) (u0_s _ _ _ _ _)) qM_X5_18 dX5_init_54 rfl ?_
        rintro v μ3 ⟨rfl, rfl⟩
        have g3 := ne_of_T T2 hq3
        have T3 : (nLs (sR (nLs μ1 q2) 5 1 g (some q2)) q3).1 g = some (5, 0) := by rw [(sm_nLs g3).1]; exact T2
        refine z_putq (v := some q3) C qF_X5_23 qW_5_2 dX5_init_57 T3 ?_
        refine z_aload_n C dX5_init_60 rfl ?_
        refine z_iconst C dX5_init_61 ?_
        refine z_puti C qF_X5_26 qW_5_3 dX5_init_62 T3 ?_
        refine z_aload_n C dX5_init_65 rfl ?_
        refine z_iconst C dX5_init_66 ?_
        refine z_puti C qF_X5_30 qW_5_4 dX5_init_67 T3 ?_
        exact z_vret C dX5_init_70 ⟨rfl, new0_of hG0 hg hq2 hq3⟩
      · omega
    | succ m ih =>
      intro i μ1 G k n hi hk hn hG
      have hG0 := hG
      obtain ⟨h0, hg1, hr1, hT, -⟩ := hG
      refine z_iload_n C dX5_init_14 rfl ?_
      refine z_iconst C dX5_init_15 ?_
      refine z_icmp_ge (tgt := 38) C dX5_init_16 (by decide) (by omega) (fun q => ?_) (fun q => ?_)
      · omega
      · refine z_aload_n C dX5_init_19 rfl ?_
        refine z_getr C (G 1) qF_X5_11 dX5_init_20 hg1 hr1 ?_
        refine z_iload_n C dX5_init_23 rfl ?_
        refine z_new C 0 tyX0 dX5_init_24 rfl rfl i0 tyX0_ok qC_X5_9 qN_0 qI_0 (by decide) (by show k + 1 ≤ 23; omega) (by show n + 5 ≤ 138; omega) (fun qa hqa hba => ?_)
        refine z_dup C dX5_init_27 ?_
        refine z_callI C (c_X0_init w (sN μ1 qa (0, 0)) qa (u1_s _ _ _)) qM_X5_15 dX5_init_28 rfl ?_
        rintro v μ2 ⟨rfl, li, rp, ru, ne, hn2⟩
        obtain ⟨k1, k2, k3, k4, G', k5⟩ := inG_step hG0 (by omega) hqa hn2
        refine z_aastoreG C dX5_init_31 k1 (by omega) k2 ?_
        refine z_iinc C dX5_init_32 rfl ?_
        refine z_goto (tgt := 14) C dX5_init_35 (by decide) ?_
        exact z_ls _ (by exact ⟨rfl, rfl, trivial⟩) (ih (i + 1) _ G' _ _ (by omega) (by omega) (by omega) k5)
  refine z_iconst C dX5_init_12 ?_
  refine z_istore_n C dX5_init_13 ?_
  exact loop 4 0 μ0 _ _ _ rfl rfl rfl i0'
