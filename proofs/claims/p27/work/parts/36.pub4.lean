/-! neighbours, rules, put and remove -/
theorem c_setNeighbour (w : Wd) (μ : Mem) (G : Nat → Nat) (N : Int) (s : Sg) (a p o : Int) (hR : Rc μ G s) (hO : okS N s) (h32 : in32 a) (hp32 : in32 p) (ho32 : in32 o) : cM w yX5_setNeighbour cX5_setNeighbour 6 (some .int) 10 30 1000 [.ref (G 0), .int (J a), .int (J p), .int (J o)] μ (okP G μ (spNb a p o s)) (erP G μ (spNb a p o s) [(eX, 1), (eA, 2)]) := by
  obtain ⟨p1, p2⟩ := hp32
  obtain ⟨o1, o2⟩ := ho32
  obtain ⟨a1, a2⟩ := id h32
  obtain ⟨q, clk, dm, ob, ru, rn, rs, nb, tr⟩ := s
  have hS := hR.1
  have hq : μ.2.1 5 3 (G 0) = q := hR.2.2.1
  have hc : μ.2.1 5 4 (G 0) = clk := hR.2.2.2.1
  have hqk := hO.2.1
  have hqi := hqk.1
  have hci := hO.2.2.1
  have g0 := hS.1.1
  obtain ⟨r, hr⟩ : ∃ r, r = spNb a p o (q, clk, dm, ob, ru, rn, rs, nb, tr) := ⟨_, rfl⟩
  rw [← hr]
  refine cM_of (fun x C => ?_)
  refine z_aload_n C dX5_setNeighbour_0 rfl ?_
  refine z_iload_n C dX5_setNeighbour_1 rfl ?_
  refine z_callV C (c_agentNumbered w μ (G 0) (G 1) (G 2) (G 3) (gA G) a 1 6 (fun _ => by decide) hS.1 hS.2.1 h32) qM_X5_61 dX5_setNeighbour_2 rfl (zRc_o g0) (fun E μ' h => ?_) ?_
  · obtain ⟨rfl, hb, rfl⟩ := h
    rw [hr, spNb, if_pos (Or.inl hb)]
    exact ⟨by simp, hR, Fc_rf _ _⟩
  rintro v μ2 ⟨ha, rfl, rfl⟩
  obtain ⟨j, rfl⟩ : ∃ j : Nat, a = (j : Int) := ⟨a.toNat, by omega⟩
  have hj : j < 4 := by omega
  rw [show ((j : Int)).toNat = j from rfl]
  have gAj := (hS.2.2 j hj).1
  obtain ⟨hI, hl20, hRu⟩ := Rc_its hR hO hj
  have bad1 : ¬ (0 ≤ p ∧ p ≤ 3) → Z w x (zQ w x (okP G μ2 r) (erP G μ2 r [(eX, 1), (eA, 2)]) 30 1000) 6 16 [] [] μ2 (0 + 1) (0 + 6) := fun h => z_throw C qT_X qS_202 dX5_setNeighbour_16 dX5_setNeighbour_19 dX5_setNeighbour_20 dX5_setNeighbour_22 dX5_setNeighbour_25 (by rw [hr, spNb, if_pos (Or.inr (Or.inl h))]; exact ⟨by simp, hR, Fc_rf _ _⟩)
  have bad2 : ¬ (-1 ≤ o ∧ o ≤ 3) → Z w x (zQ w x (okP G μ2 r) (erP G μ2 r [(eX, 1), (eA, 2)]) 30 1000) 6 40 [] [] μ2 (0 + 1) (0 + 6) := fun h => z_throw C qT_X qS_204 dX5_setNeighbour_40 dX5_setNeighbour_43 dX5_setNeighbour_44 dX5_setNeighbour_46 dX5_setNeighbour_49 (by rw [hr, spNb, if_pos (Or.inr (Or.inr h))]; exact ⟨by simp, hR, Fc_rf _ _⟩)
  have good : (0 ≤ p ∧ p ≤ 3) → (-1 ≤ o ∧ o ≤ 3) → Z w x (zQ w x (okP G μ2 r) (erP G μ2 r [(eX, 1), (eA, 2)]) 30 1000) 6 50 [(0, .ref (G 0)), (1, .int (J (j : Int))), (2, .int (J p)), (3, .int (J o)), (4, .ref (gA G j))] [] μ2 (0 + 1) (0 + 6) := by
    intro hp ho
    obtain ⟨b1, b2, b3, b4, b5, b6, b7, b8, b9⟩ := hS.2.2 j hj
    have hnb := hR.2.2.2.2.2.2.2.2.1 j hj
    refine z_iload_n C dX5_setNeighbour_50 rfl ?_
    refine z_iload_n C dX5_setNeighbour_51 rfl ?_
    refine z_icmp_ne (tgt := 65) C dX5_setNeighbour_52 (by decide) (by omega) (fun g => ?_) (fun g => ?_)
    · have fin : r = (0, nb j p, q, clk, dm, ob, ru, rn, rs, u1 nb j (uI (nb j) p o), tr) := by rw [hr, spNb, if_neg (by omega), if_neg g]; rfl
      refine z_aload C dX5_setNeighbour_65 rfl ?_
      refine z_getr C (gN G j) qF_X5_208 dX5_setNeighbour_67 b1 b5 ?_
      refine z_iload_n C dX5_setNeighbour_70 rfl ?_
      refine z_iaload C dX5_setNeighbour_71 (by assumption) (by omega) ?_
      refine z_istore C dX5_setNeighbour_72 ?_
      refine z_aload C dX5_setNeighbour_74 rfl ?_
      refine z_getr C (gN G j) qF_X5_208 dX5_setNeighbour_76 b1 b5 ?_
      refine z_iload_n C dX5_setNeighbour_79 rfl ?_
      refine z_iload_n C dX5_setNeighbour_80 rfl ?_
      refine z_iastore C dX5_setNeighbour_81 (by assumption) (by omega) ?_
      refine z_iload C dX5_setNeighbour_82 rfl ?_
      refine z_iret C dX5_setNeighbour_84 ?_
      rw [fin, sA_mU, hnb]
      exact ⟨rfl, rfl, (Rc_nb hR hj _).1, (Rc_nb hR hj _).2⟩
    · exact z_throw C qT_A qS_206 dX5_setNeighbour_55 dX5_setNeighbour_58 dX5_setNeighbour_59 dX5_setNeighbour_61 dX5_setNeighbour_64 (by rw [hr, spNb, if_neg (by omega), if_pos g]; exact ⟨by simp, hR, Fc_rf _ _⟩)
  refine z_astore C dX5_setNeighbour_5 ?_
  refine z_iload_n C dX5_setNeighbour_7 rfl ?_
  refine z_if_lt (tgt := 16) C dX5_setNeighbour_8 (by decide) (by omega) (fun g1 => ?_) (fun g1 => ?_)
  · exact z_ls _ (by exact trivial) (bad1 (by omega))
  · refine z_iload_n C dX5_setNeighbour_11 rfl ?_
    refine z_iconst C dX5_setNeighbour_12 ?_
    refine z_icmp_lt (tgt := 26) C dX5_setNeighbour_13 (by decide) (by omega) (fun g2 => ?_) (fun g2 => ?_)
    · refine z_iload_n C dX5_setNeighbour_26 rfl ?_
      refine z_iconst C dX5_setNeighbour_27 ?_
      refine z_icmp_eq (tgt := 50) C dX5_setNeighbour_28 (by decide) (by omega) (fun g3 => ?_) (fun g3 => ?_)
      · exact z_ls _ (by exact ⟨rfl, rfl, rfl, rfl, rfl, trivial⟩) (good (by omega) (by omega))
      · refine z_iload_n C dX5_setNeighbour_31 rfl ?_
        refine z_if_lt (tgt := 40) C dX5_setNeighbour_32 (by decide) (by omega) (fun g4 => ?_) (fun g4 => ?_)
        · exact z_ls _ (by exact trivial) (bad2 (by omega))
        · refine z_iload_n C dX5_setNeighbour_35 rfl ?_
          refine z_iconst C dX5_setNeighbour_36 ?_
          refine z_icmp_lt (tgt := 50) C dX5_setNeighbour_37 (by decide) (by omega) (fun g5 => ?_) (fun g5 => ?_)
          · exact z_ls _ (by exact ⟨rfl, rfl, rfl, rfl, rfl, trivial⟩) (good (by omega) (by omega))
          · exact z_ls _ (by exact trivial) (bad2 (by omega))
    · exact z_ls _ (by exact trivial) (bad1 (by omega))
/-! a rule set: the slots after all -/
theorem rlF_miss {R P : Int → Int} {k : Int} : ∀ (f : Nat) (s0 : Int), (∀ s, s0 ≤ s → s < s0 + (f : Int) → R s ≠ 0 → P s ≠ k) → rlF R P k f s0 = 0
  | 0, _, _ => rfl
  | f + 1, s0, h => by
    rw [rlF, if_neg (fun e => h s0 (by omega) (by omega) e.1 e.2)]
    exact rlF_miss f (s0 + 1) (fun s h1 h2 => h s (by omega) (by omega))
theorem rlF_hit {R P : Int → Int} {k s : Int} (hs : R s ≠ 0) (hk : P s = k) : ∀ (f : Nat) (s0 : Int), s0 ≤ s → s < s0 + (f : Int) → (∀ t, s0 ≤ t → t < s0 + (f : Int) → R t ≠ 0 → P t = k → t = s) → rlF R P k f s0 = R s
  | 0, s0, h1, h2, _ => by omega
  | f + 1, s0, h1, h2, hu => by
    rw [rlF]
    split
    · rename_i e
      rw [hu s0 (by omega) (by omega) e.1 e.2]
    · rename_i e
      have hne : s0 ≠ s := fun e' => e ⟨by rw [e']; exact hs, by rw [e']; exact hk⟩
      exact rlF_hit hs hk f (s0 + 1) (by omega) (by omega) (fun t h3 h4 => hu t (by omega) (by omega))
theorem rlF_slot {R P : Int → Int} {k : Int} : ∀ (f : Nat) (s0 : Int), rlF R P k f s0 ≠ 0 → ∃ s, s0 ≤ s ∧ s < s0 + (f : Int) ∧ R s ≠ 0 ∧ P s = k
  | 0, _, h => absurd rfl h
  | f + 1, s0, h => by
    rw [rlF] at h
    split at h
    · rename_i e
      exact ⟨s0, by omega, by omega, e.1, e.2⟩
    · obtain ⟨s, h1, h2, h3⟩ := rlF_slot f (s0 + 1) h
      exact ⟨s, by omega, by omega, h3⟩
theorem rlC_out {R : Int → Int} {t v : Int} : ∀ (f : Nat) (s0 : Int), t < s0 → rlC (uI R t v) f s0 = rlC R f s0
  | 0, _, _ => rfl
  | f + 1, s0, h => by
    rw [rlC, rlC, uI_n _ _ (by omega), rlC_out f (s0 + 1) (by omega)]
theorem rlC_upd {R : Int → Int} {t v : Int} : ∀ (f : Nat) (s0 : Int), s0 ≤ t → t < s0 + (f : Int) → rlC (uI R t v) f s0 = rlC R f s0 + nz v - nz (R t)
  | 0, _, h1, h2 => by omega
  | f + 1, s0, h1, h2 => by
    rw [rlC, rlC]
    by_cases ht : t = s0
    · subst ht
      rw [uI_s, rlC_out f (t + 1) (by omega)]
      unfold nz
      omega
    · rw [uI_n _ _ (fun e => ht e.symm), rlC_upd f (s0 + 1) (by omega) (by omega)]
      omega
theorem rlC_congr {R R' : Int → Int} : ∀ (f : Nat) (s0 : Int), (∀ s, s0 ≤ s → s < s0 + (f : Int) → R s = R' s) → rlC R f s0 = rlC R' f s0
  | 0, _, _ => rfl
  | f + 1, s0, h => by
    rw [rlC, rlC, h s0 (by omega) (by omega), rlC_congr f (s0 + 1) (fun s h1 h2 => h s (by omega) (by omega))]
theorem rlC_full {R : Int → Int} : ∀ (f : Nat) (s0 : Int), (∀ s, s0 ≤ s → s < s0 + (f : Int) → R s ≠ 0) → rlC R f s0 = (f : Int)
  | 0, _, _ => rfl
  | f + 1, s0, h => by
    rw [rlC, if_pos (h s0 (by omega) (by omega)), rlC_full f (s0 + 1) (fun s h1 h2 => h s (by omega) (by omega))]
    omega
section RUL
variable {R P : Int → Int} {ru : Int → Int} {rn q h : Int}
theorem rwo_ne {s : Int} (hs : rwo R P q 10 s ≠ 0) (h0 : 0 ≤ s ∧ s < 10) : R s ≠ 0 ∧ P s ≠ q ∧ rwo R P q 10 s = R s := by
  unfold rwo at hs ⊢
  split at hs
  · exact absurd rfl hs
  · rename_i e
    rw [if_neg e]
    exact ⟨hs, fun e2 => e ⟨h0.1, h0.2, hs, e2⟩, rfl⟩
theorem rwo_eq {s : Int} (hp : P s ≠ q) : rwo R P q 10 s = R s := if_neg (fun e => hp e.2.2.2)
/-- the slots with a rule for q, cleared: their number -/
theorem rwo_cnt (hp : pRu R P ru rn) : rlC (rwo R P q 10) 10 0 = rn - nz (ru q) := by
  obtain ⟨h1, h2, h3, h4⟩ := hp
  by_cases hq : ru q = 0
  · rw [← h4, rlC_congr (R := rwo R P q 10) (R' := R) 10 0 (fun s s1 s2 => ?_)]
    · unfold nz
      rw [hq]
      simp
    · refine if_neg (fun e => ?_)
      have := rlF_hit (R := R) (P := P) (k := q) e.2.2.1 e.2.2.2 10 0 s1 s2 (fun t t1 t2 t3 t4 => h2 t s (by omega) (by omega) (by omega) (by omega) t3 e.2.2.1 (t4.trans e.2.2.2.symm))
      rw [h3 q, hq] at this
      exact e.2.2.1 this.symm
  · obtain ⟨s, s1, s2, s3, s4⟩ := rlF_slot (R := R) (P := P) (k := q) 10 0 (by rw [h3]; exact hq)
    rw [rlC_congr (R := rwo R P q 10) (R' := uI R s 0) 10 0 (fun t t1 t2 => ?_), rlC_upd 10 0 s1 s2, h4]
    · unfold nz
      rw [if_pos hq, if_pos s3, if_neg (by decide)]
      omega
    · by_cases hts : t = s
      · subst hts
        rw [uI_s]
        exact if_pos ⟨t1, by omega, s3, s4⟩
      · rw [uI_n _ _ hts]
        exact if_neg (fun e => hts (h2 t s (by omega) (by omega) (by omega) (by omega) e.2.2.1 s3 (e.2.2.2.trans s4.symm)))
theorem rul_set (hp : pRu R P ru rn) (hq : 0 ≤ q ∧ q < 65536) (hh : 0 ≤ h ∧ h ≤ 2) {f : Int} (f0 : 0 ≤ f ∧ f < 10) (hf : rwo R P q 10 f = 0) : pRu (uI (rwo R P q 10) f h) (uI P f q) (uI ru q h) (rn + nz h - nz (ru q)) := by
  have hcnt := rwo_cnt hp (q := q)
  obtain ⟨h1, h2, h3, h4⟩ := hp
  have ne : ∀ s, s ≠ f → 0 ≤ s → s < 10 → uI (rwo R P q 10) f h s ≠ 0 → R s ≠ 0 ∧ P s ≠ q ∧ uI (rwo R P q 10) f h s = R s := fun s hs a b c => by
    rw [uI_n _ _ hs] at c ⊢
    exact rwo_ne c ⟨a, b⟩
  have inj : ∀ s t : Int, 0 ≤ s → s < 10 → 0 ≤ t → t < 10 → uI (rwo R P q 10) f h s ≠ 0 → uI (rwo R P q 10) f h t ≠ 0 → uI P f q s = uI P f q t → s = t := by
    intro s t s1 s2 t1 t2 c d e
    by_cases hs : s = f <;> by_cases ht : t = f
    · rw [hs, ht]
    · rw [hs, uI_s, uI_n _ _ ht] at e
      exact absurd e.symm (ne t ht t1 t2 d).2.1
    · rw [ht, uI_s, uI_n _ _ hs] at e
      exact absurd e (ne s hs s1 s2 c).2.1
    · rw [uI_n _ _ hs, uI_n _ _ ht] at e
      exact h2 s t s1 s2 t1 t2 (ne s hs s1 s2 c).1 (ne t ht t1 t2 d).1 e
  refine ⟨fun s => ?_, inj, fun k => ?_, ?_⟩
  · have := h1 s
    by_cases hs : s = f
    · subst hs
      rw [uI_s, uI_s]
      omega
    · rw [uI_n _ _ hs, uI_n _ _ hs]
      have hz : rwo R P q 10 s = 0 ∨ rwo R P q 10 s = R s := by
        unfold rwo
        split
        · exact Or.inl rfl
        · exact Or.inr rfl
      omega
  · by_cases hk : k = q
    · subst hk
      rw [uI_s]
      by_cases h0 : h = 0
      · rw [h0]
        refine rlF_miss 10 0 (fun s s1 s2 c e => ?_)
        by_cases hs : s = f
        · rw [hs, uI_s] at c
          exact c rfl
        · rw [h0] at ne
          rw [uI_n _ _ hs] at e
          exact (ne s hs s1 (by omega) c).2.1 e
      · have := rlF_hit (R := uI (rwo R P k 10) f h) (P := uI P f k) (k := k) (s := f) (by rw [uI_s]; exact h0) (uI_s _ _ _) 10 0 f0.1 (by omega) (fun t t1 t2 t3 t4 => inj t f t1 (by omega) f0.1 f0.2 t3 (by rw [uI_s]; exact h0) (by rw [t4, uI_s]))
        rw [this, uI_s]
    · rw [uI_n _ _ hk, ← h3 k]
      by_cases hx : rlF R P k 10 0 = 0
      · rw [hx]
        refine rlF_miss 10 0 (fun s s1 s2 c e => ?_)
        by_cases hs : s = f
        · rw [hs, uI_s] at e
          exact hk e.symm
        · rw [uI_n _ _ hs] at e
          have c' := (ne s hs s1 (by omega) c).1
          have := rlF_hit (R := R) (P := P) (k := k) c' e 10 0 s1 s2 (fun t t1 t2 t3 t4 => h2 t s t1 (by omega) s1 (by omega) t3 c' (t4.trans e.symm))
          exact c' (this.symm.trans hx)
      · obtain ⟨s, s1, s2, s3, s4⟩ := rlF_slot (R := R) (P := P) (k := k) 10 0 hx
        have e1 : rwo R P q 10 s = R s := rwo_eq (by rw [s4]; exact hk)
        have hs : s ≠ f := fun e => s3 (by rw [← e1, e]; exact hf)
        have a1 := rlF_hit (R := R) (P := P) (k := k) s3 s4 10 0 s1 s2 (fun t t1 t2 t3 t4 => h2 t s t1 (by omega) s1 (by omega) t3 s3 (t4.trans s4.symm))
        have e2 : uI (rwo R P q 10) f h s = R s := by rw [uI_n _ _ hs, e1]
        have a2 := rlF_hit (R := uI (rwo R P q 10) f h) (P := uI P f q) (k := k) (s := s) (by rw [e2]; exact s3) (by rw [uI_n _ _ hs]; exact s4) 10 0 s1 s2 (fun t t1 t2 t3 t4 => inj t s t1 (by omega) s1 (by omega) t3 (by rw [e2]; exact s3) (by rw [t4, uI_n _ _ hs, s4]))
        rw [a1, a2, e2]
  · rw [rlC_upd 10 0 f0.1 (by omega), hcnt, hf]
    unfold nz
    simp
    omega
/-- no free slot: nothing was there to clear -/
theorem rul_full (hp : pRu R P ru rn) (hf : ∀ s, 0 ≤ s → s < 10 → rwo R P q 10 s ≠ 0) : ru q = 0 ∧ 10 ≤ rn ∧ rwo R P q 10 = R := by
  have hcnt := rwo_cnt hp (q := q)
  rw [rlC_full 10 0 (fun s a b => hf s a (by omega))] at hcnt
  have hru : ru q = 0 := by
    rw [← hp.2.2.1 q]
    exact rlF_miss 10 0 (fun s a b c => (rwo_ne (hf s a (by omega)) ⟨a, by omega⟩).2.1)
  refine ⟨hru, ?_, ?_⟩
  · have h9 : nz (ru q) = 0 := by rw [hru]; rfl
    omega
  · funext s
    unfold rwo
    split
    · rename_i e
      exact absurd e.2.2.2 (rwo_ne (hf s e.1 e.2.1) ⟨e.1, e.2.1⟩).2.1
    · rfl
end RUL
theorem u1_self {β : Type} (f : Nat → β) (a : Nat) : u1 f a (f a) = f := by
  funext b
  by_cases hb : b = a
  · subst hb
    exact u1_s _ _ _
  · exact u1_n _ _ hb
theorem uI_self {β : Type} (f : Int → β) (a : Int) : uI f a (f a) = f := by
  funext b
  by_cases hb : b = a
  · subst hb
    exact uI_s _ _ _
  · exact uI_n _ _ hb
theorem c_hide (w : Wd) (μ : Mem) (G : Nat → Nat) (N : Int) (s : Sg) (a h : Int) (hR : Rc μ G s) (hO : okS N s) (h32 : in32 a) (hh32 : in32 h) : cM w yX5_hide cX5_hide 5 (some .int) 10 30 1000 [.ref (G 0), .int (J a), .int (J h)] μ (okP G μ (spHide a h s)) (erP G μ (spHide a h s) [(eX, 1), (eS, 2)]) := by
  obtain ⟨p1, p2⟩ := hh32
  obtain ⟨q, clk, dm, ob, ru, rn, rs, nb, tr⟩ := s
  have hS := hR.1
  have hq : μ.2.1 5 3 (G 0) = q := hR.2.2.1
  have hc : μ.2.1 5 4 (G 0) = clk := hR.2.2.2.1
  have hqk := hO.2.1
  have hqi := hqk.1
  have hci := hO.2.2.1
  have g0 := hS.1.1
  obtain ⟨r, hr⟩ : ∃ r, r = spHide a h (q, clk, dm, ob, ru, rn, rs, nb, tr) := ⟨_, rfl⟩
  rw [← hr]
  refine cM_of (fun x C => ?_)
  refine z_aload_n C dX5_hide_0 rfl ?_
  refine z_iload_n C dX5_hide_1 rfl ?_
  refine z_callV C (c_agentNumbered w μ (G 0) (G 1) (G 2) (G 3) (gA G) a 1 6 (fun _ => by decide) hS.1 hS.2.1 h32) qM_X5_61 dX5_hide_2 rfl (zRc_o g0) (fun E μ' h => ?_) ?_
  · obtain ⟨rfl, hb, rfl⟩ := h
    rw [hr, spHide, if_pos (Or.inl hb)]
    exact ⟨by simp, hR, Fc_rf _ _⟩
  rintro v μ2 ⟨ha, rfl, rfl⟩
  obtain ⟨j, rfl⟩ : ∃ j : Nat, a = (j : Int) := ⟨a.toNat, by omega⟩
  have hj : j < 4 := by omega
  rw [show ((j : Int)).toNat = j from rfl]
  have gAj := (hS.2.2 j hj).1
  obtain ⟨hI, hl20, hRu⟩ := Rc_its hR hO hj
  have hpRu := hR.2.2.2.2.2.2.1 j hj
  have hru2 := ((hO.2.2.2.1 j hj).2.2.2.1 q).1
  have good : (0 ≤ h ∧ h ≤ 2) → Z w x (zQ w x (okP G μ2 r) (erP G μ2 r [(eX, 1), (eS, 2)]) 30 1000) 5 30 [(0, .ref (G 0)), (1, .int (J (j : Int))), (2, .int (J h)), (3, .ref (gA G j))] [] μ2 (0 + 1) (0 + 6) := by
    intro hh
    refine z_aload_n C dX5_hide_30 rfl ?_
    refine z_aload_n C dX5_hide_31 rfl ?_
    refine z_geti C qF_X5_26 dX5_hide_32 (by assumption) ?_
    rw [hq]
    refine z_callV C (c_ruleOf w μ2 (gA G j) (gL G j) (gP G j) (gU G j) (gN G j) q (hS.2.2 j hj) hRu hqi) qM_X5_134 dX5_hide_35 rfl (zRc_o gAj) (fun _ _ h => h.elim) ?_
    rintro v μ3 ⟨rfl, rfl⟩
    rw [hpRu.2.2.1 q]
    have set : ¬ (ru j q = 0 ∧ h ≠ 0 ∧ 10 ≤ rn j) → Z w x (zQ w x (okP G μ3 r) (erP G μ3 r [(eX, 1), (eS, 2)]) 30 1000) 5 68 [(0, .ref (G 0)), (1, .int (J (j : Int))), (2, .int (J h)), (3, .ref (gA G j)), (4, .int (J (ru j q)))] [] μ3 1 6 := by
      intro hno
      have fin : r = (0, ru j q, q, clk, dm, ob, u1 ru j (uI (ru j) q h), u1 rn j (rn j + nz h - nz (ru j q)), rs, nb, tr) := by rw [hr, spHide, if_neg (by omega), show ((j : Int)).toNat = j from rfl, if_neg hno]
      refine z_aload_n C dX5_hide_68 rfl ?_
      refine z_aload_n C dX5_hide_69 rfl ?_
      refine z_geti C qF_X5_26 dX5_hide_70 (by assumption) ?_
      refine z_iload_n C dX5_hide_73 rfl ?_
      rw [hq]
      refine z_callV C (c_setRule w μ3 (gA G j) (gL G j) (gP G j) (gU G j) (gN G j) q h (hS.2.2 j hj) hRu (gne hR.2.1 (by omega) (by omega) (by omega)) hqi hh) qM_X5_142 dX5_hide_74 rfl (zRc_o gAj) (fun _ _ h => h.elim) ?_
      rintro v μ4 ⟨rfl, hset⟩
      refine z_iload C dX5_hide_77 rfl ?_
      refine z_iret C dX5_hide_79 ?_
      rw [fin]
      rcases hset with ⟨f, f1, f2, f3, rfl⟩ | ⟨hfull, rfl⟩
      · have K := Rc_ru hR hj (rul_set hpRu hqi hh ⟨f1, f2⟩ f3)
        exact ⟨rfl, rfl, K.1, K.2⟩
      · obtain ⟨k1, k2, k3⟩ := rul_full hpRu hfull
        have h0 : h = 0 := Classical.byContradiction fun e => hno ⟨k1, e, k2⟩
        rw [k3, mU_self, h0, k1, show uI (ru j) q 0 = ru j by rw [← k1]; exact uI_self _ _, u1_self, show rn j + nz 0 - nz 0 = rn j by omega, u1_self]
        exact ⟨rfl, rfl, hR, Fc_rf _ _⟩
    refine z_istore C dX5_hide_38 ?_
    refine z_iload C dX5_hide_40 rfl ?_
    refine z_if_ne (tgt := 68) C dX5_hide_42 (by decide) (by omega) (fun g1 => ?_) (fun g1 => ?_)
    · exact z_ls _ (by exact ⟨rfl, rfl, rfl, rfl, rfl, trivial⟩) (set (fun e => g1 e.1))
    · refine z_iload_n C dX5_hide_45 rfl ?_
      refine z_if_eq (tgt := 68) C dX5_hide_46 (by decide) (by omega) (fun g2 => ?_) (fun g2 => ?_)
      · exact z_ls _ (by exact ⟨rfl, rfl, rfl, rfl, rfl, trivial⟩) (set (fun e => e.2.1 g2))
      · refine z_aload_n C dX5_hide_49 rfl ?_
        refine z_callV C (c_countRules w μ3 (gA G j) (gL G j) (gP G j) (gU G j) (gN G j) (hS.2.2 j hj) hRu) qM_X5_137 dX5_hide_50 rfl (zRc_o gAj) (fun _ _ h => h.elim) ?_
        rintro v μ4 ⟨rfl, rfl⟩
        rw [hpRu.2.2.2]
        have hrn := (hO.2.2.2.1 j hj).2.2.2.2.1
        refine z_bipush C dX5_hide_53 ?_
        refine z_icmp_lt (tgt := 68) C dX5_hide_55 (by decide) (by omega) (fun g3 => ?_) (fun g3 => ?_)
        · exact z_ls _ (by exact ⟨rfl, rfl, rfl, rfl, rfl, trivial⟩) (set (fun e => by omega))
        · exact z_throw C qT_S qS_140 dX5_hide_58 dX5_hide_61 dX5_hide_62 dX5_hide_64 dX5_hide_67 (by rw [hr, spHide, if_neg (by omega), show ((j : Int)).toNat = j from rfl, if_pos ⟨g1, g2, g3⟩]; exact ⟨by simp, hR, Fc_rf _ _⟩)
  refine z_astore_n C dX5_hide_5 ?_
  refine z_iload_n C dX5_hide_6 rfl ?_
  refine z_if_eq (tgt := 30) C dX5_hide_7 (by decide) (by omega) (fun g1 => ?_) (fun g1 => ?_)
  · exact z_ls _ (by exact ⟨rfl, rfl, rfl, rfl, trivial⟩) (good (by omega))
  · refine z_iload_n C dX5_hide_10 rfl ?_
    refine z_iconst C dX5_hide_11 ?_
    refine z_icmp_eq (tgt := 30) C dX5_hide_12 (by decide) (by omega) (fun g2 => ?_) (fun g2 => ?_)
    · exact z_ls _ (by exact ⟨rfl, rfl, rfl, rfl, trivial⟩) (good (by omega))
    · refine z_iload_n C dX5_hide_15 rfl ?_
      refine z_iconst C dX5_hide_16 ?_
      refine z_icmp_eq (tgt := 30) C dX5_hide_17 (by decide) (by omega) (fun g3 => ?_) (fun g3 => ?_)
      · exact z_ls _ (by exact ⟨rfl, rfl, rfl, rfl, trivial⟩) (good (by omega))
      · exact z_throw C qT_X qS_132 dX5_hide_20 dX5_hide_23 dX5_hide_24 dX5_hide_26 dX5_hide_29 (by rw [hr, spHide, if_pos (Or.inr (by omega))]; exact ⟨by simp, hR, Fc_rf _ _⟩)
