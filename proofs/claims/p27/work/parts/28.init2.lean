/-! the object's constructor -/
section ZG
variable {w : Wd} {x : Zc} {cc : ByteArray} {nL pc : Nat} {own : String} {rt : Option FieldType} {rm : Room} {nm : String} {ls : List (Nat × Value)} {st : List Value} {μ : Mem} {k n : Nat} {Q : State → Prop}
theorem z_aastoreG (C : Cx w x cc nL own rt rm nm) {a N v n0 : Nat} {i : Int} (d : decode cc pc = .ok (.aastore, 1)) (hT : μ.1 a = some (23, N)) (hi : 0 ≤ i ∧ i < (N : Int) ∧ i ≤ 2147483647) (hv : μ.1 v = some (0, n0))
    (kk : Z w x Q nL (pc + 1) ls st (sQ μ a i (some v)) k n) : Z w x Q nL pc ls (.ref v :: .int (J i) :: .ref a :: st) μ k n := by
  obtain ⟨p, e, R, s, m, args, below, meth, c⟩ := x
  obtain ⟨hx, hb, hml, ho, hts, hlk, hw, hrt, hR, hnm, hsz, het⟩ := C
  intro H locs la hH hS hL hC
  have hat := hHp_arr hH hT (by decide) (by decide)
  rw [zar_q (Or.inl rfl)] at hat
  have hin := J_in hi.1 hi.2.1 hi.2.2
  have hlt : (J i).toNatClampNeg < N := Nat.not_le.mp fun q => hin (Or.inr q)
  have h0 : ¬ J i < 0 := fun q => hin (Or.inl q)
  obtain ⟨cellV, g1, g3, g2⟩ := zrecv hw hH hv (q := (RX0, TX0, 5)) rfl (by decide)
  obtain ⟨kA, comp, k1, k2, k3, -⟩ := (zK_at hw (t := 3) (cA := wA w 23) (ty := .object "Managetree$Agent") rfl).2
  have hcomp : comp = cellV.cls := Option.some.inj (k3.symm.trans g2)
  subst hcomp
  obtain ⟨kC, hkC, -⟩ := Vm.findClass_spec g2
  have hcls := (hw.2.1.1 0 _ rfl).2
  have hcc : (wD w).1 0 = cellV.cls := Option.some.inj (hcls.1.symm.trans g2)
  refine W.aast hx hb (zP1 hat 0 _ rfl) (fun q h => by cases h) (fun h => by cases h) k1 k2 rfl hkC ⟨h0, by show _ < (arrV _ _ _).slots.size; rw [arrV_size]; exact hlt⟩ g1 (fun q h => by rw [h] at g3; cases g3) hkC (by rw [← hcc]; exact va_assign hcls) rfl rfl d fun H1 e1 z oq => ?_
  refine kk H1 _ la (hHp_step hH hT (by show (23 : Nat) ≠ 24; decide) rfl rfl z oq ?_ (fun b kd' hba => zent_congr kd' (fun _ _ => rfl) (fun _ _ => rfl) rfl (u2_af _ _ _ hba))) (zS_put hS z oq (hHp_wb hH hT)) hL hC
  show va_at (wD w) zCl (a, .inl (wA w 23, N, zar μ.2.2.2.1 (u2 μ.2.2.2.2.1 a i (some v)) 23 a)) H1
  rw [zar_q (Or.inl rfl)]
  show H1[a]? = some (vp_cell _ _)
  rw [e1, vp_cell_q, vp_cell_q, arrV_store, u2_e]
  congr 2
  exact zupd (h := va_rf) (v := some v) hi.1 hi.2.2 rfl
end ZG

/-- an agent as it is at first, at G's addresses -/
def ag0 (μ : Mem) (G : Nat → Nat) (j : Nat) : Prop := agS μ (gA G j) (gL G j) (gP G j) (gU G j) (gN G j) ∧ μ.2.2.2.2.2 (gL G j) = [] ∧ (∀ s, μ.2.2.2.1 (gP G j) s = 0) ∧ (∀ s, μ.2.2.2.1 (gU G j) s = 0) ∧ (∀ s, 0 ≤ s → s < 4 → μ.2.2.2.1 (gN G j) s = -1) ∧ (∀ s, -1 ≤ μ.2.2.2.1 (gN G j) s ∧ μ.2.2.2.1 (gN G j) s ≤ 0) ∧ μ.2.1 0 4 (gA G j) = 0
theorem ag0_sm {μ μ' : Mem} {G : Nat → Nat} {j : Nat} (h : ag0 μ G j) (s : ∀ m, 4 + 5 * j ≤ m → m < 9 + 5 * j → sm μ μ' (G m)) : ag0 μ' G j := by
  obtain ⟨⟨a1, a2, a3, a4, a5, a6, a7, a8, a9⟩, h1, h2, h3, h4, h5, h6⟩ := h
  have sA' := s (4 + 5 * j) (by omega) (by omega)
  have sL' := s (5 + 5 * j) (by omega) (by omega)
  have sP := s (6 + 5 * j) (by omega) (by omega)
  have sU := s (7 + 5 * j) (by omega) (by omega)
  have sN' := s (8 + 5 * j) (by omega) (by omega)
  exact ⟨⟨sA'.1.trans a1, (sA'.2.2.1 _ _).trans a2, (sA'.2.2.1 _ _).trans a3, (sA'.2.2.1 _ _).trans a4, (sA'.2.2.1 _ _).trans a5, sL'.1.trans a6, sP.1.trans a7, sU.1.trans a8, sN'.1.trans a9⟩, sL'.2.2.2.2.2.trans h1, fun t => (congrFun sP.2.2.2.1 t).trans (h2 t), fun t => (congrFun sU.2.2.2.1 t).trans (h3 t), fun t u v => (congrFun sN'.2.2.2.1 t).trans (h4 t u v), fun t => by rw [congrFun sN'.2.2.2.1 t]; exact h5 t, (sA'.2.1 _ _).trans h6⟩
theorem ag0_G {μ : Mem} {G G' : Nat → Nat} {j : Nat} (h : ag0 μ G j) (e : ∀ m, 4 + 5 * j ≤ m → m < 9 + 5 * j → G' m = G m) : ag0 μ G' j := by
  unfold ag0 gA gL gP gU gN
  rw [e (4 + 5 * j) (by omega) (by omega), e (5 + 5 * j) (by omega) (by omega), e (6 + 5 * j) (by omega) (by omega), e (7 + 5 * j) (by omega) (by omega), e (8 + 5 * j) (by omega) (by omega)]
  exact h
/-- indices that are there once i agents are made -/
def dG (i m : Nat) : Prop := m < 2 ∨ (4 ≤ m ∧ m < 4 + 5 * i)
/-- the object being built, i agents there, over μ -/
def inG (μ μ' : Mem) (g i : Nat) (G : Nat → Nat) : Prop := G 0 = g ∧ μ'.1 g = some (5, 0) ∧ μ'.2.2.1 5 0 g = some (G 1) ∧ μ'.1 (G 1) = some (23, 4) ∧ (∀ j : Nat, j < i → μ'.2.2.2.2.1 (G 1) (j : Int) = some (gA G j) ∧ ag0 μ' G j) ∧ (∀ a, μ.1 a ≠ none → a ≠ g → sm μ μ' a) ∧ (∀ m, dG i m → μ'.1 (G m) ≠ none) ∧ (∀ m m', dG i m → dG i m' → G m = G m' → m = m') ∧ (∀ m, dG i m → m ≠ 0 → μ.1 (G m) = none) ∧ (∀ a, μ'.1 a = none → μ.1 a = none)
theorem inG_step {μ μ1 μ2 : Mem} {g i q li rp ru ne : Nat} {G : Nat → Nat} (h : inG μ μ1 g i G) (hi : i < 4) (hq : μ1.1 q = none) (hn : nwA (sN μ1 q (0, 0)) μ2 q li rp ru ne) : μ2.1 (G 1) = some (23, 4) ∧ μ2.1 q = some (0, 0) ∧ μ2.1 g = some (5, 0) ∧ μ2.2.2.1 5 0 g = some (G 1) ∧ ∃ G', inG μ (sQ μ2 (G 1) (i : Int) (some q)) g (i + 1) G' := by
  obtain ⟨h0, hg, hr, hT, hA, hsm, hd, hinj, hfr, hno⟩ := h
  obtain ⟨a0, n1, n2, n3, n4, e1, e2, e3, e4, e5, e6, e7, e8, e9, e10, hs, v1, v2, v3, v4, v5, v6⟩ := hn
  have fresh : ∀ b, b ≠ q → (sN μ1 q (0, 0)).1 b = none → μ1.1 b = none := fun b hb h => by rw [← (sm_N (kd := (0, 0)) hb).1]; exact h
  have f1 := fresh li e7.symm n1
  have f2 := fresh rp e8.symm n2
  have f3 := fresh ru e9.symm n3
  have f4 := fresh ne e10.symm n4
  have old : ∀ a, μ1.1 a ≠ none → sm μ1 μ2 a := fun a ha => by
    have b0 : a ≠ q := fun e => ha (e ▸ hq)
    have b1 : a ≠ li := fun e => ha (e ▸ f1)
    have b2 : a ≠ rp := fun e => ha (e ▸ f2)
    have b3 : a ≠ ru := fun e => ha (e ▸ f3)
    have b4 : a ≠ ne := fun e => ha (e ▸ f4)
    exact sm_tr (sm_N b0) (hs a b0 b1 b2 b3 b4)
  have hg1 : μ1.1 g ≠ none := by rw [hg]; intro h; cases h
  have hT1 : μ1.1 (G 1) ≠ none := by rw [hT]; intro h; cases h
  have g1g : g ≠ G 1 := fun e => by have := hinj 0 1 (Or.inl (by decide)) (Or.inl (by decide)) (h0.trans e); cases this
  obtain ⟨nv, hnv⟩ : ∃ nv : Nat → Nat, nv = fun c => if c = 0 then q else if c = 1 then li else if c = 2 then rp else if c = 3 then ru else ne := ⟨_, rfl⟩
  have nvn : ∀ c, μ1.1 (nv c) = none := fun c => by
    rw [hnv]
    show μ1.1 (if _ then _ else _) = none
    split
    · exact hq
    · split
      · exact f1
      · split
        · exact f2
        · split
          · exact f3
          · exact f4
  have nvi : ∀ c c', c < c' → c' < 5 → nv c ≠ nv c' := by
    intro c c' hc hc'
    rw [hnv]
    rcases (by omega : c = 0 ∨ c = 1 ∨ c = 2 ∨ c = 3) with rfl | rfl | rfl | rfl <;> rcases (by omega : c' = 1 ∨ c' = 2 ∨ c' = 3 ∨ c' = 4) with rfl | rfl | rfl | rfl <;> first | omega | (simp; assumption)
  obtain ⟨G', hG'⟩ : ∃ G' : Nat → Nat, G' = fun m => if 4 + 5 * i ≤ m ∧ m < 9 + 5 * i then nv (m - (4 + 5 * i)) else G m := ⟨_, rfl⟩
  have Gold : ∀ m, ¬ (4 + 5 * i ≤ m ∧ m < 9 + 5 * i) → G' m = G m := fun m hm => by rw [hG']; exact if_neg hm
  have Gnew : ∀ c, c < 5 → G' (4 + 5 * i + c) = nv c := fun c hc => by
    rw [hG']
    show (if _ then _ else _) = _
    rw [if_pos (by omega), show 4 + 5 * i + c - (4 + 5 * i) = c by omega]
  have hm2 : μ2.1 (G 1) = some (23, 4) := (old _ hT1).1.trans hT
  have dcase : ∀ m, dG (i + 1) m → (dG i m ∧ ¬ (4 + 5 * i ≤ m ∧ m < 9 + 5 * i)) ∨ ∃ c, c < 5 ∧ m = 4 + 5 * i + c := fun m hm => by
    unfold dG at hm ⊢
    by_cases hc : 4 + 5 * i ≤ m ∧ m < 9 + 5 * i
    · exact Or.inr ⟨m - (4 + 5 * i), by omega, by omega⟩
    · exact Or.inl ⟨by omega, hc⟩
  have nvT : ∀ c, c < 5 → μ2.1 (nv c) ≠ none ∧ nv c ≠ G 1 := fun c hc => by
    refine ⟨?_, fun e => hT1 (e ▸ nvn c)⟩
    obtain ⟨z1, z2, z3, z4, z5, z6, z7, z8, z9⟩ := a0
    rw [hnv]
    rcases (by omega : c = 0 ∨ c = 1 ∨ c = 2 ∨ c = 3 ∨ c = 4) with rfl | rfl | rfl | rfl | rfl
    · simp [z1]
    · simp [z6]
    · simp [z7]
    · simp [z8]
    · simp [z9]
  refine ⟨hm2, a0.1, (old _ hg1).1.trans hg, ((old _ hg1).2.2.1 _ _).trans hr, G', ?_, ?_, ?_, ?_, ?_, ?_, ?_, ?_, ?_, ?_⟩
  · rw [Gold 0 (by omega)]; exact h0
  · exact (old _ hg1).1.trans hg
  · rw [Gold 1 (by omega)]
    exact ((old _ hg1).2.2.1 _ _).trans hr
  · rw [Gold 1 (by omega)]; exact hm2
  · intro j hj
    rw [Gold 1 (by omega)]
    by_cases hji : j = i
    · subst hji
      have k0 := Gnew 0 (by decide)
      have k1 := Gnew 1 (by decide)
      have k2 := Gnew 2 (by decide)
      have k3 := Gnew 3 (by decide)
      have k4 := Gnew 4 (by decide)
      have j0 : gA G' j = q := by show G' (4 + 5 * j) = q; rw [show 4 + 5 * j = 4 + 5 * j + 0 by omega, k0, hnv]; rfl
      have j1 : gL G' j = li := by show G' (5 + 5 * j) = li; rw [show 5 + 5 * j = 4 + 5 * j + 1 by omega, k1, hnv]; rfl
      have j2 : gP G' j = rp := by show G' (6 + 5 * j) = rp; rw [show 6 + 5 * j = 4 + 5 * j + 2 by omega, k2, hnv]; rfl
      have j3 : gU G' j = ru := by show G' (7 + 5 * j) = ru; rw [show 7 + 5 * j = 4 + 5 * j + 3 by omega, k3, hnv]; rfl
      have j4 : gN G' j = ne := by show G' (8 + 5 * j) = ne; rw [show 8 + 5 * j = 4 + 5 * j + 4 by omega, k4, hnv]; rfl
      refine ⟨?_, ?_⟩
      · rw [j0]
        exact u2_s _ _ _ _
      · unfold ag0
        rw [j0, j1, j2, j3, j4]
        exact ⟨a0, v1, v2, v3, v4, v5, v6⟩
    · obtain ⟨p1, p2⟩ := hA j (by omega)
      refine ⟨?_, ag0_sm (μ := μ1) (ag0_G p2 (fun m m1 m2 => Gold m (by omega))) (fun m m1 m2 => ?_)⟩
      · show u2 μ2.2.2.2.2.1 (G 1) (i : Int) (some q) (G 1) (j : Int) = some (G' (4 + 5 * j))
        rw [u2_i _ _ _ _ (by omega), congrFun (old _ hT1).2.2.2.2.1 (j : Int), p1, Gold (4 + 5 * j) (by omega)]
      · rw [Gold m (by omega)]
        have hmm := hd m (Or.inr ⟨by omega, by omega⟩)
        exact sm_tr (old _ hmm) (sm_Q (fun e => by have := hinj m 1 (Or.inr ⟨by omega, by omega⟩) (Or.inl (by decide)) e; omega))
  · intro a ha hag
    have h9 : μ1.1 a ≠ none := by rw [(hsm a ha hag).1]; exact ha
    exact sm_tr (sm_tr (hsm a ha hag) (old a h9)) (sm_Q (fun e => ha (e ▸ hfr 1 (Or.inl (by decide)) (by decide))))
  · intro m hm
    rcases dcase m hm with ⟨d1, d2⟩ | ⟨c, hc, rfl⟩
    · rw [Gold m d2]
      have h9 := hd m d1
      show μ2.1 (G m) ≠ none
      rw [(old _ h9).1]
      exact h9
    · rw [Gnew c hc]
      exact (nvT c hc).1
  · intro m m' hm hm' he
    rcases dcase m hm with ⟨d1, d2⟩ | ⟨c, hc, rfl⟩ <;> rcases dcase m' hm' with ⟨d1', d2'⟩ | ⟨c', hc', rfl⟩
    · rw [Gold m d2, Gold m' d2'] at he
      exact hinj m m' d1 d1' he
    · rw [Gold m d2, Gnew c' hc'] at he
      exact absurd (nvn c') (by rw [← he]; exact hd m d1)
    · rw [Gnew c hc, Gold m' d2'] at he
      exact absurd (nvn c) (by rw [he]; exact hd m' d1')
    · rw [Gnew c hc, Gnew c' hc'] at he
      rcases Nat.lt_trichotomy c c' with h | h | h
      · exact absurd he (nvi c c' h hc')
      · rw [h]
      · exact absurd he.symm (nvi c' c h hc)
  · intro m hm m0
    rcases dcase m hm with ⟨d1, d2⟩ | ⟨c, hc, rfl⟩
    · rw [Gold m d2]
      exact hfr m d1 m0
    · rw [Gnew c hc]
      exact hno _ (nvn c)
  · intro a ha
    refine hno a ?_
    cases h9 : μ1.1 a with
    | none => rfl
    | some kd =>
      have : μ2.1 a = some kd := (old a (by rw [h9]; intro h; cases h)).1.trans h9
      rw [show (sQ μ2 (G 1) (i : Int) (some q)).1 a = μ2.1 a from rfl, this] at ha
      cases ha
