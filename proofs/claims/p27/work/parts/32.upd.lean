/-! changes of the class's cells, and of the state -/
theorem sI_cf {μ : Mem} {c k a : Nat} {v : Int} {c' : Nat} (h : c' ≠ c) : (sI μ c k a v).2.1 c' = μ.2.1 c' := u3_cf _ _ h
theorem sR_cf {μ : Mem} {c k a : Nat} {v : Option Nat} {c' : Nat} (h : c' ≠ c) : (sR μ c k a v).2.2.1 c' = μ.2.2.1 c' := u3_cf _ _ h
theorem sI_a {μ : Mem} {c k a : Nat} {v : Int} (c' k' : Nat) {x : Nat} (h : x ≠ a) : (sI μ c k a v).2.1 c' k' x = μ.2.1 c' k' x := (sm_I h).2.1 c' k'
theorem sR_a {μ : Mem} {c k a : Nat} {v : Option Nat} (c' k' : Nat) {x : Nat} (h : x ≠ a) : (sR μ c k a v).2.2.1 c' k' x = μ.2.2.1 c' k' x := (sm_R h).2.2.1 c' k'
theorem gne {G : Nat → Nat} (h : injG G) {m m' : Nat} (hm : m < 24) (hm' : m' < 24) (hn : m ≠ m') : G m ≠ G m' := fun e => hn (h m m' hm hm' e)
section UPD
variable {μ : Mem} {G : Nat → Nat} {q clk : Int} {dm : Nat → List Int} {ob : Nat → Int → Ob} {ru : Nat → Int → Int} {rn rs : Nat → Int} {nb : Nat → Int → Int} {tr : List Trp}
theorem Rc_q (h : Rc μ G (q, clk, dm, ob, ru, rn, rs, nb, tr)) (v : Int) : Rc (sI μ 5 3 (G 0) v) G (v, clk, dm, ob, ru, rn, rs, nb, tr) ∧ Fc μ (sI μ 5 3 (G 0) v) G := by
  obtain ⟨h1, h2, h3, h4, h5, h6, h7, h8, h9, h10, h11, h12⟩ := h
  refine ⟨⟨h1, h2, sI_s, (sI_k 5 _ (by decide)).trans h4, ?_, h6, h7, ?_, h9, ?_, h11, h12⟩, fun a ha => sm_I (ha.2 0 (by decide))⟩
  · rw [sI_cf (c' := 1) (by decide), sI_cf (c' := 2) (by decide), sI_cf (c' := 3) (by decide)]
    exact h5
  · rw [sI_cf (c' := 0) (by decide)]
    exact h8
  · rw [sI_cf (c' := 4) (by decide)]
    exact h10
theorem Rc_clk (h : Rc μ G (q, clk, dm, ob, ru, rn, rs, nb, tr)) (v : Int) : Rc (sI μ 5 4 (G 0) v) G (q, v, dm, ob, ru, rn, rs, nb, tr) ∧ Fc μ (sI μ 5 4 (G 0) v) G := by
  obtain ⟨h1, h2, h3, h4, h5, h6, h7, h8, h9, h10, h11, h12⟩ := h
  refine ⟨⟨h1, h2, (sI_k 5 _ (by decide)).trans h3, sI_s, ?_, h6, h7, ?_, h9, ?_, h11, h12⟩, fun a ha => sm_I (ha.2 0 (by decide))⟩
  · rw [sI_cf (c' := 1) (by decide), sI_cf (c' := 2) (by decide), sI_cf (c' := 3) (by decide)]
    exact h5
  · rw [sI_cf (c' := 0) (by decide)]
    exact h8
  · rw [sI_cf (c' := 4) (by decide)]
    exact h10
theorem Rc_rst (h : Rc μ G (q, clk, dm, ob, ru, rn, rs, nb, tr)) {j : Nat} (hj : j < 4) (v : Int) : Rc (sI μ 0 4 (gA G j) v) G (q, clk, dm, ob, ru, rn, u1 rs j v, nb, tr) ∧ Fc μ (sI μ 0 4 (gA G j) v) G := by
  obtain ⟨h1, h2, h3, h4, h5, h6, h7, h8, h9, h10, h11, h12⟩ := h
  refine ⟨⟨h1, h2, (sI_c _ _ (by decide)).trans h3, (sI_c _ _ (by decide)).trans h4, ?_, h6, h7, fun i hi => ?_, h9, ?_, h11, h12⟩, fun a ha => sm_I (ha.2 (4 + 5 * j) (by omega))⟩
  · rw [sI_cf (c' := 1) (by decide), sI_cf (c' := 2) (by decide), sI_cf (c' := 3) (by decide)]
    exact h5
  · by_cases hij : i = j
    · subst hij
      rw [sI_s, u1_s]
    · rw [sI_a 0 4 (gne h2 (by omega) (by omega) (by omega)), u1_n _ _ hij]
      exact h8 i hi
  · rw [sI_cf (c' := 4) (by decide)]
    exact h10
theorem mU_a {μ : Mem} {a x : Nat} {f : Int → Int} (h : x ≠ a) : (mU μ a f).2.2.2.1 x = μ.2.2.2.1 x := u1_n _ _ h
theorem Rc_nb (h : Rc μ G (q, clk, dm, ob, ru, rn, rs, nb, tr)) {j : Nat} (hj : j < 4) (f : Int → Int) : Rc (mU μ (gN G j) f) G (q, clk, dm, ob, ru, rn, rs, u1 nb j f, tr) ∧ Fc μ (mU μ (gN G j) f) G := by
  obtain ⟨h1, h2, h3, h4, h5, h6, h7, h8, h9, h10, h11, h12⟩ := h
  refine ⟨⟨h1, h2, h3, h4, h5, h6, fun i hi => ?_, h8, fun i hi => ?_, h10, h11, h12⟩, fun a ha => sm_U (ha.2 (8 + 5 * j) (by omega))⟩
  · rw [mU_a (gne h2 (m := 7 + 5 * i) (m' := 8 + 5 * j) (by omega) (by omega) (by omega)), mU_a (gne h2 (m := 6 + 5 * i) (m' := 8 + 5 * j) (by omega) (by omega) (by omega))]
    exact h7 i hi
  · by_cases hij : i = j
    · subst hij
      rw [mU_s, u1_s]
    · rw [mU_a (gne h2 (by omega) (by omega) (by omega)), u1_n _ _ hij]
      exact h9 i hi
theorem Rc_ru (h : Rc μ G (q, clk, dm, ob, ru, rn, rs, nb, tr)) {j : Nat} (hj : j < 4) {R P : Int → Int} {f : Int → Int} {n : Int} (hp : pRu R P f n) : Rc (mU (mU μ (gU G j) R) (gP G j) P) G (q, clk, dm, ob, u1 ru j f, u1 rn j n, rs, nb, tr) ∧ Fc μ (mU (mU μ (gU G j) R) (gP G j) P) G := by
  obtain ⟨h1, h2, h3, h4, h5, h6, h7, h8, h9, h10, h11, h12⟩ := h
  refine ⟨⟨h1, h2, h3, h4, h5, h6, fun i hi => ?_, h8, fun i hi => ?_, h10, h11, h12⟩, fun a ha => sm_tr (sm_U (ha.2 (7 + 5 * j) (by omega))) (sm_U (ha.2 (6 + 5 * j) (by omega)))⟩
  · by_cases hij : i = j
    · subst hij
      rw [mU_a (gne h2 (m := 7 + 5 * i) (m' := 6 + 5 * i) (by omega) (by omega) (by omega)), mU_s, mU_s, u1_s, u1_s]
      exact hp
    · rw [mU_a (gne h2 (m := 7 + 5 * i) (m' := 6 + 5 * j) (by omega) (by omega) (by omega)), mU_a (gne h2 (m := 7 + 5 * i) (m' := 7 + 5 * j) (by omega) (by omega) (by omega)), mU_a (gne h2 (m := 6 + 5 * i) (m' := 6 + 5 * j) (by omega) (by omega) (by omega)), mU_a (gne h2 (m := 6 + 5 * i) (m' := 7 + 5 * j) (by omega) (by omega) (by omega)), u1_n _ _ hij, u1_n _ _ hij]
      exact h7 i hi
  · rw [mU_a (gne h2 (m := 8 + 5 * i) (m' := 6 + 5 * j) (by omega) (by omega) (by omega)), mU_a (gne h2 (m := 8 + 5 * i) (m' := 7 + 5 * j) (by omega) (by omega) (by omega))]
    exact h9 i hi
theorem sL_n {μ : Mem} {a x : Nat} {l : List Nat} (h : x ≠ a) : (sL μ a l).2.2.2.2.2 x = μ.2.2.2.2.2 x := u1_n _ _ h
theorem sL_s {μ : Mem} {a : Nat} {l : List Nat} : (sL μ a l).2.2.2.2.2 a = l := u1_s _ _ _
theorem Rc_sorted (h : Rc μ G (q, clk, dm, ob, ru, rn, rs, nb, tr)) {l : List Nat} (hl : zAll μ 1 l ∧ l.length ≤ 1000) : Rc (sL μ (G 3) l) G (q, clk, dm, ob, ru, rn, rs, nb, tr) ∧ Fc μ (sL μ (G 3) l) G := by
  obtain ⟨h1, h2, h3, h4, h5, h6, h7, h8, h9, h10, h11, h12⟩ := h
  have e : ∀ j, j < 4 → (sL μ (G 3) l).2.2.2.2.2 (gL G j) = μ.2.2.2.2.2 (gL G j) := fun j hj => sL_n (gne h2 (by omega) (by omega) (by omega))
  refine ⟨⟨h1, h2, h3, h4, fun j hj => ?_, ⟨fun i j y hi hj => ?_, fun i j y z m hi hj => ?_⟩, h7, h8, h9, ?_, ?_, ?_⟩, fun a ha => sm_L (ha.2 3 (by decide))⟩
  · rw [e j hj]
    exact h5 j hj
  · rw [e i hi, e j hj]
    exact h6.1 i j y hi hj
  · rw [e i hi, e j hj]
    exact h6.2 i j y z m hi hj
  · rw [sL_n (gne h2 (m := 2) (m' := 3) (by decide) (by decide) (by decide))]
    exact h10
  · rw [sL_s]
    exact hl.1
  · rw [sL_s]
    exact hl.2
/-- another list of items of agent j -/
theorem Rc_items (h : Rc μ G (q, clk, dm, ob, ru, rn, rs, nb, tr)) {j : Nat} (hj : j < 4) {l : List Nat} {dm2 : List Int} {ob2 : Int → Ob} (hl : pIt μ.1 (μ.2.1 1) (μ.2.1 2) (μ.2.1 3) (μ.2.2.1 1) l dm2 ob2) (hd1 : ∀ i y, i < 4 → y ∈ l → y ∈ μ.2.2.2.2.2 (gL G i) → i = j) (hd2 : ∀ i y z m, i < 4 → y ∈ l → z ∈ μ.2.2.2.2.2 (gL G i) → μ.2.2.1 1 3 y = some m → μ.2.2.1 1 3 z = some m → y = z) (hd3 : ∀ y z m, y ∈ l → z ∈ l → μ.2.2.1 1 3 y = some m → μ.2.2.1 1 3 z = some m → y = z) : Rc (sL μ (gL G j) l) G (q, clk, u1 dm j dm2, u1 ob j ob2, ru, rn, rs, nb, tr) ∧ Fc μ (sL μ (gL G j) l) G := by
  obtain ⟨h1, h2, h3, h4, h5, h6, h7, h8, h9, h10, h11, h12⟩ := h
  have es : (sL μ (gL G j) l).2.2.2.2.2 (gL G j) = l := sL_s
  have e : ∀ i, i < 4 → i ≠ j → (sL μ (gL G j) l).2.2.2.2.2 (gL G i) = μ.2.2.2.2.2 (gL G i) := fun i hi hij => sL_n (gne h2 (by omega) (by omega) (by omega))
  refine ⟨⟨h1, h2, h3, h4, fun i hi => ?_, ⟨fun i i' y hi hi' => ?_, fun i i' y z m hi hi' => ?_⟩, h7, h8, h9, ?_, ?_, ?_⟩, fun a ha => sm_L (ha.2 (5 + 5 * j) (by omega))⟩
  · by_cases hij : i = j
    · subst hij
      rw [es, u1_s, u1_s]
      exact hl
    · rw [e i hi hij, u1_n _ _ hij, u1_n _ _ hij]
      exact h5 i hi
  · by_cases hij : i = j <;> by_cases hij' : i' = j
    · intro _ _; rw [hij, hij']
    · subst hij
      rw [es, e i' hi' hij']
      exact fun a b => (hd1 i' y hi' a b).symm
    · subst hij'
      rw [es, e i hi hij]
      exact fun a b => hd1 i y hi b a
    · rw [e i hi hij, e i' hi' hij']
      exact h6.1 i i' y hi hi'
  · by_cases hij : i = j <;> by_cases hij' : i' = j
    · rw [hij, hij', es]
      exact hd3 y z m
    · subst hij
      rw [es, e i' hi' hij']
      exact hd2 i' y z m hi'
    · subst hij'
      rw [es, e i hi hij]
      exact fun a b c d => (hd2 i z y m hi b a d c).symm
    · rw [e i hi hij, e i' hi' hij']
      exact h6.2 i i' y z m hi hi'
  · rw [sL_n (gne h2 (m := 2) (m' := 5 + 5 * j) (by decide) (by omega) (by omega))]
    exact h10
  · rw [sL_n (gne h2 (m := 3) (m' := 5 + 5 * j) (by decide) (by omega) (by omega))]
    exact h11
  · rw [sL_n (gne h2 (m := 3) (m' := 5 + 5 * j) (by decide) (by omega) (by omega))]
    exact h12
/-- the item y of agent j is another one -/
theorem Rc_item {μ' : Mem} (h : Rc μ G (q, clk, dm, ob, ru, rn, rs, nb, tr)) {j y : Nat} {o : Ob} (hj : j < 4) (hy : y ∈ μ.2.2.2.2.2 (gL G j)) (hnd : (dm j).Nodup) (hT : μ'.1 = μ.1) (hI : ∀ c, c ≠ 1 → c ≠ 2 → μ'.2.1 c = μ.2.1 c) (h0 : μ'.2.1 1 0 = μ.2.1 1 0) (hz : ∀ k z, z ≠ y → μ'.2.1 1 k z = μ.2.1 1 k z) (hR : ∀ c, c ≠ 1 → μ'.2.2.1 c = μ.2.2.1 c) (hzR : ∀ k z, z ≠ y → μ'.2.2.1 1 k z = μ.2.2.1 1 k z) (hA : μ'.2.2.2 = μ.2.2.2) (h2' : ∀ i z m, i < 4 → z ∈ μ.2.2.2.2.2 (gL G i) → z ≠ y → μ.2.2.1 1 3 z = some m → ∀ k, μ'.2.1 2 k m = μ.2.1 2 k m) (hi : itm μ'.1 (μ'.2.1 1) (μ'.2.1 2) (μ'.2.1 3) (μ'.2.2.1 1) y o) (hm : ∀ i z m, i < 4 → z ∈ μ.2.2.2.2.2 (gL G i) → z ≠ y → μ'.2.2.1 1 3 y = some m → μ.2.2.1 1 3 z ≠ some m) : Rc μ' G (q, clk, dm, uO ob j (μ.2.1 1 0 y) o, ru, rn, rs, nb, tr) := by
  obtain ⟨h1, h2, h3, h4, h5, h6, h7, h8, h9, h10, h11, h12⟩ := h
  obtain ⟨T', FI', FR', A', AR', L'⟩ := μ'
  obtain ⟨T, FI, FR, A, AR, L⟩ := μ
  simp only at hT hI h0 hz hR hzR hA h2' hi hm
  cases hA
  subst hT
  refine ⟨csS_sm h1 (fun m hm => ⟨rfl, fun c k => ?_, rfl⟩), h2, ?_, ?_, fun i hi' => ?_, ⟨h6.1, fun i i' z z' m g1 g2 g3 g4 g5 g6 => ?_⟩, h7, fun i hi' => ?_, h9, ?_, h11, h12⟩
  · show FR' c k (G m) = FR c k (G m)
    by_cases hc : c = 1
    · subst hc
      refine hzR k (G m) (fun e => ?_)
      obtain ⟨n0, hn⟩ := (h5 j hj).1 y hy
      obtain ⟨t, n, ht, hh⟩ := csS_T h1 hm
      rw [e] at ht
      have hn' : T' y = some (1, n0) := hn
      have ht' : T' y = some (t, n) := ht
      rw [hn'] at ht'
      cases ht'
      omega
    · rw [hR c hc]
  · show FI' 5 3 (G 0) = q
    rw [hI 5 (by decide) (by decide)]
    exact h3
  · show FI' 5 4 (G 0) = clk
    rw [hI 5 (by decide) (by decide)]
    exact h4
  · obtain ⟨p1, p2, p3⟩ := h5 i hi'
    refine ⟨p1, ?_, fun z hz' => ?_⟩
    · show ((L' (gL G i)).map (FI' 1 0)).Perm (dm i)
      rw [h0]
      exact p2
    · show itm T' (FI' 1) (FI' 2) (FI' 3) (FR' 1) z (uO ob j (FI 1 0 y) o i (FI' 1 0 z))
      rw [h0]
      by_cases hzy : z = y
      · subst hzy
        have hij : i = j := h6.1 i j z hi' hj hz' hy
        subst hij
        unfold uO
        rw [u1_s, uI_s]
        exact hi
      · have hu : uO ob j (FI 1 0 y) o i (FI 1 0 z) = ob i (FI 1 0 z) := by
          unfold uO
          by_cases hij : i = j
          · subst hij
            rw [u1_s, uI_n _ _ (fun e => hzy (pIt_inj (h5 i hi') hnd hz' hy e))]
          · rw [u1_n _ _ hij]
        rw [hu]
        obtain ⟨i1, i2, i3, i4, i5⟩ := p3 z hz'
        refine ⟨(hz 1 z hzy).trans i1, (hz 2 z hzy).trans i2, ?_, ?_, ?_⟩
        · rw [hzR 3 z hzy]
          exact mkM_congr i3 (fun m hmm _ => ⟨rfl, h2' i z m hi' hz' hzy hmm⟩)
        · rw [hzR 4 z hzy, hI 3 (by decide) (by decide)]
          exact i4
        · rw [hzR 5 z hzy, hI 3 (by decide) (by decide)]
          exact i5
  · by_cases e1 : z = y <;> by_cases e2 : z' = y
    · rw [e1, e2]
    · subst e1
      have g6' : FR' 1 3 z' = some m := g6
      rw [hzR 3 z' e2] at g6'
      exact absurd g6' (hm i' z' m g2 g4 e2 g5)
    · subst e2
      have g5' : FR' 1 3 z = some m := g5
      rw [hzR 3 z e1] at g5'
      exact absurd g5' (hm i z m g1 g3 e1 g6)
    · have g5' : FR' 1 3 z = some m := g5
      have g6' : FR' 1 3 z' = some m := g6
      rw [hzR 3 z e1] at g5'
      rw [hzR 3 z' e2] at g6'
      exact h6.2 i i' z z' m g1 g2 g3 g4 g5' g6'
  · show FI' 0 4 (gA G i) = rs i
    rw [hI 0 (by decide) (by decide)]
    exact h8 i hi'
  · show pTr T' (FI' 4) (L' (G 2)) tr
    rw [hI 4 (by decide) (by decide)]
    exact h10
/-- the traps are others -/
theorem Rc_traps (h : Rc μ G (q, clk, dm, ob, ru, rn, rs, nb, tr)) {l : List Nat} {tr2 : List Trp} {F4 : Nat → Nat → Int} (hl : pTr μ.1 F4 l tr2) {μ' : Mem} (e1 : μ'.1 = μ.1) (e2 : ∀ c, c ≠ 4 → μ'.2.1 c = μ.2.1 c) (e3 : μ'.2.2.1 = μ.2.2.1) (e4 : μ'.2.2.2.1 = μ.2.2.2.1) (e5 : μ'.2.2.2.2.1 = μ.2.2.2.2.1) (e6 : μ'.2.2.2.2.2 = u1 (μ.2.2.2.2.2) (G 2) l) (e7 : μ'.2.1 4 = F4) : Rc μ' G (q, clk, dm, ob, ru, rn, rs, nb, tr2) := by
  obtain ⟨h1, h2, h3, h4, h5, h6, h7, h8, h9, h10, h11, h12⟩ := h
  obtain ⟨T', FI', FR', A', AR', L'⟩ := μ'
  obtain ⟨T, FI, FR, A, AR, L⟩ := μ
  simp only at e1 e2 e3 e4 e5 e6 e7
  subst e1 e3 e4 e5 e6 e7
  have e : ∀ j, j < 4 → u1 L (G 2) l (gL G j) = L (gL G j) := fun j hj => u1_n _ _ (gne h2 (by omega) (by omega) (by omega))
  refine ⟨h1, h2, ?_, ?_, fun j hj => ?_, ⟨fun i j y hi hj => ?_, fun i j y z m hi hj => ?_⟩, h7, fun j hj => ?_, h9, ?_, ?_, ?_⟩
  · show FI' 5 3 (G 0) = q
    rw [e2 5 (by decide)]
    exact h3
  · show FI' 5 4 (G 0) = clk
    rw [e2 5 (by decide)]
    exact h4
  · show pIt T' (FI' 1) (FI' 2) (FI' 3) (FR' 1) (u1 L (G 2) l (gL G j)) (dm j) (ob j)
    rw [e j hj, e2 1 (by decide), e2 2 (by decide), e2 3 (by decide)]
    exact h5 j hj
  · show y ∈ u1 L (G 2) l (gL G i) → y ∈ u1 L (G 2) l (gL G j) → i = j
    rw [e i hi, e j hj]
    exact h6.1 i j y hi hj
  · show y ∈ u1 L (G 2) l (gL G i) → z ∈ u1 L (G 2) l (gL G j) → _
    rw [e i hi, e j hj]
    exact h6.2 i j y z m hi hj
  · show FI' 0 4 (gA G j) = rs j
    rw [e2 0 (by decide)]
    exact h8 j hj
  · show pTr T' (FI' 4) (u1 L (G 2) l (G 2)) tr2
    rw [u1_s]
    exact hl
  · show zAll _ 1 (u1 L (G 2) l (G 3))
    rw [u1_n _ _ (gne h2 (m := 3) (m' := 2) (by decide) (by decide) (by decide))]
    exact h11
  · show (u1 L (G 2) l (G 3)).length ≤ 1000
    rw [u1_n _ _ (gne h2 (m := 3) (m' := 2) (by decide) (by decide) (by decide))]
    exact h12
end UPD
