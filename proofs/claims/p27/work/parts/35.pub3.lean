/-! sorting, rates, traps told, reach, halves -/
theorem c_nextBySorting (w : Wd) (μ : Mem) (G : Nat → Nat) (N : Int) (s : Sg) (a : Int) (hR : Rc μ G s) (hO : okS N s) (h32 : in32 a) : cM w yX5_nextBySorting cX5_nextBySorting 2 (some .int) 10 30 1000 [.ref (G 0), .int (J a)] μ (okP G μ (spSort a s)) (erP G μ (spSort a s) [(eX, 1)]) := by
  obtain ⟨q, clk, dm, ob, ru, rn, rs, nb, tr⟩ := s
  have hS := hR.1
  have hq : μ.2.1 5 3 (G 0) = q := hR.2.2.1
  have hc : μ.2.1 5 4 (G 0) = clk := hR.2.2.2.1
  have hqk := hO.2.1
  have hqi := hqk.1
  have hci := hO.2.2.1
  have g0 := hS.1.1
  obtain ⟨r, hr⟩ : ∃ r, r = spSort a (q, clk, dm, ob, ru, rn, rs, nb, tr) := ⟨_, rfl⟩
  rw [← hr]
  refine cM_of (fun x C => ?_)
  refine z_aload_n C dX5_nextBySorting_0 rfl ?_
  refine z_aload_n C dX5_nextBySorting_1 rfl ?_
  refine z_iload_n C dX5_nextBySorting_2 rfl ?_
  refine z_callV C (c_agentNumbered w μ (G 0) (G 1) (G 2) (G 3) (gA G) a 1 6 (fun _ => by decide) hS.1 hS.2.1 h32) qM_X5_61 dX5_nextBySorting_3 rfl (zRc_o g0) (fun E μ' h => ?_) ?_
  · obtain ⟨rfl, hb, rfl⟩ := h
    rw [hr, spSort, if_pos hb]
    exact ⟨by simp, hR, Fc_rf _ _⟩
  rintro v μ2 ⟨ha, rfl, rfl⟩
  obtain ⟨j, rfl⟩ : ∃ j : Nat, a = (j : Int) := ⟨a.toNat, by omega⟩
  have hj : j < 4 := by omega
  rw [show ((j : Int)).toNat = j from rfl]
  have gAj := (hS.2.2 j hj).1
  obtain ⟨hI, hl20, hRu⟩ := Rc_its hR hO hj
  have fin : r = (0, vO (ob j) (nx (dm j) (ru j) q), q, clk, dm, ob, ru, rn, rs, nb, tr) := by rw [hr, spSort, if_neg (by omega)]; rfl
  have hR0 := hR
  obtain ⟨h1, h2, h3, h4, h5, h6, h7, h8, h9, h10, h11, h12⟩ := hR
  refine z_callV C (c_sortShownOf w μ2 (G 0) (G 1) (G 2) (G 3) (gA G j) (gL G j) (gP G j) (gU G j) (gN G j) hS.1 (hS.2.2 j hj) hI hl20 hRu ⟨h11, h12⟩ (gne h2 (by omega) (by omega) (by omega))) qM_X5_125 dX5_nextBySorting_6 rfl (zRc_o g0) (fun _ _ h => h.elim) ?_
  rintro v μ3 ⟨rfl, cur, rfl, hc1, hc2, hc3⟩
  have hmem : ∀ z ∈ cur, z ∈ μ2.2.2.2.2.2 (gL G j) := fun z hz => ((hc1 z).mp hz).1
  obtain ⟨hR3, hF3⟩ := Rc_sorted hR0 (l := cur) ⟨fun z hz => hI.1 z (hmem z hz), by omega⟩
  have e3 : (sL μ2 (G 3) cur).2.2.2.2.2 (G 3) = cur := sL_s
  refine z_aload_n C dX5_nextBySorting_9 rfl ?_
  refine z_aload_n C dX5_nextBySorting_10 rfl ?_
  refine z_geti C qF_X5_26 dX5_nextBySorting_11 (by assumption) ?_
  rw [show (sL μ2 (G 3) cur).2.1 5 3 (G 0) = q from hq]
  refine z_callV C (c_firstSortedBehind w (sL μ2 (G 3) cur) (G 0) (G 1) (G 2) (G 3) q hS.1 (by rw [e3]; exact ⟨fun z hz => hI.1 z (hmem z hz), by omega, fun z hz => hI.2.2 z (hmem z hz)⟩) hqi) qM_X5_129 dX5_nextBySorting_14 rfl (zRc_o g0) (fun _ _ h => h.elim) ?_
  rintro v μ4 ⟨rfl, y, rfl, hy⟩
  rw [e3] at hy
  have hnx : isNx μ2 (μ2.2.2.2.1 (gU G j)) (μ2.2.2.2.1 (gP G j)) (μ2.2.2.2.2.2 (gL G j)) q y := by
    cases y with
    | none =>
      intro z hz hh
      have := hy z ((hc1 z).mpr ⟨hz, hh.2⟩)
      have h9 : (sL μ2 (G 3) cur).2.1 1 0 z = μ2.2.1 1 0 z := rfl
      omega
    | some y =>
      obtain ⟨k1, i, k2, k3⟩ := hy
      have hyc := (hc1 y).mp (List.mem_of_getElem? k2)
      refine ⟨hyc.1, k1, hyc.2, fun z hz g1 g2 => ?_⟩
      obtain ⟨i', hi'⟩ := List.getElem?_of_mem ((hc1 z).mpr ⟨hz, g2⟩)
      rcases Nat.lt_trichotomy i' i with h | h | h
      · have h8 := k3 i' z h hi'
        have h9 : (sL μ2 (G 3) cur).2.1 1 0 z = μ2.2.1 1 0 z := rfl
        omega
      · subst h
        rw [k2] at hi'
        cases hi'
        exact Int.le_refl _
      · obtain ⟨p1, p2⟩ := List.getElem?_eq_some_iff.mp k2
        obtain ⟨p3, p4⟩ := List.getElem?_eq_some_iff.mp hi'
        have := List.pairwise_iff_getElem.mp hc2 i i' p1 p3 h
        rw [p2, p4] at this
        exact this
  obtain ⟨e1, e2⟩ := Rc_nx hR0 hj hnx
  refine z_callS C (c_valueOf w (sL μ2 (G 3) cur) y (fun z hz => (e2 z hz).2)) qM_X5_98 dX5_nextBySorting_17 rfl (fun _ _ h => h.elim) ?_
  rintro v μ5 ⟨rfl, rfl⟩
  have hv : vOf (sL μ2 (G 3) cur) y = vO (ob j) (nx (dm j) (ru j) q) := by
    rw [e1]
    cases y with
    | none => rfl
    | some y => exact (e2 y rfl).1
  rw [hv]
  exact z_iret C dX5_nextBySorting_20 (by rw [fin]; exact ⟨rfl, rfl, hR3, hF3⟩)
theorem Rc_trS {μ : Mem} {G : Nat → Nat} {N q clk : Int} {dm : Nat → List Int} {ob : Nat → Int → Ob} {ru : Nat → Int → Int} {rn rs : Nat → Int} {nb : Nat → Int → Int} {tr : List Trp} (hR : Rc μ G (q, clk, dm, ob, ru, rn, rs, nb, tr)) (hO : okS N (q, clk, dm, ob, ru, rn, rs, nb, tr)) : trS μ (μ.2.2.2.2.2 (G 2)) ∧ (μ.2.2.2.2.2 (G 2)).length = tr.length := by
  obtain ⟨t1, t2, t3⟩ := hR.2.2.2.2.2.2.2.2.2.1
  obtain ⟨o1, -, o3, -, o5, o6⟩ := hO
  refine ⟨⟨fun t ht => ?_, by omega⟩, t1⟩
  obtain ⟨i, hi⟩ := List.getElem?_of_mem ht
  have hlt := (List.getElem?_eq_some_iff.mp hi).1
  obtain ⟨x, hx⟩ : ∃ x, tr[i]? = some x := ⟨_, List.getElem?_eq_getElem (by omega)⟩
  obtain ⟨k0, k1, k2, k3, k4⟩ := t3 i t x hi hx
  obtain ⟨l1, l2, l3, l4⟩ := o6 x (List.mem_of_getElem? hx)
  have k1' : μ.2.1 4 0 t = x.1 := k1
  have k2' : μ.2.1 4 1 t = x.2.1 := k2
  have k3' : μ.2.1 4 2 t = x.2.2.1 := k3
  have k4' : μ.2.1 4 3 t = x.2.2.2 := k4
  obtain ⟨m1, m2⟩ := l1
  obtain ⟨⟨m3, m4⟩, -⟩ := l2
  exact ⟨k0, by omega, by omega, by omega, by omega⟩
theorem c_traps (w : Wd) (μ : Mem) (G : Nat → Nat) (N : Int) (s : Sg) (hR : Rc μ G s) (hO : okS N s) : cM w yX5_traps cX5_traps 1 (some .int) 10 0 0 [.ref (G 0)] μ (okP G μ (spTraps s)) (fun _ _ => False) := by
  obtain ⟨q, clk, dm, ob, ru, rn, rs, nb, tr⟩ := s
  obtain ⟨g0, g1, g2, g3, g4, g5, g6⟩ := hR.1.1
  have ht := hR.2.2.2.2.2.2.2.2.2.1.1
  refine cM_of (fun x C => ?_)
  refine z_aload_n C dX5_traps_0 rfl ?_
  refine z_getr C _ qF_X5_19 dX5_traps_1 (by assumption) (by assumption) ?_
  refine z_callV C (c_size w μ (G 2) 0 g5) qM_X5_80 dX5_traps_4 rfl (zRc_l g5) (fun _ _ h => h.elim) ?_
  rintro v μ2 ⟨rfl, rfl⟩
  rw [ht]
  exact z_iret C dX5_traps_7 ⟨rfl, rfl, hR, Fc_rf _ _⟩
theorem c_trapOf (w : Wd) (μ : Mem) (G : Nat → Nat) (N : Int) (s : Sg) (t : Int) (hR : Rc μ G s) (hO : okS N s) (h32 : in32 t) : cM w yX5_trapOf cX5_trapOf 2 (some .int) 10 2 20 [.ref (G 0), .int (J t)] μ (okP G μ (spTold (fun x => x.1) t s)) (erP G μ (spTold (fun x => x.1) t s) [(eX, 1)]) := by
  obtain ⟨q, clk, dm, ob, ru, rn, rs, nb, tr⟩ := s
  have hS := hR.1
  have hq : μ.2.1 5 3 (G 0) = q := hR.2.2.1
  have hc : μ.2.1 5 4 (G 0) = clk := hR.2.2.2.1
  have hqk := hO.2.1
  have hqi := hqk.1
  have hci := hO.2.2.1
  have g0 := hS.1.1
  obtain ⟨r, hr⟩ : ∃ r, r = spTold (fun x => x.1) t (q, clk, dm, ob, ru, rn, rs, nb, tr) := ⟨_, rfl⟩
  rw [← hr]
  refine cM_of (fun x C => ?_)
  obtain ⟨hT, hTl⟩ := Rc_trS hR hO
  refine z_aload_n C dX5_trapOf_0 rfl ?_
  refine z_iload_n C dX5_trapOf_1 rfl ?_
  refine z_callV C (c_trapNumbered w μ (G 0) (G 1) (G 2) (G 3) t hS.1 (fun y hy => (hT.1 y hy).1) (by have := hT.2; omega) h32) qM_X5_187 dX5_trapOf_2 rfl (zRc_o g0) (fun E μ' h => ?_) ?_
  · obtain ⟨rfl, hb, rfl⟩ := h
    rw [hr, spTold, if_neg (by omega)]
    exact ⟨by simp, hR, Fc_rf _ _⟩
  rintro v μ2 ⟨⟨y, h0, hy, rfl⟩, rfl⟩
  have hlt := (List.getElem?_eq_some_iff.mp hy).1
  obtain ⟨x0, hx⟩ : ∃ x, tr[t.toNat]? = some x := ⟨_, List.getElem?_eq_getElem (by omega)⟩
  obtain ⟨⟨n0, k0⟩, k1, k2, k3, k4⟩ := hR.2.2.2.2.2.2.2.2.2.1.2.2 _ y x0 hy hx
  refine z_geti C qF_X5_191 dX5_trapOf_5 k0 ?_
  have e : μ2.2.1 4 0 y = x0.1 := k1
  rw [e]
  exact z_iret C dX5_trapOf_8 (by rw [hr, spTold, if_pos (by omega), hx]; exact ⟨rfl, rfl, hR, Fc_rf _ _⟩)
theorem c_trapAt (w : Wd) (μ : Mem) (G : Nat → Nat) (N : Int) (s : Sg) (t : Int) (hR : Rc μ G s) (hO : okS N s) (h32 : in32 t) : cM w yX5_trapAt cX5_trapAt 2 (some .int) 10 2 20 [.ref (G 0), .int (J t)] μ (okP G μ (spTold (fun x => x.2.2.1) t s)) (erP G μ (spTold (fun x => x.2.2.1) t s) [(eX, 1)]) := by
  obtain ⟨q, clk, dm, ob, ru, rn, rs, nb, tr⟩ := s
  have hS := hR.1
  have hq : μ.2.1 5 3 (G 0) = q := hR.2.2.1
  have hc : μ.2.1 5 4 (G 0) = clk := hR.2.2.2.1
  have hqk := hO.2.1
  have hqi := hqk.1
  have hci := hO.2.2.1
  have g0 := hS.1.1
  obtain ⟨r, hr⟩ : ∃ r, r = spTold (fun x => x.2.2.1) t (q, clk, dm, ob, ru, rn, rs, nb, tr) := ⟨_, rfl⟩
  rw [← hr]
  refine cM_of (fun x C => ?_)
  obtain ⟨hT, hTl⟩ := Rc_trS hR hO
  refine z_aload_n C dX5_trapAt_0 rfl ?_
  refine z_iload_n C dX5_trapAt_1 rfl ?_
  refine z_callV C (c_trapNumbered w μ (G 0) (G 1) (G 2) (G 3) t hS.1 (fun y hy => (hT.1 y hy).1) (by have := hT.2; omega) h32) qM_X5_187 dX5_trapAt_2 rfl (zRc_o g0) (fun E μ' h => ?_) ?_
  · obtain ⟨rfl, hb, rfl⟩ := h
    rw [hr, spTold, if_neg (by omega)]
    exact ⟨by simp, hR, Fc_rf _ _⟩
  rintro v μ2 ⟨⟨y, h0, hy, rfl⟩, rfl⟩
  have hlt := (List.getElem?_eq_some_iff.mp hy).1
  obtain ⟨x0, hx⟩ : ∃ x, tr[t.toNat]? = some x := ⟨_, List.getElem?_eq_getElem (by omega)⟩
  obtain ⟨⟨n0, k0⟩, k1, k2, k3, k4⟩ := hR.2.2.2.2.2.2.2.2.2.1.2.2 _ y x0 hy hx
  refine z_geti C qF_X5_196 dX5_trapAt_5 k0 ?_
  have e : μ2.2.1 4 2 y = x0.2.2.1 := k3
  rw [e]
  exact z_iret C dX5_trapAt_8 (by rw [hr, spTold, if_pos (by omega), hx]; exact ⟨rfl, rfl, hR, Fc_rf _ _⟩)
theorem Rc_nm {μ : Mem} {G : Nat → Nat} {N q clk : Int} {dm : Nat → List Int} {ob : Nat → Int → Ob} {ru : Nat → Int → Int} {rn rs : Nat → Int} {nb : Nat → Int → Int} {tr : List Trp} (hR : Rc μ G (q, clk, dm, ob, ru, rn, rs, nb, tr)) (hO : okS N (q, clk, dm, ob, ru, rn, rs, nb, tr)) : nbS μ G ∧ ∀ i j, i < 4 → nm μ G i j = nmS nb i j := by
  have h9 := hR.2.2.2.2.2.2.2.2.1
  refine ⟨fun j hj t => ?_, fun i j hi => ?_⟩
  · rw [h9 j hj]
    exact (hO.2.2.2.1 j hj).2.2.2.2.2.2.1 t
  · unfold nm nmS
    rw [h9 i hi]
theorem wlI_congr {f g : Nat → Nat → Bool} (h : ∀ i j, i < 4 → f i j = g i j) (s : Int) {one : Nat} (h1 : one < 4) : ∀ (n o : Nat) (wd : Int), n + o = 4 → wlI f s one n o wd = wlI g s one n o wd
  | 0, _, _, _ => rfl
  | n + 1, o, wd, hn => by
    rw [wlI, wlI, h one o h1, h o one (by omega), wlI_congr h s h1 n (o + 1) _ (by omega)]
theorem wlO_congr {f g : Nat → Nat → Bool} (h : ∀ i j, i < 4 → f i j = g i j) (s : Int) : ∀ (n one : Nat) (wd : Int), n + one = 4 → wlO f s n one wd = wlO g s n one wd
  | 0, _, _, _ => rfl
  | n + 1, one, wd, hn => by
    rw [wlO, wlO, wlI_congr h s (by omega) 4 0 wd rfl, wlO_congr h s n (one + 1) _ (by omega)]
theorem c_reach (w : Wd) (μ : Mem) (G : Nat → Nat) (N : Int) (s : Sg) (a : Int) (hR : Rc μ G s) (hO : okS N s) (h32 : in32 a) : cM w yX5_reach cX5_reach 4 (some .int) 10 2 20 [.ref (G 0), .int (J a)] μ (okP G μ (spReach a s)) (erP G μ (spReach a s) [(eX, 1)]) := by
  obtain ⟨q, clk, dm, ob, ru, rn, rs, nb, tr⟩ := s
  have hS := hR.1
  have hq : μ.2.1 5 3 (G 0) = q := hR.2.2.1
  have hc : μ.2.1 5 4 (G 0) = clk := hR.2.2.2.1
  have hqk := hO.2.1
  have hqi := hqk.1
  have hci := hO.2.2.1
  have g0 := hS.1.1
  obtain ⟨r, hr⟩ : ∃ r, r = spReach a (q, clk, dm, ob, ru, rn, rs, nb, tr) := ⟨_, rfl⟩
  rw [← hr]
  refine cM_of (fun x C => ?_)
  obtain ⟨hnb, hnm⟩ := Rc_nm hR hO
  refine z_aload_n C dX5_reach_0 rfl ?_
  refine z_iload_n C dX5_reach_1 rfl ?_
  refine z_callV C (c_agentNumbered w μ (G 0) (G 1) (G 2) (G 3) (gA G) a 1 6 (fun _ => by decide) hS.1 hS.2.1 h32) qM_X5_61 dX5_reach_2 rfl (zRc_o g0) (fun E μ' h => ?_) ?_
  · obtain ⟨rfl, hb, rfl⟩ := h
    rw [hr, spReach, if_pos hb]
    exact ⟨by simp, hR, Fc_rf _ _⟩
  rintro v μ2 ⟨ha, rfl, rfl⟩
  obtain ⟨j, rfl⟩ : ∃ j : Nat, a = (j : Int) := ⟨a.toNat, by omega⟩
  have hj : j < 4 := by omega
  rw [show ((j : Int)).toNat = j from rfl]
  have gAj := (hS.2.2 j hj).1
  obtain ⟨hI, hl20, hRu⟩ := Rc_its hR hO hj
  have fin : r = (0, wl3 (nmS nb) (wl3 (nmS nb) (wl3 (nmS nb) ((2 ^ j : Nat) : Int))), q, clk, dm, ob, ru, rn, rs, nb, tr) := by rw [hr, spReach, if_neg (by omega)]; rfl
  have hw3 : ∀ z, wl3 (nm μ2 G) z = wl3 (nmS nb) z := fun z => wlO_congr hnm z 4 0 z rfl
  have h2j : ∀ i : Fin 4, 0 ≤ ((2 ^ i.val : Nat) : Int) ∧ ((2 ^ i.val : Nat) : Int) ≤ 15 := by decide
  have h2 := h2j ⟨j, hj⟩
  simp only at h2
  refine z_pop (v := .ref (gA G j)) C dX5_reach_5 ?_
  refine z_iconst C dX5_reach_6 ?_
  refine z_iload_n C dX5_reach_7 rfl ?_
  refine z_ishl C (1 * ((2 ^ j : Nat) : Int)) (J_ishl j (by omega) (by omega) (by omega)) dX5_reach_8 ?_
  rw [Int.one_mul]
  refine z_istore_n C dX5_reach_9 ?_
  refine z_iconst C dX5_reach_10 ?_
  refine z_istore_n C dX5_reach_11 ?_
  refine z_iload_n C dX5_reach_12 rfl ?_
  refine z_iconst C dX5_reach_13 ?_
  refine z_icmp_ge (tgt := 29) C dX5_reach_14 (by decide) (by omega) (fun g => ?_) (fun g => ?_)
  · omega
  refine z_aload_n C dX5_reach_17 rfl ?_
  refine z_iload_n C dX5_reach_18 rfl ?_
  refine z_callV C (c_withLinksOf w μ2 G _ hS hnb h2) qM_X5_212 dX5_reach_19 rfl (zRc_o g0) (fun _ _ h => h.elim) ?_
  rintro v μ3 ⟨rfl, rfl⟩
  have h3 := wlO_in (nm μ3 G) ((2 ^ j : Nat) : Int) 4 0 _ h2
  refine z_istore_n C dX5_reach_22 ?_
  refine z_iinc C dX5_reach_23 rfl ?_
  refine z_goto (tgt := 12) C dX5_reach_26 (by decide) ?_
  refine z_iload_n C dX5_reach_12 rfl ?_
  refine z_iconst C dX5_reach_13 ?_
  refine z_icmp_ge (tgt := 29) C dX5_reach_14 (by decide) (by omega) (fun g => ?_) (fun g => ?_)
  · omega
  refine z_aload_n C dX5_reach_17 rfl ?_
  refine z_iload_n C dX5_reach_18 rfl ?_
  refine z_callV C (c_withLinksOf w μ3 G _ hS hnb h3) qM_X5_212 dX5_reach_19 rfl (zRc_o g0) (fun _ _ h => h.elim) ?_
  rintro v μ4 ⟨rfl, rfl⟩
  have h4 := wlO_in (nm μ4 G) (wl3 (nm μ4 G) ((2 ^ j : Nat) : Int)) 4 0 _ h3
  refine z_istore_n C dX5_reach_22 ?_
  refine z_iinc C dX5_reach_23 rfl ?_
  refine z_goto (tgt := 12) C dX5_reach_26 (by decide) ?_
  refine z_iload_n C dX5_reach_12 rfl ?_
  refine z_iconst C dX5_reach_13 ?_
  refine z_icmp_ge (tgt := 29) C dX5_reach_14 (by decide) (by omega) (fun g => ?_) (fun g => ?_)
  · omega
  refine z_aload_n C dX5_reach_17 rfl ?_
  refine z_iload_n C dX5_reach_18 rfl ?_
  refine z_callV C (c_withLinksOf w μ4 G _ hS hnb h4) qM_X5_212 dX5_reach_19 rfl (zRc_o g0) (fun _ _ h => h.elim) ?_
  rintro v μ5 ⟨rfl, rfl⟩
  refine z_istore_n C dX5_reach_22 ?_
  refine z_iinc C dX5_reach_23 rfl ?_
  refine z_goto (tgt := 12) C dX5_reach_26 (by decide) ?_
  refine z_iload_n C dX5_reach_12 rfl ?_
  refine z_iconst C dX5_reach_13 ?_
  refine z_icmp_ge (tgt := 29) C dX5_reach_14 (by decide) (by omega) (fun g => ?_) (fun g => ?_)
  · refine z_iload_n C dX5_reach_29 rfl ?_
    exact z_iret C dX5_reach_30 (by rw [fin, ← hw3, ← hw3, ← hw3]; exact ⟨rfl, rfl, hR, Fc_rf _ _⟩)
  · omega
def hvI (ln : Nat → Nat → Bool) (i : Nat) : Nat → Nat → Int → Int
  | 0, _, c => c
  | f + 1, o, c => hvI ln i f (o + 1) (c + hf ln i o)
def hvO (ln : Nat → Nat → Bool) : Nat → Nat → Int → Int
  | 0, _, c => c
  | f + 1, i, c => hvO ln f (i + 1) (hvI ln i (3 - i) (i + 1) c)
theorem hv_eq (ln : Nat → Nat → Bool) : hvO ln 4 0 0 = hf ln 0 1 + hf ln 0 2 + hf ln 0 3 + hf ln 1 2 + hf ln 1 3 + hf ln 2 3 := by
  show 0 + hf ln 0 1 + hf ln 0 2 + hf ln 0 3 + hf ln 1 2 + hf ln 1 3 + hf ln 2 3 = _
  omega
theorem c_halves (w : Wd) (μ : Mem) (G : Nat → Nat) (N : Int) (s : Sg) (hR : Rc μ G s) (hO : okS N s) : cM w yX5_halves cX5_halves 4 (some .int) 10 0 0 [.ref (G 0)] μ (okP G μ (spHalves s)) (fun _ _ => False) := by
  obtain ⟨q, clk, dm, ob, ru, rn, rs, nb, tr⟩ := s
  have hS := hR.1
  have hq : μ.2.1 5 3 (G 0) = q := hR.2.2.1
  have hc : μ.2.1 5 4 (G 0) = clk := hR.2.2.2.1
  have hqk := hO.2.1
  have hqi := hqk.1
  have hci := hO.2.2.1
  have g0 := hS.1.1
  obtain ⟨r, hr⟩ : ∃ r, r = spHalves (q, clk, dm, ob, ru, rn, rs, nb, tr) := ⟨_, rfl⟩
  rw [← hr]
  refine cM_of (fun x C => ?_)
  obtain ⟨hnb, hnm⟩ := Rc_nm hR hO
  have fin : r = (0, hvO (nmS nb) 4 0 0, q, clk, dm, ob, ru, rn, rs, nb, tr) := by rw [hr, spHalves, hv_eq]
  obtain ⟨V, hV⟩ : ∃ V, V = hvO (nmS nb) 4 0 0 := ⟨_, rfl⟩
  rw [← hV] at fin
  have hfi : ∀ i j, 0 ≤ hf (nmS nb) i j ∧ hf (nmS nb) i j ≤ 1 := fun i j => by unfold hf; split <;> omega
  have outer : ∀ (f i : Nat) (c : Int), f + i = 4 → 0 ≤ c ∧ c ≤ 4 * i → V = hvO (nmS nb) f i c → Z w x (zQ w x (okP G μ r) (fun _ _ => False) 0 0) 4 4 [(0, .ref (G 0)), (1, .int (J c)), (2, .int (J (i : Int)))] [] μ 0 0 := by
    intro f
    induction f with
    | zero =>
      intro i c hfi' hc hv
      refine z_iload_n C dX5_halves_4 rfl ?_
      refine z_iconst C dX5_halves_5 ?_
      refine z_icmp_ge (tgt := 48) C dX5_halves_6 (by decide) (by omega) (fun g => ?_) (fun g => ?_)
      · refine z_iload_n C dX5_halves_48 rfl ?_
        exact z_iret C dX5_halves_49 (by rw [fin, hv]; exact ⟨rfl, rfl, hR, Fc_rf _ _⟩)
      · omega
    | succ f ih =>
      intro i c hfi' hc hv
      refine z_iload_n C dX5_halves_4 rfl ?_
      refine z_iconst C dX5_halves_5 ?_
      refine z_icmp_ge (tgt := 48) C dX5_halves_6 (by decide) (by omega) (fun g => ?_) (fun g => ?_)
      · omega
      · refine z_iload_n C dX5_halves_9 rfl ?_
        refine z_iconst C dX5_halves_10 ?_
        refine z_iadd C dX5_halves_11 ?_
        refine z_istore_n C dX5_halves_12 ?_
        have inner : ∀ (n o : Nat) (c : Int), n + o = 4 → i < o → 0 ≤ c ∧ c ≤ 4 * i + (o - i - 1 : Int) → V = hvO (nmS nb) f (i + 1) (hvI (nmS nb) i n o c) → Z w x (zQ w x (okP G μ r) (fun _ _ => False) 0 0) 4 13 [(0, .ref (G 0)), (1, .int (J c)), (2, .int (J (i : Int))), (3, .int (J (o : Int)))] [] μ 0 0 := by
          intro n
          induction n with
          | zero =>
            intro o c hn hio hc hv
            refine z_iload_n C dX5_halves_13 rfl ?_
            refine z_iconst C dX5_halves_14 ?_
            refine z_icmp_ge (tgt := 42) C dX5_halves_15 (by decide) (by omega) (fun g2 => ?_) (fun g2 => ?_)
            · refine z_iinc C dX5_halves_42 rfl ?_
              refine z_goto (tgt := 4) C dX5_halves_45 (by decide) ?_
              exact z_ls _ (by exact ⟨rfl, rfl, rfl, trivial⟩) (ih (i + 1) c (by omega) (by omega) hv)
            · omega
          | succ n ihn =>
            intro o c hn hio hc hv
            refine z_iload_n C dX5_halves_13 rfl ?_
            refine z_iconst C dX5_halves_14 ?_
            refine z_icmp_ge (tgt := 42) C dX5_halves_15 (by decide) (by omega) (fun g2 => ?_) (fun g2 => ?_)
            · omega
            · refine z_aload_n C dX5_halves_18 rfl ?_
              refine z_iload_n C dX5_halves_19 rfl ?_
              refine z_iload_n C dX5_halves_20 rfl ?_
              refine z_callV C (c_names w μ G i o hS hnb (by omega) (by omega)) qM_X5_215 dX5_halves_21 rfl (zRc_o g0) (fun _ _ h => h.elim) ?_
              rintro v μ3 ⟨rfl, rfl⟩
              refine z_aload_n C dX5_halves_24 rfl ?_
              refine z_iload_n C dX5_halves_25 rfl ?_
              refine z_iload_n C dX5_halves_26 rfl ?_
              refine z_callV C (c_names w μ3 G o i hS hnb (by omega) (by omega)) qM_X5_215 dX5_halves_27 rfl (zRc_o g0) (fun _ _ h => h.elim) ?_
              rintro v μ4 ⟨rfl, rfl⟩
              rw [hnm i o (by omega), hnm o i (by omega)]
              have z1 := zB_in (nmS nb i o)
              have z2 := zB_in (nmS nb o i)
              have hinj : zB (nmS nb i o) = zB (nmS nb o i) ↔ nmS nb i o = nmS nb o i := by cases nmS nb i o <;> cases nmS nb o i <;> decide
              rw [hvI] at hv
              refine z_icmp_eq (tgt := 36) C dX5_halves_30 (by decide) (by omega) (fun g3 => ?_) (fun g3 => ?_)
              · refine z_iinc C dX5_halves_36 rfl ?_
                refine z_goto (tgt := 13) C dX5_halves_39 (by decide) ?_
                refine z_ls _ (by exact ⟨rfl, rfl, rfl, rfl, trivial⟩) (ihn (o + 1) c (by omega) (by omega) (by omega) ?_)
                rw [show hf (nmS nb) i o = 0 from if_pos (hinj.mp g3), Int.add_zero] at hv
                exact hv
              · refine z_iinc C dX5_halves_33 rfl ?_
                refine z_iinc C dX5_halves_36 rfl ?_
                refine z_goto (tgt := 13) C dX5_halves_39 (by decide) ?_
                refine z_ls _ (by exact ⟨rfl, rfl, rfl, rfl, trivial⟩) (ihn (o + 1) (c + 1) (by omega) (by omega) (by omega) ?_)
                rw [show hf (nmS nb) i o = 1 from if_neg (fun h => g3 (hinj.mpr h))] at hv
                exact hv
        rw [hvO] at hv
        exact z_ls _ (by exact ⟨rfl, rfl, rfl, rfl, trivial⟩) (inner (3 - i) (i + 1) c (by omega) (by omega) (by omega) hv)
  refine z_iconst C dX5_halves_0 ?_
  refine z_istore_n C dX5_halves_1 ?_
  refine z_iconst C dX5_halves_2 ?_
  refine z_istore_n C dX5_halves_3 ?_
  exact z_ls _ (by exact ⟨rfl, rfl, rfl, trivial⟩) (outer 4 0 0 rfl (by omega) hV)
