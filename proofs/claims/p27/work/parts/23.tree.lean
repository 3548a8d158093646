/-! Managetree's own methods: the leaves -/
theorem qS_219 : (RX5, 219, "no such agent") ∈ zStr := List.mem_of_getElem? (i := 0) rfl
theorem qS_35 : (RX5, 35, "number is not 0 to 9") ∈ zStr := List.mem_of_getElem? (i := 1) rfl
theorem qS_46 : (RX5, 46, "the path has 4 numbers") ∈ zStr := List.mem_of_getElem? (i := 2) rfl
theorem qS_54 : (RX5, 54, "no such place") ∈ zStr := List.mem_of_getElem? (i := 3) rfl
theorem qS_65 : (RX5, 65, "no such kind") ∈ zStr := List.mem_of_getElem? (i := 4) rfl
theorem qS_225 : (RX5, 225, "not 0 to 999") ∈ zStr := List.mem_of_getElem? (i := 5) rfl
theorem qS_71 : (RX5, 71, "the path is empty") ∈ zStr := List.mem_of_getElem? (i := 6) rfl
theorem qS_84 : (RX5, 84, "the agent has 20 other objects") ∈ zStr := List.mem_of_getElem? (i := 7) rfl
theorem qS_223 : (RX5, 223, "there is no object") ∈ zStr := List.mem_of_getElem? (i := 8) rfl
theorem qS_123 : (RX5, 123, "most is not 1 to 30") ∈ zStr := List.mem_of_getElem? (i := 9) rfl
theorem qS_132 : (RX5, 132, "no such how") ∈ zStr := List.mem_of_getElem? (i := 10) rfl
theorem qS_140 : (RX5, 140, "the agent has 10 other paths that are hidden or shown") ∈ zStr := List.mem_of_getElem? (i := 11) rfl
theorem qS_149 : (RX5, 149, "the object is hidden") ∈ zStr := List.mem_of_getElem? (i := 12) rfl
theorem qS_168 : (RX5, 168, "low is not 0 to 998, or high is not low + 1 to 999") ∈ zStr := List.mem_of_getElem? (i := 13) rfl
theorem qS_182 : (RX5, 182, "minutes is not 1 to 1000") ∈ zStr := List.mem_of_getElem? (i := 14) rfl
theorem qS_185 : (RX5, 185, "the clock would be above 100000") ∈ zStr := List.mem_of_getElem? (i := 15) rfl
theorem qS_221 : (RX5, 221, "no such trap") ∈ zStr := List.mem_of_getElem? (i := 16) rfl
theorem qS_202 : (RX5, 202, "no such port") ∈ zStr := List.mem_of_getElem? (i := 17) rfl
theorem qS_204 : (RX5, 204, "no such other agent") ∈ zStr := List.mem_of_getElem? (i := 18) rfl
theorem qS_206 : (RX5, 206, "both agents are the same") ∈ zStr := List.mem_of_getElem? (i := 19) rfl
def in32 (a : Int) : Prop := -2147483648 ≤ a ∧ a ≤ 2147483647
/-- the object's own cells -/
def mtS (μ : Mem) (g ga gs gd : Nat) : Prop := μ.1 g = some (5, 0) ∧ μ.2.2.1 5 0 g = some ga ∧ μ.2.2.1 5 1 g = some gs ∧ μ.2.2.1 5 2 g = some gd ∧ μ.1 ga = some (23, 4) ∧ μ.1 gs = some (24, 0) ∧ μ.1 gd = some (24, 0)
abbrev eX : String := "java/lang/IndexOutOfBoundsException"
abbrev eA : String := "java/lang/IllegalArgumentException"
abbrev eS : String := "java/lang/IllegalStateException"
theorem c_agentNumbered (w : Wd) (μ : Mem) (g ga gs gd : Nat) (ag : Nat → Nat) (a : Int) (mc ms : Nat) (hr : ¬ (0 ≤ a ∧ a ≤ 3) → 1 ≤ mc ∧ 6 ≤ ms) (hM : mtS μ g ga gs gd) (hG : ∀ j : Nat, j < 4 → μ.2.2.2.2.1 ga (j : Int) = some (ag j)) (ha : in32 a) : cM w yX5_agentNumbered cX5_agentNumbered 2 (some (.object "Managetree$Agent")) 7 mc ms [.ref g, .int (J a)] μ (fun v μ' => (0 ≤ a ∧ a ≤ 3) ∧ v = some (.ref (ag a.toNat)) ∧ μ' = μ) (fun E μ' => E = eX ∧ ¬ (0 ≤ a ∧ a ≤ 3) ∧ μ' = μ) := by
  obtain ⟨h1, h2, h3, h4, h5, h6, h7⟩ := hM
  obtain ⟨b1, b2⟩ := ha
  refine cM_of (fun x C => ?_)
  have bad : ¬ (0 ≤ a ∧ a ≤ 3) → Z w x (zQ w x (fun v μ' => (0 ≤ a ∧ a ≤ 3) ∧ v = some (.ref (ag a.toNat)) ∧ μ' = μ) (fun E μ' => E = eX ∧ ¬ (0 ≤ a ∧ a ≤ 3) ∧ μ' = μ) mc ms) 2 9 [(0, .ref g), (1, .int (J a))] [] μ 0 0 := fun h => by
    have hr2 := hr h
    exact z_throw C qT_X qS_219 dX5_agentNumbered_9 dX5_agentNumbered_12 dX5_agentNumbered_13 dX5_agentNumbered_15 dX5_agentNumbered_18 ⟨rfl, h, rfl⟩
  refine z_iload_n C dX5_agentNumbered_0 rfl ?_
  refine z_if_lt (tgt := 9) C dX5_agentNumbered_1 (by decide) (by omega) (fun g1 => ?_) (fun g1 => ?_)
  · exact bad (by omega)
  · refine z_iload_n C dX5_agentNumbered_4 rfl ?_
    refine z_iconst C dX5_agentNumbered_5 ?_
    refine z_icmp_lt (tgt := 19) C dX5_agentNumbered_6 (by decide) (by omega) (fun g2 => ?_) (fun g2 => ?_)
    · refine z_aload_n C dX5_agentNumbered_19 rfl ?_
      refine z_getr C _ qF_X5_11 dX5_agentNumbered_20 (by assumption) (by assumption) ?_
      refine z_iload_n C dX5_agentNumbered_23 rfl ?_
      have e := hG a.toNat (by omega)
      rw [show ((a.toNat : Nat) : Int) = a by omega] at e
      refine z_aaloadr C (ag a.toNat) dX5_agentNumbered_24 h5 (by omega) e ?_
      exact z_aret C dX5_agentNumbered_25 ⟨by omega, rfl, rfl⟩
    · exact bad (by omega)
theorem c_trapNumbered (w : Wd) (μ : Mem) (g ga gs gd : Nat) (a : Int) (hM : mtS μ g ga gs gd) (hT : zAll μ 4 (μ.2.2.2.2.2 gs)) (hl : (μ.2.2.2.2.2 gs).length ≤ 1000) (ha : in32 a) : cM w yX5_trapNumbered cX5_trapNumbered 2 (some (.object "Managetree$Trap")) 7 1 6 [.ref g, .int (J a)] μ (fun v μ' => (∃ t, 0 ≤ a ∧ (μ.2.2.2.2.2 gs)[a.toNat]? = some t ∧ v = some (.ref t)) ∧ μ' = μ) (fun E μ' => E = eX ∧ ¬ (0 ≤ a ∧ a < ((μ.2.2.2.2.2 gs).length : Int)) ∧ μ' = μ) := by
  obtain ⟨h1, h2, h3, h4, h5, h6, h7⟩ := hM
  obtain ⟨b1, b2⟩ := ha
  refine cM_of (fun x C => ?_)
  have bad : ¬ (0 ≤ a ∧ a < ((μ.2.2.2.2.2 gs).length : Int)) → Z w x (zQ w x (fun v μ' => (∃ t, 0 ≤ a ∧ (μ.2.2.2.2.2 gs)[a.toNat]? = some t ∧ v = some (.ref t)) ∧ μ' = μ) (fun E μ' => E = eX ∧ ¬ (0 ≤ a ∧ a < ((μ.2.2.2.2.2 gs).length : Int)) ∧ μ' = μ) 1 6) 2 15 [(0, .ref g), (1, .int (J a))] [] μ 0 0 := fun h => z_throw C qT_X qS_221 dX5_trapNumbered_15 dX5_trapNumbered_18 dX5_trapNumbered_19 dX5_trapNumbered_21 dX5_trapNumbered_24 ⟨rfl, h, rfl⟩
  refine z_iload_n C dX5_trapNumbered_0 rfl ?_
  refine z_if_lt (tgt := 15) C dX5_trapNumbered_1 (by decide) (by omega) (fun g1 => ?_) (fun g1 => ?_)
  · exact bad (by omega)
  · refine z_iload_n C dX5_trapNumbered_4 rfl ?_
    refine z_aload_n C dX5_trapNumbered_5 rfl ?_
    refine z_getr C _ qF_X5_19 dX5_trapNumbered_6 (by assumption) (by assumption) ?_
    refine z_callV C (c_size w μ gs 0 h6) qM_X5_80 dX5_trapNumbered_9 rfl (zRc_l h6) (fun _ _ h => h.elim) ?_
    rintro v μ' ⟨rfl, rfl⟩
    refine z_icmp_lt (tgt := 25) C dX5_trapNumbered_12 (by decide) (by omega) (fun g2 => ?_) (fun g2 => ?_)
    · refine z_aload_n C dX5_trapNumbered_25 rfl ?_
      refine z_getr C _ qF_X5_19 dX5_trapNumbered_26 (by assumption) (by assumption) ?_
      refine z_iload_n C dX5_trapNumbered_29 rfl ?_
      obtain ⟨t, ht⟩ : ∃ t, (μ'.2.2.2.2.2 gs)[a.toNat]? = some t := ⟨_, List.getElem?_eq_getElem (by omega)⟩
      obtain ⟨n0, hn⟩ := hT t (List.mem_of_getElem? ht)
      rw [show J a = J ((a.toNat : Nat) : Int) by rw [show ((a.toNat : Nat) : Int) = a by omega]]
      refine z_callV C (c_get w μ' gs 0 a.toNat h6 (by omega) (by omega)) qM_X5_178 dX5_trapNumbered_30 rfl (zRc_l h6) (fun _ _ h => h.elim) ?_
      rintro v μ2 ⟨rfl, rfl⟩
      rw [show va_rf ((μ2.2.2.2.2.2 gs)[a.toNat]?) = va_rf (some t) by rw [ht]]
      refine z_cast C (r := some t) (ci := 4) (q := (RX4, TX4, 4)) dX5_trapNumbered_33 rfl qC_X5_192 (fun b hb => ⟨n0, by cases hb; exact hn⟩) ?_
      exact z_aret C dX5_trapNumbered_36 ⟨⟨t, by omega, ht, rfl⟩, rfl⟩
    · exact bad (by omega)
theorem c_checkValue (w : Wd) (μ : Mem) (a : Int) (ha : in32 a) : cM w yX5_checkValue cX5_checkValue 1 none 7 1 6 [.int (J a)] μ (fun v μ' => (0 ≤ a ∧ a ≤ 999) ∧ v = none ∧ μ' = μ) (fun E μ' => E = eA ∧ ¬ (0 ≤ a ∧ a ≤ 999) ∧ μ' = μ) := by
  obtain ⟨b1, b2⟩ := ha
  refine cM_of (fun x C => ?_)
  have bad : ¬ (0 ≤ a ∧ a ≤ 999) → Z w x (zQ w x (fun v μ' => (0 ≤ a ∧ a ≤ 999) ∧ v = none ∧ μ' = μ) (fun E μ' => E = eA ∧ ¬ (0 ≤ a ∧ a ≤ 999) ∧ μ' = μ) 1 6) 1 11 [(0, .int (J a))] [] μ 0 0 := fun h => z_throw C qT_A qS_225 dX5_checkValue_11 dX5_checkValue_14 dX5_checkValue_15 dX5_checkValue_17 dX5_checkValue_20 ⟨rfl, h, rfl⟩
  refine z_iload_n C dX5_checkValue_0 rfl ?_
  refine z_if_lt (tgt := 11) C dX5_checkValue_1 (by decide) (by omega) (fun g1 => ?_) (fun g1 => ?_)
  · exact bad (by omega)
  · refine z_iload_n C dX5_checkValue_4 rfl ?_
    refine z_sipush C dX5_checkValue_5 ?_
    refine z_icmp_le (tgt := 21) C dX5_checkValue_8 (by decide) (by omega) (fun g2 => ?_) (fun g2 => ?_)
    · exact z_vret C dX5_checkValue_21 ⟨by omega, rfl, rfl⟩
    · exact bad (by omega)
/-- an item's value, or NONE -/
def vOf (μ : Mem) (r : Option Nat) : Int := match r with
  | none => -1
  | some y => μ.2.1 1 2 y
theorem c_valueOf (w : Wd) (μ : Mem) (r : Option Nat) (hr : ∀ y, r = some y → ∃ n0, μ.1 y = some (1, n0)) : cM w yX5_valueOf cX5_valueOf 1 (some .int) 1 0 0 [va_rf r] μ (fun v μ' => v = some (.int (J (vOf μ r))) ∧ μ' = μ) (fun _ _ => False) := by
  refine cM_of (fun x C => ?_) (hcat := by cases r <;> simp [lv_args, va_rf, Value.category])
  refine z_ls [(0, va_rf r)] (by exact ⟨rfl, trivial⟩) ?_
  refine z_aload_n C dX5_valueOf_0 rfl ?_
  refine z_ifnonnull (tgt := 8) C dX5_valueOf_1 (by decide) (fun ga g => ?_) (fun g => ?_)
  · subst g
    obtain ⟨n0, hn⟩ := hr ga rfl
    refine z_aload_n C dX5_valueOf_8 rfl ?_
    refine z_geti C qF_X5_109 dX5_valueOf_9 hn ?_
    exact z_iret C dX5_valueOf_12 ⟨rfl, rfl⟩
  · subst g
    refine z_iconst C dX5_valueOf_4 ?_
    refine z_goto (tgt := 12) C dX5_valueOf_5 (by decide) ?_
    exact z_iret C dX5_valueOf_12 ⟨rfl, rfl⟩

theorem c_itemNeeded (w : Wd) (μ : Mem) (g ga gs gd A li rp ru ne : Nat) (hM : mtS μ g ga gs gd) (hA : agS μ A li rp ru ne) (hI : itS μ (μ.2.2.2.2.2 li)) (hp : 0 ≤ μ.2.1 5 3 g ∧ μ.2.1 5 3 g < 65536) : cM w yX5_itemNeeded cX5_itemNeeded 3 (some (.object "Managetree$Item")) 7 1 6 [.ref g, .ref A] μ (fun v μ' => μ' = μ ∧ ∃ y, v = some (.ref y) ∧ isAt μ (μ.2.2.2.2.2 li) (μ.2.1 5 3 g) (some y)) (fun E μ' => E = eS ∧ isAt μ (μ.2.2.2.2.2 li) (μ.2.1 5 3 g) none ∧ μ' = μ) := by
  obtain ⟨h1, h2, h3, h4, h5, h6, h7⟩ := hM
  refine cM_of (fun x C => ?_)
  refine z_aload_n C dX5_itemNeeded_0 rfl ?_
  refine z_aload_n C dX5_itemNeeded_1 rfl ?_
  refine z_geti C qF_X5_26 dX5_itemNeeded_2 (by assumption) ?_
  refine z_callV C (c_itemAt w μ A li rp ru ne _ hA hI hp) qM_X5_73 dX5_itemNeeded_5 rfl (zRc_o hA.1) (fun _ _ h => h.elim) ?_
  rintro v μ' ⟨rfl, r, rfl, hr⟩
  refine z_astore_n C dX5_itemNeeded_8 ?_
  refine z_aload_n C dX5_itemNeeded_9 rfl ?_
  refine z_ifnonnull (tgt := 23) C dX5_itemNeeded_10 (by decide) (fun qa q => ?_) (fun q => ?_)
  · subst q
    refine z_aload_n C dX5_itemNeeded_23 rfl ?_
    exact z_aret C dX5_itemNeeded_24 ⟨rfl, _, rfl, hr⟩
  · subst q
    exact z_throw C qT_S qS_223 dX5_itemNeeded_13 dX5_itemNeeded_16 dX5_itemNeeded_17 dX5_itemNeeded_19 dX5_itemNeeded_22 ⟨rfl, hr, rfl⟩
theorem c_walkOn (w : Wd) (μ : Mem) (g ga gs gd A li rp ru ne : Nat) (hM : mtS μ g ga gs gd) (hA : agS μ A li rp ru ne) (hI : itS μ (μ.2.2.2.2.2 li)) (hR : ruS μ rp ru) (hp : 0 ≤ μ.2.1 5 3 g ∧ μ.2.1 5 3 g < 65536) : cM w yX5_walkOn cX5_walkOn 3 (some (.object "Managetree$Item")) 6 0 0 [.ref g, .ref A] μ (fun v μ' => ∃ r, v = some (va_rf r) ∧ isNx μ (μ.2.2.2.1 ru) (μ.2.2.2.1 rp) (μ.2.2.2.2.2 li) (μ.2.1 5 3 g) r ∧ μ' = (match r with | none => μ | some y => sI μ 5 3 g (μ.2.1 1 0 y))) (fun _ _ => False) := by
  obtain ⟨h1, h2, h3, h4, h5, h6, h7⟩ := hM
  refine cM_of (fun x C => ?_)
  refine z_aload_n C dX5_walkOn_0 rfl ?_
  refine z_aload_n C dX5_walkOn_1 rfl ?_
  refine z_geti C qF_X5_26 dX5_walkOn_2 (by assumption) ?_
  refine z_callV C (c_firstShown w μ A li rp ru ne _ hA hI hR hp) qM_X5_227 dX5_walkOn_5 rfl (zRc_o hA.1) (fun _ _ h => h.elim) ?_
  rintro v μ' ⟨rfl, r, rfl, hr⟩
  refine z_astore_n C dX5_walkOn_8 ?_
  refine z_aload_n C dX5_walkOn_9 rfl ?_
  refine z_ifnull (tgt := 21) C dX5_walkOn_10 (by decide) (fun q => ?_) (fun qa q => ?_)
  · subst q
    refine z_aload_n C dX5_walkOn_21 rfl ?_
    exact z_aret C dX5_walkOn_22 ⟨none, rfl, hr, rfl⟩
  · subst q
    obtain ⟨n0, e1, e2⟩ := isNx_ty hr (fun z hz => hz) hI
    refine z_aload_n C dX5_walkOn_13 rfl ?_
    refine z_aload_n C dX5_walkOn_14 rfl ?_
    refine z_geti C qF_X5_230 dX5_walkOn_15 (by assumption) ?_
    refine z_puti C qF_X5_26 qW_5_3 dX5_walkOn_18 (by assumption) ?_
    refine z_aload_n C dX5_walkOn_21 rfl ?_
    exact z_aret C dX5_walkOn_22 ⟨some _, rfl, hr, rfl⟩
theorem c_countSortedAhead (w : Wd) (μ : Mem) (g ga gs gd : Nat) (p : Int) (hM : mtS μ g ga gs gd) (hI : itS μ (μ.2.2.2.2.2 gd)) (hp : 0 ≤ p ∧ p < 65536) : cM w yX5_countSortedAhead cX5_countSortedAhead 3 (some .int) 4 0 0 [.ref g, .int (J p)] μ (fun v μ' => μ' = μ ∧ ∃ n : Nat, n ≤ (μ.2.2.2.2.2 gd).length ∧ v = some (.int (J (n : Int))) ∧ (∀ i y, i < n → (μ.2.2.2.2.2 gd)[i]? = some y → μ.2.1 1 0 y < p) ∧ (∀ y, (μ.2.2.2.2.2 gd)[n]? = some y → p ≤ μ.2.1 1 0 y)) (fun _ _ => False) := by
  obtain ⟨h1, h2, h3, h4, h5, h6, h7⟩ := hM
  have hlen := hI.2.1
  refine cM_of (fun x C => ?_)
  refine z_iconst C dX5_countSortedAhead_0 ?_
  refine z_istore_n C dX5_countSortedAhead_1 ?_
  have loop : ∀ (r i : Nat), i + r = (μ.2.2.2.2.2 gd).length → (∀ j y, j < i → (μ.2.2.2.2.2 gd)[j]? = some y → μ.2.1 1 0 y < p) → Z w x (zQ w x (fun v μ' => μ' = μ ∧ ∃ n : Nat, n ≤ (μ.2.2.2.2.2 gd).length ∧ v = some (.int (J (n : Int))) ∧ (∀ i y, i < n → (μ.2.2.2.2.2 gd)[i]? = some y → μ.2.1 1 0 y < p) ∧ (∀ y, (μ.2.2.2.2.2 gd)[n]? = some y → p ≤ μ.2.1 1 0 y)) (fun _ _ => False) 0 0) 3 2 [(0, .ref g), (1, .int (J p)), (2, .int (J (i : Int)))] [] μ 0 0 := by
    intro r
    induction r with
    | zero =>
      intro i hr hno
      refine z_iload_n C dX5_countSortedAhead_2 rfl ?_
      refine z_aload_n C dX5_countSortedAhead_3 rfl ?_
      refine z_getr C _ qF_X5_23 dX5_countSortedAhead_4 (by assumption) (by assumption) ?_
      refine z_callV C (c_size w μ gd 0 h7) qM_X5_80 dX5_countSortedAhead_7 rfl (zRc_l h7) (fun _ _ h => h.elim) ?_
      rintro v μ' ⟨rfl, rfl⟩
      refine z_icmp_ge (tgt := 37) C dX5_countSortedAhead_10 (by decide) (by omega) (fun q => ?_) (fun q => ?_)
      · refine z_iload_n C dX5_countSortedAhead_37 rfl ?_
        exact z_iret C dX5_countSortedAhead_38 ⟨rfl, i, by omega, rfl, hno, fun y hy => by have := (List.getElem?_eq_some_iff.mp hy).1; omega⟩
      · omega
    | succ r ih =>
      intro i hr hno
      refine z_iload_n C dX5_countSortedAhead_2 rfl ?_
      refine z_aload_n C dX5_countSortedAhead_3 rfl ?_
      refine z_getr C _ qF_X5_23 dX5_countSortedAhead_4 (by assumption) (by assumption) ?_
      refine z_callV C (c_size w μ gd 0 h7) qM_X5_80 dX5_countSortedAhead_7 rfl (zRc_l h7) (fun _ _ h => h.elim) ?_
      rintro v μ' ⟨rfl, rfl⟩
      refine z_icmp_ge (tgt := 37) C dX5_countSortedAhead_10 (by decide) (by omega) (fun q => ?_) (fun q => ?_)
      · omega
      · obtain ⟨y, n0, e1, e2, e3, e4, e5⟩ := itS_at hI (i := i) (by omega)
        refine z_aload_n C dX5_countSortedAhead_13 rfl ?_
        refine z_getr C _ qF_X5_23 dX5_countSortedAhead_14 (by assumption) (by assumption) ?_
        refine z_iload_n C dX5_countSortedAhead_17 rfl ?_
        refine z_callV C (c_get w μ' gd 0 i h7 (by omega) (by omega)) qM_X5_178 dX5_countSortedAhead_18 rfl (zRc_l h7) (fun _ _ h => h.elim) ?_
        rintro v μ2 ⟨rfl, rfl⟩
        rw [show va_rf ((μ2.2.2.2.2.2 gd)[i]?) = va_rf (some y) by rw [e1]]
        refine z_cast C (r := some y) (ci := 1) (q := (RX1, TX1, 6)) dX5_countSortedAhead_21 rfl qC_X5_89 (fun b hb => ⟨n0, by cases hb; exact e3⟩) ?_
        refine z_geti C qF_X5_230 dX5_countSortedAhead_24 (by assumption) ?_
        refine z_iload_n C dX5_countSortedAhead_27 rfl ?_
        refine z_icmp_ge (tgt := 37) C dX5_countSortedAhead_28 (by decide) (by omega) (fun q2 => ?_) (fun q2 => ?_)
        · refine z_iload_n C dX5_countSortedAhead_37 rfl ?_
          exact z_iret C dX5_countSortedAhead_38 ⟨rfl, i, by omega, rfl, hno, fun z hz => by rw [e1] at hz; cases hz; exact q2⟩
        · refine z_iinc C dX5_countSortedAhead_31 rfl ?_
          refine z_goto (tgt := 2) C dX5_countSortedAhead_34 (by decide) ?_
          refine ih (i + 1) (by omega) (fun j z hj hz => ?_)
          by_cases hji : j = i
          · subst hji
            rw [e1] at hz
            cases hz
            exact q2
          · exact hno j z (by omega) hz
  refine z_ls [(0, .ref g), (1, .int (J p)), (2, .int (J ((0 : Nat) : Int)))] (by exact ⟨rfl, rfl, rfl, trivial⟩) ?_
  exact loop (μ.2.2.2.2.2 gd).length 0 (by omega) (fun j y hj => by omega)
/-- the first one behind p, in a list -/
def isFs (μ : Mem) (l : List Nat) (p : Int) (r : Option Nat) : Prop := match r with
  | none => ∀ y ∈ l, μ.2.1 1 0 y ≤ p
  | some y => p < μ.2.1 1 0 y ∧ ∃ i : Nat, l[i]? = some y ∧ ∀ (j : Nat) (z : Nat), j < i → l[j]? = some z → μ.2.1 1 0 z ≤ p
theorem c_firstSortedBehind (w : Wd) (μ : Mem) (g ga gs gd : Nat) (p : Int) (hM : mtS μ g ga gs gd) (hI : itS μ (μ.2.2.2.2.2 gd)) (hp : 0 ≤ p ∧ p < 65536) : cM w yX5_firstSortedBehind cX5_firstSortedBehind 4 (some (.object "Managetree$Item")) 4 0 0 [.ref g, .int (J p)] μ (fun v μ' => μ' = μ ∧ ∃ r, v = some (va_rf r) ∧ isFs μ (μ.2.2.2.2.2 gd) p r) (fun _ _ => False) := by
  obtain ⟨h1, h2, h3, h4, h5, h6, h7⟩ := hM
  have hlen := hI.2.1
  refine cM_of (fun x C => ?_)
  refine z_iconst C dX5_firstSortedBehind_0 ?_
  refine z_istore_n C dX5_firstSortedBehind_1 ?_
  have loop : ∀ (r i : Nat), i + r = (μ.2.2.2.2.2 gd).length → (∀ j y, j < i → (μ.2.2.2.2.2 gd)[j]? = some y → μ.2.1 1 0 y ≤ p) → Z w x (zQ w x (fun v μ' => μ' = μ ∧ ∃ r, v = some (va_rf r) ∧ isFs μ (μ.2.2.2.2.2 gd) p r) (fun _ _ => False) 0 0) 4 2 [(0, .ref g), (1, .int (J p)), (2, .int (J (i : Int)))] [] μ 0 0 := by
    intro r
    induction r with
    | zero =>
      intro i hr hno
      refine z_iload_n C dX5_firstSortedBehind_2 rfl ?_
      refine z_aload_n C dX5_firstSortedBehind_3 rfl ?_
      refine z_getr C _ qF_X5_23 dX5_firstSortedBehind_4 (by assumption) (by assumption) ?_
      refine z_callV C (c_size w μ gd 0 h7) qM_X5_80 dX5_firstSortedBehind_7 rfl (zRc_l h7) (fun _ _ h => h.elim) ?_
      rintro v μ' ⟨rfl, rfl⟩
      refine z_icmp_ge (tgt := 41) C dX5_firstSortedBehind_10 (by decide) (by omega) (fun q => ?_) (fun q => ?_)
      · refine z_null C dX5_firstSortedBehind_41 ?_
        refine z_aret C dX5_firstSortedBehind_42 ⟨rfl, none, rfl, fun y hy => ?_⟩
        obtain ⟨j, hj⟩ := List.getElem?_of_mem hy
        exact hno j y (by have := (List.getElem?_eq_some_iff.mp hj).1; omega) hj
      · omega
    | succ r ih =>
      intro i hr hno
      refine z_iload_n C dX5_firstSortedBehind_2 rfl ?_
      refine z_aload_n C dX5_firstSortedBehind_3 rfl ?_
      refine z_getr C _ qF_X5_23 dX5_firstSortedBehind_4 (by assumption) (by assumption) ?_
      refine z_callV C (c_size w μ gd 0 h7) qM_X5_80 dX5_firstSortedBehind_7 rfl (zRc_l h7) (fun _ _ h => h.elim) ?_
      rintro v μ' ⟨rfl, rfl⟩
      refine z_icmp_ge (tgt := 41) C dX5_firstSortedBehind_10 (by decide) (by omega) (fun q => ?_) (fun q => ?_)
      · omega
      · obtain ⟨y, n0, e1, e2, e3, e4, e5⟩ := itS_at hI (i := i) (by omega)
        refine z_aload_n C dX5_firstSortedBehind_13 rfl ?_
        refine z_getr C _ qF_X5_23 dX5_firstSortedBehind_14 (by assumption) (by assumption) ?_
        refine z_iload_n C dX5_firstSortedBehind_17 rfl ?_
        refine z_callV C (c_get w μ' gd 0 i h7 (by omega) (by omega)) qM_X5_178 dX5_firstSortedBehind_18 rfl (zRc_l h7) (fun _ _ h => h.elim) ?_
        rintro v μ2 ⟨rfl, rfl⟩
        rw [show va_rf ((μ2.2.2.2.2.2 gd)[i]?) = va_rf (some y) by rw [e1]]
        refine z_cast C (r := some y) (ci := 1) (q := (RX1, TX1, 6)) dX5_firstSortedBehind_21 rfl qC_X5_89 (fun b hb => ⟨n0, by cases hb; exact e3⟩) ?_
        refine z_astore_n C dX5_firstSortedBehind_24 ?_
        refine z_aload_n C dX5_firstSortedBehind_25 rfl ?_
        refine z_geti C qF_X5_230 dX5_firstSortedBehind_26 (by assumption) ?_
        refine z_iload_n C dX5_firstSortedBehind_29 rfl ?_
        refine z_icmp_le (tgt := 35) C dX5_firstSortedBehind_30 (by decide) (by omega) (fun q2 => ?_) (fun q2 => ?_)
        · refine z_iinc C dX5_firstSortedBehind_35 rfl ?_
          refine z_goto (tgt := 2) C dX5_firstSortedBehind_38 (by decide) ?_
          refine z_ls _ (by exact ⟨rfl, rfl, rfl, trivial⟩) (ih (i + 1) (by omega) (fun j z hj hz => ?_))
          by_cases hji : j = i
          · subst hji
            rw [e1] at hz
            cases hz
            exact q2
          · exact hno j z (by omega) hz
        · refine z_aload_n C dX5_firstSortedBehind_33 rfl ?_
          exact z_aret C dX5_firstSortedBehind_34 ⟨rfl, some y, rfl, q2, i, e1, hno⟩
  refine z_ls [(0, .ref g), (1, .int (J p)), (2, .int (J ((0 : Nat) : Int)))] (by exact ⟨rfl, rfl, rfl, trivial⟩) ?_
  exact loop (μ.2.2.2.2.2 gd).length 0 (by omega) (fun j y hj => by omega)

section ZW
variable {w : Wd} {x : Zc} {cc : ByteArray} {nL pc : Nat} {own : String} {rt : Option FieldType} {rm : Room} {nm : String} {ls : List (Nat × Value)} {st : List Value} {μ : Mem} {k n : Nat} {Q : State → Prop}
theorem z_iincW (C : Cx w x cc nL own rt rm nm) {i : Nat} {c0 v : Int} (d : decode cc pc = .ok (.iinc i c0, 6)) (hl : zlk ls i = some (.int (J v)))
    (kk : Z w x Q nL (pc + 6) (zset ls i (.int (J (v + c0)))) (st) μ k n) (hi : (i : Nat) < nL := by decide) : Z w x Q nL (pc) ls (st) μ k n := by
  obtain ⟨p, e, R, s, m, args, below, meth, c⟩ := x
  obtain ⟨hx, hb, hml, ho, hts, hlk, hw, hrt, hR, hnm, hsz, het⟩ := C
  intro H locs la hH hS hL hC
  obtain ⟨kx, hk⟩ := List.getElem?_of_mem (zlk_mem hl)
  exact lv_iincW (v := J (v + c0)) hx hb d hL hk (by rw [← J_add]; rfl) hi rfl (fun la h => kk H locs la hH hS (zset_has h hC) (zset_cat hC rfl))
end ZW
/-- a sample's cells -/
def smS (μ : Mem) (r : Option Nat) : Prop := ∀ b, r = some b → (∃ n0, μ.1 b = some (3, n0)) ∧ (0 ≤ μ.2.1 3 0 b ∧ μ.2.1 3 0 b ≤ 100000) ∧ (0 ≤ μ.2.1 3 1 b ∧ μ.2.1 3 1 b ≤ 999) ∧ (0 ≤ μ.2.1 3 2 b ∧ μ.2.1 3 2 b ≤ 1000)
def rtB (μ : Mem) (r r2 : Option Nat) : Int := match r, r2 with
  | some a, some b => if μ.2.1 3 2 a = μ.2.1 3 2 b then (if μ.2.1 3 0 b - μ.2.1 3 0 a ≤ 0 then -1 else (if μ.2.1 3 1 b - μ.2.1 3 1 a < 0 then (μ.2.1 3 1 b - μ.2.1 3 1 a + 1000) * 60 / (μ.2.1 3 0 b - μ.2.1 3 0 a) else (μ.2.1 3 1 b - μ.2.1 3 1 a) * 60 / (μ.2.1 3 0 b - μ.2.1 3 0 a))) else -1
  | _, _ => -1
