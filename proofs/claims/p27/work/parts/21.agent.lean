/-! Agent's methods, over the memory -/
theorem qM_X0_52 : Cond.methodLinkNest "Managetree$Agent" 52 yX5_headOf "Managetree" ∈ OT := ot_t (by decide +kernel) rfl
theorem qN_headOf : Cond.code yX5_headOf cX5_headOf 3 (some .int) ∈ GT ∧ Cond.static yX5_headOf ∈ GT ∧ Cond.initialized yX5_headOf.cls ∈ GT := ⟨gt_t (by decide +kernel) rfl, gt_t (by decide +kernel) rfl, gt_t (by decide +kernel) rfl⟩
section ZSN
variable {w : Wd} {x : Zc} {cc : ByteArray} {nL pc : Nat} {own : String} {rt : Option FieldType} {d mc ms : Nat} {nm : String} {ls : List (Nat × Value)} {st : List Value} {μ : Mem} {k n : Nat}
theorem z_callSN {Q : State → Prop} (C : Cx w x cc nL own rt (rmv d mc ms) nm) {index ny na dy my sy : Nat} {y : MethodName} {host : String} {cy : ByteArray} {ry : Option FieldType} {As rest : List Value} {P' : Option Value → Mem → Prop} (hM : cM w y cy ny ry dy my sy As μ P' (fun _ _ => False)) (hl : Cond.methodLinkNest own index y host ∈ OT) (h3 : Cond.code y cy ny ry ∈ GT ∧ Cond.static y ∈ GT ∧ Cond.initialized y.cls ∈ GT) (h4 : y.cls ≠ "java/lang/invoke/MethodHandle" ∧ y.cls ≠ "java/lang/invoke/VarHandle") (h5 : (parseMethodDescriptor y.desc).map (fun d => d.parameters.length) = some na) (dg : decode cc pc = .ok (.invokestatic index, 3)) (hst : st = As.reverse ++ rest)
    (kk : ∀ v μ', P' v μ' → Z w x Q nL (pc + 3) ls (v.toList ++ rest) μ' (k + my) (n + sy)) (hna : As.length = na := by rfl) (hd : dy + 1 ≤ d ∧ 8 + (ny + 11) + 40 * dy ≤ 40 * d := by decide) (hk : k + my ≤ mc := by first | decide | omega) (hn : n + sy ≤ ms := by first | decide | omega) (hW : (rest.map fun v => v.category).sum ≤ 8 := by first | exact Nat.le_of_ble_eq_true rfl | simp [zcat_rf, Value.category]) : Z w x Q nL pc ls st μ k n := by
  obtain ⟨p, e, R, s, m, args, below, meth, c⟩ := x
  obtain ⟨hx, hb, hml, ho, hts, hlk, hw, hrt, hR, hnm, hsz, het⟩ := C
  intro H locs la hH hS hL hC
  subst hR
  refine z_afterM (va_runSN (host := host) ⟨hx, hb, hml, ho, hts⟩ (cM_met hM) ⟨⟨⟨rfl, rfl, hd.1, hd.2, fun q hq a' U hW => ?_, List.mem_cons_self⟩, hts _ h3.1, hts _ h3.2.2, h4, fun sig hs => ?_, va_Nw.use rfl (hw.2.2.2.2.1 _ hl)⟩, hts _ h3.2.1, trivial⟩ ⟨zPc_blind w _ μ, fun U hU hW9 => ⟨rfl, wI_moved hw hS hU hW9, by rw [hU]; exact hH⟩⟩ rfl hna hL.1 hst (lv_room hW) dg ⟨hk, hn⟩) hS (fun v μ' H1 locs1 g1 g2 g3 => kk v μ' g1 H1 locs1 la g2 g3 hL hC)
  · rcases List.mem_cons.mp hq with rfl | hq
    · exact word_at hW (gt_good h3.1) (hts _ h3.1)
    · exact word_at hW (gt_good hq) (hts _ hq)
  · rw [hs] at h5
    exact (Option.some.inj h5).symm
end ZSN
/-- an agent's cells -/
def agS (μ : Mem) (A li rp ru ne : Nat) : Prop := μ.1 A = some (0, 0) ∧ μ.2.2.1 0 0 A = some li ∧ μ.2.2.1 0 1 A = some rp ∧ μ.2.2.1 0 2 A = some ru ∧ μ.2.2.1 0 3 A = some ne ∧ μ.1 li = some (24, 0) ∧ μ.1 rp = some (20, 10) ∧ μ.1 ru = some (20, 10) ∧ μ.1 ne = some (20, 4)
/-- a list of items -/
def itS (μ : Mem) (l : List Nat) : Prop := zAll μ 1 l ∧ l.length ≤ 1000 ∧ ∀ y ∈ l, 0 ≤ μ.2.1 1 0 y ∧ μ.2.1 1 0 y < 65536
def isAt (μ : Mem) (l : List Nat) (p : Int) (r : Option Nat) : Prop := match r with
  | none => ∀ y ∈ l, μ.2.1 1 0 y ≠ p
  | some y => y ∈ l ∧ μ.2.1 1 0 y = p
theorem itS_at {μ : Mem} {l : List Nat} (h : itS μ l) {i : Nat} (hi : i < l.length) : ∃ y n0, l[i]? = some y ∧ y ∈ l ∧ μ.1 y = some (1, n0) ∧ 0 ≤ μ.2.1 1 0 y ∧ μ.2.1 1 0 y < 65536 := by
  have hm : l[i] ∈ l := List.getElem_mem hi
  obtain ⟨n0, hn⟩ := h.1 _ hm
  exact ⟨l[i], n0, List.getElem?_eq_getElem hi, hm, hn, h.2.2 _ hm⟩
theorem c_itemAt (w : Wd) (μ : Mem) (A li rp ru ne : Nat) (p : Int) (hA : agS μ A li rp ru ne) (hI : itS μ (μ.2.2.2.2.2 li)) (hp : 0 ≤ p ∧ p < 65536) : cM w yX0_itemAt cX0_itemAt 4 (some (.object "Managetree$Item")) 4 0 0 [.ref A, .int (J p)] μ (fun v μ' => μ' = μ ∧ ∃ r, v = some (va_rf r) ∧ isAt μ (μ.2.2.2.2.2 li) p r) (fun _ _ => False) := by
  obtain ⟨h1, h2, h3, h4, h5, h6, h7, h8, h9⟩ := hA
  have hlen := hI.2.1
  refine cM_of (fun x C => ?_)
  refine z_iconst C dX0_itemAt_0 ?_
  refine z_istore_n C dX0_itemAt_1 ?_
  have loop : ∀ (r i : Nat), i + r = (μ.2.2.2.2.2 li).length → (∀ j y, j < i → (μ.2.2.2.2.2 li)[j]? = some y → μ.2.1 1 0 y ≠ p) → Z w x (zQ w x (fun v μ' => μ' = μ ∧ ∃ r, v = some (va_rf r) ∧ isAt μ (μ.2.2.2.2.2 li) p r) (fun _ _ => False) 0 0) 4 2 [(0, .ref A), (1, .int (J p)), (2, .int (J (i : Int)))] [] μ 0 0 := by
    intro r
    induction r with
    | zero =>
      intro i hr hno
      refine z_iload_n C dX0_itemAt_2 rfl ?_
      refine z_aload_n C dX0_itemAt_3 rfl ?_
      refine z_getr C _ qF_X0_12 dX0_itemAt_4 (by assumption) (by assumption) ?_
      refine z_callV C (c_size w μ li 0 h6) qM_X0_32 dX0_itemAt_7 rfl (zRc_l h6) (fun _ _ h => h.elim) ?_
      rintro v μ' ⟨rfl, rfl⟩
      refine z_icmp_ge (tgt := 41) C dX0_itemAt_10 (by decide) (by omega) (fun g => ?_) (fun g => ?_)
      · refine z_null C dX0_itemAt_41 ?_
        refine z_aret C dX0_itemAt_42 ⟨rfl, none, rfl, fun y hy => ?_⟩
        obtain ⟨j, hj⟩ := List.getElem?_of_mem hy
        exact hno j y (by have := (List.getElem?_eq_some_iff.mp hj).1; omega) hj
      · omega
    | succ r ih =>
      intro i hr hno
      refine z_iload_n C dX0_itemAt_2 rfl ?_
      refine z_aload_n C dX0_itemAt_3 rfl ?_
      refine z_getr C _ qF_X0_12 dX0_itemAt_4 (by assumption) (by assumption) ?_
      refine z_callV C (c_size w μ li 0 h6) qM_X0_32 dX0_itemAt_7 rfl (zRc_l h6) (fun _ _ h => h.elim) ?_
      rintro v μ' ⟨rfl, rfl⟩
      refine z_icmp_ge (tgt := 41) C dX0_itemAt_10 (by decide) (by omega) (fun g => ?_) (fun g => ?_)
      · omega
      · refine z_aload_n C dX0_itemAt_13 rfl ?_
        refine z_getr C _ qF_X0_12 dX0_itemAt_14 (by assumption) (by assumption) ?_
        refine z_iload_n C dX0_itemAt_17 rfl ?_
        obtain ⟨y, n0, e1, e2, e3, e4, e5⟩ := itS_at hI (i := i) (by omega)
        refine z_callV C (c_get w μ' li 0 i h6 (by omega) (by omega)) qM_X0_36 dX0_itemAt_18 rfl (zRc_l h6) (fun _ _ h => h.elim) ?_
        rintro v μ2 ⟨rfl, rfl⟩
        rw [e1]
        refine z_cast C (r := some y) (ci := 1) (q := (RX1, TX1, 6)) dX0_itemAt_21 rfl qC_X0_40 (fun b hb => ⟨n0, by cases hb; exact e3⟩) ?_
        refine z_astore_n C dX0_itemAt_24 ?_
        refine z_aload_n C dX0_itemAt_25 rfl ?_
        refine z_geti C qF_X0_42 dX0_itemAt_26 (by assumption) ?_
        refine z_iload_n C dX0_itemAt_29 rfl ?_
        refine z_icmp_ne (tgt := 35) C dX0_itemAt_30 (by decide) (by omega) (fun g2 => ?_) (fun g2 => ?_)
        · refine z_iinc C dX0_itemAt_35 rfl ?_
          refine z_goto (tgt := 2) C dX0_itemAt_38 (by decide) ?_
          refine z_ls _ (by exact ⟨rfl, rfl, rfl, trivial⟩) (ih (i + 1) (by omega) (fun j z hj hz => ?_))
          by_cases hji : j = i
          · subst hji
            cases e1.symm.trans hz
            exact g2
          · exact hno j z (by omega) hz
        · refine z_aload_n C dX0_itemAt_33 rfl ?_
          exact z_aret C dX0_itemAt_34 ⟨rfl, some y, rfl, e2, g2⟩
  exact loop (μ.2.2.2.2.2 li).length 0 (by omega) (fun j y hj => absurd hj (Nat.not_lt_zero _))
/-- the rule that an agent has for a path: the first used slot with it -/
def rlF (R P : Int → Int) (p : Int) : Nat → Int → Int
  | 0, _ => 0
  | f + 1, s => if R s ≠ 0 ∧ P s = p then R s else rlF R P p f (s + 1)
def rlC (R : Int → Int) : Nat → Int → Int
  | 0, _ => 0
  | f + 1, s => (if R s ≠ 0 then 1 else 0) + rlC R f (s + 1)
theorem rlC_in (R : Int → Int) : ∀ (f : Nat) (s : Int), 0 ≤ rlC R f s ∧ rlC R f s ≤ f
  | 0, _ => ⟨Int.le_refl _, Int.le_refl _⟩
  | f + 1, s => by
    have := rlC_in R f (s + 1)
    unfold rlC
    split <;> omega
/-- the rules' bounds -/
def ruS (μ : Mem) (rp ru : Nat) : Prop := ∀ s : Int, 0 ≤ μ.2.2.2.1 ru s ∧ μ.2.2.2.1 ru s ≤ 2 ∧ 0 ≤ μ.2.2.2.1 rp s ∧ μ.2.2.2.1 rp s < 65536
theorem rlF_in {R P : Int → Int} {p : Int} (h : ∀ s, 0 ≤ R s ∧ R s ≤ 2) : ∀ (f : Nat) (s : Int), 0 ≤ rlF R P p f s ∧ rlF R P p f s ≤ 2
  | 0, _ => ⟨Int.le_refl _, by show (0 : Int) ≤ 2; decide⟩
  | f + 1, s => by
    unfold rlF
    split
    · exact h s
    · exact rlF_in h f (s + 1)
theorem c_ruleOf (w : Wd) (μ : Mem) (A li rp ru ne : Nat) (p : Int) (hA : agS μ A li rp ru ne) (hR : ruS μ rp ru) (hp : 0 ≤ p ∧ p < 65536) : cM w yX0_ruleOf cX0_ruleOf 3 (some .int) 1 0 0 [.ref A, .int (J p)] μ (fun v μ' => v = some (.int (J (rlF (μ.2.2.2.1 ru) (μ.2.2.2.1 rp) p 10 0))) ∧ μ' = μ) (fun _ _ => False) := by
  obtain ⟨h1, h2, h3, h4, h5, h6, h7, h8, h9⟩ := hA
  obtain ⟨V, hV⟩ : ∃ V, V = rlF (μ.2.2.2.1 ru) (μ.2.2.2.1 rp) p 10 0 := ⟨_, rfl⟩
  rw [← hV]
  refine cM_of (fun x C => ?_)
  refine z_iconst C dX0_ruleOf_0 ?_
  refine z_istore_n C dX0_ruleOf_1 ?_
  have loop : ∀ (r i : Nat), i + r = 10 → V = rlF (μ.2.2.2.1 ru) (μ.2.2.2.1 rp) p r (i : Int) → Z w x (zQ w x (fun v μ' => v = some (.int (J (V))) ∧ μ' = μ) (fun _ _ => False) 0 0) 3 2 [(0, .ref A), (1, .int (J p)), (2, .int (J (i : Int)))] [] μ 0 0 := by
    intro r
    induction r with
    | zero =>
      intro i hr he
      refine z_iload_n C dX0_ruleOf_2 rfl ?_
      refine z_bipush C dX0_ruleOf_3 ?_
      refine z_icmp_ge (tgt := 40) C dX0_ruleOf_5 (by decide) (by omega) (fun g => ?_) (fun g => ?_)
      · refine z_iconst C dX0_ruleOf_40 ?_
        exact z_iret C dX0_ruleOf_41 ⟨by rw [he]; rfl, rfl⟩
      · omega
    | succ r ih =>
      intro i hr he
      have hb := hR (i : Int)
      rw [rlF] at he
      refine z_iload_n C dX0_ruleOf_2 rfl ?_
      refine z_bipush C dX0_ruleOf_3 ?_
      refine z_icmp_ge (tgt := 40) C dX0_ruleOf_5 (by decide) (by omega) (fun g => ?_) (fun g => ?_)
      · omega
      · refine z_aload_n C dX0_ruleOf_8 rfl ?_
        refine z_getr C _ qF_X0_22 dX0_ruleOf_9 (by assumption) (by assumption) ?_
        refine z_iload_n C dX0_ruleOf_12 rfl ?_
        refine z_iaload C dX0_ruleOf_13 (by assumption) (by omega) ?_
        refine z_if_eq (tgt := 34) C dX0_ruleOf_14 (by decide) (by omega) (fun g2 => ?_) (fun g2 => ?_)
        · refine z_iinc C dX0_ruleOf_34 rfl ?_
          refine z_goto (tgt := 2) C dX0_ruleOf_37 (by decide) ?_
          rw [if_neg (fun q => q.1 g2)] at he
          exact ih (i + 1) (by omega) he
        · refine z_aload_n C dX0_ruleOf_17 rfl ?_
          refine z_getr C _ qF_X0_18 dX0_ruleOf_18 (by assumption) (by assumption) ?_
          refine z_iload_n C dX0_ruleOf_21 rfl ?_
          refine z_iaload C dX0_ruleOf_22 (by assumption) (by omega) ?_
          refine z_iload_n C dX0_ruleOf_23 rfl ?_
          refine z_icmp_ne (tgt := 34) C dX0_ruleOf_24 (by decide) (by omega) (fun g3 => ?_) (fun g3 => ?_)
          · refine z_iinc C dX0_ruleOf_34 rfl ?_
            refine z_goto (tgt := 2) C dX0_ruleOf_37 (by decide) ?_
            rw [if_neg (fun q => g3 q.2)] at he
            exact ih (i + 1) (by omega) he
          · refine z_aload_n C dX0_ruleOf_27 rfl ?_
            refine z_getr C _ qF_X0_22 dX0_ruleOf_28 (by assumption) (by assumption) ?_
            refine z_iload_n C dX0_ruleOf_31 rfl ?_
            refine z_iaload C dX0_ruleOf_32 (by assumption) (by omega) ?_
            rw [if_pos ⟨g2, g3⟩] at he
            exact z_iret C dX0_ruleOf_33 ⟨by rw [he], rfl⟩
  exact loop 10 0 rfl hV
theorem c_countRules (w : Wd) (μ : Mem) (A li rp ru ne : Nat) (hA : agS μ A li rp ru ne) (hR : ruS μ rp ru) : cM w yX0_countRules cX0_countRules 3 (some .int) 1 0 0 [.ref A] μ (fun v μ' => v = some (.int (J (rlC (μ.2.2.2.1 ru) 10 0))) ∧ μ' = μ) (fun _ _ => False) := by
  obtain ⟨h1, h2, h3, h4, h5, h6, h7, h8, h9⟩ := hA
  obtain ⟨V, hV⟩ : ∃ V, V = rlC (μ.2.2.2.1 ru) 10 0 := ⟨_, rfl⟩
  rw [← hV]
  refine cM_of (fun x C => ?_)
  refine z_iconst C dX0_countRules_0 ?_
  refine z_istore_n C dX0_countRules_1 ?_
  refine z_iconst C dX0_countRules_2 ?_
  refine z_istore_n C dX0_countRules_3 ?_
  have loop : ∀ (r i : Nat) (t : Int), i + r = 10 → V = t + rlC (μ.2.2.2.1 ru) r (i : Int) → Z w x (zQ w x (fun v μ' => v = some (.int (J (V))) ∧ μ' = μ) (fun _ _ => False) 0 0) 3 4 [(0, .ref A), (1, .int (J t)), (2, .int (J (i : Int)))] [] μ 0 0 := by
    intro r
    induction r with
    | zero =>
      intro i t hr he
      rw [rlC] at he
      refine z_iload_n C dX0_countRules_4 rfl ?_
      refine z_bipush C dX0_countRules_5 ?_
      refine z_icmp_ge (tgt := 28) C dX0_countRules_7 (by decide) (by omega) (fun g => ?_) (fun g => ?_)
      · refine z_iload_n C dX0_countRules_28 rfl ?_
        exact z_iret C dX0_countRules_29 ⟨by rw [he, Int.add_zero], rfl⟩
      · omega
    | succ r ih =>
      intro i t hr he
      have hb := hR (i : Int)
      rw [rlC] at he
      refine z_iload_n C dX0_countRules_4 rfl ?_
      refine z_bipush C dX0_countRules_5 ?_
      refine z_icmp_ge (tgt := 28) C dX0_countRules_7 (by decide) (by omega) (fun g => ?_) (fun g => ?_)
      · omega
      · refine z_aload_n C dX0_countRules_10 rfl ?_
        refine z_getr C _ qF_X0_22 dX0_countRules_11 (by assumption) (by assumption) ?_
        refine z_iload_n C dX0_countRules_14 rfl ?_
        refine z_iaload C dX0_countRules_15 (by assumption) (by omega) ?_
        refine z_if_eq (tgt := 22) C dX0_countRules_16 (by decide) (by omega) (fun g2 => ?_) (fun g2 => ?_)
        · refine z_iinc C dX0_countRules_22 rfl ?_
          refine z_goto (tgt := 4) C dX0_countRules_25 (by decide) ?_
          rw [if_neg (fun q => q g2)] at he
          exact ih (i + 1) t (by omega) (by rw [he, show ((i + 1 : Nat) : Int) = (i : Int) + 1 by omega]; omega)
        · refine z_iinc C dX0_countRules_19 rfl ?_
          refine z_iinc C dX0_countRules_22 rfl ?_
          refine z_goto (tgt := 4) C dX0_countRules_25 (by decide) ?_
          rw [if_pos g2] at he
          exact ih (i + 1) (t + 1) (by omega) (by rw [he, show ((i + 1 : Nat) : Int) = (i : Int) + 1 by omega]; omega)
  exact loop 10 0 0 rfl (by rw [hV]; exact (Int.zero_add _).symm)
/-- whether the rules hide the path p: the longest head with a rule -/
def hidF (R P : Int → Int) (p : Int) : Nat → Bool
  | 0 => false
  | f + 1 => if rlF R P (hd16 p f) 10 0 ≠ 0 then decide (rlF R P (hd16 p f) 10 0 = 1) else hidF R P p f
def hid16 (R P : Int → Int) (p : Int) : Bool := hidF R P p 5
theorem hd16_in {p : Int} (hp : 0 ≤ p ∧ p < 65536) (i : Int) : 0 ≤ hd16 p i ∧ hd16 p i < 65536 := by
  unfold hd16
  split
  · omega
  split
  · omega
  split
  · omega
  split
  · omega
  · omega
def zB (b : Bool) : Int := if b = true then 1 else 0
theorem c_hides (w : Wd) (μ : Mem) (A li rp ru ne : Nat) (p : Int) (hA : agS μ A li rp ru ne) (hR : ruS μ rp ru) (hp : 0 ≤ p ∧ p < 65536) : cM w yX0_hides cX0_hides 4 (some .boolean) 3 0 0 [.ref A, .int (J p)] μ (fun v μ' => v = some (.int (J (zB (hid16 (μ.2.2.2.1 ru) (μ.2.2.2.1 rp) p)))) ∧ μ' = μ) (fun _ _ => False) := by
  have hA0 := hA
  obtain ⟨h1, h2, h3, h4, h5, h6, h7, h8, h9⟩ := hA
  obtain ⟨V, hV⟩ : ∃ V, V = hid16 (μ.2.2.2.1 ru) (μ.2.2.2.1 rp) p := ⟨_, rfl⟩
  rw [← hV]
  refine cM_of (fun x C => ?_)
  refine z_iconst C dX0_hides_0 ?_
  refine z_istore_n C dX0_hides_1 ?_
  have loop : ∀ (f : Nat), f ≤ 5 → V = hidF (μ.2.2.2.1 ru) (μ.2.2.2.1 rp) p f → Z w x (zQ w x (fun v μ' => v = some (.int (J (zB (V)))) ∧ μ' = μ) (fun _ _ => False) 0 0) 4 2 [(0, .ref A), (1, .int (J p)), (2, .int (J ((f : Int) - 1)))] [] μ 0 0 := by
    intro f
    induction f with
    | zero =>
      intro hf he
      refine z_iload_n C dX0_hides_2 rfl ?_
      refine z_if_lt (tgt := 37) C dX0_hides_3 (by decide) (by omega) (fun g => ?_) (fun g => ?_)
      · refine z_iconst C dX0_hides_37 ?_
        exact z_zret C (v := 0) dX0_hides_38 (Or.inl rfl) ⟨by rw [he]; rfl, rfl⟩
      · omega
    | succ f ih =>
      intro hf he
      refine z_iload_n C dX0_hides_2 rfl ?_
      refine z_if_lt (tgt := 37) C dX0_hides_3 (by decide) (by omega) (fun g => ?_) (fun g => ?_)
      · omega
      · refine z_aload_n C dX0_hides_6 rfl ?_
        refine z_iload_n C dX0_hides_7 rfl ?_
        refine z_iload_n C dX0_hides_8 rfl ?_
        rw [show ((f + 1 : Nat) : Int) - 1 = (f : Int) by omega]
        refine z_callSN (na := 2) C (c_headOf w μ p (f : Int) hp (by omega)) qM_X0_52 qN_headOf ⟨by decide, by decide⟩ (by decide +kernel) dX0_hides_9 rfl ?_
        rintro v μ' ⟨rfl, rfl⟩
        refine z_callV C (c_ruleOf w μ' A li rp ru ne _ hA0 hR (hd16_in hp _)) qM_X0_56 dX0_hides_12 rfl (zRc_o h1) (fun _ _ h => h.elim) ?_
        rintro v μ2 ⟨rfl, rfl⟩
        rw [hidF] at he
        have hb : 0 ≤ rlF (μ2.2.2.2.1 ru) (μ2.2.2.2.1 rp) (hd16 p (f : Int)) 10 0 ∧ rlF (μ2.2.2.2.1 ru) (μ2.2.2.2.1 rp) (hd16 p (f : Int)) 10 0 ≤ 2 := rlF_in (fun s => ⟨(hR s).1, (hR s).2.1⟩) 10 0
        obtain ⟨z, hz⟩ : ∃ z, z = rlF (μ2.2.2.2.1 ru) (μ2.2.2.2.1 rp) (hd16 p (f : Int)) 10 0 := ⟨_, rfl⟩
        rw [← hz] at he hb ⊢
        refine z_istore_n C dX0_hides_15 ?_
        refine z_iload_n C dX0_hides_16 rfl ?_
        refine z_if_eq (tgt := 31) C dX0_hides_17 (by decide) (by omega) (fun g2 => ?_) (fun g2 => ?_)
        · refine z_iinc C dX0_hides_31 rfl ?_
          refine z_goto (tgt := 2) C dX0_hides_34 (by decide) ?_
          rw [if_neg (fun q => q g2)] at he
          refine z_ls _ (by exact ⟨rfl, rfl, rfl, trivial⟩) (ih (by omega) he)
        · rw [if_pos g2] at he
          refine z_iload_n C dX0_hides_20 rfl ?_
          refine z_iconst C dX0_hides_21 ?_
          refine z_icmp_ne (tgt := 29) C dX0_hides_22 (by decide) (by omega) (fun g3 => ?_) (fun g3 => ?_)
          · refine z_iconst C dX0_hides_29 ?_
            exact z_zret C (v := 0) dX0_hides_30 (Or.inl rfl) ⟨by rw [he, decide_eq_false g3]; rfl, rfl⟩
          · refine z_iconst C dX0_hides_25 ?_
            refine z_goto (tgt := 30) C dX0_hides_26 (by decide) ?_
            exact z_zret C (v := 1) dX0_hides_30 (Or.inr rfl) ⟨by rw [he, decide_eq_true g3]; rfl, rfl⟩
  exact loop 5 (by decide) hV
