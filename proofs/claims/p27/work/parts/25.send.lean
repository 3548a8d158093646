/-! traps are sent; neighbours; sorting -/
def trS (μ : Mem) (l : List Nat) : Prop := (∀ t ∈ l, (∃ n0, μ.1 t = some (4, n0)) ∧ (0 ≤ μ.2.1 4 0 t ∧ μ.2.1 4 0 t ≤ 3) ∧ (0 ≤ μ.2.1 4 1 t ∧ μ.2.1 4 1 t < 65536) ∧ (0 ≤ μ.2.1 4 2 t ∧ μ.2.1 4 2 t ≤ 100000) ∧ (0 ≤ μ.2.1 4 3 t ∧ μ.2.1 4 3 t ≤ 1000)) ∧ l.length ≤ 512
def isLt (μ : Mem) (l : List Nat) (a p : Int) (r : Option Nat) : Prop := match r with
  | none => ∀ t ∈ l, ¬ (μ.2.1 4 0 t = a ∧ μ.2.1 4 1 t = p)
  | some t => ∃ i : Nat, l[i]? = some t ∧ μ.2.1 4 0 t = a ∧ μ.2.1 4 1 t = p ∧ ∀ (j z : Nat), i < j → l[j]? = some z → ¬ (μ.2.1 4 0 z = a ∧ μ.2.1 4 1 z = p)
theorem c_lastTrapOf (w : Wd) (μ : Mem) (g ga gs gd : Nat) (a p : Int) (hM : mtS μ g ga gs gd) (hT : trS μ (μ.2.2.2.2.2 gs)) (ha : 0 ≤ a ∧ a ≤ 3) (hp : 0 ≤ p ∧ p < 65536) : cM w yX5_lastTrapOf cX5_lastTrapOf 5 (some (.object "Managetree$Trap")) 5 0 0 [.ref g, .int (J a), .int (J p)] μ (fun v μ' => μ' = μ ∧ ∃ r, v = some (va_rf r) ∧ isLt μ (μ.2.2.2.2.2 gs) a p r) (fun _ _ => False) := by
  obtain ⟨h1, h2, h3, h4, h5, h6, h7⟩ := hM
  have hlen := hT.2
  refine cM_of (fun x C => ?_)
  have loop : ∀ (n : Nat), n ≤ (μ.2.2.2.2.2 gs).length → (∀ j z, n ≤ j → (μ.2.2.2.2.2 gs)[j]? = some z → ¬ (μ.2.1 4 0 z = a ∧ μ.2.1 4 1 z = p)) → Z w x (zQ w x (fun v μ' => μ' = μ ∧ ∃ r, v = some (va_rf r) ∧ isLt μ (μ.2.2.2.2.2 gs) a p r) (fun _ _ => False) 0 0) 5 10 [(0, .ref g), (1, .int (J a)), (2, .int (J p)), (3, .int (J ((n : Int) - 1)))] [] μ 0 0 := by
    intro n
    induction n with
    | zero =>
      intro hn hno
      refine z_iload_n C dX5_lastTrapOf_10 rfl ?_
      refine z_if_lt (tgt := 54) C dX5_lastTrapOf_11 (by decide) (by omega) (fun q => ?_) (fun q => ?_)
      · refine z_null C dX5_lastTrapOf_54 ?_
        refine z_aret (v := va_rf none) C dX5_lastTrapOf_55 ⟨rfl, none, rfl, fun y hy => ?_⟩
        obtain ⟨j, hj⟩ := List.getElem?_of_mem hy
        exact hno j y (Nat.zero_le _) hj
      · omega
    | succ n ih =>
      intro hn hno
      rw [show ((n + 1 : Nat) : Int) - 1 = (n : Int) by omega]
      refine z_iload_n C dX5_lastTrapOf_10 rfl ?_
      refine z_if_lt (tgt := 54) C dX5_lastTrapOf_11 (by decide) (by omega) (fun q => ?_) (fun q => ?_)
      · omega
      · obtain ⟨t, ht⟩ : ∃ t, (μ.2.2.2.2.2 gs)[n]? = some t := ⟨_, List.getElem?_eq_getElem (by omega)⟩
        obtain ⟨⟨n0, e1⟩, e2, e3, e4, e5⟩ := hT.1 t (List.mem_of_getElem? ht)
        refine z_aload_n C dX5_lastTrapOf_14 rfl ?_
        refine z_getr C _ qF_X5_19 dX5_lastTrapOf_15 (by assumption) (by assumption) ?_
        refine z_iload_n C dX5_lastTrapOf_18 rfl ?_
        refine z_callV C (c_get w μ gs 0 n h6 (by omega) (by omega)) qM_X5_178 dX5_lastTrapOf_19 rfl (zRc_l h6) (fun _ _ h => h.elim) ?_
        rintro v μ2 ⟨rfl, rfl⟩
        rw [show va_rf ((μ2.2.2.2.2.2 gs)[n]?) = va_rf (some t) by rw [ht]]
        refine z_cast C (r := some t) (ci := 4) (q := (RX4, TX4, 4)) dX5_lastTrapOf_22 rfl qC_X5_192 (fun b hb => ⟨n0, by cases hb; exact e1⟩) ?_
        have next : ¬ (μ2.2.1 4 0 t = a ∧ μ2.2.1 4 1 t = p) → Z w x (zQ w x (fun v μ' => μ' = μ2 ∧ ∃ r, v = some (va_rf r) ∧ isLt μ2 (μ2.2.2.2.2.2 gs) a p r) (fun _ _ => False) 0 0) 5 48 [(0, .ref g), (1, .int (J a)), (2, .int (J p)), (3, .int (J (n : Int)))] [] μ2 0 0 := by
          intro hne
          refine z_iinc C dX5_lastTrapOf_48 rfl ?_
          refine z_goto (tgt := 10) C dX5_lastTrapOf_51 (by decide) ?_
          refine z_ls _ (by exact ⟨rfl, rfl, rfl, rfl, trivial⟩) (ih (by omega) (fun j z hj hz => ?_))
          by_cases hjn : j = n
          · subst hjn
            rw [ht] at hz
            cases hz
            exact hne
          · exact hno j z (by omega) hz
        refine z_astore C dX5_lastTrapOf_25 ?_
        refine z_aload C dX5_lastTrapOf_27 rfl ?_
        refine z_geti C qF_X5_191 dX5_lastTrapOf_29 (by assumption) ?_
        refine z_iload_n C dX5_lastTrapOf_32 rfl ?_
        refine z_icmp_ne (tgt := 48) C dX5_lastTrapOf_33 (by decide) (by omega) (fun q2 => ?_) (fun q2 => ?_)
        · exact z_ls _ (by exact ⟨rfl, rfl, rfl, rfl, trivial⟩) (next (fun h => q2 h.1))
        · refine z_aload C dX5_lastTrapOf_36 rfl ?_
          refine z_geti C qF_X5_256 dX5_lastTrapOf_38 (by assumption) ?_
          refine z_iload_n C dX5_lastTrapOf_41 rfl ?_
          refine z_icmp_ne (tgt := 48) C dX5_lastTrapOf_42 (by decide) (by omega) (fun q3 => ?_) (fun q3 => ?_)
          · exact z_ls _ (by exact ⟨rfl, rfl, rfl, rfl, trivial⟩) (next (fun h => q3 h.2))
          · refine z_aload C dX5_lastTrapOf_45 rfl ?_
            exact z_aret C dX5_lastTrapOf_47 ⟨rfl, some t, rfl, n, ht, q2, q3, fun j z hj hz => hno j z (by omega) hz⟩
  refine z_aload_n C dX5_lastTrapOf_0 rfl ?_
  refine z_getr C _ qF_X5_19 dX5_lastTrapOf_1 (by assumption) (by assumption) ?_
  refine z_callV C (c_size w μ gs 0 h6) qM_X5_80 dX5_lastTrapOf_4 rfl (zRc_l h6) (fun _ _ h => h.elim) ?_
  rintro v μ' ⟨rfl, rfl⟩
  refine z_iconst C dX5_lastTrapOf_7 ?_
  refine z_isub C dX5_lastTrapOf_8 ?_
  refine z_istore_n C dX5_lastTrapOf_9 ?_
  exact loop (μ'.2.2.2.2.2 gs).length (Nat.le_refl _) (fun j z hj hz => by have := (List.getElem?_eq_some_iff.mp hz).1; omega)
/-- what sendOrRepeat leaves -/
def sentP (μ : Mem) (g gs : Nat) (a p : Int) (μ' : Mem) : Prop :=
  (∃ t, isLt μ (μ.2.2.2.2.2 gs) a p (some t) ∧ μ.2.1 5 4 g - μ.2.1 4 2 t < 10 ∧ μ' = sI μ 4 3 t (μ.2.1 4 3 t + 1)) ∨
  (∃ r, isLt μ (μ.2.2.2.2.2 gs) a p r ∧ (∀ t, r = some t → 10 ≤ μ.2.1 5 4 g - μ.2.1 4 2 t) ∧ ∃ q μ1, nwT μ μ1 q a p (μ.2.1 5 4 g) ∧ μ' = sL μ1 gs (μ.2.2.2.2.2 gs ++ [q]))
theorem c_sendOrRepeat (w : Wd) (μ : Mem) (g ga gs gd : Nat) (a p : Int) (hM : mtS μ g ga gs gd) (hT : trS μ (μ.2.2.2.2.2 gs)) (ha : 0 ≤ a ∧ a ≤ 3) (hp : 0 ≤ p ∧ p < 65536) (hc : 0 ≤ μ.2.1 5 4 g ∧ μ.2.1 5 4 g ≤ 100000) : cM w yX5_sendOrRepeat cX5_sendOrRepeat 4 none 8 2 900 [.ref g, .int (J a), .int (J p)] μ (fun v μ' => v = none ∧ sentP μ g gs a p μ') (fun _ _ => False) := by
  have hM0 := hM
  obtain ⟨h1, h2, h3, h4, h5, h6, h7⟩ := hM
  have hlen := hT.2
  refine cM_of (fun x C => ?_)
  refine z_aload_n C dX5_sendOrRepeat_0 rfl ?_
  refine z_iload_n C dX5_sendOrRepeat_1 rfl ?_
  refine z_iload_n C dX5_sendOrRepeat_2 rfl ?_
  refine z_callV C (c_lastTrapOf w μ g ga gs gd a p hM0 hT ha hp) qM_X5_251 dX5_sendOrRepeat_3 rfl (zRc_o h1) (fun _ _ h => h.elim) ?_
  rintro v μ2 ⟨rfl, r, rfl, hr⟩
  have make : (∀ t, r = some t → 10 ≤ μ2.2.1 5 4 g - μ2.2.1 4 2 t) → Z w x (zQ w x (fun v μ' => v = none ∧ sentP μ2 g gs a p μ') (fun _ _ => False) 2 900) 4 38 [(0, .ref g), (1, .int (J a)), (2, .int (J p))] [] μ2 0 0 := by
    intro hno
    refine z_aload_n C dX5_sendOrRepeat_38 rfl ?_
    refine z_getr C _ qF_X5_19 dX5_sendOrRepeat_39 (by assumption) (by assumption) ?_
    refine z_new C 4 tyX4 dX5_sendOrRepeat_42 rfl rfl i4 tyX4_ok qC_X5_192 qN_4 qI_4 (by decide) (by decide) (by decide) (fun q hq hb => ?_)
    have hg : g ≠ q := fun e => by rw [e, hq] at h1; cases h1
    have hgs : gs ≠ q := fun e => by rw [e, hq] at h6; cases h6
    have h1' : (sN μ2 q (4, 0)).1 g = some (5, 0) := by rw [show (sN μ2 q (4, 0)).1 g = μ2.1 g from u1_n _ _ hg]; exact h1
    refine z_dup C dX5_sendOrRepeat_45 ?_
    refine z_iload_n C dX5_sendOrRepeat_46 rfl ?_
    refine z_iload_n C dX5_sendOrRepeat_47 rfl ?_
    refine z_aload_n C dX5_sendOrRepeat_48 rfl ?_
    refine z_geti C qF_X5_30 dX5_sendOrRepeat_49 (by assumption) ?_
    rw [show (sN μ2 q (4, 0)).2.1 5 4 g = μ2.2.1 5 4 g from u0_n _ _ _ _ hg]
    refine z_callI C (c_X4_init w μ2 q a p (μ2.2.1 5 4 g) hq) qM_X5_255 dX5_sendOrRepeat_52 rfl ?_
    rintro v μ3 ⟨rfl, hnw⟩
    have hof := hnw.2.1
    have h6' : μ3.1 gs = some (24, 0) := by rw [(hof gs hgs).1]; exact h6
    have hl' : μ3.2.2.2.2.2 gs = μ2.2.2.2.2.2 gs := (hof gs hgs).2.2.2.2.2
    have hAll : zAll μ3 4 (μ3.2.2.2.2.2 gs) := by
      rw [hl']
      intro y hy
      obtain ⟨⟨n0, e1⟩, _⟩ := hT.1 y hy
      have hyq : y ≠ q := fun e => by rw [e, hq] at e1; cases e1
      exact ⟨n0, by rw [(hof y hyq).1]; exact e1⟩
    refine z_callV C (c_add 800 w μ3 gs q 4 0 0 h6' hnw.2.2.1 (Or.inr rfl) hAll (by rw [hl']; omega)) qM_X5_94 dX5_sendOrRepeat_55 rfl (zRc_l h6') (fun _ _ h => h.elim) ?_
    rintro v μ4 ⟨rfl, rfl⟩
    refine z_pop (v := .int (J 1)) C dX5_sendOrRepeat_58 ?_
    exact z_vret C dX5_sendOrRepeat_59 ⟨rfl, Or.inr ⟨r, hr, hno, q, μ3, hnw, by rw [hl']⟩⟩
  refine z_astore_n C dX5_sendOrRepeat_6 ?_
  refine z_aload_n C dX5_sendOrRepeat_7 rfl ?_
  refine z_ifnull (tgt := 38) C dX5_sendOrRepeat_8 (by decide) (fun q => ?_) (fun qa q => ?_)
  · subst q
    exact z_ls _ (by exact ⟨rfl, rfl, rfl, trivial⟩) (make (fun t h => by cases h))
  · subst q
    obtain ⟨t, ht⟩ : ∃ t, t = qa := ⟨_, rfl⟩
    rw [← ht] at hr make ⊢
    obtain ⟨i, g1, g2, g3, g4⟩ := id hr
    obtain ⟨⟨n0, e1⟩, e2, e3, e4, e5⟩ := hT.1 t (List.mem_of_getElem? g1)
    refine z_aload_n C dX5_sendOrRepeat_11 rfl ?_
    refine z_geti C qF_X5_30 dX5_sendOrRepeat_12 (by assumption) ?_
    refine z_aload_n C dX5_sendOrRepeat_15 rfl ?_
    refine z_geti C qF_X5_196 dX5_sendOrRepeat_16 (by assumption) ?_
    refine z_isub C dX5_sendOrRepeat_19 ?_
    refine z_bipush C dX5_sendOrRepeat_20 ?_
    refine z_icmp_ge (tgt := 38) C dX5_sendOrRepeat_22 (by decide) (by omega) (fun q2 => ?_) (fun q2 => ?_)
    · exact z_ls _ (by exact ⟨rfl, rfl, rfl, trivial⟩) (make (fun z h => by cases h; exact q2))
    · refine z_aload_n C dX5_sendOrRepeat_25 rfl ?_
      refine z_dup C dX5_sendOrRepeat_26 ?_
      refine z_geti C qF_X5_199 dX5_sendOrRepeat_27 (by assumption) ?_
      refine z_iconst C dX5_sendOrRepeat_30 ?_
      refine z_iadd C dX5_sendOrRepeat_31 ?_
      refine z_puti C qF_X5_199 qW_4_3 dX5_sendOrRepeat_32 (by assumption) ?_
      refine z_goto (tgt := 59) C dX5_sendOrRepeat_35 (by decide) ?_
      exact z_vret C dX5_sendOrRepeat_59 ⟨rfl, Or.inl ⟨t, hr, q2, rfl⟩⟩
/-- what compareWithMarks leaves, of an item y of agent a -/
def cmpP (μ : Mem) (g gs : Nat) (a : Int) (y : Nat) (μ' : Mem) : Prop := match μ.2.2.1 1 3 y with
  | none => μ' = μ
  | some m => if fires μ m (μ.2.1 1 2 y) = true then sentP (sI μ 2 2 m (arms μ m (μ.2.1 1 2 y))) g gs a (μ.2.1 1 0 y) μ' else μ' = sI μ 2 2 m (arms μ m (μ.2.1 1 2 y))
theorem c_compare (w : Wd) (μ : Mem) (g ga gs gd y : Nat) (a : Int) (mc ms : Nat) (hM : mtS μ g ga gs gd) (hT : trS μ (μ.2.2.2.2.2 gs)) (ha : 0 ≤ a ∧ a ≤ 3) (hc : 0 ≤ μ.2.1 5 4 g ∧ μ.2.1 5 4 g ≤ 100000) (hy : ∃ n0, μ.1 y = some (1, n0)) (hp : 0 ≤ μ.2.1 1 0 y ∧ μ.2.1 1 0 y < 65536) (hv : 0 ≤ μ.2.1 1 2 y ∧ μ.2.1 1 2 y ≤ 999) (hk : ∀ m, μ.2.2.1 1 3 y = some m → mkS μ m) (hr : ∀ m, μ.2.2.1 1 3 y = some m → fires μ m (μ.2.1 1 2 y) = true → 2 ≤ mc ∧ 900 ≤ ms) : cM w yX5_compareWithMarks cX5_compareWithMarks 3 none 9 mc ms [.ref g, .int (J a), .ref y] μ (fun v μ' => v = none ∧ cmpP μ g gs a y μ') (fun _ _ => False) := by
  have hM0 := hM
  obtain ⟨h1, h2, h3, h4, h5, h6, h7⟩ := hM
  obtain ⟨n0, hy⟩ := hy
  refine cM_of (fun x C => ?_)
  refine z_aload_n C dX5_compareWithMarks_0 rfl ?_
  refine z_getq C qF_X5_174 dX5_compareWithMarks_1 hy ?_
  refine z_ifnull (tgt := 30) C dX5_compareWithMarks_4 (by decide) (fun q => ?_) (fun qa q => ?_)
  · exact z_vret C dX5_compareWithMarks_30 ⟨rfl, by unfold cmpP; rw [q]⟩
  · obtain ⟨m, hm⟩ : ∃ m, m = qa := ⟨_, rfl⟩
    rw [← hm] at q
    have hmk := hk m q
    refine z_aload_n C dX5_compareWithMarks_7 rfl ?_
    refine z_getr C m qF_X5_174 dX5_compareWithMarks_8 hy q ?_
    refine z_aload_n C dX5_compareWithMarks_11 rfl ?_
    refine z_geti C qF_X5_109 dX5_compareWithMarks_12 (by assumption) ?_
    obtain ⟨n1, hm1⟩ := hmk.1
    refine z_callV C (c_fireAt w μ m _ hmk hv) qM_X5_245 dX5_compareWithMarks_15 rfl (zRc_o hm1) (fun _ _ h => h.elim) ?_
    rintro v μ2 ⟨rfl, rfl⟩
    cases hf : fires μ m (μ.2.1 1 2 y) with
    | false =>
      rw [show zB false = 0 from rfl]
      refine z_if_eq (tgt := 30) C dX5_compareWithMarks_18 (by decide) (by omega) (fun t => ?_) (fun t => ?_)
      · exact z_vret C dX5_compareWithMarks_30 ⟨rfl, by unfold cmpP; rw [q]; show (if _ then _ else _); rw [hf, if_neg (by decide)]⟩
      · exact absurd rfl t
    | true =>
      rw [show zB true = 1 from rfl]
      have hr2 := hr m q hf
      refine z_if_eq (tgt := 30) C dX5_compareWithMarks_18 (by decide) (by omega) (fun t => ?_) (fun t => ?_)
      · exact absurd t (by decide)
      · have hy' : (sI μ 2 2 m (arms μ m (μ.2.1 1 2 y))).1 y = some (1, n0) := hy
        refine z_aload_n C dX5_compareWithMarks_21 rfl ?_
        refine z_iload_n C dX5_compareWithMarks_22 rfl ?_
        refine z_aload_n C dX5_compareWithMarks_23 rfl ?_
        refine z_geti C qF_X5_230 dX5_compareWithMarks_24 (by assumption) ?_
        have hne : ∀ c k b, c ≠ 2 → (sI μ 2 2 m (arms μ m (μ.2.1 1 2 y))).2.1 c k b = μ.2.1 c k b := fun c k b hc => u3_c _ _ _ _ _ _ _ hc
        rw [hne 1 0 y (by decide)]
        refine z_callV C (c_sendOrRepeat w (sI μ 2 2 m (arms μ m (μ.2.1 1 2 y))) g ga gs gd a (μ.2.1 1 0 y) hM0 ⟨fun t ht => ?_, hT.2⟩ ha hp (by rw [hne 5 4 g (by decide)]; exact hc)) qM_X5_248 dX5_compareWithMarks_27 rfl (zRc_o h1) (fun _ _ h => h.elim) ?_
        · have := hT.1 t ht
          rw [hne 4 0 t (by decide), hne 4 1 t (by decide), hne 4 2 t (by decide), hne 4 3 t (by decide)]
          exact this
        · rintro v μ4 ⟨rfl, hs⟩
          exact z_vret C dX5_compareWithMarks_30 ⟨rfl, by unfold cmpP; rw [q]; show (if _ then _ else _); rw [hf, if_pos rfl]; exact hs⟩

/-! the whole object's cells, at the addresses of G: 0 the object, 1 its agents, 2 the traps, 3 the sorted; agent j at 4 + 5 j and its four behind it -/
abbrev gA (G : Nat → Nat) (j : Nat) : Nat := G (4 + 5 * j)
abbrev gL (G : Nat → Nat) (j : Nat) : Nat := G (5 + 5 * j)
abbrev gP (G : Nat → Nat) (j : Nat) : Nat := G (6 + 5 * j)
abbrev gU (G : Nat → Nat) (j : Nat) : Nat := G (7 + 5 * j)
abbrev gN (G : Nat → Nat) (j : Nat) : Nat := G (8 + 5 * j)
def csS (μ : Mem) (G : Nat → Nat) : Prop := mtS μ (G 0) (G 1) (G 2) (G 3) ∧ (∀ j : Nat, j < 4 → μ.2.2.2.2.1 (G 1) (j : Int) = some (gA G j)) ∧ ∀ j : Nat, j < 4 → agS μ (gA G j) (gL G j) (gP G j) (gU G j) (gN G j)
def nbS (μ : Mem) (G : Nat → Nat) : Prop := ∀ j : Nat, j < 4 → ∀ s : Int, -1 ≤ μ.2.2.2.1 (gN G j) s ∧ μ.2.2.2.1 (gN G j) s ≤ 3
/-- whether agent one names other -/
def nm (μ : Mem) (G : Nat → Nat) (one other : Nat) : Bool := nbF (μ.2.2.2.1 (gN G one)) (other : Int) 4 0
theorem c_names (w : Wd) (μ : Mem) (G : Nat → Nat) (i j : Nat) (hS : csS μ G) (hN : nbS μ G) (hi : i < 4) (hj : j < 4) : cM w yX5_names cX5_names 3 (some .boolean) 8 0 0 [.ref (G 0), .int (J (i : Int)), .int (J (j : Int))] μ (fun v μ' => v = some (.int (J (zB (nm μ G i j)))) ∧ μ' = μ) (fun _ _ => False) := by
  obtain ⟨hM, hR, hA⟩ := hS
  refine cM_of (fun x C => ?_)
  refine z_aload_n C dX5_names_0 rfl ?_
  refine z_iload_n C dX5_names_1 rfl ?_
  refine z_callV C (c_agentNumbered w μ (G 0) (G 1) (G 2) (G 3) (gA G) (i : Int) 0 0 (fun h => absurd (by omega) h) hM hR ⟨by omega, by omega⟩) qM_X5_61 dX5_names_2 rfl (zRc_o hM.1) (fun _ _ h => absurd ⟨by omega, by omega⟩ h.2.1) ?_
  rintro v μ2 ⟨_, rfl, rfl⟩
  rw [show ((i : Int)).toNat = i from rfl]
  refine z_iload_n C dX5_names_5 rfl ?_
  refine z_callV C (c_hasNeighbour w μ2 (gA G i) (gL G i) (gP G i) (gU G i) (gN G i) (j : Int) (hA i hi) (hN i hi) ⟨by omega, by omega⟩) qM_X5_257 dX5_names_6 rfl (zRc_o (hA i hi).1) (fun _ _ h => h.elim) ?_
  rintro v μ3 ⟨rfl, rfl⟩
  exact z_zret C (v := zB (nm μ3 G i j)) dX5_names_9 (by cases nm μ3 G i j <;> simp [zB]) ⟨rfl, rfl⟩
