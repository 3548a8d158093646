/-! Agent's methods, second half -/
theorem take_snoc {l : List Nat} {m y : Nat} (h : l[m]? = some y) : l.take (m + 1) = l.take m ++ [y] := by
  rw [List.take_add_one, h]
  rfl
theorem drop_cons {l : List Nat} {m y : Nat} (h : l[m]? = some y) : l.drop m = y :: l.drop (m + 1) := by
  obtain ⟨hm, rfl⟩ := List.getElem?_eq_some_iff.mp h
  exact List.drop_eq_getElem_cons hm
theorem erase_mid {t r : List Nat} {y : Nat} : (t ++ y :: r).eraseIdx t.length = t ++ r := by
  rw [List.eraseIdx_append_of_length_le (Nat.le_refl _), Nat.sub_self]
  rfl
/-- the items with another path -/
def fOut (μ : Mem) (p : Int) (l : List Nat) : List Nat := l.filter (fun y => !decide (μ.2.1 1 0 y = p))
theorem c_takeOut (w : Wd) (μ : Mem) (A li rp ru ne : Nat) (p : Int) (hA : agS μ A li rp ru ne) (hI : itS μ (μ.2.2.2.2.2 li)) (hp : 0 ≤ p ∧ p < 65536) : cM w yX0_takeOut cX0_takeOut 3 none 4 0 0 [.ref A, .int (J p)] μ (fun v μ' => v = none ∧ μ' = sL μ li (fOut μ p (μ.2.2.2.2.2 li))) (fun _ _ => False) := by
  obtain ⟨h1, h2, h3, h4, h5, h6, h7, h8, h9⟩ := hA
  have hlen := hI.2.1
  obtain ⟨l, hl⟩ : ∃ l, l = μ.2.2.2.2.2 li := ⟨_, rfl⟩
  rw [← hl] at hI hlen ⊢
  refine cM_of (fun x C => ?_)
  have loop : ∀ (n : Nat) (cur : List Nat), n ≤ l.length → cur = l.take n ++ fOut μ p (l.drop n) → Z w x (zQ w x (fun v μ' => v = none ∧ μ' = sL μ li (fOut μ p l)) (fun _ _ => False) 0 0) 3 10 [(0, .ref A), (1, .int (J p)), (2, .int (J ((n : Int) - 1)))] [] (sL μ li cur) 0 0 := by
    intro n
    induction n with
    | zero =>
      intro cur hn hc
      refine z_iload_n C dX0_takeOut_10 rfl ?_
      refine z_if_lt (tgt := 47) C dX0_takeOut_11 (by decide) (by omega) (fun g => ?_) (fun g => ?_)
      · refine z_vret C dX0_takeOut_47 ⟨rfl, ?_⟩
        rw [hc]
        rfl
      · omega
    | succ m ih =>
      intro cur hn hc
      obtain ⟨y, n0, e1, e2, e3, e4, e5⟩ := itS_at hI (i := m) (by omega)
      have e9 : (sL μ li cur).2.2.2.2.2 li = cur := u1_s _ _ _
      have ht : (l.take m).length = m := by simp; omega
      have hc2 : cur = l.take m ++ y :: fOut μ p (l.drop (m + 1)) := by rw [hc, take_snoc e1, List.append_assoc]; rfl
      have hcm : cur[m]? = some y := by rw [hc2, List.getElem?_append_right (by omega), ht, Nat.sub_self]; rfl
      have hcl : m < cur.length := (List.getElem?_eq_some_iff.mp hcm).1
      have hmem : ∀ z ∈ cur, z ∈ l := by
        intro z hz
        rw [hc2] at hz
        rcases List.mem_append.mp hz with hz | hz
        · exact List.mem_of_mem_take hz
        · rcases List.mem_cons.mp hz with rfl | hz
          · exact e2
          · exact List.mem_of_mem_drop (List.mem_filter.mp hz).1
      have hcl2 : cur.length ≤ l.length := by
        have h99 : (fOut μ p (l.drop (m + 1))).length ≤ (l.drop (m + 1)).length := List.length_filter_le _ _
        rw [hc2, List.length_append, ht, List.length_cons]
        simp at h99
        omega
      have hstep : l.take m ++ fOut μ p (l.drop m) = if μ.2.1 1 0 y = p then cur.eraseIdx m else cur := by
        rw [drop_cons e1]
        by_cases hy : μ.2.1 1 0 y = p
        · rw [if_pos hy, hc2]
          have h98 := erase_mid (t := l.take m) (r := fOut μ p (l.drop (m + 1))) (y := y)
          rw [ht] at h98
          rw [h98]
          unfold fOut
          rw [List.filter_cons_of_neg (by simp [hy])]
        · rw [if_neg hy, hc2]
          unfold fOut
          rw [List.filter_cons_of_pos (by simp [hy])]
      rw [show ((m + 1 : Nat) : Int) - 1 = (m : Int) by omega]
      refine z_iload_n C dX0_takeOut_10 rfl ?_
      refine z_if_lt (tgt := 47) C dX0_takeOut_11 (by decide) (by omega) (fun g => ?_) (fun g => ?_)
      · omega
      · refine z_aload_n C dX0_takeOut_14 rfl ?_
        refine z_getr C _ qF_X0_12 dX0_takeOut_15 (by assumption) (by assumption) ?_
        refine z_iload_n C dX0_takeOut_18 rfl ?_
        refine z_callV C (c_get w (sL μ li cur) li 0 m h6 (by rw [e9]; exact hcl) (by rw [e9]; omega)) qM_X0_36 dX0_takeOut_19 rfl (zRc_l h6) (fun _ _ h => h.elim) ?_
        rintro v μ2 ⟨rfl, rfl⟩
        rw [e9, hcm]
        refine z_cast C (r := some y) (ci := 1) (q := (RX1, TX1, 6)) dX0_takeOut_22 rfl qC_X0_40 (fun b hb => ⟨n0, by cases hb; exact e3⟩) ?_
        have e3' : (sL μ li cur).1 y = some (1, n0) := e3
        have e4' : 0 ≤ (sL μ li cur).2.1 1 0 y ∧ (sL μ li cur).2.1 1 0 y < 65536 := ⟨e4, e5⟩
        refine z_geti C qF_X0_42 dX0_takeOut_25 (by assumption) ?_
        refine z_iload_n C dX0_takeOut_28 rfl ?_
        refine z_icmp_ne (tgt := 41) C dX0_takeOut_29 (by decide) (by omega) (fun g2 => ?_) (fun g2 => ?_)
        · refine z_iinc C dX0_takeOut_41 rfl ?_
          refine z_goto (tgt := 10) C dX0_takeOut_44 (by decide) ?_
          refine z_ls _ (by exact ⟨rfl, rfl, rfl, trivial⟩) (ih cur (by omega) ?_)
          rw [hstep, if_neg g2]
        · refine z_aload_n C dX0_takeOut_32 rfl ?_
          refine z_getr C _ qF_X0_12 dX0_takeOut_33 (by assumption) (by assumption) ?_
          refine z_iload_n C dX0_takeOut_36 rfl ?_
          refine z_callV C (c_remove w (sL μ li cur) li 1 0 m h6 (Or.inl rfl) (by rw [e9]; exact fun z hz => hI.1 z (hmem z hz)) (by rw [e9]; exact hcl) (by rw [e9]; omega)) qM_X0_45 dX0_takeOut_37 rfl (zRc_l h6) (fun _ _ h => h.elim) ?_
          rintro v μ2 ⟨rfl, rfl⟩
          rw [e9, show sL (sL μ li cur) li (cur.eraseIdx m) = sL μ li (cur.eraseIdx m) by show (_, _, _, _, _, u1 (u1 _ _ _) _ _) = _; rw [u1_u1]]
          refine z_pop (v := va_rf cur[m]?) C dX0_takeOut_40 ?_
          refine z_iinc C dX0_takeOut_41 rfl ?_
          refine z_goto (tgt := 10) C dX0_takeOut_44 (by decide) ?_
          refine z_ls _ (by exact ⟨rfl, rfl, rfl, trivial⟩) (ih (cur.eraseIdx m) (by omega) ?_)
          rw [hstep, if_pos g2]
  refine z_aload_n C dX0_takeOut_0 rfl ?_
  refine z_getr C _ qF_X0_12 dX0_takeOut_1 (by assumption) (by assumption) ?_
  refine z_callV C (c_size w μ li 0 h6) qM_X0_32 dX0_takeOut_4 rfl (zRc_l h6) (fun _ _ h => h.elim) ?_
  rintro v μ' ⟨rfl, rfl⟩
  rw [← hl]
  refine z_iconst C dX0_takeOut_7 ?_
  refine z_isub C dX0_takeOut_8 ?_
  refine z_istore_n C dX0_takeOut_9 ?_
  have K := loop l.length l (Nat.le_refl _) (by simp [fOut])
  rw [show sL μ' li l = μ' by rw [hl]; exact sL_self] at K
  exact K
/-- the next path behind p that isn't hidden, in a list of items -/
def isNx (μ : Mem) (R P : Int → Int) (l : List Nat) (p : Int) (r : Option Nat) : Prop := match r with
  | none => ∀ y ∈ l, ¬ (p < μ.2.1 1 0 y ∧ hid16 R P (μ.2.1 1 0 y) = false)
  | some y => y ∈ l ∧ p < μ.2.1 1 0 y ∧ hid16 R P (μ.2.1 1 0 y) = false ∧ ∀ z ∈ l, p < μ.2.1 1 0 z → hid16 R P (μ.2.1 1 0 z) = false → μ.2.1 1 0 y ≤ μ.2.1 1 0 z
theorem isNx_skip {μ : Mem} {R P : Int → Int} {t : List Nat} {p : Int} {r : Option Nat} {x : Nat} (h : isNx μ R P t p r) (hx : ¬ (p < μ.2.1 1 0 x ∧ hid16 R P (μ.2.1 1 0 x) = false)) : isNx μ R P (t ++ [x]) p r := by
  cases r with
  | none =>
    intro y hy
    rcases List.mem_append.mp hy with hy | hy
    · exact h y hy
    · rw [List.mem_singleton.mp hy]
      exact hx
  | some y =>
    obtain ⟨h1, h2, h3, h4⟩ := h
    refine ⟨List.mem_append_left _ h1, h2, h3, fun z hz g1 g2 => ?_⟩
    rcases List.mem_append.mp hz with hz | hz
    · exact h4 z hz g1 g2
    · rw [List.mem_singleton.mp hz] at g1 g2
      exact absurd ⟨g1, g2⟩ hx
theorem isNx_stay {μ : Mem} {R P : Int → Int} {t : List Nat} {p : Int} {y x : Nat} (h : isNx μ R P t p (some y)) (hx : μ.2.1 1 0 y ≤ μ.2.1 1 0 x) : isNx μ R P (t ++ [x]) p (some y) := by
  obtain ⟨h1, h2, h3, h4⟩ := h
  refine ⟨List.mem_append_left _ h1, h2, h3, fun z hz g1 g2 => ?_⟩
  rcases List.mem_append.mp hz with hz | hz
  · exact h4 z hz g1 g2
  · rw [List.mem_singleton.mp hz]
    exact hx
theorem isNx_take {μ : Mem} {R P : Int → Int} {t : List Nat} {p : Int} {r : Option Nat} {x : Nat} (h : isNx μ R P t p r) (hr : ∀ y, r = some y → μ.2.1 1 0 x < μ.2.1 1 0 y) (h1 : p < μ.2.1 1 0 x) (h2 : hid16 R P (μ.2.1 1 0 x) = false) : isNx μ R P (t ++ [x]) p (some x) := by
  refine ⟨List.mem_append_right _ (List.mem_singleton.mpr rfl), h1, h2, fun z hz g1 g2 => ?_⟩
  rcases List.mem_append.mp hz with hz | hz
  · cases r with
    | none => exact absurd ⟨g1, g2⟩ (h z hz)
    | some y =>
      have := h.2.2.2 z hz g1 g2
      have := hr y rfl
      omega
  · rw [List.mem_singleton.mp hz]
    exact Int.le_refl _
theorem isNx_ty {μ : Mem} {R P : Int → Int} {t l : List Nat} {p : Int} {y : Nat} (h : isNx μ R P t p (some y)) (ht : ∀ z ∈ t, z ∈ l) (hI : itS μ l) : ∃ n0, μ.1 y = some (1, n0) ∧ 0 ≤ μ.2.1 1 0 y ∧ μ.2.1 1 0 y < 65536 := by
  obtain ⟨n0, hn⟩ := hI.1 y (ht y h.1)
  exact ⟨n0, hn, hI.2.2 y (ht y h.1)⟩
theorem c_firstShown (w : Wd) (μ : Mem) (A li rp ru ne : Nat) (p : Int) (hA : agS μ A li rp ru ne) (hI : itS μ (μ.2.2.2.2.2 li)) (hR : ruS μ rp ru) (hp : 0 ≤ p ∧ p < 65536) : cM w yX0_firstShownBehind cX0_firstShownBehind 6 (some (.object "Managetree$Item")) 4 0 0 [.ref A, .int (J p)] μ (fun v μ' => μ' = μ ∧ ∃ r, v = some (va_rf r) ∧ isNx μ (μ.2.2.2.1 ru) (μ.2.2.2.1 rp) (μ.2.2.2.2.2 li) p r) (fun _ _ => False) := by
  have hA0 := hA
  obtain ⟨h1, h2, h3, h4, h5, h6, h7, h8, h9⟩ := hA
  have hlen := hI.2.1
  refine cM_of (fun x C => ?_)
  refine z_null C dX0_firstShownBehind_0 ?_
  refine z_astore_n C dX0_firstShownBehind_1 ?_
  refine z_iconst C dX0_firstShownBehind_2 ?_
  refine z_istore_n C dX0_firstShownBehind_3 ?_
  have loop : ∀ (r i : Nat) (fo : Option Nat), i + r = (μ.2.2.2.2.2 li).length → isNx μ (μ.2.2.2.1 ru) (μ.2.2.2.1 rp) ((μ.2.2.2.2.2 li).take i) p fo → Z w x (zQ w x (fun v μ' => μ' = μ ∧ ∃ r, v = some (va_rf r) ∧ isNx μ (μ.2.2.2.1 ru) (μ.2.2.2.1 rp) (μ.2.2.2.2.2 li) p r) (fun _ _ => False) 0 0) 6 4 [(0, .ref A), (1, .int (J p)), (2, va_rf fo), (3, .int (J (i : Int)))] [] μ 0 0 := by
    intro r
    induction r with
    | zero =>
      intro i fo hr hN
      refine z_iload_n C dX0_firstShownBehind_4 rfl ?_
      refine z_aload_n C dX0_firstShownBehind_5 rfl ?_
      refine z_getr C _ qF_X0_12 dX0_firstShownBehind_6 (by assumption) (by assumption) ?_
      refine z_callV C (c_size w μ li 0 h6) qM_X0_32 dX0_firstShownBehind_9 rfl (zRc_l h6) (fun _ _ h => h.elim) ?_
      rintro v μ' ⟨rfl, rfl⟩
      refine z_icmp_ge (tgt := 86) C dX0_firstShownBehind_12 (by decide) (by omega) (fun g => ?_) (fun g => ?_)
      · refine z_aload_n C dX0_firstShownBehind_86 rfl ?_
        rw [List.take_of_length_le (by omega)] at hN
        exact z_aret C dX0_firstShownBehind_87 ⟨rfl, fo, rfl, hN⟩
      · omega
    | succ r ih =>
      intro i fo hr hN
      refine z_iload_n C dX0_firstShownBehind_4 rfl ?_
      refine z_aload_n C dX0_firstShownBehind_5 rfl ?_
      refine z_getr C _ qF_X0_12 dX0_firstShownBehind_6 (by assumption) (by assumption) ?_
      refine z_callV C (c_size w μ li 0 h6) qM_X0_32 dX0_firstShownBehind_9 rfl (zRc_l h6) (fun _ _ h => h.elim) ?_
      rintro v μ' ⟨rfl, rfl⟩
      refine z_icmp_ge (tgt := 86) C dX0_firstShownBehind_12 (by decide) (by omega) (fun g => ?_) (fun g => ?_)
      · omega
      · refine z_aload_n C dX0_firstShownBehind_15 rfl ?_
        refine z_getr C _ qF_X0_12 dX0_firstShownBehind_16 (by assumption) (by assumption) ?_
        refine z_iload_n C dX0_firstShownBehind_19 rfl ?_
        obtain ⟨y, n0, e1, e2, e3, e4, e5⟩ := itS_at hI (i := i) (by omega)
        have hsn := take_snoc e1
        refine z_callV C (c_get w μ' li 0 i h6 (by omega) (by omega)) qM_X0_36 dX0_firstShownBehind_20 rfl (zRc_l h6) (fun _ _ h => h.elim) ?_
        rintro v μ2 ⟨rfl, rfl⟩
        rw [e1]
        refine z_cast C (r := some y) (ci := 1) (q := (RX1, TX1, 6)) dX0_firstShownBehind_23 rfl qC_X0_40 (fun b hb => ⟨n0, by cases hb; exact e3⟩) ?_
        have step : ∀ fo2, isNx μ2 (μ2.2.2.2.1 ru) (μ2.2.2.2.1 rp) ((μ2.2.2.2.2.2 li).take i ++ [y]) p fo2 → ∀ ls : List (Nat × Value), zsub ls [(0, .ref A), (1, .int (J p)), (2, va_rf fo2), (3, .int (J (i : Int)))] → Z w x (zQ w x (fun v μ' => μ' = μ2 ∧ ∃ r, v = some (va_rf r) ∧ isNx μ2 (μ2.2.2.2.1 ru) (μ2.2.2.2.1 rp) (μ2.2.2.2.2.2 li) p r) (fun _ _ => False) 0 0) 6 80 ls [] μ2 0 0 := by
          intro fo2 hN2 ls hls
          refine z_ls _ hls ?_
          refine z_iinc C dX0_firstShownBehind_80 rfl ?_
          refine z_goto (tgt := 4) C dX0_firstShownBehind_83 (by decide) ?_
          exact ih (i + 1) fo2 (by omega) (by rw [hsn]; exact hN2)
        -- hides(item.path), better being known
        have look : p < μ2.2.1 1 0 y → (∀ z, fo = some z → μ2.2.1 1 0 y < μ2.2.1 1 0 z) → Z w x (zQ w x (fun v μ' => μ' = μ2 ∧ ∃ r, v = some (va_rf r) ∧ isNx μ2 (μ2.2.2.2.1 ru) (μ2.2.2.2.1 rp) (μ2.2.2.2.2.2 li) p r) (fun _ _ => False) 0 0) 6 65 [(0, .ref A), (1, .int (J p)), (2, va_rf fo), (3, .int (J (i : Int))), (4, .ref y), (5, .int (J 1))] [] μ2 0 0 := by
          intro k1 k2
          refine z_aload_n C dX0_firstShownBehind_65 rfl ?_
          refine z_aload C dX0_firstShownBehind_66 rfl ?_
          refine z_geti C qF_X0_42 dX0_firstShownBehind_68 (by assumption) ?_
          refine z_callV C (c_hides w μ2 A li rp ru ne _ hA0 hR ⟨e4, e5⟩) qM_X0_48 dX0_firstShownBehind_71 rfl (zRc_o h1) (fun _ _ h => h.elim) ?_
          rintro v μ3 ⟨rfl, rfl⟩
          cases hh : hid16 (μ3.2.2.2.1 ru) (μ3.2.2.2.1 rp) (μ3.2.1 1 0 y) with
          | true =>
            rw [show zB true = 1 from rfl]
            refine z_if_ne (tgt := 80) C dX0_firstShownBehind_74 (by decide) (by omega) (fun q => ?_) (fun q => ?_)
            · exact step fo (isNx_skip hN (fun q => by rw [hh] at q; cases q.2)) _ ⟨rfl, rfl, rfl, rfl, trivial⟩
            · exact absurd q (by decide)
          | false =>
            rw [show zB false = 0 from rfl]
            refine z_if_ne (tgt := 80) C dX0_firstShownBehind_74 (by decide) (by omega) (fun q => ?_) (fun q => ?_)
            · exact absurd rfl q
            · refine z_aload C dX0_firstShownBehind_77 rfl ?_
              refine z_astore_n C dX0_firstShownBehind_79 ?_
              exact step (some y) (isNx_take hN k2 k1 hh) _ ⟨rfl, rfl, rfl, rfl, trivial⟩
        refine z_astore C dX0_firstShownBehind_26 ?_
        refine z_aload C dX0_firstShownBehind_28 rfl ?_
        refine z_geti C qF_X0_42 dX0_firstShownBehind_30 (by assumption) ?_
        refine z_iload_n C dX0_firstShownBehind_33 rfl ?_
        refine z_icmp_le (tgt := 57) C dX0_firstShownBehind_34 (by decide) (by omega) (fun g2 => ?_) (fun g2 => ?_)
        · refine z_iconst C dX0_firstShownBehind_57 ?_
          refine z_istore C dX0_firstShownBehind_58 ?_
          refine z_iload C dX0_firstShownBehind_60 rfl ?_
          refine z_if_eq (tgt := 80) C dX0_firstShownBehind_62 (by decide) (by omega) (fun g3 => ?_) (fun g3 => ?_)
          · exact step fo (isNx_skip hN (fun q => by omega)) _ ⟨rfl, rfl, rfl, rfl, trivial⟩
          · exact absurd rfl g3
        · refine z_aload_n C dX0_firstShownBehind_37 rfl ?_
          refine z_ifnull (tgt := 53) C dX0_firstShownBehind_38 (by decide) (fun g3 => ?_) (fun g3a g3 => ?_)
          · refine z_iconst C dX0_firstShownBehind_53 ?_
            refine z_goto (tgt := 58) C dX0_firstShownBehind_54 (by decide) ?_
            refine z_istore C dX0_firstShownBehind_58 ?_
            refine z_iload C dX0_firstShownBehind_60 rfl ?_
            refine z_if_eq (tgt := 80) C dX0_firstShownBehind_62 (by decide) (by omega) (fun g4 => ?_) (fun g4 => ?_)
            · exact absurd g4 (by decide)
            · exact look g2 (fun z hz => by rw [g3] at hz; cases hz)
          · subst g3
            obtain ⟨n1, k1, k2, k3⟩ := isNx_ty hN (fun z hz => List.mem_of_mem_take hz) hI
            refine z_aload C dX0_firstShownBehind_41 rfl ?_
            refine z_geti C qF_X0_42 dX0_firstShownBehind_43 (by assumption) ?_
            refine z_aload_n C dX0_firstShownBehind_46 rfl ?_
            refine z_geti C qF_X0_42 dX0_firstShownBehind_47 (by assumption) ?_
            refine z_icmp_ge (tgt := 57) C dX0_firstShownBehind_50 (by decide) (by omega) (fun g4 => ?_) (fun g4 => ?_)
            · refine z_iconst C dX0_firstShownBehind_57 ?_
              refine z_istore C dX0_firstShownBehind_58 ?_
              refine z_iload C dX0_firstShownBehind_60 rfl ?_
              refine z_if_eq (tgt := 80) C dX0_firstShownBehind_62 (by decide) (by omega) (fun g5 => ?_) (fun g5 => ?_)
              · exact step _ (isNx_stay hN g4) _ ⟨rfl, rfl, rfl, rfl, trivial⟩
              · exact absurd rfl g5
            · refine z_iconst C dX0_firstShownBehind_53 ?_
              refine z_goto (tgt := 58) C dX0_firstShownBehind_54 (by decide) ?_
              refine z_istore C dX0_firstShownBehind_58 ?_
              refine z_iload C dX0_firstShownBehind_60 rfl ?_
              refine z_if_eq (tgt := 80) C dX0_firstShownBehind_62 (by decide) (by omega) (fun g5 => ?_) (fun g5 => ?_)
              · exact absurd g5 (by decide)
              · exact look g2 (fun z hz => by cases hz; exact g4)
  refine z_ls [(0, .ref A), (1, .int (J p)), (2, va_rf none), (3, .int (J ((0 : Nat) : Int)))] ⟨rfl, rfl, rfl, rfl, trivial⟩ ?_
  exact loop (μ.2.2.2.2.2 li).length 0 none (by omega) (fun y hy => by cases hy)

theorem zB_in (b : Bool) : 0 ≤ zB b ∧ zB b ≤ 1 := by cases b <;> decide
theorem c_countShown (w : Wd) (μ : Mem) (A li rp ru ne : Nat) (hA : agS μ A li rp ru ne) (hI : itS μ (μ.2.2.2.2.2 li)) (hR : ruS μ rp ru) : cM w yX0_countShown cX0_countShown 3 (some .int) 4 0 0 [.ref A] μ (fun v μ' => v = some (.int (J (((μ.2.2.2.2.2 li).countP (fun y => !hid16 (μ.2.2.2.1 ru) (μ.2.2.2.1 rp) (μ.2.1 1 0 y)) : Nat) : Int))) ∧ μ' = μ) (fun _ _ => False) := by
  have hA0 := hA
  obtain ⟨h1, h2, h3, h4, h5, h6, h7, h8, h9⟩ := hA
  have hlen := hI.2.1
  refine cM_of (fun x C => ?_)
  obtain ⟨f, hf⟩ : ∃ f : Nat → Bool, f = fun y => !hid16 (μ.2.2.2.1 ru) (μ.2.2.2.1 rp) (μ.2.1 1 0 y) := ⟨_, rfl⟩
  rw [← hf]
  obtain ⟨V, hV⟩ : ∃ V, V = (μ.2.2.2.2.2 li).countP f := ⟨_, rfl⟩
  rw [← hV]
  refine z_iconst C dX0_countShown_0 ?_
  refine z_istore_n C dX0_countShown_1 ?_
  refine z_iconst C dX0_countShown_2 ?_
  refine z_istore_n C dX0_countShown_3 ?_
  have loop : ∀ (r i : Nat), i + r = (μ.2.2.2.2.2 li).length → Z w x (zQ w x (fun v μ' => v = some (.int (J (V : Int))) ∧ μ' = μ) (fun _ _ => False) 0 0) 3 4 [(0, .ref A), (1, .int (J ((((μ.2.2.2.2.2 li).take i).countP f : Nat) : Int))), (2, .int (J (i : Int)))] [] μ 0 0 := by
    intro r
    induction r with
    | zero =>
      intro i hr
      refine z_iload_n C dX0_countShown_4 rfl ?_
      refine z_aload_n C dX0_countShown_5 rfl ?_
      refine z_getr C _ qF_X0_12 dX0_countShown_6 (by assumption) (by assumption) ?_
      refine z_callV C (c_size w μ li 0 h6) qM_X0_32 dX0_countShown_9 rfl (zRc_l h6) (fun _ _ h => h.elim) ?_
      rintro v μ' ⟨rfl, rfl⟩
      refine z_icmp_ge (tgt := 45) C dX0_countShown_12 (by decide) (by omega) (fun g => ?_) (fun g => ?_)
      · refine z_iload_n C dX0_countShown_45 rfl ?_
        exact z_iret C dX0_countShown_46 ⟨by rw [List.take_of_length_le (by omega), hV], rfl⟩
      · omega
    | succ r ih =>
      intro i hr
      refine z_iload_n C dX0_countShown_4 rfl ?_
      refine z_aload_n C dX0_countShown_5 rfl ?_
      refine z_getr C _ qF_X0_12 dX0_countShown_6 (by assumption) (by assumption) ?_
      refine z_callV C (c_size w μ li 0 h6) qM_X0_32 dX0_countShown_9 rfl (zRc_l h6) (fun _ _ h => h.elim) ?_
      rintro v μ' ⟨rfl, rfl⟩
      refine z_icmp_ge (tgt := 45) C dX0_countShown_12 (by decide) (by omega) (fun g => ?_) (fun g => ?_)
      · omega
      · refine z_aload_n C dX0_countShown_15 rfl ?_
        refine z_aload_n C dX0_countShown_16 rfl ?_
        refine z_getr C _ qF_X0_12 dX0_countShown_17 (by assumption) (by assumption) ?_
        refine z_iload_n C dX0_countShown_20 rfl ?_
        obtain ⟨y, n0, e1, e2, e3, e4, e5⟩ := itS_at hI (i := i) (by omega)
        have hsn := take_snoc e1
        refine z_callV C (c_get w μ' li 0 i h6 (by omega) (by omega)) qM_X0_36 dX0_countShown_21 rfl (zRc_l h6) (fun _ _ h => h.elim) ?_
        rintro v μ2 ⟨rfl, rfl⟩
        rw [e1]
        refine z_cast C (r := some y) (ci := 1) (q := (RX1, TX1, 6)) dX0_countShown_24 rfl qC_X0_40 (fun b hb => ⟨n0, by cases hb; exact e3⟩) ?_
        refine z_geti C qF_X0_42 dX0_countShown_27 (by assumption) ?_
        refine z_callV C (c_hides w μ2 A li rp ru ne _ hA0 hR ⟨e4, e5⟩) qM_X0_48 dX0_countShown_30 rfl (zRc_o h1) (fun _ _ h => h.elim) ?_
        rintro v μ3 ⟨rfl, rfl⟩
        have K := ih (i + 1) (by omega)
        rw [hsn, List.countP_append] at K
        have hfy : f y = !hid16 (μ3.2.2.2.1 ru) (μ3.2.2.2.1 rp) (μ3.2.1 1 0 y) := by rw [hf]
        cases hh : hid16 (μ3.2.2.2.1 ru) (μ3.2.2.2.1 rp) (μ3.2.1 1 0 y) with
        | true =>
          rw [hh] at hfy
          rw [show zB true = 1 from rfl]
          rw [show List.countP f [y] = 0 by simp [hfy]] at K
          refine z_if_ne (tgt := 39) C dX0_countShown_33 (by decide) (by omega) (fun q => ?_) (fun q => ?_)
          · refine z_iinc C dX0_countShown_39 rfl ?_
            refine z_goto (tgt := 4) C dX0_countShown_42 (by decide) ?_
            exact K
          · exact absurd q (by decide)
        | false =>
          rw [hh] at hfy
          rw [show zB false = 0 from rfl]
          rw [show List.countP f [y] = 1 by simp [hfy]] at K
          refine z_if_ne (tgt := 39) C dX0_countShown_33 (by decide) (by omega) (fun q => ?_) (fun q => ?_)
          · exact absurd rfl q
          · refine z_iinc C dX0_countShown_36 rfl ?_
            refine z_iinc C dX0_countShown_39 rfl ?_
            refine z_goto (tgt := 4) C dX0_countShown_42 (by decide) ?_
            exact K
  exact loop (μ.2.2.2.2.2 li).length 0 (by omega)
def nbF (N : Int → Int) (a : Int) : Nat → Int → Bool
  | 0, _ => false
  | f + 1, s => decide (N s = a) || nbF N a f (s + 1)
theorem c_hasNeighbour (w : Wd) (μ : Mem) (A li rp ru ne : Nat) (a : Int) (hA : agS μ A li rp ru ne) (hN : ∀ s : Int, -1 ≤ μ.2.2.2.1 ne s ∧ μ.2.2.2.1 ne s ≤ 3) (ha : 0 ≤ a ∧ a ≤ 3) : cM w yX0_hasNeighbour cX0_hasNeighbour 3 (some .boolean) 1 0 0 [.ref A, .int (J a)] μ (fun v μ' => v = some (.int (J (zB (nbF (μ.2.2.2.1 ne) a 4 0)))) ∧ μ' = μ) (fun _ _ => False) := by
  obtain ⟨h1, h2, h3, h4, h5, h6, h7, h8, h9⟩ := hA
  obtain ⟨V, hV⟩ : ∃ V, V = nbF (μ.2.2.2.1 ne) a 4 0 := ⟨_, rfl⟩
  rw [← hV]
  refine cM_of (fun x C => ?_)
  refine z_iconst C dX0_hasNeighbour_0 ?_
  refine z_istore_n C dX0_hasNeighbour_1 ?_
  have loop : ∀ (r i : Nat), i + r = 4 → V = nbF (μ.2.2.2.1 ne) a r (i : Int) → Z w x (zQ w x (fun v μ' => v = some (.int (J (zB V))) ∧ μ' = μ) (fun _ _ => False) 0 0) 3 2 [(0, .ref A), (1, .int (J a)), (2, .int (J (i : Int)))] [] μ 0 0 := by
    intro r
    induction r with
    | zero =>
      intro i hr he
      refine z_iload_n C dX0_hasNeighbour_2 rfl ?_
      refine z_iconst C dX0_hasNeighbour_3 ?_
      refine z_icmp_ge (tgt := 25) C dX0_hasNeighbour_4 (by decide) (by omega) (fun g => ?_) (fun g => ?_)
      · refine z_iconst C dX0_hasNeighbour_25 ?_
        exact z_zret C (v := 0) dX0_hasNeighbour_26 (Or.inl rfl) ⟨by rw [he]; rfl, rfl⟩
      · omega
    | succ r ih =>
      intro i hr he
      have hb := hN (i : Int)
      rw [nbF] at he
      refine z_iload_n C dX0_hasNeighbour_2 rfl ?_
      refine z_iconst C dX0_hasNeighbour_3 ?_
      refine z_icmp_ge (tgt := 25) C dX0_hasNeighbour_4 (by decide) (by omega) (fun g => ?_) (fun g => ?_)
      · omega
      · refine z_aload_n C dX0_hasNeighbour_7 rfl ?_
        refine z_getr C _ qF_X0_25 dX0_hasNeighbour_8 (by assumption) (by assumption) ?_
        refine z_iload_n C dX0_hasNeighbour_11 rfl ?_
        refine z_iaload C dX0_hasNeighbour_12 (by assumption) (by omega) ?_
        refine z_iload_n C dX0_hasNeighbour_13 rfl ?_
        refine z_icmp_ne (tgt := 19) C dX0_hasNeighbour_14 (by decide) (by omega) (fun g2 => ?_) (fun g2 => ?_)
        · refine z_iinc C dX0_hasNeighbour_19 rfl ?_
          refine z_goto (tgt := 2) C dX0_hasNeighbour_22 (by decide) ?_
          rw [decide_eq_false g2, Bool.false_or] at he
          exact ih (i + 1) (by omega) he
        · refine z_iconst C dX0_hasNeighbour_17 ?_
          rw [decide_eq_true g2, Bool.true_or] at he
          exact z_zret C (v := 1) dX0_hasNeighbour_18 (Or.inr rfl) ⟨by rw [he]; rfl, rfl⟩
  exact loop 4 0 rfl hV
theorem u2_u1 (f : Nat → Int → Int) (a : Nat) (i v : Int) : u2 f a i v = u1 f a (uI (f a) i v) := by
  funext b
  by_cases h : b = a
  · subst h
    rw [u2_e, u1_s]
  · rw [u2_af _ _ _ h, u1_n _ _ h]
/-- the rules' numbers once the path p has none -/
def rwo (R P : Int → Int) (p : Int) (i : Nat) : Int → Int := fun s => if 0 ≤ s ∧ s < (i : Int) ∧ R s ≠ 0 ∧ P s = p then 0 else R s
abbrev mU (μ : Mem) (a : Nat) (g : Int → Int) : Mem := (μ.1, μ.2.1, μ.2.2.1, u1 μ.2.2.2.1 a g, μ.2.2.2.2)
theorem c_setRule (w : Wd) (μ : Mem) (A li rp ru ne : Nat) (p how : Int) (hA : agS μ A li rp ru ne) (hR : ruS μ rp ru) (hne : rp ≠ ru) (hp : 0 ≤ p ∧ p < 65536) (hh : 0 ≤ how ∧ how ≤ 2) : cM w yX0_setRule cX0_setRule 5 none 1 0 0 [.ref A, .int (J p), .int (J how)] μ (fun v μ' => v = none ∧ ((∃ f : Int, 0 ≤ f ∧ f < 10 ∧ rwo (μ.2.2.2.1 ru) (μ.2.2.2.1 rp) p 10 f = 0 ∧ μ' = mU (mU μ ru (uI (rwo (μ.2.2.2.1 ru) (μ.2.2.2.1 rp) p 10) f how)) rp (uI (μ.2.2.2.1 rp) f p)) ∨ ((∀ s, 0 ≤ s → s < 10 → rwo (μ.2.2.2.1 ru) (μ.2.2.2.1 rp) p 10 s ≠ 0) ∧ μ' = mU μ ru (rwo (μ.2.2.2.1 ru) (μ.2.2.2.1 rp) p 10)))) (fun _ _ => False) := by
  obtain ⟨h1, h2, h3, h4, h5, h6, h7, h8, h9⟩ := hA
  obtain ⟨P, hP⟩ : ∃ P, P = fun (v : Option Value) (μ' : Mem) => v = none ∧ ((∃ f : Int, 0 ≤ f ∧ f < 10 ∧ rwo (μ.2.2.2.1 ru) (μ.2.2.2.1 rp) p 10 f = 0 ∧ μ' = mU (mU μ ru (uI (rwo (μ.2.2.2.1 ru) (μ.2.2.2.1 rp) p 10) f how)) rp (uI (μ.2.2.2.1 rp) f p)) ∨ ((∀ s, 0 ≤ s → s < 10 → rwo (μ.2.2.2.1 ru) (μ.2.2.2.1 rp) p 10 s ≠ 0) ∧ μ' = mU μ ru (rwo (μ.2.2.2.1 ru) (μ.2.2.2.1 rp) p 10))) := ⟨_, rfl⟩
  rw [← hP]
  refine cM_of (fun x C => ?_)
  refine z_iconst C dX0_setRule_0 ?_
  refine z_istore_n C dX0_setRule_1 ?_
  refine z_iconst C dX0_setRule_2 ?_
  refine z_istore C dX0_setRule_3 ?_
  have loop : ∀ (r i : Nat) (f : Int), i + r = 10 → -1 ≤ f → f < 10 → ((f = -1 ∧ ∀ s, 0 ≤ s → s < (i : Int) → rwo (μ.2.2.2.1 ru) (μ.2.2.2.1 rp) p i s ≠ 0) ∨ (0 ≤ f ∧ f < (i : Int) ∧ rwo (μ.2.2.2.1 ru) (μ.2.2.2.1 rp) p i f = 0)) → Z w x (zQ w x P (fun _ _ => False) 0 0) 5 5 [(0, .ref A), (1, .int (J p)), (2, .int (J how)), (3, .int (J f)), (4, .int (J (i : Int)))] [] (mU μ ru (rwo (μ.2.2.2.1 ru) (μ.2.2.2.1 rp) p i)) 0 0 := by
    intro r
    induction r with
    | zero =>
      intro i f hr f1 f2 hf
      have hi : i = 10 := by omega
      subst hi
      refine z_iload C dX0_setRule_5 rfl ?_
      refine z_bipush C dX0_setRule_7 ?_
      refine z_icmp_ge (tgt := 60) C dX0_setRule_9 (by decide) (by omega) (fun g => ?_) (fun g => ?_)
      · refine z_iload_n C dX0_setRule_60 rfl ?_
        refine z_if_lt (tgt := 84) C dX0_setRule_61 (by decide) (by omega) (fun g2 => ?_) (fun g2 => ?_)
        · refine z_vret C dX0_setRule_84 ?_
          rw [hP]
          refine ⟨rfl, Or.inr ⟨?_, rfl⟩⟩
          rcases hf with ⟨rfl, hf⟩ | hf
          · exact hf
          · omega
        · refine z_iload_n C dX0_setRule_64 rfl ?_
          refine z_bipush C dX0_setRule_65 ?_
          refine z_icmp_ge (tgt := 84) C dX0_setRule_67 (by decide) (by omega) (fun g3 => ?_) (fun g3 => ?_)
          · omega
          · refine z_aload_n C dX0_setRule_70 rfl ?_
            refine z_getr C _ qF_X0_18 dX0_setRule_71 (by assumption) (by assumption) ?_
            refine z_iload_n C dX0_setRule_74 rfl ?_
            refine z_iload_n C dX0_setRule_75 rfl ?_
            refine z_iastore C dX0_setRule_76 (by assumption) (by omega) ?_
            refine z_aload_n C dX0_setRule_77 rfl ?_
            refine z_getr C _ qF_X0_22 dX0_setRule_78 (by assumption) (by assumption) ?_
            refine z_iload_n C dX0_setRule_81 rfl ?_
            refine z_iload_n C dX0_setRule_82 rfl ?_
            refine z_iastore C dX0_setRule_83 (by assumption) (by omega) ?_
            refine z_vret C dX0_setRule_84 ?_
            rw [hP]
            rcases hf with ⟨rfl, hf⟩ | ⟨k1, k2, k3⟩
            · omega
            · refine ⟨rfl, Or.inl ⟨f, k1, by omega, k3, ?_⟩⟩
              show (_, _, _, u2 (u2 (u1 μ.2.2.2.1 ru _) rp f p) ru f how, _) = (_, _, _, u1 (u1 μ.2.2.2.1 ru _) rp _, _)
              rw [u2_u1, u2_u1, u1_n _ _ hne, u1_n _ _ (Ne.symm hne), u1_s]
              congr 4
              funext b
              by_cases hb : b = ru
              · subst hb
                rw [u1_s, u1_n _ _ (Ne.symm hne), u1_s]
              · rw [u1_n _ _ hb]
                by_cases hb2 : b = rp
                · subst hb2
                  rw [u1_s, u1_s]
                · rw [u1_n _ _ hb2, u1_n _ _ hb, u1_n _ _ hb2, u1_n _ _ hb]
      · omega
    | succ r ih =>
      intro i f hr f1 f2 hf
      have hb := hR (i : Int)
      have eR : (mU μ ru (rwo (μ.2.2.2.1 ru) (μ.2.2.2.1 rp) p i)).2.2.2.1 ru = rwo (μ.2.2.2.1 ru) (μ.2.2.2.1 rp) p i := u1_s _ _ _
      have eP : (mU μ ru (rwo (μ.2.2.2.1 ru) (μ.2.2.2.1 rp) p i)).2.2.2.1 rp = μ.2.2.2.1 rp := u1_n _ _ hne
      have eRi : rwo (μ.2.2.2.1 ru) (μ.2.2.2.1 rp) p i (i : Int) = μ.2.2.2.1 ru (i : Int) := if_neg (by omega)
      -- behind the first test: the rules are those of i + 1
      have tail : Z w x (zQ w x P (fun _ _ => False) 0 0) 5 41 [(0, .ref A), (1, .int (J p)), (2, .int (J how)), (3, .int (J f)), (4, .int (J (i : Int)))] [] (mU μ ru (rwo (μ.2.2.2.1 ru) (μ.2.2.2.1 rp) p (i + 1))) 0 0 := by
        have eR1 : (mU μ ru (rwo (μ.2.2.2.1 ru) (μ.2.2.2.1 rp) p (i + 1))).2.2.2.1 ru = rwo (μ.2.2.2.1 ru) (μ.2.2.2.1 rp) p (i + 1) := u1_s _ _ _
        have hlow : ∀ s : Int, s < (i : Int) → rwo (μ.2.2.2.1 ru) (μ.2.2.2.1 rp) p (i + 1) s = rwo (μ.2.2.2.1 ru) (μ.2.2.2.1 rp) p i s := fun s hs => by
          unfold rwo
          by_cases c : 0 ≤ s ∧ s < (i : Int) ∧ μ.2.2.2.1 ru s ≠ 0 ∧ μ.2.2.2.1 rp s = p
          · rw [if_pos c, if_pos ⟨c.1, by omega, c.2.2⟩]
          · rw [if_neg c, if_neg (fun q => c ⟨q.1, hs, q.2.2⟩)]
        have hbi : 0 ≤ rwo (μ.2.2.2.1 ru) (μ.2.2.2.1 rp) p (i + 1) (i : Int) ∧ rwo (μ.2.2.2.1 ru) (μ.2.2.2.1 rp) p (i + 1) (i : Int) ≤ 2 := by
          unfold rwo
          split <;> omega
        refine z_aload_n C dX0_setRule_41 rfl ?_
        refine z_getr C _ qF_X0_22 dX0_setRule_42 (by assumption) (by assumption) ?_
        refine z_iload C dX0_setRule_45 rfl ?_
        refine z_iaload C dX0_setRule_47 (by assumption) (by omega) ?_
        rw [eR1]
        refine z_if_ne (tgt := 54) C dX0_setRule_48 (by decide) (by omega) (fun g2 => ?_) (fun g2 => ?_)
        · refine z_iinc C dX0_setRule_54 rfl ?_
          refine z_goto (tgt := 5) C dX0_setRule_57 (by decide) ?_
          refine ih (i + 1) f (by omega) f1 f2 ?_
          rcases hf with ⟨rfl, hf⟩ | ⟨k1, k2, k3⟩
          · refine Or.inl ⟨rfl, fun s s1 s2 => ?_⟩
            by_cases e : s = (i : Int)
            · rw [e]; exact g2
            · rw [hlow s (by omega)]; exact hf s s1 (by omega)
          · exact Or.inr ⟨k1, by omega, by rw [hlow f (by omega)]; exact k3⟩
        · refine z_iload C dX0_setRule_51 rfl ?_
          refine z_istore_n C dX0_setRule_53 ?_
          refine z_iinc C dX0_setRule_54 rfl ?_
          refine z_goto (tgt := 5) C dX0_setRule_57 (by decide) ?_
          refine ih (i + 1) (i : Int) (by omega) (by omega) (by omega) (Or.inr ⟨by omega, by omega, g2⟩)
      refine z_iload C dX0_setRule_5 rfl ?_
      refine z_bipush C dX0_setRule_7 ?_
      refine z_icmp_ge (tgt := 60) C dX0_setRule_9 (by decide) (by omega) (fun g => ?_) (fun g => ?_)
      · omega
      · refine z_aload_n C dX0_setRule_12 rfl ?_
        refine z_getr C _ qF_X0_22 dX0_setRule_13 (by assumption) (by assumption) ?_
        refine z_iload C dX0_setRule_16 rfl ?_
        refine z_iaload C dX0_setRule_18 (by assumption) (by omega) ?_
        rw [eR, eRi]
        have same : ¬ (μ.2.2.2.1 ru (i : Int) ≠ 0 ∧ μ.2.2.2.1 rp (i : Int) = p) → rwo (μ.2.2.2.1 ru) (μ.2.2.2.1 rp) p (i + 1) = rwo (μ.2.2.2.1 ru) (μ.2.2.2.1 rp) p i := fun hn => by
          funext s
          unfold rwo
          by_cases e : s = (i : Int)
          · subst e
            rw [if_neg (fun q => hn q.2.2), if_neg (fun q => hn q.2.2)]
          · by_cases c : 0 ≤ s ∧ s < (i : Int) ∧ μ.2.2.2.1 ru s ≠ 0 ∧ μ.2.2.2.1 rp s = p
            · rw [if_pos c, if_pos ⟨c.1, by omega, c.2.2⟩]
            · rw [if_neg c, if_neg (fun q => c ⟨q.1, by omega, q.2.2⟩)]
        refine z_if_eq (tgt := 41) C dX0_setRule_19 (by decide) (by omega) (fun g2 => ?_) (fun g2 => ?_)
        · rw [same (fun q => q.1 g2)] at tail
          exact tail
        · refine z_aload_n C dX0_setRule_22 rfl ?_
          refine z_getr C _ qF_X0_18 dX0_setRule_23 (by assumption) (by assumption) ?_
          refine z_iload C dX0_setRule_26 rfl ?_
          refine z_iaload C dX0_setRule_28 (by assumption) (by omega) ?_
          refine z_iload_n C dX0_setRule_29 rfl ?_
          rw [eP]
          refine z_icmp_ne (tgt := 41) C dX0_setRule_30 (by decide) (by omega) (fun g3 => ?_) (fun g3 => ?_)
          · rw [same (fun q => g3 q.2)] at tail
            exact tail
          · refine z_aload_n C dX0_setRule_33 rfl ?_
            refine z_getr C _ qF_X0_22 dX0_setRule_34 (by assumption) (by assumption) ?_
            refine z_iload C dX0_setRule_37 rfl ?_
            refine z_iconst C dX0_setRule_39 ?_
            refine z_iastore C dX0_setRule_40 (by assumption) (by omega) ?_
            have e9 : sA (mU μ ru (rwo (μ.2.2.2.1 ru) (μ.2.2.2.1 rp) p i)) ru (i : Int) 0 = mU μ ru (rwo (μ.2.2.2.1 ru) (μ.2.2.2.1 rp) p (i + 1)) := by
              show (_, _, _, u2 (u1 μ.2.2.2.1 ru _) ru (i : Int) 0, _) = (_, _, _, u1 μ.2.2.2.1 ru _, _)
              rw [u2_u1, u1_u1, u1_s]
              congr 4
              congr 1
              funext s
              unfold uI rwo
              by_cases e : s = (i : Int)
              · subst e
                rw [if_pos rfl, if_pos ⟨by omega, by omega, g2, g3⟩]
              · rw [if_neg e]
                by_cases c : 0 ≤ s ∧ s < (i : Int) ∧ μ.2.2.2.1 ru s ≠ 0 ∧ μ.2.2.2.1 rp s = p
                · rw [if_pos c, if_pos ⟨c.1, by omega, c.2.2⟩]
                · rw [if_neg c, if_neg (fun q => c ⟨q.1, by omega, q.2.2⟩)]
            rw [e9]
            exact tail
  have e0 : mU μ ru (rwo (μ.2.2.2.1 ru) (μ.2.2.2.1 rp) p 0) = μ := by
    obtain ⟨T, FI, FR, A, AR, L⟩ := μ
    show (T, FI, FR, u1 A ru _, AR, L) = _
    congr 4
    funext b
    by_cases hb : b = ru
    · subst hb
      rw [u1_s]
      funext s
      exact if_neg (by omega)
    · rw [u1_n _ _ hb]
  have K := loop 10 0 (-1) rfl (by omega) (by omega) (Or.inl ⟨rfl, fun s s1 s2 => by omega⟩)
  rw [e0] at K
  exact K
