/-! links, and sorting -/
def bitB (s : Int) (i : Nat) : Bool := decide (s / ((2 ^ i : Nat) : Int) % 2 = 1)
def orB (s : Int) (o : Nat) : Int := if bitB s o = true then s else s + ((2 ^ o : Nat) : Int)
theorem orB_fin : ∀ a : Fin 16, ∀ o : Fin 4, (J (a.val : Int) ||| J ((2 ^ o.val : Nat) : Int) = J (orB (a.val : Int) o.val)) ∧ 0 ≤ orB (a.val : Int) o.val ∧ orB (a.val : Int) o.val ≤ 15 := by decide +kernel
theorem orB_J {s : Int} {o : Nat} (h : 0 ≤ s ∧ s ≤ 15) (ho : o < 4) : (J s ||| J ((2 ^ o : Nat) : Int) = J (orB s o)) ∧ 0 ≤ orB s o ∧ orB s o ≤ 15 := by
  have h2 := orB_fin ⟨s.toNat, by omega⟩ ⟨o, ho⟩
  have h3 : ((s.toNat : Nat) : Int) = s := by omega
  simp only [h3] at h2
  exact h2
def wlI (ln : Nat → Nat → Bool) (s : Int) (one : Nat) : Nat → Nat → Int → Int
  | 0, _, wd => wd
  | f + 1, o, wd => wlI ln s one f (o + 1) (if (bitB s one && (ln one o && ln o one)) = true then orB wd o else wd)
def wlO (ln : Nat → Nat → Bool) (s : Int) : Nat → Nat → Int → Int
  | 0, _, wd => wd
  | f + 1, one, wd => wlO ln s f (one + 1) (wlI ln s one 4 0 wd)
def wl3 (ln : Nat → Nat → Bool) (s : Int) : Int := wlO ln s 4 0 s
theorem wlI_in (ln : Nat → Nat → Bool) (s : Int) (one : Nat) : ∀ (f o : Nat) (wd : Int), f + o = 4 → 0 ≤ wd ∧ wd ≤ 15 → 0 ≤ wlI ln s one f o wd ∧ wlI ln s one f o wd ≤ 15
  | 0, _, wd, _, h => h
  | f + 1, o, wd, hf, h => by
    refine wlI_in ln s one f (o + 1) _ (by omega) ?_
    split
    · exact (orB_J h (by omega)).2
    · exact h
theorem wlO_in (ln : Nat → Nat → Bool) (s : Int) : ∀ (f one : Nat) (wd : Int), 0 ≤ wd ∧ wd ≤ 15 → 0 ≤ wlO ln s f one wd ∧ wlO ln s f one wd ≤ 15
  | 0, _, wd, h => h
  | f + 1, one, wd, h => wlO_in ln s f (one + 1) _ (wlI_in ln s one 4 0 wd rfl h)
theorem zB_eq {b : Bool} : zB b = 0 ↔ b = false := by cases b <;> decide
theorem c_withLinksOf (w : Wd) (μ : Mem) (G : Nat → Nat) (s : Int) (hS : csS μ G) (hN : nbS μ G) (hs : 0 ≤ s ∧ s ≤ 15) : cM w yX5_withLinksOf cX5_withLinksOf 5 (some .int) 9 0 0 [.ref (G 0), .int (J s)] μ (fun v μ' => v = some (.int (J (wl3 (nm μ G) s))) ∧ μ' = μ) (fun _ _ => False) := by
  obtain ⟨V, hV⟩ : ∃ V, V = wl3 (nm μ G) s := ⟨_, rfl⟩
  rw [← hV]
  refine cM_of (fun x C => ?_)
  obtain ⟨Q, hQ⟩ : ∃ Q, Q = zQ w x (fun v μ' => v = some (.int (J V)) ∧ μ' = μ) (fun _ _ => False) 0 0 := ⟨_, rfl⟩
  have outer : ∀ (r i : Nat) (wd : Int), r + i = 4 → 0 ≤ wd ∧ wd ≤ 15 → V = wlO (nm μ G) s r i wd → Z w x (zQ w x (fun v μ' => v = some (.int (J V)) ∧ μ' = μ) (fun _ _ => False) 0 0) 5 4 [(0, .ref (G 0)), (1, .int (J s)), (2, .int (J wd)), (3, .int (J (i : Int)))] [] μ 0 0 := by
    intro r
    induction r with
    | zero =>
      intro i wd hr hw hv
      refine z_iload_n C dX5_withLinksOf_4 rfl ?_
      refine z_iconst C dX5_withLinksOf_5 ?_
      refine z_icmp_ge (tgt := 66) C dX5_withLinksOf_6 (by decide) (by omega) (fun g => ?_) (fun g => ?_)
      · refine z_iload_n C dX5_withLinksOf_66 rfl ?_
        exact z_iret C dX5_withLinksOf_67 ⟨by rw [hv]; rfl, rfl⟩
      · omega
    | succ r ih =>
      intro i wd hr hw hv
      refine z_iload_n C dX5_withLinksOf_4 rfl ?_
      refine z_iconst C dX5_withLinksOf_5 ?_
      refine z_icmp_ge (tgt := 66) C dX5_withLinksOf_6 (by decide) (by omega) (fun g => ?_) (fun g => ?_)
      · omega
      · refine z_iconst C dX5_withLinksOf_9 ?_
        refine z_istore C dX5_withLinksOf_10 ?_
        have inner : ∀ (f o : Nat) (wd : Int), f + o = 4 → 0 ≤ wd ∧ wd ≤ 15 → V = wlO (nm μ G) s r (i + 1) (wlI (nm μ G) s i f o wd) → Z w x (zQ w x (fun v μ' => v = some (.int (J V)) ∧ μ' = μ) (fun _ _ => False) 0 0) 5 12 [(0, .ref (G 0)), (1, .int (J s)), (2, .int (J wd)), (3, .int (J (i : Int))), (4, .int (J (o : Int)))] [] μ 0 0 := by
          intro f
          induction f with
          | zero =>
            intro o wd hf hw hv
            refine z_iload C dX5_withLinksOf_12 rfl ?_
            refine z_iconst C dX5_withLinksOf_14 ?_
            refine z_icmp_ge (tgt := 60) C dX5_withLinksOf_15 (by decide) (by omega) (fun g2 => ?_) (fun g2 => ?_)
            · refine z_iinc C dX5_withLinksOf_60 rfl ?_
              refine z_goto (tgt := 4) C dX5_withLinksOf_63 (by decide) ?_
              exact z_ls _ (by exact ⟨rfl, rfl, rfl, rfl, trivial⟩) (ih (i + 1) wd (by omega) hw hv)
            · omega
          | succ f ihf =>
            intro o wd hf hw hv
            have step : ∀ wd2 : Int, 0 ≤ wd2 ∧ wd2 ≤ 15 → (if (bitB s i && (nm μ G i o && nm μ G o i)) = true then orB wd o else wd) = wd2 → ∀ ls, zsub ls [(0, .ref (G 0)), (1, .int (J s)), (2, .int (J wd2)), (3, .int (J (i : Int))), (4, .int (J (o : Int)))] → Z w x (zQ w x (fun v μ' => v = some (.int (J V)) ∧ μ' = μ) (fun _ _ => False) 0 0) 5 54 ls [] μ 0 0 := by
              intro wd2 hw2 he ls hls
              refine z_ls _ hls ?_
              refine z_iinc C dX5_withLinksOf_54 rfl ?_
              refine z_goto (tgt := 12) C dX5_withLinksOf_57 (by decide) ?_
              refine z_ls _ (by exact ⟨rfl, rfl, rfl, rfl, rfl, trivial⟩) (ihf (o + 1) wd2 (by omega) hw2 ?_)
              rw [hv, ← he]
              rfl
            refine z_iload C dX5_withLinksOf_12 rfl ?_
            refine z_iconst C dX5_withLinksOf_14 ?_
            refine z_icmp_ge (tgt := 60) C dX5_withLinksOf_15 (by decide) (by omega) (fun g2 => ?_) (fun g2 => ?_)
            · omega
            · refine z_iload_n C dX5_withLinksOf_18 rfl ?_
              refine z_iload_n C dX5_withLinksOf_19 rfl ?_
              refine z_ishr C (s / ((2 ^ i : Nat) : Int)) (J_ishr i (by omega) (by omega) (by omega)) dX5_withLinksOf_20 ?_
              refine z_iconst C dX5_withLinksOf_21 ?_
              refine z_iand C (s / ((2 ^ i : Nat) : Int) % 2) (J_and _ 1 (by decide) (by decide)) dX5_withLinksOf_22 ?_
              refine z_iconst C dX5_withLinksOf_23 ?_
              refine z_icmp_ne (tgt := 54) C dX5_withLinksOf_24 (by decide) (by omega) (fun g3 => ?_) (fun g3 => ?_)
              · have hb : bitB s i = false := decide_eq_false g3
                exact step wd hw (by rw [hb]; rfl) _ (by exact ⟨rfl, rfl, rfl, rfl, rfl, trivial⟩)
              · have hb : bitB s i = true := decide_eq_true g3
                refine z_aload_n C dX5_withLinksOf_27 rfl ?_
                refine z_iload_n C dX5_withLinksOf_28 rfl ?_
                refine z_iload C dX5_withLinksOf_29 rfl ?_
                refine z_callV C (c_names w μ G i o hS hN (by omega) (by omega)) qM_X5_215 dX5_withLinksOf_31 rfl (zRc_o hS.1.1) (fun _ _ h => h.elim) ?_
                rintro v μ2 ⟨rfl, rfl⟩
                have hz1 := zB_in (nm μ2 G i o)
                refine z_if_eq (tgt := 54) C dX5_withLinksOf_34 (by decide) (by omega) (fun g4 => ?_) (fun g4 => ?_)
                · exact step wd hw (by rw [zB_eq.mp g4, hb]; rfl) _ (by exact ⟨rfl, rfl, rfl, rfl, rfl, trivial⟩)
                · refine z_aload_n C dX5_withLinksOf_37 rfl ?_
                  refine z_iload C dX5_withLinksOf_38 rfl ?_
                  refine z_iload_n C dX5_withLinksOf_40 rfl ?_
                  refine z_callV C (c_names w μ2 G o i hS hN (by omega) (by omega)) qM_X5_215 dX5_withLinksOf_41 rfl (zRc_o hS.1.1) (fun _ _ h => h.elim) ?_
                  rintro v μ3 ⟨rfl, rfl⟩
                  have hz2 := zB_in (nm μ3 G o i)
                  refine z_if_eq (tgt := 54) C dX5_withLinksOf_44 (by decide) (by omega) (fun g5 => ?_) (fun g5 => ?_)
                  · exact step wd hw (by rw [zB_eq.mp g5, hb]; simp) _ (by exact ⟨rfl, rfl, rfl, rfl, rfl, trivial⟩)
                  · have hn1 : nm μ3 G i o = true := by cases h : nm μ3 G i o with | true => rfl | false => exact absurd (zB_eq.mpr h) g4
                    have hn2 : nm μ3 G o i = true := by cases h : nm μ3 G o i with | true => rfl | false => exact absurd (zB_eq.mpr h) g5
                    refine z_iload_n C dX5_withLinksOf_47 rfl ?_
                    refine z_iconst C dX5_withLinksOf_48 ?_
                    refine z_iload C dX5_withLinksOf_49 rfl ?_
                    refine z_ishl C (1 * ((2 ^ o : Nat) : Int)) (J_ishl o (by omega) (by omega) ?_) dX5_withLinksOf_51 ?_
                    · have : (2 : Nat) ^ o ≤ 2 ^ 3 := Nat.pow_le_pow_right (by decide) (by omega)
                      omega
                    rw [Int.one_mul]
                    refine z_ior C (orB wd o) (orB_J hw (by omega)).1 dX5_withLinksOf_52 ?_
                    refine z_istore_n C dX5_withLinksOf_53 ?_
                    exact step (orB wd o) (orB_J hw (by omega)).2 (by rw [hn1, hn2, hb]; rfl) _ (by exact ⟨rfl, rfl, rfl, rfl, rfl, trivial⟩)
        exact z_ls [(0, .ref (G 0)), (1, .int (J s)), (2, .int (J wd)), (3, .int (J (i : Int))), (4, .int (J ((0 : Nat) : Int)))] (by exact ⟨rfl, rfl, rfl, rfl, rfl, trivial⟩) (inner 4 0 wd rfl hw hv)
  refine z_iload_n C dX5_withLinksOf_0 rfl ?_
  refine z_istore_n C dX5_withLinksOf_1 ?_
  refine z_iconst C dX5_withLinksOf_2 ?_
  refine z_istore_n C dX5_withLinksOf_3 ?_
  exact z_ls [(0, .ref (G 0)), (1, .int (J s)), (2, .int (J s)), (3, .int (J ((0 : Nat) : Int)))] (by exact ⟨rfl, rfl, rfl, rfl, trivial⟩) (outer 4 0 s rfl hs hV)
theorem ins_td {v : Nat} : ∀ (l : List Nat) (n : Nat), n ≤ l.length → l.insertIdx n v = l.take n ++ v :: l.drop n
  | l, 0, _ => by simp
  | [], n + 1, h => by simp at h
  | a :: l, n + 1, h => by
    simp only [List.insertIdx_succ_cons, List.take_succ_cons, List.drop_succ_cons, List.cons_append]
    rw [ins_td l n (by simpa using h)]
/-- v put into a sorted list at its place -/
theorem srt_ins {f : Nat → Int} {l : List Nat} {n v : Nat} (hl : l.Pairwise (fun a b => f a ≤ f b)) (h1 : ∀ (i y : Nat), i < n → l[i]? = some y → f y ≤ f v) (h2 : ∀ y, l[n]? = some y → f v ≤ f y) (hn : n ≤ l.length) : (l.insertIdx n v).Pairwise (fun a b => f a ≤ f b) ∧ ∀ y, y ∈ l.insertIdx n v ↔ y = v ∨ y ∈ l := by
  have e : l.insertIdx n v = l.take n ++ v :: l.drop n := ins_td l n hn
  have hs : (l.take n ++ l.drop n).Pairwise (fun a b => f a ≤ f b) := by rw [List.take_append_drop]; exact hl
  obtain ⟨p1, p2, p3⟩ := List.pairwise_append.mp hs
  have q1 : ∀ a ∈ l.take n, f a ≤ f v := fun a ha => by
    obtain ⟨i, hi⟩ := List.getElem?_of_mem ha
    have hlt := (List.getElem?_eq_some_iff.mp hi).1
    rw [List.getElem?_take] at hi
    split at hi
    · exact h1 i a (by assumption) hi
    · cases hi
  have q2 : ∀ b ∈ l.drop n, f v ≤ f b := fun b hb => by
    cases hd : l.drop n with
    | nil => rw [hd] at hb; cases hb
    | cons c r =>
      have hc : l[n]? = some c := by
        have : (l.drop n)[0]? = some c := by rw [hd]; rfl
        rw [List.getElem?_drop] at this
        exact this
      rw [hd] at hb p2
      rcases List.mem_cons.mp hb with rfl | hb
      · exact h2 _ hc
      · exact Int.le_trans (h2 _ hc) (List.rel_of_pairwise_cons p2 hb)
  refine ⟨?_, fun y => ?_⟩
  · rw [e]
    refine List.pairwise_append.mpr ⟨p1, List.pairwise_cons.mpr ⟨q2, p2⟩, fun a ha b hb => ?_⟩
    rcases List.mem_cons.mp hb with rfl | hb
    · exact q1 a ha
    · exact p3 a ha b hb
  · rw [e]
    constructor
    · intro h
      rcases List.mem_append.mp h with h | h
      · exact Or.inr (List.mem_of_mem_take h)
      · rcases List.mem_cons.mp h with h | h
        · exact Or.inl h
        · exact Or.inr (List.mem_of_mem_drop h)
    · rintro (rfl | h)
      · exact List.mem_append_right _ List.mem_cons_self
      · rw [← List.take_append_drop n l] at h
        rcases List.mem_append.mp h with h | h
        · exact List.mem_append_left _ h
        · exact List.mem_append_right _ (List.mem_cons_of_mem _ h)

theorem c_sortShownOf (w : Wd) (μ : Mem) (g ga gs gd A li rp ru ne : Nat) (hM : mtS μ g ga gs gd) (hA : agS μ A li rp ru ne) (hI : itS μ (μ.2.2.2.2.2 li)) (hl : (μ.2.2.2.2.2 li).length ≤ 20) (hR : ruS μ rp ru) (hD : zAll μ 1 (μ.2.2.2.2.2 gd) ∧ (μ.2.2.2.2.2 gd).length ≤ 1000) (hne : li ≠ gd) : cM w yX5_sortShownOf cX5_sortShownOf 4 none 8 20 800 [.ref g, .ref A] μ (fun v μ' => v = none ∧ ∃ cur, μ' = sL μ gd cur ∧ (∀ y, y ∈ cur ↔ y ∈ μ.2.2.2.2.2 li ∧ hid16 (μ.2.2.2.1 ru) (μ.2.2.2.1 rp) (μ.2.1 1 0 y) = false) ∧ cur.Pairwise (fun a b => μ.2.1 1 0 a ≤ μ.2.1 1 0 b) ∧ cur.length ≤ 20) (fun _ _ => False) := by
  obtain ⟨h1, h2, h3, h4, h5, h6, h7⟩ := hM
  obtain ⟨a1, a2, a3, a4, a5, a6, a7, a8, a9⟩ := id hA
  have hlen := hI.2.1
  obtain ⟨P, hP⟩ : ∃ P, P = fun (v : Option Value) (μ' : Mem) => v = none ∧ ∃ cur, μ' = sL μ gd cur ∧ (∀ y, y ∈ cur ↔ y ∈ μ.2.2.2.2.2 li ∧ hid16 (μ.2.2.2.1 ru) (μ.2.2.2.1 rp) (μ.2.1 1 0 y) = false) ∧ cur.Pairwise (fun a b => μ.2.1 1 0 a ≤ μ.2.1 1 0 b) ∧ cur.length ≤ 20 := ⟨_, rfl⟩
  rw [← hP]
  refine cM_of (fun x C => ?_)
  have loop : ∀ (r i k n : Nat) (cur : List Nat), i + r = (μ.2.2.2.2.2 li).length → k ≤ i → n ≤ 40 * i → (∀ y, y ∈ cur ↔ y ∈ (μ.2.2.2.2.2 li).take i ∧ hid16 (μ.2.2.2.1 ru) (μ.2.2.2.1 rp) (μ.2.1 1 0 y) = false) → cur.Pairwise (fun a b => μ.2.1 1 0 a ≤ μ.2.1 1 0 b) → cur.length ≤ i → Z w x (zQ w x P (fun _ _ => False) 20 800) 4 9 [(0, .ref g), (1, .ref A), (2, .int (J (i : Int)))] [] (sL μ gd cur) k n := by
    intro r
    induction r with
    | zero =>
      intro i k n cur hr hk hn hc hp hcl
      have e9 : (sL μ gd cur).2.2.2.2.2 li = μ.2.2.2.2.2 li := u1_n _ _ hne
      refine z_iload_n C dX5_sortShownOf_9 rfl ?_
      refine z_aload_n C dX5_sortShownOf_10 rfl ?_
      refine z_getr C li qF_X5_77 dX5_sortShownOf_11 a1 a2 ?_
      refine z_callV C (c_size w (sL μ gd cur) li 0 a6) qM_X5_80 dX5_sortShownOf_14 rfl (zRc_l a6) (fun _ _ h => h.elim) ?_
      rintro v μ' ⟨rfl, rfl⟩
      rw [e9]
      refine z_icmp_ge (tgt := 65) C dX5_sortShownOf_17 (by decide) (by omega) (fun q => ?_) (fun q => ?_)
      · refine z_vret C dX5_sortShownOf_65 ?_
        rw [hP]
        rw [List.take_of_length_le (by omega)] at hc
        exact ⟨rfl, cur, rfl, hc, hp, by omega⟩
      · omega
    | succ r ih =>
      intro i k n cur hr hk hn hc hp hcl
      have e9 : (sL μ gd cur).2.2.2.2.2 li = μ.2.2.2.2.2 li := u1_n _ _ hne
      have e8 : (sL μ gd cur).2.2.2.2.2 gd = cur := u1_s _ _ _
      have hIs : itS (sL μ gd cur) ((sL μ gd cur).2.2.2.2.2 li) := by rw [e9]; exact hI
      refine z_iload_n C dX5_sortShownOf_9 rfl ?_
      refine z_aload_n C dX5_sortShownOf_10 rfl ?_
      refine z_getr C li qF_X5_77 dX5_sortShownOf_11 a1 a2 ?_
      refine z_callV C (c_size w (sL μ gd cur) li 0 a6) qM_X5_80 dX5_sortShownOf_14 rfl (zRc_l a6) (fun _ _ h => h.elim) ?_
      rintro v μ' ⟨rfl, rfl⟩
      rw [e9]
      refine z_icmp_ge (tgt := 65) C dX5_sortShownOf_17 (by decide) (by omega) (fun q => ?_) (fun q => ?_)
      · omega
      · obtain ⟨y, n0, e1, e2, e3, e4, e5⟩ := itS_at hI (i := i) (by omega)
        have hsn := take_snoc e1
        refine z_aload_n C dX5_sortShownOf_20 rfl ?_
        refine z_getr C li qF_X5_77 dX5_sortShownOf_21 a1 a2 ?_
        refine z_iload_n C dX5_sortShownOf_24 rfl ?_
        refine z_callV C (c_get w (sL μ gd cur) li 0 i a6 (by rw [e9]; omega) (by rw [e9]; omega)) qM_X5_178 dX5_sortShownOf_25 rfl (zRc_l a6) (fun _ _ h => h.elim) ?_
        rintro v μ2 ⟨rfl, rfl⟩
        rw [show va_rf (((sL μ gd cur).2.2.2.2.2 li)[i]?) = va_rf (some y) by rw [e9, e1]]
        refine z_cast C (r := some y) (ci := 1) (q := (RX1, TX1, 6)) dX5_sortShownOf_28 rfl qC_X5_89 (fun b hb => ⟨n0, by cases hb; exact e3⟩) ?_
        refine z_astore_n C dX5_sortShownOf_31 ?_
        refine z_aload_n C dX5_sortShownOf_32 rfl ?_
        refine z_aload_n C dX5_sortShownOf_33 rfl ?_
        refine z_geti C qF_X5_230 dX5_sortShownOf_34 e3 ?_
        refine z_callV C (c_hides w (sL μ gd cur) A li rp ru ne _ hA hR ⟨e4, e5⟩) qM_X5_116 dX5_sortShownOf_37 rfl (zRc_o a1) (fun _ _ h => h.elim) ?_
        rintro v μ3 ⟨rfl, rfl⟩
        have step : ∀ (cur2 : List Nat) (k2 n2 : Nat), k2 ≤ i + 1 → n2 ≤ 40 * (i + 1) → (∀ z, z ∈ cur2 ↔ z ∈ (μ.2.2.2.2.2 li).take (i + 1) ∧ hid16 (μ.2.2.2.1 ru) (μ.2.2.2.1 rp) (μ.2.1 1 0 z) = false) → cur2.Pairwise (fun a b => μ.2.1 1 0 a ≤ μ.2.1 1 0 b) → cur2.length ≤ i + 1 → ∀ ls, zsub ls [(0, .ref g), (1, .ref A), (2, .int (J (i : Int)))] → Z w x (zQ w x P (fun _ _ => False) 20 800) 4 59 ls [] (sL μ gd cur2) k2 n2 := by
          intro cur2 k2 n2 hk2 hn2 hc2 hp2 hl2 ls hls
          refine z_ls _ hls ?_
          refine z_iinc C dX5_sortShownOf_59 rfl ?_
          refine z_goto (tgt := 9) C dX5_sortShownOf_62 (by decide) ?_
          exact z_ls _ (by exact ⟨rfl, rfl, rfl, trivial⟩) (ih (i + 1) k2 n2 cur2 (by omega) hk2 hn2 hc2 hp2 hl2)
        cases hh : hid16 (μ.2.2.2.1 ru) (μ.2.2.2.1 rp) (μ.2.1 1 0 y) with
        | true =>
          rw [show zB true = 1 from rfl]
          refine z_if_ne (tgt := 59) C dX5_sortShownOf_40 (by decide) (by omega) (fun q => ?_) (fun q => ?_)
          · refine step cur k n (by omega) (by omega) (fun z => ?_) hp (by omega) _ (by exact ⟨rfl, rfl, rfl, trivial⟩)
            rw [hc z, hsn]
            constructor
            · exact fun h => ⟨List.mem_append_left _ h.1, h.2⟩
            · rintro ⟨h, h'⟩
              rcases List.mem_append.mp h with h | h
              · exact ⟨h, h'⟩
              · rw [List.mem_singleton.mp h, hh] at h'
                cases h'
          · exact absurd q (by decide)
        | false =>
          rw [show zB false = 0 from rfl]
          refine z_if_ne (tgt := 59) C dX5_sortShownOf_40 (by decide) (by omega) (fun q => ?_) (fun q => ?_)
          · exact absurd rfl q
          · have hmem : ∀ z ∈ cur, z ∈ μ.2.2.2.2.2 li := fun z hz => List.mem_of_mem_take ((hc z).mp hz).1
            have hIc : itS (sL μ gd cur) ((sL μ gd cur).2.2.2.2.2 gd) := by rw [e8]; exact ⟨fun z hz => hI.1 z (hmem z hz), by omega, fun z hz => hI.2.2 z (hmem z hz)⟩
            refine z_aload_n C dX5_sortShownOf_43 rfl ?_
            refine z_getr C gd qF_X5_23 dX5_sortShownOf_44 h1 h4 ?_
            refine z_aload_n C dX5_sortShownOf_47 rfl ?_
            refine z_aload_n C dX5_sortShownOf_48 rfl ?_
            refine z_geti C qF_X5_230 dX5_sortShownOf_49 e3 ?_
            refine z_callV C (c_countSortedAhead w (sL μ gd cur) g ga gs gd (μ.2.1 1 0 y) ⟨h1, h2, h3, h4, h5, h6, h7⟩ hIc ⟨e4, e5⟩) qM_X5_236 dX5_sortShownOf_52 rfl (zRc_o h1) (fun _ _ h => h.elim) ?_
            rintro v μ4 ⟨rfl, m, hm, rfl, m1, m2⟩
            rw [e8] at hm m1 m2
            refine z_aload_n C dX5_sortShownOf_55 rfl ?_
            refine z_callV C (c_addAt 40 w (sL μ gd cur) gd y 1 0 n0 m h7 e3 (Or.inl rfl) (by rw [e8]; exact hIc.1 |> fun h => by rw [e8] at h; exact h) (by rw [e8]; omega) (by rw [e8]; exact hm)) qM_X5_239 dX5_sortShownOf_56 rfl (zRc_l h7) (fun _ _ h => h.elim) ?_
            rintro v μ5 ⟨rfl, rfl⟩
            rw [e8, show sL (sL μ gd cur) gd (cur.insertIdx m y) = sL μ gd (cur.insertIdx m y) by show (_, _, _, _, _, u1 (u1 _ _ _) _ _) = _; rw [u1_u1]]
            obtain ⟨s1, s2⟩ := srt_ins (f := fun a => μ.2.1 1 0 a) (v := y) hp (fun i z hi hz => Int.le_of_lt (m1 i z hi hz)) (fun z hz => m2 z hz) hm
            refine step (cur.insertIdx m y) _ _ (by omega) (by omega) (fun z => ?_) s1 (by rw [List.length_insertIdx]; split <;> omega) _ (by exact ⟨rfl, rfl, rfl, trivial⟩)
            rw [s2 z, hc z, hsn]
            constructor
            · rintro (rfl | h)
              · exact ⟨List.mem_append_right _ (List.mem_singleton.mpr rfl), hh⟩
              · exact ⟨List.mem_append_left _ h.1, h.2⟩
            · rintro ⟨h, h'⟩
              rcases List.mem_append.mp h with h | h
              · exact Or.inr ⟨h, h'⟩
              · exact Or.inl (List.mem_singleton.mp h)
  refine z_aload_n C dX5_sortShownOf_0 rfl ?_
  refine z_getr C gd qF_X5_23 dX5_sortShownOf_1 h1 h4 ?_
  refine z_callV C (c_clear w μ gd 0 h7 (by omega)) qM_X5_233 dX5_sortShownOf_4 rfl (zRc_l h7) (fun _ _ h => h.elim) ?_
  rintro v μ' ⟨rfl, rfl⟩
  refine z_iconst C dX5_sortShownOf_7 ?_
  refine z_istore_n C dX5_sortShownOf_8 ?_
  exact z_ls [(0, .ref g), (1, .ref A), (2, .int (J ((0 : Nat) : Int)))] (by exact ⟨rfl, rfl, rfl, trivial⟩) (loop (μ.2.2.2.2.2 li).length 0 0 0 [] (by omega) (Nat.le_refl _) (by omega) (fun y => by simp) List.Pairwise.nil (by simp))
