/-! heads of a path, and what the rules hide -/
theorem hd_mk {a b c d : Int} (ha : 0 ≤ a ∧ a ≤ 10) (hb : 0 ≤ b ∧ b ≤ 10) (hc : 0 ≤ c ∧ c ≤ 10) (hd : 0 ≤ d ∧ d ≤ 10) : hd16 (mkp a b c d) 0 = mkp 0 0 0 0 ∧ hd16 (mkp a b c d) 1 = mkp a 0 0 0 ∧ hd16 (mkp a b c d) 2 = mkp a b 0 0 ∧ hd16 (mkp a b c d) 3 = mkp a b c 0 ∧ hd16 (mkp a b c d) 4 = mkp a b c d := by
  unfold mkp
  refine ⟨rfl, ?_, ?_, ?_, rfl⟩
  · show (4096 * a + 256 * b + 16 * c + d) / 4096 * 4096 = _
    omega
  · show (4096 * a + 256 * b + 16 * c + d) / 256 * 256 = _
    omega
  · show (4096 * a + 256 * b + 16 * c + d) / 16 * 16 = _
    omega
theorem mkp_inj {a b c d a' b' c' d' : Int} (ha : 0 ≤ a ∧ a ≤ 10) (hb : 0 ≤ b ∧ b ≤ 10) (hc : 0 ≤ c ∧ c ≤ 10) (hd : 0 ≤ d ∧ d ≤ 10) (ha' : 0 ≤ a' ∧ a' ≤ 10) (hb' : 0 ≤ b' ∧ b' ≤ 10) (hc' : 0 ≤ c' ∧ c' ≤ 10) (hd' : 0 ≤ d' ∧ d' ≤ 10) : mkp a b c d = mkp a' b' c' d' ↔ a = a' ∧ b = b' ∧ c = c' ∧ d = d' := by
  unfold mkp
  omega
theorem z10 : (0 : Int) ≤ 0 ∧ (0 : Int) ≤ 10 := by decide
/-- the head of length f: its length, and that it is a path -/
theorem hd_ln {p : Int} (h : okK p) {f : Int} (hf : 0 ≤ f ∧ f ≤ 4) : okK (hd16 p f) ∧ ln16 (hd16 p f) = (if f ≤ ln16 p then f else ln16 p) ∧ hd16 p (ln16 (hd16 p f)) = hd16 p f := by
  obtain ⟨a, b, c, d, ha, hb, hc, hd, h1, h2, h3, rfl⟩ := okK_un h
  obtain ⟨e0, e1, e2, e3, e4⟩ := hd_mk ha hb hc hd
  have L := ln16_mk ha hb hc hd
  have key : ∀ a' b' c' d' : Int, (0 ≤ a' ∧ a' ≤ 10) → (0 ≤ b' ∧ b' ≤ 10) → (0 ≤ c' ∧ c' ≤ 10) → (0 ≤ d' ∧ d' ≤ 10) → (a' = 0 → b' = 0) → (b' = 0 → c' = 0) → (c' = 0 → d' = 0) → hd16 (mkp a b c d) f = mkp a' b' c' d' → (if a' = 0 then (0 : Int) else if b' = 0 then 1 else if c' = 0 then 2 else if d' = 0 then 3 else 4) = (if f ≤ ln16 (mkp a b c d) then f else ln16 (mkp a b c d)) → hd16 (mkp a b c d) (if a' = 0 then (0 : Int) else if b' = 0 then 1 else if c' = 0 then 2 else if d' = 0 then 3 else 4) = mkp a' b' c' d' → okK (hd16 (mkp a b c d) f) ∧ ln16 (hd16 (mkp a b c d) f) = (if f ≤ ln16 (mkp a b c d) then f else ln16 (mkp a b c d)) ∧ hd16 (mkp a b c d) (ln16 (hd16 (mkp a b c d) f)) = hd16 (mkp a b c d) f := by
    intro a' b' c' d' ga gb gc gd g1 g2 g3 ge gl gh
    rw [ge, ln16_mk ga gb gc gd]
    exact ⟨okK_mk ga gb gc gd g1 g2 g3, gl, gh⟩
  rcases (by omega : f = 0 ∨ f = 1 ∨ f = 2 ∨ f = 3 ∨ f = 4) with rfl | rfl | rfl | rfl | rfl
  · refine key 0 0 0 0 z10 z10 z10 z10 (by simp) (by simp) (by simp) e0 ?_ ?_
    · rw [if_pos rfl, if_pos (ln16_in _).1]
    · simp [e0]
  · refine key a 0 0 0 ha z10 z10 z10 (by simp) (by simp) (by simp) e1 ?_ ?_
    · rw [L]; by_cases ea : a = 0 <;> simp [ea]; split <;> (try split) <;> (try split) <;> simp
    · by_cases ea : a = 0
      · simp [ea] at *; simp [e0]
      · simp [ea, e1]
  · refine key a b 0 0 ha hb z10 z10 h1 (by simp) (by simp) e2 ?_ ?_
    · rw [L]; by_cases ea : a = 0 <;> by_cases eb : b = 0 <;> simp [ea, eb]; split <;> (try split) <;> simp
    · by_cases ea : a = 0
      · have := h1 ea; simp [ea, this, e0]; rfl
      · by_cases eb : b = 0 <;> simp [ea, eb, e1, e2]; simp [eb] at e1; exact e1
  · refine key a b c 0 ha hb hc z10 h1 h2 (by simp) e3 ?_ ?_
    · rw [L]; by_cases ea : a = 0 <;> by_cases eb : b = 0 <;> by_cases ec : c = 0 <;> simp [ea, eb, ec]; split <;> simp
    · by_cases ea : a = 0
      · have h4 := h1 ea; have h5 := h2 h4; simp [ea, h4, h5, e0]; rfl
      · by_cases eb : b = 0
        · have h5 := h2 eb; simp [ea, eb, h5]; simp [eb, h5] at e1; exact e1
        · by_cases ec : c = 0 <;> simp [ea, eb, ec, e3]; simp [ec] at e2; exact e2
  · refine key a b c d ha hb hc hd h1 h2 h3 e4 ?_ ?_
    · rw [L]; by_cases ea : a = 0 <;> by_cases eb : b = 0 <;> by_cases ec : c = 0 <;> by_cases ed : d = 0 <;> simp [ea, eb, ec, ed]
    · by_cases ea : a = 0
      · have h4 := h1 ea; have h5 := h2 h4; have h6 := h3 h5; simp [ea, h4, h5, h6, e0]; simp [ea, h4, h5, h6] at e0; exact e0
      · by_cases eb : b = 0
        · have h5 := h2 eb; have h6 := h3 h5; simp [ea, eb, h5, h6]; simp [eb, h5, h6] at e1; exact e1
        · by_cases ec : c = 0
          · have h6 := h3 ec; simp [ea, eb, ec, h6]; simp [ec, h6] at e2; exact e2
          · by_cases ed : d = 0 <;> simp [ea, eb, ec, ed, e4]; simp [ed] at e3; exact e3
theorem hdB_iff {k p : Int} (hk : okK k) (hp : okK p) : hdB k p (ln16 k).toNat = true ↔ hd16 p (ln16 k) = k := by
  obtain ⟨a, b, c, d, ha, hb, hc, hd, h1, h2, h3, rfl⟩ := okK_un hk
  obtain ⟨a', b', c', d', ha', hb', hc', hd', -, -, -, rfl⟩ := okK_un hp
  obtain ⟨e0, e1, e2, e3, e4⟩ := hd_mk ha' hb' hc' hd'
  obtain ⟨f0, f1, f2, f3⟩ := mkp_hA ha hb hc hd
  obtain ⟨g0, g1, g2, g3⟩ := mkp_hA ha' hb' hc' hd'
  rw [ln16_mk ha hb hc hd]
  by_cases ea : a = 0
  · have h4 := h1 ea; have h5 := h2 h4; have h6 := h3 h5
    rw [if_pos ea, e0, ea, h4, h5, h6]
    exact ⟨fun _ => rfl, fun _ => rfl⟩
  rw [if_neg ea]
  by_cases eb : b = 0
  · have h5 := h2 eb; have h6 := h3 h5
    rw [if_pos eb, e1, mkp_inj ha' z10 z10 z10 ha hb hc hd]
    show (true && decide (hA (mkp a b c d) 0 = hA (mkp a' b' c' d') 0)) = true ↔ _
    rw [f0, g0]
    simp
    omega
  rw [if_neg eb]
  by_cases ec : c = 0
  · have h6 := h3 ec
    rw [if_pos ec, e2, mkp_inj ha' hb' z10 z10 ha hb hc hd]
    show ((true && decide (hA (mkp a b c d) 0 = hA (mkp a' b' c' d') 0)) && decide (hA (mkp a b c d) 1 = hA (mkp a' b' c' d') 1)) = true ↔ _
    rw [f0, g0, f1, g1]
    simp
    omega
  rw [if_neg ec]
  by_cases ed : d = 0
  · rw [if_pos ed, e3, mkp_inj ha' hb' hc' z10 ha hb hc hd]
    show (((true && decide (hA (mkp a b c d) 0 = hA (mkp a' b' c' d') 0)) && decide (hA (mkp a b c d) 1 = hA (mkp a' b' c' d') 1)) && decide (hA (mkp a b c d) 2 = hA (mkp a' b' c' d') 2)) = true ↔ _
    rw [f0, g0, f1, g1, f2, g2]
    simp
    omega
  · rw [if_neg ed, e4, mkp_inj ha' hb' hc' hd' ha hb hc hd]
    show ((((true && decide (hA (mkp a b c d) 0 = hA (mkp a' b' c' d') 0)) && decide (hA (mkp a b c d) 1 = hA (mkp a' b' c' d') 1)) && decide (hA (mkp a b c d) 2 = hA (mkp a' b' c' d') 2)) && decide (hA (mkp a b c d) 3 = hA (mkp a' b' c' d') 3)) = true ↔ _
    rw [f0, g0, f1, g1, f2, g2, f3, g3]
    simp
    omega
/-- the longest head with a rule decides -/
theorem hid_of {ru : Int → Int} {p k : Int} (hk : okK k) (hp : okK p) (hr : ru k ≠ 0) (hh : hd16 p (ln16 k) = k) (hmax : ∀ z, okK z → ru z ≠ 0 → hd16 p (ln16 z) = z → ln16 z ≤ ln16 k) : hidK ru p = decide (ru k = 1) := by
  have hlk := ln16_in k
  have main : ∀ f : Nat, f ≤ 5 → ln16 k < (f : Int) → hidL ru p f = decide (ru k = 1) := by
    intro f
    induction f with
    | zero => intro _ h; omega
    | succ f ih =>
      intro hf hl
      rw [hidL]
      obtain ⟨q1, q2, q3⟩ := hd_ln hp (f := (f : Int)) (by omega)
      split
      · rename_i hne
        have h1 := hmax _ q1 hne q3
        have : hd16 p (f : Int) = k := by
          rw [← q3, ← hh]
          have hlp := (hd_ln hp (f := ln16 k) (by omega)).2.1
          rw [hh] at hlp
          congr 1
          rw [q2] at h1 ⊢
          split at h1 <;> rename_i hc
          · rw [if_pos hc]
            omega
          · rw [if_neg hc]
            split at hlp <;> omega
        rw [this]
      · rename_i hne
        refine ih (by omega) ?_
        by_cases he : ln16 k = (f : Int)
        · exfalso
          refine hne ?_
          rw [← he, hh]
          exact hr
        · omega
  exact main 5 (Nat.le_refl _) (by omega)
theorem hid_none {ru : Int → Int} {p : Int} (hp : okK p) (hno : ∀ z, okK z → ru z ≠ 0 → hd16 p (ln16 z) ≠ z) : hidK ru p = false := by
  have main : ∀ f : Nat, f ≤ 5 → hidL ru p f = false := by
    intro f
    induction f with
    | zero => intro _; rfl
    | succ f ih =>
      intro hf
      obtain ⟨q1, q2, q3⟩ := hd_ln hp (f := (f : Int)) (by omega)
      rw [hidL, if_neg (fun h => hno _ q1 h q3)]
      exact ih (by omega)
  exact main 5 (Nat.le_refl _)
