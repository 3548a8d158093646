/-! the reference's cells and the state -/
def smN (o : Ob) : Int := match o.2.2.2.2 with
  | none => 0
  | some _ => match o.2.2.2.1 with
    | none => 1
    | some _ => 2
def mO (A : Nat → Int → Int) (c : Int) (o : Ob) : Prop := A 5 c = o.1 ∧ A 6 c = o.2.1 ∧ (o.2.2.1 = none → A 8 c = 0) ∧ (∀ lo hi ar, o.2.2.1 = some (lo, hi, ar) → A 7 c = lo ∧ A 8 c = hi ∧ A 9 c = ar) ∧ A 10 c = smN o ∧ (∀ e : Smp, o.2.2.2.2 = some e → A 11 (2 * c + 1) = e.1 ∧ A 12 (2 * c + 1) = e.2.1 ∧ A 13 (2 * c + 1) = e.2.2) ∧ (∀ e : Smp, o.2.2.2.1 = some e → A 11 (2 * c) = e.1 ∧ A 12 (2 * c) = e.2.1 ∧ A 13 (2 * c) = e.2.2)
def mI (A : Nat → Int → Int) (j : Nat) (dm : List Int) (ob : Int → Ob) : Prop := ∃ l : List Int, rwP A j l ∧ l.Perm dm ∧ ∀ (i : Nat) (k : Int), l[i]? = some k → mO A (20 * (j : Int) + (i : Int)) (ob k)
def ruP (A : Nat → Int → Int) (j : Nat) (ru : Int → Int) (l : List Int) : Prop := A 15 (j : Int) = (l.length : Int) ∧ l.length ≤ 10 ∧ l.Nodup ∧ (∀ (i : Nat) (k : Int), l[i]? = some k → okK k ∧ A 16 (10 * (j : Int) + (i : Int)) = k11 k ∧ A 17 (10 * (j : Int) + (i : Int)) = ru k ∧ ru k ≠ 0) ∧ ∀ k, ru k ≠ 0 → k ∈ l
def mR (A : Nat → Int → Int) (j : Nat) (ru : Int → Int) (rn : Int) : Prop := ∃ l : List Int, ruP A j ru l ∧ rn = (l.length : Int)
def mTr (A : Nat → Int → Int) (tr : List Trp) : Prop := (∀ (i : Nat) (x : Trp), tr[i]? = some x → A 19 (i : Int) = x.1 ∧ A 20 (i : Int) = k11 x.2.1 ∧ A 21 (i : Int) = x.2.2.1 ∧ A 22 (i : Int) = x.2.2.2) ∧ ∀ i : Nat, tr.length ≤ i → A 22 (i : Int) = 0
def mN (A : Nat → Int → Int) (j : Nat) (nb : Int → Int) : Prop := ∀ p : Int, 0 ≤ p → p < 4 → A 23 (4 * (j : Int) + p) = nb p + 1
/-- the reference's memory holds the state s, its thrown being t -/
def Rm (μ : Mem) (M : Nat → Nat) (t : Int) : Sg → Prop
  | (q, clk, dm, ob, ru, rn, rs, nb, tr) => ∃ A, mS μ M t clk (k11 q) (tr.length : Int) A ∧ (∀ j, j < 4 → mI A j (dm j) (ob j)) ∧ (∀ j, j < 4 → mR A j (ru j) (rn j)) ∧ (∀ j : Nat, j < 4 → A 14 (j : Int) = rs j) ∧ (∀ j, j < 4 → mN A j (nb j)) ∧ mTr A tr ∧ ∀ c, A 9 c = 0 ∨ A 9 c = 1
section MOE
variable {M : Nat → Nat} {t c p n : Int} {A : Nat → Int → Int}
theorem c_isHidden (w : Wd) (μ : Mem) (j : Nat) (l : List Int) (ru : Int → Int) (q : Int) (hj : j < 4) (hq : okK q) (hl : ruP A j ru l) (hru : ∀ k, 0 ≤ ru k ∧ ru k ≤ 2) (hm : mS μ M t c p n A) : cM w yX6_isHidden cX6_isHidden 6 (some .boolean) 5 0 0 [.ref (M 0), .int (J (j : Int)), .int (J (k11 q))] μ (fun r μ' => r = some (.int (J (zB (hidK ru q)))) ∧ μ' = μ) (fun _ _ => False) := by
  obtain ⟨hl1, hl2, hl3, hl4, hl5⟩ := hl
  refine cM_of (fun x C => ?_)
  have loop : ∀ (m i : Nat) (lg : Int) (b : Bool), i + m = l.length → ((lg = -1 ∧ b = false ∧ ∀ k ∈ l.take i, hd16 q (ln16 k) ≠ k) ∨ ∃ k ∈ l.take i, hd16 q (ln16 k) = k ∧ lg = ln16 k ∧ b = decide (ru k = 1) ∧ ∀ z ∈ l.take i, hd16 q (ln16 z) = z → ln16 z ≤ ln16 k) → Z w x (zQ w x (fun r μ' => r = some (.int (J (zB (hidK ru q)))) ∧ μ' = μ) (fun _ _ => False) 0 0) 6 11 [(0, .ref (M 0)), (1, .int (J (j : Int))), (2, .int (J (k11 q))), (3, .int (J lg)), (4, .int (J (zB b))), (5, .int (J (10 * (j : Int) + (i : Int))))] [] μ 0 0 := by
    intro m
    induction m with
    | zero =>
      intro i lg b hi hinv
      refine z_iload C dX6_isHidden_11 rfl ?_
      refine z_bipush C dX6_isHidden_13 ?_
      refine z_iload_n C dX6_isHidden_15 rfl ?_
      refine z_imul C dX6_isHidden_16 ?_
      refine z_aload_n C dX6_isHidden_17 rfl ?_
      refine z_mgf C hm qF_X6_47 dX6_isHidden_18 ?_
      refine z_iload_n C dX6_isHidden_21 rfl ?_
      refine z_mld C hm dX6_isHidden_22 (by simp only [mln]; omega) ?_
      rw [hl1]
      refine z_iadd C dX6_isHidden_23 ?_
      refine z_icmp_ge (tgt := 90) C dX6_isHidden_24 (by decide) (by omega) (fun g => ?_) (fun g => ?_)
      · refine z_iload C dX6_isHidden_90 rfl ?_
        refine z_zret C (v := zB b) dX6_isHidden_92 (by cases b <;> simp [zB]) ⟨?_, rfl⟩
        rw [List.take_of_length_le (by omega)] at hinv
        rcases hinv with ⟨h1, h2, h3⟩ | ⟨k, h1, h2, h3, h4, h5⟩
        · rw [hid_none hq (fun z z1 z2 => h3 z (hl5 z z2)), h2]
        · obtain ⟨i', hi'⟩ := List.getElem?_of_mem h1
          obtain ⟨k1, k2, k3, k4⟩ := hl4 i' k hi'
          rw [hid_of k1 hq k4 h2 (fun z z1 z2 z3 => h5 z (hl5 z z2) z3), h4]
      · omega
    | succ m ih =>
      intro i lg b hi hinv
      obtain ⟨k, hk⟩ : ∃ k, l[i]? = some k := ⟨_, List.getElem?_eq_getElem (by omega)⟩
      obtain ⟨k1, k2, k3, k4⟩ := hl4 i k hk
      have hsn : l.take (i + 1) = l.take i ++ [k] := by rw [List.take_add_one, hk]; rfl
      have hlk := ln16_in k
      have hlg : -1 ≤ lg ∧ lg ≤ 4 := by
        rcases hinv with ⟨h1, -⟩ | ⟨z, -, -, h3, -⟩
        · omega
        · have := ln16_in z
          omega
      have step : ∀ (lg2 : Int) (b2 : Bool), ((lg2 = -1 ∧ b2 = false ∧ ∀ k ∈ l.take (i + 1), hd16 q (ln16 k) ≠ k) ∨ ∃ k ∈ l.take (i + 1), hd16 q (ln16 k) = k ∧ lg2 = ln16 k ∧ b2 = decide (ru k = 1) ∧ ∀ z ∈ l.take (i + 1), hd16 q (ln16 z) = z → ln16 z ≤ ln16 k) → ∀ ls, zsub ls [(0, .ref (M 0)), (1, .int (J (j : Int))), (2, .int (J (k11 q))), (3, .int (J lg2)), (4, .int (J (zB b2))), (5, .int (J (10 * (j : Int) + (i : Int))))] → Z w x (zQ w x (fun r μ' => r = some (.int (J (zB (hidK ru q)))) ∧ μ' = μ) (fun _ _ => False) 0 0) 6 84 ls [] μ 0 0 := by
        intro lg2 b2 hi2 ls hls
        refine z_ls _ hls ?_
        refine z_iinc C dX6_isHidden_84 rfl ?_
        refine z_goto (tgt := 11) C dX6_isHidden_87 (by decide) ?_
        have K := ih (i + 1) lg2 b2 (by omega) hi2
        rw [show 10 * (j : Int) + ((i + 1 : Nat) : Int) = 10 * (j : Int) + (i : Int) + 1 by omega] at K
        exact z_ls _ (by exact ⟨rfl, rfl, rfl, rfl, rfl, rfl, trivial⟩) K
      refine z_iload C dX6_isHidden_11 rfl ?_
      refine z_bipush C dX6_isHidden_13 ?_
      refine z_iload_n C dX6_isHidden_15 rfl ?_
      refine z_imul C dX6_isHidden_16 ?_
      refine z_aload_n C dX6_isHidden_17 rfl ?_
      refine z_mgf C hm qF_X6_47 dX6_isHidden_18 ?_
      refine z_iload_n C dX6_isHidden_21 rfl ?_
      refine z_mld C hm dX6_isHidden_22 (by simp only [mln]; omega) ?_
      rw [hl1]
      refine z_iadd C dX6_isHidden_23 ?_
      refine z_icmp_ge (tgt := 90) C dX6_isHidden_24 (by decide) (by omega) (fun g => ?_) (fun g => ?_)
      · omega
      · refine z_aload_n C dX6_isHidden_27 rfl ?_
        refine z_mgf C hm qF_X6_50 dX6_isHidden_28 ?_
        refine z_iload C dX6_isHidden_31 rfl ?_
        refine z_mld C hm dX6_isHidden_33 (by simp only [mln]; omega) ?_
        rw [k2]
        refine z_iload_n C dX6_isHidden_34 rfl ?_
        refine z_callS C (c_isHead w μ k q k1 hq) qM_X6_123 dX6_isHidden_35 rfl (fun _ _ h => h.elim) ?_
        rintro v μ2 ⟨rfl, rfl⟩
        have hiff := hdB_iff k1 hq
        have hz := zB_in (hdB k q (ln16 k).toNat)
        refine z_if_eq (tgt := 84) C dX6_isHidden_38 (by decide) (by omega) (fun g2 => ?_) (fun g2 => ?_)
        · have hn : hd16 q (ln16 k) ≠ k := fun e => by
            rw [hiff.mpr e] at g2
            exact absurd g2 (by decide)
          refine step lg b ?_ _ (by exact ⟨rfl, rfl, rfl, rfl, rfl, rfl, trivial⟩)
          rw [hsn]
          rcases hinv with ⟨h1, h2, h3⟩ | ⟨z, h1, h2, h3, h4, h5⟩
          · refine Or.inl ⟨h1, h2, fun z hz => ?_⟩
            rcases List.mem_append.mp hz with e | e
            · exact h3 z e
            · rw [List.mem_singleton.mp e]
              exact hn
          · refine Or.inr ⟨z, List.mem_append_left _ h1, h2, h3, h4, fun y hy hye => ?_⟩
            rcases List.mem_append.mp hy with e | e
            · exact h5 y e hye
            · rw [List.mem_singleton.mp e] at hye
              exact absurd hye hn
        · have hy : hd16 q (ln16 k) = k := hiff.mp (by cases h : hdB k q (ln16 k).toNat with | true => rfl | false => exact absurd (zB_eq.mpr h) g2)
          refine z_aload_n C dX6_isHidden_41 rfl ?_
          refine z_mgf C hm qF_X6_50 dX6_isHidden_42 ?_
          refine z_iload C dX6_isHidden_45 rfl ?_
          refine z_mld C hm dX6_isHidden_47 (by simp only [mln]; omega) ?_
          rw [k2]
          refine z_callS C (c_length w μ2 k k1) qM_X6_87 dX6_isHidden_48 rfl (fun _ _ h => h.elim) ?_
          rintro v μ3 ⟨rfl, rfl⟩
          refine z_iload_n C dX6_isHidden_51 rfl ?_
          refine z_icmp_le (tgt := 84) C dX6_isHidden_52 (by decide) (by omega) (fun g3 => ?_) (fun g3 => ?_)
          · refine step lg b ?_ _ (by exact ⟨rfl, rfl, rfl, rfl, rfl, rfl, trivial⟩)
            rw [hsn]
            rcases hinv with ⟨h1, h2, h3⟩ | ⟨z, h1, h2, h3, h4, h5⟩
            · omega
            · refine Or.inr ⟨z, List.mem_append_left _ h1, h2, h3, h4, fun y hy hye => ?_⟩
              rcases List.mem_append.mp hy with e | e
              · exact h5 y e hye
              · rw [List.mem_singleton.mp e]
                omega
          · refine z_aload_n C dX6_isHidden_55 rfl ?_
            refine z_mgf C hm qF_X6_50 dX6_isHidden_56 ?_
            refine z_iload C dX6_isHidden_59 rfl ?_
            refine z_mld C hm dX6_isHidden_61 (by simp only [mln]; omega) ?_
            rw [k2]
            refine z_callS C (c_length w μ3 k k1) qM_X6_87 dX6_isHidden_62 rfl (fun _ _ h => h.elim) ?_
            rintro v μ4 ⟨rfl, rfl⟩
            refine z_istore_n C dX6_isHidden_65 ?_
            refine z_aload_n C dX6_isHidden_66 rfl ?_
            refine z_mgf C hm qF_X6_53 dX6_isHidden_67 ?_
            refine z_iload C dX6_isHidden_70 rfl ?_
            refine z_mld C hm dX6_isHidden_72 (by simp only [mln]; omega) ?_
            rw [k3]
            have hrk := hru k
            have fin : ∀ b2 : Bool, b2 = decide (ru k = 1) → ∀ ls, zsub ls [(0, .ref (M 0)), (1, .int (J (j : Int))), (2, .int (J (k11 q))), (3, .int (J (ln16 k))), (5, .int (J (10 * (j : Int) + (i : Int))))] → Z w x (zQ w x (fun r μ' => r = some (.int (J (zB (hidK ru q)))) ∧ μ' = μ4) (fun _ _ => False) 0 0) 6 82 ls [.int (J (zB b2))] μ4 0 0 := by
              intro b2 hb2 ls hls
              refine z_ls _ hls ?_
              refine z_istore C dX6_isHidden_82 ?_
              refine step (ln16 k) b2 ?_ _ (by exact ⟨rfl, rfl, rfl, rfl, rfl, rfl, trivial⟩)
              rw [hsn]
              refine Or.inr ⟨k, List.mem_append_right _ (List.mem_singleton.mpr rfl), hy, rfl, hb2, fun y hy2 hye => ?_⟩
              rcases List.mem_append.mp hy2 with e | e
              · rcases hinv with ⟨h1, h2, h3⟩ | ⟨z, h1, h2, h3, h4, h5⟩
                · exact absurd hye (h3 y e)
                · have := h5 y e hye
                  omega
              · rw [List.mem_singleton.mp e]
                exact Int.le_refl _
            refine z_iconst C dX6_isHidden_73 ?_
            refine z_icmp_ne (tgt := 81) C dX6_isHidden_74 (by decide) (by omega) (fun g4 => ?_) (fun g4 => ?_)
            · refine z_iconst C dX6_isHidden_81 ?_
              exact fin false (decide_eq_false g4).symm _ (by exact ⟨rfl, rfl, rfl, rfl, rfl, trivial⟩)
            · refine z_iconst C dX6_isHidden_77 ?_
              refine z_goto (tgt := 82) C dX6_isHidden_78 (by decide) ?_
              exact fin true (decide_eq_true g4).symm _ (by exact ⟨rfl, rfl, rfl, rfl, rfl, trivial⟩)
  refine z_iconst C dX6_isHidden_0 ?_
  refine z_istore_n C dX6_isHidden_1 ?_
  refine z_iconst C dX6_isHidden_2 ?_
  refine z_istore C dX6_isHidden_3 ?_
  refine z_bipush C dX6_isHidden_5 ?_
  refine z_iload_n C dX6_isHidden_7 rfl ?_
  refine z_imul C dX6_isHidden_8 ?_
  refine z_istore C dX6_isHidden_9 ?_
  have K := loop l.length 0 (-1) false (by omega) (Or.inl ⟨rfl, rfl, fun k hk => by simp at hk⟩)
  rw [show 10 * (j : Int) + ((0 : Nat) : Int) = 10 * (j : Int) by omega] at K
  exact z_ls _ (by exact ⟨rfl, rfl, rfl, rfl, rfl, rfl, trivial⟩) K
/-- what behind comes to -/
def bhP (l dm : List Int) (ru : Int → Int) (j : Nat) (q z : Int) : Prop := (z = -1 ∧ nx dm ru q = none) ∨ ∃ (i : Nat) (k : Int), l[i]? = some k ∧ z = 20 * (j : Int) + (i : Int) ∧ nx dm ru q = some k
theorem c_behind (w : Wd) (μ : Mem) (j : Nat) (l rl dm : List Int) (ru : Int → Int) (q : Int) (hj : j < 4) (hq : okK q) (hl : rwP A j l) (hp : l.Perm dm) (hr : ruP A j ru rl) (hru : ∀ k, 0 ≤ ru k ∧ ru k ≤ 2) (hm : mS μ M t c (k11 q) n A) : cM w yX6_behind cX6_behind 5 (some .int) 6 0 0 [.ref (M 0), .int (J (j : Int))] μ (fun r μ' => (∃ z, r = some (.int (J z)) ∧ bhP l dm ru j q z) ∧ μ' = μ) (fun _ _ => False) := by
  obtain ⟨hl1, hl2, hl3⟩ := hl
  have hqi := k11_in hq
  refine cM_of (fun x C => ?_)
  have loop : ∀ (m i : Nat) (z : Int), i + m = l.length → ((z = -1 ∧ ∀ k ∈ l.take i, ¬ (q < k ∧ hidK ru k = false)) ∨ ∃ (i' : Nat) (k : Int), l[i']? = some k ∧ z = 20 * (j : Int) + (i' : Int) ∧ q < k ∧ hidK ru k = false ∧ ∀ y ∈ l.take i, q < y → hidK ru y = false → k ≤ y) → Z w x (zQ w x (fun r μ' => (∃ z, r = some (.int (J z)) ∧ bhP l dm ru j q z) ∧ μ' = μ) (fun _ _ => False) 0 0) 5 7 [(0, .ref (M 0)), (1, .int (J (j : Int))), (2, .int (J z)), (3, .int (J (20 * (j : Int) + (i : Int))))] [] μ 0 0 := by
    intro m
    induction m with
    | zero =>
      intro i z hi hz
      refine z_iload_n C dX6_behind_7 rfl ?_
      refine z_bipush C dX6_behind_8 ?_
      refine z_iload_n C dX6_behind_10 rfl ?_
      refine z_imul C dX6_behind_11 ?_
      refine z_aload_n C dX6_behind_12 rfl ?_
      refine z_mgf C hm qF_X6_7 dX6_behind_13 ?_
      refine z_iload_n C dX6_behind_16 rfl ?_
      refine z_mld C hm dX6_behind_17 (by simp only [mln]; omega) ?_
      rw [hl1]
      refine z_iadd C dX6_behind_18 ?_
      refine z_icmp_ge (tgt := 93) C dX6_behind_19 (by decide) (by omega) (fun g => ?_) (fun g => ?_)
      · refine z_iload_n C dX6_behind_93 rfl ?_
        refine z_iret C dX6_behind_94 ⟨⟨z, rfl, ?_⟩, rfl⟩
        rw [List.take_of_length_le (by omega)] at hz
        rcases hz with ⟨h1, h2⟩ | ⟨i', k, h1, h2, h3, h4, h5⟩
        · refine Or.inl ⟨h1, nxt_none (fun k hk hc => h2 k (hp.mem_iff.mpr hk) ⟨hc.1, by simpa using hc.2⟩)⟩
        · refine Or.inr ⟨i', k, h1, h2, nxt_some (hp.mem_iff.mp (List.mem_of_getElem? h1)) h3 (by rw [h4]; rfl) (fun y hy y1 y2 => h5 y (hp.mem_iff.mpr hy) y1 (by simpa using y2))⟩
      · omega
    | succ m ih =>
      intro i z hi hz
      obtain ⟨k, hk⟩ : ∃ k, l[i]? = some k := ⟨_, List.getElem?_eq_getElem (by omega)⟩
      obtain ⟨k1, k2⟩ := hl3 i k hk
      have k3 := k11_in k1
      have hlt := k11_lt hq k1
      have hsn : l.take (i + 1) = l.take i ++ [k] := by rw [List.take_add_one, hk]; rfl
      have hzr : -1 ≤ z ∧ z ≤ 79 := by
        rcases hz with ⟨h1, -⟩ | ⟨i', k', h1, h2, -⟩
        · omega
        · have := (List.getElem?_eq_some_iff.mp h1).1
          omega
      have step : ∀ z2 : Int, ((z2 = -1 ∧ ∀ k ∈ l.take (i + 1), ¬ (q < k ∧ hidK ru k = false)) ∨ ∃ (i' : Nat) (k : Int), l[i']? = some k ∧ z2 = 20 * (j : Int) + (i' : Int) ∧ q < k ∧ hidK ru k = false ∧ ∀ y ∈ l.take (i + 1), q < y → hidK ru y = false → k ≤ y) → ∀ ls, zsub ls [(0, .ref (M 0)), (1, .int (J (j : Int))), (3, .int (J (20 * (j : Int) + (i : Int))))] → Z w x (zQ w x (fun r μ' => (∃ z, r = some (.int (J z)) ∧ bhP l dm ru j q z) ∧ μ' = μ) (fun _ _ => False) 0 0) 5 86 ls [.int (J z2)] μ 0 0 := by
        intro z2 hz2 ls hls
        refine z_ls _ hls ?_
        refine z_istore_n C dX6_behind_86 ?_
        refine z_iinc C dX6_behind_87 rfl ?_
        refine z_goto (tgt := 7) C dX6_behind_90 (by decide) ?_
        have K := ih (i + 1) z2 (by omega) hz2
        rw [show 20 * (j : Int) + ((i + 1 : Nat) : Int) = 20 * (j : Int) + (i : Int) + 1 by omega] at K
        exact z_ls _ (by exact ⟨rfl, rfl, rfl, rfl, trivial⟩) K
      -- k can't be
      have skip : ¬ (q < k ∧ hidK ru k = false) → ∀ ls, zsub ls [(0, .ref (M 0)), (1, .int (J (j : Int))), (2, .int (J z)), (3, .int (J (20 * (j : Int) + (i : Int))))] → Z w x (zQ w x (fun r μ' => (∃ z, r = some (.int (J z)) ∧ bhP l dm ru j q z) ∧ μ' = μ) (fun _ _ => False) 0 0) 5 53 ls [] μ 0 0 := by
        intro hno ls hls
        refine z_ls _ hls ?_
        refine z_iconst C dX6_behind_53 ?_
        refine z_istore C dX6_behind_54 ?_
        refine z_iload C dX6_behind_56 rfl ?_
        refine z_if_eq (tgt := 85) C dX6_behind_58 (by decide) (by omega) (fun g => ?_) (fun g => ?_)
        · refine z_iload_n C dX6_behind_85 rfl ?_
          refine step z ?_ _ (by exact ⟨rfl, rfl, rfl, trivial⟩)
          rw [hsn]
          rcases hz with ⟨h1, h2⟩ | ⟨i', k', h1, h2, h3, h4, h5⟩
          · refine Or.inl ⟨h1, fun y hy => ?_⟩
            rcases List.mem_append.mp hy with e | e
            · exact h2 y e
            · rw [List.mem_singleton.mp e]
              exact hno
          · refine Or.inr ⟨i', k', h1, h2, h3, h4, fun y hy y1 y2 => ?_⟩
            rcases List.mem_append.mp hy with e | e
            · exact h5 y e y1 y2
            · rw [List.mem_singleton.mp e] at y1 y2
              exact absurd ⟨y1, y2⟩ hno
        · exact absurd rfl g
      refine z_iload_n C dX6_behind_7 rfl ?_
      refine z_bipush C dX6_behind_8 ?_
      refine z_iload_n C dX6_behind_10 rfl ?_
      refine z_imul C dX6_behind_11 ?_
      refine z_aload_n C dX6_behind_12 rfl ?_
      refine z_mgf C hm qF_X6_7 dX6_behind_13 ?_
      refine z_iload_n C dX6_behind_16 rfl ?_
      refine z_mld C hm dX6_behind_17 (by simp only [mln]; omega) ?_
      rw [hl1]
      refine z_iadd C dX6_behind_18 ?_
      refine z_icmp_ge (tgt := 93) C dX6_behind_19 (by decide) (by omega) (fun g => ?_) (fun g => ?_)
      · omega
      · refine z_aload_n C dX6_behind_22 rfl ?_
        refine z_mgf C hm qF_X6_13 dX6_behind_23 ?_
        refine z_iload_n C dX6_behind_26 rfl ?_
        refine z_mld C hm dX6_behind_27 (by simp only [mln]; omega) ?_
        rw [k2]
        refine z_aload_n C dX6_behind_28 rfl ?_
        refine z_mg2 C hm qF_X6_90 dX6_behind_29 ?_
        refine z_icmp_le (tgt := 53) C dX6_behind_32 (by decide) (by omega) (fun g2 => ?_) (fun g2 => ?_)
        · exact skip (fun h => by have := hlt.mpr h.1; omega) _ (by exact ⟨rfl, rfl, rfl, rfl, trivial⟩)
        · refine z_aload_n C dX6_behind_35 rfl ?_
          refine z_iload_n C dX6_behind_36 rfl ?_
          refine z_aload_n C dX6_behind_37 rfl ?_
          refine z_mgf C hm qF_X6_13 dX6_behind_38 ?_
          refine z_iload_n C dX6_behind_41 rfl ?_
          refine z_mld C hm dX6_behind_42 (by simp only [mln]; omega) ?_
          rw [k2]
          refine z_callV C (c_isHidden w μ j rl ru k hj k1 hr hru hm) qM_X6_127 dX6_behind_43 rfl (zRc_o hm.1.1) (fun _ _ h => h.elim) ?_
          rintro v μ2 ⟨rfl, rfl⟩
          have hz2 := zB_in (hidK ru k)
          refine z_if_ne (tgt := 53) C dX6_behind_46 (by decide) (by omega) (fun g3 => ?_) (fun g3 => ?_)
          · have hh : hidK ru k ≠ false := fun e => g3 (zB_eq.mpr e)
            exact skip (fun h => hh h.2) _ (by exact ⟨rfl, rfl, rfl, rfl, trivial⟩)
          · have hh : hidK ru k = false := zB_eq.mp g3
            have hqk : q < k := hlt.mp (by omega)
            refine z_iconst C dX6_behind_49 ?_
            refine z_goto (tgt := 54) C dX6_behind_50 (by decide) ?_
            refine z_istore C dX6_behind_54 ?_
            refine z_iload C dX6_behind_56 rfl ?_
            refine z_if_eq (tgt := 85) C dX6_behind_58 (by decide) (by omega) (fun g4 => ?_) (fun g4 => ?_)
            · exact absurd g4 (by decide)
            · have take : ∀ ls, zsub ls [(0, .ref (M 0)), (1, .int (J (j : Int))), (3, .int (J (20 * (j : Int) + (i : Int))))] → (∀ y ∈ l.take i, q < y → hidK ru y = false → k ≤ y) → Z w x (zQ w x (fun r μ' => (∃ z, r = some (.int (J z)) ∧ bhP l dm ru j q z) ∧ μ' = μ2) (fun _ _ => False) 0 0) 5 81 ls [] μ2 0 0 := by
                intro ls hls hmin
                refine z_ls _ hls ?_
                refine z_iload_n C dX6_behind_81 rfl ?_
                refine z_goto (tgt := 86) C dX6_behind_82 (by decide) ?_
                refine step _ (Or.inr ⟨i, k, hk, rfl, hqk, hh, fun y hy y1 y2 => ?_⟩) _ (by exact ⟨rfl, rfl, rfl, trivial⟩)
                rw [hsn] at hy
                rcases List.mem_append.mp hy with e | e
                · exact hmin y e y1 y2
                · rw [List.mem_singleton.mp e]
                  exact Int.le_refl _
              refine z_iload_n C dX6_behind_61 rfl ?_
              refine z_iconst C dX6_behind_62 ?_
              refine z_icmp_eq (tgt := 81) C dX6_behind_63 (by decide) (by omega) (fun g5 => ?_) (fun g5 => ?_)
              · refine take _ (by exact ⟨rfl, rfl, rfl, trivial⟩) (fun y hy y1 y2 => ?_)
                rcases hz with ⟨h1, h2⟩ | ⟨i', k', h1, h2, -⟩
                · exact absurd ⟨y1, y2⟩ (h2 y hy)
                · omega
              · rcases hz with ⟨h1, h2⟩ | ⟨i', k', h1, h2, h3, h4, h5⟩
                · exact absurd h1 g5
                · obtain ⟨e1, e2⟩ := hl3 i' k' h1
                  have e3 := k11_in e1
                  have hlt2 := k11_lt k1 e1
                  have hi' := (List.getElem?_eq_some_iff.mp h1).1
                  refine z_aload_n C dX6_behind_66 rfl ?_
                  refine z_mgf C hm qF_X6_13 dX6_behind_67 ?_
                  refine z_iload_n C dX6_behind_70 rfl ?_
                  refine z_mld C hm dX6_behind_71 (by simp only [mln]; omega) ?_
                  rw [k2]
                  refine z_aload_n C dX6_behind_72 rfl ?_
                  refine z_mgf C hm qF_X6_13 dX6_behind_73 ?_
                  refine z_iload_n C dX6_behind_76 rfl ?_
                  refine z_mld C hm dX6_behind_77 (by simp only [mln]; omega) ?_
                  rw [h2, e2]
                  refine z_icmp_ge (tgt := 85) C dX6_behind_78 (by decide) (by omega) (fun g6 => ?_) (fun g6 => ?_)
                  · refine z_iload_n C dX6_behind_85 rfl ?_
                    refine step _ (Or.inr ⟨i', k', h1, rfl, h3, h4, fun y hy y1 y2 => ?_⟩) _ (by exact ⟨rfl, rfl, rfl, trivial⟩)
                    rw [hsn] at hy
                    rcases List.mem_append.mp hy with e | e
                    · exact h5 y e y1 y2
                    · rw [List.mem_singleton.mp e]
                      omega
                  · refine take _ (by exact ⟨rfl, rfl, rfl, trivial⟩) (fun y hy y1 y2 => ?_)
                    have := h5 y hy y1 y2
                    have := hlt2.mp (by omega)
                    omega
  refine z_iconst C dX6_behind_0 ?_
  refine z_istore_n C dX6_behind_1 ?_
  refine z_bipush C dX6_behind_2 ?_
  refine z_iload_n C dX6_behind_4 rfl ?_
  refine z_imul C dX6_behind_5 ?_
  refine z_istore_n C dX6_behind_6 ?_
  have K := loop l.length 0 (-1) (by omega) (Or.inl ⟨rfl, fun k hk => by simp at hk⟩)
  rw [show 20 * (j : Int) + ((0 : Nat) : Int) = 20 * (j : Int) by omega] at K
  exact z_ls _ (by exact ⟨rfl, rfl, rfl, rfl, trivial⟩) K
end MOE
