/-! reach: the reference's way, four rounds in place, comes to the same -/
def mrK (ln : Nat → Nat → Bool) : Nat → Nat → Int → Int
  | 0, _, s => s
  | f + 1, k, s => mrK ln f (k + 1) (if (bitB s (k / 4) && (ln (k / 4) (k % 4) && ln (k % 4) (k / 4))) = true then orB s (k % 4) else s)
def mrR (ln : Nat → Nat → Bool) : Nat → Int → Int
  | 0, s => s
  | f + 1, s => mrR ln f (mrK ln 16 0 s)
theorem wlI_cg2 {f g : Nat → Nat → Bool} (h : ∀ i j, i < 4 → j < 4 → (f i j && f j i) = (g i j && g j i)) (s : Int) {one : Nat} (h1 : one < 4) : ∀ (n o : Nat) (wd : Int), n + o = 4 → wlI f s one n o wd = wlI g s one n o wd
  | 0, _, _, _ => rfl
  | n + 1, o, wd, hn => by
    rw [wlI, wlI, h one o h1 (by omega), wlI_cg2 h s h1 n (o + 1) _ (by omega)]
theorem wlO_cg2 {f g : Nat → Nat → Bool} (h : ∀ i j, i < 4 → j < 4 → (f i j && f j i) = (g i j && g j i)) (s : Int) : ∀ (n one : Nat) (wd : Int), n + one = 4 → wlO f s n one wd = wlO g s n one wd
  | 0, _, _, _ => rfl
  | n + 1, one, wd, hn => by
    rw [wlO, wlO, wlI_cg2 h s (by omega) 4 0 wd rfl, wlO_cg2 h s n (one + 1) _ (by omega)]
theorem mrK_cg {f g : Nat → Nat → Bool} (h : ∀ i j, i < 4 → j < 4 → (f i j && f j i) = (g i j && g j i)) : ∀ (n k : Nat) (s : Int), n + k = 16 → mrK f n k s = mrK g n k s
  | 0, _, _, _ => rfl
  | n + 1, k, s, hn => by
    rw [mrK, mrK, h (k / 4) (k % 4) (by omega) (by omega), mrK_cg h n (k + 1) _ (by omega)]
theorem mrR_cg {f g : Nat → Nat → Bool} (h : ∀ i j, i < 4 → j < 4 → (f i j && f j i) = (g i j && g j i)) : ∀ (n : Nat) (s : Int), mrR f n s = mrR g n s
  | 0, _ => rfl
  | n + 1, s => by rw [mrR, mrR, mrK_cg h 16 0 s rfl, mrR_cg h n]
def lnB (a b c d e f : Bool) (i j : Nat) : Bool := match i, j with
  | 0, 1 => a
  | 1, 0 => a
  | 0, 2 => b
  | 2, 0 => b
  | 0, 3 => c
  | 3, 0 => c
  | 1, 2 => d
  | 2, 1 => d
  | 1, 3 => e
  | 3, 1 => e
  | 2, 3 => f
  | 3, 2 => f
  | _, _ => false
set_option maxRecDepth 20000 in
theorem reach_fin : ∀ a b c d e f : Bool, ∀ i : Fin 4, mrR (lnB a b c d e f) 4 ((2 ^ i.val : Nat) : Int) = wl3 (lnB a b c d e f) (wl3 (lnB a b c d e f) (wl3 (lnB a b c d e f) ((2 ^ i.val : Nat) : Int))) := by decide +kernel
theorem reach_eq {ln : Nat → Nat → Bool} (h0 : ∀ i, i < 4 → ln i i = false) {i : Nat} (hi : i < 4) : mrR ln 4 ((2 ^ i : Nat) : Int) = wl3 ln (wl3 ln (wl3 ln ((2 ^ i : Nat) : Int))) := by
  have h : ∀ x y, x < 4 → y < 4 → (ln x y && ln y x) = (lnB (ln 0 1 && ln 1 0) (ln 0 2 && ln 2 0) (ln 0 3 && ln 3 0) (ln 1 2 && ln 2 1) (ln 1 3 && ln 3 1) (ln 2 3 && ln 3 2) x y && lnB (ln 0 1 && ln 1 0) (ln 0 2 && ln 2 0) (ln 0 3 && ln 3 0) (ln 1 2 && ln 2 1) (ln 1 3 && ln 3 1) (ln 2 3 && ln 3 2) y x) := by
    intro x y hx hy
    have c1 : ∀ p r : Bool, (r && p) = (p && r && (p && r)) := by decide
    have c2 : ∀ p r : Bool, (p && r) = (p && r && (p && r)) := by decide
    rcases (by omega : x = 0 ∨ x = 1 ∨ x = 2 ∨ x = 3) with rfl | rfl | rfl | rfl <;> rcases (by omega : y = 0 ∨ y = 1 ∨ y = 2 ∨ y = 3) with rfl | rfl | rfl | rfl <;> first | exact c2 _ _ | exact c1 _ _ | (rw [h0 _ (by decide)]; rfl)
  have hw : ∀ s, wl3 ln s = wl3 (lnB (ln 0 1 && ln 1 0) (ln 0 2 && ln 2 0) (ln 0 3 && ln 3 0) (ln 1 2 && ln 2 1) (ln 1 3 && ln 3 1) (ln 2 3 && ln 3 2)) s := fun s => wlO_cg2 h s 4 0 s rfl
  rw [mrR_cg h, hw, hw, hw]
  exact reach_fin _ _ _ _ _ _ ⟨i, hi⟩
theorem mrK_in (ln : Nat → Nat → Bool) : ∀ (f k : Nat) (s : Int), 0 ≤ s ∧ s ≤ 15 → 0 ≤ mrK ln f k s ∧ mrK ln f k s ≤ 15
  | 0, _, s, h => h
  | f + 1, k, s, h => by
    refine mrK_in ln f (k + 1) _ ?_
    split
    · exact (orB_J h (by omega)).2
    · exact h
section MOI
variable {N t : Int} {s : Sg} {M : Nat → Nat} {μ : Mem}
theorem m_reach (w : Wd) (a : Int) (hR : Rm μ M t s) (hO : okS N s) (h32 : in32 a) : cM w yX6_reach cX6_reach 6 (some .int) 8 0 0 [.ref (M 0), .int (J a)] μ (okM M μ (spReach a s)) (fun _ _ => False) := by
  obtain ⟨q, clk, dm, ob, ru, rn, rs, nb, tr⟩ := s
  obtain ⟨A, hm, hI, hRu, hRs, hNb, hTr, h9⟩ := hR
  have hF := Fm_rf μ M
  have hqk := hO.2.1
  have hqi := k11_in hqk
  have hci := hO.2.2.1
  have g0 := hm.1.1
  obtain ⟨r, hr⟩ : ∃ r, r = spReach a (q, clk, dm, ob, ru, rn, rs, nb, tr) := ⟨_, rfl⟩
  rw [← hr]
  refine cM_of (fun x C => ?_)
  have hnb : ∀ i, i < 4 → ∀ k, -1 ≤ nb i k ∧ nb i k ≤ 3 := fun i hi => (hO.2.2.2.1 i hi).2.2.2.2.2.2.1
  have hself : ∀ i, i < 4 → nmS nb i i = false := by
    intro i hi
    have h8 := (hO.2.2.2.1 i hi).2.2.2.2.2.2.2
    have e : ∀ (f k : Nat), k + f = 4 → nbF (nb i) (i : Int) f (k : Int) = false := by
      intro f
      induction f with
      | zero => intro k _; rfl
      | succ f ih =>
        intro k hk
        show (decide (nb i (k : Int) = (i : Int)) || nbF (nb i) (i : Int) f ((k + 1 : Nat) : Int)) = false
        rw [ih (k + 1) (by omega), decide_eq_false (h8 (k : Int) (by omega) (by omega))]
        rfl
    exact e 4 0 rfl
  refine z_aload_n C dX6_reach_0 rfl ?_
  refine z_iload_n C dX6_reach_1 rfl ?_
  refine z_callV C (c_isAgent w μ a h32 hm) qM_X6_99 dX6_reach_2 rfl (zRc_o g0) (fun _ _ h => h.elim) ?_
  rintro v μ1 ⟨rfl, hm, hF⟩
  have g0 := hm.1.1
  by_cases ha : 0 ≤ a ∧ a ≤ 3
  · rw [if_pos ha] at hm
    rw [decide_eq_true ha, show zB true = 1 from rfl]
    obtain ⟨j, rfl⟩ : ∃ j : Nat, a = (j : Int) := ⟨a.toNat, by omega⟩
    have hj : j < 4 := by omega
    obtain ⟨V, hV⟩ : ∃ V, V = mrR (nmS nb) 4 ((2 ^ j : Nat) : Int) := ⟨_, rfl⟩
    have fin : r = (0, V, q, clk, dm, ob, ru, rn, rs, nb, tr) := by rw [hr, spReach, if_neg (by omega), hV, reach_eq hself hj]; rfl
    have h2j : ∀ i : Fin 4, 0 ≤ ((2 ^ i.val : Nat) : Int) ∧ ((2 ^ i.val : Nat) : Int) ≤ 15 := by decide
    have h2 := h2j ⟨j, hj⟩
    simp only at h2
    refine z_if_ne (tgt := 10) C dX6_reach_5 (by decide) (by omega) (fun g => ?_) (fun g => ?_)
    · refine z_iconst C dX6_reach_10 ?_
      refine z_iload_n C dX6_reach_11 rfl ?_
      refine z_ishl C (1 * ((2 ^ j : Nat) : Int)) (J_ishl j (by omega) (by omega) (by omega)) dX6_reach_12 ?_
      rw [Int.one_mul]
      have outer : ∀ (f i : Nat) (z : Int), f + i = 4 → 0 ≤ z ∧ z ≤ 15 → V = mrR (nmS nb) f z → Z w x (zQ w x (okM M μ r) (fun _ _ => False) 0 0) 6 16 [(0, .ref (M 0)), (2, .int (J z)), (3, .int (J (i : Int)))] [] μ1 0 0 := by
        intro f
        induction f with
        | zero =>
          intro i z hf hz hv
          refine z_iload_n C dX6_reach_16 rfl ?_
          refine z_iconst C dX6_reach_17 ?_
          refine z_icmp_ge (tgt := 110) C dX6_reach_18 (by decide) (by omega) (fun g2 => ?_) (fun g2 => ?_)
          · refine z_iload_n C dX6_reach_110 rfl ?_
            refine z_iret C dX6_reach_111 ?_
            rw [fin, hv]
            exact ⟨⟨_, rfl, fun _ => rfl⟩, ⟨A, hm, hI, hRu, hRs, hNb, hTr, h9⟩, hF⟩
          · omega
        | succ f ih =>
          intro i z hf hz hv
          refine z_iload_n C dX6_reach_16 rfl ?_
          refine z_iconst C dX6_reach_17 ?_
          refine z_icmp_ge (tgt := 110) C dX6_reach_18 (by decide) (by omega) (fun g2 => ?_) (fun g2 => ?_)
          · omega
          · have inner : ∀ (m k : Nat) (z : Int), m + k = 16 → 0 ≤ z ∧ z ≤ 15 → V = mrR (nmS nb) f (mrK (nmS nb) m k z) → Z w x (zQ w x (okM M μ r) (fun _ _ => False) 0 0) 6 24 [(0, .ref (M 0)), (2, .int (J z)), (3, .int (J (i : Int))), (4, .int (J (k : Int)))] [] μ1 0 0 := by
              intro m
              induction m with
              | zero =>
                intro k z hk hz hv
                refine z_iload C dX6_reach_24 rfl ?_
                refine z_bipush C dX6_reach_26 ?_
                refine z_icmp_ge (tgt := 104) C dX6_reach_28 (by decide) (by omega) (fun g3 => ?_) (fun g3 => ?_)
                · refine z_iinc C dX6_reach_104 rfl ?_
                  refine z_goto (tgt := 16) C dX6_reach_107 (by decide) ?_
                  exact z_ls _ (by exact ⟨rfl, rfl, rfl, trivial⟩) (ih (i + 1) z (by omega) hz hv)
                · omega
              | succ m ihm =>
                intro k z hk hz hv
                have hd4 : ((k / 4 : Nat) : Int) = (k : Int) / 4 := by omega
                have hm4 : ((k % 4 : Nat) : Int) = (k : Int) % 4 := by omega
                have fin2 : ∀ z2 : Int, 0 ≤ z2 ∧ z2 ≤ 15 → (if (bitB z (k / 4) && (nmS nb (k / 4) (k % 4) && nmS nb (k % 4) (k / 4))) = true then orB z (k % 4) else z) = z2 → ∀ ls, zsub ls [(0, .ref (M 0)), (3, .int (J (i : Int))), (4, .int (J (k : Int)))] → Z w x (zQ w x (okM M μ r) (fun _ _ => False) 0 0) 6 97 ls [.int (J z2)] μ1 0 0 := by
                  intro z2 hz2 he ls hls
                  refine z_ls _ hls ?_
                  refine z_istore_n C dX6_reach_97 ?_
                  refine z_iinc C dX6_reach_98 rfl ?_
                  refine z_goto (tgt := 24) C dX6_reach_101 (by decide) ?_
                  refine z_ls _ (by exact ⟨rfl, rfl, rfl, rfl, trivial⟩) (ihm (k + 1) z2 (by omega) hz2 ?_)
                  rw [hv, ← he]
                  rfl
                have no : (bitB z (k / 4) && (nmS nb (k / 4) (k % 4) && nmS nb (k % 4) (k / 4))) = false → ∀ ls, zsub ls [(0, .ref (M 0)), (2, .int (J z)), (3, .int (J (i : Int))), (4, .int (J (k : Int)))] → Z w x (zQ w x (okM M μ r) (fun _ _ => False) 0 0) 6 77 ls [] μ1 0 0 := by
                  intro hno ls hls
                  refine z_ls _ hls ?_
                  refine z_iconst C dX6_reach_77 ?_
                  refine z_istore C dX6_reach_78 ?_
                  refine z_iload_n C dX6_reach_80 rfl ?_
                  refine z_iload C dX6_reach_81 rfl ?_
                  refine z_if_eq (tgt := 95) C dX6_reach_83 (by decide) (by omega) (fun g4 => ?_) (fun g4 => ?_)
                  · refine z_iconst C dX6_reach_95 ?_
                    refine z_ior C z (by rw [J_or 0 (by decide) (by decide) hz.1 (by simp), Int.add_zero]) dX6_reach_96 ?_
                    exact fin2 z hz (by rw [hno, if_neg (by decide)]) _ (by exact ⟨rfl, rfl, rfl, trivial⟩)
                  · exact absurd rfl g4
                refine z_iload C dX6_reach_24 rfl ?_
                refine z_bipush C dX6_reach_26 ?_
                refine z_icmp_ge (tgt := 104) C dX6_reach_28 (by decide) (by omega) (fun g3 => ?_) (fun g3 => ?_)
                · omega
                · refine z_iload_n C dX6_reach_31 rfl ?_
                  refine z_iload C dX6_reach_32 rfl ?_
                  refine z_iconst C dX6_reach_34 ?_
                  refine z_idiv C dX6_reach_35 (by omega) ?_
                  rw [← hd4]
                  refine z_ishr C (z / ((2 ^ (k / 4) : Nat) : Int)) (J_ishr (k / 4) (by omega) (by omega) (by omega)) dX6_reach_36 ?_
                  refine z_iconst C dX6_reach_37 ?_
                  refine z_iand C (z / ((2 ^ (k / 4) : Nat) : Int) % 2) (J_and _ 1 (by decide) (by decide)) dX6_reach_38 ?_
                  refine z_iconst C dX6_reach_39 ?_
                  refine z_icmp_ne (tgt := 77) C dX6_reach_40 (by decide) (by omega) (fun g4 => ?_) (fun g4 => ?_)
                  · exact no (by rw [show bitB z (k / 4) = false from decide_eq_false g4]; rfl) _ (by exact ⟨rfl, rfl, rfl, rfl, trivial⟩)
                  · have hb : bitB z (k / 4) = true := decide_eq_true g4
                    refine z_aload_n C dX6_reach_43 rfl ?_
                    refine z_iload C dX6_reach_44 rfl ?_
                    refine z_iconst C dX6_reach_46 ?_
                    refine z_idiv C dX6_reach_47 (by omega) ?_
                    refine z_iload C dX6_reach_48 rfl ?_
                    refine z_iconst C dX6_reach_50 ?_
                    refine z_irem C dX6_reach_51 (by omega) ?_
                    rw [← hd4, ← hm4]
                    refine z_callV C (c_names6 w (k / 4) (k % 4) nb (by omega) (by omega) (hNb _ (by omega)) (hnb _ (by omega)) hm) qM_X6_138 dX6_reach_52 rfl (zRc_o hm.1.1) (fun _ _ h => h.elim) ?_
                    rintro v μ2 ⟨rfl, rfl⟩
                    have z1 := zB_in (nmS nb (k / 4) (k % 4))
                    refine z_if_eq (tgt := 77) C dX6_reach_55 (by decide) (by omega) (fun g5 => ?_) (fun g5 => ?_)
                    · exact no (by rw [zB_eq.mp g5, hb]; rfl) _ (by exact ⟨rfl, rfl, rfl, rfl, trivial⟩)
                    · have hn1 : nmS nb (k / 4) (k % 4) = true := by cases h : nmS nb (k / 4) (k % 4) with | true => rfl | false => exact absurd (zB_eq.mpr h) g5
                      refine z_aload_n C dX6_reach_58 rfl ?_
                      refine z_iload C dX6_reach_59 rfl ?_
                      refine z_iconst C dX6_reach_61 ?_
                      refine z_irem C dX6_reach_62 (by omega) ?_
                      refine z_iload C dX6_reach_63 rfl ?_
                      refine z_iconst C dX6_reach_65 ?_
                      refine z_idiv C dX6_reach_66 (by omega) ?_
                      rw [← hd4, ← hm4]
                      refine z_callV C (c_names6 w (k % 4) (k / 4) nb (by omega) (by omega) (hNb _ (by omega)) (hnb _ (by omega)) hm) qM_X6_138 dX6_reach_67 rfl (zRc_o hm.1.1) (fun _ _ h => h.elim) ?_
                      rintro v μ3 ⟨rfl, rfl⟩
                      have z2 := zB_in (nmS nb (k % 4) (k / 4))
                      refine z_if_eq (tgt := 77) C dX6_reach_70 (by decide) (by omega) (fun g6 => ?_) (fun g6 => ?_)
                      · exact no (by rw [zB_eq.mp g6, hb]; simp) _ (by exact ⟨rfl, rfl, rfl, rfl, trivial⟩)
                      · have hn2 : nmS nb (k % 4) (k / 4) = true := by cases h : nmS nb (k % 4) (k / 4) with | true => rfl | false => exact absurd (zB_eq.mpr h) g6
                        refine z_iconst C dX6_reach_73 ?_
                        refine z_goto (tgt := 78) C dX6_reach_74 (by decide) ?_
                        refine z_istore C dX6_reach_78 ?_
                        refine z_iload_n C dX6_reach_80 rfl ?_
                        refine z_iload C dX6_reach_81 rfl ?_
                        refine z_if_eq (tgt := 95) C dX6_reach_83 (by decide) (by omega) (fun g7 => ?_) (fun g7 => ?_)
                        · exact absurd g7 (by decide)
                        · refine z_iconst C dX6_reach_86 ?_
                          refine z_iload C dX6_reach_87 rfl ?_
                          refine z_iconst C dX6_reach_89 ?_
                          refine z_irem C dX6_reach_90 (by omega) ?_
                          rw [← hm4]
                          have p2 : (2 : Nat) ^ (k % 4) ≤ 2 ^ 3 := Nat.pow_le_pow_right (by decide) (by omega)
                          refine z_ishl C (1 * ((2 ^ (k % 4) : Nat) : Int)) (J_ishl (k % 4) (by omega) (by omega) (by omega)) dX6_reach_91 ?_
                          rw [Int.one_mul]
                          refine z_goto (tgt := 96) C dX6_reach_92 (by decide) ?_
                          have hor := orB_J hz (o := k % 4) (by omega)
                          refine z_ior C (orB z (k % 4)) hor.1 dX6_reach_96 ?_
                          exact fin2 _ hor.2 (by rw [hn1, hn2, hb]; rfl) _ (by exact ⟨rfl, rfl, rfl, trivial⟩)
            refine z_iconst C dX6_reach_21 ?_
            refine z_istore C dX6_reach_22 ?_
            exact z_ls _ (by exact ⟨rfl, rfl, rfl, rfl, trivial⟩) (inner 16 0 z rfl hz hv)
      refine z_istore_n C dX6_reach_13 ?_
      refine z_iconst C dX6_reach_14 ?_
      refine z_istore_n C dX6_reach_15 ?_
      exact z_ls _ (by exact ⟨rfl, rfl, rfl, trivial⟩) (outer 4 0 _ rfl h2 hV)
    · exact absurd g (by decide)
  · rw [if_neg ha] at hm
    rw [decide_eq_false ha, show zB false = 0 from rfl]
    refine z_if_ne (tgt := 10) C dX6_reach_5 (by decide) (by omega) (fun g => ?_) (fun g => ?_)
    · exact absurd rfl g
    · refine z_iconst C dX6_reach_8 ?_
      refine z_iret C dX6_reach_9 ?_
      rw [hr, spReach, if_pos ha]
      exact ⟨⟨_, rfl, fun h => by cases h⟩, ⟨A, hm, hI, hRu, hRs, hNb, hTr, h9⟩, hF⟩
end MOI
