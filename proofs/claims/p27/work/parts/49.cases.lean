/-! THE LAW'S CASES, each from its own pc to 583 -/
/-- an array of the law's own -/
def arS (μ : Mem) (G : Nat → Nat) (a : Nat) : Prop := μ.1 a = some (20, 2) ∧ ∀ m, m < 24 → a ≠ G m
theorem arS_own {μ : Mem} {G : Nat → Nat} {a x : Nat} (h : arS μ G a) (hx : own μ G x) : x ≠ a := by
  rintro rfl
  rcases hx with ⟨m, hm, e⟩ | ⟨t, n, h1, h2, h3⟩
  · exact h.2 m hm e
  · rw [h.1] at h1
    cases h1
    omega
/-- made and ruled -/
def aS (μ : Mem) (G : Nat → Nat) (am ar : Nat) (m r : Int → Int) : Prop := arS μ G am ∧ arS μ G ar ∧ am ≠ ar ∧ μ.2.2.2.1 am = m ∧ μ.2.2.2.1 ar = r
theorem aS_Fc {μ μ' : Mem} {G : Nat → Nat} {am ar : Nat} {m r : Int → Int} (h : aS μ G am ar m r) (hF : Fc μ μ' G) : aS μ' G am ar m r := by
  obtain ⟨h1, h2, h3, h4, h5⟩ := h
  have f1 := hF am ⟨⟨20, 2, h1.1, by decide⟩, h1.2⟩
  have f2 := hF ar ⟨⟨20, 2, h2.1, by decide⟩, h2.2⟩
  exact ⟨⟨f1.1.trans h1.1, h1.2⟩, ⟨f2.1.trans h2.1, h2.2⟩, h3, f1.2.2.2.1.trans h4, f2.2.2.2.1.trans h5⟩
theorem aS_m {μ : Mem} {G : Nat → Nat} {am ar : Nat} {m r : Int → Int} (h : aS μ G am ar m r) (i v : Int) : aS (sA μ am i v) G am ar (uI m i v) r := by
  obtain ⟨h1, h2, h3, h4, h5⟩ := h
  refine ⟨h1, h2, h3, ?_, ?_⟩
  · rw [← h4]
    exact u2_e _ _ _ _
  · rw [← h5]
    exact u2_af _ _ _ (fun e => h3 e.symm)
theorem aS_r {μ : Mem} {G : Nat → Nat} {am ar : Nat} {m r : Int → Int} (h : aS μ G am ar m r) (i v : Int) : aS (sA μ ar i v) G am ar m (uI r i v) := by
  obtain ⟨h1, h2, h3, h4, h5⟩ := h
  refine ⟨h1, h2, h3, ?_, ?_⟩
  · rw [← h4]
    exact u2_af _ _ _ h3
  · rw [← h5]
    exact u2_e _ _ _ _
theorem Rc_sA {μ : Mem} {G : Nat → Nat} {s : Sg} {a : Nat} {i v : Int} (h : Rc μ G s) (ha : arS μ G a) : Rc (sA μ a i v) G s := Rc_sm h (fun x hx => sm_A (arS_own ha hx))
theorem kk_hide {N : Int} {s : Sg} (h : okS N s) (a m : Int) (hrn : ∀ j, j < 4 → 0 ≤ (spHide a m s).2.2.2.2.2.2.2.1 j ∧ (spHide a m s).2.2.2.2.2.2.2.1 j ≤ 10) : okS N (spHide a m s).2.2 := by
  obtain ⟨q, clk, dm, ob, ru, rn, rs, nb, tr⟩ := s
  exact k_hide h a m hrn
abbrev lcN (b g am ar : Nat) (c T : Int) (j : Nat) (t0 : Int) : List (Nat × Value) := [(0, .ref b), (1, .ref g), (2, .ref am), (3, .ref ar), (4, .int (J c)), (5, .int (J T)), (9, .int (J (j : Int))), (10, .int (J 1)), (11, .int (J t0))]
abbrev lcC (b g am ar : Nat) (c T v wt : Int) (j : Nat) (t0 ze : Int) : List (Nat × Value) := [(0, .ref b), (1, .ref g), (2, .ref am), (3, .ref ar), (4, .int (J c)), (5, .int (J T)), (6, .int (J v)), (8, .int (J wt)), (9, .int (J (j : Int))), (10, .int (J 1)), (11, .int (J t0)), (12, .int (J ze))]
/-- behind the case -/
def hNx (w : Wd) (x : Zc) (Q : State → Prop) (b : Nat) (G : Nat → Nat) (am ar : Nat) (T : Int) (j : Nat) (t0 : Int) (k n : Nat) : Prop := ∀ (μ' : Mem) (s' : Sg) (m' r' : Int → Int) (c' : Int) (ls : List (Nat × Value)) (k' n' : Nat), zsub ls (lcN b (G 0) am ar c' T j t0) → Rc μ' G s' → aS μ' G am ar m' r' → lJ m' r' c' (T + 1) s' → t0 ≤ trL s' → k' ≤ k + 100 → n' ≤ n + 3100 → Z w x Q 14 583 ls [] μ' k' n'
section CASES
variable {w : Wd} {x : Zc} {rt : Option FieldType} {nm : String} {Q : State → Prop} {b : Nat} {G : Nat → Nat} {am ar : Nat} {m r : Int → Int} {c T t0 v wt ze : Int} {k n j : Nat} {μ : Mem} {q clk : Int} {dm : Nat → List Int} {ob : Nat → Int → Ob} {ru : Nat → Int → Int} {rn rs : Nat → Int} {nb : Nat → Int → Int} {tr : List Trp}
theorem l_put (C : Cx w x cL_law 14 RL rt room_1 nm) (hj : j < 2) (hR : Rc μ G (q, clk, dm, ob, ru, rn, rs, nb, tr)) (hA : aS μ G am ar m r) (hJ : lJ m r c T (q, clk, dm, ob, ru, rn, rs, nb, tr)) (hT : 0 ≤ T ∧ T < 70) (ht : t0 ≤ trL (q, clk, dm, ob, ru, rn, rs, nb, tr)) (hz1 : ze = 0 → q ≠ 0) (hz2 : ze = 0 ∨ ze = 1) (hk : k + 100 ≤ 600130) (hn : n + 3100 ≤ 7301080) (next : hNx w x Q b G am ar T j t0 k n) : Z w x Q 14 107 (lcC b (G 0) am ar c T v wt j t0 ze) [] μ k n := by
  obtain ⟨A1, A2, A3, A4, A5⟩ := id hA
  have tA := A1.1
  have hm9 := (hJ.2.2.1 j hj).1
  refine z_iload C dL_law_107 rfl ?_
  refine z_if_ne (tgt := 583) C dL_law_109 (by decide) (by omega) (fun g => ?_) (fun g => ?_)
  · exact next _ _ _ _ _ _ _ _ (by exact ⟨rfl, rfl, rfl, rfl, rfl, rfl, rfl, rfl, rfl, trivial⟩) hR hA (lJ_up hJ ⟨by omega, by omega⟩) ht (by omega) (by omega)
  · have hq0 := hz1 g
    refine z_aload_n C dL_law_112 rfl ?_
    refine z_iload C dL_law_113 rfl ?_
    refine z_iaload (N := 2) C dL_law_115 tA ⟨by omega, by omega, by omega⟩ ?_
    rw [A4]
    refine z_bipush C dL_law_116 ?_
    refine z_icmp_ge (tgt := 583) C dL_law_118 (by decide) (by omega) (fun g2 => ?_) (fun g2 => ?_)
    · exact next _ _ _ _ _ _ _ _ (by exact ⟨rfl, rfl, rfl, rfl, rfl, rfl, rfl, rfl, rfl, trivial⟩) hR hA (lJ_up hJ ⟨by omega, by omega⟩) ht (by omega) (by omega)
    · refine z_aload_n C dL_law_121 rfl ?_
      refine z_iload C dL_law_122 rfl ?_
      refine z_dup2 C dL_law_124 ?_
      refine z_iaload (N := 2) C dL_law_125 tA ⟨by omega, by omega, by omega⟩ ?_
      rw [A4]
      refine z_iconst C dL_law_126 ?_
      refine z_iadd C dL_law_127 ?_
      refine z_iastore (N := 2) C dL_law_128 tA ⟨by omega, by omega, by omega⟩ ?_
      obtain ⟨hJ1, hl1⟩ := lJ_inc hJ hj (by omega)
      have hR1 : Rc (sA μ am (j : Int) (m (j : Int) + 1)) G (q, clk, dm, ob, ru, rn, rs, nb, tr) := Rc_sA hR A1
      have hA1 := aS_m hA (j : Int) (m (j : Int) + 1)
      obtain ⟨μ1, hμ1⟩ : ∃ μ1, μ1 = sA μ am (j : Int) (m (j : Int) + 1) := ⟨_, rfl⟩
      rw [← hμ1] at hR1 hA1 ⊢
      obtain ⟨m1, hm1⟩ : ∃ m1, m1 = uI m (j : Int) (m (j : Int) + 1) := ⟨_, rfl⟩
      rw [← hm1] at hJ1 hl1 hA1
      have hm8 := (hJ1.2.2.1 j hj).1
      have hf := List.length_filter_le (fun z => !decide (z = q)) (dm j)
      refine z_aload_n C dL_law_129 rfl ?_
      refine z_iload C dL_law_130 rfl ?_
      have vk := vK_in hJ1.1 (show j < 4 by omega)
      refine z_lawV C (cM_v (c_remove2 w μ1 G T (q, clk, dm, ob, ru, rn, rs, nb, tr) (j : Int) hR1 hJ1.1 ⟨by omega, by omega⟩) (e_rem (by omega))) qM_L_64 dL_law_132 rfl (zRc_o (Rc_g0 hR1)) (fun r2 μ2 h => ?_)
      obtain ⟨rfl, hR2, hF2⟩ := h
      have hA2 := aS_Fc hA1 hF2
      have hJ2 := lJ_rem hJ1 hj
      refine z_iconst C dL_law_135 ?_
      refine z_icmp_lt (tgt := 173) C dL_law_136 (by decide) (by omega) (fun g3 => ?_) (fun g3 => ?_)
      · omega
      · refine z_aload_n C dL_law_139 rfl ?_
        refine z_iload C dL_law_140 rfl ?_
        refine z_iload C dL_law_142 rfl ?_
        refine z_bipush C dL_law_144 ?_
        obtain ⟨kdz, kde, -⟩ := J_shrA (J v) (J 16)
        refine z_ishr C kdz kde dL_law_146 ?_
        refine z_iconst C dL_law_147 ?_
        refine z_lawS C (c_low w μ2 kdz 2 (by decide)) qM_L_14 dL_law_148 rfl (fun rvkd μkd h => ?_)
        obtain ⟨⟨kd, rfl, hkd⟩, h⟩ := h
        rw [h]
        clear h kde
        refine z_iload C dL_law_151 rfl ?_
        refine z_bipush C dL_law_153 ?_
        obtain ⟨vvz, vve, -⟩ := J_shrA (J v) (J 6)
        refine z_ishr C vvz vve dL_law_155 ?_
        refine z_sipush C dL_law_156 ?_
        refine z_lawS C (c_low w μ2 vvz 1000 (by decide)) qM_L_14 dL_law_159 rfl (fun rvvv μvv h => ?_)
        obtain ⟨⟨vv, rfl, hvv⟩, h⟩ := h
        rw [h]
        clear h vve
        have hq2 : q ∉ (u1 dm j ((dm j).filter (fun z => !decide (z = q)))) j := by
          rw [u1_s]
          exact gone _
        have hl2 : ((u1 dm j ((dm j).filter (fun z => !decide (z = q)))) j).length ≤ 19 := by
          rw [u1_s]
          omega
        have hl3 : (((u1 dm j ((dm j).filter (fun z => !decide (z = q)))) j).length : Int) + 1 ≤ m1 (j : Int) := by
          rw [u1_s]
          omega
        refine z_lawV C (cM_v (c_put w μ2 G T _ (j : Int) kd vv hR2 hJ2.1 ⟨by omega, by omega⟩ ⟨by omega, by omega⟩ ⟨by omega, by omega⟩) (e_put (by omega) (by omega) (by omega) hq0 hq2 hl2)) qM_L_67 dL_law_162 rfl (zRc_o (Rc_g0 hR2)) (fun r3 μ3 h => ?_)
        obtain ⟨rfl, hR3, hF3⟩ := h
        have hJ3 := lJ_put (kd := kd) (v := vv) hJ2 hj (by omega) (by omega) hq0 hq2 hl3
        refine z_iconst C dL_law_165 ?_
        refine z_icmp_ne (tgt := 173) C dL_law_166 (by decide) (by omega) (fun g4 => ?_) (fun g4 => ?_)
        · exact absurd rfl g4
        · refine z_iconst C dL_law_169 ?_
          refine z_goto (tgt := 174) C dL_law_170 (by decide) ?_
          refine z_istore C dL_law_174 ?_
          refine z_goto (tgt := 583) C dL_law_176 (by decide) ?_
          exact next _ _ _ _ _ _ _ _ (by exact ⟨rfl, rfl, rfl, rfl, rfl, rfl, rfl, rfl, rfl, trivial⟩) hR3 (aS_Fc hA2 hF3) (lJ_up hJ3 ⟨by omega, by omega⟩) ht (by omega) (by omega)
theorem l_rem (C : Cx w x cL_law 14 RL rt room_1 nm) (hj : j < 2) (hR : Rc μ G (q, clk, dm, ob, ru, rn, rs, nb, tr)) (hA : aS μ G am ar m r) (hJ : lJ m r c T (q, clk, dm, ob, ru, rn, rs, nb, tr)) (hT : 0 ≤ T ∧ T < 70) (ht : t0 ≤ trL (q, clk, dm, ob, ru, rn, rs, nb, tr)) (hk : k + 100 ≤ 600130) (hn : n + 3100 ≤ 7301080) (next : hNx w x Q b G am ar T j t0 k n) : Z w x Q 14 185 (lcC b (G 0) am ar c T v wt j t0 ze) [] μ k n := by
  refine z_aload_n C dL_law_185 rfl ?_
  refine z_iload C dL_law_186 rfl ?_
  refine z_lawV C (cM_v (c_remove2 w μ G T (q, clk, dm, ob, ru, rn, rs, nb, tr) (j : Int) hR hJ.1 ⟨by omega, by omega⟩) (e_rem (by omega))) qM_L_64 dL_law_188 rfl (zRc_o (Rc_g0 hR)) (fun r2 μ2 h => ?_)
  obtain ⟨rfl, hR2, hF2⟩ := h
  have hJ2 := lJ_rem hJ hj
  have hq2 : q ∉ (u1 dm j ((dm j).filter (fun z => !decide (z = q)))) j := by
    rw [u1_s]
    exact gone _
  refine z_pop C dL_law_191 ?_
  refine z_aload_n C dL_law_192 rfl ?_
  refine z_iload C dL_law_193 rfl ?_
  refine z_lawV C (cM_v (c_get2 w μ2 G T _ (j : Int) hR2 hJ2.1 ⟨by omega, by omega⟩) (e_gone (by omega) hq2)) qM_L_40 dL_law_195 rfl (zRc_o (Rc_g0 hR2)) (fun r3 μ3 h => ?_)
  obtain ⟨rfl, hR3, hF3⟩ := h
  refine z_iconst C dL_law_198 ?_
  refine z_icmp_ne (tgt := 206) C dL_law_199 (by decide) (by omega) (fun g4 => ?_) (fun g4 => ?_)
  · exact absurd rfl g4
  · refine z_iconst C dL_law_202 ?_
    refine z_goto (tgt := 207) C dL_law_203 (by decide) ?_
    refine z_istore C dL_law_207 ?_
    refine z_goto (tgt := 583) C dL_law_209 (by decide) ?_
    exact next _ _ _ _ _ _ _ _ (by exact ⟨rfl, rfl, rfl, rfl, rfl, rfl, rfl, rfl, rfl, trivial⟩) hR3 (aS_Fc (aS_Fc hA hF2) hF3) (lJ_up hJ2 ⟨by omega, by omega⟩) ht (by omega) (by omega)
theorem l_hide (C : Cx w x cL_law 14 RL rt room_1 nm) (hj : j < 2) (hR : Rc μ G (q, clk, dm, ob, ru, rn, rs, nb, tr)) (hA : aS μ G am ar m r) (hJ : lJ m r c T (q, clk, dm, ob, ru, rn, rs, nb, tr)) (hT : 0 ≤ T ∧ T < 70) (ht : t0 ≤ trL (q, clk, dm, ob, ru, rn, rs, nb, tr)) (hk : k + 100 ≤ 600130) (hn : n + 3100 ≤ 7301080) (next : hNx w x Q b G am ar T j t0 k n) : Z w x Q 14 219 (lcC b (G 0) am ar c T v wt j t0 ze) [] μ k n := by
  obtain ⟨A1, A2, A3, A4, A5⟩ := id hA
  have tA := A2.1
  have hr9 := (hJ.2.2.1 j hj).2
  have hru := ((hJ.1.2.2.2.1 j (by omega)).2.2.2.1 q).1
  have go : ∀ h : Int, 0 ≤ h ∧ h < 3 → (h ≠ 0 → r (j : Int) < 10) → Z w x Q 14 241 (lcC b (G 0) am ar c T v wt j t0 ze) [.int (J h)] μ k n := by
    intro h hh hn10
    have fin : ∀ (z : Int) (ls : List (Nat × Value)), z = nz h → zsub ls (lcC b (G 0) am ar c T v wt j t0 ze ++ [(13, .int (J h))]) → Z w x Q 14 258 ls [.int (J z), .int (J (r (j : Int))), .int (J (j : Int)), .ref ar] μ k n := by
      intro z ls hz hls
      rw [hz]
      refine z_ls _ hls ?_
      refine z_iadd C dL_law_258 ?_
      refine z_iastore (N := 2) C dL_law_259 tA ⟨by omega, by omega, by omega⟩ ?_
      have hR1 : Rc (sA μ ar (j : Int) (r (j : Int) + nz h)) G (q, clk, dm, ob, ru, rn, rs, nb, tr) := Rc_sA hR A2
      have hA1 := aS_r hA (j : Int) (r (j : Int) + nz h)
      obtain ⟨μ1, hμ1⟩ : ∃ μ1, μ1 = sA μ ar (j : Int) (r (j : Int) + nz h) := ⟨_, rfl⟩
      rw [← hμ1] at hR1 hA1 ⊢
      refine z_aload_n C dL_law_260 rfl ?_
      refine z_iload C dL_law_261 rfl ?_
      refine z_iload C dL_law_263 rfl ?_
      have e1 := e_hide (q := q) (clk := clk) (dm := dm) (ob := ob) (ru := ru) (rn := rn) (rs := rs) (nb := nb) (tr := tr) (h := h) (show j < 4 by omega) (by omega) (fun h0 => Or.inl (by have := hn10 h0; omega))
      refine z_lawV C (cM_v (c_hide w μ1 G T (q, clk, dm, ob, ru, rn, rs, nb, tr) (j : Int) h hR1 hJ.1 ⟨by omega, by omega⟩ ⟨by omega, by omega⟩) e1) qM_L_71 dL_law_265 rfl (zRc_o (Rc_g0 hR1)) (fun r2 μ2 h2 => ?_)
      obtain ⟨rfl, hR2, hF2⟩ := h2
      have hk2 : okS T (hdS h j (q, clk, dm, ob, ru, rn, rs, nb, tr)) := by
        have := k_hide hJ.1 (j : Int) h (by rw [e1]; exact Rc_rn hR2)
        rw [e1] at this
        exact this
      refine z_if_lt (tgt := 288) C dL_law_268 (by decide) (by omega) (fun g3 => ?_) (fun g3 => ?_)
      · omega
      · refine z_aload_n C dL_law_271 rfl ?_
        refine z_iload C dL_law_272 rfl ?_
        refine z_iload C dL_law_274 rfl ?_
        have e2 := e_hide2 (q := q) (clk := clk) (dm := dm) (ob := ob) (ru := ru) (rn := rn) (rs := rs) (nb := nb) (tr := tr) (h := h) (show j < 4 by omega) (by omega)
        refine z_lawV C (cM_v (c_hide w μ2 G T _ (j : Int) h hR2 hk2 ⟨by omega, by omega⟩ ⟨by omega, by omega⟩) e2) qM_L_71 dL_law_276 rfl (zRc_o (Rc_g0 hR2)) (fun r3 μ3 h2 => ?_)
        obtain ⟨rfl, hR3, hF3⟩ := h2
        have hk3 : okS T (hdS h j (hdS h j (q, clk, dm, ob, ru, rn, rs, nb, tr))) := by
          have := kk_hide hk2 (j : Int) h (by rw [e2]; exact Rc_rn hR3)
          rw [e2] at this
          exact this
        have hJ3 := lJ_hide hJ hj (h := h) (by omega) hn10 hk3
        refine z_iload C dL_law_279 rfl ?_
        refine z_icmp_ne (tgt := 288) C dL_law_281 (by decide) (by omega) (fun g4 => ?_) (fun g4 => ?_)
        · exact absurd rfl g4
        · refine z_iconst C dL_law_284 ?_
          refine z_goto (tgt := 289) C dL_law_285 (by decide) ?_
          refine z_istore C dL_law_289 ?_
          refine z_goto (tgt := 583) C dL_law_291 (by decide) ?_
          exact next _ _ _ _ _ _ _ _ (by exact ⟨rfl, rfl, rfl, rfl, rfl, rfl, rfl, rfl, rfl, trivial⟩) hR3 (aS_Fc (aS_Fc hA1 hF2) hF3) (lJ_up hJ3 ⟨by omega, by omega⟩) ht (by omega) (by omega)
    refine z_istore C dL_law_241 ?_
    refine z_aload_n C dL_law_243 rfl ?_
    refine z_iload C dL_law_244 rfl ?_
    refine z_dup2 C dL_law_246 ?_
    refine z_iaload (N := 2) C dL_law_247 tA ⟨by omega, by omega, by omega⟩ ?_
    rw [A5]
    refine z_iload C dL_law_248 rfl ?_
    refine z_if_le (tgt := 257) C dL_law_250 (by decide) (by omega) (fun g => ?_) (fun g => ?_)
    · refine z_iconst C dL_law_257 ?_
      have e : nz h = 0 := by
        unfold nz
        rw [if_neg (by omega)]
      exact fin 0 _ e.symm (by exact ⟨rfl, rfl, rfl, rfl, rfl, rfl, rfl, rfl, rfl, rfl, rfl, rfl, rfl, trivial⟩)
    · refine z_iconst C dL_law_253 ?_
      have e : nz h = 1 := by
        unfold nz
        rw [if_pos (by omega)]
      refine z_goto (tgt := 258) C dL_law_254 (by decide) ?_
      exact fin 1 _ e.symm (by exact ⟨rfl, rfl, rfl, rfl, rfl, rfl, rfl, rfl, rfl, rfl, rfl, rfl, rfl, trivial⟩)
  refine z_aload_n C dL_law_219 rfl ?_
  refine z_iload C dL_law_220 rfl ?_
  refine z_iaload (N := 2) C dL_law_222 tA ⟨by omega, by omega, by omega⟩ ?_
  rw [A5]
  refine z_bipush C dL_law_223 ?_
  refine z_icmp_ge (tgt := 240) C dL_law_225 (by decide) (by omega) (fun g2 => ?_) (fun g2 => ?_)
  · refine z_iconst C dL_law_240 ?_
    exact go 0 (by decide) (fun h => absurd rfl h)
  · refine z_iload C dL_law_228 rfl ?_
    refine z_bipush C dL_law_230 ?_
    obtain ⟨hoz, hoe, -⟩ := J_shrA (J v) (J 6)
    refine z_ishr C hoz hoe dL_law_232 ?_
    refine z_iconst C dL_law_233 ?_
    refine z_lawS C (c_low w μ hoz 3 (by decide)) qM_L_14 dL_law_234 rfl (fun rvho μho h => ?_)
    obtain ⟨⟨ho, rfl, hho⟩, h⟩ := h
    rw [h]
    clear h hoe
    refine z_goto (tgt := 241) C dL_law_237 (by decide) ?_
    exact go ho hho (fun _ => by omega)
end CASES
