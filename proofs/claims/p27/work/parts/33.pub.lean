/-! the public calls, over the state -/
def okP (G : Nat → Nat) (μ : Mem) (r : Rs) (v : Option Value) (μ' : Mem) : Prop := r.1 = 0 ∧ v = some (.int (J r.2.1)) ∧ Rc μ' G r.2.2 ∧ Fc μ μ' G
def erP (G : Nat → Nat) (μ : Mem) (r : Rs) (el : List (String × Int)) (E : String) (μ' : Mem) : Prop := (E, r.1) ∈ el ∧ Rc μ' G r.2.2 ∧ Fc μ μ' G
theorem ln16_in (p : Int) : 0 ≤ ln16 p ∧ ln16 p ≤ 4 := by
  unfold ln16
  split
  · omega
  split
  · omega
  split
  · omega
  split <;> omega
section PUB
variable {μ : Mem} {G : Nat → Nat} {N q clk : Int} {dm : Nat → List Int} {ob : Nat → Int → Ob} {ru : Nat → Int → Int} {rn rs : Nat → Int} {nb : Nat → Int → Int} {tr : List Trp}
/-- agent j's items, as the methods ask for them -/
theorem Rc_its (h : Rc μ G (q, clk, dm, ob, ru, rn, rs, nb, tr)) (ho : okS N (q, clk, dm, ob, ru, rn, rs, nb, tr)) {j : Nat} (hj : j < 4) : itS μ (μ.2.2.2.2.2 (gL G j)) ∧ (μ.2.2.2.2.2 (gL G j)).length ≤ 20 ∧ ruS μ (gP G j) (gU G j) := by
  obtain ⟨h1, h2, h3, h4, h5, h6, h7, h8, h9, h10, h11, h12⟩ := h
  obtain ⟨o1, o2, o3, o4, o5⟩ := ho
  obtain ⟨j1, j2, j3, j4, -⟩ := o4 j hj
  have hlen := pIt_len (h5 j hj)
  refine ⟨⟨(h5 j hj).1, by omega, fun y hy => ?_⟩, by omega, fun t => ?_⟩
  · have := (j3 _ ((pIt_mem (h5 j hj)).mpr ⟨y, hy, rfl⟩)).1.1
    exact this
  · exact (h7 j hj).1 t
theorem Rc_hid (h : Rc μ G (q, clk, dm, ob, ru, rn, rs, nb, tr)) {j : Nat} (hj : j < 4) (p : Int) : hid16 (μ.2.2.2.1 (gU G j)) (μ.2.2.2.1 (gP G j)) p = hidK (ru j) p := by
  obtain ⟨h1, h2, h3, h4, h5, h6, h7, -⟩ := h
  exact hidK_of (h7 j hj).2.2.1 p
/-- the item at q and its value -/
theorem Rc_at (h : Rc μ G (q, clk, dm, ob, ru, rn, rs, nb, tr)) {j : Nat} (hj : j < 4) {r : Option Nat} (hr : isAt μ (μ.2.2.2.2.2 (gL G j)) q r) : vOf μ r = vK (dm j) (ob j) q ∧ (r = none ↔ q ∉ dm j) ∧ (∀ y, r = some y → y ∈ μ.2.2.2.2.2 (gL G j) ∧ μ.2.1 1 0 y = q ∧ itm μ.1 (μ.2.1 1) (μ.2.1 2) (μ.2.1 3) (μ.2.2.1 1) y (ob j q) ∧ ∃ n0, μ.1 y = some (1, n0)) := by
  obtain ⟨h1, h2, h3, h4, h5, h6, h7, -⟩ := h
  have hm := pIt_mem (h5 j hj) (k := q)
  cases r with
  | none =>
    have hn : q ∉ dm j := fun h => by
      obtain ⟨y, hy, e⟩ := hm.mp h
      exact hr y hy e
    exact ⟨by rw [vK, if_neg hn]; rfl, ⟨fun _ => hn, fun _ => rfl⟩, fun y h => by cases h⟩
  | some y =>
    obtain ⟨hy, e⟩ := hr
    have hn : q ∈ dm j := hm.mpr ⟨y, hy, e⟩
    have hi := (h5 j hj).2.2 y hy
    have e' : μ.2.1 1 0 y = q := e
    rw [e'] at hi
    refine ⟨?_, ⟨fun h => by (cases h), fun h => absurd hn h⟩, fun z hz => ?_⟩
    · rw [vK, if_pos hn]
      exact hi.2.1
    · cases hz
      exact ⟨hy, e, hi, (h5 j hj).1 y hy⟩
/-- the next item -/
theorem Rc_nx (h : Rc μ G (q, clk, dm, ob, ru, rn, rs, nb, tr)) {j : Nat} (hj : j < 4) {p : Int} {r : Option Nat} (hr : isNx μ (μ.2.2.2.1 (gU G j)) (μ.2.2.2.1 (gP G j)) (μ.2.2.2.2.2 (gL G j)) p r) : nx (dm j) (ru j) p = r.map (μ.2.1 1 0) ∧ (∀ y, r = some y → μ.2.1 1 2 y = (ob j (μ.2.1 1 0 y)).2.1 ∧ ∃ n0, μ.1 y = some (1, n0)) := by
  have hh := Rc_hid h hj
  obtain ⟨h1, h2, h3, h4, h5, h6, h7, -⟩ := h
  cases r with
  | none =>
    refine ⟨nxt_none (fun k hk hc => ?_), fun y h => by cases h⟩
    obtain ⟨y, hy, rfl⟩ := (pIt_mem (h5 j hj)).mp hk
    refine hr y hy ⟨hc.1, ?_⟩
    rw [hh]
    have := hc.2
    simpa using this
  | some y =>
    obtain ⟨r1, r2, r3, r4⟩ := hr
    refine ⟨nxt_some ((pIt_mem (h5 j hj)).mpr ⟨y, r1, rfl⟩) r2 (by rw [← hh, r3]; rfl) (fun z hz g1 g2 => ?_), fun z hz => ?_⟩
    · obtain ⟨x, hx, rfl⟩ := (pIt_mem (h5 j hj)).mp hz
      refine r4 x hx g1 ?_
      rw [hh]
      simpa using g2
    · cases hz
      exact ⟨((h5 j hj).2.2 y r1).2.1, (h5 j hj).1 y r1⟩
end PUB
theorem c_wipe (w : Wd) (μ : Mem) (G : Nat → Nat) (N : Int) (s : Sg) (hR : Rc μ G s) (hO : okS N s) : cM w yX5_wipe cX5_wipe 2 (some .int) 10 0 0 [.ref (G 0)] μ (okP G μ (spWipe s)) (fun _ _ => False) := by
  obtain ⟨q, clk, dm, ob, ru, rn, rs, nb, tr⟩ := s
  have hS := hR.1
  have hq : μ.2.1 5 3 (G 0) = q := hR.2.2.1
  have hqi := hO.2.1.1
  have g0 := hS.1.1
  refine cM_of (fun x C => ?_)
  refine z_aload_n C dX5_wipe_0 rfl ?_
  refine z_geti C qF_X5_26 dX5_wipe_1 (by assumption) ?_
  rw [hq]
  refine z_callS C (c_lengthOf w μ q hqi) qM_X5_40 dX5_wipe_4 rfl (fun _ _ h => h.elim) ?_
  rintro v μ2 ⟨rfl, rfl⟩
  refine z_istore_n C dX5_wipe_7 ?_
  refine z_aload_n C dX5_wipe_8 rfl ?_
  refine z_iconst C dX5_wipe_9 ?_
  refine z_puti C qF_X5_26 qW_5_3 dX5_wipe_10 (by assumption) ?_
  refine z_iload_n C dX5_wipe_13 rfl ?_
  exact z_iret C dX5_wipe_14 ⟨rfl, rfl, (Rc_q hR 0).1, (Rc_q hR 0).2⟩
theorem c_numberAt (w : Wd) (μ : Mem) (G : Nat → Nat) (N : Int) (s : Sg) (i : Int) (hR : Rc μ G s) (hO : okS N s) (hi : in32 i) : cM w yX5_numberAt cX5_numberAt 3 (some .int) 9 2 20 [.ref (G 0), .int (J i)] μ (okP G μ (spNum i s)) (erP G μ (spNum i s) [(eX, 1)]) := by
  obtain ⟨q, clk, dm, ob, ru, rn, rs, nb, tr⟩ := s
  have hS := hR.1
  have hq : μ.2.1 5 3 (G 0) = q := hR.2.2.1
  have hqi := hO.2.1.1
  have g0 := hS.1.1
  obtain ⟨i1, i2⟩ := hi
  obtain ⟨r, hr⟩ : ∃ r, r = spNum i (q, clk, dm, ob, ru, rn, rs, nb, tr) := ⟨_, rfl⟩
  rw [← hr]
  refine cM_of (fun x C => ?_)
  have bad : ¬ (0 ≤ i ∧ i ≤ 3) → Z w x (zQ w x (okP G μ r) (erP G μ r [(eX, 1)]) 2 20) 3 9 [(0, .ref (G 0)), (1, .int (J i))] [] μ 0 0 := fun h => z_throw C qT_X qS_54 dX5_numberAt_9 dX5_numberAt_12 dX5_numberAt_13 dX5_numberAt_15 dX5_numberAt_18 (by rw [hr, spNum, if_neg h]; exact ⟨by simp, hR, Fc_rf _ _⟩)
  refine z_iload_n C dX5_numberAt_0 rfl ?_
  refine z_if_lt (tgt := 9) C dX5_numberAt_1 (by decide) (by omega) (fun g1 => ?_) (fun g1 => ?_)
  · exact bad (by omega)
  · refine z_iload_n C dX5_numberAt_4 rfl ?_
    refine z_iconst C dX5_numberAt_5 ?_
    refine z_icmp_lt (tgt := 19) C dX5_numberAt_6 (by decide) (by omega) (fun g2 => ?_) (fun g2 => ?_)
    · refine z_aload_n C dX5_numberAt_19 rfl ?_
      refine z_geti C qF_X5_26 dX5_numberAt_20 (by assumption) ?_
      refine z_iload_n C dX5_numberAt_23 rfl ?_
      rw [hq]
      refine z_callS C (c_heldAt w μ q i hqi (by omega)) qM_X5_57 dX5_numberAt_24 rfl (fun _ _ h => h.elim) ?_
      rintro v μ2 ⟨rfl, rfl⟩
      have hin := hA_in q i
      have fin : r = (0, hA q i - 1, q, clk, dm, ob, ru, rn, rs, nb, tr) := by rw [hr, spNum, if_pos (by omega)]
      refine z_istore_n C dX5_numberAt_27 ?_
      refine z_iload_n C dX5_numberAt_28 rfl ?_
      refine z_if_ne (tgt := 36) C dX5_numberAt_29 (by decide) (by omega) (fun g3 => ?_) (fun g3 => ?_)
      · refine z_iload_n C dX5_numberAt_36 rfl ?_
        refine z_iconst C dX5_numberAt_37 ?_
        refine z_isub C dX5_numberAt_38 ?_
        exact z_iret C dX5_numberAt_39 (by rw [fin]; exact ⟨rfl, rfl, hR, Fc_rf _ _⟩)
      · refine z_iconst C dX5_numberAt_32 ?_
        refine z_goto (tgt := 39) C dX5_numberAt_33 (by decide) ?_
        exact z_iret C dX5_numberAt_39 (by rw [fin, g3]; exact ⟨rfl, rfl, hR, Fc_rf _ _⟩)
    · exact bad (by omega)
theorem c_write (w : Wd) (μ : Mem) (G : Nat → Nat) (N : Int) (s : Sg) (n : Int) (hR : Rc μ G s) (hO : okS N s) (hi : in32 n) : cM w yX5_write cX5_write 3 (some .int) 10 2 20 [.ref (G 0), .int (J n)] μ (okP G μ (spWrite n s)) (erP G μ (spWrite n s) [(eA, 1), (eS, 2)]) := by
  obtain ⟨q, clk, dm, ob, ru, rn, rs, nb, tr⟩ := s
  have hS := hR.1
  have hq : μ.2.1 5 3 (G 0) = q := hR.2.2.1
  have hqk := hO.2.1
  have hqi := hqk.1
  have g0 := hS.1.1
  obtain ⟨i1, i2⟩ := hi
  obtain ⟨r, hr⟩ : ∃ r, r = spWrite n (q, clk, dm, ob, ru, rn, rs, nb, tr) := ⟨_, rfl⟩
  rw [← hr]
  refine cM_of (fun x C => ?_)
  have bad : (n < 0 ∨ 9 < n) → Z w x (zQ w x (okP G μ r) (erP G μ r [(eA, 1), (eS, 2)]) 2 20) 3 10 [(0, .ref (G 0)), (1, .int (J n))] [] μ 0 0 := fun h => z_throw C qT_A qS_35 dX5_write_10 dX5_write_13 dX5_write_14 dX5_write_16 dX5_write_19 (by rw [hr, spWrite, if_pos h]; exact ⟨by simp, hR, Fc_rf _ _⟩)
  refine z_iload_n C dX5_write_0 rfl ?_
  refine z_if_lt (tgt := 10) C dX5_write_1 (by decide) (by omega) (fun g1 => ?_) (fun g1 => ?_)
  · exact bad (by omega)
  · refine z_iload_n C dX5_write_4 rfl ?_
    refine z_bipush C dX5_write_5 ?_
    refine z_icmp_le (tgt := 20) C dX5_write_7 (by decide) (by omega) (fun g2 => ?_) (fun g2 => ?_)
    · refine z_aload_n C dX5_write_20 rfl ?_
      refine z_geti C qF_X5_26 dX5_write_21 (by assumption) ?_
      rw [hq]
      refine z_callS C (c_lengthOf w μ q hqi) qM_X5_40 dX5_write_24 rfl (fun _ _ h => h.elim) ?_
      rintro v μ2 ⟨rfl, rfl⟩
      have hln := ln16_in q
      refine z_istore_n C dX5_write_27 ?_
      refine z_iload_n C dX5_write_28 rfl ?_
      refine z_iconst C dX5_write_29 ?_
      refine z_icmp_lt (tgt := 43) C dX5_write_30 (by decide) (by omega) (fun g3 => ?_) (fun g3 => ?_)
      · have fin : r = (0, ln16 q + 1, q + (n + 1) * pw16 (ln16 q), clk, dm, ob, ru, rn, rs, nb, tr) := by
          rw [hr, spWrite, if_neg (by omega), if_neg (by show ¬ ln16 q = 4; omega)]
        refine z_aload_n C dX5_write_43 rfl ?_
        refine z_dup C dX5_write_44 ?_
        refine z_geti C qF_X5_26 dX5_write_45 (by assumption) ?_
        refine z_iload_n C dX5_write_48 rfl ?_
        refine z_iconst C dX5_write_49 ?_
        refine z_iadd C dX5_write_50 ?_
        refine z_iload_n C dX5_write_51 rfl ?_
        refine z_iconst C dX5_write_52 ?_
        refine z_iadd C dX5_write_53 ?_
        rw [hq]
        refine z_callS C (c_bitsBehind w μ2 (ln16 q + 1)) qM_X5_49 dX5_write_54 rfl (fun _ _ h => h.elim) ?_
        rintro v μ3 ⟨rfl, rfl⟩
        -- the new place's bits, and that they are free
        have hk : ∃ k : Nat, (k : Int) = 4 * (4 - (ln16 q + 1)) ∧ ((2 ^ k : Nat) : Int) = pw16 (ln16 q) ∧ k < 32 ∧ q % ((2 ^ (k + 4) : Nat) : Int) = 0 ∧ (n + 1) * ((2 ^ k : Nat) : Int) < ((2 ^ (k + 4) : Nat) : Int) := by
          obtain ⟨-, -, c1, c2, c3⟩ := hqk
          unfold hA at c1 c2 c3
          simp at c1 c2 c3
          unfold ln16 at g3 ⊢
          unfold hA at g3 ⊢
          simp at g3 ⊢
          split
          · exact ⟨12, by omega, by unfold pw16; rw [if_pos (by omega)]; rfl, by decide, by show q % 65536 = 0; omega, by show (n + 1) * 4096 < 65536; omega⟩
          split
          · exact ⟨8, by omega, by unfold pw16; rw [if_neg (by omega), if_pos (by omega)]; rfl, by decide, by show q % 4096 = 0; omega, by show (n + 1) * 256 < 4096; omega⟩
          split
          · exact ⟨4, by omega, by unfold pw16; rw [if_neg (by omega), if_neg (by omega), if_pos (by omega)]; rfl, by decide, by show q % 256 = 0; omega, by show (n + 1) * 16 < 256; omega⟩
          split
          · exact ⟨0, by omega, by unfold pw16; rw [if_neg (by omega), if_neg (by omega), if_neg (by omega)]; rfl, by decide, by show q % 16 = 0; omega, by show (n + 1) * 1 < 16; omega⟩
          · rename_i e1 e2 e3 e4
            rw [if_neg e1, if_neg e2, if_neg e3, if_neg e4] at g3
            omega
        obtain ⟨k, k1, k2, k3, k4, k5⟩ := hk
        have k6 : (2 : Nat) ^ (k + 4) ≤ 2 ^ 16 := Nat.pow_le_pow_right (by decide) (by omega)
        have k7 : 0 ≤ (n + 1) * ((2 ^ k : Nat) : Int) := Int.mul_nonneg (by omega) (Int.natCast_nonneg _)
        rw [← k1]
        refine z_ishl C ((n + 1) * ((2 ^ k : Nat) : Int)) (J_ishl k k3 (by omega) (by omega)) dX5_write_57 ?_
        refine z_ior C (q + (n + 1) * ((2 ^ k : Nat) : Int)) (J_or (k + 4) k7 k5 (by omega) k4) dX5_write_58 ?_
        refine z_puti C qF_X5_26 qW_5_3 dX5_write_59 (by assumption) ?_
        refine z_iload_n C dX5_write_62 rfl ?_
        refine z_iconst C dX5_write_63 ?_
        refine z_iadd C dX5_write_64 ?_
        exact z_iret C dX5_write_65 (by rw [fin, k2]; exact ⟨rfl, rfl, (Rc_q hR _).1, (Rc_q hR _).2⟩)
      · exact z_throw C qT_S qS_46 dX5_write_33 dX5_write_36 dX5_write_37 dX5_write_39 dX5_write_42 (by rw [hr, spWrite, if_neg (by omega), if_pos (by show ln16 q = 4; omega)]; exact ⟨by simp, hR, Fc_rf _ _⟩)
    · exact bad (by omega)
theorem c_pass (w : Wd) (μ : Mem) (G : Nat → Nat) (N : Int) (s : Sg) (m : Int) (hR : Rc μ G s) (hO : okS N s) (hi : in32 m) : cM w yX5_pass cX5_pass 2 (some .int) 10 2 20 [.ref (G 0), .int (J m)] μ (okP G μ (spPass m s)) (erP G μ (spPass m s) [(eA, 1), (eS, 2)]) := by
  obtain ⟨q, clk, dm, ob, ru, rn, rs, nb, tr⟩ := s
  have hS := hR.1
  have hc : μ.2.1 5 4 (G 0) = clk := hR.2.2.2.1
  have hci := hO.2.2.1
  have g0 := hS.1.1
  obtain ⟨i1, i2⟩ := hi
  obtain ⟨r, hr⟩ : ∃ r, r = spPass m (q, clk, dm, ob, ru, rn, rs, nb, tr) := ⟨_, rfl⟩
  rw [← hr]
  refine cM_of (fun x C => ?_)
  have bad : (m < 1 ∨ 1000 < m) → Z w x (zQ w x (okP G μ r) (erP G μ r [(eA, 1), (eS, 2)]) 2 20) 2 12 [(0, .ref (G 0)), (1, .int (J m))] [] μ 0 0 := fun h => z_throw C qT_A qS_182 dX5_pass_12 dX5_pass_15 dX5_pass_16 dX5_pass_18 dX5_pass_21 (by rw [hr, spPass, if_pos h]; exact ⟨by simp, hR, Fc_rf _ _⟩)
  refine z_iload_n C dX5_pass_0 rfl ?_
  refine z_iconst C dX5_pass_1 ?_
  refine z_icmp_lt (tgt := 12) C dX5_pass_2 (by decide) (by omega) (fun g1 => ?_) (fun g1 => ?_)
  · exact bad (by omega)
  · refine z_iload_n C dX5_pass_5 rfl ?_
    refine z_sipush C dX5_pass_6 ?_
    refine z_icmp_le (tgt := 22) C dX5_pass_9 (by decide) (by omega) (fun g2 => ?_) (fun g2 => ?_)
    · refine z_aload_n C dX5_pass_22 rfl ?_
      refine z_geti C qF_X5_30 dX5_pass_23 (by assumption) ?_
      refine z_iload_n C dX5_pass_26 rfl ?_
      refine z_iadd C dX5_pass_27 ?_
      refine z_ldc C dX5_pass_28 qK_X5_184 ?_
      rw [hc]
      refine z_icmp_le (tgt := 43) C dX5_pass_30 (by decide) (by omega) (fun g3 => ?_) (fun g3 => ?_)
      · refine z_aload_n C dX5_pass_43 rfl ?_
        refine z_dup C dX5_pass_44 ?_
        refine z_geti C qF_X5_30 dX5_pass_45 (by assumption) ?_
        refine z_iload_n C dX5_pass_48 rfl ?_
        rw [hc]
        refine z_iadd C dX5_pass_49 ?_
        refine z_puti C qF_X5_30 qW_5_4 dX5_pass_50 (by assumption) ?_
        refine z_aload_n C dX5_pass_53 rfl ?_
        refine z_geti C qF_X5_30 dX5_pass_54 g0 ?_
        rw [show (sI μ 5 4 (G 0) (clk + m)).2.1 5 4 (G 0) = clk + m from sI_s]
        exact z_iret C dX5_pass_57 (by rw [hr, spPass, if_neg (by omega), if_neg (by omega)]; exact ⟨rfl, rfl, (Rc_clk hR _).1, (Rc_clk hR _).2⟩)
      · exact z_throw C qT_S qS_185 dX5_pass_33 dX5_pass_36 dX5_pass_37 dX5_pass_39 dX5_pass_42 (by rw [hr, spPass, if_neg (by omega), if_pos (by omega)]; exact ⟨by simp, hR, Fc_rf _ _⟩)
    · exact bad (by omega)
