/-! restart; and the object's beginning -/
theorem okO_mono {N M clk : Int} {o : Ob} (h : okO N clk o) (hm : N ≤ M) : okO M clk o := by
  obtain ⟨o1, o2, o3, o4, o5, o6⟩ := h
  refine ⟨o1, o2, o3, fun e he => ?_, fun e he => ?_, o6⟩
  · obtain ⟨a, b, c⟩ := o4 e he
    exact ⟨a, b, by omega⟩
  · obtain ⟨a, b, c⟩ := o5 e he
    exact ⟨a, b, by omega⟩
theorem okO_has {N clk : Int} {o : Ob} (h : okO N clk o) {v : Int} (hv : 0 ≤ v ∧ v ≤ 999) : okO N clk (hasO o v) := by
  obtain ⟨o1, o2, o3, o4, o5, o6⟩ := h
  refine ⟨o1, hv, fun lo hi ar he => ?_, o4, o5, o6⟩
  unfold hasO at he
  cases h9 : o.2.2.1 with
  | none =>
    rw [h9] at he
    cases he
  | some x =>
    obtain ⟨lo', hi', ar'⟩ := x
    rw [h9] at he
    have := o3 lo' hi' ar' h9
    cases he
    refine ⟨this.1, this.2.1, this.2.2.1, ?_⟩
    split
    · exact Or.inl rfl
    · split
      · exact Or.inr rfl
      · exact this.2.2.2
theorem okO_rst {N clk : Int} {o : Ob} (h : okO N clk o) : okO N clk (rstO o) := by
  unfold rstO
  split
  · exact okO_has h (by decide)
  · exact h
theorem okJ_mono {N M clk : Int} {j : Nat} {dm : List Int} {ob : Int → Ob} {ru : Int → Int} {rn rs : Int} {nb : Int → Int} (h : okJ N clk j dm ob ru rn rs nb) (hm : N ≤ M) : okJ M clk j dm ob ru rn rs nb := by
  obtain ⟨a, b, c, d, e, f, g⟩ := h
  exact ⟨a, b, fun k hk => ⟨(c k hk).1, okO_mono (c k hk).2 hm⟩, d, e, by omega, g⟩
theorem okT_mono {N M clk : Int} {tr : List Trp} (h : okT N clk tr) (hm : N ≤ M) : okT M clk tr := by
  obtain ⟨a, b⟩ := h
  refine ⟨by omega, fun x hx => ?_⟩
  obtain ⟨c, d, e, f⟩ := b x hx
  exact ⟨c, d, e, by omega⟩
section RST
variable {μ : Mem} {G : Nat → Nat} {q clk : Int} {dm : Nat → List Int} {ob ob' : Nat → Int → Ob} {ru : Nat → Int → Int} {rn rs : Nat → Int} {nb : Nat → Int → Int} {tr : List Trp}
theorem Rc_ob (h : Rc μ G (q, clk, dm, ob, ru, rn, rs, nb, tr)) (he : ∀ j, j < 4 → ∀ k ∈ dm j, ob' j k = ob j k) : Rc μ G (q, clk, dm, ob', ru, rn, rs, nb, tr) := by
  obtain ⟨h1, h2, h3, h4, h5, h6⟩ := h
  refine ⟨h1, h2, h3, h4, fun j hj => ?_, h6⟩
  obtain ⟨p1, p2, p3⟩ := h5 j hj
  refine ⟨p1, p2, fun y hy => ?_⟩
  rw [he j hj _ ((pIt_mem (h5 j hj)).mpr ⟨y, hy, rfl⟩)]
  exact p3 y hy
end RST
theorem c_restart (w : Wd) (μ : Mem) (G : Nat → Nat) (N : Int) (s : Sg) (a : Int) (hR : Rc μ G s) (hO : okS N s) (hN : N + 1 ≤ 512) (h32 : in32 a) : cM w yX5_restart cX5_restart 5 (some .int) 10 30 1000 [.ref (G 0), .int (J a)] μ (okP G μ (spRestart a s)) (erP G μ (spRestart a s) [(eX, 1)]) := by
  obtain ⟨q, clk, dm, ob, ru, rn, rs, nb, tr⟩ := s
  have hS := hR.1
  have hq : μ.2.1 5 3 (G 0) = q := hR.2.2.1
  have hc : μ.2.1 5 4 (G 0) = clk := hR.2.2.2.1
  have hqk := hO.2.1
  have hqi := hqk.1
  have hci := hO.2.2.1
  have g0 := hS.1.1
  obtain ⟨r, hr⟩ : ∃ r, r = spRestart a (q, clk, dm, ob, ru, rn, rs, nb, tr) := ⟨_, rfl⟩
  rw [← hr]
  refine cM_of (fun x C => ?_)
  refine z_aload_n C dX5_restart_0 rfl ?_
  refine z_iload_n C dX5_restart_1 rfl ?_
  refine z_callV C (c_agentNumbered w μ (G 0) (G 1) (G 2) (G 3) (gA G) a 1 6 (fun _ => by decide) hS.1 hS.2.1 h32) qM_X5_61 dX5_restart_2 rfl (zRc_o g0) (fun E μ' h => ?_) ?_
  · obtain ⟨rfl, hb, rfl⟩ := h
    rw [hr, spRestart, if_pos hb]
    exact ⟨by simp, hR, Fc_rf _ _⟩
  rintro v μ2 ⟨ha, rfl, rfl⟩
  obtain ⟨j, rfl⟩ : ∃ j : Nat, a = (j : Int) := ⟨a.toNat, by omega⟩
  have hj : j < 4 := by omega
  rw [show ((j : Int)).toNat = j from rfl]
  have gAj := (hS.2.2 j hj).1
  obtain ⟨hI, hl20, hRu⟩ := Rc_its hR hO hj
  have fin : r = (0, rs j + 1, q, clk, dm, u1 ob j (fun k => rstO (ob j k)), ru, rn, u1 rs j (rs j + 1), nb, tr) := by rw [hr, spRestart, if_neg (by omega)]; rfl
  have h8 : μ2.2.1 0 4 (gA G j) = rs j := hR.2.2.2.2.2.2.2.1 j hj
  have hrs := (hO.2.2.2.1 j hj).2.2.2.2.2.1
  have hN0 := hO.1
  obtain ⟨hR1, hF1⟩ := Rc_rst hR hj (rs j + 1)
  refine z_astore_n C dX5_restart_5 ?_
  refine z_aload_n C dX5_restart_6 rfl ?_
  refine z_dup C dX5_restart_7 ?_
  refine z_geti C qF_X5_160 dX5_restart_8 (by assumption) ?_
  rw [h8]
  refine z_iconst C dX5_restart_11 ?_
  refine z_iadd C dX5_restart_12 ?_
  refine z_puti C qF_X5_160 qW_0_4 dX5_restart_13 (by assumption) ?_
  refine z_iconst C dX5_restart_16 ?_
  refine z_istore_n C dX5_restart_17 ?_
  obtain ⟨l, hl⟩ : ∃ l, l = μ2.2.2.2.2.2 (gL G j) := ⟨_, rfl⟩
  rw [← hl] at hl20
  obtain ⟨obI, hobI⟩ : ∃ obI : Nat → Int → Ob, obI = fun i k => if k ∈ (l.take i).map (μ2.2.1 1 0) then rstO (ob j k) else ob j k := ⟨_, rfl⟩
  have h5 := hR.2.2.2.2.1 j hj
  rw [← hl] at h5
  have hndl : (l.map (μ2.2.1 1 0)).Nodup := h5.2.1.nodup_iff.mpr (hO.2.2.2.1 j hj).1
  have hI0 : obI 0 = ob j := by
    rw [hobI]
    funext k
    exact if_neg (by simp)
  have hstep : ∀ i y, l[i]? = some y → obI i (μ2.2.1 1 0 y) = ob j (μ2.2.1 1 0 y) ∧ obI (i + 1) = uI (obI i) (μ2.2.1 1 0 y) (rstO (ob j (μ2.2.1 1 0 y))) := by
    intro i y hy
    have hsn := take_snoc hy
    have hni : μ2.2.1 1 0 y ∉ (l.take i).map (μ2.2.1 1 0) := by
      intro hc
      have h9 : ((l.take (i + 1)).map (μ2.2.1 1 0)).Nodup := hndl.sublist ((List.take_sublist _ _).map _)
      rw [hsn, List.map_append, List.nodup_append] at h9
      exact h9.2.2 _ hc _ (List.mem_singleton.mpr rfl) rfl
    refine ⟨by rw [hobI]; exact if_neg hni, ?_⟩
    funext k
    by_cases hk : k = μ2.2.1 1 0 y
    · subst hk
      rw [uI_s, hobI]
      refine if_pos ?_
      rw [hsn, List.map_append]
      exact List.mem_append_right _ (List.mem_singleton.mpr rfl)
    · rw [uI_n _ _ hk, hobI]
      show (if _ then _ else _) = (if _ then _ else _)
      rw [hsn, List.map_append]
      by_cases hc : k ∈ (l.take i).map (μ2.2.1 1 0)
      · rw [if_pos hc, if_pos (List.mem_append_left _ hc)]
      · rw [if_neg hc, if_neg (fun e => ?_)]
        rcases List.mem_append.mp e with e | e
        · exact hc e
        · exact hk (List.mem_singleton.mp e)
  have hOi : ∀ i, okS (N + 1) (q, clk, dm, u1 ob j (obI i), ru, rn, u1 rs j (rs j + 1), nb, tr) := by
    intro i
    obtain ⟨o1, o2, o3, o4, o5⟩ := hO
    refine ⟨by omega, o2, o3, fun i' hi' => ?_, okT_mono o5 (by omega)⟩
    by_cases hij : i' = j
    · subst hij
      rw [u1_s, u1_s]
      obtain ⟨a1, a2, a3, a4, a5, a6, a7⟩ := o4 i' hi'
      refine ⟨a1, a2, fun k hk => ⟨(a3 k hk).1, ?_⟩, a4, a5, by omega, a7⟩
      rw [hobI]
      show okO (N + 1) clk (if _ then _ else _)
      split
      · exact okO_mono (okO_rst (a3 k hk).2) (by omega)
      · exact okO_mono (a3 k hk).2 (by omega)
    · rw [u1_n _ _ hij, u1_n _ _ hij]
      exact okJ_mono (o4 i' hi') (by omega)
  have loop : ∀ (m i : Nat) (μ' : Mem), i + m = l.length → Rc μ' G (q, clk, dm, u1 ob j (obI i), ru, rn, u1 rs j (rs j + 1), nb, tr) → Fc μ2 μ' G → μ'.2.2.2.2.2 (gL G j) = l → μ'.2.1 1 0 = μ2.2.1 1 0 → Z w x (zQ w x (okP G μ2 r) (erP G μ2 r [(eX, 1)]) 30 1000) 5 18 [(0, .ref (G 0)), (1, .int (J (j : Int))), (2, .ref (gA G j)), (3, .int (J (i : Int)))] [] μ' 1 6 := by
    intro m
    induction m with
    | zero =>
      intro i μ' hi hR' hF hL hP
      have hS' := hR'.1
      obtain ⟨b1, b2, b3, b4, b5, b6, b7, b8, b9⟩ := hS'.2.2 j hj
      refine z_iload_n C dX5_restart_18 rfl ?_
      refine z_aload_n C dX5_restart_19 rfl ?_
      refine z_getr C (gL G j) qF_X5_77 dX5_restart_20 b1 b2 ?_
      refine z_callV C (c_size w μ' (gL G j) 0 b6) qM_X5_80 dX5_restart_23 rfl (zRc_l b6) (fun _ _ h => h.elim) ?_
      rintro _ μ3 ⟨rfl, rfl⟩
      rw [hL]
      refine z_icmp_ge (tgt := 70) C dX5_restart_26 (by decide) (by omega) (fun g => ?_) (fun g => ?_)
      · refine z_aload_n C dX5_restart_70 rfl ?_
        have e9 : μ3.2.1 0 4 (gA G j) = rs j + 1 := (hR'.2.2.2.2.2.2.2.1 j hj).trans (u1_s _ _ _)
        refine z_geti C qF_X5_160 dX5_restart_71 b1 ?_
        rw [e9]
        refine z_iret C dX5_restart_74 ?_
        rw [fin]
        refine ⟨rfl, rfl, Rc_ob hR' (fun j' hj' k hk => ?_), hF⟩
        by_cases hjj : j' = j
        · subst hjj
          rw [u1_s, u1_s, hobI]
          symm
          refine if_pos ?_
          rw [List.take_of_length_le (by omega)]
          exact h5.2.1.mem_iff.mpr hk
        · rw [u1_n _ _ hjj, u1_n _ _ hjj]
      · omega
    | succ m ih =>
      intro i μ' hi hR' hF hL hP
      have hS' := hR'.1
      obtain ⟨b1, b2, b3, b4, b5, b6, b7, b8, b9⟩ := hS'.2.2 j hj
      refine z_iload_n C dX5_restart_18 rfl ?_
      refine z_aload_n C dX5_restart_19 rfl ?_
      refine z_getr C (gL G j) qF_X5_77 dX5_restart_20 b1 b2 ?_
      refine z_callV C (c_size w μ' (gL G j) 0 b6) qM_X5_80 dX5_restart_23 rfl (zRc_l b6) (fun _ _ h => h.elim) ?_
      rintro _ μ3 ⟨rfl, rfl⟩
      rw [hL]
      refine z_icmp_ge (tgt := 70) C dX5_restart_26 (by decide) (by omega) (fun g => ?_) (fun g => ?_)
      · omega
      · obtain ⟨y, hy⟩ : ∃ y, l[i]? = some y := ⟨_, List.getElem?_eq_getElem (by omega)⟩
        obtain ⟨st1, st2⟩ := hstep i y hy
        have yl : y ∈ μ3.2.2.2.2.2 (gL G j) := by rw [hL]; exact List.mem_of_getElem? hy
        obtain ⟨n0, hy0⟩ := (hR'.2.2.2.2.1 j hj).1 y yl
        have yp : μ3.2.1 1 0 y = μ2.2.1 1 0 y := congrFun hP y
        have hitm := (hR'.2.2.2.2.1 j hj).2.2 y yl
        rw [show μ3.2.1 1 0 y = μ2.2.1 1 0 y from yp, u1_s, st1] at hitm
        obtain ⟨k1, k2, -⟩ := hitm
        have k1' : μ3.2.1 1 1 y = (ob j (μ2.2.1 1 0 y)).1 := k1
        have hok := ((hO.2.2.2.1 j hj).2.2.1 (μ2.2.1 1 0 y) (h5.2.1.mem_iff.mp (List.mem_map.mpr ⟨y, List.mem_of_getElem? hy, rfl⟩))).2
        have hkd := hok.1
        refine z_aload_n C dX5_restart_29 rfl ?_
        refine z_getr C (gL G j) qF_X5_77 dX5_restart_30 b1 b2 ?_
        refine z_iload_n C dX5_restart_33 rfl ?_
        refine z_callV C (c_get w μ3 (gL G j) 0 i b6 (by rw [hL]; omega) (by rw [hL]; omega)) qM_X5_178 dX5_restart_34 rfl (zRc_l b6) (fun _ _ h => h.elim) ?_
        rintro _ μ4 ⟨rfl, rfl⟩
        rw [show va_rf ((μ4.2.2.2.2.2 (gL G j))[i]?) = va_rf (some y) by rw [hL, hy]]
        refine z_cast C (r := some y) (ci := 1) (q := (RX1, TX1, 6)) dX5_restart_37 rfl qC_X5_89 (fun b hb => ⟨n0, by cases hb; exact hy0⟩) ?_
        refine z_astore C dX5_restart_40 ?_
        refine z_aload C dX5_restart_42 rfl ?_
        refine z_geti C qF_X5_106 dX5_restart_44 hy0 ?_
        rw [k1']
        refine z_iconst C dX5_restart_47 ?_
        refine z_icmp_ne (tgt := 64) C dX5_restart_48 (by decide) (by omega) (fun g2 => ?_) (fun g2 => ?_)
        · refine z_iinc C dX5_restart_64 rfl ?_
          refine z_goto (tgt := 18) C dX5_restart_67 (by decide) ?_
          refine z_ls _ (by exact ⟨rfl, rfl, rfl, rfl, trivial⟩) (ih (i + 1) μ4 (by omega) ?_ hF hL hP)
          rw [st2, show rstO (ob j (μ2.2.1 1 0 y)) = obI i (μ2.2.1 1 0 y) by rw [st1]; exact if_neg g2, uI_self]
          exact hR'
        · refine z_aload C dX5_restart_51 rfl ?_
          refine z_iconst C dX5_restart_53 ?_
          refine z_puti C qF_X5_109 qW_1_2 dX5_restart_54 hy0 ?_
          refine z_aload_n C dX5_restart_57 rfl ?_
          refine z_iload_n C dX5_restart_58 rfl ?_
          refine z_aload C dX5_restart_59 rfl ?_
          have hcur : u1 ob j (obI i) j (μ4.2.1 1 0 y) = ob j (μ2.2.1 1 0 y) := by rw [u1_s, yp]; exact st1
          have hfr : frs (u1 ob j (obI i) j (μ4.2.1 1 0 y)) 0 = false := by rw [hcur]; exact frs_ok hok
          refine z_callV C (c_cmp (w := w) (mc := 0) (ms := 0) hR' (hOi i) hj yl (by rw [hcur]; exact okO_mono hok (by omega)) (by decide) (fun h => by rw [hfr] at h; cases h)) qM_X5_112 dX5_restart_61 rfl (zRc_o hS'.1.1) (fun _ _ h => h.elim) ?_
          rintro _ μ5 ⟨rfl, hcm⟩
          obtain ⟨r1, r2, r3, r4⟩ := Rc_cmp hR' hj (hO.2.2.2.1 j hj).1 yl hcm
          obtain ⟨r5, r6, r7⟩ := r4 hfr
          rw [hfr, if_neg (by decide), hcur, yp] at r1
          refine z_iinc C dX5_restart_64 rfl ?_
          refine z_goto (tgt := 18) C dX5_restart_67 (by decide) ?_
          refine z_ls _ (by exact ⟨rfl, rfl, rfl, rfl, trivial⟩) (ih (i + 1) μ5 (by omega) ?_ (Fc_tr hF r2) (by rw [r5]; exact hL) (by rw [r6]; exact hP))
          rw [st2]
          have e9 : rstO (ob j (μ2.2.1 1 0 y)) = hasO (ob j (μ2.2.1 1 0 y)) 0 := if_pos g2
          rw [e9]
          unfold uO at r1
          rw [u1_s, u1_u1] at r1
          exact r1
  refine z_ls _ (by exact ⟨rfl, rfl, rfl, rfl, trivial⟩) (loop l.length 0 _ (by omega) ?_ hF1 (by rw [hl]) ?_)
  · rw [hI0, u1_self]
    exact hR1
  · funext z
    exact congrFun (congrFun (sI_cf (c' := 1) (by decide)) 0) z
/-- a new object is at the beginning of all -/
def s0 (nb : Nat → Int → Int) : Sg := (0, 0, fun _ => [], fun _ _ => (0, 0, none, none, none), fun _ _ => 0, fun _ => 0, fun _ => 0, nb, [])
theorem Rc_new {μ μ' : Mem} {g : Nat} {G : Nat → Nat} (h : new0 μ μ' g G) : ∃ nb : Nat → Int → Int, (∀ j t, 0 ≤ t → t < 4 → nb j t = -1) ∧ Rc μ' G (s0 nb) ∧ okS 0 (s0 nb) := by
  obtain ⟨h0, h1, h2, h3, h4, h5, h6, h7, h8, h9, h10⟩ := h
  obtain ⟨nb, hnb⟩ : ∃ nb : Nat → Int → Int, nb = fun j t => if j < 4 then μ'.2.2.2.1 (gN G j) t else -1 := ⟨_, rfl⟩
  have hn : ∀ j, j < 4 → nb j = μ'.2.2.2.1 (gN G j) := fun j hj => by
    rw [hnb]
    funext t
    exact if_pos hj
  refine ⟨nb, fun j t t0 t4 => ?_, ⟨h1, h3, ?_, ?_, fun j hj => ?_, ?_, fun j hj => ?_, fun j hj => (h2 j hj).2.2.2.2.2.2, fun j hj => (hn j hj).symm, ?_, ?_, ?_⟩, ?_⟩
  · by_cases hj : j < 4
    · rw [hn j hj]
      exact (h2 j hj).2.2.2.2.1 t t0 t4
    · rw [hnb]
      exact if_neg hj
  · rw [h0]; exact h8
  · rw [h0]; exact h9
  · rw [(h2 j hj).2.1]
    exact ⟨fun y hy => (by cases hy), List.Perm.nil, fun y hy => (by cases hy)⟩
  · refine ⟨fun i j y hi hj hy => ?_, fun i j y z m hi hj hy => ?_⟩
    · rw [(h2 i hi).2.1] at hy
      cases hy
    · rw [(h2 i hi).2.1] at hy
      cases hy
  · have a1 := (h2 j hj).2.2.1
    have a2 := (h2 j hj).2.2.2.1
    refine ⟨fun t => ?_, fun t u t0 t1 u0' u1' c => absurd (a2 t) c, fun k => rlF_miss 10 0 (fun t _ _ c => absurd (a2 t) c), ?_⟩
    · rw [a1, a2]
      decide
    · rw [rlC_congr (R' := fun _ => 0) 10 0 (fun t _ _ => a2 t)]
      show rlC (fun _ => 0) 10 0 = 0
      decide
  · rw [h6]
    exact ⟨rfl, List.Pairwise.nil, fun i t x hi => by simp at hi⟩
  · rw [h7]
    exact fun y hy => by cases hy
  · rw [h7]
    exact Nat.zero_le _
  · refine ⟨by decide, by unfold okK; decide, by decide, fun j hj => ⟨List.Pairwise.nil, Nat.zero_le _, fun k hk => (by cases hk), fun k => ⟨⟨Int.le_refl 0, by show (0 : Int) ≤ 2; decide⟩, fun h => absurd rfl h⟩, ⟨Int.le_refl 0, by show (0 : Int) ≤ 10; decide⟩, ⟨Int.le_refl 0, Int.le_refl 0⟩, fun t => ?_, fun t t0 t4 => ?_⟩, by decide, fun x hx => by cases hx⟩
    · rw [hn j hj]
      have := (h2 j hj).2.2.2.2.2.1 t
      omega
    · rw [hn j hj, (h2 j hj).2.2.2.2.1 t t0 t4]
      omega
