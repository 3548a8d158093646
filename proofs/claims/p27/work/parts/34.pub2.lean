/-! calls that only look, and walks -/
theorem nxt_mem {f : Int → Bool} {q z : Int} : ∀ {l : List Int}, nxt f q l = some z → z ∈ l
  | [], h => by cases h
  | c :: l, h => by
    rw [nxt] at h
    split at h
    · cases hn2 : nxt f q l with
      | none =>
        rw [hn2] at h
        cases h
        exact List.mem_cons_self
      | some y =>
        rw [hn2] at h
        have h' : (if c < y then some c else some y) = some z := h
        split at h'
        · cases h'
          exact List.mem_cons_self
        · cases h'
          exact List.mem_cons_of_mem _ (nxt_mem hn2)
    · exact List.mem_cons_of_mem _ (nxt_mem h)
theorem c_get2 (w : Wd) (μ : Mem) (G : Nat → Nat) (N : Int) (s : Sg) (a : Int) (hR : Rc μ G s) (hO : okS N s) (h32 : in32 a) : cM w yX5_get cX5_get 3 (some .int) 10 2 20 [.ref (G 0), .int (J a)] μ (okP G μ (spGet a s)) (erP G μ (spGet a s) [(eX, 1)]) := by
  obtain ⟨q, clk, dm, ob, ru, rn, rs, nb, tr⟩ := s
  have hS := hR.1
  have hq : μ.2.1 5 3 (G 0) = q := hR.2.2.1
  have hc : μ.2.1 5 4 (G 0) = clk := hR.2.2.2.1
  have hqk := hO.2.1
  have hqi := hqk.1
  have hci := hO.2.2.1
  have g0 := hS.1.1
  obtain ⟨r, hr⟩ : ∃ r, r = spGet a (q, clk, dm, ob, ru, rn, rs, nb, tr) := ⟨_, rfl⟩
  rw [← hr]
  refine cM_of (fun x C => ?_)
  refine z_aload_n C dX5_get_0 rfl ?_
  refine z_iload_n C dX5_get_1 rfl ?_
  refine z_callV C (c_agentNumbered w μ (G 0) (G 1) (G 2) (G 3) (gA G) a 1 6 (fun _ => by decide) hS.1 hS.2.1 h32) qM_X5_61 dX5_get_2 rfl (zRc_o g0) (fun E μ' h => ?_) ?_
  · obtain ⟨rfl, hb, rfl⟩ := h
    rw [hr, spGet, if_pos hb]
    exact ⟨by simp, hR, Fc_rf _ _⟩
  rintro v μ2 ⟨ha, rfl, rfl⟩
  obtain ⟨j, rfl⟩ : ∃ j : Nat, a = (j : Int) := ⟨a.toNat, by omega⟩
  have hj : j < 4 := by omega
  rw [show ((j : Int)).toNat = j from rfl]
  have gAj := (hS.2.2 j hj).1
  obtain ⟨hI, hl20, hRu⟩ := Rc_its hR hO hj
  have fin : r = (0, if hidK (ru j) q = true then -1 else vK (dm j) (ob j) q, q, clk, dm, ob, ru, rn, rs, nb, tr) := by rw [hr, spGet, if_neg (by omega)]; rfl
  refine z_astore_n C dX5_get_5 ?_
  refine z_aload_n C dX5_get_6 rfl ?_
  refine z_aload_n C dX5_get_7 rfl ?_
  refine z_geti C qF_X5_26 dX5_get_8 (by assumption) ?_
  rw [hq]
  refine z_callV C (c_hides w μ2 (gA G j) (gL G j) (gP G j) (gU G j) (gN G j) q (hS.2.2 j hj) hRu hqi) qM_X5_116 dX5_get_11 rfl (zRc_o gAj) (fun _ _ h => h.elim) ?_
  rintro v μ3 ⟨rfl, rfl⟩
  rw [Rc_hid hR hj]
  cases hh : hidK (ru j) q with
  | true =>
    rw [hh] at fin
    rw [show zB true = 1 from rfl]
    refine z_if_eq (tgt := 21) C dX5_get_14 (by decide) (by omega) (fun g => ?_) (fun g => ?_)
    · exact absurd g (by decide)
    · refine z_iconst C dX5_get_17 ?_
      refine z_goto (tgt := 32) C dX5_get_18 (by decide) ?_
      exact z_iret C dX5_get_32 (by rw [fin]; exact ⟨rfl, rfl, hR, Fc_rf _ _⟩)
  | false =>
    rw [hh] at fin
    rw [show zB false = 0 from rfl]
    refine z_if_eq (tgt := 21) C dX5_get_14 (by decide) (by omega) (fun g => ?_) (fun g => ?_)
    · refine z_aload_n C dX5_get_21 rfl ?_
      refine z_aload_n C dX5_get_22 rfl ?_
      refine z_geti C qF_X5_26 dX5_get_23 (by assumption) ?_
      rw [hq]
      refine z_callV C (c_itemAt w μ3 (gA G j) (gL G j) (gP G j) (gU G j) (gN G j) q (hS.2.2 j hj) hI hqi) qM_X5_73 dX5_get_26 rfl (zRc_o gAj) (fun _ _ h => h.elim) ?_
      rintro v μ4 ⟨rfl, y, rfl, hy⟩
      obtain ⟨e1, e2, e3⟩ := Rc_at hR hj hy
      refine z_callS C (c_valueOf w μ4 y (fun z hz => (e3 z hz).2.2.2)) qM_X5_98 dX5_get_29 rfl (fun _ _ h => h.elim) ?_
      rintro v μ5 ⟨rfl, rfl⟩
      rw [e1]
      exact z_iret C dX5_get_32 (by rw [fin]; exact ⟨rfl, rfl, hR, Fc_rf _ _⟩)
    · exact absurd rfl g
theorem c_seen (w : Wd) (μ : Mem) (G : Nat → Nat) (N : Int) (s : Sg) (a : Int) (hR : Rc μ G s) (hO : okS N s) (h32 : in32 a) : cM w yX5_seen cX5_seen 2 (some .int) 10 2 20 [.ref (G 0), .int (J a)] μ (okP G μ (spSeen a s)) (erP G μ (spSeen a s) [(eX, 1)]) := by
  obtain ⟨q, clk, dm, ob, ru, rn, rs, nb, tr⟩ := s
  have hS := hR.1
  have hq : μ.2.1 5 3 (G 0) = q := hR.2.2.1
  have hc : μ.2.1 5 4 (G 0) = clk := hR.2.2.2.1
  have hqk := hO.2.1
  have hqi := hqk.1
  have hci := hO.2.2.1
  have g0 := hS.1.1
  obtain ⟨r, hr⟩ : ∃ r, r = spSeen a (q, clk, dm, ob, ru, rn, rs, nb, tr) := ⟨_, rfl⟩
  rw [← hr]
  refine cM_of (fun x C => ?_)
  refine z_aload_n C dX5_seen_0 rfl ?_
  refine z_iload_n C dX5_seen_1 rfl ?_
  refine z_callV C (c_agentNumbered w μ (G 0) (G 1) (G 2) (G 3) (gA G) a 1 6 (fun _ => by decide) hS.1 hS.2.1 h32) qM_X5_61 dX5_seen_2 rfl (zRc_o g0) (fun E μ' h => ?_) ?_
  · obtain ⟨rfl, hb, rfl⟩ := h
    rw [hr, spSeen, if_pos hb]
    exact ⟨by simp, hR, Fc_rf _ _⟩
  rintro v μ2 ⟨ha, rfl, rfl⟩
  obtain ⟨j, rfl⟩ : ∃ j : Nat, a = (j : Int) := ⟨a.toNat, by omega⟩
  have hj : j < 4 := by omega
  rw [show ((j : Int)).toNat = j from rfl]
  have gAj := (hS.2.2 j hj).1
  obtain ⟨hI, hl20, hRu⟩ := Rc_its hR hO hj
  have fin : r = (0, (((dm j).countP (fun k => !hidK (ru j) k) : Nat) : Int), q, clk, dm, ob, ru, rn, rs, nb, tr) := by rw [hr, spSeen, if_neg (by omega)]; rfl
  refine z_callV C (c_countShown w μ2 (gA G j) (gL G j) (gP G j) (gU G j) (gN G j) (hS.2.2 j hj) hI hRu) qM_X5_146 dX5_seen_5 rfl (zRc_o gAj) (fun _ _ h => h.elim) ?_
  rintro v μ3 ⟨rfl, rfl⟩
  have e : (μ3.2.2.2.2.2 (gL G j)).countP (fun y => !hid16 (μ3.2.2.2.1 (gU G j)) (μ3.2.2.2.1 (gP G j)) (μ3.2.1 1 0 y)) = (dm j).countP (fun k => !hidK (ru j) k) := by
    have hp := (hR.2.2.2.2.1 j hj).2.1
    rw [← hp.countP_eq, List.countP_map]
    refine List.countP_congr (fun y hy => ?_)
    rw [Rc_hid hR hj]
    rfl
  exact z_iret C dX5_seen_8 (by rw [fin, e]; exact ⟨rfl, rfl, hR, Fc_rf _ _⟩)
theorem c_next (w : Wd) (μ : Mem) (G : Nat → Nat) (N : Int) (s : Sg) (a : Int) (hR : Rc μ G s) (hO : okS N s) (h32 : in32 a) : cM w yX5_next cX5_next 2 (some .int) 10 2 20 [.ref (G 0), .int (J a)] μ (okP G μ (spNext a s)) (erP G μ (spNext a s) [(eX, 1)]) := by
  obtain ⟨q, clk, dm, ob, ru, rn, rs, nb, tr⟩ := s
  have hS := hR.1
  have hq : μ.2.1 5 3 (G 0) = q := hR.2.2.1
  have hc : μ.2.1 5 4 (G 0) = clk := hR.2.2.2.1
  have hqk := hO.2.1
  have hqi := hqk.1
  have hci := hO.2.2.1
  have g0 := hS.1.1
  obtain ⟨r, hr⟩ : ∃ r, r = spNext a (q, clk, dm, ob, ru, rn, rs, nb, tr) := ⟨_, rfl⟩
  rw [← hr]
  refine cM_of (fun x C => ?_)
  refine z_aload_n C dX5_next_0 rfl ?_
  refine z_aload_n C dX5_next_1 rfl ?_
  refine z_iload_n C dX5_next_2 rfl ?_
  refine z_callV C (c_agentNumbered w μ (G 0) (G 1) (G 2) (G 3) (gA G) a 1 6 (fun _ => by decide) hS.1 hS.2.1 h32) qM_X5_61 dX5_next_3 rfl (zRc_o g0) (fun E μ' h => ?_) ?_
  · obtain ⟨rfl, hb, rfl⟩ := h
    rw [hr, spNext, if_pos hb]
    exact ⟨by simp, hR, Fc_rf _ _⟩
  rintro v μ2 ⟨ha, rfl, rfl⟩
  obtain ⟨j, rfl⟩ : ∃ j : Nat, a = (j : Int) := ⟨a.toNat, by omega⟩
  have hj : j < 4 := by omega
  rw [show ((j : Int)).toNat = j from rfl]
  have gAj := (hS.2.2 j hj).1
  obtain ⟨hI, hl20, hRu⟩ := Rc_its hR hO hj
  have fin : r = (0, vO (ob j) (nx (dm j) (ru j) q), (nx (dm j) (ru j) q).getD q, clk, dm, ob, ru, rn, rs, nb, tr) := by rw [hr, spNext, if_neg (by omega)]; rfl
  refine z_callV C (c_walkOn w μ2 (G 0) (G 1) (G 2) (G 3) (gA G j) (gL G j) (gP G j) (gU G j) (gN G j) hS.1 (hS.2.2 j hj) hI hRu (by rw [hq]; exact hqi)) qM_X5_120 dX5_next_6 rfl (zRc_o g0) (fun _ _ h => h.elim) ?_
  rintro v μ3 ⟨y, rfl, hy, rfl⟩
  rw [hq] at hy
  obtain ⟨e1, e2⟩ := Rc_nx hR hj hy
  cases y with
  | none =>
    refine z_callS C (c_valueOf w μ2 none (fun z hz => by cases hz)) qM_X5_98 dX5_next_9 rfl (fun _ _ h => h.elim) ?_
    rintro v μ5 ⟨rfl, rfl⟩
    exact z_iret C dX5_next_12 (by rw [fin, e1]; exact ⟨rfl, rfl, hR, Fc_rf _ _⟩)
  | some y =>
    obtain ⟨e3, n0, e4⟩ := e2 y rfl
    refine z_callS C (c_valueOf w (sI μ2 5 3 (G 0) (μ2.2.1 1 0 y)) (some y) (fun z hz => by cases hz; exact ⟨n0, e4⟩)) qM_X5_98 dX5_next_9 rfl (fun _ _ h => h.elim) ?_
    rintro v μ5 ⟨rfl, rfl⟩
    rw [show vOf (sI μ2 5 3 (G 0) (μ2.2.1 1 0 y)) (some y) = (ob j (μ2.2.1 1 0 y)).2.1 from (sI_c _ _ (by decide)).trans e3]
    exact z_iret C dX5_next_12 (by rw [fin, e1]; exact ⟨rfl, rfl, (Rc_q hR _).1, (Rc_q hR _).2⟩)
theorem okS_q {N q q2 clk : Int} {r : (Nat → List Int) × (Nat → Int → Ob) × (Nat → Int → Int) × (Nat → Int) × (Nat → Int) × (Nat → Int → Int) × List Trp} (h : okS N (q, clk, r)) (h2 : okK q2) : okS N (q2, clk, r) := by
  obtain ⟨dm, ob, ru, rn, rs, nb, tr⟩ := r
  exact ⟨h.1, h2, h.2.2⟩
theorem c_bulk (w : Wd) (μ : Mem) (G : Nat → Nat) (N : Int) (s : Sg) (a m : Int) (hR : Rc μ G s) (hO : okS N s) (h32 : in32 a) (hm32 : in32 m) : cM w yX5_bulk cX5_bulk 5 (some .int) 10 2 20 [.ref (G 0), .int (J a), .int (J m)] μ (okP G μ (spBulk a m s)) (erP G μ (spBulk a m s) [(eX, 1), (eA, 2)]) := by
  obtain ⟨m1, m2⟩ := hm32
  obtain ⟨q, clk, dm, ob, ru, rn, rs, nb, tr⟩ := s
  have hS := hR.1
  have hq : μ.2.1 5 3 (G 0) = q := hR.2.2.1
  have hc : μ.2.1 5 4 (G 0) = clk := hR.2.2.2.1
  have hqk := hO.2.1
  have hqi := hqk.1
  have hci := hO.2.2.1
  have g0 := hS.1.1
  obtain ⟨r, hr⟩ : ∃ r, r = spBulk a m (q, clk, dm, ob, ru, rn, rs, nb, tr) := ⟨_, rfl⟩
  rw [← hr]
  refine cM_of (fun x C => ?_)
  refine z_aload_n C dX5_bulk_0 rfl ?_
  refine z_iload_n C dX5_bulk_1 rfl ?_
  refine z_callV C (c_agentNumbered w μ (G 0) (G 1) (G 2) (G 3) (gA G) a 1 6 (fun _ => by decide) hS.1 hS.2.1 h32) qM_X5_61 dX5_bulk_2 rfl (zRc_o g0) (fun E μ' h => ?_) ?_
  · obtain ⟨rfl, hb, rfl⟩ := h
    rw [hr, spBulk, if_pos hb]
    exact ⟨by simp, hR, Fc_rf _ _⟩
  rintro v μ2 ⟨ha, rfl, rfl⟩
  obtain ⟨j, rfl⟩ : ∃ j : Nat, a = (j : Int) := ⟨a.toNat, by omega⟩
  have hj : j < 4 := by omega
  rw [show ((j : Int)).toNat = j from rfl]
  have gAj := (hS.2.2 j hj).1
  obtain ⟨hI, hl20, hRu⟩ := Rc_its hR hO hj
  have bad : ¬ (1 ≤ m ∧ m ≤ 30) → Z w x (zQ w x (okP G μ2 r) (erP G μ2 r [(eX, 1), (eA, 2)]) 2 20) 5 17 [(0, .ref (G 0)), (2, .int (J m))] [] μ2 (0 + 1) (0 + 6) := fun h => z_throw C qT_A qS_123 dX5_bulk_17 dX5_bulk_20 dX5_bulk_21 dX5_bulk_23 dX5_bulk_26 (by rw [hr, spBulk, if_neg (by omega), if_pos h]; exact ⟨by simp, hR, Fc_rf _ _⟩)
  refine z_astore_n C dX5_bulk_5 ?_
  refine z_iload_n C dX5_bulk_6 rfl ?_
  refine z_iconst C dX5_bulk_7 ?_
  refine z_icmp_lt (tgt := 17) C dX5_bulk_8 (by decide) (by omega) (fun g1 => ?_) (fun g1 => ?_)
  · exact z_ls _ (by exact ⟨rfl, rfl, trivial⟩) (bad (by omega))
  · refine z_iload_n C dX5_bulk_11 rfl ?_
    refine z_bipush C dX5_bulk_12 ?_
    refine z_icmp_le (tgt := 27) C dX5_bulk_14 (by decide) (by omega) (fun g2 => ?_) (fun g2 => ?_)
    · have fin : r = (0, (blk (dm j) (ru j) m.toNat 0 q).1, (blk (dm j) (ru j) m.toNat 0 q).2, clk, dm, ob, ru, rn, rs, nb, tr) := by rw [hr, spBulk, if_neg (by omega), if_neg (by omega)]; rfl
      obtain ⟨B, hB⟩ : ∃ B, B = blk (dm j) (ru j) m.toNat 0 q := ⟨_, rfl⟩
      rw [← hB] at fin
      have loop : ∀ (f : Nat) (c q' : Int) (μ' : Mem), c + (f : Int) = m → 0 ≤ c → Rc μ' G (q', clk, dm, ob, ru, rn, rs, nb, tr) → okS N (q', clk, dm, ob, ru, rn, rs, nb, tr) → Fc μ2 μ' G → B = blk (dm j) (ru j) f c q' → Z w x (zQ w x (okP G μ2 r) (erP G μ2 r [(eX, 1), (eA, 2)]) 2 20) 5 30 [(0, .ref (G 0)), (2, .int (J m)), (3, .ref (gA G j)), (4, .int (J c))] [] μ' 1 6 := by
        intro f
        induction f with
        | zero =>
          intro c q' μ' hc hc0 hR' hO' hF hb
          refine z_iload C dX5_bulk_30 rfl ?_
          refine z_iload_n C dX5_bulk_32 rfl ?_
          refine z_icmp_ge (tgt := 50) C dX5_bulk_33 (by decide) (by omega) (fun g3 => ?_) (fun g3 => ?_)
          · refine z_iload C dX5_bulk_50 rfl ?_
            exact z_iret C dX5_bulk_52 (by rw [fin, hb]; exact ⟨rfl, rfl, hR', hF⟩)
          · omega
        | succ f ih =>
          intro c q' μ' hc hc0 hR' hO' hF hb
          refine z_iload C dX5_bulk_30 rfl ?_
          refine z_iload_n C dX5_bulk_32 rfl ?_
          refine z_icmp_ge (tgt := 50) C dX5_bulk_33 (by decide) (by omega) (fun g3 => ?_) (fun g3 => ?_)
          · omega
          · refine z_aload_n C dX5_bulk_36 rfl ?_
            refine z_aload_n C dX5_bulk_37 rfl ?_
            have hS' := hR'.1
            have hq' : μ'.2.1 5 3 (G 0) = q' := hR'.2.2.1
            obtain ⟨hI', hl', hRu'⟩ := Rc_its hR' hO' hj
            refine z_callV C (c_walkOn w μ' (G 0) (G 1) (G 2) (G 3) (gA G j) (gL G j) (gP G j) (gU G j) (gN G j) hS'.1 (hS'.2.2 j hj) hI' hRu' (by rw [hq']; exact hO'.2.1.1)) qM_X5_120 dX5_bulk_38 rfl (zRc_o hS'.1.1) (fun _ _ h => h.elim) ?_
            rintro v μ3 ⟨y, rfl, hy, rfl⟩
            rw [hq'] at hy
            obtain ⟨e1, e2⟩ := Rc_nx hR' hj hy
            rw [blk, e1] at hb
            cases y with
            | none =>
              refine z_ifnull (tgt := 50) C dX5_bulk_41 (by decide) (fun g4 => ?_) (fun g4a g4 => ?_)
              · refine z_iload C dX5_bulk_50 rfl ?_
                exact z_iret C dX5_bulk_52 (by rw [fin, hb]; exact ⟨rfl, rfl, hR', hF⟩)
              · cases g4
            | some y =>
              refine z_ifnull (tgt := 50) C dX5_bulk_41 (by decide) (fun g4 => ?_) (fun g4a g4 => ?_)
              · cases g4
              · refine z_iinc C dX5_bulk_44 rfl ?_
                refine z_goto (tgt := 30) C dX5_bulk_47 (by decide) ?_
                have hk := (hO'.2.2.2.1 j hj).2.2.1 _ (nxt_mem e1)
                exact z_ls _ (by exact ⟨rfl, rfl, rfl, rfl, trivial⟩) (ih (c + 1) _ _ (by omega) (by omega) (Rc_q hR' _).1 (okS_q hO' hk.1) (Fc_tr hF (Rc_q hR' _).2) hb)
      refine z_iconst C dX5_bulk_27 ?_
      refine z_istore C dX5_bulk_28 ?_
      exact z_ls _ (by exact ⟨rfl, rfl, rfl, rfl, trivial⟩) (loop m.toNat 0 q μ2 (by omega) (by omega) hR hO (Fc_rf _ _) hB)
    · exact z_ls _ (by exact ⟨rfl, rfl, trivial⟩) (bad (by omega))
