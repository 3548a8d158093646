/-! put and remove -/
section PFI
variable {T : Nat → Option (Nat × Nat)} {F1 F2 F3 : Nat → Nat → Int} {R1 : Nat → Nat → Option Nat} {l : List Nat} {dm : List Int} {ob : Int → Ob}
theorem pIt_filter (h : pIt T F1 F2 F3 R1 l dm ob) (q : Int) : pIt T F1 F2 F3 R1 (l.filter (fun y => !decide (F1 0 y = q))) (dm.filter (fun z => !decide (z = q))) ob := by
  refine ⟨fun y hy => h.1 y (List.mem_filter.mp hy).1, ?_, fun y hy => h.2.2 y (List.mem_filter.mp hy).1⟩
  have := h.2.1.filter (fun z => !decide (z = q))
  rw [List.filter_map] at this
  exact this
end PFI
section PRM
variable {μ : Mem} {G : Nat → Nat} {q clk : Int} {dm : Nat → List Int} {ob : Nat → Int → Ob} {ru : Nat → Int → Int} {rn rs : Nat → Int} {nb : Nat → Int → Int} {tr : List Trp}
theorem Rc_out (h : Rc μ G (q, clk, dm, ob, ru, rn, rs, nb, tr)) {j : Nat} (hj : j < 4) (p : Int) : Rc (sL μ (gL G j) (fOut μ p (μ.2.2.2.2.2 (gL G j)))) G (q, clk, u1 dm j ((dm j).filter (fun z => !decide (z = p))), ob, ru, rn, rs, nb, tr) ∧ Fc μ (sL μ (gL G j) (fOut μ p (μ.2.2.2.2.2 (gL G j)))) G := by
  have h0 := h
  obtain ⟨h1, h2, h3, h4, h5, h6, h7, h8, h9, h10, h11, h12⟩ := h
  have K := Rc_items h0 hj (pIt_filter (h5 j hj) p) (fun i y hi hy hz => h6.1 i j y hi hj hz (List.mem_filter.mp hy).1) (fun i y z m hi hy hz => h6.2 j i y z m hj hi (List.mem_filter.mp hy).1 hz) (fun y z m hy hz => h6.2 j j y z m hj hj (List.mem_filter.mp hy).1 (List.mem_filter.mp hz).1)
  rw [u1_self] at K
  exact K
end PRM
theorem c_remove2 (w : Wd) (μ : Mem) (G : Nat → Nat) (N : Int) (s : Sg) (a : Int) (hR : Rc μ G s) (hO : okS N s) (h32 : in32 a) : cM w yX5_remove cX5_remove 4 (some .int) 10 30 1000 [.ref (G 0), .int (J a)] μ (okP G μ (spRemove a s)) (erP G μ (spRemove a s) [(eX, 1)]) := by
  obtain ⟨q, clk, dm, ob, ru, rn, rs, nb, tr⟩ := s
  have hS := hR.1
  have hq : μ.2.1 5 3 (G 0) = q := hR.2.2.1
  have hc : μ.2.1 5 4 (G 0) = clk := hR.2.2.2.1
  have hqk := hO.2.1
  have hqi := hqk.1
  have hci := hO.2.2.1
  have g0 := hS.1.1
  obtain ⟨r, hr⟩ : ∃ r, r = spRemove a (q, clk, dm, ob, ru, rn, rs, nb, tr) := ⟨_, rfl⟩
  rw [← hr]
  refine cM_of (fun x C => ?_)
  refine z_aload_n C dX5_remove_0 rfl ?_
  refine z_iload_n C dX5_remove_1 rfl ?_
  refine z_callV C (c_agentNumbered w μ (G 0) (G 1) (G 2) (G 3) (gA G) a 1 6 (fun _ => by decide) hS.1 hS.2.1 h32) qM_X5_61 dX5_remove_2 rfl (zRc_o g0) (fun E μ' h => ?_) ?_
  · obtain ⟨rfl, hb, rfl⟩ := h
    rw [hr, spRemove, if_pos hb]
    exact ⟨by simp, hR, Fc_rf _ _⟩
  rintro v μ2 ⟨ha, rfl, rfl⟩
  obtain ⟨j, rfl⟩ : ∃ j : Nat, a = (j : Int) := ⟨a.toNat, by omega⟩
  have hj : j < 4 := by omega
  rw [show ((j : Int)).toNat = j from rfl]
  have gAj := (hS.2.2 j hj).1
  obtain ⟨hI, hl20, hRu⟩ := Rc_its hR hO hj
  have fin : r = (0, vK (dm j) (ob j) q, q, clk, u1 dm j ((dm j).filter (fun z => !decide (z = q))), ob, ru, rn, rs, nb, tr) := by rw [hr, spRemove, if_neg (by omega)]; rfl
  refine z_astore_n C dX5_remove_5 ?_
  refine z_aload_n C dX5_remove_6 rfl ?_
  refine z_aload_n C dX5_remove_7 rfl ?_
  refine z_geti C qF_X5_26 dX5_remove_8 (by assumption) ?_
  rw [hq]
  refine z_callV C (c_itemAt w μ2 (gA G j) (gL G j) (gP G j) (gU G j) (gN G j) q (hS.2.2 j hj) hI hqi) qM_X5_73 dX5_remove_11 rfl (zRc_o gAj) (fun _ _ h => h.elim) ?_
  rintro v μ4 ⟨rfl, y, rfl, hy⟩
  obtain ⟨e1, e2, e3⟩ := Rc_at hR hj hy
  refine z_astore_n C dX5_remove_14 ?_
  refine z_aload_n C dX5_remove_15 rfl ?_
  refine z_aload_n C dX5_remove_16 rfl ?_
  refine z_geti C qF_X5_26 dX5_remove_17 (by assumption) ?_
  rw [hq]
  refine z_callV C (c_takeOut w μ4 (gA G j) (gL G j) (gP G j) (gU G j) (gN G j) q (hS.2.2 j hj) hI hqi) qM_X5_86 dX5_remove_20 rfl (zRc_o gAj) (fun _ _ h => h.elim) ?_
  rintro v μ5 ⟨rfl, rfl⟩
  refine z_aload_n C dX5_remove_23 rfl ?_
  refine z_callS C (c_valueOf w (sL μ4 (gL G j) (fOut μ4 q (μ4.2.2.2.2.2 (gL G j)))) y (fun z hz => (e3 z hz).2.2.2)) qM_X5_98 dX5_remove_24 rfl (fun _ _ h => h.elim) ?_
  rintro v μ6 ⟨rfl, rfl⟩
  rw [show vOf (sL μ4 (gL G j) (fOut μ4 q (μ4.2.2.2.2.2 (gL G j)))) y = vOf μ4 y by cases y <;> rfl, e1]
  exact z_iret C dX5_remove_27 (by rw [fin]; exact ⟨rfl, rfl, (Rc_out hR hj q).1, (Rc_out hR hj q).2⟩)
theorem c_put (w : Wd) (μ : Mem) (G : Nat → Nat) (N : Int) (s : Sg) (a k v : Int) (hR : Rc μ G s) (hO : okS N s) (h32 : in32 a) (hk32 : in32 k) (hv32 : in32 v) : cM w yX5_put cX5_put 6 (some .int) 10 30 1000 [.ref (G 0), .int (J a), .int (J k), .int (J v)] μ (okP G μ (spPut a k v s)) (erP G μ (spPut a k v s) [(eX, 1), (eA, 2), (eS, 3)]) := by
  obtain ⟨p1, p2⟩ := hk32
  obtain ⟨q, clk, dm, ob, ru, rn, rs, nb, tr⟩ := s
  have hS := hR.1
  have hq : μ.2.1 5 3 (G 0) = q := hR.2.2.1
  have hc : μ.2.1 5 4 (G 0) = clk := hR.2.2.2.1
  have hqk := hO.2.1
  have hqi := hqk.1
  have hci := hO.2.2.1
  have g0 := hS.1.1
  obtain ⟨r, hr⟩ : ∃ r, r = spPut a k v (q, clk, dm, ob, ru, rn, rs, nb, tr) := ⟨_, rfl⟩
  rw [← hr]
  refine cM_of (fun x C => ?_)
  refine z_aload_n C dX5_put_0 rfl ?_
  refine z_iload_n C dX5_put_1 rfl ?_
  refine z_callV C (c_agentNumbered w μ (G 0) (G 1) (G 2) (G 3) (gA G) a 1 6 (fun _ => by decide) hS.1 hS.2.1 h32) qM_X5_61 dX5_put_2 rfl (zRc_o g0) (fun E μ' h => ?_) ?_
  · obtain ⟨rfl, hb, rfl⟩ := h
    rw [hr, spPut, if_pos (Or.inl hb)]
    exact ⟨by simp, hR, Fc_rf _ _⟩
  rintro v μ2 ⟨ha, rfl, rfl⟩
  obtain ⟨j, rfl⟩ : ∃ j : Nat, a = (j : Int) := ⟨a.toNat, by omega⟩
  have hj : j < 4 := by omega
  rw [show ((j : Int)).toNat = j from rfl]
  have gAj := (hS.2.2 j hj).1
  obtain ⟨hI, hl20, hRu⟩ := Rc_its hR hO hj
  have good : (k = 0 ∨ k = 1) → Z w x (zQ w x (okP G μ2 r) (erP G μ2 r [(eX, 1), (eA, 2), (eS, 3)]) 30 1000) 6 26 [(0, .ref (G 0)), (1, .int (J (j : Int))), (2, .int (J k)), (3, .int (J v)), (4, .ref (gA G j))] [] μ2 (0 + 1) (0 + 6) := by
    intro hk
    refine z_iload_n C dX5_put_26 rfl ?_
    refine z_callS C (c_checkValue w μ2 v hv32) qM_X5_67 dX5_put_27 rfl (fun E μ' h => ?_) ?_
    · obtain ⟨rfl, hb, rfl⟩ := h
      rw [hr, spPut, if_neg (by omega), if_pos hb]
      exact ⟨by simp, hR, Fc_rf _ _⟩
    rintro _ μ3 ⟨hv, rfl, rfl⟩
    refine z_aload_n C dX5_put_30 rfl ?_
    refine z_geti C qF_X5_26 dX5_put_31 (by assumption) ?_
    rw [hq]
    refine z_if_ne (tgt := 47) C dX5_put_34 (by decide) (by omega) (fun g1 => ?_) (fun g1 => ?_)
    · obtain ⟨b1, b2, b3, b4, b5, b6, b7, b8, b9⟩ := hS.2.2 j hj
      refine z_aload C dX5_put_47 rfl ?_
      refine z_aload_n C dX5_put_49 rfl ?_
      refine z_geti C qF_X5_26 dX5_put_50 (by assumption) ?_
      rw [hq]
      refine z_callV C (c_itemAt w μ3 (gA G j) (gL G j) (gP G j) (gU G j) (gN G j) q (hS.2.2 j hj) hI hqi) qM_X5_73 dX5_put_53 rfl (zRc_o gAj) (fun _ _ h => h.elim) ?_
      rintro _ μ4 ⟨rfl, y, rfl, hy⟩
      obtain ⟨e1, e2, e3⟩ := Rc_at hR hj hy
      have hlen := pIt_len (hR.2.2.2.2.1 j hj)
      have lay : (q ∈ dm j ∨ (dm j).length < 20) → Z w x (zQ w x (okP G μ4 r) (erP G μ4 r [(eX, 1), (eA, 2), (eS, 3)]) 30 1000) 6 86 [(0, .ref (G 0)), (2, .int (J k)), (3, .int (J v)), (4, .ref (gA G j)), (5, va_rf y)] [] μ4 2 12 := by
        intro hroom
        have fin : r = (0, vK (dm j) (ob j) q, q, clk, u1 dm j (q :: (dm j).filter (fun z => !decide (z = q))), uO ob j q (k, v, none, none, none), ru, rn, rs, nb, tr) := by
          rw [hr, spPut, if_neg (by omega), if_neg (by omega), show ((j : Int)).toNat = j from rfl, if_neg (fun e => ?_)]
          rcases e with e | ⟨e, e'⟩
          · exact g1 e
          · rcases hroom with h | h
            · exact e h
            · omega
        refine z_aload C dX5_put_86 rfl ?_
        refine z_aload_n C dX5_put_88 rfl ?_
        refine z_geti C qF_X5_26 dX5_put_89 (by assumption) ?_
        rw [hq]
        refine z_callV C (c_takeOut w μ4 (gA G j) (gL G j) (gP G j) (gU G j) (gN G j) q (hS.2.2 j hj) hI hqi) qM_X5_86 dX5_put_92 rfl (zRc_o gAj) (fun _ _ h => h.elim) ?_
        rintro _ μ5 ⟨rfl, e5⟩
        obtain ⟨hR5, hF5⟩ := Rc_out hR hj q
        rw [← e5] at hR5 hF5
        have hq5 : μ5.2.1 5 3 (G 0) = q := hR5.2.2.1
        have g05 := hR5.1.1.1
        obtain ⟨d1, d2, d3, d4, d5, d6, d7, d8, d9⟩ := hR5.1.2.2 j hj
        have T5 : μ5.1 = μ4.1 := by rw [e5]
        have L5 : μ5.2.2.2.2.2 (gL G j) = fOut μ4 q (μ4.2.2.2.2.2 (gL G j)) := by rw [e5]; exact sL_s
        refine z_aload C dX5_put_95 rfl ?_
        refine z_getr C (gL G j) qF_X5_77 dX5_put_97 d1 d2 ?_
        refine z_new C 1 tyX1 dX5_put_100 rfl rfl i1 tyX1_ok qC_X5_89 qN_1 qI_1 (by decide) (by decide) (by decide) (fun n hn hnb => ?_)
        have gn : G 0 ≠ n := ne_of_T g05 hn
        have g06 : (sN μ5 n (1, 0)).1 (G 0) = some (5, 0) := by rw [(sm_N gn).1]; exact g05
        refine z_dup C dX5_put_103 ?_
        refine z_aload_n C dX5_put_104 rfl ?_
        refine z_geti C qF_X5_26 dX5_put_105 (by assumption) ?_
        refine z_iload_n C dX5_put_108 rfl ?_
        refine z_iload_n C dX5_put_109 rfl ?_
        rw [(sm_N (μ := μ5) (kd := (1, 0)) gn).2.1 5 3, hq5]
        refine z_callI C (c_X1_init w μ5 n q k v hn) qM_X5_91 dX5_put_110 rfl ?_
        rintro _ μ6 ⟨rfl, hnw⟩
        obtain ⟨w1, w2, w3, w4, w5, w6, w7, w8, w9⟩ := id hnw
        have hR6 := Rc_off hR5 hn w2
        have hF6 := Fc_off (G := G) hn w2
        have ln : gL G j ≠ n := ne_of_T d6 hn
        have L6 : μ6.2.2.2.2.2 (gL G j) = fOut μ4 q (μ4.2.2.2.2.2 (gL G j)) := (w2 _ ln).2.2.2.2.2.trans L5
        obtain ⟨k1, k2, k3, k4, k5, k6, k7, k8, k9, k10, k11, k12⟩ := id hR6
        have hl6 : (μ6.2.2.2.2.2 (gL G j)).length ≤ 20 := by
          rw [L6]
          have : (fOut μ4 q (μ4.2.2.2.2.2 (gL G j))).length ≤ (μ4.2.2.2.2.2 (gL G j)).length := List.length_filter_le _ _
          omega
        refine z_callV C (c_add 40 w μ6 (gL G j) n 1 0 0 (k1.2.2 j hj).2.2.2.2.2.1 w3 (Or.inl rfl) (k5 j hj).1 (by omega)) qM_X5_94 dX5_put_113 rfl (zRc_l (k1.2.2 j hj).2.2.2.2.2.1) (fun _ _ h => h.elim) ?_
        rintro _ μ7 ⟨rfl, e7⟩
        have hne : ∀ z i, i < 4 → z ∈ μ6.2.2.2.2.2 (gL G i) → z ≠ n := fun z i hi hz e => by
          subst e
          have hL : μ6.2.2.2.2.2 (gL G i) = μ5.2.2.2.2.2 (gL G i) := (w2 _ (ne_of_T (hR5.1.2.2 i hi).2.2.2.2.2.1 hn)).2.2.2.2.2
          rw [hL] at hz
          obtain ⟨n0, hz0⟩ := (hR5.2.2.2.2.1 i hi).1 z hz
          have hz1 : μ5.1 z = some (1, n0) := hz0
          rw [hn] at hz1
          cases hz1
        have K := Rc_items (l := μ6.2.2.2.2.2 (gL G j) ++ [n]) (dm2 := q :: (dm j).filter (fun z => !decide (z = q))) (ob2 := uI (ob j) q (k, v, none, none, none)) hR6 hj ?_ ?_ ?_ ?_
        · rw [← e7, u1_u1] at K
          refine z_pop (v := .int (J 1)) C dX5_put_116 ?_
          refine z_aload C dX5_put_117 rfl ?_
          have Ty : ∀ z, y = some z → z ≠ n ∧ z ∈ μ4.2.2.2.2.2 (gL G j) := fun z hz => by
            obtain ⟨y1, -, -, n0, y4⟩ := e3 z hz
            exact ⟨fun e => by { rw [e, ← T5, hn] at y4; cases y4 }, y1⟩
          refine z_callS C (c_valueOf w μ7 y (fun z hz => ?_)) qM_X5_98 dX5_put_119 rfl (fun _ _ h => h.elim) ?_
          · obtain ⟨-, -, -, n0, y4⟩ := e3 z hz
            refine ⟨n0, ?_⟩
            rw [e7]
            show μ6.1 z = _
            rw [(w2 z (Ty z hz).1).1, T5]
            exact y4
          rintro _ μ8 ⟨rfl, rfl⟩
          rw [show vOf μ8 y = vK (dm j) (ob j) q by
            rw [← e1, e7]
            cases y with
            | none => rfl
            | some z =>
              show μ6.2.1 1 2 z = μ4.2.1 1 2 z
              rw [(w2 z (Ty z rfl).1).2.1 1 2, e5]]
          exact z_iret C dX5_put_122 (by rw [fin]; exact ⟨rfl, rfl, K.1, Fc_tr (Fc_tr hF5 hF6) K.2⟩)
        · obtain ⟨m1, m2, m3⟩ := k5 j hj
          rw [u1_s] at m2
          refine ⟨fun z hz => ?_, ?_, fun z hz => ?_⟩
          · rcases List.mem_append.mp hz with hz | hz
            · exact m1 z hz
            · rw [List.mem_singleton.mp hz]
              exact ⟨0, w3⟩
          · rw [List.map_append]
            have e9 : [n].map (μ6.2.1 1 0) = [q] := by
              show [μ6.2.1 1 0 n] = [q]
              rw [w4]
            rw [e9]
            exact (List.perm_append_comm.trans (List.Perm.cons q m2))
          · rcases List.mem_append.mp hz with hz | hz
            · have hzq : μ6.2.1 1 0 z ≠ q := by
                intro e
                have := m2.mem_iff.mp (List.mem_map.mpr ⟨z, hz, rfl⟩)
                rw [e] at this
                have := (List.mem_filter.mp this).2
                simp at this
              rw [uI_n _ _ hzq]
              exact m3 z hz
            · rw [List.mem_singleton.mp hz, show μ6.2.1 1 0 n = q from w4, uI_s]
              refine ⟨w5, w6, ?_, ?_, ?_⟩
              · rw [show μ6.2.2.1 1 3 n = none from w7]
                exact True.intro
              · rw [show μ6.2.2.1 1 4 n = none from w8]
                exact True.intro
              · rw [show μ6.2.2.1 1 5 n = none from w9]
                exact True.intro
        · intro i z hi hz hz'
          rcases List.mem_append.mp hz with hz | hz
          · exact k6.1 i j z hi hj hz' hz
          · exact absurd (List.mem_singleton.mp hz) (hne z i hi hz')
        · intro i z z' m hi hz hz' c1 c2
          rcases List.mem_append.mp hz with hz | hz
          · exact k6.2 j i z z' m hj hi hz hz' c1 c2
          · rw [List.mem_singleton.mp hz, w7] at c1
            cases c1
        · intro z z' m hz hz' c1 c2
          rcases List.mem_append.mp hz with hz | hz
          · rcases List.mem_append.mp hz' with hz' | hz'
            · exact k6.2 j j z z' m hj hj hz hz' c1 c2
            · rw [List.mem_singleton.mp hz', w7] at c2
              cases c2
          · rw [List.mem_singleton.mp hz, w7] at c1
            cases c1
      refine z_astore C dX5_put_56 ?_
      refine z_aload C dX5_put_58 rfl ?_
      refine z_ifnonnull (tgt := 86) C dX5_put_60 (by decide) (fun g2a g2 => ?_) (fun g2 => ?_)
      · subst g2
        exact z_ls _ (by exact ⟨rfl, rfl, rfl, rfl, rfl, trivial⟩) (z_widen (by decide) (by decide) (lay (Or.inl (Classical.byContradiction fun h => by cases e2.mpr h))))
      · subst g2
        refine z_aload C dX5_put_63 rfl ?_
        refine z_getr C (gL G j) qF_X5_77 dX5_put_65 b1 b2 ?_
        refine z_callV C (c_size w μ4 (gL G j) 0 b6) qM_X5_80 dX5_put_68 rfl (zRc_l b6) (fun _ _ h => h.elim) ?_
        rintro _ μ5 ⟨rfl, rfl⟩
        refine z_bipush C dX5_put_71 ?_
        refine z_icmp_lt (tgt := 86) C dX5_put_73 (by decide) (by omega) (fun g3 => ?_) (fun g3 => ?_)
        · exact z_ls _ (by exact ⟨rfl, rfl, rfl, rfl, rfl, trivial⟩) (z_widen (by decide) (by decide) (lay (Or.inr (by omega))))
        · exact z_throw C qT_S qS_84 dX5_put_76 dX5_put_79 dX5_put_80 dX5_put_82 dX5_put_85 (by rw [hr, spPut, if_neg (by omega), if_neg (by omega), show ((j : Int)).toNat = j from rfl, if_pos (Or.inr ⟨e2.mp rfl, by omega⟩)]; exact ⟨by simp, hR, Fc_rf _ _⟩)
    · exact z_throw C qT_S qS_71 dX5_put_37 dX5_put_40 dX5_put_41 dX5_put_43 dX5_put_46 (by rw [hr, spPut, if_neg (by omega), if_neg (by omega), if_pos (Or.inl g1)]; exact ⟨by simp, hR, Fc_rf _ _⟩)
  refine z_astore C dX5_put_5 ?_
  refine z_iload_n C dX5_put_7 rfl ?_
  refine z_if_eq (tgt := 26) C dX5_put_8 (by decide) (by omega) (fun g1 => ?_) (fun g1 => ?_)
  · exact z_ls _ (by exact ⟨rfl, rfl, rfl, rfl, rfl, trivial⟩) (good (Or.inl g1))
  · refine z_iload_n C dX5_put_11 rfl ?_
    refine z_iconst C dX5_put_12 ?_
    refine z_icmp_eq (tgt := 26) C dX5_put_13 (by decide) (by omega) (fun g2 => ?_) (fun g2 => ?_)
    · exact z_ls _ (by exact ⟨rfl, rfl, rfl, rfl, rfl, trivial⟩) (good (Or.inr g2))
    · exact z_throw C qT_X qS_65 dX5_put_16 dX5_put_19 dX5_put_20 dX5_put_22 dX5_put_25 (by rw [hr, spPut, if_pos (Or.inr (by omega))]; exact ⟨by simp, hR, Fc_rf _ _⟩)
