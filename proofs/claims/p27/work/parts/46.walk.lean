/-! THE WALK: from the empty path on it comes to all that is seen, once each, in order. -/
/-- a call that is in order answers V and leaves s' -/
theorem cM_v {w : Wd} {y : MethodName} {cc : ByteArray} {nL : Nat} {ret : Option FieldType} {d mc ms : Nat} {as : List Value} {μ : Mem} {G : Nat → Nat} {r : Rs} {el : List (String × Int)} {V : Int} {s' : Sg} (h : cM w y cc nL ret d mc ms as μ (okP G μ r) (erP G μ r el)) (e : r = (0, V, s')) (hel : ∀ p ∈ el, p.2 ≠ 0 := by simp) : cM w y cc nL ret d mc ms as μ (fun v μ' => v = some (.int (J V)) ∧ Rc μ' G s' ∧ Fc μ μ' G) (fun _ _ => False) := by
  subst e
  exact cM_mono h (fun v μ' h => ⟨h.2.1, h.2.2.1, h.2.2.2⟩) (fun E μ' hE => hel _ hE.1 rfl)
theorem cM_v0 {w : Wd} {y : MethodName} {cc : ByteArray} {nL : Nat} {ret : Option FieldType} {d mc ms : Nat} {as : List Value} {μ : Mem} {G : Nat → Nat} {r : Rs} {V : Int} {s' : Sg} (h : cM w y cc nL ret d mc ms as μ (okP G μ r) (fun _ _ => False)) (e : r = (0, V, s')) : cM w y cc nL ret d mc ms as μ (fun v μ' => v = some (.int (J V)) ∧ Rc μ' G s' ∧ Fc μ μ' G) (fun _ _ => False) := by
  subst e
  exact cM_mono h (fun v μ' h => ⟨h.2.1, h.2.2.1, h.2.2.2⟩) (fun E μ' hE => hE)
theorem nx_end {dm : List Int} {ru : Int → Int} {p : Int} (h : ct (fun k => !hidK ru k) dm p = 0) : nx dm ru p = none := by
  rcases nxt_spec (f := fun k => !hidK ru k) (q := p) dm with ⟨h1, h2⟩ | ⟨z, h1, h2, h3, h4, h5⟩
  · exact h1
  · have := ct_00 h h2 h4
    omega
theorem nx_on {dm : List Int} {ru : Int → Int} {p : Int} {f : Nat} (hn : dm.Nodup) (h : ct (fun k => !hidK ru k) dm p = f + 1) : ∃ z, nx dm ru p = some z ∧ z ∈ dm ∧ p < z ∧ hidK ru z = false ∧ ct (fun k => !hidK ru k) dm z = f := by
  rcases nxt_spec (f := fun k => !hidK ru k) (q := p) dm with ⟨h1, h2⟩ | ⟨z, h1, h2, h3, h4, h5⟩
  · have := ct_0 h2
    omega
  · have h9 := ct_z hn h2 h3 h4 h5
    exact ⟨z, h1, h2, h3, by simpa using h4, by omega⟩
theorem c_isWalk (w : Wd) (μ : Mem) (G : Nat → Nat) (N q clk : Int) (dm : Nat → List Int) (ob : Nat → Int → Ob) (ru : Nat → Int → Int) (rn rs : Nat → Int) (nb : Nat → Int → Int) (tr : List Trp) (j : Nat) (hj : j < 4) (hR : Rc μ G (q, clk, dm, ob, ru, rn, rs, nb, tr)) (hO : okS N (q, clk, dm, ob, ru, rn, rs, nb, tr)) (hp : ∀ k ∈ dm j, k ≠ 0) : cM w yL_isWalk cL_isWalk 9 (some .boolean) 11 900 24000 [.ref (G 0), .int (J (j : Int))] μ (fun v μ' => v = some (.int (J 1)) ∧ (∃ q', okK q' ∧ Rc μ' G (q', clk, dm, ob, ru, rn, rs, nb, tr)) ∧ Fc μ μ' G) (fun _ _ => False) := by
  obtain ⟨P, hP⟩ : ∃ P : Option Value → Mem → Prop, P = fun v μ' => v = some (.int (J 1)) ∧ (∃ q', okK q' ∧ Rc μ' G (q', clk, dm, ob, ru, rn, rs, nb, tr)) ∧ Fc μ μ' G := ⟨_, rfl⟩
  rw [← hP]
  obtain ⟨o1, o2, o3, o4, o5⟩ := id hO
  obtain ⟨j1, j2, j3, j4⟩ := o4 j hj
  have hpos : ∀ k ∈ dm j, 0 < k := fun k hk => by
    have h1 := (j3 k hk).1.1
    have h2 := hp k hk
    omega
  obtain ⟨S, hS⟩ : ∃ S, S = ct (fun k => !hidK (ru j) k) (dm j) 0 := ⟨_, rfl⟩
  have hS20 : S ≤ 20 := by
    rw [hS]
    exact Nat.le_trans List.countP_le_length j2
  refine cM_of (fun x C => ?_)
  refine z_aload_n C dL_isWalk_0 rfl ?_
  refine z_iload_n C dL_isWalk_1 rfl ?_
  have e0 : spSeen (j : Int) (q, clk, dm, ob, ru, rn, rs, nb, tr) = (0, (S : Int), q, clk, dm, ob, ru, rn, rs, nb, tr) := by
    rw [spSeen, if_neg (by omega), show ((j : Int)).toNat = j from rfl, ct_all hpos, ← hS]
  have K0 := cM_v (c_seen w μ G N (q, clk, dm, ob, ru, rn, rs, nb, tr) (j : Int) hR hO ⟨by omega, by omega⟩) e0
  refine z_hV C K0 qM_L_27 dL_isWalk_2 rfl (zRc_o (Rc_g0 hR)) (fun r1 μ1 h => ?_)
  obtain ⟨rfl, hR1, hF1⟩ := h
  refine z_istore_n C dL_isWalk_5 ?_
  refine z_iconst C dL_isWalk_6 ?_
  refine z_istore_n C dL_isWalk_7 ?_
  refine z_iconst C dL_isWalk_8 ?_
  refine z_istore C dL_isWalk_9 ?_
  refine z_aload_n C dL_isWalk_11 rfl ?_
  refine z_hV C (c_wipe w μ1 G N _ hR1 hO) qM_L_8 dL_isWalk_12 rfl (zRc_o (Rc_g0 hR1)) (fun r2 μ2 h => ?_)
  obtain ⟨-, rfl, hR2, hF2⟩ := h
  have hR2 : Rc μ2 G (0, clk, dm, ob, ru, rn, rs, nb, tr) := hR2
  refine z_pop C dL_isWalk_15 ?_
  refine z_iconst C dL_isWalk_16 ?_
  refine z_istore C dL_isWalk_17 ?_
  have loop : ∀ (f i : Nat) (μ' : Mem) (p : Int), i + f = S → ct (fun k => !hidK (ru j) k) (dm j) p = f → (p = 0 ∨ (p ∈ dm j ∧ hidK (ru j) p = false)) → okK p → Rc μ' G (p, clk, dm, ob, ru, rn, rs, nb, tr) → Fc μ μ' G → Z w x (zQ w x P (fun _ _ => False) 900 24000) 9 19 [(0, .ref (G 0)), (1, .int (J (j : Int))), (2, .int (J (S : Int))), (3, .int (J (od p))), (4, .int (J 1)), (5, .int (J (i : Int)))] [] μ' (2 + 42 * i) (20 + 1120 * i) := by
    intro f
    induction f with
    | zero =>
      intro i μ' p hi hc hpm hk hR' hF'
      have hod := od_in hk
      have hkp := hk.1
      refine z_iload C dL_isWalk_19 rfl ?_
      refine z_iload_n C dL_isWalk_21 rfl ?_
      refine z_icmp_ge (tgt := 94) C dL_isWalk_22 (by decide) (by omega) (fun h => ?_) (fun h => ?_)
      · refine z_iload C dL_isWalk_94 rfl ?_
        refine z_if_eq (tgt := 129) C dL_isWalk_96 (by decide) (by omega) (fun h1 => ?_) (fun h1 => ?_)
        · omega
        · refine z_aload_n C dL_isWalk_99 rfl ?_
          refine z_iload_n C dL_isWalk_100 rfl ?_
          have hnx := nx_end hc
          have e1 : spSort (j : Int) (p, clk, dm, ob, ru, rn, rs, nb, tr) = (0, -1, p, clk, dm, ob, ru, rn, rs, nb, tr) := by
            rw [spSort, if_neg (by omega), show ((j : Int)).toNat = j from rfl, hnx]
            rfl
          have K1 := cM_v (c_nextBySorting w μ' G N (p, clk, dm, ob, ru, rn, rs, nb, tr) (j : Int) hR' (okS_p hO hk) ⟨by omega, by omega⟩) e1
          refine z_hV C K1 qM_L_30 dL_isWalk_101 rfl (zRc_o (Rc_g0 hR')) (fun r3 μ3 h => ?_)
          obtain ⟨rfl, hR3, hF3⟩ := h
          refine z_iconst C dL_isWalk_104 ?_
          refine z_icmp_ne (tgt := 129) C dL_isWalk_105 (by decide) (by omega) (fun h2 => ?_) (fun h2 => ?_)
          · exact absurd rfl h2
          · refine z_aload_n C dL_isWalk_108 rfl ?_
            refine z_iload_n C dL_isWalk_109 rfl ?_
            have e2 : spNext (j : Int) (p, clk, dm, ob, ru, rn, rs, nb, tr) = (0, -1, p, clk, dm, ob, ru, rn, rs, nb, tr) := by
              rw [spNext, if_neg (by omega), show ((j : Int)).toNat = j from rfl, hnx]
              rfl
            have K2 := cM_v (c_next w μ3 G N (p, clk, dm, ob, ru, rn, rs, nb, tr) (j : Int) hR3 (okS_p hO hk) ⟨by omega, by omega⟩) e2
            refine z_hV C K2 qM_L_33 dL_isWalk_110 rfl (zRc_o (Rc_g0 hR3)) (fun r4 μ4 h => ?_)
            obtain ⟨rfl, hR4, hF4⟩ := h
            refine z_iconst C dL_isWalk_113 ?_
            refine z_icmp_ne (tgt := 129) C dL_isWalk_114 (by decide) (by omega) (fun h3 => ?_) (fun h3 => ?_)
            · exact absurd rfl h3
            · refine z_aload_n C dL_isWalk_117 rfl ?_
              refine z_hS C (c_order w μ4 G N p _ hR4 (okS_p hO hk)) qM_L_36 dL_isWalk_118 rfl (fun r5 μ5 h => ?_)
              obtain ⟨rfl, hR5, hF5⟩ := h
              refine z_iload_n C dL_isWalk_121 rfl ?_
              refine z_icmp_ne (tgt := 129) C dL_isWalk_122 (by decide) (by omega) (fun h4 => ?_) (fun h4 => ?_)
              · exact absurd rfl h4
              · refine z_iconst C dL_isWalk_125 ?_
                refine z_goto (tgt := 130) C dL_isWalk_126 (by decide) ?_
                refine z_istore C dL_isWalk_130 ?_
                refine z_aload_n C dL_isWalk_132 rfl ?_
                refine z_hV C (c_wipe w μ5 G N _ hR5 (okS_p hO hk)) qM_L_8 dL_isWalk_133 rfl (zRc_o (Rc_g0 hR5)) (fun r6 μ6 h => ?_)
                obtain ⟨-, rfl, hR6, hF6⟩ := h
                have hR6 : Rc μ6 G (0, clk, dm, ob, ru, rn, rs, nb, tr) := hR6
                refine z_pop C dL_isWalk_136 ?_
                refine z_iload C dL_isWalk_137 rfl ?_
                refine z_if_eq (tgt := 165) C dL_isWalk_139 (by decide) (by omega) (fun h5 => ?_) (fun h5 => ?_)
                · omega
                · refine z_aload_n C dL_isWalk_142 rfl ?_
                  refine z_iload_n C dL_isWalk_143 rfl ?_
                  refine z_bipush C dL_isWalk_144 ?_
                  obtain ⟨r, hb, hr0, hrm⟩ := blk_spec (ru := ru j) j1 30 0 0 (by rw [← hS]; omega)
                  rw [← hS] at hb
                  have e3 : spBulk (j : Int) 30 (0, clk, dm, ob, ru, rn, rs, nb, tr) = (0, 0 + (S : Int), r, clk, dm, ob, ru, rn, rs, nb, tr) := by
                    rw [spBulk, if_neg (by omega), if_neg (by omega), show ((j : Int)).toNat = j from rfl, show ((30 : Int)).toNat = 30 from rfl, hb]
                  have K3 := cM_v (c_bulk w μ6 G N (0, clk, dm, ob, ru, rn, rs, nb, tr) (j : Int) 30 hR6 (okS_p hO okK_0) ⟨by omega, by omega⟩ ⟨by omega, by omega⟩) e3
                  refine z_hV C K3 qM_L_43 dL_isWalk_146 rfl (zRc_o (Rc_g0 hR6)) (fun r7 μ7 h => ?_)
                  obtain ⟨rfl, hR7, hF7⟩ := h
                  refine z_iload_n C dL_isWalk_149 rfl ?_
                  refine z_icmp_ne (tgt := 165) C dL_isWalk_150 (by decide) (by omega) (fun h6 => ?_) (fun h6 => ?_)
                  · omega
                  · have hrp : r = p := by
                      have g1 : r ≤ p := by
                        rcases hrm with e | ⟨m1, m2, m3⟩
                        · omega
                        · exact ct_00 hc m1 (by simp [m2])
                      have g2 : p ≤ r := by
                        rcases hpm with e | ⟨m1, m2⟩
                        · rcases hrm with e' | ⟨m1', m2', m3'⟩
                          · omega
                          · omega
                        · exact ct_00 hr0 m1 (by simp [m2])
                      omega
                    subst hrp
                    refine z_aload_n C dL_isWalk_153 rfl ?_
                    refine z_hS C (c_order w μ7 G N r _ hR7 (okS_p hO hk)) qM_L_36 dL_isWalk_154 rfl (fun r8 μ8 h => ?_)
                    obtain ⟨rfl, hR8, hF8⟩ := h
                    refine z_iload_n C dL_isWalk_157 rfl ?_
                    refine z_icmp_ne (tgt := 165) C dL_isWalk_158 (by decide) (by omega) (fun h7 => ?_) (fun h7 => ?_)
                    · exact absurd rfl h7
                    · refine z_iconst C dL_isWalk_161 ?_
                      refine z_goto (tgt := 166) C dL_isWalk_162 (by decide) ?_
                      refine z_zret C (v := 1) dL_isWalk_166 (Or.inr rfl) ?_
                      rw [hP]
                      exact ⟨rfl, ⟨r, hk, hR8⟩, Fc_tr hF' (Fc_tr hF3 (Fc_tr hF4 (Fc_tr hF5 (Fc_tr hF6 (Fc_tr hF7 hF8)))))⟩
      · omega
    | succ f ih =>
      intro i μ' p hi hc hpm hk hR' hF'
      have hod := od_in hk
      obtain ⟨z, hnx, hz, hpz, hhz, hcz⟩ := nx_on j1 hc
      obtain ⟨hkz, hoz⟩ := j3 z hz
      have hodz := od_in hkz
      have hlt := od_lt hk hkz hpz
      obtain ⟨V, hV⟩ : ∃ V, V = (ob j z).2.1 := ⟨_, rfl⟩
      have hV9 : 0 ≤ V ∧ V ≤ 999 := by
        rw [hV]
        exact hoz.2.1
      refine z_iload C dL_isWalk_19 rfl ?_
      refine z_iload_n C dL_isWalk_21 rfl ?_
      refine z_icmp_ge (tgt := 94) C dL_isWalk_22 (by decide) (by omega) (fun h => ?_) (fun h => ?_)
      · omega
      · refine z_iload C dL_isWalk_25 rfl ?_
        refine z_if_eq (tgt := 94) C dL_isWalk_27 (by decide) (by omega) (fun h1 => ?_) (fun h1 => ?_)
        · omega
        · refine z_aload_n C dL_isWalk_30 rfl ?_
          refine z_iload_n C dL_isWalk_31 rfl ?_
          have e1 : spSort (j : Int) (p, clk, dm, ob, ru, rn, rs, nb, tr) = (0, V, p, clk, dm, ob, ru, rn, rs, nb, tr) := by
            rw [spSort, if_neg (by omega), show ((j : Int)).toNat = j from rfl, hnx, hV]
            rfl
          have K1 := cM_v (c_nextBySorting w μ' G N (p, clk, dm, ob, ru, rn, rs, nb, tr) (j : Int) hR' (okS_p hO hk) ⟨by omega, by omega⟩) e1
          refine z_hV C K1 qM_L_30 dL_isWalk_32 rfl (zRc_o (Rc_g0 hR')) (fun r3 μ3 h => ?_)
          obtain ⟨rfl, hR3, hF3⟩ := h
          refine z_istore C dL_isWalk_35 ?_
          refine z_aload_n C dL_isWalk_37 rfl ?_
          refine z_iload_n C dL_isWalk_38 rfl ?_
          have e2 : spNext (j : Int) (p, clk, dm, ob, ru, rn, rs, nb, tr) = (0, V, z, clk, dm, ob, ru, rn, rs, nb, tr) := by
            rw [spNext, if_neg (by omega), show ((j : Int)).toNat = j from rfl, hnx, hV]
            rfl
          have K2 := cM_v (c_next w μ3 G N (p, clk, dm, ob, ru, rn, rs, nb, tr) (j : Int) hR3 (okS_p hO hk) ⟨by omega, by omega⟩) e2
          refine z_hV C K2 qM_L_33 dL_isWalk_39 rfl (zRc_o (Rc_g0 hR3)) (fun r4 μ4 h => ?_)
          obtain ⟨rfl, hR4, hF4⟩ := h
          have hR4 : Rc μ4 G (z, clk, dm, ob, ru, rn, rs, nb, tr) := hR4
          refine z_istore C dL_isWalk_42 ?_
          refine z_aload_n C dL_isWalk_44 rfl ?_
          refine z_hS C (c_order w μ4 G N z _ hR4 (okS_p hO hkz)) qM_L_36 dL_isWalk_45 rfl (fun r5 μ5 h => ?_)
          obtain ⟨rfl, hR5, hF5⟩ := h
          refine z_istore C dL_isWalk_48 ?_
          refine z_iload C dL_isWalk_50 rfl ?_
          refine z_if_lt (tgt := 82) C dL_isWalk_52 (by decide) (by omega) (fun h2 => ?_) (fun h2 => ?_)
          · omega
          · refine z_iload C dL_isWalk_55 rfl ?_
            refine z_iload C dL_isWalk_57 rfl ?_
            refine z_icmp_ne (tgt := 82) C dL_isWalk_59 (by decide) (by omega) (fun h3 => ?_) (fun h3 => ?_)
            · exact absurd rfl h3
            · refine z_aload_n C dL_isWalk_62 rfl ?_
              refine z_iload_n C dL_isWalk_63 rfl ?_
              have e3 : spGet (j : Int) (z, clk, dm, ob, ru, rn, rs, nb, tr) = (0, V, z, clk, dm, ob, ru, rn, rs, nb, tr) := by
                rw [spGet, if_neg (by omega), show ((j : Int)).toNat = j from rfl, if_neg (by rw [hhz]; decide), vK, if_pos hz, hV]
              have K3 := cM_v (c_get2 w μ5 G N (z, clk, dm, ob, ru, rn, rs, nb, tr) (j : Int) hR5 (okS_p hO hkz) ⟨by omega, by omega⟩) e3
              refine z_hV C K3 qM_L_40 dL_isWalk_64 rfl (zRc_o (Rc_g0 hR5)) (fun r6 μ6 h => ?_)
              obtain ⟨rfl, hR6, hF6⟩ := h
              have hR6 : Rc μ6 G (z, clk, dm, ob, ru, rn, rs, nb, tr) := hR6
              refine z_iload C dL_isWalk_67 rfl ?_
              refine z_icmp_ne (tgt := 82) C dL_isWalk_69 (by decide) (by omega) (fun h4 => ?_) (fun h4 => ?_)
              · exact absurd rfl h4
              · refine z_iload C dL_isWalk_72 rfl ?_
                refine z_iload_n C dL_isWalk_74 rfl ?_
                refine z_icmp_le (tgt := 82) C dL_isWalk_75 (by decide) (by omega) (fun h5 => ?_) (fun h5 => ?_)
                · omega
                · refine z_iconst C dL_isWalk_78 ?_
                  refine z_goto (tgt := 83) C dL_isWalk_79 (by decide) ?_
                  refine z_istore C dL_isWalk_83 ?_
                  refine z_iload C dL_isWalk_85 rfl ?_
                  refine z_istore_n C dL_isWalk_87 ?_
                  refine z_iinc C dL_isWalk_88 rfl ?_
                  refine z_goto (tgt := 19) C dL_isWalk_91 (by decide) ?_
                  have K9 := ih (i + 1) μ6 z (by omega) hcz (Or.inr ⟨hz, hhz⟩) hkz hR6 (Fc_tr hF' (Fc_tr hF3 (Fc_tr hF4 (Fc_tr hF5 hF6))))
                  rw [show ((i + 1 : Nat) : Int) = (i : Int) + 1 from by omega] at K9
                  exact z_ls _ (by exact ⟨rfl, rfl, rfl, rfl, rfl, rfl, trivial⟩) (z_widen (by omega) (by omega) K9)
  have K := loop S 0 μ2 0 (by omega) hS.symm (Or.inl rfl) okK_0 hR2 (Fc_tr hF1 hF2)
  rw [od_0] at K
  exact z_ls _ (by exact ⟨rfl, rfl, rfl, rfl, rfl, rfl, trivial⟩) (z_widen (by omega) (by omega) K)
