/-! what the tables say of the helpers; the memory step by step -/
theorem qH_write : zLH 86 yL_write cL_write 4 (some .int) (hTab 9 [(eA, 13, 12), (eS, 15, 15)]) 3 := ⟨gt_1 (List.mem_of_getElem? (i := 214) rfl) rfl, gt_1 (List.mem_of_getElem? (i := 0) rfl) rfl, gt_1 (List.mem_of_getElem? (i := 216) rfl) rfl, gt_1 (List.mem_of_getElem? (i := 215) rfl) rfl, ⟨by decide, by decide⟩, by decide +kernel⟩
theorem qH_numberAt : zLH 100 yL_numberAt cL_numberAt 4 (some .int) (hTab 9 [(eX, 20, 12)]) 3 := ⟨gt_2 (List.mem_of_getElem? (i := 15) rfl) rfl, gt_1 (List.mem_of_getElem? (i := 0) rfl) rfl, gt_2 (List.mem_of_getElem? (i := 17) rfl) rfl, gt_2 (List.mem_of_getElem? (i := 16) rfl) rfl, ⟨by decide, by decide⟩, by decide +kernel⟩
theorem qH_put : zLH 103 yL_put cL_put 6 (some .int) (hTab 12 [(eX, 20, 15), (eA, 13, 19), (eS, 15, 23)]) 5 := ⟨gt_2 (List.mem_of_getElem? (i := 24) rfl) rfl, gt_1 (List.mem_of_getElem? (i := 0) rfl) rfl, gt_2 (List.mem_of_getElem? (i := 26) rfl) rfl, gt_2 (List.mem_of_getElem? (i := 25) rfl) rfl, ⟨by decide, by decide⟩, by decide +kernel⟩
theorem qH_remove : zLH 107 yL_remove cL_remove 4 (some .int) (hTab 9 [(eX, 20, 12)]) 3 := ⟨gt_2 (List.mem_of_getElem? (i := 166) rfl) rfl, gt_1 (List.mem_of_getElem? (i := 0) rfl) rfl, gt_2 (List.mem_of_getElem? (i := 168) rfl) rfl, gt_2 (List.mem_of_getElem? (i := 167) rfl) rfl, ⟨by decide, by decide⟩, by decide +kernel⟩
theorem qH_change : zLH 110 yL_change cL_change 5 (some .int) (hTab 10 [(eX, 20, 13), (eA, 13, 17), (eS, 15, 21)]) 4 := ⟨gt_2 (List.mem_of_getElem? (i := 173) rfl) rfl, gt_1 (List.mem_of_getElem? (i := 0) rfl) rfl, gt_2 (List.mem_of_getElem? (i := 175) rfl) rfl, gt_2 (List.mem_of_getElem? (i := 174) rfl) rfl, ⟨by decide, by decide⟩, by decide +kernel⟩
theorem qH_get : zLH 114 yL_get cL_get 4 (some .int) (hTab 9 [(eX, 20, 12)]) 3 := ⟨gt_2 (List.mem_of_getElem? (i := 225) rfl) rfl, gt_1 (List.mem_of_getElem? (i := 0) rfl) rfl, gt_2 (List.mem_of_getElem? (i := 227) rfl) rfl, gt_2 (List.mem_of_getElem? (i := 226) rfl) rfl, ⟨by decide, by decide⟩, by decide +kernel⟩
theorem qH_next : zLH 117 yL_next cL_next 4 (some .int) (hTab 9 [(eX, 20, 12)]) 3 := ⟨gt_3 (List.mem_of_getElem? (i := 3) rfl) rfl, gt_1 (List.mem_of_getElem? (i := 0) rfl) rfl, gt_3 (List.mem_of_getElem? (i := 5) rfl) rfl, gt_3 (List.mem_of_getElem? (i := 4) rfl) rfl, ⟨by decide, by decide⟩, by decide +kernel⟩
theorem qH_bulk : zLH 120 yL_bulk cL_bulk 5 (some .int) (hTab 10 [(eX, 20, 13), (eA, 13, 17)]) 4 := ⟨gt_3 (List.mem_of_getElem? (i := 19) rfl) rfl, gt_1 (List.mem_of_getElem? (i := 0) rfl) rfl, gt_3 (List.mem_of_getElem? (i := 21) rfl) rfl, gt_3 (List.mem_of_getElem? (i := 20) rfl) rfl, ⟨by decide, by decide⟩, by decide +kernel⟩
theorem qH_nextBySorting : zLH 123 yL_nextBySorting cL_nextBySorting 4 (some .int) (hTab 9 [(eX, 20, 12)]) 3 := ⟨gt_3 (List.mem_of_getElem? (i := 27) rfl) rfl, gt_1 (List.mem_of_getElem? (i := 0) rfl) rfl, gt_3 (List.mem_of_getElem? (i := 29) rfl) rfl, gt_3 (List.mem_of_getElem? (i := 28) rfl) rfl, ⟨by decide, by decide⟩, by decide +kernel⟩
theorem qH_hide : zLH 126 yL_hide cL_hide 5 (some .int) (hTab 10 [(eX, 20, 13), (eS, 15, 17)]) 4 := ⟨gt_4 (List.mem_of_getElem? (i := 55) rfl) rfl, gt_1 (List.mem_of_getElem? (i := 0) rfl) rfl, gt_4 (List.mem_of_getElem? (i := 57) rfl) rfl, gt_4 (List.mem_of_getElem? (i := 56) rfl) rfl, ⟨by decide, by decide⟩, by decide +kernel⟩
theorem qH_seen : zLH 129 yL_seen cL_seen 4 (some .int) (hTab 9 [(eX, 20, 12)]) 3 := ⟨gt_4 (List.mem_of_getElem? (i := 73) rfl) rfl, gt_1 (List.mem_of_getElem? (i := 0) rfl) rfl, gt_4 (List.mem_of_getElem? (i := 75) rfl) rfl, gt_4 (List.mem_of_getElem? (i := 74) rfl) rfl, ⟨by decide, by decide⟩, by decide +kernel⟩
theorem qH_sample : zLH 132 yL_sample cL_sample 4 (some .int) (hTab 9 [(eX, 20, 12), (eS, 15, 15)]) 3 := ⟨gt_4 (List.mem_of_getElem? (i := 84) rfl) rfl, gt_1 (List.mem_of_getElem? (i := 0) rfl) rfl, gt_4 (List.mem_of_getElem? (i := 86) rfl) rfl, gt_4 (List.mem_of_getElem? (i := 85) rfl) rfl, ⟨by decide, by decide⟩, by decide +kernel⟩
theorem qH_rate : zLH 135 yL_rate cL_rate 4 (some .int) (hTab 9 [(eX, 20, 12), (eS, 15, 15)]) 3 := ⟨gt_4 (List.mem_of_getElem? (i := 111) rfl) rfl, gt_1 (List.mem_of_getElem? (i := 0) rfl) rfl, gt_4 (List.mem_of_getElem? (i := 113) rfl) rfl, gt_4 (List.mem_of_getElem? (i := 112) rfl) rfl, ⟨by decide, by decide⟩, by decide +kernel⟩
theorem qH_restart : zLH 142 yL_restart cL_restart 4 (some .int) (hTab 9 [(eX, 20, 12)]) 3 := ⟨gt_4 (List.mem_of_getElem? (i := 145) rfl) rfl, gt_1 (List.mem_of_getElem? (i := 0) rfl) rfl, gt_4 (List.mem_of_getElem? (i := 147) rfl) rfl, gt_4 (List.mem_of_getElem? (i := 146) rfl) rfl, ⟨by decide, by decide⟩, by decide +kernel⟩
theorem qH_pass : zLH 145 yL_pass cL_pass 4 (some .int) (hTab 9 [(eA, 13, 12), (eS, 15, 15)]) 3 := ⟨gt_4 (List.mem_of_getElem? (i := 152) rfl) rfl, gt_1 (List.mem_of_getElem? (i := 0) rfl) rfl, gt_4 (List.mem_of_getElem? (i := 154) rfl) rfl, gt_4 (List.mem_of_getElem? (i := 153) rfl) rfl, ⟨by decide, by decide⟩, by decide +kernel⟩
theorem qH_trapOf : zLH 152 yL_trapOf cL_trapOf 4 (some .int) (hTab 9 [(eX, 20, 12)]) 3 := ⟨gt_4 (List.mem_of_getElem? (i := 162) rfl) rfl, gt_1 (List.mem_of_getElem? (i := 0) rfl) rfl, gt_4 (List.mem_of_getElem? (i := 164) rfl) rfl, gt_4 (List.mem_of_getElem? (i := 163) rfl) rfl, ⟨by decide, by decide⟩, by decide +kernel⟩
theorem qH_trapAt : zLH 155 yL_trapAt cL_trapAt 4 (some .int) (hTab 9 [(eX, 20, 12)]) 3 := ⟨gt_4 (List.mem_of_getElem? (i := 174) rfl) rfl, gt_1 (List.mem_of_getElem? (i := 0) rfl) rfl, gt_4 (List.mem_of_getElem? (i := 176) rfl) rfl, gt_4 (List.mem_of_getElem? (i := 175) rfl) rfl, ⟨by decide, by decide⟩, by decide +kernel⟩
theorem qH_repeats : zLH 158 yL_repeats cL_repeats 4 (some .int) (hTab 9 [(eX, 20, 12)]) 3 := ⟨gt_4 (List.mem_of_getElem? (i := 181) rfl) rfl, gt_1 (List.mem_of_getElem? (i := 0) rfl) rfl, gt_4 (List.mem_of_getElem? (i := 183) rfl) rfl, gt_4 (List.mem_of_getElem? (i := 182) rfl) rfl, ⟨by decide, by decide⟩, by decide +kernel⟩
theorem qH_setNeighbour : zLH 161 yL_setNeighbour cL_setNeighbour 6 (some .int) (hTab 12 [(eX, 20, 15), (eA, 13, 19)]) 5 := ⟨gt_4 (List.mem_of_getElem? (i := 188) rfl) rfl, gt_1 (List.mem_of_getElem? (i := 0) rfl) rfl, gt_4 (List.mem_of_getElem? (i := 190) rfl) rfl, gt_4 (List.mem_of_getElem? (i := 189) rfl) rfl, ⟨by decide, by decide⟩, by decide +kernel⟩
theorem qH_reach : zLH 164 yL_reach cL_reach 4 (some .int) (hTab 9 [(eX, 20, 12)]) 3 := ⟨gt_4 (List.mem_of_getElem? (i := 198) rfl) rfl, gt_1 (List.mem_of_getElem? (i := 0) rfl) rfl, gt_4 (List.mem_of_getElem? (i := 200) rfl) rfl, gt_4 (List.mem_of_getElem? (i := 199) rfl) rfl, ⟨by decide, by decide⟩, by decide +kernel⟩
theorem qH_setMarks : zLH 138 yL_setMarks cL_setMarks 5 (some .int) (hTab 7 [(eX, 20, 10), (eA, 13, 14), (eS, 15, 18)]) 4 := ⟨gt_4 (List.mem_of_getElem? (i := 121) rfl) rfl, gt_1 (List.mem_of_getElem? (i := 0) rfl) rfl, gt_4 (List.mem_of_getElem? (i := 123) rfl) rfl, gt_4 (List.mem_of_getElem? (i := 122) rfl) rfl, ⟨by decide, by decide⟩, by decide +kernel⟩
def apO (o : Nat) (M : Nat → Nat) : Prop := o ≠ M 0 ∧ ∀ k, mA k = true → o ≠ M k
/-- both sides hold s, the reference's thrown is t -/
def lI (μ : Mem) (G M : Nat → Nat) (o : Nat) (t N : Int) (s : Sg) : Prop := Rc μ G s ∧ Rm μ M t s ∧ okS N s ∧ apart G M ∧ outS μ G o ∧ apO o M
theorem Rm_Fh {μ μ' : Mem} {G M : Nat → Nat} {o : Nat} {t : Int} {s : Sg} (h : Rm μ M t s) (hd : apart G M) (ha : apO o M) (hF : Fh μ μ' G o) : Rm μ' M t s := by
  have hmd := Rm_md h
  have o0 : oth μ G (M 0) := ⟨⟨6, 0, hmd.1, by decide⟩, fun m hm e => (hd m hm).1 e.symm⟩
  have ok : ∀ k, mA k = true → oth μ G (M k) := fun k hk => ⟨⟨_, _, (hmd.2.1 k hk).1, by split <;> decide⟩, fun m hm e => (hd m hm).2 k hk e.symm⟩
  have s0' := hF _ o0 (fun e => ha.1 e.symm)
  have sk := fun k hk => hF _ (ok k hk) (fun e => ha.2 k hk e.symm)
  obtain ⟨q, clk, dm, ob, ru, rn, rs, nb, tr⟩ := s
  obtain ⟨A, ⟨h1, h2, h3, h4, h5, h6⟩, hr⟩ := h
  exact ⟨A, ⟨⟨s0'.1.trans h1.1, fun k hk => ⟨(sk k hk).1.trans (h1.2.1 k hk).1, (s0'.2.2.1 6 k).trans (h1.2.1 k hk).2⟩, h1.2.2⟩, (s0'.2.1 6 0).trans h2, (s0'.2.1 6 1).trans h3, (s0'.2.1 6 2).trans h4, (s0'.2.1 6 18).trans h5, fun k hk => (sk k hk).2.2.2.1.trans (h6 k hk)⟩, hr⟩
theorem Rm_g0 {μ : Mem} {M : Nat → Nat} {t : Int} {s : Sg} (h : Rm μ M t s) : μ.1 (M 0) = some (6, 0) := (Rm_md h).1
/-- behind the reference's call -/
theorem lI_step {μ μ1 μ2 : Mem} {G M : Nat → Nat} {o : Nat} {t N N' : Int} {s : Sg} {r : Rs} (h : lI μ G M o t N s) (hR1 : Rc μ1 G r.2.2) (hF1 : Fh μ μ1 G o) (ho1 : outS μ1 G o) (hR2 : Rm μ2 M r.1 r.2.2) (hF2 : Fm μ1 μ2 M) (hk : okS N' r.2.2) : lI μ2 G M o r.1 N' r.2.2 ∧ μ2.2.2.2.1 o = μ1.2.2.2.1 o := by
  obtain ⟨h1, h2, h3, h4, h5, h6⟩ := h
  have hmd := Rm_md (Rm_Fh h2 h4 h6 hF1)
  exact ⟨⟨Rc_Fm hR1 h4 hmd hF2, hR2, hk, h4, ⟨by rw [hF2.1]; exact ho1.1, ho1.2⟩, h6⟩, (hF2.2 o h6.1 h6.2).2.2.2.1⟩
theorem okS_up {N : Int} {s : Sg} (h : okS N s) (hN : N + 1 ≤ 512) : okS (N + 1) s := by
  obtain ⟨q, clk, dm, ob, ru, rn, rs, nb, tr⟩ := s
  exact okS_1 h hN
theorem c_thrownR (w : Wd) {μ : Mem} {M : Nat → Nat} {t : Int} {s : Sg} (h : Rm μ M t s) : cM w yX6_thrown cX6_thrown 1 (some .int) 1 0 0 [.ref (M 0)] μ (fun v μ' => v = some (.int (J t)) ∧ μ' = μ) (fun _ _ => False) := by
  obtain ⟨q, clk, dm, ob, ru, rn, rs, nb, tr⟩ := s
  obtain ⟨A, hm, -⟩ := h
  exact c_thrown w μ hm
abbrev lc0 (b g m o : Nat) (i : Int) : List (Nat × Value) := [(0, .ref b), (1, .ref g), (2, .ref m), (3, .ref o), (4, .int (J i))]
theorem zsub_lc {ls : List (Nat × Value)} {b g m o : Nat} {i : Int} (h0 : zlk ls 0 = some (.ref b)) (h1 : zlk ls 1 = some (.ref g)) (h2 : zlk ls 2 = some (.ref m)) (h3 : zlk ls 3 = some (.ref o)) (h4 : zlk ls 4 = some (.int (J i))) : zsub ls (lc0 b g m o i) := by
  simp only [zsub]
  exact ⟨h0, h1, h2, h3, h4, trivial⟩
section TAIL
variable {w : Wd} {x : Zc} {pc : Nat} {rt : Option FieldType} {nm : String} {μ : Mem} {k n : Nat} {Q : State → Prop}
/-- codes and answers are compared: they are equal -/
theorem law_tail (C : Cx w x cL_law 7 RL rt room_1 nm) {b : Nat} {G M : Nat → Nat} {o : Nat} {N i : Int} {r : Rs} {z off : Int} (hI : lI μ G M o r.1 N r.2.2) (hz : r.1 = 0 → z = r.2.1) (ho : r.1 = 0 → J (μ.2.2.2.1 o 0) = J r.2.1 ∧ in32 (μ.2.2.2.1 o 0)) (hr : 0 ≤ r.1 ∧ r.1 ≤ 3)
    (d0 : decode cL_law pc = .ok (.aload_n 2, 1)) (d1 : decode cL_law (pc + 1) = .ok (.invokevirtual 92, 3)) (d4 : decode cL_law (pc + 4) = .ok (.iload 5, 2)) (d6 : decode cL_law (pc + 6) = .ok (.if_icmp .eq 5, 3)) (d11 : decode cL_law (pc + 11) = .ok (.iload 5, 2)) (d13 : decode cL_law (pc + 13) = .ok (.ifCond .ne 15, 3)) (d16 : decode cL_law (pc + 16) = .ok (.aload_n 3, 1)) (d17 : decode cL_law (pc + 17) = .ok (.iconst 0, 1)) (d18 : decode cL_law (pc + 18) = .ok (.laload, 1)) (d19 : decode cL_law (pc + 19) = .ok (.iload 6, 2)) (d21 : decode cL_law (pc + 21) = .ok (.i2l, 1)) (d22 : decode cL_law (pc + 22) = .ok (.lcmp, 1)) (d23 : decode cL_law (pc + 23) = .ok (.ifCond .eq 5, 3)) (d28 : decode cL_law (pc + 28) = .ok (.goto off, 3)) (hoff : ((pc + 28 : Nat) : Int) + off = ((1451 : Nat) : Int))
    (hk : k ≤ 601024) (hn : n ≤ 7293034)
    (next : Z w x Q 7 1451 (lc0 b (G 0) (M 0) o i) [] μ k n) : Z w x Q 7 pc [(0, .ref b), (1, .ref (G 0)), (2, .ref (M 0)), (3, .ref o), (4, .int (J i)), (5, .int (J r.1)), (6, .int (J z))] [] μ k n := by
  have goo : Z w x Q 7 (pc + 28) [(0, .ref b), (1, .ref (G 0)), (2, .ref (M 0)), (3, .ref o), (4, .int (J i)), (5, .int (J r.1)), (6, .int (J z))] [] μ k n := by
    refine z_goto (tgt := 1451) C d28 hoff ?_
    exact z_ls _ (zsub_lc rfl rfl rfl rfl rfl) next
  refine z_aload_n C d0 rfl ?_
  refine z_lawV C (c_thrownR w hI.2.1) qM_L_92 d1 rfl (zRc_o (Rm_g0 hI.2.1)) (fun v μ1 h => ?_) hk hn
  obtain ⟨rfl, rfl⟩ := h
  refine z_iload C d4 rfl ?_
  refine z_icmp_eq (tgt := pc + 11) C d6 (by omega) ⟨⟨by omega, by omega⟩, by omega, by omega⟩ (fun _ => ?_) (fun h => absurd rfl h)
  refine z_iload C d11 rfl ?_
  refine z_if_ne (tgt := pc + 28) C d13 (by omega) ⟨by omega, by omega⟩ (fun _ => goo) (fun h => ?_)
  have h0 : r.1 = 0 := by omega
  obtain ⟨e1, e2⟩ := ho h0
  refine z_aload_n C d16 rfl ?_
  refine z_iconst C d17 ?_
  refine z_laload (i := 0) C d18 hI.2.2.2.2.1.1 (by decide) ?_
  refine z_iload C d19 rfl ?_
  rw [hz h0, ← e1]
  refine z_i2l C d21 e2 ?_
  refine z_lcmp C d22 e2 e2 (fun q h1 h2 h3 => ?_)
  refine z_if_eq (tgt := pc + 28) C d23 (by omega) (by omega) (fun _ => ?_) (fun h4 => absurd (h3.mpr rfl) h4)
  rw [hz h0, ← e1] at goo
  exact goo
end TAIL
