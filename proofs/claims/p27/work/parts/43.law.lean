/-! THE LAW'S OWN ROWS, and its helpers': nothing is thrown there; the script lies below the world. -/
theorem J_andM (z : Int) (k : Nat) {m : Int32} (hm : m.toBitVec.toNat = 2 ^ k - 1) (hk : k ≤ 32) : J z &&& m = J (z % (2 ^ k : Nat)) := by
  rw [pk_and (J z) k hm, ← J_nat]
  congr 1
  have h1 : ((J z).toBitVec.toNat : Int) = z % (2 ^ 32 : Nat) := by
    show ((BitVec.ofInt 32 z).toNat : Int) = _
    rw [BitVec.toNat_ofInt]
    have : (0 : Int) ≤ z % (2 ^ 32 : Nat) := Int.emod_nonneg _ (by decide)
    omega
  rw [Int.natCast_emod, h1]
  refine Int.emod_emod_of_dvd z ?_
  refine Int.natCast_dvd_natCast.mpr ?_
  exact Nat.pow_dvd_pow 2 (by omega)
theorem J_nm (a : Int) : ∃ z, J a = J z ∧ in32 z := by
  obtain ⟨z, h1, h2, h3⟩ := J_ex (J a)
  exact ⟨z, h1, h2, h3⟩
theorem J_shrA (a b : Int32) : ∃ z, a >>> (b &&& 31) = J z ∧ in32 z := by
  obtain ⟨z, h1, h2, h3⟩ := J_ex (a >>> (b &&& 31))
  exact ⟨z, h1, h2, h3⟩
def sv (xs : Nat → Int32) (z : Int) : Int := (xs z.toNat).toInt
theorem sv_in (xs : Nat → Int32) (z : Int) : in32 (sv xs z) := ⟨by have := Int32.le_toInt (xs z.toNat); unfold sv; omega, by have := Int32.toInt_lt (xs z.toNat); unfold sv; omega⟩
/-- the script at b -/
def sX (w : Wd) (b L : Nat) (xs : Nat → Int32) (U : State) : Prop := va_X b L xs U U.heap ∧ b < U.heap.size ∧ b < wb w ∧ L ≤ 260
theorem sX_moved {w : Wd} {b L : Nat} {xs : Nat → Int32} {s U : State} {H : Heap} {locs : List Loc} (h : sX w b L xs s) (hS : va_S (zA w) s.heap H locs) (hU : U.heap = H) (hW : s.WarmedH U.vm) : sX w b L xs U := by
  obtain ⟨h1, h2, h3, h4⟩ := h
  have hq : H[b]? = s.heap[b]? := hS.2.1 b h2 (by show ¬ wb w ≤ b; omega)
  have hz : s.heap.size ≤ H.size := hS.1
  refine ⟨?_, ?_, h3, h4⟩
  · rw [hU]
    exact va_X.moved hW.alike (h1.kept hq)
  · rw [hU]
    omega
def cS (w : Wd) (x : Zc) (b L : Nat) (xs : Nat → Int32) : Prop := match x with
  | (_, _, _, s, _, _, _, _, _) => sX w b L xs s
theorem zLB_CallG {own : String} {index : Nat} {y : MethodName} {cy : ByteArray} {ny : Nat} {ry : Option FieldType} {na my sy dy : Nat} {s : State} {args : Array Value} {R : Room} (h : zLB own index y cy ny ry na) (hts : ∀ q ∈ GT, q.before args s = true) (hd : dy + 1 ≤ R.frames) (hl : 8 + (ny + 11) + 40 * dy ≤ R.locals) :
    CallB R s args own index y cy ny ry (Cond.code y cy ny ry :: GT) (rmv dy my sy) my sy na := by
  obtain ⟨h1, h2, h3, h4, h5⟩ := h
  refine ⟨rfl, rfl, hd, hl, fun q hq a' U hW => ?_, List.mem_cons_self, hts _ h3, hts _ h2, h4, fun sig hs => ?_, hts _ h1⟩
  · rcases List.mem_cons.mp hq with rfl | hq
    · exact word_at hW (gt_good h3) (hts _ h3)
    · exact word_at hW (gt_good hq) (hts _ hq)
  · rw [hs] at h5
    exact (Option.some.inj h5).symm
/-- a helper that reads the script -/
def cX (w : Wd) (b L : Nat) (xs : Nat → Int32) (y : MethodName) (cc : ByteArray) (nL : Nat) (ret : Option FieldType) (d mc ms : Nat) (as : List Value) (μ : Mem) (P : Option Value → Mem → Prop) : Prop :=
  Met (wl w) y (Cond.code y cc nL ret :: GT) (rmv d mc ms) (va_Pc as (fun U => (wI w U ∧ sX w b L xs U) ∧ hHp w μ U.heap)) (zQc w P) mc ms (zA w)
theorem cX_of {w : Wd} {b L : Nat} {xs : Nat → Int32} {y : MethodName} {cc : ByteArray} {nL : Nat} {ret : Option FieldType} {d mc ms : Nat} {as : List Value} {μ : Mem} {P : Option Value → Mem → Prop}
    (body : ∀ x : Zc, Cx w x cc nL RL ret (rmv d mc ms) y.name → cS w x b L xs → Z w x (zQ w x P (fun _ _ => False) mc ms) nL 0 (lv_args 0 as) [] μ 0 0) (hy : plainName y.cls = true := by decide) (hRL : y.cls = RL := by rfl) (hlen : (lg_sl as).length ≤ nL := by first | exact Nat.le_of_ble_eq_true rfl | simp [lg_sl, zcat_rf]) (hcat : ∀ q ∈ lv_args 0 as, q.2.category = 1 := by simp [lv_args, zcat_rf, Value.category]) : cX w b L xs y cc nL ret d mc ms as μ P := by
  have K : vx_Met (wl w) y (Cond.code y cc nL ret :: GT) (rmv d mc ms) (va_Pc as (fun U => (wI w U ∧ sX w b L xs U) ∧ hHp w μ U.heap)) (zQc w P) (zXC w (fun _ _ => False)) mc ms (zA w) := by
    refine vx_ofW (cc := cc) (maxL := nL) (ret := ret) hy rfl ?_
    intro p e s m args below meth c s₁ B hml htab hv
    obtain ⟨rfl, ⟨hw, hn⟩, hH⟩ := hv
    have hts := atoms_spec (ws := Cond.code y cc nL ret :: GT) B.pre
    have hnm : meth.name = y.name := (name_of_methodNamed B.named B.method).1
    have K := body (p, e, (headSpec (Cond.code y cc nL ret :: GT) (rmv d mc ms)).room, s, m, as.toArray, below, meth, c)
      ⟨B.exec, B.bytes, hml, by rw [← hRL]; exact findClass_of_methodNamed B.named, fun q hq => hts q (List.mem_cons_of_mem _ hq), B.notSynchronized, hw, B.returns, rfl, hnm, hH.1, fun _ => htab⟩ hn
    rw [lg_entry_eq]
    exact K s.heap [] _ hH va_S.rf (lv_entry as hlen) hcat
  intro p e ha hc hk s m args below hf happ hp hK
  obtain ⟨n, o, h1, h2, h3, h4⟩ := K p e ha hc hk s m args below hf happ hp hK
  refine ⟨n, o, h1, h2, h3, ?_⟩
  rcases h4 with h4 | ⟨q, ho, E, ce, L, ⟨⟨μ', e1, e2⟩, hF⟩, hr⟩
  · exact h4
  · exact e1.elim
theorem zPc_blindX (w : Wd) (b L : Nat) (xs : Nat → Int32) (as : List Value) (μ : Mem) : FrameBlind (va_Pc as (fun U => (wI w U ∧ sX w b L xs U) ∧ hHp w μ U.heap)) := fun a U g mk h => ⟨h.1, ⟨wI_moved h.2.1.1 va_S.rf rfl (State.WarmedH.refl U), sX_moved h.2.1.2 va_S.rf rfl (State.WarmedH.refl U)⟩, h.2.2⟩
section ZW
variable {w : Wd} {x : Zc} {cc : ByteArray} {nL pc : Nat} {own : String} {rt : Option FieldType} {rm : Room} {nm : String} {ls : List (Nat × Value)} {st : List Value} {μ : Mem} {k n : Nat} {Q : State → Prop}
theorem z_sld (C : Cx w x cc nL own rt rm nm) {b L : Nat} {xs : Nat → Int32} (S : cS w x b L xs) {i : Int} (d : decode cc pc = .ok (.iaload, 1)) (hi : 0 ≤ i ∧ i < (L : Int))
    (kk : Z w x Q nL (pc + 1) ls (.int (J (sv xs i)) :: st) μ k n) : Z w x Q nL pc ls (.int (J i) :: .ref b :: st) μ k n := by
  obtain ⟨p, e, R, s, m, args, below, meth, c⟩ := x
  obtain ⟨hx, hb, hml, ho, hts, hlk, hw, hrt, hR, hnm, hsz, het⟩ := C
  obtain ⟨hX, hbl, hbw, hL8⟩ := S
  intro H locs la hH hS hL hC
  refine va_sld hx hb hX hbl (by show ¬ wb w ≤ b; omega) hS (J_in hi.1 hi.2 (by omega)) d ?_
  rw [J_clamp hi.1 (by omega), show xs i.toNat = J (sv xs i) from (J_of _).symm]
  exact kk H locs la hH hS hL hC
theorem z_slen (C : Cx w x cc nL own rt rm nm) {b L : Nat} {xs : Nat → Int32} (S : cS w x b L xs) (d : decode cc pc = .ok (.arraylength, 1))
    (kk : Z w x Q nL (pc + 1) ls (.int (J (L : Int)) :: st) μ k n) : Z w x Q nL pc ls (.ref b :: st) μ k n := by
  obtain ⟨p, e, R, s, m, args, below, meth, c⟩ := x
  obtain ⟨hx, hb, hml, ho, hts, hlk, hw, hrt, hR, hnm, hsz, het⟩ := C
  obtain ⟨hX, hbl, hbw, hL8⟩ := S
  intro H locs la hH hS hL hC
  refine va_slen hx hb hX hbl (by show ¬ wb w ≤ b; omega) hS d ?_
  rw [show Int32.ofNat L = J (L : Int) from (J_nat L).symm]
  exact kk H locs la hH hS hL hC
theorem z_gV (C : Cx w x cc nL own rt rm nm) {b index ny na dy my sy : Nat} {y : MethodName} {cy : ByteArray} {ry : Option FieldType} {As rest : List Value} {P' : Option Value → Mem → Prop} (hM : cM w y cy ny ry dy my sy (.ref b :: As) μ P' (fun _ _ => False)) (hl : zLV own index y cy ny ry na) (dg : decode cc pc = .ok (.invokevirtual index, 3)) (hst : st = As.reverse ++ .ref b :: rest) (hrc : zRc y.cls b μ)
    (kk : ∀ v μ', P' v μ' → Z w x Q nL (pc + 3) ls (v.toList ++ rest) μ' (k + my) (n + sy)) (hk : k + my ≤ rm.cells) (hn : n + sy ≤ rm.slots) (hna : As.length = na) (hd : dy + 1 ≤ rm.frames ∧ 8 + (ny + 11) + 40 * dy ≤ rm.locals) (hW : (rest.map fun v => v.category).sum ≤ 8) : Z w x Q nL pc ls st μ k n := by
  obtain ⟨p, e, R, s, m, args, below, meth, c⟩ := x
  obtain ⟨hx, hb, hml, ho, hts, hlk, hw, hrt, hR, hnm, hsz, het⟩ := C
  intro H locs la hH hS hL hC
  subst hR
  exact z_afterM (va_runV ⟨hx, hb, hml, ho, hts⟩ (cM_met hM) ⟨zLB_CallG hl.1 hts hd.1 hd.2, hts _ hl.2.1, hts _ hl.2.2⟩ ⟨zPc_blind w _ μ, zRc_cell hrc hw hH, fun U hU hW9 => ⟨rfl, wI_moved hw hS hU hW9, by rw [hU]; exact hH⟩⟩ rfl hna hL.1 hst (lv_room hW) dg ⟨hk, hn⟩) hS (fun v μ' H1 locs1 g1 g2 g3 => kk v μ' g1 H1 locs1 la g2 g3 hL hC)
theorem z_gS (C : Cx w x cc nL own rt rm nm) {index ny na dy my sy : Nat} {y : MethodName} {cy : ByteArray} {ry : Option FieldType} {As rest : List Value} {P' : Option Value → Mem → Prop} (hM : cM w y cy ny ry dy my sy As μ P' (fun _ _ => False)) (hl : zLS own index y cy ny ry na) (dg : decode cc pc = .ok (.invokestatic index, 3)) (hst : st = As.reverse ++ rest)
    (kk : ∀ v μ', P' v μ' → Z w x Q nL (pc + 3) ls (v.toList ++ rest) μ' (k + my) (n + sy)) (hk : k + my ≤ rm.cells) (hn : n + sy ≤ rm.slots) (hna : As.length = na) (hd : dy + 1 ≤ rm.frames ∧ 8 + (ny + 11) + 40 * dy ≤ rm.locals) (hW : (rest.map fun v => v.category).sum ≤ 8) : Z w x Q nL pc ls st μ k n := by
  obtain ⟨p, e, R, s, m, args, below, meth, c⟩ := x
  obtain ⟨hx, hb, hml, ho, hts, hlk, hw, hrt, hR, hnm, hsz, het⟩ := C
  intro H locs la hH hS hL hC
  subst hR
  exact z_afterM (va_runS ⟨hx, hb, hml, ho, hts⟩ (cM_met hM) ⟨zLB_CallG hl.1 hts hd.1 hd.2, hts _ hl.2⟩ ⟨zPc_blind w _ μ, fun U hU hW9 => ⟨rfl, wI_moved hw hS hU hW9, by rw [hU]; exact hH⟩⟩ rfl hna hL.1 hst (lv_room hW) dg ⟨hk, hn⟩) hS (fun v μ' H1 locs1 g1 g2 g3 => kk v μ' g1 H1 locs1 la g2 g3 hL hC)
theorem z_gX (C : Cx w x cc nL own rt rm nm) {b L : Nat} {xs : Nat → Int32} (S : cS w x b L xs) {index ny na dy my sy : Nat} {y : MethodName} {cy : ByteArray} {ry : Option FieldType} {As rest : List Value} {P' : Option Value → Mem → Prop} (hM : cX w b L xs y cy ny ry dy my sy As μ P') (hl : zLS own index y cy ny ry na) (dg : decode cc pc = .ok (.invokestatic index, 3)) (hst : st = As.reverse ++ rest)
    (kk : ∀ v μ', P' v μ' → Z w x Q nL (pc + 3) ls (v.toList ++ rest) μ' (k + my) (n + sy)) (hk : k + my ≤ rm.cells) (hn : n + sy ≤ rm.slots) (hna : As.length = na) (hd : dy + 1 ≤ rm.frames ∧ 8 + (ny + 11) + 40 * dy ≤ rm.locals) (hW : (rest.map fun v => v.category).sum ≤ 8) : Z w x Q nL pc ls st μ k n := by
  obtain ⟨p, e, R, s, m, args, below, meth, c⟩ := x
  obtain ⟨hx, hb, hml, ho, hts, hlk, hw, hrt, hR, hnm, hsz, het⟩ := C
  intro H locs la hH hS hL hC
  subst hR
  exact z_afterM (va_runS ⟨hx, hb, hml, ho, hts⟩ hM ⟨zLB_CallG hl.1 hts hd.1 hd.2, hts _ hl.2⟩ ⟨zPc_blindX w b L xs _ μ, fun U hU hW9 => ⟨rfl, ⟨wI_moved hw hS hU hW9, sX_moved S hS hU hW9⟩, by rw [hU]; exact hH⟩⟩ rfl hna hL.1 hst (lv_room hW) dg ⟨hk, hn⟩) hS (fun v μ' H1 locs1 g1 g2 g3 => kk v μ' g1 H1 locs1 la g2 g3 hL hC)
theorem z_lawI (C : Cx w x cc nL own rt rm nm) {b index ny na dy my sy : Nat} {y : MethodName} {cy : ByteArray} {As rest : List Value} {P' : Option Value → Mem → Prop} (hM : cM w y cy ny none dy my sy (.ref b :: As) μ P' (fun _ _ => False)) (hl : zLI own index y cy ny na) (dg : decode cc pc = .ok (.invokespecial index, 3)) (hst : st = As.reverse ++ .ref b :: rest)
    (kk : ∀ v μ', P' v μ' → Z w x Q nL (pc + 3) ls (v.toList ++ rest) μ' (k + my) (n + sy)) (hk : k + my ≤ rm.cells) (hn : n + sy ≤ rm.slots) (hd : dy + 1 ≤ rm.frames ∧ 8 + (ny + 11) + 40 * dy ≤ rm.locals) (hna : As.length = na := by rfl) (hW : (rest.map fun v => v.category).sum ≤ 8 := by first | exact Nat.le_of_ble_eq_true rfl | simp [zcat_rf, Value.category]) : Z w x Q nL pc ls st μ k n := by
  obtain ⟨p, e, R, s, m, args, below, meth, c⟩ := x
  obtain ⟨hx, hb, hml, ho, hts, hlk, hw, hrt, hR, hnm, hsz, het⟩ := C
  intro H locs la hH hS hL hC
  subst hR
  exact z_afterM (va_runI ⟨hx, hb, hml, ho, hts⟩ (cM_met hM) ⟨zLB_CallG hl.1 hts hd.1 hd.2, hl.2.2, hts _ hl.2.1⟩ ⟨zPc_blind w _ μ, fun U hU hW9 => ⟨rfl, wI_moved hw hS hU hW9, by rw [hU]; exact hH⟩⟩ rfl hna hL.1 hst (lv_room hW) dg ⟨hk, hn⟩) hS (fun v μ' H1 locs1 g1 g2 g3 => kk v μ' g1 H1 locs1 la g2 g3 hL hC)
end ZW
section ZH
variable {w : Wd} {x : Zc} {cc : ByteArray} {nL pc : Nat} {own : String} {rt : Option FieldType} {d mc ms : Nat} {nm : String} {ls : List (Nat × Value)} {st : List Value} {μ : Mem} {k n : Nat} {Q : State → Prop}
/-- a helper calls what never throws -/
theorem z_hV (C : Cx w x cc nL own rt (rmv d mc ms) nm) {b index ny na dy my sy : Nat} {y : MethodName} {cy : ByteArray} {ry : Option FieldType} {As rest : List Value} {P' : Option Value → Mem → Prop} (hM : cM w y cy ny ry dy my sy (.ref b :: As) μ P' (fun _ _ => False)) (hl : zLV own index y cy ny ry na) (dg : decode cc pc = .ok (.invokevirtual index, 3)) (hst : st = As.reverse ++ .ref b :: rest) (hrc : zRc y.cls b μ)
    (kk : ∀ v μ', P' v μ' → Z w x Q nL (pc + 3) ls (v.toList ++ rest) μ' (k + my) (n + sy)) (hk : k + my ≤ mc := by omega) (hn : n + sy ≤ ms := by omega) (hna : As.length = na := by rfl) (hd : dy + 1 ≤ d ∧ 8 + (ny + 11) + 40 * dy ≤ 40 * d := by decide) (hW : (rest.map fun v => v.category).sum ≤ 8 := by first | exact Nat.le_of_ble_eq_true rfl | simp [zcat_rf, Value.category]) : Z w x Q nL pc ls st μ k n :=
  z_gV C hM hl dg hst hrc kk hk hn hna hd hW
theorem z_hS (C : Cx w x cc nL own rt (rmv d mc ms) nm) {index ny na dy my sy : Nat} {y : MethodName} {cy : ByteArray} {ry : Option FieldType} {As rest : List Value} {P' : Option Value → Mem → Prop} (hM : cM w y cy ny ry dy my sy As μ P' (fun _ _ => False)) (hl : zLS own index y cy ny ry na) (dg : decode cc pc = .ok (.invokestatic index, 3)) (hst : st = As.reverse ++ rest)
    (kk : ∀ v μ', P' v μ' → Z w x Q nL (pc + 3) ls (v.toList ++ rest) μ' (k + my) (n + sy)) (hk : k + my ≤ mc := by omega) (hn : n + sy ≤ ms := by omega) (hna : As.length = na := by rfl) (hd : dy + 1 ≤ d ∧ 8 + (ny + 11) + 40 * dy ≤ 40 * d := by decide) (hW : (rest.map fun v => v.category).sum ≤ 8 := by first | exact Nat.le_of_ble_eq_true rfl | simp [zcat_rf, Value.category]) : Z w x Q nL pc ls st μ k n :=
  z_gS C hM hl dg hst kk hk hn hna hd hW
/-- the law calls what never throws -/
theorem z_lawV (C : Cx w x cc nL own rt room_1 nm) {b index ny na dy my sy : Nat} {y : MethodName} {cy : ByteArray} {ry : Option FieldType} {As rest : List Value} {P' : Option Value → Mem → Prop} (hM : cM w y cy ny ry dy my sy (.ref b :: As) μ P' (fun _ _ => False)) (hl : zLV own index y cy ny ry na) (dg : decode cc pc = .ok (.invokevirtual index, 3)) (hst : st = As.reverse ++ .ref b :: rest) (hrc : zRc y.cls b μ)
    (kk : ∀ v μ', P' v μ' → Z w x Q nL (pc + 3) ls (v.toList ++ rest) μ' (k + my) (n + sy)) (hk : k + my ≤ 600130 := by omega) (hn : n + sy ≤ 7301080 := by omega) (hna : As.length = na := by rfl) (hd : dy + 1 ≤ 13 ∧ 8 + (ny + 11) + 40 * dy ≤ 478 := by decide) (hW : (rest.map fun v => v.category).sum ≤ 8 := by first | exact Nat.le_of_ble_eq_true rfl | simp [zcat_rf, Value.category]) : Z w x Q nL pc ls st μ k n :=
  z_gV C hM hl dg hst hrc kk hk hn hna hd hW
theorem z_lawS (C : Cx w x cc nL own rt room_1 nm) {index ny na dy my sy : Nat} {y : MethodName} {cy : ByteArray} {ry : Option FieldType} {As rest : List Value} {P' : Option Value → Mem → Prop} (hM : cM w y cy ny ry dy my sy As μ P' (fun _ _ => False)) (hl : zLS own index y cy ny ry na) (dg : decode cc pc = .ok (.invokestatic index, 3)) (hst : st = As.reverse ++ rest)
    (kk : ∀ v μ', P' v μ' → Z w x Q nL (pc + 3) ls (v.toList ++ rest) μ' (k + my) (n + sy)) (hk : k + my ≤ 600130 := by omega) (hn : n + sy ≤ 7301080 := by omega) (hna : As.length = na := by rfl) (hd : dy + 1 ≤ 13 ∧ 8 + (ny + 11) + 40 * dy ≤ 478 := by decide) (hW : (rest.map fun v => v.category).sum ≤ 8 := by first | exact Nat.le_of_ble_eq_true rfl | simp [zcat_rf, Value.category]) : Z w x Q nL pc ls st μ k n :=
  z_gS C hM hl dg hst kk hk hn hna hd hW
theorem z_lawX (C : Cx w x cc nL own rt room_1 nm) {b L : Nat} {xs : Nat → Int32} (S : cS w x b L xs) {index ny na dy my sy : Nat} {y : MethodName} {cy : ByteArray} {ry : Option FieldType} {As rest : List Value} {P' : Option Value → Mem → Prop} (hM : cX w b L xs y cy ny ry dy my sy As μ P') (hl : zLS own index y cy ny ry na) (dg : decode cc pc = .ok (.invokestatic index, 3)) (hst : st = As.reverse ++ rest)
    (kk : ∀ v μ', P' v μ' → Z w x Q nL (pc + 3) ls (v.toList ++ rest) μ' (k + my) (n + sy)) (hk : k + my ≤ 600130 := by omega) (hn : n + sy ≤ 7301080 := by omega) (hna : As.length = na := by rfl) (hd : dy + 1 ≤ 13 ∧ 8 + (ny + 11) + 40 * dy ≤ 478 := by decide) (hW : (rest.map fun v => v.category).sum ≤ 8 := by first | exact Nat.le_of_ble_eq_true rfl | simp [zcat_rf, Value.category]) : Z w x Q nL pc ls st μ k n :=
  z_gX C S hM hl dg hst kk hk hn hna hd hW
end ZH
/-- a call that is in order does not throw -/
theorem cM_ok {w : Wd} {y : MethodName} {cc : ByteArray} {nL : Nat} {ret : Option FieldType} {d mc ms : Nat} {as : List Value} {μ : Mem} {G : Nat → Nat} {r : Rs} {el : List (String × Int)} (h : cM w y cc nL ret d mc ms as μ (okP G μ r) (erP G μ r el)) (h0 : r.1 = 0) (hel : ∀ p ∈ el, p.2 ≠ 0 := by simp) : cM w y cc nL ret d mc ms as μ (okP G μ r) (fun _ _ => False) :=
  cM_mono h (fun _ _ h => h) (fun E μ' hE => hel _ hE.1 h0)
theorem Rc_g0 {μ : Mem} {G : Nat → Nat} {s : Sg} (h : Rc μ G s) : μ.1 (G 0) = some (5, 0) := by
  obtain ⟨q, clk, dm, ob, ru, rn, rs, nb, tr⟩ := s
  exact h.1.1.1
