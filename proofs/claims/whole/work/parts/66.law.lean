/-! THE LAW'S OWN ROWS: its room is room_1; it reads the script, which lies below the world. -/
def sv (xs : Nat → Int32) (z : Int) : Int := (xs z.toNat).toInt
theorem sv_in (xs : Nat → Int32) (z : Int) : in32 (sv xs z) := ⟨by have := Int32.le_toInt (xs z.toNat); unfold sv; omega, by have := Int32.toInt_lt (xs z.toNat); unfold sv; omega⟩
/-- the law's frame: the script at b, the exceptions apart -/
def cS (w : Wd) (x : Zc) (b L : Nat) (xs : Nat → Int32) : Prop := match x with
  | (_, _, _, s, _, _, _, _, _) => va_X b L xs s s.heap ∧ b < s.heap.size ∧ b < wb w ∧ nC s ∧ L ≤ 2048
theorem zLB_CallR {own : String} {index : Nat} {y : MethodName} {cy : ByteArray} {ny : Nat} {ry : Option FieldType} {na my sy dy : Nat} {s : State} {args : Array Value} (h : zLB own index y cy ny ry na) (hts : ∀ q ∈ GT, q.before args s = true) (hd : dy + 1 ≤ 2048) (hl : 8 + (ny + 11) + 40 * dy ≤ 84000) :
    CallB room_1 s args own index y cy ny ry (Cond.code y cy ny ry :: GT) (rmv dy my sy) my sy na := by
  obtain ⟨h1, h2, h3, h4, h5⟩ := h
  refine ⟨rfl, rfl, hd, hl, fun q hq a' U hW => ?_, List.mem_cons_self, hts _ h3, hts _ h2, h4, fun sig hs => ?_, hts _ h1⟩
  · rcases List.mem_cons.mp hq with rfl | hq
    · exact word_at hW (gt_good h3) (hts _ h3)
    · exact word_at hW (gt_good hq) (hts _ hq)
  · rw [hs] at h5
    exact (Option.some.inj h5).symm
/-- what the tables say of a helper -/
def zLH (index : Nat) (y : MethodName) (cy : ByteArray) (ny : Nat) (ry : Option FieldType) (hh : List (Nat × Nat × Nat × Nat)) (na : Nat) : Prop :=
  Cond.methodLink RL index y ∈ GT ∧ Cond.initialized y.cls ∈ GT ∧ Cond.codeWith y cy ny ry hh ∈ GT ∧ Cond.static y ∈ GT ∧ (y.cls ≠ "java/lang/invoke/MethodHandle" ∧ y.cls ≠ "java/lang/invoke/VarHandle") ∧ (parseMethodDescriptor y.desc).map (fun d => d.parameters.length) = some na
section ZW
variable {w : Wd} {x : Zc} {cc : ByteArray} {nL pc : Nat} {rt : Option FieldType} {nm : String} {ls : List (Nat × Value)} {st : List Value} {μ : Mem} {k n : Nat} {Q : State → Prop}
theorem z_sld (C : Cx w x cc nL RL rt room_1 nm) {b L : Nat} {xs : Nat → Int32} (S : cS w x b L xs) {i : Int} (d : decode cc pc = .ok (.iaload, 1)) (hi : 0 ≤ i ∧ i < (L : Int))
    (kk : Z w x Q nL (pc + 1) ls (.int (J (sv xs i)) :: st) μ k n) : Z w x Q nL pc ls (.int (J i) :: .ref b :: st) μ k n := by
  obtain ⟨p, e, R, s, m, args, below, meth, c⟩ := x
  obtain ⟨hx, hb, hml, ho, hts, hlk, hw, hrt, hR, hnm, hsz, het⟩ := C
  obtain ⟨hX, hbl, hbw, hnc, hL8⟩ := S
  intro H locs la hH hS hL hC
  refine va_sld hx hb hX hbl (by show ¬ wb w ≤ b; omega) hS (J_in hi.1 hi.2 (by omega)) d ?_
  rw [J_clamp hi.1 (by omega), show xs i.toNat = J (sv xs i) from (J_of _).symm]
  exact kk H locs la hH hS hL hC
theorem z_slen (C : Cx w x cc nL RL rt room_1 nm) {b L : Nat} {xs : Nat → Int32} (S : cS w x b L xs) (d : decode cc pc = .ok (.arraylength, 1))
    (kk : Z w x Q nL (pc + 1) ls (.int (J (L : Int)) :: st) μ k n) : Z w x Q nL pc ls (.ref b :: st) μ k n := by
  obtain ⟨p, e, R, s, m, args, below, meth, c⟩ := x
  obtain ⟨hx, hb, hml, ho, hts, hlk, hw, hrt, hR, hnm, hsz, het⟩ := C
  obtain ⟨hX, hbl, hbw, hnc, hL8⟩ := S
  intro H locs la hH hS hL hC
  refine va_slen hx hb hX hbl (by show ¬ wb w ≤ b; omega) hS d ?_
  rw [show Int32.ofNat L = J (L : Int) from (J_nat L).symm]
  exact kk H locs la hH hS hL hC
theorem z_tsIn (C : Cx w x cc nL RL rt room_1 nm) {dflt lo hi : Int} {offs : Array Int} {len : Nat} {z off : Int} {tgt : Nat} (hz : in32 z) (d : decode cc pc = .ok (.tableswitch dflt lo hi offs, len)) (h1 : ¬ z < lo) (h2 : ¬ hi < z) (ho : offs[(z - lo).toNat]? = some off) (ht : (pc : Int) + off = (tgt : Int))
    (kk : Z w x Q nL tgt ls st μ k n) : Z w x Q nL pc ls (.int (J z) :: st) μ k n := by
  obtain ⟨p, e, R, s, m, args, below, meth, c⟩ := x
  obtain ⟨hx, hb, hml, hown, hts, hlk, hw, hrt, hR, hnm, hsz, het⟩ := C
  intro H locs la hH hS hL hC
  have hj := J_toInt hz.1 hz.2
  exact lv_tableIn hx hb d (by rw [hj]; exact h1) (by rw [hj]; exact h2) (by rw [hj]; exact ho) ht (kk H locs la hH hS hL hC)
theorem z_tsOut (C : Cx w x cc nL RL rt room_1 nm) {dflt lo hi : Int} {offs : Array Int} {len : Nat} {z : Int} {tgt : Nat} (hz : in32 z) (d : decode cc pc = .ok (.tableswitch dflt lo hi offs, len)) (h : z < lo ∨ hi < z) (ht : (pc : Int) + dflt = (tgt : Int))
    (kk : Z w x Q nL tgt ls st μ k n) : Z w x Q nL pc ls (.int (J z) :: st) μ k n := by
  obtain ⟨p, e, R, s, m, args, below, meth, c⟩ := x
  obtain ⟨hx, hb, hml, hown, hts, hlk, hw, hrt, hR, hnm, hsz, het⟩ := C
  intro H locs la hH hS hL hC
  exact lv_tableOut hx hb d (by rw [J_toInt hz.1 hz.2]; exact h) ht (kk H locs la hH hS hL hC)
/-- the law calls a method that never throws -/
theorem z_lawV (C : Cx w x cc nL RL rt room_1 nm) {b index ny na dy my sy : Nat} {y : MethodName} {cy : ByteArray} {ry : Option FieldType} {As rest : List Value} {P' : Option Value → Mem → Prop} (hM : cM w y cy ny ry dy my sy (.ref b :: As) μ P' (fun _ _ => False)) (hl : zLV RL index y cy ny ry na) (dg : decode cc pc = .ok (.invokevirtual index, 3)) (hst : st = As.reverse ++ .ref b :: rest) (hrc : zRc y.cls b μ)
    (kk : ∀ v μ', P' v μ' → Z w x Q nL (pc + 3) ls (v.toList ++ rest) μ' (k + my) (n + sy)) (hk : k + my ≤ 601024) (hn : n + sy ≤ 7293034) (hna : As.length = na := by rfl) (hd : dy + 1 ≤ 2048 ∧ 8 + (ny + 11) + 40 * dy ≤ 84000 := by decide) (hW : (rest.map fun v => v.category).sum ≤ 8 := by first | exact Nat.le_of_ble_eq_true rfl | simp [zcat_rf, Value.category]) : Z w x Q nL pc ls st μ k n := by
  obtain ⟨p, e, R, s, m, args, below, meth, c⟩ := x
  obtain ⟨hx, hb, hml, ho, hts, hlk, hw, hrt, hR, hnm, hsz, het⟩ := C
  intro H locs la hH hS hL hC
  subst hR
  exact z_afterM (va_runV ⟨hx, hb, hml, ho, hts⟩ (cM_met hM) ⟨zLB_CallR hl.1 hts hd.1 hd.2, hts _ hl.2.1, hts _ hl.2.2⟩ ⟨zPc_blind w _ μ, zRc_cell hrc hw hH, fun U hU hW9 => ⟨rfl, wI_moved hw hS hU hW9, by rw [hU]; exact hH⟩⟩ rfl hna hL.1 hst (lv_room hW) dg ⟨hk, hn⟩) hS (fun v μ' H1 locs1 g1 g2 g3 => kk v μ' g1 H1 locs1 la g2 g3 hL hC)
theorem z_lawI (C : Cx w x cc nL RL rt room_1 nm) {b index ny na dy my sy : Nat} {y : MethodName} {cy : ByteArray} {As rest : List Value} {P' : Option Value → Mem → Prop} (hM : cM w y cy ny none dy my sy (.ref b :: As) μ P' (fun _ _ => False)) (hl : zLI RL index y cy ny na) (dg : decode cc pc = .ok (.invokespecial index, 3)) (hst : st = As.reverse ++ .ref b :: rest)
    (kk : ∀ v μ', P' v μ' → Z w x Q nL (pc + 3) ls (v.toList ++ rest) μ' (k + my) (n + sy)) (hk : k + my ≤ 601024) (hn : n + sy ≤ 7293034) (hna : As.length = na := by rfl) (hd : dy + 1 ≤ 2048 ∧ 8 + (ny + 11) + 40 * dy ≤ 84000 := by decide) (hW : (rest.map fun v => v.category).sum ≤ 8 := by first | exact Nat.le_of_ble_eq_true rfl | simp [zcat_rf, Value.category]) : Z w x Q nL pc ls st μ k n := by
  obtain ⟨p, e, R, s, m, args, below, meth, c⟩ := x
  obtain ⟨hx, hb, hml, ho, hts, hlk, hw, hrt, hR, hnm, hsz, het⟩ := C
  intro H locs la hH hS hL hC
  subst hR
  exact z_afterM (va_runI ⟨hx, hb, hml, ho, hts⟩ (cM_met hM) ⟨zLB_CallR hl.1 hts hd.1 hd.2, hl.2.2, hts _ hl.2.1⟩ ⟨zPc_blind w _ μ, fun U hU hW9 => ⟨rfl, wI_moved hw hS hU hW9, by rw [hU]; exact hH⟩⟩ rfl hna hL.1 hst (lv_room hW) dg ⟨hk, hn⟩) hS (fun v μ' H1 locs1 g1 g2 g3 => kk v μ' g1 H1 locs1 la g2 g3 hL hC)
theorem zPc_blindH (w : Wd) (as : List Value) (μ : Mem) : FrameBlind (va_Pc as (fun U => (wI w U ∧ nC U) ∧ hHp w μ U.heap)) := fun a U g mk h => ⟨h.1, ⟨wI_moved h.2.1.1 va_S.rf rfl (State.WarmedH.refl U), nC_moved h.2.1.2 (State.WarmedH.refl U)⟩, h.2.2⟩
/-- the law calls a helper -/
theorem z_lawH (C : Cx w x cc nL RL rt room_1 nm) {b L : Nat} {xs : Nat → Int32} (S : cS w x b L xs) {index ny na dy my sy len : Nat} {hs : Hn} {y : MethodName} {cy : ByteArray} {ry : Option FieldType} {As rest : List Value} {P' : Option Value → Mem → Prop} (hM : cH w y cy ny ry len hs dy my sy As μ P') (hl : zLH index y cy ny ry (hTab len hs) na) (dg : decode cc pc = .ok (.invokestatic index, 3)) (hst : st = As.reverse ++ rest)
    (kk : ∀ v μ', P' v μ' → Z w x Q nL (pc + 3) ls (v.toList ++ rest) μ' (k + my) (n + sy)) (hk : k + my ≤ 601024) (hn : n + sy ≤ 7293034) (hna : As.length = na := by rfl) (hd : dy + 1 ≤ 2048 ∧ 8 + (ny + 11) + 40 * dy ≤ 84000 := by decide) (hW : (rest.map fun v => v.category).sum ≤ 8 := by first | exact Nat.le_of_ble_eq_true rfl | simp [zcat_rf, Value.category]) : Z w x Q nL pc ls st μ k n := by
  obtain ⟨p, e, R, s, m, args, below, meth, c⟩ := x
  obtain ⟨hx, hb, hml, ho, hts, hlk, hw, hrt, hR, hnm, hsz, het⟩ := C
  obtain ⟨hX, hbl, hbw, hnc, hL8⟩ := S
  obtain ⟨l1, l2, l3, l4, l5, l6⟩ := hl
  intro H locs la hH hS hL hC
  subst hR
  refine z_afterM (vx_runSW ⟨hx, hb, hml, ho, hts⟩ hM ⟨⟨rfl, rfl, hd.1, hd.2, fun q hq a' U hW9 => ?_, List.mem_cons_self⟩, hts _ l3, hts _ l2, l5, fun sig hs9 => ?_, hts _ l1, hts _ l4⟩ ⟨zPc_blindH w _ μ, fun U hU hW9 => ⟨rfl, ⟨wI_moved hw hS hU hW9, nC_moved hnc hW9⟩, by rw [hU]; exact hH⟩⟩ rfl hna hL.1 hst (lv_room hW) dg ⟨hk, hn⟩) hS (fun v μ' H1 locs1 g1 g2 g3 => kk v μ' g1 H1 locs1 la g2 g3 hL hC)
  · rcases List.mem_cons.mp hq with rfl | hq
    · exact word_at hW9 (gt_good l3) (hts _ l3)
    · exact word_at hW9 (gt_good hq) (hts _ hq)
  · rw [hs9] at l6
    exact (Option.some.inj l6).symm
end ZW
