/-! contracts over a memory: a method from the memory μ returns v and leaves μ' (P v μ'), or throws E and leaves μ' (X E μ') -/
def rmv (d mc ms : Nat) : Room := { frames := d, cells := mc, slots := ms, locals := 40 * d }
def zQc (w : Wd) (P : Option Value → Mem → Prop) : Array Value → State → Outcome → State → Prop := fun _ st oc t => (∃ (v : Option Value) (μ' : Mem), oc = .returned v ∧ P v μ' ∧ hHp w μ' t.heap) ∧ va_F (zA w) st t
def zXC (w : Wd) (X : String → Mem → Prop) : String → State → State → Prop := fun E st t => (∃ μ' : Mem, X E μ' ∧ hHp w μ' t.heap) ∧ va_F (zA w) st t
def cM (w : Wd) (y : MethodName) (cc : ByteArray) (nL : Nat) (ret : Option FieldType) (d mc ms : Nat) (as : List Value) (μ : Mem) (P : Option Value → Mem → Prop) (X : String → Mem → Prop) : Prop :=
  vx_Met (wl w) y (Cond.code y cc nL ret :: GT) (rmv d mc ms) (va_Pc as (fun U => wI w U ∧ hHp w μ U.heap)) (zQc w P) (zXC w X) mc ms (zA w)
def zQ (w : Wd) (x : Zc) (P : Option Value → Mem → Prop) (X : String → Mem → Prop) (mc ms : Nat) : State → Prop := match x with
  | (_, _, _, s, _, args, below, _, _) => vx_MQ below (zQc w P) (zXC w X) args s mc ms (zA w)
theorem hHp_grow {w : Wd} {μ : Mem} {H H1 : Heap} (h : hHp w μ H) (z : H.size ≤ H1.size) (oq : ∀ q : Nat, q < H.size → H1[q]? = H[q]?) : hHp w μ H1 := by
  have hl : ∀ (b : Nat) (kb : Nat × Nat), μ.1 b = some kb → b < H.size := fun b kb hq => hHp_lt h hq
  obtain ⟨hb, hid, hA, hI⟩ := h
  refine ⟨by omega, hid, fun b kb hTb => ?_, hI⟩
  obtain ⟨g1, g2, g3⟩ := hA b kb hTb
  refine ⟨g1, fun h24 => (g2 h24).kept (oq b (hl b kb hTb)), fun h24 => ?_⟩
  obtain ⟨z1, z2⟩ := g3 h24
  refine ⟨z1.kept (oq b (hl b kb hTb)), ?_⟩
  rcases z2 with z2 | ⟨y1, y2, y3, y4⟩
  · exact Or.inl z2
  · exact Or.inr ⟨y1, y2, y3.kept (oq _ y3.lt), y4⟩
theorem zPc_blind (w : Wd) (as : List Value) (μ : Mem) : FrameBlind (va_Pc as (fun U => wI w U ∧ hHp w μ U.heap)) := fun a U g mk h => ⟨h.1, wI_moved h.2.1 va_S.rf rfl (State.WarmedH.refl U), h.2.2⟩
theorem cM_of {w : Wd} {y : MethodName} {cc : ByteArray} {nL : Nat} {ret : Option FieldType} {d mc ms : Nat} {as : List Value} {μ : Mem} {P : Option Value → Mem → Prop} {X : String → Mem → Prop}
    (body : ∀ x : Zc, Cx w x cc nL y.cls ret (rmv d mc ms) y.name → Z w x (zQ w x P X mc ms) nL 0 (lv_args 0 as) [] μ 0 0) (hy : plainName y.cls = true := by decide) (hlen : (lg_sl as).length ≤ nL := by first | exact Nat.le_of_ble_eq_true rfl | simp [lg_sl, zcat_rf]) (hcat : ∀ q ∈ lv_args 0 as, q.2.category = 1 := by simp [lv_args, zcat_rf, Value.category]) : cM w y cc nL ret d mc ms as μ P X := by
  refine vx_ofW (cc := cc) (maxL := nL) (ret := ret) hy rfl ?_
  intro p e s m args below meth c s₁ B hml htab hv
  obtain ⟨rfl, hw, hH⟩ := hv
  have hts := atoms_spec (ws := Cond.code y cc nL ret :: GT) B.pre
  have hnm : meth.name = y.name := (name_of_methodNamed B.named B.method).1
  have K := body (p, e, (headSpec (Cond.code y cc nL ret :: GT) (rmv d mc ms)).room, s, m, as.toArray, below, meth, c)
    ⟨B.exec, B.bytes, hml, findClass_of_methodNamed B.named, fun q hq => hts q (List.mem_cons_of_mem _ hq), B.notSynchronized, hw, B.returns, rfl, hnm, hH.1, fun _ => htab⟩
  rw [lg_entry_eq]
  exact K s.heap [] _ hH va_S.rf (lv_entry as hlen) hcat
/-- a contract says less -/
theorem cM_mono {w : Wd} {y : MethodName} {cc : ByteArray} {nL : Nat} {ret : Option FieldType} {d mc ms : Nat} {as : List Value} {μ : Mem} {P P' : Option Value → Mem → Prop} {X X' : String → Mem → Prop}
    (h : cM w y cc nL ret d mc ms as μ P X) (hP : ∀ v μ', P v μ' → P' v μ') (hX : ∀ E μ', X E μ' → X' E μ') : cM w y cc nL ret d mc ms as μ P' X' := by
  intro p e ha hc hk s m args below hf happ hp hK
  obtain ⟨n, o, h1, h2, h3, h4⟩ := h p e ha hc hk s m args below hf happ hp hK
  refine ⟨n, o, h1, h2, h3, ?_⟩
  rcases h4 with ⟨⟨⟨v, μ', e1, e2, e3⟩, hF⟩, hL⟩ | ⟨q, ho, E, ce, L, ⟨⟨μ', e1, e2⟩, hF⟩, hr⟩
  · exact Or.inl ⟨⟨⟨v, μ', e1, hP _ _ e2, e3⟩, hF⟩, hL⟩
  · exact Or.inr ⟨q, ho, E, ce, L, ⟨⟨μ', hX _ _ e1, e2⟩, hF⟩, hr⟩
/-- one that never throws, as the kit has it -/
theorem cM_met {w : Wd} {y : MethodName} {cc : ByteArray} {nL : Nat} {ret : Option FieldType} {d mc ms : Nat} {as : List Value} {μ : Mem} {P : Option Value → Mem → Prop}
    (h : cM w y cc nL ret d mc ms as μ P (fun _ _ => False)) : Met (wl w) y (Cond.code y cc nL ret :: GT) (rmv d mc ms) (va_Pc as (fun U => wI w U ∧ hHp w μ U.heap)) (zQc w P) mc ms (zA w) := by
  intro p e ha hc hk s m args below hf happ hp hK
  obtain ⟨n, o, h1, h2, h3, h4⟩ := h p e ha hc hk s m args below hf happ hp hK
  refine ⟨n, o, h1, h2, h3, ?_⟩
  rcases h4 with h4 | ⟨q, ho, E, ce, L, ⟨⟨μ', e1, e2⟩, hF⟩, hr⟩
  · exact h4
  · exact e1.elim
/-- a receiver's class -/
def zRc (Cn : String) (b : Nat) (μ : Mem) : Prop := (∃ (ci n0 : Nat) (q : vw_C), μ.1 b = some (ci, n0) ∧ ci < 8 ∧ zCl[ci]? = some q ∧ q.1 = Cn) ∨ ∃ n0 : Nat, μ.1 b = some (24, n0) ∧ Cn = RJx4a65c
theorem zRc_o {b : Nat} {μ : Mem} {ci n0 : Nat} {q : vw_C} (hT : μ.1 b = some (ci, n0)) (hq : zCl[ci]? = some q := by rfl) (hc : ci < 8 := by decide) : zRc q.1 b μ := Or.inl ⟨ci, n0, q, hT, hc, hq, rfl⟩
theorem zRc_l {b : Nat} {μ : Mem} {n0 : Nat} (hT : μ.1 b = some (24, n0)) : zRc RJx4a65c b μ := Or.inr ⟨n0, hT, rfl⟩
theorem zRc_cell {w : Wd} {s : State} {H : Heap} {Cn : String} {b : Nat} {μ : Mem} (h : zRc Cn b μ) (hw : wI w s) (hH : hHp w μ H) : ∃ cell : Cell, H[b]? = some cell ∧ cell.vm.isStatics = false ∧ s.vm.findClass Cn = some cell.cls := by
  rcases h with ⟨ci, n0, q, hT, hc, hq, rfl⟩ | ⟨n0, hT, rfl⟩
  · exact zrecv hw hH hT hq hc
  · exact zrecvL hw hH hT
/-- what the tables say of a call: virtual, static, special -/
def zLB (own : String) (index : Nat) (y : MethodName) (cy : ByteArray) (ny : Nat) (ry : Option FieldType) (na : Nat) : Prop :=
  Cond.methodLink own index y ∈ GT ∧ Cond.initialized y.cls ∈ GT ∧ Cond.code y cy ny ry ∈ GT ∧ (y.cls ≠ "java/lang/invoke/MethodHandle" ∧ y.cls ≠ "java/lang/invoke/VarHandle") ∧ (parseMethodDescriptor y.desc).map (fun d => d.parameters.length) = some na
def zLV (own : String) (index : Nat) (y : MethodName) (cy : ByteArray) (ny : Nat) (ry : Option FieldType) (na : Nat) : Prop := zLB own index y cy ny ry na ∧ Cond.instanceMethod y ∈ GT ∧ Cond.selects y.cls y y ∈ GT
def zLS (own : String) (index : Nat) (y : MethodName) (cy : ByteArray) (ny : Nat) (ry : Option FieldType) (na : Nat) : Prop := zLB own index y cy ny ry na ∧ Cond.static y ∈ GT
def zLI (own : String) (index : Nat) (y : MethodName) (cy : ByteArray) (ny : Nat) (na : Nat) : Prop := zLB own index y cy ny none na ∧ Cond.instanceMethod y ∈ GT ∧ y.name = "<init>"
theorem zLB_CallB {own : String} {index : Nat} {y : MethodName} {cy : ByteArray} {ny : Nat} {ry : Option FieldType} {na d mc ms dy my sy : Nat} {s : State} {args : Array Value} (h : zLB own index y cy ny ry na) (hts : ∀ q ∈ GT, q.before args s = true) (hd : dy + 1 ≤ d) (hl : 8 + (ny + 11) + 40 * dy ≤ 40 * d) :
    CallB (rmv d mc ms) s args own index y cy ny ry (Cond.code y cy ny ry :: GT) (rmv dy my sy) my sy na := by
  obtain ⟨h1, h2, h3, h4, h5⟩ := h
  refine ⟨rfl, rfl, hd, hl, fun q hq a' U hW => ?_, List.mem_cons_self, hts _ h3, hts _ h2, h4, fun sig hs => ?_, hts _ h1⟩
  · rcases List.mem_cons.mp hq with rfl | hq
    · exact word_at hW (gt_good h3) (hts _ h3)
    · exact word_at hW (gt_good hq) (hts _ hq)
  · rw [hs] at h5
    exact (Option.some.inj h5).symm
section ZC
variable {w : Wd} {x : Zc} {cc : ByteArray} {nL pc : Nat} {own : String} {rt : Option FieldType} {d mc ms : Nat} {nm : String} {ls : List (Nat × Value)} {st : List Value} {μ : Mem} {k n : Nat} {P : Option Value → Mem → Prop} {X : String → Mem → Prop}
theorem z_after {Q : State → Prop} {p : Program} {e : Env} {R : Room} {s : State} {m : MethodId} {args : Array Value} {below : List Frame} {meth : Method} {c : Code} {H : Heap} {locs : List Loc} {la : Array Slot} {my sy : Nat} {rest : List Value} {a : Array Value} {P' : Option Value → Mem → Prop} {X' : String → Mem → Prop}
    (hr : vx_Run p (wl w) e R s m args below meth c H locs k n my sy (F0 m pc la st) rest (zQc w P' a) (zXC w X') (zA w)) (hS : va_S (zA w) s.heap H locs)
    (kx : ∀ (E : String) (ce : Cell) (q9 : Addr) (μ' : Mem) (H1 : Heap) (locs1 : List Loc), X' E μ' → hHp w μ' H1 → va_S (zA w) s.heap H1 locs1 → H1[q9]? = some ce → ce.vm = .none → s.vm.findClass E = some ce.cls → vx_W p (wl w) e R s m args below meth c H1 locs1 (k + my) (n + sy) Q (F0 m pc la rest) q9)
    (kk : ∀ (v : Option Value) (μ' : Mem) (H1 : Heap) (locs1 : List Loc), P' v μ' → hHp w μ' H1 → va_S (zA w) s.heap H1 locs1 → W p (wl w) e R s m args below meth c H1 locs1 (k + my) (n + sy) Q (F0 m (pc + 3) la (v.toList ++ rest))) :
    W p (wl w) e R s m args below meth c H locs k n Q (F0 m pc la st) := by
  intro T hT Y
  rcases hr T hT Y with ⟨v, st₀, t, T', L, h0, Y', hL, e1, e2, ⟨⟨v2, μ', hv, hp, hh⟩, hF⟩, stp⟩ | ⟨q, st₀, t, T', L, E, ce, h0, Y', hL, e1, e2, ⟨⟨μ', hp, hh⟩, hF⟩, hce, hcv, hcl, stp⟩
  · cases hv
    obtain ⟨k1, k2, k3⟩ := vx_keep h0 e1 hS (fun _ _ h => h) (fun _ h => h) hL hF
    obtain ⟨t2, a1, b1⟩ := kk v μ' T'.heap (locs ++ L) hp (by rw [e1]; exact hh) k3 T' rfl Y'
    exact ⟨t2, stp t2 a1, b1⟩
  · obtain ⟨k1, k2, k3⟩ := vx_keep h0 e1 hS (fun _ _ h => h) (fun _ h => h) hL hF
    obtain ⟨t2, a1, b1⟩ := kx E ce q μ' T'.heap (locs ++ L) hp (by rw [e1]; exact hh) k3 (by rw [e1]; exact hce) hcv hcl T' rfl Y'
    exact ⟨t2, stp.trans a1, b1⟩
theorem z_afterM {Q : State → Prop} {p : Program} {e : Env} {R : Room} {s : State} {m : MethodId} {args : Array Value} {below : List Frame} {meth : Method} {c : Code} {H : Heap} {locs : List Loc} {la : Array Slot} {my sy : Nat} {rest : List Value} {a : Array Value} {P' : Option Value → Mem → Prop}
    (hr : va_Run p (wl w) e R s m args below meth c H locs k n my sy (F0 m pc la st) rest (zQc w P' a) (zA w)) (hS : va_S (zA w) s.heap H locs)
    (kk : ∀ (v : Option Value) (μ' : Mem) (H1 : Heap) (locs1 : List Loc), P' v μ' → hHp w μ' H1 → va_S (zA w) s.heap H1 locs1 → W p (wl w) e R s m args below meth c H1 locs1 (k + my) (n + sy) Q (F0 m (pc + 3) la (v.toList ++ rest))) :
    W p (wl w) e R s m args below meth c H locs k n Q (F0 m pc la st) := by
  intro T hT Y
  obtain ⟨v, st₀, t, T', L, h0, Y', hL, e1, e2, ⟨⟨v2, μ', hv, hp, hh⟩, hF⟩, stp⟩ := hr T hT Y
  cases hv
  obtain ⟨k1, k2, k3⟩ := vx_keep h0 e1 hS (fun _ _ h => h) (fun _ h => h) hL hF
  obtain ⟨t2, a1, b1⟩ := kk v μ' T'.heap (locs ++ L) hp (by rw [e1]; exact hh) k3 T' rfl Y'
  exact ⟨t2, stp t2 a1, b1⟩
/-- what is thrown and not caught here -/
theorem z_outs {p : Program} {e : Env} {R : Room} {s : State} {m : MethodId} {args : Array Value} {below : List Frame} {meth : Method} {c : Code} {H1 : Heap} {locs1 : List Loc} {la : Array Slot} {rest : List Value} {E : String} {ce : Cell} {q9 : Addr} {μ' : Mem} (hX : X E μ') (hh : hHp w μ' H1) (hS : va_S (zA w) s.heap H1 locs1) (hcell : H1[q9]? = some ce) (hv : ce.vm = .none) (hcl : s.vm.findClass E = some ce.cls) (het : ∀ y ∈ c.exceptionTable.toList, False) (hlk : meth.locks = false) (hk : k ≤ mc) (hn : n ≤ ms) :
    vx_W p (wl w) e R s m args below meth c H1 locs1 k n (vx_MQ below (zQc w P) (zXC w X) args s mc ms (zA w)) (F0 m pc la rest) q9 :=
  vx_out (fun y hy => (het y hy).elim) hlk hcell hv hcl (fun t ht hal => ⟨⟨μ', hX, by rw [ht]; exact hh⟩, hS.F ht⟩) hS.2.2 hk hn
theorem z_callV (C : Cx w x cc nL own rt (rmv d mc ms) nm) {b index ny na dy my sy : Nat} {y : MethodName} {cy : ByteArray} {ry : Option FieldType} {As rest : List Value} {P' : Option Value → Mem → Prop} {X' : String → Mem → Prop} (hM : cM w y cy ny ry dy my sy (.ref b :: As) μ P' X') (hl : zLV own index y cy ny ry na) (dg : decode cc pc = .ok (.invokevirtual index, 3)) (hst : st = As.reverse ++ .ref b :: rest) (hrc : zRc y.cls b μ)
    (kx : ∀ E μ', X' E μ' → X E μ') (kk : ∀ v μ', P' v μ' → Z w x (zQ w x P X mc ms) nL (pc + 3) ls (v.toList ++ rest) μ' (k + my) (n + sy)) (hna : As.length = na := by rfl) (hd : dy + 1 ≤ d ∧ 8 + (ny + 11) + 40 * dy ≤ 40 * d := by decide) (hk : k + my ≤ mc := by first | decide | omega) (hn : n + sy ≤ ms := by first | decide | omega) (hW : (rest.map fun v => v.category).sum ≤ 8 := by first | exact Nat.le_of_ble_eq_true rfl | simp [zcat_rf, Value.category]) (hRL : own ≠ RL := by decide) : Z w x (zQ w x P X mc ms) nL pc ls st μ k n := by
  obtain ⟨p, e, R, s, m, args, below, meth, c⟩ := x
  obtain ⟨hx, hb, hml, ho, hts, hlk, hw, hrt, hR, hnm, hsz, het⟩ := C
  intro H locs la hH hS hL hC
  subst hR
  refine z_after (vx_runV ⟨hx, hb, hml, ho, hts⟩ hM ⟨zLB_CallB hl.1 hts hd.1 hd.2, hts _ hl.2.1, hts _ hl.2.2⟩ ⟨zPc_blind w _ μ, zRc_cell hrc hw hH, fun U hU hW9 => ⟨rfl, wI_moved hw hS hU hW9, by rw [hU]; exact hH⟩⟩ rfl hna hL.1 hst (lv_room hW) dg ⟨hk, hn⟩) hS (fun E ce q9 μ' H1 locs1 g1 g2 g3 g4 g5 g6 => z_outs (kx E μ' g1) g2 g3 g4 g5 g6 (het hRL) hlk hk hn) (fun v μ' H1 locs1 g1 g2 g3 => kk v μ' g1 H1 locs1 la g2 g3 hL hC)
theorem z_callS (C : Cx w x cc nL own rt (rmv d mc ms) nm) {index ny na dy my sy : Nat} {y : MethodName} {cy : ByteArray} {ry : Option FieldType} {As rest : List Value} {P' : Option Value → Mem → Prop} {X' : String → Mem → Prop} (hM : cM w y cy ny ry dy my sy As μ P' X') (hl : zLS own index y cy ny ry na) (dg : decode cc pc = .ok (.invokestatic index, 3)) (hst : st = As.reverse ++ rest)
    (kx : ∀ E μ', X' E μ' → X E μ') (kk : ∀ v μ', P' v μ' → Z w x (zQ w x P X mc ms) nL (pc + 3) ls (v.toList ++ rest) μ' (k + my) (n + sy)) (hna : As.length = na := by rfl) (hd : dy + 1 ≤ d ∧ 8 + (ny + 11) + 40 * dy ≤ 40 * d := by decide) (hk : k + my ≤ mc := by first | decide | omega) (hn : n + sy ≤ ms := by first | decide | omega) (hW : (rest.map fun v => v.category).sum ≤ 8 := by first | exact Nat.le_of_ble_eq_true rfl | simp [zcat_rf, Value.category]) (hRL : own ≠ RL := by decide) : Z w x (zQ w x P X mc ms) nL pc ls st μ k n := by
  obtain ⟨p, e, R, s, m, args, below, meth, c⟩ := x
  obtain ⟨hx, hb, hml, ho, hts, hlk, hw, hrt, hR, hnm, hsz, het⟩ := C
  intro H locs la hH hS hL hC
  subst hR
  refine z_after (vx_runS ⟨hx, hb, hml, ho, hts⟩ hM ⟨zLB_CallB hl.1 hts hd.1 hd.2, hts _ hl.2⟩ ⟨zPc_blind w _ μ, fun U hU hW9 => ⟨rfl, wI_moved hw hS hU hW9, by rw [hU]; exact hH⟩⟩ rfl hna hL.1 hst (lv_room hW) dg ⟨hk, hn⟩) hS (fun E ce q9 μ' H1 locs1 g1 g2 g3 g4 g5 g6 => z_outs (kx E μ' g1) g2 g3 g4 g5 g6 (het hRL) hlk hk hn) (fun v μ' H1 locs1 g1 g2 g3 => kk v μ' g1 H1 locs1 la g2 g3 hL hC)
theorem z_callI {Q : State → Prop} (C : Cx w x cc nL own rt (rmv d mc ms) nm) {b index ny na dy my sy : Nat} {y : MethodName} {cy : ByteArray} {As rest : List Value} {P' : Option Value → Mem → Prop} (hM : cM w y cy ny none dy my sy (.ref b :: As) μ P' (fun _ _ => False)) (hl : zLI own index y cy ny na) (dg : decode cc pc = .ok (.invokespecial index, 3)) (hst : st = As.reverse ++ .ref b :: rest)
    (kk : ∀ v μ', P' v μ' → Z w x Q nL (pc + 3) ls (v.toList ++ rest) μ' (k + my) (n + sy)) (hna : As.length = na := by rfl) (hd : dy + 1 ≤ d ∧ 8 + (ny + 11) + 40 * dy ≤ 40 * d := by decide) (hk : k + my ≤ mc := by first | decide | omega) (hn : n + sy ≤ ms := by first | decide | omega) (hW : (rest.map fun v => v.category).sum ≤ 8 := by first | exact Nat.le_of_ble_eq_true rfl | simp [zcat_rf, Value.category]) : Z w x Q nL pc ls st μ k n := by
  obtain ⟨p, e, R, s, m, args, below, meth, c⟩ := x
  obtain ⟨hx, hb, hml, ho, hts, hlk, hw, hrt, hR, hnm, hsz, het⟩ := C
  intro H locs la hH hS hL hC
  subst hR
  refine z_afterM (va_runI ⟨hx, hb, hml, ho, hts⟩ (cM_met hM) ⟨zLB_CallB hl.1 hts hd.1 hd.2, hl.2.2, hts _ hl.2.1⟩ ⟨zPc_blind w _ μ, fun U hU hW9 => ⟨rfl, wI_moved hw hS hU hW9, by rw [hU]; exact hH⟩⟩ rfl hna hL.1 hst (lv_room hW) dg ⟨hk, hn⟩) hS (fun v μ' H1 locs1 g1 g2 g3 => kk v μ' g1 H1 locs1 la g2 g3 hL hC)
/-- Object.<init> -/
theorem z_objInit {Q : State → Prop} (C : Cx w x cc nL own rt (rmv d mc ms) nm) {a i : Nat} {rest : List Value} (h1 : Cond.methodLink own i objectInit ∈ GT) (h2 : Cond.instanceMethod objectInit ∈ GT) (h3 : Cond.code objectInit ⟨#[0xb1]⟩ 1 none ∈ GT) (dg : decode cc pc = .ok (.invokespecial i, 3))
    (kk : Z w x Q nL (pc + 3) ls rest μ k n) (hd : 1 ≤ d := by decide) (hW : (rest.map fun v => v.category).sum ≤ 8 := by first | exact Nat.le_of_ble_eq_true rfl | simp [zcat_rf, Value.category]) : Z w x Q nL pc ls (.ref a :: rest) μ k n := by
  obtain ⟨p, e, R, s, m, args, below, meth, c⟩ := x
  obtain ⟨hx, hb, hml, ho, hts, hlk, hw, hrt, hR, hnm, hsz, het⟩ := C
  intro H locs la hH hS hL hC
  subst hR
  exact W.objInit hx hb ho (hts _ h1) (hts _ h2) (hts _ h3) rfl (by rw [hml]; exact hL.1) rfl dg hd (by show 2 * 0 + _ + 12 ≤ 40 * d; omega) (kk H locs la hH hS hL hC)
theorem z_iret (C : Cx w x cc nL own rt (rmv d mc ms) nm) {v : Int32} (dg : decode cc pc = .ok (.ireturn, 1)) (hP : P (some (.int v)) μ) (hrt : rt = some .int := by rfl) (hk : k ≤ mc := by first | decide | omega) (hn : n ≤ ms := by first | decide | omega) : Z w x (zQ w x P X mc ms) nL pc ls [.int v] μ k n := by
  obtain ⟨p, e, R, s, m, args, below, meth, c⟩ := x
  obtain ⟨hx, hb, hml, ho, hts, hlk, hw, hr, hR, hnm, hsz, het⟩ := C
  intro H locs la hH hS hL hC
  refine W.widen hk hn (vx_ret (W.iret hx hb (hr.trans hrt) (fun t ht hW => ⟨⟨_, μ, rfl, hP, by rw [ht]; exact hH⟩, hS.F ht⟩) hS.2.2 dg hlk))
theorem z_zret (C : Cx w x cc nL own rt (rmv d mc ms) nm) {v : Int} (dg : decode cc pc = .ok (.ireturn, 1)) (hv : v = 0 ∨ v = 1) (hP : P (some (.int (J v))) μ) (hrt : rt = some .boolean := by rfl) (hk : k ≤ mc := by first | decide | omega) (hn : n ≤ ms := by first | decide | omega) : Z w x (zQ w x P X mc ms) nL pc ls [.int (J v)] μ k n := by
  obtain ⟨p, e, R, s, m, args, below, meth, c⟩ := x
  obtain ⟨hx, hb, hml, ho, hts, hlk, hw, hr, hR, hnm, hsz, het⟩ := C
  intro H locs la hH hS hL hC
  refine W.widen hk hn (vx_ret (W.zret hx hb (hr.trans hrt) (by rcases hv with rfl | rfl <;> rfl) (fun t ht hW => ⟨⟨_, μ, rfl, hP, by rw [ht]; exact hH⟩, hS.F ht⟩) hS.2.2 dg hlk))
theorem z_vret (C : Cx w x cc nL own rt (rmv d mc ms) nm) (dg : decode cc pc = .ok (.return_, 1)) (hP : P none μ) (hrt : rt = none := by rfl) (hk : k ≤ mc := by first | decide | omega) (hn : n ≤ ms := by first | decide | omega) : Z w x (zQ w x P X mc ms) nL pc ls [] μ k n := by
  obtain ⟨p, e, R, s, m, args, below, meth, c⟩ := x
  obtain ⟨hx, hb, hml, ho, hts, hlk, hw, hr, hR, hnm, hsz, het⟩ := C
  intro H locs la hH hS hL hC
  refine W.widen hk hn (vx_ret (W.vret hx hb (hr.trans hrt) (fun t ht hW => ⟨⟨_, μ, rfl, hP, by rw [ht]; exact hH⟩, hS.F ht⟩) hS.2.2 dg hlk))
theorem z_aret (C : Cx w x cc nL own rt (rmv d mc ms) nm) {v : Value} {ty : FieldType} (dg : decode cc pc = .ok (.areturn, 1)) (hP : P (some v) μ) (hrt : rt = some ty := by rfl) (hty : (∃ n, ty = .object n) ∨ ∃ t, ty = .array t := by first | exact Or.inl ⟨_, rfl⟩ | exact Or.inr ⟨_, rfl⟩) (hv : zref v = true := by first | rfl | exact zref_rf _) (hk : k ≤ mc := by first | decide | omega) (hn : n ≤ ms := by first | decide | omega) : Z w x (zQ w x P X mc ms) nL pc ls [v] μ k n := by
  obtain ⟨p, e, R, s, m, args, below, meth, c⟩ := x
  obtain ⟨hx, hb, hml, ho, hts, hlk, hw, hr, hR, hnm, hsz, het⟩ := C
  intro H locs la hH hS hL hC
  refine W.widen hk hn (vx_ret (W.aret hx hb (hr.trans hrt) hty (zref_or hv) (fun t ht hW => ⟨⟨_, μ, rfl, hP, by rw [ht]; exact hH⟩, hS.F ht⟩) hS.2.2 dg hlk))
/-- what the tables say of 'throw new cls("..")' in own -/
def zTh (own : String) (ik ic : Nat) (cls : String) : Prop := Cond.classLink own ik cls ∈ GT ∧ Cond.initialized cls ∈ GT ∧ (∀ q ∈ vx_atS own ic cls ["java/lang/RuntimeException", "java/lang/Exception"], q ∈ GT ∨ q ∈ OT) ∧ (∀ q ∈ Cond.classLink own ik cls :: Cond.initialized cls :: vx_atS own ic cls ["java/lang/RuntimeException", "java/lang/Exception"], vx_ot q = true) ∧ Bundle.fit cls = true
theorem zoW_tab {c : Cond} (h : zoW c = true) : c.onTables = true := by
  cases c <;> first | rfl | (simp [zoW] at h)
theorem z_throw (C : Cx w x cc nL own rt (rmv d mc ms) nm) {ik is ic : Nat} {cls text : String} (hth : zTh own ik ic cls) (hstr : (own, is, text) ∈ zStr) (d0 : decode cc pc = .ok (.new ik, 3)) (d3 : decode cc (pc + 3) = .ok (.dup, 1)) (d4 : decode cc (pc + 4) = .ok (.ldc is, 2)) (d6 : decode cc (pc + 6) = .ok (.invokespecial ic, 3)) (d9 : decode cc (pc + 9) = .ok (.athrow, 1))
    (hX : X cls μ) (hd : 5 < d ∧ 98 ≤ 40 * d := by decide) (hk : k + 1 ≤ mc := by first | decide | omega) (hn : n + 6 ≤ ms := by first | decide | omega) (hW : (st.map fun v => v.category).sum ≤ 16 := by first | exact Nat.le_of_ble_eq_true rfl | simp [zcat_rf, Value.category]) (hRL : own ≠ RL := by decide) : Z w x (zQ w x P X mc ms) nL pc ls st μ k n := by
  obtain ⟨p, e, R, s, m, args, below, meth, c⟩ := x
  obtain ⟨hx, hb, hml, ho, hts, hlk, hw, hr, hR, hnm, hsz, het⟩ := C
  intro H locs la hH hS hL hC
  subst hR
  obtain ⟨t1, t2, t3, t4, t5⟩ := hth
  obtain ⟨w1, w2, w3, w4, w5, w6, w7, w8, w9, w10, w11, w12⟩ := id hw
  obtain ⟨sa, hsa⟩ := w12 _ hstr
  refine vx_throwS (names := ["java/lang/RuntimeException", "java/lang/Exception"]) hx hb w1 ho t5 (by decide) (hts _ t1) (hts _ t2) hsa (fun q hq => ?_) t4 w8 w9 hS (by rw [hml]; exact hL.1) d0 d3 d4 d6 d9 (fun y hy => (het hRL y hy).elim) hd.1 (by show _ + (13 * (2 + 1) + 43) ≤ 40 * d; omega) hk hn hlk (fun t hal hz hq => ⟨⟨μ, hX, hHp_grow hH hz hq⟩, ⟨Nat.le_trans hS.1 hz, fun q g1 g2 => (hq q (Nat.lt_of_lt_of_le g1 hS.1)).trans (hS.2.1 q g1 g2)⟩⟩) hS.2.2 hk hn
  rcases t3 q hq with g | g
  · exact hts _ g
  · exact va_Nw.use (zoW_tab (List.mem_filter.mp g).2) (w5 q g)
end ZC
