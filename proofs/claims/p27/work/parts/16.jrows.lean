/-! rows for the lists' own code -/
theorem qF_Jxc12de_7 : zFL RJxc12de 7 7 0 := ⟨_, _, _, "java/util/AbstractList", rfl, by decide, rfl, i7, gt_1 (List.mem_of_getElem? (i := 53) rfl) rfl, Or.inl rfl⟩
theorem qJ_gets : Cond.fieldLink RJx4a65c 39 "java/util/ArrayList" "DEFAULTCAPACITY_EMPTY_ELEMENTDATA" "[Ljava/lang/Object;" ∈ GT := gt_1 (List.mem_of_getElem? (i := 49) rfl) rfl
theorem qJ_cpyA : Cond.methodLink RJx4a65c 112 arraycopyName ∈ GT := gt_t (by decide +kernel) rfl
theorem qJ_cpyB : Cond.methodLink RJ7 150 arraycopyName ∈ GT := gt_t (by decide +kernel) rfl
theorem qJ_cpyN : Cond.native arraycopyName ∈ GT := gt_t (by decide +kernel) rfl
theorem qJ_cpyS : Cond.static arraycopyName ∈ GT := gt_t (by decide +kernel) rfl
theorem qJ_cpyI : Cond.initialized "java/lang/System" ∈ GT := gt_t (by decide +kernel) rfl
theorem qJ_gcL : Cond.methodLink RJ7 86 ⟨"java/lang/Object", "getClass", "()Ljava/lang/Class;"⟩ ∈ GT := gt_t (by decide +kernel) rfl
theorem qJ_gcS : Cond.selects "[Ljava/lang/Object;" ⟨"java/lang/Object", "getClass", "()Ljava/lang/Class;"⟩ ⟨"java/lang/Object", "getClass", "()Ljava/lang/Class;"⟩ ∈ GT := gt_t (by decide +kernel) rfl
theorem qJ_gcI : Cond.instanceMethod ⟨"java/lang/Object", "getClass", "()Ljava/lang/Class;"⟩ ∈ GT := gt_t (by decide +kernel) rfl
theorem qJ_gcN : Cond.native ⟨"java/lang/Object", "getClass", "()Ljava/lang/Class;"⟩ ∈ GT := gt_t (by decide +kernel) rfl
theorem qJ_castI : Cond.castable "Managetree$Item" "java/lang/Object" ∈ OT := ot_t (by decide +kernel) rfl
theorem qJ_castT : Cond.castable "Managetree$Trap" "java/lang/Object" ∈ OT := ot_t (by decide +kernel) rfl
theorem qJ_maxS : Cond.static Lib.Math.max.name ∈ GT := gt_t (by decide +kernel) rfl
theorem qJ_minS : Cond.static Lib.Math.min.name ∈ GT := gt_t (by decide +kernel) rfl
theorem qJ_mathI : Cond.initialized "java/lang/Math" ∈ GT := gt_t (by decide +kernel) rfl
theorem qJ_maxC : Cond.code Lib.Math.max.name Lib.Math.max.code 2 (some .int) ∈ GT := gt_t (by decide +kernel) rfl
theorem qJ_minC : Cond.code Lib.Math.min.name Lib.Math.min.code 2 (some .int) ∈ GT := gt_t (by decide +kernel) rfl
theorem qJ_m1 : Cond.methodLink RJ8 194 Lib.Math.max.name ∈ GT := gt_t (by decide +kernel) rfl
theorem qJ_m2 : Cond.methodLink RJ7 304 Lib.Math.min.name ∈ GT := gt_t (by decide +kernel) rfl
theorem qJ_m3 : Cond.methodLink RJx4a65c 79 Lib.Math.max.name ∈ GT := gt_t (by decide +kernel) rfl
section ZJ
variable {w : Wd} {x : Zc} {Q : State → Prop} {cc : ByteArray} {nL pc : Nat} {own : String} {rt : Option FieldType} {rm : Room} {nm : String} {ls : List (Nat × Value)} {st : List Value} {μ : Mem} {k n : Nat}
theorem zOb_asg {s : State} {args : Array Value} {Cn : String} (h : va_Nw (.castable Cn "java/lang/Object") s) : ∀ comp c0 : ClassId, s.vm.findClass "java/lang/Object" = some comp → s.vm.findClass Cn = some c0 → s.vm.assignable c0 comp = true := by
  intro comp c0 h1 h2
  obtain ⟨c3, c4, hc3, hc4, hasg⟩ := Cond.castable_spec (va_Nw.use (A := args) rfl h)
  cases hc3.symm.trans h2
  cases hc4.symm.trans h1
  exact hasg
/-- a class whose objects lists hold -/
def zEl (ci : Nat) : Prop := ci = 1 ∨ ci = 4
theorem zEl_recv {s : State} {H : Heap} {args : Array Value} (hw : wI w s) (hH : hHp w μ H) {ci : Nat} (he : zEl ci) : ∃ Cn : String, (∀ comp c0 : ClassId, s.vm.findClass "java/lang/Object" = some comp → s.vm.findClass Cn = some c0 → s.vm.assignable c0 comp = true) ∧ ∀ y n0, μ.1 y = some (ci, n0) → ∃ cell : Cell, H[y]? = some cell ∧ cell.vm.isStatics = false ∧ s.vm.findClass Cn = some cell.cls := by
  rcases he with rfl | rfl
  · exact ⟨RX1, zOb_asg (args := args) (hw.2.2.2.2.1 _ qJ_castI), fun y n0 h => zrecv hw hH h (q := (RX1, TX1, 6)) rfl (by decide)⟩
  · exact ⟨RX4, zOb_asg (args := args) (hw.2.2.2.2.1 _ qJ_castT), fun y n0 h => zrecv hw hH h (q := (RX4, TX4, 4)) rfl (by decide)⟩
theorem z_gets (C : Cx w x cc nL RJx4a65c rt rm nm) (d : decode cc pc = .ok (.getstatic 39, 3)) (kk : Z w x Q nL (pc + 3) ls (.ref (wE w) :: st) μ k n) : Z w x Q nL pc ls st μ k n := by
  obtain ⟨p, e, R, s, m, args, below, meth, c⟩ := x
  obtain ⟨hx, hb, hml, ho, hts, hlk, hw, hrt, hR, hnm, hsz, het⟩ := C
  intro H locs la hH hS hL hC
  exact va_gets hx hb hw.2.2.2.2.2.1 hS ho (hts _ qJ_gets) (fun _ h => h) d (kk H locs la hH hS hL hC)
theorem z_aastore (C : Cx w x cc nL own rt rm nm) {a N v ci n0 : Nat} {i : Int} (d : decode cc pc = .ok (.aastore, 1)) (hT : μ.1 a = some (25, N)) (hi : 0 ≤ i ∧ i < (N : Int) ∧ i ≤ 2147483647) (he : zEl ci) (hv : μ.1 v = some (ci, n0))
    (kk : Z w x Q nL (pc + 1) ls st (sQ μ a i (some v)) k n) : Z w x Q nL pc ls (.ref v :: .int (J i) :: .ref a :: st) μ k n := by
  obtain ⟨p, e, R, s, m, args, below, meth, c⟩ := x
  obtain ⟨hx, hb, hml, ho, hts, hlk, hw, hrt, hR, hnm, hsz, het⟩ := C
  intro H locs la hH hS hL hC
  have hat := hHp_arr hH hT (by decide) (by decide)
  rw [zar_q (Or.inr rfl)] at hat
  have hin := J_in hi.1 hi.2.1 hi.2.2
  have hlt : (J i).toNatClampNeg < N := Nat.not_le.mp fun q => hin (Or.inr q)
  have h0 : ¬ J i < 0 := fun q => hin (Or.inl q)
  obtain ⟨Cn, hasg, hrec⟩ := zEl_recv (args := args) hw hH he
  obtain ⟨cellV, g1, g3, g2⟩ := hrec v n0 hv
  obtain ⟨kA, comp, k1, k2, k3, -⟩ := (zK_at hw (t := 4) (cA := wA w 25) (ty := .object "java/lang/Object") rfl).2
  obtain ⟨kE, hkE, -⟩ := Vm.findClass_spec k3
  obtain ⟨kC, hkC, -⟩ := Vm.findClass_spec g2
  refine W.aast hx hb (zP1 hat 0 _ rfl) (fun q h => by cases h) (fun h => by cases h) k1 k2 rfl hkE ⟨h0, by show _ < (arrV _ _ _).slots.size; rw [arrV_size]; exact hlt⟩ g1 (fun q h => by rw [h] at g3; cases g3) hkC (hasg _ _ k3 g2) rfl rfl d fun H1 e1 z oq => ?_
  refine kk H1 _ la (hHp_step hH hT (by show (25 : Nat) ≠ 24; decide) rfl rfl z oq ?_ (fun b kd' hba => zent_congr kd' (fun _ _ => rfl) (fun _ _ => rfl) rfl (u2_af _ _ _ hba))) (zS_put hS z oq (hHp_wb hH hT)) hL hC
  show va_at (wD w) zCl (a, .inl (wA w 25, N, zar μ.2.2.2.1 (u2 μ.2.2.2.2.1 a i (some v)) 25 a)) H1
  rw [zar_q (Or.inr rfl)]
  show H1[a]? = some (vp_cell _ _)
  rw [e1, vp_cell_q, vp_cell_q, arrV_store, u2_e]
  congr 2
  exact zupd (h := va_rf) (v := some v) hi.1 hi.2.2 rfl
theorem z_aastoreN (C : Cx w x cc nL own rt rm nm) {a N : Nat} {i : Int} (d : decode cc pc = .ok (.aastore, 1)) (hT : μ.1 a = some (25, N)) (hi : 0 ≤ i ∧ i < (N : Int) ∧ i ≤ 2147483647)
    (kk : Z w x Q nL (pc + 1) ls st (sQ μ a i none) k n) : Z w x Q nL pc ls (.null :: .int (J i) :: .ref a :: st) μ k n := by
  obtain ⟨p, e, R, s, m, args, below, meth, c⟩ := x
  obtain ⟨hx, hb, hml, ho, hts, hlk, hw, hrt, hR, hnm, hsz, het⟩ := C
  intro H locs la hH hS hL hC
  have hat := hHp_arr hH hT (by decide) (by decide)
  rw [zar_q (Or.inr rfl)] at hat
  have hin := J_in hi.1 hi.2.1 hi.2.2
  refine va_WaastN (C := "java/lang/Object") hx hb (zP1 hat 0 _ rfl) ((zK_at hw (t := 4) (cA := wA w 25) (ty := .object "java/lang/Object") rfl).1 N (fun j => va_rf (μ.2.2.2.2.1 a (j : Int)))) (fun h => by cases h) (by show ¬ (J i < 0 ∨ (arrV _ _ _).slots.size ≤ _); rw [arrV_size]; exact hin) rfl rfl d fun H1 e1 z oq => ?_
  refine kk H1 _ la (hHp_step hH hT (by show (25 : Nat) ≠ 24; decide) rfl rfl z oq ?_ (fun b kd' hba => zent_congr kd' (fun _ _ => rfl) (fun _ _ => rfl) rfl (u2_af _ _ _ hba))) (zS_put hS z oq (hHp_wb hH hT)) hL hC
  show va_at (wD w) zCl (a, .inl (wA w 25, N, zar μ.2.2.2.1 (u2 μ.2.2.2.2.1 a i none) 25 a)) H1
  rw [zar_q (Or.inr rfl)]
  show H1[a]? = some (vp_cell _ _)
  rw [e1, vp_cell_q, vp_cell_q, arrV_store, u2_e]
  congr 2
  exact zupd (h := va_rf) (v := none) hi.1 hi.2.2 rfl
end ZJ
section ZCP
variable {p : Program} {l : Launch} {e : Env} {R : Room} {s : State} {m : MethodId} {args : Array Value} {below : List Frame} {meth : Method} {c : Code} {H : Heap} {locs : List Loc} {cells slots : Nat} {Q : State → Prop}
variable {cc : ByteArray} {pc : Nat} {ls : Array Slot} {rest : List Value} {A : Nat → Prop} {a : Nat} {H0 : Heap} {cE : ClassId} {E1 C : String}
/-- System.arraycopy of references, after the kit's va_copyq: the rest of the heap is told too -/
theorem z_copy0 {cc : ByteArray} (hexec : p.tables.exec = Jvm.exec) (hb : c.code = cc) (hml : c.maxLocals = ls.size) {own : String} {index : Nat} (hown : s.vm.findClass own = some m.cls) (hlink : (Cond.methodLink own index arraycopyName).before args s = true) (hnat : (Cond.native arraycopyName).before args s = true) (hstat : (Cond.static arraycopyName).before args s = true) (hini : (Cond.initialized "java/lang/System").before args s = true)
    (hE : va_RA s cE (.object E1)) (hO : ArrOfT s cE (.object E1)) {n0 n1 : Nat} {f g : Nat → Option Nat} {a0 : Nat} (hc0 : H[a0]? = some (vp_cell cE (n0, .inr (.inr (.inr (.inr f)))))) (hc1 : H[a]? = some (vp_cell cE (n1, .inr (.inr (.inr (.inr g)))))) (hS : va_S A H0 H locs) (hAa : A a)
    {sp dp n : Int32} (h1 : ¬ sp < 0) (h2 : ¬ dp < 0) (h3 : ¬ n < 0) (h4 : sp.toNatClampNeg + n.toNatClampNeg ≤ n0) (h5 : dp.toNatClampNeg + n.toNatClampNeg ≤ n1) (hel : ∀ i : Nat, i < n.toNatClampNeg → ∀ y : Nat, f (sp.toNatClampNeg + i) = some y → ∃ cellV : Cell, H[y]? = some cellV ∧ cellV.vm.isStatics = false ∧ s.vm.findClass C = some cellV.cls) (hasg : ∀ comp c0 : ClassId, s.vm.findClass E1 = some comp → s.vm.findClass C = some c0 → s.vm.assignable c0 comp = true)
    (hframes : 1 ≤ R.frames) (hlocals : (rest.map fun v => v.category).sum + (nativeFrameWords "java/lang/System" "arraycopy" 5 + 11) ≤ R.locals) (hdg : decode cc pc = .ok (.invokestatic index, 3))
    (kk : ∀ (H1 : Heap) (locs1 : List Loc), H1[a]? = some (vp_cell cE (n1, .inr (.inr (.inr (.inr (va_cpy f g sp.toNatClampNeg dp.toNatClampNeg n.toNatClampNeg)))))) → H1.size = H.size → (∀ q : Nat, q ≠ a → H1[q]? = H[q]?) → va_S A H0 H1 locs1 → W p l e R s m args below meth c H1 locs1 cells slots Q (F0 m (pc + 3) ls rest)) : W p l e R s m args below meth c H locs cells slots Q (F0 m pc ls (.int n :: .int dp :: .ref a :: .int sp :: .ref a0 :: rest)) := by
  have nn : ∀ z : Int32, ¬ z < 0 → z.toInt = (z.toNatClampNeg : Int) := by
    intro z hz
    have hz0 : (0 : Int) ≤ z.toInt := by
      have := Int32.not_lt.mp hz
      simpa using Int32.le_iff_toInt_le.mp this
    show z.toInt = ((z.toInt.toNat : Nat) : Int)
    omega
  intro T hT X
  obtain ⟨-, k0, hk0, cm0, hkk0⟩ := hO n0 (fun j => va_rf (f j))
  have hk1 := hk0
  have hkk1 := hkk0
  obtain ⟨vm', X', step⟩ := X.arraycopy hexec hown hlink hnat hstat hini (src := a0) (dst := a) (cs := vp_cell cE (n0, .inr (.inr (.inr (.inr f))))) (cd := vp_cell cE (n1, .inr (.inr (.inr (.inr g))))) (srcPos := sp) (destPos := dp) (n := n) (by rw [hT]; exact hc0) (by rw [hT]; exact hc1)
    (fun _ h => by cases h) (fun _ h => by cases h) (fun h => by cases h) (fun h => by cases h) hk0 hk1 hkk0 hkk1 rfl h1 h2 h3
    (by rw [nn sp h1, nn n h3]; show ¬ _ > ((arrV cE n0 (fun j => va_rf (f j))).slots.size : Int); rw [arrV_size]; omega)
    (by rw [nn dp h2, nn n h3]; show ¬ _ > ((arrV cE n1 (fun j => va_rf (g j))).slots.size : Int); rw [arrV_size]; omega)
    (fun vm₁ hal i hi => by
      have e : (vp_cell cE (n0, .inr (.inr (.inr (.inr f))))).slots.getD (sp.toNatClampNeg + i) .null = va_rf (f (sp.toNatClampNeg + i)) := by
        show (arrV cE n0 (fun j => va_rf (f j))).slots.getD _ _ = _
        rw [Array.getD_eq_getD_getElem?, arrV_read _ _ (by omega)]
        rfl
      rw [e]
      cases hy : f (sp.toNatClampNeg + i) with
      | none => exact ⟨rfl, trivial⟩
      | some y =>
        obtain ⟨cellV, g1, g2, g3⟩ := hel i hi y hy
        obtain ⟨kA, comp, r1, r2, r3, -⟩ := hE
        cases hk1.symm.trans r1
        cases hkk1.symm.trans r2
        obtain ⟨kC, hkC, -⟩ := Vm.findClass_spec g3
        obtain ⟨kE, hkE, -⟩ := Vm.findClass_spec r3
        obtain ⟨kC', hkC', -⟩ := hal.2.2 _ _ hkC
        obtain ⟨kE', hkE', -⟩ := hal.2.2 _ _ hkE
        refine ⟨rfl, cellV, (show T.heap[y]? = some cellV by rw [hT]; exact g1), (fun q h => by rw [h] at g2; cases g2), ⟨kC', hkC'⟩, ?_, ?_⟩
        · exact ⟨kE', hkE'⟩
        · show vm₁.assignable _ _ = true
          rw [hal.assignable]
          exact hasg _ _ r3 g3)
    (g := F0 m pc ls (.int n :: .int dp :: .ref a :: .int sp :: .ref a0 :: rest)) rfl (by rw [hml]) (rest := rest) rfl (by rw [hb]; exact hdg) hframes (by show 2 * 0 + _ + _ ≤ _; omega)
  have e1 : copied (vp_cell cE (n0, .inr (.inr (.inr (.inr f))))) (vp_cell cE (n1, .inr (.inr (.inr (.inr g))))) sp dp n = vp_cell cE (n1, .inr (.inr (.inr (.inr (va_cpy f g sp.toNatClampNeg dp.toNatClampNeg n.toNatClampNeg))))) := by
    rw [vp_cell_q, vp_cell_q, vp_cell_q]
    exact va_copied (fun z => va_rf z) cE cE f g h4
  rw [e1] at X' step
  have hl : a < H.size := (Array.getElem?_eq_some_iff.mp hc1).1
  have hheap : ((T.setVm vm').setCell a (vp_cell cE (n1, .inr (.inr (.inr (.inr (va_cpy f g sp.toNatClampNeg dp.toNatClampNeg n.toNatClampNeg))))))).heap = H.setIfInBounds a (vp_cell cE (n1, .inr (.inr (.inr (.inr (va_cpy f g sp.toNatClampNeg dp.toNatClampNeg n.toNatClampNeg)))))) := by rw [← hT]; rfl
  have oq : ∀ q : Nat, q ≠ a → (H.setIfInBounds a (vp_cell cE (n1, .inr (.inr (.inr (.inr (va_cpy f g sp.toNatClampNeg dp.toNatClampNeg n.toNatClampNeg)))))))[q]? = H[q]? := fun q hq => by simp [Array.getElem?_setIfInBounds, Ne.symm hq]
  obtain ⟨t, a1, b1⟩ := kk _ _ (show (H.setIfInBounds a _)[a]? = some _ by simp [Array.getElem?_setIfInBounds, hl]) (by simp) oq ⟨by simp; exact hS.1, fun q g1 g2 => by
      rw [oq q (fun e => g2 (by rw [e]; exact hAa))]
      exact hS.2.1 q g1 g2, fun q hq => by
      rcases List.mem_append.mp hq with h | h
      · exact hS.2.2 q h
      · obtain ⟨z, -, hz⟩ := List.mem_map.mp h
        rw [← hz]
        exact hAa⟩ _ hheap X'
  exact ⟨t, step t a1, b1⟩
end ZCP
section ZJ2
variable {w : Wd} {x : Zc} {Q : State → Prop} {cc : ByteArray} {nL pc : Nat} {own : String} {rt : Option FieldType} {rm : Room} {nm : String} {ls : List (Nat × Value)} {st : List Value} {μ : Mem} {k n : Nat}
/-- what System.arraycopy leaves in the target -/
def uC (f g : Int → Option Nat) (sp dp m : Int) : Int → Option Nat := fun j => if dp ≤ j ∧ j < dp + m then f (sp + (j - dp)) else g j
theorem uC_cpy {f g : Int → Option Nat} {sp dp m : Int} (h1 : 0 ≤ sp) (h2 : 0 ≤ dp) (h3 : 0 ≤ m) : va_cpy (fun j : Nat => f (j : Int)) (fun j : Nat => g (j : Int)) sp.toNat dp.toNat m.toNat = fun j : Nat => uC f g sp dp m (j : Int) := by
  funext j
  unfold va_cpy uC
  by_cases h : dp ≤ (j : Int) ∧ (j : Int) < dp + m
  · rw [if_pos h, if_pos (by omega)]
    have e : ((sp.toNat + (j - dp.toNat) : Nat) : Int) = sp + ((j : Int) - dp) := by omega
    show f ((sp.toNat + (j - dp.toNat) : Nat) : Int) = _
    rw [e]
  · rw [if_neg h, if_neg (by omega)]
theorem z_arraycopy (C : Cx w x cc nL own rt rm nm) {i a0 a N0 N ci : Nat} {sp dp m : Int} (hlink : Cond.methodLink own i arraycopyName ∈ GT) (d : decode cc pc = .ok (.invokestatic i, 3)) (hT0 : μ.1 a0 = some (25, N0)) (hT : μ.1 a = some (25, N)) (h0 : 0 ≤ sp ∧ 0 ≤ dp ∧ 0 ≤ m) (h1 : sp + m ≤ (N0 : Int) ∧ dp + m ≤ (N : Int) ∧ N0 ≤ 1000000 ∧ N ≤ 1000000) (he : zEl ci) (hel : ∀ j : Int, sp ≤ j → j < sp + m → ∀ y, μ.2.2.2.2.1 a0 j = some y → ∃ n0, μ.1 y = some (ci, n0))
    (kk : Z w x Q nL (pc + 3) ls st (μ.1, μ.2.1, μ.2.2.1, μ.2.2.2.1, u1 μ.2.2.2.2.1 a (uC (μ.2.2.2.2.1 a0) (μ.2.2.2.2.1 a) sp dp m), μ.2.2.2.2.2) k n) (hd : 1 ≤ rm.frames ∧ 40 ≤ rm.locals := by decide) (hW : (st.map fun v => v.category).sum ≤ 8 := by first | exact Nat.le_of_ble_eq_true rfl | simp [zcat_rf, Value.category]) : Z w x Q nL pc ls (.int (J m) :: .int (J dp) :: .ref a :: .int (J sp) :: .ref a0 :: st) μ k n := by
  obtain ⟨p, e, R, s, mm, args, below, meth, c⟩ := x
  obtain ⟨hx, hb, hml, ho, hts, hlk, hw, hrt, hR, hnm, hsz, het⟩ := C
  intro H locs la hH hS hL hC
  subst hR
  have hat0 := hHp_arr hH hT0 (by decide) (by decide)
  have hat := hHp_arr hH hT (by decide) (by decide)
  rw [zar_q (Or.inr rfl)] at hat hat0
  obtain ⟨Cn, hasg, hrec⟩ := zEl_recv (args := args) hw hH he
  have c1 : (J sp).toNatClampNeg = sp.toNat := J_clamp h0.1 (by omega)
  have c2 : (J dp).toNatClampNeg = dp.toNat := J_clamp h0.2.1 (by omega)
  have c3 : (J m).toNatClampNeg = m.toNat := J_clamp h0.2.2 (by omega)
  have nneg : ∀ z : Int, 0 ≤ z → z ≤ 2147483647 → ¬ J z < 0 := fun z g1 g2 q => by
    have := (J_neg (by omega) g2).mp q
    omega
  have hw5 : nativeFrameWords "java/lang/System" "arraycopy" 5 ≤ 10 := by decide
  refine z_copy0 (A := zA w) (C := Cn) (E1 := "java/lang/Object") hx hb (by rw [hml]; exact hL.1.symm) ho (hts _ hlink) (hts _ qJ_cpyN) (hts _ qJ_cpyS) (hts _ qJ_cpyI) (zK_at hw (t := 4) (cA := wA w 25) (ty := .object "java/lang/Object") rfl).2 (zK_at hw (t := 4) (cA := wA w 25) (ty := .object "java/lang/Object") rfl).1 (zP1 hat0 0 _ rfl) (zP1 hat 0 _ rfl) hS (hHp_wb hH hT) (nneg _ h0.1 (by omega)) (nneg _ h0.2.1 (by omega)) (nneg _ h0.2.2 (by omega)) (by rw [c1, c3]; omega) (by rw [c2, c3]; omega) (fun j hj y hy => ?_) hasg hd.1 (by omega) d fun H1 locs1 e1 z oq hS1 => ?_
  · rw [c1] at hy
    rw [c3] at hj
    obtain ⟨n0, hy1⟩ := hel ((sp.toNat + j : Nat) : Int) (by omega) (by omega) y hy
    exact hrec y n0 hy1
  · rw [c1, c2, c3, uC_cpy h0.1 h0.2.1 h0.2.2] at e1
    refine kk H1 locs1 la (hHp_step hH hT (by show (25 : Nat) ≠ 24; decide) rfl rfl z oq ?_ (fun b kd' hba => zent_congr kd' (fun _ _ => rfl) (fun _ _ => rfl) rfl (u1_n _ _ hba))) hS1 hL hC
    show va_at (wD w) zCl (a, .inl (wA w 25, N, zar μ.2.2.2.1 (u1 μ.2.2.2.2.1 a _) 25 a)) H1
    rw [zar_q (Or.inr rfl), u1_s]
    exact e1
theorem z_ldcM (C : Cx w x cc nL own rt rm nm) {i : Nat} (hl : Cond.classLink own i "[Ljava/lang/Object;" ∈ GT) (d : decode cc pc = .ok (.ldc i, 2)) (kk : Z w x Q nL (pc + 2) ls (.ref (wM w) :: st) μ k n) : Z w x Q nL pc ls st μ k n := by
  obtain ⟨p, e, R, s, m, args, below, meth, c⟩ := x
  obtain ⟨hx, hb, hml, ho, hts, hlk, hw, hrt, hR, hnm, hsz, het⟩ := C
  intro H locs la hH hS hL hC
  exact va_ldcM hx hb ho (hts _ hl) hw.2.2.2.2.2.2.2.2.2.1 d (kk H locs la hH hS hL hC)
theorem z_getC (C : Cx w x cc nL RJ7 rt rm nm) {a N : Nat} (d : decode cc pc = .ok (.invokevirtual 86, 3)) (hT : μ.1 a = some (25, N)) (kk : Z w x Q nL (pc + 3) ls (.ref (wM w) :: st) μ k n) (hd : 1 ≤ rm.frames ∧ 40 ≤ rm.locals := by decide) (hW : (st.map fun v => v.category).sum ≤ 8 := by first | exact Nat.le_of_ble_eq_true rfl | simp [zcat_rf, Value.category]) : Z w x Q nL pc ls (.ref a :: st) μ k n := by
  obtain ⟨p, e, R, s, m, args, below, meth, c⟩ := x
  obtain ⟨hx, hb, hml, ho, hts, hlk, hw, hrt, hR, hnm, hsz, het⟩ := C
  intro H locs la hH hS hL hC
  subst hR
  have hat := hHp_arr hH hT (by decide) (by decide)
  rw [zar_q (Or.inr rfl)] at hat
  exact va_getC hx hb (by rw [hml]; exact hL.1.symm) ho (hts _ qJ_gcL) (va_Dc.use hw.2.2.2.2.2.2.2.2.2.2.1) (hts _ qJ_gcS) (hts _ qJ_gcI) (hts _ qJ_gcN) hw.2.2.2.2.2.2.2.2.2.1 ⟨_, zP1 hat 0 _ rfl, rfl, va_nmO (zK_at hw (t := 4) (cA := wA w 25) (ty := .object "java/lang/Object") rfl).2 (by decide)⟩ hd.1 (by omega) d (kk H locs la hH hS hL hC)
theorem z_max (C : Cx w x cc nL own rt rm nm) {i : Nat} {a b : Int} (hl : Cond.methodLink own i Lib.Math.max.name ∈ GT) (d : decode cc pc = .ok (.invokestatic i, 3)) (hr : (-2147483648 ≤ a ∧ a ≤ 2147483647) ∧ (-2147483648 ≤ b ∧ b ≤ 2147483647)) (hkn : k ≤ rm.cells ∧ n ≤ rm.slots) (kk : Z w x Q nL (pc + 3) ls (.int (J (if a < b then b else a)) :: st) μ k n) (hd : 1 ≤ rm.frames ∧ 40 ≤ rm.locals := by decide) (hW : (st.map fun v => v.category).sum ≤ 8 := by first | exact Nat.le_of_ble_eq_true rfl | simp [zcat_rf, Value.category]) : Z w x Q nL pc ls (.int (J b) :: .int (J a) :: st) μ k n := by
  obtain ⟨p, e, R, s, m, args, below, meth, c⟩ := x
  obtain ⟨hx, hb, hml, ho, hts, hlk, hw, hrt, hR, hnm, hsz, het⟩ := C
  intro H locs la hH hS hL hC
  subst hR
  refine va_mmax hx hb (by rw [hml]; exact hL.1.symm) ho (hts _ hl) (hts _ qJ_maxS) (hts _ qJ_mathI) (hts _ qJ_maxC) hd.1 (by omega) hkn.1 hkn.2 d ?_
  have e9 : (if J a < J b then J b else J a) = J (if a < b then b else a) := by
    by_cases h : a < b
    · rw [if_pos ((J_lt hr.1 hr.2).mpr h), if_pos h]
    · rw [if_neg (fun q => h ((J_lt hr.1 hr.2).mp q)), if_neg h]
  rw [e9]
  exact kk H locs la hH hS hL hC
theorem z_min (C : Cx w x cc nL own rt rm nm) {i : Nat} {a b : Int} (hl : Cond.methodLink own i Lib.Math.min.name ∈ GT) (d : decode cc pc = .ok (.invokestatic i, 3)) (hr : (-2147483648 ≤ a ∧ a ≤ 2147483647) ∧ (-2147483648 ≤ b ∧ b ≤ 2147483647)) (hkn : k ≤ rm.cells ∧ n ≤ rm.slots) (kk : Z w x Q nL (pc + 3) ls (.int (J (if b < a then b else a)) :: st) μ k n) (hd : 1 ≤ rm.frames ∧ 40 ≤ rm.locals := by decide) (hW : (st.map fun v => v.category).sum ≤ 8 := by first | exact Nat.le_of_ble_eq_true rfl | simp [zcat_rf, Value.category]) : Z w x Q nL pc ls (.int (J b) :: .int (J a) :: st) μ k n := by
  obtain ⟨p, e, R, s, m, args, below, meth, c⟩ := x
  obtain ⟨hx, hb, hml, ho, hts, hlk, hw, hrt, hR, hnm, hsz, het⟩ := C
  intro H locs la hH hS hL hC
  subst hR
  refine va_mmin hx hb (by rw [hml]; exact hL.1.symm) ho (hts _ hl) (hts _ qJ_minS) (hts _ qJ_mathI) (hts _ qJ_minC) hd.1 (by omega) hkn.1 hkn.2 d ?_
  have e9 : (if J b < J a then J b else J a) = J (if b < a then b else a) := by
    by_cases h : b < a
    · rw [if_pos ((J_lt hr.2 hr.1).mpr h), if_pos h]
    · rw [if_neg (fun q => h ((J_lt hr.2 hr.1).mp q)), if_neg h]
  rw [e9]
  exact kk H locs la hH hS hL hC
end ZJ2
