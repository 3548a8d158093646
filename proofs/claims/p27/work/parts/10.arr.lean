/-! arrays, new cells, casts -/
section ZA
variable {w : Wd} {x : Zc} {Q : State → Prop} {cc : ByteArray} {nL pc : Nat} {own : String} {rt : Option FieldType} {rm : Room} {nm : String} {ls : List (Nat × Value)} {st : List Value} {μ : Mem} {k n : Nat}
theorem zK_at {w : Wd} {s : State} (h : wI w s) {t : Nat} {cA : ClassId} {ty : FieldType} (ht : (ztys w)[t]? = some (cA, ty)) : ArrOfT s cA ty ∧ va_RA s cA ty := h.2.1.2 t _ ht
theorem zar_i {A : Nat → Int → Int} {AR : Nat → Int → Option Nat} {t a : Nat} (h1 : t ≠ 22) (h2 : t ≠ 23) (h3 : t ≠ 25) : zar A AR t a = .inl (fun j => J (A a (j : Int))) := by simp [zar, h1, h2, h3]
theorem zar_l {A : Nat → Int → Int} {AR : Nat → Int → Option Nat} {a : Nat} : zar A AR 22 a = .inr (.inl (fun j => L6 (A a (j : Int)))) := rfl
theorem zar_q {A : Nat → Int → Int} {AR : Nat → Int → Option Nat} {t a : Nat} (h : t = 23 ∨ t = 25) : zar A AR t a = .inr (.inr (.inr (.inr (fun j => AR a (j : Int))))) := by
  rcases h with rfl | rfl <;> rfl
theorem zcl {i : Int} (h0 : 0 ≤ i) (h2 : i ≤ 2147483647) : (((J i).toNatClampNeg : Nat) : Int) = i := by rw [J_clamp h0 h2]; omega
theorem zupd {β : Type} {f : Int → β} {i : Int} {v : β} {g : Nat → Value} {h : β → Value} (h0 : 0 ≤ i) (h2 : i ≤ 2147483647) (hg : g = fun j : Nat => h (f (j : Int))) : updV g (J i).toNatClampNeg (h v) = fun j : Nat => h (uI f i v (j : Int)) := by
  funext j
  rw [J_clamp h0 h2, hg]
  unfold updV uI
  by_cases e : j = i.toNat
  · subst e
    rw [if_pos rfl, if_pos (by omega)]
  · rw [if_neg e, if_neg (by omega)]

theorem z_iaload (C : Cx w x cc nL own rt rm nm) {a N : Nat} {i : Int} (d : decode cc pc = .ok (.iaload, 1)) (hT : μ.1 a = some (20, N)) (hi : 0 ≤ i ∧ i < (N : Int) ∧ i ≤ 2147483647)
    (kk : Z w x Q nL (pc + 1) ls (.int (J (μ.2.2.2.1 a i)) :: st) μ k n) : Z w x Q nL (pc) ls (.int (J i) :: .ref a :: st) μ k n := by
  obtain ⟨p, e, R, s, m, args, below, meth, c⟩ := x
  obtain ⟨hx, hb, hml, ho, hts, hlk, hw, hrt, hR, hnm, hsz, het⟩ := C
  intro H locs la hH hS hL hC
  have hat := hHp_arr hH hT (by decide) (by decide)
  rw [zar_i (by decide) (by decide) (by decide)] at hat
  refine va_iald hx hb hw.2.1 (zP1 hat) 0 0 rfl rfl (J_in hi.1 hi.2.1 hi.2.2) d ?_
  have e := zcl hi.1 hi.2.2
  rw [e]
  exact kk H locs la hH hS hL hC

theorem z_aaloadG (C : Cx w x cc nL own rt rm nm) {a N : Nat} {i : Int} (d : decode cc pc = .ok (.aaload, 1)) (hT : μ.1 a = some (23, N)) (hi : 0 ≤ i ∧ i < (N : Int) ∧ i ≤ 2147483647)
    (kk : Z w x Q nL (pc + 1) ls (va_rf (μ.2.2.2.2.1 a i) :: st) μ k n) : Z w x Q nL (pc) ls (.int (J i) :: .ref a :: st) μ k n := by
  obtain ⟨p, e, R, s, m, args, below, meth, c⟩ := x
  obtain ⟨hx, hb, hml, ho, hts, hlk, hw, hrt, hR, hnm, hsz, het⟩ := C
  intro H locs la hH hS hL hC
  have hat := hHp_arr hH hT (by decide) (by decide)
  rw [zar_q (Or.inl rfl)] at hat
  refine va_aldq hx hb hw.2.1 (zP1 hat) 0 3 rfl rfl (J_in hi.1 hi.2.1 hi.2.2) d ?_
  have e := zcl hi.1 hi.2.2
  rw [e]
  exact kk H locs la hH hS hL hC

theorem z_aaloadO (C : Cx w x cc nL own rt rm nm) {a N : Nat} {i : Int} (d : decode cc pc = .ok (.aaload, 1)) (hT : μ.1 a = some (25, N)) (hi : 0 ≤ i ∧ i < (N : Int) ∧ i ≤ 2147483647)
    (kk : Z w x Q nL (pc + 1) ls (va_rf (μ.2.2.2.2.1 a i) :: st) μ k n) : Z w x Q nL (pc) ls (.int (J i) :: .ref a :: st) μ k n := by
  obtain ⟨p, e, R, s, m, args, below, meth, c⟩ := x
  obtain ⟨hx, hb, hml, ho, hts, hlk, hw, hrt, hR, hnm, hsz, het⟩ := C
  intro H locs la hH hS hL hC
  have hat := hHp_arr hH hT (by decide) (by decide)
  rw [zar_q (Or.inr rfl)] at hat
  refine va_aldq hx hb hw.2.1 (zP1 hat) 0 4 rfl rfl (J_in hi.1 hi.2.1 hi.2.2) d ?_
  have e := zcl hi.1 hi.2.2
  rw [e]
  exact kk H locs la hH hS hL hC

theorem z_aaloadr (C : Cx w x cc nL own rt rm nm) {a N : Nat} {i : Int} (r : Nat) (d : decode cc pc = .ok (.aaload, 1)) (hT : μ.1 a = some (23, N)) (hi : 0 ≤ i ∧ i < (N : Int) ∧ i ≤ 2147483647) (hv : μ.2.2.2.2.1 a i = some r)
    (kk : Z w x Q nL (pc + 1) ls (.ref r :: st) μ k n) : Z w x Q nL (pc) ls (.int (J i) :: .ref a :: st) μ k n := by
  refine z_aaloadG C d hT hi ?_
  rw [hv]
  exact kk
theorem z_alen (C : Cx w x cc nL own rt rm nm) {a N t : Nat} (d : decode cc pc = .ok (.arraylength, 1)) (hT : μ.1 a = some (t, N)) (h1 : 20 ≤ t ∧ t ≤ 25 ∧ t ≠ 24)
    (kk : Z w x Q nL (pc + 1) ls (.int (J (N : Int)) :: st) μ k n) : Z w x Q nL (pc) ls (.ref a :: st) μ k n := by
  obtain ⟨p, e, R, s, m, args, below, meth, c⟩ := x
  obtain ⟨hx, hb, hml, ho, hts, hlk, hw, hrt, hR, hnm, hsz, het⟩ := C
  intro H locs la hH hS hL hC
  have hat := hHp_arr hH hT (by omega) h1.2.2
  obtain ⟨t0, ty, hty⟩ : ∃ t0 ty, (ztys w)[t0]? = some (wA w t, ty) := by
    rcases (by omega : t = 20 ∨ t = 21 ∨ t = 22 ∨ t = 23 ∨ t = 25) with rfl | rfl | rfl | rfl | rfl
    · exact ⟨0, _, rfl⟩
    · exact ⟨1, _, rfl⟩
    · exact ⟨2, _, rfl⟩
    · exact ⟨3, _, rfl⟩
    · exact ⟨4, _, rfl⟩
  exact va_alen hx hb hw.2.1 (zP1 hat) 0 t0 rfl hty (v := J (N : Int)) (by rw [J_nat]; rfl) d (kk H locs la hH hS hL hC)
/-- the length of ArrayList's shared empty array -/
theorem z_alenE (C : Cx w x cc nL own rt rm nm) (d : decode cc pc = .ok (.arraylength, 1)) 
    (kk : Z w x Q nL (pc + 1) ls (.int (J 0) :: st) μ k n) : Z w x Q nL (pc) ls (.ref (wE w) :: st) μ k n := by
  obtain ⟨p, e, R, s, m, args, below, meth, c⟩ := x
  obtain ⟨hx, hb, hml, ho, hts, hlk, hw, hrt, hR, hnm, hsz, het⟩ := C
  intro H locs la hH hS hL hC
  have hat := hw.2.2.2.2.2.2.1
  exact va_tlen hx hb hat.1 hS (v := J 0) rfl d (kk H locs la hH hS hL hC)

theorem z_iastore (C : Cx w x cc nL own rt rm nm) {a N : Nat} {i v : Int} (d : decode cc pc = .ok (.iastore, 1)) (hT : μ.1 a = some (20, N)) (hi : 0 ≤ i ∧ i < (N : Int) ∧ i ≤ 2147483647) 
    (kk : Z w x Q nL (pc + 1) ls (st) (sA μ a i v) k n) : Z w x Q nL (pc) ls (.int (J v) :: .int (J i) :: .ref a :: st) μ k n := by
  obtain ⟨p, e, R, s, m, args, below, meth, c⟩ := x
  obtain ⟨hx, hb, hml, ho, hts, hlk, hw, hrt, hR, hnm, hsz, het⟩ := C
  intro H locs la hH hS hL hC
  have hat := hHp_arr hH hT (by decide) (by decide)
  have hat0 := hat
  rw [zar_i (by decide) (by decide) (by decide)] at hat
  have hin := J_in hi.1 hi.2.1 hi.2.2
  refine W.iast hx hb (zP1 hat 0 _ rfl) ((zK_at hw (t := 0) rfl).1 N (fun j => .int (J (μ.2.2.2.1 a (j : Int))))) (fun q => by cases q) (by show ¬ (J i < 0 ∨ (arrV _ _ _).slots.size ≤ _); rw [arrV_size]; exact hin) rfl rfl d fun H1 e1 z oq => ?_
  refine kk H1 _ la (hHp_step hH hT (by show (20 : Nat) ≠ 24; decide) rfl rfl z oq ?_ (fun b kd' hba => zent_congr kd' (fun _ _ => rfl) (fun _ _ => rfl) (u2_af _ _ _ hba) rfl)) (zS_put hS z oq (hHp_wb hH hT)) hL hC
  show va_at (wD w) zCl (a, .inl (wA w 20, N, zar (u2 μ.2.2.2.1 a i v) μ.2.2.2.2.1 20 a)) H1
  rw [zar_i (by decide) (by decide) (by decide)]
  show H1[a]? = some (vp_cell _ _)
  rw [e1, vp_cell_i, vp_cell_i, arrV_store, u2_e]
  congr 2
  exact zupd (h := fun z => Value.int (J z)) hi.1 hi.2.2 rfl

/-- a new object -/
theorem z_new (C : Cx w x cc nL own rt rm nm) {i : Nat} (ci : Nat) {Cn : String} {T : u_T} {N : Nat} (ty : Nat → FieldType) (d : decode cc pc = .ok (.new i, 3)) (hcl : zCl[ci]? = some (Cn, T, N)) (hN : zN ci = N) (hin : ∀ q ∈ u_ws Cn T N, q ∈ GT) (hty : ∀ k, k < N → parseFieldDescriptor (T k).2.2.1 = some (ty k)) (hlink : Cond.classLink own i Cn ∈ GT) (hinst : Cond.instantiable Cn N ∈ GT) (hini : Cond.initialized Cn ∈ GT)
    (hdf : ∀ j, j < N → defaultValue (ty j) = if zR ci j = true then .null else .int (J 0)) (hk : k + 1 ≤ rm.cells) (hn : n + N ≤ rm.slots)
    (kk : ∀ q : Nat, μ.1 q = none → wb w ≤ q → Z w x Q nL (pc + 3) ls (.ref q :: st) (sN μ q (ci, 0)) (k + 1) (n + N)) (hc : ci < 8 := by decide) : Z w x Q nL (pc) ls (st) μ k n := by
  obtain ⟨p, e, R, s, m, args, below, meth, c⟩ := x
  obtain ⟨hx, hb, hml, ho, hts, hlk, hw, hrt, hR, hnm, hsz, het⟩ := C
  intro H locs la hH hS hL hC
  have hKn := hw.2.1.1 ci _ hcl
  subst hR
  refine W.newcK hx hb ho (hts _ hlink) (hts _ hinst) (hts _ hini) rfl d hk hn hKn.2.1 rfl fun H1 kC hkC e1 z1 o1 => ?_
  have hat : va_at (wD w) zCl (H.size, zent w (sN μ H.size (ci, 0)) H.size (ci, 0)) H1 := by
    unfold zent
    rw [if_pos hc]
    refine ⟨_, hcl, (u_born ty hts hin hKn hkC e1 hty).to fun j hj => ?_⟩
    rw [hdf j hj]
    have h9 := zfs_at (sN μ H.size (ci, 0)).2.1 (sN μ H.size (ci, 0)).2.2.1 ci H.size (k := j) (by rw [hN]; exact hj)
    show _ = (zfs (sN μ H.size (ci, 0)).2.1 (sN μ H.size (ci, 0)).2.2.1 ci H.size).getD j .null
    have g1 : (sN μ H.size (ci, 0)).2.1 ci j H.size = 0 := u0_s _ _ _ _ _
    have g2 : (sN μ H.size (ci, 0)).2.2.1 ci j H.size = none := u0_s _ _ _ _ _
    rw [List.getD_eq_getElem?_getD, h9, g1, g2]
    rfl
  obtain ⟨g1, g2, g3⟩ := hHp_new (kd := (ci, 0)) hH (by show ci ≠ 24; omega) z1 o1 hat
  exact kk H.size g2 g3 H1 _ la g1 (zS_new hS z1 o1) hL hC

theorem z_newI (C : Cx w x cc nL own rt rm nm) {z : Int} (N : Nat) (d : decode cc pc = .ok (.newarray .int, 2)) (hz : z = (N : Int)) (hN : N ≤ 100000) (hac : Cond.arrayClass .int ∈ GT) (hk : k + 1 ≤ rm.cells) (hn : n + N ≤ rm.slots)
    (kk : ∀ q : Nat, μ.1 q = none → wb w ≤ q → Z w x Q nL (pc + 2) ls (.ref q :: st) (sN μ q (20, N)) (k + 1) (n + N)) : Z w x Q nL (pc) ls (.int (J z) :: st) μ k n := by
  obtain ⟨p, e, R, s, m, args, below, meth, c⟩ := x
  obtain ⟨hx, hb, hml, ho, hts, hlk, hw, hrt, hR, hnm, hsz, het⟩ := C
  intro H locs la hH hS hL hC
  subst hR
  subst hz
  refine va_newaK (atype := .int) hx hb (hts _ hac) rfl d rfl (fun q => ?_) (N := N) (by rw [J_clamp (by omega) (by omega)]; omega) (by simp [componentBytes, newarray.typeOf]; omega) hk hn rfl fun H1 cA e1 z1 o1 hAr hNm => ?_
  · have := (J_neg (by omega) (by omega)).mp q
    omega
  have hcA : cA = wA w 20 := by
    have h9 : s.vm.findClass ("[" ++ (FieldType.int).toString) = some (wA w 20) := (zK_at hw (t := 0) (cA := wA w 20) (ty := .int) rfl).2
    exact Option.some.inj (hNm.symm.trans h9)
  subst hcA
  have hat : va_at (wD w) zCl (H.size, zent w (sN μ H.size (20, N)) H.size (20, N)) H1 := by
    show va_at (wD w) zCl (H.size, .inl (wA w 20, N, zar (u1 μ.2.2.2.1 H.size (fun _ => 0)) (u1 μ.2.2.2.2.1 H.size (fun _ => none)) 20 H.size)) H1
    rw [zar_i (by decide) (by decide) (by decide)]
    show H1[H.size]? = some (vp_cell _ _)
    rw [e1, vp_cell_i, u1_s]
    rfl
  obtain ⟨g1, g2, g3⟩ := hHp_new (kd := (20, N)) hH (by show (20 : Nat) ≠ 24; decide) z1 o1 hat
  exact kk H.size g2 g3 H1 _ la g1 (zS_new hS z1 o1) hL hC

theorem z_newG (C : Cx w x cc nL own rt rm nm) {i : Nat} {z : Int} (N : Nat) (d : decode cc pc = .ok (.anewarray i, 3)) (hz : z = (N : Int)) (hN : N ≤ 100000) (hlink : Cond.classLink own i "Managetree$Agent" ∈ GT) (hk : k + 1 ≤ rm.cells) (hn : n + N ≤ rm.slots)
    (kk : ∀ q : Nat, μ.1 q = none → wb w ≤ q → Z w x Q nL (pc + 3) ls (.ref q :: st) (sN μ q (23, N)) (k + 1) (n + N)) : Z w x Q nL (pc) ls (.int (J z) :: st) μ k n := by
  obtain ⟨p, e, R, s, m, args, below, meth, c⟩ := x
  obtain ⟨hx, hb, hml, ho, hts, hlk, hw, hrt, hR, hnm, hsz, het⟩ := C
  intro H locs la hH hS hL hC
  subst hR
  subst hz
  have hcl9 : (J (N : Int)).toNatClampNeg = N := by rw [J_clamp (by omega) (by omega)]; omega
  refine W.anew hx hb ho (hts _ hlink) (va_AO.use (C := "Managetree$Agent") hw.2.2.1) rfl d rfl (fun q => ?_) (by rw [hcl9]; omega) hk (by rw [hcl9]; exact hn) fun cA kA comp f1 f2 f3 f4 => ?_
  · have := (J_neg (by omega) (by omega)).mp q
    omega
  rw [hcl9]
  have hcA : cA = wA w 23 := by
    obtain ⟨kA9, comp9, -, -, -, h9⟩ := (zK_at hw (t := 3) (cA := wA w 23) (ty := .object "Managetree$Agent") rfl).2
    exact Option.some.inj (f1.symm.trans h9)
  subst hcA
  generalize hH1 : H.push ({ cls := wA w 23, slots := Array.replicate N .null, vm := .none } : Cell) = H1
  have z1 : H1.size = H.size + 1 := by rw [← hH1, Array.size_push]
  have e1 : H1[H.size]? = some (arrV (wA w 23) N (fun _ => .null)) := by rw [← hH1, Array.getElem?_push_size, ← arrV_new]
  have o1 : ∀ q : Nat, q < H.size → H1[q]? = H[q]? := fun q hq => by rw [← hH1, Array.getElem?_push, if_neg (Nat.ne_of_lt hq)]
  have hat : va_at (wD w) zCl (H.size, zent w (sN μ H.size (23, N)) H.size (23, N)) H1 := by
    show va_at (wD w) zCl (H.size, .inl (wA w 23, N, zar (u1 μ.2.2.2.1 H.size (fun _ => 0)) (u1 μ.2.2.2.2.1 H.size (fun _ => none)) 23 H.size)) H1
    rw [zar_q (by decide)]
    show H1[H.size]? = some (vp_cell _ _)
    rw [e1, vp_cell_q, u1_s]
    rfl
  obtain ⟨g1, g2, g3⟩ := hHp_new (kd := (23, N)) hH (by show (23 : Nat) ≠ 24; decide) z1 o1 hat
  exact kk H.size g2 g3 H1 _ la g1 (zS_new hS z1 o1) hL hC

theorem z_newO (C : Cx w x cc nL own rt rm nm) {i : Nat} {z : Int} (N : Nat) (d : decode cc pc = .ok (.anewarray i, 3)) (hz : z = (N : Int)) (hN : N ≤ 100000) (hlink : Cond.classLink own i "java/lang/Object" ∈ GT) (hk : k + 1 ≤ rm.cells) (hn : n + N ≤ rm.slots)
    (kk : ∀ q : Nat, μ.1 q = none → wb w ≤ q → Z w x Q nL (pc + 3) ls (.ref q :: st) (sN μ q (25, N)) (k + 1) (n + N)) : Z w x Q nL (pc) ls (.int (J z) :: st) μ k n := by
  obtain ⟨p, e, R, s, m, args, below, meth, c⟩ := x
  obtain ⟨hx, hb, hml, ho, hts, hlk, hw, hrt, hR, hnm, hsz, het⟩ := C
  intro H locs la hH hS hL hC
  subst hR
  subst hz
  have hcl9 : (J (N : Int)).toNatClampNeg = N := by rw [J_clamp (by omega) (by omega)]; omega
  refine W.anew hx hb ho (hts _ hlink) (va_AO.use (C := "java/lang/Object") hw.2.2.2.1) rfl d rfl (fun q => ?_) (by rw [hcl9]; omega) hk (by rw [hcl9]; exact hn) fun cA kA comp f1 f2 f3 f4 => ?_
  · have := (J_neg (by omega) (by omega)).mp q
    omega
  rw [hcl9]
  have hcA : cA = wA w 25 := by
    obtain ⟨kA9, comp9, -, -, -, h9⟩ := (zK_at hw (t := 4) (cA := wA w 25) (ty := .object "java/lang/Object") rfl).2
    exact Option.some.inj (f1.symm.trans h9)
  subst hcA
  generalize hH1 : H.push ({ cls := wA w 25, slots := Array.replicate N .null, vm := .none } : Cell) = H1
  have z1 : H1.size = H.size + 1 := by rw [← hH1, Array.size_push]
  have e1 : H1[H.size]? = some (arrV (wA w 25) N (fun _ => .null)) := by rw [← hH1, Array.getElem?_push_size, ← arrV_new]
  have o1 : ∀ q : Nat, q < H.size → H1[q]? = H[q]? := fun q hq => by rw [← hH1, Array.getElem?_push, if_neg (Nat.ne_of_lt hq)]
  have hat : va_at (wD w) zCl (H.size, zent w (sN μ H.size (25, N)) H.size (25, N)) H1 := by
    show va_at (wD w) zCl (H.size, .inl (wA w 25, N, zar (u1 μ.2.2.2.1 H.size (fun _ => 0)) (u1 μ.2.2.2.2.1 H.size (fun _ => none)) 25 H.size)) H1
    rw [zar_q (by decide)]
    show H1[H.size]? = some (vp_cell _ _)
    rw [e1, vp_cell_q, u1_s]
    rfl
  obtain ⟨g1, g2, g3⟩ := hHp_new (kd := (25, N)) hH (by show (25 : Nat) ≠ 24; decide) z1 o1 hat
  exact kk H.size g2 g3 H1 _ la g1 (zS_new hS z1 o1) hL hC

/-- an object's class is what its cell says -/
theorem zrecv {s : State} {H : Heap} (hw : wI w s) (hH : hHp w μ H) {a ci n0 : Nat} (hT : μ.1 a = some (ci, n0)) {q : vw_C} (hcl : zCl[ci]? = some q) (hc : ci < 8) : ∃ cell : Cell, H[a]? = some cell ∧ cell.vm.isStatics = false ∧ s.vm.findClass q.1 = some cell.cls :=
  va_recv (q0 := 0) hw.2.1 (zP1 (hHp_obj hH hT hc)) hcl rfl
/-- a list's cell is an ArrayList -/
theorem zrecvL {s : State} {H : Heap} (hw : wI w s) (hH : hHp w μ H) {a n0 : Nat} (hT : μ.1 a = some (24, n0)) : ∃ cell : Cell, H[a]? = some cell ∧ cell.vm.isStatics = false ∧ s.vm.findClass RJx4a65c = some cell.cls := by
  obtain ⟨-, hid, hA, -⟩ := hH
  exact va_recv (q0 := 0) (ci := 7) (q := (RJx4a65c, TJx4a65c, 3)) hw.2.1 (zP1 ((hA a _ hT).2.2 rfl).1) rfl rfl
theorem z_cast (C : Cx w x cc nL own rt rm nm) {r : Option Nat} {i ci : Nat} {q : vw_C} (d : decode cc pc = .ok (.checkcast i, 3)) (hcl : zCl[ci]? = some q) (hlink : Cond.classLink own i q.1 ∈ GT) (hT : ∀ a, r = some a → ∃ n0, μ.1 a = some (ci, n0))
    (kk : Z w x Q nL (pc + 3) ls (va_rf r :: st) μ k n) (hc : ci < 8 := by decide) : Z w x Q nL (pc) ls (va_rf r :: st) μ k n := by
  obtain ⟨p, e, R, s, m, args, below, meth, c⟩ := x
  obtain ⟨hx, hb, hml, ho, hts, hlk, hw, hrt, hR, hnm, hsz, het⟩ := C
  intro H locs la hH hS hL hC
  cases r with
  | none => exact lv_castN hx hb d (kk H locs la hH hS hL hC)
  | some a =>
    obtain ⟨n0, hT⟩ := hT a rfl
    have hKn := hw.2.1.1 ci _ hcl
    exact va_castS (cC := (wD w).1 ci) hx hb ho (hts _ hlink) hKn.2 (zrecv hw hH hT hcl hc) d (kk H locs la hH hS hL hC)
end ZA
