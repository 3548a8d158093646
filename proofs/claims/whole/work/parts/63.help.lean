/-! THE LAW'S HELPERS: methods with a table of handlers. A handler: the class, its entry in the pool, its pc. -/
def eXs : List (String × String) := [(eX, eA), (eX, eS), (eA, eX), (eA, eS), (eS, eX), (eS, eA)]
/-- none of the three is one of the others -/
def nC (U : State) : Prop := ∀ q ∈ eXs, va_Nc q.1 q.2 U
theorem nC_moved {s U : State} (h : nC s) (hW : s.WarmedH U.vm) : nC U := fun q hq => va_Nc.moved hW.alike (h q hq)
abbrev Hn : Type := List (String × Nat × Nat)
def hTab (len : Nat) (hs : Hn) : List (Nat × Nat × Nat × Nat) := hs.map (fun h => (0, len, h.2.2, h.2.1))
def hLk : Hn → String → Option Nat
  | [], _ => none
  | (nm, _, hp) :: r, E => if nm = E then some hp else hLk r E
theorem hLk_split : ∀ {hs : Hn} {E : String} {hp : Nat}, hLk hs E = some hp → ∃ l1 ci l2, hs = l1 ++ (E, ci, hp) :: l2 ∧ ∀ z ∈ l1, z.1 ≠ E
  | [], _, _, h => by cases h
  | (nm, ci, hq) :: r, E, hp, h => by
    rw [hLk] at h
    split at h
    · rename_i e
      cases h
      subst e
      exact ⟨[], ci, r, rfl, fun z hz => by cases hz⟩
    · rename_i e
      obtain ⟨l1, c2, l2, rfl, h2⟩ := hLk_split h
      refine ⟨(nm, ci, hq) :: l1, c2, l2, rfl, fun z hz => ?_⟩
      rcases List.mem_cons.mp hz with rfl | hz
      · exact e
      · exact h2 z hz
/-- what the tables say of a handler of the law -/
theorem cs_X : Cond.castable eX eX ∈ OT := ot_t (by decide +kernel) rfl
theorem cs_A : Cond.castable eA eA ∈ OT := ot_t (by decide +kernel) rfl
theorem cs_S : Cond.castable eS eS ∈ OT := ot_t (by decide +kernel) rfl
def hRw (h : String × Nat × Nat) : Prop := Cond.classLink RL h.2.1 h.1 ∈ GT ∧ Cond.castable h.1 h.1 ∈ OT ∧ h.2.1 ≠ 0 ∧ (h.1 = eX ∨ h.1 = eA ∨ h.1 = eS)
theorem hk_X (hp : Nat) : hRw (eX, 20, hp) := ⟨qC_L_20, cs_X, (by decide : 20 ≠ 0), Or.inl rfl⟩
theorem hk_A (hp : Nat) : hRw (eA, 13, hp) := ⟨qC_L_13, cs_A, (by decide : 13 ≠ 0), Or.inr (Or.inl rfl)⟩
theorem hk_S (hp : Nat) : hRw (eS, 15, hp) := ⟨qC_L_15, cs_S, (by decide : 15 ≠ 0), Or.inr (Or.inr rfl)⟩
theorem hk_nil : ∀ h ∈ ([] : Hn), hRw h := fun _ h => nomatch h
theorem hk_cons {h : String × Nat × Nat} {l : Hn} (a : hRw h) (b : ∀ z ∈ l, hRw z) : ∀ z ∈ h :: l, hRw z := List.forall_mem_cons.mpr ⟨a, b⟩
theorem eXs_of {E F : String} (h1 : E = eX ∨ E = eA ∨ E = eS) (h2 : F = eX ∨ F = eA ∨ F = eS) (h : F ≠ E) : (E, F) ∈ eXs := by
  rcases h1 with rfl | rfl | rfl <;> rcases h2 with rfl | rfl | rfl <;> first | exact absurd rfl h | simp [eXs]
/-- the body's table, and the three apart -/
def cT (x : Zc) (len : Nat) (hs : Hn) : Prop := match x with
  | (_, _, _, s, _, _, _, _, c) => c.exceptionTable.toList = tableOf (hTab len hs) ∧ nC s
/-- a helper's contract: it never throws -/
def cH (w : Wd) (y : MethodName) (cc : ByteArray) (nL : Nat) (ret : Option FieldType) (len : Nat) (hs : Hn) (d mc ms : Nat) (as : List Value) (μ : Mem) (P : Option Value → Mem → Prop) : Prop :=
  Met (wl w) y (Cond.codeWith y cc nL ret (hTab len hs) :: GT) (rmv d mc ms) (va_Pc as (fun U => (wI w U ∧ nC U) ∧ hHp w μ U.heap)) (zQc w P) mc ms (zA w)
theorem cH_of {w : Wd} {y : MethodName} {cc : ByteArray} {nL : Nat} {ret : Option FieldType} {len : Nat} {hs : Hn} {d mc ms : Nat} {as : List Value} {μ : Mem} {P : Option Value → Mem → Prop}
    (body : ∀ x : Zc, Cx w x cc nL RL ret (rmv d mc ms) y.name → cT x len hs → Z w x (zQ w x P (fun _ _ => False) mc ms) nL 0 (lv_args 0 as) [] μ 0 0) (hy : plainName y.cls = true := by decide) (hRL : y.cls = RL := by rfl) (hlen : (lg_sl as).length ≤ nL := by first | exact Nat.le_of_ble_eq_true rfl | simp [lg_sl, zcat_rf]) (hcat : ∀ q ∈ lv_args 0 as, q.2.category = 1 := by simp [lv_args, zcat_rf, Value.category]) : cH w y cc nL ret len hs d mc ms as μ P := by
  have K : vx_Met (wl w) y (Cond.codeWith y cc nL ret (hTab len hs) :: GT) (rmv d mc ms) (va_Pc as (fun U => (wI w U ∧ nC U) ∧ hHp w μ U.heap)) (zQc w P) (zXC w (fun _ _ => False)) mc ms (zA w) := by
    refine vx_ofWH (cc := cc) (maxL := nL) (ret := ret) (hh := hTab len hs) hy rfl ?_
    intro p e s m args below meth c s₁ B hml hv
    obtain ⟨rfl, ⟨hw, hn⟩, hH⟩ := hv
    have hts := atoms_spec (ws := Cond.codeWith y cc nL ret (hTab len hs) :: GT) B.pre
    have hnm : meth.name = y.name := (name_of_methodNamed B.named B.method).1
    have htab := vx_table (x := y) B (hts _ List.mem_cons_self)
    have K := body (p, e, (headSpec (Cond.codeWith y cc nL ret (hTab len hs) :: GT) (rmv d mc ms)).room, s, m, as.toArray, below, meth, c)
      ⟨B.exec, B.bytes, hml, by rw [← hRL]; exact findClass_of_methodNamed B.named, fun q hq => hts q (List.mem_cons_of_mem _ hq), B.notSynchronized, hw, B.returns, rfl, hnm, hH.1, fun h => absurd rfl h⟩ ⟨htab, hn⟩
    rw [lg_entry_eq]
    exact K s.heap [] _ hH va_S.rf (lv_entry as hlen) hcat
  intro p e ha hc hk s m args below hf happ hp hK
  obtain ⟨n, o, h1, h2, h3, h4⟩ := K p e ha hc hk s m args below hf happ hp hK
  refine ⟨n, o, h1, h2, h3, ?_⟩
  rcases h4 with h4 | ⟨q, ho, E, ce, L, ⟨⟨μ', e1, e2⟩, hF⟩, hr⟩
  · exact h4
  · exact e1.elim
/-- the one call of a helper: what is thrown goes to its handler -/
theorem z_callVH {w : Wd} {x : Zc} {cc : ByteArray} {nL pc : Nat} {rt : Option FieldType} {d mc ms : Nat} {nm : String} {ls : List (Nat × Value)} {st : List Value} {μ : Mem} {k n : Nat} {Q : State → Prop} {len : Nat} {hs : Hn}
    (C : Cx w x cc nL RL rt (rmv d mc ms) nm) (hT : cT x len hs) {b index ny na dy my sy : Nat} {y : MethodName} {cy : ByteArray} {ry : Option FieldType} {As rest : List Value} {P' : Option Value → Mem → Prop} {X' : String → Mem → Prop} (hM : cM w y cy ny ry dy my sy (.ref b :: As) μ P' X') (hl : zLV RL index y cy ny ry na) (dg : decode cc pc = .ok (.invokevirtual index, 3)) (hst : st = As.reverse ++ .ref b :: rest) (hrc : zRc y.cls b μ)
    (hks : ∀ h ∈ hs, hRw h) (hpc : pc < len)
    (kx : ∀ E μ', X' E μ' → ∃ hp, hLk hs E = some hp ∧ ∀ q : Nat, Z w x Q nL hp ls [.ref q] μ' (k + my) (n + sy)) (kk : ∀ v μ', P' v μ' → Z w x Q nL (pc + 3) ls (v.toList ++ rest) μ' (k + my) (n + sy)) (hna : As.length = na := by rfl) (hd : dy + 1 ≤ d ∧ 8 + (ny + 11) + 40 * dy ≤ 40 * d := by decide) (hk : k + my ≤ mc := by first | decide | omega) (hn : n + sy ≤ ms := by first | decide | omega) (hW : (rest.map fun v => v.category).sum ≤ 8 := by first | exact Nat.le_of_ble_eq_true rfl | simp [zcat_rf, Value.category]) : Z w x Q nL pc ls st μ k n := by
  obtain ⟨p, e, R, s, m, args, below, meth, c⟩ := x
  obtain ⟨hx, hb, hml, ho, hts, hlk, hw, hrt, hR, hnm, hsz, het⟩ := C
  obtain ⟨htab, hnc⟩ := hT
  intro H locs la hH hS hL hC
  subst hR
  refine z_after (vx_runV ⟨hx, hb, hml, ho, hts⟩ hM ⟨zLB_CallB hl.1 hts hd.1 hd.2, hts _ hl.2.1, hts _ hl.2.2⟩ ⟨zPc_blind w _ μ, zRc_cell hrc hw hH, fun U hU hW9 => ⟨rfl, wI_moved hw hS hU hW9, by rw [hU]; exact hH⟩⟩ rfl hna hL.1 hst (lv_room hW) dg ⟨hk, hn⟩) hS (fun E ce q9 μ' H1 locs1 g1 g2 g3 g4 g5 g6 => ?_) (fun v μ' H1 locs1 g1 g2 g3 => kk v μ' g1 H1 locs1 la g2 g3 hL hC)
  obtain ⟨hp, hhp, kq⟩ := kx E μ' g1
  obtain ⟨l1, ci, l2, rfl, hne⟩ := hLk_split hhp
  have hE := hks (E, ci, hp) (List.mem_append_right _ List.mem_cons_self)
  refine vx_catch (own := RL) (name := E) (args := args) ho (tableOf (hTab len l1)) ⟨0, len, hp, ci⟩ (tableOf (hTab len l2)) ?_ (fun z hz => ?_) ?_ hE.2.2.1 (hts _ hE.1) (va_Nw.use (zoW_tab (List.mem_filter.mp hE.2.1).2) (hw.2.2.2.2.1 _ hE.2.1)) g4 g5 g6 (kq q9 H1 locs1 la g2 g3 hL (fun q hq => hC q hq))
  · rw [htab]
    simp [hTab, tableOf]
  · obtain ⟨z1, hz1, rfl⟩ := List.mem_map.mp hz
    obtain ⟨z2, hz2, rfl⟩ := List.mem_map.mp hz1
    have h2 := hks z2 (List.mem_append_left _ hz2)
    exact Or.inr ⟨h2.2.2.1, z2.1, hts _ h2.1, hnc _ (eXs_of hE.2.2.2 h2.2.2.2 (hne z2 hz2))⟩
  · show (decide (0 ≤ pc) && decide (pc < len)) = true
    simp [hpc]
/-! what a helper does: its out is a cell apart -/
def outS (μ : Mem) (G : Nat → Nat) (o : Nat) : Prop := μ.1 o = some (22, 1) ∧ ∀ m, m < 24 → o ≠ G m
def Fh (μ μ' : Mem) (G : Nat → Nat) (o : Nat) : Prop := ∀ a, oth μ G a → a ≠ o → sm μ μ' a
theorem outS_oth {μ : Mem} {G : Nat → Nat} {o : Nat} (h : outS μ G o) : oth μ G o := ⟨⟨22, 1, h.1, by decide⟩, h.2⟩
theorem outS_Fc {μ μ' : Mem} {G : Nat → Nat} {o : Nat} (h : outS μ G o) (hF : Fc μ μ' G) : outS μ' G o := ⟨((hF o (outS_oth h)).1).trans h.1, h.2⟩
theorem Fh_Fc {μ μ' : Mem} {G : Nat → Nat} {o : Nat} (hF : Fc μ μ' G) : Fh μ μ' G o := fun a ha _ => hF a ha
/-- r: its code is told, the state is the call's, an answer lies in out -/
def hP (G : Nat → Nat) (o : Nat) (μ : Mem) (r : Rs) (v : Option Value) (μ' : Mem) : Prop := v = some (.int (J r.1)) ∧ Rc μ' G r.2.2 ∧ Fh μ μ' G o ∧ outS μ' G o ∧ (0 ≤ r.1 ∧ r.1 ≤ 3) ∧ (r.1 = 0 → J (μ'.2.2.2.1 o 0) = J r.2.1 ∧ in32 (μ'.2.2.2.1 o 0))
theorem hP_er {G : Nat → Nat} {o : Nat} {μ : Mem} {r : Rs} {μ' : Mem} {c : Int} (ho : outS μ G o) (hc : r.1 = c) (h0 : 0 < c ∧ c ≤ 3) (hR : Rc μ' G r.2.2) (hF : Fc μ μ' G) : hP G o μ r (some (.int (J c))) μ' := ⟨by rw [hc], hR, Fh_Fc hF, outS_Fc ho hF, by omega, fun h => by omega⟩
theorem own_n {μ : Mem} {G : Nat → Nat} {o a : Nat} (h : outS μ G o) (ha : own μ G a) : a ≠ o := by
  rintro rfl
  rcases ha with ⟨m, hm, e⟩ | ⟨t, n, h1, h2, h3⟩
  · exact h.2 m hm e
  · rw [h.1] at h1
    cases h1
    omega
theorem hP_ok {G : Nat → Nat} {o : Nat} {μ : Mem} {r : Rs} {μ' : Mem} {z : Int} (ho : outS μ G o) (hc : r.1 = 0) (hz : J r.2.1 = J z) (hz2 : in32 z) (hR : Rc μ' G r.2.2) (hF : Fc μ μ' G) : hP G o μ r (some (.int (J 0))) (sA μ' o 0 z) := by
  have ho1 := outS_Fc ho hF
  have e0 : (sA μ' o 0 z).2.2.2.1 o 0 = z := u2_s _ _ _ _
  refine ⟨by rw [hc], Rc_sm hR (fun a ha => sm_A (own_n ho1 ha)), fun a ha hao => sm_tr (hF a ha) (sm_A hao), ⟨ho1.1, ho1.2⟩, by omega, fun _ => ?_⟩
  rw [e0]
  exact ⟨hz.symm, hz2⟩
theorem Rc_g0 {μ : Mem} {G : Nat → Nat} {s : Sg} (h : Rc μ G s) : μ.1 (G 0) = some (5, 0) := by
  obtain ⟨q, clk, dm, ob, ru, rn, rs, nb, tr⟩ := s
  exact h.1.1.1
theorem J_nm (a : Int) : ∃ z, J a = J z ∧ in32 z := by
  obtain ⟨z, h1, h2, h3⟩ := J_ex (J a)
  exact ⟨z, h1, h2, h3⟩
