/-! the parts of a memory, and how they are changed -/
abbrev mT (μ : Mem) : Nat → Option (Nat × Nat) := μ.1
abbrev fI (μ : Mem) : Nat → Nat → Nat → Int := μ.2.1
abbrev fR (μ : Mem) : Nat → Nat → Nat → Option Nat := μ.2.2.1
abbrev aI (μ : Mem) : Nat → Int → Int := μ.2.2.2.1
abbrev aR (μ : Mem) : Nat → Int → Option Nat := μ.2.2.2.2.1
abbrev lL (μ : Mem) : Nat → List Nat := μ.2.2.2.2.2
abbrev sI (μ : Mem) (c k a : Nat) (v : Int) : Mem := (μ.1, u3 μ.2.1 c k a v, μ.2.2)
abbrev sR (μ : Mem) (c k a : Nat) (v : Option Nat) : Mem := (μ.1, μ.2.1, u3 μ.2.2.1 c k a v, μ.2.2.2)
abbrev sA (μ : Mem) (a : Nat) (i v : Int) : Mem := (μ.1, μ.2.1, μ.2.2.1, u2 μ.2.2.2.1 a i v, μ.2.2.2.2)
abbrev sQ (μ : Mem) (a : Nat) (i : Int) (v : Option Nat) : Mem := (μ.1, μ.2.1, μ.2.2.1, μ.2.2.2.1, u2 μ.2.2.2.2.1 a i v, μ.2.2.2.2.2)
abbrev sL (μ : Mem) (a : Nat) (l : List Nat) : Mem := (μ.1, μ.2.1, μ.2.2.1, μ.2.2.2.1, μ.2.2.2.2.1, u1 μ.2.2.2.2.2 a l)
abbrev sT (μ : Mem) (a : Nat) (kd : Option (Nat × Nat)) : Mem := (u1 μ.1 a kd, μ.2)
def u0 {β : Type} (f : Nat → Nat → Nat → β) (q : Nat) (v : β) : Nat → Nat → Nat → β := fun c k a => if a = q then v else f c k a
theorem u0_s {β : Type} (f : Nat → Nat → Nat → β) (q : Nat) (v : β) (c k : Nat) : u0 f q v c k q = v := if_pos rfl
theorem u0_n {β : Type} (f : Nat → Nat → Nat → β) {q a : Nat} (v : β) (c k : Nat) (h : a ≠ q) : u0 f q v c k a = f c k a := if_neg h
/-- a new cell at q -/
abbrev sN (μ : Mem) (q : Nat) (kd : Nat × Nat) : Mem := (u1 μ.1 q (some kd), u0 μ.2.1 q 0, u0 μ.2.2.1 q none, u1 μ.2.2.2.1 q (fun _ => 0), u1 μ.2.2.2.2.1 q (fun _ => none), μ.2.2.2.2.2)
theorem zar_congr {A A' : Nat → Int → Int} {AR AR' : Nat → Int → Option Nat} {t a : Nat} (h1 : A' a = A a) (h2 : AR' a = AR a) : zar A' AR' t a = zar A AR t a := by simp only [zar, h1, h2]
theorem zent_congr {w : Wd} {μ μ' : Mem} {b : Nat} (kd : Nat × Nat) (h1 : ∀ c k, fI μ' c k b = fI μ c k b) (h2 : ∀ c k, fR μ' c k b = fR μ c k b) (h3 : aI μ' b = aI μ b) (h4 : aR μ' b = aR μ b) : zent w μ' b kd = zent w μ b kd := by
  unfold zent
  rw [zfs_congr (fun k => h1 _ k) (fun k => h2 _ k), zar_congr h3 h4]
theorem zP1 {D : va_G} {cl : List vw_C} {a : Nat} {e : va_E} {H : Heap} (h : va_at D cl (a, e) H) : va_P D cl [(a, e)] H := fun k q hk => by
  have hz : k < 1 := (List.getElem?_eq_some_iff.mp hk).1
  rw [show k = 0 by omega] at hk
  cases hk
  exact h
theorem zP2 {D : va_G} {cl : List vw_C} {a b : Nat} {e f : va_E} {H : Heap} (h : va_at D cl (a, e) H) (g : va_at D cl (b, f) H) : va_P D cl [(a, e), (b, f)] H := fun k q hk => by
  match k, hk with
  | 0, hk => cases hk; exact h
  | 1, hk => cases hk; exact g
theorem hHp_ent {w : Wd} {μ : Mem} {H : Heap} (h : hHp w μ H) {a : Nat} {kd : Nat × Nat} (hT : μ.1 a = some kd) (h24 : kd.1 ≠ 24) : va_at (wD w) zCl (a, zent w μ a kd) H := by
  obtain ⟨-, hid, hA, -⟩ := h
  exact (hA a kd hT).2.1 h24
theorem hHp_obj {w : Wd} {μ : Mem} {H : Heap} (h : hHp w μ H) {a ci n : Nat} (hT : μ.1 a = some (ci, n)) (hc : ci < 8) : va_at (wD w) zCl (a, .inr (ci, zfs μ.2.1 μ.2.2.1 ci a)) H := by
  have h1 := hHp_ent h hT (by show ci ≠ 24; omega)
  unfold zent at h1
  rw [if_pos hc] at h1
  exact h1
theorem hHp_arr {w : Wd} {μ : Mem} {H : Heap} (h : hHp w μ H) {a t n : Nat} (hT : μ.1 a = some (t, n)) (hc : ¬ t < 8) (h24 : t ≠ 24) : va_at (wD w) zCl (a, .inl (wA w t, n, zar μ.2.2.2.1 μ.2.2.2.2.1 t a)) H := by
  have h1 := hHp_ent h hT h24
  unfold zent at h1
  rw [if_neg hc] at h1
  exact h1
theorem hHp_wb {w : Wd} {μ : Mem} {H : Heap} (h : hHp w μ H) {a : Nat} {kd : Nat × Nat} (hT : μ.1 a = some kd) : wb w ≤ a := by
  obtain ⟨-, hid, hA, -⟩ := h
  exact (hA a kd hT).1
theorem hHp_lt {w : Wd} {μ : Mem} {H : Heap} (h : hHp w μ H) {a : Nat} {kd : Nat × Nat} (hT : μ.1 a = some kd) : a < H.size := by
  obtain ⟨-, hid, hA, -⟩ := h
  obtain ⟨-, h1, h2⟩ := hA a kd hT
  by_cases h24 : kd.1 = 24
  · exact (h2 h24).1.lt
  · exact (h1 h24).lt
theorem zli_kept {w : Wd} {T : Nat → Option (Nat × Nat)} {L : List Nat} {h : Hid} {H H1 : Heap} {a : Nat} (z : zli w T L h H a) (h1 : H1[a]? = H[a]?) (h2 : wb w ≤ h.1 → T h.1 = none → H1[h.1]? = H[h.1]?) : zli w T L h H1 a := by
  obtain ⟨z1, z2⟩ := z
  refine ⟨z1.kept h1, ?_⟩
  rcases z2 with z2 | ⟨g1, g2, g3, g4⟩
  · exact Or.inl z2
  · exact Or.inr ⟨g1, g2, g3.kept (h2 g1 g2), g4⟩
/-- one cell of the memory changes -/
theorem hHp_step {w : Wd} {μ μ' : Mem} {H H1 : Heap} {a : Nat} {kd : Nat × Nat} (h : hHp w μ H) (hT : μ.1 a = some kd) (hk : kd.1 ≠ 24) (e1 : μ'.1 = μ.1) (eL : μ'.2.2.2.2.2 = μ.2.2.2.2.2) (z : H1.size = H.size) (oq : ∀ q : Nat, q ≠ a → H1[q]? = H[q]?) (ha : va_at (wD w) zCl (a, zent w μ' a kd) H1) (hc : ∀ b kd', b ≠ a → zent w μ' b kd' = zent w μ b kd') : hHp w μ' H1 := by
  obtain ⟨hb, hid, hA, hI⟩ := h
  refine ⟨by rw [z]; exact hb, hid, fun b kb hTb => ?_, fun b c n m h1 h2 => ?_⟩
  · rw [e1] at hTb
    obtain ⟨g1, g2, g3⟩ := hA b kb hTb
    refine ⟨g1, fun h24 => ?_, fun h24 => ?_⟩
    · by_cases hba : b = a
      · subst hba
        cases hTb.symm.trans hT
        exact ha
      · rw [hc b kb hba]
        exact (g2 h24).kept (oq b hba)
    · rw [e1, eL]
      have hba : b ≠ a := fun e => by
        subst e
        cases hTb.symm.trans hT
        exact hk h24
      refine zli_kept (g3 h24) (oq b hba) (fun _ hn => oq _ (fun e => ?_))
      rw [e, hT] at hn
      cases hn
  · rw [e1] at h1 h2
    exact hI b c n m h1 h2
/-- a new cell -/
theorem hHp_new {w : Wd} {μ : Mem} {H H1 : Heap} {kd : Nat × Nat} (h : hHp w μ H) (hk : kd.1 ≠ 24) (z : H1.size = H.size + 1) (oq : ∀ q : Nat, q < H.size → H1[q]? = H[q]?) (ha : va_at (wD w) zCl (H.size, zent w (sN μ H.size kd) H.size kd) H1) : hHp w (sN μ H.size kd) H1 ∧ μ.1 H.size = none ∧ wb w ≤ H.size := by
  have hnone : μ.1 H.size = none := by
    cases hq : μ.1 H.size with
    | none => rfl
    | some kq => exact absurd (hHp_lt h hq) (Nat.lt_irrefl _)
  have hb := h.1
  refine ⟨?_, hnone, hb⟩
  obtain ⟨hb, hid, hA, hI⟩ := h
  have hlt : ∀ (b : Nat) (kb : Nat × Nat), μ.1 b = some kb → b < H.size := fun b kb hq => hHp_lt ⟨hb, hid, hA, hI⟩ hq
  have hT' : ∀ (b : Nat) (kb : Nat × Nat), b ≠ H.size → (sN μ H.size kd).1 b = some kb → μ.1 b = some kb := fun b kb hne hq => by
    have e : (sN μ H.size kd).1 b = μ.1 b := u1_n _ _ hne
    rw [← e]
    exact hq
  refine ⟨by rw [z]; omega, hid, fun b kb hTb => ?_, fun b c n m h1 h2 => ?_⟩
  · by_cases hba : b = H.size
    · subst hba
      have e : (sN μ H.size kd).1 H.size = some kd := u1_s _ _ _
      cases hTb.symm.trans e
      exact ⟨hb, fun _ => ha, fun h24 => absurd h24 hk⟩
    · have hTb' := hT' b kb hba hTb
      obtain ⟨g1, g2, g3⟩ := hA b kb hTb'
      refine ⟨g1, fun h24 => ?_, fun h24 => ?_⟩
      · rw [zent_congr (μ := μ) kb (fun c k => u0_n _ _ c k hba) (fun c k => u0_n _ _ c k hba) (u1_n _ _ hba) (u1_n _ _ hba)]
        exact (g2 h24).kept (oq b (hlt b kb hTb'))
      · obtain ⟨z1, z2⟩ := g3 h24
        refine ⟨z1.kept (oq b (hlt b kb hTb')), ?_⟩
        rcases z2 with z2 | ⟨y1, y2, y3, y4⟩
        · exact Or.inl z2
        · have hl := y3.lt
          refine Or.inr ⟨y1, ?_, y3.kept (oq _ hl), y4⟩
          show u1 μ.1 H.size (some kd) (hid b).1 = none
          rw [u1_n _ _ (Nat.ne_of_lt hl)]
          exact y2
  · by_cases hba : b = H.size
    · subst hba
      have e : (sN μ H.size kd).1 H.size = some kd := u1_s _ _ _
      rw [e] at h1
      cases h1
      exact absurd rfl hk
    · by_cases hca : c = H.size
      · subst hca
        have e : (sN μ H.size kd).1 H.size = some kd := u1_s _ _ _
        rw [e] at h2
        cases h2
        exact absurd rfl hk
      · exact hI b c n m (hT' b _ hba h1) (hT' c _ hca h2)
theorem zS_put {w : Wd} {H0 H H1 : Heap} {locs : List Loc} {a k : Nat} (h : va_S (zA w) H0 H locs) (z : H1.size = H.size) (oq : ∀ q : Nat, q ≠ a → H1[q]? = H[q]?) (ha : wb w ≤ a) : va_S (zA w) H0 H1 (locs ++ [⟨a, k⟩]) := h.put z oq ha
theorem zS_new {w : Wd} {H0 H H1 : Heap} {locs : List Loc} (h : va_S (zA w) H0 H locs) (z : H1.size = H.size + 1) (oq : ∀ q : Nat, q < H.size → H1[q]? = H[q]?) : va_S (zA w) H0 H1 locs := ⟨Nat.le_trans h.1 (by omega), fun q h1 h2 => (oq q (Nat.lt_of_lt_of_le h1 h.1)).trans (h.2.1 q h1 h2), h.2.2⟩
/-- a field's link: the place k of the class ci -/
def zFL (own : String) (index ci k : Nat) : Prop := ∃ (C : String) (T : u_T) (N : Nat) (ref : String), zCl[ci]? = some (C, T, N) ∧ k < N ∧ zN ci = N ∧ (∀ q ∈ u_ws C T N, q ∈ GT) ∧ Cond.fieldLink own index ref (T k).2.1 (T k).2.2.1 ∈ GT ∧ (ref = (T k).1 ∨ Cond.sameField ref (T k).1 (T k).2.1 (T k).2.2.1 ∈ GT)
/-- .. that may be written: its type -/
def zFW (ci k : Nat) (ty : FieldType) (fin : Bool) : Prop := ∃ (C : String) (T : u_T) (N : Nat) (ty0 : Nat → FieldType), zCl[ci]? = some (C, T, N) ∧ (∀ k, k < N → parseFieldDescriptor (T k).2.2.1 = some (ty0 k)) ∧ (∀ a, a < N → ∀ b, b < N → a ≠ b → (T a).2.1 ≠ (T b).2.1) ∧ (T k).2.2.2 = fin ∧ parseFieldDescriptor (T k).2.2.1 = some ty ∧ (fin = true → ∀ (q : String), zCl[ci]?.map (·.1) = some q → (T k).1 = q)
section ZH
variable {w : Wd} {x : Zc} {Q : State → Prop} {cc : ByteArray} {nL pc : Nat} {own : String} {rt : Option FieldType} {rm : Room} {nm : String} {ls : List (Nat × Value)} {st : List Value} {μ : Mem} {k n : Nat}
theorem zFL_same {s : State} {args : Array Value} {ref O f d : String} (hts : ∀ q ∈ GT, q.before args s = true) (h : ref = O ∨ Cond.sameField ref O f d ∈ GT) : ∀ x, s.fieldFound? O f d = some x → s.fieldFound? ref f d = some x := by
  rcases h with h | h
  · subst h
    exact fun _ h => h
  · exact fun x hx => u_same (hts _ h) x hx

theorem z_getv (C : Cx w x cc nL own rt rm nm) {a ci f n0 i : Nat} (hf : zFL own i ci f) (d : decode cc pc = .ok (.getfield i, 3)) (hT : μ.1 a = some (ci, n0)) (hc : ci < 8)
    (kk : Z w x Q nL (pc + 3) ls ((if zR ci f = true then va_rf (μ.2.2.1 ci f a) else .int (J (μ.2.1 ci f a))) :: st) μ k n) : Z w x Q nL (pc) ls (.ref a :: st) μ k n := by
  obtain ⟨p, e, R, s, m, args, below, meth, c⟩ := x
  obtain ⟨hx, hb, hml, ho, hts, hlk, hw, hrt, hR, hnm, hsz, het⟩ := C
  intro H locs la hH hS hL hC
  obtain ⟨C0, T0, N0, ref, hcl, hk, hN, hin, hlink, hsame⟩ := hf
  exact va_get hx hb hts hin ho hw.2.1 (zP1 (hHp_obj hH hT hc)) 0 rfl hcl f hk (hts _ hlink) (zFL_same hts hsame) (zfs_at _ _ _ _ (by rw [hN]; exact hk)) d (kk H locs la hH hS hL hC)
/-- an int field -/
theorem z_geti (C : Cx w x cc nL own rt rm nm) {a ci f n0 i : Nat} (hf : zFL own i ci f) (d : decode cc pc = .ok (.getfield i, 3)) (hT : μ.1 a = some (ci, n0)) 
    (kk : Z w x Q nL (pc + 3) ls (.int (J (μ.2.1 ci f a)) :: st) μ k n) (hc : ci < 8 := by decide) (hr : zR ci f = false := by rfl) : Z w x Q nL (pc) ls (.ref a :: st) μ k n := by
  refine z_getv C hf d hT hc ?_
  rw [hr]
  exact kk
/-- a reference field -/
theorem z_getq (C : Cx w x cc nL own rt rm nm) {a ci f n0 i : Nat} (hf : zFL own i ci f) (d : decode cc pc = .ok (.getfield i, 3)) (hT : μ.1 a = some (ci, n0)) 
    (kk : Z w x Q nL (pc + 3) ls (va_rf (μ.2.2.1 ci f a) :: st) μ k n) (hc : ci < 8 := by decide) (hr : zR ci f = true := by rfl) : Z w x Q nL (pc) ls (.ref a :: st) μ k n := by
  refine z_getv C hf d hT hc ?_
  rw [hr]
  exact kk
/-- .. that is known -/
theorem z_getr (C : Cx w x cc nL own rt rm nm) {a ci f n0 i : Nat} (r : Nat) (hf : zFL own i ci f) (d : decode cc pc = .ok (.getfield i, 3)) (hT : μ.1 a = some (ci, n0)) (hv : μ.2.2.1 ci f a = some r)
    (kk : Z w x Q nL (pc + 3) ls (.ref r :: st) μ k n) (hc : ci < 8 := by decide) (hr : zR ci f = true := by rfl) : Z w x Q nL (pc) ls (.ref a :: st) μ k n := by
  refine z_getq C hf d hT ?_ hc hr
  rw [hv]
  exact kk
theorem z_putv (C : Cx w x cc nL own rt rm nm) {a ci f n0 i : Nat} {ty : FieldType} {v : Value} {fin : Bool} (hf : zFL own i ci f) (hg : zFW ci f ty fin) (d : decode cc pc = .ok (.putfield i, 3)) (hT : μ.1 a = some (ci, n0)) (hc : ci < 8) (hn : narrow ty v = v) (hfit : fits ty v = true) (hfin : fin = true → nm = "<init>" ∧ zCl[ci]?.map (·.1) = some own) (μ' : Mem)
    (e1 : μ'.1 = μ.1) (e2 : zfs μ'.2.1 μ'.2.2.1 ci a = (zfs μ.2.1 μ.2.2.1 ci a).set f v) (e3 : μ'.2.2.2 = μ.2.2.2) (e4 : ∀ c k b, b ≠ a → μ'.2.1 c k b = μ.2.1 c k b) (e5 : ∀ c k b, b ≠ a → μ'.2.2.1 c k b = μ.2.2.1 c k b)
    (kk : Z w x Q nL (pc + 3) ls (st) μ' k n) : Z w x Q nL (pc) ls (v :: .ref a :: st) μ k n := by
  obtain ⟨p, e, R, s, m, args, below, meth, c⟩ := x
  obtain ⟨hx, hb, hml, ho, hts, hlk, hw, hrt, hR, hnm, hsz, het⟩ := C
  intro H locs la hH hS hL hC
  obtain ⟨C0, T0, N0, ref, hcl, hk, hN, hin, hlink, hsame⟩ := hf
  obtain ⟨C1, T1, N1, ty0, hcl1, hty, hnm1, hfn, hd, hdecl⟩ := hg
  cases hcl.symm.trans hcl1
  have hK := hw.2.1
  have hap := va_apart (own := own) hts hin ty0 hty hnm1 hK hcl
  have hat := hHp_obj hH hT hc
  obtain ⟨r, h1, cell, q1, q2, q3, q4⟩ := hat
  have hr : r = (C0, T0, N0) := Option.some.inj (h1.symm.trans hcl)
  subst hr
  obtain ⟨hSl, hfc, kC, hkC, hkind⟩ := hK.1 ci _ hcl
  obtain ⟨cf, kf, fi, fd, hi, hsl⟩ := hSl f hk
  have hlay := hts _ (hin _ (u_in_lay hk))
  have hst := (u_facts hfc hkC (u_lays hts hin hk) hi).1
  have hlen : f < (zfs μ.2.1 μ.2.2.1 ci a).length := by rw [zfs_len, hN]; exact hk
  have hend : ∀ (H' : Heap), H'[a]? = some (cell.setSlot ((wD w).2 ci f) v) → H'.size = H.size → (∀ q, q ≠ a → H'[q]? = H[q]?) → hHp w μ' H' := by
    intro H' g1 g2 g3
    refine hHp_step hH hT (by show ci ≠ 24; omega) e1 (by rw [e3]) g2 g3 ?_ (fun b kd' hba => zent_congr kd' (fun c k => e4 c k b hba) (fun c k => e5 c k b hba) (by show μ'.2.2.2.1 b = _; rw [e3]) (by show μ'.2.2.2.2.1 b = _; rw [e3]))
    unfold zent
    rw [if_pos hc, e2]
    exact ⟨_, hcl, t_OB.to (V := updV (vp_V (zfs μ.2.1 μ.2.2.1 ci a)) f v) ⟨_, g1, q2, q3, t_set q4 hap hk v⟩ (fun j _ => vp_updV_set hlen v j)⟩
  unfold u_lay at hlay
  cases fin with
  | false =>
    rw [if_neg (by rw [hfn]; decide)] at hlay
    have h6 := u_store hfc hkC hkind hlay hi hd hn hfit
    refine W.putK hx hb (f := fd) ⟨ho, hts _ hlink, ⟨_, _, _, zFL_same hts hsame _ hi⟩, hst⟩ (by rw [q2]; exact h6) q1 q3 (by rw [hsl]; exact k2_hasslot (q4 f hk)) rfl rfl d fun H' g1 g2 g3 => ?_
    rw [hsl] at g1 ⊢
    exact kk H' _ la (hend H' g1 g2 g3) (zS_put hS g2 g3 (hHp_wb hH hT)) hL hC
  | true =>
    rw [if_pos hfn] at hlay
    have hcf : m.cls = cf := by
      obtain ⟨_, _, c', _, _, _, -, -, hf', -, -, -, hown2, -⟩ := Cond.laysFinal_spec hlay
      have e1 : c' = cf := by have := hi.symm.trans hf'; simp at this; exact this.1.symm
      rw [hdecl rfl own (hfin rfl).2] at hown2
      rw [← e1]; exact Option.some.inj (ho.symm.trans hown2)
    have h6 := u_fits hfc hkC hkind (Or.inr hlay) hi hd hn hfit
    refine W.putFinK hx hb ho (hts _ hlink) (zFL_same hts hsame _ hi) hst hcf (hnm.trans (hfin rfl).1) (by rw [q2]; exact h6) q1 q3 (by rw [hsl]; exact k2_hasslot (q4 f hk)) rfl rfl d fun H' g1 g2 g3 => ?_
    rw [hsl] at g1 ⊢
    exact kk H' _ la (hend H' g1 g2 g3) (zS_put hS g2 g3 (hHp_wb hH hT)) hL hC
/-- an int field is written -/
theorem z_puti (C : Cx w x cc nL own rt rm nm) {a ci f n0 i : Nat} {v : Int} {fin : Bool} (hf : zFL own i ci f) (hg : zFW ci f .int fin) (d : decode cc pc = .ok (.putfield i, 3)) (hT : μ.1 a = some (ci, n0)) 
    (kk : Z w x Q nL (pc + 3) ls (st) (sI μ ci f a v) k n) (hfin : fin = true → nm = "<init>" ∧ zCl[ci]?.map (·.1) = some own := by first | (intro h; cases h; done) | exact fun _ => ⟨rfl, rfl⟩) (hc : ci < 8 := by decide) (hr : zR ci f = false := by rfl) : Z w x Q nL (pc) ls (.int (J v) :: .ref a :: st) μ k n :=
  z_putv C hf hg d hT hc rfl rfl hfin (sI μ ci f a v) rfl (zfs_setI hr) rfl (fun c k b h => u3_a _ _ _ _ _ h) (fun _ _ _ _ => rfl) kk
/-- a boolean field is written -/
theorem z_putz (C : Cx w x cc nL own rt rm nm) {a ci f n0 i : Nat} {v : Int} {fin : Bool} (hf : zFL own i ci f) (hg : zFW ci f .boolean fin) (d : decode cc pc = .ok (.putfield i, 3)) (hT : μ.1 a = some (ci, n0)) (hv : v = 0 ∨ v = 1)
    (kk : Z w x Q nL (pc + 3) ls (st) (sI μ ci f a v) k n) (hfin : fin = true → nm = "<init>" ∧ zCl[ci]?.map (·.1) = some own := by first | (intro h; cases h; done) | exact fun _ => ⟨rfl, rfl⟩) (hc : ci < 8 := by decide) (hr : zR ci f = false := by rfl) : Z w x Q nL (pc) ls (.int (J v) :: .ref a :: st) μ k n :=
  z_putv C hf hg d hT hc (by rcases hv with rfl | rfl <;> rfl) (by rcases hv with rfl | rfl <;> rfl) hfin (sI μ ci f a v) rfl (zfs_setI hr) rfl (fun c k b h => u3_a _ _ _ _ _ h) (fun _ _ _ _ => rfl) kk
/-- a reference field is written -/
theorem z_putq (C : Cx w x cc nL own rt rm nm) {a ci f n0 i : Nat} {v : Option Nat} {fin : Bool} {ty : FieldType} (hf : zFL own i ci f) (hg : zFW ci f ty fin) (d : decode cc pc = .ok (.putfield i, 3)) (hT : μ.1 a = some (ci, n0)) 
    (kk : Z w x Q nL (pc + 3) ls (st) (sR μ ci f a v) k n) (hty : (match ty with | .object _ => true | .array _ => true | _ => false) = true := by rfl) (hfin : fin = true → nm = "<init>" ∧ zCl[ci]?.map (·.1) = some own := by first | (intro h; cases h; done) | exact fun _ => ⟨rfl, rfl⟩) (hc : ci < 8 := by decide) (hr : zR ci f = true := by rfl) : Z w x Q nL (pc) ls (va_rf v :: .ref a :: st) μ k n :=
  z_putv C hf hg d hT hc (by cases v <;> cases ty <;> first | rfl | cases hty) (by cases v <;> cases ty <;> first | rfl | cases hty) hfin (sR μ ci f a v) rfl (zfs_setR hr) rfl (fun _ _ _ _ => rfl) (fun c k b h => u3_a _ _ _ _ _ h) kk
end ZH
