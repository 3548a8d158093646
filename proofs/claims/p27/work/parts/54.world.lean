/-! the world at the law's start -/
theorem ar_p {args : Array Value} {s : State} {ty : FieldType} (h : (Cond.arrayClass ty).before args s = true) (hty : ∀ C, ty ≠ .object C) : ∃ c, ArrOfT s c ty ∧ va_RA s c ty := by
  obtain ⟨c, k, comp, h1, h2, h3⟩ := Cond.arrayClass_spec h
  refine ⟨c, fun n z => ⟨(fun k h => by cases h), k, h2, comp, h3⟩, ?_⟩
  cases ty with
  | object C => exact absurd rfl (hty C)
  | _ => exact h1
theorem ar_o {s : State} {C : String} (h : va_AO C s) : ∃ c, ArrOfT s c (.object C) ∧ va_RA s c (.object C) := by
  obtain ⟨comp, c, k, h1, h2, h3, h4, h5⟩ := Cond.arrayOver_spec h
  exact ⟨c, fun n z => ⟨(fun k h => by cases h), k, h3, comp, h4⟩, k, comp, h3, h4, h1, h5⟩
abbrev gvn : Cond := Jvm.Cond.and given_1 narrow_1
theorem str_in : zStr.all (fun q => decide (Cond.stringRef q.1 q.2.1 q.2.2 ∈ tables_1) && decide (Cond.exactly (.string q.1 q.2.1) "java/lang/String" ∈ flatC gvn)) = true := by decide +kernel
theorem wd_cls {args : Array Value} {s : State} (hg : ∀ q ∈ GT, q.before args s = true) : ∃ (dC : Nat → ClassId) (dI : Nat → Nat → Nat), ∀ (k : Nat) (q : vw_C), zCl[k]? = some q → u_Kn s q.1 q.2.1 q.2.2 (dC k) (dI k) := by
  obtain ⟨c0, n0, h0⟩ := u_known (C := RX0) (T := TX0) (N := 5) (n := 5) hg i0 (hg _ qN_0)
  obtain ⟨c1, n1, h1⟩ := u_known (C := RX1) (T := TX1) (N := 6) (n := 6) hg i1 (hg _ qN_1)
  obtain ⟨c2, n2, h2⟩ := u_known (C := RX2) (T := TX2) (N := 3) (n := 3) hg i2 (hg _ qN_2)
  obtain ⟨c3, n3, h3⟩ := u_known (C := RX3) (T := TX3) (N := 3) (n := 3) hg i3 (hg _ qN_3)
  obtain ⟨c4, n4, h4⟩ := u_known (C := RX4) (T := TX4) (N := 4) (n := 4) hg i4 (hg _ qN_4)
  obtain ⟨c5, n5, h5⟩ := u_known (C := RX5) (T := TX5) (N := 5) (n := 5) hg i5 (hg _ qN_5)
  obtain ⟨c7, n7, h7⟩ := u_known (C := RJx4a65c) (T := TJx4a65c) (N := 3) (n := 3) hg i7 (hg _ qN_7)
  refine ⟨fun k => match k with | 0 => c0 | 1 => c1 | 2 => c2 | 3 => c3 | 4 => c4 | 5 => c5 | 6 => c0 | _ => c7, fun k => match k with | 0 => n0 | 1 => n1 | 2 => n2 | 3 => n3 | 4 => n4 | 5 => n5 | 6 => n0 | _ => n7, ?_⟩
  intro k q hq
  match k, hq with
  | 0, hq => cases hq; exact h0
  | 1, hq => cases hq; exact h1
  | 2, hq => cases hq; exact h2
  | 3, hq => cases hq; exact h3
  | 4, hq => cases hq; exact h4
  | 5, hq => cases hq; exact h5
  | 6, hq => cases hq; exact h0
  | 7, hq => cases hq; exact h7
  | k + 8, hq => simp [zCl] at hq
theorem wd_of (l : Launch) (hflags : l.flags = flags0) {args : Array Value} {s : State} (hts : ∀ q ∈ lw_tbl, q.before args s = true) (hgv : gvn.before args s = true) : ∃ w : Wd, wl w = l ∧ wb w = s.heap.size ∧ wI w s := by
  have hg : ∀ q ∈ GT, q.before args s = true := fun q hq => hts q (List.mem_filter.mp hq).1
  have ht : ∀ q ∈ tables_1, q.before args s = true := fun q hq => hts q (List.mem_append_right _ hq)
  have hs := flat_of_before _ hgv
  obtain ⟨dC, dI, hK⟩ := wd_cls hg
  have oA : va_AO "Managetree$Agent" s := va_AO.of (ht (.arrayOver (.object "Managetree$Agent")) (by decide +kernel))
  have oO : va_AO "java/lang/Object" s := va_AO.of (ht (.arrayOver (.object "java/lang/Object")) (by decide +kernel))
  obtain ⟨a0, A0, B0⟩ := ar_p (hg _ qA_int) (fun _ h => by cases h)
  obtain ⟨a3, A3, B3⟩ := ar_o oA
  obtain ⟨a4, A4, B4⟩ := ar_o oO
  obtain ⟨mi, hmi⟩ := va_Mi.of (hs (.isRef (.mirror "[Ljava/lang/Object;")) (by decide +kernel))
  obtain ⟨E, hE, hT⟩ := va_Tof (N := 0) (f := fun _ => .null) (A := fun q => s.heap.size ≤ q) (by decide) (hs (.arrayOf (.static "java/util/ArrayList" "DEFAULTCAPACITY_EMPTY_ELEMENTDATA" "[Ljava/lang/Object;") (.object "java/lang/Object")) (by decide +kernel)) (va_eqt (hs (.eq (.length (.static "java/util/ArrayList" "DEFAULTCAPACITY_EMPTY_ELEMENTDATA" "[Ljava/lang/Object;")) (.int 0)) (by decide +kernel))) (fun j hj => absurd hj (Nat.not_lt_zero j)) (fun a ha => Nat.not_le.mpr ha)
  have hEl : E < s.heap.size := by
    obtain ⟨cell, h1, -⟩ := hT
    exact (Array.getElem?_eq_some_iff.mp h1).1
  have hA : ∀ a : Nat, a < s.heap.size → ¬ (fun q : Nat => s.heap.size ≤ q) a := fun a ha => Nat.not_le.mpr ha
  refine ⟨(l, (dC, dI), fun k => if k = 20 then a0 else if k = 21 then a0 else if k = 22 then a0 else if k = 23 then a3 else a4, s.heap.size, E, mi), rfl, rfl, ?_, ⟨hK, ?_⟩, oA, oO, fun c hc => va_Nw.of (zoW_tab (List.mem_filter.mp hc).2) (hts c (List.mem_filter.mp hc).1), va_Zof (ht (.laysStatic "java/util/ArrayList" "DEFAULTCAPACITY_EMPTY_ELEMENTDATA" "[Ljava/lang/Object;") (by decide +kernel)) (ht (.initialized "java/util/ArrayList") (by decide +kernel)) hE hA, ⟨hT, hEl⟩, vx_Zqof (ht (.laysStatic Bundle.tN "UNASSIGNED_STACK" Bundle.steD) (by decide +kernel)) (ht (.initialized Bundle.tN) (by decide +kernel)) (hs (.isRef (.static Bundle.tN "UNASSIGNED_STACK" Bundle.steD)) (by decide +kernel)) hA, vx_Zqof (ht (.laysStatic Bundle.tN "SUPPRESSED_SENTINEL" Bundle.listD) (by decide +kernel)) (ht (.initialized Bundle.tN) (by decide +kernel)) (hs (.isRef (.static Bundle.tN "SUPPRESSED_SENTINEL" Bundle.listD)) (by decide +kernel)) hA, hmi, va_Dc.of (ht (.declares ⟨"java/lang/Object", "getClass", "()Ljava/lang/Class;"⟩) (by decide +kernel)), fun q hq => ?_⟩
  · show (!l.flags.contains noTraceFlag) = false
    rw [hflags]
    decide +kernel
  · intro k q hq
    match k, hq with
    | 0, hq => cases hq; exact ⟨A0, B0⟩
    | 1, hq => cases hq; exact ⟨A0, B0⟩
    | 2, hq => cases hq; exact ⟨A0, B0⟩
    | 3, hq => cases hq; exact ⟨A3, B3⟩
    | 4, hq => cases hq; exact ⟨A4, B4⟩
    | k + 5, hq => simp [ztys] at hq
  · have h1 := List.all_eq_true.mp str_in q hq
    simp only [Bool.and_eq_true, decide_eq_true_eq] at h1
    obtain ⟨a, c, cell, k, e1, -⟩ := Cond.exactly_spec (args := args) (first := s) (o := none) (s := s) (idx := []) (hs _ h1.2)
    exact ⟨a, vk_R.of (ht _ h1.1) e1⟩
