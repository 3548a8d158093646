/-! change, sample, setMarks, restart -/
theorem uO_uO (f : Nat → Int → Ob) (j : Nat) (k : Int) (o o2 : Ob) : uO (uO f j k o) j k o2 = uO f j k o2 := by
  unfold uO
  rw [u1_s, u1_u1]
  congr 1
  funext x
  by_cases hx : x = k
  · subst hx
    rw [uI_s, uI_s]
  · rw [uI_n _ _ hx, uI_n _ _ hx, uI_n _ _ hx]
theorem uO_s (f : Nat → Int → Ob) (j : Nat) (k : Int) (o : Ob) : uO f j k o j k = o := by
  unfold uO
  rw [u1_s, uI_s]
section CMP
variable {μ μ' : Mem} {G : Nat → Nat} {q clk : Int} {dm : Nat → List Int} {ob : Nat → Int → Ob} {ru : Nat → Int → Int} {rn rs : Nat → Int} {nb : Nat → Int → Int} {tr : List Trp}
theorem nd_inj {l : List Nat} (h : l.Nodup) {i j t : Nat} (hi : l[i]? = some t) (hj : l[j]? = some t) : i = j := by
  obtain ⟨i1, i2⟩ := List.getElem?_eq_some_iff.mp hi
  obtain ⟨j1, j2⟩ := List.getElem?_eq_some_iff.mp hj
  rcases Nat.lt_trichotomy i j with hlt | he | hgt
  · exact absurd (i2.trans j2.symm) (List.pairwise_iff_getElem.mp h i j i1 j1 hlt)
  · exact he
  · exact absurd (j2.trans i2.symm) (List.pairwise_iff_getElem.mp h j i j1 i1 hgt)
theorem Rc_sent (h : Rc μ G (q, clk, dm, ob, ru, rn, rs, nb, tr)) {a p : Int} (hs : sentP μ (G 0) (G 2) a p μ') : Rc μ' G (q, clk, dm, ob, ru, rn, rs, nb, sndT clk a p tr) ∧ Fc μ μ' G ∧ ∀ y n0, μ.1 y = some (1, n0) → μ'.2.1 1 2 y = μ.2.1 1 2 y := by
  have h0 := h
  obtain ⟨h1, h2, h3, h4, h5, h6, h7, h8, h9, ⟨t1, t2, t3⟩, h11, h12⟩ := h
  have hx : ∀ (i t : Nat), (μ.2.2.2.2.2 (G 2))[i]? = some t → ∃ x, tr[i]? = some x := fun i t hi => ⟨_, List.getElem?_eq_getElem (by have := (List.getElem?_eq_some_iff.mp hi).1; omega)⟩
  have ht : ∀ (i : Nat) (x : Trp), tr[i]? = some x → ∃ t, (μ.2.2.2.2.2 (G 2))[i]? = some t := fun i x hi => ⟨_, List.getElem?_eq_getElem (by have := (List.getElem?_eq_some_iff.mp hi).1; omega)⟩
  -- the last one, by its place
  have some1 : ∀ t, isLt μ (μ.2.2.2.2.2 (G 2)) a p (some t) → ∃ i x, (μ.2.2.2.2.2 (G 2))[i]? = some t ∧ tr[i]? = some x ∧ lst tr a p tr.length = some i := by
    rintro t ⟨i, g1, g2, g3, g4⟩
    obtain ⟨x, hxx⟩ := hx i t g1
    obtain ⟨k0, k1, k2, k3, k4⟩ := t3 i t x g1 hxx
    refine ⟨i, x, g1, hxx, lst_some hxx ⟨k1.symm.trans g2, k2.symm.trans g3⟩ (List.getElem?_eq_some_iff.mp hxx).1 (fun j y hj hl hy hc => ?_)⟩
    obtain ⟨t', ht'⟩ := ht j y hy
    obtain ⟨l0, l1, l2, l3, l4⟩ := t3 j t' y ht' hy
    exact g4 j t' hj ht' ⟨l1.trans hc.1, l2.trans hc.2⟩
  have none1 : isLt μ (μ.2.2.2.2.2 (G 2)) a p none → lst tr a p tr.length = none := by
    intro g
    refine lst_none (fun i x hi hx hc => ?_)
    obtain ⟨t', ht'⟩ := ht i x hx
    obtain ⟨l0, l1, l2, l3, l4⟩ := t3 i t' x ht' hx
    exact g t' (List.mem_of_getElem? ht') ⟨l1.trans hc.1, l2.trans hc.2⟩
  rcases hs with ⟨t, g1, g2, rfl⟩ | ⟨r, g1, g2, qn, μ1, g3, rfl⟩
  · obtain ⟨i, x, e1, e2, e3⟩ := some1 t g1
    obtain ⟨⟨n0, k0⟩, k1, k2, k3, k4⟩ := t3 i t x e1 e2
    have k3' : μ.2.1 4 2 t = x.2.2.1 := k3
    have k4' : μ.2.1 4 3 t = x.2.2.2 := k4
    have es : sndT clk a p tr = tr.set i (x.1, x.2.1, x.2.2.1, x.2.2.2 + 1) := by
      unfold sndT
      rw [e3]
      show (match tr[i]? with | none => tr | some x => _) = _
      rw [e2]
      show (if clk - x.2.2.1 < 10 then _ else _) = _
      rw [if_pos (by omega)]
    rw [es]
    refine ⟨Rc_traps h0 (l := μ.2.2.2.2.2 (G 2)) (F4 := (sI μ 4 3 t (μ.2.1 4 3 t + 1)).2.1 4) ⟨by rw [List.length_set]; exact t1, t2, fun i' t' x' hi' hx' => ?_⟩ rfl (fun c hc => sI_cf hc) rfl rfl rfl (by rw [u1_self]) rfl, fun b hb => sm_I (oth_n hb k0 (by decide)), fun y n0 hy => sI_c _ _ (by decide)⟩
    by_cases hii : i' = i
    · subst hii
      rw [e1] at hi'
      cases hi'
      have hlt := (List.getElem?_eq_some_iff.mp e2).1
      rw [List.getElem?_set, if_pos rfl, if_pos hlt] at hx'
      cases hx'
      exact ⟨⟨n0, k0⟩, (sI_k 4 _ (by decide)).trans k1, (sI_k 4 _ (by decide)).trans k2, (sI_k 4 _ (by decide)).trans k3, by rw [sI_s, k4']⟩
    · rw [List.getElem?_set, if_neg (fun e => hii e.symm)] at hx'
      have htt : t' ≠ t := fun e => hii (nd_inj t2 (by rw [e] at hi'; exact hi') e1)
      obtain ⟨l0, l1, l2, l3, l4⟩ := t3 i' t' x' hi' hx'
      exact ⟨l0, (sI_a 4 _ htt).trans l1, (sI_a 4 _ htt).trans l2, (sI_a 4 _ htt).trans l3, (sI_a 4 _ htt).trans l4⟩
  · have es : sndT clk a p tr = tr ++ [(a, p, clk, 0)] := by
      unfold sndT
      cases r with
      | none => rw [none1 g1]
      | some t =>
        obtain ⟨i, x, e1, e2, e3⟩ := some1 t g1
        obtain ⟨k0, k1, k2, k3, k4⟩ := t3 i t x e1 e2
        have k3' : μ.2.1 4 2 t = x.2.2.1 := k3
        have := g2 t rfl
        rw [e3]
        show (match tr[i]? with | none => tr | some x => _) = _
        rw [e2]
        show (if clk - x.2.2.1 < 10 then _ else _) = _
        rw [if_neg (by omega)]
    rw [es]
    obtain ⟨w1, w2, w3, w4, w5, w6, w7⟩ := g3
    have hR1 := Rc_off h0 w1 w2
    have L1 : μ1.2.2.2.2.2 (G 2) = μ.2.2.2.2.2 (G 2) := (w2 _ (ne_of_T h1.1.2.2.2.2.2.1 w1)).2.2.2.2.2
    obtain ⟨s1, s2, s3⟩ := hR1.2.2.2.2.2.2.2.2.2.1
    rw [L1] at s1 s2 s3
    have hnq : ∀ t ∈ μ.2.2.2.2.2 (G 2), t ≠ qn := fun t htm e => by
      obtain ⟨i, hi⟩ := List.getElem?_of_mem htm
      obtain ⟨x, hxx⟩ := hx i t hi
      obtain ⟨⟨n0, k0⟩, -⟩ := t3 i t x hi hxx
      rw [e, w1] at k0
      cases k0
    refine ⟨Rc_traps hR1 (l := μ.2.2.2.2.2 (G 2) ++ [qn]) (F4 := μ1.2.1 4) ⟨by rw [List.length_append, List.length_append, t1]; rfl, ?_, fun i t x hi hxx => ?_⟩ rfl (fun _ _ => rfl) rfl rfl rfl rfl rfl, Fc_tr (Fc_off w1 w2) (fun b hb => sm_L (hb.2 2 (by decide))), fun y n0 hy => (w2 y (ne_of_T hy w1)).2.1 1 2⟩
    · exact List.nodup_append.mpr ⟨t2, by simp, fun b hb c hc e => hnq b hb (by rw [e]; exact List.mem_singleton.mp hc)⟩
    · by_cases hil : i < tr.length
      · rw [List.getElem?_append_left (by omega)] at hi hxx
        exact s3 i t x hi hxx
      · rw [List.getElem?_append_right (by omega)] at hi hxx
        have hi0 : i - (μ.2.2.2.2.2 (G 2)).length = 0 := by
          have := (List.getElem?_eq_some_iff.mp hi).1
          simp at this
          omega
        rw [hi0] at hi
        rw [← t1, hi0] at hxx
        cases hi
        cases hxx
        exact ⟨⟨0, w3⟩, w4, w5, by rw [w6]; exact h4, w7⟩
theorem Rc_cmp (h : Rc μ G (q, clk, dm, ob, ru, rn, rs, nb, tr)) {j y : Nat} {v : Int} (hj : j < 4) (hnd : (dm j).Nodup) (hy : y ∈ μ.2.2.2.2.2 (gL G j)) (hc : cmpP (sI μ 1 2 y v) (G 0) (G 2) (j : Int) y μ') : Rc μ' G (q, clk, dm, uO ob j (μ.2.1 1 0 y) (hasO (ob j (μ.2.1 1 0 y)) v), ru, rn, rs, nb, if frs (ob j (μ.2.1 1 0 y)) v = true then sndT clk (j : Int) (μ.2.1 1 0 y) tr else tr) ∧ Fc μ μ' G ∧ μ'.2.1 1 2 y = v ∧ (frs (ob j (μ.2.1 1 0 y)) v = false → μ'.2.2.2.2.2 = μ.2.2.2.2.2 ∧ μ'.2.1 1 0 = μ.2.1 1 0 ∧ μ'.1 = μ.1) := by
  have h0 := h
  obtain ⟨h1, h2, h3, h4, h5, h6, h7, h8, h9, h10, h11, h12⟩ := h
  obtain ⟨n0, hT⟩ := (h5 j hj).1 y hy
  obtain ⟨i1, i2, i3, i4, i5⟩ := (h5 j hj).2.2 y hy
  obtain ⟨o, ho⟩ : ∃ o, o = ob j (μ.2.1 1 0 y) := ⟨_, rfl⟩
  rw [← ho] at i1 i2 i3 i4 i5 ⊢
  have e10 : (sI μ 1 2 y v).2.1 1 0 = μ.2.1 1 0 := by
    funext z
    exact sI_k 1 z (by decide)
  unfold cmpP at hc
  cases hr : μ.2.2.1 1 3 y with
  | none =>
    rw [show (sI μ 1 2 y v).2.2.1 1 3 y = none from hr] at hc
    have hc' : μ' = sI μ 1 2 y v := hc
    rw [hr] at i3
    have hm : o.2.2.1 = none := by
      cases h9 : o.2.2.1 with
      | none => rfl
      | some x => rw [h9] at i3; exact i3.elim
    have hf : frs o v = false := by unfold frs; rw [hm]
    have hh : hasO o v = (o.1, v, none, o.2.2.2) := by unfold hasO; rw [hm]
    rw [hf, if_neg (by decide), hh, hc']
    refine ⟨Rc_item h0 hj hy hnd rfl (fun c c1 c2 => sI_cf c1) e10 (fun k z hz => sI_a 1 k hz) (fun _ _ => rfl) (fun _ _ _ => rfl) rfl (fun i z m _ _ _ _ k => sI_c _ _ (by decide)) ⟨(sI_k 1 _ (by decide)).trans i1, sI_s, ?_, ?_, ?_⟩ (fun i z m hi hz hzy hm2 _ => by rw [show (sI μ 1 2 y v).2.2.1 1 3 y = none from hr] at hm2; cases hm2), fun b hb => sm_I (oth_n hb hT (by decide)), sI_s, fun _ => ⟨rfl, e10, rfl⟩⟩
    · rw [show (sI μ 1 2 y v).2.2.1 1 3 y = none from hr]
      exact True.intro
    · rw [sI_cf (c' := 3) (by decide)]
      exact i4
    · rw [sI_cf (c' := 3) (by decide)]
      exact i5
  | some m =>
    rw [hr] at i3
    obtain ⟨lo, hi, ar, hm⟩ : ∃ lo hi ar, o.2.2.1 = some (lo, hi, ar) := by
      cases h9 : o.2.2.1 with
      | none => rw [h9] at i3; exact i3.elim
      | some x => exact ⟨x.1, x.2.1, x.2.2, rfl⟩
    rw [hm] at i3
    obtain ⟨⟨n1, hTm⟩, m1, m2, m3⟩ := i3
    have m1' : μ.2.1 2 0 m = lo := m1
    have m2' : μ.2.1 2 1 m = hi := m2
    have m3' : μ.2.1 2 2 m = ar := m3
    have E2 : (sI μ 1 2 y v).2.1 2 = μ.2.1 2 := sI_cf (by decide)
    have hf : fires (sI μ 1 2 y v) m v = frs o v := by
      unfold fires frs
      rw [hm, E2, m2', m3']
    have ha : arms (sI μ 1 2 y v) m v = (if frs o v = true then 0 else if v ≤ lo then 1 else ar) := by
      unfold arms
      rw [hf, E2, m1', m3']
    have hh : hasO o v = (o.1, v, some (lo, hi, if frs o v = true then 0 else if v ≤ lo then 1 else ar), o.2.2.2) := by unfold hasO; rw [hm]
    rw [show (sI μ 1 2 y v).2.2.1 1 3 y = some m from hr] at hc
    have hc2 : (if fires (sI μ 1 2 y v) m ((sI μ 1 2 y v).2.1 1 2 y) = true then sentP (sI (sI μ 1 2 y v) 2 2 m (arms (sI μ 1 2 y v) m ((sI μ 1 2 y v).2.1 1 2 y))) (G 0) (G 2) (j : Int) ((sI μ 1 2 y v).2.1 1 0 y) μ' else μ' = sI (sI μ 1 2 y v) 2 2 m (arms (sI μ 1 2 y v) m ((sI μ 1 2 y v).2.1 1 2 y))) := hc
    rw [show (sI μ 1 2 y v).2.1 1 2 y = v from sI_s, hf, e10] at hc2
    obtain ⟨A, hA⟩ : ∃ A, A = arms (sI μ 1 2 y v) m v := ⟨_, rfl⟩
    rw [← hA] at hc2 ha
    obtain ⟨μ2, hμ2⟩ : ∃ μ2, μ2 = sI (sI μ 1 2 y v) 2 2 m A := ⟨_, rfl⟩
    rw [← hμ2] at hc2
    have F1 : μ2.2.1 1 = (sI μ 1 2 y v).2.1 1 := by rw [hμ2]; exact sI_cf (by decide)
    have hR2 : Rc μ2 G (q, clk, dm, uO ob j (μ.2.1 1 0 y) (hasO o v), ru, rn, rs, nb, tr) := by
      refine Rc_item h0 hj hy hnd (by rw [hμ2]) (fun c c1 c2 => by rw [hμ2]; exact (sI_cf c2).trans (sI_cf c1)) (by rw [F1]; exact e10) (fun k z hz => by rw [F1]; exact sI_a 1 k hz) (fun _ _ => by rw [hμ2]) (fun _ _ _ => by rw [hμ2]) (by rw [hμ2]) (fun i z m' hi' hz hzy hmm k => ?_) ⟨?_, ?_, ?_, ?_, ?_⟩ (fun i z m' hi' hz hzy hm2 hm3 => ?_)
      · have hne : m' ≠ m := fun e => hzy (h6.2 i j z y m hi' hj hz hy (by rw [← e]; exact hmm) hr)
        rw [hμ2]
        exact (sI_a 2 k hne).trans (congrFun (congrFun E2 k) m')
      · rw [F1, hh]
        exact (sI_k 1 _ (by decide)).trans i1
      · rw [F1, hh]
        exact sI_s
      · rw [hh, hμ2]
        rw [show (sI (sI μ 1 2 y v) 2 2 m A).2.2.1 1 3 y = some m from hr]
        refine ⟨⟨n1, hTm⟩, (sI_k 2 _ (by decide)).trans ((congrFun (congrFun E2 0) m).trans m1), (sI_k 2 _ (by decide)).trans ((congrFun (congrFun E2 1) m).trans m2), ?_⟩
        rw [← ha]
        exact sI_s
      · rw [hh, hμ2, sI_cf (c' := 3) (by decide), sI_cf (c' := 3) (by decide)]
        exact i4
      · rw [hh, hμ2, sI_cf (c' := 3) (by decide), sI_cf (c' := 3) (by decide)]
        exact i5
      · rw [hμ2] at hm2
        have hm2' : μ.2.2.1 1 3 y = some m' := hm2
        exact hzy (h6.2 i j z y m' hi' hj hz hy hm3 hm2')
    have hF2 : Fc μ μ2 G := fun b hb => by
      rw [hμ2]
      exact sm_tr (sm_I (oth_n hb hT (by decide))) (sm_I (oth_n hb hTm (by decide)))
    have hv2 : μ2.2.1 1 2 y = v := by rw [F1]; exact sI_s
    have hT2 : μ2.1 y = some (1, n0) := by rw [hμ2]; exact hT
    cases hfr : frs o v with
    | true =>
      rw [hfr, if_pos rfl] at hc2
      rw [if_pos rfl]
      obtain ⟨r1, r2, r3⟩ := Rc_sent hR2 hc2
      exact ⟨r1, Fc_tr hF2 r2, (r3 y n0 hT2).trans hv2, fun e => by cases e⟩
    | false =>
      rw [hfr, if_neg (by decide)] at hc2
      rw [if_neg (by decide), hc2]
      exact ⟨hR2, hF2, hv2, fun _ => ⟨by rw [hμ2], by rw [F1]; exact e10, by rw [hμ2]⟩⟩
end CMP
