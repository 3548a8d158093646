/-! remove -/
theorem er_perm : ∀ {l : List Int} {i : Nat} {q : Int}, l[i]? = some q → l.Perm (q :: l.eraseIdx i)
  | [], _, _, h => by simp at h
  | a :: l, 0, q, h => by
    simp at h
    subst h
    exact List.Perm.refl _
  | a :: l, i + 1, q, h => by
    have h' : l[i]? = some q := by simpa using h
    show (a :: l).Perm (q :: a :: l.eraseIdx i)
    exact (List.Perm.cons a (er_perm h')).trans (List.Perm.swap q a _)
theorem st_perm : ∀ {l : List Int} {i : Nat} (e : Int), i < l.length → (l.set i e).Perm (e :: l.eraseIdx i)
  | [], _, _, h => by simp at h
  | a :: l, 0, e, h => List.Perm.refl _
  | a :: l, i + 1, e, h => by
    show (a :: l.set i e).Perm (e :: a :: l.eraseIdx i)
    exact (List.Perm.cons a (st_perm e (by simpa using h))).trans (List.Perm.swap e a _)
theorem swap_perm {l : List Int} {i : Nat} {q e : Int} (hi : l[i]? = some q) (he : l[l.length - 1]? = some e) : l.Perm (q :: (l.set i e).dropLast) := by
  obtain ⟨i1, i2⟩ := List.getElem?_eq_some_iff.mp hi
  obtain ⟨t, x, rfl⟩ : ∃ t x, l = t ++ [x] := ⟨l.dropLast, l.getLast (by intro h; rw [h] at i1; simp at i1), (List.dropLast_concat_getLast _).symm⟩
  have hx : e = x := by
    rw [List.length_append, List.getElem?_append_right (by simp)] at he
    simp at he
    exact he.symm
  subst hx
  by_cases hit : i < t.length
  · rw [List.set_append_left _ _ hit, List.dropLast_concat]
    rw [List.getElem?_append_left hit] at hi
    obtain ⟨k1, k2⟩ := List.getElem?_eq_some_iff.mp hi
    have p1 : t.Perm (q :: t.eraseIdx i) := er_perm hi
    have p2 : (t.set i e).Perm (e :: t.eraseIdx i) := st_perm e k1
    refine (p1.append_right [e]).trans ?_
    refine List.Perm.cons q ?_
    refine List.perm_append_comm.trans ?_
    exact p2.symm
  · rw [List.set_append_right _ _ (by omega)]
    rw [List.length_append] at i1
    simp at i1
    have : i = t.length := by omega
    subst this
    rw [Nat.sub_self]
    show (t ++ [e]).Perm (q :: (t ++ [e]).dropLast)
    rw [List.dropLast_concat]
    rw [List.getElem?_append_right (Nat.le_refl _), Nat.sub_self] at hi
    cases hi
    exact List.perm_append_comm
theorem filt_perm {l l' dm : List Int} {q : Int} (h : l.Perm (q :: l')) (hp : l.Perm dm) (hnd : dm.Nodup) : l'.Perm (dm.filter (fun z => !decide (z = q))) := by
  have h1 : dm.Perm (q :: l') := hp.symm.trans h
  have h2 : (q :: l').Nodup := h1.nodup_iff.mp hnd
  have h3 := h1.filter (fun z => !decide (z = q))
  have e : (q :: l').filter (fun z => !decide (z = q)) = l' := by
    rw [List.filter_cons_of_neg (by simp)]
    exact List.filter_eq_self.mpr (fun z hz => by
      have : z ≠ q := fun e => (List.nodup_cons.mp h2).1 (by rw [← e]; exact hz)
      simp [this])
  rw [e] at h3
  exact h3.symm
theorem mO_mv {A A' : Nat → Int → Int} {d f : Int} {o : Ob} (h : mO A f o) (h1 : ∀ k, 5 ≤ k → k ≤ 10 → A' k d = A k f) (h2 : ∀ k, 11 ≤ k → k ≤ 13 → A' k (2 * d) = A k (2 * f) ∧ A' k (2 * d + 1) = A k (2 * f + 1)) : mO A' d o := by
  obtain ⟨o1, o2, o3, o4, o5, o6, o7⟩ := h
  refine ⟨(h1 5 (by decide) (by decide)).trans o1, (h1 6 (by decide) (by decide)).trans o2, fun h => (h1 8 (by decide) (by decide)).trans (o3 h), fun lo hi ar h => ?_, (h1 10 (by decide) (by decide)).trans o5, fun e he => ?_, fun e he => ?_⟩
  · obtain ⟨q1, q2, q3⟩ := o4 lo hi ar h
    exact ⟨(h1 7 (by decide) (by decide)).trans q1, (h1 8 (by decide) (by decide)).trans q2, (h1 9 (by decide) (by decide)).trans q3⟩
  · obtain ⟨q1, q2, q3⟩ := o6 e he
    exact ⟨(h2 11 (by decide) (by decide)).2.trans q1, (h2 12 (by decide) (by decide)).2.trans q2, (h2 13 (by decide) (by decide)).2.trans q3⟩
  · obtain ⟨q1, q2, q3⟩ := o7 e he
    exact ⟨(h2 11 (by decide) (by decide)).1.trans q1, (h2 12 (by decide) (by decide)).1.trans q2, (h2 13 (by decide) (by decide)).1.trans q3⟩
section MOR
variable {N t : Int} {s : Sg} {M : Nat → Nat} {μ : Mem}
theorem m_remove (w : Wd) (a : Int) (hR : Rm μ M t s) (hO : okS N s) (h32 : in32 a) : cM w yX6_remove cX6_remove 4 (some .int) 8 0 0 [.ref (M 0), .int (J a)] μ (okM M μ (spRemove a s)) (fun _ _ => False) := by
  obtain ⟨q, clk, dm, ob, ru, rn, rs, nb, tr⟩ := s
  obtain ⟨A, hm, hI, hRu, hRs, hNb, hTr, h9⟩ := hR
  have hF := Fm_rf μ M
  have hqk := hO.2.1
  have hqi := k11_in hqk
  have hci := hO.2.2.1
  have g0 := hm.1.1
  obtain ⟨r, hr⟩ : ∃ r, r = spRemove a (q, clk, dm, ob, ru, rn, rs, nb, tr) := ⟨_, rfl⟩
  rw [← hr]
  refine cM_of (fun x C => ?_)
  obtain ⟨P0, hP0⟩ : ∃ P0, P0 = okM M μ r := ⟨_, rfl⟩
  obtain ⟨μs, hμs⟩ : ∃ μs, μs = μ := ⟨_, rfl⟩
  rw [← hP0]
  rw [← hμs] at hP0 hF
  refine z_aload_n C dX6_remove_0 rfl ?_
  refine z_iload_n C dX6_remove_1 rfl ?_
  refine z_callV C (c_isAgent w μ a h32 hm) qM_X6_99 dX6_remove_2 rfl (zRc_o g0) (fun _ _ h => h.elim) ?_
  rintro v μ1 ⟨rfl, hm, hF1⟩
  rw [← hμs] at hF1
  have hF := hF1
  have g0 := hm.1.1
  by_cases ha : 0 ≤ a ∧ a ≤ 3
  · rw [if_pos ha] at hm
    rw [decide_eq_true ha, show zB true = 1 from rfl]
    obtain ⟨j, rfl⟩ : ∃ j : Nat, a = (j : Int) := ⟨a.toNat, by omega⟩
    have hj : j < 4 := by omega
    obtain ⟨l, hl, hp, ho⟩ := hI j hj
    have hJ := hO.2.2.2.1 j hj
    obtain ⟨hl1, hl2, hl3⟩ := id hl
    have fin : r = (0, vK (dm j) (ob j) q, q, clk, u1 dm j ((dm j).filter (fun z => !decide (z = q))), ob, ru, rn, rs, nb, tr) := by rw [hr, spRemove, if_neg (by omega)]; rfl
    refine z_if_eq (tgt := 16) C dX6_remove_5 (by decide) (by omega) (fun g => ?_) (fun g => ?_)
    · exact absurd g (by decide)
    · refine z_aload_n C dX6_remove_8 rfl ?_
      refine z_iload_n C dX6_remove_9 rfl ?_
      refine z_callV C (c_slot w μ1 j l q hj hqk hl hm) qM_X6_96 dX6_remove_10 rfl (zRc_o g0) (fun _ _ h => h.elim) ?_
      rintro v μ2 ⟨⟨z, rfl, hz⟩, rfl⟩
      have hzr := slP_in hz hl.2.1 hj
      refine z_goto (tgt := 17) C dX6_remove_13 (by decide) ?_
      refine z_istore_n C dX6_remove_17 ?_
      refine z_aload_n C dX6_remove_18 rfl ?_
      refine z_mg0 C hm qF_X6_71 dX6_remove_19 ?_
      refine z_if_gt (tgt := 30) C dX6_remove_22 (by decide) (by omega) (fun g2 => ?_) (fun g2 => ?_)
      · omega
      · refine z_iload_n C dX6_remove_25 rfl ?_
        refine z_iconst C dX6_remove_26 ?_
        refine z_icmp_ne (tgt := 43) C dX6_remove_27 (by decide) (by omega) (fun g3 => ?_) (fun g3 => ?_)
        · obtain ⟨i, h1, h2⟩ : ∃ i : Nat, l[i]? = some q ∧ z = 20 * (j : Int) + (i : Int) := by
            rcases hz with ⟨h1, -⟩ | h
            · exact absurd h1 g3
            · exact h
          subst h2
          have hin : q ∈ dm j := hp.mem_iff.mp (List.mem_of_getElem? h1)
          have hoo := ho i q h1
          have hi := (List.getElem?_eq_some_iff.mp h1).1
          obtain ⟨e, he⟩ : ∃ e, l[l.length - 1]? = some e := ⟨_, List.getElem?_eq_getElem (by omega)⟩
          refine z_aload_n C dX6_remove_43 rfl ?_
          refine z_mgf C hm qF_X6_19 dX6_remove_44 ?_
          refine z_iload_n C dX6_remove_47 rfl ?_
          refine z_mld C hm dX6_remove_48 (by simp only [mln]; omega) ?_
          refine z_istore_n C dX6_remove_49 ?_
          refine z_aload_n C dX6_remove_50 rfl ?_
          refine z_mgf C hm qF_X6_7 dX6_remove_51 ?_
          refine z_iload_n C dX6_remove_54 rfl ?_
          refine z_dup2 C dX6_remove_55 ?_
          refine z_mld C hm dX6_remove_56 (by simp only [mln]; omega) ?_
          rw [hl1]
          refine z_iconst C dX6_remove_57 ?_
          refine z_isub C dX6_remove_58 ?_
          refine z_mst C hm hF dX6_remove_59 (by simp only [mln]; omega) (fun μ hm hF => ?_)
          obtain ⟨A0, e0⟩ : ∃ A0, A0 = u2 A 3 (j : Int) ((l.length : Int) - 1) := ⟨_, rfl⟩
          rw [← e0] at hm
          have k0 : ∀ k, k ≠ 3 → A0 k = A k := fun k hk => by rw [e0, u2_k hk]
          have k3 : A0 3 (j : Int) = (l.length : Int) - 1 := by rw [e0, u2_s]
          refine z_aload_n C dX6_remove_60 rfl ?_
          refine z_iload_n C dX6_remove_61 rfl ?_
          refine z_bipush C dX6_remove_62 ?_
          refine z_iload_n C dX6_remove_64 rfl ?_
          refine z_imul C dX6_remove_65 ?_
          refine z_aload_n C dX6_remove_66 rfl ?_
          refine z_mgf C hm qF_X6_7 dX6_remove_67 ?_
          refine z_iload_n C dX6_remove_70 rfl ?_
          refine z_mld C hm dX6_remove_71 (by simp only [mln]; omega) ?_
          rw [k3]
          refine z_iadd C dX6_remove_72 ?_
          refine z_callV C (c_lays w (20 * (j : Int) + (i : Int)) (20 * (j : Int) + ((l.length : Int) - 1)) (by omega) (by omega) (fun c => by rw [k0 9 (by decide)]; exact h9 c) hm) qM_X6_103 dX6_remove_73 rfl (zRc_o hm.1.1) (fun _ _ h => h.elim) ?_
          rintro _ μ6 ⟨rfl, hF6, B, hmB, b1, b2, b3⟩
          refine z_iload_n C dX6_remove_76 rfl ?_
          rw [hoo.2.1]
          refine z_iret C dX6_remove_77 ?_
          rw [hP0, fin]
          have bk : ∀ k, k ≠ 3 → k < 4 ∨ 13 < k → B k = A k := fun k a b => (b1 k b).trans (k0 k a)
          have bz : ∀ k z, 4 ≤ k → k ≤ 10 → z ≠ 20 * (j : Int) + (i : Int) → B k z = A k z := fun k z a b c => by rw [b2 k a b, uI_n _ _ c, k0 k (by omega)]
          have bd : ∀ k, 4 ≤ k → k ≤ 10 → B k (20 * (j : Int) + (i : Int)) = A k (20 * (j : Int) + ((l.length : Int) - 1)) := fun k a b => by rw [b2 k a b, uI_s, k0 k (by omega)]
          have bs : ∀ k z, 11 ≤ k → k ≤ 13 → z ≠ 20 * (j : Int) + (i : Int) → B k (2 * z) = A k (2 * z) ∧ B k (2 * z + 1) = A k (2 * z + 1) := fun k z a b c => by
            rw [b3 k a b, uI_n _ _ (by omega), uI_n _ _ (by omega), uI_n _ _ (by omega), uI_n _ _ (by omega), k0 k (by omega)]
            exact ⟨rfl, rfl⟩
          have bt : ∀ k, 11 ≤ k → k ≤ 13 → B k (2 * (20 * (j : Int) + (i : Int))) = A k (2 * (20 * (j : Int) + ((l.length : Int) - 1))) ∧ B k (2 * (20 * (j : Int) + (i : Int)) + 1) = A k (2 * (20 * (j : Int) + ((l.length : Int) - 1)) + 1) := fun k a b => by
            rw [b3 k a b, uI_n _ _ (by omega), uI_s, k0 k (by omega)]
            refine ⟨?_, rfl⟩
            rw [Int.add_zero, Int.add_zero, uI_s]
          have hget : ∀ x k, ((l.set i e).dropLast)[x]? = some k → x < l.length - 1 ∧ ((x = i ∧ k = e) ∨ (x ≠ i ∧ l[x]? = some k)) := by
            intro x k hx
            have hxl := (List.getElem?_eq_some_iff.mp hx).1
            rw [List.length_dropLast, List.length_set] at hxl
            rw [List.getElem?_dropLast, List.length_set, if_pos hxl, List.getElem?_set] at hx
            refine ⟨hxl, ?_⟩
            by_cases hxi : i = x
            · rw [if_pos hxi, if_pos (by omega)] at hx
              cases hx
              exact Or.inl ⟨hxi.symm, rfl⟩
            · rw [if_neg hxi] at hx
              exact Or.inr ⟨fun e => hxi e.symm, hx⟩
          refine ⟨⟨_, rfl, fun _ => by rw [vK_in hin]⟩, ⟨B, hmB, fun i' hi' => ?_, fun i' hi' => mR_cg (hRu i' hi') (bk 15 (by decide) (by decide)) (bk 16 (by decide) (by decide)) (bk 17 (by decide) (by decide)), fun i' hi' => by rw [bk 14 (by decide) (by decide)]; exact hRs i' hi', fun i' hi' p' a b => by rw [bk 23 (by decide) (by decide)]; exact hNb i' hi' p' a b, mTr_cg hTr (fun k a b => bk k (by omega) (by omega)), fun c => ?_⟩, Fm_tr hF hF6⟩
          · by_cases hij : i' = j
            · subst hij
              rw [u1_s]
              refine ⟨(l.set i e).dropLast, ⟨?_, by rw [List.length_dropLast, List.length_set]; omega, fun x k hx => ?_⟩, filt_perm (swap_perm h1 he) hp hJ.1, fun x k hx => ?_⟩
              · rw [b1 3 (by decide), k3, List.length_dropLast, List.length_set]
                omega
              · obtain ⟨x1, x2⟩ := hget x k hx
                rcases x2 with ⟨rfl, rfl⟩ | ⟨x3, x4⟩
                · obtain ⟨q1, q2⟩ := hl3 _ _ he
                  refine ⟨q1, ?_⟩
                  rw [bd 4 (by decide) (by decide), ← q2]
                  congr 1
                  omega
                · obtain ⟨q1, q2⟩ := hl3 _ _ x4
                  refine ⟨q1, ?_⟩
                  rw [bz 4 _ (by decide) (by decide) (by omega)]
                  exact q2
              · obtain ⟨x1, x2⟩ := hget x k hx
                rcases x2 with ⟨rfl, rfl⟩ | ⟨x3, x4⟩
                · have hme := ho _ _ he
                  rw [show 20 * (i' : Int) + ((l.length - 1 : Nat) : Int) = 20 * (i' : Int) + ((l.length : Int) - 1) by omega] at hme
                  exact mO_mv hme (fun k a b => bd k (by omega) (by omega)) (fun k a b => bt k a b)
                · exact mO_cg (ho _ _ x4) (fun k a b => bz k _ (by omega) (by omega) (by omega)) (fun k a b => bs k _ a b (by omega))
            · obtain ⟨l', ⟨c1, c2, c3⟩, c4, c5⟩ := hI i' hi'
              rw [u1_n _ _ hij]
              have hne : ∀ (x : Nat) (k : Int), l'[x]? = some k → 20 * (i' : Int) + (x : Int) ≠ 20 * (j : Int) + (i : Int) := fun x k hx => by
                have := (List.getElem?_eq_some_iff.mp hx).1
                omega
              refine ⟨l', ⟨?_, c2, fun x k hx => ⟨(c3 x k hx).1, by rw [bz 4 _ (by decide) (by decide) (hne x k hx)]; exact (c3 x k hx).2⟩⟩, c4, fun x k hx => mO_cg (c5 x k hx) (fun k' a b => bz k' _ (by omega) (by omega) (hne x k hx)) (fun k' a b => bs k' _ a b (hne x k hx))⟩
              rw [b1 3 (by decide), e0, u2_i _ _ _ _ (by omega)]
              exact c1
          · by_cases hc : c = 20 * (j : Int) + (i : Int)
            · rw [hc, bd 9 (by decide) (by decide)]
              exact h9 _
            · rw [bz 9 c (by decide) (by decide) hc]
              exact h9 c
        · have hnot : q ∉ dm j := by
            rcases hz with ⟨h1, h2⟩ | ⟨i, h1, h2⟩
            · exact fun h => h2 (hp.mem_iff.mpr h)
            · omega
          refine z_aload_n C dX6_remove_30 rfl ?_
          refine z_mg0 C hm qF_X6_71 dX6_remove_31 ?_
          refine z_if_le (tgt := 41) C dX6_remove_34 (by decide) (by omega) (fun g4 => ?_) (fun g4 => ?_)
          · refine z_iconst C dX6_remove_41 ?_
            refine z_iret C dX6_remove_42 ?_
            rw [hP0, fin, vK_out hnot]
            refine ⟨⟨_, rfl, fun _ => rfl⟩, ⟨A, hm, fun i' hi' => ?_, hRu, hRs, hNb, hTr, h9⟩, hF⟩
            by_cases hij : i' = j
            · subst hij
              rw [u1_s, List.filter_eq_self.mpr (fun z hz => by
                have : z ≠ q := fun e => hnot (by rw [← e]; exact hz)
                simp [this])]
              exact hI i' hi'
            · rw [u1_n _ _ hij]
              exact hI i' hi'
          · omega
  · rw [if_neg ha] at hm
    rw [decide_eq_false ha, show zB false = 0 from rfl]
    refine z_if_eq (tgt := 16) C dX6_remove_5 (by decide) (by omega) (fun g => ?_) (fun g => ?_)
    · refine z_iconst C dX6_remove_16 ?_
      refine z_istore_n C dX6_remove_17 ?_
      refine z_aload_n C dX6_remove_18 rfl ?_
      refine z_mg0 C hm qF_X6_71 dX6_remove_19 ?_
      refine z_if_gt (tgt := 30) C dX6_remove_22 (by decide) (by omega) (fun g2 => ?_) (fun g2 => ?_)
      · refine z_aload_n C dX6_remove_30 rfl ?_
        refine z_mg0 C hm qF_X6_71 dX6_remove_31 ?_
        refine z_if_le (tgt := 41) C dX6_remove_34 (by decide) (by omega) (fun g4 => ?_) (fun g4 => ?_)
        · omega
        · refine z_iconst C dX6_remove_37 ?_
          refine z_goto (tgt := 42) C dX6_remove_38 (by decide) ?_
          refine z_iret C dX6_remove_42 ?_
          rw [hP0, hr, spRemove, if_pos ha]
          exact ⟨⟨_, rfl, fun h => by cases h⟩, ⟨A, hm, hI, hRu, hRs, hNb, hTr, h9⟩, hF⟩
      · omega
    · exact absurd rfl g
end MOR
