/-! every call keeps the ranges -/
section KEEP
variable {N q clk : Int} {dm : Nat → List Int} {ob : Nat → Int → Ob} {ru : Nat → Int → Int} {rn rs : Nat → Int} {nb : Nat → Int → Int} {tr : List Trp}
theorem okS_1 {N : Int} {s : Sg} (h : okS N s) (hN : N + 1 ≤ 512) : okS (N + 1) s := by
  obtain ⟨q, clk, dm, ob, ru, rn, rs, nb, tr⟩ := s
  obtain ⟨o1, o2, o3, o4, o5⟩ := h
  exact ⟨by omega, o2, o3, fun j hj => okJ_mono (o4 j hj) (by omega), okT_mono o5 (by omega)⟩
/-- one agent's part changed -/
theorem okS_j (h : okS N (q, clk, dm, ob, ru, rn, rs, nb, tr)) {j : Nat} {dm' : Nat → List Int} {ob' : Nat → Int → Ob} {ru' : Nat → Int → Int} {rn' rs' : Nat → Int} {nb' : Nat → Int → Int} {tr' : List Trp} (hJ : okJ N clk j (dm' j) (ob' j) (ru' j) (rn' j) (rs' j) (nb' j)) (he : ∀ i, i ≠ j → dm' i = dm i ∧ ob' i = ob i ∧ ru' i = ru i ∧ rn' i = rn i ∧ rs' i = rs i ∧ nb' i = nb i) (hT : okT N clk tr') : okS N (q, clk, dm', ob', ru', rn', rs', nb', tr') := by
  obtain ⟨o1, o2, o3, o4, o5⟩ := h
  refine ⟨o1, o2, o3, fun i hi => ?_, hT⟩
  by_cases hij : i = j
  · subst hij
    exact hJ
  · obtain ⟨e1, e2, e3, e4, e5, e6⟩ := he i hij
    rw [e1, e2, e3, e4, e5, e6]
    exact o4 i hi
theorem uO_n {f : Nat → Int → Ob} {j : Nat} {k : Int} {o : Ob} {i : Nat} (h : i ≠ j) : uO f j k o i = f i := u1_n _ _ h
/-- one object is another -/
theorem okJ_ob {j : Nat} {dm : List Int} {ob : Nat → Int → Ob} {ru : Int → Int} {rn rs : Int} {nb : Int → Int} (h : okJ N clk j dm (ob j) ru rn rs nb) {k : Int} {o : Ob} (ho : k ∈ dm → okO N clk o) : okJ N clk j dm (uO ob j k o j) ru rn rs nb := by
  obtain ⟨a, b, c, d⟩ := h
  refine ⟨a, b, fun z hz => ⟨(c z hz).1, ?_⟩, d⟩
  unfold uO
  rw [u1_s]
  by_cases hzk : z = k
  · subst hzk
    rw [uI_s]
    exact ho hz
  · rw [uI_n _ _ hzk]
    exact (c z hz).2
/-- a path of its four places -/
def mkp (a b c d : Int) : Int := 4096 * a + 256 * b + 16 * c + d
theorem mkp_hA {a b c d : Int} (ha : 0 ≤ a ∧ a ≤ 10) (hb : 0 ≤ b ∧ b ≤ 10) (hc : 0 ≤ c ∧ c ≤ 10) (hd : 0 ≤ d ∧ d ≤ 10) : hA (mkp a b c d) 0 = a ∧ hA (mkp a b c d) 1 = b ∧ hA (mkp a b c d) 2 = c ∧ hA (mkp a b c d) 3 = d := by
  unfold mkp
  refine ⟨?_, ?_, ?_, ?_⟩
  · show (4096 * a + 256 * b + 16 * c + d) / 4096 % 16 = a
    omega
  · show (4096 * a + 256 * b + 16 * c + d) / 256 % 16 = b
    omega
  · show (4096 * a + 256 * b + 16 * c + d) / 16 % 16 = c
    omega
  · show (4096 * a + 256 * b + 16 * c + d) % 16 = d
    omega
theorem okK_mk {a b c d : Int} (ha : 0 ≤ a ∧ a ≤ 10) (hb : 0 ≤ b ∧ b ≤ 10) (hc : 0 ≤ c ∧ c ≤ 10) (hd : 0 ≤ d ∧ d ≤ 10) (h1 : a = 0 → b = 0) (h2 : b = 0 → c = 0) (h3 : c = 0 → d = 0) : okK (mkp a b c d) := by
  obtain ⟨e0, e1, e2, e3⟩ := mkp_hA ha hb hc hd
  unfold okK
  rw [e0, e1, e2, e3]
  refine ⟨?_, ⟨ha.2, hb.2, hc.2, hd.2⟩, h1, h2, h3⟩
  unfold mkp
  omega
theorem okK_un {p : Int} (h : okK p) : ∃ a b c d, (0 ≤ a ∧ a ≤ 10) ∧ (0 ≤ b ∧ b ≤ 10) ∧ (0 ≤ c ∧ c ≤ 10) ∧ (0 ≤ d ∧ d ≤ 10) ∧ (a = 0 → b = 0) ∧ (b = 0 → c = 0) ∧ (c = 0 → d = 0) ∧ p = mkp a b c d := by
  obtain ⟨⟨p1, p2⟩, ⟨b1, b2, b3, b4⟩, h1, h2, h3⟩ := h
  refine ⟨hA p 0, hA p 1, hA p 2, hA p 3, ⟨(hA_in p 0).1, b1⟩, ⟨(hA_in p 1).1, b2⟩, ⟨(hA_in p 2).1, b3⟩, ⟨(hA_in p 3).1, b4⟩, h1, h2, h3, ?_⟩
  show p = 4096 * (p / 4096 % 16) + 256 * (p / 256 % 16) + 16 * (p / 16 % 16) + p % 16
  omega
theorem ln16_mk {a b c d : Int} (ha : 0 ≤ a ∧ a ≤ 10) (hb : 0 ≤ b ∧ b ≤ 10) (hc : 0 ≤ c ∧ c ≤ 10) (hd : 0 ≤ d ∧ d ≤ 10) : ln16 (mkp a b c d) = if a = 0 then 0 else if b = 0 then 1 else if c = 0 then 2 else if d = 0 then 3 else 4 := by
  obtain ⟨e0, e1, e2, e3⟩ := mkp_hA ha hb hc hd
  unfold ln16
  rw [e0, e1, e2, e3]
theorem k_write (h : okS N (q, clk, dm, ob, ru, rn, rs, nb, tr)) (n : Int) : okS N (spWrite n (q, clk, dm, ob, ru, rn, rs, nb, tr)).2.2 := by
  unfold spWrite
  split
  · exact h
  rename_i h1
  split
  · exact h
  rename_i h2
  refine okS_q (q := q) h ?_
  have h2' : ¬ ln16 q = 4 := h2
  show okK (q + (n + 1) * pw16 (ln16 q))
  obtain ⟨a, b, c, d, ha, hb, hc, hd, h3, h4, h5, rfl⟩ := okK_un h.2.1
  rw [ln16_mk ha hb hc hd] at h2' ⊢
  by_cases ea : a = 0
  · rw [if_pos ea]
    rw [show mkp a b c d + (n + 1) * pw16 0 = mkp (n + 1) 0 0 0 by
      have := h3 ea
      have := h4 this
      have := h5 this
      show mkp a b c d + (n + 1) * 4096 = _
      unfold mkp
      omega]
    exact okK_mk (by omega) (by omega) (by omega) (by omega) (by omega) (by omega) (by omega)
  rw [if_neg ea] at h2' ⊢
  by_cases eb : b = 0
  · rw [if_pos eb]
    rw [show mkp a b c d + (n + 1) * pw16 1 = mkp a (n + 1) 0 0 by
      have := h4 eb
      have := h5 this
      show mkp a b c d + (n + 1) * 256 = _
      unfold mkp
      omega]
    exact okK_mk (by omega) (by omega) (by omega) (by omega) (by omega) (by omega) (by omega)
  rw [if_neg eb] at h2' ⊢
  by_cases ec : c = 0
  · rw [if_pos ec]
    rw [show mkp a b c d + (n + 1) * pw16 2 = mkp a b (n + 1) 0 by
      have := h5 ec
      show mkp a b c d + (n + 1) * 16 = _
      unfold mkp
      omega]
    exact okK_mk (by omega) (by omega) (by omega) (by omega) (by omega) (by omega) (by omega)
  rw [if_neg ec] at h2' ⊢
  by_cases ed : d = 0
  · rw [if_pos ed]
    rw [show mkp a b c d + (n + 1) * pw16 3 = mkp a b c (n + 1) by
      show mkp a b c d + (n + 1) * 1 = _
      unfold mkp
      omega]
    exact okK_mk (by omega) (by omega) (by omega) (by omega) (by omega) (by omega) (by omega)
  · rw [if_neg ed] at h2'
    exact absurd rfl h2'
theorem okK_0 : okK 0 := by unfold okK; decide
theorem k_wipe (h : okS N (q, clk, dm, ob, ru, rn, rs, nb, tr)) : okS N (spWipe (q, clk, dm, ob, ru, rn, rs, nb, tr)).2.2 := okS_q (q := q) h okK_0
theorem k_num (h : okS N (q, clk, dm, ob, ru, rn, rs, nb, tr)) (i : Int) : okS N (spNum i (q, clk, dm, ob, ru, rn, rs, nb, tr)).2.2 := by
  unfold spNum
  split <;> exact h
theorem k_put (h : okS N (q, clk, dm, ob, ru, rn, rs, nb, tr)) (a k v : Int) : okS N (spPut a k v (q, clk, dm, ob, ru, rn, rs, nb, tr)).2.2 := by
  rw [spPut]
  split
  · exact h
  rename_i h1
  split
  · exact h
  rename_i h2
  split
  · exact h
  rename_i h3
  obtain ⟨j, hj⟩ : ∃ j, j = a.toNat := ⟨_, rfl⟩
  rw [← hj] at h3 ⊢
  have hj4 : j < 4 := by omega
  obtain ⟨d1, d2, d3, d4⟩ := h.2.2.2.1 j hj4
  refine okS_j h (j := j) ⟨?_, ?_, fun z hz => ?_, d4⟩ (fun i hi => ⟨u1_n _ _ hi, uO_n hi, rfl, rfl, rfl, rfl⟩) h.2.2.2.2
  · rw [u1_s]
    refine List.nodup_cons.mpr ⟨fun hc => ?_, d1.filter _⟩
    have := (List.mem_filter.mp hc).2
    simp at this
  · rw [u1_s, List.length_cons]
    by_cases hq : q ∈ dm j
    · have h9 := List.length_filter_lt_length_iff_exists (l := dm j) (p := fun z => !decide (z = q))
      have := h9.mpr ⟨q, hq, by simp⟩
      omega
    · have : ((dm j).filter (fun z => !decide (z = q))).length ≤ (dm j).length := List.length_filter_le _ _
      have h8 : ¬ (20 ≤ (dm j).length) := fun e => h3 (Or.inr ⟨hq, e⟩)
      omega
  · rw [u1_s] at hz
    unfold uO
    rw [u1_s]
    by_cases hzq : z = q
    · subst hzq
      rw [uI_s]
      refine ⟨h.2.1, ?_⟩
      have hk : k = 0 ∨ k = 1 := by omega
      exact ⟨hk, by show 0 ≤ v ∧ v ≤ 999; omega, fun _ _ _ e => (by cases e), fun _ e => (by cases e), fun _ e => (by cases e), fun _ e => (by cases e)⟩
    · rw [uI_n _ _ hzq]
      rcases List.mem_cons.mp hz with e | e
      · exact absurd e hzq
      · exact d3 z (List.mem_filter.mp e).1
theorem k_remove (h : okS N (q, clk, dm, ob, ru, rn, rs, nb, tr)) (a : Int) : okS N (spRemove a (q, clk, dm, ob, ru, rn, rs, nb, tr)).2.2 := by
  rw [spRemove]
  split
  · exact h
  rename_i h1
  obtain ⟨j, hj⟩ : ∃ j, j = a.toNat := ⟨_, rfl⟩
  rw [← hj]
  have hj4 : j < 4 := by omega
  obtain ⟨d1, d2, d3, d4⟩ := h.2.2.2.1 j hj4
  refine okS_j h (j := j) ⟨?_, ?_, fun z hz => ?_, d4⟩ (fun i hi => ⟨u1_n _ _ hi, rfl, rfl, rfl, rfl, rfl⟩) h.2.2.2.2
  · rw [u1_s]
    exact d1.filter _
  · rw [u1_s]
    exact Nat.le_trans (List.length_filter_le _ _) d2
  · rw [u1_s] at hz
    exact d3 z (List.mem_filter.mp hz).1
theorem okT_snd {a p : Int} (h : okT N clk tr) (ha : inA a) (hp : okK p) (hN : 0 ≤ N) (hc : 0 ≤ clk) : okT (N + 1) clk (sndT clk a p tr) := by
  have h1 : okT (N + 1) clk tr := okT_mono h (by omega)
  have app : okT (N + 1) clk (tr ++ [(a, p, clk, 0)]) := by
    refine ⟨?_, fun x hx => ?_⟩
    · rw [List.length_append]
      have := h.1
      simp
      omega
    · rcases List.mem_append.mp hx with e | e
      · exact h1.2 x e
      · rw [List.mem_singleton.mp e]
        exact ⟨ha, hp, ⟨hc, Int.le_refl _⟩, ⟨Int.le_refl _, by show (0 : Int) ≤ N + 1; omega⟩⟩
  unfold sndT
  split
  · exact app
  · rename_i i hi
    split
    · exact h1
    · rename_i x hx
      split
      · refine ⟨by rw [List.length_set]; exact h1.1, fun y hy => ?_⟩
        rcases List.mem_or_eq_of_mem_set hy with e | e
        · exact h1.2 y e
        · obtain ⟨c1, c2, c3, c4⟩ := h.2 x (List.mem_of_getElem? hx)
          rw [e]
          exact ⟨c1, c2, c3, by show 0 ≤ x.2.2.2 + 1 ∧ x.2.2.2 + 1 ≤ N + 1; omega⟩
      · exact app
theorem k_change (h : okS N (q, clk, dm, ob, ru, rn, rs, nb, tr)) (hN : N + 1 ≤ 512) (a m : Int) : okS (N + 1) (spChange a m (q, clk, dm, ob, ru, rn, rs, nb, tr)).2.2 := by
  have g := okS_1 h hN
  rw [spChange]
  split
  · exact g
  rename_i h1
  split
  · exact g
  rename_i h2
  split
  · exact g
  rename_i h3
  obtain ⟨j, hj⟩ : ∃ j, j = a.toNat := ⟨_, rfl⟩
  rw [← hj] at h3 ⊢
  have hj4 : j < 4 := by omega
  have hin : q ∈ dm j := Classical.byContradiction h3
  have ho := ((h.2.2.2.1 j hj4).2.2.1 q hin).2
  refine okS_j g (j := j) (okJ_ob (g.2.2.2.1 j hj4) (fun _ => okO_mono (okO_has ho ?_) (by omega))) (fun i hi => ⟨rfl, uO_n hi, rfl, rfl, rfl, rfl⟩) ?_
  · unfold chV
    obtain ⟨o1, o2, -⟩ := ho
    split <;> omega
  · split
    · exact okT_snd h.2.2.2.2 (by unfold inA; omega) h.2.1 h.1.1 h.2.2.1.1
    · exact g.2.2.2.2
theorem k_get (h : okS N (q, clk, dm, ob, ru, rn, rs, nb, tr)) (a : Int) : okS N (spGet a (q, clk, dm, ob, ru, rn, rs, nb, tr)).2.2 := by
  rw [spGet]
  split <;> exact h
theorem okK_nx (h : okS N (q, clk, dm, ob, ru, rn, rs, nb, tr)) {j : Nat} (hj : j < 4) {p : Int} (hp : okK p) : okK ((nx (dm j) (ru j) p).getD p) := by
  cases hn : nx (dm j) (ru j) p with
  | none => exact hp
  | some k => exact ((h.2.2.2.1 j hj).2.2.1 k (nxt_mem hn)).1
theorem k_next (h : okS N (q, clk, dm, ob, ru, rn, rs, nb, tr)) (a : Int) : okS N (spNext a (q, clk, dm, ob, ru, rn, rs, nb, tr)).2.2 := by
  rw [spNext]
  split
  · exact h
  · exact okS_q (q := q) h (okK_nx h (by omega) h.2.1)
theorem okK_blk (h : okS N (q, clk, dm, ob, ru, rn, rs, nb, tr)) {j : Nat} (hj : j < 4) : ∀ (f : Nat) (n p : Int), okK p → okK (blk (dm j) (ru j) f n p).2
  | 0, _, _, hp => hp
  | f + 1, n, p, hp => by
    rw [blk]
    cases hn : nx (dm j) (ru j) p with
    | none => exact hp
    | some k => exact okK_blk h hj f (n + 1) k ((h.2.2.2.1 j hj).2.2.1 k (nxt_mem hn)).1
theorem k_bulk (h : okS N (q, clk, dm, ob, ru, rn, rs, nb, tr)) (a m : Int) : okS N (spBulk a m (q, clk, dm, ob, ru, rn, rs, nb, tr)).2.2 := by
  rw [spBulk]
  split
  · exact h
  split
  · exact h
  · exact okS_q (q := q) h (okK_blk h (by omega) _ _ _ h.2.1)
theorem k_sort (h : okS N (q, clk, dm, ob, ru, rn, rs, nb, tr)) (a : Int) : okS N (spSort a (q, clk, dm, ob, ru, rn, rs, nb, tr)).2.2 := by
  rw [spSort]
  split <;> exact h
theorem Rc_rn {μ : Mem} {G : Nat → Nat} {s : Sg} (h : Rc μ G s) : ∀ j, j < 4 → 0 ≤ s.2.2.2.2.2.1 j ∧ s.2.2.2.2.2.1 j ≤ 10 := by
  obtain ⟨q, clk, dm, ob, ru, rn, rs, nb, tr⟩ := s
  intro j hj
  show 0 ≤ rn j ∧ rn j ≤ 10
  rw [← (h.2.2.2.2.2.2.1 j hj).2.2.2]
  exact rlC_in _ 10 0
theorem k_hide (h : okS N (q, clk, dm, ob, ru, rn, rs, nb, tr)) (a m : Int) (hrn : ∀ j, j < 4 → 0 ≤ (spHide a m (q, clk, dm, ob, ru, rn, rs, nb, tr)).2.2.2.2.2.2.2.1 j ∧ (spHide a m (q, clk, dm, ob, ru, rn, rs, nb, tr)).2.2.2.2.2.2.2.1 j ≤ 10) : okS N (spHide a m (q, clk, dm, ob, ru, rn, rs, nb, tr)).2.2 := by
  rw [spHide] at hrn ⊢
  split
  · exact h
  rename_i h1
  rw [if_neg h1] at hrn
  split
  · exact h
  rename_i h2
  rw [if_neg h2] at hrn
  obtain ⟨j, hj⟩ : ∃ j, j = a.toNat := ⟨_, rfl⟩
  rw [← hj] at h2 hrn ⊢
  have hj4 : j < 4 := by omega
  obtain ⟨d1, d2, d3, d4, d5, d6⟩ := h.2.2.2.1 j hj4
  refine okS_j h (j := j) ⟨d1, d2, d3, fun k => ?_, hrn j hj4, d6⟩ (fun i hi => ⟨rfl, rfl, u1_n _ _ hi, u1_n _ _ hi, rfl, rfl⟩) h.2.2.2.2
  rw [u1_s]
  by_cases hk : k = q
  · subst hk
    rw [uI_s]
    exact ⟨by omega, fun _ => h.2.1⟩
  · rw [uI_n _ _ hk]
    exact d4 k
theorem k_seen (h : okS N (q, clk, dm, ob, ru, rn, rs, nb, tr)) (a : Int) : okS N (spSeen a (q, clk, dm, ob, ru, rn, rs, nb, tr)).2.2 := by
  rw [spSeen]
  split <;> exact h
theorem k_sample (h : okS N (q, clk, dm, ob, ru, rn, rs, nb, tr)) (a : Int) : okS N (spSample a (q, clk, dm, ob, ru, rn, rs, nb, tr)).2.2 := by
  rw [spSample]
  split
  · exact h
  rename_i h1
  split
  · exact h
  rename_i h2
  obtain ⟨j, hj⟩ : ∃ j, j = a.toNat := ⟨_, rfl⟩
  rw [← hj] at h2 ⊢
  have hj4 : j < 4 := by omega
  have hJ := h.2.2.2.1 j hj4
  refine okS_j h (j := j) (okJ_ob hJ (fun hin => ?_)) (fun i hi => ⟨rfl, uO_n hi, rfl, rfl, rfl, rfl⟩) h.2.2.2.2
  obtain ⟨o1, o2, o3, o4, o5, o6⟩ := (hJ.2.2.1 q hin).2
  have hc := h.2.2.1
  have hr := hJ.2.2.2.2.2.1
  refine ⟨o1, o2, o3, o5, fun e he => ?_, fun e he => ?_⟩
  · have he' : some (clk, (ob j q).2.1, rs j) = some e := he
    cases he'
    exact ⟨⟨hc.1, Int.le_refl _⟩, o2, hr⟩
  · exact ⟨(clk, (ob j q).2.1, rs j), rfl, (o5 e he).1.2⟩
theorem k_rate (h : okS N (q, clk, dm, ob, ru, rn, rs, nb, tr)) (a : Int) : okS N (spRate a (q, clk, dm, ob, ru, rn, rs, nb, tr)).2.2 := by
  rw [spRate]
  split
  · exact h
  split <;> exact h
theorem k_marks (h : okS N (q, clk, dm, ob, ru, rn, rs, nb, tr)) (a lo hi : Int) : okS N (spMarks a lo hi (q, clk, dm, ob, ru, rn, rs, nb, tr)).2.2 := by
  rw [spMarks]
  split
  · exact h
  rename_i h1
  split
  · exact h
  rename_i h2
  split
  · exact h
  rename_i h3
  obtain ⟨j, hj⟩ : ∃ j, j = a.toNat := ⟨_, rfl⟩
  rw [← hj] at h3 ⊢
  have hj4 : j < 4 := by omega
  have hJ := h.2.2.2.1 j hj4
  refine okS_j h (j := j) (okJ_ob hJ (fun hin => ?_)) (fun i hi => ⟨rfl, uO_n hi, rfl, rfl, rfl, rfl⟩) h.2.2.2.2
  obtain ⟨o1, o2, o3, o4, o5, o6⟩ := (hJ.2.2.1 q hin).2
  refine ⟨o1, o2, fun l u ar he => ?_, o4, o5, o6⟩
  have he' : some (lo, hi, (1 : Int)) = some (l, u, ar) := he
  cases he'
  exact ⟨by omega, by omega, by omega, Or.inr rfl⟩
theorem k_restart (h : okS N (q, clk, dm, ob, ru, rn, rs, nb, tr)) (hN : N + 1 ≤ 512) (a : Int) : okS (N + 1) (spRestart a (q, clk, dm, ob, ru, rn, rs, nb, tr)).2.2 := by
  have g := okS_1 h hN
  rw [spRestart]
  split
  · exact g
  rename_i h1
  obtain ⟨j, hj⟩ : ∃ j, j = a.toNat := ⟨_, rfl⟩
  rw [← hj]
  have hj4 : j < 4 := by omega
  obtain ⟨d1, d2, d3, d4, d5, d6, d7⟩ := h.2.2.2.1 j hj4
  refine okS_j g (j := j) ⟨d1, d2, fun z hz => ⟨(d3 z hz).1, ?_⟩, d4, d5, ?_, d7⟩ (fun i hi => ⟨rfl, u1_n _ _ hi, rfl, rfl, u1_n _ _ hi, rfl⟩) g.2.2.2.2
  · rw [u1_s]
    exact okO_mono (okO_rst (d3 z hz).2) (by omega)
  · rw [u1_s]
    omega
theorem okO_clk {N clk c2 : Int} {o : Ob} (h : okO N clk o) (hc : clk ≤ c2) : okO N c2 o := by
  obtain ⟨o1, o2, o3, o4, o5, o6⟩ := h
  refine ⟨o1, o2, o3, fun e he => ?_, fun e he => ?_, o6⟩
  · obtain ⟨a, b, c⟩ := o4 e he
    exact ⟨by omega, b, c⟩
  · obtain ⟨a, b, c⟩ := o5 e he
    exact ⟨by omega, b, c⟩
theorem k_pass (h : okS N (q, clk, dm, ob, ru, rn, rs, nb, tr)) (m : Int) : okS N (spPass m (q, clk, dm, ob, ru, rn, rs, nb, tr)).2.2 := by
  rw [spPass]
  split
  · exact h
  rename_i h1
  split
  · exact h
  rename_i h2
  obtain ⟨o1, o2, o3, o4, o5⟩ := h
  refine ⟨o1, o2, by omega, fun j hj => ?_, o5.1, fun x hx => ?_⟩
  · obtain ⟨d1, d2, d3, d4⟩ := o4 j hj
    exact ⟨d1, d2, fun z hz => ⟨(d3 z hz).1, okO_clk (d3 z hz).2 (by omega)⟩, d4⟩
  · obtain ⟨c1, c2, c3, c4⟩ := o5.2 x hx
    exact ⟨c1, c2, by omega, c4⟩
theorem k_traps (h : okS N (q, clk, dm, ob, ru, rn, rs, nb, tr)) : okS N (spTraps (q, clk, dm, ob, ru, rn, rs, nb, tr)).2.2 := h
theorem k_told (h : okS N (q, clk, dm, ob, ru, rn, rs, nb, tr)) (f : Trp → Int) (t : Int) : okS N (spTold f t (q, clk, dm, ob, ru, rn, rs, nb, tr)).2.2 := by
  rw [spTold]
  split <;> exact h
theorem k_nb (h : okS N (q, clk, dm, ob, ru, rn, rs, nb, tr)) (a p o : Int) : okS N (spNb a p o (q, clk, dm, ob, ru, rn, rs, nb, tr)).2.2 := by
  rw [spNb]
  split
  · exact h
  rename_i h1
  split
  · exact h
  rename_i h2
  obtain ⟨j, hj⟩ : ∃ j, j = a.toNat := ⟨_, rfl⟩
  rw [← hj]
  have hj4 : j < 4 := by omega
  obtain ⟨d1, d2, d3, d4, d5, d6, d7, d8⟩ := h.2.2.2.1 j hj4
  refine okS_j h (j := j) ⟨d1, d2, d3, d4, d5, d6, fun t => ?_, fun t t0 t4 => ?_⟩ (fun i hi => ⟨rfl, rfl, rfl, rfl, rfl, u1_n _ _ hi⟩) h.2.2.2.2
  · rw [u1_s]
    by_cases ht : t = p
    · subst ht
      rw [uI_s]
      omega
    · rw [uI_n _ _ ht]
      exact d7 t
  · rw [u1_s]
    by_cases ht : t = p
    · subst ht
      rw [uI_s]
      omega
    · rw [uI_n _ _ ht]
      exact d8 t t0 t4
theorem k_reach (h : okS N (q, clk, dm, ob, ru, rn, rs, nb, tr)) (a : Int) : okS N (spReach a (q, clk, dm, ob, ru, rn, rs, nb, tr)).2.2 := by
  rw [spReach]
  split <;> exact h
theorem k_halves (h : okS N (q, clk, dm, ob, ru, rn, rs, nb, tr)) : okS N (spHalves (q, clk, dm, ob, ru, rn, rs, nb, tr)).2.2 := h
end KEEP
