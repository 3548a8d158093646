/-! THE LAW'S INVARIANT: m and r are what made and ruled hold. -/
def lJ (m r : Int → Int) (c T : Int) : Sg → Prop
  | (q, clk, dm, ob, ru, rn, rs, nb, tr) => okS T (q, clk, dm, ob, ru, rn, rs, nb, tr) ∧ (clk = c ∧ clk ≤ 20 * T) ∧ (∀ j : Nat, j < 2 → (0 ≤ m (j : Int) ∧ m (j : Int) ≤ 20 ∧ ((dm j).length : Int) ≤ m (j : Int)) ∧ (0 ≤ r (j : Int) ∧ r (j : Int) ≤ 10 ∧ rn j ≤ r (j : Int))) ∧ (∀ j, j < 4 → ∀ k ∈ dm j, k ≠ 0) ∧ (∀ x ∈ tr, x.1 ≤ 1)
def trL (s : Sg) : Int := (s.2.2.2.2.2.2.2.2.length : Int)
section LJ
variable {m r : Int → Int} {c T N q clk : Int} {dm : Nat → List Int} {ob : Nat → Int → Ob} {ru : Nat → Int → Int} {rn rs : Nat → Int} {nb : Nat → Int → Int} {tr : List Trp} {j : Nat}
theorem lJ_up (h : lJ m r c T (q, clk, dm, ob, ru, rn, rs, nb, tr)) (hT : 0 ≤ T ∧ T + 1 ≤ 512) : lJ m r c (T + 1) (q, clk, dm, ob, ru, rn, rs, nb, tr) := by
  obtain ⟨h1, h2, h3⟩ := h
  exact ⟨okS_1 h1 hT.2, ⟨h2.1, by omega⟩, h3⟩
theorem lJ_q (h : lJ m r c T (q, clk, dm, ob, ru, rn, rs, nb, tr)) {q2 : Int} (hq : okK q2) : lJ m r c T (q2, clk, dm, ob, ru, rn, rs, nb, tr) := by
  obtain ⟨h1, h2⟩ := h
  exact ⟨okS_p h1 hq, h2⟩
theorem lJ_inc (h : lJ m r c T (q, clk, dm, ob, ru, rn, rs, nb, tr)) (hj : j < 2) (hm : m (j : Int) < 20) : lJ (uI m (j : Int) (m (j : Int) + 1)) r c T (q, clk, dm, ob, ru, rn, rs, nb, tr) ∧ ((dm j).length : Int) + 1 ≤ uI m (j : Int) (m (j : Int) + 1) (j : Int) := by
  obtain ⟨h1, h2, h3, h4⟩ := h
  refine ⟨⟨h1, h2, fun i hi => ?_, h4⟩, ?_⟩
  · by_cases hij : i = j
    · subst hij
      have := h3 i hi
      rw [uI_s]
      exact ⟨⟨by omega, by omega, by omega⟩, this.2⟩
    · rw [uI_n _ _ (by omega)]
      exact h3 i hi
  · have := h3 j hj
    rw [uI_s]
    omega
theorem vK_in (h : okS N (q, clk, dm, ob, ru, rn, rs, nb, tr)) (hj : j < 4) : -1 ≤ vK (dm j) (ob j) q ∧ vK (dm j) (ob j) q ≤ 999 := by
  unfold vK
  split
  · rename_i hq
    have := ((h.2.2.2.1 j hj).2.2.1 q hq).2.2.1
    omega
  · decide
theorem e_get (h : okS N (q, clk, dm, ob, ru, rn, rs, nb, tr)) (hj : j < 4) : ∃ V, spGet (j : Int) (q, clk, dm, ob, ru, rn, rs, nb, tr) = (0, V, q, clk, dm, ob, ru, rn, rs, nb, tr) ∧ (-1 ≤ V ∧ V ≤ 999) ∧ (0 ≤ V → q ∈ dm j ∧ hidK (ru j) q = false ∧ V = (ob j q).2.1) := by
  refine ⟨if hidK (ru j) q = true then -1 else vK (dm j) (ob j) q, by rw [spGet, if_neg (by omega), show ((j : Int)).toNat = j from rfl], ?_, ?_⟩
  · split
    · decide
    · exact vK_in h hj
  · cases hh : hidK (ru j) q with
    | true =>
      rw [if_pos rfl]
      intro h9
      omega
    | false =>
      rw [if_neg (by decide)]
      unfold vK
      split
      · rename_i hq
        exact fun _ => ⟨hq, rfl, rfl⟩
      · intro h9
        omega
theorem e_got {V : Int} (hj : j < 4) (hq : q ∈ dm j) (hh : hidK (ru j) q = false) (hV : V = (ob j q).2.1) : spGet (j : Int) (q, clk, dm, ob, ru, rn, rs, nb, tr) = (0, V, q, clk, dm, ob, ru, rn, rs, nb, tr) := by
  rw [spGet, if_neg (by omega), show ((j : Int)).toNat = j from rfl, if_neg (by rw [hh]; decide), vK, if_pos hq, hV]
theorem e_rem (hj : j < 4) : spRemove (j : Int) (q, clk, dm, ob, ru, rn, rs, nb, tr) = (0, vK (dm j) (ob j) q, q, clk, u1 dm j ((dm j).filter (fun z => !decide (z = q))), ob, ru, rn, rs, nb, tr) := by
  rw [spRemove, if_neg (by omega), show ((j : Int)).toNat = j from rfl]
theorem lJ_rem (h : lJ m r c T (q, clk, dm, ob, ru, rn, rs, nb, tr)) (hj : j < 2) : lJ m r c T (q, clk, u1 dm j ((dm j).filter (fun z => !decide (z = q))), ob, ru, rn, rs, nb, tr) := by
  obtain ⟨h1, h2, h3, h4, h5⟩ := h
  have hk := k_remove h1 (j : Int)
  rw [e_rem (by omega)] at hk
  refine ⟨hk, h2, fun i hi => ?_, fun i hi k hkm => ?_, h5⟩
  · by_cases hij : i = j
    · subst hij
      have h9 := h3 i hi
      have h8 := List.length_filter_le (fun z => !decide (z = q)) (dm i)
      rw [u1_s]
      exact ⟨⟨by omega, by omega, by omega⟩, h9.2⟩
    · rw [u1_n _ _ hij]
      exact h3 i hi
  · by_cases hij : i = j
    · subst hij
      rw [u1_s] at hkm
      exact h4 i hi k (List.mem_filter.mp hkm).1
    · rw [u1_n _ _ hij] at hkm
      exact h4 i hi k hkm
theorem gone (l : List Int) : q ∉ l.filter (fun z => !decide (z = q)) := fun h => by
  have := (List.mem_filter.mp h).2
  simp at this
theorem e_gone (hj : j < 4) (hq : q ∉ dm j) : spGet (j : Int) (q, clk, dm, ob, ru, rn, rs, nb, tr) = (0, -1, q, clk, dm, ob, ru, rn, rs, nb, tr) := by
  rw [spGet, if_neg (by omega), show ((j : Int)).toNat = j from rfl, vK, if_neg hq]
  split <;> rfl
theorem e_put {kd v : Int} (hj : j < 4) (hkd : kd = 0 ∨ kd = 1) (hv : 0 ≤ v ∧ v ≤ 999) (hq0 : q ≠ 0) (hq : q ∉ dm j) (hl : (dm j).length ≤ 19) : spPut (j : Int) kd v (q, clk, dm, ob, ru, rn, rs, nb, tr) = (0, -1, q, clk, u1 dm j (q :: (dm j).filter (fun z => !decide (z = q))), uO ob j q (kd, v, none, none, none), ru, rn, rs, nb, tr) := by
  rw [spPut, if_neg (by omega), if_neg (by omega), show ((j : Int)).toNat = j from rfl, if_neg (by omega), vK, if_neg hq]
theorem lJ_put {kd v : Int} (h : lJ m r c T (q, clk, dm, ob, ru, rn, rs, nb, tr)) (hj : j < 2) (hkd : kd = 0 ∨ kd = 1) (hv : 0 ≤ v ∧ v ≤ 999) (hq0 : q ≠ 0) (hq : q ∉ dm j) (hl : ((dm j).length : Int) + 1 ≤ m (j : Int)) : lJ m r c T (q, clk, u1 dm j (q :: (dm j).filter (fun z => !decide (z = q))), uO ob j q (kd, v, none, none, none), ru, rn, rs, nb, tr) := by
  obtain ⟨h1, h2, h3, h4, h5⟩ := h
  have hk := k_put h1 (j : Int) kd v
  have h19 := h3 j hj
  rw [e_put (by omega) hkd hv hq0 hq (by omega)] at hk
  refine ⟨hk, h2, fun i hi => ?_, fun i hi k hkm => ?_, h5⟩
  · by_cases hij : i = j
    · subst hij
      have h9 := h3 i hi
      have h8 := List.length_filter_le (fun z => !decide (z = q)) (dm i)
      rw [u1_s, List.length_cons]
      exact ⟨⟨by omega, by omega, by omega⟩, h9.2⟩
    · rw [u1_n _ _ hij]
      exact h3 i hi
  · by_cases hij : i = j
    · subst hij
      rw [u1_s] at hkm
      rcases List.mem_cons.mp hkm with e | hkm
      · rw [e]
        exact hq0
      · exact h4 i hi k (List.mem_filter.mp hkm).1
    · rw [u1_n _ _ hij] at hkm
      exact h4 i hi k hkm
/-- what hide() leaves -/
def hdS (h : Int) (j : Nat) : Sg → Sg
  | (q, clk, dm, ob, ru, rn, rs, nb, tr) => (q, clk, dm, ob, u1 ru j (uI (ru j) q h), u1 rn j (rn j + nz h - nz (ru j q)), rs, nb, tr)
theorem nz_in (v : Int) : 0 ≤ nz v ∧ nz v ≤ 1 := by
  unfold nz
  split <;> decide
theorem e_hide {h : Int} (hj : j < 4) (hh : 0 ≤ h ∧ h ≤ 2) (hn : h ≠ 0 → rn j < 10 ∨ ru j q ≠ 0) : spHide (j : Int) h (q, clk, dm, ob, ru, rn, rs, nb, tr) = (0, ru j q, hdS h j (q, clk, dm, ob, ru, rn, rs, nb, tr)) := by
  rw [spHide, if_neg (by omega), show ((j : Int)).toNat = j from rfl, if_neg (by omega)]
  rfl
theorem e_hide2 {h : Int} (hj : j < 4) (hh : 0 ≤ h ∧ h ≤ 2) : spHide (j : Int) h (hdS h j (q, clk, dm, ob, ru, rn, rs, nb, tr)) = (0, h, hdS h j (hdS h j (q, clk, dm, ob, ru, rn, rs, nb, tr))) := by
  have e : (u1 ru j (uI (ru j) q h)) j q = h := by rw [u1_s, uI_s]
  have K := e_hide (q := q) (clk := clk) (dm := dm) (ob := ob) (ru := u1 ru j (uI (ru j) q h)) (rn := u1 rn j (rn j + nz h - nz (ru j q))) (rs := rs) (nb := nb) (tr := tr) (j := j) (h := h) hj hh (fun h0 => Or.inr (by rw [e]; exact h0))
  rw [e] at K
  exact K
theorem lJ_hide {h : Int} (hJ : lJ m r c T (q, clk, dm, ob, ru, rn, rs, nb, tr)) (hj : j < 2) (hh : 0 ≤ h ∧ h ≤ 2) (hn : h ≠ 0 → r (j : Int) < 10) (hk : okS T (hdS h j (hdS h j (q, clk, dm, ob, ru, rn, rs, nb, tr)))) : lJ m (uI r (j : Int) (r (j : Int) + nz h)) c T (hdS h j (hdS h j (q, clk, dm, ob, ru, rn, rs, nb, tr))) := by
  obtain ⟨h1, h2, h3, h4, h5⟩ := hJ
  refine ⟨hk, h2, fun i hi => ?_, h4, h5⟩
  by_cases hij : i = j
  · subst hij
    have h9 := h3 i hi
    have n1 := nz_in h
    have n2 := nz_in (ru i q)
    have n3 : nz h = if h ≠ 0 then 1 else 0 := rfl
    refine ⟨h9.1, ?_⟩
    rw [uI_s, u1_s, u1_s, u1_s, uI_s]
    refine ⟨by omega, ?_, by omega⟩
    by_cases h0 : h ≠ 0
    · have := hn h0
      omega
    · rw [n3, if_neg h0]
      omega
  · rw [uI_n _ _ (by omega), u1_n _ _ hij, u1_n _ _ hij]
    exact h3 i hi
theorem e_marks {lo hi : Int} (hj : j < 4) (hlo : 0 ≤ lo ∧ lo < 400) (hhi : 400 ≤ hi ∧ hi < 900) (hq : q ∈ dm j) : spMarks (j : Int) lo hi (q, clk, dm, ob, ru, rn, rs, nb, tr) = (0, 0, q, clk, dm, uO ob j q (mrkO (ob j q) lo hi), ru, rn, rs, nb, tr) := by
  rw [spMarks, if_neg (by omega), if_neg (by omega), show ((j : Int)).toNat = j from rfl, if_neg (fun h => h hq)]
theorem lJ_marks {lo hi : Int} (h : lJ m r c T (q, clk, dm, ob, ru, rn, rs, nb, tr)) (hj : j < 2) (hlo : 0 ≤ lo ∧ lo < 400) (hhi : 400 ≤ hi ∧ hi < 900) (hq : q ∈ dm j) : lJ m r c T (q, clk, dm, uO ob j q (mrkO (ob j q) lo hi), ru, rn, rs, nb, tr) := by
  obtain ⟨h1, h2, h3, h4, h5⟩ := h
  have hk := k_marks h1 (j : Int) lo hi
  rw [e_marks (by omega) hlo hhi hq] at hk
  exact ⟨hk, h2, h3, h4, h5⟩
theorem e_sample {V : Int} (hj : j < 4) (hq : q ∈ dm j) (hh : hidK (ru j) q = false) (hV : V = (ob j q).2.1) : spSample (j : Int) (q, clk, dm, ob, ru, rn, rs, nb, tr) = (0, V, q, clk, dm, uO ob j q (smpO (ob j q) clk (rs j)), ru, rn, rs, nb, tr) := by
  rw [spSample, if_neg (by omega), show ((j : Int)).toNat = j from rfl, if_neg (by rw [hh]; simp [hq]), hV]
theorem lJ_sample (h : lJ m r c T (q, clk, dm, ob, ru, rn, rs, nb, tr)) (hj : j < 2) (hq : q ∈ dm j) (hh : hidK (ru j) q = false) : lJ m r c T (q, clk, dm, uO ob j q (smpO (ob j q) clk (rs j)), ru, rn, rs, nb, tr) := by
  obtain ⟨h1, h2, h3, h4, h5⟩ := h
  have hk := k_sample h1 (j : Int)
  rw [e_sample (by omega) hq hh rfl] at hk
  exact ⟨hk, h2, h3, h4, h5⟩
theorem e_restart (hj : j < 4) : spRestart (j : Int) (q, clk, dm, ob, ru, rn, rs, nb, tr) = (0, rs j + 1, q, clk, dm, u1 ob j (fun k => rstO (ob j k)), ru, rn, u1 rs j (rs j + 1), nb, tr) := by
  rw [spRestart, if_neg (by omega), show ((j : Int)).toNat = j from rfl]
theorem lJ_restart (h : lJ m r c T (q, clk, dm, ob, ru, rn, rs, nb, tr)) (hj : j < 2) (hT : 0 ≤ T ∧ T + 1 ≤ 512) : lJ m r c (T + 1) (q, clk, dm, u1 ob j (fun k => rstO (ob j k)), ru, rn, u1 rs j (rs j + 1), nb, tr) := by
  obtain ⟨h1, h2, h3, h4, h5⟩ := h
  have hk := k_restart h1 hT.2 (j : Int)
  rw [e_restart (by omega)] at hk
  exact ⟨hk, ⟨h2.1, by omega⟩, h3, h4, h5⟩
theorem e_pass {mn : Int} (h : lJ m r c T (q, clk, dm, ob, ru, rn, rs, nb, tr)) (hT : 0 ≤ T ∧ T < 70) (hm : 1 ≤ mn ∧ mn ≤ 20) : spPass mn (q, clk, dm, ob, ru, rn, rs, nb, tr) = (0, c + mn, q, c + mn, dm, ob, ru, rn, rs, nb, tr) := by
  have h2 := h.2.1
  rw [spPass, if_neg (by omega), if_neg (by omega), h2.1]
theorem lJ_pass {mn : Int} (h : lJ m r c T (q, clk, dm, ob, ru, rn, rs, nb, tr)) (hT : 0 ≤ T ∧ T < 70) (hm : 1 ≤ mn ∧ mn ≤ 20) : lJ m r (c + mn) (T + 1) (q, c + mn, dm, ob, ru, rn, rs, nb, tr) := by
  have e := e_pass h hT hm
  obtain ⟨h1, h2, h3, h4, h5⟩ := h
  have hk := k_pass h1 mn
  rw [e] at hk
  exact ⟨okS_1 hk (by omega), ⟨rfl, by omega⟩, h3, h4, h5⟩
theorem e_nb {p o : Int} (hj : j < 4) (hp : 0 ≤ p ∧ p ≤ 3) (ho : -1 ≤ o ∧ o ≤ 3) (hjo : (j : Int) ≠ o) : spNb (j : Int) p o (q, clk, dm, ob, ru, rn, rs, nb, tr) = (0, nb j p, q, clk, dm, ob, ru, rn, rs, u1 nb j (uI (nb j) p o), tr) := by
  rw [spNb, if_neg (by omega), if_neg hjo, show ((j : Int)).toNat = j from rfl]
theorem lJ_nb {p o : Int} (h : lJ m r c T (q, clk, dm, ob, ru, rn, rs, nb, tr)) (hj : j < 2) (hp : 0 ≤ p ∧ p ≤ 3) (ho : -1 ≤ o ∧ o ≤ 3) (hjo : (j : Int) ≠ o) : lJ m r c T (q, clk, dm, ob, ru, rn, rs, u1 nb j (uI (nb j) p o), tr) := by
  obtain ⟨h1, h2, h3, h4, h5⟩ := h
  have hk := k_nb h1 (j : Int) p o
  rw [e_nb (by omega) hp ho hjo] at hk
  exact ⟨hk, h2, h3, h4, h5⟩
theorem sndT_in {cl a p : Int} {tr : List Trp} (h : ∀ x ∈ tr, x.1 ≤ 1) (ha : a ≤ 1) : (∀ x ∈ sndT cl a p tr, x.1 ≤ 1) ∧ tr.length ≤ (sndT cl a p tr).length ∧ (sndT cl a p tr).length ≤ tr.length + 1 := by
  have app : (∀ x ∈ tr ++ [(a, p, cl, 0)], x.1 ≤ 1) ∧ tr.length ≤ (tr ++ [(a, p, cl, (0 : Int))]).length ∧ (tr ++ [(a, p, cl, (0 : Int))]).length ≤ tr.length + 1 := by
    refine ⟨fun x hx => ?_, by simp, by simp⟩
    rcases List.mem_append.mp hx with hx | hx
    · exact h x hx
    · rw [List.mem_singleton.mp hx]
      exact ha
  unfold sndT
  cases lst tr a p tr.length with
  | none => exact app
  | some i =>
    dsimp only
    cases hx : tr[i]? with
    | none => exact ⟨h, Nat.le_refl _, Nat.le_succ _⟩
    | some x =>
      dsimp only
      split
      · refine ⟨fun y hy => ?_, by simp, by simp⟩
        rcases List.mem_or_eq_of_mem_set hy with hy | hy
        · exact h y hy
        · rw [hy]
          exact h x (List.mem_of_getElem? hx)
      · exact app
/-- what change() leaves -/
def chS (j : Nat) (a : Int) : Sg → Sg
  | (q, clk, dm, ob, ru, rn, rs, nb, tr) => (q, clk, dm, uO ob j q (hasO (ob j q) (chV (ob j q) a)), ru, rn, rs, nb, if frs (ob j q) (chV (ob j q) a) = true then sndT clk (j : Int) q tr else tr)
theorem e_change {a : Int} (hj : j < 4) (ha : 0 ≤ a ∧ a ≤ 999) (hq : q ∈ dm j) : spChange (j : Int) a (q, clk, dm, ob, ru, rn, rs, nb, tr) = (0, chV (ob j q) a, chS j a (q, clk, dm, ob, ru, rn, rs, nb, tr)) := by
  rw [spChange, if_neg (by omega), if_neg (by omega), show ((j : Int)).toNat = j from rfl, if_neg (fun h => h hq)]
  rfl
theorem lJ_change {a : Int} (h : lJ m r c T (q, clk, dm, ob, ru, rn, rs, nb, tr)) (hj : j < 2) (hT : 0 ≤ T ∧ T + 1 ≤ 512) (ha : 0 ≤ a ∧ a ≤ 999) (hq : q ∈ dm j) : lJ m r c (T + 1) (chS j a (q, clk, dm, ob, ru, rn, rs, nb, tr)) ∧ trL (q, clk, dm, ob, ru, rn, rs, nb, tr) ≤ trL (chS j a (q, clk, dm, ob, ru, rn, rs, nb, tr)) ∧ trL (chS j a (q, clk, dm, ob, ru, rn, rs, nb, tr)) ≤ trL (q, clk, dm, ob, ru, rn, rs, nb, tr) + 1 := by
  obtain ⟨h1, h2, h3, h4, h5⟩ := h
  have hk := k_change h1 hT.2 (j : Int) a
  rw [e_change (by omega) ha hq] at hk
  obtain ⟨s1, s2, s3⟩ := sndT_in (cl := clk) (a := (j : Int)) (p := q) h5 (by omega)
  refine ⟨⟨hk, ⟨h2.1, by omega⟩, h3, h4, ?_⟩, ?_, ?_⟩
  · split
    · exact s1
    · exact h5
  · show (tr.length : Int) ≤ ((if frs (ob j q) (chV (ob j q) a) = true then sndT clk (j : Int) q tr else tr).length : Int)
    split
    · omega
    · omega
  · show ((if frs (ob j q) (chV (ob j q) a) = true then sndT clk (j : Int) q tr else tr).length : Int) ≤ (tr.length : Int) + 1
    split
    · omega
    · omega
theorem chV_in {a : Int} (h : okS N (q, clk, dm, ob, ru, rn, rs, nb, tr)) (hj : j < 4) (ha : 0 ≤ a ∧ a ≤ 999) (hq : q ∈ dm j) : 0 ≤ chV (ob j q) a ∧ chV (ob j q) a ≤ 999 := by
  unfold chV
  split
  · exact ⟨Int.emod_nonneg _ (by decide), by have := Int.emod_lt_of_pos ((ob j q).2.1 + a) (show (0 : Int) < 1000 by decide); omega⟩
  · exact ha
/-- a trap that is there -/
theorem e_told {f : Trp → Int} (ht : 0 < (tr.length : Int)) : ∃ x ∈ tr, spTold f ((tr.length : Int) - 1) (q, clk, dm, ob, ru, rn, rs, nb, tr) = (0, f x, q, clk, dm, ob, ru, rn, rs, nb, tr) := by
  obtain ⟨x, hx⟩ : ∃ x, tr[((tr.length : Int) - 1).toNat]? = some x := ⟨_, List.getElem?_eq_getElem (by omega)⟩
  refine ⟨x, List.mem_of_getElem? hx, ?_⟩
  rw [spTold, if_pos (by omega), hx]
end LJ
