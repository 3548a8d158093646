/-! WHAT THE LAW RESTS ON, of plain numbers and lists: the order's number of a path, walks, links. -/
/-- the number that order() makes of a path -/
def od (q : Int) : Int := 1331 * hA q 0 + 121 * hA q 1 + 11 * hA q 2 + hA q 3
theorem od_0 : od 0 = 0 := by decide
theorem od_in {q : Int} (h : okK q) : 0 ≤ od q ∧ od q ≤ 14640 := by
  obtain ⟨a, b, c, d, ha, hb, hc, hd, h1, h2, h3, rfl⟩ := okK_un h
  obtain ⟨e0, e1, e2, e3⟩ := mkp_hA ha hb hc hd
  rw [od, e0, e1, e2, e3]
  omega
theorem od_lt {p q : Int} (hp : okK p) (hq : okK q) (h : p < q) : od p < od q := by
  obtain ⟨a, b, c, d, ha, hb, hc, hd, h1, h2, h3, rfl⟩ := okK_un hp
  obtain ⟨a', b', c', d', ha', hb', hc', hd', h1', h2', h3', rfl⟩ := okK_un hq
  obtain ⟨e0, e1, e2, e3⟩ := mkp_hA ha hb hc hd
  obtain ⟨f0, f1, f2, f3⟩ := mkp_hA ha' hb' hc' hd'
  rw [od, od, e0, e1, e2, e3, f0, f1, f2, f3]
  unfold mkp at h
  rcases Int.lt_trichotomy a a' with g | g | g
  · omega
  · rcases Int.lt_trichotomy b b' with g2 | g2 | g2
    · omega
    · rcases Int.lt_trichotomy c c' with g3 | g3 | g3
      · omega
      · omega
      · omega
    · omega
  · omega
theorem nxt_spec {f : Int → Bool} {q : Int} : ∀ l : List Int, (nxt f q l = none ∧ ∀ k ∈ l, q < k → f k = false) ∨ ∃ z, nxt f q l = some z ∧ z ∈ l ∧ q < z ∧ f z = true ∧ ∀ y ∈ l, q < y → f y = true → z ≤ y
  | [] => Or.inl ⟨rfl, fun k h => by cases h⟩
  | k :: l => by
    rcases nxt_spec (f := f) (q := q) l with ⟨h1, h2⟩ | ⟨z, h1, h2, h3, h4, h5⟩
    · by_cases hk : q < k ∧ f k = true
      · refine Or.inr ⟨k, ?_, List.mem_cons_self, hk.1, hk.2, fun y hy g1 g2 => ?_⟩
        · rw [nxt, if_pos hk, h1]
        · rcases List.mem_cons.mp hy with e | hy
          · rw [e]
            exact Int.le_refl _
          · rw [h2 y hy g1] at g2
            cases g2
      · refine Or.inl ⟨?_, fun y hy g1 => ?_⟩
        · rw [nxt, if_neg hk]
          exact h1
        · rcases List.mem_cons.mp hy with e | hy
          · cases hf : f y with
            | false => rfl
            | true => exact absurd ⟨by rw [← e]; exact g1, by rw [← e]; exact hf⟩ hk
          · exact h2 y hy g1
    · by_cases hk : q < k ∧ f k = true
      · by_cases hkz : k < z
        · refine Or.inr ⟨k, ?_, List.mem_cons_self, hk.1, hk.2, fun y hy g1 g2 => ?_⟩
          · rw [nxt, if_pos hk, h1]
            show (if k < z then some k else some z) = _
            rw [if_pos hkz]
          · rcases List.mem_cons.mp hy with e | hy
            · rw [e]
              exact Int.le_refl _
            · have := h5 y hy g1 g2
              omega
        · refine Or.inr ⟨z, ?_, List.mem_cons_of_mem _ h2, h3, h4, fun y hy g1 g2 => ?_⟩
          · rw [nxt, if_pos hk, h1]
            show (if k < z then some k else some z) = _
            rw [if_neg hkz]
          · rcases List.mem_cons.mp hy with e | hy
            · omega
            · exact h5 y hy g1 g2
      · refine Or.inr ⟨z, ?_, List.mem_cons_of_mem _ h2, h3, h4, fun y hy g1 g2 => ?_⟩
        · rw [nxt, if_neg hk]
          exact h1
        · rcases List.mem_cons.mp hy with e | hy
          · exact absurd ⟨by rw [← e]; exact g1, by rw [← e]; exact g2⟩ hk
          · exact h5 y hy g1 g2
theorem ct_one {p1 p2 : Int → Bool} {z : Int} (h1 : p1 z = true) (h2 : p2 z = false) : ∀ l : List Int, l.Nodup → z ∈ l → (∀ k ∈ l, k ≠ z → p1 k = p2 k) → l.countP p1 = l.countP p2 + 1
  | [], _, h, _ => by cases h
  | k :: l, hn, hz, he => by
    rw [List.nodup_cons] at hn
    rw [List.countP_cons, List.countP_cons]
    by_cases hk : k = z
    · have hz2 : z ∉ l := by rw [← hk]; exact hn.1
      have e : l.countP p1 = l.countP p2 := List.countP_congr (fun y hy => by rw [he y (List.mem_cons_of_mem _ hy) (fun e => hz2 (by rw [← e]; exact hy))])
      rw [e, hk, h1, h2]
      simp
    · have hz2 : z ∈ l := by
        rcases List.mem_cons.mp hz with e | e
        · exact absurd e.symm hk
        · exact e
      rw [ct_one h1 h2 l hn.2 hz2 (fun y hy => he y (List.mem_cons_of_mem _ hy)), he k List.mem_cons_self hk]
      omega
/-- how many of l that f allows lie behind q -/
def ct (f : Int → Bool) (l : List Int) (q : Int) : Nat := l.countP (fun k => decide (q < k) && f k)
theorem ct_0 {f : Int → Bool} {l : List Int} {q : Int} (h : ∀ k ∈ l, q < k → f k = false) : ct f l q = 0 := by
  refine List.countP_eq_zero.mpr (fun k hk g => ?_)
  simp only [Bool.and_eq_true, decide_eq_true_eq] at g
  rw [h k hk g.1] at g
  cases g.2
theorem ct_00 {f : Int → Bool} {l : List Int} {q : Int} (h : ct f l q = 0) {k : Int} (hk : k ∈ l) (hf : f k = true) : k ≤ q := by
  have := List.countP_eq_zero.mp h k hk
  simp only [Bool.and_eq_true, decide_eq_true_eq, hf, and_true] at this
  omega
theorem ct_z {f : Int → Bool} {l : List Int} {q z : Int} (hn : l.Nodup) (h2 : z ∈ l) (h3 : q < z) (h4 : f z = true) (h5 : ∀ y ∈ l, q < y → f y = true → z ≤ y) : ct f l q = ct f l z + 1 := by
  refine ct_one (z := z) (by simp [h3, h4]) (by simp) l hn h2 (fun k hk hkz => ?_)
  cases hf : f k with
  | false => simp
  | true =>
    simp only [Bool.and_true]
    by_cases hq : q < k
    · have := h5 k hk hq hf
      rw [decide_eq_true hq, decide_eq_true (by omega)]
    · rw [decide_eq_false hq, decide_eq_false (by omega)]
/-- all of l lie behind the empty path -/
theorem ct_all {f : Int → Bool} {l : List Int} (h : ∀ k ∈ l, 0 < k) : l.countP f = ct f l 0 := by
  refine List.countP_congr (fun k hk => ?_)
  rw [decide_eq_true (h k hk), Bool.true_and]
theorem blk_spec {dm : List Int} {ru : Int → Int} (hn : dm.Nodup) : ∀ (f : Nat) (n q : Int), ct (fun k => !hidK ru k) dm q ≤ f → ∃ r, blk dm ru f n q = (n + (ct (fun k => !hidK ru k) dm q : Int), r) ∧ ct (fun k => !hidK ru k) dm r = 0 ∧ (r = q ∨ (r ∈ dm ∧ hidK ru r = false ∧ q < r))
  | 0, n, q, h => ⟨q, by rw [blk]; congr 1; omega, by omega, Or.inl rfl⟩
  | f + 1, n, q, h => by
    rcases nxt_spec (f := fun k => !hidK ru k) (q := q) dm with ⟨h1, h2⟩ | ⟨z, h1, h2, h3, h4, h5⟩
    · have h0 := ct_0 h2
      refine ⟨q, ?_, h0, Or.inl rfl⟩
      rw [blk, show nx dm ru q = none from h1, h0]
      show (n, q) = _
      congr 1
      omega
    · have h0 := ct_z hn h2 h3 h4 h5
      obtain ⟨r, r1, r2, r3⟩ := blk_spec (ru := ru) hn f (n + 1) z (by omega)
      refine ⟨r, ?_, r2, ?_⟩
      · rw [blk, show nx dm ru q = some z from h1]
        show blk dm ru f (n + 1) z = _
        rw [r1, h0]
        congr 1
        omega
      · rcases r3 with r3 | ⟨r3, r4, r5⟩
        · refine Or.inr ⟨by rw [r3]; exact h2, by rw [r3]; simpa using h4, by omega⟩
        · exact Or.inr ⟨r3, r4, by omega⟩
/-! links -/
theorem wlI_cg {f g : Nat → Nat → Bool} (h : ∀ i j, i < 4 → j < 4 → (f i j && f j i) = (g i j && g j i)) (s : Int) {one : Nat} (h1 : one < 4) : ∀ (n o : Nat) (wd : Int), n + o = 4 → wlI f s one n o wd = wlI g s one n o wd
  | 0, _, _, _ => rfl
  | n + 1, o, wd, hn => by
    rw [wlI, wlI, h one o h1 (by omega), wlI_cg h s h1 n (o + 1) _ (by omega)]
theorem wlO_cg {f g : Nat → Nat → Bool} (h : ∀ i j, i < 4 → j < 4 → (f i j && f j i) = (g i j && g j i)) (s : Int) : ∀ (n one : Nat) (wd : Int), n + one = 4 → wlO f s n one wd = wlO g s n one wd
  | 0, _, _, _ => rfl
  | n + 1, one, wd, hn => by
    rw [wlO, wlO, wlI_cg h s (by omega) 4 0 wd rfl, wlO_cg h s n (one + 1) _ (by omega)]
/-- the links, one bit a pair -/
def lkF (a b c d e f : Bool) (i j : Nat) : Bool := match i, j with
  | 0, 1 => a
  | 1, 0 => a
  | 0, 2 => b
  | 2, 0 => b
  | 0, 3 => c
  | 3, 0 => c
  | 1, 2 => d
  | 2, 1 => d
  | 1, 3 => e
  | 3, 1 => e
  | 2, 3 => f
  | 3, 2 => f
  | _, _ => false
def rch (ln : Nat → Nat → Bool) (i : Nat) : Int := wl3 ln (wl3 ln (wl3 ln ((2 ^ i : Nat) : Int)))
theorem rch_fin : ∀ a b c d e f : Bool, ∀ i : Fin 4, (rch (lkF a b c d e f) i.val / ((2 ^ i.val : Nat) : Int) % 2 = 1) ∧ (0 ≤ rch (lkF a b c d e f) i.val ∧ rch (lkF a b c d e f) i.val ≤ 15) ∧ ∀ k : Fin 4, rch (lkF a b c d e f) i.val / ((2 ^ k.val : Nat) : Int) % 2 = 0 ∨ rch (lkF a b c d e f) k.val = rch (lkF a b c d e f) i.val := by decide +kernel
theorem lkF_of {ln : Nat → Nat → Bool} (h : ∀ i, i < 4 → ln i i = false) : ∀ i j, i < 4 → j < 4 → (ln i j && ln j i) = (lkF (ln 0 1 && ln 1 0) (ln 0 2 && ln 2 0) (ln 0 3 && ln 3 0) (ln 1 2 && ln 2 1) (ln 1 3 && ln 3 1) (ln 2 3 && ln 3 2) i j && lkF (ln 0 1 && ln 1 0) (ln 0 2 && ln 2 0) (ln 0 3 && ln 3 0) (ln 1 2 && ln 2 1) (ln 1 3 && ln 3 1) (ln 2 3 && ln 3 2) j i) := by
  intro i j hi hj
  have h0 := h 0 (by decide)
  have h1 := h 1 (by decide)
  have h2 := h 2 (by decide)
  have h3 := h 3 (by decide)
  rcases (by omega : i = 0 ∨ i = 1 ∨ i = 2 ∨ i = 3) with rfl | rfl | rfl | rfl <;> rcases (by omega : j = 0 ∨ j = 1 ∨ j = 2 ∨ j = 3) with rfl | rfl | rfl | rfl <;> simp [lkF, h0, h1, h2, h3, Bool.and_comm]
theorem rch_of {ln : Nat → Nat → Bool} (h : ∀ i, i < 4 → ln i i = false) {i : Nat} (hi : i < 4) : (rch ln i / ((2 ^ i : Nat) : Int) % 2 = 1) ∧ (0 ≤ rch ln i ∧ rch ln i ≤ 15) ∧ ∀ k, k < 4 → rch ln i / ((2 ^ k : Nat) : Int) % 2 = 0 ∨ rch ln k = rch ln i := by
  have e : ∀ s, wl3 ln s = wl3 (lkF (ln 0 1 && ln 1 0) (ln 0 2 && ln 2 0) (ln 0 3 && ln 3 0) (ln 1 2 && ln 2 1) (ln 1 3 && ln 3 1) (ln 2 3 && ln 3 2)) s := fun s => wlO_cg (lkF_of h) s 4 0 s rfl
  have e2 : ∀ k, rch ln k = rch (lkF (ln 0 1 && ln 1 0) (ln 0 2 && ln 2 0) (ln 0 3 && ln 3 0) (ln 1 2 && ln 2 1) (ln 1 3 && ln 3 1) (ln 2 3 && ln 3 2)) k := fun k => by
    rw [rch, rch, e, e, e]
  obtain ⟨h1, h2, h3⟩ := rch_fin (ln 0 1 && ln 1 0) (ln 0 2 && ln 2 0) (ln 0 3 && ln 3 0) (ln 1 2 && ln 2 1) (ln 1 3 && ln 3 1) (ln 2 3 && ln 3 2) ⟨i, hi⟩
  refine ⟨by rw [e2]; exact h1, by rw [e2]; exact h2, fun k hk => ?_⟩
  rw [e2, e2 k]
  exact h3 ⟨k, hk⟩
theorem nbF_no {N : Int → Int} {a : Int} : ∀ (f : Nat) (s : Int), (∀ t, s ≤ t → t < s + (f : Int) → N t ≠ a) → nbF N a f s = false
  | 0, _, _ => rfl
  | f + 1, s, h => by
    rw [nbF, nbF_no f (s + 1) (fun t h1 h2 => h t (by omega) (by omega)), decide_eq_false (h s (by omega) (by omega))]
    rfl
theorem hf_in (ln : Nat → Nat → Bool) (i j : Nat) : 0 ≤ hf ln i j ∧ hf ln i j ≤ 1 := by
  unfold hf
  split <;> decide
/-! writing -/
theorem wr_in {q n : Int} (hq : okK q) (hn : 0 ≤ n ∧ n ≤ 9) (h4 : ln16 q < 4) : okK (q + (n + 1) * pw16 (ln16 q)) ∧ ln16 (q + (n + 1) * pw16 (ln16 q)) = ln16 q + 1 := by
  obtain ⟨a, b, c, d, ha, hb, hc, hd, h1, h2, h3, rfl⟩ := okK_un hq
  rw [ln16_mk ha hb hc hd] at h4 ⊢
  by_cases ea : a = 0
  · obtain ⟨eb, ec, ed⟩ : b = 0 ∧ c = 0 ∧ d = 0 := ⟨h1 ea, h2 (h1 ea), h3 (h2 (h1 ea))⟩
    rw [if_pos ea, show mkp a b c d + (n + 1) * pw16 0 = mkp (n + 1) 0 0 0 by rw [show pw16 0 = 4096 from rfl]; unfold mkp; omega]
    exact ⟨okK_mk (by omega) (by omega) (by omega) (by omega) (by omega) (by omega) (by omega), by rw [ln16_mk (by omega) (by omega) (by omega) (by omega), if_neg (by omega), if_pos rfl]; rfl⟩
  · rw [if_neg ea] at h4 ⊢
    by_cases eb : b = 0
    · obtain ⟨ec, ed⟩ : c = 0 ∧ d = 0 := ⟨h2 eb, h3 (h2 eb)⟩
      rw [if_pos eb, show mkp a b c d + (n + 1) * pw16 1 = mkp a (n + 1) 0 0 by rw [show pw16 1 = 256 from rfl]; unfold mkp; omega]
      exact ⟨okK_mk (by omega) (by omega) (by omega) (by omega) (by omega) (by omega) (by omega), by rw [ln16_mk (by omega) (by omega) (by omega) (by omega), if_neg (by omega), if_neg (by omega), if_pos rfl]; rfl⟩
    · rw [if_neg eb] at h4 ⊢
      by_cases ec : c = 0
      · have ed : d = 0 := h3 ec
        rw [if_pos ec, show mkp a b c d + (n + 1) * pw16 2 = mkp a b (n + 1) 0 by rw [show pw16 2 = 16 from rfl]; unfold mkp; omega]
        exact ⟨okK_mk (by omega) (by omega) (by omega) (by omega) (by omega) (by omega) (by omega), by rw [ln16_mk (by omega) (by omega) (by omega) (by omega), if_neg (by omega), if_neg (by omega), if_neg (by omega), if_pos rfl]; rfl⟩
      · rw [if_neg ec] at h4 ⊢
        by_cases ed : d = 0
        · rw [if_pos ed, show mkp a b c d + (n + 1) * pw16 3 = mkp a b c (n + 1) by rw [show pw16 3 = 1 from rfl]; unfold mkp; omega]
          exact ⟨okK_mk (by omega) (by omega) (by omega) (by omega) (by omega) (by omega) (by omega), by rw [ln16_mk (by omega) (by omega) (by omega) (by omega), if_neg (by omega), if_neg (by omega), if_neg (by omega), if_neg (by omega)]; rfl⟩
        · rw [if_neg ed] at h4
          omega
theorem ln16_0 : ln16 0 = 0 := by decide
theorem okK_pos {q : Int} (h : okK q) (h0 : hA q 0 = 0) : q = 0 := by
  obtain ⟨a, b, c, d, ha, hb, hc, hd, h1, h2, h3, rfl⟩ := okK_un h
  obtain ⟨e0, e1, e2, e3⟩ := mkp_hA ha hb hc hd
  rw [e0] at h0
  have hb0 := h1 h0
  have hc0 := h2 hb0
  have hd0 := h3 hc0
  rw [h0, hb0, hc0, hd0]
  rfl
