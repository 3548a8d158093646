/-! the class's cells and the state -/
theorem u3_cf {β : Type} (f : Nat → Nat → Nat → β) {c c' k a : Nat} (v : β) (h : c' ≠ c) : u3 f c k a v c' = f c' := by
  funext k' a'
  exact u3_c f c k a v k' a' h
def mkM (T : Nat → Option (Nat × Nat)) (F2 : Nat → Nat → Int) : Option Nat → Option (Int × Int × Int) → Prop
  | none, none => True
  | some m, some (lo, hi, ar) => (∃ n0, T m = some (2, n0)) ∧ F2 0 m = lo ∧ F2 1 m = hi ∧ F2 2 m = ar
  | _, _ => False
def smM (T : Nat → Option (Nat × Nat)) (F3 : Nat → Nat → Int) : Option Nat → Option Smp → Prop
  | none, none => True
  | some b, some (x, v, r) => (∃ n0, T b = some (3, n0)) ∧ F3 0 b = x ∧ F3 1 b = v ∧ F3 2 b = r
  | _, _ => False
def itm (T : Nat → Option (Nat × Nat)) (F1 F2 F3 : Nat → Nat → Int) (R1 : Nat → Nat → Option Nat) (y : Nat) (o : Ob) : Prop := F1 1 y = o.1 ∧ F1 2 y = o.2.1 ∧ mkM T F2 (R1 3 y) o.2.2.1 ∧ smM T F3 (R1 4 y) o.2.2.2.1 ∧ smM T F3 (R1 5 y) o.2.2.2.2
def pIt (T : Nat → Option (Nat × Nat)) (F1 F2 F3 : Nat → Nat → Int) (R1 : Nat → Nat → Option Nat) (l : List Nat) (dm : List Int) (ob : Int → Ob) : Prop := (∀ y ∈ l, ∃ n0, T y = some (1, n0)) ∧ (l.map (F1 0)).Perm dm ∧ ∀ y ∈ l, itm T F1 F2 F3 R1 y (ob (F1 0 y))
/-- no two agents share an item, no two items marks -/
def pDj (L : Nat → List Nat) (G : Nat → Nat) (R1 : Nat → Nat → Option Nat) : Prop := (∀ i j y : Nat, i < 4 → j < 4 → y ∈ L (gL G i) → y ∈ L (gL G j) → i = j) ∧ ∀ i j y z m : Nat, i < 4 → j < 4 → y ∈ L (gL G i) → z ∈ L (gL G j) → R1 3 y = some m → R1 3 z = some m → y = z
def pRu (R P : Int → Int) (ru : Int → Int) (rn : Int) : Prop := (∀ s : Int, 0 ≤ R s ∧ R s ≤ 2 ∧ 0 ≤ P s ∧ P s < 65536) ∧ (∀ s t : Int, 0 ≤ s → s < 10 → 0 ≤ t → t < 10 → R s ≠ 0 → R t ≠ 0 → P s = P t → s = t) ∧ (∀ k, rlF R P k 10 0 = ru k) ∧ rlC R 10 0 = rn
def pTr (T : Nat → Option (Nat × Nat)) (F4 : Nat → Nat → Int) (ts : List Nat) (tr : List Trp) : Prop := ts.length = tr.length ∧ ts.Nodup ∧ ∀ (i t : Nat) (x : Trp), ts[i]? = some t → tr[i]? = some x → (∃ n0, T t = some (4, n0)) ∧ F4 0 t = x.1 ∧ F4 1 t = x.2.1 ∧ F4 2 t = x.2.2.1 ∧ F4 3 t = x.2.2.2
def injG (G : Nat → Nat) : Prop := ∀ m m', m < 24 → m' < 24 → G m = G m' → m = m'
def Rc (μ : Mem) (G : Nat → Nat) : Sg → Prop
  | (q, clk, dm, ob, ru, rn, rs, nb, tr) => csS μ G ∧ injG G ∧ μ.2.1 5 3 (G 0) = q ∧ μ.2.1 5 4 (G 0) = clk ∧
    (∀ j, j < 4 → pIt μ.1 (μ.2.1 1) (μ.2.1 2) (μ.2.1 3) (μ.2.2.1 1) (μ.2.2.2.2.2 (gL G j)) (dm j) (ob j)) ∧
    pDj (μ.2.2.2.2.2) G (μ.2.2.1 1) ∧
    (∀ j, j < 4 → pRu (μ.2.2.2.1 (gU G j)) (μ.2.2.2.1 (gP G j)) (ru j) (rn j)) ∧
    (∀ j, j < 4 → μ.2.1 0 4 (gA G j) = rs j) ∧ (∀ j, j < 4 → μ.2.2.2.1 (gN G j) = nb j) ∧
    pTr μ.1 (μ.2.1 4) (μ.2.2.2.2.2 (G 2)) tr ∧ zAll μ 1 (μ.2.2.2.2.2 (G 3)) ∧ (μ.2.2.2.2.2 (G 3)).length ≤ 1000
/-- what belongs to nobody here: cells of the reference, arrays that aren't the class's -/
def oth (μ : Mem) (G : Nat → Nat) (a : Nat) : Prop := (∃ t n : Nat, μ.1 a = some (t, n) ∧ (t = 6 ∨ t = 20 ∨ t = 21 ∨ t = 22)) ∧ ∀ m, m < 24 → a ≠ G m
def Fc (μ μ' : Mem) (G : Nat → Nat) : Prop := ∀ a, oth μ G a → sm μ μ' a
theorem Fc_rf (μ : Mem) (G : Nat → Nat) : Fc μ μ G := fun a _ => sm_rf μ a
theorem Fc_tr {μ μ' μ2 : Mem} {G : Nat → Nat} (h : Fc μ μ' G) (h2 : Fc μ' μ2 G) : Fc μ μ2 G := fun a ha => by
  have h3 := h a ha
  refine sm_tr h3 (h2 a ⟨?_, ha.2⟩)
  rw [h3.1]
  exact ha.1
theorem oth_n {μ : Mem} {G : Nat → Nat} {a b t n : Nat} (h : oth μ G a) (hb : μ.1 b = some (t, n)) (ht : t < 5) : a ≠ b := fun e => by
  obtain ⟨⟨t', n', h1, h2⟩, -⟩ := h
  rw [e, hb] at h1
  cases h1
  omega
theorem Fc_off {μ μ' : Mem} {G : Nat → Nat} {q : Nat} (hq : μ.1 q = none) (h : off q μ μ') : Fc μ μ' G := fun a ha => by
  obtain ⟨⟨t', n', h1, h2⟩, -⟩ := ha
  exact h a (ne_of_T h1 hq)
theorem map_inj {f : Nat → Int} : ∀ {l : List Nat}, (l.map f).Nodup → ∀ y z, y ∈ l → z ∈ l → f y = f z → y = z
  | [], _, _, _, h, _, _ => by cases h
  | a :: l, hn, y, z, hy, hz, he => by
    rw [List.map_cons, List.nodup_cons] at hn
    rcases List.mem_cons.mp hy with hy' | hy' <;> rcases List.mem_cons.mp hz with hz' | hz'
    · rw [hy', hz']
    · exact absurd (List.mem_map.mpr ⟨z, hz', by rw [← hy']; exact he.symm⟩) hn.1
    · exact absurd (List.mem_map.mpr ⟨y, hy', by rw [← hz']; exact he⟩) hn.1
    · exact map_inj hn.2 y z hy' hz' he
section PIT
variable {T : Nat → Option (Nat × Nat)} {F1 F2 F3 : Nat → Nat → Int} {R1 : Nat → Nat → Option Nat} {l : List Nat} {dm : List Int} {ob : Int → Ob}
theorem pIt_mem (h : pIt T F1 F2 F3 R1 l dm ob) {k : Int} : k ∈ dm ↔ ∃ y ∈ l, F1 0 y = k := by
  rw [← h.2.1.mem_iff, List.mem_map]
theorem pIt_inj (h : pIt T F1 F2 F3 R1 l dm ob) (hn : dm.Nodup) {y z : Nat} (hy : y ∈ l) (hz : z ∈ l) (he : F1 0 y = F1 0 z) : y = z := map_inj (h.2.1.nodup_iff.mpr hn) y z hy hz he
theorem pIt_len (h : pIt T F1 F2 F3 R1 l dm ob) : l.length = dm.length := by
  have := h.2.1.length_eq
  rwa [List.length_map] at this
end PIT
theorem mkM_congr {T T' : Nat → Option (Nat × Nat)} {F F' : Nat → Nat → Int} {r : Option Nat} {o : Option (Int × Int × Int)} (h : mkM T F r o) (e : ∀ m, r = some m → T m ≠ none → T' m = T m ∧ ∀ k, F' k m = F k m) : mkM T' F' r o := by
  cases r with
  | none => cases o with
    | none => exact True.intro
    | some x => exact h.elim
  | some m => cases o with
    | none => exact h.elim
    | some x =>
      obtain ⟨⟨n0, h1⟩, h2, h3, h4⟩ := h
      obtain ⟨e1, e2⟩ := e m rfl (by rw [h1]; intro h; cases h)
      exact ⟨⟨n0, e1.trans h1⟩, (e2 _).trans h2, (e2 _).trans h3, (e2 _).trans h4⟩
theorem smM_congr {T T' : Nat → Option (Nat × Nat)} {F F' : Nat → Nat → Int} {r : Option Nat} {o : Option Smp} (h : smM T F r o) (e : ∀ m, r = some m → T m ≠ none → T' m = T m ∧ ∀ k, F' k m = F k m) : smM T' F' r o := by
  cases r with
  | none => cases o with
    | none => exact True.intro
    | some x => exact h.elim
  | some m => cases o with
    | none => exact h.elim
    | some x =>
      obtain ⟨⟨n0, h1⟩, h2, h3, h4⟩ := h
      obtain ⟨e1, e2⟩ := e m rfl (by rw [h1]; intro h; cases h)
      exact ⟨⟨n0, e1.trans h1⟩, (e2 _).trans h2, (e2 _).trans h3, (e2 _).trans h4⟩
theorem mkM_T {T : Nat → Option (Nat × Nat)} {F : Nat → Nat → Int} {m : Nat} {o : Option (Int × Int × Int)} (h : mkM T F (some m) o) : ∃ n0, T m = some (2, n0) := by
  cases o with
  | none => exact h.elim
  | some x => exact h.1
theorem smM_T {T : Nat → Option (Nat × Nat)} {F : Nat → Nat → Int} {m : Nat} {o : Option Smp} (h : smM T F (some m) o) : ∃ n0, T m = some (3, n0) := by
  cases o with
  | none => exact h.elim
  | some x => exact h.1
/-- the class's own cells -/
def own (μ : Mem) (G : Nat → Nat) (a : Nat) : Prop := (∃ m, m < 24 ∧ a = G m) ∨ ∃ t n : Nat, μ.1 a = some (t, n) ∧ 1 ≤ t ∧ t ≤ 4
theorem csS_sm {μ μ' : Mem} {G : Nat → Nat} (h : csS μ G) (e : ∀ m, m < 24 → μ'.1 (G m) = μ.1 (G m) ∧ (∀ c k, μ'.2.2.1 c k (G m) = μ.2.2.1 c k (G m)) ∧ μ'.2.2.2.2.1 (G m) = μ.2.2.2.2.1 (G m)) : csS μ' G := by
  obtain ⟨⟨h1, h2, h3, h4, h5, h6, h7⟩, hA, hB⟩ := h
  refine ⟨⟨(e 0 (by decide)).1.trans h1, ((e 0 (by decide)).2.1 _ _).trans h2, ((e 0 (by decide)).2.1 _ _).trans h3, ((e 0 (by decide)).2.1 _ _).trans h4, (e 1 (by decide)).1.trans h5, (e 2 (by decide)).1.trans h6, (e 3 (by decide)).1.trans h7⟩, fun j hj => (congrFun (e 1 (by decide)).2.2 _).trans (hA j hj), fun j hj => ?_⟩
  obtain ⟨a1, a2, a3, a4, a5, a6, a7, a8, a9⟩ := hB j hj
  have eA := e (4 + 5 * j) (by omega)
  exact ⟨eA.1.trans a1, (eA.2.1 _ _).trans a2, (eA.2.1 _ _).trans a3, (eA.2.1 _ _).trans a4, (eA.2.1 _ _).trans a5, (e (5 + 5 * j) (by omega)).1.trans a6, (e (6 + 5 * j) (by omega)).1.trans a7, (e (7 + 5 * j) (by omega)).1.trans a8, (e (8 + 5 * j) (by omega)).1.trans a9⟩
theorem Rc_sm {μ μ' : Mem} {G : Nat → Nat} {s : Sg} (h : Rc μ G s) (e : ∀ a, own μ G a → sm μ μ' a) : Rc μ' G s := by
  obtain ⟨q, clk, dm, ob, ru, rn, rs, nb, tr⟩ := s
  obtain ⟨h1, h2, h3, h4, h5, h6, h7, h8, h9, h10, h11, h12⟩ := h
  have eG : ∀ m, m < 24 → sm μ μ' (G m) := fun m hm => e _ (Or.inl ⟨m, hm, rfl⟩)
  have eT : ∀ {a t n : Nat}, μ.1 a = some (t, n) → 1 ≤ t → t ≤ 4 → sm μ μ' a := fun ha h1 h2 => e _ (Or.inr ⟨_, _, ha, h1, h2⟩)
  have eL : ∀ j, j < 4 → μ'.2.2.2.2.2 (gL G j) = μ.2.2.2.2.2 (gL G j) := fun j hj => (eG (5 + 5 * j) (by omega)).2.2.2.2.2
  have eY : ∀ j y, j < 4 → y ∈ μ.2.2.2.2.2 (gL G j) → sm μ μ' y := fun j y hj hy => by
    obtain ⟨n0, hn⟩ := (h5 j hj).1 y hy
    exact eT hn (by decide) (by decide)
  refine ⟨csS_sm h1 (fun m hm => ⟨(eG m hm).1, (eG m hm).2.2.1, (eG m hm).2.2.2.2.1⟩), h2, ((eG 0 (by decide)).2.1 _ _).trans h3, ((eG 0 (by decide)).2.1 _ _).trans h4, fun j hj => ?_, ?_, fun j hj => ?_, fun j hj => ((eG (4 + 5 * j) (by omega)).2.1 _ _).trans (h8 j hj), fun j hj => (eG (8 + 5 * j) (by omega)).2.2.2.1.trans (h9 j hj), ?_, ?_, ?_⟩
  · rw [eL j hj]
    obtain ⟨p1, p2, p3⟩ := h5 j hj
    refine ⟨fun y hy => ?_, ?_, fun y hy => ?_⟩
    · rw [(eY j y hj hy).1]
      exact p1 y hy
    · rw [show (μ.2.2.2.2.2 (gL G j)).map (μ'.2.1 1 0) = (μ.2.2.2.2.2 (gL G j)).map (μ.2.1 1 0) from List.map_congr_left (fun y hy => (eY j y hj hy).2.1 1 0)]
      exact p2
    · have ey := eY j y hj hy
      obtain ⟨i1, i2, i3, i4, i5⟩ := p3 y hy
      rw [ey.2.1 1 0]
      refine ⟨(ey.2.1 1 1).trans i1, (ey.2.1 1 2).trans i2, ?_, ?_, ?_⟩
      · rw [ey.2.2.1 1 3]
        refine mkM_congr i3 (fun m hm hT => ?_)
        rw [hm] at i3
        obtain ⟨n0, hn⟩ := mkM_T i3
        have em := eT hn (by decide) (by decide)
        exact ⟨em.1, fun k => em.2.1 2 k⟩
      · rw [ey.2.2.1 1 4]
        refine smM_congr i4 (fun m hm hT => ?_)
        rw [hm] at i4
        obtain ⟨n0, hn⟩ := smM_T i4
        have em := eT hn (by decide) (by decide)
        exact ⟨em.1, fun k => em.2.1 3 k⟩
      · rw [ey.2.2.1 1 5]
        refine smM_congr i5 (fun m hm hT => ?_)
        rw [hm] at i5
        obtain ⟨n0, hn⟩ := smM_T i5
        have em := eT hn (by decide) (by decide)
        exact ⟨em.1, fun k => em.2.1 3 k⟩
  · refine ⟨fun i j y hi hj hy hz => ?_, fun i j y z m hi hj hy hz g1 g2 => ?_⟩
    · rw [eL i hi] at hy
      rw [eL j hj] at hz
      exact h6.1 i j y hi hj hy hz
    · rw [eL i hi] at hy
      rw [eL j hj] at hz
      rw [(eY i y hi hy).2.2.1 1 3] at g1
      rw [(eY j z hj hz).2.2.1 1 3] at g2
      exact h6.2 i j y z m hi hj hy hz g1 g2
  · rw [(eG (7 + 5 * j) (by omega)).2.2.2.1, (eG (6 + 5 * j) (by omega)).2.2.2.1]
    exact h7 j hj
  · rw [(eG 2 (by decide)).2.2.2.2.2]
    obtain ⟨t1, t2, t3⟩ := h10
    refine ⟨t1, t2, fun i t x hi hx => ?_⟩
    obtain ⟨⟨n0, hn⟩, k1, k2, k3, k4⟩ := t3 i t x hi hx
    have et := eT hn (by decide) (by decide)
    exact ⟨⟨n0, et.1.trans hn⟩, (et.2.1 _ _).trans k1, (et.2.1 _ _).trans k2, (et.2.1 _ _).trans k3, (et.2.1 _ _).trans k4⟩
  · rw [(eG 3 (by decide)).2.2.2.2.2]
    intro y hy
    obtain ⟨n0, hn⟩ := h11 y hy
    exact ⟨n0, (eT hn (by decide) (by decide)).1.trans hn⟩
  · rw [(eG 3 (by decide)).2.2.2.2.2]
    exact h12
theorem csS_T {μ : Mem} {G : Nat → Nat} (h : csS μ G) {m : Nat} (hm : m < 24) : ∃ t n, μ.1 (G m) = some (t, n) ∧ (t = 0 ∨ t = 5 ∨ t = 23 ∨ t = 24 ∨ t = 20) := by
  obtain ⟨⟨h1, h2, h3, h4, h5, h6, h7⟩, hA, hB⟩ := h
  by_cases h4' : m < 4
  · rcases (by omega : m = 0 ∨ m = 1 ∨ m = 2 ∨ m = 3) with rfl | rfl | rfl | rfl
    · exact ⟨_, _, h1, by decide⟩
    · exact ⟨_, _, h5, by decide⟩
    · exact ⟨_, _, h6, by decide⟩
    · exact ⟨_, _, h7, by decide⟩
  · obtain ⟨j, c, hj, hc, rfl⟩ : ∃ j c, j < 4 ∧ c < 5 ∧ m = (4 + c) + 5 * j := ⟨(m - 4) / 5, (m - 4) % 5, by omega, by omega, by omega⟩
    obtain ⟨a1, a2, a3, a4, a5, a6, a7, a8, a9⟩ := hB j hj
    rcases (by omega : c = 0 ∨ c = 1 ∨ c = 2 ∨ c = 3 ∨ c = 4) with rfl | rfl | rfl | rfl | rfl
    · exact ⟨_, _, a1, by decide⟩
    · exact ⟨_, _, a6, by decide⟩
    · exact ⟨_, _, a7, by decide⟩
    · exact ⟨_, _, a8, by decide⟩
    · exact ⟨_, _, a9, by decide⟩
/-- a new cell changes nothing -/
theorem Rc_off {μ μ' : Mem} {G : Nat → Nat} {s : Sg} {q : Nat} (h : Rc μ G s) (hq : μ.1 q = none) (ho : off q μ μ') : Rc μ' G s := by
  refine Rc_sm h (fun a ha => ho a (fun e => ?_))
  subst e
  rcases ha with ⟨m, hm, rfl⟩ | ⟨t, n, h1, -⟩
  · obtain ⟨q, clk, dm, ob, ru, rn, rs, nb, tr⟩ := s
    obtain ⟨t, n, h1, -⟩ := csS_T h.1 hm
    rw [hq] at h1
    cases h1
  · rw [hq] at h1
    cases h1
