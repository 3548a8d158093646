/-! MEMORY as maps: T what lies at an address, FI the int fields and FR the reference fields by class, place and address, A what arrays of numbers hold, AR what arrays of references hold, L what lists hold. -/
abbrev Mem : Type := (Nat → Option (Nat × Nat)) × (Nat → Nat → Nat → Int) × (Nat → Nat → Nat → Option Nat) × (Nat → Int → Int) × (Nat → Int → Option Nat) × (Nat → List Nat)
/-- the world of one run: launch; class numbers and slots; classes of arrays by kind; the first address of our own; the empty array of ArrayList; the mirror of Object[] -/
abbrev Wd : Type := Launch × va_G × (Nat → ClassId) × Nat × Nat × Nat
def wl (w : Wd) : Launch := w.1
def wD (w : Wd) : va_G := w.2.1
def wA (w : Wd) : Nat → ClassId := w.2.2.1
def wb (w : Wd) : Nat := w.2.2.2.1
def wE (w : Wd) : Nat := w.2.2.2.2.1
def wM (w : Wd) : Nat := w.2.2.2.2.2
abbrev zCl : List vw_C := [(RX0, TX0, 5), (RX1, TX1, 6), (RX2, TX2, 3), (RX3, TX3, 3), (RX4, TX4, 4), (RX5, TX5, 5), (RX0, TX0, 5), (RJx4a65c, TJx4a65c, 3)]
/-- words that the tables alone decide, beside the good ones -/
def zoW : Cond → Bool
  | .castable .. => true
  | .declares _ => true
  | .methodLinkNest .. => true
  | _ => false
def OT : List Cond := lw_tbl.filter zoW
theorem ot_t {w : Cond} (h : w ∈ tables_1) (g : zoW w = true) : w ∈ OT := List.mem_filter.mpr ⟨List.mem_append_right _ h, g⟩
theorem zo_warm {w : Cond} (hw : zoW w = true) {s U : State} (hW : s.WarmedH U.vm) (h : va_Nw w s) : va_Nw w U := by
  cases w with
  | castable C T => exact va_Nw.warmC hW h
  | methodLinkNest a i x b => exact va_Nw.warmM hW h
  | declares y =>
    have h1 : (Cond.declares y).before #[] (s.setVm U.vm) = true := by
      rw [Cond.declares_setVm hW.alike]
      exact h
    exact va_tabs rfl (rfl : (s.setVm U.vm).vm = U.vm) h1
  | _ => exact absurd hw (by simp [zoW])
def zN (ci : Nat) : Nat := match ci with | 0 => 5 | 1 => 6 | 2 => 3 | 3 => 3 | 4 => 4 | 5 => 5 | 6 => 5 | _ => 3
def zR (ci k : Nat) : Bool := match ci with
  | 0 => Nat.blt k 4
  | 1 => Nat.ble 3 k
  | 5 => Nat.blt k 3
  | 6 => Nat.blt k 4
  | 7 => Nat.beq k 1
  | _ => false
/-- function with one value changed -/
def u1 {β : Type} (f : Nat → β) (a : Nat) (v : β) : Nat → β := fun x => if x = a then v else f x
def uI {β : Type} (f : Int → β) (a : Int) (v : β) : Int → β := fun x => if x = a then v else f x
def u3 {β : Type} (f : Nat → Nat → Nat → β) (c k a : Nat) (v : β) : Nat → Nat → Nat → β := fun c' k' a' => if c' = c then (if k' = k then (if a' = a then v else f c' k' a') else f c' k' a') else f c' k' a'
def u2 {β : Type} (f : Nat → Int → β) (a : Nat) (i : Int) (v : β) : Nat → Int → β := fun a' i' => if a' = a then (if i' = i then v else f a' i') else f a' i'
theorem u1_s {β : Type} (f : Nat → β) (a : Nat) (v : β) : u1 f a v a = v := if_pos rfl
theorem u1_n {β : Type} (f : Nat → β) {a x : Nat} (v : β) (h : x ≠ a) : u1 f a v x = f x := if_neg h
theorem uI_s {β : Type} (f : Int → β) (a : Int) (v : β) : uI f a v a = v := if_pos rfl
theorem uI_n {β : Type} (f : Int → β) {a x : Int} (v : β) (h : x ≠ a) : uI f a v x = f x := if_neg h
theorem u3_s {β : Type} (f : Nat → Nat → Nat → β) (c k a : Nat) (v : β) : u3 f c k a v c k a = v := by simp [u3]
theorem u3_a {β : Type} (f : Nat → Nat → Nat → β) (c k a : Nat) (v : β) {c' k' x : Nat} (h : x ≠ a) : u3 f c k a v c' k' x = f c' k' x := by simp [u3, h]
theorem u3_c {β : Type} (f : Nat → Nat → Nat → β) (c k a : Nat) (v : β) {c' : Nat} (k' x : Nat) (h : c' ≠ c) : u3 f c k a v c' k' x = f c' k' x := by simp [u3, h]
theorem u3_k {β : Type} (f : Nat → Nat → Nat → β) (c k a : Nat) (v : β) (c' : Nat) {k' : Nat} (x : Nat) (h : k' ≠ k) : u3 f c k a v c' k' x = f c' k' x := by simp [u3, h]
theorem u2_s {β : Type} (f : Nat → Int → β) (a : Nat) (i : Int) (v : β) : u2 f a i v a i = v := by simp [u2]
theorem u2_a {β : Type} (f : Nat → Int → β) {a x : Nat} (i : Int) (v : β) (j : Int) (h : x ≠ a) : u2 f a i v x j = f x j := by simp [u2, h]
theorem u2_af {β : Type} (f : Nat → Int → β) {a x : Nat} (i : Int) (v : β) (h : x ≠ a) : u2 f a i v x = f x := funext fun j => u2_a f i v j h
theorem u2_i {β : Type} (f : Nat → Int → β) (a x : Nat) {i j : Int} (v : β) (h : j ≠ i) : u2 f a i v x j = f x j := by simp [u2, h]
theorem u2_e {β : Type} (f : Nat → Int → β) (a : Nat) (i : Int) (v : β) : u2 f a i v a = uI (f a) i v := by funext j; simp [u2, uI]
def zfs (FI : Nat → Nat → Nat → Int) (FR : Nat → Nat → Nat → Option Nat) (ci a : Nat) : List Value := (List.range (zN ci)).map (fun k => if zR ci k = true then va_rf (FR ci k a) else .int (J (FI ci k a)))
theorem zfs_len (FI : Nat → Nat → Nat → Int) (FR : Nat → Nat → Nat → Option Nat) (ci a : Nat) : (zfs FI FR ci a).length = zN ci := by simp [zfs]
theorem zfs_at (FI : Nat → Nat → Nat → Int) (FR : Nat → Nat → Nat → Option Nat) (ci a : Nat) {k : Nat} (hk : k < zN ci) : (zfs FI FR ci a)[k]? = some (if zR ci k = true then va_rf (FR ci k a) else .int (J (FI ci k a))) := by
  simp [zfs, hk]
theorem zfs_congr {FI FI' : Nat → Nat → Nat → Int} {FR FR' : Nat → Nat → Nat → Option Nat} {ci a : Nat} (h1 : ∀ k, FI' ci k a = FI ci k a) (h2 : ∀ k, FR' ci k a = FR ci k a) : zfs FI' FR' ci a = zfs FI FR ci a := by
  simp only [zfs, h1, h2]
theorem zfs_setI {FI : Nat → Nat → Nat → Int} {FR : Nat → Nat → Nat → Option Nat} {ci a k : Nat} {v : Int} (hr : zR ci k = false) : zfs (u3 FI ci k a v) FR ci a = (zfs FI FR ci a).set k (.int (J v)) := by
  apply List.ext_getElem?
  intro i
  rw [List.getElem?_set]
  by_cases hi : i < zN ci
  · rw [zfs_at _ _ _ _ hi, zfs_at _ _ _ _ hi, zfs_len]
    by_cases h : k = i
    · subst h
      simp [hr, u3_s, hi]
    · rw [if_neg h, u3_k _ _ _ _ _ _ _ (fun e => h e.symm)]
  · rw [List.getElem?_eq_none (by rw [zfs_len]; omega), List.getElem?_eq_none (by rw [zfs_len]; omega), zfs_len]
    by_cases h : k = i
    · subst h
      simp [hi]
    · rw [if_neg h]
theorem zfs_setR {FI : Nat → Nat → Nat → Int} {FR : Nat → Nat → Nat → Option Nat} {ci a k : Nat} {v : Option Nat} (hr : zR ci k = true) : zfs FI (u3 FR ci k a v) ci a = (zfs FI FR ci a).set k (va_rf v) := by
  apply List.ext_getElem?
  intro i
  rw [List.getElem?_set]
  by_cases hi : i < zN ci
  · rw [zfs_at _ _ _ _ hi, zfs_at _ _ _ _ hi, zfs_len]
    by_cases h : k = i
    · subst h
      simp [hr, u3_s, hi]
    · rw [if_neg h, u3_k _ _ _ _ _ _ _ (fun e => h e.symm)]
  · rw [List.getElem?_eq_none (by rw [zfs_len]; omega), List.getElem?_eq_none (by rw [zfs_len]; omega), zfs_len]
    by_cases h : k = i
    · subst h
      simp [hi]
    · rw [if_neg h]
/-- what an array's cell holds, by its kind: 20 int, 21 boolean, 22 long, 23 Agent, 25 Object -/
def zar (A : Nat → Int → Int) (AR : Nat → Int → Option Nat) (t a : Nat) : (Nat → Int32) ⊕ (Nat → Int64) ⊕ (Nat → UInt32) ⊕ (Nat → UInt64) ⊕ (Nat → Option Nat) :=
  if t = 22 then .inr (.inl (fun j => L6 (A a (j : Int)))) else if t = 23 ∨ t = 25 then .inr (.inr (.inr (.inr (fun j => AR a (j : Int))))) else .inl (fun j => J (A a (j : Int)))
def zent (w : Wd) (μ : Mem) (a : Nat) (kd : Nat × Nat) : va_E := if kd.1 < 8 then .inr (kd.1, zfs μ.2.1 μ.2.2.1 kd.1 a) else .inl (wA w kd.1, kd.2, zar μ.2.2.2.1 μ.2.2.2.2.1 kd.1 a)
/-- a list's two cells: its object, and its array (hid: address, places, contents, changes) -/
abbrev Hid : Type := Nat × Nat × (Nat → Option Nat) × Int
def zli (w : Wd) (T : Nat → Option (Nat × Nat)) (L : List Nat) (h : Hid) (H : Heap) (a : Nat) : Prop :=
  va_at (wD w) zCl (a, .inr (7, [.int (J h.2.2.2), .ref h.1, .int (J (L.length : Int))])) H ∧
  ((h.1 = wE w ∧ L = []) ∨ (wb w ≤ h.1 ∧ T h.1 = none ∧ va_at (wD w) zCl (h.1, .inl (wA w 25, h.2.1, .inr (.inr (.inr (.inr h.2.2.1))))) H ∧ L.length ≤ h.2.1 ∧ 1 ≤ h.2.1 ∧ h.2.1 ≤ 100000 ∧ ∀ i, i < L.length → h.2.2.1 i = L[i]?))
def hHp (w : Wd) (μ : Mem) (H : Heap) : Prop := wb w ≤ H.size ∧ ∃ hid : Nat → Hid,
  (∀ (a : Nat) (kd : Nat × Nat), μ.1 a = some kd → wb w ≤ a ∧ (kd.1 ≠ 24 → va_at (wD w) zCl (a, zent w μ a kd) H) ∧ (kd.1 = 24 → zli w μ.1 (μ.2.2.2.2.2 a) (hid a) H a)) ∧
  (∀ (a b n m : Nat), μ.1 a = some (24, n) → μ.1 b = some (24, m) → (hid a).1 = (hid b).1 → wb w ≤ (hid a).1 → a = b)
def ztys (w : Wd) : List (ClassId × FieldType) := [(wA w 20, .int), (wA w 21, .int), (wA w 22, .int), (wA w 23, .object "Managetree$Agent"), (wA w 25, .object "java/lang/Object")]
def zA (w : Wd) : Nat → Prop := fun q => wb w ≤ q
def zStr : List (String × Nat × String) := [("Managetree", 219, "no such agent"), ("Managetree", 35, "number is not 0 to 9"), ("Managetree", 46, "the path has 4 numbers"), ("Managetree", 54, "no such place"), ("Managetree", 65, "no such kind"), ("Managetree", 225, "not 0 to 999"), ("Managetree", 71, "the path is empty"), ("Managetree", 84, "the agent has 20 other objects"), ("Managetree", 223, "there is no object"), ("Managetree", 123, "most is not 1 to 30"), ("Managetree", 132, "no such how"), ("Managetree", 140, "the agent has 10 other paths that are hidden or shown"), ("Managetree", 149, "the object is hidden"), ("Managetree", 168, "low is not 0 to 998, or high is not low + 1 to 999"), ("Managetree", 182, "minutes is not 1 to 1000"), ("Managetree", 185, "the clock would be above 100000"), ("Managetree", 221, "no such trap"), ("Managetree", 202, "no such port"), ("Managetree", 204, "no such other agent"), ("Managetree", 206, "both agents are the same")]
/-- what the world gives at every method's start -/
def wI (w : Wd) (U : State) : Prop :=
  (wl w).stackTraces = false ∧ va_K (wD w) zCl (ztys w) U ∧
  va_AO "Managetree$Agent" U ∧ va_AO "java/lang/Object" U ∧ (∀ c ∈ OT, va_Nw c U) ∧
  va_Z "java/util/ArrayList" "DEFAULTCAPACITY_EMPTY_ELEMENTDATA" "[Ljava/lang/Object;" (.ref (wE w)) (zA w) U U.heap ∧
  (va_T (.object "java/lang/Object") (wE w) 0 (fun _ => .null) (zA w) U U.heap ∧ wE w < wb w) ∧
  vx_Zq Bundle.tN "UNASSIGNED_STACK" Bundle.steD (zA w) U U.heap ∧ vx_Zq Bundle.tN "SUPPRESSED_SENTINEL" Bundle.listD (zA w) U U.heap ∧
  va_Mi "[Ljava/lang/Object;" (wM w) U ∧ va_Dc U ∧ (∀ q ∈ zStr, ∃ sa : Nat, vk_R q.1 q.2.1 q.2.2 sa U)
theorem wI_moved {w : Wd} {s U : State} {H : Heap} {locs : List Loc} (h : wI w s) (hS : va_S (zA w) s.heap H locs) (hU : U.heap = H) (hW : s.WarmedH U.vm) : wI w U := by
  obtain ⟨h1, h2, h3, h4, h5, h6, ⟨h7, h8⟩, h9, h10, h11, h12, h13⟩ := h
  have hq : ∀ a : Nat, a < s.heap.size → ¬ zA w a → U.heap[a]? = s.heap[a]? := fun a g1 g2 => by rw [hU]; exact hS.2.1 a g1 g2
  have hv := hW.alike
  refine ⟨h1, va_K.moved hv h2, va_AO.moved hv h3, va_AO.moved hv h4, fun c hc => zo_warm (List.mem_filter.mp hc).2 hW (h5 c hc), va_Z.moved hv (h6.kept hq), ⟨va_T.moved hv (h7.kept hq), h8⟩, vx_Zq.moved hv (h9.kept hq), vx_Zq.moved hv (h10.kept hq), va_Mi.moved hv h11, va_Dc.moved hv h12, fun q hq2 => ?_⟩
  obtain ⟨sa, hsa⟩ := h13 q hq2
  exact ⟨sa, vk_R.warm hW hsa⟩
