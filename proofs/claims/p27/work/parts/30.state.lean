/-! WHAT THE CALLS DO: a state of plain numbers and lists, beside the class's and the reference's cells. A path is the class's int. -/
abbrev Smp : Type := Int × Int × Int
/-- an object: kind, value, marks (low, high, armed), the sample before and the last sample (minute, value, restarts) -/
abbrev Ob : Type := Int × Int × Option (Int × Int × Int) × Option Smp × Option Smp
/-- a trap: agent, path, minute, repeats -/
abbrev Trp : Type := Int × Int × Int × Int
/-- the path, the clock, the paths with an object, the objects, the rules, how many, the restarts, the neighbours, the traps -/
abbrev Sg : Type := Int × Int × (Nat → List Int) × (Nat → Int → Ob) × (Nat → Int → Int) × (Nat → Int) × (Nat → Int) × (Nat → Int → Int) × List Trp
abbrev Rs : Type := Int × Int × Sg
def inA (a : Int) : Prop := 0 ≤ a ∧ a ≤ 3
def okK (p : Int) : Prop := (0 ≤ p ∧ p < 65536) ∧ (hA p 0 ≤ 10 ∧ hA p 1 ≤ 10 ∧ hA p 2 ≤ 10 ∧ hA p 3 ≤ 10) ∧ (hA p 0 = 0 → hA p 1 = 0) ∧ (hA p 1 = 0 → hA p 2 = 0) ∧ (hA p 2 = 0 → hA p 3 = 0)
def okO (N clk : Int) (o : Ob) : Prop := (o.1 = 0 ∨ o.1 = 1) ∧ (0 ≤ o.2.1 ∧ o.2.1 ≤ 999) ∧ (∀ lo hi ar, o.2.2.1 = some (lo, hi, ar) → 0 ≤ lo ∧ lo < hi ∧ hi ≤ 999 ∧ (ar = 0 ∨ ar = 1)) ∧ (∀ e : Smp, o.2.2.2.1 = some e → (0 ≤ e.1 ∧ e.1 ≤ clk) ∧ (0 ≤ e.2.1 ∧ e.2.1 ≤ 999) ∧ (0 ≤ e.2.2 ∧ e.2.2 ≤ N)) ∧ (∀ e : Smp, o.2.2.2.2 = some e → (0 ≤ e.1 ∧ e.1 ≤ clk) ∧ (0 ≤ e.2.1 ∧ e.2.1 ≤ 999) ∧ (0 ≤ e.2.2 ∧ e.2.2 ≤ N)) ∧ (∀ e : Smp, o.2.2.2.1 = some e → ∃ f : Smp, o.2.2.2.2 = some f ∧ e.1 ≤ f.1)
def okJ (N clk : Int) (j : Nat) (dm : List Int) (ob : Int → Ob) (ru : Int → Int) (rn rs : Int) (nb : Int → Int) : Prop := dm.Nodup ∧ dm.length ≤ 20 ∧ (∀ k ∈ dm, okK k ∧ okO N clk (ob k)) ∧ (∀ k, (0 ≤ ru k ∧ ru k ≤ 2) ∧ (ru k ≠ 0 → okK k)) ∧ (0 ≤ rn ∧ rn ≤ 10) ∧ (0 ≤ rs ∧ rs ≤ N) ∧ (∀ t, -1 ≤ nb t ∧ nb t ≤ 3) ∧ (∀ t, 0 ≤ t → t < 4 → nb t ≠ (j : Int))
def okT (N clk : Int) (tr : List Trp) : Prop := (tr.length : Int) ≤ N ∧ ∀ x ∈ tr, inA x.1 ∧ okK x.2.1 ∧ (0 ≤ x.2.2.1 ∧ x.2.2.1 ≤ clk) ∧ (0 ≤ x.2.2.2 ∧ x.2.2.2 ≤ N)
/-- a state that N calls can leave -/
def okS (N : Int) (s : Sg) : Prop := match s with
  | (q, clk, dm, ob, ru, rn, rs, nb, tr) => (0 ≤ N ∧ N ≤ 512) ∧ okK q ∧ (0 ≤ clk ∧ clk ≤ 100000) ∧ (∀ j, j < 4 → okJ N clk j (dm j) (ob j) (ru j) (rn j) (rs j) (nb j)) ∧ okT N clk tr
/-! the calls -/
def hidL (ru : Int → Int) (p : Int) : Nat → Bool
  | 0 => false
  | f + 1 => if ru (hd16 p f) ≠ 0 then decide (ru (hd16 p f) = 1) else hidL ru p f
def hidK (ru : Int → Int) (p : Int) : Bool := hidL ru p 5
theorem hidK_of {R P : Int → Int} {ru : Int → Int} (h : ∀ k, rlF R P k 10 0 = ru k) (p : Int) : hid16 R P p = hidK ru p := by
  have K : ∀ f, hidF R P p f = hidL ru p f := by
    intro f
    induction f with
    | zero => rfl
    | succ f ih => rw [hidF, hidL, h, ih]
  exact K 5
/-- the smallest path behind q that f allows -/
def nxt (f : Int → Bool) (q : Int) : List Int → Option Int
  | [] => none
  | k :: l => if q < k ∧ f k = true then (match nxt f q l with
    | none => some k
    | some z => if k < z then some k else some z) else nxt f q l
theorem nxt_none {f : Int → Bool} {q : Int} : ∀ {l : List Int}, (∀ k ∈ l, ¬ (q < k ∧ f k = true)) → nxt f q l = none
  | [], _ => rfl
  | k :: l, h => by
    rw [nxt, if_neg (h k List.mem_cons_self)]
    exact nxt_none (fun z hz => h z (List.mem_cons_of_mem _ hz))
theorem nxt_some {f : Int → Bool} {q r : Int} : ∀ {l : List Int}, r ∈ l → q < r → f r = true → (∀ z ∈ l, q < z → f z = true → r ≤ z) → nxt f q l = some r
  | [], h, _, _, _ => by cases h
  | k :: l, h, h1, h2, h3 => by
    by_cases hr : r ∈ l
    · have ih := nxt_some hr h1 h2 (fun z hz => h3 z (List.mem_cons_of_mem _ hz))
      rw [nxt, ih]
      split
      · rename_i hk
        have := h3 k List.mem_cons_self hk.1 hk.2
        by_cases hkr : k < r
        · omega
        · show (if k < r then _ else _) = _
          rw [if_neg hkr]
      · rfl
    · have hrk : r = k := by
        rcases List.mem_cons.mp h with h | h
        · exact h
        · exact absurd h hr
      subst hrk
      rw [nxt, if_pos ⟨h1, h2⟩]
      cases hn : nxt f q l with
      | none => rfl
      | some z =>
        show (if r < z then some r else some z) = some r
        have hz : ∀ {l : List Int} {z : Int}, nxt f q l = some z → z ∈ l ∧ q < z ∧ f z = true := by
          intro l
          induction l with
          | nil => intro z h; cases h
          | cons c l ih =>
            intro z h
            rw [nxt] at h
            split at h
            · rename_i hc
              cases hn2 : nxt f q l with
              | none =>
                rw [hn2] at h
                cases h
                exact ⟨List.mem_cons_self, hc⟩
              | some y =>
                rw [hn2] at h
                have h' : (if c < y then some c else some y) = some z := h
                split at h'
                · cases h'
                  exact ⟨List.mem_cons_self, hc⟩
                · cases h'
                  exact ⟨List.mem_cons_of_mem _ (ih hn2).1, (ih hn2).2⟩
            · exact ⟨List.mem_cons_of_mem _ (ih h).1, (ih h).2⟩
        obtain ⟨z1, z2, z3⟩ := hz hn
        have := h3 z (List.mem_cons_of_mem _ z1) z2 z3
        by_cases hrz : r < z
        · rw [if_pos hrz]
        · rw [if_neg hrz, show z = r by omega]
/-- the last trap of agent a at path p, of the first n -/
def lst (tr : List Trp) (a p : Int) : Nat → Option Nat
  | 0 => none
  | n + 1 => match tr[n]? with
    | none => lst tr a p n
    | some x => if x.1 = a ∧ x.2.1 = p then some n else lst tr a p n
theorem lst_none {tr : List Trp} {a p : Int} : ∀ {n : Nat}, (∀ i x, i < n → tr[i]? = some x → ¬ (x.1 = a ∧ x.2.1 = p)) → lst tr a p n = none
  | 0, _ => rfl
  | n + 1, h => by
    have ih := lst_none (n := n) (fun i x hi => h i x (by omega))
    rw [lst]
    cases hx : tr[n]? with
    | none => exact ih
    | some x =>
      show (if _ then _ else _) = _
      rw [if_neg (h n x (by omega) hx)]
      exact ih
theorem lst_some {tr : List Trp} {a p : Int} {i : Nat} {x : Trp} (hx : tr[i]? = some x) (hm : x.1 = a ∧ x.2.1 = p) : ∀ {n : Nat}, i < n → (∀ j y, i < j → j < n → tr[j]? = some y → ¬ (y.1 = a ∧ y.2.1 = p)) → lst tr a p n = some i
  | 0, h, _ => absurd h (Nat.not_lt_zero _)
  | n + 1, h, hno => by
    rw [lst]
    by_cases hi : i = n
    · subst hi
      rw [hx]
      show (if _ then _ else _) = _
      rw [if_pos hm]
    · have ih := lst_some hx hm (n := n) (by omega) (fun j y h1 h2 => hno j y h1 (by omega))
      cases hy : tr[n]? with
      | none => exact ih
      | some y =>
        show (if _ then _ else _) = _
        rw [if_neg (hno n y (by omega) (by omega) hy)]
        exact ih
/-- a trap is sent, or its last one repeated -/
def sndT (clk a p : Int) (tr : List Trp) : List Trp := match lst tr a p tr.length with
  | none => tr ++ [(a, p, clk, 0)]
  | some i => match tr[i]? with
    | none => tr
    | some x => if clk - x.2.2.1 < 10 then tr.set i (x.1, x.2.1, x.2.2.1, x.2.2.2 + 1) else tr ++ [(a, p, clk, 0)]
def frs (o : Ob) (v : Int) : Bool := match o.2.2.1 with
  | none => false
  | some (_, hi, ar) => decide (ar ≠ 0 ∧ hi ≤ v)
/-- the object with the value v, its marks looked at -/
def hasO (o : Ob) (v : Int) : Ob := (o.1, v, (match o.2.2.1 with
  | none => none
  | some (lo, hi, ar) => some (lo, hi, if frs o v = true then 0 else if v ≤ lo then 1 else ar)), o.2.2.2)
def vK (dm : List Int) (ob : Int → Ob) (q : Int) : Int := if q ∈ dm then (ob q).2.1 else -1
def uO (f : Nat → Int → Ob) (j : Nat) (k : Int) (o : Ob) : Nat → Int → Ob := u1 f j (uI (f j) k o)
def pw16 (l : Int) : Int := if l = 0 then 4096 else if l = 1 then 256 else if l = 2 then 16 else 1
def spWrite (n : Int) (s : Sg) : Rs := if n < 0 ∨ 9 < n then (1, 0, s) else if ln16 s.1 = 4 then (2, 0, s) else (0, ln16 s.1 + 1, s.1 + (n + 1) * pw16 (ln16 s.1), s.2)
def spWipe (s : Sg) : Rs := (0, ln16 s.1, 0, s.2)
def spNum (i : Int) (s : Sg) : Rs := if 0 ≤ i ∧ i ≤ 3 then (0, hA s.1 i - 1, s) else (1, 0, s)
theorem inA_dec (a : Int) : inA a ∨ ¬ inA a := by unfold inA; omega
def spPut (a k v : Int) : Sg → Rs
  | (q, clk, dm, ob, ru, rn, rs, nb, tr) => if ¬ (0 ≤ a ∧ a ≤ 3) ∨ ¬ (k = 0 ∨ k = 1) then (1, 0, q, clk, dm, ob, ru, rn, rs, nb, tr) else if ¬ (0 ≤ v ∧ v ≤ 999) then (2, 0, q, clk, dm, ob, ru, rn, rs, nb, tr) else if q = 0 ∨ (q ∉ dm a.toNat ∧ 20 ≤ (dm a.toNat).length) then (3, 0, q, clk, dm, ob, ru, rn, rs, nb, tr) else (0, vK (dm a.toNat) (ob a.toNat) q, q, clk, u1 dm a.toNat (q :: (dm a.toNat).filter (fun z => !decide (z = q))), uO ob a.toNat q (k, v, none, none, none), ru, rn, rs, nb, tr)
def spRemove (a : Int) : Sg → Rs
  | (q, clk, dm, ob, ru, rn, rs, nb, tr) => if ¬ (0 ≤ a ∧ a ≤ 3) then (1, 0, q, clk, dm, ob, ru, rn, rs, nb, tr) else (0, vK (dm a.toNat) (ob a.toNat) q, q, clk, u1 dm a.toNat ((dm a.toNat).filter (fun z => !decide (z = q))), ob, ru, rn, rs, nb, tr)
def chV (o : Ob) (m : Int) : Int := if o.1 = 1 then (o.2.1 + m) % 1000 else m
def spChange (a m : Int) : Sg → Rs
  | (q, clk, dm, ob, ru, rn, rs, nb, tr) => if ¬ (0 ≤ a ∧ a ≤ 3) then (1, 0, q, clk, dm, ob, ru, rn, rs, nb, tr) else if ¬ (0 ≤ m ∧ m ≤ 999) then (2, 0, q, clk, dm, ob, ru, rn, rs, nb, tr) else if q ∉ dm a.toNat then (3, 0, q, clk, dm, ob, ru, rn, rs, nb, tr) else (0, chV (ob a.toNat q) m, q, clk, dm, uO ob a.toNat q (hasO (ob a.toNat q) (chV (ob a.toNat q) m)), ru, rn, rs, nb, if frs (ob a.toNat q) (chV (ob a.toNat q) m) = true then sndT clk a q tr else tr)
def spGet (a : Int) : Sg → Rs
  | (q, clk, dm, ob, ru, rn, rs, nb, tr) => if ¬ (0 ≤ a ∧ a ≤ 3) then (1, 0, q, clk, dm, ob, ru, rn, rs, nb, tr) else (0, if hidK (ru a.toNat) q = true then -1 else vK (dm a.toNat) (ob a.toNat) q, q, clk, dm, ob, ru, rn, rs, nb, tr)
def nx (dm : List Int) (ru : Int → Int) (q : Int) : Option Int := nxt (fun k => !hidK ru k) q dm
def vO (ob : Int → Ob) : Option Int → Int
  | none => -1
  | some k => (ob k).2.1
def spNext (a : Int) : Sg → Rs
  | (q, clk, dm, ob, ru, rn, rs, nb, tr) => if ¬ (0 ≤ a ∧ a ≤ 3) then (1, 0, q, clk, dm, ob, ru, rn, rs, nb, tr) else (0, vO (ob a.toNat) (nx (dm a.toNat) (ru a.toNat) q), (nx (dm a.toNat) (ru a.toNat) q).getD q, clk, dm, ob, ru, rn, rs, nb, tr)
/-- at most f steps on from q, n made before: how many, and where -/
def blk (dm : List Int) (ru : Int → Int) : Nat → Int → Int → Int × Int
  | 0, n, q => (n, q)
  | f + 1, n, q => match nx dm ru q with
    | none => (n, q)
    | some k => blk dm ru f (n + 1) k
def spBulk (a m : Int) : Sg → Rs
  | (q, clk, dm, ob, ru, rn, rs, nb, tr) => if ¬ (0 ≤ a ∧ a ≤ 3) then (1, 0, q, clk, dm, ob, ru, rn, rs, nb, tr) else if ¬ (1 ≤ m ∧ m ≤ 30) then (2, 0, q, clk, dm, ob, ru, rn, rs, nb, tr) else (0, (blk (dm a.toNat) (ru a.toNat) m.toNat 0 q).1, (blk (dm a.toNat) (ru a.toNat) m.toNat 0 q).2, clk, dm, ob, ru, rn, rs, nb, tr)
def spSort (a : Int) : Sg → Rs
  | (q, clk, dm, ob, ru, rn, rs, nb, tr) => if ¬ (0 ≤ a ∧ a ≤ 3) then (1, 0, q, clk, dm, ob, ru, rn, rs, nb, tr) else (0, vO (ob a.toNat) (nx (dm a.toNat) (ru a.toNat) q), q, clk, dm, ob, ru, rn, rs, nb, tr)
def nz (v : Int) : Int := if v ≠ 0 then 1 else 0
def spHide (a h : Int) : Sg → Rs
  | (q, clk, dm, ob, ru, rn, rs, nb, tr) => if ¬ (0 ≤ a ∧ a ≤ 3) ∨ ¬ (0 ≤ h ∧ h ≤ 2) then (1, 0, q, clk, dm, ob, ru, rn, rs, nb, tr) else if ru a.toNat q = 0 ∧ h ≠ 0 ∧ 10 ≤ rn a.toNat then (2, 0, q, clk, dm, ob, ru, rn, rs, nb, tr) else (0, ru a.toNat q, q, clk, dm, ob, u1 ru a.toNat (uI (ru a.toNat) q h), u1 rn a.toNat (rn a.toNat + nz h - nz (ru a.toNat q)), rs, nb, tr)
def spSeen (a : Int) : Sg → Rs
  | (q, clk, dm, ob, ru, rn, rs, nb, tr) => if ¬ (0 ≤ a ∧ a ≤ 3) then (1, 0, q, clk, dm, ob, ru, rn, rs, nb, tr) else (0, (((dm a.toNat).countP (fun k => !hidK (ru a.toNat) k) : Nat) : Int), q, clk, dm, ob, ru, rn, rs, nb, tr)
def smpO (o : Ob) (clk r : Int) : Ob := (o.1, o.2.1, o.2.2.1, o.2.2.2.2, some (clk, o.2.1, r))
def spSample (a : Int) : Sg → Rs
  | (q, clk, dm, ob, ru, rn, rs, nb, tr) => if ¬ (0 ≤ a ∧ a ≤ 3) then (1, 0, q, clk, dm, ob, ru, rn, rs, nb, tr) else if q ∉ dm a.toNat ∨ hidK (ru a.toNat) q = true then (2, 0, q, clk, dm, ob, ru, rn, rs, nb, tr) else (0, (ob a.toNat q).2.1, q, clk, dm, uO ob a.toNat q (smpO (ob a.toNat q) clk (rs a.toNat)), ru, rn, rs, nb, tr)
def rtO (e f : Option Smp) : Int := match e, f with
  | some a, some b => if a.2.2 = b.2.2 then (if b.1 - a.1 ≤ 0 then -1 else (if b.2.1 - a.2.1 < 0 then (b.2.1 - a.2.1 + 1000) * 60 / (b.1 - a.1) else (b.2.1 - a.2.1) * 60 / (b.1 - a.1))) else -1
  | _, _ => -1
def spRate (a : Int) : Sg → Rs
  | (q, clk, dm, ob, ru, rn, rs, nb, tr) => if ¬ (0 ≤ a ∧ a ≤ 3) then (1, 0, q, clk, dm, ob, ru, rn, rs, nb, tr) else if q ∉ dm a.toNat then (2, 0, q, clk, dm, ob, ru, rn, rs, nb, tr) else (0, if (ob a.toNat q).1 = 1 then rtO (ob a.toNat q).2.2.2.1 (ob a.toNat q).2.2.2.2 else -1, q, clk, dm, ob, ru, rn, rs, nb, tr)
def mrkO (o : Ob) (lo hi : Int) : Ob := (o.1, o.2.1, some (lo, hi, 1), o.2.2.2)
def spMarks (a lo hi : Int) : Sg → Rs
  | (q, clk, dm, ob, ru, rn, rs, nb, tr) => if ¬ (0 ≤ a ∧ a ≤ 3) then (1, 0, q, clk, dm, ob, ru, rn, rs, nb, tr) else if lo < 0 ∨ 999 ≤ lo ∨ hi ≤ lo ∨ 999 < hi then (2, 0, q, clk, dm, ob, ru, rn, rs, nb, tr) else if q ∉ dm a.toNat then (3, 0, q, clk, dm, ob, ru, rn, rs, nb, tr) else (0, 0, q, clk, dm, uO ob a.toNat q (mrkO (ob a.toNat q) lo hi), ru, rn, rs, nb, tr)
/-- after a restart: a counter is 0, and its marks armed -/
def rstO (o : Ob) : Ob := if o.1 = 1 then hasO o 0 else o
def spRestart (a : Int) : Sg → Rs
  | (q, clk, dm, ob, ru, rn, rs, nb, tr) => if ¬ (0 ≤ a ∧ a ≤ 3) then (1, 0, q, clk, dm, ob, ru, rn, rs, nb, tr) else (0, rs a.toNat + 1, q, clk, dm, u1 ob a.toNat (fun k => rstO (ob a.toNat k)), ru, rn, u1 rs a.toNat (rs a.toNat + 1), nb, tr)
def spPass (m : Int) : Sg → Rs
  | (q, clk, r) => if m < 1 ∨ 1000 < m then (1, 0, q, clk, r) else if 100000 < clk + m then (2, 0, q, clk, r) else (0, clk + m, q, clk + m, r)
def spTraps : Sg → Rs
  | (q, clk, dm, ob, ru, rn, rs, nb, tr) => (0, (tr.length : Int), q, clk, dm, ob, ru, rn, rs, nb, tr)
/-- what a call tells of the trap t -/
def spTold (f : Trp → Int) (t : Int) : Sg → Rs
  | (q, clk, dm, ob, ru, rn, rs, nb, tr) => if 0 ≤ t ∧ t < (tr.length : Int) then (0, (match tr[t.toNat]? with | none => 0 | some x => f x), q, clk, dm, ob, ru, rn, rs, nb, tr) else (1, 0, q, clk, dm, ob, ru, rn, rs, nb, tr)
def spNb (a p o : Int) : Sg → Rs
  | (q, clk, dm, ob, ru, rn, rs, nb, tr) => if ¬ (0 ≤ a ∧ a ≤ 3) ∨ ¬ (0 ≤ p ∧ p ≤ 3) ∨ ¬ (-1 ≤ o ∧ o ≤ 3) then (1, 0, q, clk, dm, ob, ru, rn, rs, nb, tr) else if a = o then (2, 0, q, clk, dm, ob, ru, rn, rs, nb, tr) else (0, nb a.toNat p, q, clk, dm, ob, ru, rn, rs, u1 nb a.toNat (uI (nb a.toNat) p o), tr)
/-- whether agent i names j -/
def nmS (nb : Nat → Int → Int) (i j : Nat) : Bool := nbF (nb i) (j : Int) 4 0
def spReach (a : Int) : Sg → Rs
  | (q, clk, dm, ob, ru, rn, rs, nb, tr) => if ¬ (0 ≤ a ∧ a ≤ 3) then (1, 0, q, clk, dm, ob, ru, rn, rs, nb, tr) else (0, wl3 (nmS nb) (wl3 (nmS nb) (wl3 (nmS nb) ((2 ^ a.toNat : Nat) : Int))), q, clk, dm, ob, ru, rn, rs, nb, tr)
def hf (ln : Nat → Nat → Bool) (i j : Nat) : Int := if ln i j = ln j i then 0 else 1
def spHalves : Sg → Rs
  | (q, clk, dm, ob, ru, rn, rs, nb, tr) => (0, hf (nmS nb) 0 1 + hf (nmS nb) 0 2 + hf (nmS nb) 0 3 + hf (nmS nb) 1 2 + hf (nmS nb) 1 3 + hf (nmS nb) 2 3, q, clk, dm, ob, ru, rn, rs, nb, tr)
