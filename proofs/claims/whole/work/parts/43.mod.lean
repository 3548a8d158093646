/-! THE REFERENCE: its cells at the addresses of M (M 0 the object, M k what its field k holds), their contents A k i, and its four numbers: thrown, clock, path, traps -/
def mA (k : Nat) : Bool := Nat.ble 3 k && Nat.blt k 24 && !Nat.beq k 18
def mln (k : Nat) : Nat := match k with
  | 3 => 4
  | 11 => 160
  | 12 => 160
  | 13 => 160
  | 14 => 4
  | 15 => 4
  | 16 => 40
  | 17 => 40
  | 19 => 1024
  | 20 => 1024
  | 21 => 1024
  | 22 => 1024
  | 23 => 16
  | _ => 80
def mdS (μ : Mem) (M : Nat → Nat) : Prop := μ.1 (M 0) = some (6, 0) ∧ (∀ k, mA k = true → μ.1 (M k) = some (if k = 9 then 21 else 20, mln k) ∧ μ.2.2.1 6 k (M 0) = some (M k)) ∧ ∀ k k', mA k = true → mA k' = true → M k = M k' → k = k'
def mS (μ : Mem) (M : Nat → Nat) (t c p n : Int) (A : Nat → Int → Int) : Prop := mdS μ M ∧ μ.2.1 6 0 (M 0) = t ∧ μ.2.1 6 1 (M 0) = c ∧ μ.2.1 6 2 (M 0) = p ∧ μ.2.1 6 18 (M 0) = n ∧ ∀ k, mA k = true → μ.2.2.2.1 (M k) = A k
/-- nothing else changed -/
def Fm (μ μ' : Mem) (M : Nat → Nat) : Prop := μ'.1 = μ.1 ∧ ∀ a, a ≠ M 0 → (∀ k, mA k = true → a ≠ M k) → sm μ μ' a
theorem Fm_rf (μ : Mem) (M : Nat → Nat) : Fm μ μ M := ⟨rfl, fun a _ _ => sm_rf μ a⟩
theorem Fm_tr {μ μ' μ2 : Mem} {M : Nat → Nat} (h : Fm μ μ' M) (h2 : Fm μ' μ2 M) : Fm μ μ2 M := ⟨h2.1.trans h.1, fun a a0 ak => sm_tr (h.2 a a0 ak) (h2.2 a a0 ak)⟩
theorem mS_I {μ : Mem} {M : Nat → Nat} {t c p n : Int} {A : Nat → Int → Int} (h : mS μ M t c p n A) (v : Int) : mS (sI μ 6 0 (M 0) v) M v c p n A ∧ mS (sI μ 6 1 (M 0) v) M t v p n A ∧ mS (sI μ 6 2 (M 0) v) M t c v n A ∧ mS (sI μ 6 18 (M 0) v) M t c p v A := by
  obtain ⟨h1, h2, h3, h4, h5, h6⟩ := h
  exact ⟨⟨h1, sI_s, (sI_k 6 _ (by decide)).trans h3, (sI_k 6 _ (by decide)).trans h4, (sI_k 6 _ (by decide)).trans h5, h6⟩, ⟨h1, (sI_k 6 _ (by decide)).trans h2, sI_s, (sI_k 6 _ (by decide)).trans h4, (sI_k 6 _ (by decide)).trans h5, h6⟩, ⟨h1, (sI_k 6 _ (by decide)).trans h2, (sI_k 6 _ (by decide)).trans h3, sI_s, (sI_k 6 _ (by decide)).trans h5, h6⟩, ⟨h1, (sI_k 6 _ (by decide)).trans h2, (sI_k 6 _ (by decide)).trans h3, (sI_k 6 _ (by decide)).trans h4, sI_s, h6⟩⟩
theorem mS_A {μ : Mem} {M : Nat → Nat} {t c p n : Int} {A : Nat → Int → Int} (h : mS μ M t c p n A) {k : Nat} (hk : mA k = true) (i v : Int) : mS (sA μ (M k) i v) M t c p n (u2 A k i v) := by
  obtain ⟨h1, h2, h3, h4, h5, h6⟩ := h
  refine ⟨h1, h2, h3, h4, h5, fun k' hk' => ?_⟩
  by_cases hkk : k' = k
  · subst hkk
    show u2 μ.2.2.2.1 (M k') i v (M k') = u2 A k' i v k'
    rw [u2_e, u2_e, h6 k' hk']
  · show u2 μ.2.2.2.1 (M k) i v (M k') = u2 A k i v k'
    rw [u2_af _ _ _ (fun e => hkk (h1.2.2 k' k hk' hk e)), u2_af _ _ _ hkk]
    exact h6 k' hk'
theorem Fm_I {μ0 μ : Mem} {M : Nat → Nat} (h : Fm μ0 μ M) (k : Nat) (v : Int) : Fm μ0 (sI μ 6 k (M 0) v) M := Fm_tr h ⟨rfl, fun a a0 _ => sm_I a0⟩
theorem Fm_A {μ0 μ : Mem} {M : Nat → Nat} (h : Fm μ0 μ M) {k : Nat} (hk : mA k = true) (i v : Int) : Fm μ0 (sA μ (M k) i v) M := Fm_tr h ⟨rfl, fun a _ ak => sm_A (ak k hk)⟩
section ZM
variable {w : Wd} {x : Zc} {cc : ByteArray} {nL pc : Nat} {own : String} {rt : Option FieldType} {rm : Room} {nm : String} {ls : List (Nat × Value)} {st : List Value} {μ μ0 : Mem} {k n : Nat} {Q : State → Prop} {M : Nat → Nat} {t c p nn : Int} {A : Nat → Int → Int}
theorem z_mgf (C : Cx w x cc nL own rt rm nm) (hm : mS μ M t c p nn A) {f i : Nat} (hf : zFL own i 6 f) (d : decode cc pc = .ok (.getfield i, 3)) (kk : Z w x Q nL (pc + 3) ls (.ref (M f) :: st) μ k n) (ha : mA f = true := by rfl) (hr : zR 6 f = true := by rfl) : Z w x Q nL pc ls (.ref (M 0) :: st) μ k n := z_getr C (M f) hf d hm.1.1 (hm.1.2.1 f ha).2 kk (by decide) hr
theorem z_mg0 (C : Cx w x cc nL own rt rm nm) (hm : mS μ M t c p nn A) {i : Nat} (hf : zFL own i 6 0) (d : decode cc pc = .ok (.getfield i, 3)) (kk : Z w x Q nL (pc + 3) ls (.int (J t) :: st) μ k n) : Z w x Q nL pc ls (.ref (M 0) :: st) μ k n := by
  refine z_geti C hf d hm.1.1 ?_
  rw [hm.2.1]
  exact kk
theorem z_mg1 (C : Cx w x cc nL own rt rm nm) (hm : mS μ M t c p nn A) {i : Nat} (hf : zFL own i 6 1) (d : decode cc pc = .ok (.getfield i, 3)) (kk : Z w x Q nL (pc + 3) ls (.int (J c) :: st) μ k n) : Z w x Q nL pc ls (.ref (M 0) :: st) μ k n := by
  refine z_geti C hf d hm.1.1 ?_
  rw [hm.2.2.1]
  exact kk
theorem z_mg2 (C : Cx w x cc nL own rt rm nm) (hm : mS μ M t c p nn A) {i : Nat} (hf : zFL own i 6 2) (d : decode cc pc = .ok (.getfield i, 3)) (kk : Z w x Q nL (pc + 3) ls (.int (J p) :: st) μ k n) : Z w x Q nL pc ls (.ref (M 0) :: st) μ k n := by
  refine z_geti C hf d hm.1.1 ?_
  rw [hm.2.2.2.1]
  exact kk
theorem z_mg18 (C : Cx w x cc nL own rt rm nm) (hm : mS μ M t c p nn A) {i : Nat} (hf : zFL own i 6 18) (d : decode cc pc = .ok (.getfield i, 3)) (kk : Z w x Q nL (pc + 3) ls (.int (J nn) :: st) μ k n) : Z w x Q nL pc ls (.ref (M 0) :: st) μ k n := by
  refine z_geti C hf d hm.1.1 ?_
  rw [hm.2.2.2.2.1]
  exact kk
theorem z_mp0 (C : Cx w x cc nL own rt rm nm) (hm : mS μ M t c p nn A) (hF : Fm μ0 μ M) {i : Nat} {v : Int} (hf : zFL own i 6 0) (d : decode cc pc = .ok (.putfield i, 3)) (kk : ∀ μ', mS μ' M v c p nn A → Fm μ0 μ' M → Z w x Q nL (pc + 3) ls st μ' k n) : Z w x Q nL pc ls (.int (J v) :: .ref (M 0) :: st) μ k n := z_puti C hf qW_6_0 d hm.1.1 (kk _ (mS_I hm v).1 (Fm_I hF 0 v))
theorem z_mp1 (C : Cx w x cc nL own rt rm nm) (hm : mS μ M t c p nn A) (hF : Fm μ0 μ M) {i : Nat} {v : Int} (hf : zFL own i 6 1) (d : decode cc pc = .ok (.putfield i, 3)) (kk : ∀ μ', mS μ' M t v p nn A → Fm μ0 μ' M → Z w x Q nL (pc + 3) ls st μ' k n) : Z w x Q nL pc ls (.int (J v) :: .ref (M 0) :: st) μ k n := z_puti C hf qW_6_1 d hm.1.1 (kk _ (mS_I hm v).2.1 (Fm_I hF 1 v))
theorem z_mp2 (C : Cx w x cc nL own rt rm nm) (hm : mS μ M t c p nn A) (hF : Fm μ0 μ M) {i : Nat} {v : Int} (hf : zFL own i 6 2) (d : decode cc pc = .ok (.putfield i, 3)) (kk : ∀ μ', mS μ' M t c v nn A → Fm μ0 μ' M → Z w x Q nL (pc + 3) ls st μ' k n) : Z w x Q nL pc ls (.int (J v) :: .ref (M 0) :: st) μ k n := z_puti C hf qW_6_2 d hm.1.1 (kk _ (mS_I hm v).2.2.1 (Fm_I hF 2 v))
theorem z_mp18 (C : Cx w x cc nL own rt rm nm) (hm : mS μ M t c p nn A) (hF : Fm μ0 μ M) {i : Nat} {v : Int} (hf : zFL own i 6 18) (d : decode cc pc = .ok (.putfield i, 3)) (kk : ∀ μ', mS μ' M t c p v A → Fm μ0 μ' M → Z w x Q nL (pc + 3) ls st μ' k n) : Z w x Q nL pc ls (.int (J v) :: .ref (M 0) :: st) μ k n := z_puti C hf qW_6_18 d hm.1.1 (kk _ (mS_I hm v).2.2.2 (Fm_I hF 18 v))
theorem mln_le (f : Nat) : mln f ≤ 1024 := by
  unfold mln
  split <;> decide
theorem z_mld (C : Cx w x cc nL own rt rm nm) (hm : mS μ M t c p nn A) {f : Nat} {i : Int} (d : decode cc pc = .ok (.iaload, 1)) (hi : 0 ≤ i ∧ i < ((mln f : Nat) : Int)) (kk : Z w x Q nL (pc + 1) ls (.int (J (A f i)) :: st) μ k n) (ha : mA f = true := by rfl) (h9 : f ≠ 9 := by decide) : Z w x Q nL pc ls (.int (J i) :: .ref (M f) :: st) μ k n := by
  have hT := (hm.1.2.1 f ha).1
  rw [if_neg h9] at hT
  have := mln_le f
  refine z_iaload C d hT ⟨hi.1, hi.2, by omega⟩ ?_
  rw [hm.2.2.2.2.2 f ha]
  exact kk
theorem z_mldb (C : Cx w x cc nL own rt rm nm) (hm : mS μ M t c p nn A) {i : Int} (d : decode cc pc = .ok (.baload, 1)) (hi : 0 ≤ i ∧ i < ((mln 9 : Nat) : Int)) (kk : Z w x Q nL (pc + 1) ls (.int (J (A 9 i)) :: st) μ k n) : Z w x Q nL pc ls (.int (J i) :: .ref (M 9) :: st) μ k n := by
  have hT := (hm.1.2.1 9 rfl).1
  rw [if_pos rfl] at hT
  have := mln_le 9
  refine z_baload C d hT ⟨hi.1, hi.2, by omega⟩ ?_
  rw [hm.2.2.2.2.2 9 rfl]
  exact kk
theorem z_mst (C : Cx w x cc nL own rt rm nm) (hm : mS μ M t c p nn A) (hF : Fm μ0 μ M) {f : Nat} {i v : Int} (d : decode cc pc = .ok (.iastore, 1)) (hi : 0 ≤ i ∧ i < ((mln f : Nat) : Int)) (kk : ∀ μ', mS μ' M t c p nn (u2 A f i v) → Fm μ0 μ' M → Z w x Q nL (pc + 1) ls st μ' k n) (ha : mA f = true := by rfl) (h9 : f ≠ 9 := by decide) : Z w x Q nL pc ls (.int (J v) :: .int (J i) :: .ref (M f) :: st) μ k n := by
  have hT := (hm.1.2.1 f ha).1
  rw [if_neg h9] at hT
  have := mln_le f
  exact z_iastore C d hT ⟨hi.1, hi.2, by omega⟩ (kk _ (mS_A hm ha i v) (Fm_A hF ha i v))
theorem z_mstb (C : Cx w x cc nL own rt rm nm) (hm : mS μ M t c p nn A) (hF : Fm μ0 μ M) {i v : Int} (d : decode cc pc = .ok (.bastore, 1)) (hv : v = 0 ∨ v = 1) (hi : 0 ≤ i ∧ i < ((mln 9 : Nat) : Int)) (kk : ∀ μ', mS μ' M t c p nn (u2 A 9 i v) → Fm μ0 μ' M → Z w x Q nL (pc + 1) ls st μ' k n) : Z w x Q nL pc ls (.int (J v) :: .int (J i) :: .ref (M 9) :: st) μ k n := by
  have hT := (hm.1.2.1 9 rfl).1
  rw [if_pos rfl] at hT
  have := mln_le 9
  exact z_bastore C d hT ⟨hi.1, hi.2, by omega⟩ hv (kk _ (mS_A hm rfl i v) (Fm_A hF rfl i v))
end ZM
/-! its paths: to the base 11 -/
def k11 (p : Int) : Int := 1331 * hA p 0 + 121 * hA p 1 + 11 * hA p 2 + hA p 3
def un11 (i : Int) : Int := if i = 0 then 1331 else if i = 1 then 121 else if i = 2 then 11 else 1
theorem k11_in {p : Int} (h : okK p) : 0 ≤ k11 p ∧ k11 p ≤ 14640 := by
  obtain ⟨-, ⟨b1, b2, b3, b4⟩, -⟩ := h
  have := hA_in p 0
  have := hA_in p 1
  have := hA_in p 2
  have := hA_in p 3
  unfold k11
  omega
theorem k11_dig {p : Int} (h : okK p) {i : Int} (hi : 0 ≤ i ∧ i < 4) : k11 p / un11 i % 11 = hA p i := by
  obtain ⟨-, ⟨b1, b2, b3, b4⟩, -⟩ := h
  have := hA_in p 0
  have := hA_in p 1
  have := hA_in p 2
  have := hA_in p 3
  unfold k11 un11
  rcases (by omega : i = 0 ∨ i = 1 ∨ i = 2 ∨ i = 3) with rfl | rfl | rfl | rfl
  · simp; omega
  · simp; omega
  · simp; omega
  · simp; omega
theorem k11_mk {a b c d : Int} (ha : 0 ≤ a ∧ a ≤ 10) (hb : 0 ≤ b ∧ b ≤ 10) (hc : 0 ≤ c ∧ c ≤ 10) (hd : 0 ≤ d ∧ d ≤ 10) : k11 (mkp a b c d) = 1331 * a + 121 * b + 11 * c + d := by
  obtain ⟨e0, e1, e2, e3⟩ := mkp_hA ha hb hc hd
  unfold k11
  rw [e0, e1, e2, e3]
theorem k11_lt {p r : Int} (h : okK p) (h2 : okK r) : k11 p < k11 r ↔ p < r := by
  obtain ⟨a, b, c, d, ha, hb, hc, hd, -, -, -, rfl⟩ := okK_un h
  obtain ⟨a', b', c', d', ha', hb', hc', hd', -, -, -, rfl⟩ := okK_un h2
  rw [k11_mk ha hb hc hd, k11_mk ha' hb' hc' hd']
  unfold mkp
  by_cases e1 : a = a'
  · by_cases e2 : b = b'
    · by_cases e3 : c = c'
      · omega
      · omega
    · omega
  · omega
theorem k11_inj {p r : Int} (h : okK p) (h2 : okK r) : k11 p = k11 r ↔ p = r := by
  have h3 := k11_lt h h2
  have h4 := k11_lt h2 h
  omega
theorem c_unit (w : Wd) (μ : Mem) (i : Int) (hi : 0 ≤ i ∧ i < 4) : cM w yX6_unit cX6_unit 1 (some .int) 1 0 0 [.int (J i)] μ (fun v μ' => v = some (.int (J (un11 i))) ∧ μ' = μ) (fun _ _ => False) := by
  refine cM_of (fun x C => ?_)
  refine z_iload_n C dX6_unit_0 rfl ?_
  refine z_if_ne (tgt := 10) C dX6_unit_1 (by decide) (by omega) (fun g1 => ?_) (fun g1 => ?_)
  · refine z_iload_n C dX6_unit_10 rfl ?_
    refine z_iconst C dX6_unit_11 ?_
    refine z_icmp_ne (tgt := 20) C dX6_unit_12 (by decide) (by omega) (fun g2 => ?_) (fun g2 => ?_)
    · refine z_iload_n C dX6_unit_20 rfl ?_
      refine z_iconst C dX6_unit_21 ?_
      refine z_icmp_ne (tgt := 30) C dX6_unit_22 (by decide) (by omega) (fun g3 => ?_) (fun g3 => ?_)
      · refine z_iconst C dX6_unit_30 ?_
        exact z_iret C dX6_unit_31 ⟨by unfold un11; rw [if_neg g1, if_neg g2, if_neg g3], rfl⟩
      · refine z_bipush C dX6_unit_25 ?_
        refine z_goto (tgt := 31) C dX6_unit_27 (by decide) ?_
        exact z_iret C dX6_unit_31 ⟨by unfold un11; rw [if_neg g1, if_neg g2, if_pos g3], rfl⟩
    · refine z_bipush C dX6_unit_15 ?_
      refine z_goto (tgt := 31) C dX6_unit_17 (by decide) ?_
      exact z_iret C dX6_unit_31 ⟨by unfold un11; rw [if_neg g1, if_pos g2], rfl⟩
  · refine z_sipush C dX6_unit_4 ?_
    refine z_goto (tgt := 31) C dX6_unit_7 (by decide) ?_
    exact z_iret C dX6_unit_31 ⟨by unfold un11; rw [if_pos g1], rfl⟩
theorem un11_in (i : Int) : 0 < un11 i ∧ un11 i ≤ 1331 := by
  unfold un11
  split
  · omega
  split
  · omega
  split <;> omega
theorem c_digit (w : Wd) (μ : Mem) (p i : Int) (hp : okK p) (hi : 0 ≤ i ∧ i < 4) : cM w yX6_digit cX6_digit 2 (some .int) 2 0 0 [.int (J (k11 p)), .int (J i)] μ (fun v μ' => v = some (.int (J (hA p i))) ∧ μ' = μ) (fun _ _ => False) := by
  refine cM_of (fun x C => ?_)
  refine z_iload_n C dX6_digit_0 rfl ?_
  refine z_iload_n C dX6_digit_1 rfl ?_
  refine z_callS C (c_unit w μ i hi) qM_X6_79 dX6_digit_2 rfl (fun _ _ h => h.elim) ?_
  rintro v μ2 ⟨rfl, rfl⟩
  have h1 := un11_in i
  have h2 := k11_in hp
  refine z_idiv C dX6_digit_5 (by omega) ?_
  have h3 : 0 ≤ k11 p / un11 i := Int.ediv_nonneg h2.1 (by omega)
  have h4 : k11 p / un11 i ≤ k11 p := Int.ediv_le_self _ h2.1
  refine z_bipush C dX6_digit_6 ?_
  refine z_irem C dX6_digit_8 (by omega) ?_
  rw [k11_dig hp hi]
  exact z_iret C dX6_digit_9 ⟨rfl, rfl⟩
theorem c_length (w : Wd) (μ : Mem) (p : Int) (hp : okK p) : cM w yX6_length cX6_length 2 (some .int) 3 0 0 [.int (J (k11 p))] μ (fun v μ' => v = some (.int (J (ln16 p))) ∧ μ' = μ) (fun _ _ => False) := by
  refine cM_of (fun x C => ?_)
  have hin := hA_in p
  have st : ∀ i : Int, 0 ≤ i ∧ i < 4 → (hA p i = 0 → ln16 p = i) → (hA p i ≠ 0 → Z w x (zQ w x (fun v μ' => v = some (.int (J (ln16 p))) ∧ μ' = μ) (fun _ _ => False) 0 0) 2 2 [(0, .int (J (k11 p))), (1, .int (J (i + 1)))] [] μ 0 0) → Z w x (zQ w x (fun v μ' => v = some (.int (J (ln16 p))) ∧ μ' = μ) (fun _ _ => False) 0 0) 2 2 [(0, .int (J (k11 p))), (1, .int (J i))] [] μ 0 0 := by
    intro i hi h0 h1
    refine z_iload_n C dX6_length_2 rfl ?_
    refine z_iconst C dX6_length_3 ?_
    refine z_icmp_ge (tgt := 21) C dX6_length_4 (by decide) (by omega) (fun g => ?_) (fun g => ?_)
    · omega
    · refine z_iload_n C dX6_length_7 rfl ?_
      refine z_iload_n C dX6_length_8 rfl ?_
      refine z_callS C (c_digit w μ p i hp hi) qM_X6_83 dX6_length_9 rfl (fun _ _ h => h.elim) ?_
      rintro v μ2 ⟨rfl, rfl⟩
      have := hin i
      refine z_if_le (tgt := 21) C dX6_length_12 (by decide) (by omega) (fun g2 => ?_) (fun g2 => ?_)
      · refine z_iload_n C dX6_length_21 rfl ?_
        exact z_iret C dX6_length_22 ⟨by rw [h0 (by omega)], rfl⟩
      · refine z_iinc C dX6_length_15 rfl ?_
        refine z_goto (tgt := 2) C dX6_length_18 (by decide) ?_
        exact z_ls _ (by exact ⟨rfl, rfl, trivial⟩) (h1 (by omega))
  refine z_iconst C dX6_length_0 ?_
  refine z_istore_n C dX6_length_1 ?_
  refine st 0 (by decide) (fun e => by unfold ln16; rw [if_pos e]) (fun e0 => ?_)
  refine st 1 (by decide) (fun e => by unfold ln16; rw [if_neg e0, if_pos e]) (fun e1 => ?_)
  refine st 2 (by decide) (fun e => by unfold ln16; rw [if_neg e0, if_neg e1, if_pos e]) (fun e2 => ?_)
  refine st 3 (by decide) (fun e => by unfold ln16; rw [if_neg e0, if_neg e1, if_neg e2, if_pos e]) (fun e3 => ?_)
  refine z_iload_n C dX6_length_2 rfl ?_
  refine z_iconst C dX6_length_3 ?_
  refine z_icmp_ge (tgt := 21) C dX6_length_4 (by decide) (by omega) (fun g => ?_) (fun g => ?_)
  · refine z_iload_n C dX6_length_21 rfl ?_
    exact z_iret C dX6_length_22 ⟨by unfold ln16; rw [if_neg e0, if_neg e1, if_neg e2, if_neg e3]; rfl, rfl⟩
  · omega
theorem c_in (w : Wd) (μ : Mem) (v lo hi : Int) (hv : in32 v) (hl : in32 lo) (hh : in32 hi) : cM w yX6_in cX6_in 3 (some .boolean) 1 0 0 [.int (J v), .int (J lo), .int (J hi)] μ (fun r μ' => r = some (.int (J (zB (decide (lo ≤ v ∧ v ≤ hi))))) ∧ μ' = μ) (fun _ _ => False) := by
  obtain ⟨v1, v2⟩ := hv
  obtain ⟨l1, l2⟩ := hl
  obtain ⟨h1, h2⟩ := hh
  refine cM_of (fun x C => ?_)
  refine z_iload_n C dX6_in_0 rfl ?_
  refine z_iload_n C dX6_in_1 rfl ?_
  refine z_icmp_lt (tgt := 14) C dX6_in_2 (by decide) (by omega) (fun g1 => ?_) (fun g1 => ?_)
  · refine z_iconst C dX6_in_14 ?_
    exact z_zret C (v := 0) dX6_in_15 (Or.inl rfl) ⟨by rw [decide_eq_false (by omega)]; rfl, rfl⟩
  · refine z_iload_n C dX6_in_5 rfl ?_
    refine z_iload_n C dX6_in_6 rfl ?_
    refine z_icmp_gt (tgt := 14) C dX6_in_7 (by decide) (by omega) (fun g2 => ?_) (fun g2 => ?_)
    · refine z_iconst C dX6_in_14 ?_
      exact z_zret C (v := 0) dX6_in_15 (Or.inl rfl) ⟨by rw [decide_eq_false (by omega)]; rfl, rfl⟩
    · refine z_iconst C dX6_in_10 ?_
      refine z_goto (tgt := 15) C dX6_in_11 (by decide) ?_
      exact z_zret C (v := 1) dX6_in_15 (Or.inr rfl) ⟨by rw [decide_eq_true (by omega)]; rfl, rfl⟩
