/-! the lists' own methods: an opened list μo of a memory μ -/
def ag (μ μo : Mem) (a : Nat) : Prop := ∀ b kb, b ≠ a → μ.1 b = some kb → μo.1 b = some kb ∧ (∀ c k, μo.2.1 c k b = μ.2.1 c k b) ∧ (∀ c k, μo.2.2.1 c k b = μ.2.2.1 c k b) ∧ μo.2.2.2.1 b = μ.2.2.2.1 b ∧ μo.2.2.2.2.1 b = μ.2.2.2.2.1 b ∧ μo.2.2.2.2.2 b = μ.2.2.2.2.2 b
theorem ag_I {μ μo : Mem} {a k : Nat} {v : Int} (h : ag μ μo a) : ag μ (sI μo 7 k a v) a := fun b kb hb hT => by
  obtain ⟨h1, h2, h3⟩ := h b kb hb hT
  exact ⟨h1, fun c k => by show u3 μo.2.1 7 _ a v c k b = _; rw [u3_a _ _ _ _ _ hb]; exact h2 c k, h3⟩
theorem ag_R {μ μo : Mem} {a k : Nat} {v : Option Nat} (h : ag μ μo a) : ag μ (sR μo 7 k a v) a := fun b kb hb hT => by
  obtain ⟨h1, h2, h3, h4⟩ := h b kb hb hT
  exact ⟨h1, h2, fun c k => by show u3 μo.2.2.1 7 _ a v c k b = _; rw [u3_a _ _ _ _ _ hb]; exact h3 c k, h4⟩
theorem ag_Q {μ μo : Mem} {a ed : Nat} {i : Int} {v : Option Nat} (h : ag μ μo a) (he : μ.1 ed = none) : ag μ (sQ μo ed i v) a := fun b kb hb hT => by
  obtain ⟨h1, h2, h3, h4, h5, h6⟩ := h b kb hb hT
  have hbe : b ≠ ed := fun e => by rw [e, he] at hT; cases hT
  exact ⟨h1, h2, h3, h4, by show u2 μo.2.2.2.2.1 ed i v b = _; rw [u2_af _ _ _ hbe]; exact h5, h6⟩
theorem ag_U {μ μo : Mem} {a ed : Nat} {g : Int → Option Nat} (h : ag μ μo a) (he : μ.1 ed = none) : ag μ (μo.1, μo.2.1, μo.2.2.1, μo.2.2.2.1, u1 μo.2.2.2.2.1 ed g, μo.2.2.2.2.2) a := fun b kb hb hT => by
  obtain ⟨h1, h2, h3, h4, h5, h6⟩ := h b kb hb hT
  have hbe : b ≠ ed := fun e => by rw [e, he] at hT; cases hT
  exact ⟨h1, h2, h3, h4, by show u1 μo.2.2.2.2.1 ed g b = _; rw [u1_n _ _ hbe]; exact h5, h6⟩
theorem ag_N {μ μo : Mem} {a q : Nat} {kd : Nat × Nat} (h : ag μ μo a) (he : μo.1 q = none) : ag μ (sN μo q kd) a := fun b kb hb hT => by
  obtain ⟨h1, h2, h3, h4, h5, h6⟩ := h b kb hb hT
  have hbe : b ≠ q := fun e => by rw [e, he] at h1; cases h1
  exact ⟨by show u1 μo.1 q (some kd) b = _; rw [u1_n _ _ hbe]; exact h1, fun c k => by show u0 μo.2.1 q 0 c k b = _; rw [u0_n _ _ _ _ hbe]; exact h2 c k, fun c k => by show u0 μo.2.2.1 q none c k b = _; rw [u0_n _ _ _ _ hbe]; exact h3 c k, by show u1 μo.2.2.2.1 q _ b = _; rw [u1_n _ _ hbe]; exact h4, by show u1 μo.2.2.2.2.1 q _ b = _; rw [u1_n _ _ hbe]; exact h5, h6⟩
theorem ag_none {μ μo : Mem} {a q : Nat} {kd : Nat × Nat} (h : ag μ μo a) (ha : μo.1 a = some kd) (he : μo.1 q = none) : μ.1 q = none := by
  cases hq : μ.1 q with
  | none => rfl
  | some kq =>
    by_cases hqa : q = a
    · rw [hqa, ha] at he
      cases he
    · rw [(h q kq hqa hq).1] at he
      cases he
/-- an opened list with an array of its own -/
def oY (w : Wd) (μ μo : Mem) (a : Nat) (l : List Nat) (ed cap : Nat) : Prop := ag μ μo a ∧ μo.1 a = some (7, 0) ∧ μo.2.1 7 2 a = (l.length : Int) ∧ μo.2.2.1 7 1 a = some ed ∧ μo.1 ed = some (25, cap) ∧ μ.1 ed = none ∧ l.length ≤ cap ∧ 1 ≤ cap ∧ cap ≤ 100000 ∧ ∀ i : Nat, i < l.length → μo.2.2.2.2.1 ed (i : Int) = l[i]?
/-- an empty one without -/
def oZ (w : Wd) (μ μo : Mem) (a : Nat) (l : List Nat) : Prop := ag μ μo a ∧ μo.1 a = some (7, 0) ∧ μo.2.1 7 2 a = 0 ∧ μo.2.2.1 7 1 a = some (wE w) ∧ l = []
theorem oA_oZ {w : Wd} {μ : Mem} {a : Nat} {m : Int} : oZ w μ (oA w μ a m) a [] := by
  refine ⟨fun b kb hb hT => ⟨?_, fun c k => ?_, fun c k => ?_, rfl, rfl, rfl⟩, u1_s _ _ _, u3_s (u3 μ.2.1 7 0 a m) 7 2 a 0, u3_s μ.2.2.1 7 1 a (some (wE w)), rfl⟩
  · show u1 μ.1 a _ b = _
    rw [u1_n _ _ hb]
    exact hT
  · show u3 (u3 μ.2.1 7 0 a m) 7 2 a 0 c k b = _
    rw [u3_a _ _ _ _ _ hb, u3_a _ _ _ _ _ hb]
  · show u3 μ.2.2.1 7 1 a _ c k b = _
    rw [u3_a _ _ _ _ _ hb]
theorem oB_oY {w : Wd} {μ : Mem} {a ed cap : Nat} {g : Nat → Option Nat} {m : Int} {l : List Nat} (h1 : μ.1 ed = none) (h2 : ed ≠ a) (h3 : l.length ≤ cap) (h4 : 1 ≤ cap) (h5 : cap ≤ 100000) (h6 : ∀ i, i < l.length → g i = l[i]?) : oY w μ (oB μ a ed cap g m (l.length : Int)) a l ed cap := by
  refine ⟨fun b kb hb hT => ?_, ?_, u3_s (u3 μ.2.1 7 0 a m) 7 2 a (l.length : Int), u3_s μ.2.2.1 7 1 a (some ed), u1_s _ _ _, h1, h3, h4, h5, fun i hi => ?_⟩
  · have hbe : b ≠ ed := fun e => by rw [e, h1] at hT; cases hT
    refine ⟨?_, fun c k => ?_, fun c k => ?_, rfl, ?_, rfl⟩
    · show u1 (u1 μ.1 a _) ed _ b = _
      rw [u1_n _ _ hbe, u1_n _ _ hb]
      exact hT
    · show u3 (u3 μ.2.1 7 0 a m) 7 2 a _ c k b = _
      rw [u3_a _ _ _ _ _ hb, u3_a _ _ _ _ _ hb]
    · show u3 μ.2.2.1 7 1 a _ c k b = _
      rw [u3_a _ _ _ _ _ hb]
    · show u1 μ.2.2.2.2.1 ed _ b = _
      rw [u1_n _ _ hbe]
  · show u1 (u1 μ.1 a _) ed _ a = _
    rw [u1_n _ _ (fun e => h2 e.symm), u1_s]
  · show u1 μ.2.2.2.2.1 ed _ ed _ = _
    rw [u1_s]
    exact h6 i hi
section ZOC
variable {w : Wd} {x : Zc} {Q : State → Prop} {cc : ByteArray} {nL pc : Nat} {own : String} {rt : Option FieldType} {rm : Room} {nm : String} {ls : List (Nat × Value)} {st : List Value} {μ : Mem} {k n : Nat}
theorem z_openY {a n0 : Nat} (hT : μ.1 a = some (24, n0)) (kA : ∀ μo, μ.2.2.2.2.2 a = [] → oZ w μ μo a [] → Z w x Q nL pc ls st μo k n) (kB : ∀ μo ed cap, oY w μ μo a (μ.2.2.2.2.2 a) ed cap → Z w x Q nL pc ls st μo k n) : Z w x Q nL pc ls st μ k n :=
  z_open hT (fun h m => kA _ h oA_oZ) (fun ed cap g m h1 h2 h3 h4 h5 h6 h7 => kB _ ed cap (oB_oY h1 h2 h4 h5 h6 h7))
theorem ag_close {μ μo : Mem} {a : Nat} {l : List Nat} (h : ag μ μo a) : ∀ b kb, b ≠ a → (sL μ a l).1 b = some kb → (∀ c k, (sL μ a l).2.1 c k b = μo.2.1 c k b) ∧ (∀ c k, (sL μ a l).2.2.1 c k b = μo.2.2.1 c k b) ∧ (sL μ a l).2.2.2.1 b = μo.2.2.2.1 b ∧ (sL μ a l).2.2.2.2.1 b = μo.2.2.2.2.1 b ∧ (sL μ a l).2.2.2.2.2 b = μo.2.2.2.2.2 b := fun b kb hb hT => by
  obtain ⟨-, h2, h3, h4, h5, h6⟩ := h b kb hb hT
  exact ⟨fun c k => (h2 c k).symm, fun c k => (h3 c k).symm, h4.symm, h5.symm, by show u1 μ.2.2.2.2.2 a l b = _; rw [u1_n _ _ hb]; exact h6.symm⟩
theorem z_closeY (C : Cx w x cc nL own rt rm nm) {μo : Mem} {a n0 ed cap : Nat} {l : List Nat} (hT : μ.1 a = some (24, n0)) (h : oY w μ μo a l ed cap) (kk : Z w x Q nL pc ls st (sL μ a l) k n) : Z w x Q nL pc ls st μo k n := by
  obtain ⟨h1, h2, h3, h4, h5, h6, h7, h8, h9, h10⟩ := h
  have e : (sL μ a l).2.2.2.2.2 a = l := u1_s _ _ _
  exact z_close C (sL μ a l) ed cap hT h2 (fun b kb hb hTb => (h1 b kb hb hTb).1) h4 (by rw [e]; exact h3) (Or.inr ⟨h5, h6, by rw [e]; exact h7, h8, h9, by rw [e]; exact h10⟩) (ag_close h1) kk
theorem z_closeZ (C : Cx w x cc nL own rt rm nm) {μo : Mem} {a n0 : Nat} {l : List Nat} (hT : μ.1 a = some (24, n0)) (h : oZ w μ μo a l) (kk : Z w x Q nL pc ls st (sL μ a l) k n) : Z w x Q nL pc ls st μo k n := by
  obtain ⟨h1, h2, h3, h4, h5⟩ := h
  have e : (sL μ a l).2.2.2.2.2 a = l := u1_s _ _ _
  exact z_close C (sL μ a l) (wE w) 0 hT h2 (fun b kb hb hTb => (h1 b kb hb hTb).1) h4 (by rw [e, h5]; exact h3) (Or.inl ⟨rfl, e.trans h5⟩) (ag_close h1) kk
end ZOC
theorem sL_self {μ : Mem} {a : Nat} : sL μ a (μ.2.2.2.2.2 a) = μ := by
  obtain ⟨T, FI, FR, A, AR, L⟩ := μ
  show (T, FI, FR, A, AR, u1 L a (L a)) = _
  congr 5
  funext b
  by_cases h : b = a
  · rw [h, u1_s]
  · rw [u1_n _ _ h]
/-! Math, indices -/
theorem c_newLength (w : Wd) (μ : Mem) (a b c : Int) (ha : 0 ≤ a ∧ a ≤ 100000) (hb : 1 ≤ b ∧ b ≤ 100000) (hc : 0 ≤ c ∧ c ≤ 100000) : cM w yJ8_newLength_cabcc cJ8_newLength_cabcc 4 (some .int) 2 0 0 [.int (J a), .int (J b), .int (J c)] μ (fun v μ' => v = some (.int (J (a + if b < c then c else b))) ∧ μ' = μ) (fun _ _ => False) := by
  refine cM_of (fun x C => ?_)
  refine z_iload_n C dJ8_newLength_cabcc_0 rfl ?_
  refine z_iload_n C dJ8_newLength_cabcc_1 rfl ?_
  refine z_iload_n C dJ8_newLength_cabcc_2 rfl ?_
  refine z_max C qJ_m1 dJ8_newLength_cabcc_3 (by omega) (by decide) ?_
  obtain ⟨m, hm⟩ : ∃ m, m = if b < c then c else b := ⟨_, rfl⟩
  rw [← hm]
  have hm2 : 1 ≤ m ∧ m ≤ 100000 := by
    rw [hm]
    split <;> omega
  refine z_iadd C dJ8_newLength_cabcc_6 ?_
  refine z_istore_n C dJ8_newLength_cabcc_7 ?_
  refine z_iconst C dJ8_newLength_cabcc_8 ?_
  refine z_iload_n C dJ8_newLength_cabcc_9 rfl ?_
  refine z_icmp_ge (tgt := 21) C dJ8_newLength_cabcc_10 (by decide) (by omega) (fun g => ?_) (fun g => ?_)
  · omega
  · refine z_iload_n C dJ8_newLength_cabcc_13 rfl ?_
    refine z_ldc C dJ8_newLength_cabcc_14 qK_J8_200 ?_
    refine z_icmp_gt (tgt := 21) C dJ8_newLength_cabcc_16 (by decide) (by omega) (fun g2 => ?_) (fun g2 => ?_)
    · omega
    · refine z_iload_n C dJ8_newLength_cabcc_19 rfl ?_
      exact z_iret C dJ8_newLength_cabcc_20 ⟨rfl, rfl⟩
theorem c_checkIndex3 (w : Wd) (μ : Mem) (i n : Int) (h : 0 ≤ i ∧ i < n ∧ n ≤ 2147483647) : cM w yJ3_checkIndex_8e157 cJ3_checkIndex_8e157 3 (some .int) 1 0 0 [.int (J i), .int (J n), .null] μ (fun v μ' => v = some (.int (J i)) ∧ μ' = μ) (fun _ _ => False) := by
  refine cM_of (fun x C => ?_)
  refine z_iload_n C dJ3_checkIndex_8e157_0 rfl ?_
  refine z_if_lt (tgt := 9) C dJ3_checkIndex_8e157_1 (by decide) (by omega) (fun g => ?_) (fun g => ?_)
  · omega
  · refine z_iload_n C dJ3_checkIndex_8e157_4 rfl ?_
    refine z_iload_n C dJ3_checkIndex_8e157_5 rfl ?_
    refine z_icmp_lt (tgt := 16) C dJ3_checkIndex_8e157_6 (by decide) (by omega) (fun g2 => ?_) (fun g2 => ?_)
    · refine z_iload_n C dJ3_checkIndex_8e157_16 rfl ?_
      exact z_iret C dJ3_checkIndex_8e157_17 ⟨rfl, rfl⟩
    · omega
theorem c_checkIndex (w : Wd) (μ : Mem) (i n : Int) (h : 0 ≤ i ∧ i < n ∧ n ≤ 2147483647) : cM w yJ15_checkIndex_7cf53 cJ15_checkIndex_7cf53 2 (some .int) 2 0 0 [.int (J i), .int (J n)] μ (fun v μ' => v = some (.int (J i)) ∧ μ' = μ) (fun _ _ => False) := by
  refine cM_of (fun x C => ?_)
  refine z_iload_n C dJ15_checkIndex_7cf53_0 rfl ?_
  refine z_iload_n C dJ15_checkIndex_7cf53_1 rfl ?_
  refine z_null C dJ15_checkIndex_7cf53_2 ?_
  refine z_callS C (c_checkIndex3 w μ i n h) qM_J15_105 dJ15_checkIndex_7cf53_3 rfl (fun _ _ h => h.elim) ?_
  rintro v μ' ⟨rfl, rfl⟩
  exact z_iret C dJ15_checkIndex_7cf53_6 ⟨rfl, rfl⟩
/-- Arrays.copyOf of references -/
abbrev nG (μ : Mem) (q N : Nat) (g : Int → Option Nat) : Mem := (u1 μ.1 q (some (25, N)), u0 μ.2.1 q 0, u0 μ.2.2.1 q none, u1 μ.2.2.2.1 q (fun _ => 0), u1 μ.2.2.2.2.1 q g, μ.2.2.2.2.2)
theorem u1_u1 {β : Type} (f : Nat → β) (a : Nat) (v u : β) : u1 (u1 f a v) a u = u1 f a u := by
  funext b
  by_cases h : b = a
  · rw [h, u1_s, u1_s]
  · rw [u1_n _ _ h, u1_n _ _ h, u1_n _ _ h]
theorem c_copyOf3 (S : Nat) (w : Wd) (μ : Mem) (e N N2 ci : Nat) (hT : μ.1 e = some (25, N)) (h : N ≤ N2 ∧ N2 ≤ S ∧ S ≤ 1600) (he : zEl ci) (hel : ∀ j : Int, 0 ≤ j → j < (N : Int) → ∀ y, μ.2.2.2.2.1 e j = some y → ∃ n0, μ.1 y = some (ci, n0)) : cM w yJ7_copyOf_6403c cJ7_copyOf_6403c 4 (some (.array (.object "java/lang/Object"))) 2 1 S [.ref e, .int (J (N2 : Int)), .ref (wM w)] μ (fun v μ' => ∃ q, μ.1 q = none ∧ wb w ≤ q ∧ v = some (.ref q) ∧ μ' = nG μ q N2 (uC (μ.2.2.2.2.1 e) (fun _ => none) 0 0 N)) (fun _ _ => False) := by
  refine cM_of (fun x C => ?_)
  refine z_aload_n C dJ7_copyOf_6403c_0 rfl ?_
  refine z_ldcM C qC_J7_110 dJ7_copyOf_6403c_1 ?_
  refine z_acmp_ne (a := some (wM w)) (b := some (wM w)) (tgt := 13) C dJ7_copyOf_6403c_3 (by decide) (fun g => absurd rfl g) (fun _ => ?_)
  refine z_iload_n C dJ7_copyOf_6403c_6 rfl ?_
  refine z_newO C N2 dJ7_copyOf_6403c_7 rfl (by omega) qC_J7_2 (Nat.le_of_ble_eq_true rfl) (by show 0 + N2 ≤ S; omega) (fun q hq hb => ?_)
  refine z_goto (tgt := 24) C dJ7_copyOf_6403c_10 (by decide) ?_
  refine z_astore_n C dJ7_copyOf_6403c_24 ?_
  refine z_aload_n C dJ7_copyOf_6403c_25 rfl ?_
  refine z_iconst C dJ7_copyOf_6403c_26 ?_
  refine z_aload_n C dJ7_copyOf_6403c_27 rfl ?_
  refine z_iconst C dJ7_copyOf_6403c_28 ?_
  refine z_aload_n C dJ7_copyOf_6403c_29 rfl ?_
  have hne : e ≠ q := fun e9 => by rw [e9, hq] at hT; cases hT
  have hTe : (sN μ q (25, N2)).1 e = some (25, N) := by
    show u1 μ.1 q _ e = _
    rw [u1_n _ _ hne]
    exact hT
  have hTq : (sN μ q (25, N2)).1 q = some (25, N2) := u1_s _ _ _
  refine z_alen C dJ7_copyOf_6403c_30 hTe (by omega) ?_
  refine z_iload_n C dJ7_copyOf_6403c_31 rfl ?_
  refine z_min C qJ_m2 dJ7_copyOf_6403c_32 (by omega) ⟨Nat.le_of_ble_eq_true rfl, by show 0 + N2 ≤ S; omega⟩ ?_ (hd := ⟨Nat.le_of_ble_eq_true rfl, Nat.le_of_ble_eq_true rfl⟩)
  rw [if_neg (by omega)]
  refine z_arraycopy C (ci := ci) qJ_cpyB dJ7_copyOf_6403c_35 hTe hTq (by omega) (by omega) he (fun j h1 h2 y hy => ?_) ?_ (hd := ⟨Nat.le_of_ble_eq_true rfl, Nat.le_of_ble_eq_true rfl⟩)
  · have hy2 : μ.2.2.2.2.1 e j = some y := by
      have h9 : u1 μ.2.2.2.2.1 q (fun _ => none) e j = some y := hy
      rw [u1_n _ _ hne] at h9
      exact h9
    obtain ⟨n0, hn0⟩ := hel j h1 (by omega) y hy2
    refine ⟨n0, ?_⟩
    show u1 μ.1 q _ y = _
    rw [u1_n _ _ (fun e9 => by rw [e9, hq] at hn0; cases hn0)]
    exact hn0
  · refine z_aload_n C dJ7_copyOf_6403c_38 rfl ?_
    refine z_aret C dJ7_copyOf_6403c_39 ⟨q, hq, hb, rfl, ?_⟩ (hn := by show 0 + N2 ≤ S; omega)
    show ((sN μ q (25, N2)).1, _, _, _, u1 (u1 μ.2.2.2.2.1 q (fun _ => none)) q (uC (u1 μ.2.2.2.2.1 q (fun _ => none) e) (u1 μ.2.2.2.2.1 q (fun _ => none) q) 0 0 (N : Int)), _) = nG μ q N2 (uC (μ.2.2.2.2.1 e) (fun _ => none) 0 0 N)
    rw [u1_u1, u1_n _ _ hne, u1_s]
theorem c_copyOf2 (S : Nat) (w : Wd) (μ : Mem) (e N N2 ci : Nat) (hT : μ.1 e = some (25, N)) (h : N ≤ N2 ∧ N2 ≤ S ∧ S ≤ 1600) (he : zEl ci) (hel : ∀ j : Int, 0 ≤ j → j < (N : Int) → ∀ y, μ.2.2.2.2.1 e j = some y → ∃ n0, μ.1 y = some (ci, n0)) : cM w yJ7_copyOf_1904c cJ7_copyOf_1904c 2 (some (.array (.object "java/lang/Object"))) 3 1 S [.ref e, .int (J (N2 : Int))] μ (fun v μ' => ∃ q, μ.1 q = none ∧ wb w ≤ q ∧ v = some (.ref q) ∧ μ' = nG μ q N2 (uC (μ.2.2.2.2.1 e) (fun _ => none) 0 0 N)) (fun _ _ => False) := by
  refine cM_of (fun x C => ?_)
  refine z_aload_n C dJ7_copyOf_1904c_0 rfl ?_
  refine z_iload_n C dJ7_copyOf_1904c_1 rfl ?_
  refine z_aload_n C dJ7_copyOf_1904c_2 rfl ?_
  refine z_getC C dJ7_copyOf_1904c_3 hT ?_ (hd := ⟨Nat.le_of_ble_eq_true rfl, Nat.le_of_ble_eq_true rfl⟩)
  refine z_callS C (c_copyOf3 S w μ e N N2 ci hT h he hel) qM_J7_300 dJ7_copyOf_1904c_6 rfl (fun _ _ h => h.elim) ?_
  rintro v μ' ⟨q, hq, hb, rfl, rfl⟩
  exact z_aret C dJ7_copyOf_1904c_9 ⟨q, hq, hb, rfl, rfl⟩
