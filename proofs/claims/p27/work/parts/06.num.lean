/-! GT: the good words of the tables. J: an int as a whole number. -/
def GT : List Cond := lw_tbl.filter goodWord
theorem gt_of {w : Cond} (h : w ∈ lw_tbl) (g : goodWord w = true) : w ∈ GT := List.mem_filter.mpr ⟨h, g⟩
theorem gt_t {w : Cond} (h : w ∈ tables_1) (g : goodWord w = true) : w ∈ GT := gt_of (List.mem_append_right _ h) g
theorem gt_1 {w : Cond} (h : w ∈ tables_1_1) (g : goodWord w = true) : w ∈ GT := gt_t (List.mem_append_left _ h) g
theorem gt_2 {w : Cond} (h : w ∈ tables_1_2) (g : goodWord w = true) : w ∈ GT := gt_t (List.mem_append_right _ (List.mem_append_left _ h)) g
theorem gt_3 {w : Cond} (h : w ∈ tables_1_3) (g : goodWord w = true) : w ∈ GT := gt_t (List.mem_append_right _ (List.mem_append_right _ h)) g
theorem gt_s {q : MethodName × Nat} (h : q ∈ lw_privs) : Cond.selects q.1.cls q.1 q.1 ∈ GT := gt_of (List.mem_append_left _ (List.mem_map.mpr ⟨q, h, rfl⟩)) rfl
theorem gt_good {w : Cond} (h : w ∈ GT) : (w.onTables && w.keeps) = true ∨ ∃ ty, w = .arrayClass ty := good_of_word (List.mem_filter.mp h).2
def J (z : Int) : Int32 := Int32.ofInt z
theorem J_toInt {z : Int} (h1 : -2147483648 ≤ z) (h2 : z ≤ 2147483647) : (J z).toInt = z := Int32.toInt_ofInt_of_le (by omega) (by omega)
theorem J_of (x : Int32) : J x.toInt = x := Int32.ofInt_toInt x
theorem J_ex (x : Int32) : ∃ z : Int, x = J z ∧ -2147483648 ≤ z ∧ z ≤ 2147483647 := ⟨x.toInt, (J_of x).symm, by have := Int32.le_toInt x; omega, by have := Int32.toInt_lt x; omega⟩
theorem J_inj {a b : Int} (h1 : -2147483648 ≤ a ∧ a ≤ 2147483647) (h2 : -2147483648 ≤ b ∧ b ≤ 2147483647) (h : J a = J b) : a = b := by
  have := congrArg Int32.toInt h
  rw [J_toInt h1.1 h1.2, J_toInt h2.1 h2.2] at this
  exact this
theorem J_eq {a b : Int} (h1 : -2147483648 ≤ a ∧ a ≤ 2147483647) (h2 : -2147483648 ≤ b ∧ b ≤ 2147483647) : J a = J b ↔ a = b := ⟨J_inj h1 h2, fun h => by rw [h]⟩
theorem J_lt {a b : Int} (h1 : -2147483648 ≤ a ∧ a ≤ 2147483647) (h2 : -2147483648 ≤ b ∧ b ≤ 2147483647) : J a < J b ↔ a < b := by
  rw [Int32.lt_iff_toInt_lt, J_toInt h1.1 h1.2, J_toInt h2.1 h2.2]
theorem J_le {a b : Int} (h1 : -2147483648 ≤ a ∧ a ≤ 2147483647) (h2 : -2147483648 ≤ b ∧ b ≤ 2147483647) : J a ≤ J b ↔ a ≤ b := by
  rw [Int32.le_iff_toInt_le, J_toInt h1.1 h1.2, J_toInt h2.1 h2.2]
theorem J_add (a b : Int) : J a + J b = J (a + b) := (Int32.ofInt_add a b).symm
theorem J_sub (a b : Int) : J a - J b = J (a - b) := (Int32.ofInt_sub a b).symm
theorem J_mul (a b : Int) : J a * J b = J (a * b) := (Int32.ofInt_mul a b).symm
theorem J_0 : J 0 = 0 := rfl
theorem J_nat (n : Nat) : J (n : Int) = nI n := Int32.ofInt_eq_ofNat
theorem J_clamp {z : Int} (h0 : 0 ≤ z) (h2 : z ≤ 2147483647) : (J z).toNatClampNeg = z.toNat := Int32.toNatClampNeg_ofInt_of_le (by omega) (by omega)
theorem J_div {a b : Int} (ha : 0 ≤ a) (ha2 : a ≤ 2147483647) (hb : 0 < b) (hb2 : b ≤ 2147483647) : J a / J b = J (a / b) := by
  have h : J (a.tdiv b) = J a / J b := by
    refine Int32.ofInt_tdiv ?_ ?_ ?_ ?_
    · have : Int32.minValue.toInt = -2147483648 := by decide
      omega
    · have : Int32.maxValue.toInt = 2147483647 := by decide
      omega
    · have : Int32.minValue.toInt = -2147483648 := by decide
      omega
    · have : Int32.maxValue.toInt = 2147483647 := by decide
      omega
  rw [← h, Int.tdiv_eq_ediv_of_nonneg ha]
theorem J_rem {a b : Int} (ha : 0 ≤ a) (ha2 : a ≤ 2147483647) (hb : 0 < b) (hb2 : b ≤ 2147483647) : J a - J a / J b * J b = J (a % b) := by
  rw [J_div ha ha2 hb hb2, J_mul, J_sub, Int.emod_def, Int.mul_comm]
theorem J_neg {z : Int} (h1 : -2147483648 ≤ z) (h2 : z ≤ 2147483647) : J z < 0 ↔ z < 0 := J_lt (b := 0) ⟨h1, h2⟩ (by decide)
theorem J_in {z : Int} {n : Nat} (h0 : 0 ≤ z) (h1 : z < (n : Int)) (h2 : z ≤ 2147483647) : vp_in (J z) n := by
  intro h
  rcases h with h | h
  · have := (J_neg (by omega) h2).mp h
    omega
  · rw [J_clamp h0 h2] at h
    omega
theorem J_shr {a : Int} (k : Nat) (ha : 0 ≤ a) (ha2 : a ≤ 2147483647) (s : Int32) (hs : (s.toBitVec.smod 32).toNat = k) : J a >>> s = J (a / (2 ^ k : Nat)) := by
  obtain ⟨n, rfl⟩ : ∃ n : Nat, a = (n : Int) := ⟨a.toNat, by omega⟩
  rw [J_nat, pk_shrN (by omega) s k hs, ← J_nat]
  rfl
theorem J_shl {a : Int} (k : Nat) (ha : 0 ≤ a) (s : Int32) (hs : (s.toBitVec.smod 32).toNat = k) (h2 : a * (2 ^ k : Nat) ≤ 2147483647) : J a <<< s = J (a * (2 ^ k : Nat)) := by
  obtain ⟨n, rfl⟩ : ∃ n : Nat, a = (n : Int) := ⟨a.toNat, by omega⟩
  have h3 : n * 2 ^ k < 2 ^ 32 := by
    have : ((n * 2 ^ k : Nat) : Int) ≤ 2147483647 := by
      rw [Int.natCast_mul]
      exact h2
    omega
  rw [J_nat, pk_shlN s k hs h3, ← J_nat, Int.natCast_mul]
theorem J_sm {k : Nat} (hk : k < 32) : ((J (k : Int) &&& 31).toBitVec.smod 32).toNat = k := by
  rw [J_nat]
  exact (by decide : ∀ n, n < 32 → ((nI n &&& 31).toBitVec.smod 32).toNat = n) k hk
theorem J_ishr {a : Int} (k : Nat) (hk : k < 32) (ha : 0 ≤ a) (ha2 : a ≤ 2147483647) : J a >>> (J (k : Int) &&& 31) = J (a / (2 ^ k : Nat)) := J_shr k ha ha2 _ (J_sm hk)
theorem J_ishl {a : Int} (k : Nat) (hk : k < 32) (ha : 0 ≤ a) (h2 : a * (2 ^ k : Nat) ≤ 2147483647) : J a <<< (J (k : Int) &&& 31) = J (a * (2 ^ k : Nat)) := J_shl k ha _ (J_sm hk) h2
theorem J_and (z : Int) (k : Nat) {m : Int32} (hm : m.toBitVec.toNat = 2 ^ k - 1) (hk : k ≤ 30) : J z &&& m = J (z % (2 ^ k : Nat)) := by
  rw [pk_and (J z) k hm, ← J_nat]
  congr 1
  have h1 : ((J z).toBitVec.toNat : Int) = z % (2 ^ 32 : Nat) := by
    show ((BitVec.ofInt 32 z).toNat : Int) = _
    rw [BitVec.toNat_ofInt]
    have : (0 : Int) ≤ z % (2 ^ 32 : Nat) := Int.emod_nonneg _ (by decide)
    omega
  rw [Int.natCast_emod, h1]
  refine Int.emod_emod_of_dvd z ?_
  refine Int.natCast_dvd_natCast.mpr ?_
  exact Nat.pow_dvd_pow 2 (by omega)
theorem J_or {a b : Int} (k : Nat) (hb : 0 ≤ b) (hb2 : b < (2 ^ k : Nat)) (ha : 0 ≤ a) (hd : a % (2 ^ k : Nat) = 0) : J a ||| J b = J (a + b) := by
  obtain ⟨n, rfl⟩ : ∃ n : Nat, a = (n : Int) := ⟨a.toNat, by omega⟩
  obtain ⟨r, rfl⟩ : ∃ n : Nat, b = (n : Int) := ⟨b.toNat, by omega⟩
  have h1 : n % 2 ^ k = 0 := by
    have := hd
    rw [← Int.natCast_emod] at this
    exact_mod_cast this
  obtain ⟨q, rfl⟩ := Nat.dvd_of_mod_eq_zero h1
  have h2 : r < 2 ^ k := by exact_mod_cast hb2
  rw [J_nat, J_nat]
  have h3 : nI (2 ^ k * q) ||| nI r = nI ((2 ^ k * q) ||| r) := by
    apply Int32.toBitVec_inj.mp
    show (Int32.ofNat _).toBitVec ||| (Int32.ofNat _).toBitVec = (Int32.ofNat _).toBitVec
    simp only [Int32.toBitVec_ofNat', BitVec.ofNat_or]
  rw [h3, ← Nat.two_pow_add_eq_or_of_lt h2, ← J_nat]
  congr 1
def L6 (z : Int) : Int64 := Int64.ofInt z
theorem L6_J {z : Int} (h1 : -2147483648 ≤ z) (h2 : z ≤ 2147483647) : (J z).toInt64 = L6 z := by
  refine Int32.toInt64_ofInt ?_ ?_
  · have : Int32.minValue.toInt = -2147483648 := by decide
    omega
  · have : Int32.maxValue.toInt = 2147483647 := by decide
    omega
theorem L6_toInt {z : Int} (h1 : -2147483648 ≤ z) (h2 : z ≤ 2147483647) : (L6 z).toInt = z := Int64.toInt_ofInt_of_le (by omega) (by omega)
theorem L6_lt {a b : Int} (h1 : -2147483648 ≤ a ∧ a ≤ 2147483647) (h2 : -2147483648 ≤ b ∧ b ≤ 2147483647) : L6 a < L6 b ↔ a < b := by
  rw [Int64.lt_iff_toInt_lt, L6_toInt h1.1 h1.2, L6_toInt h2.1 h2.2]
theorem L6_eq {a b : Int} (h1 : -2147483648 ≤ a ∧ a ≤ 2147483647) (h2 : -2147483648 ≤ b ∧ b ≤ 2147483647) : L6 a = L6 b ↔ a = b := by
  rw [← Int64.toInt_inj, L6_toInt h1.1 h1.2, L6_toInt h2.1 h2.2]
