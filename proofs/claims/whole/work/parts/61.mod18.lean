/-! the reference's constructor -/
def inM (μ μ' : Mem) (g : Nat) (K : Nat → Bool) (M : Nat → Nat) : Prop := M 0 = g ∧ μ'.1 g = some (6, 0) ∧ K 0 = false ∧ (∀ k, K k = true → μ'.1 (M k) = some (if k = 9 then 21 else 20, mln k) ∧ μ'.2.2.1 6 k g = some (M k) ∧ μ'.2.2.2.1 (M k) = (fun _ => 0) ∧ μ.1 (M k) = none) ∧ (∀ k k', K k = true → K k' = true → M k = M k' → k = k') ∧ (∀ a, μ.1 a ≠ none → a ≠ g → sm μ μ' a) ∧ (∀ a, μ'.1 a = none → μ.1 a = none) ∧ ∀ c, μ'.2.1 6 c g = μ.2.1 6 c g
theorem inM_step {μ μ1 : Mem} {g q k0 : Nat} {K : Nat → Bool} {M : Nat → Nat} (h : inM μ μ1 g K M) (hq : μ1.1 q = none) (h0 : k0 ≠ 0) (hK : K k0 = false) : inM μ (sR (sN μ1 q (if k0 = 9 then 21 else 20, mln k0)) 6 k0 g (some q)) g (fun k => if k = k0 then true else K k) (fun k => if k = k0 then q else M k) := by
  obtain ⟨m0, mg, mk0, mk, mi, ms, mn, mc⟩ := h
  have gq := ne_of_T mg hq
  have hne : ∀ k, K k = true → k ≠ k0 := fun k hk e => by rw [e, hK] at hk; cases hk
  have mq : ∀ k, K k = true → M k ≠ q := fun k hk => ne_of_T (mk k hk).1 hq
  have mgne : ∀ k, K k = true → M k ≠ g := fun k hk e => by
    have := (mk k hk).1
    rw [e, mg] at this
    have h6 := (Prod.mk.inj (Option.some.inj this)).1
    split at h6 <;> cases h6
  refine ⟨?_, ?_, ?_, fun k hk => ?_, fun k k' hk hk' he => ?_, fun a ha hag => ?_, fun a ha => ?_, fun c => ?_⟩
  · show (if 0 = k0 then q else M 0) = g
    rw [if_neg (fun e => h0 e.symm)]
    exact m0
  · show (sN μ1 q _).1 g = _
    rw [(sm_N gq).1]
    exact mg
  · show (if 0 = k0 then true else K 0) = false
    rw [if_neg (fun e => h0 e.symm)]
    exact mk0
  · by_cases hkk : k = k0
    · subst hkk
      rw [show (fun z => if z = k then q else M z) k = q from if_pos rfl]
      exact ⟨u1_s _ _ _, sR_s, u1_s _ _ _, mn q hq⟩
    · have hk' : K k = true := by
        have : (if k = k0 then true else K k) = true := hk
        rw [if_neg hkk] at this
        exact this
      obtain ⟨e1, e2, e3, e4⟩ := mk k hk'
      rw [show (fun z => if z = k0 then q else M z) k = M k from if_neg hkk]
      have sN' := sm_N (μ := μ1) (kd := (if k0 = 9 then 21 else 20, mln k0)) (mq k hk')
      refine ⟨sN'.1.trans e1, ?_, sN'.2.2.2.1.trans e3, e4⟩
      rw [sR_k 6 g hkk, (sm_N gq).2.2.1]
      exact e2
  · have f1 : ∀ z, (if z = k0 then true else K z) = true → z = k0 ∨ (z ≠ k0 ∧ K z = true) := fun z hz => by
      by_cases hzk : z = k0
      · exact Or.inl hzk
      · rw [if_neg hzk] at hz
        exact Or.inr ⟨hzk, hz⟩
    have he' : (if k = k0 then q else M k) = (if k' = k0 then q else M k') := he
    rcases f1 k hk with a1 | ⟨a1, a2⟩ <;> rcases f1 k' hk' with b1 | ⟨b1, b2⟩
    · rw [a1, b1]
    · rw [if_pos a1, if_neg b1] at he'
      exact absurd he'.symm (mq k' b2)
    · rw [if_neg a1, if_pos b1] at he'
      exact absurd he' (mq k a2)
    · rw [if_neg a1, if_neg b1] at he'
      exact mi k k' a2 b2 he'
  · have s := ms a ha hag
    have haq : a ≠ q := fun e => by
      have := s.1
      rw [e, hq] at this
      rw [e] at ha
      exact ha this.symm
    exact sm_tr (sm_tr s (sm_N haq)) (sm_R hag)
  · by_cases haq : a = q
    · rw [haq]
      exact mn q hq
    · refine mn a ?_
      rw [← (sm_N (μ := μ1) (kd := (if k0 = 9 then 21 else 20, mln k0)) haq).1]
      exact ha
  · show (sN μ1 q (if k0 = 9 then 21 else 20, mln k0)).2.1 6 c g = _
    rw [(sm_N gq).2.1]
    exact mc c
section ZN
variable {w : Wd} {x : Zc} {cc : ByteArray} {nL pc : Nat} {own : String} {rt : Option FieldType} {rm : Room} {nm : String} {ls : List (Nat × Value)} {st : List Value} {μ μ0 : Mem} {k n : Nat} {Q : State → Prop} {M : Nat → Nat} {g : Nat} {K : Nat → Bool}
theorem z_mkI (C : Cx w x cc nL own rt rm nm) (h : inM μ0 μ g K M) {i : Nat} {z : Int} (k0 : Nat) (hf : zFL own i 6 k0) (hg : zFW 6 k0 (.array .int) true) (d1 : decode cc pc = .ok (.newarray .int, 2)) (d2 : decode cc (pc + 2) = .ok (.putfield i, 3)) (hz : z = ((mln k0 : Nat) : Int)) (h0 : k0 ≠ 0) (h9 : k0 ≠ 9) (hK : K k0 = false) (hfin : nm = "<init>" ∧ zCl[6]?.map (·.1) = some own) (hk : k + 1 ≤ rm.cells) (hn : n + mln k0 ≤ rm.slots) (hr : zR 6 k0 = true) (kk : ∀ μ' M', inM μ0 μ' g (fun k => if k = k0 then true else K k) M' → Z w x Q nL (pc + 2 + 3) ls st μ' (k + 1) (n + mln k0)) : Z w x Q nL pc ls (.int (J z) :: .ref g :: st) μ k n := by
  refine z_newI C (mln k0) d1 hz (by have := mln_le k0; omega) qA_int hk hn (fun q hq hb => ?_)
  have hT : (sN μ q (20, mln k0)).1 g = some (6, 0) := by rw [(sm_N (ne_of_T h.2.1 hq)).1]; exact h.2.1
  have K' := inM_step h hq h0 hK
  rw [if_neg h9] at K'
  exact z_putq (v := some q) C hf hg d2 hT (kk _ _ K') (by rfl) (fun _ => hfin) (by decide) hr
theorem z_mkZ (C : Cx w x cc nL own rt rm nm) (h : inM μ0 μ g K M) {i : Nat} {z : Int} (hf : zFL own i 6 9) (hg : zFW 6 9 (.array .boolean) true) (d1 : decode cc pc = .ok (.newarray .boolean, 2)) (d2 : decode cc (pc + 2) = .ok (.putfield i, 3)) (hz : z = ((mln 9 : Nat) : Int)) (hK : K 9 = false) (hfin : nm = "<init>" ∧ zCl[6]?.map (·.1) = some own) (hk : k + 1 ≤ rm.cells) (hn : n + mln 9 ≤ rm.slots) (kk : ∀ μ' M', inM μ0 μ' g (fun k => if k = 9 then true else K k) M' → Z w x Q nL (pc + 2 + 3) ls st μ' (k + 1) (n + mln 9)) : Z w x Q nL pc ls (.int (J z) :: .ref g :: st) μ k n := by
  refine z_newZ C (mln 9) d1 hz (by decide) qA_boolean hk hn (fun q hq hb => ?_)
  have hT : (sN μ q (21, mln 9)).1 g = some (6, 0) := by rw [(sm_N (ne_of_T h.2.1 hq)).1]; exact h.2.1
  have K' := inM_step (k0 := 9) h hq (by decide) hK
  exact z_putq (v := some q) C hf hg d2 hT (kk _ _ K') (by rfl) (fun _ => hfin) (by decide) rfl
end ZN
theorem c_X6_init (w : Wd) (μ : Mem) (g : Nat) (nb : Nat → Int → Int) (hg : μ.1 g = some (6, 0)) (hz : ∀ c, μ.2.1 6 c g = 0) (hnb : ∀ j t, 0 ≤ t → t < 4 → nb j t = -1) : cM w yX6_init cX6_init 1 none 3 20 6000 [.ref g] μ (fun v μ' => v = none ∧ ∃ M, M 0 = g ∧ Rm μ' M 0 (s0 nb) ∧ (∀ a, μ.1 a ≠ none → a ≠ g → sm μ μ' a) ∧ (∀ k, mA k = true → μ.1 (M k) = none)) (fun _ _ => False) := by
  refine cM_of (fun x C => ?_)
  obtain ⟨P, hP⟩ : ∃ P, P = fun (v : Option Value) (μ' : Mem) => v = none ∧ ∃ M, M 0 = g ∧ Rm μ' M 0 (s0 nb) ∧ (∀ a, μ.1 a ≠ none → a ≠ g → sm μ μ' a) ∧ (∀ k, mA k = true → μ.1 (M k) = none) := ⟨_, rfl⟩
  rw [← hP]
  refine z_aload_n C dX6_init_0 rfl ?_
  refine z_objInit C qM_X6_1 qO_1 qO_2 dX6_init_1 ?_
  have h : inM μ μ g (fun _ => false) (fun _ => g) := ⟨rfl, hg, rfl, fun k hk => (by cases hk), fun k k' hk => (by cases hk), fun a _ _ => sm_rf μ a, fun a ha => ha, fun c => rfl⟩
  refine z_aload_n C dX6_init_4 rfl ?_
  refine z_iconst C dX6_init_5 ?_
  refine z_mkI C h 3 qF_X6_7 qW_6_3 dX6_init_6 dX6_init_8 rfl (by decide) (by decide) rfl ⟨rfl, rfl⟩ (Nat.le_of_ble_eq_true rfl) (Nat.le_of_ble_eq_true rfl) rfl (fun μ' M h => ?_)
  refine z_aload_n C dX6_init_11 rfl ?_
  refine z_bipush C dX6_init_12 ?_
  refine z_mkI C h 4 qF_X6_13 qW_6_4 dX6_init_14 dX6_init_16 rfl (by decide) (by decide) rfl ⟨rfl, rfl⟩ (Nat.le_of_ble_eq_true rfl) (Nat.le_of_ble_eq_true rfl) rfl (fun μ' M h => ?_)
  refine z_aload_n C dX6_init_19 rfl ?_
  refine z_bipush C dX6_init_20 ?_
  refine z_mkI C h 5 qF_X6_16 qW_6_5 dX6_init_22 dX6_init_24 rfl (by decide) (by decide) rfl ⟨rfl, rfl⟩ (Nat.le_of_ble_eq_true rfl) (Nat.le_of_ble_eq_true rfl) rfl (fun μ' M h => ?_)
  refine z_aload_n C dX6_init_27 rfl ?_
  refine z_bipush C dX6_init_28 ?_
  refine z_mkI C h 6 qF_X6_19 qW_6_6 dX6_init_30 dX6_init_32 rfl (by decide) (by decide) rfl ⟨rfl, rfl⟩ (Nat.le_of_ble_eq_true rfl) (Nat.le_of_ble_eq_true rfl) rfl (fun μ' M h => ?_)
  refine z_aload_n C dX6_init_35 rfl ?_
  refine z_bipush C dX6_init_36 ?_
  refine z_mkI C h 7 qF_X6_22 qW_6_7 dX6_init_38 dX6_init_40 rfl (by decide) (by decide) rfl ⟨rfl, rfl⟩ (Nat.le_of_ble_eq_true rfl) (Nat.le_of_ble_eq_true rfl) rfl (fun μ' M h => ?_)
  refine z_aload_n C dX6_init_43 rfl ?_
  refine z_bipush C dX6_init_44 ?_
  refine z_mkI C h 8 qF_X6_25 qW_6_8 dX6_init_46 dX6_init_48 rfl (by decide) (by decide) rfl ⟨rfl, rfl⟩ (Nat.le_of_ble_eq_true rfl) (Nat.le_of_ble_eq_true rfl) rfl (fun μ' M h => ?_)
  refine z_aload_n C dX6_init_51 rfl ?_
  refine z_bipush C dX6_init_52 ?_
  refine z_mkZ C h qF_X6_28 qW_6_9 dX6_init_54 dX6_init_56 rfl rfl ⟨rfl, rfl⟩ (Nat.le_of_ble_eq_true rfl) (Nat.le_of_ble_eq_true rfl) (fun μ' M h => ?_)
  refine z_aload_n C dX6_init_59 rfl ?_
  refine z_bipush C dX6_init_60 ?_
  refine z_mkI C h 10 qF_X6_32 qW_6_10 dX6_init_62 dX6_init_64 rfl (by decide) (by decide) rfl ⟨rfl, rfl⟩ (Nat.le_of_ble_eq_true rfl) (Nat.le_of_ble_eq_true rfl) rfl (fun μ' M h => ?_)
  refine z_aload_n C dX6_init_67 rfl ?_
  refine z_sipush C dX6_init_68 ?_
  refine z_mkI C h 11 qF_X6_35 qW_6_11 dX6_init_71 dX6_init_73 rfl (by decide) (by decide) rfl ⟨rfl, rfl⟩ (Nat.le_of_ble_eq_true rfl) (Nat.le_of_ble_eq_true rfl) rfl (fun μ' M h => ?_)
  refine z_aload_n C dX6_init_76 rfl ?_
  refine z_sipush C dX6_init_77 ?_
  refine z_mkI C h 12 qF_X6_38 qW_6_12 dX6_init_80 dX6_init_82 rfl (by decide) (by decide) rfl ⟨rfl, rfl⟩ (Nat.le_of_ble_eq_true rfl) (Nat.le_of_ble_eq_true rfl) rfl (fun μ' M h => ?_)
  refine z_aload_n C dX6_init_85 rfl ?_
  refine z_sipush C dX6_init_86 ?_
  refine z_mkI C h 13 qF_X6_41 qW_6_13 dX6_init_89 dX6_init_91 rfl (by decide) (by decide) rfl ⟨rfl, rfl⟩ (Nat.le_of_ble_eq_true rfl) (Nat.le_of_ble_eq_true rfl) rfl (fun μ' M h => ?_)
  refine z_aload_n C dX6_init_94 rfl ?_
  refine z_iconst C dX6_init_95 ?_
  refine z_mkI C h 14 qF_X6_44 qW_6_14 dX6_init_96 dX6_init_98 rfl (by decide) (by decide) rfl ⟨rfl, rfl⟩ (Nat.le_of_ble_eq_true rfl) (Nat.le_of_ble_eq_true rfl) rfl (fun μ' M h => ?_)
  refine z_aload_n C dX6_init_101 rfl ?_
  refine z_iconst C dX6_init_102 ?_
  refine z_mkI C h 15 qF_X6_47 qW_6_15 dX6_init_103 dX6_init_105 rfl (by decide) (by decide) rfl ⟨rfl, rfl⟩ (Nat.le_of_ble_eq_true rfl) (Nat.le_of_ble_eq_true rfl) rfl (fun μ' M h => ?_)
  refine z_aload_n C dX6_init_108 rfl ?_
  refine z_bipush C dX6_init_109 ?_
  refine z_mkI C h 16 qF_X6_50 qW_6_16 dX6_init_111 dX6_init_113 rfl (by decide) (by decide) rfl ⟨rfl, rfl⟩ (Nat.le_of_ble_eq_true rfl) (Nat.le_of_ble_eq_true rfl) rfl (fun μ' M h => ?_)
  refine z_aload_n C dX6_init_116 rfl ?_
  refine z_bipush C dX6_init_117 ?_
  refine z_mkI C h 17 qF_X6_53 qW_6_17 dX6_init_119 dX6_init_121 rfl (by decide) (by decide) rfl ⟨rfl, rfl⟩ (Nat.le_of_ble_eq_true rfl) (Nat.le_of_ble_eq_true rfl) rfl (fun μ' M h => ?_)
  refine z_aload_n C dX6_init_124 rfl ?_
  refine z_sipush C dX6_init_125 ?_
  refine z_mkI C h 19 qF_X6_56 qW_6_19 dX6_init_128 dX6_init_130 rfl (by decide) (by decide) rfl ⟨rfl, rfl⟩ (Nat.le_of_ble_eq_true rfl) (Nat.le_of_ble_eq_true rfl) rfl (fun μ' M h => ?_)
  refine z_aload_n C dX6_init_133 rfl ?_
  refine z_sipush C dX6_init_134 ?_
  refine z_mkI C h 20 qF_X6_59 qW_6_20 dX6_init_137 dX6_init_139 rfl (by decide) (by decide) rfl ⟨rfl, rfl⟩ (Nat.le_of_ble_eq_true rfl) (Nat.le_of_ble_eq_true rfl) rfl (fun μ' M h => ?_)
  refine z_aload_n C dX6_init_142 rfl ?_
  refine z_sipush C dX6_init_143 ?_
  refine z_mkI C h 21 qF_X6_62 qW_6_21 dX6_init_146 dX6_init_148 rfl (by decide) (by decide) rfl ⟨rfl, rfl⟩ (Nat.le_of_ble_eq_true rfl) (Nat.le_of_ble_eq_true rfl) rfl (fun μ' M h => ?_)
  refine z_aload_n C dX6_init_151 rfl ?_
  refine z_sipush C dX6_init_152 ?_
  refine z_mkI C h 22 qF_X6_65 qW_6_22 dX6_init_155 dX6_init_157 rfl (by decide) (by decide) rfl ⟨rfl, rfl⟩ (Nat.le_of_ble_eq_true rfl) (Nat.le_of_ble_eq_true rfl) rfl (fun μ' M h => ?_)
  refine z_aload_n C dX6_init_160 rfl ?_
  refine z_bipush C dX6_init_161 ?_
  refine z_mkI C h 23 qF_X6_68 qW_6_23 dX6_init_163 dX6_init_165 rfl (by decide) (by decide) rfl ⟨rfl, rfl⟩ (Nat.le_of_ble_eq_true rfl) (Nat.le_of_ble_eq_true rfl) rfl (fun μ' M h => ?_)
  refine z_aload_n C dX6_init_168 rfl ?_
  refine z_iconst C dX6_init_169 ?_
  refine z_puti C qF_X6_71 qW_6_0 dX6_init_170 h.2.1 ?_
  refine z_vret C dX6_init_173 ?_
  rw [hP]
  obtain ⟨m0, mg, mk0, mk, mi, ms, mn, mc⟩ := h
  have hall : ∀ k, mA k = true → (3 ≤ k ∧ k < 24 ∧ k ≠ 18) := fun k hk => by
    unfold mA at hk
    rw [Bool.and_eq_true, Bool.and_eq_true] at hk
    obtain ⟨⟨a1, a2⟩, a3⟩ := hk
    have b1 := Nat.le_of_ble_eq_true a1
    have b2 : k + 1 ≤ 24 := Nat.le_of_ble_eq_true a2
    exact ⟨b1, by omega, fun e => by rw [e] at a3; exact absurd a3 (by decide)⟩
  have mk2 := fun k (hk : mA k = true) => mk k (by
    have := hall k hk
    rcases (by omega : k = 3 ∨ k = 4 ∨ k = 5 ∨ k = 6 ∨ k = 7 ∨ k = 8 ∨ k = 9 ∨ k = 10 ∨ k = 11 ∨ k = 12 ∨ k = 13 ∨ k = 14 ∨ k = 15 ∨ k = 16 ∨ k = 17 ∨ k = 19 ∨ k = 20 ∨ k = 21 ∨ k = 22 ∨ k = 23) with rfl | rfl | rfl | rfl | rfl | rfl | rfl | rfl | rfl | rfl | rfl | rfl | rfl | rfl | rfl | rfl | rfl | rfl | rfl | rfl <;> rfl)
  have mi2 : ∀ k k', mA k = true → mA k' = true → M k = M k' → k = k' := fun k k' hk hk' he => mi k k' (by
    have := hall k hk
    rcases (by omega : k = 3 ∨ k = 4 ∨ k = 5 ∨ k = 6 ∨ k = 7 ∨ k = 8 ∨ k = 9 ∨ k = 10 ∨ k = 11 ∨ k = 12 ∨ k = 13 ∨ k = 14 ∨ k = 15 ∨ k = 16 ∨ k = 17 ∨ k = 19 ∨ k = 20 ∨ k = 21 ∨ k = 22 ∨ k = 23) with rfl | rfl | rfl | rfl | rfl | rfl | rfl | rfl | rfl | rfl | rfl | rfl | rfl | rfl | rfl | rfl | rfl | rfl | rfl | rfl <;> rfl) (by
    have := hall k' hk'
    rcases (by omega : k' = 3 ∨ k' = 4 ∨ k' = 5 ∨ k' = 6 ∨ k' = 7 ∨ k' = 8 ∨ k' = 9 ∨ k' = 10 ∨ k' = 11 ∨ k' = 12 ∨ k' = 13 ∨ k' = 14 ∨ k' = 15 ∨ k' = 16 ∨ k' = 17 ∨ k' = 19 ∨ k' = 20 ∨ k' = 21 ∨ k' = 22 ∨ k' = 23) with rfl | rfl | rfl | rfl | rfl | rfl | rfl | rfl | rfl | rfl | rfl | rfl | rfl | rfl | rfl | rfl | rfl | rfl | rfl | rfl <;> rfl) he
  refine ⟨rfl, M, m0, ⟨fun _ _ => 0, ⟨⟨by rw [m0]; exact mg, fun k hk => ⟨(mk2 k hk).1, by rw [m0]; exact (mk2 k hk).2.1⟩, mi2⟩, by rw [m0]; exact sI_s, by rw [m0, sI_k 6 g (by decide), mc]; exact hz 1, by rw [m0, sI_k 6 g (by decide), mc]; exact hz 2, by rw [m0, sI_k 6 g (by decide), mc]; exact hz 18, fun k hk => (mk2 k hk).2.2.1⟩, fun j hj => ⟨[], ⟨rfl, Nat.zero_le _, fun i k hk => by simp at hk⟩, List.Perm.nil, fun i k hk => by simp at hk⟩, fun j hj => ⟨[], ⟨rfl, Nat.zero_le _, List.Pairwise.nil, fun i k hk => by simp at hk, fun k hk => absurd rfl hk⟩, rfl⟩, fun j hj => rfl, fun j hj p p0 p4 => by rw [hnb j p p0 p4]; rfl, ⟨fun i x hx => by simp at hx, fun _ _ => rfl⟩, fun _ => Or.inl rfl⟩, fun a ha hag => sm_tr (ms a ha hag) (sm_I hag), fun k hk => (mk2 k hk).2.2.2⟩
