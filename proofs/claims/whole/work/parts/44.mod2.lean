/-! heads, agents, the path's calls, slots -/
def hdB (r p : Int) : Nat → Bool
  | 0 => true
  | n + 1 => hdB r p n && decide (hA r (n : Int) = hA p (n : Int))
theorem c_isHead (w : Wd) (μ : Mem) (r p : Int) (hr : okK r) (hp : okK p) : cM w yX6_isHead cX6_isHead 4 (some .boolean) 4 0 0 [.int (J (k11 r)), .int (J (k11 p))] μ (fun v μ' => v = some (.int (J (zB (hdB r p (ln16 r).toNat)))) ∧ μ' = μ) (fun _ _ => False) := by
  refine cM_of (fun x C => ?_)
  have hln := ln16_in r
  have loop : ∀ (m i : Nat), (i : Int) + (m : Int) = ln16 r → Z w x (zQ w x (fun v μ' => v = some (.int (J (zB (hdB r p (ln16 r).toNat)))) ∧ μ' = μ) (fun _ _ => False) 0 0) 4 4 [(0, .int (J (k11 r))), (1, .int (J (k11 p))), (2, .int (J (zB (hdB r p i)))), (3, .int (J (i : Int)))] [] μ 0 0 := by
    intro m
    induction m with
    | zero =>
      intro i hi
      refine z_iload_n C dX6_isHead_4 rfl ?_
      refine z_iload_n C dX6_isHead_5 rfl ?_
      refine z_callS C (c_length w μ r hr) qM_X6_87 dX6_isHead_6 rfl (fun _ _ h => h.elim) ?_
      rintro v μ2 ⟨rfl, rfl⟩
      refine z_icmp_ge (tgt := 41) C dX6_isHead_9 (by decide) (by omega) (fun g => ?_) (fun g => ?_)
      · refine z_iload_n C dX6_isHead_41 rfl ?_
        exact z_zret C (v := zB (hdB r p i)) dX6_isHead_42 (by cases hdB r p i <;> simp [zB]) ⟨by rw [show (ln16 r).toNat = i by omega], rfl⟩
      · omega
    | succ m ih =>
      intro i hi
      refine z_iload_n C dX6_isHead_4 rfl ?_
      refine z_iload_n C dX6_isHead_5 rfl ?_
      refine z_callS C (c_length w μ r hr) qM_X6_87 dX6_isHead_6 rfl (fun _ _ h => h.elim) ?_
      rintro v μ2 ⟨rfl, rfl⟩
      refine z_icmp_ge (tgt := 41) C dX6_isHead_9 (by decide) (by omega) (fun g => ?_) (fun g => ?_)
      · omega
      · have h1 := hA_in r (i : Int)
        have h2 := hA_in p (i : Int)
        have hz := zB_in (hdB r p i)
        have go : ∀ b : Bool, hdB r p (i + 1) = b → ∀ ls, zsub ls [(0, .int (J (k11 r))), (1, .int (J (k11 p))), (3, .int (J (i : Int)))] → Z w x (zQ w x (fun v μ' => v = some (.int (J (zB (hdB r p (ln16 r).toNat)))) ∧ μ' = μ2) (fun _ _ => False) 0 0) 4 34 ls [.int (J (zB b))] μ2 0 0 := by
          intro b hb ls hls
          subst hb
          refine z_ls _ hls ?_
          refine z_istore_n C dX6_isHead_34 ?_
          refine z_iinc C dX6_isHead_35 rfl ?_
          refine z_goto (tgt := 4) C dX6_isHead_38 (by decide) ?_
          exact z_ls _ (by exact ⟨rfl, rfl, rfl, rfl, trivial⟩) (ih (i + 1) (by omega))
        refine z_iload_n C dX6_isHead_12 rfl ?_
        refine z_if_eq (tgt := 33) C dX6_isHead_13 (by decide) (by omega) (fun g2 => ?_) (fun g2 => ?_)
        · refine z_iconst C dX6_isHead_33 ?_
          exact go false (by rw [hdB, zB_eq.mp g2]; rfl) _ (by exact ⟨rfl, rfl, rfl, trivial⟩)
        · have hb : hdB r p i = true := by cases h : hdB r p i with | true => rfl | false => exact absurd (zB_eq.mpr h) g2
          refine z_iload_n C dX6_isHead_16 rfl ?_
          refine z_iload_n C dX6_isHead_17 rfl ?_
          refine z_callS C (c_digit w μ2 r (i : Int) hr (by omega)) qM_X6_83 dX6_isHead_18 rfl (fun _ _ h => h.elim) ?_
          rintro v μ3 ⟨rfl, rfl⟩
          refine z_iload_n C dX6_isHead_21 rfl ?_
          refine z_iload_n C dX6_isHead_22 rfl ?_
          refine z_callS C (c_digit w μ3 p (i : Int) hp (by omega)) qM_X6_83 dX6_isHead_23 rfl (fun _ _ h => h.elim) ?_
          rintro v μ4 ⟨rfl, rfl⟩
          refine z_icmp_ne (tgt := 33) C dX6_isHead_26 (by decide) (by omega) (fun g3 => ?_) (fun g3 => ?_)
          · refine z_iconst C dX6_isHead_33 ?_
            exact go false (by rw [hdB, decide_eq_false g3, Bool.and_false]) _ (by exact ⟨rfl, rfl, rfl, trivial⟩)
          · refine z_iconst C dX6_isHead_29 ?_
            refine z_goto (tgt := 34) C dX6_isHead_30 (by decide) ?_
            exact go true (by rw [hdB, decide_eq_true g3, hb]; rfl) _ (by exact ⟨rfl, rfl, rfl, trivial⟩)
  refine z_iconst C dX6_isHead_0 ?_
  refine z_istore_n C dX6_isHead_1 ?_
  refine z_iconst C dX6_isHead_2 ?_
  refine z_istore_n C dX6_isHead_3 ?_
  exact z_ls _ (by exact ⟨rfl, rfl, rfl, rfl, trivial⟩) (loop (ln16 r).toNat 0 (by omega))
section MOD
variable {M : Nat → Nat} {t c p n : Int} {A : Nat → Int → Int}
theorem c_thrown (w : Wd) (μ : Mem) (hm : mS μ M t c p n A) : cM w yX6_thrown cX6_thrown 1 (some .int) 1 0 0 [.ref (M 0)] μ (fun v μ' => v = some (.int (J t)) ∧ μ' = μ) (fun _ _ => False) := by
  refine cM_of (fun x C => ?_)
  refine z_aload_n C dX6_thrown_0 rfl ?_
  refine z_mg0 C hm qF_X6_71 dX6_thrown_1 ?_
  exact z_iret C dX6_thrown_4 ⟨rfl, rfl⟩
theorem c_fails (w : Wd) (μ : Mem) (v : Int) (hm : mS μ M t c p n A) : cM w yX6_fails cX6_fails 2 (some .int) 1 0 0 [.ref (M 0), .int (J v)] μ (fun r μ' => r = some (.int (J 0)) ∧ mS μ' M v c p n A ∧ Fm μ μ' M) (fun _ _ => False) := by
  have hF := Fm_rf μ M
  refine cM_of (fun x C => ?_)
  refine z_aload_n C dX6_fails_0 rfl ?_
  refine z_iload_n C dX6_fails_1 rfl ?_
  refine z_mp0 C hm hF qF_X6_71 dX6_fails_2 (fun μ hm hF => ?_)
  refine z_iconst C dX6_fails_5 ?_
  exact z_iret C dX6_fails_6 ⟨rfl, hm, hF⟩
theorem c_isAgent (w : Wd) (μ : Mem) (a : Int) (ha : in32 a) (hm : mS μ M t c p n A) : cM w yX6_isAgent cX6_isAgent 2 (some .boolean) 2 0 0 [.ref (M 0), .int (J a)] μ (fun r μ' => r = some (.int (J (zB (decide (0 ≤ a ∧ a ≤ 3))))) ∧ mS μ' M (if 0 ≤ a ∧ a ≤ 3 then 0 else 1) c p n A ∧ Fm μ μ' M) (fun _ _ => False) := by
  have hF := Fm_rf μ M
  refine cM_of (fun x C => ?_)
  refine z_aload_n C dX6_isAgent_0 rfl ?_
  refine z_iload_n C dX6_isAgent_1 rfl ?_
  refine z_iconst C dX6_isAgent_2 ?_
  refine z_iconst C dX6_isAgent_3 ?_
  refine z_callS C (c_in w μ a 0 3 ha ⟨by decide, by decide⟩ ⟨by decide, by decide⟩) qM_X6_75 dX6_isAgent_4 rfl (fun _ _ h => h.elim) ?_
  rintro v μ2 ⟨rfl, rfl⟩
  by_cases h : 0 ≤ a ∧ a ≤ 3
  · rw [decide_eq_true h, if_pos h, show zB true = 1 from rfl]
    refine z_if_eq (tgt := 14) C dX6_isAgent_7 (by decide) (by omega) (fun g => ?_) (fun g => ?_)
    · exact absurd g (by decide)
    · refine z_iconst C dX6_isAgent_10 ?_
      refine z_goto (tgt := 15) C dX6_isAgent_11 (by decide) ?_
      refine z_mp0 C hm hF qF_X6_71 dX6_isAgent_15 (fun μ hm hF => ?_)
      refine z_aload_n C dX6_isAgent_18 rfl ?_
      refine z_mg0 C hm qF_X6_71 dX6_isAgent_19 ?_
      refine z_if_ne (tgt := 29) C dX6_isAgent_22 (by decide) (by omega) (fun g2 => ?_) (fun g2 => ?_)
      · exact absurd rfl g2
      · refine z_iconst C dX6_isAgent_25 ?_
        refine z_goto (tgt := 30) C dX6_isAgent_26 (by decide) ?_
        exact z_zret C (v := 1) dX6_isAgent_30 (Or.inr rfl) ⟨rfl, hm, hF⟩
  · rw [decide_eq_false h, if_neg h, show zB false = 0 from rfl]
    refine z_if_eq (tgt := 14) C dX6_isAgent_7 (by decide) (by omega) (fun g => ?_) (fun g => ?_)
    · refine z_iconst C dX6_isAgent_14 ?_
      refine z_mp0 C hm hF qF_X6_71 dX6_isAgent_15 (fun μ hm hF => ?_)
      refine z_aload_n C dX6_isAgent_18 rfl ?_
      refine z_mg0 C hm qF_X6_71 dX6_isAgent_19 ?_
      refine z_if_ne (tgt := 29) C dX6_isAgent_22 (by decide) (by omega) (fun g2 => ?_) (fun g2 => ?_)
      · refine z_iconst C dX6_isAgent_29 ?_
        exact z_zret C (v := 0) dX6_isAgent_30 (Or.inl rfl) ⟨rfl, hm, hF⟩
      · exact absurd g2 (by decide)
    · exact absurd rfl g
/-- what the slot of q is, in agent j's row of the list l -/
def slP (l : List Int) (j : Nat) (q z : Int) : Prop := (z = -1 ∧ q ∉ l) ∨ ∃ i : Nat, l[i]? = some q ∧ z = 20 * (j : Int) + (i : Int)
/-- agent j's row: its length and its paths -/
def rwP (A : Nat → Int → Int) (j : Nat) (l : List Int) : Prop := A 3 (j : Int) = (l.length : Int) ∧ l.length ≤ 20 ∧ ∀ (i : Nat) (k : Int), l[i]? = some k → okK k ∧ A 4 (20 * (j : Int) + (i : Int)) = k11 k
theorem c_slot (w : Wd) (μ : Mem) (j : Nat) (l : List Int) (q : Int) (hj : j < 4) (hq : okK q) (hl : rwP A j l) (hm : mS μ M t c (k11 q) n A) : cM w yX6_slot cX6_slot 4 (some .int) 1 0 0 [.ref (M 0), .int (J (j : Int))] μ (fun r μ' => (∃ z, r = some (.int (J z)) ∧ slP l j q z) ∧ μ' = μ) (fun _ _ => False) := by
  obtain ⟨hl1, hl2, hl3⟩ := hl
  have hqi := k11_in hq
  refine cM_of (fun x C => ?_)
  have loop : ∀ (m i : Nat) (z : Int), i + m = l.length → ((z = -1 ∧ q ∉ l.take i) ∨ ∃ i' : Nat, l[i']? = some q ∧ z = 20 * (j : Int) + (i' : Int)) → Z w x (zQ w x (fun r μ' => (∃ z, r = some (.int (J z)) ∧ slP l j q z) ∧ μ' = μ) (fun _ _ => False) 0 0) 4 7 [(0, .ref (M 0)), (1, .int (J (j : Int))), (2, .int (J z)), (3, .int (J (20 * (j : Int) + (i : Int))))] [] μ 0 0 := by
    intro m
    induction m with
    | zero =>
      intro i z hi hz
      refine z_iload_n C dX6_slot_7 rfl ?_
      refine z_bipush C dX6_slot_8 ?_
      refine z_iload_n C dX6_slot_10 rfl ?_
      refine z_imul C dX6_slot_11 ?_
      refine z_aload_n C dX6_slot_12 rfl ?_
      refine z_mgf C hm qF_X6_7 dX6_slot_13 ?_
      refine z_iload_n C dX6_slot_16 rfl ?_
      refine z_mld C hm dX6_slot_17 (by simp only [mln]; omega) ?_
      rw [hl1]
      refine z_iadd C dX6_slot_18 ?_
      refine z_icmp_ge (tgt := 47) C dX6_slot_19 (by decide) (by omega) (fun g => ?_) (fun g => ?_)
      · refine z_iload_n C dX6_slot_47 rfl ?_
        refine z_iret C dX6_slot_48 ⟨⟨z, rfl, ?_⟩, rfl⟩
        rw [List.take_of_length_le (by omega)] at hz
        exact hz
      · omega
    | succ m ih =>
      intro i z hi hz
      obtain ⟨k, hk⟩ : ∃ k, l[i]? = some k := ⟨_, List.getElem?_eq_getElem (by omega)⟩
      obtain ⟨k1, k2⟩ := hl3 i k hk
      have k3 := k11_in k1
      have hsn : l.take (i + 1) = l.take i ++ [k] := by rw [List.take_add_one, hk]; rfl
      refine z_iload_n C dX6_slot_7 rfl ?_
      refine z_bipush C dX6_slot_8 ?_
      refine z_iload_n C dX6_slot_10 rfl ?_
      refine z_imul C dX6_slot_11 ?_
      refine z_aload_n C dX6_slot_12 rfl ?_
      refine z_mgf C hm qF_X6_7 dX6_slot_13 ?_
      refine z_iload_n C dX6_slot_16 rfl ?_
      refine z_mld C hm dX6_slot_17 (by simp only [mln]; omega) ?_
      rw [hl1]
      refine z_iadd C dX6_slot_18 ?_
      refine z_icmp_ge (tgt := 47) C dX6_slot_19 (by decide) (by omega) (fun g => ?_) (fun g => ?_)
      · omega
      · refine z_aload_n C dX6_slot_22 rfl ?_
        refine z_mgf C hm qF_X6_13 dX6_slot_23 ?_
        refine z_iload_n C dX6_slot_26 rfl ?_
        refine z_mld C hm dX6_slot_27 (by simp only [mln]; omega) ?_
        rw [k2]
        refine z_aload_n C dX6_slot_28 rfl ?_
        refine z_mg2 C hm qF_X6_90 dX6_slot_29 ?_
        refine z_icmp_ne (tgt := 39) C dX6_slot_32 (by decide) (by omega) (fun g2 => ?_) (fun g2 => ?_)
        · refine z_iload_n C dX6_slot_39 rfl ?_
          refine z_istore_n C dX6_slot_40 ?_
          refine z_iinc C dX6_slot_41 rfl ?_
          refine z_goto (tgt := 7) C dX6_slot_44 (by decide) ?_
          have K := ih (i + 1) z (by omega) (by
            rcases hz with ⟨h1, h2⟩ | h
            · refine Or.inl ⟨h1, fun hc => ?_⟩
              rw [hsn] at hc
              rcases List.mem_append.mp hc with hc | hc
              · exact h2 hc
              · exact g2 (by rw [List.mem_singleton.mp hc])
            · exact Or.inr h)
          rw [show 20 * (j : Int) + ((i + 1 : Nat) : Int) = 20 * (j : Int) + (i : Int) + 1 by omega] at K
          exact z_ls _ (by exact ⟨rfl, rfl, rfl, rfl, trivial⟩) K
        · refine z_iload_n C dX6_slot_35 rfl ?_
          refine z_goto (tgt := 40) C dX6_slot_36 (by decide) ?_
          refine z_istore_n C dX6_slot_40 ?_
          refine z_iinc C dX6_slot_41 rfl ?_
          refine z_goto (tgt := 7) C dX6_slot_44 (by decide) ?_
          have K := ih (i + 1) (20 * (j : Int) + (i : Int)) (by omega) (Or.inr ⟨i, by rw [hk, (k11_inj k1 hq).mp g2], rfl⟩)
          rw [show 20 * (j : Int) + ((i + 1 : Nat) : Int) = 20 * (j : Int) + (i : Int) + 1 by omega] at K
          exact z_ls _ (by exact ⟨rfl, rfl, rfl, rfl, trivial⟩) K
  refine z_iconst C dX6_slot_0 ?_
  refine z_istore_n C dX6_slot_1 ?_
  refine z_bipush C dX6_slot_2 ?_
  refine z_iload_n C dX6_slot_4 rfl ?_
  refine z_imul C dX6_slot_5 ?_
  refine z_istore_n C dX6_slot_6 ?_
  have K := loop l.length 0 (-1) (by omega) (Or.inl ⟨rfl, by simp⟩)
  rw [show 20 * (j : Int) + ((0 : Nat) : Int) = 20 * (j : Int) by omega] at K
  exact z_ls _ (by exact ⟨rfl, rfl, rfl, rfl, trivial⟩) K
end MOD
